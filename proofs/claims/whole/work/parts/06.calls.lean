/-! ===== 06: calls, the JDK's few, the script ===== -/
def z_rc (g : Gm) (ci : Nat) (as : List AV) : Prop := match as with
  | (.inr (.inr (.inl o))) :: _ => z_o g o ci
  | _ => False
theorem z_rc_r (g : Gm) (ci o : Nat) (t : List AV) : z_rc g ci (zr o :: t) = z_o g o ci := rfl
def pN : Nat → List AV → List AV → (List AV → List AV → Prop) → Prop
  | 0, acc, st, f => f acc st
  | _ + 1, _, [], _ => False
  | n + 1, acc, v :: t, f => pN n (v :: acc) t f
theorem pN_e : ∀ {n : Nat} {acc st : List AV} {f : List AV → List AV → Prop}, pN n acc st f → ∃ as t, st = as.reverse ++ t ∧ as.length = n ∧ f (as ++ acc) t
  | 0, acc, st, f, h => ⟨[], st, rfl, rfl, h⟩
  | _ + 1, _, [], _, h => h.elim
  | n + 1, acc, v :: t, f, h => by
    obtain ⟨as, t2, e1, e2, h2⟩ := pN_e (n := n) (acc := v :: acc) h
    refine ⟨as ++ [v], t2, ?_, ?_, ?_⟩
    · rw [List.reverse_append, e1]; rfl
    · rw [List.length_append, e2]; rfl
    · rw [List.append_assoc]; exact h2
def z_Cu (M : MI) (as : List AV) (g : Gm) (D : Mem) (P : Int → Mem → Prop) : Prop := z_Ct M 0 0 as g D (fun x g' D' => g' = g ∧ P x D')
theorem z_Ct.mono {M : MI} {mc ms : Nat} {as : List AV} {g : Gm} {D : Mem} {P Q : Int → Gm → Mem → Prop} (h : z_Ct M mc ms as g D P) (hPQ : ∀ x g' D', P x g' D' → Q x g' D') : z_Ct M mc ms as g D Q := by
  intro h1 h2 l X b
  have hM := h h1 h2 l X b
  intro p e ha hc hk s m args below hf
  intro r1 r2 r3
  obtain ⟨k, oc, q1, q2, q3, ⟨⟨⟨x, g', D', w1, w2, w3, w4⟩, w5⟩, hL⟩⟩ := hM p e ha hc hk s m args below hf r1 r2 r3
  exact ⟨k, oc, q1, q2, q3, ⟨⟨⟨x, g', D', w1, w2, hPQ _ _ _ w3, w4⟩, w5⟩, hL⟩⟩
theorem z_Cu.mono {M : MI} {as : List AV} {g : Gm} {D : Mem} {P Q : Int → Mem → Prop} (h : z_Cu M as g D P) (hPQ : ∀ x D', P x D' → Q x D') : z_Cu M as g D Q := z_Ct.mono h fun x _ D' q => ⟨q.1, hPQ x D' q.2⟩
/-- room for a call -/
def z_rm (M My : MI) : Prop := mF My + 1 ≤ mF M ∧ 8 + (mN My + 11) + mL My ≤ mL M
def z_np (My : MI) (n : Nat) : Prop := (parseMethodDescriptor (mY My).desc).map (fun d => d.parameters.length) = some n
section Calls
variable {M My : MI} {E : En} {pc : Nat} {K : WP}
theorem z_callW {X : Xe} {p : Program} {l : Launch} {e : Env} {R : Room} {s : State} {m : MethodId} {args : Array Value} {below : List Frame} {meth : Method} {c : Code} {Z : State → Prop} {H : Heap} {locs : List Loc} {cells slots mc ms n0 s0 : Nat} {arr : Array Slot} {st0 rest : List Value} {g : Gm} {D : Mem} {Q' : Int → Gm → Mem → Prop} {a : Array Value}
    (hrun : va_Run p l e R s m args below meth c H locs cells slots mc ms (F0 m pc arr st0) rest (z_Qc My X g mc ms Q' a) (z_A X)) (hrel : z_Rel X g D s H locs) (hc : z_Cn E n0 s0 g cells slots) (hb1 : g.1 + mc ≤ E.1.1) (hb2 : g.2.1 + ms ≤ E.1.2)
    (kk : ∀ (x : Int) (g' : Gm) (D' : Mem) (H1 : Heap) (locs1 : List Loc), z_Rel X g' D' s H1 locs1 → Q' x g' D' → z_rok (mR My) x → z_Cn E n0 s0 g' (cells + mc) (slots + ms) → W p l e R s m args below meth c H1 locs1 (cells + mc) (slots + ms) Z (F0 m (pc + 3) arr ((z_rv (mR My) x).toList ++ rest))) : W p l e R s m args below meth c H locs cells slots Z (F0 m pc arr st0) := by
  intro T hT Xs
  obtain ⟨v, st₀, t, T', L, h0, X', hL, e1, e2, ⟨⟨x, g', D', hv, hok, hQ, h1, h2, hsz, hP, hin⟩, hz, hk⟩, st⟩ := hrun T hT Xs
  cases hv
  rw [h0] at hz hk
  have hS : va_S (z_A X) s.heap T'.heap (locs ++ L) := by
    refine ⟨Nat.le_trans hrel.2.1.1 (by rw [e1]; exact hz), fun q h3 h4 => ?_, fun q hq => ?_⟩
    · rw [e1, hk q (Nat.lt_of_lt_of_le h3 hrel.2.1.1) h4]
      exact hrel.2.1.2.1 q h3 h4
    · rcases List.mem_append.mp hq with h | h
      · exact hrel.2.1.2.2 q h
      · exact hL q h
  have hc1 := hc.1
  have hc2 := hc.2.1
  obtain ⟨t2, a1, b1⟩ := kk x g' D' T'.heap (locs ++ L) ⟨by rw [e1]; exact hP, hS, hin⟩ hQ hok ⟨by omega, by omega, by omega, by omega⟩ T' rfl X'
  exact ⟨t2, st t2 a1, b1⟩
theorem z_CB {R : Room} {s : State} {args : Array Value} {idx mc ms n : Nat} (hts : ∀ w ∈ z_tb, w.before args s = true) (hM : z_MI My) (hl : Cond.methodLink (mY M).cls idx (mY My) ∈ z_tb) (hn : z_np My n) (hrm : z_rm M My) (hroom : mF M ≤ R.frames ∧ mL M ≤ R.locals) : CallB R s args (mY M).cls idx (mY My) (mC My) (mN My) (mR My) (z_wds My) ({ frames := mF My, cells := mc, slots := ms, locals := mL My }) mc ms n :=
  callB_of n hts (z_goodIn hM (ws := []) (fun _ h => by cases h)) rfl rfl rfl (hts _ hM.2.2.1) (hts _ hl) ⟨hM.2.2.2.1, hM.2.2.2.2, hn⟩ ⟨by have := hrm.1; show mF My + 1 ≤ _; omega, by have := hrm.2; show 8 + (mN My + 11) + mL My ≤ _; omega⟩
theorem z_CBN {R : Room} {s : State} {args : Array Value} {idx mc ms n : Nat} {host : String} (hts : ∀ w ∈ z_tb, w.before args s = true) (hM : z_MI My) (hl : va_Nw (.methodLinkNest (mY M).cls idx (mY My) host) s) (hn : z_np My n) (hrm : z_rm M My) (hroom : mF M ≤ R.frames ∧ mL M ≤ R.locals) : va_CN R s args (mY M).cls idx (mY My) host (mC My) (mN My) (mR My) (z_wds My) ({ frames := mF My, cells := mc, slots := ms, locals := mL My }) mc ms n :=
  va_cnB n hts (z_goodIn hM (ws := []) (fun _ h => by cases h)) rfl rfl rfl hl (hts _ hM.2.2.1) ⟨hM.2.2.2.1, hM.2.2.2.2, hn⟩ ⟨by have := hrm.1; show mF My + 1 ≤ _; omega, by have := hrm.2; show 8 + (mN My + 11) + mL My ≤ _; omega⟩
theorem z_pc {X : Xe} {b : Nat} {as : List AV} {g : Gm} {D : Mem} {s U : State} {H : Heap} {locs : List Loc} (hSt : z_St X s) (hsz : H.size = X.2.2.2.1 + g.1) (hrel : z_Rel X g D s H locs) (hU : U.heap = H) (hW : s.WarmedH U.vm) : z_Pc X b as g D (as.map (z_conc X b)).toArray U :=
  ⟨rfl, by rw [hU]; exact hsz, by rw [hU]; exact hrel.1, z_St_to hSt hrel.2.1.2.1 hU hW⟩
theorem z_oks_r {as t : List AV} (h : z_oks (as.reverse ++ t)) : z_oks as ∧ z_oks t := ⟨fun v hv => h v (List.mem_append_left _ (List.mem_reverse.mpr hv)), fun v hv => h v (List.mem_append_right _ hv)⟩
def w_sI (My : MI) (n : Nat) (K : WP) : WP := fun ls st g D => pN n [] st fun as t => cS t ≤ 8 ∧ z_Cu My as g D (fun x D' => K ls (zi x :: t) g D')
theorem S_sI {idx n : Nat} (hd : decode (mC M) pc = .ok (.invokestatic idx, 3)) (hM : z_MI My) (hl : Cond.methodLink (mY M).cls idx (mY My) ∈ z_tb) (hst : Cond.static (mY My) ∈ z_tb) (hn : z_np My n) (hrm : z_rm M My) (hret : ∀ x, z_rv (mR My) x = some (.int (Int32.ofInt x))) (hok : ∀ x, z_rok (mR My) x → zR x) (k : z_Snd M E (pc + 3) K) : z_Snd M E pc (w_sI My n K) := by
  intro ls st g D hw X p l e R s m args below meth c Z b H locs cells slots arr n0 s0 hr hc hrel hlv hol hos
  obtain ⟨as, t, rfl, hlen, hw⟩ := pN_e hw
  rw [List.append_nil] at hw
  obtain ⟨hcs, hct⟩ := hw
  obtain ⟨hoa, hot⟩ := z_oks_r hos
  have hcs2 : 2 * (F0 m pc arr ((as.reverse ++ t).map (z_conc X b))).monitorRoom + ((t.map (z_conc X b)).map fun v => v.category).sum ≤ 8 := by
    rw [cS_e]
    show 2 * 0 + _ ≤ _
    omega
  intro T hT Xs
  have hsz := z_size Xs hT hr.2.2.2.2.2.2.1.1 hc hrel
  refine (?_ : W p l e R s m args below meth c H locs cells slots Z (F0 m pc arr ((as.reverse ++ t).map (z_conc X b)))) T hT Xs
  have hN := hr.2.2.2.2.2.2.1
  have hc1 := hc.1
  have hc2 := hc.2.1
  have hc3 := hc.2.2.1
  have hc4 := hc.2.2.2
  have hrun : va_Run p l e R s m args below meth c H locs cells slots 0 0 (F0 m pc arr ((as.reverse ++ t).map (z_conc X b))) (t.map (z_conc X b)) (z_Qc My X g 0 0 _ _) (z_A X) := va_runS (H := H) (locs := locs) (As := as.map (z_conc X b)) (rest := t.map (z_conc X b)) (g := F0 m pc arr ((as.reverse ++ t).map (z_conc X b))) ⟨hr.1, hr.2.1, hr.2.2.1, hr.2.2.2.1, hr.2.2.2.2.1⟩ (hct hoa hrel.2.2 l X b) (⟨z_CB (M := M) (My := My) (n := n) hr.2.2.2.2.1 hM hl hn hrm hr.2.2.2.2.2.2.2.1, hr.2.2.2.2.1 _ hst⟩) ⟨z_blind, fun U hU hW => z_pc hr.2.2.2.2.2.1 hsz hrel hU hW⟩ rfl (by rw [List.length_map]; exact hlen) hlv.1 (by show (as.reverse ++ t).map (z_conc X b) = _; rw [List.map_append, List.map_reverse]) hcs2 hd ⟨by omega, by omega⟩
  refine z_callW (My := My) (E := E) hrun hrel hc (by omega) (by omega) (fun x g' D' H1 locs1 hrel1 hQ1 hro hcn => ?_)
  obtain ⟨rfl, hP1⟩ := hQ1
  rw [hret x]
  exact k _ _ _ _ hP1 hr hcn hrel1 hlv hol (z_oks_c (hok x hro) hot)
def w_sJ (My : MI) (n : Nat) (K : WP) : WP := fun ls st g D => pN n [] st fun as t => cS t ≤ 8 ∧ z_Cu My as g D (fun x D' => K ls (zl x :: t) g D')
theorem S_sJ {idx n : Nat} (hd : decode (mC M) pc = .ok (.invokestatic idx, 3)) (hM : z_MI My) (hl : Cond.methodLink (mY M).cls idx (mY My) ∈ z_tb) (hst : Cond.static (mY My) ∈ z_tb) (hn : z_np My n) (hrm : z_rm M My) (hret : ∀ x, z_rv (mR My) x = some (.long (Int64.ofInt x))) (hok : ∀ x, z_rok (mR My) x → zR6 x) (k : z_Snd M E (pc + 3) K) : z_Snd M E pc (w_sJ My n K) := by
  intro ls st g D hw X p l e R s m args below meth c Z b H locs cells slots arr n0 s0 hr hc hrel hlv hol hos
  obtain ⟨as, t, rfl, hlen, hw⟩ := pN_e hw
  rw [List.append_nil] at hw
  obtain ⟨hcs, hct⟩ := hw
  obtain ⟨hoa, hot⟩ := z_oks_r hos
  have hcs2 : 2 * (F0 m pc arr ((as.reverse ++ t).map (z_conc X b))).monitorRoom + ((t.map (z_conc X b)).map fun v => v.category).sum ≤ 8 := by
    rw [cS_e]
    show 2 * 0 + _ ≤ _
    omega
  intro T hT Xs
  have hsz := z_size Xs hT hr.2.2.2.2.2.2.1.1 hc hrel
  refine (?_ : W p l e R s m args below meth c H locs cells slots Z (F0 m pc arr ((as.reverse ++ t).map (z_conc X b)))) T hT Xs
  have hN := hr.2.2.2.2.2.2.1
  have hc1 := hc.1
  have hc2 := hc.2.1
  have hc3 := hc.2.2.1
  have hc4 := hc.2.2.2
  have hrun : va_Run p l e R s m args below meth c H locs cells slots 0 0 (F0 m pc arr ((as.reverse ++ t).map (z_conc X b))) (t.map (z_conc X b)) (z_Qc My X g 0 0 _ _) (z_A X) := va_runS (H := H) (locs := locs) (As := as.map (z_conc X b)) (rest := t.map (z_conc X b)) (g := F0 m pc arr ((as.reverse ++ t).map (z_conc X b))) ⟨hr.1, hr.2.1, hr.2.2.1, hr.2.2.2.1, hr.2.2.2.2.1⟩ (hct hoa hrel.2.2 l X b) (⟨z_CB (M := M) (My := My) (n := n) hr.2.2.2.2.1 hM hl hn hrm hr.2.2.2.2.2.2.2.1, hr.2.2.2.2.1 _ hst⟩) ⟨z_blind, fun U hU hW => z_pc hr.2.2.2.2.2.1 hsz hrel hU hW⟩ rfl (by rw [List.length_map]; exact hlen) hlv.1 (by show (as.reverse ++ t).map (z_conc X b) = _; rw [List.map_append, List.map_reverse]) hcs2 hd ⟨by omega, by omega⟩
  refine z_callW (My := My) (E := E) hrun hrel hc (by omega) (by omega) (fun x g' D' H1 locs1 hrel1 hQ1 hro hcn => ?_)
  obtain ⟨rfl, hP1⟩ := hQ1
  rw [hret x]
  exact k _ _ _ _ hP1 hr hcn hrel1 hlv hol (z_oks_c (hok x hro) hot)
def w_sV (My : MI) (n : Nat) (K : WP) : WP := fun ls st g D => pN n [] st fun as t => cS t ≤ 8 ∧ z_Cu My as g D (fun _ D' => K ls (t) g D')
theorem S_sV {idx n : Nat} (hd : decode (mC M) pc = .ok (.invokestatic idx, 3)) (hM : z_MI My) (hl : Cond.methodLink (mY M).cls idx (mY My) ∈ z_tb) (hst : Cond.static (mY My) ∈ z_tb) (hn : z_np My n) (hrm : z_rm M My) (hret : ∀ x, z_rv (mR My) x = none) (k : z_Snd M E (pc + 3) K) : z_Snd M E pc (w_sV My n K) := by
  intro ls st g D hw X p l e R s m args below meth c Z b H locs cells slots arr n0 s0 hr hc hrel hlv hol hos
  obtain ⟨as, t, rfl, hlen, hw⟩ := pN_e hw
  rw [List.append_nil] at hw
  obtain ⟨hcs, hct⟩ := hw
  obtain ⟨hoa, hot⟩ := z_oks_r hos
  have hcs2 : 2 * (F0 m pc arr ((as.reverse ++ t).map (z_conc X b))).monitorRoom + ((t.map (z_conc X b)).map fun v => v.category).sum ≤ 8 := by
    rw [cS_e]
    show 2 * 0 + _ ≤ _
    omega
  intro T hT Xs
  have hsz := z_size Xs hT hr.2.2.2.2.2.2.1.1 hc hrel
  refine (?_ : W p l e R s m args below meth c H locs cells slots Z (F0 m pc arr ((as.reverse ++ t).map (z_conc X b)))) T hT Xs
  have hN := hr.2.2.2.2.2.2.1
  have hc1 := hc.1
  have hc2 := hc.2.1
  have hc3 := hc.2.2.1
  have hc4 := hc.2.2.2
  have hrun : va_Run p l e R s m args below meth c H locs cells slots 0 0 (F0 m pc arr ((as.reverse ++ t).map (z_conc X b))) (t.map (z_conc X b)) (z_Qc My X g 0 0 _ _) (z_A X) := va_runS (H := H) (locs := locs) (As := as.map (z_conc X b)) (rest := t.map (z_conc X b)) (g := F0 m pc arr ((as.reverse ++ t).map (z_conc X b))) ⟨hr.1, hr.2.1, hr.2.2.1, hr.2.2.2.1, hr.2.2.2.2.1⟩ (hct hoa hrel.2.2 l X b) (⟨z_CB (M := M) (My := My) (n := n) hr.2.2.2.2.1 hM hl hn hrm hr.2.2.2.2.2.2.2.1, hr.2.2.2.2.1 _ hst⟩) ⟨z_blind, fun U hU hW => z_pc hr.2.2.2.2.2.1 hsz hrel hU hW⟩ rfl (by rw [List.length_map]; exact hlen) hlv.1 (by show (as.reverse ++ t).map (z_conc X b) = _; rw [List.map_append, List.map_reverse]) hcs2 hd ⟨by omega, by omega⟩
  refine z_callW (My := My) (E := E) hrun hrel hc (by omega) (by omega) (fun x g' D' H1 locs1 hrel1 hQ1 hro hcn => ?_)
  obtain ⟨rfl, hP1⟩ := hQ1
  rw [hret x]
  exact k _ _ _ _ hP1 hr hcn hrel1 hlv hol (hot)
def w_vI (My : MI) (ci n : Nat) (K : WP) : WP := fun ls st g D => pN (n + 1) [] st fun as t => z_rc g ci as ∧ cS t ≤ 8 ∧ z_Cu My as g D (fun x D' => K ls (zi x :: t) g D')
theorem S_vI {ci idx n : Nat} (hd : decode (mC M) pc = .ok (.invokevirtual idx, 3)) (hM : z_MI My) (hl : Cond.methodLink (mY M).cls idx (mY My) ∈ z_tb) (him : Cond.instanceMethod (mY My) ∈ z_tb) (hse : Cond.selects (mY My).cls (mY My) (mY My) ∈ z_tb) (hcl : ∃ (T : u_T) (N : Nat), clsL[ci]? = some ((mY My).cls, T, N)) (hn : z_np My n) (hrm : z_rm M My) (hret : ∀ x, z_rv (mR My) x = some (.int (Int32.ofInt x))) (hok : ∀ x, z_rok (mR My) x → zR x) (k : z_Snd M E (pc + 3) K) : z_Snd M E pc (w_vI My ci n K) := by
  intro ls st g D hw X p l e R s m args below meth c Z b H locs cells slots arr n0 s0 hr hc hrel hlv hol hos
  obtain ⟨as, t, rfl, hlen, hw⟩ := pN_e hw
  rw [List.append_nil] at hw
  obtain ⟨hrc, hcs, hct⟩ := hw
  obtain ⟨hoa, hot⟩ := z_oks_r hos
  have hcs2 : 2 * (F0 m pc arr ((as.reverse ++ t).map (z_conc X b))).monitorRoom + ((t.map (z_conc X b)).map fun v => v.category).sum ≤ 8 := by
    rw [cS_e]
    show 2 * 0 + _ ≤ _
    omega
  intro T hT Xs
  have hsz := z_size Xs hT hr.2.2.2.2.2.2.1.1 hc hrel
  refine (?_ : W p l e R s m args below meth c H locs cells slots Z (F0 m pc arr ((as.reverse ++ t).map (z_conc X b)))) T hT Xs
  have hN := hr.2.2.2.2.2.2.1
  have hc1 := hc.1
  have hc2 := hc.2.1
  have hc3 := hc.2.2.1
  have hc4 := hc.2.2.2
  obtain ⟨o, as2, rfl⟩ : ∃ o as2, as = zr o :: as2 := by
    unfold z_rc at hrc
    split at hrc
    · exact ⟨_, _, rfl⟩
    · exact hrc.elim
  obtain ⟨ho, ks, hks⟩ := hrc
  obtain ⟨T0, N0, hcl⟩ := hcl
  have hrun : va_Run p l e R s m args below meth c H locs cells slots 0 0 (F0 m pc arr (((zr o :: as2).reverse ++ t).map (z_conc X b))) (t.map (z_conc X b)) (z_Qc My X g 0 0 _ _) (z_A X) := va_runV (H := H) (locs := locs) (As := as2.map (z_conc X b)) (b := X.2.2.2.1 + o) (rest := t.map (z_conc X b)) (g := F0 m pc arr (((zr o :: as2).reverse ++ t).map (z_conc X b))) ⟨hr.1, hr.2.1, hr.2.2.1, hr.2.2.2.1, hr.2.2.2.2.1⟩ (hct hoa hrel.2.2 l X b) (⟨z_CB (M := M) (My := My) (n := n) hr.2.2.2.2.1 hM hl hn hrm hr.2.2.2.2.2.2.2.1, hr.2.2.2.2.1 _ him, hr.2.2.2.2.1 _ hse⟩) ⟨z_blind, va_recv hr.2.2.2.2.2.1.1 hrel.1 hcl (z_ws_obj ho hks), fun U hU hW => z_pc (as := zr o :: as2) hr.2.2.2.2.2.1 hsz hrel hU hW⟩ rfl (by rw [List.length_map]; have := hlen; simp at this; exact this) hlv.1 (by show ((zr o :: as2).reverse ++ t).map (z_conc X b) = _; rw [List.map_append, List.reverse_cons, List.map_append, List.map_reverse, List.append_assoc]; rfl) hcs2 hd ⟨by omega, by omega⟩
  refine z_callW (My := My) (E := E) hrun hrel hc (by omega) (by omega) (fun x g' D' H1 locs1 hrel1 hQ1 hro hcn => ?_)
  obtain ⟨rfl, hP1⟩ := hQ1
  rw [hret x]
  exact k _ _ _ _ hP1 hr hcn hrel1 hlv hol (z_oks_c (hok x hro) hot)
def w_vJ (My : MI) (ci n : Nat) (K : WP) : WP := fun ls st g D => pN (n + 1) [] st fun as t => z_rc g ci as ∧ cS t ≤ 8 ∧ z_Cu My as g D (fun x D' => K ls (zl x :: t) g D')
theorem S_vJ {ci idx n : Nat} (hd : decode (mC M) pc = .ok (.invokevirtual idx, 3)) (hM : z_MI My) (hl : Cond.methodLink (mY M).cls idx (mY My) ∈ z_tb) (him : Cond.instanceMethod (mY My) ∈ z_tb) (hse : Cond.selects (mY My).cls (mY My) (mY My) ∈ z_tb) (hcl : ∃ (T : u_T) (N : Nat), clsL[ci]? = some ((mY My).cls, T, N)) (hn : z_np My n) (hrm : z_rm M My) (hret : ∀ x, z_rv (mR My) x = some (.long (Int64.ofInt x))) (hok : ∀ x, z_rok (mR My) x → zR6 x) (k : z_Snd M E (pc + 3) K) : z_Snd M E pc (w_vJ My ci n K) := by
  intro ls st g D hw X p l e R s m args below meth c Z b H locs cells slots arr n0 s0 hr hc hrel hlv hol hos
  obtain ⟨as, t, rfl, hlen, hw⟩ := pN_e hw
  rw [List.append_nil] at hw
  obtain ⟨hrc, hcs, hct⟩ := hw
  obtain ⟨hoa, hot⟩ := z_oks_r hos
  have hcs2 : 2 * (F0 m pc arr ((as.reverse ++ t).map (z_conc X b))).monitorRoom + ((t.map (z_conc X b)).map fun v => v.category).sum ≤ 8 := by
    rw [cS_e]
    show 2 * 0 + _ ≤ _
    omega
  intro T hT Xs
  have hsz := z_size Xs hT hr.2.2.2.2.2.2.1.1 hc hrel
  refine (?_ : W p l e R s m args below meth c H locs cells slots Z (F0 m pc arr ((as.reverse ++ t).map (z_conc X b)))) T hT Xs
  have hN := hr.2.2.2.2.2.2.1
  have hc1 := hc.1
  have hc2 := hc.2.1
  have hc3 := hc.2.2.1
  have hc4 := hc.2.2.2
  obtain ⟨o, as2, rfl⟩ : ∃ o as2, as = zr o :: as2 := by
    unfold z_rc at hrc
    split at hrc
    · exact ⟨_, _, rfl⟩
    · exact hrc.elim
  obtain ⟨ho, ks, hks⟩ := hrc
  obtain ⟨T0, N0, hcl⟩ := hcl
  have hrun : va_Run p l e R s m args below meth c H locs cells slots 0 0 (F0 m pc arr (((zr o :: as2).reverse ++ t).map (z_conc X b))) (t.map (z_conc X b)) (z_Qc My X g 0 0 _ _) (z_A X) := va_runV (H := H) (locs := locs) (As := as2.map (z_conc X b)) (b := X.2.2.2.1 + o) (rest := t.map (z_conc X b)) (g := F0 m pc arr (((zr o :: as2).reverse ++ t).map (z_conc X b))) ⟨hr.1, hr.2.1, hr.2.2.1, hr.2.2.2.1, hr.2.2.2.2.1⟩ (hct hoa hrel.2.2 l X b) (⟨z_CB (M := M) (My := My) (n := n) hr.2.2.2.2.1 hM hl hn hrm hr.2.2.2.2.2.2.2.1, hr.2.2.2.2.1 _ him, hr.2.2.2.2.1 _ hse⟩) ⟨z_blind, va_recv hr.2.2.2.2.2.1.1 hrel.1 hcl (z_ws_obj ho hks), fun U hU hW => z_pc (as := zr o :: as2) hr.2.2.2.2.2.1 hsz hrel hU hW⟩ rfl (by rw [List.length_map]; have := hlen; simp at this; exact this) hlv.1 (by show ((zr o :: as2).reverse ++ t).map (z_conc X b) = _; rw [List.map_append, List.reverse_cons, List.map_append, List.map_reverse, List.append_assoc]; rfl) hcs2 hd ⟨by omega, by omega⟩
  refine z_callW (My := My) (E := E) hrun hrel hc (by omega) (by omega) (fun x g' D' H1 locs1 hrel1 hQ1 hro hcn => ?_)
  obtain ⟨rfl, hP1⟩ := hQ1
  rw [hret x]
  exact k _ _ _ _ hP1 hr hcn hrel1 hlv hol (z_oks_c (hok x hro) hot)
def w_vV (My : MI) (ci n : Nat) (K : WP) : WP := fun ls st g D => pN (n + 1) [] st fun as t => z_rc g ci as ∧ cS t ≤ 8 ∧ z_Cu My as g D (fun _ D' => K ls (t) g D')
theorem S_vV {ci idx n : Nat} (hd : decode (mC M) pc = .ok (.invokevirtual idx, 3)) (hM : z_MI My) (hl : Cond.methodLink (mY M).cls idx (mY My) ∈ z_tb) (him : Cond.instanceMethod (mY My) ∈ z_tb) (hse : Cond.selects (mY My).cls (mY My) (mY My) ∈ z_tb) (hcl : ∃ (T : u_T) (N : Nat), clsL[ci]? = some ((mY My).cls, T, N)) (hn : z_np My n) (hrm : z_rm M My) (hret : ∀ x, z_rv (mR My) x = none) (k : z_Snd M E (pc + 3) K) : z_Snd M E pc (w_vV My ci n K) := by
  intro ls st g D hw X p l e R s m args below meth c Z b H locs cells slots arr n0 s0 hr hc hrel hlv hol hos
  obtain ⟨as, t, rfl, hlen, hw⟩ := pN_e hw
  rw [List.append_nil] at hw
  obtain ⟨hrc, hcs, hct⟩ := hw
  obtain ⟨hoa, hot⟩ := z_oks_r hos
  have hcs2 : 2 * (F0 m pc arr ((as.reverse ++ t).map (z_conc X b))).monitorRoom + ((t.map (z_conc X b)).map fun v => v.category).sum ≤ 8 := by
    rw [cS_e]
    show 2 * 0 + _ ≤ _
    omega
  intro T hT Xs
  have hsz := z_size Xs hT hr.2.2.2.2.2.2.1.1 hc hrel
  refine (?_ : W p l e R s m args below meth c H locs cells slots Z (F0 m pc arr ((as.reverse ++ t).map (z_conc X b)))) T hT Xs
  have hN := hr.2.2.2.2.2.2.1
  have hc1 := hc.1
  have hc2 := hc.2.1
  have hc3 := hc.2.2.1
  have hc4 := hc.2.2.2
  obtain ⟨o, as2, rfl⟩ : ∃ o as2, as = zr o :: as2 := by
    unfold z_rc at hrc
    split at hrc
    · exact ⟨_, _, rfl⟩
    · exact hrc.elim
  obtain ⟨ho, ks, hks⟩ := hrc
  obtain ⟨T0, N0, hcl⟩ := hcl
  have hrun : va_Run p l e R s m args below meth c H locs cells slots 0 0 (F0 m pc arr (((zr o :: as2).reverse ++ t).map (z_conc X b))) (t.map (z_conc X b)) (z_Qc My X g 0 0 _ _) (z_A X) := va_runV (H := H) (locs := locs) (As := as2.map (z_conc X b)) (b := X.2.2.2.1 + o) (rest := t.map (z_conc X b)) (g := F0 m pc arr (((zr o :: as2).reverse ++ t).map (z_conc X b))) ⟨hr.1, hr.2.1, hr.2.2.1, hr.2.2.2.1, hr.2.2.2.2.1⟩ (hct hoa hrel.2.2 l X b) (⟨z_CB (M := M) (My := My) (n := n) hr.2.2.2.2.1 hM hl hn hrm hr.2.2.2.2.2.2.2.1, hr.2.2.2.2.1 _ him, hr.2.2.2.2.1 _ hse⟩) ⟨z_blind, va_recv hr.2.2.2.2.2.1.1 hrel.1 hcl (z_ws_obj ho hks), fun U hU hW => z_pc (as := zr o :: as2) hr.2.2.2.2.2.1 hsz hrel hU hW⟩ rfl (by rw [List.length_map]; have := hlen; simp at this; exact this) hlv.1 (by show ((zr o :: as2).reverse ++ t).map (z_conc X b) = _; rw [List.map_append, List.reverse_cons, List.map_append, List.map_reverse, List.append_assoc]; rfl) hcs2 hd ⟨by omega, by omega⟩
  refine z_callW (My := My) (E := E) hrun hrel hc (by omega) (by omega) (fun x g' D' H1 locs1 hrel1 hQ1 hro hcn => ?_)
  obtain ⟨rfl, hP1⟩ := hQ1
  rw [hret x]
  exact k _ _ _ _ hP1 hr hcn hrel1 hlv hol (hot)
theorem S_nI {idx n : Nat} {host : String} (hd : decode (mC M) pc = .ok (.invokestatic idx, 3)) (hM : z_MI My) (hl : ((mY M).cls, idx, mY My, host) ∈ z_nst) (hst : Cond.static (mY My) ∈ z_tb) (hn : z_np My n) (hrm : z_rm M My) (hret : ∀ x, z_rv (mR My) x = some (.int (Int32.ofInt x))) (hok : ∀ x, z_rok (mR My) x → zR x) (k : z_Snd M E (pc + 3) K) : z_Snd M E pc (w_sI My n K) := by
  intro ls st g D hw X p l e R s m args below meth c Z b H locs cells slots arr n0 s0 hr hc hrel hlv hol hos
  obtain ⟨as, t, rfl, hlen, hw⟩ := pN_e hw
  rw [List.append_nil] at hw
  obtain ⟨hcs, hct⟩ := hw
  obtain ⟨hoa, hot⟩ := z_oks_r hos
  have hcs2 : 2 * (F0 m pc arr ((as.reverse ++ t).map (z_conc X b))).monitorRoom + ((t.map (z_conc X b)).map fun v => v.category).sum ≤ 8 := by
    rw [cS_e]
    show 2 * 0 + _ ≤ _
    omega
  intro T hT Xs
  have hsz := z_size Xs hT hr.2.2.2.2.2.2.1.1 hc hrel
  refine (?_ : W p l e R s m args below meth c H locs cells slots Z (F0 m pc arr ((as.reverse ++ t).map (z_conc X b)))) T hT Xs
  have hN := hr.2.2.2.2.2.2.1
  have hc1 := hc.1
  have hc2 := hc.2.1
  have hc3 := hc.2.2.1
  have hc4 := hc.2.2.2
  have hrun : va_Run p l e R s m args below meth c H locs cells slots 0 0 (F0 m pc arr ((as.reverse ++ t).map (z_conc X b))) (t.map (z_conc X b)) (z_Qc My X g 0 0 _ _) (z_A X) := va_runSN (H := H) (locs := locs) (As := as.map (z_conc X b)) (rest := t.map (z_conc X b)) (g := F0 m pc arr ((as.reverse ++ t).map (z_conc X b))) ⟨hr.1, hr.2.1, hr.2.2.1, hr.2.2.2.1, hr.2.2.2.2.1⟩ (hct hoa hrel.2.2 l X b) (⟨z_CBN (M := M) (My := My) (n := n) (host := host) hr.2.2.2.2.1 hM (hr.2.2.2.2.2.1.2.2.2.2.2 _ hl) hn hrm hr.2.2.2.2.2.2.2.1, hr.2.2.2.2.1 _ hst, trivial⟩) ⟨z_blind, fun U hU hW => z_pc hr.2.2.2.2.2.1 hsz hrel hU hW⟩ rfl (by rw [List.length_map]; exact hlen) hlv.1 (by show (as.reverse ++ t).map (z_conc X b) = _; rw [List.map_append, List.map_reverse]) hcs2 hd ⟨by omega, by omega⟩
  refine z_callW (My := My) (E := E) hrun hrel hc (by omega) (by omega) (fun x g' D' H1 locs1 hrel1 hQ1 hro hcn => ?_)
  obtain ⟨rfl, hP1⟩ := hQ1
  rw [hret x]
  exact k _ _ _ _ hP1 hr hcn hrel1 hlv hol (z_oks_c (hok x hro) hot)
def w_tI (My : MI) (n : Nat) (K : WP) : WP := fun ls st g D => pN (n + 1) [] st fun as t => (∃ i as2, as = zs i :: as2) ∧ cS t ≤ 8 ∧ z_Cu My as g D (fun x D' => K ls (zi x :: t) g D')
theorem S_tI {idx n : Nat} (hd : decode (mC M) pc = .ok (.invokevirtual idx, 3)) (hM : z_MI My) (hl : Cond.methodLink (mY M).cls idx (mY My) ∈ z_tb) (him : Cond.instanceMethod (mY My) ∈ z_tb) (hse : Cond.selects "java/lang/String" (mY My) (mY My) ∈ z_tb) (hn : z_np My n) (hrm : z_rm M My) (hret : ∀ x, z_rv (mR My) x = some (.int (Int32.ofInt x))) (hok : ∀ x, z_rok (mR My) x → zR x) (k : z_Snd M E (pc + 3) K) : z_Snd M E pc (w_tI My n K) := by
  intro ls st g D hw X p l e R s m args below meth c Z b H locs cells slots arr n0 s0 hr hc hrel hlv hol hos
  obtain ⟨as, t, rfl, hlen, hw⟩ := pN_e hw
  rw [List.append_nil] at hw
  obtain ⟨hrc, hcs, hct⟩ := hw
  obtain ⟨hoa, hot⟩ := z_oks_r hos
  have hcs2 : 2 * (F0 m pc arr ((as.reverse ++ t).map (z_conc X b))).monitorRoom + ((t.map (z_conc X b)).map fun v => v.category).sum ≤ 8 := by
    rw [cS_e]
    show 2 * 0 + _ ≤ _
    omega
  intro T hT Xs
  have hsz := z_size Xs hT hr.2.2.2.2.2.2.1.1 hc hrel
  refine (?_ : W p l e R s m args below meth c H locs cells slots Z (F0 m pc arr ((as.reverse ++ t).map (z_conc X b)))) T hT Xs
  have hN := hr.2.2.2.2.2.2.1
  have hc1 := hc.1
  have hc2 := hc.2.1
  have hc3 := hc.2.2.1
  have hc4 := hc.2.2.2
  obtain ⟨i, as2, rfl⟩ := hrc
  have hi : i < 7 := hoa (zs i) List.mem_cons_self
  have hrun : va_Run p l e R s m args below meth c H locs cells slots 0 0 (F0 m pc arr (((zs i :: as2).reverse ++ t).map (z_conc X b))) (t.map (z_conc X b)) (z_Qc My X g 0 0 _ _) (z_A X) := va_runV (C := "java/lang/String") (H := H) (locs := locs) (As := as2.map (z_conc X b)) (b := X.2.2.2.2.1 i) (rest := t.map (z_conc X b)) (g := F0 m pc arr (((zs i :: as2).reverse ++ t).map (z_conc X b))) ⟨hr.1, hr.2.1, hr.2.2.1, hr.2.2.2.1, hr.2.2.2.2.1⟩ (hct hoa hrel.2.2 l X b) (⟨z_CB (M := M) (My := My) (n := n) hr.2.2.2.2.1 hM hl hn hrm hr.2.2.2.2.2.2.2.1, hr.2.2.2.2.1 _ him, hr.2.2.2.2.1 _ hse⟩) ⟨z_blind, vk_recv hr.2.2.2.2.2.1.2.1 hi hrel.2.1, fun U hU hW => z_pc (as := zs i :: as2) hr.2.2.2.2.2.1 hsz hrel hU hW⟩ rfl (by rw [List.length_map]; have := hlen; simp at this; exact this) hlv.1 (by show ((zs i :: as2).reverse ++ t).map (z_conc X b) = _; rw [List.map_append, List.reverse_cons, List.map_append, List.map_reverse, List.append_assoc]; rfl) hcs2 hd ⟨by omega, by omega⟩
  refine z_callW (My := My) (E := E) hrun hrel hc (by omega) (by omega) (fun x g' D' H1 locs1 hrel1 hQ1 hro hcn => ?_)
  obtain ⟨rfl, hP1⟩ := hQ1
  rw [hret x]
  exact k _ _ _ _ hP1 hr hcn hrel1 hlv hol (z_oks_c (hok x hro) hot)
def w_init (E : En) (My : MI) (n : Nat) (K : WP) : WP := fun ls st g D => pN (n + 1) [] st fun as t => (∃ o as2, as = zr o :: as2) ∧ cS t ≤ 8 ∧ ∃ mc ms : Nat, g.1 + mc ≤ E.1.1 ∧ g.2.1 + ms ≤ E.1.2 ∧ z_Ct My mc ms as g D (fun _ g' D' => K ls t g' D')
theorem S_init {idx n : Nat} (hd : decode (mC M) pc = .ok (.invokespecial idx, 3)) (hM : z_MI My) (hl : Cond.methodLink (mY M).cls idx (mY My) ∈ z_tb) (him : Cond.instanceMethod (mY My) ∈ z_tb) (hini : (mY My).name = "<init>") (hn : z_np My n) (hrm : z_rm M My) (hret0 : mR My = none) (k : z_Snd M E (pc + 3) K) : z_Snd M E pc (w_init E My n K) := by
  intro ls st g D hw X p l e R s m args below meth c Z b H locs cells slots arr n0 s0 hr hc hrel hlv hol hos
  obtain ⟨as, t, rfl, hlen, hw⟩ := pN_e hw
  rw [List.append_nil] at hw
  obtain ⟨hrc, hcs, mc, ms, hg1, hg2, hct⟩ := hw
  obtain ⟨hoa, hot⟩ := z_oks_r hos
  have hcs2 : 2 * (F0 m pc arr ((as.reverse ++ t).map (z_conc X b))).monitorRoom + ((t.map (z_conc X b)).map fun v => v.category).sum ≤ 8 := by
    rw [cS_e]
    show 2 * 0 + _ ≤ _
    omega
  intro T hT Xs
  have hsz := z_size Xs hT hr.2.2.2.2.2.2.1.1 hc hrel
  refine (?_ : W p l e R s m args below meth c H locs cells slots Z (F0 m pc arr ((as.reverse ++ t).map (z_conc X b)))) T hT Xs
  have hN := hr.2.2.2.2.2.2.1
  have hc1 := hc.1
  have hc2 := hc.2.1
  have hc3 := hc.2.2.1
  have hc4 := hc.2.2.2
  obtain ⟨o, as2, rfl⟩ := hrc
  have hcb := z_CB (M := M) (My := My) (n := n) hr.2.2.2.2.1 hM hl hn hrm hr.2.2.2.2.2.2.2.1 (mc := mc) (ms := ms) (args := args)
  rw [hret0] at hcb
  have hrun : va_Run p l e R s m args below meth c H locs cells slots mc ms (F0 m pc arr (((zr o :: as2).reverse ++ t).map (z_conc X b))) (t.map (z_conc X b)) (z_Qc My X g mc ms _ _) (z_A X) := va_runI (H := H) (locs := locs) (As := as2.map (z_conc X b)) (b := X.2.2.2.1 + o) (rest := t.map (z_conc X b)) (g := F0 m pc arr (((zr o :: as2).reverse ++ t).map (z_conc X b))) ⟨hr.1, hr.2.1, hr.2.2.1, hr.2.2.2.1, hr.2.2.2.2.1⟩ (hct hoa hrel.2.2 l X b) (⟨hcb, hini, hr.2.2.2.2.1 _ him⟩) ⟨z_blind, fun U hU hW => z_pc (as := zr o :: as2) hr.2.2.2.2.2.1 hsz hrel hU hW⟩ rfl (by rw [List.length_map]; have := hlen; simp at this; exact this) hlv.1 (by show ((zr o :: as2).reverse ++ t).map (z_conc X b) = _; rw [List.map_append, List.reverse_cons, List.map_append, List.map_reverse, List.append_assoc]; rfl) hcs2 hd ⟨by omega, by omega⟩
  refine z_callW (My := My) (E := E) hrun hrel hc (by omega) (by omega) (fun x g' D' H1 locs1 hrel1 hQ1 hro hcn => ?_)
  rw [hret0]
  exact k _ _ _ _ hQ1 hr hcn hrel1 hlv hol hot
theorem S_initN {idx n : Nat} (hd : decode (mC M) pc = .ok (.invokespecial idx, 3)) (hM : z_MI My) {host : String} (hl : ((mY M).cls, idx, mY My, host) ∈ z_nst) (him : Cond.instanceMethod (mY My) ∈ z_tb) (hini : (mY My).name = "<init>") (hn : z_np My n) (hrm : z_rm M My) (hret0 : mR My = none) (k : z_Snd M E (pc + 3) K) : z_Snd M E pc (w_init E My n K) := by
  intro ls st g D hw X p l e R s m args below meth c Z b H locs cells slots arr n0 s0 hr hc hrel hlv hol hos
  obtain ⟨as, t, rfl, hlen, hw⟩ := pN_e hw
  rw [List.append_nil] at hw
  obtain ⟨hrc, hcs, mc, ms, hg1, hg2, hct⟩ := hw
  obtain ⟨hoa, hot⟩ := z_oks_r hos
  have hcs2 : 2 * (F0 m pc arr ((as.reverse ++ t).map (z_conc X b))).monitorRoom + ((t.map (z_conc X b)).map fun v => v.category).sum ≤ 8 := by
    rw [cS_e]
    show 2 * 0 + _ ≤ _
    omega
  intro T hT Xs
  have hsz := z_size Xs hT hr.2.2.2.2.2.2.1.1 hc hrel
  refine (?_ : W p l e R s m args below meth c H locs cells slots Z (F0 m pc arr ((as.reverse ++ t).map (z_conc X b)))) T hT Xs
  have hN := hr.2.2.2.2.2.2.1
  have hc1 := hc.1
  have hc2 := hc.2.1
  have hc3 := hc.2.2.1
  have hc4 := hc.2.2.2
  obtain ⟨o, as2, rfl⟩ := hrc
  have hcb := z_CBN (M := M) (My := My) (n := n) (host := host) hr.2.2.2.2.1 hM (hr.2.2.2.2.2.1.2.2.2.2.2 _ hl) hn hrm hr.2.2.2.2.2.2.2.1 (mc := mc) (ms := ms) (args := args)
  rw [hret0] at hcb
  have hrun : va_Run p l e R s m args below meth c H locs cells slots mc ms (F0 m pc arr (((zr o :: as2).reverse ++ t).map (z_conc X b))) (t.map (z_conc X b)) (z_Qc My X g mc ms _ _) (z_A X) := va_runIN (H := H) (locs := locs) (As := as2.map (z_conc X b)) (b := X.2.2.2.1 + o) (rest := t.map (z_conc X b)) (g := F0 m pc arr (((zr o :: as2).reverse ++ t).map (z_conc X b))) ⟨hr.1, hr.2.1, hr.2.2.1, hr.2.2.2.1, hr.2.2.2.2.1⟩ (hct hoa hrel.2.2 l X b) (⟨hcb, hini, hr.2.2.2.2.1 _ him⟩) ⟨z_blind, fun U hU hW => z_pc (as := zr o :: as2) hr.2.2.2.2.2.1 hsz hrel hU hW⟩ rfl (by rw [List.length_map]; have := hlen; simp at this; exact this) hlv.1 (by show ((zr o :: as2).reverse ++ t).map (z_conc X b) = _; rw [List.map_append, List.reverse_cons, List.map_append, List.map_reverse, List.append_assoc]; rfl) hcs2 hd ⟨by omega, by omega⟩
  refine z_callW (My := My) (E := E) hrun hrel hc (by omega) (by omega) (fun x g' D' H1 locs1 hrel1 hQ1 hro hcn => ?_)
  rw [hret0]
  exact k _ _ _ _ hQ1 hr hcn hrel1 hlv hol hot
-- Math, arraycopy
def w_mmax (K : WP) : WP := fun ls st g D => pI st fun y t => pI t fun x t2 => cS t2 ≤ 8 ∧ K ls (zi (max x y) :: t2) g D
def w_mmin (K : WP) : WP := fun ls st g D => pI st fun y t => pI t fun x t2 => cS t2 ≤ 8 ∧ K ls (zi (min x y) :: t2) g D
def w_mabs (K : WP) : WP := fun ls st g D => pI st fun x t2 => cS t2 ≤ 8 ∧ zR (-x) ∧ K ls (zi (max x (-x)) :: t2) g D
def w_lmax (K : WP) : WP := fun ls st g D => pJ st fun y t => pJ t fun x t2 => cS t2 ≤ 8 ∧ K ls (zl (max x y) :: t2) g D
theorem z_le_rc {X : Xe} {b n0 s0 : Nat} {p : Program} {l : Launch} {e : Env} {R : Room} {s : State} {m : MethodId} {args : Array Value} {below : List Frame} {meth : Method} {c : Code} {Z : State → Prop} {g : Gm} {cells slots : Nat} (hr : z_Run M E X p l e R s m args below meth c Z b n0 s0) (hc : z_Cn E n0 s0 g cells slots) : cells ≤ R.cells ∧ slots ≤ R.slots := by
  have h1 := hr.2.2.2.2.2.2.1
  have h2 := hc.1
  have h3 := hc.2.1
  have h4 := hc.2.2.1
  have h5 := hc.2.2.2
  exact ⟨by omega, by omega⟩
theorem S_mmax {idx : Nat} (hd : decode (mC M) pc = .ok (.invokestatic idx, 3)) (hl : Cond.methodLink (mY M).cls idx Lib.Math.max.name ∈ z_tb) (hs : Cond.static Lib.Math.max.name ∈ z_tb) (hi : Cond.initialized "java/lang/Math" ∈ z_tb) (hcd : Cond.code Lib.Math.max.name Lib.Math.max.code 2 (some .int) ∈ z_tb) (hF : 1 ≤ mF M) (hL : 23 ≤ mL M) (k : z_Snd M E (pc + 3) K) : z_Snd M E pc (w_mmax K) := by
  intro ls st g D hw X p l e R s m args below meth c Z b H locs cells slots arr n0 s0 hr hc hrel hlv hol hos
  obtain ⟨y, t, rfl, hA⟩ := pI_e hw
  obtain ⟨x, t2, rfl, hcs, hB⟩ := pI_e hA
  have hy := z_oks_h hos
  have hx := z_oks_h (z_oks_t hos)
  have hot := z_oks_t (z_oks_t hos)
  have e1 : (if Int32.ofInt x < Int32.ofInt y then Int32.ofInt y else Int32.ofInt x) = Int32.ofInt (max x y) := by
    by_cases q : x < y
    · rw [if_pos ((zR_lt hx hy).mpr q)]; congr 1; omega
    · rw [if_neg (fun w => q ((zR_lt hx hy).mp w))]; congr 1; omega
  have hroom := hr.2.2.2.2.2.2.2.1
  refine va_mmax hr.1 hr.2.1 (by rw [hr.2.2.1]; exact hlv.1.symm) hr.2.2.2.1 (hr.2.2.2.2.1 _ hl) (hr.2.2.2.2.1 _ hs) (hr.2.2.2.2.1 _ hi) (hr.2.2.2.2.1 _ hcd) (by omega) (by rw [cS_e]; omega) (z_le_rc hr hc).1 (z_le_rc hr hc).2 hd ?_
  rw [e1]
  exact k _ _ _ _ hB hr hc hrel hlv hol (z_oks_c (show zR (max x y) by unfold zR; have := hx.1; have := hx.2; have := hy.1; have := hy.2; omega) hot)
theorem S_mmin {idx : Nat} (hd : decode (mC M) pc = .ok (.invokestatic idx, 3)) (hl : Cond.methodLink (mY M).cls idx Lib.Math.min.name ∈ z_tb) (hs : Cond.static Lib.Math.min.name ∈ z_tb) (hi : Cond.initialized "java/lang/Math" ∈ z_tb) (hcd : Cond.code Lib.Math.min.name Lib.Math.min.code 2 (some .int) ∈ z_tb) (hF : 1 ≤ mF M) (hL : 23 ≤ mL M) (k : z_Snd M E (pc + 3) K) : z_Snd M E pc (w_mmin K) := by
  intro ls st g D hw X p l e R s m args below meth c Z b H locs cells slots arr n0 s0 hr hc hrel hlv hol hos
  obtain ⟨y, t, rfl, hA⟩ := pI_e hw
  obtain ⟨x, t2, rfl, hcs, hB⟩ := pI_e hA
  have hy := z_oks_h hos
  have hx := z_oks_h (z_oks_t hos)
  have hot := z_oks_t (z_oks_t hos)
  have e1 : (if Int32.ofInt y < Int32.ofInt x then Int32.ofInt y else Int32.ofInt x) = Int32.ofInt (min x y) := by
    by_cases q : y < x
    · rw [if_pos ((zR_lt hy hx).mpr q)]; congr 1; omega
    · rw [if_neg (fun w => q ((zR_lt hy hx).mp w))]; congr 1; omega
  have hroom := hr.2.2.2.2.2.2.2.1
  refine va_mmin hr.1 hr.2.1 (by rw [hr.2.2.1]; exact hlv.1.symm) hr.2.2.2.1 (hr.2.2.2.2.1 _ hl) (hr.2.2.2.2.1 _ hs) (hr.2.2.2.2.1 _ hi) (hr.2.2.2.2.1 _ hcd) (by omega) (by rw [cS_e]; omega) (z_le_rc hr hc).1 (z_le_rc hr hc).2 hd ?_
  rw [e1]
  exact k _ _ _ _ hB hr hc hrel hlv hol (z_oks_c (show zR (min x y) by unfold zR; have := hx.1; have := hx.2; have := hy.1; have := hy.2; omega) hot)
theorem S_mabs {idx : Nat} (hd : decode (mC M) pc = .ok (.invokestatic idx, 3)) (hl : Cond.methodLink (mY M).cls idx Lib.Math.abs.name ∈ z_tb) (hs : Cond.static Lib.Math.abs.name ∈ z_tb) (hi : Cond.initialized "java/lang/Math" ∈ z_tb) (hcd : Cond.code Lib.Math.abs.name Lib.Math.abs.code 1 (some .int) ∈ z_tb) (hF : 1 ≤ mF M) (hL : 23 ≤ mL M) (k : z_Snd M E (pc + 3) K) : z_Snd M E pc (w_mabs K) := by
  intro ls st g D hw X p l e R s m args below meth c Z b H locs cells slots arr n0 s0 hr hc hrel hlv hol hos
  obtain ⟨x, t2, rfl, hcs, hng, hA⟩ := pI_e hw
  have hx := z_oks_h hos
  have hot := z_oks_t hos
  have e1 : (if 0 ≤ Int32.ofInt x then Int32.ofInt x else 0 - Int32.ofInt x) = Int32.ofInt (max x (-x)) := by
    have e0 : (0 : Int32) ≤ Int32.ofInt x ↔ 0 ≤ x := zR_le zR_0 hx
    by_cases q : 0 ≤ x
    · rw [if_pos (e0.mpr q)]; congr 1; omega
    · rw [if_neg (fun w => q (e0.mp w)), show max x (-x) = 0 - x by omega, Int32.ofInt_sub]; rfl
  have hroom := hr.2.2.2.2.2.2.2.1
  refine va_mabs hr.1 hr.2.1 (by rw [hr.2.2.1]; exact hlv.1.symm) hr.2.2.2.1 (hr.2.2.2.2.1 _ hl) (hr.2.2.2.2.1 _ hs) (hr.2.2.2.2.1 _ hi) (hr.2.2.2.2.1 _ hcd) (by omega) (by rw [cS_e]; omega) (z_le_rc hr hc).1 (z_le_rc hr hc).2 hd ?_
  rw [e1]
  exact k _ _ _ _ hA hr hc hrel hlv hol (z_oks_c (show zR (max x (-x)) by unfold zR; have := hx.1; have := hx.2; have := hng.1; have := hng.2; omega) hot)
theorem S_lmax {idx : Nat} (hd : decode (mC M) pc = .ok (.invokestatic idx, 3)) (hl : Cond.methodLink (mY M).cls idx Lib.MathLoose.max_long.x ∈ z_tb) (hs : Cond.static Lib.MathLoose.max_long.x ∈ z_tb) (hi : Cond.initialized "java/lang/Math" ∈ z_tb) (hcd : Cond.code Lib.MathLoose.max_long.x Lib.MathLoose.max_long.code 4 (some .long) ∈ z_tb) (hF : 1 ≤ mF M) (hL : 23 ≤ mL M) (k : z_Snd M E (pc + 3) K) : z_Snd M E pc (w_lmax K) := by
  intro ls st g D hw X p l e R s m args below meth c Z b H locs cells slots arr n0 s0 hr hc hrel hlv hol hos
  obtain ⟨y, t, rfl, hA⟩ := pJ_e hw
  obtain ⟨x, t2, rfl, hcs, hB⟩ := pJ_e hA
  have hy := z_oks_h hos
  have hx := z_oks_h (z_oks_t hos)
  have hot := z_oks_t (z_oks_t hos)
  have e1 : (if Int64.ofInt y < Int64.ofInt x then Int64.ofInt x else Int64.ofInt y) = Int64.ofInt (max x y) := by
    have e2 : Int64.ofInt y < Int64.ofInt x ↔ y < x := by rw [Int64.lt_iff_toInt_lt, zR6_toInt hx, zR6_toInt hy]
    by_cases q : y < x
    · rw [if_pos (e2.mpr q)]; congr 1; omega
    · rw [if_neg (fun w => q (e2.mp w))]; congr 1; omega
  have hroom := hr.2.2.2.2.2.2.2.1
  refine va_mmax_long hr.1 hr.2.1 (by rw [hr.2.2.1]; exact hlv.1.symm) hr.2.2.2.1 (hr.2.2.2.2.1 _ hl) (hr.2.2.2.2.1 _ hs) (hr.2.2.2.2.1 _ hi) (hr.2.2.2.2.1 _ hcd) (by omega) (by rw [cS_e]; omega) (z_le_rc hr hc).1 (z_le_rc hr hc).2 hd ?_
  rw [e1]
  exact k _ _ _ _ hB hr hc hrel hlv hol (z_oks_c (show zR6 (max x y) by unfold zR6; have := hx.1; have := hx.2; have := hy.1; have := hy.2; omega) hot)
def w_acopy (K : WP) : WP := fun ls st g D => pI st fun n t => pI t fun dp t2 => pA t2 fun dst t3 => pI t3 fun sp t4 => pA t4 fun src t5 => cS t5 ≤ 8 ∧ z_a g src false ∧ z_a g dst false ∧ 0 ≤ n ∧ 0 ≤ sp ∧ 0 ≤ dp ∧ sp + n ≤ zn g src ∧ dp + n ≤ zn g dst ∧ K ls t5 g (zCp D src sp dst dp n)
theorem z_ws_cp {X : Xe} {g : Gm} {D : Mem} {src dst n1 : Nat} {bz : Bool} {sp dp n : Int} (hs : g.2.2 dst = .inr (bz, n1)) (hd : dst < g.1) (h0 : 0 ≤ sp) (h1 : 0 ≤ dp) (h2 : 0 ≤ n) : (z_ws X g D).set dst (X.2.2.2.1 + dst, .inl ((if bz = true then X.2.2.1 else X.2.1), n1, .inl (va_cpy (fun j => Int32.ofInt (D src j)) (fun j => Int32.ofInt (D dst j)) sp.toNat dp.toNat n.toNat))) = z_ws X g (zCp D src sp dst dp n) := by
  apply List.ext_getElem?
  intro i
  rw [List.getElem?_set]
  by_cases hi : i < g.1
  · by_cases ho : dst = i
    · subst ho
      rw [if_pos rfl, z_ws_get hi, if_pos (by simpa [z_ws] using hi), hs]
      congr 2
      show Sum.inl (_, n1, Sum.inl _) = Sum.inl (_, n1, Sum.inl _)
      congr 3
      congr 1
      funext j
      unfold va_cpy zCp
      by_cases hj : dp.toNat ≤ j ∧ j < dp.toNat + n.toNat
      · have e : ((sp.toNat + (j - dp.toNat) : Nat) : Int) = sp + ((j : Int) - dp) := by omega
        rw [if_pos hj, if_pos ⟨rfl, by omega, by omega⟩]
        show Int32.ofInt (D src ((sp.toNat + (j - dp.toNat) : Nat) : Int)) = _
        rw [e]
      · rw [if_neg hj, if_neg (fun w => hj ⟨by omega, by omega⟩)]
    · rw [if_neg ho, z_ws_get hi, z_ws_get hi]
      have : zCp D src sp dst dp n i = D i := by
        funext j
        unfold zCp
        rw [if_neg (fun w => ho w.1.symm)]
      rw [this]
  · have e1 : (z_ws X g D)[i]? = none := by simp [z_ws]; omega
    have e2 : (z_ws X g (zCp D src sp dst dp n))[i]? = none := by simp [z_ws]; omega
    rw [e1, e2]
    split
    · rename_i ho
      subst ho
      rw [if_neg (by simpa [z_ws] using hi)]
    · rfl
theorem z_in_cp {g : Gm} {D : Mem} {src dst n0 n1 : Nat} {sp dp n : Int} (hin : z_in g D) (hs : src < g.1) (hd : dst < g.1) (h1 : g.2.2 src = .inr (false, n0)) (h2 : g.2.2 dst = .inr (false, n1)) (h3 : 0 ≤ sp) (h4 : sp + n ≤ n0) : z_in g (zCp D src sp dst dp n) := by
  intro q hq
  have hD := hin q hq
  by_cases e : q = dst
  · subst e
    rw [h2] at hD ⊢
    intro j hj
    refine ⟨?_, fun w => by cases w⟩
    unfold zCp
    split
    · rename_i hc
      exact z_arr_ok hin hs h1 (by omega) (by omega)
    · exact (hD j hj).1
  · have : zCp D src sp dst dp n q = D q := by
      funext j
      unfold zCp
      rw [if_neg (fun w => e w.1)]
    rw [this]
    exact hD
theorem S_acopy {idx : Nat} (hd : decode (mC M) pc = .ok (.invokestatic idx, 3)) (hl : Cond.methodLink (mY M).cls idx arraycopyName ∈ z_tb) (hnat : Cond.native arraycopyName ∈ z_tb) (hs : Cond.static arraycopyName ∈ z_tb) (hi : Cond.initialized "java/lang/System" ∈ z_tb) (hF : 1 ≤ mF M) (hL : 8 + (nativeFrameWords "java/lang/System" "arraycopy" 5 + 11) ≤ mL M) (k : z_Snd M E (pc + 3) K) : z_Snd M E pc (w_acopy K) := by
  intro ls st g D hw X p l e R s m args below meth c Z b H locs cells slots arr n0 s0 hr hc hrel hlv hol hos
  obtain ⟨n, t, rfl, hA⟩ := pI_e hw
  obtain ⟨dp, t2, rfl, hB⟩ := pI_e hA
  obtain ⟨dst, t3, rfl, hC⟩ := pA_e hB
  obtain ⟨sp, t4, rfl, h5⟩ := pI_e hC
  obtain ⟨src, t5, rfl, hcs, ⟨ha0, m0, hm0, hs0⟩, ⟨ha1, m1, hm1, hs1⟩, hn, hsp, hdp, hb0, hb1, hfin⟩ := pA_e h5
  rw [zn_of hs0] at hb0
  rw [zn_of hs1] at hb1
  have on := z_oks_h hos
  have odp := z_oks_h (z_oks_t hos)
  have osp := z_oks_h (z_oks_t (z_oks_t (z_oks_t hos)))
  have hot := z_oks_t (z_oks_t (z_oks_t (z_oks_t (z_oks_t hos))))
  have hroom := hr.2.2.2.2.2.2.2.1
  have e0 := z_clamp on hn
  have e1 := z_clamp osp hsp
  have e2 := z_clamp odp hdp
  have ng : ∀ {x : Int}, zR x → 0 ≤ x → ¬ Int32.ofInt x < 0 := fun hx h0 q => by
    have := (zR_lt hx zR_0).mp q
    omega
  refine va_copyi (D := X.1) (cl := clsL) (ws := z_ws X g D) (ty := .int) hr.1 hr.2.1 (by rw [hr.2.2.1]; exact hlv.1.symm) hr.2.2.2.1 (hr.2.2.2.2.1 _ hl) (hr.2.2.2.2.1 _ hnat) (hr.2.2.2.2.1 _ hs) (hr.2.2.2.2.1 _ hi) hr.2.2.2.2.2.1.1 hrel.1 z_D hrel.2.1 src dst 0 0 (z_ws_arr ha0 hs0) (z_ws_arr ha1 hs1) rfl rfl rfl (ng osp hsp) (ng odp hdp) (ng on hn) (by rw [e0, e1]; omega) (by rw [e0, e2]; omega) (fun _ _ => rfl) (by omega) (by rw [cS_e]; omega) hd (fun H1 locs1 hP1 hD1 hS1 => ?_)
  rw [e0, e1, e2] at hP1
  have e : (z_ws X g D).set dst (X.2.2.2.1 + dst, .inl ((if false = true then X.2.2.1 else X.2.1), m1, .inl (va_cpy (fun j => Int32.ofInt (D src j)) (fun j => Int32.ofInt (D dst j)) sp.toNat dp.toNat n.toNat))) = z_ws X g (zCp D src sp dst dp n) := z_ws_cp hs1 ha1 hsp hdp hn
  rw [e] at hP1
  exact k _ _ _ _ hfin hr hc ⟨hP1, hS1, z_in_cp hrel.2.2 ha0 ha1 hs0 hs1 hsp hb0⟩ hlv hol hot
-- the script
def w_sld (E : En) (K : WP) : WP := fun ls st g D => pI st fun i t => pM t fun k t2 => k = 2 ∧ 0 ≤ i ∧ i + 1 < E.2.1.1 ∧ K ls (zi (E.2.1.2 i.toNat) :: t2) g D
def w_slen (E : En) (K : WP) : WP := fun ls st g D => pM st fun k t2 => k = 2 ∧ 0 < E.2.1.1 ∧ K ls (zi ((E.2.1.1 - 1 : Nat) : Int) :: t2) g D
theorem S_sld (hd : decode (mC M) pc = .ok (.iaload, 1)) (k : z_Snd M E (pc + 1) K) : z_Snd M E pc (w_sld E K) := by
  intro ls st g D hw X p l e R s m args below meth c Z b H locs cells slots arr n0 s0 hr hc hrel hlv hol hos
  obtain ⟨i, t, rfl, hw⟩ := pI_e hw
  obtain ⟨kk, t2, rfl, rfl, h0, h1, hw⟩ := pM_e hw
  have hi := z_oks_h hos
  rcases hr.2.2.2.2.2.2.2.2.2.1 with q | ⟨hX, hbl, hbN, hsm, hxs⟩
  · omega
  · refine va_sld hr.1 hr.2.1 hX hbl (A := z_A X) (fun q => by have q' : X.2.2.2.1 ≤ b := q; omega) hrel.2.1 (i := Int32.ofInt i) (z_vpin hi h0 (by omega)) hd ?_
    rw [z_clamp hi h0]
    exact k _ _ _ _ hw hr hc hrel hlv hol (z_oks_c (hxs _) (z_oks_t (z_oks_t hos)))
theorem S_slen (hd : decode (mC M) pc = .ok (.arraylength, 1)) (k : z_Snd M E (pc + 1) K) : z_Snd M E pc (w_slen E K) := by
  intro ls st g D hw X p l e R s m args below meth c Z b H locs cells slots arr n0 s0 hr hc hrel hlv hol hos
  obtain ⟨kk, t2, rfl, rfl, h0, hw⟩ := pM_e hw
  rcases hr.2.2.2.2.2.2.2.2.2.1 with q | ⟨hX, hbl, hbN, hsm, hxs⟩
  · omega
  · refine va_slen hr.1 hr.2.1 hX hbl (A := z_A X) (fun q => by have q' : X.2.2.2.1 ≤ b := q; omega) hrel.2.1 hd ?_
    have := k _ _ _ _ hw hr hc hrel hlv hol (z_oks_c (show zR ((E.2.1.1 - 1 : Nat) : Int) from ⟨by omega, by omega⟩) (z_oks_t hos))
    rw [List.map_cons] at this
    have e : z_conc X b (zi ((E.2.1.1 - 1 : Nat) : Int)) = .int (Int32.ofNat (E.2.1.1 - 1)) := by
      show Value.int (Int32.ofInt _) = _
      rw [Int32.ofInt_eq_ofNat]
    rw [e] at this
    first
      | exact this
      | (rw [show nI (E.2.1.1 - 1) = Int32.ofNat (E.2.1.1 - 1) from rfl]; exact this)
-- texts
def w_sval (K : WP) : WP := fun ls st g D => pS st fun i t => K ls (zm (4 + i) :: t) g D
def w_scod (K : WP) : WP := fun ls st g D => pS st fun _ t => K ls (zi 0 :: t) g D
def w_blen (K : WP) : WP := fun ls st g D => pM st fun k t => 4 ≤ k ∧ k < 11 ∧ K ls (zi ((zsl.getD (k - 4) 0 : Nat) : Int) :: t) g D
def w_bld (K : WP) : WP := fun ls st g D => pI st fun j t => pM t fun k t2 => 4 ≤ k ∧ k < 11 ∧ 0 ≤ j ∧ j < ((zsl.getD (k - 4) 0 : Nat) : Int) ∧ K ls (zi ((zsb.getD (k - 4) []).getD j.toNat 0).toInt :: t2) g D
def w_gs1 (K : WP) : WP := fun ls st g D => K ls (zi 1 :: st) g D
def w_gsf (K : WP) : WP := fun ls st g D => K ls (zm 11 :: st) g D
def w_i2c (K : WP) : WP := fun ls st g D => pI st fun x t => 0 ≤ x ∧ x < 256 ∧ K ls (zi x :: t) g D
def w_nret (ty : FieldType) (E : En) : WP := fun _ st g D => pI st fun x t => t = [] ∧ g.1 = E.1.1 ∧ g.2.1 = E.1.2 ∧ narrow ty (.int (Int32.ofInt x)) = .int (Int32.ofInt x) ∧ E.2.2 x g D
def w_no : WP := fun _ _ _ _ => False
theorem S_no : z_Snd M E pc w_no := fun _ _ _ _ h => h.elim
theorem z_c4 {X : Xe} {b i : Nat} (hi : i < 7) : z_conc X b (zm (4 + i)) = .ref (X.2.2.2.2.2 i) := by
  show (if 4 + i = 2 then Value.ref b else if 4 + i = 11 then z_fmt X else if 4 ≤ 4 + i then .ref (X.2.2.2.2.2 (4 + i - 4)) else .null) = _
  rw [if_neg (by omega), if_neg (by omega), if_pos (by omega), Nat.add_sub_cancel_left]
theorem S_sval {idx : Nat} (hd : decode (mC M) pc = .ok (.getfield idx, 3)) (hl : Cond.fieldLink (mY M).cls idx "java/lang/String" "value" "[B" ∈ z_tb) (k : z_Snd M E (pc + 3) K) : z_Snd M E pc (w_sval K) := by
  intro ls st g D hw X p l e R s m args below meth c Z b H locs cells slots arr n0 s0 hr hc hrel hlv hol hos
  obtain ⟨i, t, rfl, hw⟩ := pS_e hw
  have hi : i < 7 := z_oks_h hos
  refine vk_getf hr.1 hr.2.1 (hr.2.2.2.2.2.1.2.1.1 i hi).2.2.1 hrel.2.1 hr.2.2.2.1 (hr.2.2.2.2.1 _ hl) (fun _ q => q) hd ?_
  have h9 := k _ _ _ _ hw hr hc hrel hlv hol (z_oks_c trivial (z_oks_t hos))
  rw [List.map_cons, z_c4 hi] at h9
  exact h9
theorem S_scod {idx : Nat} (hd : decode (mC M) pc = .ok (.getfield idx, 3)) (hl : Cond.fieldLink (mY M).cls idx "java/lang/String" "coder" "B" ∈ z_tb) (k : z_Snd M E (pc + 3) K) : z_Snd M E pc (w_scod K) := by
  intro ls st g D hw X p l e R s m args below meth c Z b H locs cells slots arr n0 s0 hr hc hrel hlv hol hos
  obtain ⟨i, t, rfl, hw⟩ := pS_e hw
  have hi : i < 7 := z_oks_h hos
  refine vk_getf hr.1 hr.2.1 (hr.2.2.2.2.2.1.2.1.1 i hi).2.1 hrel.2.1 hr.2.2.2.1 (hr.2.2.2.2.1 _ hl) (fun _ q => q) hd ?_
  exact k _ _ _ _ hw hr hc hrel hlv hol (z_oks_c zR_0 (z_oks_t hos))
theorem S_blen (hd : decode (mC M) pc = .ok (.arraylength, 1)) (k : z_Snd M E (pc + 1) K) : z_Snd M E pc (w_blen K) := by
  intro ls st g D hw X p l e R s m args below meth c Z b H locs cells slots arr n0 s0 hr hc hrel hlv hol hos
  obtain ⟨q, t, rfl, h0, h1, hw⟩ := pM_e hw
  obtain ⟨i, rfl⟩ : ∃ i, q = 4 + i := ⟨q - 4, by omega⟩
  have hi : i < 7 := by omega
  rw [Nat.add_sub_cancel_left] at hw
  rw [List.map_cons, z_c4 hi]
  have hz : zsl.getD i 0 < 100 := (by decide : ∀ i, i < 7 → zsl.getD i 0 < 100) i hi
  refine va_tlen hr.1 hr.2.1 (hr.2.2.2.2.2.1.2.1.1 i hi).2.2.2 hrel.2.1 (v := Int32.ofInt ((zsl.getD i 0 : Nat) : Int)) Int32.ofInt_eq_ofNat.symm hd ?_
  exact k _ _ _ _ hw hr hc hrel hlv hol (z_oks_c (show zR ((zsl.getD i 0 : Nat) : Int) from ⟨by omega, by omega⟩) (z_oks_t hos))
theorem S_bld (hd : decode (mC M) pc = .ok (.baload, 1)) (k : z_Snd M E (pc + 1) K) : z_Snd M E pc (w_bld K) := by
  intro ls st g D hw X p l e R s m args below meth c Z b H locs cells slots arr n0 s0 hr hc hrel hlv hol hos
  obtain ⟨j, t, rfl, hw⟩ := pI_e hw
  obtain ⟨q, t2, rfl, h0, h1, h2, h3, hw⟩ := pM_e hw
  obtain ⟨i, rfl⟩ : ∃ i, q = 4 + i := ⟨q - 4, by omega⟩
  have hi : i < 7 := by omega
  rw [Nat.add_sub_cancel_left] at hw h3
  have hj := z_oks_h hos
  rw [List.map_cons, List.map_cons, z_c4 hi]
  refine va_tb hr.1 hr.2.1 (hr.2.2.2.2.2.1.2.1.1 i hi).2.2.2 hrel.2.1 (i := Int32.ofInt j) (z_vpin hj h2 h3) (v := .int ((zsb.getD i []).getD j.toNat 0)) (by rw [z_clamp hj h2]) hd ?_
  have h9 := k _ _ _ _ hw hr hc hrel hlv hol (z_oks_c (z_toR _) (z_oks_t (z_oks_t hos)))
  rw [List.map_cons] at h9
  have e : z_conc X b (zi ((zsb.getD i []).getD j.toNat 0).toInt) = .int ((zsb.getD i []).getD j.toNat 0) := by
    show Value.int (Int32.ofInt _) = _
    rw [Int32.ofInt_toInt]
  rw [e] at h9
  exact h9
theorem S_gs1 {idx : Nat} (hd : decode (mC M) pc = .ok (.getstatic idx, 3)) (hl : Cond.fieldLink (mY M).cls idx "java/lang/String" "COMPACT_STRINGS" "Z" ∈ z_tb) (k : z_Snd M E (pc + 3) K) : z_Snd M E pc (w_gs1 K) := by
  intro ls st g D hw X p l e R s m args below meth c Z b H locs cells slots arr n0 s0 hr hc hrel hlv hol hos
  refine va_gets hr.1 hr.2.1 hr.2.2.2.2.2.1.2.2.2.1 hrel.2.1 hr.2.2.2.1 (hr.2.2.2.2.1 _ hl) (fun _ q => q) hd ?_
  exact k _ _ _ _ hw hr hc hrel hlv hol (z_oks_c zR_1 hos)
theorem S_gsf {idx : Nat} (hd : decode (mC M) pc = .ok (.getstatic idx, 3)) (hl : Cond.fieldLink (mY M).cls idx "jdk/internal/util/Preconditions" "SIOOBE_FORMATTER" "Ljava/util/function/BiFunction;" ∈ z_tb) (k : z_Snd M E (pc + 3) K) : z_Snd M E pc (w_gsf K) := by
  intro ls st g D hw X p l e R s m args below meth c Z b H locs cells slots arr n0 s0 hr hc hrel hlv hol hos
  refine va_gets hr.1 hr.2.1 hr.2.2.2.2.2.1.2.2.2.2.1 hrel.2.1 hr.2.2.2.1 (hr.2.2.2.2.1 _ hl) (fun _ q => q) hd ?_
  exact k _ _ _ _ hw hr hc hrel hlv hol (z_oks_c trivial hos)
theorem z_i2c : ∀ n : Nat, n < 256 → ((Int32.ofInt (n : Int)).toUInt32 % 65536).toInt32 = Int32.ofInt (n : Int) := by decide +kernel
theorem S_i2c (hd : decode (mC M) pc = .ok (.i2c, 1)) (k : z_Snd M E (pc + 1) K) : z_Snd M E pc (w_i2c K) := by
  intro ls st g D hw X p l e R s m args below meth c Z b H locs cells slots arr n0 s0 hr hc hrel hlv hol hos
  obtain ⟨x, t, rfl, h0, h1, hw⟩ := pI_e hw
  have e := z_i2c x.toNat (by omega)
  rw [Int.toNat_of_nonneg h0] at e
  refine lv_i2c hr.1 hr.2.1 hd e ?_
  exact k _ _ _ _ hw hr hc hrel hlv hol hos
theorem S_nret {ty : FieldType} (hd : decode (mC M) pc = .ok (.ireturn, 1)) (ht : mR M = some ty) (hty : ty = .byte ∨ ty = .char) : z_Snd M E pc (w_nret ty E) := by
  intro ls st g D hw X p l e R s m args below meth c Z b H locs cells slots arr n0 s0 hr hc hrel hlv hol hos
  obtain ⟨x, t, rfl, rfl, h1, h2, h0, hw⟩ := pI_e hw
  have h9 := z_fin (x := x) (pc := pc) (arr := arr) hr hc hrel h1 h2 (by rw [ht]; rcases hty with rfl | rfl <;> exact ⟨z_oks_h hos, h0⟩) hw (by rw [ht]; rcases hty with rfl | rfl <;> exact hd)
  rw [ht] at h9
  rcases hty with rfl | rfl <;> exact h9
end Calls
