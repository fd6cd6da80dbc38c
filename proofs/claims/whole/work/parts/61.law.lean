/-! ===== 61: what stays well-formed; the law's loop (laid by program) ===== -/
def WT (n : Int) (s : Mem) : Prop := ((0 ≤ s 4 0 ∧ s 4 0 ≤ 150) ∧ ∀ j, 0 ≤ j → j < s 4 0 → 0 ≤ s 3 j ∧ s 3 j ≤ 127) ∧ (z01 (s 4 1) ∧ z01 (s 4 2)) ∧ ((0 ≤ s 4 3 ∧ s 4 3 ≤ n) ∧ (0 ≤ s 4 4 ∧ s 4 4 ≤ n) ∧ (0 ≤ s 4 5 ∧ s 4 5 ≤ n))
theorem WS.t {n : Int} {s : Mem} (h : WS n s) : WT n s := h.2
theorem CS.ws {n : Int} {D s : Mem} (h : CS D s) (ht : WT n s) : WS n s := ⟨⟨h.1.1.2.2.1, h.1.2.2.1.2.2.1, h.1.2.2.2.2.2.1⟩, ht⟩
theorem wt_up {n : Int} {s : Mem} (h : WT n s) : WT (n + 1) s := by
  obtain ⟨h2, h3, h4, h5, h6⟩ := h
  exact ⟨h2, h3, by omega, by omega, by omega⟩
theorem wt_u {n : Int} {s : Mem} {i : Nat} {f : Int → Int} (h3 : i ≠ 3) (h4 : i ≠ 4) (h : WT n s) : WT n (sU s i f) := by
  unfold WT
  rw [sU_n (Ne.symm h3), sU_n (Ne.symm h4)]
  exact h
theorem wt_rf {n : Int} {s : Mem} {k : Int} (h : WS n s) (hk : k = 3 ∨ k = 4 ∨ k = 5) : WT (n + 1) (sRf s k) := (h.rf hk).2
theorem wt_if {n : Int} {p : Prop} {x y : Int × Mem} (hx : p → WT n x.2) (hy : ¬ p → WT n y.2) : WT n (cIf p x y).2 := by
  unfold cIf
  split
  · exact hx ‹_›
  · exact hy ‹_›
theorem wt_4 {n : Int} {s : Mem} {f : Int → Int} (h : WT n s) (h0 : 0 ≤ f 0 ∧ f 0 ≤ s 4 0) (h1 : z01 (f 1)) (h2 : z01 (f 2)) (h3 : f 3 = s 4 3) (h4 : f 4 = s 4 4) (h5 : f 5 = s 4 5) : WT (n + 1) (sU s 4 f) := by
  obtain ⟨⟨a1, a2⟩, a3, a4, a5, a6⟩ := h
  unfold WT
  rw [sU_s, sU_n (by decide), h3, h4, h5]
  exact ⟨⟨by omega, fun j j0 j1 => a2 j j0 (by omega)⟩, ⟨h1, h2⟩, by omega, by omega, by omega⟩
theorem wt_back_ {n : Int} {s : Mem} (h : WS n s) : WT (n + 1) (r_back s).2 := by
  unfold r_back
  repeat' (first | exact wt_up h.t | exact wt_rf h (by decide) | exact wt_u (by decide) (by decide) (wt_up h.t) | (refine wt_if (fun _ => ?_) (fun _ => ?_)))
theorem wt_ladder_ {n x1 : Int} {s : Mem} (h : WS n s) : WT (n + 1) (r_ladder s x1).2 := by
  unfold r_ladder
  repeat' (first | exact wt_up h.t | exact wt_rf h (by decide) | exact wt_u (by decide) (by decide) (wt_up h.t) | (refine wt_if (fun _ => ?_) (fun _ => ?_)))
theorem wt_goer_ {n x1 x2 x3 : Int} {s : Mem} (h : WS n s) : WT (n + 1) (r_goer s x1 x2 x3).2 := by
  unfold r_goer
  repeat' (first | exact wt_up h.t | exact wt_rf h (by decide) | exact wt_u (by decide) (by decide) (wt_up h.t) | (refine wt_if (fun _ => ?_) (fun _ => ?_)))
theorem wt_window_ {n x1 x2 : Int} {s : Mem} (h : WS n s) : WT (n + 1) (r_window s x1 x2).2 := by
  unfold r_window
  repeat' (first | exact wt_up h.t | exact wt_rf h (by decide) | exact wt_u (by decide) (by decide) (wt_up h.t) | (refine wt_if (fun _ => ?_) (fun _ => ?_)))
theorem wt_type_ {n x1 : Int} {s : Mem} (h : WS n s) : WT (n + 1) (r_type s x1).2 := by
  unfold r_type
  refine wt_if (fun hc => wt_if (fun _ => wt_rf h (by omega)) (fun hf => ?_)) (fun _ => wt_rf h (by omega))
  obtain ⟨⟨a1, a2⟩, ⟨a3, b3⟩, a4, a5, a6⟩ := h.t
  show WT (n + 1) (sU (sU s 3 (zA (s 3) (s 4 0) x1)) 4 (zA (s 4) 0 (s 4 0 + 1)))
  unfold WT
  rw [sU_s, sU_n (by decide), sU_s, zA_s, zA_n (by decide), zA_n (by decide), zA_n (by decide), zA_n (by decide), zA_n (by decide)]
  refine ⟨⟨by omega, fun j j0 j1 => ?_⟩, ⟨a3, b3⟩, by omega, by omega, by omega⟩
  by_cases e : j = s 4 0
  · rw [e, zA_s]
    exact hc
  · rw [zA_n e]
    exact a2 j j0 (by omega)
theorem wt_clear_ {n : Int} {s : Mem} (h : WS n s) : WT (n + 1) (r_clear s).2 := by
  have a := h.t
  refine wt_4 a ?_ ?_ ?_ ?_ ?_ ?_
  · rw [zA_s]
    exact ⟨by omega, a.1.1.1⟩
  · rw [zA_n (by decide)]
    exact a.2.1.1
  · rw [zA_n (by decide)]
    exact a.2.1.2
  all_goals rw [zA_n (by decide)]
theorem wt_read_ {n : Int} {s : Mem} (h : WS n s) : WT (n + 1) (r_read s).2 := by
  unfold r_read
  repeat' (first | exact wt_up h.t | exact wt_rf h (by decide) | exact wt_u (by decide) (by decide) (wt_up h.t) | (refine wt_if (fun _ => ?_) (fun _ => ?_)))
theorem wt_minutes_ {n x1 : Int} {s : Mem} (h : WS n s) : WT (n + 1) (r_minutes s x1).2 := by
  unfold r_minutes
  repeat' (first | exact wt_up h.t | exact wt_rf h (by decide) | exact wt_u (by decide) (by decide) (wt_up h.t) | (refine wt_if (fun _ => ?_) (fun _ => ?_)))
theorem wt_turns_ {n x1 : Int} {s : Mem} (h : WS n s) : WT (n + 1) (r_turns s x1).2 := by
  unfold r_turns
  repeat' (first | exact wt_up h.t | exact wt_rf h (by decide) | exact wt_u (by decide) (by decide) (wt_up h.t) | (refine wt_if (fun _ => ?_) (fun _ => ?_)))
theorem wt_draws_ {n x1 : Int} {s : Mem} (h : WS n s) : WT (n + 1) (r_draws s x1).2 := by
  unfold r_draws
  repeat' (first | exact wt_up h.t | exact wt_rf h (by decide) | exact wt_u (by decide) (by decide) (wt_up h.t) | (refine wt_if (fun _ => ?_) (fun _ => ?_)))
theorem wt_undo_ {n : Int} {s : Mem} (h : WS n s) : WT (n + 1) (r_undo s).2 := by
  unfold r_undo
  repeat' (first | exact wt_up h.t | exact wt_rf h (by decide) | exact wt_u (by decide) (by decide) (wt_up h.t) | (refine wt_if (fun _ => ?_) (fun _ => ?_)))
theorem wt_of_ {n x1 x2 : Int} {s : Mem} (h : WS n s) : WT (n + 1) (r_of s x1 x2).2 := by
  unfold r_of
  repeat' (first | exact wt_up h.t | exact wt_rf h (by decide) | exact wt_u (by decide) (by decide) (wt_up h.t) | (refine wt_if (fun _ => ?_) (fun _ => ?_)))
theorem wt_about_ {n x1 x2 : Int} {s : Mem} (h : WS n s) : WT (n + 1) (r_about s x1 x2).2 := by
  unfold r_about
  repeat' (first | exact wt_up h.t | exact wt_rf h (by decide) | exact wt_u (by decide) (by decide) (wt_up h.t) | (refine wt_if (fun _ => ?_) (fun _ => ?_)))
theorem wt_rungs_ {n x1 x2 : Int} {s : Mem} (h : WS n s) : WT (n + 1) (r_rungs s x1 x2).2 := by
  unfold r_rungs
  repeat' (first | exact wt_up h.t | exact wt_rf h (by decide) | exact wt_u (by decide) (by decide) (wt_up h.t) | (refine wt_if (fun _ => ?_) (fun _ => ?_)))
theorem wt_far_ {n x1 x2 : Int} {s : Mem} (h : WS n s) : WT (n + 1) (r_far s x1 x2).2 := by
  unfold r_far
  repeat' (first | exact wt_up h.t | exact wt_rf h (by decide) | exact wt_u (by decide) (by decide) (wt_up h.t) | (refine wt_if (fun _ => ?_) (fun _ => ?_)))
theorem wt_where_ {n x1 x2 : Int} {s : Mem} (h : WS n s) : WT (n + 1) (r_where s x1 x2).2 := by
  unfold r_where
  repeat' (first | exact wt_up h.t | exact wt_rf h (by decide) | exact wt_u (by decide) (by decide) (wt_up h.t) | (refine wt_if (fun _ => ?_) (fun _ => ?_)))
theorem wt_meet_ {n x1 x2 : Int} {s : Mem} (h : WS n s) : WT (n + 1) (r_meet s x1 x2).2 := by
  unfold r_meet
  repeat' (first | exact wt_up h.t | exact wt_rf h (by decide) | exact wt_u (by decide) (by decide) (wt_up h.t) | (refine wt_if (fun _ => ?_) (fun _ => ?_)))
theorem wt_waits_ {n x1 x2 x3 : Int} {s : Mem} (h : WS n s) : WT (n + 1) (r_waits s x1 x2 x3).2 := by
  unfold r_waits
  repeat' (first | exact wt_up h.t | exact wt_rf h (by decide) | exact wt_u (by decide) (by decide) (wt_up h.t) | (refine wt_if (fun _ => ?_) (fun _ => ?_)))
theorem wt_down_ {n x1 : Int} {s : Mem} (h : WS n s) : WT (n + 1) (r_down s x1).2 := by
  unfold r_down
  repeat' (first | exact wt_up h.t | exact wt_rf h (by decide) | exact wt_u (by decide) (by decide) (wt_up h.t) | (refine wt_if (fun _ => ?_) (fun _ => ?_)))
theorem wt_cut_ {n x1 : Int} {s : Mem} (h : WS n s) : WT (n + 1) (r_cut s x1).2 := by
  unfold r_cut
  repeat' (first | exact wt_up h.t | exact wt_rf h (by decide) | exact wt_u (by decide) (by decide) (wt_up h.t) | (refine wt_if (fun _ => ?_) (fun _ => ?_)))
theorem wt_doors_ {n x1 : Int} {s : Mem} (h : WS n s) : WT (n + 1) (r_doors s x1).2 := by
  unfold r_doors
  repeat' (first | exact wt_up h.t | exact wt_rf h (by decide) | exact wt_u (by decide) (by decide) (wt_up h.t) | (refine wt_if (fun _ => ?_) (fun _ => ?_)))
theorem wt_sound_ {n x1 x2 x3 : Int} {s : Mem} (h : WS n s) : WT (n + 1) (r_sound s x1 x2 x3).2 := by
  unfold r_sound
  repeat' (first | exact wt_up h.t | exact wt_rf h (by decide) | exact wt_u (by decide) (by decide) (wt_up h.t) | (refine wt_if (fun _ => ?_) (fun _ => ?_)))
theorem wt_who_ {n : Int} {s : Mem} (h : WS n s) : WT (n + 1) (r_who s).2 := by
  unfold r_who
  repeat' (first | exact wt_up h.t | exact wt_rf h (by decide) | exact wt_u (by decide) (by decide) (wt_up h.t) | (refine wt_if (fun _ => ?_) (fun _ => ?_)))
theorem wt_note_ {n x1 x2 x3 x4 : Int} {s : Mem} (h : WS n s) : WT (n + 1) (r_note s x1 x2 x3 x4).2 := by
  unfold r_note
  repeat' (first | exact wt_up h.t | exact wt_rf h (by decide) | exact wt_u (by decide) (by decide) (wt_up h.t) | (refine wt_if (fun _ => ?_) (fun _ => ?_)))
theorem wt_mark_ {n x1 x2 x3 x4 : Int} {s : Mem} (h : WS n s) : WT (n + 1) (r_mark s x1 x2 x3 x4).2 := by
  unfold r_mark
  repeat' (first | exact wt_up h.t | exact wt_rf h (by decide) | exact wt_u (by decide) (by decide) (wt_up h.t) | (refine wt_if (fun _ => ?_) (fun _ => ?_)))
theorem wt_forget_ {n x1 : Int} {s : Mem} (h : WS n s) : WT (n + 1) (r_forget s x1).2 := by
  unfold r_forget
  repeat' (first | exact wt_up h.t | exact wt_rf h (by decide) | exact wt_u (by decide) (by decide) (wt_up h.t) | (refine wt_if (fun _ => ?_) (fun _ => ?_)))
theorem wt_is_ {n x1 : Int} {s : Mem} (h : WS n s) : WT (n + 1) (r_is s x1).2 := by
  unfold r_is
  repeat' (first | exact wt_up h.t | exact wt_rf h (by decide) | exact wt_u (by decide) (by decide) (wt_up h.t) | (refine wt_if (fun _ => ?_) (fun _ => ?_)))
theorem wt_look_ {n x1 : Int} {s : Mem} (h : WS n s) : WT (n + 1) (r_look s x1).2 := by
  unfold r_look
  repeat' (first | exact wt_up h.t | exact wt_rf h (by decide) | exact wt_u (by decide) (by decide) (wt_up h.t) | (refine wt_if (fun _ => ?_) (fun _ => ?_)))
theorem wt_kinds_ {n x1 : Int} {s : Mem} (h : WS n s) : WT (n + 1) (r_kinds s x1).2 := by
  unfold r_kinds
  repeat' (first | exact wt_up h.t | exact wt_rf h (by decide) | exact wt_u (by decide) (by decide) (wt_up h.t) | (refine wt_if (fun _ => ?_) (fun _ => ?_)))
theorem wt_ask_ {n x1 : Int} {s : Mem} (h : WS n s) : WT (n + 1) (r_ask s x1).2 := by
  unfold r_ask
  repeat' (first | exact wt_up h.t | exact wt_rf h (by decide) | exact wt_u (by decide) (by decide) (wt_up h.t) | (refine wt_if (fun _ => ?_) (fun _ => ?_)))
theorem wt_shy_ {n x1 x2 x3 : Int} {s : Mem} (h : WS n s) : WT (n + 1) (r_shy s x1 x2 x3).2 := by
  unfold r_shy
  repeat' (first | exact wt_up h.t | exact wt_rf h (by decide) | exact wt_u (by decide) (by decide) (wt_up h.t) | (refine wt_if (fun _ => ?_) (fun _ => ?_)))
theorem wt_odds_ {n x1 x2 x3 : Int} {s : Mem} (h : WS n s) : WT (n + 1) (r_odds s x1 x2 x3).2 := by
  unfold r_odds
  refine wt_if (fun _ => ?_) (fun _ => wt_rf h (by omega))
  refine wt_4 h.t ?_ ?_ ?_ ?_ ?_ ?_
  · rw [zA_n (by decide), zA_n (by decide)]
    exact ⟨h.t.1.1.1, Int.le_refl _⟩
  · rw [zA_n (by decide), zA_n (by decide)]
    exact h.t.2.1.1
  · rw [zA_n (by decide), zA_n (by decide)]
    exact h.t.2.1.2
  all_goals rw [zA_n (by decide), zA_n (by decide)]
theorem wt_nights_ {n x1 x2 : Int} {s : Mem} (h : WS n s) : WT (n + 1) (r_nights s x1 x2).2 := by
  unfold r_nights
  repeat' (first | exact wt_up h.t | exact wt_rf h (by decide) | exact wt_u (by decide) (by decide) (wt_up h.t) | (refine wt_if (fun _ => ?_) (fun _ => ?_)))
theorem wt_part_ {n x1 : Int} {s : Mem} (h : WS n s) : WT (n + 1) (r_part s x1).2 := by
  unfold r_part
  repeat' (first | exact wt_up h.t | exact wt_rf h (by decide) | exact wt_u (by decide) (by decide) (wt_up h.t) | (refine wt_if (fun _ => ?_) (fun _ => ?_)))
theorem wt_image_ {n x1 : Int} {s : Mem} (h : WS n s) : WT (n + 1) (r_image s x1).2 := by
  unfold r_image
  refine wt_if (fun _ => ?_) (fun _ => wt_if (fun _ => ?_) (fun _ => wt_rf h (by omega)))
  · have a : WT n (sU s 1 (s 0)) := wt_u (by decide) (by decide) h.t
    refine wt_4 a ?_ ?_ ?_ ?_ ?_ ?_
    · rw [zA_n (by decide)]
      exact ⟨h.t.1.1.1, Int.le_refl _⟩
    · rw [zA_s]
      exact .inr rfl
    · rw [zA_n (by decide)]
      exact h.t.2.1.2
    all_goals rw [zA_n (by decide)]; rfl
  · have a : WT n (sU s 2 (s 0)) := wt_u (by decide) (by decide) h.t
    refine wt_4 a ?_ ?_ ?_ ?_ ?_ ?_
    · rw [zA_n (by decide)]
      exact ⟨h.t.1.1.1, Int.le_refl _⟩
    · rw [zA_n (by decide)]
      exact h.t.2.1.1
    · rw [zA_s]
      exact .inr rfl
    all_goals rw [zA_n (by decide)]; rfl
theorem wt_from_ {n x1 : Int} {s : Mem} (h : WS n s) : WT (n + 1) (r_from s x1).2 := by
  unfold r_from
  repeat' (first | exact wt_up h.t | exact wt_rf h (by decide) | exact wt_u (by decide) (by decide) (wt_up h.t) | (refine wt_if (fun _ => ?_) (fun _ => ?_)))
theorem wt_status_ {n x1 : Int} {s : Mem} (h : WS n s) : WT (n + 1) (r_status s x1).2 := by
  unfold r_status
  repeat' (first | exact wt_up h.t | exact wt_rf h (by decide) | exact wt_u (by decide) (by decide) (wt_up h.t) | (refine wt_if (fun _ => ?_) (fun _ => ?_)))
theorem wt_count_ {n x1 : Int} {s : Mem} (h : WS n s) : WT (n + 1) (r_count s x1).2 := by
  unfold r_count
  repeat' (first | exact wt_up h.t | exact wt_rf h (by decide) | exact wt_u (by decide) (by decide) (wt_up h.t) | (refine wt_if (fun _ => ?_) (fun _ => ?_)))
theorem wt_digest_ {n : Int} {s : Mem} (h : WS n s) : WT (n + 1) (r_digest s).2 := by
  unfold r_digest
  repeat' (first | exact wt_up h.t | exact wt_rf h (by decide) | exact wt_u (by decide) (by decide) (wt_up h.t) | (refine wt_if (fun _ => ?_) (fun _ => ?_)))
-- both sides keep what the other one stands on
theorem CS.hi {D D' s : Mem} (h : CS D s) (hf : Fr 124 138 D D') : CS D' s := by
  obtain ⟨⟨h1, ⟨x, h2⟩, h3, h4⟩, ⟨h5, h6⟩, ⟨h7, h8⟩, ⟨h9, h10, h11⟩, h12, h13⟩ := h
  have e : ∀ o, o < 124 → D' o = D o := fun o q => hf o (Or.inl q)
  refine ⟨⟨h1.out fun o _ _ => e o (by omega), ⟨x, h2.out fun o _ _ => e o (by omega)⟩, h3.out fun o _ _ => e o (by omega), h4.out fun o _ _ => e o (by omega)⟩, ?_⟩
  rw [e 109 (by omega), e 111 (by omega), e 0 (by omega), e 113 (by omega)]
  exact ⟨⟨h5, h6⟩, ⟨h7, h8⟩, ⟨h9, h10, h11⟩, h12, h13⟩
theorem yS.lo {D D' s : Mem} (h : yS D s) (hf : Fr 0 124 D D') : yS D' s := by
  have e : ∀ o, 124 ≤ o → D' o = D o := fun o q => hf o (Or.inr q)
  unfold yS yR yT at h ⊢
  rw [e 124 (by omega), e 125 (by omega), e 126 (by omega), e 127 (by omega), e 128 (by omega)]
  exact h
-- pieces of the law's trees
abbrev lE (L : Nat) (f : Nat → Int) : En := ((138, 4988), (L + 1, f), fun x _ _ => x = 1)
abbrev lL (i : Int) : List AV := [zm 2, zr 0, zr 124, zi i]
theorem l_1 {K : WP} {i : Int} {D : Mem} (h : K (lL i) [zr 0] zg D) : w_ald 1 K (lL i) [] zg D := ⟨trivial, h⟩
theorem l_2 {K : WP} {i : Int} {st : List AV} {D : Mem} (h : K (lL i) (zr 124 :: st) zg D) : w_ald 2 K (lL i) st zg D := ⟨trivial, h⟩
theorem l_x {L : Nat} {f : Nat → Int} {K : WP} {i q : Int} {st : List AV} {D : Mem} (hi : (0 ≤ i ∧ i + 4 < L ∧ L ≤ 1000000) ∧ 0 ≤ q ∧ q ≤ 4) (h : K (lL i) (zi (f (i + q).toNat) :: st) zg D) : w_ald 0 (w_ild 3 (w_ic q (w_iadd (w_sld (lE L f) K)))) (lL i) st zg D := by
  refine ⟨⟨by decide, by decide⟩, ⟨by omega, by omega⟩, rfl, by omega, ?_, h⟩
  show i + q + 1 < ((L + 1 : Nat) : Int)
  omega
theorem l_e {L : Nat} {f : Nat → Int} {i a : Int} {D : Mem} {K : WP} (h : z_WF miL_law (lE L f) 1283 (lL i) [] zg D) : w_ieq (w_cut miL_law (lE L f) 1283) K (lL i) [zi a, zi a] zg D := ⟨fun _ => h, fun e => absurd rfl e⟩
theorem l_j {L : Nat} {f : Nat → Int} {i a : Int} {D : Mem} {K : WP} (h : z_WF miL_law (lE L f) 1283 (lL i) [] zg D) : w_lcmp (w_zeq (w_cut miL_law (lE L f) 1283) K) (lL i) [zl a, zl a] zg D := by
  have e : zcmp a a = 0 := by
    unfold zcmp
    rw [if_neg (by omega), if_pos rfl]
  show (zcmp a a = 0 → _) ∧ (¬ (zcmp a a = 0) → _)
  exact ⟨fun _ => h, fun q => absurd e q⟩
theorem l_c0 {mi : MI} {s : Mem} {r : Int × Mem} {K : WP} {i : Int} {D : Mem} (hc : cOK mi [zr 0] s r) (hC : CS D s) (h : ∀ D', Fr 0 124 D D' → CS D' r.2 → K (lL i) [zi r.1] zg D') : w_vI mi 5 0 K (lL i) [zr 0] zg D := ⟨q0, by show 0 ≤ 8; decide, hc hC h⟩
theorem l_m0 {mi : MI} {s : Mem} {r : Int × Mem} {K : WP} {i b : Int} {D : Mem} (hm : mOK mi [zr 124] s r) (hY : yS D s) (h : ∀ D', Fr 124 138 D D' → yS D' r.2 → K (lL i) [zi r.1, zi b] zg D') : w_vI mi 6 0 K (lL i) [zr 124, zi b] zg D := ⟨mo, by show 1 ≤ 8; decide, hm hY h⟩
theorem l_c1 {mi : MI} {s : Mem} {r : Int × Mem} {K : WP} {i : Int} {a1 : Int} {D : Mem} (hc : cOK mi [zr 0, zi a1] s r) (hC : CS D s) (h : ∀ D', Fr 0 124 D D' → CS D' r.2 → K (lL i) [zi r.1] zg D') : w_vI mi 5 1 K (lL i) [zi a1, zr 0] zg D := ⟨q0, by show 0 ≤ 8; decide, hc hC h⟩
theorem l_m1 {mi : MI} {s : Mem} {r : Int × Mem} {K : WP} {i b : Int} {a1 : Int} {D : Mem} (hm : mOK mi [zr 124, zi a1] s r) (hY : yS D s) (h : ∀ D', Fr 124 138 D D' → yS D' r.2 → K (lL i) [zi r.1, zi b] zg D') : w_vI mi 6 1 K (lL i) [zi a1, zr 124, zi b] zg D := ⟨mo, by show 1 ≤ 8; decide, hm hY h⟩
theorem l_c2 {mi : MI} {s : Mem} {r : Int × Mem} {K : WP} {i : Int} {a1 a2 : Int} {D : Mem} (hc : cOK mi [zr 0, zi a1, zi a2] s r) (hC : CS D s) (h : ∀ D', Fr 0 124 D D' → CS D' r.2 → K (lL i) [zi r.1] zg D') : w_vI mi 5 2 K (lL i) [zi a2, zi a1, zr 0] zg D := ⟨q0, by show 0 ≤ 8; decide, hc hC h⟩
theorem l_m2 {mi : MI} {s : Mem} {r : Int × Mem} {K : WP} {i b : Int} {a1 a2 : Int} {D : Mem} (hm : mOK mi [zr 124, zi a1, zi a2] s r) (hY : yS D s) (h : ∀ D', Fr 124 138 D D' → yS D' r.2 → K (lL i) [zi r.1, zi b] zg D') : w_vI mi 6 2 K (lL i) [zi a2, zi a1, zr 124, zi b] zg D := ⟨mo, by show 1 ≤ 8; decide, hm hY h⟩
theorem l_c3 {mi : MI} {s : Mem} {r : Int × Mem} {K : WP} {i : Int} {a1 a2 a3 : Int} {D : Mem} (hc : cOK mi [zr 0, zi a1, zi a2, zi a3] s r) (hC : CS D s) (h : ∀ D', Fr 0 124 D D' → CS D' r.2 → K (lL i) [zi r.1] zg D') : w_vI mi 5 3 K (lL i) [zi a3, zi a2, zi a1, zr 0] zg D := ⟨q0, by show 0 ≤ 8; decide, hc hC h⟩
theorem l_m3 {mi : MI} {s : Mem} {r : Int × Mem} {K : WP} {i b : Int} {a1 a2 a3 : Int} {D : Mem} (hm : mOK mi [zr 124, zi a1, zi a2, zi a3] s r) (hY : yS D s) (h : ∀ D', Fr 124 138 D D' → yS D' r.2 → K (lL i) [zi r.1, zi b] zg D') : w_vI mi 6 3 K (lL i) [zi a3, zi a2, zi a1, zr 124, zi b] zg D := ⟨mo, by show 1 ≤ 8; decide, hm hY h⟩
theorem l_c4 {mi : MI} {s : Mem} {r : Int × Mem} {K : WP} {i : Int} {a1 a2 a3 a4 : Int} {D : Mem} (hc : cOK mi [zr 0, zi a1, zi a2, zi a3, zi a4] s r) (hC : CS D s) (h : ∀ D', Fr 0 124 D D' → CS D' r.2 → K (lL i) [zi r.1] zg D') : w_vI mi 5 4 K (lL i) [zi a4, zi a3, zi a2, zi a1, zr 0] zg D := ⟨q0, by show 0 ≤ 8; decide, hc hC h⟩
theorem l_m4 {mi : MI} {s : Mem} {r : Int × Mem} {K : WP} {i b : Int} {a1 a2 a3 a4 : Int} {D : Mem} (hm : mOK mi [zr 124, zi a1, zi a2, zi a3, zi a4] s r) (hY : yS D s) (h : ∀ D', Fr 124 138 D D' → yS D' r.2 → K (lL i) [zi r.1, zi b] zg D') : w_vI mi 6 4 K (lL i) [zi a4, zi a3, zi a2, zi a1, zr 124, zi b] zg D := ⟨mo, by show 1 ≤ 8; decide, hm hY h⟩
theorem l_cj0 {mi : MI} {s : Mem} {r : Int × Mem} {K : WP} {i : Int} {D : Mem} (hc : cOK mi [zr 0] s r) (hC : CS D s) (h : ∀ D', Fr 0 124 D D' → CS D' r.2 → K (lL i) [zl r.1] zg D') : w_vJ mi 5 0 K (lL i) [zr 0] zg D := ⟨q0, by show 0 ≤ 8; decide, hc hC h⟩
theorem l_mj0 {mi : MI} {s : Mem} {r : Int × Mem} {K : WP} {i b : Int} {D : Mem} (hm : mOK mi [zr 124] s r) (hY : yS D s) (h : ∀ D', Fr 124 138 D D' → yS D' r.2 → K (lL i) [zl r.1, zl b] zg D') : w_vJ mi 6 0 K (lL i) [zr 124, zl b] zg D := ⟨mo, by show 2 ≤ 8; decide, hm hY h⟩
theorem l_cj1 {mi : MI} {s : Mem} {r : Int × Mem} {K : WP} {i : Int} {a1 : Int} {D : Mem} (hc : cOK mi [zr 0, zi a1] s r) (hC : CS D s) (h : ∀ D', Fr 0 124 D D' → CS D' r.2 → K (lL i) [zl r.1] zg D') : w_vJ mi 5 1 K (lL i) [zi a1, zr 0] zg D := ⟨q0, by show 0 ≤ 8; decide, hc hC h⟩
theorem l_mj1 {mi : MI} {s : Mem} {r : Int × Mem} {K : WP} {i b : Int} {a1 : Int} {D : Mem} (hm : mOK mi [zr 124, zi a1] s r) (hY : yS D s) (h : ∀ D', Fr 124 138 D D' → yS D' r.2 → K (lL i) [zl r.1, zl b] zg D') : w_vJ mi 6 1 K (lL i) [zi a1, zr 124, zl b] zg D := ⟨mo, by show 2 ≤ 8; decide, hm hY h⟩
theorem law_204 {L : Nat} {f : Nat → Int} {n i : Int} {s D : Mem} (hi : 0 ≤ i ∧ i + 4 < L ∧ L ≤ 1000000) (hC : CS D s) (hY : yS D s) (hW : WS n s) (hn : n < 1000000) (hK : ∀ D' s', CS D' s' → yS D' s' → WS (n + 1) s' → z_WF miL_law (lE L f) 1283 (lL i) [] zg D') : z_WF miL_law (lE L f) 204 (lL i) [] zg D := by
  refine sL_law_204 _ _ _ _ _ ?_
  refine l_1 <| l_c0 v_back hC fun D1 f1 C1 => l_2 <| l_m0 (m_back hW) (hY.lo f1) fun D2 f2 Y2 => l_e ?_
  exact hK D2 _ (C1.hi f2) Y2 ((C1.hi f2).ws (wt_back_ hW))
theorem law_217 {L : Nat} {f : Nat → Int} {n i : Int} {s D : Mem} (hi : 0 ≤ i ∧ i + 4 < L ∧ L ≤ 1000000) (hC : CS D s) (hY : yS D s) (hW : WS n s) (hn : n < 1000000) (hK : ∀ D' s', CS D' s' → yS D' s' → WS (n + 1) s' → z_WF miL_law (lE L f) 1283 (lL i) [] zg D') : z_WF miL_law (lE L f) 217 (lL i) [] zg D := by
  refine sL_law_217 _ _ _ _ _ ?_
  refine l_1 <| l_x ⟨hi, by decide, by decide⟩ <| l_c1 (v_ladder hW hn) hC fun D1 f1 C1 => l_2 <| l_x ⟨hi, by decide, by decide⟩ <| l_m1 (m_ladder hW hn) (hY.lo f1) fun D2 f2 Y2 => l_e ?_
  exact hK D2 _ (C1.hi f2) Y2 ((C1.hi f2).ws (wt_ladder_ hW))
theorem law_240 {L : Nat} {f : Nat → Int} {n i : Int} {s D : Mem} (hi : 0 ≤ i ∧ i + 4 < L ∧ L ≤ 1000000) (hC : CS D s) (hY : yS D s) (hW : WS n s) (hn : n < 1000000) (hK : ∀ D' s', CS D' s' → yS D' s' → WS (n + 1) s' → z_WF miL_law (lE L f) 1283 (lL i) [] zg D') : z_WF miL_law (lE L f) 240 (lL i) [] zg D := by
  refine sL_law_240 _ _ _ _ _ ?_
  refine l_1 <| l_x ⟨hi, by decide, by decide⟩ <| l_x ⟨hi, by decide, by decide⟩ <| l_x ⟨hi, by decide, by decide⟩ <| l_c3 (v_goer hW hn) hC fun D1 f1 C1 => l_2 <| l_x ⟨hi, by decide, by decide⟩ <| l_x ⟨hi, by decide, by decide⟩ <| l_x ⟨hi, by decide, by decide⟩ <| l_m3 (m_goer hW hn) (hY.lo f1) fun D2 f2 Y2 => l_e ?_
  exact hK D2 _ (C1.hi f2) Y2 ((C1.hi f2).ws (wt_goer_ hW))
theorem law_283 {L : Nat} {f : Nat → Int} {n i : Int} {s D : Mem} (hi : 0 ≤ i ∧ i + 4 < L ∧ L ≤ 1000000) (hC : CS D s) (hY : yS D s) (hW : WS n s) (hn : n < 1000000) (hK : ∀ D' s', CS D' s' → yS D' s' → WS (n + 1) s' → z_WF miL_law (lE L f) 1283 (lL i) [] zg D') : z_WF miL_law (lE L f) 283 (lL i) [] zg D := by
  refine sL_law_283 _ _ _ _ _ ?_
  refine l_1 <| l_x ⟨hi, by decide, by decide⟩ <| l_x ⟨hi, by decide, by decide⟩ <| l_c2 (v_window hW hn) hC fun D1 f1 C1 => l_2 <| l_x ⟨hi, by decide, by decide⟩ <| l_x ⟨hi, by decide, by decide⟩ <| l_m2 (m_window hW hn) (hY.lo f1) fun D2 f2 Y2 => l_e ?_
  exact hK D2 _ (C1.hi f2) Y2 ((C1.hi f2).ws (wt_window_ hW))
theorem law_316 {L : Nat} {f : Nat → Int} {n i : Int} {s D : Mem} (hi : 0 ≤ i ∧ i + 4 < L ∧ L ≤ 1000000) (hC : CS D s) (hY : yS D s) (hW : WS n s) (hn : n < 1000000) (hK : ∀ D' s', CS D' s' → yS D' s' → WS (n + 1) s' → z_WF miL_law (lE L f) 1283 (lL i) [] zg D') : z_WF miL_law (lE L f) 316 (lL i) [] zg D := by
  refine sL_law_316 _ _ _ _ _ ?_
  refine l_1 <| l_x ⟨hi, by decide, by decide⟩ <| l_c1 (v_type hW hn) hC fun D1 f1 C1 => l_2 <| l_x ⟨hi, by decide, by decide⟩ <| l_m1 (m_type hW hn) (hY.lo f1) fun D2 f2 Y2 => l_e ?_
  exact hK D2 _ (C1.hi f2) Y2 ((C1.hi f2).ws (wt_type_ hW))
theorem law_339 {L : Nat} {f : Nat → Int} {n i : Int} {s D : Mem} (hi : 0 ≤ i ∧ i + 4 < L ∧ L ≤ 1000000) (hC : CS D s) (hY : yS D s) (hW : WS n s) (hn : n < 1000000) (hK : ∀ D' s', CS D' s' → yS D' s' → WS (n + 1) s' → z_WF miL_law (lE L f) 1283 (lL i) [] zg D') : z_WF miL_law (lE L f) 339 (lL i) [] zg D := by
  refine sL_law_339 _ _ _ _ _ ?_
  refine l_1 <| l_c0 v_clear hC fun D1 f1 C1 => l_2 <| l_m0 m_clear (hY.lo f1) fun D2 f2 Y2 => l_e ?_
  exact hK D2 _ (C1.hi f2) Y2 ((C1.hi f2).ws (wt_clear_ hW))
theorem law_352 {L : Nat} {f : Nat → Int} {n i : Int} {s D : Mem} (hi : 0 ≤ i ∧ i + 4 < L ∧ L ≤ 1000000) (hC : CS D s) (hY : yS D s) (hW : WS n s) (hn : n < 1000000) (hK : ∀ D' s', CS D' s' → yS D' s' → WS (n + 1) s' → z_WF miL_law (lE L f) 1283 (lL i) [] zg D') : z_WF miL_law (lE L f) 352 (lL i) [] zg D := by
  refine sL_law_352 _ _ _ _ _ ?_
  refine l_1 <| l_c0 (v_read hW) hC fun D1 f1 C1 => l_2 <| l_m0 (m_read hW) (hY.lo f1) fun D2 f2 Y2 => l_e ?_
  exact hK D2 _ (C1.hi f2) Y2 ((C1.hi f2).ws (wt_read_ hW))
theorem law_365 {L : Nat} {f : Nat → Int} {n i : Int} {s D : Mem} (hi : 0 ≤ i ∧ i + 4 < L ∧ L ≤ 1000000) (hC : CS D s) (hY : yS D s) (hW : WS n s) (hn : n < 1000000) (hK : ∀ D' s', CS D' s' → yS D' s' → WS (n + 1) s' → z_WF miL_law (lE L f) 1283 (lL i) [] zg D') : z_WF miL_law (lE L f) 365 (lL i) [] zg D := by
  refine sL_law_365 _ _ _ _ _ ?_
  refine l_1 <| l_x ⟨hi, by decide, by decide⟩ <| l_c1 (v_minutes hW hn) hC fun D1 f1 C1 => l_2 <| l_x ⟨hi, by decide, by decide⟩ <| l_m1 (m_minutes hW hn) (hY.lo f1) fun D2 f2 Y2 => l_e ?_
  exact hK D2 _ (C1.hi f2) Y2 ((C1.hi f2).ws (wt_minutes_ hW))
theorem law_388 {L : Nat} {f : Nat → Int} {n i : Int} {s D : Mem} (hi : 0 ≤ i ∧ i + 4 < L ∧ L ≤ 1000000) (hC : CS D s) (hY : yS D s) (hW : WS n s) (hn : n < 1000000) (hK : ∀ D' s', CS D' s' → yS D' s' → WS (n + 1) s' → z_WF miL_law (lE L f) 1283 (lL i) [] zg D') : z_WF miL_law (lE L f) 388 (lL i) [] zg D := by
  refine sL_law_388 _ _ _ _ _ ?_
  refine l_1 <| l_x ⟨hi, by decide, by decide⟩ <| l_c1 (v_turns hW hn) hC fun D1 f1 C1 => l_2 <| l_x ⟨hi, by decide, by decide⟩ <| l_m1 (m_turns hW hn) (hY.lo f1) fun D2 f2 Y2 => l_e ?_
  exact hK D2 _ (C1.hi f2) Y2 ((C1.hi f2).ws (wt_turns_ hW))
theorem law_411 {L : Nat} {f : Nat → Int} {n i : Int} {s D : Mem} (hi : 0 ≤ i ∧ i + 4 < L ∧ L ≤ 1000000) (hC : CS D s) (hY : yS D s) (hW : WS n s) (hn : n < 1000000) (hK : ∀ D' s', CS D' s' → yS D' s' → WS (n + 1) s' → z_WF miL_law (lE L f) 1283 (lL i) [] zg D') : z_WF miL_law (lE L f) 411 (lL i) [] zg D := by
  refine sL_law_411 _ _ _ _ _ ?_
  refine l_1 <| l_x ⟨hi, by decide, by decide⟩ <| l_c1 (v_draws hW hn) hC fun D1 f1 C1 => l_2 <| l_x ⟨hi, by decide, by decide⟩ <| l_m1 (m_draws hW hn) (hY.lo f1) fun D2 f2 Y2 => l_e ?_
  exact hK D2 _ (C1.hi f2) Y2 ((C1.hi f2).ws (wt_draws_ hW))
theorem law_434 {L : Nat} {f : Nat → Int} {n i : Int} {s D : Mem} (hi : 0 ≤ i ∧ i + 4 < L ∧ L ≤ 1000000) (hC : CS D s) (hY : yS D s) (hW : WS n s) (hn : n < 1000000) (hK : ∀ D' s', CS D' s' → yS D' s' → WS (n + 1) s' → z_WF miL_law (lE L f) 1283 (lL i) [] zg D') : z_WF miL_law (lE L f) 434 (lL i) [] zg D := by
  refine sL_law_434 _ _ _ _ _ ?_
  refine l_1 <| l_c0 (v_undo hW hn) hC fun D1 f1 C1 => l_2 <| l_m0 (m_undo hW hn) (hY.lo f1) fun D2 f2 Y2 => l_e ?_
  exact hK D2 _ (C1.hi f2) Y2 ((C1.hi f2).ws (wt_undo_ hW))
theorem law_447 {L : Nat} {f : Nat → Int} {n i : Int} {s D : Mem} (hi : 0 ≤ i ∧ i + 4 < L ∧ L ≤ 1000000) (hC : CS D s) (hY : yS D s) (hW : WS n s) (hn : n < 1000000) (hK : ∀ D' s', CS D' s' → yS D' s' → WS (n + 1) s' → z_WF miL_law (lE L f) 1283 (lL i) [] zg D') : z_WF miL_law (lE L f) 447 (lL i) [] zg D := by
  refine sL_law_447 _ _ _ _ _ ?_
  refine l_1 <| l_x ⟨hi, by decide, by decide⟩ <| l_x ⟨hi, by decide, by decide⟩ <| l_c2 (v_of hW hn) hC fun D1 f1 C1 => l_2 <| l_x ⟨hi, by decide, by decide⟩ <| l_x ⟨hi, by decide, by decide⟩ <| l_m2 (m_of hW hn) (hY.lo f1) fun D2 f2 Y2 => l_e ?_
  exact hK D2 _ (C1.hi f2) Y2 ((C1.hi f2).ws (wt_of_ hW))
theorem law_480 {L : Nat} {f : Nat → Int} {n i : Int} {s D : Mem} (hi : 0 ≤ i ∧ i + 4 < L ∧ L ≤ 1000000) (hC : CS D s) (hY : yS D s) (hW : WS n s) (hn : n < 1000000) (hK : ∀ D' s', CS D' s' → yS D' s' → WS (n + 1) s' → z_WF miL_law (lE L f) 1283 (lL i) [] zg D') : z_WF miL_law (lE L f) 480 (lL i) [] zg D := by
  refine sL_law_480 _ _ _ _ _ ?_
  refine l_1 <| l_x ⟨hi, by decide, by decide⟩ <| l_x ⟨hi, by decide, by decide⟩ <| l_c2 (v_about hW hn) hC fun D1 f1 C1 => l_2 <| l_x ⟨hi, by decide, by decide⟩ <| l_x ⟨hi, by decide, by decide⟩ <| l_m2 (m_about hW hn) (hY.lo f1) fun D2 f2 Y2 => l_e ?_
  exact hK D2 _ (C1.hi f2) Y2 ((C1.hi f2).ws (wt_about_ hW))
theorem law_513 {L : Nat} {f : Nat → Int} {n i : Int} {s D : Mem} (hi : 0 ≤ i ∧ i + 4 < L ∧ L ≤ 1000000) (hC : CS D s) (hY : yS D s) (hW : WS n s) (hn : n < 1000000) (hK : ∀ D' s', CS D' s' → yS D' s' → WS (n + 1) s' → z_WF miL_law (lE L f) 1283 (lL i) [] zg D') : z_WF miL_law (lE L f) 513 (lL i) [] zg D := by
  refine sL_law_513 _ _ _ _ _ ?_
  refine l_1 <| l_x ⟨hi, by decide, by decide⟩ <| l_x ⟨hi, by decide, by decide⟩ <| l_c2 (v_rungs hW hn) hC fun D1 f1 C1 => l_2 <| l_x ⟨hi, by decide, by decide⟩ <| l_x ⟨hi, by decide, by decide⟩ <| l_m2 (m_rungs hW hn) (hY.lo f1) fun D2 f2 Y2 => l_e ?_
  exact hK D2 _ (C1.hi f2) Y2 ((C1.hi f2).ws (wt_rungs_ hW))
theorem law_546 {L : Nat} {f : Nat → Int} {n i : Int} {s D : Mem} (hi : 0 ≤ i ∧ i + 4 < L ∧ L ≤ 1000000) (hC : CS D s) (hY : yS D s) (hW : WS n s) (hn : n < 1000000) (hK : ∀ D' s', CS D' s' → yS D' s' → WS (n + 1) s' → z_WF miL_law (lE L f) 1283 (lL i) [] zg D') : z_WF miL_law (lE L f) 546 (lL i) [] zg D := by
  refine sL_law_546 _ _ _ _ _ ?_
  refine l_1 <| l_x ⟨hi, by decide, by decide⟩ <| l_x ⟨hi, by decide, by decide⟩ <| l_c2 (v_far hW hn) hC fun D1 f1 C1 => l_2 <| l_x ⟨hi, by decide, by decide⟩ <| l_x ⟨hi, by decide, by decide⟩ <| l_m2 (m_far hW hn) (hY.lo f1) fun D2 f2 Y2 => l_e ?_
  exact hK D2 _ (C1.hi f2) Y2 ((C1.hi f2).ws (wt_far_ hW))
theorem law_579 {L : Nat} {f : Nat → Int} {n i : Int} {s D : Mem} (hi : 0 ≤ i ∧ i + 4 < L ∧ L ≤ 1000000) (hC : CS D s) (hY : yS D s) (hW : WS n s) (hn : n < 1000000) (hK : ∀ D' s', CS D' s' → yS D' s' → WS (n + 1) s' → z_WF miL_law (lE L f) 1283 (lL i) [] zg D') : z_WF miL_law (lE L f) 579 (lL i) [] zg D := by
  refine sL_law_579 _ _ _ _ _ ?_
  refine l_1 <| l_x ⟨hi, by decide, by decide⟩ <| l_x ⟨hi, by decide, by decide⟩ <| l_c2 (v_where hW hn) hC fun D1 f1 C1 => l_2 <| l_x ⟨hi, by decide, by decide⟩ <| l_x ⟨hi, by decide, by decide⟩ <| l_m2 (m_where hW hn) (hY.lo f1) fun D2 f2 Y2 => l_e ?_
  exact hK D2 _ (C1.hi f2) Y2 ((C1.hi f2).ws (wt_where_ hW))
theorem law_612 {L : Nat} {f : Nat → Int} {n i : Int} {s D : Mem} (hi : 0 ≤ i ∧ i + 4 < L ∧ L ≤ 1000000) (hC : CS D s) (hY : yS D s) (hW : WS n s) (hn : n < 1000000) (hK : ∀ D' s', CS D' s' → yS D' s' → WS (n + 1) s' → z_WF miL_law (lE L f) 1283 (lL i) [] zg D') : z_WF miL_law (lE L f) 612 (lL i) [] zg D := by
  refine sL_law_612 _ _ _ _ _ ?_
  refine l_1 <| l_x ⟨hi, by decide, by decide⟩ <| l_x ⟨hi, by decide, by decide⟩ <| l_c2 (v_meet hW hn) hC fun D1 f1 C1 => l_2 <| l_x ⟨hi, by decide, by decide⟩ <| l_x ⟨hi, by decide, by decide⟩ <| l_m2 (m_meet hW hn) (hY.lo f1) fun D2 f2 Y2 => l_e ?_
  exact hK D2 _ (C1.hi f2) Y2 ((C1.hi f2).ws (wt_meet_ hW))
theorem law_645 {L : Nat} {f : Nat → Int} {n i : Int} {s D : Mem} (hi : 0 ≤ i ∧ i + 4 < L ∧ L ≤ 1000000) (hC : CS D s) (hY : yS D s) (hW : WS n s) (hn : n < 1000000) (hK : ∀ D' s', CS D' s' → yS D' s' → WS (n + 1) s' → z_WF miL_law (lE L f) 1283 (lL i) [] zg D') : z_WF miL_law (lE L f) 645 (lL i) [] zg D := by
  refine sL_law_645 _ _ _ _ _ ?_
  refine l_1 <| l_x ⟨hi, by decide, by decide⟩ <| l_x ⟨hi, by decide, by decide⟩ <| l_x ⟨hi, by decide, by decide⟩ <| l_c3 (v_waits hW hn) hC fun D1 f1 C1 => l_2 <| l_x ⟨hi, by decide, by decide⟩ <| l_x ⟨hi, by decide, by decide⟩ <| l_x ⟨hi, by decide, by decide⟩ <| l_m3 (m_waits hW hn) (hY.lo f1) fun D2 f2 Y2 => l_e ?_
  exact hK D2 _ (C1.hi f2) Y2 ((C1.hi f2).ws (wt_waits_ hW))
theorem law_688 {L : Nat} {f : Nat → Int} {n i : Int} {s D : Mem} (hi : 0 ≤ i ∧ i + 4 < L ∧ L ≤ 1000000) (hC : CS D s) (hY : yS D s) (hW : WS n s) (hn : n < 1000000) (hK : ∀ D' s', CS D' s' → yS D' s' → WS (n + 1) s' → z_WF miL_law (lE L f) 1283 (lL i) [] zg D') : z_WF miL_law (lE L f) 688 (lL i) [] zg D := by
  refine sL_law_688 _ _ _ _ _ ?_
  refine l_1 <| l_x ⟨hi, by decide, by decide⟩ <| l_c1 (v_down hW hn) hC fun D1 f1 C1 => l_2 <| l_x ⟨hi, by decide, by decide⟩ <| l_m1 (m_down hW hn) (hY.lo f1) fun D2 f2 Y2 => l_e ?_
  exact hK D2 _ (C1.hi f2) Y2 ((C1.hi f2).ws (wt_down_ hW))
theorem law_711 {L : Nat} {f : Nat → Int} {n i : Int} {s D : Mem} (hi : 0 ≤ i ∧ i + 4 < L ∧ L ≤ 1000000) (hC : CS D s) (hY : yS D s) (hW : WS n s) (hn : n < 1000000) (hK : ∀ D' s', CS D' s' → yS D' s' → WS (n + 1) s' → z_WF miL_law (lE L f) 1283 (lL i) [] zg D') : z_WF miL_law (lE L f) 711 (lL i) [] zg D := by
  refine sL_law_711 _ _ _ _ _ ?_
  refine l_1 <| l_x ⟨hi, by decide, by decide⟩ <| l_c1 (v_cut hW hn) hC fun D1 f1 C1 => l_2 <| l_x ⟨hi, by decide, by decide⟩ <| l_m1 (m_cut hW hn) (hY.lo f1) fun D2 f2 Y2 => l_e ?_
  exact hK D2 _ (C1.hi f2) Y2 ((C1.hi f2).ws (wt_cut_ hW))
theorem law_734 {L : Nat} {f : Nat → Int} {n i : Int} {s D : Mem} (hi : 0 ≤ i ∧ i + 4 < L ∧ L ≤ 1000000) (hC : CS D s) (hY : yS D s) (hW : WS n s) (hn : n < 1000000) (hK : ∀ D' s', CS D' s' → yS D' s' → WS (n + 1) s' → z_WF miL_law (lE L f) 1283 (lL i) [] zg D') : z_WF miL_law (lE L f) 734 (lL i) [] zg D := by
  refine sL_law_734 _ _ _ _ _ ?_
  refine l_1 <| l_x ⟨hi, by decide, by decide⟩ <| l_c1 (v_doors hW hn) hC fun D1 f1 C1 => l_2 <| l_x ⟨hi, by decide, by decide⟩ <| l_m1 (m_doors hW hn) (hY.lo f1) fun D2 f2 Y2 => l_e ?_
  exact hK D2 _ (C1.hi f2) Y2 ((C1.hi f2).ws (wt_doors_ hW))
theorem law_757 {L : Nat} {f : Nat → Int} {n i : Int} {s D : Mem} (hi : 0 ≤ i ∧ i + 4 < L ∧ L ≤ 1000000) (hC : CS D s) (hY : yS D s) (hW : WS n s) (hn : n < 1000000) (hK : ∀ D' s', CS D' s' → yS D' s' → WS (n + 1) s' → z_WF miL_law (lE L f) 1283 (lL i) [] zg D') : z_WF miL_law (lE L f) 757 (lL i) [] zg D := by
  refine sL_law_757 _ _ _ _ _ ?_
  refine l_1 <| l_x ⟨hi, by decide, by decide⟩ <| l_x ⟨hi, by decide, by decide⟩ <| l_x ⟨hi, by decide, by decide⟩ <| l_c3 (v_sound hW hn) hC fun D1 f1 C1 => l_2 <| l_x ⟨hi, by decide, by decide⟩ <| l_x ⟨hi, by decide, by decide⟩ <| l_x ⟨hi, by decide, by decide⟩ <| l_m3 (m_sound hW hn) (hY.lo f1) fun D2 f2 Y2 => l_e ?_
  exact hK D2 _ (C1.hi f2) Y2 ((C1.hi f2).ws (wt_sound_ hW))
theorem law_800 {L : Nat} {f : Nat → Int} {n i : Int} {s D : Mem} (hi : 0 ≤ i ∧ i + 4 < L ∧ L ≤ 1000000) (hC : CS D s) (hY : yS D s) (hW : WS n s) (hn : n < 1000000) (hK : ∀ D' s', CS D' s' → yS D' s' → WS (n + 1) s' → z_WF miL_law (lE L f) 1283 (lL i) [] zg D') : z_WF miL_law (lE L f) 800 (lL i) [] zg D := by
  refine sL_law_800 _ _ _ _ _ ?_
  refine l_1 <| l_c0 v_who hC fun D1 f1 C1 => l_2 <| l_m0 (m_who hW) (hY.lo f1) fun D2 f2 Y2 => l_e ?_
  exact hK D2 _ (C1.hi f2) Y2 ((C1.hi f2).ws (wt_who_ hW))
theorem law_813 {L : Nat} {f : Nat → Int} {n i : Int} {s D : Mem} (hi : 0 ≤ i ∧ i + 4 < L ∧ L ≤ 1000000) (hC : CS D s) (hY : yS D s) (hW : WS n s) (hn : n < 1000000) (hK : ∀ D' s', CS D' s' → yS D' s' → WS (n + 1) s' → z_WF miL_law (lE L f) 1283 (lL i) [] zg D') : z_WF miL_law (lE L f) 813 (lL i) [] zg D := by
  refine sL_law_813 _ _ _ _ _ ?_
  refine l_1 <| l_x ⟨hi, by decide, by decide⟩ <| l_x ⟨hi, by decide, by decide⟩ <| l_x ⟨hi, by decide, by decide⟩ <| l_x ⟨hi, by decide, by decide⟩ <| l_c4 (v_note hW hn) hC fun D1 f1 C1 => l_2 <| l_x ⟨hi, by decide, by decide⟩ <| l_x ⟨hi, by decide, by decide⟩ <| l_x ⟨hi, by decide, by decide⟩ <| l_x ⟨hi, by decide, by decide⟩ <| l_m4 (m_note hW hn) (hY.lo f1) fun D2 f2 Y2 => l_e ?_
  exact hK D2 _ (C1.hi f2) Y2 ((C1.hi f2).ws (wt_note_ hW))
theorem law_866 {L : Nat} {f : Nat → Int} {n i : Int} {s D : Mem} (hi : 0 ≤ i ∧ i + 4 < L ∧ L ≤ 1000000) (hC : CS D s) (hY : yS D s) (hW : WS n s) (hn : n < 1000000) (hK : ∀ D' s', CS D' s' → yS D' s' → WS (n + 1) s' → z_WF miL_law (lE L f) 1283 (lL i) [] zg D') : z_WF miL_law (lE L f) 866 (lL i) [] zg D := by
  refine sL_law_866 _ _ _ _ _ ?_
  refine l_1 <| l_x ⟨hi, by decide, by decide⟩ <| l_x ⟨hi, by decide, by decide⟩ <| l_x ⟨hi, by decide, by decide⟩ <| l_x ⟨hi, by decide, by decide⟩ <| l_c4 (v_mark hW hn) hC fun D1 f1 C1 => l_2 <| l_x ⟨hi, by decide, by decide⟩ <| l_x ⟨hi, by decide, by decide⟩ <| l_x ⟨hi, by decide, by decide⟩ <| l_x ⟨hi, by decide, by decide⟩ <| l_m4 (m_mark hW hn) (hY.lo f1) fun D2 f2 Y2 => l_e ?_
  exact hK D2 _ (C1.hi f2) Y2 ((C1.hi f2).ws (wt_mark_ hW))
theorem law_919 {L : Nat} {f : Nat → Int} {n i : Int} {s D : Mem} (hi : 0 ≤ i ∧ i + 4 < L ∧ L ≤ 1000000) (hC : CS D s) (hY : yS D s) (hW : WS n s) (hn : n < 1000000) (hK : ∀ D' s', CS D' s' → yS D' s' → WS (n + 1) s' → z_WF miL_law (lE L f) 1283 (lL i) [] zg D') : z_WF miL_law (lE L f) 919 (lL i) [] zg D := by
  refine sL_law_919 _ _ _ _ _ ?_
  refine l_1 <| l_x ⟨hi, by decide, by decide⟩ <| l_c1 (v_forget hW hn) hC fun D1 f1 C1 => l_2 <| l_x ⟨hi, by decide, by decide⟩ <| l_m1 (m_forget hW hn) (hY.lo f1) fun D2 f2 Y2 => l_e ?_
  exact hK D2 _ (C1.hi f2) Y2 ((C1.hi f2).ws (wt_forget_ hW))
theorem law_942 {L : Nat} {f : Nat → Int} {n i : Int} {s D : Mem} (hi : 0 ≤ i ∧ i + 4 < L ∧ L ≤ 1000000) (hC : CS D s) (hY : yS D s) (hW : WS n s) (hn : n < 1000000) (hK : ∀ D' s', CS D' s' → yS D' s' → WS (n + 1) s' → z_WF miL_law (lE L f) 1283 (lL i) [] zg D') : z_WF miL_law (lE L f) 942 (lL i) [] zg D := by
  refine sL_law_942 _ _ _ _ _ ?_
  refine l_1 <| l_x ⟨hi, by decide, by decide⟩ <| l_c1 (v_is hW hn) hC fun D1 f1 C1 => l_2 <| l_x ⟨hi, by decide, by decide⟩ <| l_m1 (m_is hW hn) (hY.lo f1) fun D2 f2 Y2 => l_e ?_
  exact hK D2 _ (C1.hi f2) Y2 ((C1.hi f2).ws (wt_is_ hW))
theorem law_965 {L : Nat} {f : Nat → Int} {n i : Int} {s D : Mem} (hi : 0 ≤ i ∧ i + 4 < L ∧ L ≤ 1000000) (hC : CS D s) (hY : yS D s) (hW : WS n s) (hn : n < 1000000) (hK : ∀ D' s', CS D' s' → yS D' s' → WS (n + 1) s' → z_WF miL_law (lE L f) 1283 (lL i) [] zg D') : z_WF miL_law (lE L f) 965 (lL i) [] zg D := by
  refine sL_law_965 _ _ _ _ _ ?_
  refine l_1 <| l_x ⟨hi, by decide, by decide⟩ <| l_c1 (v_look hW hn) hC fun D1 f1 C1 => l_2 <| l_x ⟨hi, by decide, by decide⟩ <| l_m1 (m_look hW hn) (hY.lo f1) fun D2 f2 Y2 => l_e ?_
  exact hK D2 _ (C1.hi f2) Y2 ((C1.hi f2).ws (wt_look_ hW))
theorem law_988 {L : Nat} {f : Nat → Int} {n i : Int} {s D : Mem} (hi : 0 ≤ i ∧ i + 4 < L ∧ L ≤ 1000000) (hC : CS D s) (hY : yS D s) (hW : WS n s) (hn : n < 1000000) (hK : ∀ D' s', CS D' s' → yS D' s' → WS (n + 1) s' → z_WF miL_law (lE L f) 1283 (lL i) [] zg D') : z_WF miL_law (lE L f) 988 (lL i) [] zg D := by
  refine sL_law_988 _ _ _ _ _ ?_
  refine l_1 <| l_x ⟨hi, by decide, by decide⟩ <| l_c1 (v_kinds hW hn) hC fun D1 f1 C1 => l_2 <| l_x ⟨hi, by decide, by decide⟩ <| l_m1 (m_kinds hW hn) (hY.lo f1) fun D2 f2 Y2 => l_e ?_
  exact hK D2 _ (C1.hi f2) Y2 ((C1.hi f2).ws (wt_kinds_ hW))
theorem law_1011 {L : Nat} {f : Nat → Int} {n i : Int} {s D : Mem} (hi : 0 ≤ i ∧ i + 4 < L ∧ L ≤ 1000000) (hC : CS D s) (hY : yS D s) (hW : WS n s) (hn : n < 1000000) (hK : ∀ D' s', CS D' s' → yS D' s' → WS (n + 1) s' → z_WF miL_law (lE L f) 1283 (lL i) [] zg D') : z_WF miL_law (lE L f) 1011 (lL i) [] zg D := by
  refine sL_law_1011 _ _ _ _ _ ?_
  refine l_1 <| l_x ⟨hi, by decide, by decide⟩ <| l_c1 (v_ask hW hn) hC fun D1 f1 C1 => l_2 <| l_x ⟨hi, by decide, by decide⟩ <| l_m1 (m_ask hW hn) (hY.lo f1) fun D2 f2 Y2 => l_e ?_
  exact hK D2 _ (C1.hi f2) Y2 ((C1.hi f2).ws (wt_ask_ hW))
theorem law_1034 {L : Nat} {f : Nat → Int} {n i : Int} {s D : Mem} (hi : 0 ≤ i ∧ i + 4 < L ∧ L ≤ 1000000) (hC : CS D s) (hY : yS D s) (hW : WS n s) (hn : n < 1000000) (hK : ∀ D' s', CS D' s' → yS D' s' → WS (n + 1) s' → z_WF miL_law (lE L f) 1283 (lL i) [] zg D') : z_WF miL_law (lE L f) 1034 (lL i) [] zg D := by
  refine sL_law_1034 _ _ _ _ _ ?_
  refine l_1 <| l_x ⟨hi, by decide, by decide⟩ <| l_x ⟨hi, by decide, by decide⟩ <| l_x ⟨hi, by decide, by decide⟩ <| l_c3 (v_shy hW hn) hC fun D1 f1 C1 => l_2 <| l_x ⟨hi, by decide, by decide⟩ <| l_x ⟨hi, by decide, by decide⟩ <| l_x ⟨hi, by decide, by decide⟩ <| l_m3 (m_shy hW hn) (hY.lo f1) fun D2 f2 Y2 => l_e ?_
  exact hK D2 _ (C1.hi f2) Y2 ((C1.hi f2).ws (wt_shy_ hW))
theorem law_1077 {L : Nat} {f : Nat → Int} {n i : Int} {s D : Mem} (hi : 0 ≤ i ∧ i + 4 < L ∧ L ≤ 1000000) (hC : CS D s) (hY : yS D s) (hW : WS n s) (hn : n < 1000000) (hK : ∀ D' s', CS D' s' → yS D' s' → WS (n + 1) s' → z_WF miL_law (lE L f) 1283 (lL i) [] zg D') : z_WF miL_law (lE L f) 1077 (lL i) [] zg D := by
  refine sL_law_1077 _ _ _ _ _ ?_
  refine l_1 <| l_x ⟨hi, by decide, by decide⟩ <| l_x ⟨hi, by decide, by decide⟩ <| l_x ⟨hi, by decide, by decide⟩ <| l_c3 (v_odds hW hn) hC fun D1 f1 C1 => l_2 <| l_x ⟨hi, by decide, by decide⟩ <| l_x ⟨hi, by decide, by decide⟩ <| l_x ⟨hi, by decide, by decide⟩ <| l_m3 (m_odds hW hn) (hY.lo f1) fun D2 f2 Y2 => l_e ?_
  exact hK D2 _ (C1.hi f2) Y2 ((C1.hi f2).ws (wt_odds_ hW))
theorem law_1120 {L : Nat} {f : Nat → Int} {n i : Int} {s D : Mem} (hi : 0 ≤ i ∧ i + 4 < L ∧ L ≤ 1000000) (hC : CS D s) (hY : yS D s) (hW : WS n s) (hn : n < 1000000) (hK : ∀ D' s', CS D' s' → yS D' s' → WS (n + 1) s' → z_WF miL_law (lE L f) 1283 (lL i) [] zg D') : z_WF miL_law (lE L f) 1120 (lL i) [] zg D := by
  refine sL_law_1120 _ _ _ _ _ ?_
  refine l_1 <| l_x ⟨hi, by decide, by decide⟩ <| l_x ⟨hi, by decide, by decide⟩ <| l_c2 (v_nights hW hn) hC fun D1 f1 C1 => l_2 <| l_x ⟨hi, by decide, by decide⟩ <| l_x ⟨hi, by decide, by decide⟩ <| l_m2 (m_nights hW hn) (hY.lo f1) fun D2 f2 Y2 => l_e ?_
  exact hK D2 _ (C1.hi f2) Y2 ((C1.hi f2).ws (wt_nights_ hW))
theorem law_1153 {L : Nat} {f : Nat → Int} {n i : Int} {s D : Mem} (hi : 0 ≤ i ∧ i + 4 < L ∧ L ≤ 1000000) (hC : CS D s) (hY : yS D s) (hW : WS n s) (hn : n < 1000000) (hK : ∀ D' s', CS D' s' → yS D' s' → WS (n + 1) s' → z_WF miL_law (lE L f) 1283 (lL i) [] zg D') : z_WF miL_law (lE L f) 1153 (lL i) [] zg D := by
  refine sL_law_1153 _ _ _ _ _ ?_
  refine l_1 <| l_x ⟨hi, by decide, by decide⟩ <| l_cj1 (v_part hW hn) hC fun D1 f1 C1 => l_2 <| l_x ⟨hi, by decide, by decide⟩ <| l_mj1 (m_part hW hn) (hY.lo f1) fun D2 f2 Y2 => l_j ?_
  exact hK D2 _ (C1.hi f2) Y2 ((C1.hi f2).ws (wt_part_ hW))
theorem law_1177 {L : Nat} {f : Nat → Int} {n i : Int} {s D : Mem} (hi : 0 ≤ i ∧ i + 4 < L ∧ L ≤ 1000000) (hC : CS D s) (hY : yS D s) (hW : WS n s) (hn : n < 1000000) (hK : ∀ D' s', CS D' s' → yS D' s' → WS (n + 1) s' → z_WF miL_law (lE L f) 1283 (lL i) [] zg D') : z_WF miL_law (lE L f) 1177 (lL i) [] zg D := by
  refine sL_law_1177 _ _ _ _ _ ?_
  refine l_1 <| l_x ⟨hi, by decide, by decide⟩ <| l_c1 (v_image hW hn) hC fun D1 f1 C1 => l_2 <| l_x ⟨hi, by decide, by decide⟩ <| l_m1 (m_image hW hn) (hY.lo f1) fun D2 f2 Y2 => l_e ?_
  exact hK D2 _ (C1.hi f2) Y2 ((C1.hi f2).ws (wt_image_ hW))
theorem law_1200 {L : Nat} {f : Nat → Int} {n i : Int} {s D : Mem} (hi : 0 ≤ i ∧ i + 4 < L ∧ L ≤ 1000000) (hC : CS D s) (hY : yS D s) (hW : WS n s) (hn : n < 1000000) (hK : ∀ D' s', CS D' s' → yS D' s' → WS (n + 1) s' → z_WF miL_law (lE L f) 1283 (lL i) [] zg D') : z_WF miL_law (lE L f) 1200 (lL i) [] zg D := by
  refine sL_law_1200 _ _ _ _ _ ?_
  refine l_1 <| l_x ⟨hi, by decide, by decide⟩ <| l_c1 (v_from hW hn) hC fun D1 f1 C1 => l_2 <| l_x ⟨hi, by decide, by decide⟩ <| l_m1 (m_from hW hn) (hY.lo f1) fun D2 f2 Y2 => l_e ?_
  exact hK D2 _ (C1.hi f2) Y2 ((C1.hi f2).ws (wt_from_ hW))
theorem law_1223 {L : Nat} {f : Nat → Int} {n i : Int} {s D : Mem} (hi : 0 ≤ i ∧ i + 4 < L ∧ L ≤ 1000000) (hC : CS D s) (hY : yS D s) (hW : WS n s) (hn : n < 1000000) (hK : ∀ D' s', CS D' s' → yS D' s' → WS (n + 1) s' → z_WF miL_law (lE L f) 1283 (lL i) [] zg D') : z_WF miL_law (lE L f) 1223 (lL i) [] zg D := by
  refine sL_law_1223 _ _ _ _ _ ?_
  refine l_1 <| l_x ⟨hi, by decide, by decide⟩ <| l_c1 (v_status hW hn) hC fun D1 f1 C1 => l_2 <| l_x ⟨hi, by decide, by decide⟩ <| l_m1 (m_status hW hn) (hY.lo f1) fun D2 f2 Y2 => l_e ?_
  exact hK D2 _ (C1.hi f2) Y2 ((C1.hi f2).ws (wt_status_ hW))
theorem law_1246 {L : Nat} {f : Nat → Int} {n i : Int} {s D : Mem} (hi : 0 ≤ i ∧ i + 4 < L ∧ L ≤ 1000000) (hC : CS D s) (hY : yS D s) (hW : WS n s) (hn : n < 1000000) (hK : ∀ D' s', CS D' s' → yS D' s' → WS (n + 1) s' → z_WF miL_law (lE L f) 1283 (lL i) [] zg D') : z_WF miL_law (lE L f) 1246 (lL i) [] zg D := by
  refine sL_law_1246 _ _ _ _ _ ?_
  refine l_1 <| l_x ⟨hi, by decide, by decide⟩ <| l_c1 (v_count hW hn) hC fun D1 f1 C1 => l_2 <| l_x ⟨hi, by decide, by decide⟩ <| l_m1 (m_count hW hn) (hY.lo f1) fun D2 f2 Y2 => l_e ?_
  exact hK D2 _ (C1.hi f2) Y2 ((C1.hi f2).ws (wt_count_ hW))
theorem law_1269 {L : Nat} {f : Nat → Int} {n i : Int} {s D : Mem} (hi : 0 ≤ i ∧ i + 4 < L ∧ L ≤ 1000000) (hC : CS D s) (hY : yS D s) (hW : WS n s) (hn : n < 1000000) (hK : ∀ D' s', CS D' s' → yS D' s' → WS (n + 1) s' → z_WF miL_law (lE L f) 1283 (lL i) [] zg D') : z_WF miL_law (lE L f) 1269 (lL i) [] zg D := by
  refine sL_law_1269 _ _ _ _ _ ?_
  refine l_1 <| l_cj0 v_digest hC fun D1 f1 C1 => l_2 <| l_mj0 (m_digest hW) (hY.lo f1) fun D2 f2 Y2 => l_j ?_
  exact hK D2 _ (C1.hi f2) Y2 ((C1.hi f2).ws (wt_digest_ hW))
theorem law_s {L : Nat} {f : Nat → Int} {n i : Int} {s D : Mem} (hL : L ≤ 1000000) (i0 : 0 ≤ i) (i1 : i ≤ 1000005) (hC : CS D s) (hY : yS D s) (hW : WS n s) (hn : n < 1000000) (hI : i + 4 < L → ∀ D' s', CS D' s' → yS D' s' → WS (n + 1) s' → z_WF miL_law (lE L f) 18 (lL (i + 5)) [] zg D') : z_WF miL_law (lE L f) 18 (lL i) [] zg D := by
  refine sL_law_18 _ _ _ _ _ ?_
  refine ⟨⟨by decide, by decide⟩, rfl, by show 0 < L + 1; omega, ?_, fun hg => ?_, fun hg => ?_⟩
  · show -2147483648 ≤ ((L + 1 - 1 : Nat) : Int) - 5 ∧ ((L + 1 - 1 : Nat) : Int) - 5 ≤ 2147483647
    omega
  · exact ⟨rfl, rfl, rfl, .inr rfl, rfl⟩
  · have hg2 : ¬ ((L + 1 - 1 : Nat) : Int) - 5 < i := hg
    have hi : 0 ≤ i ∧ i + 4 < L ∧ L ≤ 1000000 := by omega
    have hK : ∀ D' s', CS D' s' → yS D' s' → WS (n + 1) s' → z_WF miL_law (lE L f) 1283 (lL i) [] zg D' := by
      intro D' s' C Y W
      refine sL_law_1283 _ _ _ _ _ ?_
      refine ⟨⟨by omega, by omega⟩, ?_⟩
      exact hI hi.2.1 D' s' C Y W
    refine ⟨⟨by decide, by decide⟩, rfl, i0, ?_, ?_, fun _ => hK D s hC hY ⟨hW.1, wt_up hW.2⟩⟩
    · show i + 1 < ((L + 1 : Nat) : Int)
      omega
    · exact ⟨fun _ => law_204 hi hC hY hW hn hK, fun _ => law_217 hi hC hY hW hn hK, fun _ => law_240 hi hC hY hW hn hK, fun _ => law_283 hi hC hY hW hn hK, fun _ => law_316 hi hC hY hW hn hK, fun _ => law_339 hi hC hY hW hn hK, fun _ => law_352 hi hC hY hW hn hK, fun _ => law_365 hi hC hY hW hn hK, fun _ => law_388 hi hC hY hW hn hK, fun _ => law_411 hi hC hY hW hn hK, fun _ => law_434 hi hC hY hW hn hK, fun _ => law_447 hi hC hY hW hn hK, fun _ => law_480 hi hC hY hW hn hK, fun _ => law_513 hi hC hY hW hn hK, fun _ => law_546 hi hC hY hW hn hK, fun _ => law_579 hi hC hY hW hn hK, fun _ => law_612 hi hC hY hW hn hK, fun _ => law_645 hi hC hY hW hn hK, fun _ => law_688 hi hC hY hW hn hK, fun _ => law_711 hi hC hY hW hn hK, fun _ => law_734 hi hC hY hW hn hK, fun _ => law_757 hi hC hY hW hn hK, fun _ => law_800 hi hC hY hW hn hK, fun _ => law_813 hi hC hY hW hn hK, fun _ => law_866 hi hC hY hW hn hK, fun _ => law_919 hi hC hY hW hn hK, fun _ => law_942 hi hC hY hW hn hK, fun _ => law_965 hi hC hY hW hn hK, fun _ => law_988 hi hC hY hW hn hK, fun _ => law_1011 hi hC hY hW hn hK, fun _ => law_1034 hi hC hY hW hn hK, fun _ => law_1077 hi hC hY hW hn hK, fun _ => law_1120 hi hC hY hW hn hK, fun _ => law_1153 hi hC hY hW hn hK, fun _ => law_1177 hi hC hY hW hn hK, fun _ => law_1200 hi hC hY hW hn hK, fun _ => law_1223 hi hC hY hW hn hK, fun _ => law_1246 hi hC hY hW hn hK, fun _ => law_1269 hi hC hY hW hn hK, trivial⟩
theorem law_18 {L : Nat} {f : Nat → Int} (hL : L ≤ 1000000) : ∀ (k : Nat) (n i : Int) (s D : Mem), (L - i).toNat ≤ k → 0 ≤ i → i ≤ 1000005 → n ≤ i → n < 1000000 → CS D s → yS D s → WS n s → z_WF miL_law (lE L f) 18 (lL i) [] zg D := by
  intro k
  induction k with
  | zero =>
    intro n i s D hk i0 i1 hni hn hC hY hW
    refine law_s hL i0 i1 hC hY hW hn fun hi => ?_
    omega
  | succ k ih =>
    intro n i s D hk i0 i1 hni hn hC hY hW
    refine law_s hL i0 i1 hC hY hW hn fun hi D' s' C Y W => ?_
    exact ih (n + 1) (i + 5) s' D' (by omega) (by omega) (by omega) (by omega) (by omega) C Y W
