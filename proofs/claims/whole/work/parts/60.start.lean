/-! ===== 60: where the law starts ===== -/
def s0 : Mem := fun o => if o = 4 then (fun k => if k = 7 then 1 else 0) else fun _ => 0
def d0 (D : Mem) : Mem := dMod (zZ (dIron (zZ D 0)) 124) 124
theorem bk_new {D : Mem} {b : Nat} (h0 : D (b + 1) 0 = 6 ∧ D (b + 1) 1 = 2 ∧ D (b + 1) 3 = 0) (h1 : D (b + 4) 0 = 6 ∧ D (b + 4) 1 = 5 ∧ D (b + 4) 3 = 0) (h2 : D (b + 7) 0 = 4 ∧ D (b + 7) 1 = 2 ∧ D (b + 7) 3 = 0) (h3 : D (b + 10) 0 = 5 ∧ D (b + 10) 1 = 3 ∧ D (b + 10) 3 = 0) (h4 : D (b + 13) 0 = 6 ∧ D (b + 13) 1 = 4 ∧ D (b + 13) 3 = 0) (h5 : D (b + 16) 0 = 6 ∧ D (b + 16) 1 = 4 ∧ D (b + 16) 3 = 0) (h6 : D (b + 19) 0 = 8 ∧ D (b + 19) 1 = 19 ∧ D (b + 19) 3 = 0) (h7 : D (b + 22) 2 = 0 ∧ D (b + 22) 3 = 0) (h8 : D b 8 = 0) {M : Int} (hM : 0 ≤ M) : BK M D b (fun _ => 0) := by
  refine ⟨⟨⟨h0.1, h0.2.1, ?_, ?_⟩, ⟨h1.1, h1.2.1, ?_, ?_⟩, ⟨h2.1, h2.2.1, ?_, ?_⟩, ⟨h3.1, h3.2.1, ?_, ?_⟩, ⟨h4.1, h4.2.1, ?_, ?_⟩, ⟨h5.1, h5.2.1, ?_, ?_⟩, ⟨h6.1, h6.2.1, ?_, ?_⟩⟩, ZB.mk' (zPc.nil h0.2.2 rfl) (zPc.nil h1.2.2 rfl) (zPc.nil h2.2.2 rfl) h8 (zPc.nil h3.2.2 rfl) (zPc.nil h4.2.2 rfl) (zPc.nil h5.2.2 rfl) (zPp.nil h6.2.2 rfl), sZero_wa hM, ⟨?_, ?_⟩, ?_, ?_⟩
  all_goals first | omega | (rw [h7.2]; unfold zM; omega) | (intro g _ hg; rw [h7.1] at hg; exact absurd hg (zB_0 g))
set_option maxRecDepth 20000 in
theorem bk_d1 (D : Mem) : BK 9999 (d0 D) 1 (fun _ => 0) := bk_new ⟨rfl, rfl, rfl⟩ ⟨rfl, rfl, rfl⟩ ⟨rfl, rfl, rfl⟩ ⟨rfl, rfl, rfl⟩ ⟨rfl, rfl, rfl⟩ ⟨rfl, rfl, rfl⟩ ⟨rfl, rfl, rfl⟩ ⟨rfl, rfl⟩ rfl (by decide)
set_option maxRecDepth 20000 in
theorem bk_d2 (D : Mem) : BK 20000 (d0 D) 28 (fun _ => 0) := bk_new ⟨rfl, rfl, rfl⟩ ⟨rfl, rfl, rfl⟩ ⟨rfl, rfl, rfl⟩ ⟨rfl, rfl, rfl⟩ ⟨rfl, rfl, rfl⟩ ⟨rfl, rfl, rfl⟩ ⟨rfl, rfl, rfl⟩ ⟨rfl, rfl⟩ rfl (by decide)
set_option maxRecDepth 20000 in
theorem bk_d3 (D : Mem) : BK 9999 (d0 D) 55 (fun _ => 0) := bk_new ⟨rfl, rfl, rfl⟩ ⟨rfl, rfl, rfl⟩ ⟨rfl, rfl, rfl⟩ ⟨rfl, rfl, rfl⟩ ⟨rfl, rfl, rfl⟩ ⟨rfl, rfl, rfl⟩ ⟨rfl, rfl, rfl⟩ ⟨rfl, rfl⟩ rfl (by decide)
set_option maxRecDepth 20000 in
theorem bk_d4 (D : Mem) : BK 9999 (d0 D) 82 (fun _ => 0) := bk_new ⟨rfl, rfl, rfl⟩ ⟨rfl, rfl, rfl⟩ ⟨rfl, rfl, rfl⟩ ⟨rfl, rfl, rfl⟩ ⟨rfl, rfl, rfl⟩ ⟨rfl, rfl, rfl⟩ ⟨rfl, rfl, rfl⟩ ⟨rfl, rfl⟩ rfl (by decide)
set_option maxRecDepth 20000 in
theorem cs_new (D : Mem) : CS (d0 D) s0 := by
  refine ⟨⟨bk_d1 D, ⟨_, bk_d2 D⟩, bk_d3 D, bk_d4 D⟩, ⟨rfl, fun j h1 h2 => ?_⟩, ⟨rfl, rfl⟩, ⟨rfl, rfl, rfl⟩, ⟨rfl, rfl⟩⟩
  exact absurd h2 (by show ¬ j < 0; omega)
set_option maxRecDepth 20000 in
theorem ys_new (D : Mem) : yS (d0 D) s0 := by
  refine ⟨fun j _ _ => rfl, ⟨fun j _ _ => rfl, fun j _ _ => rfl⟩, ⟨rfl, fun j h1 h2 => ?_⟩, ⟨rfl, rfl⟩, ⟨rfl, rfl, rfl⟩, ⟨rfl, rfl⟩⟩
  exact absurd h2 (by show ¬ j < 0; omega)
theorem ws_new : WS 0 s0 := by
  refine ⟨⟨sZero_wa (by decide), sZero_wa (by decide), sZero_wa (by decide)⟩, ⟨⟨?_, ?_⟩, fun j h1 h2 => ?_⟩, ⟨.inl rfl, .inl rfl⟩, ⟨?_, ?_⟩, ⟨?_, ?_⟩, ⟨?_, ?_⟩⟩
  · show (0 : Int) ≤ 0; omega
  · show (0 : Int) ≤ 150; omega
  · exact absurd h2 (by show ¬ j < 0; omega)
  all_goals show (0 : Int) ≤ 0; omega
/-- the law lays both sides, then runs -/
theorem gl_zg : gl (shL.take 124 ++ lMod 124) 4988 = zg := by
  unfold gl zg zsh
  rw [show shL.take 124 ++ lMod 124 = shL by decide +kernel]
  exact Prod.ext (by decide +kernel) rfl
theorem k_Top {E : En} {K : WP} {ls : List AV} {l : List Sh} {sl m c nk no ns : Nat} {kd : List Kd} {mi : MI} {D : Mem} (hm : l.length = m) (hkd : kd.length = nk) (h1 : m + 1 + no ≤ E.1.1) (h2 : sl + nk + ns ≤ E.1.2) (hI : z_Ct mi no ns [zr m] (gl (l ++ [.inl (c, kd)]) (sl + nk)) (zZ D m) (fun _ g' D' => K ls [zr m] g' D')) : w_new (E := E) c kd (w_dup (w_init E mi 0 K)) ls [] (gl l sl) D := by
  show l.length + 1 ≤ E.1.1 ∧ sl + kd.length ≤ E.1.2 ∧ True ∧ (∃ o as2, [zr l.length] = zr o :: as2) ∧ cS [zr l.length] ≤ 8 ∧ ∃ mc ms : Nat, (zNew (gl l sl) (.inl (c, kd)) kd.length).1 + mc ≤ E.1.1 ∧ (zNew (gl l sl) (.inl (c, kd)) kd.length).2.1 + ms ≤ E.1.2 ∧ z_Ct mi mc ms [zr l.length] (zNew (gl l sl) (.inl (c, kd)) kd.length) (zZ D l.length) (fun _ g' D' => K ls [zr l.length] g' D')
  rw [gl_n, hm, hkd]
  refine ⟨by omega, by omega, trivial, ⟨_, _, rfl⟩, by show 1 ≤ 8; decide, no, ns, ?_, h2, hI⟩
  show (l ++ _).length + no ≤ _
  rw [List.length_append, hm]
  exact h1
theorem law_0 {L : Nat} {f : Nat → Int} {Q : Int → Gm → Mem → Prop} {b c d : AV} {D : Mem} (h : z_WF miL_law ((138, 4988), (L, f), Q) 18 [zm 2, zr 0, zr 124, zi 0] [] zg (d0 D)) : tL_law_0 ((138, 4988), (L, f), Q) [zm 2, b, c, d] [] (gl [] 0) D := by
  refine k_Top (m := 0) (nk := 15) (no := 123) (ns := 3428) rfl rfl (by show 0 + 1 + 123 ≤ 138; decide) (by show 0 + 15 + 3428 ≤ 4988; decide) ?_
  refine i_Iron ?_
  show w_new (E := ((138, 4988), (L, f), Q)) 6 kd0_X6 (w_dup (w_init ((138, 4988), (L, f), Q) miX6_init 0 (w_ast 2 (w_ic 0 (w_ist 3 (w_cut miL_law ((138, 4988), (L, f), Q) 18)))))) [zm 2, zr 0, c, d] [] (gl (shL.take 124) 3443) (dIron (zZ D 0))
  refine k_Top (m := 124) (nk := 21) (no := 13) (ns := 1524) (by decide +kernel) rfl (by show 124 + 1 + 13 ≤ 138; decide) (by show 3443 + 21 + 1524 ≤ 4988; decide) ?_
  refine i_Mod (m := 124) (by decide +kernel) ?_
  show z_WF miL_law ((138, 4988), (L, f), Q) 18 [zm 2, zr 0, zr 124, zi 0] [] (gl (shL.take 124 ++ lMod 124) 4988) (d0 D)
  rw [gl_zg]
  exact h
