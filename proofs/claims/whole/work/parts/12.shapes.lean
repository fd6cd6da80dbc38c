/-! ===== 12: the shapes of all objects (laid by program), what follows for fields, frames ===== -/
def shL : List Sh := [.inl (5, [.inl 1, .inl 28, .inl 55, .inl 82, .inr 1, .inr 1, .inl 109, .inl 112, .inr 2, .inr 2, .inl 114, .inl 116, .inl 118, .inl 120, .inl 122]), .inl (0, [.inl 2, .inl 5, .inl 8, .inl 11, .inl 14, .inl 17, .inl 20, .inl 23, .inr 0]), .inl (3, [.inr 0, .inr 0, .inl 3, .inr 0]), .inl (2, [.inl 4]), .inr (false, 12), .inl (3, [.inr 0, .inr 0, .inl 6, .inr 0]), .inl (2, [.inl 7]), .inr (false, 30), .inl (3, [.inr 0, .inr 0, .inl 9, .inr 0]), .inl (2, [.inl 10]), .inr (false, 8), .inl (3, [.inr 0, .inr 0, .inl 12, .inr 0]), .inl (2, [.inl 13]), .inr (false, 15), .inl (3, [.inr 0, .inr 0, .inl 15, .inr 0]), .inl (2, [.inl 16]), .inr (false, 24), .inl (3, [.inr 0, .inr 0, .inl 18, .inr 0]), .inl (2, [.inl 19]), .inr (false, 24), .inl (3, [.inr 0, .inr 0, .inl 21, .inr 0]), .inl (2, [.inl 22]), .inr (false, 152), .inl (4, [.inl 24, .inl 26, .inr 0, .inr 0]), .inl (2, [.inl 25]), .inr (false, 400), .inl (2, [.inl 27]), .inr (false, 20), .inl (0, [.inl 29, .inl 32, .inl 35, .inl 38, .inl 41, .inl 44, .inl 47, .inl 50, .inr 0]), .inl (3, [.inr 0, .inr 0, .inl 30, .inr 0]), .inl (2, [.inl 31]), .inr (false, 12), .inl (3, [.inr 0, .inr 0, .inl 33, .inr 0]), .inl (2, [.inl 34]), .inr (false, 30), .inl (3, [.inr 0, .inr 0, .inl 36, .inr 0]), .inl (2, [.inl 37]), .inr (false, 8), .inl (3, [.inr 0, .inr 0, .inl 39, .inr 0]), .inl (2, [.inl 40]), .inr (false, 15), .inl (3, [.inr 0, .inr 0, .inl 42, .inr 0]), .inl (2, [.inl 43]), .inr (false, 24), .inl (3, [.inr 0, .inr 0, .inl 45, .inr 0]), .inl (2, [.inl 46]), .inr (false, 24), .inl (3, [.inr 0, .inr 0, .inl 48, .inr 0]), .inl (2, [.inl 49]), .inr (false, 152), .inl (4, [.inl 51, .inl 53, .inr 0, .inr 0]), .inl (2, [.inl 52]), .inr (false, 400), .inl (2, [.inl 54]), .inr (false, 20), .inl (0, [.inl 56, .inl 59, .inl 62, .inl 65, .inl 68, .inl 71, .inl 74, .inl 77, .inr 0]), .inl (3, [.inr 0, .inr 0, .inl 57, .inr 0]), .inl (2, [.inl 58]), .inr (false, 12), .inl (3, [.inr 0, .inr 0, .inl 60, .inr 0]), .inl (2, [.inl 61]), .inr (false, 30), .inl (3, [.inr 0, .inr 0, .inl 63, .inr 0]), .inl (2, [.inl 64]), .inr (false, 8), .inl (3, [.inr 0, .inr 0, .inl 66, .inr 0]), .inl (2, [.inl 67]), .inr (false, 15), .inl (3, [.inr 0, .inr 0, .inl 69, .inr 0]), .inl (2, [.inl 70]), .inr (false, 24), .inl (3, [.inr 0, .inr 0, .inl 72, .inr 0]), .inl (2, [.inl 73]), .inr (false, 24), .inl (3, [.inr 0, .inr 0, .inl 75, .inr 0]), .inl (2, [.inl 76]), .inr (false, 152), .inl (4, [.inl 78, .inl 80, .inr 0, .inr 0]), .inl (2, [.inl 79]), .inr (false, 400), .inl (2, [.inl 81]), .inr (false, 20), .inl (0, [.inl 83, .inl 86, .inl 89, .inl 92, .inl 95, .inl 98, .inl 101, .inl 104, .inr 0]), .inl (3, [.inr 0, .inr 0, .inl 84, .inr 0]), .inl (2, [.inl 85]), .inr (false, 12), .inl (3, [.inr 0, .inr 0, .inl 87, .inr 0]), .inl (2, [.inl 88]), .inr (false, 30), .inl (3, [.inr 0, .inr 0, .inl 90, .inr 0]), .inl (2, [.inl 91]), .inr (false, 8), .inl (3, [.inr 0, .inr 0, .inl 93, .inr 0]), .inl (2, [.inl 94]), .inr (false, 15), .inl (3, [.inr 0, .inr 0, .inl 96, .inr 0]), .inl (2, [.inl 97]), .inr (false, 24), .inl (3, [.inr 0, .inr 0, .inl 99, .inr 0]), .inl (2, [.inl 100]), .inr (false, 24), .inl (3, [.inr 0, .inr 0, .inl 102, .inr 0]), .inl (2, [.inl 103]), .inr (false, 152), .inl (4, [.inl 105, .inl 107, .inr 0, .inr 0]), .inl (2, [.inl 106]), .inr (false, 400), .inl (2, [.inl 108]), .inr (false, 20), .inl (1, [.inl 110, .inr 0, .inr 0, .inr 0, .inr 0, .inr 0]), .inl (2, [.inl 111]), .inr (false, 150), .inl (2, [.inl 113]), .inr (false, 3), .inl (2, [.inl 115]), .inr (false, 61), .inl (2, [.inl 117]), .inr (false, 61), .inl (2, [.inl 119]), .inr (false, 100), .inl (2, [.inl 121]), .inr (false, 36), .inl (2, [.inl 123]), .inr (false, 64), .inl (6, [.inl 125, .inl 126, .inl 127, .inr 0, .inr 2, .inr 2, .inl 128, .inr 0, .inr 0, .inr 0, .inl 129, .inl 130, .inl 131, .inl 132, .inl 133, .inr 0, .inl 134, .inl 135, .inl 136, .inl 137, .inr 2]), .inr (false, 1146), .inr (true, 2), .inr (false, 150), .inr (false, 3), .inr (false, 20), .inr (false, 20), .inr (false, 6), .inr (false, 61), .inr (false, 61), .inr (false, 36), .inr (false, 7), .inr (false, 6), .inr (false, 6)]
def zsh (k : Nat) : Sh := shL.getD k (.inr (true, 0))
def zg : Gm := (138, 4988, zsh)
def zE (P : Int → Mem → Prop) : En := ((138, 4988), (0, fun _ => 0), fun x g' D' => g' = zg ∧ P x D')
theorem zE1 (P : Int → Mem → Prop) : (zg.1 = (zE P).1.1) = True := eq_true rfl
theorem zE2 (P : Int → Mem → Prop) : (zg.2.1 = (zE P).1.2) = True := eq_true rfl
theorem zE3 (P : Int → Mem → Prop) (x : Int) (D : Mem) : (zE P).2.2 x zg D = P x D := propext ⟨fun h => h.2, fun h => ⟨rfl, h⟩⟩
abbrev zC (M : MI) (as : List AV) (D : Mem) (P : Int → Mem → Prop) : Prop := z_Cu M as zg D P
theorem zC.go {M : MI} {as ls : List AV} {D : Mem} {P : Int → Mem → Prop} {K : En → WP} (hM : z_MI M) (hs : ∀ E, z_Snd M E 0 (K E)) (hl : zent as (mN M) = ls) (hn : (zal as).length ≤ mN M) (h : K (zE P) ls [] zg D) : zC M as D P := by
  refine z_Ct.of (K := K (zE P)) hM hl hn ?_ h
  exact hs (zE P)
abbrev zW (M : MI) (P : Int → Mem → Prop) (pc : Nat) (ls : List AV) (D : Mem) : Prop := z_WF M (zE P) pc ls [] zg D
theorem fr_of {o ci k t : Nat} {ks : List Kd} (h : zsh o = .inl (ci, ks)) (ho : o < 138) (hk : ks[k]? = some (.inl t)) : z_fr zg o ci k t := ⟨ho, ks, h, hk⟩
theorem zf_of {o ci k t : Nat} {ks : List Kd} (h : zsh o = .inl (ci, ks)) (hk : ks[k]? = some (.inl t)) : zf zg o k = t := by
  unfold zf
  rw [show zg.2.2 o = .inl (ci, ks) from h]
  show (match ks[k]? with | some (.inl t) => t | _ => 0) = t
  rw [hk]
theorem f_of {o ci k kd : Nat} {ks : List Kd} (h : zsh o = .inl (ci, ks)) (ho : o < 138) (hk : ks[k]? = some (.inr kd)) : z_f zg o ci k kd := ⟨ho, ks, h, hk⟩
theorem o_of {o ci : Nat} {ks : List Kd} (h : zsh o = .inl (ci, ks)) (ho : o < 138) : z_o zg o ci := ⟨ho, ks, h⟩
theorem a_of {o n : Nat} {bz : Bool} (h : zsh o = .inr (bz, n)) (ho : o < 138) (hn : n < 2147483648) : z_a zg o bz := ⟨ho, n, hn, h⟩
theorem n_of {o n : Nat} {bz : Bool} (h : zsh o = .inr (bz, n)) : zn zg o = n := by
  unfold zn
  rw [show zg.2.2 o = .inr (bz, n) from h]
/-- a Row and its array; a Rows, its Row, its array; a Back -/
def zRow (o a : Nat) (len : Nat) : Prop := zsh o = .inl (2, [.inl a]) ∧ o < 138 ∧ zsh a = .inr (false, len) ∧ a < 138 ∧ len < 2000
def zRows (o r a : Nat) (lim wid : Nat) : Prop := zsh o = .inl (3, [.inr 0, .inr 0, .inl r, .inr 0]) ∧ o < 138 ∧ zRow r a (lim * wid) ∧ o ≠ a
def zBk (b : Nat) : Prop := zsh b = .inl (0, [.inl (b + 1), .inl (b + 4), .inl (b + 7), .inl (b + 10), .inl (b + 13), .inl (b + 16), .inl (b + 19), .inl (b + 22), .inr 0]) ∧ b < 138 ∧ zRows (b + 1) (b + 2) (b + 3) 6 2 ∧ zRows (b + 4) (b + 5) (b + 6) 6 5 ∧ zRows (b + 7) (b + 8) (b + 9) 4 2 ∧ zRows (b + 10) (b + 11) (b + 12) 5 3 ∧ zRows (b + 13) (b + 14) (b + 15) 6 4 ∧ zRows (b + 16) (b + 17) (b + 18) 6 4 ∧ zRows (b + 19) (b + 20) (b + 21) 8 19 ∧ zsh (b + 22) = .inl (4, [.inl (b + 23), .inl (b + 25), .inr 0, .inr 0]) ∧ b + 22 < 138 ∧ zRow (b + 23) (b + 24) 400 ∧ zRow (b + 25) (b + 26) 20
theorem zRow.o {o a len : Nat} (h : zRow o a len) : z_o zg o 2 := o_of h.1 h.2.1
theorem zRow.fr {o a len : Nat} (h : zRow o a len) : z_fr zg o 2 0 a := fr_of h.1 h.2.1 rfl
theorem zRow.zf {o a len : Nat} (h : zRow o a len) : zf zg o 0 = a := zf_of h.1 rfl
theorem zRow.a {o a len : Nat} (h : zRow o a len) : z_a zg a false := a_of h.2.2.1 h.2.2.2.1 (by have := h.2.2.2.2; omega)
theorem zRow.n {o a len : Nat} (h : zRow o a len) : zn zg a = len := n_of h.2.2.1
theorem zRows.o {o r a lim wid : Nat} (h : zRows o r a lim wid) : z_o zg o 3 := o_of h.1 h.2.1
theorem zRows.f0 {o r a lim wid : Nat} (h : zRows o r a lim wid) : z_f zg o 3 0 0 := f_of h.1 h.2.1 rfl
theorem zRows.f1 {o r a lim wid : Nat} (h : zRows o r a lim wid) : z_f zg o 3 1 0 := f_of h.1 h.2.1 rfl
theorem zRows.f3 {o r a lim wid : Nat} (h : zRows o r a lim wid) : z_f zg o 3 3 0 := f_of h.1 h.2.1 rfl
theorem zRows.fr {o r a lim wid : Nat} (h : zRows o r a lim wid) : z_fr zg o 3 2 r := fr_of h.1 h.2.1 rfl
theorem zRows.zf {o r a lim wid : Nat} (h : zRows o r a lim wid) : zf zg o 2 = r := zf_of h.1 rfl
theorem zRows.row {o r a lim wid : Nat} (h : zRows o r a lim wid) : zRow r a (lim * wid) := h.2.2.1
theorem zBk.o {b : Nat} (h : zBk b) : z_o zg b 0 := o_of h.1 h.2.1
theorem zBk.m {b : Nat} (h : zBk b) : z_f zg b 0 8 0 := f_of h.1 h.2.1 rfl
theorem zBk.fr0 {b : Nat} (h : zBk b) : z_fr zg b 0 0 (b + 1) := fr_of h.1 h.2.1 rfl
theorem zBk.zf0 {b : Nat} (h : zBk b) : zf zg b 0 = b + 1 := zf_of h.1 rfl
theorem zBk.fr1 {b : Nat} (h : zBk b) : z_fr zg b 0 1 (b + 4) := fr_of h.1 h.2.1 rfl
theorem zBk.zf1 {b : Nat} (h : zBk b) : zf zg b 1 = b + 4 := zf_of h.1 rfl
theorem zBk.fr2 {b : Nat} (h : zBk b) : z_fr zg b 0 2 (b + 7) := fr_of h.1 h.2.1 rfl
theorem zBk.zf2 {b : Nat} (h : zBk b) : zf zg b 2 = b + 7 := zf_of h.1 rfl
theorem zBk.fr3 {b : Nat} (h : zBk b) : z_fr zg b 0 3 (b + 10) := fr_of h.1 h.2.1 rfl
theorem zBk.zf3 {b : Nat} (h : zBk b) : zf zg b 3 = b + 10 := zf_of h.1 rfl
theorem zBk.fr4 {b : Nat} (h : zBk b) : z_fr zg b 0 4 (b + 13) := fr_of h.1 h.2.1 rfl
theorem zBk.zf4 {b : Nat} (h : zBk b) : zf zg b 4 = b + 13 := zf_of h.1 rfl
theorem zBk.fr5 {b : Nat} (h : zBk b) : z_fr zg b 0 5 (b + 16) := fr_of h.1 h.2.1 rfl
theorem zBk.zf5 {b : Nat} (h : zBk b) : zf zg b 5 = b + 16 := zf_of h.1 rfl
theorem zBk.fr6 {b : Nat} (h : zBk b) : z_fr zg b 0 6 (b + 19) := fr_of h.1 h.2.1 rfl
theorem zBk.zf6 {b : Nat} (h : zBk b) : zf zg b 6 = b + 19 := zf_of h.1 rfl
theorem zBk.fr7 {b : Nat} (h : zBk b) : z_fr zg b 0 7 (b + 22) := fr_of h.1 h.2.1 rfl
theorem zBk.zf7 {b : Nat} (h : zBk b) : zf zg b 7 = b + 22 := zf_of h.1 rfl
theorem zBk.r0 {b : Nat} (h : zBk b) : zRows (b + 1) (b + 2) (b + 3) 6 2 := h.2.2.1
theorem zBk.r1 {b : Nat} (h : zBk b) : zRows (b + 4) (b + 5) (b + 6) 6 5 := h.2.2.2.1
theorem zBk.r2 {b : Nat} (h : zBk b) : zRows (b + 7) (b + 8) (b + 9) 4 2 := h.2.2.2.2.1
theorem zBk.r3 {b : Nat} (h : zBk b) : zRows (b + 10) (b + 11) (b + 12) 5 3 := h.2.2.2.2.2.1
theorem zBk.r4 {b : Nat} (h : zBk b) : zRows (b + 13) (b + 14) (b + 15) 6 4 := h.2.2.2.2.2.2.1
theorem zBk.r5 {b : Nat} (h : zBk b) : zRows (b + 16) (b + 17) (b + 18) 6 4 := h.2.2.2.2.2.2.2.1
theorem zBk.r6 {b : Nat} (h : zBk b) : zRows (b + 19) (b + 20) (b + 21) 8 19 := h.2.2.2.2.2.2.2.2.1
theorem zBk.wo {b : Nat} (h : zBk b) : z_o zg (b + 22) 4 := o_of h.2.2.2.2.2.2.2.2.2.1 h.2.2.2.2.2.2.2.2.2.2.1
theorem zBk.ws {b : Nat} (h : zBk b) : z_fr zg (b + 22) 4 0 (b + 23) := fr_of h.2.2.2.2.2.2.2.2.2.1 h.2.2.2.2.2.2.2.2.2.2.1 rfl
theorem zBk.wq {b : Nat} (h : zBk b) : z_fr zg (b + 22) 4 1 (b + 25) := fr_of h.2.2.2.2.2.2.2.2.2.1 h.2.2.2.2.2.2.2.2.2.2.1 rfl
theorem zBk.zs {b : Nat} (h : zBk b) : zf zg (b + 22) 0 = b + 23 := zf_of h.2.2.2.2.2.2.2.2.2.1 rfl
theorem zBk.zq {b : Nat} (h : zBk b) : zf zg (b + 22) 1 = b + 25 := zf_of h.2.2.2.2.2.2.2.2.2.1 rfl
theorem zBk.wk {b : Nat} (h : zBk b) : z_f zg (b + 22) 4 2 0 := f_of h.2.2.2.2.2.2.2.2.2.1 h.2.2.2.2.2.2.2.2.2.2.1 rfl
theorem zBk.wp {b : Nat} (h : zBk b) : z_f zg (b + 22) 4 3 0 := f_of h.2.2.2.2.2.2.2.2.2.1 h.2.2.2.2.2.2.2.2.2.2.1 rfl
theorem zBk.rs {b : Nat} (h : zBk b) : zRow (b + 23) (b + 24) 400 := h.2.2.2.2.2.2.2.2.2.2.2.1
theorem zBk.rq {b : Nat} (h : zBk b) : zRow (b + 25) (b + 26) 20 := h.2.2.2.2.2.2.2.2.2.2.2.2
theorem bk1 : zBk 1 := by
  unfold zBk zRows zRow
  repeat' (first | (with_reducible apply And.intro) | rfl | decide)
theorem bk2 : zBk 28 := by
  unfold zBk zRows zRow
  repeat' (first | (with_reducible apply And.intro) | rfl | decide)
theorem bk3 : zBk 55 := by
  unfold zBk zRows zRow
  repeat' (first | (with_reducible apply And.intro) | rfl | decide)
theorem bk4 : zBk 82 := by
  unfold zBk zRows zRow
  repeat' (first | (with_reducible apply And.intro) | rfl | decide)
/-- the blocks outside lo .. hi are as they were -/
def Fr (lo hi : Nat) (D D' : Mem) : Prop := ∀ o, o < lo ∨ hi ≤ o → D' o = D o
theorem Fr.rfl {lo hi : Nat} {D : Mem} : Fr lo hi D D := fun _ _ => Eq.refl _
theorem Fr.trans {lo hi : Nat} {D D1 D2 : Mem} (h : Fr lo hi D D1) (h2 : Fr lo hi D1 D2) : Fr lo hi D D2 := fun o ho => (h2 o ho).trans (h o ho)
theorem Fr.wide {lo hi lo' hi' : Nat} {D D1 : Mem} (h : Fr lo hi D D1) (h1 : lo' ≤ lo) (h2 : hi ≤ hi') : Fr lo' hi' D D1 := fun o ho => h o (by omega)
theorem Fr.up {lo hi o : Nat} {D : Mem} {k x : Int} (h1 : lo ≤ o) (h2 : o < hi) : Fr lo hi D (zU D o k x) := fun o' ho => zU_ne (by omega)
theorem zU_s {D : Mem} {o : Nat} {k x : Int} : zU D o k x o k = x := by simp [zU]
theorem zU_k {D : Mem} {o o' : Nat} {k k' x : Int} (h : k' ≠ k) : zU D o k x o' k' = D o' k' := by simp [zU, h]
theorem zU_o {D : Mem} {o o' : Nat} {k k' x : Int} (h : o' ≠ o) : zU D o k x o' k' = D o' k' := by simp [zU, h]
