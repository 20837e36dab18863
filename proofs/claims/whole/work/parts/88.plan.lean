/-! TEACH: the class's plan, copied; its stand, begun anew -/
section
theorem bnd_i {α β : Type} {a x : α} {f : α → Option β} {q : β} (h : a = x) (e : f x = some q) : bnd a f = some q := by subst h; exact e
theorem row_c_le {N M : Nat} {f g : Nat → Int32} (h : N = M) : eqN N (row_c N f M g) g := by subst h; exact row_c_eq
def PCP (v q : Va) : Prop := (∀ p, p < 61 ∨ 97 ≤ p → q p = v p) ∧ (q 61 0 = v 13 0 ∧ q 61 1 = v 13 1 ∧ q 61 2 = v 13 2 ∧ q 61 3 = v 13 3 ∧ q 61 4 = v 13 4) ∧ eqN 4 (q 63) (v 15) ∧ eqN 4 (q 65) (v 17) ∧ eqN 4 (q 67) (v 19) ∧ eqN 6 (q 69) (v 21) ∧ eqN 6 (q 71) (v 23) ∧ eqN 10 (q 73) (v 25) ∧ eqN 10 (q 75) (v 27) ∧ eqN 10 (q 77) (v 29) ∧ eqN 24 (q 79) (v 31) ∧ eqN 24 (q 81) (v 33) ∧ eqN 24 (q 83) (v 35) ∧ eqN 24 (q 85) (v 37) ∧ eqN 24 (q 87) (v 39) ∧ eqN 24 (q 89) (v 41) ∧ q 90 0 = v 42 0 ∧ eqN 400 (q 92) (v 44) ∧ eqN 400 (q 94) (v 46) ∧ eqN 400 (q 96) (v 48)
theorem cp_plan (v : Va) : ∃ q, f_Plan_copyFrom v 61 13 = some q ∧ PCP v q := by
  obtain ⟨x0, e0⟩ : ∃ x, pu v 61 0 (v 13 0) = x := ⟨_, rfl⟩
  have h0 : ∀ p, p ≠ 61 → x0 p = v p := fun p hp => by rw [← e0]; unfold pu; rw [up_ne hp]
  have g0 : x0 61 0 = v 13 0 := by rw [← e0]; unfold pu; rw [up_eq, upd_eq]
  have m0 : ∀ i, i ≠ 0 → x0 61 i = v 61 i := fun i hi => by rw [← e0]; unfold pu; rw [up_eq, upd_ne hi]
  obtain ⟨x1, e1⟩ : ∃ x, pu x0 61 1 (x0 13 1) = x := ⟨_, rfl⟩
  have h1 : ∀ p, p ≠ 61 → x1 p = x0 p := fun p hp => by rw [← e1]; unfold pu; rw [up_ne hp]
  have g1 : x1 61 1 = x0 13 1 := by rw [← e1]; unfold pu; rw [up_eq, upd_eq]
  have m1 : ∀ i, i ≠ 1 → x1 61 i = x0 61 i := fun i hi => by rw [← e1]; unfold pu; rw [up_eq, upd_ne hi]
  obtain ⟨x2, e2⟩ : ∃ x, pu x1 61 2 (x1 13 2) = x := ⟨_, rfl⟩
  have h2 : ∀ p, p ≠ 61 → x2 p = x1 p := fun p hp => by rw [← e2]; unfold pu; rw [up_ne hp]
  have g2 : x2 61 2 = x1 13 2 := by rw [← e2]; unfold pu; rw [up_eq, upd_eq]
  have m2 : ∀ i, i ≠ 2 → x2 61 i = x1 61 i := fun i hi => by rw [← e2]; unfold pu; rw [up_eq, upd_ne hi]
  obtain ⟨x3, e3⟩ : ∃ x, pu x2 61 3 (x2 13 3) = x := ⟨_, rfl⟩
  have h3 : ∀ p, p ≠ 61 → x3 p = x2 p := fun p hp => by rw [← e3]; unfold pu; rw [up_ne hp]
  have g3 : x3 61 3 = x2 13 3 := by rw [← e3]; unfold pu; rw [up_eq, upd_eq]
  have m3 : ∀ i, i ≠ 3 → x3 61 i = x2 61 i := fun i hi => by rw [← e3]; unfold pu; rw [up_eq, upd_ne hi]
  obtain ⟨x4, e4⟩ : ∃ x, pu x3 61 4 (x3 13 4) = x := ⟨_, rfl⟩
  have h4 : ∀ p, p ≠ 61 → x4 p = x3 p := fun p hp => by rw [← e4]; unfold pu; rw [up_ne hp]
  have g4 : x4 61 4 = x3 13 4 := by rw [← e4]; unfold pu; rw [up_eq, upd_eq]
  have m4 : ∀ i, i ≠ 4 → x4 61 i = x3 61 i := fun i hi => by rw [← e4]; unfold pu; rw [up_eq, upd_ne hi]
  obtain ⟨x5, e5⟩ : ∃ x, up x4 63 (row_c 4 (x4 63) 4 (x4 15)) = x := ⟨_, rfl⟩
  have h5 : ∀ p, p ≠ 63 → x5 p = x4 p := fun p hp => by rw [← e5, up_ne hp]
  have g5 : eqN 4 (x5 63) (x4 15) := by rw [← e5, up_eq]; exact row_c_eq
  obtain ⟨x6, e6⟩ : ∃ x, up x5 65 (row_c 4 (x5 65) 4 (x5 17)) = x := ⟨_, rfl⟩
  have h6 : ∀ p, p ≠ 65 → x6 p = x5 p := fun p hp => by rw [← e6, up_ne hp]
  have g6 : eqN 4 (x6 65) (x5 17) := by rw [← e6, up_eq]; exact row_c_eq
  obtain ⟨x7, e7⟩ : ∃ x, up x6 67 (row_c 4 (x6 67) 4 (x6 19)) = x := ⟨_, rfl⟩
  have h7 : ∀ p, p ≠ 67 → x7 p = x6 p := fun p hp => by rw [← e7, up_ne hp]
  have g7 : eqN 4 (x7 67) (x6 19) := by rw [← e7, up_eq]; exact row_c_eq
  obtain ⟨x8, e8⟩ : ∃ x, up x7 69 (row_c 6 (x7 69) 6 (x7 21)) = x := ⟨_, rfl⟩
  have h8 : ∀ p, p ≠ 69 → x8 p = x7 p := fun p hp => by rw [← e8, up_ne hp]
  have g8 : eqN 6 (x8 69) (x7 21) := by rw [← e8, up_eq]; exact row_c_eq
  obtain ⟨x9, e9⟩ : ∃ x, up x8 71 (row_c 6 (x8 71) 6 (x8 23)) = x := ⟨_, rfl⟩
  have h9 : ∀ p, p ≠ 71 → x9 p = x8 p := fun p hp => by rw [← e9, up_ne hp]
  have g9 : eqN 6 (x9 71) (x8 23) := by rw [← e9, up_eq]; exact row_c_eq
  obtain ⟨x10, e10⟩ : ∃ x, up x9 73 (row_c 10 (x9 73) 10 (x9 25)) = x := ⟨_, rfl⟩
  have h10 : ∀ p, p ≠ 73 → x10 p = x9 p := fun p hp => by rw [← e10, up_ne hp]
  have g10 : eqN 10 (x10 73) (x9 25) := by rw [← e10, up_eq]; exact row_c_eq
  obtain ⟨x11, e11⟩ : ∃ x, up x10 75 (row_c 10 (x10 75) 10 (x10 27)) = x := ⟨_, rfl⟩
  have h11 : ∀ p, p ≠ 75 → x11 p = x10 p := fun p hp => by rw [← e11, up_ne hp]
  have g11 : eqN 10 (x11 75) (x10 27) := by rw [← e11, up_eq]; exact row_c_eq
  obtain ⟨x12, e12⟩ : ∃ x, up x11 77 (row_c 10 (x11 77) 10 (x11 29)) = x := ⟨_, rfl⟩
  have h12 : ∀ p, p ≠ 77 → x12 p = x11 p := fun p hp => by rw [← e12, up_ne hp]
  have g12 : eqN 10 (x12 77) (x11 29) := by rw [← e12, up_eq]; exact row_c_eq
  obtain ⟨x13, e13⟩ : ∃ x, up x12 79 (row_c 24 (x12 79) 24 (x12 31)) = x := ⟨_, rfl⟩
  have h13 : ∀ p, p ≠ 79 → x13 p = x12 p := fun p hp => by rw [← e13, up_ne hp]
  have g13 : eqN 24 (x13 79) (x12 31) := by rw [← e13, up_eq]; exact row_c_eq
  obtain ⟨x14, e14⟩ : ∃ x, up x13 81 (row_c 24 (x13 81) 24 (x13 33)) = x := ⟨_, rfl⟩
  have h14 : ∀ p, p ≠ 81 → x14 p = x13 p := fun p hp => by rw [← e14, up_ne hp]
  have g14 : eqN 24 (x14 81) (x13 33) := by rw [← e14, up_eq]; exact row_c_eq
  obtain ⟨x15, e15⟩ : ∃ x, up x14 83 (row_c 24 (x14 83) 24 (x14 35)) = x := ⟨_, rfl⟩
  have h15 : ∀ p, p ≠ 83 → x15 p = x14 p := fun p hp => by rw [← e15, up_ne hp]
  have g15 : eqN 24 (x15 83) (x14 35) := by rw [← e15, up_eq]; exact row_c_eq
  obtain ⟨x16, e16⟩ : ∃ x, up x15 85 (row_c 24 (x15 85) 24 (x15 37)) = x := ⟨_, rfl⟩
  have h16 : ∀ p, p ≠ 85 → x16 p = x15 p := fun p hp => by rw [← e16, up_ne hp]
  have g16 : eqN 24 (x16 85) (x15 37) := by rw [← e16, up_eq]; exact row_c_eq
  obtain ⟨x17, e17⟩ : ∃ x, up x16 87 (row_c 24 (x16 87) 24 (x16 39)) = x := ⟨_, rfl⟩
  have h17 : ∀ p, p ≠ 87 → x17 p = x16 p := fun p hp => by rw [← e17, up_ne hp]
  have g17 : eqN 24 (x17 87) (x16 39) := by rw [← e17, up_eq]; exact row_c_eq
  obtain ⟨x18, e18⟩ : ∃ x, up x17 89 (row_c 24 (x17 89) 24 (x17 41)) = x := ⟨_, rfl⟩
  have h18 : ∀ p, p ≠ 89 → x18 p = x17 p := fun p hp => by rw [← e18, up_ne hp]
  have g18 : eqN 24 (x18 89) (x17 41) := by rw [← e18, up_eq]; exact row_c_eq
  obtain ⟨x19, e19⟩ : ∃ x, pu x18 90 0 (x18 42 0) = x := ⟨_, rfl⟩
  have h19 : ∀ p, p ≠ 90 → x19 p = x18 p := fun p hp => by rw [← e19]; unfold pu; rw [up_ne hp]
  have g19 : x19 90 0 = x18 42 0 := by rw [← e19]; unfold pu; rw [up_eq, upd_eq]
  obtain ⟨x20, e20⟩ : ∃ x, up x19 92 (row_c 400 (x19 92) 400 (x19 44)) = x := ⟨_, rfl⟩
  have h20 : ∀ p, p ≠ 92 → x20 p = x19 p := fun p hp => by rw [← e20, up_ne hp]
  have g20 : eqN 400 (x20 92) (x19 44) := by rw [← e20, up_eq]; exact row_c_eq
  obtain ⟨x21, e21⟩ : ∃ x, up x20 94 (row_c 400 (x20 94) 400 (x20 46)) = x := ⟨_, rfl⟩
  have h21 : ∀ p, p ≠ 94 → x21 p = x20 p := fun p hp => by rw [← e21, up_ne hp]
  have g21 : eqN 400 (x21 94) (x20 46) := by rw [← e21, up_eq]; exact row_c_eq
  obtain ⟨x22, e22⟩ : ∃ x, up x21 96 (row_c 400 (x21 96) 400 (x21 48)) = x := ⟨_, rfl⟩
  have h22 : ∀ p, p ≠ 96 → x22 p = x21 p := fun p hp => by rw [← e22, up_ne hp]
  have g22 : eqN 400 (x22 96) (x21 48) := by rw [← e22, up_eq]; exact row_c_eq
  have hs : f_Steps_copyFrom x18 (61 + 29) (13 + 29) = some x22 := bnd_i e19 (bnd_i e20 (bnd_i e21 (bnd_i e22 (rfl))))
  refine ⟨x22, bnd_i e0 (bnd_i e1 (bnd_i e2 (bnd_i e3 (bnd_i e4 (bnd_i e5 (bnd_i e6 (bnd_i e7 (bnd_i e8 (bnd_i e9 (bnd_i e10 (bnd_i e11 (bnd_i e12 (bnd_i e13 (bnd_i e14 (bnd_i e15 (bnd_i e16 (bnd_i e17 (bnd_i e18 ((by rw [hs, ob])))))))))))))))))))), fun p hp => ?_, ?_⟩
  · rw [h22 p (by omega), h21 p (by omega), h20 p (by omega), h19 p (by omega), h18 p (by omega), h17 p (by omega), h16 p (by omega), h15 p (by omega), h14 p (by omega), h13 p (by omega), h12 p (by omega), h11 p (by omega), h10 p (by omega), h9 p (by omega), h8 p (by omega), h7 p (by omega), h6 p (by omega), h5 p (by omega), h4 p (by omega), h3 p (by omega), h2 p (by omega), h1 p (by omega), h0 p (by omega)]
  refine ⟨⟨?_, ?_, ?_, ?_, ?_⟩, ?_, ?_, ?_, ?_, ?_, ?_, ?_, ?_, ?_, ?_, ?_, ?_, ?_, ?_, ?_, ?_, ?_, ?_⟩
  · rw [h22 61 (by omega), h21 61 (by omega), h20 61 (by omega), h19 61 (by omega), h18 61 (by omega), h17 61 (by omega), h16 61 (by omega), h15 61 (by omega), h14 61 (by omega), h13 61 (by omega), h12 61 (by omega), h11 61 (by omega), h10 61 (by omega), h9 61 (by omega), h8 61 (by omega), h7 61 (by omega), h6 61 (by omega), h5 61 (by omega), m4 0 (by omega), m3 0 (by omega), m2 0 (by omega), m1 0 (by omega), g0]
  · rw [h22 61 (by omega), h21 61 (by omega), h20 61 (by omega), h19 61 (by omega), h18 61 (by omega), h17 61 (by omega), h16 61 (by omega), h15 61 (by omega), h14 61 (by omega), h13 61 (by omega), h12 61 (by omega), h11 61 (by omega), h10 61 (by omega), h9 61 (by omega), h8 61 (by omega), h7 61 (by omega), h6 61 (by omega), h5 61 (by omega), m4 1 (by omega), m3 1 (by omega), m2 1 (by omega), g1, h0 13 (by omega)]
  · rw [h22 61 (by omega), h21 61 (by omega), h20 61 (by omega), h19 61 (by omega), h18 61 (by omega), h17 61 (by omega), h16 61 (by omega), h15 61 (by omega), h14 61 (by omega), h13 61 (by omega), h12 61 (by omega), h11 61 (by omega), h10 61 (by omega), h9 61 (by omega), h8 61 (by omega), h7 61 (by omega), h6 61 (by omega), h5 61 (by omega), m4 2 (by omega), m3 2 (by omega), g2, h1 13 (by omega), h0 13 (by omega)]
  · rw [h22 61 (by omega), h21 61 (by omega), h20 61 (by omega), h19 61 (by omega), h18 61 (by omega), h17 61 (by omega), h16 61 (by omega), h15 61 (by omega), h14 61 (by omega), h13 61 (by omega), h12 61 (by omega), h11 61 (by omega), h10 61 (by omega), h9 61 (by omega), h8 61 (by omega), h7 61 (by omega), h6 61 (by omega), h5 61 (by omega), m4 3 (by omega), g3, h2 13 (by omega), h1 13 (by omega), h0 13 (by omega)]
  · rw [h22 61 (by omega), h21 61 (by omega), h20 61 (by omega), h19 61 (by omega), h18 61 (by omega), h17 61 (by omega), h16 61 (by omega), h15 61 (by omega), h14 61 (by omega), h13 61 (by omega), h12 61 (by omega), h11 61 (by omega), h10 61 (by omega), h9 61 (by omega), h8 61 (by omega), h7 61 (by omega), h6 61 (by omega), h5 61 (by omega), g4, h3 13 (by omega), h2 13 (by omega), h1 13 (by omega), h0 13 (by omega)]
  · rw [h22 63 (by omega), h21 63 (by omega), h20 63 (by omega), h19 63 (by omega), h18 63 (by omega), h17 63 (by omega), h16 63 (by omega), h15 63 (by omega), h14 63 (by omega), h13 63 (by omega), h12 63 (by omega), h11 63 (by omega), h10 63 (by omega), h9 63 (by omega), h8 63 (by omega), h7 63 (by omega), h6 63 (by omega)]
    have hg := g5
    rw [h4 15 (by omega), h3 15 (by omega), h2 15 (by omega), h1 15 (by omega), h0 15 (by omega)] at hg
    exact hg
  · rw [h22 65 (by omega), h21 65 (by omega), h20 65 (by omega), h19 65 (by omega), h18 65 (by omega), h17 65 (by omega), h16 65 (by omega), h15 65 (by omega), h14 65 (by omega), h13 65 (by omega), h12 65 (by omega), h11 65 (by omega), h10 65 (by omega), h9 65 (by omega), h8 65 (by omega), h7 65 (by omega)]
    have hg := g6
    rw [h5 17 (by omega), h4 17 (by omega), h3 17 (by omega), h2 17 (by omega), h1 17 (by omega), h0 17 (by omega)] at hg
    exact hg
  · rw [h22 67 (by omega), h21 67 (by omega), h20 67 (by omega), h19 67 (by omega), h18 67 (by omega), h17 67 (by omega), h16 67 (by omega), h15 67 (by omega), h14 67 (by omega), h13 67 (by omega), h12 67 (by omega), h11 67 (by omega), h10 67 (by omega), h9 67 (by omega), h8 67 (by omega)]
    have hg := g7
    rw [h6 19 (by omega), h5 19 (by omega), h4 19 (by omega), h3 19 (by omega), h2 19 (by omega), h1 19 (by omega), h0 19 (by omega)] at hg
    exact hg
  · rw [h22 69 (by omega), h21 69 (by omega), h20 69 (by omega), h19 69 (by omega), h18 69 (by omega), h17 69 (by omega), h16 69 (by omega), h15 69 (by omega), h14 69 (by omega), h13 69 (by omega), h12 69 (by omega), h11 69 (by omega), h10 69 (by omega), h9 69 (by omega)]
    have hg := g8
    rw [h7 21 (by omega), h6 21 (by omega), h5 21 (by omega), h4 21 (by omega), h3 21 (by omega), h2 21 (by omega), h1 21 (by omega), h0 21 (by omega)] at hg
    exact hg
  · rw [h22 71 (by omega), h21 71 (by omega), h20 71 (by omega), h19 71 (by omega), h18 71 (by omega), h17 71 (by omega), h16 71 (by omega), h15 71 (by omega), h14 71 (by omega), h13 71 (by omega), h12 71 (by omega), h11 71 (by omega), h10 71 (by omega)]
    have hg := g9
    rw [h8 23 (by omega), h7 23 (by omega), h6 23 (by omega), h5 23 (by omega), h4 23 (by omega), h3 23 (by omega), h2 23 (by omega), h1 23 (by omega), h0 23 (by omega)] at hg
    exact hg
  · rw [h22 73 (by omega), h21 73 (by omega), h20 73 (by omega), h19 73 (by omega), h18 73 (by omega), h17 73 (by omega), h16 73 (by omega), h15 73 (by omega), h14 73 (by omega), h13 73 (by omega), h12 73 (by omega), h11 73 (by omega)]
    have hg := g10
    rw [h9 25 (by omega), h8 25 (by omega), h7 25 (by omega), h6 25 (by omega), h5 25 (by omega), h4 25 (by omega), h3 25 (by omega), h2 25 (by omega), h1 25 (by omega), h0 25 (by omega)] at hg
    exact hg
  · rw [h22 75 (by omega), h21 75 (by omega), h20 75 (by omega), h19 75 (by omega), h18 75 (by omega), h17 75 (by omega), h16 75 (by omega), h15 75 (by omega), h14 75 (by omega), h13 75 (by omega), h12 75 (by omega)]
    have hg := g11
    rw [h10 27 (by omega), h9 27 (by omega), h8 27 (by omega), h7 27 (by omega), h6 27 (by omega), h5 27 (by omega), h4 27 (by omega), h3 27 (by omega), h2 27 (by omega), h1 27 (by omega), h0 27 (by omega)] at hg
    exact hg
  · rw [h22 77 (by omega), h21 77 (by omega), h20 77 (by omega), h19 77 (by omega), h18 77 (by omega), h17 77 (by omega), h16 77 (by omega), h15 77 (by omega), h14 77 (by omega), h13 77 (by omega)]
    have hg := g12
    rw [h11 29 (by omega), h10 29 (by omega), h9 29 (by omega), h8 29 (by omega), h7 29 (by omega), h6 29 (by omega), h5 29 (by omega), h4 29 (by omega), h3 29 (by omega), h2 29 (by omega), h1 29 (by omega), h0 29 (by omega)] at hg
    exact hg
  · rw [h22 79 (by omega), h21 79 (by omega), h20 79 (by omega), h19 79 (by omega), h18 79 (by omega), h17 79 (by omega), h16 79 (by omega), h15 79 (by omega), h14 79 (by omega)]
    have hg := g13
    rw [h12 31 (by omega), h11 31 (by omega), h10 31 (by omega), h9 31 (by omega), h8 31 (by omega), h7 31 (by omega), h6 31 (by omega), h5 31 (by omega), h4 31 (by omega), h3 31 (by omega), h2 31 (by omega), h1 31 (by omega), h0 31 (by omega)] at hg
    exact hg
  · rw [h22 81 (by omega), h21 81 (by omega), h20 81 (by omega), h19 81 (by omega), h18 81 (by omega), h17 81 (by omega), h16 81 (by omega), h15 81 (by omega)]
    have hg := g14
    rw [h13 33 (by omega), h12 33 (by omega), h11 33 (by omega), h10 33 (by omega), h9 33 (by omega), h8 33 (by omega), h7 33 (by omega), h6 33 (by omega), h5 33 (by omega), h4 33 (by omega), h3 33 (by omega), h2 33 (by omega), h1 33 (by omega), h0 33 (by omega)] at hg
    exact hg
  · rw [h22 83 (by omega), h21 83 (by omega), h20 83 (by omega), h19 83 (by omega), h18 83 (by omega), h17 83 (by omega), h16 83 (by omega)]
    have hg := g15
    rw [h14 35 (by omega), h13 35 (by omega), h12 35 (by omega), h11 35 (by omega), h10 35 (by omega), h9 35 (by omega), h8 35 (by omega), h7 35 (by omega), h6 35 (by omega), h5 35 (by omega), h4 35 (by omega), h3 35 (by omega), h2 35 (by omega), h1 35 (by omega), h0 35 (by omega)] at hg
    exact hg
  · rw [h22 85 (by omega), h21 85 (by omega), h20 85 (by omega), h19 85 (by omega), h18 85 (by omega), h17 85 (by omega)]
    have hg := g16
    rw [h15 37 (by omega), h14 37 (by omega), h13 37 (by omega), h12 37 (by omega), h11 37 (by omega), h10 37 (by omega), h9 37 (by omega), h8 37 (by omega), h7 37 (by omega), h6 37 (by omega), h5 37 (by omega), h4 37 (by omega), h3 37 (by omega), h2 37 (by omega), h1 37 (by omega), h0 37 (by omega)] at hg
    exact hg
  · rw [h22 87 (by omega), h21 87 (by omega), h20 87 (by omega), h19 87 (by omega), h18 87 (by omega)]
    have hg := g17
    rw [h16 39 (by omega), h15 39 (by omega), h14 39 (by omega), h13 39 (by omega), h12 39 (by omega), h11 39 (by omega), h10 39 (by omega), h9 39 (by omega), h8 39 (by omega), h7 39 (by omega), h6 39 (by omega), h5 39 (by omega), h4 39 (by omega), h3 39 (by omega), h2 39 (by omega), h1 39 (by omega), h0 39 (by omega)] at hg
    exact hg
  · rw [h22 89 (by omega), h21 89 (by omega), h20 89 (by omega), h19 89 (by omega)]
    have hg := g18
    rw [h17 41 (by omega), h16 41 (by omega), h15 41 (by omega), h14 41 (by omega), h13 41 (by omega), h12 41 (by omega), h11 41 (by omega), h10 41 (by omega), h9 41 (by omega), h8 41 (by omega), h7 41 (by omega), h6 41 (by omega), h5 41 (by omega), h4 41 (by omega), h3 41 (by omega), h2 41 (by omega), h1 41 (by omega), h0 41 (by omega)] at hg
    exact hg
  · rw [h22 90 (by omega), h21 90 (by omega), h20 90 (by omega), g19, h18 42 (by omega), h17 42 (by omega), h16 42 (by omega), h15 42 (by omega), h14 42 (by omega), h13 42 (by omega), h12 42 (by omega), h11 42 (by omega), h10 42 (by omega), h9 42 (by omega), h8 42 (by omega), h7 42 (by omega), h6 42 (by omega), h5 42 (by omega), h4 42 (by omega), h3 42 (by omega), h2 42 (by omega), h1 42 (by omega), h0 42 (by omega)]
  · rw [h22 92 (by omega), h21 92 (by omega)]
    have hg := g20
    rw [h19 44 (by omega), h18 44 (by omega), h17 44 (by omega), h16 44 (by omega), h15 44 (by omega), h14 44 (by omega), h13 44 (by omega), h12 44 (by omega), h11 44 (by omega), h10 44 (by omega), h9 44 (by omega), h8 44 (by omega), h7 44 (by omega), h6 44 (by omega), h5 44 (by omega), h4 44 (by omega), h3 44 (by omega), h2 44 (by omega), h1 44 (by omega), h0 44 (by omega)] at hg
    exact hg
  · rw [h22 94 (by omega)]
    have hg := g21
    rw [h20 46 (by omega), h19 46 (by omega), h18 46 (by omega), h17 46 (by omega), h16 46 (by omega), h15 46 (by omega), h14 46 (by omega), h13 46 (by omega), h12 46 (by omega), h11 46 (by omega), h10 46 (by omega), h9 46 (by omega), h8 46 (by omega), h7 46 (by omega), h6 46 (by omega), h5 46 (by omega), h4 46 (by omega), h3 46 (by omega), h2 46 (by omega), h1 46 (by omega), h0 46 (by omega)] at hg
    exact hg
  · skip
    have hg := g22
    rw [h21 48 (by omega), h20 48 (by omega), h19 48 (by omega), h18 48 (by omega), h17 48 (by omega), h16 48 (by omega), h15 48 (by omega), h14 48 (by omega), h13 48 (by omega), h12 48 (by omega), h11 48 (by omega), h10 48 (by omega), h9 48 (by omega), h8 48 (by omega), h7 48 (by omega), h6 48 (by omega), h5 48 (by omega), h4 48 (by omega), h3 48 (by omega), h2 48 (by omega), h1 48 (by omega), h0 48 (by omega)] at hg
    exact hg
end
