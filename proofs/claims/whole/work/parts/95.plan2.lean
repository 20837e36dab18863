/-! WHAT WAS READ, AS PLAN AND STATE -/
section
variable {kn : Nat → Nat} {nt n z s O : Nat} {u0 w u v x q y t0 : Va} {N : Nat → Nat}
theorem E4_13 : (E4 w) 13 0 = w 49 2 ∧ (E4 w) 13 1 = w 52 2 ∧ (E4 w) 13 2 = w 55 2 ∧ (E4 w) 13 3 = w 58 2 ∧ (E4 w) 13 4 = w 13 4 := by
  unfold E4 pu
  simp (disch := omega) only [up_eq, upd_ne, upd_eq]
  exact ⟨trivial, trivial, trivial, trivial, trivial⟩
theorem bI_n {lo hi : Nat} {yy : Int32} (hh : hi ≤ 4000) (hl : lo ≤ 4000) (h : bI (nI lo) (nI hi) yy) : ∃ i, lo ≤ i ∧ i ≤ hi ∧ yy = nI i := in_rng hh hl h.1 h.2
theorem pl_got (hS : Shx kn nt n u0 w u nt N (rbd N) O O s) (hq : PCP x q) (hx : ∀ p, p ≠ 0 → x p = (E4 w) p) (hv : ∀ p, 61 ≤ p → p < 97 → v p = q p) (c3 : ∀ p, n ≤ p → p < n + 22 → v p = u p) : PL v v n (N 0) (N 1) (N 2) (N 3) O := by
  obtain ⟨-, hN, hE, ⟨o1, o2, o3⟩, hrow, hord⟩ := hS
  obtain ⟨a0, a1, a2, -⟩ := hN 0 (by omega)
  obtain ⟨b0, b1, b2, -⟩ := hN 1 (by omega)
  obtain ⟨d0, d1, d2, -⟩ := hN 2 (by omega)
  obtain ⟨g0, g1, g2, -⟩ := hN 3 (by omega)
  have a1 : N 0 ≤ 4 := a1
  have b1 : N 1 ≤ 4 := b1
  have d1 : N 2 ≤ 6 := d1
  have g1 : N 3 ≤ 10 := g1
  obtain ⟨-, ⟨p0, p1, p2, p3, p4⟩, r0, r1, r2, r3, r4, r5, r6, r7, m0, m1, m2, m3, m4, m5, -, -, -, -⟩ := hq
  obtain ⟨E0, E1, E2, E3, E5⟩ := E4_13 (w := w)
  have e : ∀ p, p ≠ 0 → p ≠ 13 → x p = w p := fun p h1 h2 => (hx p h1).trans (E4_ne h2)
  have cu : ∀ i, i < 22 → v (n + i) = u (n + i) := fun i hi => c3 _ (by omega) (by omega)
  have c0 : v n = u n := c3 _ (by omega) (by omega)
  refine ⟨⟨a1, b1, d1, g1, o2⟩, ⟨?_, ?_, ?_, ?_, ?_⟩, ⟨?_, ?_, ?_, ?_, ?_⟩, fun i hi => ?_, fun i hi => ?_, fun i hi => ?_, fun i hi => ?_, fun o ho => ?_⟩
  · rw [hv 61 (by omega) (by omega), p0, hx 13 (by omega), E0]; exact a0
  · rw [hv 61 (by omega) (by omega), p1, hx 13 (by omega), E1]; exact b0
  · rw [hv 61 (by omega) (by omega), p2, hx 13 (by omega), E2]; exact d0
  · rw [hv 61 (by omega) (by omega), p3, hx 13 (by omega), E3]; exact g0
  · rw [hv 61 (by omega) (by omega), p4, hx 13 (by omega), E5]; exact o1
  · rw [c0]; exact a2
  · rw [c0]; exact b2
  · rw [c0]; exact d2
  · rw [c0]; exact g2
  · rw [c0]; exact o3
  · obtain ⟨h1, h2⟩ := hrow 0 (by omega) i hi
    have h1 : w 15 i = u (n + 6) i := h1
    have h2 : bI 0 9 (u (n + 6) i) := h2
    obtain ⟨j, -, j1, j2⟩ := bI_n (lo := 0) (hi := 9) (by omega) (by omega) h2
    rw [hv 63 (by omega) (by omega), cu 6 (by omega), r0 i (by omega), e 15 (by omega) (by omega)]
    exact ⟨h1, j, by omega, j2⟩
  · obtain ⟨h1, h2⟩ := hrow 1 (by omega) i hi
    have h1 : w 17 i = u (n + 8) i := h1
    have h2 : bI 0 99 (u (n + 8) i) := h2
    obtain ⟨h3, h4⟩ := hrow 2 (by omega) i hi
    have h3 : w 19 i = u (n + 9) i := h3
    have h4 : bI 0 20 (u (n + 9) i) := h4
    obtain ⟨j, -, j1, j2⟩ := bI_n (lo := 0) (hi := 99) (by omega) (by omega) h2
    obtain ⟨j', -, j3, j4⟩ := bI_n (lo := 0) (hi := 20) (by omega) (by omega) h4
    rw [hv 65 (by omega) (by omega), hv 67 (by omega) (by omega), cu 8 (by omega), cu 9 (by omega), r1 i (by omega), r2 i (by omega), e 17 (by omega) (by omega), e 19 (by omega) (by omega)]
    exact ⟨h1, h3, ⟨j, by omega, j2⟩, j', by omega, j4⟩
  · obtain ⟨h1, h2⟩ := hrow 4 (by omega) i hi
    have h1 : w 23 i = u (n + 12) i := h1
    have h2 : bI 0 9999 (u (n + 12) i) := h2
    have z0 : (0 : Int32).toInt = 0 := rfl
    have z9 : (9999 : Int32).toInt = 9999 := rfl
    have k1 : ¬ (u (n + 12) i).toInt < 0 := fun q => h2.1 (t_lt.mpr (by rw [z0]; exact q))
    have k2 : ¬ 9999 < (u (n + 12) i).toInt := fun q => h2.2 (t_lt.mpr (by rw [z9]; exact q))
    rw [hv 71 (by omega) (by omega), cu 12 (by omega), r4 i (by omega), e 23 (by omega) (by omega)]
    exact ⟨h1, by omega, by omega⟩
  · obtain ⟨h1, h2⟩ := hrow 5 (by omega) i hi
    have h1 : w 25 i = u (n + 14) i := h1
    rw [hv 73 (by omega) (by omega), cu 14 (by omega), r5 i (by omega), e 25 (by omega) (by omega)]
    exact ⟨h1, h2⟩
  · obtain ⟨q1, q2, q3, q4, -⟩ := hord o ho
    rw [hv 79 (by omega) (by omega), hv 81 (by omega) (by omega), hv 83 (by omega) (by omega), cu 17 (by omega), cu 18 (by omega), cu 19 (by omega), m0 o (by omega), m1 o (by omega), m2 o (by omega), e 31 (by omega) (by omega), e 33 (by omega) (by omega), e 35 (by omega) (by omega)]
    exact ⟨q1, q2, q3, q4⟩
theorem isum6 {f : Nat → Int32} (h : ∀ i, i < 6 → 0 ≤ (f i).toInt ∧ (f i).toInt ≤ 9999) : isum f 6 ≤ 59994 := by
  have h0 := h 0 (by omega)
  have h1 := h 1 (by omega)
  have h2 := h 2 (by omega)
  have h3 := h 3 (by omega)
  have h4 := h 4 (by omega)
  have h5 := h 5 (by omega)
  show (((((((0 : Int) + (f 0).toInt) + (f 1).toInt) + (f 2).toInt) + (f 3).toInt) + (f 4).toInt) + (f 5).toInt) ≤ 59994
  omega
/-- the class's stand y, the reference's state in v: anew, and alike -/
theorem rs_got (hS : Shx kn nt n u0 w u nt N (rbd N) O O s) (hZ : ZR n u0 u) (hq : PCP x q) (hx : ∀ p, p ≠ 0 → x p = (E4 w) p) (hb : SBG q y (N 2) (N 3)) (ht : STB t0 v n) (hy : ∀ p, 97 ≤ p → p < 119 → v p = y p) (c3 : ∀ p, n ≤ p → p < n + 22 → t0 p = u p)
    (h97 : q 97 1 = t0 173 0 ∧ q 97 2 = t0 173 1) (hd : ∃ d, d < 10 ∧ t0 173 1 = nI d) : RS v v 97 173 (N 3) ∧ IS v 173 (N 3) (N 1) (N 2) := by
  obtain ⟨-, hN, hE, ⟨o1, o2, o3⟩, hrow, hord⟩ := hS
  obtain ⟨d0, d1, d2, -⟩ := hN 2 (by omega)
  obtain ⟨g0, g1, g2, -⟩ := hN 3 (by omega)
  have d1 : N 2 ≤ 6 := d1
  have g1 : N 3 ≤ 10 := g1
  have d2 : u n 11 = nI (N 2) := d2
  have g2 : u n 15 = nI (N 3) := g2
  obtain ⟨-, ⟨M', M1, M2, M3⟩, L', L1, L2, L3⟩ := hZ
  have eM : M' = N 2 := by rw [d2, eq_n (by omega) (by omega)] at M2; exact M2.symm
  have eL : L' = N 3 := by rw [g2, eq_n (by omega) (by omega)] at L2; exact L2.symm
  subst eM
  subst eL
  obtain ⟨-, -, r0, r1, r2, r3, r4, r5, r6, r7, -⟩ := hq
  have e : ∀ p, p ≠ 0 → p ≠ 13 → x p = w p := fun p h1 h2 => (hx p h1).trans (E4_ne h2)
  obtain ⟨-, ⟨b1, b2, b3, b4, b5⟩, b6, b7, b8, b9, ba, bb, bc⟩ := hb
  obtain ⟨-, ⟨t1, t2, t3, t4, t5⟩, t6, t7, t8, t9, ta⟩ := ht
  have k15 : t0 (n + 15) = u (n + 15) := c3 _ (by omega) (by omega)
  have k16 : t0 (n + 16) = u (n + 16) := c3 _ (by omega) (by omega)
  have k11 : t0 (n + 11) = u (n + 11) := c3 _ (by omega) (by omega)
  rw [k15, k16] at t6
  rw [k11] at t7
  -- what was told
  have sac : ∀ i, i < N 3 → w 27 i = u (n + 15) i ∧ bI 1 90 (u (n + 15) i) := fun i hi => hrow 6 (by omega) i hi
  have own : ∀ i, i < N 3 → w 29 i = u (n + 16) i ∧ ∃ a, a < N 2 ∧ u (n + 16) i = nI a := fun i hi => hrow 7 (by omega) i hi
  have coi : ∀ i, i < N 2 → w 21 i = u (n + 11) i ∧ bI 0 9999 (u (n + 11) i) := fun i hi => hrow 3 (by omega) i hi
  have wt : ∀ i, i < N 3 → 0 ≤ (v 174 i).toInt ∧ (v 174 i).toInt ≤ 9000 := fun i hi => by
    obtain ⟨j, j1, j2, j3⟩ := bI_n (lo := 1) (hi := 90) (by omega) (by omega) (sac i hi).2
    rw [(t6 i (by omega)).1, j3]
    have z1 : (100 : Int32).toInt = 100 := rfl
    rw [t_mul (by rw [z1, ni_t (by omega)]; omega) (by rw [z1, ni_t (by omega)]; omega), z1, ni_t (by omega)]
    omega
  have w0 : ∀ i, i < 10 → N 3 ≤ i → v 174 i = 0 := fun i h1 h2 => by
    rw [(t6 i h1).1, L3 i h2]; decide
  have ci : ∀ i, i < 6 → 0 ≤ (v 179 i).toInt ∧ (v 179 i).toInt ≤ 9999 := fun i hi => by
    rw [t7 i hi]
    have z0 : (0 : Int32).toInt = 0 := rfl
    have z9 : (9999 : Int32).toInt = 9999 := rfl
    by_cases h : i < N 2
    · obtain ⟨h1, h2⟩ := (coi i h).2
      have k1 : ¬ (u (n + 11) i).toInt < 0 := fun q => h1 (t_lt.mpr (by rw [z0]; exact q))
      have k2 : ¬ 9999 < (u (n + 11) i).toInt := fun q => h2 (t_lt.mpr (by rw [z9]; exact q))
      omega
    · rw [M3 i (by omega), z0]; omega
  refine ⟨⟨⟨?_, ?_, ?_, ?_, ?_⟩, fun i hi => ?_, fun i hi => ?_, fun i hi => ?_, fun i hi => ?_, fun i hi hne => ?_, fun i hi => ?_, fun i hi => ?_, fun i hi => ?_, fun i hi => ?_⟩, ⟨wt, w0⟩, fun i hi => ?_, fun i hi => ?_, ⟨fun i hi => (ci i hi).1, isum6 ci⟩, fun a b ha hb => ?_, ?_⟩
  · rw [hy 97 (by omega) (by omega), b1, t1]; exact h97.1
  · rw [hy 97 (by omega) (by omega), b2, t2]; exact h97.2
  · rw [hy 97 (by omega) (by omega), b3, t3]
  · rw [hy 97 (by omega) (by omega), b4, t4]
  · rw [hy 97 (by omega) (by omega), b5, t5]
  · show v 99 i = v 174 i
    rw [hy 99 (by omega) (by omega)]
    by_cases h : i < N 3
    · rw [(b6 i h).1, (t6 i hi).1, r6 i (by omega), e 27 (by omega) (by omega), (sac i h).1, Int32.mul_comm]
    · rw [b7 i (by omega) hi, w0 i hi (by omega)]
  · show v 101 i = v 175 i
    rw [hy 101 (by omega) (by omega), (b6 i hi).2.1, (t6 i (by omega)).2.1, r7 i (by omega), e 29 (by omega) (by omega), (own i hi).1]
  · show v 103 i = v 176 i
    rw [hy 103 (by omega) (by omega), (b6 i hi).2.2.1, (t6 i (by omega)).2.2]
  · show v 105 i = if v 176 i = -1 then 0 else _
    rw [if_pos (t6 i (by omega)).2.2, hy 105 (by omega) (by omega), (b6 i hi).2.2.2]
  · exact absurd (t6 i (by omega)).2.2 hne
  · show v 109 i = v 179 i
    rw [hy 109 (by omega) (by omega), t7 i hi]
    by_cases h : i < N 2
    · rw [b8 i h, r3 i (by omega), e 21 (by omega) (by omega), (coi i h).1]
    · rw [b9 i (by omega) hi, M3 i (by omega)]
  · show v 112 i = v 180 i
    rw [hy 112 (by omega) (by omega), ba i hi, t8 i hi]
  · show v 116 i = v 181 i
    rw [hy 116 (by omega) (by omega), bb i hi, t9 i hi]
  · show v 118 i = v 182 i
    rw [hy 118 (by omega) (by omega), bc i hi, ta i hi]
  · show ∃ m, m < N 2 ∧ v 175 i = nI m
    rw [(t6 i (by omega)).2.1]; exact (own i hi).2
  · exact Or.inl (t6 i (by omega)).2.2
  · show 0 ≤ (v 180 (6 * a + b)).toInt ∧ (v 180 (6 * a + b)).toInt ≤ 99999 ∧ (_ → v 180 (6 * a + b) = 0)
    rw [t8 _ (by omega)]
    exact ⟨Int.le_refl 0, by decide, fun _ => rfl⟩
  · rw [t2]; exact hd
end
