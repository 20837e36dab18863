/-! TEACH: the class's stand begins anew -/
/-- the stand after its beginning: M merchants, L lots -/
def SBG (v q : Va) (M L : Nat) : Prop := (∀ p, p < 97 ∨ 119 ≤ p → q p = v p) ∧ (q 97 1 = v 97 1 ∧ q 97 2 = v 97 2 ∧ q 97 3 = 0 ∧ q 97 4 = 0 ∧ q 97 5 = 0) ∧
  (∀ i, i < L → q 99 i = v 75 i * 100 ∧ q 101 i = v 77 i ∧ q 103 i = -1 ∧ q 105 i = 0) ∧ (∀ i, L ≤ i → i < 10 → q 99 i = 0) ∧ (∀ i, i < M → q 109 i = v 69 i) ∧ (∀ i, M ≤ i → i < 6 → q 109 i = 0) ∧
  (∀ i, i < 36 → q 112 i = 0) ∧ (∀ i, i < 4 → q 116 i = 0) ∧ ∀ i, i < 24 → q 118 i = 0
section
variable {v : Va} {M L z : Nat}
theorem row_f_in {N i : Nat} {f : Nat → Int32} {x : Int32} (h : i < N) : row_f N f x i = x := if_pos h
theorem sb_c (hM : M ≤ 6) (hL : L ≤ 10) (h2 : v 61 2 = nI M) (h3 : v 61 3 = nI L) (hz : 4000 < z) : ∃ q, f_Stand_begin z v 97 = some q ∧ SBG v q M L := by
  obtain ⟨x1, e1⟩ : ∃ x, pu v 97 3 0 = x := ⟨_, rfl⟩
  obtain ⟨x2, e2⟩ : ∃ x, pu x1 97 4 0 = x := ⟨_, rfl⟩
  obtain ⟨x3, e3⟩ : ∃ x, pu x2 97 5 0 = x := ⟨_, rfl⟩
  obtain ⟨x4, e4⟩ : ∃ x, up x3 99 (row_f 10 (x3 99) 0) = x := ⟨_, rfl⟩
  obtain ⟨x5, e5⟩ : ∃ x, up x4 109 (row_f 6 (x4 109) 0) = x := ⟨_, rfl⟩
  have f1 : ∀ p, p ≠ 97 → p ≠ 99 → p ≠ 109 → x5 p = v p := fun p a b c => by
    rw [← e5, up_ne c, ← e4, up_ne b, ← e3, ← e2, ← e1]; unfold pu; rw [up_ne a, up_ne a, up_ne a]
  have f97 : x5 97 1 = v 97 1 ∧ x5 97 2 = v 97 2 ∧ x5 97 3 = 0 ∧ x5 97 4 = 0 ∧ x5 97 5 = 0 := by
    rw [← e5, up_ne (by omega), ← e4, up_ne (by omega), ← e3, ← e2, ← e1]
    unfold pu
    simp (disch := omega) only [up_eq, upd_ne, upd_eq]
    exact ⟨trivial, trivial, trivial, trivial, trivial⟩
  have f99 : ∀ i, i < 10 → x5 99 i = 0 := fun i hi => by
    rw [← e5, up_ne (by omega), ← e4, up_eq, row_f_in hi]
  have f109 : ∀ i, i < 6 → x5 109 i = 0 := fun i hi => by
    rw [← e5, up_eq, row_f_in hi]
  have hrun : f_Stand_begin z v 97 = rp (b_Stand_begin_33 z 97) z (0, x5) := by
    unfold f_Stand_begin
    rw [bd, e1, bd, e2, bd, e3, bd, e4, bd, e5]
  rw [hrun]
  have second : ∀ w : Va, w 61 2 = nI M → w 69 = v 69 → (∀ i, i < 6 → w 109 i = 0) → ∃ q, rp (b_Stand_begin_98 97) z (0, w) = some q ∧ (∀ p, p < 109 ∨ 119 ≤ p → q p = w p) ∧ (∀ i, i < M → q 109 i = v 69 i) ∧ (∀ i, M ≤ i → i < 6 → q 109 i = 0) ∧ (∀ i, i < 36 → q 112 i = 0) ∧ (∀ i, i < 4 → q 116 i = 0) ∧ ∀ i, i < 24 → q 118 i = 0 := fun w w2 w69 w109 => by
    refine rp_inv (f := b_Stand_begin_98 97) (fun i t => t.1 = nI i ∧ (∀ p, p ≠ 109 → t.2 p = w p) ∧ (∀ j, j < i → t.2 109 j = v 69 j) ∧ ∀ j, i ≤ j → j < 6 → t.2 109 j = 0) (fun q => (∀ p, p < 109 ∨ 119 ≤ p → q p = w p) ∧ (∀ i, i < M → q 109 i = v 69 i) ∧ (∀ i, M ≤ i → i < 6 → q 109 i = 0) ∧ (∀ i, i < 36 → q 112 i = 0) ∧ (∀ i, i < 4 → q 116 i = 0) ∧ ∀ i, i < 24 → q 118 i = 0) M (fun K t ht => ?_) (fun K i t hi ht => ?_) z 0 (0, w) ⟨rfl, fun _ _ => rfl, fun j hj => by omega, fun j _ hj => w109 j hj⟩ (by omega) (by omega)
    · obtain ⟨i, t⟩ := t
      obtain ⟨t1, t2, t3, t4⟩ := ht
      simp only at t1 t2 t3 t4
      subst t1
      refine ⟨up (up (up t 112 (row_f 36 (t 112) 0)) 116 (row_f 4 ((up t 112 (row_f 36 (t 112) 0)) 116) 0)) 118 (row_f 24 ((up (up t 112 (row_f 36 (t 112) 0)) 116 (row_f 4 ((up t 112 (row_f 36 (t 112) 0)) 116) 0)) 118) 0), ?_, fun p hp => ?_, fun i hi => ?_, fun i h1 h2 => ?_, fun i hi => ?_, fun i hi => ?_, fun i hi => ?_⟩
      · unfold b_Stand_begin_98 f_Debts_forget
        simp only
        rw [t2 61 (by omega), w2, if_pos (by rw [le_n (by omega) (by omega)]; exact Nat.le_refl _), bd, ob, bd, bd]
      · rw [up_ne (by omega), up_ne (by omega), up_ne (by omega)]; exact t2 p (by omega)
      · rw [up_ne (by omega), up_ne (by omega), up_ne (by omega)]; exact t3 i hi
      · rw [up_ne (by omega), up_ne (by omega), up_ne (by omega)]; exact t4 i h1 h2
      · rw [up_ne (by omega), up_ne (by omega), up_eq, row_f_in hi]
      · rw [up_ne (by omega), up_eq, row_f_in hi]
      · rw [up_eq, row_f_in hi]
    · obtain ⟨i', t⟩ := t
      obtain ⟨t1, t2, t3, t4⟩ := ht
      simp only at t1 t2 t3 t4
      subst t1
      refine Or.inl ⟨(nI (i + 1), up t 109 (upd (t 109) i (v 69 i))), ?_, rfl, fun p hp => ?_, fun j hj => ?_, fun j h1 h2 => ?_⟩
      · unfold b_Stand_begin_98
        simp only
        rw [t2 61 (by omega), w2, if_neg (by rw [le_n (by omega) (by omega)]; omega), bd, rg (by omega) (by omega), t2 69 (by omega), w69, bd, rs (by omega) (by omega), ni_s]
      · show (up t 109 _) p = w p
        rw [up_ne hp]; exact t2 p hp
      · show (up t 109 (upd (t 109) i (v 69 i))) 109 j = v 69 j
        rw [up_eq]
        by_cases h : j = i
        · rw [h, upd_eq]
        · rw [upd_ne h]; exact t3 j (by omega)
      · show (up t 109 (upd (t 109) i (v 69 i))) 109 j = 0
        rw [up_eq, upd_ne (by omega)]; exact t4 j (by omega) h2
  refine rp_inv (f := b_Stand_begin_33 z 97) (fun i t => t.1 = nI i ∧ (∀ p, p ≠ 99 → p ≠ 101 → p ≠ 103 → p ≠ 105 → p ≠ 107 → t.2 p = x5 p) ∧ (∀ j, j < i → t.2 99 j = v 75 j * 100 ∧ t.2 101 j = v 77 j ∧ t.2 103 j = -1 ∧ t.2 105 j = 0) ∧ ∀ j, i ≤ j → j < 10 → t.2 99 j = 0) (fun q => SBG v q M L) L (fun K t ht => ?_) (fun K i t hi ht => ?_) z 0 (0, x5) ⟨rfl, fun _ _ _ _ _ _ => rfl, fun j hj => by omega, fun j _ hj => f99 j hj⟩ (by omega) (by omega)
  · obtain ⟨i, t⟩ := t
    obtain ⟨t1, t2, t3, t4⟩ := ht
    simp only at t1 t2 t3 t4
    subst t1
    obtain ⟨q, q1, q2, q3, q4, q5, q6, q7⟩ := second t (by rw [t2 61 (by omega) (by omega) (by omega) (by omega) (by omega), f1 61 (by omega) (by omega) (by omega)]; exact h2) (by rw [t2 69 (by omega) (by omega) (by omega) (by omega) (by omega), f1 69 (by omega) (by omega) (by omega)]) (fun i hi => by rw [t2 109 (by omega) (by omega) (by omega) (by omega) (by omega)]; exact f109 i hi)
    refine ⟨q, ?_, fun p hp => ?_, ?_, fun i hi => ?_, fun i h1 h2 => ?_, q3, q4, q5, q6, q7⟩
    · unfold b_Stand_begin_33
      simp only
      rw [t2 61 (by omega) (by omega) (by omega) (by omega) (by omega), f1 61 (by omega) (by omega) (by omega), h3, if_pos (by rw [le_n (by omega) (by omega)]; exact Nat.le_refl _)]
      exact q1
    · rw [q2 p (by omega), t2 p (by omega) (by omega) (by omega) (by omega) (by omega), f1 p (by omega) (by omega) (by omega)]
    · rw [q2 97 (by omega), t2 97 (by omega) (by omega) (by omega) (by omega) (by omega)]; exact f97
    · rw [q2 99 (by omega), q2 101 (by omega), q2 103 (by omega), q2 105 (by omega)]; exact t3 i hi
    · rw [q2 99 (by omega)]; exact t4 i h1 h2
  · obtain ⟨i', t⟩ := t
    obtain ⟨t1, t2, t3, t4⟩ := ht
    simp only at t1 t2 t3 t4
    subst t1
    have t75 : t 75 = v 75 := by rw [t2 75 (by omega) (by omega) (by omega) (by omega) (by omega), f1 75 (by omega) (by omega) (by omega)]
    have t77 : t 77 = v 77 := by rw [t2 77 (by omega) (by omega) (by omega) (by omega) (by omega), f1 77 (by omega) (by omega) (by omega)]
    obtain ⟨y1, d1⟩ : ∃ x, up t 99 (upd (t 99) i (v 75 i * 100)) = x := ⟨_, rfl⟩
    obtain ⟨y2, d2⟩ : ∃ x, up y1 101 (upd (y1 101) i (v 77 i)) = x := ⟨_, rfl⟩
    obtain ⟨y3, d3⟩ : ∃ x, up y2 103 (upd (y2 103) i (-1)) = x := ⟨_, rfl⟩
    obtain ⟨y4, d4⟩ : ∃ x, up y3 105 (upd (y3 105) i 0) = x := ⟨_, rfl⟩
    obtain ⟨y5, d5⟩ : ∃ x, up y4 107 (upd (y4 107) i 0) = x := ⟨_, rfl⟩
    have k99 : y5 99 = upd (t 99) i (v 75 i * 100) := by rw [← d5, up_ne (by omega), ← d4, up_ne (by omega), ← d3, up_ne (by omega), ← d2, up_ne (by omega), ← d1, up_eq]
    have k101 : y5 101 = upd (t 101) i (v 77 i) := by rw [← d5, up_ne (by omega), ← d4, up_ne (by omega), ← d3, up_ne (by omega), ← d2, up_eq, ← d1, up_ne (by omega)]
    have k103 : y5 103 = upd (t 103) i (-1) := by rw [← d5, up_ne (by omega), ← d4, up_ne (by omega), ← d3, up_eq, ← d2, up_ne (by omega), ← d1, up_ne (by omega)]
    have k105 : y5 105 = upd (t 105) i 0 := by rw [← d5, up_ne (by omega), ← d4, up_eq, ← d3, up_ne (by omega), ← d2, up_ne (by omega), ← d1, up_ne (by omega)]
    have kp : ∀ p, p ≠ 99 → p ≠ 101 → p ≠ 103 → p ≠ 105 → p ≠ 107 → y5 p = t p := fun p a b c d e => by rw [← d5, up_ne e, ← d4, up_ne d, ← d3, up_ne c, ← d2, up_ne b, ← d1, up_ne a]
    refine Or.inl ⟨(nI (i + 1), y5), ?_, rfl, fun p a b c d e => (kp p a b c d e).trans (t2 p a b c d e), fun j hj => ?_, fun j g1 g2 => ?_⟩
    · unfold b_Stand_begin_33 f_Stand_takeChop
      simp only
      rw [t2 61 (by omega) (by omega) (by omega) (by omega) (by omega), f1 61 (by omega) (by omega) (by omega), h3, if_neg (by rw [le_n (by omega) (by omega)]; omega), bd, rg (by omega) (by omega), t75, bd, rs (by omega) (by omega), show 97 + 2 = 99 from rfl, d1, bd, rg (by omega) (by omega), show y1 77 = v 77 by rw [← d1, up_ne (by omega)]; exact t77, bd, rs (by omega) (by omega), show 97 + 4 = 101 from rfl, d2, bd, rs (by omega) (by omega), show 97 + 6 = 103 from rfl, d3, bd, rs (by omega) (by omega), show 97 + 8 = 105 from rfl, d4, bd, rs (by omega) (by omega), show 97 + 10 = 107 from rfl, d5, ob, ni_s]
    · show y5 99 j = _ ∧ y5 101 j = _ ∧ y5 103 j = _ ∧ y5 105 j = _
      rw [k99, k101, k103, k105]
      by_cases h : j = i
      · rw [h, upd_eq, upd_eq, upd_eq, upd_eq]; exact ⟨rfl, rfl, rfl, rfl⟩
      · rw [upd_ne h, upd_ne h, upd_ne h, upd_ne h]; exact t3 j (by omega)
    · show y5 99 j = 0
      rw [k99, upd_ne (by omega)]; exact t4 j (by omega) g2
end
