/-! WHAT THE CLASS DOES, in the model's words -/
section
variable {v v1 u u1 : Va} {S G M L O z i j a b w o d : Nat} {c : Int32}
theorem QI.fr (h : QI z v u S G M L O) (hC : FC 97 v v1) (hM : FM 173 u u1) (hR : RS v1 u1 97 173 L) (hI : IS u1 173 L G M) : QI z v1 u1 S G M L O := h.step (fun p hp => hC p (by omega)) hM hR hI
theorem q_setDamp (h : QI z v u S G M L O) (hd : d < 10) : ∃ v1, f_Quay_setDamp v (nI d) = some (.inl (u 173 1, v1)) ∧ QI z v1 (pu u 173 1 (nI d)) S G M L O := by
  obtain ⟨l1, l2⟩ := lit_le (show d ≤ 9 by omega) (by omega)
  refine ⟨pu v 97 2 (nI d), ?_, h.fr (FC.pu (by omega) (by omega)) (fm_p (by omega) (by omega)) (h.2.2.1.f (j := 1) (by omega) rfl) (IS_damp h.2.2.2.1 hd)⟩
  unfold f_Quay_setDamp
  rw [if_neg l1, if_pos (show nI d ≤ 9 from l2), bd, h.2.2.1.1.2.1]
def leU (u : Va) (i j : Nat) (c : Int32) : Va := pu (pu (pu u 179 i (u 179 i - c)) 179 j (pu u 179 i (u 179 i - c) 179 j + c)) 180 (6 * j + i) (u 180 (6 * j + i) + c)
theorem q_lend (h : QI z v u S G M L O) (hz : 4000 < z) (hi : i < M) (hj : j < M) (hij : i ≠ j) (h1 : ¬ c < 1) (h2 : ¬ 9999 < c) :
    if ¬ u 179 i < c ∧ row_t (fun b => u 180 (6 * j + b)) 6 + c ≤ u 163 j then ∃ v1, f_Quay_lend z v (nI i) (nI j) c = some (.inl (u 180 (6 * j + i) + c, v1)) ∧ QI z v1 (leU u i j c) S G M L O ∧ FM 173 u (leU u i j c) else f_Quay_lend z v (nI i) (nI j) c = some (.inr 0) := by
  have hM : M ≤ 6 := h.1.1.2.2.1
  have hne : ¬ nI i = nI j := by rw [eq_n (by omega) (by omega)]; exact hij
  have e : f_Quay_lend z v (nI i) (nI j) c = if u 179 i < c then some (.inr 0) else if row_t (fun b => u 180 (6 * j + b)) 6 + c ≤ u 163 j then ((f_Stand_moveCoins v 97 (nI i) (nI j) c).bind fun q112 => (f_Debts_grow q112 110 (nI j) (nI i) c).bind fun q125 => (f_Debts_between q125 110 (nI j) (nI i)).bind fun q137 => some (.inl (q137, q125))) else some (.inr 0) := by
    unfold f_Quay_lend
    have hco : v 109 i = u 179 i := h.2.2.1.2.2.2.2.2.2.1 i (by omega)
    rw [isM_c h.1, ob, isM_c h.1, ob]
    simp only [qb]
    rw [if_neg (ndM h hi), if_neg (ndM h hj), if_neg hne, if_neg h1, if_pos (Int32.not_lt.mp h2), bd, rg (by omega) (by omega), hco, show (110 : Nat) = 97 + 13 from rfl, h.2.2.1.sumOf (by omega) (by omega), ob, bd, rg (by omega) (by omega), (h.1.2.2.2.2.2.1 j hj).1]
  rw [e]
  by_cases h4 : u 179 i < c
  · rw [if_neg (fun q => q.1 h4), if_pos h4]
  by_cases h5 : row_t (fun b => u 180 (6 * j + b)) 6 + c ≤ u 163 j
  · rw [if_pos ⟨h4, h5⟩, if_neg h4, if_pos h5]
    obtain ⟨x, w, w2, u', d1, d2, d3, d4, d5, d6, d7, d8, d9⟩ := lend_two h.1 h.2.2.1 h.2.2.2.1 hi hj hij h1 h2 h4 h5
    have eu : u' = leU u i j c := by
      rw [← d4]; unfold leU; congr 1
    have ex : x = u 180 (6 * j + i) + c := by
      rw [owes_m (by omega) (by omega)] at d5
      rw [← Option.some.inj d5, eu]
      exact pu_s
    rw [d1, ob, d2, ob, d3, ob, ex]
    rw [eu] at d6 d7 d9
    exact ⟨w, rfl, h.fr d8 d9 d6 d7, d9⟩
  · rw [if_neg (fun q => h5 q.2), if_neg h4, if_neg h5]
def ofU (u : Va) (i j : Nat) (c : Int32) : Va := pu (pu u 180 (6 * i + j) (u 180 (6 * i + j) - c)) 180 (6 * j + i) (u 180 (6 * j + i) - c)
theorem q_offset (h : QI z v u S G M L O) (hi : i < M) (hj : j < M) (hij : i ≠ j) : ∃ v1, f_Quay_offset v (nI i) (nI j) = some (.inl (q_min (u 180 (6 * i + j)) (u 180 (6 * j + i)), v1)) ∧ QI z v1 (ofU u i j (q_min (u 180 (6 * i + j)) (u 180 (6 * j + i)))) S G M L O ∧ FM 173 u (ofU u i j (q_min (u 180 (6 * i + j)) (u 180 (6 * j + i)))) := by
  have hM : M ≤ 6 := h.1.1.2.2.1
  have hne : ¬ nI i = nI j := by rw [eq_n (by omega) (by omega)]; exact hij
  obtain ⟨w, w2, u', d1, d2, d4, d6, d7, d8, d9⟩ := off_two h.1 h.2.2.1 h.2.2.2.1 hi hj hij rfl
  have eu : u' = ofU u i j (q_min (u 180 (6 * i + j)) (u 180 (6 * j + i))) := by
    rw [← d4]; unfold ofU; rw [pu_d (by omega)]
  rw [eu] at d6 d7 d9
  refine ⟨w, ?_, h.fr d8 d9 d6 d7, d9⟩
  unfold f_Quay_offset
  rw [isM_c h.1, ob, isM_c h.1, ob]
  simp only [qb]
  have b1 : f_Debts_between v 110 (nI i) (nI j) = some (u 180 (6 * i + j)) := h.2.2.1.bet (by omega) (by omega)
  have b2 : f_Debts_between v 110 (nI j) (nI i) = some (u 180 (6 * j + i)) := h.2.2.1.bet (by omega) (by omega)
  rw [if_neg (ndM h hi), if_neg (ndM h hj), if_neg hne, b1, ob, b2, ob, d1, ob, d2, ob]
def drU (u : Va) (i : Nat) : Va := pu (pu u 174 i (u 174 i - u 174 i / 10)) 176 i (-1)
theorem q_dry (h : QI z v u S G M L O) (hi : i < L) : ∃ v1, f_Quay_dry v (nI i) = some (.inl (u 174 i - u 174 i / 10, v1)) ∧ QI z v1 (drU u i) S G M L O ∧ FM 173 u (drU u i) := by
  have hL : L ≤ 10 := h.1.1.2.2.2.1
  obtain ⟨x, w, w2, u', d1, d2, d3, d4, d5, d6, d7, d8, d9⟩ := dry_two h.2.2.1 h.2.2.2.1 hL hi
  have ex : x = u 174 i - u 174 i / 10 := by
    rw [← d5, d4, pu_p (by omega)]; exact pu_s
  rw [d4] at d6 d7 d9
  refine ⟨w, ?_, h.fr d8 d9 d6 d7, d9⟩
  unfold f_Quay_dry
  rw [isL_c h.1, ob]
  simp only [qb]
  rw [if_neg (by rw [decide_eq_true ⟨ni_0 (by omega), by rw [le_n (by omega) (by omega)]; omega⟩]; decide)]
  simp (disch := omega) only [bd, rg, rs]
  rw [← d1, d2, ob, d3, ex]
theorem q_pass (h : QI z v u S G M L O) (hz : 4000 < z) (h1 : 1 ≤ d) (h2 : d ≤ 120) : ∃ (r : Int32 × Va) (v1 : Va), f_Model_daysOn z u 151 173 (nI d) = some r ∧ f_Quay_pass z v (nI d) = some (.inl (r.1, v1)) ∧ QI z v1 r.2 S G M L O ∧ FM 173 u r.2 := by
  obtain ⟨q, r, e1, e2, e3, e4, e5, e6, e7⟩ := days_two h.1 h.2.1 h.2.2.1 h.2.2.2.1 (Or.inl rfl) (Or.inl rfl) (Or.inl rfl) hz (d := d) (by omega)
  refine ⟨r, q.2, e2, ?_, h.fr e6 e7 e4 e5, e7⟩
  unfold f_Quay_pass
  rw [if_neg (by rw [show (1 : Int32) = nI 1 from rfl, lt_n (by omega) (by omega)]; omega), if_pos (by rw [show (120 : Int32) = nI 120 from rfl, le_n (by omega) (by omega)]; exact h2), e1, ob, e3]
/-- thinking ahead: the class's other stand is like the model's one state -/
theorem ahead_q (h : QI z v u S G M L O) : ∃ v1, f_Stand_copyFrom v 123 97 = some v1 ∧ FC 123 v v1 ∧ RS v1 u 123 173 L := by
  have hL : L ≤ 10 := h.1.1.2.2.2.1
  obtain ⟨v1, c0, cF, c1, c2, c3, c4, c5, cw, co, cg, cc, cd, ck, ce, cn, cm⟩ := copy_c (v := v)
  obtain ⟨⟨r1, r2, r3, r4, r5⟩, rw', ro, rgg, rc, rd, rk, re, rn, rm⟩ := h.2.2.1
  refine ⟨v1, c0, cF, ⟨⟨c1.trans r1, c2.trans r2, c3.trans r3, c4.trans r4, c5.trans r5⟩, fun i hi => ?_, fun i hi => ?_, fun i hi => ?_, fun i hi => ?_, fun i hi hne => ?_, fun i hi => ?_, fun i hi => ?_, fun i hi => ?_, fun i hi => ?_⟩⟩
  · exact (cw i hi).trans (rw' i hi)
  · exact (co i (by omega)).trans (ro i hi)
  · exact (cg i (by omega)).trans (rgg i hi)
  · exact (cc i (by omega)).trans (rc i hi)
  · exact (cd i (by omega)).trans (rd i hi hne)
  · exact (ck i hi).trans (rk i hi)
  · exact (ce i hi).trans (re i hi)
  · exact (cn i hi).trans (rn i hi)
  · exact (cm i hi).trans (rm i hi)
theorem QI.mind (h : QI z v u S G M L O) (hC : FC 123 v v1) : QI z v1 u S G M L O := h.keep fun p a _ => hC p (by omega)
theorem q_foresee (h : QI z v u S G M L O) (hz : 4000 < z) (hw : w = 0 ∨ (7 ≤ w ∧ w ≤ 12)) : ∃ (r : Int32 × Va) (v1 : Va), f_Model_daysOn z u 151 173 (nI 1) = some r ∧ f_Quay_foresee z v 1 (nI w) = some (.inl (if w = 0 then r.1 else cU r.2 w, v1)) ∧ QI z v1 u S G M L O := by
  obtain ⟨v1, c1, c2, c3⟩ := ahead_q h
  have h1 := h.mind c2
  obtain ⟨q, r, e1, e2, e3, e4, e5, e6, e7⟩ := days_two h1.1 h1.2.1 c3 h.2.2.2.1 (Or.inr rfl) (Or.inl rfl) (Or.inl rfl) hz (d := 1) (by omega)
  have h2 := h1.mind e6
  refine ⟨r, q.2, e2, ?_, h2⟩
  have hj : j_Quay_foresee_47 z v 1 (nI w) = some (.inl (if w = 0 then r.1 else cU r.2 w, q.2)) := by
    unfold j_Quay_foresee_47
    rw [c1, ob, show (1 : Int32) = nI 1 from rfl, e1, ob]
    rcases hw with rfl | ⟨h7, h12⟩
    · rw [if_pos (show nI 0 = 0 from rfl), if_pos rfl, e3]
    · have hne : ¬ nI w = 0 := by rw [show (0 : Int32) = nI 0 from rfl, eq_n (by omega) (by omega)]; omega
      have hP3 : PL q.2 r.2 151 S G M L O := h2.1.cong (fun _ _ _ => rfl) (fun p a b => e7.1 p (by omega) (by omega))
      obtain ⟨x, t1, t2⟩ := all_two hP3 e4 e5 hz h7 h12
      have t3 : f_Model_counted z r.2 151 173 (nI w) = some (cU r.2 w) := by
        have hw7 := weight_m (v := q.2) (sn := 173) hP3 e5.1 hz
        have h8 : f_Model_sumOf_ z r.2 180 36 = some (row_t (r.2 180) 36) := sum_row (by omega) (by omega)
        have h9 : f_Model_sumOf_ z r.2 179 6 = some (row_t (r.2 179) 6) := sum_row (by omega) (by omega)
        rcases (by omega : w = 7 ∨ w = 8 ∨ w = 9 ∨ w = 10 ∨ w = 11 ∨ w = 12) with rfl | rfl | rfl | rfl | rfl | rfl
        · show (f_Model_weightOf z r.2 151 173).bind (fun q => some q) = _
          rw [hw7]; rfl
        · show (f_Model_sumOf_ z r.2 180 36).bind (fun q => some q) = _
          rw [h8]; rfl
        · show (f_Model_sumOf_ z r.2 179 6).bind (fun q => some q) = _
          rw [h9]; rfl
        · rfl
        · rfl
        · rfl
      rw [t3] at t2
      cases t2
      rw [if_neg hne, if_neg (by omega), t1, ob]
  unfold f_Quay_foresee
  rw [if_neg (by decide), if_pos (by decide), hj]
  by_cases h0 : nI w = 0
  · rw [if_pos h0]
  · rw [if_neg h0]
    have : w ≠ 0 := fun q => h0 (by rw [q]; rfl)
    rw [if_neg (by rw [show (7 : Int32) = nI 7 from rfl, lt_n (by omega) (by omega)]; omega), if_pos (by rw [show (12 : Int32) = nI 12 from rfl, le_n (by omega) (by omega)]; omega)]
theorem q_rich (h : QI z v u S G M L O) (hz : 4000 < z) (hM0 : 1 ≤ M) (h1 : 1 ≤ d) (h2 : d ≤ 90) : ∃ (r : Nat) (v1 : Va), r < M ∧ f_Quay_richest z v (nI d) = some (.inl (nI r, v1)) ∧ QI z v1 u S G M L O := by
  have hM : M ≤ 6 := h.1.1.2.2.1
  obtain ⟨v1, c1, c2, c3⟩ := ahead_q h
  have h1' := h.mind c2
  obtain ⟨q, r, e1, e2, e3, e4, e5, e6, e7⟩ := days_two h1'.1 h1'.2.1 c3 h.2.2.2.1 (Or.inr rfl) (Or.inl rfl) (Or.inl rfl) hz (d := d) (by omega)
  have h3 := h1'.mind e6
  have hm61 : q.2 61 2 = nI M := h3.1.2.1.2.2.1
  obtain ⟨r', h4, b, h5, h6⟩ := rp_inv (f := b_Quay_richest_45 z q) (fun i s => s.2 = nI i ∧ ((i = 0 ∧ s.1 = -1) ∨ ∃ j, j < i ∧ j < M ∧ s.1 = nI j)) (fun r' => ∃ b, b < M ∧ r' = .inl (nI b, q.2)) M
    (fun K s ⟨e1, e2⟩ => by
      rcases e2 with ⟨e2, -⟩ | ⟨j, -, hj, e2⟩
      · omega
      · refine ⟨_, ?_, j, hj, rfl⟩
        unfold b_Quay_richest_45
        rw [hm61, e1, e2, if_pos (by rw [le_n (by omega) (by omega)]; exact Nat.le_refl _)])
    (fun K i s hi ⟨e1, e2⟩ => by
      obtain ⟨s1, s2⟩ := s
      simp only at e1 e2
      subst e1
      rcases e2 with ⟨rfl, rfl⟩ | ⟨j, hj, hjM, rfl⟩
      · refine Or.inl ⟨(nI 0, nI 1), ?_, rfl, Or.inr ⟨0, by omega, by omega, rfl⟩⟩
        unfold b_Quay_richest_45 j_Quay_richest_79 j_Quay_richest_81
        simp only [hm61]
        rw [if_neg (by rw [le_n (by omega) (by omega)]; omega), if_pos (by decide), ni_s]
      · obtain ⟨x, g1, g2⟩ := wealth_two (z := z) e4 hz (i := i) (by omega)
        obtain ⟨y, g3, g4⟩ := wealth_two (z := z) e4 hz (i := j) (by omega)
        refine Or.inl ⟨(if x ≤ y then nI j else nI i, nI (i + 1)), ?_, rfl, Or.inr ?_⟩
        · unfold b_Quay_richest_45 j_Quay_richest_79 j_Quay_richest_81
          simp only [hm61]
          rw [if_neg (by rw [le_n (by omega) (by omega)]; omega), if_neg (by rw [n_lt0 (by omega)]; exact id), g1, ob, g3, ob, ni_s]
          by_cases hab : x ≤ y
          · simp only [if_pos hab]
          · simp only [if_neg hab]
        · by_cases hab : x ≤ y
          · exact ⟨j, by omega, hjM, if_pos hab⟩
          · exact ⟨i, by omega, hi, if_neg hab⟩) z 0 ((-1), 0) ⟨rfl, Or.inl ⟨rfl, rfl⟩⟩ (by omega) (by omega)
  subst h6
  refine ⟨b, q.2, h5, ?_, h3⟩
  unfold f_Quay_richest
  rw [if_neg (by rw [show (1 : Int32) = nI 1 from rfl, lt_n (by omega) (by omega)]; omega), if_pos (by rw [show (90 : Int32) = nI 90 from rfl, le_n (by omega) (by omega)]; exact h2), c1, ob, e1, ob, h4]
/-- without damp nothing is lost -/
theorem lose_0 (hP : PMo u S G M L O) (hz : 4000 < z) (hd : u 173 1 = 0) : f_Model_lose z u 151 173 = some u := by
  obtain ⟨⟨hS4, hG4, hM6, hL10, hO24⟩, ⟨hq1, hq2, hq3, hq4, hq5⟩, hp3, hp4, hp5, hp6, hPO, hT, hO⟩ := hP
  unfold f_Model_lose
  refine rp_go (fun i => (nI i, u)) L (fun K => ?_) (fun K i hi => ?_) (by omega)
  · unfold b_Model_lose_2
    simp only [hq4]
    rw [if_pos (by rw [le_n (by omega) (by omega)]; exact Nat.le_refl _)]
  · obtain ⟨y, hy, ey⟩ := hp6 i hi
    unfold b_Model_lose_2 f_Model_lossOf
    simp (disch := omega) only [gn, ni_c, if_false, ey, ob, bd, ni_s, Nat.reduceAdd, hd, hq4]
    rw [if_neg (by rw [le_n (by omega) (by omega)]; omega), Int32.mul_zero, show (0 : Int32) / 1000 = 0 by decide, Int32.sub_zero, pu_i]
theorem q_costs (h : QI z v u S G M L O) (hz : 4000 < z) : ∃ v1, f_Quay_costs z v 5 0 = some (.inl (0, v1)) ∧ QI z v1 u S G M L O := by
  obtain ⟨v1, c1, c2, c3⟩ := ahead_q h
  have hM0 : FM 173 u (pu u 173 1 0) := fm_p (by omega) (by omega)
  have hR0 : RS (pu v1 123 2 0) (pu u 173 1 0) 123 173 L := c3.f (j := 1) (by omega) rfl
  have hI0 : IS (pu u 173 1 0) 173 L G M := IS_damp h.2.2.2.1 (show 0 < 10 by omega)
  have hC0 : FC 123 v (pu v1 123 2 0) := c2.tr (FC.pu (by omega) (by omega))
  have hPm : PMo (pu u 173 1 0) S G M L O := h.2.2.2.2.2.fm hM0
  obtain ⟨r, h1, w, h2, h3⟩ := rp_inv (f := b_Quay_costs_52 z 5) (fun i s => s.1 = nI i ∧ RS s.2 (pu u 173 1 0) 123 173 L ∧ FC 123 v s.2) (fun r => ∃ w, r = .inl (0, w) ∧ FC 123 v w) 5
    (fun K s ⟨e1, e2, e3⟩ => by
      refine ⟨_, ?_, s.2, rfl, e3⟩
      have hR1 : RS s.2 u 97 173 L := h.2.2.1.cong (fun p a b => e3 p (by omega)) (fun _ _ _ => rfl)
      have w1 : f_Stand_weightOfAll s.2 123 = some (row_t (u 174) 10) := by
        have := weight_c e2
        rw [show (pu u 173 1 0) (173 + 1) = u 174 from pu_p (by omega)] at this
        exact this
      have w0 : f_Stand_weightOfAll s.2 97 = some (row_t (u 174) 10) := weight_c hR1
      unfold b_Quay_costs_52
      rw [e1, if_pos (by decide), w0, ob, w1, ob, Int32.sub_self])
    (fun K i s hi ⟨e1, e2, e3⟩ => by
      have hP1 : PL s.2 (pu u 173 1 0) 151 S G M L O := h.1.cong (fun p a b => e3 p (by omega)) (fun p a b => hM0.1 p (by omega) (by omega))
      obtain ⟨w1, t1, q1, q2, q3, q4, q5, q6⟩ := lose_two hP1 e2 hI0 (Or.inr rfl) (Or.inl rfl) (Or.inl rfl) hz
      rw [lose_0 hPm hz pu_s] at q2
      cases q2
      refine Or.inl ⟨(nI (i + 1), w1), ?_, rfl, q3, e3.tr q5⟩
      unfold b_Quay_costs_52
      rw [e1, if_neg (by rw [show (5 : Int32) = nI 5 from rfl, le_n (by omega) (by omega)]; omega), q1, ob, ni_s]) z 0 (0, pu v1 123 2 0) ⟨rfl, hR0, hC0⟩ (by omega) (by omega)
  subst h2
  refine ⟨w, ?_, h.mind h3⟩
  unfold f_Quay_costs
  rw [if_neg (by decide), if_neg (by decide), if_neg (by decide), if_pos (by decide), c1, ob, bd, h1]
/-- the days to come -/
def trj (z : Nat) (u : Va) : Nat → Va
  | 0 => u
  | n + 1 => ((f_Model_dayOn z (trj z u n) 151 173).getD (0, trj z u n)).2
theorem trj_s : ∀ n, trj z u (n + 1) = trj z (trj z u 1) n
  | 0 => rfl
  | n + 1 => by
    show ((f_Model_dayOn z (trj z u (n + 1)) 151 173).getD (0, trj z u (n + 1))).2 = ((f_Model_dayOn z (trj z (trj z u 1) n) 151 173).getD (0, trj z (trj z u 1) n)).2
    rw [trj_s n]
def ovr (u : Va) (a : Nat) : Prop := ¬ row_t (fun b => u 180 (6 * a + b)) 6 ≤ u 163 a
def UNT (z : Nat) (u : Va) (a : Nat) (r : Int32) : Prop := (∃ i, i ≤ 150 ∧ r = nI i ∧ ovr (trj z u i) a ∧ ∀ j, j < i → ¬ ovr (trj z u j) a) ∨ (r = -1 ∧ ∀ j, j ≤ 150 → ¬ ovr (trj z u j) a)
theorem UNT.next {r r' : Int32} (h : UNT z u a r) (h' : UNT z (trj z u 1) a r') (hr : 0 < r.toInt) : r' = r - 1 := by
  rcases h with ⟨k, hk, e, h1, h2⟩ | ⟨e, -⟩
  · subst e
    rw [ni_t (by omega)] at hr
    obtain ⟨i, rfl⟩ : ∃ i, k = i + 1 := ⟨k - 1, by omega⟩
    rw [trj_s] at h1
    rw [ni_sub1]
    rcases h' with ⟨k', hk', e', g1, g2⟩ | ⟨-, g2⟩
    · have : k' = i := by
        rcases Nat.lt_trichotomy k' i with q | q | q
        · have := h2 (k' + 1) (by omega)
          rw [trj_s] at this
          exact absurd g1 this
        · exact q
        · exact absurd h1 (g2 i q)
      rw [e', this]
    · exact absurd h1 (g2 i (by omega))
  · rw [e] at hr; exact absurd hr (by decide)
theorem UNT.zero {r : Int32} (h : UNT z u a r) : (r = 0) ↔ ovr u a := by
  rcases h with ⟨k, hk, e, h1, h2⟩ | ⟨e, h2⟩
  · subst e
    rw [show (0 : Int32) = nI 0 from rfl, eq_n (by omega) (by omega)]
    constructor
    · intro q; subst q; exact h1
    · intro q
      by_cases h0 : k = 0
      · exact h0
      · exact absurd q (h2 0 (by omega))
  · constructor
    · intro q; rw [e] at q; exact absurd q (by decide)
    · intro q; exact absurd q (h2 0 (by omega))
theorem q_until (h : QI z v u S G M L O) (hz : 4000 < z) (ha : a < M) : ∃ (r : Int32) (v1 : Va), f_Quay_until z v (nI a) = some (.inl (r, v1)) ∧ UNT z u a r ∧ QI z v1 u S G M L O := by
  have hM : M ≤ 6 := h.1.1.2.2.1
  obtain ⟨v1, c1, c2, c3⟩ := ahead_q h
  obtain ⟨q, h1, r, w, h2, h3, h4⟩ := rp_inv (f := b_Quay_until_31 z (nI a)) (fun i s => s.1 = nI i ∧ RS s.2 (trj z u i) 123 173 L ∧ IS (trj z u i) 173 L G M ∧ FC 123 v s.2 ∧ FM 173 u (trj z u i) ∧ ∀ j, j < i → ¬ ovr (trj z u j) a) (fun q => ∃ r w, q = .inl (r, w) ∧ UNT z u a r ∧ FC 123 v w) 150
    (fun K s ⟨e1, e2, e3, e4, e5, e6⟩ => by
      have hP1 : PL s.2 (trj z u 150) 151 S G M L O := h.1.cong (fun p a b => e4 p (by omega)) (fun p a b => e5.1 p (by omega) (by omega))
      have ho := over_two (z := z) hP1 e2 hz ha
      by_cases hc : row_t (fun b => trj z u 150 (173 + 7) (6 * a + b)) 6 ≤ trj z u 150 (151 + 12) a
      · refine ⟨_, ?_, -1, s.2, rfl, Or.inr ⟨rfl, fun j hj => ?_⟩, e4⟩
        · unfold b_Quay_until_31
          rw [e1, if_pos (by decide), ho, ob, decide_eq_false (fun q => q hc), if_pos (by decide)]
        · by_cases q : j = 150
          · subst q; exact fun q => q hc
          · exact e6 j (by omega)
      · refine ⟨_, ?_, 150, s.2, rfl, Or.inl ⟨150, by omega, rfl, hc, e6⟩, e4⟩
        unfold b_Quay_until_31
        rw [e1, if_pos (by decide), ho, ob, decide_eq_true hc, if_neg (by decide)])
    (fun K i s hi ⟨e1, e2, e3, e4, e5, e6⟩ => by
      have hP1 : PL s.2 (trj z u i) 151 S G M L O := h.1.cong (fun p a b => e4 p (by omega)) (fun p a b => e5.1 p (by omega) (by omega))
      have hX1 : PX z s.2 (trj z u i) 151 L G M O (smU u 151) (tsU u 151) := h.2.1.cong (fun p a b => e4 p (by omega)) (fun p a b => e5.1 p (by omega) (by omega))
      have ho := over_two (z := z) hP1 e2 hz ha
      by_cases hc : row_t (fun b => trj z u i (173 + 7) (6 * a + b)) 6 ≤ trj z u i (151 + 12) a
      · obtain ⟨x, w, t, q1, q2, q3, q4, q5, q6⟩ := day_two hP1 hX1 e2 e3 (Or.inr rfl) (Or.inl rfl) (Or.inl rfl) hz
        have et : trj z u (i + 1) = t := by
          show ((f_Model_dayOn z (trj z u i) 151 173).getD (0, trj z u i)).2 = t
          rw [q1]; rfl
        have hgo : f_Days_goOn z s.2 123 1 = some (0 + x, w) := by
          obtain ⟨z', rfl⟩ : ∃ y, z = y + 2 := ⟨z - 2, by omega⟩
          show b_Days_goOn_4 (z' + 2) 123 1 _ (0, 0, s.2) = _
          rw [q2 _ 0 0 1 (by decide)]
          show b_Days_goOn_4 (z' + 2) 123 1 _ (0 + x, 0 + 1, w) = _
          unfold b_Days_goOn_4
          simp only
          rw [if_pos (by decide)]
        refine Or.inl ⟨(nI (i + 1), w), ?_, rfl, ?_, ?_, e4.tr q5, ?_, fun j hj => ?_⟩
        · unfold b_Quay_until_31
          rw [e1, show (150 : Int32) = nI 150 from rfl, if_neg (by rw [le_n (by omega) (by omega)]; omega), ho, ob, decide_eq_false (fun q => q hc), if_pos (by decide), hgo, ob, ni_s]
        · rw [et]; exact q3
        · rw [et]; exact q4
        · rw [et]; exact e5.tr q6
        · by_cases q : j = i
          · subst q; exact fun q => q hc
          · exact e6 j (by omega)
      · refine Or.inr ⟨_, ?_, nI i, s.2, rfl, Or.inl ⟨i, by omega, rfl, hc, e6⟩, e4⟩
        unfold b_Quay_until_31
        rw [e1, show (150 : Int32) = nI 150 from rfl, if_neg (by rw [le_n (by omega) (by omega)]; omega), ho, ob, decide_eq_true hc, if_neg (by decide)]) z 0 (0, v1) ⟨rfl, c3, h.2.2.2.1, c2, FM.rfl', fun j hj => absurd hj (Nat.not_lt_zero _)⟩ (by omega) (by omega)
  subst h2
  refine ⟨r, w, ?_, h3, h.mind h4⟩
  unfold f_Quay_until
  rw [isM_c h.1, ob]
  simp only [qb]
  rw [if_neg (ndM h ha), c1, ob, h1]
end
