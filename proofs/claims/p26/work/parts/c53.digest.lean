/-! THE RICHEST, UNTIL, THE CHECKSUM -/
/-- two loops side by side where the end of the second may want a few turns more -/
theorem rp_twoF {σ ρ τ π : Type} {f : (σ → Option ρ) → σ → Option ρ} {g : (τ → Option π) → τ → Option π} (I : Nat → σ → τ → Prop) (Q : ρ → π → Prop) (N : Nat)
    (stop : ∀ K fv s t, 5 ≤ fv → I N s t → ∃ r q, f K s = some r ∧ g (rp g fv) t = some q ∧ Q r q)
    (step : ∀ K L i s t, i < N → I i s t → (∃ s' t', f K s = K s' ∧ g L t = L t' ∧ I (i + 1) s' t') ∨ ∃ r q, f K s = some r ∧ g L t = some q ∧ Q r q) :
    ∀ (fu fv i : Nat) (s : σ) (t : τ), I i s t → i ≤ N → N - i < fu → N - i + 5 < fv → ∃ r q, rp f fu s = some r ∧ rp g fv t = some q ∧ Q r q
  | 0, _, _, _, _, _, _, h, _ => by omega
  | fu + 1, 0, _, _, _, _, _, _, h => by omega
  | fu + 1, fv + 1, i, s, t, hI, h1, h2, h3 => by
    show ∃ r q, f (rp f fu) s = some r ∧ g (rp g fv) t = some q ∧ Q r q
    by_cases hc : i = N
    · subst hc; exact stop _ _ _ _ (by omega) hI
    · rcases step (rp f fu) (rp g fv) i s t (by omega) hI with ⟨s', t', e, e', hI'⟩ | h
      · rw [e, e']
        exact rp_twoF I Q N stop step fu fv (i + 1) s' t' hI' (by omega) (by omega) (by omega)
      · exact h
section
variable {v u v1 v2 u1 : Va} {k sn sp S G M L O z : Nat} {cs ct : Nat → List Ste}
theorem wealth_two (hR : RS v u k sn L) (hz : 4000 < z) {i : Nat} (hi : i < 6) : ∃ x, f_Stand_wealthOf z v k (nI i) = some x ∧ f_Model_wealth z u sn (nI i) = some x := by
  refine ⟨u (sn + 6) i + row_t (fun b => u (sn + 7) (6 * b + i)) 6 - row_t (fun b => u (sn + 7) (6 * i + b)) 6, ?_, ?_⟩
  · unfold f_Stand_wealthOf
    rw [bd, rg (by omega) (by omega), hR.sumTo hi (by omega), ob, hR.sumOf hi (by omega), ob, hR.2.2.2.2.2.2.1 i hi]
  · unfold f_Model_wealth
    rw [if_neg (gd2 (by omega) (by omega)), owd_m hi (by omega), ob, deb_m hi (by omega), ob, ni_c (by omega)]
theorem rich_two (hs : sp = 151 ∨ 194 ≤ sp) (hP : PL v u sp S G M L O) (hX : PX z v u sp L G M O cs ct) (hR : RS v u 97 173 L) (hI : IS u 173 L G M) (hz : 4000 < z) {d : Nat} (hd : d ≤ 90) :
    ∃ x v1 u1, ((f_Stand_copyFrom v 123 97).bind fun q29 => (f_Days_goOn z q29 123 (nI d)).bind fun q37 => rp (b_Quay_richest_45 z q37) z ((-1), 0)) = some (.inl (x, v1)) ∧
      ((f_State_become u 183 173).bind fun q29 => (f_Model_daysOn z q29 sp 183 (nI d)).bind fun q38 => if (q38.2 sp 11) = 0 then (j_Model_richest_57 z sp q38 (-1)) else (j_Model_richest_57 z sp q38 0)) = some (x, u1) ∧ FC 123 v v1 ∧ FM 183 u u1 := by
  have hB := hP.1
  obtain ⟨v1, u1, c1, c2, c3, c4, c5, c6⟩ := ahead_two hP hR hI
  have hP1 := hP.fr c5 c6 (Or.inr rfl) (Or.inr rfl) hs
  have hX1 := hX.fr c5 c6 (Or.inr rfl) (Or.inr rfl) hs
  obtain ⟨⟨x, w1⟩, ⟨y, t1⟩, d1, d2, d3, d4, d5, d6, d7⟩ := days_two hP1 hX1 c3 c4 (Or.inr rfl) (Or.inr rfl) hs hz (d := d) (by omega)
  simp only at d3 d4 d5 d6 d7
  subst d3
  have hP2 := hP1.fr d6 d7 (Or.inr rfl) (Or.inr rfl) hs
  rw [c1, c2, ob, ob, d1, d2, ob, ob]
  have hm61 : w1 61 2 = nI M := hP2.2.1.2.2.1
  have hm11 : t1 sp 11 = nI M := hP2.2.2.1.2.2.1
  simp only [hm11]
  obtain ⟨z', rfl⟩ : ∃ y, z = y + 1 := ⟨z - 1, by omega⟩
  by_cases hM0 : M = 0
  · subst hM0
    rw [if_pos (show nI 0 = (0 : Int32) from rfl)]
    refine ⟨-1, w1, t1, ?_, ?_, c5.tr d6, c6.tr d7⟩
    · show b_Quay_richest_45 (z' + 1) (x, w1) _ (-1, 0) = _
      unfold b_Quay_richest_45
      simp only [hm61]
      rw [if_pos (show nI 0 ≤ (0 : Int32) by decide)]
    · unfold j_Model_richest_57
      show b_Model_richest_60 (z' + 1) sp (x, t1) _ (-1, 1) = _
      unfold b_Model_richest_60
      simp only [hm11]
      rw [if_pos (show nI 0 ≤ (1 : Int32) by decide)]
  · rw [if_neg (by rw [show (0 : Int32) = nI 0 from rfl, eq_n (by omega) (by omega)]; exact hM0)]
    have first : b_Quay_richest_45 (z' + 1) (x, w1) (rp (b_Quay_richest_45 (z' + 1) (x, w1)) z') (-1, 0) = rp (b_Quay_richest_45 (z' + 1) (x, w1)) z' (nI 0, nI 1) := by
      unfold b_Quay_richest_45 j_Quay_richest_79 j_Quay_richest_81
      simp only [hm61]
      rw [if_neg (by rw [show (0 : Int32) = nI 0 from rfl, le_n (by omega) (by omega)]; omega), if_pos (by decide)]
      rfl
    obtain ⟨r, q, h1, h2, x', hr, hq⟩ := rp_two (f := b_Quay_richest_45 (z' + 1) (x, w1)) (g := b_Model_richest_60 (z' + 1) sp (x, t1)) (fun i s t => s = t ∧ s.2 = nI i ∧ ∃ j, j < i ∧ j < M ∧ s.1 = nI j) (fun r q => ∃ x', r = .inl (x', w1) ∧ q = (x', t1)) M (by
      intro K K' s t ⟨e0, e1, _⟩
      subst e0
      refine ⟨_, _, ?_, ?_, s.1, rfl, rfl⟩
      · unfold b_Quay_richest_45
        simp only [hm61, e1]
        rw [if_pos (by rw [le_n (by omega) (by omega)]; exact Nat.le_refl _)]
      · unfold b_Model_richest_60
        simp only [hm11, e1]
        rw [if_pos (by rw [le_n (by omega) (by omega)]; exact Nat.le_refl _)]) (by
      intro K K' i s t hi ⟨e0, e1, j, hj, hjM, ej⟩
      subst e0
      obtain ⟨s1, s2⟩ := s
      simp only at e1 ej
      subst e1 ej
      obtain ⟨a, g1, g2⟩ := wealth_two (z := z' + 1) d4 hz (i := i) (by omega)
      obtain ⟨b, g3, g4⟩ := wealth_two (z := z' + 1) d4 hz (i := j) (by omega)
      refine Or.inl ⟨(if a ≤ b then nI j else nI i, nI (i + 1)), (if a ≤ b then nI j else nI i, nI (i + 1)), ?_, ?_, rfl, rfl, ?_⟩
      · unfold b_Quay_richest_45 j_Quay_richest_79 j_Quay_richest_81
        simp only [hm61]
        rw [if_neg (by rw [le_n (by omega) (by omega)]; omega), if_neg (by rw [n_lt0 (by omega)]; exact id), g1, ob, g3, ob, ni_s]
        by_cases hab : a ≤ b
        · simp only [if_pos hab]
        · simp only [if_neg hab]
      · unfold b_Model_richest_60 j_Model_richest_92
        simp only [hm11]
        rw [if_neg (by rw [le_n (by omega) (by omega)]; omega), g2, ob, g4, ob, ni_s]
        by_cases hab : a ≤ b
        · simp only [if_pos hab]
        · simp only [if_neg hab]
      · by_cases hab : a ≤ b
        · exact ⟨j, by omega, hjM, if_pos hab⟩
        · exact ⟨i, by omega, hi, if_neg hab⟩) z' (z' + 1) 1 (nI 0, nI 1) (nI 0, nI 1) ⟨rfl, rfl, 0, by omega, by omega, rfl⟩ (by omega) (by omega) (by omega)
    subst hr hq
    refine ⟨x', w1, t1, ?_, ?_, c5.tr d6, c6.tr d7⟩
    · show b_Quay_richest_45 (z' + 1) (x, w1) (rp (b_Quay_richest_45 (z' + 1) (x, w1)) z') (-1, 0) = _
      rw [first, h1]
    · exact h2
theorem s_richest (hz : 4000 < z) (h : Inv z v sp) (a : Int32) : Same z v sp (f_Quay_richest z v a) (fun v => f_Model_richest z v sp a) [(1, 1)] := by
  obtain ⟨S, G, M, L, O, cs, ct, h⟩ := h
  obtain ⟨m1, m2, m3, m4, m5⟩ := h.mid (v1 := v) (fun _ _ => rfl)
  unfold Same
  unfold f_Quay_richest f_Model_richest
  simp only [bd, isIn_e, ob, qb]
  rcases (Classical.em (¬ a < 1 ∧ ¬ 90 < a)).symm with h1 | h1
  · refine Or.inr ⟨1, 1, 0, _, List.mem_cons_self, ?_, ?_, th0, h.no⟩
    · by_cases h3 : a < 1
      · rw [if_pos h3]
      · rw [if_neg h3, if_neg (fun q => h1 ⟨h3, Int32.not_lt.mpr q⟩)]
    · rw [if_pos (decide_eq_false h1)]
      rfl
  obtain ⟨d, hd0, hd, rfl⟩ := in_rng (a := a) (lo := 1) (hi := 90) (by omega) (by omega) h1.1 h1.2
  rw [if_neg h1.1, if_pos (Int32.not_lt.mp h1.2)]
  obtain ⟨x, v1, -, c1, -, c3, -⟩ := rich_two h.1 m1 m2 m3 m4 hz (d := d) hd
  obtain ⟨n1, n2, n3, n4, n5⟩ := h.mid (c3.f (Or.inr rfl))
  obtain ⟨x', v1', u1, d1, d2, d3, d4⟩ := rich_two h.1 n1 n2 n3 n4 hz (d := d) hd
  rw [c1] at d1
  obtain ⟨rfl, rfl⟩ := Prod.mk.inj (Sum.inl.inj (Option.some.inj d1))
  obtain ⟨f1, f2⟩ := h.mind c3 d4
  refine Or.inl ⟨x, v1, u1, c1, ?_, f1, f2⟩
  rw [if_neg (by rw [decide_eq_true h1]; decide)]
  exact d2
theorem over_two (hP : PL v u sp S G M L O) (hR : RS v u k sn L) (hz : 4000 < z) {i : Nat} (hi : i < M) : f_Stand_isOverCredit z v k (nI i) = some (decide (¬ row_t (fun b => u (sn + 7) (6 * i + b)) 6 ≤ u (sp + 12) i)) := by
  have hB := hP.1
  unfold f_Stand_isOverCredit
  rw [hR.sumOf (by omega) (by omega), ob, bd, rg (by omega) (by omega), (hP.2.2.2.2.2.1 i hi).1]
  by_cases h : row_t (fun b => u (sn + 7) (6 * i + b)) 6 ≤ u (sp + 12) i
  · rw [if_pos h, decide_eq_false (fun q => q h)]
  · rw [if_neg h, decide_eq_true h]
theorem until_two (hs : sp = 151 ∨ 194 ≤ sp) (hP : PL v u sp S G M L O) (hX : PX z v u sp L G M O cs ct) (hR : RS v u 97 173 L) (hI : IS u 173 L G M) (hz : 4000 < z) {m : Nat} (hm : m < M) :
    ∃ x v1 u1, ((f_Stand_copyFrom v 123 97).bind fun q26 => rp (b_Quay_until_31 z (nI m)) z (0, q26)) = some (.inl (x, v1)) ∧ ((f_State_become u 183 173).bind fun q27 => rp (b_Model_until_32 z sp (nI m)) z (0, q27)) = some (x, u1) ∧ FC 123 v v1 ∧ FM 183 u u1 := by
  have hB := hP.1
  obtain ⟨v1, u1, c1, c2, c3, c4, c5, c6⟩ := ahead_two hP hR hI
  rw [c1, c2, ob, ob]
  have mm : ∀ {v u : Va} {K : Int32 × Va → Option (Int32 × Va)} {i : Nat}, PL v u sp S G M L O → i ≤ 150 → b_Model_until_32 z sp (nI m) K (nI i, u) = if row_t (fun b => u 190 (6 * m + b)) 6 ≤ u (sp + 12) m then (f_Model_dayOn z u sp 183).bind fun q66 => K (nI (i + 1), q66.2) else some (nI i, u) := by
    intro v u K i hP hi
    unfold b_Model_until_32
    simp only
    rw [show (150 : Int32) = nI 150 from rfl, if_neg (by rw [lt_n (by omega) (by omega)]; omega), deb_m (by omega) (by omega), ob, if_neg (gd2 (by omega) (by omega)), ni_c (by omega), ni_s]
  obtain ⟨r, q, h1, h2, x, w1, t1, rfl, rfl, h3, h4⟩ := rp_twoF (f := b_Quay_until_31 z (nI m)) (g := b_Model_until_32 z sp (nI m)) (fun i s t => s.1 = nI i ∧ t.1 = nI i ∧ RS s.2 t.2 123 183 L ∧ IS t.2 183 L G M ∧ FC 123 v s.2 ∧ FM 183 u t.2) (fun r q => ∃ x w1 t1, r = .inl (x, w1) ∧ q = (x, t1) ∧ FC 123 v w1 ∧ FM 183 u t1) 150 (by
    intro K fv s t hfv ⟨e1, e2, hR', hI', hC, hM⟩
    have hP' := hP.fr hC hM (Or.inr rfl) (Or.inr rfl) hs
    have hX' := hX.fr hC hM (Or.inr rfl) (Or.inr rfl) hs
    obtain ⟨s1, s2⟩ := s
    obtain ⟨t0, t2⟩ := t
    simp only at e1 e2 hR' hI' hC hM hP' hX'
    subst e1 e2
    have ho := over_two (z := z) hP' hR' hz hm
    have hmm := mm (K := rp (b_Model_until_32 z sp (nI m)) fv) (i := 150) hP' (by omega)
    by_cases hc : row_t (fun b => t2 190 (6 * m + b)) 6 ≤ t2 (sp + 12) m
    · obtain ⟨x, w, a, q1, q2, q3, q4, q5, q6⟩ := day_two hP' hX' hR' hI' (Or.inr rfl) (Or.inr rfl) hs hz
      refine ⟨_, _, ?_, ?_, -1, s2, a, rfl, rfl, hC, hM.tr q6⟩
      · unfold b_Quay_until_31
        simp only
        rw [if_pos (by decide), ho, ob, decide_eq_false (fun q => q hc), if_pos (by decide)]
      · rw [hmm, if_pos hc, q1, ob]
        obtain ⟨fv', rfl⟩ : ∃ y, fv = y + 1 := ⟨fv - 1, by omega⟩
        show b_Model_until_32 z sp (nI m) _ (nI (150 + 1), a) = _
        unfold b_Model_until_32
        simp only
        rw [if_pos (by decide)]
    · refine ⟨_, _, ?_, ?_, 150, s2, t2, rfl, rfl, hC, hM⟩
      · unfold b_Quay_until_31
        simp only
        rw [if_pos (by decide), ho, ob, decide_eq_true hc, if_neg (by decide)]
      · rw [hmm, if_neg hc]
        rfl) (by
    intro K K' i s t hi ⟨e1, e2, hR', hI', hC, hM⟩
    have hP' := hP.fr hC hM (Or.inr rfl) (Or.inr rfl) hs
    have hX' := hX.fr hC hM (Or.inr rfl) (Or.inr rfl) hs
    obtain ⟨s1, s2⟩ := s
    obtain ⟨t0, t2⟩ := t
    simp only at e1 e2 hR' hI' hC hM hP' hX'
    subst e1 e2
    have ho := over_two (z := z) hP' hR' hz hm
    have hmm := mm (K := K') (i := i) hP' (by omega)
    by_cases hc : row_t (fun b => t2 190 (6 * m + b)) 6 ≤ t2 (sp + 12) m
    · obtain ⟨x, w, a, q1, q2, q3, q4, q5, q6⟩ := day_two hP' hX' hR' hI' (Or.inr rfl) (Or.inr rfl) hs hz
      have hgo : f_Days_goOn z s2 123 1 = some (0 + x, w) := by
        obtain ⟨z', rfl⟩ : ∃ y, z = y + 2 := ⟨z - 2, by omega⟩
        show b_Days_goOn_4 (z' + 2) 123 1 _ (0, 0, s2) = _
        rw [q2 _ 0 0 1 (by decide)]
        show b_Days_goOn_4 (z' + 2) 123 1 _ (0 + x, 0 + 1, w) = _
        unfold b_Days_goOn_4
        simp only
        rw [if_pos (by decide)]
      refine Or.inl ⟨(nI (i + 1), w), (nI (i + 1), a), ?_, ?_, rfl, rfl, q3, q4, hC.tr q5, hM.tr q6⟩
      · unfold b_Quay_until_31
        simp only
        rw [show (150 : Int32) = nI 150 from rfl, if_neg (by rw [le_n (by omega) (by omega)]; omega), ho, ob, decide_eq_false (fun q => q hc), if_pos (by decide), hgo, ob, ni_s]
      · rw [hmm, if_pos hc, q1, ob]
    · refine Or.inr ⟨_, _, ?_, ?_, nI i, s2, t2, rfl, rfl, hC, hM⟩
      · unfold b_Quay_until_31
        simp only
        rw [show (150 : Int32) = nI 150 from rfl, if_neg (by rw [le_n (by omega) (by omega)]; omega), ho, ob, decide_eq_true hc, if_neg (by decide)]
      · rw [hmm, if_neg hc]) z z 0 (0, v1) (0, u1) ⟨rfl, rfl, c3, c4, c5, c6⟩ (by omega) (by omega) (by omega)
  exact ⟨x, w1, t1, h1, h2, h3, h4⟩
theorem s_until (hz : 4000 < z) (h : Inv z v sp) (a : Int32) : Same z v sp (f_Quay_until z v a) (fun v => f_Model_until z v sp a) [(2, 1)] := by
  obtain ⟨S, G, M, L, O, cs, ct, h⟩ := h
  obtain ⟨m1, m2, m3, m4, m5⟩ := h.mid (v1 := v) (fun _ _ => rfl)
  have hB := m1.1
  unfold Same
  unfold f_Quay_until f_Model_until
  simp only [bd, isM_c m1, ob, qb]
  rcases (Classical.em (¬ a < 0 ∧ ¬ nI M ≤ a)).symm with h1 | h1
  · refine Or.inr ⟨2, 1, 0, _, List.mem_cons_self, if_pos (decide_eq_false h1), ?_, th0, h.no⟩
    rw [isM_m m1, ob, if_pos (decide_eq_false h1)]
    rfl
  obtain ⟨i, hi, rfl⟩ := i_nat (by omega) h1.1 h1.2
  rw [if_neg (by rw [decide_eq_true h1]; decide)]
  obtain ⟨x, v1, -, c1, -, c3, -⟩ := until_two h.1 m1 m2 m3 m4 hz hi
  obtain ⟨n1, n2, n3, n4, n5⟩ := h.mid (c3.f (Or.inr rfl))
  obtain ⟨x', v1', u1, d1, d2, d3, d4⟩ := until_two h.1 n1 n2 n3 n4 hz hi
  rw [c1] at d1
  obtain ⟨rfl, rfl⟩ := Prod.mk.inj (Sum.inl.inj (Option.some.inj d1))
  obtain ⟨f1, f2⟩ := h.mind c3 d4
  refine Or.inl ⟨x, v1, u1, c1, ?_, f1, f2⟩
  rw [isM_m n1, ob, if_neg (by rw [decide_eq_true h1]; decide)]
  exact d2
/-! the checksum -/
theorem dig_lots (hP : PL v u sp S G M L O) (hR : RS v u 97 173 L) (hI : IS u 173 L G M) (hz : 4000 < z) (d : Int64) :
    ∃ d', f_Quay_digestOfLots z v d = some d' ∧ rp (b_Model_digest_42 z sp u) z (d, 0) = rp (b_Model_digest_92 z sp u) z (d', 0) := by
  have hB := hP.1
  refine rp_twoE (f := b_Quay_digestOfLots_5 z v) (g := b_Model_digest_42 z sp u) (fun i s t => s = t ∧ s.2 = nI i) (fun a b => ∃ d', a = some d' ∧ b = rp (b_Model_digest_92 z sp u) z (d', 0)) L ?_ ?_ z z 0 (d, 0) (d, 0) ⟨rfl, rfl⟩ (by omega) (by omega) (by omega)
  · intro K K' s t ⟨e0, e1⟩
    subst e0
    refine ⟨s.1, ?_, ?_⟩
    · unfold b_Quay_digestOfLots_5
      rw [e1, hP.2.1.2.2.2.1, if_pos (by rw [le_n (by omega) (by omega)]; exact Nat.le_refl _)]
    · unfold b_Model_digest_42
      rw [e1, hP.2.2.1.2.2.2.1, if_pos (by rw [le_n (by omega) (by omega)]; exact Nat.le_refl _)]
  · intro K K' i s t hi ⟨e0, e1⟩
    subst e0
    obtain ⟨s1, s2⟩ := s
    simp only at e1
    subst e1
    have hh := rp_twoE (f := b_Quay_digestOfLots_20 v K (s1, nI i)) (g := b_Model_digest_56 sp u K' (s1, nI i)) (fun j s t => s = t ∧ s.2 = nI j) (fun a b => ∃ d', a = K (d', nI (i + 1)) ∧ b = K' (d', nI (i + 1))) 7 (by
      intro K2 K3 s t ⟨e0, e1⟩
      subst e0
      refine ⟨s.1, ?_, ?_⟩
      · unfold b_Quay_digestOfLots_20
        rw [e1, if_pos (by decide), ni_s]
      · unfold b_Model_digest_56
        rw [e1, if_pos (by decide), ni_s]) (by
      intro K2 K3 j s t hj ⟨e0, e1⟩
      subst e0
      obtain ⟨t1, t2⟩ := s
      simp only at e1
      subst e1
      obtain ⟨x, q1, q2⟩ := lot_two hP hR hI hi (nI j)
      refine Or.inl ⟨(t1 * 31 + x.toInt64, nI (j + 1)), (t1 * 31 + x.toInt64, nI (j + 1)), ?_, ?_, rfl, rfl⟩
      · unfold b_Quay_digestOfLots_20
        simp only
        rw [show (6 : Int32) = nI 6 from rfl, if_neg (by rw [lt_n (by omega) (by omega)]; omega), q1, ob, ni_s]
      · unfold b_Model_digest_56
        simp only
        rw [show (6 : Int32) = nI 6 from rfl, if_neg (by rw [lt_n (by omega) (by omega)]; omega), q2, ob, ni_s]) z z 0 (s1, 0) (s1, 0) ⟨rfl, rfl⟩ (by omega) (by omega) (by omega)
    obtain ⟨d', h1, h2⟩ := hh
    refine Or.inl ⟨(d', nI (i + 1)), (d', nI (i + 1)), ?_, ?_, rfl, rfl⟩
    · unfold b_Quay_digestOfLots_5
      simp only
      rw [hP.2.1.2.2.2.1, if_neg (by rw [le_n (by omega) (by omega)]; omega)]
      exact h1
    · unfold b_Model_digest_42
      simp only
      rw [hP.2.2.1.2.2.2.1, if_neg (by rw [le_n (by omega) (by omega)]; omega)]
      exact h2
theorem dig_merchants (hP : PL v u sp S G M L O) (hR : RS v u 97 173 L) (hI : IS u 173 L G M) (hz : 4000 < z) (d : Int64) :
    ∃ d', f_Quay_digestOfMerchants z v d = some d' ∧ rp (b_Model_digest_92 z sp u) z (d, 0) = rp (b_Model_digest_180 z sp u) z (d', 0) := by
  have hB := hP.1
  refine rp_twoE (f := b_Quay_digestOfMerchants_5 z v) (g := b_Model_digest_92 z sp u) (fun i s t => s = t ∧ s.2 = nI i) (fun a b => ∃ d', a = some d' ∧ b = rp (b_Model_digest_180 z sp u) z (d', 0)) M ?_ ?_ z z 0 (d, 0) (d, 0) ⟨rfl, rfl⟩ (by omega) (by omega) (by omega)
  · intro K K' s t ⟨e0, e1⟩
    subst e0
    refine ⟨s.1, ?_, ?_⟩
    · unfold b_Quay_digestOfMerchants_5
      rw [e1, hP.2.1.2.2.1, if_pos (by rw [le_n (by omega) (by omega)]; exact Nat.le_refl _)]
    · unfold b_Model_digest_92
      rw [e1, hP.2.2.1.2.2.1, if_pos (by rw [le_n (by omega) (by omega)]; exact Nat.le_refl _)]
  · intro K K' i s t hi ⟨e0, e1⟩
    subst e0
    obtain ⟨s1, s2⟩ := s
    simp only at e1
    subst e1
    have hh := rp_twoE (f := b_Quay_digestOfMerchants_20 z v K (s1, nI i)) (g := b_Model_digest_106 z sp u K' (s1, nI i)) (fun j s t => s = t ∧ s.2 = nI j) (fun a b => ∃ d', a = K (d', nI (i + 1)) ∧ b = K' (d', nI (i + 1))) 6 (by
      intro K2 K3 s t ⟨e0, e1⟩
      subst e0
      have h3 := rp_twoE (f := b_Quay_digestOfMerchants_54 v K (s1, nI i)) (g := b_Model_digest_136 sp u K' (s1, nI i)) (fun j s t => s = t ∧ s.2 = nI j) (fun a b => ∃ d', a = K (d', nI (i + 1)) ∧ b = K' (d', nI (i + 1))) M (by
        intro K4 K5 s t ⟨e0, e1⟩
        subst e0
        refine ⟨s.1, ?_, ?_⟩
        · unfold b_Quay_digestOfMerchants_54
          rw [e1, hP.2.1.2.2.1, if_pos (by rw [le_n (by omega) (by omega)]; exact Nat.le_refl _), ni_s]
        · unfold b_Model_digest_136
          rw [e1, hP.2.2.1.2.2.1, if_pos (by rw [le_n (by omega) (by omega)]; exact Nat.le_refl _), ni_s]) (by
        intro K4 K5 j s t hj ⟨e0, e1⟩
        subst e0
        obtain ⟨t1, t2⟩ := s
        simp only at e1
        subst e1
        have q1 := hR.bet (a := i) (b := j) (by omega) (by omega)
        refine Or.inl ⟨(t1 * 31 + (u (173 + 7) (6 * i + j)).toInt64, nI (j + 1)), (t1 * 31 + (u (173 + 7) (6 * i + j)).toInt64, nI (j + 1)), ?_, ?_, rfl, rfl⟩
        · unfold b_Quay_digestOfMerchants_54
          simp only
          rw [hP.2.1.2.2.1, if_neg (by rw [le_n (by omega) (by omega)]; omega), show (110 : Nat) = 97 + 13 from rfl, q1, ob, ni_s]
        · unfold b_Model_digest_136
          simp only
          rw [hP.2.2.1.2.2.1, if_neg (by rw [le_n (by omega) (by omega)]; omega), owes_m (by omega) (by omega), ob, ni_s]) z z 0 (s.1, 0) (s.1, 0) ⟨rfl, rfl⟩ (by omega) (by omega) (by omega)
      obtain ⟨d', h4, h5⟩ := h3
      refine ⟨d', ?_, ?_⟩
      · unfold b_Quay_digestOfMerchants_20
        rw [e1, if_pos (by decide)]
        exact h4
      · unfold b_Model_digest_106
        rw [e1, if_pos (by decide)]
        exact h5) (by
      intro K2 K3 j s t hj ⟨e0, e1⟩
      subst e0
      obtain ⟨t1, t2⟩ := s
      simp only at e1
      subst e1
      obtain ⟨x, q1, q2⟩ := merchant_two hP hR hI hz hi (w := j) (by omega)
      refine Or.inl ⟨(t1 * 31 + x.toInt64, nI (j + 1)), (t1 * 31 + x.toInt64, nI (j + 1)), ?_, ?_, rfl, rfl⟩
      · unfold b_Quay_digestOfMerchants_20
        simp only
        rw [show (5 : Int32) = nI 5 from rfl, if_neg (by rw [lt_n (by omega) (by omega)]; omega), q1, ob, ni_s]
      · unfold b_Model_digest_106
        simp only
        rw [show (5 : Int32) = nI 5 from rfl, if_neg (by rw [lt_n (by omega) (by omega)]; omega), q2, ob, ni_s]) z z 0 (s1, 0) (s1, 0) ⟨rfl, rfl⟩ (by omega) (by omega) (by omega)
    obtain ⟨d', h1, h2⟩ := hh
    refine Or.inl ⟨(d', nI (i + 1)), (d', nI (i + 1)), ?_, ?_, rfl, rfl⟩
    · unfold b_Quay_digestOfMerchants_5
      simp only
      rw [hP.2.1.2.2.1, if_neg (by rw [le_n (by omega) (by omega)]; omega)]
      exact h1
    · unfold b_Model_digest_92
      simp only
      rw [hP.2.2.1.2.2.1, if_neg (by rw [le_n (by omega) (by omega)]; omega)]
      exact h2
theorem dig_guilds (hP : PL v u sp S G M L O) (hR : RS v u 97 173 L) (hz : 4000 < z) (d : Int64) :
    ∃ d', f_Quay_digestOfGuilds z v d = some d' ∧ rp (b_Model_digest_180 z sp u) z (d, 0) = rp (b_Model_digest_229 z sp) z (d', 0, u) := by
  have hB := hP.1
  refine rp_twoE (f := b_Quay_digestOfGuilds_5 z v) (g := b_Model_digest_180 z sp u) (fun i s t => s = t ∧ s.2 = nI i) (fun a b => ∃ d', a = some d' ∧ b = rp (b_Model_digest_229 z sp) z (d', 0, u)) G ?_ ?_ z z 0 (d, 0) (d, 0) ⟨rfl, rfl⟩ (by omega) (by omega) (by omega)
  · intro K K' s t ⟨e0, e1⟩
    subst e0
    refine ⟨s.1, ?_, ?_⟩
    · unfold b_Quay_digestOfGuilds_5
      rw [e1, hP.2.1.2.1, if_pos (by rw [le_n (by omega) (by omega)]; exact Nat.le_refl _)]
    · unfold b_Model_digest_180
      rw [e1, hP.2.2.1.2.1, if_pos (by rw [le_n (by omega) (by omega)]; exact Nat.le_refl _)]
  · intro K K' i s t hi ⟨e0, e1⟩
    subst e0
    obtain ⟨s1, s2⟩ := s
    simp only at e1
    subst e1
    have hh := rp_twoE (f := b_Quay_digestOfGuilds_20 z v K (s1, nI i)) (g := b_Model_digest_194 z sp u K' (s1, nI i)) (fun j s t => s = t ∧ s.2 = nI j) (fun a b => ∃ d', a = K (d', nI (i + 1)) ∧ b = K' (d', nI (i + 1))) 4 (by
      intro K2 K3 s t ⟨e0, e1⟩
      subst e0
      refine ⟨s.1, ?_, ?_⟩
      · unfold b_Quay_digestOfGuilds_20
        rw [e1, if_pos (by decide), ni_s]
      · unfold b_Model_digest_194
        rw [e1, if_pos (by decide), ni_s]) (by
      intro K2 K3 j s t hj ⟨e0, e1⟩
      subst e0
      obtain ⟨t1, t2⟩ := s
      simp only at e1
      subst e1
      obtain ⟨x, q1, q2⟩ := guild_two hP hR hz hi (nI j)
      refine Or.inl ⟨(t1 * 31 + x.toInt64, nI (j + 1)), (t1 * 31 + x.toInt64, nI (j + 1)), ?_, ?_, rfl, rfl⟩
      · unfold b_Quay_digestOfGuilds_20
        simp only
        rw [show (3 : Int32) = nI 3 from rfl, if_neg (by rw [lt_n (by omega) (by omega)]; omega), q1, ob, ni_s]
      · unfold b_Model_digest_194
        simp only
        rw [show (3 : Int32) = nI 3 from rfl, if_neg (by rw [lt_n (by omega) (by omega)]; omega), q2, ob, ni_s]) z z 0 (s1, 0) (s1, 0) ⟨rfl, rfl⟩ (by omega) (by omega) (by omega)
    obtain ⟨d', h1, h2⟩ := hh
    refine Or.inl ⟨(d', nI (i + 1)), (d', nI (i + 1)), ?_, ?_, rfl, rfl⟩
    · unfold b_Quay_digestOfGuilds_5
      simp only
      rw [hP.2.1.2.1, if_neg (by rw [le_n (by omega) (by omega)]; omega)]
      exact h1
    · unfold b_Model_digest_180
      simp only
      rw [hP.2.2.1.2.1, if_neg (by rw [le_n (by omega) (by omega)]; omega)]
      exact h2
theorem dig_orders (hs : sp = 151 ∨ 194 ≤ sp) (hP : PL v u sp S G M L O) (hX : PX z v u sp L G M O cs ct) (hR : RS v u 97 173 L) (hI : IS u 173 L G M) (hz : 4000 < z) (d : Int64) :
    ∃ q r, f_Quay_digestOfOrders z v d = some q ∧ rp (b_Model_digest_229 z sp) z (d, 0, u) = some r ∧ q.1 = r.1 ∧ FR 97 v q.2 ∧ FW u r.2 := by
  have hB := hP.1
  refine rp_two (f := b_Quay_digestOfOrders_5 z) (g := b_Model_digest_229 z sp) (fun i s t => s.1 = t.1 ∧ s.2.1 = nI i ∧ t.2.1 = nI i ∧ FR 97 v s.2.2 ∧ FW u t.2.2) (fun q r => q.1 = r.1 ∧ FR 97 v q.2 ∧ FW u r.2) O ?_ ?_ z z 0 (d, 0, v) (d, 0, u) ⟨rfl, rfl, rfl, fun _ _ _ => rfl, fun _ _ => rfl, fun _ _ _ => rfl⟩ (by omega) (by omega) (by omega)
  · intro K K' s t ⟨e0, e1, e2, hF, hW⟩
    have hP' := hP.fr hF.fc (sn := 173) hW.fm (Or.inl rfl) (Or.inl rfl) hs
    refine ⟨(s.1, s.2.2), (t.1, t.2.2), ?_, ?_, e0, hF, hW⟩
    · unfold b_Quay_digestOfOrders_5
      rw [e1, hP'.2.1.2.2.2.2, if_pos (by rw [le_n (by omega) (by omega)]; exact Nat.le_refl _)]
    · unfold b_Model_digest_229
      rw [e2, hP'.2.2.1.2.2.2.2, if_pos (by rw [le_n (by omega) (by omega)]; exact Nat.le_refl _)]
  · intro K K' i s t hi ⟨e0, e1, e2, hF, hW⟩
    have hP' := hP.fr hF.fc (sn := 173) hW.fm (Or.inl rfl) (Or.inl rfl) hs
    obtain ⟨s1, s2, s3⟩ := s
    obtain ⟨t1, t2, t3⟩ := t
    simp only at e0 e1 e2 hF hW hP'
    subst e0 e1 e2
    have hh := rp_twoE (f := b_Quay_digestOfOrders_20 z K (s1, nI i, s3)) (g := b_Model_digest_243 z sp K' (s1, nI i, t3)) (fun j s t => s.1 = t.1 ∧ s.2.1 = nI j ∧ t.2.1 = nI j ∧ FR 97 v s.2.2 ∧ FW u t.2.2) (fun a b => ∃ d' v' u', a = K (d', nI (i + 1), v') ∧ b = K' (d', nI (i + 1), u') ∧ FR 97 v v' ∧ FW u u') 5 (by
      intro K2 K3 s t ⟨e0, e1, e2, hF, hW⟩
      refine ⟨s.1, s.2.2, t.2.2, ?_, ?_, hF, hW⟩
      · unfold b_Quay_digestOfOrders_20
        rw [e1, if_pos (by decide), ni_s]
      · unfold b_Model_digest_243
        rw [e2, if_pos (by decide), ni_s, e0]) (by
      intro K2 K3 j s t hj ⟨e0, e1, e2, hF, hW⟩
      obtain ⟨a1, a2, a3⟩ := s
      obtain ⟨b1, b2, b3⟩ := t
      simp only at e0 e1 e2 hF hW
      subst e0 e1 e2
      have hP2 := hP.fr hF.fc (sn := 173) hW.fm (Or.inl rfl) (Or.inl rfl) hs
      have hX2 := hX.fr hF.fc (sn := 173) hW.fm (Or.inl rfl) (Or.inl rfl) hs
      obtain ⟨x, w, c, q1, q2, q3, q4⟩ := order_two hP2 hX2 (hR.fr hF hW (by omega)) (hI.fr hW (by omega)) hs hz hi (nI j)
      refine Or.inl ⟨(a1 * 31 + x.toInt64, nI (j + 1), w), (a1 * 31 + x.toInt64, nI (j + 1), c), ?_, ?_, rfl, rfl, rfl, hF.tr q3, hW.tr q4⟩
      · unfold b_Quay_digestOfOrders_20
        simp only
        rw [show (4 : Int32) = nI 4 from rfl, if_neg (by rw [lt_n (by omega) (by omega)]; omega), q1, ob, ni_s]
      · unfold b_Model_digest_243
        simp only
        rw [show (4 : Int32) = nI 4 from rfl, if_neg (by rw [lt_n (by omega) (by omega)]; omega), q2, ob, ni_s]) z z 0 (s1, 0, s3) (s1, 0, t3) ⟨rfl, rfl, rfl, hF, hW⟩ (by omega) (by omega) (by omega)
    obtain ⟨d', v', u', h1, h2, h3, h4⟩ := hh
    refine Or.inl ⟨(d', nI (i + 1), v'), (d', nI (i + 1), u'), ?_, ?_, rfl, rfl, rfl, h3, h4⟩
    · unfold b_Quay_digestOfOrders_5
      simp only
      rw [hP'.2.1.2.2.2.2, if_neg (by rw [le_n (by omega) (by omega)]; omega)]
      exact h1
    · unfold b_Model_digest_229
      simp only
      rw [hP'.2.2.1.2.2.2.2, if_neg (by rw [le_n (by omega) (by omega)]; omega)]
      exact h2
theorem dig_two (hs : sp = 151 ∨ 194 ≤ sp) (hP : PL v u sp S G M L O) (hX : PX z v u sp L G M O cs ct) (hR : RS v u 97 173 L) (hI : IS u 173 L G M) (hz : 4000 < z) (hb : v 0 8 = u 149 2) :
    ∃ q r, f_Quay_digest z v = some q ∧ rp (b_Model_digest_11 z sp u) z (829, 0) = some r ∧ q.1 = r.1 ∧ FR 97 v q.2 ∧ FW u r.2 := by
  refine rp_two (f := b_Quay_digest_6 z v) (g := b_Model_digest_11 z sp u) (fun i s t => s = t ∧ s.2 = nI i) (fun q r => q.1 = r.1 ∧ FR 97 v q.2 ∧ FW u r.2) 14 ?_ ?_ z z 0 (829, 0) (829, 0) ⟨rfl, rfl⟩ (by omega) (by omega) (by omega)
  · intro K K' s t ⟨e0, e1⟩
    subst e0
    obtain ⟨d1, p1, p2⟩ := dig_lots hP hR hI hz s.1
    obtain ⟨d2, p3, p4⟩ := dig_merchants hP hR hI hz d1
    obtain ⟨d3, p5, p6⟩ := dig_guilds hP hR hz d2
    obtain ⟨q, r, p7, p8, p9⟩ := dig_orders hs hP hX hR hI hz d3
    refine ⟨q, r, ?_, ?_, p9⟩
    · unfold b_Quay_digest_6
      rw [e1, if_pos (by decide), p1, ob, p3, ob, p5, ob, p7, ob]
    · unfold b_Model_digest_11
      rw [e1, if_pos (by decide), p2, p4, p6, p8]
  · intro K K' i s t hi ⟨e0, e1⟩
    subst e0
    obtain ⟨s1, s2⟩ := s
    simp only at e1
    subst e1
    obtain ⟨x, q1, q2⟩ := counted_two hP hR hI hz hb (w := i) (by omega)
    refine Or.inl ⟨(s1 * 31 + x.toInt64, nI (i + 1)), (s1 * 31 + x.toInt64, nI (i + 1)), ?_, ?_, rfl, rfl⟩
    · unfold b_Quay_digest_6
      simp only
      rw [show (13 : Int32) = nI 13 from rfl, if_neg (by rw [lt_n (by omega) (by omega)]; omega), q1, ob, ni_s]
    · unfold b_Model_digest_11
      simp only
      rw [show (13 : Int32) = nI 13 from rfl, if_neg (by rw [lt_n (by omega) (by omega)]; omega), q2, ob, ni_s]
theorem s_digest (hz : 4000 < z) (h : Inv z v sp) : ∃ x v1 v2, f_Quay_digest z v = some (x, v1) ∧ f_Model_digest z v1 sp = some (x, v2) ∧ Inv z v2 sp := by
  obtain ⟨S, G, M, L, O, cs, ct, h⟩ := h
  obtain ⟨m1, m2, m3, m4, m5⟩ := h.mid (v1 := v) (fun _ _ => rfl)
  obtain ⟨⟨x, w⟩, -, c1, -, -, c3, -⟩ := dig_two h.1 m1 m2 m3 m4 hz m5
  have hC : Fc v w := c3.fc.f (Or.inl rfl)
  obtain ⟨n1, n2, n3, n4, n5⟩ := h.mid hC
  obtain ⟨⟨x', w'⟩, ⟨y, u'⟩, d1, d2, d3, d4, d5⟩ := dig_two h.1 n1 n2 n3 n4 hz n5
  simp only at d3 d4 d5 c3
  rw [c1] at d1
  obtain ⟨rfl, rfl⟩ := Prod.mk.inj (Option.some.inj d1)
  subst d3
  have hU : ∀ p, p ≠ 149 → u' p = w p := fun p hp => by rw [d5.1 p hp]; unfold pu; rw [up_ne hp]
  exact ⟨x, w, u', c1, d2, S, G, M, L, O, cs, ct, h.thought hC (Fm_th.tr (d5.fm.f (sn := 173) (Or.inl rfl))) (fun p a b => hU p (by omega)) (fun p a b c => c3 p (by omega) (by omega))⟩
end
