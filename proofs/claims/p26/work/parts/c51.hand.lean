/-! BY HAND, AND DAYS -/
section
variable {v u v1 v2 u1 : Va} {sp S G M L O z : Nat} {cs ct : Nat → List Ste}
theorem InvP.fin (h : InvP z v sp S G M L O cs ct) (hC : Fc v v1) (hM : Fm v1 v2) (h0 : v2 149 0 = 0) (hR : RS v1 v2 97 173 L) (hI : IS v2 173 L G M) : v2 149 0 = 0 ∧ Inv z v2 sp := ⟨h0, S, G, M, L, O, cs, ct, h.step hC hM hR hI⟩
theorem FM_fin {sn : Nat} (h : FM sn (pu v 149 0 0) v1) : v1 149 0 = 0 := (h.2 0 (by omega) (by omega)).trans th0
theorem IS_damp {sn d : Nat} (h : IS u sn L G M) (hd : d < 10) : IS (pu u sn 1 (nI d)) sn L G M := h.x ⟨d, hd, upd_eq⟩
theorem s_setDamp (h : Inv z v sp) (a : Int32) : Same z v sp (f_Quay_setDamp v a) (fun v => f_Model_setDamp v sp a) [(1, 1)] := by
  obtain ⟨S, G, M, L, O, cs, ct, h⟩ := h
  unfold Same
  unfold f_Quay_setDamp f_Model_setDamp
  simp only [bd, isIn_e, ob, qb]
  by_cases h1 : ¬ a < 0 ∧ ¬ 9 < a
  · obtain ⟨d, -, hd, rfl⟩ := in_rng (a := a) (lo := 0) (hi := 9) (by omega) (by omega) h1.1 h1.2
    have hC : Fc v (pu v 97 2 (nI d)) := (FC.pu (k := 97) (by omega) (by omega)).f (Or.inl rfl)
    obtain ⟨n1, n2, n3, n4, n5⟩ := h.mid hC
    rw [if_neg h1.1, if_pos (Int32.not_lt.mp h1.2)]
    have hM : FM 173 (pu (pu v 97 2 (nI d)) 149 0 0) (pu (pu (pu v 97 2 (nI d)) 149 0 0) 173 1 (nI d)) := FM.pu (by omega) (by omega) (by omega)
    refine Or.inl ⟨v 97 2, pu v 97 2 (nI d), pu (pu (pu v 97 2 (nI d)) 149 0 0) 173 1 (nI d), rfl, ?_, h.fin hC (Fm_th.tr (hM.f (Or.inl rfl))) (FM_fin hM) (n3.f (j := 1) (by omega) rfl) (IS_damp n4 (by omega))⟩
    rw [if_neg (by rw [decide_eq_true h1]; decide), n3.1.2.1]
  · refine Or.inr ⟨1, 1, 0, _, List.mem_cons_self, ?_, ?_, th0, h.no⟩
    · by_cases h3 : a < 0
      · rw [if_pos h3]
      · rw [if_neg h3, if_neg (fun q => h1 ⟨h3, Int32.not_lt.mpr q⟩)]
    · rw [if_pos (decide_eq_false h1)]
      rfl
/-- what lending does to both sides -/
theorem lend_two (hP : PL v u sp S G M L O) (hR : RS v u 97 173 L) (hI : IS u 173 L G M) {i j : Nat} {c : Int32} (hi : i < M) (hj : j < M) (hij : i ≠ j) (h1 : ¬ c < 1) (h2 : ¬ 9999 < c) (h3 : ¬ u 179 i < c) (h4 : row_t (fun b => u 180 (6 * j + b)) 6 + c ≤ u (sp + 12) j) :
    ∃ x v1 v2 u1, f_Stand_moveCoins v 97 (nI i) (nI j) c = some v2 ∧ f_Debts_grow v2 110 (nI j) (nI i) c = some v1 ∧ f_Debts_between v1 110 (nI j) (nI i) = some x ∧
      pu (pu (pu u 179 i (u 179 i - c)) 179 j (pu u 179 i (u 179 i - c) 179 j + c)) 180 (6 * j + i) (pu (pu u 179 i (u 179 i - c)) 179 j (pu u 179 i (u 179 i - c) 179 j + c) 180 (6 * j + i) + c) = u1 ∧ f_State_owes u1 173 (nI j) (nI i) = some x ∧
      RS v1 u1 97 173 L ∧ IS u1 173 L G M ∧ FC 97 v v1 ∧ FM 173 u u1 := by
  have hB := hP.1
  rw [t_lt, show (1 : Int32).toInt = 1 from rfl] at h1
  rw [t_lt, show (9999 : Int32).toInt = 9999 from rfl] at h2
  rw [t_lt] at h3
  rw [t_le] at h4
  have hcr := (hP.2.2.2.2.2.1 j hj).2
  have hd : ∀ b, b < 6 → 0 ≤ (u 180 (6 * j + b)).toInt ∧ (u 180 (6 * j + b)).toInt ≤ 99999 := fun b hb => ⟨(hI.2.2.2.2.1 j b (by omega) hb).1, (hI.2.2.2.2.1 j b (by omega) hb).2.1⟩
  obtain ⟨d1, d2, d3⟩ := row_t_int (f := fun b => u 180 (6 * j + b)) 6 (by omega) (fun b hb => ⟨(hd b hb).1, by have := (hd b hb).2; omega⟩)
  have d4 := isum_le (f := fun b => u 180 (6 * j + b)) (i := i) 6 (fun b hb => (hd b hb).1) (by omega)
  have d5 := hd i (by omega)
  have e1 : (row_t (fun b => u 180 (6 * j + b)) 6 + c).toInt = (row_t (fun b => u 180 (6 * j + b)) 6).toInt + c.toInt := t_add (by omega) (by omega)
  have e2 : (u 180 (6 * j + i) + c).toInt = (u 180 (6 * j + i)).toInt + c.toInt := t_add (by omega) (by omega)
  have a1 := (moves_two hR (a := i) (b := j) (x := c)).resolve_right (fun q => q ⟨by omega, by omega⟩)
  have b1 := hI.c (hI.2.2.2.1.moves (a := i) (b := j) (x := c) (by omega) (by omega) (by omega) (by show c.toInt ≤ (u 179 i).toInt; omega))
  have hmv := move_c (v := v) (k := 97) (x := c) (show i < 6 by omega) (show j < 6 by omega)
  generalize hv2 : up (up v (97 + 12) (upd (v (97 + 12)) i (v (97 + 12) i + -c))) (97 + 12) (upd (upd (v (97 + 12)) i (v (97 + 12) i + -c)) j (upd (v (97 + 12)) i (v (97 + 12) i + -c) j + c)) = v2 at a1 hmv
  generalize hu2 : up u (173 + 6) (upd (upd (u (173 + 6)) i (u (173 + 6) i - c)) j (upd (u (173 + 6)) i (u (173 + 6) i - c) j + c)) = u2 at a1 b1
  have hC2 : FC 97 v v2 := by rw [← hv2]; exact (FC.up (by omega) (by omega)).tr (FC.up (by omega) (by omega))
  have hM2 : FM 173 u u2 := by rw [← hu2]; exact FM.up (by omega) (by omega) (by omega)
  have f7 : u2 180 = u 180 := by rw [← hu2]; simp (disch := omega) only [up_ne]
  have e3 : q_min 99999 (u2 (173 + 7) (6 * j + i) + c) = u2 (173 + 7) (6 * j + i) + c := min_id (by
    show (u2 180 (6 * j + i) + c).toInt ≤ 99999
    rw [f7, e2]; omega)
  have e4 : v2 (97 + 15) (6 * j + i) = u2 (173 + 7) (6 * j + i) := a1.2.2.2.2.2.2.2.1 _ (by omega)
  have a2 := a1.d (eqN_upd a1.2.2.2.2.2.2.2.1 (6 * j + i) (show q_min 99999 (v2 (97 + 15) (6 * j + i) + c) = u2 (173 + 7) (6 * j + i) + c by rw [e4, e3]))
  have b2 := b1.d (b1.2.2.2.2.1.set (a := j) (b := i) (x := u2 (173 + 7) (6 * j + i) + c) hj hi (by omega) (fun q => hij q.symm) (by show 0 ≤ (u2 180 (6 * j + i) + c).toInt; rw [f7, e2]; omega) (by show (u2 180 (6 * j + i) + c).toInt ≤ 99999; rw [f7, e2]; omega))
  refine ⟨u2 (173 + 7) (6 * j + i) + c, up v2 (97 + 15) (upd (v2 (97 + 15)) (6 * j + i) (q_min 99999 (v2 (97 + 15) (6 * j + i) + c))), v2, up u2 (173 + 7) (upd (u2 (173 + 7)) (6 * j + i) (u2 (173 + 7) (6 * j + i) + c)), hmv, grow_c (k := 97) (by omega) (by omega), ?_, ?_, ?_, a2, b2, hC2.tr (FC.up (by omega) (by omega)), hM2.tr (FM.up (by omega) (by omega) (by omega))⟩
  · rw [show (110 : Nat) = 97 + 13 from rfl, bet_c (by omega) (by omega), show 97 + 13 + 2 = 97 + 15 from rfl, up_eq, upd_eq, e4, e3]
  · have q2 : pu (pu u 179 i (u 179 i - c)) 179 j (pu u 179 i (u 179 i - c) 179 j + c) = u2 := by
      rw [← hu2]; unfold pu; rw [up_up, up_eq]
    rw [q2]
    rfl
  · rw [owes_m (by omega) (by omega), up_eq, upd_eq]
theorem s_lend (hz : 4000 < z) (h : Inv z v sp) (a b c : Int32) : Same z v sp (f_Quay_lend z v a b c) (fun v => f_Model_lend z v sp a b c) [(2, 1), (1, 2), (0, 3)] := by
  obtain ⟨S, G, M, L, O, cs, ct, h⟩ := h
  obtain ⟨m1, m2, m3, m4, m5⟩ := h.mid (v1 := v) (fun _ _ => rfl)
  have hB := m1.1
  unfold Same
  unfold f_Quay_lend f_Model_lend j_Model_lend_36 j_Model_lend_77
  simp only [bd, isM_c m1, isIn_e, ob, qb]
  rcases (Classical.em (¬ a < 0 ∧ ¬ nI M ≤ a)).symm with h1 | h1
  · refine Or.inr ⟨2, 1, 0, _, List.mem_cons_self, if_pos (decide_eq_false h1), ?_, th0, h.no⟩
    rw [areM_m m1, ob]
    rw [if_pos (decide_eq_false fun q => h1 q.1)]
    rfl
  rw [if_neg (by rw [decide_eq_true h1]; decide)]
  rcases (Classical.em (¬ b < 0 ∧ ¬ nI M ≤ b)).symm with h2 | h2
  · refine Or.inr ⟨2, 1, 0, _, List.mem_cons_self, if_pos (decide_eq_false h2), ?_, th0, h.no⟩
    rw [areM_m m1, ob]
    rw [if_pos (decide_eq_false fun q => h2 q.2)]
    rfl
  rw [if_neg (by rw [decide_eq_true h2]; decide)]
  obtain ⟨i, hi, rfl⟩ := i_nat (by omega) h1.1 h1.2
  obtain ⟨j, hj, rfl⟩ := i_nat (by omega) h2.1 h2.2
  have hA : ∀ {u : Va}, PL v u sp S G M L O → f_Model_areMerchants u sp (nI i) (nI j) = some true := fun hq => by rw [areM_m hq, decide_eq_true ⟨h1, h2⟩]
  by_cases hij : i = j
  · subst hij
    rw [if_pos rfl]
    refine Or.inr ⟨1, 2, 0, _, List.mem_cons_of_mem _ List.mem_cons_self, rfl, ?_, th0, h.no⟩
    rw [hA m1, ob, if_neg (by decide), if_pos rfl]
    rfl
  have hne : ¬ nI i = nI j := by rw [eq_n (by omega) (by omega)]; exact hij
  rw [if_neg hne]
  rcases (Classical.em (¬ c < 1 ∧ ¬ 9999 < c)).symm with h3 | h3
  · refine Or.inr ⟨1, 2, 0, _, List.mem_cons_of_mem _ List.mem_cons_self, ?_, ?_, th0, h.no⟩
    · by_cases h4 : c < 1
      · rw [if_pos h4]
      · rw [if_neg h4, if_neg (fun q => h3 ⟨h4, Int32.not_lt.mpr q⟩)]
    · rw [hA m1, ob, if_neg (by decide), if_neg hne, if_pos (decide_eq_false h3)]
      rfl
  rw [if_neg h3.1, if_pos (Int32.not_lt.mp h3.2), rg (by omega) (by omega)]
  have hco : v 109 i = (pu v 149 0 0) 179 i := m3.2.2.2.2.2.2.1 i (by omega)
  rw [hco]
  by_cases h4 : (pu v 149 0 0) 179 i < c
  · rw [if_pos h4]
    refine Or.inr ⟨0, 3, 0, _, List.mem_cons_of_mem _ (List.mem_cons_of_mem _ List.mem_cons_self), rfl, ?_, th0, h.no⟩
    rw [hA m1, ob, if_neg (by decide), if_neg hne, if_neg (by rw [decide_eq_true h3]; decide), if_neg (gd2 (by omega) (by omega)), ni_c (by omega), if_pos h4]
    rfl
  rw [if_neg h4, show (110 : Nat) = 97 + 13 from rfl, m3.sumOf (by omega) (by omega), ob, rg (N := 6) (i := j) (by omega) (by omega), (m1.2.2.2.2.2.1 j hj).1]
  rcases (Classical.em (row_t (fun b => (pu v 149 0 0) 180 (6 * j + b)) 6 + c ≤ (pu v 149 0 0) (sp + 12) j)).symm with h5 | h5
  · rw [if_neg h5]
    refine Or.inr ⟨0, 3, 0, _, List.mem_cons_of_mem _ (List.mem_cons_of_mem _ List.mem_cons_self), rfl, ?_, th0, h.no⟩
    rw [hA m1, ob, if_neg (by decide), if_neg hne, if_neg (by rw [decide_eq_true h3]; decide), if_neg (gd2 (by omega) (by omega)), ni_c (by omega), if_neg h4, deb_m (by omega) (by omega), ob, if_neg (gd2 (by omega) (by omega)), ni_c (by omega), if_neg h5]
    rfl
  rw [if_pos h5]
  obtain ⟨x, w, w2, -, c1, c2, c3, -, -, -, -, c8, -⟩ := lend_two m1 m3 m4 hi hj hij h3.1 h3.2 h4 h5
  have hC : Fc v w := c8.f (Or.inl rfl)
  obtain ⟨n1, n2, n3, n4, n5⟩ := h.mid hC
  have e9 : ∀ p, 149 < p → (pu w 149 0 0) p = (pu v 149 0 0) p := fun p hp => by unfold pu; rw [up_ne (by omega), up_ne (by omega), hC p (by omega)]
  have hs := h.1
  have h4' : ¬ (pu w 149 0 0) 179 i < c := by rw [e9 179 (by omega)]; exact h4
  have h5' : row_t (fun b => (pu w 149 0 0) 180 (6 * j + b)) 6 + c ≤ (pu w 149 0 0) (sp + 12) j := by rw [e9 180 (by omega), e9 (sp + 12) (by omega)]; exact h5
  obtain ⟨x', w', w2', u', d1, d2, d3, d4, d5, d6, d7, d8, d9⟩ := lend_two n1 n3 n4 hi hj hij h3.1 h3.2 h4' h5'
  rw [c1] at d1
  obtain rfl := Option.some.inj d1
  rw [c2] at d2
  obtain rfl := Option.some.inj d2
  rw [c3] at d3
  obtain rfl := Option.some.inj d3
  rw [c1, ob, show (97 + 13 : Nat) = 110 from rfl, c2, ob, c3, ob]
  refine Or.inl ⟨x, w, u', rfl, ?_, h.fin hC (Fm_th.tr (d9.f (Or.inl rfl))) (FM_fin d9) d6 d7⟩
  rw [hA n1, ob, if_neg (by decide), if_neg hne, if_neg (by rw [decide_eq_true h3]; decide)]
  simp (disch := omega) only [gn, ni_c, if_false]
  rw [if_neg h4', deb_m (by omega) (by omega), ob, if_pos h5']
  simp (disch := omega) only [six_r, gn, ni_c, if_false]
  rw [d4, d5, ob]
/-- what setting off does to both sides -/
theorem off_two (hP : PL v u sp S G M L O) (hR : RS v u 97 173 L) (hI : IS u 173 L G M) {i j : Nat} {c : Int32} (hi : i < M) (hj : j < M) (hij : i ≠ j) (hc : c = q_min (u 180 (6 * i + j)) (u 180 (6 * j + i))) :
    ∃ v1 v2 u1, f_Debts_grow v 110 (nI i) (nI j) (-c) = some v2 ∧ f_Debts_grow v2 110 (nI j) (nI i) (-c) = some v1 ∧
      pu (pu u 180 (6 * i + j) (u 180 (6 * i + j) - c)) 180 (6 * j + i) (pu u 180 (6 * i + j) (u 180 (6 * i + j) - c) 180 (6 * j + i) - c) = u1 ∧
      RS v1 u1 97 173 L ∧ IS u1 173 L G M ∧ FC 97 v v1 ∧ FM 173 u u1 := by
  have hB := hP.1
  have q1 := hI.2.2.2.2.1 i j (by omega) (by omega)
  have q2 := hI.2.2.2.2.1 j i (by omega) (by omega)
  have q1' : 0 ≤ (u 180 (6 * i + j)).toInt ∧ (u 180 (6 * i + j)).toInt ≤ 99999 := ⟨q1.1, q1.2.1⟩
  have q2' : 0 ≤ (u 180 (6 * j + i)).toInt ∧ (u 180 (6 * j + i)).toInt ≤ 99999 := ⟨q2.1, q2.2.1⟩
  have e0 : c.toInt = min (u 180 (6 * i + j)).toInt (u 180 (6 * j + i)).toInt := by rw [hc, t_min]
  have e1 : (u 180 (6 * i + j) - c).toInt = (u 180 (6 * i + j)).toInt - c.toInt := t_sub (by omega) (by omega)
  have e2 : (u 180 (6 * j + i) - c).toInt = (u 180 (6 * j + i)).toInt - c.toInt := t_sub (by omega) (by omega)
  have a1 := hR.d (eqN_upd hR.2.2.2.2.2.2.2.1 (6 * i + j) (show q_min 99999 (v (97 + 15) (6 * i + j) + -c) = u 180 (6 * i + j) - c by
    rw [hR.2.2.2.2.2.2.2.1 _ (by omega), ← Int32.sub_eq_add_neg, show (173 + 7 : Nat) = 180 from rfl, min_id]
    rw [show (99999 : Int32).toInt = 99999 from rfl]; omega))
  have b1 := hI.d (hI.2.2.2.2.1.set (a := i) (b := j) (x := u 180 (6 * i + j) - c) hi hj (by omega) hij (by omega) (by omega))
  generalize hv2 : up v (97 + 15) (upd (v (97 + 15)) (6 * i + j) (q_min 99999 (v (97 + 15) (6 * i + j) + -c))) = v2 at a1
  generalize hu2 : up u (173 + 7) (upd (u (173 + 7)) (6 * i + j) (u 180 (6 * i + j) - c)) = u2 at a1 b1
  have f7 : u2 180 (6 * j + i) = u 180 (6 * j + i) := by rw [← hu2]; show (up u 180 _) 180 _ = _; rw [up_eq, upd_ne (by omega)]
  have hC2 : FC 97 v v2 := by rw [← hv2]; exact FC.up (by omega) (by omega)
  have hM2 : FM 173 u u2 := by rw [← hu2]; exact FM.up (by omega) (by omega) (by omega)
  have e4 : v2 (97 + 15) (6 * j + i) = u2 (173 + 7) (6 * j + i) := a1.2.2.2.2.2.2.2.1 _ (by omega)
  have a2 := a1.d (eqN_upd a1.2.2.2.2.2.2.2.1 (6 * j + i) (show q_min 99999 (v2 (97 + 15) (6 * j + i) + -c) = u2 180 (6 * j + i) - c by
    rw [e4, show (173 + 7 : Nat) = 180 from rfl, f7, ← Int32.sub_eq_add_neg, min_id]
    rw [show (99999 : Int32).toInt = 99999 from rfl]; omega))
  have b2 := b1.d (b1.2.2.2.2.1.set (a := j) (b := i) (x := u2 180 (6 * j + i) - c) hj hi (by omega) (fun q => hij q.symm) (by rw [f7]; omega) (by rw [f7]; omega))
  refine ⟨up v2 (97 + 15) (upd (v2 (97 + 15)) (6 * j + i) (q_min 99999 (v2 (97 + 15) (6 * j + i) + -c))), v2, up u2 (173 + 7) (upd (u2 (173 + 7)) (6 * j + i) (u2 180 (6 * j + i) - c)), ?_, ?_, ?_, a2, b2, hC2.tr (FC.up (by omega) (by omega)), hM2.tr (FM.up (by omega) (by omega) (by omega))⟩
  · rw [← hv2]; exact grow_c (k := 97) (by omega) (by omega)
  · exact grow_c (k := 97) (by omega) (by omega)
  · have q3 : pu u 180 (6 * i + j) (u 180 (6 * i + j) - c) = u2 := hu2
    rw [q3]
    rfl
theorem s_offset (h : Inv z v sp) (a b : Int32) : Same z v sp (f_Quay_offset v a b) (fun v => f_Model_offset v sp a b) [(2, 1), (1, 2)] := by
  obtain ⟨S, G, M, L, O, cs, ct, h⟩ := h
  obtain ⟨m1, m2, m3, m4, m5⟩ := h.mid (v1 := v) (fun _ _ => rfl)
  have hB := m1.1
  unfold Same
  unfold f_Quay_offset f_Model_offset
  simp only [bd, isM_c m1, ob, qb]
  rcases (Classical.em (¬ a < 0 ∧ ¬ nI M ≤ a)).symm with h1 | h1
  · refine Or.inr ⟨2, 1, 0, _, List.mem_cons_self, if_pos (decide_eq_false h1), ?_, th0, h.no⟩
    rw [areM_m m1, ob]
    rw [if_pos (decide_eq_false fun q => h1 q.1)]
    rfl
  rw [if_neg (by rw [decide_eq_true h1]; decide)]
  rcases (Classical.em (¬ b < 0 ∧ ¬ nI M ≤ b)).symm with h2 | h2
  · refine Or.inr ⟨2, 1, 0, _, List.mem_cons_self, if_pos (decide_eq_false h2), ?_, th0, h.no⟩
    rw [areM_m m1, ob]
    rw [if_pos (decide_eq_false fun q => h2 q.2)]
    rfl
  rw [if_neg (by rw [decide_eq_true h2]; decide)]
  obtain ⟨i, hi, rfl⟩ := i_nat (by omega) h1.1 h1.2
  obtain ⟨j, hj, rfl⟩ := i_nat (by omega) h2.1 h2.2
  have hA : ∀ {u : Va}, PL v u sp S G M L O → f_Model_areMerchants u sp (nI i) (nI j) = some true := fun hq => by rw [areM_m hq, decide_eq_true ⟨h1, h2⟩]
  by_cases hij : i = j
  · subst hij
    rw [if_pos rfl]
    refine Or.inr ⟨1, 2, 0, _, List.mem_cons_of_mem _ List.mem_cons_self, rfl, ?_, th0, h.no⟩
    rw [hA m1, ob, if_neg (by decide), if_pos rfl]
    rfl
  have hne : ¬ nI i = nI j := by rw [eq_n (by omega) (by omega)]; exact hij
  rw [if_neg hne, show (110 : Nat) = 97 + 13 from rfl, m3.bet (by omega) (by omega), ob, m3.bet (by omega) (by omega), ob]
  obtain ⟨w, w2, -, c1, c2, -, -, -, c8, -⟩ := off_two m1 m3 m4 hi hj hij rfl
  have hC : Fc v w := c8.f (Or.inl rfl)
  obtain ⟨n1, n2, n3, n4, n5⟩ := h.mid hC
  have e9 : ∀ p, 149 < p → (pu w 149 0 0) p = (pu v 149 0 0) p := fun p hp => by unfold pu; rw [up_ne (by omega), up_ne (by omega), hC p (by omega)]
  obtain ⟨w', w2', u', d1, d2, d4, d6, d7, d8, d9⟩ := off_two n1 n3 n4 hi hj hij rfl
  rw [e9 180 (by omega), c1] at d1
  obtain rfl := Option.some.inj d1
  rw [e9 180 (by omega), c2] at d2
  obtain rfl := Option.some.inj d2
  have c1' : f_Debts_grow v (97 + 13) (nI i) (nI j) (-q_min ((pu v 149 0 0) (173 + 7) (6 * i + j)) ((pu v 149 0 0) (173 + 7) (6 * j + i))) = some w2 := c1
  have c2' : f_Debts_grow w2 (97 + 13) (nI j) (nI i) (-q_min ((pu v 149 0 0) (173 + 7) (6 * i + j)) ((pu v 149 0 0) (173 + 7) (6 * j + i))) = some w := c2
  rw [c1', ob, c2', ob]
  refine Or.inl ⟨_, w, u', rfl, ?_, h.fin hC (Fm_th.tr (d9.f (Or.inl rfl))) (FM_fin d9) d6 d7⟩
  rw [hA n1, ob, if_neg (by decide), if_neg hne, owes_m (by omega) (by omega), ob, owes_m (by omega) (by omega), ob]
  simp (disch := omega) only [six_r, gn, ni_c, if_false]
  show some (q_min ((pu w 149 0 0) 180 (6 * i + j)) ((pu w 149 0 0) 180 (6 * j + i)), _) = _
  rw [show (173 + 7 : Nat) = 180 from rfl, d4, e9 180 (by omega)]
theorem dry_two (hR : RS v u 97 173 L) (hI : IS u 173 L G M) (hL : L ≤ 10) {i : Nat} (hi : i < L) :
    ∃ x v1 v2 u1, v2 = up v 99 (upd (v 99) i (v 99 i - v 99 i / 10)) ∧ f_Stand_takeChop v2 97 (nI i) = some v1 ∧ v1 99 i = x ∧ u1 = pu (pu u 174 i (u 174 i - u 174 i / 10)) 176 i (-1) ∧ u1 174 i = x ∧
      RS v1 u1 97 173 L ∧ IS u1 173 L G M ∧ FC 97 v v1 ∧ FM 173 u u1 := by
  have hw : v 99 i = u 174 i := hR.2.1 i (by omega)
  have hW : 0 ≤ (u 174 i).toInt ∧ (u 174 i).toInt ≤ 9000 := hI.1.1 i hi
  have e1 : (u 174 i / 10).toInt = (u 174 i).toInt / 10 := t_div rfl (by omega) hW.1
  have e2 : (u 174 i - u 174 i / 10).toInt = (u 174 i).toInt - (u 174 i).toInt / 10 := by rw [t_sub, e1] <;> rw [e1] <;> omega
  have a1 := hR.w (eqN_upd hR.2.1 i (show v 99 i - v 99 i / 10 = u 174 i - u 174 i / 10 by rw [hw]))
  have b1 := hI.w (hI.1.set (i := i) (x := u 174 i - u 174 i / 10) hi (by rw [e2]; omega))
  have a2 := a1.bare (i := i)
  have b2 := b1.bare (b1.2.2.1.bare (i := i))
  refine ⟨u 174 i - u 174 i / 10, _, _, _, rfl, takeChop_c (by omega) (by omega), ?_, rfl, ?_, a2, b2, ?_, ?_⟩
  · simp (disch := omega) only [up_ne, up_eq, upd_eq, hw]
  · unfold pu
    simp (disch := omega) only [up_ne, up_eq, upd_eq]
  · exact (((FC.up (by omega) (by omega)).tr (FC.up (by omega) (by omega))).tr (FC.up (by omega) (by omega))).tr (FC.up (by omega) (by omega))
  · exact (FM.pu (by omega) (by omega) (by omega)).tr (FM.pu (by omega) (by omega) (by omega))
theorem s_dry (h : Inv z v sp) (a : Int32) : Same z v sp (f_Quay_dry v a) (fun v => f_Model_dry v sp a) [(2, 1)] := by
  obtain ⟨S, G, M, L, O, cs, ct, h⟩ := h
  obtain ⟨m1, m2, m3, m4, m5⟩ := h.mid (v1 := v) (fun _ _ => rfl)
  have hB := m1.1
  unfold Same
  unfold f_Quay_dry f_Model_dry
  simp only [bd, isL_c m1, ob, qb]
  rcases (Classical.em (¬ a < 0 ∧ ¬ nI L ≤ a)).symm with h1 | h1
  · refine Or.inr ⟨2, 1, 0, _, List.mem_cons_self, if_pos (decide_eq_false h1), ?_, th0, h.no⟩
    rw [isL_m m1, ob]
    rw [if_pos (decide_eq_false h1)]
    rfl
  obtain ⟨i, hi, rfl⟩ := i_nat (by omega) h1.1 h1.2
  rw [if_neg (by rw [decide_eq_true h1]; decide)]
  simp (disch := omega) only [rg, rs]
  obtain ⟨x, w, w2, -, c1, c2, c3, -, -, -, -, c8, -⟩ := dry_two m3 m4 (by omega) hi
  have hC : Fc v w := c8.f (Or.inl rfl)
  obtain ⟨n1, n2, n3, n4, n5⟩ := h.mid hC
  obtain ⟨x', w', w2', u', d1, d2, d3, d4, d5, d6, d7, d8, d9⟩ := dry_two n3 n4 (by omega) hi
  rw [← c1] at d1
  subst d1
  rw [c2] at d2
  obtain rfl := Option.some.inj d2
  rw [c3] at d3
  subst d3
  rw [← c1, c2, ob, c3]
  refine Or.inl ⟨x, w, u', rfl, ?_, h.fin hC (Fm_th.tr (d9.f (Or.inl rfl))) (FM_fin d9) d6 d7⟩
  rw [isL_m n1, ob]
  rw [if_neg (by rw [decide_eq_true h1]; decide)]
  simp (disch := omega) only [gn, ni_c, if_false]
  rw [← d4, d5]
theorem s_pass (hz : 4000 < z) (h : Inv z v sp) (a : Int32) : Same z v sp (f_Quay_pass z v a) (fun v => f_Model_pass z v sp a) [(1, 1)] := by
  obtain ⟨S, G, M, L, O, cs, ct, h⟩ := h
  obtain ⟨m1, m2, m3, m4, m5⟩ := h.mid (v1 := v) (fun _ _ => rfl)
  unfold Same
  unfold f_Quay_pass f_Model_pass
  simp only [bd, isIn_e, ob, qb]
  by_cases h1 : ¬ a < 1 ∧ ¬ 120 < a
  · obtain ⟨d, hd0, hd, rfl⟩ := in_rng (a := a) (lo := 1) (hi := 120) (by omega) (by omega) h1.1 h1.2
    rw [if_neg h1.1, if_pos (Int32.not_lt.mp h1.2)]
    obtain ⟨⟨x, w⟩, -, c1, -, -, -, -, c8, -⟩ := days_two m1 m2 m3 m4 (Or.inl rfl) (Or.inl rfl) h.1 hz (d := d) (by omega)
    have hC : Fc v w := c8.f (Or.inl rfl)
    obtain ⟨n1, n2, n3, n4, n5⟩ := h.mid hC
    obtain ⟨⟨x', w'⟩, ⟨y, u'⟩, d1, d2, d3, d6, d7, d8, d9⟩ := days_two n1 n2 n3 n4 (Or.inl rfl) (Or.inl rfl) h.1 hz (d := d) (by omega)
    simp only at d3 d6 d7 d8 d9
    rw [c1] at d1
    obtain ⟨rfl, rfl⟩ := Prod.mk.inj (Option.some.inj d1)
    subst d3
    rw [c1, ob]
    refine Or.inl ⟨x, w, u', rfl, ?_, h.fin hC (Fm_th.tr (d9.f (Or.inl rfl))) (FM_fin d9) d6 d7⟩
    rw [if_neg (by rw [decide_eq_true h1]; decide), d2, ob]
  · refine Or.inr ⟨1, 1, 0, _, List.mem_cons_self, ?_, ?_, th0, h.no⟩
    · by_cases h3 : a < 1
      · rw [if_pos h3]
      · rw [if_neg h3, if_neg (fun q => h1 ⟨h3, Int32.not_lt.mpr q⟩)]
    · rw [if_pos (decide_eq_false h1)]
      rfl
end
