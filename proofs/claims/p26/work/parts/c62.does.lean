/-! WHAT AN ORDER DOES, in Sim and in the model -/
section
variable {x x1 u u1 : Va} {ks S G M L O o z i j a b : Nat} {pA : Nat → Nat} {pB : Nat → Nat → Nat}
theorem sgU_cong {v w : Va} {sp : Nat} (h : ∀ p, sp + 1 ≤ p → p ≤ sp + 3 → w p = v p) : ∀ n a, sgU w sp a n = sgU v sp a n
  | 0, _ => rfl
  | n + 1, a => by
    show (w (sp + 1) a, w (sp + 2) a, w (sp + 3) a) :: sgU w sp (a + 1) n = (v (sp + 1) a, v (sp + 2) a, v (sp + 3) a) :: sgU v sp (a + 1) n
    rw [h (sp + 1) (by omega) (by omega), h (sp + 2) (by omega) (by omega), h (sp + 3) (by omega) (by omega), sgU_cong h n]
theorem smU_cong {v w : Va} (h : ∀ p, 151 ≤ p → p < 173 → w p = v p) : smU w 151 o = smU v 151 o := by
  unfold smU
  rw [h (151 + 4) (by omega) (by omega), h (151 + 5) (by omega) (by omega), sgU_cong (fun p h1 h2 => h p (by omega) (by omega))]
theorem tsU_cong {v w : Va} (h : ∀ p, 151 ≤ p → p < 173 → w p = v p) : tsU w 151 o = tsU v 151 o := by
  unfold tsU
  rw [h (151 + 7) (by omega) (by omega), h (151 + 5) (by omega) (by omega), sgU_cong (fun p h1 h2 => h p (by omega) (by omega))]
theorem rO_cong {v w : Va} (h : ∀ p, 200 ≤ p → w p = v p) : rO w o = rO v o := funext fun f => by unfold rO; rw [h _ (by omega)]
/-- the sheet's steps are those of the orders' own words -/
def TX (u : Va) (O : Nat) : Prop := ∀ o, o < O → u 171 o = nI o ∧ (u 168 o ≠ 0 → smU u 151 o = stS (rO u o)) ∧ ((u 205 o = -1 ∧ u 172 o = -1) ∨ (u 205 o ≠ -1 ∧ u 172 o = nI o ∧ tsU u 151 o = stT (rO u o)))
theorem TX.cong (h : TX u O) (hu : ∀ p, (151 ≤ p ∧ p < 173) ∨ 200 ≤ p → u1 p = u p) : TX u1 O := fun o ho => by
  rw [hu 171 (by omega), hu 168 (by omega), hu 205 (by omega), hu 172 (by omega), smU_cong (fun p a b => hu p (by omega)), tsU_cong (fun p a b => hu p (by omega)), rO_cong (fun p a => hu p (by omega))]
  exact h o ho
theorem OB.cong (h : OB u M L o) (hu : ∀ p, 200 ≤ p → u1 p = u p) : OB u1 M L o := by
  unfold OB at h ⊢
  rw [hu 207 (by omega), hu 208 (by omega), hu 209 (by omega), hu 210 (by omega), hu 203 (by omega), hu 205 (by omega)]
  exact h
theorem m_w {y : Int32} : (pu (pu u 149 11 (nI 173)) 149 10 y) 149 10 = y := by unfold pu; rw [up_eq, upd_eq]
theorem m_fw {y : Int32} : FW u (pu (pu u 149 11 (nI 173)) 149 10 y) := ⟨fun p hp => by unfold pu; rw [up_ne hp, up_ne hp], fun j h1 h2 => by unfold pu; rw [up_eq, upd_ne h1, up_eq, upd_ne h2]⟩
theorem m_holds (hT : TX u O) (ho : o < O) (hO : O ≤ 24) : ∃ t u1, f_Model_holds z u 151 173 (nI o) = some (t, u1) ∧ FW u u1 ∧ (u 205 o = -1 → t = true) ∧ (u 205 o ≠ -1 → t = decide (worth u 173 (stT (rO u o)) ≠ 0)) := by
  obtain ⟨-, -, h⟩ := hT o ho
  have e1 : (pu u 149 11 (nI 173)) 172 = u 172 := by unfold pu; rw [up_ne (by omega)]
  have m0 : f_Model_holds z u 151 173 (nI o) = if u 172 o = -1 then some (true, pu (pu u 149 11 (nI 173)) 149 10 (u 172 o)) else if q_b (decide (worth (pu (pu u 149 11 (nI 173)) 149 10 (u 172 o)) 173 (tsU (pu (pu u 149 11 (nI 173)) 149 10 (u 172 o)) 151 (u 172 o).toNatClampNeg) ≠ 0)) = 0 then some (false, pu (pu u 149 11 (nI 173)) 149 10 (u 172 o)) else some (true, pu (pu u 149 11 (nI 173)) 149 10 (u 172 o)) := by
    unfold f_Model_holds g_Ev
    simp (disch := omega) only [bd, gn, ni_c, if_false, e1, m_w, ob]
  have hF := m_fw (u := u) (y := u 172 o)
  have e2 : worth (pu (pu u 149 11 (nI 173)) 149 10 (u 172 o)) 173 (tsU (pu (pu u 149 11 (nI 173)) 149 10 (u 172 o)) 151 (u 172 o).toNatClampNeg) = worth u 173 (tsU u 151 (u 172 o).toNatClampNeg) := by
    rw [tsU_cong (fun p a b => hF.1 p (by omega)), worth_eq (fun p a b => hF.1 p (by omega))]
  rw [m0, e2]
  rcases h with ⟨h1, h2⟩ | ⟨h1, h2, h3⟩
  · rw [if_pos h2]
    exact ⟨true, _, rfl, hF, fun _ => rfl, fun q => absurd h1 q⟩
  · rw [if_neg (by rw [h2]; intro q; rw [eq_m1 (by omega)] at q; exact q), h2, ni_c (by omega), h3]
    by_cases hw : worth u 173 (stT (rO u o)) = 0
    · rw [if_pos (by rw [decide_eq_false (fun q => q hw)]; rfl)]
      exact ⟨false, _, rfl, h2 ▸ hF, fun q => absurd q h1, fun _ => (decide_eq_false (fun q => q hw)).symm⟩
    · rw [if_neg (by rw [decide_eq_true hw]; decide)]
      exact ⟨true, _, rfl, h2 ▸ hF, fun _ => rfl, fun _ => (decide_eq_true hw).symm⟩
theorem m_sumOf (hT : TX u O) (ho : o < O) (hO : O ≤ 24) (hs : u 168 o ≠ 0) : ∃ u1, f_Model_sumOf z u 151 173 (nI o) = some (worth u 173 (stS (rO u o)), u1) ∧ FW u u1 := by
  obtain ⟨h1, h2, -⟩ := hT o ho
  have e1 : (pu u 149 11 (nI 173)) 171 = u 171 := by unfold pu; rw [up_ne (by omega)]
  have hF := m_fw (u := u) (y := u 171 o)
  refine ⟨pu (pu u 149 11 (nI 173)) 149 10 (u 171 o), ?_, hF⟩
  have e2 : worth (pu (pu u 149 11 (nI 173)) 149 10 (u 171 o)) 173 (smU (pu (pu u 149 11 (nI 173)) 149 10 (u 171 o)) 151 (u 171 o).toNatClampNeg) = worth u 173 (smU u 151 (u 171 o).toNatClampNeg) := by
    rw [smU_cong (fun p a b => hF.1 p (by omega)), worth_eq (fun p a b => hF.1 p (by omega))]
  unfold f_Model_sumOf g_Ev
  simp (disch := omega) only [bd, gn, ni_c, if_false, e1, m_w, ob, e2]
  rw [h1, ni_c (by omega), h2 hs]
theorem q_min_if {y w : Int32} {f : Int32 → Option Int32} : (if w ≤ y then f w else f y) = f (q_min y w) := by
  by_cases h : w ≤ y
  · rw [if_pos h]
    congr 1
    apply t_inj
    rw [t_min]
    have := t_le.mp h
    omega
  · rw [if_neg h]
    congr 1
    apply t_inj
    rw [t_min]
    have := t_lt.mp (Int32.not_le.mp h)
    omega
theorem clamp_if {y : Int32} {f : Int32 → Option Int32} : (if 0 ≤ y then (if y ≤ 999 then f y else f 999) else f 0) = f (q_max 0 (q_min 999 y)) := by
  have e0 : (q_max 0 (q_min 999 y)).toInt = max 0 (min 999 y.toInt) := by rw [t_max, t_min]; rfl
  have z0 : (0 : Int32).toInt = 0 := rfl
  have z9 : (999 : Int32).toInt = 999 := rfl
  by_cases h : 0 ≤ y
  · have h1 := t_le.mp h
    rw [if_pos h]
    by_cases h2 : y ≤ 999
    · have h3 := t_le.mp h2
      rw [if_pos h2]; congr 1; apply t_inj; rw [e0]; omega
    · have h3 := t_lt.mp (Int32.not_le.mp h2)
      rw [if_neg h2]; congr 1; apply t_inj; rw [e0]; omega
  · have h1 := t_lt.mp (Int32.not_le.mp h)
    rw [if_neg h]; congr 1; apply t_inj; rw [e0]; omega
theorem max0_if {y : Int32} {f : Int32 → Option Int32} : (if 0 ≤ y then f y else f 0) = f (q_max 0 y) := by
  have z0 : (0 : Int32).toInt = 0 := rfl
  by_cases h : 0 ≤ y
  · have h1 := t_le.mp h
    rw [if_pos h]; congr 1; apply t_inj; rw [t_max]; omega
  · have h1 := t_lt.mp (Int32.not_le.mp h)
    rw [if_neg h]; congr 1; apply t_inj; rw [t_max]; omega
/-- what an order that can be carried out does: d -/
def AM (u : Va) (S G M L O o : Nat) (d : Int32) : Prop := ∃ i j, u 169 o = nI i ∧ u 170 o = nI j ∧
  ((u 168 o = 0 ∧ i < L ∧ j < G ∧ d = u 159 j ∧ ∃ m, m < M ∧ u 175 i = nI m ∧ u 159 j ≤ u 179 m) ∨
   (u 168 o = 1 ∧ i < L ∧ j < M ∧ u 176 i ≠ -1 ∧ u 175 i ≠ nI j ∧ d = q_max 0 (q_min 999 (worth u 173 (stS (rO u o)))) * u 177 i / 100 ∧ row_t (fun b => u 180 (6 * j + b)) 6 + q_max 0 (d - u 179 j) ≤ u 163 j) ∨
   (u 168 o = 2 ∧ i < M ∧ j < M ∧ i ≠ j ∧ d = q_min (worth u 173 (stS (rO u o))) (q_min (u 180 (6 * i + j)) (u 179 i)) ∧ 1 ≤ d))
theorem AM.cong {d : Int32} (h : AM u1 S G M L O o d) (hu : ∀ p, p ≠ 149 → u1 p = u p) : AM u S G M L O o d := by
  unfold AM at h ⊢
  have e : worth u1 173 (stS (rO u1 o)) = worth u 173 (stS (rO u o)) := by rw [rO_cong (fun p a => hu p (by omega)), worth_eq (fun p a b => hu p (by omega))]
  rw [e] at h
  simp (disch := omega) only [hu] at h
  exact h
/-- the sheet's places, and the orders' -/
def PMo (u : Va) (S G M L O : Nat) : Prop := (S ≤ 4 ∧ G ≤ 4 ∧ M ≤ 6 ∧ L ≤ 10 ∧ O ≤ 24) ∧ (u 151 4 = nI S ∧ u 151 7 = nI G ∧ u 151 11 = nI M ∧ u 151 15 = nI L ∧ u 151 20 = nI O) ∧
  (∀ i, i < S → ∃ y, y < 10 ∧ u 157 i = nI y) ∧ (∀ i, i < G → (∃ y, y < 100 ∧ u 159 i = nI y) ∧ ∃ y, y < 21 ∧ u 160 i = nI y) ∧ (∀ i, i < M → 0 ≤ (u 163 i).toInt ∧ (u 163 i).toInt ≤ 9999) ∧
  (∀ i, i < L → ∃ y, y < S ∧ u 165 i = nI y) ∧ (∀ o, o < O → PO (u 168 o) (u 169 o) (u 170 o) G M L) ∧ TX u O ∧ ∀ o, o < O → OB u M L o
theorem PMo.cong (h : PMo u S G M L O) (hu : ∀ p, (151 ≤ p ∧ p < 173) ∨ 200 ≤ p → u1 p = u p) : PMo u1 S G M L O := by
  obtain ⟨h1, h2, h3, h4, h5, h6, h7, h8, h9⟩ := h
  refine ⟨h1, ?_, ?_, ?_, ?_, ?_, ?_, h8.cong hu, fun o ho => (h9 o ho).cong fun p hp => hu p (Or.inr hp)⟩
  · rw [hu 151 (by omega)]; exact h2
  · rw [hu 157 (by omega)]; exact h3
  · rw [hu 159 (by omega), hu 160 (by omega)]; exact h4
  · rw [hu 163 (by omega)]; exact h5
  · rw [hu 165 (by omega)]; exact h6
  · rw [hu 168 (by omega), hu 169 (by omega), hu 170 (by omega)]; exact h7
theorem PMo.fm (h : PMo u S G M L O) (hM : FM 173 u u1) : PMo u1 S G M L O := h.cong fun p hp => hM.1 p (by omega) (by omega)
theorem PMo.fw (h : PMo u S G M L O) (hM : FW u u1) : PMo u1 S G M L O := h.cong fun p hp => hM.1 p (by omega)
theorem m_fresh (hL : L ≤ 10) (hi : i < L) : f_State_isFresh u 173 (nI i) = some (decide (u 176 i ≠ -1 ∧ u 173 0 - u 178 i ≤ 5)) := by
  unfold f_State_isFresh
  simp (disch := omega) only [gn, ni_c, if_false]
  by_cases h : u 176 i = -1
  · rw [if_pos h, decide_eq_false (fun q => q.1 h)]
  · rw [if_neg h]
    by_cases h2 : 5 < u 173 0 - u 178 i
    · rw [if_pos h2, decide_eq_false (fun q => Int32.not_le.mpr h2 q.2)]
    · rw [if_neg h2, decide_eq_true ⟨h, Int32.not_lt.mp h2⟩]
theorem does_two (hS : SR x u ks pA pB S G M L O) (hP : PMo u S G M L O) (hI : IS u 173 L G M) (hz : 4000 < z) (ho : o < O) :
    ∃ (b : Bool) (d : Int32) (u1 : Va), f_Sim_does z x ks pA pB (pn_ S G M L O) (pB 5 o) 12 = some d ∧ f_Model_can z u 151 173 (nI o) = some (b, u1) ∧ FW u u1 ∧ (b = false → d = -1) ∧ (b = true → 0 ≤ d ∧ AM u S G M L O o d) := by
  obtain ⟨⟨hS4, hG4, hM6, hL10, hO24⟩, -, hp3, hp4, hp5, hp6, hPO, hT, hO⟩ := id hP
  obtain ⟨t, st1, st2, st3⟩ := sim_holds hS hM6 hL10 hG4 hI hz ho (hO o ho)
  obtain ⟨t', w, mt1, hF, mt2, mt3⟩ := m_holds (z := z) hT ho hO24
  have et : t' = t := by
    by_cases h : u 205 o = -1
    · rw [st2 h, mt2 h]
    · rw [mt3 h, st3 h]; cases t <;> decide
  subst et
  rw [can_eq, mt1, ob]
  unfold f_Sim_does
  rw [st1, ob]
  simp only [qb]
  by_cases ht : t' = false
  · rw [if_pos ht, if_pos ht]
    exact ⟨false, -1, w, rfl, rfl, hF, fun _ => rfl, fun q => (by cases q)⟩
  rw [if_neg ht, if_neg ht]
  have hU : ∀ p, p ≠ 149 → w p = u p := hF.1
  obtain ⟨i, j, ei, ej, hij⟩ := (hPO o ho).nat
  have hTw : TX w O := hT.cong fun p hp => hU p (by omega)
  have ew : worth w 173 (stS (rO w o)) = worth u 173 (stS (rO u o)) := by rw [rO_cong (fun p a => hU p (by omega)), worth_eq (fun p a b => hU p (by omega))]
  have hsum := sim_sum hS hM6 hL10 hG4 hI hz ho (hO o ho)
  have p1 : pn_ S G M L O 1 = G := rfl
  have p2 : pn_ S G M L O 2 = M := rfl
  have p3 : pn_ S G M L O 3 = M := rfl
  have p4 : pn_ S G M L O 4 = L := rfl
  unfold mrest
  simp (maxSteps := 4000000) (disch := omega) only [lc_0, ln_0, lc_1, ln_1, lc_2, ln_2, lc_3, ln_3, lc_4, ln_4, lc_5, ln_5, lc_6, ln_6, lc_7, ln_7, lc_8, ln_8, lc_9, ln_9, lc_10, ln_10, lc_11, ln_11, false_or, Nat.reduceLeDiff, if_false, hS.sort ho, hS.one ho, hS.other ho, ei, ej, gn, ni_c, hU, p1, p2, p3, p4, eq_n]
  rcases hij with ⟨es, hi, hj⟩ | ⟨es, hi, hj⟩ | ⟨es, hi, hj⟩
  · obtain ⟨m, hm, em⟩ := hI.2.1 i hi
    have em : u 175 i = nI m := em
    obtain ⟨⟨y, hy, ey⟩, -⟩ := hp4 j hj
    rw [if_pos es, if_pos es]
    simp (disch := omega) only [hS.owner hi, em, gn, ni_c, if_false, hS.fee hj, hS.coins hm]
    by_cases hc : u 159 j ≤ u 179 m
    · rw [if_pos hc, if_neg (Int32.not_lt.mpr hc)]
      exact ⟨true, _, w, rfl, rfl, hF, fun q => (by cases q), fun _ => ⟨by rw [ey, n_ge0 (by omega)]; trivial, i, j, ei, ej, Or.inl ⟨es, hi, hj, rfl, m, hm, em, hc⟩⟩⟩
    · rw [if_neg hc, if_pos (Int32.not_le.mp hc)]
      exact ⟨false, -1, w, rfl, rfl, hF, fun _ => rfl, fun q => (by cases q)⟩
  · have h10 : ¬ u 168 o = 0 := by rw [es]; decide
    have h12 : ¬ u 168 o = 2 := by rw [es]; decide
    obtain ⟨w1, hm1, hF1⟩ := m_sumOf (z := z) hTw ho hO24 (by rw [hU _ (by omega)]; exact h10)
    rw [ew] at hm1
    have hU1 : ∀ p, p ≠ 149 → w1 p = u p := fun p hp => (hF1.1 p hp).trans (hU p hp)
    rw [if_neg h10, if_neg h10, if_pos es, hsum, ob]
    try simp only []
    rw [if_neg h12]
    simp (disch := omega) only [gn, ni_c, if_false, hS.guild hi, sim_age hS hI.2.2.1 hG4 hi, ob, hS.owner hi, eq_n]
    unfold f_Model_canSell
    simp (disch := omega) only [gn, ni_c, if_false, hU, ei, ej, Nat.reduceAdd]
    rw [m_fresh hL10 hi, ob]
    simp (disch := omega) only [gn, ni_c, if_false, hU, ei, ej, qb, Nat.reduceAdd]
    have hlt : (u 176 i < 0) = (u 176 i = -1) := by
      have := hI.2.2.1.lt hG4 hi
      rw [← Int32.not_le]; exact propext ⟨fun q => Classical.byContradiction fun r => q (this ▸ r), fun q r => (this ▸ r : ¬ _) q⟩
    simp only [hlt]
    by_cases hg : u 176 i = -1
    · rw [if_pos hg, if_pos (decide_eq_false (fun q => q.1 hg))]
      exact ⟨false, -1, w, rfl, rfl, hF, fun _ => rfl, fun q => (by cases q)⟩
    rw [if_neg hg, if_neg hg]
    by_cases ha : 5 < u 173 0 - u 178 i
    · rw [if_pos ha, if_pos (decide_eq_false (fun q => Int32.not_le.mpr ha q.2))]
      exact ⟨false, -1, w, rfl, rfl, hF, fun _ => rfl, fun q => (by cases q)⟩
    have hfr : ¬ (decide (u 176 i ≠ -1 ∧ u 173 0 - u 178 i ≤ 5) = false) := by rw [decide_eq_true ⟨hg, Int32.not_lt.mp ha⟩]; decide
    rw [if_neg ha, if_neg hfr]
    by_cases how : u 175 i = nI j
    · rw [if_pos how, if_pos how]
      exact ⟨false, -1, w, rfl, rfl, hF, fun _ => rfl, fun q => (by cases q)⟩
    rw [if_neg how, if_neg how]
    unfold f_Model_priceOf
    rw [hm1]
    rw [clamp_if (f := fun y => j_Sim_does_186 z x ks pA pB (pn_ S G M L O) (pB 5 o) 12 y)]
    have hgc : 0 ≤ (u 177 i).toInt ∧ (u 177 i).toInt ≤ 9000 := by
      rcases hI.2.2.1 i hi with e | ⟨-, e⟩
      · exact absurd e hg
      · exact e
    have hpb := price_b (x := worth u 173 (stS (rO u o))) hgc.1 hgc.2
    unfold j_Sim_does_186 j_Sim_does_228
    simp (maxSteps := 4000000) (disch := omega) only [lc_0, ln_0, lc_1, ln_1, lc_2, ln_2, lc_3, ln_3, lc_4, ln_4, lc_5, ln_5, lc_6, ln_6, lc_7, ln_7, lc_8, ln_8, lc_9, ln_9, lc_10, ln_10, lc_11, ln_11, false_or, Nat.reduceLeDiff, if_false, hS.one ho, hS.other ho, ei, ej, gn, ni_c, hU1, p2, p4, hS.chop hi, hS.coins hj, hS.credit hj, sim_debts hS hM6 hI.2.2.2.2.1 hz hj, ob]
    rw [deb_m (by omega) (by omega), ob]
    simp (disch := omega) only [hU1]
    generalize hd : q_max 0 (q_min 999 (worth u 173 (stS (rO u o)))) * u 177 i / 100 = d at hpb
    rw [max0_if (y := d - u 179 j) (f := fun y => if row_t (fun b => u 180 (6 * j + b)) 6 + y ≤ u 163 j then some d else some (-1))]
    by_cases hc : row_t (fun b => u 180 (6 * j + b)) 6 + q_max 0 (d - u 179 j) ≤ u 163 j
    · rw [if_pos hc, if_neg (Int32.not_lt.mpr hc)]
      exact ⟨true, d, w1, rfl, rfl, hF.tr hF1, fun q => (by cases q), fun _ => ⟨t_le.mpr hpb.1, i, j, ei, ej, Or.inr (Or.inl ⟨es, hi, hj, hg, how, hd.symm, hc⟩)⟩⟩
    · rw [if_neg hc, if_pos (Int32.not_le.mp hc)]
      exact ⟨false, -1, w1, rfl, rfl, hF.tr hF1, fun _ => rfl, fun q => (by cases q)⟩
  · have h10 : ¬ u 168 o = 0 := by rw [es]; decide
    have h11 : ¬ u 168 o = 1 := by rw [es]; decide
    obtain ⟨w1, hm1, hF1⟩ := m_sumOf (z := z) hTw ho hO24 (by rw [hU _ (by omega)]; exact h10)
    rw [ew] at hm1
    have hU1 : ∀ p, p ≠ 149 → w1 p = u p := fun p hp => (hF1.1 p hp).trans (hU p hp)
    rw [if_neg h10, if_neg h10, if_neg h11, hsum, ob]
    try simp only []
    rw [if_pos es]
    unfold f_Model_payOf
    simp (disch := omega) only [gn, ni_c, if_false, hU, ei, ej, eq_n]
    by_cases hq : i = j
    · rw [if_pos hq, if_pos hq, ob]
      try simp only []
      rw [if_pos (show (0 : Int32) < 1 by decide)]
      exact ⟨false, -1, w, rfl, rfl, hF, fun _ => rfl, fun q => (by cases q)⟩
    rw [if_neg hq, if_neg hq, hm1, ob]
    try simp only []
    rw [owes_m (by omega) (by omega), ob]
    simp (disch := omega) only [ob, hU1, hS.owes hi hj, hS.coins hi]
    rw [min3, q_min_if (f := j_Sim_does_114)]
    generalize hd : q_min (worth u 173 (stS (rO u o))) (q_min (u 180 (6 * i + j)) (u 179 i)) = d
    unfold j_Sim_does_114
    by_cases hc : 1 ≤ d
    · rw [if_pos hc, if_neg (Int32.not_lt.mpr hc)]
      exact ⟨true, d, w1, rfl, rfl, hF.tr hF1, fun q => (by cases q), fun _ => ⟨by have := t_le.mp hc; rw [show (1 : Int32).toInt = 1 from rfl] at this; exact t_le.mpr (by rw [show (0 : Int32).toInt = 0 from rfl]; omega), i, j, ei, ej, Or.inr (Or.inr ⟨es, hi, hj, hq, hd.symm, hc⟩)⟩⟩
    · rw [if_neg hc, if_pos (Int32.not_le.mp hc)]
      exact ⟨false, -1, w1, rfl, rfl, hF.tr hF1, fun _ => rfl, fun q => (by cases q)⟩
end
