/-! WHAT WOULD BE: a copy of the state, days on it -/
theorem row_c_eq {N : Nat} {f g : Nat → Int32} : eqN N (row_c N f N g) g := fun i hi => by
  unfold row_c
  rw [if_pos hi, if_pos hi]
theorem cpy_e2 {N : Nat} {f g : Nat → Int32} : eqN N (va_cpy f g 0 0 N) f := fun i hi => by
  unfold va_cpy
  rw [if_pos ⟨Nat.zero_le _, by omega⟩, Nat.zero_add, Nat.sub_zero]
theorem copy_m {u : Va} {k ka kb N : Nat} (hN : N ≤ 4000) (hne : ka ≠ kb) : f_State_copy u k ka N kb N = some (up u kb (va_cpy (u ka) (u kb) 0 0 N)) := by
  unfold f_State_copy
  rw [if_neg]
  · unfold q_cpy
    rw [bd, ni_c hN]
    rfl
  · rw [ni_c hN, n_lt0 hN]
    intro q
    rcases q with q | q | q | q | q | q
    · exact absurd q (by decide)
    · exact absurd q (by decide)
    · exact q
    · rw [show (0 : Int32).toNatClampNeg = 0 from rfl] at q; omega
    · rw [show (0 : Int32).toNatClampNeg = 0 from rfl] at q; omega
    · exact hne q
theorem IW_eq {f g : Nat → Int32} {L : Nat} (h : IW g L) (e : eqN 10 f g) (hL : L ≤ 10) : IW f L := ⟨fun i hi => by rw [e i (by omega)]; exact h.1 i hi, fun i h1 h2 => by rw [e i h1]; exact h.2 i h1 h2⟩
theorem IQ_eq {f g : Nat → Int32} {L M : Nat} (h : IQ g L M) (e : eqN 10 f g) (hL : L ≤ 10) : IQ f L M := fun i hi => by rw [e i (by omega)]; exact h i hi
theorem IG_eq {f g f' g' : Nat → Int32} {L G : Nat} (h : IG g g' L G) (e : eqN 10 f g) (e' : eqN 10 f' g') (hL : L ≤ 10) : IG f f' L G := fun i hi => by rw [e i (by omega), e' i (by omega)]; exact h i hi
theorem IC_eq {f g : Nat → Int32} (h : IC g) (e : eqN 6 f g) : IC f := ⟨fun i hi => by rw [e i hi]; exact h.1 i hi, by rw [isum_eq 6 e]; exact h.2⟩
theorem ID_eq {f g : Nat → Int32} {M : Nat} (h : ID g M) (e : eqN 36 f g) : ID f M := fun a b ha hb => by rw [e _ (by omega)]; exact h a b ha hb
section
variable {v u v1 v2 u1 : Va} {sp S G M L O z : Nat} {cs ct : Nat → List Ste}
theorem copy_c : ∃ v1, f_Stand_copyFrom v 123 97 = some v1 ∧ FC 123 v v1 ∧ v1 123 1 = v 97 1 ∧ v1 123 2 = v 97 2 ∧ v1 123 3 = v 97 3 ∧ v1 123 4 = v 97 4 ∧ v1 123 5 = v 97 5 ∧ eqN 10 (v1 125) (v 99) ∧ eqN 10 (v1 127) (v 101) ∧ eqN 10 (v1 129) (v 103) ∧ eqN 10 (v1 131) (v 105) ∧ eqN 10 (v1 133) (v 107) ∧ eqN 6 (v1 135) (v 109) ∧ eqN 36 (v1 138) (v 112) ∧ eqN 4 (v1 142) (v 116) ∧ eqN 24 (v1 144) (v 118) := by
  unfold f_Stand_copyFrom f_Debts_copyFrom
  simp only [bd, ob, Nat.reduceAdd]
  refine ⟨_, rfl, fun p hp => ?_, ?_, ?_, ?_, ?_, ?_, ?_, ?_, ?_, ?_, ?_, ?_, ?_, ?_, ?_⟩
  · unfold pu
    simp (disch := omega) only [up_ne]
  all_goals unfold pu
  all_goals simp (disch := omega) only [up_ne, up_eq, upd_ne, upd_eq]
  all_goals exact row_c_eq
theorem become_m : ∃ u1, f_State_become u 183 173 = some u1 ∧ FM 183 u u1 ∧ u1 183 0 = u 173 0 ∧ u1 183 1 = u 173 1 ∧ u1 183 2 = u 173 2 ∧ u1 183 3 = u 173 3 ∧ u1 183 4 = u 173 4 ∧ eqN 10 (u1 184) (u 174) ∧ eqN 10 (u1 185) (u 175) ∧ eqN 10 (u1 186) (u 176) ∧ eqN 10 (u1 187) (u 177) ∧ eqN 10 (u1 188) (u 178) ∧ eqN 6 (u1 189) (u 179) ∧ eqN 36 (u1 190) (u 180) ∧ eqN 4 (u1 191) (u 181) ∧ eqN 24 (u1 192) (u 182) := by
  unfold f_State_become
  simp (disch := omega) only [bd, ob, Nat.reduceAdd, copy_m]
  refine ⟨_, rfl, ⟨fun p h1 hp => ?_, fun j _ _ => ?_⟩, ?_, ?_, ?_, ?_, ?_, ?_, ?_, ?_, ?_, ?_, ?_, ?_, ?_, ?_⟩
  · unfold pu
    simp (disch := omega) only [up_ne]
  · unfold pu
    simp (disch := omega) only [up_ne]
  all_goals unfold pu
  all_goals simp (disch := omega) only [up_ne, up_eq, upd_ne, upd_eq]
  all_goals exact cpy_e2
theorem ahead_two (hP : PL v u sp S G M L O) (hR : RS v u 97 173 L) (hI : IS u 173 L G M) :
    ∃ v1 u1, f_Stand_copyFrom v 123 97 = some v1 ∧ f_State_become u 183 173 = some u1 ∧ RS v1 u1 123 183 L ∧ IS u1 183 L G M ∧ FC 123 v v1 ∧ FM 183 u u1 := by
  have hB := hP.1
  obtain ⟨v1, c0, cF, c1, c2, c3, c4, c5, cw, co, cg, cc, cd, ck, ce, cn, cm⟩ := copy_c (v := v)
  obtain ⟨u1, d0, dF, d1, d2, d3, d4, d5, dw, dq, dg, dc, dd, dk, de, dn, dm⟩ := become_m (u := u)
  obtain ⟨⟨r1, r2, r3, r4, r5⟩, rw', ro, rgg, rc, rd, rk, re, rn, rm⟩ := hR
  refine ⟨v1, u1, c0, d0, ⟨⟨?_, ?_, ?_, ?_, ?_⟩, fun i hi => ?_, fun i hi => ?_, fun i hi => ?_, fun i hi => ?_, fun i hi hne => ?_, fun i hi => ?_, fun i hi => ?_, fun i hi => ?_, fun i hi => ?_⟩, ⟨IW_eq hI.1 dw (by omega), IQ_eq hI.2.1 dq (by omega), IG_eq hI.2.2.1 dg dc (by omega), IC_eq hI.2.2.2.1 dk, ID_eq hI.2.2.2.2.1 de, ?_⟩, cF, dF⟩
  · rw [c1, d1]; exact r1
  · rw [c2, d2]; exact r2
  · rw [c3, d3]; exact r3
  · rw [c4, d4]; exact r4
  · rw [c5, d5]; exact r5
  · exact ((cw i hi).trans (rw' i hi)).trans (dw i hi).symm
  · exact ((co i (by omega)).trans (ro i hi)).trans (dq i (by omega)).symm
  · exact ((cg i (by omega)).trans (rgg i hi)).trans (dg i (by omega)).symm
  · show v1 131 i = if u1 186 i = -1 then 0 else u1 187 i
    rw [dg i (by omega), dc i (by omega), cc i (by omega)]
    exact rc i hi
  · have hne' : u (173 + 3) i ≠ -1 := fun q => hne ((dg i (by omega)).trans q)
    exact ((cd i (by omega)).trans (rd i hi hne')).trans (dd i (by omega)).symm
  · exact ((ck i hi).trans (rk i hi)).trans (dk i hi).symm
  · exact ((ce i hi).trans (re i hi)).trans (de i hi).symm
  · exact ((cn i hi).trans (rn i hi)).trans (dn i hi).symm
  · exact ((cm i hi).trans (rm i hi)).trans (dm i hi).symm
  · rw [d2]; exact hI.2.2.2.2.2
/-- thinking ahead leaves what is -/
theorem InvP.mind (h : InvP z v sp S G M L O cs ct) (hC : FC 123 v v1) (hM : FM 183 (pu v1 149 0 0) v2) : v2 149 0 = 0 ∧ Inv z v2 sp := by
  have hF : Fc v v1 := hC.f (Or.inr rfl)
  have hU : ∀ p, p ≠ 149 → p < 183 → v2 p = v1 p := fun p h1 h2 => by rw [hM.1 p h1 (by omega)]; unfold pu; rw [up_ne h1]
  exact ⟨FM_fin hM, S, G, M, L, O, cs, ct, h.thought hF (Fm_th.tr (hM.f (Or.inr rfl))) (fun p a b => hU p (by omega) b) (fun p a b c => hC p (by omega))⟩
theorem foresee_two (hs : sp = 151 ∨ 194 ≤ sp) (hP : PL v u sp S G M L O) (hX : PX z v u sp L G M O cs ct) (hR : RS v u 97 173 L) (hI : IS u 173 L G M) (hz : 4000 < z) {d w : Nat} (hd : d ≤ 120) (hw : w = 0 ∨ (7 ≤ w ∧ w ≤ 12)) :
    ∃ x v1 u1, j_Quay_foresee_47 z v (nI d) (nI w) = some (.inl (x, v1)) ∧ j_Model_foresee_42 z sp (nI d) (nI w) u = some (x, u1) ∧ FC 123 v v1 ∧ FM 183 u u1 := by
  obtain ⟨v1, u1, c1, c2, c3, c4, c5, c6⟩ := ahead_two hP hR hI
  have hP1 := hP.fr c5 c6 (Or.inr rfl) (Or.inr rfl) hs
  have hX1 := hX.fr c5 c6 (Or.inr rfl) (Or.inr rfl) hs
  obtain ⟨⟨x, w1⟩, ⟨y, t1⟩, d1, d2, d3, d4, d5, d6, d7⟩ := days_two hP1 hX1 c3 c4 (Or.inr rfl) (Or.inr rfl) hs hz (d := d) (by omega)
  simp only at d3 d4 d5 d6 d7
  subst d3
  unfold j_Quay_foresee_47 j_Model_foresee_42
  rw [c1, c2, ob, ob, d1, d2, ob, ob]
  rcases hw with rfl | ⟨h7, h12⟩
  · refine ⟨x, w1, t1, ?_, ?_, c5.tr d6, c6.tr d7⟩
    · rw [if_pos (by decide)]
    · rw [if_pos (by decide)]
  · have hP2 := hP1.fr d6 d7 (Or.inr rfl) (Or.inr rfl) hs
    obtain ⟨q, e1, e2⟩ := all_two hP2 d4 d5 hz h7 h12
    have hne : ¬ nI w = 0 := by rw [show (0 : Int32) = nI 0 from rfl, eq_n (by omega) (by omega)]; omega
    refine ⟨q, w1, t1, ?_, ?_, c5.tr d6, c6.tr d7⟩
    · rw [if_neg hne, e1, ob]
    · rw [if_neg hne, e2, ob]
theorem s_foresee (hz : 4000 < z) (h : Inv z v sp) (a b : Int32) : Same z v sp (f_Quay_foresee z v a b) (fun v => f_Model_foresee z v sp a b) [(1, 1), (2, 2)] := by
  obtain ⟨S, G, M, L, O, cs, ct, h⟩ := h
  obtain ⟨m1, m2, m3, m4, m5⟩ := h.mid (v1 := v) (fun _ _ => rfl)
  unfold Same
  unfold f_Quay_foresee f_Model_foresee
  simp only [bd, isIn_e, ob, qb]
  rcases (Classical.em (¬ a < 1 ∧ ¬ 120 < a)).symm with h1 | h1
  · refine Or.inr ⟨1, 1, 0, _, List.mem_cons_self, ?_, ?_, th0, h.no⟩
    · by_cases h3 : a < 1
      · rw [if_pos h3]
      · rw [if_neg h3, if_neg (fun q => h1 ⟨h3, Int32.not_lt.mpr q⟩)]
    · rw [if_pos (decide_eq_false h1)]
      rfl
  obtain ⟨d, hd0, hd, rfl⟩ := in_rng (a := a) (lo := 1) (hi := 120) (by omega) (by omega) h1.1 h1.2
  rw [if_neg h1.1, if_pos (Int32.not_lt.mp h1.2)]
  have tl : ∀ w, b = nI w → (w = 0 ∨ (7 ≤ w ∧ w ≤ 12)) → ∃ x v1 v2, j_Quay_foresee_47 z v (nI d) b = some (.inl (x, v1)) ∧ j_Model_foresee_42 z sp (nI d) b (pu v1 149 0 0) = some (x, v2) ∧ v2 149 0 = 0 ∧ Inv z v2 sp := by
    intro w hb hw
    subst hb
    obtain ⟨x, v1, -, c1, -, c3, -⟩ := foresee_two h.1 m1 m2 m3 m4 hz hd hw
    obtain ⟨n1, n2, n3, n4, n5⟩ := h.mid (c3.f (Or.inr rfl))
    obtain ⟨x', v1', u1, d1, d2, d3, d4⟩ := foresee_two h.1 n1 n2 n3 n4 hz hd hw
    rw [c1] at d1
    obtain ⟨rfl, rfl⟩ := Prod.mk.inj (Sum.inl.inj (Option.some.inj d1))
    exact ⟨x, v1, u1, c1, d2, h.mind c3 d4⟩
  by_cases hb : b = 0
  · obtain ⟨x, v1, v2, e1, e2, e3, e4⟩ := tl 0 hb (Or.inl rfl)
    rw [if_pos hb, e1]
    refine Or.inl ⟨x, v1, v2, rfl, ?_, e3, e4⟩
    rw [if_neg (by rw [decide_eq_true h1]; decide), if_pos hb, e2]
  · rw [if_neg hb]
    by_cases h2 : ¬ b < 7 ∧ ¬ 12 < b
    · obtain ⟨w, hw0, hw, hbw⟩ := in_rng (a := b) (lo := 7) (hi := 12) (by omega) (by omega) h2.1 h2.2
      obtain ⟨x, v1, v2, e1, e2, e3, e4⟩ := tl w hbw (Or.inr ⟨hw0, hw⟩)
      rw [if_neg h2.1, if_pos (Int32.not_lt.mp h2.2), e1]
      refine Or.inl ⟨x, v1, v2, rfl, ?_, e3, e4⟩
      rw [if_neg (by rw [decide_eq_true h1]; decide), if_neg hb, if_neg (by rw [decide_eq_true h2]; decide), e2]
    · refine Or.inr ⟨2, 2, 0, _, List.mem_cons_of_mem _ List.mem_cons_self, ?_, ?_, th0, h.no⟩
      · by_cases h3 : b < 7
        · rw [if_pos h3]
        · rw [if_neg h3, if_neg (fun q => h2 ⟨h3, Int32.not_lt.mpr q⟩)]
      · rw [if_neg (by rw [decide_eq_true h1]; decide), if_neg hb, if_pos (decide_eq_false h2)]
        rfl
theorem costs_two (hs : sp = 151 ∨ 194 ≤ sp) (hP : PL v u sp S G M L O) (hR : RS v u 97 173 L) (hI : IS u 173 L G M) (hz : 4000 < z) {d w : Nat} (hd : d ≤ 90) (hw : w < 10) :
    ∃ x v1 u1, ((f_Stand_copyFrom v 123 97).bind fun q39 => rp (b_Quay_costs_52 z (nI d)) z (0, pu q39 123 2 (nI w))) = some (.inl (x, v1)) ∧ ((f_State_become u 183 173).bind fun q39 => rp (b_Model_costs_52 z sp (nI d)) z (0, pu q39 183 1 (nI w))) = some (x, u1) ∧ FC 123 v v1 ∧ FM 183 u u1 := by
  obtain ⟨v1, u1, c1, c2, c3, c4, c5, c6⟩ := ahead_two hP hR hI
  rw [c1, c2, ob, ob]
  have c5' : FC 123 v (pu v1 123 2 (nI w)) := c5.tr (FC.pu (by omega) (by omega))
  have c6' : FM 183 u (pu u1 183 1 (nI w)) := c6.tr (FM.pu (by omega) (by omega) (by omega))
  have c3' : RS (pu v1 123 2 (nI w)) (pu u1 183 1 (nI w)) 123 183 L := c3.f (j := 1) (by omega) rfl
  have c4' : IS (pu u1 183 1 (nI w)) 183 L G M := IS_damp c4 hw
  obtain ⟨r, q, h1, h2, x, w1, e1, t1, rfl, rfl, h3, h4⟩ := rp_two (f := b_Quay_costs_52 z (nI d)) (g := b_Model_costs_52 z sp (nI d)) (fun i s t => s.1 = nI i ∧ t.1 = nI i ∧ RS s.2 t.2 123 183 L ∧ IS t.2 183 L G M ∧ FC 123 v s.2 ∧ FM 183 u t.2) (fun r q => ∃ x w1 e1 t1, r = .inl (x, w1) ∧ q = (x, t1) ∧ FC 123 v w1 ∧ FM 183 u t1 ∧ e1 = (0 : Nat)) d (by
    intro K K' s t ⟨e1, e2, hR', hI', hC, hM⟩
    have hP' := hP.fr hC hM (Or.inr rfl) (Or.inr rfl) hs
    have hR0 : RS s.2 t.2 97 173 L := hR.cong (fun p a b => hC p (by omega)) (fun p a b => hM.1 p (by omega) (by omega))
    have hI0 : IS t.2 173 L G M := hI.cong (fun p a b => hM.1 p (by omega) (by omega))
    refine ⟨_, _, ?_, ?_, row_t (t.2 (173 + 1)) 10 - row_t (t.2 (183 + 1)) 10, s.2, 0, t.2, rfl, rfl, hC, hM, rfl⟩
    · unfold b_Quay_costs_52
      rw [e1, if_pos (by rw [le_n (by omega) (by omega)]; exact Nat.le_refl _), weight_c hR0, ob, weight_c hR', ob]
    · unfold b_Model_costs_52
      rw [e2, if_pos (by rw [le_n (by omega) (by omega)]; exact Nat.le_refl _), weight_m hP' hI0.1 hz, ob, weight_m hP' hI'.1 hz, ob]) (by
    intro K K' i s t hi ⟨e1, e2, hR', hI', hC, hM⟩
    have hP' := hP.fr hC hM (Or.inr rfl) (Or.inr rfl) hs
    obtain ⟨w1, t1, q1, q2, q3, q4, q5, q6⟩ := lose_two hP' hR' hI' (Or.inr rfl) (Or.inr rfl) hs hz
    refine Or.inl ⟨(nI (i + 1), w1), (nI (i + 1), t1), ?_, ?_, rfl, rfl, q3, q4, hC.tr q5, hM.tr q6⟩
    · unfold b_Quay_costs_52
      rw [e1, if_neg (by rw [le_n (by omega) (by omega)]; omega), q1, ob, ni_s]
    · unfold b_Model_costs_52
      rw [e2, if_neg (by rw [le_n (by omega) (by omega)]; omega), q2, ob, ni_s]) z z 0 (0, pu v1 123 2 (nI w)) (0, pu u1 183 1 (nI w)) ⟨rfl, rfl, c3', c4', c5', c6'⟩ (by omega) (by omega) (by omega)
  exact ⟨x, w1, t1, h1, h2, h3, h4.1⟩
theorem s_costs (hz : 4000 < z) (h : Inv z v sp) (a b : Int32) : Same z v sp (f_Quay_costs z v a b) (fun v => f_Model_costs z v sp a b) [(1, 1)] := by
  obtain ⟨S, G, M, L, O, cs, ct, h⟩ := h
  obtain ⟨m1, m2, m3, m4, m5⟩ := h.mid (v1 := v) (fun _ _ => rfl)
  unfold Same
  unfold f_Quay_costs f_Model_costs j_Model_costs_25
  simp only [bd, isIn_e, ob, qb]
  rcases (Classical.em (¬ a < 1 ∧ ¬ 90 < a)).symm with h1 | h1
  · refine Or.inr ⟨1, 1, 0, _, List.mem_cons_self, ?_, ?_, th0, h.no⟩
    · by_cases h3 : a < 1
      · rw [if_pos h3]
      · rw [if_neg h3, if_pos (Classical.byContradiction fun q => h1 ⟨h3, q⟩)]
    · rw [if_pos (decide_eq_false h1)]
      rfl
  obtain ⟨d, hd0, hd, rfl⟩ := in_rng (a := a) (lo := 1) (hi := 90) (by omega) (by omega) h1.1 h1.2
  rw [if_neg h1.1, if_neg h1.2]
  rcases (Classical.em (¬ b < 0 ∧ ¬ 9 < b)).symm with h2 | h2
  · refine Or.inr ⟨1, 1, 0, _, List.mem_cons_self, ?_, ?_, th0, h.no⟩
    · by_cases h3 : b < 0
      · rw [if_pos h3]
      · rw [if_neg h3, if_neg (fun q => h2 ⟨h3, Int32.not_lt.mpr q⟩)]
    · rw [if_neg (by rw [decide_eq_true h1]; decide), if_pos (decide_eq_false h2)]
      rfl
  obtain ⟨w, -, hw, rfl⟩ := in_rng (a := b) (lo := 0) (hi := 9) (by omega) (by omega) h2.1 h2.2
  rw [if_neg h2.1, if_pos (Int32.not_lt.mp h2.2)]
  obtain ⟨x, v1, -, c1, -, c3, -⟩ := costs_two h.1 m1 m3 m4 hz (d := d) (w := w) hd (by omega)
  obtain ⟨n1, n2, n3, n4, n5⟩ := h.mid (c3.f (Or.inr rfl))
  obtain ⟨x', v1', u1, d1, d2, d3, d4⟩ := costs_two h.1 n1 n3 n4 hz (d := d) (w := w) hd (by omega)
  rw [c1] at d1
  obtain ⟨rfl, rfl⟩ := Prod.mk.inj (Sum.inl.inj (Option.some.inj d1))
  obtain ⟨f1, f2⟩ := h.mind c3 d4
  refine Or.inl ⟨x, v1, u1, c1, ?_, f1, f2⟩
  rw [if_neg (by rw [decide_eq_true h1]; decide), if_neg (by rw [decide_eq_true h2]; decide)]
  exact d2
end
