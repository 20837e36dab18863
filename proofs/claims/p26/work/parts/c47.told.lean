/-! WHAT BOTH SIDES TELL -/
/-- two loops side by side, whatever their ends are -/
theorem rp_twoE {σ ρ τ π : Type} {f : (σ → Option ρ) → σ → Option ρ} {g : (τ → Option π) → τ → Option π} (I : Nat → σ → τ → Prop) (E : Option ρ → Option π → Prop) (N : Nat)
    (stop : ∀ K L s t, I N s t → E (f K s) (g L t))
    (step : ∀ K L i s t, i < N → I i s t → (∃ s' t', f K s = K s' ∧ g L t = L t' ∧ I (i + 1) s' t') ∨ E (f K s) (g L t)) :
    ∀ (fu fv i : Nat) (s : σ) (t : τ), I i s t → i ≤ N → N - i < fu → N - i < fv → E (rp f fu s) (rp g fv t)
  | 0, _, _, _, _, _, _, h, _ => by omega
  | fu + 1, 0, _, _, _, _, _, _, h => by omega
  | fu + 1, fv + 1, i, s, t, hI, h1, h2, h3 => by
    show E (f (rp f fu) s) (g (rp g fv) t)
    by_cases hc : i = N
    · subst hc; exact stop _ _ _ _ hI
    · rcases step (rp f fu) (rp g fv) i s t (by omega) hI with ⟨s', t', e, e', hI'⟩ | h
      · rw [e, e']
        exact rp_twoE I E N stop step fu fv (i + 1) s' t' hI' (by omega) (by omega) (by omega)
      · exact h
theorem row_t_0 {f : Nat → Int32} {L : Nat} : ∀ N : Nat, L ≤ N → (∀ i, L ≤ i → i < N → f i = 0) → row_t f N = row_t f L
  | 0, h, _ => by rw [show L = 0 by omega]
  | n + 1, h, h0 => by
    by_cases hq : L = n + 1
    · rw [hq]
    · show row_t f n + f n = _
      rw [h0 n (by omega) (by omega), Int32.add_zero]
      exact row_t_0 n (by omega) (fun i h1 h2 => h0 i h1 (by omega))
section
variable {v u v1 u1 : Va} {k sn sp L G M S O z : Nat} {cs ct : Nat → List Ste}
theorem sum_row {ka N : Nat} (hN : N ≤ 4000) (hz : N < z) : f_Model_sumOf_ z u ka N = some (row_t (u ka) N) :=
  rp_go (f := b_Model_sumOf__10 u ka N) (fun i => (row_t (u ka) i, nI i)) N (fun K => by
    unfold b_Model_sumOf__10
    exact if_pos ((ni_le hN hN).mpr (Nat.le_refl _))) (fun K i hi => by
    unfold b_Model_sumOf__10
    simp (disch := omega) only [gn, ni_c, if_false, ni_s]
    rw [if_neg (by rw [le_n (by omega) (by omega)]; omega)]
    rfl) hz
theorem weight_m (hP : PL v u sp S G M L O) (hI : IW (u (sn + 1)) L) (hz : 4000 < z) : f_Model_weightOf z u sp sn = some (row_t (u (sn + 1)) 10) := by
  have hB := hP.1
  rw [row_t_0 (L := L) 10 (by omega) (fun i h1 h2 => hI.2 i h2 h1)]
  exact rp_go (f := b_Model_weightOf_4 u sp sn) (fun i => (row_t (u (sn + 1)) i, nI i)) L (fun K => by
    unfold b_Model_weightOf_4
    simp only [hP.2.2.1.2.2.2.1]
    exact if_pos (by rw [le_n (by omega) (by omega)]; exact Nat.le_refl _)) (fun K i hi => by
    unfold b_Model_weightOf_4
    simp (disch := omega) only [hP.2.2.1.2.2.2.1, gn, ni_c, if_false, ni_s]
    rw [if_neg (by rw [le_n (by omega) (by omega)]; omega)]
    rfl) (by omega)
theorem weight_c (hR : RS v u k sn L) : f_Stand_weightOfAll v k = some (row_t (u (sn + 1)) 10) := by
  unfold f_Stand_weightOfAll
  rw [bd, row_t_eq 10 hR.2.1]
/-- 7 to 12 of what count tells -/
theorem all_two (hP : PL v u sp S G M L O) (hR : RS v u k sn L) (hI : IS u sn L G M) (hz : 4000 < z) {w : Nat} (h7 : 7 ≤ w) (h12 : w ≤ 12) :
    ∃ x, f_Stand_tellAll v k (nI w) = some x ∧ f_Model_counted z u sp sn (nI w) = some x := by
  have hw := weight_c hR
  have hm := weight_m (z := z) hP hI.1 hz
  have hd : row_t (v (k + 15)) 36 = row_t (u (sn + 7)) 36 := row_t_eq 36 hR.2.2.2.2.2.2.2.1
  have hc : row_t (v (k + 12)) 6 = row_t (u (sn + 6)) 6 := row_t_eq 6 hR.2.2.2.2.2.2.1
  rcases (by omega : w = 7 ∨ w = 8 ∨ w = 9 ∨ w = 10 ∨ w = 11 ∨ w = 12) with rfl | rfl | rfl | rfl | rfl | rfl
  · refine ⟨row_t (u (sn + 1)) 10, ?_, ?_⟩
    · show (f_Stand_weightOfAll v k).bind _ = _
      rw [hw, ob]
    · show (f_Model_weightOf z u sp sn).bind _ = _
      rw [hm, ob]
  · refine ⟨row_t (u (sn + 7)) 36, ?_, ?_⟩
    · show some (row_t (v (k + 15)) 36) = _
      rw [hd]
    · show (f_Model_sumOf_ z u (sn + 7) 36).bind _ = _
      rw [sum_row (by omega) (by omega), ob]
  · refine ⟨row_t (u (sn + 6)) 6, ?_, ?_⟩
    · show some (row_t (v (k + 12)) 6) = _
      rw [hc]
    · show (f_Model_sumOf_ z u (sn + 6) 6).bind _ = _
      rw [sum_row (by omega) (by omega), ob]
  · exact ⟨u sn 2, congrArg some hR.1.2.2.1, rfl⟩
  · exact ⟨u sn 3, congrArg some hR.1.2.2.2.1, rfl⟩
  · exact ⟨u sn 4, congrArg some hR.1.2.2.2.2, rfl⟩
theorem counted_two (hP : PL v u sp S G M L O) (hR : RS v u 97 173 L) (hI : IS u 173 L G M) (hz : 4000 < z) (hb : v 0 8 = u 149 2) {w : Nat} (h13 : w ≤ 13) :
    ∃ x, f_Quay_counted v (nI w) = some x ∧ f_Model_counted z u sp 173 (nI w) = some x := by
  by_cases h : 7 ≤ w ∧ w ≤ 12
  · obtain ⟨x, h1, h2⟩ := all_two hP hR hI hz h.1 h.2
    refine ⟨x, ?_, h2⟩
    have e : f_Quay_counted v (nI w) = (f_Stand_tellAll v 97 (nI w)).bind fun q => some q := by
      rcases (by omega : w = 7 ∨ w = 8 ∨ w = 9 ∨ w = 10 ∨ w = 11 ∨ w = 12) with rfl | rfl | rfl | rfl | rfl | rfl <;> rfl
    rw [e, h1, ob]
  · obtain ⟨-, a, b, -⟩ := hP
    rcases (by omega : w = 0 ∨ w = 1 ∨ w = 2 ∨ w = 3 ∨ w = 4 ∨ w = 5 ∨ w = 6 ∨ w = 13) with rfl | rfl | rfl | rfl | rfl | rfl | rfl | rfl
    · exact ⟨u 173 0, congrArg some hR.1.1, rfl⟩
    · exact ⟨u 173 1, congrArg some hR.1.2.1, rfl⟩
    · exact ⟨u sp 4, congrArg some (a.1.trans b.1.symm), rfl⟩
    · exact ⟨u sp 7, congrArg some (a.2.1.trans b.2.1.symm), rfl⟩
    · exact ⟨u sp 11, congrArg some (a.2.2.1.trans b.2.2.1.symm), rfl⟩
    · exact ⟨u sp 15, congrArg some (a.2.2.2.1.trans b.2.2.2.1.symm), rfl⟩
    · exact ⟨u sp 20, congrArg some (a.2.2.2.2.trans b.2.2.2.2.symm), rfl⟩
    · exact ⟨u 149 2, congrArg some hb, rfl⟩
theorem lot_two (hP : PL v u sp S G M L O) (hR : RS v u 97 173 L) (hI : IS u 173 L G M) {i : Nat} (hi : i < L) (a : Int32) :
    ∃ x, f_Stand_tellLot v 97 (nI i) a = some x ∧ f_Model_lotTold u sp (nI i) a = some x := by
  have hB := hP.1
  have es := (hP.2.2.2.2.2.2.1 i hi).1
  have e1 : v 99 i = u 174 i := hR.2.1 i (by omega)
  have e2 : v 101 i = u 175 i := hR.2.2.1 i hi
  have e3 : v 103 i = u 176 i := hR.2.2.2.1 i hi
  have e4 : v 105 i = if u 176 i = -1 then 0 else u 177 i := hR.2.2.2.2.1 i hi
  obtain ⟨x, g1, g2⟩ := hR.age hI.2.2.1 (by omega) (by omega) hi
  obtain ⟨y, g3, g4, -⟩ := hR.fresh hI.2.2.1 (by omega) (by omega) hi
  unfold f_Stand_tellLot f_Model_lotTold
  simp (disch := omega) only [bd, rg, gn, ni_c, if_false, es, e1, e2, e3, e4, g1, g2, g3, g4, ob]
  by_cases h0 : a = 0
  · exact ⟨_, if_pos h0, if_pos h0⟩
  simp only [if_neg h0]
  by_cases h0 : a = 1
  · exact ⟨_, if_pos h0, if_pos h0⟩
  simp only [if_neg h0]
  by_cases h0 : a = 2
  · exact ⟨_, if_pos h0, if_pos h0⟩
  simp only [if_neg h0]
  by_cases h0 : a = 3
  · exact ⟨_, if_pos h0, if_pos h0⟩
  simp only [if_neg h0]
  by_cases h0 : a = 4
  · rw [if_pos h0, if_pos h0]
    refine ⟨_, rfl, ?_⟩
    by_cases h : u 176 i = -1
    · rw [if_pos h, if_pos h]
    · rw [if_neg h, if_neg h]
  simp only [if_neg h0]
  by_cases h0 : a = 5
  · exact ⟨_, if_pos h0, if_pos h0⟩
  simp only [if_neg h0]
  by_cases h0 : q_b y = 0
  · exact ⟨_, if_pos h0, if_pos h0⟩
  · exact ⟨_, if_neg h0, if_neg h0⟩
/-- how many lots a merchant has, what they weigh -/
theorem lots_two (hP : PL v u sp S G M L O) (hR : RS v u 97 173 L) (hz : 4000 < z) (a : Int32) : ∃ x, f_Stand_lotsOf z v 97 a = some x ∧ f_Model_lotsOf z u sp a 0 = some x := by
  have hB := hP.1
  obtain ⟨x, y, h1, h2, h3⟩ := rp_two (f := b_Stand_lotsOf_4 v 97 a) (g := b_Model_lotsOf_5 u sp a 0) (fun i s t => s = t ∧ s.2 = nI i) (fun r q => r = q) L (by
    intro K K' s t ⟨e0, e1⟩
    subst e0
    refine ⟨s.1, s.1, ?_, ?_, rfl⟩
    · unfold b_Stand_lotsOf_4
      rw [e1, hP.2.1.2.2.2.1, if_pos (by rw [le_n (by omega) (by omega)]; exact Nat.le_refl _)]
    · unfold b_Model_lotsOf_5
      rw [e1, hP.2.2.1.2.2.2.1, if_pos (by rw [le_n (by omega) (by omega)]; exact Nat.le_refl _)]) (by
    intro K K' i s t hi ⟨e0, e1⟩
    subst e0
    obtain ⟨c, j⟩ := s
    simp only at e1
    subst e1
    have e2 : v 101 i = u 175 i := hR.2.2.1 i hi
    refine Or.inl ⟨(if u 175 i = a then c + 1 else c, nI (i + 1)), (if u 175 i = a then c + 1 else c, nI (i + 1)), ?_, ?_, rfl, rfl⟩
    · unfold b_Stand_lotsOf_4 j_Stand_lotsOf_30
      simp (disch := omega) only [hP.2.1.2.2.2.1, bd, rg, ni_s, e2]
      rw [if_neg (by rw [le_n (by omega) (by omega)]; omega)]
      by_cases h : u 175 i = a
      · simp only [if_pos h]
      · simp only [if_neg h]
    · unfold b_Model_lotsOf_5 j_Model_lotsOf_54
      simp (disch := omega) only [hP.2.2.1.2.2.2.1, gn, ni_c, if_false, if_true, ni_s]
      rw [if_neg (by rw [le_n (by omega) (by omega)]; omega)]
      by_cases h : u 175 i = a
      · simp only [if_pos h]
      · simp only [if_neg h, Int32.add_zero]) z z 0 (0, 0) (0, 0) ⟨rfl, rfl⟩ (by omega) (by omega) (by omega)
  exact ⟨x, h1, by rw [h3]; exact h2⟩
theorem wlots_two (hP : PL v u sp S G M L O) (hR : RS v u 97 173 L) (hz : 4000 < z) (a : Int32) : ∃ x, f_Stand_weightOfLotsOf z v 97 a = some x ∧ f_Model_lotsOf z u sp a 1 = some x := by
  have hB := hP.1
  obtain ⟨x, y, h1, h2, h3⟩ := rp_two (f := b_Stand_weightOfLotsOf_4 v 97 a) (g := b_Model_lotsOf_5 u sp a 1) (fun i s t => s = t ∧ s.2 = nI i) (fun r q => r = q) L (by
    intro K K' s t ⟨e0, e1⟩
    subst e0
    refine ⟨s.1, s.1, ?_, ?_, rfl⟩
    · unfold b_Stand_weightOfLotsOf_4
      rw [e1, hP.2.1.2.2.2.1, if_pos (by rw [le_n (by omega) (by omega)]; exact Nat.le_refl _)]
    · unfold b_Model_lotsOf_5
      rw [e1, hP.2.2.1.2.2.2.1, if_pos (by rw [le_n (by omega) (by omega)]; exact Nat.le_refl _)]) (by
    intro K K' i s t hi ⟨e0, e1⟩
    subst e0
    obtain ⟨c, j⟩ := s
    simp only at e1
    subst e1
    have e2 : v 101 i = u 175 i := hR.2.2.1 i hi
    have e1 : v 99 i = u 174 i := hR.2.1 i (by omega)
    refine Or.inl ⟨(if u 175 i = a then c + u 174 i else c, nI (i + 1)), (if u 175 i = a then c + u 174 i else c, nI (i + 1)), ?_, ?_, rfl, rfl⟩
    · unfold b_Stand_weightOfLotsOf_4 j_Stand_weightOfLotsOf_38
      simp (disch := omega) only [hP.2.1.2.2.2.1, bd, rg, ni_s, e2, e1]
      rw [if_neg (by rw [le_n (by omega) (by omega)]; omega)]
      by_cases h : u 175 i = a
      · simp only [if_pos h]
      · simp only [if_neg h]
    · unfold b_Model_lotsOf_5 j_Model_lotsOf_54
      simp (disch := omega) only [hP.2.2.1.2.2.2.1, gn, ni_c, if_false, ni_s]
      rw [if_neg (by rw [le_n (by omega) (by omega)]; omega)]
      by_cases h : u 175 i = a
      · simp only [if_pos h]
        rw [if_neg (by decide)]
      · simp only [if_neg h, Int32.add_zero]) z z 0 (0, 0) (0, 0) ⟨rfl, rfl⟩ (by omega) (by omega) (by omega)
  exact ⟨x, h1, by rw [h3]; exact h2⟩
theorem merchant_two (hP : PL v u sp S G M L O) (hR : RS v u 97 173 L) (hI : IS u 173 L G M) (hz : 4000 < z) {i : Nat} (hi : i < M) {w : Nat} (hw : w ≤ 5) :
    ∃ x, f_Stand_tellMerchant z v 97 (nI i) (nI w) = some x ∧ f_Model_merchantTold z u sp (nI i) (nI w) = some x := by
  have hB := hP.1
  have ec : v 109 i = u 179 i := hR.2.2.2.2.2.2.1 i (by omega)
  have er := (hP.2.2.2.2.2.1 i hi).1
  obtain ⟨x, g1, g2⟩ := lots_two (z := z) hP hR hz (nI i)
  obtain ⟨y, g3, g4⟩ := wlots_two (z := z) hP hR hz (nI i)
  have s1 := hR.sumOf (a := i) (z := z) (by omega) (by omega)
  have s2 := hR.sumTo (a := i) (z := z) (by omega) (by omega)
  have s3 := deb_m (u := u) (sn := 173) (a := i) (z := z) (by omega) (by omega)
  have s4 := owd_m (u := u) (sn := 173) (a := i) (z := z) (by omega) (by omega)
  rcases (by omega : w = 0 ∨ w = 1 ∨ w = 2 ∨ w = 3 ∨ w = 4 ∨ w = 5) with rfl | rfl | rfl | rfl | rfl | rfl
  · refine ⟨u 179 i, ?_, ?_⟩
    · show bnd (row_g 6 (v 109) (nI i)) _ = _
      rw [bd, rg (by omega) (by omega), ec]
    · show (if nI i < 0 ∨ 6 ≤ (nI i).toNatClampNeg then none else some (u 179 (nI i).toNatClampNeg)) = _
      rw [if_neg (gd2 (by omega) (by omega)), ni_c (by omega)]
  · refine ⟨u (sp + 12) i, ?_, ?_⟩
    · show bnd (row_g 6 (v 71) (nI i)) _ = _
      rw [bd, rg (by omega) (by omega), er]
    · show (if nI i < 0 ∨ 6 ≤ (nI i).toNatClampNeg then none else some (u (sp + 12) (nI i).toNatClampNeg)) = _
      rw [if_neg (gd2 (by omega) (by omega)), ni_c (by omega)]
  · refine ⟨row_t (fun b => u (173 + 7) (6 * i + b)) 6, ?_, ?_⟩
    · show (f_Debts_sumOf z v (97 + 13) (nI i)).bind _ = _
      rw [s1, ob]
    · show (f_State_debts z u 173 (nI i)).bind _ = _
      rw [s3, ob]
  · refine ⟨row_t (fun b => u (173 + 7) (6 * b + i)) 6, ?_, ?_⟩
    · show (f_Debts_sumOwedTo z v (97 + 13) (nI i)).bind _ = _
      rw [s2, ob]
    · show (f_State_owed z u 173 (nI i)).bind _ = _
      rw [s4, ob]
  · refine ⟨x, ?_, ?_⟩
    · show (f_Stand_lotsOf z v 97 (nI i)).bind _ = _
      rw [g1, ob]
    · show (f_Model_lotsOf z u sp (nI i) 0).bind _ = _
      rw [g2, ob]
  · refine ⟨y, ?_, ?_⟩
    · show (f_Stand_weightOfLotsOf z v 97 (nI i)).bind _ = _
      rw [g3, ob]
    · show (f_Model_lotsOf z u sp (nI i) 1).bind _ = _
      rw [g4, ob]
theorem bear_two (hP : PL v u sp S G M L O) (hR : RS v u 97 173 L) (hz : 4000 < z) (a : Int32) : ∃ x, f_Stand_lotsWithChopOf z v 97 a = some x ∧ rp (b_Model_guildTold_61 u sp a) z (0, 0) = some x := by
  have hB := hP.1
  obtain ⟨x, y, h1, h2, h3⟩ := rp_two (f := b_Stand_lotsWithChopOf_4 v 97 a) (g := b_Model_guildTold_61 u sp a) (fun i s t => s = t ∧ s.2 = nI i) (fun r q => r = q) L (by
    intro K K' s t ⟨e0, e1⟩
    subst e0
    refine ⟨s.1, s.1, ?_, ?_, rfl⟩
    · unfold b_Stand_lotsWithChopOf_4
      rw [e1, hP.2.1.2.2.2.1, if_pos (by rw [le_n (by omega) (by omega)]; exact Nat.le_refl _)]
    · unfold b_Model_guildTold_61
      rw [e1, hP.2.2.1.2.2.2.1, if_pos (by rw [le_n (by omega) (by omega)]; exact Nat.le_refl _)]) (by
    intro K K' i s t hi ⟨e0, e1⟩
    subst e0
    obtain ⟨c, j⟩ := s
    simp only at e1
    subst e1
    have e2 : v 103 i = u 176 i := hR.2.2.2.1 i hi
    refine Or.inl ⟨(if u 176 i = a then c + 1 else c, nI (i + 1)), (if u 176 i = a then c + 1 else c, nI (i + 1)), ?_, ?_, rfl, rfl⟩
    · unfold b_Stand_lotsWithChopOf_4 j_Stand_lotsWithChopOf_30
      simp (disch := omega) only [hP.2.1.2.2.2.1, bd, rg, ni_s, e2]
      rw [if_neg (by rw [le_n (by omega) (by omega)]; omega)]
      by_cases h : u 176 i = a
      · simp only [if_pos h]
      · simp only [if_neg h]
    · unfold b_Model_guildTold_61 j_Model_guildTold_93
      simp (disch := omega) only [hP.2.2.1.2.2.2.1, gn, ni_c, if_false, ni_s]
      rw [if_neg (by rw [le_n (by omega) (by omega)]; omega)]
      by_cases h : u 176 i = a
      · simp only [if_pos h]
        rfl
      · simp only [if_neg h]
        show K' (c + 0, _) = _
        rw [Int32.add_zero]) z z 0 (0, 0) (0, 0) ⟨rfl, rfl⟩ (by omega) (by omega) (by omega)
  exact ⟨x, h1, by rw [h3]; exact h2⟩
theorem guild_two (hP : PL v u sp S G M L O) (hR : RS v u 97 173 L) (hz : 4000 < z) {i : Nat} (hi : i < G) (a : Int32) :
    ∃ x, f_Stand_tellGuild z v 97 (nI i) a = some x ∧ f_Model_guildTold z u sp (nI i) a = some x := by
  have hB := hP.1
  obtain ⟨e65, e67, -, -⟩ := hP.2.2.2.2.1 i hi
  have ee : v 116 i = u 181 i := hR.2.2.2.2.2.2.2.2.1 i (by omega)
  obtain ⟨x, g1, g2⟩ := bear_two (z := z) hP hR hz (nI i)
  unfold f_Stand_tellGuild f_Model_guildTold
  simp (disch := omega) only [bd, rg, gn, ni_c, if_false, e65, e67, ee, g1, g2, ob]
  by_cases h0 : a = 0
  · exact ⟨_, if_pos h0, if_pos h0⟩
  simp only [if_neg h0]
  by_cases h0 : a = 1
  · exact ⟨_, if_pos h0, if_pos h0⟩
  simp only [if_neg h0]
  by_cases h0 : a = 2
  · exact ⟨_, if_pos h0, if_pos h0⟩
  simp only [if_neg h0]
  exact ⟨_, rfl, rfl⟩
theorem order_two (hP : PL v u sp S G M L O) (hX : PX z v u sp L G M O cs ct) (hR : RS v u 97 173 L) (hI : IS u 173 L G M) (hs : sp = 151 ∨ 194 ≤ sp) (hz : 4000 < z) {o : Nat} (ho : o < O) (a : Int32) :
    ∃ x v1 u1, f_Quay_tellOrder z v (nI o) a = some (x, v1) ∧ f_Model_orderTold z u sp (nI o) a = some (x, u1) ∧ FR 97 v v1 ∧ FW u u1 := by
  have hB := hP.1
  obtain ⟨e79, e81, e83, -⟩ := hP.2.2.2.2.2.2.2 o ho
  have ed : v 118 o = u 182 o := hR.2.2.2.2.2.2.2.2.2 o (by omega)
  obtain ⟨b, w, c, q1, q2, q3, q4, -⟩ := would_two hP hX hR hI (Or.inl rfl) (Or.inl rfl) hs hz ho
  have r1 : FR 97 v v := fun _ _ _ => rfl
  have r2 : FW u u := ⟨fun _ _ => rfl, fun _ _ _ => rfl⟩
  unfold f_Quay_tellOrder f_Model_orderTold
  simp (disch := omega) only [bd, rg, gn, ni_c, if_false, e79, e81, e83, ed, q1, q2, ob]
  by_cases h0 : a = 0
  · exact ⟨_, _, _, if_pos h0, if_pos h0, r1, r2⟩
  simp only [if_neg h0]
  by_cases h0 : a = 1
  · exact ⟨_, _, _, if_pos h0, if_pos h0, r1, r2⟩
  simp only [if_neg h0]
  by_cases h0 : a = 2
  · exact ⟨_, _, _, if_pos h0, if_pos h0, r1, r2⟩
  simp only [if_neg h0]
  by_cases h0 : a = 3
  · rw [if_pos h0, if_pos h0]
    by_cases h1 : q_b b = 0
    · exact ⟨_, _, _, if_pos h1, if_pos h1, q3, q4⟩
    · exact ⟨_, _, _, if_neg h1, if_neg h1, q3, q4⟩
  simp only [if_neg h0]
  exact ⟨_, _, _, rfl, rfl, r1, r2⟩
end
