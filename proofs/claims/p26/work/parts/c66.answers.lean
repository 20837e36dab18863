/-! WHAT THE CLASS ANSWERS, in the model's words -/
section
variable {v v1 u u1 : Va} {S G M L O z i j a b w o : Nat}
/-- class and model: v, u -/
def QI (z : Nat) (v u : Va) (S G M L O : Nat) : Prop := PL v u 151 S G M L O ∧ PX z v u 151 L G M O (smU u 151) (tsU u 151) ∧ RS v u 97 173 L ∧ IS u 173 L G M ∧ v 0 8 = u 149 2 ∧ PMo u S G M L O
theorem QI.keep (h : QI z v u S G M L O) (hC : ∀ p, p < 119 → p ≠ 114 → v1 p = v p) : QI z v1 u S G M L O :=
  ⟨h.1.cong (fun p a b => hC p (by omega) (by omega)) (fun _ _ _ => rfl), h.2.1.cong (fun p a b => hC p (by omega) (by omega)) (fun _ _ _ => rfl), h.2.2.1.cong2 (fun p a b c => hC p (by omega) (by omega)) (fun _ _ _ => rfl), h.2.2.2.1, by rw [hC 0 (by omega) (by omega)]; exact h.2.2.2.2.1, h.2.2.2.2.2⟩
theorem QI.step (h : QI z v u S G M L O) (hC : ∀ p, p < 97 → v1 p = v p) (hM : FM 173 u u1) (hR : RS v1 u1 97 173 L) (hI : IS u1 173 L G M) : QI z v1 u1 S G M L O := by
  have e1 : smU u1 151 = smU u 151 := funext fun o => smU_cong fun p a b => hM.1 p (by omega) (by omega)
  have e2 : tsU u1 151 = tsU u 151 := funext fun o => tsU_cong fun p a b => hM.1 p (by omega) (by omega)
  refine ⟨h.1.cong (fun p a b => hC p (by omega)) (fun p a b => hM.1 p (by omega) (by omega)), ?_, hR, hI, ?_, h.2.2.2.2.2.fm hM⟩
  · rw [e1, e2]
    exact h.2.1.cong (fun p a b => hC p (by omega)) (fun p a b => hM.1 p (by omega) (by omega))
  · rw [hC 0 (by omega), hM.2 2 (by omega) (by omega)]; exact h.2.2.2.2.1
def cU (u : Va) (w : Nat) : Int32 := if w = 0 then u 173 0 else if w = 1 then u 173 1 else if w = 2 then u 151 4 else if w = 3 then u 151 7 else if w = 4 then u 151 11 else if w = 5 then u 151 15 else if w = 6 then u 151 20 else if w = 7 then row_t (u 174) 10 else if w = 8 then row_t (u 180) 36 else if w = 9 then row_t (u 179) 6 else if w = 10 then u 173 2 else if w = 11 then u 173 3 else if w = 12 then u 173 4 else u 149 2
theorem m_count (h : QI z v u S G M L O) (hz : 4000 < z) (hw : w ≤ 13) : f_Model_counted z u 151 173 (nI w) = some (cU u w) := by
  have h7 := weight_m (v := v) (sn := 173) h.1 h.2.2.2.1.1 hz
  have h8 : f_Model_sumOf_ z u 180 36 = some (row_t (u 180) 36) := sum_row (by omega) (by omega)
  have h9 : f_Model_sumOf_ z u 179 6 = some (row_t (u 179) 6) := sum_row (by omega) (by omega)
  rcases (by omega : w = 0 ∨ w = 1 ∨ w = 2 ∨ w = 3 ∨ w = 4 ∨ w = 5 ∨ w = 6 ∨ w = 7 ∨ w = 8 ∨ w = 9 ∨ w = 10 ∨ w = 11 ∨ w = 12 ∨ w = 13) with rfl | rfl | rfl | rfl | rfl | rfl | rfl | rfl | rfl | rfl | rfl | rfl | rfl | rfl
  · rfl
  · rfl
  · rfl
  · rfl
  · rfl
  · rfl
  · rfl
  · show (f_Model_weightOf z u 151 173).bind (fun q => some q) = _
    rw [h7]; rfl
  · show (f_Model_sumOf_ z u 180 36).bind (fun q => some q) = _
    rw [h8]; rfl
  · show (f_Model_sumOf_ z u 179 6).bind (fun q => some q) = _
    rw [h9]; rfl
  · rfl
  · rfl
  · rfl
  · rfl
theorem lit_le {a b : Nat} (h : a ≤ b) (hb : b ≤ 4000) : ¬ nI a < 0 ∧ nI a ≤ nI b := ⟨ni_0 (by omega), by rw [le_n (by omega) hb]; exact h⟩
theorem q_count (h : QI z v u S G M L O) (hz : 4000 < z) (hw : w ≤ 13) : f_Quay_count v (nI w) = some (.inl (cU u w)) := by
  obtain ⟨x, c1, c2⟩ := counted_two h.1 h.2.2.1 h.2.2.2.1 hz h.2.2.2.2.1 hw
  rw [m_count h hz hw] at c2
  cases c2
  obtain ⟨l1, l2⟩ := lit_le hw (by omega)
  unfold f_Quay_count
  rw [if_neg l1, if_pos (show nI w ≤ 13 from l2), c1, ob]
def lU (u : Va) (i w : Nat) : Int32 := if w = 0 then u 165 i else if w = 1 then u 174 i else if w = 2 then u 175 i else if w = 3 then u 176 i else if w = 4 then (if u 176 i = -1 then 0 else u 177 i) else if w = 5 then (if u 176 i = -1 then 0 else u 173 0 - u 178 i) else q_b (decide (u 176 i ≠ -1 ∧ u 173 0 - u 178 i ≤ 5))
theorem m_lot (hL : L ≤ 10) (hi : i < L) (hw : w ≤ 6) : f_Model_lotTold u 151 (nI i) (nI w) = some (lU u i w) := by
  have g : (if nI i < 0 ∨ 10 ≤ (nI i).toNatClampNeg then (none : Option Int32) else some (u 165 (nI i).toNatClampNeg)) = some (u 165 i) := by rw [if_neg (gd2 (by omega) (by omega)), ni_c (by omega)]
  have g1 : ∀ k, (if nI i < 0 ∨ 10 ≤ (nI i).toNatClampNeg then (none : Option Int32) else some (u k (nI i).toNatClampNeg)) = some (u k i) := fun k => by rw [if_neg (gd2 (by omega) (by omega)), ni_c (by omega)]
  rcases (by omega : w = 0 ∨ w = 1 ∨ w = 2 ∨ w = 3 ∨ w = 4 ∨ w = 5 ∨ w = 6) with rfl | rfl | rfl | rfl | rfl | rfl | rfl
  · exact g1 165
  · exact g1 174
  · exact g1 175
  · exact g1 176
  · show (if nI i < 0 ∨ 10 ≤ (nI i).toNatClampNeg then none else if u 176 (nI i).toNatClampNeg = -1 then some 0 else (if nI i < 0 ∨ 10 ≤ (nI i).toNatClampNeg then none else some (u 177 (nI i).toNatClampNeg))) = some (if u 176 i = -1 then 0 else u 177 i)
    rw [g1 177, if_neg (gd2 (by omega) (by omega)), ni_c (by omega)]
    split <;> rfl
  · show (f_State_age u 173 (nI i)).bind (fun q => some q) = _
    rw [age_m (by omega), ob]; rfl
  · show (f_State_isFresh u 173 (nI i)).bind (fun q => if q_b q = 0 then some 0 else some 1) = _
    rw [m_fresh hL hi, ob]
    show _ = some (q_b _)
    cases decide (u 176 i ≠ -1 ∧ u 173 0 - u 178 i ≤ 5) <;> rfl
theorem q_lot (h : QI z v u S G M L O) (hi : i < L) (hw : w ≤ 6) : f_Quay_lot v (nI i) (nI w) = some (.inl (lU u i w)) := by
  have hL : L ≤ 10 := h.1.1.2.2.2.1
  obtain ⟨x, c1, c2⟩ := lot_two h.1 h.2.2.1 h.2.2.2.1 hi (nI w)
  rw [m_lot hL hi hw] at c2
  cases c2
  obtain ⟨l1, l2⟩ := lit_le hw (by omega)
  unfold f_Quay_lot
  rw [isL_c h.1, ob]
  simp only [qb]
  rw [if_neg (by rw [decide_eq_true ⟨ni_0 (by omega), by rw [le_n (by omega) (by omega)]; omega⟩]; decide), if_neg l1, if_pos (show nI w ≤ 6 from l2), c1, ob]
def mU (u : Va) (L a w : Nat) : Int32 := if w = 0 then u 179 a else if w = 1 then u 163 a else if w = 2 then row_t (fun b => u 180 (6 * a + b)) 6 else if w = 3 then row_t (fun b => u 180 (6 * b + a)) 6 else if w = 4 then row_t (fun k => if u 175 k = nI a then 1 else 0) L else row_t (fun k => if u 175 k = nI a then u 174 k else 0) L
theorem m_lotsOf (hL : L ≤ 10) (hsL : u 151 15 = nI L) (hz : 4000 < z) {c : Int32} : f_Model_lotsOf z u 151 c 0 = some (row_t (fun k => if u 175 k = c then 1 else 0) L) := by
  unfold f_Model_lotsOf
  refine rp_go (fun i => (row_t (fun k => if u 175 k = c then 1 else 0) i, nI i)) L (fun K => ?_) (fun K i hi => ?_) (by omega)
  · unfold b_Model_lotsOf_5
    simp only [hsL]
    rw [if_pos (by rw [le_n (by omega) (by omega)]; exact Nat.le_refl _)]
  · unfold b_Model_lotsOf_5 j_Model_lotsOf_54
    simp (disch := omega) only [hsL, gn, ni_c, if_false, ni_s, if_true]
    rw [if_neg (by rw [le_n (by omega) (by omega)]; omega)]
    show _ = K (row_t _ i + (if u 175 i = c then 1 else 0), nI (i + 1))
    split <;> rfl
theorem m_wlotsOf (hL : L ≤ 10) (hsL : u 151 15 = nI L) (hz : 4000 < z) {c : Int32} : f_Model_lotsOf z u 151 c 1 = some (row_t (fun k => if u 175 k = c then u 174 k else 0) L) := by
  unfold f_Model_lotsOf
  refine rp_go (fun i => (row_t (fun k => if u 175 k = c then u 174 k else 0) i, nI i)) L (fun K => ?_) (fun K i hi => ?_) (by omega)
  · unfold b_Model_lotsOf_5
    simp only [hsL]
    rw [if_pos (by rw [le_n (by omega) (by omega)]; exact Nat.le_refl _)]
  · unfold b_Model_lotsOf_5 j_Model_lotsOf_54
    simp (disch := omega) only [hsL, gn, ni_c, if_false, ni_s, show ((1 : Int32) = 0) = False from by decide]
    rw [if_neg (by rw [le_n (by omega) (by omega)]; omega)]
    show _ = K (row_t _ i + (if u 175 i = c then u 174 i else 0), nI (i + 1))
    split <;> rfl
theorem m_mer (hP : PMo u S G M L O) (hz : 4000 < z) (ha : a < M) (hw : w ≤ 5) : f_Model_merchantTold z u 151 (nI a) (nI w) = some (mU u L a w) := by
  obtain ⟨⟨hS4, hG4, hM6, hL10, hO24⟩, ⟨hq1, hq2, hq3, hq4, hq5⟩, -⟩ := hP
  have g1 : ∀ k, (if nI a < 0 ∨ 6 ≤ (nI a).toNatClampNeg then (none : Option Int32) else some (u k (nI a).toNatClampNeg)) = some (u k a) := fun k => by rw [if_neg (gd2 (by omega) (by omega)), ni_c (by omega)]
  rcases (by omega : w = 0 ∨ w = 1 ∨ w = 2 ∨ w = 3 ∨ w = 4 ∨ w = 5) with rfl | rfl | rfl | rfl | rfl | rfl
  · exact g1 179
  · exact g1 163
  · show (f_State_debts z u 173 (nI a)).bind (fun q => some q) = _
    rw [deb_m (by omega) (by omega), ob]; rfl
  · show (f_State_owed z u 173 (nI a)).bind (fun q => some q) = _
    rw [owd_m (by omega) (by omega), ob]; rfl
  · show (f_Model_lotsOf z u 151 (nI a) 0).bind (fun q => some q) = _
    rw [m_lotsOf hL10 hq4 hz, ob]; rfl
  · show (f_Model_lotsOf z u 151 (nI a) 1).bind (fun q => some q) = _
    rw [m_wlotsOf hL10 hq4 hz, ob]; rfl
theorem ndM (h : QI z v u S G M L O) (ha : a < M) : ¬ (decide (¬ nI a < 0 ∧ ¬ nI M ≤ nI a) = false) := by
  have hM : M ≤ 6 := h.1.1.2.2.1
  rw [decide_eq_true ⟨ni_0 (by omega), by rw [le_n (by omega) (by omega)]; omega⟩]; decide
theorem q_mer (h : QI z v u S G M L O) (hz : 4000 < z) (ha : a < M) (hw : w ≤ 5) : f_Quay_merchant z v (nI a) (nI w) = some (.inl (mU u L a w)) := by
  obtain ⟨x, c1, c2⟩ := merchant_two h.1 h.2.2.1 h.2.2.2.1 hz ha hw
  rw [m_mer h.2.2.2.2.2 hz ha hw] at c2
  cases c2
  obtain ⟨l1, l2⟩ := lit_le hw (by omega)
  unfold f_Quay_merchant
  rw [isM_c h.1, ob]
  simp only [qb]
  rw [if_neg (ndM h ha), if_neg l1, if_pos (show nI w ≤ 5 from l2), c1, ob]
def gU (u : Va) (L g w : Nat) : Int32 := if w = 0 then u 159 g else if w = 1 then u 160 g else if w = 2 then u 181 g else row_t (fun k => if u 176 k = nI g then 1 else 0) L
theorem m_gui (hP : PMo u S G M L O) (hz : 4000 < z) (ha : a < G) (hw : w ≤ 3) : f_Model_guildTold z u 151 (nI a) (nI w) = some (gU u L a w) := by
  obtain ⟨⟨hS4, hG4, hM6, hL10, hO24⟩, ⟨hq1, hq2, hq3, hq4, hq5⟩, -⟩ := hP
  have g1 : ∀ k, (if nI a < 0 ∨ 4 ≤ (nI a).toNatClampNeg then (none : Option Int32) else some (u k (nI a).toNatClampNeg)) = some (u k a) := fun k => by rw [if_neg (gd2 (by omega) (by omega)), ni_c (by omega)]
  rcases (by omega : w = 0 ∨ w = 1 ∨ w = 2 ∨ w = 3) with rfl | rfl | rfl | rfl
  · exact g1 159
  · exact g1 160
  · exact g1 181
  · show rp (b_Model_guildTold_61 u 151 (nI a)) z (0, 0) = some (row_t (fun k => if u 176 k = nI a then 1 else 0) L)
    refine rp_go (fun i => (row_t (fun k => if u 176 k = nI a then 1 else 0) i, nI i)) L (fun K => ?_) (fun K i hi => ?_) (by omega)
    · unfold b_Model_guildTold_61
      simp only [hq4]
      rw [if_pos (by rw [le_n (by omega) (by omega)]; exact Nat.le_refl _)]
    · unfold b_Model_guildTold_61 j_Model_guildTold_93
      simp (disch := omega) only [hq4, gn, ni_c, if_false, ni_s]
      rw [if_neg (by rw [le_n (by omega) (by omega)]; omega)]
      show _ = K (row_t _ i + (if u 176 i = nI a then 1 else 0), nI (i + 1))
      split <;> rfl
theorem q_gui (h : QI z v u S G M L O) (hz : 4000 < z) (ha : a < G) (hw : w ≤ 3) : f_Quay_guild z v (nI a) (nI w) = some (.inl (gU u L a w)) := by
  have hG : G ≤ 4 := h.1.1.2.1
  obtain ⟨x, c1, c2⟩ := guild_two h.1 h.2.2.1 hz ha (nI w)
  rw [m_gui h.2.2.2.2.2 hz ha hw] at c2
  cases c2
  obtain ⟨l1, l2⟩ := lit_le hw (by omega)
  unfold f_Quay_guild
  rw [h.1.2.1.2.1, if_neg (ni_0 (by omega)), if_neg (by rw [le_n (by omega) (by omega)]; omega), if_neg l1, if_pos (show nI w ≤ 3 from l2), c1, ob]
theorem q_owes (h : QI z v u S G M L O) (ha : a < M) (hb : b < M) : f_Quay_owes v (nI a) (nI b) = some (.inl (u 180 (6 * a + b))) := by
  have hM : M ≤ 6 := h.1.1.2.2.1
  unfold f_Quay_owes
  rw [isM_c h.1, ob, isM_c h.1, ob]
  simp only [qb]
  rw [if_neg (ndM h ha), if_neg (ndM h hb)]
  have := h.2.2.1.bet (a := a) (b := b) (by omega) (by omega)
  rw [show (110 : Nat) = 97 + 13 from rfl, this, ob]
/-- an order told: its own words, and whether it would be carried out -/
def oU (u : Va) (o w : Nat) : Int32 := if w = 0 then u 168 o else if w = 1 then u 169 o else if w = 2 then u 170 o else u 182 o
theorem q_ord (h : QI z v u S G M L O) (hz : 4000 < z) (ho : o < O) (hw : w ≤ 4) (h3 : w ≠ 3) : ∃ v1, f_Quay_order z v (nI o) (nI w) = some (.inl (oU u o w, v1)) ∧ QI z v1 u S G M L O ∧ ∀ p, p ≠ 120 → p ≠ 122 → v1 p = v p := by
  have hO : O ≤ 24 := h.1.1.2.2.2.2
  obtain ⟨x, v1, u1, c1, c2, c3, c4⟩ := order_two h.1 h.2.1 h.2.2.1 h.2.2.2.1 (Or.inl rfl) hz ho (nI w)
  obtain ⟨l1, l2⟩ := lit_le hw (by omega)
  have g1 : ∀ k, (if nI o < 0 ∨ 24 ≤ (nI o).toNatClampNeg then (none : Option (Int32 × Va)) else some (u k (nI o).toNatClampNeg, u)) = some (u k o, u) := fun k => by rw [if_neg (gd2 (by omega) (by omega)), ni_c (by omega)]
  have e : f_Model_orderTold z u 151 (nI o) (nI w) = some (oU u o w, u) := by
    rcases (by omega : w = 0 ∨ w = 1 ∨ w = 2 ∨ w = 4) with rfl | rfl | rfl | rfl
    · exact g1 168
    · exact g1 169
    · exact g1 170
    · exact g1 182
  rw [e] at c2
  cases c2
  refine ⟨v1, ?_, h.keep (fun p a b => c3 p (by omega) (by omega)), c3⟩
  unfold f_Quay_order
  rw [h.1.2.1.2.2.2.2, if_neg (ni_0 (by omega)), if_neg (by rw [le_n (by omega) (by omega)]; omega), if_neg l1, if_pos (show nI w ≤ 4 from l2), c1, ob]
theorem q_ord3 (h : QI z v u S G M L O) (hz : 4000 < z) (ho : o < O) : ∃ (t : Bool) (v1 u1 : Va), f_Quay_order z v (nI o) 3 = some (.inl (q_b t, v1)) ∧ f_Model_can z u 151 173 (nI o) = some (t, u1) ∧ QI z v1 u S G M L O ∧ ∀ p, p ≠ 120 → p ≠ 122 → v1 p = v p := by
  have hO : O ≤ 24 := h.1.1.2.2.2.2
  obtain ⟨x, v1, u1, c1, c2, c3, c4⟩ := order_two h.1 h.2.1 h.2.2.1 h.2.2.2.1 (Or.inl rfl) hz ho 3
  have e : f_Model_orderTold z u 151 (nI o) 3 = (f_Model_can z u 151 173 (nI o)).bind (fun q68 => if (q_b q68.1) = 0 then (some (0, q68.2)) else (some (1, q68.2))) := rfl
  rw [e] at c2
  cases hc : f_Model_can z u 151 173 (nI o) with
  | none => rw [hc] at c2; cases c2
  | some q =>
    rw [hc, ob] at c2
    have ex : x = q_b q.1 := by
      cases hq : q.1
      · rw [hq, if_pos (show q_b false = 0 from rfl)] at c2; cases c2; rfl
      · rw [hq, if_neg (show ¬ q_b true = 0 by decide)] at c2; cases c2; rfl
    refine ⟨q.1, v1, q.2, ?_, rfl, h.keep (fun p a b => c3 p (by omega) (by omega)), c3⟩
    unfold f_Quay_order
    rw [h.1.2.1.2.2.2.2, if_neg (ni_0 (by omega)), if_neg (by rw [le_n (by omega) (by omega)]; omega), if_neg (show ¬ (3 : Int32) < 0 by decide), if_pos (show (3 : Int32) ≤ 4 by decide), c1, ob, ex]
theorem q_digest (h : QI z v u S G M L O) (hz : 4000 < z) : ∃ (r : Int64 × Va) (v1 : Va), rp (b_Model_digest_11 z 151 u) z (829, 0) = some r ∧ f_Quay_digest z v = some (r.1, v1) ∧ QI z v1 u S G M L O ∧ ∀ p, p ≠ 120 → p ≠ 122 → v1 p = v p := by
  obtain ⟨q, r, c1, c2, c3, c4, c5⟩ := dig_two (Or.inl rfl) h.1 h.2.1 h.2.2.1 h.2.2.2.1 hz h.2.2.2.2.1
  exact ⟨r, q.2, c2, by rw [c1, ← c3], h.keep (fun p a b => c4 p (by omega) (by omega)), c4⟩
end
