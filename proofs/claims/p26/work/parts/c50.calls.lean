/-! CALLS OF THE FACE: the class's answer, the reference's behind it, and what holds between calls -/
/-- the tape, the error's place, the lists of names -/
def TP (v : Va) : Prop := (∃ nb, nb ≤ 2000 ∧ v 0 8 = nI nb ∧ v 149 2 = nI nb ∧ ∀ i, i < nb → v 2 i = v 150 i ∧ ∃ b, b < 256 ∧ v 150 i = nI b) ∧ v 0 9 = v 149 3 ∧ v 49 1 = 4 ∧ v 52 1 = 4 ∧ v 55 1 = 6 ∧ v 58 1 = 10
def InvP (z : Nat) (v : Va) (sp S G M L O : Nat) (cs ct : Nat → List Ste) : Prop := (sp = 151 ∨ 194 ≤ sp) ∧ PL v v sp S G M L O ∧ PX z v v sp L G M O cs ct ∧ RS v v 97 173 L ∧ IS v 173 L G M ∧ TP v
def Inv (z : Nat) (v : Va) (sp : Nat) : Prop := ∃ S G M L O cs ct, InvP z v sp S G M L O cs ct
def Fc (v v1 : Va) : Prop := ∀ p, p < 97 ∨ 149 ≤ p → v1 p = v p
def Fm (u u1 : Va) : Prop := (∀ p, p ≠ 149 → p < 173 ∨ 194 ≤ p → u1 p = u p) ∧ ∀ j, j ≠ 0 → j ≠ 10 → j ≠ 11 → u1 149 j = u 149 j
/-- both answered, or both refused -/
def Same (z : Nat) (v : Va) (sp : Nat) (c : Option ((Int32 × Va) ⊕ Nat)) (m : Va → Option (Int32 × Va)) (kk : List (Nat × Int32)) : Prop :=
  (∃ x v1 v2, c = some (.inl (x, v1)) ∧ m v1 = some (x, v2) ∧ v2 149 0 = 0 ∧ Inv z v2 sp) ∨ ∃ k t y v2, (k, t) ∈ kk ∧ c = some (.inr k) ∧ m v = some (y, v2) ∧ v2 149 0 = t ∧ Inv z v2 sp
def SameR (z : Nat) (v : Va) (sp : Nat) (c : Option (Int32 ⊕ Nat)) (m : Va → Option (Int32 × Va)) (kk : List (Nat × Int32)) : Prop :=
  (∃ x v2, c = some (.inl x) ∧ m v = some (x, v2) ∧ v2 149 0 = 0 ∧ Inv z v2 sp) ∨ ∃ k t y v2, (k, t) ∈ kk ∧ c = some (.inr k) ∧ m v = some (y, v2) ∧ v2 149 0 = t ∧ Inv z v2 sp
theorem RS.cong2 {v u v' u' : Va} {k sn L : Nat} (h : RS v u k sn L) (hv : ∀ p, k ≤ p → p < k + 22 → p ≠ k + 17 → v' p = v p) (hu : ∀ p, sn ≤ p → p < sn + 10 → u' p = u p) : RS v' u' k sn L := by
  have h1 : RS v' u k sn L := by
    unfold RS at h ⊢
    rw [hv k (by omega) (by omega) (by omega), hv (k + 2) (by omega) (by omega) (by omega), hv (k + 4) (by omega) (by omega) (by omega), hv (k + 6) (by omega) (by omega) (by omega), hv (k + 8) (by omega) (by omega) (by omega), hv (k + 10) (by omega) (by omega) (by omega), hv (k + 12) (by omega) (by omega) (by omega), hv (k + 15) (by omega) (by omega) (by omega), hv (k + 19) (by omega) (by omega) (by omega), hv (k + 21) (by omega) (by omega) (by omega)]
    exact h
  exact h1.cong (fun _ _ _ => rfl) hu
section
variable {v u v1 v2 u1 : Va} {sp S G M L O z : Nat} {cs ct : Nat → List Ste}
theorem Fc.tr (h : Fc v v1) (h2 : Fc v1 v2) : Fc v v2 := fun p hp => (h2 p hp).trans (h p hp)
theorem Fm.tr (h : Fm v v1) (h2 : Fm v1 v2) : Fm v v2 := ⟨fun p a b => (h2.1 p a b).trans (h.1 p a b), fun j a b c => (h2.2 j a b c).trans (h.2 j a b c)⟩
theorem FC.f {k : Nat} (h : FC k v v1) (hk : k = 97 ∨ k = 123) : Fc v v1 := fun p hp => h p (by omega)
theorem FM.f {sn : Nat} (h : FM sn v v1) (hn : sn = 173 ∨ sn = 183) : Fm v v1 := ⟨fun p a b => h.1 p a (by omega), fun j _ a b => h.2 j a b⟩
theorem InvP.step (h : InvP z v sp S G M L O cs ct) (hC : Fc v v1) (hM : Fm v1 v2) (hR : RS v1 v2 97 173 L) (hI : IS v2 173 L G M) : InvP z v2 sp S G M L O cs ct := by
  obtain ⟨hs, hP, hX, -, -, ⟨nb, h1, h2, h3, h4⟩, h5, h6, h7, h8, h9⟩ := h
  have e1 : ∀ p, p < 97 → v2 p = v p := fun p hp => (hM.1 p (by omega) (by omega)).trans (hC p (by omega))
  have e2 : ∀ p, sp ≤ p → p < sp + 22 → v2 p = v p := fun p a b => (hM.1 p (by omega) (by omega)).trans (hC p (by omega))
  have e3 : ∀ j, j ≠ 0 → j ≠ 10 → j ≠ 11 → v2 149 j = v 149 j := fun j a b c => by rw [hM.2 j a b c, hC 149 (by omega)]
  have e4 : v2 150 = v 150 := (hM.1 150 (by omega) (by omega)).trans (hC 150 (by omega))
  refine ⟨hs, hP.cong (fun p a b => e1 p b) e2, hX.cong (fun p a b => e1 p b) e2, hR.cong (fun p a b => hM.1 p (by omega) (by omega)) (fun _ _ _ => rfl), hI, ⟨nb, h1, ?_, ?_, ?_⟩, ?_, ?_, ?_, ?_, ?_⟩
  · rw [e1 0 (by omega)]; exact h2
  · rw [e3 2 (by omega) (by omega) (by omega)]; exact h3
  · rw [e1 2 (by omega), e4]; exact h4
  · rw [e1 0 (by omega), e3 3 (by omega) (by omega) (by omega)]; exact h5
  · rw [e1 49 (by omega)]; exact h6
  · rw [e1 52 (by omega)]; exact h7
  · rw [e1 55 (by omega)]; exact h8
  · rw [e1 58 (by omega)]; exact h9
/-- the class has answered, the reference begins -/
theorem InvP.mid (h : InvP z v sp S G M L O cs ct) (hC : Fc v v1) : PL v (pu v1 149 0 0) sp S G M L O ∧ PX z v (pu v1 149 0 0) sp L G M O cs ct ∧ RS v (pu v1 149 0 0) 97 173 L ∧ IS (pu v1 149 0 0) 173 L G M ∧ v 0 8 = (pu v1 149 0 0) 149 2 := by
  obtain ⟨hs, hP, hX, hR, hI, ⟨nb, h1, h2, h3, h4⟩, -⟩ := h
  have e : ∀ p, 149 < p → (pu v1 149 0 0) p = v p := fun p hp => by unfold pu; rw [up_ne (by omega)]; exact hC p (by omega)
  refine ⟨hP.cong (fun _ _ _ => rfl) (fun p a b => e p (by omega)), hX.cong (fun _ _ _ => rfl) (fun p a b => e p (by omega)), hR.cong (fun _ _ _ => rfl) (fun p a b => e p (by omega)), hI.cong (fun p a b => e p (by omega)), ?_⟩
  unfold pu
  rw [up_eq, upd_ne (by omega), hC 149 (by omega), h2, h3]
theorem Fm_th {x : Int32} : Fm v (pu v 149 0 x) := ⟨fun p h _ => by unfold pu; rw [up_ne h], fun j h _ _ => by unfold pu; rw [up_eq, upd_ne h]⟩
/-- a call that only told, or refused: the reference's numbers apart from what it thinks with are as before -/
theorem InvP.same (h : InvP z v sp S G M L O cs ct) (hM : Fm v v2) (hq : ∀ p, 173 ≤ p → p < 183 → v2 p = v p) : InvP z v2 sp S G M L O cs ct :=
  h.step (fun _ _ => rfl) hM (h.2.2.2.1.cong (fun _ _ _ => rfl) (fun p a b => hq p a (by omega))) (h.2.2.2.2.1.cong (fun p a b => hq p a (by omega)))
/-- and where the class thought too -/
theorem InvP.thought (h : InvP z v sp S G M L O cs ct) (hC : Fc v v1) (hM : Fm v1 v2) (hq : ∀ p, 173 ≤ p → p < 183 → v2 p = v1 p) (hc : ∀ p, 97 ≤ p → p < 119 → p ≠ 114 → v1 p = v p) : InvP z v2 sp S G M L O cs ct :=
  h.step hC hM (h.2.2.2.1.cong2 (fun p a b c => hc p a (by omega) (by omega)) (fun p a b => (hq p a (by omega)).trans (hC p (by omega)))) (h.2.2.2.2.1.cong (fun p a b => (hq p a (by omega)).trans (hC p (by omega))))
theorem th0 {x : Int32} : (pu v 149 0 x) 149 0 = x := by unfold pu; rw [up_eq, upd_eq]
theorem no_m {sp : Nat} {x : Int32} : f_Model_no v sp x = some (0, pu v 149 0 x) := rfl
theorem isIn_e {a lo hi : Int32} : f_Model_isIn a lo hi = some (decide (¬ a < lo ∧ ¬ hi < a)) := by
  unfold f_Model_isIn
  by_cases h1 : a < lo
  · rw [if_pos h1, decide_eq_false (fun q => q.1 h1)]
  · rw [if_neg h1]
    by_cases h2 : hi < a
    · rw [if_pos h2, decide_eq_false (fun q => q.2 h2)]
    · rw [if_neg h2, decide_eq_true ⟨h1, h2⟩]
theorem in_rng {a : Int32} {lo hi : Nat} (hh : hi ≤ 4000) (hl : lo ≤ 4000) (h1 : ¬ a < nI lo) (h2 : ¬ nI hi < a) : ∃ i, lo ≤ i ∧ i ≤ hi ∧ a = nI i := by
  rw [t_lt, ni_t (by omega)] at h1 h2
  exact ⟨a.toInt.toNat, by omega, by omega, t_inj (by rw [ni_t (by omega)]; omega)⟩
theorem in_m1 {a : Int32} {N : Nat} (hN : N ≤ 4000) : (¬ a < 0 ∧ ¬ nI N - 1 < a) ↔ (¬ a < 0 ∧ ¬ nI N ≤ a) := by
  rw [t_lt, t_lt, t_le, t_sub, ni_t hN, show (0 : Int32).toInt = 0 from rfl, show (1 : Int32).toInt = 1 from rfl]
  · omega
  · rw [ni_t hN, show (1 : Int32).toInt = 1 from rfl]; omega
  · rw [ni_t hN, show (1 : Int32).toInt = 1 from rfl]; omega
theorem isM_m (hP : PL v u sp S G M L O) {a : Int32} : f_Model_isMerchant u sp a = some (decide (¬ a < 0 ∧ ¬ nI M ≤ a)) := by
  have hB := hP.1
  unfold f_Model_isMerchant
  rw [isIn_e, ob, hP.2.2.1.2.2.1]
  congr 1
  exact decide_eq_decide.mpr (in_m1 (by omega))
theorem isL_m (hP : PL v u sp S G M L O) {a : Int32} : f_Model_isLot u sp a = some (decide (¬ a < 0 ∧ ¬ nI L ≤ a)) := by
  have hB := hP.1
  unfold f_Model_isLot
  rw [isIn_e, ob, hP.2.2.1.2.2.2.1]
  congr 1
  exact decide_eq_decide.mpr (in_m1 (by omega))
theorem isM_c (hP : PL v u sp S G M L O) {a : Int32} : f_Quay_isMerchant v a = some (decide (¬ a < 0 ∧ ¬ nI M ≤ a)) := by
  unfold f_Quay_isMerchant
  rw [hP.2.1.2.2.1]
  by_cases h1 : a < 0
  · rw [if_pos h1, decide_eq_false (fun q => q.1 h1)]
  · rw [if_neg h1]
    by_cases h2 : nI M ≤ a
    · rw [if_pos h2, decide_eq_false (fun q => q.2 h2)]
    · rw [if_neg h2, decide_eq_true ⟨h1, h2⟩]
theorem isL_c (hP : PL v u sp S G M L O) {a : Int32} : f_Quay_isLot v a = some (decide (¬ a < 0 ∧ ¬ nI L ≤ a)) := by
  unfold f_Quay_isLot
  rw [hP.2.1.2.2.2.1]
  by_cases h1 : a < 0
  · rw [if_pos h1, decide_eq_false (fun q => q.1 h1)]
  · rw [if_neg h1]
    by_cases h2 : nI L ≤ a
    · rw [if_pos h2, decide_eq_false (fun q => q.2 h2)]
    · rw [if_neg h2, decide_eq_true ⟨h1, h2⟩]
theorem areM_m (hP : PL v u sp S G M L O) {a b : Int32} : f_Model_areMerchants u sp a b = some (decide ((¬ a < 0 ∧ ¬ nI M ≤ a) ∧ (¬ b < 0 ∧ ¬ nI M ≤ b))) := by
  unfold f_Model_areMerchants
  rw [isM_m hP, isM_m hP, ob]
  by_cases h1 : ¬ a < 0 ∧ ¬ nI M ≤ a
  · rw [decide_eq_true h1, if_neg (by decide), ob]
    by_cases h2 : ¬ b < 0 ∧ ¬ nI M ≤ b
    · rw [decide_eq_true h2, if_neg (by decide), decide_eq_true ⟨h1, h2⟩]
    · rw [decide_eq_false h2, if_pos (by decide), decide_eq_false (fun q => h2 q.2)]
  · rw [decide_eq_false h1, if_pos (by decide), decide_eq_false (fun q => h1 q.1)]
/-! asking -/
theorem InvP.no (h : InvP z v sp S G M L O cs ct) {x : Int32} : Inv z (pu (pu v 149 0 0) 149 0 x) sp := ⟨S, G, M, L, O, cs, ct, h.same (Fm_th.tr Fm_th) (fun p a b => by unfold pu; rw [up_ne (by omega), up_ne (by omega)])⟩
theorem InvP.told (h : InvP z v sp S G M L O cs ct) : Inv z (pu v 149 0 0) sp := ⟨S, G, M, L, O, cs, ct, h.same Fm_th (fun p a b => by unfold pu; rw [up_ne (by omega)])⟩
theorem s_count (hz : 4000 < z) (h : Inv z v sp) (a : Int32) : SameR z v sp (f_Quay_count v a) (fun v => f_Model_count z v sp a) [(2, 1)] := by
  obtain ⟨S, G, M, L, O, cs, ct, h⟩ := h
  obtain ⟨m1, m2, m3, m4, m5⟩ := h.mid (v1 := v) (fun _ _ => rfl)
  unfold SameR
  unfold f_Quay_count f_Model_count
  simp only [bd, isIn_e, ob, qb]
  by_cases h1 : a < 0
  · rw [if_pos h1]
    refine Or.inr ⟨2, 1, 0, _, List.mem_cons_self, rfl, ?_, th0, h.no⟩
    rw [if_pos (decide_eq_false fun q => q.1 h1)]
    rfl
  · by_cases h2 : 13 < a
    · rw [if_neg h1, if_neg (fun q => absurd h2 (Int32.not_lt.mpr q))]
      refine Or.inr ⟨2, 1, 0, _, List.mem_cons_self, rfl, ?_, th0, h.no⟩
      rw [if_pos (decide_eq_false fun q => q.2 h2)]
      rfl
    · obtain ⟨w, -, hw, rfl⟩ := in_rng (a := a) (lo := 0) (hi := 13) (by omega) (by omega) h1 h2
      obtain ⟨x, c1, c2⟩ := counted_two m1 m3 m4 hz m5 hw
      rw [if_neg h1, if_pos (Int32.not_lt.mp h2), c1, ob]
      refine Or.inl ⟨x, pu v 149 0 0, rfl, ?_, th0, h.told⟩
      rw [if_neg (by rw [decide_eq_true ⟨h1, h2⟩]; decide), c2, ob]
theorem s_lot (h : Inv z v sp) (a b : Int32) : SameR z v sp (f_Quay_lot v a b) (fun v => f_Model_lot v sp a b) [(2, 1)] := by
  obtain ⟨S, G, M, L, O, cs, ct, h⟩ := h
  obtain ⟨m1, m2, m3, m4, m5⟩ := h.mid (v1 := v) (fun _ _ => rfl)
  have hB := m1.1
  unfold SameR
  unfold f_Quay_lot f_Model_lot j_Model_lot_32
  simp only [bd, isIn_e, isL_c m1, isL_m m1, ob, qb]
  by_cases h1 : ¬ a < 0 ∧ ¬ nI L ≤ a
  · obtain ⟨i, hi, rfl⟩ := i_nat (by omega) h1.1 h1.2
    rw [if_neg (by rw [decide_eq_true h1]; decide)]
    by_cases h2 : ¬ b < 0 ∧ ¬ 6 < b
    · obtain ⟨x, c1, c2⟩ := lot_two m1 m3 m4 hi b
      rw [if_neg h2.1, if_pos (Int32.not_lt.mp h2.2), c1, ob]
      refine Or.inl ⟨x, pu v 149 0 0, rfl, ?_, th0, h.told⟩
      rw [if_neg (by rw [decide_eq_true h1]; decide), if_neg (by rw [decide_eq_true h2]; decide), c2, ob]
    · refine Or.inr ⟨2, 1, 0, _, List.mem_cons_self, ?_, ?_, th0, h.no⟩
      · by_cases h3 : b < 0
        · rw [if_pos h3]
        · rw [if_neg h3, if_neg (fun q => h2 ⟨h3, Int32.not_lt.mpr q⟩)]
      · rw [if_neg (by rw [decide_eq_true h1]; decide), if_pos (decide_eq_false h2)]
        rfl
  · rw [if_pos (decide_eq_false h1)]
    refine Or.inr ⟨2, 1, 0, _, List.mem_cons_self, rfl, ?_, th0, h.no⟩
    rw [if_pos (decide_eq_false h1)]
    rfl
theorem s_merchant (hz : 4000 < z) (h : Inv z v sp) (a b : Int32) : SameR z v sp (f_Quay_merchant z v a b) (fun v => f_Model_merchant z v sp a b) [(2, 1)] := by
  obtain ⟨S, G, M, L, O, cs, ct, h⟩ := h
  obtain ⟨m1, m2, m3, m4, m5⟩ := h.mid (v1 := v) (fun _ _ => rfl)
  have hB := m1.1
  unfold SameR
  unfold f_Quay_merchant f_Model_merchant j_Model_merchant_31
  simp only [bd, isIn_e, isM_c m1, isM_m m1, ob, qb]
  by_cases h1 : ¬ a < 0 ∧ ¬ nI M ≤ a
  · obtain ⟨i, hi, rfl⟩ := i_nat (by omega) h1.1 h1.2
    rw [if_neg (by rw [decide_eq_true h1]; decide)]
    by_cases h2 : ¬ b < 0 ∧ ¬ 5 < b
    · obtain ⟨w, -, hw, rfl⟩ := in_rng (a := b) (lo := 0) (hi := 5) (by omega) (by omega) h2.1 h2.2
      obtain ⟨x, c1, c2⟩ := merchant_two m1 m3 m4 hz hi hw
      rw [if_neg h2.1, if_pos (Int32.not_lt.mp h2.2), c1, ob]
      refine Or.inl ⟨x, pu v 149 0 0, rfl, ?_, th0, h.told⟩
      rw [if_neg (by rw [decide_eq_true h1]; decide), if_neg (by rw [decide_eq_true h2]; decide), c2, ob]
    · refine Or.inr ⟨2, 1, 0, _, List.mem_cons_self, ?_, ?_, th0, h.no⟩
      · by_cases h3 : b < 0
        · rw [if_pos h3]
        · rw [if_neg h3, if_neg (fun q => h2 ⟨h3, Int32.not_lt.mpr q⟩)]
      · rw [if_neg (by rw [decide_eq_true h1]; decide), if_pos (decide_eq_false h2)]
        rfl
  · rw [if_pos (decide_eq_false h1)]
    refine Or.inr ⟨2, 1, 0, _, List.mem_cons_self, rfl, ?_, th0, h.no⟩
    rw [if_pos (decide_eq_false h1)]
    rfl
theorem s_guild (hz : 4000 < z) (h : Inv z v sp) (a b : Int32) : SameR z v sp (f_Quay_guild z v a b) (fun v => f_Model_guild z v sp a b) [(2, 1)] := by
  obtain ⟨S, G, M, L, O, cs, ct, h⟩ := h
  obtain ⟨m1, m2, m3, m4, m5⟩ := h.mid (v1 := v) (fun _ _ => rfl)
  have hB := m1.1
  unfold SameR
  unfold f_Quay_guild f_Model_guild j_Model_guild_40
  simp only [bd, isIn_e, ob, qb, m1.2.1.2.1, m1.2.2.1.2.1]
  by_cases h1 : ¬ a < 0 ∧ ¬ nI G ≤ a
  · obtain ⟨i, hi, rfl⟩ := i_nat (by omega) h1.1 h1.2
    rw [if_neg h1.1, if_neg h1.2]
    have h1' := (in_m1 (a := nI i) (N := G) (by omega)).mpr h1
    by_cases h2 : ¬ b < 0 ∧ ¬ 3 < b
    · obtain ⟨x, c1, c2⟩ := guild_two m1 m3 hz hi b
      rw [if_neg h2.1, if_pos (Int32.not_lt.mp h2.2), c1, ob]
      refine Or.inl ⟨x, pu v 149 0 0, rfl, ?_, th0, h.told⟩
      rw [if_neg (by rw [decide_eq_true h1']; decide), if_neg (by rw [decide_eq_true h2]; decide), c2, ob]
    · refine Or.inr ⟨2, 1, 0, _, List.mem_cons_self, ?_, ?_, th0, h.no⟩
      · by_cases h3 : b < 0
        · rw [if_pos h3]
        · rw [if_neg h3, if_neg (fun q => h2 ⟨h3, Int32.not_lt.mpr q⟩)]
      · rw [if_neg (by rw [decide_eq_true h1']; decide), if_pos (decide_eq_false h2)]
        rfl
  · have h1' : ¬ (¬ a < 0 ∧ ¬ nI G - 1 < a) := fun q => h1 ((in_m1 (by omega)).mp q)
    refine Or.inr ⟨2, 1, 0, _, List.mem_cons_self, ?_, ?_, th0, h.no⟩
    · by_cases h3 : a < 0
      · rw [if_pos h3]
      · rw [if_neg h3, if_pos (Classical.byContradiction fun q => h1 ⟨h3, q⟩)]
    · rw [if_pos (decide_eq_false h1')]
      rfl
theorem s_owes (h : Inv z v sp) (a b : Int32) : SameR z v sp (f_Quay_owes v a b) (fun v => f_Model_owes v sp a b) [(2, 1)] := by
  obtain ⟨S, G, M, L, O, cs, ct, h⟩ := h
  obtain ⟨m1, m2, m3, m4, m5⟩ := h.mid (v1 := v) (fun _ _ => rfl)
  have hB := m1.1
  unfold SameR
  unfold f_Quay_owes f_Model_owes
  simp only [bd, isM_c m1, areM_m m1, ob, qb]
  by_cases h1 : ¬ a < 0 ∧ ¬ nI M ≤ a
  · rw [if_neg (by rw [decide_eq_true h1]; decide)]
    by_cases h2 : ¬ b < 0 ∧ ¬ nI M ≤ b
    · rw [if_neg (by rw [decide_eq_true h2]; decide)]
      obtain ⟨i, hi, rfl⟩ := i_nat (by omega) h1.1 h1.2
      obtain ⟨j, hj, rfl⟩ := i_nat (by omega) h2.1 h2.2
      refine Or.inl ⟨(pu v 149 0 0) 180 (6 * i + j), pu v 149 0 0, ?_, ?_, th0, h.told⟩
      · have := m3.bet (a := i) (b := j) (by omega) (by omega)
        rw [show (110 : Nat) = 97 + 13 from rfl, this, ob]
      · rw [if_neg (by rw [decide_eq_true ⟨h1, h2⟩]; decide), owes_m (by omega) (by omega), ob]
    · refine Or.inr ⟨2, 1, 0, _, List.mem_cons_self, if_pos (decide_eq_false h2), ?_, th0, h.no⟩
      rw [if_pos (decide_eq_false fun q => h2 q.2)]
      rfl
  · refine Or.inr ⟨2, 1, 0, _, List.mem_cons_self, if_pos (decide_eq_false h1), ?_, th0, h.no⟩
    rw [if_pos (decide_eq_false fun q => h1 q.1)]
    rfl
theorem s_order (hz : 4000 < z) (h : Inv z v sp) (a b : Int32) : Same z v sp (f_Quay_order z v a b) (fun v => f_Model_order z v sp a b) [(2, 1)] := by
  obtain ⟨S, G, M, L, O, cs, ct, h⟩ := h
  obtain ⟨m1, m2, m3, m4, m5⟩ := h.mid (v1 := v) (fun _ _ => rfl)
  have hB := m1.1
  unfold Same
  unfold f_Quay_order f_Model_order j_Model_order_40
  simp only [bd, isIn_e, ob, qb, m1.2.1.2.2.2.2]
  by_cases h1 : ¬ a < 0 ∧ ¬ nI O ≤ a
  · obtain ⟨i, hi, rfl⟩ := i_nat (by omega) h1.1 h1.2
    rw [if_neg h1.1, if_neg h1.2]
    have h1' := (in_m1 (a := nI i) (N := O) (by omega)).mpr h1
    by_cases h2 : ¬ b < 0 ∧ ¬ 4 < b
    · obtain ⟨x, w, -, c1, -, c3, -⟩ := order_two m1 m2 m3 m4 h.1 hz hi b
      have hC : Fc v w := c3.fc.f (Or.inl rfl)
      obtain ⟨n1, n2, n3, n4, n5⟩ := h.mid hC
      obtain ⟨x', w', u', d1, d2, d3, d4⟩ := order_two n1 n2 n3 n4 h.1 hz hi b
      rw [c1] at d1
      obtain ⟨rfl, rfl⟩ := Prod.mk.inj (Option.some.inj d1)
      rw [if_neg h2.1, if_pos (Int32.not_lt.mp h2.2), c1, ob]
      have hU : ∀ p, p ≠ 149 → u' p = w p := fun p hp => by rw [d4.1 p hp]; unfold pu; rw [up_ne hp]
      refine Or.inl ⟨x, w, u', rfl, ?_, by rw [d4.2 0 (by omega) (by omega)]; exact th0, S, G, M, L, O, cs, ct, h.thought hC (Fm_th.tr (d4.fm.f (sn := 173) (Or.inl rfl))) (fun p a b => hU p (by omega)) (fun p a b c => c3 p (by omega) (by omega))⟩
      rw [n1.2.2.1.2.2.2.2, if_neg (by rw [decide_eq_true h1']; decide), if_neg (by rw [decide_eq_true h2]; decide), d2, ob]
    · refine Or.inr ⟨2, 1, 0, _, List.mem_cons_self, ?_, ?_, th0, h.no⟩
      · by_cases h3 : b < 0
        · rw [if_pos h3]
        · rw [if_neg h3, if_neg (fun q => h2 ⟨h3, Int32.not_lt.mpr q⟩)]
      · rw [m1.2.2.1.2.2.2.2, if_neg (by rw [decide_eq_true h1']; decide), if_pos (decide_eq_false h2)]
        rfl
  · have h1' : ¬ (¬ a < 0 ∧ ¬ nI O - 1 < a) := fun q => h1 ((in_m1 (by omega)).mp q)
    refine Or.inr ⟨2, 1, 0, _, List.mem_cons_self, ?_, ?_, th0, h.no⟩
    · by_cases h3 : a < 0
      · rw [if_pos h3]
      · rw [if_neg h3, if_pos (Classical.byContradiction fun q => h1 ⟨h3, q⟩)]
    · rw [m1.2.2.1.2.2.2.2, if_pos (decide_eq_false h1')]
      rfl
theorem s_chain (hz : 4000 < z) (h : Inv z v sp) (a b : Int32) : Same z v sp (f_Quay_chain z v a b) (fun v => f_Model_chain z v sp a b) [(2, 1)] := by
  obtain ⟨S, G, M, L, O, cs, ct, h⟩ := h
  obtain ⟨m1, m2, m3, m4, m5⟩ := h.mid (v1 := v) (fun _ _ => rfl)
  have hB := m1.1
  unfold Same
  unfold f_Quay_chain f_Model_chain
  simp only [bd, isM_c m1, ob, qb]
  by_cases h1 : ¬ a < 0 ∧ ¬ nI M ≤ a
  · rw [if_neg (by rw [decide_eq_true h1]; decide)]
    by_cases h2 : ¬ b < 0 ∧ ¬ nI M ≤ b
    · rw [if_neg (by rw [decide_eq_true h2]; decide)]
      obtain ⟨i, hi, rfl⟩ := i_nat (by omega) h1.1 h1.2
      obtain ⟨j, hj, rfl⟩ := i_nat (by omega) h2.1 h2.2
      obtain ⟨x, w, -, c1, -, c3, -⟩ := few_two m1 m3 m4 h.1 hz hi hj
      have hC : Fc v w := fun p hp => c3 p (by omega)
      obtain ⟨n1, n2, n3, n4, n5⟩ := h.mid hC
      obtain ⟨x', w', u', d1, d2, d3, d4⟩ := few_two n1 n3 n4 h.1 hz hi hj
      rw [c1] at d1
      obtain ⟨rfl, rfl⟩ := Prod.mk.inj (Option.some.inj d1)
      rw [c1, ob]
      have hU : ∀ p, p ≠ 149 → p ≠ 193 → u' p = w p := fun p hp hq => by rw [d4 p hq]; unfold pu; rw [up_ne hp]
      refine Or.inl ⟨x, w, u', rfl, ?_, by rw [d4 149 (by omega)]; exact th0, S, G, M, L, O, cs, ct, h.thought hC ⟨fun p a b => hU p a (by omega), fun j a b c => by rw [d4 149 (by omega)]; unfold pu; rw [up_eq, upd_ne a]⟩ (fun p a b => hU p (by omega) (by omega)) (fun p a b c => c3 p (by omega))⟩
      rw [areM_m n1, ob]
      rw [if_neg (by rw [decide_eq_true ⟨h1, h2⟩]; decide), fill_m (by omega) (by omega), ob]
      simp (disch := omega) only [gn, ni_c, if_false, pu, up_up, up_eq]
      exact d2
    · refine Or.inr ⟨2, 1, 0, _, List.mem_cons_self, if_pos (decide_eq_false h2), ?_, th0, h.no⟩
      rw [areM_m m1, ob]
      rw [if_pos (decide_eq_false fun q => h2 q.2)]
      rfl
  · refine Or.inr ⟨2, 1, 0, _, List.mem_cons_self, if_pos (decide_eq_false h1), ?_, th0, h.no⟩
    rw [areM_m m1, ob]
    rw [if_pos (decide_eq_false fun q => h1 q.1)]
    rfl
theorem s_ring (hz : 4000 < z) (h : Inv z v sp) (a : Int32) : Same z v sp (f_Quay_ring z v a) (fun v => f_Model_ring z v sp a) [(2, 1)] := by
  obtain ⟨S, G, M, L, O, cs, ct, h⟩ := h
  obtain ⟨m1, m2, m3, m4, m5⟩ := h.mid (v1 := v) (fun _ _ => rfl)
  have hB := m1.1
  unfold Same
  unfold f_Quay_ring f_Model_ring
  simp only [bd, isM_c m1, ob, qb]
  by_cases h1 : ¬ a < 0 ∧ ¬ nI M ≤ a
  · rw [if_neg (by rw [decide_eq_true h1]; decide)]
    obtain ⟨i, hi, rfl⟩ := i_nat (by omega) h1.1 h1.2
    obtain ⟨x, w, -, c1, -, c3, -⟩ := ring_two m1 m3 m4 h.1 hz hi
    have hC : Fc v w := fun p hp => c3 p (by omega)
    obtain ⟨n1, n2, n3, n4, n5⟩ := h.mid hC
    obtain ⟨x', w', u', d1, d2, d3, d4⟩ := ring_two n1 n3 n4 h.1 hz hi
    rw [c1] at d1
    obtain ⟨rfl, rfl⟩ := Prod.mk.inj (Option.some.inj d1)
    rw [c1, ob]
    have hU : ∀ p, p ≠ 149 → p ≠ 193 → u' p = w p := fun p hp hq => by rw [d4 p hq]; unfold pu; rw [up_ne hp]
    refine Or.inl ⟨x, w, u', rfl, ?_, by rw [d4 149 (by omega)]; exact th0, S, G, M, L, O, cs, ct, h.thought hC ⟨fun p a b => hU p a (by omega), fun j a b c => by rw [d4 149 (by omega)]; unfold pu; rw [up_eq, upd_ne a]⟩ (fun p a b => hU p (by omega) (by omega)) (fun p a b c => c3 p (by omega))⟩
    rw [isM_m n1, ob]
    rw [if_neg (by rw [decide_eq_true h1]; decide), fill_m (by omega) (by omega), ob]
    simp (disch := omega) only [gn, ni_c, if_false, pu, up_up, up_eq]
    exact d2
  · refine Or.inr ⟨2, 1, 0, _, List.mem_cons_self, if_pos (decide_eq_false h1), ?_, th0, h.no⟩
    rw [isM_m m1, ob]
    rw [if_pos (decide_eq_false h1)]
    rfl
end
