/-! TOKENS: lengths, numbers, signs -/
/-- a letter's or a digit's run behind its first byte -/
def Pr (B : Nat → Nat) (f : Bool) (i : Nat) : Bool := Dg (B i) || (f && Lt (B i))
def enE (B : Nat → Nat) (nb : Nat) (f : Bool) (a : Nat) : Nat := rn (Pr B f) (nb - (a + 1)) (a + 1)
def nv (B : Nat → Nat) (a : Nat) : Nat → Int32
  | 0 => 0
  | j + 1 => nv B a j * 10 + nI (B (a + j)) - 48
/-- a token is put behind the others -/
def AD (v : Va) (k : Nat) (x1 x2 x3 x4 : Int32) : Va := pu (pu (pu (pu (pu v 5 k x1) 7 k x2) 9 k x3) 11 k x4) 3 2 (nI (k + 1))
section
variable {v u : Va} {B : Nat → Nat} {nb a b l k s z sp : Nat} {f : Bool} {x1 x2 x3 x4 : Int32}
theorem en_sp (ha : a < nb) : a + 1 ≤ enE B nb f a ∧ enE B nb f a ≤ nb ∧ (∀ j, a + 1 ≤ j → j < enE B nb f a → Pr B f j = true) ∧ (enE B nb f a < nb → Pr B f (enE B nb f a) = false) := by
  obtain ⟨r1, r2, r3, r4⟩ := rn_spec (P := Pr B f) (nb - (a + 1)) (a + 1)
  have hb : enE B nb f a = rn (Pr B f) (nb - (a + 1)) (a + 1) := rfl
  rw [← hb] at r1 r2 r3 r4
  exact ⟨r1, by omega, r3, fun q => r4 (by omega)⟩
theorem add_c (h : v 3 2 = nI k) (hk : k ≤ 400) : f_Tokens_add v x1 x2 x3 x4 = some (AD v k x1 x2 x3 x4) := by
  have e1 : up v 5 (row_s 401 (v 5) (v 3 2) x1) = pu v 5 k x1 := by rw [h, rs (by omega) (by omega)]; rfl
  have e2 : up (pu v 5 k x1) 7 (row_s 401 ((pu v 5 k x1) 7) ((pu v 5 k x1) 3 2) x2) = pu (pu v 5 k x1) 7 k x2 := by
    rw [show (pu v 5 k x1) 3 2 = nI k from h, rs (by omega) (by omega)]; rfl
  have e3 : up (pu (pu v 5 k x1) 7 k x2) 9 (row_s 401 ((pu (pu v 5 k x1) 7 k x2) 9) ((pu (pu v 5 k x1) 7 k x2) 3 2) x3) = pu (pu (pu v 5 k x1) 7 k x2) 9 k x3 := by
    rw [show (pu (pu v 5 k x1) 7 k x2) 3 2 = nI k from h, rs (by omega) (by omega)]; rfl
  have e4 : up (pu (pu (pu v 5 k x1) 7 k x2) 9 k x3) 11 (row_s 401 ((pu (pu (pu v 5 k x1) 7 k x2) 9 k x3) 11) ((pu (pu (pu v 5 k x1) 7 k x2) 9 k x3) 3 2) x4) = pu (pu (pu (pu v 5 k x1) 7 k x2) 9 k x3) 11 k x4 := by
    rw [show (pu (pu (pu v 5 k x1) 7 k x2) 9 k x3) 3 2 = nI k from h, rs (by omega) (by omega)]; rfl
  unfold f_Tokens_add
  rw [bd, e1, bd, e2, bd, e3, bd, e4, bd, show (pu (pu (pu (pu v 5 k x1) 7 k x2) 9 k x3) 11 k x4) 3 2 = nI k from h, ni_s]
  rfl
theorem Pr_d {i : Nat} (h : Dg (B i) = true) : Pr B f i = true := by unfold Pr; rw [h]; rfl
theorem Pr_t {i : Nat} (h : Pr B true i = true) (hd : Dg (B i) = false) : Lt (B i) = true := by
  unfold Pr at h; rw [hd] at h; exact h
theorem Pr_f {i : Nat} : Pr B false i = Dg (B i) := by unfold Pr; cases Dg (B i) <;> rfl
theorem Pr_n {i : Nat} (h : Pr B true i = false) : Dg (B i) = false ∧ Lt (B i) = false := by
  unfold Pr at h
  cases hd : Dg (B i) <;> cases hl : Lt (B i) <;> rw [hd, hl] at h <;> first | exact ⟨rfl, rfl⟩ | exact absurd h (by decide)
theorem qb0 : (q_b false = 0) = True := eq_true (by decide)
theorem qb1 : (q_b true = 0) = False := eq_false (by decide)
theorem len_run (hT : TBm u B nb) (ha : a < nb) (hz : 4000 < z) (hf : Lt (B a) = f) : j_Model_lengthAt_24 z u sp (nI a) (nI (B a)) = some (nI (enE B nb f a - a)) := by
  have h0 := hT.1
  obtain ⟨r1, r2, r3, r4⟩ := en_sp (B := B) (f := f) ha
  have hBa := (hT.2.2 a ha).1
  unfold j_Model_lengthAt_24
  rw [ni_s]
  have key := rp_go (f := b_Model_lengthAt_24 u sp (nI a) (nI (B a))) (E := some (nI (enE B nb f a - a))) (fun j => nI (a + 1 + j)) (enE B nb f a - (a + 1)) (fun K => by
    rw [show a + 1 + (enE B nb f a - (a + 1)) = enE B nb f a by omega]
    have hsub : nI (enE B nb f a) - nI a = nI (enE B nb f a - a) := by
      have := ni_sbl a (enE B nb f a - a)
      rw [show a + (enE B nb f a - a) = enE B nb f a by omega] at this
      exact this
    unfold b_Model_lengthAt_24
    by_cases he : nb ≤ enE B nb f a
    · rw [by_x hT he (by omega), ob, dig_x, ob, if_pos (by decide), let_m (by omega), ob, hf]
      cases f with
      | false => rw [if_pos (by decide), hsub]
      | true => rw [if_neg (by decide), ob, let_x, ob, if_pos (by decide), hsub]
    · have hBe := (hT.2.2 (enE B nb f a) (by omega)).1
      have hP := r4 (by omega)
      rw [by_m hT (by omega), ob, dig_m (by omega), ob]
      cases f with
      | false =>
        rw [Pr_f] at hP
        rw [hP, if_pos (by decide), let_m (by omega), ob, hf, if_pos (by decide), hsub]
      | true =>
        obtain ⟨p1, p2⟩ := Pr_n hP
        rw [p1, if_pos (by decide), let_m (by omega), ob, hf, if_neg (by decide), ob, let_m (by omega), ob, p2, if_pos (by decide), hsub]) (fun K j hj => by
    have hBe := (hT.2.2 (a + 1 + j) (by omega)).1
    have hP := r3 (a + 1 + j) (by omega) (by omega)
    show b_Model_lengthAt_24 u sp (nI a) (nI (B a)) K (nI (a + 1 + j)) = K (nI (a + 1 + (j + 1)))
    unfold b_Model_lengthAt_24 j_Model_lengthAt_53
    rw [by_m hT (by omega), ob, dig_m (by omega), ob, ni_s, show a + 1 + j + 1 = a + 1 + (j + 1) by omega]
    cases hd : Dg (B (a + 1 + j)) with
    | true => rw [if_neg (by decide)]
    | false =>
      rw [if_pos (by decide), let_m (by omega), ob, hf]
      cases f with
      | false => rw [Pr_f, hd] at hP; exact absurd hP (by decide)
      | true => rw [if_neg (by decide), ob, let_m (by omega), ob, Pr_t hP hd, if_neg (by decide)]) (z := z) (by omega)
  rw [Nat.add_zero] at key
  exact key
theorem len_w (hT : TBm u B nb) (ha : a < nb) (hz : 4000 < z) (h : Lt (B a) = true) : f_Model_lengthAt z u sp (nI a) = some (nI (enE B nb true a - a)) := by
  have hBa := (hT.2.2 a ha).1
  unfold f_Model_lengthAt
  rw [by_m hT ha, ob, let_m (by omega), ob, h, if_neg (by decide), len_run hT ha hz h]
theorem len_d (hT : TBm u B nb) (ha : a < nb) (hz : 4000 < z) (h : Lt (B a) = false) (hd : Dg (B a) = true) : f_Model_lengthAt z u sp (nI a) = some (nI (enE B nb false a - a)) := by
  have hBa := (hT.2.2 a ha).1
  unfold f_Model_lengthAt
  rw [by_m hT ha, ob, let_m (by omega), ob, h, if_pos (by decide), dig_m (by omega), ob, hd, if_neg (by decide), len_run hT ha hz h]
def two (B : Nat → Nat) (nb a : Nat) : Bool := decide ((B a = 60 ∨ B a = 62) ∧ a + 1 < nb ∧ B (a + 1) = 61)
theorem len_s1 (hT : TBm u B nb) (ha : a < nb) (h : Lt (B a) = false) (hd : Dg (B a) = false) : f_Model_lengthAt z u sp (nI a) = some (nI (if two B nb a = true then 2 else 1)) := by
  have h0 := hT.1
  have hBa := (hT.2.2 a ha).1
  have e1 : nI a + 1 - nI a = nI 1 := by rw [ni_s]; exact ni_sbl a 1
  have e2 : nI a + 1 + 1 - nI a = nI 2 := by rw [ni_s, ni_s]; exact ni_sbl a 2
  have h71 : (B a = 60 ∨ B a = 62) → j_Model_lengthAt_71 u sp (nI a) = some (nI (if two B nb a = true then 2 else 1)) := fun hB => by
    unfold j_Model_lengthAt_71
    rw [ni_s, ← ni_s, e1, e2, ni_s]
    by_cases he : a + 1 < nb
    · have hBe := (hT.2.2 (a + 1) he).1
      rw [by_m hT he, ob, show (61 : Int32) = nI 61 from rfl]
      by_cases h61 : B (a + 1) = 61
      · rw [if_pos (by rw [h61]), if_pos (show two B nb a = true from decide_eq_true ⟨hB, he, h61⟩)]
      · rw [if_neg (by rw [eq_n (by omega) (by omega)]; exact h61), if_neg (fun q => h61 (of_decide_eq_true q).2.2)]
    · rw [by_x hT (by omega) (by omega), ob, if_neg (by decide), if_neg (fun q => he (of_decide_eq_true q).2.1)]
  unfold f_Model_lengthAt
  rw [by_m hT ha, ob, let_m (by omega), ob, h, if_pos (by decide), dig_m (by omega), ob, hd, if_pos (by decide), show (60 : Int32) = nI 60 from rfl, show (62 : Int32) = nI 62 from rfl]
  by_cases h60 : B a = 60
  · rw [if_pos (by rw [h60]), h71 (Or.inl h60)]
  rw [if_neg (by rw [eq_n (by omega) (by omega)]; exact h60)]
  by_cases h62 : B a = 62
  · rw [if_pos (by rw [h62]), h71 (Or.inr h62)]
  rw [if_neg (by rw [eq_n (by omega) (by omega)]; exact h62), if_neg (fun q => (of_decide_eq_true q).1.elim h60 h62), e1]
/-! numbers -/
theorem nv_b : ∀ j, j ≤ 6 → (∀ i, i < j → Dg (B (a + i)) = true) → 0 ≤ (nv B a j).toInt ∧ (nv B a j).toInt < (10 : Int) ^ j
  | 0, _, _ => ⟨Int.le_refl 0, show (0 : Int) < 1 by decide⟩
  | j + 1, hj, h => by
    obtain ⟨h1, h2⟩ := nv_b j (by omega) (fun i hi => h i (by omega))
    have hd : 48 ≤ B (a + j) ∧ B (a + j) ≤ 57 := of_decide_eq_true (h j (by omega))
    have hp : (10 : Int) ^ j ≤ 100000 := by
      have : j = 0 ∨ j = 1 ∨ j = 2 ∨ j = 3 ∨ j = 4 ∨ j = 5 := by omega
      rcases this with rfl | rfl | rfl | rfl | rfl | rfl <;> decide
    have e10 : (10 : Int32).toInt = 10 := rfl
    have e48 : (48 : Int32).toInt = 48 := rfl
    have m1 : (nv B a j * 10).toInt = (nv B a j).toInt * 10 := by
      have := t_mul (a := nv B a j) (b := 10) (by rw [e10]; omega) (by rw [e10]; omega)
      rw [e10] at this; exact this
    have m2 : (nv B a j * 10 + nI (B (a + j))).toInt = (nv B a j).toInt * 10 + (B (a + j) : Int) := by
      have := t_add (a := nv B a j * 10) (b := nI (B (a + j))) (by rw [m1, ni_t (by omega)]; omega) (by rw [m1, ni_t (by omega)]; omega)
      rw [m1, ni_t (by omega)] at this; exact this
    have m3 : (nv B a (j + 1)).toInt = (nv B a j).toInt * 10 + (B (a + j) : Int) - 48 := by
      have := t_sub (a := nv B a j * 10 + nI (B (a + j))) (b := 48) (by rw [m2, e48]; omega) (by rw [m2, e48]; omega)
      rw [m2, e48] at this; exact this
    rw [m3]
    have hs : (10 : Int) ^ (j + 1) = (10 : Int) ^ j * 10 := rfl
    rw [hs]
    omega
theorem num_m (h0 : nb ≤ 2000) (hT : ∀ i, i < nb → B i < 256 ∧ u 150 i = nI (B i)) (ha : a + l ≤ nb) (hz : 4000 < z) {k1 i : Nat} (hi : i ≤ 400) (h2 : u (k1 + 2) i = nI a) (h3 : u (k1 + 3) i = nI l) : f_Model_number z u sp k1 (nI i) = some (nv B a l) := by
  have hgn : ¬ (nI i < 0 ∨ 401 ≤ i) := by rw [gn (by omega) (by omega)]; exact id
  unfold f_Model_number
  refine rp_go (f := b_Model_number_5 u k1 (nI i)) (fun j => (nv B a j, nI j)) l (fun K => ?_) (fun K j hj => ?_) (by omega)
  · unfold b_Model_number_5
    simp only
    rw [if_neg (gd2 (by omega) (by omega)), ni_c (by omega), h3, if_pos (by rw [le_n (by omega) (by omega)]; exact Nat.le_refl _)]
  · show b_Model_number_5 u k1 (nI i) K (nv B a j, nI j) = K (nv B a (j + 1), nI (j + 1))
    unfold b_Model_number_5
    simp only
    rw [if_neg (gd2 (by omega) (by omega)), ni_c (by omega), h3, if_neg (by rw [le_n (by omega) (by omega)]; omega), if_neg hgn, h2, ni_add, if_neg (gd2 (by omega) (by omega)), ni_c (by omega), (hT _ (by omega)).2, ni_s, Int32.mul_comm 10]
    rfl
theorem num_c (hT : TBc v B nb) (ha : a < nb) (hk : v 3 2 = nI k) (hk4 : k ≤ 400) (hz : 4000 < z) (hd : Dg (B a) = true) : f_Tokens_readsNumber z v (nI a) = if enE B nb false a - a ≤ 6 then some (true, AD v k 48 (nI a) (nI (enE B nb false a - a)) (nv B a (enE B nb false a - a))) else some (false, v) := by
  have h0 := hT.1
  obtain ⟨r1, r2, r3, r4⟩ := en_sp (B := B) (f := false) ha
  have he : a + (enE B nb false a - a) = enE B nb false a := by omega
  have hsub : nI (enE B nb false a) - nI a = nI (enE B nb false a - a) := by
    have := ni_sbl a (enE B nb false a - a)
    rw [he] at this
    exact this
  have h49 : j_Tokens_readsNumber_49 v (nI a) (nI (enE B nb false a), nv B a (enE B nb false a - a)) = if enE B nb false a - a ≤ 6 then some (true, AD v k 48 (nI a) (nI (enE B nb false a - a)) (nv B a (enE B nb false a - a))) else some (false, v) := by
    unfold j_Tokens_readsNumber_49
    simp only
    rw [hsub, show (6 : Int32) = nI 6 from rfl]
    by_cases h6 : enE B nb false a - a ≤ 6
    · rw [if_pos h6, if_pos (by rw [le_n (by omega) (by omega)]; exact h6), add_c hk hk4, ob]
    · rw [if_neg h6, if_neg (by rw [le_n (by omega) (by omega)]; exact h6)]
  unfold f_Tokens_readsNumber
  have key := rp_go (f := b_Tokens_readsNumber_4 v (nI a)) (E := if enE B nb false a - a ≤ 6 then some (true, AD v k 48 (nI a) (nI (enE B nb false a - a)) (nv B a (enE B nb false a - a))) else some (false, v)) (fun j => (nI (a + j), nv B a j)) (enE B nb false a - a) (fun K => by
    rw [he]
    unfold b_Tokens_readsNumber_4
    simp only
    rw [hT.2.1]
    by_cases hx : nb ≤ enE B nb false a
    · rw [if_pos (by rw [le_n (by omega) (by omega)]; exact hx)]; exact h49
    · have hB := (hT.2.2 (enE B nb false a) (by omega)).1
      have hP := r4 (by omega)
      rw [Pr_f] at hP
      rw [if_neg (by rw [le_n (by omega) (by omega)]; exact hx), bd, rt hT (by omega), dig_c (by omega), ob, hP, if_pos (by decide)]; exact h49) (fun K j hj => by
    have hB := (hT.2.2 (a + j) (by omega)).1
    have hD : Dg (B (a + j)) = true := by
      by_cases h0 : j = 0
      · subst h0; exact hd
      · have := r3 (a + j) (by omega) (by omega)
        rw [Pr_f] at this; exact this
    show b_Tokens_readsNumber_4 v (nI a) K (nI (a + j), nv B a j) = K (nI (a + (j + 1)), nv B a (j + 1))
    unfold b_Tokens_readsNumber_4
    simp only
    rw [hT.2.1, if_neg (by rw [le_n (by omega) (by omega)]; omega), bd, rt hT (by omega), dig_c (by omega), ob, hD, if_neg (by decide), bd, ni_s, show a + j + 1 = a + (j + 1) by omega]
    rfl) (z := z) (by omega)
  rw [Nat.add_zero] at key
  exact key
/-! signs -/
theorem idx_s (hb : b < 256) (hz : 4000 < z) : ∃ r, (∀ v : Va, f_Str_indexOf_0f7a4 z v litX10_77 (nI b) = some r) ∧ (r = -1 ∨ ∃ j, j < 13 ∧ r = nI j) ∧ ((b = 60 ∨ b = 62) → r ≠ -1) := by
  have hlen : litX10_77.length = 13 := rfl
  obtain ⟨r, h1, h2⟩ := rp_inv (f := b_SL1_indexOfChar_4cfef_7 litX10_77 (nI b) 13) (fun i s => s = nI i ∧ ∀ j, j < i → litX10_77.getD j 0 ≠ (nI b).toInt8.toInt32) (fun r => (r = -1 ∧ ∀ j, j < 13 → litX10_77.getD j 0 ≠ (nI b).toInt8.toInt32) ∨ ∃ j, j < 13 ∧ r = nI j) 13 (fun K s hs => ⟨-1, by
      unfold b_SL1_indexOfChar_4cfef_7
      rw [hs.1, if_pos (by decide)], Or.inl ⟨rfl, hs.2⟩⟩) (fun K i s hi hs => by
      obtain ⟨e, hs⟩ := hs
      subst e
      unfold b_SL1_indexOfChar_4cfef_7
      rw [show (13 : Int32) = nI 13 from rfl, if_neg (by rw [le_n (by omega) (by omega)]; omega), hlen, if_neg (gd2 hi (by omega)), ni_c (by omega)]
      by_cases q : litX10_77.getD i 0 = (nI b).toInt8.toInt32
      · rw [if_pos q]
        exact Or.inr ⟨_, rfl, Or.inr ⟨i, hi, rfl⟩⟩
      · rw [if_neg q]
        refine Or.inl ⟨_, rfl, ni_s i, fun j hj => ?_⟩
        by_cases hj2 : j = i
        · rw [hj2]; exact q
        · exact hs j (by omega)) z 0 0 ⟨rfl, fun j hj => by omega⟩ (by omega) (by omega)
  refine ⟨r, fun v => ?_, ?_, fun h60 hr => ?_⟩
  · unfold f_Str_indexOf_0f7a4 f_Str_indexOf_7cf53 f_Str_isLatin1_aae02
    rw [if_neg (by decide), if_pos rfl, ob, if_neg (by decide), len_s, ob]
    unfold f_SL1_indexOf_4cfef f_SL1_canEncode_9a6ad
    rw [if_neg (ni_0 (by omega)), show (255 : Int32) = nI 255 from rfl, if_neg (by rw [lt_n (by omega) (by omega)]; omega), ob, if_neg (by decide), hlen, if_pos (by decide)]
    unfold f_SL1_indexOfChar_4cfef
    rw [show q_max 0 0 = 0 by decide, show q_min (nI 13) (nI 13) = 13 by decide, h1]
    rfl
  · rcases h2 with h | h
    · exact Or.inl h.1
    · exact Or.inr h
  · rcases h2 with h | ⟨j, hj, e⟩
    · rcases h60 with rfl | rfl
      · exact h.2 10 (by omega) (by decide)
      · exact h.2 11 (by omega) (by decide)
    · rw [e, eq_m1 (by omega)] at hr; exact hr
theorem chr_n : ∀ b : Fin 256, ((nI b.val).toUInt32 % 65536).toInt32 = nI b.val := by decide +kernel
end
