/-! TOKENS: the tape's bytes on both sides, single letters, runs -/
def Lt (b : Nat) : Bool := decide (97 ≤ b ∧ b ≤ 122)
def Dg (b : Nat) : Bool := decide (48 ≤ b ∧ b ≤ 57)
def Bk (b : Nat) : Bool := decide (b = 32 ∨ b = 10)
/-- the class's tape, the reference's: nb bytes -/
def TBc (v : Va) (B : Nat → Nat) (nb : Nat) : Prop := nb ≤ 2000 ∧ v 3 1 = nI nb ∧ ∀ i, i < nb → B i < 256 ∧ v 2 i = nI (B i)
def TBm (u : Va) (B : Nat → Nat) (nb : Nat) : Prop := nb ≤ 2000 ∧ u 149 2 = nI nb ∧ ∀ i, i < nb → B i < 256 ∧ u 150 i = nI (B i)
/-- how far a run goes -/
def rn (P : Nat → Bool) : Nat → Nat → Nat
  | 0, i => i
  | n + 1, i => if P i = true then rn P n (i + 1) else i
section
variable {v u u1 : Va} {B : Nat → Nat} {nb at' b p q sp k1 z : Nat}
theorem rn_spec {P : Nat → Bool} : ∀ (n i : Nat), i ≤ rn P n i ∧ rn P n i ≤ i + n ∧ (∀ j, i ≤ j → j < rn P n i → P j = true) ∧ (rn P n i < i + n → P (rn P n i) = false)
  | 0, i => ⟨Nat.le_refl _, Nat.le_refl _, fun j a b => absurd (show j < i from b) (by omega), fun h => absurd (show i < i + 0 from h) (by omega)⟩
  | n + 1, i => by
    by_cases h : P i = true
    · have e : rn P (n + 1) i = rn P n (i + 1) := if_pos h
      obtain ⟨h1, h2, h3, h4⟩ := rn_spec (P := P) n (i + 1)
      rw [e]
      refine ⟨by omega, by omega, fun j a b => ?_, fun q => h4 (by omega)⟩
      by_cases hj : j = i
      · rw [hj]; exact h
      · exact h3 j (by omega) b
    · have e : rn P (n + 1) i = i := if_neg h
      rw [e]
      refine ⟨Nat.le_refl _, by omega, fun j a b => absurd b (by omega), fun _ => ?_⟩
      cases hP : P i with
      | true => exact absurd hP h
      | false => rfl
theorem let_c (hb : b ≤ 4000) : f_Tokens_isLetter (nI b) = some (Lt b) := by
  unfold f_Tokens_isLetter Lt
  rw [show (97 : Int32) = nI 97 from rfl, show (122 : Int32) = nI 122 from rfl]
  by_cases h1 : b < 97
  · rw [if_pos (by rw [lt_n hb (by omega)]; exact h1), decide_eq_false (by omega)]
  · rw [if_neg (by rw [lt_n hb (by omega)]; exact h1)]
    by_cases h2 : 122 < b
    · rw [if_pos (by rw [lt_n (by omega) hb]; exact h2), decide_eq_false (by omega)]
    · rw [if_neg (by rw [lt_n (by omega) hb]; exact h2), decide_eq_true (by omega)]
theorem let_m (hb : b ≤ 4000) : f_Model_isLetter (nI b) = some (Lt b) := let_c hb
theorem dig_c (hb : b ≤ 4000) : f_Tokens_isDigit (nI b) = some (Dg b) := by
  unfold f_Tokens_isDigit Dg
  rw [show (48 : Int32) = nI 48 from rfl, show (57 : Int32) = nI 57 from rfl]
  by_cases h1 : b < 48
  · rw [if_pos (by rw [lt_n hb (by omega)]; exact h1), decide_eq_false (by omega)]
  · rw [if_neg (by rw [lt_n hb (by omega)]; exact h1)]
    by_cases h2 : 57 < b
    · rw [if_pos (by rw [lt_n (by omega) hb]; exact h2), decide_eq_false (by omega)]
    · rw [if_neg (by rw [lt_n (by omega) hb]; exact h2), decide_eq_true (by omega)]
theorem dig_m (hb : b ≤ 4000) : f_Model_isDigit (nI b) = some (Dg b) := dig_c hb
theorem let_x : f_Model_isLetter (-1) = some false := by
  unfold f_Model_isLetter; rw [if_pos (by decide)]
theorem dig_x : f_Model_isDigit (-1) = some false := by
  unfold f_Model_isDigit; rw [if_pos (by decide)]
theorem rt (h : TBc v B nb) (hp : p < nb) : row_g 2000 (v 2) (nI p) = nI (B p) := by
  rw [rg (by have := h.1; omega) (by omega)]; exact (h.2.2 p hp).2
theorem by_m (h : TBm u B nb) (hp : p < nb) : f_Model_byteAt u sp (nI p) = some (nI (B p)) := by
  have h0 := h.1
  unfold f_Model_byteAt
  rw [h.2.1, if_neg (by rw [le_n (by omega) (by omega)]; omega), if_neg (gd2 (by omega) (by omega)), ni_c (by omega), (h.2.2 p hp).2]
theorem by_x (h : TBm u B nb) (hp : nb ≤ p) (hp2 : p ≤ 4000) : f_Model_byteAt u sp (nI p) = some (-1) := by
  have h0 := h.1
  unfold f_Model_byteAt
  rw [h.2.1, if_pos (by rw [le_n (by omega) (by omega)]; omega)]
theorem TBm.cong (h : TBm u B nb) (h2 : u1 149 2 = u 149 2) (h3 : u1 150 = u 150) : TBm u1 B nb := by
  obtain ⟨a, b, c⟩ := h
  refine ⟨a, h2.trans b, fun i hi => ?_⟩
  rw [h3]; exact c i hi
theorem TBc.cong {v1 : Va} (h : TBc v B nb) (h2 : v1 3 1 = v 3 1) (h3 : v1 2 = v 2) : TBc v1 B nb := by
  obtain ⟨a, b, c⟩ := h
  refine ⟨a, h2.trans b, fun i hi => ?_⟩
  rw [h3]; exact c i hi
theorem eqb (hb : b ≤ 4000) (c : Nat) (hc : c ≤ 4000) : (nI b = nI c) = (b = c) := eq_n hb hc
/-! blanks -/
def bkE (B : Nat → Nat) (nb p : Nat) : Nat := rn (fun i => Bk (B i)) (nb - p) p
theorem bk_c (h : TBc v B nb) (hp : p ≤ nb) (hz : 4000 < z) : f_Tokens_behindBlanks z v (nI p) = some (nI (bkE B nb p)) := by
  have h0 := h.1
  obtain ⟨r1, r2, r3, r4⟩ := rn_spec (P := fun i => Bk (B i)) (nb - p) p
  have hb : bkE B nb p = rn (fun i => Bk (B i)) (nb - p) p := rfl
  rw [← hb] at r1 r2 r3 r4
  unfold f_Tokens_behindBlanks
  have key := rp_go (f := b_Tokens_behindBlanks_2 v) (E := some (nI (bkE B nb p))) (fun j => nI (p + j)) (bkE B nb p - p) (fun K => ?_) (fun K j hj => ?_) (z := z) (by omega)
  · rw [Nat.add_zero] at key; exact key
  · rw [show p + (bkE B nb p - p) = bkE B nb p by omega]
    unfold b_Tokens_behindBlanks_2
    rw [h.2.1]
    by_cases he : nb ≤ bkE B nb p
    · rw [if_pos (by rw [le_n (by omega) (by omega)]; exact he)]
    · have hB := (h.2.2 (bkE B nb p) (by omega)).1
      have r5 : ¬ (B (bkE B nb p) = 32 ∨ B (bkE B nb p) = 10) := of_decide_eq_false (r4 (by omega))
      rw [if_neg (by rw [le_n (by omega) (by omega)]; exact he), bd, rt h (by omega), show (32 : Int32) = nI 32 from rfl, if_neg (by rw [eq_n (by omega) (by omega)]; omega), bd, show (10 : Int32) = nI 10 from rfl, if_neg (by rw [eq_n (by omega) (by omega)]; omega)]
  · have hB := (h.2.2 (p + j) (by omega)).1
    have r5 : B (p + j) = 32 ∨ B (p + j) = 10 := of_decide_eq_true (r3 (p + j) (by omega) (by omega))
    show b_Tokens_behindBlanks_2 v K (nI (p + j)) = K (nI (p + (j + 1)))
    unfold b_Tokens_behindBlanks_2 j_Tokens_behindBlanks_36
    rw [h.2.1, if_neg (by rw [le_n (by omega) (by omega)]; omega), bd, rt h (by omega), show (32 : Int32) = nI 32 from rfl, ni_s, show p + j + 1 = p + (j + 1) by omega]
    by_cases h32 : B (p + j) = 32
    · rw [if_pos (by rw [h32])]
    · rw [if_neg (by rw [eq_n (by omega) (by omega)]; exact h32), bd, show (10 : Int32) = nI 10 from rfl, if_pos (by rw [show B (p + j) = 10 by omega])]
theorem bk_m {K4 : (Int32 × Int32 × Va) → Option Va} {c : Int32 × Int32} (h : TBm u B nb) (hp : p ≤ nb) (hz : 4000 < z) : rp (b_Model_cut_11 z sp k1 K4 (c.1, c.2, u)) z (nI p) = b_Model_cut_11 z sp k1 K4 (c.1, c.2, u) (fun _ => none) (nI (bkE B nb p)) := by
  have h0 := h.1
  obtain ⟨r1, r2, r3, r4⟩ := rn_spec (P := fun i => Bk (B i)) (nb - p) p
  have hb : bkE B nb p = rn (fun i => Bk (B i)) (nb - p) p := rfl
  rw [← hb] at r1 r2 r3 r4
  have key := rp_go (f := b_Model_cut_11 z sp k1 K4 (c.1, c.2, u)) (E := b_Model_cut_11 z sp k1 K4 (c.1, c.2, u) (fun _ => none) (nI (bkE B nb p))) (fun j => nI (p + j)) (bkE B nb p - p) (fun K => ?_) (fun K j hj => ?_) (z := z) (by omega)
  · rw [Nat.add_zero] at key; exact key
  · rw [show p + (bkE B nb p - p) = bkE B nb p by omega]
    unfold b_Model_cut_11
    by_cases he : nb ≤ bkE B nb p
    · have n1 : ¬ (-1 : Int32) = 32 := by decide
      have n2 : ¬ (-1 : Int32) = 10 := by decide
      rw [by_x h he (by omega), ob, ob, ob, ob, if_neg n1, if_neg n2, if_neg n1, if_neg n2]
    · have hB := (h.2.2 (bkE B nb p) (by omega)).1
      have r5 : ¬ (B (bkE B nb p) = 32 ∨ B (bkE B nb p) = 10) := of_decide_eq_false (r4 (by omega))
      have n1 : ¬ nI (B (bkE B nb p)) = 32 := by rw [show (32 : Int32) = nI 32 from rfl, eq_n (by omega) (by omega)]; omega
      have n2 : ¬ nI (B (bkE B nb p)) = 10 := by rw [show (10 : Int32) = nI 10 from rfl, eq_n (by omega) (by omega)]; omega
      rw [by_m h (by omega), ob, ob, ob, ob, if_neg n1, if_neg n2, if_neg n1, if_neg n2]
  · have hB := (h.2.2 (p + j) (by omega)).1
    have r5 : B (p + j) = 32 ∨ B (p + j) = 10 := of_decide_eq_true (r3 (p + j) (by omega) (by omega))
    show b_Model_cut_11 z sp k1 K4 (c.1, c.2, u) K (nI (p + j)) = K (nI (p + (j + 1)))
    unfold b_Model_cut_11 j_Model_cut_31
    rw [by_m h (by omega), ob, show (32 : Int32) = nI 32 from rfl, ni_s, show p + j + 1 = p + (j + 1) by omega]
    by_cases h32 : B (p + j) = 32
    · rw [if_pos (by rw [h32])]
    · rw [if_neg (by rw [eq_n (by omega) (by omega)]; exact h32), ob, show (10 : Int32) = nI 10 from rfl, if_pos (by rw [show B (p + j) = 10 by omega])]
theorem bk_le (hp : p ≤ nb) : p ≤ bkE B nb p ∧ bkE B nb p ≤ nb := by
  obtain ⟨r1, r2, -, -⟩ := rn_spec (P := fun i => Bk (B i)) (nb - p) p
  exact ⟨r1, by have : bkE B nb p ≤ p + (nb - p) := r2; omega⟩
end
