/-! THE CLASS'S CHAIN -/
section
/-- owed by way of at most n debts -/
def lvl (E : Nat → Nat → Int32) (M a : Nat) : Nat → Nat → Prop
  | 0, c => c = a
  | n + 1, c => lvl E M a n c ∨ ∃ b, b < M ∧ lvl E M a n b ∧ 0 < E b c
def CHS (E : Nat → Nat → Int32) (M a b : Nat) (x : Int32) : Prop := (∃ n, n + 1 ≤ M ∧ x = nI n ∧ lvl E M a n b ∧ ∀ j, j < n → ¬ lvl E M a j b) ∨ (x = -1 ∧ ∀ j, j + 1 ≤ M → ¬ lvl E M a j b)
theorem lvl_mono {E : Nat → Nat → Int32} {M a c : Nat} {i : Nat} : ∀ j, lvl E M a i c → lvl E M a (i + j) c
  | 0, h => h
  | j + 1, h => Or.inl (lvl_mono j h)
theorem lvl_le {E : Nat → Nat → Int32} {M a c i j : Nat} (h : i ≤ j) (q : lvl E M a i c) : lvl E M a j c := by
  have := lvl_mono (j - i) q
  rwa [show i + (j - i) = j by omega] at this
theorem lvl_eq {E F : Nat → Nat → Int32} {M a : Nat} (ha : a < M) (h : ∀ b c, b < M → c < M → E b c = F b c) : ∀ n c, c < M → (lvl E M a n c ↔ lvl F M a n c)
  | 0, _, _ => Iff.rfl
  | n + 1, c, hc => by
    constructor
    · rintro (q | ⟨b, h1, h2, h3⟩)
      · exact Or.inl ((lvl_eq ha h n c hc).mp q)
      · exact Or.inr ⟨b, h1, (lvl_eq ha h n b h1).mp h2, by rw [← h b c h1 hc]; exact h3⟩
    · rintro (q | ⟨b, h1, h2, h3⟩)
      · exact Or.inl ((lvl_eq ha h n c hc).mpr q)
      · exact Or.inr ⟨b, h1, (lvl_eq ha h n b h1).mpr h2, by rw [h b c h1 hc]; exact h3⟩
theorem CHS.eq {E F : Nat → Nat → Int32} {M a b : Nat} {x : Int32} (ha : a < M) (hb : b < M) (h : ∀ b c, b < M → c < M → E b c = F b c) (q : CHS E M a b x) : CHS F M a b x := by
  rcases q with ⟨n, h1, h2, h3, h4⟩ | ⟨h1, h2⟩
  · exact Or.inl ⟨n, h1, h2, (lvl_eq ha h n b hb).mp h3, fun j hj q => h4 j hj ((lvl_eq ha h j b hb).mpr q)⟩
  · exact Or.inr ⟨h1, fun j hj q => h2 j hj ((lvl_eq ha h j b hb).mpr q)⟩
theorem CHS.one {E : Nat → Nat → Int32} {M a b : Nat} {x y : Int32} (hM : M ≤ 4000) (h : CHS E M a b x) (h' : CHS E M a b y) : x = y := by
  rcases h with ⟨n, h1, h2, h3, h4⟩ | ⟨h1, h2⟩ <;> rcases h' with ⟨k, g1, g2, g3, g4⟩ | ⟨g1, g2⟩
  · have : n = k := by
      rcases Nat.lt_trichotomy n k with q | q | q
      · exact absurd h3 (g4 n q)
      · exact q
      · exact absurd g3 (h4 k q)
    rw [h2, g2, this]
  · exact absurd h3 (g2 n h1)
  · exact absurd g3 (h2 k g1)
  · rw [h1, g1]
variable {v v1 u : Va} {sp S G M L O z a b c : Nat}
theorem few_m (hB : S ≤ 4 ∧ G ≤ 4 ∧ M ≤ 6 ∧ L ≤ 10 ∧ O ≤ 24) (hs : sp = 151 ∨ 194 ≤ sp) (hs11 : u sp 11 = nI M) (hz : 4000 < z) {a b : Nat} (ha : a < M) (hb : b < M) :
    rp (b_Model_chain_37 z sp (nI b)) z (0, up u 193 (upd (row_f 6 (u 193) (-1)) a 0)) = some (Rs (u 180) (upd (row_f 6 (u 193) (-1)) a 0) M (M - 1) b, up u 193 (Rs (u 180) (upd (row_f 6 (u 193) (-1)) a 0) M M)) := by
  have hi : ∀ f : Nat → Int32, RJ (upd (row_f 6 f (-1)) a 0) 6 0 := fun f c hc => by
    by_cases hq : c = a
    · subst hq; rw [upd_eq]; exact Or.inr ⟨0, Nat.le_refl _, rfl⟩
    · rw [upd_ne hq]; exact Or.inl (if_pos hc)
  have hJM : RJ (upd (row_f 6 (u 193) (-1)) a 0) M 0 := fun c hc => hi _ c (by omega)
  have hcnt : cntN (upd (row_f 6 (u 193) (-1)) a 0) M + 1 ≤ M := by
    have : ∀ n, a < n → cntN (upd (row_f 6 (u 193) (-1)) a 0) n + 1 ≤ n := by
      intro n hn
      induction n with
      | zero => omega
      | succ n ih =>
        show cntN _ n + _ + 1 ≤ n + 1
        by_cases hq : a = n
        · subst hq
          rw [if_neg (by rw [upd_eq]; decide)]
          have := cntN_n (r := upd (row_f 6 (u 193) (-1)) a 0) a
          omega
        · have := ih (by omega)
          split <;> omega
    exact this M ha
  have hst : ∀ i, i ≤ 6 → M ≤ i + 1 → Rs (u 180) (upd (row_f 6 (u 193) (-1)) a 0) M i = Rs (u 180) (upd (row_f 6 (u 193) (-1)) a 0) M (M - 1) := by
    intro i
    induction i with
    | zero => intro _ h; rw [show M - 1 = 0 by omega]
    | succ i ih =>
      intro h1 h2
      by_cases hq : M = i + 2
      · rw [show M - 1 = i + 1 by omega]
      · rw [Rs_stop hJM hcnt (by omega) (by omega)]
        exact ih (by omega) (by omega)
  rw [← hst M (by omega) (by omega)]
  have hh := rp_go (f := b_Model_chain_37 z sp (nI b)) (E := some (Rs (u 180) (upd (row_f 6 (u 193) (-1)) a 0) M M b, up u 193 (Rs (u 180) (upd (row_f 6 (u 193) (-1)) a 0) M M))) (fun i => (nI i, up u 193 (Rs (u 180) (upd (row_f 6 (u 193) (-1)) a 0) M i))) M (fun K => by
      unfold b_Model_chain_37
      simp (disch := omega) only [up_ne, hs11, gn, ni_c, if_false, up_eq]
      rw [if_pos (by rw [le_n (by omega) (by omega)]; exact Nat.le_refl _)]) (fun K i hiM => by
      unfold b_Model_chain_37
      simp (disch := omega) only [up_ne, hs11]
      rw [if_neg (by rw [le_n (by omega) (by omega)]; omega), reach_m hs hB.2.2.1 (by rw [up_ne (by omega)]; exact hs11) (by omega) hz, up_up, up_eq, up_ne (show (180 : Nat) ≠ 193 by omega)]
      rfl) (show M < z by omega)
  exact hh
theorem Rs_lvl {e r : Nat → Int32} (hM : M ≤ 6) (ha : a < M) (h0 : ∀ c, c < M → r c = if c = a then 0 else -1) : ∀ i, i ≤ 10 → ∀ c, c < M → (∃ j, j ≤ i ∧ Rs e r M i c = nI j ∧ lvl (fun b c => e (6 * b + c)) M a j c ∧ ∀ j', j' < j → ¬ lvl (fun b c => e (6 * b + c)) M a j' c) ∨ (Rs e r M i c = -1 ∧ ¬ lvl (fun b c => e (6 * b + c)) M a i c)
  | 0, _, c, hc => by
    show (∃ j, j ≤ 0 ∧ r c = nI j ∧ _) ∨ (r c = -1 ∧ _)
    rw [h0 c hc]
    by_cases hq : c = a
    · rw [if_pos hq]; exact Or.inl ⟨0, Nat.le_refl _, rfl, hq, fun j' hj => absurd hj (Nat.not_lt_zero _)⟩
    · rw [if_neg hq]; exact Or.inr ⟨rfl, hq⟩
  | i + 1, hi, c, hc => by
    have ih := Rs_lvl (e := e) hM ha h0 i (by omega)
    rcases ih c hc with ⟨j, h1, h2, h3, h4⟩ | ⟨h1, h2⟩
    · refine Or.inl ⟨j, by omega, ?_, h3, h4⟩
      rw [← h2]
      refine FrA_f fun ⟨_, q, _⟩ => ?_
      rw [h2, eq_m1 (by omega)] at q; exact q
    · by_cases hh : hitP e i (Rs e r M i) M 0 M c
      · refine Or.inl ⟨i + 1, Nat.le_refl _, FrA_t hh, ?_, fun j' hj q => h2 (lvl_le (by omega) q)⟩
        obtain ⟨-, -, d, hd, e1, e2⟩ := hh
        have hdM : d < M := by omega
        rcases ih d hdM with ⟨j, g1, g2, g3, g4⟩ | ⟨g1, g2⟩
        · rw [g2, eq_n (by omega) (by omega)] at e1
          subst e1
          exact Or.inr ⟨d, hdM, g3, Int32.not_le.mp e2⟩
        · rw [g1] at e1
          exact absurd e1.symm (fun q => by rw [eq_m1 (by omega)] at q; exact q)
      · refine Or.inr ⟨(FrA_f hh).trans h1, ?_⟩
        rintro (q | ⟨d, hd, q1, q2⟩)
        · exact h2 q
        · rcases ih d hd with ⟨j, g1, g2, g3, g4⟩ | ⟨g1, g2⟩
          · by_cases hj : j = i
            · subst hj
              exact hh ⟨hc, h1, d, Or.inl hd, g2, Int32.not_le.mpr q2⟩
            · exact h2 (lvl_le (show j + 1 ≤ i by omega) (Or.inr ⟨d, hd, g3, q2⟩))
          · exact g2 q1
theorem q_chain (h : QI z v u S G M L O) (hz : 4000 < z) (ha : a < M) (hb : b < M) : ∃ x v1, f_Quay_chain z v (nI a) (nI b) = some (.inl (x, v1)) ∧ QI z v1 u S G M L O ∧ CHS (fun b c => u 180 (6 * b + c)) M a b x := by
  have hM : M ≤ 6 := h.1.1.2.2.1
  obtain ⟨x, v1, u1, h1, h2, h3, h4⟩ := few_two h.1 h.2.2.1 h.2.2.2.1 (Or.inl rfl) hz ha hb
  rw [few_m h.1.1 (Or.inl rfl) h.1.2.2.1.2.2.1 hz ha hb] at h2
  have ex := congrArg Prod.fst (Option.some.inj h2)
  simp only at ex
  refine ⟨x, v1, ?_, h.keep (fun p _ hp => h3 p hp), ?_⟩
  · unfold f_Quay_chain
    rw [isM_c h.1, ob, isM_c h.1, ob]
    simp only [qb]
    rw [if_neg (ndM h ha), if_neg (ndM h hb), h1, ob]
  · have hr0 : ∀ c, c < M → upd (row_f 6 (u 193) (-1)) a 0 c = if c = a then 0 else -1 := fun c hc => by
      by_cases hq : c = a
      · subst hq; rw [upd_eq, if_pos rfl]
      · rw [upd_ne hq, if_neg hq]; exact if_pos (show c < 6 by omega)
    rcases Rs_lvl (e := u 180) hM ha hr0 (M - 1) (by omega) b hb with ⟨j, g1, g2, g3, g4⟩ | ⟨g1, g2⟩
    · exact Or.inl ⟨j, by omega, by rw [← ex, g2], g3, g4⟩
    · exact Or.inr ⟨by rw [← ex, g1], fun j hj q => g2 (lvl_le (by omega) q)⟩
end
