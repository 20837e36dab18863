/-! TOKENS: names and numbers say the same on both sides -/
section
variable {v v1 u u1 us : Va} {B : Nat → Nat} {nb a b l k k1 s z sp i j p q nt : Nat} {kn : Nat → Nat}
theorem same_m (h0 : nb ≤ 2000) (hT : ∀ i, i < nb → B i < 256 ∧ u 150 i = nI (B i)) (hi : i ≤ 400) (hj : j ≤ 400) (hz : 4000 < z) (i2 : u (k1 + 2) i = nI p) (i3 : u (k1 + 3) i = nI l) (j2 : u (k1 + 2) j = nI q) (j3 : u (k1 + 3) j = nI s) (hp : p + l ≤ nb) (hq : q + s ≤ nb) :
    ∃ r, f_Model_areSame z u sp k1 (nI i) (nI j) = some r ∧ (r = true ↔ l = s ∧ ∀ m, m < l → B (p + m) = B (q + m)) := by
  have hgi : ¬ (nI i < 0 ∨ 401 ≤ (nI i).toNatClampNeg) := gd2 (by omega) (by omega)
  have hgj : ¬ (nI j < 0 ∨ 401 ≤ (nI j).toNatClampNeg) := gd2 (by omega) (by omega)
  have hgi' : ¬ (nI i < 0 ∨ 401 ≤ i) := by rw [gn (by omega) (by omega)]; exact id
  have hgj' : ¬ (nI j < 0 ∨ 401 ≤ j) := by rw [gn (by omega) (by omega)]; exact id
  have ci : (nI i).toNatClampNeg = i := ni_c (by omega)
  have cj : (nI j).toNatClampNeg = j := ni_c (by omega)
  unfold f_Model_areSame j_Model_areSame_20
  rw [if_neg hgi, if_neg hgj, ci, cj, i3, j3]
  by_cases hls : l = s
  · subst hls
    rw [if_pos rfl]
    exact rp_inv (f := b_Model_areSame_25 u k1 (nI i) (nI j)) (fun n t => (t = (true, nI n) ∧ ∀ m, m < n → B (p + m) = B (q + m)) ∨ (t = (false, nI n) ∧ ∃ m, m < l ∧ B (p + m) ≠ B (q + m))) (fun r => r = true ↔ l = l ∧ ∀ m, m < l → B (p + m) = B (q + m)) l (fun K t ht => by
      rcases ht with ⟨e, ht⟩ | ⟨e, m, hm, ht⟩
      · subst e
        refine ⟨true, ?_, ⟨fun _ => ⟨rfl, ht⟩, fun _ => rfl⟩⟩
        unfold b_Model_areSame_25
        simp only
        rw [if_neg (show ¬ q_b true = 0 by decide), if_neg hgi, ci, i3, if_pos (by rw [le_n (by omega) (by omega)]; exact Nat.le_refl _)]
      · subst e
        refine ⟨false, ?_, ⟨fun h => (by cases h), fun h => absurd (h.2 m hm) ht⟩⟩
        unfold b_Model_areSame_25
        simp only
        rw [if_pos (show q_b false = 0 by decide)]) (fun K n t hn ht => by
      rcases ht with ⟨e, ht⟩ | ⟨e, m, hm, ht⟩
      · subst e
        refine Or.inl ?_
        have c1 : b_Model_areSame_25 u k1 (nI i) (nI j) K (true, nI n) = K (decide (B (p + n) = B (q + n)), nI (n + 1)) := by
          have hB1 := (hT (p + n) (by omega))
          have hB2 := (hT (q + n) (by omega))
          unfold b_Model_areSame_25 j_Model_areSame_77
          simp only
          rw [if_neg (show ¬ q_b true = 0 by decide), if_neg hgi, ci, i3, if_neg (by rw [le_n (by omega) (by omega)]; omega), if_neg hgi', i2, ni_add, if_neg (gd2 (by omega) (by omega)), if_neg hgj, cj, j2, ni_add, if_neg (gd2 (by omega) (by omega)), ni_c (by omega), ni_c (by omega), hB1.2, hB2.2, ni_s]
          by_cases hB : B (p + n) = B (q + n)
          · rw [if_pos (by rw [hB]), decide_eq_true hB]
          · rw [if_neg (by rw [eq_n (by omega) (by omega)]; exact hB), decide_eq_false hB]
        refine ⟨_, c1, ?_⟩
        by_cases hB : B (p + n) = B (q + n)
        · rw [decide_eq_true hB]
          refine Or.inl ⟨rfl, fun m hm => ?_⟩
          by_cases hmn : m = n
          · rw [hmn]; exact hB
          · exact ht m (by omega)
        · rw [decide_eq_false hB]
          exact Or.inr ⟨rfl, n, hn, hB⟩
      · subst e
        refine Or.inr ⟨false, ?_, ⟨fun h => (by cases h), fun h => absurd (h.2 m hm) ht⟩⟩
        unfold b_Model_areSame_25
        simp only
        rw [if_pos (show q_b false = 0 by decide)]) z 0 (true, 0) (Or.inl ⟨rfl, fun m hm => by omega⟩) (by omega) (by omega)
  · rw [if_neg (by rw [eq_n (by omega) (by omega)]; exact hls)]
    refine ⟨false, ?_, ⟨fun h => (by cases h), fun h => absurd h.1 hls⟩⟩
    obtain ⟨z, rfl⟩ : ∃ z', z = z' + 1 := ⟨z - 1, by omega⟩
    show b_Model_areSame_25 u k1 (nI i) (nI j) _ (false, 0) = _
    unfold b_Model_areSame_25
    simp only
    rw [if_pos (show q_b false = 0 by decide)]
theorem fnm_eq (h0 : nb ≤ 2000) (hi : i ≤ 400) (hj : j ≤ 400) (hp : p + l ≤ nb) (hq : q + s ≤ nb) (h : FNM v B i p l) (h2 : FNM v B j q s) : v 11 i = v 11 j ↔ l = s ∧ ∀ m, m < l → B (p + m) = B (q + m) := by
  obtain ⟨f, f1, f2, f3, f4, f5⟩ := h
  obtain ⟨g, g1, g2, g3, g4, g5⟩ := h2
  rw [f2, g2, eq_n (by omega) (by omega)]
  refine ⟨fun e => ?_, fun ⟨e, hB⟩ => ?_⟩
  · subst e
    obtain ⟨a1, x, a0, a2, a3⟩ := f4
    obtain ⟨b1, y, b0, b2, b3⟩ := g4
    rw [a1, eq_n (by omega) (by omega)] at b1
    subst b1
    rw [a2, eq_n (by omega) (by omega)] at b2
    subst b2
    exact ⟨rfl, fun m hm => (a3 m hm).symm.trans (b3 m hm)⟩
  · subst e
    have hS : ∀ x, SNm v B x p l ↔ SNm v B x q l := fun x =>
      ⟨fun ⟨a1, y, a0, a2, a3⟩ => ⟨a1, y, a0, a2, fun m hm => (a3 m hm).trans (hB m hm)⟩, fun ⟨a1, y, a0, a2, a3⟩ => ⟨a1, y, a0, a2, fun m hm => (a3 m hm).trans (hB m hm).symm⟩⟩
    by_cases h1 : f < g
    · exact absurd ((hS f).mp f4) (g5 f h1 f3)
    · by_cases h2 : g < f
      · exact absurd ((hS g).mpr g4) (f5 g h2 g3)
      · omega
/-- the kinds of the tokens, as numbers -/
def KN (v : Va) (i : Nat) : Nat := (v 5 i).toNatClampNeg
theorem KN_e {n : Nat} (h : v 5 i = nI n) (hn : n ≤ 50) : KN v i = n := by
  unfold KN; rw [h, ni_c (by omega)]
theorem tkn_v (h0 : nb ≤ 2000) (hz : 4000 < z) (hT : TBm u B nb) (hn : nt ≤ 400) (hA : ∀ i, i < nt → TOK v u k1 nb B i) : TKN v u (KN v) nt k1 z sp := by
  intro w e1 e2 e3
  have hw : ∀ i, i < nb → B i < 256 ∧ w 150 i = nI (B i) := fun i hi => by rw [e1]; exact hT.2.2 i hi
  refine ⟨fun a b ha hb ka kb => ?_, fun a ha ka => ?_⟩
  · obtain ⟨n, p, l, g1, g2, g3, g4, g5, g6, g7, g8, g9, g10⟩ := hA a ha
    obtain ⟨n', p', l', r1, r2, r3, r4, r5, r6, r7, r8, r9, r10⟩ := hA b hb
    rw [KN_e g1 (by omega)] at ka
    rw [KN_e r1 (by omega)] at kb
    obtain ⟨r, c1, c2⟩ := same_m (u := w) (sp := sp) (k1 := k1) (i := a) (j := b) h0 hw (by omega) (by omega) hz (by rw [e2]; exact g5) (by rw [e3]; exact g7) (by rw [e2]; exact r5) (by rw [e3]; exact r7) g8 r8
    rw [c1]
    have hiff := fnm_eq h0 (show a ≤ 400 by omega) (show b ≤ 400 by omega) g8 r8 (g9 ka) (r9 kb)
    cases r with
    | true => rw [decide_eq_true (hiff.mpr (c2.mp rfl))]
    | false => rw [decide_eq_false (fun q => absurd (c2.mpr (hiff.mp q)) (by decide))]
  · obtain ⟨n, p, l, g1, g2, g3, g4, g5, g6, g7, g8, g9, g10⟩ := hA a ha
    rw [KN_e g1 (by omega)] at ka
    obtain ⟨x1, x2⟩ := g10 ka
    refine ⟨?_, x2⟩
    rw [x1]
    exact num_m h0 hw g8 hz (by omega) (by rw [e2]; exact g5) (by rw [e3]; exact g7)
end
