/-! TOKENS: one token on both sides -/
/-- a token j with the same name as what stands at p, l long -/
def SNm (v : Va) (B : Nat → Nat) (j p l : Nat) : Prop := v 9 j = nI l ∧ ∃ q, q + l ≤ 2000 ∧ v 7 j = nI q ∧ ∀ m, m < l → B (q + m) = B (p + m)
def FNM (v : Va) (B : Nat → Nat) (i p l : Nat) : Prop := ∃ f, f ≤ i ∧ v 11 i = nI f ∧ v 5 f = 47 ∧ SNm v B f p l ∧ ∀ j, j < f → v 5 j = 47 → ¬ SNm v B j p l
def TOK (v u : Va) (k1 nb : Nat) (B : Nat → Nat) (i : Nat) : Prop := ∃ n p l, v 5 i = nI n ∧ n ≤ 48 ∧ u (k1 + 1) i = nI (kmap n) ∧ v 7 i = nI p ∧ u (k1 + 2) i = nI p ∧ v 9 i = nI l ∧ u (k1 + 3) i = nI l ∧ p + l ≤ nb ∧ (n = 47 → FNM v B i p l) ∧ (n = 48 → v 11 i = nv B p l ∧ ¬ v 11 i < 0)
def MU (u : Va) (k1 k : Nat) (x1 x2 x3 : Int32) : Va := pu (pu (pu u (k1 + 2) k x1) (k1 + 3) k x2) (k1 + 1) k x3
section
variable {v v1 u u1 : Va} {B : Nat → Nat} {nb a b l k k1 s z sp i p q : Nat} {x1 x2 x3 x4 : Int32}
theorem SNm.fr (e : v1 9 i = v 9 i ∧ v1 7 i = v 7 i) : SNm v1 B i p l = SNm v B i p l := by
  unfold SNm; rw [e.1, e.2]
theorem TOK.fr (h : TOK v u k1 nb B i) (hv : ∀ j, j ≤ i → v1 5 j = v 5 j ∧ v1 7 j = v 7 j ∧ v1 9 j = v 9 j ∧ v1 11 j = v 11 j) (hu : u1 (k1 + 1) i = u (k1 + 1) i ∧ u1 (k1 + 2) i = u (k1 + 2) i ∧ u1 (k1 + 3) i = u (k1 + 3) i) : TOK v1 u1 k1 nb B i := by
  obtain ⟨n, p, l, h1, h2, h3, h4, h5, h6, h7, h8, h9, h10⟩ := h
  obtain ⟨e1, e2, e3, e4⟩ := hv i (Nat.le_refl _)
  refine ⟨n, p, l, e1.trans h1, h2, hu.1.trans h3, e2.trans h4, hu.2.1.trans h5, e3.trans h6, hu.2.2.trans h7, h8, fun q => ?_, fun q => ?_⟩
  · obtain ⟨f, f1, f2, f3, f4, f5⟩ := h9 q
    refine ⟨f, f1, e4.trans f2, (hv f f1).1.trans f3, ?_, fun j hj hk => ?_⟩
    · rw [SNm.fr ⟨(hv f f1).2.2.1, (hv f f1).2.1⟩]; exact f4
    · rw [(hv j (by omega)).1] at hk
      rw [SNm.fr ⟨(hv j (by omega)).2.2.1, (hv j (by omega)).2.1⟩]; exact f5 j hj hk
  · rw [e4]; exact h10 q
theorem same_c (hT : TBc v B nb) (hp : p + s ≤ nb) (hq : q + s ≤ nb) (hz : 4000 < z) : ∃ r, f_Tokens_isSame z v (nI p) (nI q) (nI s) = some r ∧ (r = true ↔ ∀ m, m < s → B (p + m) = B (q + m)) := by
  have h0 := hT.1
  exact rp_inv (f := b_Tokens_isSame_3 v (nI p) (nI q) (nI s)) (fun i t => t = nI i ∧ ∀ m, m < i → B (p + m) = B (q + m)) (fun r => r = true ↔ ∀ m, m < s → B (p + m) = B (q + m)) s (fun K t ht => ⟨true, by
    unfold b_Tokens_isSame_3
    rw [ht.1, if_pos (by rw [le_n (by omega) (by omega)]; exact Nat.le_refl _)], ⟨fun _ => ht.2, fun _ => rfl⟩⟩) (fun K i t hi ht => by
    obtain ⟨e, ht⟩ := ht
    subst e
    have hB1 := (hT.2.2 (p + i) (by omega)).1
    have hB2 := (hT.2.2 (q + i) (by omega)).1
    unfold b_Tokens_isSame_3
    rw [if_neg (by rw [le_n (by omega) (by omega)]; omega), bd, bd, ni_add, ni_add, rt hT (by omega), rt hT (by omega), ni_s]
    by_cases hB : B (p + i) = B (q + i)
    · rw [if_pos (by rw [hB])]
      refine Or.inl ⟨_, rfl, rfl, fun m hm => ?_⟩
      by_cases hmi : m = i
      · rw [hmi]; exact hB
      · exact ht m (by omega)
    · rw [if_neg (by rw [eq_n (by omega) (by omega)]; exact hB)]
      exact Or.inr ⟨_, rfl, ⟨fun h => (by cases h), fun h => absurd (h i hi) hB⟩⟩) z 0 0 ⟨rfl, fun m hm => by omega⟩ (by omega) (by omega)
theorem first_c (hT : TBc v B nb) (hk : v 3 2 = nI k) (hk4 : k ≤ 400) (hA : ∀ i, i < k → TOK v u k1 nb B i) (ha : a + l ≤ nb) (hz : 4000 < z) :
    ∃ f, f ≤ k ∧ f_Tokens_firstWithName z v (nI a) (nI l) = some (nI f) ∧ (f < k → v 5 f = 47 ∧ SNm v B f a l) ∧ ∀ j, j < f → v 5 j = 47 → ¬ SNm v B j a l := by
  have h0 := hT.1
  obtain ⟨r, h1, f, h2, h3, h4, h5⟩ := rp_inv (f := b_Tokens_firstWithName_2 z v (nI a) (nI l)) (fun i t => t = nI i ∧ ∀ j, j < i → v 5 j = 47 → ¬ SNm v B j a l) (fun r => ∃ f, f ≤ k ∧ r = nI f ∧ (f < k → v 5 f = 47 ∧ SNm v B f a l) ∧ ∀ j, j < f → v 5 j = 47 → ¬ SNm v B j a l) k (fun K t ht => ⟨nI k, by
    unfold b_Tokens_firstWithName_2
    rw [ht.1, hk, if_pos (by rw [le_n (by omega) (by omega)]; exact Nat.le_refl _)], k, Nat.le_refl _, rfl, fun q => by omega, ht.2⟩) (fun K i t hi ht => by
    obtain ⟨e, ht⟩ := ht
    subst e
    obtain ⟨n, p, m, g1, g2, -, g4, -, g6, -, g8, -, -⟩ := hA i hi
    have nxt : (v 5 i = 47 → ¬ SNm v B i a l) → ∀ j, j < i + 1 → v 5 j = 47 → ¬ SNm v B j a l := fun hn j hj => by
      by_cases hji : j = i
      · rw [hji]; exact hn
      · exact ht j (by omega)
    unfold b_Tokens_firstWithName_2 j_Tokens_firstWithName_54
    rw [hk, if_neg (by rw [le_n (by omega) (by omega)]; omega), bd, bd, bd, rg (by omega) (by omega), rg (by omega) (by omega), rg (by omega) (by omega), ni_s]
    by_cases h47 : v 5 i = 47
    · rw [if_pos h47, g6]
      by_cases hm : m = l
      · subst hm
        obtain ⟨r, r1, r2⟩ := same_c (z := z) hT g8 ha hz
        rw [if_pos rfl, g4, r1, ob]
        cases r with
        | true =>
          rw [if_neg (by decide)]
          exact Or.inr ⟨_, rfl, i, by omega, rfl, fun _ => ⟨h47, g6, p, by omega, g4, r2.mp rfl⟩, ht⟩
        | false =>
          rw [if_pos (by decide)]
          refine Or.inl ⟨_, rfl, rfl, nxt fun _ q => ?_⟩
          obtain ⟨-, p', q0, q1, q2⟩ := q
          rw [g4, eq_n (by omega) (by omega)] at q1
          subst q1
          exact absurd (r2.mpr q2) (by decide)
      · rw [if_neg (by rw [eq_n (by omega) (by omega)]; exact hm)]
        refine Or.inl ⟨_, rfl, rfl, nxt fun _ q => hm ?_⟩
        have := q.1
        rw [g6, eq_n (by omega) (by omega)] at this; exact this
    · rw [if_neg h47]
      exact Or.inl ⟨_, rfl, rfl, nxt fun q => absurd q h47⟩) z 0 0 ⟨rfl, fun j hj => by omega⟩ (by omega) (by omega)
  subst h3
  exact ⟨f, h2, h1, h4, h5⟩
end
