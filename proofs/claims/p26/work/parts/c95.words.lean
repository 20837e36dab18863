/-! THE SCANNER: words -/
def kwB : List (List Int32) := [[115, 112, 105, 99, 101], [108, 111, 115, 115], [103, 117, 105, 108, 100], [102, 101, 101], [98, 105, 97, 115], [109, 101, 114, 99, 104, 97, 110, 116], [99, 111, 105, 110, 115], [99, 114, 101, 100, 105, 116], [108, 111, 116], [111, 102], [115, 97, 99, 107, 115], [102, 111, 114], [119, 101, 105, 103, 104], [98, 121], [115, 101, 108, 108], [116, 111], [112, 97, 121], [115, 117, 109], [119, 104, 101, 110], [100, 97, 121], [100, 97, 109, 112], [119, 101, 105, 103, 104, 116], [99, 104, 111, 112], [97, 103, 101], [100, 101, 98, 116, 115], [111, 119, 101, 115], [111, 119, 110, 115], [110, 111, 116], [97, 110, 100], [111, 114], [109, 105, 110], [109, 97, 120]]
def stW (w : List Int32) : Va := fun _ i => w.getD i 0
theorem kw_tab : ∀ i : Fin 32, f_Tokens_keyword 4001 (stW (kwB.getD i.val [])) 0 (nI (kwB.getD i.val []).length) = some (nI i.val) := by decide +kernel
theorem kw_name : ∀ c ∈ ([115, 103, 109, 108] : List Int32), ∀ d : Fin 10, f_Tokens_keyword 4001 (stW [c, nI (48 + d.val)]) 0 (nI 2) = some 47 := by decide +kernel
theorem rp_oneX {σ ρ : Type} {f : (σ → Option ρ) → σ → Option ρ} (I : Nat → σ → Prop) (E : Option ρ → Prop) (N : Nat) (stop : ∀ K s, I N s → E (f K s)) (step : ∀ K i s, i < N → I i s → (∃ s', f K s = K s' ∧ I (i + 1) s') ∨ E (f K s)) :
    ∀ (fu i : Nat) (s : σ), I i s → i ≤ N → N - i < fu → E (rp f fu s)
  | 0, _, _, _, _, h => by omega
  | fu + 1, i, s, hI, h1, h2 => by
    by_cases hi : i = N
    · subst hi; exact stop _ s hI
    · rcases step (rp f fu) i s (by omega) hI with ⟨s', e, hI'⟩ | h
      · show E (f (rp f fu) s)
        rw [e]; exact rp_oneX I E N stop step fu (i + 1) s' hI' (by omega) (by omega)
      · exact h
section
variable {v v0 v1 w u : Va} {m p l n z i k a b : Nat} {y : Int32}
theorem sp_move {st : Int32} {ww : List Int32} (hw : ∀ i, i < l → v 2 (p + i) = ww.getD i 0) (hp : p + l ≤ 1990) (hz : 4000 < z) : f_Tokens_spells z v st (nI p) (nI l) = f_Tokens_spells z (stW ww) st 0 (nI l) := by
  unfold f_Tokens_spells
  refine rp_twoE (f := b_Tokens_spells_3 v st (nI p) (nI l)) (g := b_Tokens_spells_3 (stW ww) st 0 (nI l)) (fun i s t => s = nI i ∧ t = nI i) (fun a b => a = b) l ?_ ?_ z z 0 0 0 ⟨rfl, rfl⟩ (by omega) (by omega) (by omega)
  · intro K L s t ⟨h1, h2⟩
    subst h1 h2
    unfold b_Tokens_spells_3
    rw [if_pos (Int32.le_refl _), if_pos (Int32.le_refl _)]
  · intro K L i s t hi ⟨h1, h2⟩
    subst h1 h2
    unfold b_Tokens_spells_3
    rw [if_neg (by rw [le_n (by omega) (by omega)]; omega), if_neg (by rw [le_n (by omega) (by omega)]; omega)]
    have e1 : f_Str_length_8abf5 (stW ww) litX10_84 = f_Str_length_8abf5 v litX10_84 := rfl
    have e2 : f_Str_charAt_5068e (stW ww) litX10_84 (st + nI i) = f_Str_charAt_5068e v litX10_84 (st + nI i) := rfl
    have e3 : row_g 2000 (v 2) (nI p + nI i) = ww.getD i 0 := by rw [ni_add, rg (by omega) (by omega)]; exact hw i hi
    have e4 : row_g 2000 (stW ww 2) (0 + nI i) = ww.getD i 0 := by rw [Int32.zero_add, rg (by omega) (by omega)]; rfl
    rw [e1, e2, e3, e4]
    cases f_Str_length_8abf5 v litX10_84 with
    | none => exact Or.inr rfl
    | some q =>
      rw [ob, ob]
      by_cases h3 : q ≤ st + nI i
      · rw [if_pos h3, if_pos h3]; exact Or.inr rfl
      · rw [if_neg h3, if_neg h3]
        cases f_Str_charAt_5068e v litX10_84 (st + nI i) with
        | none => exact Or.inr rfl
        | some r =>
          rw [ob, ob, bd, bd]
          by_cases h4 : r = ww.getD i 0
          · rw [if_pos h4, if_pos h4, ni_s]
            exact Or.inl ⟨_, _, rfl, rfl, rfl, rfl⟩
          · rw [if_neg h4, if_neg h4]; exact Or.inr rfl
theorem kw_move {ww : List Int32} (hw : ∀ i, i < l → v 2 (p + i) = ww.getD i 0) (hp : p + l ≤ 1990) (hz : 4000 < z) : f_Tokens_keyword z v (nI p) (nI l) = f_Tokens_keyword z (stW ww) 0 (nI l) := by
  have e : b_Tokens_keyword_8 z v (nI p) (nI l) = b_Tokens_keyword_8 z (stW ww) 0 (nI l) := by
    funext K t
    unfold b_Tokens_keyword_8
    rw [sp_move (st := t.2.1) hw hp hz]
    rfl
  unfold f_Tokens_keyword
  rw [e]
/-- letters and digits -/
def wch (x : Int32) : Bool := (f_Tokens_isLetter x == some true) || (f_Tokens_isDigit x == some true)
theorem let_b (x : Int32) : ∃ q, f_Tokens_isLetter x = some q := by
  unfold f_Tokens_isLetter
  split
  · exact ⟨_, rfl⟩
  · split <;> exact ⟨_, rfl⟩
theorem dig_b (x : Int32) : ∃ q, f_Tokens_isDigit x = some q := by
  unfold f_Tokens_isDigit
  split
  · exact ⟨_, rfl⟩
  · split <;> exact ⟨_, rfl⟩
theorem sk_wloop (h1 : v 3 1 = nI m) (hm : m ≤ 1990) (hl1 : 1 ≤ l) (hl : p + l ≤ m) (hc : ∀ i, i < l → wch (v 2 (p + i)) = true) (he : p + l = m ∨ wch (v 2 (p + l)) = false) (hz : 4000 < z) : f_Tokens_readsWord z v (nI p) = j_Tokens_readsWord_46 z v (nI p) (nI (p + l)) := by
  have one : ∀ (K : Int32 → Option (Bool × Va)) (q : Nat), q < m → b_Tokens_readsWord_4 z v (nI p) K (nI q) = if wch (v 2 q) = true then K (nI (q + 1)) else j_Tokens_readsWord_46 z v (nI p) (nI q) := fun K q hq => by
    obtain ⟨x1, e1⟩ := let_b (v 2 q)
    obtain ⟨x2, e2⟩ := dig_b (v 2 q)
    unfold b_Tokens_readsWord_4 j_Tokens_readsWord_40
    rw [h1, if_neg (by rw [le_n (by omega) (by omega)]; omega), bd, rg (by omega) (by omega), e1, ob, bd, e2, ob, ni_s]
    unfold wch
    rw [e1, e2]
    cases x1 <;> cases x2 <;> rfl
  unfold f_Tokens_readsWord
  rw [ni_s]
  refine rp_go (f := b_Tokens_readsWord_4 z v (nI p)) (fun i => nI (p + 1 + i)) (l - 1) (fun K => ?_) (fun K i hi => ?_) (by omega)
  · rw [show p + 1 + (l - 1) = p + l by omega]
    rcases he with he | he
    · unfold b_Tokens_readsWord_4
      rw [h1, he, if_pos (Int32.le_refl _)]
    · by_cases hq : p + l = m
      · unfold b_Tokens_readsWord_4
        rw [h1, hq, if_pos (Int32.le_refl _)]
      · rw [one K (p + l) (by omega), if_neg (by rw [he]; decide)]
  · rw [one K (p + 1 + i) (by omega), if_pos (by have := hc (1 + i) (by omega); rwa [← Nat.add_assoc] at this)]
    rfl
theorem sk_kw {ts : List Tk} (h : SK v0 v m ts) (hn : ts.length ≤ 400) (hm : m ≤ 1990) (hl1 : 1 ≤ l) (hl10 : l ≤ 10) (hl : p + l ≤ m) (hc : ∀ i, i < l → wch (v 2 (p + i)) = true) (he : p + l = m ∨ wch (v 2 (p + l)) = false) (hz : 4000 < z) (hk : f_Tokens_keyword z v (nI p) (nI l) = some (nI k)) (hk7 : k < 47) : ∃ w, f_Tokens_readsWord z v (nI p) = some (true, w) ∧ SK v0 w m (ts ++ [(k, p, l, 0)]) := by
  obtain ⟨w, e1, e2⟩ := sk_add (k := k) (p := p) (l := l) (y := 0) h hn
  refine ⟨w, ?_, e2⟩
  rw [sk_wloop h.1 hm hl1 hl hc he hz]
  unfold j_Tokens_readsWord_46 j_Tokens_readsWord_89
  rw [ni_subn, if_pos (by rw [show (10 : Int32) = nI 10 from rfl, le_n (by omega) (by omega)]; exact hl10), hk, ob, if_neg (by rw [show (47 : Int32) = nI 47 from rfl, eq_n (by omega) (by omega)]; omega), e1, ob]
theorem sk_same (ha : a + l ≤ 1990) (hb9 : b + l ≤ 1990) (hz : 4000 < z) : ∃ t : Bool, f_Tokens_isSame z v (nI a) (nI b) (nI l) = some t ∧ (t = true ↔ ∀ q, q < l → v 2 (a + q) = v 2 (b + q)) := by
  unfold f_Tokens_isSame
  refine rp_oneX (f := b_Tokens_isSame_3 v (nI a) (nI b) (nI l)) (fun i s => s = nI i ∧ ∀ q, q < i → v 2 (a + q) = v 2 (b + q)) (fun o => ∃ t : Bool, o = some t ∧ (t = true ↔ ∀ q, q < l → v 2 (a + q) = v 2 (b + q))) l ?_ ?_ z 0 0 ⟨rfl, fun q hq => absurd hq (Nat.not_lt_zero _)⟩ (by omega) (by omega)
  · intro K s ⟨h1, h2⟩
    subst h1
    unfold b_Tokens_isSame_3
    rw [if_pos (Int32.le_refl _)]
    exact ⟨true, rfl, fun _ => h2, fun _ => rfl⟩
  · intro K i s hi ⟨h1, h2⟩
    subst h1
    unfold b_Tokens_isSame_3
    rw [if_neg (by rw [le_n (by omega) (by omega)]; omega), bd, ni_add, rg (by omega) (by omega), bd, ni_add, rg (by omega) (by omega)]
    by_cases hq : v 2 (a + i) = v 2 (b + i)
    · rw [if_pos hq, ni_s]
      exact Or.inl ⟨_, rfl, rfl, fun q h9 => by
        by_cases h8 : q = i
        · rw [h8]; exact hq
        · exact h2 q (by omega)⟩
    · rw [if_neg hq]
      exact Or.inr ⟨false, rfl, fun h => (by cases h), fun h => absurd (h i hi) hq⟩
end
