/-! THE SCANNER, PIECE BY PIECE -/
section
variable {v v0 w u : Va} {m p l n z i k : Nat} {y : Int32}
/-- a token: kind, place, length, value -/
abbrev Tk : Type := Nat × Nat × Nat × Int32
/-- the scanner has these tokens of m bytes -/
def SK (v0 v : Va) (m : Nat) (ts : List Tk) : Prop := v 3 1 = nI m ∧ v 3 2 = nI ts.length ∧ (∀ i (t : Tk), ts[i]? = some t → v 5 i = nI t.1 ∧ v 7 i = nI t.2.1 ∧ v 9 i = nI t.2.2.1 ∧ v 11 i = t.2.2.2) ∧ (∀ q, q ≠ 3 → q ≠ 5 → q ≠ 7 → q ≠ 9 → q ≠ 11 → v q = v0 q) ∧ ∀ j, j ≠ 1 → j ≠ 2 → v 3 j = v0 3 j
theorem sk_add {ts : List Tk} (h : SK v0 v m ts) (hn : ts.length ≤ 400) : ∃ w, f_Tokens_add v (nI k) (nI p) (nI l) y = some w ∧ SK v0 w m (ts ++ [(k, p, l, y)]) := by
  obtain ⟨h1, h2, h3, h4, h5⟩ := h
  have e2 : ∀ (x : Va), x 3 = v 3 → x 3 2 = nI ts.length := fun x hx => by rw [hx]; exact h2
  refine ⟨pu (up (up (up (up v 5 (upd (v 5) ts.length (nI k))) 7 (upd (v 7) ts.length (nI p))) 9 (upd (v 9) ts.length (nI l))) 11 (upd (v 11) ts.length y)) 3 2 (nI (ts.length + 1)), ?_, ?_, ?_, ?_, ?_, ?_⟩
  · unfold f_Tokens_add
    simp (disch := omega) only [bd, h2, rs, up_ne, ni_s]
  · rw [pu_d (by omega), up_ne (by omega), up_ne (by omega), up_ne (by omega), up_ne (by omega)]; exact h1
  · rw [pu_s, List.length_append]; rfl
  · intro i t ht
    have hi : i < ts.length + 1 := by
      have := List.getElem?_eq_some_iff.mp ht
      obtain ⟨h9, -⟩ := this
      rw [List.length_append] at h9
      exact h9
    rw [pu_p (by omega), pu_p (by omega), pu_p (by omega), pu_p (by omega)]
    rw [up_ne (show (5 : Nat) ≠ 11 by omega), up_ne (show (5 : Nat) ≠ 9 by omega), up_ne (show (5 : Nat) ≠ 7 by omega), up_eq, up_ne (show (7 : Nat) ≠ 11 by omega), up_ne (show (7 : Nat) ≠ 9 by omega), up_eq, up_ne (show (9 : Nat) ≠ 11 by omega), up_eq, up_eq]
    by_cases hq : i = ts.length
    · subst hq
      rw [List.getElem?_append_right (Nat.le_refl _), Nat.sub_self] at ht
      cases ht
      rw [upd_eq, upd_eq, upd_eq, upd_eq]
      exact ⟨rfl, rfl, rfl, rfl⟩
    · rw [List.getElem?_append_left (by omega)] at ht
      rw [upd_ne hq, upd_ne hq, upd_ne hq, upd_ne hq]
      exact h3 i t ht
  · intro q a b c d e
    rw [pu_p a, up_ne e, up_ne d, up_ne c, up_ne b]; exact h4 q a b c d e
  · intro j a b
    rw [pu_d b, up_ne (by omega), up_ne (by omega), up_ne (by omega), up_ne (by omega)]; exact h5 j a b
/-- blanks -/
theorem sk_blank (h1 : v 3 1 = nI m) (hm : m ≤ 1990) (hs : p + l ≤ m) (hb : ∀ i, i < l → v 2 (p + i) = 32 ∨ v 2 (p + i) = 10) (he : p + l = m ∨ (v 2 (p + l) ≠ 32 ∧ v 2 (p + l) ≠ 10)) (hz : 4000 < z) : f_Tokens_behindBlanks z v (nI p) = some (nI (p + l)) := by
  unfold f_Tokens_behindBlanks
  refine rp_go (fun i => nI (p + i)) l (fun K => ?_) (fun K i hi => ?_) (by omega)
  · unfold b_Tokens_behindBlanks_2
    rw [h1]
    rcases he with he | ⟨he1, he2⟩
    · rw [if_pos (by rw [he, le_n (by omega) (by omega)]; exact Nat.le_refl _)]
    · by_cases hq : p + l = m
      · rw [if_pos (by rw [hq, le_n (by omega) (by omega)]; exact Nat.le_refl _)]
      · rw [if_neg (by rw [le_n (by omega) (by omega)]; omega), bd, rg (by omega) (by omega), if_neg he1, bd, if_neg he2]
  · unfold b_Tokens_behindBlanks_2 j_Tokens_behindBlanks_36
    rw [h1, if_neg (by rw [le_n (by omega) (by omega)]; omega), bd, rg (by omega) (by omega)]
    rcases hb i hi with h | h
    · rw [if_pos h, ni_s]; rfl
    · rw [if_neg (by rw [h]; decide), bd, if_pos h, ni_s]; rfl
/-- digits -/
def dval (f : Nat → Nat) : Nat → Nat
  | 0 => 0
  | i + 1 => dval f i * 10 + f i
theorem dval_lt {f : Nat → Nat} (hf : ∀ i, f i < 10) : ∀ n, dval f n < 10 ^ n
  | 0 => by show 0 < 1; omega
  | n + 1 => by
    have h1 := dval_lt hf n
    have h2 := hf n
    show dval f n * 10 + f n < 10 ^ (n + 1)
    rw [Nat.pow_succ]; omega
theorem dig_yes {d : Nat} (h : d < 10) : f_Tokens_isDigit (nI (48 + d)) = some true := by
  unfold f_Tokens_isDigit
  rw [if_neg (by rw [show (48 : Int32) = nI 48 from rfl, lt_n (by omega) (by omega)]; omega), if_neg (by rw [show (57 : Int32) = nI 57 from rfl, lt_n (by omega) (by omega)]; omega)]
theorem ni_subn {a b : Nat} : nI (a + b) - nI a = nI b := by rw [← ni_add]; exact add_sub9
theorem sk_number {ts : List Tk} {f : Nat → Nat} (h : SK v0 v m ts) (hn : ts.length ≤ 400) (hm : m ≤ 1990) (hl : p + l ≤ m) (hl6 : l ≤ 6) (hf : ∀ i, f i < 10) (hd : ∀ i, i < l → v 2 (p + i) = nI (48 + f i)) (he : p + l = m ∨ f_Tokens_isDigit (v 2 (p + l)) = some false) (hz : 4000 < z) : ∃ w, f_Tokens_readsNumber z v (nI p) = some (true, w) ∧ SK v0 w m (ts ++ [(48, p, l, nI (dval f l))]) := by
  obtain ⟨w, e1, e2⟩ := sk_add (k := 48) (p := p) (l := l) (y := nI (dval f l)) h hn
  refine ⟨w, ?_, e2⟩
  have hj : j_Tokens_readsNumber_49 v (nI p) (nI (p + l), nI (dval f l)) = some (true, w) := by
    unfold j_Tokens_readsNumber_49
    simp only [ni_subn]
    rw [if_pos (by rw [show (6 : Int32) = nI 6 from rfl, le_n (by omega) (by omega)]; exact hl6), show (48 : Int32) = nI 48 from rfl, e1, ob]
  unfold f_Tokens_readsNumber
  refine rp_go (f := b_Tokens_readsNumber_4 v (nI p)) (fun i => (nI (p + i), nI (dval f i))) l (fun K => ?_) (fun K i hi => ?_) (by omega)
  · unfold b_Tokens_readsNumber_4
    simp only [h.1]
    by_cases hq : p + l = m
    · rw [if_pos (by rw [hq, le_n (by omega) (by omega)]; exact Nat.le_refl _)]; exact hj
    · rw [if_neg (by rw [le_n (by omega) (by omega)]; omega), bd, rg (by omega) (by omega), he.resolve_left hq, ob, if_pos (show q_b false = 0 from rfl)]; exact hj
  · have hv := dval_lt hf i
    have h10 : (10 : Nat) ^ i ≤ 10 ^ 5 := Nat.pow_le_pow_right (by omega) (by omega)
    unfold b_Tokens_readsNumber_4
    simp only [h.1]
    rw [if_neg (by rw [le_n (by omega) (by omega)]; omega), bd, rg (by omega) (by omega), hd i hi, dig_yes (hf i), ob, if_neg (show ¬ q_b true = 0 by decide), bd, ni_s]
    congr 2
    show nI (dval f i) * nI 10 + nI (48 + f i) - nI 48 = nI (dval f i * 10 + f i)
    rw [ni_mul, ni_add, show dval f i * 10 + (48 + f i) = 48 + (dval f i * 10 + f i) by omega, ni_subn]
end
