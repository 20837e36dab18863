/-! PIECES THAT ARE RIGHT ARE READ -/
section
variable {v v0 v1 w u : Va} {m p l n z i k a b s : Nat} {y c : Int32} {ts : List Tk}
/-- the first piece that is this name -/
def fxi : List Pz → List Int32 → Nat
  | [], _ => 0
  | q :: qs, w => if q.1 = 47 ∧ q.2.1 = w then 0 else fxi qs w + 1
theorem fxi_lt {ww : List Int32} : ∀ (qs : List Pz) (i : Nat) (r : Pz), i < fxi qs ww → qs[i]? = some r → ¬ (r.1 = 47 ∧ r.2.1 = ww)
  | [], i, r, _, h => by cases h
  | q :: qs, i, r, hi, h => by
    unfold fxi at hi
    by_cases hq : q.1 = 47 ∧ q.2.1 = ww
    · rw [if_pos hq] at hi; omega
    · rw [if_neg hq] at hi
      cases i with
      | zero => cases h; exact hq
      | succ i => exact fxi_lt qs i r (by omega) h
theorem fxi_le {ww : List Int32} : ∀ (qs : List Pz) (i : Nat) (r : Pz), qs[i]? = some r → r.1 = 47 → r.2.1 = ww → fxi qs ww ≤ i
  | [], i, r, h, _, _ => by cases h
  | q :: qs, i, r, h, h1, h2 => by
    unfold fxi
    by_cases hq : q.1 = 47 ∧ q.2.1 = ww
    · rw [if_pos hq]; omega
    · rw [if_neg hq]
      cases i with
      | zero => cases h; exact absurd ⟨h1, h2⟩ hq
      | succ i => exact Nat.succ_le_succ (fxi_le qs i r h h1 h2)
theorem fxi_at {ww : List Int32} : ∀ (qs : List Pz), fxi qs ww < qs.length → ∃ r : Pz, qs[fxi qs ww]? = some r ∧ r.1 = 47 ∧ r.2.1 = ww
  | [], h => absurd h (Nat.not_lt_zero _)
  | q :: qs, h => by
    unfold fxi at h ⊢
    by_cases hq : q.1 = 47 ∧ q.2.1 = ww
    · rw [if_pos hq]; exact ⟨q, rfl, hq⟩
    · rw [if_neg hq] at h ⊢
      obtain ⟨r, h1, h2⟩ := fxi_at qs (Nat.lt_of_succ_lt_succ h)
      exact ⟨r, h1, h2⟩
/-- a piece and the byte behind it -/
def OKz (q : Pz) (c : Option Int32) : Prop :=
  (∃ i, i < 32 ∧ q.1 = i ∧ q.2.1 = kwB.getD i [] ∧ q.2.2.2 = 0 ∧ ∀ x, c = some x → wch x = false) ∨
  (∃ l d, l ∈ ([115, 103, 109, 108] : List Int32) ∧ d < 10 ∧ q.1 = 47 ∧ q.2.1 = [l, nI (48 + d)] ∧ ∀ x, c = some x → wch x = false) ∨
  (∃ (f : Nat → Nat) (l : Nat), (∀ i, f i < 10) ∧ 1 ≤ l ∧ l ≤ 6 ∧ q.1 = 48 ∧ q.2.1 = (List.range l).map (fun i => nI (48 + f i)) ∧ q.2.2.2 = nI (dval f l) ∧ ∀ x, c = some x → f_Tokens_isDigit x = some false) ∨
  (∃ i, i < 13 ∧ q.1 = 32 + i ∧ q.2.1 = [sgB.getD i 0] ∧ q.2.2.2 = 0 ∧ ((sgB.getD i 0 ≠ 60 ∧ sgB.getD i 0 ≠ 62) ∨ ∃ x, c = some x ∧ x ≠ 61)) ∨
  (q.1 = 45 ∧ q.2.1 = [60, 61] ∧ q.2.2.2 = 0)
def OKs : List Pz → Prop
  | [] => True
  | q :: qs => OKz q ((q.2.2.1 ++ txO qs)[0]?) ∧ (∀ x ∈ q.2.2.1, x = 32 ∨ x = 10) ∧ OKs qs
theorem kw_good : ∀ i : Fin 32, 1 ≤ (kwB.getD i.val []).length ∧ (kwB.getD i.val []).length ≤ 10 ∧ (∀ x ∈ kwB.getD i.val [], wch x = true) ∧ f_Tokens_isLetter ((kwB.getD i.val []).getD 0 0) = some true := by decide +kernel
theorem nm_good : ∀ l ∈ ([115, 103, 109, 108] : List Int32), f_Tokens_isLetter l = some true ∧ wch l = true := by decide +kernel
theorem dg_good : ∀ d : Fin 10, wch (nI (48 + d.val)) = true ∧ f_Tokens_isLetter (nI (48 + d.val)) = some false ∧ nI (48 + d.val) ≠ 32 ∧ nI (48 + d.val) ≠ 10 := by decide +kernel
theorem sg_good : ∀ i : Fin 13, f_Tokens_isLetter (sgB.getD i.val 0) = some false ∧ f_Tokens_isDigit (sgB.getD i.val 0) = some false ∧ sgB.getD i.val 0 ≠ 32 ∧ sgB.getD i.val 0 ≠ 10 := by decide +kernel
theorem let_nb {x : Int32} (h : f_Tokens_isLetter x = some true) : x ≠ 32 ∧ x ≠ 10 := ⟨fun e => by rw [e] at h; exact absurd h (by decide), fun e => by rw [e] at h; exact absurd h (by decide)⟩
/-- a piece's first byte is no blank -/
theorem OKz.first {q : Pz} {c : Option Int32} (h : OKz q c) : 1 ≤ q.2.1.length ∧ q.2.1.getD 0 0 ≠ 32 ∧ q.2.1.getD 0 0 ≠ 10 ∧ q.1 ≤ 48 ∧ q.2.1.length ≤ 10 := by
  rcases h with ⟨i, h1, h2, h3, -⟩ | ⟨l, d, h1, h2, h3, h4, -⟩ | ⟨f, l, h1, h2, h3, h4, h5, -⟩ | ⟨i, h1, h2, h3, -⟩ | ⟨h1, h2, -⟩
  · obtain ⟨a1, a2, a3, a4⟩ := kw_good ⟨i, h1⟩
    rw [h3, h2]
    exact ⟨a1, (let_nb a4).1, (let_nb a4).2, by omega, a2⟩
  · have := let_nb (nm_good l h1).1
    rw [h4, h3]
    exact ⟨Nat.le_of_ble_eq_true rfl, this.1, this.2, by omega, Nat.le_of_ble_eq_true rfl⟩
  · rw [h5, h4, List.length_map, List.length_range]
    have e : ((List.range l).map (fun i => nI (48 + f i))).getD 0 0 = nI (48 + f 0) := by
      rw [List.getD_eq_getElem?_getD, List.getElem?_map, List.getElem?_range (by omega)]; rfl
    rw [e]
    have := dg_good ⟨f 0, h1 0⟩
    exact ⟨h2, this.2.2.1, this.2.2.2, by omega, by omega⟩
  · have := sg_good ⟨i, h1⟩
    rw [h3, h2]
    exact ⟨by simp, this.2.2.1, this.2.2.2, by omega, by simp⟩
  · rw [h2, h1]; exact ⟨by decide, by decide, by decide, by omega, by decide⟩
/-- where a list stands on the tape -/
def LAY (v : Va) (p : Nat) (L : List Int32) : Prop := ∀ i, i < L.length → v 2 (p + i) = L.getD i 0
theorem LAY.left {L K : List Int32} (h : LAY v p (L ++ K)) : LAY v p L := fun i hi => by
  rw [h i (by rw [List.length_append]; omega), List.getD_eq_getElem?_getD, List.getElem?_append_left hi, ← List.getD_eq_getElem?_getD]
theorem LAY.right {L K : List Int32} (h : LAY v p (L ++ K)) : LAY v (p + L.length) K := fun i hi => by
  rw [Nat.add_assoc, h (L.length + i) (by rw [List.length_append]; omega), List.getD_eq_getElem?_getD, List.getElem?_append_right (by omega), Nat.add_sub_cancel_left, ← List.getD_eq_getElem?_getD]
end
