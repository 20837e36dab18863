/-! SIM AND THE MODEL, cell by cell: x holds Sim's side, u the model's (a state at 173, a sheet at 151, an order's own words at 203 to 210) -/
section
abbrev pn_ (S G M L O : Nat) : Nat → Nat := sq7 S G M M L O 0
/-- which cells there are: sort, which, field -/
def vQ (S G M L O j i f : Nat) : Prop := (j = 0 ∧ i = 0 ∧ f < S) ∨ (j = 1 ∧ i < G ∧ f < 3) ∨ (j = 2 ∧ i < M ∧ f < 2) ∨ (j = 3 ∧ i < M ∧ f < M) ∨ (j = 4 ∧ i < L ∧ f < 6) ∨ (j = 5 ∧ i < O ∧ f < 12) ∨ (j = 6 ∧ i = 0 ∧ f < 3) ∨ (j = 7 ∧ i = 0 ∧ f < 2)
def smQ (ks : Nat) (pA : Nat → Nat) (pB : Nat → Nat → Nat) (j i : Nat) : Nat := if j = 7 then ks else smP pA pB j i
def tPl (j f : Nat) : Nat := if j = 0 then 157 else if j = 1 then (if f = 0 then 159 else if f = 1 then 160 else 181) else if j = 2 then (if f = 0 then 179 else 163) else if j = 3 then 180 else if j = 4 then (if f = 0 then 165 else 173 + f) else if j = 5 then (if f < 3 then 168 + f else if f = 11 then 182 else 200 + f) else 173
def tIx (j i f : Nat) : Nat := if j = 0 then f else if j = 3 then 6 * i + f else if j = 6 then (if f = 0 then 3 else if f = 1 then 2 else 4) else if j = 7 then f else i
def ivQ (p q : Nat) : Nat × Nat × Nat := if p = 157 then (0, 0, q) else if p = 159 then (1, q, 0) else if p = 160 then (1, q, 1) else if p = 181 then (1, q, 2) else if p = 179 then (2, q, 0) else if p = 163 then (2, q, 1) else if p = 180 then (3, q / 6, q % 6) else if p = 165 then (4, q, 0)
  else if p = 173 then (if q = 3 then (6, 0, 0) else if q = 2 then (6, 0, 1) else if q = 4 then (6, 0, 2) else (7, 0, q)) else if p < 171 then (5, q, p - 168) else if p < 179 then (4, q, p - 173) else if p = 182 then (5, q, 11) else (5, q, p - 200)
theorem vQ_iv {S G M L O j i f : Nat} (hM : M ≤ 6) (h : vQ S G M L O j i f) : ivQ (tPl j f) (tIx j i f) = (j, i, f) := by
  rcases h with ⟨rfl, rfl, h⟩ | ⟨rfl, h1, h⟩ | ⟨rfl, h1, h⟩ | ⟨rfl, h1, h⟩ | ⟨rfl, h1, h⟩ | ⟨rfl, h1, h⟩ | ⟨rfl, rfl, h⟩ | ⟨rfl, rfl, h⟩
  · rfl
  · rcases (by omega : f = 0 ∨ f = 1 ∨ f = 2) with rfl | rfl | rfl <;> rfl
  · rcases (by omega : f = 0 ∨ f = 1) with rfl | rfl <;> rfl
  · show ((3 : Nat), (6 * i + f) / 6, (6 * i + f) % 6) = (3, i, f)
    rw [show (6 * i + f) / 6 = i by omega, show (6 * i + f) % 6 = f by omega]
  · rcases (by omega : f = 0 ∨ f = 1 ∨ f = 2 ∨ f = 3 ∨ f = 4 ∨ f = 5) with rfl | rfl | rfl | rfl | rfl | rfl <;> rfl
  · rcases (by omega : f = 0 ∨ f = 1 ∨ f = 2 ∨ f = 3 ∨ f = 4 ∨ f = 5 ∨ f = 6 ∨ f = 7 ∨ f = 8 ∨ f = 9 ∨ f = 10 ∨ f = 11) with rfl | rfl | rfl | rfl | rfl | rfl | rfl | rfl | rfl | rfl | rfl | rfl <;> rfl
  · rcases (by omega : f = 0 ∨ f = 1 ∨ f = 2) with rfl | rfl | rfl <;> rfl
  · rcases (by omega : f = 0 ∨ f = 1) with rfl | rfl <;> rfl
theorem tPl_ne {j f : Nat} : tPl j f ≠ 149 := by
  unfold tPl
  repeat' split
  all_goals omega
variable {x x1 u u1 : Va} {ks S G M L O j i f j1 i1 f1 z : Nat} {pA : Nat → Nat} {pB : Nat → Nat → Nat}
theorem smQ_inj (hA : APT pA pB (pn_ S G M L O) ks) (h : vQ S G M L O j i f) (h1 : vQ S G M L O j1 i1 f1) (e : smQ ks pA pB j i = smQ ks pA pB j1 i1) : j = j1 ∧ i = i1 := by
  have key : ∀ j i f, vQ S G M L O j i f → (j = 7 ∧ i = 0) ∨ (j ≠ 7 ∧ smI (pn_ S G M L O) j i) := by
    intro j i f h
    rcases h with ⟨rfl, rfl, h⟩ | ⟨rfl, h1, h⟩ | ⟨rfl, h1, h⟩ | ⟨rfl, h1, h⟩ | ⟨rfl, h1, h⟩ | ⟨rfl, h1, h⟩ | ⟨rfl, rfl, h⟩ | ⟨rfl, rfl, h⟩
    · exact Or.inr ⟨by omega, Or.inl ⟨rfl, rfl⟩⟩
    · exact Or.inr ⟨by omega, Or.inr (Or.inl ⟨by omega, by omega, h1⟩)⟩
    · exact Or.inr ⟨by omega, Or.inr (Or.inl ⟨by omega, by omega, h1⟩)⟩
    · exact Or.inr ⟨by omega, Or.inr (Or.inl ⟨by omega, by omega, h1⟩)⟩
    · exact Or.inr ⟨by omega, Or.inr (Or.inl ⟨by omega, by omega, h1⟩)⟩
    · exact Or.inr ⟨by omega, Or.inr (Or.inl ⟨by omega, by omega, h1⟩)⟩
    · exact Or.inr ⟨by omega, Or.inr (Or.inr ⟨rfl, rfl⟩)⟩
    · exact Or.inl ⟨rfl, rfl⟩
  unfold smQ at e
  rcases key j i f h with ⟨a, b⟩ | ⟨a, b⟩ <;> rcases key j1 i1 f1 h1 with ⟨c, d⟩ | ⟨c, d⟩
  · exact ⟨by omega, by omega⟩
  · rw [if_pos a, if_neg c] at e; exact absurd e (hA.2 _ _ d)
  · rw [if_neg a, if_pos c] at e; exact absurd e.symm (hA.2 _ _ b)
  · rw [if_neg a, if_neg c] at e; exact hA.1 _ _ _ _ b d e
/-- alike, cell by cell -/
def SR (x u : Va) (ks : Nat) (pA : Nat → Nat) (pB : Nat → Nat → Nat) (S G M L O : Nat) : Prop := ∀ j i f, vQ S G M L O j i f → x (smQ ks pA pB j i) f = u (tPl j f) (tIx j i f)
theorem SR.set (h : SR x u ks pA pB S G M L O) (hA : APT pA pB (pn_ S G M L O) ks) (hM : M ≤ 6) {p a b : Nat} {y y' : Int32} (hv : vQ S G M L O j i f) (ea : smQ ks pA pB j i = p) (ep : tPl j f = a) (eb : tIx j i f = b) (e : y = y') : SR (pu x p f y) (pu u a b y') ks pA pB S G M L O := by
  subst ea ep eb e
  intro j1 i1 f1 hv1
  have h0 := h j1 i1 f1 hv1
  unfold pu
  by_cases hs : smQ ks pA pB j1 i1 = smQ ks pA pB j i
  · obtain ⟨rfl, rfl⟩ := smQ_inj hA hv1 hv hs
    rw [up_eq]
    by_cases hf : f1 = f
    · subst hf
      rw [up_eq, upd_eq, upd_eq]
    · rw [upd_ne hf, h0]
      by_cases hp : tPl j1 f1 = tPl j1 f
      · by_cases hq : tIx j1 i1 f1 = tIx j1 i1 f
        · have e1 := vQ_iv hM hv1
          have e2 := vQ_iv hM hv
          rw [hp, hq, e2] at e1
          simp only [Prod.mk.injEq] at e1
          exact absurd e1.2.2.symm hf
        · rw [hp, up_eq, upd_ne hq]
      · rw [up_ne hp]
  · rw [up_ne hs, h0]
    by_cases hp : tPl j1 f1 = tPl j f
    · by_cases hq : tIx j1 i1 f1 = tIx j i f
      · have e1 := vQ_iv hM hv1
        have e2 := vQ_iv hM hv
        rw [hp, hq, e2] at e1
        simp only [Prod.mk.injEq] at e1
        exact absurd (by rw [e1.1, e1.2.1]) hs
      · rw [hp, up_eq, upd_ne hq]
    · rw [up_ne hp]
theorem SR.fw (h : SR x u ks pA pB S G M L O) (hu : ∀ p, p ≠ 149 → u1 p = u p) : SR x u1 ks pA pB S G M L O := fun j i f hv => by rw [hu _ tPl_ne]; exact h j i f hv
theorem SR.day (h : SR x u ks pA pB S G M L O) : x ks 0 = u 173 0 := h 7 0 0 (by unfold vQ; omega)
theorem SR.damp (h : SR x u ks pA pB S G M L O) : x ks 1 = u 173 1 := h 7 0 1 (by unfold vQ; omega)
theorem SR.loss (h : SR x u ks pA pB S G M L O) (hi : i < S) : x (pA 0) i = u 157 i := h 0 0 i (by unfold vQ; omega)
theorem SR.fee (h : SR x u ks pA pB S G M L O) (hi : i < G) : x (pB 1 i) 0 = u 159 i := h 1 i 0 (by unfold vQ; omega)
theorem SR.bias (h : SR x u ks pA pB S G M L O) (hi : i < G) : x (pB 1 i) 1 = u 160 i := h 1 i 1 (by unfold vQ; omega)
theorem SR.earned (h : SR x u ks pA pB S G M L O) (hi : i < G) : x (pB 1 i) 2 = u 181 i := h 1 i 2 (by unfold vQ; omega)
theorem SR.coins (h : SR x u ks pA pB S G M L O) (hi : i < M) : x (pB 2 i) 0 = u 179 i := h 2 i 0 (by unfold vQ; omega)
theorem SR.credit (h : SR x u ks pA pB S G M L O) (hi : i < M) : x (pB 2 i) 1 = u 163 i := h 2 i 1 (by unfold vQ; omega)
theorem SR.owes (h : SR x u ks pA pB S G M L O) (hi : i < M) (hj : j < M) : x (pB 3 i) j = u 180 (6 * i + j) := h 3 i j (by unfold vQ; omega)
theorem SR.spice (h : SR x u ks pA pB S G M L O) (hi : i < L) : x (pB 4 i) 0 = u 165 i := h 4 i 0 (by unfold vQ; omega)
theorem SR.weight (h : SR x u ks pA pB S G M L O) (hi : i < L) : x (pB 4 i) 1 = u 174 i := h 4 i 1 (by unfold vQ; omega)
theorem SR.owner (h : SR x u ks pA pB S G M L O) (hi : i < L) : x (pB 4 i) 2 = u 175 i := h 4 i 2 (by unfold vQ; omega)
theorem SR.guild (h : SR x u ks pA pB S G M L O) (hi : i < L) : x (pB 4 i) 3 = u 176 i := h 4 i 3 (by unfold vQ; omega)
theorem SR.chop (h : SR x u ks pA pB S G M L O) (hi : i < L) : x (pB 4 i) 4 = u 177 i := h 4 i 4 (by unfold vQ; omega)
theorem SR.made (h : SR x u ks pA pB S G M L O) (hi : i < L) : x (pB 4 i) 5 = u 178 i := h 4 i 5 (by unfold vQ; omega)
theorem SR.sort (h : SR x u ks pA pB S G M L O) (hi : i < O) : x (pB 5 i) 0 = u 168 i := h 5 i 0 (by unfold vQ; omega)
theorem SR.one (h : SR x u ks pA pB S G M L O) (hi : i < O) : x (pB 5 i) 1 = u 169 i := h 5 i 1 (by unfold vQ; omega)
theorem SR.other (h : SR x u ks pA pB S G M L O) (hi : i < O) : x (pB 5 i) 2 = u 170 i := h 5 i 2 (by unfold vQ; omega)
theorem SR.own3 (h : SR x u ks pA pB S G M L O) (hi : i < O) : x (pB 5 i) 3 = u 203 i := h 5 i 3 (by unfold vQ; omega)
theorem SR.own4 (h : SR x u ks pA pB S G M L O) (hi : i < O) : x (pB 5 i) 4 = u 204 i := h 5 i 4 (by unfold vQ; omega)
theorem SR.own5 (h : SR x u ks pA pB S G M L O) (hi : i < O) : x (pB 5 i) 5 = u 205 i := h 5 i 5 (by unfold vQ; omega)
theorem SR.own6 (h : SR x u ks pA pB S G M L O) (hi : i < O) : x (pB 5 i) 6 = u 206 i := h 5 i 6 (by unfold vQ; omega)
theorem SR.own7 (h : SR x u ks pA pB S G M L O) (hi : i < O) : x (pB 5 i) 7 = u 207 i := h 5 i 7 (by unfold vQ; omega)
theorem SR.own8 (h : SR x u ks pA pB S G M L O) (hi : i < O) : x (pB 5 i) 8 = u 208 i := h 5 i 8 (by unfold vQ; omega)
theorem SR.own9 (h : SR x u ks pA pB S G M L O) (hi : i < O) : x (pB 5 i) 9 = u 209 i := h 5 i 9 (by unfold vQ; omega)
theorem SR.own10 (h : SR x u ks pA pB S G M L O) (hi : i < O) : x (pB 5 i) 10 = u 210 i := h 5 i 10 (by unfold vQ; omega)
theorem SR.often (h : SR x u ks pA pB S G M L O) (hi : i < O) : x (pB 5 i) 11 = u 182 i := h 5 i 11 (by unfold vQ; omega)
end
