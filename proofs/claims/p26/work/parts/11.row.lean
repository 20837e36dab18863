/-! ROW, its methods as whole functions -/
theorem ni_t {i : Nat} (h : i ≤ 4000) : (nI i).toInt = (i : Int) := Int32.toInt_ofNat_of_lt (by omega)
theorem ni_s (i : Nat) : nI i + 1 = nI (i + 1) := (Int32.ofNat_add i 1).symm
theorem ni_c {i : Nat} (h : i ≤ 4000) : (nI i).toNatClampNeg = i := Int32.toNatClampNeg_ofNat_of_lt (by omega)
theorem ni_0 {i : Nat} (h : i ≤ 4000) : ¬ nI i < 0 := fun q => by
  have h1 := Int32.lt_iff_toInt_lt.mp q
  rw [ni_t h] at h1
  have h2 : (0 : Int32).toInt = 0 := rfl
  omega
theorem ni_le {i j : Nat} (hi : i ≤ 4000) (hj : j ≤ 4000) : (nI i ≤ nI j) ↔ i ≤ j := by
  rw [Int32.le_iff_toInt_le, ni_t hi, ni_t hj]; omega
theorem ni_lt {i j : Nat} (hi : i ≤ 4000) (hj : j ≤ 4000) : (nI i < nI j) ↔ i < j := by
  rw [Int32.lt_iff_toInt_lt, ni_t hi, ni_t hj]; omega
theorem up_up {α : Type} (v : Nat → α) (k : Nat) (f g : α) : up (up v k f) k g = up v k g := funext fun q => by unfold up; split <;> rfl
def row_g (N : Nat) (f : Nat → Int32) (i : Int32) : Int32 := if i.toNatClampNeg < N ∧ ¬ i < 0 then f i.toNatClampNeg else 0
def row_s (N : Nat) (f : Nat → Int32) (i x : Int32) : Nat → Int32 := if i.toNatClampNeg < N ∧ ¬ i < 0 then upd f i.toNatClampNeg x else f
def row_a (N : Nat) (f : Nat → Int32) (i x : Int32) : Nat → Int32 := row_s N f i (row_g N f i + x)
def row_f (N : Nat) (f : Nat → Int32) (x : Int32) : Nat → Int32 := fun q => if q < N then x else f q
def row_c (N : Nat) (f : Nat → Int32) (N2 : Nat) (g : Nat → Int32) : Nat → Int32 := fun q => if q < N then (if q < N2 then g q else 0) else f q
def row_t (f : Nat → Int32) : Nat → Int32
  | 0 => 0
  | n + 1 => row_t f n + f n
theorem row_in {i : Int32} {N : Nat} (h : N ≤ 4000) : (i.toNatClampNeg < N ∧ ¬ i < 0) ↔ ¬ i < 0 ∧ ¬ nI N ≤ i := by
  have e0 : (0 : Int32).toInt = 0 := rfl
  have e1 : i.toNatClampNeg = i.toInt.toNat := rfl
  rw [Int32.lt_iff_toInt_lt, Int32.le_iff_toInt_le, ni_t h, e0, e1]
  omega
theorem row_get {v : Va} {k N : Nat} {i : Int32} (h : N ≤ 4000) : f_Row_get v k N i = some (row_g N (v (k + 1)) i) := by
  unfold f_Row_get row_g
  have hr := row_in (i := i) h
  by_cases h1 : i < 0
  · simp [h1]
  · by_cases h2 : nI N ≤ i
    · have : ¬ (i.toNatClampNeg < N ∧ ¬ i < 0) := fun q => (hr.mp q).2 h2
      rw [if_neg h1, if_pos h2, if_neg this]
    · have h3 := hr.mpr ⟨h1, h2⟩
      have h4 : ¬ (i < 0 ∨ N ≤ i.toNatClampNeg) := fun q => q.elim h1 (by have := h3.1; omega)
      rw [if_neg h1, if_neg h2, if_pos h3, if_neg h4]
theorem row_set {v : Va} {k N : Nat} {i x : Int32} (h : N ≤ 4000) : f_Row_set v k N i x = some (up v (k + 1) (row_s N (v (k + 1)) i x)) := by
  unfold f_Row_set row_s
  have hr := row_in (i := i) h
  by_cases h1 : i < 0
  · simp [h1, up_id]
  · by_cases h2 : nI N ≤ i
    · have : ¬ (i.toNatClampNeg < N ∧ ¬ i < 0) := fun q => (hr.mp q).2 h2
      rw [if_neg h1, if_pos h2, if_neg this, up_id]
    · have h3 := hr.mpr ⟨h1, h2⟩
      have h4 : ¬ (i < 0 ∨ N ≤ i.toNatClampNeg) := fun q => q.elim h1 (by have := h3.1; omega)
      rw [if_neg h1, if_neg h2, if_pos h3, if_neg h4]
      rfl
theorem row_add {v : Va} {k N : Nat} {i x : Int32} (h : N ≤ 4000) : f_Row_add v k N i x = some (up v (k + 1) (row_a N (v (k + 1)) i x)) := by
  unfold f_Row_add row_a row_s row_g
  have hr := row_in (i := i) h
  by_cases h1 : i < 0
  · simp [h1, up_id]
  · by_cases h2 : nI N ≤ i
    · have : ¬ (i.toNatClampNeg < N ∧ ¬ i < 0) := fun q => (hr.mp q).2 h2
      rw [if_neg h1, if_pos h2, if_neg this, up_id]
    · have h3 := hr.mpr ⟨h1, h2⟩
      have h4 : ¬ (i < 0 ∨ N ≤ i.toNatClampNeg) := fun q => q.elim h1 (by have := h3.1; omega)
      rw [if_neg h1, if_neg h2, if_pos h3, if_neg h4, if_neg h4, if_pos h3]
      rfl
/-- a loop that is run N times -/
theorem rp_cnt {σ ρ : Type} {f : (σ → Option ρ) → σ → Option ρ} {E : Option ρ} (st : Nat → σ) (N : Nat) (stop : ∀ K, f K (st N) = E) (step : ∀ K i, i < N → f K (st i) = K (st (i + 1))) : ∀ fu i, i ≤ N → N - i < fu → rp f fu (st i) = E
  | 0, _, _, h => by omega
  | fu + 1, i, h1, h2 => by
    show f (rp f fu) (st i) = E
    by_cases hc : i = N
    · subst hc; exact stop _
    · rw [step _ i (by omega)]
      exact rp_cnt st N stop step fu (i + 1) (by omega) (by omega)
theorem row_fill {v : Va} {k N z : Nat} {x : Int32} (h : N ≤ 4000) (hz : N < z) : f_Row_fill z v k N x = some (up v (k + 1) (row_f N (v (k + 1)) x)) := by
  have e0 : up v (k + 1) (row_f 0 (v (k + 1)) x) = v := by
    have : row_f 0 (v (k + 1)) x = v (k + 1) := funext fun q => if_neg (by omega)
    rw [this, up_id]
  have := rp_cnt (f := b_Row_fill_2 k N x) (E := some (up v (k + 1) (row_f N (v (k + 1)) x))) (fun i => (nI i, up v (k + 1) (row_f i (v (k + 1)) x))) N (fun K => by
    unfold b_Row_fill_2
    exact if_pos ((ni_le h h).mpr (Nat.le_refl _))) (fun K i hi => by
    unfold b_Row_fill_2
    show (if nI N ≤ nI i then some _ else if nI i < 0 ∨ N ≤ (nI i).toNatClampNeg then none else K (nI i + 1, pu (up v (k + 1) (row_f i (v (k + 1)) x)) (k + 1) (nI i).toNatClampNeg x)) = _
    rw [if_neg (fun q => absurd ((ni_le h (by omega)).mp q) (by omega)), ni_c (by omega), if_neg (fun q => q.elim (ni_0 (by omega)) (by omega)), ni_s]
    congr 2
    unfold pu
    rw [up_up, up_eq]
    congr 1
    funext q
    unfold upd row_f
    by_cases hq : q = i
    · rw [if_pos hq, if_pos (by omega)]
    · rw [if_neg hq]
      by_cases hq2 : q < i
      · rw [if_pos hq2, if_pos (by omega)]
      · rw [if_neg hq2, if_neg (by omega)]) z 0 (by omega) (by omega)
  rw [e0] at this
  exact this
theorem row_sum {v : Va} {k N z : Nat} (h : N ≤ 4000) (hz : N < z) : f_Row_sum z v k N = some (row_t (v (k + 1)) N) := 
  rp_cnt (f := b_Row_sum_4 v k N) (fun i => (row_t (v (k + 1)) i, nI i)) N (fun K => by
    unfold b_Row_sum_4
    exact if_pos ((ni_le h h).mpr (Nat.le_refl _))) (fun K i hi => by
    unfold b_Row_sum_4
    show (if nI N ≤ nI i then some _ else if nI i < 0 ∨ N ≤ (nI i).toNatClampNeg then none else K (row_t (v (k + 1)) i + v (k + 1) (nI i).toNatClampNeg, nI i + 1)) = _
    rw [if_neg (fun q => absurd ((ni_le h (by omega)).mp q) (by omega)), ni_c (by omega), if_neg (fun q => q.elim (ni_0 (by omega)) (by omega)), ni_s]
    rfl) z 0 (by omega) (by omega)
section GE
variable {l : Launch} {Γ : Cx} {sh : Sh} {v : Va} {w : Vl} {n : Nat}
theorem C_Row_get {k N : Nat} {a1 : Int32} (hk : isRow sh k N) {q : Int32} (h : row_g N (v (k + 1)) a1 = q) : MetI l yX7_get cX7_get 2 (some .int) 0 Γ sh v w n [.ref (Γ.2.1 + k), .int a1] (fun x u => x = q ∧ u = v) := c_Row_get hk ((row_get hk.2.2).trans (congrArg some h))
theorem C_Row_set {k N : Nat} {a1 a2 : Int32} (hk : isRow sh k N) {q : Va} (h : up v (k + 1) (row_s N (v (k + 1)) a1 a2) = q) : MetV l yX7_set cX7_set 3 none 0 Γ sh v w n [.ref (Γ.2.1 + k), .int a1, .int a2] (fun u => u = q) := c_Row_set hk ((row_set hk.2.2).trans (congrArg some h))
theorem C_Row_add {k N : Nat} {a1 a2 : Int32} (hk : isRow sh k N) {q : Va} (h : up v (k + 1) (row_a N (v (k + 1)) a1 a2) = q) : MetV l yX7_add cX7_add 3 none 0 Γ sh v w n [.ref (Γ.2.1 + k), .int a1, .int a2] (fun u => u = q) := c_Row_add hk ((row_add hk.2.2).trans (congrArg some h))
theorem C_Row_fill {k N : Nat} {a1 : Int32} (hk : isRow sh k N) {q : Va} (h : up v (k + 1) (row_f N (v (k + 1)) a1) = q) : MetV l yX7_fill cX7_fill 3 none 0 Γ sh v w n [.ref (Γ.2.1 + k), .int a1] (fun u => u = q) := c_Row_fill (z := 4001) hk ((row_fill hk.2.2 (Nat.lt_succ_of_le hk.2.2)).trans (congrArg some h))
theorem C_Row_sum {k N : Nat} (hk : isRow sh k N) {q : Int32} (h : row_t (v (k + 1)) N = q) : MetI l yX7_sum cX7_sum 3 (some .int) 0 Γ sh v w n [.ref (Γ.2.1 + k)] (fun x u => x = q ∧ u = v) := c_Row_sum (z := 4001) hk ((row_sum hk.2.2 (Nat.lt_succ_of_le hk.2.2)).trans (congrArg some h))
end GE
