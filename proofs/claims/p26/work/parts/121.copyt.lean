/-! ROW.COPYFROM as a whole function -/
theorem row_copy {v : Va} {k N k1 N1 z : Nat} (hne : k ≠ k1) (h : N ≤ 4000) (hz : N < z) : f_Row_copyFrom z v k N k1 N1 = some (up v (k + 1) (row_c N (v (k + 1)) N1 (v (k1 + 1)))) := by
  have e0 : up v (k + 1) (row_c 0 (v (k + 1)) N1 (v (k1 + 1))) = v := by
    have : row_c 0 (v (k + 1)) N1 (v (k1 + 1)) = v (k + 1) := funext fun q => if_neg (by omega)
    rw [this, up_id]
  have := rp_cnt (f := b_Row_copyFrom_2 k N k1 N1) (E := some (up v (k + 1) (row_c N (v (k + 1)) N1 (v (k1 + 1))))) (fun i => (nI i, up v (k + 1) (row_c i (v (k + 1)) N1 (v (k1 + 1))))) N (fun K => by
    unfold b_Row_copyFrom_2
    exact if_pos ((ni_le h h).mpr (Nat.le_refl _))) (fun K i hi => by
    unfold b_Row_copyFrom_2
    show (if nI N ≤ nI i then some _ else if nI i < 0 ∨ N ≤ (nI i).toNatClampNeg then none else K (nI i + 1, pu (up v (k + 1) (row_c i (v (k + 1)) N1 (v (k1 + 1)))) (k + 1) (nI i).toNatClampNeg (row_g N1 (up v (k + 1) (row_c i (v (k + 1)) N1 (v (k1 + 1))) (k1 + 1)) (nI i)))) = _
    rw [if_neg (fun q => absurd ((ni_le h (by omega)).mp q) (by omega)), up_ne (by omega), ni_c (by omega), if_neg (fun q => q.elim (ni_0 (by omega)) (by omega)), ni_s]
    congr 2
    unfold pu
    rw [up_up, up_eq]
    congr 1
    funext q
    have e1 : row_g N1 (v (k1 + 1)) (nI i) = if i < N1 then v (k1 + 1) i else 0 := by
      unfold row_g
      rw [ni_c (by omega)]
      by_cases h1 : i < N1
      · rw [if_pos ⟨h1, ni_0 (by omega)⟩, if_pos h1]
      · rw [if_neg (fun q => h1 q.1), if_neg h1]
    rw [e1]
    show (if q = i then _ else row_c i (v (k + 1)) N1 (v (k1 + 1)) q) = _
    unfold row_c
    by_cases hq : q = i
    · subst hq
      rw [if_pos rfl, if_pos (show q < q + 1 by omega)]
    · rw [if_neg hq]
      by_cases hq2 : q < i
      · rw [if_pos hq2, if_pos (show q < i + 1 by omega)]
      · rw [if_neg hq2, if_neg (show ¬ q < i + 1 by omega)]) z 0 (by omega) (by omega)
  rw [e0] at this
  exact this
section GE
variable {l : Launch} {Γ : Cx} {sh : Sh} {v : Va} {w : Vl} {n : Nat}
theorem C_Row_copyFrom {k N k1 N1 : Nat} (hk : isRow sh k N) (hk1 : isRow sh k1 N1) (hne : k ≠ k1) {q : Va} (h : up v (k + 1) (row_c N (v (k + 1)) N1 (v (k1 + 1))) = q) : MetV l yX7_copyFrom cX7_copyFrom 3 none 1 Γ sh v w n [.ref (Γ.2.1 + k), .ref (Γ.2.1 + k1)] (fun u => u = q) := c_Row_copyFrom (z := 4001) hk hk1 ((row_copy hne hk.2.2 (Nat.lt_succ_of_le hk.2.2)).trans (congrArg some h))
end GE
