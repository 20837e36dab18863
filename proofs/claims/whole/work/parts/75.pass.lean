/-! THE ERROR PASS, token by token -/
section
variable {k1 sp z : Nat}
theorem read_fold (hk1 : 194 ≤ k1) : ∀ (fu n a : Nat) (u : Va), u 149 4 = nI (a + n) → a + n ≤ 400 → n < fu → rp (b_Model_read_40 z sp k1) fu (nI a, u) = (fold2 z sp k1 n a u).bind fun q => if q.1 = 0 then some (0, q.2.2) else some (q.1, pu q.2.2 149 3 (q.2.2 (k1 + 2) q.2.1))
  | 0, _, _, _, _, _, h => by omega
  | fu + 1, 0, a, u, h4, ha, _ => by
    show b_Model_read_40 z sp k1 (rp (b_Model_read_40 z sp k1) fu) (nI a, u) = (some ((0 : Int32), a, u)).bind _
    unfold b_Model_read_40
    simp only
    rw [h4, if_pos (by rw [le_n (by omega) (by omega)]; omega), ob, if_pos rfl]
  | fu + 1, n + 1, a, u, h4, ha, hf => by
    show b_Model_read_40 z sp k1 (rp (b_Model_read_40 z sp k1) fu) (nI a, u) = ((f_Model_errorOf z u sp k1 (nI a)).bind fun q => if q.1 = 0 then fold2 z sp k1 n (a + 1) q.2 else some (q.1, a, q.2)).bind _
    unfold b_Model_read_40
    simp only
    rw [h4, if_neg (by rw [le_n (by omega) (by omega)]; omega)]
    cases hE : f_Model_errorOf z u sp k1 (nI a) with
    | none => rfl
    | some q =>
      have hfr : q.2 149 = u 149 := fk_err (k1 := k1) q.1 q.2 hE 149 (by omega)
      rw [ob, ob]
      by_cases h0 : q.1 = 0
      · rw [if_pos h0, if_pos h0, ni_s]
        exact read_fold hk1 fu n (a + 1) q.2 (by rw [hfr, h4]; congr 1; omega) (by omega) (by omega)
      · rw [if_neg h0, if_neg h0, if_neg (gd2 (by omega) (by omega)), ob, if_neg h0, ni_c (by omega), bnd]
end
