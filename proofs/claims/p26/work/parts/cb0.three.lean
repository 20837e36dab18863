/-! A PRODUCT OF THREE -/
section
variable {v w u : Va} {n m t d k N i j j2 a : Nat} {y x x' : Int32} {st s1 s2 s3 : List S3} {ar : Int32}
theorem pr_go {GV : Nat → List Int32 → Va → Option Va} {w1 w2 w3 : Va} {st2 : List S3} {cc : Int32} (hc : ¬ 400 ≤ cc) (hx : x = 40 ∨ x = 41) (hR : RSx v w1 n t st) (h3 : GV 7 [ar] (pu w1 12 6 (nI (n + 1))) = some w2) (hR2 : RSx v w2 m t st2) (hm : m < 401) (e3 : f_Steps_add w2 42 x 0 0 = some w3) (e4 : RSx v w3 m t (st2 ++ [(x, 0, 0)])) (K : (Int32 × Int32 × Va) → Option Va) : b_Reader_product_12 GV ar K (x, cc, w1) = K (v 5 m, cc + 1, w3) := by
  have hj : j_Reader_product_31 GV ar K (x, cc, w1) = K (v 5 m, cc + 1, w3) := by
    unfold j_Reader_product_31
    simp only [bd, hR.go]
    rw [h3, ob, e3, ob, e4.see hm rfl, ob]
  unfold b_Reader_product_12
  simp only
  rw [if_neg hc, hj]
  rcases hx with e | e
  · rw [if_pos e]
  · rw [if_neg (by rw [e]; decide), if_pos e]
theorem XR.prod3 (h : XR v d 7 ar n m s1) (hm : m < 401) (hx : x = 40 ∨ x = 41) (hk : v 5 m = x) (h' : XR v d 7 ar (m + 1) k s2) (hk4 : k < 401) (hx' : x' = 40 ∨ x' = 41) (hk' : v 5 k = x') (h'' : XR v d 7 ar (k + 1) j s3) (hj4 : j < 401) (h1 : v 5 j ≠ 40) (h2 : v 5 j ≠ 41) : XR v (d + 1) 6 ar n j (s1 ++ s2 ++ [(x, 0, 0)] ++ s3 ++ [(x', 0, 0)]) := fun w t st hw hl => by
  have hl' : t + st.length + (s1.length + s2.length + 1 + s3.length + 1) ≤ 400 := by
    simp only [List.length_append, List.length_cons, List.length_nil] at hl
    omega
  obtain ⟨w1, e1, e2⟩ := h w t st hw (by omega)
  obtain ⟨w2, e3, e4⟩ := h' _ t (st ++ s1) (e2.mv (m := m + 1)) (by rw [List.length_append]; omega)
  obtain ⟨w3, e5, e6⟩ := e4.add (x := x) (b := 0) (c := 0) (by rw [List.length_append, List.length_append]; omega)
  obtain ⟨w4, e7, e8⟩ := h'' _ t _ (e6.mv (m := k + 1)) (by simp only [List.length_append, List.length_cons, List.length_nil]; omega)
  obtain ⟨w5, e9, f1⟩ := e8.add (x := x') (b := 0) (c := 0) (by simp only [List.length_append, List.length_cons, List.length_nil]; omega)
  refine ⟨w5, ?_, by simpa [List.append_assoc] using f1⟩
  show f_Reader_product 4001 (g_Reader 4001 d) w ar = some w5
  unfold f_Reader_product
  rw [e1, ob, e2.see hm hk, ob]
  show b_Reader_product_12 (g_Reader 4001 d) ar (rp (b_Reader_product_12 (g_Reader 4001 d) ar) 4000) (x, 0, w1) = some w5
  rw [pr_go (by decide) hx e2 e3 e4 hk4 e5 e6, hk']
  show b_Reader_product_12 (g_Reader 4001 d) ar (rp (b_Reader_product_12 (g_Reader 4001 d) ar) 3999) (x', 1, w3) = some w5
  rw [pr_go (by decide) hx' e6 e7 e8 hj4 e9 f1]
  show b_Reader_product_12 (g_Reader 4001 d) ar (rp (b_Reader_product_12 (g_Reader 4001 d) ar) 3998) (v 5 j, 2, w5) = some w5
  unfold b_Reader_product_12
  simp only
  rw [if_neg (by decide), if_neg h1, if_neg h2]
end
