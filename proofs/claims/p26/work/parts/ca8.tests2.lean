/-! TESTS JOINED BY OR -/
section
variable {v w u : Va} {n m t d k N i j j2 a : Nat} {y y2 x b c : Int32} {st s1 s2 : List S3} {ar : Int32} {GV : Nat → List Int32 → Va → Option Va}
theorem XR.test (h : XR v d 1 ar n m s1) (hm : m < 401) (h1 : v 5 m ≠ 29) : XR v (d + 1) 0 ar n m s1 := fun w t st hw hl => by
  obtain ⟨w1, e1, e2⟩ := h w t st hw hl
  refine ⟨w1, ?_, e2⟩
  show f_Reader_test 4001 (g_Reader 4001 d) w ar = some w1
  unfold f_Reader_test
  rw [e1, ob]
  show b_Reader_test_7 (g_Reader 4001 d) ar _ (0, w1) = some w1
  unfold b_Reader_test_7
  simp only
  rw [if_neg (by decide), e2.see hm rfl, ob, if_neg h1]
theorem XR.test2 (h : XR v d 1 ar n m s1) (hm : m < 401) (hk : v 5 m = 29) (h' : XR v d 1 ar (m + 1) k s2) (hk4 : k < 401) (h1 : v 5 k ≠ 29) : XR v (d + 1) 0 ar n k (s1 ++ s2 ++ [(29, 0, 0)]) := fun w t st hw hl => by
  rw [List.length_append, List.length_append] at hl
  have hl' : t + st.length + (s1.length + s2.length + 1) ≤ 400 := hl
  obtain ⟨w1, e1, e2⟩ := h w t st hw (by omega)
  obtain ⟨w2, e3, e4⟩ := h' _ t _ (e2.mv (m := m + 1)) (by rw [List.length_append]; omega)
  obtain ⟨w3, e5, e6⟩ := e4.add (x := 29) (b := 0) (c := 0) (by rw [List.length_append, List.length_append]; omega)
  refine ⟨w3, ?_, by rw [← List.append_assoc, ← List.append_assoc]; exact e6⟩
  have hb : ∀ K, b_Reader_test_7 (g_Reader 4001 d) ar K (0, w1) = K (1, w3) := fun K => by
    unfold b_Reader_test_7
    simp only
    rw [if_neg (by decide), e2.see hm hk, ob, if_pos rfl, bd, e2.go, e3, ob, e5, ob]; rfl
  show f_Reader_test 4001 (g_Reader 4001 d) w ar = some w3
  unfold f_Reader_test
  rw [e1, ob]
  show b_Reader_test_7 (g_Reader 4001 d) ar (rp (b_Reader_test_7 (g_Reader 4001 d) ar) 4000) (0, w1) = some w3
  rw [hb]
  show b_Reader_test_7 (g_Reader 4001 d) ar (rp (b_Reader_test_7 (g_Reader 4001 d) ar) 3999) (1, w3) = some w3
  unfold b_Reader_test_7
  simp only
  rw [if_neg (by decide), e6.see hk4 rfl, ob, if_neg h1]
end
