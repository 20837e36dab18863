/-! TESTS, BY RULES -/
section
variable {v w u : Va} {n m t d k N i j j2 a : Nat} {y y2 x b c : Int32} {st s1 s2 : List S3} {ar : Int32} {GV : Nat → List Int32 → Va → Option Va}
/-- two sums compared -/
theorem XR.cmp (h1 : XR v d 5 ar n m s1) (hn : n < 401) (h6 : v 5 n ≠ 26) (h7 : v 5 n ≠ 27) (h8 : v 5 n ≠ 34) (hm : m < 401) (hk : v 5 m = x) (hx : ¬ x < 42 ∧ ¬ 46 < x) (h2 : XR v d 5 ar (m + 1) k s2) : XR v (d + 1) 2 ar n k (s1 ++ s2 ++ [(x, 0, 0)]) := fun w t st hw hl => by
  rw [List.length_append, List.length_append] at hl
  have hl' : t + st.length + (s1.length + s2.length + 1) ≤ 400 := hl
  obtain ⟨w1, e1, e2⟩ := h1 w t st hw (by omega)
  obtain ⟨w2, e3, e4⟩ := h2 _ t _ (e2.mv (m := m + 1)) (by rw [List.length_append]; omega)
  obtain ⟨w3, e5, e6⟩ := e4.add (x := x) (b := 0) (c := 0) (by rw [List.length_append, List.length_append]; omega)
  refine ⟨w3, ?_, by rw [← List.append_assoc, ← List.append_assoc]; exact e6⟩
  have ec : f_Reader_takeComparison w1 = some (x, pu w1 12 6 (nI (m + 1))) := by
    unfold f_Reader_takeComparison f_Kind_compares
    rw [e2.see hm hk, ob, if_neg hx.1, if_neg hx.2, ob, if_neg (show ¬ q_b true = 0 by decide), bd, e2.go]
  show f_Reader_single 4001 (g_Reader 4001 d) w ar = some w3
  unfold f_Reader_single
  rw [hw.see hn rfl, ob, if_neg h6, if_neg h7, if_neg h8, e1, ob, ec, ob, e3, ob, e5, ob]
/-- a merchant owns a lot -/
theorem XR.owns (hn : n + 2 < 401) (hk : v 5 n = 26) (hk2 : v 5 (n + 1) = 47) (hy : v 11 (n + 1) = y) (hj : NMs v 55 6 j y) (hk3 : v 5 (n + 2) = 47) (hy2 : v 11 (n + 2) = y2) (hj2 : NMs v 58 10 j2 y2) : XR v (d + 1) 2 ar n (n + 3) [(26, nI j, nI j2)] := fun w t st hw hl => by
  have hl' : t + st.length + 1 ≤ 400 := hl
  obtain ⟨w2, e1, e2⟩ := (hw.mv (m := n + 1)).name (by omega) hk2 hy (by omega) (by omega) hj
  obtain ⟨w5, e5, e6⟩ := e2.name (by omega) hk3 hy2 (by omega) (by omega) hj2
  obtain ⟨w3, e3, e4⟩ := e6.add (x := 26) (b := nI j) (c := nI j2) (by omega)
  refine ⟨w3, ?_, e4⟩
  show f_Reader_single 4001 (g_Reader 4001 d) w ar = some w3
  unfold f_Reader_single
  rw [hw.see (by omega) hk, ob, if_pos rfl, bd, hw.go, e1, ob, e5, ob, e3, ob]
theorem XR.not (hn : n < 401) (hk : v 5 n = 27) (ha : ¬ 8 ≤ ar) (h : XR v d 2 (ar + 1) (n + 1) m s1) : XR v (d + 2) 2 ar n m (s1 ++ [(27, 0, 0)]) := fun w t st hw hl => by
  rw [List.length_append] at hl
  have hl' : t + st.length + (s1.length + 1) ≤ 400 := hl
  obtain ⟨w1, e1, e2⟩ := hw.deep hn hk ha
  obtain ⟨w2, e3, e4⟩ := h w1 t st e2 (by omega)
  obtain ⟨w3, e5, e6⟩ := e4.add (x := 27) (b := 0) (c := 0) (by rw [List.length_append]; omega)
  refine ⟨w3, ?_, by rw [← List.append_assoc]; exact e6⟩
  have e8 : g_Reader 4001 (d + 1) 3 [ar] w = some w3 := by
    show f_Reader_turnedTest 4001 (g_Reader 4001 d) w ar = some w3
    unfold f_Reader_turnedTest
    rw [e1, ob, if_neg (show ¬ q_b true = 0 by decide), e3, ob, e5, ob]
  show f_Reader_single 4001 (g_Reader 4001 (d + 1)) w ar = some w3
  unfold f_Reader_single
  rw [hw.see hn hk, ob, if_neg (by decide), if_pos rfl, e8, ob]
theorem XR.box (hn : n < 401) (hk : v 5 n = 34) (ha : ¬ 8 ≤ ar) (h : XR v d 0 (ar + 1) (n + 1) m s1) (hm : m < 401) (hk2 : v 5 m = 35) : XR v (d + 2) 2 ar n (m + 1) s1 := fun w t st hw hl => by
  obtain ⟨w1, e1, e2⟩ := hw.deep hn hk ha
  obtain ⟨w2, e3, e4⟩ := h w1 t st e2 hl
  obtain ⟨w3, e5, e6⟩ := e4.take hm hk2
  refine ⟨w3, ?_, e6⟩
  have e8 : g_Reader 4001 (d + 1) 4 [ar] w = some w3 := by
    show f_Reader_testInBrackets 4001 (g_Reader 4001 d) w ar = some w3
    unfold f_Reader_testInBrackets
    rw [e1, ob, if_neg (show ¬ q_b true = 0 by decide), e3, ob, e5, ob]
  show f_Reader_single 4001 (g_Reader 4001 (d + 1)) w ar = some w3
  unfold f_Reader_single
  rw [hw.see hn hk, ob, if_neg (by decide), if_neg (by decide), if_pos rfl, e8, ob]
/-- one test, two tests -/
theorem XR.both (h : XR v d 2 ar n m s1) (hm : m < 401) (h1 : v 5 m ≠ 28) : XR v (d + 1) 1 ar n m s1 := fun w t st hw hl => by
  obtain ⟨w1, e1, e2⟩ := h w t st hw hl
  refine ⟨w1, ?_, e2⟩
  show f_Reader_both 4001 (g_Reader 4001 d) w ar = some w1
  unfold f_Reader_both
  rw [e1, ob]
  show b_Reader_both_7 (g_Reader 4001 d) ar _ (0, w1) = some w1
  unfold b_Reader_both_7
  simp only
  rw [if_neg (by decide), e2.see hm rfl, ob, if_neg h1]
theorem XR.both2 (h : XR v d 2 ar n m s1) (hm : m < 401) (hk : v 5 m = 28) (h' : XR v d 2 ar (m + 1) k s2) (hk4 : k < 401) (h1 : v 5 k ≠ 28) : XR v (d + 1) 1 ar n k (s1 ++ s2 ++ [(28, 0, 0)]) := fun w t st hw hl => by
  rw [List.length_append, List.length_append] at hl
  have hl' : t + st.length + (s1.length + s2.length + 1) ≤ 400 := hl
  obtain ⟨w1, e1, e2⟩ := h w t st hw (by omega)
  obtain ⟨w2, e3, e4⟩ := h' _ t _ (e2.mv (m := m + 1)) (by rw [List.length_append]; omega)
  obtain ⟨w3, e5, e6⟩ := e4.add (x := 28) (b := 0) (c := 0) (by rw [List.length_append, List.length_append]; omega)
  refine ⟨w3, ?_, by rw [← List.append_assoc, ← List.append_assoc]; exact e6⟩
  have hb : ∀ K, b_Reader_both_7 (g_Reader 4001 d) ar K (0, w1) = K (1, w3) := fun K => by
    unfold b_Reader_both_7
    simp only
    rw [if_neg (by decide), e2.see hm hk, ob, if_pos rfl, bd, e2.go, e3, ob, e5, ob]; rfl
  show f_Reader_both 4001 (g_Reader 4001 d) w ar = some w3
  unfold f_Reader_both
  rw [e1, ob]
  show b_Reader_both_7 (g_Reader 4001 d) ar (rp (b_Reader_both_7 (g_Reader 4001 d) ar) 4000) (0, w1) = some w3
  rw [hb]
  show b_Reader_both_7 (g_Reader 4001 d) ar (rp (b_Reader_both_7 (g_Reader 4001 d) ar) 3999) (1, w3) = some w3
  unfold b_Reader_both_7
  simp only
  rw [if_neg (by decide), e6.see hk4 rfl, ob, if_neg h1]
end
