/-! MINUS, MIN AND MAX -/
section
variable {v w u : Va} {n m t d k N i j j2 a : Nat} {y y2 x b c : Int32} {st s1 s2 : List S3} {ar : Int32} {GV : Nat → List Int32 → Va → Option Va}
theorem RSx.deep (h : RSx v w n t st) (hn : n < 401) (hk : v 5 n = x) (ha : ¬ 8 ≤ ar) : ∃ w1, f_Reader_goesDeeper w x ar = some (true, w1) ∧ RSx v w1 (n + 1) t st := by
  refine ⟨_, ?_, h.mv (m := n + 1)⟩
  unfold f_Reader_goesDeeper
  rw [if_neg ha, h.see hn hk, ob, if_pos rfl, bd, h.go]
theorem XR.neg (hn : n < 401) (hk : v 5 n = 39) (ha : ¬ 8 ≤ ar) (h : XR v d 7 (ar + 1) (n + 1) m s1) : XR v (d + 2) 7 ar n m (s1 ++ [(51, 0, 0)]) := fun w t st hw hl => by
  rw [List.length_append] at hl
  have hl' : t + st.length + (s1.length + 1) ≤ 400 := hl
  obtain ⟨w1, e1, e2⟩ := hw.deep hn hk ha
  obtain ⟨w2, e3, e4⟩ := h w1 t st e2 (by omega)
  obtain ⟨w3, e5, e6⟩ := e4.add (x := 51) (b := 0) (c := 0) (by rw [List.length_append]; omega)
  refine ⟨w3, ?_, by rw [← List.append_assoc]; exact e6⟩
  show f_Reader_value 4001 (g_Reader 4001 (d + 1)) w ar = some w3
  unfold f_Reader_value
  rw [hw.see hn hk, ob]
  have e8 : g_Reader 4001 (d + 1) 8 [ar] w = some w3 := by
    show f_Reader_turnedValue 4001 (g_Reader 4001 d) w ar = some w3
    unfold f_Reader_turnedValue
    rw [e1, ob, if_neg (show ¬ q_b true = 0 by decide), e3, ob, e5, ob]
  simp only [show ((39 : Int32) = 6) = False by decide, show ((39 : Int32) = 19) = False by decide, show ((39 : Int32) = 20) = False by decide, show ((39 : Int32) = 21) = False by decide, show ((39 : Int32) = 22) = False by decide, show ((39 : Int32) = 23) = False by decide, show ((39 : Int32) = 24) = False by decide, show ((39 : Int32) = 25) = False by decide, show ((39 : Int32) = 30) = False by decide, show ((39 : Int32) = 31) = False by decide, show ((39 : Int32) = 32) = False by decide, if_false, if_true, e8, ob]
theorem XR.mm (hx : x = 30 ∨ x = 31) (hn : n + 1 < 401) (hk : v 5 n = x) (hk1 : v 5 (n + 1) = 32) (ha : ¬ 8 ≤ ar) (h1 : XR v d 5 (ar + 1) (n + 2) m s1) (hm : m < 401) (hk2 : v 5 m = 37) (h2 : XR v d 5 (ar + 1) (m + 1) k s2) (hk4 : k < 401) (hk3 : v 5 k = 33) : XR v (d + 2) 7 ar n (k + 1) (s1 ++ s2 ++ [(x, 0, 0)]) := fun w t st hw hl => by
  rw [List.length_append, List.length_append] at hl
  have hl' : t + st.length + (s1.length + s2.length + 1) ≤ 400 := hl
  obtain ⟨w1, e1, e2⟩ := (hw.mv (m := n + 1)).deep hn hk1 ha
  obtain ⟨w2, e3, e4⟩ := h1 w1 t st e2 (by omega)
  obtain ⟨w3, e5, e6⟩ := e4.take hm hk2
  obtain ⟨w4, e7, e8⟩ := h2 w3 t _ e6 (by rw [List.length_append]; omega)
  obtain ⟨w5, e9, f1⟩ := e8.take hk4 hk3
  obtain ⟨w6, f2, f3⟩ := f1.add (x := x) (b := 0) (c := 0) (by rw [List.length_append, List.length_append]; omega)
  refine ⟨w6, ?_, by rw [← List.append_assoc, ← List.append_assoc]; exact f3⟩
  have f4 : g_Reader 4001 (d + 1) 10 [x, ar] w = some w6 := by
    show f_Reader_oneOfTwoSums 4001 (g_Reader 4001 d) w x ar = some w6
    unfold f_Reader_oneOfTwoSums
    rw [bd, hw.go, e1, ob, if_neg (show ¬ q_b true = 0 by decide), e3, ob, e5, ob, e7, ob, e9, ob, f2, ob]
  show f_Reader_value 4001 (g_Reader 4001 (d + 1)) w ar = some w6
  unfold f_Reader_value
  rw [hw.see (by omega) hk, ob]
  rcases hx with rfl | rfl
  · simp only [show ((30 : Int32) = 6) = False by decide, show ((30 : Int32) = 19) = False by decide, show ((30 : Int32) = 20) = False by decide, show ((30 : Int32) = 21) = False by decide, show ((30 : Int32) = 22) = False by decide, show ((30 : Int32) = 23) = False by decide, show ((30 : Int32) = 24) = False by decide, show ((30 : Int32) = 25) = False by decide, if_false, if_true, f4, ob]
  · simp only [show ((31 : Int32) = 6) = False by decide, show ((31 : Int32) = 19) = False by decide, show ((31 : Int32) = 20) = False by decide, show ((31 : Int32) = 21) = False by decide, show ((31 : Int32) = 22) = False by decide, show ((31 : Int32) = 23) = False by decide, show ((31 : Int32) = 24) = False by decide, show ((31 : Int32) = 25) = False by decide, show ((31 : Int32) = 30) = False by decide, if_false, if_true, f4, ob]
end
