/-! EXPRESSIONS, BY RULES -/
section
variable {v w u : Va} {n m t d k N i j j2 a : Nat} {y y2 x b c : Int32} {st s1 s2 : List S3} {ar : Int32} {GV : Nat → List Int32 → Va → Option Va}
/-- a sum of one product; and of two -/
theorem a_one {w1 : Va} (h : GV 6 [ar] w = some w1) (hR : RSx v w1 n t st) (hn : n < 401) (h1 : v 5 n ≠ 38) (h2 : v 5 n ≠ 39) : f_Reader_sum 4001 GV w ar = some w1 := by
  unfold f_Reader_sum
  rw [h, ob, hR.see hn rfl, ob]
  show b_Reader_sum_12 GV ar _ (v 5 n, 0, w1) = some w1
  unfold b_Reader_sum_12
  simp only
  rw [if_neg (by decide), if_neg h1, if_neg h2]
theorem a_two {w1 w2 : Va} {st2 : List S3} (hx : x = 38 ∨ x = 39) (h : GV 6 [ar] w = some w1) (hR : RSx v w1 n t st) (hn : n < 401) (hk : v 5 n = x) (h3 : GV 6 [ar] (pu w1 12 6 (nI (n + 1))) = some w2) (hR2 : RSx v w2 m t st2) (hm : m < 401) (hl : t + st2.length < 400) (h1 : v 5 m ≠ 38) (h2 : v 5 m ≠ 39) : ∃ w3, f_Reader_sum 4001 GV w ar = some w3 ∧ RSx v w3 m t (st2 ++ [(x, 0, 0)]) := by
  obtain ⟨w3, e3, e4⟩ := hR2.add (x := x) (b := 0) (c := 0) hl
  refine ⟨w3, ?_, e4⟩
  unfold f_Reader_sum
  rw [h, ob, hR.see hn hk, ob]
  have hj : ∀ K, j_Reader_sum_31 GV ar K (x, 0, w1) = K (v 5 m, 1, w3) := fun K => by
    unfold j_Reader_sum_31
    simp only [bd, hR.go]
    rw [h3, ob, e3, ob, e4.see hm rfl, ob]; rfl
  have hb : ∀ K, b_Reader_sum_12 GV ar K (x, 0, w1) = K (v 5 m, 1, w3) := fun K => by
    unfold b_Reader_sum_12
    simp only
    rw [if_neg (by decide), hj]
    rcases hx with e | e
    · rw [if_pos e]
    · rw [if_neg (by rw [e]; decide), if_pos e]
  show b_Reader_sum_12 GV ar (rp (b_Reader_sum_12 GV ar) 4000) (x, 0, w1) = some w3
  rw [hb]
  show b_Reader_sum_12 GV ar (rp (b_Reader_sum_12 GV ar) 3999) (v 5 m, 1, w3) = some w3
  unfold b_Reader_sum_12
  simp only
  rw [if_neg (by decide), if_neg h1, if_neg h2]
/-- what the reader's method i reads from token n to m: these steps -/
def XR (v : Va) (d i : Nat) (ar : Int32) (n m : Nat) (ss : List S3) : Prop := ∀ (w : Va) (t : Nat) (st : List S3), RSx v w n t st → t + st.length + ss.length ≤ 400 → ∃ w1, g_Reader 4001 d i [ar] w = some w1 ∧ RSx v w1 m t (st ++ ss)
theorem XR.val {ss : List S3} (h : ∀ (GV : Nat → List Int32 → Va → Option Va) (w : Va) (t : Nat) (st : List S3), RSx v w n t st → t + st.length < 400 → ∃ w1, f_Reader_value 4001 GV w ar = some w1 ∧ RSx v w1 m t (st ++ ss)) (hs : 1 ≤ ss.length) : XR v (d + 1) 7 ar n m ss := fun w t st hw hl => h _ w t st hw (by omega)
theorem XR.prod (h : XR v d 7 ar n m s1) (hm : m < 401) (h1 : v 5 m ≠ 40) (h2 : v 5 m ≠ 41) : XR v (d + 1) 6 ar n m s1 := fun w t st hw hl => by
  obtain ⟨w1, e1, e2⟩ := h w t st hw hl
  exact ⟨w1, p_one e1 e2 hm h1 h2, e2⟩
theorem XR.prod2 (h : XR v d 7 ar n m s1) (hm : m < 401) (hx : x = 40 ∨ x = 41) (hk : v 5 m = x) (h' : XR v d 7 ar (m + 1) k s2) (hk4 : k < 401) (h1 : v 5 k ≠ 40) (h2 : v 5 k ≠ 41) : XR v (d + 1) 6 ar n k (s1 ++ s2 ++ [(x, 0, 0)]) := fun w t st hw hl => by
  rw [List.length_append, List.length_append] at hl
  have hl' : t + st.length + (s1.length + s2.length + 1) ≤ 400 := hl
  obtain ⟨w1, e1, e2⟩ := h w t st hw (by omega)
  obtain ⟨w2, e3, e4⟩ := h' _ t (st ++ s1) (e2.mv (m := m + 1)) (by rw [List.length_append]; omega)
  obtain ⟨w3, e5, e6⟩ := p_two (GV := g_Reader 4001 d) hx e1 e2 hm hk e3 e4 hk4 (by rw [List.length_append, List.length_append]; omega) h1 h2
  refine ⟨w3, e5, ?_⟩
  rw [← List.append_assoc, ← List.append_assoc]
  exact e6
theorem XR.sum (h : XR v d 6 ar n m s1) (hm : m < 401) (h1 : v 5 m ≠ 38) (h2 : v 5 m ≠ 39) : XR v (d + 1) 5 ar n m s1 := fun w t st hw hl => by
  obtain ⟨w1, e1, e2⟩ := h w t st hw hl
  exact ⟨w1, a_one e1 e2 hm h1 h2, e2⟩
theorem XR.sum2 (h : XR v d 6 ar n m s1) (hm : m < 401) (hx : x = 38 ∨ x = 39) (hk : v 5 m = x) (h' : XR v d 6 ar (m + 1) k s2) (hk4 : k < 401) (h1 : v 5 k ≠ 38) (h2 : v 5 k ≠ 39) : XR v (d + 1) 5 ar n k (s1 ++ s2 ++ [(x, 0, 0)]) := fun w t st hw hl => by
  rw [List.length_append, List.length_append] at hl
  have hl' : t + st.length + (s1.length + s2.length + 1) ≤ 400 := hl
  obtain ⟨w1, e1, e2⟩ := h w t st hw (by omega)
  obtain ⟨w2, e3, e4⟩ := h' _ t (st ++ s1) (e2.mv (m := m + 1)) (by rw [List.length_append]; omega)
  obtain ⟨w3, e5, e6⟩ := a_two (GV := g_Reader 4001 d) hx e1 e2 hm hk e3 e4 hk4 (by rw [List.length_append, List.length_append]; omega) h1 h2
  refine ⟨w3, e5, ?_⟩
  rw [← List.append_assoc, ← List.append_assoc]
  exact e6
end
