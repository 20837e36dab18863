/-! THE READER'S OTHER VALUES -/
section
variable {v w u : Va} {n m t d k N i j j2 a : Nat} {y y2 x b c : Int32} {st : List S3} {ar : Int32} {GV : Nat → List Int32 → Va → Option Va}
theorem v_19 (h : RSx v w n t st) (hn : n < 401) (hl : t + st.length < 400) (hk : v 5 n = 19) : ∃ w1, f_Reader_value 4001 GV w ar = some w1 ∧ RSx v w1 (n + 1) t (st ++ [(19, 0, 0)]) := by
  obtain ⟨w3, e3, e4⟩ := (h.mv (m := n + 1)).add (x := 19) (b := 0) (c := 0) hl
  refine ⟨w3, ?_, e4⟩
  unfold f_Reader_value
  rw [h.see hn hk, ob]
  simp only [show ((19 : Int32) = 6) = False by decide, if_false, if_true, bd, h.go, e3, ob]
theorem v_20 (h : RSx v w n t st) (hn : n < 401) (hl : t + st.length < 400) (hk : v 5 n = 20) : ∃ w1, f_Reader_value 4001 GV w ar = some w1 ∧ RSx v w1 (n + 1) t (st ++ [(20, 0, 0)]) := by
  obtain ⟨w3, e3, e4⟩ := (h.mv (m := n + 1)).add (x := 20) (b := 0) (c := 0) hl
  refine ⟨w3, ?_, e4⟩
  unfold f_Reader_value
  rw [h.see hn hk, ob]
  simp only [show ((20 : Int32) = 6) = False by decide, show ((20 : Int32) = 19) = False by decide, if_false, if_true, bd, h.go, e3, ob]
theorem v_21 (h : RSx v w n t st) (hn : n + 1 < 401) (hl : t + st.length < 400) (hk : v 5 n = 21) (hk2 : v 5 (n + 1) = 47) (hy : v 11 (n + 1) = y) (hj : NMs v 58 10 j y) : ∃ w1, f_Reader_value 4001 GV w ar = some w1 ∧ RSx v w1 (n + 2) t (st ++ [(21, nI j, 0)]) := by
  obtain ⟨w2, e1, e2⟩ := (h.mv (m := n + 1)).name hn hk2 hy (by omega) (by omega) hj
  obtain ⟨w3, e3, e4⟩ := e2.add (x := 21) (b := nI j) (c := 0) hl
  refine ⟨w3, ?_, e4⟩
  unfold f_Reader_value
  rw [h.see (by omega) hk, ob]
  simp only [show ((21 : Int32) = 6) = False by decide, show ((21 : Int32) = 19) = False by decide, show ((21 : Int32) = 20) = False by decide, if_false, if_true, bd, h.go, e1, e3, ob]
theorem v_22 (h : RSx v w n t st) (hn : n + 1 < 401) (hl : t + st.length < 400) (hk : v 5 n = 22) (hk2 : v 5 (n + 1) = 47) (hy : v 11 (n + 1) = y) (hj : NMs v 58 10 j y) : ∃ w1, f_Reader_value 4001 GV w ar = some w1 ∧ RSx v w1 (n + 2) t (st ++ [(22, nI j, 0)]) := by
  obtain ⟨w2, e1, e2⟩ := (h.mv (m := n + 1)).name hn hk2 hy (by omega) (by omega) hj
  obtain ⟨w3, e3, e4⟩ := e2.add (x := 22) (b := nI j) (c := 0) hl
  refine ⟨w3, ?_, e4⟩
  unfold f_Reader_value
  rw [h.see (by omega) hk, ob]
  simp only [show ((22 : Int32) = 6) = False by decide, show ((22 : Int32) = 19) = False by decide, show ((22 : Int32) = 20) = False by decide, show ((22 : Int32) = 21) = False by decide, if_false, if_true, bd, h.go, e1, e3, ob]
theorem v_23 (h : RSx v w n t st) (hn : n + 1 < 401) (hl : t + st.length < 400) (hk : v 5 n = 23) (hk2 : v 5 (n + 1) = 47) (hy : v 11 (n + 1) = y) (hj : NMs v 58 10 j y) : ∃ w1, f_Reader_value 4001 GV w ar = some w1 ∧ RSx v w1 (n + 2) t (st ++ [(23, nI j, 0)]) := by
  obtain ⟨w2, e1, e2⟩ := (h.mv (m := n + 1)).name hn hk2 hy (by omega) (by omega) hj
  obtain ⟨w3, e3, e4⟩ := e2.add (x := 23) (b := nI j) (c := 0) hl
  refine ⟨w3, ?_, e4⟩
  unfold f_Reader_value
  rw [h.see (by omega) hk, ob]
  simp only [show ((23 : Int32) = 6) = False by decide, show ((23 : Int32) = 19) = False by decide, show ((23 : Int32) = 20) = False by decide, show ((23 : Int32) = 21) = False by decide, show ((23 : Int32) = 22) = False by decide, if_false, if_true, bd, h.go, e1, e3, ob]
theorem v_24 (h : RSx v w n t st) (hn : n + 1 < 401) (hl : t + st.length < 400) (hk : v 5 n = 24) (hk2 : v 5 (n + 1) = 47) (hy : v 11 (n + 1) = y) (hj : NMs v 55 6 j y) : ∃ w1, f_Reader_value 4001 GV w ar = some w1 ∧ RSx v w1 (n + 2) t (st ++ [(24, nI j, 0)]) := by
  obtain ⟨w2, e1, e2⟩ := (h.mv (m := n + 1)).name hn hk2 hy (by omega) (by omega) hj
  obtain ⟨w3, e3, e4⟩ := e2.add (x := 24) (b := nI j) (c := 0) hl
  refine ⟨w3, ?_, e4⟩
  unfold f_Reader_value
  rw [h.see (by omega) hk, ob]
  simp only [show ((24 : Int32) = 6) = False by decide, show ((24 : Int32) = 19) = False by decide, show ((24 : Int32) = 20) = False by decide, show ((24 : Int32) = 21) = False by decide, show ((24 : Int32) = 22) = False by decide, show ((24 : Int32) = 23) = False by decide, if_false, if_true, bd, h.go, e1, e3, ob]
theorem v_6 (h : RSx v w n t st) (hn : n + 1 < 401) (hl : t + st.length < 400) (hk : v 5 n = 6) (hk2 : v 5 (n + 1) = 47) (hy : v 11 (n + 1) = y) (hj : NMs v 55 6 j y) : ∃ w1, f_Reader_value 4001 GV w ar = some w1 ∧ RSx v w1 (n + 2) t (st ++ [(6, nI j, 0)]) := by
  obtain ⟨w2, e1, e2⟩ := (h.mv (m := n + 1)).name hn hk2 hy (by omega) (by omega) hj
  obtain ⟨w3, e3, e4⟩ := e2.add (x := 6) (b := nI j) (c := 0) hl
  refine ⟨w3, ?_, e4⟩
  unfold f_Reader_value
  rw [h.see (by omega) hk, ob]
  simp only [if_false, if_true, bd, h.go, e1, e3, ob]
theorem v_25 (h : RSx v w n t st) (hn : n + 2 < 401) (hl : t + st.length < 400) (hk : v 5 n = 25) (hk2 : v 5 (n + 1) = 47) (hy : v 11 (n + 1) = y) (hj : NMs v 55 6 j y) (hk3 : v 5 (n + 2) = 47) (hy2 : v 11 (n + 2) = y2) (hj2 : NMs v 55 6 j2 y2) : ∃ w1, f_Reader_value 4001 GV w ar = some w1 ∧ RSx v w1 (n + 3) t (st ++ [(25, nI j, nI j2)]) := by
  obtain ⟨w2, e1, e2⟩ := (h.mv (m := n + 1)).name (by omega) hk2 hy (by omega) (by omega) hj
  obtain ⟨w5, e5, e6⟩ := e2.name (by omega) hk3 hy2 (by omega) (by omega) hj2
  obtain ⟨w3, e3, e4⟩ := e6.add (x := 25) (b := nI j) (c := nI j2) hl
  refine ⟨w3, ?_, e4⟩
  unfold f_Reader_value
  rw [h.see (by omega) hk, ob]
  simp only [show ((25 : Int32) = 6) = False by decide, show ((25 : Int32) = 19) = False by decide, show ((25 : Int32) = 20) = False by decide, show ((25 : Int32) = 21) = False by decide, show ((25 : Int32) = 22) = False by decide, show ((25 : Int32) = 23) = False by decide, show ((25 : Int32) = 24) = False by decide, if_false, if_true, bd, h.go, e1, e5, e3, ob]
/-- a product of one value; and of two -/
theorem p_one {w1 : Va} (h : GV 7 [ar] w = some w1) (hR : RSx v w1 n t st) (hn : n < 401) (h1 : v 5 n ≠ 40) (h2 : v 5 n ≠ 41) : f_Reader_product 4001 GV w ar = some w1 := by
  unfold f_Reader_product
  rw [h, ob, hR.see hn rfl, ob]
  show b_Reader_product_12 GV ar _ (v 5 n, 0, w1) = some w1
  unfold b_Reader_product_12
  simp only
  rw [if_neg (by decide), if_neg h1, if_neg h2]
theorem p_two {w1 w2 : Va} {st2 : List S3} (hx : x = 40 ∨ x = 41) (h : GV 7 [ar] w = some w1) (hR : RSx v w1 n t st) (hn : n < 401) (hk : v 5 n = x) (h3 : GV 7 [ar] (pu w1 12 6 (nI (n + 1))) = some w2) (hR2 : RSx v w2 m t st2) (hm : m < 401) (hl : t + st2.length < 400) (h1 : v 5 m ≠ 40) (h2 : v 5 m ≠ 41) : ∃ w3, f_Reader_product 4001 GV w ar = some w3 ∧ RSx v w3 m t (st2 ++ [(x, 0, 0)]) := by
  obtain ⟨w3, e3, e4⟩ := hR2.add (x := x) (b := 0) (c := 0) hl
  refine ⟨w3, ?_, e4⟩
  unfold f_Reader_product
  rw [h, ob, hR.see hn hk, ob]
  have hj : ∀ K, j_Reader_product_31 GV ar K (x, 0, w1) = K (v 5 m, 1, w3) := fun K => by
    unfold j_Reader_product_31
    simp only [bd, hR.go]
    rw [h3, ob, e3, ob, e4.see hm rfl, ob]; rfl
  have hb : ∀ K, b_Reader_product_12 GV ar K (x, 0, w1) = K (v 5 m, 1, w3) := fun K => by
    unfold b_Reader_product_12
    simp only
    rw [if_neg (by decide), hj]
    rcases hx with e | e
    · rw [if_pos e]
    · rw [if_neg (by rw [e]; decide), if_pos e]
  show b_Reader_product_12 GV ar (rp (b_Reader_product_12 GV ar) 4000) (x, 0, w1) = some w3
  rw [hb]
  show b_Reader_product_12 GV ar (rp (b_Reader_product_12 GV ar) 3999) (v 5 m, 1, w3) = some w3
  unfold b_Reader_product_12
  simp only
  rw [if_neg (by decide), if_neg h1, if_neg h2]
end
