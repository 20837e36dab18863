/-! THE READER'S LINES THAT ORDER: their sums and tests -/
section
variable {v w vA w1 : Va} {F : List Int32 → Int32} {m n t o g f n4 n6 a9 b9 l9 o9 k N j : Nat} {y : Int32} {ss : List S3}
/-- these steps stand from t on -/
def GSt (w : Va) (t : Nat) (ss : List S3) : Prop := ∀ (i : Nat) (s : S3), ss[i]? = some s → w 44 (t + i) = s.1 ∧ w 46 (t + i) = s.2.1 ∧ w 48 (t + i) = s.2.2
theorem NMs.cg (h : NMs v k N j y) (h1 : w k = v k) (h2 : w (k + 2) = v (k + 2)) : NMs w k N j y := by
  unfold NMs at h ⊢
  rw [h1, h2]; exact h
theorem sT_len : (sT_ g n6 a9 b9 l9 o9).length ≤ 17 := by
  unfold sT_
  split <;> exact Nat.le_of_ble_eq_true rfl
theorem sS_len : (sS_ f n4 a9 b9 l9).length ≤ 5 := by
  unfold sS_
  split <;> exact Nat.le_of_ble_eq_true rfl
theorem or_t (hR : RSx vA w1 m t ss) (h13 : v 13 4 = nI o) (ho : o < 24) (hT : TA vA F m (whP g n6 a9 b9 l9 o9 ++ [zG 4 [10]])) (hm : m + (whP g n6 a9 b9 l9 o9).length < 400) (hg : g ≤ 7) (h6 : n6 ≤ 999) (hA : NMs vA 55 6 a9 (F [109, nI (48 + a9)])) (hB : NMs vA 55 6 b9 (F [109, nI (48 + b9)])) (hL : NMs vA 58 10 l9 (F [108, nI (48 + l9)])) (hO : NMs vA 58 10 o9 (F [108, nI (48 + o9)])) (hl : t + ss.length + 20 ≤ 400) :
    ∃ w2, j_Reader_orderLine_157 4001 v w1 = j_Reader_orderLine_202 v w2 ∧ RSx (up w1 39 (upd (vA 39) o (nI (t + ss.length)))) w2 (m + (whP g n6 a9 b9 l9 o9).length) (t + ss.length) (sT_ g n6 a9 b9 l9 o9) := by
  have e39 : w1 39 = vA 39 := hR.at (by omega)
  have hq : up w1 39 (row_s 24 (w1 39) (v 13 4) (w1 42 0)) = up w1 39 (upd (vA 39) o (nI (t + ss.length))) := by rw [h13, hR.2.2.1, rs ho (by omega), e39]
  obtain ⟨vC, hC⟩ : ∃ x, x = up w1 39 (upd (vA 39) o (nI (t + ss.length))) := ⟨_, rfl⟩
  rw [← hC]
  have hcq : ∀ q, q ≠ 39 → vC q = w1 q := fun q hq => by rw [hC, up_ne hq]
  have hca : ∀ q, (q < 12 ∨ (12 < q ∧ q < 39) ∨ 48 < q) → vC q = vA q := fun q hq => by rw [hcq q (by omega), hR.at (by omega)]
  have hRC : RSx vC vC m (t + ss.length) [] := RSx.rf (by rw [hcq 12 (by omega)]; exact hR.1) (by rw [hcq 12 (by omega)]; exact hR.2.1) (by rw [hcq 42 (by omega)]; exact hR.2.2.1)
  have hTC : TA vC F m (whP g n6 a9 b9 l9 o9 ++ [zG 4 [10]]) := hT.cg (hca 5 (by omega)) (hca 11 (by omega))
  have hend : vC 5 (m + (whP g n6 a9 b9 l9 o9).length) = 36 := hTC.right.1
  unfold j_Reader_orderLine_157
  rw [hq, ← hC, bd]
  by_cases hg0 : g = 0
  · subst hg0
    refine ⟨vC, ?_, hRC⟩
    rw [hRC.see (x := 36) (by omega) hend, ob, if_neg (by decide)]
  · obtain ⟨k18, hX⟩ := x_wh (by omega) hg hTC.left (by omega) h6 (hA.cg (hca 55 (by omega)) (hca 57 (by omega))) (hB.cg (hca 55 (by omega)) (hca 57 (by omega))) (hL.cg (hca 58 (by omega)) (hca 60 (by omega))) (hO.cg (hca 58 (by omega)) (hca 60 (by omega))) (Or.inl hend)
    have hlen := sT_len (g := g) (n6 := n6) (a9 := a9) (b9 := b9) (l9 := l9) (o9 := o9)
    obtain ⟨w2, e1, e2⟩ := hX _ (t + ss.length) [] (hRC.mv (m := m + 1)) (by rw [List.length_nil]; omega)
    refine ⟨w2, ?_, e2⟩
    rw [hRC.see (by omega) k18, ob, if_pos rfl, bd, hRC.go, e1, ob]
/-- an order's last part: its test, and the semicolon -/
theorem or_d (hR : RSx vA w1 m t ss) (h13 : v 13 4 = nI o) (h13a : vA 13 = v 13) (ho : o < 24) (hT : TA vA F m (whP g n6 a9 b9 l9 o9 ++ [zG 4 [10]])) (hm : m + (whP g n6 a9 b9 l9 o9).length < 400) (hg : g ≤ 7) (h6 : n6 ≤ 999) (hA : NMs vA 55 6 a9 (F [109, nI (48 + a9)])) (hB : NMs vA 55 6 b9 (F [109, nI (48 + b9)])) (hL : NMs vA 58 10 l9 (F [108, nI (48 + l9)])) (hO : NMs vA 58 10 o9 (F [108, nI (48 + o9)])) (hl : t + ss.length + 20 ≤ 400) :
    ∃ w, ((j_Reader_orderLine_157 4001 v w1).bind fun q => f_Reader_take q 36) = some w ∧ w 12 7 = 0 ∧ w 12 6 = nI (m + ((whP g n6 a9 b9 l9 o9).length + 1)) ∧ w 13 = upd (v 13) 4 (nI (o + 1)) ∧ w 39 = upd (vA 39) o (nI (t + ss.length)) ∧ w 41 = upd (vA 41) o (nI (t + ss.length + (sT_ g n6 a9 b9 l9 o9).length)) ∧ w 42 0 = nI (t + ss.length + (sT_ g n6 a9 b9 l9 o9).length) ∧ GSt w t ss ∧ GSt w (t + ss.length) (sT_ g n6 a9 b9 l9 o9) ∧ (∀ i, i < t → w 44 i = vA 44 i ∧ w 46 i = vA 46 i ∧ w 48 i = vA 48 i) ∧ ∀ q, q ≠ 12 → q ≠ 13 → q ≠ 39 → q ≠ 41 → q ≠ 42 → q ≠ 44 → q ≠ 46 → q ≠ 48 → w q = vA q := by
  obtain ⟨w2, e, hR2⟩ := or_t hR h13 ho hT hm hg h6 hA hB hL hO hl
  rw [e]
  generalize hst : sT_ g n6 a9 b9 l9 o9 = st at hR2 ⊢
  generalize hml : (whP g n6 a9 b9 l9 o9).length = ml at hm hR2 ⊢
  obtain ⟨vC, hC⟩ : ∃ x, x = up w1 39 (upd (vA 39) o (nI (t + ss.length))) := ⟨_, rfl⟩
  rw [← hC] at hR2
  have hcq : ∀ q, q ≠ 39 → vC q = w1 q := fun q hq => by rw [hC, up_ne hq]
  have hca : ∀ q, (q ≠ 12 ∧ q ≠ 39 ∧ q ≠ 42 ∧ q ≠ 44 ∧ q ≠ 46 ∧ q ≠ 48) → vC q = vA q := fun q hq => by rw [hcq q (by omega)]; exact hR.2.2.2.2.2.1 q (by omega) (by omega) (by omega) (by omega) (by omega)
  have h2q : ∀ q, (q ≠ 12 ∧ q ≠ 39 ∧ q ≠ 42 ∧ q ≠ 44 ∧ q ≠ 46 ∧ q ≠ 48) → w2 q = vA q := fun q hq => by rw [hR2.2.2.2.2.2.1 q (by omega) (by omega) (by omega) (by omega) (by omega)]; exact hca q hq
  have e41 : up w2 41 (row_s 24 (w2 41) (v 13 4) (w2 42 0)) = up w2 41 (upd (vA 41) o (nI (t + ss.length + st.length))) := by rw [h13, hR2.2.2.1, rs ho (by omega), h2q 41 (by omega)]
  have e13 : w2 13 4 = nI o := by rw [h2q 13 (by omega), h13a, h13]
  have e132 : pu (up w2 41 (upd (vA 41) o (nI (t + ss.length + st.length)))) 13 4 ((up w2 41 (upd (vA 41) o (nI (t + ss.length + st.length)))) 13 4 + 1) = pu (up w2 41 (upd (vA 41) o (nI (t + ss.length + st.length)))) 13 4 (nI (o + 1)) := by rw [up_ne (show (13 : Nat) ≠ 41 by omega), e13, ni_s]
  have hend : vA 5 (m + ml) = 36 := by rw [← hml]; exact hT.right.1
  have htk : f_Reader_take (pu (up w2 41 (upd (vA 41) o (nI (t + ss.length + st.length)))) 13 4 (nI (o + 1))) 36 = some (pu (pu (up w2 41 (upd (vA 41) o (nI (t + ss.length + st.length)))) 13 4 (nI (o + 1))) 12 6 (nI (m + ml + 1))) := r_take (n := m + ml) (by simp (disch := omega) only [pu_p, up_ne]; exact hR2.1) (by simp (disch := omega) only [pu_p, up_ne]; exact hR2.2.1) (by omega) (by simp (disch := omega) only [pu_p, up_ne]; rw [h2q 5 (by omega)]; exact hend)
  refine ⟨pu (pu (up w2 41 (upd (vA 41) o (nI (t + ss.length + st.length)))) 13 4 (nI (o + 1))) 12 6 (nI (m + ml + 1)), ?_, ?_, ?_, ?_, ?_, ?_, ?_, ?_, ?_, ?_, ?_⟩
  · unfold j_Reader_orderLine_202
    rw [e41, bd, e132, bd, ob, htk]
  · simp (disch := omega) only [pu_p, pu_d, up_ne]; exact hR2.1
  · simp (disch := omega) only [pu_s]; rfl
  · simp (disch := omega) only [pu_p, pu_e, up_ne]
    rw [h2q 13 (by omega), h13a]
  · simp (disch := omega) only [pu_p, up_ne]
    rw [hR2.2.2.2.2.2.1 39 (by omega) (by omega) (by omega) (by omega) (by omega), hC, up_eq]
  · simp (disch := omega) only [pu_p, up_ne, up_eq]
  · simp (disch := omega) only [pu_p, up_ne]; exact hR2.2.2.1
  · intro i s hs
    simp (disch := omega) only [pu_p, up_ne]
    have hi : i < ss.length := (List.getElem?_eq_some_iff.mp hs).1
    obtain ⟨a1, a2, a3⟩ := hR2.2.2.2.2.1 (t + i) (by omega)
    obtain ⟨b1, b2, b3⟩ := hR.2.2.2.1 i s hs
    rw [a1, a2, a3, hcq 44 (by omega), hcq 46 (by omega), hcq 48 (by omega)]
    exact ⟨b1, b2, b3⟩
  · intro i s hs
    simp (disch := omega) only [pu_p, up_ne]
    exact hR2.2.2.2.1 i s hs
  · intro i hi
    simp (disch := omega) only [pu_p, up_ne]
    obtain ⟨a1, a2, a3⟩ := hR2.2.2.2.2.1 i (by omega)
    obtain ⟨b1, b2, b3⟩ := hR.2.2.2.2.1 i hi
    rw [a1, a2, a3, hcq 44 (by omega), hcq 46 (by omega), hcq 48 (by omega)]
    exact ⟨b1, b2, b3⟩
  · intro q g0 g1 g2 g3 g4 g5 g6 g7
    simp (disch := omega) only [pu_p, up_ne]
    exact h2q q (by omega)
end
