/-! THE READER'S LINES THAT ORDER: as a whole -/
section
variable {v w vA w1 : Va} {F : List Int32 → Int32} {m n t o g f n4 n6 a9 b9 l9 o9 k N j one oth s : Nat} {y y1 y2 : Int32} {ss : List S3}
/-- behind an order's two places -/
def OAx (v vA : Va) (n o s one oth t : Nat) : Prop := vA 12 7 = 0 ∧ vA 12 6 = nI (n + 4) ∧ vA 31 = upd (v 31) o (nI s) ∧ vA 33 = upd (v 33) o (nI one) ∧ vA 35 = upd (v 35) o (nI oth) ∧ vA 37 = upd (v 37) o (nI t) ∧ ∀ q, q ≠ 12 → q ≠ 31 → q ≠ 33 → q ≠ 35 → q ≠ 37 → vA q = v q
theorem or_a0 (h7 : v 12 7 = 0) (h6 : v 12 6 = nI n) (h0 : v 13 4 = nI o) (ho : o < 24) (ht : v 42 0 = nI t) (hn : n + 4 < 401) (k1 : v 5 (n + 1) = 47) (e1 : v 11 (n + 1) = y1) (k2 : v 5 (n + 2) = 13) (k3 : v 5 (n + 3) = 47) (e3 : v 11 (n + 3) = y2) (hJ1 : NMs v 58 10 one y1) (hJ2 : NMs v 52 4 oth y2) : ∃ vA, f_Reader_orderLine 4001 v 0 = (j_Reader_orderLine_157 4001 v vA) ∧ OAx v vA n o 0 one oth t := by
  obtain ⟨t1, a1, a2, a3, a4, a5⟩ := hJ1
  obtain ⟨t2, b1, b2, b3, b4, b5⟩ := hJ2
  have u0 : pu v 12 6 (v 12 6 + 1) = (pu v 12 6 (nI (n + 1))) := by rw [h6, ni_s]
  have u1 : up (pu v 12 6 (nI (n + 1))) 31 (row_s 24 ((pu v 12 6 (nI (n + 1))) 31) (v 13 4) 0) = (up (pu v 12 6 (nI (n + 1))) 31 (upd (v 31) o (nI 0))) := by
    rw [h0, rs ho (by omega)]
    simp (disch := omega) only [pu_p]
    rfl
  have s1 : f_Reader_takeName 4001 (up (pu v 12 6 (nI (n + 1))) 31 (upd (v 31) o (nI 0))) 58 10 = some (nI one, (pu (up (pu v 12 6 (nI (n + 1))) 31 (upd (v 31) o (nI 0))) 12 6 (nI (n + 2)))) := r_name (n := n + 1) (t := t1) (by simp (disch := omega) only [pu_p, pu_d, pu_s, up_ne, up_eq]; exact h7) (by simp (disch := omega) only [pu_p, pu_d, pu_s, up_ne, up_eq]) (by omega) (by simp (disch := omega) only [pu_p, pu_d, pu_s, up_ne, up_eq]; exact k1) (by simp (disch := omega) only [pu_p, pu_d, pu_s, up_ne, up_eq]; exact e1) (by omega) (by simp (disch := omega) only [pu_p, pu_d, pu_s, up_ne, up_eq]; exact a1) a2 (by omega) (by omega) a3 (by simp (disch := omega) only [pu_p, pu_d, pu_s, up_ne, up_eq]; exact a4) (fun i hi => (by simp (disch := omega) only [pu_p, pu_d, pu_s, up_ne, up_eq]; exact a5 i hi))
  have u2 : up (pu (up (pu v 12 6 (nI (n + 1))) 31 (upd (v 31) o (nI 0))) 12 6 (nI (n + 2))) 33 (row_s 24 ((pu (up (pu v 12 6 (nI (n + 1))) 31 (upd (v 31) o (nI 0))) 12 6 (nI (n + 2))) 33) (v 13 4) (nI one)) = (up (pu (up (pu v 12 6 (nI (n + 1))) 31 (upd (v 31) o (nI 0))) 12 6 (nI (n + 2))) 33 (upd (v 33) o (nI one))) := by
    rw [h0, rs ho (by omega)]
    simp (disch := omega) only [pu_p, up_ne]
  have s2 : f_Reader_take (up (pu (up (pu v 12 6 (nI (n + 1))) 31 (upd (v 31) o (nI 0))) 12 6 (nI (n + 2))) 33 (upd (v 33) o (nI one))) 13 = some (pu (up (pu (up (pu v 12 6 (nI (n + 1))) 31 (upd (v 31) o (nI 0))) 12 6 (nI (n + 2))) 33 (upd (v 33) o (nI one))) 12 6 (nI (n + 3))) := r_take (n := n + 2) (by simp (disch := omega) only [pu_p, pu_d, pu_s, up_ne, up_eq]; exact h7) (by simp (disch := omega) only [pu_p, pu_d, pu_s, up_ne, up_eq]) (by omega) (by simp (disch := omega) only [pu_p, pu_d, pu_s, up_ne, up_eq]; exact k2)
  have s3 : f_Reader_takeName 4001 (pu (up (pu (up (pu v 12 6 (nI (n + 1))) 31 (upd (v 31) o (nI 0))) 12 6 (nI (n + 2))) 33 (upd (v 33) o (nI one))) 12 6 (nI (n + 3))) 52 4 = some (nI oth, (pu (pu (up (pu (up (pu v 12 6 (nI (n + 1))) 31 (upd (v 31) o (nI 0))) 12 6 (nI (n + 2))) 33 (upd (v 33) o (nI one))) 12 6 (nI (n + 3))) 12 6 (nI (n + 4)))) := r_name (n := n + 3) (t := t2) (by simp (disch := omega) only [pu_p, pu_d, pu_s, up_ne, up_eq]; exact h7) (by simp (disch := omega) only [pu_p, pu_d, pu_s, up_ne, up_eq]) (by omega) (by simp (disch := omega) only [pu_p, pu_d, pu_s, up_ne, up_eq]; exact k3) (by simp (disch := omega) only [pu_p, pu_d, pu_s, up_ne, up_eq]; exact e3) (by omega) (by simp (disch := omega) only [pu_p, pu_d, pu_s, up_ne, up_eq]; exact b1) b2 (by omega) (by omega) b3 (by simp (disch := omega) only [pu_p, pu_d, pu_s, up_ne, up_eq]; exact b4) (fun i hi => (by simp (disch := omega) only [pu_p, pu_d, pu_s, up_ne, up_eq]; exact b5 i hi))
  have u4 : up (pu (pu (up (pu (up (pu v 12 6 (nI (n + 1))) 31 (upd (v 31) o (nI 0))) 12 6 (nI (n + 2))) 33 (upd (v 33) o (nI one))) 12 6 (nI (n + 3))) 12 6 (nI (n + 4))) 35 (row_s 24 ((pu (pu (up (pu (up (pu v 12 6 (nI (n + 1))) 31 (upd (v 31) o (nI 0))) 12 6 (nI (n + 2))) 33 (upd (v 33) o (nI one))) 12 6 (nI (n + 3))) 12 6 (nI (n + 4))) 35) (v 13 4) (nI oth)) = (up (pu (pu (up (pu (up (pu v 12 6 (nI (n + 1))) 31 (upd (v 31) o (nI 0))) 12 6 (nI (n + 2))) 33 (upd (v 33) o (nI one))) 12 6 (nI (n + 3))) 12 6 (nI (n + 4))) 35 (upd (v 35) o (nI oth))) := by
    rw [h0, rs ho (by omega)]
    simp (disch := omega) only [pu_p, up_ne]
  have u5 : up (up (pu (pu (up (pu (up (pu v 12 6 (nI (n + 1))) 31 (upd (v 31) o (nI 0))) 12 6 (nI (n + 2))) 33 (upd (v 33) o (nI one))) 12 6 (nI (n + 3))) 12 6 (nI (n + 4))) 35 (upd (v 35) o (nI oth))) 37 (row_s 24 ((up (pu (pu (up (pu (up (pu v 12 6 (nI (n + 1))) 31 (upd (v 31) o (nI 0))) 12 6 (nI (n + 2))) 33 (upd (v 33) o (nI one))) 12 6 (nI (n + 3))) 12 6 (nI (n + 4))) 35 (upd (v 35) o (nI oth))) 37) (v 13 4) ((up (pu (pu (up (pu (up (pu v 12 6 (nI (n + 1))) 31 (upd (v 31) o (nI 0))) 12 6 (nI (n + 2))) 33 (upd (v 33) o (nI one))) 12 6 (nI (n + 3))) 12 6 (nI (n + 4))) 35 (upd (v 35) o (nI oth))) 42 0)) = (up (up (pu (pu (up (pu (up (pu v 12 6 (nI (n + 1))) 31 (upd (v 31) o (nI 0))) 12 6 (nI (n + 2))) 33 (upd (v 33) o (nI one))) 12 6 (nI (n + 3))) 12 6 (nI (n + 4))) 35 (upd (v 35) o (nI oth))) 37 (upd (v 37) o (nI t))) := by
    have e42 : (up (pu (pu (up (pu (up (pu v 12 6 (nI (n + 1))) 31 (upd (v 31) o (nI 0))) 12 6 (nI (n + 2))) 33 (upd (v 33) o (nI one))) 12 6 (nI (n + 3))) 12 6 (nI (n + 4))) 35 (upd (v 35) o (nI oth))) 42 0 = nI t := (by simp (disch := omega) only [pu_p, pu_d, pu_s, up_ne, up_eq]; exact ht)
    rw [e42, h0, rs ho (by omega)]
    simp (disch := omega) only [pu_p, up_ne]
  refine ⟨(up (up (pu (pu (up (pu (up (pu v 12 6 (nI (n + 1))) 31 (upd (v 31) o (nI 0))) 12 6 (nI (n + 2))) 33 (upd (v 33) o (nI one))) 12 6 (nI (n + 3))) 12 6 (nI (n + 4))) 35 (upd (v 35) o (nI oth))) 37 (upd (v 37) o (nI t))), ?_, ?_, ?_, ?_, ?_, ?_, ?_, ?_⟩
  · unfold f_Reader_orderLine
    rw [if_pos (by rw [h0, show (24 : Int32) = nI 24 from rfl, lt_n (by omega) (by omega)]; exact ho)]
    unfold j_Reader_orderLine_23
    rw [bd, u0, bd, u1, if_neg (by decide)]
    unfold j_Reader_orderLine_70
    rw [s1, ob, bd, u2, if_pos rfl]
    unfold j_Reader_orderLine_88
    rw [s2, ob, if_pos rfl]
    unfold j_Reader_orderLine_115
    rw [s3, ob, bd, u4, bd, u5, if_pos rfl]
  · simp (disch := omega) only [pu_p, pu_d, pu_s, up_ne, up_eq]; exact h7
  · simp (disch := omega) only [pu_s, up_ne]
  · simp (disch := omega) only [pu_p, up_ne, up_eq]
  · simp (disch := omega) only [pu_p, up_ne, up_eq]
  · simp (disch := omega) only [pu_p, up_ne, up_eq]
  · simp (disch := omega) only [pu_p, up_ne, up_eq]
  · intro q g0 g1 g2 g3 g4
    simp (disch := omega) only [pu_p, up_ne]
theorem or_a1 (h7 : v 12 7 = 0) (h6 : v 12 6 = nI n) (h0 : v 13 4 = nI o) (ho : o < 24) (ht : v 42 0 = nI t) (hn : n + 4 < 401) (k1 : v 5 (n + 1) = 47) (e1 : v 11 (n + 1) = y1) (k2 : v 5 (n + 2) = 15) (k3 : v 5 (n + 3) = 47) (e3 : v 11 (n + 3) = y2) (hJ1 : NMs v 58 10 one y1) (hJ2 : NMs v 55 6 oth y2) : ∃ vA, f_Reader_orderLine 4001 v 1 = ((f_Reader_take vA 17).bind fun q149 => (g_Reader 4001 48 5 [0] q149).bind fun q154 => j_Reader_orderLine_157 4001 v q154) ∧ OAx v vA n o 1 one oth t := by
  obtain ⟨t1, a1, a2, a3, a4, a5⟩ := hJ1
  obtain ⟨t2, b1, b2, b3, b4, b5⟩ := hJ2
  have u0 : pu v 12 6 (v 12 6 + 1) = (pu v 12 6 (nI (n + 1))) := by rw [h6, ni_s]
  have u1 : up (pu v 12 6 (nI (n + 1))) 31 (row_s 24 ((pu v 12 6 (nI (n + 1))) 31) (v 13 4) 1) = (up (pu v 12 6 (nI (n + 1))) 31 (upd (v 31) o (nI 1))) := by
    rw [h0, rs ho (by omega)]
    simp (disch := omega) only [pu_p]
    rfl
  have s1 : f_Reader_takeName 4001 (up (pu v 12 6 (nI (n + 1))) 31 (upd (v 31) o (nI 1))) 58 10 = some (nI one, (pu (up (pu v 12 6 (nI (n + 1))) 31 (upd (v 31) o (nI 1))) 12 6 (nI (n + 2)))) := r_name (n := n + 1) (t := t1) (by simp (disch := omega) only [pu_p, pu_d, pu_s, up_ne, up_eq]; exact h7) (by simp (disch := omega) only [pu_p, pu_d, pu_s, up_ne, up_eq]) (by omega) (by simp (disch := omega) only [pu_p, pu_d, pu_s, up_ne, up_eq]; exact k1) (by simp (disch := omega) only [pu_p, pu_d, pu_s, up_ne, up_eq]; exact e1) (by omega) (by simp (disch := omega) only [pu_p, pu_d, pu_s, up_ne, up_eq]; exact a1) a2 (by omega) (by omega) a3 (by simp (disch := omega) only [pu_p, pu_d, pu_s, up_ne, up_eq]; exact a4) (fun i hi => (by simp (disch := omega) only [pu_p, pu_d, pu_s, up_ne, up_eq]; exact a5 i hi))
  have u2 : up (pu (up (pu v 12 6 (nI (n + 1))) 31 (upd (v 31) o (nI 1))) 12 6 (nI (n + 2))) 33 (row_s 24 ((pu (up (pu v 12 6 (nI (n + 1))) 31 (upd (v 31) o (nI 1))) 12 6 (nI (n + 2))) 33) (v 13 4) (nI one)) = (up (pu (up (pu v 12 6 (nI (n + 1))) 31 (upd (v 31) o (nI 1))) 12 6 (nI (n + 2))) 33 (upd (v 33) o (nI one))) := by
    rw [h0, rs ho (by omega)]
    simp (disch := omega) only [pu_p, up_ne]
  have s2 : f_Reader_take (up (pu (up (pu v 12 6 (nI (n + 1))) 31 (upd (v 31) o (nI 1))) 12 6 (nI (n + 2))) 33 (upd (v 33) o (nI one))) 15 = some (pu (up (pu (up (pu v 12 6 (nI (n + 1))) 31 (upd (v 31) o (nI 1))) 12 6 (nI (n + 2))) 33 (upd (v 33) o (nI one))) 12 6 (nI (n + 3))) := r_take (n := n + 2) (by simp (disch := omega) only [pu_p, pu_d, pu_s, up_ne, up_eq]; exact h7) (by simp (disch := omega) only [pu_p, pu_d, pu_s, up_ne, up_eq]) (by omega) (by simp (disch := omega) only [pu_p, pu_d, pu_s, up_ne, up_eq]; exact k2)
  have s3 : f_Reader_takeName 4001 (pu (up (pu (up (pu v 12 6 (nI (n + 1))) 31 (upd (v 31) o (nI 1))) 12 6 (nI (n + 2))) 33 (upd (v 33) o (nI one))) 12 6 (nI (n + 3))) 55 6 = some (nI oth, (pu (pu (up (pu (up (pu v 12 6 (nI (n + 1))) 31 (upd (v 31) o (nI 1))) 12 6 (nI (n + 2))) 33 (upd (v 33) o (nI one))) 12 6 (nI (n + 3))) 12 6 (nI (n + 4)))) := r_name (n := n + 3) (t := t2) (by simp (disch := omega) only [pu_p, pu_d, pu_s, up_ne, up_eq]; exact h7) (by simp (disch := omega) only [pu_p, pu_d, pu_s, up_ne, up_eq]) (by omega) (by simp (disch := omega) only [pu_p, pu_d, pu_s, up_ne, up_eq]; exact k3) (by simp (disch := omega) only [pu_p, pu_d, pu_s, up_ne, up_eq]; exact e3) (by omega) (by simp (disch := omega) only [pu_p, pu_d, pu_s, up_ne, up_eq]; exact b1) b2 (by omega) (by omega) b3 (by simp (disch := omega) only [pu_p, pu_d, pu_s, up_ne, up_eq]; exact b4) (fun i hi => (by simp (disch := omega) only [pu_p, pu_d, pu_s, up_ne, up_eq]; exact b5 i hi))
  have u4 : up (pu (pu (up (pu (up (pu v 12 6 (nI (n + 1))) 31 (upd (v 31) o (nI 1))) 12 6 (nI (n + 2))) 33 (upd (v 33) o (nI one))) 12 6 (nI (n + 3))) 12 6 (nI (n + 4))) 35 (row_s 24 ((pu (pu (up (pu (up (pu v 12 6 (nI (n + 1))) 31 (upd (v 31) o (nI 1))) 12 6 (nI (n + 2))) 33 (upd (v 33) o (nI one))) 12 6 (nI (n + 3))) 12 6 (nI (n + 4))) 35) (v 13 4) (nI oth)) = (up (pu (pu (up (pu (up (pu v 12 6 (nI (n + 1))) 31 (upd (v 31) o (nI 1))) 12 6 (nI (n + 2))) 33 (upd (v 33) o (nI one))) 12 6 (nI (n + 3))) 12 6 (nI (n + 4))) 35 (upd (v 35) o (nI oth))) := by
    rw [h0, rs ho (by omega)]
    simp (disch := omega) only [pu_p, up_ne]
  have u5 : up (up (pu (pu (up (pu (up (pu v 12 6 (nI (n + 1))) 31 (upd (v 31) o (nI 1))) 12 6 (nI (n + 2))) 33 (upd (v 33) o (nI one))) 12 6 (nI (n + 3))) 12 6 (nI (n + 4))) 35 (upd (v 35) o (nI oth))) 37 (row_s 24 ((up (pu (pu (up (pu (up (pu v 12 6 (nI (n + 1))) 31 (upd (v 31) o (nI 1))) 12 6 (nI (n + 2))) 33 (upd (v 33) o (nI one))) 12 6 (nI (n + 3))) 12 6 (nI (n + 4))) 35 (upd (v 35) o (nI oth))) 37) (v 13 4) ((up (pu (pu (up (pu (up (pu v 12 6 (nI (n + 1))) 31 (upd (v 31) o (nI 1))) 12 6 (nI (n + 2))) 33 (upd (v 33) o (nI one))) 12 6 (nI (n + 3))) 12 6 (nI (n + 4))) 35 (upd (v 35) o (nI oth))) 42 0)) = (up (up (pu (pu (up (pu (up (pu v 12 6 (nI (n + 1))) 31 (upd (v 31) o (nI 1))) 12 6 (nI (n + 2))) 33 (upd (v 33) o (nI one))) 12 6 (nI (n + 3))) 12 6 (nI (n + 4))) 35 (upd (v 35) o (nI oth))) 37 (upd (v 37) o (nI t))) := by
    have e42 : (up (pu (pu (up (pu (up (pu v 12 6 (nI (n + 1))) 31 (upd (v 31) o (nI 1))) 12 6 (nI (n + 2))) 33 (upd (v 33) o (nI one))) 12 6 (nI (n + 3))) 12 6 (nI (n + 4))) 35 (upd (v 35) o (nI oth))) 42 0 = nI t := (by simp (disch := omega) only [pu_p, pu_d, pu_s, up_ne, up_eq]; exact ht)
    rw [e42, h0, rs ho (by omega)]
    simp (disch := omega) only [pu_p, up_ne]
  refine ⟨(up (up (pu (pu (up (pu (up (pu v 12 6 (nI (n + 1))) 31 (upd (v 31) o (nI 1))) 12 6 (nI (n + 2))) 33 (upd (v 33) o (nI one))) 12 6 (nI (n + 3))) 12 6 (nI (n + 4))) 35 (upd (v 35) o (nI oth))) 37 (upd (v 37) o (nI t))), ?_, ?_, ?_, ?_, ?_, ?_, ?_, ?_⟩
  · unfold f_Reader_orderLine
    rw [if_pos (by rw [h0, show (24 : Int32) = nI 24 from rfl, lt_n (by omega) (by omega)]; exact ho)]
    unfold j_Reader_orderLine_23
    rw [bd, u0, bd, u1, if_neg (by decide)]
    unfold j_Reader_orderLine_70
    rw [s1, ob, bd, u2, if_neg (by decide)]
    unfold j_Reader_orderLine_88
    rw [s2, ob, if_neg (by decide)]
    unfold j_Reader_orderLine_115
    rw [s3, ob, bd, u4, bd, u5, if_neg (by decide)]
  · simp (disch := omega) only [pu_p, pu_d, pu_s, up_ne, up_eq]; exact h7
  · simp (disch := omega) only [pu_s, up_ne]
  · simp (disch := omega) only [pu_p, up_ne, up_eq]
  · simp (disch := omega) only [pu_p, up_ne, up_eq]
  · simp (disch := omega) only [pu_p, up_ne, up_eq]
  · simp (disch := omega) only [pu_p, up_ne, up_eq]
  · intro q g0 g1 g2 g3 g4
    simp (disch := omega) only [pu_p, up_ne]
theorem or_a2 (h7 : v 12 7 = 0) (h6 : v 12 6 = nI n) (h0 : v 13 4 = nI o) (ho : o < 24) (ht : v 42 0 = nI t) (hn : n + 4 < 401) (k1 : v 5 (n + 1) = 47) (e1 : v 11 (n + 1) = y1) (k2 : v 5 (n + 2) = 15) (k3 : v 5 (n + 3) = 47) (e3 : v 11 (n + 3) = y2) (hJ1 : NMs v 55 6 one y1) (hJ2 : NMs v 55 6 oth y2) : ∃ vA, f_Reader_orderLine 4001 v 2 = ((f_Reader_take vA 17).bind fun q149 => (g_Reader 4001 48 5 [0] q149).bind fun q154 => j_Reader_orderLine_157 4001 v q154) ∧ OAx v vA n o 2 one oth t := by
  obtain ⟨t1, a1, a2, a3, a4, a5⟩ := hJ1
  obtain ⟨t2, b1, b2, b3, b4, b5⟩ := hJ2
  have u0 : pu v 12 6 (v 12 6 + 1) = (pu v 12 6 (nI (n + 1))) := by rw [h6, ni_s]
  have u1 : up (pu v 12 6 (nI (n + 1))) 31 (row_s 24 ((pu v 12 6 (nI (n + 1))) 31) (v 13 4) 2) = (up (pu v 12 6 (nI (n + 1))) 31 (upd (v 31) o (nI 2))) := by
    rw [h0, rs ho (by omega)]
    simp (disch := omega) only [pu_p]
    rfl
  have s1 : f_Reader_takeName 4001 (up (pu v 12 6 (nI (n + 1))) 31 (upd (v 31) o (nI 2))) 55 6 = some (nI one, (pu (up (pu v 12 6 (nI (n + 1))) 31 (upd (v 31) o (nI 2))) 12 6 (nI (n + 2)))) := r_name (n := n + 1) (t := t1) (by simp (disch := omega) only [pu_p, pu_d, pu_s, up_ne, up_eq]; exact h7) (by simp (disch := omega) only [pu_p, pu_d, pu_s, up_ne, up_eq]) (by omega) (by simp (disch := omega) only [pu_p, pu_d, pu_s, up_ne, up_eq]; exact k1) (by simp (disch := omega) only [pu_p, pu_d, pu_s, up_ne, up_eq]; exact e1) (by omega) (by simp (disch := omega) only [pu_p, pu_d, pu_s, up_ne, up_eq]; exact a1) a2 (by omega) (by omega) a3 (by simp (disch := omega) only [pu_p, pu_d, pu_s, up_ne, up_eq]; exact a4) (fun i hi => (by simp (disch := omega) only [pu_p, pu_d, pu_s, up_ne, up_eq]; exact a5 i hi))
  have u2 : up (pu (up (pu v 12 6 (nI (n + 1))) 31 (upd (v 31) o (nI 2))) 12 6 (nI (n + 2))) 33 (row_s 24 ((pu (up (pu v 12 6 (nI (n + 1))) 31 (upd (v 31) o (nI 2))) 12 6 (nI (n + 2))) 33) (v 13 4) (nI one)) = (up (pu (up (pu v 12 6 (nI (n + 1))) 31 (upd (v 31) o (nI 2))) 12 6 (nI (n + 2))) 33 (upd (v 33) o (nI one))) := by
    rw [h0, rs ho (by omega)]
    simp (disch := omega) only [pu_p, up_ne]
  have s2 : f_Reader_take (up (pu (up (pu v 12 6 (nI (n + 1))) 31 (upd (v 31) o (nI 2))) 12 6 (nI (n + 2))) 33 (upd (v 33) o (nI one))) 15 = some (pu (up (pu (up (pu v 12 6 (nI (n + 1))) 31 (upd (v 31) o (nI 2))) 12 6 (nI (n + 2))) 33 (upd (v 33) o (nI one))) 12 6 (nI (n + 3))) := r_take (n := n + 2) (by simp (disch := omega) only [pu_p, pu_d, pu_s, up_ne, up_eq]; exact h7) (by simp (disch := omega) only [pu_p, pu_d, pu_s, up_ne, up_eq]) (by omega) (by simp (disch := omega) only [pu_p, pu_d, pu_s, up_ne, up_eq]; exact k2)
  have s3 : f_Reader_takeName 4001 (pu (up (pu (up (pu v 12 6 (nI (n + 1))) 31 (upd (v 31) o (nI 2))) 12 6 (nI (n + 2))) 33 (upd (v 33) o (nI one))) 12 6 (nI (n + 3))) 55 6 = some (nI oth, (pu (pu (up (pu (up (pu v 12 6 (nI (n + 1))) 31 (upd (v 31) o (nI 2))) 12 6 (nI (n + 2))) 33 (upd (v 33) o (nI one))) 12 6 (nI (n + 3))) 12 6 (nI (n + 4)))) := r_name (n := n + 3) (t := t2) (by simp (disch := omega) only [pu_p, pu_d, pu_s, up_ne, up_eq]; exact h7) (by simp (disch := omega) only [pu_p, pu_d, pu_s, up_ne, up_eq]) (by omega) (by simp (disch := omega) only [pu_p, pu_d, pu_s, up_ne, up_eq]; exact k3) (by simp (disch := omega) only [pu_p, pu_d, pu_s, up_ne, up_eq]; exact e3) (by omega) (by simp (disch := omega) only [pu_p, pu_d, pu_s, up_ne, up_eq]; exact b1) b2 (by omega) (by omega) b3 (by simp (disch := omega) only [pu_p, pu_d, pu_s, up_ne, up_eq]; exact b4) (fun i hi => (by simp (disch := omega) only [pu_p, pu_d, pu_s, up_ne, up_eq]; exact b5 i hi))
  have u4 : up (pu (pu (up (pu (up (pu v 12 6 (nI (n + 1))) 31 (upd (v 31) o (nI 2))) 12 6 (nI (n + 2))) 33 (upd (v 33) o (nI one))) 12 6 (nI (n + 3))) 12 6 (nI (n + 4))) 35 (row_s 24 ((pu (pu (up (pu (up (pu v 12 6 (nI (n + 1))) 31 (upd (v 31) o (nI 2))) 12 6 (nI (n + 2))) 33 (upd (v 33) o (nI one))) 12 6 (nI (n + 3))) 12 6 (nI (n + 4))) 35) (v 13 4) (nI oth)) = (up (pu (pu (up (pu (up (pu v 12 6 (nI (n + 1))) 31 (upd (v 31) o (nI 2))) 12 6 (nI (n + 2))) 33 (upd (v 33) o (nI one))) 12 6 (nI (n + 3))) 12 6 (nI (n + 4))) 35 (upd (v 35) o (nI oth))) := by
    rw [h0, rs ho (by omega)]
    simp (disch := omega) only [pu_p, up_ne]
  have u5 : up (up (pu (pu (up (pu (up (pu v 12 6 (nI (n + 1))) 31 (upd (v 31) o (nI 2))) 12 6 (nI (n + 2))) 33 (upd (v 33) o (nI one))) 12 6 (nI (n + 3))) 12 6 (nI (n + 4))) 35 (upd (v 35) o (nI oth))) 37 (row_s 24 ((up (pu (pu (up (pu (up (pu v 12 6 (nI (n + 1))) 31 (upd (v 31) o (nI 2))) 12 6 (nI (n + 2))) 33 (upd (v 33) o (nI one))) 12 6 (nI (n + 3))) 12 6 (nI (n + 4))) 35 (upd (v 35) o (nI oth))) 37) (v 13 4) ((up (pu (pu (up (pu (up (pu v 12 6 (nI (n + 1))) 31 (upd (v 31) o (nI 2))) 12 6 (nI (n + 2))) 33 (upd (v 33) o (nI one))) 12 6 (nI (n + 3))) 12 6 (nI (n + 4))) 35 (upd (v 35) o (nI oth))) 42 0)) = (up (up (pu (pu (up (pu (up (pu v 12 6 (nI (n + 1))) 31 (upd (v 31) o (nI 2))) 12 6 (nI (n + 2))) 33 (upd (v 33) o (nI one))) 12 6 (nI (n + 3))) 12 6 (nI (n + 4))) 35 (upd (v 35) o (nI oth))) 37 (upd (v 37) o (nI t))) := by
    have e42 : (up (pu (pu (up (pu (up (pu v 12 6 (nI (n + 1))) 31 (upd (v 31) o (nI 2))) 12 6 (nI (n + 2))) 33 (upd (v 33) o (nI one))) 12 6 (nI (n + 3))) 12 6 (nI (n + 4))) 35 (upd (v 35) o (nI oth))) 42 0 = nI t := (by simp (disch := omega) only [pu_p, pu_d, pu_s, up_ne, up_eq]; exact ht)
    rw [e42, h0, rs ho (by omega)]
    simp (disch := omega) only [pu_p, up_ne]
  refine ⟨(up (up (pu (pu (up (pu (up (pu v 12 6 (nI (n + 1))) 31 (upd (v 31) o (nI 2))) 12 6 (nI (n + 2))) 33 (upd (v 33) o (nI one))) 12 6 (nI (n + 3))) 12 6 (nI (n + 4))) 35 (upd (v 35) o (nI oth))) 37 (upd (v 37) o (nI t))), ?_, ?_, ?_, ?_, ?_, ?_, ?_, ?_⟩
  · unfold f_Reader_orderLine
    rw [if_pos (by rw [h0, show (24 : Int32) = nI 24 from rfl, lt_n (by omega) (by omega)]; exact ho)]
    unfold j_Reader_orderLine_23
    rw [bd, u0, bd, u1, if_pos rfl]
    unfold j_Reader_orderLine_70
    rw [s1, ob, bd, u2, if_neg (by decide)]
    unfold j_Reader_orderLine_88
    rw [s2, ob, if_neg (by decide)]
    unfold j_Reader_orderLine_115
    rw [s3, ob, bd, u4, bd, u5, if_neg (by decide)]
  · simp (disch := omega) only [pu_p, pu_d, pu_s, up_ne, up_eq]; exact h7
  · simp (disch := omega) only [pu_s, up_ne]
  · simp (disch := omega) only [pu_p, up_ne, up_eq]
  · simp (disch := omega) only [pu_p, up_ne, up_eq]
  · simp (disch := omega) only [pu_p, up_ne, up_eq]
  · simp (disch := omega) only [pu_p, up_ne, up_eq]
  · intro q g0 g1 g2 g3 g4
    simp (disch := omega) only [pu_p, up_ne]
/-- what an order's line leaves -/
def OLx (v w : Va) (o s one oth t : Nat) (ss st : List S3) : Prop := w 13 = upd (v 13) 4 (nI (o + 1)) ∧ w 31 = upd (v 31) o (nI s) ∧ w 33 = upd (v 33) o (nI one) ∧ w 35 = upd (v 35) o (nI oth) ∧ w 37 = upd (v 37) o (nI t) ∧ w 39 = upd (v 39) o (nI (t + ss.length)) ∧ w 41 = upd (v 41) o (nI (t + ss.length + st.length)) ∧ w 42 0 = nI (t + ss.length + st.length) ∧ GSt w t ss ∧ GSt w (t + ss.length) st ∧ (∀ i, i < t → w 44 i = v 44 i ∧ w 46 i = v 46 i ∧ w 48 i = v 48 i) ∧ ∀ q, q ≠ 12 → q ≠ 13 → q ≠ 31 → q ≠ 33 → q ≠ 35 → q ≠ 37 → q ≠ 39 → q ≠ 41 → q ≠ 42 → q ≠ 44 → q ≠ 46 → q ≠ 48 → w q = v q
/-- the steps of an order's sum -/
def sH_ (s f n4 a9 b9 l9 : Nat) : List S3 := if s = 0 then [] else sS_ f n4 a9 b9 l9
theorem or_fin (hA : OAx v vA n o s one oth t) (hR : RSx vA w1 m t ss) (h13 : v 13 4 = nI o) (ho : o < 24) (hT : TA vA F m (whP g n6 a9 b9 l9 o9 ++ [zG 4 [10]])) (hm : m + (whP g n6 a9 b9 l9 o9).length < 400) (hg : g ≤ 7) (h6 : n6 ≤ 999) (hNA : NMs vA 55 6 a9 (F [109, nI (48 + a9)])) (hNB : NMs vA 55 6 b9 (F [109, nI (48 + b9)])) (hNL : NMs vA 58 10 l9 (F [108, nI (48 + l9)])) (hNO : NMs vA 58 10 o9 (F [108, nI (48 + o9)])) (hl : t + ss.length + 20 ≤ 400) :
    ∃ w, ((j_Reader_orderLine_157 4001 v w1).bind fun q => f_Reader_take q 36) = some w ∧ w 12 7 = 0 ∧ w 12 6 = nI (m + ((whP g n6 a9 b9 l9 o9).length + 1)) ∧ OLx v w o s one oth t ss (sT_ g n6 a9 b9 l9 o9) := by
  obtain ⟨-, -, a31, a33, a35, a37, afr⟩ := hA
  obtain ⟨w, e, c1, c2, c3, c4, c5, c6, c7, c8, c9, c10⟩ := or_d hR h13 (afr 13 (by omega) (by omega) (by omega) (by omega) (by omega)) ho hT hm hg h6 hNA hNB hNL hNO hl
  refine ⟨w, e, c1, c2, c3, ?_, ?_, ?_, ?_, ?_, ?_, c6, c7, c8, fun i hi => ?_, fun q g0 g1 g2 g3 g4 g5 g6 g7 g8 g9 g10 g11 => ?_⟩
  · rw [c10 31 (by omega) (by omega) (by omega) (by omega) (by omega) (by omega) (by omega) (by omega), a31]
  · rw [c10 33 (by omega) (by omega) (by omega) (by omega) (by omega) (by omega) (by omega) (by omega), a33]
  · rw [c10 35 (by omega) (by omega) (by omega) (by omega) (by omega) (by omega) (by omega) (by omega), a35]
  · rw [c10 37 (by omega) (by omega) (by omega) (by omega) (by omega) (by omega) (by omega) (by omega), a37]
  · rw [c4, afr 39 (by omega) (by omega) (by omega) (by omega) (by omega)]
  · rw [c5, afr 41 (by omega) (by omega) (by omega) (by omega) (by omega)]
  · obtain ⟨b1, b2, b3⟩ := c9 i hi
    rw [b1, b2, b3, afr 44 (by omega) (by omega) (by omega) (by omega) (by omega), afr 46 (by omega) (by omega) (by omega) (by omega) (by omega), afr 48 (by omega) (by omega) (by omega) (by omega) (by omega)]
    exact ⟨rfl, rfl, rfl⟩
  · rw [c10 q g0 g1 g6 g7 g8 g9 g10 g11, afr q g0 g2 g3 g4 g5]
/-- an order's sum, behind its places -/
theorem or_s (hA : OAx v vA n o s one oth t) (ht : v 42 0 = nI t) (hT : TA vA F (n + 4) (zK 17 (ldB f) :: (suP f n4 a9 b9 l9 (wbB g) ++ (whP g n6 a9 b9 l9 o9 ++ [zG 4 [10]])))) (hn : n + 5 + (suP f n4 a9 b9 l9 (wbB g)).length + (whP g n6 a9 b9 l9 o9).length < 400) (hf : f ≤ 7) (hg : g ≤ 7) (h4 : n4 ≤ 999) (h6 : n6 ≤ 999) (hNA : NMs vA 55 6 a9 (F [109, nI (48 + a9)])) (hNB : NMs vA 55 6 b9 (F [109, nI (48 + b9)])) (hNL : NMs vA 58 10 l9 (F [108, nI (48 + l9)])) (hNO : NMs vA 58 10 o9 (F [108, nI (48 + o9)])) (hl : t + 30 ≤ 400) :
    ∃ w1, (∀ K : Va → Option Va, ((f_Reader_take vA 17).bind fun q149 => (g_Reader 4001 48 5 [0] q149).bind fun q154 => K q154) = K w1) ∧ RSx vA w1 (n + 5 + (suP f n4 a9 b9 l9 (wbB g)).length) t (sS_ f n4 a9 b9 l9) := by
  have hR : RSx vA vA (n + 4) t [] := RSx.rf hA.1 hA.2.1 (by rw [hA.2.2.2.2.2.2 42 (by omega) (by omega) (by omega) (by omega) (by omega)]; exact ht)
  obtain ⟨k0, -, hT2⟩ := hT
  obtain ⟨wa, e1, hRa⟩ := hR.take (x := 17) (by omega) k0
  have hlen := sS_len (f := f) (n4 := n4) (a9 := a9) (b9 := b9) (l9 := l9)
  have hE : EN36 (vA 5 (n + 5 + (suP f n4 a9 b9 l9 (wbB g)).length)) := by
    have hr := hT2.right
    by_cases hg0 : g = 0
    · subst hg0; exact Or.inl hr.1
    · have hk := (x_wh (by omega) hg hr.left (by show n + 5 + _ + _ < 401; omega) h6 hNA hNB hNL hNO (Or.inl hr.right.1)).1
      exact Or.inr hk
  have hX := x_su (n := n + 5) hf hT2.left (by omega) h4 hNA hNB hNL hE
  obtain ⟨w1, e2, e3⟩ := hX wa t [] hRa (by rw [List.length_nil]; omega)
  refine ⟨w1, fun K => ?_, e3⟩
  rw [e1, ob, e2, ob]
theorem or_l0 (h7 : v 12 7 = 0) (h6 : v 12 6 = nI n) (h13 : v 13 4 = nI o) (ho : o < 24) (ht : v 42 0 = nI t) (hT : TA v F n (orL_ 0 one oth f n4 a9 b9 l9 g n6 o9)) (hn : n + (orL_ 0 one oth f n4 a9 b9 l9 g n6 o9).length < 400) (hf : f ≤ 7) (hg : g ≤ 7) (h4 : n4 ≤ 999) (h6n : n6 ≤ 999) (hJ1 : NMs v 58 10 one (F [108, nI (48 + one)])) (hJ2 : NMs v 52 4 oth (F [103, nI (48 + oth)])) (hNA : NMs v 55 6 a9 (F [109, nI (48 + a9)])) (hNB : NMs v 55 6 b9 (F [109, nI (48 + b9)])) (hNL : NMs v 58 10 l9 (F [108, nI (48 + l9)])) (hNO : NMs v 58 10 o9 (F [108, nI (48 + o9)])) (hl : t + 30 ≤ 400) :
    v 5 n = 12 ∧ ∃ w, ((f_Reader_orderLine 4001 v 0).bind fun q => f_Reader_take q 36) = some w ∧ w 12 7 = 0 ∧ w 12 6 = nI (n + (orL_ 0 one oth f n4 a9 b9 l9 g n6 o9).length) ∧ OLx v w o 0 one oth t (sH_ 0 f n4 a9 b9 l9) (sT_ g n6 a9 b9 l9 o9) := by
  have hp : orL_ 0 one oth f n4 a9 b9 l9 g n6 o9 = ([zK 12 [32], zN 108 one [32], zK 13 [32], zN 103 oth (wbB g)]) ++ (whP g n6 a9 b9 l9 o9 ++ [zG 4 [10]]) := rfl
  rw [hp] at hT hn ⊢
  have hk0 : v 5 n = 12 := hT.1
  have hk1 : v 5 (n + 1) = 47 := hT.2.2.1
  have he1 : v 11 (n + 1) = F [108, nI (48 + one)] := hT.2.2.2.1.trans tvN
  have hk2 : v 5 (n + 2) = 13 := hT.2.2.2.2.1
  have hk3 : v 5 (n + 3) = 47 := hT.2.2.2.2.2.2.1
  have he3 : v 11 (n + 3) = F [103, nI (48 + oth)] := hT.2.2.2.2.2.2.2.1.trans tvN
  refine ⟨hk0, ?_⟩
  simp only [List.length_append, List.length_cons, List.length_nil] at hn
  obtain ⟨vA, eA, hA⟩ := or_a0 h7 h6 h13 ho ht (by omega) hk1 he1 hk2 hk3 he3 hJ1 hJ2
  have afr := hA.2.2.2.2.2.2
  have a5 : vA 5 = v 5 := afr 5 (by omega) (by omega) (by omega) (by omega) (by omega)
  have a11 : vA 11 = v 11 := afr 11 (by omega) (by omega) (by omega) (by omega) (by omega)
  have a55 : vA 55 = v 55 := afr 55 (by omega) (by omega) (by omega) (by omega) (by omega)
  have a57 : vA 57 = v 57 := afr 57 (by omega) (by omega) (by omega) (by omega) (by omega)
  have a58 : vA 58 = v 58 := afr 58 (by omega) (by omega) (by omega) (by omega) (by omega)
  have a60 : vA 60 = v 60 := afr 60 (by omega) (by omega) (by omega) (by omega) (by omega)
  rw [eA]
  have hTw : TA vA F (n + 4) (whP g n6 a9 b9 l9 o9 ++ [zG 4 [10]]) := (TA.right (a := [zK 12 [32], zN 108 one [32], zK 13 [32], zN 103 oth (wbB g)]) hT).cg a5 a11
  obtain ⟨w, e, c1, c2, c3⟩ := or_fin hA (RSx.rf hA.1 hA.2.1 (by rw [afr 42 (by omega) (by omega) (by omega) (by omega) (by omega)]; exact ht)) h13 ho hTw (by omega) hg h6n (hNA.cg a55 a57) (hNB.cg a55 a57) (hNL.cg a58 a60) (hNO.cg a58 a60) (by rw [List.length_nil]; omega)
  refine ⟨w, e, c1, ?_, c3⟩
  rw [c2]; congr 1
  simp only [List.length_append, List.length_cons, List.length_nil]; omega
theorem or_l1 (h7 : v 12 7 = 0) (h6 : v 12 6 = nI n) (h13 : v 13 4 = nI o) (ho : o < 24) (ht : v 42 0 = nI t) (hT : TA v F n (orL_ 1 one oth f n4 a9 b9 l9 g n6 o9)) (hn : n + (orL_ 1 one oth f n4 a9 b9 l9 g n6 o9).length < 400) (hf : f ≤ 7) (hg : g ≤ 7) (h4 : n4 ≤ 999) (h6n : n6 ≤ 999) (hJ1 : NMs v 58 10 one (F [108, nI (48 + one)])) (hJ2 : NMs v 55 6 oth (F [109, nI (48 + oth)])) (hNA : NMs v 55 6 a9 (F [109, nI (48 + a9)])) (hNB : NMs v 55 6 b9 (F [109, nI (48 + b9)])) (hNL : NMs v 58 10 l9 (F [108, nI (48 + l9)])) (hNO : NMs v 58 10 o9 (F [108, nI (48 + o9)])) (hl : t + 30 ≤ 400) :
    v 5 n = 14 ∧ ∃ w, ((f_Reader_orderLine 4001 v 1).bind fun q => f_Reader_take q 36) = some w ∧ w 12 7 = 0 ∧ w 12 6 = nI (n + (orL_ 1 one oth f n4 a9 b9 l9 g n6 o9).length) ∧ OLx v w o 1 one oth t (sH_ 1 f n4 a9 b9 l9) (sT_ g n6 a9 b9 l9 o9) := by
  have hp : orL_ 1 one oth f n4 a9 b9 l9 g n6 o9 = ([zK 14 [32], zN 108 one [32], zK 15 [32], zN 109 oth [32], zK 17 (ldB f)] ++ suP f n4 a9 b9 l9 (wbB g)) ++ (whP g n6 a9 b9 l9 o9 ++ [zG 4 [10]]) := rfl
  rw [hp] at hT hn ⊢
  have hk0 : v 5 n = 14 := hT.1
  have hk1 : v 5 (n + 1) = 47 := hT.2.2.1
  have he1 : v 11 (n + 1) = F [108, nI (48 + one)] := hT.2.2.2.1.trans tvN
  have hk2 : v 5 (n + 2) = 15 := hT.2.2.2.2.1
  have hk3 : v 5 (n + 3) = 47 := hT.2.2.2.2.2.2.1
  have he3 : v 11 (n + 3) = F [109, nI (48 + oth)] := hT.2.2.2.2.2.2.2.1.trans tvN
  refine ⟨hk0, ?_⟩
  simp only [List.length_append, List.length_cons, List.length_nil] at hn
  obtain ⟨vA, eA, hA⟩ := or_a1 h7 h6 h13 ho ht (by omega) hk1 he1 hk2 hk3 he3 hJ1 hJ2
  have afr := hA.2.2.2.2.2.2
  have a5 : vA 5 = v 5 := afr 5 (by omega) (by omega) (by omega) (by omega) (by omega)
  have a11 : vA 11 = v 11 := afr 11 (by omega) (by omega) (by omega) (by omega) (by omega)
  have a55 : vA 55 = v 55 := afr 55 (by omega) (by omega) (by omega) (by omega) (by omega)
  have a57 : vA 57 = v 57 := afr 57 (by omega) (by omega) (by omega) (by omega) (by omega)
  have a58 : vA 58 = v 58 := afr 58 (by omega) (by omega) (by omega) (by omega) (by omega)
  have a60 : vA 60 = v 60 := afr 60 (by omega) (by omega) (by omega) (by omega) (by omega)
  rw [eA]
  have hTs : TA vA F (n + 4) (zK 17 (ldB f) :: (suP f n4 a9 b9 l9 (wbB g) ++ (whP g n6 a9 b9 l9 o9 ++ [zG 4 [10]]))) := by
    rw [List.append_assoc] at hT
    exact (TA.right (a := [zK 14 [32], zN 108 one [32], zK 15 [32], zN 109 oth [32]]) (b := zK 17 (ldB f) :: (suP f n4 a9 b9 l9 (wbB g) ++ (whP g n6 a9 b9 l9 o9 ++ [zG 4 [10]]))) hT).cg a5 a11
  obtain ⟨w1, hK, hR1⟩ := or_s hA ht hTs (by omega) hf hg h4 h6n (hNA.cg a55 a57) (hNB.cg a55 a57) (hNL.cg a58 a60) (hNO.cg a58 a60) hl
  have hlen := sS_len (f := f) (n4 := n4) (a9 := a9) (b9 := b9) (l9 := l9)
  have hTw : TA vA F (n + 5 + (suP f n4 a9 b9 l9 (wbB g)).length) (whP g n6 a9 b9 l9 o9 ++ [zG 4 [10]]) := TA.right (n := n + 5) hTs.2.2
  obtain ⟨w, e, c1, c2, c3⟩ := or_fin hA hR1 h13 ho hTw (by omega) hg h6n (hNA.cg a55 a57) (hNB.cg a55 a57) (hNL.cg a58 a60) (hNO.cg a58 a60) (by omega)
  refine ⟨w, by rw [hK (fun q154 => j_Reader_orderLine_157 4001 v q154)]; exact e, c1, ?_, c3⟩
  rw [c2]; congr 1
  simp only [List.length_append, List.length_cons, List.length_nil]; omega
theorem or_l2 (h7 : v 12 7 = 0) (h6 : v 12 6 = nI n) (h13 : v 13 4 = nI o) (ho : o < 24) (ht : v 42 0 = nI t) (hT : TA v F n (orL_ 2 one oth f n4 a9 b9 l9 g n6 o9)) (hn : n + (orL_ 2 one oth f n4 a9 b9 l9 g n6 o9).length < 400) (hf : f ≤ 7) (hg : g ≤ 7) (h4 : n4 ≤ 999) (h6n : n6 ≤ 999) (hJ1 : NMs v 55 6 one (F [109, nI (48 + one)])) (hJ2 : NMs v 55 6 oth (F [109, nI (48 + oth)])) (hNA : NMs v 55 6 a9 (F [109, nI (48 + a9)])) (hNB : NMs v 55 6 b9 (F [109, nI (48 + b9)])) (hNL : NMs v 58 10 l9 (F [108, nI (48 + l9)])) (hNO : NMs v 58 10 o9 (F [108, nI (48 + o9)])) (hl : t + 30 ≤ 400) :
    v 5 n = 16 ∧ ∃ w, ((f_Reader_orderLine 4001 v 2).bind fun q => f_Reader_take q 36) = some w ∧ w 12 7 = 0 ∧ w 12 6 = nI (n + (orL_ 2 one oth f n4 a9 b9 l9 g n6 o9).length) ∧ OLx v w o 2 one oth t (sH_ 2 f n4 a9 b9 l9) (sT_ g n6 a9 b9 l9 o9) := by
  have hp : orL_ 2 one oth f n4 a9 b9 l9 g n6 o9 = ([zK 16 [32], zN 109 one [32], zK 15 [32], zN 109 oth [32], zK 17 (ldB f)] ++ suP f n4 a9 b9 l9 (wbB g)) ++ (whP g n6 a9 b9 l9 o9 ++ [zG 4 [10]]) := rfl
  rw [hp] at hT hn ⊢
  have hk0 : v 5 n = 16 := hT.1
  have hk1 : v 5 (n + 1) = 47 := hT.2.2.1
  have he1 : v 11 (n + 1) = F [109, nI (48 + one)] := hT.2.2.2.1.trans tvN
  have hk2 : v 5 (n + 2) = 15 := hT.2.2.2.2.1
  have hk3 : v 5 (n + 3) = 47 := hT.2.2.2.2.2.2.1
  have he3 : v 11 (n + 3) = F [109, nI (48 + oth)] := hT.2.2.2.2.2.2.2.1.trans tvN
  refine ⟨hk0, ?_⟩
  simp only [List.length_append, List.length_cons, List.length_nil] at hn
  obtain ⟨vA, eA, hA⟩ := or_a2 h7 h6 h13 ho ht (by omega) hk1 he1 hk2 hk3 he3 hJ1 hJ2
  have afr := hA.2.2.2.2.2.2
  have a5 : vA 5 = v 5 := afr 5 (by omega) (by omega) (by omega) (by omega) (by omega)
  have a11 : vA 11 = v 11 := afr 11 (by omega) (by omega) (by omega) (by omega) (by omega)
  have a55 : vA 55 = v 55 := afr 55 (by omega) (by omega) (by omega) (by omega) (by omega)
  have a57 : vA 57 = v 57 := afr 57 (by omega) (by omega) (by omega) (by omega) (by omega)
  have a58 : vA 58 = v 58 := afr 58 (by omega) (by omega) (by omega) (by omega) (by omega)
  have a60 : vA 60 = v 60 := afr 60 (by omega) (by omega) (by omega) (by omega) (by omega)
  rw [eA]
  have hTs : TA vA F (n + 4) (zK 17 (ldB f) :: (suP f n4 a9 b9 l9 (wbB g) ++ (whP g n6 a9 b9 l9 o9 ++ [zG 4 [10]]))) := by
    rw [List.append_assoc] at hT
    exact (TA.right (a := [zK 16 [32], zN 109 one [32], zK 15 [32], zN 109 oth [32]]) (b := zK 17 (ldB f) :: (suP f n4 a9 b9 l9 (wbB g) ++ (whP g n6 a9 b9 l9 o9 ++ [zG 4 [10]]))) hT).cg a5 a11
  obtain ⟨w1, hK, hR1⟩ := or_s hA ht hTs (by omega) hf hg h4 h6n (hNA.cg a55 a57) (hNB.cg a55 a57) (hNL.cg a58 a60) (hNO.cg a58 a60) hl
  have hlen := sS_len (f := f) (n4 := n4) (a9 := a9) (b9 := b9) (l9 := l9)
  have hTw : TA vA F (n + 5 + (suP f n4 a9 b9 l9 (wbB g)).length) (whP g n6 a9 b9 l9 o9 ++ [zG 4 [10]]) := TA.right (n := n + 5) hTs.2.2
  obtain ⟨w, e, c1, c2, c3⟩ := or_fin hA hR1 h13 ho hTw (by omega) hg h6n (hNA.cg a55 a57) (hNB.cg a55 a57) (hNL.cg a58 a60) (hNO.cg a58 a60) (by omega)
  refine ⟨w, by rw [hK (fun q154 => j_Reader_orderLine_157 4001 v q154)]; exact e, c1, ?_, c3⟩
  rw [c2]; congr 1
  simp only [List.length_append, List.length_cons, List.length_nil]; omega
end
