/-! THE REFERENCE'S STATE begins anew -/
def STB (v u : Va) (k1 : Nat) : Prop := (∀ p, p < 173 ∨ 183 ≤ p → u p = v p) ∧ (u 173 0 = v 173 0 ∧ u 173 1 = v 173 1 ∧ u 173 2 = 0 ∧ u 173 3 = 0 ∧ u 173 4 = 0) ∧
  (∀ i, i < 10 → u 174 i = 100 * v (k1 + 15) i ∧ u 175 i = v (k1 + 16) i ∧ u 176 i = -1) ∧ (∀ i, i < 6 → u 179 i = v (k1 + 11) i) ∧ (∀ i, i < 36 → u 180 i = 0) ∧ (∀ i, i < 4 → u 181 i = 0) ∧ ∀ i, i < 24 → u 182 i = 0
section
variable {v : Va} {k1 z : Nat}
theorem tb_m (hk : 194 ≤ k1) (hz : 4000 < z) : ∃ u, f_Model_teachB z v k1 = some (0, u) ∧ STB v u k1 := by
  obtain ⟨⟨x, u⟩, h1, h2, h3⟩ := rp_inv (f := b_Model_teach_42 z k1) (fun i t => t.1 = nI i ∧ (∀ p, p ≠ 174 → p ≠ 175 → t.2 p = v p) ∧ ∀ j, j < i → t.2 174 j = 100 * v (k1 + 15) j ∧ t.2 175 j = v (k1 + 16) j) (fun r => r.1 = 0 ∧ STB v r.2 k1) 10 (fun K t ht => by
    obtain ⟨i, t⟩ := t
    obtain ⟨t1, t2, t3⟩ := ht
    simp only at t1 t2 t3
    subst t1
    obtain ⟨x1, e1⟩ : ∃ x, q_cpy t (k1 + 11) (0 : Int32) 179 (0 : Int32) (6 : Int32) = x := ⟨_, rfl⟩
    obtain ⟨x2, e2⟩ : ∃ x, up x1 176 (row_f 10 (x1 176) (-1)) = x := ⟨_, rfl⟩
    obtain ⟨x3, e3⟩ : ∃ x, up x2 177 (row_f 10 (x2 177) 0) = x := ⟨_, rfl⟩
    obtain ⟨x4, e4⟩ : ∃ x, up x3 178 (row_f 10 (x3 178) 0) = x := ⟨_, rfl⟩
    obtain ⟨x5, e5⟩ : ∃ x, up x4 180 (row_f 36 (x4 180) 0) = x := ⟨_, rfl⟩
    obtain ⟨x6, e6⟩ : ∃ x, up x5 181 (row_f 4 (x5 181) 0) = x := ⟨_, rfl⟩
    obtain ⟨x7, e7⟩ : ∃ x, up x6 182 (row_f 24 (x6 182) 0) = x := ⟨_, rfl⟩
    obtain ⟨x8, e8⟩ : ∃ x, pu x7 173 2 0 = x := ⟨_, rfl⟩
    obtain ⟨x9, e9⟩ : ∃ x, pu x8 173 3 0 = x := ⟨_, rfl⟩
    obtain ⟨xa, ea⟩ : ∃ x, pu x9 173 4 0 = x := ⟨_, rfl⟩
    have a1 : ∀ p, p ≠ 179 → x1 p = t p := fun p hp => by rw [← e1]; exact up_ne hp
    have a2 : ∀ p, p ≠ 176 → x2 p = x1 p := fun p hp => by rw [← e2]; exact up_ne hp
    have a3 : ∀ p, p ≠ 177 → x3 p = x2 p := fun p hp => by rw [← e3]; exact up_ne hp
    have a4 : ∀ p, p ≠ 178 → x4 p = x3 p := fun p hp => by rw [← e4]; exact up_ne hp
    have a5 : ∀ p, p ≠ 180 → x5 p = x4 p := fun p hp => by rw [← e5]; exact up_ne hp
    have a6 : ∀ p, p ≠ 181 → x6 p = x5 p := fun p hp => by rw [← e6]; exact up_ne hp
    have a7 : ∀ p, p ≠ 182 → x7 p = x6 p := fun p hp => by rw [← e7]; exact up_ne hp
    have aa : ∀ p, p ≠ 173 → xa p = x7 p := fun p hp => by rw [← ea, ← e9, ← e8]; unfold pu; rw [up_ne hp, up_ne hp, up_ne hp]
    have a73 : xa 173 0 = x7 173 0 ∧ xa 173 1 = x7 173 1 ∧ xa 173 2 = 0 ∧ xa 173 3 = 0 ∧ xa 173 4 = 0 := by
      rw [← ea, ← e9, ← e8]
      unfold pu
      simp (disch := omega) only [up_eq, upd_ne, upd_eq]
      exact ⟨trivial, trivial, trivial, trivial, trivial⟩
    have all : ∀ p, p ≠ 173 → p ≠ 176 → p ≠ 177 → p ≠ 178 → p ≠ 179 → p ≠ 180 → p ≠ 181 → p ≠ 182 → xa p = t p := fun p b0 b1 b2 b3 b4 b5 b6 b7 => by
      rw [aa p b0, a7 p b7, a6 p b6, a5 p b5, a4 p b3, a3 p b2, a2 p b1, a1 p b4]
    have h173 : x7 173 = v 173 := by
      rw [a7 173 (by omega), a6 173 (by omega), a5 173 (by omega), a4 173 (by omega), a3 173 (by omega), a2 173 (by omega), a1 173 (by omega), t2 173 (by omega) (by omega)]
    have hfin : STB v xa k1 := by
      refine ⟨fun p hp => ?_, ?_, fun i hi => ?_, fun i hi => ?_, fun i hi => ?_, fun i hi => ?_, fun i hi => ?_⟩
      · rw [all p (by omega) (by omega) (by omega) (by omega) (by omega) (by omega) (by omega) (by omega), t2 p (by omega) (by omega)]
      · rw [← h173]; exact a73
      · have h176 : xa 176 i = -1 := by
          rw [aa 176 (by omega), a7 176 (by omega), a6 176 (by omega), a5 176 (by omega), a4 176 (by omega), a3 176 (by omega), ← e2, up_eq, row_f_in hi]
        rw [all 174 (by omega) (by omega) (by omega) (by omega) (by omega) (by omega) (by omega) (by omega), all 175 (by omega) (by omega) (by omega) (by omega) (by omega) (by omega) (by omega) (by omega)]
        exact ⟨(t3 i hi).1, (t3 i hi).2, h176⟩
      · rw [aa 179 (by omega), a7 179 (by omega), a6 179 (by omega), a5 179 (by omega), a4 179 (by omega), a3 179 (by omega), a2 179 (by omega), ← e1]
        unfold q_cpy
        rw [up_eq]
        have hcp : va_cpy (t (k1 + 11)) (t 179) (0 : Int32).toNatClampNeg (0 : Int32).toNatClampNeg (6 : Int32).toNatClampNeg i = t (k1 + 11) i := by
          exact cpy_eq (N := 6) i hi
        rw [hcp, t2 _ (by omega) (by omega)]
      · rw [aa 180 (by omega), a7 180 (by omega), a6 180 (by omega), ← e5, up_eq, row_f_in hi]
      · rw [aa 181 (by omega), a7 181 (by omega), ← e6, up_eq, row_f_in hi]
      · rw [aa 182 (by omega), ← e7, up_eq, row_f_in hi]
    refine ⟨(0, xa), ?_, rfl, hfin⟩
    unfold b_Model_teach_42
    simp only
    rw [if_pos (show (10 : Int32) ≤ nI 10 by decide), if_neg (by
      intro q
      rcases q with q | q | q | q | q | q
      · exact absurd q (by decide)
      · exact absurd q (by decide)
      · exact absurd q (by decide)
      · exact absurd q (by decide)
      · exact absurd q (by decide)
      · omega), bd, e1, fill_m (by omega) (by omega), ob, e2, fill_m (by omega) (by omega), ob, e3, fill_m (by omega) (by omega), ob, e4, fill_m (by omega) (by omega), ob, e5, fill_m (by omega) (by omega), ob, e6, fill_m (by omega) (by omega), ob, e7, bd, e8, bd, e9, bd, ea]) (fun K i t hi ht => by
    obtain ⟨i', t⟩ := t
    obtain ⟨t1, t2, t3⟩ := ht
    simp only at t1 t2 t3
    subst t1
    have hgn : ¬ (nI i < 0 ∨ 10 ≤ (nI i).toNatClampNeg) := gd2 (by omega) (by omega)
    refine Or.inl ⟨(nI (i + 1), pu (pu t 174 i (100 * v (k1 + 15) i)) 175 i (v (k1 + 16) i)), ?_, rfl, fun p hp1 hp2 => ?_, fun j hj => ?_⟩
    · have y1 : (pu t 174 i (100 * v (k1 + 15) i)) (k1 + 16) = v (k1 + 16) := by unfold pu; rw [up_ne (by omega)]; exact t2 _ (by omega) (by omega)
      unfold b_Model_teach_42
      simp only
      rw [show (10 : Int32) = nI 10 from rfl, if_neg (by rw [le_n (by omega) (by omega)]; omega), if_neg hgn, if_neg hgn, ni_c (by omega), t2 (k1 + 15) (by omega) (by omega), bd, if_neg (by rw [gn hi (by omega)]; exact id), if_neg (by rw [gn hi (by omega)]; exact id), bd, y1, ni_s]
    · show (pu (pu t 174 i _) 175 i _) p = v p
      unfold pu
      rw [up_ne hp2, up_ne hp1]; exact t2 p hp1 hp2
    · show (pu (pu t 174 i (100 * v (k1 + 15) i)) 175 i (v (k1 + 16) i)) 174 j = _ ∧ (pu (pu t 174 i (100 * v (k1 + 15) i)) 175 i (v (k1 + 16) i)) 175 j = _
      have y1 : (pu (pu t 174 i (100 * v (k1 + 15) i)) 175 i (v (k1 + 16) i)) 174 = upd (t 174) i (100 * v (k1 + 15) i) := by unfold pu; rw [up_ne (by omega), up_eq]
      have y2 : (pu (pu t 174 i (100 * v (k1 + 15) i)) 175 i (v (k1 + 16) i)) 175 = upd (t 175) i (v (k1 + 16) i) := by unfold pu; rw [up_eq, up_ne (by omega)]
      rw [y1, y2]
      by_cases h : j = i
      · rw [h, upd_eq, upd_eq]; exact ⟨rfl, rfl⟩
      · rw [upd_ne h, upd_ne h]; exact t3 j (by omega)) z 0 (0, v) ⟨rfl, fun _ _ _ => rfl, fun j hj => by omega⟩ (by omega) (by omega)
  simp only at h2 h3
  subst h2
  exact ⟨u, h1, h3⟩
end
