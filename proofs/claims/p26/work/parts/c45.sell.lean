/-! A LOT IS SOLD, A DEBT IS PAID, a day goes by -/
section
variable {v u v1 u1 : Va} {k sn sp L G M S O z : Nat} {cs ct : Nat → List Ste}
/-- both sides move coins -/
theorem moves_two (hR : RS v u k sn L) {a b : Nat} {x : Int32} : RS (up (up v (k + 12) (upd (v (k + 12)) a (v (k + 12) a + -x))) (k + 12) (upd (upd (v (k + 12)) a (v (k + 12) a + -x)) b (upd (v (k + 12)) a (v (k + 12) a + -x) b + x)))
    (up u (sn + 6) (upd (upd (u (sn + 6)) a (u (sn + 6) a - x)) b (upd (u (sn + 6)) a (u (sn + 6) a - x) b + x))) k sn L ∨ ¬ (a < 6 ∧ b < 6) := by
  by_cases h : a < 6 ∧ b < 6
  · refine Or.inl ?_
    have hc := hR.2.2.2.2.2.2.1
    have e1 : eqN 6 (upd (v (k + 12)) a (v (k + 12) a + -x)) (upd (u (sn + 6)) a (u (sn + 6) a - x)) := eqN_upd hc a (by rw [hc a h.1, Int32.sub_eq_add_neg])
    have := hR.c (eqN_upd e1 b (show upd (v (k + 12)) a (v (k + 12) a + -x) b + x = upd (u (sn + 6)) a (u (sn + 6) a - x) b + x by rw [e1 b h.2]))
    rwa [up_up]
  · exact Or.inr h
theorem sell_two (hP : PL v u sp S G M L O) (hR : RS v u k sn L) (hI : IS u sn L G M) (hk : k = 97 ∨ k = 123) (hn : sn = 173 ∨ sn = 183) (hs : sp = 151 ∨ 194 ≤ sp) {i j : Nat} {x : Int32} (hi : i < L) (hj : j < M) (hg : u (sn + 3) i ≠ -1) (ho : u (sn + 2) i ≠ nI j)
    (hc : row_t (fun b => u (sn + 7) (6 * j + b)) 6 + q_max 0 (q_max 0 (q_min 999 x) * u (sn + 4) i / 100 - u (sn + 6) j) ≤ u (sp + 12) j) :
    ∃ v1 u1, f_Days_sell v k (nI i) (nI j) x = some v1 ∧ f_Model_sell u sp sn (nI i) (nI j) (q_max 0 (q_min 999 x) * u (sn + 4) i / 100) = some u1 ∧ RS v1 u1 k sn L ∧ IS u1 sn L G M ∧ FC k v v1 ∧ FM sn u u1 := by
  have hB := hP.1
  obtain ⟨m, hm, em⟩ := hI.2.1 i hi
  have hmj : m ≠ j := fun q => ho (by rw [em, q])
  have hgc : 0 ≤ (u (sn + 4) i).toInt ∧ (u (sn + 4) i).toInt ≤ 9000 := by
    rcases hI.2.2.1 i hi with e | ⟨-, e⟩
    · exact absurd e hg
    · exact e
  have hp := price_b (x := x) hgc.1 hgc.2
  have hpr := price_two (o := 0) (x := x) hR hi (by omega) hg
  generalize hP0 : q_max 0 (q_min 999 x) * u (sn + 4) i / 100 = p at hc hp hpr
  have hcj := hI.2.2.2.1.1 j (by omega)
  have hcr := (hP.2.2.2.2.2.1 j hj).2
  have hcm := isum_le (f := u (sn + 6)) (i := j) 6 hI.2.2.2.1.1 (by omega)
  have hct := hI.2.2.2.1.2
  have hd : ∀ b, b < 6 → 0 ≤ (u (sn + 7) (6 * j + b)).toInt ∧ (u (sn + 7) (6 * j + b)).toInt ≤ 99999 := fun b hb => ⟨(hI.2.2.2.2.1 j b (by omega) hb).1, (hI.2.2.2.2.1 j b (by omega) hb).2.1⟩
  obtain ⟨d1, d2, d3⟩ := row_t_int (f := fun b => u (sn + 7) (6 * j + b)) 6 (by omega) (fun b hb => ⟨(hd b hb).1, by have := (hd b hb).2; omega⟩)
  have d4 := isum_le (f := fun b => u (sn + 7) (6 * j + b)) (i := m) 6 (fun b hb => (hd b hb).1) (by omega)
  have d5 := hd m (by omega)
  have e1 : (p - u (sn + 6) j).toInt = p.toInt - (u (sn + 6) j).toInt := t_sub (by omega) (by omega)
  have e2 : (q_max 0 (p - u (sn + 6) j)).toInt = max 0 (p.toInt - (u (sn + 6) j).toInt) := by rw [t_max, e1]; rfl
  have e3 := t_le.mp hc
  have e4 : (row_t (fun b => u (sn + 7) (6 * j + b)) 6 + q_max 0 (p - u (sn + 6) j)).toInt = (row_t (fun b => u (sn + 7) (6 * j + b)) 6).toInt + max 0 (p.toInt - (u (sn + 6) j).toInt) := by rw [t_add, e2] <;> rw [e2, d1] <;> omega
  have e5 : (q_min p (u (sn + 6) j)).toInt = min p.toInt (u (sn + 6) j).toInt := t_min
  have e6 : (p - q_min p (u (sn + 6) j)).toInt = p.toInt - min p.toInt (u (sn + 6) j).toInt := by rw [t_sub, e5] <;> rw [e5] <;> omega
  have e7 : (u (sn + 7) (6 * j + m) + (p - q_min p (u (sn + 6) j))).toInt = (u (sn + 7) (6 * j + m)).toInt + (p.toInt - min p.toInt (u (sn + 6) j).toInt) := by rw [t_add, e6] <;> rw [e6] <;> omega
  have e8 : 0 ≤ (u (sn + 7) (6 * j + m) + (p - q_min p (u (sn + 6) j))).toInt ∧ (u (sn + 7) (6 * j + m) + (p - q_min p (u (sn + 6) j))).toInt ≤ 9999 := by
    rw [e7]; omega
  have a1 := (moves_two hR (a := j) (b := m) (x := q_min p (u (sn + 6) j))).resolve_right (fun q => q ⟨by omega, by omega⟩)
  have b1 := hI.c (hI.2.2.2.1.moves (a := j) (b := m) (x := q_min p (u (sn + 6) j)) (by omega) (by omega) (by rw [e5]; omega) (by rw [e5]; omega))
  have hmv := move_c (v := v) (k := k) (x := q_min p (u (sn + 6) j)) (show j < 6 by omega) (show m < 6 by omega)
  generalize hv2 : up (up v (k + 12) (upd (v (k + 12)) j (v (k + 12) j + -q_min p (u (sn + 6) j)))) (k + 12) (upd (upd (v (k + 12)) j (v (k + 12) j + -q_min p (u (sn + 6) j))) m (upd (v (k + 12)) j (v (k + 12) j + -q_min p (u (sn + 6) j)) m + q_min p (u (sn + 6) j))) = v2 at a1 hmv
  generalize hu2 : up u (sn + 6) (upd (upd (u (sn + 6)) j (u (sn + 6) j - q_min p (u (sn + 6) j))) m (upd (u (sn + 6)) j (u (sn + 6) j - q_min p (u (sn + 6) j)) m + q_min p (u (sn + 6) j))) = u2 at a1 b1
  have hC2 : FC k v v2 := by rw [← hv2]; exact (FC.up (by omega) (by omega)).tr (FC.up (by omega) (by omega))
  have hM2 : FM sn u u2 := by rw [← hu2]; exact FM.up (by omega) (by omega) (by omega)
  have f7 : u2 (sn + 7) = u (sn + 7) := by rw [← hu2]; simp (disch := omega) only [up_ne]
  have f2 : u2 (sn + 2) = u (sn + 2) := by rw [← hu2]; simp (disch := omega) only [up_ne]
  have a2 := a1.d (eqN_upd a1.2.2.2.2.2.2.2.1 (6 * j + m) (show q_min 99999 (v2 (k + 15) (6 * j + m) + (p - q_min p (u (sn + 6) j))) = u2 (sn + 7) (6 * j + m) + (p - q_min p (u (sn + 6) j)) by
    rw [a1.2.2.2.2.2.2.2.1 _ (by omega), f7, min_id]
    rw [show (99999 : Int32).toInt = 99999 from rfl]; omega))
  have b2 := b1.d (b1.2.2.2.2.1.set (a := j) (b := m) (x := u2 (sn + 7) (6 * j + m) + (p - q_min p (u (sn + 6) j))) hj hm (by omega) (fun q => hmj q.symm) (by rw [f7]; omega) (by rw [f7]; omega))
  have a3 := a2.o (eqN_upd a2.2.2.1 i (show nI j = nI j from rfl))
  have b3 := b2.o (b2.2.1.set (i := i) hj)
  refine ⟨_, _, ?_, ?_, a3.f (j := 2) (y := up (up v2 (k + 15) (upd (v2 (k + 15)) (6 * j + m) (q_min 99999 (v2 (k + 15) (6 * j + m) + (p - q_min p (u (sn + 6) j)))))) (k + 4) (upd (up v2 (k + 15) (upd (v2 (k + 15)) (6 * j + m) (q_min 99999 (v2 (k + 15) (6 * j + m) + (p - q_min p (u (sn + 6) j))))) (k + 4)) i (nI j)) k 3 + 1) (by omega) (by rw [a3.1.2.2.1]), b3.f (by omega), ((hC2.tr (FC.up (by omega) (by omega))).tr (FC.up (by omega) (by omega))).tr (FC.pu (by omega) (by omega)), ((hM2.tr (FM.up (by omega) (by omega) (by omega))).tr (FM.up (by omega) (by omega) (by omega))).tr (FM.pu (by omega) (by omega) (by omega))⟩
  · unfold f_Days_sell
    simp (disch := omega) only [bd, rg, hpr, ob, hR.2.2.1 i hi, em, hR.2.2.2.2.2.2.1 j (by omega)]
    rw [hmv, ob, grow_c (by omega) (by omega), ob]
    simp (disch := omega) only [rs]
  · unfold f_Model_sell
    simp (disch := omega) only [bd, gn, ni_c, if_false, em, six_r]
    have q2 : pu (pu u (sn + 6) j (u (sn + 6) j - q_min p (u (sn + 6) j))) (sn + 6) m (pu u (sn + 6) j (u (sn + 6) j - q_min p (u (sn + 6) j)) (sn + 6) m + q_min p (u (sn + 6) j)) = u2 := by
      rw [← hu2]; unfold pu; rw [up_up, up_eq]
    rw [q2]
    rfl
/-- a debt is paid -/
theorem pay_two (hP : PL v u sp S G M L O) (hR : RS v u k sn L) (hI : IS u sn L G M) (hk : k = 97 ∨ k = 123) (hn : sn = 173 ∨ sn = 183) (hs : sp = 151 ∨ 194 ≤ sp) {i j : Nat} {x : Int32} (hi : i < M) (hj : j < M) (hij : i ≠ j)
    (hc : 1 ≤ q_min x (q_min (u (sn + 7) (6 * i + j)) (u (sn + 6) i))) :
    ∃ v1 u1, f_Days_payBack v k (nI i) (nI j) x = some v1 ∧ f_Model_pay u sp sn (nI i) (nI j) (q_min x (q_min (u (sn + 7) (6 * i + j)) (u (sn + 6) i))) = some u1 ∧ RS v1 u1 k sn L ∧ IS u1 sn L G M ∧ FC k v v1 ∧ FM sn u u1 := by
  have hB := hP.1
  have hdue : f_Days_due v k (nI i) (nI j) x = some (q_min x (q_min (u (sn + 7) (6 * i + j)) (u (sn + 6) i))) := by
    unfold f_Days_due
    rw [hR.bet (by omega) (by omega), ob, bd, rg (by omega) (by omega), hR.2.2.2.2.2.2.1 i (by omega)]
  have e0 : (q_min x (q_min (u (sn + 7) (6 * i + j)) (u (sn + 6) i))).toInt = min x.toInt (min (u (sn + 7) (6 * i + j)).toInt (u (sn + 6) i).toInt) := by rw [t_min, t_min]
  have e1 := t_le.mp hc
  rw [show (1 : Int32).toInt = 1 from rfl] at e1
  generalize hC0 : q_min x (q_min (u (sn + 7) (6 * i + j)) (u (sn + 6) i)) = c at *
  have hd := hI.2.2.2.2.1 i j (by omega) (by omega)
  have e2 : (u (sn + 7) (6 * i + j) - c).toInt = (u (sn + 7) (6 * i + j)).toInt - c.toInt := t_sub (by omega) (by omega)
  have a1 := (moves_two hR (a := i) (b := j) (x := c)).resolve_right (fun q => q ⟨by omega, by omega⟩)
  have b1 := hI.c (hI.2.2.2.1.moves (a := i) (b := j) (x := c) (by omega) (by omega) (by omega) (by omega))
  have hmv := move_c (v := v) (k := k) (x := c) (show i < 6 by omega) (show j < 6 by omega)
  generalize hv2 : up (up v (k + 12) (upd (v (k + 12)) i (v (k + 12) i + -c))) (k + 12) (upd (upd (v (k + 12)) i (v (k + 12) i + -c)) j (upd (v (k + 12)) i (v (k + 12) i + -c) j + c)) = v2 at a1 hmv
  generalize hu2 : up u (sn + 6) (upd (upd (u (sn + 6)) i (u (sn + 6) i - c)) j (upd (u (sn + 6)) i (u (sn + 6) i - c) j + c)) = u2 at a1 b1
  have hC2 : FC k v v2 := by rw [← hv2]; exact (FC.up (by omega) (by omega)).tr (FC.up (by omega) (by omega))
  have hM2 : FM sn u u2 := by rw [← hu2]; exact FM.up (by omega) (by omega) (by omega)
  have f7 : u2 (sn + 7) = u (sn + 7) := by rw [← hu2]; simp (disch := omega) only [up_ne]
  have a2 := a1.d (eqN_upd a1.2.2.2.2.2.2.2.1 (6 * i + j) (show q_min 99999 (v2 (k + 15) (6 * i + j) + -c) = u2 (sn + 7) (6 * i + j) - c by
    rw [a1.2.2.2.2.2.2.2.1 _ (by omega), f7, ← Int32.sub_eq_add_neg, min_id]
    rw [show (99999 : Int32).toInt = 99999 from rfl]; omega))
  have b2 := b1.d (b1.2.2.2.2.1.set (a := i) (b := j) (x := u2 (sn + 7) (6 * i + j) - c) hi hj (by omega) hij (by rw [f7]; omega) (by rw [f7]; omega))
  refine ⟨_, _, ?_, ?_, a2.f (j := 4) (y := up v2 (k + 15) (upd (v2 (k + 15)) (6 * i + j) (q_min 99999 (v2 (k + 15) (6 * i + j) + -c))) k 5 + 1) (by omega) (by rw [a2.1.2.2.2.2]), b2.f (by omega), (hC2.tr (FC.up (by omega) (by omega))).tr (FC.pu (by omega) (by omega)), (hM2.tr (FM.up (by omega) (by omega) (by omega))).tr (FM.pu (by omega) (by omega) (by omega))⟩
  · unfold f_Days_payBack
    rw [hdue, ob, hmv, ob, grow_c (by omega) (by omega), ob]
    rfl
  · unfold f_Model_pay
    simp (disch := omega) only [bd, gn, ni_c, if_false, six_r]
    have q2 : pu (pu u (sn + 6) i (u (sn + 6) i - c)) (sn + 6) j (pu u (sn + 6) i (u (sn + 6) i - c) (sn + 6) j + c) = u2 := by
      rw [← hu2]; unfold pu; rw [up_up, up_eq]
    rw [q2]
    rfl
end
