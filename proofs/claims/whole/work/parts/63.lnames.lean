/-! LINES: names that are told ahead, and orders -/
section
variable {kn : Nat → Nat} {nt k1 sp z : Nat} {u0 u v v1 us us1 : Va} {t t1 : Nat} {P P' : Va → Prop} {D D' D1 D2 : Nat → Prop}
theorem ln_9 {c : Nat} {r : Int32} {cnt : Int32} (ht : t + 1 ≤ 400) (hp : u (k1 + 1) t = 9) (hn : u k1 4 = cnt) (hf : f_Model_find z u sp k1 (k1 + 5) 4 cnt (nI (t + 1)) = some r) (hc : u k1 15 = nI (c + 1)) (hcN : c < 10) (hk1 : 194 ≤ k1) :
    f_Model_errorOfName z u sp k1 (nI (t + 1)) = if r = -1 then some (3, u) else some (0, pu (pu u (k1 + 4) (t + 1) r) (k1 + 14) c r) := by
  have hs : f_Model_sortOf u k1 (nI (t + 1)) = some 0 := sort_1 (by omega) hp (Or.inr (Or.inr (Or.inl ⟨rfl, rfl⟩)))
  have hno : f_Model_namesOf u sp k1 0 = some (k1 + 5, 4) := rfl
  have hmo : f_Model_manyOf u sp k1 0 = some cnt := by rw [← hn]; rfl
  unfold f_Model_errorOfName j_Model_errorOfName_101 j_Model_errorOfName_120 j_Model_errorOfName_138 j_Model_errorOfName_151 j_Model_errorOfName_163
  generalize hq : u (k1 + 1) t = p at hp
  have c0 := ni_c (i := t) (by omega)
  have c1 := ni_c (i := t + 1) (by omega)
  have c2 := ni_c (i := c) (by omega)
  have g : (nI t < 0 ∨ 401 ≤ t) = False := gn (by omega) (by omega)
  have g1 : (nI (t + 1) < 0 ∨ 401 ≤ t + 1) = False := gn (by omega) (by omega)
  have g2 : (nI c < 0 ∨ 10 ≤ c) = False := gn (by omega) (by omega)
  have e2 : (pu u (k1 + 4) (t + 1) r) k1 15 = nI (c + 1) := by unfold pu; rw [up_ne (by omega)]; exact hc
  have h0 : (p = 0) = False := eq_false (by rw [hp]; decide)
  have h2 : (p = 2) = False := eq_false (by rw [hp]; decide)
  have h5 : (p = 5) = False := eq_false (by rw [hp]; decide)
  have h8 : (p = 8) = False := eq_false (by rw [hp]; decide)
  have h11 : (p = 11) = False := eq_false (by rw [hp]; decide)
  have h12 : (p = 12) = False := eq_false (by rw [hp]; decide)
  have h14 : (p = 14) = False := eq_false (by rw [hp]; decide)
  have h16 : (p = 16) = False := eq_false (by rw [hp]; decide)
  have h13 : (p = 13) = False := eq_false (by rw [hp]; decide)
  have h15 : (p = 15) = False := eq_false (by rw [hp]; decide)
  have h9 : (p = 9) = True := eq_true hp
  simp only [ni_sub1, c0, c1, c2, g, g1, g2, if_false, if_true, hq, h0, h2, h5, h8, h9, h11, h12, h14, h16, h13, h15, hs, hno, hmo, hf, ob, bd, e2]
theorem ln_11 {c : Nat} {r : Int32} {cnt : Int32} (ht : t + 1 ≤ 400) (hp : u (k1 + 1) t = 11) (hn : u k1 11 = cnt) (hf : f_Model_find z u sp k1 (k1 + 10) 6 cnt (nI (t + 1)) = some r) (hc : u k1 15 = nI (c + 1)) (hcN : c < 10) (hk1 : 194 ≤ k1) :
    f_Model_errorOfName z u sp k1 (nI (t + 1)) = if r = -1 then some (3, u) else some (0, pu (pu u (k1 + 4) (t + 1) r) (k1 + 16) c r) := by
  have hs : f_Model_sortOf u k1 (nI (t + 1)) = some 5 := sort_1 (by omega) hp (Or.inl ⟨by decide, rfl⟩)
  have hno : f_Model_namesOf u sp k1 5 = some (k1 + 10, 6) := rfl
  have hmo : f_Model_manyOf u sp k1 5 = some cnt := by rw [← hn]; rfl
  unfold f_Model_errorOfName j_Model_errorOfName_101 j_Model_errorOfName_120 j_Model_errorOfName_138 j_Model_errorOfName_151 j_Model_errorOfName_163
  generalize hq : u (k1 + 1) t = p at hp
  have c0 := ni_c (i := t) (by omega)
  have c1 := ni_c (i := t + 1) (by omega)
  have c2 := ni_c (i := c) (by omega)
  have g : (nI t < 0 ∨ 401 ≤ t) = False := gn (by omega) (by omega)
  have g1 : (nI (t + 1) < 0 ∨ 401 ≤ t + 1) = False := gn (by omega) (by omega)
  have g2 : (nI c < 0 ∨ 10 ≤ c) = False := gn (by omega) (by omega)
  have e2 : (pu u (k1 + 4) (t + 1) r) k1 15 = nI (c + 1) := by unfold pu; rw [up_ne (by omega)]; exact hc
  have h0 : (p = 0) = False := eq_false (by rw [hp]; decide)
  have h2 : (p = 2) = False := eq_false (by rw [hp]; decide)
  have h5 : (p = 5) = False := eq_false (by rw [hp]; decide)
  have h8 : (p = 8) = False := eq_false (by rw [hp]; decide)
  have h9 : (p = 9) = False := eq_false (by rw [hp]; decide)
  have h12 : (p = 12) = False := eq_false (by rw [hp]; decide)
  have h14 : (p = 14) = False := eq_false (by rw [hp]; decide)
  have h16 : (p = 16) = False := eq_false (by rw [hp]; decide)
  have h13 : (p = 13) = False := eq_false (by rw [hp]; decide)
  have h15 : (p = 15) = False := eq_false (by rw [hp]; decide)
  have h11 : (p = 11) = True := eq_true hp
  simp only [ni_sub1, c0, c1, c2, g, g1, g2, if_false, if_true, hq, h0, h2, h5, h8, h9, h11, h12, h14, h16, h13, h15, hs, hno, hmo, hf, ob, bd, e2]
theorem ln_12 {c : Nat} {r : Int32} {cnt : Int32} (ht : t + 1 ≤ 400) (hp : u (k1 + 1) t = 12) (hn : u k1 15 = cnt) (hf : f_Model_find z u sp k1 (k1 + 13) 10 cnt (nI (t + 1)) = some r) (hc : u k1 20 = nI (c + 1)) (hcN : c < 24) (hk1 : 194 ≤ k1) :
    f_Model_errorOfName z u sp k1 (nI (t + 1)) = if r = -1 then some (3, u) else some (0, pu (pu u (k1 + 4) (t + 1) r) (k1 + 18) c r) := by
  have hs : f_Model_sortOf u k1 (nI (t + 1)) = some 8 := sort_1 (by omega) hp (Or.inr (Or.inl ⟨by decide, rfl⟩))
  have hno : f_Model_namesOf u sp k1 8 = some (k1 + 13, 10) := rfl
  have hmo : f_Model_manyOf u sp k1 8 = some cnt := by rw [← hn]; rfl
  unfold f_Model_errorOfName j_Model_errorOfName_101 j_Model_errorOfName_120 j_Model_errorOfName_138 j_Model_errorOfName_151 j_Model_errorOfName_163
  generalize hq : u (k1 + 1) t = p at hp
  have c0 := ni_c (i := t) (by omega)
  have c1 := ni_c (i := t + 1) (by omega)
  have c2 := ni_c (i := c) (by omega)
  have g : (nI t < 0 ∨ 401 ≤ t) = False := gn (by omega) (by omega)
  have g1 : (nI (t + 1) < 0 ∨ 401 ≤ t + 1) = False := gn (by omega) (by omega)
  have g2 : (nI c < 0 ∨ 24 ≤ c) = False := gn (by omega) (by omega)
  have e2 : (pu u (k1 + 4) (t + 1) r) k1 20 = nI (c + 1) := by unfold pu; rw [up_ne (by omega)]; exact hc
  have h0 : (p = 0) = False := eq_false (by rw [hp]; decide)
  have h2 : (p = 2) = False := eq_false (by rw [hp]; decide)
  have h5 : (p = 5) = False := eq_false (by rw [hp]; decide)
  have h8 : (p = 8) = False := eq_false (by rw [hp]; decide)
  have h9 : (p = 9) = False := eq_false (by rw [hp]; decide)
  have h11 : (p = 11) = False := eq_false (by rw [hp]; decide)
  have h14 : (p = 14) = False := eq_false (by rw [hp]; decide)
  have h16 : (p = 16) = False := eq_false (by rw [hp]; decide)
  have h13 : (p = 13) = False := eq_false (by rw [hp]; decide)
  have h15 : (p = 15) = False := eq_false (by rw [hp]; decide)
  have h12 : (p = 12) = True := eq_true hp
  simp only [ni_sub1, c0, c1, c2, g, g1, g2, if_false, if_true, hq, h0, h2, h5, h8, h9, h11, h12, h14, h16, h13, h15, hs, hno, hmo, hf, ob, bd, e2]
theorem ln_14 {c : Nat} {r : Int32} {cnt : Int32} (ht : t + 1 ≤ 400) (hp : u (k1 + 1) t = 14) (hn : u k1 15 = cnt) (hf : f_Model_find z u sp k1 (k1 + 13) 10 cnt (nI (t + 1)) = some r) (hc : u k1 20 = nI (c + 1)) (hcN : c < 24) (hk1 : 194 ≤ k1) :
    f_Model_errorOfName z u sp k1 (nI (t + 1)) = if r = -1 then some (3, u) else some (0, pu (pu u (k1 + 4) (t + 1) r) (k1 + 18) c r) := by
  have hs : f_Model_sortOf u k1 (nI (t + 1)) = some 8 := sort_1 (by omega) hp (Or.inr (Or.inl ⟨by decide, rfl⟩))
  have hno : f_Model_namesOf u sp k1 8 = some (k1 + 13, 10) := rfl
  have hmo : f_Model_manyOf u sp k1 8 = some cnt := by rw [← hn]; rfl
  unfold f_Model_errorOfName j_Model_errorOfName_101 j_Model_errorOfName_120 j_Model_errorOfName_138 j_Model_errorOfName_151 j_Model_errorOfName_163
  generalize hq : u (k1 + 1) t = p at hp
  have c0 := ni_c (i := t) (by omega)
  have c1 := ni_c (i := t + 1) (by omega)
  have c2 := ni_c (i := c) (by omega)
  have g : (nI t < 0 ∨ 401 ≤ t) = False := gn (by omega) (by omega)
  have g1 : (nI (t + 1) < 0 ∨ 401 ≤ t + 1) = False := gn (by omega) (by omega)
  have g2 : (nI c < 0 ∨ 24 ≤ c) = False := gn (by omega) (by omega)
  have e2 : (pu u (k1 + 4) (t + 1) r) k1 20 = nI (c + 1) := by unfold pu; rw [up_ne (by omega)]; exact hc
  have h0 : (p = 0) = False := eq_false (by rw [hp]; decide)
  have h2 : (p = 2) = False := eq_false (by rw [hp]; decide)
  have h5 : (p = 5) = False := eq_false (by rw [hp]; decide)
  have h8 : (p = 8) = False := eq_false (by rw [hp]; decide)
  have h9 : (p = 9) = False := eq_false (by rw [hp]; decide)
  have h11 : (p = 11) = False := eq_false (by rw [hp]; decide)
  have h12 : (p = 12) = False := eq_false (by rw [hp]; decide)
  have h16 : (p = 16) = False := eq_false (by rw [hp]; decide)
  have h13 : (p = 13) = False := eq_false (by rw [hp]; decide)
  have h15 : (p = 15) = False := eq_false (by rw [hp]; decide)
  have h14 : (p = 14) = True := eq_true hp
  simp only [ni_sub1, c0, c1, c2, g, g1, g2, if_false, if_true, hq, h0, h2, h5, h8, h9, h11, h12, h14, h16, h13, h15, hs, hno, hmo, hf, ob, bd, e2]
theorem ln_16 {c : Nat} {r : Int32} {cnt : Int32} (ht : t + 1 ≤ 400) (hp : u (k1 + 1) t = 16) (hn : u k1 11 = cnt) (hf : f_Model_find z u sp k1 (k1 + 10) 6 cnt (nI (t + 1)) = some r) (hc : u k1 20 = nI (c + 1)) (hcN : c < 24) (hk1 : 194 ≤ k1) :
    f_Model_errorOfName z u sp k1 (nI (t + 1)) = if r = -1 then some (3, u) else some (0, pu (pu u (k1 + 4) (t + 1) r) (k1 + 18) c r) := by
  have hs : f_Model_sortOf u k1 (nI (t + 1)) = some 5 := sort_1 (by omega) hp (Or.inl ⟨by decide, rfl⟩)
  have hno : f_Model_namesOf u sp k1 5 = some (k1 + 10, 6) := rfl
  have hmo : f_Model_manyOf u sp k1 5 = some cnt := by rw [← hn]; rfl
  unfold f_Model_errorOfName j_Model_errorOfName_101 j_Model_errorOfName_120 j_Model_errorOfName_138 j_Model_errorOfName_151 j_Model_errorOfName_163
  generalize hq : u (k1 + 1) t = p at hp
  have c0 := ni_c (i := t) (by omega)
  have c1 := ni_c (i := t + 1) (by omega)
  have c2 := ni_c (i := c) (by omega)
  have g : (nI t < 0 ∨ 401 ≤ t) = False := gn (by omega) (by omega)
  have g1 : (nI (t + 1) < 0 ∨ 401 ≤ t + 1) = False := gn (by omega) (by omega)
  have g2 : (nI c < 0 ∨ 24 ≤ c) = False := gn (by omega) (by omega)
  have e2 : (pu u (k1 + 4) (t + 1) r) k1 20 = nI (c + 1) := by unfold pu; rw [up_ne (by omega)]; exact hc
  have h0 : (p = 0) = False := eq_false (by rw [hp]; decide)
  have h2 : (p = 2) = False := eq_false (by rw [hp]; decide)
  have h5 : (p = 5) = False := eq_false (by rw [hp]; decide)
  have h8 : (p = 8) = False := eq_false (by rw [hp]; decide)
  have h9 : (p = 9) = False := eq_false (by rw [hp]; decide)
  have h11 : (p = 11) = False := eq_false (by rw [hp]; decide)
  have h12 : (p = 12) = False := eq_false (by rw [hp]; decide)
  have h14 : (p = 14) = False := eq_false (by rw [hp]; decide)
  have h13 : (p = 13) = False := eq_false (by rw [hp]; decide)
  have h15 : (p = 15) = False := eq_false (by rw [hp]; decide)
  have h16 : (p = 16) = True := eq_true hp
  simp only [ni_sub1, c0, c1, c2, g, g1, g2, if_false, if_true, hq, h0, h2, h5, h8, h9, h11, h12, h14, h16, h13, h15, hs, hno, hmo, hf, ob, bd, e2]
theorem ln_13 {c : Nat} {r : Int32} {cnt : Int32} (ht : t + 1 ≤ 400) (hp : u (k1 + 1) t = 13) (hn : u k1 7 = cnt) (hf : f_Model_find z u sp k1 (k1 + 7) 4 cnt (nI (t + 1)) = some r) (hc : u k1 20 = nI (c + 1)) (hcN : c < 24) (hk1 : 194 ≤ k1) :
    f_Model_errorOfName z u sp k1 (nI (t + 1)) = if r = -1 then some (3, u) else some (0, pu (pu u (k1 + 4) (t + 1) r) (k1 + 19) c r) := by
  have hs : f_Model_sortOf u k1 (nI (t + 1)) = some 2 := sort_1 (by omega) hp (Or.inr (Or.inr (Or.inr ⟨rfl, rfl⟩)))
  have hno : f_Model_namesOf u sp k1 2 = some (k1 + 7, 4) := rfl
  have hmo : f_Model_manyOf u sp k1 2 = some cnt := by rw [← hn]; rfl
  unfold f_Model_errorOfName j_Model_errorOfName_101 j_Model_errorOfName_120 j_Model_errorOfName_138 j_Model_errorOfName_151 j_Model_errorOfName_163
  generalize hq : u (k1 + 1) t = p at hp
  have c0 := ni_c (i := t) (by omega)
  have c1 := ni_c (i := t + 1) (by omega)
  have c2 := ni_c (i := c) (by omega)
  have g : (nI t < 0 ∨ 401 ≤ t) = False := gn (by omega) (by omega)
  have g1 : (nI (t + 1) < 0 ∨ 401 ≤ t + 1) = False := gn (by omega) (by omega)
  have g2 : (nI c < 0 ∨ 24 ≤ c) = False := gn (by omega) (by omega)
  have e2 : (pu u (k1 + 4) (t + 1) r) k1 20 = nI (c + 1) := by unfold pu; rw [up_ne (by omega)]; exact hc
  have h0 : (p = 0) = False := eq_false (by rw [hp]; decide)
  have h2 : (p = 2) = False := eq_false (by rw [hp]; decide)
  have h5 : (p = 5) = False := eq_false (by rw [hp]; decide)
  have h8 : (p = 8) = False := eq_false (by rw [hp]; decide)
  have h9 : (p = 9) = False := eq_false (by rw [hp]; decide)
  have h11 : (p = 11) = False := eq_false (by rw [hp]; decide)
  have h12 : (p = 12) = False := eq_false (by rw [hp]; decide)
  have h14 : (p = 14) = False := eq_false (by rw [hp]; decide)
  have h16 : (p = 16) = False := eq_false (by rw [hp]; decide)
  have h15 : (p = 15) = False := eq_false (by rw [hp]; decide)
  have h13 : (p = 13) = True := eq_true hp
  simp only [ni_sub1, c0, c1, c2, g, g1, g2, if_false, if_true, hq, h0, h2, h5, h8, h9, h11, h12, h14, h16, h13, h15, hs, hno, hmo, hf, ob, bd, e2]
theorem ln_15 {c : Nat} {r : Int32} {cnt : Int32} (ht : t + 1 ≤ 400) (hp : u (k1 + 1) t = 15) (hn : u k1 11 = cnt) (hf : f_Model_find z u sp k1 (k1 + 10) 6 cnt (nI (t + 1)) = some r) (hc : u k1 20 = nI (c + 1)) (hcN : c < 24) (hk1 : 194 ≤ k1) :
    f_Model_errorOfName z u sp k1 (nI (t + 1)) = if r = -1 then some (3, u) else some (0, pu (pu u (k1 + 4) (t + 1) r) (k1 + 19) c r) := by
  have hs : f_Model_sortOf u k1 (nI (t + 1)) = some 5 := sort_1 (by omega) hp (Or.inl ⟨by decide, rfl⟩)
  have hno : f_Model_namesOf u sp k1 5 = some (k1 + 10, 6) := rfl
  have hmo : f_Model_manyOf u sp k1 5 = some cnt := by rw [← hn]; rfl
  unfold f_Model_errorOfName j_Model_errorOfName_101 j_Model_errorOfName_120 j_Model_errorOfName_138 j_Model_errorOfName_151 j_Model_errorOfName_163
  generalize hq : u (k1 + 1) t = p at hp
  have c0 := ni_c (i := t) (by omega)
  have c1 := ni_c (i := t + 1) (by omega)
  have c2 := ni_c (i := c) (by omega)
  have g : (nI t < 0 ∨ 401 ≤ t) = False := gn (by omega) (by omega)
  have g1 : (nI (t + 1) < 0 ∨ 401 ≤ t + 1) = False := gn (by omega) (by omega)
  have g2 : (nI c < 0 ∨ 24 ≤ c) = False := gn (by omega) (by omega)
  have e2 : (pu u (k1 + 4) (t + 1) r) k1 20 = nI (c + 1) := by unfold pu; rw [up_ne (by omega)]; exact hc
  have h0 : (p = 0) = False := eq_false (by rw [hp]; decide)
  have h2 : (p = 2) = False := eq_false (by rw [hp]; decide)
  have h5 : (p = 5) = False := eq_false (by rw [hp]; decide)
  have h8 : (p = 8) = False := eq_false (by rw [hp]; decide)
  have h9 : (p = 9) = False := eq_false (by rw [hp]; decide)
  have h11 : (p = 11) = False := eq_false (by rw [hp]; decide)
  have h12 : (p = 12) = False := eq_false (by rw [hp]; decide)
  have h14 : (p = 14) = False := eq_false (by rw [hp]; decide)
  have h16 : (p = 16) = False := eq_false (by rw [hp]; decide)
  have h13 : (p = 13) = False := eq_false (by rw [hp]; decide)
  have h15 : (p = 15) = True := eq_true hp
  simp only [ni_sub1, c0, c1, c2, g, g1, g2, if_false, if_true, hq, h0, h2, h5, h8, h9, h11, h12, h14, h16, h13, h15, hs, hno, hmo, hf, ob, bd, e2]
/-- a name that is told ahead -/
theorem OutL.name {x k ka cc N rw' cw N' : Nat} (G : GH kn nt k1 z) (hA : ALL kn nt k1 sp z u0 v us (t + 1)) (hp : kn t = x) (hx : x = 9 ∧ k = 49 ∧ ka = k1 + 5 ∧ N = 4 ∧ cc = 4 ∧ rw' = 14 ∧ cw = 15 ∧ N' = 10 ∨ x = 11 ∧ k = 55 ∧ ka = k1 + 10 ∧ N = 6 ∧ cc = 11 ∧ rw' = 16 ∧ cw = 15 ∧ N' = 10 ∨ x = 12 ∧ k = 58 ∧ ka = k1 + 13 ∧ N = 10 ∧ cc = 15 ∧ rw' = 18 ∧ cw = 20 ∧ N' = 24 ∨ x = 14 ∧ k = 58 ∧ ka = k1 + 13 ∧ N = 10 ∧ cc = 15 ∧ rw' = 18 ∧ cw = 20 ∧ N' = 24 ∨ x = 16 ∧ k = 55 ∧ ka = k1 + 10 ∧ N = 6 ∧ cc = 11 ∧ rw' = 18 ∧ cw = 20 ∧ N' = 24 ∨ x = 13 ∧ k = 52 ∧ ka = k1 + 7 ∧ N = 4 ∧ cc = 7 ∧ rw' = 19 ∧ cw = 20 ∧ N' = 24 ∨ x = 15 ∧ k = 55 ∧ ka = k1 + 10 ∧ N = 6 ∧ cc = 11 ∧ rw' = 19 ∧ cw = 20 ∧ N' = 24)
    (hP : ∀ u, P u → EK kn nt k1 u0 u ∧ (∃ n, NR v u0 kn nt k ka cc n N u k1) ∧ ∃ c, c < N' ∧ u k1 cw = nI (c + 1)) :
    OutL Prod.snd kn nt k1 sp z v us (t + 1) (f_Reader_takeName z v k N) (f_Model_eat us sp k1 35) P (fun t' => t' = t + 2 ∧ kn (t + 1) = 47) (fun a u3 t' => ∃ u n m c, P u ∧ v k 2 = nI n ∧ u k1 cc = nI n ∧ m < n ∧ n ≤ N ∧ c < N' ∧ u k1 cw = nI (c + 1) ∧ a = (nI m, Nx v (t + 2)) ∧ u3 = pu (pu u (k1 + 4) (t + 1) (nI m)) (k1 + rw') c (nI m)) := by
  have hA' := hA
  obtain ⟨⟨l1, l2, l3, l4, l5, l6, l7, l8, l9, l10⟩, hc⟩ := hA
  have hc' := hc
  obtain ⟨c1, c2, c3, c4, c5, c6, c7, c8, c9⟩ := hc
  have g1 := G.1
  have g6 := G.2.2.2.2.2
  have hkn := G.2.1 (t + 1) l3
  have hk : k = 49 ∧ N = 4 ∨ k = 52 ∧ N = 4 ∨ k = 55 ∧ N = 6 ∨ k = 58 ∧ N = 10 := by rcases hx with ⟨-, q1, -, q, -⟩ | ⟨-, q1, -, q, -⟩ | ⟨-, q1, -, q, -⟩ | ⟨-, q1, -, q, -⟩ | ⟨-, q1, -, q, -⟩ | ⟨-, q1, -, q, -⟩ | ⟨-, q1, -, q, -⟩ <;> omega
  have hN : N ≤ 10 := by omega
  obtain ⟨m, hm, hm2⟩ : ∃ m, m ≤ N ∧ v k 2 = nI m := by
    rcases hk with ⟨rfl, rfl⟩ | ⟨rfl, rfl⟩ | ⟨rfl, rfl⟩ | ⟨rfl, rfl⟩
    · exact c1
    · exact c2
    · exact c3
    · exact c4
  by_cases h47 : kn (t + 1) = 47
  · have ht := lt_of_kn G l3 (by omega)
    have h35 : us (k1 + 1) (t + 1) = 35 := by rw [l7 _ l3, h47]; rfl
    obtain ⟨r, hf, hr⟩ := find_any (z := z) (x := v 11 (t + 1)) hN g6 hm2 hm
    have hb0 := takeName_c (n := 0) hN g6 l1 l2 (by omega) (by rw [l6 _ l3, h47]) (by omega) (by omega) hf
    have hb : f_Reader_takeName z v k N = some (r, if 0 ≤ r then Nx v (t + 2) else BB v 3 (t + 1)) := by
      rw [hb0]; rfl
    have herr : ∀ u, P u → u k1 cc = nI m ∧ ∃ c, c < N' ∧ u k1 cw = nI (c + 1) ∧ f_Model_errorOf z u sp k1 (nI (t + 1)) = if r = -1 then some (3, u) else some (0, pu (pu u (k1 + 4) (t + 1) r) (k1 + rw') c r) := fun u hu => by
      obtain ⟨hE, ⟨n, hR⟩, c, hc1, hc2⟩ := hP u hu
      obtain ⟨r', f1, f2, f3⟩ := find_two hN g6 l10 hE.1 hR ht h47
      rw [hf] at f1
      obtain rfl := Option.some.inj f1
      have hnm : n = m := by
        have := hR.1
        rw [hm2, eq_n (by omega) (by have := hR.2.1; omega)] at this
        exact this.symm
      subst hnm
      refine ⟨hR.2.2.1, c, hc1, hc2, ?_⟩
      rw [err_name (by omega) (by rw [hE.2 _ l3, h47]; rfl)]
      have hpk := hE.2 t (by omega)
      rw [hp] at hpk
      have hcn := hR.2.2.1
      rcases hx with ⟨rfl, rfl, rfl, rfl, rfl, rfl, rfl, rfl⟩ | ⟨rfl, rfl, rfl, rfl, rfl, rfl, rfl, rfl⟩ | ⟨rfl, rfl, rfl, rfl, rfl, rfl, rfl, rfl⟩ | ⟨rfl, rfl, rfl, rfl, rfl, rfl, rfl, rfl⟩ | ⟨rfl, rfl, rfl, rfl, rfl, rfl, rfl, rfl⟩ | ⟨rfl, rfl, rfl, rfl, rfl, rfl, rfl, rfl⟩ | ⟨rfl, rfl, rfl, rfl, rfl, rfl, rfl, rfl⟩
      · exact ln_9 (by omega) hpk hcn f2 hc2 hc1 G.2.2.2.2.1
      · exact ln_11 (by omega) hpk hcn f2 hc2 hc1 G.2.2.2.2.1
      · exact ln_12 (by omega) hpk hcn f2 hc2 hc1 G.2.2.2.2.1
      · exact ln_14 (by omega) hpk hcn f2 hc2 hc1 G.2.2.2.2.1
      · exact ln_16 (by omega) hpk hcn f2 hc2 hc1 G.2.2.2.2.1
      · exact ln_13 (by omega) hpk hcn f2 hc2 hc1 G.2.2.2.2.1
      · exact ln_15 (by omega) hpk hcn f2 hc2 hc1 G.2.2.2.2.1
    rcases hr with rfl | ⟨i, hi, rfl⟩
    · rw [if_neg m1_lt] at hb
      refine OutL.one hA' ht hb (eat_y l4 (by omega) h35) FRl.bb BB_6 (cb_bb hc') ⟨rfl, h47⟩ (Or.inr ⟨3, by decide, by decide, BB_y, BB_n, fun h0 u hu => ⟨u, ?_⟩⟩)
      obtain ⟨-, c, -, -, he⟩ := herr u hu
      rw [he, if_pos rfl]
    · rw [if_pos (by rw [n_ge0 (by omega)]; trivial)] at hb
      refine OutL.one hA' ht hb (eat_y l4 (by omega) h35) (FRl.re FRe.nx) (Nx_6 (v := v) (t := t + 2)) (cb_nx (v := v) (t := t + 2) hc') ⟨rfl, h47⟩ (Or.inl ⟨Nx_7 (v := v) (t := t + 2), Nx_8 (v := v) (t := t + 2), fun h0 u hu => ?_⟩)
      obtain ⟨hcn, c, hc1, hc2, he⟩ := herr u hu
      rw [if_neg (by rw [eq_m1 (by omega)]; exact id)] at he
      exact ⟨_, he, u, m, i, c, hu, hm2, hcn, hi, hm, hc1, hc2, rfl, rfl⟩
  · have ne : ¬ nI (kn (t + 1)) = 47 := by rw [show (47 : Int32) = nI 47 from rfl, eq_n (by omega) (by omega)]; exact h47
    exact OutL.bad (a := (-1, Fl v (t + 1))) hA' (takeName_n l1 l2 (by omega) (l6 (t + 1) l3) ne) rfl (eat_n l4 (by omega) (by rw [l7 _ l3, show (35 : Int32) = nI (kmap 47) from rfl, kq hkn (by omega)]; exact h47))
end
