/-! LINES: their single tokens -/
/-- the sheet's tokens are those that were cut -/
def EN (kn : Nat → Nat) (nt k1 : Nat) (u0 u : Va) : Prop := (u 150 = u0 150 ∧ u (k1 + 2) = u0 (k1 + 2) ∧ u (k1 + 3) = u0 (k1 + 3)) ∧ ∀ i, i ≤ nt → u (k1 + 1) i = nI (kmap (kn i))
/-- a new name of a sort, on both sides -/
def Nw (v : Va) (t k n : Nat) : Va := pu (up (Nx v (t + 1)) (k + 2) (upd (v (k + 2)) n (v 11 t))) k 2 (nI (n + 1))
def Mw (u : Va) (k1 ka cc n t : Nat) : Va := pu (pu u ka n (nI t)) k1 cc (nI (n + 1))
section
variable {kn : Nat → Nat} {nt k1 sp z : Nat} {u0 u v v1 us us1 : Va} {t t1 : Nat} {P P' : Va → Prop} {D D' D1 D2 : Nat → Prop}
theorem lt_of_kn (h : GH kn nt k1 z) (ht : t ≤ nt) (hk : kn t ≤ 48) : t + 1 ≤ nt := by
  rcases Nat.lt_or_ge t nt with q | q
  · exact q
  · have : t = nt := by omega
    subst this; have := h.2.2.2.1; omega
theorem cb_nx (h : CB v) : CB (Nx v t) := h.fr ⟨by unfold Nx pu; rw [up_ne (by omega)], by unfold Nx pu; rw [up_ne (by omega)], by unfold Nx pu; rw [up_ne (by omega)], by unfold Nx pu; rw [up_ne (by omega)], by unfold Nx pu; rw [up_ne (by omega)]⟩
theorem OutL.take (G : GH kn nt k1 z) (hA : ALL kn nt k1 sp z u0 v us t) {n : Nat} (hn : plain n) (hE : ∀ u, P u → EN kn nt k1 u0 u) : OutL id kn nt k1 sp z v us t (f_Reader_take v (nI n)) (f_Model_eat us sp k1 (nI (kmap n))) P (fun t' => t' = t + 1 ∧ kn t = n) (fun a u t' => P u ∧ a = Nx v t') := by
  have hA' := hA
  obtain ⟨⟨l1, l2, l3, l4, l5, l6, l7, l8, l9, l10⟩, hc⟩ := hA
  have g1 := G.1
  have hkn := G.2.1 t l3
  have hn46 := hn.1
  by_cases h : kn t = n
  · have ht := lt_of_kn G l3 (by omega)
    rw [← h, take_y l1 l2 (by omega) (l6 t l3), eat_y l4 (by omega) (l7 t l3)]
    refine OutL.one hA' ht rfl rfl (FRl.re FRe.nx) Nx_6 (cb_nx hc) ⟨rfl, rfl⟩ (Or.inl ⟨Nx_7, Nx_8, fun h0 u hP => ⟨u, ?_, hP, rfl⟩⟩)
    rw [h] at hkn
    exact err_no (n := kn t) (by omega) ((hE u hP).2 t l3) (by omega) ⟨by rw [h]; exact hn.2.1, by rw [h]; exact hn.2.2.1, by rw [h]; exact hn.2.2.2.1, by rw [h]; exact hn.2.2.2.2.1, by rw [h]; exact hn.2.2.2.2.2, by omega, by omega⟩
  · exact OutL.bad (a := Fl v t) hA' (take_n l1 l2 (by omega) (l6 t l3) (by rw [eq_n (by omega) (by omega)]; exact h)) rfl (eat_n l4 (by omega) (by rw [l7 t l3, kq hkn (by omega)]; exact h))
theorem DeadL.take {a : Int32} (h : ¬ (50 : Int32) = a) : DeadL id id (fun v => f_Reader_take v a) := fun v hv => ⟨v, take_d hv h, rfl, FRl.refl'⟩
/-- the error pass at a new name -/
theorem name_new {ka cc N : Nat} {x : Int32} (ht : t + 1 ≤ 400) (hp : u (k1 + 1) t = x) (h : x = 0 ∧ ka = k1 + 5 ∧ N = 4 ∧ cc = 4 ∨ x = 2 ∧ ka = k1 + 7 ∧ N = 4 ∧ cc = 7 ∨ x = 5 ∧ ka = k1 + 10 ∧ N = 6 ∧ cc = 11 ∨ x = 8 ∧ ka = k1 + 13 ∧ N = 10 ∧ cc = 15) (hn : u k1 cc = nI n) (hnN : n ≤ N) (hf : f_Model_find z u sp k1 ka N (nI n) (nI (t + 1)) = some r) (hk1 : 194 ≤ k1) :
    f_Model_errorOfName z u sp k1 (nI (t + 1)) = if r = -1 then (if n = N then some (4, u) else some (0, Mw u k1 ka cc n (t + 1))) else some (2, u) := by
  have e1 : f_Model_errorOfName z u sp k1 (nI (t + 1)) = (f_Model_errorOfNew z u sp k1 (nI (t + 1)) x).bind fun q33 => some (q33.1, q33.2) := by
    unfold f_Model_errorOfName j_Model_errorOfName_29
    rw [ni_sub1, if_neg (gd2 (by omega) (by omega)), ni_c (by omega), hp]
    rcases h with ⟨rfl, -⟩ | ⟨rfl, -⟩ | ⟨rfl, -⟩ | ⟨rfl, -⟩
    · rw [if_pos rfl]
    · rw [if_neg (by decide), if_pos rfl]
    · rw [if_neg (by decide), if_neg (by decide), if_pos rfl]
    · rw [if_neg (by decide), if_neg (by decide), if_neg (by decide), if_pos rfl]
  have hw : ∀ w : Va, w = pu u ka n (nI (t + 1)) → k1 ≠ ka → w k1 cc = nI n := fun w hw hne => by rw [hw]; unfold pu; rw [up_ne hne]; exact hn
  have e2 : f_Model_errorOfNew z u sp k1 (nI (t + 1)) x = if r = -1 then (if n = N then some (4, u) else some (0, Mw u k1 ka cc n (t + 1))) else some (2, u) := by
    unfold f_Model_errorOfNew f_Model_manyOf f_Model_namesOf
    have hN10 : N ≤ 10 := by rcases h with ⟨-, -, q, -⟩ | ⟨-, -, q, -⟩ | ⟨-, -, q, -⟩ | ⟨-, -, q, -⟩ <;> omega
    have hcc : u k1 cc + 1 = nI (n + 1) := by rw [hn, ni_s]
    have fin : ∀ (X : Option (Int32 × Va)), (r = -1 → n ≠ N → X = some (0, Mw u k1 ka cc n (t + 1))) → (if r = -1 then (if nI n = nI N then some (4, u) else if nI n < 0 ∨ N ≤ (nI n).toNatClampNeg then none else X) else some (2, u)) = if r = -1 then (if n = N then some (4, u) else some (0, Mw u k1 ka cc n (t + 1))) else some (2, u) := fun X hX => by
      rw [eq_n (by omega) (by omega)]
      by_cases q1 : r = -1
      · rw [if_pos q1, if_pos q1]
        by_cases q2 : n = N
        · rw [if_pos q2, if_pos q2]
        · rw [if_neg q2, if_neg q2, if_neg (gd2 (by omega) (by omega)), hX q1 q2]
      · rw [if_neg q1, if_neg q1]
    rcases h with ⟨rfl, rfl, rfl, rfl⟩ | ⟨rfl, rfl, rfl, rfl⟩ | ⟨rfl, rfl, rfl, rfl⟩ | ⟨rfl, rfl, rfl, rfl⟩
    · rw [if_pos rfl, ob, if_pos rfl, ob, hn]
      simp only
      rw [hf, ob]
      refine fin _ fun q1 q2 => ?_
      rw [bd, if_pos rfl, ni_c (by omega), bd, hw _ rfl (by omega), ni_s]
      rfl
    · rw [if_neg (by decide), if_pos rfl, ob, if_neg (by decide), if_pos rfl, ob, hn]
      simp only
      rw [hf, ob]
      refine fin _ fun q1 q2 => ?_
      rw [bd, if_neg (by decide), if_pos rfl, ni_c (by omega), bd, hw _ rfl (by omega), ni_s]
      rfl
    · rw [if_neg (by decide), if_neg (by decide), if_pos rfl, ob, if_neg (by decide), if_neg (by decide), if_pos rfl, ob, hn]
      simp only
      rw [hf, ob]
      refine fin _ fun q1 q2 => ?_
      rw [bd, if_neg (by decide), if_neg (by decide), if_pos rfl, ni_c (by omega), bd, hw _ rfl (by omega), ni_s]
      rfl
    · rw [if_neg (by decide), if_neg (by decide), if_neg (by decide), ob, if_neg (by decide), if_neg (by decide), if_neg (by decide), ob, hn]
      simp only
      rw [hf, ob]
      refine fin _ fun q1 q2 => ?_
      rw [bd, if_neg (by decide), if_neg (by decide), if_neg (by decide), ni_c (by omega), bd, hw _ rfl (by omega), ni_s]
      rfl
  rw [e1, e2]
  by_cases q1 : r = -1
  · rw [if_pos q1]
    by_cases q2 : n = N
    · rw [if_pos q2, ob]
    · rw [if_neg q2, ob]
  · rw [if_neg q1, ob]
end
