/-! THE REFERENCE WALKS ITS TOKENS: what a stretch of tokens is worth is what a row of steps is worth -/
abbrev Wk (u : Va) (t : Nat) : Va := pu u 149 10 (nI t)
/-- the walk stands at t; kinds and, from a to b, meanings are these -/
def EU (Kd Mn : Nat → Int32) (sp sn t a b : Nat) (u : Va) : Prop := u 149 10 = nI t ∧ (u 149 11).toNatClampNeg = sn ∧ (∀ i, i < 401 → u (sp + 1) i = Kd i) ∧ (∀ i, a ≤ i → i < b → u (sp + 4) i = Mn i) ∧ (sp = 151 ∨ 194 ≤ sp) ∧ (sn = 173 ∨ sn = 183)
/-- a row that leaves one number, of leaves that are there, no longer than its tokens -/
def OKc (M L t t' : Nat) (c : List Ste) : Prop := t ≤ t' ∧ t' ≤ 400 ∧ (∀ s ∈ c, okS M L s) ∧ (∀ n, dep c n = some (n + 1)) ∧ c.length ≤ t' - t
def OKl (M L t t' : Nat) (c : List Ste) : Prop := t ≤ t' ∧ t' ≤ 400 ∧ (∀ s ∈ c, okS M L s) ∧ (∀ n, dep c (n + 1) = some (n + 1)) ∧ c.length ≤ t' - t
def EvI (ix need : Nat) (Kd Mn : Nat → Int32) (M L t t' : Nat) (c : List Ste) : Prop := OKc M L t t' c ∧ ∀ (z sp sn d : Nat) (u : Va), 4000 < z → need ≤ d → EU Kd Mn sp sn t t t' u → ∃ x, (g_Ev z sp sn d).2 ix [] u = some (x, Wk u t') ∧ ∀ st, run (mval u sn) c st = x :: st
def EvB (ix need : Nat) (Kd Mn : Nat → Int32) (M L t t' : Nat) (c : List Ste) : Prop := OKc M L t t' c ∧ ∀ (z sp sn d : Nat) (u : Va), 4000 < z → need ≤ d → EU Kd Mn sp sn t t t' u → ∃ b, (g_Ev z sp sn d).1 ix [] u = some (b, Wk u t') ∧ ∀ st, run (mval u sn) c st = q_b b :: st
section
variable {u : Va} {Kd Mn : Nat → Int32} {M L sp sn t t' t1 t2 a b n z : Nat} {c c1 c2 : List Ste} {kd : Int32}
theorem Wk_id (h : u 149 10 = nI t) : Wk u t = u := by
  unfold Wk pu
  have : upd (u 149) 10 (nI t) = u 149 := funext fun q => by
    by_cases hq : q = 10
    · subst hq; rw [upd_eq, h]
    · rw [upd_ne hq]
  rw [this, up_id]
theorem Wk_Wk : Wk (Wk u a) b = Wk u b := by unfold Wk pu; rw [up_up, up_eq, upd_upd]
theorem Wk_10 : (Wk u t) 149 10 = nI t := by unfold Wk pu; rw [up_eq, upd_eq]
theorem Wk_11 : (Wk u t) 149 11 = u 149 11 := by unfold Wk pu; rw [up_eq, upd_ne (by omega)]
theorem Wk_p {p : Nat} (h : p ≠ 149) : (Wk u t) p = u p := by unfold Wk pu; rw [up_ne h]
theorem EU.to (h : EU Kd Mn sp sn t a b u) {a' b' : Nat} (h1 : a ≤ a') (h2 : b' ≤ b) : EU Kd Mn sp sn t1 a' b' (Wk u t1) := by
  obtain ⟨-, e2, e3, e4, e5, e6⟩ := h
  exact ⟨Wk_10, by rw [Wk_11]; exact e2, fun i hi => by rw [Wk_p (by omega)]; exact e3 i hi, fun i hi hj => by rw [Wk_p (by omega)]; exact e4 i (by omega) (by omega), e5, e6⟩
theorem EU.cut (h : EU Kd Mn sp sn t a b u) {a' b' : Nat} (h1 : a ≤ a') (h2 : b' ≤ b) : EU Kd Mn sp sn t a' b' u := ⟨h.1, h.2.1, h.2.2.1, fun i hi hj => h.2.2.2.1 i (by omega) (by omega), h.2.2.2.2⟩
theorem mval_W (hn : sn = 173 ∨ sn = 183) : mval (Wk u t) sn = mval u sn := mval_eq fun p h1 h2 => Wk_p (by omega)
theorem dep_leaf {s : Ste} (h : takes s = 0) : dep [s] n = some (n + 1) := by
  show (if takes s ≤ n then dep [] (n - takes s + 1) else none) = _
  rw [h, if_pos (by omega)]; rfl
theorem dep_un {s : Ste} (h : takes s = 1) : dep [s] (n + 1) = some (n + 1) := by
  show (if takes s ≤ n + 1 then dep [] (n + 1 - takes s + 1) else none) = _
  rw [h, if_pos (by omega)]; rfl
theorem dep_bin {s : Ste} (h : takes s = 2) : dep [s] (n + 2) = some (n + 1) := by
  show (if takes s ≤ n + 2 then dep [] (n + 2 - takes s + 1) else none) = _
  rw [h, if_pos (by omega)]; rfl
theorem ok_no {k a b : Int32} (h : ¬ (k = 6 ∨ k = 24) ∧ ¬ (k = 21 ∨ k = 22 ∨ k = 23) ∧ ¬ k = 25 ∧ ¬ k = 26) : okS M L (k, a, b) := ⟨fun q => absurd q h.1, fun q => absurd q h.2.1, fun q => absurd q h.2.2.1, fun q => absurd q h.2.2.2⟩
theorem OKc.leaf {s : Ste} (h : t < t') (h2 : t' ≤ 400) (ho : okS M L s) (hs : takes s = 0) : OKc M L t t' [s] := ⟨by omega, h2, fun s' hs' => by rw [List.mem_singleton.mp hs']; exact ho, fun n => dep_leaf hs, by show 1 ≤ t' - t; omega⟩
theorem OKc.un (h : OKc M L t t' c) {s : Ste} (h1 : a < t) (ho : okS M L s) (hs : takes s = 1) : OKc M L a t' (c ++ [s]) := by
  obtain ⟨h2, h3, h4, h5, h6⟩ := h
  refine ⟨by omega, h3, fun s' hs' => ?_, fun n => ?_, ?_⟩
  · rcases List.mem_append.mp hs' with q | q
    · exact h4 s' q
    · rw [List.mem_singleton.mp q]; exact ho
  · rw [dep_app, h5 n, ob, dep_un hs]
  · rw [List.length_append]; show c.length + 1 ≤ _; omega
theorem OKc.wide (h : OKc M L t t' c) (h1 : a ≤ t) (h2 : t' ≤ b) (h3 : b ≤ 400) : OKc M L a b c := ⟨by have := h.1; omega, h3, h.2.2.1, h.2.2.2.1, by have := h.2.2.2.2; have := h.1; omega⟩
theorem OKc.bin (h : OKc M L t t1 c1) (h' : OKc M L t2 t' c2) {s : Ste} (h1 : t1 < t2) (ho : okS M L s) (hs : takes s = 2) : OKc M L t t' (c1 ++ c2 ++ [s]) := by
  obtain ⟨g2, g3, g4, g5, g6⟩ := h
  obtain ⟨k2, k3, k4, k5, k6⟩ := h'
  refine ⟨by omega, k3, fun s' hs' => ?_, fun n => ?_, ?_⟩
  · rcases List.mem_append.mp hs' with q | q
    · rcases List.mem_append.mp q with q | q
      · exact g4 s' q
      · exact k4 s' q
    · rw [List.mem_singleton.mp q]; exact ho
  · rw [dep_app, dep_app, g5 n, ob, k5 (n + 1), ob, dep_bin hs]
  · rw [List.length_append, List.length_append]; show c1.length + c2.length + 1 ≤ _; omega
theorem OKl.nil (h : t ≤ 400) : OKl M L t t [] := ⟨Nat.le_refl _, h, fun _ q => (by cases q), fun _ => rfl, Nat.zero_le _⟩
theorem OKl.cons (h : OKc M L t2 t1 c1) (h' : OKl M L t1 t' c2) {s : Ste} (h1 : t < t2) (ho : okS M L s) (hs : takes s = 2) : OKl M L t t' (c1 ++ [s] ++ c2) := by
  obtain ⟨g2, g3, g4, g5, g6⟩ := h
  obtain ⟨k2, k3, k4, k5, k6⟩ := h'
  refine ⟨by omega, k3, fun s' hs' => ?_, fun n => ?_, ?_⟩
  · rcases List.mem_append.mp hs' with q | q
    · rcases List.mem_append.mp q with q | q
      · exact g4 s' q
      · rw [List.mem_singleton.mp q]; exact ho
    · exact k4 s' q
  · rw [dep_app, dep_app, g5 (n + 1), ob, dep_bin hs, ob, k5 n]
  · rw [List.length_append, List.length_append]; show c1.length + 1 + c2.length ≤ _; omega
theorem OKc.loop (h : OKc M L t t1 c1) (h' : OKl M L t1 t' c2) : OKc M L t t' (c1 ++ c2) := by
  obtain ⟨g2, g3, g4, g5, g6⟩ := h
  obtain ⟨k2, k3, k4, k5, k6⟩ := h'
  refine ⟨by omega, k3, fun s' hs' => ?_, fun n => ?_, ?_⟩
  · rcases List.mem_append.mp hs' with q | q
    · exact g4 s' q
    · exact k4 s' q
  · rw [dep_app, g5 n, ob, k5 n]
  · rw [List.length_append]; omega
/-- a leaf of one name -/
theorem one_m (hs : (u 149 11).toNatClampNeg = sn) (hM : M ≤ 6) (hL : L ≤ 10) (hz : 4000 < z) {a b : Int32} (hk : kd = 6 ∨ kd = 21 ∨ kd = 22 ∨ kd = 23 ∨ kd = 24) (ho : okS M L (kd, a, b)) : f_Model_ofOne z u sp sn kd a = some (mval u sn kd a b) := by
  obtain ⟨k1, k2, -, -⟩ := ho
  simp only at k1 k2
  unfold f_Model_ofOne mval
  by_cases h : kd = 6
  · obtain ⟨m, hm, rfl⟩ := k1 (Or.inl h)
    rw [if_pos h, if_pos h, if_neg (fun q => q hs), if_neg (gd2 (by omega) (by omega))]
  have h19 : ¬ kd = 19 := fun q => by subst q; revert hk; decide
  have h20 : ¬ kd = 20 := fun q => by subst q; revert hk; decide
  rw [if_neg h, if_neg h, if_neg h19, if_neg h20]
  by_cases h : kd = 21
  · obtain ⟨i, hi, rfl⟩ := k2 (Or.inl h)
    rw [if_pos h, if_pos h, if_neg (fun q => q hs), if_neg (gd2 (by omega) (by omega))]
  rw [if_neg h, if_neg h]
  by_cases h : kd = 22
  · obtain ⟨i, hi, rfl⟩ := k2 (Or.inr (Or.inl h))
    have g2 : ¬ (nI i < 0 ∨ 10 ≤ i) := by rw [gn (by omega) (by omega)]; exact id
    rw [if_pos h, if_pos h, if_neg (fun q => q hs), ni_c (by omega), if_neg g2]
    by_cases q : u (sn + 3) i = -1
    · rw [if_pos q, if_pos q]
    · rw [if_neg q, if_neg q, if_neg (fun q => q hs), if_neg g2]
  rw [if_neg h, if_neg h]
  by_cases h : kd = 23
  · obtain ⟨i, hi, rfl⟩ := k2 (Or.inr (Or.inr h))
    rw [if_pos h, if_pos h, if_neg (fun q => q hs), age_m (by omega), ob, ni_c (by omega)]
  rw [if_neg h, if_neg h]
  have h24 : kd = 24 := by rcases hk with q | q | q | q | q <;> first | exact q | (exfalso; contradiction)
  obtain ⟨m, hm, rfl⟩ := k1 (Or.inr h24)
  rw [if_neg (fun q => q hs), deb_m (by omega) (by omega), ob, if_pos h24, ni_c (by omega)]
theorem goes_y {a : Int32} (h : EU Kd Mn sp sn t t1 t2 u) (ht : t ≤ 400) (hk : Kd t = a) : f_Model_goesBy u sp a = some (true, Wk u (t + 1)) := by
  unfold f_Model_goesBy
  rw [h.1, if_neg (gd2 (by omega) (by omega)), ni_c (by omega), h.2.2.1 t (by omega), if_pos hk, bd, ni_s]
theorem goes_n {a : Int32} (h : EU Kd Mn sp sn t t1 t2 u) (ht : t ≤ 400) (hk : ¬ Kd t = a) : f_Model_goesBy u sp a = some (false, u) := by
  unfold f_Model_goesBy
  rw [h.1, if_neg (gd2 (by omega) (by omega)), ni_c (by omega), h.2.2.1 t (by omega), if_neg hk]
theorem q_ff {α : Type} {u : Va} {a b : α} : (if q_b ((false, u) : Bool × Va).1 = 0 then a else b) = a := if_pos (show q_b false = 0 by decide)
theorem q_tt {α : Type} {u : Va} {a b : α} : (if q_b ((true, u) : Bool × Va).1 = 0 then a else b) = b := if_neg (show ¬ q_b true = 0 by decide)
/-! values -/
theorem ev_num (ht : t + 1 ≤ 400) (hk : Kd t = 36) : EvI 5 1 Kd Mn M L t (t + 1) [(48, Mn t, 0)] := by
  refine ⟨OKc.leaf (by omega) ht (ok_no (by decide)) rfl, fun z sp sn d u hz hd hE => ⟨Mn t, ?_, fun st => rfl⟩⟩
  obtain ⟨d, rfl⟩ : ∃ y, d = y + 1 := ⟨d - 1, by omega⟩
  show f_Model_value z (g_Ev z sp sn d).1 (g_Ev z sp sn d).2 u sp sn = _
  unfold f_Model_value
  have hE' := hE
  obtain ⟨h1, h2, h3, h4, h5, h6⟩ := hE
  rw [h1, if_neg (gd2 (by omega) (by omega)), ni_c (by omega), h3 t (by omega), hk, bd, ni_s]
  show (if (Wk u (t + 1) 149 10 - 1) < 0 ∨ 401 ≤ (Wk u (t + 1) 149 10 - 1).toNatClampNeg then none else some (Wk u (t + 1) (sp + 4) (Wk u (t + 1) 149 10 - 1).toNatClampNeg, Wk u (t + 1))) = _
  rw [Wk_10, ni_sub1, if_neg (gd2 (by omega) (by omega)), ni_c (by omega), Wk_p (by omega), h4 t (by omega) (by omega)]
theorem ev_day (ht : t + 1 ≤ 400) (hk : Kd t = 19) : EvI 5 1 Kd Mn M L t (t + 1) [(19, 0, 0)] := by
  refine ⟨OKc.leaf (by omega) ht (ok_no (by decide)) rfl, fun z sp sn d u hz hd hE => ⟨u sn 0, ?_, fun st => rfl⟩⟩
  obtain ⟨d, rfl⟩ : ∃ y, d = y + 1 := ⟨d - 1, by omega⟩
  show f_Model_value z (g_Ev z sp sn d).1 (g_Ev z sp sn d).2 u sp sn = _
  unfold f_Model_value
  obtain ⟨h1, h2, h3, h4, h5, h6⟩ := hE
  rw [h1, if_neg (gd2 (by omega) (by omega)), ni_c (by omega), h3 t (by omega), hk, bd, ni_s]
  show (if ¬ (Wk u (t + 1) 149 11).toNatClampNeg = sn then none else some (Wk u (t + 1) sn 0, Wk u (t + 1))) = _
  rw [Wk_11, if_neg (fun q => q h2), Wk_p (by omega)]
theorem ev_damp (ht : t + 1 ≤ 400) (hk : Kd t = 20) : EvI 5 1 Kd Mn M L t (t + 1) [(20, 0, 0)] := by
  refine ⟨OKc.leaf (by omega) ht (ok_no (by decide)) rfl, fun z sp sn d u hz hd hE => ⟨u sn 1, ?_, fun st => rfl⟩⟩
  obtain ⟨d, rfl⟩ : ∃ y, d = y + 1 := ⟨d - 1, by omega⟩
  show f_Model_value z (g_Ev z sp sn d).1 (g_Ev z sp sn d).2 u sp sn = _
  unfold f_Model_value
  obtain ⟨h1, h2, h3, h4, h5, h6⟩ := hE
  rw [h1, if_neg (gd2 (by omega) (by omega)), ni_c (by omega), h3 t (by omega), hk, bd, ni_s]
  show (if ¬ (Wk u (t + 1) 149 11).toNatClampNeg = sn then none else some (Wk u (t + 1) sn 1, Wk u (t + 1))) = _
  rw [Wk_11, if_neg (fun q => q h2), Wk_p (by omega)]
theorem ev_one (ht : t + 2 ≤ 400) (hM : M ≤ 6) (hL : L ≤ 10) (hk : Kd t = kd) (hkd : kd = 6 ∨ kd = 21 ∨ kd = 22 ∨ kd = 23 ∨ kd = 24) (ho : okS M L (kd, Mn (t + 1), 0)) : EvI 5 1 Kd Mn M L t (t + 2) [(kd, Mn (t + 1), 0)] := by
  refine ⟨OKc.leaf (by omega) ht ho (by rcases hkd with rfl | rfl | rfl | rfl | rfl <;> rfl), fun z sp sn d u hz hd hE => ⟨mval u sn kd (Mn (t + 1)) 0, ?_, fun st => by rcases hkd with rfl | rfl | rfl | rfl | rfl <;> rfl⟩⟩
  obtain ⟨d, rfl⟩ : ∃ y, d = y + 1 := ⟨d - 1, by omega⟩
  show f_Model_value z (g_Ev z sp sn d).1 (g_Ev z sp sn d).2 u sp sn = _
  unfold f_Model_value
  obtain ⟨h1, h2, h3, h4, h5, h6⟩ := hE
  rw [h1, if_neg (gd2 (by omega) (by omega)), ni_c (by omega), h3 t (by omega), hk, bd, ni_s]
  have key : (bnd (pu (Wk u (t + 1)) 149 10 ((Wk u (t + 1)) 149 10 + 1)) fun v252 => if ((v252 149 10) - 1) < 0 ∨ 401 ≤ ((v252 149 10) - 1).toNatClampNeg then none else (f_Model_ofOne z v252 sp sn kd (v252 (sp + 4) ((v252 149 10) - 1).toNatClampNeg)).bind fun q271 => some (q271, v252)) = some (mval u sn kd (Mn (t + 1)) 0, Wk u (t + 2)) := by
    rw [bd, Wk_10, ni_s, show pu (Wk u (t + 1)) 149 10 (nI (t + 1 + 1)) = Wk u (t + 2) from Wk_Wk, Wk_10, show t + 2 = t + 1 + 1 from rfl, ni_sub1, if_neg (gd2 (by omega) (by omega)), ni_c (by omega), Wk_p (by omega), h4 (t + 1) (by omega) (by omega), one_m (b := 0) (by rw [Wk_11]; exact h2) hM hL hz hkd ho, ob, mval_W h6]
  rcases hkd with rfl | rfl | rfl | rfl | rfl
  · exact key
  · exact key
  · exact key
  · exact key
  · exact key
theorem ev_owes (ht : t + 3 ≤ 400) (hM : M ≤ 6) (hk : Kd t = 25) (ho : okS M L (25, Mn (t + 1), Mn (t + 2))) : EvI 5 1 Kd Mn M L t (t + 3) [(25, Mn (t + 1), Mn (t + 2))] := by
  refine ⟨OKc.leaf (by omega) ht ho rfl, fun z sp sn d u hz hd hE => ⟨mval u sn 25 (Mn (t + 1)) (Mn (t + 2)), ?_, fun st => rfl⟩⟩
  obtain ⟨d, rfl⟩ : ∃ y, d = y + 1 := ⟨d - 1, by omega⟩
  show f_Model_value z (g_Ev z sp sn d).1 (g_Ev z sp sn d).2 u sp sn = _
  unfold f_Model_value
  obtain ⟨h1, h2, h3, h4, h5, h6⟩ := hE
  rw [h1, if_neg (gd2 (by omega) (by omega)), ni_c (by omega), h3 t (by omega), hk, bd, ni_s]
  show (bnd (pu (Wk u (t + 1)) 149 10 ((Wk u (t + 1)) 149 10 + 2)) fun v282 => if ¬ (v282 149 11).toNatClampNeg = sn then none else if ((v282 149 10) - 2) < 0 ∨ 401 ≤ ((v282 149 10) - 2).toNatClampNeg then none else if ((v282 149 10) - 1) < 0 ∨ 401 ≤ ((v282 149 10) - 1).toNatClampNeg then none else (f_State_owes v282 sn (v282 (sp + 4) ((v282 149 10) - 2).toNatClampNeg) (v282 (sp + 4) ((v282 149 10) - 1).toNatClampNeg)).bind fun q317 => some (q317, v282)) = _
  obtain ⟨⟨m, hm, em⟩, m', hm', em'⟩ := ho.2.2.1 rfl
  simp only at em em'
  have e2 : nI (t + 1 + 2) - 2 = nI (t + 1) := by
    rw [show nI (t + 1 + 2) = nI (t + 1) + 2 from (ni_add (t + 1) 2).symm]
    exact Int32.add_sub_cancel _ _
  rw [bd, Wk_10, show nI (t + 1) + 2 = nI (t + 1 + 2) from ni_add (t + 1) 2, show pu (Wk u (t + 1)) 149 10 (nI (t + 1 + 2)) = Wk u (t + 1 + 2) from Wk_Wk, Wk_10, Wk_11, if_neg (fun q => q h2), e2, if_neg (gd2 (by omega) (by omega)), show t + 1 + 2 = t + 2 + 1 from rfl, ni_sub1, if_neg (gd2 (by omega) (by omega)), ni_c (by omega), ni_c (by omega), Wk_p (by omega), h4 (t + 1) (by omega) (by omega), h4 (t + 2) (by omega) (by omega), em, em', owes_m (by omega) (by omega), ob, Wk_p (by omega)]
  unfold mval
  rw [if_neg (by decide), if_neg (by decide), if_neg (by decide), if_neg (by decide), if_neg (by decide), if_neg (by decide), if_neg (by decide), if_pos rfl, ni_c (by omega), ni_c (by omega)]
theorem ev_neg (hk : Kd t = 47) (h : EvI 5 n Kd Mn M L (t + 1) t' c) : EvI 5 (n + 1) Kd Mn M L t t' (c ++ [(51, 0, 0)]) := by
  obtain ⟨hO, hV⟩ := h
  have h7 := hO.1
  have h8 := hO.2.1
  refine ⟨hO.un (by omega) (ok_no (by decide)) rfl, fun z sp sn d u hz hd hE => ?_⟩
  obtain ⟨d, rfl⟩ : ∃ y, d = y + 1 := ⟨d - 1, by omega⟩
  obtain ⟨x, q1, q2⟩ := hV z sp sn d (Wk u (t + 1)) hz (by omega) (hE.to (by omega) (by omega))
  refine ⟨-x, ?_, fun st => ?_⟩
  · show f_Model_value z (g_Ev z sp sn d).1 (g_Ev z sp sn d).2 u sp sn = _
    unfold f_Model_value
    obtain ⟨h1, h2, h3, h4, h5, h6⟩ := hE
    rw [h1, if_neg (gd2 (by omega) (by omega)), ni_c (by omega), h3 t (by omega), hk, bd, ni_s]
    show ((g_Ev z sp sn d).2 5 [] (Wk u (t + 1))).bind (fun q240 => some ((-q240.1), q240.2)) = _
    rw [q1, ob, Wk_Wk]
  · rw [mval_W hE.2.2.2.2.2] at q2
    rw [run_app, q2 st]
    rfl
theorem ev_par (hk : Kd t = 40) (ht : t' + 1 ≤ 400) (h : EvI 3 n Kd Mn M L (t + 1) t' c) : EvI 5 (n + 1) Kd Mn M L t (t' + 1) c := by
  obtain ⟨hO, hV⟩ := h
  have h7 := hO.1
  refine ⟨hO.wide (by omega) (by omega) ht, fun z sp sn d u hz hd hE => ?_⟩
  obtain ⟨d, rfl⟩ : ∃ y, d = y + 1 := ⟨d - 1, by omega⟩
  obtain ⟨x, q1, q2⟩ := hV z sp sn d (Wk u (t + 1)) hz (by omega) (hE.to (by omega) (by omega))
  refine ⟨x, ?_, fun st => ?_⟩
  · show f_Model_value z (g_Ev z sp sn d).1 (g_Ev z sp sn d).2 u sp sn = _
    unfold f_Model_value
    obtain ⟨h1, h2, h3, h4, h5, h6⟩ := hE
    rw [h1, if_neg (gd2 (by omega) (by omega)), ni_c (by omega), h3 t (by omega), hk, bd, ni_s]
    show ((g_Ev z sp sn d).2 3 [] (Wk u (t + 1))).bind (fun q322 => bnd (pu q322.2 149 10 ((q322.2 149 10) + 1)) fun v333 => some (q322.1, v333)) = _
    rw [q1, ob]
    simp only
    rw [bd, Wk_10, ni_s, Wk_Wk, show pu (Wk u t') 149 10 (nI (t' + 1)) = Wk u (t' + 1) from Wk_Wk]
  · rw [mval_W hE.2.2.2.2.2] at q2
    exact q2 st
theorem ev_two (hk : Kd t = kd) (hkd : kd = 30 ∨ kd = 31) (ht : t2 + 1 ≤ 400) (h : EvI 3 n Kd Mn M L (t + 2) t1 c1) (h' : EvI 3 n Kd Mn M L (t1 + 1) t2 c2) : EvI 5 (n + 1) Kd Mn M L t (t2 + 1) (c1 ++ c2 ++ [(kd, 0, 0)]) := by
  obtain ⟨hO, hV⟩ := h
  obtain ⟨hO', hV'⟩ := h'
  have h7 := hO.1
  have h8 := hO'.1
  refine ⟨(hO.bin hO' (by omega) (by rcases hkd with rfl | rfl <;> exact ok_no (by decide)) (by rcases hkd with rfl | rfl <;> rfl)).wide (by omega) (by omega) ht, fun z sp sn d u hz hd hE => ?_⟩
  obtain ⟨d, rfl⟩ : ∃ y, d = y + 1 := ⟨d - 1, by omega⟩
  obtain ⟨x, q1, q2⟩ := hV z sp sn d (Wk u (t + 2)) hz (by omega) (hE.to (by omega) (by omega))
  obtain ⟨y, q3, q4⟩ := hV' z sp sn d (Wk u (t1 + 1)) hz (by omega) (hE.to (by omega) (by omega))
  refine ⟨if kd = 30 then q_min x y else q_max x y, ?_, fun st => ?_⟩
  · show f_Model_value z (g_Ev z sp sn d).1 (g_Ev z sp sn d).2 u sp sn = _
    unfold f_Model_value
    obtain ⟨h1, h2, h3, h4, h5, h6⟩ := hE
    rw [h1, if_neg (gd2 (by omega) (by omega)), ni_c (by omega), h3 t (by omega), hk, bd, ni_s]
    have key : (bnd (pu (Wk u (t + 1)) 149 10 ((Wk u (t + 1)) 149 10 + 1)) fun v345 => ((g_Ev z sp sn d).2 3 [] v345).bind fun q349 => bnd (pu q349.2 149 10 ((q349.2 149 10) + 1)) fun v360 => ((g_Ev z sp sn d).2 3 [] v360).bind fun q364 => bnd (pu q364.2 149 10 ((q364.2 149 10) + 1)) fun v375 => if kd = 30 then (some ((q_min q349.1 q364.1), v375)) else (some ((q_max q349.1 q364.1), v375))) = some (if kd = 30 then q_min x y else q_max x y, Wk u (t2 + 1)) := by
      rw [bd, Wk_10, ni_s, show pu (Wk u (t + 1)) 149 10 (nI (t + 1 + 1)) = Wk u (t + 2) from Wk_Wk, q1, ob]
      simp only
      rw [bd, Wk_10, ni_s, Wk_Wk, show pu (Wk u t1) 149 10 (nI (t1 + 1)) = Wk u (t1 + 1) from Wk_Wk, q3, ob]
      simp only
      rw [bd, Wk_10, ni_s, Wk_Wk, show pu (Wk u t2) 149 10 (nI (t2 + 1)) = Wk u (t2 + 1) from Wk_Wk]
      by_cases hq : kd = 30
      · rw [if_pos hq, if_pos hq]
      · rw [if_neg hq, if_neg hq]
    rcases hkd with rfl | rfl
    · exact key
    · exact key
  · rw [mval_W hE.2.2.2.2.2] at q2 q4
    rw [run_app, run_app, q2 st, q4 (x :: st)]
    rcases hkd with rfl | rfl <;> rfl
/-! products and sums -/
def LoS (need : Nat) (Kd Mn : Nat → Int32) (M L t t' : Nat) (c : List Ste) : Prop := OKl M L t t' c ∧ ∀ (z sp sn d fu : Nat) (u : Va) (acc : Int32), 4000 < z → need ≤ d → t' - t < fu → EU Kd Mn sp sn t t t' u →
  ∃ x, rp (b_Model_sum_5 (g_Ev z sp sn d).2 sp) fu (acc, u) = some (x, Wk u t') ∧ ∀ st, run (mval u sn) c (acc :: st) = x :: st
def LoP (need : Nat) (Kd Mn : Nat → Int32) (M L t t' : Nat) (c : List Ste) : Prop := OKl M L t t' c ∧ ∀ (z sp sn d fu : Nat) (u : Va) (acc : Int32), 4000 < z → need ≤ d → t' - t < fu → EU Kd Mn sp sn t t t' u →
  ∃ x, rp (b_Model_product_5 (g_Ev z sp sn d).2 sp) fu (acc, u) = some (x, Wk u t') ∧ ∀ st, run (mval u sn) c (acc :: st) = x :: st
theorem in_two {x lo hi : Int32} (hlh : hi.toInt = lo.toInt + 1) : (¬ x < lo ∧ ¬ hi < x) ↔ (x = lo ∨ x = hi) := by
  rw [t_lt, t_lt]
  constructor
  · intro ⟨h1, h2⟩
    by_cases h : x.toInt = lo.toInt
    · exact Or.inl (t_inj h)
    · exact Or.inr (t_inj (by omega))
  · rintro (rfl | rfl)
    · omega
    · omega
theorem los_nil (ht : t ≤ 400) (hk : ¬ (Kd t = 46 ∨ Kd t = 47)) : LoS n Kd Mn M L t t [] := by
  refine ⟨OKl.nil ht, fun z sp sn d fu u acc hz hd hf hE => ⟨acc, ?_, fun st => rfl⟩⟩
  obtain ⟨fu, rfl⟩ : ∃ y, fu = y + 1 := ⟨fu - 1, by omega⟩
  show b_Model_sum_5 (g_Ev z sp sn d).2 sp (rp (b_Model_sum_5 (g_Ev z sp sn d).2 sp) fu) (acc, u) = _
  unfold b_Model_sum_5
  simp only
  rw [hE.1, if_neg (gd2 (by omega) (by omega)), ni_c (by omega), hE.2.2.1 t (by omega), isIn_e, ob, decide_eq_false (fun q => hk ((in_two rfl).mp q)), if_pos (by decide), Wk_id hE.1]
theorem lop_nil (ht : t ≤ 400) (hk : ¬ (Kd t = 48 ∨ Kd t = 49)) : LoP n Kd Mn M L t t [] := by
  refine ⟨OKl.nil ht, fun z sp sn d fu u acc hz hd hf hE => ⟨acc, ?_, fun st => rfl⟩⟩
  obtain ⟨fu, rfl⟩ : ∃ y, fu = y + 1 := ⟨fu - 1, by omega⟩
  show b_Model_product_5 (g_Ev z sp sn d).2 sp (rp (b_Model_product_5 (g_Ev z sp sn d).2 sp) fu) (acc, u) = _
  unfold b_Model_product_5
  simp only
  rw [hE.1, if_neg (gd2 (by omega) (by omega)), ni_c (by omega), hE.2.2.1 t (by omega), isIn_e, ob, decide_eq_false (fun q => hk ((in_two rfl).mp q)), if_pos (by decide), Wk_id hE.1]
theorem los_cons {ko : Int32} (hk : Kd t = kd) (hkd : (kd = 46 ∧ ko = 38) ∨ (kd = 47 ∧ ko = 39)) (h : EvI 4 n Kd Mn M L (t + 1) t1 c1) (h' : LoS n Kd Mn M L t1 t' c2) : LoS n Kd Mn M L t t' (c1 ++ [(ko, 0, 0)] ++ c2) := by
  obtain ⟨hO, hV⟩ := h
  obtain ⟨hO', hV'⟩ := h'
  have h7 := hO.1
  have h8 := hO'.1
  have h9 := hO'.2.1
  refine ⟨OKl.cons hO hO' (by omega) (by rcases hkd with ⟨rfl, rfl⟩ | ⟨rfl, rfl⟩ <;> exact ok_no (by decide)) (by rcases hkd with ⟨rfl, rfl⟩ | ⟨rfl, rfl⟩ <;> rfl), fun z sp sn d fu u acc hz hd hf hE => ?_⟩
  obtain ⟨fu, rfl⟩ : ∃ y, fu = y + 1 := ⟨fu - 1, by omega⟩
  obtain ⟨y, q1, q2⟩ := hV z sp sn d (Wk u (t + 1)) hz hd (hE.to (by omega) (by omega))
  obtain ⟨x, q3, q4⟩ := hV' z sp sn d fu (Wk u t1) (if kd = 46 then acc + y else acc - y) hz hd (by omega) (hE.to (by omega) (by omega))
  rw [mval_W hE.2.2.2.2.2] at q2 q4
  refine ⟨x, ?_, fun st => ?_⟩
  · show b_Model_sum_5 (g_Ev z sp sn d).2 sp (rp (b_Model_sum_5 (g_Ev z sp sn d).2 sp) fu) (acc, u) = _
    generalize rp (b_Model_sum_5 (g_Ev z sp sn d).2 sp) fu = K at q3 ⊢
    have g2 : ¬ (nI t < 0 ∨ 401 ≤ t) := by rw [gn (by omega) (by omega)]; exact id
    unfold b_Model_sum_5 j_Model_sum_70
    have h2 : kd = 46 ∨ kd = 47 := hkd.elim (fun q => Or.inl q.1) (fun q => Or.inr q.1)
    simp only
    rw [hE.1, if_neg (gd2 (by omega) (by omega)), ni_c (by omega), hE.2.2.1 t (by omega), hk, isIn_e, ob, decide_eq_true ((in_two rfl).mpr h2), if_neg (by decide), if_neg g2, bd, ni_s, q1, ob]
    simp only
    rw [Wk_Wk]
    rw [Wk_Wk] at q3
    by_cases hq : kd = 46
    · rw [if_pos hq] at q3 ⊢
      exact q3
    · rw [if_neg hq] at q3 ⊢
      exact q3
  · rw [run_app, run_app, q2 (acc :: st), ← q4 st]
    rcases hkd with ⟨rfl, rfl⟩ | ⟨rfl, rfl⟩ <;> rfl
theorem lop_cons {ko : Int32} (hk : Kd t = kd) (hkd : (kd = 48 ∧ ko = 40) ∨ (kd = 49 ∧ ko = 41)) (h : EvI 5 n Kd Mn M L (t + 1) t1 c1) (h' : LoP n Kd Mn M L t1 t' c2) : LoP n Kd Mn M L t t' (c1 ++ [(ko, 0, 0)] ++ c2) := by
  obtain ⟨hO, hV⟩ := h
  obtain ⟨hO', hV'⟩ := h'
  have h7 := hO.1
  have h8 := hO'.1
  have h9 := hO'.2.1
  refine ⟨OKl.cons hO hO' (by omega) (by rcases hkd with ⟨rfl, rfl⟩ | ⟨rfl, rfl⟩ <;> exact ok_no (by decide)) (by rcases hkd with ⟨rfl, rfl⟩ | ⟨rfl, rfl⟩ <;> rfl), fun z sp sn d fu u acc hz hd hf hE => ?_⟩
  obtain ⟨fu, rfl⟩ : ∃ y, fu = y + 1 := ⟨fu - 1, by omega⟩
  obtain ⟨y, q1, q2⟩ := hV z sp sn d (Wk u (t + 1)) hz hd (hE.to (by omega) (by omega))
  obtain ⟨x, q3, q4⟩ := hV' z sp sn d fu (Wk u t1) (if kd = 48 then acc * y else if y = 0 then 0 else acc / y) hz hd (by omega) (hE.to (by omega) (by omega))
  rw [mval_W hE.2.2.2.2.2] at q2 q4
  refine ⟨x, ?_, fun st => ?_⟩
  · show b_Model_product_5 (g_Ev z sp sn d).2 sp (rp (b_Model_product_5 (g_Ev z sp sn d).2 sp) fu) (acc, u) = _
    generalize rp (b_Model_product_5 (g_Ev z sp sn d).2 sp) fu = K at q3 ⊢
    have g2 : ¬ (nI t < 0 ∨ 401 ≤ t) := by rw [gn (by omega) (by omega)]; exact id
    unfold b_Model_product_5 j_Model_product_78
    have h2 : kd = 48 ∨ kd = 49 := hkd.elim (fun q => Or.inl q.1) (fun q => Or.inr q.1)
    simp only
    rw [hE.1, if_neg (gd2 (by omega) (by omega)), ni_c (by omega), hE.2.2.1 t (by omega), hk, isIn_e, ob, decide_eq_true ((in_two rfl).mpr h2), if_neg (by decide), if_neg g2, bd, ni_s, q1, ob]
    simp only
    rw [Wk_Wk]
    rw [Wk_Wk] at q3
    by_cases hq : kd = 48
    · rw [if_pos hq] at q3 ⊢
      exact q3
    · rw [if_neg hq] at q3 ⊢
      by_cases hy : y = 0
      · rw [if_pos hy] at q3 ⊢
        exact q3
      · rw [if_neg hy] at q3 ⊢
        exact q3
  · rw [run_app, run_app, q2 (acc :: st), ← q4 st]
    rcases hkd with ⟨rfl, rfl⟩ | ⟨rfl, rfl⟩ <;> rfl
theorem ev_product (h : EvI 5 n Kd Mn M L t t1 c1) (h' : LoP n Kd Mn M L t1 t' c2) : EvI 4 (n + 1) Kd Mn M L t t' (c1 ++ c2) := by
  obtain ⟨hO, hV⟩ := h
  obtain ⟨hO', hV'⟩ := h'
  have h7 := hO.1
  have h8 := hO'.1
  have h9 := hO'.2.1
  refine ⟨hO.loop hO', fun z sp sn d u hz hd hE => ?_⟩
  obtain ⟨d, rfl⟩ : ∃ y, d = y + 1 := ⟨d - 1, by omega⟩
  obtain ⟨y, q1, q2⟩ := hV z sp sn d u hz (by omega) (hE.cut (by omega) (by omega))
  obtain ⟨x, q3, q4⟩ := hV' z sp sn d z (Wk u t1) y hz (by omega) (by omega) (hE.to (by omega) (by omega))
  rw [mval_W hE.2.2.2.2.2] at q4
  rw [Wk_Wk] at q3
  refine ⟨x, ?_, fun st => by rw [run_app, q2 st, q4 st]⟩
  show f_Model_product z (g_Ev z sp sn d).1 (g_Ev z sp sn d).2 u sp sn = _
  unfold f_Model_product
  rw [q1, ob]
  exact q3
theorem ev_sum (h : EvI 4 n Kd Mn M L t t1 c1) (h' : LoS n Kd Mn M L t1 t' c2) : EvI 3 (n + 1) Kd Mn M L t t' (c1 ++ c2) := by
  obtain ⟨hO, hV⟩ := h
  obtain ⟨hO', hV'⟩ := h'
  have h7 := hO.1
  have h8 := hO'.1
  have h9 := hO'.2.1
  refine ⟨hO.loop hO', fun z sp sn d u hz hd hE => ?_⟩
  obtain ⟨d, rfl⟩ : ∃ y, d = y + 1 := ⟨d - 1, by omega⟩
  obtain ⟨y, q1, q2⟩ := hV z sp sn d u hz (by omega) (hE.cut (by omega) (by omega))
  obtain ⟨x, q3, q4⟩ := hV' z sp sn d z (Wk u t1) y hz (by omega) (by omega) (hE.to (by omega) (by omega))
  rw [mval_W hE.2.2.2.2.2] at q4
  rw [Wk_Wk] at q3
  refine ⟨x, ?_, fun st => by rw [run_app, q2 st, q4 st]⟩
  show f_Model_sum z (g_Ev z sp sn d).1 (g_Ev z sp sn d).2 u sp sn = _
  unfold f_Model_sum
  rw [q1, ob]
  exact q3
/-! tests -/
theorem q_b_and (x y : Bool) : q_b x &&& q_b y = q_b (x && y) := by cases x <;> cases y <;> decide
theorem q_b_or (x y : Bool) : q_b x ||| q_b y = q_b (x || y) := by cases x <;> cases y <;> decide
theorem q_b_not (x : Bool) : 1 - q_b x = q_b (!x) := by cases x <;> decide
def LoB (need : Nat) (Kd Mn : Nat → Int32) (M L t t' : Nat) (c : List Ste) : Prop := OKl M L t t' c ∧ ∀ (z sp sn d fu : Nat) (u : Va) (acc : Bool), 4000 < z → need ≤ d → t' - t < fu → EU Kd Mn sp sn t t t' u →
  ∃ x, rp (b_Model_both_5 (g_Ev z sp sn d).1 sp) fu (acc, u) = some (x, Wk u t') ∧ ∀ st, run (mval u sn) c (q_b acc :: st) = q_b x :: st
def LoT (need : Nat) (Kd Mn : Nat → Int32) (M L t t' : Nat) (c : List Ste) : Prop := OKl M L t t' c ∧ ∀ (z sp sn d fu : Nat) (u : Va) (acc : Bool), 4000 < z → need ≤ d → t' - t < fu → EU Kd Mn sp sn t t t' u →
  ∃ x, rp (b_Model_test_5 (g_Ev z sp sn d).1 sp) fu (acc, u) = some (x, Wk u t') ∧ ∀ st, run (mval u sn) c (q_b acc :: st) = q_b x :: st
theorem lob_nil (ht : t ≤ 400) (hk : ¬ Kd t = 28) : LoB n Kd Mn M L t t [] := by
  refine ⟨OKl.nil ht, fun z sp sn d fu u acc hz hd hf hE => ⟨acc, ?_, fun st => rfl⟩⟩
  obtain ⟨fu, rfl⟩ : ∃ y, fu = y + 1 := ⟨fu - 1, by omega⟩
  show b_Model_both_5 (g_Ev z sp sn d).1 sp (rp (b_Model_both_5 (g_Ev z sp sn d).1 sp) fu) (acc, u) = _
  unfold b_Model_both_5
  simp only
  rw [goes_n hE ht hk, ob, q_ff, Wk_id hE.1]
theorem lot_nil (ht : t ≤ 400) (hk : ¬ Kd t = 29) : LoT n Kd Mn M L t t [] := by
  refine ⟨OKl.nil ht, fun z sp sn d fu u acc hz hd hf hE => ⟨acc, ?_, fun st => rfl⟩⟩
  obtain ⟨fu, rfl⟩ : ∃ y, fu = y + 1 := ⟨fu - 1, by omega⟩
  show b_Model_test_5 (g_Ev z sp sn d).1 sp (rp (b_Model_test_5 (g_Ev z sp sn d).1 sp) fu) (acc, u) = _
  unfold b_Model_test_5
  simp only
  rw [goes_n hE ht hk, ob, q_ff, Wk_id hE.1]
theorem lob_cons (hk : Kd t = 28) (h : EvB 2 n Kd Mn M L (t + 1) t1 c1) (h' : LoB n Kd Mn M L t1 t' c2) : LoB n Kd Mn M L t t' (c1 ++ [(28, 0, 0)] ++ c2) := by
  obtain ⟨hO, hV⟩ := h
  obtain ⟨hO', hV'⟩ := h'
  have h7 := hO.1
  have h8 := hO'.1
  have h9 := hO'.2.1
  refine ⟨OKl.cons hO hO' (by omega) (ok_no (by decide)) rfl, fun z sp sn d fu u acc hz hd hf hE => ?_⟩
  obtain ⟨fu, rfl⟩ : ∃ y, fu = y + 1 := ⟨fu - 1, by omega⟩
  obtain ⟨y, q1, q2⟩ := hV z sp sn d (Wk u (t + 1)) hz hd (hE.to (by omega) (by omega))
  obtain ⟨x, q3, q4⟩ := hV' z sp sn d fu (Wk u t1) (acc && y) hz hd (by omega) (hE.to (by omega) (by omega))
  rw [mval_W hE.2.2.2.2.2] at q2 q4
  rw [Wk_Wk] at q1 q3
  refine ⟨x, ?_, fun st => ?_⟩
  · show b_Model_both_5 (g_Ev z sp sn d).1 sp (rp (b_Model_both_5 (g_Ev z sp sn d).1 sp) fu) (acc, u) = _
    generalize rp (b_Model_both_5 (g_Ev z sp sn d).1 sp) fu = K at q3 ⊢
    unfold b_Model_both_5
    simp only
    rw [goes_y hE (by omega) hk, ob, q_tt, q1, ob]
    exact q3
  · rw [run_app, run_app, q2 (q_b acc :: st), ← q4 st, ← q_b_and]
    rfl
theorem lot_cons (hk : Kd t = 29) (h : EvB 1 n Kd Mn M L (t + 1) t1 c1) (h' : LoT n Kd Mn M L t1 t' c2) : LoT n Kd Mn M L t t' (c1 ++ [(29, 0, 0)] ++ c2) := by
  obtain ⟨hO, hV⟩ := h
  obtain ⟨hO', hV'⟩ := h'
  have h7 := hO.1
  have h8 := hO'.1
  have h9 := hO'.2.1
  refine ⟨OKl.cons hO hO' (by omega) (ok_no (by decide)) rfl, fun z sp sn d fu u acc hz hd hf hE => ?_⟩
  obtain ⟨fu, rfl⟩ : ∃ y, fu = y + 1 := ⟨fu - 1, by omega⟩
  obtain ⟨y, q1, q2⟩ := hV z sp sn d (Wk u (t + 1)) hz hd (hE.to (by omega) (by omega))
  obtain ⟨x, q3, q4⟩ := hV' z sp sn d fu (Wk u t1) (acc || y) hz hd (by omega) (hE.to (by omega) (by omega))
  rw [mval_W hE.2.2.2.2.2] at q2 q4
  rw [Wk_Wk] at q1 q3
  refine ⟨x, ?_, fun st => ?_⟩
  · show b_Model_test_5 (g_Ev z sp sn d).1 sp (rp (b_Model_test_5 (g_Ev z sp sn d).1 sp) fu) (acc, u) = _
    generalize rp (b_Model_test_5 (g_Ev z sp sn d).1 sp) fu = K at q3 ⊢
    unfold b_Model_test_5
    simp only
    rw [goes_y hE (by omega) hk, ob, q_tt, q1, ob]
    exact q3
  · rw [run_app, run_app, q2 (q_b acc :: st), ← q4 st, ← q_b_or]
    rfl
theorem ev_both (h : EvB 2 n Kd Mn M L t t1 c1) (h' : LoB n Kd Mn M L t1 t' c2) : EvB 1 (n + 1) Kd Mn M L t t' (c1 ++ c2) := by
  obtain ⟨hO, hV⟩ := h
  obtain ⟨hO', hV'⟩ := h'
  have h7 := hO.1
  have h8 := hO'.1
  have h9 := hO'.2.1
  refine ⟨hO.loop hO', fun z sp sn d u hz hd hE => ?_⟩
  obtain ⟨d, rfl⟩ : ∃ y, d = y + 1 := ⟨d - 1, by omega⟩
  obtain ⟨y, q1, q2⟩ := hV z sp sn d u hz (by omega) (hE.cut (by omega) (by omega))
  obtain ⟨x, q3, q4⟩ := hV' z sp sn d z (Wk u t1) y hz (by omega) (by omega) (hE.to (by omega) (by omega))
  rw [mval_W hE.2.2.2.2.2] at q4
  rw [Wk_Wk] at q3
  refine ⟨x, ?_, fun st => by rw [run_app, q2 st, q4 st]⟩
  show f_Model_both z (g_Ev z sp sn d).1 (g_Ev z sp sn d).2 u sp sn = _
  unfold f_Model_both
  rw [q1, ob]
  exact q3
theorem ev_test (h : EvB 1 n Kd Mn M L t t1 c1) (h' : LoT n Kd Mn M L t1 t' c2) : EvB 0 (n + 1) Kd Mn M L t t' (c1 ++ c2) := by
  obtain ⟨hO, hV⟩ := h
  obtain ⟨hO', hV'⟩ := h'
  have h7 := hO.1
  have h8 := hO'.1
  have h9 := hO'.2.1
  refine ⟨hO.loop hO', fun z sp sn d u hz hd hE => ?_⟩
  obtain ⟨d, rfl⟩ : ∃ y, d = y + 1 := ⟨d - 1, by omega⟩
  obtain ⟨y, q1, q2⟩ := hV z sp sn d u hz (by omega) (hE.cut (by omega) (by omega))
  obtain ⟨x, q3, q4⟩ := hV' z sp sn d z (Wk u t1) y hz (by omega) (by omega) (hE.to (by omega) (by omega))
  rw [mval_W hE.2.2.2.2.2] at q4
  rw [Wk_Wk] at q3
  refine ⟨x, ?_, fun st => by rw [run_app, q2 st, q4 st]⟩
  show f_Model_test z (g_Ev z sp sn d).1 (g_Ev z sp sn d).2 u sp sn = _
  unfold f_Model_test
  rw [q1, ob]
  exact q3
theorem ev_not (hk : Kd t = 27) (h : EvB 2 n Kd Mn M L (t + 1) t' c) : EvB 2 (n + 1) Kd Mn M L t t' (c ++ [(27, 0, 0)]) := by
  obtain ⟨hO, hV⟩ := h
  have h7 := hO.1
  have h8 := hO.2.1
  refine ⟨hO.un (by omega) (ok_no (by decide)) rfl, fun z sp sn d u hz hd hE => ?_⟩
  obtain ⟨d, rfl⟩ : ∃ y, d = y + 1 := ⟨d - 1, by omega⟩
  obtain ⟨x, q1, q2⟩ := hV z sp sn d (Wk u (t + 1)) hz (by omega) (hE.to (by omega) (by omega))
  rw [mval_W hE.2.2.2.2.2] at q2
  rw [Wk_Wk] at q1
  refine ⟨!x, ?_, fun st => ?_⟩
  · show f_Model_single z (g_Ev z sp sn d).1 (g_Ev z sp sn d).2 u sp sn = _
    unfold f_Model_single
    rw [goes_y hE (by omega) hk, ob, q_tt, q1, ob]
    cases x
    · rfl
    · rfl
  · rw [run_app, q2 st, ← q_b_not]
    rfl
theorem ev_bracket (hk : Kd t = 42) (ht : t' + 1 ≤ 400) (h : EvB 0 n Kd Mn M L (t + 1) t' c) : EvB 2 (n + 1) Kd Mn M L t (t' + 1) c := by
  obtain ⟨hO, hV⟩ := h
  have h7 := hO.1
  refine ⟨hO.wide (by omega) (by omega) ht, fun z sp sn d u hz hd hE => ?_⟩
  obtain ⟨d, rfl⟩ : ∃ y, d = y + 1 := ⟨d - 1, by omega⟩
  obtain ⟨x, q1, q2⟩ := hV z sp sn d (Wk u (t + 1)) hz (by omega) (hE.to (by omega) (by omega))
  rw [mval_W hE.2.2.2.2.2] at q2
  rw [Wk_Wk] at q1
  refine ⟨x, ?_, q2⟩
  show f_Model_single z (g_Ev z sp sn d).1 (g_Ev z sp sn d).2 u sp sn = _
  unfold f_Model_single
  rw [goes_n hE (by omega) (by rw [hk]; decide), ob, q_ff, goes_y hE (by omega) hk, ob, q_tt, q1, ob]
  simp only
  rw [bd, Wk_10, ni_s, show pu (Wk u t') 149 10 (nI (t' + 1)) = Wk u (t' + 1) from Wk_Wk]
theorem ev_owns (ht : t + 3 ≤ 400) (hL : L ≤ 10) (hM : M ≤ 6) (hk : Kd t = 26) (ho : okS M L (26, Mn (t + 1), Mn (t + 2))) : EvB 2 1 Kd Mn M L t (t + 3) [(26, Mn (t + 1), Mn (t + 2))] := by
  obtain ⟨⟨m, hm, em⟩, i, hi, ei⟩ := ho.2.2.2 rfl
  simp only at em ei
  refine ⟨OKc.leaf (by omega) ht ho rfl, fun z sp sn d u hz hd hE => ⟨decide (u (sn + 2) i = nI m), ?_, fun st => ?_⟩⟩
  · obtain ⟨d, rfl⟩ : ∃ y, d = y + 1 := ⟨d - 1, by omega⟩
    show f_Model_single z (g_Ev z sp sn d).1 (g_Ev z sp sn d).2 u sp sn = _
    unfold f_Model_single
    rw [goes_n hE (by omega) (by rw [hk]; decide), ob, q_ff, goes_n hE (by omega) (by rw [hk]; decide), ob, q_ff, goes_y hE (by omega) hk, ob, q_tt]
    obtain ⟨h1, h2, h3, h4, h5, h6⟩ := hE
    have e2 : nI (t + 1 + 2) - 2 = nI (t + 1) := by
      rw [show nI (t + 1 + 2) = nI (t + 1) + 2 from (ni_add (t + 1) 2).symm]
      exact Int32.add_sub_cancel _ _
    simp only
    rw [bd, Wk_10, show nI (t + 1) + 2 = nI (t + 1 + 2) from ni_add (t + 1) 2, show pu (Wk u (t + 1)) 149 10 (nI (t + 1 + 2)) = Wk u (t + 1 + 2) from Wk_Wk, Wk_10, Wk_11, if_neg (fun q => q h2), e2, show t + 1 + 2 = t + 2 + 1 from rfl, ni_sub1, if_neg (gd2 (by omega) (by omega)), ni_c (by omega), ni_c (by omega), Wk_p (by omega), h4 (t + 1) (by omega) (by omega), h4 (t + 2) (by omega) (by omega), em, ei, if_neg (gd2 (by omega) (by omega)), if_neg (by rw [gn (by omega) (by omega)]; exact id), ni_c (by omega), Wk_p (by omega)]
    by_cases hq : u (sn + 2) i = nI m
    · rw [if_pos hq, decide_eq_true hq]
    · rw [if_neg hq, decide_eq_false hq]
  · show mval u sn 26 (Mn (t + 1)) (Mn (t + 2)) :: st = _
    rw [em, ei]
    unfold mval
    rw [if_neg (by decide), if_neg (by decide), if_neg (by decide), if_neg (by decide), if_neg (by decide), if_neg (by decide), if_neg (by decide), if_neg (by decide), if_pos rfl, ni_c (by omega)]
    by_cases hq : u (sn + 2) i = nI m
    · rw [if_pos hq, decide_eq_true hq]; rfl
    · rw [if_neg hq, decide_eq_false hq]; rfl
theorem ev_cmp {ko : Int32} (hk0 : ¬ Kd t = 27 ∧ ¬ Kd t = 42 ∧ ¬ Kd t = 26) (hk : Kd t1 = kd) (hkd : (kd = 50 ∧ ko = 42) ∨ (kd = 51 ∧ ko = 43) ∨ (kd = 52 ∧ ko = 44) ∨ (kd = 53 ∧ ko = 45) ∨ (kd = 54 ∧ ko = 46)) (h : EvI 3 n Kd Mn M L t t1 c1) (h' : EvI 3 n Kd Mn M L (t1 + 1) t' c2) : EvB 2 (n + 1) Kd Mn M L t t' (c1 ++ c2 ++ [(ko, 0, 0)]) := by
  obtain ⟨hO, hV⟩ := h
  obtain ⟨hO', hV'⟩ := h'
  have h7 := hO.1
  have h8 := hO'.1
  have h9 := hO'.2.1
  refine ⟨hO.bin hO' (by omega) (by rcases hkd with ⟨rfl, rfl⟩ | ⟨rfl, rfl⟩ | ⟨rfl, rfl⟩ | ⟨rfl, rfl⟩ | ⟨rfl, rfl⟩ <;> exact ok_no (by decide)) (by rcases hkd with ⟨rfl, rfl⟩ | ⟨rfl, rfl⟩ | ⟨rfl, rfl⟩ | ⟨rfl, rfl⟩ | ⟨rfl, rfl⟩ <;> rfl), fun z sp sn d u hz hd hE => ?_⟩
  obtain ⟨d, rfl⟩ : ∃ y, d = y + 1 := ⟨d - 1, by omega⟩
  obtain ⟨x, q1, q2⟩ := hV z sp sn d u hz (by omega) (hE.cut (by omega) (by omega))
  obtain ⟨y, q3, q4⟩ := hV' z sp sn d (Wk u (t1 + 1)) hz (by omega) (hE.to (by omega) (by omega))
  rw [mval_W hE.2.2.2.2.2] at q4
  rw [Wk_Wk] at q3
  have h35 := hE.2.2.2.2.1
  refine ⟨holdC ko x y, ?_, fun st => ?_⟩
  · show f_Model_single z (g_Ev z sp sn d).1 (g_Ev z sp sn d).2 u sp sn = _
    unfold f_Model_single
    rw [goes_n hE (by omega) hk0.1, ob, q_ff, goes_n hE (by omega) hk0.2.1, ob, q_ff, goes_n hE (by omega) hk0.2.2, ob, q_ff, q1, ob]
    simp only
    have hk1 : Wk u t1 (sp + 1) t1 = kd := by rw [Wk_p (by omega), hE.2.2.1 t1 (by omega), hk]
    have g2 : ¬ (nI t1 < 0 ∨ 401 ≤ t1) := by rw [gn (by omega) (by omega)]; exact id
    simp only [Wk_10, ni_c (show t1 ≤ 4000 by omega), hk1]
    rw [if_neg g2, bd, ni_s, show pu (Wk u t1) 149 10 (nI (t1 + 1)) = Wk u (t1 + 1) from Wk_Wk, q3, ob]
    simp only
    have tri : x = y ∨ (y < x ∧ ¬ x = y) ∨ (x < y ∧ ¬ x = y ∧ ¬ y ≤ x) := by
      rcases Int.lt_trichotomy x.toInt y.toInt with q | q | q
      · exact Or.inr (Or.inr ⟨t_lt.mpr q, fun e => by rw [e] at q; omega, fun e => by have := t_le.mp e; omega⟩)
      · exact Or.inl (t_inj q)
      · exact Or.inr (Or.inl ⟨t_lt.mpr q, fun e => by rw [e] at q; omega⟩)
    rcases tri with rfl | ⟨hlt, hne⟩ | ⟨hlt, hne, hle⟩
    · rw [if_pos rfl]
      have l1 : ¬ x < x := fun q => by have := t_lt.mp q; omega
      have l2 : x ≤ x := t_le.mpr (Int.le_refl _)
      rcases hkd with ⟨rfl, rfl⟩ | ⟨rfl, rfl⟩ | ⟨rfl, rfl⟩ | ⟨rfl, rfl⟩ | ⟨rfl, rfl⟩
      · show some (false, _) = some (decide (x < x), _); rw [decide_eq_false l1]
      · show some (false, _) = some (decide (x < x), _); rw [decide_eq_false l1]
      · show some (true, _) = some (decide (x = x), _); rw [decide_eq_true rfl]
      · show some (true, _) = some (decide (x ≤ x), _); rw [decide_eq_true l2]
      · show some (true, _) = some (decide (x ≤ x), _); rw [decide_eq_true l2]
    · have l1 : y ≤ x := t_le.mpr (by have := t_lt.mp hlt; omega)
      have l2 : ¬ x ≤ y := fun q => by have := t_lt.mp hlt; have := t_le.mp q; omega
      have l3 : ¬ x < y := fun q => by have := t_lt.mp hlt; have := t_lt.mp q; omega
      rw [if_neg hne, if_pos l1]
      rcases hkd with ⟨rfl, rfl⟩ | ⟨rfl, rfl⟩ | ⟨rfl, rfl⟩ | ⟨rfl, rfl⟩ | ⟨rfl, rfl⟩
      · show some (false, _) = some (decide (x < y), _); rw [decide_eq_false l3]
      · show some (true, _) = some (decide (y < x), _); rw [decide_eq_true hlt]
      · show some (false, _) = some (decide (x = y), _); rw [decide_eq_false hne]
      · show some (false, _) = some (decide (x ≤ y), _); rw [decide_eq_false l2]
      · show some (true, _) = some (decide (y ≤ x), _); rw [decide_eq_true l1]
    · have l1 : x ≤ y := t_le.mpr (by have := t_lt.mp hlt; omega)
      have l3 : ¬ y < x := fun q => by have := t_lt.mp hlt; have := t_lt.mp q; omega
      rw [if_neg hne, if_neg hle]
      rcases hkd with ⟨rfl, rfl⟩ | ⟨rfl, rfl⟩ | ⟨rfl, rfl⟩ | ⟨rfl, rfl⟩ | ⟨rfl, rfl⟩
      · show some (true, _) = some (decide (x < y), _); rw [decide_eq_true hlt]
      · show some (false, _) = some (decide (y < x), _); rw [decide_eq_false l3]
      · show some (false, _) = some (decide (x = y), _); rw [decide_eq_false hne]
      · show some (true, _) = some (decide (x ≤ y), _); rw [decide_eq_true l1]
      · show some (false, _) = some (decide (y ≤ x), _); rw [decide_eq_false hle]
  · rw [run_app, run_app, q2 st, q4 (x :: st)]
    rcases hkd with ⟨rfl, rfl⟩ | ⟨rfl, rfl⟩ | ⟨rfl, rfl⟩ | ⟨rfl, rfl⟩ | ⟨rfl, rfl⟩ <;> rfl
end
