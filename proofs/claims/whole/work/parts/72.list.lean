/-! THE LIST -/
section
variable {kn : Nat → Nat} {nt k1 sp z : Nat} {u0 v us : Va} {t : Nat}
theorem is_name {x : Int32} : f_Model_isName us sp k1 x = sq (f_Model_eat us sp k1 x) fun u => f_Model_eat u sp k1 35 := by
  unfold f_Model_isName
  simp only [sq_bind]
  rfl
theorem is_num {x : Int32} : f_Model_isNumber us sp k1 x = sq (f_Model_eat us sp k1 x) fun u => f_Model_eat u sp k1 36 := by
  unfold f_Model_isNumber
  simp only [sq_bind]
  rfl
/-- the syntax pass at a line, by its first token -/
def LM (z sp k1 : Nat) (us : Va) (x : Int32) : Option (Bool × Va) :=
  if x = 0 then sq (f_Model_isName us sp k1 0) fun u => f_Model_isNumber u sp k1 1
  else if x = 2 then sq (f_Model_isName us sp k1 2) fun u => sq (f_Model_isNumber u sp k1 3) fun u => f_Model_isNumber u sp k1 4
  else if x = 5 then sq (f_Model_isName us sp k1 5) fun u => sq (f_Model_isNumber u sp k1 6) fun u => f_Model_isNumber u sp k1 7
  else if x = 8 then sq (f_Model_isName us sp k1 8) fun u => sq (f_Model_isName u sp k1 9) fun u => sq (f_Model_isNumber u sp k1 10) fun u => f_Model_isName u sp k1 11
  else if x = 12 then sq (f_Model_isName us sp k1 12) fun u => sq (f_Model_isName u sp k1 13) fun u => f_Model_mayTest z u sp k1
  else if x = 14 then sq (f_Model_isName us sp k1 14) fun u => sq (f_Model_isName u sp k1 15) fun u => sq (f_Model_eat u sp k1 17) fun u => sq (g_Syn z sp k1 48 3 [] u) fun u => f_Model_mayTest z u sp k1
  else sq (f_Model_isName us sp k1 16) fun u => sq (f_Model_isName u sp k1 15) fun u => sq (f_Model_eat u sp k1 17) fun u => sq (g_Syn z sp k1 48 3 [] u) fun u => f_Model_mayTest z u sp k1
theorem lm_e (h4 : us 149 4 = nI t) (ht : t ≤ 400) : f_Model_isLine z us sp k1 = LM z sp k1 us (us (k1 + 1) t) := by
  unfold f_Model_isLine LM
  rw [h4, if_neg (gd2 (by omega) (by omega)), ni_c (by omega)]
  simp only [sq_bind]
  rfl
/-- the class at a line, by its first token -/
def LN (z : Nat) (v : Va) (x : Nat) : Option Va :=
  if x = 0 then f_Reader_spiceLine z v else if x = 2 then f_Reader_guildLine z v else if x = 5 then f_Reader_merchantLine z v else if x = 8 then f_Reader_lotLine z v
  else if x = 12 then f_Reader_orderLine z v 0 else if x = 14 then f_Reader_orderLine z v 1 else if x = 16 then f_Reader_orderLine z v 2 else f_Reader_fail v
theorem li_any (G : GH kn nt k1 z) (hK : KD kn nt k1 u0) (hA : ALL kn nt k1 sp z u0 v us t) : OutL id kn nt k1 sp z v us t (LN z v (kn t)) (f_Model_isLine z us sp k1) (fun u => SX kn nt k1 u0 v u t X0) (fun t' => t < t') (fun a u t' => SX kn nt k1 u0 a u t' X0) := by
  have g1 := G.1
  have l3 := hA.1.2.2.1
  have hkn := G.2.1 t l3
  have hm := hA.1.2.2.2.2.2.2.1 t l3
  rw [lm_e hA.1.2.2.2.1 (by omega), hm]
  have hne : ∀ b, b ≤ 50 → (¬ kn t = b) → ¬ nI (kmap (kn t)) = nI (kmap b) := fun b hb q => by rw [kq hkn hb]; exact q
  unfold LN LM
  by_cases h0 : kn t = 0
  · rw [if_pos h0, h0, if_pos (show nI (kmap 0) = 0 by decide)]
    simp only [is_name, is_num, sq_assoc]
    exact li_spice G hA
  rw [if_neg h0, if_neg (show ¬ nI (kmap (kn t)) = 0 from hne 0 (by omega) h0)]
  by_cases h2 : kn t = 2
  · rw [if_pos h2, h2, if_pos (show nI (kmap 2) = 2 by decide)]
    simp only [is_name, is_num, sq_assoc]
    exact li_guild G hA
  rw [if_neg h2, if_neg (show ¬ nI (kmap (kn t)) = 2 from hne 2 (by omega) h2)]
  by_cases h5 : kn t = 5
  · rw [if_pos h5, h5, if_pos (show nI (kmap 5) = 5 by decide)]
    simp only [is_name, is_num, sq_assoc]
    exact li_merchant G hA
  rw [if_neg h5, if_neg (show ¬ nI (kmap (kn t)) = 5 from hne 5 (by omega) h5)]
  by_cases h8 : kn t = 8
  · rw [if_pos h8, h8, if_pos (show nI (kmap 8) = 8 by decide)]
    simp only [is_name, is_num, sq_assoc]
    exact li_lot G hA
  rw [if_neg h8, if_neg (show ¬ nI (kmap (kn t)) = 8 from hne 8 (by omega) h8)]
  by_cases h12 : kn t = 12
  · rw [if_pos h12, h12, if_pos (show nI (kmap 12) = 12 by decide)]
    simp only [is_name, is_num, sq_assoc]
    exact li_weigh G hK hA h12
  rw [if_neg h12, if_neg (show ¬ nI (kmap (kn t)) = 12 from hne 12 (by omega) h12)]
  by_cases h14 : kn t = 14
  · rw [if_pos h14, h14, if_pos (show nI (kmap 14) = 14 by decide)]
    simp only [is_name, is_num, sq_assoc]
    exact li_12 (a1 := 1) G hK hA h14 (Or.inl ⟨rfl, rfl, rfl⟩)
  rw [if_neg h14, if_neg (show ¬ nI (kmap (kn t)) = 14 from hne 14 (by omega) h14)]
  simp only [is_name, is_num, sq_assoc]
  by_cases h16 : kn t = 16
  · rw [if_pos h16]
    exact li_12 (a1 := 2) G hK hA h16 (Or.inr ⟨rfl, rfl, rfl⟩)
  · rw [if_neg h16]
    refine OutL.bad (a := Fl v t) hA (fail_c hA.1.1 hA.1.2.1) rfl ?_
    rw [eat_n hA.1.2.2.2.1 (by omega) (by rw [hm]; exact hne 16 (by omega) h16), sq_f]
end
