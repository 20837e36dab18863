/-! THE LIST, line by line -/
def E4 (w : Va) : Va := pu (pu (pu (pu w 13 0 (w 49 2)) 13 1 (w 52 2)) 13 2 (w 55 2)) 13 3 (w 58 2)
section
variable {kn : Nat → Nat} {nt k1 sp z : Nat} {u0 v us w : Va} {t : Nat}
theorem E4_ne {p : Nat} (h : p ≠ 13) : (E4 w) p = w p := by unfold E4 pu; rw [up_ne h, up_ne h, up_ne h, up_ne h]
theorem E4_ok : (E4 w) 12 = w 12 ∧ FRl w (E4 w) ∧ (CB w → CB (E4 w)) := by
  refine ⟨E4_ne (by omega), FRl.of fun p hp => E4_ne (by omega), fun hc => ?_⟩
  obtain ⟨c1, c2, c3, c4, c5, c6⟩ := hc
  unfold CB
  rw [E4_ne (p := 49) (by omega), E4_ne (p := 52) (by omega), E4_ne (p := 55) (by omega), E4_ne (p := 58) (by omega)]
  exact ⟨c1, c2, c3, c4, ⟨_, rfl⟩, c6⟩
theorem j184 {i : Int32} : j_Reader_read_184 (i, w) = some (w 12 7, E4 w) := by
  have e : (E4 w) 12 7 = w 12 7 := by rw [E4_ne (by omega)]
  rw [← e]
  unfold j_Reader_read_184 f_Names_told
  have e1 : ∀ y : Int32, (pu w 13 0 y) 52 = w 52 := fun y => by unfold pu; rw [up_ne (by omega)]
  have e2 : ∀ y y' : Int32, (pu (pu w 13 0 y) 13 1 y') 55 = w 55 := fun y y' => by unfold pu; rw [up_ne (by omega), up_ne (by omega)]
  have e3 : ∀ y y' y'' : Int32, (pu (pu (pu w 13 0 y) 13 1 y') 13 2 y'') 58 = w 58 := fun y y' y'' => by unfold pu; rw [up_ne (by omega), up_ne (by omega), up_ne (by omega)]
  simp only [ob, bnd, e1, e2, e3]
  rfl
theorem rd_dead {fu : Nat} {i : Int32} (h : w 12 7 = 1) : rp (b_Reader_read_6 z) (fu + 1) (i, w) = some (w 12 7, E4 w) := by
  show b_Reader_read_6 z (rp (b_Reader_read_6 z) fu) (i, w) = _
  unfold b_Reader_read_6
  simp only [j184, h, if_true]
  by_cases q : (400 : Int32) ≤ i
  · rw [if_pos q]
  · rw [if_neg q]
theorem rd_end {fu i : Nat} (hi : i < 400) (h7 : ¬ w 12 7 = 1) (hs : f_Reader_seen w = some 49) : rp (b_Reader_read_6 z) (fu + 1) (nI i, w) = some (w 12 7, E4 w) := by
  show b_Reader_read_6 z (rp (b_Reader_read_6 z) fu) (nI i, w) = _
  unfold b_Reader_read_6
  have e4 : ¬ (400 : Int32) ≤ nI i := by rw [show (400 : Int32) = nI 400 from rfl, le_n (by omega) (by omega)]; omega
  rw [if_neg e4, if_neg h7, hs, ob, if_pos rfl, j184]
theorem rd_line {fu i x : Nat} (hi : i < 400) (h7 : ¬ w 12 7 = 1) (hs : f_Reader_seen w = some (nI x)) (hx : x ≤ 50) (h49 : ¬ x = 49) : rp (b_Reader_read_6 z) (fu + 1) (nI i, w) = (LN z w x).bind fun q => (f_Reader_take q 36).bind fun q175 => rp (b_Reader_read_6 z) fu (nI (i + 1), q175) := by
  show b_Reader_read_6 z (rp (b_Reader_read_6 z) fu) (nI i, w) = _
  generalize rp (b_Reader_read_6 z) fu = K
  unfold b_Reader_read_6 j_Reader_read_172 LN
  have e4 : ¬ (400 : Int32) ≤ nI i := by rw [show (400 : Int32) = nI 400 from rfl, le_n (by omega) (by omega)]; omega
  have e : ∀ y : Nat, y ≤ 50 → (¬ x = y) → ¬ nI x = nI y := fun y hy q => by rw [eq_n (by omega) (by omega)]; exact q
  rw [if_neg e4, if_neg h7, hs, ob, if_neg (show ¬ nI x = 49 from e 49 (by omega) h49), ob, ni_s]
  by_cases h0 : x = 0
  · rw [if_pos h0, if_pos (show nI x = 0 by rw [h0]; rfl)]
  rw [if_neg h0, if_neg (show ¬ nI x = 0 from e 0 (by omega) h0)]
  by_cases h2 : x = 2
  · rw [if_pos h2, if_pos (show nI x = 2 by rw [h2]; rfl)]
  rw [if_neg h2, if_neg (show ¬ nI x = 2 from e 2 (by omega) h2)]
  by_cases h5 : x = 5
  · rw [if_pos h5, if_pos (show nI x = 5 by rw [h5]; rfl)]
  rw [if_neg h5, if_neg (show ¬ nI x = 5 from e 5 (by omega) h5)]
  by_cases h8 : x = 8
  · rw [if_pos h8, if_pos (show nI x = 8 by rw [h8]; rfl)]
  rw [if_neg h8, if_neg (show ¬ nI x = 8 from e 8 (by omega) h8)]
  by_cases h12 : x = 12
  · rw [if_pos h12, if_pos (show nI x = 12 by rw [h12]; rfl)]
  rw [if_neg h12, if_neg (show ¬ nI x = 12 from e 12 (by omega) h12)]
  by_cases h14 : x = 14
  · rw [if_pos h14, if_pos (show nI x = 14 by rw [h14]; rfl)]
  rw [if_neg h14, if_neg (show ¬ nI x = 14 from e 14 (by omega) h14)]
  by_cases h16 : x = 16
  · rw [if_pos h16, if_pos (show nI x = 16 by rw [h16]; rfl)]
  rw [if_neg h16, if_neg (show ¬ nI x = 16 from e 16 (by omega) h16)]
theorem li_list (G : GH kn nt k1 z) (hK : KD kn nt k1 u0) : ∀ (fu fv i t : Nat) (v us : Va), 2 * i + (nt - t) ≤ 400 → nt - t + 1 < fu → nt - t < fv → ALL kn nt k1 sp z u0 v us t →
    OutL Prod.snd kn nt k1 sp z v us t (rp (b_Reader_read_6 z) fu (nI i, v)) (rp (b_Model_isList_0 z sp k1) fv us) (fun u => SX kn nt k1 u0 v u t X0) (fun t' => t' = nt) (fun a u t' => ∃ w, SX kn nt k1 u0 w u t' X0 ∧ a = (w 12 7, E4 w))
  | 0, _, _, _, _, _, _, h, _, _ => by omega
  | fu + 1, 0, _, _, _, _, _, _, h, _ => by omega
  | fu + 1, fv + 1, i, t, v, us, hi, hfu, hfv, hA => by
    have hA' := hA
    obtain ⟨⟨l1, l2, l3, l4, l5, l6, l7, -⟩, hc⟩ := hA
    have g1 := G.1
    have hkn := G.2.1 t l3
    have hs := seen_c l1 l2 (by omega) (l6 t l3)
    have hk1 := G.2.2.2.2.1
    have hsy : rp (b_Model_isList_0 z sp k1) (fv + 1) us = if us (k1 + 1) t = 70 then some (true, us) else sq (f_Model_isLine z us sp k1) fun u => sq (f_Model_eat u sp k1 44) fun u => rp (b_Model_isList_0 z sp k1) fv u := by
      show b_Model_isList_0 z sp k1 (rp (b_Model_isList_0 z sp k1) fv) us = _
      unfold b_Model_isList_0
      rw [l4, if_neg (gd2 (by omega) (by omega)), ni_c (by omega)]
      rfl
    by_cases h49 : kn t = 49
    · have htn : t = nt := by
        rcases Nat.lt_or_ge t nt with h | h
        · have := G.2.2.1 t h; omega
        · omega
      rw [hsy, if_pos (by rw [l7 t l3, h49]; rfl)]
      have hcl : rp (b_Reader_read_6 z) (fu + 1) (nI i, v) = (some v).bind fun w => some (w 12 7, E4 w) := rd_end (by omega) l2 (by rw [hs, h49]; rfl)
      rw [hcl]
      refine (OutL.ret (pa := id) (a := v) (D := fun t' => t' = nt) (Q := fun a u t' => SX kn nt k1 u0 a u t' X0) hA' rfl htn (fun u h => h)).post (fun a => E4_ok (w := a)) (fun a u t' _ _ _ hQ => ⟨a, hQ, rfl⟩)
    · rw [hsy, if_neg (by rw [l7 t l3, show (70 : Int32) = nI (kmap 49) from rfl, kq hkn (by omega)]; exact h49), rd_line (by omega) l2 hs hkn h49]
      obtain ⟨fu, rfl⟩ : ∃ y, fu = y + 1 := ⟨fu - 1, by omega⟩
      have d2 : DeadL id Prod.snd (fun q175 => rp (b_Reader_read_6 z) (fu + 1) (nI (i + 1), q175)) := fun a ha => ⟨(a 12 7, E4 a), rd_dead ha, E4_ok.1, E4_ok.2.1⟩
      have d1 : DeadL id Prod.snd (fun q => (f_Reader_take q 36).bind fun q175 => rp (b_Reader_read_6 z) (fu + 1) (nI (i + 1), q175)) := DeadL.seq (pb := id) (DeadL.take (pa := id) (by decide)) d2
      refine (OutL.seq (D2 := fun t' => t' = nt) hk1 hA' (li_any G hK hA') (fun a us1 t1 hA1 _ hD1 => ?_) d1).map (fun t' hD => hD.1) (fun _ h => h) (fun _ _ _ _ _ _ h => h)
      refine (OutL.seq (D2 := fun t' => t' = nt) hk1 hA1 (OutL.tk (X := X0) G hA1 (n := 36) ⟨by omega, by omega, by omega, by omega, by omega, by omega⟩) (fun a2 us2 t2 hA2 _ hD2 => ?_) d2).map (fun t' hD => hD.1) (fun _ h => h) (fun _ _ _ _ _ _ h => h)
      obtain ⟨rfl, -⟩ := hD2
      have := hA2.1.2.2.1
      exact li_list G hK (fu + 1) fv (i + 1) (t1 + 1) a2 us2 (by omega) (by omega) (by omega) hA2
end
