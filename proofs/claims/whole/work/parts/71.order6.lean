/-! LINES: weigh, sell, pay -/
section
variable {kn : Nat → Nat} {nt k1 sp z : Nat} {u0 v us : Va} {t a1 : Nat} {oi : Int32}
theorem OutL.tko (G : GH kn nt k1 z) (hA : ALL kn nt k1 sp z u0 v us t) {n : Nat} (hn : plain n) : OutL id kn nt k1 sp z v us t (f_Reader_take v (nI n)) (f_Model_eat us sp k1 (nI (kmap n))) (fun u => OA kn nt k1 u0 v u t oi (Y2 k1 a1)) (fun t' => t' = t + 1 ∧ kn t = n) (fun a u t' => OA kn nt k1 u0 a u t' oi (Y2 k1 a1)) :=
  (OutL.take G hA hn (fun u h => h.ek)).map (fun _ h => h) (fun _ h => h) (fun a u t' h1 _ _ hQ => by
    obtain ⟨⟨N, O, s, h1', h2, h3, h4⟩, rfl⟩ := hQ
    have e : ∀ p, p ≠ 12 → (Nx v t') p = v p := fun p hp => by unfold Nx pu; rw [up_ne hp]
    exact ⟨N, O, s, h1'.nx e h1, h2, h3, h4.fr ⟨by rw [e 31 (by omega)], by rw [e 33 (by omega)]⟩ ⟨rfl, rfl, rfl⟩⟩)
theorem OutL.t17 (G : GH kn nt k1 z) (hA : ALL kn nt k1 sp z u0 v us t) {Y : Va → Va → (Nat → Nat) → Nat → Nat → Nat → Prop} : OutL id kn nt k1 sp z v us t (f_Reader_take v 17) (f_Model_eat us sp k1 17) (fun u => OA kn nt k1 u0 v u t oi Y) (fun t' => t' = t + 1 ∧ kn t = 17) (fun a u3 t' => OA kn nt k1 u0 a u3 t' oi (fun v1 u1 N O s _ => ∃ u, Y v u N O s t ∧ (∀ p, p ≠ 12 → v1 p = v p) ∧ u1 = pu u (k1 + 20) O (nI (t + 1)))) := by
  have hA' := hA
  obtain ⟨⟨l1, l2, l3, l4, l5, l6, l7, -⟩, hc⟩ := hA
  have g1 := G.1
  have hkn := G.2.1 t l3
  by_cases h : kn t = 17
  · have e : f_Reader_take v 17 = some (Nx v (t + 1)) := by
      have := take_y (kn := kn) l1 l2 (by omega) (l6 t l3)
      rw [h] at this; exact this
    rw [e]
    exact OutL.mark G hA' h (Or.inl ⟨rfl, rfl⟩)
  · exact OutL.bad (a := Fl v t) hA' (take_n l1 l2 (by omega) (l6 t l3) (by rw [show (17 : Int32) = nI 17 from rfl, eq_n (by omega) (by omega)]; exact h)) rfl (eat_n l4 (by omega) (by rw [l7 t l3, show (17 : Int32) = nI (kmap 17) from rfl, kq hkn (by omega)]; exact h))
theorem li_weigh (G : GH kn nt k1 z) (hK : KD kn nt k1 u0) (hA : ALL kn nt k1 sp z u0 v us t) (hk : kn t = 12) : OutL id kn nt k1 sp z v us t (f_Reader_orderLine z v 0) (sq (f_Model_eat us sp k1 12) fun u => sq (f_Model_eat u sp k1 35) fun u => sq (f_Model_eat u sp k1 13) fun u => sq (f_Model_eat u sp k1 35) fun u => f_Model_mayTest z u sp k1) (fun u => SX kn nt k1 u0 v u t X0) (fun t' => t < t') (fun a u t' => SX kn nt k1 u0 a u t' X0) := by
  have hk1 := G.2.2.2.2.1
  have hz := G.2.2.2.2.2
  have d4 : DeadL id id (fun w => Tl z (v 13 4) (W39 (v 13 4) w)) := DeadL.tail hz
  have d3 : DeadL id id (fun q88 => ((f_Reader_takeName z q88 52 4).bind fun q => some (wr2 q.2 (v 13 4) q.1)).bind fun q139 => Tl z (v 13 4) (W39 (v 13 4) q139)) := DeadL.seq (DeadL.wr2 (oi := v 13 4)) d4
  have d2 : DeadL id id (fun q73 => (f_Reader_take q73 13).bind fun q88 => ((f_Reader_takeName z q88 52 4).bind fun q => some (wr2 q.2 (v 13 4) q.1)).bind fun q139 => Tl z (v 13 4) (W39 (v 13 4) q139)) := DeadL.seq (pb := id) (DeadL.take (pa := id) (by decide)) d3
  have d1 : DeadL id id (fun q42 => ((f_Reader_takeName z q42 58 10).bind fun q => some (up q.2 33 (row_s 24 (q.2 33) (v 13 4) q.1))).bind fun q73 => (f_Reader_take q73 13).bind fun q88 => ((f_Reader_takeName z q88 52 4).bind fun q => some (wr2 q.2 (v 13 4) q.1)).bind fun q139 => Tl z (v 13 4) (W39 (v 13 4) q139)) := DeadL.seq (DeadL.wr33 (f := fun w y => row_s 24 (w 33) (v 13 4) y)) d2
  rw [oc_0 hA.1.1]
  refine (OutL.seq (D2 := fun _ => True) hk1 hA (OutL.kw (a1 := 0) G hA (by omega) hk) (fun a us1 t1 hA1 _ hD1 => ?_) d1).map (fun t' hD => by obtain ⟨_, t1, h1, _, h2⟩ := hD; omega) (fun _ h => h) (fun _ _ _ _ _ _ h => h)
  obtain rfl := hD1
  refine (OutL.seq (D2 := fun _ => True) hk1 hA1 (OutL.doer (a1 := 0) (oi := v 13 4) G hA1 hk (Or.inl ⟨rfl, rfl, rfl⟩)) (fun a2 us2 t2 hA2 _ hD2 => ?_) d2).map (fun _ _ => trivial) (fun _ h => h) (fun _ _ _ _ _ _ h => h)
  obtain ⟨rfl, hp2⟩ := hD2
  refine (OutL.seq (D2 := fun _ => True) hk1 hA2 (OutL.tko (a1 := 0) (oi := v 13 4) G hA2 (n := 13) ⟨by omega, by omega, by omega, by omega, by omega, by omega⟩) (fun a3 us3 t3 hA3 _ hD3 => ?_) d3).map (fun _ _ => trivial) (fun _ h => h) (fun _ _ _ _ _ _ h => h)
  obtain ⟨rfl, hp3⟩ := hD3
  refine (OutL.seq (D2 := fun _ => True) hk1 hA3 (OutL.other (a1 := 0) (oi := v 13 4) G hA3 hp3 (Or.inl ⟨rfl, rfl, rfl, rfl⟩)) (fun a4 us4 t4 hA4 _ hD4 => ?_) d4).map (fun _ _ => trivial) (fun _ h => h) (fun _ _ _ _ _ _ h => h)
  refine (OutL.tail2 (a1 := 0) G hK hA4 (by omega)).map (fun _ h => h) (fun u h => ?_) (fun _ _ _ _ _ _ h => h)
  obtain ⟨N, O, s, h1, h2, h3, h4, h5⟩ := h
  exact ⟨N, O, s, h1, h2, h3, h4, s, Nat.le_refl _, h5, Or.inl h4.1.1.2.1⟩
theorem li_12 {k N' : Nat} (G : GH kn nt k1 z) (hK : KD kn nt k1 u0) (hA : ALL kn nt k1 sp z u0 v us t) (hk : kn t = 12 + 2 * a1) (ha : a1 = 1 ∧ k = 58 ∧ N' = 10 ∨ a1 = 2 ∧ k = 55 ∧ N' = 6) : OutL id kn nt k1 sp z v us t (f_Reader_orderLine z v (nI a1)) (sq (f_Model_eat us sp k1 (nI (12 + 2 * a1))) fun u => sq (f_Model_eat u sp k1 35) fun u => sq (f_Model_eat u sp k1 15) fun u => sq (f_Model_eat u sp k1 35) fun u => sq (f_Model_eat u sp k1 17) fun u => sq (g_Syn z sp k1 48 3 [] u) fun u => f_Model_mayTest z u sp k1) (fun u => SX kn nt k1 u0 v u t X0) (fun t' => t < t') (fun a u t' => SX kn nt k1 u0 a u t' X0) := by
  have hk1 := G.2.2.2.2.1
  have hz := G.2.2.2.2.2
  have ha3 : a1 < 3 := by omega
  have d6 : DeadL id id (fun w => Tl z (v 13 4) (W39 (v 13 4) w)) := DeadL.tail hz
  have d5 : DeadL id id (fun q149 => (g_Reader z 48 5 [0] q149).bind fun q154 => Tl z (v 13 4) (W39 (v 13 4) q154)) := DeadL.seq (DeadL.sum hz) d6
  have d4 : DeadL id id (fun q139 => (f_Reader_take q139 17).bind fun q149 => (g_Reader z 48 5 [0] q149).bind fun q154 => Tl z (v 13 4) (W39 (v 13 4) q154)) := DeadL.seq (pb := id) (DeadL.take (pa := id) (by decide)) d5
  have d3 : DeadL id id (fun q88 => ((f_Reader_takeName z q88 55 6).bind fun q => some (wr2 q.2 (v 13 4) q.1)).bind fun q139 => (f_Reader_take q139 17).bind fun q149 => (g_Reader z 48 5 [0] q149).bind fun q154 => Tl z (v 13 4) (W39 (v 13 4) q154)) := DeadL.seq (DeadL.wr2 (oi := v 13 4)) d4
  have d2 : DeadL id id (fun q73 => (f_Reader_take q73 15).bind fun q88 => ((f_Reader_takeName z q88 55 6).bind fun q => some (wr2 q.2 (v 13 4) q.1)).bind fun q139 => (f_Reader_take q139 17).bind fun q149 => (g_Reader z 48 5 [0] q149).bind fun q154 => Tl z (v 13 4) (W39 (v 13 4) q154)) := DeadL.seq (pb := id) (DeadL.take (pa := id) (by decide)) d3
  have d1 : DeadL id id (fun q42 => ((f_Reader_takeName z q42 k N').bind fun q => some (up q.2 33 (row_s 24 (q.2 33) (v 13 4) q.1))).bind fun q73 => (f_Reader_take q73 15).bind fun q88 => ((f_Reader_takeName z q88 55 6).bind fun q => some (wr2 q.2 (v 13 4) q.1)).bind fun q139 => (f_Reader_take q139 17).bind fun q149 => (g_Reader z 48 5 [0] q149).bind fun q154 => Tl z (v 13 4) (W39 (v 13 4) q154)) := DeadL.seq (DeadL.wr33 (f := fun w y => row_s 24 (w 33) (v 13 4) y)) d2
  rw [oc_12 hA.1.1 k N' (by rcases ha with ⟨rfl, rfl, rfl⟩ | ⟨rfl, rfl, rfl⟩; exact Or.inl ⟨rfl, rfl, rfl⟩; exact Or.inr ⟨rfl, rfl, rfl⟩)]
  refine (OutL.seq (D2 := fun _ => True) hk1 hA (OutL.kw (a1 := a1) G hA ha3 hk) (fun a us1 t1 hA1 _ hD1 => ?_) d1).map (fun t' hD => by obtain ⟨_, t1, h1, _, h2⟩ := hD; omega) (fun _ h => h) (fun _ _ _ _ _ _ h => h)
  obtain rfl := hD1
  refine (OutL.seq (D2 := fun _ => True) hk1 hA1 (OutL.doer (a1 := a1) (oi := v 13 4) G hA1 hk (Or.inr ha)) (fun a2 us2 t2 hA2 _ hD2 => ?_) d2).map (fun _ _ => trivial) (fun _ h => h) (fun _ _ _ _ _ _ h => h)
  obtain ⟨rfl, hp2⟩ := hD2
  refine (OutL.seq (D2 := fun _ => True) hk1 hA2 (OutL.tko (a1 := a1) (oi := v 13 4) G hA2 (n := 15) ⟨by omega, by omega, by omega, by omega, by omega, by omega⟩) (fun a3 us3 t3 hA3 _ hD3 => ?_) d3).map (fun _ _ => trivial) (fun _ h => h) (fun _ _ _ _ _ _ h => h)
  obtain ⟨rfl, hp3⟩ := hD3
  refine (OutL.seq (D2 := fun _ => True) hk1 hA3 (OutL.other (a1 := a1) (oi := v 13 4) G hA3 hp3 (Or.inr ⟨by omega, rfl, rfl, rfl⟩)) (fun a4 us4 t4 hA4 _ hD4 => ?_) d4).map (fun _ _ => trivial) (fun _ h => h) (fun _ _ _ _ _ _ h => h)
  refine (OutL.seq (D2 := fun _ => True) hk1 hA4 (OutL.t17 (oi := v 13 4) (Y := Y3s k1 a1) G hA4) (fun a5 us5 t5 hA5 _ hD5 => ?_) d5).map (fun _ _ => trivial) (fun _ h => h) (fun _ _ _ _ _ _ h => h)
  obtain ⟨rfl, hp5⟩ := hD5
  refine (OutL.seq (D2 := fun _ => True) hk1 hA5 (OutL.sum (a1 := a1) (oi := v 13 4) (Y := fun v1 u1 N O s _ => ∃ u, Y3s k1 a1 a4 u N O s t4 ∧ (∀ p, p ≠ 12 → v1 p = a4 p) ∧ u1 = pu u (k1 + 20) O (nI (t4 + 1))) G hK hA5 hp5 (fun v1 u1 N O s hY => ?_)) (fun a6 us6 t6 hA6 _ hD6 => ?_) d6).map (fun _ _ => trivial) (fun _ h => h) (fun _ _ _ _ _ _ h => h)
  · obtain ⟨u, ⟨y1, y2⟩, hv, rfl⟩ := hY
    refine ⟨y1.fr ⟨by rw [hv 31 (by omega)], by rw [hv 33 (by omega)], by rw [hv 35 (by omega)]⟩ ⟨?_, ?_, ?_, ?_⟩, by rw [hv 37 (by omega)]; exact y2, by unfold pu; rw [up_eq, upd_eq]⟩
    · unfold pu; rw [up_ne (by omega)]
    · unfold pu; rw [up_ne (by omega)]
    · unfold pu; rw [up_ne (by omega)]
    · unfold pu; rw [up_ne (by omega)]
  · exact (OutL.tail2 (a1 := a1) G hK hA6 ha3).map (fun _ h => h) (fun _ h => h) (fun _ _ _ _ _ _ h => h)
end
