/-! A LIST FROM ITS TAPE: cut, read, looked through, on both sides -/
/-- a sheet that is new -/
def FSH (k1 : Nat) (u : Va) : Prop := (u k1 4 = 0 ∧ u k1 7 = 0 ∧ u k1 11 = 0 ∧ u k1 15 = 0 ∧ u k1 20 = 0) ∧ (∀ i, u (k1 + 11) i = 0) ∧ ∀ i, u (k1 + 15) i = 0
/-- the tape's bytes -/
def BY (v : Va) (i : Nat) : Nat := (v 150 i).toNatClampNeg
/-- what was read, without an error -/
def GOT (z k1 : Nat) (w u : Va) : Prop := ∃ (kn : Nat → Nat) (nt : Nat) (u0 : Va), GH kn nt k1 z ∧ SX kn nt k1 u0 w u nt X0 ∧ ZR k1 u0 u
section
variable {v u : Va} {nb k1 z sp : Nat}
theorem read_both (hz : 4000 < z) (hk1 : 194 ≤ k1) (hnb : nb ≤ 2000) (hv : v 0 8 = nI nb) (hu : u 149 2 = nI nb) (hu2 : u 150 = v 150) (hB : ∀ i, i < nb → v 2 i = v 150 i ∧ ∃ b, b < 256 ∧ v 150 i = nI b) (hN : v 49 1 = 4 ∧ v 52 1 = 4 ∧ v 55 1 = 6 ∧ v 58 1 = 10) (hS : FSH k1 u) :
    ∃ (v1 : Va) (a : Int32 × Va) (u2 : Va) (pl : Int32), f_Tokens_scan z v (v 0 8) = some v1 ∧ f_Reader_read z v1 = some a ∧ f_Reader_faultPlace a.2 = some pl ∧ f_Model_read z u sp k1 = some (a.1, u2) ∧
      (∀ p, p = 0 ∨ p = 2 ∨ 61 ≤ p → a.2 p = v p) ∧ NM1 v a.2 ∧ (∀ p, p < k1 → p ≠ 149 → u2 p = u p) ∧ (∀ j, j ≠ 3 → j ≠ 4 → j ≠ 5 → u2 149 j = u 149 j) ∧
      (((¬ a.1 = 0) ∧ u2 149 3 = pl ∧ 0 < a.1) ∨ (a.1 = 0 ∧ pl = -1 ∧ u2 149 3 = u 149 3 ∧ ∃ w, GOT z k1 w u2 ∧ a.2 = E4 w)) := by
  have hBb : ∀ i, i < nb → BY v i < 256 ∧ v 150 i = nI (BY v i) := fun i hi => by
    obtain ⟨-, b, b1, b2⟩ := hB i hi
    have : BY v i = b := by unfold BY; rw [b2, ni_c (by omega)]
    rw [this]; exact ⟨b1, b2⟩
  have s0 : ∀ p, p ≠ 3 → (pu (pu v 3 1 (nI nb)) 3 2 0) p = v p := fun p hp => by unfold pu; rw [up_ne hp, up_ne hp]
  have s1 : (pu (pu v 3 1 (nI nb)) 3 2 0) 3 1 = nI nb := by unfold pu; rw [up_eq, upd_ne (by omega), up_eq, upd_eq]
  have s2 : (pu (pu v 3 1 (nI nb)) 3 2 0) 3 2 = nI 0 := by unfold pu; rw [up_eq, upd_eq]; rfl
  have tc : TBc (pu (pu v 3 1 (nI nb)) 3 2 0) (BY v) nb := ⟨hnb, s1, fun i hi => ⟨(hBb i hi).1, by rw [s0 2 (by omega), (hB i hi).1]; exact (hBb i hi).2⟩⟩
  have tm : TBm u (BY v) nb := ⟨hnb, hu, fun i hi => ⟨(hBb i hi).1, by rw [hu2]; exact (hBb i hi).2⟩⟩
  obtain ⟨v1, u1, c1, c2, nt, -, n1, n2, ⟨ne, n3, n4, n5⟩, n6, n7, n8⟩ := sc_two (sp := sp) hk1 hz 400 0 (by omega) z z 0 _ u (by omega) (by omega) tc tm s2 (Nat.zero_le _) (fun i hi => by omega)
  have hscan : f_Tokens_scan z v (v 0 8) = some v1 := by
    unfold f_Tokens_scan
    rw [hv, bd, bd, show (0 : Int32) = nI 0 from rfl]
    have hb := bk_c tc (Nat.zero_le nb) hz
    rw [show (0 : Int32) = nI 0 from rfl] at hb c1
    rw [hb, ob]
    exact c1
  have hcut : f_Model_cut z u sp k1 = some u1 := c2
  have hne : ne ≤ 50 ∧ 49 ≤ ne := by omega
  have hkn : ∀ i, i ≤ nt → KN v1 i ≤ 50 ∧ v1 5 i = nI (KN v1 i) ∧ u1 (k1 + 1) i = nI (kmap (KN v1 i)) ∧ (i < nt → KN v1 i ≤ 48) := fun i hi => by
    by_cases h : i < nt
    · obtain ⟨n, p, l, g1, g2, g3, -⟩ := n2 i h
      have := KN_e g1 (by omega)
      rw [this]
      exact ⟨by omega, g1, g3, fun _ => g2⟩
    · have e : i = nt := by omega
      subst e
      have := KN_e n4 (by omega)
      rw [this]
      exact ⟨by omega, n4, n5, fun q => absurd q h⟩
  have hend : KN v1 nt = ne := KN_e n4 (by omega)
  have G : GH (KN v1) nt k1 z := ⟨n1, fun i hi => (hkn i hi).1, fun i hi => (hkn i (by omega)).2.2.2 hi, by rw [hend]; omega, hk1, hz⟩
  -- the reference's beginning
  have f0 : ∀ p, p ≠ 149 → (pu (pu u1 149 4 0) 149 5 0) p = u1 p := fun p hp => by unfold pu; rw [up_ne hp, up_ne hp]
  have f1 : (pu (pu u1 149 4 0) 149 5 0) 149 4 = nI 0 := by unfold pu; rw [up_eq, upd_ne (by omega), up_eq, upd_eq]; rfl
  have f2 : (pu (pu u1 149 4 0) 149 5 0) 149 5 = nI 0 := by unfold pu; rw [up_eq, upd_eq]; rfl
  have f3 : ∀ j, j ≠ 4 → j ≠ 5 → (pu (pu u1 149 4 0) 149 5 0) 149 j = u1 149 j := fun j h4 h5 => by unfold pu; rw [up_eq, upd_ne h5, up_eq, upd_ne h4]
  have hT : TKN (RB v1) (pu (pu u1 149 4 0) 149 5 0) (KN v1) nt k1 z sp := fun w e1 e2 e3 => by
    have tm1 : TBm u1 (BY v) nb := tm.cong (by rw [n8 149 (by omega) (by omega) (by omega)]) (n8 150 (by omega) (by omega) (by omega))
    have h := tkn_v (v := v1) (sp := sp) hnb hz tm1 n1 n2 w (e1.trans (f0 150 (by omega))) (e2.trans (f0 _ (by omega))) (e3.trans (f0 _ (by omega)))
    rw [RB_ne (p := 11) (by omega)]
    exact h
  have hK : KD (KN v1) nt k1 (pu (pu u1 149 4 0) 149 5 0) := fun i hi => by rw [f0 _ (by omega)]; exact (hkn i hi).2.2.1
  obtain ⟨r1, r2, r3⟩ := RB_12 (v := v1)
  obtain ⟨q1, q2, q3, q4, q5, q6, q7, q8, q9, q10⟩ := RB_0 (v := v1)
  have hA : ALL (KN v1) nt k1 sp z (pu (pu u1 149 4 0) 149 5 0) (RB v1) (pu (pu u1 149 4 0) 149 5 0) 0 := by
    refine ⟨⟨r1, by rw [r2]; decide, Nat.zero_le _, f1, f2, fun i hi => ?_, hK, ⟨0, by omega, q3⟩, ⟨0, by omega, q4⟩, hT⟩, cb_rb ?_⟩
    · rw [RB_ne (p := 5) (by omega)]; exact (hkn i hi).2.1
    · rw [n7.1 49 (by omega) (by omega) (by omega) (by omega) (by omega), n7.1 52 (by omega) (by omega) (by omega) (by omega) (by omega), n7.1 55 (by omega) (by omega) (by omega) (by omega) (by omega), n7.1 58 (by omega) (by omega) (by omega) (by omega) (by omega), s0 49 (by omega), s0 52 (by omega), s0 55 (by omega), s0 58 (by omega)]
      exact hN
  have hk1u : u1 k1 = u k1 := n8 k1 (by omega) (by omega) (by omega)
  have hSX : SX (KN v1) nt k1 (pu (pu u1 149 4 0) 149 5 0) (RB v1) (pu (pu u1 149 4 0) 149 5 0) 0 X0 := sx_rb ⟨⟨rfl, rfl, rfl⟩, hK⟩ (by rw [f0 k1 (by omega), hk1u]; exact hS.1)
  have hZ : ZR k1 (pu (pu u1 149 4 0) 149 5 0) (pu (pu u1 149 4 0) 149 5 0) := by
    refine ⟨⟨rfl, rfl⟩, ⟨0, by omega, ?_, fun i _ => ?_⟩, 0, by omega, ?_, fun i _ => ?_⟩
    · rw [f0 k1 (by omega), hk1u]; exact hS.1.2.2.1
    · rw [f0 _ (by omega), n8 _ (by omega) (by omega) (by omega)]; exact hS.2.1 i
    · rw [f0 k1 (by omega), hk1u]; exact hS.1.2.2.2.1
    · rw [f0 _ (by omega), n8 _ (by omega) (by omega) (by omega)]; exact hS.2.2 i
  obtain ⟨a, b, us', a1, a2, a3, a4, a5, a6⟩ := read_all G hK hA hSX r2
  have hrd : f_Reader_read z v1 = some a := by
    unfold f_Reader_read
    rw [begin_c, ob]; exact a1
  have hcl : ∀ p, p = 0 ∨ p = 2 ∨ 61 ≤ p → a.2 p = v p := fun p hp => by
    rw [a3.1 p (by omega), RB_ne (by omega), n7.1 p (by omega) (by omega) (by omega) (by omega) (by omega), s0 p (by omega)]
  have hnm : NM1 v a.2 := by
    obtain ⟨x1, x2, x3, x4⟩ := a3.2
    have y : ∀ p, 49 ≤ p → v1 p = v p := fun p hp => by rw [n7.1 p (by omega) (by omega) (by omega) (by omega) (by omega), s0 p (by omega)]
    exact ⟨x1.trans (q7.trans (by rw [y 49 (by omega)])), x2.trans (q8.trans (by rw [y 52 (by omega)])), x3.trans (q9.trans (by rw [y 55 (by omega)])), x4.trans (q10.trans (by rw [y 58 (by omega)]))⟩
  have h7 : a.2 7 = v1 7 := by rw [a3.1 7 (by omega), RB_ne (by omega)]
  have hpl : ∀ t, t ≤ nt → v1 7 t = u1 (k1 + 2) t := fun t ht => by
    by_cases h : t < nt
    · obtain ⟨n, p, l, g1, g2, g3, g4, g5, -⟩ := n2 t h
      rw [g4, g5]
    · have e : t = nt := by omega
      subst e
      exact n6
  have hus : ∀ p, p ≠ 149 → us' p = u1 p := fun p hp => (a4.1 p hp).trans (f0 p hp)
  have hus9 : ∀ j, j ≠ 4 → j ≠ 5 → us' 149 j = u 149 j := fun j h4 h5 => by rw [a4.2 j h4 h5, f3 j h4 h5, n8 149 (by omega) (by omega) (by omega)]
  have hfp : ∀ t, t ≤ nt → (¬ a.1 = 0) → a.2 12 8 = nI t → f_Reader_faultPlace a.2 = some (u1 (k1 + 2) t) := fun t ht he h8 => by
    unfold f_Reader_faultPlace
    rw [← a5, if_neg he, bd, h8, rg (by omega) (by omega), h7, hpl t ht]
  have hfr : ∀ w : Va, (∀ p, p < k1 → w p = us' p) → (∀ p, p < k1 → p ≠ 149 → w p = u p) ∧ ∀ j, j ≠ 4 → j ≠ 5 → w 149 j = u 149 j := fun w hw => ⟨fun p h1 h2 => by rw [hw p h1, hus p h2, n8 p (by omega) (by omega) (by omega)], fun j h4 h5 => by rw [hw 149 (by omega), hus9 j h4 h5]⟩
  have p3 : ∀ (w : Va) (x : Int32), (∀ p, p ≠ 149 → (pu w 149 3 x) p = w p) ∧ (∀ j, j ≠ 3 → (pu w 149 3 x) 149 j = w 149 j) ∧ (pu w 149 3 x) 149 3 = x := fun w x => ⟨fun p hp => by unfold pu; rw [up_ne hp], fun j hj => by unfold pu; rw [up_eq, upd_ne hj], by unfold pu; rw [up_eq, upd_eq]⟩
  have hmr : f_Model_read z u sp k1 = if (q_b b) = 0 then (if (us' 149 4) < 0 ∨ 401 ≤ (us' 149 4).toNatClampNeg then none else bnd (pu us' 149 3 (us' (k1 + 2) (us' 149 4).toNatClampNeg)) fun v33 => some (1, v33)) else (rp (b_Model_read_40 z sp k1) z (0, us')) := by
    unfold f_Model_read
    rw [hcut, ob, bd, bd, a2, ob]
  rcases a6 with ⟨hb, e1, t, ht, h8, h4⟩ | ⟨hb, h4, e, k, u3, hf2, hrest⟩
  · subst hb
    rw [if_pos (show q_b false = 0 by decide), h4, if_neg (gd2 (by omega) (by omega)), ni_c (by omega), bd, hus _ (by omega)] at hmr
    obtain ⟨w1, w2⟩ := hfr us' (fun _ _ => rfl)
    obtain ⟨x1, x2, x3⟩ := p3 us' (u1 (k1 + 2) t)
    have he : ¬ a.1 = 0 := by rw [e1]; decide
    refine ⟨v1, a, _, _, hscan, hrd, hfp t ht he h8, by rw [e1]; exact hmr, hcl, hnm, fun p h1 h2 => (x1 p h2).trans (w1 p h1 h2), fun j j3 j4 j5 => (x2 j j3).trans (w2 j j4 j5), Or.inl ⟨he, x3, by rw [e1]; decide⟩⟩
  · subst hb
    have hrf := read_fold (sp := sp) (z := z) hk1 z nt 0 us' (by rw [h4, Nat.zero_add]) (by omega) (by omega)
    rw [hf2, ob] at hrf
    obtain ⟨y1, y2, y3, y4⟩ := fold2_ok nt 0 us' (by
      obtain ⟨g1, g2, g3⟩ := hZ
      exact ⟨⟨a4.1 _ (by omega), a4.1 _ (by omega)⟩, by rw [a4.1 k1 (by omega), a4.1 _ (by omega)]; exact g2, by rw [a4.1 k1 (by omega), a4.1 _ (by omega)]; exact g3⟩) e k u3 hf2
    rw [if_neg (show ¬ q_b true = 0 by decide)] at hmr
    have hmr' := hmr.trans hrf
    obtain ⟨w1, w2⟩ := hfr u3 y2
    rcases hrest with ⟨he, e1, h8⟩ | ⟨he, e1, w, hw1, hw2⟩
    · simp only at hmr'
      rw [if_neg he] at hmr'
      obtain ⟨x1, x2, x3⟩ := p3 u3 (u3 (k1 + 2) k)
      have hk := y3 he
      refine ⟨v1, a, _, _, hscan, hrd, hfp k (by omega) (by rw [e1]; exact he) h8, by rw [e1]; exact hmr', hcl, hnm, fun p h1 h2 => (x1 p h2).trans (w1 p h1 h2), fun j j3 j4 j5 => (x2 j j3).trans (w2 j j4 j5), Or.inl ⟨by rw [e1]; exact he, by rw [x3, y1.1.1, f0 _ (by omega)], ?_⟩⟩
      rw [e1]
      have z0 : (0 : Int32).toInt = 0 := rfl
      refine t_lt.mpr ?_
      have h1 := t_le.mp y4
      have h2 : e.toInt ≠ 0 := fun q => he (t_inj (q.trans z0.symm))
      omega
    · simp only at hmr'
      rw [if_pos he] at hmr'
      refine ⟨v1, a, u3, -1, hscan, hrd, ?_, by rw [e1]; exact hmr', hcl, hnm, w1, fun j j3 j4 j5 => w2 j j4 j5, Or.inr ⟨e1, rfl, w2 3 (by omega) (by omega), w, ⟨KN v1, nt, _, G, hw1, y1⟩, hw2⟩⟩
      unfold f_Reader_faultPlace
      rw [← a5, e1, if_pos rfl]
end
