/-! LINES: their single tokens -/
/-- the sheet's tokens are those that were cut -/
def EK (kn : Nat → Nat) (nt k1 : Nat) (u0 u : Va) : Prop := (u 150 = u0 150 ∧ u (k1 + 2) = u0 (k1 + 2) ∧ u (k1 + 3) = u0 (k1 + 3)) ∧ ∀ i, i ≤ nt → u (k1 + 1) i = nI (kmap (kn i))
/-- a new name of a sort, on both sides -/
def Nw (v : Va) (t k n : Nat) : Va := pu (up (Nx v (t + 1)) (k + 2) (upd (v (k + 2)) n (v 11 t))) k 2 (nI (n + 1))
def Mw (u : Va) (k1 ka cc n t : Nat) : Va := pu (pu u ka n (nI t)) k1 cc (nI (n + 1))
section
variable {kn : Nat → Nat} {nt k1 sp z : Nat} {u0 u v v1 us us1 : Va} {t t1 : Nat} {P P' : Va → Prop} {D D' D1 D2 : Nat → Prop}
theorem lt_of_kn (h : GH kn nt k1 z) (ht : t ≤ nt) (hk : kn t ≤ 48) : t + 1 ≤ nt := by
  rcases Nat.lt_or_ge t nt with q | q
  · exact q
  · have : t = nt := by omega
    subst this; have := h.2.2.2.1; omega
theorem cb_nx (h : CB v) : CB (Nx v t) := h.fr ⟨by unfold Nx pu; rw [up_ne (by omega)], by unfold Nx pu; rw [up_ne (by omega)], by unfold Nx pu; rw [up_ne (by omega)], by unfold Nx pu; rw [up_ne (by omega)], by unfold Nx pu; rw [up_ne (by omega)]⟩
theorem OutL.take (G : GH kn nt k1 z) (hA : ALL kn nt k1 sp z u0 v us t) {n : Nat} (hn : plain n) (hE : ∀ u, P u → EK kn nt k1 u0 u) : OutL id kn nt k1 sp z v us t (f_Reader_take v (nI n)) (f_Model_eat us sp k1 (nI (kmap n))) P (fun t' => t' = t + 1 ∧ kn t = n) (fun a u t' => P u ∧ a = Nx v t') := by
  have hA' := hA
  obtain ⟨⟨l1, l2, l3, l4, l5, l6, l7, l8, l9, l10⟩, hc⟩ := hA
  have g1 := G.1
  have hkn := G.2.1 t l3
  have hn46 := hn.1
  by_cases h : kn t = n
  · have ht := lt_of_kn G l3 (by omega)
    rw [← h, take_y l1 l2 (by omega) (l6 t l3), eat_y l4 (by omega) (l7 t l3)]
    refine OutL.one hA' ht rfl rfl (FRl.re FRe.nx) Nx_6 (cb_nx hc) ⟨rfl, rfl⟩ (Or.inl ⟨Nx_7, Nx_8, fun h0 u hP => ⟨u, ?_, hP, rfl⟩⟩)
    rw [h] at hkn
    exact err_no (n := kn t) (by omega) ((hE u hP).2 t l3) (by omega) ⟨by rw [h]; exact hn.2.1, by rw [h]; exact hn.2.2.1, by rw [h]; exact hn.2.2.2.1, by rw [h]; exact hn.2.2.2.2.1, by rw [h]; exact hn.2.2.2.2.2, by omega, by omega⟩
  · exact OutL.bad (a := Fl v t) hA' (take_n l1 l2 (by omega) (l6 t l3) (by rw [eq_n (by omega) (by omega)]; exact h)) rfl (eat_n l4 (by omega) (by rw [l7 t l3, kq hkn (by omega)]; exact h))
/-- the error pass at a new name -/
theorem name_new {ka cc N n : Nat} {x r : Int32} (ht : t + 1 ≤ 400) (hp : u (k1 + 1) t = x) (h : x = 0 ∧ ka = k1 + 5 ∧ N = 4 ∧ cc = 4 ∨ x = 2 ∧ ka = k1 + 7 ∧ N = 4 ∧ cc = 7 ∨ x = 5 ∧ ka = k1 + 10 ∧ N = 6 ∧ cc = 11 ∨ x = 8 ∧ ka = k1 + 13 ∧ N = 10 ∧ cc = 15) (hn : u k1 cc = nI n) (hnN : n ≤ N) (hf : f_Model_find z u sp k1 ka N (nI n) (nI (t + 1)) = some r) (hk1 : 194 ≤ k1) :
    f_Model_errorOfName z u sp k1 (nI (t + 1)) = if r = -1 then (if n = N then some (4, u) else some (0, Mw u k1 ka cc n (t + 1))) else some (2, u) := by
  have e1 : f_Model_errorOfName z u sp k1 (nI (t + 1)) = (f_Model_errorOfNew z u sp k1 (nI (t + 1)) x).bind fun q33 => some (q33.1, q33.2) := by
    unfold f_Model_errorOfName j_Model_errorOfName_29
    rw [ni_sub1, if_neg (gd2 (by omega) (by omega)), ni_c (by omega), hp]
    rcases h with ⟨rfl, -⟩ | ⟨rfl, -⟩ | ⟨rfl, -⟩ | ⟨rfl, -⟩
    · rw [if_pos rfl]
    · rw [if_neg (by decide), if_pos rfl]
    · rw [if_neg (by decide), if_neg (by decide), if_pos rfl]
    · rw [if_neg (by decide), if_neg (by decide), if_neg (by decide), if_pos rfl]
  have hw : ∀ w : Va, w = pu u ka n (nI (t + 1)) → k1 ≠ ka → w k1 cc = nI n := fun w hw hne => by rw [hw]; unfold pu; rw [up_ne hne]; exact hn
  have e2 : f_Model_errorOfNew z u sp k1 (nI (t + 1)) x = if r = -1 then (if n = N then some (4, u) else some (0, Mw u k1 ka cc n (t + 1))) else some (2, u) := by
    unfold f_Model_errorOfNew f_Model_manyOf f_Model_namesOf
    have hN10 : N ≤ 10 := by rcases h with ⟨-, -, q, -⟩ | ⟨-, -, q, -⟩ | ⟨-, -, q, -⟩ | ⟨-, -, q, -⟩ <;> omega
    have hcc : u k1 cc + 1 = nI (n + 1) := by rw [hn, ni_s]
    have fin : ∀ (X : Option (Int32 × Va)), (r = -1 → n ≠ N → X = some (0, Mw u k1 ka cc n (t + 1))) → (if r = -1 then (if nI n = nI N then some (4, u) else if nI n < 0 ∨ N ≤ (nI n).toNatClampNeg then none else X) else some (2, u)) = if r = -1 then (if n = N then some (4, u) else some (0, Mw u k1 ka cc n (t + 1))) else some (2, u) := fun X hX => by
      by_cases q1 : r = -1
      · rw [if_pos q1, if_pos q1]
        by_cases q2 : n = N
        · rw [if_pos (by rw [q2]), if_pos q2]
        · rw [if_neg (show ¬ nI n = nI N by rw [eq_n (by omega) (by omega)]; exact q2), if_neg q2, if_neg (gd2 (by omega) (by omega)), hX q1 q2]
      · rw [if_neg q1, if_neg q1]
    rcases h with ⟨rfl, rfl, rfl, rfl⟩ | ⟨rfl, rfl, rfl, rfl⟩ | ⟨rfl, rfl, rfl, rfl⟩ | ⟨rfl, rfl, rfl, rfl⟩
    · rw [if_pos rfl, ob, if_pos rfl, ob, hn]
      simp only
      rw [hf, ob]
      refine fin _ fun q1 q2 => ?_
      rw [bd, if_pos trivial, ni_c (by omega), bd, hw _ rfl (by omega), ni_s]
      rfl
    · rw [if_neg (by decide), if_pos rfl, ob, if_neg (by decide), if_pos rfl, ob, hn]
      simp only
      rw [hf, ob]
      refine fin _ fun q1 q2 => ?_
      rw [bd, if_pos trivial, ni_c (by omega), bd, hw _ rfl (by omega), ni_s]
      rfl
    · rw [if_neg (by decide), if_neg (by decide), if_pos rfl, ob, if_neg (by decide), if_neg (by decide), if_pos rfl, ob, hn]
      simp only
      rw [hf, ob]
      refine fin _ fun q1 q2 => ?_
      rw [bd, if_pos trivial, ni_c (by omega), bd, hw _ rfl (by omega), ni_s]
      rfl
    · rw [if_neg (by decide), if_neg (by decide), if_neg (by decide), ob, if_neg (by decide), if_neg (by decide), if_neg (by decide), ob, hn]
      simp only
      rw [hf, ob]
      refine fin _ fun q1 q2 => ?_
      rw [bd, if_neg (by decide), if_neg (by decide), if_neg (by decide), ni_c (by omega), bd, hw _ rfl (by omega), ni_s]
      rfl
  rw [e1, e2]
  by_cases q1 : r = -1
  · rw [if_pos q1]
    by_cases q2 : n = N
    · rw [if_pos q2, ob]
    · rw [if_neg q2, ob]
  · rw [if_neg q1, ob]
theorem find_nx {k N : Nat} {x : Int32} (hk12 : k ≠ 12) (hkk : k + 2 ≠ 12) : f_Names_find z (Nx v t) k N x = f_Names_find z v k N x := by
  unfold f_Names_find
  have : b_Names_find_2 (Nx v t) k N x = b_Names_find_2 v k N x := by
    funext K s
    unfold b_Names_find_2
    have a1 : (Nx v t) k = v k := by unfold Nx pu; rw [up_ne hk12]
    have a2 : (Nx v t) (k + 2) = v (k + 2) := by unfold Nx pu; rw [up_ne hkk]
    rw [a1, a2]
  rw [this]
/-- blamed, unless there was a fault ahead -/
def BB (v : Va) (e : Int32) (t : Nat) : Va := if v 12 7 = 0 then Bl (Nx v (t + 1)) e t else Nx v (t + 1)
theorem blame_c {e : Int32} (h6 : v 12 6 = nI t) : f_Reader_blame (Nx v (t + 1)) e (v 12 6) = some (BB v e t) := by
  unfold f_Reader_blame BB
  rw [Nx_7]
  by_cases h : v 12 7 = 0
  · rw [if_pos h, if_pos h, bd, bd, h6]; rfl
  · rw [if_neg h, if_neg h]
theorem BB_ne {e : Int32} {p : Nat} (h : p ≠ 12) : (BB v e t) p = v p := by
  unfold BB
  split
  · unfold Bl Nx pu; rw [up_ne h, up_ne h, up_ne h]
  · unfold Nx pu; rw [up_ne h]
theorem BB_6 {e : Int32} : (BB v e t) 12 6 = nI (t + 1) := by
  unfold BB
  split
  · rw [Bl_6]; exact Nx_6
  · exact Nx_6
theorem BB_y {e : Int32} (h : v 12 7 = 0) : (BB v e t) 12 7 = e ∧ (BB v e t) 12 8 = nI t := by
  unfold BB
  rw [if_pos h]
  exact ⟨Bl_7, Bl_8⟩
theorem BB_n {e : Int32} (h : ¬ v 12 7 = 0) : (BB v e t) 12 7 = v 12 7 ∧ (BB v e t) 12 8 = v 12 8 := by
  unfold BB
  rw [if_neg h]
  exact ⟨Nx_7, Nx_8⟩
theorem cb_bb {e : Int32} (h : CB v) : CB (BB v e t) := h.fr ⟨BB_ne (by omega), BB_ne (by omega), BB_ne (by omega), BB_ne (by omega), BB_ne (by omega)⟩
theorem FRl.bb {e : Int32} : FRl v (BB v e t) := FRl.of fun p h => BB_ne (by omega)
theorem cb_nw {k N m : Nat} (h : CB v) (hk : k = 49 ∧ N = 4 ∨ k = 52 ∧ N = 4 ∨ k = 55 ∧ N = 6 ∨ k = 58 ∧ N = 10) (hm : m < N) : CB (Nw v t k m) := by
  obtain ⟨c1, c2, c3, c4, c5, c6, c7, c8, c9⟩ := h
  rcases hk with ⟨rfl, rfl⟩ | ⟨rfl, rfl⟩ | ⟨rfl, rfl⟩ | ⟨rfl, rfl⟩
  · unfold CB Nw Nx pu
    simp (disch := omega) only [up_ne, up_eq, upd_ne, upd_eq]
    exact ⟨⟨m + 1, by omega, rfl⟩, c2, c3, c4, c5, c6, c7, c8, c9⟩
  · unfold CB Nw Nx pu
    simp (disch := omega) only [up_ne, up_eq, upd_ne, upd_eq]
    exact ⟨c1, ⟨m + 1, by omega, rfl⟩, c3, c4, c5, c6, c7, c8, c9⟩
  · unfold CB Nw Nx pu
    simp (disch := omega) only [up_ne, up_eq, upd_ne, upd_eq]
    exact ⟨c1, c2, ⟨m + 1, by omega, rfl⟩, c4, c5, c6, c7, c8, c9⟩
  · unfold CB Nw Nx pu
    simp (disch := omega) only [up_ne, up_eq, upd_ne, upd_eq]
    exact ⟨c1, c2, c3, ⟨m + 1, by omega, rfl⟩, c5, c6, c7, c8, c9⟩
theorem FRl.nwm {k N m : Nat} (hk : k = 49 ∧ N = 4 ∨ k = 52 ∧ N = 4 ∨ k = 55 ∧ N = 6 ∨ k = 58 ∧ N = 10) : FRl v (Nw v t k m) := by
  refine ⟨fun p hp => ?_, ?_⟩
  · unfold Nw Nx pu; rw [up_ne (by omega), up_ne (by omega), up_ne (by omega)]
  · rcases hk with ⟨rfl, rfl⟩ | ⟨rfl, rfl⟩ | ⟨rfl, rfl⟩ | ⟨rfl, rfl⟩ <;>
    · unfold NM1 Nw Nx pu
      simp (disch := omega) only [up_ne, up_eq, upd_ne, upd_eq]
      exact ⟨trivial, trivial, trivial, trivial⟩
theorem OutL.new {x k ka cc N : Nat} (G : GH kn nt k1 z) (hA : ALL kn nt k1 sp z u0 v us (t + 1)) (hp : kn t = x) (hx : x = 0 ∧ k = 49 ∧ ka = k1 + 5 ∧ N = 4 ∧ cc = 4 ∨ x = 2 ∧ k = 52 ∧ ka = k1 + 7 ∧ N = 4 ∧ cc = 7 ∨ x = 5 ∧ k = 55 ∧ ka = k1 + 10 ∧ N = 6 ∧ cc = 11 ∨ x = 8 ∧ k = 58 ∧ ka = k1 + 13 ∧ N = 10 ∧ cc = 15)
    (hP : ∀ u, P u → EK kn nt k1 u0 u ∧ ∃ n, NR v u0 kn nt k ka cc n N u k1) :
    OutL Prod.snd kn nt k1 sp z v us (t + 1) (f_Reader_takeNewName z v k N) (f_Model_eat us sp k1 35) P (fun t' => t' = t + 2 ∧ kn (t + 1) = 47) (fun a u3 t' => ∃ u n, P u ∧ v k 2 = nI n ∧ n < N ∧ a = (nI n, Nw v (t + 1) k n) ∧ u3 = Mw u k1 ka cc n (t + 1)) := by
  have hA' := hA
  obtain ⟨⟨l1, l2, l3, l4, l5, l6, l7, l8, l9, l10⟩, hc⟩ := hA
  have hc' := hc
  obtain ⟨c1, c2, c3, c4, c5, c6, c7, c8, c9⟩ := hc
  have g1 := G.1
  have g6 := G.2.2.2.2.2
  have hkn := G.2.1 (t + 1) l3
  have hN : N ≤ 10 := by rcases hx with ⟨-, -, -, q, -⟩ | ⟨-, -, -, q, -⟩ | ⟨-, -, -, q, -⟩ | ⟨-, -, -, q, -⟩ <;> omega
  have hk : k = 49 ∧ N = 4 ∨ k = 52 ∧ N = 4 ∨ k = 55 ∧ N = 6 ∨ k = 58 ∧ N = 10 := by rcases hx with ⟨-, q1, -, q, -⟩ | ⟨-, q1, -, q, -⟩ | ⟨-, q1, -, q, -⟩ | ⟨-, q1, -, q, -⟩ <;> omega
  obtain ⟨m, hm, hm2, hm1⟩ : ∃ m, m ≤ N ∧ v k 2 = nI m ∧ v k 1 = nI N := by
    rcases hk with ⟨rfl, rfl⟩ | ⟨rfl, rfl⟩ | ⟨rfl, rfl⟩ | ⟨rfl, rfl⟩
    · obtain ⟨m, h1, h2⟩ := c1; exact ⟨m, h1, h2, c6⟩
    · obtain ⟨m, h1, h2⟩ := c2; exact ⟨m, h1, h2, c7⟩
    · obtain ⟨m, h1, h2⟩ := c3; exact ⟨m, h1, h2, c8⟩
    · obtain ⟨m, h1, h2⟩ := c4; exact ⟨m, h1, h2, c9⟩
  by_cases h47 : kn (t + 1) = 47
  · have ht := lt_of_kn G l3 (by omega)
    have h35 : us (k1 + 1) (t + 1) = 35 := by rw [l7 _ l3, h47]; rfl
    have hs : f_Reader_seen v = some 47 := by
      have := seen_c (kn := kn) l1 l2 (by omega) (l6 (t + 1) l3)
      rw [h47] at this; exact this
    obtain ⟨r, hf, hr⟩ := find_any (z := z) (x := v 11 (t + 1)) hN g6 hm2 hm
    have e11 : (Nx v (t + 2)) 11 = v 11 := by unfold Nx pu; rw [up_ne (by omega)]
    have ek : ∀ p, p ≠ 12 → (Nx v (t + 2)) p = v p := fun p hp => by unfold Nx pu; rw [up_ne hp]
    have hb : f_Reader_takeNewName z v k N = if r < 0 then (if nI m < nI N then some (nI m, Nw v (t + 1) k m) else some (-1, BB v 4 (t + 1))) else some (-1, BB v 2 (t + 1)) := by
      unfold f_Reader_takeNewName
      rw [hs, ob, if_pos rfl, bd, next_c l1, bd, l1, e11, rg (by omega) (by omega), find_nx (by omega) (by omega), hf, ob]
      by_cases q1 : r < 0
      · rw [if_pos q1, if_pos q1]
        unfold f_Names_isFull
        rw [ek k (by omega), hm2, hm1]
        by_cases q2 : nI m < nI N
        · rw [if_pos q2, if_pos q2, ob, if_pos (show q_b false = 0 by decide)]
          unfold f_Names_add
          rw [ek k (by omega), ek (k + 2) (by omega), hm2, bd, bd, rs (by rw [lt_n (by omega) (by omega)] at q2; exact q2) (by omega)]
          have e3 : (up (Nx v (t + 2)) (k + 2) (upd (v (k + 2)) m (v 11 (t + 1)))) k 2 = nI m := by rw [up_ne (by omega), ek k (by omega)]; exact hm2
          rw [e3, ni_s, ob]
          have e4 : (pu (up (Nx v (t + 2)) (k + 2) (upd (v (k + 2)) m (v 11 (t + 1)))) k 2 (nI (m + 1))) k 2 = nI (m + 1) := by unfold pu; rw [up_eq, upd_eq]
          rw [e4, ni_sub1]
          rfl
        · rw [if_neg q2, if_neg q2, ob, if_neg (show ¬ q_b true = 0 by decide), ← l1, blame_c l1, ob]
      · rw [if_neg q1, if_neg q1, ← l1, blame_c l1, ob]
    have herr : ∀ u, P u → f_Model_errorOf z u sp k1 (nI (t + 1)) = if r = -1 then (if m = N then some (4, u) else some (0, Mw u k1 ka cc m (t + 1))) else some (2, u) := fun u hu => by
      obtain ⟨hE, n, hR⟩ := hP u hu
      obtain ⟨r', f1, f2, f3⟩ := find_two hN g6 l10 hE.1 hR ht h47
      rw [hf] at f1
      obtain rfl := Option.some.inj f1
      have hnm : n = m := by
        have := hR.1
        rw [hm2, eq_n (by omega) (by have := hR.2.1; omega)] at this
        exact this.symm
      subst hnm
      rw [err_name (by omega) (by rw [hE.2 _ l3, h47]; rfl)]
      refine name_new (x := nI (kmap x)) (by omega) (by rw [hE.2 t (by omega), hp]) ?_ hR.2.2.1 hR.2.1 f2 G.2.2.2.2.1
      rcases hx with ⟨rfl, -, q⟩ | ⟨rfl, -, q⟩ | ⟨rfl, -, q⟩ | ⟨rfl, -, q⟩
      · exact Or.inl ⟨rfl, q⟩
      · exact Or.inr (Or.inl ⟨rfl, q⟩)
      · exact Or.inr (Or.inr (Or.inl ⟨rfl, q⟩))
      · exact Or.inr (Or.inr (Or.inr ⟨rfl, q⟩))
    have hR1 : r = -1 ∨ ¬ r < 0 := hr.imp id (fun ⟨i, hi, e⟩ => by rw [e]; exact ni_0 (by omega))
    by_cases q1 : r = -1
    · have q1' : r < 0 := by rw [q1]; decide
      rw [if_pos q1'] at hb
      by_cases q2 : m = N
      · rw [if_neg (by rw [lt_n (by omega) (by omega)]; omega)] at hb
        refine OutL.one hA' ht hb (eat_y l4 (by omega) h35) FRl.bb BB_6 (cb_bb hc') ⟨rfl, h47⟩ (Or.inr ⟨4, by decide, by decide, BB_y, BB_n, fun h0 u hu => ⟨u, ?_⟩⟩)
        rw [herr u hu, if_pos q1, if_pos q2]
      · have q2' : m < N := by omega
        rw [if_pos (by rw [lt_n (by omega) (by omega)]; exact q2')] at hb
        have hne : ∀ p, p ≠ 12 → p ≠ k → p ≠ k + 2 → (Nw v (t + 1) k m) p = v p := fun p h1 h2 h3 => by unfold Nw Nx pu; rw [up_ne h2, up_ne h3, up_ne h1]
        have h12 : (Nw v (t + 1) k m) 12 = (Nx v (t + 2)) 12 := by unfold Nw pu; rw [up_ne (by omega), up_ne (by omega)]
        refine OutL.one hA' ht hb (eat_y l4 (by omega) h35) (FRl.nwm hk) (by show (Nw v (t + 1) k m) 12 6 = _; rw [h12]; exact Nx_6) (cb_nw hc' hk q2') ⟨rfl, h47⟩ (Or.inl ⟨?_, ?_, fun h0 u hu => ⟨_, ?_, u, m, hu, hm2, q2', rfl, rfl⟩⟩)
        · show (Nw v (t + 1) k m) 12 7 = _; rw [h12]; exact Nx_7
        · show (Nw v (t + 1) k m) 12 8 = _; rw [h12]; exact Nx_8
        · rw [herr u hu, if_pos q1, if_neg q2]
    · have q1' : ¬ r < 0 := hR1.resolve_left q1
      rw [if_neg q1'] at hb
      refine OutL.one hA' ht hb (eat_y l4 (by omega) h35) FRl.bb BB_6 (cb_bb hc') ⟨rfl, h47⟩ (Or.inr ⟨2, by decide, by decide, BB_y, BB_n, fun h0 u hu => ⟨u, ?_⟩⟩)
      rw [herr u hu, if_neg q1]
  · have ne : ¬ nI (kn (t + 1)) = 47 := by rw [show (47 : Int32) = nI 47 from rfl, eq_n (by omega) (by omega)]; exact h47
    refine OutL.bad (a := (-1, Fl v (t + 1))) hA' ?_ rfl (eat_n l4 (by omega) (by rw [l7 _ l3, show (35 : Int32) = nI (kmap 47) from rfl, kq hkn (by omega)]; exact h47))
    unfold f_Reader_takeNewName
    rw [seen_c l1 l2 (by omega) (l6 (t + 1) l3), ob, if_neg ne, fail_c l1 l2, ob]
theorem DeadL.take {α : Type} {pa : α → Va} {c : Int32} (h : ¬ (50 : Int32) = c) : DeadL pa id (fun a => f_Reader_take (pa a) c) := fun a hv => ⟨pa a, take_d hv h, rfl, FRl.refl'⟩
theorem DeadL.new {α : Type} {pa : α → Va} {k N : Nat} : DeadL pa Prod.snd (fun a => f_Reader_takeNewName z (pa a) k N) := fun a hv => ⟨(-1, pa a), by
  show f_Reader_takeNewName z (pa a) k N = _
  unfold f_Reader_takeNewName
  rw [seen_d hv, ob, if_neg (by decide), fail_d hv, ob], rfl, FRl.refl'⟩
theorem DeadL.name {α : Type} {pa : α → Va} {k N : Nat} : DeadL pa Prod.snd (fun a => f_Reader_takeName z (pa a) k N) := fun a hv => ⟨(-1, pa a), takeName_d hv, rfl, FRl.refl'⟩
theorem DeadL.num {α : Type} {pa : α → Va} {lo hi : Int32} : DeadL pa Prod.snd (fun a => f_Reader_takeNumber (pa a) lo hi) := fun a hv => ⟨(0, pa a), by
  show f_Reader_takeNumber (pa a) lo hi = _
  unfold f_Reader_takeNumber
  rw [seen_d hv, ob, if_neg (by decide), fail_d hv, ob], rfl, FRl.refl'⟩
/-- the error pass at a number with a range -/
theorem range_e {y lo hi : Int32} : f_Model_errorOfRange y lo hi = some (if ¬ y < lo ∧ ¬ hi < y then 0 else 5) := by
  unfold f_Model_errorOfRange
  rw [isIn_e, ob]
  by_cases h : ¬ y < lo ∧ ¬ hi < y
  · rw [if_neg (by rw [decide_eq_true h]; decide), if_pos h]
  · rw [if_pos (by rw [decide_eq_false h]; decide), if_neg h]
theorem num_err {x rw' cc N c : Nat} {y lo hi : Int32} (ht : t + 1 ≤ 400) (hk : u (k1 + 1) (t + 1) = 36) (hp : u (k1 + 1) t = nI x) (hx : x = 1 ∧ rw' = 6 ∧ cc = 4 ∧ N = 4 ∧ lo = 0 ∧ hi = 9 ∨ x = 3 ∧ rw' = 8 ∧ cc = 7 ∧ N = 4 ∧ lo = 0 ∧ hi = 99 ∨ x = 4 ∧ rw' = 9 ∧ cc = 7 ∧ N = 4 ∧ lo = 0 ∧ hi = 20 ∨ x = 6 ∧ rw' = 11 ∧ cc = 11 ∧ N = 6 ∧ lo = 0 ∧ hi = 9999 ∨ x = 7 ∧ rw' = 12 ∧ cc = 11 ∧ N = 6 ∧ lo = 0 ∧ hi = 9999 ∨ x = 10 ∧ rw' = 15 ∧ cc = 15 ∧ N = 10 ∧ lo = 1 ∧ hi = 90)
    (hc : u k1 cc = nI (c + 1)) (hcN : c < N) (hk1 : 194 ≤ k1) (hn : f_Model_number z u sp k1 (nI (t + 1)) = some y) : f_Model_errorOf z u sp k1 (nI (t + 1)) = some ((if ¬ y < lo ∧ ¬ hi < y then 0 else 5), pu (pu u (k1 + 4) (t + 1) y) (k1 + rw') c y) := by
  unfold f_Model_errorOf
  rw [if_neg (gd2 (by omega) (by omega)), ni_c (by omega), hk, if_neg (by decide), if_neg (by decide), if_neg (by decide), if_neg (by decide), if_neg (by decide), if_neg (by decide), if_pos rfl]
  unfold f_Model_errorOfNumber
  have e1 : (pu u (k1 + 4) (t + 1) y) (k1 + 1) t = nI x := by unfold pu; rw [up_ne (by omega)]; exact hp
  have e2 : (pu u (k1 + 4) (t + 1) y) k1 cc = nI (c + 1) := by unfold pu; rw [up_ne (by omega)]; exact hc
  rw [hn, ob, if_neg (gd2 (by omega) (by omega)), ni_c (by omega), bd, ni_sub1, if_neg (gd2 (by omega) (by omega)), ni_c (by omega), e1]
  rcases hx with ⟨rfl, rfl, rfl, rfl, rfl, rfl⟩ | ⟨rfl, rfl, rfl, rfl, rfl, rfl⟩ | ⟨rfl, rfl, rfl, rfl, rfl, rfl⟩ | ⟨rfl, rfl, rfl, rfl, rfl, rfl⟩ | ⟨rfl, rfl, rfl, rfl, rfl, rfl⟩ | ⟨rfl, rfl, rfl, rfl, rfl, rfl⟩
  · rw [if_pos (show nI 1 = 1 from rfl), e2, ni_sub1, if_neg (gd2 (by omega) (by omega)), ni_c (by omega), bd, range_e, ob, ob]
  · rw [if_neg (show ¬ nI 3 = 1 by decide), if_pos (show nI 3 = 3 from rfl), e2, ni_sub1, if_neg (gd2 (by omega) (by omega)), ni_c (by omega), bd, range_e, ob, ob]
  · rw [if_neg (show ¬ nI 4 = 1 by decide), if_neg (show ¬ nI 4 = 3 by decide), if_pos (show nI 4 = 4 from rfl), e2, ni_sub1, if_neg (gd2 (by omega) (by omega)), ni_c (by omega), bd, range_e, ob, ob]
  · rw [if_neg (show ¬ nI 6 = 1 by decide), if_neg (show ¬ nI 6 = 3 by decide), if_neg (show ¬ nI 6 = 4 by decide), if_pos (show nI 6 = 6 from rfl), e2, ni_sub1, if_neg (gd2 (by omega) (by omega)), ni_c (by omega), bd, range_e, ob, ob]
  · rw [if_neg (show ¬ nI 7 = 1 by decide), if_neg (show ¬ nI 7 = 3 by decide), if_neg (show ¬ nI 7 = 4 by decide), if_neg (show ¬ nI 7 = 6 by decide), if_pos (show nI 7 = 7 from rfl), e2, ni_sub1, if_neg (gd2 (by omega) (by omega)), ni_c (by omega), bd, range_e, ob, ob]
  · rw [if_neg (show ¬ nI 10 = 1 by decide), if_neg (show ¬ nI 10 = 3 by decide), if_neg (show ¬ nI 10 = 4 by decide), if_neg (show ¬ nI 10 = 6 by decide), if_neg (show ¬ nI 10 = 7 by decide), if_pos (show nI 10 = 10 from rfl), e2, ni_sub1, if_neg (gd2 (by omega) (by omega)), ni_c (by omega), bd, range_e, ob, ob]
theorem OutL.num {x rw' cc N : Nat} {lo hi : Int32} (G : GH kn nt k1 z) (hA : ALL kn nt k1 sp z u0 v us (t + 1)) (hp : kn t = x) (hx : x = 1 ∧ rw' = 6 ∧ cc = 4 ∧ N = 4 ∧ lo = 0 ∧ hi = 9 ∨ x = 3 ∧ rw' = 8 ∧ cc = 7 ∧ N = 4 ∧ lo = 0 ∧ hi = 99 ∨ x = 4 ∧ rw' = 9 ∧ cc = 7 ∧ N = 4 ∧ lo = 0 ∧ hi = 20 ∨ x = 6 ∧ rw' = 11 ∧ cc = 11 ∧ N = 6 ∧ lo = 0 ∧ hi = 9999 ∨ x = 7 ∧ rw' = 12 ∧ cc = 11 ∧ N = 6 ∧ lo = 0 ∧ hi = 9999 ∨ x = 10 ∧ rw' = 15 ∧ cc = 15 ∧ N = 10 ∧ lo = 1 ∧ hi = 90)
    (hP : ∀ u, P u → EK kn nt k1 u0 u ∧ ∃ c, c < N ∧ u k1 cc = nI (c + 1)) :
    OutL Prod.snd kn nt k1 sp z v us (t + 1) (f_Reader_takeNumber v lo hi) (f_Model_eat us sp k1 36) P (fun t' => t' = t + 2 ∧ kn (t + 1) = 48) (fun a u3 t' => ∃ u c y, P u ∧ c < N ∧ u k1 cc = nI (c + 1) ∧ (¬ y < lo) ∧ (¬ hi < y) ∧ a = (y, Nx v (t + 2)) ∧ u3 = pu (pu u (k1 + 4) (t + 1) y) (k1 + rw') c y) := by
  have hA' := hA
  obtain ⟨⟨l1, l2, l3, l4, l5, l6, l7, l8, l9, l10⟩, hc⟩ := hA
  have g1 := G.1
  have hkn := G.2.1 (t + 1) l3
  by_cases h48 : kn (t + 1) = 48
  · have ht := lt_of_kn G l3 (by omega)
    have h36 : us (k1 + 1) (t + 1) = 36 := by rw [l7 _ l3, h48]; rfl
    have hs : f_Reader_seen v = some 48 := by
      have := seen_c (kn := kn) l1 l2 (by omega) (l6 (t + 1) l3)
      rw [h48] at this; exact this
    have e11 : (Nx v (t + 2)) 11 = v 11 := by unfold Nx pu; rw [up_ne (by omega)]
    have hb : f_Reader_takeNumber v lo hi = if ¬ v 11 (t + 1) < lo ∧ ¬ hi < v 11 (t + 1) then some (v 11 (t + 1), Nx v (t + 2)) else some (v 11 (t + 1), BB v 5 (t + 1)) := by
      unfold f_Reader_takeNumber j_Reader_takeNumber_55
      rw [hs, ob, if_pos rfl, bd, next_c l1, bd, l1, e11, rg (by omega) (by omega), ← l1, blame_c l1, ob]
      by_cases q1 : v 11 (t + 1) < lo
      · rw [if_pos q1, if_neg (fun q => q.1 q1)]
      · by_cases q2 : hi < v 11 (t + 1)
        · rw [if_neg q1, if_neg (Int32.not_le.mpr q2), if_neg (fun q => q.2 q2)]
        · rw [if_neg q1, if_pos (Int32.not_lt.mp q2), if_pos ⟨q1, q2⟩]
    have herr : ∀ u, P u → ∃ c, c < N ∧ u k1 cc = nI (c + 1) ∧ f_Model_errorOf z u sp k1 (nI (t + 1)) = some ((if ¬ v 11 (t + 1) < lo ∧ ¬ hi < v 11 (t + 1) then 0 else 5), pu (pu u (k1 + 4) (t + 1) (v 11 (t + 1))) (k1 + rw') c (v 11 (t + 1))) := fun u hu => by
      obtain ⟨hE, c, hc1, hc2⟩ := hP u hu
      obtain ⟨e1, e2, e3⟩ := hE.1
      refine ⟨c, hc1, hc2, num_err (by omega) (by rw [hE.2 _ l3, h48]; rfl) (x := x) ?_ hx hc2 hc1 G.2.2.2.2.1 ((l10 u e1 e2 e3).2 (t + 1) (by omega) h48).1⟩
      rw [hE.2 t (by omega), hp]
      rcases hx with ⟨rfl, -⟩ | ⟨rfl, -⟩ | ⟨rfl, -⟩ | ⟨rfl, -⟩ | ⟨rfl, -⟩ | ⟨rfl, -⟩ <;> rfl
    by_cases q : ¬ v 11 (t + 1) < lo ∧ ¬ hi < v 11 (t + 1)
    · rw [if_pos q] at hb
      refine OutL.one hA' ht hb (eat_y l4 (by omega) h36) (FRl.re FRe.nx) (Nx_6 (v := v) (t := t + 2)) (cb_nx (v := v) (t := t + 2) hc) ⟨rfl, h48⟩ (Or.inl ⟨Nx_7 (v := v) (t := t + 2), Nx_8 (v := v) (t := t + 2), fun h0 u hu => ?_⟩)
      obtain ⟨c, hc1, hc2, he⟩ := herr u hu
      rw [if_pos q] at he
      exact ⟨_, he, u, c, _, hu, hc1, hc2, q.1, q.2, rfl, rfl⟩
    · rw [if_neg q] at hb
      refine OutL.one hA' ht hb (eat_y l4 (by omega) h36) FRl.bb BB_6 (cb_bb hc) ⟨rfl, h48⟩ (Or.inr ⟨5, by decide, by decide, BB_y, BB_n, fun h0 u hu => ?_⟩)
      obtain ⟨c, hc1, hc2, he⟩ := herr u hu
      rw [if_neg q] at he
      exact ⟨_, he⟩
  · have ne : ¬ nI (kn (t + 1)) = 48 := by rw [show (48 : Int32) = nI 48 from rfl, eq_n (by omega) (by omega)]; exact h48
    refine OutL.bad (a := (0, Fl v (t + 1))) hA' ?_ rfl (eat_n l4 (by omega) (by rw [l7 _ l3, show (36 : Int32) = nI (kmap 48) from rfl, kq hkn (by omega)]; exact h48))
    unfold f_Reader_takeNumber
    rw [seen_c l1 l2 (by omega) (l6 (t + 1) l3), ob, if_neg ne, fail_c l1 l2, ob]
end
