/-! NAMES IN SUMS AND TESTS -/
section
variable {kn : Nat → Nat} {nt k1 sp z : Nat} {u0 v v1 us u u2 : Va} {t d M L s : Nat} {x p : Int32}
theorem ni_sub2 {a : Nat} : nI (a + 2) - 2 = nI a := by
  rw [show nI (a + 2) = nI a + 2 from (ni_add a 2).symm]
  exact Int32.add_sub_cancel _ _
/-- the error pass at a name that isn't new -/
theorem name_e (ht : t + 1 ≤ 400) (hp : u (k1 + 1) t = p) (h : ¬ p = 0 ∧ ¬ p = 2 ∧ ¬ p = 5 ∧ ¬ p = 8 ∧ ¬ p = 9 ∧ ¬ p = 11 ∧ ¬ p = 12 ∧ ¬ p = 14 ∧ ¬ p = 16 ∧ ¬ p = 13 ∧ ¬ p = 15) (hs : f_Model_sortOf u k1 (nI (t + 1)) = some x) :
    f_Model_errorOfName z u sp k1 (nI (t + 1)) = (f_Model_namesOf u sp k1 x).bind fun q50 => (f_Model_manyOf u sp k1 x).bind fun q57 => (f_Model_find z u sp k1 q50.1 q50.2 q57 (nI (t + 1))).bind fun q61 => if q61 = -1 then some (3, u) else some (0, pu u (k1 + 4) (t + 1) q61) := by
  obtain ⟨h0, h2, h5, h8, h9, h11, h12, h14, h16, h13, h15⟩ := h
  unfold f_Model_errorOfName j_Model_errorOfName_101 j_Model_errorOfName_120 j_Model_errorOfName_151
  have c := ni_c (i := t) (by omega)
  have c1 := ni_c (i := t + 1) (by omega)
  have g : (nI t < 0 ∨ 401 ≤ t) = False := gn (by omega) (by omega)
  have g1 : (nI (t + 1) < 0 ∨ 401 ≤ t + 1) = False := gn (by omega) (by omega)
  simp only [ni_sub1, c, c1, g, g1, if_false, hp, h0, h2, h5, h8, h9, h11, h12, h14, h16, h13, h15, hs, ob, bd]
theorem err_name (ht : t + 1 ≤ 400) (hk : u (k1 + 1) (t + 1) = 35) : f_Model_errorOf z u sp k1 (nI (t + 1)) = f_Model_errorOfName z u sp k1 (nI (t + 1)) := by
  unfold f_Model_errorOf
  rw [if_neg (gd2 (by omega) (by omega)), ni_c (by omega), hk, if_neg (by decide), if_neg (by decide), if_neg (by decide), if_neg (by decide), if_neg (by decide), if_pos rfl]
  cases f_Model_errorOfName z u sp k1 (nI (t + 1)) with
  | none => rfl
  | some q => rfl
theorem sort_1 (ht : t + 1 ≤ 400) (hp : u (k1 + 1) t = p) (h : (p = 6 ∨ p = 24 ∨ p = 25 ∨ p = 26 ∨ p = 16 ∨ p = 11 ∨ p = 15) ∧ x = 5 ∨ (p = 21 ∨ p = 22 ∨ p = 23 ∨ p = 12 ∨ p = 14) ∧ x = 8 ∨ p = 9 ∧ x = 0 ∨ p = 13 ∧ x = 2) : f_Model_sortOf u k1 (nI (t + 1)) = some x := by
  unfold f_Model_sortOf
  rw [ni_sub1, if_neg (gd2 (by omega) (by omega)), ni_c (by omega), hp]
  rcases h with ⟨rfl | rfl | rfl | rfl | rfl | rfl | rfl, rfl⟩ | ⟨rfl | rfl | rfl | rfl | rfl, rfl⟩ | ⟨rfl, rfl⟩ | ⟨rfl, rfl⟩ <;> rfl
theorem sort_2 (ht : t + 2 ≤ 400) (hp : u (k1 + 1) (t + 1) = 35) (hq : u (k1 + 1) t = p) (h : p = 25 ∧ x = 5 ∨ p = 26 ∧ x = 8) : f_Model_sortOf u k1 (nI (t + 2)) = some x := by
  unfold f_Model_sortOf
  rw [show nI (t + 2) - 1 = nI (t + 1) from ni_sub1, if_neg (gd2 (by omega) (by omega)), ni_c (by omega), hp, ni_sub2]
  show (if nI t < 0 ∨ 401 ≤ (nI t).toNatClampNeg then none else if u (k1 + 1) (nI t).toNatClampNeg = 25 then some 5 else some 8) = _
  rw [if_neg (gd2 (by omega) (by omega)), ni_c (by omega), hq]
  rcases h with ⟨rfl, rfl⟩ | ⟨rfl, rfl⟩
  · rw [if_pos rfl]
  · rw [if_neg (by decide)]
/-- what taking a name comes to -/
def NmO (kn : Nat → Nat) (nt k1 sp z : Nat) (u0 v : Va) (t k N : Nat) (rng : Nat → Nat → Nat) : Prop := ∃ (r : Int32) (v1 : Va), f_Reader_takeName z v k N = some (r, v1) ∧ (∀ p, p ≠ 12 → v1 p = v p) ∧ v1 12 6 = nI (t + 1) ∧ (¬ v1 12 7 = 1) ∧ ((¬ v 12 7 = 0) → v1 12 7 = v 12 7 ∧ v1 12 8 = v 12 8) ∧
  (v 12 7 = 0 → ∀ M L s u2, SE kn nt k1 u0 v u2 M L t s → ∃ e u3, f_Model_errorOf z u2 sp k1 (nI t) = some (e, u3) ∧ ((¬ e = 0) → v1 12 7 = e ∧ v1 12 8 = nI t) ∧ (e = 0 → v1 12 7 = 0 ∧ FNm k1 u2 u3 t (t + 1) ∧ (∃ m, m < rng M L ∧ r = nI m) ∧ u3 (k1 + 4) t = r))
theorem Bl_6 : (Bl v x t) 12 6 = v 12 6 := by unfold Bl pu; rw [up_eq, upd_ne (by omega), up_eq, upd_ne (by omega)]
theorem Bl_7 : (Bl v x t) 12 7 = x := by unfold Bl pu; rw [up_eq, upd_ne (by omega), up_eq, upd_eq]
theorem Bl_8 : (Bl v x t) 12 8 = nI t := by unfold Bl pu; rw [up_eq, upd_eq]
theorem m1_lt : ¬ (0 : Int32) ≤ -1 := by decide
/-- a name of a sort whose numbers are known: what each side says -/
theorem name_two {k ka cc N : Nat} {rng : Nat → Nat → Nat} (G : GH kn nt k1 z) (hA : AL kn nt k1 sp z u0 v us t d) (hk : kn t = 47) (hN : N ≤ 10) (hk12 : k ≠ 12) (hkk : k + 2 ≠ 12) (hb : ∃ n, n ≤ N ∧ v k 2 = nI n)
    (he : ∀ M L s u2, SE kn nt k1 u0 v u2 M L t s → NR v u0 kn nt k ka cc (rng M L) N u2 k1 ∧ f_Model_errorOf z u2 sp k1 (nI t) = (f_Model_find z u2 sp k1 ka N (nI (rng M L)) (nI t)).bind fun q61 => if q61 = -1 then some (3, u2) else some (0, pu u2 (k1 + 4) t q61)) :
    NmO kn nt k1 sp z u0 v t k N rng := by
  obtain ⟨g1, g2, g3, g4, g5, g6⟩ := G
  obtain ⟨l1, l2, l3, l4, l5, l6, l7, l8, l9, l10⟩ := hA
  have ht : t < nt := by
    rcases Nat.lt_or_ge t nt with h | h
    · exact h
    · have : t = nt := by omega
      subst this; omega
  obtain ⟨n, hn, hn2⟩ := hb
  obtain ⟨r, hf, hr⟩ := find_any (z := z) (x := v 11 t) hN g6 hn2 hn
  have h5t : v 5 t = nI 47 := by rw [l6 t l3, hk]
  refine ⟨r, _, takeName_c (n := 0) hN g6 l1 l2 (by omega) h5t hk12 hkk hf, ?_, ?_, ?_, ?_, ?_⟩
  · intro p hp
    split
    · unfold Nx pu; rw [up_ne hp]
    · split
      · unfold Bl Nx pu; rw [up_ne hp, up_ne hp, up_ne hp]
      · unfold Nx pu; rw [up_ne hp]
  · split
    · exact Nx_6
    · split
      · rw [Bl_6]; exact Nx_6
      · exact Nx_6
  · split
    · rw [Nx_7]; exact l2
    · split
      · rw [Bl_7]; decide
      · rw [Nx_7]; exact l2
  · intro h0
    split
    · rw [Nx_7, Nx_8]; exact ⟨rfl, rfl⟩
    · rw [Nx_7, Nx_8]; exact ⟨rfl, rfl⟩
  · intro h0 M L s u2 hS
    obtain ⟨hR, hE⟩ := he M L s u2 hS
    obtain ⟨r', f1, f2, f3⟩ := find_two hN g6 l10 hS.2.2.2.2.1 hR ht hk
    rw [hf] at f1
    obtain rfl := Option.some.inj f1
    rw [f2, ob] at hE
    rcases f3 with rfl | ⟨m, hm, rfl⟩
    · refine ⟨3, u2, by rw [hE, if_pos rfl], fun _ => ?_, fun q => absurd q (by decide)⟩
      rw [if_neg m1_lt, if_pos h0]
      exact ⟨Bl_7, Bl_8⟩
    · have hR2 := hR.2.1
      have hm1 : ¬ nI m = -1 := by rw [eq_m1 (by omega)]; exact id
      refine ⟨0, pu u2 (k1 + 4) t (nI m), by rw [hE, if_neg hm1], fun q => absurd rfl q, fun _ => ⟨?_, ⟨fun p hp => by unfold pu; rw [up_ne hp], fun i hi => by unfold pu; rw [up_eq, upd_ne (by omega)]⟩, ⟨m, hm, rfl⟩, by unfold pu; rw [up_eq, upd_eq]⟩⟩
      rw [if_pos (by rw [n_ge0 (by omega)]; trivial), Nx_7]
      exact h0
theorem nm_M1 (G : GH kn nt k1 z) (hA : AL kn nt k1 sp z u0 v us (t + 1) d) (hk : kn (t + 1) = 47) (hp : kn t = 6 ∨ kn t = 24 ∨ kn t = 25 ∨ kn t = 26) : NmO kn nt k1 sp z u0 v (t + 1) 55 6 (fun M _ => M) := by
  have g1 := G.1
  have l3 := hA.2.2.1
  refine name_two (ka := k1 + 10) (cc := 11) G hA hk (by omega) (by omega) (by omega) hA.2.2.2.2.2.2.2.1 fun M L s u2 hS => ⟨hS.2.2.1, ?_⟩
  have e1 : u2 (k1 + 1) (t + 1) = 35 := by rw [hS.2.2.2.2.2 _ l3, hk]; rfl
  have e0 : u2 (k1 + 1) t = nI (kmap (kn t)) := hS.2.2.2.2.2 t (by omega)
  rw [err_name (by omega) e1, name_e (x := 5) (by omega) e0 (by rcases hp with q | q | q | q <;> rw [q] <;> decide) (sort_1 (by omega) e0 (Or.inl ⟨by rcases hp with q | q | q | q <;> rw [q] <;> decide, rfl⟩))]
  show (f_Model_find z u2 sp k1 (k1 + 10) 6 (u2 k1 11) (nI (t + 1))).bind _ = _
  rw [hS.2.2.1.2.2.1]
theorem nm_L1 (G : GH kn nt k1 z) (hA : AL kn nt k1 sp z u0 v us (t + 1) d) (hk : kn (t + 1) = 47) (hp : kn t = 21 ∨ kn t = 22 ∨ kn t = 23) : NmO kn nt k1 sp z u0 v (t + 1) 58 10 (fun _ L => L) := by
  have g1 := G.1
  have l3 := hA.2.2.1
  refine name_two (ka := k1 + 13) (cc := 15) G hA hk (by omega) (by omega) (by omega) hA.2.2.2.2.2.2.2.2.1 fun M L s u2 hS => ⟨hS.2.2.2.1, ?_⟩
  have e1 : u2 (k1 + 1) (t + 1) = 35 := by rw [hS.2.2.2.2.2 _ l3, hk]; rfl
  have e0 : u2 (k1 + 1) t = nI (kmap (kn t)) := hS.2.2.2.2.2 t (by omega)
  rw [err_name (by omega) e1, name_e (x := 8) (by omega) e0 (by rcases hp with q | q | q <;> rw [q] <;> decide) (sort_1 (by omega) e0 (Or.inr (Or.inl ⟨by rcases hp with q | q | q <;> rw [q] <;> decide, rfl⟩)))]
  show (f_Model_find z u2 sp k1 (k1 + 13) 10 (u2 k1 15) (nI (t + 1))).bind _ = _
  rw [hS.2.2.2.1.2.2.1]
theorem nm_M2 (G : GH kn nt k1 z) (hA : AL kn nt k1 sp z u0 v us (t + 2) d) (hk : kn (t + 2) = 47) (hp : kn (t + 1) = 47) (hq : kn t = 25) : NmO kn nt k1 sp z u0 v (t + 2) 55 6 (fun M _ => M) := by
  have g1 := G.1
  have l3 := hA.2.2.1
  refine name_two (ka := k1 + 10) (cc := 11) G hA hk (by omega) (by omega) (by omega) hA.2.2.2.2.2.2.2.1 fun M L s u2 hS => ⟨hS.2.2.1, ?_⟩
  have e2 : u2 (k1 + 1) (t + 2) = 35 := by rw [hS.2.2.2.2.2 _ l3, hk]; rfl
  have e1 : u2 (k1 + 1) (t + 1) = 35 := by rw [hS.2.2.2.2.2 _ (by omega), hp]; rfl
  have e0 : u2 (k1 + 1) t = 25 := by rw [hS.2.2.2.2.2 t (by omega), hq]; rfl
  rw [err_name (t := t + 1) (by omega) e2, name_e (t := t + 1) (x := 5) (by omega) e1 (by decide) (sort_2 (by omega) e1 e0 (Or.inl ⟨rfl, rfl⟩))]
  show (f_Model_find z u2 sp k1 (k1 + 10) 6 (u2 k1 11) (nI (t + 2))).bind _ = _
  rw [hS.2.2.1.2.2.1]
theorem nm_L2 (G : GH kn nt k1 z) (hA : AL kn nt k1 sp z u0 v us (t + 2) d) (hk : kn (t + 2) = 47) (hp : kn (t + 1) = 47) (hq : kn t = 26) : NmO kn nt k1 sp z u0 v (t + 2) 58 10 (fun _ L => L) := by
  have g1 := G.1
  have l3 := hA.2.2.1
  refine name_two (ka := k1 + 13) (cc := 15) G hA hk (by omega) (by omega) (by omega) hA.2.2.2.2.2.2.2.2.1 fun M L s u2 hS => ⟨hS.2.2.2.1, ?_⟩
  have e2 : u2 (k1 + 1) (t + 2) = 35 := by rw [hS.2.2.2.2.2 _ l3, hk]; rfl
  have e1 : u2 (k1 + 1) (t + 1) = 35 := by rw [hS.2.2.2.2.2 _ (by omega), hp]; rfl
  have e0 : u2 (k1 + 1) t = 26 := by rw [hS.2.2.2.2.2 t (by omega), hq]; rfl
  rw [err_name (t := t + 1) (by omega) e2, name_e (t := t + 1) (x := 8) (by omega) e1 (by decide) (sort_2 (by omega) e1 e0 (Or.inr ⟨rfl, rfl⟩))]
  show (f_Model_find z u2 sp k1 (k1 + 13) 10 (u2 k1 15) (nI (t + 2))).bind _ = _
  rw [hS.2.2.2.1.2.2.1]
/-- one name and its step -/
theorem Out.name1 {k N : Nat} {rng : Nat → Nat → Nat} {K : Int32} (G : GH kn nt k1 z) (hA : AL kn nt k1 sp z u0 v us t d) (h : kn t = 47 → NmO kn nt k1 sp z u0 v t k N rng) :
    Out kn nt k1 sp z u0 v us t d ((f_Reader_takeName z v k N).bind fun q => (f_Steps_add q.2 42 K q.1 0).bind fun q' => some q') (f_Model_eat us sp k1 35) (fun t' => t' = t + 1) (fun mn M L _ c => c = [(K, mn t, 0)] ∧ ∃ m, m < rng M L ∧ mn t = nI m) := by
  have hA' := hA
  obtain ⟨l1, l2, l3, l4, l5, l6, l7, l8, l9, l10⟩ := hA
  have g1 := G.1
  have g5 := G.2.2.2.2.1
  have hkn := G.2.1 t l3
  by_cases hk : kn t = 47
  · have ht : t + 1 ≤ nt := by
      rcases Nat.lt_or_ge t nt with h | h
      · exact h
      · have : t = nt := by omega
        subst this; have := G.2.2.2.1; omega
    obtain ⟨r, v1, a1, a2, a3, a4, a5, a6⟩ := h hk
    obtain ⟨v2, b1, b2, b3, b4⟩ := add_any (v := v1) K r 0
    have hF : FRe v v1 := fun p a _ _ _ _ => a2 p a
    refine ⟨v2, true, Tk us (t + 1), t + 1, by rw [a1, ob]; simp only; rw [b1, ob], eat_y l4 (by omega) (by rw [l7 t l3, hk]; rfl), hF.tr b2, FS.tk, Tk_4, by omega, ht, fun q => (by cases q), fun _ => ?_⟩
    rw [b3]
    refine ⟨rfl, by rw [Tk_5]; exact l5, a3, a4, a5, fun h0 M L s u2 hS => ?_⟩
    obtain ⟨e, u3, c1, c2, c3⟩ := a6 h0 M L s u2 hS
    have hst : v1 42 0 = nI s := by rw [a2 42 (by omega)]; exact hS.1
    have hs := hS.2.1
    refine ⟨e, _, u3, by rw [show t + 1 - t = 1 by omega]; exact fold2_1 c1, fun he => ?_, fun he => ?_⟩
    · rw [if_neg he]; exact c2 he
    · obtain ⟨d1, d2, ⟨m, hm, rfl⟩, d4⟩ := c3 he
      refine ⟨d1, d2, [(K, nI m, 0)], (b4 s hst (by omega)).from ⟨a2 _ (by omega), a2 _ (by omega), a2 _ (by omega), a2 _ (by omega)⟩, by show 1 ≤ _; omega, fun mn hmn => ?_⟩
      have e1 : mn t = nI m := by rw [hmn t (by omega), d4]
      exact ⟨by rw [e1], m, hm, e1⟩
  · have ne : ¬ nI (kn t) = 47 := by rw [show (47 : Int32) = nI 47 from rfl, eq_n (by omega) (by omega)]; exact hk
    have a1 := takeName_n (z := z) (k := k) (N := N) l1 l2 (show t ≤ 400 by omega) (l6 t l3) ne
    obtain ⟨v2, b1, b2, b3, b4⟩ := add_any (v := Fl v t) K (-1) 0
    exact ⟨v2, false, us, t, by rw [a1, ob]; simp only; rw [b1, ob], eat_n l4 (by omega) (by rw [l7 t l3, show (35 : Int32) = nI (kmap 47) from rfl, kq hkn (by omega)]; exact hk), FRe.fl.tr b2, FS.refl', l4, Nat.le_refl _, l3, fun _ => by rw [b3]; exact ⟨Fl_7, Fl_8⟩, fun q => by cases q⟩
/-- two names and their step -/
theorem Out.name2 {k N k' N' : Nat} {rng rng' : Nat → Nat → Nat} {K : Int32} (G : GH kn nt k1 z) (hA : AL kn nt k1 sp z u0 v us t d) (h : kn t = 47 → NmO kn nt k1 sp z u0 v t k N rng) (h' : ∀ v1 us1, kn t = 47 → kn (t + 1) = 47 → AL kn nt k1 sp z u0 v1 us1 (t + 1) d → NmO kn nt k1 sp z u0 v1 (t + 1) k' N' rng') :
    Out kn nt k1 sp z u0 v us t d ((f_Reader_takeName z v k N).bind fun q => (f_Reader_takeName z q.2 k' N').bind fun q2 => (f_Steps_add q2.2 42 K q.1 q2.1).bind fun q' => some q') (sq (f_Model_eat us sp k1 35) fun u => f_Model_eat u sp k1 35) (fun t' => t' = t + 2) (fun mn M L _ c => c = [(K, mn t, mn (t + 1))] ∧ (∃ m, m < rng M L ∧ mn t = nI m) ∧ ∃ m, m < rng' M L ∧ mn (t + 1) = nI m) := by
  have hA' := hA
  obtain ⟨l1, l2, l3, l4, l5, l6, l7, l8, l9, l10⟩ := hA
  have g1 := G.1
  have g5 := G.2.2.2.2.1
  have hkn := G.2.1 t l3
  have hlt : ∀ i, i ≤ nt → kn i = 47 → i + 1 ≤ nt := fun i hi hk => by
    rcases Nat.lt_or_ge i nt with h | h
    · exact h
    · have : i = nt := by omega
      subst this; have := G.2.2.2.1; omega
  by_cases hk : kn t = 47
  · have ht := hlt t l3 hk
    obtain ⟨r, v1, a1, a2, a3, a4, a5, a6⟩ := h hk
    have hF : FRe v v1 := fun p a _ _ _ _ => a2 p a
    have hA1 : AL kn nt k1 sp z u0 v1 (Tk us (t + 1)) (t + 1) d := hA'.to g5 hF FS.tk a3 a4 ht Tk_4 (by rw [Tk_5]; exact l5)
    have hkn1 := G.2.1 (t + 1) ht
    rw [eat_y l4 (by omega) (show us (k1 + 1) t = 35 by rw [l7 t l3, hk]; rfl), sq_t, a1, ob]
    simp only
    by_cases hk2 : kn (t + 1) = 47
    · have ht2 := hlt (t + 1) ht hk2
      obtain ⟨r2, v2, b1, b2, b3, b4, b5, b6⟩ := h' v1 (Tk us (t + 1)) hk hk2 hA1
      obtain ⟨v3, c1, c2, c3, c4⟩ := add_any (v := v2) K r r2
      have hF2 : FRe v1 v2 := fun p a _ _ _ _ => b2 p a
      refine ⟨v3, true, Tk (Tk us (t + 1)) (t + 2), t + 2, by rw [b1, ob]; simp only; rw [c1, ob], eat_y (t := t + 1) hA1.2.2.2.1 (by omega) (by rw [hA1.2.2.2.2.2.2.1 (t + 1) ht, hk2]; rfl), (hF.tr hF2).tr c2, FS.tk.tr FS.tk, Tk_4, by omega, ht2, fun q => (by cases q), fun _ => ?_⟩
      rw [c3]
      refine ⟨rfl, by rw [Tk_5, Tk_5]; exact l5, b3, b4, fun h0 => ?_, fun h0 M L s u2 hS => ?_⟩
      · obtain ⟨x1, x2⟩ := a5 h0
        obtain ⟨y1, y2⟩ := b5 (by rw [x1]; exact h0)
        exact ⟨y1.trans x1, y2.trans x2⟩
      · obtain ⟨e, u3, d1, d2, d3⟩ := a6 h0 M L s u2 hS
        have hs := hS.2.1
        have hf : fold2 z sp k1 (t + 2 - t) t u2 = (some (e, (if e = 0 then t + 1 else t), u3)).bind fun q => if q.1 = 0 then fold2 z sp k1 1 (t + 1) q.2.2 else some q := by
          rw [show t + 2 - t = 1 + 1 by omega, fold2_app, fold2_1 d1]
        rw [ob] at hf
        by_cases he : e = 0
        · rw [if_pos he] at hf
          obtain ⟨f1, f2, ⟨m, hm, rfl⟩, f4⟩ := d3 he
          have hst : v1 42 0 = nI s := by rw [a2 42 (by omega)]; exact hS.1
          have hS1 : SE kn nt k1 u0 v1 u3 M L (t + 1) s := by
            have := hS.go (c := []) g5 hF f2 ((SStp.refl' hS.1).same ⟨a2 _ (by omega), a2 _ (by omega), a2 _ (by omega), a2 _ (by omega)⟩) (Nat.zero_le _) (by omega)
            exact this
          obtain ⟨e2, u4, x1, x2, x3⟩ := b6 f1 M L s u3 hS1
          refine ⟨e2, _, u4, hf.trans (fold2_1 x1), fun he2 => ?_, fun he2 => ?_⟩
          · rw [if_neg he2]; exact x2 he2
          · obtain ⟨y1, y2, ⟨m2, hm2, rfl⟩, y4⟩ := x3 he2
            have hst2 : v2 42 0 = nI s := by rw [b2 42 (by omega)]; exact hst
            refine ⟨y1, f2.tr y2 (by omega) (by omega), [(K, nI m, nI m2)], (c4 s hst2 (by omega)).from ⟨(b2 _ (by omega)).trans (a2 _ (by omega)), (b2 _ (by omega)).trans (a2 _ (by omega)), (b2 _ (by omega)).trans (a2 _ (by omega)), (b2 _ (by omega)).trans (a2 _ (by omega))⟩, by show 1 ≤ _; omega, fun mn hmn => ?_⟩
            have e1 : mn t = nI m := by rw [hmn t (by omega), y2.2 t (Or.inl (by omega)), f4]
            have e2' : mn (t + 1) = nI m2 := by rw [hmn (t + 1) (by omega), y4]
            exact ⟨by rw [e1, e2'], ⟨m, hm, e1⟩, m2, hm2, e2'⟩
        · rw [if_neg he] at hf
          obtain ⟨x1, x2⟩ := d2 he
          obtain ⟨y1, y2⟩ := b5 (by rw [x1]; exact he)
          refine ⟨e, _, u3, hf, fun _ => ?_, fun q => absurd q he⟩
          rw [if_neg he]
          exact ⟨y1.trans x1, y2.trans x2⟩
    · have ne : ¬ nI (kn (t + 1)) = 47 := by rw [show (47 : Int32) = nI 47 from rfl, eq_n (by omega) (by omega)]; exact hk2
      have b1 := takeName_n (z := z) (k := k') (N := N') hA1.1 hA1.2.1 (show t + 1 ≤ 400 by omega) (hA1.2.2.2.2.2.1 (t + 1) ht) ne
      obtain ⟨v3, c1, c2, c3, c4⟩ := add_any (v := Fl v1 (t + 1)) K r (-1)
      exact ⟨v3, false, Tk us (t + 1), t + 1, by rw [b1, ob]; simp only; rw [c1, ob], eat_n (t := t + 1) hA1.2.2.2.1 (by omega) (by rw [hA1.2.2.2.2.2.2.1 (t + 1) ht, show (35 : Int32) = nI (kmap 47) from rfl, kq hkn1 (by omega)]; exact hk2), (hF.tr FRe.fl).tr c2, FS.tk, Tk_4, by omega, ht, fun _ => by rw [c3]; exact ⟨Fl_7, Fl_8⟩, fun q => by cases q⟩
  · have ne : ¬ nI (kn t) = 47 := by rw [show (47 : Int32) = nI 47 from rfl, eq_n (by omega) (by omega)]; exact hk
    have a1 := takeName_n (z := z) (k := k) (N := N) l1 l2 (show t ≤ 400 by omega) (l6 t l3) ne
    obtain ⟨v2, b1, b2, b3, b4⟩ := add_any (v := Fl v t) K (-1) (-1)
    exact ⟨v2, false, us, t, by rw [a1, ob]; simp only; rw [takeName_d Fl_7, ob]; simp only; rw [b1, ob], by rw [eat_n l4 (by omega) (by rw [l7 t l3, show (35 : Int32) = nI (kmap 47) from rfl, kq hkn (by omega)]; exact hk), sq_f], FRe.fl.tr b2, FS.refl', l4, Nat.le_refl _, l3, fun _ => by rw [b3]; exact ⟨Fl_7, Fl_8⟩, fun q => by cases q⟩
/-- a number: the error pass where nothing is asked of it -/
theorem err_num (ht : t + 1 ≤ 400) (hk : u (k1 + 1) (t + 1) = 36) (hp : u (k1 + 1) t = p) (h : ¬ p = 1 ∧ ¬ p = 3 ∧ ¬ p = 4 ∧ ¬ p = 6 ∧ ¬ p = 7 ∧ ¬ p = 10) (hk1 : 194 ≤ k1) (hn : f_Model_number z u sp k1 (nI (t + 1)) = some x) : f_Model_errorOf z u sp k1 (nI (t + 1)) = some (0, pu u (k1 + 4) (t + 1) x) := by
  obtain ⟨h1, h3, h4, h6, h7, h10⟩ := h
  unfold f_Model_errorOf
  rw [if_neg (gd2 (by omega) (by omega)), ni_c (by omega), hk, if_neg (by decide), if_neg (by decide), if_neg (by decide), if_neg (by decide), if_neg (by decide), if_neg (by decide), if_pos rfl]
  unfold f_Model_errorOfNumber
  have e1 : (pu u (k1 + 4) (t + 1) x) (k1 + 1) t = p := by unfold pu; rw [up_ne (by omega)]; exact hp
  rw [hn, ob, if_neg (gd2 (by omega) (by omega)), ni_c (by omega), bd, ni_sub1, if_neg (gd2 (by omega) (by omega)), ni_c (by omega), e1, if_neg h1, if_neg h3, if_neg h4, if_neg h6, if_neg h7, if_neg h10]
  rfl
end
