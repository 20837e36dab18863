/-! VALUES AND SINGLE TESTS -/
section
variable {kn : Nat → Nat} {nt k1 sp z : Nat} {u0 v v1 us us1 : Va} {t d n m : Nat} {GB : Nat → List Int32 → Va → Option (Bool × Va)}
theorem sq_bind {X : Option (Bool × Va)} : (X.bind fun q => if (q_b q.1) = 0 then (some (false, q.2)) else (some (true, q.2))) = X := by
  cases X with
  | none => rfl
  | some q =>
    obtain ⟨b, u⟩ := q
    cases b <;> rfl
/-- the syntax pass at a value, by the kind of its first token -/
theorem vs_num (h4 : us 149 4 = nI t) (ht : t ≤ 400) (hk : us (k1 + 1) t = 36) : f_Model_isValue z GB us sp k1 = some (true, Tk us (t + 1)) := by
  unfold f_Model_isValue
  rw [h4, if_neg (gd2 (by omega) (by omega)), ni_c (by omega), hk, if_neg (by decide), eat_y h4 ht hk, ob, q_tt]
theorem vs_day (h4 : us 149 4 = nI t) (ht : t ≤ 400) (hk : us (k1 + 1) t = 19 ∨ us (k1 + 1) t = 20) : f_Model_isValue z GB us sp k1 = some (true, Tk us (t + 1)) := by
  unfold f_Model_isValue
  rw [h4, if_neg (gd2 (by omega) (by omega)), ni_c (by omega), if_neg (by rcases hk with q | q <;> rw [q] <;> decide), eat_n h4 ht (by rcases hk with q | q <;> rw [q] <;> decide), ob, q_ff, eatIn_y h4 ht (by rcases hk with q | q <;> rw [q] <;> decide), ob, q_tt]
theorem j92 {u : Va} : j_Model_isValue_92 sp k1 u = f_Model_eat u sp k1 35 := by
  unfold j_Model_isValue_92
  cases f_Model_eat u sp k1 35 <;> rfl
theorem vs_one (h4 : us 149 4 = nI t) (ht : t ≤ 400) (hk : us (k1 + 1) t = 6 ∨ us (k1 + 1) t = 21 ∨ us (k1 + 1) t = 22 ∨ us (k1 + 1) t = 23 ∨ us (k1 + 1) t = 24) : f_Model_isValue z GB us sp k1 = f_Model_eat (Tk us (t + 1)) sp k1 35 := by
  unfold f_Model_isValue
  rw [h4, if_neg (gd2 (by omega) (by omega)), ni_c (by omega), if_neg (by rcases hk with q | q | q | q | q <;> rw [q] <;> decide), eat_n h4 ht (by rcases hk with q | q | q | q | q <;> rw [q] <;> decide), ob, q_ff, eatIn_n h4 ht (by rcases hk with q | q | q | q | q <;> rw [q] <;> decide), ob, q_ff]
  by_cases h : us (k1 + 1) t = 6
  · rw [eatIn_n h4 ht (by rw [h]; decide), ob, q_ff, eat_y h4 ht h, ob, q_tt, j92]
  · rw [eatIn_y h4 ht (by rcases hk with q | q | q | q | q <;> first | exact absurd q h | (rw [q]; decide)), ob, q_tt, j92]
theorem vs_owes (h4 : us 149 4 = nI t) (ht : t ≤ 400) (hk : us (k1 + 1) t = 25) : f_Model_isValue z GB us sp k1 = sq (f_Model_eat (Tk us (t + 1)) sp k1 35) fun u => f_Model_eat u sp k1 35 := by
  unfold f_Model_isValue
  rw [h4, if_neg (gd2 (by omega) (by omega)), ni_c (by omega), hk, if_neg (by decide), eat_n h4 ht (by rw [hk]; decide), ob, q_ff, eatIn_n h4 ht (by rw [hk]; decide), ob, q_ff, eatIn_n h4 ht (by rw [hk]; decide), ob, q_ff, eat_n h4 ht (by rw [hk]; decide), ob, q_ff, eat_y h4 ht hk, ob, q_tt]
  simp only [sq_bind]
  rfl
theorem vs_neg (h4 : us 149 4 = nI t) (ht : t ≤ 400) (hk : us (k1 + 1) t = 47) : f_Model_isValue z GB us sp k1 = sq (f_Model_goDown us sp k1 47) fun u => sq (GB 5 [] u) up1 := by
  unfold f_Model_isValue
  rw [h4, if_neg (gd2 (by omega) (by omega)), ni_c (by omega), hk, if_pos rfl]
  rfl
theorem vs_no (h4 : us 149 4 = nI t) (ht : t ≤ 400) (hk : ¬ us (k1 + 1) t = 47 ∧ ¬ us (k1 + 1) t = 36 ∧ ¬ (¬ us (k1 + 1) t < 19 ∧ ¬ 20 < us (k1 + 1) t) ∧ ¬ (¬ us (k1 + 1) t < 21 ∧ ¬ 24 < us (k1 + 1) t) ∧ ¬ us (k1 + 1) t = 6 ∧ ¬ us (k1 + 1) t = 25) : f_Model_isValue z GB us sp k1 = ((f_Model_eatIn us sp k1 30 31).bind fun q142 => (f_Model_goDown q142.2 sp k1 40).bind fun q150 => if (q_b q150.1) = 0 then (some (false, q150.2)) else ((GB 3 [] q150.2).bind fun q158 => if (q_b q158.1) = 0 then (some (false, q158.2)) else (if (q_b q142.1) = 0 then (j_Model_isValue_186 sp k1 q158.2) else ((f_Model_eat q158.2 sp k1 45).bind fun q172 => if (q_b q172.1) = 0 then (some (false, q172.2)) else ((GB 3 [] q172.2).bind fun q180 => if (q_b q180.1) = 0 then (some (false, q180.2)) else (j_Model_isValue_186 sp k1 q180.2)))))) := by
  unfold f_Model_isValue
  obtain ⟨h1, h2, h3, h5, h6, h7⟩ := hk
  rw [h4, if_neg (gd2 (by omega) (by omega)), ni_c (by omega), if_neg h1, eat_n h4 ht h2, ob, q_ff, eatIn_n h4 ht h3, ob, q_ff, eatIn_n h4 ht h5, ob, q_ff, eat_n h4 ht h6, ob, q_ff, eat_n h4 ht h7, ob, q_ff]
theorem vs_par (h4 : us 149 4 = nI t) (ht : t ≤ 400) (hk : ¬ us (k1 + 1) t = 47 ∧ ¬ us (k1 + 1) t = 36 ∧ ¬ (¬ us (k1 + 1) t < 19 ∧ ¬ 20 < us (k1 + 1) t) ∧ ¬ (¬ us (k1 + 1) t < 21 ∧ ¬ 24 < us (k1 + 1) t) ∧ ¬ us (k1 + 1) t = 6 ∧ ¬ us (k1 + 1) t = 25) (hk2 : ¬ (¬ us (k1 + 1) t < 30 ∧ ¬ 31 < us (k1 + 1) t)) : f_Model_isValue z GB us sp k1 = sq (f_Model_goDown us sp k1 40) fun u => sq (sq (GB 3 [] u) fun u => f_Model_eat u sp k1 41) up1 := by
  rw [vs_no h4 ht hk, eatIn_n h4 ht hk2, ob]
  simp only [q_ff, sq_assoc]
  rfl
theorem vs_two (h4 : us 149 4 = nI t) (ht : t ≤ 400) (hk : us (k1 + 1) t = 30 ∨ us (k1 + 1) t = 31) : f_Model_isValue z GB us sp k1 = sq (f_Model_goDown (Tk us (t + 1)) sp k1 40) fun u => sq (sq (GB 3 [] u) fun u => sq (f_Model_eat u sp k1 45) fun u => sq (GB 3 [] u) fun u => f_Model_eat u sp k1 41) up1 := by
  rw [vs_no h4 ht (by rcases hk with q | q <;> rw [q] <;> decide), eatIn_y h4 ht (by rcases hk with q | q <;> rw [q] <;> decide), ob]
  simp only [q_tt, sq_assoc]
  rfl
/-- the syntax pass at a single test -/
theorem ss_not (h4 : us 149 4 = nI t) (ht : t ≤ 400) (hk : us (k1 + 1) t = 27) : f_Model_isSingle z GB us sp k1 = sq (f_Model_goDown us sp k1 27) fun u => sq (GB 2 [] u) up1 := by
  unfold f_Model_isSingle
  rw [h4, if_neg (gd2 (by omega) (by omega)), ni_c (by omega), hk, if_pos rfl]
  rfl
theorem ss_bra (h4 : us 149 4 = nI t) (ht : t ≤ 400) (hk : us (k1 + 1) t = 42) : f_Model_isSingle z GB us sp k1 = sq (f_Model_goDown us sp k1 42) fun u => sq (sq (GB 0 [] u) fun u => f_Model_eat u sp k1 43) up1 := by
  unfold f_Model_isSingle
  rw [h4, if_neg (gd2 (by omega) (by omega)), ni_c (by omega), hk, if_neg (by decide), if_neg (by rw [gn (by omega) (by omega)]; exact id), if_pos rfl]
  simp only [sq_assoc]
  rfl
theorem ss_owns (h4 : us 149 4 = nI t) (ht : t ≤ 400) (hk : us (k1 + 1) t = 26) : f_Model_isSingle z GB us sp k1 = sq (f_Model_eat (Tk us (t + 1)) sp k1 35) fun u => f_Model_eat u sp k1 35 := by
  unfold f_Model_isSingle
  rw [h4, if_neg (gd2 (by omega) (by omega)), ni_c (by omega), hk, if_neg (by decide), if_neg (by rw [gn (by omega) (by omega)]; exact id), if_neg (by decide), eat_y h4 ht hk, ob, q_tt]
  simp only [sq_bind]
  rfl
theorem ss_cmp (h4 : us 149 4 = nI t) (ht : t ≤ 400) (hk : ¬ us (k1 + 1) t = 27 ∧ ¬ us (k1 + 1) t = 42 ∧ ¬ us (k1 + 1) t = 26) : f_Model_isSingle z GB us sp k1 = sq (GB 3 [] us) fun u => sq (f_Model_eatIn u sp k1 50 54) fun u => GB 3 [] u := by
  unfold f_Model_isSingle
  rw [h4, if_neg (gd2 (by omega) (by omega)), ni_c (by omega), if_neg hk.1, if_neg (by rw [gn (by omega) (by omega)]; exact id), if_neg hk.2.1, eat_n h4 ht hk.2.2, ob, q_ff]
  simp only [sq_bind]
  rfl
/-- a number and its step -/
theorem Out.num (G : GH kn nt k1 z) (hA : AL kn nt k1 sp z u0 v us (t + 1) d) (hk : kn (t + 1) = 48) (hp : pn (kn t)) :
    Out kn nt k1 sp z u0 v us (t + 1) d ((f_Reader_takeNumber v 0 2147483647).bind fun q => (f_Steps_add q.2 42 48 q.1 0).bind fun q' => some q') (some (true, Tk us (t + 2))) (fun t' => t' = t + 2) (fun mn M L _ c => c = [(48, mn (t + 1), 0)]) := by
  have hA' := hA
  obtain ⟨l1, l2, l3, l4, l5, l6, l7, l8, l9, l10⟩ := hA
  have g1 := G.1
  have g5 := G.2.2.2.2.1
  have ht : t + 2 ≤ nt := by
    rcases Nat.lt_or_ge (t + 1) nt with h | h
    · exact h
    · have : t + 1 = nt := by omega
      rw [this] at hk; have := G.2.2.2.1; omega
  have hpos := ((l10 u0 rfl rfl rfl).2 (t + 1) (by omega) hk).2
  have a1 : f_Reader_takeNumber v 0 2147483647 = some (v 11 (t + 1), Nx v (t + 2)) := by
    unfold f_Reader_takeNumber
    have e2 : (Nx v (t + 2)) 11 = v 11 := by unfold Nx pu; rw [up_ne (by omega)]
    rw [seen_c (kn := fun _ => 48) l1 l2 (by omega) (by rw [l6 _ l3, hk]), ob, if_pos (show nI 48 = (48 : Int32) from rfl), bd, next_c l1, bd, l1, e2, rg (by omega) (by omega), if_neg hpos, if_pos (Int32.le_iff_toInt_le.mpr (by have := Int32.toInt_lt (v 11 (t + 1)); show _ ≤ (2147483647 : Int); omega))]
  have hF : FRe v (Nx v (t + 2)) := FRe.nx
  obtain ⟨v2, b1, b2, b3, b4⟩ := add_any (v := Nx v (t + 2)) 48 (v 11 (t + 1)) 0
  refine ⟨v2, true, Tk us (t + 2), t + 2, by rw [a1, ob]; simp only; rw [b1, ob], rfl, hF.tr b2, FS.tk, Tk_4, by omega, ht, fun q => (by cases q), fun _ => ?_⟩
  rw [b3]
  refine ⟨rfl, by rw [Tk_5]; exact l5, Nx_6, by rw [Nx_7]; exact l2, fun _ => by rw [Nx_7, Nx_8]; exact ⟨rfl, rfl⟩, fun h0 M L s u2 hS => ?_⟩
  have hst : (Nx v (t + 2)) 42 0 = nI s := by unfold Nx pu; rw [up_ne (by omega)]; exact hS.1
  have hs := hS.2.1
  obtain ⟨s5a, s5b, s5c⟩ := hS.2.2.2.2.1
  have hn := ((l10 u2 s5a s5b s5c).2 (t + 1) (by omega) hk).1
  have hp' : ∀ b, b ≤ 50 → ¬ kn t = b → ¬ u2 (k1 + 1) t = nI (kmap b) := fun b hb q => by
    rw [hS.2.2.2.2.2 t (by omega), kq (G.2.1 t (by omega)) hb]; exact q
  obtain ⟨p1, p3, p4, p6, p7, p10⟩ := hp
  have he := err_num (z := z) (sp := sp) (u := u2) (k1 := k1) (t := t) (x := v 11 (t + 1)) (p := u2 (k1 + 1) t) (by omega) (by rw [hS.2.2.2.2.2 _ l3, hk]; rfl) rfl ⟨hp' 1 (by omega) p1, hp' 3 (by omega) p3, hp' 4 (by omega) p4, hp' 6 (by omega) p6, hp' 7 (by omega) p7, hp' 10 (by omega) p10⟩ g5 hn
  refine ⟨0, _, pu u2 (k1 + 4) (t + 1) (v 11 (t + 1)), by rw [show t + 2 - (t + 1) = 1 by omega]; exact fold2_1 he, fun q => absurd rfl q, fun _ => ⟨by rw [Nx_7]; exact h0, ⟨fun p hp => by unfold pu; rw [up_ne hp], fun i hi => by unfold pu; rw [up_eq, upd_ne (by omega)]⟩, [(48, v 11 (t + 1), 0)], (b4 s hst (by omega)).from ⟨?_, ?_, ?_, ?_⟩, by show 1 ≤ _; omega, fun mn hmn => ?_⟩⟩
  · unfold Nx pu; rw [up_ne (by omega)]
  · unfold Nx pu; rw [up_ne (by omega)]
  · unfold Nx pu; rw [up_ne (by omega)]
  · unfold Nx pu; rw [up_ne (by omega)]
  · show [((48 : Int32), v 11 (t + 1), (0 : Int32))] = [(48, mn (t + 1), 0)]
    rw [hmn (t + 1) (by omega)]
    unfold pu; rw [up_eq, upd_eq]
theorem ok_1 {K a b : Int32} {M L : Nat} (h : (K = 6 ∨ K = 24) ∧ (∃ m, m < M ∧ a = nI m) ∨ (K = 21 ∨ K = 22 ∨ K = 23) ∧ (∃ m, m < L ∧ a = nI m)) : okS M L (K, a, b) := by
  rcases h with ⟨h, h'⟩ | ⟨h, h'⟩
  · refine ⟨fun _ => h', fun q => ?_, fun q => ?_, fun q => ?_⟩ <;> simp only at q <;> exfalso
    · rcases h with rfl | rfl <;> revert q <;> decide
    · rcases h with rfl | rfl <;> revert q <;> decide
    · rcases h with rfl | rfl <;> revert q <;> decide
  · refine ⟨fun q => ?_, fun _ => h', fun q => ?_, fun q => ?_⟩ <;> simp only at q <;> exfalso
    · rcases h with rfl | rfl | rfl <;> revert q <;> decide
    · rcases h with rfl | rfl | rfl <;> revert q <;> decide
    · rcases h with rfl | rfl | rfl <;> revert q <;> decide
theorem ok_25 {a b : Int32} {M L : Nat} (h : (∃ m, m < M ∧ a = nI m) ∧ ∃ m, m < M ∧ b = nI m) : okS M L (25, a, b) := ⟨fun q => by simp only at q; exfalso; revert q; decide, fun q => by simp only at q; exfalso; revert q; decide, fun _ => h, fun q => by simp only at q; exfalso; revert q; decide⟩
theorem ok_26 {a b : Int32} {M L : Nat} (h : (∃ m, m < M ∧ a = nI m) ∧ ∃ m, m < L ∧ b = nI m) : okS M L (26, a, b) := ⟨fun q => by simp only at q; exfalso; revert q; decide, fun q => by simp only at q; exfalso; revert q; decide, fun q => by simp only at q; exfalso; revert q; decide, fun _ => h⟩
theorem pl {x c : Nat} (h : x = c) (hc : c ≤ 46 ∧ c ≠ 12 ∧ c ≠ 14 ∧ c ≠ 16 ∧ c ≠ 17 ∧ c ≠ 18) : plain x := by rw [h]; exact hc
theorem vc_m {GV : Nat → List Int32 → Va → Option Va} {K : Int32} {a1 : Int32} (hs : f_Reader_seen v = some K) (hk : K = 6 ∨ K = 24) : f_Reader_value z GV v a1 = (bnd (pu v 12 6 ((v 12 6) + 1)) fun v280 => (f_Reader_takeName z v280 55 6).bind fun q296 => (f_Steps_add q296.2 42 K q296.1 0).bind fun q300 => some q300) := by
  unfold f_Reader_value
  rw [hs, ob]
  rcases hk with rfl | rfl <;> rfl
theorem vc_l {GV : Nat → List Int32 → Va → Option Va} {K : Int32} {a1 : Int32} (hs : f_Reader_seen v = some K) (hk : K = 21 ∨ K = 22 ∨ K = 23) : f_Reader_value z GV v a1 = (bnd (pu v 12 6 ((v 12 6) + 1)) fun v280 => (f_Reader_takeName z v280 58 10).bind fun q296 => (f_Steps_add q296.2 42 K q296.1 0).bind fun q300 => some q300) := by
  unfold f_Reader_value
  rw [hs, ob]
  rcases hk with rfl | rfl | rfl <;> rfl
theorem vc_d {GV : Nat → List Int32 → Va → Option Va} {K : Int32} {a1 : Int32} (hs : f_Reader_seen v = some K) (hk : K = 19 ∨ K = 20) : f_Reader_value z GV v a1 = (bnd (pu v 12 6 ((v 12 6) + 1)) fun v221 => (f_Steps_add v221 42 K 0 0).bind fun q234 => some q234) := by
  unfold f_Reader_value
  rw [hs, ob]
  rcases hk with rfl | rfl <;> rfl
theorem vc_o {GV : Nat → List Int32 → Va → Option Va} {a1 : Int32} (hs : f_Reader_seen v = some 25) : f_Reader_value z GV v a1 = (bnd (pu v 12 6 ((v 12 6) + 1)) fun v313 => (f_Reader_takeName z v313 55 6).bind fun q321 => (f_Reader_takeName z q321.2 55 6).bind fun q339 => (f_Steps_add q339.2 42 25 q321.1 q339.1).bind fun q342 => some q342) := by
  unfold f_Reader_value
  rw [hs, ob]
  rfl
theorem vc_2 {GV : Nat → List Int32 → Va → Option Va} {K : Int32} {a1 : Int32} (hs : f_Reader_seen v = some K) (hk : K = 30 ∨ K = 31) : f_Reader_value z GV v a1 = ((GV 10 [K, a1] v).bind fun q => some q) := by
  unfold f_Reader_value
  rw [hs, ob]
  rcases hk with rfl | rfl <;> rfl
theorem vc_p {GV : Nat → List Int32 → Va → Option Va} {a1 : Int32} (hs : f_Reader_seen v = some 32) : f_Reader_value z GV v a1 = ((GV 9 [a1] v).bind fun q => some q) := by
  unfold f_Reader_value
  rw [hs, ob]
  rfl
theorem vc_n {GV : Nat → List Int32 → Va → Option Va} {a1 : Int32} (hs : f_Reader_seen v = some 39) : f_Reader_value z GV v a1 = ((GV 8 [a1] v).bind fun q => some q) := by
  unfold f_Reader_value
  rw [hs, ob]
  rfl
theorem vc_48 {GV : Nat → List Int32 → Va → Option Va} {a1 : Int32} (hs : f_Reader_seen v = some 48) : f_Reader_value z GV v a1 = ((f_Reader_takeNumber v 0 2147483647).bind fun q204 => (f_Steps_add q204.2 42 48 q204.1 0).bind fun q208 => some q208) := by
  unfold f_Reader_value
  rw [hs, ob]
  rfl
theorem vc_x {GV : Nat → List Int32 → Va → Option Va} {x : Nat} {a1 : Int32} (hs : f_Reader_seen v = some (nI x)) (hx : x ≤ 50) (hk : ¬ x = 6 ∧ ¬ x = 19 ∧ ¬ x = 20 ∧ ¬ x = 21 ∧ ¬ x = 22 ∧ ¬ x = 23 ∧ ¬ x = 24 ∧ ¬ x = 25 ∧ ¬ x = 30 ∧ ¬ x = 31 ∧ ¬ x = 32 ∧ ¬ x = 39 ∧ ¬ x = 48) : f_Reader_value z GV v a1 = f_Reader_fail v := by
  unfold f_Reader_value
  have e : ∀ y : Nat, y ≤ 50 → (¬ x = y) → ¬ nI x = nI y := fun y hy q => by rw [eq_n (by omega) (by omega)]; exact q
  obtain ⟨h1, h2, h3, h4, h5, h6, h7, h8, h9, h10, h11, h12, h13⟩ := hk
  rw [hs, ob, if_neg (show ¬ nI x = 6 from e 6 (by omega) h1), if_neg (show ¬ nI x = 19 from e 19 (by omega) h2), if_neg (show ¬ nI x = 20 from e 20 (by omega) h3), if_neg (show ¬ nI x = 21 from e 21 (by omega) h4), if_neg (show ¬ nI x = 22 from e 22 (by omega) h5), if_neg (show ¬ nI x = 23 from e 23 (by omega) h6), if_neg (show ¬ nI x = 24 from e 24 (by omega) h7), if_neg (show ¬ nI x = 25 from e 25 (by omega) h8), if_neg (show ¬ nI x = 30 from e 30 (by omega) h9), if_neg (show ¬ nI x = 31 from e 31 (by omega) h10), if_neg (show ¬ nI x = 32 from e 32 (by omega) h11), if_neg (show ¬ nI x = 39 from e 39 (by omega) h12), if_neg (show ¬ nI x = 48 from e 48 (by omega) h13)]
  cases f_Reader_fail v <;> rfl
/-- a value at a depth, from values and sums a level down -/
theorem px_V (G : GH kn nt k1 z) (hK : KD kn nt k1 u0) (hd : d ≤ 8) (hV : d < 8 → PX5 7 5 1 false kn nt k1 sp z u0 (d + 1)) (hI : d < 8 → PX5 5 3 3 false kn nt k1 sp z u0 (d + 1)) : PX5 7 5 1 false kn nt k1 sp z u0 d := fun n m t v us hn hm hp hA => by
  obtain ⟨n, rfl⟩ : ∃ y, n = y + 2 := ⟨n - 2, by omega⟩
  obtain ⟨m, rfl⟩ : ∃ y, m = y + 1 := ⟨m - 1, by omega⟩
  have g1 := G.1
  have g6 := G.2.2.2.2.2
  have hA' := hA
  obtain ⟨l1, l2, l3, l4, l5, l6, l7, l8, l9, l10⟩ := hA
  have hkn := G.2.1 (t + 1) l3
  have hsee := seen_c l1 l2 (by omega) (l6 (t + 1) l3)
  have hmap := l7 (t + 1) l3
  have hkd := hK (t + 1) l3
  show Out kn nt k1 sp z u0 v us (t + 1) d (f_Reader_value z (g_Reader z (n + 1)) v (nI d)) (f_Model_isValue z (g_Syn z sp k1 m) us sp k1) _ _
  by_cases h48 : kn (t + 1) = 48
  · rw [h48] at hsee hmap hkd
    rw [vc_48 hsee, vs_num l4 (by omega) hmap]
    refine (Out.num G hA' h48 hp).map (fun t' hD => by omega) (fun mn M L t' c _ _ _ hn' hD hC => ?_)
    subst hD hC
    rw [if_neg (by decide)]
    exact (ev_num (by omega) hkd).mono (by omega)
  have hno : ∀ b, b ≤ 50 → ¬ kn (t + 1) = b → ¬ us (k1 + 1) (t + 1) = nI (kmap b) := fun b hb q => by rw [hmap, kq hkn hb]; exact q
  have hrg : ∀ a b : Nat, a ≤ b → b ≤ 31 → ¬ (a ≤ kn (t + 1) ∧ kn (t + 1) ≤ b) → ¬ (¬ us (k1 + 1) (t + 1) < nI a ∧ ¬ nI b < us (k1 + 1) (t + 1)) := fun a b hab hb q => by
    rw [hmap, kin hkn (Or.inl ⟨hb, rfl, rfl⟩) hab]; exact q
  by_cases hmm : kn (t + 1) = 6 ∨ kn (t + 1) = 24
  · have e : nI (kmap (kn (t + 1))) = nI (kn (t + 1)) := by rcases hmm with q | q <;> rw [q] <;> rfl
    rw [e] at hmap hkd
    have e' : nI (kn (t + 1)) = 6 ∨ nI (kn (t + 1)) = 24 := hmm.elim (fun q => Or.inl (by rw [q]; rfl)) (fun q => Or.inr (by rw [q]; rfl))
    obtain ⟨ht, hAL, hT⟩ := Out.tok G hA' (by rcases hmm with q | q <;> rw [q] <;> exact ⟨by omega, by omega, by omega, by omega, by omega, by omega⟩)
    rw [vc_m hsee e', bd, next_c l1, vs_one l4 (by omega) (by rw [hmap]; exact e'.elim Or.inl (fun q => Or.inr (Or.inr (Or.inr (Or.inr q)))))]
    refine (hT (Out.name1 G hAL (fun hk2 => nm_M1 (t := t + 1) G hAL hk2 (by omega)))).map (fun t' hD => by omega) (fun mn M L t' c hM hL _ hn' hD hC => ?_)
    obtain ⟨rfl, hC⟩ := hC
    subst hD
    rw [if_neg (by decide)]
    exact (ev_one (by omega) hM hL hkd (e'.elim Or.inl (fun q => Or.inr (Or.inr (Or.inr (Or.inr q))))) (ok_1 (Or.inl ⟨e', hC⟩))).mono (by omega)
  by_cases hll : kn (t + 1) = 21 ∨ kn (t + 1) = 22 ∨ kn (t + 1) = 23
  · have e : nI (kmap (kn (t + 1))) = nI (kn (t + 1)) := by rcases hll with q | q | q <;> rw [q] <;> rfl
    rw [e] at hmap hkd
    have e' : nI (kn (t + 1)) = 21 ∨ nI (kn (t + 1)) = 22 ∨ nI (kn (t + 1)) = 23 := by
      rcases hll with q | q | q
      · exact Or.inl (by rw [q]; rfl)
      · exact Or.inr (Or.inl (by rw [q]; rfl))
      · exact Or.inr (Or.inr (by rw [q]; rfl))
    have e5 : nI (kn (t + 1)) = 6 ∨ nI (kn (t + 1)) = 21 ∨ nI (kn (t + 1)) = 22 ∨ nI (kn (t + 1)) = 23 ∨ nI (kn (t + 1)) = 24 := Or.inr (e'.imp id (fun q => q.imp id Or.inl))
    obtain ⟨ht, hAL, hT⟩ := Out.tok G hA' (by rcases hll with q | q | q <;> rw [q] <;> exact ⟨by omega, by omega, by omega, by omega, by omega, by omega⟩)
    rw [vc_l hsee e', bd, next_c l1, vs_one l4 (by omega) (by rw [hmap]; exact e5)]
    refine (hT (Out.name1 G hAL (fun hk2 => nm_L1 (t := t + 1) G hAL hk2 (by omega)))).map (fun t' hD => by omega) (fun mn M L t' c hM hL _ hn' hD hC => ?_)
    obtain ⟨rfl, hC⟩ := hC
    subst hD
    rw [if_neg (by decide)]
    exact (ev_one (by omega) hM hL hkd e5 (ok_1 (Or.inr ⟨e', hC⟩))).mono (by omega)
  by_cases hdd : kn (t + 1) = 19 ∨ kn (t + 1) = 20
  · have e : nI (kmap (kn (t + 1))) = nI (kn (t + 1)) := by rcases hdd with q | q <;> rw [q] <;> rfl
    rw [e] at hmap hkd
    have e' : nI (kn (t + 1)) = 19 ∨ nI (kn (t + 1)) = 20 := hdd.elim (fun q => Or.inl (by rw [q]; rfl)) (fun q => Or.inr (by rw [q]; rfl))
    obtain ⟨ht, hAL, hT⟩ := Out.tok G hA' (by rcases hdd with q | q <;> rw [q] <;> exact ⟨by omega, by omega, by omega, by omega, by omega, by omega⟩)
    rw [vc_d hsee e', bd, next_c l1, vs_day l4 (by omega) (by rw [hmap]; exact e')]
    have o := Out.add (a := nI (kn (t + 1))) (b := 0) (e := 0) G (hT (Out.nil hAL (D := fun t' => t' = t + 2) (C := fun _ _ _ _ c => c = []) rfl (fun _ _ _ => rfl))) (fun mn M L t' c _ _ hD hC => by subst hC; show 0 + 1 ≤ _; omega)
    rw [ob] at o
    refine o.map (fun t' hD => by omega) (fun mn M L t' c hM hL _ hn' hD hC => ?_)
    obtain ⟨c1, rfl, rfl⟩ := hC
    subst hD
    rw [if_neg (by decide)]
    rcases e' with q | q
    · rw [q] at hkd ⊢; exact (ev_day (by omega) hkd).mono (by omega)
    · rw [q] at hkd ⊢; exact (ev_damp (by omega) hkd).mono (by omega)
  by_cases h25 : kn (t + 1) = 25
  · rw [h25] at hsee hmap hkd
    obtain ⟨ht, hAL, hT⟩ := Out.tok G hA' (by rw [h25]; exact ⟨by omega, by omega, by omega, by omega, by omega, by omega⟩)
    rw [vc_o hsee, bd, next_c l1, vs_owes l4 (by omega) hmap]
    refine (hT (Out.name2 G hAL (fun hk2 => nm_M1 (t := t + 1) G hAL hk2 (by omega)) (fun v1 us1 hk2 hk3 hA1 => nm_M2 (t := t + 1) G hA1 hk3 hk2 h25))).map (fun t' hD => by omega) (fun mn M L t' c hM hL _ hn' hD hC => ?_)
    obtain ⟨rfl, hC⟩ := hC
    subst hD
    rw [if_neg (by decide)]
    exact (ev_owes (by omega) hM hkd (ok_25 hC)).mono (by omega)
  by_cases h39 : kn (t + 1) = 39
  · by_cases hd8 : d < 8
    · have hdy : f_Reader_goesDeeper v 39 (nI d) = some (true, Nx v (t + 2)) := by
        have := deeper_y (kn := kn) l1 l2 (by omega) (l6 (t + 1) l3) hd8
        rw [h39] at this; exact this
      rw [h39] at hsee hmap hkd
      have hc : f_Reader_value z (g_Reader z (n + 1)) v (nI d) = ((g_Reader z n 7 [nI (d + 1)] (Nx v (t + 2))).bind fun q14 => (f_Steps_add q14 42 51 0 0).bind fun q28 => some q28) := by
        rw [vc_n hsee, ob_id]
        show f_Reader_turnedValue z (g_Reader z n) v (nI d) = _
        unfold f_Reader_turnedValue
        rw [hdy, ob, q_tt, ni_s]
      rw [hc, vs_neg l4 (by omega) hmap, down_y (a := 47) l4 l5 (by omega) hd8 hmap, sq_t]
      obtain ⟨ht, hAL, hT⟩ := Out.wrap G hA' (by rw [h39]; exact ⟨by omega, by omega, by omega, by omega, by omega, by omega⟩)
      refine (Out.add (a := 51) (b := 0) (e := 0) G (hT (hV hd8 n m (t + 1) _ _ (by omega) (by omega) (by rw [h39]; exact ⟨by omega, by omega, by omega, by omega, by omega, by omega⟩) hAL)) (fun mn M L t' c _ _ hD hC => ?_)).map (fun t' hD => by omega) (fun mn M L t' c hM hL _ hn' hD hC => ?_)
      · rw [if_neg (by decide)] at hC
        have := hC.1.2.2.2.2
        have := hC.1.1
        omega
      · obtain ⟨c1, rfl, hC⟩ := hC
        rw [if_neg (by decide)] at hC ⊢
        exact (ev_neg hkd hC).mono (by omega)
    · have hdn : f_Reader_goesDeeper v 39 (nI d) = some (false, Fl v (t + 1)) := deeper_n (kn := kn) l1 l2 (by omega) (l6 (t + 1) l3) (by omega) (by omega)
      rw [h39] at hsee hmap hkd
      refine Out.bad hA' ?_ ?_
      · rw [vc_n hsee, ob_id]
        show f_Reader_turnedValue z (g_Reader z n) v (nI d) = _
        unfold f_Reader_turnedValue
        rw [hdn, ob, q_ff]
      · rw [vs_neg l4 (by omega) hmap, down_n l4 l5 (by omega) (by omega) (by omega), sq_f]
  by_cases h30 : kn (t + 1) = 30 ∨ kn (t + 1) = 31
  · have e : nI (kmap (kn (t + 1))) = nI (kn (t + 1)) := by rcases h30 with q | q <;> rw [q] <;> rfl
    rw [e] at hmap hkd
    have e' : nI (kn (t + 1)) = 30 ∨ nI (kn (t + 1)) = 31 := h30.elim (fun q => Or.inl (by rw [q]; rfl)) (fun q => Or.inr (by rw [q]; rfl))
    obtain ⟨ht, hAL, hT⟩ := Out.tok G hA' (by rcases h30 with q | q <;> rw [q] <;> exact ⟨by omega, by omega, by omega, by omega, by omega, by omega⟩)
    have hAL' := hAL
    obtain ⟨a1, a2, a3, a4, a5, a6, a7, a8, a9, a10⟩ := hAL
    have hkn2 := G.2.1 (t + 2) a3
    rw [vs_two l4 (by omega) (by rw [hmap]; exact e')]
    have hc : f_Reader_value z (g_Reader z (n + 1)) v (nI d) = (f_Reader_goesDeeper (Nx v (t + 2)) 32 (nI d)).bind fun q14 => if (q_b q14.1) = 0 then (some q14.2) else ((g_Reader z n 5 [(nI d + 1)] q14.2).bind fun q24 => (f_Reader_take q24 37).bind fun q30 => (g_Reader z n 5 [(nI d + 1)] q30).bind fun q37 => (f_Reader_take q37 33).bind fun q43 => (f_Steps_add q43 42 (nI (kn (t + 1))) 0 0).bind fun q56 => some q56) := by
      rw [vc_2 hsee e', ob_id]
      show f_Reader_oneOfTwoSums z (g_Reader z n) v (nI (kn (t + 1))) (nI d) = _
      unfold f_Reader_oneOfTwoSums
      rw [bd, next_c l1]
    rw [hc]
    by_cases hd8 : kn (t + 2) = 32 ∧ d < 8
    · obtain ⟨h32, hd8⟩ := hd8
      have hdy : f_Reader_goesDeeper (Nx v (t + 2)) 32 (nI d) = some (true, Nx (Nx v (t + 2)) (t + 3)) := by
        have := deeper_y (kn := kn) a1 a2 (by omega) (a6 (t + 2) a3) hd8
        rw [h32] at this; exact this
      rw [hdy, ob, q_tt, ni_s, down_y (t := t + 2) a4 a5 (by omega) hd8 (by rw [a7 _ a3, h32]; rfl), sq_t]
      obtain ⟨ht2, hAL2, hT2⟩ := Out.wrap G hAL' (by rw [h32]; exact ⟨by omega, by omega, by omega, by omega, by omega, by omega⟩)
      obtain ⟨n, rfl⟩ : ∃ y, n = y + 3 := ⟨n - 3, by omega⟩
      have pl37 : plain 37 := ⟨by omega, by omega, by omega, by omega, by omega, by omega⟩
      have pl33 : plain 33 := ⟨by omega, by omega, by omega, by omega, by omega, by omega⟩
      have o := Out.seq (A' := fun q24 => (f_Reader_take q24 37).bind fun q30 => (g_Reader z (n + 3) 5 [nI (d + 1)] q30).bind fun q37 => f_Reader_take q37 33) (B' := fun u => sq (f_Model_eat u sp k1 45) fun u => sq (g_Syn z sp k1 m 3 [] u) fun u => f_Model_eat u sp k1 41) (D2 := fun _ => True)
        (C2 := fun t1 mn M L t' c => EvI 3 (4 * (8 - (d + 1)) + 3) (u0 (k1 + 1)) mn M L (t1 + 1) (t' - 1) c ∧ t1 + 2 ≤ t')
        G hAL2 (hI hd8 (n + 3) m (t + 2) _ _ (by omega) (by omega) (by rw [h32]; exact ⟨by omega, by omega, by omega, by omega, by omega, by omega⟩) hAL2) (fun v1 us1 t1 hA1 ht1 hD1 => by
          refine (Out.seq (D2 := fun _ => True) (C2 := fun t1 mn M L t' c => EvI 3 (4 * (8 - (d + 1)) + 3) (u0 (k1 + 1)) mn M L t1 (t' - 1) c ∧ t1 + 1 ≤ t') G hA1 (Out.take G hA1 pl37) (fun v2 us2 t2 hA2 ht2' hD2 => ?_) (Dead.seq (dead_S G.2.2.2.2.2) (Dead.take (by decide)))).map (fun _ _ => trivial) (fun mn M L t' c _ _ _ _ hD hC => ?_)
          · obtain ⟨rfl, hk37⟩ := hD2
            refine (Out.seq (D2 := fun _ => True) (C2 := fun t1 mn M L t' c => c = [] ∧ t' = t1 + 1) G hA2 (hI hd8 (n + 3) m t1 _ _ (by omega) (by omega) (by rw [hk37]; exact ⟨by omega, by omega, by omega, by omega, by omega, by omega⟩) hA2) (fun v3 us3 t3 hA3 ht3 hD3 => ?_) (Dead.take (by decide))).map (fun _ _ => trivial) (fun mn M L t' c _ _ _ _ hD hC => ?_)
            · exact (Out.take G hA3 pl33).map (fun _ _ => trivial) (fun mn M L t' c _ _ _ _ hD hC => ⟨hC, hD.1⟩)
            · obtain ⟨t4, c1, c2, w1, w2, w3, rfl, w4, rfl, rfl⟩ := hC
              rw [if_neg (by decide)] at w4
              rw [List.append_nil]
              exact ⟨w4, by omega⟩
          · obtain ⟨t4, c1, c2, w1, w2, w3, rfl, rfl, w4, w5⟩ := hC
            rw [List.nil_append]
            rw [w3.1] at w4 w5
            exact ⟨w4, by omega⟩) (Dead.seq (Dead.take (by decide)) (Dead.seq (dead_S G.2.2.2.2.2) (Dead.take (by decide))))
      have o2 := Out.add (a := nI (kn (t + 1))) (b := 0) (e := 0) G (hT (hT2 o)) (fun mn M L t' c _ _ hD hC => ?_)
      · simp only [Option.bind_assoc] at o2 ⊢
        refine o2.map (fun t' hD => ?_) (fun mn M L t' c hM hL _ hn' hD hC => ?_)
        · obtain ⟨-, t1, hD, -, h⟩ := hD
          omega
        · obtain ⟨c0, rfl, t1, c1, c2, w1, w2, w3, rfl, w4, w5, w6⟩ := hC
          rw [if_neg (by decide)] at w4 ⊢
          have hto : t' = t' - 1 + 1 := by omega
          rw [hto]
          exact (ev_two (t := t + 1) hkd e' (by omega) w4 w5).mono (by omega)
      · obtain ⟨t1, c1, c2, w1, w2, w3, rfl, w4, w5, w6⟩ := hC
        rw [if_neg (by decide)] at w4
        have q1 := w4.1.2.2.2.2
        have q2 := w5.1.2.2.2.2
        rw [List.length_append]
        omega
    · have hdn : f_Reader_goesDeeper (Nx v (t + 2)) 32 (nI d) = some (false, Fl (Nx v (t + 2)) (t + 2)) := deeper_n (kn := kn) a1 a2 (by omega) (a6 (t + 2) a3) (by omega) (by rw [show (32 : Int32) = nI 32 from rfl, eq_n (by omega) (by omega)]; exact hd8)
      rw [hdn, ob, q_ff, down_n (t := t + 2) a4 a5 (by omega) (by omega) (by rw [a7 _ a3, show (40 : Int32) = nI (kmap 32) from rfl, kq hkn2 (by omega)]; exact hd8), sq_f]
      exact hT (Out.bad hAL' rfl rfl)
  have hnx : ¬ us (k1 + 1) (t + 1) = 47 ∧ ¬ us (k1 + 1) (t + 1) = 36 ∧ ¬ (¬ us (k1 + 1) (t + 1) < 19 ∧ ¬ 20 < us (k1 + 1) (t + 1)) ∧ ¬ (¬ us (k1 + 1) (t + 1) < 21 ∧ ¬ 24 < us (k1 + 1) (t + 1)) ∧ ¬ us (k1 + 1) (t + 1) = 6 ∧ ¬ us (k1 + 1) (t + 1) = 25 := ⟨hno 39 (by omega) h39, hno 48 (by omega) h48, hrg 19 20 (by omega) (by omega) (by omega), hrg 21 24 (by omega) (by omega) (by omega), hno 6 (by omega) (by omega), hno 25 (by omega) h25⟩
  rw [vs_par l4 (by omega) hnx (hrg 30 31 (by omega) (by omega) (by omega))]
  by_cases h32 : kn (t + 1) = 32
  · by_cases hd8 : d < 8
    · have hdy : f_Reader_goesDeeper v 32 (nI d) = some (true, Nx v (t + 2)) := by
        have := deeper_y (kn := kn) l1 l2 (by omega) (l6 (t + 1) l3) hd8
        rw [h32] at this; exact this
      rw [h32] at hsee hmap hkd
      have hc : f_Reader_value z (g_Reader z (n + 1)) v (nI d) = ((g_Reader z n 5 [nI (d + 1)] (Nx v (t + 2))).bind fun q14 => f_Reader_take q14 33) := by
        rw [vc_p hsee, ob_id]
        show f_Reader_sumInBrackets z (g_Reader z n) v (nI d) = _
        unfold f_Reader_sumInBrackets
        rw [hdy, ob, q_tt, ni_s]
        simp only [ob_id]
      rw [hc, down_y (a := 40) l4 l5 (by omega) hd8 hmap, sq_t]
      obtain ⟨ht, hAL, hT⟩ := Out.wrap G hA' (by rw [h32]; exact ⟨by omega, by omega, by omega, by omega, by omega, by omega⟩)
      have pl33 : plain 33 := ⟨by omega, by omega, by omega, by omega, by omega, by omega⟩
      refine (hT (Out.seq (A' := fun q14 => f_Reader_take q14 33) (B' := fun u => f_Model_eat u sp k1 41) (D2 := fun _ => True) (C2 := fun t1 mn M L t' c => c = [] ∧ t' = t1 + 1) G hAL (hI hd8 n m (t + 1) _ _ (by omega) (by omega) (by rw [h32]; exact ⟨by omega, by omega, by omega, by omega, by omega, by omega⟩) hAL) (fun v1 us1 t1 hA1 ht1 hD1 => (Out.take G hA1 pl33).map (fun _ _ => trivial) (fun mn M L t' c _ _ _ _ hD hC => ⟨hC, hD.1⟩)) (Dead.take (by decide)))).map (fun t' hD => ?_) (fun mn M L t' c hM hL _ hn' hD hC => ?_)
      · obtain ⟨-, t1, hD, -, h⟩ := hD
        omega
      · obtain ⟨t1, c1, c2, w1, w2, w3, rfl, w4, rfl, rfl⟩ := hC
        rw [if_neg (by decide)] at w4 ⊢
        rw [List.append_nil]
        exact (ev_par hkd (by omega) w4).mono (by omega)
    · have hdn : f_Reader_goesDeeper v 32 (nI d) = some (false, Fl v (t + 1)) := deeper_n (kn := kn) l1 l2 (by omega) (l6 (t + 1) l3) (by omega) (by omega)
      rw [h32] at hsee hmap hkd
      refine Out.bad hA' ?_ ?_
      · rw [vc_p hsee, ob_id]
        show f_Reader_sumInBrackets z (g_Reader z n) v (nI d) = _
        unfold f_Reader_sumInBrackets
        rw [hdn, ob, q_ff]
      · rw [down_n l4 l5 (by omega) (by omega) (by omega), sq_f]
  · refine Out.bad hA' ?_ ?_
    · rw [vc_x hsee hkn (by omega), fail_c l1 l2]
    · rw [down_n (a := 40) l4 l5 (by omega) (by omega) (fun q => hno 32 (by omega) h32 q.1), sq_f]
/-- a single test -/
theorem sc_o {GV : Nat → List Int32 → Va → Option Va} {a1 : Int32} (hs : f_Reader_seen v = some 26) : f_Reader_single z GV v a1 = (bnd (pu v 12 6 ((v 12 6) + 1)) fun v63 => (f_Reader_takeName z v63 55 6).bind fun q71 => (f_Reader_takeName z q71.2 58 10).bind fun q90 => (f_Steps_add q90.2 42 26 q71.1 q90.1).bind fun q93 => some q93) := by
  unfold f_Reader_single
  rw [hs, ob]
  rfl
theorem sc_n {GV : Nat → List Int32 → Va → Option Va} {a1 : Int32} (hs : f_Reader_seen v = some 27) : f_Reader_single z GV v a1 = GV 3 [a1] v := by
  unfold f_Reader_single
  rw [hs, ob]
  show (GV 3 [a1] v).bind _ = _
  rw [ob_id]
theorem sc_b {GV : Nat → List Int32 → Va → Option Va} {a1 : Int32} (hs : f_Reader_seen v = some 34) : f_Reader_single z GV v a1 = GV 4 [a1] v := by
  unfold f_Reader_single
  rw [hs, ob]
  show (GV 4 [a1] v).bind _ = _
  rw [ob_id]
theorem sc_x {GV : Nat → List Int32 → Va → Option Va} {x : Nat} {a1 : Int32} (hs : f_Reader_seen v = some (nI x)) (hx : x ≤ 50) (hk : ¬ x = 26 ∧ ¬ x = 27 ∧ ¬ x = 34) : f_Reader_single z GV v a1 = ((GV 5 [a1] v).bind fun q101 => (f_Reader_takeComparison q101).bind fun q105 => (GV 5 [a1] q105.2).bind fun q111 => (f_Steps_add q111 42 q105.1 0 0).bind fun q124 => some q124) := by
  unfold f_Reader_single
  have e : ∀ y : Nat, y ≤ 50 → (¬ x = y) → ¬ nI x = nI y := fun y hy q => by rw [eq_n (by omega) (by omega)]; exact q
  obtain ⟨h1, h2, h3⟩ := hk
  rw [hs, ob, if_neg (show ¬ nI x = 26 from e 26 (by omega) h1), if_neg (show ¬ nI x = 27 from e 27 (by omega) h2), if_neg (show ¬ nI x = 34 from e 34 (by omega) h3)]
theorem px_G (G : GH kn nt k1 z) (hK : KD kn nt k1 u0) (hd : d ≤ 8) (hS : PX5 5 3 3 false kn nt k1 sp z u0 d) (hV : d < 8 → PX5 2 2 4 true kn nt k1 sp z u0 (d + 1)) (hI : d < 8 → PX5 0 0 6 true kn nt k1 sp z u0 (d + 1)) : PX5 2 2 4 true kn nt k1 sp z u0 d := fun n m t v us hn hm hp hA => by
  obtain ⟨n, rfl⟩ : ∃ y, n = y + 4 := ⟨n - 4, by omega⟩
  obtain ⟨m, rfl⟩ : ∃ y, m = y + 1 := ⟨m - 1, by omega⟩
  have g1 := G.1
  have g6 := G.2.2.2.2.2
  have hA' := hA
  obtain ⟨l1, l2, l3, l4, l5, l6, l7, l8, l9, l10⟩ := hA
  have hkn := G.2.1 (t + 1) l3
  have hsee := seen_c l1 l2 (by omega) (l6 (t + 1) l3)
  have hmap := l7 (t + 1) l3
  have hkd := hK (t + 1) l3
  show Out kn nt k1 sp z u0 v us (t + 1) d (f_Reader_single z (g_Reader z (n + 3)) v (nI d)) (f_Model_isSingle z (g_Syn z sp k1 m) us sp k1) _ _
  have hno : ∀ b, b ≤ 50 → ¬ kn (t + 1) = b → ¬ us (k1 + 1) (t + 1) = nI (kmap b) := fun b hb q => by rw [hmap, kq hkn hb]; exact q
  have hno' : ∀ b, b ≤ 50 → ¬ kn (t + 1) = b → ¬ u0 (k1 + 1) (t + 1) = nI (kmap b) := fun b hb q => by rw [hkd, kq hkn hb]; exact q
  by_cases h26 : kn (t + 1) = 26
  · rw [h26] at hsee hmap hkd
    obtain ⟨ht, hAL, hT⟩ := Out.tok G hA' (by rw [h26]; exact ⟨by omega, by omega, by omega, by omega, by omega, by omega⟩)
    rw [sc_o hsee, bd, next_c l1, ss_owns l4 (by omega) hmap]
    refine (hT (Out.name2 G hAL (fun hk2 => nm_M1 (t := t + 1) G hAL hk2 (by omega)) (fun v1 us1 hk2 hk3 hA1 => nm_L2 (t := t + 1) G hA1 hk3 hk2 h26))).map (fun t' hD => by omega) (fun mn M L t' c hM hL _ hn' hD hC => ?_)
    obtain ⟨rfl, hC⟩ := hC
    subst hD
    rw [if_pos rfl]
    exact (ev_owns (by omega) hL hM hkd (ok_26 hC)).mono (by omega)
  by_cases h27 : kn (t + 1) = 27
  · by_cases hd8 : d < 8
    · have hdy : f_Reader_goesDeeper v 27 (nI d) = some (true, Nx v (t + 2)) := by
        have := deeper_y (kn := kn) l1 l2 (by omega) (l6 (t + 1) l3) hd8
        rw [h27] at this; exact this
      rw [h27] at hsee hmap hkd
      have hc : f_Reader_single z (g_Reader z (n + 3)) v (nI d) = ((g_Reader z (n + 2) 2 [nI (d + 1)] (Nx v (t + 2))).bind fun q14 => (f_Steps_add q14 42 27 0 0).bind fun q28 => some q28) := by
        rw [sc_n hsee]
        show f_Reader_turnedTest z (g_Reader z (n + 2)) v (nI d) = _
        unfold f_Reader_turnedTest
        rw [hdy, ob, q_tt, ni_s]
      rw [hc, ss_not l4 (by omega) hmap, down_y (a := 27) l4 l5 (by omega) hd8 hmap, sq_t]
      obtain ⟨ht, hAL, hT⟩ := Out.wrap G hA' (by rw [h27]; exact ⟨by omega, by omega, by omega, by omega, by omega, by omega⟩)
      refine (Out.add (a := 27) (b := 0) (e := 0) G (hT (hV hd8 (n + 2) m (t + 1) _ _ (by omega) (by omega) (by rw [h27]; exact ⟨by omega, by omega, by omega, by omega, by omega, by omega⟩) hAL)) (fun mn M L t' c _ _ hD hC => ?_)).map (fun t' hD => by omega) (fun mn M L t' c hM hL _ hn' hD hC => ?_)
      · rw [if_pos rfl] at hC
        have := hC.1.2.2.2.2
        have := hC.1.1
        omega
      · obtain ⟨c1, rfl, hC⟩ := hC
        rw [if_pos rfl] at hC ⊢
        exact (ev_not hkd hC).mono (by omega)
    · have hdn : f_Reader_goesDeeper v 27 (nI d) = some (false, Fl v (t + 1)) := deeper_n (kn := kn) l1 l2 (by omega) (l6 (t + 1) l3) (by omega) (by omega)
      rw [h27] at hsee hmap hkd
      refine Out.bad hA' ?_ ?_
      · rw [sc_n hsee]
        show f_Reader_turnedTest z (g_Reader z (n + 2)) v (nI d) = _
        unfold f_Reader_turnedTest
        rw [hdn, ob, q_ff]
      · rw [ss_not l4 (by omega) hmap, down_n l4 l5 (by omega) (by omega) (by omega), sq_f]
  by_cases h34 : kn (t + 1) = 34
  · by_cases hd8 : d < 8
    · have hdy : f_Reader_goesDeeper v 34 (nI d) = some (true, Nx v (t + 2)) := by
        have := deeper_y (kn := kn) l1 l2 (by omega) (l6 (t + 1) l3) hd8
        rw [h34] at this; exact this
      rw [h34] at hsee hmap hkd
      have hc : f_Reader_single z (g_Reader z (n + 3)) v (nI d) = ((g_Reader z (n + 2) 0 [nI (d + 1)] (Nx v (t + 2))).bind fun q14 => f_Reader_take q14 35) := by
        rw [sc_b hsee]
        show f_Reader_testInBrackets z (g_Reader z (n + 2)) v (nI d) = _
        unfold f_Reader_testInBrackets
        rw [hdy, ob, q_tt, ni_s]
        simp only [ob_id]
      rw [hc, ss_bra l4 (by omega) hmap, down_y (a := 42) l4 l5 (by omega) hd8 hmap, sq_t]
      obtain ⟨ht, hAL, hT⟩ := Out.wrap G hA' (by rw [h34]; exact ⟨by omega, by omega, by omega, by omega, by omega, by omega⟩)
      have pl35 : plain 35 := ⟨by omega, by omega, by omega, by omega, by omega, by omega⟩
      refine (hT (Out.seq (A' := fun q14 => f_Reader_take q14 35) (B' := fun u => f_Model_eat u sp k1 43) (D2 := fun _ => True) (C2 := fun t1 mn M L t' c => c = [] ∧ t' = t1 + 1) G hAL (hI hd8 (n + 2) m (t + 1) _ _ (by omega) (by omega) (by rw [h34]; exact ⟨by omega, by omega, by omega, by omega, by omega, by omega⟩) hAL) (fun v1 us1 t1 hA1 ht1 hD1 => (Out.take G hA1 pl35).map (fun _ _ => trivial) (fun mn M L t' c _ _ _ _ hD hC => ⟨hC, hD.1⟩)) (Dead.take (by decide)))).map (fun t' hD => ?_) (fun mn M L t' c hM hL _ hn' hD hC => ?_)
      · obtain ⟨-, t1, hD, -, h⟩ := hD
        omega
      · obtain ⟨t1, c1, c2, w1, w2, w3, rfl, w4, rfl, rfl⟩ := hC
        rw [if_pos rfl] at w4 ⊢
        rw [List.append_nil]
        exact (ev_bracket hkd (by omega) w4).mono (by omega)
    · have hdn : f_Reader_goesDeeper v 34 (nI d) = some (false, Fl v (t + 1)) := deeper_n (kn := kn) l1 l2 (by omega) (l6 (t + 1) l3) (by omega) (by omega)
      rw [h34] at hsee hmap hkd
      refine Out.bad hA' ?_ ?_
      · rw [sc_b hsee]
        show f_Reader_testInBrackets z (g_Reader z (n + 2)) v (nI d) = _
        unfold f_Reader_testInBrackets
        rw [hdn, ob, q_ff]
      · rw [ss_bra l4 (by omega) hmap, down_n l4 l5 (by omega) (by omega) (by omega), sq_f]
  rw [sc_x hsee hkn ⟨h26, h27, h34⟩, ss_cmp l4 (by omega) ⟨hno 27 (by omega) h27, hno 34 (by omega) h34, hno 26 (by omega) h26⟩]
  refine (Out.seq (A' := fun q101 => (f_Reader_takeComparison q101).bind fun q105 => (g_Reader z (n + 3) 5 [nI d] q105.2).bind fun q111 => (f_Steps_add q111 42 q105.1 0 0).bind fun q124 => some q124) (B' := fun u => sq (f_Model_eatIn u sp k1 50 54) fun u => g_Syn z sp k1 m 3 [] u) (D2 := fun _ => True)
    (C2 := fun t1 mn M L t' c => ∃ c1, c = c1 ++ [(nI (kn t1), 0, 0)] ∧ EvI 3 (4 * (8 - d) + 3) (u0 (k1 + 1)) mn M L (t1 + 1) t' c1 ∧ 42 ≤ kn t1 ∧ kn t1 ≤ 46) G hA' (hS (n + 3) m t _ _ (by omega) (by omega) hp hA') (fun v1 us1 t1 hA1 ht1 hD1 => ?_) (dead_cmp g6)).map (fun t' hD => ?_) (fun mn M L t' c hM hL _ hn' hD hC => ?_)
  · have hA1' := hA1
    obtain ⟨a1, a2, a3, a4, a5, a6, a7, a8, a9, a10⟩ := hA1
    have hkn1 := G.2.1 t1 a3
    by_cases hc : 42 ≤ kn t1 ∧ kn t1 ≤ 46
    · obtain ⟨ht, hAL, hT⟩ := Out.tok G hA1' ⟨by omega, by omega, by omega, by omega, by omega, by omega⟩
      have hx : f_Reader_takeComparison v1 = some (nI (kn t1), Nx v1 (t1 + 1)) := by
        unfold f_Reader_takeComparison
        rw [seen_c a1 a2 (by omega) (a6 t1 a3), ob, compares_e, ob, isC_n hkn1, decide_eq_true hc, if_neg (show ¬ q_b true = 0 by decide), bd, next_c a1]
      rw [hx, ob, eatIn_y a4 (by omega) (by rw [a7 t1 a3]; exact (kin (a := 50) (b := 54) (a' := 42) (b' := 46) hkn1 (by omega) (by omega)).mpr hc), sq_t]
      refine (Out.add (a := nI (kn t1)) (b := 0) (e := 0) G (hT (hS (n + 3) m t1 _ _ (by omega) (by omega) ⟨by omega, by omega, by omega, by omega, by omega, by omega⟩ hAL)) (fun mn M L t' c _ _ hD hC => ?_)).map (fun _ _ => trivial) (fun mn M L t' c hM hL _ hn' hD hC => ?_)
      · rw [if_neg (by decide)] at hC
        have := hC.1.2.2.2.2
        have := hC.1.1
        omega
      · obtain ⟨c1, rfl, hC⟩ := hC
        rw [if_neg (by decide)] at hC
        exact ⟨c1, rfl, hC, hc.1, hc.2⟩
    · have hx : f_Reader_takeComparison v1 = some (nI (kn t1), Fl v1 t1) := by
        unfold f_Reader_takeComparison
        rw [seen_c a1 a2 (by omega) (a6 t1 a3), ob, compares_e, ob, isC_n hkn1, decide_eq_false hc, if_pos (show q_b false = 0 by decide), fail_c a1 a2, ob]
      obtain ⟨v2, b1, b2, b3⟩ := (dead_S (n := n) (d := d) g6) (Fl v1 t1) Fl_7
      obtain ⟨v3, c1, c2, c3, -⟩ := add_any (v := v2) (nI (kn t1)) 0 0
      have b1' : g_Reader z (n + 3) 5 [nI d] (Fl v1 t1) = some v2 := b1
      have c12 : v3 12 = (Fl v1 t1) 12 := c3.trans b2
      rw [hx, ob, eatIn_n a4 (by omega) (by rw [a7 t1 a3]; exact fun q => hc ((kin (a := 50) (b := 54) (a' := 42) (b' := 46) hkn1 (by omega) (by omega)).mp q)), sq_f]
      refine Out.bad2 hA1' ((FRe.fl.tr b3).tr c2) (by rw [c12]; exact Fl_7) (by rw [c12]; exact Fl_8) ?_ rfl
      simp only
      rw [b1', ob, c1, ob]
  · obtain ⟨-, t1, hD, -, h⟩ := hD
    omega
  · obtain ⟨t1, c1, c2, w1, w2, w3, rfl, w4, c3, rfl, w5, w6, w7⟩ := hC
    rw [if_neg (by decide)] at w4
    rw [if_pos rfl, ← List.append_assoc]
    have ht1n : t1 ≤ nt := by omega
    refine (ev_cmp (t := t + 1) (ko := nI (kn t1)) ⟨hno' 27 (by omega) h27, hno' 34 (by omega) h34, hno' 26 (by omega) h26⟩ (hK t1 ht1n) ?_ w4 w5).mono (by omega)
    have hc5 : kn t1 = 42 ∨ kn t1 = 43 ∨ kn t1 = 44 ∨ kn t1 = 45 ∨ kn t1 = 46 := by omega
    rcases hc5 with q | q | q | q | q
    · exact Or.inl (by rw [q]; exact ⟨rfl, rfl⟩)
    · exact Or.inr (Or.inl (by rw [q]; exact ⟨rfl, rfl⟩))
    · exact Or.inr (Or.inr (Or.inl (by rw [q]; exact ⟨rfl, rfl⟩)))
    · exact Or.inr (Or.inr (Or.inr (Or.inl (by rw [q]; exact ⟨rfl, rfl⟩))))
    · exact Or.inr (Or.inr (Or.inr (Or.inr (by rw [q]; exact ⟨rfl, rfl⟩))))
/-- sums, single tests and tests at every depth -/
theorem px_all (G : GH kn nt k1 z) (hK : KD kn nt k1 u0) : ∀ r d, d ≤ 8 → 8 - d = r → PX5 7 5 1 false kn nt k1 sp z u0 d ∧ PX5 5 3 3 false kn nt k1 sp z u0 d ∧ PX5 2 2 4 true kn nt k1 sp z u0 d ∧ PX5 0 0 6 true kn nt k1 sp z u0 d
  | 0, d, hd, hr => by
    have h8 : ¬ d < 8 := by omega
    have hv := px_V (sp := sp) (u0 := u0) G hK hd (fun q => absurd q h8) (fun q => absurd q h8)
    have hs := px_S G hK hd (px_P G hK hd hv)
    have hg := px_G G hK hd hs (fun q => absurd q h8) (fun q => absurd q h8)
    exact ⟨hv, hs, hg, px_T G hK hd (px_B G hK hd hg)⟩
  | r + 1, d, hd, hr => by
    obtain ⟨iv, is, ig, it⟩ := px_all G hK r (d + 1) (by omega) (by omega)
    have hv := px_V (sp := sp) (u0 := u0) G hK hd (fun _ => iv) (fun _ => is)
    have hs := px_S G hK hd (px_P G hK hd hv)
    have hg := px_G G hK hd hs (fun _ => ig) (fun _ => it)
    exact ⟨hv, hs, hg, px_T G hK hd (px_B G hK hd hg)⟩
end
