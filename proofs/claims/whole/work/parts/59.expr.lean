/-! SUMS AND TESTS, READ ON BOTH SIDES -/
section
variable {kn : Nat → Nat} {nt k1 sp z : Nat} {u0 v v1 us us1 : Va} {t d n m : Nat}
theorem ob_id {α : Type} {X : Option α} : (X.bind fun q => some q) = X := by cases X <;> rfl
/-- not a token behind which a number is asked -/
def pn (x : Nat) : Prop := ¬ x = 1 ∧ ¬ x = 3 ∧ ¬ x = 4 ∧ ¬ x = 6 ∧ ¬ x = 7 ∧ ¬ x = 10
theorem kin {x a b a' b' : Nat} (hx : x ≤ 50) (h : (b ≤ 31 ∧ a = a' ∧ b = b') ∨ (40 ≤ a ∧ b ≤ 54 ∧ a = a' + 8 ∧ b = b' + 8)) (hab : a ≤ b) : (¬ nI (kmap x) < nI a ∧ ¬ nI b < nI (kmap x)) ↔ (a' ≤ x ∧ x ≤ b') := by
  have h1 : kmap x ≤ 71 := by unfold kmap; split <;> (try split) <;> (try split) <;> (try split) <;> (try split) <;> omega
  rw [lt_n (by omega) (by omega), lt_n (by omega) (by omega)]
  unfold kmap
  split
  · omega
  · split
    · omega
    · split
      · omega
      · split
        · omega
        · split <;> omega
theorem isC_n {x : Nat} (hx : x ≤ 50) : isC (nI x) = decide (42 ≤ x ∧ x ≤ 46) := by
  have key : ∀ x : Fin 51, isC (nI x.val) = decide (42 ≤ x.val ∧ x.val ≤ 46) := by decide +kernel
  exact key ⟨x, by omega⟩
theorem Out.bad2 {A : Option Va} {B : Option (Bool × Va)} {D : Nat → Prop} {C : (Nat → Int32) → Nat → Nat → Nat → List Ste → Prop} (hA : AL kn nt k1 sp z u0 v us t d) (hF : FRe v v1) (h7 : v1 12 7 = 1) (h8 : v1 12 8 = nI t) (a : A = some v1) (b : B = some (false, us)) : Out kn nt k1 sp z u0 v us t d A B D C :=
  ⟨v1, false, us, t, a, b, hF, FS.refl', hA.2.2.2.1, Nat.le_refl _, hA.2.2.1, fun _ => ⟨h7, h8⟩, fun q => by cases q⟩
theorem EvI.mono {ix a b : Nat} {Kd Mn : Nat → Int32} {M L t t' : Nat} {c : List Ste} (h : EvI ix a Kd Mn M L t t' c) (hab : a ≤ b) : EvI ix b Kd Mn M L t t' c := ⟨h.1, fun z sp sn d u hz hd hE => h.2 z sp sn d u hz (by omega) hE⟩
theorem EvB.mono {ix a b : Nat} {Kd Mn : Nat → Int32} {M L t t' : Nat} {c : List Ste} (h : EvB ix a Kd Mn M L t t' c) (hab : a ≤ b) : EvB ix b Kd Mn M L t t' c := ⟨h.1, fun z sp sn d u hz hd hE => h.2 z sp sn d u hz (by omega) hE⟩
/-! a call that has failed already comes to its end -/
theorem dead_V : Dead (fun v => g_Reader z (n + 1) 7 [nI d] v) := fun v h => ⟨v, by
  show f_Reader_value z (g_Reader z n) v (nI d) = _
  unfold f_Reader_value
  rw [seen_d h, ob]
  show ((f_Reader_fail v).bind fun q374 => some q374) = _
  rw [fail_d h, ob], rfl, fun _ _ _ _ _ _ => rfl⟩
theorem dead_PL {k i : Int32} {GV : Nat → List Int32 → Va → Option Va} {fu : Nat} (hk : k = 50) : rp (b_Reader_product_12 GV (nI d)) (fu + 1) (k, i, v) = some v := by
  show b_Reader_product_12 GV (nI d) (rp (b_Reader_product_12 GV (nI d)) fu) (k, i, v) = _
  unfold b_Reader_product_12
  subst hk
  by_cases h : (400 : Int32) ≤ i
  · rw [if_pos h]
  · rw [if_neg h]
    rfl
theorem dead_P (hz : 4000 < z) : Dead (fun v => g_Reader z (n + 2) 6 [nI d] v) := fun v h => by
  obtain ⟨v1, a1, a2, a3⟩ := dead_V (z := z) (n := n) (d := d) v h
  obtain ⟨z', rfl⟩ : ∃ y, z = y + 1 := ⟨z - 1, by omega⟩
  refine ⟨v1, ?_, a2, a3⟩
  show f_Reader_product (z' + 1) (g_Reader (z' + 1) (n + 1)) v (nI d) = _
  unfold f_Reader_product
  have a1' : g_Reader (z' + 1) (n + 1) 7 [nI d] v = some v1 := a1
  rw [a1', ob, seen_d (by rw [a2]; exact h), ob]
  exact dead_PL rfl
theorem dead_SL {k i : Int32} {GV : Nat → List Int32 → Va → Option Va} {fu : Nat} (hk : k = 50) : rp (b_Reader_sum_12 GV (nI d)) (fu + 1) (k, i, v) = some v := by
  show b_Reader_sum_12 GV (nI d) (rp (b_Reader_sum_12 GV (nI d)) fu) (k, i, v) = _
  unfold b_Reader_sum_12
  subst hk
  by_cases h : (400 : Int32) ≤ i
  · rw [if_pos h]
  · rw [if_neg h]
    rfl
theorem dead_S (hz : 4000 < z) : Dead (fun v => g_Reader z (n + 3) 5 [nI d] v) := fun v h => by
  obtain ⟨v1, a1, a2, a3⟩ := dead_P (z := z) (n := n) (d := d) hz v h
  obtain ⟨z', rfl⟩ : ∃ y, z = y + 1 := ⟨z - 1, by omega⟩
  refine ⟨v1, ?_, a2, a3⟩
  show f_Reader_sum (z' + 1) (g_Reader (z' + 1) (n + 2)) v (nI d) = _
  unfold f_Reader_sum
  have a1' : g_Reader (z' + 1) (n + 2) 6 [nI d] v = some v1 := a1
  rw [a1', ob, seen_d (by rw [a2]; exact h), ob]
  exact dead_SL rfl
theorem cmp_d (h : v 12 7 = 1) : f_Reader_takeComparison v = some (50, v) := by
  unfold f_Reader_takeComparison
  rw [seen_d h, ob, compares_e, ob, show isC 50 = false from rfl, if_pos (show q_b false = 0 by decide), fail_d h, ob]
theorem dead_cmp (hz : 4000 < z) : Dead (fun v => (f_Reader_takeComparison v).bind fun q105 => (g_Reader z (n + 3) 5 [nI d] q105.2).bind fun q111 => (f_Steps_add q111 42 q105.1 0 0).bind fun q124 => some q124) := fun v h => by
  obtain ⟨v1, a1, a2, a3⟩ := dead_S (n := n) (d := d) hz v h
  obtain ⟨v2, b1, b2, b3⟩ := Dead.add (a := 50) (b := 0) (e := 0) v1 (by rw [a2]; exact h)
  have a1' : g_Reader z (n + 3) 5 [nI d] v = some v1 := a1
  refine ⟨v2, ?_, b2.trans a2, a3.tr b3⟩
  show (f_Reader_takeComparison v).bind _ = _
  rw [cmp_d h, ob]
  show (g_Reader z (n + 3) 5 [nI d] v).bind _ = _
  rw [a1', ob]
  exact b1
theorem dead_G (hz : 4000 < z) : Dead (fun v => g_Reader z (n + 4) 2 [nI d] v) := fun v h => by
  obtain ⟨v1, a1, a2, a3⟩ := (Dead.seq (dead_S (n := n) (d := d) hz) (dead_cmp (n := n) (d := d) hz)) v h
  refine ⟨v1, ?_, a2, a3⟩
  show f_Reader_single z (g_Reader z (n + 3)) v (nI d) = _
  unfold f_Reader_single
  rw [seen_d h, ob]
  exact a1
theorem dead_BL {i : Int32} {GV : Nat → List Int32 → Va → Option Va} {fu : Nat} (h : v 12 7 = 1) : rp (b_Reader_both_7 GV (nI d)) (fu + 1) (i, v) = some v := by
  show b_Reader_both_7 GV (nI d) (rp (b_Reader_both_7 GV (nI d)) fu) (i, v) = _
  unfold b_Reader_both_7
  by_cases h4 : (400 : Int32) ≤ i
  · rw [if_pos h4]
  · rw [if_neg h4, seen_d h, ob]
    rfl
theorem dead_B (hz : 4000 < z) : Dead (fun v => g_Reader z (n + 5) 1 [nI d] v) := fun v h => by
  obtain ⟨v1, a1, a2, a3⟩ := dead_G (n := n) (d := d) hz v h
  obtain ⟨z', rfl⟩ : ∃ y, z = y + 1 := ⟨z - 1, by omega⟩
  refine ⟨v1, ?_, a2, a3⟩
  show f_Reader_both (z' + 1) (g_Reader (z' + 1) (n + 4)) v (nI d) = _
  unfold f_Reader_both
  have a1' : g_Reader (z' + 1) (n + 4) 2 [nI d] v = some v1 := a1
  rw [a1', ob]
  exact dead_BL (by rw [a2]; exact h)
theorem dead_TL {i : Int32} {GV : Nat → List Int32 → Va → Option Va} {fu : Nat} (h : v 12 7 = 1) : rp (b_Reader_test_7 GV (nI d)) (fu + 1) (i, v) = some v := by
  show b_Reader_test_7 GV (nI d) (rp (b_Reader_test_7 GV (nI d)) fu) (i, v) = _
  unfold b_Reader_test_7
  by_cases h4 : (400 : Int32) ≤ i
  · rw [if_pos h4]
  · rw [if_neg h4, seen_d h, ob]
    rfl
theorem dead_T (hz : 4000 < z) : Dead (fun v => g_Reader z (n + 6) 0 [nI d] v) := fun v h => by
  obtain ⟨v1, a1, a2, a3⟩ := dead_B (n := n) (d := d) hz v h
  obtain ⟨z', rfl⟩ : ∃ y, z = y + 1 := ⟨z - 1, by omega⟩
  refine ⟨v1, ?_, a2, a3⟩
  show f_Reader_test (z' + 1) (g_Reader (z' + 1) (n + 5)) v (nI d) = _
  unfold f_Reader_test
  have a1' : g_Reader (z' + 1) (n + 5) 1 [nI d] v = some v1 := a1
  rw [a1', ob]
  exact dead_TL (by rw [a2]; exact h)
/-- what is to be shown of a kind of sum or test, at a depth -/
def PX5 (ic im ex : Nat) (tst : Bool) (kn : Nat → Nat) (nt k1 sp z : Nat) (u0 : Va) (d : Nat) : Prop := ∀ (n m t : Nat) (v us : Va), 5 * (8 - d) + ex + 1 ≤ n → 4 * (8 - d) + ex ≤ m → pn (kn t) → AL kn nt k1 sp z u0 v us (t + 1) d →
  Out kn nt k1 sp z u0 v us (t + 1) d (g_Reader z n ic [nI d] v) (g_Syn z sp k1 m im [] us) (fun t' => t + 1 < t') (fun mn M L t' c => if tst = true then EvB im (4 * (8 - d) + ex) (u0 (k1 + 1)) mn M L (t + 1) t' c else EvI im (4 * (8 - d) + ex) (u0 (k1 + 1)) mn M L (t + 1) t' c)
def KD (kn : Nat → Nat) (nt k1 : Nat) (u0 : Va) : Prop := ∀ i, i ≤ nt → u0 (k1 + 1) i = nI (kmap (kn i))
theorem lo_P (G : GH kn nt k1 z) (hK : KD kn nt k1 u0) (hI : PX5 7 5 1 false kn nt k1 sp z u0 d) : ∀ (r n m t fu fv i : Nat) (v us : Va), nt - t ≤ r → 5 * (8 - d) + 1 + 1 ≤ n → 4 * (8 - d) + 1 ≤ m → i + (nt - t) ≤ 400 → nt - t < fu → nt - t < fv → AL kn nt k1 sp z u0 v us t d →
    Out kn nt k1 sp z u0 v us t d (rp (b_Reader_product_12 (g_Reader z n) (nI d)) fu (nI (kn t), nI i, v)) ((f_Model_eatIn us sp k1 48 49).bind fun q16 => if (q_b q16.1) = 0 then some (true, q16.2) else rp (b_Model_isProduct_0 (g_Syn z sp k1 m) sp k1) fv q16.2) (fun _ => True) (fun mn M L t' c => LoP (4 * (8 - d) + 1) (u0 (k1 + 1)) mn M L t t' c)
  | r, n, m, t, 0, _, _, _, _, _, _, _, _, h, _, _ => by omega
  | r, n, m, t, fu + 1, 0, _, _, _, _, _, _, _, _, h, _ => by omega
  | r, n, m, t, fu + 1, fv + 1, i, v, us, hr, hn, hm, hi, hfu, hfv, hA => by
    have hA' := hA
    obtain ⟨l1, l2, l3, l4, l5, l6, l7, l8, l9, l10⟩ := hA
    have g1 := G.1
    have hkn := G.2.1 t l3
    by_cases hop : kn t = 40 ∨ kn t = 41
    · have htn : t < nt := by
        rcases Nat.lt_or_ge t nt with h | h
        · exact h
        · have : t = nt := by omega
          subst this; have := G.2.2.2.1; omega
      obtain ⟨r, rfl⟩ : ∃ y, r = y + 1 := ⟨r - 1, by omega⟩
      have hpl : plain (kn t) := by rcases hop with q | q <;> rw [q] <;> exact ⟨by omega, by omega, by omega, by omega, by omega, by omega⟩
      obtain ⟨ht, hAL, hT⟩ := Out.tok G hA' hpl
      have hin := (kin (a := 48) (b := 49) (a' := 40) (b' := 41) hkn (by omega) (by omega)).mpr (by omega)
      rw [eatIn_y l4 (by omega) (by rw [l7 t l3]; exact hin), ob, q_tt]
      have hcls : rp (b_Reader_product_12 (g_Reader z n) (nI d)) (fu + 1) (nI (kn t), nI i, v) = ((g_Reader z n 7 [nI d] (Nx v (t + 1))).bind fun q => (f_Steps_add q 42 (nI (kn t)) 0 0).bind fun q' => some q').bind fun q56 => (f_Reader_seen q56).bind fun q60 => rp (b_Reader_product_12 (g_Reader z n) (nI d)) fu (q60, nI (i + 1), q56) := by
        show b_Reader_product_12 (g_Reader z n) (nI d) (rp (b_Reader_product_12 (g_Reader z n) (nI d)) fu) (nI (kn t), nI i, v) = _
        generalize rp (b_Reader_product_12 (g_Reader z n) (nI d)) fu = K
        unfold b_Reader_product_12 j_Reader_product_31
        simp only
        have e4 : ¬ (400 : Int32) ≤ nI i := by rw [show (400 : Int32) = nI 400 from rfl, le_n (by omega) (by omega)]; omega
        have hb : (if nI (kn t) = 40 then (bnd (pu v 12 6 (v 12 6 + 1)) fun v38 => (g_Reader z n 7 [nI d] v38).bind fun q43 => (f_Steps_add q43 42 (nI (kn t)) 0 0).bind fun q56 => (f_Reader_seen q56).bind fun q60 => K (q60, nI i + 1, q56)) else if nI (kn t) = 41 then (bnd (pu v 12 6 (v 12 6 + 1)) fun v38 => (g_Reader z n 7 [nI d] v38).bind fun q43 => (f_Steps_add q43 42 (nI (kn t)) 0 0).bind fun q56 => (f_Reader_seen q56).bind fun q60 => K (q60, nI i + 1, q56)) else some v) = (bnd (pu v 12 6 (v 12 6 + 1)) fun v38 => (g_Reader z n 7 [nI d] v38).bind fun q43 => (f_Steps_add q43 42 (nI (kn t)) 0 0).bind fun q56 => (f_Reader_seen q56).bind fun q60 => K (q60, nI i + 1, q56)) := by
          rcases hop with q | q
          · rw [q]; rfl
          · rw [q]; rfl
        rw [if_neg e4, hb, bd, next_c l1, ni_s]
        cases g_Reader z n 7 [nI d] (Nx v (t + 1)) with
        | none => rfl
        | some q =>
          rw [ob, ob]
          cases f_Steps_add q 42 (nI (kn t)) 0 0 with
          | none => rfl
          | some q => rfl
      rw [hcls]
      have o1 := hT (hI n m t (Nx v (t + 1)) (Tk us (t + 1)) hn hm (by rcases hop with q | q <;> rw [q] <;> exact ⟨by omega, by omega, by omega, by omega, by omega, by omega⟩) hAL)
      have o2 := Out.add (a := nI (kn t)) (b := 0) (e := 0) G o1 (fun mn M L t' c _ _ hD hC => by
        rw [if_neg (by decide)] at hC
        have := hC.1.2.2.2.2
        have := hC.1.1
        omega)
      have hsy : rp (b_Model_isProduct_0 (g_Syn z sp k1 m) sp k1) (fv + 1) (Tk us (t + 1)) = sq (g_Syn z sp k1 m 5 [] (Tk us (t + 1))) fun u => (f_Model_eatIn u sp k1 48 49).bind fun q16 => if (q_b q16.1) = 0 then some (true, q16.2) else rp (b_Model_isProduct_0 (g_Syn z sp k1 m) sp k1) fv q16.2 := rfl
      rw [hsy]
      refine (Out.seq G hA' o2 (fun v1 us1 t1 hA1 ht1 hD1 => ?_) ?_ (D2 := fun _ => True) (C2 := fun t1 mn M L t' c => LoP (4 * (8 - d) + 1) (u0 (k1 + 1)) mn M L t1 t' c)).map (fun _ _ => trivial) (fun mn M L t' c _ _ _ _ _ hC => ?_)
      · rw [seen_c hA1.1 hA1.2.1 (by have := hA1.2.2.1; omega) (hA1.2.2.2.2.2.1 t1 hA1.2.2.1), ob]
        have := hA1.2.2.1
        exact lo_P G hK hI r n m t1 fu fv (i + 1) v1 us1 (by omega) hn hm (by omega) (by omega) (by omega) hA1
      · intro w hw
        obtain ⟨fu, rfl⟩ : ∃ y, fu = y + 1 := ⟨fu - 1, by omega⟩
        exact ⟨w, by show (f_Reader_seen w).bind _ = _; rw [seen_d hw, ob]; exact dead_PL rfl, rfl, fun _ _ _ _ _ _ => rfl⟩
      · obtain ⟨t1, c1, c2, w1, w2, w3, rfl, ⟨c0, rfl, w4⟩, w5⟩ := hC
        rw [if_neg (by decide)] at w4
        have hkd := hK t l3
        rcases hop with q | q
        · exact lop_cons (kd := 48) (ko := nI (kn t)) (by rw [hkd, q]; rfl) (Or.inl ⟨rfl, by rw [q]; rfl⟩) w4 w5
        · exact lop_cons (kd := 49) (ko := nI (kn t)) (by rw [hkd, q]; rfl) (Or.inr ⟨rfl, by rw [q]; rfl⟩) w4 w5
    · have hin : ¬ (¬ us (k1 + 1) t < 48 ∧ ¬ 49 < us (k1 + 1) t) := fun q => by
        rw [l7 t l3] at q
        have := (kin (a := 48) (b := 49) (a' := 40) (b' := 41) hkn (by omega) (by omega)).mp q
        omega
      rw [eatIn_n l4 (by omega) hin, ob, q_ff]
      have hcls : rp (b_Reader_product_12 (g_Reader z n) (nI d)) (fu + 1) (nI (kn t), nI i, v) = some v := by
        show b_Reader_product_12 (g_Reader z n) (nI d) (rp (b_Reader_product_12 (g_Reader z n) (nI d)) fu) (nI (kn t), nI i, v) = _
        unfold b_Reader_product_12
        simp only
        by_cases h4 : (400 : Int32) ≤ nI i
        · rw [if_pos h4]
        · rw [if_neg h4, if_neg (by rw [show (40 : Int32) = nI 40 from rfl, eq_n (by omega) (by omega)]; omega), if_neg (by rw [show (41 : Int32) = nI 41 from rfl, eq_n (by omega) (by omega)]; omega)]
      rw [hcls]
      exact Out.nil hA' trivial (fun mn M L => lop_nil (by omega) (by
        rw [hK t l3, show (48 : Int32) = nI (kmap 40) from rfl, show (49 : Int32) = nI (kmap 41) from rfl, kq hkn (by omega), kq hkn (by omega)]
        exact hop))
theorem px_P (G : GH kn nt k1 z) (hK : KD kn nt k1 u0) (hd : d ≤ 8) (hI : PX5 7 5 1 false kn nt k1 sp z u0 d) : PX5 6 4 2 false kn nt k1 sp z u0 d := fun n m t v us hn hm hp hA => by
  obtain ⟨n, rfl⟩ : ∃ y, n = y + 1 := ⟨n - 1, by omega⟩
  obtain ⟨m, rfl⟩ : ∃ y, m = y + 1 := ⟨m - 1, by omega⟩
  have g6 := G.2.2.2.2.2
  have g1 := G.1
  have o1 := hI n m t v us (by omega) (by omega) hp hA
  have hc : g_Reader z (n + 1) 6 [nI d] v = (g_Reader z n 7 [nI d] v).bind fun q2 => (f_Reader_seen q2).bind fun q6 => rp (b_Reader_product_12 (g_Reader z n) (nI d)) z (q6, nI 0, q2) := rfl
  obtain ⟨zz, hz⟩ : ∃ y, z = y + 1 := ⟨z - 1, by omega⟩
  have hs : g_Syn z sp k1 (m + 1) 4 [] us = sq (g_Syn z sp k1 m 5 [] us) fun u => (f_Model_eatIn u sp k1 48 49).bind fun q16 => if (q_b q16.1) = 0 then some (true, q16.2) else rp (b_Model_isProduct_0 (g_Syn z sp k1 m) sp k1) zz q16.2 := by
    show rp (b_Model_isProduct_0 (g_Syn z sp k1 m) sp k1) z us = _
    rw [show rp (b_Model_isProduct_0 (g_Syn z sp k1 m) sp k1) z us = rp (b_Model_isProduct_0 (g_Syn z sp k1 m) sp k1) (zz + 1) us by rw [← hz]]
    rfl
  rw [hc, hs]
  refine (Out.seq G hA o1 (fun v1 us1 t1 hA1 ht1 hD1 => ?_) ?_ (D2 := fun _ => True) (C2 := fun t1 mn M L t' c => LoP (4 * (8 - d) + 1) (u0 (k1 + 1)) mn M L t1 t' c)).map (fun t' hD => by obtain ⟨_, t1, h1, _, h2⟩ := hD; omega) (fun mn M L t' c _ _ _ _ _ hC => ?_)
  · rw [seen_c hA1.1 hA1.2.1 (by have := hA1.2.2.1; omega) (hA1.2.2.2.2.2.1 t1 hA1.2.2.1), ob]
    have := hA1.2.2.1
    exact lo_P G hK hI (nt - t1) n m t1 z zz 0 v1 us1 (Nat.le_refl _) (by omega) (by omega) (by omega) (by omega) (by omega) hA1
  · intro w hw
    exact ⟨w, by show (f_Reader_seen w).bind _ = _; rw [seen_d hw, ob, hz]; exact dead_PL rfl, rfl, fun _ _ _ _ _ _ => rfl⟩
  · obtain ⟨t1, c1, c2, w1, w2, w3, rfl, w4, w5⟩ := hC
    rw [if_neg (by decide)] at w4 ⊢
    exact ev_product w4 w5
theorem lo_S (G : GH kn nt k1 z) (hK : KD kn nt k1 u0) (hI : PX5 6 4 2 false kn nt k1 sp z u0 d) : ∀ (r n m t fu fv i : Nat) (v us : Va), nt - t ≤ r → 5 * (8 - d) + 2 + 1 ≤ n → 4 * (8 - d) + 2 ≤ m → i + (nt - t) ≤ 400 → nt - t < fu → nt - t < fv → AL kn nt k1 sp z u0 v us t d →
    Out kn nt k1 sp z u0 v us t d (rp (b_Reader_sum_12 (g_Reader z n) (nI d)) fu (nI (kn t), nI i, v)) ((f_Model_eatIn us sp k1 46 47).bind fun q16 => if (q_b q16.1) = 0 then some (true, q16.2) else rp (b_Model_isSum_0 (g_Syn z sp k1 m) sp k1) fv q16.2) (fun _ => True) (fun mn M L t' c => LoS (4 * (8 - d) + 2) (u0 (k1 + 1)) mn M L t t' c)
  | r, n, m, t, 0, _, _, _, _, _, _, _, _, h, _, _ => by omega
  | r, n, m, t, fu + 1, 0, _, _, _, _, _, _, _, _, h, _ => by omega
  | r, n, m, t, fu + 1, fv + 1, i, v, us, hr, hn, hm, hi, hfu, hfv, hA => by
    have hA' := hA
    obtain ⟨l1, l2, l3, l4, l5, l6, l7, l8, l9, l10⟩ := hA
    have g1 := G.1
    have hkn := G.2.1 t l3
    by_cases hop : kn t = 38 ∨ kn t = 39
    · have htn : t < nt := by
        rcases Nat.lt_or_ge t nt with h | h
        · exact h
        · have : t = nt := by omega
          subst this; have := G.2.2.2.1; omega
      obtain ⟨r, rfl⟩ : ∃ y, r = y + 1 := ⟨r - 1, by omega⟩
      have hpl : plain (kn t) := by rcases hop with q | q <;> rw [q] <;> exact ⟨by omega, by omega, by omega, by omega, by omega, by omega⟩
      obtain ⟨ht, hAL, hT⟩ := Out.tok G hA' hpl
      have hin := (kin (a := 46) (b := 47) (a' := 38) (b' := 39) hkn (by omega) (by omega)).mpr (by omega)
      rw [eatIn_y l4 (by omega) (by rw [l7 t l3]; exact hin), ob, q_tt]
      have hcls : rp (b_Reader_sum_12 (g_Reader z n) (nI d)) (fu + 1) (nI (kn t), nI i, v) = ((g_Reader z n 6 [nI d] (Nx v (t + 1))).bind fun q => (f_Steps_add q 42 (nI (kn t)) 0 0).bind fun q' => some q').bind fun q56 => (f_Reader_seen q56).bind fun q60 => rp (b_Reader_sum_12 (g_Reader z n) (nI d)) fu (q60, nI (i + 1), q56) := by
        show b_Reader_sum_12 (g_Reader z n) (nI d) (rp (b_Reader_sum_12 (g_Reader z n) (nI d)) fu) (nI (kn t), nI i, v) = _
        generalize rp (b_Reader_sum_12 (g_Reader z n) (nI d)) fu = K
        unfold b_Reader_sum_12 j_Reader_sum_31
        simp only
        have e4 : ¬ (400 : Int32) ≤ nI i := by rw [show (400 : Int32) = nI 400 from rfl, le_n (by omega) (by omega)]; omega
        have hb : (if nI (kn t) = 38 then (bnd (pu v 12 6 (v 12 6 + 1)) fun v38 => (g_Reader z n 6 [nI d] v38).bind fun q43 => (f_Steps_add q43 42 (nI (kn t)) 0 0).bind fun q56 => (f_Reader_seen q56).bind fun q60 => K (q60, nI i + 1, q56)) else if nI (kn t) = 39 then (bnd (pu v 12 6 (v 12 6 + 1)) fun v38 => (g_Reader z n 6 [nI d] v38).bind fun q43 => (f_Steps_add q43 42 (nI (kn t)) 0 0).bind fun q56 => (f_Reader_seen q56).bind fun q60 => K (q60, nI i + 1, q56)) else some v) = (bnd (pu v 12 6 (v 12 6 + 1)) fun v38 => (g_Reader z n 6 [nI d] v38).bind fun q43 => (f_Steps_add q43 42 (nI (kn t)) 0 0).bind fun q56 => (f_Reader_seen q56).bind fun q60 => K (q60, nI i + 1, q56)) := by
          rcases hop with q | q
          · rw [q]; rfl
          · rw [q]; rfl
        rw [if_neg e4, hb, bd, next_c l1, ni_s]
        cases g_Reader z n 6 [nI d] (Nx v (t + 1)) with
        | none => rfl
        | some q =>
          rw [ob, ob]
          cases f_Steps_add q 42 (nI (kn t)) 0 0 with
          | none => rfl
          | some q => rfl
      rw [hcls]
      have o1 := hT (hI n m t (Nx v (t + 1)) (Tk us (t + 1)) hn hm (by rcases hop with q | q <;> rw [q] <;> exact ⟨by omega, by omega, by omega, by omega, by omega, by omega⟩) hAL)
      have o2 := Out.add (a := nI (kn t)) (b := 0) (e := 0) G o1 (fun mn M L t' c _ _ hD hC => by
        rw [if_neg (by decide)] at hC
        have := hC.1.2.2.2.2
        have := hC.1.1
        omega)
      have hsy : rp (b_Model_isSum_0 (g_Syn z sp k1 m) sp k1) (fv + 1) (Tk us (t + 1)) = sq (g_Syn z sp k1 m 4 [] (Tk us (t + 1))) fun u => (f_Model_eatIn u sp k1 46 47).bind fun q16 => if (q_b q16.1) = 0 then some (true, q16.2) else rp (b_Model_isSum_0 (g_Syn z sp k1 m) sp k1) fv q16.2 := rfl
      rw [hsy]
      refine (Out.seq G hA' o2 (fun v1 us1 t1 hA1 ht1 hD1 => ?_) ?_ (D2 := fun _ => True) (C2 := fun t1 mn M L t' c => LoS (4 * (8 - d) + 2) (u0 (k1 + 1)) mn M L t1 t' c)).map (fun _ _ => trivial) (fun mn M L t' c _ _ _ _ _ hC => ?_)
      · rw [seen_c hA1.1 hA1.2.1 (by have := hA1.2.2.1; omega) (hA1.2.2.2.2.2.1 t1 hA1.2.2.1), ob]
        have := hA1.2.2.1
        exact lo_S G hK hI r n m t1 fu fv (i + 1) v1 us1 (by omega) hn hm (by omega) (by omega) (by omega) hA1
      · intro w hw
        obtain ⟨fu, rfl⟩ : ∃ y, fu = y + 1 := ⟨fu - 1, by omega⟩
        exact ⟨w, by show (f_Reader_seen w).bind _ = _; rw [seen_d hw, ob]; exact dead_SL rfl, rfl, fun _ _ _ _ _ _ => rfl⟩
      · obtain ⟨t1, c1, c2, w1, w2, w3, rfl, ⟨c0, rfl, w4⟩, w5⟩ := hC
        rw [if_neg (by decide)] at w4
        have hkd := hK t l3
        rcases hop with q | q
        · exact los_cons (kd := 46) (ko := nI (kn t)) (by rw [hkd, q]; rfl) (Or.inl ⟨rfl, by rw [q]; rfl⟩) w4 w5
        · exact los_cons (kd := 47) (ko := nI (kn t)) (by rw [hkd, q]; rfl) (Or.inr ⟨rfl, by rw [q]; rfl⟩) w4 w5
    · have hin : ¬ (¬ us (k1 + 1) t < 46 ∧ ¬ 47 < us (k1 + 1) t) := fun q => by
        rw [l7 t l3] at q
        have := (kin (a := 46) (b := 47) (a' := 38) (b' := 39) hkn (by omega) (by omega)).mp q
        omega
      rw [eatIn_n l4 (by omega) hin, ob, q_ff]
      have hcls : rp (b_Reader_sum_12 (g_Reader z n) (nI d)) (fu + 1) (nI (kn t), nI i, v) = some v := by
        show b_Reader_sum_12 (g_Reader z n) (nI d) (rp (b_Reader_sum_12 (g_Reader z n) (nI d)) fu) (nI (kn t), nI i, v) = _
        unfold b_Reader_sum_12
        simp only
        by_cases h4 : (400 : Int32) ≤ nI i
        · rw [if_pos h4]
        · rw [if_neg h4, if_neg (by rw [show (38 : Int32) = nI 38 from rfl, eq_n (by omega) (by omega)]; omega), if_neg (by rw [show (39 : Int32) = nI 39 from rfl, eq_n (by omega) (by omega)]; omega)]
      rw [hcls]
      exact Out.nil hA' trivial (fun mn M L => los_nil (by omega) (by
        rw [hK t l3, show (46 : Int32) = nI (kmap 38) from rfl, show (47 : Int32) = nI (kmap 39) from rfl, kq hkn (by omega), kq hkn (by omega)]
        exact hop))
theorem px_S (G : GH kn nt k1 z) (hK : KD kn nt k1 u0) (hd : d ≤ 8) (hI : PX5 6 4 2 false kn nt k1 sp z u0 d) : PX5 5 3 3 false kn nt k1 sp z u0 d := fun n m t v us hn hm hp hA => by
  obtain ⟨n, rfl⟩ : ∃ y, n = y + 1 := ⟨n - 1, by omega⟩
  obtain ⟨m, rfl⟩ : ∃ y, m = y + 1 := ⟨m - 1, by omega⟩
  have g6 := G.2.2.2.2.2
  have g1 := G.1
  have o1 := hI n m t v us (by omega) (by omega) hp hA
  have hc : g_Reader z (n + 1) 5 [nI d] v = (g_Reader z n 6 [nI d] v).bind fun q2 => (f_Reader_seen q2).bind fun q6 => rp (b_Reader_sum_12 (g_Reader z n) (nI d)) z (q6, nI 0, q2) := rfl
  obtain ⟨zz, hz⟩ : ∃ y, z = y + 1 := ⟨z - 1, by omega⟩
  have hs : g_Syn z sp k1 (m + 1) 3 [] us = sq (g_Syn z sp k1 m 4 [] us) fun u => (f_Model_eatIn u sp k1 46 47).bind fun q16 => if (q_b q16.1) = 0 then some (true, q16.2) else rp (b_Model_isSum_0 (g_Syn z sp k1 m) sp k1) zz q16.2 := by
    show rp (b_Model_isSum_0 (g_Syn z sp k1 m) sp k1) z us = _
    rw [show rp (b_Model_isSum_0 (g_Syn z sp k1 m) sp k1) z us = rp (b_Model_isSum_0 (g_Syn z sp k1 m) sp k1) (zz + 1) us by rw [← hz]]
    rfl
  rw [hc, hs]
  refine (Out.seq G hA o1 (fun v1 us1 t1 hA1 ht1 hD1 => ?_) ?_ (D2 := fun _ => True) (C2 := fun t1 mn M L t' c => LoS (4 * (8 - d) + 2) (u0 (k1 + 1)) mn M L t1 t' c)).map (fun t' hD => by obtain ⟨_, t1, h1, _, h2⟩ := hD; omega) (fun mn M L t' c _ _ _ _ _ hC => ?_)
  · rw [seen_c hA1.1 hA1.2.1 (by have := hA1.2.2.1; omega) (hA1.2.2.2.2.2.1 t1 hA1.2.2.1), ob]
    have := hA1.2.2.1
    exact lo_S G hK hI (nt - t1) n m t1 z zz 0 v1 us1 (Nat.le_refl _) (by omega) (by omega) (by omega) (by omega) (by omega) hA1
  · intro w hw
    exact ⟨w, by show (f_Reader_seen w).bind _ = _; rw [seen_d hw, ob, hz]; exact dead_SL rfl, rfl, fun _ _ _ _ _ _ => rfl⟩
  · obtain ⟨t1, c1, c2, w1, w2, w3, rfl, w4, w5⟩ := hC
    rw [if_neg (by decide)] at w4 ⊢
    exact ev_sum w4 w5
theorem lo_B (G : GH kn nt k1 z) (hK : KD kn nt k1 u0) (hI : PX5 2 2 4 true kn nt k1 sp z u0 d) : ∀ (r n m t fu fv i : Nat) (v us : Va), nt - t ≤ r → 5 * (8 - d) + 4 + 1 ≤ n → 4 * (8 - d) + 4 ≤ m → i + (nt - t) ≤ 400 → nt - t < fu → nt - t < fv → AL kn nt k1 sp z u0 v us t d →
    Out kn nt k1 sp z u0 v us t d (rp (b_Reader_both_7 (g_Reader z n) (nI d)) fu (nI i, v)) ((f_Model_eat us sp k1 28).bind fun q16 => if (q_b q16.1) = 0 then some (true, q16.2) else rp (b_Model_isBoth_0 (g_Syn z sp k1 m) sp k1) fv q16.2) (fun _ => True) (fun mn M L t' c => LoB (4 * (8 - d) + 4) (u0 (k1 + 1)) mn M L t t' c)
  | r, n, m, t, 0, _, _, _, _, _, _, _, _, h, _, _ => by omega
  | r, n, m, t, fu + 1, 0, _, _, _, _, _, _, _, _, h, _ => by omega
  | r, n, m, t, fu + 1, fv + 1, i, v, us, hr, hn, hm, hi, hfu, hfv, hA => by
    have hA' := hA
    obtain ⟨l1, l2, l3, l4, l5, l6, l7, l8, l9, l10⟩ := hA
    have g1 := G.1
    have hkn := G.2.1 t l3
    by_cases hop : kn t = 28
    · have htn : t < nt := by
        rcases Nat.lt_or_ge t nt with h | h
        · exact h
        · have : t = nt := by omega
          subst this; have := G.2.2.2.1; omega
      obtain ⟨r, rfl⟩ : ∃ y, r = y + 1 := ⟨r - 1, by omega⟩
      obtain ⟨ht, hAL, hT⟩ := Out.tok G hA' (by rw [hop]; exact ⟨by omega, by omega, by omega, by omega, by omega, by omega⟩)
      rw [eat_y (a := 28) l4 (by omega) (by rw [l7 t l3, hop]; rfl), ob, q_tt]
      have hcls : rp (b_Reader_both_7 (g_Reader z n) (nI d)) (fu + 1) (nI i, v) = ((g_Reader z n 2 [nI d] (Nx v (t + 1))).bind fun q => (f_Steps_add q 42 28 0 0).bind fun q' => some q').bind fun q56 => rp (b_Reader_both_7 (g_Reader z n) (nI d)) fu (nI (i + 1), q56) := by
        show b_Reader_both_7 (g_Reader z n) (nI d) (rp (b_Reader_both_7 (g_Reader z n) (nI d)) fu) (nI i, v) = _
        generalize rp (b_Reader_both_7 (g_Reader z n) (nI d)) fu = K
        unfold b_Reader_both_7
        simp only
        have e4 : ¬ (400 : Int32) ≤ nI i := by rw [show (400 : Int32) = nI 400 from rfl, le_n (by omega) (by omega)]; omega
        rw [if_neg e4, seen_c l1 l2 (by omega) (l6 t l3), ob, hop, if_pos (show nI 28 = (28 : Int32) from rfl), bd, next_c l1, ni_s]
        cases g_Reader z n 2 [nI d] (Nx v (t + 1)) with
        | none => rfl
        | some q =>
          rw [ob, ob]
          cases f_Steps_add q 42 28 0 0 with
          | none => rfl
          | some q => rfl
      rw [hcls]
      have o1 := hT (hI n m t (Nx v (t + 1)) (Tk us (t + 1)) hn hm (by rw [hop]; exact ⟨by omega, by omega, by omega, by omega, by omega, by omega⟩) hAL)
      have o2 := Out.add (a := 28) (b := 0) (e := 0) G o1 (fun mn M L t' c _ _ hD hC => by
        rw [if_pos rfl] at hC
        have := hC.1.2.2.2.2
        have := hC.1.1
        omega)
      have hsy : rp (b_Model_isBoth_0 (g_Syn z sp k1 m) sp k1) (fv + 1) (Tk us (t + 1)) = sq (g_Syn z sp k1 m 2 [] (Tk us (t + 1))) fun u => (f_Model_eat u sp k1 28).bind fun q16 => if (q_b q16.1) = 0 then some (true, q16.2) else rp (b_Model_isBoth_0 (g_Syn z sp k1 m) sp k1) fv q16.2 := rfl
      rw [hsy]
      refine (Out.seq G hA' o2 (fun v1 us1 t1 hA1 ht1 hD1 => ?_) ?_ (D2 := fun _ => True) (C2 := fun t1 mn M L t' c => LoB (4 * (8 - d) + 4) (u0 (k1 + 1)) mn M L t1 t' c)).map (fun _ _ => trivial) (fun mn M L t' c _ _ _ _ _ hC => ?_)
      · have := hA1.2.2.1
        exact lo_B G hK hI r n m t1 fu fv (i + 1) v1 us1 (by omega) hn hm (by omega) (by omega) (by omega) hA1
      · intro w hw
        obtain ⟨fu, rfl⟩ : ∃ y, fu = y + 1 := ⟨fu - 1, by omega⟩
        exact ⟨w, dead_BL hw, rfl, fun _ _ _ _ _ _ => rfl⟩
      · obtain ⟨t1, c1, c2, w1, w2, w3, rfl, ⟨c0, rfl, w4⟩, w5⟩ := hC
        rw [if_pos rfl] at w4
        exact lob_cons (by rw [hK t l3, hop]; rfl) w4 w5
    · have hin : ¬ us (k1 + 1) t = 28 := fun q => by
        rw [l7 t l3, show (28 : Int32) = nI (kmap 28) from rfl, kq hkn (by omega)] at q
        exact hop q
      rw [eat_n l4 (by omega) hin, ob, q_ff]
      have hcls : rp (b_Reader_both_7 (g_Reader z n) (nI d)) (fu + 1) (nI i, v) = some v := by
        show b_Reader_both_7 (g_Reader z n) (nI d) (rp (b_Reader_both_7 (g_Reader z n) (nI d)) fu) (nI i, v) = _
        unfold b_Reader_both_7
        simp only
        by_cases h4 : (400 : Int32) ≤ nI i
        · rw [if_pos h4]
        · rw [if_neg h4, seen_c l1 l2 (by omega) (l6 t l3), ob, if_neg (by rw [show (28 : Int32) = nI 28 from rfl, eq_n (by omega) (by omega)]; exact hop)]
      rw [hcls]
      exact Out.nil hA' trivial (fun mn M L => lob_nil (by omega) (by
        rw [hK t l3, show (28 : Int32) = nI (kmap 28) from rfl, kq hkn (by omega)]
        exact hop))
theorem px_B (G : GH kn nt k1 z) (hK : KD kn nt k1 u0) (hd : d ≤ 8) (hI : PX5 2 2 4 true kn nt k1 sp z u0 d) : PX5 1 1 5 true kn nt k1 sp z u0 d := fun n m t v us hn hm hp hA => by
  obtain ⟨n, rfl⟩ : ∃ y, n = y + 1 := ⟨n - 1, by omega⟩
  obtain ⟨m, rfl⟩ : ∃ y, m = y + 1 := ⟨m - 1, by omega⟩
  have g6 := G.2.2.2.2.2
  have g1 := G.1
  have o1 := hI n m t v us (by omega) (by omega) hp hA
  have hc : g_Reader z (n + 1) 1 [nI d] v = (g_Reader z n 2 [nI d] v).bind fun q2 => rp (b_Reader_both_7 (g_Reader z n) (nI d)) z (nI 0, q2) := rfl
  obtain ⟨zz, hz⟩ : ∃ y, z = y + 1 := ⟨z - 1, by omega⟩
  have hs : g_Syn z sp k1 (m + 1) 1 [] us = sq (g_Syn z sp k1 m 2 [] us) fun u => (f_Model_eat u sp k1 28).bind fun q16 => if (q_b q16.1) = 0 then some (true, q16.2) else rp (b_Model_isBoth_0 (g_Syn z sp k1 m) sp k1) zz q16.2 := by
    show rp (b_Model_isBoth_0 (g_Syn z sp k1 m) sp k1) z us = _
    rw [show rp (b_Model_isBoth_0 (g_Syn z sp k1 m) sp k1) z us = rp (b_Model_isBoth_0 (g_Syn z sp k1 m) sp k1) (zz + 1) us by rw [← hz]]
    rfl
  rw [hc, hs]
  refine (Out.seq G hA o1 (fun v1 us1 t1 hA1 ht1 hD1 => ?_) ?_ (D2 := fun _ => True) (C2 := fun t1 mn M L t' c => LoB (4 * (8 - d) + 4) (u0 (k1 + 1)) mn M L t1 t' c)).map (fun t' hD => by obtain ⟨_, t1, h1, _, h2⟩ := hD; omega) (fun mn M L t' c _ _ _ _ _ hC => ?_)
  · have := hA1.2.2.1
    exact lo_B G hK hI (nt - t1) n m t1 z zz 0 v1 us1 (Nat.le_refl _) (by omega) (by omega) (by omega) (by omega) (by omega) hA1
  · intro w hw
    exact ⟨w, by show rp _ z (nI 0, w) = _; rw [hz]; exact dead_BL hw, rfl, fun _ _ _ _ _ _ => rfl⟩
  · obtain ⟨t1, c1, c2, w1, w2, w3, rfl, w4, w5⟩ := hC
    rw [if_pos rfl] at w4 ⊢
    exact ev_both w4 w5
theorem lo_T (G : GH kn nt k1 z) (hK : KD kn nt k1 u0) (hI : PX5 1 1 5 true kn nt k1 sp z u0 d) : ∀ (r n m t fu fv i : Nat) (v us : Va), nt - t ≤ r → 5 * (8 - d) + 5 + 1 ≤ n → 4 * (8 - d) + 5 ≤ m → i + (nt - t) ≤ 400 → nt - t < fu → nt - t < fv → AL kn nt k1 sp z u0 v us t d →
    Out kn nt k1 sp z u0 v us t d (rp (b_Reader_test_7 (g_Reader z n) (nI d)) fu (nI i, v)) ((f_Model_eat us sp k1 29).bind fun q16 => if (q_b q16.1) = 0 then some (true, q16.2) else rp (b_Model_isTest_0 (g_Syn z sp k1 m) sp k1) fv q16.2) (fun _ => True) (fun mn M L t' c => LoT (4 * (8 - d) + 5) (u0 (k1 + 1)) mn M L t t' c)
  | r, n, m, t, 0, _, _, _, _, _, _, _, _, h, _, _ => by omega
  | r, n, m, t, fu + 1, 0, _, _, _, _, _, _, _, _, h, _ => by omega
  | r, n, m, t, fu + 1, fv + 1, i, v, us, hr, hn, hm, hi, hfu, hfv, hA => by
    have hA' := hA
    obtain ⟨l1, l2, l3, l4, l5, l6, l7, l8, l9, l10⟩ := hA
    have g1 := G.1
    have hkn := G.2.1 t l3
    by_cases hop : kn t = 29
    · have htn : t < nt := by
        rcases Nat.lt_or_ge t nt with h | h
        · exact h
        · have : t = nt := by omega
          subst this; have := G.2.2.2.1; omega
      obtain ⟨r, rfl⟩ : ∃ y, r = y + 1 := ⟨r - 1, by omega⟩
      obtain ⟨ht, hAL, hT⟩ := Out.tok G hA' (by rw [hop]; exact ⟨by omega, by omega, by omega, by omega, by omega, by omega⟩)
      rw [eat_y (a := 29) l4 (by omega) (by rw [l7 t l3, hop]; rfl), ob, q_tt]
      have hcls : rp (b_Reader_test_7 (g_Reader z n) (nI d)) (fu + 1) (nI i, v) = ((g_Reader z n 1 [nI d] (Nx v (t + 1))).bind fun q => (f_Steps_add q 42 29 0 0).bind fun q' => some q').bind fun q56 => rp (b_Reader_test_7 (g_Reader z n) (nI d)) fu (nI (i + 1), q56) := by
        show b_Reader_test_7 (g_Reader z n) (nI d) (rp (b_Reader_test_7 (g_Reader z n) (nI d)) fu) (nI i, v) = _
        generalize rp (b_Reader_test_7 (g_Reader z n) (nI d)) fu = K
        unfold b_Reader_test_7
        simp only
        have e4 : ¬ (400 : Int32) ≤ nI i := by rw [show (400 : Int32) = nI 400 from rfl, le_n (by omega) (by omega)]; omega
        rw [if_neg e4, seen_c l1 l2 (by omega) (l6 t l3), ob, hop, if_pos (show nI 29 = (29 : Int32) from rfl), bd, next_c l1, ni_s]
        cases g_Reader z n 1 [nI d] (Nx v (t + 1)) with
        | none => rfl
        | some q =>
          rw [ob, ob]
          cases f_Steps_add q 42 29 0 0 with
          | none => rfl
          | some q => rfl
      rw [hcls]
      have o1 := hT (hI n m t (Nx v (t + 1)) (Tk us (t + 1)) hn hm (by rw [hop]; exact ⟨by omega, by omega, by omega, by omega, by omega, by omega⟩) hAL)
      have o2 := Out.add (a := 29) (b := 0) (e := 0) G o1 (fun mn M L t' c _ _ hD hC => by
        rw [if_pos rfl] at hC
        have := hC.1.2.2.2.2
        have := hC.1.1
        omega)
      have hsy : rp (b_Model_isTest_0 (g_Syn z sp k1 m) sp k1) (fv + 1) (Tk us (t + 1)) = sq (g_Syn z sp k1 m 1 [] (Tk us (t + 1))) fun u => (f_Model_eat u sp k1 29).bind fun q16 => if (q_b q16.1) = 0 then some (true, q16.2) else rp (b_Model_isTest_0 (g_Syn z sp k1 m) sp k1) fv q16.2 := rfl
      rw [hsy]
      refine (Out.seq G hA' o2 (fun v1 us1 t1 hA1 ht1 hD1 => ?_) ?_ (D2 := fun _ => True) (C2 := fun t1 mn M L t' c => LoT (4 * (8 - d) + 5) (u0 (k1 + 1)) mn M L t1 t' c)).map (fun _ _ => trivial) (fun mn M L t' c _ _ _ _ _ hC => ?_)
      · have := hA1.2.2.1
        exact lo_T G hK hI r n m t1 fu fv (i + 1) v1 us1 (by omega) hn hm (by omega) (by omega) (by omega) hA1
      · intro w hw
        obtain ⟨fu, rfl⟩ : ∃ y, fu = y + 1 := ⟨fu - 1, by omega⟩
        exact ⟨w, dead_TL hw, rfl, fun _ _ _ _ _ _ => rfl⟩
      · obtain ⟨t1, c1, c2, w1, w2, w3, rfl, ⟨c0, rfl, w4⟩, w5⟩ := hC
        rw [if_pos rfl] at w4
        exact lot_cons (by rw [hK t l3, hop]; rfl) w4 w5
    · have hin : ¬ us (k1 + 1) t = 29 := fun q => by
        rw [l7 t l3, show (29 : Int32) = nI (kmap 29) from rfl, kq hkn (by omega)] at q
        exact hop q
      rw [eat_n l4 (by omega) hin, ob, q_ff]
      have hcls : rp (b_Reader_test_7 (g_Reader z n) (nI d)) (fu + 1) (nI i, v) = some v := by
        show b_Reader_test_7 (g_Reader z n) (nI d) (rp (b_Reader_test_7 (g_Reader z n) (nI d)) fu) (nI i, v) = _
        unfold b_Reader_test_7
        simp only
        by_cases h4 : (400 : Int32) ≤ nI i
        · rw [if_pos h4]
        · rw [if_neg h4, seen_c l1 l2 (by omega) (l6 t l3), ob, if_neg (by rw [show (29 : Int32) = nI 29 from rfl, eq_n (by omega) (by omega)]; exact hop)]
      rw [hcls]
      exact Out.nil hA' trivial (fun mn M L => lot_nil (by omega) (by
        rw [hK t l3, show (29 : Int32) = nI (kmap 29) from rfl, kq hkn (by omega)]
        exact hop))
theorem px_T (G : GH kn nt k1 z) (hK : KD kn nt k1 u0) (hd : d ≤ 8) (hI : PX5 1 1 5 true kn nt k1 sp z u0 d) : PX5 0 0 6 true kn nt k1 sp z u0 d := fun n m t v us hn hm hp hA => by
  obtain ⟨n, rfl⟩ : ∃ y, n = y + 1 := ⟨n - 1, by omega⟩
  obtain ⟨m, rfl⟩ : ∃ y, m = y + 1 := ⟨m - 1, by omega⟩
  have g6 := G.2.2.2.2.2
  have g1 := G.1
  have o1 := hI n m t v us (by omega) (by omega) hp hA
  have hc : g_Reader z (n + 1) 0 [nI d] v = (g_Reader z n 1 [nI d] v).bind fun q2 => rp (b_Reader_test_7 (g_Reader z n) (nI d)) z (nI 0, q2) := rfl
  obtain ⟨zz, hz⟩ : ∃ y, z = y + 1 := ⟨z - 1, by omega⟩
  have hs : g_Syn z sp k1 (m + 1) 0 [] us = sq (g_Syn z sp k1 m 1 [] us) fun u => (f_Model_eat u sp k1 29).bind fun q16 => if (q_b q16.1) = 0 then some (true, q16.2) else rp (b_Model_isTest_0 (g_Syn z sp k1 m) sp k1) zz q16.2 := by
    show rp (b_Model_isTest_0 (g_Syn z sp k1 m) sp k1) z us = _
    rw [show rp (b_Model_isTest_0 (g_Syn z sp k1 m) sp k1) z us = rp (b_Model_isTest_0 (g_Syn z sp k1 m) sp k1) (zz + 1) us by rw [← hz]]
    rfl
  rw [hc, hs]
  refine (Out.seq G hA o1 (fun v1 us1 t1 hA1 ht1 hD1 => ?_) ?_ (D2 := fun _ => True) (C2 := fun t1 mn M L t' c => LoT (4 * (8 - d) + 5) (u0 (k1 + 1)) mn M L t1 t' c)).map (fun t' hD => by obtain ⟨_, t1, h1, _, h2⟩ := hD; omega) (fun mn M L t' c _ _ _ _ _ hC => ?_)
  · have := hA1.2.2.1
    exact lo_T G hK hI (nt - t1) n m t1 z zz 0 v1 us1 (Nat.le_refl _) (by omega) (by omega) (by omega) (by omega) (by omega) hA1
  · intro w hw
    exact ⟨w, by show rp _ z (nI 0, w) = _; rw [hz]; exact dead_TL hw, rfl, fun _ _ _ _ _ _ => rfl⟩
  · obtain ⟨t1, c1, c2, w1, w2, w3, rfl, w4, w5⟩ := hC
    rw [if_pos rfl] at w4 ⊢
    exact ev_test w4 w5
end
