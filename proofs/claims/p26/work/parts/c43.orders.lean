/-! ORDERS OF BOTH SIDES: what a row of steps is worth, what can be carried out, what it does -/
theorem mval_eq {u u' : Va} {sn : Nat} (h : ∀ p, sn ≤ p → p < sn + 10 → u' p = u p) : mval u' sn = mval u sn := by
  funext a b c
  unfold mval
  rw [h sn (by omega) (by omega), h (sn + 1) (by omega) (by omega), h (sn + 2) (by omega) (by omega), h (sn + 3) (by omega) (by omega), h (sn + 4) (by omega) (by omega), h (sn + 5) (by omega) (by omega), h (sn + 6) (by omega) (by omega), h (sn + 7) (by omega) (by omega)]
theorem worth_eq {u u' : Va} {sn : Nat} (h : ∀ p, sn ≤ p → p < sn + 10 → u' p = u p) {c : List Ste} : worth u' sn c = worth u sn c := by
  unfold worth; rw [mval_eq h]
/-- what reckoning leaves alone -/
def FR (k : Nat) (v v1 : Va) : Prop := ∀ p, p ≠ k + 23 → p ≠ k + 25 → v1 p = v p
def FW (u u1 : Va) : Prop := (∀ p, p ≠ 149 → u1 p = u p) ∧ ∀ j, j ≠ 10 → j ≠ 11 → u1 149 j = u 149 j
/-- at the order o both sides reckon the worth of the steps cs o and ct o -/
def EVT (z : Nat) (v u : Va) (sp k sn o : Nat) (c : List Ste) : Prop :=
  (v 89 o ≤ v 87 o ∧ u (sp + 21) o = -1) ∨ (¬ v 89 o ≤ v 87 o ∧ u (sp + 21) o ≠ -1 ∧ ∃ (b : Bool) (v1 u1 : Va), worth u sn c = q_b b ∧ f_Reckoner_reckon z v k (v 87 o) (v 89 o) = some (q_b b, v1) ∧ FR k v v1 ∧
    (g_Ev z sp sn 48).1 0 [] (pu (pu u 149 11 (nI sn)) 149 10 (u (sp + 21) o)) = some (b, u1) ∧ FW u u1)
def EVS (z : Nat) (v u : Va) (sp k sn o : Nat) (c : List Ste) : Prop :=
  ∃ x v1, f_Reckoner_reckon z v k (v 85 o) (v 87 o) = some (x, v1) ∧ FR k v v1 ∧
    (u (sp + 17) o ≠ 0 → x = worth u sn c ∧ ∃ u1, (g_Ev z sp sn 48).2 3 [] (pu (pu u 149 11 (nI sn)) 149 10 (u (sp + 20) o)) = some (x, u1) ∧ FW u u1)
def PX (z : Nat) (v u : Va) (sp L G M O : Nat) (cs ct : Nat → List Ste) : Prop :=
  ∀ (v' u' : Va) (k sn o : Nat), o < O → k = 97 ∨ k = 123 → sn = 173 ∨ sn = 183 → (∀ p, 61 ≤ p → p < 97 → v' p = v p) → (∀ p, sp ≤ p → p < sp + 22 → u' p = u p) → RS v' u' k sn L → IS u' sn L G M → EVT z v' u' sp k sn o (ct o) ∧ EVS z v' u' sp k sn o (cs o)
theorem PX.cong {z sp L G M O : Nat} {v u v1 u1 : Va} {cs ct : Nat → List Ste} (h : PX z v u sp L G M O cs ct) (hv : ∀ p, 61 ≤ p → p < 97 → v1 p = v p) (hu : ∀ p, sp ≤ p → p < sp + 22 → u1 p = u p) : PX z v1 u1 sp L G M O cs ct :=
  fun v' u' k sn o ho hk hn h1 h2 => h v' u' k sn o ho hk hn (fun p a b => (h1 p a b).trans (hv p a b)) (fun p a b => (h2 p a b).trans (hu p a b))
section
variable {v u v1 u1 : Va} {k sn sp L G M S O z : Nat} {cs ct : Nat → List Ste}
theorem PX.fr (h : PX z v u sp L G M O cs ct) (hC : FC k v v1) (hM : FM sn u u1) (hk : k = 97 ∨ k = 123) (hn : sn = 173 ∨ sn = 183) (hs : sp = 151 ∨ 194 ≤ sp) : PX z v1 u1 sp L G M O cs ct :=
  h.cong (fun p h1 h2 => hC p (by omega)) (fun p h1 h2 => hM.1 p (by omega) (by omega))
theorem FR.fc (h : FR k v v1) : FC k v v1 := fun p hp => h p (by omega) (by omega)
theorem FW.fm (h : FW u u1) : FM sn u u1 := ⟨fun p a _ => h.1 p a, h.2⟩
theorem FW.tr {u2 : Va} (h : FW u u1) (h2 : FW u1 u2) : FW u u2 := ⟨fun p a => (h2.1 p a).trans (h.1 p a), fun j a b => (h2.2 j a b).trans (h.2 j a b)⟩
theorem FR.tr {v2 : Va} (h : FR k v v1) (h2 : FR k v1 v2) : FR k v v2 := fun p a b => (h2 p a b).trans (h p a b)
theorem RS.fr (h : RS v u k sn L) (hC : FR k v v1) (hM : FW u u1) (hn : 150 ≤ sn) : RS v1 u1 k sn L := h.cong (fun p _ _ => hC p (by omega) (by omega)) (fun p _ _ => hM.1 p (by omega))
theorem IS.fr (h : IS u sn L G M) (hM : FW u u1) (hn : 150 ≤ sn) : IS u1 sn L G M := h.cong (fun p _ _ => hM.1 p (by omega))
theorem PO.nat {s a b : Int32} (h : PO s a b G M L) : ∃ i j, a = nI i ∧ b = nI j ∧ ((s = 0 ∧ i < L ∧ j < G) ∨ (s = 1 ∧ i < L ∧ j < M) ∨ (s = 2 ∧ i < M ∧ j < M)) := by
  rcases h with ⟨e, ⟨i, hi, ei⟩, j, hj, ej⟩ | ⟨e, ⟨i, hi, ei⟩, j, hj, ej⟩ | ⟨e, ⟨i, hi, ei⟩, j, hj, ej⟩
  · exact ⟨i, j, ei, ej, Or.inl ⟨e, hi, hj⟩⟩
  · exact ⟨i, j, ei, ej, Or.inr (Or.inl ⟨e, hi, hj⟩)⟩
  · exact ⟨i, j, ei, ej, Or.inr (Or.inr ⟨e, hi, hj⟩)⟩
/-- the reference's words of a sum -/
theorem sum_m {x : Int32} {o : Nat} (ho : o < 24) (hs : sp = 151 ∨ 194 ≤ sp) (h : (g_Ev z sp sn 48).2 3 [] (pu (pu u 149 11 (nI sn)) 149 10 (u (sp + 20) o)) = some (x, u1)) : f_Model_sumOf z u sp sn (nI o) = some (x, u1) := by
  unfold f_Model_sumOf
  simp (disch := omega) only [bd, gn, ni_c, if_false]
  have e : (pu u 149 11 (nI sn)) (sp + 20) o = u (sp + 20) o := by unfold pu; rw [up_ne (by omega)]
  rw [e, h, ob]
/-- a price: at an order that sells a lot with a chop -/
theorem price_two {x : Int32} {i o : Nat} (hR : RS v u k sn L) (hi : i < L) (hL : L ≤ 10) (hg : u (sn + 3) i ≠ -1) : f_Days_price v k (nI i) x = some (q_max 0 (q_min 999 x) * u (sn + 4) i / 100) := by
  unfold f_Days_price
  rw [bd, rg (by omega) (by omega), hR.2.2.2.2.1 i hi, if_neg hg]
/-- what is asked before an order of a sort is carried out -/
def CS (u : Va) (sp sn o : Nat) (x : Int32) : Prop :=
  ∃ i j, i < 10 ∧ j < 6 ∧ u (sp + 18) o = nI i ∧ u (sp + 19) o = nI j ∧
    ((u (sp + 17) o = 0 ∧ ∃ m, m < 6 ∧ u (sn + 2) i = nI m ∧ u (sp + 8) j ≤ u (sn + 6) m) ∨
     (u (sp + 17) o = 1 ∧ u (sn + 3) i ≠ -1 ∧ u (sn + 2) i ≠ nI j ∧ row_t (fun b => u (sn + 7) (6 * j + b)) 6 + q_max 0 (q_max 0 (q_min 999 x) * u (sn + 4) i / 100 - u (sn + 6) j) ≤ u (sp + 12) j) ∨
     (u (sp + 17) o = 2 ∧ i ≠ j ∧ 1 ≤ q_min x (q_min (u (sn + 7) (6 * i + j)) (u (sn + 6) i))))
def mrest (z : Nat) (q : Va) (sp k1 : Nat) (a2 : Int32) : Option (Bool × Va) := if a2 < 0 ∨ 24 ≤ a2.toNatClampNeg then none else if (q (sp + 17) a2.toNatClampNeg) = 0 then (if a2 < 0 ∨ 24 ≤ a2.toNatClampNeg then none else if (q (sp + 18) a2.toNatClampNeg) < 0 ∨ 10 ≤ (q (sp + 18) a2.toNatClampNeg).toNatClampNeg then none else if (q (k1 + 2) (q (sp + 18) a2.toNatClampNeg).toNatClampNeg) < 0 ∨ 6 ≤ (q (k1 + 2) (q (sp + 18) a2.toNatClampNeg).toNatClampNeg).toNatClampNeg then none else if a2 < 0 ∨ 24 ≤ a2.toNatClampNeg then none else if (q (sp + 19) a2.toNatClampNeg) < 0 ∨ 4 ≤ (q (sp + 19) a2.toNatClampNeg).toNatClampNeg then none else if (q (k1 + 6) (q (k1 + 2) (q (sp + 18) a2.toNatClampNeg).toNatClampNeg).toNatClampNeg) < (q (sp + 8) (q (sp + 19) a2.toNatClampNeg).toNatClampNeg) then (some (false, q)) else (some (true, q))) else (if (q (sp + 17) a2.toNatClampNeg) = 1 then ((f_Model_canSell z q sp k1 a2).bind fun q96 => some (q96.1, q96.2)) else ((f_Model_payOf z q sp k1 a2).bind fun q103 => if q103.1 < 1 then (some (false, q103.2)) else (some (true, q103.2))))
theorem min3 {x y w : Int32} : q_min (q_min x y) w = q_min x (q_min y w) := by
  apply t_inj
  rw [t_min, t_min, t_min, t_min]; omega
/-- behind the test -/
theorem rest_two (hP : PL v u sp S G M L O) (hX : PX z v u sp L G M O cs ct) (hR : RS v u k sn L) (hI : IS u sn L G M) (hk : k = 97 ∨ k = 123) (hn : sn = 173 ∨ sn = 183) (hs : sp = 151 ∨ 194 ≤ sp) (hz : 4000 < z) {o : Nat} (ho : o < O) :
    ∃ b v1 u1, j_Days_wouldCarryOut_43 z k (nI o) (v 87 o) v = some (b, v1) ∧ mrest z u sp sn (nI o) = some (b, u1) ∧ FR k v v1 ∧ FW u u1 ∧ (b = true → CS u sp sn o (worth u sn (cs o))) := by
  have hB := hP.1
  obtain ⟨e79, e81, e83, hPO⟩ := hP.2.2.2.2.2.2.2 o ho
  obtain ⟨i, j, ei, ej, hij⟩ := hPO.nat
  obtain ⟨x, w, hx, hF, hu⟩ := (hX v u k sn o ho hk hn (fun _ _ _ => rfl) (fun _ _ _ => rfl) hR hI).2
  have hF1 : ∀ p, p < 97 → w p = v p := fun p hp => hF p (by omega) (by omega)
  have hRw : RS w u k sn L := hR.fr hF ⟨fun _ _ => rfl, fun _ _ _ => rfl⟩ (by omega)
  have c0 : j_Days_wouldCarryOut_43 z k (nI o) (v 87 o) v = (if u (sp + 17) o = 0 then ((f_Days_canWeigh w k (nI i) (nI j)).bind fun q133 => some (q133, w)) else (if u (sp + 17) o = 1 then ((f_Days_canSell z w k (nI i) (nI j) x).bind fun q144 => some (q144, w)) else ((f_Days_due w k (nI i) (nI j) x).bind fun q155 => if q155 < 1 then (some (false, w)) else (some (true, w))))) := by
    unfold j_Days_wouldCarryOut_43
    simp (disch := omega) only [bd, rg]
    rw [hx, ob]
    simp only [hF1 81 (by omega), hF1 83 (by omega), hF1 79 (by omega), e79, e81, e83, ei, ej]
  rw [c0]
  unfold mrest
  simp (disch := omega) only [gn, ni_c, if_false, ei, ej]
  rcases hij with ⟨es, hi, hj⟩ | ⟨es, hi, hj⟩ | ⟨es, hi, hj⟩
  · obtain ⟨m, hm, em⟩ := hI.2.1 i hi
    have ew : f_Days_canWeigh w k (nI i) (nI j) = if u (sn + 6) m < u (sp + 8) j then some false else some true := by
      unfold f_Days_canWeigh
      rw [bd, rg (by omega) (by omega), hRw.2.2.1 i hi, em]
      simp (disch := omega) only [bd, rg]
      rw [hRw.2.2.2.2.2.2.1 m (by omega), hF1 65 (by omega), (hP.2.2.2.2.1 j hj).1]
    rw [ew]
    simp (disch := omega) only [es, if_true, em, gn, ni_c, if_false]
    by_cases hc : u (sn + 6) m < u (sp + 8) j
    · rw [if_pos hc, if_pos hc]
      exact ⟨false, w, u, rfl, rfl, hF, ⟨fun _ _ => rfl, fun _ _ _ => rfl⟩, fun q => by cases q⟩
    · rw [if_neg hc, if_neg hc]
      exact ⟨true, w, u, rfl, rfl, hF, ⟨fun _ _ => rfl, fun _ _ _ => rfl⟩, fun _ => ⟨i, j, by omega, by omega, ei, ej, Or.inl ⟨es, m, by omega, em, Int32.not_lt.mp hc⟩⟩⟩
  · have h10 : ¬ u (sp + 17) o = 0 := by rw [es]; decide
    obtain ⟨ex, u1, hu1, hF2⟩ := hu h10
    have hsum := sum_m (z := z) (sn := sn) (show o < 24 by omega) hs hu1
    obtain ⟨fr, f1, f2, f3⟩ := hRw.fresh hI.2.2.1 (by omega) (by omega) hi
    have ec : f_Days_canSell z w k (nI i) (nI j) x = if fr = false then some false else if u (sn + 2) i = nI j then some false else (if u (sp + 12) j < row_t (fun b => u (sn + 7) (6 * j + b)) 6 + q_max 0 (q_max 0 (q_min 999 x) * u (sn + 4) i / 100 - u (sn + 6) j) then some false else some true) := by
      unfold f_Days_canSell
      rw [f1, ob]
      simp only [qb]
      by_cases hfr : fr = false
      · rw [if_pos hfr, if_pos hfr]
      · rw [if_neg hfr, if_neg hfr]
        have hpr := price_two (o := o) (x := x) hRw hi (by omega) (f3 (by cases fr; exact absurd rfl hfr; rfl))
        simp (disch := omega) only [bd, rg, hRw.2.2.1 i hi, hpr, ob, hRw.2.2.2.2.2.2.1 j (by omega), hRw.sumOf (z := z) (show j < 6 by omega) (by omega), hF1 71 (by omega), (hP.2.2.2.2.2.1 j hj).1]
    rw [ec, if_neg h10, if_neg h10, if_pos es, if_pos es]
    unfold f_Model_canSell
    simp (disch := omega) only [gn, ni_c, if_false, ei, ej, f2, ob, qb]
    by_cases hfr : fr = false
    · rw [if_pos hfr, if_pos hfr]
      exact ⟨false, w, u, rfl, rfl, hF, ⟨fun _ _ => rfl, fun _ _ _ => rfl⟩, fun q => by cases q⟩
    rw [if_neg hfr, if_neg hfr]
    have hne := f3 (by cases fr; exact absurd rfl hfr; rfl)
    by_cases how : u (sn + 2) i = nI j
    · rw [if_pos how, if_pos how]
      exact ⟨false, w, u, rfl, rfl, hF, ⟨fun _ _ => rfl, fun _ _ _ => rfl⟩, fun q => by cases q⟩
    rw [if_neg how, if_neg how]
    have hU : ∀ p, p ≠ 149 → u1 p = u p := hF2.1
    unfold f_Model_priceOf
    rw [hsum]
    simp (disch := omega) only [gn, ni_c, if_false, ob, hU, ei, ej]
    rw [deb_m (by omega) (by omega), ob]
    simp (disch := omega) only [hU]
    rw [← ex]
    by_cases hc : u (sp + 12) j < row_t (fun b => u (sn + 7) (6 * j + b)) 6 + q_max 0 (q_max 0 (q_min 999 x) * u (sn + 4) i / 100 - u (sn + 6) j)
    · rw [if_pos hc, if_pos hc]
      exact ⟨false, w, u1, rfl, rfl, hF, hF2, fun q => by cases q⟩
    · rw [if_neg hc, if_neg hc]
      exact ⟨true, w, u1, rfl, rfl, hF, hF2, fun _ => ⟨i, j, by omega, by omega, ei, ej, Or.inr (Or.inl ⟨es, hne, how, Int32.not_lt.mp hc⟩)⟩⟩
  · have h10 : ¬ u (sp + 17) o = 0 := by rw [es]; decide
    have h11 : ¬ u (sp + 17) o = 1 := by rw [es]; decide
    obtain ⟨ex, u1, hu1, hF2⟩ := hu h10
    have hsum := sum_m (z := z) (sn := sn) (show o < 24 by omega) hs hu1
    have ed : f_Days_due w k (nI i) (nI j) x = some (q_min x (q_min (u (sn + 7) (6 * i + j)) (u (sn + 6) i))) := by
      unfold f_Days_due
      rw [hRw.bet (by omega) (by omega), ob, bd, rg (by omega) (by omega), hRw.2.2.2.2.2.2.1 i (by omega)]
    rw [ed, if_neg h10, if_neg h10, if_neg h11, if_neg h11, ob]
    unfold f_Model_payOf
    simp (disch := omega) only [gn, ni_c, if_false, ei, ej, eq_n]
    by_cases hq : i = j
    · rw [if_pos hq, ob]
      subst hq
      have hz0 : u (sn + 7) (6 * i + i) = 0 := (hI.2.2.2.2.1 i i (by omega) (by omega)).2.2 (Or.inl rfl)
      have hlt : q_min x (q_min (u (sn + 7) (6 * i + i)) (u (sn + 6) i)) < 1 := by
        rw [t_lt, t_min, t_min, hz0]
        show min x.toInt (min 0 (u (sn + 6) i).toInt) < 1
        omega
      rw [if_pos hlt, if_pos (show (0 : Int32) < 1 by decide)]
      exact ⟨false, w, u, rfl, rfl, hF, ⟨fun _ _ => rfl, fun _ _ _ => rfl⟩, fun q => by cases q⟩
    · have hU : ∀ p, p ≠ 149 → u1 p = u p := hF2.1
      rw [if_neg hq, hsum, ob, owes_m (by omega) (by omega), ob]
      simp (disch := omega) only [hU, ob]
      rw [min3]
      by_cases hc : q_min x (q_min (u (sn + 7) (6 * i + j)) (u (sn + 6) i)) < 1
      · rw [if_pos hc, if_pos hc]
        exact ⟨false, w, u1, rfl, rfl, hF, hF2, fun q => by cases q⟩
      · rw [if_neg hc, if_neg hc]
        exact ⟨true, w, u1, rfl, rfl, hF, hF2, fun _ => ⟨i, j, by omega, by omega, ei, ej, Or.inr (Or.inr ⟨es, hq, by rw [← ex]; exact Int32.not_lt.mp hc⟩)⟩⟩
end
