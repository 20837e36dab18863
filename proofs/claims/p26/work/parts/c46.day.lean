/-! A DAY, DAYS -/
section
variable {v u v1 u1 : Va} {k sn sp L G M S O z : Nat} {cs ct : Nat → List Ste}
theorem RS.bare2 (h : RS v u k sn L) : RS v u k sn L := h
def mcarry (z : Nat) (q : Va) (sp k1 : Nat) (a2 : Int32) : Option (Bool × Va) := if a2 < 0 ∨ 24 ≤ a2.toNatClampNeg then none else if a2 < 0 ∨ 24 ≤ a2.toNatClampNeg then none else if a2 < 0 ∨ 24 ≤ a2.toNatClampNeg then none else if (q (sp + 17) a2.toNatClampNeg) = 0 then ((f_Model_weigh q sp k1 (q (sp + 18) a2.toNatClampNeg) (q (sp + 19) a2.toNatClampNeg)).bind fun q49 => j_Model_carry_99 k1 a2 q49) else (if a2 < 0 ∨ 24 ≤ a2.toNatClampNeg then none else if (q (sp + 17) a2.toNatClampNeg) = 1 then ((f_Model_priceOf z q sp k1 a2).bind fun q76 => (f_Model_sell q76.2 sp k1 (q (sp + 18) a2.toNatClampNeg) (q (sp + 19) a2.toNatClampNeg) q76.1).bind fun q79 => j_Model_carry_99 k1 a2 q79) else ((f_Model_payOf z q sp k1 a2).bind fun q93 => (f_Model_pay q93.2 sp k1 (q (sp + 18) a2.toNatClampNeg) (q (sp + 19) a2.toNatClampNeg) q93.1).bind fun q96 => j_Model_carry_99 k1 a2 q96))
theorem carry_eq {a : Int32} : f_Model_carry z u sp sn a = (f_Model_can z u sp sn a).bind fun q3 => if (q_b q3.1) = 0 then some (false, q3.2) else mcarry z q3.2 sp sn a := rfl
theorem done_two (hR : RS v u k sn L) (hI : IS u sn L G M) (hn : 150 ≤ sn) {o : Nat} (ho : o < 24) :
    ∃ v1 u1, j_Days_carryOut_121 k (nI o) v = some v1 ∧ j_Model_carry_99 sn (nI o) u = some (true, u1) ∧ RS v1 u1 k sn L ∧ IS u1 sn L G M ∧ FC k v v1 ∧ FM sn u u1 := by
  refine ⟨up v (k + 21) (upd (v (k + 21)) o (v (k + 21) o + 1)), up u (sn + 9) (upd (u (sn + 9)) o (u (sn + 9) o + 1)), ?_, ?_, hR.n (eqN_upd hR.2.2.2.2.2.2.2.2.2 o (by rw [hR.2.2.2.2.2.2.2.2.2 o ho])), hI.n, FC.up (by omega) (by omega), FM.up hn (by omega) (by omega)⟩
  · unfold j_Days_carryOut_121
    rw [bd, ra ho (by omega)]
  · unfold j_Model_carry_99
    simp (disch := omega) only [bd, gn, ni_c, if_false]
    rfl
theorem carry_two (hP : PL v u sp S G M L O) (hX : PX z v u sp L G M O cs ct) (hR : RS v u k sn L) (hI : IS u sn L G M) (hk : k = 97 ∨ k = 123) (hn : sn = 173 ∨ sn = 183) (hs : sp = 151 ∨ 194 ≤ sp) (hz : 4000 < z) {o : Nat} (ho : o < O) (hS : CS u sp sn o (worth u sn (cs o))) :
    ∃ v1 u1, f_Days_carryOut z v k (nI o) = some v1 ∧ mcarry z u sp sn (nI o) = some (true, u1) ∧ RS v1 u1 k sn L ∧ IS u1 sn L G M ∧ FC k v v1 ∧ FM sn u u1 := by
  have hB := hP.1
  obtain ⟨e79, e81, e83, hPO⟩ := hP.2.2.2.2.2.2.2 o ho
  obtain ⟨i, j, ei, ej, hij⟩ := hPO.nat
  obtain ⟨x, w, hx, hF, hu⟩ := (hX v u k sn o ho hk hn (fun _ _ _ => rfl) (fun _ _ _ => rfl) hR hI).2
  have hF1 : ∀ p, p < 97 → w p = v p := fun p hp => hF p (by omega) (by omega)
  have hRw : RS w u k sn L := hR.fr hF ⟨fun _ _ => rfl, fun _ _ _ => rfl⟩ (by omega)
  have hPw : PL w u sp S G M L O := hP.fr hF.fc (sn := sn) FM.rfl' hk hn hs
  have c0 : f_Days_carryOut z v k (nI o) = (if u (sp + 17) o = 0 then ((f_Days_weigh w k (nI i) (nI j)).bind fun q96 => j_Days_carryOut_121 k (nI o) q96) else (if u (sp + 17) o = 1 then ((f_Days_sell w k (nI i) (nI j) x).bind fun q107 => j_Days_carryOut_121 k (nI o) q107) else ((f_Days_payBack w k (nI i) (nI j) x).bind fun q118 => j_Days_carryOut_121 k (nI o) q118))) := by
    unfold f_Days_carryOut
    simp (disch := omega) only [bd, rg]
    rw [hx, ob]
    simp only [hF1 81 (by omega), hF1 83 (by omega), hF1 79 (by omega), e79, e81, e83, ei, ej]
  rw [c0]
  unfold mcarry
  simp (disch := omega) only [gn, ni_c, if_false, ei, ej]
  have tl : ∀ {f : Option Va} {a b : Va}, f = some a → ∀ {g : Option Va}, g = some b → RS a b k sn L → IS b sn L G M → FC k v a → FM sn u b → ∃ v1 u1, (f.bind fun q => j_Days_carryOut_121 k (nI o) q) = some v1 ∧ (g.bind fun q => j_Model_carry_99 sn (nI o) q) = some (true, u1) ∧ RS v1 u1 k sn L ∧ IS u1 sn L G M ∧ FC k v v1 ∧ FM sn u u1 := by
    intro f a b hf g hg h1 h2 h3 h4
    obtain ⟨v1, u1, q1, q2, q3, q4, q5, q6⟩ := done_two (o := o) h1 h2 (by omega) (by omega)
    exact ⟨v1, u1, by rw [hf, ob, q1], by rw [hg, ob, q2], q3, q4, h3.tr q5, h4.tr q6⟩
  obtain ⟨i', j', hi', hj', ei', ej', hS⟩ := hS
  have e1 : i' = i := by
    have := ei'.symm.trans ei
    rwa [eq_n (by omega) (by omega)] at this
  have e2 : j' = j := by
    have := ej'.symm.trans ej
    rwa [eq_n (by omega) (by omega)] at this
  subst e1 e2
  rcases hij with ⟨es, hi, hj⟩ | ⟨es, hi, hj⟩ | ⟨es, hi, hj⟩
  · rw [if_pos es, if_pos es]
    rcases hS with ⟨-, m, hm, em, hc⟩ | ⟨es', -⟩ | ⟨es', -⟩
    · obtain ⟨a, b, q1, q2, q3, q4, q5, q6⟩ := weigh_two hPw hRw hI hk hn hs hi hj hm em hc
      exact tl q1 q2 q3 q4 (hF.fc.tr q5) q6
    · rw [es] at es'; exact absurd es' (by decide)
    · rw [es] at es'; exact absurd es' (by decide)
  · have h10 : ¬ u (sp + 17) o = 0 := by rw [es]; decide
    rw [if_neg h10, if_neg h10, if_pos es, if_pos es]
    rcases hS with ⟨es', -⟩ | ⟨-, hg, how, hc⟩ | ⟨es', -⟩
    · rw [es] at es'; exact absurd es' (by decide)
    · obtain ⟨ex, u1, hu1, hF2⟩ := hu h10
      have hsum := sum_m (z := z) (sn := sn) (show o < 24 by omega) hs hu1
      have hU : ∀ p, p ≠ 149 → u1 p = u p := hF2.1
      have hI1 := hI.fr hF2 (by omega)
      have hR1 : RS w u1 k sn L := hRw.fr (fun _ _ _ => rfl) hF2 (by omega)
      have hP1 : PL w u1 sp S G M L O := hPw.fr FC.rfl' (sn := sn) hF2.fm hk hn hs
      have hpo : f_Model_priceOf z u sp sn (nI o) = some (q_max 0 (q_min 999 x) * u1 (sn + 4) i' / 100, u1) := by
        unfold f_Model_priceOf
        rw [hsum]
        simp (disch := omega) only [gn, ni_c, if_false, ob, hU, ei]
      rw [hpo, ob]
      rw [← ex] at hc
      obtain ⟨a, b, q1, q2, q3, q4, q5, q6⟩ := sell_two (x := x) hP1 hR1 hI1 hk hn hs hi hj (by rw [hU _ (by omega)]; exact hg) (by rw [hU _ (by omega)]; exact how) (by rw [hU _ (by omega), hU _ (by omega), hU _ (by omega), hU _ (by omega)]; exact hc)
      exact tl q1 q2 q3 q4 (hF.fc.tr q5) (hF2.fm.tr q6)
    · rw [es] at es'; exact absurd es' (by decide)
  · have h10 : ¬ u (sp + 17) o = 0 := by rw [es]; decide
    have h11 : ¬ u (sp + 17) o = 1 := by rw [es]; decide
    rw [if_neg h10, if_neg h10, if_neg h11, if_neg h11]
    rcases hS with ⟨es', -⟩ | ⟨es', -⟩ | ⟨-, hne, hc⟩
    · rw [es] at es'; exact absurd es' (by decide)
    · rw [es] at es'; exact absurd es' (by decide)
    · obtain ⟨ex, u1, hu1, hF2⟩ := hu h10
      have hsum := sum_m (z := z) (sn := sn) (show o < 24 by omega) hs hu1
      have hU : ∀ p, p ≠ 149 → u1 p = u p := hF2.1
      have hI1 := hI.fr hF2 (by omega)
      have hR1 : RS w u1 k sn L := hRw.fr (fun _ _ _ => rfl) hF2 (by omega)
      have hP1 : PL w u1 sp S G M L O := hPw.fr FC.rfl' (sn := sn) hF2.fm hk hn hs
      have hpo : f_Model_payOf z u sp sn (nI o) = some (q_min x (q_min (u1 (sn + 7) (6 * i' + j')) (u1 (sn + 6) i')), u1) := by
        unfold f_Model_payOf
        simp (disch := omega) only [gn, ni_c, if_false, ei, ej, eq_n]
        rw [if_neg hne, hsum, ob, owes_m (by omega) (by omega), ob]
        simp (disch := omega) only [gn, ni_c, if_false]
        rw [min3]
      rw [hpo, ob]
      rw [← ex] at hc
      obtain ⟨a, b, q1, q2, q3, q4, q5, q6⟩ := pay_two (x := x) hP1 hR1 hI1 hk hn hs hi hj hne (by rw [hU _ (by omega), hU _ (by omega)]; exact hc)
      exact tl q1 q2 q3 q4 (hF.fc.tr q5) (hF2.fm.tr q6)
/-- debts grow -/
def gro (x : Int32) : Int32 := if x < 1 then x else q_min 99999 (x + x / 20 + 1)
def groN (f : Nat → Int32) (n : Nat) : Nat → Int32 := fun q => if q < n then gro (f q) else f q
theorem groN_0 {f : Nat → Int32} : groN f 0 = f := funext fun q => if_neg (by omega)
theorem groN_s {f : Nat → Int32} {n : Nat} : upd (groN f n) n (gro (f n)) = groN f (n + 1) := funext fun q => by
  unfold groN
  by_cases h : q = n
  · subst h; rw [upd_eq, if_pos (by omega)]
  · rw [upd_ne h]
    by_cases h2 : q < n
    · rw [if_pos h2, if_pos (by omega)]
    · rw [if_neg h2, if_neg (by omega)]
theorem groN_n {f : Nat → Int32} {n : Nat} : groN f n n = f n := if_neg (by omega)
theorem grow_all_c (hz : 4000 < z) : f_Debts_growAll z v (k + 13) = some (up v (k + 15) (groN (v (k + 15)) 36)) := by
  have e0 : up v (k + 15) (groN (v (k + 15)) 0) = v := by rw [groN_0, up_id]
  have := rp_go (f := b_Debts_growAll_2 (k + 13)) (E := some (up v (k + 15) (groN (v (k + 15)) 36))) (fun i => (nI i, up v (k + 15) (groN (v (k + 15)) i))) 36 (fun K => rfl) (fun K i hi => by
    unfold b_Debts_growAll_2 j_Debts_growAll_43
    show (if (36 : Int32) ≤ nI i then _ else bnd (row_g 36 (up v (k + 15) (groN (v (k + 15)) i) (k + 15)) (nI i)) fun q13 => if q13 < 1 then K (nI i + 1, up v (k + 15) (groN (v (k + 15)) i)) else bnd (up (up v (k + 15) (groN (v (k + 15)) i)) (k + 15) (row_s 36 (up v (k + 15) (groN (v (k + 15)) i) (k + 15)) (nI i) (q_min 99999 (q13 + q13 / 20 + 1)))) fun q40 => K (nI i + 1, q40)) = K (nI (i + 1), up v (k + 15) (groN (v (k + 15)) (i + 1)))
    rw [show (36 : Int32) = nI 36 from rfl, if_neg (by rw [le_n (by omega) (by omega)]; omega)]
    simp (disch := omega) only [bd, rg, rs, up_eq, up_up, ni_s, groN_n]
    rw [← groN_s]
    unfold gro
    by_cases h : v (k + 15) i < 1
    · rw [if_pos h, if_pos h]
      have : upd (groN (v (k + 15)) i) i (v (k + 15) i) = groN (v (k + 15)) i := funext fun q => by
        by_cases hq : q = i
        · subst hq; rw [upd_eq, groN_n]
        · rw [upd_ne hq]
      rw [this]
    · rw [if_neg h, if_neg h]) (show 36 < z by omega)
  rw [e0] at this
  exact this
theorem le0_lt1 {x : Int32} : (x ≤ 0) ↔ (x < 1) := by
  rw [t_le, t_lt]
  show x.toInt ≤ 0 ↔ x.toInt < 1
  omega
theorem grow_all_m {x y : Int32} (hn : 150 ≤ sn) (hz : 4000 < z) : rp (b_Model_dayOn_45 sn (x, y, u)) z (0, u) = some (x, pu (if u sn 0 - u sn 0 / 7 * 7 = 6 then up u (sn + 7) (groN (u (sn + 7)) 36) else u) sn 0 (u sn 0 + 1)) := by
  by_cases hd : u sn 0 - u sn 0 / 7 * 7 = 6
  · rw [if_pos hd]
    have e0 : up u (sn + 7) (groN (u (sn + 7)) 0) = u := by rw [groN_0, up_id]
    have := rp_go (f := b_Model_dayOn_45 sn (x, y, u)) (E := some (x, pu (up u (sn + 7) (groN (u (sn + 7)) 36)) sn 0 (u sn 0 + 1))) (fun i => (nI i, up u (sn + 7) (groN (u (sn + 7)) i))) 36 (fun K => by
      unfold b_Model_dayOn_45 j_Model_dayOn_111
      simp (disch := omega) only [le_n, Nat.le_refl, if_true, bd, up_ne]) (fun K i hi => by
      unfold b_Model_dayOn_45 j_Model_dayOn_105 j_Model_dayOn_111
      simp (disch := omega) only [bd, gn, ni_c, if_false, up_eq, up_ne, groN_n, hd, if_true, pu, up_up, ni_s]
      rw [if_neg (by rw [le_n (by omega) (by omega)]; omega), ← groN_s]
      unfold gro
      by_cases h : u (sn + 7) i < 1
      · rw [if_pos (le0_lt1.mpr h), if_pos h]
        have : upd (groN (u (sn + 7)) i) i (u (sn + 7) i) = groN (u (sn + 7)) i := funext fun q => by
          by_cases hq : q = i
          · subst hq; rw [upd_eq, groN_n]
          · rw [upd_ne hq]
        rw [this]
      · rw [if_neg (fun q => h (le0_lt1.mp q)), if_neg h]) (show 36 < z by omega)
    rw [e0] at this
    exact this
  · rw [if_neg hd]
    obtain ⟨z, rfl⟩ : ∃ y, z = y + 1 := ⟨z - 1, by omega⟩
    show b_Model_dayOn_45 sn (x, y, u) _ (0, u) = _
    unfold b_Model_dayOn_45 j_Model_dayOn_111
    rw [if_neg (show ¬ nI 36 ≤ (0 : Int32) by decide), if_neg hd]
    rfl
theorem gro_b {x : Int32} (h : 0 ≤ x.toInt ∧ x.toInt ≤ 99999) : 0 ≤ (gro x).toInt ∧ (gro x).toInt ≤ 99999 := by
  unfold gro
  by_cases h1 : x < 1
  · rw [if_pos h1]; exact h
  · rw [if_neg h1, t_min]
    have e1 : (x / 20).toInt = x.toInt / 20 := t_div rfl (by omega) h.1
    have e2 : (x + x / 20).toInt = x.toInt + x.toInt / 20 := by rw [t_add, e1] <;> rw [e1] <;> omega
    have e3 : (x + x / 20 + 1).toInt = x.toInt + x.toInt / 20 + 1 := by
      rw [t_add, e2]
      · rfl
      · rw [e2, show (1 : Int32).toInt = 1 from rfl]; omega
      · rw [e2, show (1 : Int32).toInt = 1 from rfl]; omega
    rw [e3, show (99999 : Int32).toInt = 99999 from rfl]; omega
theorem ID.grow {f : Nat → Int32} (h : ID f M) : ID (groN f 36) M := fun a b ha hb => by
  have e : groN f 36 (6 * a + b) = gro (f (6 * a + b)) := if_pos (by omega)
  obtain ⟨h1, h2, h3⟩ := h a b ha hb
  rw [e]
  exact ⟨(gro_b ⟨h1, h2⟩).1, (gro_b ⟨h1, h2⟩).2, fun q => by rw [h3 q]; rfl⟩
/-- all orders of a day -/
theorem orders_two (hP : PL v u sp S G M L O) (hX : PX z v u sp L G M O cs ct) (hR : RS v u k sn L) (hI : IS u sn L G M) (hk : k = 97 ∨ k = 123) (hn : sn = 173 ∨ sn = 183) (hs : sp = 151 ∨ 194 ≤ sp) (hz : 4000 < z) :
    ∃ (q r : Int32 × Va), f_Days_followOrders z v k = some q ∧ rp (b_Model_dayOn_9 z sp sn) z (0, 0, u) = some r ∧
      ∃ u1, q.1 = r.1 ∧ RS q.2 u1 k sn L ∧ IS u1 sn L G M ∧ FC k v q.2 ∧ FM sn u u1 ∧ r.2 = pu (if u1 sn 0 - u1 sn 0 / 7 * 7 = 6 then up u1 (sn + 7) (groN (u1 (sn + 7)) 36) else u1) sn 0 (u1 sn 0 + 1) := by
  have hB := hP.1
  refine rp_two (f := b_Days_followOrders_4 z k) (g := b_Model_dayOn_9 z sp sn) (fun i s t => s.1 = t.1 ∧ s.2.1 = nI i ∧ t.2.1 = nI i ∧ RS s.2.2 t.2.2 k sn L ∧ IS t.2.2 sn L G M ∧ FC k v s.2.2 ∧ FM sn u t.2.2) (fun q r => ∃ u1, q.1 = r.1 ∧ RS q.2 u1 k sn L ∧ IS u1 sn L G M ∧ FC k v q.2 ∧ FM sn u u1 ∧ r.2 = pu (if u1 sn 0 - u1 sn 0 / 7 * 7 = 6 then up u1 (sn + 7) (groN (u1 (sn + 7)) 36) else u1) sn 0 (u1 sn 0 + 1)) O ?_ ?_ z z 0 (0, 0, v) (0, 0, u) ⟨rfl, rfl, rfl, hR, hI, FC.rfl', FM.rfl'⟩ (by omega) (by omega) (by omega)
  · intro K K' s t ⟨e0, e1, e2, hR, hI, hC, hM⟩
    have hP := hP.fr hC hM hk hn hs
    obtain ⟨c, i1, v1⟩ := s
    obtain ⟨d, i2, u1⟩ := t
    simp only at e0 e1 e2 hR hI hC hM hP
    subst e0 e1 e2
    refine ⟨(c, v1), (c, pu (if u1 sn 0 - u1 sn 0 / 7 * 7 = 6 then up u1 (sn + 7) (groN (u1 (sn + 7)) 36) else u1) sn 0 (u1 sn 0 + 1)), ?_, ?_, u1, rfl, hR, hI, hC, hM, rfl⟩
    · unfold b_Days_followOrders_4
      simp only [hP.2.1.2.2.2.2]
      rw [if_pos (by rw [le_n (by omega) (by omega)]; exact Nat.le_refl _)]
    · unfold b_Model_dayOn_9
      simp only [hP.2.2.1.2.2.2.2]
      rw [if_pos (by rw [le_n (by omega) (by omega)]; exact Nat.le_refl _)]
      exact grow_all_m (by omega) hz
  · intro K K' i s t hi ⟨e0, e1, e2, hR, hI, hC, hM⟩
    have hP := hP.fr hC hM hk hn hs
    have hX := hX.fr hC hM hk hn hs
    obtain ⟨c, i1, v1⟩ := s
    obtain ⟨d, i2, u1⟩ := t
    simp only at e0 e1 e2 hR hI hC hM hP hX
    subst e0 e1 e2
    obtain ⟨b, w, a, q1, q2, q3, q4, q5⟩ := would_two hP hX hR hI hk hn hs hz hi
    have cc : b_Days_followOrders_4 z k K (c, nI i, v1) = if q_b b = 0 then K (c, nI (i + 1), w) else (f_Days_carryOut z w k (nI i)).bind fun q25 => K (c + 1, nI (i + 1), q25) := by
      unfold b_Days_followOrders_4 j_Days_followOrders_31
      simp only [hP.2.1.2.2.2.2]
      rw [if_neg (by rw [le_n (by omega) (by omega)]; omega), q1, ob, ni_s]
    have cm : b_Model_dayOn_9 z sp sn K' (c, nI i, u1) = (if q_b b = 0 then some (false, a) else mcarry z a sp sn (nI i)).bind fun q24 => if (q_b q24.1) = 0 then K' (c + q_b false, nI (i + 1), q24.2) else K' (c + q_b true, nI (i + 1), q24.2) := by
      unfold b_Model_dayOn_9 j_Model_dayOn_35
      simp only [hP.2.2.1.2.2.2.2]
      rw [if_neg (by rw [le_n (by omega) (by omega)]; omega), carry_eq, q2, ob, ni_s]
    rw [cc, cm]
    have hRw := hR.fr q3 q4 (by omega)
    have hIw := hI.fr q4 (by omega)
    cases b
    · refine Or.inl ⟨(c, nI (i + 1), w), (c + q_b false, nI (i + 1), a), rfl, rfl, ?_, rfl, rfl, hRw, hIw, hC.tr q3.fc, hM.tr q4.fm⟩
      show c = c + 0
      rw [Int32.add_zero]
    · have hPw := hP.fr q3.fc (sn := sn) q4.fm hk hn hs
      have hXw := hX.fr q3.fc (sn := sn) q4.fm hk hn hs
      have hcs : CS a sp sn i (worth a sn (cs i)) := by
        have := q5 rfl
        rw [worth_eq (u := u1) (u' := a) fun p _ _ => q4.1 p (by omega)]
        unfold CS at this ⊢
        have hU : ∀ p, p ≠ 149 → a p = u1 p := q4.1
        simp (disch := omega) only [hU]
        exact this
      obtain ⟨w2, a2, r1, r2, r3, r4, r5, r6⟩ := carry_two hPw hXw hRw hIw hk hn hs hz hi hcs
      refine Or.inl ⟨(c + 1, nI (i + 1), w2), (c + q_b true, nI (i + 1), a2), ?_, ?_, rfl, rfl, rfl, r3, r4, (hC.tr q3.fc).tr r5, (hM.tr q4.fm).tr r6⟩
      · rw [if_neg (by decide), r1, ob]
      · rw [if_neg (by decide), r2, ob]
        rfl
theorem RS.grow (h : RS v u k sn L) : RS (up v (k + 15) (groN (v (k + 15)) 36)) (up u (sn + 7) (groN (u (sn + 7)) 36)) k sn L := h.d fun i hi => by
  unfold groN
  rw [if_pos hi, if_pos hi, h.2.2.2.2.2.2.2.1 i hi]
/-- a day -/
theorem day_two (hP : PL v u sp S G M L O) (hX : PX z v u sp L G M O cs ct) (hR : RS v u k sn L) (hI : IS u sn L G M) (hk : k = 97 ∨ k = 123) (hn : sn = 173 ∨ sn = 183) (hs : sp = 151 ∨ 194 ≤ sp) (hz : 4000 < z) :
    ∃ (x : Int32) (v1 u1 : Va), f_Model_dayOn z u sp sn = some (x, u1) ∧ (∀ (K : Int32 × Int32 × Va → Option (Int32 × Va)) (c d a1 : Int32), ¬ a1 ≤ d → b_Days_goOn_4 z k a1 K (c, d, v) = K (c + x, d + 1, v1)) ∧ RS v1 u1 k sn L ∧ IS u1 sn L G M ∧ FC k v v1 ∧ FM sn u u1 := by
  obtain ⟨va, ua, l1, l2, l3, l4, l5, l6⟩ := lose_two hP hR hI hk hn hs hz
  have hPa := hP.fr l5 l6 hk hn hs
  have hXa := hX.fr l5 l6 hk hn hs
  obtain ⟨⟨x, vb⟩, ⟨x', ur⟩, o1, o2, ub, o3, o4, o5, o6, o7, o8⟩ := orders_two hPa hXa l3 l4 hk hn hs hz
  simp only at o3 o4 o6 o8
  subst o3
  have hm : f_Model_dayOn z u sp sn = some (x, ur) := by
    unfold f_Model_dayOn
    rw [l2, ob, o2]
  have hc : ∀ (K : Int32 × Int32 × Va → Option (Int32 × Va)) (c d a1 : Int32), ¬ a1 ≤ d → b_Days_goOn_4 z k a1 K (c, d, v) = if ub sn 0 - ub sn 0 / 7 * 7 = 6 then K (c + x, d + 1, pu (up vb (k + 15) (groN (vb (k + 15)) 36)) k 1 (ub sn 0 + 1)) else K (c + x, d + 1, pu vb k 1 (ub sn 0 + 1)) := by
    intro K c d a1 hd
    unfold b_Days_goOn_4 j_Days_goOn_48
    rw [if_neg hd, l1, ob, o1, ob]
    simp only [o4.1.1]
    rw [grow_all_c hz, ob]
    simp (disch := omega) only [bd, up_ne, o4.1.1]
  by_cases h6 : ub sn 0 - ub sn 0 / 7 * 7 = 6
  · rw [if_pos h6] at o8
    subst o8
    refine ⟨x, _, _, hm, fun K c d a1 hd => by rw [hc K c d a1 hd, if_pos h6], o4.grow.f (j := 0) (by omega) rfl, (o5.d o5.2.2.2.2.1.grow).f (by omega), ?_, ?_⟩
    · exact (l5.tr o6).tr ((FC.up (by omega) (by omega)).tr (FC.pu (by omega) (by omega)))
    · exact (l6.tr o7).tr ((FM.up (by omega) (by omega) (by omega)).tr (FM.pu (by omega) (by omega) (by omega)))
  · rw [if_neg h6] at o8
    subst o8
    refine ⟨x, _, _, hm, fun K c d a1 hd => by rw [hc K c d a1 hd, if_neg h6], o4.f (j := 0) (by omega) rfl, o5.f (by omega), ?_, ?_⟩
    · exact (l5.tr o6).tr (FC.pu (by omega) (by omega))
    · exact (l6.tr o7).tr (FM.pu (by omega) (by omega) (by omega))
/-- days -/
theorem days_two (hP : PL v u sp S G M L O) (hX : PX z v u sp L G M O cs ct) (hR : RS v u k sn L) (hI : IS u sn L G M) (hk : k = 97 ∨ k = 123) (hn : sn = 173 ∨ sn = 183) (hs : sp = 151 ∨ 194 ≤ sp) (hz : 4000 < z) {d : Nat} (hd : d ≤ 200) :
    ∃ (q r : Int32 × Va), f_Days_goOn z v k (nI d) = some q ∧ f_Model_daysOn z u sp sn (nI d) = some r ∧ q.1 = r.1 ∧ RS q.2 r.2 k sn L ∧ IS r.2 sn L G M ∧ FC k v q.2 ∧ FM sn u r.2 := by
  have hB := hP.1
  refine rp_two (f := b_Days_goOn_4 z k (nI d)) (g := b_Model_daysOn_5 z sp sn (nI d)) (fun i s t => s.1 = t.1 ∧ s.2.1 = nI i ∧ t.2.1 = nI i ∧ RS s.2.2 t.2.2 k sn L ∧ IS t.2.2 sn L G M ∧ FC k v s.2.2 ∧ FM sn u t.2.2) (fun q r => q.1 = r.1 ∧ RS q.2 r.2 k sn L ∧ IS r.2 sn L G M ∧ FC k v q.2 ∧ FM sn u r.2) d ?_ ?_ z z 0 (0, 0, v) (0, 0, u) ⟨rfl, rfl, rfl, hR, hI, FC.rfl', FM.rfl'⟩ (by omega) (by omega) (by omega)
  · intro K K' s t ⟨e0, e1, e2, hR, hI, hC, hM⟩
    refine ⟨(s.1, s.2.2), (t.1, t.2.2), ?_, ?_, e0, hR, hI, hC, hM⟩
    · unfold b_Days_goOn_4
      rw [e1, if_pos (by rw [le_n (by omega) (by omega)]; exact Nat.le_refl _)]
    · unfold b_Model_daysOn_5
      rw [e2, if_pos (by rw [le_n (by omega) (by omega)]; exact Nat.le_refl _)]
  · intro K K' i s t hi ⟨e0, e1, e2, hR, hI, hC, hM⟩
    have hP := hP.fr hC hM hk hn hs
    have hX := hX.fr hC hM hk hn hs
    obtain ⟨c, i1, v1⟩ := s
    obtain ⟨c', i2, u1⟩ := t
    simp only at e0 e1 e2 hR hI hC hM hP hX
    subst e0 e1 e2
    obtain ⟨x, w, a, q1, q2, q3, q4, q5, q6⟩ := day_two hP hX hR hI hk hn hs hz
    refine Or.inl ⟨(c + x, nI (i + 1), w), (c + x, nI (i + 1), a), ?_, ?_, rfl, rfl, rfl, q3, q4, hC.tr q5, hM.tr q6⟩
    · rw [q2 K c (nI i) (nI d) (by rw [le_n (by omega) (by omega)]; omega), ni_s]
    · unfold b_Model_daysOn_5
      simp only
      rw [if_neg (by rw [le_n (by omega) (by omega)]; omega), q1, ob, ni_s]
end
