/-! AN ORDER IS CARRIED OUT -/
section
variable {v u v1 u1 : Va} {k sn sp L G M S O z : Nat} {cs ct : Nat → List Ste}
theorem CS.fr {o : Nat} {x : Int32} (h : CS u1 sp sn o x) (hM : ∀ p, p ≠ 149 → u1 p = u p) (hn : 150 ≤ sn) (hs : 150 ≤ sp) : CS u sp sn o x := by
  unfold CS at h ⊢
  simp (disch := omega) only [hM] at h
  exact h
theorem can_eq {a : Int32} : f_Model_can z u sp sn a = (f_Model_holds z u sp sn a).bind fun q3 => if (q_b q3.1) = 0 then some (false, q3.2) else mrest z q3.2 sp sn a := rfl
theorem would_two (hP : PL v u sp S G M L O) (hX : PX z v u sp L G M O cs ct) (hR : RS v u k sn L) (hI : IS u sn L G M) (hk : k = 97 ∨ k = 123) (hn : sn = 173 ∨ sn = 183) (hs : sp = 151 ∨ 194 ≤ sp) (hz : 4000 < z) {o : Nat} (ho : o < O) :
    ∃ b v1 u1, f_Days_wouldCarryOut z v k (nI o) = some (b, v1) ∧ f_Model_can z u sp sn (nI o) = some (b, u1) ∧ FR k v v1 ∧ FW u u1 ∧ (b = true → CS u sp sn o (worth u sn (cs o))) := by
  have hB := hP.1
  have hT := (hX v u k sn o ho hk hn (fun _ _ _ => rfl) (fun _ _ _ => rfl) hR hI).1
  have c0 : f_Days_wouldCarryOut z v k (nI o) = if v 89 o ≤ v 87 o then j_Days_wouldCarryOut_43 z k (nI o) (v 87 o) v else ((f_Reckoner_reckon z v k (v 87 o) (v 89 o)).bind fun q35 => if q35.1 = 0 then some (false, q35.2) else j_Days_wouldCarryOut_43 z k (nI o) (v 87 o) q35.2) := by
    unfold f_Days_wouldCarryOut
    simp (disch := omega) only [bd, rg]
  have e1 : (pu (pu u 149 11 (nI sn)) 149 10 (u (sp + 21) o)) 149 10 = u (sp + 21) o := by unfold pu; rw [up_eq, upd_eq]
  have e2 : (pu u 149 11 (nI sn)) (sp + 21) o = u (sp + 21) o := by unfold pu; rw [up_ne (by omega)]
  have hF0 : FW u (pu (pu u 149 11 (nI sn)) 149 10 (u (sp + 21) o)) := ⟨fun p hp => by unfold pu; rw [up_ne hp, up_ne hp], fun j h1 h2 => by unfold pu; rw [up_eq, upd_ne h1, up_eq, upd_ne h2]⟩
  have m0 : f_Model_holds z u sp sn (nI o) = if u (sp + 21) o = -1 then some (true, pu (pu u 149 11 (nI sn)) 149 10 (u (sp + 21) o)) else ((g_Ev z sp sn 48).1 0 [] (pu (pu u 149 11 (nI sn)) 149 10 (u (sp + 21) o))).bind fun q27 => if (q_b q27.1) = 0 then some (false, q27.2) else some (true, q27.2) := by
    unfold f_Model_holds
    simp (disch := omega) only [bd, gn, ni_c, if_false, e2, e1]
  rw [c0, can_eq, m0]
  have tl : ∀ {w a : Va}, FR k v w → FW u a → ∃ b v1 u1, j_Days_wouldCarryOut_43 z k (nI o) (v 87 o) w = some (b, v1) ∧ mrest z a sp sn (nI o) = some (b, u1) ∧ FR k v v1 ∧ FW u u1 ∧ (b = true → CS u sp sn o (worth u sn (cs o))) := by
    intro w a hw ha
    have hP1 := hP.fr hw.fc (sn := sn) ha.fm hk hn hs
    have hX1 := hX.fr hw.fc (sn := sn) ha.fm hk hn hs
    obtain ⟨b, v1, u1, h1, h2, h3, h4, h5⟩ := rest_two hP1 hX1 (hR.fr hw ha (by omega)) (hI.fr ha (by omega)) hk hn hs hz ho
    rw [hw 87 (by omega) (by omega)] at h1
    refine ⟨b, v1, u1, h1, h2, hw.tr h3, ha.tr h4, fun q => ?_⟩
    have := (h5 q).fr ha.1 (by omega) (by omega)
    rwa [worth_eq (u := u) fun p _ _ => ha.1 p (by omega)] at this
  rcases hT with ⟨t1, t2⟩ | ⟨t1, t2, b, w, a, -, t4, t5, t6, t7⟩
  · rw [if_pos t1, if_pos t2, ob]
    simp only [qb, Bool.true_eq_false, if_false]
    exact tl (fun _ _ _ => rfl) hF0
  · rw [if_neg t1, if_neg t2, t4, t6, ob, ob]
    cases b
    · exact ⟨false, w, a, rfl, rfl, t5, t7, fun q => by cases q⟩
    · simp only [qb, Bool.true_eq_false, if_false, ob]
      exact tl t5 t7
theorem RS.f (h : RS v u k sn L) {j : Nat} (hj : j < 5) {y y' : Int32} (e : y = y') : RS (pu v k (j + 1) y) (pu u sn j y') k sn L := by
  subst e
  unfold pu
  refine h.x ?_
  obtain ⟨⟨a, b, c, d, e⟩, -⟩ := h
  unfold upd
  rcases (by omega : j = 0 ∨ j = 1 ∨ j = 2 ∨ j = 3 ∨ j = 4) with rfl | rfl | rfl | rfl | rfl <;> simp [a, b, c, d, e]
theorem IS.f (h : IS u sn L G M) {j : Nat} (hj : j ≠ 1) {y : Int32} : IS (pu u sn j y) sn L G M := h.x (by
  obtain ⟨d, h1, h2⟩ := h.2.2.2.2.2
  exact ⟨d, h1, by rw [upd_ne (by omega)]; exact h2⟩)
theorem FC.pu {q j : Nat} {y : Int32} (h1 : k ≤ q) (h2 : q < k + 26) : FC k v (pu v q j y) := FC.up h1 h2
theorem FM.pu {q j : Nat} {y : Int32} (h0 : 150 ≤ sn) (h1 : sn ≤ q) (h2 : q < sn + 10) : FM sn u (pu u q j y) := FM.up h0 h1 h2
theorem min_id {a b : Int32} (h : b.toInt ≤ a.toInt) : q_min a b = b := by
  apply t_inj; rw [t_min]; omega
theorem price_b {x c : Int32} (h0 : 0 ≤ c.toInt) (h1 : c.toInt ≤ 9000) : 0 ≤ (q_max 0 (q_min 999 x) * c / 100).toInt ∧ (q_max 0 (q_min 999 x) * c / 100).toInt ≤ 89910 := by
  have e0 : (q_max 0 (q_min 999 x)).toInt = max 0 (min 999 x.toInt) := by rw [t_max, t_min]; rfl
  have hq0 : 0 ≤ (q_max 0 (q_min 999 x)).toInt := by rw [e0]; omega
  have hq1 : (q_max 0 (q_min 999 x)).toInt ≤ 999 := by rw [e0]; omega
  have h2 : 0 ≤ (q_max 0 (q_min 999 x)).toInt * c.toInt := Int.mul_nonneg hq0 h0
  have h3 : (q_max 0 (q_min 999 x)).toInt * c.toInt ≤ 999 * c.toInt := Int.mul_le_mul_of_nonneg_right hq1 h0
  have e1 : (q_max 0 (q_min 999 x) * c).toInt = (q_max 0 (q_min 999 x)).toInt * c.toInt := t_mul (by omega) (by omega)
  have e2 : (q_max 0 (q_min 999 x) * c / 100).toInt = (q_max 0 (q_min 999 x)).toInt * c.toInt / 100 := by rw [t_div (n := 100) rfl (by omega) (by rw [e1]; omega), e1]
  rw [e2]; omega
theorem setChop_c {i : Nat} {g x : Int32} (hi : i < 10) (hk : 97 ≤ k) : f_Stand_setChop v k (nI i) g x = some (up (up (up v (k + 6) (upd (v (k + 6)) i g)) (k + 8) (upd (v (k + 8)) i x)) (k + 10) (upd (v (k + 10)) i (v k 1))) := by
  unfold f_Stand_setChop
  simp (disch := omega) only [bd, rs, up_ne]
theorem takeChop_c {i : Nat} (hi : i < 10) (hk : 97 ≤ k) : f_Stand_takeChop v k (nI i) = some (up (up (up v (k + 6) (upd (v (k + 6)) i (-1))) (k + 8) (upd (v (k + 8)) i 0)) (k + 10) (upd (v (k + 10)) i 0)) := by
  unfold f_Stand_takeChop
  simp (disch := omega) only [bd, rs, up_ne]
theorem move_c {a b : Nat} {x : Int32} (ha : a < 6) (hb : b < 6) : f_Stand_moveCoins v k (nI a) (nI b) x = some (up (up v (k + 12) (upd (v (k + 12)) a (v (k + 12) a + -x))) (k + 12) (upd (upd (v (k + 12)) a (v (k + 12) a + -x)) b (upd (v (k + 12)) a (v (k + 12) a + -x) b + x))) := by
  unfold f_Stand_moveCoins
  simp (disch := omega) only [bd, ra, up_eq]
theorem grow_c {a b : Nat} {x : Int32} (ha : a < 6) (hb : b < 6) : f_Debts_grow v (k + 13) (nI a) (nI b) x = some (up v (k + 15) (upd (v (k + 15)) (6 * a + b) (q_min 99999 (v (k + 15) (6 * a + b) + x)))) := by
  unfold f_Debts_grow
  rw [six_l]
  simp (disch := omega) only [bd, rg, rs]
/-- a lot is weighed -/
theorem weigh_two (hP : PL v u sp S G M L O) (hR : RS v u k sn L) (hI : IS u sn L G M) (hk : k = 97 ∨ k = 123) (hn : sn = 173 ∨ sn = 183) (hs : sp = 151 ∨ 194 ≤ sp) {i j m : Nat} (hi : i < L) (hj : j < G) (hm : m < 6) (em : u (sn + 2) i = nI m) (hc : u (sp + 8) j ≤ u (sn + 6) m) :
    ∃ v1 u1, f_Days_weigh v k (nI i) (nI j) = some v1 ∧ f_Model_weigh u sp sn (nI i) (nI j) = some u1 ∧ RS v1 u1 k sn L ∧ IS u1 sn L G M ∧ FC k v v1 ∧ FM sn u u1 := by
  have hB := hP.1
  obtain ⟨e65, e67, ⟨x, hx, ex⟩, y, hy, ey⟩ := hP.2.2.2.2.1 j hj
  have hw := hR.2.1 i (by omega)
  have hW := hI.1.1 i hi
  have ho : v (k + 4) i = nI m := (hR.2.2.1 i hi).trans em
  have hcc := hR.2.2.2.2.2.2.1
  have a1 := hR.c (eqN_upd hcc m (show v (k + 12) m + -u (sp + 8) j = u (sn + 6) m - u (sp + 8) j by rw [hcc m hm, Int32.sub_eq_add_neg]))
  have b1 := hI.c (hI.2.2.2.1.pays hm (by rw [ex, ni_t (by omega)]; omega) (t_le.mp hc)).1
  have a2 := a1.e (eqN_upd a1.2.2.2.2.2.2.2.2.1 j (show up v (k + 12) (upd (v (k + 12)) m (v (k + 12) m + -u (sp + 8) j)) (k + 19) j + u (sp + 8) j = up u (sn + 6) (upd (u (sn + 6)) m (u (sn + 6) m - u (sp + 8) j)) (sn + 8) j + u (sp + 8) j by rw [a1.2.2.2.2.2.2.2.2.1 j (by omega)]))
  have b2 := b1.e (f := upd (up u (sn + 6) (upd (u (sn + 6)) m (u (sn + 6) m - u (sp + 8) j)) (sn + 8)) j (up u (sn + 6) (upd (u (sn + 6)) m (u (sn + 6) m - u (sp + 8) j)) (sn + 8) j + u (sp + 8) j))
  generalize hv2 : up (up v (k + 12) (upd (v (k + 12)) m (v (k + 12) m + -u (sp + 8) j))) (k + 19) (upd (up v (k + 12) (upd (v (k + 12)) m (v (k + 12) m + -u (sp + 8) j)) (k + 19)) j (up v (k + 12) (upd (v (k + 12)) m (v (k + 12) m + -u (sp + 8) j)) (k + 19) j + u (sp + 8) j)) = v2 at a2
  generalize hu2 : up (up u (sn + 6) (upd (u (sn + 6)) m (u (sn + 6) m - u (sp + 8) j))) (sn + 8) (upd (up u (sn + 6) (upd (u (sn + 6)) m (u (sn + 6) m - u (sp + 8) j)) (sn + 8)) j (up u (sn + 6) (upd (u (sn + 6)) m (u (sn + 6) m - u (sp + 8) j)) (sn + 8) j + u (sp + 8) j)) = u2 at a2 b2
  have hCv : FC k v v2 := by rw [← hv2]; exact (FC.up (by omega) (by omega)).tr (FC.up (by omega) (by omega))
  have hMu : FM sn u u2 := by rw [← hu2]; exact (FM.up (by omega) (by omega) (by omega)).tr (FM.up (by omega) (by omega) (by omega))
  have hwb : 0 ≤ (u (sn + 1) i - u (sn + 1) i * u (sp + 9) j / 100).toInt ∧ (u (sn + 1) i - u (sn + 1) i * u (sp + 9) j / 100).toInt ≤ 9000 := by
    have h1 : (0 : Int) ≤ (u (sn + 1) i).toInt * y := Int.mul_nonneg hW.1 (by omega)
    have h2 : (u (sn + 1) i).toInt * y ≤ (u (sn + 1) i).toInt * 20 := Int.mul_le_mul_of_nonneg_left (by omega) hW.1
    have e1 : (u (sn + 1) i * u (sp + 9) j).toInt = (u (sn + 1) i).toInt * y := by rw [ey, t_mul, ni_t (by omega)] <;> rw [ni_t (by omega)] <;> omega
    have e3 : (u (sn + 1) i * u (sp + 9) j / 100).toInt = (u (sn + 1) i).toInt * y / 100 := by rw [t_div (n := 100) rfl (by omega) (by rw [e1]; omega), e1]
    have e4 : (u (sn + 1) i - u (sn + 1) i * u (sp + 9) j / 100).toInt = (u (sn + 1) i).toInt - (u (sn + 1) i).toInt * y / 100 := by rw [t_sub, e3] <;> rw [e3] <;> omega
    rw [e4]; omega
  have hw2 : v2 (k + 2) = v (k + 2) := by rw [← hv2]; simp (disch := omega) only [up_ne]
  have hx2 : u2 (sn + 1) = u (sn + 1) := by rw [← hu2]; simp (disch := omega) only [up_ne]
  have hq2 : u2 (sp + 9) = u (sp + 9) := hMu.1 _ (by omega) (by omega)
  have a3 := a2.chop (i := i) (g := nI j) (x := u (sn + 1) i - u (sn + 1) i * u (sp + 9) j / 100) (d := u2 sn 0) (by intro q; rw [eq_m1 (by omega)] at q; exact q)
  have b3 := b2.chop (d := upd (u2 (sn + 5)) i (u2 sn 0)) (b2.2.2.1.set (i := i) hj hwb)
  generalize hv3 : up (up (up v2 (k + 6) (upd (v2 (k + 6)) i (nI j))) (k + 8) (upd (v2 (k + 8)) i (u (sn + 1) i - u (sn + 1) i * u (sp + 9) j / 100))) (k + 10) (upd (v2 (k + 10)) i (u2 sn 0)) = v3 at a3
  generalize hu3 : up (up (up u2 (sn + 3) (upd (u2 (sn + 3)) i (nI j))) (sn + 4) (upd (u2 (sn + 4)) i (u (sn + 1) i - u (sn + 1) i * u (sp + 9) j / 100))) (sn + 5) (upd (u2 (sn + 5)) i (u2 sn 0)) = u3 at a3 b3
  have hCv3 : FC k v2 v3 := by rw [← hv3]; exact ((FC.up (by omega) (by omega)).tr (FC.up (by omega) (by omega))).tr (FC.up (by omega) (by omega))
  have hMu3 : FM sn u2 u3 := by rw [← hu3]; exact ((FM.up (by omega) (by omega) (by omega)).tr (FM.up (by omega) (by omega) (by omega))).tr (FM.up (by omega) (by omega) (by omega))
  refine ⟨pu v3 k 4 (v3 k 4 + 1), pu u3 sn 3 (u3 sn 3 + 1), ?_, ?_, a3.f (j := 3) (by omega) (by rw [a3.1.2.2.2.1]), b3.f (by omega), (hCv.tr hCv3).tr (FC.pu (by omega) (by omega)), (hMu.tr hMu3).tr (FM.pu (by omega) (by omega) (by omega))⟩
  · unfold f_Days_weigh
    simp (disch := omega) only [bd, rg, ra, ho, e65]
    rw [hv2, setChop_c (by omega) (by omega), ob, hCv 67 (by omega), e67, hw, a2.1.1, hv3]
  · unfold f_Model_weigh
    simp (disch := omega) only [bd, gn, ni_c, if_false, em]
    have q1 : pu u (sn + 6) m (u (sn + 6) m - u (sp + 8) j) (sp + 8) j = u (sp + 8) j := by unfold pu; rw [up_ne (by omega)]
    rw [q1]
    have q2 : pu (pu u (sn + 6) m (u (sn + 6) m - u (sp + 8) j)) (sn + 8) j (pu u (sn + 6) m (u (sn + 6) m - u (sp + 8) j) (sn + 8) j + u (sp + 8) j) = u2 := hu2
    rw [q2]
    have q3 : pu u2 (sn + 3) i (nI j) = up u2 (sn + 3) (upd (u2 (sn + 3)) i (nI j)) := rfl
    rw [q3]
    unfold pu
    simp (disch := omega) only [up_ne]
    rw [hx2, hq2, hu3, show u3 sn = u2 sn by rw [← hu3]; simp (disch := omega) only [up_ne]]
end
