/-! TEACH, on both sides -/
def T7 (v : Va) : Va := pu (pu v 149 0 0) 149 3 (-1)
def T14 (sh : Sh) (v : Va) (n : Nat) : Sh × Va := K_Sheet (kO (sh, T7 v) n 11 sh0) n
section
variable {z sp n nb : Nat} {sh : Sh} {v v1 : Va}
theorem t14 (hn : 194 ≤ n) : isSheet (T14 sh v n).1 n ∧ FSH n (T14 sh v n).2 ∧ (∀ q, q < n → (T14 sh v n).1 q = sh q) ∧ (∀ p, p < n → p ≠ 149 → (T14 sh v n).2 p = v p) ∧ (∀ j, j ≠ 0 → j ≠ 3 → (T14 sh v n).2 149 j = v 149 j) ∧ (T14 sh v n).2 149 3 = -1 := by
  obtain ⟨u10, e10⟩ : ∃ u, kO (sh, T7 v) n 11 sh0 = u := ⟨_, rfl⟩
  have z0 : u10.2 n = fun _ => 0 := by rw [← e10]; exact up_eq _ _ _
  have lo : ∀ q, q < n → u10.1 q = sh q ∧ u10.2 q = (T7 v) q := fun q hq => low_kO e10 (by omega)
  obtain ⟨h1, h2, h3⟩ := sheet_k (r := T14 sh v n) z0 (by unfold T14; rw [e10])
  have f9 : (T14 sh v n).2 149 = (T7 v) 149 := (h3 149 (by omega)).2.trans (lo 149 (by omega)).2
  refine ⟨h1, ⟨⟨?_, ?_, ?_, ?_, ?_⟩, fun i => ?_, fun i => ?_⟩, fun q hq => (h3 q hq).1.trans (lo q hq).1, fun p hp h9 => ?_, fun j j0 j3 => ?_, ?_⟩
  · have := h2 0 (by omega); rw [Nat.add_zero] at this; rw [this]
  · have := h2 0 (by omega); rw [Nat.add_zero] at this; rw [this]
  · have := h2 0 (by omega); rw [Nat.add_zero] at this; rw [this]
  · have := h2 0 (by omega); rw [Nat.add_zero] at this; rw [this]
  · have := h2 0 (by omega); rw [Nat.add_zero] at this; rw [this]
  · rw [h2 11 (by omega)]
  · rw [h2 15 (by omega)]
  · rw [(h3 p hp).2, (lo p hp).2]; unfold T7 pu; rw [up_ne h9, up_ne h9]
  · rw [f9]; unfold T7 pu; rw [up_eq, upd_ne j3, up_eq, upd_ne j0]
  · rw [f9]; unfold T7 pu; rw [up_eq, upd_eq]
theorem s_teach (hz : 4000 < z) (h : Inv z v sp) (hn : 194 ≤ n) (hsp : sp + 22 ≤ n) (hm : isModel sh sp) :
    ∃ x v1 sh' v2 sp', f_Quay_teach z v = some (x, v1) ∧ f_Model_teach z sh v1 sp n = some (x, sh', v2, n + 22) ∧ Inv z v2 sp' ∧ sp' + 22 ≤ n + 22 ∧ isModel sh' sp' ∧ ∀ q, q < n → q ≠ 149 → sh' q = sh q := by
  obtain ⟨S, G, M, L, O, cs, ct, hs, hP, hX, hR, hI, ⟨nb, n1, n2, n3, n4⟩, t9, t49, t52, t55, t58⟩ := h
  -- the class reads
  have hFd : FSH n (fun p => if p = 149 then v 149 else if p = 150 then v 150 else fun _ => 0) := by
    have e : ∀ p, p ≠ 149 → p ≠ 150 → (fun p => if p = 149 then v 149 else if p = 150 then v 150 else fun _ => 0 : Va) p = fun _ => 0 := fun p a b => by simp only; rw [if_neg a, if_neg b]
    unfold FSH
    rw [e n (by omega) (by omega), e (n + 11) (by omega) (by omega), e (n + 15) (by omega) (by omega)]
    exact ⟨⟨rfl, rfl, rfl, rfl, rfl⟩, fun _ => rfl, fun _ => rfl⟩
  obtain ⟨v1, a, ud, pl, r1, r2, r3, -, r5, r6, -, -, r9⟩ := read_both (sp := sp) (k1 := n) hz hn n1 n2 (u := fun p => if p = 149 then v 149 else if p = 150 then v 150 else fun _ => 0) n3 rfl n4 ⟨t49, t52, t55, t58⟩ hFd
  obtain ⟨vc, evc⟩ : ∃ x, pu (pu a.2 0 9 pl) 0 8 0 = x := ⟨_, rfl⟩
  have vcp : ∀ p, p ≠ 0 → vc p = a.2 p := fun p hp => by rw [← evc]; unfold pu; rw [up_ne hp, up_ne hp]
  have vc8 : vc 0 8 = 0 := by rw [← evc]; unfold pu; rw [up_eq, upd_eq]
  have vc9 : vc 0 9 = pl := by rw [← evc]; unfold pu; rw [up_eq, upd_ne (by omega), up_eq, upd_eq]
  have vcv : ∀ p, 61 ≤ p → vc p = v p := fun p hp => (vcp p (by omega)).trans (r5 p (Or.inr (Or.inr hp)))
  have hqt : f_Quay_teach z v = if a.1 = 0 then ((f_Plan_copyFrom vc 61 13).bind fun q50 => (f_Stand_begin z q50 97).bind fun q57 => some (a.1, q57)) else some (a.1, vc) := by
    unfold f_Quay_teach
    rw [r1, ob, r2, ob, r3, ob, bd, bd, evc]
  -- the reference reads behind it
  have model : ∀ y : Va, y 149 = v 149 → y 150 = v 150 → ∃ u2, f_Model_read z (T14 sh y n).2 sp n = some (a.1, u2) ∧ (∀ p, p < n → p ≠ 149 → u2 p = y p) ∧ (∀ j, j ≠ 0 → j ≠ 3 → j ≠ 4 → j ≠ 5 → u2 149 j = y 149 j) ∧
      (((¬ a.1 = 0) ∧ u2 149 3 = pl ∧ 0 < a.1) ∨ (a.1 = 0 ∧ pl = -1 ∧ u2 149 3 = -1 ∧ ∃ w, GOT z n w u2 ∧ a.2 = E4 w)) := fun y y9 y0 => by
    obtain ⟨g1, g2, g3, g4, g5, g6⟩ := t14 (sh := sh) (v := y) hn
    obtain ⟨v1', a', u2, pl', q1, q2, q3, q4, -, -, q7, q8, q9⟩ := read_both (sp := sp) (k1 := n) hz hn n1 n2 (u := (T14 sh y n).2) (by rw [g5 2 (by omega) (by omega), y9]; exact n3) (by rw [g4 150 (by omega) (by omega), y0]) n4 ⟨t49, t52, t55, t58⟩ g2
    have e1 : v1' = v1 := Option.some.inj (q1.symm.trans r1)
    subst e1
    have e2 : a' = a := Option.some.inj (q2.symm.trans r2)
    subst e2
    have e3 : pl' = pl := Option.some.inj (q3.symm.trans r3)
    subst e3
    refine ⟨u2, q4, fun p h1 h2 => (q7 p h1 h2).trans (g4 p h1 h2), fun j j0 j3 j4 j5 => (q8 j j3 j4 j5).trans (g5 j j0 j3), ?_⟩
    rcases q9 with q | ⟨qa, qb, qc, qd⟩
    · exact Or.inl q
    · exact Or.inr ⟨qa, qb, qc.trans g6, qd⟩
  have h14 : ∀ y : Va, isSheet (T14 sh y n).1 n ∧ ∀ q, q < n → (T14 sh y n).1 q = sh q := fun y => by
    obtain ⟨g1, -, g3, -⟩ := t14 (sh := sh) (v := y) hn
    exact ⟨g1, g3⟩
  have hmt : ∀ (y u2 : Va), f_Model_read z (T14 sh y n).2 sp n = some (a.1, u2) → f_Model_teach z sh y sp n = if a.1 ≤ 0 then (bnd (kR ((T14 sh y n).1, pu u2 149 2 0) 149 13 [0, 153, 0, 0, 0, 0, (n + 3), 176, 186, 196, 0, 1] 6 0) fun u37 => (f_Model_teachB z u37.2 n).bind fun q40 => some (q40.1, u37.1, q40.2, n + 22)) else some (a.1, (T14 sh y n).1, pu u2 149 2 0, n + 22) := fun y u2 hr => by
    unfold f_Model_teach
    rw [bd, bd, bd, bd]
    have hr' : f_Model_read z (K_Sheet (kO (sh, pu (pu y 149 0 0) 149 3 (-1)) n 11 sh0) n).2 sp n = some (a.1, u2) := hr
    rw [hr', ob, bd]
    rfl
  by_cases ha : a.1 = 0
  · -- no error
    rw [if_pos ha] at hqt
    obtain ⟨qq, p1, p2⟩ := cp_plan vc
    have r9' : ∃ w, GOT z n w ud ∧ a.2 = E4 w := by
      rcases r9 with ⟨hh, -⟩ | ⟨-, -, -, hh⟩
      · exact absurd ha hh
      · exact hh
    obtain ⟨wd, ⟨knd, ntd, u0d, -, ⟨Nd, nd, Od, Omd, sd, hSd, -, -⟩, -⟩, ed⟩ := r9'
    obtain ⟨-, hNd, -⟩ := hSd
    obtain ⟨md0, md1, -, -⟩ := hNd 2 (by omega)
    obtain ⟨ld0, ld1, -, -⟩ := hNd 3 (by omega)
    have md1 : Nd 2 ≤ 6 := md1
    have ld1 : Nd 3 ≤ 10 := ld1
    have md0 : wd 55 2 = nI (Nd 2) := md0
    have ld0 : wd 58 2 = nI (Nd 3) := ld0
    obtain ⟨Ed0, Ed1, Ed2, Ed3, Ed4⟩ := E4_13 (w := wd)
    have k2 : qq 61 2 = nI (Nd 2) := by rw [p2.2.1.2.2.1, vcp 13 (by omega), ed, Ed2]; exact md0
    have k3 : qq 61 3 = nI (Nd 3) := by rw [p2.2.1.2.2.2.1, vcp 13 (by omega), ed, Ed3]; exact ld0
    obtain ⟨y, y1, y2⟩ := sb_c md1 ld1 k2 k3 hz
    rw [p1, ob, y1, ob] at hqt
    have yv : ∀ p, 119 ≤ p → y p = v p := fun p hp => by rw [y2.1 p (Or.inr hp), p2.1 p (by omega), vcv p (by omega)]
    obtain ⟨u2, m1, m2, m3, m4⟩ := model y (yv 149 (by omega)) (yv 150 (by omega))
    have hmt' := hmt y u2 m1
    have ht : ∃ w, GOT z n w u2 ∧ a.2 = E4 w ∧ pl = -1 ∧ u2 149 3 = -1 := by
      rcases m4 with ⟨hh, -⟩ | ⟨-, hh1, hh2, w, hh3, hh4⟩
      · exact absurd ha hh
      · exact ⟨w, hh3, hh4, hh1, hh2⟩
    obtain ⟨w, ⟨kn, nt, u0, hGH, ⟨N, nn, OO, Om, s, hS, hnn, hOm⟩, hZ⟩, ew, epl, e3⟩ := ht
    subst hnn
    subst hOm
    rw [if_pos (by rw [ha]; decide), bd] at hmt'
    obtain ⟨u37, e37⟩ : ∃ x, kR ((T14 sh y n).1, pu u2 149 2 0) 149 13 [0, 153, 0, 0, 0, 0, (n + 3), 176, 186, 196, 0, 1] 6 0 = x := ⟨_, rfl⟩
    rw [e37] at hmt'
    obtain ⟨u', b1, b2⟩ := tb_m (v := u37.2) hn hz
    rw [b1, ob] at hmt'
    have d37 : ∀ p, p ≠ 149 → u37.2 p = u2 p := fun p hp => by
      rw [← e37]
      show (up (pu u2 149 2 0) 149 _) p = _
      rw [up_ne hp]; unfold pu; rw [up_ne hp]
    have d379 : ∀ j, j ≠ 6 → u37.2 149 j = (pu u2 149 2 0) 149 j := fun j hj => by
      rw [← e37]
      show (up (pu u2 149 2 0) 149 (upd ((pu u2 149 2 0) 149) 6 0)) 149 j = _
      rw [up_eq, upd_ne hj]
    have hu' : ∀ p, p < 149 → u' p = y p := fun p hp => by rw [b2.1 p (by omega), d37 p (by omega), m2 p (by omega) (by omega)]
    have hun : ∀ p, n ≤ p → p < n + 22 → u' p = u2 p := fun p a b => by rw [b2.1 p (by omega), d37 p (by omega)]
    have hvq : ∀ p, 61 ≤ p → p < 97 → u' p = qq p := fun p a b => by rw [hu' p (by omega), y2.1 p (Or.inl b)]
    have hxe : ∀ p, p ≠ 0 → vc p = (E4 w) p := fun p hp => (vcp p hp).trans (by rw [ew])
    -- the same numbers of merchants and lots
    obtain ⟨me0, me1, -, -⟩ := hS.2.1 2 (by omega)
    obtain ⟨le0, le1, -, -⟩ := hS.2.1 3 (by omega)
    have me1 : N 2 ≤ 6 := me1
    have le1 : N 3 ≤ 10 := le1
    have me0 : w 55 2 = nI (N 2) := me0
    have le0 : w 58 2 = nI (N 3) := le0
    obtain ⟨E0, E1, E2, E3, E5⟩ := E4_13 (w := w)
    have eM : Nd 2 = N 2 := by
      have : nI (Nd 2) = nI (N 2) := by rw [← k2, p2.2.1.2.2.1, hxe 13 (by omega), E2, me0]
      rw [eq_n (by omega) (by omega)] at this; exact this
    have eL : Nd 3 = N 3 := by
      have : nI (Nd 3) = nI (N 3) := by rw [← k3, p2.2.1.2.2.2.1, hxe 13 (by omega), E3, le0]
      rw [eq_n (by omega) (by omega)] at this; exact this
    rw [eM, eL] at y2
    have hPL : PL u' u' n (N 0) (N 1) (N 2) (N 3) OO := pl_got hS p2 hxe hvq hun
    have h173 : u37.2 173 = v 173 := by rw [d37 173 (by omega), m2 173 (by omega) (by omega), yv 173 (by omega)]
    have q97 : qq 97 = v 97 := by rw [p2.1 97 (by omega), vcv 97 (by omega)]
    obtain ⟨hRS, hIS⟩ := rs_got (t0 := u37.2) hS hZ p2 hxe y2 b2 (fun p a b => hu' p (by omega)) (fun p a b => d37 p (by omega)) (by rw [q97, h173]; exact ⟨hR.1.1, hR.1.2.1⟩) (by rw [h173]; exact hI.2.2.2.2.2)
    have hPX := px_got (v := u') hz hn hGH.1 hS hZ (fun i hi => by
      obtain ⟨-, -, -, -, -, -, -, -, -, -, -, -, -, -, -, -, -, z1, z2, z3⟩ := p2
      rw [hvq 92 (by omega) (by omega), hvq 94 (by omega) (by omega), hvq 96 (by omega) (by omega), z1 i hi, z2 i hi, z3 i hi, hxe 44 (by omega), hxe 46 (by omega), hxe 48 (by omega), E4_ne (by omega), E4_ne (by omega), E4_ne (by omega)]
      exact ⟨rfl, rfl, rfl⟩) (fun o ho => by
      obtain ⟨-, -, -, -, -, -, -, -, -, -, -, -, -, z1, z2, z3, -⟩ := p2
      rw [hvq 85 (by omega) (by omega), hvq 87 (by omega) (by omega), hvq 89 (by omega) (by omega), z1 o ho, z2 o ho, z3 o ho, hxe 37 (by omega), hxe 39 (by omega), hxe 41 (by omega), E4_ne (by omega), E4_ne (by omega), E4_ne (by omega)]
      exact ⟨rfl, rfl, rfl⟩) hun
    have hTP : TP u' := by
      have e49 : ∀ p, 49 ≤ p → p < 61 → u' p = a.2 p := fun p a b => by rw [hu' p (by omega), y2.1 p (by omega), p2.1 p (by omega), vcp p (by omega)]
      have e00 : u' 0 = vc 0 := by rw [hu' 0 (by omega), y2.1 0 (by omega), p2.1 0 (by omega)]
      have e9 : ∀ j, j ≠ 6 → u' 149 j = (pu u2 149 2 0) 149 j := fun j hj => by rw [b2.1 149 (by omega), d379 j hj]
      obtain ⟨x1, x2, x3, x4⟩ := r6
      refine ⟨⟨0, by omega, by rw [e00]; exact vc8, ?_, fun i hi => by omega⟩, ?_, ?_, ?_, ?_, ?_⟩
      · rw [e9 2 (by omega)]; unfold pu; rw [up_eq, upd_eq]; rfl
      · rw [e00, vc9, epl, e9 3 (by omega)]; unfold pu; rw [up_eq, upd_ne (by omega), e3]
      · rw [e49 49 (by omega) (by omega), x1]; exact t49
      · rw [e49 52 (by omega) (by omega), x2]; exact t52
      · rw [e49 55 (by omega) (by omega), x3]; exact t55
      · rw [e49 58 (by omega) (by omega), x4]; exact t58
    obtain ⟨g1, g3⟩ := h14 y
    have hm2 : isModel (T14 sh y n).1 sp := hm.low g3 hn hsp
    have e371 : u37.1 = up (T14 sh y n).1 149 (some (sO 13 [0, 153, 0, 0, 0, 0, (n + 3), 176, 186, 196, 0, 1])) := by rw [← e37]; rfl
    refine ⟨a.1, y, u37.1, u', n, hqt, by rw [hmt', ha], ⟨_, _, _, _, _, _, _, Or.inr hn, hPL, hPX, hRS, hIS, hTP⟩, Nat.le_refl _, ?_, fun q hq h9 => ?_⟩
    · rw [e371]; exact hm2.link g1 hn
    · rw [e371, up_ne h9]; exact g3 q hq
  · -- an error
    rw [if_neg ha] at hqt
    obtain ⟨u2, m1, m2, m3, m4⟩ := model vc (vcv 149 (by omega)) (vcv 150 (by omega))
    have hmt' := hmt vc u2 m1
    have ht : u2 149 3 = pl ∧ 0 < a.1 := by
      rcases m4 with ⟨-, hh⟩ | ⟨hh, -⟩
      · exact hh
      · exact absurd hh ha
    rw [if_neg (by
      intro q
      have h1 := t_le.mp q
      have h2 := t_lt.mp ht.2
      omega)] at hmt'
    obtain ⟨g1, g3⟩ := h14 vc
    have f2 : ∀ p, p ≠ 149 → (pu u2 149 2 0) p = u2 p := fun p hp => by unfold pu; rw [up_ne hp]
    have f61 : ∀ p, 61 ≤ p → p < n → p ≠ 149 → (pu u2 149 2 0) p = v p := fun p a b c => by rw [f2 p c, m2 p b c, vcv p a]
    obtain ⟨x1, x2, x3, x4⟩ := r6
    have e49 : ∀ p, p < 61 → (pu u2 149 2 0) p = vc p := fun p a => by rw [f2 p (by omega), m2 p (by omega) (by omega)]
    refine ⟨a.1, vc, (T14 sh vc n).1, pu u2 149 2 0, sp, hqt, hmt', ⟨S, G, M, L, O, cs, ct, hs, hP.cong (fun p a b => f61 p (by omega) (by omega) (by omega)) (fun p a b => f61 p (by omega) (by omega) (by omega)), hX.cong (fun p a b => f61 p (by omega) (by omega) (by omega)) (fun p a b => f61 p (by omega) (by omega) (by omega)), hR.cong (fun p a b => f61 p (by omega) (by omega) (by omega)) (fun p a b => f61 p (by omega) (by omega) (by omega)), hI.cong (fun p a b => f61 p (by omega) (by omega) (by omega)), ⟨0, by omega, ?_, ?_, fun i hi => by omega⟩, ?_, ?_, ?_, ?_, ?_⟩, by omega, hm.low g3 hn hsp, fun q hq _ => g3 q hq⟩
    · rw [e49 0 (by omega)]; exact vc8
    · unfold pu; rw [up_eq, upd_eq]; rfl
    · rw [e49 0 (by omega), vc9]; unfold pu; rw [up_eq, upd_ne (by omega), ht.1]
    · rw [e49 49 (by omega), vcp 49 (by omega), x1]; exact t49
    · rw [e49 52 (by omega), vcp 52 (by omega), x2]; exact t52
    · rw [e49 55 (by omega), vcp 55 (by omega), x3]; exact t55
    · rw [e49 58 (by omega), vcp 58 (by omega), x4]; exact t58
end
