/-! THE CLASS RECKONS A ROW OF STEPS: the heap of its numbers is a list -/
/-- the steps that stand from a on, n of them -/
def seg (v : Va) (a : Nat) : Nat → List Ste
  | 0 => []
  | n + 1 => (v 92 a, v 94 a, v 96 a) :: seg v (a + 1) n
/-- the heap as a list, the uppermost first -/
def stk (h : Nat → Int32) : Nat → List Int32
  | 0 => []
  | n + 1 => h n :: stk h n
theorem stk_eq {h h' : Nat → Int32} : ∀ n, eqN n h h' → stk h n = stk h' n
  | 0, _ => rfl
  | n + 1, e => by
    show h n :: stk h n = h' n :: stk h' n
    rw [e n (by omega), stk_eq n (eqN_le e (by omega))]
theorem stk_put {h : Nat → Int32} {n : Nat} {x : Int32} : stk (upd h n x) (n + 1) = x :: stk h n := by
  show upd h n x n :: stk (upd h n x) n = _
  rw [upd_eq, stk_eq n (fun i hi => upd_ne (by omega))]
/-- what a step takes -/
def takes (s : Ste) : Nat := if s.1 = 51 ∨ s.1 = 27 then 1 else if isJ s.1 = true ∨ isC s.1 = true ∨ s.1 = 28 ∨ s.1 = 29 then 2 else 0
/-- a row that leaves one number more, and never takes what isn't there -/
def dep : List Ste → Nat → Option Nat
  | [], n => some n
  | s :: c, n => if takes s ≤ n then dep c (n - takes s + 1) else none
theorem dep_app : ∀ (c d : List Ste) (n : Nat), dep (c ++ d) n = (dep c n).bind (dep d)
  | [], d, n => rfl
  | s :: c, d, n => by
    show (if takes s ≤ n then dep (c ++ d) (n - takes s + 1) else none) = (if takes s ≤ n then dep c (n - takes s + 1) else none).bind (dep d)
    by_cases h : takes s ≤ n
    · rw [if_pos h, if_pos h]; exact dep_app c d _
    · rw [if_neg h, if_neg h]; rfl
theorem run_app {val : Int32 → Int32 → Int32 → Int32} : ∀ (c d : List Ste) (st : List Int32), run val (c ++ d) st = run val d (run val c st)
  | [], _, _ => rfl
  | s :: c, d, st => run_app c d (rstep val s st)
/-- a leaf's places are there -/
def ok_S (M L : Nat) (s : Ste) : Prop :=
  (s.1 = 6 ∨ s.1 = 24 → ∃ m, m < M ∧ s.2.1 = nI m) ∧ (s.1 = 21 ∨ s.1 = 22 ∨ s.1 = 23 → ∃ i, i < L ∧ s.2.1 = nI i) ∧
  (s.1 = 25 → (∃ m, m < M ∧ s.2.1 = nI m) ∧ ∃ m, m < M ∧ s.2.2 = nI m) ∧ (s.1 = 26 → (∃ m, m < M ∧ s.2.1 = nI m) ∧ ∃ i, i < L ∧ s.2.2 = nI i)
theorem joins_e {a : Int32} : f_Kind_joinsSums a = some (isJ a) := by
  unfold f_Kind_joinsSums j_Kind_joinsSums_12 isJ
  have k : ∀ n : Int32, (a = n) ↔ a.toInt = n.toInt := fun n => ⟨fun q => by rw [q], fun q => t_inj q⟩
  simp only [k, t_lt, t_le]
  have e : (38 : Int32).toInt = 38 ∧ (39 : Int32).toInt = 39 ∧ (40 : Int32).toInt = 40 ∧ (41 : Int32).toInt = 41 ∧ (30 : Int32).toInt = 30 ∧ (31 : Int32).toInt = 31 := ⟨rfl, rfl, rfl, rfl, rfl, rfl⟩
  obtain ⟨e1, e2, e3, e4, e5, e6⟩ := e
  rw [e1, e2, e3, e4, e5, e6]
  by_cases h1 : a.toInt < 38
  · rw [if_pos h1]
    by_cases h2 : a.toInt = 30
    · rw [if_pos h2, decide_eq_true (by omega)]
    · rw [if_neg h2]
      by_cases h3 : a.toInt = 31
      · rw [if_pos h3, decide_eq_true (by omega)]
      · rw [if_neg h3, decide_eq_false (by omega)]
  · rw [if_neg h1]
    by_cases h4 : a.toInt ≤ 41
    · rw [if_pos h4, decide_eq_true (by omega)]
    · rw [if_neg h4, if_neg (by omega), if_neg (by omega), decide_eq_false (by omega)]
theorem compares_e {a : Int32} : f_Kind_compares a = some (isC a) := by
  unfold f_Kind_compares isC
  have k : ∀ n : Int32, (a = n) ↔ a.toInt = n.toInt := fun n => ⟨fun q => by rw [q], fun q => t_inj q⟩
  simp only [k, t_lt]
  have e : (42 : Int32).toInt = 42 ∧ (43 : Int32).toInt = 43 ∧ (44 : Int32).toInt = 44 ∧ (45 : Int32).toInt = 45 ∧ (46 : Int32).toInt = 46 := ⟨rfl, rfl, rfl, rfl, rfl⟩
  obtain ⟨e1, e2, e3, e4, e5⟩ := e
  rw [e1, e2, e3, e4, e5]
  by_cases h1 : a.toInt < 42
  · rw [if_pos h1, decide_eq_false (by omega)]
  · rw [if_neg h1]
    by_cases h2 : 46 < a.toInt
    · rw [if_pos h2, decide_eq_false (by omega)]
    · rw [if_neg h2, decide_eq_true (by omega)]
theorem joinsT_e {a : Int32} : f_Kind_joinsTests a = some (decide (a = 28 ∨ a = 29)) := by
  unfold f_Kind_joinsTests
  by_cases h1 : a = 28
  · rw [if_pos h1, decide_eq_true (Or.inl h1)]
  · rw [if_neg h1]
    by_cases h2 : a = 29
    · rw [if_pos h2, decide_eq_true (Or.inr h2)]
    · rw [if_neg h2, decide_eq_false (fun q => q.elim h1 h2)]
theorem joined_e {a x y : Int32} : f_Reckoner_joined a x y = some (joinJ a x y) := by
  unfold f_Reckoner_joined joinJ
  by_cases h : a = 30
  · rw [if_pos h, if_pos h]
  rw [if_neg h, if_neg h]
  by_cases h : a = 38
  · rw [if_pos h, if_pos h]
  rw [if_neg h, if_neg h]
  by_cases h : a = 39
  · rw [if_pos h, if_pos h]
  rw [if_neg h, if_neg h]
  by_cases h : a = 40
  · rw [if_pos h, if_pos h]
  rw [if_neg h, if_neg h]
  by_cases h : a = 41
  · rw [if_pos h, if_pos h]
    by_cases h0 : y = 0
    · rw [if_pos h0, if_pos h0]
    · rw [if_neg h0, if_neg h0]
  rw [if_neg h, if_neg h]
theorem holds_e {a x y : Int32} : f_Reckoner_holds a x y = some (holdC a x y) := by
  unfold f_Reckoner_holds holdC
  by_cases h : a = 42
  · rw [if_pos h, if_pos h]
    by_cases q : y ≤ x
    · rw [if_pos q, decide_eq_false (Int32.not_lt.mpr q)]
    · rw [if_neg q, decide_eq_true (Int32.not_le.mp q)]
  rw [if_neg h, if_neg h]
  by_cases h : a = 43
  · rw [if_pos h, if_pos h]
    by_cases q : x ≤ y
    · rw [if_pos q, decide_eq_false (Int32.not_lt.mpr q)]
    · rw [if_neg q, decide_eq_true (Int32.not_le.mp q)]
  rw [if_neg h, if_neg h]
  by_cases h : a = 44
  · rw [if_pos h, if_pos h]
    by_cases q : x = y
    · rw [if_pos q, decide_eq_true q]
    · rw [if_neg q, decide_eq_false q]
  rw [if_neg h, if_neg h]
  by_cases h : a = 45
  · rw [if_pos h, if_pos h]
    by_cases q : y < x
    · rw [if_pos q, decide_eq_false (Int32.not_le.mpr q)]
    · rw [if_neg q, decide_eq_true (Int32.not_lt.mp q)]
  rw [if_neg h, if_neg h]
  by_cases q : x < y
  · rw [if_pos q, decide_eq_false (Int32.not_le.mpr q)]
  · rw [if_neg q, decide_eq_true (Int32.not_lt.mp q)]
section
variable {v u w w1 : Va} {k sn L G M z : Nat}
theorem age_m {i : Nat} (hi : i < 10) : f_State_age u sn (nI i) = some (if u (sn + 3) i = -1 then 0 else u sn 0 - u (sn + 5) i) := by
  unfold f_State_age
  rw [if_neg (gd2 (by omega) (by omega)), if_neg (gd2 (by omega) (by omega)), ni_c (by omega)]
  by_cases h : u (sn + 3) i = -1
  · rw [if_pos h, if_pos h]
  · rw [if_neg h, if_neg h]
/-- a leaf is worth the same on both sides -/
theorem leaf_two (hR : RS v u k sn L) (hI : IG (u (sn + 3)) (u (sn + 4)) L G) (hL : L ≤ 10) (hG : G ≤ 4) (hM : M ≤ 6) (hz : 4000 < z) {a b c : Int32} (hk : ok_S M L (a, b, c)) : f_Reckoner_value z v k a b c = some (mval u sn a b c) := by
  obtain ⟨k1, k2, k3, k4⟩ := hk
  simp only at k1 k2 k3 k4
  unfold f_Reckoner_value mval
  by_cases h : a = 6
  · obtain ⟨m, hm, rfl⟩ := k1 (Or.inl h)
    rw [if_pos h, if_pos h, bd, rg (by omega) (by omega), ni_c (by omega), hR.2.2.2.2.2.2.1 m (by omega)]
  rw [if_neg h, if_neg h]
  by_cases h : a = 19
  · rw [if_pos h, if_pos h, hR.1.1]
  rw [if_neg h, if_neg h]
  by_cases h : a = 20
  · rw [if_pos h, if_pos h, hR.1.2.1]
  rw [if_neg h, if_neg h]
  by_cases h : a = 21
  · obtain ⟨i, hi, rfl⟩ := k2 (Or.inl h)
    rw [if_pos h, if_pos h, bd, rg (by omega) (by omega), ni_c (by omega), hR.2.1 i (by omega)]
  rw [if_neg h, if_neg h]
  by_cases h : a = 22
  · obtain ⟨i, hi, rfl⟩ := k2 (Or.inr (Or.inl h))
    rw [if_pos h, if_pos h, bd, rg (by omega) (by omega), ni_c (by omega), hR.2.2.2.2.1 i hi]
  rw [if_neg h, if_neg h]
  by_cases h : a = 23
  · obtain ⟨i, hi, rfl⟩ := k2 (Or.inr (Or.inr h))
    obtain ⟨x, q1, q2⟩ := hR.age hI hL hG hi
    rw [age_m (by omega)] at q2
    rw [if_pos h, if_pos h, q1, ob, ni_c (by omega), ← q2]
  rw [if_neg h, if_neg h]
  by_cases h : a = 24
  · obtain ⟨m, hm, rfl⟩ := k1 (Or.inr h)
    rw [if_pos h, if_pos h, hR.sumOf (by omega) (by omega), ob, ni_c (by omega)]
  rw [if_neg h, if_neg h]
  by_cases h : a = 25
  · obtain ⟨⟨m, hm, rfl⟩, m', hm', rfl⟩ := k3 h
    rw [if_pos h, if_pos h, hR.bet (by omega) (by omega), ob, ni_c (by omega), ni_c (by omega)]
  rw [if_neg h, if_neg h]
  by_cases h : a = 26
  · obtain ⟨⟨m, hm, rfl⟩, i, hi, rfl⟩ := k4 h
    rw [if_pos h, if_pos h, bd, rg (by omega) (by omega), ni_c (by omega), hR.2.2.1 i hi]
    by_cases q : u (sn + 2) i = nI m
    · rw [if_pos q, if_pos q]
    · rw [if_neg q, if_neg q]
  rw [if_neg h, if_neg h]
/-- the heap holds st -/
def HS (w : Va) (k : Nat) (st : List Int32) : Prop := ∃ n, w (k + 23) 3 = nI n ∧ n ≤ 400 ∧ stk (w (k + 25)) n = st
theorem HS.pop {st : List Int32} (h : HS w k st) {x : Int32} {r : List Int32} (e : st = x :: r) : ∃ w1, f_Reckoner_take w k = some (x, w1) ∧ FR k w w1 ∧ HS w1 k r := by
  obtain ⟨n, h1, h2, h3⟩ := h
  subst e
  cases n with
  | zero => cases h3
  | succ n =>
    have h3' : w (k + 25) n :: stk (w (k + 25)) n = x :: r := h3
    obtain ⟨e1, e2⟩ := List.cons.inj h3'
    refine ⟨pu w (k + 23) 3 (nI n), ?_, fun p a b => by unfold pu; rw [up_ne a], n, ?_, by omega, ?_⟩
    · unfold f_Reckoner_take
      rw [bd, bd, h1, ni_sub1]
      have q : (pu w (k + 23) 3 (nI n)) (k + 23) 3 = nI n := by unfold pu; rw [up_eq, upd_eq]
      have q2 : (pu w (k + 23) 3 (nI n)) (k + 25) = w (k + 25) := by unfold pu; rw [up_ne (by omega)]
      rw [q, q2, rg (by omega) (by omega), e1]
    · unfold pu; rw [up_eq, upd_eq]
    · have q2 : (pu w (k + 23) 3 (nI n)) (k + 25) = w (k + 25) := by unfold pu; rw [up_ne (by omega)]
      rw [q2]; exact e2
theorem HS.push {st : List Int32} (h : HS w k st) (hl : st.length < 400) (x : Int32) : ∃ w1, f_Reckoner_put w k x = some w1 ∧ FR k w w1 ∧ HS w1 k (x :: st) := by
  obtain ⟨n, h1, h2, h3⟩ := h
  have hlen : ∀ (f : Nat → Int32) (m : Nat), (stk f m).length = m := by
    intro f m
    induction m with
    | zero => rfl
    | succ m ih => show (stk f m).length + 1 = m + 1; rw [ih]
  have hn : n < 400 := by rw [← h3, hlen] at hl; exact hl
  refine ⟨pu (up w (k + 25) (upd (w (k + 25)) n x)) (k + 23) 3 (nI (n + 1)), ?_, fun p a b => by unfold pu; rw [up_ne a, up_ne b], n + 1, ?_, by omega, ?_⟩
  · unfold f_Reckoner_put
    rw [bd, bd, h1, rs hn (by omega), show (up w (k + 25) (upd (w (k + 25)) n x)) (k + 23) 3 = nI n by rw [up_ne (by omega)]; exact h1, ni_s]
  · unfold pu; rw [up_eq, upd_eq]
  · have q : (pu (up w (k + 25) (upd (w (k + 25)) n x)) (k + 23) 3 (nI (n + 1))) (k + 25) = upd (w (k + 25)) n x := by unfold pu; rw [up_ne (by omega), up_eq]
    rw [q, stk_put, h3]
end
section
variable {v u w w1 : Va} {k sn L G M z : Nat} {st : List Int32}
theorem take2 (h : HS w k st) {x y : Int32} {r : List Int32} (e : st = x :: y :: r) : ∃ w1 w2, f_Reckoner_take w k = some (x, w1) ∧ f_Reckoner_take w1 k = some (y, w2) ∧ FR k w w2 ∧ HS w2 k r := by
  obtain ⟨w1, a1, a2, a3⟩ := h.pop e
  obtain ⟨w2, b1, b2, b3⟩ := a3.pop rfl
  exact ⟨w1, w2, a1, b1, a2.tr b2, b3⟩
theorem two_of {n : Nat} : ∀ {st : List Int32}, n ≤ st.length → n = 2 → ∃ x y r, st = x :: y :: r
  | [], h, e => by simp at h; omega
  | [_], h, e => by simp at h; omega
  | x :: y :: r, _, _ => ⟨x, y, r, rfl⟩
/-- one step -/
theorem step_c (hR : RS v u k sn L) (hI : IG (u (sn + 3)) (u (sn + 4)) L G) (hk : k = 97 ∨ k = 123) (hL : L ≤ 10) (hG : G ≤ 4) (hM : M ≤ 6) (hz : 4000 < z) {i : Nat} (hi : i < 400) (hw : FR k v w) (hS : HS w k st) (hl : st.length < 400)
    (ho : ok_S M L (v 92 i, v 94 i, v 96 i)) (ht : takes (v 92 i, v 94 i, v 96 i) ≤ st.length) {a2 : Int32} (h2 : ¬ a2 ≤ nI i) (K : Int32 × Va → Option (Int32 × Va)) :
    ∃ w1, b_Reckoner_reckon_7 z k a2 K (nI i, w) = K (nI (i + 1), w1) ∧ FR k v w1 ∧ HS w1 k (rstep (mval u sn) (v 92 i, v 94 i, v 96 i) st) := by
  have e92 : w 92 = v 92 := hw 92 (by omega) (by omega)
  have e94 : w 94 = v 94 := hw 94 (by omega) (by omega)
  have e96 : w 96 = v 96 := hw 96 (by omega) (by omega)
  have hRw : RS w u k sn L := hR.cong (fun p a b => hw p (by omega) (by omega)) (fun _ _ _ => rfl)
  unfold b_Reckoner_reckon_7 j_Reckoner_reckon_175 j_Reckoner_reckon_130 j_Reckoner_reckon_213 rstep
  simp only
  rw [if_neg h2, bd, e92, e94, e96, rg hi (by omega)]
  generalize hka : v 92 i = ka at *
  generalize hkb : v 94 i = kb at *
  generalize hkc : v 96 i = kc at *
  simp only [joins_e, compares_e, joinsT_e, joined_e, holds_e, ob, qb, ni_s, bd]
  unfold takes at ht
  simp only at ht
  by_cases h51 : ka = 51
  · rw [if_pos (Or.inl h51)] at ht
    obtain ⟨x, r, rfl⟩ : ∃ x r, st = x :: r := by cases st with | nil => simp at ht | cons x r => exact ⟨x, r, rfl⟩
    obtain ⟨w1, a1, a2', a3⟩ := hS.pop rfl
    obtain ⟨w2, b1, b2, b3⟩ := a3.push (by simp at hl; omega) (-x)
    rw [if_pos h51, if_pos h51, a1, ob]
    simp only
    rw [b1, ob]
    exact ⟨w2, rfl, (hw.tr a2').tr b2, b3⟩
  rw [if_neg h51, if_neg h51]
  by_cases h27 : ka = 27
  · rw [if_pos (Or.inr h27)] at ht
    obtain ⟨x, r, rfl⟩ : ∃ x r, st = x :: r := by cases st with | nil => simp at ht | cons x r => exact ⟨x, r, rfl⟩
    obtain ⟨w1, a1, a2', a3⟩ := hS.pop rfl
    obtain ⟨w2, b1, b2, b3⟩ := a3.push (by simp at hl; omega) (1 - x)
    rw [if_pos h27, if_pos h27, a1, ob]
    simp only
    rw [b1, ob]
    exact ⟨w2, rfl, (hw.tr a2').tr b2, b3⟩
  rw [if_neg h27, if_neg h27]
  rw [if_neg (fun q => q.elim h51 h27)] at ht
  by_cases hJ : isJ ka = true
  · rw [if_pos (Or.inl hJ)] at ht
    obtain ⟨x, y, r, rfl⟩ := two_of ht rfl
    obtain ⟨w1, w2, a1, a2', a3, a4⟩ := take2 hS rfl
    obtain ⟨w3, b1, b2, b3⟩ := a4.push (by simp at hl; omega) (joinJ ka y x)
    rw [if_neg (by rw [hJ]; decide), if_pos hJ, a1, ob]
    simp only
    rw [a2', ob]
    simp only
    rw [b1, ob]
    exact ⟨w3, rfl, (hw.tr a3).tr b2, b3⟩
  rw [if_pos (by cases hq : isJ ka with | true => exact absurd hq hJ | false => rfl), if_neg hJ]
  by_cases hC : isC ka = true
  · rw [if_pos (Or.inr (Or.inl hC))] at ht
    obtain ⟨x, y, r, rfl⟩ := two_of ht rfl
    obtain ⟨w1, w2, a1, a2', a3, a4⟩ := take2 hS rfl
    obtain ⟨w3, b1, b2, b3⟩ := a4.push (by simp at hl; omega) (q_b (holdC ka y x))
    rw [if_neg (by rw [hC]; decide), if_pos hC, a1, ob]
    simp only
    rw [a2', ob]
    simp only
    refine ⟨w3, ?_, (hw.tr a3).tr b2, b3⟩
    cases hb : holdC ka y x
    · rw [if_pos rfl]
      rw [hb] at b1
      rw [b1, ob]
    · rw [if_neg (by decide)]
      rw [hb] at b1
      rw [b1, ob]
  rw [if_pos (by cases hq : isC ka with | true => exact absurd hq hC | false => rfl), if_neg hC]
  by_cases h28 : ka = 28
  · rw [if_pos (Or.inr (Or.inr (Or.inl h28)))] at ht
    obtain ⟨x, y, r, rfl⟩ := two_of ht rfl
    obtain ⟨w1, w2, a1, a2', a3, a4⟩ := take2 hS rfl
    obtain ⟨w3, b1, b2, b3⟩ := a4.push (by simp at hl; omega) (y &&& x)
    rw [if_neg (by rw [decide_eq_true (Or.inl h28)]; decide), if_pos h28, a1, ob]
    simp only
    rw [if_pos h28, a2', ob]
    simp only
    rw [b1, ob]
    exact ⟨w3, rfl, (hw.tr a3).tr b2, b3⟩
  rw [if_neg h28]
  by_cases h29 : ka = 29
  · rw [if_pos (Or.inr (Or.inr (Or.inr h29)))] at ht
    obtain ⟨x, y, r, rfl⟩ := two_of ht rfl
    obtain ⟨w1, w2, a1, a2', a3, a4⟩ := take2 hS rfl
    obtain ⟨w3, b1, b2, b3⟩ := a4.push (by simp at hl; omega) (y ||| x)
    rw [if_neg (by rw [decide_eq_true (Or.inr h29)]; decide), if_pos h29, a1, ob]
    simp only
    rw [if_neg h28, a2', ob]
    simp only
    rw [b1, ob]
    exact ⟨w3, rfl, (hw.tr a3).tr b2, b3⟩
  rw [if_neg h29, if_pos (decide_eq_false (fun q => q.elim h28 h29)), rg hi (by omega), rg hi (by omega), hkb, hkc, leaf_two hRw hI hL hG hM hz ho, ob]
  obtain ⟨w3, b1, b2, b3⟩ := hS.push hl (mval u sn ka kb kc)
  rw [b1, ob]
  exact ⟨w3, rfl, hw.tr b2, b3⟩
theorem rstep_len {val : Int32 → Int32 → Int32 → Int32} {s : Ste} {st : List Int32} (h : takes s ≤ st.length) : (rstep val s st).length = st.length - takes s + 1 := by
  by_cases h51 : s.1 = 51
  · have e : takes s = 1 := if_pos (Or.inl h51)
    rw [e]
    unfold rstep
    rw [if_pos h51]
    simp
  by_cases h27 : s.1 = 27
  · have e : takes s = 1 := if_pos (Or.inr h27)
    rw [e]
    unfold rstep
    rw [if_neg h51, if_pos h27]
    simp
  have h0 : ¬ (s.1 = 51 ∨ s.1 = 27) := fun q => q.elim h51 h27
  by_cases hJ : isJ s.1 = true
  · have e : takes s = 2 := (if_neg h0).trans (if_pos (Or.inl hJ))
    rw [e] at h ⊢
    unfold rstep
    rw [if_neg h51, if_neg h27, if_pos hJ]
    simp
    omega
  by_cases hC : isC s.1 = true
  · have e : takes s = 2 := (if_neg h0).trans (if_pos (Or.inr (Or.inl hC)))
    rw [e] at h ⊢
    unfold rstep
    rw [if_neg h51, if_neg h27, if_neg hJ, if_pos hC]
    simp
    omega
  by_cases h28 : s.1 = 28
  · have e : takes s = 2 := (if_neg h0).trans (if_pos (Or.inr (Or.inr (Or.inl h28))))
    rw [e] at h ⊢
    unfold rstep
    rw [if_neg h51, if_neg h27, if_neg hJ, if_neg hC, if_pos h28]
    simp
    omega
  by_cases h29 : s.1 = 29
  · have e : takes s = 2 := (if_neg h0).trans (if_pos (Or.inr (Or.inr (Or.inr h29))))
    rw [e] at h ⊢
    unfold rstep
    rw [if_neg h51, if_neg h27, if_neg hJ, if_neg hC, if_neg h28, if_pos h29]
    simp
    omega
  have e : takes s = 0 := (if_neg h0).trans (if_neg (fun q => q.elim hJ (fun q => q.elim hC (fun q => q.elim h28 h29))))
  rw [e]
  unfold rstep
  rw [if_neg h51, if_neg h27, if_neg hJ, if_neg hC, if_neg h28, if_neg h29]
  simp
/-- all steps of a row, and what lies uppermost then -/
theorem steps_c (hR : RS v u k sn L) (hI : IG (u (sn + 3)) (u (sn + 4)) L G) (hk : k = 97 ∨ k = 123) (hL : L ≤ 10) (hG : G ≤ 4) (hM : M ≤ 6) (hz : 4000 < z) :
    ∀ (n i fu : Nat) (w : Va) (st : List Int32) (m : Nat), i + n ≤ 400 → n < fu → FR k v w → HS w k st → st.length + n ≤ 400 → (∀ s ∈ seg v i n, ok_S M L s) → dep (seg v i n) st.length = some (m + 1) →
      ∃ x w1, rp (b_Reckoner_reckon_7 z k (nI (i + n))) fu (nI i, w) = some (x, w1) ∧ FR k v w1 ∧ x = (run (mval u sn) (seg v i n) st).headD 0
  | 0, i, 0, _, _, _, _, h, _, _, _, _, _ => by omega
  | 0, i, fu + 1, w, st, m, h1, h2, hw, hS, h3, h4, h5 => by
    have h5 : some st.length = some (m + 1) := h5
    have hlen := Option.some.inj h5
    obtain ⟨x, r, rfl⟩ : ∃ x r, st = x :: r := by cases st with | nil => simp at hlen | cons x r => exact ⟨x, r, rfl⟩
    obtain ⟨w1, a1, a2, a3⟩ := hS.pop rfl
    refine ⟨x, w1, ?_, hw.tr a2, rfl⟩
    show b_Reckoner_reckon_7 z k (nI (i + 0)) _ (nI i, w) = _
    unfold b_Reckoner_reckon_7
    simp only
    rw [if_pos (by rw [le_n (by omega) (by omega)]; omega), a1, ob]
  | n + 1, i, 0, _, _, _, _, h, _, _, _, _, _ => by omega
  | n + 1, i, fu + 1, w, st, m, h1, h2, hw, hS, h3, h4, h5 => by
    have h5 : (if takes (v 92 i, v 94 i, v 96 i) ≤ st.length then dep (seg v (i + 1) n) (st.length - takes (v 92 i, v 94 i, v 96 i) + 1) else none) = some (m + 1) := h5
    have ht : takes (v 92 i, v 94 i, v 96 i) ≤ st.length := Classical.byContradiction fun q => by rw [if_neg q] at h5; cases h5
    rw [if_pos ht] at h5
    obtain ⟨w1, a1, a2, a3⟩ := step_c hR hI hk hL hG hM hz (i := i) (by omega) hw hS (by omega) (h4 _ List.mem_cons_self) ht (a2 := nI (i + (n + 1))) (by rw [le_n (by omega) (by omega)]; omega) (rp (b_Reckoner_reckon_7 z k (nI (i + (n + 1)))) fu)
    have hlen := rstep_len (val := mval u sn) ht
    obtain ⟨x, w2, b1, b2, b3⟩ := steps_c hR hI hk hL hG hM hz n (i + 1) fu w1 _ m (by omega) (by omega) a2 a3 (by omega) (fun s hs => h4 s (List.mem_cons_of_mem _ hs)) (by rw [hlen]; exact h5)
    refine ⟨x, w2, ?_, b2, b3⟩
    show b_Reckoner_reckon_7 z k (nI (i + (n + 1))) _ (nI i, w) = _
    rw [a1, show i + (n + 1) = i + 1 + n by omega, b1]
/-- a row that leaves one number -/
theorem reckon_c (hR : RS v u k sn L) (hI : IG (u (sn + 3)) (u (sn + 4)) L G) (hk : k = 97 ∨ k = 123) (hL : L ≤ 10) (hG : G ≤ 4) (hM : M ≤ 6) (hz : 4000 < z) {a n : Nat} (h1 : a + n ≤ 400) (h2 : ∀ s ∈ seg v a n, ok_S M L s) (h3 : dep (seg v a n) 0 = some 1) :
    ∃ v1, f_Reckoner_reckon z v k (nI a) (nI (a + n)) = some (worth u sn (seg v a n), v1) ∧ FR k v v1 := by
  have hF : FR k v (pu v (k + 23) 3 0) := fun p a b => by unfold pu; rw [up_ne a]
  obtain ⟨x, w1, a1, a2, a3⟩ := steps_c hR hI hk hL hG hM hz n a z (pu v (k + 23) 3 0) [] 0 h1 (by omega) hF ⟨0, by unfold pu; rw [up_eq, upd_eq]; rfl, by omega, rfl⟩ (by simp; omega) h2 h3
  refine ⟨w1, ?_, a2⟩
  unfold f_Reckoner_reckon
  rw [bd, a1, a3]
  rfl
/-- of no steps: a number that nobody asks for -/
theorem reckon_0 (hk : k = 97 ∨ k = 123) (hz : 4000 < z) {a b : Nat} (ha : a ≤ 400) (h : b ≤ a) : ∃ x v1, f_Reckoner_reckon z v k (nI a) (nI b) = some (x, v1) ∧ FR k v v1 := by
  obtain ⟨z, rfl⟩ : ∃ y, z = y + 1 := ⟨z - 1, by omega⟩
  refine ⟨row_g 400 (pu (pu v (k + 23) 3 0) (k + 23) 3 ((pu v (k + 23) 3 0) (k + 23) 3 - 1) (k + 25)) (pu (pu v (k + 23) 3 0) (k + 23) 3 ((pu v (k + 23) 3 0) (k + 23) 3 - 1) (k + 23) 3), pu (pu v (k + 23) 3 0) (k + 23) 3 ((pu v (k + 23) 3 0) (k + 23) 3 - 1), ?_, fun p h1 _ => by unfold pu; rw [up_ne h1, up_ne h1]⟩
  show b_Reckoner_reckon_7 (z + 1) k (nI b) _ (nI a, pu v (k + 23) 3 0) = _
  unfold b_Reckoner_reckon_7
  simp only
  rw [if_pos (by rw [le_n (by omega) (by omega)]; omega)]
  unfold f_Reckoner_take
  rw [bd, bd, ob]
end
