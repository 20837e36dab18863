/-! WHAT TEACH LEAVES -/
def cpr (v : Va) (d s N : Nat) : Va := up v d (row_c N (v d) N (v s))
section
variable {v w q0 : Va} {d s N q i j k a b z : Nat} {F : List Int32 → Int32} {L0 : Nat} {xs : Nat → Int32}
theorem cpr_ne (h : q ≠ d) : cpr v d s N q = v q := up_ne h
theorem cpr_at (h : i < N) : cpr v d s N d i = v s i := by
  unfold cpr row_c
  rw [up_eq]
  simp only [if_pos h]
theorem st_copy : f_Steps_copyFrom v 90 42 = some (cpr (cpr (cpr (pu v 90 0 (v 42 0)) 92 44 400) 94 46 400) 96 48 400) := rfl
theorem bcp {β : Type} {K : Va → β} : bnd (up v d (row_c N (v d) N (v s))) K = K (cpr v d s N) := rfl
theorem bpu {β : Type} {K : Va → β} {x : Int32} : bnd (pu v d i x) K = K (pu v d i x) := rfl
theorem pl_copy : f_Plan_copyFrom v 61 13 = some (cpr (cpr (cpr (pu (cpr (cpr (cpr (cpr (cpr (cpr (cpr (cpr (cpr (cpr (cpr (cpr (cpr (cpr (pu (pu (pu (pu (pu v 61 0 (v 13 0)) 61 1 (v 13 1)) 61 2 (v 13 2)) 61 3 (v 13 3)) 61 4 (v 13 4)) 63 15 4) 65 17 4) 67 19 4) 69 21 6) 71 23 6) 73 25 10) 75 27 10) 77 29 10) 79 31 24) 81 33 24) 83 35 24) 85 37 24) 87 39 24) 89 41 24) 90 0 (v 42 0)) 92 44 400) 94 46 400) 96 48 400) := by
  unfold f_Plan_copyFrom
  simp only [bcp, bpu, Nat.reduceAdd]
  rw [st_copy, ob]
  simp (disch := omega) only [cpr_ne, pu_p]
/-- the plan, as the draft was -/
def PCx (v w : Va) : Prop := (w 61 0 = v 13 0 ∧ w 61 1 = v 13 1 ∧ w 61 2 = v 13 2 ∧ w 61 3 = v 13 3 ∧ w 61 4 = v 13 4) ∧
  (∀ i, i < 4 → w 63 i = v 15 i ∧ w 65 i = v 17 i ∧ w 67 i = v 19 i) ∧ (∀ i, i < 6 → w 69 i = v 21 i ∧ w 71 i = v 23 i) ∧ (∀ i, i < 10 → w 73 i = v 25 i ∧ w 75 i = v 27 i ∧ w 77 i = v 29 i) ∧
  (∀ i, i < 24 → w 79 i = v 31 i ∧ w 81 i = v 33 i ∧ w 83 i = v 35 i ∧ w 85 i = v 37 i ∧ w 87 i = v 39 i ∧ w 89 i = v 41 i) ∧ (∀ i, i < 400 → w 92 i = v 44 i ∧ w 94 i = v 46 i ∧ w 96 i = v 48 i) ∧ ∀ q, q < 61 ∨ 96 < q → w q = v q
theorem pl_copied : ∃ w, f_Plan_copyFrom v 61 13 = some w ∧ PCx v w := by
  refine ⟨_, pl_copy, ⟨?_, ?_, ?_, ?_, ?_⟩, fun i hi => ?_, fun i hi => ?_, fun i hi => ?_, fun i hi => ?_, fun i hi => ?_, fun q hq => ?_⟩
  · simp (disch := omega) only [cpr_ne, pu_p, pu_d, pu_s]
  · simp (disch := omega) only [cpr_ne, pu_p, pu_d, pu_s]
  · simp (disch := omega) only [cpr_ne, pu_p, pu_d, pu_s]
  · simp (disch := omega) only [cpr_ne, pu_p, pu_d, pu_s]
  · simp (disch := omega) only [cpr_ne, pu_p, pu_d, pu_s]
  · refine ⟨?_, ?_, ?_⟩ <;> simp (disch := omega) only [cpr_ne, cpr_at, pu_p]
  · refine ⟨?_, ?_⟩ <;> simp (disch := omega) only [cpr_ne, cpr_at, pu_p]
  · refine ⟨?_, ?_, ?_⟩ <;> simp (disch := omega) only [cpr_ne, cpr_at, pu_p]
  · refine ⟨?_, ?_, ?_, ?_, ?_, ?_⟩ <;> simp (disch := omega) only [cpr_ne, cpr_at, pu_p]
  · refine ⟨?_, ?_, ?_⟩ <;> simp (disch := omega) only [cpr_ne, cpr_at, pu_p]
  · simp (disch := omega) only [cpr_ne, pu_p]
/-- a stand as it begins -/
def BGx (v w : Va) (M L : Nat) : Prop := (w 97 1 = v 97 1 ∧ w 97 2 = v 97 2 ∧ w 97 3 = 0 ∧ w 97 4 = 0 ∧ w 97 5 = 0) ∧
  (∀ i, i < L → w 99 i = v 75 i * 100 ∧ w 101 i = v 77 i ∧ w 103 i = -1 ∧ w 105 i = 0 ∧ w 107 i = 0) ∧ (∀ i, i < 10 → L ≤ i → w 99 i = 0) ∧
  (∀ i, i < M → w 109 i = v 69 i) ∧ (∀ i, i < 6 → M ≤ i → w 109 i = 0) ∧ (∀ i, i < 36 → w 112 i = 0) ∧ (∀ i, i < 4 → w 116 i = 0) ∧ (∀ i, i < 24 → w 118 i = 0) ∧ ∀ q, q < 97 ∨ 118 < q → w q = v q
/-- behind so many lots -/
def BLx (v t : Va) (i : Nat) : Prop := (t 97 1 = v 97 1 ∧ t 97 2 = v 97 2 ∧ t 97 3 = 0 ∧ t 97 4 = 0 ∧ t 97 5 = 0) ∧
  (∀ j, j < i → t 99 j = v 75 j * 100 ∧ t 101 j = v 77 j ∧ t 103 j = -1 ∧ t 105 j = 0 ∧ t 107 j = 0) ∧ (∀ j, j < 10 → i ≤ j → t 99 j = 0) ∧ (∀ j, j < 6 → t 109 j = 0) ∧ ∀ q, q < 97 ∨ 118 < q → t q = v q
theorem rf_0 {f : Nat → Int32} {x : Int32} (h : j < N) : row_f N f x j = x := if_pos h
theorem bg_m {M L : Nat} {t : Va} (hM : M ≤ 6) (h2 : v 61 2 = nI M) (hB : BLx v t L) (hL : L ≤ 10) : ∃ w, rp (b_Stand_begin_98 97) 4001 (0, t) = some w ∧ BGx v w M L := by
  refine rp_inv (f := b_Stand_begin_98 97) (fun i s => s.1 = nI i ∧ (∀ j, j < i → s.2 109 j = v 69 j) ∧ (∀ j, j < 6 → i ≤ j → s.2 109 j = 0) ∧ ∀ q, q ≠ 109 → s.2 q = t q) (fun w => BGx v w M L) M (fun K s hs => ?_) (fun K i s hi hs => Or.inl ?_) 4001 0 (0, t) ⟨rfl, fun j hj => absurd hj (Nat.not_lt_zero _), fun j hj _ => hB.2.2.2.1 j hj, fun _ _ => rfl⟩ (Nat.zero_le _) (by omega)
  · obtain ⟨s1, s⟩ := s
    obtain ⟨a1, a2, a3, a4⟩ := hs
    simp only at a1 a2 a3 a4
    subst a1
    obtain ⟨b1, b2, b3, b4, b5⟩ := hB
    have e61 : s 61 2 = nI M := by rw [a4 61 (by omega), b5 61 (by omega)]; exact h2
    refine ⟨up (up (up s 112 (row_f 36 (s 112) 0)) 116 (row_f 4 (s 116) 0)) 118 (row_f 24 (s 118) 0), ?_, ⟨?_, ?_, ?_, ?_, ?_⟩, fun i hi => ?_, fun i hi h => ?_, fun i hi => ?_, fun i hi h => ?_, fun i hi => ?_, fun i hi => ?_, fun i hi => ?_, fun q hq => ?_⟩
    · unfold b_Stand_begin_98
      simp only
      rw [e61, if_pos (Int32.le_refl _)]
      rfl
    · simp (disch := omega) only [up_ne]; rw [a4 97 (by omega)]; exact b1.1
    · simp (disch := omega) only [up_ne]; rw [a4 97 (by omega)]; exact b1.2.1
    · simp (disch := omega) only [up_ne]; rw [a4 97 (by omega)]; exact b1.2.2.1
    · simp (disch := omega) only [up_ne]; rw [a4 97 (by omega)]; exact b1.2.2.2.1
    · simp (disch := omega) only [up_ne]; rw [a4 97 (by omega)]; exact b1.2.2.2.2
    · simp (disch := omega) only [up_ne]; rw [a4 99 (by omega), a4 101 (by omega), a4 103 (by omega), a4 105 (by omega), a4 107 (by omega)]; exact b2 i hi
    · simp (disch := omega) only [up_ne]; rw [a4 99 (by omega)]; exact b3 i hi h
    · simp (disch := omega) only [up_ne]; exact a2 i hi
    · simp (disch := omega) only [up_ne]; exact a3 i hi h
    · simp (disch := omega) only [up_ne, up_eq]; exact rf_0 hi
    · simp (disch := omega) only [up_ne, up_eq]; exact rf_0 hi
    · simp (disch := omega) only [up_eq]; exact rf_0 hi
    · simp (disch := omega) only [up_ne]; rw [a4 q (by omega)]; exact b5 q hq
  · obtain ⟨s1, s⟩ := s
    obtain ⟨a1, a2, a3, a4⟩ := hs
    simp only at a1 a2 a3 a4
    subst a1
    have e61 : s 61 2 = nI M := by rw [a4 61 (by omega), hB.2.2.2.2 61 (by omega)]; exact h2
    have e69 : s 69 = v 69 := by rw [a4 69 (by omega), hB.2.2.2.2 69 (by omega)]
    refine ⟨(nI (i + 1), up s 109 (upd (s 109) i (v 69 i))), ?_, rfl, fun j hj => ?_, fun j hj h => ?_, fun q hq => (up_ne hq).trans (a4 q hq)⟩
    · unfold b_Stand_begin_98
      simp only
      rw [e61, if_neg (by rw [le_n (by omega) (by omega)]; omega), e69, rg (by omega) (by omega), bd, rs (by omega) (by omega), bd, ni_s]
    · show (up s 109 (upd (s 109) i (v 69 i))) 109 j = _
      rw [up_eq]
      by_cases e : j = i
      · rw [e, upd_eq]
      · rw [upd_ne e]; exact a2 j (by omega)
    · show (up s 109 (upd (s 109) i (v 69 i))) 109 j = _
      rw [up_eq, upd_ne (by omega)]; exact a3 j hj (by omega)
theorem bg_all {M L : Nat} (hM : M ≤ 6) (hL : L ≤ 10) (h2 : v 61 2 = nI M) (h3 : v 61 3 = nI L) : ∃ w, f_Stand_begin 4001 v 97 = some w ∧ BGx v w M L := by
  obtain ⟨t0, ht0⟩ : ∃ x, x = up (up (pu (pu (pu v 97 3 0) 97 4 0) 97 5 0) 99 (row_f 10 ((pu (pu (pu v 97 3 0) 97 4 0) 97 5 0) 99) 0)) 109 (row_f 6 ((up (pu (pu (pu v 97 3 0) 97 4 0) 97 5 0) 99 (row_f 10 ((pu (pu (pu v 97 3 0) 97 4 0) 97 5 0) 99) 0)) 109) 0) := ⟨_, rfl⟩
  have e0 : f_Stand_begin 4001 v 97 = rp (b_Stand_begin_33 4001 97) 4001 (0, t0) := by rw [ht0]; rfl
  have hB0 : BLx v t0 0 := by
    rw [ht0]
    refine ⟨⟨?_, ?_, ?_, ?_, ?_⟩, fun j hj => absurd hj (Nat.not_lt_zero _), fun j hj _ => ?_, fun j hj => ?_, fun q hq => ?_⟩
    · simp (disch := omega) only [up_ne, pu_d]
    · simp (disch := omega) only [up_ne, pu_d]
    · simp (disch := omega) only [up_ne, pu_d, pu_s]
    · simp (disch := omega) only [up_ne, pu_d, pu_s]
    · simp (disch := omega) only [up_ne, pu_s]
    · simp (disch := omega) only [up_ne, up_eq]; exact rf_0 hj
    · simp (disch := omega) only [up_eq]; exact rf_0 hj
    · simp (disch := omega) only [up_ne, pu_p]
  rw [e0]
  refine rp_inv (f := b_Stand_begin_33 4001 97) (fun i s => s.1 = nI i ∧ BLx v s.2 i) (fun w => BGx v w M L) L (fun K s hs => ?_) (fun K i s hi hs => Or.inl ?_) 4001 0 (0, t0) ⟨rfl, hB0⟩ (Nat.zero_le _) (by omega)
  · obtain ⟨s1, s⟩ := s
    obtain ⟨a1, a2⟩ := hs
    simp only at a1 a2
    subst a1
    obtain ⟨w, e, h⟩ := bg_m hM h2 a2 hL
    refine ⟨w, ?_, h⟩
    unfold b_Stand_begin_33
    simp only
    rw [a2.2.2.2.2 61 (by omega), h3, if_pos (Int32.le_refl _), e]
  · obtain ⟨s1, s⟩ := s
    obtain ⟨a1, b1, b2, b3, b4, b5⟩ := hs
    simp only at a1 b1 b2 b3 b4 b5
    subst a1
    have e61 : s 61 3 = nI L := by rw [b5 61 (by omega)]; exact h3
    have e75 : s 75 = v 75 := b5 75 (by omega)
    have e77 : s 77 = v 77 := b5 77 (by omega)
    refine ⟨(nI (i + 1), up (up (up (up (up s 99 (upd (s 99) i (v 75 i * 100))) 101 (upd (s 101) i (v 77 i))) 103 (upd (s 103) i (-1))) 105 (upd (s 105) i 0)) 107 (upd (s 107) i 0)), ?_, rfl, ?_⟩
    · unfold b_Stand_begin_33 f_Stand_takeChop
      simp only
      rw [e61, if_neg (by rw [le_n (by omega) (by omega)]; omega), e75, rg (by omega) (by omega), bd, rs (by omega) (by omega), bd]
      simp (disch := omega) only [up_ne, e77, rg, rs, bd, ob, ni_s, Nat.reduceAdd]
    · refine ⟨by simpa (disch := omega) only [up_ne] using b1, fun j hj => ?_, fun j hj h => ?_, fun j hj => ?_, fun q hq => ?_⟩
      · simp (disch := omega) only [up_ne, up_eq]
        by_cases e : j = i
        · rw [e, upd_eq, upd_eq, upd_eq, upd_eq, upd_eq]; exact ⟨rfl, rfl, rfl, rfl, rfl⟩
        · rw [upd_ne e, upd_ne e, upd_ne e, upd_ne e, upd_ne e]; exact b2 j (by omega)
      · simp (disch := omega) only [up_ne, up_eq]
        rw [upd_ne (by omega)]; exact b3 j hj (by omega)
      · simp (disch := omega) only [up_ne]; exact b4 j hj
      · simp (disch := omega) only [up_ne]; exact b5 q hq
/-- names of one letter and one digit are told apart -/
theorem fx_inj {full : List Pz} {b1 b2 : List Int32} {q1 q2 : Pz} (hn : full.length ≤ 400) (h1 : q1 ∈ full) (k1 : q1.1 = 47) (e1 : q1.2.1 = b1) (h2 : q2 ∈ full) (k2 : q2.1 = 47) (e2 : q2.2.1 = b2) (h : nI (fxi full b1) = nI (fxi full b2)) : b1 = b2 := by
  obtain ⟨i1, f1⟩ := List.getElem?_of_mem h1
  obtain ⟨i2, f2⟩ := List.getElem?_of_mem h2
  have g1 := fxi_le full i1 q1 f1 k1 e1
  have g2 := fxi_le full i2 q2 f2 k2 e2
  have l1 := (List.getElem?_eq_some_iff.mp f1).1
  have l2 := (List.getElem?_eq_some_iff.mp f2).1
  have he : fxi full b1 = fxi full b2 := by
    have := congrArg Int32.toNatClampNeg h
    rwa [ni_c (by omega), ni_c (by omega)] at this
  obtain ⟨r1, m1, -, m3⟩ := fxi_at (ww := b1) full (by omega)
  obtain ⟨r2, p1, -, p3⟩ := fxi_at (ww := b2) full (by omega)
  rw [he, p1] at m1
  cases m1
  rw [← m3, ← p3]
theorem cat_mem {h : Nat → List Pz} {x : Pz} : ∀ {n i : Nat}, i < n → x ∈ h i → x ∈ cat_ h n
  | 0, _, hi, _ => absurd hi (Nat.not_lt_zero _)
  | n + 1, i, hi, hx => by
    show x ∈ cat_ h n ++ h n
    by_cases e : i = n
    · rw [← e]; exact List.mem_append_right _ hx
    · exact List.mem_append_left _ (cat_mem (by omega) hx)
theorem dig_inj {c : Int32} (hi : i < 10) (hj : j < 10) (h : [c, nI (48 + i)] = [c, nI (48 + j)]) : i = j := by
  have h1 : nI (48 + i) = nI (48 + j) := by injection h with _ h2; injection h2
  have := congrArg Int32.toNatClampNeg h1
  rw [ni_c (by omega), ni_c (by omega)] at this
  omega
theorem li_fix : FIx (fun b => nI (fxi (liP L0 xs) b)) L0 xs := by
  obtain ⟨b1, b2, b3, b4, b5⟩ := li_le (L0 := L0) (xs := xs)
  have hlen := li_len (L0 := L0) (xs := xs)
  have hS : ∀ i, i < liL L0 xs → zN 115 i [32] ∈ liP L0 xs := fun i hi => List.mem_append_left _ (cat_mem hi (List.mem_cons_of_mem _ List.mem_cons_self))
  have hG : ∀ i, i < liG L0 xs → zN 103 i [32] ∈ liP L0 xs := fun i hi => List.mem_append_right _ (List.mem_append_left _ (cat_mem hi (List.mem_cons_of_mem _ List.mem_cons_self)))
  have hM : ∀ i, i < liM L0 xs → zN 109 i [32] ∈ liP L0 xs := fun i hi => List.mem_append_right _ (List.mem_append_right _ (List.mem_append_left _ (cat_mem hi (List.mem_cons_of_mem _ List.mem_cons_self))))
  have hL : ∀ i, i < liT L0 xs → zN 108 i [32] ∈ liP L0 xs := fun i hi => List.mem_append_right _ (List.mem_append_right _ (List.mem_append_right _ (List.mem_append_left _ (cat_mem hi (List.mem_cons_of_mem _ List.mem_cons_self)))))
  refine ⟨fun i j hi hj h => ?_, fun i j hi hj h => ?_, fun i j hi hj h => ?_, fun i j hi hj h => ?_⟩
  · exact dig_inj (by omega) (by omega) (fx_inj (by omega) (hS i hi) rfl rfl (hS j hj) rfl rfl h)
  · exact dig_inj (by omega) (by omega) (fx_inj (by omega) (hG i hi) rfl rfl (hG j hj) rfl rfl h)
  · exact dig_inj (by omega) (by omega) (fx_inj (by omega) (hM i hi) rfl rfl (hM j hj) rfl rfl h)
  · exact dig_inj (by omega) (by omega) (fx_inj (by omega) (hL i hi) rfl rfl (hL j hj) rfl rfl h)
/-- an order, in the plan -/
def OPx (L0 : Nat) (xs : Nat → Int32) (w : Va) (j : Nat) : Prop := ∃ a, w 79 j = nI (orS L0 xs j) ∧ w 81 j = nI (orO (liM L0 xs) (liT L0 xs) L0 xs j) ∧ w 83 j = nI (orW (liG L0 xs) (liM L0 xs) L0 xs j) ∧ w 85 j = nI a ∧ w 87 j = nI (a + (oSS L0 xs j).length) ∧ w 89 j = nI (a + (oSS L0 xs j).length + (oST L0 xs j).length) ∧ a + (oSS L0 xs j).length + (oST L0 xs j).length ≤ 160 ∧ (∀ i s, (oSS L0 xs j)[i]? = some s → w 92 (a + i) = s.1 ∧ w 94 (a + i) = s.2.1 ∧ w 96 (a + i) = s.2.2) ∧ ∀ i s, (oST L0 xs j)[i]? = some s → w 92 (a + (oSS L0 xs j).length + i) = s.1 ∧ w 94 (a + (oSS L0 xs j).length + i) = s.2.1 ∧ w 96 (a + (oSS L0 xs j).length + i) = s.2.2
/-- what teach leaves of list's text -/
def TCx (L0 : Nat) (xs : Nat → Int32) (v w : Va) : Prop :=
  w 0 8 = 0 ∧ (w 61 0 = nI (liL L0 xs) ∧ w 61 1 = nI (liG L0 xs) ∧ w 61 2 = nI (liM L0 xs) ∧ w 61 3 = nI (liT L0 xs) ∧ w 61 4 = nI (liO L0 xs)) ∧
  (∀ j, j < liL L0 xs → w 63 j = nI (loX L0 xs j)) ∧ (∀ j, j < liG L0 xs → w 65 j = nI (guF L0 xs j) ∧ w 67 j = nI (guB L0 xs j)) ∧
  (∀ j, j < liM L0 xs → w 109 j = nI (meC L0 xs j) ∧ w 71 j = nI (meD L0 xs j)) ∧ (∀ j, j < 6 → liM L0 xs ≤ j → w 109 j = 0) ∧
  (∀ j, j < liT L0 xs → w 73 j = nI (ltS (liL L0 xs) L0 xs j) ∧ w 99 j = nI (100 * ltK L0 xs j) ∧ w 101 j = nI (ltM (liM L0 xs) L0 xs j) ∧ w 103 j = -1 ∧ w 105 j = 0 ∧ w 107 j = 0) ∧ (∀ j, j < 10 → liT L0 xs ≤ j → w 99 j = 0) ∧
  (∀ j, j < liO L0 xs → OPx L0 xs w j) ∧ (∀ i, i < 36 → w 112 i = 0) ∧ (∀ i, i < 4 → w 116 i = 0) ∧ (∀ i, i < 24 → w 118 i = 0) ∧ w 97 1 = v 97 1 ∧ w 97 2 = v 97 2 ∧ w 97 3 = 0 ∧ w 97 4 = 0 ∧ w 97 5 = 0
theorem li_teach (hT : LAY v 0 (liX L0 xs)) (hlen : (liX L0 xs).length ≤ 1990) (h8 : v 0 8 = nI (liX L0 xs).length) (h : v 49 1 = 4 ∧ v 52 1 = 4 ∧ v 55 1 = 6 ∧ v 58 1 = 10) : ∃ w, f_Quay_teach 4001 v = some (0, w) ∧ TCx L0 xs v w := by
  obtain ⟨b1, b2, b3, b4, b5⟩ := li_le (L0 := L0) (xs := xs)
  have hl := li_len (L0 := L0) (xs := xs)
  rw [li_tx] at hT hlen h8
  obtain ⟨v1, e1, hS⟩ := text_scan hT hlen (by omega) li_ok
  have f1 : ∀ q, q ≠ 3 → q ≠ 5 → q ≠ 7 → q ≠ 9 → q ≠ 11 → v1 q = v q := hS.2.2.2.1
  obtain ⟨v2, e2, h2⟩ := li_read li_fix (sk_ta hS (liP L0 xs) [] rfl) (sk_end hS) (by rw [f1 49 (by omega) (by omega) (by omega) (by omega) (by omega), f1 52 (by omega) (by omega) (by omega) (by omega) (by omega), f1 55 (by omega) (by omega) (by omega) (by omega) (by omega), f1 58 (by omega) (by omega) (by omega) (by omega) (by omega)]; exact h)
  obtain ⟨c1, ⟨c2, c3, c4, c5, c6⟩, c7, c8, c9, c10, c11, c12⟩ := h2
  obtain ⟨v3, hv3⟩ : ∃ x, x = pu (pu v2 0 9 (-1)) 0 8 0 := ⟨_, rfl⟩
  have f3 : ∀ q, q ≠ 0 → v3 q = v2 q := fun q hq => by rw [hv3, pu_p hq, pu_p hq]
  obtain ⟨v4, e4, ⟨p0, p1, p2, p3, p4⟩, p5, p6, p7, p8, p9, p10⟩ := pl_copied (v := v3)
  rw [f3 13 (by omega)] at p0 p1 p2 p3 p4
  obtain ⟨v5, e5, ⟨g0, g1, g2, g3, g4⟩, g5, g6, g7, g8, g9, g10, g11, g12⟩ := bg_all (v := v4) (M := liM L0 xs) (L := liT L0 xs) (by omega) (by omega) (by rw [p2, c4]) (by rw [p3, c5])
  have f97 : v4 97 = v 97 := by rw [p10 97 (by omega), f3 97 (by omega), c12 97 (by omega), f1 97 (by omega) (by omega) (by omega) (by omega) (by omega)]
  refine ⟨v5, ?_, ?_, ⟨?_, ?_, ?_, ?_, ?_⟩, fun j hj => ?_, fun j hj => ?_, fun j hj => ?_, g8, fun j hj => ?_, g6, fun j hj => ?_, g9, g10, g11, by rw [g0, f97], by rw [g1, f97], g2, g3, g4⟩
  · unfold f_Quay_teach f_Reader_faultPlace
    rw [h8, e1, ob, e2, ob]
    simp only
    rw [if_pos c1, ob, bd, bd, if_pos trivial, ← hv3, e4, ob, e5, ob]
  · rw [g12 0 (by omega), p10 0 (by omega), hv3, pu_s]
  · rw [g12 61 (by omega), p0, c2]
  · rw [g12 61 (by omega), p1, c3]
  · rw [g12 61 (by omega), p2, c4]
  · rw [g12 61 (by omega), p3, c5]
  · rw [g12 61 (by omega), p4, c6]
  · rw [g12 63 (by omega), (p5 j (by omega)).1, f3 15 (by omega), c7 j hj]
  · rw [g12 65 (by omega), g12 67 (by omega), (p5 j (by omega)).2.1, (p5 j (by omega)).2.2, f3 17 (by omega), f3 19 (by omega)]; exact c8 j hj
  · rw [g7 j hj, g12 71 (by omega), (p6 j (by omega)).1, (p6 j (by omega)).2, f3 21 (by omega), f3 23 (by omega)]; exact c9 j hj
  · obtain ⟨k1, k2, k3, k4, k5⟩ := g5 j hj
    obtain ⟨m1, m2, m3⟩ := c10 j hj
    rw [g12 73 (by omega), k1, k2, k3, k4, k5, (p7 j (by omega)).1, (p7 j (by omega)).2.1, (p7 j (by omega)).2.2, f3 25 (by omega), f3 27 (by omega), f3 29 (by omega), m1, m2, m3, show (100 : Int32) = nI 100 from rfl, ni_mul, Nat.mul_comm]
    exact ⟨rfl, rfl, rfl, rfl, rfl, rfl⟩
  · obtain ⟨a, k1, k2, k3, k4, k5, k6, k7, k8, k9⟩ := c11 j hj
    obtain ⟨n1, n2, n3, n4, n5, n6⟩ := p8 j (by omega)
    refine ⟨a, ?_, ?_, ?_, ?_, ?_, ?_, k7, fun i s hs => ?_, fun i s hs => ?_⟩
    · rw [g12 79 (by omega), n1, f3 31 (by omega), k1]
    · rw [g12 81 (by omega), n2, f3 33 (by omega), k2]
    · rw [g12 83 (by omega), n3, f3 35 (by omega), k3]
    · rw [g12 85 (by omega), n4, f3 37 (by omega), k4]
    · rw [g12 87 (by omega), n5, f3 39 (by omega), k5]
    · rw [g12 89 (by omega), n6, f3 41 (by omega), k6]
    · have hi := (List.getElem?_eq_some_iff.mp hs).1
      obtain ⟨m1, m2, m3⟩ := p9 (a + i) (by omega)
      rw [g12 92 (by omega), g12 94 (by omega), g12 96 (by omega), m1, m2, m3, f3 44 (by omega), f3 46 (by omega), f3 48 (by omega)]
      exact k8 i s hs
    · have hi := (List.getElem?_eq_some_iff.mp hs).1
      obtain ⟨m1, m2, m3⟩ := p9 (a + (oSS L0 xs j).length + i) (by omega)
      rw [g12 92 (by omega), g12 94 (by omega), g12 96 (by omega), m1, m2, m3, f3 44 (by omega), f3 46 (by omega), f3 48 (by omega)]
      exact k9 i s hs
end
