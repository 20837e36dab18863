/-! TOKENS: what one token comes to, on both sides -/
def NMo (v : Va) (B : Nat → Nat) (k a l : Nat) (y : Int32) : Prop := ∃ f, f ≤ k ∧ y = nI f ∧ (f < k → v 5 f = 47 ∧ SNm v B f a l) ∧ ∀ j, j < f → v 5 j = 47 → ¬ SNm v B j a l
def ONE (v : Va) (B : Nat → Nat) (nb k a l n z sp : Nat) : Prop := 1 ≤ l ∧ a + l ≤ nb ∧ n ≤ 50 ∧ n ≠ 49 ∧ (∀ u, TBm u B nb → f_Model_lengthAt z u sp (nI a) = some (nI l) ∧ f_Model_kindAt z u sp (nI a) (nI l) = some (nI (kmap n))) ∧
  (n = 50 → f_Tokens_reads z v (nI a) = some (false, v)) ∧ (n ≠ 50 → ∃ y, f_Tokens_reads z v (nI a) = some (true, AD v k (nI n) (nI a) (nI l) y) ∧ (n = 47 → NMo v B k a l y) ∧ (n = 48 → y = nv B a l ∧ ¬ y < 0))
section
variable {v v1 u u1 : Va} {B : Nat → Nat} {nb a b l k k1 s z sp i p q : Nat}
theorem km_l {n : Nat} (hn : n ≤ 50) : kmap n ≤ 71 := by
  have key : ∀ n : Fin 51, kmap n.val ≤ 71 := by decide +kernel
  exact key ⟨n, by omega⟩
theorem one_w (hT : TBc v B nb) (ha : a < nb) (hk : v 3 2 = nI k) (hk4 : k ≤ 400) (hA : ∀ i, i < k → TOK v u k1 nb B i) (hz : 4000 < z) (hL : Lt (B a) = true) : ∃ l n, ONE v B nb k a l n z sp := by
  have h0 := hT.1
  obtain ⟨r1, r2, r3, r4⟩ := en_sp (B := B) (f := true) ha
  have hBa := (hT.2.2 a ha).1
  have hl : 97 ≤ B a ∧ B a ≤ 122 := of_decide_eq_true hL
  have hD : Dg (B a) = false := decide_eq_false (by omega)
  have he : a + (enE B nb true a - a) = enE B nb true a := by omega
  have hsub : nI (enE B nb true a) - nI a = nI (enE B nb true a - a) := by
    have := ni_sbl a (enE B nb true a - a)
    rw [he] at this
    exact this
  have hrun : f_Tokens_reads z v (nI a) = (j_Tokens_readsWord_46 z v (nI a) (nI (enE B nb true a))).bind fun q => some (q.1, q.2) := by
    unfold f_Tokens_reads
    rw [bd, rt hT ha, let_c (by omega), ob, hL, if_neg (by decide)]
    congr 1
    unfold f_Tokens_readsWord
    rw [ni_s]
    have key := rp_go (f := b_Tokens_readsWord_4 z v (nI a)) (E := j_Tokens_readsWord_46 z v (nI a) (nI (enE B nb true a))) (fun j => nI (a + 1 + j)) (enE B nb true a - (a + 1)) (fun K => by
      rw [show a + 1 + (enE B nb true a - (a + 1)) = enE B nb true a by omega]
      unfold b_Tokens_readsWord_4
      rw [hT.2.1]
      by_cases hx : nb ≤ enE B nb true a
      · rw [if_pos (by rw [le_n (by omega) (by omega)]; exact hx)]
      · have hB := (hT.2.2 (enE B nb true a) (by omega)).1
        obtain ⟨p1, p2⟩ := Pr_n (r4 (by omega))
        rw [if_neg (by rw [le_n (by omega) (by omega)]; exact hx), bd, rt hT (by omega), let_c (by omega), ob, p2, if_pos (by decide), bd, dig_c (by omega), ob, p1, if_pos (by decide)]) (fun K j hj => by
      have hB := (hT.2.2 (a + 1 + j) (by omega)).1
      have hP := r3 (a + 1 + j) (by omega) (by omega)
      show b_Tokens_readsWord_4 z v (nI a) K (nI (a + 1 + j)) = K (nI (a + 1 + (j + 1)))
      unfold b_Tokens_readsWord_4 j_Tokens_readsWord_40
      rw [hT.2.1, if_neg (by rw [le_n (by omega) (by omega)]; omega), bd, rt hT (by omega), let_c (by omega), ob, ni_s, show a + 1 + j + 1 = a + 1 + (j + 1) by omega]
      cases hLt : Lt (B (a + 1 + j)) with
      | true => rw [if_neg (by decide)]
      | false =>
        rw [if_pos (by decide), bd, dig_c (by omega), ob]
        cases hDg : Dg (B (a + 1 + j)) with
        | true => rw [if_neg (by decide)]
        | false => exact absurd (Pr_t hP hDg) (by rw [hLt]; decide)) (z := z) (by omega)
    rw [Nat.add_zero] at key
    exact key
  have hkd : ∀ u, TBm u B nb → f_Model_kindAt z u sp (nI a) (nI (enE B nb true a - a)) = if enE B nb true a - a ≤ 10 then some (nI (kmap (kwr (hitW B a (enE B nb true a - a)) 32 0))) else some 71 := fun u hu => by
    unfold f_Model_kindAt
    rw [by_m hu ha, ob, if_neg (by rw [eq_m1 (by omega)]; exact id), dig_m (by omega), ob, hD, if_pos (by decide), let_m (by omega), ob, hL, if_neg (by decide), show (10 : Int32) = nI 10 from rfl]
    by_cases h10 : enE B nb true a - a ≤ 10
    · rw [if_pos (by rw [le_n (by omega) (by omega)]; exact h10), if_pos h10, wordAt_m hu (by omega) hz, ob]
    · rw [if_neg (by rw [le_n (by omega) (by omega)]; exact h10), if_neg h10]
  unfold j_Tokens_readsWord_46 at hrun
  rw [hsub, show (10 : Int32) = nI 10 from rfl] at hrun
  by_cases h10 : enE B nb true a - a ≤ 10
  · rw [if_pos (by rw [le_n (by omega) (by omega)]; exact h10), keyword_c hT (by omega) hz, ob] at hrun
    have hr := kwr_r (hit := hitW B a (enE B nb true a - a)) 32 0 (by omega)
    refine ⟨enE B nb true a - a, kwr (hitW B a (enE B nb true a - a)) 32 0, by omega, by omega, by omega, by omega, fun u hu => ⟨len_w hu ha hz hL, by rw [hkd u hu, if_pos h10]⟩, fun h => by omega, fun _ => ?_⟩
    by_cases h47 : kwr (hitW B a (enE B nb true a - a)) 32 0 = 47
    · obtain ⟨f, f1, f2, f3, f4⟩ := first_c hT hk hk4 hA (show a + (enE B nb true a - a) ≤ nb by omega) hz
      rw [h47, if_pos (show nI 47 = (47 : Int32) from rfl), f2, ob] at hrun
      unfold j_Tokens_readsWord_89 at hrun
      rw [hsub, add_c hk hk4, ob, ob] at hrun
      exact ⟨nI f, by rw [h47]; exact hrun, fun _ => ⟨f, f1, rfl, f3, f4⟩, fun h => by omega⟩
    · rw [if_neg (by rw [show (47 : Int32) = nI 47 from rfl, eq_n (by omega) (by omega)]; exact h47)] at hrun
      unfold j_Tokens_readsWord_89 at hrun
      rw [hsub, add_c hk hk4, ob, ob] at hrun
      exact ⟨0, hrun, fun h => absurd h h47, fun h => by omega⟩
  · rw [if_neg (by rw [le_n (by omega) (by omega)]; exact h10), ob] at hrun
    exact ⟨enE B nb true a - a, 50, by omega, by omega, by omega, by omega, fun u hu => ⟨len_w hu ha hz hL, by rw [hkd u hu, if_neg h10]; rfl⟩, fun _ => hrun, fun h => absurd rfl h⟩
theorem one_d (hT : TBc v B nb) (ha : a < nb) (hk : v 3 2 = nI k) (hk4 : k ≤ 400) (hz : 4000 < z) (hL : Lt (B a) = false) (hD : Dg (B a) = true) : ∃ l n, ONE v B nb k a l n z sp := by
  have h0 := hT.1
  obtain ⟨r1, r2, r3, r4⟩ := en_sp (B := B) (f := false) ha
  have hBa := (hT.2.2 a ha).1
  have hrun : f_Tokens_reads z v (nI a) = (f_Tokens_readsNumber z v (nI a)).bind fun q => some (q.1, q.2) := by
    unfold f_Tokens_reads
    rw [bd, rt hT ha, let_c (by omega), ob, hL, if_pos (by decide), dig_c (by omega), ob, hD, if_neg (by decide)]
  have hkd : ∀ u, TBm u B nb → f_Model_kindAt z u sp (nI a) (nI (enE B nb false a - a)) = if enE B nb false a - a ≤ 6 then some 36 else some 71 := fun u hu => by
    unfold f_Model_kindAt
    rw [by_m hu ha, ob, if_neg (by rw [eq_m1 (by omega)]; exact id), dig_m (by omega), ob, hD, if_neg (by decide), show (6 : Int32) = nI 6 from rfl]
    by_cases h6 : enE B nb false a - a ≤ 6
    · rw [if_pos (by rw [le_n (by omega) (by omega)]; exact h6), if_pos h6]
    · rw [if_neg (by rw [le_n (by omega) (by omega)]; exact h6), if_neg h6]
  rw [num_c hT ha hk hk4 hz hD] at hrun
  by_cases h6 : enE B nb false a - a ≤ 6
  · rw [if_pos h6, ob] at hrun
    have hall : ∀ i, i < enE B nb false a - a → Dg (B (a + i)) = true := fun i hi => by
      by_cases hi0 : i = 0
      · subst hi0; exact hD
      · have := r3 (a + i) (by omega) (by omega)
        rw [Pr_f] at this; exact this
    have hb := nv_b (B := B) (a := a) (enE B nb false a - a) h6 hall
    refine ⟨enE B nb false a - a, 48, by omega, by omega, by omega, by omega, fun u hu => ⟨len_d hu ha hz hL hD, by rw [hkd u hu, if_pos h6]; rfl⟩, fun h => by omega, fun _ => ⟨nv B a (enE B nb false a - a), hrun, fun h => by omega, fun _ => ⟨rfl, fun q => ?_⟩⟩⟩
    have e0 : (0 : Int32).toInt = 0 := rfl
    have := t_lt.mp q
    omega
  · rw [if_neg h6, ob] at hrun
    exact ⟨enE B nb false a - a, 50, by omega, by omega, by omega, by omega, fun u hu => ⟨len_d hu ha hz hL hD, by rw [hkd u hu, if_neg h6]; rfl⟩, fun _ => hrun, fun h => absurd rfl h⟩
theorem one_s (hT : TBc v B nb) (ha : a < nb) (hk : v 3 2 = nI k) (hk4 : k ≤ 400) (hz : 4000 < z) (hL : Lt (B a) = false) (hD : Dg (B a) = false) : ∃ l n, ONE v B nb k a l n z sp := by
  have h0 := hT.1
  have hBa := (hT.2.2 a ha).1
  obtain ⟨r, i1, i2, i3⟩ := idx_s (z := z) hBa hz
  have hrun : f_Tokens_reads z v (nI a) = (f_Tokens_readsSign z v (nI a) (nI (B a))).bind fun q => some (q.1, q.2) := by
    unfold f_Tokens_reads
    rw [bd, rt hT ha, let_c (by omega), ob, hL, if_pos (by decide), dig_c (by omega), ob, hD, if_pos (by decide)]
  unfold f_Tokens_readsSign at hrun
  rw [chr_n ⟨B a, hBa⟩, i1 v, ob] at hrun
  have h92 : ∀ j, j < 13 → j_Tokens_readsSign_92 v (nI a) (nI j) = some (true, AD v k (nI (32 + j)) (nI a) (nI 1) 0) := fun j hj => by
    unfold j_Tokens_readsSign_92
    rw [show (32 : Int32) = nI 32 from rfl, ni_add, add_c hk hk4, ob]; rfl
  have hf : ∀ j, j < 13 → j_Tokens_readsSign_44 v (nI a) (nI (B a)) (nI j) false = some (true, AD v k (nI (32 + j)) (nI a) (nI 1) 0) := fun j hj => by
    unfold j_Tokens_readsSign_44 j_Tokens_readsSign_69
    rw [if_pos (show q_b false = 0 by decide), if_pos (show q_b false = 0 by decide), h92 j hj]
    by_cases c1 : nI (B a) = 60
    · rw [if_pos c1]
      by_cases c2 : nI (B a) = 62
      · rw [if_pos c2]
      · rw [if_neg c2]
    · rw [if_neg c1]
      by_cases c2 : nI (B a) = 62
      · rw [if_pos c2]
      · rw [if_neg c2]
  have ht : ∀ j, j < 13 → j_Tokens_readsSign_44 v (nI a) (nI (B a)) (nI j) true = if B a = 60 then some (true, AD v k (nI 45) (nI a) (nI 2) 0) else if B a = 62 then some (true, AD v k (nI 46) (nI a) (nI 2) 0) else some (true, AD v k (nI (32 + j)) (nI a) (nI 1) 0) := fun j hj => by
    unfold j_Tokens_readsSign_44 j_Tokens_readsSign_69
    rw [if_neg (show ¬ q_b true = 0 by decide), if_neg (show ¬ q_b true = 0 by decide), h92 j hj, show (60 : Int32) = nI 60 from rfl, show (62 : Int32) = nI 62 from rfl, add_c hk hk4, add_c hk hk4, ob, ob]
    by_cases c1 : B a = 60
    · rw [if_pos c1, if_pos (by rw [c1])]; rfl
    · rw [if_neg c1, if_neg (by rw [eq_n (by omega) (by omega)]; exact c1)]
      by_cases c2 : B a = 62
      · rw [if_pos c2, if_pos (by rw [c2])]; rfl
      · rw [if_neg c2, if_neg (by rw [eq_n (by omega) (by omega)]; exact c2)]
  have hcls : ∀ j, j < 13 → r = nI j → f_Tokens_reads z v (nI a) = if two B nb a = true then (if B a = 60 then some (true, AD v k (nI 45) (nI a) (nI 2) 0) else some (true, AD v k (nI 46) (nI a) (nI 2) 0)) else some (true, AD v k (nI (32 + j)) (nI a) (nI 1) 0) := fun j hj e => by
    rw [hrun, e, if_pos (by rw [n_ge0 (by omega)]; exact trivial), ni_s, hT.2.1]
    by_cases hx : a + 1 < nb
    · have hB1 := (hT.2.2 (a + 1) hx).1
      rw [if_neg (by rw [le_n (by omega) (by omega)]; omega), bd, rt hT hx, show (61 : Int32) = nI 61 from rfl]
      by_cases h61 : B (a + 1) = 61
      · rw [if_pos (by rw [h61]), ht j hj]
        by_cases c1 : B a = 60
        · rw [if_pos c1, ob, if_pos (show two B nb a = true from decide_eq_true ⟨Or.inl c1, hx, h61⟩), if_pos c1]
        · rw [if_neg c1]
          by_cases c2 : B a = 62
          · rw [if_pos c2, ob, if_pos (show two B nb a = true from decide_eq_true ⟨Or.inr c2, hx, h61⟩), if_neg c1]
          · rw [if_neg c2, ob, if_neg (show ¬ two B nb a = true from fun q => (of_decide_eq_true q).1.elim c1 c2)]
      · rw [if_neg (by rw [eq_n (by omega) (by omega)]; exact h61)]
        unfold j_Tokens_readsSign_43
        rw [hf j hj, ob, if_neg (show ¬ two B nb a = true from fun q => h61 (of_decide_eq_true q).2.2)]
    · rw [if_pos (by rw [le_n (by omega) (by omega)]; omega)]
      unfold j_Tokens_readsSign_43
      rw [hf j hj, ob, if_neg (show ¬ two B nb a = true from fun q => hx (of_decide_eq_true q).2.1)]
  have hkd : ∀ (u : Va) (l : Nat), l ≤ 4000 → TBm u B nb → f_Model_kindAt z u sp (nI a) (nI l) = if l = 2 then (if B a = 60 then some 53 else some 54) else if 0 ≤ r then some (40 + r) else some 71 := fun u l hl hu => by
    unfold f_Model_kindAt
    rw [by_m hu ha, ob, if_neg (by rw [eq_m1 (by omega)]; exact id), dig_m (by omega), ob, hD, if_pos (by decide), let_m (by omega), ob, hL, if_pos (by decide), show (2 : Int32) = nI 2 from rfl, show litX14_74 = litX10_77 from rfl, i1 u, ob, show (60 : Int32) = nI 60 from rfl]
    by_cases h2 : l = 2
    · rw [if_pos h2, if_pos (by rw [h2])]
      by_cases c1 : B a = 60
      · rw [if_pos c1, if_pos (by rw [c1])]
      · rw [if_neg c1, if_neg (by rw [eq_n (by omega) (by omega)]; exact c1)]
    · rw [if_neg h2, if_neg (by rw [eq_n (by omega) (by omega)]; exact h2)]
  have hlen : ∀ u, TBm u B nb → f_Model_lengthAt z u sp (nI a) = some (nI (if two B nb a = true then 2 else 1)) := fun u hu => len_s1 hu ha hL hD
  rcases i2 with hr | ⟨j, hj, hr⟩
  · have h2 : ¬ two B nb a = true := fun q => i3 (of_decide_eq_true q).1 hr
    rw [hr, if_neg (by decide), ob] at hrun
    refine ⟨1, 50, by omega, by omega, by omega, by omega, fun u hu => ⟨?_, ?_⟩, fun _ => hrun, fun h => absurd rfl h⟩
    · rw [hlen u hu, if_neg h2]
    · rw [hkd u 1 (by omega) hu, if_neg (by omega), hr, if_neg (by decide)]; rfl
  · by_cases h2 : two B nb a = true
    · obtain ⟨q1, q2, q3⟩ := of_decide_eq_true h2
      have hc := hcls j hj hr
      rw [if_pos h2] at hc
      by_cases c1 : B a = 60
      · rw [if_pos c1] at hc
        refine ⟨2, 45, by omega, by omega, by omega, by omega, fun u hu => ⟨?_, ?_⟩, fun h => by omega, fun _ => ⟨0, hc, fun h => by omega, fun h => by omega⟩⟩
        · rw [hlen u hu, if_pos h2]
        · rw [hkd u 2 (by omega) hu, if_pos rfl, if_pos c1]; rfl
      · rw [if_neg c1] at hc
        refine ⟨2, 46, by omega, by omega, by omega, by omega, fun u hu => ⟨?_, ?_⟩, fun h => by omega, fun _ => ⟨0, hc, fun h => by omega, fun h => by omega⟩⟩
        · rw [hlen u hu, if_pos h2]
        · rw [hkd u 2 (by omega) hu, if_pos rfl, if_neg c1]; rfl
    · have hc := hcls j hj hr
      rw [if_neg h2] at hc
      refine ⟨1, 32 + j, by omega, by omega, by omega, by omega, fun u hu => ⟨?_, ?_⟩, fun h => by omega, fun _ => ⟨0, hc, fun h => by omega, fun h => by omega⟩⟩
      · rw [hlen u hu, if_neg h2]
      · rw [hkd u 1 (by omega) hu, if_neg (by omega), hr, if_pos (by rw [n_ge0 (by omega)]; exact trivial), show (40 : Int32) = nI 40 from rfl, ni_add]
        have : kmap (32 + j) = 40 + j := by
          unfold kmap
          rw [if_neg (by omega), if_pos (by omega)]; omega
        rw [this]
theorem one_any (hT : TBc v B nb) (ha : a < nb) (hk : v 3 2 = nI k) (hk4 : k ≤ 400) (hA : ∀ i, i < k → TOK v u k1 nb B i) (hz : 4000 < z) : ∃ l n, ONE v B nb k a l n z sp := by
  cases hL : Lt (B a) with
  | true => exact one_w hT ha hk hk4 hA hz hL
  | false =>
    cases hD : Dg (B a) with
    | true => exact one_d hT ha hk hk4 hz hL hD
    | false => exact one_s hT ha hk hk4 hz hL hD
end
