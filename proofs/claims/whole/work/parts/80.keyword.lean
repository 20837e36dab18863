/-! TOKENS: the keywords, which the class keeps as one string, the reference as thirty-two -/
abbrev cc (x : Int32) : Prop := ((x &&& 255).toUInt32 % 65536).toInt32 = x ∧ narrow .char (.int x) = .int x
def WRD (w : Nat) : List Int32 := litW.getD w []
def stw : Nat → Nat
  | 0 => 0
  | w + 1 => stw w + (WRD w).length + 1
/-- the letters of a word that stand on the tape -/
def Pw (B : Nat → Nat) (a w i : Nat) : Bool := decide ((WRD w).getD i 0 = nI (B (a + i)))
def hitW (B : Nat → Nat) (a s w : Nat) : Bool := decide ((WRD w).length = s ∧ rn (Pw B a w) s 0 = s)
def kwr (hit : Nat → Bool) : Nat → Nat → Nat
  | 0, _ => 47
  | n + 1, w => if hit w = true then w else kwr hit n (w + 1)
theorem stw_facts : (∀ w : Fin 32, (WRD w.val).length ≤ 10 ∧ stw w.val + (WRD w.val).length < litX10_84.length ∧ litX10_84.getD (stw w.val + (WRD w.val).length) 0 = 32 ∧ ∀ i : Fin 10, i.val < (WRD w.val).length → litX10_84.getD (stw w.val + i.val) 0 = (WRD w.val).getD i.val 0 ∧ litX10_84.getD (stw w.val + i.val) 0 ≠ 32) ∧ stw 32 = litX10_84.length ∧ litX10_84.length ≤ 200 := by decide +kernel
theorem cc_x : ∀ x ∈ litX10_84, cc x := by decide +kernel
theorem cc_w : ∀ w : Fin 32, ∀ x ∈ WRD w.val, cc x := by decide +kernel
section
variable {v u : Va} {B : Nat → Nat} {nb a s z w sp : Nat} {bs : List Int32}
theorem rp_adv {σ ρ : Type} {f : (σ → Option ρ) → σ → Option ρ} (st : Nat → σ) (N : Nat) (step : ∀ K i, i < N → f K (st i) = K (st (i + 1))) : ∀ n i fu, i + n = N → rp f (n + fu) (st i) = rp f fu (st N)
  | 0, i, fu, h => by
    have : i = N := by omega
    rw [this, Nat.zero_add]
  | n + 1, i, fu, h => by
    rw [show n + 1 + fu = (n + fu) + 1 by omega]
    show f (rp f (n + fu)) (st i) = _
    rw [step _ i (by omega)]
    exact rp_adv st N step n (i + 1) fu (by omega)
theorem kwr_r {hit : Nat → Bool} : ∀ n w, w + n ≤ 32 → kwr hit n w < 32 ∨ kwr hit n w = 47
  | 0, _, _ => Or.inr rfl
  | n + 1, w, h => by
    by_cases q : hit w = true
    · have e : kwr hit (n + 1) w = w := if_pos q
      rw [e]; exact Or.inl (by omega)
    · have e : kwr hit (n + 1) w = kwr hit n (w + 1) := if_neg q
      rw [e]; exact kwr_r n (w + 1) (by omega)
theorem ni_sbl (x y : Nat) : nI (x + y) - nI x = nI y := by
  rw [Nat.add_comm, ← ni_add]
  exact Int32.add_sub_cancel _ _
theorem len_s : f_Str_length_8abf5 v bs = some (nI bs.length) := by
  unfold f_Str_length_8abf5 f_Str_coder_7d493
  rw [if_neg (by decide), ob]
  have : nI bs.length >>> ((0 : Int32) &&& 31) = nI bs.length := by
    rw [show (0 : Int32) &&& 31 = 0 by decide]
    exact Int32.shiftRight_zero
  rw [this]
theorem gd_mem : ∀ (l : List Int32) (i : Nat), i < l.length → l.getD i 0 ∈ l
  | [], i, h => absurd h (Nat.not_lt_zero i)
  | x :: l, 0, _ => List.mem_cons_self
  | x :: l, i + 1, h => List.mem_cons_of_mem x (gd_mem l i (Nat.lt_of_succ_lt_succ h))
theorem chr_s {i : Nat} (hl : bs.length ≤ 4000) (hc : ∀ x ∈ bs, cc x) (hi : i < bs.length) : f_Str_charAt_5068e v bs (nI i) = some (bs.getD i 0) := by
  have hm : cc (bs.getD i 0) := by
    exact hc _ (gd_mem bs i hi)
  obtain ⟨h1, h2⟩ := hm
  unfold f_Str_charAt_5068e f_Str_isLatin1_aae02
  rw [if_neg (by decide), if_pos rfl, ob, if_neg (show ¬ q_b true = 0 by decide)]
  unfold f_SL1_charAt_3b067 f_Str_checkIndex_df160 f_Pre_checkIndex_8e157
  rw [if_neg (ni_0 (by omega)), if_pos (by rw [lt_n (by omega) hl]; exact hi), ob, ob, if_neg (gd2 hi hl), ni_c (by omega), h1, ob, if_neg (fun q => q h2)]
theorem spells_c (hT : TBc v B nb) (ha : a + s ≤ nb) (hw : w < 32) (hl : (WRD w).length = s) (hz : 4000 < z) : f_Tokens_spells z v (nI (stw w)) (nI a) (nI s) = some (decide (rn (Pw B a w) s 0 = s)) := by
  have h0 := hT.1
  obtain ⟨F1, F2, F3⟩ := stw_facts
  obtain ⟨g1, g2, g3, g4⟩ := F1 ⟨w, hw⟩
  simp only at g1 g2 g3 g4
  obtain ⟨r1, r2, r3, r4⟩ := rn_spec (P := Pw B a w) s 0
  have hj : ∀ i, i < s → f_Str_charAt_5068e v litX10_84 (nI (stw w + i)) = some ((WRD w).getD i 0) := fun i hi => by
    rw [chr_s (by omega) cc_x (by omega), (g4 ⟨i, by omega⟩ (by simp only; omega)).1]
  unfold f_Tokens_spells
  refine rp_go (f := b_Tokens_spells_3 v (nI (stw w)) (nI a) (nI s)) (fun j => nI j) (rn (Pw B a w) s 0) (fun K => ?_) (fun K i hi => ?_) (by omega)
  · unfold b_Tokens_spells_3
    by_cases he : rn (Pw B a w) s 0 = s
    · rw [decide_eq_true he, he, if_pos (by rw [le_n (by omega) (by omega)]; exact Nat.le_refl _)]
    · have hP : ¬ (WRD w).getD (rn (Pw B a w) s 0) 0 = nI (B (a + rn (Pw B a w) s 0)) := of_decide_eq_false (r4 (by omega))
      rw [decide_eq_false he, if_neg (by rw [le_n (by omega) (by omega)]; omega), len_s, ob, ni_add, ni_add, if_neg (by rw [le_n (by omega) (by omega)]; omega), hj _ (by omega), ob, bd, rt hT (by omega), if_neg hP]
  · have hP : (WRD w).getD i 0 = nI (B (a + i)) := of_decide_eq_true (r3 i (Nat.zero_le _) hi)
    show b_Tokens_spells_3 v (nI (stw w)) (nI a) (nI s) K (nI i) = K (nI (i + 1))
    unfold b_Tokens_spells_3
    rw [if_neg (by rw [le_n (by omega) (by omega)]; omega), len_s, ob, ni_add, ni_add, if_neg (by rw [le_n (by omega) (by omega)]; omega), hj _ (by omega), ob, bd, rt hT (by omega), if_pos hP, ni_s]
theorem kw_c (hT : TBc v B nb) (ha : a + s ≤ nb) (hz : 4000 < z) : ∀ n w fu, w + n = 32 → litX10_84.length - stw w < fu → rp (b_Tokens_keyword_8 z v (nI a) (nI s)) fu (nI w, nI (stw w), nI (stw w)) = some (nI (kwr (hitW B a s) n w))
  | 0, w, fu, h, hf => by
    obtain ⟨F1, F2, F3⟩ := stw_facts
    have hw : w = 32 := by omega
    subst hw
    cases fu with
    | zero => omega
    | succ fu =>
      show b_Tokens_keyword_8 z v (nI a) (nI s) (rp _ fu) (nI 32, nI (stw 32), nI (stw 32)) = some 47
      unfold b_Tokens_keyword_8
      rw [len_s, ob, if_pos (by simp only; rw [F2, le_n (by omega) (by omega)]; exact Nat.le_refl _)]
  | n + 1, w, fu, h, hf => by
    have h0 := hT.1
    obtain ⟨F1, F2, F3⟩ := stw_facts
    obtain ⟨g1, g2, g3, g4⟩ := F1 ⟨w, by omega⟩
    simp only at g1 g2 g3 g4
    obtain ⟨fu', rfl⟩ : ∃ fu', fu = (WRD w).length + (fu' + 1) := ⟨fu - (WRD w).length - 1, by omega⟩
    have hadv : rp (b_Tokens_keyword_8 z v (nI a) (nI s)) ((WRD w).length + (fu' + 1)) (nI w, nI (stw w), nI (stw w)) = rp (b_Tokens_keyword_8 z v (nI a) (nI s)) (fu' + 1) (nI w, nI (stw w), nI (stw w + (WRD w).length)) := rp_adv (f := b_Tokens_keyword_8 z v (nI a) (nI s)) (fun i => (nI w, nI (stw w), nI (stw w + i))) (WRD w).length (fun K i hi => by
      obtain ⟨c1, c2⟩ := g4 ⟨i, by omega⟩ hi
      simp only at c1 c2
      unfold b_Tokens_keyword_8 j_Tokens_keyword_61
      simp only
      rw [len_s, ob, if_neg (by rw [le_n (by omega) (by omega)]; omega), chr_s (by omega) cc_x (by omega), ob, if_neg c2, ni_s, Nat.add_assoc]) (WRD w).length 0 (fu' + 1) (by omega)
    rw [hadv]
    have hnext : stw w + (WRD w).length + 1 = stw (w + 1) := rfl
    show b_Tokens_keyword_8 z v (nI a) (nI s) (rp _ fu') (nI w, nI (stw w), nI (stw w + (WRD w).length)) = some (nI (if hitW B a s w = true then w else kwr (hitW B a s) n (w + 1)))
    have hK : j_Tokens_keyword_52 (rp (b_Tokens_keyword_8 z v (nI a) (nI s)) fu') (nI w, nI (stw w), nI (stw w + (WRD w).length)) = some (nI (kwr (hitW B a s) n (w + 1))) := by
      unfold j_Tokens_keyword_52 j_Tokens_keyword_61
      simp only
      rw [ni_s, ni_s, hnext]
      exact kw_c hT ha hz n (w + 1) fu' (by omega) (by omega)
    generalize rp (b_Tokens_keyword_8 z v (nI a) (nI s)) fu' = KK at hK ⊢
    unfold b_Tokens_keyword_8
    simp only
    rw [len_s, ob, if_neg (by rw [le_n (by omega) (by omega)]; omega), chr_s (by omega) cc_x (by omega), ob, if_pos g3, ni_sbl]
    by_cases hl : (WRD w).length = s
    · rw [if_pos (by rw [hl]), spells_c hT ha (by omega) hl hz, ob]
      by_cases hr : rn (Pw B a w) s 0 = s
      · rw [decide_eq_true hr, if_neg (show ¬ q_b true = 0 by decide), if_pos (show hitW B a s w = true from decide_eq_true ⟨hl, hr⟩)]
      · rw [decide_eq_false hr, if_pos (show q_b false = 0 by decide), if_neg (show ¬ hitW B a s w = true from fun q => hr (of_decide_eq_true q).2), hK]
    · rw [if_neg (by rw [eq_n (by omega) (by omega)]; exact hl), if_neg (show ¬ hitW B a s w = true from fun q => hl (of_decide_eq_true q).1), hK]
theorem keyword_c (hT : TBc v B nb) (ha : a + s ≤ nb) (hz : 4000 < z) : f_Tokens_keyword z v (nI a) (nI s) = some (nI (kwr (hitW B a s) 32 0)) := by
  obtain ⟨F1, F2, F3⟩ := stw_facts
  exact kw_c hT ha hz 32 0 z (by omega) (by rw [show stw 0 = 0 from rfl]; omega)
theorem kw_m (hT : TBm u B nb) (ha : a + s ≤ nb) (hz : 4000 < z) : ∀ n w fu, w + n = 32 → n < fu → rp (b_Model_wordAt_2 z u (nI a) (nI s)) fu (nI w) = some (nI (kmap (kwr (hitW B a s) n w)))
  | 0, w, fu, h, hf => by
    have hw : w = 32 := by omega
    subst hw
    cases fu with
    | zero => omega
    | succ fu =>
      show b_Model_wordAt_2 z u (nI a) (nI s) (rp _ fu) (nI 32) = some 35
      unfold b_Model_wordAt_2
      rw [if_pos (by decide)]
  | n + 1, w, 0, h, hf => by omega
  | n + 1, w, fu + 1, h, hf => by
    have h0 := hT.1
    obtain ⟨F1, F2, F3⟩ := stw_facts
    obtain ⟨g1, g2, g3, g4⟩ := F1 ⟨w, by omega⟩
    simp only at g1 g2 g3 g4
    have hcw : ∀ x ∈ WRD w, cc x := cc_w ⟨w, by omega⟩
    have hgn : ¬ (nI w < 0 ∨ 32 ≤ w) := by rw [gn (by omega) (by omega)]; exact id
    obtain ⟨r1, r2, r3, r4⟩ := rn_spec (P := Pw B a w) (min s (WRD w).length) 0
    have hW : litW.getD w [] = WRD w := rfl
    show b_Model_wordAt_2 z u (nI a) (nI s) (rp _ fu) (nI w) = some (nI (kmap (if hitW B a s w = true then w else kwr (hitW B a s) n (w + 1))))
    have hK : j_Model_wordAt_81 (rp (b_Model_wordAt_2 z u (nI a) (nI s)) fu) (nI w) = some (nI (kmap (kwr (hitW B a s) n (w + 1)))) := by
      unfold j_Model_wordAt_81
      rw [ni_s]
      exact kw_m hT ha hz n (w + 1) fu (by omega) (by omega)
    generalize rp (b_Model_wordAt_2 z u (nI a) (nI s)) fu = KK at hK ⊢
    unfold b_Model_wordAt_2
    rw [show (32 : Int32) = nI 32 from rfl, if_neg (by rw [le_n (by omega) (by omega)]; omega)]
    have hin := rp_go (f := b_Model_wordAt_13 u (nI a) (nI s) KK (nI w)) (E := j_Model_wordAt_60 u (nI s) KK (nI w) (nI (rn (Pw B a w) (min s (WRD w).length) 0))) (fun j => nI j) (rn (Pw B a w) (min s (WRD w).length) 0) (fun K => by
      unfold b_Model_wordAt_13
      by_cases hs : s ≤ rn (Pw B a w) (min s (WRD w).length) 0
      · rw [if_pos (by rw [le_n (by omega) (by omega)]; exact hs)]
      rw [if_neg (by rw [le_n (by omega) (by omega)]; exact hs), if_neg (gd2 (by omega) (by omega)), ni_c (by omega), hW, len_s, ob]
      by_cases hl : (WRD w).length ≤ rn (Pw B a w) (min s (WRD w).length) 0
      · rw [if_pos (by rw [le_n (by omega) (by omega)]; exact hl)]
      have hP : ¬ (WRD w).getD (rn (Pw B a w) (min s (WRD w).length) 0) 0 = nI (B (a + rn (Pw B a w) (min s (WRD w).length) 0)) := of_decide_eq_false (r4 (by omega))
      rw [if_neg (by rw [le_n (by omega) (by omega)]; exact hl), if_neg hgn, chr_s (by omega) hcw (by omega), ob, ni_add, if_neg (gd2 (by omega) (by omega)), ni_c (by omega), (hT.2.2 _ (by omega)).2, if_neg hP]) (fun K i hi => by
      have hP : (WRD w).getD i 0 = nI (B (a + i)) := of_decide_eq_true (r3 i (Nat.zero_le _) hi)
      show b_Model_wordAt_13 u (nI a) (nI s) _ (nI w) K (nI i) = K (nI (i + 1))
      unfold b_Model_wordAt_13
      rw [if_neg (by rw [le_n (by omega) (by omega)]; omega), if_neg (gd2 (by omega) (by omega)), ni_c (by omega), hW, len_s, ob, if_neg (by rw [le_n (by omega) (by omega)]; omega), if_neg hgn, chr_s (by omega) hcw (by omega), ob, ni_add, if_neg (gd2 (by omega) (by omega)), ni_c (by omega), (hT.2.2 _ (by omega)).2, if_pos hP, ni_s]) (z := z) (by omega)
    rw [show (0 : Int32) = nI 0 from rfl, hin]
    unfold j_Model_wordAt_60
    by_cases he : rn (Pw B a w) (min s (WRD w).length) 0 = s
    · rw [if_pos (by rw [he]), if_neg (gd2 (by omega) (by omega)), ni_c (by omega), hW, len_s, ob]
      by_cases hl : (WRD w).length = s
      · have hm : min s (WRD w).length = s := by omega
        rw [hm] at he
        rw [hm, he, if_pos (by rw [hl]), if_pos (show hitW B a s w = true from decide_eq_true ⟨hl, he⟩), show kmap w = w from if_pos (by omega)]
      · rw [if_neg (by rw [eq_n (by omega) (by omega)]; omega), if_neg (show ¬ hitW B a s w = true from fun q => hl (of_decide_eq_true q).1)]
        exact hK
    · rw [if_neg (by rw [eq_n (by omega) (by omega)]; exact he), if_neg (show ¬ hitW B a s w = true from fun q => by
        obtain ⟨q1, q2⟩ := of_decide_eq_true q
        rw [show min s (WRD w).length = s by omega] at he
        exact he q2)]
      exact hK
theorem wordAt_m (hT : TBm u B nb) (ha : a + s ≤ nb) (hz : 4000 < z) : f_Model_wordAt z u sp (nI a) (nI s) = some (nI (kmap (kwr (hitW B a s) 32 0))) := kw_m hT ha hz 32 0 z (by omega) (by omega)
end
