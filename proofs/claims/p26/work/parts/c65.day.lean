/-! A DAY, in Sim and in the model -/
section
def nsm (f : Nat → Nat) : Nat → Nat
  | 0 => 0
  | n + 1 => nsm f n + f n
theorem nsm_eq {f g : Nat → Nat} : ∀ n, (∀ i, i < n → f i = g i) → nsm f n = nsm g n
  | 0, _ => rfl
  | n + 1, h => by
    show nsm f n + f n = nsm g n + g n
    rw [nsm_eq n (fun i hi => h i (by omega)), h n (by omega)]
variable {x x1 u u1 u2 : Va} {ks S G M L O o z i j a k n : Nat} {c : Int32} {pA : Nat → Nat} {pB : Nat → Nat → Nat}
theorem lose_sm (hS : SR x u ks pA pB S G M L O) (hA : APT pA pB (pn_ S G M L O) ks) (hP : PMo u S G M L O) (hI : IS u 173 L G M) (hz : 4000 < z) :
    ∃ x1 u1, f_Sim_lose z x ks pA pB (pn_ S G M L O) = some x1 ∧ f_Model_lose z u 151 173 = some u1 ∧ SR x1 u1 ks pA pB S G M L O ∧ IS u1 173 L G M ∧ (∀ p, p ≠ 174 → u1 p = u p) ∧ (∀ k, (u1 174 k).toInt ≤ (u 174 k).toInt) ∧ ∀ q, NSm ks pA pB S G M L O q → x1 q = x q := by
  obtain ⟨⟨hS4, hG4, hM6, hL10, hO24⟩, ⟨hq1, hq2, hq3, hq4, hq5⟩, hp3, hp4, hp5, hp6, hPO, hT, hO⟩ := id hP
  have p0 : pn_ S G M L O 0 = S := rfl
  have p4 : pn_ S G M L O 4 = L := rfl
  refine rp_two (f := b_Sim_lose_10 ks pA pB (pn_ S G M L O)) (g := b_Model_lose_2 151 173) (fun i s t => s.1 = nI i ∧ t.1 = nI i ∧ SR s.2 t.2 ks pA pB S G M L O ∧ IS t.2 173 L G M ∧ (∀ p, p ≠ 174 → t.2 p = u p) ∧ (∀ k, (t.2 174 k).toInt ≤ (u 174 k).toInt) ∧ ∀ q, NSm ks pA pB S G M L O q → s.2 q = x q) (fun x1 u1 => SR x1 u1 ks pA pB S G M L O ∧ IS u1 173 L G M ∧ (∀ p, p ≠ 174 → u1 p = u p) ∧ (∀ k, (u1 174 k).toInt ≤ (u 174 k).toInt) ∧ ∀ q, NSm ks pA pB S G M L O q → x1 q = x q) L ?_ ?_ z z 0 (0, x) (0, u) ⟨rfl, rfl, hS, hI, fun _ _ => rfl, fun _ => Int.le_refl _, fun _ _ => rfl⟩ (by omega) (by omega) (by omega)
  · intro K K' s t ⟨e1, e2, hS, hI, hU, hw, hN⟩
    refine ⟨s.2, t.2, ?_, ?_, hS, hI, hU, hw, hN⟩
    · unfold b_Sim_lose_10
      rw [e1, p4, if_pos (by rw [le_n (by omega) (by omega)]; exact Nat.le_refl _)]
    · unfold b_Model_lose_2
      rw [e2, hU 151 (by omega), hq4, if_pos (by rw [le_n (by omega) (by omega)]; exact Nat.le_refl _)]
  · intro K K' i s t hi ⟨e1, e2, hS, hI, hU, hw, hN⟩
    obtain ⟨i1, x1⟩ := s
    obtain ⟨i2, u1⟩ := t
    simp only at e1 e2 hS hI hU hw hN
    subst e1 e2
    obtain ⟨y, hy, ey⟩ := hp6 i hi
    obtain ⟨b, hb, eb⟩ := hp3 y hy
    obtain ⟨d, hd, ed⟩ := hI.2.2.2.2.2
    have ed : u1 173 1 = nI d := ed
    have ey1 : u1 165 i = nI y := by rw [hU 165 (by omega)]; exact ey
    have eb1 : u1 157 y = nI b := by rw [hU 157 (by omega)]; exact eb
    have hl := hI.1.1 i hi
    have hl2 := lose_w hl hb hd
    have hle : (u1 174 i - u1 174 i * nI b * nI d / 1000).toInt ≤ (u1 174 i).toInt := by
      have h0 : 0 ≤ (u1 174 i).toInt := hl.1
      have h9 : (u1 174 i).toInt ≤ 9000 := hl.2
      have m0 : 0 ≤ (u1 174 i).toInt * b := Int.mul_nonneg h0 (by omega)
      have m1 : (u1 174 i).toInt * b ≤ 9000 * 9 := Int.mul_le_mul h9 (by omega) (by omega) (by omega)
      have m2 : 0 ≤ (u1 174 i).toInt * b * d := Int.mul_nonneg m0 (by omega)
      have m3 : (u1 174 i).toInt * b * d ≤ 81000 * 9 := Int.mul_le_mul m1 (by omega) (by omega) (by omega)
      have e1 : (u1 174 i * nI b).toInt = (u1 174 i).toInt * b := by rw [t_mul, ni_t (by omega)] <;> rw [ni_t (by omega)] <;> omega
      have e2 : (u1 174 i * nI b * nI d).toInt = (u1 174 i).toInt * b * d := by rw [t_mul, e1, ni_t (by omega)] <;> rw [e1, ni_t (by omega)] <;> omega
      have e3 : (u1 174 i * nI b * nI d / 1000).toInt = (u1 174 i).toInt * b * d / 1000 := by rw [t_div (n := 1000) rfl (by omega) (by rw [e2]; omega), e2]
      rw [t_sub (by rw [e3]; omega) (by rw [e3]; omega), e3]; omega
    refine Or.inl ⟨(nI (i + 1), pu x1 (pB 4 i) 1 (u1 174 i - u1 174 i * nI b * nI d / 1000)), (nI (i + 1), pu u1 174 i (u1 174 i - u1 174 i * nI b * nI d / 1000)), ?_, ?_, rfl, rfl, ?_, ?_, ?_, ?_, fun q hq => (pu_p (fun e => hq 4 i 1 (by unfold vQ; omega) e.symm)).trans (hN q hq)⟩
    · unfold b_Sim_lose_10
      simp (disch := omega) only [lc_0, ln_0, lc_1, ln_1, lc_2, ln_2, lc_3, ln_3, lc_4, ln_4, lc_5, ln_5, lc_6, ln_6, lc_7, ln_7, lc_8, ln_8, lc_9, ln_9, lc_10, ln_10, lc_11, ln_11, false_or, Nat.reduceLeDiff, if_false, gn, ni_c, p0, p4, hS.spice hi, hS.weight hi, ey1, hS.loss hy, eb1, hS.damp, ed, bd, ni_s]
      rw [if_neg (by rw [le_n (by omega) (by omega)]; omega)]
    · unfold b_Model_lose_2 f_Model_lossOf
      simp (disch := omega) only [gn, ni_c, if_false, ey1, eb1, ob, bd, ni_s, Nat.reduceAdd, ed]
      rw [if_neg (by rw [hU 151 (by omega), hq4, le_n (by omega) (by omega)]; omega)]
    · exact hS.set hA hM6 (j := 4) (i := i) (f := 1) (by unfold vQ; omega) rfl rfl rfl rfl
    · exact hI.w (hI.1.set hi hl2)
    · intro p hp
      show pu u1 174 i _ p = u p
      rw [pu_p hp]; exact hU p hp
    · intro k
      show (pu u1 174 i _ 174 k).toInt ≤ _
      rw [pu_e]
      by_cases hk : k = i
      · subst hk; rw [upd_eq]; exact Int.le_trans hle (hw k)
      · rw [upd_ne hk]; exact hw k
/-- behind i orders, n of them carried out -/
def ORr (u u1 : Va) (L G M i n : Nat) : Prop := IS u1 173 L G M ∧ FM 173 u u1 ∧ (∃ inc : Nat → Nat, (∀ o, o < i → inc o ≤ 1 ∧ u1 182 o = u 182 o + nI (inc o)) ∧ (∀ o, i ≤ o → u1 182 o = u 182 o) ∧ nsm inc i = n) ∧
  (∃ s : Nat, s ≤ n ∧ u1 173 2 = u 173 2 + nI s ∧ u1 173 2 + u1 173 3 + u1 173 4 = u 173 2 + u 173 3 + u 173 4 + nI n ∧ (s = 0 → isum (u1 180) 36 ≤ isum (u 180) 36)) ∧
  isum (u1 179) 6 ≤ isum (u 179) 6 ∧ isum (u1 179) 6 + isum (u1 181) 4 = isum (u 179) 6 + isum (u 181) 4 ∧ u1 174 = u 174 ∧ u1 173 0 = u 173 0 ∧ u1 173 1 = u 173 1 ∧ (∀ g, g < 4 → 0 ≤ (u1 181 g).toInt) ∧ (∀ a, M ≤ a → u1 179 a = u 179 a) ∧ ∀ g, G ≤ g → u1 181 g = u 181 g
theorem ORr.start (hI : IS u 173 L G M) (he : ∀ g, g < 4 → 0 ≤ (u 181 g).toInt) : ORr u u L G M 0 0 :=
  ⟨hI, FM.rfl', ⟨fun _ => 0, fun o h => absurd h (Nat.not_lt_zero _), fun _ _ => rfl, rfl⟩, ⟨0, Nat.le_refl _, (Int32.add_zero _).symm, (Int32.add_zero _).symm, fun _ => Int.le_refl _⟩, Int.le_refl _, rfl, rfl, rfl, rfl, he, fun _ _ => rfl, fun _ _ => rfl⟩
theorem ORr.no (h : ORr u u1 L G M i n) (hF : FW u1 u2) : ORr u u2 L G M (i + 1) n := by
  obtain ⟨h1, h2, ⟨inc, h3, h4, h5⟩, h6⟩ := h
  have hU : ∀ p, p ≠ 149 → u2 p = u1 p := hF.1
  refine ⟨h1.fr hF (by omega), h2.tr hF.fm, ⟨fun o => if o < i then inc o else 0, ?_, ?_, ?_⟩, ?_⟩
  · intro o ho
    rw [hU 182 (by omega)]
    show (if o < i then inc o else 0) ≤ 1 ∧ u1 182 o = u 182 o + nI (if o < i then inc o else 0)
    by_cases q : o < i
    · rw [if_pos q]; exact h3 o q
    · rw [if_neg q, h4 o (by omega)]; exact ⟨by omega, (Int32.add_zero _).symm⟩
  · intro o ho
    rw [hU 182 (by omega)]; exact h4 o (by omega)
  · show nsm _ i + (if i < i then inc i else 0) = n
    rw [if_neg (by omega), nsm_eq (g := inc) i (fun j hj => if_pos hj)]; exact h5
  · simp (disch := omega) only [hU]
    exact h6
theorem ORr.yes (h : ORr u u1 L G M i n) (hk : KE u1 u2 L G M i) : ORr u u2 L G M (i + 1) (n + 1) := by
  obtain ⟨h1, h2, ⟨inc, h3, h4, h5⟩, ⟨s, h6, h7, h8, h9⟩, h10, h11, h12, h13, h14, h15, h16, h17⟩ := h
  obtain ⟨k1, k2, k3, ⟨t, k4, k5, k6, k7⟩, k8, k9, k10, k11, k12, k13, k14, k15⟩ := hk
  refine ⟨k1, h2.tr k2, ⟨fun o => if o < i then inc o else 1, ?_, ?_, ?_⟩, ⟨s + t, by omega, ?_, ?_, ?_⟩, Int.le_trans k8 h10, k9.trans h11, k10.trans h12, k11.trans h13, k12.trans h14, k13, fun a ha => (k14 a ha).trans (h16 a ha), fun g hg => (k15 g hg).trans (h17 g hg)⟩
  · intro o ho
    rw [k3]
    show (if o < i then inc o else 1) ≤ 1 ∧ upd (u1 182) i (u1 182 i + 1) o = u 182 o + nI (if o < i then inc o else 1)
    by_cases q : o < i
    · rw [if_pos q, upd_ne (by omega)]; exact h3 o q
    · have e : o = i := by omega
      subst e
      rw [if_neg q, upd_eq, h4 o (by omega)]; exact ⟨by omega, rfl⟩
  · intro o ho
    rw [k3, upd_ne (by omega)]; exact h4 o (by omega)
  · show nsm _ i + (if i < i then inc i else 1) = n + 1
    rw [if_neg (by omega), nsm_eq (g := inc) i (fun j hj => if_pos hj), h5]
  · rw [k5, h7, Int32.add_assoc, ni_add]
  · rw [k6, h8, Int32.add_assoc, ni_s]
  · intro q
    exact Int.le_trans (k7 (by omega)) (h9 (by omega))
theorem rem7 {n : Nat} (hn : n ≤ 4000) : nI n - nI n / 7 * 7 = nI (n % 7) := by
  apply t_inj
  have e0 : (nI n).toInt = n := ni_t hn
  have e1 : (nI n / 7).toInt = (n : Int) / 7 := by rw [t_div (n := 7) rfl (by omega) (by rw [e0]; omega), e0]
  have e2 : (nI n / 7 * 7).toInt = (n : Int) / 7 * 7 := by rw [t_mul (by rw [e1]; show _ ≤ _ * (7 : Int); omega) (by rw [e1]; show _ * (7 : Int) < _; omega), e1]; rfl
  rw [t_sub (by rw [e0, e2]; omega) (by rw [e0, e2]; omega), e0, e2, ni_t (by omega)]
  omega
def gpF (f : Nat → Int32) (A B : Nat) : Nat → Int32 := fun q => if q / 6 < A ∨ (q / 6 = A ∧ q % 6 < B) then gro (f q) else f q
theorem gpF_s {f : Nat → Int32} (hk : k < 6) : upd (gpF f a k) (6 * a + k) (gro (f (6 * a + k))) = gpF f a (k + 1) := funext fun q => by
  by_cases h : q = 6 * a + k
  · subst h
    rw [upd_eq]
    unfold gpF
    rw [if_pos (by omega)]
  · rw [upd_ne h]
    unfold gpF
    by_cases h2 : q / 6 < a ∨ (q / 6 = a ∧ q % 6 < k)
    · rw [if_pos h2, if_pos (by omega)]
    · rw [if_neg h2, if_neg (by omega)]
theorem gpF_0 {f : Nat → Int32} : gpF f 0 0 = f := funext fun q => if_neg (by omega)
theorem gpF_at {f : Nat → Int32} (hk : k < 6) : gpF f a k (6 * a + k) = f (6 * a + k) := if_neg (by omega)
theorem SR.c180 {F F' : Nat → Int32} (h : SR x (up u 180 F) ks pA pB S G M L O) (hM : M ≤ 6) (e : ∀ a b, a < M → b < M → F' (6 * a + b) = F (6 * a + b)) : SR x (up u 180 F') ks pA pB S G M L O := fun j i f hv => by
  rw [h j i f hv]
  by_cases hp : tPl j f = 180
  · rw [hp, up_eq, up_eq]
    have e1 := vQ_iv hM hv
    rw [hp] at e1
    have e2 : j = 3 := (show (3 : Nat) = j from congrArg Prod.fst e1).symm
    subst e2
    rcases hv with h1 | h1 | h1 | h1 | h1 | h1 | h1 | h1 <;> first | omega | exact (e i f h1.2.1 h1.2.2).symm
  · rw [up_ne hp, up_ne hp]
theorem pu_i {v : Va} {p a : Nat} : pu v p a (v p a) = v := by
  unfold pu
  have : upd (v p) a (v p a) = v p := funext fun q => by
    by_cases h : q = a
    · subst h; rw [upd_eq]
    · rw [upd_ne h]
  rw [this, up_id]
/-- one row of debts grows -/
theorem grow_row (hA : APT pA pB (pn_ S G M L O) ks) (hM : M ≤ 6) (hD : ID (u 180) M) {n0 : Nat} (hn0 : n0 ≤ 4000) (hd : u 173 0 = nI n0) (hr : n0 % 7 = 6) (hz : 4000 < z) (ha : a < M) (hS : SR x (up u 180 (gpF (u 180) a 0)) ks pA pB S G M L O) (K : Int32 × Va → Option (Int32 × Va)) :
    ∃ x', rp (b_Sim_pass_73 ks pB (pn_ S G M L O) K (nI a, x)) z (0, x) = K (nI (a + 1), x') ∧ SR x' (up u 180 (gpF (u 180) a M)) ks pA pB S G M L O ∧ ∀ q, NSm ks pA pB S G M L O q → x' q = x q := by
  have p2 : pn_ S G M L O 2 = M := rfl
  refine rp_oneE (f := b_Sim_pass_73 ks pB (pn_ S G M L O) K (nI a, x)) (fun i s => s.1 = nI i ∧ SR s.2 (up u 180 (gpF (u 180) a i)) ks pA pB S G M L O ∧ ∀ q, NSm ks pA pB S G M L O q → s.2 q = x q) (fun r => ∃ x', r = K (nI (a + 1), x') ∧ SR x' (up u 180 (gpF (u 180) a M)) ks pA pB S G M L O ∧ ∀ q, NSm ks pA pB S G M L O q → x' q = x q) M ?_ ?_ z 0 (0, x) ⟨rfl, hS, fun _ _ => rfl⟩ (by omega) (by omega)
  · intro K1 s ⟨e1, h1, hN⟩
    refine ⟨s.2, ?_, h1, hN⟩
    unfold b_Sim_pass_73
    rw [e1, p2, if_pos (by rw [le_n (by omega) (by omega)]; exact Nat.le_refl _), ni_s]
  · intro K1 i s hi ⟨e1, h1, hN⟩
    obtain ⟨i1, y⟩ := s
    simp only at e1 h1 hN
    subst e1
    have e0 : y (pB 3 a) i = u 180 (6 * a + i) := by rw [h1.owes ha hi, up_eq, gpF_at (by omega)]
    have ey : y ks 0 = nI n0 := by rw [h1.day, up_ne (by omega), hd]
    have hb := hD a i (by omega) (by omega)
    have hs : SR (pu y (pB 3 a) i (gro (u 180 (6 * a + i)))) (up u 180 (gpF (u 180) a (i + 1))) ks pA pB S G M L O := by
      have := h1.set hA hM (j := 3) (i := a) (f := i) (y := gro (u 180 (6 * a + i))) (y' := gro (u 180 (6 * a + i))) (by unfold vQ; omega) (show smQ ks pA pB 3 a = pB 3 a from rfl) (show tPl 3 i = 180 from rfl) (show tIx 3 a i = 6 * a + i from rfl) rfl
      have e : pu (up u 180 (gpF (u 180) a i)) 180 (6 * a + i) (gro (u 180 (6 * a + i))) = up u 180 (gpF (u 180) a (i + 1)) := by
        rw [pu, up_up, up_eq, gpF_s (by omega)]
      rw [e] at this
      exact this
    refine ⟨(nI (i + 1), pu y (pB 3 a) i (gro (u 180 (6 * a + i)))), ?_, rfl, hs, fun q hq => (pu_p (fun e => hq 3 a i (by unfold vQ; omega) e.symm)).trans (hN q hq)⟩
    unfold b_Sim_pass_73 j_Sim_pass_139
    simp (disch := omega) only [gn, ni_c, if_false, p2, e0, ey, rem7, hr, bd, pu_s, ni_s]
    rw [if_neg (by rw [le_n (by omega) (by omega)]; omega)]
    by_cases h0 : u 180 (6 * a + i) = 0
    · rw [if_pos h0]
      have e5 : gro (u 180 (6 * a + i)) = y (pB 3 a) i := by rw [e0, h0]; decide
      rw [e5, pu_i]
    · rw [if_neg h0, if_pos (show (6 : Int32) ≤ nI 6 by decide)]
      have hp : ¬ u 180 (6 * a + i) < 1 := by
        rw [t_lt, show (1 : Int32).toInt = 1 from rfl]
        have : (u 180 (6 * a + i)).toInt ≠ 0 := fun q => h0 (t_inj q)
        omega
      have e6 : gro (u 180 (6 * a + i)) = q_min 99999 (u 180 (6 * a + i) + (u 180 (6 * a + i) / 20 + 1)) := by
        unfold gro; rw [if_neg hp, Int32.add_assoc]
      by_cases h9 : u 180 (6 * a + i) + (u 180 (6 * a + i) / 20 + 1) ≤ 99999
      · rw [if_pos h9, e6]
        have : q_min 99999 (u 180 (6 * a + i) + (u 180 (6 * a + i) / 20 + 1)) = u 180 (6 * a + i) + (u 180 (6 * a + i) / 20 + 1) := by
          apply t_inj; rw [t_min]; have := t_le.mp h9; omega
        rw [this]
      · rw [if_neg h9, e6]
        have : q_min 99999 (u 180 (6 * a + i) + (u 180 (6 * a + i) / 20 + 1)) = 99999 := by
          apply t_inj; rw [t_min]; have := t_lt.mp (Int32.not_le.mp h9); omega
        rw [this]
        have e7 : pu (pu y (pB 3 a) i (u 180 (6 * a + i) + (u 180 (6 * a + i) / 20 + 1))) (pB 3 a) i 99999 = pu y (pB 3 a) i 99999 := by
          unfold pu; rw [up_up, up_eq, upd_upd]
        rw [e7]
/-- or none does -/
theorem still_row (hM : M ≤ 6) {n0 : Nat} (hn0 : n0 ≤ 4000) (hd : u 173 0 = nI n0) (hr : n0 % 7 ≠ 6) (hz : 4000 < z) (ha : a < M) (hS : SR x u ks pA pB S G M L O) (K : Int32 × Va → Option (Int32 × Va)) :
    rp (b_Sim_pass_73 ks pB (pn_ S G M L O) K (nI a, x)) z (0, x) = K (nI (a + 1), x) := by
  have p2 : pn_ S G M L O 2 = M := rfl
  refine rp_go (fun i => (nI i, x)) M (fun K1 => ?_) (fun K1 i hi => ?_) (by omega)
  · unfold b_Sim_pass_73
    simp only [p2]
    rw [if_pos (by rw [le_n (by omega) (by omega)]; exact Nat.le_refl _), ni_s]
  · have ey : x ks 0 = nI n0 := by rw [hS.day, hd]
    unfold b_Sim_pass_73 j_Sim_pass_139
    simp (disch := omega) only [gn, ni_c, if_false, p2, ey, rem7, ni_s]
    rw [if_neg (by rw [le_n (by omega) (by omega)]; omega)]
    have h6 : ¬ (6 : Int32) ≤ nI (n0 % 7) := by
      rw [show (6 : Int32) = nI 6 from rfl, le_n (by omega) (by omega)]; omega
    rw [if_neg h6]
    split <;> rfl
theorem grow_sm (hA : APT pA pB (pn_ S G M L O) ks) (hM : M ≤ 6) (hD : ID (u 180) M) {n0 : Nat} (hn0 : n0 ≤ 4000) (hd : u 173 0 = nI n0) (hz : 4000 < z) (hS : SR x u ks pA pB S G M L O) {y : Int32} {w : Va} :
    ∃ x', rp (b_Sim_pass_58 z ks pB (pn_ S G M L O) (c, y, w)) z (0, x) = some (c, x') ∧ SR x' (pu (if u 173 0 - u 173 0 / 7 * 7 = 6 then up u 180 (groN (u 180) 36) else u) 173 0 (u 173 0 + 1)) ks pA pB S G M L O ∧ ∀ q, NSm ks pA pB S G M L O q → x' q = x q := by
  have p3 : pn_ S G M L O 3 = M := rfl
  have hc : (u 173 0 - u 173 0 / 7 * 7 = 6) = (n0 % 7 = 6) := by
    rw [hd, rem7 hn0, show (6 : Int32) = nI 6 from rfl, eq_n (by omega) (by omega)]
  have fin : ∀ (K : Int32 × Va → Option (Int32 × Va)) (x' u' : Va), SR x' u' ks pA pB S G M L O → u' 173 0 = u 173 0 → ∃ x2, b_Sim_pass_58 z ks pB (pn_ S G M L O) (c, y, w) K (nI M, x') = some (c, x2) ∧ SR x2 (pu u' 173 0 (u 173 0 + 1)) ks pA pB S G M L O ∧ ∀ q, NSm ks pA pB S G M L O q → x2 q = x' q := by
    intro K x' u' h1 h2
    refine ⟨pu x' ks 0 (u 173 0 + 1), ?_, h1.set hA hM (j := 7) (i := 0) (f := 0) (by unfold vQ; omega) rfl rfl rfl rfl, fun q hq => pu_p (fun e => hq 7 0 0 (by unfold vQ; omega) e.symm)⟩
    unfold b_Sim_pass_58
    simp only [p3, bd]
    rw [if_pos (by rw [le_n (by omega) (by omega)]; exact Nat.le_refl _), h1.day, h2]
  by_cases h6 : n0 % 7 = 6
  · rw [if_pos (by rw [hc]; exact h6)]
    have hst : SR x (up u 180 (gpF (u 180) 0 0)) ks pA pB S G M L O := by rw [gpF_0, up_id]; exact hS
    obtain ⟨r, e1, x', e2, h1, hN⟩ := rp_inv (f := b_Sim_pass_58 z ks pB (pn_ S G M L O) (c, y, w)) (fun i s => s.1 = nI i ∧ SR s.2 (up u 180 (gpF (u 180) i 0)) ks pA pB S G M L O ∧ ∀ q, NSm ks pA pB S G M L O q → s.2 q = x q) (fun r => ∃ x', r = (c, x') ∧ SR x' (pu (up u 180 (gpF (u 180) M 0)) 173 0 (u 173 0 + 1)) ks pA pB S G M L O ∧ ∀ q, NSm ks pA pB S G M L O q → x' q = x q) M
      (fun K s ⟨e1, h1, hN⟩ => by
        obtain ⟨i1, x1⟩ := s
        simp only at e1 h1 hN
        subst e1
        obtain ⟨x2, q1, q2, q3⟩ := fin K x1 _ h1 (by rw [up_ne (by omega)])
        exact ⟨_, q1, x2, rfl, q2, fun q hq => (q3 q hq).trans (hN q hq)⟩)
      (fun K i s hi ⟨e1, h1, hN⟩ => by
        obtain ⟨i1, x1⟩ := s
        simp only at e1 h1 hN
        subst e1
        obtain ⟨x2, q1, q2, q3⟩ := grow_row hA hM hD hn0 hd h6 hz hi h1 K
        refine Or.inl ⟨(nI (i + 1), x2), ?_, rfl, q2.c180 hM (fun a b ha hb => ?_), fun q hq => (q3 q hq).trans (hN q hq)⟩
        · unfold b_Sim_pass_58
          simp (disch := omega) only [p3, gn, ni_c, if_false]
          rw [if_neg (by rw [le_n (by omega) (by omega)]; omega), q1]
        · unfold gpF
          by_cases h2 : (6 * a + b) / 6 < i + 1 ∨ ((6 * a + b) / 6 = i + 1 ∧ (6 * a + b) % 6 < 0)
          · rw [if_pos h2, if_pos (by omega)]
          · rw [if_neg h2, if_neg (by omega)]) z 0 (0, x) ⟨rfl, hst, fun _ _ => rfl⟩ (by omega) (by omega)
    subst e2
    refine ⟨x', e1, ?_, hN⟩
    have e4 : pu (up u 180 (gpF (u 180) M 0)) 173 0 (u 173 0 + 1) = up (pu u 173 0 (u 173 0 + 1)) 180 (gpF (u 180) M 0) := by
      funext p
      unfold pu
      by_cases h1 : p = 173
      · subst h1; rw [up_eq, up_ne (by omega), up_ne (by omega), up_eq]
      · by_cases h2 : p = 180
        · subst h2; rw [up_ne h1, up_eq, up_eq]
        · rw [up_ne h1, up_ne h2, up_ne h2, up_ne h1]
    have e5 : pu (up u 180 (groN (u 180) 36)) 173 0 (u 173 0 + 1) = up (pu u 173 0 (u 173 0 + 1)) 180 (groN (u 180) 36) := by
      funext p
      unfold pu
      by_cases h1 : p = 173
      · subst h1; rw [up_eq, up_ne (by omega), up_ne (by omega), up_eq]
      · by_cases h2 : p = 180
        · subst h2; rw [up_ne h1, up_eq, up_eq]
        · rw [up_ne h1, up_ne h2, up_ne h2, up_ne h1]
    rw [e4] at h1
    rw [e5]
    refine h1.c180 hM (fun a b ha hb => ?_)
    unfold groN gpF
    rw [if_pos (by omega), if_pos (by omega)]
  · rw [if_neg (by rw [hc]; exact h6)]
    obtain ⟨r, e1, x', e2, h1, hN⟩ := rp_inv (f := b_Sim_pass_58 z ks pB (pn_ S G M L O) (c, y, w)) (fun i s => s = (nI i, x)) (fun r => ∃ x', r = (c, x') ∧ SR x' (pu u 173 0 (u 173 0 + 1)) ks pA pB S G M L O ∧ ∀ q, NSm ks pA pB S G M L O q → x' q = x q) M
      (fun K s e1 => by
        subst e1
        obtain ⟨x2, q1, q2, q3⟩ := fin K x _ hS rfl
        exact ⟨_, q1, x2, rfl, q2, q3⟩)
      (fun K i s hi e1 => by
        subst e1
        refine Or.inl ⟨(nI (i + 1), x), ?_, rfl⟩
        unfold b_Sim_pass_58
        simp (disch := omega) only [p3, gn, ni_c, if_false]
        rw [if_neg (by rw [le_n (by omega) (by omega)]; omega), still_row hM hn0 hd h6 hz hi hS K]) z 0 (0, x) rfl (by omega) (by omega)
    subst e2
    exact ⟨x', e1, h1, hN⟩
/-- a day -/
def DA (u u1 : Va) (S G M L O n : Nat) : Prop := n ≤ O ∧ IS u1 173 L G M ∧ FM 173 u u1 ∧ (∃ inc : Nat → Nat, (∀ o, o < O → inc o ≤ 1 ∧ u1 182 o = u 182 o + nI (inc o)) ∧ nsm inc O = n) ∧
  (∃ s : Nat, s ≤ n ∧ u1 173 2 = u 173 2 + nI s ∧ u1 173 2 + u1 173 3 + u1 173 4 = u 173 2 + u 173 3 + u 173 4 + nI n ∧ (s = 0 → ¬ u 173 0 - u 173 0 / 7 * 7 = 6 → isum (u1 180) 36 ≤ isum (u 180) 36)) ∧
  isum (u1 179) 6 ≤ isum (u 179) 6 ∧ isum (u1 179) 6 + isum (u1 181) 4 = isum (u 179) 6 + isum (u 181) 4 ∧ (∀ k, (u1 174 k).toInt ≤ (u 174 k).toInt) ∧ u1 173 0 = u 173 0 + 1 ∧ u1 173 1 = u 173 1 ∧ (∀ g, g < 4 → 0 ≤ (u1 181 g).toInt) ∧ (∀ a, M ≤ a → u1 179 a = u 179 a) ∧ ∀ g, G ≤ g → u1 181 g = u 181 g
theorem nsm_le {f : Nat → Nat} : ∀ n, (∀ i, i < n → f i ≤ 1) → nsm f n ≤ n
  | 0, _ => Nat.le_refl _
  | n + 1, h => by
    show nsm f n + f n ≤ n + 1
    have := nsm_le n (fun i hi => h i (by omega))
    have := h n (by omega)
    omega
theorem pass_sm (hS : SR x u ks pA pB S G M L O) (hA : APT pA pB (pn_ S G M L O) ks) (hP : PMo u S G M L O) (hI : IS u 173 L G M) (he : ∀ g, g < 4 → 0 ≤ (u 181 g).toInt) (ht : isum (u 179) 6 + isum (u 181) 4 ≤ 59994) {n0 : Nat} (hn0 : n0 ≤ 4000) (hd : u 173 0 = nI n0) (hz : 4000 < z) :
    ∃ (n : Nat) (x1 u1 : Va), f_Sim_pass z x ks pA pB (pn_ S G M L O) = some (nI n, x1) ∧ f_Model_dayOn z u 151 173 = some (nI n, u1) ∧ SR x1 u1 ks pA pB S G M L O ∧ DA u u1 S G M L O n ∧ ∀ q, NSm ks pA pB S G M L O q → x1 q = x q := by
  obtain ⟨xa, ua, l1, l2, l3, l4, l5, l6, lN⟩ := lose_sm hS hA hP hI hz
  have hO24 : O ≤ 24 := hP.1.2.2.2.2
  have hM6 : M ≤ 6 := hP.1.2.2.1
  have hPa : PMo ua S G M L O := hP.cong fun p hp => l5 p (by omega)
  have p5 : pn_ S G M L O 5 = O := rfl
  have hea : ∀ g, g < 4 → 0 ≤ (ua 181 g).toInt := by rw [l5 181 (by omega)]; exact he
  have hta : isum (ua 179) 6 + isum (ua 181) 4 ≤ 59994 := by rw [l5 181 (by omega), l5 179 (by omega)]; exact ht
  have hda : ua 173 0 = nI n0 := by rw [l5 173 (by omega)]; exact hd
  have main : ∃ (q r : Int32 × Va), rp (b_Sim_pass_17 z ks pA pB (pn_ S G M L O)) z (0, 0, xa) = some q ∧ rp (b_Model_dayOn_9 z 151 173) z (0, 0, ua) = some r ∧
      ∃ (n : Nat) (ub : Va), q.1 = nI n ∧ r.1 = nI n ∧ ORr ua ub L G M O n ∧ SR q.2 r.2 ks pA pB S G M L O ∧ (∀ q', NSm ks pA pB S G M L O q' → q.2 q' = x q') ∧ r.2 = pu (if ub 173 0 - ub 173 0 / 7 * 7 = 6 then up ub 180 (groN (ub 180) 36) else ub) 173 0 (ub 173 0 + 1) := by
    refine rp_two (f := b_Sim_pass_17 z ks pA pB (pn_ S G M L O)) (g := b_Model_dayOn_9 z 151 173) (fun i s t => ∃ n, s.1 = nI n ∧ t.1 = nI n ∧ s.2.1 = nI i ∧ t.2.1 = nI i ∧ ORr ua t.2.2 L G M i n ∧ SR s.2.2 t.2.2 ks pA pB S G M L O ∧ ∀ q', NSm ks pA pB S G M L O q' → s.2.2 q' = x q') (fun q r => ∃ (n : Nat) (ub : Va), q.1 = nI n ∧ r.1 = nI n ∧ ORr ua ub L G M O n ∧ SR q.2 r.2 ks pA pB S G M L O ∧ (∀ q', NSm ks pA pB S G M L O q' → q.2 q' = x q') ∧ r.2 = pu (if ub 173 0 - ub 173 0 / 7 * 7 = 6 then up ub 180 (groN (ub 180) 36) else ub) 173 0 (ub 173 0 + 1)) O ?_ ?_ z z 0 (0, 0, xa) (0, 0, ua) ⟨0, rfl, rfl, rfl, rfl, ORr.start l4 hea, l3, lN⟩ (by omega) (by omega) (by omega)
    · intro K K' s t ⟨n, e1, e2, e3, e4, hR, h1, hN⟩
      obtain ⟨c1, i1, x1⟩ := s
      obtain ⟨c2, i2, u1⟩ := t
      simp only at e1 e2 e3 e4 hR h1 hN
      subst e1 e2 e3 e4
      have hP1 : PMo u1 S G M L O := hPa.fm hR.2.1
      have hd1 : u1 173 0 = nI n0 := hR.2.2.2.2.2.2.2.1.trans hda
      obtain ⟨x2, q1, q2, q3⟩ := grow_sm (c := nI n) (y := nI O) (w := x1) hA hM6 hR.1.2.2.2.2.1 hn0 hd1 hz h1
      refine ⟨(nI n, x2), (nI n, _), ?_, ?_, n, u1, rfl, rfl, hR, q2, fun q' hq => (q3 q' hq).trans (hN q' hq), rfl⟩
      · unfold b_Sim_pass_17
        simp only [p5]
        rw [if_pos (by rw [le_n (by omega) (by omega)]; exact Nat.le_refl _)]
        exact q1
      · unfold b_Model_dayOn_9
        simp only [hP1.2.1.2.2.2.2]
        rw [if_pos (by rw [le_n (by omega) (by omega)]; exact Nat.le_refl _)]
        exact grow_all_m (sn := 173) (by omega) hz
    · intro K K' i s t hi ⟨n, e1, e2, e3, e4, hR, h1, hN⟩
      obtain ⟨c1, i1, x1⟩ := s
      obtain ⟨c2, i2, u1⟩ := t
      simp only at e1 e2 e3 e4 hR h1 hN
      subst e1 e2 e3 e4
      have hP1 : PMo u1 S G M L O := hPa.fm hR.2.1
      obtain ⟨b, x2, u2, q1, q2, q3, q4, q5, q6⟩ := carry_sm h1 hA hP1 hR.1 hz hi
      have cs : b_Sim_pass_17 z ks pA pB (pn_ S G M L O) K (nI n, nI i, x1) = if q_b b = 0 then K (nI n, nI (i + 1), x2) else K (nI (n + 1), nI (i + 1), x2) := by
        unfold b_Sim_pass_17 j_Sim_pass_41
        simp (disch := omega) only [p5, gn, ni_c, if_false, q1, ob, ni_s]
        rw [if_neg (by rw [le_n (by omega) (by omega)]; omega)]
      have cm : b_Model_dayOn_9 z 151 173 K' (nI n, nI i, u1) = if q_b b = 0 then K' (nI n + q_b false, nI (i + 1), u2) else K' (nI n + q_b true, nI (i + 1), u2) := by
        unfold b_Model_dayOn_9 j_Model_dayOn_35
        simp only [hP1.2.1.2.2.2.2]
        rw [if_neg (by rw [le_n (by omega) (by omega)]; omega), q2, ob, ni_s]
      rw [cs, cm]
      cases b
      · rw [if_pos (show q_b false = 0 from rfl), if_pos (show q_b false = 0 from rfl)]
        refine Or.inl ⟨_, _, rfl, rfl, n, rfl, ?_, rfl, rfl, hR.no (q4 rfl).1, q3, fun q' hq => (q6 q' hq).trans (hN q' hq)⟩
        exact Int32.add_zero _
      · rw [if_neg (by decide), if_neg (by decide)]
        exact Or.inl ⟨_, _, rfl, rfl, n + 1, rfl, ni_s n, rfl, rfl, hR.yes ((q5 rfl).ke hP1 hR.1 hR.2.2.2.2.2.2.2.2.2.1 (by rw [hR.2.2.2.2.2.1]; exact hta)), q3, fun q' hq => (q6 q' hq).trans (hN q' hq)⟩
  obtain ⟨⟨cq, x1⟩, ⟨cr, u1⟩, m1, m2, n, ub, e1, e2, hR, h1, hN, h2⟩ := main
  simp only at e1 e2 h1 hN h2
  subst e1 e2
  refine ⟨n, x1, u1, ?_, ?_, h1, ?_, hN⟩
  · unfold f_Sim_pass
    rw [l1, ob, m1]
  · unfold f_Model_dayOn
    rw [l2, ob, m2]
  obtain ⟨r1, r2, ⟨inc, r3, r4, r5⟩, ⟨s, r6, r7, r8, r9⟩, r10, r11, r12, r13, r14, r15, r16, r17⟩ := hR
  have hle : n ≤ O := by rw [← r5]; exact nsm_le O (fun i hi => (r3 i hi).1)
  have hFa : FM 173 u ua := ⟨fun p _ hp => l5 p (by omega), fun j _ _ => by rw [l5 149 (by omega)]⟩
  by_cases h6 : ub 173 0 - ub 173 0 / 7 * 7 = 6
  · rw [if_pos h6] at h2
    subst h2
    have hI3 : IS (pu (up ub 180 (groN (ub 180) 36)) 173 0 (ub 173 0 + 1)) 173 L G M := (r1.d r1.2.2.2.2.1.grow).f (j := 0) (by omega)
    refine ⟨hle, hI3, hFa.tr (r2.tr ((FM.up (by omega) (by omega) (by omega)).tr (fm_p (by omega) (by omega)))), ⟨inc, ?_, r5⟩, ⟨s, r6, ?_, ?_, ?_⟩, ?_, ?_, ?_, ?_, ?_, ?_, ?_, ?_⟩
    · intro o ho
      rw [pu_p (by omega), up_ne (by omega), ← l5 182 (by omega)]; exact r3 o ho
    · rw [pu_d (by omega), up_ne (by omega), ← l5 173 (by omega)]; exact r7
    · rw [pu_d (by omega), pu_d (by omega), pu_d (by omega), up_ne (by omega), ← l5 173 (by omega)]; exact r8
    · intro _ q
      rw [← l5 173 (by omega), ← r13] at q
      exact absurd h6 q
    · rw [pu_p (by omega), up_ne (by omega), ← l5 179 (by omega)]; exact r10
    · rw [pu_p (by omega), pu_p (by omega), up_ne (by omega), up_ne (by omega), ← l5 179 (by omega), ← l5 181 (by omega)]; exact r11
    · intro k
      rw [pu_p (by omega), up_ne (by omega), r12]; exact l6 k
    · rw [pu_s, r13, l5 173 (by omega)]
    · rw [pu_d (by omega), up_ne (by omega), r14, l5 173 (by omega)]
    · rw [pu_p (by omega), up_ne (by omega)]; exact r15
    · intro a ha
      rw [pu_p (by omega), up_ne (by omega), r16 a ha, l5 179 (by omega)]
    · intro g hg
      rw [pu_p (by omega), up_ne (by omega), r17 g hg, l5 181 (by omega)]
  · rw [if_neg h6] at h2
    subst h2
    refine ⟨hle, r1.f (j := 0) (by omega), hFa.tr (r2.tr (fm_p (by omega) (by omega))), ⟨inc, ?_, r5⟩, ⟨s, r6, ?_, ?_, ?_⟩, ?_, ?_, ?_, ?_, ?_, ?_, ?_, ?_⟩
    · intro o ho
      rw [pu_p (by omega), ← l5 182 (by omega)]; exact r3 o ho
    · rw [pu_d (by omega), ← l5 173 (by omega)]; exact r7
    · rw [pu_d (by omega), pu_d (by omega), pu_d (by omega), ← l5 173 (by omega)]; exact r8
    · intro q _
      rw [pu_p (by omega), ← l5 180 (by omega)]; exact r9 q
    · rw [pu_p (by omega), ← l5 179 (by omega)]; exact r10
    · rw [pu_p (by omega), pu_p (by omega), ← l5 179 (by omega), ← l5 181 (by omega)]; exact r11
    · intro k
      rw [pu_p (by omega), r12]; exact l6 k
    · rw [pu_s, r13, l5 173 (by omega)]
    · rw [pu_d (by omega), r14, l5 173 (by omega)]
    · rw [pu_p (by omega)]; exact r15
    · intro a ha
      rw [pu_p (by omega), r16 a ha, l5 179 (by omega)]
    · intro g hg
      rw [pu_p (by omega), r17 g hg, l5 181 (by omega)]
end
