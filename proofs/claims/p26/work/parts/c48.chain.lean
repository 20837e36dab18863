/-! CHAINS OF DEBTS: one round is one function of rows, and rounds beyond the number of merchants change nothing -/
def hitP (e : Nat → Int32) (m : Nat) (r : Nat → Int32) (A B N c : Nat) : Prop := c < N ∧ r c = -1 ∧ ∃ a, (a < A ∨ (a = A ∧ c < B)) ∧ r a = nI m ∧ ¬ e (6 * a + c) ≤ 0
noncomputable def FrA (e : Nat → Int32) (m : Nat) (r : Nat → Int32) (A B N : Nat) : Nat → Int32 := fun c => @ite Int32 (hitP e m r A B N c) (Classical.propDecidable _) (nI (m + 1)) (r c)
theorem FrA_t {e r : Nat → Int32} {m A B N c : Nat} (h : hitP e m r A B N c) : FrA e m r A B N c = nI (m + 1) := @if_pos _ (Classical.propDecidable _) h _ _ _
theorem FrA_f {e r : Nat → Int32} {m A B N c : Nat} (h : ¬ hitP e m r A B N c) : FrA e m r A B N c = r c := @if_neg _ (Classical.propDecidable _) h _ _ _
section
variable {e r : Nat → Int32} {m A B N c : Nat}
theorem FrA_0 : FrA e m r 0 0 N = r := funext fun c => FrA_f fun ⟨_, _, a, h, _⟩ => by omega
theorem FrA_n : FrA e m r A N N = FrA e m r (A + 1) 0 N := funext fun c => by
  by_cases h : hitP e m r A N N c
  · rw [FrA_t h, FrA_t]
    obtain ⟨h1, h2, a, h3, h4⟩ := h
    exact ⟨h1, h2, a, Or.inl (by omega), h4⟩
  · rw [FrA_f h, FrA_f]
    intro ⟨h1, h2, a, h3, h4⟩
    exact h ⟨h1, h2, a, by omega, h4⟩
theorem FrA_m (hm : m ≤ 10) : (FrA e m r A B N c = nI m) ↔ r c = nI m := by
  by_cases h : hitP e m r A B N c
  · rw [FrA_t h, eq_n (by omega) (by omega), h.2.1]
    refine ⟨fun q => by omega, fun q => ?_⟩
    have := q.symm
    rw [eq_m1 (by omega)] at this
    exact this.elim
  · rw [FrA_f h]
/-- the test of one pair -/
theorem FrA_yes (hm : m ≤ 10) (hB : B < N) (h1 : r A = nI m) (h2 : FrA e m r A B N B = -1) (h3 : ¬ e (6 * A + B) ≤ 0) : upd (FrA e m r A B N) B (nI (m + 1)) = FrA e m r A (B + 1) N := funext fun c => by
  have h4 : ¬ hitP e m r A B N B := fun q => by rw [FrA_t q, eq_m1 (by omega)] at h2; exact h2
  by_cases hq : c = B
  · subst hq
    rw [upd_eq, FrA_t]
    exact ⟨hB, by rw [← h2, FrA_f h4], A, Or.inr ⟨rfl, by omega⟩, h1, h3⟩
  · rw [upd_ne hq]
    by_cases h : hitP e m r A B N c
    · rw [FrA_t h, FrA_t]
      obtain ⟨h1, h2, a, h3, h4⟩ := h
      exact ⟨h1, h2, a, by omega, h4⟩
    · rw [FrA_f h, FrA_f]
      intro ⟨h1, h2, a, h3, h4⟩
      exact h ⟨h1, h2, a, by omega, h4⟩
theorem FrA_no (h0 : ¬ (r A = nI m ∧ FrA e m r A B N B = -1 ∧ ¬ e (6 * A + B) ≤ 0)) : FrA e m r A B N = FrA e m r A (B + 1) N := funext fun c => by
  by_cases h : hitP e m r A B N c
  · rw [FrA_t h, FrA_t]
    obtain ⟨h1, h2, a, h3, h4⟩ := h
    exact ⟨h1, h2, a, by omega, h4⟩
  · rw [FrA_f h, FrA_f]
    intro ⟨h1, h2, a, h3, h4, h5⟩
    by_cases hq : a = A ∧ c = B
    · obtain ⟨rfl, rfl⟩ := hq
      exact h0 ⟨h4, by rw [FrA_f h]; exact h2, h5⟩
    · exact h ⟨h1, h2, a, by omega, h4, h5⟩
theorem FrA_skip (h0 : ¬ r A = nI m) : FrA e m r A 0 N = FrA e m r (A + 1) 0 N := funext fun c => by
  by_cases h : hitP e m r A 0 N c
  · rw [FrA_t h, FrA_t]
    obtain ⟨h1, h2, a, h3, h4⟩ := h
    exact ⟨h1, h2, a, by omega, h4⟩
  · rw [FrA_f h, FrA_f]
    intro ⟨h1, h2, a, h3, h4, h5⟩
    by_cases hq : a = A
    · subst hq; exact h0 h4
    · exact h ⟨h1, h2, a, by omega, h4, h5⟩
/-- only -1 and numbers of debts stand in the row -/
def RJ (r : Nat → Int32) (N i : Nat) : Prop := ∀ c, c < N → r c = -1 ∨ ∃ j, j ≤ i ∧ r c = nI j
theorem FrA_J (h : RJ r N m) : RJ (FrA e m r A B N) N (m + 1) := fun c hc => by
  by_cases h' : hitP e m r A B N c
  · rw [FrA_t h']; exact Or.inr ⟨m + 1, Nat.le_refl _, rfl⟩
  · rw [FrA_f h']
    rcases h c hc with q | ⟨j, h1, h2⟩
    · exact Or.inl q
    · exact Or.inr ⟨j, by omega, h2⟩
theorem neg_m1 {x : Int32} {i : Nat} (hi : i ≤ 4000) (h : x = -1 ∨ ∃ j, j ≤ i ∧ x = nI j) : (0 ≤ x) ↔ ¬ x = -1 := by
  rcases h with rfl | ⟨j, h1, rfl⟩
  · exact ⟨fun q => absurd q (by decide), fun q => absurd rfl q⟩
  · rw [n_ge0 (by omega), eq_m1 (by omega)]
    exact ⟨fun _ => id, fun _ => trivial⟩
end
/-- the class's round -/
theorem reach_c {v : Va} {k m z : Nat} (hk : 97 ≤ k) (hm : m ≤ 6) (hz : 4000 < z) (hJ : RJ (v (k + 4)) 6 m) : f_Debts_reachBy z v k (nI (m + 1)) = some (up v (k + 4) (FrA (v (k + 2)) m (v (k + 4)) 6 0 6)) := by
  have h0 : up v (k + 4) (FrA (v (k + 2)) m (v (k + 4)) 0 0 6) = v := by rw [FrA_0, up_id]
  have h := rp_go (f := b_Debts_reachBy_2 z k (nI (m + 1))) (E := some (up v (k + 4) (FrA (v (k + 2)) m (v (k + 4)) 6 0 6))) (fun A => (nI A, up v (k + 4) (FrA (v (k + 2)) m (v (k + 4)) A 0 6))) 6 (fun K => rfl) (fun K A hA => by
    unfold b_Debts_reachBy_2
    show (if (6 : Int32) ≤ nI A then _ else rp (b_Debts_reachBy_10 k (nI (m + 1)) K (nI A, up v (k + 4) (FrA (v (k + 2)) m (v (k + 4)) A 0 6))) z (0, up v (k + 4) (FrA (v (k + 2)) m (v (k + 4)) A 0 6))) = _
    rw [show (6 : Int32) = nI 6 from rfl, if_neg (by rw [le_n (by omega) (by omega)]; omega)]
    exact rp_go (f := b_Debts_reachBy_10 k (nI (m + 1)) K (nI A, up v (k + 4) (FrA (v (k + 2)) m (v (k + 4)) A 0 6))) (fun B => (nI B, up v (k + 4) (FrA (v (k + 2)) m (v (k + 4)) A B 6))) 6 (fun K' => by
      unfold b_Debts_reachBy_10
      show (if (6 : Int32) ≤ nI 6 then K (nI A + 1, up v (k + 4) (FrA (v (k + 2)) m (v (k + 4)) A 6 6)) else _) = _
      rw [if_pos (by decide), ni_s, FrA_n]) (fun K' B hB => by
      unfold b_Debts_reachBy_10 j_Debts_reachBy_59
      have hp : (up v (k + 4) (FrA (v (k + 2)) m (v (k + 4)) A B 6)) (k + 2) = v (k + 2) := up_ne (by omega)
      have hb := bet_c (v := up v (k + 4) (FrA (v (k + 2)) m (v (k + 4)) A B 6)) (k := k) hA hB
      rw [hp] at hb
      simp (disch := omega) only [bd, rg, up_eq, ni_sub1, FrA_m, hb, ob, rs, up_up, ni_s]
      rw [show (6 : Int32) = nI 6 from rfl, if_neg (by rw [le_n (by omega) (by omega)]; omega)]
      have hn := neg_m1 (by omega) (FrA_J (e := v (k + 2)) (A := A) (B := B) hJ B hB)
      by_cases h1 : v (k + 4) A = nI m
      · rw [if_pos h1]
        by_cases h2 : FrA (v (k + 2)) m (v (k + 4)) A B 6 B = -1
        · rw [if_neg (fun q => hn.mp q h2)]
          by_cases h3 : v (k + 2) (6 * A + B) ≤ 0
          · rw [if_pos h3, FrA_no (fun q => q.2.2 h3)]
          · rw [if_neg h3, FrA_yes (by omega) hB h1 h2 h3]
        · rw [if_pos (hn.mpr h2), FrA_no (fun q => h2 q.2.1)]
      · rw [if_neg h1, FrA_no (fun q => h1 q.1)]) (show 6 < z by omega)) (show 6 < z by omega)
  rw [h0] at h
  exact h
/-- the reference's round -/
theorem reach_m {u : Va} {sp M m z : Nat} {K : Int32 × Va → Option (Int32 × Va)} (hs : sp = 151 ∨ 194 ≤ sp) (hM : M ≤ 6) (hsM : u sp 11 = nI M) (hm : m ≤ 6) (hz : 4000 < z) :
    rp (b_Model_chain_51 z sp K (nI m, u)) z (0, u) = K (nI (m + 1), up u 193 (FrA (u 180) m (u 193) M 0 M)) := by
  have h0 : up u 193 (FrA (u 180) m (u 193) 0 0 M) = u := by rw [FrA_0, up_id]
  have h := rp_go (f := b_Model_chain_51 z sp K (nI m, u)) (E := K (nI (m + 1), up u 193 (FrA (u 180) m (u 193) M 0 M))) (fun A => (nI A, up u 193 (FrA (u 180) m (u 193) A 0 M))) M (fun K' => by
    unfold b_Model_chain_51
    simp (disch := omega) only [up_ne, hsM, ni_s]
    rw [if_pos (by rw [le_n (by omega) (by omega)]; exact Nat.le_refl _)]) (fun K' A hA => by
    unfold b_Model_chain_51 j_Model_chain_133
    simp (disch := omega) only [up_ne, hsM, gn, ni_c, if_false, up_eq, FrA_m, ni_s]
    rw [if_neg (by rw [le_n (by omega) (by omega)]; omega)]
    by_cases h1 : u 193 A = nI m
    · rw [if_pos h1]
      exact rp_go (f := b_Model_chain_80 sp (nI m, u) K' (nI A, up u 193 (FrA (u 180) m (u 193) A 0 M))) (fun B => (nI B, up u 193 (FrA (u 180) m (u 193) A B M))) M (fun K2 => by
        unfold b_Model_chain_80 j_Model_chain_133
        simp (disch := omega) only [up_ne, hsM, ni_s]
        rw [if_pos (by rw [le_n (by omega) (by omega)]; exact Nat.le_refl _), FrA_n]) (fun K2 B hB => by
        unfold b_Model_chain_80 j_Model_chain_127
        have hb := owes_m (u := up u 193 (FrA (u 180) m (u 193) A B M)) (sn := 173) (a := A) (b := B) (by omega) (by omega)
        rw [show (up u 193 (FrA (u 180) m (u 193) A B M)) (173 + 7) = u 180 from up_ne (by omega)] at hb
        simp (disch := omega) only [up_ne, hsM, gn, ni_c, if_false, up_eq, hb, ob, bd, ni_s, pu, up_up]
        rw [if_neg (by rw [le_n (by omega) (by omega)]; omega)]
        by_cases h2 : FrA (u 180) m (u 193) A B M B = -1
        · rw [if_pos h2]
          by_cases h3 : u 180 (6 * A + B) ≤ 0
          · rw [if_pos h3, FrA_no (fun q => q.2.2 h3)]
          · rw [if_neg h3, FrA_yes (by omega) hB h1 h2 h3]
        · rw [if_neg h2, FrA_no (fun q => h2 q.2.1)]) (show M < z by omega)
    · rw [if_neg h1, FrA_skip h1]) (show M < z by omega)
  rw [h0] at h
  exact h
/-- rounds one behind the other -/
noncomputable def Rs (e r : Nat → Int32) (N : Nat) : Nat → Nat → Int32
  | 0 => r
  | i + 1 => FrA e i (Rs e r N i) N 0 N
def cntN (r : Nat → Int32) : Nat → Nat
  | 0 => 0
  | n + 1 => cntN r n + if r n = -1 then 1 else 0
theorem cntN_le {r r' : Nat → Int32} : ∀ n, (∀ c, c < n → r' c = -1 → r c = -1) → cntN r' n ≤ cntN r n
  | 0, _ => Nat.le_refl _
  | n + 1, h => by
    show cntN r' n + _ ≤ cntN r n + _
    have h1 := cntN_le n (fun c hc => h c (by omega))
    by_cases h2 : r' n = -1
    · rw [if_pos h2, if_pos (h n (by omega) h2)]; omega
    · rw [if_neg h2]; omega
theorem cntN_lt {r r' : Nat → Int32} {b : Nat} : ∀ n, b < n → (∀ c, c < n → r' c = -1 → r c = -1) → r b = -1 → ¬ r' b = -1 → cntN r' n + 1 ≤ cntN r n
  | 0, h, _, _, _ => by omega
  | n + 1, hb, h, h1, h2 => by
    show cntN r' n + _ + 1 ≤ cntN r n + _
    by_cases hq : b = n
    · subst hq
      rw [if_neg h2, if_pos h1]
      have := cntN_le b (fun c hc => h c (by omega))
      omega
    · have h3 := cntN_lt n (by omega) (fun c hc => h c (by omega)) h1 h2
      by_cases h4 : r' n = -1
      · rw [if_pos h4, if_pos (h n (by omega) h4)]; omega
      · rw [if_neg h4]; omega
theorem cntN_n {r : Nat → Int32} : ∀ n, cntN r n ≤ n
  | 0 => Nat.le_refl _
  | n + 1 => by
    show cntN r n + _ ≤ n + 1
    have := cntN_n (r := r) n
    split <;> omega
theorem FrA_m1 {e r : Nat → Int32} {m A B N c : Nat} (hm : m ≤ 10) (h : FrA e m r A B N c = -1) : r c = -1 := by
  by_cases h' : hitP e m r A B N c
  · exact h'.2.1
  · rwa [FrA_f h'] at h
theorem Rs_inv {e r : Nat → Int32} {N : Nat} (h0 : RJ r N 0) (h1 : cntN r N + 1 ≤ N) : ∀ i, i ≤ 8 → RJ (Rs e r N i) N i ∧ ((∃ c, c < N ∧ Rs e r N i c = nI i) → cntN (Rs e r N i) N + i + 1 ≤ N)
  | 0, _ => ⟨h0, fun _ => h1⟩
  | i + 1, hi => by
    obtain ⟨g1, g2⟩ := Rs_inv h0 h1 i (by omega)
    refine ⟨FrA_J g1, fun ⟨c, hc, hq⟩ => ?_⟩
    have hh : hitP e i (Rs e r N i) N 0 N c := Classical.byContradiction fun hn => by
      have hq' : Rs e r N i c = nI (i + 1) := by rw [← hq]; exact (FrA_f hn).symm
      rcases g1 c hc with w | ⟨j, w1, w2⟩
      · rw [w] at hq'; have := hq'.symm; rw [eq_m1 (by omega)] at this; exact this
      · rw [w2, eq_n (by omega) (by omega)] at hq'; omega
    obtain ⟨-, w1, a, w2, w3, -⟩ := hh
    have := g2 ⟨a, by omega, w3⟩
    have := cntN_lt (r := Rs e r N i) (r' := Rs e r N (i + 1)) (b := c) N hc (fun d _ hd => FrA_m1 (by omega) hd) w1 (fun q => by rw [q] at hq; have := hq.symm; rw [eq_m1 (by omega)] at this; exact this)
    omega
theorem Rs_stop {e r : Nat → Int32} {N : Nat} (h0 : RJ r N 0) (h1 : cntN r N + 1 ≤ N) {i : Nat} (hi : i ≤ 8) (hN : N ≤ i + 1) : Rs e r N (i + 1) = Rs e r N i := funext fun c => by
  refine FrA_f fun hh => ?_
  obtain ⟨w0, w1, a, w2, w3, -⟩ := hh
  have h2 := (Rs_inv (e := e) h0 h1 i hi).2 ⟨a, by omega, w3⟩
  have h3 : cntN (Rs e r N i) N = 0 := by omega
  have : ∀ n, c < n → 1 ≤ cntN (Rs e r N i) n := by
    intro n hn
    induction n with
    | zero => omega
    | succ n ih =>
      show 1 ≤ cntN (Rs e r N i) n + _
      by_cases hq : c = n
      · subst hq; rw [if_pos w1]; omega
      · have := ih (by omega); omega
  have := this N w0
  omega
/-- fewer merchants than six: the others owe nothing -/
theorem FrA_eq {e e' r r' : Nat → Int32} {m M : Nat} (hM : M ≤ 6) (hr : eqN 6 r r') (he : eqN 36 e e') (h0 : ∀ a b, a < 6 → b < 6 → M ≤ a ∨ M ≤ b → e' (6 * a + b) = 0) : eqN 6 (FrA e m r 6 0 6) (FrA e' m r' M 0 M) := fun c hc => by
  by_cases h : hitP e m r 6 0 6 c
  · rw [FrA_t h, FrA_t]
    obtain ⟨h1, h2, a, h3, h4, h5⟩ := h
    have ha : a < 6 := by omega
    rw [he _ (by omega)] at h5
    have hlt : a < M ∧ c < M := Classical.byContradiction fun q => h5 (by rw [h0 a c ha hc (by omega)]; decide)
    exact ⟨hlt.2, by rw [← hr c hc]; exact h2, a, Or.inl hlt.1, by rw [← hr a ha]; exact h4, h5⟩
  · rw [FrA_f h, FrA_f, hr c hc]
    intro ⟨h1, h2, a, h3, h4, h5⟩
    exact h ⟨hc, by rw [hr c hc]; exact h2, a, Or.inl (by omega), by rw [hr a (by omega)]; exact h4, by rw [he _ (by omega)]; exact h5⟩
theorem Rs_eq {e e' r r' : Nat → Int32} {M : Nat} (hM : M ≤ 6) (hr : eqN 6 r r') (he : eqN 36 e e') (h0 : ∀ a b, a < 6 → b < 6 → M ≤ a ∨ M ≤ b → e' (6 * a + b) = 0) : ∀ i, eqN 6 (Rs e r 6 i) (Rs e' r' M i)
  | 0 => hr
  | i + 1 => FrA_eq hM (Rs_eq hM hr he h0 i) he h0
theorem fill_m {u : Va} {ka N z : Nat} {x : Int32} (h : N ≤ 4000) (hz : N < z) : f_Model_fill z u ka N x = some (up u ka (row_f N (u ka) x)) := by
  have e0 : up u ka (row_f 0 (u ka) x) = u := by
    have : row_f 0 (u ka) x = u ka := funext fun q => if_neg (by omega)
    rw [this, up_id]
  have := rp_go (f := b_Model_fill_2 ka N x) (E := some (up u ka (row_f N (u ka) x))) (fun i => (nI i, up u ka (row_f i (u ka) x))) N (fun K => by
    unfold b_Model_fill_2
    exact if_pos ((ni_le h h).mpr (Nat.le_refl _))) (fun K i hi => by
    unfold b_Model_fill_2
    simp (disch := omega) only [gn, ni_c, if_false, bd, pu, up_up, up_eq, ni_s]
    rw [if_neg (fun q => absurd ((ni_le h (by omega)).mp q) (by omega))]
    congr 3
    funext q
    unfold upd row_f
    by_cases hq : q = i
    · rw [if_pos hq, if_pos (by omega)]
    · rw [if_neg hq]
      by_cases hq2 : q < i
      · rw [if_pos hq2, if_pos (by omega)]
      · rw [if_neg hq2, if_neg (by omega)]) hz
  rw [e0] at this
  exact this
section
variable {v u : Va} {sp L G M S O z : Nat}
theorem few_two (hP : PL v u sp S G M L O) (hR : RS v u 97 173 L) (hI : IS u 173 L G M) (hs : sp = 151 ∨ 194 ≤ sp) (hz : 4000 < z) {a b : Nat} (ha : a < M) (hb : b < M) :
    ∃ x v1 u1, f_Debts_fewestFromTo z v 110 (nI a) (nI b) = some (x, v1) ∧ rp (b_Model_chain_37 z sp (nI b)) z (0, up u 193 (upd (row_f 6 (u 193) (-1)) a 0)) = some (x, u1) ∧ (∀ p, p ≠ 114 → v1 p = v p) ∧ (∀ p, p ≠ 193 → u1 p = u p) := by
  have hB := hP.1
  have hs11 := hP.2.2.1.2.2.1
  have he : eqN 36 (v 112) (u 180) := hR.2.2.2.2.2.2.2.1
  have h0 : ∀ a b, a < 6 → b < 6 → M ≤ a ∨ M ≤ b → u 180 (6 * a + b) = 0 := fun a b ha hb h => (hI.2.2.2.2.1 a b ha hb).2.2 (Or.inr h)
  have hi : ∀ f : Nat → Int32, RJ (upd (row_f 6 f (-1)) a 0) 6 0 := fun f c hc => by
    by_cases hq : c = a
    · subst hq; rw [upd_eq]; exact Or.inr ⟨0, Nat.le_refl _, rfl⟩
    · rw [upd_ne hq]; exact Or.inl (if_pos hc)
  have hr : eqN 6 (upd (row_f 6 (v 114) (-1)) a 0) (upd (row_f 6 (u 193) (-1)) a 0) := eqN_upd (fun c hc => by unfold row_f; rw [if_pos hc, if_pos hc]) a rfl
  have hE := Rs_eq (i := 5) hB.2.2.1 hr he h0
  have hJM : RJ (upd (row_f 6 (u 193) (-1)) a 0) M 0 := fun c hc => hi _ c (by omega)
  have hcnt : cntN (upd (row_f 6 (u 193) (-1)) a 0) M + 1 ≤ M := by
    have : ∀ n, a < n → cntN (upd (row_f 6 (u 193) (-1)) a 0) n + 1 ≤ n := by
      intro n hn
      induction n with
      | zero => omega
      | succ n ih =>
        show cntN _ n + _ + 1 ≤ n + 1
        by_cases hq : a = n
        · subst hq
          rw [if_neg (by rw [upd_eq]; decide)]
          have := cntN_n (r := upd (row_f 6 (u 193) (-1)) a 0) a
          omega
        · have := ih (by omega)
          split <;> omega
    exact this M ha
  have hst : ∀ i, i ≤ 6 → M ≤ i + 1 → Rs (u 180) (upd (row_f 6 (u 193) (-1)) a 0) M i = Rs (u 180) (upd (row_f 6 (u 193) (-1)) a 0) M (M - 1) := by
    intro i
    induction i with
    | zero => intro _ h; rw [show M - 1 = 0 by omega]
    | succ i ih =>
      intro h1 h2
      by_cases hq : M = i + 2
      · rw [show M - 1 = i + 1 by omega]
      · rw [Rs_stop hJM hcnt (by omega) (by omega)]
        exact ih (by omega) (by omega)
  have e1 : Rs (u 180) (upd (row_f 6 (u 193) (-1)) a 0) M 5 = Rs (u 180) (upd (row_f 6 (u 193) (-1)) a 0) M M := (hst 5 (by omega) (by omega)).trans (hst M (by omega) (by omega)).symm
  refine ⟨Rs (u 180) (upd (row_f 6 (u 193) (-1)) a 0) M M b, up v 114 (Rs (v 112) (upd (row_f 6 (v 114) (-1)) a 0) 6 5), up u 193 (Rs (u 180) (upd (row_f 6 (u 193) (-1)) a 0) M M), ?_, ?_, fun p hp => up_ne hp, fun p hp => up_ne hp⟩
  · unfold f_Debts_fewestFromTo
    have ea : row_s 6 (row_f 6 (v 114) (-1)) (nI a) 0 = upd (row_f 6 (v 114) (-1)) a 0 := rs (by omega) (by omega)
    simp only [bd, up_eq, up_up, ea]
    have h6 : ∀ i, i ≤ 5 → RJ (Rs (v 112) (upd (row_f 6 (v 114) (-1)) a 0) 6 i) 6 i := by
      intro i
      induction i with
      | zero => intro _; exact hi _
      | succ i ih => intro h; exact FrA_J (ih (by omega))
    have hh := rp_go (f := b_Debts_fewestFromTo_19 z 110 (nI b)) (E := some (Rs (u 180) (upd (row_f 6 (u 193) (-1)) a 0) M M b, up v 114 (Rs (v 112) (upd (row_f 6 (v 114) (-1)) a 0) 6 5))) (fun i => (nI (i + 1), up v 114 (Rs (v 112) (upd (row_f 6 (v 114) (-1)) a 0) 6 i))) 5 (fun K => by
      unfold b_Debts_fewestFromTo_19
      show (if (6 : Int32) ≤ nI 6 then bnd (row_g 6 (up v 114 (Rs (v 112) (upd (row_f 6 (v 114) (-1)) a 0) 6 5) 114) (nI b)) fun q41 => some (q41, up v 114 (Rs (v 112) (upd (row_f 6 (v 114) (-1)) a 0) 6 5)) else _) = _
      rw [if_pos (by decide), bd, up_eq, rg (by omega) (by omega), hE b (by omega), e1]) (fun K i hi5 => by
      unfold b_Debts_fewestFromTo_19
      have hc := reach_c (v := up v 114 (Rs (v 112) (upd (row_f 6 (v 114) (-1)) a 0) 6 i)) (k := 110) (m := i) (z := z) (by omega) (by omega) hz (by
        show RJ ((up v 114 (Rs (v 112) (upd (row_f 6 (v 114) (-1)) a 0) 6 i)) 114) 6 i
        rw [up_eq]; exact h6 i (by omega))
      simp only
      rw [show (6 : Int32) = nI 6 from rfl, if_neg (by rw [le_n (by omega) (by omega)]; omega), hc, ob, ni_s]
      show K (nI (i + 1 + 1), up (up v 114 _) 114 (FrA ((up v 114 (Rs (v 112) (upd (row_f 6 (v 114) (-1)) a 0) 6 i)) 112) i ((up v 114 (Rs (v 112) (upd (row_f 6 (v 114) (-1)) a 0) 6 i)) 114) 6 0 6)) = _
      rw [up_up, up_eq, up_ne (show (112 : Nat) ≠ 114 by omega)]
      rfl) (show 5 < z by omega)
    exact hh
  · have hh := rp_go (f := b_Model_chain_37 z sp (nI b)) (E := some (Rs (u 180) (upd (row_f 6 (u 193) (-1)) a 0) M M b, up u 193 (Rs (u 180) (upd (row_f 6 (u 193) (-1)) a 0) M M))) (fun i => (nI i, up u 193 (Rs (u 180) (upd (row_f 6 (u 193) (-1)) a 0) M i))) M (fun K => by
      unfold b_Model_chain_37
      simp (disch := omega) only [up_ne, hs11, gn, ni_c, if_false, up_eq]
      rw [if_pos (by rw [le_n (by omega) (by omega)]; exact Nat.le_refl _)]) (fun K i hiM => by
      unfold b_Model_chain_37
      simp (disch := omega) only [up_ne, hs11]
      rw [if_neg (by rw [le_n (by omega) (by omega)]; omega), reach_m hs hB.2.2.1 (by rw [up_ne (by omega)]; exact hs11) (by omega) hz, up_up, up_eq, up_ne (show (180 : Nat) ≠ 193 by omega)]
      rfl) (show M < z by omega)
    exact hh
end
