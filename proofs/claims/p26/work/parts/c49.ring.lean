/-! RINGS OF DEBTS: the widest ways from a merchant, by rounds in whatever order -/
/-- one loop, its invariant, whatever its end -/
theorem rp_oneE {σ ρ : Type} {f : (σ → Option ρ) → σ → Option ρ} (I : Nat → σ → Prop) (E : Option ρ → Prop) (N : Nat) (stop : ∀ K s, I N s → E (f K s)) (step : ∀ K i s, i < N → I i s → ∃ s', f K s = K s' ∧ I (i + 1) s') :
    ∀ (fu i : Nat) (s : σ), I i s → i ≤ N → N - i < fu → E (rp f fu s)
  | 0, _, _, _, _, h => by omega
  | fu + 1, i, s, hI, h1, h2 => by
    show E (f (rp f fu) s)
    by_cases hc : i = N
    · subst hc; exact stop _ _ hI
    · obtain ⟨s', e, hI'⟩ := step (rp f fu) i s (by omega) hI
      rw [e]
      exact rp_oneE I E N stop step fu (i + 1) s' hI' (by omega) (by omega)
def GS (e : Nat → Int32) (m N : Nat) (g : Nat → Int) : Prop := (∀ b, b < N → b ≠ m → (e (6 * m + b)).toInt ≤ g b) ∧ ∀ a b, a < N → b < N → a ≠ m → b ≠ m → min (g a) (e (6 * a + b)).toInt ≤ g b
def WI (e : Nat → Int32) (m N A B : Nat) (r r' : Nat → Int32) : Prop :=
  (∀ c, c < N → (r c).toInt ≤ (r' c).toInt) ∧ (∀ a b, a < N → b < N → (a < A ∨ (a = A ∧ b < B)) → min (r a).toInt (e (6 * a + b)).toInt ≤ (r' b).toInt) ∧
  ∀ g : Nat → Int, GS e m N g → (∀ c, c < N → c ≠ m → (r c).toInt ≤ g c) → ∀ c, c < N → c ≠ m → (r' c).toInt ≤ g c
section
variable {e r r' : Nat → Int32} {m A B N : Nat}
theorem WI.start : WI e m N 0 0 r r := ⟨fun _ _ => Int.le_refl _, fun a b _ _ h => by omega, fun g _ h => h⟩
theorem WI.row (h : WI e m N A N r r') : WI e m N (A + 1) 0 r r' := ⟨h.1, fun a b ha hb hq => h.2.1 a b ha hb (by omega), h.2.2⟩
theorem WI.step (h : WI e m N A B r r') (hA : A < N) (hB : B < N) : WI e m N A (B + 1) r (upd r' B (q_max (r' B) (q_min (r' A) (e (6 * A + B))))) := by
  have hm : ∀ c, (r' c).toInt ≤ (upd r' B (q_max (r' B) (q_min (r' A) (e (6 * A + B)))) c).toInt := fun c => by
    by_cases hq : c = B
    · subst hq; rw [upd_eq, t_max]; omega
    · rw [upd_ne hq]; exact Int.le_refl _
  refine ⟨fun c hc => Int.le_trans (h.1 c hc) (hm c), fun a b ha hb hq => ?_, fun g hg hr c hc hcm => ?_⟩
  · by_cases hp : a = A ∧ b = B
    · obtain ⟨rfl, rfl⟩ := hp
      rw [upd_eq, t_max, t_min]
      have := h.1 a ha
      omega
    · exact Int.le_trans (h.2.1 a b ha hb (by omega)) (hm b)
  · by_cases hq : c = B
    · subst hq
      rw [upd_eq, t_max, t_min]
      have h1 := h.2.2 g hg hr c hc hcm
      by_cases ham : A = m
      · subst ham
        have := hg.1 c hc hcm
        omega
      · have h2 := h.2.2 g hg hr A hA ham
        have h3 := hg.2 A c hA hc ham hcm
        omega
    · rw [upd_ne hq]; exact h.2.2 g hg hr c hc hcm
end
/-- a round of the class -/
theorem widen_c {v : Va} {k m z : Nat} (hz : 4000 < z) : ∃ r', f_Debts_widen z v k = some (up v (k + 4) r') ∧ WI (v (k + 2)) m 6 6 0 (v (k + 4)) r' := by
  refine rp_oneE (f := b_Debts_widen_2 z k) (fun A s => s.1 = nI A ∧ ∃ r', s.2 = up v (k + 4) r' ∧ WI (v (k + 2)) m 6 A 0 (v (k + 4)) r') (fun o => ∃ r', o = some (up v (k + 4) r') ∧ WI (v (k + 2)) m 6 6 0 (v (k + 4)) r') 6 ?_ ?_ z 0 (0, v) ⟨rfl, v (k + 4), (up_id v _).symm, WI.start⟩ (by omega) (by omega)
  · intro K s ⟨e1, r', e2, hw⟩
    refine ⟨r', ?_, hw⟩
    unfold b_Debts_widen_2
    rw [e1, if_pos (by decide), e2]
  · intro K A s hA ⟨e1, r', e2, hw⟩
    obtain ⟨s1, s2⟩ := s
    simp only at e1 e2
    subst e1 e2
    have hh := rp_oneE (f := b_Debts_widen_10 k K (nI A, up v (k + 4) r')) (fun B s => s.1 = nI B ∧ ∃ r', s.2 = up v (k + 4) r' ∧ WI (v (k + 2)) m 6 A B (v (k + 4)) r') (fun o => ∃ s', o = K s' ∧ s'.1 = nI (A + 1) ∧ ∃ r', s'.2 = up v (k + 4) r' ∧ WI (v (k + 2)) m 6 (A + 1) 0 (v (k + 4)) r') 6 (by
      intro K' s ⟨e1, r1, e2, hw1⟩
      refine ⟨(nI (A + 1), s.2), ?_, rfl, r1, e2, hw1.row⟩
      unfold b_Debts_widen_10
      rw [e1, if_pos (by decide), ni_s]) (by
      intro K' B s hB ⟨e1, r1, e2, hw1⟩
      obtain ⟨s1, s2⟩ := s
      simp only at e1 e2
      subst e1 e2
      refine ⟨(nI (B + 1), up v (k + 4) (upd r1 B (q_max (r1 B) (q_min (r1 A) (v (k + 2) (6 * A + B)))))), ?_, rfl, _, rfl, hw1.step hA hB⟩
      unfold b_Debts_widen_10
      have hb := bet_c (v := up v (k + 4) r1) (k := k) hA hB
      rw [up_ne (by omega)] at hb
      simp (disch := omega) only [bd, rg, up_eq, hb, ob, rs, up_up, ni_s]
      rw [show (6 : Int32) = nI 6 from rfl, if_neg (by rw [le_n (by omega) (by omega)]; omega)]) z 0 (0, up v (k + 4) r') ⟨rfl, r', rfl, hw⟩ (by omega) (by omega)
    obtain ⟨s', q1, q2⟩ := hh
    refine ⟨s', ?_, q2⟩
    unfold b_Debts_widen_2
    rw [show (6 : Int32) = nI 6 from rfl, if_neg (by rw [le_n (by omega) (by omega)]; omega)]
    exact q1
/-- a round of the reference -/
theorem widen_m {u : Va} {sp M m i z : Nat} {K : Int32 × Va → Option (Int32 × Va)} (hs : sp = 151 ∨ 194 ≤ sp) (hM : M ≤ 6) (hsM : u sp 11 = nI M) (hz : 4000 < z) :
    ∃ r', rp (b_Model_ring_51 z sp K (nI i, u)) z (0, u) = K (nI (i + 1), up u 193 r') ∧ WI (u 180) m M M 0 (u 193) r' := by
  refine rp_oneE (f := b_Model_ring_51 z sp K (nI i, u)) (fun A s => s.1 = nI A ∧ ∃ r', s.2 = up u 193 r' ∧ WI (u 180) m M A 0 (u 193) r') (fun o => ∃ r', o = K (nI (i + 1), up u 193 r') ∧ WI (u 180) m M M 0 (u 193) r') M ?_ ?_ z 0 (0, u) ⟨rfl, u 193, (up_id u _).symm, WI.start⟩ (by omega) (by omega)
  · intro K' s ⟨e1, r', e2, hw⟩
    refine ⟨r', ?_, hw⟩
    unfold b_Model_ring_51
    rw [e1, e2, up_ne (by omega), hsM, if_pos (by rw [le_n (by omega) (by omega)]; exact Nat.le_refl _), ni_s]
  · intro K' A s hA ⟨e1, r', e2, hw⟩
    obtain ⟨s1, s2⟩ := s
    simp only at e1 e2
    subst e1 e2
    have hh := rp_oneE (f := b_Model_ring_65 sp K' (nI A, up u 193 r')) (fun B s => s.1 = nI B ∧ ∃ r', s.2 = up u 193 r' ∧ WI (u 180) m M A B (u 193) r') (fun o => ∃ s', o = K' s' ∧ s'.1 = nI (A + 1) ∧ ∃ r', s'.2 = up u 193 r' ∧ WI (u 180) m M (A + 1) 0 (u 193) r') M (by
      intro K2 s ⟨e1, r1, e2, hw1⟩
      refine ⟨(nI (A + 1), s.2), ?_, rfl, r1, e2, hw1.row⟩
      unfold b_Model_ring_65
      rw [e1, e2, up_ne (by omega), hsM, if_pos (by rw [le_n (by omega) (by omega)]; exact Nat.le_refl _), ni_s]) (by
      intro K2 B s hB ⟨e1, r1, e2, hw1⟩
      obtain ⟨s1, s2⟩ := s
      simp only at e1 e2
      subst e1 e2
      refine ⟨(nI (B + 1), up u 193 (upd r1 B (q_max (r1 B) (q_min (r1 A) (u 180 (6 * A + B)))))), ?_, rfl, _, rfl, hw1.step hA hB⟩
      unfold b_Model_ring_65
      have hb := owes_m (u := up u 193 r1) (sn := 173) (a := A) (b := B) (by omega) (by omega)
      rw [show (up u 193 r1) (173 + 7) = u 180 from up_ne (by omega)] at hb
      simp (disch := omega) only [up_ne, hsM, gn, ni_c, if_false, up_eq, hb, ob, bd, ni_s, pu, up_up]
      rw [if_neg (by rw [le_n (by omega) (by omega)]; omega)]) z 0 (0, up u 193 r') ⟨rfl, r', rfl, hw⟩ (by omega) (by omega)
    obtain ⟨s', q1, q2⟩ := hh
    refine ⟨s', ?_, q2⟩
    unfold b_Model_ring_51
    simp only
    rw [up_ne (by omega), hsM, if_neg (by rw [le_n (by omega) (by omega)]; omega)]
    exact q1
/-- rounds one behind the other -/
def WS (e : Nat → Int32) (m N : Nat) : Nat → (Nat → Int32) → (Nat → Int32) → Prop
  | 0, r, r' => r' = r
  | n + 1, r, r' => ∃ q, WS e m N n r q ∧ WI e m N N 0 q r'
def cT (m : Nat) (r : Nat → Int32) (τ : Int) : Nat → Nat
  | 0 => 0
  | n + 1 => cT m r τ n + if n ≠ m ∧ τ ≤ (r n).toInt then 1 else 0
section
variable {e r r' : Nat → Int32} {m N : Nat}
theorem cT_le {τ : Int} : ∀ n, (∀ c, c < n → c ≠ m → τ ≤ (r c).toInt → τ ≤ (r' c).toInt) → cT m r τ n ≤ cT m r' τ n
  | 0, _ => Nat.le_refl _
  | n + 1, h => by
    show cT m r τ n + _ ≤ cT m r' τ n + _
    have h1 := cT_le n (fun c hc => h c (by omega))
    by_cases h2 : n ≠ m ∧ τ ≤ (r n).toInt
    · rw [if_pos h2, if_pos ⟨h2.1, h n (by omega) h2.1 h2.2⟩]; omega
    · rw [if_neg h2]; omega
theorem cT_lt {τ : Int} {b : Nat} : ∀ n, b < n → b ≠ m → (∀ c, c < n → c ≠ m → τ ≤ (r c).toInt → τ ≤ (r' c).toInt) → ¬ τ ≤ (r b).toInt → τ ≤ (r' b).toInt → cT m r τ n + 1 ≤ cT m r' τ n
  | 0, h, _, _, _, _ => by omega
  | n + 1, hb, hm, h, h1, h2 => by
    show cT m r τ n + _ + 1 ≤ cT m r' τ n + _
    by_cases hq : b = n
    · subst hq
      rw [if_neg (fun q => h1 q.2), if_pos ⟨hm, h2⟩]
      have := cT_le (τ := τ) b (fun c hc => h c (by omega))
      omega
    · have h3 := cT_lt (τ := τ) n (by omega) hm (fun c hc => h c (by omega)) h1 h2
      by_cases h4 : n ≠ m ∧ τ ≤ (r n).toInt
      · rw [if_pos h4, if_pos ⟨h4.1, h n (by omega) h4.1 h4.2⟩]; omega
      · rw [if_neg h4]; omega
theorem cT_n {τ : Int} {b : Nat} (hb : ¬ τ ≤ (r b).toInt) (hm : b ≠ m) : ∀ n, cT m r τ n + (if m < n then 1 else 0) + (if b < n then 1 else 0) ≤ n
  | 0 => by simp [cT]
  | n + 1 => by
    have ih := cT_n hb hm n
    show cT m r τ n + (if n ≠ m ∧ τ ≤ (r n).toInt then 1 else 0) + (if m < n + 1 then 1 else 0) + (if b < n + 1 then 1 else 0) ≤ n + 1
    by_cases h1 : n = m
    · subst h1
      rw [if_neg (fun q => q.1 rfl), if_pos (by omega)]
      rw [if_neg (by omega)] at ih
      by_cases h2 : b < n
      · rw [if_pos h2] at ih; rw [if_pos (by omega)]; omega
      · rw [if_neg h2] at ih; rw [if_neg (by omega)]; omega
    · by_cases h2 : n = b
      · subst h2
        rw [if_neg (fun q => hb q.2), if_pos (show n < n + 1 by omega)]
        rw [if_neg (show ¬ n < n by omega)] at ih
        by_cases h3 : m < n
        · rw [if_pos h3] at ih; rw [if_pos (by omega)]; omega
        · rw [if_neg h3] at ih; rw [if_neg (by omega)]; omega
      · simp only [show (m < n + 1) = (m < n) from propext (by omega), show (b < n + 1) = (b < n) from propext (by omega)]
        have : (if n ≠ m ∧ τ ≤ (r n).toInt then 1 else 0) ≤ 1 := by split <;> omega
        omega
theorem cT_0 {τ : Int} : ∀ n, cT m r τ n = 0 → ∀ c, c < n → c ≠ m → ¬ τ ≤ (r c).toInt
  | 0, _, c, h, _ => by omega
  | n + 1, h, c, hc, hm => by
    have h' : cT m r τ n + (if n ≠ m ∧ τ ≤ (r n).toInt then 1 else 0) = 0 := h
    by_cases hq : c = n
    · subst hq
      intro q
      rw [if_pos ⟨hm, q⟩] at h'; omega
    · exact cT_0 n (by omega) c (by omega) hm
def clT (e r : Nat → Int32) (m N : Nat) (τ : Int) : Prop := ∀ a b, a < N → b < N → a ≠ m → b ≠ m → τ ≤ (r a).toInt → τ ≤ (e (6 * a + b)).toInt → τ ≤ (r b).toInt
theorem clT.round {τ : Int} (h : clT e r m N τ) (h0 : ∀ b, b < N → b ≠ m → (e (6 * m + b)).toInt ≤ (r b).toInt) (hw : WI e m N N 0 r r') : clT e r' m N τ := by
  have key : ∀ c, c < N → c ≠ m → τ ≤ (r' c).toInt → τ ≤ (r c).toInt := by
    intro c hc hcm hq
    have := hw.2.2 (fun c => if τ ≤ (r c).toInt then 2147483647 else τ - 1) ⟨fun b hb hbm => ?_, fun a b ha hb ham hbm => ?_⟩ (fun d hd hdm => ?_) c hc hcm
    · by_cases hh : τ ≤ (r c).toInt
      · exact hh
      · simp only [if_neg hh] at this; omega
    · have h1 := h0 b hb hbm
      have h2 := Int32.toInt_lt (e (6 * m + b))
      by_cases hh : τ ≤ (r b).toInt
      · simp only [if_pos hh]; omega
      · simp only [if_neg hh]; omega
    · have h2 := Int32.toInt_lt (e (6 * a + b))
      by_cases hh : τ ≤ (r b).toInt
      · simp only [if_pos hh]; omega
      · simp only [if_neg hh]
        by_cases ha' : τ ≤ (r a).toInt
        · have : ¬ τ ≤ (e (6 * a + b)).toInt := fun q => hh (h a b ha hb ham hbm ha' q)
          omega
        · simp only [if_neg ha']; omega
    · have h2 := Int32.toInt_lt (r d)
      by_cases hh : τ ≤ (r d).toInt
      · simp only [if_pos hh]; omega
      · simp only [if_neg hh]; omega
  intro a b ha hb ham hbm h1 h2
  exact Int.le_trans (h a b ha hb ham hbm (key a ha ham h1) h2) (hw.1 b hb)
theorem WS.mono : ∀ {n : Nat} {r' : Nat → Int32}, WS e m N n r r' → ∀ c, c < N → (r c).toInt ≤ (r' c).toInt
  | 0, r', h, c, _ => by rw [show r' = r from h]; exact Int.le_refl _
  | n + 1, r', ⟨q, h1, h2⟩, c, hc => Int.le_trans (WS.mono h1 c hc) (h2.1 c hc)
theorem WS.least : ∀ {n : Nat} {r' : Nat → Int32}, WS e m N n r r' → ∀ g : Nat → Int, GS e m N g → (∀ c, c < N → c ≠ m → (r c).toInt ≤ g c) → ∀ c, c < N → c ≠ m → (r' c).toInt ≤ g c
  | 0, r', h, g, _, h2, c, h3, h4 => by rw [show r' = r from h]; exact h2 c h3 h4
  | n + 1, r', ⟨q, h1, h2⟩, g, hg, h3, c, h4, h5 => h2.2.2 g hg (fun d hd hdm => WS.least h1 g hg h3 d hd hdm) c h4 h5
theorem WS.count (h0 : ∀ b, b < N → b ≠ m → (e (6 * m + b)).toInt ≤ (r b).toInt) (τ : Int) : ∀ {n : Nat} {r' : Nat → Int32}, WS e m N n r r' → clT e r' m N τ ∨ n + 1 ≤ cT m r' τ N
  | 0, r', h => by
    have h : r' = r := h
    subst h
    by_cases hq : cT m r' τ N = 0
    · exact Or.inl fun a b ha hb ham hbm h1 _ => absurd h1 (cT_0 N hq a ha ham)
    · exact Or.inr (by omega)
  | n + 1, r', ⟨q, h1, h2⟩ => by
    have hq : ∀ b, b < N → b ≠ m → (e (6 * m + b)).toInt ≤ (q b).toInt := fun b hb hbm => Int.le_trans (h0 b hb hbm) (WS.mono h1 b hb)
    by_cases hc : clT e q m N τ
    · exact Or.inl (hc.round hq h2)
    · rcases WS.count h0 τ h1 with h3 | h3
      · exact absurd h3 hc
      · refine Or.inr ?_
        have : ∃ a b, a < N ∧ b < N ∧ a ≠ m ∧ b ≠ m ∧ τ ≤ (q a).toInt ∧ τ ≤ (e (6 * a + b)).toInt ∧ ¬ τ ≤ (q b).toInt := Classical.byContradiction fun hn => hc fun a b ha hb ham hbm q1 q2 => Classical.byContradiction fun q3 => hn ⟨a, b, ha, hb, ham, hbm, q1, q2, q3⟩
        obtain ⟨a, b, ha, hb, ham, hbm, q1, q2, q3⟩ := this
        have h4 := h2.2.1 a b ha hb (Or.inl ha)
        have := cT_lt (m := m) (r := q) (r' := r') (τ := τ) (b := b) N hb hbm (fun c hc _ hq => Int.le_trans hq (h2.1 c hc)) q3 (by omega)
        omega
/-- behind enough rounds no way gets wider -/
theorem WS.full {n : Nat} (h : WS e m N n r r') (h0 : ∀ b, b < N → b ≠ m → (e (6 * m + b)).toInt ≤ (r b).toInt) (hm : m < N) (hn : N ≤ n + 2) : GS e m N (fun c => (r' c).toInt) := by
  refine ⟨fun b hb hbm => Int.le_trans (h0 b hb hbm) (h.mono b hb), fun a b ha hb ham hbm => Classical.byContradiction fun hq => ?_⟩
  simp only at hq
  have h1 := WS.count h0 (min (r' a).toInt (e (6 * a + b)).toInt) h
  rcases h1 with h1 | h1
  · have := h1 a b ha hb ham hbm (by omega) (by omega)
    omega
  · have := cT_n (m := m) (r := r') (τ := min (r' a).toInt (e (6 * a + b)).toInt) (b := b) (by omega) hbm N
    rw [if_pos hm, if_pos hb] at this
    omega
end
/-- the greatest of a row, 0 at least -/
def mx (f : Nat → Int32) : Nat → Int32
  | 0 => 0
  | n + 1 => q_max (mx f n) (f n)
theorem mx_nn {f : Nat → Int32} : ∀ n, 0 ≤ (mx f n).toInt
  | 0 => Int.le_refl _
  | n + 1 => by
    show 0 ≤ (q_max (mx f n) (f n)).toInt
    have := mx_nn (f := f) n
    rw [t_max]; omega
theorem mx_eq {f g : Nat → Int32} : ∀ n, eqN n f g → mx f n = mx g n
  | 0, _ => rfl
  | n + 1, h => by
    show q_max (mx f n) (f n) = q_max (mx g n) (g n)
    rw [mx_eq n (eqN_le h (by omega)), h n (by omega)]
theorem max_0 {x : Int32} (h : 0 ≤ x.toInt) : q_max x 0 = x := by
  apply t_inj; rw [t_max, show (0 : Int32).toInt = 0 from rfl]; omega
theorem min_0 {x : Int32} (h : 0 ≤ x.toInt) : q_min x 0 = 0 := by
  apply t_inj; rw [t_min, show (0 : Int32).toInt = 0 from rfl]; omega
theorem mx_0 {f : Nat → Int32} {M : Nat} : ∀ N, M ≤ N → (∀ i, M ≤ i → i < N → f i = 0) → mx f N = mx f M
  | 0, h, _ => by rw [show M = 0 by omega]
  | n + 1, h, h0 => by
    by_cases hq : M = n + 1
    · rw [hq]
    · show q_max (mx f n) (f n) = _
      rw [h0 n (by omega) (by omega), max_0 (mx_nn n)]
      exact mx_0 n (by omega) (fun i h1 h2 => h0 i h1 (by omega))
section
variable {v u : Va} {sp L G M S O z : Nat}
theorem ring_two (hP : PL v u sp S G M L O) (hR : RS v u 97 173 L) (hI : IS u 173 L G M) (hs : sp = 151 ∨ 194 ≤ sp) (hz : 4000 < z) {m : Nat} (hm : m < M) :
    ∃ x v1 u1, f_Debts_widestRing z v 110 (nI m) = some (x, v1) ∧ rp (b_Model_ring_38 z sp (nI m)) z (0, up u 193 (upd (row_f 6 (u 193) 0) m 2147483647)) = some (x, u1) ∧ (∀ p, p ≠ 114 → v1 p = v p) ∧ (∀ p, p ≠ 193 → u1 p = u p) := by
  have hB := hP.1
  have hs11 := hP.2.2.1.2.2.1
  have he : eqN 36 (v 112) (u 180) := hR.2.2.2.2.2.2.2.1
  have hD := hI.2.2.2.2.1
  have h0 : ∀ a b, a < 6 → b < 6 → M ≤ a ∨ M ≤ b → u 180 (6 * a + b) = 0 := fun a b ha hb h => (hD a b ha hb).2.2 (Or.inr h)
  have h00 : ∀ a, a < 6 → u 180 (6 * a + a) = 0 := fun a ha => (hD a a ha ha).2.2 (Or.inl rfl)
  -- the class's rows
  have c1 : rp (b_Debts_widestRing_2 z 110 (nI m)) z (0, v) = rp (b_Debts_widestRing_30 z 110 (nI m)) z (2, up v 114 (fun q => if q < 6 then v 112 (6 * m + q) else v 114 q)) := by
    have e0 : up v 114 (fun q => if q < 0 then v 112 (6 * m + q) else v 114 q) = v := by
      have : (fun q => if q < 0 then v 112 (6 * m + q) else v 114 q) = v 114 := funext fun q => if_neg (by omega)
      rw [this, up_id]
    have := rp_go (f := b_Debts_widestRing_2 z 110 (nI m)) (E := rp (b_Debts_widestRing_30 z 110 (nI m)) z (2, up v 114 (fun q => if q < 6 then v 112 (6 * m + q) else v 114 q))) (fun i => (nI i, up v 114 (fun q => if q < i then v 112 (6 * m + q) else v 114 q))) 6 (fun K => rfl) (fun K i hi => by
      unfold b_Debts_widestRing_2
      have hb := bet_c (v := up v 114 (fun q => if q < i then v 112 (6 * m + q) else v 114 q)) (k := 110) (a := m) (b := i) (by omega) hi
      rw [show (up v 114 (fun q => if q < i then v 112 (6 * m + q) else v 114 q)) (110 + 2) = v 112 from up_ne (by omega)] at hb
      simp only
      rw [show (6 : Int32) = nI 6 from rfl, if_neg (by rw [le_n (by omega) (by omega)]; omega), hb, ob, bd, rs hi (by omega), ni_s]
      show K (nI (i + 1), up (up v 114 _) 114 (upd ((up v 114 (fun q => if q < i then v 112 (6 * m + q) else v 114 q)) 114) i (v 112 (6 * m + i)))) = _
      rw [up_up, up_eq]
      congr 3
      funext q
      unfold upd
      by_cases hq : q = i
      · subst hq; rw [if_pos rfl, if_pos (by omega)]
      · rw [if_neg hq]
        show (if q < i then _ else _) = _
        by_cases hq2 : q < i
        · rw [if_pos hq2, if_pos (by omega)]
        · rw [if_neg hq2, if_neg (by omega)]) (show 6 < z by omega)
    rw [e0] at this
    exact this
  generalize hr0 : (fun q => if q < 6 then v 112 (6 * m + q) else v 114 q) = r0 at c1
  have hr0' : ∀ q, q < 6 → r0 q = v 112 (6 * m + q) := fun q hq => by rw [← hr0]; exact if_pos hq
  have c2 : ∃ r4, rp (b_Debts_widestRing_30 z 110 (nI m)) z (2, up v 114 r0) = rp (b_Debts_widestRing_50 110 (nI m) (6, up v 114 r4)) z (0, 0) ∧ WS (v 112) m 6 4 r0 r4 := by
    refine rp_oneE (f := b_Debts_widestRing_30 z 110 (nI m)) (fun i s => s.1 = nI (i + 2) ∧ ∃ r, s.2 = up v 114 r ∧ WS (v 112) m 6 i r0 r) (fun o => ∃ r4, o = rp (b_Debts_widestRing_50 110 (nI m) (6, up v 114 r4)) z (0, 0) ∧ WS (v 112) m 6 4 r0 r4) 4 ?_ ?_ z 0 (2, up v 114 r0) ⟨rfl, r0, rfl, rfl⟩ (by omega) (by omega)
    · intro K s ⟨e1, r, e2, hw⟩
      obtain ⟨s1, s2⟩ := s
      simp only at e1 e2
      subst e1 e2
      exact ⟨r, rfl, hw⟩
    · intro K i s hi ⟨e1, r, e2, hw⟩
      obtain ⟨s1, s2⟩ := s
      simp only at e1 e2
      subst e1 e2
      obtain ⟨r', q1, q2⟩ := widen_c (v := up v 114 r) (k := 110) (m := m) (z := z) hz
      rw [show (up v 114 r) (110 + 2) = v 112 from up_ne (by omega), show (up v 114 r) (110 + 4) = r from up_eq _ _ _] at q2
      refine ⟨(nI (i + 1 + 2), up v 114 r'), ?_, rfl, r', rfl, r, hw, q2⟩
      unfold b_Debts_widestRing_30
      simp only
      rw [show (6 : Int32) = nI 6 from rfl, if_neg (by rw [le_n (by omega) (by omega)]; omega), q1, ob, ni_s, show (110 + 4 : Nat) = 114 from rfl, up_up]
  obtain ⟨r4, c2, hW⟩ := c2
  have hr4 : ∀ q, q < 6 → 0 ≤ (r4 q).toInt := fun q hq => Int.le_trans (by rw [hr0' q hq, he _ (by omega)]; exact (hD m q (by omega) hq).1) (hW.mono q hq)
  have c3 : rp (b_Debts_widestRing_50 110 (nI m) (6, up v 114 r4)) z (0, 0) = some (mx (fun a => q_min (r4 a) (u 180 (6 * a + m))) 6, up v 114 r4) :=
    rp_go (f := b_Debts_widestRing_50 110 (nI m) (6, up v 114 r4)) (fun i => (mx (fun a => q_min (r4 a) (u 180 (6 * a + m))) i, nI i)) 6 (fun K => rfl) (fun K i hi => by
      unfold b_Debts_widestRing_50
      have hb := bet_c (v := up v 114 r4) (k := 110) (a := i) (b := m) hi (by omega)
      rw [show (up v 114 r4) (110 + 2) = v 112 from up_ne (by omega), he _ (by omega)] at hb
      simp only
      rw [show (6 : Int32) = nI 6 from rfl, if_neg (by rw [le_n (by omega) (by omega)]; omega), bd, rg hi (by omega), hb, ob, ni_s]
      show K (q_max (mx _ i) (q_min ((up v 114 r4) 114 i) _), _) = _
      rw [up_eq]
      rfl) (show 6 < z by omega)
  -- the reference's rows
  generalize hs0 : upd (row_f 6 (u 193) 0) m 2147483647 = s0
  have hs0m : s0 m = 2147483647 := by rw [← hs0]; exact upd_eq
  have hs0' : ∀ q, q < 6 → q ≠ m → s0 q = 0 := fun q hq hqm => by rw [← hs0, upd_ne hqm]; exact if_pos hq
  have m1 : ∃ s1, rp (b_Model_ring_38 z sp (nI m)) z (0, up u 193 s0) = rp (b_Model_ring_135 sp (nI m) (nI M, up u 193 s1)) z (0, 0) ∧ WS (u 180) m M M s0 s1 := by
    refine rp_oneE (f := b_Model_ring_38 z sp (nI m)) (fun i s => s.1 = nI i ∧ ∃ r, s.2 = up u 193 r ∧ WS (u 180) m M i s0 r) (fun o => ∃ s1, o = rp (b_Model_ring_135 sp (nI m) (nI M, up u 193 s1)) z (0, 0) ∧ WS (u 180) m M M s0 s1) M ?_ ?_ z 0 (0, up u 193 s0) ⟨rfl, s0, rfl, rfl⟩ (by omega) (by omega)
    · intro K s ⟨e1, r, e2, hw⟩
      obtain ⟨a1, a2⟩ := s
      simp only at e1 e2
      subst e1 e2
      refine ⟨r, ?_, hw⟩
      unfold b_Model_ring_38
      simp only
      rw [up_ne (by omega), hs11, if_pos (by rw [le_n (by omega) (by omega)]; exact Nat.le_refl _)]
    · intro K i s hi ⟨e1, r, e2, hw⟩
      obtain ⟨a1, a2⟩ := s
      simp only at e1 e2
      subst e1 e2
      obtain ⟨r', q1, q2⟩ := widen_m (u := up u 193 r) (m := m) (i := i) (z := z) (K := K) hs hB.2.2.1 (by rw [up_ne (by omega)]; exact hs11) hz
      rw [show (up u 193 r) 180 = u 180 from up_ne (by omega), show (up u 193 r) 193 = r from up_eq _ _ _] at q2
      refine ⟨(nI (i + 1), up u 193 r'), ?_, rfl, r', rfl, r, hw, q2⟩
      unfold b_Model_ring_38
      simp only
      rw [up_ne (by omega), hs11, if_neg (by rw [le_n (by omega) (by omega)]; omega), q1, up_up]
  obtain ⟨s1, m1, hV⟩ := m1
  have hs1 : ∀ q, q < M → 0 ≤ (s1 q).toInt := fun q hq => Int.le_trans (by
    by_cases hqm : q = m
    · rw [hqm, hs0m]; decide
    · rw [hs0' q (by omega) hqm]; decide) (hV.mono q hq)
  have m2 : rp (b_Model_ring_135 sp (nI m) (nI M, up u 193 s1)) z (0, 0) = some (mx (fun a => if a = m then 0 else q_min (s1 a) (u 180 (6 * a + m))) M, up u 193 s1) :=
    rp_go (f := b_Model_ring_135 sp (nI m) (nI M, up u 193 s1)) (fun i => (mx (fun a => if a = m then 0 else q_min (s1 a) (u 180 (6 * a + m))) i, nI i)) M (fun K => by
      unfold b_Model_ring_135
      simp only
      rw [up_ne (by omega), hs11, if_pos (by rw [le_n (by omega) (by omega)]; exact Nat.le_refl _)]) (fun K i hi => by
      unfold b_Model_ring_135 j_Model_ring_174
      have hb := owes_m (u := up u 193 s1) (sn := 173) (a := i) (b := m) (by omega) (by omega)
      rw [show (up u 193 s1) (173 + 7) = u 180 from up_ne (by omega)] at hb
      simp (disch := omega) only [up_ne, hs11, gn, ni_c, if_false, up_eq, hb, ob, eq_n, ni_s]
      rw [if_neg (by rw [le_n (by omega) (by omega)]; omega)]
      show _ = K (q_max (mx _ i) (if i = m then 0 else q_min (s1 i) (u 180 (6 * i + m))), _)
      by_cases hq : i = m
      · rw [if_pos hq, if_pos hq, max_0 (mx_nn i)]
      · rw [if_neg hq, if_neg hq]) (show M < z by omega)
  -- both are the widest
  have gC : GS (v 112) m 6 (fun c => (r4 c).toInt) := hW.full (fun b hb _ => by rw [hr0' b hb]; exact Int.le_refl _) (by omega) (by omega)
  have gM : GS (u 180) m M (fun c => (s1 c).toInt) := by
    obtain ⟨n, rfl⟩ : ∃ n, M = n + 1 := ⟨M - 1, by omega⟩
    have : ∃ q, WI (u 180) m (n + 1) (n + 1) 0 s0 q ∧ WS (u 180) m (n + 1) n q s1 := by
      have gen : ∀ (j : Nat) (t : Nat → Int32), WS (u 180) m (n + 1) (j + 1) s0 t → ∃ q, WI (u 180) m (n + 1) (n + 1) 0 s0 q ∧ WS (u 180) m (n + 1) j q t := by
        intro j
        induction j with
        | zero =>
          intro t ⟨q, h1, h2⟩
          have h1 : q = s0 := h1
          subst h1
          exact ⟨t, h2, rfl⟩
        | succ j ih =>
          intro t ⟨q, h1, h2⟩
          obtain ⟨q', g1, g2⟩ := ih q h1
          exact ⟨q', g1, q, g2, h2⟩
      exact gen n s1 hV
    obtain ⟨q, g1, g2⟩ := this
    refine g2.full (fun b hb hbm => ?_) hm (by omega)
    have := g1.2.1 m b hm hb (Or.inl hm)
    have h3 := Int32.toInt_lt (u 180 (6 * m + b))
    rw [hs0m, show (2147483647 : Int32).toInt = 2147483647 from rfl] at this
    omega
  have hEq : ∀ c, c < M → c ≠ m → r4 c = s1 c := fun c hc hcm => by
    apply t_inj
    have a1 : (r4 c).toInt ≤ (s1 c).toInt := by
      have := hW.least (fun c => if c < M then (s1 c).toInt else 0) ⟨fun b hb hbm => ?_, fun a b ha hb ham hbm => ?_⟩ (fun d hd hdm => ?_) c (by omega) hcm
      · simpa only [if_pos hc] using this
      · rw [he _ (by omega)]
        by_cases hq : b < M
        · simp only [if_pos hq]; exact gM.1 b hq hbm
        · simp only [if_neg hq]; rw [h0 m b (by omega) hb (by omega)]; decide
      · rw [he _ (by omega)]
        by_cases hq : b < M
        · simp only [if_pos hq]
          by_cases hq2 : a < M
          · simp only [if_pos hq2]; exact gM.2 a b hq2 hq ham hbm
          · simp only [if_neg hq2]; have := hs1 b hq; omega
        · simp only [if_neg hq]; rw [h0 a b ha hb (by omega), show (0 : Int32).toInt = 0 from rfl]; omega
      · rw [hr0' d hd, he _ (by omega)]
        by_cases hq : d < M
        · simp only [if_pos hq]; exact gM.1 d hq hdm
        · simp only [if_neg hq]; rw [h0 m d (by omega) hd (by omega)]; decide
    have a2 : (s1 c).toInt ≤ (r4 c).toInt := hV.least (fun c => (r4 c).toInt) ⟨fun b hb hbm => by
        have := gC.1 b (by omega) hbm
        rwa [he _ (by omega)] at this, fun a b ha hb ham hbm => by
        have := gC.2 a b (by omega) (by omega) ham hbm
        rwa [he _ (by omega)] at this⟩ (fun d hd hdm => by rw [hs0' d (by omega) hdm]; exact hr4 d (by omega)) c hc hcm
    omega
  refine ⟨mx (fun a => q_min (r4 a) (u 180 (6 * a + m))) 6, up v 114 r4, up u 193 s1, ?_, ?_, fun p hp => up_ne hp, fun p hp => up_ne hp⟩
  · unfold f_Debts_widestRing
    rw [c1, c2, c3]
  · rw [m1, m2, mx_0 (M := M) 6 hB.2.2.1 (fun i h1 h2 => by rw [h0 i m h2 (by omega) (Or.inl h1), min_0 (hr4 i h2)])]
    rw [mx_eq (f := fun a => if a = m then 0 else q_min (s1 a) (u 180 (6 * a + m))) (g := fun a => q_min (r4 a) (u 180 (6 * a + m))) M (fun a ha => by
      by_cases hq : a = m
      · subst hq
        show (if a = a then 0 else _) = q_min (r4 a) (u 180 (6 * a + a))
        rw [if_pos rfl, h00 a (by omega), min_0 (hr4 a (by omega))]
      · show (if a = m then 0 else _) = _
        rw [if_neg hq]
        show q_min (s1 a) _ = q_min (r4 a) _
        rw [hEq a ha hq])]
end
