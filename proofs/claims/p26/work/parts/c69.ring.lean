/-! THE CLASS'S RING IS SIM'S -/
section
variable {v v1 u : Va} {sp S G M L O z m a b c : Nat}
theorem ring_c (hP : PL v u sp S G M L O) (hR : RS v u 97 173 L) (hI : IS u 173 L G M) (hz : 4000 < z) (hm : m < M) :
    ∃ r4, f_Debts_widestRing z v 110 (nI m) = some (mx (fun a => q_min (r4 a) (u 180 (6 * a + m))) 6, up v 114 r4) ∧ (∀ q, q < 6 → 0 ≤ (r4 q).toInt) ∧ GS (u 180) m 6 (fun c => (r4 c).toInt) ∧ ∀ g : Nat → Int, GS (u 180) m 6 g → ∀ c, c < 6 → c ≠ m → (r4 c).toInt ≤ g c := by
  have hB := hP.1
  have he : eqN 36 (v 112) (u 180) := hR.2.2.2.2.2.2.2.1
  have hD := hI.2.2.2.2.1
  have h0 : ∀ a b, a < 6 → b < 6 → M ≤ a ∨ M ≤ b → u 180 (6 * a + b) = 0 := fun a b ha hb h => (hD a b ha hb).2.2 (Or.inr h)
  have h00 : ∀ a, a < 6 → u 180 (6 * a + a) = 0 := fun a ha => (hD a a ha ha).2.2 (Or.inl rfl)
  -- the class's rows
  have c1 : rp (b_Debts_widestRing_2 z 110 (nI m)) z (0, v) = rp (b_Debts_widestRing_30 z 110 (nI m)) z (2, up v 114 (fun q => if q < 6 then v 112 (6 * m + q) else v 114 q)) := by
    have e0 : up v 114 (fun q => if q < 0 then v 112 (6 * m + q) else v 114 q) = v := by
      have : (fun q => if q < 0 then v 112 (6 * m + q) else v 114 q) = v 114 := funext fun q => if_neg (by omega)
      rw [this, up_id]
    have := rp_go (f := b_Debts_widestRing_2 z 110 (nI m)) (E := rp (b_Debts_widestRing_30 z 110 (nI m)) z (2, up v 114 (fun q => if q < 6 then v 112 (6 * m + q) else v 114 q))) (fun i => (nI i, up v 114 (fun q => if q < i then v 112 (6 * m + q) else v 114 q))) 6 (fun K => rfl) (fun K i hi => by
      unfold b_Debts_widestRing_2
      have hb := bet_c (v := up v 114 (fun q => if q < i then v 112 (6 * m + q) else v 114 q)) (k := 110) (a := m) (b := i) (by omega) hi
      rw [show (up v 114 (fun q => if q < i then v 112 (6 * m + q) else v 114 q)) (110 + 2) = v 112 from up_ne (by omega)] at hb
      simp only
      rw [show (6 : Int32) = nI 6 from rfl, if_neg (by rw [le_n (by omega) (by omega)]; omega), hb, ob, bd, rs hi (by omega), ni_s]
      show K (nI (i + 1), up (up v 114 _) 114 (upd ((up v 114 (fun q => if q < i then v 112 (6 * m + q) else v 114 q)) 114) i (v 112 (6 * m + i)))) = _
      rw [up_up, up_eq]
      congr 3
      funext q
      unfold upd
      by_cases hq : q = i
      · subst hq; rw [if_pos rfl, if_pos (by omega)]
      · rw [if_neg hq]
        show (if q < i then _ else _) = _
        by_cases hq2 : q < i
        · rw [if_pos hq2, if_pos (by omega)]
        · rw [if_neg hq2, if_neg (by omega)]) (show 6 < z by omega)
    rw [e0] at this
    exact this
  generalize hr0 : (fun q => if q < 6 then v 112 (6 * m + q) else v 114 q) = r0 at c1
  have hr0' : ∀ q, q < 6 → r0 q = v 112 (6 * m + q) := fun q hq => by rw [← hr0]; exact if_pos hq
  have c2 : ∃ r4, rp (b_Debts_widestRing_30 z 110 (nI m)) z (2, up v 114 r0) = rp (b_Debts_widestRing_50 110 (nI m) (6, up v 114 r4)) z (0, 0) ∧ WS (v 112) m 6 4 r0 r4 := by
    refine rp_oneE (f := b_Debts_widestRing_30 z 110 (nI m)) (fun i s => s.1 = nI (i + 2) ∧ ∃ r, s.2 = up v 114 r ∧ WS (v 112) m 6 i r0 r) (fun o => ∃ r4, o = rp (b_Debts_widestRing_50 110 (nI m) (6, up v 114 r4)) z (0, 0) ∧ WS (v 112) m 6 4 r0 r4) 4 ?_ ?_ z 0 (2, up v 114 r0) ⟨rfl, r0, rfl, rfl⟩ (by omega) (by omega)
    · intro K s ⟨e1, r, e2, hw⟩
      obtain ⟨s1, s2⟩ := s
      simp only at e1 e2
      subst e1 e2
      exact ⟨r, rfl, hw⟩
    · intro K i s hi ⟨e1, r, e2, hw⟩
      obtain ⟨s1, s2⟩ := s
      simp only at e1 e2
      subst e1 e2
      obtain ⟨r', q1, q2⟩ := widen_c (v := up v 114 r) (k := 110) (m := m) (z := z) hz
      rw [show (up v 114 r) (110 + 2) = v 112 from up_ne (by omega), show (up v 114 r) (110 + 4) = r from up_eq _ _ _] at q2
      refine ⟨(nI (i + 1 + 2), up v 114 r'), ?_, rfl, r', rfl, r, hw, q2⟩
      unfold b_Debts_widestRing_30
      simp only
      rw [show (6 : Int32) = nI 6 from rfl, if_neg (by rw [le_n (by omega) (by omega)]; omega), q1, ob, ni_s, show (110 + 4 : Nat) = 114 from rfl, up_up]
  obtain ⟨r4, c2, hW⟩ := c2
  have hr4 : ∀ q, q < 6 → 0 ≤ (r4 q).toInt := fun q hq => Int.le_trans (by rw [hr0' q hq, he _ (by omega)]; exact (hD m q (by omega) hq).1) (hW.mono q hq)
  have c3 : rp (b_Debts_widestRing_50 110 (nI m) (6, up v 114 r4)) z (0, 0) = some (mx (fun a => q_min (r4 a) (u 180 (6 * a + m))) 6, up v 114 r4) :=
    rp_go (f := b_Debts_widestRing_50 110 (nI m) (6, up v 114 r4)) (fun i => (mx (fun a => q_min (r4 a) (u 180 (6 * a + m))) i, nI i)) 6 (fun K => rfl) (fun K i hi => by
      unfold b_Debts_widestRing_50
      have hb := bet_c (v := up v 114 r4) (k := 110) (a := i) (b := m) hi (by omega)
      rw [show (up v 114 r4) (110 + 2) = v 112 from up_ne (by omega), he _ (by omega)] at hb
      simp only
      rw [show (6 : Int32) = nI 6 from rfl, if_neg (by rw [le_n (by omega) (by omega)]; omega), bd, rg hi (by omega), hb, ob, ni_s]
      show K (q_max (mx _ i) (q_min ((up v 114 r4) 114 i) _), _) = _
      rw [up_eq]
      rfl) (show 6 < z by omega)
  have gC : GS (v 112) m 6 (fun c => (r4 c).toInt) := hW.full (fun b hb _ => by rw [hr0' b hb]; exact Int.le_refl _) (by omega) (by omega)
  refine ⟨r4, ?_, hr4, ⟨fun b hb hbm => ?_, fun a b ha hb ham hbm => ?_⟩, fun g hg c hc hcm => ?_⟩
  · unfold f_Debts_widestRing
    rw [c1, c2, c3]
  · have := gC.1 b hb hbm
    rwa [he _ (by omega)] at this
  · have := gC.2 a b ha hb ham hbm
    rwa [he _ (by omega)] at this
  · refine hW.least g ⟨fun b hb hbm => ?_, fun a b ha hb ham hbm => ?_⟩ (fun d hd hdm => ?_) c hc hcm
    · rw [he _ (by omega)]; exact hg.1 b hb hbm
    · rw [he _ (by omega)]; exact hg.2 a b ha hb ham hbm
    · rw [hr0' d hd, he _ (by omega)]; exact hg.1 d hd hdm
theorem mx_le {f : Nat → Int32} {X : Int} (h0 : 0 ≤ X) : ∀ n, (∀ i, i < n → (f i).toInt ≤ X) → (mx f n).toInt ≤ X
  | 0, _ => h0
  | n + 1, h => by
    show (q_max (mx f n) (f n)).toInt ≤ X
    rw [t_max]
    have := mx_le h0 n (fun i hi => h i (by omega))
    have := h n (by omega)
    omega
theorem mx_ge {f : Nat → Int32} {i : Nat} : ∀ n, i < n → (f i).toInt ≤ (mx f n).toInt
  | 0, h => absurd h (Nat.not_lt_zero _)
  | n + 1, h => by
    show (f i).toInt ≤ (q_max (mx f n) (f n)).toInt
    rw [t_max]
    by_cases hq : i = n
    · subst hq; omega
    · have := mx_ge (f := f) n (show i < n by omega)
      omega
theorem mx_at {f : Nat → Int32} {t : Int} (h0 : 0 < t) : ∀ n, t ≤ (mx f n).toInt → ∃ i, i < n ∧ t ≤ (f i).toInt
  | 0, h => by
    have : (mx f 0).toInt = 0 := rfl
    omega
  | n + 1, h => by
    have h : t ≤ (q_max (mx f n) (f n)).toInt := h
    rw [t_max] at h
    by_cases hq : t ≤ (f n).toInt
    · exact ⟨n, by omega, hq⟩
    · obtain ⟨i, h1, h2⟩ := mx_at (f := f) h0 n (by omega)
      exact ⟨i, by omega, h2⟩
/-- reached from m along debts of at least t -/
def FH (e : Nat → Int32) (m M : Nat) (t : Int) : Nat → Nat → Prop
  | 0, c => t ≤ (e (6 * m + c)).toInt
  | k + 1, c => ∃ b, b < M ∧ b ≠ m ∧ FH e m M t k b ∧ t ≤ (e (6 * b + c)).toInt
theorem FH.back {e : Nat → Int32} {t : Int} : ∀ (k j c : Nat), c < M → c ≠ m → FH e m M t k c → RW e m M t j (fun y => y = m) c → RW e m M t (j + k + 1) (fun y => y = m) m
  | 0, j, c, h1, h2, h3, h4 => ⟨c, h1, h2, h2, h3, h4⟩
  | k + 1, j, c, h1, h2, ⟨b, g1, g2, g3, g4⟩, h4 => by
    have := FH.back k (j + 1) b g1 g2 g3 ⟨c, h1, h2, h2, g4, h4⟩
    rwa [show j + (k + 1) + 1 = j + 1 + k + 1 by omega]
/-- what a ring's answer is -/
def RG (u : Va) (m M : Nat) (x : Int32) : Prop := 0 ≤ x.toInt ∧ (∀ t : Int, 0 < t → t ≤ x.toInt → ∃ k, RW (u 180) m M t k (fun y => y = m) m) ∧ (∃ g : Nat → Int, GS (u 180) m M g ∧ ∀ y, y < M → y ≠ m → min (g y) (u 180 (6 * y + m)).toInt ≤ x.toInt) ∧
  x.toInt ≤ isum (fun b => u 180 (6 * m + b)) 6 ∧ x.toInt ≤ isum (fun b => u 180 (6 * b + m)) 6
theorem RG.one {x y : Int32} (hx : RG u m M x) (hy : 0 ≤ y.toInt) (h1 : ∀ (g : Nat → Int) (X : Int), GS (u 180) m M g → 0 ≤ X → (∀ y, y < M → y ≠ m → min (g y) (u 180 (6 * y + m)).toInt ≤ X) → y.toInt ≤ X) (h2 : ∀ (t : Int) (k : Nat), 0 < t → t ≤ 2147483647 → RW (u 180) m M t k (fun y => y = m) m → t ≤ y.toInt) : y = x := by
  obtain ⟨a1, a2, ⟨g, a3, a4⟩, -⟩ := hx
  apply t_inj
  have b1 := h1 g x.toInt a3 a1 a4
  have b2 : x.toInt ≤ y.toInt := by
    by_cases h0 : 0 < x.toInt
    · obtain ⟨k, hk⟩ := a2 x.toInt h0 (Int.le_refl _)
      have := Int32.toInt_lt x
      exact h2 x.toInt k h0 (by omega) hk
    · omega
  omega
theorem ring_rg (hI : IS u 173 L G M) (hM : M ≤ 6) (hm : m < M) {r4 : Nat → Int32} (h1 : ∀ q, q < 6 → 0 ≤ (r4 q).toInt) (h2 : GS (u 180) m 6 (fun c => (r4 c).toInt)) (h3 : ∀ g : Nat → Int, GS (u 180) m 6 g → ∀ c, c < 6 → c ≠ m → (r4 c).toInt ≤ g c) : RG u m M (mx (fun a => q_min (r4 a) (u 180 (6 * a + m))) 6) := by
  have hD := hI.2.2.2.2.1
  have hD0 : ∀ a b, a < 6 → b < 6 → 0 ≤ (u 180 (6 * a + b)).toInt := fun a b ha hb => (hD a b ha hb).1
  have hz0 : ∀ a b, a < 6 → b < 6 → M ≤ a ∨ M ≤ b → u 180 (6 * a + b) = 0 := fun a b ha hb h => (hD a b ha hb).2.2 (Or.inr h)
  have h00 : u 180 (6 * m + m) = 0 := (hD m m (by omega) (by omega)).2.2 (Or.inl rfl)
  have z0 : (0 : Int32).toInt = 0 := rfl
  have hq : ∀ a, (q_min (r4 a) (u 180 (6 * a + m))).toInt = min (r4 a).toInt (u 180 (6 * a + m)).toInt := fun a => t_min
  refine ⟨mx_nn 6, fun t ht hx => ?_, ⟨fun c => (r4 c).toInt, ⟨fun b hb hbm => h2.1 b (by omega) hbm, fun a b ha hb ham hbm => h2.2 a b (by omega) (by omega) ham hbm⟩, fun y hy hym => ?_⟩, ?_, ?_⟩
  · obtain ⟨a, ha, h4⟩ := mx_at ht 6 hx
    rw [hq] at h4
    have haM : a < M := Classical.byContradiction fun q => by
      rw [hz0 a m ha (by omega) (Or.inl (by omega)), z0] at h4; omega
    have ham : a ≠ m := fun q => by subst q; rw [h00, z0] at h4; omega
    have hr : ∃ k, FH (u 180) m M t k a := Classical.byContradiction fun hno => by
      have := h3 (fun c => @ite Int (c < M ∧ ∃ k, FH (u 180) m M t k c) (Classical.propDecidable _) 2147483648 (t - 1)) ⟨fun b hb hbm => ?_, fun c b hc hb hcm hbm => ?_⟩ a ha ham
      · have e : (@ite Int (a < M ∧ ∃ k, FH (u 180) m M t k a) (Classical.propDecidable _) 2147483648 (t - 1)) = t - 1 := @if_neg _ (Classical.propDecidable _) (fun q => hno q.2) _ _ _
        simp only [e] at this
        omega
      · by_cases hb2 : b < M ∧ ∃ k, FH (u 180) m M t k b
        · have e : (@ite Int (b < M ∧ ∃ k, FH (u 180) m M t k b) (Classical.propDecidable _) 2147483648 (t - 1)) = 2147483648 := @if_pos _ (Classical.propDecidable _) hb2 _ _ _
          simp only [e]
          have := Int32.toInt_lt (u 180 (6 * m + b)); omega
        · have e : (@ite Int (b < M ∧ ∃ k, FH (u 180) m M t k b) (Classical.propDecidable _) 2147483648 (t - 1)) = t - 1 := @if_neg _ (Classical.propDecidable _) hb2 _ _ _
          simp only [e]
          by_cases hbM : b < M
          · have : ¬ t ≤ (u 180 (6 * m + b)).toInt := fun q => hb2 ⟨hbM, 0, q⟩
            omega
          · rw [hz0 m b (by omega) hb (Or.inr (by omega)), z0]; omega
      · by_cases hb2 : b < M ∧ ∃ k, FH (u 180) m M t k b
        · have e : (@ite Int (b < M ∧ ∃ k, FH (u 180) m M t k b) (Classical.propDecidable _) 2147483648 (t - 1)) = 2147483648 := @if_pos _ (Classical.propDecidable _) hb2 _ _ _
          simp only [e]
          have := Int32.toInt_lt (u 180 (6 * c + b)); omega
        · have e : (@ite Int (b < M ∧ ∃ k, FH (u 180) m M t k b) (Classical.propDecidable _) 2147483648 (t - 1)) = t - 1 := @if_neg _ (Classical.propDecidable _) hb2 _ _ _
          simp only [e]
          by_cases hc2 : c < M ∧ ∃ k, FH (u 180) m M t k c
          · by_cases hbM : b < M
            · have : ¬ t ≤ (u 180 (6 * c + b)).toInt := fun q => by
                obtain ⟨k, hk⟩ := hc2.2
                exact hb2 ⟨hbM, k + 1, c, hc2.1, hcm, hk, q⟩
              omega
            · rw [hz0 c b hc hb (Or.inr (by omega)), z0]; omega
          · have e2 : (@ite Int (c < M ∧ ∃ k, FH (u 180) m M t k c) (Classical.propDecidable _) 2147483648 (t - 1)) = t - 1 := @if_neg _ (Classical.propDecidable _) hc2 _ _ _
            simp only [e2]; omega
    obtain ⟨k, hk⟩ := hr
    exact ⟨_, FH.back k 0 a haM ham hk (show t ≤ (u 180 (6 * a + m)).toInt by omega)⟩
  · have := mx_ge (f := fun a => q_min (r4 a) (u 180 (6 * a + m))) 6 (show y < 6 by omega)
    rw [hq] at this
    exact this
  · have hnn := isum_nn (f := fun b => u 180 (6 * m + b)) 6 (fun b hb => hD0 m b (by omega) hb)
    refine mx_le hnn 6 fun a ha => ?_
    rw [hq]
    by_cases ham : a = m
    · subst ham; rw [h00, z0]; omega
    · have := h3 (fun _ => isum (fun b => u 180 (6 * m + b)) 6) ⟨fun b hb _ => isum_le (f := fun b => u 180 (6 * m + b)) 6 (fun b hb => hD0 m b (by omega) hb) hb, fun _ _ _ _ _ _ => Int.min_le_left _ _⟩ a ha ham
      have : (r4 a).toInt ≤ isum (fun b => u 180 (6 * m + b)) 6 := this
      omega
  · have hnn := isum_nn (f := fun b => u 180 (6 * b + m)) 6 (fun b hb => hD0 b m hb (by omega))
    refine mx_le hnn 6 fun a ha => ?_
    rw [hq]
    have : (u 180 (6 * a + m)).toInt ≤ isum (fun b => u 180 (6 * b + m)) 6 := isum_le (f := fun b => u 180 (6 * b + m)) 6 (fun b hb => hD0 b m hb (by omega)) ha
    omega
theorem q_ring (h : QI z v u S G M L O) (hz : 4000 < z) (hm : m < M) : ∃ x v1, f_Quay_ring z v (nI m) = some (.inl (x, v1)) ∧ QI z v1 u S G M L O ∧ RG u m M x := by
  obtain ⟨r4, h0, h1, h2, h3⟩ := ring_c h.1 h.2.2.1 h.2.2.2.1 hz hm
  refine ⟨_, up v 114 r4, ?_, h.keep (fun p _ hp => up_ne hp), ring_rg h.2.2.2.1 h.1.1.2.2.1 hm h1 h2 h3⟩
  unfold f_Quay_ring
  rw [isM_c h.1, ob]
  simp only [qb]
  rw [if_neg (ndM h hm), h0, ob]
end
