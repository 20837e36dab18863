/-! SIM'S RING: depth first, and what it finds -/
section
/-- a way back to m along debts of at least t, over k merchants that are not in A -/
def RW (e : Nat → Int32) (m M : Nat) (t : Int) : Nat → (Nat → Prop) → Nat → Prop
  | 0, _, x => t ≤ (e (6 * x + m)).toInt
  | k + 1, A, x => ∃ y, y < M ∧ y ≠ m ∧ ¬ A y ∧ t ≤ (e (6 * x + y)).toInt ∧ RW e m M t k A y
theorem RW_congr {e : Nat → Int32} {m M : Nat} {t : Int} {A B : Nat → Prop} (h : ∀ y, y < M → (A y ↔ B y)) : ∀ k x, RW e m M t k A x → RW e m M t k B x
  | 0, _, q => q
  | k + 1, _, ⟨y, h1, h2, h3, h4, h5⟩ => ⟨y, h1, h2, fun q => h3 ((h y h1).mpr q), h4, RW_congr h k y h5⟩
theorem RW_avoid {e : Nat → Int32} {m M : Nat} {t : Int} {A : Nat → Prop} {y : Nat} : ∀ k x, RW e m M t k A x → RW e m M t k (fun q => A q ∨ q = y) x ∨ ∃ k', k' < k ∧ RW e m M t k' A y
  | 0, _, q => Or.inl q
  | k + 1, x, ⟨w, h1, h2, h3, h4, h5⟩ => by
    by_cases hw : w = y
    · subst hw; exact Or.inr ⟨k, by omega, h5⟩
    · rcases RW_avoid (y := y) k w h5 with g | ⟨k', g1, g2⟩
      · exact Or.inl ⟨w, h1, h2, fun q => q.elim h3 hw, h4, g⟩
      · exact Or.inr ⟨k', by omega, g2⟩
theorem RW_first {e : Nat → Int32} {m M : Nat} {t : Int} {A : Nat → Prop} {y : Nat} : ∀ n k, k < n → RW e m M t k A y → ∃ k', RW e m M t k' (fun q => A q ∨ q = y) y
  | 0, _, h, _ => absurd h (Nat.not_lt_zero _)
  | n + 1, k, hk, h => by
    rcases RW_avoid (y := y) k y h with g | ⟨k', g1, g2⟩
    · exact ⟨k, g⟩
    · exact RW_first n k' (by omega) g2
def uns (r : Nat → Int32) : Nat → Nat
  | 0 => 0
  | n + 1 => uns r n + if r n = 0 then 1 else 0
theorem uns_upd {r : Nat → Int32} {i : Nat} (h0 : r i = 0) : ∀ n, i < n → uns (upd r i 1) n + 1 = uns r n := by
  have low : ∀ n, n ≤ i → uns (upd r i 1) n = uns r n := by
    intro n
    induction n with
    | zero => intro _; rfl
    | succ n ih =>
      intro h
      show uns _ n + _ = uns _ n + _
      rw [ih (by omega), upd_ne (by omega)]
  intro n
  induction n with
  | zero => intro h; omega
  | succ n ih =>
    intro h
    show uns _ n + (if upd r i 1 n = 0 then 1 else 0) + 1 = uns _ n + (if r n = 0 then 1 else 0)
    by_cases hq : n = i
    · subst hq
      rw [upd_eq, if_neg (by decide), if_pos h0, low n (Nat.le_refl _)]
    · have := ih (by omega)
      rw [upd_ne hq]
      omega
theorem uns_le {r : Nat → Int32} : ∀ n, uns r n ≤ n
  | 0 => Nat.le_refl _
  | n + 1 => by
    show uns r n + (if r n = 0 then 1 else 0) ≤ n + 1
    have := uns_le (r := r) n
    split <;> omega
variable {x u : Va} {ks S G M L O m i z kz a : Nat} {pA : Nat → Nat} {pB : Nat → Nat → Nat}
theorem SR.off (h : SR x u ks pA pB S G M L O) {p : Nat} {f : Nat → Int32} (hk : ∀ j i f, vQ S G M L O j i f → smQ ks pA pB j i ≠ p) : SR (up x p f) u ks pA pB S G M L O := fun j i f hv => by rw [up_ne (hk j i f hv)]; exact h j i f hv
theorem vn1 : vp_nar .boolean 1 = 1 := by decide
theorem vn0 : vp_nar .boolean 0 = 0 := by decide
theorem dfs (hM : M ≤ 6) (hm : m < M) (hD : ID (u 180) M) (hk : ∀ j i f, vQ S G M L O j i f → smQ ks pA pB j i ≠ kz) (hz : 4000 < z) : ∀ (d : Nat) (x : Va) (a : Nat) (w : Int32), SR x u ks pA pB S G M L O → uns (x kz) M < d → a < M → 0 ≤ w.toInt →
    ∃ q, (g_Back z ks pA pB (pn_ S G M L O) kz M d) 0 [nI m, nI a, w] x = some (q, x) ∧ 0 ≤ q.toInt ∧
      (∀ (g : Nat → Int) (X : Int), GS (u 180) m M g → 0 ≤ X → (∀ y, y < M → y ≠ m → min (g y) (u 180 (6 * y + m)).toInt ≤ X) → (a = m ∨ w.toInt ≤ g a) → q.toInt ≤ X) ∧
      (∀ (t : Int) (k : Nat), 0 < t → t ≤ w.toInt → RW (u 180) m M t k (fun y => x kz y ≠ 0) a → t ≤ q.toInt)
  | 0, _, _, _, _, h, _, _ => absurd h (Nat.not_lt_zero _)
  | d + 1, x, a, w, hS, hu, ha, hw => by
    have p2 : pn_ S G M L O 2 = M := rfl
    have p3 : pn_ S G M L O 3 = M := rfl
    have hd0 : ∀ b, b < M → 0 ≤ (u 180 (6 * a + b)).toInt := fun b hb => (hD a b (by omega) (by omega)).1
    have haa : u 180 (6 * m + m) = 0 := (hD m m (by omega) (by omega)).2.2 (Or.inl rfl)
    have main : ∃ r, rp (b_Sim_back_6 (g_Back z ks pA pB (pn_ S G M L O) kz M d) pB (pn_ S G M L O) (nI m) (nI a) w kz M) z (0, 0, x) = some r ∧ r.2 = x ∧ 0 ≤ r.1.toInt ∧
        (∀ (g : Nat → Int) (X : Int), GS (u 180) m M g → 0 ≤ X → (∀ y, y < M → y ≠ m → min (g y) (u 180 (6 * y + m)).toInt ≤ X) → (a = m ∨ w.toInt ≤ g a) → r.1.toInt ≤ X) ∧
        (∀ t : Int, 0 < t → t ≤ w.toInt → (∃ y, y < M ∧ ((y = m ∧ t ≤ (u 180 (6 * a + m)).toInt) ∨ (y ≠ m ∧ x kz y = 0 ∧ t ≤ (u 180 (6 * a + y)).toInt ∧ ∃ k, RW (u 180) m M t k (fun y => x kz y ≠ 0) y))) → t ≤ r.1.toInt) := by
      refine rp_inv (f := b_Sim_back_6 (g_Back z ks pA pB (pn_ S G M L O) kz M d) pB (pn_ S G M L O) (nI m) (nI a) w kz M) (fun i s => s.2.1 = nI i ∧ s.2.2 = x ∧ 0 ≤ s.1.toInt ∧
        (∀ (g : Nat → Int) (X : Int), GS (u 180) m M g → 0 ≤ X → (∀ y, y < M → y ≠ m → min (g y) (u 180 (6 * y + m)).toInt ≤ X) → (a = m ∨ w.toInt ≤ g a) → s.1.toInt ≤ X) ∧
        (∀ t : Int, 0 < t → t ≤ w.toInt → (∃ y, y < i ∧ ((y = m ∧ t ≤ (u 180 (6 * a + m)).toInt) ∨ (y ≠ m ∧ x kz y = 0 ∧ t ≤ (u 180 (6 * a + y)).toInt ∧ ∃ k, RW (u 180) m M t k (fun y => x kz y ≠ 0) y))) → t ≤ s.1.toInt)) _ M ?_ ?_ z 0 (0, 0, x) ⟨rfl, rfl, Int.le_refl _, fun g X _ hX _ _ => hX, fun t _ _ ⟨y, hy, _⟩ => absurd hy (Nat.not_lt_zero _)⟩ (by omega) (by omega)
      · intro K s ⟨e1, e2, e3, e4, e5⟩
        obtain ⟨s1, s2, s3⟩ := s
        simp only at e1 e2 e3 e4 e5
        subst e1 e2
        refine ⟨(s1, s3), ?_, rfl, e3, e4, e5⟩
        unfold b_Sim_back_6
        simp only [p2]
        rw [if_pos (by rw [le_n (by omega) (by omega)]; exact Nat.le_refl _)]
      · intro K i s hi ⟨e1, e2, e3, e4, e5⟩
        obtain ⟨s1, s2, s3⟩ := s
        simp only at e1 e2 e3 e4 e5
        subst e1 e2
        have ev := hS.owes ha hi
        have hn : (q_min w (u 180 (6 * a + i))).toInt = min w.toInt (u 180 (6 * a + i)).toInt := t_min
        have hi0 := hd0 i hi
        -- the step, by cases
        have st : ∀ s', b_Sim_back_6 (g_Back z ks pA pB (pn_ S G M L O) kz M d) pB (pn_ S G M L O) (nI m) (nI a) w kz M K (s1, nI i, s3) = (if q_min w (u 180 (6 * a + i)) = 0 then K (s1, nI (i + 1), s3) else if i = m then j_Sim_back_53 (g_Back z ks pA pB (pn_ S G M L O) kz M d) pB (nI m) (nI a) w kz M K (s1, nI i, s3) else if s3 kz i = 0 then j_Sim_back_53 (g_Back z ks pA pB (pn_ S G M L O) kz M d) pB (nI m) (nI a) w kz M K (s1, nI i, s3) else K (s1, nI (i + 1), s3)) ∨ s' = 0 := by
          intro s'
          refine Or.inl ?_
          unfold b_Sim_back_6 j_Sim_back_101
          simp (disch := omega) only [p2, p3, gn, ni_c, if_false, ev, eq_n, ni_s]
          rw [if_neg (by rw [le_n (by omega) (by omega)]; omega)]
        have st := (st 1).resolve_right (by decide)
        rw [st]
        by_cases h0 : q_min w (u 180 (6 * a + i)) = 0
        · rw [if_pos h0]
          rw [h0, show (0 : Int32).toInt = 0 from rfl] at hn
          refine Or.inl ⟨(s1, nI (i + 1), s3), rfl, rfl, rfl, e3, e4, fun t h1 h2 ⟨y, hy, hh⟩ => ?_⟩
          by_cases hq : y = i
          · subst hq
            rcases hh with ⟨rfl, h3⟩ | ⟨-, -, h3, -⟩ <;> omega
          · exact e5 t h1 h2 ⟨y, by omega, hh⟩
        rw [if_neg h0]
        have hpos : 0 < (q_min w (u 180 (6 * a + i))).toInt := by
          have : (q_min w (u 180 (6 * a + i))).toInt ≠ 0 := fun q => h0 (t_inj q)
          omega
        by_cases him : i = m
        · subst him
          rw [if_pos rfl]
          refine Or.inl ⟨(q_max s1 (q_min w (u 180 (6 * a + i))), nI (i + 1), s3), ?_, rfl, rfl, ?_, ?_, ?_⟩
          · unfold j_Sim_back_53 j_Sim_back_101
            simp (disch := omega) only [ni_c, ev, if_true, ni_s]
          · show 0 ≤ (q_max s1 _).toInt
            rw [t_max]; omega
          · intro g X h1 h2 h3 h4
            show (q_max s1 _).toInt ≤ X
            have := e4 g X h1 h2 h3 h4
            rw [t_max, hn]
            have hami : a ≠ i := by
              intro q
              subst q
              rw [hn, haa, show (0 : Int32).toInt = 0 from rfl] at hpos
              omega
            have := h3 a ha hami
            rcases h4 with h4 | h4
            · exact absurd h4 hami
            · omega
          · intro t h1 h2 ⟨y, hy, hh⟩
            show t ≤ (q_max s1 _).toInt
            rw [t_max, hn]
            by_cases hq : y = i
            · rcases hh with ⟨-, h3⟩ | ⟨h3, -⟩
              · omega
              · exact absurd hq h3
            · have := e5 t h1 h2 ⟨y, by omega, hh⟩
              omega
        rw [if_neg him]
        by_cases hs0 : s3 kz i = 0
        · rw [if_pos hs0]
          have hS2 : SR (pu s3 kz i 1) u ks pA pB S G M L O := hS.off hk
          have hu2 := uns_upd hs0 M hi
          have hr2 : (pu s3 kz i 1) kz = upd (s3 kz) i 1 := pu_e
          obtain ⟨q, g1, g2, g3, g4⟩ := dfs hM hm hD hk hz d (pu s3 kz i 1) i (q_min w (u 180 (6 * a + i))) hS2 (by rw [hr2]; omega) hi (by omega)
          have back : pu (pu s3 kz i 1) kz i 0 = s3 := by
            have : pu (pu s3 kz i 1) kz i 0 = pu s3 kz i (s3 kz i) := by rw [hs0]; unfold pu; rw [up_up, up_eq, upd_upd]
            rw [this, pu_i]
          refine Or.inl ⟨(q_max s1 q, nI (i + 1), s3), ?_, rfl, rfl, ?_, ?_, ?_⟩
          · unfold j_Sim_back_53 j_Sim_back_101
            simp (disch := omega) only [gn, ni_c, ev, if_false, ni_s, eq_n, bd, vn1, vn0]
            rw [if_neg him, g1, ob]
            simp only [back]
          · show 0 ≤ (q_max s1 q).toInt
            rw [t_max]; omega
          · intro g X h1 h2 h3 h4
            show (q_max s1 q).toInt ≤ X
            have hA := e4 g X h1 h2 h3 h4
            have hB := g3 g X h1 h2 h3 (Or.inr (by
              rw [hn]
              rcases h4 with rfl | h4
              · have := h1.1 i hi him; omega
              · by_cases ham : a = m
                · subst ham; have := h1.1 i hi him; omega
                · have := h1.2 a i ha hi ham him; omega))
            rw [t_max]; omega
          · intro t h1 h2 ⟨y, hy, hh⟩
            show t ≤ (q_max s1 q).toInt
            rw [t_max]
            by_cases hq : y = i
            · subst hq
              rcases hh with ⟨h3, -⟩ | ⟨-, -, h3, k, h5⟩
              · exact absurd h3 him
              · obtain ⟨k', h6⟩ := RW_first (y := y) (k + 1) k (by omega) h5
                have h7 := g4 t k' h1 (by rw [hn]; omega) (RW_congr (fun p hp => by
                  rw [hr2]
                  by_cases hpy : p = y
                  · subst hpy; rw [upd_eq]; exact ⟨fun _ => by decide, fun _ => Or.inr rfl⟩
                  · rw [upd_ne hpy]; exact ⟨fun q => q.elim id (fun q => absurd q hpy), Or.inl⟩) k' y h6)
                omega
            · have := e5 t h1 h2 ⟨y, by omega, hh⟩
              omega
        · rw [if_neg hs0]
          refine Or.inl ⟨(s1, nI (i + 1), s3), rfl, rfl, rfl, e3, e4, fun t h1 h2 ⟨y, hy, hh⟩ => ?_⟩
          by_cases hq : y = i
          · subst hq
            rcases hh with ⟨h3, -⟩ | ⟨-, h3, -⟩
            · exact absurd h3 him
            · exact absurd h3 hs0
          · exact e5 t h1 h2 ⟨y, by omega, hh⟩
    obtain ⟨⟨r1, r2⟩, m1, m2, m3, m4, m5⟩ := main
    simp only at m2 m3 m4 m5
    subst m2
    refine ⟨r1, ?_, m3, m4, fun t k h1 h2 h3 => ?_⟩
    · show f_Sim_back z (g_Back z ks pA pB (pn_ S G M L O) kz M d) r2 ks pA pB (pn_ S G M L O) (nI m) (nI a) w kz M = _
      unfold f_Sim_back
      exact m1
    · cases k with
      | zero => exact m5 t h1 h2 ⟨m, hm, Or.inl ⟨rfl, h3⟩⟩
      | succ k =>
        obtain ⟨y, g1, g2, g3, g4, g5⟩ := h3
        exact m5 t h1 h2 ⟨y, g1, Or.inr ⟨g2, Classical.byContradiction fun q => g3 q, g4, k, g5⟩⟩
end
