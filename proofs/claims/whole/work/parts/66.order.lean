/-! LINES: orders -/
section
variable {α β : Type} {pa : α → Va} {kn : Nat → Nat} {nt k1 sp z : Nat} {u0 v v1 u u1 us us1 : Va} {t t1 O Om Om' s : Nat} {N n : Nat → Nat} {P : Va → Prop} {D : Nat → Prop} {Q : Va → Va → Nat → Prop} {c : List Ste}
/-- a sum or a test in a line -/
theorem Out.toL {A : Option Va} {B : Option (Bool × Va)} {C : (Nat → Int32) → Nat → Nat → Nat → List Ste → Prop} (hA : ALL kn nt k1 sp z u0 v us t) (h : Out kn nt k1 sp z u0 v us t 0 A B D C) (hP : ∀ u, P u → ∃ M L s, SE kn nt k1 u0 v u M L t s)
    (hQ : ∀ v' u2 u3 t' M L s c, P u2 → SE kn nt k1 u0 v u2 M L t s → FRe v v' → FNm k1 u2 u3 t t' → SStp v v' s c → c.length ≤ t' - t → t ≤ t' → t' ≤ nt → C (u3 (k1 + 4)) M L t' c → Q v' u3 t') : OutL id kn nt k1 sp z v us t A B P D Q := by
  obtain ⟨v1, b, us1, t1, a1, a2, a3, a4, a5, a6, a7, a8, a9⟩ := h
  refine ⟨v1, b, us1, t1, a1, a2, FRl.re a3, a4, a5, a6, a7, a8, fun hb => ?_⟩
  obtain ⟨x0, x1, x2, x3, x4, x5⟩ := a9 hb
  refine ⟨x0, x1, x2, x3, hA.2.fr ⟨a3 _ (by omega) (by omega) (by omega) (by omega) (by omega), a3 _ (by omega) (by omega) (by omega) (by omega) (by omega), a3 _ (by omega) (by omega) (by omega) (by omega) (by omega), a3 _ (by omega) (by omega) (by omega) (by omega) (by omega), a3 _ (by omega) (by omega) (by omega) (by omega) (by omega)⟩, x4, fun h0 u2 hp => ?_⟩
  obtain ⟨M, L, s, hS⟩ := hP u2 hp
  obtain ⟨e, k, u3, q1, q2, q3⟩ := x5 h0 M L s u2 hS
  refine ⟨e, k, u3, q1, q2, fun he => ?_⟩
  obtain ⟨p1, p2, c, p3, p4, p5⟩ := q3 he
  exact ⟨p1, hQ v1 u2 u3 t1 M L s c hp hS a3 p2 p3 p4 a6 a7 (p5 _ (fun _ _ => rfl))⟩
theorem Shx.se (h : Shx kn nt k1 u0 v u t N n O Om s) : SE kn nt k1 u0 v u (N 2) (N 3) t s := ⟨h.1.1, h.1.2, h.2.1 2 (by omega), h.2.1 3 (by omega), h.2.2.1.1, h.2.2.1.2⟩
/-- only the order that is being read changes -/
theorem Shx.cur (h : Shx kn nt k1 u0 v u t N n O Om s) (hv : ∀ p, p ≠ 12 → (p < 31 ∨ 41 < p) → v1 p = v p) (hv' : ∀ p, 31 ≤ p → p ≤ 41 → ∀ o, o < O → v1 p o = v p o) (hu : ∀ p, p ≠ k1 → p ≠ k1 + 4 → (p < k1 + 17 ∨ k1 + 21 < p) → u1 p = u p) (hu' : ∀ p, 17 ≤ p → p ≤ 21 → ∀ o, o < O → u1 (k1 + p) o = u (k1 + p) o) (hu1 : ∀ q, q ≠ 20 → u1 k1 q = u k1 q) (hO : u1 k1 20 = nI Om') (hm : ∀ i, i < t → u1 (k1 + 4) i = u (k1 + 4) i) (ht : t ≤ t1) (hk1 : 194 ≤ k1) : Shx kn nt k1 u0 v1 u1 t1 N n O Om' s := by
  obtain ⟨h1, h2, h3, h4, h5, h6⟩ := h
  refine ⟨by rw [hv 42 (by omega) (by omega)]; exact ⟨h1.1, by omega⟩, fun i hi => ?_, ⟨?_, ?_⟩, ?_, fun j hj i hi => ?_, fun o ho => ?_⟩
  · have nk := nm_lt hi
    have nc := nmC_lt hi
    obtain ⟨r1, r2, r3, r4⟩ := h2 i hi
    refine ⟨by rw [hv _ (by omega) (by omega)]; exact r1, r2, by rw [hu1 _ (by omega)]; exact r3, fun q hq => ?_⟩
    rw [hu _ (by omega) (by omega) (by omega), hv (49 + 3 * i + 2) (by omega) (by omega), hv 11 (by omega) (by omega)]
    exact r4 q hq
  · rw [hu _ (by omega) (by omega) (by omega), hu _ (by omega) (by omega) (by omega), hu _ (by omega) (by omega) (by omega)]; exact h3.1
  · rw [hu _ (by omega) (by omega) (by omega)]; exact h3.2
  · rw [hv 13 (by omega) (by omega)]; exact ⟨h4.1, h4.2.1, hO⟩
  · have nr := rm_lt hj
    rw [hv _ (by omega) (by omega), hu _ (by omega) (by omega) (by omega)]; exact h5 j hj i hi
  · exact (h6 o ho).fr (fun p hp => hv' p (by omega) (by omega) o ho) (fun i hi => by rw [hv 44 (by omega) (by omega), hv 46 (by omega) (by omega), hv 48 (by omega) (by omega)]; exact ⟨rfl, rfl, rfl⟩) (fun p q1 q2 => hu' p q1 q2 o ho) hm (Nat.le_refl _) (Nat.le_refl _) (Nat.le_refl _) (Nat.le_refl _) ht
/-- a sum or a test was read -/
theorem Shx.par (h : Shx kn nt k1 u0 v u t N n O Om s) (hF : FRe v v1) (hN : FNm k1 u u1 t t1) (hS : SStp v v1 s c) (hl : c.length ≤ t1 - t) (ht : t ≤ t1) (hk1 : 194 ≤ k1) : Shx kn nt k1 u0 v1 u1 t1 N n O Om (s + c.length) := by
  obtain ⟨h1, h2, h3, h4, h5, h6⟩ := h
  have hv : ∀ p, p < 12 ∨ (12 < p ∧ p < 42) ∨ 48 < p → v1 p = v p := fun p hp => hF p (by omega) (by omega) (by omega) (by omega) (by omega)
  have hu := hN.1
  have hs := h1.2
  refine ⟨⟨hS.1, by omega⟩, fun i hi => ?_, ⟨?_, ?_⟩, ?_, fun j hj i hi => ?_, fun o ho => ?_⟩
  · have nk := nm_lt hi
    exact (h2 i hi).fr (hv _ (by omega)) (hv _ (by omega)) (hv _ (by omega)) (hu _ (by omega)) (hu _ (by omega))
  · rw [hu _ (by omega), hu _ (by omega), hu _ (by omega)]; exact h3.1
  · rw [hu _ (by omega)]; exact h3.2
  · rw [hv 13 (by omega), hu _ (by omega)]; exact h4
  · have nr := rm_lt hj
    rw [hv _ (by omega), hu _ (by omega)]; exact h5 j hj i hi
  · exact (h6 o ho).fr (fun p hp => by rw [hv p (by omega)]) (fun i hi => hS.2.1 i hi) (fun p q1 q2 => by rw [hu _ (by omega)]) (fun i hi => hN.2 i (Or.inl hi)) (Nat.le_refl _) (Nat.le_refl _) (Nat.le_refl _) (Nat.le_add_right _ _) ht
/-- an order is being read -/
def OA (kn : Nat → Nat) (nt k1 : Nat) (u0 v u : Va) (t : Nat) (oi : Int32) (Y : Va → Va → (Nat → Nat) → Nat → Nat → Nat → Prop) : Prop := ∃ N O s, Shx kn nt k1 u0 v u t N (rbd N) O (O + 1) s ∧ O < 24 ∧ oi = nI O ∧ Y v u N O s t
def Y1 (k1 a1 : Nat) (v u : Va) (_N : Nat → Nat) (O _s _t : Nat) : Prop := v 31 O = u (k1 + 17) O ∧ u (k1 + 17) O = nI a1 ∧ u (k1 + 21) O = -1
def Y2 (k1 a1 : Nat) (v u : Va) (N : Nat → Nat) (O s t : Nat) : Prop := Y1 k1 a1 v u N O s t ∧ v 33 O = u (k1 + 18) O ∧ ∃ i, i < (if a1 = 2 then N 2 else N 3) ∧ u (k1 + 18) O = nI i
def Y3 (k1 a1 : Nat) (v u : Va) (N : Nat → Nat) (O s t : Nat) : Prop := Y2 k1 a1 v u N O s t ∧ v 35 O = u (k1 + 19) O ∧ ∃ j, j < (if a1 = 0 then N 1 else N 2) ∧ u (k1 + 19) O = nI j
/-- a keyword of an order -/
def KB (v : Va) (t : Nat) : Va := if v 13 4 < 24 then Nx v (t + 1) else if v 12 7 = 0 then Nx (Bl v 4 t) (t + 1) else Nx v (t + 1)
theorem KB_ne {p : Nat} (h : p ≠ 12) : (KB v t) p = v p := by
  unfold KB
  split
  · unfold Nx pu; rw [up_ne h]
  · split
    · unfold Nx Bl pu; rw [up_ne h, up_ne h, up_ne h]
    · unfold Nx pu; rw [up_ne h]
theorem KB_6 : (KB v t) 12 6 = nI (t + 1) := by
  unfold KB
  split
  · exact Nx_6
  · split
    · exact Nx_6
    · exact Nx_6
def KW (v : Va) (t : Nat) (a1 : Int32) : Va := up (KB v t) 31 (row_s 24 (v 31) (v 13 4) a1)
theorem kw_err {a1 : Nat} (ht : t ≤ 400) (ha : a1 < 3) (hk : u (k1 + 1) t = nI (12 + 2 * a1)) (hO : u k1 20 = nI O) (hO2 : O ≤ 24) (hk1 : 194 ≤ k1) : f_Model_errorOf z u sp k1 (nI t) = if O = 24 then some (4, u) else some (0, pu (pu (pu (pu u (k1 + 17) O (nI a1)) (k1 + 20) O (-1)) (k1 + 21) O (-1)) k1 20 (nI (O + 1))) := by
  have hj : O < 24 → j_Model_errorOfOrder_40 u k1 (nI a1) = some (0, pu (pu (pu (pu u (k1 + 17) O (nI a1)) (k1 + 20) O (-1)) (k1 + 21) O (-1)) k1 20 (nI (O + 1))) := fun h => by
    unfold j_Model_errorOfOrder_40
    have e1 : (pu u (k1 + 17) O (nI a1)) k1 20 = nI O := by unfold pu; rw [up_ne (by omega)]; exact hO
    have e2 : (pu (pu u (k1 + 17) O (nI a1)) (k1 + 20) O (-1)) k1 20 = nI O := by unfold pu at e1 ⊢; rw [up_ne (by omega)]; exact e1
    have e3 : (pu (pu (pu u (k1 + 17) O (nI a1)) (k1 + 20) O (-1)) (k1 + 21) O (-1)) k1 20 = nI O := by unfold pu at e2 ⊢; rw [up_ne (by omega)]; exact e2
    rw [hO, if_neg (gd2 (by omega) (by omega)), ni_c (by omega), bd, e1, if_neg (gd2 (by omega) (by omega)), ni_c (by omega), bd, e2, if_neg (gd2 (by omega) (by omega)), ni_c (by omega), bd, e3, bd, ni_s]
  have ho : f_Model_errorOfOrder u sp k1 (nI (12 + 2 * a1)) = if O = 24 then some (4, u) else some (0, pu (pu (pu (pu u (k1 + 17) O (nI a1)) (k1 + 20) O (-1)) (k1 + 21) O (-1)) k1 20 (nI (O + 1))) := by
    unfold f_Model_errorOfOrder
    rw [hO]
    by_cases h : O = 24
    · rw [if_pos (by rw [h]; rfl), if_pos h]
    · rw [if_neg (by rw [show (24 : Int32) = nI 24 from rfl, eq_n (by omega) (by omega)]; exact h), if_neg h, ← hj (by omega)]
      have : a1 = 0 ∨ a1 = 1 ∨ a1 = 2 := by omega
      rcases this with rfl | rfl | rfl
      · rw [if_pos (show nI (12 + 2 * 0) = 12 by decide)]; rfl
      · rw [if_neg (show ¬ nI (12 + 2 * 1) = 12 by decide), if_pos (show nI (12 + 2 * 1) = 14 by decide)]; rfl
      · rw [if_neg (show ¬ nI (12 + 2 * 2) = 12 by decide), if_neg (show ¬ nI (12 + 2 * 2) = 14 by decide)]; rfl
  unfold f_Model_errorOf
  rw [if_neg (gd2 (by omega) (by omega)), ni_c (by omega), hk, ho]
  have hfin : ∀ X : Option (Int32 × Va), (X.bind fun q141 => some (q141.1, q141.2)) = X := fun X => by cases X <;> rfl
  rw [hfin]
  have : a1 = 0 ∨ a1 = 1 ∨ a1 = 2 := by omega
  rcases this with rfl | rfl | rfl
  · rw [if_pos (show nI (12 + 2 * 0) = 12 by decide)]
  · rw [if_neg (show ¬ nI (12 + 2 * 1) = 12 by decide), if_pos (show nI (12 + 2 * 1) = 14 by decide)]
  · rw [if_neg (show ¬ nI (12 + 2 * 2) = 12 by decide), if_neg (show ¬ nI (12 + 2 * 2) = 14 by decide), if_pos (show nI (12 + 2 * 2) = 16 by decide)]
theorem OutL.kw {a1 : Nat} (G : GH kn nt k1 z) (hA : ALL kn nt k1 sp z u0 v us t) (ha : a1 < 3) (hk : kn t = 12 + 2 * a1) : OutL id kn nt k1 sp z v us t (some (KW v t (nI a1))) (f_Model_eat us sp k1 (nI (12 + 2 * a1))) (fun u => SX kn nt k1 u0 v u t X0) (fun t' => t' = t + 1) (fun a u t' => OA kn nt k1 u0 a u t' (v 13 4) (Y1 k1 a1)) := by
  have hA' := hA
  obtain ⟨⟨l1, l2, l3, l4, l5, l6, l7, l8, l9, l10⟩, hc⟩ := hA
  have g1 := G.1
  have hk1 := G.2.2.2.2.1
  have ht := lt_of_kn G l3 (by omega)
  have hkm : kmap (12 + 2 * a1) = 12 + 2 * a1 := by
    have : a1 = 0 ∨ a1 = 1 ∨ a1 = 2 := by omega
    rcases this with rfl | rfl | rfl <;> rfl
  have h12 : (KW v t (nI a1)) 12 = (KB v t) 12 := by unfold KW; rw [up_ne (by omega)]
  have hne : ∀ p, p ≠ 12 → p ≠ 31 → (KW v t (nI a1)) p = v p := fun p q1 q2 => by unfold KW; rw [up_ne q2, KB_ne q1]
  have hcb : CB (KW v t (nI a1)) := hc.fr ⟨hne _ (by omega) (by omega), hne _ (by omega) (by omega), hne _ (by omega) (by omega), hne _ (by omega) (by omega), hne _ (by omega) (by omega)⟩
  have herr : ∀ u, SX kn nt k1 u0 v u t X0 → ∃ N O s, Shx kn nt k1 u0 v u t N (rbd N) O O s ∧ f_Model_errorOf z u sp k1 (nI t) = if O = 24 then some (4, u) else some (0, pu (pu (pu (pu u (k1 + 17) O (nI a1)) (k1 + 20) O (-1)) (k1 + 21) O (-1)) k1 20 (nI (O + 1))) := fun u hu => by
    obtain ⟨N, n, O, Om, s, h1, rfl, rfl⟩ := hu
    exact ⟨N, O, s, h1, kw_err (by omega) ha (by rw [h1.2.2.1.2 t l3, hk, hkm]) h1.2.2.2.1.2.2 h1.2.2.2.1.2.1 hk1⟩
  by_cases hf : v 13 4 < 24
  · have hKB : KB v t = Nx v (t + 1) := by unfold KB; rw [if_pos hf]
    refine OutL.one hA' ht rfl (eat_y l4 (by omega) (by rw [l7 t l3, hk, hkm])) (FRl.of fun p hp => hne p (by omega) (by omega)) (by show (KW v t (nI a1)) 12 6 = _; rw [h12]; exact KB_6) hcb rfl (Or.inl ⟨by show (KW v t (nI a1)) 12 7 = _; rw [h12, hKB]; exact Nx_7, by show (KW v t (nI a1)) 12 8 = _; rw [h12, hKB]; exact Nx_8, fun h0 u hu => ?_⟩)
    obtain ⟨N, O, s, h1, he⟩ := herr u hu
    have hO := h1.2.2.2.1.1
    have hO4 := h1.2.2.2.1.2.1
    have hO24 : O < 24 := by
      rw [hO, show (24 : Int32) = nI 24 from rfl, lt_n (by omega) (by omega)] at hf; exact hf
    rw [if_neg (by omega)] at he
    have hv31 : (KW v t (nI a1)) 31 = upd (v 31) O (nI a1) := by unfold KW; rw [up_eq, hO, rs hO24 (by omega)]
    have hu4 : ∀ p, p ≠ k1 → p ≠ k1 + 17 → p ≠ k1 + 20 → p ≠ k1 + 21 → (pu (pu (pu (pu u (k1 + 17) O (nI a1)) (k1 + 20) O (-1)) (k1 + 21) O (-1)) k1 20 (nI (O + 1))) p = u p := fun p q1 q2 q3 q4 => by unfold pu; rw [up_ne q1, up_ne q4, up_ne q3, up_ne q2]
    have eu17 : (pu (pu (pu (pu u (k1 + 17) O (nI a1)) (k1 + 20) O (-1)) (k1 + 21) O (-1)) k1 20 (nI (O + 1))) (k1 + 17) = upd (u (k1 + 17)) O (nI a1) := by unfold pu; rw [up_ne (by omega), up_ne (by omega), up_ne (by omega), up_eq]
    have eu20 : (pu (pu (pu (pu u (k1 + 17) O (nI a1)) (k1 + 20) O (-1)) (k1 + 21) O (-1)) k1 20 (nI (O + 1))) (k1 + 20) = upd (u (k1 + 20)) O (-1) := by unfold pu; rw [up_ne (by omega), up_ne (by omega), up_eq, up_ne (by omega)]
    have eu21 : (pu (pu (pu (pu u (k1 + 17) O (nI a1)) (k1 + 20) O (-1)) (k1 + 21) O (-1)) k1 20 (nI (O + 1))) (k1 + 21) = upd (u (k1 + 21)) O (-1) := by unfold pu; rw [up_ne (by omega), up_eq, up_ne (by omega), up_ne (by omega)]
    have eu1 : (pu (pu (pu (pu u (k1 + 17) O (nI a1)) (k1 + 20) O (-1)) (k1 + 21) O (-1)) k1 20 (nI (O + 1))) k1 = upd (u k1) 20 (nI (O + 1)) := by unfold pu; rw [up_eq, up_ne (by omega), up_ne (by omega), up_ne (by omega)]
    refine ⟨_, he, N, O, s, h1.cur (fun p q1 q2 => hne p q1 (by omega)) (fun p q1 q2 o ho => ?_) (fun p q1 q2 q3 => hu4 p q1 (by omega) (by omega) (by omega)) (fun p q1 q2 o ho => ?_) (fun q hq => by rw [eu1, upd_ne hq]) (by rw [eu1, upd_eq]) (fun i _ => by rw [hu4 _ (by omega) (by omega) (by omega) (by omega)]) (by omega) hk1, hO24, hO, ?_, ?_, ?_⟩
    · by_cases q : p = 31
      · subst q
        show (KW v t (nI a1)) 31 o = _
        rw [hv31, upd_ne (by omega)]
      · show (KW v t (nI a1)) p o = _
        rw [hne p (by omega) q]
    · by_cases q17 : p = 17
      · subst q17; rw [eu17, upd_ne (by omega)]
      · by_cases q20 : p = 20
        · subst q20; rw [eu20, upd_ne (by omega)]
        · by_cases q21 : p = 21
          · subst q21; rw [eu21, upd_ne (by omega)]
          · rw [hu4 _ (by omega) (by omega) (by omega) (by omega)]
    · show (KW v t (nI a1)) 31 O = _
      rw [hv31, eu17, upd_eq, upd_eq]
    · rw [eu17, upd_eq]
    · rw [eu21, upd_eq]
  · refine OutL.one hA' ht rfl (eat_y l4 (by omega) (by rw [l7 t l3, hk, hkm])) (FRl.of fun p hp => hne p (by omega) (by omega)) (by show (KW v t (nI a1)) 12 6 = _; rw [h12]; exact KB_6) hcb rfl (Or.inr ⟨4, by decide, by decide, fun h0 => ?_, fun h0 => ?_, fun h0 u hu => ?_⟩)
    · have hKB : KB v t = Nx (Bl v 4 t) (t + 1) := by unfold KB; rw [if_neg hf, if_pos h0]
      simp only [id]
      rw [h12, hKB, Nx_7, Nx_8]
      exact ⟨Bl_7, Bl_8⟩
    · have hKB : KB v t = Nx v (t + 1) := by unfold KB; rw [if_neg hf, if_neg h0]
      simp only [id]
      rw [h12, hKB, Nx_7, Nx_8]
      exact ⟨rfl, rfl⟩
    · obtain ⟨N, O, s, h1, he⟩ := herr u hu
      have hO := h1.2.2.2.1.1
      have hO4 := h1.2.2.2.1.2.1
      have hO24 : O = 24 := by
        rw [hO, show (24 : Int32) = nI 24 from rfl, lt_n (by omega) (by omega)] at hf; omega
      rw [if_pos hO24] at he
      exact ⟨_, he⟩
end
