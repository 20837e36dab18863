/-! LINES: an order's sum, its test, its end -/
/-- an order is told to its end -/
def fin (oi : Int32) (w : Va) : Va := pu (up w 41 (row_s 24 (w 41) oi (w 42 0))) 13 4 ((up w 41 (row_s 24 (w 41) oi (w 42 0))) 13 4 + 1)
section
variable {α β : Type} {pa : α → Va} {kn : Nat → Nat} {nt k1 sp z : Nat} {u0 v v1 u u1 us us1 vo : Va} {t t1 O Om Om' s a1 : Nat} {N n : Nat → Nat} {P : Va → Prop} {D : Nat → Prop} {Q : Va → Va → Nat → Prop} {c : List Ste} {oi : Int32}
def SMp (k1 : Nat) (u0 v u : Va) (N : Nat → Nat) (O f s t : Nat) : Prop := u (k1 + 17) O = 0 ∨ ∃ a b, b ≤ t ∧ u (k1 + 20) O = nI a ∧ EvI 3 35 (u0 (k1 + 1)) (u (k1 + 4)) (N 2) (N 3) a b (segD v f (s - f))
def Y4a (k1 a1 : Nat) (u0 v u : Va) (N : Nat → Nat) (O s t : Nat) : Prop := Y3 k1 a1 v u N O s t ∧ ∃ f, f ≤ s ∧ v 37 O = nI f ∧ SMp k1 u0 v u N O f s t
def Y4 (k1 a1 : Nat) (u0 v u : Va) (N : Nat → Nat) (O s t : Nat) : Prop := Y3 k1 a1 v u N O s t ∧ ∃ f, f ≤ s ∧ v 37 O = nI f ∧ v 39 O = nI s ∧ SMp k1 u0 v u N O f s t
theorem fin_ne {p : Nat} (h : p ≠ 13 ∧ p ≠ 41) : (fin oi v) p = v p := by unfold fin pu; rw [up_ne h.1, up_ne h.2]
theorem fin_41 : (fin oi v) 41 = row_s 24 (v 41) oi (v 42 0) := by unfold fin pu; rw [up_ne (by omega), up_eq]
theorem fin_13 : (fin oi v) 13 4 = v 13 4 + 1 := by unfold fin pu; rw [up_eq, upd_eq, up_ne (by omega)]
theorem fin_ok : (fin oi v) 12 = v 12 ∧ FRl v (fin oi v) ∧ (CB v → CB (fin oi v)) := by
  refine ⟨fin_ne (by omega), FRl.of fun p hp => fin_ne (by omega), fun hc => ?_⟩
  obtain ⟨c1, c2, c3, c4, c5, c6⟩ := hc
  unfold CB
  rw [fin_ne (p := 49) (by omega), fin_ne (p := 52) (by omega), fin_ne (p := 55) (by omega), fin_ne (p := 58) (by omega)]
  exact ⟨c1, c2, c3, c4, ⟨_, rfl⟩, c6⟩
theorem j202 (h : vo 13 4 = oi) : j_Reader_orderLine_202 vo v = some (fin oi v) := by
  unfold j_Reader_orderLine_202
  rw [h]
  rfl
/-- the sum of an order -/
theorem OutL.sum {Y : Va → Va → (Nat → Nat) → Nat → Nat → Nat → Prop} (G : GH kn nt k1 z) (hK : KD kn nt k1 u0) (hA : ALL kn nt k1 sp z u0 v us (t + 1)) (hp : kn t = 17)
    (hY : ∀ v1 u1 N O s, Y v1 u1 N O s (t + 1) → Y3 k1 a1 v1 u1 N O s (t + 1) ∧ v1 37 O = nI s ∧ u1 (k1 + 20) O = nI (t + 1)) :
    OutL id kn nt k1 sp z v us (t + 1) (g_Reader z 48 5 [0] v) (g_Syn z sp k1 48 3 [] us) (fun u => OA kn nt k1 u0 v u (t + 1) oi Y) (fun t' => t + 1 < t') (fun a u t' => OA kn nt k1 u0 a u t' oi (Y4a k1 a1 u0)) := by
  have hk1 := G.2.2.2.2.1
  have hpx := (px_all (sp := sp) (u0 := u0) G hK 8 0 (by omega) rfl).2.1 48 48 t v us (by omega) (by omega) (by rw [hp]; exact ⟨by omega, by omega, by omega, by omega, by omega, by omega⟩) hA.1
  refine Out.toL hA hpx (fun u h => ?_) (fun v' u2 u3 t' M L s c hP hS hF hN hSt hl h1 h2 hC => ?_)
  · obtain ⟨N, O, s, h1, -⟩ := h
    exact ⟨_, _, _, h1.se⟩
  · obtain ⟨N, O, s', h1', hO24, hoi, hy⟩ := hP
    obtain ⟨hY3, h37, h20⟩ := hY _ _ _ _ _ hy
    have hn : ∀ x y : Nat, x ≤ 4000 → y ≤ 4000 → nI x = nI y → x = y := fun x y hx hy q => by rw [eq_n hx hy] at q; exact q
    have g1 := G.1
    have hs1 := h1'.1.2
    have hs2 := hS.2.1
    have l3 := hA.1.2.2.1
    have es : s' = s := hn _ _ (by omega) (by omega) (h1'.1.1.symm.trans hS.1)
    have eM : N 2 = M := hn _ _ (by have := (h1'.2.1 2 (by omega)).2.1; have := nm_lt (i := 2) (by omega); omega) (by have := hS.2.2.1.2.1; omega) ((h1'.2.1 2 (by omega)).1.symm.trans hS.2.2.1.1)
    have eL : N 3 = L := hn _ _ (by have := (h1'.2.1 3 (by omega)).2.1; have := nm_lt (i := 3) (by omega); omega) (by have := hS.2.2.2.1.2.1; omega) ((h1'.2.1 3 (by omega)).1.symm.trans hS.2.2.2.1.1)
    subst es
    rw [if_neg (by decide)] at hC
    have hv : ∀ p, 31 ≤ p → p ≤ 41 → v' p = v p := fun p q1 q2 => hF p (by omega) (by omega) (by omega) (by omega) (by omega)
    have hu := hN.1
    refine ⟨N, O, s' + c.length, h1'.par hF hN hSt hl h1 hk1, hO24, hoi, hY3.fr ⟨by rw [hv 31 (by omega) (by omega)], by rw [hv 33 (by omega) (by omega)], by rw [hv 35 (by omega) (by omega)]⟩ ⟨by rw [hu _ (by omega)], by rw [hu _ (by omega)], by rw [hu _ (by omega)], by rw [hu _ (by omega)]⟩, s', by omega, by rw [hv 37 (by omega) (by omega)]; exact h37, Or.inr ⟨t + 1, t', Nat.le_refl _, by rw [hu _ (by omega)]; exact h20, ?_⟩⟩
    rw [eM, eL, Nat.add_sub_cancel_left, hSt.2.2]
    exact hC
/-- an order ends -/
theorem OA.done {g : Nat} (hO : v 13 4 = nI O) (h : Shx kn nt k1 u0 v u t N (rbd N) O (O + 1) s) (hO24 : O < 24) (hoi : oi = nI O) (hY : (v 31 O = u (k1 + 17) O ∧ u (k1 + 17) O = nI a1) ∧ (v 33 O = u (k1 + 18) O ∧ ∃ i, i < (if a1 = 2 then N 2 else N 3) ∧ u (k1 + 18) O = nI i) ∧ v 35 O = u (k1 + 19) O ∧ ∃ j, j < (if a1 = 0 then N 1 else N 2) ∧ u (k1 + 19) O = nI j) (ha : a1 < 3) (f : Nat) (hf : f ≤ g) (hg : g ≤ s) (h37 : v 37 O = nI f) (h39 : v 39 O = nI g) (hS : SMp k1 u0 v u N O f g t)
    (hT : (u (k1 + 21) O = -1 ∧ g = s) ∨ ∃ a b, b ≤ t ∧ u (k1 + 21) O = nI a ∧ EvB 0 38 (u0 (k1 + 1)) (u (k1 + 4)) (N 2) (N 3) a b (segD v g (s - g))) : SX kn nt k1 u0 (fin oi v) u t X0 := by
  have h' := h
  obtain ⟨h1, h2, h3, h4, h5, h6⟩ := h
  have e41 : (fin oi v) 41 = upd (v 41) O (nI s) := by rw [fin_41, hoi, rs hO24 (by omega), h1.1]
  have hne : ∀ p, p ≠ 13 → p ≠ 41 → (fin oi v) p = v p := fun p a b => fin_ne ⟨a, b⟩
  refine ⟨N, rbd N, O + 1, O + 1, s, ⟨by rw [hne 42 (by omega) (by omega)]; exact h1, fun i hi => (h2 i hi).fr (hne _ (by omega) (by omega)) (hne _ (by omega) (by omega)) (hne _ (by omega) (by omega)) rfl rfl, h3, ⟨by rw [fin_13, hO, ni_s], by omega, h4.2.2⟩, fun j hj i hi => by rw [hne _ (by omega) (by omega)]; exact h5 j hj i hi, fun o ho => ?_⟩, rfl, rfl⟩
  by_cases hoO : o < O
  · refine (h6 o hoO).fr (fun p hp => ?_) (fun i _ => by rw [hne 44 (by omega) (by omega), hne 46 (by omega) (by omega), hne 48 (by omega) (by omega)]; exact ⟨rfl, rfl, rfl⟩) (fun _ _ _ => rfl) (fun _ _ => rfl) (Nat.le_refl _) (Nat.le_refl _) (Nat.le_refl _) (Nat.le_refl _) (Nat.le_refl _)
    by_cases q : p = 41
    · subst q; rw [e41, upd_ne (by omega)]
    · rw [hne p (by omega) q]
  · obtain rfl : o = O := by omega
    obtain ⟨⟨y1, y2⟩, ⟨y4, i, y5, y6⟩, y7, j, y8, y9⟩ := hY
    refine ⟨by rw [hne 31 (by omega) (by omega)]; exact y1, by rw [hne 33 (by omega) (by omega)]; exact y4, by rw [hne 35 (by omega) (by omega)]; exact y7, ?_, f, g, s, hf, hg, Nat.le_refl _, by rw [hne 37 (by omega) (by omega)]; exact h37, by rw [hne 39 (by omega) (by omega)]; exact h39, by rw [e41, upd_eq], ?_, ?_⟩
    · rw [y2, y6, y9]
      have : a1 = 0 ∨ a1 = 1 ∨ a1 = 2 := by omega
      rcases this with rfl | rfl | rfl
      · exact Or.inl ⟨rfl, ⟨i, y5, rfl⟩, j, y8, rfl⟩
      · exact Or.inr (Or.inl ⟨rfl, ⟨i, y5, rfl⟩, j, y8, rfl⟩)
      · exact Or.inr (Or.inr ⟨rfl, ⟨i, y5, rfl⟩, j, y8, rfl⟩)
    · rw [segD_eq (v := v) (g - f) f (fun i _ _ => by rw [hne 44 (by omega) (by omega), hne 46 (by omega) (by omega), hne 48 (by omega) (by omega)]; exact ⟨rfl, rfl, rfl⟩)]
      exact hS
    · rw [segD_eq (v := v) (s - g) g (fun i _ _ => by rw [hne 44 (by omega) (by omega), hne 46 (by omega) (by omega), hne 48 (by omega) (by omega)]; exact ⟨rfl, rfl, rfl⟩)]
      exact hT
end
