/-! LINES: an order's test and end -/
section
variable {α β : Type} {pa : α → Va} {kn : Nat → Nat} {nt k1 sp z : Nat} {u0 v v1 u u1 us us1 vo : Va} {t t1 O Om Om' s a1 : Nat} {N n : Nat → Nat} {P : Va → Prop} {D : Nat → Prop} {Q : Va → Va → Nat → Prop} {c : List Ste} {oi : Int32}
theorem may_no (h4 : us 149 4 = nI t) (ht : t ≤ 400) (hk : ¬ us (k1 + 1) t = 18) : f_Model_mayTest z us sp k1 = some (true, us) := by
  unfold f_Model_mayTest
  rw [eat_n h4 ht hk, ob, q_ff]
theorem may_yes (h4 : us 149 4 = nI t) (ht : t ≤ 400) (hk : us (k1 + 1) t = 18) : f_Model_mayTest z us sp k1 = sq (f_Model_eat us sp k1 18) fun u => g_Syn z sp k1 48 0 [] u := by
  unfold f_Model_mayTest
  rw [eat_y h4 ht hk, ob, q_tt, sq_t]
  exact sq_bind
def Tl (z : Nat) (oi : Int32) (v : Va) : Option Va := (f_Reader_seen v).bind fun q179 => if q179 = 18 then (bnd (pu v 12 6 ((v 12 6) + 1)) fun v194 => (g_Reader z 48 0 [0] v194).bind fun q199 => some (fin oi q199)) else some (fin oi v)
theorem OutL.tail (G : GH kn nt k1 z) (hK : KD kn nt k1 u0) (hA : ALL kn nt k1 sp z u0 v us t) (ha : a1 < 3) :
    OutL id kn nt k1 sp z v us t (Tl z oi v) (f_Model_mayTest z us sp k1) (fun u => OA kn nt k1 u0 v u t oi (Y4 k1 a1 u0)) (fun _ => True) (fun a u t' => SX kn nt k1 u0 a u t' X0) := by
  have hA' := hA
  obtain ⟨⟨l1, l2, l3, l4, l5, l6, l7, l8, l9, l10⟩, hc⟩ := hA
  have g1 := G.1
  have hk1 := G.2.2.2.2.1
  have hkn := G.2.1 t l3
  have hs := seen_c l1 l2 (by omega) (l6 t l3)
  by_cases h18 : kn t = 18
  · rw [may_yes l4 (by omega) (by rw [l7 t l3, h18]; rfl)]
    have hcls : Tl z oi v = (some (Nx v (t + 1))).bind fun w => (g_Reader z 48 0 [0] w).bind fun q199 => some (fin oi q199) := by
      unfold Tl
      rw [hs, ob, h18, if_pos (show nI 18 = 18 by decide), bd, next_c l1, ob]
    rw [hcls]
    refine (OutL.seq (D2 := fun _ => True) (A' := fun w => (g_Reader z 48 0 [0] w).bind fun q199 => some (fin oi q199)) (B' := fun u => g_Syn z sp k1 48 0 [] u) hk1 hA' (OutL.mark (oi := oi) (Y := Y4 k1 a1 u0) G hA' h18 (Or.inr ⟨rfl, rfl⟩)) (fun a us1 t1 hA1 _ hD1 => ?_) (fun a ha => ?_)).map (fun _ _ => trivial) (fun _ h => h) (fun _ _ _ _ _ _ h => h)
    · obtain ⟨rfl, hp⟩ := hD1
      have hpx := (px_all (sp := sp) (u0 := u0) G hK 8 0 (by omega) rfl).2.2.2 48 48 t a us1 (by omega) (by omega) (by rw [hp]; exact ⟨by omega, by omega, by omega, by omega, by omega, by omega⟩) hA1.1
      refine ((Out.toL (P := fun u => OA kn nt k1 u0 a u (t + 1) oi (fun v1 u1 N O s _ => ∃ u, Y4 k1 a1 u0 v u N O s t ∧ (∀ p, p ≠ 12 → v1 p = v p) ∧ u1 = pu u (k1 + 21) O (nI (t + 1)))) (Q := fun a u t' => SX kn nt k1 u0 (fin oi a) u t' X0) hA1 hpx (fun u h => ?_) (fun v' u2 u3 t' M L s c hP hS hF hN hSt hl h1 h2 hC => ?_)).post (pb := id) (Q' := fun a u t' => SX kn nt k1 u0 a u t' X0) (fun a => fin_ok) (fun a u t' _ _ _ hQ => hQ)).map (fun _ _ => trivial) (fun _ h => h) (fun _ _ _ _ _ _ h => h)
      · obtain ⟨N, O, s, h1, -⟩ := h
        exact ⟨_, _, _, h1.se⟩
      · obtain ⟨N, O, s', h1', hO24, hoi, u, ⟨hY3, f, hf, h37, h39, hsm⟩, hva, rfl⟩ := hP
        have hn : ∀ x y : Nat, x ≤ 4000 → y ≤ 4000 → nI x = nI y → x = y := fun x y hx hy q => by rw [eq_n hx hy] at q; exact q
        have hs1 := h1'.1.2
        have hs2 := hS.2.1
        have l3' := hA1.1.2.2.1
        have es : s' = s := hn _ _ (by omega) (by omega) (h1'.1.1.symm.trans hS.1)
        have eM : N 2 = M := hn _ _ (by have := (h1'.2.1 2 (by omega)).2.1; have := nm_lt (i := 2) (by omega); omega) (by have := hS.2.2.1.2.1; omega) ((h1'.2.1 2 (by omega)).1.symm.trans hS.2.2.1.1)
        have eL : N 3 = L := hn _ _ (by have := (h1'.2.1 3 (by omega)).2.1; have := nm_lt (i := 3) (by omega); omega) (by have := hS.2.2.2.1.2.1; omega) ((h1'.2.1 3 (by omega)).1.symm.trans hS.2.2.2.1.1)
        subst es
        rw [if_pos rfl] at hC
        have hv : ∀ p, 31 ≤ p → p ≤ 41 → v' p = v p := fun p q1 q2 => (hF p (by omega) (by omega) (by omega) (by omega) (by omega)).trans (hva p (by omega))
        have hu : ∀ p, p ≠ k1 + 4 → p ≠ k1 + 21 → u3 p = u p := fun p q1 q2 => by rw [hN.1 p q1]; unfold pu; rw [up_ne q2]
        have hu21 : u3 (k1 + 21) O = nI (t + 1) := by rw [hN.1 _ (by omega)]; unfold pu; rw [up_eq, upd_eq]
        have hu4 : ∀ i, i < t + 1 → u3 (k1 + 4) i = u (k1 + 4) i := fun i hi => by rw [hN.2 i (Or.inl hi)]; unfold pu; rw [up_ne (by omega)]
        have h13 : v' 13 4 = nI O := by rw [hF 13 (by omega) (by omega) (by omega) (by omega) (by omega)]; exact h1'.2.2.2.1.1
        have hst : ∀ i, i < s' → v' 44 i = v 44 i ∧ v' 46 i = v 46 i ∧ v' 48 i = v 48 i := fun i hi => by
          obtain ⟨q1, q2, q3⟩ := hSt.2.1 i hi
          rw [← hva 44 (by omega), ← hva 46 (by omega), ← hva 48 (by omega)]
          exact ⟨q1, q2, q3⟩
        obtain ⟨⟨⟨y1, y2, y3⟩, y4, i, y5, y6⟩, y7, j, y8, y9⟩ := hY3
        refine OA.done (a1 := a1) (g := s') h13 (h1'.par hF hN hSt hl h1 hk1) hO24 hoi ?_ ha f hf (Nat.le_add_right _ _) (by rw [hv 37 (by omega) (by omega)]; exact h37) (by rw [hv 39 (by omega) (by omega)]; exact h39) ?_ ?_
        · refine ⟨⟨by rw [hv 31 (by omega) (by omega), hu _ (by omega) (by omega)]; exact y1, by rw [hu _ (by omega) (by omega)]; exact y2⟩, ⟨by rw [hv 33 (by omega) (by omega), hu _ (by omega) (by omega)]; exact y4, i, y5, by rw [hu _ (by omega) (by omega)]; exact y6⟩, by rw [hv 35 (by omega) (by omega), hu _ (by omega) (by omega)]; exact y7, j, y8, by rw [hu _ (by omega) (by omega)]; exact y9⟩
        · refine hsm.imp (fun q => by rw [hu _ (by omega) (by omega)]; exact q) (fun ⟨a, b, b1, b2, b3⟩ => ⟨a, b, by omega, by rw [hu _ (by omega) (by omega)]; exact b2, ?_⟩)
          rw [segD_eq (v := v) (s' - f) f (fun i _ hi => hst i (by omega))]
          exact b3.le (fun i hi => hu4 i (by omega)) (Nat.le_refl _) (Nat.le_refl _)
        · refine Or.inr ⟨t + 1, t', Nat.le_refl _, hu21, ?_⟩
          rw [eM, eL, Nat.add_sub_cancel_left, hSt.2.2]
          exact hC
    · have hz := G.2.2.2.2.2
      obtain ⟨w, q1, q2, q3⟩ := (dead_T (n := 42) (d := 0) hz) a ha
      have q1' : g_Reader z 48 0 [0] a = some w := q1
      refine ⟨fin oi w, ?_, fin_ok.1.trans q2, (FRl.re q3).tr fin_ok.2.1⟩
      show (g_Reader z 48 0 [0] a).bind _ = _
      rw [q1', ob]
  · have hcls : Tl z oi v = some (fin oi v) := by
      unfold Tl
      rw [hs, ob, if_neg (by rw [show (18 : Int32) = nI 18 from rfl, eq_n (by omega) (by omega)]; exact h18)]
    have hcls2 : Tl z oi v = (some v).bind fun w => some (fin oi w) := hcls
    rw [hcls2, may_no l4 (by omega) (by rw [l7 t l3, show (18 : Int32) = nI (kmap 18) from rfl, kq hkn (by omega)]; exact h18)]
    refine (OutL.ret (pa := id) (a := v) (D := fun _ => True) (P := fun u => OA kn nt k1 u0 v u t oi (Y4 k1 a1 u0)) (Q := fun a u t' => OA kn nt k1 u0 a u t' oi (Y4 k1 a1 u0)) hA' rfl trivial (fun u h => h)).post (fun a => fin_ok) (fun a u t' _ _ _ hQ => ?_)
    obtain ⟨N, O, s, h1, hO24, hoi, hY3, f, hf, h37, h39, hsm⟩ := hQ
    exact OA.done (a1 := a1) (g := s) h1.2.2.2.1.1 h1 hO24 hoi ⟨⟨hY3.1.1.1, hY3.1.1.2.1⟩, hY3.1.2, hY3.2⟩ ha f hf (Nat.le_refl _) h37 h39 hsm (Or.inl ⟨hY3.1.1.2.2, rfl⟩)
end
