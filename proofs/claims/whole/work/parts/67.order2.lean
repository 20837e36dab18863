/-! LINES: an order's names, and the beginnings of its sum and its test -/
section
variable {α β : Type} {pa : α → Va} {kn : Nat → Nat} {nt k1 sp z : Nat} {u0 v v1 u u1 us us1 : Va} {t t1 O Om Om' s a1 : Nat} {N n : Nat → Nat} {P : Va → Prop} {D : Nat → Prop} {Q : Va → Va → Nat → Prop} {c : List Ste} {oi : Int32}
theorem Y1.fr {k1 : Nat} (h : Y1 k1 a1 v u N O s t) (hv : v1 31 O = v 31 O) (hu : u1 (k1 + 17) O = u (k1 + 17) O ∧ u1 (k1 + 21) O = u (k1 + 21) O) {s1 : Nat} : Y1 k1 a1 v1 u1 N O s1 t1 := by
  obtain ⟨h1, h2, h3⟩ := h
  exact ⟨by rw [hv, hu.1]; exact h1, by rw [hu.1]; exact h2, by rw [hu.2]; exact h3⟩
theorem Y2.fr {k1 : Nat} (h : Y2 k1 a1 v u N O s t) (hv : v1 31 O = v 31 O ∧ v1 33 O = v 33 O) (hu : u1 (k1 + 17) O = u (k1 + 17) O ∧ u1 (k1 + 21) O = u (k1 + 21) O ∧ u1 (k1 + 18) O = u (k1 + 18) O) {s1 : Nat} : Y2 k1 a1 v1 u1 N O s1 t1 := by
  obtain ⟨h1, h2, h3⟩ := h
  exact ⟨h1.fr hv.1 ⟨hu.1, hu.2.1⟩, by rw [hv.2, hu.2.2]; exact h2, by rw [hu.2.2]; exact h3⟩
theorem Y3.fr {k1 : Nat} (h : Y3 k1 a1 v u N O s t) (hv : v1 31 O = v 31 O ∧ v1 33 O = v 33 O ∧ v1 35 O = v 35 O) (hu : u1 (k1 + 17) O = u (k1 + 17) O ∧ u1 (k1 + 21) O = u (k1 + 21) O ∧ u1 (k1 + 18) O = u (k1 + 18) O ∧ u1 (k1 + 19) O = u (k1 + 19) O) {s1 : Nat} : Y3 k1 a1 v1 u1 N O s1 t1 := by
  obtain ⟨h1, h2, h3⟩ := h
  exact ⟨h1.fr ⟨hv.1, hv.2.1⟩ ⟨hu.1, hu.2.1, hu.2.2.1⟩, by rw [hv.2.2, hu.2.2.2]; exact h2, by rw [hu.2.2.2]; exact h3⟩
theorem OA.ek {Y : Va → Va → (Nat → Nat) → Nat → Nat → Nat → Prop} (h : OA kn nt k1 u0 v u t oi Y) : EK kn nt k1 u0 u := by
  obtain ⟨N, O, s, h1, -⟩ := h
  exact h1.2.2.1
/-- a name of an order was read: the sheet's side -/
theorem Shx.nm {r : Nat} {y : Int32} (h : Shx kn nt k1 u0 v u t N n O (O + 1) s) (hr : 17 ≤ r ∧ r ≤ 21) (hv : ∀ p, p ≠ 12 → (p < 31 ∨ 41 < p) → v1 p = v p) (hv' : ∀ p, 31 ≤ p → p ≤ 41 → ∀ o, o < O → v1 p o = v p o) (hk1 : 194 ≤ k1) : Shx kn nt k1 u0 v1 (pu (pu u (k1 + 4) t y) (k1 + r) O y) (t + 1) N n O (O + 1) s := by
  refine h.cur hv hv' (fun p q1 q2 q3 => by unfold pu; rw [up_ne (by omega), up_ne q2]) (fun p q1 q2 o ho => ?_) (fun q _ => by unfold pu; rw [up_ne (by omega), up_ne (by omega)]) (by unfold pu; rw [up_ne (by omega), up_ne (by omega)]; exact h.2.2.2.1.2.2) (fun i hi => by unfold pu; rw [up_ne (by omega), up_eq, upd_ne (by omega)]) (by omega) hk1
  by_cases q : p = r
  · subst q; unfold pu; rw [up_eq, upd_ne (by omega), up_ne (by omega)]
  · unfold pu; rw [up_ne (by omega), up_ne (by omega)]
theorem OutL.doer {k N' : Nat} (G : GH kn nt k1 z) (hA : ALL kn nt k1 sp z u0 v us (t + 1)) (hp : kn t = 12 + 2 * a1) (hx : a1 = 0 ∧ k = 58 ∧ N' = 10 ∨ a1 = 1 ∧ k = 58 ∧ N' = 10 ∨ a1 = 2 ∧ k = 55 ∧ N' = 6) :
    OutL id kn nt k1 sp z v us (t + 1) ((f_Reader_takeName z v k N').bind fun q => some (up q.2 33 (row_s 24 (q.2 33) oi q.1))) (f_Model_eat us sp k1 35) (fun u => OA kn nt k1 u0 v u (t + 1) oi (Y1 k1 a1)) (fun t' => t' = t + 2 ∧ kn (t + 1) = 47) (fun a u t' => OA kn nt k1 u0 a u t' oi (Y2 k1 a1)) := by
  have hk1 := G.2.2.2.2.1
  obtain ⟨i, hi, hk, hN', hif⟩ : ∃ i, (i = 2 ∨ i = 3) ∧ k = 49 + 3 * i ∧ N' = nmN i ∧ ∀ N : Nat → Nat, (if a1 = 2 then N 2 else N 3) = N i := by
    rcases hx with ⟨rfl, rfl, rfl⟩ | ⟨rfl, rfl, rfl⟩ | ⟨rfl, rfl, rfl⟩
    · exact ⟨3, Or.inr rfl, rfl, rfl, fun _ => rfl⟩
    · exact ⟨3, Or.inr rfl, rfl, rfl, fun _ => rfl⟩
    · exact ⟨2, Or.inl rfl, rfl, rfl, fun _ => rfl⟩
  have hi4 : i < 4 := by omega
  refine (OutL.name (x := 12 + 2 * a1) (k := k) (N := N') (rw' := 18) (ka := k1 + nmK i) (cc := nmC i) (cw := 20) (N' := 24) (P := fun u => OA kn nt k1 u0 v u (t + 1) oi (Y1 k1 a1)) G hA hp ?_ (fun u h => ?_)).post (fun a => wr_ok (by omega)) (fun a u t' h1 hnt hD hQ => ?_)
  · rcases hx with ⟨rfl, rfl, rfl⟩ | ⟨rfl, rfl, rfl⟩ | ⟨rfl, rfl, rfl⟩
    · obtain rfl : i = 3 := by omega
      exact Or.inr (Or.inr (Or.inl ⟨rfl, rfl, rfl, rfl, rfl, rfl, rfl, rfl⟩))
    · obtain rfl : i = 3 := by omega
      exact Or.inr (Or.inr (Or.inr (Or.inl ⟨rfl, rfl, rfl, rfl, rfl, rfl, rfl, rfl⟩)))
    · obtain rfl : i = 2 := by omega
      exact Or.inr (Or.inr (Or.inr (Or.inr (Or.inl ⟨rfl, rfl, rfl, rfl, rfl, rfl, rfl, rfl⟩))))
  · obtain ⟨N, O, s, h1, h2, h3, h4⟩ := h
    refine ⟨h1.2.2.1, ⟨N i, ?_⟩, O, h2, h1.2.2.2.1.2.2⟩
    rw [hk, hN']; exact h1.2.1 i hi4
  · obtain ⟨u2, m0, m, c, ⟨N, O, s, h1', hO24, hoi, hY⟩, hv2, hm0, hmm, hmN, hc, hcc, rfl, rfl⟩ := hQ
    have hO4 := h1'.2.2.2.1.2.1
    have hcO : c = O := by
      have := h1'.2.2.2.1.2.2
      rw [hcc, eq_n (by omega) (by omega)] at this
      omega
    subst hcO
    have nk := nm_lt hi4
    have hmi : m0 = N i := by
      have r := h1'.2.1 i hi4
      have := r.2.2.1
      rw [hm0, eq_n (by omega) (by have := r.2.1; omega)] at this
      exact this
    obtain ⟨rfl, h48⟩ := hD
    have e33 : (up (Nx v (t + 2)) 33 (row_s 24 ((Nx v (t + 2)) 33) oi (nI m))) 33 = upd (v 33) c (nI m) := by
      rw [up_eq, hoi, rs hO24 (by omega)]
      unfold Nx pu; rw [up_ne (by omega)]
    have ene : ∀ p, p ≠ 12 → p ≠ 33 → (up (Nx v (t + 2)) 33 (row_s 24 ((Nx v (t + 2)) 33) oi (nI m))) p = v p := fun p q1 q2 => by
      rw [up_ne q2]; unfold Nx pu; rw [up_ne q1]
    refine ⟨N, c, s, h1'.nm ⟨by omega, by omega⟩ (fun p q1 q2 => ene p q1 (by omega)) (fun p q1 q2 o ho => ?_) hk1, hO24, hoi, ?_, ?_, m, ?_, ?_⟩
    · by_cases q : p = 33
      · subst q; simp only [id]; rw [e33, upd_ne (by omega)]
      · simp only [id]; rw [ene p (by omega) q]
    · refine hY.fr (by simp only [id]; rw [ene 31 (by omega) (by omega)]) ⟨?_, ?_⟩
      · unfold pu; rw [up_ne (by omega), up_ne (by omega)]
      · unfold pu; rw [up_ne (by omega), up_ne (by omega)]
    · simp only [id]
      rw [e33, upd_eq]
      unfold pu; rw [up_eq, upd_eq]
    · rw [hif, ← hmi]; exact hmm
    · unfold pu; rw [up_eq, upd_eq]
/-- the other name, and where the sum begins -/
def wr2 (w : Va) (oi y : Int32) : Va := up (up w 35 (row_s 24 (w 35) oi y)) 37 (row_s 24 (w 37) oi (w 42 0))
def Y3s (k1 a1 : Nat) (v u : Va) (N : Nat → Nat) (O s t : Nat) : Prop := Y3 k1 a1 v u N O s t ∧ v 37 O = nI s
theorem OutL.other {x k N' : Nat} (G : GH kn nt k1 z) (hA : ALL kn nt k1 sp z u0 v us (t + 1)) (hp : kn t = x) (hx : a1 = 0 ∧ x = 13 ∧ k = 52 ∧ N' = 4 ∨ (a1 = 1 ∨ a1 = 2) ∧ x = 15 ∧ k = 55 ∧ N' = 6) :
    OutL id kn nt k1 sp z v us (t + 1) ((f_Reader_takeName z v k N').bind fun q => some (wr2 q.2 oi q.1)) (f_Model_eat us sp k1 35) (fun u => OA kn nt k1 u0 v u (t + 1) oi (Y2 k1 a1)) (fun t' => t' = t + 2 ∧ kn (t + 1) = 47) (fun a u t' => OA kn nt k1 u0 a u t' oi (Y3s k1 a1)) := by
  have hk1 := G.2.2.2.2.1
  obtain ⟨i, hi, hk, hN', hif⟩ : ∃ i, (i = 1 ∨ i = 2) ∧ k = 49 + 3 * i ∧ N' = nmN i ∧ ∀ N : Nat → Nat, (if a1 = 0 then N 1 else N 2) = N i := by
    rcases hx with ⟨rfl, rfl, rfl, rfl⟩ | ⟨q, rfl, rfl, rfl⟩
    · exact ⟨1, Or.inl rfl, rfl, rfl, fun _ => rfl⟩
    · exact ⟨2, Or.inr rfl, rfl, rfl, fun _ => if_neg (by omega)⟩
  have hi4 : i < 4 := by omega
  refine (OutL.name (x := x) (k := k) (N := N') (rw' := 19) (ka := k1 + nmK i) (cc := nmC i) (cw := 20) (N' := 24) (P := fun u => OA kn nt k1 u0 v u (t + 1) oi (Y2 k1 a1)) G hA hp ?_ (fun u h => ?_)).post (fun a => ?_) (fun a u t' h1 hnt hD hQ => ?_)
  · rcases hx with ⟨rfl, rfl, rfl, rfl⟩ | ⟨q, rfl, rfl, rfl⟩
    · obtain rfl : i = 1 := by omega
      exact Or.inr (Or.inr (Or.inr (Or.inr (Or.inr (Or.inl ⟨rfl, rfl, rfl, rfl, rfl, rfl, rfl, rfl⟩)))))
    · obtain rfl : i = 2 := by omega
      exact Or.inr (Or.inr (Or.inr (Or.inr (Or.inr (Or.inr ⟨rfl, rfl, rfl, rfl, rfl, rfl, rfl, rfl⟩)))))
  · obtain ⟨N, O, s, h1, h2, h3, h4⟩ := h
    refine ⟨h1.2.2.1, ⟨N i, ?_⟩, O, h2, h1.2.2.2.1.2.2⟩
    rw [hk, hN']; exact h1.2.1 i hi4
  · obtain ⟨w1, w2, w3⟩ := wr_ok (v := a.2) (p := 35) (f := row_s 24 (a.2 35) oi a.1) (by omega)
    obtain ⟨x1, x2, x3⟩ := wr_ok (v := up a.2 35 (row_s 24 (a.2 35) oi a.1)) (p := 37) (f := row_s 24 (a.2 37) oi (a.2 42 0)) (by omega)
    exact ⟨x1.trans w1, w2.tr x2, fun q => x3 (w3 q)⟩
  · obtain ⟨u2, m0, m, c, ⟨N, O, s, h1', hO24, hoi, hY⟩, hv2, hm0, hmm, hmN, hc, hcc, rfl, rfl⟩ := hQ
    have hO4 := h1'.2.2.2.1.2.1
    have hcO : c = O := by
      have := h1'.2.2.2.1.2.2
      rw [hcc, eq_n (by omega) (by omega)] at this
      omega
    subst hcO
    have nk := nm_lt hi4
    have hmi : m0 = N i := by
      have r := h1'.2.1 i hi4
      have := r.2.2.1
      rw [hm0, eq_n (by omega) (by have := r.2.1; omega)] at this
      exact this
    obtain ⟨rfl, h48⟩ := hD
    have enx : ∀ p, p ≠ 12 → (Nx v (t + 2)) p = v p := fun p q1 => by unfold Nx pu; rw [up_ne q1]
    have e35 : (wr2 (Nx v (t + 2)) oi (nI m)) 35 = upd (v 35) c (nI m) := by
      unfold wr2
      rw [up_ne (by omega), up_eq, hoi, rs hO24 (by omega), enx 35 (by omega)]
    have e37 : (wr2 (Nx v (t + 2)) oi (nI m)) 37 = upd (v 37) c (nI s) := by
      unfold wr2
      rw [up_eq, hoi, rs hO24 (by omega), enx 37 (by omega), enx 42 (by omega), h1'.1.1]
    have ene : ∀ p, p ≠ 12 → p ≠ 35 → p ≠ 37 → (wr2 (Nx v (t + 2)) oi (nI m)) p = v p := fun p q1 q2 q3 => by
      unfold wr2
      rw [up_ne q3, up_ne q2, enx p q1]
    refine ⟨N, c, s, h1'.nm ⟨by omega, by omega⟩ (fun p q1 q2 => ene p q1 (by omega) (by omega)) (fun p q1 q2 o ho => ?_) hk1, hO24, hoi, ⟨?_, ?_, m, ?_, ?_⟩, ?_⟩
    · by_cases q : p = 35
      · subst q; simp only [id]; rw [e35, upd_ne (by omega)]
      · by_cases q' : p = 37
        · subst q'; simp only [id]; rw [e37, upd_ne (by omega)]
        · simp only [id]; rw [ene p (by omega) q q']
    · refine hY.fr ⟨by simp only [id]; rw [ene 31 (by omega) (by omega) (by omega)], by simp only [id]; rw [ene 33 (by omega) (by omega) (by omega)]⟩ ⟨?_, ?_, ?_⟩
      · unfold pu; rw [up_ne (by omega), up_ne (by omega)]
      · unfold pu; rw [up_ne (by omega), up_ne (by omega)]
      · unfold pu; rw [up_ne (by omega), up_ne (by omega)]
    · simp only [id]
      rw [e35, upd_eq]
      unfold pu; rw [up_eq, upd_eq]
    · rw [hif, ← hmi]; exact hmm
    · unfold pu; rw [up_eq, upd_eq]
    · simp only [id]
      rw [e37, upd_eq]
/-- the tokens `for` and `when` -/
theorem mark_err {x r : Nat} (ht : t ≤ 400) (hk : u (k1 + 1) t = nI x) (hx : x = 17 ∧ r = 20 ∨ x = 18 ∧ r = 21) (hO : u k1 20 = nI (O + 1)) (hO2 : O < 24) (hk1 : 194 ≤ k1) : f_Model_errorOf z u sp k1 (nI t) = some (0, pu u (k1 + r) O (nI (t + 1))) := by
  unfold f_Model_errorOf
  rw [if_neg (gd2 (by omega) (by omega)), ni_c (by omega), hk, hO, ni_sub1, ni_c (by omega), ni_s]
  have g : ¬ (nI O < 0 ∨ 24 ≤ O) := by rw [gn (by omega) (by omega)]; exact id
  rcases hx with ⟨rfl, rfl⟩ | ⟨rfl, rfl⟩
  · rw [if_neg (show ¬ nI 17 = 12 by decide), if_neg (show ¬ nI 17 = 14 by decide), if_neg (show ¬ nI 17 = 16 by decide), if_pos (show nI 17 = 17 by decide), if_neg g]; rfl
  · rw [if_neg (show ¬ nI 18 = 12 by decide), if_neg (show ¬ nI 18 = 14 by decide), if_neg (show ¬ nI 18 = 16 by decide), if_neg (show ¬ nI 18 = 17 by decide), if_pos (show nI 18 = 18 by decide), if_neg g]; rfl
theorem OutL.mark {x r : Nat} {Y : Va → Va → (Nat → Nat) → Nat → Nat → Nat → Prop} (G : GH kn nt k1 z) (hA : ALL kn nt k1 sp z u0 v us t) (hk : kn t = x) (hx : x = 17 ∧ r = 20 ∨ x = 18 ∧ r = 21) :
    OutL id kn nt k1 sp z v us t (some (Nx v (t + 1))) (f_Model_eat us sp k1 (nI x)) (fun u => OA kn nt k1 u0 v u t oi Y) (fun t' => t' = t + 1 ∧ kn t = x) (fun a u3 t' => OA kn nt k1 u0 a u3 t' oi (fun v1 u1 N O s _ => ∃ u, Y v u N O s t ∧ (∀ p, p ≠ 12 → v1 p = v p) ∧ u1 = pu u (k1 + r) O (nI (t + 1)))) := by
  have hA' := hA
  obtain ⟨⟨l1, l2, l3, l4, l5, l6, l7, l8, l9, l10⟩, hc⟩ := hA
  have g1 := G.1
  have hk1 := G.2.2.2.2.1
  have ht := lt_of_kn G l3 (by omega)
  have hkm : kmap x = x := by rcases hx with ⟨rfl, -⟩ | ⟨rfl, -⟩ <;> rfl
  have enx : ∀ p, p ≠ 12 → (Nx v (t + 1)) p = v p := fun p q1 => by unfold Nx pu; rw [up_ne q1]
  refine OutL.one hA' ht rfl (eat_y l4 (by omega) (by rw [l7 t l3, hk, hkm])) (FRl.re FRe.nx) (Nx_6 (v := v)) (cb_nx (v := v) hc) ⟨rfl, hk⟩ (Or.inl ⟨Nx_7 (v := v), Nx_8 (v := v), fun h0 u hu => ?_⟩)
  obtain ⟨N, O, s, h1, hO24, hoi, hY⟩ := hu
  have hO := h1.2.2.2.1.2.2
  refine ⟨_, mark_err (by omega) (by rw [h1.2.2.1.2 t l3, hk, hkm]) hx hO hO24 hk1, N, O, s, ?_, hO24, hoi, u, hY, enx, rfl⟩
  refine h1.cur (fun p q1 _ => enx p q1) (fun p q1 q2 o _ => congrFun (enx p (by omega)) o) (fun p q1 q2 q3 => by unfold pu; rw [up_ne (by omega)]) (fun p q1 q2 o ho => ?_) (fun q _ => by unfold pu; rw [up_ne (by omega)]) (by unfold pu; rw [up_ne (by omega)]; exact hO) (fun i hi => by unfold pu; rw [up_ne (by omega)]) (by omega) hk1
  by_cases q : p = r
  · subst q; unfold pu; rw [up_eq, upd_ne (by omega)]
  · unfold pu; rw [up_ne (by omega)]
end
