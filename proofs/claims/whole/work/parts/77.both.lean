/-! A LIST, READ ON BOTH SIDES -/
section
variable {kn : Nat → Nat} {nt k1 sp z O Om s t : Nat} {u0 v us u u1 : Va} {N n : Nat → Nat}
theorem Shx.other (h : Shx kn nt k1 u0 v u t N n O Om s) (hu : ∀ p, p ≠ 149 → u1 p = u p) (hk1 : 194 ≤ k1) : Shx kn nt k1 u0 v u1 t N n O Om s := by
  obtain ⟨h1, h2, h3, h4, h5, h6⟩ := h
  refine ⟨h1, fun i hi => (h2 i hi).fr rfl rfl rfl (hu _ (by omega)) (hu _ (by omega)), ⟨?_, ?_⟩, ?_, fun j hj i hi => ?_, fun o ho => ?_⟩
  · rw [hu _ (by omega), hu _ (by omega), hu _ (by omega)]; exact h3.1
  · rw [hu _ (by omega)]; exact h3.2
  · rw [hu _ (by omega)]; exact h4
  · rw [hu _ (by omega)]; exact h5 j hj i hi
  · exact (h6 o ho).fr (fun _ _ => rfl) (fun _ _ => ⟨rfl, rfl, rfl⟩) (fun p _ _ => by rw [hu _ (by omega)]) (fun i _ => by rw [hu _ (by omega)]) (Nat.le_refl _) (Nat.le_refl _) (Nat.le_refl _) (Nat.le_refl _) (Nat.le_refl _)
theorem read_all (G : GH kn nt k1 z) (hK : KD kn nt k1 u0) (hA : ALL kn nt k1 sp z u0 v us 0) (hS : SX kn nt k1 u0 v us 0 X0) (h7 : v 12 7 = 0) :
    ∃ (a : Int32 × Va) (b : Bool) (us' : Va), rp (b_Reader_read_6 z) z (0, v) = some a ∧ f_Model_isList z us sp k1 = some (b, us') ∧ FRl v a.2 ∧ FS us us' ∧ a.1 = a.2 12 7 ∧
      ((b = false ∧ a.1 = 1 ∧ ∃ t', t' ≤ nt ∧ a.2 12 8 = nI t' ∧ us' 149 4 = nI t') ∨
       (b = true ∧ us' 149 4 = nI nt ∧ ∃ e k u3, fold2 z sp k1 nt 0 us' = some (e, k, u3) ∧ (((¬ e = 0) ∧ a.1 = e ∧ a.2 12 8 = nI k) ∨ (e = 0 ∧ a.1 = 0 ∧ ∃ w, SX kn nt k1 u0 w u3 nt X0 ∧ a.2 = E4 w)))) := by
  have g1 := G.1
  have g6 := G.2.2.2.2.2
  obtain ⟨a, b, us', t', a1, a2, a3, a4, a5, a6, a7, a8, a9⟩ := li_list (sp := sp) G hK z z 0 0 v us (by omega) (by omega) (by omega) hA
  have hr : a.1 = a.2 12 7 := rk_read _ _ a a1
  refine ⟨a, b, us', a1, a2, a3, a4, hr, ?_⟩
  cases b with
  | false =>
    obtain ⟨q1, q2⟩ := a8 rfl
    exact Or.inl ⟨rfl, by rw [hr]; exact q1, t', a7, q2, a5⟩
  | true =>
    obtain ⟨x0, -, -, -, -, -, x5⟩ := a9 rfl
    subst x0
    obtain ⟨N, n, O, Om, s, hs1, hs2⟩ := hS
    obtain ⟨e, k, u3, q1, q2, q3⟩ := x5 h7 us' ⟨N, n, O, Om, s, hs1.other a4.1 G.2.2.2.2.1, hs2⟩
    refine Or.inr ⟨rfl, a5, e, k, u3, q1, ?_⟩
    by_cases he : e = 0
    · obtain ⟨p1, w, p2, p3⟩ := q3 he
      exact Or.inr ⟨he, by rw [hr]; exact p1, w, p2, by rw [p3]⟩
    · obtain ⟨p1, p2⟩ := q2 he
      exact Or.inl ⟨he, by rw [hr]; exact p1, p2⟩
end
