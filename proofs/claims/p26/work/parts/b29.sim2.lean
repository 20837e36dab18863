/-! THE OBJECT that list makes -/
section SM
def sq7 (a0 a1 a2 a3 a4 a5 a6 : Nat) : Nat → Nat
  | 0 => a0 | 1 => a1 | 2 => a2 | 3 => a3 | 4 => a4 | 5 => a5 | _ => a6
def sqB (b1 b2 b3 b4 b5 : Nat → Nat) : Nat → Nat → Nat
  | 1 => b1 | 2 => b2 | 3 => b3 | 4 => b4 | _ => b5
/-- which cells of ints a Sim has, and where -/
def smI (pN : Nat → Nat) (j i : Nat) : Prop := (j = 0 ∧ i = 0) ∨ (1 ≤ j ∧ j ≤ 5 ∧ i < pN j) ∨ (j = 6 ∧ i = 0)
def smP (pA : Nat → Nat) (pB : Nat → Nat → Nat) (j i : Nat) : Nat := if j = 0 ∨ j = 6 then pA j else pB j i
/-- they are apart -/
def APT (pA : Nat → Nat) (pB : Nat → Nat → Nat) (pN : Nat → Nat) (r : Nat) : Prop := (∀ j i j1 i1, smI pN j i → smI pN j1 i1 → smP pA pB j i = smP pA pB j1 i1 → j = j1 ∧ i = i1) ∧ ∀ j i, smI pN j i → r ≠ smP pA pB j i
def SMV (v : Va) (r : Nat) (pA : Nat → Nat) (pB : Nat → Nat → Nat) (L0 : Nat) (xs : Nat → Int32) : Prop := v r 0 = 0 ∧ v r 1 = 3 ∧ v (pA 0) = loG L0 xs (liL L0 xs) ∧ v (pA 6) = (fun _ => 0) ∧ (∀ i, i < liG L0 xs → v (pB 1 i) = guG L0 xs i) ∧ (∀ i, i < liM L0 xs → v (pB 2 i) = meG L0 xs i) ∧ (∀ i, i < liM L0 xs → v (pB 3 i) = fun _ => 0) ∧ (∀ i, i < liT L0 xs → v (pB 4 i) = ltG (liL L0 xs) (liM L0 xs) L0 xs i) ∧ ∀ i, i < liO L0 xs → v (pB 5 i) = orG (liG L0 xs) (liM L0 xs) (liT L0 xs) L0 xs i
theorem rise_inj {N : Nat} {b : Nat → Nat} (h : ∀ i, i < N → ∀ j, j < i → b j < b i) {i i1 : Nat} (hi : i < N) (hi1 : i1 < N) (e : b i = b i1) : i = i1 := by
  rcases Nat.lt_trichotomy i i1 with h1 | h1 | h1
  · have := h i1 hi1 i h1; omega
  · exact h1
  · have := h i hi i1 h1; omega
theorem LIS.sim {sh : Sh} {v : Va} {nb L0 r : Nat} {xs : Nat → Int32} {P : Pfn} (hS : SN nb sh v P) (h : LIS L0 xs r P) : ∃ (pA : Nat → Nat) (pB : Nat → Nat → Nat), isSim sh r pA pB (sq7 (liL L0 xs) (liG L0 xs) (liM L0 xs) (liM L0 xs) (liT L0 xs) (liO L0 xs) 0) ∧ SMV v r pA pB L0 xs ∧ APT pA pB (sq7 (liL L0 xs) (liG L0 xs) (liM L0 xs) (liM L0 xs) (liT L0 xs) (liO L0 xs) 0) r := by
  obtain ⟨pl, pg, pm, po, pt, pr, pd, gb, mb, tb, rb, gk, gg, gm, gt, gr, h1, h2, h3, h4, h5, h6, h7, h8, h9, h10, h11, h12, h13, h14, h15, h16, h17, h18, h19, h20, h21, h22⟩ := h
  have s := fun q e g hq => (hS q e g hq).1
  have t := fun q e g hq => (hS q e g hq).2.1
  refine ⟨sq7 pl pg pm po pt pr pd, sqB gb mb (fun i => po + 1 + i) tb rb, ⟨s _ _ _ h1, s _ _ _ h4, ⟨s _ _ _ h6, fun i hi => s _ _ _ (h11 i hi).1⟩, ⟨s _ _ _ h7, fun i hi => s _ _ _ (h12 i hi).1⟩, ⟨s _ _ _ h8, fun i hi => s _ _ _ (h13 i hi)⟩, ⟨s _ _ _ h9, fun i hi => s _ _ _ (h14 i hi).1⟩, ⟨s _ _ _ h10, fun i hi => s _ _ _ (h15 i hi).1⟩, s _ _ _ h5⟩, ⟨by rw [t _ _ _ h1]; exact h2, by rw [t _ _ _ h1]; exact h3, t _ _ _ h4, t _ _ _ h5, fun i hi => t _ _ _ (h11 i hi).1, fun i hi => t _ _ _ (h12 i hi).1, fun i hi => t _ _ _ (h13 i hi), fun i hi => t _ _ _ (h14 i hi).1, fun i hi => t _ _ _ (h15 i hi).1⟩, ?_, ?_⟩
  all_goals
    have key : ∀ j i, smI (sq7 (liL L0 xs) (liG L0 xs) (liM L0 xs) (liM L0 xs) (liT L0 xs) (liO L0 xs) 0) j i → ∀ x, smP (sq7 pl pg pm po pt pr pd) (sqB gb mb (fun i => po + 1 + i) tb rb) j i = x → (j = 0 ∧ i = 0 ∧ x = pl) ∨ (j = 1 ∧ i < liG L0 xs ∧ x = gb i ∧ pg < x ∧ x < pm) ∨ (j = 2 ∧ i < liM L0 xs ∧ x = mb i ∧ pm < x ∧ x < pt) ∨ (j = 3 ∧ i < liM L0 xs ∧ x = po + 1 + i) ∨ (j = 4 ∧ i < liT L0 xs ∧ x = tb i ∧ pt < x ∧ x < pr) ∨ (j = 5 ∧ i < liO L0 xs ∧ x = rb i ∧ pr < x) ∨ (j = 6 ∧ i = 0 ∧ x = pd) := by
      intro j i hv x hx
      rcases hv with ⟨rfl, rfl⟩ | ⟨a, b, c⟩ | ⟨rfl, rfl⟩
      · exact Or.inl ⟨rfl, rfl, hx.symm⟩
      · have h5 : j = 1 ∨ j = 2 ∨ j = 3 ∨ j = 4 ∨ j = 5 := by omega
        rcases h5 with rfl | rfl | rfl | rfl | rfl
        · exact Or.inr (Or.inl ⟨rfl, c, hx.symm, by rw [← hx]; exact (h11 i c).2.1, by rw [← hx]; exact (h11 i c).2.2.1⟩)
        · exact Or.inr (Or.inr (Or.inl ⟨rfl, c, hx.symm, by rw [← hx]; exact (h12 i c).2.1, by rw [← hx]; exact (h12 i c).2.2.1⟩))
        · exact Or.inr (Or.inr (Or.inr (Or.inl ⟨rfl, c, hx.symm⟩)))
        · exact Or.inr (Or.inr (Or.inr (Or.inr (Or.inl ⟨rfl, c, hx.symm, by rw [← hx]; exact (h14 i c).2.1, by rw [← hx]; exact (h14 i c).2.2.1⟩))))
        · exact Or.inr (Or.inr (Or.inr (Or.inr (Or.inr (Or.inl ⟨rfl, c, hx.symm, by rw [← hx]; exact (h15 i c).2.1⟩)))))
      · exact Or.inr (Or.inr (Or.inr (Or.inr (Or.inr (Or.inr ⟨rfl, rfl, hx.symm⟩)))))
  · intro j i j1 i1 hv hv1 he
    have k1 := key j i hv _ he
    have k2 := key j1 i1 hv1 _ rfl
    generalize smP (sq7 pl pg pm po pt pr pd) (sqB gb mb (fun i => po + 1 + i) tb rb) j1 i1 = x at k1 k2
    rcases k1 with k1 | k1 | k1 | k1 | k1 | k1 | k1 <;> rcases k2 with k2 | k2 | k2 | k2 | k2 | k2 | k2 <;> first
      | omega
      | exact ⟨by omega, rise_inj (fun i hi => (h11 i hi).2.2.2) k1.2.1 k2.2.1 (by omega)⟩
      | exact ⟨by omega, rise_inj (fun i hi => (h12 i hi).2.2.2.1) k1.2.1 k2.2.1 (by omega)⟩
      | exact ⟨by omega, rise_inj (fun i hi => (h14 i hi).2.2.2) k1.2.1 k2.2.1 (by omega)⟩
      | exact ⟨by omega, rise_inj (fun i hi => (h15 i hi).2.2) k1.2.1 k2.2.1 (by omega)⟩
      | exact absurd (k1.2.2.1.symm.trans k2.2.2) ((h12 i k1.2.1).2.2.2.2.2 i1 k2.2.1)
      | exact absurd (k2.2.2.1.symm.trans k1.2.2) ((h12 i1 k2.2.1).2.2.2.2.2 i k1.2.1)
  · intro j i hv he
    have k1 := key j i hv _ he.symm
    rcases k1 with k1 | k1 | k1 | k1 | k1 | k1 | k1 <;> omega
end SM
