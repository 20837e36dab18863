/-! THE OBJECT that list makes -/
section SM
def sq7 (a0 a1 a2 a3 a4 a5 a6 : Nat) : Nat → Nat
  | 0 => a0 | 1 => a1 | 2 => a2 | 3 => a3 | 4 => a4 | 5 => a5 | _ => a6
def sqB (b1 b2 b3 b4 b5 : Nat → Nat) : Nat → Nat → Nat
  | 1 => b1 | 2 => b2 | 3 => b3 | 4 => b4 | _ => b5
/-- which cells of ints a Sim has, and where -/
def smI (pN : Nat → Nat) (j i : Nat) : Prop := (j = 0 ∧ i = 0) ∨ (1 ≤ j ∧ j ≤ 5 ∧ i < pN j) ∨ (j = 6 ∧ i = 0)
def smP (pA : Nat → Nat) (pB : Nat → Nat → Nat) (j i : Nat) : Nat := if j = 0 ∨ j = 6 then pA j else pB j i
/-- they are apart -/
def APT (pA : Nat → Nat) (pB : Nat → Nat → Nat) (pN : Nat → Nat) (r : Nat) : Prop := (∀ j i j1 i1, smI pN j i → smI pN j1 i1 → smP pA pB j i = smP pA pB j1 i1 → j = j1 ∧ i = i1) ∧ ∀ j i, smI pN j i → r ≠ smP pA pB j i
def SMV (v : Va) (r : Nat) (pA : Nat → Nat) (pB : Nat → Nat → Nat) (L0 : Nat) (xs : Nat → Int32) : Prop := v r 0 = 0 ∧ v r 1 = 3 ∧ v (pA 0) = loG L0 xs (liL L0 xs) ∧ v (pA 6) = (fun _ => 0) ∧ (∀ i, i < liG L0 xs → v (pB 1 i) = guG L0 xs i) ∧ (∀ i, i < liM L0 xs → v (pB 2 i) = meG L0 xs i) ∧ (∀ i, i < liM L0 xs → v (pB 3 i) = fun _ => 0) ∧ (∀ i, i < liT L0 xs → v (pB 4 i) = ltG (liL L0 xs) (liM L0 xs) L0 xs i) ∧ ∀ i, i < liO L0 xs → v (pB 5 i) = orG (liG L0 xs) (liM L0 xs) (liT L0 xs) L0 xs i
theorem LIS.sim {sh : Sh} {v : Va} {nb L0 r : Nat} {xs : Nat → Int32} {P : Pfn} (hS : SN nb sh v P) (h : LIS L0 xs r P) : ∃ (pA : Nat → Nat) (pB : Nat → Nat → Nat), isSim sh r pA pB (sq7 (liL L0 xs) (liG L0 xs) (liM L0 xs) (liM L0 xs) (liT L0 xs) (liO L0 xs) 0) ∧ SMV v r pA pB L0 xs ∧ APT pA pB (sq7 (liL L0 xs) (liG L0 xs) (liM L0 xs) (liM L0 xs) (liT L0 xs) (liO L0 xs) 0) r := by
  obtain ⟨pl, pg, pm, po, pt, pr, pd, gb, mb, tb, rb, gk, gg, gm, gt, gr, h1, h2, h3, h4, h5, h6, h7, h8, h9, h10, h11, h12, h13, h14, h15, h16, h17, h18, h19, h20, h21, h22⟩ := h
  have s := fun q e g hq => (hS q e g hq).1
  have t := fun q e g hq => (hS q e g hq).2.1
  refine ⟨sq7 pl pg pm po pt pr pd, sqB gb mb (fun i => po + 1 + i) tb rb, ⟨s _ _ _ h1, s _ _ _ h4, ⟨s _ _ _ h6, fun i hi => s _ _ _ (h11 i hi).1⟩, ⟨s _ _ _ h7, fun i hi => s _ _ _ (h12 i hi).1⟩, ⟨s _ _ _ h8, fun i hi => s _ _ _ (h13 i hi)⟩, ⟨s _ _ _ h9, fun i hi => s _ _ _ (h14 i hi).1⟩, ⟨s _ _ _ h10, fun i hi => s _ _ _ (h15 i hi).1⟩, s _ _ _ h5⟩, ⟨by rw [t _ _ _ h1]; exact h2, by rw [t _ _ _ h1]; exact h3, t _ _ _ h4, t _ _ _ h5, fun i hi => t _ _ _ (h11 i hi).1, fun i hi => t _ _ _ (h12 i hi).1, fun i hi => t _ _ _ (h13 i hi), fun i hi => t _ _ _ (h14 i hi).1, fun i hi => t _ _ _ (h15 i hi).1⟩, ?_, ?_⟩
  · sorry
  · sorry
end SM
