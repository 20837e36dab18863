/-! THE BEGINNING OF A LIST -/
def RB (v : Va) : Va := pu (pu (pu (pu (pu (pu (pu (pu (pu v 12 6 0) 12 7 0) 12 8 0) 49 2 0) 52 2 0) 55 2 0) 58 2 0) 13 4 0) 42 0 0
section
variable {kn : Nat → Nat} {nt k1 : Nat} {u0 v u : Va}
theorem begin_c : f_Reader_begin v = some (RB v) := rfl
theorem RB_ne {p : Nat} (h : p < 12 ∨ 60 < p) : (RB v) p = v p := by
  unfold RB pu
  rw [up_ne (by omega), up_ne (by omega), up_ne (by omega), up_ne (by omega), up_ne (by omega), up_ne (by omega), up_ne (by omega), up_ne (by omega), up_ne (by omega)]
theorem RB_12 : (RB v) 12 6 = 0 ∧ (RB v) 12 7 = 0 ∧ (RB v) 12 8 = 0 := by
  unfold RB pu
  simp (disch := omega) only [up_ne, up_eq, upd_ne, upd_eq]
  exact ⟨trivial, trivial, trivial⟩
theorem RB_0 : (RB v) 49 2 = 0 ∧ (RB v) 52 2 = 0 ∧ (RB v) 55 2 = 0 ∧ (RB v) 58 2 = 0 ∧ (RB v) 13 4 = 0 ∧ (RB v) 42 0 = 0 ∧ (RB v) 49 1 = v 49 1 ∧ (RB v) 52 1 = v 52 1 ∧ (RB v) 55 1 = v 55 1 ∧ (RB v) 58 1 = v 58 1 := by
  unfold RB pu
  simp (disch := omega) only [up_ne, up_eq, upd_ne, upd_eq]
  exact ⟨trivial, trivial, trivial, trivial, trivial, trivial, trivial, trivial, trivial, trivial⟩
theorem cb_rb (h : v 49 1 = 4 ∧ v 52 1 = 4 ∧ v 55 1 = 6 ∧ v 58 1 = 10) : CB (RB v) := by
  obtain ⟨r1, r2, r3, r4, r5, r6, r7, r8, r9, r10⟩ := RB_0 (v := v)
  exact ⟨⟨0, by omega, r1⟩, ⟨0, by omega, r2⟩, ⟨0, by omega, r3⟩, ⟨0, by omega, r4⟩, ⟨0, r5⟩, r7.trans h.1, r8.trans h.2.1, r9.trans h.2.2.1, r10.trans h.2.2.2⟩
theorem rbd_0z (j : Nat) : rbd (fun _ => 0) j = 0 := by
  unfold rbd
  by_cases h0 : j = 0
  · rw [if_pos h0]
  rw [if_neg h0]
  by_cases h2 : j ≤ 2
  · rw [if_pos h2]
  rw [if_neg h2]
  by_cases h4 : j ≤ 4
  · rw [if_pos h4]
  rw [if_neg h4]
  by_cases h7 : j ≤ 7
  · rw [if_pos h7]
  rw [if_neg h7]
theorem sx_rb (hE : EK kn nt k1 u0 u) (hu : u k1 4 = 0 ∧ u k1 7 = 0 ∧ u k1 11 = 0 ∧ u k1 15 = 0 ∧ u k1 20 = 0) : SX kn nt k1 u0 (RB v) u 0 X0 := by
  obtain ⟨r1, r2, r3, r4, r5, r6, -⟩ := RB_0 (v := v)
  refine ⟨fun _ => 0, rbd (fun _ => 0), 0, 0, 0, ⟨⟨r6, Nat.le_refl _⟩, fun i hi => ?_, hE, ⟨r5, by omega, hu.2.2.2.2⟩, fun j hj i hi => ?_, fun o ho => by omega⟩, rfl, rfl⟩
  · have : i = 0 ∨ i = 1 ∨ i = 2 ∨ i = 3 := by omega
    rcases this with rfl | rfl | rfl | rfl
    · exact ⟨r1, Nat.zero_le _, hu.1, fun q hq => absurd hq (Nat.not_lt_zero q)⟩
    · exact ⟨r2, Nat.zero_le _, hu.2.1, fun q hq => absurd hq (Nat.not_lt_zero q)⟩
    · exact ⟨r3, Nat.zero_le _, hu.2.2.1, fun q hq => absurd hq (Nat.not_lt_zero q)⟩
    · exact ⟨r4, Nat.zero_le _, hu.2.2.2.1, fun q hq => absurd hq (Nat.not_lt_zero q)⟩
  · rw [rbd_0z] at hi; omega
end
