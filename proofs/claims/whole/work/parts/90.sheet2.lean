/-! A NEW SHEET: its shape, its zeros -/
theorem upd_0 {f : Nat → Int32} {j : Nat} (h : f = fun _ => 0) : upd f j 0 = fun _ => 0 := by
  subst h
  exact funext fun q => by unfold upd; split <;> rfl
section
variable {u r : Sh × Va} {k : Nat}
theorem sheet_k (h0 : u.2 k = fun _ => 0) (h : K_Sheet u k = r) : isSheet r.1 k ∧ (∀ i, i < 22 → r.2 (k + i) = fun _ => 0) ∧ ∀ q, q < k → r.1 q = u.1 q ∧ r.2 q = u.2 q := by
  have hl : ∀ q, q < k → r.1 q = u.1 q ∧ r.2 q = u.2 q := fun q hq => low_Sheet h hq
  unfold K_Sheet at h
  obtain ⟨u8, e0, h⟩ := bnd_e h
  have a0 : ∀ q, q ≠ (k + 1) → u8.1 q = u.1 q := fun q hq => (low_kA e0 hq).1
  have b0 : ∀ q, q ≠ (k + 1) → u8.2 q = u.2 q := fun q hq => (low_kA e0 hq).2
  have c0 : u8.1 (k + 1) = some (sA 401) := by rw [← e0]; exact up_eq _ _ _
  have d0 : u8.2 (k + 1) = fun _ => 0 := by rw [← e0]; exact up_eq _ _ _
  have z0 : u8.2 k = fun _ => 0 := (b0 k (by omega)).trans h0
  obtain ⟨u10, e1, h⟩ := bnd_e h
  have a1 : ∀ q, q ≠ k → u10.1 q = u8.1 q := fun q hq => (low_kR e1 hq).1
  have b1 : ∀ q, q ≠ k → u10.2 q = u8.2 q := fun q hq => (low_kR e1 hq).2
  have z1 : u10.2 k = fun _ => 0 := by rw [← e1]; exact (up_eq _ _ _).trans (upd_0 z0)
  obtain ⟨u17, e2, h⟩ := bnd_e h
  have a2 : ∀ q, q ≠ (k + 2) → u17.1 q = u10.1 q := fun q hq => (low_kA e2 hq).1
  have b2 : ∀ q, q ≠ (k + 2) → u17.2 q = u10.2 q := fun q hq => (low_kA e2 hq).2
  have c2 : u17.1 (k + 2) = some (sA 401) := by rw [← e2]; exact up_eq _ _ _
  have d2 : u17.2 (k + 2) = fun _ => 0 := by rw [← e2]; exact up_eq _ _ _
  have z2 : u17.2 k = fun _ => 0 := (b2 k (by omega)).trans z1
  obtain ⟨u19, e3, h⟩ := bnd_e h
  have a3 : ∀ q, q ≠ k → u19.1 q = u17.1 q := fun q hq => (low_kR e3 hq).1
  have b3 : ∀ q, q ≠ k → u19.2 q = u17.2 q := fun q hq => (low_kR e3 hq).2
  have z3 : u19.2 k = fun _ => 0 := by rw [← e3]; exact (up_eq _ _ _).trans (upd_0 z2)
  obtain ⟨u26, e4, h⟩ := bnd_e h
  have a4 : ∀ q, q ≠ (k + 3) → u26.1 q = u19.1 q := fun q hq => (low_kA e4 hq).1
  have b4 : ∀ q, q ≠ (k + 3) → u26.2 q = u19.2 q := fun q hq => (low_kA e4 hq).2
  have c4 : u26.1 (k + 3) = some (sA 401) := by rw [← e4]; exact up_eq _ _ _
  have d4 : u26.2 (k + 3) = fun _ => 0 := by rw [← e4]; exact up_eq _ _ _
  have z4 : u26.2 k = fun _ => 0 := (b4 k (by omega)).trans z3
  obtain ⟨u28, e5, h⟩ := bnd_e h
  have a5 : ∀ q, q ≠ k → u28.1 q = u26.1 q := fun q hq => (low_kR e5 hq).1
  have b5 : ∀ q, q ≠ k → u28.2 q = u26.2 q := fun q hq => (low_kR e5 hq).2
  have z5 : u28.2 k = fun _ => 0 := by rw [← e5]; exact (up_eq _ _ _).trans (upd_0 z4)
  obtain ⟨u35, e6, h⟩ := bnd_e h
  have a6 : ∀ q, q ≠ (k + 4) → u35.1 q = u28.1 q := fun q hq => (low_kA e6 hq).1
  have b6 : ∀ q, q ≠ (k + 4) → u35.2 q = u28.2 q := fun q hq => (low_kA e6 hq).2
  have c6 : u35.1 (k + 4) = some (sA 401) := by rw [← e6]; exact up_eq _ _ _
  have d6 : u35.2 (k + 4) = fun _ => 0 := by rw [← e6]; exact up_eq _ _ _
  have z6 : u35.2 k = fun _ => 0 := (b6 k (by omega)).trans z5
  obtain ⟨u37, e7, h⟩ := bnd_e h
  have a7 : ∀ q, q ≠ k → u37.1 q = u35.1 q := fun q hq => (low_kR e7 hq).1
  have b7 : ∀ q, q ≠ k → u37.2 q = u35.2 q := fun q hq => (low_kR e7 hq).2
  have z7 : u37.2 k = fun _ => 0 := by rw [← e7]; exact (up_eq _ _ _).trans (upd_0 z6)
  obtain ⟨u42, e8, h⟩ := bnd_e h
  have a8 : ∀ q, q ≠ (k + 5) → u42.1 q = u37.1 q := fun q hq => (low_kA e8 hq).1
  have b8 : ∀ q, q ≠ (k + 5) → u42.2 q = u37.2 q := fun q hq => (low_kA e8 hq).2
  have c8 : u42.1 (k + 5) = some (sA 4) := by rw [← e8]; exact up_eq _ _ _
  have d8 : u42.2 (k + 5) = fun _ => 0 := by rw [← e8]; exact up_eq _ _ _
  have z8 : u42.2 k = fun _ => 0 := (b8 k (by omega)).trans z7
  obtain ⟨u44, e9, h⟩ := bnd_e h
  have a9 : ∀ q, q ≠ k → u44.1 q = u42.1 q := fun q hq => (low_kR e9 hq).1
  have b9 : ∀ q, q ≠ k → u44.2 q = u42.2 q := fun q hq => (low_kR e9 hq).2
  have z9 : u44.2 k = fun _ => 0 := by rw [← e9]; exact (up_eq _ _ _).trans (upd_0 z8)
  obtain ⟨u49, e10, h⟩ := bnd_e h
  have a10 : ∀ q, q ≠ (k + 6) → u49.1 q = u44.1 q := fun q hq => (low_kA e10 hq).1
  have b10 : ∀ q, q ≠ (k + 6) → u49.2 q = u44.2 q := fun q hq => (low_kA e10 hq).2
  have c10 : u49.1 (k + 6) = some (sA 4) := by rw [← e10]; exact up_eq _ _ _
  have d10 : u49.2 (k + 6) = fun _ => 0 := by rw [← e10]; exact up_eq _ _ _
  have z10 : u49.2 k = fun _ => 0 := (b10 k (by omega)).trans z9
  obtain ⟨u51, e11, h⟩ := bnd_e h
  have a11 : ∀ q, q ≠ k → u51.1 q = u49.1 q := fun q hq => (low_kR e11 hq).1
  have b11 : ∀ q, q ≠ k → u51.2 q = u49.2 q := fun q hq => (low_kR e11 hq).2
  have z11 : u51.2 k = fun _ => 0 := by rw [← e11]; exact (up_eq _ _ _).trans (upd_0 z10)
  obtain ⟨u56, e12, h⟩ := bnd_e h
  have a12 : ∀ q, q ≠ (k + 7) → u56.1 q = u51.1 q := fun q hq => (low_kA e12 hq).1
  have b12 : ∀ q, q ≠ (k + 7) → u56.2 q = u51.2 q := fun q hq => (low_kA e12 hq).2
  have c12 : u56.1 (k + 7) = some (sA 4) := by rw [← e12]; exact up_eq _ _ _
  have d12 : u56.2 (k + 7) = fun _ => 0 := by rw [← e12]; exact up_eq _ _ _
  have z12 : u56.2 k = fun _ => 0 := (b12 k (by omega)).trans z11
  obtain ⟨u58, e13, h⟩ := bnd_e h
  have a13 : ∀ q, q ≠ k → u58.1 q = u56.1 q := fun q hq => (low_kR e13 hq).1
  have b13 : ∀ q, q ≠ k → u58.2 q = u56.2 q := fun q hq => (low_kR e13 hq).2
  have z13 : u58.2 k = fun _ => 0 := by rw [← e13]; exact (up_eq _ _ _).trans (upd_0 z12)
  obtain ⟨u63, e14, h⟩ := bnd_e h
  have a14 : ∀ q, q ≠ (k + 8) → u63.1 q = u58.1 q := fun q hq => (low_kA e14 hq).1
  have b14 : ∀ q, q ≠ (k + 8) → u63.2 q = u58.2 q := fun q hq => (low_kA e14 hq).2
  have c14 : u63.1 (k + 8) = some (sA 4) := by rw [← e14]; exact up_eq _ _ _
  have d14 : u63.2 (k + 8) = fun _ => 0 := by rw [← e14]; exact up_eq _ _ _
  have z14 : u63.2 k = fun _ => 0 := (b14 k (by omega)).trans z13
  obtain ⟨u65, e15, h⟩ := bnd_e h
  have a15 : ∀ q, q ≠ k → u65.1 q = u63.1 q := fun q hq => (low_kR e15 hq).1
  have b15 : ∀ q, q ≠ k → u65.2 q = u63.2 q := fun q hq => (low_kR e15 hq).2
  have z15 : u65.2 k = fun _ => 0 := by rw [← e15]; exact (up_eq _ _ _).trans (upd_0 z14)
  obtain ⟨u70, e16, h⟩ := bnd_e h
  have a16 : ∀ q, q ≠ (k + 9) → u70.1 q = u65.1 q := fun q hq => (low_kA e16 hq).1
  have b16 : ∀ q, q ≠ (k + 9) → u70.2 q = u65.2 q := fun q hq => (low_kA e16 hq).2
  have c16 : u70.1 (k + 9) = some (sA 4) := by rw [← e16]; exact up_eq _ _ _
  have d16 : u70.2 (k + 9) = fun _ => 0 := by rw [← e16]; exact up_eq _ _ _
  have z16 : u70.2 k = fun _ => 0 := (b16 k (by omega)).trans z15
  obtain ⟨u72, e17, h⟩ := bnd_e h
  have a17 : ∀ q, q ≠ k → u72.1 q = u70.1 q := fun q hq => (low_kR e17 hq).1
  have b17 : ∀ q, q ≠ k → u72.2 q = u70.2 q := fun q hq => (low_kR e17 hq).2
  have z17 : u72.2 k = fun _ => 0 := by rw [← e17]; exact (up_eq _ _ _).trans (upd_0 z16)
  obtain ⟨u78, e18, h⟩ := bnd_e h
  have a18 : ∀ q, q ≠ (k + 10) → u78.1 q = u72.1 q := fun q hq => (low_kA e18 hq).1
  have b18 : ∀ q, q ≠ (k + 10) → u78.2 q = u72.2 q := fun q hq => (low_kA e18 hq).2
  have c18 : u78.1 (k + 10) = some (sA 6) := by rw [← e18]; exact up_eq _ _ _
  have d18 : u78.2 (k + 10) = fun _ => 0 := by rw [← e18]; exact up_eq _ _ _
  have z18 : u78.2 k = fun _ => 0 := (b18 k (by omega)).trans z17
  obtain ⟨u80, e19, h⟩ := bnd_e h
  have a19 : ∀ q, q ≠ k → u80.1 q = u78.1 q := fun q hq => (low_kR e19 hq).1
  have b19 : ∀ q, q ≠ k → u80.2 q = u78.2 q := fun q hq => (low_kR e19 hq).2
  have z19 : u80.2 k = fun _ => 0 := by rw [← e19]; exact (up_eq _ _ _).trans (upd_0 z18)
  obtain ⟨u86, e20, h⟩ := bnd_e h
  have a20 : ∀ q, q ≠ (k + 11) → u86.1 q = u80.1 q := fun q hq => (low_kA e20 hq).1
  have b20 : ∀ q, q ≠ (k + 11) → u86.2 q = u80.2 q := fun q hq => (low_kA e20 hq).2
  have c20 : u86.1 (k + 11) = some (sA 6) := by rw [← e20]; exact up_eq _ _ _
  have d20 : u86.2 (k + 11) = fun _ => 0 := by rw [← e20]; exact up_eq _ _ _
  have z20 : u86.2 k = fun _ => 0 := (b20 k (by omega)).trans z19
  obtain ⟨u88, e21, h⟩ := bnd_e h
  have a21 : ∀ q, q ≠ k → u88.1 q = u86.1 q := fun q hq => (low_kR e21 hq).1
  have b21 : ∀ q, q ≠ k → u88.2 q = u86.2 q := fun q hq => (low_kR e21 hq).2
  have z21 : u88.2 k = fun _ => 0 := by rw [← e21]; exact (up_eq _ _ _).trans (upd_0 z20)
  obtain ⟨u94, e22, h⟩ := bnd_e h
  have a22 : ∀ q, q ≠ (k + 12) → u94.1 q = u88.1 q := fun q hq => (low_kA e22 hq).1
  have b22 : ∀ q, q ≠ (k + 12) → u94.2 q = u88.2 q := fun q hq => (low_kA e22 hq).2
  have c22 : u94.1 (k + 12) = some (sA 6) := by rw [← e22]; exact up_eq _ _ _
  have d22 : u94.2 (k + 12) = fun _ => 0 := by rw [← e22]; exact up_eq _ _ _
  have z22 : u94.2 k = fun _ => 0 := (b22 k (by omega)).trans z21
  obtain ⟨u96, e23, h⟩ := bnd_e h
  have a23 : ∀ q, q ≠ k → u96.1 q = u94.1 q := fun q hq => (low_kR e23 hq).1
  have b23 : ∀ q, q ≠ k → u96.2 q = u94.2 q := fun q hq => (low_kR e23 hq).2
  have z23 : u96.2 k = fun _ => 0 := by rw [← e23]; exact (up_eq _ _ _).trans (upd_0 z22)
  obtain ⟨u102, e24, h⟩ := bnd_e h
  have a24 : ∀ q, q ≠ (k + 13) → u102.1 q = u96.1 q := fun q hq => (low_kA e24 hq).1
  have b24 : ∀ q, q ≠ (k + 13) → u102.2 q = u96.2 q := fun q hq => (low_kA e24 hq).2
  have c24 : u102.1 (k + 13) = some (sA 10) := by rw [← e24]; exact up_eq _ _ _
  have d24 : u102.2 (k + 13) = fun _ => 0 := by rw [← e24]; exact up_eq _ _ _
  have z24 : u102.2 k = fun _ => 0 := (b24 k (by omega)).trans z23
  obtain ⟨u104, e25, h⟩ := bnd_e h
  have a25 : ∀ q, q ≠ k → u104.1 q = u102.1 q := fun q hq => (low_kR e25 hq).1
  have b25 : ∀ q, q ≠ k → u104.2 q = u102.2 q := fun q hq => (low_kR e25 hq).2
  have z25 : u104.2 k = fun _ => 0 := by rw [← e25]; exact (up_eq _ _ _).trans (upd_0 z24)
  obtain ⟨u110, e26, h⟩ := bnd_e h
  have a26 : ∀ q, q ≠ (k + 14) → u110.1 q = u104.1 q := fun q hq => (low_kA e26 hq).1
  have b26 : ∀ q, q ≠ (k + 14) → u110.2 q = u104.2 q := fun q hq => (low_kA e26 hq).2
  have c26 : u110.1 (k + 14) = some (sA 10) := by rw [← e26]; exact up_eq _ _ _
  have d26 : u110.2 (k + 14) = fun _ => 0 := by rw [← e26]; exact up_eq _ _ _
  have z26 : u110.2 k = fun _ => 0 := (b26 k (by omega)).trans z25
  obtain ⟨u112, e27, h⟩ := bnd_e h
  have a27 : ∀ q, q ≠ k → u112.1 q = u110.1 q := fun q hq => (low_kR e27 hq).1
  have b27 : ∀ q, q ≠ k → u112.2 q = u110.2 q := fun q hq => (low_kR e27 hq).2
  have z27 : u112.2 k = fun _ => 0 := by rw [← e27]; exact (up_eq _ _ _).trans (upd_0 z26)
  obtain ⟨u118, e28, h⟩ := bnd_e h
  have a28 : ∀ q, q ≠ (k + 15) → u118.1 q = u112.1 q := fun q hq => (low_kA e28 hq).1
  have b28 : ∀ q, q ≠ (k + 15) → u118.2 q = u112.2 q := fun q hq => (low_kA e28 hq).2
  have c28 : u118.1 (k + 15) = some (sA 10) := by rw [← e28]; exact up_eq _ _ _
  have d28 : u118.2 (k + 15) = fun _ => 0 := by rw [← e28]; exact up_eq _ _ _
  have z28 : u118.2 k = fun _ => 0 := (b28 k (by omega)).trans z27
  obtain ⟨u120, e29, h⟩ := bnd_e h
  have a29 : ∀ q, q ≠ k → u120.1 q = u118.1 q := fun q hq => (low_kR e29 hq).1
  have b29 : ∀ q, q ≠ k → u120.2 q = u118.2 q := fun q hq => (low_kR e29 hq).2
  have z29 : u120.2 k = fun _ => 0 := by rw [← e29]; exact (up_eq _ _ _).trans (upd_0 z28)
  obtain ⟨u126, e30, h⟩ := bnd_e h
  have a30 : ∀ q, q ≠ (k + 16) → u126.1 q = u120.1 q := fun q hq => (low_kA e30 hq).1
  have b30 : ∀ q, q ≠ (k + 16) → u126.2 q = u120.2 q := fun q hq => (low_kA e30 hq).2
  have c30 : u126.1 (k + 16) = some (sA 10) := by rw [← e30]; exact up_eq _ _ _
  have d30 : u126.2 (k + 16) = fun _ => 0 := by rw [← e30]; exact up_eq _ _ _
  have z30 : u126.2 k = fun _ => 0 := (b30 k (by omega)).trans z29
  obtain ⟨u128, e31, h⟩ := bnd_e h
  have a31 : ∀ q, q ≠ k → u128.1 q = u126.1 q := fun q hq => (low_kR e31 hq).1
  have b31 : ∀ q, q ≠ k → u128.2 q = u126.2 q := fun q hq => (low_kR e31 hq).2
  have z31 : u128.2 k = fun _ => 0 := by rw [← e31]; exact (up_eq _ _ _).trans (upd_0 z30)
  obtain ⟨u134, e32, h⟩ := bnd_e h
  have a32 : ∀ q, q ≠ (k + 17) → u134.1 q = u128.1 q := fun q hq => (low_kA e32 hq).1
  have b32 : ∀ q, q ≠ (k + 17) → u134.2 q = u128.2 q := fun q hq => (low_kA e32 hq).2
  have c32 : u134.1 (k + 17) = some (sA 24) := by rw [← e32]; exact up_eq _ _ _
  have d32 : u134.2 (k + 17) = fun _ => 0 := by rw [← e32]; exact up_eq _ _ _
  have z32 : u134.2 k = fun _ => 0 := (b32 k (by omega)).trans z31
  obtain ⟨u136, e33, h⟩ := bnd_e h
  have a33 : ∀ q, q ≠ k → u136.1 q = u134.1 q := fun q hq => (low_kR e33 hq).1
  have b33 : ∀ q, q ≠ k → u136.2 q = u134.2 q := fun q hq => (low_kR e33 hq).2
  have z33 : u136.2 k = fun _ => 0 := by rw [← e33]; exact (up_eq _ _ _).trans (upd_0 z32)
  obtain ⟨u142, e34, h⟩ := bnd_e h
  have a34 : ∀ q, q ≠ (k + 18) → u142.1 q = u136.1 q := fun q hq => (low_kA e34 hq).1
  have b34 : ∀ q, q ≠ (k + 18) → u142.2 q = u136.2 q := fun q hq => (low_kA e34 hq).2
  have c34 : u142.1 (k + 18) = some (sA 24) := by rw [← e34]; exact up_eq _ _ _
  have d34 : u142.2 (k + 18) = fun _ => 0 := by rw [← e34]; exact up_eq _ _ _
  have z34 : u142.2 k = fun _ => 0 := (b34 k (by omega)).trans z33
  obtain ⟨u144, e35, h⟩ := bnd_e h
  have a35 : ∀ q, q ≠ k → u144.1 q = u142.1 q := fun q hq => (low_kR e35 hq).1
  have b35 : ∀ q, q ≠ k → u144.2 q = u142.2 q := fun q hq => (low_kR e35 hq).2
  have z35 : u144.2 k = fun _ => 0 := by rw [← e35]; exact (up_eq _ _ _).trans (upd_0 z34)
  obtain ⟨u150, e36, h⟩ := bnd_e h
  have a36 : ∀ q, q ≠ (k + 19) → u150.1 q = u144.1 q := fun q hq => (low_kA e36 hq).1
  have b36 : ∀ q, q ≠ (k + 19) → u150.2 q = u144.2 q := fun q hq => (low_kA e36 hq).2
  have c36 : u150.1 (k + 19) = some (sA 24) := by rw [← e36]; exact up_eq _ _ _
  have d36 : u150.2 (k + 19) = fun _ => 0 := by rw [← e36]; exact up_eq _ _ _
  have z36 : u150.2 k = fun _ => 0 := (b36 k (by omega)).trans z35
  obtain ⟨u152, e37, h⟩ := bnd_e h
  have a37 : ∀ q, q ≠ k → u152.1 q = u150.1 q := fun q hq => (low_kR e37 hq).1
  have b37 : ∀ q, q ≠ k → u152.2 q = u150.2 q := fun q hq => (low_kR e37 hq).2
  have z37 : u152.2 k = fun _ => 0 := by rw [← e37]; exact (up_eq _ _ _).trans (upd_0 z36)
  obtain ⟨u158, e38, h⟩ := bnd_e h
  have a38 : ∀ q, q ≠ (k + 20) → u158.1 q = u152.1 q := fun q hq => (low_kA e38 hq).1
  have b38 : ∀ q, q ≠ (k + 20) → u158.2 q = u152.2 q := fun q hq => (low_kA e38 hq).2
  have c38 : u158.1 (k + 20) = some (sA 24) := by rw [← e38]; exact up_eq _ _ _
  have d38 : u158.2 (k + 20) = fun _ => 0 := by rw [← e38]; exact up_eq _ _ _
  have z38 : u158.2 k = fun _ => 0 := (b38 k (by omega)).trans z37
  obtain ⟨u160, e39, h⟩ := bnd_e h
  have a39 : ∀ q, q ≠ k → u160.1 q = u158.1 q := fun q hq => (low_kR e39 hq).1
  have b39 : ∀ q, q ≠ k → u160.2 q = u158.2 q := fun q hq => (low_kR e39 hq).2
  have z39 : u160.2 k = fun _ => 0 := by rw [← e39]; exact (up_eq _ _ _).trans (upd_0 z38)
  obtain ⟨u166, e40, h⟩ := bnd_e h
  have a40 : ∀ q, q ≠ (k + 21) → u166.1 q = u160.1 q := fun q hq => (low_kA e40 hq).1
  have b40 : ∀ q, q ≠ (k + 21) → u166.2 q = u160.2 q := fun q hq => (low_kA e40 hq).2
  have c40 : u166.1 (k + 21) = some (sA 24) := by rw [← e40]; exact up_eq _ _ _
  have d40 : u166.2 (k + 21) = fun _ => 0 := by rw [← e40]; exact up_eq _ _ _
  have z40 : u166.2 k = fun _ => 0 := (b40 k (by omega)).trans z39
  obtain ⟨u168, e41, h⟩ := bnd_e h
  have a41 : ∀ q, q ≠ k → u168.1 q = u166.1 q := fun q hq => (low_kR e41 hq).1
  have b41 : ∀ q, q ≠ k → u168.2 q = u166.2 q := fun q hq => (low_kR e41 hq).2
  have z41 : u168.2 k = fun _ => 0 := by rw [← e41]; exact (up_eq _ _ _).trans (upd_0 z40)
  subst h
  refine ⟨⟨by rw [← e41]; exact up_eq _ _ _, ?_, ?_, ?_, ?_, ?_, ?_, ?_, ?_, ?_, ?_, ?_, ?_, ?_, ?_, ?_, ?_, ?_, ?_, ?_, ?_, ?_⟩, fun i hi => ?_, hl⟩
  · rw [a41 (k + 1) (by omega), a40 (k + 1) (by omega), a39 (k + 1) (by omega), a38 (k + 1) (by omega), a37 (k + 1) (by omega), a36 (k + 1) (by omega), a35 (k + 1) (by omega), a34 (k + 1) (by omega), a33 (k + 1) (by omega), a32 (k + 1) (by omega), a31 (k + 1) (by omega), a30 (k + 1) (by omega), a29 (k + 1) (by omega), a28 (k + 1) (by omega), a27 (k + 1) (by omega), a26 (k + 1) (by omega), a25 (k + 1) (by omega), a24 (k + 1) (by omega), a23 (k + 1) (by omega), a22 (k + 1) (by omega), a21 (k + 1) (by omega), a20 (k + 1) (by omega), a19 (k + 1) (by omega), a18 (k + 1) (by omega), a17 (k + 1) (by omega), a16 (k + 1) (by omega), a15 (k + 1) (by omega), a14 (k + 1) (by omega), a13 (k + 1) (by omega), a12 (k + 1) (by omega), a11 (k + 1) (by omega), a10 (k + 1) (by omega), a9 (k + 1) (by omega), a8 (k + 1) (by omega), a7 (k + 1) (by omega), a6 (k + 1) (by omega), a5 (k + 1) (by omega), a4 (k + 1) (by omega), a3 (k + 1) (by omega), a2 (k + 1) (by omega), a1 (k + 1) (by omega)]; exact c0
  · rw [a41 (k + 2) (by omega), a40 (k + 2) (by omega), a39 (k + 2) (by omega), a38 (k + 2) (by omega), a37 (k + 2) (by omega), a36 (k + 2) (by omega), a35 (k + 2) (by omega), a34 (k + 2) (by omega), a33 (k + 2) (by omega), a32 (k + 2) (by omega), a31 (k + 2) (by omega), a30 (k + 2) (by omega), a29 (k + 2) (by omega), a28 (k + 2) (by omega), a27 (k + 2) (by omega), a26 (k + 2) (by omega), a25 (k + 2) (by omega), a24 (k + 2) (by omega), a23 (k + 2) (by omega), a22 (k + 2) (by omega), a21 (k + 2) (by omega), a20 (k + 2) (by omega), a19 (k + 2) (by omega), a18 (k + 2) (by omega), a17 (k + 2) (by omega), a16 (k + 2) (by omega), a15 (k + 2) (by omega), a14 (k + 2) (by omega), a13 (k + 2) (by omega), a12 (k + 2) (by omega), a11 (k + 2) (by omega), a10 (k + 2) (by omega), a9 (k + 2) (by omega), a8 (k + 2) (by omega), a7 (k + 2) (by omega), a6 (k + 2) (by omega), a5 (k + 2) (by omega), a4 (k + 2) (by omega), a3 (k + 2) (by omega)]; exact c2
  · rw [a41 (k + 3) (by omega), a40 (k + 3) (by omega), a39 (k + 3) (by omega), a38 (k + 3) (by omega), a37 (k + 3) (by omega), a36 (k + 3) (by omega), a35 (k + 3) (by omega), a34 (k + 3) (by omega), a33 (k + 3) (by omega), a32 (k + 3) (by omega), a31 (k + 3) (by omega), a30 (k + 3) (by omega), a29 (k + 3) (by omega), a28 (k + 3) (by omega), a27 (k + 3) (by omega), a26 (k + 3) (by omega), a25 (k + 3) (by omega), a24 (k + 3) (by omega), a23 (k + 3) (by omega), a22 (k + 3) (by omega), a21 (k + 3) (by omega), a20 (k + 3) (by omega), a19 (k + 3) (by omega), a18 (k + 3) (by omega), a17 (k + 3) (by omega), a16 (k + 3) (by omega), a15 (k + 3) (by omega), a14 (k + 3) (by omega), a13 (k + 3) (by omega), a12 (k + 3) (by omega), a11 (k + 3) (by omega), a10 (k + 3) (by omega), a9 (k + 3) (by omega), a8 (k + 3) (by omega), a7 (k + 3) (by omega), a6 (k + 3) (by omega), a5 (k + 3) (by omega)]; exact c4
  · rw [a41 (k + 4) (by omega), a40 (k + 4) (by omega), a39 (k + 4) (by omega), a38 (k + 4) (by omega), a37 (k + 4) (by omega), a36 (k + 4) (by omega), a35 (k + 4) (by omega), a34 (k + 4) (by omega), a33 (k + 4) (by omega), a32 (k + 4) (by omega), a31 (k + 4) (by omega), a30 (k + 4) (by omega), a29 (k + 4) (by omega), a28 (k + 4) (by omega), a27 (k + 4) (by omega), a26 (k + 4) (by omega), a25 (k + 4) (by omega), a24 (k + 4) (by omega), a23 (k + 4) (by omega), a22 (k + 4) (by omega), a21 (k + 4) (by omega), a20 (k + 4) (by omega), a19 (k + 4) (by omega), a18 (k + 4) (by omega), a17 (k + 4) (by omega), a16 (k + 4) (by omega), a15 (k + 4) (by omega), a14 (k + 4) (by omega), a13 (k + 4) (by omega), a12 (k + 4) (by omega), a11 (k + 4) (by omega), a10 (k + 4) (by omega), a9 (k + 4) (by omega), a8 (k + 4) (by omega), a7 (k + 4) (by omega)]; exact c6
  · rw [a41 (k + 5) (by omega), a40 (k + 5) (by omega), a39 (k + 5) (by omega), a38 (k + 5) (by omega), a37 (k + 5) (by omega), a36 (k + 5) (by omega), a35 (k + 5) (by omega), a34 (k + 5) (by omega), a33 (k + 5) (by omega), a32 (k + 5) (by omega), a31 (k + 5) (by omega), a30 (k + 5) (by omega), a29 (k + 5) (by omega), a28 (k + 5) (by omega), a27 (k + 5) (by omega), a26 (k + 5) (by omega), a25 (k + 5) (by omega), a24 (k + 5) (by omega), a23 (k + 5) (by omega), a22 (k + 5) (by omega), a21 (k + 5) (by omega), a20 (k + 5) (by omega), a19 (k + 5) (by omega), a18 (k + 5) (by omega), a17 (k + 5) (by omega), a16 (k + 5) (by omega), a15 (k + 5) (by omega), a14 (k + 5) (by omega), a13 (k + 5) (by omega), a12 (k + 5) (by omega), a11 (k + 5) (by omega), a10 (k + 5) (by omega), a9 (k + 5) (by omega)]; exact c8
  · rw [a41 (k + 6) (by omega), a40 (k + 6) (by omega), a39 (k + 6) (by omega), a38 (k + 6) (by omega), a37 (k + 6) (by omega), a36 (k + 6) (by omega), a35 (k + 6) (by omega), a34 (k + 6) (by omega), a33 (k + 6) (by omega), a32 (k + 6) (by omega), a31 (k + 6) (by omega), a30 (k + 6) (by omega), a29 (k + 6) (by omega), a28 (k + 6) (by omega), a27 (k + 6) (by omega), a26 (k + 6) (by omega), a25 (k + 6) (by omega), a24 (k + 6) (by omega), a23 (k + 6) (by omega), a22 (k + 6) (by omega), a21 (k + 6) (by omega), a20 (k + 6) (by omega), a19 (k + 6) (by omega), a18 (k + 6) (by omega), a17 (k + 6) (by omega), a16 (k + 6) (by omega), a15 (k + 6) (by omega), a14 (k + 6) (by omega), a13 (k + 6) (by omega), a12 (k + 6) (by omega), a11 (k + 6) (by omega)]; exact c10
  · rw [a41 (k + 7) (by omega), a40 (k + 7) (by omega), a39 (k + 7) (by omega), a38 (k + 7) (by omega), a37 (k + 7) (by omega), a36 (k + 7) (by omega), a35 (k + 7) (by omega), a34 (k + 7) (by omega), a33 (k + 7) (by omega), a32 (k + 7) (by omega), a31 (k + 7) (by omega), a30 (k + 7) (by omega), a29 (k + 7) (by omega), a28 (k + 7) (by omega), a27 (k + 7) (by omega), a26 (k + 7) (by omega), a25 (k + 7) (by omega), a24 (k + 7) (by omega), a23 (k + 7) (by omega), a22 (k + 7) (by omega), a21 (k + 7) (by omega), a20 (k + 7) (by omega), a19 (k + 7) (by omega), a18 (k + 7) (by omega), a17 (k + 7) (by omega), a16 (k + 7) (by omega), a15 (k + 7) (by omega), a14 (k + 7) (by omega), a13 (k + 7) (by omega)]; exact c12
  · rw [a41 (k + 8) (by omega), a40 (k + 8) (by omega), a39 (k + 8) (by omega), a38 (k + 8) (by omega), a37 (k + 8) (by omega), a36 (k + 8) (by omega), a35 (k + 8) (by omega), a34 (k + 8) (by omega), a33 (k + 8) (by omega), a32 (k + 8) (by omega), a31 (k + 8) (by omega), a30 (k + 8) (by omega), a29 (k + 8) (by omega), a28 (k + 8) (by omega), a27 (k + 8) (by omega), a26 (k + 8) (by omega), a25 (k + 8) (by omega), a24 (k + 8) (by omega), a23 (k + 8) (by omega), a22 (k + 8) (by omega), a21 (k + 8) (by omega), a20 (k + 8) (by omega), a19 (k + 8) (by omega), a18 (k + 8) (by omega), a17 (k + 8) (by omega), a16 (k + 8) (by omega), a15 (k + 8) (by omega)]; exact c14
  · rw [a41 (k + 9) (by omega), a40 (k + 9) (by omega), a39 (k + 9) (by omega), a38 (k + 9) (by omega), a37 (k + 9) (by omega), a36 (k + 9) (by omega), a35 (k + 9) (by omega), a34 (k + 9) (by omega), a33 (k + 9) (by omega), a32 (k + 9) (by omega), a31 (k + 9) (by omega), a30 (k + 9) (by omega), a29 (k + 9) (by omega), a28 (k + 9) (by omega), a27 (k + 9) (by omega), a26 (k + 9) (by omega), a25 (k + 9) (by omega), a24 (k + 9) (by omega), a23 (k + 9) (by omega), a22 (k + 9) (by omega), a21 (k + 9) (by omega), a20 (k + 9) (by omega), a19 (k + 9) (by omega), a18 (k + 9) (by omega), a17 (k + 9) (by omega)]; exact c16
  · rw [a41 (k + 10) (by omega), a40 (k + 10) (by omega), a39 (k + 10) (by omega), a38 (k + 10) (by omega), a37 (k + 10) (by omega), a36 (k + 10) (by omega), a35 (k + 10) (by omega), a34 (k + 10) (by omega), a33 (k + 10) (by omega), a32 (k + 10) (by omega), a31 (k + 10) (by omega), a30 (k + 10) (by omega), a29 (k + 10) (by omega), a28 (k + 10) (by omega), a27 (k + 10) (by omega), a26 (k + 10) (by omega), a25 (k + 10) (by omega), a24 (k + 10) (by omega), a23 (k + 10) (by omega), a22 (k + 10) (by omega), a21 (k + 10) (by omega), a20 (k + 10) (by omega), a19 (k + 10) (by omega)]; exact c18
  · rw [a41 (k + 11) (by omega), a40 (k + 11) (by omega), a39 (k + 11) (by omega), a38 (k + 11) (by omega), a37 (k + 11) (by omega), a36 (k + 11) (by omega), a35 (k + 11) (by omega), a34 (k + 11) (by omega), a33 (k + 11) (by omega), a32 (k + 11) (by omega), a31 (k + 11) (by omega), a30 (k + 11) (by omega), a29 (k + 11) (by omega), a28 (k + 11) (by omega), a27 (k + 11) (by omega), a26 (k + 11) (by omega), a25 (k + 11) (by omega), a24 (k + 11) (by omega), a23 (k + 11) (by omega), a22 (k + 11) (by omega), a21 (k + 11) (by omega)]; exact c20
  · rw [a41 (k + 12) (by omega), a40 (k + 12) (by omega), a39 (k + 12) (by omega), a38 (k + 12) (by omega), a37 (k + 12) (by omega), a36 (k + 12) (by omega), a35 (k + 12) (by omega), a34 (k + 12) (by omega), a33 (k + 12) (by omega), a32 (k + 12) (by omega), a31 (k + 12) (by omega), a30 (k + 12) (by omega), a29 (k + 12) (by omega), a28 (k + 12) (by omega), a27 (k + 12) (by omega), a26 (k + 12) (by omega), a25 (k + 12) (by omega), a24 (k + 12) (by omega), a23 (k + 12) (by omega)]; exact c22
  · rw [a41 (k + 13) (by omega), a40 (k + 13) (by omega), a39 (k + 13) (by omega), a38 (k + 13) (by omega), a37 (k + 13) (by omega), a36 (k + 13) (by omega), a35 (k + 13) (by omega), a34 (k + 13) (by omega), a33 (k + 13) (by omega), a32 (k + 13) (by omega), a31 (k + 13) (by omega), a30 (k + 13) (by omega), a29 (k + 13) (by omega), a28 (k + 13) (by omega), a27 (k + 13) (by omega), a26 (k + 13) (by omega), a25 (k + 13) (by omega)]; exact c24
  · rw [a41 (k + 14) (by omega), a40 (k + 14) (by omega), a39 (k + 14) (by omega), a38 (k + 14) (by omega), a37 (k + 14) (by omega), a36 (k + 14) (by omega), a35 (k + 14) (by omega), a34 (k + 14) (by omega), a33 (k + 14) (by omega), a32 (k + 14) (by omega), a31 (k + 14) (by omega), a30 (k + 14) (by omega), a29 (k + 14) (by omega), a28 (k + 14) (by omega), a27 (k + 14) (by omega)]; exact c26
  · rw [a41 (k + 15) (by omega), a40 (k + 15) (by omega), a39 (k + 15) (by omega), a38 (k + 15) (by omega), a37 (k + 15) (by omega), a36 (k + 15) (by omega), a35 (k + 15) (by omega), a34 (k + 15) (by omega), a33 (k + 15) (by omega), a32 (k + 15) (by omega), a31 (k + 15) (by omega), a30 (k + 15) (by omega), a29 (k + 15) (by omega)]; exact c28
  · rw [a41 (k + 16) (by omega), a40 (k + 16) (by omega), a39 (k + 16) (by omega), a38 (k + 16) (by omega), a37 (k + 16) (by omega), a36 (k + 16) (by omega), a35 (k + 16) (by omega), a34 (k + 16) (by omega), a33 (k + 16) (by omega), a32 (k + 16) (by omega), a31 (k + 16) (by omega)]; exact c30
  · rw [a41 (k + 17) (by omega), a40 (k + 17) (by omega), a39 (k + 17) (by omega), a38 (k + 17) (by omega), a37 (k + 17) (by omega), a36 (k + 17) (by omega), a35 (k + 17) (by omega), a34 (k + 17) (by omega), a33 (k + 17) (by omega)]; exact c32
  · rw [a41 (k + 18) (by omega), a40 (k + 18) (by omega), a39 (k + 18) (by omega), a38 (k + 18) (by omega), a37 (k + 18) (by omega), a36 (k + 18) (by omega), a35 (k + 18) (by omega)]; exact c34
  · rw [a41 (k + 19) (by omega), a40 (k + 19) (by omega), a39 (k + 19) (by omega), a38 (k + 19) (by omega), a37 (k + 19) (by omega)]; exact c36
  · rw [a41 (k + 20) (by omega), a40 (k + 20) (by omega), a39 (k + 20) (by omega)]; exact c38
  · rw [a41 (k + 21) (by omega)]; exact c40
  · have hc : i = 0 ∨ i = 1 ∨ i = 2 ∨ i = 3 ∨ i = 4 ∨ i = 5 ∨ i = 6 ∨ i = 7 ∨ i = 8 ∨ i = 9 ∨ i = 10 ∨ i = 11 ∨ i = 12 ∨ i = 13 ∨ i = 14 ∨ i = 15 ∨ i = 16 ∨ i = 17 ∨ i = 18 ∨ i = 19 ∨ i = 20 ∨ i = 21 := by omega
    rcases hc with rfl | rfl | rfl | rfl | rfl | rfl | rfl | rfl | rfl | rfl | rfl | rfl | rfl | rfl | rfl | rfl | rfl | rfl | rfl | rfl | rfl | rfl
    · exact z41
    · rw [b41 (k + 1) (by omega), b40 (k + 1) (by omega), b39 (k + 1) (by omega), b38 (k + 1) (by omega), b37 (k + 1) (by omega), b36 (k + 1) (by omega), b35 (k + 1) (by omega), b34 (k + 1) (by omega), b33 (k + 1) (by omega), b32 (k + 1) (by omega), b31 (k + 1) (by omega), b30 (k + 1) (by omega), b29 (k + 1) (by omega), b28 (k + 1) (by omega), b27 (k + 1) (by omega), b26 (k + 1) (by omega), b25 (k + 1) (by omega), b24 (k + 1) (by omega), b23 (k + 1) (by omega), b22 (k + 1) (by omega), b21 (k + 1) (by omega), b20 (k + 1) (by omega), b19 (k + 1) (by omega), b18 (k + 1) (by omega), b17 (k + 1) (by omega), b16 (k + 1) (by omega), b15 (k + 1) (by omega), b14 (k + 1) (by omega), b13 (k + 1) (by omega), b12 (k + 1) (by omega), b11 (k + 1) (by omega), b10 (k + 1) (by omega), b9 (k + 1) (by omega), b8 (k + 1) (by omega), b7 (k + 1) (by omega), b6 (k + 1) (by omega), b5 (k + 1) (by omega), b4 (k + 1) (by omega), b3 (k + 1) (by omega), b2 (k + 1) (by omega), b1 (k + 1) (by omega)]; exact d0
    · rw [b41 (k + 2) (by omega), b40 (k + 2) (by omega), b39 (k + 2) (by omega), b38 (k + 2) (by omega), b37 (k + 2) (by omega), b36 (k + 2) (by omega), b35 (k + 2) (by omega), b34 (k + 2) (by omega), b33 (k + 2) (by omega), b32 (k + 2) (by omega), b31 (k + 2) (by omega), b30 (k + 2) (by omega), b29 (k + 2) (by omega), b28 (k + 2) (by omega), b27 (k + 2) (by omega), b26 (k + 2) (by omega), b25 (k + 2) (by omega), b24 (k + 2) (by omega), b23 (k + 2) (by omega), b22 (k + 2) (by omega), b21 (k + 2) (by omega), b20 (k + 2) (by omega), b19 (k + 2) (by omega), b18 (k + 2) (by omega), b17 (k + 2) (by omega), b16 (k + 2) (by omega), b15 (k + 2) (by omega), b14 (k + 2) (by omega), b13 (k + 2) (by omega), b12 (k + 2) (by omega), b11 (k + 2) (by omega), b10 (k + 2) (by omega), b9 (k + 2) (by omega), b8 (k + 2) (by omega), b7 (k + 2) (by omega), b6 (k + 2) (by omega), b5 (k + 2) (by omega), b4 (k + 2) (by omega), b3 (k + 2) (by omega)]; exact d2
    · rw [b41 (k + 3) (by omega), b40 (k + 3) (by omega), b39 (k + 3) (by omega), b38 (k + 3) (by omega), b37 (k + 3) (by omega), b36 (k + 3) (by omega), b35 (k + 3) (by omega), b34 (k + 3) (by omega), b33 (k + 3) (by omega), b32 (k + 3) (by omega), b31 (k + 3) (by omega), b30 (k + 3) (by omega), b29 (k + 3) (by omega), b28 (k + 3) (by omega), b27 (k + 3) (by omega), b26 (k + 3) (by omega), b25 (k + 3) (by omega), b24 (k + 3) (by omega), b23 (k + 3) (by omega), b22 (k + 3) (by omega), b21 (k + 3) (by omega), b20 (k + 3) (by omega), b19 (k + 3) (by omega), b18 (k + 3) (by omega), b17 (k + 3) (by omega), b16 (k + 3) (by omega), b15 (k + 3) (by omega), b14 (k + 3) (by omega), b13 (k + 3) (by omega), b12 (k + 3) (by omega), b11 (k + 3) (by omega), b10 (k + 3) (by omega), b9 (k + 3) (by omega), b8 (k + 3) (by omega), b7 (k + 3) (by omega), b6 (k + 3) (by omega), b5 (k + 3) (by omega)]; exact d4
    · rw [b41 (k + 4) (by omega), b40 (k + 4) (by omega), b39 (k + 4) (by omega), b38 (k + 4) (by omega), b37 (k + 4) (by omega), b36 (k + 4) (by omega), b35 (k + 4) (by omega), b34 (k + 4) (by omega), b33 (k + 4) (by omega), b32 (k + 4) (by omega), b31 (k + 4) (by omega), b30 (k + 4) (by omega), b29 (k + 4) (by omega), b28 (k + 4) (by omega), b27 (k + 4) (by omega), b26 (k + 4) (by omega), b25 (k + 4) (by omega), b24 (k + 4) (by omega), b23 (k + 4) (by omega), b22 (k + 4) (by omega), b21 (k + 4) (by omega), b20 (k + 4) (by omega), b19 (k + 4) (by omega), b18 (k + 4) (by omega), b17 (k + 4) (by omega), b16 (k + 4) (by omega), b15 (k + 4) (by omega), b14 (k + 4) (by omega), b13 (k + 4) (by omega), b12 (k + 4) (by omega), b11 (k + 4) (by omega), b10 (k + 4) (by omega), b9 (k + 4) (by omega), b8 (k + 4) (by omega), b7 (k + 4) (by omega)]; exact d6
    · rw [b41 (k + 5) (by omega), b40 (k + 5) (by omega), b39 (k + 5) (by omega), b38 (k + 5) (by omega), b37 (k + 5) (by omega), b36 (k + 5) (by omega), b35 (k + 5) (by omega), b34 (k + 5) (by omega), b33 (k + 5) (by omega), b32 (k + 5) (by omega), b31 (k + 5) (by omega), b30 (k + 5) (by omega), b29 (k + 5) (by omega), b28 (k + 5) (by omega), b27 (k + 5) (by omega), b26 (k + 5) (by omega), b25 (k + 5) (by omega), b24 (k + 5) (by omega), b23 (k + 5) (by omega), b22 (k + 5) (by omega), b21 (k + 5) (by omega), b20 (k + 5) (by omega), b19 (k + 5) (by omega), b18 (k + 5) (by omega), b17 (k + 5) (by omega), b16 (k + 5) (by omega), b15 (k + 5) (by omega), b14 (k + 5) (by omega), b13 (k + 5) (by omega), b12 (k + 5) (by omega), b11 (k + 5) (by omega), b10 (k + 5) (by omega), b9 (k + 5) (by omega)]; exact d8
    · rw [b41 (k + 6) (by omega), b40 (k + 6) (by omega), b39 (k + 6) (by omega), b38 (k + 6) (by omega), b37 (k + 6) (by omega), b36 (k + 6) (by omega), b35 (k + 6) (by omega), b34 (k + 6) (by omega), b33 (k + 6) (by omega), b32 (k + 6) (by omega), b31 (k + 6) (by omega), b30 (k + 6) (by omega), b29 (k + 6) (by omega), b28 (k + 6) (by omega), b27 (k + 6) (by omega), b26 (k + 6) (by omega), b25 (k + 6) (by omega), b24 (k + 6) (by omega), b23 (k + 6) (by omega), b22 (k + 6) (by omega), b21 (k + 6) (by omega), b20 (k + 6) (by omega), b19 (k + 6) (by omega), b18 (k + 6) (by omega), b17 (k + 6) (by omega), b16 (k + 6) (by omega), b15 (k + 6) (by omega), b14 (k + 6) (by omega), b13 (k + 6) (by omega), b12 (k + 6) (by omega), b11 (k + 6) (by omega)]; exact d10
    · rw [b41 (k + 7) (by omega), b40 (k + 7) (by omega), b39 (k + 7) (by omega), b38 (k + 7) (by omega), b37 (k + 7) (by omega), b36 (k + 7) (by omega), b35 (k + 7) (by omega), b34 (k + 7) (by omega), b33 (k + 7) (by omega), b32 (k + 7) (by omega), b31 (k + 7) (by omega), b30 (k + 7) (by omega), b29 (k + 7) (by omega), b28 (k + 7) (by omega), b27 (k + 7) (by omega), b26 (k + 7) (by omega), b25 (k + 7) (by omega), b24 (k + 7) (by omega), b23 (k + 7) (by omega), b22 (k + 7) (by omega), b21 (k + 7) (by omega), b20 (k + 7) (by omega), b19 (k + 7) (by omega), b18 (k + 7) (by omega), b17 (k + 7) (by omega), b16 (k + 7) (by omega), b15 (k + 7) (by omega), b14 (k + 7) (by omega), b13 (k + 7) (by omega)]; exact d12
    · rw [b41 (k + 8) (by omega), b40 (k + 8) (by omega), b39 (k + 8) (by omega), b38 (k + 8) (by omega), b37 (k + 8) (by omega), b36 (k + 8) (by omega), b35 (k + 8) (by omega), b34 (k + 8) (by omega), b33 (k + 8) (by omega), b32 (k + 8) (by omega), b31 (k + 8) (by omega), b30 (k + 8) (by omega), b29 (k + 8) (by omega), b28 (k + 8) (by omega), b27 (k + 8) (by omega), b26 (k + 8) (by omega), b25 (k + 8) (by omega), b24 (k + 8) (by omega), b23 (k + 8) (by omega), b22 (k + 8) (by omega), b21 (k + 8) (by omega), b20 (k + 8) (by omega), b19 (k + 8) (by omega), b18 (k + 8) (by omega), b17 (k + 8) (by omega), b16 (k + 8) (by omega), b15 (k + 8) (by omega)]; exact d14
    · rw [b41 (k + 9) (by omega), b40 (k + 9) (by omega), b39 (k + 9) (by omega), b38 (k + 9) (by omega), b37 (k + 9) (by omega), b36 (k + 9) (by omega), b35 (k + 9) (by omega), b34 (k + 9) (by omega), b33 (k + 9) (by omega), b32 (k + 9) (by omega), b31 (k + 9) (by omega), b30 (k + 9) (by omega), b29 (k + 9) (by omega), b28 (k + 9) (by omega), b27 (k + 9) (by omega), b26 (k + 9) (by omega), b25 (k + 9) (by omega), b24 (k + 9) (by omega), b23 (k + 9) (by omega), b22 (k + 9) (by omega), b21 (k + 9) (by omega), b20 (k + 9) (by omega), b19 (k + 9) (by omega), b18 (k + 9) (by omega), b17 (k + 9) (by omega)]; exact d16
    · rw [b41 (k + 10) (by omega), b40 (k + 10) (by omega), b39 (k + 10) (by omega), b38 (k + 10) (by omega), b37 (k + 10) (by omega), b36 (k + 10) (by omega), b35 (k + 10) (by omega), b34 (k + 10) (by omega), b33 (k + 10) (by omega), b32 (k + 10) (by omega), b31 (k + 10) (by omega), b30 (k + 10) (by omega), b29 (k + 10) (by omega), b28 (k + 10) (by omega), b27 (k + 10) (by omega), b26 (k + 10) (by omega), b25 (k + 10) (by omega), b24 (k + 10) (by omega), b23 (k + 10) (by omega), b22 (k + 10) (by omega), b21 (k + 10) (by omega), b20 (k + 10) (by omega), b19 (k + 10) (by omega)]; exact d18
    · rw [b41 (k + 11) (by omega), b40 (k + 11) (by omega), b39 (k + 11) (by omega), b38 (k + 11) (by omega), b37 (k + 11) (by omega), b36 (k + 11) (by omega), b35 (k + 11) (by omega), b34 (k + 11) (by omega), b33 (k + 11) (by omega), b32 (k + 11) (by omega), b31 (k + 11) (by omega), b30 (k + 11) (by omega), b29 (k + 11) (by omega), b28 (k + 11) (by omega), b27 (k + 11) (by omega), b26 (k + 11) (by omega), b25 (k + 11) (by omega), b24 (k + 11) (by omega), b23 (k + 11) (by omega), b22 (k + 11) (by omega), b21 (k + 11) (by omega)]; exact d20
    · rw [b41 (k + 12) (by omega), b40 (k + 12) (by omega), b39 (k + 12) (by omega), b38 (k + 12) (by omega), b37 (k + 12) (by omega), b36 (k + 12) (by omega), b35 (k + 12) (by omega), b34 (k + 12) (by omega), b33 (k + 12) (by omega), b32 (k + 12) (by omega), b31 (k + 12) (by omega), b30 (k + 12) (by omega), b29 (k + 12) (by omega), b28 (k + 12) (by omega), b27 (k + 12) (by omega), b26 (k + 12) (by omega), b25 (k + 12) (by omega), b24 (k + 12) (by omega), b23 (k + 12) (by omega)]; exact d22
    · rw [b41 (k + 13) (by omega), b40 (k + 13) (by omega), b39 (k + 13) (by omega), b38 (k + 13) (by omega), b37 (k + 13) (by omega), b36 (k + 13) (by omega), b35 (k + 13) (by omega), b34 (k + 13) (by omega), b33 (k + 13) (by omega), b32 (k + 13) (by omega), b31 (k + 13) (by omega), b30 (k + 13) (by omega), b29 (k + 13) (by omega), b28 (k + 13) (by omega), b27 (k + 13) (by omega), b26 (k + 13) (by omega), b25 (k + 13) (by omega)]; exact d24
    · rw [b41 (k + 14) (by omega), b40 (k + 14) (by omega), b39 (k + 14) (by omega), b38 (k + 14) (by omega), b37 (k + 14) (by omega), b36 (k + 14) (by omega), b35 (k + 14) (by omega), b34 (k + 14) (by omega), b33 (k + 14) (by omega), b32 (k + 14) (by omega), b31 (k + 14) (by omega), b30 (k + 14) (by omega), b29 (k + 14) (by omega), b28 (k + 14) (by omega), b27 (k + 14) (by omega)]; exact d26
    · rw [b41 (k + 15) (by omega), b40 (k + 15) (by omega), b39 (k + 15) (by omega), b38 (k + 15) (by omega), b37 (k + 15) (by omega), b36 (k + 15) (by omega), b35 (k + 15) (by omega), b34 (k + 15) (by omega), b33 (k + 15) (by omega), b32 (k + 15) (by omega), b31 (k + 15) (by omega), b30 (k + 15) (by omega), b29 (k + 15) (by omega)]; exact d28
    · rw [b41 (k + 16) (by omega), b40 (k + 16) (by omega), b39 (k + 16) (by omega), b38 (k + 16) (by omega), b37 (k + 16) (by omega), b36 (k + 16) (by omega), b35 (k + 16) (by omega), b34 (k + 16) (by omega), b33 (k + 16) (by omega), b32 (k + 16) (by omega), b31 (k + 16) (by omega)]; exact d30
    · rw [b41 (k + 17) (by omega), b40 (k + 17) (by omega), b39 (k + 17) (by omega), b38 (k + 17) (by omega), b37 (k + 17) (by omega), b36 (k + 17) (by omega), b35 (k + 17) (by omega), b34 (k + 17) (by omega), b33 (k + 17) (by omega)]; exact d32
    · rw [b41 (k + 18) (by omega), b40 (k + 18) (by omega), b39 (k + 18) (by omega), b38 (k + 18) (by omega), b37 (k + 18) (by omega), b36 (k + 18) (by omega), b35 (k + 18) (by omega)]; exact d34
    · rw [b41 (k + 19) (by omega), b40 (k + 19) (by omega), b39 (k + 19) (by omega), b38 (k + 19) (by omega), b37 (k + 19) (by omega)]; exact d36
    · rw [b41 (k + 20) (by omega), b40 (k + 20) (by omega), b39 (k + 20) (by omega)]; exact d38
    · rw [b41 (k + 21) (by omega)]; exact d40
end
