/-! LIST, six: the new object, rows of rows -/
section LX
variable {p : Program} {l : Launch} {e : Env} {R : Room} {s : State} {m : MethodId} {args : Array Value} {below : List Frame} {meth : Method} {c : Code} {H H0 : Heap} {locs : List Loc} {cells slots : Nat} {Q : State → Prop}
variable {cc : ByteArray} {pc nL : Nat} {ls : Array Slot} {st0 rest As Bs : List Value} {Γ : Cx} {sh sh0 shb : Sh} {v v0 v1 : Va} {w : Vl} {own : String} {idx ci j k n n0 nb nn hh mL mc ms a d1 d2 : Nat} {cs : List Nat} {y : MethodName} {b : ByteArray} {ret : Option FieldType} {A : Nat → Prop}
variable {kt p0 C N b0 L0 ks pl nl pg ng pm nm pt nt po no : Nat} {T : List Int32} {P P0 : Pfn} {xs : Nat → Int32}
/-- rows of rows that were just made -/
def rrP (P : Pfn) (k N : Nat) : Pfn := fun q => if q = k then some (sR N (rfs N fun i => k + 1 + i), fun _ => 0) else if k < q ∧ q ≤ k + N then some (sA N, fun _ => 0) else P q
theorem l_multi (hM : MC Γ p s m args c cc nL d1 d2 sh0 n0) (hER : ER Γ) (hL : LST Γ s sh0 v0 n0 w kt p0 C T N P sh v n H locs) (hkt : kt < n0) (hp0 : p0 < n0) {M : Nat} (hlk : Cond.classLink RL idx "[[I" ∈ lw_all) (hM0 : 1 ≤ M) (hM1 : M ≤ 1000) (hf : cells + (1 + M) ≤ R.cells ∧ slots + (M + M * M) ≤ R.slots) (hdg : decode cc pc = .ok (.multianewarray idx 2, 4))
    (kk : ∀ (sh1 : Sh) (v1 : Va) (k : Nat) (H1 : Heap) (locs1 : List Loc), n0 ≤ k → (∀ q e, P q = some e → q < k) → LST Γ s sh0 v0 n0 w kt p0 (C + (1 + M)) T N (rrP P k M) sh1 v1 (k + 1 + M) H1 locs1 → W p l e R s m args below meth c H1 locs1 (cells + 1 + M) (slots + M + M * M) Q (F0 m (pc + 4) ls (.ref (Γ.2.1 + k) :: rest))) : W p l e R s m args below meth c H locs cells slots Q (F0 m pc ls (.int (nI M) :: .int (nI M) :: rest)) := by
  obtain ⟨hx, hb, hml, hts, hown, hK, hE, hd, hC, hEL⟩ := hM
  have hG := hL.1.1
  have hn0 := hG.1
  have hlt : ∀ q e, P q = some e → q < n := fun q e h9 => (hL.lo (q := q) (e := e.1) (g := e.2) h9).2
  refine w_multi (n := n) hx hb hts hown hK hL.hP hL.hS (fun q hq => gA_new (by omega)) hlk (hER.at hE) hM0 hM1 hf.1 hf.2 hL.1.2.1 hdg fun H1 locs1 hz hP hS => ?_
  have hsame : ∀ q, q < n → rr_sh sh n M q = sh q ∧ rr_v v n M q = v q := fun q hq => by
    unfold rr_sh rr_v
    rw [if_neg (by omega), if_neg (by omega), if_neg (by omega)]
    exact ⟨rfl, rfl⟩
  have hG1 : GR sh n (rr_sh sh n M) (n + 1 + M) := ⟨by omega, fun q hq => (hsame q hq).1⟩
  have h1 := hL.more hkt hp0 (K := 1 + M) (n1 := n + 1 + M) ⟨hG.tr hG1, hz, hP, hS⟩ hG1 (fun q hq => (hsame q hq).2) (by omega)
  refine kk _ _ n H1 locs1 hG.1 hlt ⟨h1.1, h1.2.1, h1.2.2.1, h1.2.2.2.1, fun q e g hq => ?_⟩
  unfold rrP at hq
  unfold rr_sh rr_v
  by_cases h2 : q = n
  · rw [if_pos h2] at hq
    cases hq
    rw [if_pos h2, if_pos (by omega)]
    exact ⟨rfl, rfl, trivial, by omega⟩
  · rw [if_neg h2] at hq
    by_cases h3 : n < q ∧ q ≤ n + M
    · rw [if_pos h3] at hq
      cases hq
      rw [if_neg h2, if_pos h3, if_pos (by omega)]
      exact ⟨rfl, rfl, trivial, by omega⟩
    · rw [if_neg h3] at hq
      have h4 := hlt q _ hq
      rw [if_neg h2, if_neg h3, if_neg (by omega)]
      exact hL.2.2.2.2 q e g hq
/-- the object's constructor has run -/
theorem LST.sim (hL : LST Γ s sh0 v0 n0 w kt p0 C T N P sh v n H locs) (hkt : kt < n0) (hp0 : p0 < n0) {g : Nat → Int32} (hk : P k = some (sO 11 [0, 0, 2, 2, 2, 2, 2, 2, 2], g)) {u : Wt} (hu : SMI sh v n k u) {H1 : Heap} {locs1 : List Loc} (hz : H1.size = Γ.2.1 + u.2.2) (hP : Wd Γ u.1 u.2.1 w H1) (hS : va_S (gA Γ sh0 n0) s.heap H1 locs1) : LST Γ s sh0 v0 n0 w kt p0 (C + 7) T N (up (up P k (some (oSim n, u.2.1 k))) (n + 6) (some (sA 3, fun _ => 0))) u.1 u.2.1 (n + 7) H1 locs1 := by
  obtain ⟨hWc, hnC, hold, ⟨hLN, hrg, p1, cap, hB, hpp⟩, hSN⟩ := id hL
  obtain ⟨a1, a2, a3, a4⟩ := hSN _ _ _ hk
  have hn0 := hWc.1.1
  have hd := hL.d
  have hkn := hd _ _ a1
  obtain ⟨u1, u2, u3, u4, u5, u6, u7, u8, u9⟩ := hu
  have hk1 : kt ≠ k := fun e1 => by rw [← e1, hB.1] at a1; cases a1
  have hk2 : p1 ≠ k := fun e1 => by rw [← e1, hB.2.2.2.2.1] at a1; cases a1
  have hb1 := u2 kt hk1 (hd _ _ hB.1)
  have hb2 := u2 p1 hk2 (hd _ _ hB.2.2.2.2.1)
  rw [u1] at hz
  refine ⟨⟨⟨by omega, fun q hq => (u2 q (by omega) (by omega)).1.trans (hWc.1.2 q hq)⟩, hz, hP, hS⟩, by omega, fun q hq h1 h2 => (u2 q (by omega) (by omega)).2.trans (hold q hq h1 h2), ⟨hLN, hrg, p1, cap, ?_, hpp⟩, fun q e g hq => ?_⟩
  · obtain ⟨b1, b2, b3, b4, b5, b6, b7, b8, b9⟩ := hB
    exact ⟨hb1.1.trans b1, by rw [hb1.2]; exact b2, by rw [hb1.2]; exact b3, by rw [hb1.2]; exact b4, hb2.1.trans b5, b6, b7, fun i hi => by rw [hb2.2]; exact b8 i hi, fun i hi => by rw [hb2.2]; exact b9 i hi⟩
  · by_cases h1 : q = n + 6
    · subst h1
      rw [up_eq] at hq
      cases hq
      exact ⟨u8, u9, trivial, by omega⟩
    · rw [up_ne h1] at hq
      by_cases h2 : q = k
      · subst h2
        rw [up_eq] at hq
        cases hq
        exact ⟨u3, rfl, rfl, a4⟩
      · rw [up_ne h2] at hq
        obtain ⟨c1, c2, c3, c4⟩ := hSN q e g hq
        have h3 := u2 q h2 (hd _ _ c1)
        exact ⟨h3.1.trans c1, h3.2.trans c2, c3, c4⟩
end LX
