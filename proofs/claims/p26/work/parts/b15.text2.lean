/-! TEXTS of the law: bundles -/
section TX
variable {p : Program} {l : Launch} {e : Env} {R : Room} {s : State} {m : MethodId} {args : Array Value} {below : List Frame} {meth : Method} {c : Code} {H H0 : Heap} {locs : List Loc} {cells slots : Nat} {Q : State → Prop}
variable {cc : ByteArray} {pc nL : Nat} {ls : Array Slot} {st0 rest As Bs : List Value} {Γ : Cx} {sh sh0 shb : Sh} {v v0 v1 : Va} {w : Vl} {own : String} {idx ci j k n n0 nb nn hh mL mc ms a d1 d2 : Nat} {cs : List Nat} {y : MethodName} {b : ByteArray} {ret : Option FieldType} {A : Nat → Prop}
/-- what stood, stands; strings that were made -/
def SX (Γ : Cx) (shb : Sh) (v0 : Va) (nb C : Nat) (X : List (Nat × List Int32 × Nat)) (sh : Sh) (v : Va) (n : Nat) : Prop := (∀ q, q < nb → v q = v0 q) ∧ n ≤ nb + C ∧ (∀ t ∈ X, SV Γ sh v t.1 t.2.1 ∧ t.2.1.length ≤ t.2.2) ∧ GR shb nb sh n
/-- a builder of one's own -/
def BX (nb : Nat) (sh : Sh) (v : Va) (k : Nat) (L : List Int32) (N : Nat) : Prop := nb ≤ k ∧ L.length ≤ N ∧ (∀ b ∈ L, 0 ≤ b.toInt ∧ b.toInt < 128) ∧ ∃ p cap, nb ≤ p ∧ SBc sh v k p cap L
theorem app_rg {L B : List Int32} (h1 : ∀ b ∈ L, 0 ≤ b.toInt ∧ b.toInt < 128) (h2 : ∀ b ∈ B, 0 ≤ b.toInt ∧ b.toInt < 128) : ∀ b ∈ L ++ B, 0 ≤ b.toInt ∧ b.toInt < 128 := fun b hb => (List.mem_append.mp hb).elim (h1 b) (h2 b)
theorem SX.step {X : List (Nat × List Int32 × Nat)} {C : Nat} {s : State} {sh1 : Sh} {v1 : Va} {n1 : Nat} (hX : SX Γ shb v0 nb C X sh v n) (hE : EN Γ sh0 n0 s) (hd0 : DM sh0 n0) (hG0 : GR sh0 n0 sh n) (hd : DM sh n) (hG : GR sh n sh1 n1) (hro : RO sh v v1) (hq : ∀ q, q < nb → v1 q = v q) {K : Nat} (hn : n1 ≤ n + K) : SX Γ shb v0 nb (C + K) X sh1 v1 n1 := ⟨fun q h => (hq q h).trans (hX.1 q h), by have := hX.2.1; omega, fun t ht => ⟨(hX.2.2.1 t ht).1.gr hd hG (hE.gr hG0 hd0) hro, (hX.2.2.1 t ht).2⟩, hX.2.2.2.tr hG⟩
theorem s_sb (hM : MC Γ p s m args c cc nL d1 d2 sh0 n0) (hWc : WC Γ s sh0 n0 w sh v n H locs) {C : Nat} {X : List (Nat × List Int32 × Nat)} (hX : SX Γ shb v0 nb C X sh v n) (hls : ls.size = nL) (hn : nb + C ≤ 1000000) (hR : 3 ≤ R.frames ∧ 100 ≤ R.locals) (hW : ((Value.ref (Γ.2.1 + n) :: rest).map fun v => v.category).sum ≤ 8) (hf : cells + 2 ≤ R.cells ∧ slots + 20 ≤ R.slots) (h1 : decode cc pc = .ok (.new 32, 3)) (h2 : decode cc (pc + 3) = .ok (.dup, 1)) (h3 : decode cc (pc + 4) = .ok (.invokespecial 34, 3))
    (kk : ∀ (sh1 : Sh) (v1 : Va) (n1 k : Nat) (H1 : Heap) (locs1 : List Loc), WC Γ s sh0 n0 w sh1 v1 n1 H1 locs1 → SX Γ shb v0 nb (C + 2) X sh1 v1 n1 → BX nb sh1 v1 k [] 0 → W p l e R s m args below meth c H1 locs1 (cells + 2) (slots + 20) Q (F0 m (pc + 7) ls (.ref (Γ.2.1 + k) :: rest))) : W p l e R s m args below meth c H locs cells slots Q (F0 m pc ls rest) := by
  have hnn := hX.2.1
  refine r_sb hM hWc hls (by omega) hR hW hf h1 h2 h3 fun sh1 v1 H1 locs1 hWc1 hG1 hq hB => ?_
  have hd : DM sh n := Wd.dm hWc.2.2.1 hWc.2.1
  have hn0 := hX.2.2.2.1
  refine kk sh1 v1 (n + 2) n H1 locs1 hWc1 (hX.step hM.2.2.2.2.2.2.1 hM.2.2.2.2.2.2.2.1 hWc.1 hd hG1 (fun q e he _ => hq q (hd _ _ he)) (fun q h => hq q (by omega)) (Nat.le_refl _)) ⟨hn0, Nat.le_refl _, fun b hb => absurd hb List.not_mem_nil, n + 1, 16, by omega, hB⟩
theorem s_apS (hM : MC Γ p s m args c cc nL d1 d2 sh0 n0) (hWc : WC Γ s sh0 n0 w sh v n H locs) {C : Nat} {X : List (Nat × List Int32 × Nat)} (hX : SX Γ shb v0 nb C X sh v n) (hls : ls.size = nL) {ad M N : Nat} {B L : List Int32} (hT : SV Γ sh v ad B ∧ B.length ≤ M) (hB : BX nb sh v k L N) (hlen : N + M ≤ 2500) (hn : nb + C ≤ 1000000) (hR : 6 ≤ R.frames ∧ 230 ≤ R.locals) (hW : (rest.map fun v => v.category).sum ≤ 8) (hf : cells + 1 ≤ R.cells ∧ slots + 6000 ≤ R.slots) (hdg : decode cc pc = .ok (.invokevirtual 37, 3))
    (kk : ∀ (sh1 : Sh) (v1 : Va) (n1 : Nat) (H1 : Heap) (locs1 : List Loc), WC Γ s sh0 n0 w sh1 v1 n1 H1 locs1 → SX Γ shb v0 nb (C + 1) X sh1 v1 n1 → BX nb sh1 v1 k (L ++ B) (N + M) → W p l e R s m args below meth c H1 locs1 (cells + 1) (slots + 6000) Q (F0 m (pc + 3) ls (.ref (Γ.2.1 + k) :: rest))) : W p l e R s m args below meth c H locs cells slots Q (F0 m pc ls (.ref ad :: .ref (Γ.2.1 + k) :: rest)) := by
  have hnn := hX.2.1
  obtain ⟨hk, hLN, hrg, p0, cap, hp0, hBc⟩ := hB
  refine r_apS hM hWc hls hT.1 hBc (by omega) (by omega) hR hW hf hdg fun sh1 v1 n1 p1 cap1 H1 locs1 hWc1 hkp hn1 hB1 hpp => ?_
  have hd : DM sh n := Wd.dm hWc.2.2.1 hWc.2.1
  have hn0 := hX.2.2.2.1
  refine kk sh1 v1 n1 H1 locs1 hWc1 (hX.step hM.2.2.2.2.2.2.1 hM.2.2.2.2.2.2.2.1 hWc.1 hd hkp.1 (hkp.ro hBc hd) (fun q h => hkp.2 q (by omega) (by omega) (by omega)) hn1) ⟨hk, by rw [List.length_append]; omega, app_rg hrg hT.1.rg, p1, cap1, by omega, hB1⟩
theorem s_apI (hM : MC Γ p s m args c cc nL d1 d2 sh0 n0) (hWc : WC Γ s sh0 n0 w sh v n H locs) {C : Nat} {X : List (Nat × List Int32 × Nat)} (hX : SX Γ shb v0 nb C X sh v n) (hls : ls.size = nL) {z0 N : Nat} {L : List Int32} (hz0 : z0 ≤ 9999) (hB : BX nb sh v k L N) (hlen : N + 4 ≤ 2500) (hn : nb + C ≤ 1000000) (hR : 6 ≤ R.frames ∧ 230 ≤ R.locals) (hW : (rest.map fun v => v.category).sum ≤ 8) (hf : cells + 1 ≤ R.cells ∧ slots + 6000 ≤ R.slots) (hdg : decode cc pc = .ok (.invokevirtual 41, 3))
    (kk : ∀ (sh1 : Sh) (v1 : Va) (n1 : Nat) (H1 : Heap) (locs1 : List Loc), WC Γ s sh0 n0 w sh1 v1 n1 H1 locs1 → SX Γ shb v0 nb (C + 1) X sh1 v1 n1 → BX nb sh1 v1 k (L ++ decL z0) (N + 4) → W p l e R s m args below meth c H1 locs1 (cells + 1) (slots + 6000) Q (F0 m (pc + 3) ls (.ref (Γ.2.1 + k) :: rest))) : W p l e R s m args below meth c H locs cells slots Q (F0 m pc ls (.int (nI z0) :: .ref (Γ.2.1 + k) :: rest)) := by
  have hnn := hX.2.1
  obtain ⟨hk, hLN, hrg, p0, cap, hp0, hBc⟩ := hB
  have h4 : (decL z0).length ≤ 4 := by rw [decL_len]; exact lenD_le.2
  refine r_apI hM hWc hls hz0 hBc (by omega) (by omega) hR hW hf hdg fun sh1 v1 n1 p1 cap1 H1 locs1 hWc1 hkp hn1 hB1 hpp => ?_
  have hd : DM sh n := Wd.dm hWc.2.2.1 hWc.2.1
  have hn0 := hX.2.2.2.1
  refine kk sh1 v1 n1 H1 locs1 hWc1 (hX.step hM.2.2.2.2.2.2.1 hM.2.2.2.2.2.2.2.1 hWc.1 hd hkp.1 (hkp.ro hBc hd) (fun q h => hkp.2 q (by omega) (by omega) (by omega)) hn1) ⟨hk, by rw [List.length_append]; omega, app_rg hrg (decL_rg hz0), p1, cap1, by omega, hB1⟩
theorem s_toS (hM : MC Γ p s m args c cc nL d1 d2 sh0 n0) (hWc : WC Γ s sh0 n0 w sh v n H locs) {C : Nat} {X : List (Nat × List Int32 × Nat)} (hX : SX Γ shb v0 nb C X sh v n) (hls : ls.size = nL) {N : Nat} {L : List Int32} (hB : BX nb sh v k L N) (hlen : N ≤ 2500) (hn : nb + C ≤ 1000000) (hR : 6 ≤ R.frames ∧ 230 ≤ R.locals) (hW : (rest.map fun v => v.category).sum ≤ 8) (hf : cells + 2 ≤ R.cells ∧ slots + 2600 ≤ R.slots) (hdg : decode cc pc = .ok (.invokevirtual 44, 3))
    (kk : ∀ (sh1 : Sh) (v1 : Va) (n1 t : Nat) (H1 : Heap) (locs1 : List Loc), WC Γ s sh0 n0 w sh1 v1 n1 H1 locs1 → SX Γ shb v0 nb (C + 2) ((t, L, N) :: X) sh1 v1 n1 → W p l e R s m args below meth c H1 locs1 (cells + 2) (slots + 2600) Q (F0 m (pc + 3) ls (.ref t :: rest))) : W p l e R s m args below meth c H locs cells slots Q (F0 m pc ls (.ref (Γ.2.1 + k) :: rest)) := by
  have hnn := hX.2.1
  obtain ⟨hk, hLN, hrg, p0, cap, hp0, hBc⟩ := hB
  refine r_toS hM hWc hls hBc hrg (by omega) (by omega) hR hW hf hdg fun sh1 v1 H1 locs1 hWc1 hG1 hq hS1 => ?_
  have hd : DM sh n := Wd.dm hWc.2.2.1 hWc.2.1
  have hn0 := hX.2.2.2.1
  have hX1 := hX.step hM.2.2.2.2.2.2.1 hM.2.2.2.2.2.2.2.1 hWc.1 hd hG1 (fun q e he _ => hq q (hd _ _ he)) (fun q h => hq q (by omega)) (Nat.le_refl _)
  exact kk sh1 v1 (n + 2) (Γ.2.1 + n) H1 locs1 hWc1 ⟨hX1.1, hX1.2.1, List.forall_mem_cons.mpr ⟨⟨Or.inl ⟨n, n + 1, rfl, hS1⟩, hLN⟩, hX1.2.2.1⟩, hX1.2.2.2⟩
theorem s_lit (hM : MC Γ p s m args c cc nL d1 d2 sh0 n0) (hWc : WC Γ s sh0 n0 w sh v n H locs) {i idx : Nat} {tx : String} {B : List Int32} {M : Nat} (hm : lawS[i]? = some (idx, tx, B)) (hl : B.length ≤ M) (hdg : decode cc pc = .ok (.ldc idx, 2))
    (kk : ∀ ad : Nat, SV Γ sh v ad B ∧ B.length ≤ M → W p l e R s m args below meth c H locs cells slots Q (F0 m (pc + 2) ls (.ref ad :: rest))) : W p l e R s m args below meth c H locs cells slots Q (F0 m pc ls rest) :=
  r_lit hM hWc.1 (List.mem_of_getElem? hm) hdg fun ad h => kk ad ⟨h, hl⟩
/-- an element of an array that stood -/
theorem s_el (hM : MC Γ p s m args c cc nL d1 d2 sh0 n0) (hWc : WC Γ s sh0 n0 w sh v n H locs) {C : Nat} {X : List (Nat × List Int32 × Nat)} (hX : SX Γ shb v0 nb C X sh v n) {N : Nat} (he : shb k = some (sA N)) (hkb : k < nb) {i x : Int32} {j : Nat} (hi : i.toNatClampNeg = j) (hin : vp_in i N) (hv : v0 k j = x) (hdg : decode cc pc = .ok (.iaload, 1))
    (kk : W p l e R s m args below meth c H locs cells slots Q (F0 m (pc + 1) ls (.int x :: rest))) : W p l e R s m args below meth c H locs cells slots Q (F0 m pc ls (.int i :: .ref (Γ.2.1 + k) :: rest)) := by
  obtain ⟨hx, hb, hml, hts, hown, hK, hE, hd, hC, hL⟩ := hM
  refine w_iald hx hb hK hWc.2.2.1 ((hX.2.2.2.2 k hkb).trans he) hin hdg ?_
  rw [hi, hX.1 k hkb, hv]
  exact kk
end TX
/-- a method that makes a text and nothing else -/
def TXP (Γ : Cx) (sh : Sh) (v : Va) (n K : Nat) (B : List Int32) (M : Nat) (r : Nat) (u : Wt) : Prop := GR sh n u.1 u.2.2 ∧ (∀ q, q < n → u.2.1 q = v q) ∧ u.2.2 ≤ n + K ∧ SV Γ u.1 u.2.1 r B ∧ B.length ≤ M
