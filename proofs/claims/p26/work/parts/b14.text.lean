/-! TEXTS of the law: rows -/
section TX
variable {p : Program} {l : Launch} {e : Env} {R : Room} {s : State} {m : MethodId} {args : Array Value} {below : List Frame} {meth : Method} {c : Code} {H H0 : Heap} {locs : List Loc} {cells slots : Nat} {Q : State → Prop}
variable {cc : ByteArray} {pc nL : Nat} {ls : Array Slot} {st0 rest As Bs : List Value} {Γ : Cx} {sh sh0 : Sh} {v v0 v1 : Va} {w : Vl} {own : String} {idx ci j k n n0 nn hh mL mc ms a d1 d2 : Nat} {cs : List Nat} {y : MethodName} {b : ByteArray} {ret : Option FieldType} {A : Nat → Prop}
theorem EN.gr {s : State} (hE : EN Γ sh0 n0 s) (hG : GR sh0 n0 sh n) (hd : DM sh0 n0) : EN Γ sh n s := ⟨hE.1, hE.2.1, Nat.le_trans hE.2.2.1 (Nat.add_le_add_left hG.1 _), fun a ha hq => hE.2.2.2 a ha fun k e hk hw => hq k e ((hG.2 k (hd _ _ hk)).trans hk) hw⟩
/-- the law's string constants -/
def EL (Γ : Cx) (sh : Sh) : Prop := ∀ t ∈ lawS, LT Γ sh RL t.1 t.2.1 t.2.2
theorem lawS_ok : ∀ t ∈ lawS, (∀ b ∈ t.2.2, 0 ≤ b.toInt ∧ b.toInt < 128) ∧ t.2.2.length ≤ 2500 := by decide +kernel
/-- a text's rows: what the machine has -/
def MC (Γ : Cx) (p : Program) (s : State) (m : MethodId) (args : Array Value) (c : Code) (cc : ByteArray) (nL d1 d2 : Nat) (sh0 : Sh) (n0 : Nat) : Prop := p.tables.exec = Jvm.exec ∧ c.code = cc ∧ c.maxLocals = nL ∧ (∀ w ∈ lw_all, w.before args s = true) ∧ s.vm.findClass RL = some m.cls ∧ wK Γ s ∧ EN Γ sh0 n0 s ∧ DM sh0 n0 ∧ EC Γ sh0 d1 d2 ∧ EL Γ sh0
/-- the world now: grown, in size, framed -/
def WC (Γ : Cx) (s : State) (sh0 : Sh) (n0 : Nat) (w : Vl) (sh : Sh) (v : Va) (n : Nat) (H : Heap) (locs : List Loc) : Prop := GR sh0 n0 sh n ∧ H.size = Γ.2.1 + n ∧ Wd Γ sh v w H ∧ va_S (gA Γ sh0 n0) s.heap H locs
theorem r_lit (hM : MC Γ p s m args c cc nL d1 d2 sh0 n0) (hG : GR sh0 n0 sh n) {t : Nat × String × List Int32} (hm : t ∈ lawS) (hdg : decode cc pc = .ok (.ldc t.1, 2))
    (kk : ∀ ad : Nat, SV Γ sh v ad t.2.2 → W p l e R s m args below meth c H locs cells slots Q (F0 m (pc + 2) ls (.ref ad :: rest))) : W p l e R s m args below meth c H locs cells slots Q (F0 m pc ls rest) := by
  obtain ⟨hx, hb, hml, hts, hown, hK, hE, hd, hC, hL⟩ := hM
  obtain ⟨ad, av, h1, h2⟩ := LT.get hE (hL t hm)
  exact va_ldcS hx hb hown h1 hdg (kk ad (Or.inr ⟨⟨av, h2.gr (hG.F2 hE)⟩, lawS_ok t hm⟩))
theorem r_sb (hM : MC Γ p s m args c cc nL d1 d2 sh0 n0) (hWc : WC Γ s sh0 n0 w sh v n H locs) (hls : ls.size = nL) (hn : n ≤ 1000000) (hR : 3 ≤ R.frames ∧ 100 ≤ R.locals) (hW : ((Value.ref (Γ.2.1 + n) :: rest).map fun v => v.category).sum ≤ 8) (hf : cells + 2 ≤ R.cells ∧ slots + 20 ≤ R.slots) (h1 : decode cc pc = .ok (.new 32, 3)) (h2 : decode cc (pc + 3) = .ok (.dup, 1)) (h3 : decode cc (pc + 4) = .ok (.invokespecial 34, 3))
    (kk : ∀ (sh1 : Sh) (v1 : Va) (H1 : Heap) (locs1 : List Loc), WC Γ s sh0 n0 w sh1 v1 (n + 2) H1 locs1 → GR sh n sh1 (n + 2) → (∀ q, q < n → v1 q = v q) → SBc sh1 v1 n (n + 1) 16 [] → W p l e R s m args below meth c H1 locs1 (cells + 2) (slots + 20) Q (F0 m (pc + 7) ls (.ref (Γ.2.1 + n) :: rest))) : W p l e R s m args below meth c H locs cells slots Q (F0 m pc ls rest) := by
  obtain ⟨hx, hb, hml, hts, hown, hK, hE, hd, hC, hL⟩ := hM
  obtain ⟨hG, hz, hP, hS⟩ := hWc
  refine w_new (n := n) hx hb hts hown hK hP hS nL_32 (by omega) (by omega) hz h1 fun H1 hz hP hS => ?_
  refine lv_dup hx hb h2 rfl ?_
  have hG1 : GR sh0 n0 (up sh n (some (sO 13 [2, 0, 0, 0]))) (n + 1) := hG.nw
  refine t_callv (Bs := []) (w_rI (k := n) hx hb hml hts hown hK (c_SB_init (S9 := 16) (hC.gr hG1 hE) (up_eq _ _ _) (Nat.le_refl _) (by omega)) rfl rfl kJ4_init_da8c8 mL_34 PN.blind (t_pn hK hd hG1 hE hS hP hz) rfl hls rfl hW ⟨hR.1, Nat.le_trans (by decide) hR.2⟩ ⟨by omega, by omega⟩ h3) hG1 hS fun u H1 locs1 hp1 hz hP hS => ?_
  rw [hp1] at hz hP
  dsimp only at hz hP
  have hne : n ≠ n + 1 := by omega
  refine kk _ _ H1 locs1 ⟨⟨Nat.le_trans hG.1 (by omega), fun q hq => ?_⟩, hz, hP, hS⟩ ⟨by omega, fun q hq => ?_⟩ (fun q hq => ?_) (SBc.new hne ?_ (by omega))
  · have := hG.1
    rw [up_ne (by omega), up_ne (by omega), up_ne (by omega)]; exact hG.2 q hq
  · rw [up_ne (by omega), up_ne (by omega), up_ne (by omega)]
  · rw [up_ne (by omega), up_ne (by omega), up_ne (by omega), up_ne (by omega)]
  · rw [up_eq]
theorem r_apS (hM : MC Γ p s m args c cc nL d1 d2 sh0 n0) (hWc : WC Γ s sh0 n0 w sh v n H locs) (hls : ls.size = nL) {ad p0 cap : Nat} {B L : List Int32} (hT : SV Γ sh v ad B) (hB : SBc sh v k p0 cap L) (hlen : L.length + B.length ≤ 2500) (hn : n ≤ 1000000) (hR : 6 ≤ R.frames ∧ 230 ≤ R.locals) (hW : (rest.map fun v => v.category).sum ≤ 8) (hf : cells + 1 ≤ R.cells ∧ slots + 6000 ≤ R.slots) (hdg : decode cc pc = .ok (.invokevirtual 37, 3))
    (kk : ∀ (sh1 : Sh) (v1 : Va) (n1 p1 cap1 : Nat) (H1 : Heap) (locs1 : List Loc), WC Γ s sh0 n0 w sh1 v1 n1 H1 locs1 → KP sh v n k p0 (sh1, v1, n1) → n1 ≤ n + 1 → SBc sh1 v1 k p1 cap1 (L ++ B) → (p1 = p0 ∨ n ≤ p1) → W p l e R s m args below meth c H1 locs1 (cells + 1) (slots + 6000) Q (F0 m (pc + 3) ls (.ref (Γ.2.1 + k) :: rest))) : W p l e R s m args below meth c H locs cells slots Q (F0 m pc ls (.ref ad :: .ref (Γ.2.1 + k) :: rest)) := by
  obtain ⟨hx, hb, hml, hts, hown, hK, hE, hd, hC, hL⟩ := hM
  obtain ⟨hG, hz, hP, hS⟩ := hWc
  refine t_callr (post := fun r u => r = k ∧ APS sh v n k p0 (L ++ B) u) (Bs := []) (w_rV (k := k) hx hb hml hts hown hK (c_SB_append hT (hC.gr hG hE) hB hlen hn) rfl rfl kJ4_append_15ec4 mL_37 (w_recv hK hP hB.1 rfl) PN.blind (t_pn hK hd hG hE hS hP hz) rfl hls rfl hW ⟨hR.1, Nat.le_trans (by decide) hR.2⟩ hf hdg) hG hS fun r u H1 locs1 hp1 hz hP hS => ?_
  obtain ⟨hr1, hk1, hn1, p1, cap1, hB1, hpp⟩ := hp1
  obtain ⟨sh1, v1, n1⟩ := u
  rw [hr1]
  exact kk sh1 v1 n1 p1 cap1 H1 locs1 ⟨hG.tr hk1.1, hz, hP, hS⟩ hk1 hn1 hB1 hpp
theorem r_apI (hM : MC Γ p s m args c cc nL d1 d2 sh0 n0) (hWc : WC Γ s sh0 n0 w sh v n H locs) (hls : ls.size = nL) {z0 p0 cap : Nat} {L : List Int32} (hz0 : z0 ≤ 9999) (hB : SBc sh v k p0 cap L) (hlen : L.length + (decL z0).length ≤ 2500) (hn : n ≤ 1000000) (hR : 6 ≤ R.frames ∧ 230 ≤ R.locals) (hW : (rest.map fun v => v.category).sum ≤ 8) (hf : cells + 1 ≤ R.cells ∧ slots + 6000 ≤ R.slots) (hdg : decode cc pc = .ok (.invokevirtual 41, 3))
    (kk : ∀ (sh1 : Sh) (v1 : Va) (n1 p1 cap1 : Nat) (H1 : Heap) (locs1 : List Loc), WC Γ s sh0 n0 w sh1 v1 n1 H1 locs1 → KP sh v n k p0 (sh1, v1, n1) → n1 ≤ n + 1 → SBc sh1 v1 k p1 cap1 (L ++ decL z0) → (p1 = p0 ∨ n ≤ p1) → W p l e R s m args below meth c H1 locs1 (cells + 1) (slots + 6000) Q (F0 m (pc + 3) ls (.ref (Γ.2.1 + k) :: rest))) : W p l e R s m args below meth c H locs cells slots Q (F0 m pc ls (.int (nI z0) :: .ref (Γ.2.1 + k) :: rest)) := by
  obtain ⟨hx, hb, hml, hts, hown, hK, hE, hd, hC, hL⟩ := hM
  obtain ⟨hG, hz, hP, hS⟩ := hWc
  refine t_callr (post := fun r u => r = k ∧ APS sh v n k p0 (L ++ decL z0) u) (Bs := []) (w_rV (k := k) hx hb hml hts hown hK (c_SB_appendI hz0 (hC.gr hG hE) hB hlen hn) rfl rfl kJ4_append_bf812 mL_41 (w_recv hK hP hB.1 rfl) PN.blind (t_pn hK hd hG hE hS hP hz) rfl hls rfl hW ⟨hR.1, Nat.le_trans (by decide) hR.2⟩ hf hdg) hG hS fun r u H1 locs1 hp1 hz hP hS => ?_
  obtain ⟨hr1, hk1, hn1, p1, cap1, hB1, hpp⟩ := hp1
  obtain ⟨sh1, v1, n1⟩ := u
  rw [hr1]
  exact kk sh1 v1 n1 p1 cap1 H1 locs1 ⟨hG.tr hk1.1, hz, hP, hS⟩ hk1 hn1 hB1 hpp
theorem r_toS (hM : MC Γ p s m args c cc nL d1 d2 sh0 n0) (hWc : WC Γ s sh0 n0 w sh v n H locs) (hls : ls.size = nL) {p0 cap : Nat} {L : List Int32} (hB : SBc sh v k p0 cap L) (hrg : ∀ b ∈ L, 0 ≤ b.toInt ∧ b.toInt < 128) (hlen : L.length ≤ 2500) (hn : n ≤ 1000000) (hR : 6 ≤ R.frames ∧ 230 ≤ R.locals) (hW : (rest.map fun v => v.category).sum ≤ 8) (hf : cells + 2 ≤ R.cells ∧ slots + 2600 ≤ R.slots) (hdg : decode cc pc = .ok (.invokevirtual 44, 3))
    (kk : ∀ (sh1 : Sh) (v1 : Va) (H1 : Heap) (locs1 : List Loc), WC Γ s sh0 n0 w sh1 v1 (n + 2) H1 locs1 → GR sh n sh1 (n + 2) → (∀ q, q < n → v1 q = v q) → STc sh1 v1 n (n + 1) L → W p l e R s m args below meth c H1 locs1 (cells + 2) (slots + 2600) Q (F0 m (pc + 3) ls (.ref (Γ.2.1 + n) :: rest))) : W p l e R s m args below meth c H locs cells slots Q (F0 m pc ls (.ref (Γ.2.1 + k) :: rest)) := by
  obtain ⟨hx, hb, hml, hts, hown, hK, hE, hd, hC, hL⟩ := hM
  obtain ⟨hG, hz, hP, hS⟩ := hWc
  refine t_callr (post := fun r u => r = n ∧ STR sh v n L u) (Bs := []) (w_rV (k := k) hx hb hml hts hown hK (c_SB_toString (S9 := 2600) (hC.gr hG hE) hB hrg hlen (by omega) hn) rfl rfl kJ4_toString_0e30d mL_44 (w_recv hK hP hB.1 rfl) PN.blind (t_pn hK hd hG hE hS hP hz) rfl hls rfl hW ⟨hR.1, Nat.le_trans (by decide) hR.2⟩ hf hdg) hG hS fun r u H1 locs1 hp1 hz hP hS => ?_
  obtain ⟨hr1, hk1, hn1, hq1, hs1⟩ := hp1
  obtain ⟨sh1, v1, n1⟩ := u
  dsimp only at hk1 hn1 hq1 hs1 hz hP
  subst hn1
  rw [hr1]
  exact kk sh1 v1 H1 locs1 ⟨hG.tr hk1, hz, hP, hS⟩ hk1 hq1 hs1
end TX
