/-! LIST, five: calls of sum and when, a row of an order -/
section LX
variable {p : Program} {l : Launch} {e : Env} {R : Room} {s : State} {m : MethodId} {args : Array Value} {below : List Frame} {meth : Method} {c : Code} {H H0 : Heap} {locs : List Loc} {cells slots : Nat} {Q : State → Prop}
variable {cc : ByteArray} {pc nL : Nat} {ls : Array Slot} {st0 rest As Bs : List Value} {Γ : Cx} {sh sh0 shb : Sh} {v v0 v1 : Va} {w : Vl} {own : String} {idx ci j k n n0 nb nn hh mL mc ms a d1 d2 : Nat} {cs : List Nat} {y : MethodName} {b : ByteArray} {ret : Option FieldType} {A : Nat → Prop}
variable {kt p0 C N b0 L0 ks pl nl pg ng pm nm pt nt po no : Nat} {T : List Int32} {P P0 : Pfn} {xs : Nat → Int32}
theorem EL.gr {s : State} (h : EL Γ sh0) (hG : GR sh0 n0 sh n) (hE : EN Γ sh0 n0 s) : EL Γ sh := fun t ht => by
  obtain ⟨ad, av, h1, h2⟩ := h t ht
  exact ⟨ad, av, h1, h2.gr (hG.F2 hE)⟩
theorem s_sum (hM : MC Γ p s m args c cc nL d1 d2 sh0 n0) (hWc : WC Γ s sh0 n0 w sh v n H locs) {X : List (Nat × List Int32 × Nat)} (hX : SX Γ shb v0 nb C X sh v n) (hls : ls.size = nL) {kb M : Nat} {B L : List Int32} (hB : BX nb sh v kb L N) (hMet : MetTA l yL_sum cL_sum 4 (some (.object "java/lang/String")) 7 60 100000 Γ sh v w n [.ref (Γ.2.1 + k)] (fun r u => TXP Γ sh v n 60 B M r u)) (hR : 8 ≤ R.frames ∧ 310 ≤ R.locals) (hW : (rest.map fun v => v.category).sum ≤ 8) (hf : cells + 60 ≤ R.cells ∧ slots + 100000 ≤ R.slots) (hdg : decode cc pc = .ok (.invokestatic 192, 3))
    (kk : ∀ (sh1 : Sh) (v1 : Va) (n1 r : Nat) (H1 : Heap) (locs1 : List Loc), WC Γ s sh0 n0 w sh1 v1 n1 H1 locs1 → SX Γ shb v0 nb (C + 60) ((r, B, M) :: X) sh1 v1 n1 → BX nb sh1 v1 kb L N → W p l e R s m args below meth c H1 locs1 (cells + 60) (slots + 100000) Q (F0 m (pc + 3) ls (.ref r :: rest))) : W p l e R s m args below meth c H locs cells slots Q (F0 m pc ls (.ref (Γ.2.1 + k) :: rest)) := by
  obtain ⟨hx, hb, hml, hts, hown, hK, hE, hd, hC, hL⟩ := id hM
  obtain ⟨hG, hz, hP, hS⟩ := id hWc
  refine t_callA (post := fun r u => TXP Γ sh v n 60 B M r u) (Bs := [.ref (Γ.2.1 + k)]) (w_rS hx hb hml hts hown hK hMet rfl rfl kL_sum mL_192 PN.blind (t_pn hK hd hG hE hS hP hz) rfl hls rfl hW ⟨hR.1, Nat.le_trans (by decide) hR.2⟩ hf hdg) hG hS fun r u H1 locs1 hp1 hz hP hS => ?_
  obtain ⟨hG1, hq1, hn1, hS1, hM1⟩ := hp1
  obtain ⟨sh1, v1, n1⟩ := u
  dsimp only at hG1 hq1 hn1 hS1 hz hP
  have hdn : DM sh n := Wd.dm hWc.2.2.1 hWc.2.1
  have hnb := hX.2.2.2.1
  have hX1 := hX.step hE hd hG hdn hG1 (fun q e he _ => hq1 q (hdn _ _ he)) (fun q h => hq1 q (by omega)) hn1
  obtain ⟨b1, b2, b3, p1, cap, b4, b5⟩ := hB
  exact kk sh1 v1 n1 r H1 locs1 ⟨hG.tr hG1, hz, hP, hS⟩ ⟨hX1.1, hX1.2.1, List.forall_mem_cons.mpr ⟨⟨hS1, hM1⟩, hX1.2.2.1⟩, hX1.2.2.2⟩ ⟨b1, b2, b3, p1, cap, b4, b5.gr hdn hG1 (hq1 _ (hdn _ _ b5.1)) (hq1 _ (hdn _ _ b5.2.2.2.2.1))⟩
theorem l_when (hM : MC Γ p s m args c cc nL d1 d2 sh0 n0) (hL : LST Γ s sh0 v0 n0 w kt p0 C T N P sh v n H locs) (hkt : kt < n0) (hp0 : p0 < n0) (hls : ls.size = nL) {M : Nat} {B : List Int32} (hMet : MetTA l yL_when cL_when 4 (some (.object "java/lang/String")) 7 60 100000 Γ sh v w n [.ref (Γ.2.1 + k)] (fun r u => TXP Γ sh v n 60 B M r u)) (hR : 8 ≤ R.frames ∧ 310 ≤ R.locals) (hW : (rest.map fun v => v.category).sum ≤ 8) (hf : cells + 60 ≤ R.cells ∧ slots + 100000 ≤ R.slots) (hdg : decode cc pc = .ok (.invokestatic 198, 3))
    (kk : ∀ (sh1 : Sh) (v1 : Va) (n1 r : Nat) (H1 : Heap) (locs1 : List Loc), LST Γ s sh0 v0 n0 w kt p0 (C + 60) T N P sh1 v1 n1 H1 locs1 → SV Γ sh1 v1 r B ∧ B.length ≤ M → W p l e R s m args below meth c H1 locs1 (cells + 60) (slots + 100000) Q (F0 m (pc + 3) ls (.ref r :: rest))) : W p l e R s m args below meth c H locs cells slots Q (F0 m pc ls (.ref (Γ.2.1 + k) :: rest)) := by
  obtain ⟨hx, hb, hml, hts, hown, hK, hE, hd, hC, hEL⟩ := id hM
  obtain ⟨hG, hz, hP, hS⟩ := id hL.1
  refine t_callA (post := fun r u => TXP Γ sh v n 60 B M r u) (Bs := [.ref (Γ.2.1 + k)]) (w_rS hx hb hml hts hown hK hMet rfl rfl kL_when mL_198 PN.blind (t_pn hK hd hG hE hS hP hz) rfl hls rfl hW ⟨hR.1, Nat.le_trans (by decide) hR.2⟩ hf hdg) hG hS fun r u H1 locs1 hp1 hz hP hS => ?_
  obtain ⟨hG1, hq1, hn1, hS1, hM1⟩ := hp1
  obtain ⟨sh1, v1, n1⟩ := u
  dsimp only at hG1 hq1 hn1 hS1 hz hP
  exact kk sh1 v1 n1 r H1 locs1 (hL.more hkt hp0 ⟨hG.tr hG1, hz, hP, hS⟩ hG1 hq1 hn1) ⟨hS1, hM1⟩
/-- what an order is made of -/
def orX (L0 : Nat) (xs : Nat → Int32) (i : Nat) : Int32 := cel L0 xs (7 + i % 4) >>> (nI (i / 4 * 9) &&& 31)
def orY (L0 : Nat) (xs : Nat → Int32) (i : Nat) : Int32 := cel L0 xs (11 + i % 4) >>> (nI (i / 4 * 9) &&& 31)
def orS (L0 : Nat) (xs : Nat → Int32) (i : Nat) : Nat := if i < 2 then i else bel (orX L0 xs i) 4 % 3
def orO (nm nt L0 : Nat) (xs : Nat → Int32) (i : Nat) : Nat := bel (orX L0 xs i >>> (2 &&& 31)) (if orS L0 xs i = 2 then nm else nt)
def orW (ng nm L0 : Nat) (xs : Nat → Int32) (i : Nat) : Nat := bel (orX L0 xs i >>> (4 &&& 31)) (if orS L0 xs i = 0 then ng else nm)
def orF (L0 : Nat) (xs : Nat → Int32) (i : Nat) : Nat := bel (orY L0 xs i) 8
def orNM (L0 : Nat) (xs : Nat → Int32) (i : Nat) : Nat := if bel (orY L0 xs i >>> (6 &&& 31)) 2 = 0 then 999 else 40
def orN (L0 : Nat) (xs : Nat → Int32) (i : Nat) : Nat := bel (orY L0 xs i >>> (2 &&& 31)) (orNM L0 xs i)
def orH (L0 : Nat) (xs : Nat → Int32) (i : Nat) : Nat := bel (orY L0 xs i >>> (3 &&& 31)) 10 - 2
def orI (L0 : Nat) (xs : Nat → Int32) (i : Nat) : Nat := bel (orY L0 xs i >>> (4 &&& 31)) 99
def orA (nm L0 : Nat) (xs : Nat → Int32) (i : Nat) : Nat := bel (orX L0 xs i >>> (5 &&& 31)) nm
def orB (nm L0 : Nat) (xs : Nat → Int32) (i : Nat) : Nat := bel (orY L0 xs i >>> (5 &&& 31)) nm
def orL (nt L0 : Nat) (xs : Nat → Int32) (i : Nat) : Nat := bel (orX L0 xs i >>> (6 &&& 31)) nt
def orM (nt L0 : Nat) (xs : Nat → Int32) (i : Nat) : Nat := bel (orY L0 xs i >>> (7 &&& 31)) nt
def orG (ng nm nt L0 : Nat) (xs : Nat → Int32) (i : Nat) : Nat → Int32 := upd (upd (upd (upd (upd (upd (upd (upd (upd (upd (upd (upd (fun _ => 0) 0 (nI (orS L0 xs i))) 1 (nI (orO nm nt L0 xs i))) 2 (nI (orW ng nm L0 xs i))) 3 (nI (orF L0 xs i))) 4 (nI (orN L0 xs i))) 5 (nI (orH L0 xs i) + -1)) 6 (nI (orI L0 xs i))) 7 (nI (orA nm L0 xs i))) 8 (nI (orB nm L0 xs i))) 9 (nI (orL nt L0 xs i))) 10 (nI (orM nt L0 xs i))) 11 0
def orU (nm nt L0 : Nat) (xs : Nat → Int32) (i : Nat) : List Int32 := sumT (orF L0 xs i) (orN L0 xs i) (orA nm L0 xs i) (orB nm L0 xs i) (orL nt L0 xs i)
def orV (nm nt L0 : Nat) (xs : Nat → Int32) (i : Nat) : List Int32 := whenT (orH L0 xs i) (orI L0 xs i) (orA nm L0 xs i) (orB nm L0 xs i) (orL nt L0 xs i) (orM nt L0 xs i)
def orZ (ng nm nt L0 : Nat) (xs : Nat → Int32) (i : Nat) : List Int32 :=
  if orS L0 xs i = 0 then (((([] ++ tx182) ++ decL (orO nm nt L0 xs i)) ++ tx184) ++ decL (orW ng nm L0 xs i))
  else if orS L0 xs i = 1 then (((((([] ++ tx186) ++ decL (orO nm nt L0 xs i)) ++ tx188) ++ decL (orW ng nm L0 xs i)) ++ tx190) ++ orU nm nt L0 xs i)
  else (((((([] ++ tx196) ++ decL (orO nm nt L0 xs i)) ++ tx188) ++ decL (orW ng nm L0 xs i)) ++ tx190) ++ orU nm nt L0 xs i)
def orT (ng nm nt : Nat) (T : List Int32) (L0 : Nat) (xs : Nat → Int32) : Nat → List Int32
  | 0 => T
  | i + 1 => ((orT ng nm nt T L0 xs i ++ orZ ng nm nt L0 xs i) ++ orV nm nt L0 xs i) ++ tx201
theorem q_max_h {b : Nat} (h : b < 10) : q_max (-1) (nI b - 3) = nI (b - 2) + -1 := by
  have h9 : b = 0 ∨ b = 1 ∨ b = 2 ∨ b = 3 ∨ b = 4 ∨ b = 5 ∨ b = 6 ∨ b = 7 ∨ b = 8 ∨ b = 9 := by omega
  rcases h9 with rfl | rfl | rfl | rfl | rfl | rfl | rfl | rfl | rfl | rfl <;> decide
theorem or_le {i : Nat} (h1 : 1 ≤ ng ∧ ng ≤ 3) (h2 : 1 ≤ nm ∧ nm ≤ 5) (h3 : 1 ≤ nt ∧ nt ≤ 5) : orS L0 xs i ≤ 2 ∧ orO nm nt L0 xs i ≤ 4 ∧ orW ng nm L0 xs i ≤ 4 ∧ orF L0 xs i ≤ 7 ∧ orN L0 xs i ≤ 998 ∧ orH L0 xs i ≤ 7 ∧ orI L0 xs i ≤ 98 ∧ orA nm L0 xs i ≤ 4 ∧ orB nm L0 xs i ≤ 4 ∧ orL nt L0 xs i ≤ 4 ∧ orM nt L0 xs i ≤ 4 ∧ 1 ≤ orNM L0 xs i ∧ orNM L0 xs i ≤ 999 := by
  have hnm : 1 ≤ orNM L0 xs i ∧ orNM L0 xs i ≤ 999 := by unfold orNM; split <;> omega
  refine ⟨?_, ?_, ?_, ?_, ?_, ?_, ?_, ?_, ?_, ?_, ?_, hnm.1, hnm.2⟩
  · unfold orS; split <;> omega
  · unfold orO
    have : 1 ≤ (if orS L0 xs i = 2 then nm else nt) ∧ (if orS L0 xs i = 2 then nm else nt) ≤ 5 := by split <;> omega
    have := bel_lt (x := orX L0 xs i >>> (2 &&& 31)) this.1
    omega
  · unfold orW
    have : 1 ≤ (if orS L0 xs i = 0 then ng else nm) ∧ (if orS L0 xs i = 0 then ng else nm) ≤ 5 := by split <;> omega
    have := bel_lt (x := orX L0 xs i >>> (4 &&& 31)) this.1
    omega
  · exact Nat.le_of_lt_succ (bel_lt (by decide))
  · have := bel_lt (x := orY L0 xs i >>> (2 &&& 31)) hnm.1
    unfold orN; omega
  · have := bel_lt (x := orY L0 xs i >>> (3 &&& 31)) (n := 10) (by decide)
    unfold orH; omega
  · exact Nat.le_of_lt_succ (bel_lt (by decide))
  · have := bel_lt (x := orX L0 xs i >>> (5 &&& 31)) h2.1
    unfold orA; omega
  · have := bel_lt (x := orY L0 xs i >>> (5 &&& 31)) h2.1
    unfold orB; omega
  · have := bel_lt (x := orX L0 xs i >>> (6 &&& 31)) h3.1
    unfold orL; omega
  · have := bel_lt (x := orY L0 xs i >>> (7 &&& 31)) h3.1
    unfold orM; omega
end LX
