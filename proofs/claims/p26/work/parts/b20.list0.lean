/-! LIST: what is made, and the text -/
section LX
variable {p : Program} {l : Launch} {e : Env} {R : Room} {s : State} {m : MethodId} {args : Array Value} {below : List Frame} {meth : Method} {c : Code} {H H0 : Heap} {locs : List Loc} {cells slots : Nat} {Q : State → Prop}
variable {cc : ByteArray} {pc nL : Nat} {ls : Array Slot} {st0 rest As Bs : List Value} {Γ : Cx} {sh sh0 shb : Sh} {v v0 v1 : Va} {w : Vl} {own : String} {idx ci j k n n0 nb nn hh mL mc ms a d1 d2 : Nat} {cs : List Nat} {y : MethodName} {b : ByteArray} {ret : Option FieldType} {A : Nat → Prop}
theorem w_iaA (hx : p.tables.exec = Jvm.exec) (hb : c.code = cc) (hK : wK Γ s) (hP : Wd Γ sh v w H) (hS : va_S A H0 H locs) (hA : A (Γ.2.1 + k)) (hz : H.size = Γ.2.1 + n) {N : Nat} (he : sh k = some (sA N)) {i x : Int32} (hin : vp_in i N) {v1 : Va} (hv1 : pu v k i.toNatClampNeg x = v1) (hdg : decode cc pc = .ok (.iastore, 1))
    (kk : ∀ (H1 : Heap) (locs1 : List Loc), H1.size = Γ.2.1 + n → Wd Γ sh v1 w H1 → va_S A H0 H1 locs1 → W p l e R s m args below meth c H1 locs1 cells slots Q (F0 m (pc + 1) ls rest)) : W p l e R s m args below meth c H locs cells slots Q (F0 m pc ls (.int x :: .int i :: .ref (Γ.2.1 + k) :: rest)) := by
  have hcell : H[Γ.2.1 + k]? = some (vp_cell Γ.2.2.1 (N, .inl (v k))) := hP k _ he
  refine W.iast hx hb hcell ((hK.2 0 _ rfl).1 N (fun j => .int (v k j))) (fun q => by cases q) (by show ¬ (i < 0 ∨ (arrV _ _ _).slots.size ≤ _); rw [arrV_size]; exact hin) rfl rfl hdg fun H1 e z oq => ?_
  refine kk H1 _ (z.trans hz) (hP.set k (fun e0 h0 => ?_) (fun q h => rfl) (fun q h => by rw [← hv1]; exact up_ne h) (fun q h => rfl) (fun q _ h _ => oq _ (fun hh => h (Nat.add_left_cancel hh)))) (hS.put z oq hA)
  rw [he] at h0
  cases h0
  rw [← hv1, pu, up_eq]
  show H1[Γ.2.1 + k]? = some (vp_cell _ _)
  rw [e, vp_cell_i]
  show some ((arrV _ _ _).setSlot _ _) = some (arrV Γ.2.2.1 N (fun j => .int (upd (v k) i.toNatClampNeg x j)))
  rw [arrV_store]
  congr 2
  funext q
  by_cases hq : q = i.toNatClampNeg
  · subst hq
    simp [updV, upd]
  · simp [updV, upd, hq]
abbrev Pfn : Type := Nat → Option (Sp × (Nat → Int32))
def okS : Sp → Prop
  | .inl _ => True
  | .inr (.inr (.inl (ci, _))) => ci = 11
  | .inr (.inr (.inr (.inr (.inl _)))) => True
  | _ => False
/-- what was made stands so -/
def SN (nb : Nat) (sh : Sh) (v : Va) (P : Pfn) : Prop := ∀ q e g, P q = some (e, g) → sh q = some e ∧ v q = g ∧ okS e ∧ nb ≤ q
/-- the text's builder -/
def TXT (nb kt p0 : Nat) (T : List Int32) (N : Nat) (sh : Sh) (v : Va) : Prop := T.length ≤ N ∧ (∀ b ∈ T, 0 ≤ b.toInt ∧ b.toInt < 128) ∧ ∃ p cap, SBc sh v kt p cap T ∧ (p = p0 ∨ nb ≤ p)
/-- list's world -/
def LST (Γ : Cx) (s : State) (sh0 : Sh) (v0 : Va) (n0 : Nat) (w : Vl) (kt p0 C : Nat) (T : List Int32) (N : Nat) (P : Pfn) (sh : Sh) (v : Va) (n : Nat) (H : Heap) (locs : List Loc) : Prop := WC Γ s sh0 n0 w sh v n H locs ∧ n ≤ n0 + C ∧ (∀ q, q < n0 → q ≠ kt → q ≠ p0 → v q = v0 q) ∧ TXT n0 kt p0 T N sh v ∧ SN n0 sh v P
theorem SN.keep {P : Pfn} {sh1 : Sh} {v1 : Va} (h : SN nb sh v P) (hk : ∀ q e, sh q = some e → okS e → sh1 q = sh q ∧ v1 q = v q) : SN nb sh1 v1 P := fun q e g hq => by
  obtain ⟨a1, a2, a3, a4⟩ := h q e g hq
  obtain ⟨b1, b2⟩ := hk q e a1 a3
  exact ⟨b1.trans a1, b2.trans a2, a3, a4⟩
theorem SN.kp {P : Pfn} {n1 p1 cap : Nat} {sh1 : Sh} {v1 : Va} {L : List Int32} (h : SN nb sh v P) (hd : DM sh n) (hB : SBc sh v k p1 cap L) (hkp : KP sh v n k p1 (sh1, v1, n1)) : SN nb sh1 v1 P := h.keep fun q e he ho => ⟨hkp.1.2 q (hd _ _ he), hkp.2 q (hd _ _ he) (fun e1 => by rw [e1, hB.1] at he; cases he; exact absurd ho (show ¬ (13 = 11) by decide)) (fun e1 => by rw [e1, hB.2.2.2.2.1] at he; cases he; exact ho)⟩
theorem SN.lt {P : Pfn} {q : Nat} {e : Sp} {g : Nat → Int32} (h : SN nb sh v P) (hd : DM sh n) (hq : P q = some (e, g)) : nb ≤ q ∧ q < n := ⟨(h q e g hq).2.2.2, hd _ _ (h q e g hq).1⟩
theorem SN.put {P : Pfn} {q0 : Nat} {e0 : Sp} {g0 : Nat → Int32} {sh1 : Sh} {v1 : Va} (h : SN nb sh v P) (h1 : sh1 q0 = some e0) (h2 : v1 q0 = g0) (ho : okS e0) (hn : nb ≤ q0) (hk : ∀ q, q ≠ q0 → sh1 q = sh q ∧ v1 q = v q) : SN nb sh1 v1 (up P q0 (some (e0, g0))) := fun q e g hq => by
  by_cases hz : q = q0
  · subst hz
    rw [up_eq] at hq
    cases hq
    exact ⟨h1, h2, ho, hn⟩
  · rw [up_ne hz] at hq
    obtain ⟨a1, a2, a3, a4⟩ := h q e g hq
    exact ⟨(hk q hz).1.trans a1, (hk q hz).2.trans a2, a3, a4⟩
variable {kt p0 C N : Nat} {T : List Int32} {P : Pfn}
theorem LST.d (h : LST Γ s sh0 v0 n0 w kt p0 C T N P sh v n H locs) : DM sh n := Wd.dm h.1.2.2.1 h.1.2.1
theorem LST.hP (h : LST Γ s sh0 v0 n0 w kt p0 C T N P sh v n H locs) : Wd Γ sh v w H := h.1.2.2.1
theorem LST.hS (h : LST Γ s sh0 v0 n0 w kt p0 C T N P sh v n H locs) : va_S (gA Γ sh0 n0) s.heap H locs := h.1.2.2.2
theorem LST.shp (h : LST Γ s sh0 v0 n0 w kt p0 C T N P sh v n H locs) {q : Nat} {e : Sp} {g : Nat → Int32} (hq : P q = some (e, g)) : sh q = some e := (h.2.2.2.2 q e g hq).1
theorem LST.val (h : LST Γ s sh0 v0 n0 w kt p0 C T N P sh v n H locs) {q : Nat} {e : Sp} {g : Nat → Int32} (hq : P q = some (e, g)) : v q = g := (h.2.2.2.2 q e g hq).2.1
theorem LST.lo (h : LST Γ s sh0 v0 n0 w kt p0 C T N P sh v n H locs) {q : Nat} {e : Sp} {g : Nat → Int32} (hq : P q = some (e, g)) : n0 ≤ q ∧ q < n := SN.lt h.2.2.2.2 h.d hq
theorem l_apS (hM : MC Γ p s m args c cc nL d1 d2 sh0 n0) (hL : LST Γ s sh0 v0 n0 w kt p0 C T N P sh v n H locs) (hkt : kt < n0) (hp0 : p0 < n0) (hls : ls.size = nL) {ad M : Nat} {B : List Int32} (hT : SV Γ sh v ad B ∧ B.length ≤ M) (hlen : N + M ≤ 2500) (hn : n0 + C ≤ 1000000) (hR : 6 ≤ R.frames ∧ 230 ≤ R.locals) (hW : (rest.map fun v => v.category).sum ≤ 8) (hf : cells + 1 ≤ R.cells ∧ slots + 6000 ≤ R.slots) (hdg : decode cc pc = .ok (.invokevirtual 37, 3))
    (kk : ∀ (sh1 : Sh) (v1 : Va) (n1 : Nat) (H1 : Heap) (locs1 : List Loc), LST Γ s sh0 v0 n0 w kt p0 (C + 1) (T ++ B) (N + M) P sh1 v1 n1 H1 locs1 → W p l e R s m args below meth c H1 locs1 (cells + 1) (slots + 6000) Q (F0 m (pc + 3) ls (.ref (Γ.2.1 + kt) :: rest))) : W p l e R s m args below meth c H locs cells slots Q (F0 m pc ls (.ref ad :: .ref (Γ.2.1 + kt) :: rest)) := by
  obtain ⟨hWc, hnC, hold, ⟨hLN, hrg, p1, cap, hB, hpp⟩, hSN⟩ := id hL
  refine r_apS hM hWc hls hT.1 hB (by omega) (by omega) hR hW hf hdg fun sh1 v1 n1 p2 cap2 H1 locs1 hWc1 hkp hn1 hB1 hp2 => ?_
  have hn0 := hWc.1.1
  refine kk sh1 v1 n1 H1 locs1 ⟨hWc1, by omega, fun q hq h1 h2 => ?_, ⟨by rw [List.length_append]; omega, app_rg hrg hT.1.rg, p2, cap2, hB1, by omega⟩, hSN.kp hL.d hB hkp⟩
  exact (hkp.2 q (by omega) h1 (by omega)).trans (hold q hq h1 h2)
theorem l_apI (hM : MC Γ p s m args c cc nL d1 d2 sh0 n0) (hL : LST Γ s sh0 v0 n0 w kt p0 C T N P sh v n H locs) (hkt : kt < n0) (hp0 : p0 < n0) (hls : ls.size = nL) {z0 : Nat} (hz0 : z0 ≤ 9999) (hlen : N + 4 ≤ 2500) (hn : n0 + C ≤ 1000000) (hR : 6 ≤ R.frames ∧ 230 ≤ R.locals) (hW : (rest.map fun v => v.category).sum ≤ 8) (hf : cells + 1 ≤ R.cells ∧ slots + 6000 ≤ R.slots) (hdg : decode cc pc = .ok (.invokevirtual 41, 3))
    (kk : ∀ (sh1 : Sh) (v1 : Va) (n1 : Nat) (H1 : Heap) (locs1 : List Loc), LST Γ s sh0 v0 n0 w kt p0 (C + 1) (T ++ decL z0) (N + 4) P sh1 v1 n1 H1 locs1 → W p l e R s m args below meth c H1 locs1 (cells + 1) (slots + 6000) Q (F0 m (pc + 3) ls (.ref (Γ.2.1 + kt) :: rest))) : W p l e R s m args below meth c H locs cells slots Q (F0 m pc ls (.int (nI z0) :: .ref (Γ.2.1 + kt) :: rest)) := by
  obtain ⟨hWc, hnC, hold, ⟨hLN, hrg, p1, cap, hB, hpp⟩, hSN⟩ := id hL
  have h4 : (decL z0).length ≤ 4 := by rw [decL_len]; exact lenD_le.2
  refine r_apI hM hWc hls hz0 hB (by omega) (by omega) hR hW hf hdg fun sh1 v1 n1 p2 cap2 H1 locs1 hWc1 hkp hn1 hB1 hp2 => ?_
  have hn0 := hWc.1.1
  refine kk sh1 v1 n1 H1 locs1 ⟨hWc1, by omega, fun q hq h1 h2 => ?_, ⟨by rw [List.length_append]; omega, app_rg hrg (decL_rg hz0), p2, cap2, hB1, by omega⟩, hSN.kp hL.d hB hkp⟩
  exact (hkp.2 q (by omega) h1 (by omega)).trans (hold q hq h1 h2)
/-- a step that makes, and changes nothing that stood -/
theorem LST.more (hL : LST Γ s sh0 v0 n0 w kt p0 C T N P sh v n H locs) (hkt : kt < n0) (hp0 : p0 < n0) {sh1 : Sh} {v1 : Va} {n1 K : Nat} {H1 : Heap} {locs1 : List Loc} (hWc1 : WC Γ s sh0 n0 w sh1 v1 n1 H1 locs1) (hG : GR sh n sh1 n1) (hv : ∀ q, q < n → v1 q = v q) (hn : n1 ≤ n + K) : LST Γ s sh0 v0 n0 w kt p0 (C + K) T N P sh1 v1 n1 H1 locs1 := by
  obtain ⟨hWc, hnC, hold, ⟨hLN, hrg, p1, cap, hB, hpp⟩, hSN⟩ := id hL
  have hn0 := hWc.1.1
  have hd := hL.d
  exact ⟨hWc1, by omega, fun q hq h1 h2 => (hv q (by omega)).trans (hold q hq h1 h2), ⟨hLN, hrg, p1, cap, hB.gr hd hG (hv _ (hd _ _ hB.1)) (hv _ (hd _ _ hB.2.2.2.2.1)), hpp⟩, hSN.keep fun q e he _ => ⟨hG.2 q (hd _ _ he), hv q (hd _ _ he)⟩⟩
/-- a cell that was made is written -/
theorem LST.put (hL : LST Γ s sh0 v0 n0 w kt p0 C T N P sh v n H locs) {q0 : Nat} {e e0 : Sp} {g g0 : Nat → Int32} (hq : P q0 = some (e, g)) (ho : okS e0) {sh1 : Sh} {v1 : Va} {H1 : Heap} {locs1 : List Loc} (h1 : sh1 = up sh q0 (some e0)) (h2 : v1 = up v q0 g0) (hz : H1.size = Γ.2.1 + n) (hP : Wd Γ sh1 v1 w H1) (hS : va_S (gA Γ sh0 n0) s.heap H1 locs1) : LST Γ s sh0 v0 n0 w kt p0 C T N (up P q0 (some (e0, g0))) sh1 v1 n H1 locs1 := by
  obtain ⟨hWc, hnC, hold, ⟨hLN, hrg, p1, cap, hB, hpp⟩, hSN⟩ := id hL
  obtain ⟨a1, a2, a3, a4⟩ := hSN _ _ _ hq
  have hk1 : kt ≠ q0 := fun e1 => by rw [← e1, hB.1] at a1; cases a1; exact absurd a3 (show ¬ (13 = 11) by decide)
  have hk2 : p1 ≠ q0 := fun e1 => by rw [← e1, hB.2.2.2.2.1] at a1; cases a1; exact a3
  refine ⟨⟨⟨hWc.1.1, fun q hq => ?_⟩, hz, hP, hS⟩, hnC, fun q hq h3 h4 => ?_, ⟨hLN, hrg, p1, cap, ?_, hpp⟩, hSN.put (by rw [h1, up_eq]) (by rw [h2, up_eq]) ho a4 fun q hq => ⟨by rw [h1, up_ne hq], by rw [h2, up_ne hq]⟩⟩
  · rw [h1, up_ne (by omega)]; exact hWc.1.2 q hq
  · rw [h2, up_ne (by omega)]; exact hold q hq h3 h4
  · obtain ⟨b1, b2, b3, b4, b5, b6, b7, b8, b9⟩ := hB
    have e1 : v1 kt = v kt := by rw [h2, up_ne hk1]
    have e2 : v1 p1 = v p1 := by rw [h2, up_ne hk2]
    exact ⟨by rw [h1, up_ne hk1]; exact b1, by rw [e1]; exact b2, by rw [e1]; exact b3, by rw [e1]; exact b4, by rw [h1, up_ne hk2]; exact b5, b6, b7, fun i hi => by rw [e2]; exact b8 i hi, fun i hi => by rw [e2]; exact b9 i hi⟩
/-- a cell is made -/
theorem LST.new (hL : LST Γ s sh0 v0 n0 w kt p0 C T N P sh v n H locs) {e0 : Sp} (ho : okS e0) {H1 : Heap} {locs1 : List Loc} (hkt : kt < n0) (hp0 : p0 < n0) (hz : H1.size = Γ.2.1 + (n + 1)) (hP : Wd Γ (up sh n (some e0)) (up v n (fun _ => 0)) w H1) (hS : va_S (gA Γ sh0 n0) s.heap H1 locs1) : LST Γ s sh0 v0 n0 w kt p0 (C + 1) T N (up P n (some (e0, fun _ => 0))) (up sh n (some e0)) (up v n (fun _ => 0)) (n + 1) H1 locs1 := by
  have hG := hL.1.1
  have h1 := hL.more hkt hp0 (K := 1) (n1 := n + 1) ⟨hG.nw, hz, hP, hS⟩ (GR.nw GR.rf) (fun q hq => up_ne (by omega)) (Nat.le_refl _)
  exact ⟨h1.1, h1.2.1, h1.2.2.1, h1.2.2.2.1, hL.2.2.2.2.put (up_eq _ _ _) (up_eq _ _ _) ho hG.1 fun q hq => ⟨up_ne hq, up_ne hq⟩⟩
theorem l_new (hM : MC Γ p s m args c cc nL d1 d2 sh0 n0) (hL : LST Γ s sh0 v0 n0 w kt p0 C T N P sh v n H locs) (hkt : kt < n0) (hp0 : p0 < n0) {x : Int32} {M : Nat} (hx0 : ¬ x < 0) (hN : x.toNatClampNeg = M) (hbig : M ≤ 1000) (hf : cells + 1 ≤ R.cells ∧ slots + M ≤ R.slots) (hdg : decode cc pc = .ok (.newarray .int, 2))
    (kk : ∀ (sh1 : Sh) (v1 : Va) (k : Nat) (H1 : Heap) (locs1 : List Loc), n0 ≤ k → P k = none → LST Γ s sh0 v0 n0 w kt p0 (C + 1) T N (up P k (some (sA M, fun _ => 0))) sh1 v1 (k + 1) H1 locs1 → k = n → W p l e R s m args below meth c H1 locs1 (cells + 1) (slots + M) Q (F0 m (pc + 2) ls (.ref (Γ.2.1 + k) :: rest))) : W p l e R s m args below meth c H locs cells slots Q (F0 m pc ls (.int x :: rest)) := by
  obtain ⟨hx, hb, hml, hts, hown, hK, hE, hd, hC, hEL⟩ := hM
  refine w_newa (n := n) (N := M) hx hb hts hK hL.hP hL.hS ac_int hx0 hN (by omega) hf.1 hf.2 hL.1.2.1 hdg fun H1 hz hP hS => ?_
  have hnone : P n = none := by
    cases h9 : P n with
    | none => rfl
    | some t => have := (hL.lo (q := n) (e := t.1) (g := t.2) h9).2; omega
  exact kk _ _ n H1 locs hL.1.1.1 hnone (hL.new (e0 := sA M) trivial hkt hp0 hz hP hS) rfl
theorem l_ia (hM : MC Γ p s m args c cc nL d1 d2 sh0 n0) (hL : LST Γ s sh0 v0 n0 w kt p0 C T N P sh v n H locs) {M : Nat} {g : Nat → Int32} (hq : P k = some (sA M, g)) {i x : Int32} {j : Nat} (hi : i.toNatClampNeg = j) (hin : vp_in i M) (hdg : decode cc pc = .ok (.iastore, 1))
    (kk : ∀ (v1 : Va) (H1 : Heap) (locs1 : List Loc), LST Γ s sh0 v0 n0 w kt p0 C T N (up P k (some (sA M, upd g j x))) sh v1 n H1 locs1 → W p l e R s m args below meth c H1 locs1 cells slots Q (F0 m (pc + 1) ls rest)) : W p l e R s m args below meth c H locs cells slots Q (F0 m pc ls (.int x :: .int i :: .ref (Γ.2.1 + k) :: rest)) := by
  obtain ⟨hx, hb, hml, hts, hown, hK, hE, hd, hC, hEL⟩ := hM
  subst hi
  refine w_iaA (n := n) hx hb hK hL.hP hL.hS (gA_new (by have := (hL.lo hq).1; omega)) hL.1.2.1 (hL.shp hq) hin (v1 := up v k (upd g i.toNatClampNeg x)) (by unfold pu; rw [hL.val hq]) hdg fun H1 locs1 hz hP hS => ?_
  refine kk _ H1 locs1 (hL.put (e0 := sA M) (g0 := upd g i.toNatClampNeg x) hq trivial (by rw [← hL.shp hq]; exact (up_id sh k).symm) rfl hz hP hS)
/-- an element is read -/
theorem l_el (hM : MC Γ p s m args c cc nL d1 d2 sh0 n0) (hL : LST Γ s sh0 v0 n0 w kt p0 C T N P sh v n H locs) {M : Nat} {g : Nat → Int32} (hq : P k = some (sA M, g)) {i x : Int32} {j : Nat} (hi : i.toNatClampNeg = j) (hin : vp_in i M) (hv : g j = x) (hdg : decode cc pc = .ok (.iaload, 1))
    (kk : W p l e R s m args below meth c H locs cells slots Q (F0 m (pc + 1) ls (.int x :: rest))) : W p l e R s m args below meth c H locs cells slots Q (F0 m pc ls (.int i :: .ref (Γ.2.1 + k) :: rest)) := by
  obtain ⟨hx, hb, hml, hts, hown, hK, hE, hd, hC, hEL⟩ := hM
  refine w_iald hx hb hK hL.hP (hL.shp hq) hin hdg ?_
  rw [hi, hL.val hq, hv]
  exact kk
theorem l_newR (hM : MC Γ p s m args c cc nL d1 d2 sh0 n0) (hER : ER Γ) (hL : LST Γ s sh0 v0 n0 w kt p0 C T N P sh v n H locs) (hkt : kt < n0) (hp0 : p0 < n0) {x : Int32} {M : Nat} (hlk : Cond.classLink RL idx "[I" ∈ lw_all) (hx0 : ¬ x < 0) (hN : x.toNatClampNeg = M) (hbig : M ≤ 1000) (hf : cells + 1 ≤ R.cells ∧ slots + M ≤ R.slots) (hdg : decode cc pc = .ok (.anewarray idx, 3))
    (kk : ∀ (sh1 : Sh) (v1 : Va) (k : Nat) (H1 : Heap) (locs1 : List Loc), n0 ≤ k → P k = none → LST Γ s sh0 v0 n0 w kt p0 (C + 1) T N (up P k (some (sR M (fun _ => none), fun _ => 0))) sh1 v1 (k + 1) H1 locs1 → k = n → W p l e R s m args below meth c H1 locs1 (cells + 1) (slots + M) Q (F0 m (pc + 3) ls (.ref (Γ.2.1 + k) :: rest))) : W p l e R s m args below meth c H locs cells slots Q (F0 m pc ls (.int x :: rest)) := by
  obtain ⟨hx, hb, hml, hts, hown, hK, hE, hd, hC, hEL⟩ := hM
  refine w_newR (n := n) (N := M) hx hb hts hown hK hL.hP hL.hS hlk (hER.at hE) hx0 hN (by omega) hf.1 hf.2 hL.1.2.1 hdg fun H1 hz hP hS => ?_
  have hnone : P n = none := by
    cases h9 : P n with
    | none => rfl
    | some t => have := (hL.lo (q := n) (e := t.1) (g := t.2) h9).2; omega
  exact kk _ _ n H1 locs hL.1.1.1 hnone (hL.new (e0 := sR M (fun _ => none)) trivial hkt hp0 hz hP hS) rfl
theorem l_aa (hM : MC Γ p s m args c cc nL d1 d2 sh0 n0) (hER : ER Γ) (hL : LST Γ s sh0 v0 n0 w kt p0 C T N P sh v n H locs) {M c0 r : Nat} {f : Nat → Option Nat} {g g2 : Nat → Int32} (hq : P k = some (sR M f, g)) (hr : P r = some (sA c0, g2)) {i : Int32} {j : Nat} (hi : i.toNatClampNeg = j) (hin : vp_in i M) (hdg : decode cc pc = .ok (.aastore, 1))
    (kk : ∀ (sh1 : Sh) (H1 : Heap) (locs1 : List Loc), LST Γ s sh0 v0 n0 w kt p0 C T N (up P k (some (sR M (va_up f j (some r)), g))) sh1 v n H1 locs1 → W p l e R s m args below meth c H1 locs1 cells slots Q (F0 m (pc + 1) ls rest)) : W p l e R s m args below meth c H locs cells slots Q (F0 m pc ls (.ref (Γ.2.1 + r) :: .int i :: .ref (Γ.2.1 + k) :: rest)) := by
  obtain ⟨hx, hb, hml, hts, hown, hK, hE, hd, hC, hEL⟩ := hM
  subst hi
  refine w_aast (n := n) hx hb hK hL.hP hL.hS (gA_new (by have := (hL.lo hq).1; omega)) (hER.at hE) (hL.shp hq) (hL.shp hr) hin hL.1.2.1 hdg fun H1 locs1 hz hP hS => ?_
  exact kk _ H1 locs1 (hL.put (e0 := sR M (va_up f i.toNatClampNeg (some r))) (g0 := g) hq trivial rfl (by rw [← hL.val hq]; exact (up_id v k).symm) hz hP hS)
/-- a field of the object is set to a place -/
theorem l_put (hM : MC Γ p s m args c cc nL d1 d2 sh0 n0) (hL : LST Γ s sh0 v0 n0 w kt p0 C T N P sh v n H locs) {g : Nat → Int32} (hq : P k = some (sO 11 cs, g)) {ty : FieldType} (hf : FL RL idx 11 j false ty) {cd0 r : Nat} (hc : cs[j]? = some cd0) (hn : narrow ty (.ref (Γ.2.1 + r)) = .ref (Γ.2.1 + r)) (hfit : fits ty (.ref (Γ.2.1 + r)) = true) (hdg : decode cc pc = .ok (.putfield idx, 3))
    (kk : ∀ (sh1 : Sh) (v1 : Va) (H1 : Heap) (locs1 : List Loc), LST Γ s sh0 v0 n0 w kt p0 C T N (up P k (some (sO 11 (cs.set j (r + 3)), upd g j 0))) sh1 v1 n H1 locs1 → W p l e R s m args below meth c H1 locs1 cells slots Q (F0 m (pc + 3) ls rest)) : W p l e R s m args below meth c H locs cells slots Q (F0 m pc ls (.ref (Γ.2.1 + r) :: .ref (Γ.2.1 + k) :: rest)) := by
  obtain ⟨hx, hb, hml, hts, hown, hK, hE, hd, hC, hEL⟩ := hM
  refine w_put (k := k) hx hb hts hown hK hL.hP hL.hS (gA_new (by have := (hL.lo hq).1; omega)) hf (hL.shp hq) hc (cd := r + 3) (y := 0) rfl hn hfit hdg fun H1 locs1 hz hP hS => ?_
  exact kk _ _ H1 locs1 (hL.put (e0 := sO 11 (cs.set j (r + 3))) (g0 := upd g j 0) hq rfl rfl (by rw [hL.val hq]) (hz.trans hL.1.2.1) hP hS)
/-- a field of the object is read -/
theorem l_get (hM : MC Γ p s m args c cc nL d1 d2 sh0 n0) (hL : LST Γ s sh0 v0 n0 w kt p0 C T N P sh v n H locs) {g : Nat → Int32} (hq : P k = some (sO 11 cs, g)) {fin : Bool} {ty : FieldType} (hf : FL RL idx 11 j fin ty) {r : Nat} (hc : cs[j]? = some (r + 3)) (hdg : decode cc pc = .ok (.getfield idx, 3))
    (kk : W p l e R s m args below meth c H locs cells slots Q (F0 m (pc + 3) ls (.ref (Γ.2.1 + r) :: rest))) : W p l e R s m args below meth c H locs cells slots Q (F0 m pc ls (.ref (Γ.2.1 + k) :: rest)) := by
  obtain ⟨hx, hb, hml, hts, hown, hK, hE, hd, hC, hEL⟩ := hM
  exact w_gr hx hb hts hown hK hL.hP hf (hL.shp hq) hc hdg kk
theorem l_len (hM : MC Γ p s m args c cc nL d1 d2 sh0 n0) (hL : LST Γ s sh0 v0 n0 w kt p0 C T N P sh v n H locs) {M : Nat} {g : Nat → Int32} (hq : P k = some (sA M, g)) (hdg : decode cc pc = .ok (.arraylength, 1))
    (kk : W p l e R s m args below meth c H locs cells slots Q (F0 m (pc + 1) ls (.int (nI M) :: rest))) : W p l e R s m args below meth c H locs cells slots Q (F0 m pc ls (.ref (Γ.2.1 + k) :: rest)) := w_alen hM.1 hM.2.1 hM.2.2.2.2.2.1 hL.hP (hL.shp hq) hdg kk
theorem l_lenR (hM : MC Γ p s m args c cc nL d1 d2 sh0 n0) (hL : LST Γ s sh0 v0 n0 w kt p0 C T N P sh v n H locs) {M : Nat} {f : Nat → Option Nat} {g : Nat → Int32} (hq : P k = some (sR M f, g)) (hdg : decode cc pc = .ok (.arraylength, 1))
    (kk : W p l e R s m args below meth c H locs cells slots Q (F0 m (pc + 1) ls (.int (nI M) :: rest))) : W p l e R s m args below meth c H locs cells slots Q (F0 m pc ls (.ref (Γ.2.1 + k) :: rest)) := w_alenR hM.1 hM.2.1 hM.2.2.2.2.2.1 hL.hP (hL.shp hq) hdg kk
theorem l_aald (hM : MC Γ p s m args c cc nL d1 d2 sh0 n0) (hL : LST Γ s sh0 v0 n0 w kt p0 C T N P sh v n H locs) {M r : Nat} {f : Nat → Option Nat} {g : Nat → Int32} (hq : P k = some (sR M f, g)) {i : Int32} {j : Nat} (hi : i.toNatClampNeg = j) (hin : vp_in i M) (hr : f j = some r) (hdg : decode cc pc = .ok (.aaload, 1))
    (kk : W p l e R s m args below meth c H locs cells slots Q (F0 m (pc + 1) ls (.ref (Γ.2.1 + r) :: rest))) : W p l e R s m args below meth c H locs cells slots Q (F0 m pc ls (.int i :: .ref (Γ.2.1 + k) :: rest)) := w_aald hM.1 hM.2.1 hM.2.2.2.2.2.1 hL.hP (hL.shp hq) hin (by rw [hi]; exact hr) hdg kk
/-- below, cell are called -/
theorem l_below (hM : MC Γ p s m args c cc nL d1 d2 sh0 n0) (hL : LST Γ s sh0 v0 n0 w kt p0 C T N P sh v n H locs) (hls : ls.size = nL) {x : Int32} {b9 : Nat} (h1 : 1 ≤ b9) (h2 : b9 ≤ 2000000) (hR : 1 ≤ R.frames ∧ 21 ≤ R.locals) (hW : (rest.map fun v => v.category).sum ≤ 8) (hf : cells ≤ R.cells ∧ slots ≤ R.slots) (hdg : decode cc pc = .ok (.invokestatic 123, 3))
    (kk : ∀ (H1 : Heap) (locs1 : List Loc), LST Γ s sh0 v0 n0 w kt p0 C T N P sh v n H1 locs1 → W p l e R s m args below meth c H1 locs1 cells slots Q (F0 m (pc + 3) ls (.int (nI (bel x b9)) :: rest))) : W p l e R s m args below meth c H locs cells slots Q (F0 m pc ls (.int (nI b9) :: .int x :: rest)) := by
  obtain ⟨hx, hb, hml, hts, hown, hK, hE, hd, hC, hEL⟩ := hM
  refine u_calli (Bs := [.int x, .int (nI b9)]) (w_rS hx hb hml hts hown hK (c_L_below h1 h2) rfl rfl kL_below mL_123 PN.blind (t_pn hK hd hL.1.1 hE hL.hS hL.hP hL.1.2.1) rfl hls rfl hW ⟨hR.1, Nat.le_trans (by decide) hR.2⟩ hf hdg) hL.1.1 hL.hS fun r u H1 locs1 hp1 hz hP hS => ?_
  obtain ⟨hr1, hu1⟩ := hp1
  rw [hu1] at hP
  rw [hr1]
  exact kk H1 locs1 ⟨⟨hL.1.1, hz, hP, hS⟩, hL.2⟩
theorem l_cell (hM : MC Γ p s m args c cc nL d1 d2 sh0 n0) (hL : LST Γ s sh0 v0 n0 w kt p0 C T N P sh v n H locs) (hls : ls.size = nL) {b0 L0 q : Nat} {xs : Nat → Int32} (hB : SCR Γ sh0 b0 L0 xs) (hq : q ≤ 2000) (hR : 1 ≤ R.frames ∧ 21 ≤ R.locals) (hW : (rest.map fun v => v.category).sum ≤ 8) (hf : cells ≤ R.cells ∧ slots ≤ R.slots) (hdg : decode cc pc = .ok (.invokestatic 117, 3))
    (kk : ∀ (H1 : Heap) (locs1 : List Loc), LST Γ s sh0 v0 n0 w kt p0 C T N P sh v n H1 locs1 → W p l e R s m args below meth c H1 locs1 cells slots Q (F0 m (pc + 3) ls (.int (cel L0 xs q) :: rest))) : W p l e R s m args below meth c H locs cells slots Q (F0 m pc ls (.int (nI q) :: .ref b0 :: rest)) := by
  obtain ⟨hx, hb, hml, hts, hown, hK, hE, hd, hC, hEL⟩ := hM
  refine u_calli (Bs := [.ref b0, .int (nI q)]) (w_rS hx hb hml hts hown hK (c_L_cell (hB.gr (hL.1.1.F2 hE)) hq) rfl rfl kL_cell mL_117 PN.blind (t_pn hK hd hL.1.1 hE hL.hS hL.hP hL.1.2.1) rfl hls rfl hW ⟨hR.1, Nat.le_trans (by decide) hR.2⟩ hf hdg) hL.1.1 hL.hS fun r u H1 locs1 hp1 hz hP hS => ?_
  obtain ⟨hr1, hu1⟩ := hp1
  rw [hu1] at hP
  rw [hr1]
  exact kk H1 locs1 ⟨⟨hL.1.1, hz, hP, hS⟩, hL.2⟩
end LX
