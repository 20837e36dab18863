/-! ONE BUNDLE: both worlds, Sim like the model (ua), the class like the model (ub), the law's own rows (P) -/
section YZ
variable {p : Program} {l : Launch} {e : Env} {R : Room} {s : State} {m : MethodId} {args : Array Value} {below : List Frame} {meth : Method} {c : Code} {H H0 : Heap} {locs : List Loc} {cells slots : Nat} {Q : State → Prop}
variable {cc : ByteArray} {pc nL : Nat} {ls : Array Slot} {st0 rest As Bs : List Value} {Γ : Cx} {sh sh0 shb : Sh} {v v0 v1 vb vb1 : Va} {w wb : Vl} {own : String} {idx ci j k n n0 nb nn hh mL mc ms a b2 ks S G M L O : Nat} {cs : List Nat} {y : MethodName} {b : ByteArray} {ret : Option FieldType} {pA : Nat → Nat} {pB : Nat → Nat → Nat} {ua ub ua1 ub1 : Va} {P : Pfn}
def DL (Γ : Cx) (b2 : Nat) (s : State) (w wb : Vl) (shb sh0 : Sh) (n0 ks : Nat) (pA : Nat → Nat) (pB : Nat → Nat → Nat) (S G M L O : Nat) (ua ub : Va) (P : Pfn) (sh : Sh) (v : Va) (n : Nat) (vb : Va) (H : Heap) (locs : List Loc) : Prop :=
  DW Γ b2 s w wb shb sh v n vb H locs ∧ isSim sh ks pA pB (pn_ S G M L O) ∧ SR v ua ks pA pB S G M L O ∧ QI 4001 vb ub S G M L O ∧ SN n0 sh v P ∧ (∀ j i f, vQ S G M L O j i f → smQ ks pA pB j i < n0) ∧ GR sh0 n0 sh n
def XM (Γ : Cx) (b2 : Nat) (p : Program) (l : Launch) (s : State) (m : MethodId) (args : Array Value) (c : Code) (cc : ByteArray) (nL : Nat) (own : String) (shb : Sh) : Prop := p.tables.exec = Jvm.exec ∧ c.code = cc ∧ c.maxLocals = nL ∧ (∀ w ∈ lw_all, w.before args s = true) ∧ s.vm.findClass own = some m.cls ∧ wK Γ s ∧ E0 Γ s ∧ (cx0 Γ).heap.size ≤ b2 ∧ isQuay shb ∧ EX (bs Γ b2) shb ∧ l.stackTraces = false
theorem DL.hP (h : DL Γ b2 s w wb shb sh0 n0 ks pA pB S G M L O ua ub P sh v n vb H locs) : Wd Γ sh v w H := h.1.2.1
theorem DL.ik (h : DL Γ b2 s w wb shb sh0 n0 ks pA pB S G M L O ua ub P sh v n vb H locs) : isSim sh ks pA pB (pn_ S G M L O) := h.2.1
theorem DL.sr (h : DL Γ b2 s w wb shb sh0 n0 ks pA pB S G M L O ua ub P sh v n vb H locs) : SR v ua ks pA pB S G M L O := h.2.2.1
theorem DL.qi (h : DL Γ b2 s w wb shb sh0 n0 ks pA pB S G M L O ua ub P sh v n vb H locs) : QI 4001 vb ub S G M L O := h.2.2.2.1
theorem DL.N (h : DL Γ b2 s w wb shb sh0 n0 ks pA pB S G M L O ua ub P sh v n vb H locs) : SN n0 sh v P := h.2.2.2.2.1
theorem DL.ddm (h : DL Γ b2 s w wb shb sh0 n0 ks pA pB S G M L O ua ub P sh v n vb H locs) : DM sh n := h.1.dm
theorem DL.nope (h : DL Γ b2 s w wb shb sh0 n0 ks pA pB S G M L O ua ub P sh v n vb H locs) : P n = none := by
  cases h9 : P n with
  | none => rfl
  | some t =>
    have := h.ddm _ _ (h.N n t.1 t.2 h9).1
    omega
/-- the class did something -/
theorem DL.fb (h : DL Γ b2 s w wb shb sh0 n0 ks pA pB S G M L O ua ub P sh v n vb H locs) {H1 : Heap} {locs1 : List Loc} (hD : DW Γ b2 s w wb shb sh v n vb1 H1 locs1) (hQ : QI 4001 vb1 ub1 S G M L O) : DL Γ b2 s w wb shb sh0 n0 ks pA pB S G M L O ua ub1 P sh v n vb1 H1 locs1 := ⟨hD, h.ik, h.sr, hQ, h.N, h.2.2.2.2.2⟩
/-- Sim was asked -/
theorem DL.fa (h : DL Γ b2 s w wb shb sh0 n0 ks pA pB S G M L O ua ub P sh v n vb H locs) {H1 : Heap} {locs1 : List Loc} (hD : DW Γ b2 s w wb shb sh v n vb H1 locs1) : DL Γ b2 s w wb shb sh0 n0 ks pA pB S G M L O ua ub P sh v n vb H1 locs1 := ⟨hD, h.2⟩
/-- Sim made cells -/
theorem DL.fg (h : DL Γ b2 s w wb shb sh0 n0 ks pA pB S G M L O ua ub P sh v n vb H locs) {sh1 : Sh} {v1 : Va} {n1 : Nat} {H1 : Heap} {locs1 : List Loc} (hG : GR sh n sh1 n1) (hv : ∀ q, q < n → v1 q = v q) (hD : DW Γ b2 s w wb shb sh1 v1 n1 vb H1 locs1) : DL Γ b2 s w wb shb sh0 n0 ks pA pB S G M L O ua ub P sh1 v1 n1 vb H1 locs1 :=
  ⟨hD, h.ik.gr h.ddm hG, fun j i f hq => by rw [hv _ (Nat.lt_of_lt_of_le (h.2.2.2.2.2.1 j i f hq) h.2.2.2.2.2.2.1)]; exact h.sr j i f hq, h.qi, fun q e g hq => by
    obtain ⟨h1, h2, h3, h4⟩ := h.N q e g hq
    have hlt := h.ddm _ _ h1
    exact ⟨(hG.2 q hlt).trans h1, (hv q hlt).trans h2, h3, h4⟩, h.2.2.2.2.2.1, h.2.2.2.2.2.2.tr hG⟩
/-- Sim was changed -/
theorem DL.fc (h : DL Γ b2 s w wb shb sh0 n0 ks pA pB S G M L O ua ub P sh v n vb H locs) {H1 : Heap} {locs1 : List Loc} (hD : DW Γ b2 s w wb shb sh v1 n vb H1 locs1) (hS : SR v1 ua1 ks pA pB S G M L O) (hv : ∀ q, n0 ≤ q → v1 q = v q) : DL Γ b2 s w wb shb sh0 n0 ks pA pB S G M L O ua1 ub P sh v1 n vb H1 locs1 :=
  ⟨hD, h.ik, hS, h.qi, fun q e g hq => by
    obtain ⟨h1, h2, h3, h4⟩ := h.N q e g hq
    exact ⟨h1, (hv q h4).trans h2, h3, h4⟩, h.2.2.2.2.2⟩
theorem DL.fput (h : DL Γ b2 s w wb shb sh0 n0 ks pA pB S G M L O ua ub P sh v n vb H locs) {q0 : Nat} {e0 : Sp} {g0 : Nat → Int32} {sh1 : Sh} {v1 : Va} {n1 : Nat} {H1 : Heap} {locs1 : List Loc} (hD : DW Γ b2 s w wb shb sh1 v1 n1 vb H1 locs1) (h1 : sh1 q0 = some e0) (h2 : v1 q0 = g0) (ho : okS e0) (hn : n0 ≤ q0) (hk : ∀ q, q ≠ q0 → sh1 q = sh q ∧ v1 q = v q) (hG : isSim sh1 ks pA pB (pn_ S G M L O)) (hn1 : GR sh0 n0 sh1 n1) : DL Γ b2 s w wb shb sh0 n0 ks pA pB S G M L O ua ub (up P q0 (some (e0, g0))) sh1 v1 n1 vb H1 locs1 :=
  ⟨hD, hG, fun j i f hq => by
    have := h.2.2.2.2.2.1 j i f hq
    rw [(hk _ (by omega)).2]; exact h.sr j i f hq, h.qi, h.N.put h1 h2 ho hn hk, h.2.2.2.2.2.1, hn1⟩
theorem y_new (hX : XM Γ b2 p l s m args c cc nL own shb) (hL : DL Γ b2 s w wb shb sh0 n0 ks pA pB S G M L O ua ub P sh v n vb H locs) {x : Int32} {N : Nat} (hx0 : ¬ x < 0) (hN : x.toNatClampNeg = N) (hbig : N ≤ 1000) (hcells : cells + 1 ≤ R.cells) (hslots : slots + N ≤ R.slots) (hdg : decode cc pc = .ok (.newarray .int, 2))
    (kk : ∀ H1 : Heap, DL Γ b2 s w wb shb sh0 n0 ks pA pB S G M L O ua ub (up P n (some (sA N, fun _ => 0))) (up sh n (some (sA N))) (up v n (fun _ => 0)) (n + 1) vb H1 locs → W p l e R s m args below meth c H1 locs (cells + 1) (slots + N) Q (F0 m (pc + 2) ls (.ref (Γ.2.1 + n) :: rest))) : W p l e R s m args below meth c H locs cells slots Q (F0 m pc ls (.int x :: rest)) := by
  obtain ⟨hx, hb, hml, hts, hown, hK, hE, -⟩ := id hX
  exact d_new hx hb hts hK hE hL.1 hx0 hN (by omega) hcells hslots hdg fun H1 hD => kk H1 (hL.fput hD (up_eq _ _ _) (up_eq _ _ _) trivial hL.2.2.2.2.2.2.1 (fun q hq => ⟨up_ne hq, up_ne hq⟩) (hL.ik.gr hL.ddm GR.rf.nw) hL.2.2.2.2.2.2.nw)
theorem y_ia (hX : XM Γ b2 p l s m args c cc nL own shb) (hL : DL Γ b2 s w wb shb sh0 n0 ks pA pB S G M L O ua ub P sh v n vb H locs) {N : Nat} {g : Nat → Int32} (hq : P k = some (sA N, g)) {i x : Int32} {j : Nat} (hi : i.toNatClampNeg = j) (hin : vp_in i N) (hdg : decode cc pc = .ok (.iastore, 1))
    (kk : ∀ (v1 : Va) (H1 : Heap) (locs1 : List Loc), DL Γ b2 s w wb shb sh0 n0 ks pA pB S G M L O ua ub (up P k (some (sA N, upd g j x))) sh v1 n vb H1 locs1 → W p l e R s m args below meth c H1 locs1 cells slots Q (F0 m (pc + 1) ls rest)) : W p l e R s m args below meth c H locs cells slots Q (F0 m pc ls (.int x :: .int i :: .ref (Γ.2.1 + k) :: rest)) := by
  obtain ⟨hx, hb, hml, hts, hown, hK, hE, -⟩ := id hX
  obtain ⟨h1, h2, -, h4⟩ := hL.N k _ g hq
  exact d_ia hx hb hK hE hL.1 h1 hin hdg fun H1 locs1 hD => kk _ H1 locs1 (hL.fput hD h1 (by rw [hi, pu_e, h2]) trivial h4 (fun q hq => ⟨rfl, pu_p hq⟩) hL.ik hL.2.2.2.2.2.2)
theorem y_el (hX : XM Γ b2 p l s m args c cc nL own shb) (hL : DL Γ b2 s w wb shb sh0 n0 ks pA pB S G M L O ua ub P sh v n vb H locs) {N : Nat} {g : Nat → Int32} (hq : P k = some (sA N, g)) {i x : Int32} {j : Nat} (hi : i.toNatClampNeg = j) (hin : vp_in i N) (hv : g j = x) (hdg : decode cc pc = .ok (.iaload, 1))
    (kk : W p l e R s m args below meth c H locs cells slots Q (F0 m (pc + 1) ls (.int x :: rest))) : W p l e R s m args below meth c H locs cells slots Q (F0 m pc ls (.int i :: .ref (Γ.2.1 + k) :: rest)) := by
  obtain ⟨hx, hb, hml, hts, hown, hK, hE, -⟩ := id hX
  obtain ⟨h1, h2, -, h4⟩ := hL.N k _ g hq
  exact w_iald hx hb hK hL.hP h1 hin hdg (by rw [h2, hi, hv]; exact kk)
/-- calls of the class: what is asked, and what is done -/
theorem y_c0 (hX : XM Γ b2 p l s m args c cc nL own shb) (hL : DL Γ b2 s w wb shb sh0 n0 ks pA pB S G M L O ua ub P sh v n vb H locs) {x0 : Int32} (hM : ∀ nb, MetX l y b mL ret hh (bs Γ b2) shb vb wb nb (.ref (b2 + 0) :: As) (fun x u => (Sum.inl x0 : Int32 ⊕ Nat) = .inl x ∧ u = vb) (fun E => ∃ c, (Sum.inl x0 : Int32 ⊕ Nat) = .inr c ∧ E = xn c)) (hC : CAV y b mL ret nn) (hML : Cond.methodLink own idx y ∈ lw_all) (hcl : y.cls = RX11) (hst : st0 = As.reverse ++ .ref (b2 + 0) :: rest) (hn : As.length = nn) (hls : ls.size = nL) (hW : (rest.map fun v => v.category).sum ≤ 8) (hR : hh + 1 ≤ R.frames ∧ 8 + (mL + 11) + 40 * hh ≤ R.locals) (hf : cells + 1 ≤ R.cells ∧ slots + 6 ≤ R.slots) (hdg : decode cc pc = .ok (.invokevirtual idx, 3))
    (kk : ∀ (H1 : Heap) (locs1 : List Loc), DL Γ b2 s w wb shb sh0 n0 ks pA pB S G M L O ua ub P sh v n vb H1 locs1 → W p l e R s m args below meth c H1 locs1 (cells + 1) (slots + 6) Q (F0 m (pc + 3) ls (.int x0 :: rest))) : W p l e R s m args below meth c H locs cells slots Q (F0 m pc ls st0) := by
  obtain ⟨hx, hb, hml, hts, hown, hK, hE, hb2, hk, hEX, hlt⟩ := id hX
  refine d_bn (k := 0) hx hb hml hts hown hK hE hL.1 hb2 hk.1 hM (fun E ⟨c, h, _⟩ => by cases h) hC hML (by rw [hcl]; rfl) hst hn hls hW hR hf hdg fun r u H1 locs1 hp hD => ?_
  obtain ⟨h1, h2⟩ := hp
  cases h1
  subst h2
  exact kk H1 locs1 (hL.fb hD hL.qi)
theorem y_c1 (hX : XM Γ b2 p l s m args c cc nL own shb) (hL : DL Γ b2 s w wb shb sh0 n0 ks pA pB S G M L O ua ub P sh v n vb H locs) {x0 : Int32} (hQ : QI 4001 vb1 ub1 S G M L O) (hM : ∀ nb, MetX l y b mL ret hh (bs Γ b2) shb vb wb nb (.ref (b2 + 0) :: As) (fun x u => (Sum.inl (x0, vb1) : (Int32 × Va) ⊕ Nat) = .inl (x, u)) (fun E => ∃ c, (Sum.inl (x0, vb1) : (Int32 × Va) ⊕ Nat) = .inr c ∧ E = xn c)) (hC : CAV y b mL ret nn) (hML : Cond.methodLink own idx y ∈ lw_all) (hcl : y.cls = RX11) (hst : st0 = As.reverse ++ .ref (b2 + 0) :: rest) (hn : As.length = nn) (hls : ls.size = nL) (hW : (rest.map fun v => v.category).sum ≤ 8) (hR : hh + 1 ≤ R.frames ∧ 8 + (mL + 11) + 40 * hh ≤ R.locals) (hf : cells + 1 ≤ R.cells ∧ slots + 6 ≤ R.slots) (hdg : decode cc pc = .ok (.invokevirtual idx, 3))
    (kk : ∀ (H1 : Heap) (locs1 : List Loc), DL Γ b2 s w wb shb sh0 n0 ks pA pB S G M L O ua ub1 P sh v n vb1 H1 locs1 → W p l e R s m args below meth c H1 locs1 (cells + 1) (slots + 6) Q (F0 m (pc + 3) ls (.int x0 :: rest))) : W p l e R s m args below meth c H locs cells slots Q (F0 m pc ls st0) := by
  obtain ⟨hx, hb, hml, hts, hown, hK, hE, hb2, hk, hEX, hlt⟩ := id hX
  refine d_bn (k := 0) hx hb hml hts hown hK hE hL.1 hb2 hk.1 hM (fun E ⟨c, h, _⟩ => by cases h) hC hML (by rw [hcl]; rfl) hst hn hls hW hR hf hdg fun r u H1 locs1 hp hD => ?_
  cases hp
  exact kk H1 locs1 (hL.fb hD hQ)
/-- Sim asked -/
theorem y_s0 (hX : XM Γ b2 p l s m args c cc nL own shb) (hL : DL Γ b2 s w wb shb sh0 n0 ks pA pB S G M L O ua ub P sh v n vb H locs) {x0 : Int32} (hM : MetI l y b mL ret hh Γ sh v w n (.ref (Γ.2.1 + ks) :: As) (fun x u => x = x0 ∧ u = v)) (hC : CAV y b mL ret nn) (hML : ML own idx y) (hcl : y.cls = RX12) (hst : st0 = As.reverse ++ .ref (Γ.2.1 + ks) :: rest) (hn : As.length = nn) (hls : ls.size = nL) (hW : (rest.map fun v => v.category).sum ≤ 8) (hR : hh + 1 ≤ R.frames ∧ 8 + (mL + 11) + 40 * hh ≤ R.locals) (hf : cells ≤ R.cells ∧ slots ≤ R.slots) (hdg : decode cc pc = .ok (.invokevirtual idx, 3))
    (kk : ∀ (H1 : Heap) (locs1 : List Loc), DL Γ b2 s w wb shb sh0 n0 ks pA pB S G M L O ua ub P sh v n vb H1 locs1 → W p l e R s m args below meth c H1 locs1 cells slots Q (F0 m (pc + 3) ls (.int x0 :: rest))) : W p l e R s m args below meth c H locs cells slots Q (F0 m pc ls st0) := by
  obtain ⟨hx, hb, hml, hts, hown, hK, hE, hb2, hk, hEX, hlt⟩ := id hX
  refine d_ai (Bs := .ref (Γ.2.1 + ks) :: As) hE hL.1 (w_rV (k := ks) hx hb hml hts hown hK hM rfl rfl hC hML (by rw [hcl]; exact w_recv hK hL.hP hL.ik.1 rfl) PN.blind (d_pnA hE hK hL.1) hst hls hn hW hR hf hdg) fun r u H1 locs1 hp hD => ?_
  obtain ⟨rfl, rfl⟩ := hp
  exact kk H1 locs1 (hL.fa hD)
theorem y_sg (hX : XM Γ b2 p l s m args c cc nL own shb) (hL : DL Γ b2 s w wb shb sh0 n0 ks pA pB S G M L O ua ub P sh v n vb H locs) {C1 S1 : Nat} {post : Int32 → Wt → Prop} (hM : MetTI l y b mL ret hh C1 S1 Γ sh v w n (.ref (Γ.2.1 + ks) :: As) post) (hpost : ∀ r u, post r u → GR sh n u.1 u.2.2 ∧ ∀ q, q < n → u.2.1 q = v q) (hC : CAV y b mL ret nn) (hML : ML own idx y) (hcl : y.cls = RX12) (hst : st0 = As.reverse ++ .ref (Γ.2.1 + ks) :: rest) (hn : As.length = nn) (hls : ls.size = nL) (hW : (rest.map fun v => v.category).sum ≤ 8) (hR : hh + 1 ≤ R.frames ∧ 8 + (mL + 11) + 40 * hh ≤ R.locals) (hf : cells + C1 ≤ R.cells ∧ slots + S1 ≤ R.slots) (hdg : decode cc pc = .ok (.invokevirtual idx, 3))
    (kk : ∀ (r : Int32) (u : Wt) (H1 : Heap) (locs1 : List Loc), post r u → DL Γ b2 s w wb shb sh0 n0 ks pA pB S G M L O ua ub P u.1 u.2.1 u.2.2 vb H1 locs1 → W p l e R s m args below meth c H1 locs1 (cells + C1) (slots + S1) Q (F0 m (pc + 3) ls (.int r :: rest))) : W p l e R s m args below meth c H locs cells slots Q (F0 m pc ls st0) := by
  obtain ⟨hx, hb, hml, hts, hown, hK, hE, hb2, hk, hEX, hlt⟩ := id hX
  refine d_gi (Bs := .ref (Γ.2.1 + ks) :: As) hE hL.1 (w_rV (k := ks) hx hb hml hts hown hK hM rfl rfl hC hML (by rw [hcl]; exact w_recv hK hL.hP hL.ik.1 rfl) PN.blind (d_pnA hE hK hL.1) hst hls hn hW hR hf hdg) fun r u H1 locs1 hp hD => ?_
  obtain ⟨h1, h2⟩ := hpost r u hp
  exact kk r u H1 locs1 hp (hL.fg h1 h2 (hD h1))
theorem y_sr (hX : XM Γ b2 p l s m args c cc nL own shb) (hL : DL Γ b2 s w wb shb sh0 n0 ks pA pB S G M L O ua ub P sh v n vb H locs) {C1 S1 : Nat} {post : Nat → Wt → Prop} (hM : MetTR l y b mL ret hh C1 S1 Γ sh v w n (.ref (Γ.2.1 + ks) :: As) post) (hpost : ∀ r u, post r u → GR sh n u.1 u.2.2 ∧ ∀ q, q < n → u.2.1 q = v q) (hC : CAV y b mL ret nn) (hML : ML own idx y) (hcl : y.cls = RX12) (hst : st0 = As.reverse ++ .ref (Γ.2.1 + ks) :: rest) (hn : As.length = nn) (hls : ls.size = nL) (hW : (rest.map fun v => v.category).sum ≤ 8) (hR : hh + 1 ≤ R.frames ∧ 8 + (mL + 11) + 40 * hh ≤ R.locals) (hf : cells + C1 ≤ R.cells ∧ slots + S1 ≤ R.slots) (hdg : decode cc pc = .ok (.invokevirtual idx, 3))
    (kk : ∀ (r : Nat) (u : Wt) (H1 : Heap) (locs1 : List Loc), post r u → DL Γ b2 s w wb shb sh0 n0 ks pA pB S G M L O ua ub P u.1 u.2.1 u.2.2 vb H1 locs1 → W p l e R s m args below meth c H1 locs1 (cells + C1) (slots + S1) Q (F0 m (pc + 3) ls (.ref (Γ.2.1 + r) :: rest))) : W p l e R s m args below meth c H locs cells slots Q (F0 m pc ls st0) := by
  obtain ⟨hx, hb, hml, hts, hown, hK, hE, hb2, hk, hEX, hlt⟩ := id hX
  refine d_gr (Bs := .ref (Γ.2.1 + ks) :: As) hE hL.1 (w_rV (k := ks) hx hb hml hts hown hK hM rfl rfl hC hML (by rw [hcl]; exact w_recv hK hL.hP hL.ik.1 rfl) PN.blind (d_pnA hE hK hL.1) hst hls hn hW hR hf hdg) fun r u H1 locs1 hp hD => ?_
  obtain ⟨h1, h2⟩ := hpost r u hp
  exact kk r u H1 locs1 hp (hL.fg h1 h2 (hD h1))
end YZ
