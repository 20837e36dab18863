/-! WORLDS THAT GROW: contracts of methods that make cells, calls of inherited methods, rows that make arrays -/
abbrev Wt : Type := Sh × Va × Nat
/-- grown: what stood, stands in its shape; new places are behind -/
def GR (sh0 : Sh) (n0 : Nat) (sh : Sh) (n : Nat) : Prop := n0 ≤ n ∧ ∀ k, k < n0 → sh k = sh0 k
theorem GR.rf {sh : Sh} {n : Nat} : GR sh n sh n := ⟨Nat.le_refl _, fun _ _ => rfl⟩
theorem GR.tr {sh0 sh1 sh2 : Sh} {n0 n1 n2 : Nat} (h : GR sh0 n0 sh1 n1) (h2 : GR sh1 n1 sh2 n2) : GR sh0 n0 sh2 n2 := ⟨Nat.le_trans h.1 h2.1, fun k hk => (h2.2 k (Nat.lt_of_lt_of_le hk h.1)).trans (h.2 k hk)⟩
theorem GR.nw {sh0 sh : Sh} {n0 n : Nat} {e : Option Sp} (h : GR sh0 n0 sh n) : GR sh0 n0 (up sh n e) (n + 1) := ⟨Nat.le_succ_of_le h.1, fun k hk => (up_ne (Nat.ne_of_lt (Nat.lt_of_lt_of_le hk h.1))).trans (h.2 k hk)⟩
theorem GR.put {sh0 sh : Sh} {n0 n k : Nat} {e : Option Sp} (h : GR sh0 n0 sh n) (hk : n0 ≤ k) : GR sh0 n0 (up sh k e) n := ⟨h.1, fun q hq => (up_ne (Nat.ne_of_lt (Nat.lt_of_lt_of_le hq hk))).trans (h.2 q hq)⟩
theorem GR.A {Γ : Cx} {sh0 sh : Sh} {n0 n q : Nat} (h : GR sh0 n0 sh n) (hq : gA Γ sh n q) : gA Γ sh0 n0 q := by
  rcases hq with ⟨k, e, hk, hw, e1⟩ | h1
  · by_cases hlt : k < n0
    · exact Or.inl ⟨k, e, (h.2 k hlt).symm.trans hk, hw, e1⟩
    · exact Or.inr (by rw [e1]; omega)
  · exact Or.inr (by have := h.1; omega)
/-- no place beyond the heap -/
def DM (sh : Sh) (n : Nat) : Prop := ∀ k e, sh k = some e → k < n
theorem Wd.dm {Γ : Cx} {sh : Sh} {v : Va} {w : Vl} {H : Heap} {n : Nat} (hP : Wd Γ sh v w H) (hz : H.size = Γ.2.1 + n) : DM sh n := fun k e hk => by
  have := hP.lt hk; omega
theorem GR.E {Γ : Cx} {sh0 sh : Sh} {n0 n : Nat} {s U : State} {H : Heap} {locs : List Loc} (h : GR sh0 n0 sh n) (hd : DM sh0 n0) (hE : EN Γ sh0 n0 s) (hS : va_S (gA Γ sh0 n0) s.heap H locs) (hU : U.heap = H) (hW : s.WarmedH U.vm) : EN Γ sh n U := by
  obtain ⟨h1, h2, h3, h4⟩ := hE.go hS hU hW
  exact ⟨h1, h2, Nat.le_trans h3 (Nat.add_le_add_left h.1 _), fun a ha hq => h4 a ha fun k e hk hw => hq k e ((h.2 k (hd k e hk)).trans hk) hw⟩
def MetTI (l : Launch) (y : MethodName) (b : ByteArray) (mL : Nat) (r : Option FieldType) (h C S : Nat) (Γ : Cx) (sh : Sh) (v : Va) (w : Vl) (n : Nat) (As : List Value) (post : Int32 → Wt → Prop) : Prop := Met l y (ws_ y b mL r) (rmc h C S) (va_Pc As (PN Γ sh v w n)) (va_Qi post (fun u => PN Γ u.1 u.2.1 w u.2.2) (gA Γ sh n)) C S (gA Γ sh n)
def MetTV (l : Launch) (y : MethodName) (b : ByteArray) (mL : Nat) (r : Option FieldType) (h C S : Nat) (Γ : Cx) (sh : Sh) (v : Va) (w : Vl) (n : Nat) (As : List Value) (post : Wt → Prop) : Prop := Met l y (ws_ y b mL r) (rmc h C S) (va_Pc As (PN Γ sh v w n)) (va_Qv post (fun u => PN Γ u.1 u.2.1 w u.2.2) (gA Γ sh n)) C S (gA Γ sh n)
def MetTR (l : Launch) (y : MethodName) (b : ByteArray) (mL : Nat) (r : Option FieldType) (h C S : Nat) (Γ : Cx) (sh : Sh) (v : Va) (w : Vl) (n : Nat) (As : List Value) (post : Nat → Wt → Prop) : Prop := Met l y (ws_ y b mL r) (rmc h C S) (va_Pc As (PN Γ sh v w n)) (va_Qr (fun u : Nat × Wt => post u.1 u.2) (fun u a t => a = Γ.2.1 + u.1 ∧ PN Γ u.2.1 u.2.2.1 w u.2.2.2 t) (gA Γ sh n)) C S (gA Γ sh n)
section WT
variable {p : Program} {l : Launch} {e : Env} {R : Room} {s : State} {m : MethodId} {args : Array Value} {below : List Frame} {meth : Method} {c : Code} {H H0 : Heap} {locs : List Loc} {cells slots : Nat} {Q : State → Prop}
variable {cc : ByteArray} {pc nL : Nat} {ls : Array Slot} {st0 rest As Bs : List Value} {Γ : Cx} {sh sh0 : Sh} {v v1 : Va} {w : Vl} {own : String} {idx ci j k n n0 nn hh mL mc ms a : Nat} {cs : List Nat} {y : MethodName} {b : ByteArray} {ret : Option FieldType}
theorem t_pn (hK : wK Γ s) (hd : DM sh0 n0) (hG : GR sh0 n0 sh n) (hE : EN Γ sh0 n0 s) (hS : va_S (gA Γ sh0 n0) s.heap H locs) (hP : Wd Γ sh v w H) (hz : H.size = Γ.2.1 + n) {Bs : List Value} : ∀ U : State, U.heap = H → s.WarmedH U.vm → va_Pc Bs (PN Γ sh v w n) Bs.toArray U := fun U hU hW => ⟨rfl, by rw [hU]; exact hP, va_K.moved hW.alike hK, by rw [hU]; exact hz, hG.E hd hE hS hU hW⟩
/-- a call of a method of a class above the receiver's -/
theorem w_rU (hx : p.tables.exec = Jvm.exec) (hb : c.code = cc) (hml : c.maxLocals = nL) (hts : ∀ w ∈ lw_all, w.before args s = true) (hown : s.vm.findClass own = some m.cls) {rm : Room} {Pc : Array Value → State → Prop} {Qc : Array Value → State → Outcome → State → Prop} {free : Addr → Prop} {x : MethodName} {C : String} (hM : Met l y (ws_ y b mL ret) rm Pc Qc mc ms free) (hrc : rm.cells = mc) (hrs : rm.slots = ms)
    (hcode : Cond.code y b mL ret ∈ lw_all) (hini : Cond.initialized y.cls ∈ lw_all) (hinst : Cond.instanceMethod y ∈ lw_all) {b0 : ByteArray} {m0 : Nat} {r0 : Option FieldType} (hxc : Cond.code x b0 m0 r0 ∈ lw_all) (hxi : Cond.instanceMethod x ∈ lw_all) (hsame : Cond.sameMethod x.cls x.cls x.name x.desc ∈ lw_all) (hax : CAx x nn) (hsel : Cond.selects C x y ∈ lw_all) (hL : Cond.methodLink own idx x ∈ lw_all)
    (hrecv : ∃ cell : Cell, H[a]? = some cell ∧ cell.vm.isStatics = false ∧ s.vm.findClass C = some cell.cls) (hbl : FrameBlind Pc) (hpc : ∀ U : State, U.heap = H → s.WarmedH U.vm → Pc (Value.ref a :: As).toArray U) (hst : st0 = As.reverse ++ .ref a :: rest) (hls : ls.size = nL) (hn : As.length = nn) (hW : (rest.map fun v => v.category).sum ≤ 8) (hR : rm.frames + 1 ≤ R.frames ∧ 8 + (mL + 11) + rm.locals ≤ R.locals) (hf : cells + mc ≤ R.cells ∧ slots + ms ≤ R.slots) (hdg : decode cc pc = .ok (.invokevirtual idx, 3)) : va_Run p l e R s m args below meth c H locs cells slots mc ms (F0 m pc ls st0) rest (Qc (Value.ref a :: As).toArray) free :=
  va_runU (x := x) (C := C) (owner := x.cls) (n := nn) ⟨hx, hb, hml, hown, hts⟩ hM ⟨⟨hrc, hrs, hR.1, hR.2, w_hws hts hcode, List.mem_cons_self⟩, hts _ hcode, hts _ hini, ⟨hax.1, hax.2.1⟩, w_len hax, hts _ hL, hts _ hsame, va_Decl.of (hts _ hxi) (hts _ hxc), hts _ hsel, hts _ hinst⟩ ⟨hbl, hrecv, hpc⟩ rfl hn hls hst (by simpa [JFrame.monitorRoom] using hW) hdg hf
/-- super.m(..) -/
theorem w_rP (hx : p.tables.exec = Jvm.exec) (hb : c.code = cc) (hml : c.maxLocals = nL) (hts : ∀ w ∈ lw_all, w.before args s = true) (hown : s.vm.findClass own = some m.cls) {rm : Room} {Pc : Array Value → State → Prop} {Qc : Array Value → State → Outcome → State → Prop} {free : Addr → Prop} {C : String} {cC : ClassId} (hat : ClassAt s C cC) (hM : Met l y (ws_ y b mL ret) rm Pc Qc mc ms free) (hrc : rm.cells = mc) (hrs : rm.slots = ms)
    (hC : CAU y b mL ret nn) (hsup : Cond.superclass own y.cls ∈ lw_all) (hno : y.name ≠ "<init>") (hL : Cond.methodLink own idx y ∈ lw_all)
    (hrecv : ∃ cell : Cell, H[a]? = some cell ∧ cell.vm.isStatics = false ∧ s.vm.findClass C = some cell.cls) (hbl : FrameBlind Pc) (hpc : ∀ U : State, U.heap = H → s.WarmedH U.vm → Pc (Value.ref a :: As).toArray U) (hst : st0 = As.reverse ++ .ref a :: rest) (hls : ls.size = nL) (hn : As.length = nn) (hW : (rest.map fun v => v.category).sum ≤ 8) (hR : rm.frames + 1 ≤ R.frames ∧ 8 + (mL + 11) + rm.locals ≤ R.locals) (hf : cells + mc ≤ R.cells ∧ slots + ms ≤ R.slots) (hdg : decode cc pc = .ok (.invokespecial idx, 3)) : va_Run p l e R s m args below meth c H locs cells slots mc ms (F0 m pc ls st0) rest (Qc (Value.ref a :: As).toArray) free :=
  va_runSU (n := nn) hat ⟨hx, hb, hml, hown, hts⟩ hM ⟨⟨hrc, hrs, hR.1, hR.2, w_hws hts hC.1, List.mem_cons_self⟩, hts _ hL, hts _ hC.2.2.2.1, hts _ hsup, hts _ hC.2.2.1, hts _ hC.2.1, hts _ hC.1, hno, w_len hC.2.2.2.2⟩ ⟨hbl, hrecv, hpc⟩ rfl hn hls hst (by simpa [JFrame.monitorRoom] using hW) hdg hf
theorem t_calli {post : Int32 → Wt → Prop} (hr : va_Run p l e R s m args below meth c H locs cells slots mc ms (F0 m pc ls st0) rest (va_Qi post (fun u => PN Γ u.1 u.2.1 w u.2.2) (gA Γ sh n) Bs.toArray) (gA Γ sh n)) (hG : GR sh0 n0 sh n) (hS : va_S (gA Γ sh0 n0) s.heap H locs)
    (kk : ∀ (r : Int32) (u : Wt) (H1 : Heap) (locs1 : List Loc), post r u → H1.size = Γ.2.1 + u.2.2 → Wd Γ u.1 u.2.1 w H1 → va_S (gA Γ sh0 n0) s.heap H1 locs1 → W p l e R s m args below meth c H1 locs1 (cells + mc) (slots + ms) Q (F0 m (pc + 3) ls (.int r :: rest))) : W p l e R s m args below meth c H locs cells slots Q (F0 m pc ls st0) := by
  refine va_calli hr hS (fun q _ h => hG.A h) (fun q h => hG.A h) (fun r u t H1 locs1 ht hvm hp hB hz1 hk1 hS1 => ?_)
  obtain ⟨hP1, -, hz2, -⟩ := hB
  rw [ht] at hP1 hz2
  exact kk r u H1 locs1 hp hz2 hP1 hS1
theorem t_callv {post : Wt → Prop} (hr : va_Run p l e R s m args below meth c H locs cells slots mc ms (F0 m pc ls st0) rest (va_Qv post (fun u => PN Γ u.1 u.2.1 w u.2.2) (gA Γ sh n) Bs.toArray) (gA Γ sh n)) (hG : GR sh0 n0 sh n) (hS : va_S (gA Γ sh0 n0) s.heap H locs)
    (kk : ∀ (u : Wt) (H1 : Heap) (locs1 : List Loc), post u → H1.size = Γ.2.1 + u.2.2 → Wd Γ u.1 u.2.1 w H1 → va_S (gA Γ sh0 n0) s.heap H1 locs1 → W p l e R s m args below meth c H1 locs1 (cells + mc) (slots + ms) Q (F0 m (pc + 3) ls rest)) : W p l e R s m args below meth c H locs cells slots Q (F0 m pc ls st0) := by
  refine va_callv hr hS (fun q _ h => hG.A h) (fun q h => hG.A h) (fun u t H1 locs1 ht hvm hp hB hz1 hk1 hS1 => ?_)
  obtain ⟨hP1, -, hz2, -⟩ := hB
  rw [ht] at hP1 hz2
  exact kk u H1 locs1 hp hz2 hP1 hS1
theorem t_callr {post : Nat → Wt → Prop} (hr : va_Run p l e R s m args below meth c H locs cells slots mc ms (F0 m pc ls st0) rest (va_Qr (fun u : Nat × Wt => post u.1 u.2) (fun u a t => a = Γ.2.1 + u.1 ∧ PN Γ u.2.1 u.2.2.1 w u.2.2.2 t) (gA Γ sh n) Bs.toArray) (gA Γ sh n)) (hG : GR sh0 n0 sh n) (hS : va_S (gA Γ sh0 n0) s.heap H locs)
    (kk : ∀ (r : Nat) (u : Wt) (H1 : Heap) (locs1 : List Loc), post r u → H1.size = Γ.2.1 + u.2.2 → Wd Γ u.1 u.2.1 w H1 → va_S (gA Γ sh0 n0) s.heap H1 locs1 → W p l e R s m args below meth c H1 locs1 (cells + mc) (slots + ms) Q (F0 m (pc + 3) ls (.ref (Γ.2.1 + r) :: rest))) : W p l e R s m args below meth c H locs cells slots Q (F0 m pc ls st0) := by
  refine va_callr hr hS (fun q _ h => hG.A h) (fun q h => hG.A h) (fun u a t H1 locs1 ht hvm hp hB hz1 hk1 hS1 => ?_)
  obtain ⟨ha, hP1, -, hz2, -⟩ := hB
  rw [ht] at hP1 hz2
  subst ha
  exact kk u.1 u.2 H1 locs1 hp hz2 hP1 hS1
theorem t_rret (hx : p.tables.exec = Jvm.exec) (hb : c.code = cc) {r : Nat} {ty : FieldType} (hr : meth.sig.returnType = some ty) (hrt : (∃ n, ty = .object n) ∨ ∃ t, ty = .array t) (hlocks : meth.locks = false) (hK : wK Γ s) (hP : Wd Γ sh v w H) (hS : va_S (gA Γ sh0 n0) s.heap H locs) (hz : H.size = Γ.2.1 + n) (hE : EN Γ sh0 n0 s) (hd : DM sh0 n0) (hG : GR sh0 n0 sh n) {post : Nat → Wt → Prop} (hp : post r (sh, v, n)) (hdg : decode cc pc = .ok (.areturn, 1)) : W p l e R s m args below meth c H locs cells slots (MQ below (va_Qr (fun u : Nat × Wt => post u.1 u.2) (fun u a t => a = Γ.2.1 + u.1 ∧ PN Γ u.2.1 u.2.2.1 w u.2.2.2 t) (gA Γ sh0 n0)) args s cells slots (gA Γ sh0 n0)) (F0 m pc ls [.ref (Γ.2.1 + r)]) :=
  W.aret hx hb hr hrt (Or.inr ⟨_, rfl⟩) (fun t ht hW => ⟨⟨(r, sh, v, n), _, rfl, hp, rfl, ⟨by rw [ht]; exact hP, va_K.moved hW.alike hK, by rw [ht]; exact hz, hG.E hd hE hS ht hW⟩⟩, hS.F ht⟩) hS.2.2 hdg hlocks
theorem t_vret (hx : p.tables.exec = Jvm.exec) (hb : c.code = cc) (hr : meth.sig.returnType = none) (hlocks : meth.locks = false) (hK : wK Γ s) (hP : Wd Γ sh v w H) (hS : va_S (gA Γ sh0 n0) s.heap H locs) (hz : H.size = Γ.2.1 + n) (hE : EN Γ sh0 n0 s) (hd : DM sh0 n0) (hG : GR sh0 n0 sh n) {post : Wt → Prop} (hp : post (sh, v, n)) (hdg : decode cc pc = .ok (.return_, 1)) : W p l e R s m args below meth c H locs cells slots (MQ below (va_Qv post (fun u => PN Γ u.1 u.2.1 w u.2.2) (gA Γ sh0 n0)) args s cells slots (gA Γ sh0 n0)) (F0 m pc ls []) :=
  W.vret hx hb hr (fun t ht hW => ⟨⟨(sh, v, n), rfl, hp, ⟨by rw [ht]; exact hP, va_K.moved hW.alike hK, by rw [ht]; exact hz, hG.E hd hE hS ht hW⟩⟩, hS.F ht⟩) hS.2.2 hdg hlocks
theorem t_iret (hx : p.tables.exec = Jvm.exec) (hb : c.code = cc) {r : Int32} {ty : FieldType} (hr : meth.sig.returnType = some ty) (hnr : narrow ty (.int r) = .int r) (hlocks : meth.locks = false) (hK : wK Γ s) (hP : Wd Γ sh v w H) (hS : va_S (gA Γ sh0 n0) s.heap H locs) (hz : H.size = Γ.2.1 + n) (hE : EN Γ sh0 n0 s) (hd : DM sh0 n0) (hG : GR sh0 n0 sh n) {post : Int32 → Wt → Prop} (hp : post r (sh, v, n)) (hdg : decode cc pc = .ok (.ireturn, 1)) : W p l e R s m args below meth c H locs cells slots (MQ below (va_Qi post (fun u => PN Γ u.1 u.2.1 w u.2.2) (gA Γ sh0 n0)) args s cells slots (gA Γ sh0 n0)) (F0 m pc ls [.int r]) :=
  W.zret hx hb hr hnr (fun t ht hW => ⟨⟨r, (sh, v, n), rfl, hp, ⟨by rw [ht]; exact hP, va_K.moved hW.alike hK, by rw [ht]; exact hz, hG.E hd hE hS ht hW⟩⟩, hS.F ht⟩) hS.2.2 hdg hlocks
/-- new arrays of bytes and booleans -/
theorem w_newB (hx : p.tables.exec = Jvm.exec) (hb : c.code = cc) (hts : ∀ w ∈ lw_all, w.before args s = true) (hK : wK Γ s) (hP : Wd Γ sh v w H) {A : Nat → Prop} (hS : va_S A H0 H locs) {x : Int32} {N : Nat} (hx0 : ¬ x < 0) (hN : x.toNatClampNeg = N) (hbig : N * 1 ≤ 536870912) (hcells : cells + 1 ≤ R.cells) (hslots : slots + N ≤ R.slots) (hn : H.size = Γ.2.1 + n) (hdg : decode cc pc = .ok (.newarray .byte, 2))
    (kk : ∀ H1 : Heap, H1.size = Γ.2.1 + (n + 1) → Wd Γ (up sh n (some (sB 1 N))) (up v n (fun _ => 0)) w H1 → va_S A H0 H1 locs → W p l e R s m args below meth c H1 locs (cells + 1) (slots + N) Q (F0 m (pc + 2) ls (.ref (Γ.2.1 + n) :: rest))) : W p l e R s m args below meth c H locs cells slots Q (F0 m pc ls (.int x :: rest)) := by
  refine va_newaK (atype := .byte) hx hb (hts _ ac_byte) rfl hdg rfl hx0 hN hbig hcells hslots hn fun H1 cA e1 z1 o1 _ hNm => ?_
  have hcA : cA = Γ.2.2.2.1 1 := by
    have h2 : s.vm.findClass ("[" ++ (FieldType.byte).toString) = some (Γ.2.2.2.1 1) := (hK.2 2 _ rfl).2
    exact Option.some.inj (hNm.symm.trans h2)
  subst hcA
  refine kk H1 (by omega) (hP.set n (fun e0 h0 => ?_) (fun q h => up_ne h) (fun q h => up_ne h) (fun q h => rfl) (fun q e0 h h0 => ?_)) ⟨by have := hS.1; omega, fun x h1 h2 => (o1 x (by have := hS.1; omega)).trans (hS.2.1 x h1 h2), hS.2.2⟩
  · rw [up_eq] at h0
    cases h0
    rw [up_eq]
    exact e1
  · exact o1 _ (by have := hP.lt h0; omega)
theorem w_newZ (hx : p.tables.exec = Jvm.exec) (hb : c.code = cc) (hts : ∀ w ∈ lw_all, w.before args s = true) (hK : wK Γ s) (hP : Wd Γ sh v w H) {A : Nat → Prop} (hS : va_S A H0 H locs) {x : Int32} {N : Nat} (hx0 : ¬ x < 0) (hN : x.toNatClampNeg = N) (hbig : N * 1 ≤ 536870912) (hcells : cells + 1 ≤ R.cells) (hslots : slots + N ≤ R.slots) (hn : H.size = Γ.2.1 + n) (hdg : decode cc pc = .ok (.newarray .boolean, 2))
    (kk : ∀ H1 : Heap, H1.size = Γ.2.1 + (n + 1) → Wd Γ (up sh n (some (sB 2 N))) (up v n (fun _ => 0)) w H1 → va_S A H0 H1 locs → W p l e R s m args below meth c H1 locs (cells + 1) (slots + N) Q (F0 m (pc + 2) ls (.ref (Γ.2.1 + n) :: rest))) : W p l e R s m args below meth c H locs cells slots Q (F0 m pc ls (.int x :: rest)) := by
  refine va_newaK (atype := .boolean) hx hb (hts _ ac_bool) rfl hdg rfl hx0 hN hbig hcells hslots hn fun H1 cA e1 z1 o1 _ hNm => ?_
  have hcA : cA = Γ.2.2.2.1 2 := by
    have h2 : s.vm.findClass ("[" ++ (FieldType.boolean).toString) = some (Γ.2.2.2.1 2) := (hK.2 3 _ rfl).2
    exact Option.some.inj (hNm.symm.trans h2)
  subst hcA
  refine kk H1 (by omega) (hP.set n (fun e0 h0 => ?_) (fun q h => up_ne h) (fun q h => up_ne h) (fun q h => rfl) (fun q e0 h h0 => ?_)) ⟨by have := hS.1; omega, fun x h1 h2 => (o1 x (by have := hS.1; omega)).trans (hS.2.1 x h1 h2), hS.2.2⟩
  · rw [up_eq] at h0
    cases h0
    rw [up_eq]
    exact e1
  · exact o1 _ (by have := hP.lt h0; omega)
/-- a byte is stored -/
theorem w_ba2 (hx : p.tables.exec = Jvm.exec) (hb : c.code = cc) (hK : wK Γ s) (hP : Wd Γ sh v w H) {A : Nat → Prop} (hS : va_S A H0 H locs) (hA : A (Γ.2.1 + k)) (hz : H.size = Γ.2.1 + n) {N : Nat} (he : sh k = some (sB 1 N)) {i x : Int32} (hin : vp_in i N) {v1 : Va} (hv1 : pu v k i.toNatClampNeg x.toInt8.toInt32 = v1) (hdg : decode cc pc = .ok (.bastore, 1))
    (kk : ∀ (H1 : Heap) (locs1 : List Loc), H1.size = Γ.2.1 + n → Wd Γ sh v1 w H1 → va_S A H0 H1 locs1 → W p l e R s m args below meth c H1 locs1 cells slots Q (F0 m (pc + 1) ls rest)) : W p l e R s m args below meth c H locs cells slots Q (F0 m pc ls (.int x :: .int i :: .ref (Γ.2.1 + k) :: rest)) := by
  have hcell : H[Γ.2.1 + k]? = some (vp_cell (Γ.2.2.2.1 1) (N, .inl (v k))) := hP k _ he
  refine W.bast hx hb hcell ((hK.2 2 _ rfl).1 N (fun j => .int (v k j))) (fun q => by cases q) (by show ¬ (i < 0 ∨ (arrV _ _ _).slots.size ≤ _); rw [arrV_size]; exact hin) rfl rfl hdg fun H1 e z oq => ?_
  refine kk H1 _ (z.trans hz) (hP.set k (fun e0 h0 => ?_) (fun q h => rfl) (fun q h => by rw [← hv1]; exact up_ne h) (fun q h => rfl) (fun q _ h _ => oq _ (fun hh => h (Nat.add_left_cancel hh)))) (hS.put z oq hA)
  rw [he] at h0
  cases h0
  rw [← hv1, pu, up_eq]
  show H1[Γ.2.1 + k]? = some (vp_cell _ _)
  rw [e, vp_cell_i]
  show some ((arrV _ _ _).setSlot _ _) = some (arrV (Γ.2.2.2.1 1) N (fun j => .int (upd (v k) i.toNatClampNeg x.toInt8.toInt32 j)))
  rw [arrV_store]
  congr 2
  funext q
  by_cases hq : q = i.toNatClampNeg
  · subst hq
    simp [updV, upd, narrow]
  · simp [updV, upd, hq]
end WT
