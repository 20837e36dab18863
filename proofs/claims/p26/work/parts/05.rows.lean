/-! ROWS OF CALLS AND ENDS, over the world; small words of the functions that methods are read as -/
def bnd {α β : Type} (a : α) (f : α → β) : β := f a
theorem bnd_e {α β : Type} {a : α} {f : α → β} {r : β} (h : bnd a f = r) : ∃ x, a = x ∧ f x = r := ⟨a, rfl, h⟩
theorem obn_e {α β : Type} {a : Option α} {f : α → Option β} {r : β} (h : a.bind f = some r) : ∃ x, a = some x ∧ f x = some r := Option.bind_eq_some_iff.mp h
theorem itn_e {α : Type} {c : Prop} [Decidable c] {x : Option α} {r : α} (h : (if c then none else x) = some r) : ¬ c ∧ x = some r := by
  split at h
  · cases h
  · exact ⟨‹_›, h⟩
theorem itt_e {α : Type} {c : Prop} [Decidable c] {x y r : α} (h : (if c then x else y) = r) (hc : c) : x = r := by rwa [if_pos hc] at h
theorem itf_e {α : Type} {c : Prop} [Decidable c] {x y r : α} (h : (if c then x else y) = r) (hc : ¬ c) : y = r := by rwa [if_neg hc] at h
def pu (v : Va) (k j : Nat) (y : Int32) : Va := up v k (upd (v k) j y)
/-- a loop's body, so often at most -/
def rp {σ ρ : Type} (f : (σ → Option ρ) → σ → Option ρ) : Nat → σ → Option ρ
  | 0, _ => none
  | n + 1, x => f (rp f n) x
/-- what stood at a state (kept in Γ), and isn't of the world, stands as it stood -/
def EN (Γ : Cx) (sh : Sh) (n : Nat) (U : State) : Prop := Γ.2.2.2.2.WarmedH U.vm ∧ Γ.2.2.2.2.heap.size ≤ U.heap.size ∧ Γ.2.2.2.2.heap.size ≤ Γ.2.1 + n ∧ ∀ a : Nat, a < Γ.2.2.2.2.heap.size → (∀ k e, sh k = some e → wr e → a ≠ Γ.2.1 + k) → U.heap[a]? = Γ.2.2.2.2.heap[a]?
theorem EN.go {Γ : Cx} {sh : Sh} {n : Nat} {s U : State} {H : Heap} {locs : List Loc} (hE : EN Γ sh n s) (hS : va_S (gA Γ sh n) s.heap H locs) (hU : U.heap = H) (hW : s.WarmedH U.vm) : EN Γ sh n U := ⟨State.WarmedH.trans hE.1 hW, by rw [hU]; exact Nat.le_trans hE.2.1 hS.1, hE.2.2.1, fun a h hd => by
  rw [hU, hS.2.1 a (Nat.lt_of_lt_of_le h hE.2.1) (fun q => q.elim (fun ⟨k, e, hk, hw, ha⟩ => hd k e hk hw ha) (fun q => absurd (Nat.lt_of_lt_of_le h hE.2.2.1) (Nat.not_lt.mpr q)))]
  exact hE.2.2.2 a h hd⟩
def PN (Γ : Cx) (sh : Sh) (v : Va) (w : Vl) (n : Nat) (U : State) : Prop := Wd Γ sh v w U.heap ∧ wK Γ U ∧ U.heap.size = Γ.2.1 + n ∧ EN Γ sh n U
theorem PN.blind {Γ : Cx} {sh : Sh} {v : Va} {w : Vl} {n : Nat} {As : List Value} : FrameBlind (va_Pc As (PN Γ sh v w n)) := fun a U g mk h => ⟨h.1, h.2.1, va_K.moved (u := U) (U := U.calling g mk a) (Vm.Alike.refl U.vm) h.2.2.1, h.2.2.2.1, h.2.2.2.2⟩
def MetI (l : Launch) (y : MethodName) (b : ByteArray) (mL : Nat) (r : Option FieldType) (h : Nat) (Γ : Cx) (sh : Sh) (v : Va) (w : Vl) (n : Nat) (As : List Value) (post : Int32 → Va → Prop) : Prop := Met l y (ws_ y b mL r) (rmh h) (va_Pc As (PN Γ sh v w n)) (va_Qi post (fun u => PN Γ sh u w n) (gA Γ sh n)) 0 0 (gA Γ sh n)
def MetL (l : Launch) (y : MethodName) (b : ByteArray) (mL : Nat) (r : Option FieldType) (h : Nat) (Γ : Cx) (sh : Sh) (v : Va) (w : Vl) (n : Nat) (As : List Value) (post : Int64 → Va → Prop) : Prop := Met l y (ws_ y b mL r) (rmh h) (va_Pc As (PN Γ sh v w n)) (va_Ql post (fun u => PN Γ sh u w n) (gA Γ sh n)) 0 0 (gA Γ sh n)
def MetV (l : Launch) (y : MethodName) (b : ByteArray) (mL : Nat) (r : Option FieldType) (h : Nat) (Γ : Cx) (sh : Sh) (v : Va) (w : Vl) (n : Nat) (As : List Value) (post : Va → Prop) : Prop := Met l y (ws_ y b mL r) (rmh h) (va_Pc As (PN Γ sh v w n)) (va_Qv post (fun u => PN Γ sh u w n) (gA Γ sh n)) 0 0 (gA Γ sh n)
def MetR (l : Launch) (y : MethodName) (b : ByteArray) (mL : Nat) (r : Option FieldType) (h : Nat) (Γ : Cx) (sh : Sh) (v : Va) (w : Vl) (n : Nat) (As : List Value) (post : Nat → Va → Prop) : Prop := Met l y (ws_ y b mL r) (rmh h) (va_Pc As (PN Γ sh v w n)) (va_Qr (fun u : Nat × Va => post u.1 u.2) (fun u a t => a = Γ.2.1 + u.1 ∧ PN Γ sh u.2 w n t) (gA Γ sh n)) 0 0 (gA Γ sh n)
section WC
variable {p : Program} {l : Launch} {e : Env} {R : Room} {s : State} {m : MethodId} {args : Array Value} {below : List Frame} {meth : Method} {c : Code} {H H0 : Heap} {locs : List Loc} {cells slots : Nat} {Q : State → Prop}
variable {cc : ByteArray} {pc nL : Nat} {ls : Array Slot} {st0 rest As : List Value} {Γ : Cx} {sh : Sh} {v : Va} {w : Vl} {own : String} {idx ci j k n nn hh mL mc ms : Nat} {cs : List Nat} {y : MethodName} {b : ByteArray} {ret : Option FieldType}
theorem w_pi2 (hx : p.tables.exec = Jvm.exec) (hb : c.code = cc) (hts : ∀ w ∈ lw_all, w.before args s = true) (hown : s.vm.findClass own = some m.cls) (hK : wK Γ s) (hP : Wd Γ sh v w H) (hS : va_S (gA Γ sh n) H0 H locs) (hz : H.size = Γ.2.1 + n) (hf : FL own idx ci j false .int) (he : sh k = some (sO ci cs)) (hc : cs[j]? = some 0) {x : Int32} {v1 : Va} (hv1 : pu v k j x = v1) (hdg : decode cc pc = .ok (.putfield idx, 3))
    (kk : ∀ (H1 : Heap) (locs1 : List Loc), H1.size = Γ.2.1 + n → Wd Γ sh v1 w H1 → va_S (gA Γ sh n) H0 H1 locs1 → W p l e R s m args below meth c H1 locs1 cells slots Q (F0 m (pc + 3) ls rest)) : W p l e R s m args below meth c H locs cells slots Q (F0 m pc ls (.int x :: .ref (Γ.2.1 + k) :: rest)) := by
  refine w_put hx hb hts hown hK hP hS (gA_in he) hf he hc (cd := 0) (y := x) rfl rfl rfl hdg fun H1 locs1 h0 h1 h2 => kk H1 locs1 (h0.trans hz) ?_ h2
  have e1 : cs.set j 0 = cs := by
    apply List.ext_getElem? ; intro i
    rw [List.getElem?_set]
    split
    · subst_vars
      split
      · exact hc.symm
      · next h => rw [List.getElem?_eq_none (by omega)]
    · rfl
  rw [e1, ← he, up_id] at h1
  rw [← hv1]
  exact h1
theorem w_ia2 (hx : p.tables.exec = Jvm.exec) (hb : c.code = cc) (hK : wK Γ s) (hP : Wd Γ sh v w H) (hS : va_S (gA Γ sh n) H0 H locs) (hz : H.size = Γ.2.1 + n) {N : Nat} (he : sh k = some (sA N)) {i x : Int32} (hin : vp_in i N) {v1 : Va} (hv1 : pu v k i.toNatClampNeg x = v1) (hdg : decode cc pc = .ok (.iastore, 1))
    (kk : ∀ (H1 : Heap) (locs1 : List Loc), H1.size = Γ.2.1 + n → Wd Γ sh v1 w H1 → va_S (gA Γ sh n) H0 H1 locs1 → W p l e R s m args below meth c H1 locs1 cells slots Q (F0 m (pc + 1) ls rest)) : W p l e R s m args below meth c H locs cells slots Q (F0 m pc ls (.int x :: .int i :: .ref (Γ.2.1 + k) :: rest)) := by
  have hcell : H[Γ.2.1 + k]? = some (vp_cell Γ.2.2.1 (N, .inl (v k))) := hP k _ he
  refine W.iast hx hb hcell ((hK.2 0 _ rfl).1 N (fun j => .int (v k j))) (fun q => by cases q) (by show ¬ (i < 0 ∨ (arrV _ _ _).slots.size ≤ _); rw [arrV_size]; exact hin) rfl rfl hdg fun H1 e z oq => ?_
  refine kk H1 _ (z.trans hz) (hP.set k (fun e0 h0 => ?_) (fun q h => rfl) (fun q h => by rw [← hv1]; exact up_ne h) (fun q h => rfl) (fun q _ h _ => oq _ (fun hh => h (Nat.add_left_cancel hh)))) (hS.put z oq (gA_in he))
  rw [he] at h0
  cases h0
  rw [← hv1, pu, up_eq]
  show H1[Γ.2.1 + k]? = some (vp_cell _ _)
  rw [e, vp_cell_i]
  show some ((arrV _ _ _).setSlot _ _) = some (arrV Γ.2.2.1 N (fun j => .int (upd (v k) i.toNatClampNeg x j)))
  rw [arrV_store]
  congr 2
  funext q
  by_cases hq : q = i.toNatClampNeg
  · subst hq
    simp [updV, upd]
  · simp [updV, upd, hq]
theorem w_hws {y : MethodName} {b : ByteArray} {mL : Nat} {ret : Option FieldType} (hts : ∀ w ∈ lw_all, w.before args s = true) (hC : Cond.code y b mL ret ∈ lw_all) : ∀ w ∈ ws_ y b mL ret, ∀ (a' : Array Value) (U : State), s.WarmedH U.vm → w.before a' U = true := by
  intro w hw a' U hW
  have h1 : w ∈ lw_all := by
    rcases List.mem_cons.mp hw with h | h
    · rw [h]; exact hC
    · exact h
  exact lw_steady (List.mem_filter.mp h1).2 hW (hts _ h1)
theorem w_len {y : MethodName} {nn : Nat} (h : CAx y nn) : ∀ sig, parseMethodDescriptor y.desc = some sig → nn = sig.parameters.length := fun sig h1 => by
  have h2 := h.2.2
  rw [h1] at h2
  exact (Option.some.inj h2).symm
theorem w_recv (hK : wK Γ s) (hP : Wd Γ sh v w H) (he : sh k = some (sO ci cs)) {C : String} (hcl : (vwCl[ci]?).map (fun q => q.1) = some C) : ∃ cell : Cell, H[Γ.2.1 + k]? = some cell ∧ cell.vm.isStatics = false ∧ s.vm.findClass C = some cell.cls := by
  cases hq : vwCl[ci]? with
  | none => rw [hq] at hcl; cases hcl
  | some q =>
    rw [hq] at hcl
    cases hcl
    exact va_recv hK (hP.one he) hq (q0 := 0) rfl
theorem w_rV (hx : p.tables.exec = Jvm.exec) (hb : c.code = cc) (hml : c.maxLocals = nL) (hts : ∀ w ∈ lw_all, w.before args s = true) (hown : s.vm.findClass own = some m.cls) (hK : wK Γ s) {rm : Room} {Pc : Array Value → State → Prop} {Qc : Array Value → State → Outcome → State → Prop} {free : Addr → Prop} (hM : Met l y (ws_ y b mL ret) rm Pc Qc mc ms free) (hrc : rm.cells = mc) (hrs : rm.slots = ms) (hC : CAV y b mL ret nn) (hL : ML own idx y) (hrecv : ∃ cell : Cell, H[Γ.2.1 + k]? = some cell ∧ cell.vm.isStatics = false ∧ s.vm.findClass y.cls = some cell.cls) (hbl : FrameBlind Pc) (hpc : ∀ U : State, U.heap = H → s.WarmedH U.vm → Pc (Value.ref (Γ.2.1 + k) :: As).toArray U) (hst : st0 = As.reverse ++ .ref (Γ.2.1 + k) :: rest) (hls : ls.size = nL) (hn : As.length = nn) (hW : (rest.map fun v => v.category).sum ≤ 8) (hR : rm.frames + 1 ≤ R.frames ∧ 8 + (mL + 11) + rm.locals ≤ R.locals) (hf : cells + mc ≤ R.cells ∧ slots + ms ≤ R.slots) (hdg : decode cc pc = .ok (.invokevirtual idx, 3)) : va_Run p l e R s m args below meth c H locs cells slots mc ms (F0 m pc ls st0) rest (Qc (Value.ref (Γ.2.1 + k) :: As).toArray) free := by
  obtain ⟨-, -, h1, h2, hax⟩ := id hC
  rcases hL with hl | ⟨host, hl⟩
  · exact va_runV (C := y.cls) (n := nn) ⟨hx, hb, hml, hown, hts⟩ hM ⟨⟨hrc, hrs, hR.1, hR.2, w_hws hts hC.1, List.mem_cons_self, hts _ hC.1, hts _ hC.2.1, ⟨hax.1, hax.2.1⟩, w_len hax, hts _ hl⟩, hts _ h1, hts _ h2⟩ ⟨hbl, hrecv, hpc⟩ rfl hn hls hst (by simpa [JFrame.monitorRoom] using hW) hdg hf
  · exact va_runVN (C := y.cls) (n := nn) ⟨hx, hb, hml, hown, hts⟩ hM ⟨⟨⟨hrc, hrs, hR.1, hR.2, w_hws hts hC.1, List.mem_cons_self⟩, hts _ hC.1, hts _ hC.2.1, ⟨hax.1, hax.2.1⟩, w_len hax, hts _ hl⟩, hts _ h1, hts _ h2⟩ ⟨hbl, hrecv, hpc⟩ rfl hn hls hst (by simpa [JFrame.monitorRoom] using hW) hdg hf
theorem w_rS (hx : p.tables.exec = Jvm.exec) (hb : c.code = cc) (hml : c.maxLocals = nL) (hts : ∀ w ∈ lw_all, w.before args s = true) (hown : s.vm.findClass own = some m.cls) (hK : wK Γ s) {rm : Room} {Pc : Array Value → State → Prop} {Qc : Array Value → State → Outcome → State → Prop} {free : Addr → Prop} (hM : Met l y (ws_ y b mL ret) rm Pc Qc mc ms free) (hrc : rm.cells = mc) (hrs : rm.slots = ms) (hC : CAS y b mL ret nn) (hL : ML own idx y) (hbl : FrameBlind Pc) (hpc : ∀ U : State, U.heap = H → s.WarmedH U.vm → Pc As.toArray U) (hst : st0 = As.reverse ++ rest) (hls : ls.size = nL) (hn : As.length = nn) (hW : (rest.map fun v => v.category).sum ≤ 8) (hR : rm.frames + 1 ≤ R.frames ∧ 8 + (mL + 11) + rm.locals ≤ R.locals) (hf : cells + mc ≤ R.cells ∧ slots + ms ≤ R.slots) (hdg : decode cc pc = .ok (.invokestatic idx, 3)) : va_Run p l e R s m args below meth c H locs cells slots mc ms (F0 m pc ls st0) rest (Qc As.toArray) free := by
  obtain ⟨-, -, h1, hax⟩ := id hC
  rcases hL with hl | ⟨host, hl⟩
  · exact va_runS (n := nn) ⟨hx, hb, hml, hown, hts⟩ hM ⟨⟨hrc, hrs, hR.1, hR.2, w_hws hts hC.1, List.mem_cons_self, hts _ hC.1, hts _ hC.2.1, ⟨hax.1, hax.2.1⟩, w_len hax, hts _ hl⟩, hts _ h1⟩ ⟨hbl, hpc⟩ rfl hn hls hst (by simpa [JFrame.monitorRoom] using hW) hdg hf
  · exact va_runSN (n := nn) ⟨hx, hb, hml, hown, hts⟩ hM ⟨⟨⟨hrc, hrs, hR.1, hR.2, w_hws hts hC.1, List.mem_cons_self⟩, hts _ hC.1, hts _ hC.2.1, ⟨hax.1, hax.2.1⟩, w_len hax, hts _ hl⟩, hts _ h1, trivial⟩ ⟨hbl, hpc⟩ rfl hn hls hst (by simpa [JFrame.monitorRoom] using hW) hdg hf
theorem w_rI (hx : p.tables.exec = Jvm.exec) (hb : c.code = cc) (hml : c.maxLocals = nL) (hts : ∀ w ∈ lw_all, w.before args s = true) (hown : s.vm.findClass own = some m.cls) (hK : wK Γ s) {rm : Room} {Pc : Array Value → State → Prop} {Qc : Array Value → State → Outcome → State → Prop} {free : Addr → Prop} (hM : Met l y (ws_ y b mL none) rm Pc Qc mc ms free) (hrc : rm.cells = mc) (hrs : rm.slots = ms) (hC : CAI y b mL none nn) (hL : ML own idx y) (hbl : FrameBlind Pc) (hpc : ∀ U : State, U.heap = H → s.WarmedH U.vm → Pc (Value.ref (Γ.2.1 + k) :: As).toArray U) (hst : st0 = As.reverse ++ .ref (Γ.2.1 + k) :: rest) (hls : ls.size = nL) (hn : As.length = nn) (hW : (rest.map fun v => v.category).sum ≤ 8) (hR : rm.frames + 1 ≤ R.frames ∧ 8 + (mL + 11) + rm.locals ≤ R.locals) (hf : cells + mc ≤ R.cells ∧ slots + ms ≤ R.slots) (hdg : decode cc pc = .ok (.invokespecial idx, 3)) : va_Run p l e R s m args below meth c H locs cells slots mc ms (F0 m pc ls st0) rest (Qc (Value.ref (Γ.2.1 + k) :: As).toArray) free := by
  obtain ⟨-, -, h1, hy, hax⟩ := id hC
  rcases hL with hl | ⟨host, hl⟩
  · exact va_runI (n := nn) ⟨hx, hb, hml, hown, hts⟩ hM ⟨⟨hrc, hrs, hR.1, hR.2, w_hws hts hC.1, List.mem_cons_self, hts _ hC.1, hts _ hC.2.1, ⟨hax.1, hax.2.1⟩, w_len hax, hts _ hl⟩, hy, hts _ h1⟩ ⟨hbl, hpc⟩ rfl hn hls hst (by simpa [JFrame.monitorRoom] using hW) hdg hf
  · exact va_runIN (n := nn) ⟨hx, hb, hml, hown, hts⟩ hM ⟨⟨⟨hrc, hrs, hR.1, hR.2, w_hws hts hC.1, List.mem_cons_self⟩, hts _ hC.1, hts _ hC.2.1, ⟨hax.1, hax.2.1⟩, w_len hax, hts _ hl⟩, hy, hts _ h1⟩ ⟨hbl, hpc⟩ rfl hn hls hst (by simpa [JFrame.monitorRoom] using hW) hdg hf
theorem w_pn (hK : wK Γ s) (hE : EN Γ sh n s) (hS : va_S (gA Γ sh n) s.heap H locs) (hP : Wd Γ sh v w H) (hz : H.size = Γ.2.1 + n) {Bs : List Value} : ∀ U : State, U.heap = H → s.WarmedH U.vm → va_Pc Bs (PN Γ sh v w n) Bs.toArray U := fun U hU hW => ⟨rfl, by rw [hU]; exact hP, va_K.moved hW.alike hK, by rw [hU]; exact hz, hE.go hS hU hW⟩
theorem w_cVi (hx : p.tables.exec = Jvm.exec) (hb : c.code = cc) (hml : c.maxLocals = nL) (hts : ∀ w ∈ lw_all, w.before args s = true) (hown : s.vm.findClass own = some m.cls) (hK : wK Γ s) (hP : Wd Γ sh v w H) (hS : va_S (gA Γ sh n) s.heap H locs) (hz : H.size = Γ.2.1 + n) (hE : EN Γ sh n s) {post : Int32 → Va → Prop} (hM : MetI l y b mL ret hh Γ sh v w n (.ref (Γ.2.1 + k) :: As) post) (hC : CAV y b mL ret nn) (hL : ML own idx y) (he : sh k = some (sO ci cs)) (hcl : (vwCl[ci]?).map (fun q => q.1) = some y.cls) (hst : st0 = As.reverse ++ .ref (Γ.2.1 + k) :: rest) (hn : As.length = nn) (hls : ls.size = nL) (hW : (rest.map fun v => v.category).sum ≤ 8) (hR : hh + 1 ≤ R.frames ∧ 8 + (mL + 11) + 40 * hh ≤ R.locals) (hf : cells ≤ R.cells ∧ slots ≤ R.slots) (hdg : decode cc pc = .ok (.invokevirtual idx, 3)) (kk : ∀ (r : Int32) (v1 : Va) (H1 : Heap) (locs1 : List Loc), post r v1 → H1.size = Γ.2.1 + n → Wd Γ sh v1 w H1 → va_S (gA Γ sh n) s.heap H1 locs1 → W p l e R s m args below meth c H1 locs1 cells slots Q (F0 m (pc + 3) ls (.int r :: rest))) : W p l e R s m args below meth c H locs cells slots Q (F0 m pc ls st0) := by
  refine va_calli (w_rV hx hb hml hts hown hK hM rfl rfl hC hL (w_recv hK hP he hcl) PN.blind (w_pn hK hE hS hP hz) hst hls hn hW hR hf hdg) hS (fun q _ h => h) (fun q h => h) (fun r u t H1 locs1 ht hvm hp hB hz1 hk1 hS1 => ?_)
  obtain ⟨hP1, -, hz2, -⟩ := hB
  rw [ht] at hP1 hz2
  exact kk r u H1 locs1 hp hz2 hP1 hS1
theorem w_cSi (hx : p.tables.exec = Jvm.exec) (hb : c.code = cc) (hml : c.maxLocals = nL) (hts : ∀ w ∈ lw_all, w.before args s = true) (hown : s.vm.findClass own = some m.cls) (hK : wK Γ s) (hP : Wd Γ sh v w H) (hS : va_S (gA Γ sh n) s.heap H locs) (hz : H.size = Γ.2.1 + n) (hE : EN Γ sh n s) {post : Int32 → Va → Prop} (hM : MetI l y b mL ret hh Γ sh v w n (As) post) (hC : CAS y b mL ret nn) (hL : ML own idx y) (hst : st0 = As.reverse ++ rest) (hn : As.length = nn) (hls : ls.size = nL) (hW : (rest.map fun v => v.category).sum ≤ 8) (hR : hh + 1 ≤ R.frames ∧ 8 + (mL + 11) + 40 * hh ≤ R.locals) (hf : cells ≤ R.cells ∧ slots ≤ R.slots) (hdg : decode cc pc = .ok (.invokestatic idx, 3)) (kk : ∀ (r : Int32) (v1 : Va) (H1 : Heap) (locs1 : List Loc), post r v1 → H1.size = Γ.2.1 + n → Wd Γ sh v1 w H1 → va_S (gA Γ sh n) s.heap H1 locs1 → W p l e R s m args below meth c H1 locs1 cells slots Q (F0 m (pc + 3) ls (.int r :: rest))) : W p l e R s m args below meth c H locs cells slots Q (F0 m pc ls st0) := by
  refine va_calli (w_rS hx hb hml hts hown hK hM rfl rfl hC hL PN.blind (w_pn hK hE hS hP hz) hst hls hn hW hR hf hdg) hS (fun q _ h => h) (fun q h => h) (fun r u t H1 locs1 ht hvm hp hB hz1 hk1 hS1 => ?_)
  obtain ⟨hP1, -, hz2, -⟩ := hB
  rw [ht] at hP1 hz2
  exact kk r u H1 locs1 hp hz2 hP1 hS1
theorem w_cVl (hx : p.tables.exec = Jvm.exec) (hb : c.code = cc) (hml : c.maxLocals = nL) (hts : ∀ w ∈ lw_all, w.before args s = true) (hown : s.vm.findClass own = some m.cls) (hK : wK Γ s) (hP : Wd Γ sh v w H) (hS : va_S (gA Γ sh n) s.heap H locs) (hz : H.size = Γ.2.1 + n) (hE : EN Γ sh n s) {post : Int64 → Va → Prop} (hM : MetL l y b mL ret hh Γ sh v w n (.ref (Γ.2.1 + k) :: As) post) (hC : CAV y b mL ret nn) (hL : ML own idx y) (he : sh k = some (sO ci cs)) (hcl : (vwCl[ci]?).map (fun q => q.1) = some y.cls) (hst : st0 = As.reverse ++ .ref (Γ.2.1 + k) :: rest) (hn : As.length = nn) (hls : ls.size = nL) (hW : (rest.map fun v => v.category).sum ≤ 8) (hR : hh + 1 ≤ R.frames ∧ 8 + (mL + 11) + 40 * hh ≤ R.locals) (hf : cells ≤ R.cells ∧ slots ≤ R.slots) (hdg : decode cc pc = .ok (.invokevirtual idx, 3)) (kk : ∀ (r : Int64) (v1 : Va) (H1 : Heap) (locs1 : List Loc), post r v1 → H1.size = Γ.2.1 + n → Wd Γ sh v1 w H1 → va_S (gA Γ sh n) s.heap H1 locs1 → W p l e R s m args below meth c H1 locs1 cells slots Q (F0 m (pc + 3) ls (.long r :: rest))) : W p l e R s m args below meth c H locs cells slots Q (F0 m pc ls st0) := by
  refine va_calll (w_rV hx hb hml hts hown hK hM rfl rfl hC hL (w_recv hK hP he hcl) PN.blind (w_pn hK hE hS hP hz) hst hls hn hW hR hf hdg) hS (fun q _ h => h) (fun q h => h) (fun r u t H1 locs1 ht hvm hp hB hz1 hk1 hS1 => ?_)
  obtain ⟨hP1, -, hz2, -⟩ := hB
  rw [ht] at hP1 hz2
  exact kk r u H1 locs1 hp hz2 hP1 hS1
theorem w_cSl (hx : p.tables.exec = Jvm.exec) (hb : c.code = cc) (hml : c.maxLocals = nL) (hts : ∀ w ∈ lw_all, w.before args s = true) (hown : s.vm.findClass own = some m.cls) (hK : wK Γ s) (hP : Wd Γ sh v w H) (hS : va_S (gA Γ sh n) s.heap H locs) (hz : H.size = Γ.2.1 + n) (hE : EN Γ sh n s) {post : Int64 → Va → Prop} (hM : MetL l y b mL ret hh Γ sh v w n (As) post) (hC : CAS y b mL ret nn) (hL : ML own idx y) (hst : st0 = As.reverse ++ rest) (hn : As.length = nn) (hls : ls.size = nL) (hW : (rest.map fun v => v.category).sum ≤ 8) (hR : hh + 1 ≤ R.frames ∧ 8 + (mL + 11) + 40 * hh ≤ R.locals) (hf : cells ≤ R.cells ∧ slots ≤ R.slots) (hdg : decode cc pc = .ok (.invokestatic idx, 3)) (kk : ∀ (r : Int64) (v1 : Va) (H1 : Heap) (locs1 : List Loc), post r v1 → H1.size = Γ.2.1 + n → Wd Γ sh v1 w H1 → va_S (gA Γ sh n) s.heap H1 locs1 → W p l e R s m args below meth c H1 locs1 cells slots Q (F0 m (pc + 3) ls (.long r :: rest))) : W p l e R s m args below meth c H locs cells slots Q (F0 m pc ls st0) := by
  refine va_calll (w_rS hx hb hml hts hown hK hM rfl rfl hC hL PN.blind (w_pn hK hE hS hP hz) hst hls hn hW hR hf hdg) hS (fun q _ h => h) (fun q h => h) (fun r u t H1 locs1 ht hvm hp hB hz1 hk1 hS1 => ?_)
  obtain ⟨hP1, -, hz2, -⟩ := hB
  rw [ht] at hP1 hz2
  exact kk r u H1 locs1 hp hz2 hP1 hS1
theorem w_cVv (hx : p.tables.exec = Jvm.exec) (hb : c.code = cc) (hml : c.maxLocals = nL) (hts : ∀ w ∈ lw_all, w.before args s = true) (hown : s.vm.findClass own = some m.cls) (hK : wK Γ s) (hP : Wd Γ sh v w H) (hS : va_S (gA Γ sh n) s.heap H locs) (hz : H.size = Γ.2.1 + n) (hE : EN Γ sh n s) {post : Va → Prop} (hM : MetV l y b mL ret hh Γ sh v w n (.ref (Γ.2.1 + k) :: As) post) (hC : CAV y b mL ret nn) (hL : ML own idx y) (he : sh k = some (sO ci cs)) (hcl : (vwCl[ci]?).map (fun q => q.1) = some y.cls) (hst : st0 = As.reverse ++ .ref (Γ.2.1 + k) :: rest) (hn : As.length = nn) (hls : ls.size = nL) (hW : (rest.map fun v => v.category).sum ≤ 8) (hR : hh + 1 ≤ R.frames ∧ 8 + (mL + 11) + 40 * hh ≤ R.locals) (hf : cells ≤ R.cells ∧ slots ≤ R.slots) (hdg : decode cc pc = .ok (.invokevirtual idx, 3)) (kk : ∀ (v1 : Va) (H1 : Heap) (locs1 : List Loc), post v1 → H1.size = Γ.2.1 + n → Wd Γ sh v1 w H1 → va_S (gA Γ sh n) s.heap H1 locs1 → W p l e R s m args below meth c H1 locs1 cells slots Q (F0 m (pc + 3) ls (rest))) : W p l e R s m args below meth c H locs cells slots Q (F0 m pc ls st0) := by
  refine va_callv (w_rV hx hb hml hts hown hK hM rfl rfl hC hL (w_recv hK hP he hcl) PN.blind (w_pn hK hE hS hP hz) hst hls hn hW hR hf hdg) hS (fun q _ h => h) (fun q h => h) (fun u t H1 locs1 ht hvm hp hB hz1 hk1 hS1 => ?_)
  obtain ⟨hP1, -, hz2, -⟩ := hB
  rw [ht] at hP1 hz2
  exact kk u H1 locs1 hp hz2 hP1 hS1
theorem w_cSv (hx : p.tables.exec = Jvm.exec) (hb : c.code = cc) (hml : c.maxLocals = nL) (hts : ∀ w ∈ lw_all, w.before args s = true) (hown : s.vm.findClass own = some m.cls) (hK : wK Γ s) (hP : Wd Γ sh v w H) (hS : va_S (gA Γ sh n) s.heap H locs) (hz : H.size = Γ.2.1 + n) (hE : EN Γ sh n s) {post : Va → Prop} (hM : MetV l y b mL ret hh Γ sh v w n (As) post) (hC : CAS y b mL ret nn) (hL : ML own idx y) (hst : st0 = As.reverse ++ rest) (hn : As.length = nn) (hls : ls.size = nL) (hW : (rest.map fun v => v.category).sum ≤ 8) (hR : hh + 1 ≤ R.frames ∧ 8 + (mL + 11) + 40 * hh ≤ R.locals) (hf : cells ≤ R.cells ∧ slots ≤ R.slots) (hdg : decode cc pc = .ok (.invokestatic idx, 3)) (kk : ∀ (v1 : Va) (H1 : Heap) (locs1 : List Loc), post v1 → H1.size = Γ.2.1 + n → Wd Γ sh v1 w H1 → va_S (gA Γ sh n) s.heap H1 locs1 → W p l e R s m args below meth c H1 locs1 cells slots Q (F0 m (pc + 3) ls (rest))) : W p l e R s m args below meth c H locs cells slots Q (F0 m pc ls st0) := by
  refine va_callv (w_rS hx hb hml hts hown hK hM rfl rfl hC hL PN.blind (w_pn hK hE hS hP hz) hst hls hn hW hR hf hdg) hS (fun q _ h => h) (fun q h => h) (fun u t H1 locs1 ht hvm hp hB hz1 hk1 hS1 => ?_)
  obtain ⟨hP1, -, hz2, -⟩ := hB
  rw [ht] at hP1 hz2
  exact kk u H1 locs1 hp hz2 hP1 hS1
theorem w_cIv (hx : p.tables.exec = Jvm.exec) (hb : c.code = cc) (hml : c.maxLocals = nL) (hts : ∀ w ∈ lw_all, w.before args s = true) (hown : s.vm.findClass own = some m.cls) (hK : wK Γ s) (hP : Wd Γ sh v w H) (hS : va_S (gA Γ sh n) s.heap H locs) (hz : H.size = Γ.2.1 + n) (hE : EN Γ sh n s) {post : Va → Prop} (hM : MetV l y b mL none hh Γ sh v w n (.ref (Γ.2.1 + k) :: As) post) (hC : CAI y b mL none nn) (hL : ML own idx y) (hst : st0 = As.reverse ++ .ref (Γ.2.1 + k) :: rest) (hn : As.length = nn) (hls : ls.size = nL) (hW : (rest.map fun v => v.category).sum ≤ 8) (hR : hh + 1 ≤ R.frames ∧ 8 + (mL + 11) + 40 * hh ≤ R.locals) (hf : cells ≤ R.cells ∧ slots ≤ R.slots) (hdg : decode cc pc = .ok (.invokespecial idx, 3)) (kk : ∀ (v1 : Va) (H1 : Heap) (locs1 : List Loc), post v1 → H1.size = Γ.2.1 + n → Wd Γ sh v1 w H1 → va_S (gA Γ sh n) s.heap H1 locs1 → W p l e R s m args below meth c H1 locs1 cells slots Q (F0 m (pc + 3) ls (rest))) : W p l e R s m args below meth c H locs cells slots Q (F0 m pc ls st0) := by
  refine va_callv (w_rI hx hb hml hts hown hK hM rfl rfl hC hL PN.blind (w_pn hK hE hS hP hz) hst hls hn hW hR hf hdg) hS (fun q _ h => h) (fun q h => h) (fun u t H1 locs1 ht hvm hp hB hz1 hk1 hS1 => ?_)
  obtain ⟨hP1, -, hz2, -⟩ := hB
  rw [ht] at hP1 hz2
  exact kk u H1 locs1 hp hz2 hP1 hS1
theorem w_cVr (hx : p.tables.exec = Jvm.exec) (hb : c.code = cc) (hml : c.maxLocals = nL) (hts : ∀ w ∈ lw_all, w.before args s = true) (hown : s.vm.findClass own = some m.cls) (hK : wK Γ s) (hP : Wd Γ sh v w H) (hS : va_S (gA Γ sh n) s.heap H locs) (hz : H.size = Γ.2.1 + n) (hE : EN Γ sh n s) {post : Nat → Va → Prop} (hM : MetR l y b mL ret hh Γ sh v w n (.ref (Γ.2.1 + k) :: As) post) (hC : CAV y b mL ret nn) (hL : ML own idx y) (he : sh k = some (sO ci cs)) (hcl : (vwCl[ci]?).map (fun q => q.1) = some y.cls) (hst : st0 = As.reverse ++ .ref (Γ.2.1 + k) :: rest) (hn : As.length = nn) (hls : ls.size = nL) (hW : (rest.map fun v => v.category).sum ≤ 8) (hR : hh + 1 ≤ R.frames ∧ 8 + (mL + 11) + 40 * hh ≤ R.locals) (hf : cells ≤ R.cells ∧ slots ≤ R.slots) (hdg : decode cc pc = .ok (.invokevirtual idx, 3)) (kk : ∀ (r : Nat) (v1 : Va) (H1 : Heap) (locs1 : List Loc), post r v1 → H1.size = Γ.2.1 + n → Wd Γ sh v1 w H1 → va_S (gA Γ sh n) s.heap H1 locs1 → W p l e R s m args below meth c H1 locs1 cells slots Q (F0 m (pc + 3) ls (.ref (Γ.2.1 + r) :: rest))) : W p l e R s m args below meth c H locs cells slots Q (F0 m pc ls st0) := by
  refine va_callr (w_rV hx hb hml hts hown hK hM rfl rfl hC hL (w_recv hK hP he hcl) PN.blind (w_pn hK hE hS hP hz) hst hls hn hW hR hf hdg) hS (fun q _ h => h) (fun q h => h) (fun u a t H1 locs1 ht hvm hp hB hz1 hk1 hS1 => ?_)
  obtain ⟨ha, hP1, -, hz2, -⟩ := hB
  rw [ht] at hP1 hz2
  subst ha
  exact kk u.1 u.2 H1 locs1 hp hz2 hP1 hS1
theorem w_cSr (hx : p.tables.exec = Jvm.exec) (hb : c.code = cc) (hml : c.maxLocals = nL) (hts : ∀ w ∈ lw_all, w.before args s = true) (hown : s.vm.findClass own = some m.cls) (hK : wK Γ s) (hP : Wd Γ sh v w H) (hS : va_S (gA Γ sh n) s.heap H locs) (hz : H.size = Γ.2.1 + n) (hE : EN Γ sh n s) {post : Nat → Va → Prop} (hM : MetR l y b mL ret hh Γ sh v w n (As) post) (hC : CAS y b mL ret nn) (hL : ML own idx y) (hst : st0 = As.reverse ++ rest) (hn : As.length = nn) (hls : ls.size = nL) (hW : (rest.map fun v => v.category).sum ≤ 8) (hR : hh + 1 ≤ R.frames ∧ 8 + (mL + 11) + 40 * hh ≤ R.locals) (hf : cells ≤ R.cells ∧ slots ≤ R.slots) (hdg : decode cc pc = .ok (.invokestatic idx, 3)) (kk : ∀ (r : Nat) (v1 : Va) (H1 : Heap) (locs1 : List Loc), post r v1 → H1.size = Γ.2.1 + n → Wd Γ sh v1 w H1 → va_S (gA Γ sh n) s.heap H1 locs1 → W p l e R s m args below meth c H1 locs1 cells slots Q (F0 m (pc + 3) ls (.ref (Γ.2.1 + r) :: rest))) : W p l e R s m args below meth c H locs cells slots Q (F0 m pc ls st0) := by
  refine va_callr (w_rS hx hb hml hts hown hK hM rfl rfl hC hL PN.blind (w_pn hK hE hS hP hz) hst hls hn hW hR hf hdg) hS (fun q _ h => h) (fun q h => h) (fun u a t H1 locs1 ht hvm hp hB hz1 hk1 hS1 => ?_)
  obtain ⟨ha, hP1, -, hz2, -⟩ := hB
  rw [ht] at hP1 hz2
  subst ha
  exact kk u.1 u.2 H1 locs1 hp hz2 hP1 hS1
theorem w_iret (hx : p.tables.exec = Jvm.exec) (hb : c.code = cc) {r : Int32} {ty : FieldType} (hr : meth.sig.returnType = some ty) (hnr : narrow ty (.int r) = .int r) (hlocks : meth.locks = false) (hK : wK Γ s) (hP : Wd Γ sh v w H) (hS : va_S (gA Γ sh n) s.heap H locs) (hz : H.size = Γ.2.1 + n) (hE : EN Γ sh n s) {post : Int32 → Va → Prop} (hp : post r v) (hdg : decode cc pc = .ok (.ireturn, 1)) : W p l e R s m args below meth c H locs cells slots (MQ below (va_Qi post (fun u => PN Γ sh u w n) (gA Γ sh n)) args s cells slots (gA Γ sh n)) (F0 m pc ls [.int r]) :=
  W.zret hx hb hr hnr (fun t ht hW => ⟨⟨r, v, rfl, hp, ⟨by rw [ht]; exact hP, va_K.moved hW.alike hK, by rw [ht]; exact hz, hE.go hS ht hW⟩⟩, hS.F ht⟩) hS.2.2 hdg hlocks
theorem w_lret (hx : p.tables.exec = Jvm.exec) (hb : c.code = cc) {r : Int64} (hr : meth.sig.returnType = some .long) (hlocks : meth.locks = false) (hK : wK Γ s) (hP : Wd Γ sh v w H) (hS : va_S (gA Γ sh n) s.heap H locs) (hz : H.size = Γ.2.1 + n) (hE : EN Γ sh n s) {post : Int64 → Va → Prop} (hp : post r v) (hdg : decode cc pc = .ok (.lreturn, 1)) : W p l e R s m args below meth c H locs cells slots (MQ below (va_Ql post (fun u => PN Γ sh u w n) (gA Γ sh n)) args s cells slots (gA Γ sh n)) (F0 m pc ls [.long r]) :=
  W.lret hx hb hr (fun t ht hW => ⟨⟨r, v, rfl, hp, ⟨by rw [ht]; exact hP, va_K.moved hW.alike hK, by rw [ht]; exact hz, hE.go hS ht hW⟩⟩, hS.F ht⟩) hS.2.2 hdg hlocks
theorem w_vret (hx : p.tables.exec = Jvm.exec) (hb : c.code = cc) (hr : meth.sig.returnType = none) (hlocks : meth.locks = false) (hK : wK Γ s) (hP : Wd Γ sh v w H) (hS : va_S (gA Γ sh n) s.heap H locs) (hz : H.size = Γ.2.1 + n) (hE : EN Γ sh n s) {post : Va → Prop} (hp : post v) (hdg : decode cc pc = .ok (.return_, 1)) : W p l e R s m args below meth c H locs cells slots (MQ below (va_Qv post (fun u => PN Γ sh u w n) (gA Γ sh n)) args s cells slots (gA Γ sh n)) (F0 m pc ls []) :=
  W.vret hx hb hr (fun t ht hW => ⟨⟨v, rfl, hp, ⟨by rw [ht]; exact hP, va_K.moved hW.alike hK, by rw [ht]; exact hz, hE.go hS ht hW⟩⟩, hS.F ht⟩) hS.2.2 hdg hlocks
theorem w_rret (hx : p.tables.exec = Jvm.exec) (hb : c.code = cc) {r : Nat} {ty : FieldType} (hr : meth.sig.returnType = some ty) (hrt : (∃ n, ty = .object n) ∨ ∃ t, ty = .array t) (hlocks : meth.locks = false) (hK : wK Γ s) (hP : Wd Γ sh v w H) (hS : va_S (gA Γ sh n) s.heap H locs) (hz : H.size = Γ.2.1 + n) (hE : EN Γ sh n s) {post : Nat → Va → Prop} (hp : post r v) (hdg : decode cc pc = .ok (.areturn, 1)) : W p l e R s m args below meth c H locs cells slots (MQ below (va_Qr (fun u : Nat × Va => post u.1 u.2) (fun u a t => a = Γ.2.1 + u.1 ∧ PN Γ sh u.2 w n t) (gA Γ sh n)) args s cells slots (gA Γ sh n)) (F0 m pc ls [.ref (Γ.2.1 + r)]) :=
  W.aret hx hb hr hrt (Or.inr ⟨_, rfl⟩) (fun t ht hW => ⟨⟨(r, v), _, rfl, hp, rfl, ⟨by rw [ht]; exact hP, va_K.moved hW.alike hK, by rw [ht]; exact hz, hE.go hS ht hW⟩⟩, hS.F ht⟩) hS.2.2 hdg hlocks
end WC
/-- a method's start -/
theorem w_start {l : Launch} {y : MethodName} {cc : ByteArray} {mL : Nat} {ret : Option FieldType} {rm : Room} {Γ : Cx} {sh : Sh} {v : Va} {w : Vl} {n : Nat} {As : List Value} {Qc : Array Value → State → Outcome → State → Prop} {mc ms : Nat} (hy : plainName y.cls = true) (hlen : (lg_sl As).length ≤ mL)
    (body : ∀ (p : Program) (e : Env) (s : State) (m : MethodId) (args : Array Value) (below : List Frame) (meth : Method) (c : Code), p.tables.exec = Jvm.exec → c.code = cc → c.maxLocals = mL → meth.sig.returnType = ret → meth.locks = false → meth.name = y.name → (∀ w ∈ lw_all, w.before args s = true) → s.vm.findClass y.cls = some m.cls → wK Γ s → Wd Γ sh v w s.heap → s.heap.size = Γ.2.1 + n → EN Γ sh n s → va_S (gA Γ sh n) s.heap s.heap [] → ∀ ls, lv_has ls mL (lv_args 0 As) →
      W p l e rm s m args below meth c s.heap [] 0 0 (MQ below Qc args s mc ms (gA Γ sh n)) (F0 m 0 ls [])) : Met l y (ws_ y cc mL ret) rm (va_Pc As (PN Γ sh v w n)) Qc mc ms (gA Γ sh n) := by
  refine Met.ofW (cc := cc) (maxL := mL) (ret := ret) hy rfl ?_
  intro p e s m args below meth c s₁ B hml hv
  obtain ⟨rfl, hP, hK, hz, hE⟩ := hv
  have hts := atoms_spec (ws := ws_ y cc mL ret) B.pre
  have hl := lv_entry As (n := mL) hlen
  rw [lg_entry_eq]
  exact body p e s m _ below meth c B.exec B.bytes hml B.returns B.notSynchronized (name_of_methodNamed B.named B.method).1 (fun w hw => hts w (List.mem_cons_of_mem _ hw)) (findClass_of_methodNamed B.named) hK hP hz hE va_S.rf _ hl
