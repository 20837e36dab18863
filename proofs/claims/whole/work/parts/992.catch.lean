/-! CALLS THAT MAY THROW, and their catching; rows of longs -/
def lu (f : Nat → Int64) (k : Nat) (x : Int64) : Nat → Int64 := fun j => if j = k then x else f j
abbrev wsC (y : MethodName) (b : ByteArray) (mL : Nat) (r : Option FieldType) (hh : List (Nat × Nat × Nat × Nat)) : List Cond := Cond.codeWith y b mL r hh :: lw_all
def MetS (l : Launch) (y : MethodName) (b : ByteArray) (mL : Nat) (r : Option FieldType) (hh : List (Nat × Nat × Nat × Nat)) (h : Nat) (Γ : Cx) (sh : Sh) (v : Va) (w : Vl) (n : Nat) (As : List Value) (post : Int32 → (Va × Vl × Nat) → Prop) : Prop := Met l y (wsC y b mL r hh) (rmc h 1 6) (va_Pc As (PN Γ sh v w n)) (va_Qi post (fun u => PN Γ sh u.1 u.2.1 u.2.2) (gA Γ)) 1 6 (gA Γ)
def CASW (y : MethodName) (b : ByteArray) (mL : Nat) (r : Option FieldType) (hh : List (Nat × Nat × Nat × Nat)) (n : Nat) : Prop := Cond.codeWith y b mL r hh ∈ lw_all ∧ Cond.initialized y.cls ∈ lw_all ∧ Cond.static y ∈ lw_all ∧ CAx y n
def NCs (Γ : Cx) : Prop := ∀ a b : Nat, a ≤ 2 → b ≤ 2 → a ≠ b → va_Nc (xn a) (xn b) (cx0 Γ)
section WS
variable {p : Program} {l : Launch} {e : Env} {R : Room} {s : State} {m : MethodId} {args : Array Value} {below : List Frame} {meth : Method} {c : Code} {H H0 : Heap} {locs : List Loc} {cells slots : Nat} {Q : State → Prop}
variable {cc : ByteArray} {pc nL : Nat} {ls : Array Slot} {st0 rest As : List Value} {Γ : Cx} {sh : Sh} {v v1 : Va} {w : Vl} {own : String} {idx ci j k n nn hh mL : Nat} {cs : List Nat} {y : MethodName} {b : ByteArray} {ret : Option FieldType}
theorem w_last (hx : p.tables.exec = Jvm.exec) (hb : c.code = cc) (hK : wK Γ s) (hP : Wd Γ sh v w H) (hS : va_S (gA Γ) H0 H locs) (hz : H.size = Γ.2.1 + n) {N : Nat} (he : sh k = some (sL N)) {i : Int32} {x : Int64} (hin : vp_in i N) (hdg : decode cc pc = .ok (.lastore, 1))
    (kk : ∀ (H1 : Heap) (locs1 : List Loc), H1.size = Γ.2.1 + n → Wd Γ sh v (up w k (lu (w k) i.toNatClampNeg x)) H1 → va_S (gA Γ) H0 H1 locs1 → W p l e R s m args below meth c H1 locs1 cells slots Q (F0 m (pc + 1) ls rest)) : W p l e R s m args below meth c H locs cells slots Q (F0 m pc ls (.long x :: .int i :: .ref (Γ.2.1 + k) :: rest)) := by
  have hcell : H[Γ.2.1 + k]? = some (vp_cell Γ.2.2.2.1 (N, .inr (.inl (w k)))) := hP k _ he
  refine W.last hx hb hcell ((hK.2 1 _ rfl).1 N (fun j => .long (w k j))) (fun q => by cases q) (by show ¬ (i < 0 ∨ (arrV _ _ _).slots.size ≤ _); rw [arrV_size]; exact hin) rfl rfl hdg fun H1 e z oq => ?_
  refine kk H1 _ (z.trans hz) (hP.set k (fun e0 h0 => ?_) (fun q h => rfl) (fun q h => rfl) (fun q h => up_ne h) (fun q _ h _ => oq _ (fun hh => h (Nat.add_left_cancel hh)))) (hS.put z oq (Nat.le_add_right _ _))
  rw [he] at h0
  cases h0
  rw [up_eq]
  show H1[Γ.2.1 + k]? = some (vp_cell _ _)
  rw [e, vp_cell_l]
  show some ((arrV _ _ _).setSlot _ _) = some (arrV Γ.2.2.2.1 N (fun j => .long (lu (w k) i.toNatClampNeg x j)))
  rw [arrV_store]
  congr 2
  funext q
  by_cases hq : q = i.toNatClampNeg
  · subst hq
    simp [updV, lu]
  · simp [updV, lu, hq]
theorem w_sret (hx : p.tables.exec = Jvm.exec) (hb : c.code = cc) {r : Int32} {ty : FieldType} (hr : meth.sig.returnType = some ty) (hnr : narrow ty (.int r) = .int r) (hlocks : meth.locks = false) (hK : wK Γ s) (hP : Wd Γ sh v w H) (hS : va_S (gA Γ) s.heap H locs) (hz : H.size = Γ.2.1 + n) (hE : EN Γ s) {post : Int32 → (Va × Vl × Nat) → Prop} (hp : post r (v, w, n)) (hdg : decode cc pc = .ok (.ireturn, 1)) : W p l e R s m args below meth c H locs cells slots (MQ below (va_Qi post (fun u => PN Γ sh u.1 u.2.1 u.2.2) (gA Γ)) args s cells slots (gA Γ)) (F0 m pc ls [.int r]) :=
  W.zret hx hb hr hnr (fun t ht hW => ⟨⟨r, (v, w, n), rfl, hp, ⟨by rw [ht]; exact hP, va_K.moved hW.alike hK, by rw [ht]; exact hz, hE.go hS ht hW⟩⟩, hS.F ht⟩) hS.2.2 hdg hlocks
theorem z_Xi (hx : p.tables.exec = Jvm.exec) (hb : c.code = cc) (hml : c.maxLocals = nL) (hts : ∀ w ∈ lw_all, w.before args s = true) (hown : s.vm.findClass own = some m.cls) (hK : wK Γ s) (hP : Wd Γ sh v w H) (hS : va_S (gA Γ) s.heap H locs) (hz : H.size = Γ.2.1 + n) (hE : EN Γ s) {post : Int32 → Va → Prop} {ex : String → Prop} (hM : MetX l y b mL ret hh Γ sh v w n (.ref (Γ.2.1 + k) :: As) post ex) (hC : CAV y b mL ret nn) (hL : Cond.methodLink own idx y ∈ lw_all) (he : sh k = some (sO ci cs)) (hcl : (vwCl[ci]?).map (fun q => q.1) = some y.cls) (hst : st0 = As.reverse ++ .ref (Γ.2.1 + k) :: rest) (hn : As.length = nn) (hls : ls.size = nL) (hW : (rest.map fun v => v.category).sum ≤ 8) (hR : hh + 1 ≤ R.frames ∧ 8 + (mL + 11) + 40 * hh ≤ R.locals) (hf : cells + 1 ≤ R.cells ∧ slots + 6 ≤ R.slots) (hdg : decode cc pc = .ok (.invokevirtual idx, 3))
    (kx : ∀ (E : String) (ce : Cell) (q9 : Addr) (n1 : Nat) (H1 : Heap) (locs1 : List Loc), ex E → Wd Γ sh v w H1 → H1.size = Γ.2.1 + n1 → n ≤ n1 → va_S (gA Γ) s.heap H1 locs1 → H1[q9]? = some ce → ce.vm = .none → s.vm.findClass E = some ce.cls → vx_W p l e R s m args below meth c H1 locs1 (cells + 1) (slots + 6) Q (F0 m pc ls rest) q9)
    (kk : ∀ (r : Int32) (u : Va) (H1 : Heap) (locs1 : List Loc), post r u → H1.size = Γ.2.1 + n → Wd Γ sh u w H1 → va_S (gA Γ) s.heap H1 locs1 → W p l e R s m args below meth c H1 locs1 (cells + 1) (slots + 6) Q (F0 m (pc + 3) ls (.int r :: rest))) : W p l e R s m args below meth c H locs cells slots Q (F0 m pc ls st0) := by
  obtain ⟨-, -, h1, h2, hax⟩ := id hC
  refine vx_calli (vx_runV (C := y.cls) (n := nn) ⟨hx, hb, hml, hown, hts⟩ hM ⟨⟨rfl, rfl, hR.1, hR.2, w_hws hts hC.1, List.mem_cons_self, hts _ hC.1, hts _ hC.2.1, ⟨hax.1, hax.2.1⟩, w_len hax, hts _ hL⟩, hts _ h1, hts _ h2⟩ ⟨PN.blind, w_recv hK hP he hcl, w_pn hK hE hS hP hz⟩ rfl hn hls hst (by simpa [JFrame.monitorRoom] using hW) hdg hf) hS (fun q _ h => h) (fun q h => h) (fun q _ h => h)
    (fun E ce q9 n1 t H1 locs1 ht hvm _ hB hz1 hk1 hS1 hce hcv hcl => ?_) (fun r u t H1 locs1 ht hvm hp hB hz1 hk1 hS1 => ?_)
  · obtain ⟨b1, b2, b3⟩ := hB
    rw [ht] at b2 b3
    exact kx E ce q9 n1 H1 locs1 b1 b2 b3 (by omega) hS1 hce hcv hcl
  · obtain ⟨hP1, -, hz2, -⟩ := hB
    rw [ht] at hP1 hz2
    exact kk r u H1 locs1 hp hz2 hP1 hS1
theorem w_startS {l : Launch} {y : MethodName} {cc : ByteArray} {mL : Nat} {ret : Option FieldType} {hh : List (Nat × Nat × Nat × Nat)} {rm : Room} {Γ : Cx} {sh : Sh} {v : Va} {w : Vl} {n : Nat} {As : List Value} {Qc : Array Value → State → Outcome → State → Prop} {mc ms : Nat} (hy : plainName y.cls = true) (hlen : (lg_sl As).length ≤ mL)
    (body : ∀ (p : Program) (e : Env) (s : State) (m : MethodId) (args : Array Value) (below : List Frame) (meth : Method) (c : Code), p.tables.exec = Jvm.exec → c.code = cc → c.maxLocals = mL → meth.sig.returnType = ret → meth.locks = false → c.exceptionTable.toList = tableOf hh → (∀ w ∈ lw_all, w.before args s = true) → s.vm.findClass y.cls = some m.cls → wK Γ s → Wd Γ sh v w s.heap → s.heap.size = Γ.2.1 + n → EN Γ s → va_S (gA Γ) s.heap s.heap [] → ∀ ls, lv_has ls mL (lv_args 0 As) →
      W p l e rm s m args below meth c s.heap [] 0 0 (MQ below Qc args s mc ms (gA Γ)) (F0 m 0 ls [])) : Met l y (wsC y cc mL ret hh) rm (va_Pc As (PN Γ sh v w n)) Qc mc ms (gA Γ) := by
  refine va_MetW (cc := cc) (maxL := mL) (ret := ret) (hh := hh) hy rfl ?_
  intro p e s m args below meth c s₁ B hml hv
  obtain ⟨rfl, hP, hK, hz, hE⟩ := hv
  have hts := atoms_spec (ws := wsC y cc mL ret hh) B.pre
  have htab := vx_table (x := y) B (hts _ List.mem_cons_self)
  have hl := lv_entry As (n := mL) hlen
  rw [lg_entry_eq]
  exact body p e s m _ below meth c B.exec B.bytes hml B.returns B.notSynchronized htab (fun w hw => hts w (List.mem_cons_of_mem _ hw)) (findClass_of_methodNamed B.named) hK hP hz hE va_S.rf _ hl
theorem z_SS (hx : p.tables.exec = Jvm.exec) (hb : c.code = cc) (hml : c.maxLocals = nL) (hts : ∀ w ∈ lw_all, w.before args s = true) (hown : s.vm.findClass own = some m.cls) (hK : wK Γ s) (hP : Wd Γ sh v w H) (hS : va_S (gA Γ) s.heap H locs) (hz : H.size = Γ.2.1 + n) (hE : EN Γ s) {hx9 : List (Nat × Nat × Nat × Nat)} {post : Int32 → (Va × Vl × Nat) → Prop} (hM : MetS l y b mL ret hx9 hh Γ sh v w n As post) (hC : CASW y b mL ret hx9 nn) (hL : Cond.methodLink own idx y ∈ lw_all) (hst : st0 = As.reverse ++ rest) (hn : As.length = nn) (hls : ls.size = nL) (hW : (rest.map fun v => v.category).sum ≤ 8) (hR : hh + 1 ≤ R.frames ∧ 8 + (mL + 11) + 40 * hh ≤ R.locals) (hf : cells + 1 ≤ R.cells ∧ slots + 6 ≤ R.slots) (hdg : decode cc pc = .ok (.invokestatic idx, 3))
    (kk : ∀ (r : Int32) (u : Va × Vl × Nat) (H1 : Heap) (locs1 : List Loc), post r u → H1.size = Γ.2.1 + u.2.2 → Wd Γ sh u.1 u.2.1 H1 → va_S (gA Γ) s.heap H1 locs1 → W p l e R s m args below meth c H1 locs1 (cells + 1) (slots + 6) Q (F0 m (pc + 3) ls (.int r :: rest))) : W p l e R s m args below meth c H locs cells slots Q (F0 m pc ls st0) := by
  obtain ⟨hc, hi, hsx, hax⟩ := hC
  have hws : ∀ w ∈ wsC y b mL ret hx9, ∀ (a' : Array Value) (U : State), s.WarmedH U.vm → w.before a' U = true := by
    intro w hw a' U hW
    have h1 : w ∈ lw_all := by
      rcases List.mem_cons.mp hw with h | h
      · rw [h]; exact hc
      · exact h
    exact lw_steady (List.mem_filter.mp h1).2 hW (hts _ h1)
  refine va_calli (vx_runSW (n := nn) ⟨hx, hb, hml, hown, hts⟩ hM ⟨⟨rfl, rfl, hR.1, hR.2, hws, List.mem_cons_self⟩, hts _ hc, hts _ hi, ⟨hax.1, hax.2.1⟩, w_len hax, hts _ hL, hts _ hsx⟩ ⟨PN.blind, w_pn hK hE hS hP hz⟩ rfl hn hls hst (by simpa [JFrame.monitorRoom] using hW) hdg hf) hS (fun q _ h => h) (fun q h => h) (fun r u t H1 locs1 ht hvm hp hB hz1 hk1 hS1 => ?_)
  obtain ⟨hP1, -, hz2, -⟩ := hB
  rw [ht] at hP1 hz2
  exact kk r u H1 locs1 hp hz2 hP1 hS1
end WS
