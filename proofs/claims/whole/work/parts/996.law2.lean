/-! THE LAW: rows that its body wants, the world of a turn -/
theorem isRow.low {sh sh' : Sh} {k N n : Nat} (h : isRow sh k N) (hq : ∀ q, q < n → sh' q = sh q) (hk : k + 2 ≤ n) : isRow sh' k N := ⟨(hq _ (by omega)).trans h.1, (hq _ (by omega)).trans h.2.1, h.2.2⟩
theorem isNames.low {sh sh' : Sh} {k N n : Nat} (h : isNames sh k N) (hq : ∀ q, q < n → sh' q = sh q) (hk : k + 3 ≤ n) : isNames sh' k N := ⟨(hq _ (by omega)).trans h.1, h.2.low hq (by omega)⟩
theorem isSteps.low {sh sh' : Sh} {k n : Nat} (h : isSteps sh k) (hq : ∀ q, q < n → sh' q = sh q) (hk : k + 7 ≤ n) : isSteps sh' k := ⟨(hq _ (by omega)).trans h.1, h.2.1.low hq (by omega), h.2.2.1.low hq (by omega), h.2.2.2.low hq (by omega)⟩
theorem isPlan.low {sh sh' : Sh} {k n : Nat} (h : isPlan sh k) (hq : ∀ q, q < n → sh' q = sh q) (hk : k + 36 ≤ n) : isPlan sh' k := by
  obtain ⟨h0, h1, h2, h3, h4, h5, h6, h7, h8, h9, h10, h11, h12, h13, h14, h15⟩ := h
  exact ⟨(hq _ (by omega)).trans h0, h1.low hq (by omega), h2.low hq (by omega), h3.low hq (by omega), h4.low hq (by omega), h5.low hq (by omega), h6.low hq (by omega), h7.low hq (by omega), h8.low hq (by omega), h9.low hq (by omega), h10.low hq (by omega), h11.low hq (by omega), h12.low hq (by omega), h13.low hq (by omega), h14.low hq (by omega), h15.low hq (by omega)⟩
theorem isDebts.low {sh sh' : Sh} {k n : Nat} (h : isDebts sh k) (hq : ∀ q, q < n → sh' q = sh q) (hk : k + 5 ≤ n) : isDebts sh' k := ⟨(hq _ (by omega)).trans h.1, h.2.1.low hq (by omega), h.2.2.low hq (by omega)⟩
theorem isStand.low {sh sh' : Sh} {k n : Nat} (h : isStand sh k) (hq : ∀ q, q < n → sh' q = sh q) (hk : k + 22 ≤ n) (hn : 97 ≤ n) : isStand sh' k := by
  obtain ⟨h0, h1, h2, h3, h4, h5, h6, h7, h8, h9, h10⟩ := h
  exact ⟨(hq _ (by omega)).trans h0, h1.low hq (by omega), h2.low hq (by omega), h3.low hq (by omega), h4.low hq (by omega), h5.low hq (by omega), h6.low hq (by omega), h7.low hq (by omega), h8.low hq (by omega), h9.low hq (by omega), h10.low hq (by omega)⟩
theorem isTokens.low {sh sh' : Sh} {n : Nat} (h : isTokens sh) (hq : ∀ q, q < n → sh' q = sh q) (hn : 97 ≤ n) : isTokens sh' := by
  obtain ⟨h0, h1, h2, h3, h4, h5⟩ := h
  exact ⟨(hq _ (by omega)).trans h0, h1.low hq (by omega), h2.low hq (by omega), h3.low hq (by omega), h4.low hq (by omega), h5.low hq (by omega)⟩
theorem isReader.low {sh sh' : Sh} {n : Nat} (h : isReader sh) (hq : ∀ q, q < n → sh' q = sh q) (hn : 97 ≤ n) : isReader sh' := by
  obtain ⟨h0, h1, h2, h3, h4, h5, h6⟩ := h
  exact ⟨(hq _ (by omega)).trans h0, h1.low hq (by omega), h2.low hq hn, h3.low hq (by omega), h4.low hq (by omega), h5.low hq (by omega), h6.low hq (by omega)⟩
theorem isReckoner.low {sh sh' : Sh} {k n : Nat} (h : isReckoner sh k) (hq : ∀ q, q < n → sh' q = sh q) (hk : k + 26 ≤ n) (hn : 97 ≤ n) : isReckoner sh' k := ⟨(hq _ (by omega)).trans h.1, h.2.1.low hq (by omega), h.2.2.1.low hq (by omega) hn, h.2.2.2.low hq (by omega)⟩
theorem isDays.low {sh sh' : Sh} {k n : Nat} (h : isDays sh k) (hq : ∀ q, q < n → sh' q = sh q) (hk : k + 26 ≤ n) (hn : 97 ≤ n) : isDays sh' k := ⟨(hq _ (by omega)).trans h.1, h.2.1.low hq (by omega), h.2.2.1.low hq (by omega) hn, h.2.2.2.low hq hk hn⟩
theorem isQuay.low {sh sh' : Sh} (h : isQuay sh) (hq : ∀ q, q < 149 → sh' q = sh q) : isQuay sh' := by
  obtain ⟨h0, h1, h2, h3, h4, h5, h6, h7, h8⟩ := h
  exact ⟨(hq _ (by omega)).trans h0, h1.low hq (by omega), h2.low hq (by omega), h3.low hq (by omega), h4.low hq (by omega), h5.low hq (by omega) (by omega), h6.low hq (by omega) (by omega), h7.low hq (by omega) (by omega), h8.low hq (by omega) (by omega)⟩
section WU
variable {p : Program} {l : Launch} {e : Env} {R : Room} {s : State} {m : MethodId} {args : Array Value} {below : List Frame} {meth : Method} {c : Code} {H H0 : Heap} {locs : List Loc} {cells slots : Nat} {Q : State → Prop}
variable {cc : ByteArray} {pc nL : Nat} {ls : Array Slot} {st0 rest As : List Value} {Γ : Cx} {sh : Sh} {v v1 : Va} {w : Vl} {own : String} {idx ci j k n nn hh mL : Nat} {cs : List Nat} {y : MethodName} {b : ByteArray} {ret : Option FieldType}
theorem w_lald (hx : p.tables.exec = Jvm.exec) (hb : c.code = cc) (hK : wK Γ s) (hP : Wd Γ sh v w H) {N : Nat} (he : sh k = some (sL N)) {i : Int32} (hin : vp_in i N) (hdg : decode cc pc = .ok (.laload, 1))
    (kk : W p l e R s m args below meth c H locs cells slots Q (F0 m (pc + 1) ls (.long (w k i.toNatClampNeg) :: rest))) : W p l e R s m args below meth c H locs cells slots Q (F0 m pc ls (.int i :: .ref (Γ.2.1 + k) :: rest)) :=
  va_lald hx hb hK (hP.one he) 0 1 (cA := Γ.2.2.2.1) rfl rfl hin hdg kk
theorem lv_lcmpE (hx : p.tables.exec = Jvm.exec) (hb : c.code = cc) {x : Int64} (hdg : decode cc pc = .ok (.lcmp, 1))
    (k : W p l e R s m args below meth c H locs cells slots Q (F0 m (pc + 1) ls (.int 0 :: rest))) : W p l e R s m args below meth c H locs cells slots Q (F0 m pc ls (.long x :: .long x :: rest)) := by
  intro T hT X
  obtain ⟨t, a, b⟩ := k T hT X
  refine ⟨t, ?_, b⟩
  have hn : ¬ x > x := Int64.lt_irrefl
  jvm_step X.here [X.here.top, hx, hb, hdg, hn]
  exact a
theorem w_newl (hx : p.tables.exec = Jvm.exec) (hb : c.code = cc) (hts : ∀ w ∈ lw_all, w.before args s = true) (hK : wK Γ s) (hP : Wd Γ sh v w H) (hS : va_S (gA Γ) H0 H locs) (har : Cond.arrayClass .long ∈ lw_all) {x : Int32} {N : Nat} (hx0 : ¬ x < 0) (hN : x.toNatClampNeg = N) (hbig : N * 8 ≤ 536870912) (hcells : cells + 1 ≤ R.cells) (hslots : slots + N ≤ R.slots) {n : Nat} (hn : H.size = Γ.2.1 + n) (hdg : decode cc pc = .ok (.newarray .long, 2))
    (kk : ∀ H1 : Heap, H1.size = Γ.2.1 + (n + 1) → Wd Γ (up sh n (some (sL N))) v (up w n (fun _ => 0)) H1 → va_S (gA Γ) H0 H1 locs → W p l e R s m args below meth c H1 locs (cells + 1) (slots + N) Q (F0 m (pc + 2) ls (.ref (Γ.2.1 + n) :: rest))) : W p l e R s m args below meth c H locs cells slots Q (F0 m pc ls (.int x :: rest)) := by
  refine va_newaK (atype := .long) hx hb (hts _ har) rfl hdg rfl hx0 hN hbig hcells hslots hn fun H1 cA e1 z1 o1 _ hNm => ?_
  have hcA : cA = Γ.2.2.2.1 := by
    have h2 : s.vm.findClass ("[" ++ (FieldType.long).toString) = some Γ.2.2.2.1 := (hK.2 1 _ rfl).2
    exact Option.some.inj (hNm.symm.trans h2)
  subst hcA
  refine kk H1 (by omega) (hP.set n (fun e0 h0 => ?_) (fun q h => up_ne h) (fun q h => rfl) (fun q h => up_ne h) (fun q e0 h h0 => ?_)) ⟨by have := hS.1; omega, fun x h1 h2 => (o1 x (by have := hS.1; omega)).trans (hS.2.1 x h1 h2), hS.2.2⟩
  · rw [up_eq] at h0
    cases h0
    rw [up_eq]
    exact e1
  · exact o1 _ (by have := hP.lt h0; omega)
theorem z_VT (hx : p.tables.exec = Jvm.exec) (hb : c.code = cc) (hml : c.maxLocals = nL) (hts : ∀ w ∈ lw_all, w.before args s = true) (hown : s.vm.findClass own = some m.cls) (hK : wK Γ s) (hP : Wd Γ sh v w H) (hS : va_S (gA Γ) s.heap H locs) (hz : H.size = Γ.2.1 + n) (hE : EN Γ s) {C S : Nat} {r1 : Int32} {u1 : Sh × Va × Nat} (hM : MetT l y b mL ret hh C S Γ sh v w n (.ref (Γ.2.1 + k) :: As) (fun x u => x = r1 ∧ u = u1)) (hC : CAV y b mL ret nn) (hL : ML own idx y) (he : sh k = some (sO ci cs)) (hcl : (vwCl[ci]?).map (fun q => q.1) = some y.cls) (hst : st0 = As.reverse ++ .ref (Γ.2.1 + k) :: rest) (hn : As.length = nn) (hls : ls.size = nL) (hW : (rest.map fun v => v.category).sum ≤ 8) (hR : hh + 1 ≤ R.frames ∧ 8 + (mL + 11) + 40 * hh ≤ R.locals) (hf : cells + C ≤ R.cells ∧ slots + S ≤ R.slots) (hdg : decode cc pc = .ok (.invokevirtual idx, 3))
    (kk : ∀ (H1 : Heap) (locs1 : List Loc), H1.size = Γ.2.1 + u1.2.2 → Wd Γ u1.1 u1.2.1 w H1 → va_S (gA Γ) s.heap H1 locs1 → W p l e R s m args below meth c H1 locs1 (cells + C) (slots + S) Q (F0 m (pc + 3) ls (.int r1 :: rest))) : W p l e R s m args below meth c H locs cells slots Q (F0 m pc ls st0) := by
  refine va_calli (w_rV hx hb hml hts hown hK hM rfl rfl hC hL (w_recv hK hP he hcl) PN.blind (w_pn hK hE hS hP hz) hst hls hn hW hR hf hdg) hS (fun q _ h => h) (fun q h => h) (fun r u t H1 locs1 ht hvm hp hB hz1 hk1 hS1 => ?_)
  obtain ⟨hP1, -, hz2, -⟩ := hB
  rw [ht] at hP1 hz2
  obtain ⟨rfl, rfl⟩ := hp
  exact kk H1 locs1 hz2 hP1 hS1
end WU
/-- what the law's body may build on: the machine, the tables' words, the script -/
def LC (Γ : Cx) (p : Program) (s : State) (m : MethodId) (args : Array Value) (c : Code) (b L : Nat) (xs : Nat → Int32) : Prop := p.tables.exec = Jvm.exec ∧ c.code = cL_law ∧ c.maxLocals = 9 ∧ (∀ w ∈ lw_all, w.before args s = true) ∧ s.vm.findClass RL = some m.cls ∧ wK Γ s ∧ EN Γ s ∧ EF Γ ∧ EX Γ ∧ NCs Γ ∧ va_X b L xs s s.heap ∧ b < s.heap.size ∧ ¬ gA Γ b ∧ L ≤ 3072
/-- what a turn finds, and leaves -/
def LD (sh : Sh) (v : Va) (n : Nat) (sp : Nat) : Prop := isQuay sh ∧ isModel sh sp ∧ sh 194 = some (sL 1) ∧ Inv 5000 v sp ∧ 195 ≤ n ∧ sp + 22 ≤ n
abbrev LL (Γ : Cx) (b : Nat) (i : Int32) : List (Nat × Value) := [(4, .int i), (3, .ref (Γ.2.1 + 194)), (2, .ref (Γ.2.1 + 149)), (1, .ref (Γ.2.1 + 0)), (0, .ref b)]
def LK (l : Launch) (Γ : Cx) (p : Program) (e : Env) (s : State) (m : MethodId) (args : Array Value) (below : List Frame) (meth : Method) (c : Code) (b : Nat) (i : Int32) (cells slots : Nat) (Q : State → Prop) (pc : Nat) : Prop := ∀ (sh : Sh) (v : Va) (w : Vl) (n sp : Nat) (H : Heap) (locs : List Loc) (ls : Array Slot), LD sh v n sp → Wd Γ sh v w H → va_S (gA Γ) s.heap H locs → H.size = Γ.2.1 + n → lv_has ls 9 (LL Γ b i) → W p l e room_1 s m args below meth c H locs cells slots Q (F0 m pc ls [])
theorem LC.dr {Γ : Cx} {p : Program} {s : State} {m : MethodId} {args : Array Value} {c : Code} {b L : Nat} {xs : Nat → Int32} (h : LC Γ p s m args c b L xs) (d : Drawn) : LC Γ p (s.setDrawn d) m args c b L xs := by
  obtain ⟨h1, h2, h3, h4, h5, h6, h7, h8, h9, h10, h11, h12, h13, h14⟩ := h
  exact ⟨h1, h2, h3, dr_words h4 d, h5, h6, h7, h8, h9, h10, h11, h12, h13, h14⟩
theorem LD.go {sh : Sh} {v v' : Va} {n n' sp : Nat} (h : LD sh v n sp) (hI : Inv 5000 v' sp) (hn : n ≤ n') : LD sh v' n' sp := ⟨h.1, h.2.1, h.2.2.1, hI, Nat.le_trans h.2.2.2.2.1 hn, Nat.le_trans h.2.2.2.2.2 hn⟩
/-- any change behind the places that are there, and of the model's own cell -/
theorem LD.far {sh sh' : Sh} {v v' : Va} {n n' sp sp' : Nat} (h : LD sh v n sp) (hq : ∀ q, q < n → q ≠ 149 → sh' q = sh q) (hm : isModel sh' sp') (hI : Inv 5000 v' sp') (hn : n ≤ n') (hs : sp' + 22 ≤ n') : LD sh' v' n' sp' := by
  have h5 := h.2.2.2.2.1
  exact ⟨h.1.low fun q h => hq q (by omega) (by omega), hm, (hq 194 (by omega) (by omega)).trans h.2.2.1, hI, Nat.le_trans h5 hn, hs⟩
theorem pin_1 : vp_in (0 : Int32) 1 := by
  intro h
  rcases h with h | h
  · exact absurd h (by decide)
  · exact absurd h (by decide)
theorem sc_in {L : Nat} {i : Int32} (h0 : 0 ≤ i.toInt) (h1 : i.toInt + 6 ≤ L) (hL : L ≤ 3072) {a : Int32} (ha : 0 ≤ a.toInt ∧ a.toInt ≤ 5) : vp_in (i + a) L := by
  have e : (i + a).toInt = i.toInt + a.toInt := by
    rw [Int32.toInt_add, Int.bmod_eq_of_le (by omega) (by omega)]
  intro h
  rcases h with h | h
  · have := Int32.lt_iff_toInt_lt.mp h
    rw [e] at this
    have z0 : (0 : Int32).toInt = 0 := rfl
    omega
  · have h2 : (i + a).toNatClampNeg = (i + a).toInt.toNat := rfl
    omega
theorem lv_has.two {ls : Array Slot} {Γ : Cx} {b : Nat} {i : Int32} {x y : Nat × Value} (h : lv_has ls 9 (x :: y :: LL Γ b i)) : lv_has ls 9 (LL Γ b i) := ⟨h.1, h.2.1, fun q hq => h.2.2 q (List.mem_cons_of_mem _ (List.mem_cons_of_mem _ hq))⟩
theorem lu_0 {w : Vl} {x : Int64} : up w 194 (lu (w 194) 0 x) 194 (0 : Int32).toNatClampNeg = x := by
  rw [up_eq]; rfl
theorem al_two {a b y : UInt64} {op : CmpOp} (h1 : alike64 a y = true) (h2 : alike64 b y = true) (hne : ¬ Op.cmpValue (FP.dcmp a b) op = 0) : ¬ Op.cmpValue (FP.dcmp a a) op = 0 ∧ ¬ Op.cmpValue (FP.dcmp b b) op = 0 := by
  have hn : ∀ {x : UInt64}, isNaN64 x = true → ¬ Op.cmpValue (FP.dcmp x x) op = 0 := by
    intro x hx
    rw [nan_dec hx]
    cases op <;> decide
  unfold alike64 at h1 h2
  rw [Bool.or_eq_true, Bool.and_eq_true, decide_eq_true_eq] at h1 h2
  rcases h1 with rfl | ⟨ha, hy⟩
  · rcases h2 with rfl | ⟨hb, hy⟩
    · exact ⟨hne, hne⟩
    · exact ⟨hn hy, hn hb⟩
  · rcases h2 with rfl | ⟨hb, _⟩
    · exact ⟨hn ha, hn hy⟩
    · exact ⟨hn ha, hn hb⟩
