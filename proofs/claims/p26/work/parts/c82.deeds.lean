/-! ROWS FOR DEEDS OF BOTH SIDES -/
abbrev wsC (y : MethodName) (b : ByteArray) (mL : Nat) (r : Option FieldType) (hh : List (Nat × Nat × Nat × Nat)) : List Cond := Cond.codeWith y b mL r hh :: lw_all
def CASW (y : MethodName) (b : ByteArray) (mL : Nat) (r : Option FieldType) (hh : List (Nat × Nat × Nat × Nat)) (n : Nat) : Prop := Cond.codeWith y b mL r hh ∈ lw_all ∧ Cond.initialized y.cls ∈ lw_all ∧ Cond.static y ∈ lw_all ∧ CAx y n
theorem kL_act : CASW yL_act cL_act 10 (some .boolean) [(233, 245, 248, 217)] 3 := ⟨tk7 (i := 190) (by decide +kernel) rfl, tk1 (i := 0) (by decide +kernel) rfl, tk7 (i := 189) (by decide +kernel) rfl, by decide +kernel, by decide +kernel, by decide +kernel⟩
theorem cl_217 : Cond.classLink RL 217 "java/lang/IllegalStateException" ∈ lw_all := tk7 (i := 191) (by decide +kernel) rfl
theorem ca_ise : Cond.castable (xn 0) (xn 0) ∈ exB := List.mem_of_getElem? (i := 3) rfl
theorem E0.word {Γ : Cx} {s : State} {args : Array Value} (hE : E0 Γ s) {w : Cond} (hk : w.keepsFace = true) (ht : w.onTables = true) (h : w.before #[] (cx0 Γ) = true) : w.before args s = true := va_tabs (u := (cx0 Γ).setVm s.vm) ht rfl (Cond.before_shiftedFace (State.Shifted.of_warmed hE.1) w hk h)
theorem E0.cs {Γ : Cx} {b2 : Nat} {shb : Sh} {s : State} {args : Array Value} (hE : E0 Γ s) (hX : EX (bs Γ b2) shb) : (Cond.castable (xn 0) (xn 0)).before args s = true := hE.word rfl rfl (hX.2.2.2 _ ca_ise)
section IG9
variable {p : Program} {l : Launch} {e : Env} {R : Room} {s : State} {m : MethodId} {args : Array Value} {below : List Frame} {meth : Method} {c : Code} {H H0 : Heap} {locs : List Loc} {cells slots : Nat} {Q : State → Prop}
variable {cc : ByteArray} {pc nL : Nat} {ls : Array Slot} {st0 rest As Bs : List Value} {Γ : Cx} {sh sh0 shb : Sh} {v v0 v1 vb vb1 : Va} {w wb : Vl} {own : String} {idx ci j k n n0 nb nn hh mL mc ms a b2 ks S G M L O d1 d2 c0 s0 : Nat} {cs : List Nat} {y : MethodName} {b : ByteArray} {ret : Option FieldType} {pA : Nat → Nat} {pB : Nat → Nat → Nat} {u ua ub ua1 ub1 : Va} {P : Pfn}
variable {T : Int} {B d : Nat} {hh9 : List (Nat × Nat × Nat × Nat)}
def MetBW (l : Launch) (y : MethodName) (b : ByteArray) (mL : Nat) (r : Option FieldType) (hh : List (Nat × Nat × Nat × Nat)) (h C S : Nat) (Γ : Cx) (b2 : Nat) (w wb : Vl) (shb : Sh) (u : Wu) (As : List Value) (post : Int32 → Wu → Prop) : Prop := Met l y (wsC y b mL r hh) (rmc h C S) (va_Pc As (P2 Γ b2 w wb shb u)) (va_Qi post (fun u => P2 Γ b2 w wb shb u) (gL Γ)) C S (gL Γ)
theorem d_startS {y : MethodName} {cc : ByteArray} {mL : Nat} {ret : Option FieldType} {rm : Room} {As : List Value} {Qc : Array Value → State → Outcome → State → Prop} {mc ms : Nat} (hy : plainName y.cls = true) (hlen : (lg_sl As).length ≤ mL)
    (body : ∀ (p : Program) (e : Env) (s : State) (m : MethodId) (args : Array Value) (below : List Frame) (meth : Method) (c : Code), p.tables.exec = Jvm.exec → c.code = cc → c.maxLocals = mL → meth.sig.returnType = ret → meth.locks = false → c.exceptionTable.toList = tableOf hh9 → (∀ w ∈ lw_all, w.before args s = true) → s.vm.findClass y.cls = some m.cls → wK Γ s → E0 Γ s → DW Γ b2 s w wb shb sh v n vb s.heap [] → ∀ ls, lv_has ls mL (lv_args 0 As) →
      W p l e rm s m args below meth c s.heap [] 0 0 (MQ below Qc args s mc ms (gL Γ)) (F0 m 0 ls [])) : Met l y (wsC y cc mL ret hh9) rm (va_Pc As (P2 Γ b2 w wb shb (sh, v, n, vb))) Qc mc ms (gL Γ) := by
  refine va_MetW (cc := cc) (maxL := mL) (ret := ret) (hh := hh9) hy rfl ?_
  intro p e s m args below meth c s₁ B hml hv
  obtain ⟨rfl, hP, hPb, hK, hz, hE, hL, hJ⟩ := hv
  have hts := atoms_spec (ws := wsC y cc mL ret hh9) B.pre
  have htab := vx_table (x := y) B (hts _ List.mem_cons_self)
  have hl := lv_entry As (n := mL) hlen
  rw [lg_entry_eq]
  exact body p e s m _ below meth c B.exec B.bytes hml B.returns B.notSynchronized htab (fun w hw => hts w (List.mem_cons_of_mem _ hw)) (findClass_of_methodNamed B.named) hK hE ⟨hz, hP, hPb, va_S.rf, hL, hJ⟩ _ hl
/-- a static method of the law that only answers -/
theorem y_t0 (hX : XM Γ b2 p l s m args c cc nL own shb) (hL : DL Γ b2 s w wb shb sh0 n0 ks pA pB S G M L O ua ub P sh v n vb H locs) {x0 : Int32} (hM : MetI l y b mL ret hh Γ sh v w n As (fun x u => x = x0 ∧ u = v)) (hC : CAS y b mL ret nn) (hML : ML own idx y) (hst : st0 = As.reverse ++ rest) (hn : As.length = nn) (hls : ls.size = nL) (hW : (rest.map fun v => v.category).sum ≤ 8) (hR : hh + 1 ≤ R.frames ∧ 8 + (mL + 11) + 40 * hh ≤ R.locals) (hf : cells ≤ R.cells ∧ slots ≤ R.slots) (hdg : decode cc pc = .ok (.invokestatic idx, 3))
    (kk : ∀ (H1 : Heap) (locs1 : List Loc), DL Γ b2 s w wb shb sh0 n0 ks pA pB S G M L O ua ub P sh v n vb H1 locs1 → W p l e R s m args below meth c H1 locs1 cells slots Q (F0 m (pc + 3) ls (.int x0 :: rest))) : W p l e R s m args below meth c H locs cells slots Q (F0 m pc ls st0) := by
  obtain ⟨hx, hb, hml, hts, hown, hK, hE, hb2, hk, hEX, hlt⟩ := id hX
  refine d_ai (Bs := As) hE hL.1 (w_rS hx hb hml hts hown hK hM rfl rfl hC hML PN.blind (d_pnA hE hK hL.1) hst hls hn hW hR hf hdg) fun r u H1 locs1 hp hD => ?_
  obtain ⟨rfl, rfl⟩ := hp
  exact kk H1 locs1 (hL.fa hD)
/-- Sim's cells are written -/
theorem DL.pQ (hL : DL Γ b2 s w wb shb sh0 n0 ks pA pB S G M L O ua ub P sh v n vb H locs) {i f : Nat} (hv : vQ S G M L O j i f) (ek : smQ ks pA pB j i = k) : k < n0 := by rw [← ek]; exact hL.2.2.2.2.2.1 j i f hv
theorem y_ist (hX : XM Γ b2 p l s m args c cc nL own shb) (hL : DL Γ b2 s w wb shb sh0 n0 ks pA pB S G M L O ua ub P sh v n vb H locs) (hA : APT pA pB (pn_ S G M L O) ks) (hM6 : M ≤ 6) {N f i9 a b' : Nat} (he : sh k = some (sA N)) {i x : Int32} (hv : vQ S G M L O j i9 f) (ek : smQ ks pA pB j i9 = k) (hi : i.toNatClampNeg = f) (hin : vp_in i N) (ep : tPl j f = a) (eb : tIx j i9 f = b') (hdg : decode cc pc = .ok (.iastore, 1))
    (kk : ∀ (H1 : Heap) (locs1 : List Loc), DL Γ b2 s w wb shb sh0 n0 ks pA pB S G M L O (pu ua a b' x) ub P sh (pu v k f x) n vb H1 locs1 → W p l e R s m args below meth c H1 locs1 cells slots Q (F0 m (pc + 1) ls rest)) : W p l e R s m args below meth c H locs cells slots Q (F0 m pc ls (.int x :: .int i :: .ref (Γ.2.1 + k) :: rest)) := by
  obtain ⟨hx, hb, hml, hts, hown, hK, hE, hb2, hkq, hEX, hlt⟩ := id hX
  have hlt := hL.pQ hv ek
  exact d_ia hx hb hK hE hL.1 he hin hdg fun H1 locs1 hD => kk H1 locs1 (by rw [hi] at hD; exact hL.fc hD (hL.sr.set hA hM6 hv ek ep eb rfl) (fun q hq => pu_p (by omega)))
theorem y_pi (hX : XM Γ b2 p l s m args c cc nL own shb) (hL : DL Γ b2 s w wb shb sh0 n0 ks pA pB S G M L O ua ub P sh v n vb H locs) (hA : APT pA pB (pn_ S G M L O) ks) (hM6 : M ≤ 6) {j9 : Nat} (hj : j9 < 2) (hf : FL own idx 11 j9 false .int) {x : Int32} (hdg : decode cc pc = .ok (.putfield idx, 3))
    (kk : ∀ (H1 : Heap) (locs1 : List Loc), DL Γ b2 s w wb shb sh0 n0 ks pA pB S G M L O (pu ua 173 j9 x) ub P sh (pu v ks j9 x) n vb H1 locs1 → W p l e R s m args below meth c H1 locs1 cells slots Q (F0 m (pc + 3) ls rest)) : W p l e R s m args below meth c H locs cells slots Q (F0 m pc ls (.int x :: .ref (Γ.2.1 + ks) :: rest)) := by
  obtain ⟨hx, hb, hml, hts, hown, hK, hE, hb2, hkq, hEX, hlt⟩ := id hX
  have hv : vQ S G M L O 7 0 j9 := by unfold vQ; omega
  have hlt := hL.pQ hv rfl
  have hc : ([0, 0, ((pA 0) + 3), ((pA 1) + 3), ((pA 2) + 3), ((pA 3) + 3), ((pA 4) + 3), ((pA 5) + 3), ((pA 6) + 3)] : List Nat)[j9]? = some 0 := by
    rcases (by omega : j9 = 0 ∨ j9 = 1) with rfl | rfl <;> rfl
  exact d_pi hx hb hts hown hK hL.1 hf hL.ik.1 hc hdg fun H1 locs1 hD => kk H1 locs1 (hL.fc hD (hL.sr.set hA hM6 hv rfl rfl rfl rfl) (fun q hq => pu_p (by have : smQ ks pA pB 7 0 = ks := rfl; omega)))
theorem DL.fn {n1 : Nat} (h : DL Γ b2 s w wb shb sh0 n0 ks pA pB S G M L O ua ub P sh v n vb H locs) (hn : n ≤ n1) {H1 : Heap} {locs1 : List Loc} (hD : DW Γ b2 s w wb shb sh v n1 vb H1 locs1) : DL Γ b2 s w wb shb sh0 n0 ks pA pB S G M L O ua ub P sh v n1 vb H1 locs1 :=
  ⟨hD, h.ik, h.sr, h.qi, h.N, h.2.2.2.2.2.1, ⟨Nat.le_trans h.2.2.2.2.2.2.1 hn, h.2.2.2.2.2.2.2⟩⟩
theorem ns_pu {f i9 : Nat} {y9 : Int32} (hN : ∀ q, NSm ks pA pB S G M L O q → v1 q = v q) (hv : vQ S G M L O j i9 f) (ek : smQ ks pA pB j i9 = k) : ∀ q, NSm ks pA pB S G M L O q → pu v1 k f y9 q = v q := fun q hq => by
  have := hq j i9 f hv
  rw [ek] at this
  rw [pu_p (Ne.symm this)]; exact hN q hq
theorem AK.of {z : Nat} {u1 : Va} (hL : LI u S G M L O T B) (hQ : QI z vb u1 S G M L O) (hF : FM 173 u u1) (h1 : u1 181 = u 181) (h2 : isum (u1 179) 6 = isum (u 179) 6) (h3 : u1 173 0 = u 173 0) (h4 : ∀ a, M ≤ a → u1 179 a = u 179 a) (h5 : ∀ k, (u1 174 k).toInt ≤ (u 174 k).toInt) : AK u u1 S G M L O T B := by
  obtain ⟨l1, l2, l3, l4, ⟨m, l5, l6⟩, l7, l8, l9⟩ := hL
  exact ⟨⟨l1.fm hF, hQ.2.2.2.1, by rw [h1]; exact l3, by rw [h1, h2]; exact l4, ⟨m, l5, by rw [h3]; exact l6⟩, by rw [hF.2 2 (by omega) (by omega)]; exact l7, (fun a ha hM => by rw [h4 a hM]; exact l8 a ha hM), fun g hg => by rw [h1]; exact l9 g hg⟩, h5, hF⟩
/-- coins moved are as many -/
theorem move_sum {f : Nat → Int32} {i j : Nat} {c : Int32} (h : IC f) (hi : i < 6) (hj : j < 6) (hij : i ≠ j) (h0 : 0 ≤ c.toInt) (h1 : c.toInt ≤ (f i).toInt) : isum (upd (upd f i (f i - c)) j (f j + c)) 6 = isum f 6 := by
  obtain ⟨-, k2⟩ := h.pays (a := i) (x := c) hi h0 h1
  have hj0 := h.1 j hj
  have hjl := isum_le (f := f) (i := j) 6 h.1 hj
  have hil := isum_le (f := f) (i := i) 6 h.1 hi
  have ht := h.2
  have ha : (f j + c).toInt = (f j).toInt + c.toInt := t_add (by omega) (by omega)
  rw [isum_upd 6 hj, k2, upd_ne (Ne.symm hij), ha]; omega
end IG9
