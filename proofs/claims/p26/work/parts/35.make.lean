/-! CONSTRUCTORS -/
theorem xoi : Cond.instanceMethod objectInit ∈ lw_all := tk1 (i := 38) (by decide +kernel) rfl
theorem xoc : Cond.code objectInit ⟨#[0xb1]⟩ 1 none ∈ lw_all := tk1 (i := 39) (by decide +kernel) rfl
theorem xoX11_1 : Cond.methodLink RX11 1 objectInit ∈ lw_all := tk1 (i := 37) (by decide +kernel) rfl
theorem xoX7_1 : Cond.methodLink RX7 1 objectInit ∈ lw_all := tk1 (i := 45) (by decide +kernel) rfl
theorem xoX10_1 : Cond.methodLink RX10 1 objectInit ∈ lw_all := tk1 (i := 56) (by decide +kernel) rfl
theorem xoX5_1 : Cond.methodLink RX5 1 objectInit ∈ lw_all := tk1 (i := 89) (by decide +kernel) rfl
theorem xoX4_1 : Cond.methodLink RX4 1 objectInit ∈ lw_all := tk1 (i := 95) (by decide +kernel) rfl
theorem xoX9_3 : Cond.methodLink RX9 3 objectInit ∈ lw_all := tk1 (i := 103) (by decide +kernel) rfl
theorem xoX3_1 : Cond.methodLink RX3 1 objectInit ∈ lw_all := tk1 (i := 239) (by decide +kernel) rfl
theorem xoX8_1 : Cond.methodLink RX8 1 objectInit ∈ lw_all := tk2 (i := 48) (by decide +kernel) rfl
theorem xoX1_3 : Cond.methodLink RX1 3 objectInit ∈ lw_all := tk2 (i := 56) (by decide +kernel) rfl
theorem xoX0_1 : Cond.methodLink RX0 1 objectInit ∈ lw_all := tk2 (i := 141) (by decide +kernel) rfl
theorem xoX6_1 : Cond.methodLink RX6 1 objectInit ∈ lw_all := tk2 (i := 147) (by decide +kernel) rfl
theorem xoX12_1 : Cond.methodLink RX12 1 objectInit ∈ lw_all := tk6 (i := 128) (by decide +kernel) rfl
def kA (u : Sh × Va) (n N : Nat) : Sh × Va := (up u.1 n (some (sA N)), up u.2 n (fun _ => 0))
def kO (u : Sh × Va) (n ci : Nat) (cs : List Nat) : Sh × Va := (up u.1 n (some (sO ci cs)), up u.2 n (fun _ => 0))
def kR (u : Sh × Va) (k ci : Nat) (cs : List Nat) (j : Nat) (y : Int32) : Sh × Va := (up u.1 k (some (sO ci cs)), up u.2 k (upd (u.2 k) j y))
def lowq (q : Nat) (a b : Sh × Va) : Prop := a.1 q = b.1 q ∧ a.2 q = b.2 q
theorem lowq.tr {q : Nat} {a b c : Sh × Va} (h : lowq q a b) (h2 : lowq q b c) : lowq q a c := ⟨h.1.trans h2.1, h.2.trans h2.2⟩
theorem low_kA {u r : Sh × Va} {n N q : Nat} (h : kA u n N = r) (hq : q ≠ n) : lowq q r u := by rw [← h]; exact ⟨up_ne hq, up_ne hq⟩
theorem low_kO {u r : Sh × Va} {n ci q : Nat} {cs : List Nat} (h : kO u n ci cs = r) (hq : q ≠ n) : lowq q r u := by rw [← h]; exact ⟨up_ne hq, up_ne hq⟩
theorem low_kR {u r : Sh × Va} {k ci j q : Nat} {cs : List Nat} {y : Int32} (h : kR u k ci cs j y = r) (hq : q ≠ k) : lowq q r u := by rw [← h]; exact ⟨up_ne hq, up_ne hq⟩
def PM (Γ : Cx) (sh : Sh) (v : Va) (w : Vl) (n : Nat) (U : State) : Prop := Wd Γ sh v w U.heap ∧ wK Γ U ∧ U.heap.size = Γ.2.1 + n
theorem PM.blind {Γ : Cx} {sh : Sh} {v : Va} {w : Vl} {n : Nat} {As : List Value} : FrameBlind (va_Pc As (PM Γ sh v w n)) := fun a U g mk h => ⟨h.1, h.2.1, va_K.moved (u := U) (U := U.calling g mk a) (Vm.Alike.refl U.vm) h.2.2.1, h.2.2.2⟩
def MetK (l : Launch) (y : MethodName) (b : ByteArray) (mL h C S : Nat) (Γ : Cx) (k : Nat) (u : Sh × Va) (w : Vl) (n : Nat) (As : List Value) (q : Sh × Va) (n' : Nat) : Prop := Met l y (ws_ y b mL none) (rmc h C S) (va_Pc As (PM Γ u.1 u.2 w n)) (va_Qv (fun _ : Unit => True) (fun _ => PM Γ q.1 q.2 w n') (gK Γ k)) C S (gK Γ k)
theorem w_startK {l : Launch} {y : MethodName} {cc : ByteArray} {mL : Nat} {ret : Option FieldType} {rm : Room} {Γ : Cx} {sh : Sh} {v : Va} {w : Vl} {n k : Nat} {As : List Value} {Qc : Array Value → State → Outcome → State → Prop} {mc ms : Nat} (hy : plainName y.cls = true) (hlen : (lg_sl As).length ≤ mL)
    (body : ∀ (p : Program) (e : Env) (s : State) (m : MethodId) (args : Array Value) (below : List Frame) (meth : Method) (c : Code), p.tables.exec = Jvm.exec → c.code = cc → c.maxLocals = mL → meth.sig.returnType = ret → meth.locks = false → meth.name = y.name → (∀ w ∈ lw_all, w.before args s = true) → s.vm.findClass y.cls = some m.cls → wK Γ s → Wd Γ sh v w s.heap → s.heap.size = Γ.2.1 + n → va_S (gK Γ k) s.heap s.heap [] → ∀ ls, lv_has ls mL (lv_args 0 As) →
      W p l e rm s m args below meth c s.heap [] 0 0 (MQ below Qc args s mc ms (gK Γ k)) (F0 m 0 ls [])) : Met l y (ws_ y cc mL ret) rm (va_Pc As (PM Γ sh v w n)) Qc mc ms (gK Γ k) := by
  refine Met.ofW (cc := cc) (maxL := mL) (ret := ret) hy rfl ?_
  intro p e s m args below meth c s₁ B hml hv
  obtain ⟨rfl, hP, hK, hz⟩ := hv
  have hts := atoms_spec (ws := ws_ y cc mL ret) B.pre
  have hl := lv_entry As (n := mL) hlen
  rw [lg_entry_eq]
  exact body p e s m _ below meth c B.exec B.bytes hml B.returns B.notSynchronized (name_of_methodNamed B.named B.method).1 (fun w hw => hts w (List.mem_cons_of_mem _ hw)) (findClass_of_methodNamed B.named) hK hP hz va_S.rf _ hl
section WK
variable {p : Program} {l : Launch} {e : Env} {R : Room} {s : State} {m : MethodId} {args : Array Value} {below : List Frame} {meth : Method} {c : Code} {H H0 : Heap} {locs : List Loc} {cells slots : Nat} {Q : State → Prop}
variable {cc : ByteArray} {pc nL : Nat} {ls : Array Slot} {st0 rest As : List Value} {Γ : Cx} {sh : Sh} {v v1 : Va} {w : Vl} {own : String} {idx ci j k k0 n n1 nn hh mL mc ms C S : Nat} {cs : List Nat} {y : MethodName} {b : ByteArray} {ret : Option FieldType} {u q : Sh × Va}
theorem w_cK (hx : p.tables.exec = Jvm.exec) (hb : c.code = cc) (hml : c.maxLocals = nL) (hts : ∀ w ∈ lw_all, w.before args s = true) (hown : s.vm.findClass own = some m.cls) (hK : wK Γ s) (hP : Wd Γ u.1 u.2 w H) (hS : va_S (gK Γ k0) s.heap H locs) (hz : H.size = Γ.2.1 + n) (hM : MetK l y b mL hh C S Γ k u w n (.ref (Γ.2.1 + k) :: As) q n1) (hC : CAI y b mL none nn) (hL : ML own idx y) (hst : st0 = As.reverse ++ .ref (Γ.2.1 + k) :: rest) (hn : As.length = nn) (hls : ls.size = nL) (hW : (rest.map fun v => v.category).sum ≤ 8) (hR : hh + 1 ≤ R.frames ∧ 8 + (mL + 11) + 40 * hh ≤ R.locals) (hf : cells + C ≤ R.cells ∧ slots + S ≤ R.slots) (hdg : decode cc pc = .ok (.invokespecial idx, 3)) (hk0 : k0 ≤ k)
    (kk : ∀ (H1 : Heap) (locs1 : List Loc), H1.size = Γ.2.1 + n1 → Wd Γ q.1 q.2 w H1 → va_S (gK Γ k0) s.heap H1 locs1 → W p l e R s m args below meth c H1 locs1 (cells + C) (slots + S) Q (F0 m (pc + 3) ls rest)) : W p l e R s m args below meth c H locs cells slots Q (F0 m pc ls st0) := by
  refine va_callv (w_rI hx hb hml hts hown hK hM rfl rfl hC hL PM.blind (fun U hU hW => ⟨rfl, by rw [hU]; exact hP, va_K.moved hW.alike hK, by rw [hU]; exact hz⟩) hst hls hn hW hR hf hdg) hS (fun q _ h => Nat.le_trans (Nat.add_le_add_left hk0 _) h) (fun q h => Nat.le_trans (Nat.add_le_add_left hk0 _) h) (fun _ t H1 locs1 ht hvm hp hB hz1 hk1 hS1 => ?_)
  obtain ⟨hP1, -, hz2⟩ := hB
  rw [ht] at hP1 hz2
  exact kk H1 locs1 hz2 hP1 hS1
theorem w_kret (hx : p.tables.exec = Jvm.exec) (hb : c.code = cc) (hr : meth.sig.returnType = none) (hlocks : meth.locks = false) (hK : wK Γ s) (hP : Wd Γ q.1 q.2 w H) (hS : va_S (gK Γ k) s.heap H locs) (hz : H.size = Γ.2.1 + n) (hdg : decode cc pc = .ok (.return_, 1)) : W p l e R s m args below meth c H locs cells slots (MQ below (va_Qv (fun _ : Unit => True) (fun _ => PM Γ q.1 q.2 w n) (gK Γ k)) args s cells slots (gK Γ k)) (F0 m pc ls []) :=
  W.vret hx hb hr (fun t ht hW => ⟨⟨(), rfl, trivial, ⟨by rw [ht]; exact hP, va_K.moved hW.alike hK, by rw [ht]; exact hz⟩⟩, hS.F ht⟩) hS.2.2 hdg hlocks
end WK
def K_Row (u : Sh × Va) (k N : Nat) : Sh × Va := bnd (kA u (k + 1) N) fun u14 => kR u14 k 6 [k + 4] 0 0
theorem low_Row {u r : Sh × Va} {k q N : Nat} (h : K_Row u k N = r) (hq : q < k) : lowq q r u := by
  unfold K_Row at h
  obtain ⟨u14, e14, h⟩ := bnd_e h
  exact (low_kR h (by omega)).tr (low_kA e14 (by omega))
theorem i_Row {l : Launch} {Γ : Cx} {u : Sh × Va} {w : Vl} {k N : Nat} (t0 : u.1 k = some (sO 6 [2])) (hN : N ≤ 4000) {r : Sh × Va} (h : K_Row u k N = r) : MetK l yX7_init cX7_init 2 1 (0 + 1) (0 + N) Γ k u w (k + 1) [.ref (Γ.2.1 + k), .int (nI N)] r (k + 2) := by
  unfold K_Row at h
  obtain ⟨u14, e14, h⟩ := bnd_e h
  refine w_startK pn_X7 (Nat.le_of_ble_eq_true rfl) fun p e s m args below meth c hx hb hml hret hlk hnm hts hown hK hP hz hS ls hl => ?_
  refine lv_aload_n hx hb dX7_init_0 rfl (lv_at hl 0 rfl) ?_
  refine W.objInit hx hb hown (hts _ xoX7_1) (hts _ xoi) (hts _ xoc) rfl (by rw [hml]; exact hl.1) rfl dX7_init_1 (Nat.le_of_ble_eq_true rfl) (Nat.le_of_ble_eq_true rfl) ?_
  refine lv_aload_n hx hb dX7_init_4 rfl (lv_at hl 0 rfl) ?_
  refine lv_iload_n hx hb dX7_init_5 rfl (lv_at hl 1 rfl) ?_
  refine lv_if_ge (tgt := 13) hx hb dX7_init_6 rfl (fun hc6 => ?_) (fun hc6 => absurd (Int32.not_lt.mp (ni_0 hN)) hc6)
  refine lv_iload_n hx hb dX7_init_13 rfl (lv_at hl 1 rfl) ?_
  refine w_newa (n := k + 1) (N := N) hx hb hts hK hP hS ac_int (ni_0 hN) (ni_c hN) (by omega) (show 0 + 1 ≤ 0 + 1 by omega) (show 0 + N ≤ 0 + N by omega) hz dX7_init_14 fun H1 hz hP hS => ?_
  have hP : Wd Γ u14.1 u14.2 w H1 := by rw [← e14]; exact hP
  have t0 : u14.1 k = some (sO 6 [2]) := (low_kA e14 (by omega)).1.trans t0
  refine w_putF (cd := k + 4) (y := 0) hx hb hts hown hK hP hS (Nat.le_refl _) FX7_7 hnm t0 rfl rfl rfl rfl dX7_init_16 fun H1 locs1 hq hP hS => ?_
  have hz := hq.trans hz
  have hP : Wd Γ r.1 r.2 w H1 := by rw [← h]; exact hP
  exact w_kret hx hb hret hlk hK hP hS hz dX7_init_19
def K_Names (u : Sh × Va) (k : Nat) (N : Nat) : Sh × Va := bnd (kR u k 2 [2, 0, 0] 1 (nI N)) fun u6 => bnd (kO u6 (k + 1) 6 [2]) fun u10 => bnd (K_Row u10 (k + 1) N) fun u15 => bnd (kR u15 k 2 [(k + 4), 0, 0] 0 0) fun u18 => bnd (kR u18 k 2 [(k + 4), 0, 0] 2 0) fun u23 => u23
theorem low_Names {u r : Sh × Va} {k q : Nat} {N : Nat} (h : K_Names u k N = r) (hq : q < k) : lowq q r u := by
  unfold K_Names at h
  have lc : lowq q u u := ⟨rfl, rfl⟩
  obtain ⟨u6, e6, h⟩ := bnd_e h
  have lc := (low_kR (q := q) e6 (by omega)).tr lc
  obtain ⟨u10, e10, h⟩ := bnd_e h
  have lc := (low_kO (q := q) e10 (by omega)).tr lc
  obtain ⟨u15, e15, h⟩ := bnd_e h
  have lc := (low_Row (q := q) e15 (by omega)).tr lc
  obtain ⟨u18, e18, h⟩ := bnd_e h
  have lc := (low_kR (q := q) e18 (by omega)).tr lc
  obtain ⟨u23, e23, h⟩ := bnd_e h
  have lc := (low_kR (q := q) e23 (by omega)).tr lc
  rw [← h]; exact lc
theorem i_Names {l : Launch} {Γ : Cx} {u : Sh × Va} {w : Vl} {k : Nat} {N : Nat} (t0 : u.1 k = some (sO 2 [2, 0, 0])) (hN : N ≤ 4000) {r : Sh × Va} (h : K_Names u k N = r) : MetK l yX3_init cX3_init 2 2 (0 + 1 + (0 + 1)) (0 + 1 + (0 + N)) Γ k u w (k + 1) [.ref (Γ.2.1 + k), .int (nI N)] r (k + 3) := by
  unfold K_Names at h
  refine w_startK pn_X3 (Nat.le_of_ble_eq_true rfl) fun p e s m args below meth c hx hb hml hret hlk hnm hts hown hK hP hz hS ls hl => ?_
  refine lv_aload_n hx hb dX3_init_0 rfl (lv_at hl 0 rfl) ?_
  refine W.objInit hx hb hown (hts _ xoX3_1) (hts _ xoi) (hts _ xoc) rfl (by rw [hml]; exact hl.1) rfl dX3_init_1 (Nat.le_of_ble_eq_true rfl) (Nat.le_of_ble_eq_true rfl) ?_
  refine lv_aload_n hx hb dX3_init_4 rfl (lv_at hl 0 rfl) ?_
  refine lv_iload_n hx hb dX3_init_5 rfl (lv_at hl 1 rfl) ?_
  obtain ⟨u6, e6, h⟩ := bnd_e h
  refine w_putF (cd := 0) (y := (nI N)) hx hb hts hown hK hP hS (Nat.le_refl _) FX3_7 hnm t0 rfl rfl rfl rfl dX3_init_6 fun H1 locs1 hq hP hS => ?_
  have hz := hq.trans hz
  have hP : Wd Γ u6.1 u6.2 w H1 := by rw [← e6]; exact hP
  have t0 : u6.1 k = some (sO 2 [2, 0, 0]) := by rw [← e6]; exact up_eq _ _ _
  refine lv_aload_n hx hb dX3_init_9 rfl (lv_at hl 0 rfl) ?_
  obtain ⟨u10, e10, h⟩ := bnd_e h
  refine w_new (n := (k + 1)) hx hb hts hown hK hP hS nX3_13 (show 0 + 1 ≤ 0 + 1 + (0 + 1) by omega) (show 0 + 1 ≤ 0 + 1 + (0 + N) by omega) hz dX3_init_10 fun H1 hz hP hS => ?_
  have hP : Wd Γ u10.1 u10.2 w H1 := by rw [← e10]; exact hP
  have t2 : u10.1 (k + 1) = some (sO 6 [2]) := by rw [← e10]; exact up_eq _ _ _
  have t0 : u10.1 k = some (sO 2 [2, 0, 0]) := (low_kO e10 (by omega)).1.trans t0
  refine lv_dup hx hb dX3_init_13 rfl ?_
  refine lv_iload_n hx hb dX3_init_14 rfl (lv_at hl 1 rfl) ?_
  obtain ⟨u15, e15, h⟩ := bnd_e h
  refine w_cK (u := u10) (q := u15) (k := (k + 1)) (k0 := k) hx hb hml hts hown hK hP hS hz (i_Row (N := N) t2 hN e15) kX7_init mX3_15 rfl rfl hl.1 (Nat.le_of_ble_eq_true rfl) ⟨Nat.le_of_ble_eq_true rfl, Nat.le_of_ble_eq_true rfl⟩ ⟨(show 0 + 1 + (0 + 1) ≤ 0 + 1 + (0 + 1) by omega), (show 0 + 1 + (0 + N) ≤ 0 + 1 + (0 + N) by omega)⟩ dX3_init_15 (by omega) fun H1 locs1 hz hP hS => ?_
  have t0 : u15.1 k = some (sO 2 [2, 0, 0]) := (low_Row (q := k) e15 (by omega)).1.trans t0
  obtain ⟨u18, e18, h⟩ := bnd_e h
  refine w_putF (cd := (k + 4)) (y := 0) hx hb hts hown hK hP hS (Nat.le_refl _) FX3_18 hnm t0 rfl rfl rfl rfl dX3_init_18 fun H1 locs1 hq hP hS => ?_
  have hz := hq.trans hz
  have hP : Wd Γ u18.1 u18.2 w H1 := by rw [← e18]; exact hP
  have t0 : u18.1 k = some (sO 2 [(k + 4), 0, 0]) := by rw [← e18]; exact up_eq _ _ _
  refine lv_aload_n hx hb dX3_init_21 rfl (lv_at hl 0 rfl) ?_
  refine lv_iconst (v := 0) hx hb dX3_init_22 rfl ?_
  obtain ⟨u23, e23, h⟩ := bnd_e h
  refine w_put (cd := 0) (y := 0) hx hb hts hown hK hP hS (Nat.le_refl _) fX3_22 t0 rfl rfl rfl rfl dX3_init_23 fun H1 locs1 hq hP hS => ?_
  have hz := hq.trans hz
  have hP : Wd Γ u23.1 u23.2 w H1 := by rw [← e23]; exact hP
  have t0 : u23.1 k = some (sO 2 [(k + 4), 0, 0]) := by rw [← e23]; exact up_eq _ _ _
  subst h
  exact w_kret hx hb hret hlk hK hP hS hz dX3_init_26
def K_Steps (u : Sh × Va) (k : Nat) : Sh × Va := bnd (kR u k 8 [0, 2, 2, 2] 0 0) fun u6 => bnd (kO u6 (k + 1) 6 [2]) fun u10 => bnd (K_Row u10 (k + 1) 400) fun u17 => bnd (kR u17 k 8 [0, (k + 4), 2, 2] 1 0) fun u20 => bnd (kO u20 (k + 3) 6 [2]) fun u24 => bnd (K_Row u24 (k + 3) 400) fun u31 => bnd (kR u31 k 8 [0, (k + 4), (k + 6), 2] 2 0) fun u34 => bnd (kO u34 (k + 5) 6 [2]) fun u38 => bnd (K_Row u38 (k + 5) 400) fun u45 => bnd (kR u45 k 8 [0, (k + 4), (k + 6), (k + 8)] 3 0) fun u48 => u48
theorem low_Steps {u r : Sh × Va} {k q : Nat} (h : K_Steps u k = r) (hq : q < k) : lowq q r u := by
  unfold K_Steps at h
  have lc : lowq q u u := ⟨rfl, rfl⟩
  obtain ⟨u6, e6, h⟩ := bnd_e h
  have lc := (low_kR (q := q) e6 (by omega)).tr lc
  obtain ⟨u10, e10, h⟩ := bnd_e h
  have lc := (low_kO (q := q) e10 (by omega)).tr lc
  obtain ⟨u17, e17, h⟩ := bnd_e h
  have lc := (low_Row (q := q) e17 (by omega)).tr lc
  obtain ⟨u20, e20, h⟩ := bnd_e h
  have lc := (low_kR (q := q) e20 (by omega)).tr lc
  obtain ⟨u24, e24, h⟩ := bnd_e h
  have lc := (low_kO (q := q) e24 (by omega)).tr lc
  obtain ⟨u31, e31, h⟩ := bnd_e h
  have lc := (low_Row (q := q) e31 (by omega)).tr lc
  obtain ⟨u34, e34, h⟩ := bnd_e h
  have lc := (low_kR (q := q) e34 (by omega)).tr lc
  obtain ⟨u38, e38, h⟩ := bnd_e h
  have lc := (low_kO (q := q) e38 (by omega)).tr lc
  obtain ⟨u45, e45, h⟩ := bnd_e h
  have lc := (low_Row (q := q) e45 (by omega)).tr lc
  obtain ⟨u48, e48, h⟩ := bnd_e h
  have lc := (low_kR (q := q) e48 (by omega)).tr lc
  rw [← h]; exact lc
theorem i_Steps {l : Launch} {Γ : Cx} {u : Sh × Va} {w : Vl} {k : Nat} (t0 : u.1 k = some (sO 8 [0, 2, 2, 2])) {r : Sh × Va} (h : K_Steps u k = r) : MetK l yX9_init cX9_init 1 2 (0 + 1 + (0 + 1) + 1 + (0 + 1) + 1 + (0 + 1)) (0 + 1 + (0 + 400) + 1 + (0 + 400) + 1 + (0 + 400)) Γ k u w (k + 1) [.ref (Γ.2.1 + k)] r (k + 7) := by
  unfold K_Steps at h
  refine w_startK pn_X9 (Nat.le_of_ble_eq_true rfl) fun p e s m args below meth c hx hb hml hret hlk hnm hts hown hK hP hz hS ls hl => ?_
  refine lv_aload_n hx hb dX9_init_0 rfl (lv_at hl 0 rfl) ?_
  refine W.objInit hx hb hown (hts _ xoX9_3) (hts _ xoi) (hts _ xoc) rfl (by rw [hml]; exact hl.1) rfl dX9_init_1 (Nat.le_of_ble_eq_true rfl) (Nat.le_of_ble_eq_true rfl) ?_
  refine lv_aload_n hx hb dX9_init_4 rfl (lv_at hl 0 rfl) ?_
  refine lv_iconst (v := 0) hx hb dX9_init_5 rfl ?_
  obtain ⟨u6, e6, h⟩ := bnd_e h
  refine w_put (cd := 0) (y := 0) hx hb hts hown hK hP hS (Nat.le_refl _) fX9_9 t0 rfl rfl rfl rfl dX9_init_6 fun H1 locs1 hq hP hS => ?_
  have hz := hq.trans hz
  have hP : Wd Γ u6.1 u6.2 w H1 := by rw [← e6]; exact hP
  have t0 : u6.1 k = some (sO 8 [0, 2, 2, 2]) := by rw [← e6]; exact up_eq _ _ _
  refine lv_aload_n hx hb dX9_init_9 rfl (lv_at hl 0 rfl) ?_
  obtain ⟨u10, e10, h⟩ := bnd_e h
  refine w_new (n := (k + 1)) hx hb hts hown hK hP hS nX9_15 (show 0 + 1 ≤ 0 + 1 + (0 + 1) + 1 + (0 + 1) + 1 + (0 + 1) by omega) (show 0 + 1 ≤ 0 + 1 + (0 + 400) + 1 + (0 + 400) + 1 + (0 + 400) by omega) hz dX9_init_10 fun H1 hz hP hS => ?_
  have hP : Wd Γ u10.1 u10.2 w H1 := by rw [← e10]; exact hP
  have t2 : u10.1 (k + 1) = some (sO 6 [2]) := by rw [← e10]; exact up_eq _ _ _
  have t0 : u10.1 k = some (sO 8 [0, 2, 2, 2]) := (low_kO e10 (by omega)).1.trans t0
  refine lv_dup hx hb dX9_init_13 rfl ?_
  refine lv_sipush (v := 400) hx hb dX9_init_14 rfl ?_
  obtain ⟨u17, e17, h⟩ := bnd_e h
  refine w_cK (u := u10) (q := u17) (k := (k + 1)) (k0 := k) hx hb hml hts hown hK hP hS hz (i_Row (N := 400) t2 (Nat.le_of_ble_eq_true rfl) e17) kX7_init mX9_17 rfl rfl hl.1 (Nat.le_of_ble_eq_true rfl) ⟨Nat.le_of_ble_eq_true rfl, Nat.le_of_ble_eq_true rfl⟩ ⟨(show 0 + 1 + (0 + 1) ≤ 0 + 1 + (0 + 1) + 1 + (0 + 1) + 1 + (0 + 1) by omega), (show 0 + 1 + (0 + 400) ≤ 0 + 1 + (0 + 400) + 1 + (0 + 400) + 1 + (0 + 400) by omega)⟩ dX9_init_17 (by omega) fun H1 locs1 hz hP hS => ?_
  have t0 : u17.1 k = some (sO 8 [0, 2, 2, 2]) := (low_Row (q := k) e17 (by omega)).1.trans t0
  obtain ⟨u20, e20, h⟩ := bnd_e h
  refine w_putF (cd := (k + 4)) (y := 0) hx hb hts hown hK hP hS (Nat.le_refl _) FX9_20 hnm t0 rfl rfl rfl rfl dX9_init_20 fun H1 locs1 hq hP hS => ?_
  have hz := hq.trans hz
  have hP : Wd Γ u20.1 u20.2 w H1 := by rw [← e20]; exact hP
  have t0 : u20.1 k = some (sO 8 [0, (k + 4), 2, 2]) := by rw [← e20]; exact up_eq _ _ _
  refine lv_aload_n hx hb dX9_init_23 rfl (lv_at hl 0 rfl) ?_
  obtain ⟨u24, e24, h⟩ := bnd_e h
  refine w_new (n := (k + 3)) hx hb hts hown hK hP hS nX9_15 (show 0 + 1 + (0 + 1) + 1 ≤ 0 + 1 + (0 + 1) + 1 + (0 + 1) + 1 + (0 + 1) by omega) (show 0 + 1 + (0 + 400) + 1 ≤ 0 + 1 + (0 + 400) + 1 + (0 + 400) + 1 + (0 + 400) by omega) hz dX9_init_24 fun H1 hz hP hS => ?_
  have hP : Wd Γ u24.1 u24.2 w H1 := by rw [← e24]; exact hP
  have t2 : u24.1 (k + 3) = some (sO 6 [2]) := by rw [← e24]; exact up_eq _ _ _
  have t0 : u24.1 k = some (sO 8 [0, (k + 4), 2, 2]) := (low_kO e24 (by omega)).1.trans t0
  refine lv_dup hx hb dX9_init_27 rfl ?_
  refine lv_sipush (v := 400) hx hb dX9_init_28 rfl ?_
  obtain ⟨u31, e31, h⟩ := bnd_e h
  refine w_cK (u := u24) (q := u31) (k := (k + 3)) (k0 := k) hx hb hml hts hown hK hP hS hz (i_Row (N := 400) t2 (Nat.le_of_ble_eq_true rfl) e31) kX7_init mX9_17 rfl rfl hl.1 (Nat.le_of_ble_eq_true rfl) ⟨Nat.le_of_ble_eq_true rfl, Nat.le_of_ble_eq_true rfl⟩ ⟨(show 0 + 1 + (0 + 1) + 1 + (0 + 1) ≤ 0 + 1 + (0 + 1) + 1 + (0 + 1) + 1 + (0 + 1) by omega), (show 0 + 1 + (0 + 400) + 1 + (0 + 400) ≤ 0 + 1 + (0 + 400) + 1 + (0 + 400) + 1 + (0 + 400) by omega)⟩ dX9_init_31 (by omega) fun H1 locs1 hz hP hS => ?_
  have t0 : u31.1 k = some (sO 8 [0, (k + 4), 2, 2]) := (low_Row (q := k) e31 (by omega)).1.trans t0
  obtain ⟨u34, e34, h⟩ := bnd_e h
  refine w_putF (cd := (k + 6)) (y := 0) hx hb hts hown hK hP hS (Nat.le_refl _) FX9_24 hnm t0 rfl rfl rfl rfl dX9_init_34 fun H1 locs1 hq hP hS => ?_
  have hz := hq.trans hz
  have hP : Wd Γ u34.1 u34.2 w H1 := by rw [← e34]; exact hP
  have t0 : u34.1 k = some (sO 8 [0, (k + 4), (k + 6), 2]) := by rw [← e34]; exact up_eq _ _ _
  refine lv_aload_n hx hb dX9_init_37 rfl (lv_at hl 0 rfl) ?_
  obtain ⟨u38, e38, h⟩ := bnd_e h
  refine w_new (n := (k + 5)) hx hb hts hown hK hP hS nX9_15 (show 0 + 1 + (0 + 1) + 1 + (0 + 1) + 1 ≤ 0 + 1 + (0 + 1) + 1 + (0 + 1) + 1 + (0 + 1) by omega) (show 0 + 1 + (0 + 400) + 1 + (0 + 400) + 1 ≤ 0 + 1 + (0 + 400) + 1 + (0 + 400) + 1 + (0 + 400) by omega) hz dX9_init_38 fun H1 hz hP hS => ?_
  have hP : Wd Γ u38.1 u38.2 w H1 := by rw [← e38]; exact hP
  have t2 : u38.1 (k + 5) = some (sO 6 [2]) := by rw [← e38]; exact up_eq _ _ _
  have t0 : u38.1 k = some (sO 8 [0, (k + 4), (k + 6), 2]) := (low_kO e38 (by omega)).1.trans t0
  refine lv_dup hx hb dX9_init_41 rfl ?_
  refine lv_sipush (v := 400) hx hb dX9_init_42 rfl ?_
  obtain ⟨u45, e45, h⟩ := bnd_e h
  refine w_cK (u := u38) (q := u45) (k := (k + 5)) (k0 := k) hx hb hml hts hown hK hP hS hz (i_Row (N := 400) t2 (Nat.le_of_ble_eq_true rfl) e45) kX7_init mX9_17 rfl rfl hl.1 (Nat.le_of_ble_eq_true rfl) ⟨Nat.le_of_ble_eq_true rfl, Nat.le_of_ble_eq_true rfl⟩ ⟨(show 0 + 1 + (0 + 1) + 1 + (0 + 1) + 1 + (0 + 1) ≤ 0 + 1 + (0 + 1) + 1 + (0 + 1) + 1 + (0 + 1) by omega), (show 0 + 1 + (0 + 400) + 1 + (0 + 400) + 1 + (0 + 400) ≤ 0 + 1 + (0 + 400) + 1 + (0 + 400) + 1 + (0 + 400) by omega)⟩ dX9_init_45 (by omega) fun H1 locs1 hz hP hS => ?_
  have t0 : u45.1 k = some (sO 8 [0, (k + 4), (k + 6), 2]) := (low_Row (q := k) e45 (by omega)).1.trans t0
  obtain ⟨u48, e48, h⟩ := bnd_e h
  refine w_putF (cd := (k + 8)) (y := 0) hx hb hts hown hK hP hS (Nat.le_refl _) FX9_27 hnm t0 rfl rfl rfl rfl dX9_init_48 fun H1 locs1 hq hP hS => ?_
  have hz := hq.trans hz
  have hP : Wd Γ u48.1 u48.2 w H1 := by rw [← e48]; exact hP
  have t0 : u48.1 k = some (sO 8 [0, (k + 4), (k + 6), (k + 8)]) := by rw [← e48]; exact up_eq _ _ _
  subst h
  exact w_kret hx hb hret hlk hK hP hS hz dX9_init_51
def K_Plan (u : Sh × Va) (k : Nat) : Sh × Va := bnd (kO u (k + 1) 6 [2]) fun u5 => bnd (K_Row u5 (k + 1) 4) fun u10 => bnd (kR u10 k 3 [0, 0, 0, 0, 0, (k + 4), 2, 2, 2, 2, 2, 2, 2, 2, 2, 2, 2, 2, 2, 2] 5 0) fun u13 => bnd (kO u13 (k + 3) 6 [2]) fun u17 => bnd (K_Row u17 (k + 3) 4) fun u22 => bnd (kR u22 k 3 [0, 0, 0, 0, 0, (k + 4), (k + 6), 2, 2, 2, 2, 2, 2, 2, 2, 2, 2, 2, 2, 2] 6 0) fun u25 => bnd (kO u25 (k + 5) 6 [2]) fun u29 => bnd (K_Row u29 (k + 5) 4) fun u34 => bnd (kR u34 k 3 [0, 0, 0, 0, 0, (k + 4), (k + 6), (k + 8), 2, 2, 2, 2, 2, 2, 2, 2, 2, 2, 2, 2] 7 0) fun u37 => bnd (kO u37 (k + 7) 6 [2]) fun u41 => bnd (K_Row u41 (k + 7) 6) fun u47 => bnd (kR u47 k 3 [0, 0, 0, 0, 0, (k + 4), (k + 6), (k + 8), (k + 10), 2, 2, 2, 2, 2, 2, 2, 2, 2, 2, 2] 8 0) fun u50 => bnd (kO u50 (k + 9) 6 [2]) fun u54 => bnd (K_Row u54 (k + 9) 6) fun u60 => bnd (kR u60 k 3 [0, 0, 0, 0, 0, (k + 4), (k + 6), (k + 8), (k + 10), (k + 12), 2, 2, 2, 2, 2, 2, 2, 2, 2, 2] 9 0) fun u63 => bnd (kO u63 (k + 11) 6 [2]) fun u67 => bnd (K_Row u67 (k + 11) 10) fun u73 => bnd (kR u73 k 3 [0, 0, 0, 0, 0, (k + 4), (k + 6), (k + 8), (k + 10), (k + 12), (k + 14), 2, 2, 2, 2, 2, 2, 2, 2, 2] 10 0) fun u76 => bnd (kO u76 (k + 13) 6 [2]) fun u80 => bnd (K_Row u80 (k + 13) 10) fun u86 => bnd (kR u86 k 3 [0, 0, 0, 0, 0, (k + 4), (k + 6), (k + 8), (k + 10), (k + 12), (k + 14), (k + 16), 2, 2, 2, 2, 2, 2, 2, 2] 11 0) fun u89 => bnd (kO u89 (k + 15) 6 [2]) fun u93 => bnd (K_Row u93 (k + 15) 10) fun u99 => bnd (kR u99 k 3 [0, 0, 0, 0, 0, (k + 4), (k + 6), (k + 8), (k + 10), (k + 12), (k + 14), (k + 16), (k + 18), 2, 2, 2, 2, 2, 2, 2] 12 0) fun u102 => bnd (kO u102 (k + 17) 6 [2]) fun u106 => bnd (K_Row u106 (k + 17) 24) fun u112 => bnd (kR u112 k 3 [0, 0, 0, 0, 0, (k + 4), (k + 6), (k + 8), (k + 10), (k + 12), (k + 14), (k + 16), (k + 18), (k + 20), 2, 2, 2, 2, 2, 2] 13 0) fun u115 => bnd (kO u115 (k + 19) 6 [2]) fun u119 => bnd (K_Row u119 (k + 19) 24) fun u125 => bnd (kR u125 k 3 [0, 0, 0, 0, 0, (k + 4), (k + 6), (k + 8), (k + 10), (k + 12), (k + 14), (k + 16), (k + 18), (k + 20), (k + 22), 2, 2, 2, 2, 2] 14 0) fun u128 => bnd (kO u128 (k + 21) 6 [2]) fun u132 => bnd (K_Row u132 (k + 21) 24) fun u138 => bnd (kR u138 k 3 [0, 0, 0, 0, 0, (k + 4), (k + 6), (k + 8), (k + 10), (k + 12), (k + 14), (k + 16), (k + 18), (k + 20), (k + 22), (k + 24), 2, 2, 2, 2] 15 0) fun u141 => bnd (kO u141 (k + 23) 6 [2]) fun u145 => bnd (K_Row u145 (k + 23) 24) fun u151 => bnd (kR u151 k 3 [0, 0, 0, 0, 0, (k + 4), (k + 6), (k + 8), (k + 10), (k + 12), (k + 14), (k + 16), (k + 18), (k + 20), (k + 22), (k + 24), (k + 26), 2, 2, 2] 16 0) fun u154 => bnd (kO u154 (k + 25) 6 [2]) fun u158 => bnd (K_Row u158 (k + 25) 24) fun u164 => bnd (kR u164 k 3 [0, 0, 0, 0, 0, (k + 4), (k + 6), (k + 8), (k + 10), (k + 12), (k + 14), (k + 16), (k + 18), (k + 20), (k + 22), (k + 24), (k + 26), (k + 28), 2, 2] 17 0) fun u167 => bnd (kO u167 (k + 27) 6 [2]) fun u171 => bnd (K_Row u171 (k + 27) 24) fun u177 => bnd (kR u177 k 3 [0, 0, 0, 0, 0, (k + 4), (k + 6), (k + 8), (k + 10), (k + 12), (k + 14), (k + 16), (k + 18), (k + 20), (k + 22), (k + 24), (k + 26), (k + 28), (k + 30), 2] 18 0) fun u180 => bnd (kO u180 (k + 29) 8 [0, 2, 2, 2]) fun u184 => bnd (K_Steps u184 (k + 29)) fun u188 => bnd (kR u188 k 3 [0, 0, 0, 0, 0, (k + 4), (k + 6), (k + 8), (k + 10), (k + 12), (k + 14), (k + 16), (k + 18), (k + 20), (k + 22), (k + 24), (k + 26), (k + 28), (k + 30), (k + 32)] 19 0) fun u191 => u191
theorem low_Plan {u r : Sh × Va} {k q : Nat} (h : K_Plan u k = r) (hq : q < k) : lowq q r u := by
  unfold K_Plan at h
  have lc : lowq q u u := ⟨rfl, rfl⟩
  obtain ⟨u5, e5, h⟩ := bnd_e h
  have lc := (low_kO (q := q) e5 (by omega)).tr lc
  obtain ⟨u10, e10, h⟩ := bnd_e h
  have lc := (low_Row (q := q) e10 (by omega)).tr lc
  obtain ⟨u13, e13, h⟩ := bnd_e h
  have lc := (low_kR (q := q) e13 (by omega)).tr lc
  obtain ⟨u17, e17, h⟩ := bnd_e h
  have lc := (low_kO (q := q) e17 (by omega)).tr lc
  obtain ⟨u22, e22, h⟩ := bnd_e h
  have lc := (low_Row (q := q) e22 (by omega)).tr lc
  obtain ⟨u25, e25, h⟩ := bnd_e h
  have lc := (low_kR (q := q) e25 (by omega)).tr lc
  obtain ⟨u29, e29, h⟩ := bnd_e h
  have lc := (low_kO (q := q) e29 (by omega)).tr lc
  obtain ⟨u34, e34, h⟩ := bnd_e h
  have lc := (low_Row (q := q) e34 (by omega)).tr lc
  obtain ⟨u37, e37, h⟩ := bnd_e h
  have lc := (low_kR (q := q) e37 (by omega)).tr lc
  obtain ⟨u41, e41, h⟩ := bnd_e h
  have lc := (low_kO (q := q) e41 (by omega)).tr lc
  obtain ⟨u47, e47, h⟩ := bnd_e h
  have lc := (low_Row (q := q) e47 (by omega)).tr lc
  obtain ⟨u50, e50, h⟩ := bnd_e h
  have lc := (low_kR (q := q) e50 (by omega)).tr lc
  obtain ⟨u54, e54, h⟩ := bnd_e h
  have lc := (low_kO (q := q) e54 (by omega)).tr lc
  obtain ⟨u60, e60, h⟩ := bnd_e h
  have lc := (low_Row (q := q) e60 (by omega)).tr lc
  obtain ⟨u63, e63, h⟩ := bnd_e h
  have lc := (low_kR (q := q) e63 (by omega)).tr lc
  obtain ⟨u67, e67, h⟩ := bnd_e h
  have lc := (low_kO (q := q) e67 (by omega)).tr lc
  obtain ⟨u73, e73, h⟩ := bnd_e h
  have lc := (low_Row (q := q) e73 (by omega)).tr lc
  obtain ⟨u76, e76, h⟩ := bnd_e h
  have lc := (low_kR (q := q) e76 (by omega)).tr lc
  obtain ⟨u80, e80, h⟩ := bnd_e h
  have lc := (low_kO (q := q) e80 (by omega)).tr lc
  obtain ⟨u86, e86, h⟩ := bnd_e h
  have lc := (low_Row (q := q) e86 (by omega)).tr lc
  obtain ⟨u89, e89, h⟩ := bnd_e h
  have lc := (low_kR (q := q) e89 (by omega)).tr lc
  obtain ⟨u93, e93, h⟩ := bnd_e h
  have lc := (low_kO (q := q) e93 (by omega)).tr lc
  obtain ⟨u99, e99, h⟩ := bnd_e h
  have lc := (low_Row (q := q) e99 (by omega)).tr lc
  obtain ⟨u102, e102, h⟩ := bnd_e h
  have lc := (low_kR (q := q) e102 (by omega)).tr lc
  obtain ⟨u106, e106, h⟩ := bnd_e h
  have lc := (low_kO (q := q) e106 (by omega)).tr lc
  obtain ⟨u112, e112, h⟩ := bnd_e h
  have lc := (low_Row (q := q) e112 (by omega)).tr lc
  obtain ⟨u115, e115, h⟩ := bnd_e h
  have lc := (low_kR (q := q) e115 (by omega)).tr lc
  obtain ⟨u119, e119, h⟩ := bnd_e h
  have lc := (low_kO (q := q) e119 (by omega)).tr lc
  obtain ⟨u125, e125, h⟩ := bnd_e h
  have lc := (low_Row (q := q) e125 (by omega)).tr lc
  obtain ⟨u128, e128, h⟩ := bnd_e h
  have lc := (low_kR (q := q) e128 (by omega)).tr lc
  obtain ⟨u132, e132, h⟩ := bnd_e h
  have lc := (low_kO (q := q) e132 (by omega)).tr lc
  obtain ⟨u138, e138, h⟩ := bnd_e h
  have lc := (low_Row (q := q) e138 (by omega)).tr lc
  obtain ⟨u141, e141, h⟩ := bnd_e h
  have lc := (low_kR (q := q) e141 (by omega)).tr lc
  obtain ⟨u145, e145, h⟩ := bnd_e h
  have lc := (low_kO (q := q) e145 (by omega)).tr lc
  obtain ⟨u151, e151, h⟩ := bnd_e h
  have lc := (low_Row (q := q) e151 (by omega)).tr lc
  obtain ⟨u154, e154, h⟩ := bnd_e h
  have lc := (low_kR (q := q) e154 (by omega)).tr lc
  obtain ⟨u158, e158, h⟩ := bnd_e h
  have lc := (low_kO (q := q) e158 (by omega)).tr lc
  obtain ⟨u164, e164, h⟩ := bnd_e h
  have lc := (low_Row (q := q) e164 (by omega)).tr lc
  obtain ⟨u167, e167, h⟩ := bnd_e h
  have lc := (low_kR (q := q) e167 (by omega)).tr lc
  obtain ⟨u171, e171, h⟩ := bnd_e h
  have lc := (low_kO (q := q) e171 (by omega)).tr lc
  obtain ⟨u177, e177, h⟩ := bnd_e h
  have lc := (low_Row (q := q) e177 (by omega)).tr lc
  obtain ⟨u180, e180, h⟩ := bnd_e h
  have lc := (low_kR (q := q) e180 (by omega)).tr lc
  obtain ⟨u184, e184, h⟩ := bnd_e h
  have lc := (low_kO (q := q) e184 (by omega)).tr lc
  obtain ⟨u188, e188, h⟩ := bnd_e h
  have lc := (low_Steps (q := q) e188 (by omega)).tr lc
  obtain ⟨u191, e191, h⟩ := bnd_e h
  have lc := (low_kR (q := q) e191 (by omega)).tr lc
  rw [← h]; exact lc
theorem i_Plan {l : Launch} {Γ : Cx} {u : Sh × Va} {w : Vl} {k : Nat} (t0 : u.1 k = some (sO 3 [0, 0, 0, 0, 0, 2, 2, 2, 2, 2, 2, 2, 2, 2, 2, 2, 2, 2, 2, 2])) {r : Sh × Va} (h : K_Plan u k = r) : MetK l yX4_init cX4_init 1 3 (0 + 1 + (0 + 1) + 1 + (0 + 1) + 1 + (0 + 1) + 1 + (0 + 1) + 1 + (0 + 1) + 1 + (0 + 1) + 1 + (0 + 1) + 1 + (0 + 1) + 1 + (0 + 1) + 1 + (0 + 1) + 1 + (0 + 1) + 1 + (0 + 1) + 1 + (0 + 1) + 1 + (0 + 1) + 1 + (0 + 1 + (0 + 1) + 1 + (0 + 1) + 1 + (0 + 1))) (0 + 1 + (0 + 4) + 1 + (0 + 4) + 1 + (0 + 4) + 1 + (0 + 6) + 1 + (0 + 6) + 1 + (0 + 10) + 1 + (0 + 10) + 1 + (0 + 10) + 1 + (0 + 24) + 1 + (0 + 24) + 1 + (0 + 24) + 1 + (0 + 24) + 1 + (0 + 24) + 1 + (0 + 24) + 4 + (0 + 1 + (0 + 400) + 1 + (0 + 400) + 1 + (0 + 400))) Γ k u w (k + 1) [.ref (Γ.2.1 + k)] r (k + 36) := by
  unfold K_Plan at h
  refine w_startK pn_X4 (Nat.le_of_ble_eq_true rfl) fun p e s m args below meth c hx hb hml hret hlk hnm hts hown hK hP hz hS ls hl => ?_
  refine lv_aload_n hx hb dX4_init_0 rfl (lv_at hl 0 rfl) ?_
  refine W.objInit hx hb hown (hts _ xoX4_1) (hts _ xoi) (hts _ xoc) rfl (by rw [hml]; exact hl.1) rfl dX4_init_1 (Nat.le_of_ble_eq_true rfl) (Nat.le_of_ble_eq_true rfl) ?_
  refine lv_aload_n hx hb dX4_init_4 rfl (lv_at hl 0 rfl) ?_
  obtain ⟨u5, e5, h⟩ := bnd_e h
  refine w_new (n := (k + 1)) hx hb hts hown hK hP hS nX4_7 (show 0 + 1 ≤ 0 + 1 + (0 + 1) + 1 + (0 + 1) + 1 + (0 + 1) + 1 + (0 + 1) + 1 + (0 + 1) + 1 + (0 + 1) + 1 + (0 + 1) + 1 + (0 + 1) + 1 + (0 + 1) + 1 + (0 + 1) + 1 + (0 + 1) + 1 + (0 + 1) + 1 + (0 + 1) + 1 + (0 + 1) + 1 + (0 + 1 + (0 + 1) + 1 + (0 + 1) + 1 + (0 + 1)) by omega) (show 0 + 1 ≤ 0 + 1 + (0 + 4) + 1 + (0 + 4) + 1 + (0 + 4) + 1 + (0 + 6) + 1 + (0 + 6) + 1 + (0 + 10) + 1 + (0 + 10) + 1 + (0 + 10) + 1 + (0 + 24) + 1 + (0 + 24) + 1 + (0 + 24) + 1 + (0 + 24) + 1 + (0 + 24) + 1 + (0 + 24) + 4 + (0 + 1 + (0 + 400) + 1 + (0 + 400) + 1 + (0 + 400)) by omega) hz dX4_init_5 fun H1 hz hP hS => ?_
  have hP : Wd Γ u5.1 u5.2 w H1 := by rw [← e5]; exact hP
  have t2 : u5.1 (k + 1) = some (sO 6 [2]) := by rw [← e5]; exact up_eq _ _ _
  have t0 : u5.1 k = some (sO 3 [0, 0, 0, 0, 0, 2, 2, 2, 2, 2, 2, 2, 2, 2, 2, 2, 2, 2, 2, 2]) := (low_kO e5 (by omega)).1.trans t0
  refine lv_dup hx hb dX4_init_8 rfl ?_
  refine lv_iconst (v := 4) hx hb dX4_init_9 rfl ?_
  obtain ⟨u10, e10, h⟩ := bnd_e h
  refine w_cK (u := u5) (q := u10) (k := (k + 1)) (k0 := k) hx hb hml hts hown hK hP hS hz (i_Row (N := 4) t2 (Nat.le_of_ble_eq_true rfl) e10) kX7_init mX4_11 rfl rfl hl.1 (Nat.le_of_ble_eq_true rfl) ⟨Nat.le_of_ble_eq_true rfl, Nat.le_of_ble_eq_true rfl⟩ ⟨(show 0 + 1 + (0 + 1) ≤ 0 + 1 + (0 + 1) + 1 + (0 + 1) + 1 + (0 + 1) + 1 + (0 + 1) + 1 + (0 + 1) + 1 + (0 + 1) + 1 + (0 + 1) + 1 + (0 + 1) + 1 + (0 + 1) + 1 + (0 + 1) + 1 + (0 + 1) + 1 + (0 + 1) + 1 + (0 + 1) + 1 + (0 + 1) + 1 + (0 + 1 + (0 + 1) + 1 + (0 + 1) + 1 + (0 + 1)) by omega), (show 0 + 1 + (0 + 4) ≤ 0 + 1 + (0 + 4) + 1 + (0 + 4) + 1 + (0 + 4) + 1 + (0 + 6) + 1 + (0 + 6) + 1 + (0 + 10) + 1 + (0 + 10) + 1 + (0 + 10) + 1 + (0 + 24) + 1 + (0 + 24) + 1 + (0 + 24) + 1 + (0 + 24) + 1 + (0 + 24) + 1 + (0 + 24) + 4 + (0 + 1 + (0 + 400) + 1 + (0 + 400) + 1 + (0 + 400)) by omega)⟩ dX4_init_10 (by omega) fun H1 locs1 hz hP hS => ?_
  have t0 : u10.1 k = some (sO 3 [0, 0, 0, 0, 0, 2, 2, 2, 2, 2, 2, 2, 2, 2, 2, 2, 2, 2, 2, 2]) := (low_Row (q := k) e10 (by omega)).1.trans t0
  obtain ⟨u13, e13, h⟩ := bnd_e h
  refine w_putF (cd := (k + 4)) (y := 0) hx hb hts hown hK hP hS (Nat.le_refl _) FX4_14 hnm t0 rfl rfl rfl rfl dX4_init_13 fun H1 locs1 hq hP hS => ?_
  have hz := hq.trans hz
  have hP : Wd Γ u13.1 u13.2 w H1 := by rw [← e13]; exact hP
  have t0 : u13.1 k = some (sO 3 [0, 0, 0, 0, 0, (k + 4), 2, 2, 2, 2, 2, 2, 2, 2, 2, 2, 2, 2, 2, 2]) := by rw [← e13]; exact up_eq _ _ _
  refine lv_aload_n hx hb dX4_init_16 rfl (lv_at hl 0 rfl) ?_
  obtain ⟨u17, e17, h⟩ := bnd_e h
  refine w_new (n := (k + 3)) hx hb hts hown hK hP hS nX4_7 (show 0 + 1 + (0 + 1) + 1 ≤ 0 + 1 + (0 + 1) + 1 + (0 + 1) + 1 + (0 + 1) + 1 + (0 + 1) + 1 + (0 + 1) + 1 + (0 + 1) + 1 + (0 + 1) + 1 + (0 + 1) + 1 + (0 + 1) + 1 + (0 + 1) + 1 + (0 + 1) + 1 + (0 + 1) + 1 + (0 + 1) + 1 + (0 + 1) + 1 + (0 + 1 + (0 + 1) + 1 + (0 + 1) + 1 + (0 + 1)) by omega) (show 0 + 1 + (0 + 4) + 1 ≤ 0 + 1 + (0 + 4) + 1 + (0 + 4) + 1 + (0 + 4) + 1 + (0 + 6) + 1 + (0 + 6) + 1 + (0 + 10) + 1 + (0 + 10) + 1 + (0 + 10) + 1 + (0 + 24) + 1 + (0 + 24) + 1 + (0 + 24) + 1 + (0 + 24) + 1 + (0 + 24) + 1 + (0 + 24) + 4 + (0 + 1 + (0 + 400) + 1 + (0 + 400) + 1 + (0 + 400)) by omega) hz dX4_init_17 fun H1 hz hP hS => ?_
  have hP : Wd Γ u17.1 u17.2 w H1 := by rw [← e17]; exact hP
  have t2 : u17.1 (k + 3) = some (sO 6 [2]) := by rw [← e17]; exact up_eq _ _ _
  have t0 : u17.1 k = some (sO 3 [0, 0, 0, 0, 0, (k + 4), 2, 2, 2, 2, 2, 2, 2, 2, 2, 2, 2, 2, 2, 2]) := (low_kO e17 (by omega)).1.trans t0
  refine lv_dup hx hb dX4_init_20 rfl ?_
  refine lv_iconst (v := 4) hx hb dX4_init_21 rfl ?_
  obtain ⟨u22, e22, h⟩ := bnd_e h
  refine w_cK (u := u17) (q := u22) (k := (k + 3)) (k0 := k) hx hb hml hts hown hK hP hS hz (i_Row (N := 4) t2 (Nat.le_of_ble_eq_true rfl) e22) kX7_init mX4_11 rfl rfl hl.1 (Nat.le_of_ble_eq_true rfl) ⟨Nat.le_of_ble_eq_true rfl, Nat.le_of_ble_eq_true rfl⟩ ⟨(show 0 + 1 + (0 + 1) + 1 + (0 + 1) ≤ 0 + 1 + (0 + 1) + 1 + (0 + 1) + 1 + (0 + 1) + 1 + (0 + 1) + 1 + (0 + 1) + 1 + (0 + 1) + 1 + (0 + 1) + 1 + (0 + 1) + 1 + (0 + 1) + 1 + (0 + 1) + 1 + (0 + 1) + 1 + (0 + 1) + 1 + (0 + 1) + 1 + (0 + 1) + 1 + (0 + 1 + (0 + 1) + 1 + (0 + 1) + 1 + (0 + 1)) by omega), (show 0 + 1 + (0 + 4) + 1 + (0 + 4) ≤ 0 + 1 + (0 + 4) + 1 + (0 + 4) + 1 + (0 + 4) + 1 + (0 + 6) + 1 + (0 + 6) + 1 + (0 + 10) + 1 + (0 + 10) + 1 + (0 + 10) + 1 + (0 + 24) + 1 + (0 + 24) + 1 + (0 + 24) + 1 + (0 + 24) + 1 + (0 + 24) + 1 + (0 + 24) + 4 + (0 + 1 + (0 + 400) + 1 + (0 + 400) + 1 + (0 + 400)) by omega)⟩ dX4_init_22 (by omega) fun H1 locs1 hz hP hS => ?_
  have t0 : u22.1 k = some (sO 3 [0, 0, 0, 0, 0, (k + 4), 2, 2, 2, 2, 2, 2, 2, 2, 2, 2, 2, 2, 2, 2]) := (low_Row (q := k) e22 (by omega)).1.trans t0
  obtain ⟨u25, e25, h⟩ := bnd_e h
  refine w_putF (cd := (k + 6)) (y := 0) hx hb hts hown hK hP hS (Nat.le_refl _) FX4_18 hnm t0 rfl rfl rfl rfl dX4_init_25 fun H1 locs1 hq hP hS => ?_
  have hz := hq.trans hz
  have hP : Wd Γ u25.1 u25.2 w H1 := by rw [← e25]; exact hP
  have t0 : u25.1 k = some (sO 3 [0, 0, 0, 0, 0, (k + 4), (k + 6), 2, 2, 2, 2, 2, 2, 2, 2, 2, 2, 2, 2, 2]) := by rw [← e25]; exact up_eq _ _ _
  refine lv_aload_n hx hb dX4_init_28 rfl (lv_at hl 0 rfl) ?_
  obtain ⟨u29, e29, h⟩ := bnd_e h
  refine w_new (n := (k + 5)) hx hb hts hown hK hP hS nX4_7 (show 0 + 1 + (0 + 1) + 1 + (0 + 1) + 1 ≤ 0 + 1 + (0 + 1) + 1 + (0 + 1) + 1 + (0 + 1) + 1 + (0 + 1) + 1 + (0 + 1) + 1 + (0 + 1) + 1 + (0 + 1) + 1 + (0 + 1) + 1 + (0 + 1) + 1 + (0 + 1) + 1 + (0 + 1) + 1 + (0 + 1) + 1 + (0 + 1) + 1 + (0 + 1) + 1 + (0 + 1 + (0 + 1) + 1 + (0 + 1) + 1 + (0 + 1)) by omega) (show 0 + 1 + (0 + 4) + 1 + (0 + 4) + 1 ≤ 0 + 1 + (0 + 4) + 1 + (0 + 4) + 1 + (0 + 4) + 1 + (0 + 6) + 1 + (0 + 6) + 1 + (0 + 10) + 1 + (0 + 10) + 1 + (0 + 10) + 1 + (0 + 24) + 1 + (0 + 24) + 1 + (0 + 24) + 1 + (0 + 24) + 1 + (0 + 24) + 1 + (0 + 24) + 4 + (0 + 1 + (0 + 400) + 1 + (0 + 400) + 1 + (0 + 400)) by omega) hz dX4_init_29 fun H1 hz hP hS => ?_
  have hP : Wd Γ u29.1 u29.2 w H1 := by rw [← e29]; exact hP
  have t2 : u29.1 (k + 5) = some (sO 6 [2]) := by rw [← e29]; exact up_eq _ _ _
  have t0 : u29.1 k = some (sO 3 [0, 0, 0, 0, 0, (k + 4), (k + 6), 2, 2, 2, 2, 2, 2, 2, 2, 2, 2, 2, 2, 2]) := (low_kO e29 (by omega)).1.trans t0
  refine lv_dup hx hb dX4_init_32 rfl ?_
  refine lv_iconst (v := 4) hx hb dX4_init_33 rfl ?_
  obtain ⟨u34, e34, h⟩ := bnd_e h
  refine w_cK (u := u29) (q := u34) (k := (k + 5)) (k0 := k) hx hb hml hts hown hK hP hS hz (i_Row (N := 4) t2 (Nat.le_of_ble_eq_true rfl) e34) kX7_init mX4_11 rfl rfl hl.1 (Nat.le_of_ble_eq_true rfl) ⟨Nat.le_of_ble_eq_true rfl, Nat.le_of_ble_eq_true rfl⟩ ⟨(show 0 + 1 + (0 + 1) + 1 + (0 + 1) + 1 + (0 + 1) ≤ 0 + 1 + (0 + 1) + 1 + (0 + 1) + 1 + (0 + 1) + 1 + (0 + 1) + 1 + (0 + 1) + 1 + (0 + 1) + 1 + (0 + 1) + 1 + (0 + 1) + 1 + (0 + 1) + 1 + (0 + 1) + 1 + (0 + 1) + 1 + (0 + 1) + 1 + (0 + 1) + 1 + (0 + 1) + 1 + (0 + 1 + (0 + 1) + 1 + (0 + 1) + 1 + (0 + 1)) by omega), (show 0 + 1 + (0 + 4) + 1 + (0 + 4) + 1 + (0 + 4) ≤ 0 + 1 + (0 + 4) + 1 + (0 + 4) + 1 + (0 + 4) + 1 + (0 + 6) + 1 + (0 + 6) + 1 + (0 + 10) + 1 + (0 + 10) + 1 + (0 + 10) + 1 + (0 + 24) + 1 + (0 + 24) + 1 + (0 + 24) + 1 + (0 + 24) + 1 + (0 + 24) + 1 + (0 + 24) + 4 + (0 + 1 + (0 + 400) + 1 + (0 + 400) + 1 + (0 + 400)) by omega)⟩ dX4_init_34 (by omega) fun H1 locs1 hz hP hS => ?_
  have t0 : u34.1 k = some (sO 3 [0, 0, 0, 0, 0, (k + 4), (k + 6), 2, 2, 2, 2, 2, 2, 2, 2, 2, 2, 2, 2, 2]) := (low_Row (q := k) e34 (by omega)).1.trans t0
  obtain ⟨u37, e37, h⟩ := bnd_e h
  refine w_putF (cd := (k + 8)) (y := 0) hx hb hts hown hK hP hS (Nat.le_refl _) FX4_21 hnm t0 rfl rfl rfl rfl dX4_init_37 fun H1 locs1 hq hP hS => ?_
  have hz := hq.trans hz
  have hP : Wd Γ u37.1 u37.2 w H1 := by rw [← e37]; exact hP
  have t0 : u37.1 k = some (sO 3 [0, 0, 0, 0, 0, (k + 4), (k + 6), (k + 8), 2, 2, 2, 2, 2, 2, 2, 2, 2, 2, 2, 2]) := by rw [← e37]; exact up_eq _ _ _
  refine lv_aload_n hx hb dX4_init_40 rfl (lv_at hl 0 rfl) ?_
  obtain ⟨u41, e41, h⟩ := bnd_e h
  refine w_new (n := (k + 7)) hx hb hts hown hK hP hS nX4_7 (show 0 + 1 + (0 + 1) + 1 + (0 + 1) + 1 + (0 + 1) + 1 ≤ 0 + 1 + (0 + 1) + 1 + (0 + 1) + 1 + (0 + 1) + 1 + (0 + 1) + 1 + (0 + 1) + 1 + (0 + 1) + 1 + (0 + 1) + 1 + (0 + 1) + 1 + (0 + 1) + 1 + (0 + 1) + 1 + (0 + 1) + 1 + (0 + 1) + 1 + (0 + 1) + 1 + (0 + 1) + 1 + (0 + 1 + (0 + 1) + 1 + (0 + 1) + 1 + (0 + 1)) by omega) (show 0 + 1 + (0 + 4) + 1 + (0 + 4) + 1 + (0 + 4) + 1 ≤ 0 + 1 + (0 + 4) + 1 + (0 + 4) + 1 + (0 + 4) + 1 + (0 + 6) + 1 + (0 + 6) + 1 + (0 + 10) + 1 + (0 + 10) + 1 + (0 + 10) + 1 + (0 + 24) + 1 + (0 + 24) + 1 + (0 + 24) + 1 + (0 + 24) + 1 + (0 + 24) + 1 + (0 + 24) + 4 + (0 + 1 + (0 + 400) + 1 + (0 + 400) + 1 + (0 + 400)) by omega) hz dX4_init_41 fun H1 hz hP hS => ?_
  have hP : Wd Γ u41.1 u41.2 w H1 := by rw [← e41]; exact hP
  have t2 : u41.1 (k + 7) = some (sO 6 [2]) := by rw [← e41]; exact up_eq _ _ _
  have t0 : u41.1 k = some (sO 3 [0, 0, 0, 0, 0, (k + 4), (k + 6), (k + 8), 2, 2, 2, 2, 2, 2, 2, 2, 2, 2, 2, 2]) := (low_kO e41 (by omega)).1.trans t0
  refine lv_dup hx hb dX4_init_44 rfl ?_
  refine lv_bipush (v := 6) hx hb dX4_init_45 rfl ?_
  obtain ⟨u47, e47, h⟩ := bnd_e h
  refine w_cK (u := u41) (q := u47) (k := (k + 7)) (k0 := k) hx hb hml hts hown hK hP hS hz (i_Row (N := 6) t2 (Nat.le_of_ble_eq_true rfl) e47) kX7_init mX4_11 rfl rfl hl.1 (Nat.le_of_ble_eq_true rfl) ⟨Nat.le_of_ble_eq_true rfl, Nat.le_of_ble_eq_true rfl⟩ ⟨(show 0 + 1 + (0 + 1) + 1 + (0 + 1) + 1 + (0 + 1) + 1 + (0 + 1) ≤ 0 + 1 + (0 + 1) + 1 + (0 + 1) + 1 + (0 + 1) + 1 + (0 + 1) + 1 + (0 + 1) + 1 + (0 + 1) + 1 + (0 + 1) + 1 + (0 + 1) + 1 + (0 + 1) + 1 + (0 + 1) + 1 + (0 + 1) + 1 + (0 + 1) + 1 + (0 + 1) + 1 + (0 + 1) + 1 + (0 + 1 + (0 + 1) + 1 + (0 + 1) + 1 + (0 + 1)) by omega), (show 0 + 1 + (0 + 4) + 1 + (0 + 4) + 1 + (0 + 4) + 1 + (0 + 6) ≤ 0 + 1 + (0 + 4) + 1 + (0 + 4) + 1 + (0 + 4) + 1 + (0 + 6) + 1 + (0 + 6) + 1 + (0 + 10) + 1 + (0 + 10) + 1 + (0 + 10) + 1 + (0 + 24) + 1 + (0 + 24) + 1 + (0 + 24) + 1 + (0 + 24) + 1 + (0 + 24) + 1 + (0 + 24) + 4 + (0 + 1 + (0 + 400) + 1 + (0 + 400) + 1 + (0 + 400)) by omega)⟩ dX4_init_47 (by omega) fun H1 locs1 hz hP hS => ?_
  have t0 : u47.1 k = some (sO 3 [0, 0, 0, 0, 0, (k + 4), (k + 6), (k + 8), 2, 2, 2, 2, 2, 2, 2, 2, 2, 2, 2, 2]) := (low_Row (q := k) e47 (by omega)).1.trans t0
  obtain ⟨u50, e50, h⟩ := bnd_e h
  refine w_putF (cd := (k + 10)) (y := 0) hx hb hts hown hK hP hS (Nat.le_refl _) FX4_24 hnm t0 rfl rfl rfl rfl dX4_init_50 fun H1 locs1 hq hP hS => ?_
  have hz := hq.trans hz
  have hP : Wd Γ u50.1 u50.2 w H1 := by rw [← e50]; exact hP
  have t0 : u50.1 k = some (sO 3 [0, 0, 0, 0, 0, (k + 4), (k + 6), (k + 8), (k + 10), 2, 2, 2, 2, 2, 2, 2, 2, 2, 2, 2]) := by rw [← e50]; exact up_eq _ _ _
  refine lv_aload_n hx hb dX4_init_53 rfl (lv_at hl 0 rfl) ?_
  obtain ⟨u54, e54, h⟩ := bnd_e h
  refine w_new (n := (k + 9)) hx hb hts hown hK hP hS nX4_7 (show 0 + 1 + (0 + 1) + 1 + (0 + 1) + 1 + (0 + 1) + 1 + (0 + 1) + 1 ≤ 0 + 1 + (0 + 1) + 1 + (0 + 1) + 1 + (0 + 1) + 1 + (0 + 1) + 1 + (0 + 1) + 1 + (0 + 1) + 1 + (0 + 1) + 1 + (0 + 1) + 1 + (0 + 1) + 1 + (0 + 1) + 1 + (0 + 1) + 1 + (0 + 1) + 1 + (0 + 1) + 1 + (0 + 1) + 1 + (0 + 1 + (0 + 1) + 1 + (0 + 1) + 1 + (0 + 1)) by omega) (show 0 + 1 + (0 + 4) + 1 + (0 + 4) + 1 + (0 + 4) + 1 + (0 + 6) + 1 ≤ 0 + 1 + (0 + 4) + 1 + (0 + 4) + 1 + (0 + 4) + 1 + (0 + 6) + 1 + (0 + 6) + 1 + (0 + 10) + 1 + (0 + 10) + 1 + (0 + 10) + 1 + (0 + 24) + 1 + (0 + 24) + 1 + (0 + 24) + 1 + (0 + 24) + 1 + (0 + 24) + 1 + (0 + 24) + 4 + (0 + 1 + (0 + 400) + 1 + (0 + 400) + 1 + (0 + 400)) by omega) hz dX4_init_54 fun H1 hz hP hS => ?_
  have hP : Wd Γ u54.1 u54.2 w H1 := by rw [← e54]; exact hP
  have t2 : u54.1 (k + 9) = some (sO 6 [2]) := by rw [← e54]; exact up_eq _ _ _
  have t0 : u54.1 k = some (sO 3 [0, 0, 0, 0, 0, (k + 4), (k + 6), (k + 8), (k + 10), 2, 2, 2, 2, 2, 2, 2, 2, 2, 2, 2]) := (low_kO e54 (by omega)).1.trans t0
  refine lv_dup hx hb dX4_init_57 rfl ?_
  refine lv_bipush (v := 6) hx hb dX4_init_58 rfl ?_
  obtain ⟨u60, e60, h⟩ := bnd_e h
  refine w_cK (u := u54) (q := u60) (k := (k + 9)) (k0 := k) hx hb hml hts hown hK hP hS hz (i_Row (N := 6) t2 (Nat.le_of_ble_eq_true rfl) e60) kX7_init mX4_11 rfl rfl hl.1 (Nat.le_of_ble_eq_true rfl) ⟨Nat.le_of_ble_eq_true rfl, Nat.le_of_ble_eq_true rfl⟩ ⟨(show 0 + 1 + (0 + 1) + 1 + (0 + 1) + 1 + (0 + 1) + 1 + (0 + 1) + 1 + (0 + 1) ≤ 0 + 1 + (0 + 1) + 1 + (0 + 1) + 1 + (0 + 1) + 1 + (0 + 1) + 1 + (0 + 1) + 1 + (0 + 1) + 1 + (0 + 1) + 1 + (0 + 1) + 1 + (0 + 1) + 1 + (0 + 1) + 1 + (0 + 1) + 1 + (0 + 1) + 1 + (0 + 1) + 1 + (0 + 1) + 1 + (0 + 1 + (0 + 1) + 1 + (0 + 1) + 1 + (0 + 1)) by omega), (show 0 + 1 + (0 + 4) + 1 + (0 + 4) + 1 + (0 + 4) + 1 + (0 + 6) + 1 + (0 + 6) ≤ 0 + 1 + (0 + 4) + 1 + (0 + 4) + 1 + (0 + 4) + 1 + (0 + 6) + 1 + (0 + 6) + 1 + (0 + 10) + 1 + (0 + 10) + 1 + (0 + 10) + 1 + (0 + 24) + 1 + (0 + 24) + 1 + (0 + 24) + 1 + (0 + 24) + 1 + (0 + 24) + 1 + (0 + 24) + 4 + (0 + 1 + (0 + 400) + 1 + (0 + 400) + 1 + (0 + 400)) by omega)⟩ dX4_init_60 (by omega) fun H1 locs1 hz hP hS => ?_
  have t0 : u60.1 k = some (sO 3 [0, 0, 0, 0, 0, (k + 4), (k + 6), (k + 8), (k + 10), 2, 2, 2, 2, 2, 2, 2, 2, 2, 2, 2]) := (low_Row (q := k) e60 (by omega)).1.trans t0
  obtain ⟨u63, e63, h⟩ := bnd_e h
  refine w_putF (cd := (k + 12)) (y := 0) hx hb hts hown hK hP hS (Nat.le_refl _) FX4_27 hnm t0 rfl rfl rfl rfl dX4_init_63 fun H1 locs1 hq hP hS => ?_
  have hz := hq.trans hz
  have hP : Wd Γ u63.1 u63.2 w H1 := by rw [← e63]; exact hP
  have t0 : u63.1 k = some (sO 3 [0, 0, 0, 0, 0, (k + 4), (k + 6), (k + 8), (k + 10), (k + 12), 2, 2, 2, 2, 2, 2, 2, 2, 2, 2]) := by rw [← e63]; exact up_eq _ _ _
  refine lv_aload_n hx hb dX4_init_66 rfl (lv_at hl 0 rfl) ?_
  obtain ⟨u67, e67, h⟩ := bnd_e h
  refine w_new (n := (k + 11)) hx hb hts hown hK hP hS nX4_7 (show 0 + 1 + (0 + 1) + 1 + (0 + 1) + 1 + (0 + 1) + 1 + (0 + 1) + 1 + (0 + 1) + 1 ≤ 0 + 1 + (0 + 1) + 1 + (0 + 1) + 1 + (0 + 1) + 1 + (0 + 1) + 1 + (0 + 1) + 1 + (0 + 1) + 1 + (0 + 1) + 1 + (0 + 1) + 1 + (0 + 1) + 1 + (0 + 1) + 1 + (0 + 1) + 1 + (0 + 1) + 1 + (0 + 1) + 1 + (0 + 1) + 1 + (0 + 1 + (0 + 1) + 1 + (0 + 1) + 1 + (0 + 1)) by omega) (show 0 + 1 + (0 + 4) + 1 + (0 + 4) + 1 + (0 + 4) + 1 + (0 + 6) + 1 + (0 + 6) + 1 ≤ 0 + 1 + (0 + 4) + 1 + (0 + 4) + 1 + (0 + 4) + 1 + (0 + 6) + 1 + (0 + 6) + 1 + (0 + 10) + 1 + (0 + 10) + 1 + (0 + 10) + 1 + (0 + 24) + 1 + (0 + 24) + 1 + (0 + 24) + 1 + (0 + 24) + 1 + (0 + 24) + 1 + (0 + 24) + 4 + (0 + 1 + (0 + 400) + 1 + (0 + 400) + 1 + (0 + 400)) by omega) hz dX4_init_67 fun H1 hz hP hS => ?_
  have hP : Wd Γ u67.1 u67.2 w H1 := by rw [← e67]; exact hP
  have t2 : u67.1 (k + 11) = some (sO 6 [2]) := by rw [← e67]; exact up_eq _ _ _
  have t0 : u67.1 k = some (sO 3 [0, 0, 0, 0, 0, (k + 4), (k + 6), (k + 8), (k + 10), (k + 12), 2, 2, 2, 2, 2, 2, 2, 2, 2, 2]) := (low_kO e67 (by omega)).1.trans t0
  refine lv_dup hx hb dX4_init_70 rfl ?_
  refine lv_bipush (v := 10) hx hb dX4_init_71 rfl ?_
  obtain ⟨u73, e73, h⟩ := bnd_e h
  refine w_cK (u := u67) (q := u73) (k := (k + 11)) (k0 := k) hx hb hml hts hown hK hP hS hz (i_Row (N := 10) t2 (Nat.le_of_ble_eq_true rfl) e73) kX7_init mX4_11 rfl rfl hl.1 (Nat.le_of_ble_eq_true rfl) ⟨Nat.le_of_ble_eq_true rfl, Nat.le_of_ble_eq_true rfl⟩ ⟨(show 0 + 1 + (0 + 1) + 1 + (0 + 1) + 1 + (0 + 1) + 1 + (0 + 1) + 1 + (0 + 1) + 1 + (0 + 1) ≤ 0 + 1 + (0 + 1) + 1 + (0 + 1) + 1 + (0 + 1) + 1 + (0 + 1) + 1 + (0 + 1) + 1 + (0 + 1) + 1 + (0 + 1) + 1 + (0 + 1) + 1 + (0 + 1) + 1 + (0 + 1) + 1 + (0 + 1) + 1 + (0 + 1) + 1 + (0 + 1) + 1 + (0 + 1) + 1 + (0 + 1 + (0 + 1) + 1 + (0 + 1) + 1 + (0 + 1)) by omega), (show 0 + 1 + (0 + 4) + 1 + (0 + 4) + 1 + (0 + 4) + 1 + (0 + 6) + 1 + (0 + 6) + 1 + (0 + 10) ≤ 0 + 1 + (0 + 4) + 1 + (0 + 4) + 1 + (0 + 4) + 1 + (0 + 6) + 1 + (0 + 6) + 1 + (0 + 10) + 1 + (0 + 10) + 1 + (0 + 10) + 1 + (0 + 24) + 1 + (0 + 24) + 1 + (0 + 24) + 1 + (0 + 24) + 1 + (0 + 24) + 1 + (0 + 24) + 4 + (0 + 1 + (0 + 400) + 1 + (0 + 400) + 1 + (0 + 400)) by omega)⟩ dX4_init_73 (by omega) fun H1 locs1 hz hP hS => ?_
  have t0 : u73.1 k = some (sO 3 [0, 0, 0, 0, 0, (k + 4), (k + 6), (k + 8), (k + 10), (k + 12), 2, 2, 2, 2, 2, 2, 2, 2, 2, 2]) := (low_Row (q := k) e73 (by omega)).1.trans t0
  obtain ⟨u76, e76, h⟩ := bnd_e h
  refine w_putF (cd := (k + 14)) (y := 0) hx hb hts hown hK hP hS (Nat.le_refl _) FX4_30 hnm t0 rfl rfl rfl rfl dX4_init_76 fun H1 locs1 hq hP hS => ?_
  have hz := hq.trans hz
  have hP : Wd Γ u76.1 u76.2 w H1 := by rw [← e76]; exact hP
  have t0 : u76.1 k = some (sO 3 [0, 0, 0, 0, 0, (k + 4), (k + 6), (k + 8), (k + 10), (k + 12), (k + 14), 2, 2, 2, 2, 2, 2, 2, 2, 2]) := by rw [← e76]; exact up_eq _ _ _
  refine lv_aload_n hx hb dX4_init_79 rfl (lv_at hl 0 rfl) ?_
  obtain ⟨u80, e80, h⟩ := bnd_e h
  refine w_new (n := (k + 13)) hx hb hts hown hK hP hS nX4_7 (show 0 + 1 + (0 + 1) + 1 + (0 + 1) + 1 + (0 + 1) + 1 + (0 + 1) + 1 + (0 + 1) + 1 + (0 + 1) + 1 ≤ 0 + 1 + (0 + 1) + 1 + (0 + 1) + 1 + (0 + 1) + 1 + (0 + 1) + 1 + (0 + 1) + 1 + (0 + 1) + 1 + (0 + 1) + 1 + (0 + 1) + 1 + (0 + 1) + 1 + (0 + 1) + 1 + (0 + 1) + 1 + (0 + 1) + 1 + (0 + 1) + 1 + (0 + 1) + 1 + (0 + 1 + (0 + 1) + 1 + (0 + 1) + 1 + (0 + 1)) by omega) (show 0 + 1 + (0 + 4) + 1 + (0 + 4) + 1 + (0 + 4) + 1 + (0 + 6) + 1 + (0 + 6) + 1 + (0 + 10) + 1 ≤ 0 + 1 + (0 + 4) + 1 + (0 + 4) + 1 + (0 + 4) + 1 + (0 + 6) + 1 + (0 + 6) + 1 + (0 + 10) + 1 + (0 + 10) + 1 + (0 + 10) + 1 + (0 + 24) + 1 + (0 + 24) + 1 + (0 + 24) + 1 + (0 + 24) + 1 + (0 + 24) + 1 + (0 + 24) + 4 + (0 + 1 + (0 + 400) + 1 + (0 + 400) + 1 + (0 + 400)) by omega) hz dX4_init_80 fun H1 hz hP hS => ?_
  have hP : Wd Γ u80.1 u80.2 w H1 := by rw [← e80]; exact hP
  have t2 : u80.1 (k + 13) = some (sO 6 [2]) := by rw [← e80]; exact up_eq _ _ _
  have t0 : u80.1 k = some (sO 3 [0, 0, 0, 0, 0, (k + 4), (k + 6), (k + 8), (k + 10), (k + 12), (k + 14), 2, 2, 2, 2, 2, 2, 2, 2, 2]) := (low_kO e80 (by omega)).1.trans t0
  refine lv_dup hx hb dX4_init_83 rfl ?_
  refine lv_bipush (v := 10) hx hb dX4_init_84 rfl ?_
  obtain ⟨u86, e86, h⟩ := bnd_e h
  refine w_cK (u := u80) (q := u86) (k := (k + 13)) (k0 := k) hx hb hml hts hown hK hP hS hz (i_Row (N := 10) t2 (Nat.le_of_ble_eq_true rfl) e86) kX7_init mX4_11 rfl rfl hl.1 (Nat.le_of_ble_eq_true rfl) ⟨Nat.le_of_ble_eq_true rfl, Nat.le_of_ble_eq_true rfl⟩ ⟨(show 0 + 1 + (0 + 1) + 1 + (0 + 1) + 1 + (0 + 1) + 1 + (0 + 1) + 1 + (0 + 1) + 1 + (0 + 1) + 1 + (0 + 1) ≤ 0 + 1 + (0 + 1) + 1 + (0 + 1) + 1 + (0 + 1) + 1 + (0 + 1) + 1 + (0 + 1) + 1 + (0 + 1) + 1 + (0 + 1) + 1 + (0 + 1) + 1 + (0 + 1) + 1 + (0 + 1) + 1 + (0 + 1) + 1 + (0 + 1) + 1 + (0 + 1) + 1 + (0 + 1) + 1 + (0 + 1 + (0 + 1) + 1 + (0 + 1) + 1 + (0 + 1)) by omega), (show 0 + 1 + (0 + 4) + 1 + (0 + 4) + 1 + (0 + 4) + 1 + (0 + 6) + 1 + (0 + 6) + 1 + (0 + 10) + 1 + (0 + 10) ≤ 0 + 1 + (0 + 4) + 1 + (0 + 4) + 1 + (0 + 4) + 1 + (0 + 6) + 1 + (0 + 6) + 1 + (0 + 10) + 1 + (0 + 10) + 1 + (0 + 10) + 1 + (0 + 24) + 1 + (0 + 24) + 1 + (0 + 24) + 1 + (0 + 24) + 1 + (0 + 24) + 1 + (0 + 24) + 4 + (0 + 1 + (0 + 400) + 1 + (0 + 400) + 1 + (0 + 400)) by omega)⟩ dX4_init_86 (by omega) fun H1 locs1 hz hP hS => ?_
  have t0 : u86.1 k = some (sO 3 [0, 0, 0, 0, 0, (k + 4), (k + 6), (k + 8), (k + 10), (k + 12), (k + 14), 2, 2, 2, 2, 2, 2, 2, 2, 2]) := (low_Row (q := k) e86 (by omega)).1.trans t0
  obtain ⟨u89, e89, h⟩ := bnd_e h
  refine w_putF (cd := (k + 16)) (y := 0) hx hb hts hown hK hP hS (Nat.le_refl _) FX4_33 hnm t0 rfl rfl rfl rfl dX4_init_89 fun H1 locs1 hq hP hS => ?_
  have hz := hq.trans hz
  have hP : Wd Γ u89.1 u89.2 w H1 := by rw [← e89]; exact hP
  have t0 : u89.1 k = some (sO 3 [0, 0, 0, 0, 0, (k + 4), (k + 6), (k + 8), (k + 10), (k + 12), (k + 14), (k + 16), 2, 2, 2, 2, 2, 2, 2, 2]) := by rw [← e89]; exact up_eq _ _ _
  refine lv_aload_n hx hb dX4_init_92 rfl (lv_at hl 0 rfl) ?_
  obtain ⟨u93, e93, h⟩ := bnd_e h
  refine w_new (n := (k + 15)) hx hb hts hown hK hP hS nX4_7 (show 0 + 1 + (0 + 1) + 1 + (0 + 1) + 1 + (0 + 1) + 1 + (0 + 1) + 1 + (0 + 1) + 1 + (0 + 1) + 1 + (0 + 1) + 1 ≤ 0 + 1 + (0 + 1) + 1 + (0 + 1) + 1 + (0 + 1) + 1 + (0 + 1) + 1 + (0 + 1) + 1 + (0 + 1) + 1 + (0 + 1) + 1 + (0 + 1) + 1 + (0 + 1) + 1 + (0 + 1) + 1 + (0 + 1) + 1 + (0 + 1) + 1 + (0 + 1) + 1 + (0 + 1) + 1 + (0 + 1 + (0 + 1) + 1 + (0 + 1) + 1 + (0 + 1)) by omega) (show 0 + 1 + (0 + 4) + 1 + (0 + 4) + 1 + (0 + 4) + 1 + (0 + 6) + 1 + (0 + 6) + 1 + (0 + 10) + 1 + (0 + 10) + 1 ≤ 0 + 1 + (0 + 4) + 1 + (0 + 4) + 1 + (0 + 4) + 1 + (0 + 6) + 1 + (0 + 6) + 1 + (0 + 10) + 1 + (0 + 10) + 1 + (0 + 10) + 1 + (0 + 24) + 1 + (0 + 24) + 1 + (0 + 24) + 1 + (0 + 24) + 1 + (0 + 24) + 1 + (0 + 24) + 4 + (0 + 1 + (0 + 400) + 1 + (0 + 400) + 1 + (0 + 400)) by omega) hz dX4_init_93 fun H1 hz hP hS => ?_
  have hP : Wd Γ u93.1 u93.2 w H1 := by rw [← e93]; exact hP
  have t2 : u93.1 (k + 15) = some (sO 6 [2]) := by rw [← e93]; exact up_eq _ _ _
  have t0 : u93.1 k = some (sO 3 [0, 0, 0, 0, 0, (k + 4), (k + 6), (k + 8), (k + 10), (k + 12), (k + 14), (k + 16), 2, 2, 2, 2, 2, 2, 2, 2]) := (low_kO e93 (by omega)).1.trans t0
  refine lv_dup hx hb dX4_init_96 rfl ?_
  refine lv_bipush (v := 10) hx hb dX4_init_97 rfl ?_
  obtain ⟨u99, e99, h⟩ := bnd_e h
  refine w_cK (u := u93) (q := u99) (k := (k + 15)) (k0 := k) hx hb hml hts hown hK hP hS hz (i_Row (N := 10) t2 (Nat.le_of_ble_eq_true rfl) e99) kX7_init mX4_11 rfl rfl hl.1 (Nat.le_of_ble_eq_true rfl) ⟨Nat.le_of_ble_eq_true rfl, Nat.le_of_ble_eq_true rfl⟩ ⟨(show 0 + 1 + (0 + 1) + 1 + (0 + 1) + 1 + (0 + 1) + 1 + (0 + 1) + 1 + (0 + 1) + 1 + (0 + 1) + 1 + (0 + 1) + 1 + (0 + 1) ≤ 0 + 1 + (0 + 1) + 1 + (0 + 1) + 1 + (0 + 1) + 1 + (0 + 1) + 1 + (0 + 1) + 1 + (0 + 1) + 1 + (0 + 1) + 1 + (0 + 1) + 1 + (0 + 1) + 1 + (0 + 1) + 1 + (0 + 1) + 1 + (0 + 1) + 1 + (0 + 1) + 1 + (0 + 1) + 1 + (0 + 1 + (0 + 1) + 1 + (0 + 1) + 1 + (0 + 1)) by omega), (show 0 + 1 + (0 + 4) + 1 + (0 + 4) + 1 + (0 + 4) + 1 + (0 + 6) + 1 + (0 + 6) + 1 + (0 + 10) + 1 + (0 + 10) + 1 + (0 + 10) ≤ 0 + 1 + (0 + 4) + 1 + (0 + 4) + 1 + (0 + 4) + 1 + (0 + 6) + 1 + (0 + 6) + 1 + (0 + 10) + 1 + (0 + 10) + 1 + (0 + 10) + 1 + (0 + 24) + 1 + (0 + 24) + 1 + (0 + 24) + 1 + (0 + 24) + 1 + (0 + 24) + 1 + (0 + 24) + 4 + (0 + 1 + (0 + 400) + 1 + (0 + 400) + 1 + (0 + 400)) by omega)⟩ dX4_init_99 (by omega) fun H1 locs1 hz hP hS => ?_
  have t0 : u99.1 k = some (sO 3 [0, 0, 0, 0, 0, (k + 4), (k + 6), (k + 8), (k + 10), (k + 12), (k + 14), (k + 16), 2, 2, 2, 2, 2, 2, 2, 2]) := (low_Row (q := k) e99 (by omega)).1.trans t0
  obtain ⟨u102, e102, h⟩ := bnd_e h
  refine w_putF (cd := (k + 18)) (y := 0) hx hb hts hown hK hP hS (Nat.le_refl _) FX4_36 hnm t0 rfl rfl rfl rfl dX4_init_102 fun H1 locs1 hq hP hS => ?_
  have hz := hq.trans hz
  have hP : Wd Γ u102.1 u102.2 w H1 := by rw [← e102]; exact hP
  have t0 : u102.1 k = some (sO 3 [0, 0, 0, 0, 0, (k + 4), (k + 6), (k + 8), (k + 10), (k + 12), (k + 14), (k + 16), (k + 18), 2, 2, 2, 2, 2, 2, 2]) := by rw [← e102]; exact up_eq _ _ _
  refine lv_aload_n hx hb dX4_init_105 rfl (lv_at hl 0 rfl) ?_
  obtain ⟨u106, e106, h⟩ := bnd_e h
  refine w_new (n := (k + 17)) hx hb hts hown hK hP hS nX4_7 (show 0 + 1 + (0 + 1) + 1 + (0 + 1) + 1 + (0 + 1) + 1 + (0 + 1) + 1 + (0 + 1) + 1 + (0 + 1) + 1 + (0 + 1) + 1 + (0 + 1) + 1 ≤ 0 + 1 + (0 + 1) + 1 + (0 + 1) + 1 + (0 + 1) + 1 + (0 + 1) + 1 + (0 + 1) + 1 + (0 + 1) + 1 + (0 + 1) + 1 + (0 + 1) + 1 + (0 + 1) + 1 + (0 + 1) + 1 + (0 + 1) + 1 + (0 + 1) + 1 + (0 + 1) + 1 + (0 + 1) + 1 + (0 + 1 + (0 + 1) + 1 + (0 + 1) + 1 + (0 + 1)) by omega) (show 0 + 1 + (0 + 4) + 1 + (0 + 4) + 1 + (0 + 4) + 1 + (0 + 6) + 1 + (0 + 6) + 1 + (0 + 10) + 1 + (0 + 10) + 1 + (0 + 10) + 1 ≤ 0 + 1 + (0 + 4) + 1 + (0 + 4) + 1 + (0 + 4) + 1 + (0 + 6) + 1 + (0 + 6) + 1 + (0 + 10) + 1 + (0 + 10) + 1 + (0 + 10) + 1 + (0 + 24) + 1 + (0 + 24) + 1 + (0 + 24) + 1 + (0 + 24) + 1 + (0 + 24) + 1 + (0 + 24) + 4 + (0 + 1 + (0 + 400) + 1 + (0 + 400) + 1 + (0 + 400)) by omega) hz dX4_init_106 fun H1 hz hP hS => ?_
  have hP : Wd Γ u106.1 u106.2 w H1 := by rw [← e106]; exact hP
  have t2 : u106.1 (k + 17) = some (sO 6 [2]) := by rw [← e106]; exact up_eq _ _ _
  have t0 : u106.1 k = some (sO 3 [0, 0, 0, 0, 0, (k + 4), (k + 6), (k + 8), (k + 10), (k + 12), (k + 14), (k + 16), (k + 18), 2, 2, 2, 2, 2, 2, 2]) := (low_kO e106 (by omega)).1.trans t0
  refine lv_dup hx hb dX4_init_109 rfl ?_
  refine lv_bipush (v := 24) hx hb dX4_init_110 rfl ?_
  obtain ⟨u112, e112, h⟩ := bnd_e h
  refine w_cK (u := u106) (q := u112) (k := (k + 17)) (k0 := k) hx hb hml hts hown hK hP hS hz (i_Row (N := 24) t2 (Nat.le_of_ble_eq_true rfl) e112) kX7_init mX4_11 rfl rfl hl.1 (Nat.le_of_ble_eq_true rfl) ⟨Nat.le_of_ble_eq_true rfl, Nat.le_of_ble_eq_true rfl⟩ ⟨(show 0 + 1 + (0 + 1) + 1 + (0 + 1) + 1 + (0 + 1) + 1 + (0 + 1) + 1 + (0 + 1) + 1 + (0 + 1) + 1 + (0 + 1) + 1 + (0 + 1) + 1 + (0 + 1) ≤ 0 + 1 + (0 + 1) + 1 + (0 + 1) + 1 + (0 + 1) + 1 + (0 + 1) + 1 + (0 + 1) + 1 + (0 + 1) + 1 + (0 + 1) + 1 + (0 + 1) + 1 + (0 + 1) + 1 + (0 + 1) + 1 + (0 + 1) + 1 + (0 + 1) + 1 + (0 + 1) + 1 + (0 + 1) + 1 + (0 + 1 + (0 + 1) + 1 + (0 + 1) + 1 + (0 + 1)) by omega), (show 0 + 1 + (0 + 4) + 1 + (0 + 4) + 1 + (0 + 4) + 1 + (0 + 6) + 1 + (0 + 6) + 1 + (0 + 10) + 1 + (0 + 10) + 1 + (0 + 10) + 1 + (0 + 24) ≤ 0 + 1 + (0 + 4) + 1 + (0 + 4) + 1 + (0 + 4) + 1 + (0 + 6) + 1 + (0 + 6) + 1 + (0 + 10) + 1 + (0 + 10) + 1 + (0 + 10) + 1 + (0 + 24) + 1 + (0 + 24) + 1 + (0 + 24) + 1 + (0 + 24) + 1 + (0 + 24) + 1 + (0 + 24) + 4 + (0 + 1 + (0 + 400) + 1 + (0 + 400) + 1 + (0 + 400)) by omega)⟩ dX4_init_112 (by omega) fun H1 locs1 hz hP hS => ?_
  have t0 : u112.1 k = some (sO 3 [0, 0, 0, 0, 0, (k + 4), (k + 6), (k + 8), (k + 10), (k + 12), (k + 14), (k + 16), (k + 18), 2, 2, 2, 2, 2, 2, 2]) := (low_Row (q := k) e112 (by omega)).1.trans t0
  obtain ⟨u115, e115, h⟩ := bnd_e h
  refine w_putF (cd := (k + 20)) (y := 0) hx hb hts hown hK hP hS (Nat.le_refl _) FX4_39 hnm t0 rfl rfl rfl rfl dX4_init_115 fun H1 locs1 hq hP hS => ?_
  have hz := hq.trans hz
  have hP : Wd Γ u115.1 u115.2 w H1 := by rw [← e115]; exact hP
  have t0 : u115.1 k = some (sO 3 [0, 0, 0, 0, 0, (k + 4), (k + 6), (k + 8), (k + 10), (k + 12), (k + 14), (k + 16), (k + 18), (k + 20), 2, 2, 2, 2, 2, 2]) := by rw [← e115]; exact up_eq _ _ _
  refine lv_aload_n hx hb dX4_init_118 rfl (lv_at hl 0 rfl) ?_
  obtain ⟨u119, e119, h⟩ := bnd_e h
  refine w_new (n := (k + 19)) hx hb hts hown hK hP hS nX4_7 (show 0 + 1 + (0 + 1) + 1 + (0 + 1) + 1 + (0 + 1) + 1 + (0 + 1) + 1 + (0 + 1) + 1 + (0 + 1) + 1 + (0 + 1) + 1 + (0 + 1) + 1 + (0 + 1) + 1 ≤ 0 + 1 + (0 + 1) + 1 + (0 + 1) + 1 + (0 + 1) + 1 + (0 + 1) + 1 + (0 + 1) + 1 + (0 + 1) + 1 + (0 + 1) + 1 + (0 + 1) + 1 + (0 + 1) + 1 + (0 + 1) + 1 + (0 + 1) + 1 + (0 + 1) + 1 + (0 + 1) + 1 + (0 + 1) + 1 + (0 + 1 + (0 + 1) + 1 + (0 + 1) + 1 + (0 + 1)) by omega) (show 0 + 1 + (0 + 4) + 1 + (0 + 4) + 1 + (0 + 4) + 1 + (0 + 6) + 1 + (0 + 6) + 1 + (0 + 10) + 1 + (0 + 10) + 1 + (0 + 10) + 1 + (0 + 24) + 1 ≤ 0 + 1 + (0 + 4) + 1 + (0 + 4) + 1 + (0 + 4) + 1 + (0 + 6) + 1 + (0 + 6) + 1 + (0 + 10) + 1 + (0 + 10) + 1 + (0 + 10) + 1 + (0 + 24) + 1 + (0 + 24) + 1 + (0 + 24) + 1 + (0 + 24) + 1 + (0 + 24) + 1 + (0 + 24) + 4 + (0 + 1 + (0 + 400) + 1 + (0 + 400) + 1 + (0 + 400)) by omega) hz dX4_init_119 fun H1 hz hP hS => ?_
  have hP : Wd Γ u119.1 u119.2 w H1 := by rw [← e119]; exact hP
  have t2 : u119.1 (k + 19) = some (sO 6 [2]) := by rw [← e119]; exact up_eq _ _ _
  have t0 : u119.1 k = some (sO 3 [0, 0, 0, 0, 0, (k + 4), (k + 6), (k + 8), (k + 10), (k + 12), (k + 14), (k + 16), (k + 18), (k + 20), 2, 2, 2, 2, 2, 2]) := (low_kO e119 (by omega)).1.trans t0
  refine lv_dup hx hb dX4_init_122 rfl ?_
  refine lv_bipush (v := 24) hx hb dX4_init_123 rfl ?_
  obtain ⟨u125, e125, h⟩ := bnd_e h
  refine w_cK (u := u119) (q := u125) (k := (k + 19)) (k0 := k) hx hb hml hts hown hK hP hS hz (i_Row (N := 24) t2 (Nat.le_of_ble_eq_true rfl) e125) kX7_init mX4_11 rfl rfl hl.1 (Nat.le_of_ble_eq_true rfl) ⟨Nat.le_of_ble_eq_true rfl, Nat.le_of_ble_eq_true rfl⟩ ⟨(show 0 + 1 + (0 + 1) + 1 + (0 + 1) + 1 + (0 + 1) + 1 + (0 + 1) + 1 + (0 + 1) + 1 + (0 + 1) + 1 + (0 + 1) + 1 + (0 + 1) + 1 + (0 + 1) + 1 + (0 + 1) ≤ 0 + 1 + (0 + 1) + 1 + (0 + 1) + 1 + (0 + 1) + 1 + (0 + 1) + 1 + (0 + 1) + 1 + (0 + 1) + 1 + (0 + 1) + 1 + (0 + 1) + 1 + (0 + 1) + 1 + (0 + 1) + 1 + (0 + 1) + 1 + (0 + 1) + 1 + (0 + 1) + 1 + (0 + 1) + 1 + (0 + 1 + (0 + 1) + 1 + (0 + 1) + 1 + (0 + 1)) by omega), (show 0 + 1 + (0 + 4) + 1 + (0 + 4) + 1 + (0 + 4) + 1 + (0 + 6) + 1 + (0 + 6) + 1 + (0 + 10) + 1 + (0 + 10) + 1 + (0 + 10) + 1 + (0 + 24) + 1 + (0 + 24) ≤ 0 + 1 + (0 + 4) + 1 + (0 + 4) + 1 + (0 + 4) + 1 + (0 + 6) + 1 + (0 + 6) + 1 + (0 + 10) + 1 + (0 + 10) + 1 + (0 + 10) + 1 + (0 + 24) + 1 + (0 + 24) + 1 + (0 + 24) + 1 + (0 + 24) + 1 + (0 + 24) + 1 + (0 + 24) + 4 + (0 + 1 + (0 + 400) + 1 + (0 + 400) + 1 + (0 + 400)) by omega)⟩ dX4_init_125 (by omega) fun H1 locs1 hz hP hS => ?_
  have t0 : u125.1 k = some (sO 3 [0, 0, 0, 0, 0, (k + 4), (k + 6), (k + 8), (k + 10), (k + 12), (k + 14), (k + 16), (k + 18), (k + 20), 2, 2, 2, 2, 2, 2]) := (low_Row (q := k) e125 (by omega)).1.trans t0
  obtain ⟨u128, e128, h⟩ := bnd_e h
  refine w_putF (cd := (k + 22)) (y := 0) hx hb hts hown hK hP hS (Nat.le_refl _) FX4_42 hnm t0 rfl rfl rfl rfl dX4_init_128 fun H1 locs1 hq hP hS => ?_
  have hz := hq.trans hz
  have hP : Wd Γ u128.1 u128.2 w H1 := by rw [← e128]; exact hP
  have t0 : u128.1 k = some (sO 3 [0, 0, 0, 0, 0, (k + 4), (k + 6), (k + 8), (k + 10), (k + 12), (k + 14), (k + 16), (k + 18), (k + 20), (k + 22), 2, 2, 2, 2, 2]) := by rw [← e128]; exact up_eq _ _ _
  refine lv_aload_n hx hb dX4_init_131 rfl (lv_at hl 0 rfl) ?_
  obtain ⟨u132, e132, h⟩ := bnd_e h
  refine w_new (n := (k + 21)) hx hb hts hown hK hP hS nX4_7 (show 0 + 1 + (0 + 1) + 1 + (0 + 1) + 1 + (0 + 1) + 1 + (0 + 1) + 1 + (0 + 1) + 1 + (0 + 1) + 1 + (0 + 1) + 1 + (0 + 1) + 1 + (0 + 1) + 1 + (0 + 1) + 1 ≤ 0 + 1 + (0 + 1) + 1 + (0 + 1) + 1 + (0 + 1) + 1 + (0 + 1) + 1 + (0 + 1) + 1 + (0 + 1) + 1 + (0 + 1) + 1 + (0 + 1) + 1 + (0 + 1) + 1 + (0 + 1) + 1 + (0 + 1) + 1 + (0 + 1) + 1 + (0 + 1) + 1 + (0 + 1) + 1 + (0 + 1 + (0 + 1) + 1 + (0 + 1) + 1 + (0 + 1)) by omega) (show 0 + 1 + (0 + 4) + 1 + (0 + 4) + 1 + (0 + 4) + 1 + (0 + 6) + 1 + (0 + 6) + 1 + (0 + 10) + 1 + (0 + 10) + 1 + (0 + 10) + 1 + (0 + 24) + 1 + (0 + 24) + 1 ≤ 0 + 1 + (0 + 4) + 1 + (0 + 4) + 1 + (0 + 4) + 1 + (0 + 6) + 1 + (0 + 6) + 1 + (0 + 10) + 1 + (0 + 10) + 1 + (0 + 10) + 1 + (0 + 24) + 1 + (0 + 24) + 1 + (0 + 24) + 1 + (0 + 24) + 1 + (0 + 24) + 1 + (0 + 24) + 4 + (0 + 1 + (0 + 400) + 1 + (0 + 400) + 1 + (0 + 400)) by omega) hz dX4_init_132 fun H1 hz hP hS => ?_
  have hP : Wd Γ u132.1 u132.2 w H1 := by rw [← e132]; exact hP
  have t2 : u132.1 (k + 21) = some (sO 6 [2]) := by rw [← e132]; exact up_eq _ _ _
  have t0 : u132.1 k = some (sO 3 [0, 0, 0, 0, 0, (k + 4), (k + 6), (k + 8), (k + 10), (k + 12), (k + 14), (k + 16), (k + 18), (k + 20), (k + 22), 2, 2, 2, 2, 2]) := (low_kO e132 (by omega)).1.trans t0
  refine lv_dup hx hb dX4_init_135 rfl ?_
  refine lv_bipush (v := 24) hx hb dX4_init_136 rfl ?_
  obtain ⟨u138, e138, h⟩ := bnd_e h
  refine w_cK (u := u132) (q := u138) (k := (k + 21)) (k0 := k) hx hb hml hts hown hK hP hS hz (i_Row (N := 24) t2 (Nat.le_of_ble_eq_true rfl) e138) kX7_init mX4_11 rfl rfl hl.1 (Nat.le_of_ble_eq_true rfl) ⟨Nat.le_of_ble_eq_true rfl, Nat.le_of_ble_eq_true rfl⟩ ⟨(show 0 + 1 + (0 + 1) + 1 + (0 + 1) + 1 + (0 + 1) + 1 + (0 + 1) + 1 + (0 + 1) + 1 + (0 + 1) + 1 + (0 + 1) + 1 + (0 + 1) + 1 + (0 + 1) + 1 + (0 + 1) + 1 + (0 + 1) ≤ 0 + 1 + (0 + 1) + 1 + (0 + 1) + 1 + (0 + 1) + 1 + (0 + 1) + 1 + (0 + 1) + 1 + (0 + 1) + 1 + (0 + 1) + 1 + (0 + 1) + 1 + (0 + 1) + 1 + (0 + 1) + 1 + (0 + 1) + 1 + (0 + 1) + 1 + (0 + 1) + 1 + (0 + 1) + 1 + (0 + 1 + (0 + 1) + 1 + (0 + 1) + 1 + (0 + 1)) by omega), (show 0 + 1 + (0 + 4) + 1 + (0 + 4) + 1 + (0 + 4) + 1 + (0 + 6) + 1 + (0 + 6) + 1 + (0 + 10) + 1 + (0 + 10) + 1 + (0 + 10) + 1 + (0 + 24) + 1 + (0 + 24) + 1 + (0 + 24) ≤ 0 + 1 + (0 + 4) + 1 + (0 + 4) + 1 + (0 + 4) + 1 + (0 + 6) + 1 + (0 + 6) + 1 + (0 + 10) + 1 + (0 + 10) + 1 + (0 + 10) + 1 + (0 + 24) + 1 + (0 + 24) + 1 + (0 + 24) + 1 + (0 + 24) + 1 + (0 + 24) + 1 + (0 + 24) + 4 + (0 + 1 + (0 + 400) + 1 + (0 + 400) + 1 + (0 + 400)) by omega)⟩ dX4_init_138 (by omega) fun H1 locs1 hz hP hS => ?_
  have t0 : u138.1 k = some (sO 3 [0, 0, 0, 0, 0, (k + 4), (k + 6), (k + 8), (k + 10), (k + 12), (k + 14), (k + 16), (k + 18), (k + 20), (k + 22), 2, 2, 2, 2, 2]) := (low_Row (q := k) e138 (by omega)).1.trans t0
  obtain ⟨u141, e141, h⟩ := bnd_e h
  refine w_putF (cd := (k + 24)) (y := 0) hx hb hts hown hK hP hS (Nat.le_refl _) FX4_45 hnm t0 rfl rfl rfl rfl dX4_init_141 fun H1 locs1 hq hP hS => ?_
  have hz := hq.trans hz
  have hP : Wd Γ u141.1 u141.2 w H1 := by rw [← e141]; exact hP
  have t0 : u141.1 k = some (sO 3 [0, 0, 0, 0, 0, (k + 4), (k + 6), (k + 8), (k + 10), (k + 12), (k + 14), (k + 16), (k + 18), (k + 20), (k + 22), (k + 24), 2, 2, 2, 2]) := by rw [← e141]; exact up_eq _ _ _
  refine lv_aload_n hx hb dX4_init_144 rfl (lv_at hl 0 rfl) ?_
  obtain ⟨u145, e145, h⟩ := bnd_e h
  refine w_new (n := (k + 23)) hx hb hts hown hK hP hS nX4_7 (show 0 + 1 + (0 + 1) + 1 + (0 + 1) + 1 + (0 + 1) + 1 + (0 + 1) + 1 + (0 + 1) + 1 + (0 + 1) + 1 + (0 + 1) + 1 + (0 + 1) + 1 + (0 + 1) + 1 + (0 + 1) + 1 + (0 + 1) + 1 ≤ 0 + 1 + (0 + 1) + 1 + (0 + 1) + 1 + (0 + 1) + 1 + (0 + 1) + 1 + (0 + 1) + 1 + (0 + 1) + 1 + (0 + 1) + 1 + (0 + 1) + 1 + (0 + 1) + 1 + (0 + 1) + 1 + (0 + 1) + 1 + (0 + 1) + 1 + (0 + 1) + 1 + (0 + 1) + 1 + (0 + 1 + (0 + 1) + 1 + (0 + 1) + 1 + (0 + 1)) by omega) (show 0 + 1 + (0 + 4) + 1 + (0 + 4) + 1 + (0 + 4) + 1 + (0 + 6) + 1 + (0 + 6) + 1 + (0 + 10) + 1 + (0 + 10) + 1 + (0 + 10) + 1 + (0 + 24) + 1 + (0 + 24) + 1 + (0 + 24) + 1 ≤ 0 + 1 + (0 + 4) + 1 + (0 + 4) + 1 + (0 + 4) + 1 + (0 + 6) + 1 + (0 + 6) + 1 + (0 + 10) + 1 + (0 + 10) + 1 + (0 + 10) + 1 + (0 + 24) + 1 + (0 + 24) + 1 + (0 + 24) + 1 + (0 + 24) + 1 + (0 + 24) + 1 + (0 + 24) + 4 + (0 + 1 + (0 + 400) + 1 + (0 + 400) + 1 + (0 + 400)) by omega) hz dX4_init_145 fun H1 hz hP hS => ?_
  have hP : Wd Γ u145.1 u145.2 w H1 := by rw [← e145]; exact hP
  have t2 : u145.1 (k + 23) = some (sO 6 [2]) := by rw [← e145]; exact up_eq _ _ _
  have t0 : u145.1 k = some (sO 3 [0, 0, 0, 0, 0, (k + 4), (k + 6), (k + 8), (k + 10), (k + 12), (k + 14), (k + 16), (k + 18), (k + 20), (k + 22), (k + 24), 2, 2, 2, 2]) := (low_kO e145 (by omega)).1.trans t0
  refine lv_dup hx hb dX4_init_148 rfl ?_
  refine lv_bipush (v := 24) hx hb dX4_init_149 rfl ?_
  obtain ⟨u151, e151, h⟩ := bnd_e h
  refine w_cK (u := u145) (q := u151) (k := (k + 23)) (k0 := k) hx hb hml hts hown hK hP hS hz (i_Row (N := 24) t2 (Nat.le_of_ble_eq_true rfl) e151) kX7_init mX4_11 rfl rfl hl.1 (Nat.le_of_ble_eq_true rfl) ⟨Nat.le_of_ble_eq_true rfl, Nat.le_of_ble_eq_true rfl⟩ ⟨(show 0 + 1 + (0 + 1) + 1 + (0 + 1) + 1 + (0 + 1) + 1 + (0 + 1) + 1 + (0 + 1) + 1 + (0 + 1) + 1 + (0 + 1) + 1 + (0 + 1) + 1 + (0 + 1) + 1 + (0 + 1) + 1 + (0 + 1) + 1 + (0 + 1) ≤ 0 + 1 + (0 + 1) + 1 + (0 + 1) + 1 + (0 + 1) + 1 + (0 + 1) + 1 + (0 + 1) + 1 + (0 + 1) + 1 + (0 + 1) + 1 + (0 + 1) + 1 + (0 + 1) + 1 + (0 + 1) + 1 + (0 + 1) + 1 + (0 + 1) + 1 + (0 + 1) + 1 + (0 + 1) + 1 + (0 + 1 + (0 + 1) + 1 + (0 + 1) + 1 + (0 + 1)) by omega), (show 0 + 1 + (0 + 4) + 1 + (0 + 4) + 1 + (0 + 4) + 1 + (0 + 6) + 1 + (0 + 6) + 1 + (0 + 10) + 1 + (0 + 10) + 1 + (0 + 10) + 1 + (0 + 24) + 1 + (0 + 24) + 1 + (0 + 24) + 1 + (0 + 24) ≤ 0 + 1 + (0 + 4) + 1 + (0 + 4) + 1 + (0 + 4) + 1 + (0 + 6) + 1 + (0 + 6) + 1 + (0 + 10) + 1 + (0 + 10) + 1 + (0 + 10) + 1 + (0 + 24) + 1 + (0 + 24) + 1 + (0 + 24) + 1 + (0 + 24) + 1 + (0 + 24) + 1 + (0 + 24) + 4 + (0 + 1 + (0 + 400) + 1 + (0 + 400) + 1 + (0 + 400)) by omega)⟩ dX4_init_151 (by omega) fun H1 locs1 hz hP hS => ?_
  have t0 : u151.1 k = some (sO 3 [0, 0, 0, 0, 0, (k + 4), (k + 6), (k + 8), (k + 10), (k + 12), (k + 14), (k + 16), (k + 18), (k + 20), (k + 22), (k + 24), 2, 2, 2, 2]) := (low_Row (q := k) e151 (by omega)).1.trans t0
  obtain ⟨u154, e154, h⟩ := bnd_e h
  refine w_putF (cd := (k + 26)) (y := 0) hx hb hts hown hK hP hS (Nat.le_refl _) FX4_48 hnm t0 rfl rfl rfl rfl dX4_init_154 fun H1 locs1 hq hP hS => ?_
  have hz := hq.trans hz
  have hP : Wd Γ u154.1 u154.2 w H1 := by rw [← e154]; exact hP
  have t0 : u154.1 k = some (sO 3 [0, 0, 0, 0, 0, (k + 4), (k + 6), (k + 8), (k + 10), (k + 12), (k + 14), (k + 16), (k + 18), (k + 20), (k + 22), (k + 24), (k + 26), 2, 2, 2]) := by rw [← e154]; exact up_eq _ _ _
  refine lv_aload_n hx hb dX4_init_157 rfl (lv_at hl 0 rfl) ?_
  obtain ⟨u158, e158, h⟩ := bnd_e h
  refine w_new (n := (k + 25)) hx hb hts hown hK hP hS nX4_7 (show 0 + 1 + (0 + 1) + 1 + (0 + 1) + 1 + (0 + 1) + 1 + (0 + 1) + 1 + (0 + 1) + 1 + (0 + 1) + 1 + (0 + 1) + 1 + (0 + 1) + 1 + (0 + 1) + 1 + (0 + 1) + 1 + (0 + 1) + 1 + (0 + 1) + 1 ≤ 0 + 1 + (0 + 1) + 1 + (0 + 1) + 1 + (0 + 1) + 1 + (0 + 1) + 1 + (0 + 1) + 1 + (0 + 1) + 1 + (0 + 1) + 1 + (0 + 1) + 1 + (0 + 1) + 1 + (0 + 1) + 1 + (0 + 1) + 1 + (0 + 1) + 1 + (0 + 1) + 1 + (0 + 1) + 1 + (0 + 1 + (0 + 1) + 1 + (0 + 1) + 1 + (0 + 1)) by omega) (show 0 + 1 + (0 + 4) + 1 + (0 + 4) + 1 + (0 + 4) + 1 + (0 + 6) + 1 + (0 + 6) + 1 + (0 + 10) + 1 + (0 + 10) + 1 + (0 + 10) + 1 + (0 + 24) + 1 + (0 + 24) + 1 + (0 + 24) + 1 + (0 + 24) + 1 ≤ 0 + 1 + (0 + 4) + 1 + (0 + 4) + 1 + (0 + 4) + 1 + (0 + 6) + 1 + (0 + 6) + 1 + (0 + 10) + 1 + (0 + 10) + 1 + (0 + 10) + 1 + (0 + 24) + 1 + (0 + 24) + 1 + (0 + 24) + 1 + (0 + 24) + 1 + (0 + 24) + 1 + (0 + 24) + 4 + (0 + 1 + (0 + 400) + 1 + (0 + 400) + 1 + (0 + 400)) by omega) hz dX4_init_158 fun H1 hz hP hS => ?_
  have hP : Wd Γ u158.1 u158.2 w H1 := by rw [← e158]; exact hP
  have t2 : u158.1 (k + 25) = some (sO 6 [2]) := by rw [← e158]; exact up_eq _ _ _
  have t0 : u158.1 k = some (sO 3 [0, 0, 0, 0, 0, (k + 4), (k + 6), (k + 8), (k + 10), (k + 12), (k + 14), (k + 16), (k + 18), (k + 20), (k + 22), (k + 24), (k + 26), 2, 2, 2]) := (low_kO e158 (by omega)).1.trans t0
  refine lv_dup hx hb dX4_init_161 rfl ?_
  refine lv_bipush (v := 24) hx hb dX4_init_162 rfl ?_
  obtain ⟨u164, e164, h⟩ := bnd_e h
  refine w_cK (u := u158) (q := u164) (k := (k + 25)) (k0 := k) hx hb hml hts hown hK hP hS hz (i_Row (N := 24) t2 (Nat.le_of_ble_eq_true rfl) e164) kX7_init mX4_11 rfl rfl hl.1 (Nat.le_of_ble_eq_true rfl) ⟨Nat.le_of_ble_eq_true rfl, Nat.le_of_ble_eq_true rfl⟩ ⟨(show 0 + 1 + (0 + 1) + 1 + (0 + 1) + 1 + (0 + 1) + 1 + (0 + 1) + 1 + (0 + 1) + 1 + (0 + 1) + 1 + (0 + 1) + 1 + (0 + 1) + 1 + (0 + 1) + 1 + (0 + 1) + 1 + (0 + 1) + 1 + (0 + 1) + 1 + (0 + 1) ≤ 0 + 1 + (0 + 1) + 1 + (0 + 1) + 1 + (0 + 1) + 1 + (0 + 1) + 1 + (0 + 1) + 1 + (0 + 1) + 1 + (0 + 1) + 1 + (0 + 1) + 1 + (0 + 1) + 1 + (0 + 1) + 1 + (0 + 1) + 1 + (0 + 1) + 1 + (0 + 1) + 1 + (0 + 1) + 1 + (0 + 1 + (0 + 1) + 1 + (0 + 1) + 1 + (0 + 1)) by omega), (show 0 + 1 + (0 + 4) + 1 + (0 + 4) + 1 + (0 + 4) + 1 + (0 + 6) + 1 + (0 + 6) + 1 + (0 + 10) + 1 + (0 + 10) + 1 + (0 + 10) + 1 + (0 + 24) + 1 + (0 + 24) + 1 + (0 + 24) + 1 + (0 + 24) + 1 + (0 + 24) ≤ 0 + 1 + (0 + 4) + 1 + (0 + 4) + 1 + (0 + 4) + 1 + (0 + 6) + 1 + (0 + 6) + 1 + (0 + 10) + 1 + (0 + 10) + 1 + (0 + 10) + 1 + (0 + 24) + 1 + (0 + 24) + 1 + (0 + 24) + 1 + (0 + 24) + 1 + (0 + 24) + 1 + (0 + 24) + 4 + (0 + 1 + (0 + 400) + 1 + (0 + 400) + 1 + (0 + 400)) by omega)⟩ dX4_init_164 (by omega) fun H1 locs1 hz hP hS => ?_
  have t0 : u164.1 k = some (sO 3 [0, 0, 0, 0, 0, (k + 4), (k + 6), (k + 8), (k + 10), (k + 12), (k + 14), (k + 16), (k + 18), (k + 20), (k + 22), (k + 24), (k + 26), 2, 2, 2]) := (low_Row (q := k) e164 (by omega)).1.trans t0
  obtain ⟨u167, e167, h⟩ := bnd_e h
  refine w_putF (cd := (k + 28)) (y := 0) hx hb hts hown hK hP hS (Nat.le_refl _) FX4_51 hnm t0 rfl rfl rfl rfl dX4_init_167 fun H1 locs1 hq hP hS => ?_
  have hz := hq.trans hz
  have hP : Wd Γ u167.1 u167.2 w H1 := by rw [← e167]; exact hP
  have t0 : u167.1 k = some (sO 3 [0, 0, 0, 0, 0, (k + 4), (k + 6), (k + 8), (k + 10), (k + 12), (k + 14), (k + 16), (k + 18), (k + 20), (k + 22), (k + 24), (k + 26), (k + 28), 2, 2]) := by rw [← e167]; exact up_eq _ _ _
  refine lv_aload_n hx hb dX4_init_170 rfl (lv_at hl 0 rfl) ?_
  obtain ⟨u171, e171, h⟩ := bnd_e h
  refine w_new (n := (k + 27)) hx hb hts hown hK hP hS nX4_7 (show 0 + 1 + (0 + 1) + 1 + (0 + 1) + 1 + (0 + 1) + 1 + (0 + 1) + 1 + (0 + 1) + 1 + (0 + 1) + 1 + (0 + 1) + 1 + (0 + 1) + 1 + (0 + 1) + 1 + (0 + 1) + 1 + (0 + 1) + 1 + (0 + 1) + 1 + (0 + 1) + 1 ≤ 0 + 1 + (0 + 1) + 1 + (0 + 1) + 1 + (0 + 1) + 1 + (0 + 1) + 1 + (0 + 1) + 1 + (0 + 1) + 1 + (0 + 1) + 1 + (0 + 1) + 1 + (0 + 1) + 1 + (0 + 1) + 1 + (0 + 1) + 1 + (0 + 1) + 1 + (0 + 1) + 1 + (0 + 1) + 1 + (0 + 1 + (0 + 1) + 1 + (0 + 1) + 1 + (0 + 1)) by omega) (show 0 + 1 + (0 + 4) + 1 + (0 + 4) + 1 + (0 + 4) + 1 + (0 + 6) + 1 + (0 + 6) + 1 + (0 + 10) + 1 + (0 + 10) + 1 + (0 + 10) + 1 + (0 + 24) + 1 + (0 + 24) + 1 + (0 + 24) + 1 + (0 + 24) + 1 + (0 + 24) + 1 ≤ 0 + 1 + (0 + 4) + 1 + (0 + 4) + 1 + (0 + 4) + 1 + (0 + 6) + 1 + (0 + 6) + 1 + (0 + 10) + 1 + (0 + 10) + 1 + (0 + 10) + 1 + (0 + 24) + 1 + (0 + 24) + 1 + (0 + 24) + 1 + (0 + 24) + 1 + (0 + 24) + 1 + (0 + 24) + 4 + (0 + 1 + (0 + 400) + 1 + (0 + 400) + 1 + (0 + 400)) by omega) hz dX4_init_171 fun H1 hz hP hS => ?_
  have hP : Wd Γ u171.1 u171.2 w H1 := by rw [← e171]; exact hP
  have t2 : u171.1 (k + 27) = some (sO 6 [2]) := by rw [← e171]; exact up_eq _ _ _
  have t0 : u171.1 k = some (sO 3 [0, 0, 0, 0, 0, (k + 4), (k + 6), (k + 8), (k + 10), (k + 12), (k + 14), (k + 16), (k + 18), (k + 20), (k + 22), (k + 24), (k + 26), (k + 28), 2, 2]) := (low_kO e171 (by omega)).1.trans t0
  refine lv_dup hx hb dX4_init_174 rfl ?_
  refine lv_bipush (v := 24) hx hb dX4_init_175 rfl ?_
  obtain ⟨u177, e177, h⟩ := bnd_e h
  refine w_cK (u := u171) (q := u177) (k := (k + 27)) (k0 := k) hx hb hml hts hown hK hP hS hz (i_Row (N := 24) t2 (Nat.le_of_ble_eq_true rfl) e177) kX7_init mX4_11 rfl rfl hl.1 (Nat.le_of_ble_eq_true rfl) ⟨Nat.le_of_ble_eq_true rfl, Nat.le_of_ble_eq_true rfl⟩ ⟨(show 0 + 1 + (0 + 1) + 1 + (0 + 1) + 1 + (0 + 1) + 1 + (0 + 1) + 1 + (0 + 1) + 1 + (0 + 1) + 1 + (0 + 1) + 1 + (0 + 1) + 1 + (0 + 1) + 1 + (0 + 1) + 1 + (0 + 1) + 1 + (0 + 1) + 1 + (0 + 1) + 1 + (0 + 1) ≤ 0 + 1 + (0 + 1) + 1 + (0 + 1) + 1 + (0 + 1) + 1 + (0 + 1) + 1 + (0 + 1) + 1 + (0 + 1) + 1 + (0 + 1) + 1 + (0 + 1) + 1 + (0 + 1) + 1 + (0 + 1) + 1 + (0 + 1) + 1 + (0 + 1) + 1 + (0 + 1) + 1 + (0 + 1) + 1 + (0 + 1 + (0 + 1) + 1 + (0 + 1) + 1 + (0 + 1)) by omega), (show 0 + 1 + (0 + 4) + 1 + (0 + 4) + 1 + (0 + 4) + 1 + (0 + 6) + 1 + (0 + 6) + 1 + (0 + 10) + 1 + (0 + 10) + 1 + (0 + 10) + 1 + (0 + 24) + 1 + (0 + 24) + 1 + (0 + 24) + 1 + (0 + 24) + 1 + (0 + 24) + 1 + (0 + 24) ≤ 0 + 1 + (0 + 4) + 1 + (0 + 4) + 1 + (0 + 4) + 1 + (0 + 6) + 1 + (0 + 6) + 1 + (0 + 10) + 1 + (0 + 10) + 1 + (0 + 10) + 1 + (0 + 24) + 1 + (0 + 24) + 1 + (0 + 24) + 1 + (0 + 24) + 1 + (0 + 24) + 1 + (0 + 24) + 4 + (0 + 1 + (0 + 400) + 1 + (0 + 400) + 1 + (0 + 400)) by omega)⟩ dX4_init_177 (by omega) fun H1 locs1 hz hP hS => ?_
  have t0 : u177.1 k = some (sO 3 [0, 0, 0, 0, 0, (k + 4), (k + 6), (k + 8), (k + 10), (k + 12), (k + 14), (k + 16), (k + 18), (k + 20), (k + 22), (k + 24), (k + 26), (k + 28), 2, 2]) := (low_Row (q := k) e177 (by omega)).1.trans t0
  obtain ⟨u180, e180, h⟩ := bnd_e h
  refine w_putF (cd := (k + 30)) (y := 0) hx hb hts hown hK hP hS (Nat.le_refl _) FX4_54 hnm t0 rfl rfl rfl rfl dX4_init_180 fun H1 locs1 hq hP hS => ?_
  have hz := hq.trans hz
  have hP : Wd Γ u180.1 u180.2 w H1 := by rw [← e180]; exact hP
  have t0 : u180.1 k = some (sO 3 [0, 0, 0, 0, 0, (k + 4), (k + 6), (k + 8), (k + 10), (k + 12), (k + 14), (k + 16), (k + 18), (k + 20), (k + 22), (k + 24), (k + 26), (k + 28), (k + 30), 2]) := by rw [← e180]; exact up_eq _ _ _
  refine lv_aload_n hx hb dX4_init_183 rfl (lv_at hl 0 rfl) ?_
  obtain ⟨u184, e184, h⟩ := bnd_e h
  refine w_new (n := (k + 29)) hx hb hts hown hK hP hS nX4_57 (show 0 + 1 + (0 + 1) + 1 + (0 + 1) + 1 + (0 + 1) + 1 + (0 + 1) + 1 + (0 + 1) + 1 + (0 + 1) + 1 + (0 + 1) + 1 + (0 + 1) + 1 + (0 + 1) + 1 + (0 + 1) + 1 + (0 + 1) + 1 + (0 + 1) + 1 + (0 + 1) + 1 + (0 + 1) + 1 ≤ 0 + 1 + (0 + 1) + 1 + (0 + 1) + 1 + (0 + 1) + 1 + (0 + 1) + 1 + (0 + 1) + 1 + (0 + 1) + 1 + (0 + 1) + 1 + (0 + 1) + 1 + (0 + 1) + 1 + (0 + 1) + 1 + (0 + 1) + 1 + (0 + 1) + 1 + (0 + 1) + 1 + (0 + 1) + 1 + (0 + 1 + (0 + 1) + 1 + (0 + 1) + 1 + (0 + 1)) by omega) (show 0 + 1 + (0 + 4) + 1 + (0 + 4) + 1 + (0 + 4) + 1 + (0 + 6) + 1 + (0 + 6) + 1 + (0 + 10) + 1 + (0 + 10) + 1 + (0 + 10) + 1 + (0 + 24) + 1 + (0 + 24) + 1 + (0 + 24) + 1 + (0 + 24) + 1 + (0 + 24) + 1 + (0 + 24) + 4 ≤ 0 + 1 + (0 + 4) + 1 + (0 + 4) + 1 + (0 + 4) + 1 + (0 + 6) + 1 + (0 + 6) + 1 + (0 + 10) + 1 + (0 + 10) + 1 + (0 + 10) + 1 + (0 + 24) + 1 + (0 + 24) + 1 + (0 + 24) + 1 + (0 + 24) + 1 + (0 + 24) + 1 + (0 + 24) + 4 + (0 + 1 + (0 + 400) + 1 + (0 + 400) + 1 + (0 + 400)) by omega) hz dX4_init_184 fun H1 hz hP hS => ?_
  have hP : Wd Γ u184.1 u184.2 w H1 := by rw [← e184]; exact hP
  have t2 : u184.1 (k + 29) = some (sO 8 [0, 2, 2, 2]) := by rw [← e184]; exact up_eq _ _ _
  have t0 : u184.1 k = some (sO 3 [0, 0, 0, 0, 0, (k + 4), (k + 6), (k + 8), (k + 10), (k + 12), (k + 14), (k + 16), (k + 18), (k + 20), (k + 22), (k + 24), (k + 26), (k + 28), (k + 30), 2]) := (low_kO e184 (by omega)).1.trans t0
  refine lv_dup hx hb dX4_init_187 rfl ?_
  obtain ⟨u188, e188, h⟩ := bnd_e h
  refine w_cK (u := u184) (q := u188) (k := (k + 29)) (k0 := k) hx hb hml hts hown hK hP hS hz (i_Steps t2 e188) kX9_init mX4_59 rfl rfl hl.1 (Nat.le_of_ble_eq_true rfl) ⟨Nat.le_of_ble_eq_true rfl, Nat.le_of_ble_eq_true rfl⟩ ⟨(show 0 + 1 + (0 + 1) + 1 + (0 + 1) + 1 + (0 + 1) + 1 + (0 + 1) + 1 + (0 + 1) + 1 + (0 + 1) + 1 + (0 + 1) + 1 + (0 + 1) + 1 + (0 + 1) + 1 + (0 + 1) + 1 + (0 + 1) + 1 + (0 + 1) + 1 + (0 + 1) + 1 + (0 + 1) + 1 + (0 + 1 + (0 + 1) + 1 + (0 + 1) + 1 + (0 + 1)) ≤ 0 + 1 + (0 + 1) + 1 + (0 + 1) + 1 + (0 + 1) + 1 + (0 + 1) + 1 + (0 + 1) + 1 + (0 + 1) + 1 + (0 + 1) + 1 + (0 + 1) + 1 + (0 + 1) + 1 + (0 + 1) + 1 + (0 + 1) + 1 + (0 + 1) + 1 + (0 + 1) + 1 + (0 + 1) + 1 + (0 + 1 + (0 + 1) + 1 + (0 + 1) + 1 + (0 + 1)) by omega), (show 0 + 1 + (0 + 4) + 1 + (0 + 4) + 1 + (0 + 4) + 1 + (0 + 6) + 1 + (0 + 6) + 1 + (0 + 10) + 1 + (0 + 10) + 1 + (0 + 10) + 1 + (0 + 24) + 1 + (0 + 24) + 1 + (0 + 24) + 1 + (0 + 24) + 1 + (0 + 24) + 1 + (0 + 24) + 4 + (0 + 1 + (0 + 400) + 1 + (0 + 400) + 1 + (0 + 400)) ≤ 0 + 1 + (0 + 4) + 1 + (0 + 4) + 1 + (0 + 4) + 1 + (0 + 6) + 1 + (0 + 6) + 1 + (0 + 10) + 1 + (0 + 10) + 1 + (0 + 10) + 1 + (0 + 24) + 1 + (0 + 24) + 1 + (0 + 24) + 1 + (0 + 24) + 1 + (0 + 24) + 1 + (0 + 24) + 4 + (0 + 1 + (0 + 400) + 1 + (0 + 400) + 1 + (0 + 400)) by omega)⟩ dX4_init_188 (by omega) fun H1 locs1 hz hP hS => ?_
  have t0 : u188.1 k = some (sO 3 [0, 0, 0, 0, 0, (k + 4), (k + 6), (k + 8), (k + 10), (k + 12), (k + 14), (k + 16), (k + 18), (k + 20), (k + 22), (k + 24), (k + 26), (k + 28), (k + 30), 2]) := (low_Steps (q := k) e188 (by omega)).1.trans t0
  obtain ⟨u191, e191, h⟩ := bnd_e h
  refine w_putF (cd := (k + 32)) (y := 0) hx hb hts hown hK hP hS (Nat.le_refl _) FX4_60 hnm t0 rfl rfl rfl rfl dX4_init_191 fun H1 locs1 hq hP hS => ?_
  have hz := hq.trans hz
  have hP : Wd Γ u191.1 u191.2 w H1 := by rw [← e191]; exact hP
  have t0 : u191.1 k = some (sO 3 [0, 0, 0, 0, 0, (k + 4), (k + 6), (k + 8), (k + 10), (k + 12), (k + 14), (k + 16), (k + 18), (k + 20), (k + 22), (k + 24), (k + 26), (k + 28), (k + 30), (k + 32)]) := by rw [← e191]; exact up_eq _ _ _
  subst h
  exact w_kret hx hb hret hlk hK hP hS hz dX4_init_194
def K_Debts (u : Sh × Va) (k : Nat) : Sh × Va := bnd (kO u (k + 1) 6 [2]) fun u5 => bnd (K_Row u5 (k + 1) 36) fun u11 => bnd (kR u11 k 1 [(k + 4), 2] 0 0) fun u14 => bnd (kO u14 (k + 3) 6 [2]) fun u18 => bnd (K_Row u18 (k + 3) 6) fun u24 => bnd (kR u24 k 1 [(k + 4), (k + 6)] 1 0) fun u27 => u27
theorem low_Debts {u r : Sh × Va} {k q : Nat} (h : K_Debts u k = r) (hq : q < k) : lowq q r u := by
  unfold K_Debts at h
  have lc : lowq q u u := ⟨rfl, rfl⟩
  obtain ⟨u5, e5, h⟩ := bnd_e h
  have lc := (low_kO (q := q) e5 (by omega)).tr lc
  obtain ⟨u11, e11, h⟩ := bnd_e h
  have lc := (low_Row (q := q) e11 (by omega)).tr lc
  obtain ⟨u14, e14, h⟩ := bnd_e h
  have lc := (low_kR (q := q) e14 (by omega)).tr lc
  obtain ⟨u18, e18, h⟩ := bnd_e h
  have lc := (low_kO (q := q) e18 (by omega)).tr lc
  obtain ⟨u24, e24, h⟩ := bnd_e h
  have lc := (low_Row (q := q) e24 (by omega)).tr lc
  obtain ⟨u27, e27, h⟩ := bnd_e h
  have lc := (low_kR (q := q) e27 (by omega)).tr lc
  rw [← h]; exact lc
theorem i_Debts {l : Launch} {Γ : Cx} {u : Sh × Va} {w : Vl} {k : Nat} (t0 : u.1 k = some (sO 1 [2, 2])) {r : Sh × Va} (h : K_Debts u k = r) : MetK l yX1_init cX1_init 1 2 (0 + 1 + (0 + 1) + 1 + (0 + 1)) (0 + 1 + (0 + 36) + 1 + (0 + 6)) Γ k u w (k + 1) [.ref (Γ.2.1 + k)] r (k + 5) := by
  unfold K_Debts at h
  refine w_startK pn_X1 (Nat.le_of_ble_eq_true rfl) fun p e s m args below meth c hx hb hml hret hlk hnm hts hown hK hP hz hS ls hl => ?_
  refine lv_aload_n hx hb dX1_init_0 rfl (lv_at hl 0 rfl) ?_
  refine W.objInit hx hb hown (hts _ xoX1_3) (hts _ xoi) (hts _ xoc) rfl (by rw [hml]; exact hl.1) rfl dX1_init_1 (Nat.le_of_ble_eq_true rfl) (Nat.le_of_ble_eq_true rfl) ?_
  refine lv_aload_n hx hb dX1_init_4 rfl (lv_at hl 0 rfl) ?_
  obtain ⟨u5, e5, h⟩ := bnd_e h
  refine w_new (n := (k + 1)) hx hb hts hown hK hP hS nX1_9 (show 0 + 1 ≤ 0 + 1 + (0 + 1) + 1 + (0 + 1) by omega) (show 0 + 1 ≤ 0 + 1 + (0 + 36) + 1 + (0 + 6) by omega) hz dX1_init_5 fun H1 hz hP hS => ?_
  have hP : Wd Γ u5.1 u5.2 w H1 := by rw [← e5]; exact hP
  have t2 : u5.1 (k + 1) = some (sO 6 [2]) := by rw [← e5]; exact up_eq _ _ _
  have t0 : u5.1 k = some (sO 1 [2, 2]) := (low_kO e5 (by omega)).1.trans t0
  refine lv_dup hx hb dX1_init_8 rfl ?_
  refine lv_bipush (v := 36) hx hb dX1_init_9 rfl ?_
  obtain ⟨u11, e11, h⟩ := bnd_e h
  refine w_cK (u := u5) (q := u11) (k := (k + 1)) (k0 := k) hx hb hml hts hown hK hP hS hz (i_Row (N := 36) t2 (Nat.le_of_ble_eq_true rfl) e11) kX7_init mX1_13 rfl rfl hl.1 (Nat.le_of_ble_eq_true rfl) ⟨Nat.le_of_ble_eq_true rfl, Nat.le_of_ble_eq_true rfl⟩ ⟨(show 0 + 1 + (0 + 1) ≤ 0 + 1 + (0 + 1) + 1 + (0 + 1) by omega), (show 0 + 1 + (0 + 36) ≤ 0 + 1 + (0 + 36) + 1 + (0 + 6) by omega)⟩ dX1_init_11 (by omega) fun H1 locs1 hz hP hS => ?_
  have t0 : u11.1 k = some (sO 1 [2, 2]) := (low_Row (q := k) e11 (by omega)).1.trans t0
  obtain ⟨u14, e14, h⟩ := bnd_e h
  refine w_putF (cd := (k + 4)) (y := 0) hx hb hts hown hK hP hS (Nat.le_refl _) FX1_16 hnm t0 rfl rfl rfl rfl dX1_init_14 fun H1 locs1 hq hP hS => ?_
  have hz := hq.trans hz
  have hP : Wd Γ u14.1 u14.2 w H1 := by rw [← e14]; exact hP
  have t0 : u14.1 k = some (sO 1 [(k + 4), 2]) := by rw [← e14]; exact up_eq _ _ _
  refine lv_aload_n hx hb dX1_init_17 rfl (lv_at hl 0 rfl) ?_
  obtain ⟨u18, e18, h⟩ := bnd_e h
  refine w_new (n := (k + 3)) hx hb hts hown hK hP hS nX1_9 (show 0 + 1 + (0 + 1) + 1 ≤ 0 + 1 + (0 + 1) + 1 + (0 + 1) by omega) (show 0 + 1 + (0 + 36) + 1 ≤ 0 + 1 + (0 + 36) + 1 + (0 + 6) by omega) hz dX1_init_18 fun H1 hz hP hS => ?_
  have hP : Wd Γ u18.1 u18.2 w H1 := by rw [← e18]; exact hP
  have t2 : u18.1 (k + 3) = some (sO 6 [2]) := by rw [← e18]; exact up_eq _ _ _
  have t0 : u18.1 k = some (sO 1 [(k + 4), 2]) := (low_kO e18 (by omega)).1.trans t0
  refine lv_dup hx hb dX1_init_21 rfl ?_
  refine lv_bipush (v := 6) hx hb dX1_init_22 rfl ?_
  obtain ⟨u24, e24, h⟩ := bnd_e h
  refine w_cK (u := u18) (q := u24) (k := (k + 3)) (k0 := k) hx hb hml hts hown hK hP hS hz (i_Row (N := 6) t2 (Nat.le_of_ble_eq_true rfl) e24) kX7_init mX1_13 rfl rfl hl.1 (Nat.le_of_ble_eq_true rfl) ⟨Nat.le_of_ble_eq_true rfl, Nat.le_of_ble_eq_true rfl⟩ ⟨(show 0 + 1 + (0 + 1) + 1 + (0 + 1) ≤ 0 + 1 + (0 + 1) + 1 + (0 + 1) by omega), (show 0 + 1 + (0 + 36) + 1 + (0 + 6) ≤ 0 + 1 + (0 + 36) + 1 + (0 + 6) by omega)⟩ dX1_init_24 (by omega) fun H1 locs1 hz hP hS => ?_
  have t0 : u24.1 k = some (sO 1 [(k + 4), 2]) := (low_Row (q := k) e24 (by omega)).1.trans t0
  obtain ⟨u27, e27, h⟩ := bnd_e h
  refine w_putF (cd := (k + 6)) (y := 0) hx hb hts hown hK hP hS (Nat.le_refl _) FX1_20 hnm t0 rfl rfl rfl rfl dX1_init_27 fun H1 locs1 hq hP hS => ?_
  have hz := hq.trans hz
  have hP : Wd Γ u27.1 u27.2 w H1 := by rw [← e27]; exact hP
  have t0 : u27.1 k = some (sO 1 [(k + 4), (k + 6)]) := by rw [← e27]; exact up_eq _ _ _
  subst h
  exact w_kret hx hb hret hlk hK hP hS hz dX1_init_30
def K_Stand (u : Sh × Va) (k : Nat) (kp : Nat) : Sh × Va := bnd (kR u k 7 [(kp + 3), 0, 0, 0, 0, 0, 2, 2, 2, 2, 2, 2, 2, 2, 2] 0 0) fun u6 => bnd (kR u6 k 7 [(kp + 3), 0, 0, 0, 0, 0, 2, 2, 2, 2, 2, 2, 2, 2, 2] 1 0) fun u11 => bnd (kR u11 k 7 [(kp + 3), 0, 0, 0, 0, 0, 2, 2, 2, 2, 2, 2, 2, 2, 2] 2 3) fun u16 => bnd (kO u16 (k + 1) 6 [2]) fun u20 => bnd (K_Row u20 (k + 1) 10) fun u26 => bnd (kR u26 k 7 [(kp + 3), 0, 0, 0, 0, 0, (k + 4), 2, 2, 2, 2, 2, 2, 2, 2] 6 0) fun u29 => bnd (kO u29 (k + 3) 6 [2]) fun u33 => bnd (K_Row u33 (k + 3) 10) fun u39 => bnd (kR u39 k 7 [(kp + 3), 0, 0, 0, 0, 0, (k + 4), (k + 6), 2, 2, 2, 2, 2, 2, 2] 7 0) fun u42 => bnd (kO u42 (k + 5) 6 [2]) fun u46 => bnd (K_Row u46 (k + 5) 10) fun u52 => bnd (kR u52 k 7 [(kp + 3), 0, 0, 0, 0, 0, (k + 4), (k + 6), (k + 8), 2, 2, 2, 2, 2, 2] 8 0) fun u55 => bnd (kO u55 (k + 7) 6 [2]) fun u59 => bnd (K_Row u59 (k + 7) 10) fun u65 => bnd (kR u65 k 7 [(kp + 3), 0, 0, 0, 0, 0, (k + 4), (k + 6), (k + 8), (k + 10), 2, 2, 2, 2, 2] 9 0) fun u68 => bnd (kO u68 (k + 9) 6 [2]) fun u72 => bnd (K_Row u72 (k + 9) 10) fun u78 => bnd (kR u78 k 7 [(kp + 3), 0, 0, 0, 0, 0, (k + 4), (k + 6), (k + 8), (k + 10), (k + 12), 2, 2, 2, 2] 10 0) fun u81 => bnd (kO u81 (k + 11) 6 [2]) fun u85 => bnd (K_Row u85 (k + 11) 6) fun u91 => bnd (kR u91 k 7 [(kp + 3), 0, 0, 0, 0, 0, (k + 4), (k + 6), (k + 8), (k + 10), (k + 12), (k + 14), 2, 2, 2] 11 0) fun u94 => bnd (kO u94 (k + 13) 1 [2, 2]) fun u98 => bnd (K_Debts u98 (k + 13)) fun u102 => bnd (kR u102 k 7 [(kp + 3), 0, 0, 0, 0, 0, (k + 4), (k + 6), (k + 8), (k + 10), (k + 12), (k + 14), (k + 16), 2, 2] 12 0) fun u105 => bnd (kO u105 (k + 18) 6 [2]) fun u109 => bnd (K_Row u109 (k + 18) 4) fun u114 => bnd (kR u114 k 7 [(kp + 3), 0, 0, 0, 0, 0, (k + 4), (k + 6), (k + 8), (k + 10), (k + 12), (k + 14), (k + 16), (k + 21), 2] 13 0) fun u117 => bnd (kO u117 (k + 20) 6 [2]) fun u121 => bnd (K_Row u121 (k + 20) 24) fun u127 => bnd (kR u127 k 7 [(kp + 3), 0, 0, 0, 0, 0, (k + 4), (k + 6), (k + 8), (k + 10), (k + 12), (k + 14), (k + 16), (k + 21), (k + 23)] 14 0) fun u130 => u130
theorem low_Stand {u r : Sh × Va} {k q : Nat} {kp : Nat} (h : K_Stand u k kp = r) (hq : q < k) : lowq q r u := by
  unfold K_Stand at h
  have lc : lowq q u u := ⟨rfl, rfl⟩
  obtain ⟨u6, e6, h⟩ := bnd_e h
  have lc := (low_kR (q := q) e6 (by omega)).tr lc
  obtain ⟨u11, e11, h⟩ := bnd_e h
  have lc := (low_kR (q := q) e11 (by omega)).tr lc
  obtain ⟨u16, e16, h⟩ := bnd_e h
  have lc := (low_kR (q := q) e16 (by omega)).tr lc
  obtain ⟨u20, e20, h⟩ := bnd_e h
  have lc := (low_kO (q := q) e20 (by omega)).tr lc
  obtain ⟨u26, e26, h⟩ := bnd_e h
  have lc := (low_Row (q := q) e26 (by omega)).tr lc
  obtain ⟨u29, e29, h⟩ := bnd_e h
  have lc := (low_kR (q := q) e29 (by omega)).tr lc
  obtain ⟨u33, e33, h⟩ := bnd_e h
  have lc := (low_kO (q := q) e33 (by omega)).tr lc
  obtain ⟨u39, e39, h⟩ := bnd_e h
  have lc := (low_Row (q := q) e39 (by omega)).tr lc
  obtain ⟨u42, e42, h⟩ := bnd_e h
  have lc := (low_kR (q := q) e42 (by omega)).tr lc
  obtain ⟨u46, e46, h⟩ := bnd_e h
  have lc := (low_kO (q := q) e46 (by omega)).tr lc
  obtain ⟨u52, e52, h⟩ := bnd_e h
  have lc := (low_Row (q := q) e52 (by omega)).tr lc
  obtain ⟨u55, e55, h⟩ := bnd_e h
  have lc := (low_kR (q := q) e55 (by omega)).tr lc
  obtain ⟨u59, e59, h⟩ := bnd_e h
  have lc := (low_kO (q := q) e59 (by omega)).tr lc
  obtain ⟨u65, e65, h⟩ := bnd_e h
  have lc := (low_Row (q := q) e65 (by omega)).tr lc
  obtain ⟨u68, e68, h⟩ := bnd_e h
  have lc := (low_kR (q := q) e68 (by omega)).tr lc
  obtain ⟨u72, e72, h⟩ := bnd_e h
  have lc := (low_kO (q := q) e72 (by omega)).tr lc
  obtain ⟨u78, e78, h⟩ := bnd_e h
  have lc := (low_Row (q := q) e78 (by omega)).tr lc
  obtain ⟨u81, e81, h⟩ := bnd_e h
  have lc := (low_kR (q := q) e81 (by omega)).tr lc
  obtain ⟨u85, e85, h⟩ := bnd_e h
  have lc := (low_kO (q := q) e85 (by omega)).tr lc
  obtain ⟨u91, e91, h⟩ := bnd_e h
  have lc := (low_Row (q := q) e91 (by omega)).tr lc
  obtain ⟨u94, e94, h⟩ := bnd_e h
  have lc := (low_kR (q := q) e94 (by omega)).tr lc
  obtain ⟨u98, e98, h⟩ := bnd_e h
  have lc := (low_kO (q := q) e98 (by omega)).tr lc
  obtain ⟨u102, e102, h⟩ := bnd_e h
  have lc := (low_Debts (q := q) e102 (by omega)).tr lc
  obtain ⟨u105, e105, h⟩ := bnd_e h
  have lc := (low_kR (q := q) e105 (by omega)).tr lc
  obtain ⟨u109, e109, h⟩ := bnd_e h
  have lc := (low_kO (q := q) e109 (by omega)).tr lc
  obtain ⟨u114, e114, h⟩ := bnd_e h
  have lc := (low_Row (q := q) e114 (by omega)).tr lc
  obtain ⟨u117, e117, h⟩ := bnd_e h
  have lc := (low_kR (q := q) e117 (by omega)).tr lc
  obtain ⟨u121, e121, h⟩ := bnd_e h
  have lc := (low_kO (q := q) e121 (by omega)).tr lc
  obtain ⟨u127, e127, h⟩ := bnd_e h
  have lc := (low_Row (q := q) e127 (by omega)).tr lc
  obtain ⟨u130, e130, h⟩ := bnd_e h
  have lc := (low_kR (q := q) e130 (by omega)).tr lc
  rw [← h]; exact lc
theorem i_Stand {l : Launch} {Γ : Cx} {u : Sh × Va} {w : Vl} {k : Nat} {kp : Nat} (t0 : u.1 k = some (sO 7 [2, 0, 0, 0, 0, 0, 2, 2, 2, 2, 2, 2, 2, 2, 2])) {r : Sh × Va} (h : K_Stand u k kp = r) : MetK l yX8_init cX8_init 2 3 (0 + 1 + (0 + 1) + 1 + (0 + 1) + 1 + (0 + 1) + 1 + (0 + 1) + 1 + (0 + 1) + 1 + (0 + 1) + 1 + (0 + 1 + (0 + 1) + 1 + (0 + 1)) + 1 + (0 + 1) + 1 + (0 + 1)) (0 + 1 + (0 + 10) + 1 + (0 + 10) + 1 + (0 + 10) + 1 + (0 + 10) + 1 + (0 + 10) + 1 + (0 + 6) + 2 + (0 + 1 + (0 + 36) + 1 + (0 + 6)) + 1 + (0 + 4) + 1 + (0 + 24)) Γ k u w (k + 1) [.ref (Γ.2.1 + k), .ref (Γ.2.1 + kp)] r (k + 22) := by
  unfold K_Stand at h
  refine w_startK pn_X8 (Nat.le_of_ble_eq_true rfl) fun p e s m args below meth c hx hb hml hret hlk hnm hts hown hK hP hz hS ls hl => ?_
  refine lv_aload_n hx hb dX8_init_0 rfl (lv_at hl 0 rfl) ?_
  refine W.objInit hx hb hown (hts _ xoX8_1) (hts _ xoi) (hts _ xoc) rfl (by rw [hml]; exact hl.1) rfl dX8_init_1 (Nat.le_of_ble_eq_true rfl) (Nat.le_of_ble_eq_true rfl) ?_
  refine lv_aload_n hx hb dX8_init_4 rfl (lv_at hl 0 rfl) ?_
  refine lv_aload_n hx hb dX8_init_5 rfl (lv_at hl 1 rfl) ?_
  obtain ⟨u6, e6, h⟩ := bnd_e h
  refine w_putF (cd := (kp + 3)) (y := 0) hx hb hts hown hK hP hS (Nat.le_refl _) FX8_7 hnm t0 rfl rfl rfl rfl dX8_init_6 fun H1 locs1 hq hP hS => ?_
  have hz := hq.trans hz
  have hP : Wd Γ u6.1 u6.2 w H1 := by rw [← e6]; exact hP
  have t0 : u6.1 k = some (sO 7 [(kp + 3), 0, 0, 0, 0, 0, 2, 2, 2, 2, 2, 2, 2, 2, 2]) := by rw [← e6]; exact up_eq _ _ _
  refine lv_aload_n hx hb dX8_init_9 rfl (lv_at hl 0 rfl) ?_
  refine lv_iconst (v := 0) hx hb dX8_init_10 rfl ?_
  obtain ⟨u11, e11, h⟩ := bnd_e h
  refine w_put (cd := 0) (y := 0) hx hb hts hown hK hP hS (Nat.le_refl _) fX8_13 t0 rfl rfl rfl rfl dX8_init_11 fun H1 locs1 hq hP hS => ?_
  have hz := hq.trans hz
  have hP : Wd Γ u11.1 u11.2 w H1 := by rw [← e11]; exact hP
  have t0 : u11.1 k = some (sO 7 [(kp + 3), 0, 0, 0, 0, 0, 2, 2, 2, 2, 2, 2, 2, 2, 2]) := by rw [← e11]; exact up_eq _ _ _
  refine lv_aload_n hx hb dX8_init_14 rfl (lv_at hl 0 rfl) ?_
  refine lv_iconst (v := 3) hx hb dX8_init_15 rfl ?_
  obtain ⟨u16, e16, h⟩ := bnd_e h
  refine w_put (cd := 0) (y := 3) hx hb hts hown hK hP hS (Nat.le_refl _) fX8_17 t0 rfl rfl rfl rfl dX8_init_16 fun H1 locs1 hq hP hS => ?_
  have hz := hq.trans hz
  have hP : Wd Γ u16.1 u16.2 w H1 := by rw [← e16]; exact hP
  have t0 : u16.1 k = some (sO 7 [(kp + 3), 0, 0, 0, 0, 0, 2, 2, 2, 2, 2, 2, 2, 2, 2]) := by rw [← e16]; exact up_eq _ _ _
  refine lv_aload_n hx hb dX8_init_19 rfl (lv_at hl 0 rfl) ?_
  obtain ⟨u20, e20, h⟩ := bnd_e h
  refine w_new (n := (k + 1)) hx hb hts hown hK hP hS nX8_20 (show 0 + 1 ≤ 0 + 1 + (0 + 1) + 1 + (0 + 1) + 1 + (0 + 1) + 1 + (0 + 1) + 1 + (0 + 1) + 1 + (0 + 1) + 1 + (0 + 1 + (0 + 1) + 1 + (0 + 1)) + 1 + (0 + 1) + 1 + (0 + 1) by omega) (show 0 + 1 ≤ 0 + 1 + (0 + 10) + 1 + (0 + 10) + 1 + (0 + 10) + 1 + (0 + 10) + 1 + (0 + 10) + 1 + (0 + 6) + 2 + (0 + 1 + (0 + 36) + 1 + (0 + 6)) + 1 + (0 + 4) + 1 + (0 + 24) by omega) hz dX8_init_20 fun H1 hz hP hS => ?_
  have hP : Wd Γ u20.1 u20.2 w H1 := by rw [← e20]; exact hP
  have t2 : u20.1 (k + 1) = some (sO 6 [2]) := by rw [← e20]; exact up_eq _ _ _
  have t0 : u20.1 k = some (sO 7 [(kp + 3), 0, 0, 0, 0, 0, 2, 2, 2, 2, 2, 2, 2, 2, 2]) := (low_kO e20 (by omega)).1.trans t0
  refine lv_dup hx hb dX8_init_23 rfl ?_
  refine lv_bipush (v := 10) hx hb dX8_init_24 rfl ?_
  obtain ⟨u26, e26, h⟩ := bnd_e h
  refine w_cK (u := u20) (q := u26) (k := (k + 1)) (k0 := k) hx hb hml hts hown hK hP hS hz (i_Row (N := 10) t2 (Nat.le_of_ble_eq_true rfl) e26) kX7_init mX8_24 rfl rfl hl.1 (Nat.le_of_ble_eq_true rfl) ⟨Nat.le_of_ble_eq_true rfl, Nat.le_of_ble_eq_true rfl⟩ ⟨(show 0 + 1 + (0 + 1) ≤ 0 + 1 + (0 + 1) + 1 + (0 + 1) + 1 + (0 + 1) + 1 + (0 + 1) + 1 + (0 + 1) + 1 + (0 + 1) + 1 + (0 + 1 + (0 + 1) + 1 + (0 + 1)) + 1 + (0 + 1) + 1 + (0 + 1) by omega), (show 0 + 1 + (0 + 10) ≤ 0 + 1 + (0 + 10) + 1 + (0 + 10) + 1 + (0 + 10) + 1 + (0 + 10) + 1 + (0 + 10) + 1 + (0 + 6) + 2 + (0 + 1 + (0 + 36) + 1 + (0 + 6)) + 1 + (0 + 4) + 1 + (0 + 24) by omega)⟩ dX8_init_26 (by omega) fun H1 locs1 hz hP hS => ?_
  have t0 : u26.1 k = some (sO 7 [(kp + 3), 0, 0, 0, 0, 0, 2, 2, 2, 2, 2, 2, 2, 2, 2]) := (low_Row (q := k) e26 (by omega)).1.trans t0
  obtain ⟨u29, e29, h⟩ := bnd_e h
  refine w_putF (cd := (k + 4)) (y := 0) hx hb hts hown hK hP hS (Nat.le_refl _) FX8_27 hnm t0 rfl rfl rfl rfl dX8_init_29 fun H1 locs1 hq hP hS => ?_
  have hz := hq.trans hz
  have hP : Wd Γ u29.1 u29.2 w H1 := by rw [← e29]; exact hP
  have t0 : u29.1 k = some (sO 7 [(kp + 3), 0, 0, 0, 0, 0, (k + 4), 2, 2, 2, 2, 2, 2, 2, 2]) := by rw [← e29]; exact up_eq _ _ _
  refine lv_aload_n hx hb dX8_init_32 rfl (lv_at hl 0 rfl) ?_
  obtain ⟨u33, e33, h⟩ := bnd_e h
  refine w_new (n := (k + 3)) hx hb hts hown hK hP hS nX8_20 (show 0 + 1 + (0 + 1) + 1 ≤ 0 + 1 + (0 + 1) + 1 + (0 + 1) + 1 + (0 + 1) + 1 + (0 + 1) + 1 + (0 + 1) + 1 + (0 + 1) + 1 + (0 + 1 + (0 + 1) + 1 + (0 + 1)) + 1 + (0 + 1) + 1 + (0 + 1) by omega) (show 0 + 1 + (0 + 10) + 1 ≤ 0 + 1 + (0 + 10) + 1 + (0 + 10) + 1 + (0 + 10) + 1 + (0 + 10) + 1 + (0 + 10) + 1 + (0 + 6) + 2 + (0 + 1 + (0 + 36) + 1 + (0 + 6)) + 1 + (0 + 4) + 1 + (0 + 24) by omega) hz dX8_init_33 fun H1 hz hP hS => ?_
  have hP : Wd Γ u33.1 u33.2 w H1 := by rw [← e33]; exact hP
  have t2 : u33.1 (k + 3) = some (sO 6 [2]) := by rw [← e33]; exact up_eq _ _ _
  have t0 : u33.1 k = some (sO 7 [(kp + 3), 0, 0, 0, 0, 0, (k + 4), 2, 2, 2, 2, 2, 2, 2, 2]) := (low_kO e33 (by omega)).1.trans t0
  refine lv_dup hx hb dX8_init_36 rfl ?_
  refine lv_bipush (v := 10) hx hb dX8_init_37 rfl ?_
  obtain ⟨u39, e39, h⟩ := bnd_e h
  refine w_cK (u := u33) (q := u39) (k := (k + 3)) (k0 := k) hx hb hml hts hown hK hP hS hz (i_Row (N := 10) t2 (Nat.le_of_ble_eq_true rfl) e39) kX7_init mX8_24 rfl rfl hl.1 (Nat.le_of_ble_eq_true rfl) ⟨Nat.le_of_ble_eq_true rfl, Nat.le_of_ble_eq_true rfl⟩ ⟨(show 0 + 1 + (0 + 1) + 1 + (0 + 1) ≤ 0 + 1 + (0 + 1) + 1 + (0 + 1) + 1 + (0 + 1) + 1 + (0 + 1) + 1 + (0 + 1) + 1 + (0 + 1) + 1 + (0 + 1 + (0 + 1) + 1 + (0 + 1)) + 1 + (0 + 1) + 1 + (0 + 1) by omega), (show 0 + 1 + (0 + 10) + 1 + (0 + 10) ≤ 0 + 1 + (0 + 10) + 1 + (0 + 10) + 1 + (0 + 10) + 1 + (0 + 10) + 1 + (0 + 10) + 1 + (0 + 6) + 2 + (0 + 1 + (0 + 36) + 1 + (0 + 6)) + 1 + (0 + 4) + 1 + (0 + 24) by omega)⟩ dX8_init_39 (by omega) fun H1 locs1 hz hP hS => ?_
  have t0 : u39.1 k = some (sO 7 [(kp + 3), 0, 0, 0, 0, 0, (k + 4), 2, 2, 2, 2, 2, 2, 2, 2]) := (low_Row (q := k) e39 (by omega)).1.trans t0
  obtain ⟨u42, e42, h⟩ := bnd_e h
  refine w_putF (cd := (k + 6)) (y := 0) hx hb hts hown hK hP hS (Nat.le_refl _) FX8_31 hnm t0 rfl rfl rfl rfl dX8_init_42 fun H1 locs1 hq hP hS => ?_
  have hz := hq.trans hz
  have hP : Wd Γ u42.1 u42.2 w H1 := by rw [← e42]; exact hP
  have t0 : u42.1 k = some (sO 7 [(kp + 3), 0, 0, 0, 0, 0, (k + 4), (k + 6), 2, 2, 2, 2, 2, 2, 2]) := by rw [← e42]; exact up_eq _ _ _
  refine lv_aload_n hx hb dX8_init_45 rfl (lv_at hl 0 rfl) ?_
  obtain ⟨u46, e46, h⟩ := bnd_e h
  refine w_new (n := (k + 5)) hx hb hts hown hK hP hS nX8_20 (show 0 + 1 + (0 + 1) + 1 + (0 + 1) + 1 ≤ 0 + 1 + (0 + 1) + 1 + (0 + 1) + 1 + (0 + 1) + 1 + (0 + 1) + 1 + (0 + 1) + 1 + (0 + 1) + 1 + (0 + 1 + (0 + 1) + 1 + (0 + 1)) + 1 + (0 + 1) + 1 + (0 + 1) by omega) (show 0 + 1 + (0 + 10) + 1 + (0 + 10) + 1 ≤ 0 + 1 + (0 + 10) + 1 + (0 + 10) + 1 + (0 + 10) + 1 + (0 + 10) + 1 + (0 + 10) + 1 + (0 + 6) + 2 + (0 + 1 + (0 + 36) + 1 + (0 + 6)) + 1 + (0 + 4) + 1 + (0 + 24) by omega) hz dX8_init_46 fun H1 hz hP hS => ?_
  have hP : Wd Γ u46.1 u46.2 w H1 := by rw [← e46]; exact hP
  have t2 : u46.1 (k + 5) = some (sO 6 [2]) := by rw [← e46]; exact up_eq _ _ _
  have t0 : u46.1 k = some (sO 7 [(kp + 3), 0, 0, 0, 0, 0, (k + 4), (k + 6), 2, 2, 2, 2, 2, 2, 2]) := (low_kO e46 (by omega)).1.trans t0
  refine lv_dup hx hb dX8_init_49 rfl ?_
  refine lv_bipush (v := 10) hx hb dX8_init_50 rfl ?_
  obtain ⟨u52, e52, h⟩ := bnd_e h
  refine w_cK (u := u46) (q := u52) (k := (k + 5)) (k0 := k) hx hb hml hts hown hK hP hS hz (i_Row (N := 10) t2 (Nat.le_of_ble_eq_true rfl) e52) kX7_init mX8_24 rfl rfl hl.1 (Nat.le_of_ble_eq_true rfl) ⟨Nat.le_of_ble_eq_true rfl, Nat.le_of_ble_eq_true rfl⟩ ⟨(show 0 + 1 + (0 + 1) + 1 + (0 + 1) + 1 + (0 + 1) ≤ 0 + 1 + (0 + 1) + 1 + (0 + 1) + 1 + (0 + 1) + 1 + (0 + 1) + 1 + (0 + 1) + 1 + (0 + 1) + 1 + (0 + 1 + (0 + 1) + 1 + (0 + 1)) + 1 + (0 + 1) + 1 + (0 + 1) by omega), (show 0 + 1 + (0 + 10) + 1 + (0 + 10) + 1 + (0 + 10) ≤ 0 + 1 + (0 + 10) + 1 + (0 + 10) + 1 + (0 + 10) + 1 + (0 + 10) + 1 + (0 + 10) + 1 + (0 + 6) + 2 + (0 + 1 + (0 + 36) + 1 + (0 + 6)) + 1 + (0 + 4) + 1 + (0 + 24) by omega)⟩ dX8_init_52 (by omega) fun H1 locs1 hz hP hS => ?_
  have t0 : u52.1 k = some (sO 7 [(kp + 3), 0, 0, 0, 0, 0, (k + 4), (k + 6), 2, 2, 2, 2, 2, 2, 2]) := (low_Row (q := k) e52 (by omega)).1.trans t0
  obtain ⟨u55, e55, h⟩ := bnd_e h
  refine w_putF (cd := (k + 8)) (y := 0) hx hb hts hown hK hP hS (Nat.le_refl _) FX8_34 hnm t0 rfl rfl rfl rfl dX8_init_55 fun H1 locs1 hq hP hS => ?_
  have hz := hq.trans hz
  have hP : Wd Γ u55.1 u55.2 w H1 := by rw [← e55]; exact hP
  have t0 : u55.1 k = some (sO 7 [(kp + 3), 0, 0, 0, 0, 0, (k + 4), (k + 6), (k + 8), 2, 2, 2, 2, 2, 2]) := by rw [← e55]; exact up_eq _ _ _
  refine lv_aload_n hx hb dX8_init_58 rfl (lv_at hl 0 rfl) ?_
  obtain ⟨u59, e59, h⟩ := bnd_e h
  refine w_new (n := (k + 7)) hx hb hts hown hK hP hS nX8_20 (show 0 + 1 + (0 + 1) + 1 + (0 + 1) + 1 + (0 + 1) + 1 ≤ 0 + 1 + (0 + 1) + 1 + (0 + 1) + 1 + (0 + 1) + 1 + (0 + 1) + 1 + (0 + 1) + 1 + (0 + 1) + 1 + (0 + 1 + (0 + 1) + 1 + (0 + 1)) + 1 + (0 + 1) + 1 + (0 + 1) by omega) (show 0 + 1 + (0 + 10) + 1 + (0 + 10) + 1 + (0 + 10) + 1 ≤ 0 + 1 + (0 + 10) + 1 + (0 + 10) + 1 + (0 + 10) + 1 + (0 + 10) + 1 + (0 + 10) + 1 + (0 + 6) + 2 + (0 + 1 + (0 + 36) + 1 + (0 + 6)) + 1 + (0 + 4) + 1 + (0 + 24) by omega) hz dX8_init_59 fun H1 hz hP hS => ?_
  have hP : Wd Γ u59.1 u59.2 w H1 := by rw [← e59]; exact hP
  have t2 : u59.1 (k + 7) = some (sO 6 [2]) := by rw [← e59]; exact up_eq _ _ _
  have t0 : u59.1 k = some (sO 7 [(kp + 3), 0, 0, 0, 0, 0, (k + 4), (k + 6), (k + 8), 2, 2, 2, 2, 2, 2]) := (low_kO e59 (by omega)).1.trans t0
  refine lv_dup hx hb dX8_init_62 rfl ?_
  refine lv_bipush (v := 10) hx hb dX8_init_63 rfl ?_
  obtain ⟨u65, e65, h⟩ := bnd_e h
  refine w_cK (u := u59) (q := u65) (k := (k + 7)) (k0 := k) hx hb hml hts hown hK hP hS hz (i_Row (N := 10) t2 (Nat.le_of_ble_eq_true rfl) e65) kX7_init mX8_24 rfl rfl hl.1 (Nat.le_of_ble_eq_true rfl) ⟨Nat.le_of_ble_eq_true rfl, Nat.le_of_ble_eq_true rfl⟩ ⟨(show 0 + 1 + (0 + 1) + 1 + (0 + 1) + 1 + (0 + 1) + 1 + (0 + 1) ≤ 0 + 1 + (0 + 1) + 1 + (0 + 1) + 1 + (0 + 1) + 1 + (0 + 1) + 1 + (0 + 1) + 1 + (0 + 1) + 1 + (0 + 1 + (0 + 1) + 1 + (0 + 1)) + 1 + (0 + 1) + 1 + (0 + 1) by omega), (show 0 + 1 + (0 + 10) + 1 + (0 + 10) + 1 + (0 + 10) + 1 + (0 + 10) ≤ 0 + 1 + (0 + 10) + 1 + (0 + 10) + 1 + (0 + 10) + 1 + (0 + 10) + 1 + (0 + 10) + 1 + (0 + 6) + 2 + (0 + 1 + (0 + 36) + 1 + (0 + 6)) + 1 + (0 + 4) + 1 + (0 + 24) by omega)⟩ dX8_init_65 (by omega) fun H1 locs1 hz hP hS => ?_
  have t0 : u65.1 k = some (sO 7 [(kp + 3), 0, 0, 0, 0, 0, (k + 4), (k + 6), (k + 8), 2, 2, 2, 2, 2, 2]) := (low_Row (q := k) e65 (by omega)).1.trans t0
  obtain ⟨u68, e68, h⟩ := bnd_e h
  refine w_putF (cd := (k + 10)) (y := 0) hx hb hts hown hK hP hS (Nat.le_refl _) FX8_37 hnm t0 rfl rfl rfl rfl dX8_init_68 fun H1 locs1 hq hP hS => ?_
  have hz := hq.trans hz
  have hP : Wd Γ u68.1 u68.2 w H1 := by rw [← e68]; exact hP
  have t0 : u68.1 k = some (sO 7 [(kp + 3), 0, 0, 0, 0, 0, (k + 4), (k + 6), (k + 8), (k + 10), 2, 2, 2, 2, 2]) := by rw [← e68]; exact up_eq _ _ _
  refine lv_aload_n hx hb dX8_init_71 rfl (lv_at hl 0 rfl) ?_
  obtain ⟨u72, e72, h⟩ := bnd_e h
  refine w_new (n := (k + 9)) hx hb hts hown hK hP hS nX8_20 (show 0 + 1 + (0 + 1) + 1 + (0 + 1) + 1 + (0 + 1) + 1 + (0 + 1) + 1 ≤ 0 + 1 + (0 + 1) + 1 + (0 + 1) + 1 + (0 + 1) + 1 + (0 + 1) + 1 + (0 + 1) + 1 + (0 + 1) + 1 + (0 + 1 + (0 + 1) + 1 + (0 + 1)) + 1 + (0 + 1) + 1 + (0 + 1) by omega) (show 0 + 1 + (0 + 10) + 1 + (0 + 10) + 1 + (0 + 10) + 1 + (0 + 10) + 1 ≤ 0 + 1 + (0 + 10) + 1 + (0 + 10) + 1 + (0 + 10) + 1 + (0 + 10) + 1 + (0 + 10) + 1 + (0 + 6) + 2 + (0 + 1 + (0 + 36) + 1 + (0 + 6)) + 1 + (0 + 4) + 1 + (0 + 24) by omega) hz dX8_init_72 fun H1 hz hP hS => ?_
  have hP : Wd Γ u72.1 u72.2 w H1 := by rw [← e72]; exact hP
  have t2 : u72.1 (k + 9) = some (sO 6 [2]) := by rw [← e72]; exact up_eq _ _ _
  have t0 : u72.1 k = some (sO 7 [(kp + 3), 0, 0, 0, 0, 0, (k + 4), (k + 6), (k + 8), (k + 10), 2, 2, 2, 2, 2]) := (low_kO e72 (by omega)).1.trans t0
  refine lv_dup hx hb dX8_init_75 rfl ?_
  refine lv_bipush (v := 10) hx hb dX8_init_76 rfl ?_
  obtain ⟨u78, e78, h⟩ := bnd_e h
  refine w_cK (u := u72) (q := u78) (k := (k + 9)) (k0 := k) hx hb hml hts hown hK hP hS hz (i_Row (N := 10) t2 (Nat.le_of_ble_eq_true rfl) e78) kX7_init mX8_24 rfl rfl hl.1 (Nat.le_of_ble_eq_true rfl) ⟨Nat.le_of_ble_eq_true rfl, Nat.le_of_ble_eq_true rfl⟩ ⟨(show 0 + 1 + (0 + 1) + 1 + (0 + 1) + 1 + (0 + 1) + 1 + (0 + 1) + 1 + (0 + 1) ≤ 0 + 1 + (0 + 1) + 1 + (0 + 1) + 1 + (0 + 1) + 1 + (0 + 1) + 1 + (0 + 1) + 1 + (0 + 1) + 1 + (0 + 1 + (0 + 1) + 1 + (0 + 1)) + 1 + (0 + 1) + 1 + (0 + 1) by omega), (show 0 + 1 + (0 + 10) + 1 + (0 + 10) + 1 + (0 + 10) + 1 + (0 + 10) + 1 + (0 + 10) ≤ 0 + 1 + (0 + 10) + 1 + (0 + 10) + 1 + (0 + 10) + 1 + (0 + 10) + 1 + (0 + 10) + 1 + (0 + 6) + 2 + (0 + 1 + (0 + 36) + 1 + (0 + 6)) + 1 + (0 + 4) + 1 + (0 + 24) by omega)⟩ dX8_init_78 (by omega) fun H1 locs1 hz hP hS => ?_
  have t0 : u78.1 k = some (sO 7 [(kp + 3), 0, 0, 0, 0, 0, (k + 4), (k + 6), (k + 8), (k + 10), 2, 2, 2, 2, 2]) := (low_Row (q := k) e78 (by omega)).1.trans t0
  obtain ⟨u81, e81, h⟩ := bnd_e h
  refine w_putF (cd := (k + 12)) (y := 0) hx hb hts hown hK hP hS (Nat.le_refl _) FX8_40 hnm t0 rfl rfl rfl rfl dX8_init_81 fun H1 locs1 hq hP hS => ?_
  have hz := hq.trans hz
  have hP : Wd Γ u81.1 u81.2 w H1 := by rw [← e81]; exact hP
  have t0 : u81.1 k = some (sO 7 [(kp + 3), 0, 0, 0, 0, 0, (k + 4), (k + 6), (k + 8), (k + 10), (k + 12), 2, 2, 2, 2]) := by rw [← e81]; exact up_eq _ _ _
  refine lv_aload_n hx hb dX8_init_84 rfl (lv_at hl 0 rfl) ?_
  obtain ⟨u85, e85, h⟩ := bnd_e h
  refine w_new (n := (k + 11)) hx hb hts hown hK hP hS nX8_20 (show 0 + 1 + (0 + 1) + 1 + (0 + 1) + 1 + (0 + 1) + 1 + (0 + 1) + 1 + (0 + 1) + 1 ≤ 0 + 1 + (0 + 1) + 1 + (0 + 1) + 1 + (0 + 1) + 1 + (0 + 1) + 1 + (0 + 1) + 1 + (0 + 1) + 1 + (0 + 1 + (0 + 1) + 1 + (0 + 1)) + 1 + (0 + 1) + 1 + (0 + 1) by omega) (show 0 + 1 + (0 + 10) + 1 + (0 + 10) + 1 + (0 + 10) + 1 + (0 + 10) + 1 + (0 + 10) + 1 ≤ 0 + 1 + (0 + 10) + 1 + (0 + 10) + 1 + (0 + 10) + 1 + (0 + 10) + 1 + (0 + 10) + 1 + (0 + 6) + 2 + (0 + 1 + (0 + 36) + 1 + (0 + 6)) + 1 + (0 + 4) + 1 + (0 + 24) by omega) hz dX8_init_85 fun H1 hz hP hS => ?_
  have hP : Wd Γ u85.1 u85.2 w H1 := by rw [← e85]; exact hP
  have t2 : u85.1 (k + 11) = some (sO 6 [2]) := by rw [← e85]; exact up_eq _ _ _
  have t0 : u85.1 k = some (sO 7 [(kp + 3), 0, 0, 0, 0, 0, (k + 4), (k + 6), (k + 8), (k + 10), (k + 12), 2, 2, 2, 2]) := (low_kO e85 (by omega)).1.trans t0
  refine lv_dup hx hb dX8_init_88 rfl ?_
  refine lv_bipush (v := 6) hx hb dX8_init_89 rfl ?_
  obtain ⟨u91, e91, h⟩ := bnd_e h
  refine w_cK (u := u85) (q := u91) (k := (k + 11)) (k0 := k) hx hb hml hts hown hK hP hS hz (i_Row (N := 6) t2 (Nat.le_of_ble_eq_true rfl) e91) kX7_init mX8_24 rfl rfl hl.1 (Nat.le_of_ble_eq_true rfl) ⟨Nat.le_of_ble_eq_true rfl, Nat.le_of_ble_eq_true rfl⟩ ⟨(show 0 + 1 + (0 + 1) + 1 + (0 + 1) + 1 + (0 + 1) + 1 + (0 + 1) + 1 + (0 + 1) + 1 + (0 + 1) ≤ 0 + 1 + (0 + 1) + 1 + (0 + 1) + 1 + (0 + 1) + 1 + (0 + 1) + 1 + (0 + 1) + 1 + (0 + 1) + 1 + (0 + 1 + (0 + 1) + 1 + (0 + 1)) + 1 + (0 + 1) + 1 + (0 + 1) by omega), (show 0 + 1 + (0 + 10) + 1 + (0 + 10) + 1 + (0 + 10) + 1 + (0 + 10) + 1 + (0 + 10) + 1 + (0 + 6) ≤ 0 + 1 + (0 + 10) + 1 + (0 + 10) + 1 + (0 + 10) + 1 + (0 + 10) + 1 + (0 + 10) + 1 + (0 + 6) + 2 + (0 + 1 + (0 + 36) + 1 + (0 + 6)) + 1 + (0 + 4) + 1 + (0 + 24) by omega)⟩ dX8_init_91 (by omega) fun H1 locs1 hz hP hS => ?_
  have t0 : u91.1 k = some (sO 7 [(kp + 3), 0, 0, 0, 0, 0, (k + 4), (k + 6), (k + 8), (k + 10), (k + 12), 2, 2, 2, 2]) := (low_Row (q := k) e91 (by omega)).1.trans t0
  obtain ⟨u94, e94, h⟩ := bnd_e h
  refine w_putF (cd := (k + 14)) (y := 0) hx hb hts hown hK hP hS (Nat.le_refl _) FX8_43 hnm t0 rfl rfl rfl rfl dX8_init_94 fun H1 locs1 hq hP hS => ?_
  have hz := hq.trans hz
  have hP : Wd Γ u94.1 u94.2 w H1 := by rw [← e94]; exact hP
  have t0 : u94.1 k = some (sO 7 [(kp + 3), 0, 0, 0, 0, 0, (k + 4), (k + 6), (k + 8), (k + 10), (k + 12), (k + 14), 2, 2, 2]) := by rw [← e94]; exact up_eq _ _ _
  refine lv_aload_n hx hb dX8_init_97 rfl (lv_at hl 0 rfl) ?_
  obtain ⟨u98, e98, h⟩ := bnd_e h
  refine w_new (n := (k + 13)) hx hb hts hown hK hP hS nX8_46 (show 0 + 1 + (0 + 1) + 1 + (0 + 1) + 1 + (0 + 1) + 1 + (0 + 1) + 1 + (0 + 1) + 1 + (0 + 1) + 1 ≤ 0 + 1 + (0 + 1) + 1 + (0 + 1) + 1 + (0 + 1) + 1 + (0 + 1) + 1 + (0 + 1) + 1 + (0 + 1) + 1 + (0 + 1 + (0 + 1) + 1 + (0 + 1)) + 1 + (0 + 1) + 1 + (0 + 1) by omega) (show 0 + 1 + (0 + 10) + 1 + (0 + 10) + 1 + (0 + 10) + 1 + (0 + 10) + 1 + (0 + 10) + 1 + (0 + 6) + 2 ≤ 0 + 1 + (0 + 10) + 1 + (0 + 10) + 1 + (0 + 10) + 1 + (0 + 10) + 1 + (0 + 10) + 1 + (0 + 6) + 2 + (0 + 1 + (0 + 36) + 1 + (0 + 6)) + 1 + (0 + 4) + 1 + (0 + 24) by omega) hz dX8_init_98 fun H1 hz hP hS => ?_
  have hP : Wd Γ u98.1 u98.2 w H1 := by rw [← e98]; exact hP
  have t2 : u98.1 (k + 13) = some (sO 1 [2, 2]) := by rw [← e98]; exact up_eq _ _ _
  have t0 : u98.1 k = some (sO 7 [(kp + 3), 0, 0, 0, 0, 0, (k + 4), (k + 6), (k + 8), (k + 10), (k + 12), (k + 14), 2, 2, 2]) := (low_kO e98 (by omega)).1.trans t0
  refine lv_dup hx hb dX8_init_101 rfl ?_
  obtain ⟨u102, e102, h⟩ := bnd_e h
  refine w_cK (u := u98) (q := u102) (k := (k + 13)) (k0 := k) hx hb hml hts hown hK hP hS hz (i_Debts t2 e102) kX1_init mX8_48 rfl rfl hl.1 (Nat.le_of_ble_eq_true rfl) ⟨Nat.le_of_ble_eq_true rfl, Nat.le_of_ble_eq_true rfl⟩ ⟨(show 0 + 1 + (0 + 1) + 1 + (0 + 1) + 1 + (0 + 1) + 1 + (0 + 1) + 1 + (0 + 1) + 1 + (0 + 1) + 1 + (0 + 1 + (0 + 1) + 1 + (0 + 1)) ≤ 0 + 1 + (0 + 1) + 1 + (0 + 1) + 1 + (0 + 1) + 1 + (0 + 1) + 1 + (0 + 1) + 1 + (0 + 1) + 1 + (0 + 1 + (0 + 1) + 1 + (0 + 1)) + 1 + (0 + 1) + 1 + (0 + 1) by omega), (show 0 + 1 + (0 + 10) + 1 + (0 + 10) + 1 + (0 + 10) + 1 + (0 + 10) + 1 + (0 + 10) + 1 + (0 + 6) + 2 + (0 + 1 + (0 + 36) + 1 + (0 + 6)) ≤ 0 + 1 + (0 + 10) + 1 + (0 + 10) + 1 + (0 + 10) + 1 + (0 + 10) + 1 + (0 + 10) + 1 + (0 + 6) + 2 + (0 + 1 + (0 + 36) + 1 + (0 + 6)) + 1 + (0 + 4) + 1 + (0 + 24) by omega)⟩ dX8_init_102 (by omega) fun H1 locs1 hz hP hS => ?_
  have t0 : u102.1 k = some (sO 7 [(kp + 3), 0, 0, 0, 0, 0, (k + 4), (k + 6), (k + 8), (k + 10), (k + 12), (k + 14), 2, 2, 2]) := (low_Debts (q := k) e102 (by omega)).1.trans t0
  obtain ⟨u105, e105, h⟩ := bnd_e h
  refine w_putF (cd := (k + 16)) (y := 0) hx hb hts hown hK hP hS (Nat.le_refl _) FX8_49 hnm t0 rfl rfl rfl rfl dX8_init_105 fun H1 locs1 hq hP hS => ?_
  have hz := hq.trans hz
  have hP : Wd Γ u105.1 u105.2 w H1 := by rw [← e105]; exact hP
  have t0 : u105.1 k = some (sO 7 [(kp + 3), 0, 0, 0, 0, 0, (k + 4), (k + 6), (k + 8), (k + 10), (k + 12), (k + 14), (k + 16), 2, 2]) := by rw [← e105]; exact up_eq _ _ _
  refine lv_aload_n hx hb dX8_init_108 rfl (lv_at hl 0 rfl) ?_
  obtain ⟨u109, e109, h⟩ := bnd_e h
  refine w_new (n := (k + 18)) hx hb hts hown hK hP hS nX8_20 (show 0 + 1 + (0 + 1) + 1 + (0 + 1) + 1 + (0 + 1) + 1 + (0 + 1) + 1 + (0 + 1) + 1 + (0 + 1) + 1 + (0 + 1 + (0 + 1) + 1 + (0 + 1)) + 1 ≤ 0 + 1 + (0 + 1) + 1 + (0 + 1) + 1 + (0 + 1) + 1 + (0 + 1) + 1 + (0 + 1) + 1 + (0 + 1) + 1 + (0 + 1 + (0 + 1) + 1 + (0 + 1)) + 1 + (0 + 1) + 1 + (0 + 1) by omega) (show 0 + 1 + (0 + 10) + 1 + (0 + 10) + 1 + (0 + 10) + 1 + (0 + 10) + 1 + (0 + 10) + 1 + (0 + 6) + 2 + (0 + 1 + (0 + 36) + 1 + (0 + 6)) + 1 ≤ 0 + 1 + (0 + 10) + 1 + (0 + 10) + 1 + (0 + 10) + 1 + (0 + 10) + 1 + (0 + 10) + 1 + (0 + 6) + 2 + (0 + 1 + (0 + 36) + 1 + (0 + 6)) + 1 + (0 + 4) + 1 + (0 + 24) by omega) hz dX8_init_109 fun H1 hz hP hS => ?_
  have hP : Wd Γ u109.1 u109.2 w H1 := by rw [← e109]; exact hP
  have t2 : u109.1 (k + 18) = some (sO 6 [2]) := by rw [← e109]; exact up_eq _ _ _
  have t0 : u109.1 k = some (sO 7 [(kp + 3), 0, 0, 0, 0, 0, (k + 4), (k + 6), (k + 8), (k + 10), (k + 12), (k + 14), (k + 16), 2, 2]) := (low_kO e109 (by omega)).1.trans t0
  refine lv_dup hx hb dX8_init_112 rfl ?_
  refine lv_iconst (v := 4) hx hb dX8_init_113 rfl ?_
  obtain ⟨u114, e114, h⟩ := bnd_e h
  refine w_cK (u := u109) (q := u114) (k := (k + 18)) (k0 := k) hx hb hml hts hown hK hP hS hz (i_Row (N := 4) t2 (Nat.le_of_ble_eq_true rfl) e114) kX7_init mX8_24 rfl rfl hl.1 (Nat.le_of_ble_eq_true rfl) ⟨Nat.le_of_ble_eq_true rfl, Nat.le_of_ble_eq_true rfl⟩ ⟨(show 0 + 1 + (0 + 1) + 1 + (0 + 1) + 1 + (0 + 1) + 1 + (0 + 1) + 1 + (0 + 1) + 1 + (0 + 1) + 1 + (0 + 1 + (0 + 1) + 1 + (0 + 1)) + 1 + (0 + 1) ≤ 0 + 1 + (0 + 1) + 1 + (0 + 1) + 1 + (0 + 1) + 1 + (0 + 1) + 1 + (0 + 1) + 1 + (0 + 1) + 1 + (0 + 1 + (0 + 1) + 1 + (0 + 1)) + 1 + (0 + 1) + 1 + (0 + 1) by omega), (show 0 + 1 + (0 + 10) + 1 + (0 + 10) + 1 + (0 + 10) + 1 + (0 + 10) + 1 + (0 + 10) + 1 + (0 + 6) + 2 + (0 + 1 + (0 + 36) + 1 + (0 + 6)) + 1 + (0 + 4) ≤ 0 + 1 + (0 + 10) + 1 + (0 + 10) + 1 + (0 + 10) + 1 + (0 + 10) + 1 + (0 + 10) + 1 + (0 + 6) + 2 + (0 + 1 + (0 + 36) + 1 + (0 + 6)) + 1 + (0 + 4) + 1 + (0 + 24) by omega)⟩ dX8_init_114 (by omega) fun H1 locs1 hz hP hS => ?_
  have t0 : u114.1 k = some (sO 7 [(kp + 3), 0, 0, 0, 0, 0, (k + 4), (k + 6), (k + 8), (k + 10), (k + 12), (k + 14), (k + 16), 2, 2]) := (low_Row (q := k) e114 (by omega)).1.trans t0
  obtain ⟨u117, e117, h⟩ := bnd_e h
  refine w_putF (cd := (k + 21)) (y := 0) hx hb hts hown hK hP hS (Nat.le_refl _) FX8_53 hnm t0 rfl rfl rfl rfl dX8_init_117 fun H1 locs1 hq hP hS => ?_
  have hz := hq.trans hz
  have hP : Wd Γ u117.1 u117.2 w H1 := by rw [← e117]; exact hP
  have t0 : u117.1 k = some (sO 7 [(kp + 3), 0, 0, 0, 0, 0, (k + 4), (k + 6), (k + 8), (k + 10), (k + 12), (k + 14), (k + 16), (k + 21), 2]) := by rw [← e117]; exact up_eq _ _ _
  refine lv_aload_n hx hb dX8_init_120 rfl (lv_at hl 0 rfl) ?_
  obtain ⟨u121, e121, h⟩ := bnd_e h
  refine w_new (n := (k + 20)) hx hb hts hown hK hP hS nX8_20 (show 0 + 1 + (0 + 1) + 1 + (0 + 1) + 1 + (0 + 1) + 1 + (0 + 1) + 1 + (0 + 1) + 1 + (0 + 1) + 1 + (0 + 1 + (0 + 1) + 1 + (0 + 1)) + 1 + (0 + 1) + 1 ≤ 0 + 1 + (0 + 1) + 1 + (0 + 1) + 1 + (0 + 1) + 1 + (0 + 1) + 1 + (0 + 1) + 1 + (0 + 1) + 1 + (0 + 1 + (0 + 1) + 1 + (0 + 1)) + 1 + (0 + 1) + 1 + (0 + 1) by omega) (show 0 + 1 + (0 + 10) + 1 + (0 + 10) + 1 + (0 + 10) + 1 + (0 + 10) + 1 + (0 + 10) + 1 + (0 + 6) + 2 + (0 + 1 + (0 + 36) + 1 + (0 + 6)) + 1 + (0 + 4) + 1 ≤ 0 + 1 + (0 + 10) + 1 + (0 + 10) + 1 + (0 + 10) + 1 + (0 + 10) + 1 + (0 + 10) + 1 + (0 + 6) + 2 + (0 + 1 + (0 + 36) + 1 + (0 + 6)) + 1 + (0 + 4) + 1 + (0 + 24) by omega) hz dX8_init_121 fun H1 hz hP hS => ?_
  have hP : Wd Γ u121.1 u121.2 w H1 := by rw [← e121]; exact hP
  have t2 : u121.1 (k + 20) = some (sO 6 [2]) := by rw [← e121]; exact up_eq _ _ _
  have t0 : u121.1 k = some (sO 7 [(kp + 3), 0, 0, 0, 0, 0, (k + 4), (k + 6), (k + 8), (k + 10), (k + 12), (k + 14), (k + 16), (k + 21), 2]) := (low_kO e121 (by omega)).1.trans t0
  refine lv_dup hx hb dX8_init_124 rfl ?_
  refine lv_bipush (v := 24) hx hb dX8_init_125 rfl ?_
  obtain ⟨u127, e127, h⟩ := bnd_e h
  refine w_cK (u := u121) (q := u127) (k := (k + 20)) (k0 := k) hx hb hml hts hown hK hP hS hz (i_Row (N := 24) t2 (Nat.le_of_ble_eq_true rfl) e127) kX7_init mX8_24 rfl rfl hl.1 (Nat.le_of_ble_eq_true rfl) ⟨Nat.le_of_ble_eq_true rfl, Nat.le_of_ble_eq_true rfl⟩ ⟨(show 0 + 1 + (0 + 1) + 1 + (0 + 1) + 1 + (0 + 1) + 1 + (0 + 1) + 1 + (0 + 1) + 1 + (0 + 1) + 1 + (0 + 1 + (0 + 1) + 1 + (0 + 1)) + 1 + (0 + 1) + 1 + (0 + 1) ≤ 0 + 1 + (0 + 1) + 1 + (0 + 1) + 1 + (0 + 1) + 1 + (0 + 1) + 1 + (0 + 1) + 1 + (0 + 1) + 1 + (0 + 1 + (0 + 1) + 1 + (0 + 1)) + 1 + (0 + 1) + 1 + (0 + 1) by omega), (show 0 + 1 + (0 + 10) + 1 + (0 + 10) + 1 + (0 + 10) + 1 + (0 + 10) + 1 + (0 + 10) + 1 + (0 + 6) + 2 + (0 + 1 + (0 + 36) + 1 + (0 + 6)) + 1 + (0 + 4) + 1 + (0 + 24) ≤ 0 + 1 + (0 + 10) + 1 + (0 + 10) + 1 + (0 + 10) + 1 + (0 + 10) + 1 + (0 + 10) + 1 + (0 + 6) + 2 + (0 + 1 + (0 + 36) + 1 + (0 + 6)) + 1 + (0 + 4) + 1 + (0 + 24) by omega)⟩ dX8_init_127 (by omega) fun H1 locs1 hz hP hS => ?_
  have t0 : u127.1 k = some (sO 7 [(kp + 3), 0, 0, 0, 0, 0, (k + 4), (k + 6), (k + 8), (k + 10), (k + 12), (k + 14), (k + 16), (k + 21), 2]) := (low_Row (q := k) e127 (by omega)).1.trans t0
  obtain ⟨u130, e130, h⟩ := bnd_e h
  refine w_putF (cd := (k + 23)) (y := 0) hx hb hts hown hK hP hS (Nat.le_refl _) FX8_56 hnm t0 rfl rfl rfl rfl dX8_init_130 fun H1 locs1 hq hP hS => ?_
  have hz := hq.trans hz
  have hP : Wd Γ u130.1 u130.2 w H1 := by rw [← e130]; exact hP
  have t0 : u130.1 k = some (sO 7 [(kp + 3), 0, 0, 0, 0, 0, (k + 4), (k + 6), (k + 8), (k + 10), (k + 12), (k + 14), (k + 16), (k + 21), (k + 23)]) := by rw [← e130]; exact up_eq _ _ _
  subst h
  exact w_kret hx hb hret hlk hK hP hS hz dX8_init_133
def K_Tokens (u : Sh × Va) (k : Nat) (kt : Nat) : Sh × Va := bnd (kR u k 9 [(kt + 3), 0, 0, 2, 2, 2, 2] 0 0) fun u6 => bnd (kO u6 (k + 1) 6 [2]) fun u10 => bnd (K_Row u10 (k + 1) 401) fun u17 => bnd (kR u17 k 9 [(kt + 3), 0, 0, (k + 4), 2, 2, 2] 3 0) fun u20 => bnd (kO u20 (k + 3) 6 [2]) fun u24 => bnd (K_Row u24 (k + 3) 401) fun u31 => bnd (kR u31 k 9 [(kt + 3), 0, 0, (k + 4), (k + 6), 2, 2] 4 0) fun u34 => bnd (kO u34 (k + 5) 6 [2]) fun u38 => bnd (K_Row u38 (k + 5) 401) fun u45 => bnd (kR u45 k 9 [(kt + 3), 0, 0, (k + 4), (k + 6), (k + 8), 2] 5 0) fun u48 => bnd (kO u48 (k + 7) 6 [2]) fun u52 => bnd (K_Row u52 (k + 7) 401) fun u59 => bnd (kR u59 k 9 [(kt + 3), 0, 0, (k + 4), (k + 6), (k + 8), (k + 10)] 6 0) fun u62 => bnd (kR u62 k 9 [(kt + 3), 0, 0, (k + 4), (k + 6), (k + 8), (k + 10)] 1 0) fun u67 => bnd (kR u67 k 9 [(kt + 3), 0, 0, (k + 4), (k + 6), (k + 8), (k + 10)] 2 0) fun u72 => u72
theorem low_Tokens {u r : Sh × Va} {k q : Nat} {kt : Nat} (h : K_Tokens u k kt = r) (hq : q < k) : lowq q r u := by
  unfold K_Tokens at h
  have lc : lowq q u u := ⟨rfl, rfl⟩
  obtain ⟨u6, e6, h⟩ := bnd_e h
  have lc := (low_kR (q := q) e6 (by omega)).tr lc
  obtain ⟨u10, e10, h⟩ := bnd_e h
  have lc := (low_kO (q := q) e10 (by omega)).tr lc
  obtain ⟨u17, e17, h⟩ := bnd_e h
  have lc := (low_Row (q := q) e17 (by omega)).tr lc
  obtain ⟨u20, e20, h⟩ := bnd_e h
  have lc := (low_kR (q := q) e20 (by omega)).tr lc
  obtain ⟨u24, e24, h⟩ := bnd_e h
  have lc := (low_kO (q := q) e24 (by omega)).tr lc
  obtain ⟨u31, e31, h⟩ := bnd_e h
  have lc := (low_Row (q := q) e31 (by omega)).tr lc
  obtain ⟨u34, e34, h⟩ := bnd_e h
  have lc := (low_kR (q := q) e34 (by omega)).tr lc
  obtain ⟨u38, e38, h⟩ := bnd_e h
  have lc := (low_kO (q := q) e38 (by omega)).tr lc
  obtain ⟨u45, e45, h⟩ := bnd_e h
  have lc := (low_Row (q := q) e45 (by omega)).tr lc
  obtain ⟨u48, e48, h⟩ := bnd_e h
  have lc := (low_kR (q := q) e48 (by omega)).tr lc
  obtain ⟨u52, e52, h⟩ := bnd_e h
  have lc := (low_kO (q := q) e52 (by omega)).tr lc
  obtain ⟨u59, e59, h⟩ := bnd_e h
  have lc := (low_Row (q := q) e59 (by omega)).tr lc
  obtain ⟨u62, e62, h⟩ := bnd_e h
  have lc := (low_kR (q := q) e62 (by omega)).tr lc
  obtain ⟨u67, e67, h⟩ := bnd_e h
  have lc := (low_kR (q := q) e67 (by omega)).tr lc
  obtain ⟨u72, e72, h⟩ := bnd_e h
  have lc := (low_kR (q := q) e72 (by omega)).tr lc
  rw [← h]; exact lc
theorem i_Tokens {l : Launch} {Γ : Cx} {u : Sh × Va} {w : Vl} {k : Nat} {kt : Nat} (t0 : u.1 k = some (sO 9 [2, 0, 0, 2, 2, 2, 2])) {r : Sh × Va} (h : K_Tokens u k kt = r) : MetK l yX10_init cX10_init 2 2 (0 + 1 + (0 + 1) + 1 + (0 + 1) + 1 + (0 + 1) + 1 + (0 + 1)) (0 + 1 + (0 + 401) + 1 + (0 + 401) + 1 + (0 + 401) + 1 + (0 + 401)) Γ k u w (k + 1) [.ref (Γ.2.1 + k), .ref (Γ.2.1 + kt)] r (k + 9) := by
  unfold K_Tokens at h
  refine w_startK pn_X10 (Nat.le_of_ble_eq_true rfl) fun p e s m args below meth c hx hb hml hret hlk hnm hts hown hK hP hz hS ls hl => ?_
  refine lv_aload_n hx hb dX10_init_0 rfl (lv_at hl 0 rfl) ?_
  refine W.objInit hx hb hown (hts _ xoX10_1) (hts _ xoi) (hts _ xoc) rfl (by rw [hml]; exact hl.1) rfl dX10_init_1 (Nat.le_of_ble_eq_true rfl) (Nat.le_of_ble_eq_true rfl) ?_
  refine lv_aload_n hx hb dX10_init_4 rfl (lv_at hl 0 rfl) ?_
  refine lv_aload_n hx hb dX10_init_5 rfl (lv_at hl 1 rfl) ?_
  obtain ⟨u6, e6, h⟩ := bnd_e h
  refine w_putF (cd := (kt + 3)) (y := 0) hx hb hts hown hK hP hS (Nat.le_refl _) FX10_7 hnm t0 rfl rfl rfl rfl dX10_init_6 fun H1 locs1 hq hP hS => ?_
  have hz := hq.trans hz
  have hP : Wd Γ u6.1 u6.2 w H1 := by rw [← e6]; exact hP
  have t0 : u6.1 k = some (sO 9 [(kt + 3), 0, 0, 2, 2, 2, 2]) := by rw [← e6]; exact up_eq _ _ _
  refine lv_aload_n hx hb dX10_init_9 rfl (lv_at hl 0 rfl) ?_
  obtain ⟨u10, e10, h⟩ := bnd_e h
  refine w_new (n := (k + 1)) hx hb hts hown hK hP hS nX10_13 (show 0 + 1 ≤ 0 + 1 + (0 + 1) + 1 + (0 + 1) + 1 + (0 + 1) + 1 + (0 + 1) by omega) (show 0 + 1 ≤ 0 + 1 + (0 + 401) + 1 + (0 + 401) + 1 + (0 + 401) + 1 + (0 + 401) by omega) hz dX10_init_10 fun H1 hz hP hS => ?_
  have hP : Wd Γ u10.1 u10.2 w H1 := by rw [← e10]; exact hP
  have t2 : u10.1 (k + 1) = some (sO 6 [2]) := by rw [← e10]; exact up_eq _ _ _
  have t0 : u10.1 k = some (sO 9 [(kt + 3), 0, 0, 2, 2, 2, 2]) := (low_kO e10 (by omega)).1.trans t0
  refine lv_dup hx hb dX10_init_13 rfl ?_
  refine lv_sipush (v := 401) hx hb dX10_init_14 rfl ?_
  obtain ⟨u17, e17, h⟩ := bnd_e h
  refine w_cK (u := u10) (q := u17) (k := (k + 1)) (k0 := k) hx hb hml hts hown hK hP hS hz (i_Row (N := 401) t2 (Nat.le_of_ble_eq_true rfl) e17) kX7_init mX10_15 rfl rfl hl.1 (Nat.le_of_ble_eq_true rfl) ⟨Nat.le_of_ble_eq_true rfl, Nat.le_of_ble_eq_true rfl⟩ ⟨(show 0 + 1 + (0 + 1) ≤ 0 + 1 + (0 + 1) + 1 + (0 + 1) + 1 + (0 + 1) + 1 + (0 + 1) by omega), (show 0 + 1 + (0 + 401) ≤ 0 + 1 + (0 + 401) + 1 + (0 + 401) + 1 + (0 + 401) + 1 + (0 + 401) by omega)⟩ dX10_init_17 (by omega) fun H1 locs1 hz hP hS => ?_
  have t0 : u17.1 k = some (sO 9 [(kt + 3), 0, 0, 2, 2, 2, 2]) := (low_Row (q := k) e17 (by omega)).1.trans t0
  obtain ⟨u20, e20, h⟩ := bnd_e h
  refine w_putF (cd := (k + 4)) (y := 0) hx hb hts hown hK hP hS (Nat.le_refl _) FX10_18 hnm t0 rfl rfl rfl rfl dX10_init_20 fun H1 locs1 hq hP hS => ?_
  have hz := hq.trans hz
  have hP : Wd Γ u20.1 u20.2 w H1 := by rw [← e20]; exact hP
  have t0 : u20.1 k = some (sO 9 [(kt + 3), 0, 0, (k + 4), 2, 2, 2]) := by rw [← e20]; exact up_eq _ _ _
  refine lv_aload_n hx hb dX10_init_23 rfl (lv_at hl 0 rfl) ?_
  obtain ⟨u24, e24, h⟩ := bnd_e h
  refine w_new (n := (k + 3)) hx hb hts hown hK hP hS nX10_13 (show 0 + 1 + (0 + 1) + 1 ≤ 0 + 1 + (0 + 1) + 1 + (0 + 1) + 1 + (0 + 1) + 1 + (0 + 1) by omega) (show 0 + 1 + (0 + 401) + 1 ≤ 0 + 1 + (0 + 401) + 1 + (0 + 401) + 1 + (0 + 401) + 1 + (0 + 401) by omega) hz dX10_init_24 fun H1 hz hP hS => ?_
  have hP : Wd Γ u24.1 u24.2 w H1 := by rw [← e24]; exact hP
  have t2 : u24.1 (k + 3) = some (sO 6 [2]) := by rw [← e24]; exact up_eq _ _ _
  have t0 : u24.1 k = some (sO 9 [(kt + 3), 0, 0, (k + 4), 2, 2, 2]) := (low_kO e24 (by omega)).1.trans t0
  refine lv_dup hx hb dX10_init_27 rfl ?_
  refine lv_sipush (v := 401) hx hb dX10_init_28 rfl ?_
  obtain ⟨u31, e31, h⟩ := bnd_e h
  refine w_cK (u := u24) (q := u31) (k := (k + 3)) (k0 := k) hx hb hml hts hown hK hP hS hz (i_Row (N := 401) t2 (Nat.le_of_ble_eq_true rfl) e31) kX7_init mX10_15 rfl rfl hl.1 (Nat.le_of_ble_eq_true rfl) ⟨Nat.le_of_ble_eq_true rfl, Nat.le_of_ble_eq_true rfl⟩ ⟨(show 0 + 1 + (0 + 1) + 1 + (0 + 1) ≤ 0 + 1 + (0 + 1) + 1 + (0 + 1) + 1 + (0 + 1) + 1 + (0 + 1) by omega), (show 0 + 1 + (0 + 401) + 1 + (0 + 401) ≤ 0 + 1 + (0 + 401) + 1 + (0 + 401) + 1 + (0 + 401) + 1 + (0 + 401) by omega)⟩ dX10_init_31 (by omega) fun H1 locs1 hz hP hS => ?_
  have t0 : u31.1 k = some (sO 9 [(kt + 3), 0, 0, (k + 4), 2, 2, 2]) := (low_Row (q := k) e31 (by omega)).1.trans t0
  obtain ⟨u34, e34, h⟩ := bnd_e h
  refine w_putF (cd := (k + 6)) (y := 0) hx hb hts hown hK hP hS (Nat.le_refl _) FX10_21 hnm t0 rfl rfl rfl rfl dX10_init_34 fun H1 locs1 hq hP hS => ?_
  have hz := hq.trans hz
  have hP : Wd Γ u34.1 u34.2 w H1 := by rw [← e34]; exact hP
  have t0 : u34.1 k = some (sO 9 [(kt + 3), 0, 0, (k + 4), (k + 6), 2, 2]) := by rw [← e34]; exact up_eq _ _ _
  refine lv_aload_n hx hb dX10_init_37 rfl (lv_at hl 0 rfl) ?_
  obtain ⟨u38, e38, h⟩ := bnd_e h
  refine w_new (n := (k + 5)) hx hb hts hown hK hP hS nX10_13 (show 0 + 1 + (0 + 1) + 1 + (0 + 1) + 1 ≤ 0 + 1 + (0 + 1) + 1 + (0 + 1) + 1 + (0 + 1) + 1 + (0 + 1) by omega) (show 0 + 1 + (0 + 401) + 1 + (0 + 401) + 1 ≤ 0 + 1 + (0 + 401) + 1 + (0 + 401) + 1 + (0 + 401) + 1 + (0 + 401) by omega) hz dX10_init_38 fun H1 hz hP hS => ?_
  have hP : Wd Γ u38.1 u38.2 w H1 := by rw [← e38]; exact hP
  have t2 : u38.1 (k + 5) = some (sO 6 [2]) := by rw [← e38]; exact up_eq _ _ _
  have t0 : u38.1 k = some (sO 9 [(kt + 3), 0, 0, (k + 4), (k + 6), 2, 2]) := (low_kO e38 (by omega)).1.trans t0
  refine lv_dup hx hb dX10_init_41 rfl ?_
  refine lv_sipush (v := 401) hx hb dX10_init_42 rfl ?_
  obtain ⟨u45, e45, h⟩ := bnd_e h
  refine w_cK (u := u38) (q := u45) (k := (k + 5)) (k0 := k) hx hb hml hts hown hK hP hS hz (i_Row (N := 401) t2 (Nat.le_of_ble_eq_true rfl) e45) kX7_init mX10_15 rfl rfl hl.1 (Nat.le_of_ble_eq_true rfl) ⟨Nat.le_of_ble_eq_true rfl, Nat.le_of_ble_eq_true rfl⟩ ⟨(show 0 + 1 + (0 + 1) + 1 + (0 + 1) + 1 + (0 + 1) ≤ 0 + 1 + (0 + 1) + 1 + (0 + 1) + 1 + (0 + 1) + 1 + (0 + 1) by omega), (show 0 + 1 + (0 + 401) + 1 + (0 + 401) + 1 + (0 + 401) ≤ 0 + 1 + (0 + 401) + 1 + (0 + 401) + 1 + (0 + 401) + 1 + (0 + 401) by omega)⟩ dX10_init_45 (by omega) fun H1 locs1 hz hP hS => ?_
  have t0 : u45.1 k = some (sO 9 [(kt + 3), 0, 0, (k + 4), (k + 6), 2, 2]) := (low_Row (q := k) e45 (by omega)).1.trans t0
  obtain ⟨u48, e48, h⟩ := bnd_e h
  refine w_putF (cd := (k + 8)) (y := 0) hx hb hts hown hK hP hS (Nat.le_refl _) FX10_24 hnm t0 rfl rfl rfl rfl dX10_init_48 fun H1 locs1 hq hP hS => ?_
  have hz := hq.trans hz
  have hP : Wd Γ u48.1 u48.2 w H1 := by rw [← e48]; exact hP
  have t0 : u48.1 k = some (sO 9 [(kt + 3), 0, 0, (k + 4), (k + 6), (k + 8), 2]) := by rw [← e48]; exact up_eq _ _ _
  refine lv_aload_n hx hb dX10_init_51 rfl (lv_at hl 0 rfl) ?_
  obtain ⟨u52, e52, h⟩ := bnd_e h
  refine w_new (n := (k + 7)) hx hb hts hown hK hP hS nX10_13 (show 0 + 1 + (0 + 1) + 1 + (0 + 1) + 1 + (0 + 1) + 1 ≤ 0 + 1 + (0 + 1) + 1 + (0 + 1) + 1 + (0 + 1) + 1 + (0 + 1) by omega) (show 0 + 1 + (0 + 401) + 1 + (0 + 401) + 1 + (0 + 401) + 1 ≤ 0 + 1 + (0 + 401) + 1 + (0 + 401) + 1 + (0 + 401) + 1 + (0 + 401) by omega) hz dX10_init_52 fun H1 hz hP hS => ?_
  have hP : Wd Γ u52.1 u52.2 w H1 := by rw [← e52]; exact hP
  have t2 : u52.1 (k + 7) = some (sO 6 [2]) := by rw [← e52]; exact up_eq _ _ _
  have t0 : u52.1 k = some (sO 9 [(kt + 3), 0, 0, (k + 4), (k + 6), (k + 8), 2]) := (low_kO e52 (by omega)).1.trans t0
  refine lv_dup hx hb dX10_init_55 rfl ?_
  refine lv_sipush (v := 401) hx hb dX10_init_56 rfl ?_
  obtain ⟨u59, e59, h⟩ := bnd_e h
  refine w_cK (u := u52) (q := u59) (k := (k + 7)) (k0 := k) hx hb hml hts hown hK hP hS hz (i_Row (N := 401) t2 (Nat.le_of_ble_eq_true rfl) e59) kX7_init mX10_15 rfl rfl hl.1 (Nat.le_of_ble_eq_true rfl) ⟨Nat.le_of_ble_eq_true rfl, Nat.le_of_ble_eq_true rfl⟩ ⟨(show 0 + 1 + (0 + 1) + 1 + (0 + 1) + 1 + (0 + 1) + 1 + (0 + 1) ≤ 0 + 1 + (0 + 1) + 1 + (0 + 1) + 1 + (0 + 1) + 1 + (0 + 1) by omega), (show 0 + 1 + (0 + 401) + 1 + (0 + 401) + 1 + (0 + 401) + 1 + (0 + 401) ≤ 0 + 1 + (0 + 401) + 1 + (0 + 401) + 1 + (0 + 401) + 1 + (0 + 401) by omega)⟩ dX10_init_59 (by omega) fun H1 locs1 hz hP hS => ?_
  have t0 : u59.1 k = some (sO 9 [(kt + 3), 0, 0, (k + 4), (k + 6), (k + 8), 2]) := (low_Row (q := k) e59 (by omega)).1.trans t0
  obtain ⟨u62, e62, h⟩ := bnd_e h
  refine w_putF (cd := (k + 10)) (y := 0) hx hb hts hown hK hP hS (Nat.le_refl _) FX10_27 hnm t0 rfl rfl rfl rfl dX10_init_62 fun H1 locs1 hq hP hS => ?_
  have hz := hq.trans hz
  have hP : Wd Γ u62.1 u62.2 w H1 := by rw [← e62]; exact hP
  have t0 : u62.1 k = some (sO 9 [(kt + 3), 0, 0, (k + 4), (k + 6), (k + 8), (k + 10)]) := by rw [← e62]; exact up_eq _ _ _
  refine lv_aload_n hx hb dX10_init_65 rfl (lv_at hl 0 rfl) ?_
  refine lv_iconst (v := 0) hx hb dX10_init_66 rfl ?_
  obtain ⟨u67, e67, h⟩ := bnd_e h
  refine w_put (cd := 0) (y := 0) hx hb hts hown hK hP hS (Nat.le_refl _) fX10_30 t0 rfl rfl rfl rfl dX10_init_67 fun H1 locs1 hq hP hS => ?_
  have hz := hq.trans hz
  have hP : Wd Γ u67.1 u67.2 w H1 := by rw [← e67]; exact hP
  have t0 : u67.1 k = some (sO 9 [(kt + 3), 0, 0, (k + 4), (k + 6), (k + 8), (k + 10)]) := by rw [← e67]; exact up_eq _ _ _
  refine lv_aload_n hx hb dX10_init_70 rfl (lv_at hl 0 rfl) ?_
  refine lv_iconst (v := 0) hx hb dX10_init_71 rfl ?_
  obtain ⟨u72, e72, h⟩ := bnd_e h
  refine w_put (cd := 0) (y := 0) hx hb hts hown hK hP hS (Nat.le_refl _) fX10_34 t0 rfl rfl rfl rfl dX10_init_72 fun H1 locs1 hq hP hS => ?_
  have hz := hq.trans hz
  have hP : Wd Γ u72.1 u72.2 w H1 := by rw [← e72]; exact hP
  have t0 : u72.1 k = some (sO 9 [(kt + 3), 0, 0, (k + 4), (k + 6), (k + 8), (k + 10)]) := by rw [← e72]; exact up_eq _ _ _
  subst h
  exact w_kret hx hb hret hlk hK hP hS hz dX10_init_75
def K_Reader (u : Sh × Va) (k : Nat) (kt : Nat) : Sh × Va := bnd (kR u k 4 [2, (kt + 3), 2, 2, 2, 2, 0, 0, 0] 1 0) fun u6 => bnd (kO u6 (k + 1) 3 [0, 0, 0, 0, 0, 2, 2, 2, 2, 2, 2, 2, 2, 2, 2, 2, 2, 2, 2, 2]) fun u10 => bnd (K_Plan u10 (k + 1)) fun u14 => bnd (kR u14 k 4 [(k + 4), (kt + 3), 2, 2, 2, 2, 0, 0, 0] 0 0) fun u17 => bnd (kO u17 (k + 37) 2 [2, 0, 0]) fun u21 => bnd (K_Names u21 (k + 37) 4) fun u26 => bnd (kR u26 k 4 [(k + 4), (kt + 3), (k + 40), 2, 2, 2, 0, 0, 0] 2 0) fun u29 => bnd (kO u29 (k + 40) 2 [2, 0, 0]) fun u33 => bnd (K_Names u33 (k + 40) 4) fun u38 => bnd (kR u38 k 4 [(k + 4), (kt + 3), (k + 40), (k + 43), 2, 2, 0, 0, 0] 3 0) fun u41 => bnd (kO u41 (k + 43) 2 [2, 0, 0]) fun u45 => bnd (K_Names u45 (k + 43) 6) fun u51 => bnd (kR u51 k 4 [(k + 4), (kt + 3), (k + 40), (k + 43), (k + 46), 2, 0, 0, 0] 4 0) fun u54 => bnd (kO u54 (k + 46) 2 [2, 0, 0]) fun u58 => bnd (K_Names u58 (k + 46) 10) fun u64 => bnd (kR u64 k 4 [(k + 4), (kt + 3), (k + 40), (k + 43), (k + 46), (k + 49), 0, 0, 0] 5 0) fun u67 => bnd (kR u67 k 4 [(k + 4), (kt + 3), (k + 40), (k + 43), (k + 46), (k + 49), 0, 0, 0] 6 0) fun u72 => bnd (kR u72 k 4 [(k + 4), (kt + 3), (k + 40), (k + 43), (k + 46), (k + 49), 0, 0, 0] 7 0) fun u77 => bnd (kR u77 k 4 [(k + 4), (kt + 3), (k + 40), (k + 43), (k + 46), (k + 49), 0, 0, 0] 8 0) fun u82 => u82
theorem low_Reader {u r : Sh × Va} {k q : Nat} {kt : Nat} (h : K_Reader u k kt = r) (hq : q < k) : lowq q r u := by
  unfold K_Reader at h
  have lc : lowq q u u := ⟨rfl, rfl⟩
  obtain ⟨u6, e6, h⟩ := bnd_e h
  have lc := (low_kR (q := q) e6 (by omega)).tr lc
  obtain ⟨u10, e10, h⟩ := bnd_e h
  have lc := (low_kO (q := q) e10 (by omega)).tr lc
  obtain ⟨u14, e14, h⟩ := bnd_e h
  have lc := (low_Plan (q := q) e14 (by omega)).tr lc
  obtain ⟨u17, e17, h⟩ := bnd_e h
  have lc := (low_kR (q := q) e17 (by omega)).tr lc
  obtain ⟨u21, e21, h⟩ := bnd_e h
  have lc := (low_kO (q := q) e21 (by omega)).tr lc
  obtain ⟨u26, e26, h⟩ := bnd_e h
  have lc := (low_Names (q := q) e26 (by omega)).tr lc
  obtain ⟨u29, e29, h⟩ := bnd_e h
  have lc := (low_kR (q := q) e29 (by omega)).tr lc
  obtain ⟨u33, e33, h⟩ := bnd_e h
  have lc := (low_kO (q := q) e33 (by omega)).tr lc
  obtain ⟨u38, e38, h⟩ := bnd_e h
  have lc := (low_Names (q := q) e38 (by omega)).tr lc
  obtain ⟨u41, e41, h⟩ := bnd_e h
  have lc := (low_kR (q := q) e41 (by omega)).tr lc
  obtain ⟨u45, e45, h⟩ := bnd_e h
  have lc := (low_kO (q := q) e45 (by omega)).tr lc
  obtain ⟨u51, e51, h⟩ := bnd_e h
  have lc := (low_Names (q := q) e51 (by omega)).tr lc
  obtain ⟨u54, e54, h⟩ := bnd_e h
  have lc := (low_kR (q := q) e54 (by omega)).tr lc
  obtain ⟨u58, e58, h⟩ := bnd_e h
  have lc := (low_kO (q := q) e58 (by omega)).tr lc
  obtain ⟨u64, e64, h⟩ := bnd_e h
  have lc := (low_Names (q := q) e64 (by omega)).tr lc
  obtain ⟨u67, e67, h⟩ := bnd_e h
  have lc := (low_kR (q := q) e67 (by omega)).tr lc
  obtain ⟨u72, e72, h⟩ := bnd_e h
  have lc := (low_kR (q := q) e72 (by omega)).tr lc
  obtain ⟨u77, e77, h⟩ := bnd_e h
  have lc := (low_kR (q := q) e77 (by omega)).tr lc
  obtain ⟨u82, e82, h⟩ := bnd_e h
  have lc := (low_kR (q := q) e82 (by omega)).tr lc
  rw [← h]; exact lc
theorem i_Reader {l : Launch} {Γ : Cx} {u : Sh × Va} {w : Vl} {k : Nat} {kt : Nat} (t0 : u.1 k = some (sO 4 [2, 2, 2, 2, 2, 2, 0, 0, 0])) {r : Sh × Va} (h : K_Reader u k kt = r) : MetK l yX5_init cX5_init 2 4 (0 + 1 + (0 + 1 + (0 + 1) + 1 + (0 + 1) + 1 + (0 + 1) + 1 + (0 + 1) + 1 + (0 + 1) + 1 + (0 + 1) + 1 + (0 + 1) + 1 + (0 + 1) + 1 + (0 + 1) + 1 + (0 + 1) + 1 + (0 + 1) + 1 + (0 + 1) + 1 + (0 + 1) + 1 + (0 + 1) + 1 + (0 + 1 + (0 + 1) + 1 + (0 + 1) + 1 + (0 + 1))) + 1 + (0 + 1 + (0 + 1)) + 1 + (0 + 1 + (0 + 1)) + 1 + (0 + 1 + (0 + 1)) + 1 + (0 + 1 + (0 + 1))) (0 + 20 + (0 + 1 + (0 + 4) + 1 + (0 + 4) + 1 + (0 + 4) + 1 + (0 + 6) + 1 + (0 + 6) + 1 + (0 + 10) + 1 + (0 + 10) + 1 + (0 + 10) + 1 + (0 + 24) + 1 + (0 + 24) + 1 + (0 + 24) + 1 + (0 + 24) + 1 + (0 + 24) + 1 + (0 + 24) + 4 + (0 + 1 + (0 + 400) + 1 + (0 + 400) + 1 + (0 + 400))) + 3 + (0 + 1 + (0 + 4)) + 3 + (0 + 1 + (0 + 4)) + 3 + (0 + 1 + (0 + 6)) + 3 + (0 + 1 + (0 + 10))) Γ k u w (k + 1) [.ref (Γ.2.1 + k), .ref (Γ.2.1 + kt)] r (k + 49) := by
  unfold K_Reader at h
  refine w_startK pn_X5 (Nat.le_of_ble_eq_true rfl) fun p e s m args below meth c hx hb hml hret hlk hnm hts hown hK hP hz hS ls hl => ?_
  refine lv_aload_n hx hb dX5_init_0 rfl (lv_at hl 0 rfl) ?_
  refine W.objInit hx hb hown (hts _ xoX5_1) (hts _ xoi) (hts _ xoc) rfl (by rw [hml]; exact hl.1) rfl dX5_init_1 (Nat.le_of_ble_eq_true rfl) (Nat.le_of_ble_eq_true rfl) ?_
  refine lv_aload_n hx hb dX5_init_4 rfl (lv_at hl 0 rfl) ?_
  refine lv_aload_n hx hb dX5_init_5 rfl (lv_at hl 1 rfl) ?_
  obtain ⟨u6, e6, h⟩ := bnd_e h
  refine w_putF (cd := (kt + 3)) (y := 0) hx hb hts hown hK hP hS (Nat.le_refl _) FX5_7 hnm t0 rfl rfl rfl rfl dX5_init_6 fun H1 locs1 hq hP hS => ?_
  have hz := hq.trans hz
  have hP : Wd Γ u6.1 u6.2 w H1 := by rw [← e6]; exact hP
  have t0 : u6.1 k = some (sO 4 [2, (kt + 3), 2, 2, 2, 2, 0, 0, 0]) := by rw [← e6]; exact up_eq _ _ _
  refine lv_aload_n hx hb dX5_init_9 rfl (lv_at hl 0 rfl) ?_
  obtain ⟨u10, e10, h⟩ := bnd_e h
  refine w_new (n := (k + 1)) hx hb hts hown hK hP hS nX5_13 (show 0 + 1 ≤ 0 + 1 + (0 + 1 + (0 + 1) + 1 + (0 + 1) + 1 + (0 + 1) + 1 + (0 + 1) + 1 + (0 + 1) + 1 + (0 + 1) + 1 + (0 + 1) + 1 + (0 + 1) + 1 + (0 + 1) + 1 + (0 + 1) + 1 + (0 + 1) + 1 + (0 + 1) + 1 + (0 + 1) + 1 + (0 + 1) + 1 + (0 + 1 + (0 + 1) + 1 + (0 + 1) + 1 + (0 + 1))) + 1 + (0 + 1 + (0 + 1)) + 1 + (0 + 1 + (0 + 1)) + 1 + (0 + 1 + (0 + 1)) + 1 + (0 + 1 + (0 + 1)) by omega) (show 0 + 20 ≤ 0 + 20 + (0 + 1 + (0 + 4) + 1 + (0 + 4) + 1 + (0 + 4) + 1 + (0 + 6) + 1 + (0 + 6) + 1 + (0 + 10) + 1 + (0 + 10) + 1 + (0 + 10) + 1 + (0 + 24) + 1 + (0 + 24) + 1 + (0 + 24) + 1 + (0 + 24) + 1 + (0 + 24) + 1 + (0 + 24) + 4 + (0 + 1 + (0 + 400) + 1 + (0 + 400) + 1 + (0 + 400))) + 3 + (0 + 1 + (0 + 4)) + 3 + (0 + 1 + (0 + 4)) + 3 + (0 + 1 + (0 + 6)) + 3 + (0 + 1 + (0 + 10)) by omega) hz dX5_init_10 fun H1 hz hP hS => ?_
  have hP : Wd Γ u10.1 u10.2 w H1 := by rw [← e10]; exact hP
  have t2 : u10.1 (k + 1) = some (sO 3 [0, 0, 0, 0, 0, 2, 2, 2, 2, 2, 2, 2, 2, 2, 2, 2, 2, 2, 2, 2]) := by rw [← e10]; exact up_eq _ _ _
  have t0 : u10.1 k = some (sO 4 [2, (kt + 3), 2, 2, 2, 2, 0, 0, 0]) := (low_kO e10 (by omega)).1.trans t0
  refine lv_dup hx hb dX5_init_13 rfl ?_
  obtain ⟨u14, e14, h⟩ := bnd_e h
  refine w_cK (u := u10) (q := u14) (k := (k + 1)) (k0 := k) hx hb hml hts hown hK hP hS hz (i_Plan t2 e14) kX4_init mX5_15 rfl rfl hl.1 (Nat.le_of_ble_eq_true rfl) ⟨Nat.le_of_ble_eq_true rfl, Nat.le_of_ble_eq_true rfl⟩ ⟨(show 0 + 1 + (0 + 1 + (0 + 1) + 1 + (0 + 1) + 1 + (0 + 1) + 1 + (0 + 1) + 1 + (0 + 1) + 1 + (0 + 1) + 1 + (0 + 1) + 1 + (0 + 1) + 1 + (0 + 1) + 1 + (0 + 1) + 1 + (0 + 1) + 1 + (0 + 1) + 1 + (0 + 1) + 1 + (0 + 1) + 1 + (0 + 1 + (0 + 1) + 1 + (0 + 1) + 1 + (0 + 1))) ≤ 0 + 1 + (0 + 1 + (0 + 1) + 1 + (0 + 1) + 1 + (0 + 1) + 1 + (0 + 1) + 1 + (0 + 1) + 1 + (0 + 1) + 1 + (0 + 1) + 1 + (0 + 1) + 1 + (0 + 1) + 1 + (0 + 1) + 1 + (0 + 1) + 1 + (0 + 1) + 1 + (0 + 1) + 1 + (0 + 1) + 1 + (0 + 1 + (0 + 1) + 1 + (0 + 1) + 1 + (0 + 1))) + 1 + (0 + 1 + (0 + 1)) + 1 + (0 + 1 + (0 + 1)) + 1 + (0 + 1 + (0 + 1)) + 1 + (0 + 1 + (0 + 1)) by omega), (show 0 + 20 + (0 + 1 + (0 + 4) + 1 + (0 + 4) + 1 + (0 + 4) + 1 + (0 + 6) + 1 + (0 + 6) + 1 + (0 + 10) + 1 + (0 + 10) + 1 + (0 + 10) + 1 + (0 + 24) + 1 + (0 + 24) + 1 + (0 + 24) + 1 + (0 + 24) + 1 + (0 + 24) + 1 + (0 + 24) + 4 + (0 + 1 + (0 + 400) + 1 + (0 + 400) + 1 + (0 + 400))) ≤ 0 + 20 + (0 + 1 + (0 + 4) + 1 + (0 + 4) + 1 + (0 + 4) + 1 + (0 + 6) + 1 + (0 + 6) + 1 + (0 + 10) + 1 + (0 + 10) + 1 + (0 + 10) + 1 + (0 + 24) + 1 + (0 + 24) + 1 + (0 + 24) + 1 + (0 + 24) + 1 + (0 + 24) + 1 + (0 + 24) + 4 + (0 + 1 + (0 + 400) + 1 + (0 + 400) + 1 + (0 + 400))) + 3 + (0 + 1 + (0 + 4)) + 3 + (0 + 1 + (0 + 4)) + 3 + (0 + 1 + (0 + 6)) + 3 + (0 + 1 + (0 + 10)) by omega)⟩ dX5_init_14 (by omega) fun H1 locs1 hz hP hS => ?_
  have t0 : u14.1 k = some (sO 4 [2, (kt + 3), 2, 2, 2, 2, 0, 0, 0]) := (low_Plan (q := k) e14 (by omega)).1.trans t0
  obtain ⟨u17, e17, h⟩ := bnd_e h
  refine w_putF (cd := (k + 4)) (y := 0) hx hb hts hown hK hP hS (Nat.le_refl _) FX5_16 hnm t0 rfl rfl rfl rfl dX5_init_17 fun H1 locs1 hq hP hS => ?_
  have hz := hq.trans hz
  have hP : Wd Γ u17.1 u17.2 w H1 := by rw [← e17]; exact hP
  have t0 : u17.1 k = some (sO 4 [(k + 4), (kt + 3), 2, 2, 2, 2, 0, 0, 0]) := by rw [← e17]; exact up_eq _ _ _
  refine lv_aload_n hx hb dX5_init_20 rfl (lv_at hl 0 rfl) ?_
  obtain ⟨u21, e21, h⟩ := bnd_e h
  refine w_new (n := (k + 37)) hx hb hts hown hK hP hS nX5_20 (show 0 + 1 + (0 + 1 + (0 + 1) + 1 + (0 + 1) + 1 + (0 + 1) + 1 + (0 + 1) + 1 + (0 + 1) + 1 + (0 + 1) + 1 + (0 + 1) + 1 + (0 + 1) + 1 + (0 + 1) + 1 + (0 + 1) + 1 + (0 + 1) + 1 + (0 + 1) + 1 + (0 + 1) + 1 + (0 + 1) + 1 + (0 + 1 + (0 + 1) + 1 + (0 + 1) + 1 + (0 + 1))) + 1 ≤ 0 + 1 + (0 + 1 + (0 + 1) + 1 + (0 + 1) + 1 + (0 + 1) + 1 + (0 + 1) + 1 + (0 + 1) + 1 + (0 + 1) + 1 + (0 + 1) + 1 + (0 + 1) + 1 + (0 + 1) + 1 + (0 + 1) + 1 + (0 + 1) + 1 + (0 + 1) + 1 + (0 + 1) + 1 + (0 + 1) + 1 + (0 + 1 + (0 + 1) + 1 + (0 + 1) + 1 + (0 + 1))) + 1 + (0 + 1 + (0 + 1)) + 1 + (0 + 1 + (0 + 1)) + 1 + (0 + 1 + (0 + 1)) + 1 + (0 + 1 + (0 + 1)) by omega) (show 0 + 20 + (0 + 1 + (0 + 4) + 1 + (0 + 4) + 1 + (0 + 4) + 1 + (0 + 6) + 1 + (0 + 6) + 1 + (0 + 10) + 1 + (0 + 10) + 1 + (0 + 10) + 1 + (0 + 24) + 1 + (0 + 24) + 1 + (0 + 24) + 1 + (0 + 24) + 1 + (0 + 24) + 1 + (0 + 24) + 4 + (0 + 1 + (0 + 400) + 1 + (0 + 400) + 1 + (0 + 400))) + 3 ≤ 0 + 20 + (0 + 1 + (0 + 4) + 1 + (0 + 4) + 1 + (0 + 4) + 1 + (0 + 6) + 1 + (0 + 6) + 1 + (0 + 10) + 1 + (0 + 10) + 1 + (0 + 10) + 1 + (0 + 24) + 1 + (0 + 24) + 1 + (0 + 24) + 1 + (0 + 24) + 1 + (0 + 24) + 1 + (0 + 24) + 4 + (0 + 1 + (0 + 400) + 1 + (0 + 400) + 1 + (0 + 400))) + 3 + (0 + 1 + (0 + 4)) + 3 + (0 + 1 + (0 + 4)) + 3 + (0 + 1 + (0 + 6)) + 3 + (0 + 1 + (0 + 10)) by omega) hz dX5_init_21 fun H1 hz hP hS => ?_
  have hP : Wd Γ u21.1 u21.2 w H1 := by rw [← e21]; exact hP
  have t2 : u21.1 (k + 37) = some (sO 2 [2, 0, 0]) := by rw [← e21]; exact up_eq _ _ _
  have t0 : u21.1 k = some (sO 4 [(k + 4), (kt + 3), 2, 2, 2, 2, 0, 0, 0]) := (low_kO e21 (by omega)).1.trans t0
  refine lv_dup hx hb dX5_init_24 rfl ?_
  refine lv_iconst (v := 4) hx hb dX5_init_25 rfl ?_
  obtain ⟨u26, e26, h⟩ := bnd_e h
  refine w_cK (u := u21) (q := u26) (k := (k + 37)) (k0 := k) hx hb hml hts hown hK hP hS hz (i_Names (N := 4) t2 (Nat.le_of_ble_eq_true rfl) e26) kX3_init mX5_22 rfl rfl hl.1 (Nat.le_of_ble_eq_true rfl) ⟨Nat.le_of_ble_eq_true rfl, Nat.le_of_ble_eq_true rfl⟩ ⟨(show 0 + 1 + (0 + 1 + (0 + 1) + 1 + (0 + 1) + 1 + (0 + 1) + 1 + (0 + 1) + 1 + (0 + 1) + 1 + (0 + 1) + 1 + (0 + 1) + 1 + (0 + 1) + 1 + (0 + 1) + 1 + (0 + 1) + 1 + (0 + 1) + 1 + (0 + 1) + 1 + (0 + 1) + 1 + (0 + 1) + 1 + (0 + 1 + (0 + 1) + 1 + (0 + 1) + 1 + (0 + 1))) + 1 + (0 + 1 + (0 + 1)) ≤ 0 + 1 + (0 + 1 + (0 + 1) + 1 + (0 + 1) + 1 + (0 + 1) + 1 + (0 + 1) + 1 + (0 + 1) + 1 + (0 + 1) + 1 + (0 + 1) + 1 + (0 + 1) + 1 + (0 + 1) + 1 + (0 + 1) + 1 + (0 + 1) + 1 + (0 + 1) + 1 + (0 + 1) + 1 + (0 + 1) + 1 + (0 + 1 + (0 + 1) + 1 + (0 + 1) + 1 + (0 + 1))) + 1 + (0 + 1 + (0 + 1)) + 1 + (0 + 1 + (0 + 1)) + 1 + (0 + 1 + (0 + 1)) + 1 + (0 + 1 + (0 + 1)) by omega), (show 0 + 20 + (0 + 1 + (0 + 4) + 1 + (0 + 4) + 1 + (0 + 4) + 1 + (0 + 6) + 1 + (0 + 6) + 1 + (0 + 10) + 1 + (0 + 10) + 1 + (0 + 10) + 1 + (0 + 24) + 1 + (0 + 24) + 1 + (0 + 24) + 1 + (0 + 24) + 1 + (0 + 24) + 1 + (0 + 24) + 4 + (0 + 1 + (0 + 400) + 1 + (0 + 400) + 1 + (0 + 400))) + 3 + (0 + 1 + (0 + 4)) ≤ 0 + 20 + (0 + 1 + (0 + 4) + 1 + (0 + 4) + 1 + (0 + 4) + 1 + (0 + 6) + 1 + (0 + 6) + 1 + (0 + 10) + 1 + (0 + 10) + 1 + (0 + 10) + 1 + (0 + 24) + 1 + (0 + 24) + 1 + (0 + 24) + 1 + (0 + 24) + 1 + (0 + 24) + 1 + (0 + 24) + 4 + (0 + 1 + (0 + 400) + 1 + (0 + 400) + 1 + (0 + 400))) + 3 + (0 + 1 + (0 + 4)) + 3 + (0 + 1 + (0 + 4)) + 3 + (0 + 1 + (0 + 6)) + 3 + (0 + 1 + (0 + 10)) by omega)⟩ dX5_init_26 (by omega) fun H1 locs1 hz hP hS => ?_
  have t0 : u26.1 k = some (sO 4 [(k + 4), (kt + 3), 2, 2, 2, 2, 0, 0, 0]) := (low_Names (q := k) e26 (by omega)).1.trans t0
  obtain ⟨u29, e29, h⟩ := bnd_e h
  refine w_putF (cd := (k + 40)) (y := 0) hx hb hts hown hK hP hS (Nat.le_refl _) FX5_25 hnm t0 rfl rfl rfl rfl dX5_init_29 fun H1 locs1 hq hP hS => ?_
  have hz := hq.trans hz
  have hP : Wd Γ u29.1 u29.2 w H1 := by rw [← e29]; exact hP
  have t0 : u29.1 k = some (sO 4 [(k + 4), (kt + 3), (k + 40), 2, 2, 2, 0, 0, 0]) := by rw [← e29]; exact up_eq _ _ _
  refine lv_aload_n hx hb dX5_init_32 rfl (lv_at hl 0 rfl) ?_
  obtain ⟨u33, e33, h⟩ := bnd_e h
  refine w_new (n := (k + 40)) hx hb hts hown hK hP hS nX5_20 (show 0 + 1 + (0 + 1 + (0 + 1) + 1 + (0 + 1) + 1 + (0 + 1) + 1 + (0 + 1) + 1 + (0 + 1) + 1 + (0 + 1) + 1 + (0 + 1) + 1 + (0 + 1) + 1 + (0 + 1) + 1 + (0 + 1) + 1 + (0 + 1) + 1 + (0 + 1) + 1 + (0 + 1) + 1 + (0 + 1) + 1 + (0 + 1 + (0 + 1) + 1 + (0 + 1) + 1 + (0 + 1))) + 1 + (0 + 1 + (0 + 1)) + 1 ≤ 0 + 1 + (0 + 1 + (0 + 1) + 1 + (0 + 1) + 1 + (0 + 1) + 1 + (0 + 1) + 1 + (0 + 1) + 1 + (0 + 1) + 1 + (0 + 1) + 1 + (0 + 1) + 1 + (0 + 1) + 1 + (0 + 1) + 1 + (0 + 1) + 1 + (0 + 1) + 1 + (0 + 1) + 1 + (0 + 1) + 1 + (0 + 1 + (0 + 1) + 1 + (0 + 1) + 1 + (0 + 1))) + 1 + (0 + 1 + (0 + 1)) + 1 + (0 + 1 + (0 + 1)) + 1 + (0 + 1 + (0 + 1)) + 1 + (0 + 1 + (0 + 1)) by omega) (show 0 + 20 + (0 + 1 + (0 + 4) + 1 + (0 + 4) + 1 + (0 + 4) + 1 + (0 + 6) + 1 + (0 + 6) + 1 + (0 + 10) + 1 + (0 + 10) + 1 + (0 + 10) + 1 + (0 + 24) + 1 + (0 + 24) + 1 + (0 + 24) + 1 + (0 + 24) + 1 + (0 + 24) + 1 + (0 + 24) + 4 + (0 + 1 + (0 + 400) + 1 + (0 + 400) + 1 + (0 + 400))) + 3 + (0 + 1 + (0 + 4)) + 3 ≤ 0 + 20 + (0 + 1 + (0 + 4) + 1 + (0 + 4) + 1 + (0 + 4) + 1 + (0 + 6) + 1 + (0 + 6) + 1 + (0 + 10) + 1 + (0 + 10) + 1 + (0 + 10) + 1 + (0 + 24) + 1 + (0 + 24) + 1 + (0 + 24) + 1 + (0 + 24) + 1 + (0 + 24) + 1 + (0 + 24) + 4 + (0 + 1 + (0 + 400) + 1 + (0 + 400) + 1 + (0 + 400))) + 3 + (0 + 1 + (0 + 4)) + 3 + (0 + 1 + (0 + 4)) + 3 + (0 + 1 + (0 + 6)) + 3 + (0 + 1 + (0 + 10)) by omega) hz dX5_init_33 fun H1 hz hP hS => ?_
  have hP : Wd Γ u33.1 u33.2 w H1 := by rw [← e33]; exact hP
  have t2 : u33.1 (k + 40) = some (sO 2 [2, 0, 0]) := by rw [← e33]; exact up_eq _ _ _
  have t0 : u33.1 k = some (sO 4 [(k + 4), (kt + 3), (k + 40), 2, 2, 2, 0, 0, 0]) := (low_kO e33 (by omega)).1.trans t0
  refine lv_dup hx hb dX5_init_36 rfl ?_
  refine lv_iconst (v := 4) hx hb dX5_init_37 rfl ?_
  obtain ⟨u38, e38, h⟩ := bnd_e h
  refine w_cK (u := u33) (q := u38) (k := (k + 40)) (k0 := k) hx hb hml hts hown hK hP hS hz (i_Names (N := 4) t2 (Nat.le_of_ble_eq_true rfl) e38) kX3_init mX5_22 rfl rfl hl.1 (Nat.le_of_ble_eq_true rfl) ⟨Nat.le_of_ble_eq_true rfl, Nat.le_of_ble_eq_true rfl⟩ ⟨(show 0 + 1 + (0 + 1 + (0 + 1) + 1 + (0 + 1) + 1 + (0 + 1) + 1 + (0 + 1) + 1 + (0 + 1) + 1 + (0 + 1) + 1 + (0 + 1) + 1 + (0 + 1) + 1 + (0 + 1) + 1 + (0 + 1) + 1 + (0 + 1) + 1 + (0 + 1) + 1 + (0 + 1) + 1 + (0 + 1) + 1 + (0 + 1 + (0 + 1) + 1 + (0 + 1) + 1 + (0 + 1))) + 1 + (0 + 1 + (0 + 1)) + 1 + (0 + 1 + (0 + 1)) ≤ 0 + 1 + (0 + 1 + (0 + 1) + 1 + (0 + 1) + 1 + (0 + 1) + 1 + (0 + 1) + 1 + (0 + 1) + 1 + (0 + 1) + 1 + (0 + 1) + 1 + (0 + 1) + 1 + (0 + 1) + 1 + (0 + 1) + 1 + (0 + 1) + 1 + (0 + 1) + 1 + (0 + 1) + 1 + (0 + 1) + 1 + (0 + 1 + (0 + 1) + 1 + (0 + 1) + 1 + (0 + 1))) + 1 + (0 + 1 + (0 + 1)) + 1 + (0 + 1 + (0 + 1)) + 1 + (0 + 1 + (0 + 1)) + 1 + (0 + 1 + (0 + 1)) by omega), (show 0 + 20 + (0 + 1 + (0 + 4) + 1 + (0 + 4) + 1 + (0 + 4) + 1 + (0 + 6) + 1 + (0 + 6) + 1 + (0 + 10) + 1 + (0 + 10) + 1 + (0 + 10) + 1 + (0 + 24) + 1 + (0 + 24) + 1 + (0 + 24) + 1 + (0 + 24) + 1 + (0 + 24) + 1 + (0 + 24) + 4 + (0 + 1 + (0 + 400) + 1 + (0 + 400) + 1 + (0 + 400))) + 3 + (0 + 1 + (0 + 4)) + 3 + (0 + 1 + (0 + 4)) ≤ 0 + 20 + (0 + 1 + (0 + 4) + 1 + (0 + 4) + 1 + (0 + 4) + 1 + (0 + 6) + 1 + (0 + 6) + 1 + (0 + 10) + 1 + (0 + 10) + 1 + (0 + 10) + 1 + (0 + 24) + 1 + (0 + 24) + 1 + (0 + 24) + 1 + (0 + 24) + 1 + (0 + 24) + 1 + (0 + 24) + 4 + (0 + 1 + (0 + 400) + 1 + (0 + 400) + 1 + (0 + 400))) + 3 + (0 + 1 + (0 + 4)) + 3 + (0 + 1 + (0 + 4)) + 3 + (0 + 1 + (0 + 6)) + 3 + (0 + 1 + (0 + 10)) by omega)⟩ dX5_init_38 (by omega) fun H1 locs1 hz hP hS => ?_
  have t0 : u38.1 k = some (sO 4 [(k + 4), (kt + 3), (k + 40), 2, 2, 2, 0, 0, 0]) := (low_Names (q := k) e38 (by omega)).1.trans t0
  obtain ⟨u41, e41, h⟩ := bnd_e h
  refine w_putF (cd := (k + 43)) (y := 0) hx hb hts hown hK hP hS (Nat.le_refl _) FX5_29 hnm t0 rfl rfl rfl rfl dX5_init_41 fun H1 locs1 hq hP hS => ?_
  have hz := hq.trans hz
  have hP : Wd Γ u41.1 u41.2 w H1 := by rw [← e41]; exact hP
  have t0 : u41.1 k = some (sO 4 [(k + 4), (kt + 3), (k + 40), (k + 43), 2, 2, 0, 0, 0]) := by rw [← e41]; exact up_eq _ _ _
  refine lv_aload_n hx hb dX5_init_44 rfl (lv_at hl 0 rfl) ?_
  obtain ⟨u45, e45, h⟩ := bnd_e h
  refine w_new (n := (k + 43)) hx hb hts hown hK hP hS nX5_20 (show 0 + 1 + (0 + 1 + (0 + 1) + 1 + (0 + 1) + 1 + (0 + 1) + 1 + (0 + 1) + 1 + (0 + 1) + 1 + (0 + 1) + 1 + (0 + 1) + 1 + (0 + 1) + 1 + (0 + 1) + 1 + (0 + 1) + 1 + (0 + 1) + 1 + (0 + 1) + 1 + (0 + 1) + 1 + (0 + 1) + 1 + (0 + 1 + (0 + 1) + 1 + (0 + 1) + 1 + (0 + 1))) + 1 + (0 + 1 + (0 + 1)) + 1 + (0 + 1 + (0 + 1)) + 1 ≤ 0 + 1 + (0 + 1 + (0 + 1) + 1 + (0 + 1) + 1 + (0 + 1) + 1 + (0 + 1) + 1 + (0 + 1) + 1 + (0 + 1) + 1 + (0 + 1) + 1 + (0 + 1) + 1 + (0 + 1) + 1 + (0 + 1) + 1 + (0 + 1) + 1 + (0 + 1) + 1 + (0 + 1) + 1 + (0 + 1) + 1 + (0 + 1 + (0 + 1) + 1 + (0 + 1) + 1 + (0 + 1))) + 1 + (0 + 1 + (0 + 1)) + 1 + (0 + 1 + (0 + 1)) + 1 + (0 + 1 + (0 + 1)) + 1 + (0 + 1 + (0 + 1)) by omega) (show 0 + 20 + (0 + 1 + (0 + 4) + 1 + (0 + 4) + 1 + (0 + 4) + 1 + (0 + 6) + 1 + (0 + 6) + 1 + (0 + 10) + 1 + (0 + 10) + 1 + (0 + 10) + 1 + (0 + 24) + 1 + (0 + 24) + 1 + (0 + 24) + 1 + (0 + 24) + 1 + (0 + 24) + 1 + (0 + 24) + 4 + (0 + 1 + (0 + 400) + 1 + (0 + 400) + 1 + (0 + 400))) + 3 + (0 + 1 + (0 + 4)) + 3 + (0 + 1 + (0 + 4)) + 3 ≤ 0 + 20 + (0 + 1 + (0 + 4) + 1 + (0 + 4) + 1 + (0 + 4) + 1 + (0 + 6) + 1 + (0 + 6) + 1 + (0 + 10) + 1 + (0 + 10) + 1 + (0 + 10) + 1 + (0 + 24) + 1 + (0 + 24) + 1 + (0 + 24) + 1 + (0 + 24) + 1 + (0 + 24) + 1 + (0 + 24) + 4 + (0 + 1 + (0 + 400) + 1 + (0 + 400) + 1 + (0 + 400))) + 3 + (0 + 1 + (0 + 4)) + 3 + (0 + 1 + (0 + 4)) + 3 + (0 + 1 + (0 + 6)) + 3 + (0 + 1 + (0 + 10)) by omega) hz dX5_init_45 fun H1 hz hP hS => ?_
  have hP : Wd Γ u45.1 u45.2 w H1 := by rw [← e45]; exact hP
  have t2 : u45.1 (k + 43) = some (sO 2 [2, 0, 0]) := by rw [← e45]; exact up_eq _ _ _
  have t0 : u45.1 k = some (sO 4 [(k + 4), (kt + 3), (k + 40), (k + 43), 2, 2, 0, 0, 0]) := (low_kO e45 (by omega)).1.trans t0
  refine lv_dup hx hb dX5_init_48 rfl ?_
  refine lv_bipush (v := 6) hx hb dX5_init_49 rfl ?_
  obtain ⟨u51, e51, h⟩ := bnd_e h
  refine w_cK (u := u45) (q := u51) (k := (k + 43)) (k0 := k) hx hb hml hts hown hK hP hS hz (i_Names (N := 6) t2 (Nat.le_of_ble_eq_true rfl) e51) kX3_init mX5_22 rfl rfl hl.1 (Nat.le_of_ble_eq_true rfl) ⟨Nat.le_of_ble_eq_true rfl, Nat.le_of_ble_eq_true rfl⟩ ⟨(show 0 + 1 + (0 + 1 + (0 + 1) + 1 + (0 + 1) + 1 + (0 + 1) + 1 + (0 + 1) + 1 + (0 + 1) + 1 + (0 + 1) + 1 + (0 + 1) + 1 + (0 + 1) + 1 + (0 + 1) + 1 + (0 + 1) + 1 + (0 + 1) + 1 + (0 + 1) + 1 + (0 + 1) + 1 + (0 + 1) + 1 + (0 + 1 + (0 + 1) + 1 + (0 + 1) + 1 + (0 + 1))) + 1 + (0 + 1 + (0 + 1)) + 1 + (0 + 1 + (0 + 1)) + 1 + (0 + 1 + (0 + 1)) ≤ 0 + 1 + (0 + 1 + (0 + 1) + 1 + (0 + 1) + 1 + (0 + 1) + 1 + (0 + 1) + 1 + (0 + 1) + 1 + (0 + 1) + 1 + (0 + 1) + 1 + (0 + 1) + 1 + (0 + 1) + 1 + (0 + 1) + 1 + (0 + 1) + 1 + (0 + 1) + 1 + (0 + 1) + 1 + (0 + 1) + 1 + (0 + 1 + (0 + 1) + 1 + (0 + 1) + 1 + (0 + 1))) + 1 + (0 + 1 + (0 + 1)) + 1 + (0 + 1 + (0 + 1)) + 1 + (0 + 1 + (0 + 1)) + 1 + (0 + 1 + (0 + 1)) by omega), (show 0 + 20 + (0 + 1 + (0 + 4) + 1 + (0 + 4) + 1 + (0 + 4) + 1 + (0 + 6) + 1 + (0 + 6) + 1 + (0 + 10) + 1 + (0 + 10) + 1 + (0 + 10) + 1 + (0 + 24) + 1 + (0 + 24) + 1 + (0 + 24) + 1 + (0 + 24) + 1 + (0 + 24) + 1 + (0 + 24) + 4 + (0 + 1 + (0 + 400) + 1 + (0 + 400) + 1 + (0 + 400))) + 3 + (0 + 1 + (0 + 4)) + 3 + (0 + 1 + (0 + 4)) + 3 + (0 + 1 + (0 + 6)) ≤ 0 + 20 + (0 + 1 + (0 + 4) + 1 + (0 + 4) + 1 + (0 + 4) + 1 + (0 + 6) + 1 + (0 + 6) + 1 + (0 + 10) + 1 + (0 + 10) + 1 + (0 + 10) + 1 + (0 + 24) + 1 + (0 + 24) + 1 + (0 + 24) + 1 + (0 + 24) + 1 + (0 + 24) + 1 + (0 + 24) + 4 + (0 + 1 + (0 + 400) + 1 + (0 + 400) + 1 + (0 + 400))) + 3 + (0 + 1 + (0 + 4)) + 3 + (0 + 1 + (0 + 4)) + 3 + (0 + 1 + (0 + 6)) + 3 + (0 + 1 + (0 + 10)) by omega)⟩ dX5_init_51 (by omega) fun H1 locs1 hz hP hS => ?_
  have t0 : u51.1 k = some (sO 4 [(k + 4), (kt + 3), (k + 40), (k + 43), 2, 2, 0, 0, 0]) := (low_Names (q := k) e51 (by omega)).1.trans t0
  obtain ⟨u54, e54, h⟩ := bnd_e h
  refine w_putF (cd := (k + 46)) (y := 0) hx hb hts hown hK hP hS (Nat.le_refl _) FX5_32 hnm t0 rfl rfl rfl rfl dX5_init_54 fun H1 locs1 hq hP hS => ?_
  have hz := hq.trans hz
  have hP : Wd Γ u54.1 u54.2 w H1 := by rw [← e54]; exact hP
  have t0 : u54.1 k = some (sO 4 [(k + 4), (kt + 3), (k + 40), (k + 43), (k + 46), 2, 0, 0, 0]) := by rw [← e54]; exact up_eq _ _ _
  refine lv_aload_n hx hb dX5_init_57 rfl (lv_at hl 0 rfl) ?_
  obtain ⟨u58, e58, h⟩ := bnd_e h
  refine w_new (n := (k + 46)) hx hb hts hown hK hP hS nX5_20 (show 0 + 1 + (0 + 1 + (0 + 1) + 1 + (0 + 1) + 1 + (0 + 1) + 1 + (0 + 1) + 1 + (0 + 1) + 1 + (0 + 1) + 1 + (0 + 1) + 1 + (0 + 1) + 1 + (0 + 1) + 1 + (0 + 1) + 1 + (0 + 1) + 1 + (0 + 1) + 1 + (0 + 1) + 1 + (0 + 1) + 1 + (0 + 1 + (0 + 1) + 1 + (0 + 1) + 1 + (0 + 1))) + 1 + (0 + 1 + (0 + 1)) + 1 + (0 + 1 + (0 + 1)) + 1 + (0 + 1 + (0 + 1)) + 1 ≤ 0 + 1 + (0 + 1 + (0 + 1) + 1 + (0 + 1) + 1 + (0 + 1) + 1 + (0 + 1) + 1 + (0 + 1) + 1 + (0 + 1) + 1 + (0 + 1) + 1 + (0 + 1) + 1 + (0 + 1) + 1 + (0 + 1) + 1 + (0 + 1) + 1 + (0 + 1) + 1 + (0 + 1) + 1 + (0 + 1) + 1 + (0 + 1 + (0 + 1) + 1 + (0 + 1) + 1 + (0 + 1))) + 1 + (0 + 1 + (0 + 1)) + 1 + (0 + 1 + (0 + 1)) + 1 + (0 + 1 + (0 + 1)) + 1 + (0 + 1 + (0 + 1)) by omega) (show 0 + 20 + (0 + 1 + (0 + 4) + 1 + (0 + 4) + 1 + (0 + 4) + 1 + (0 + 6) + 1 + (0 + 6) + 1 + (0 + 10) + 1 + (0 + 10) + 1 + (0 + 10) + 1 + (0 + 24) + 1 + (0 + 24) + 1 + (0 + 24) + 1 + (0 + 24) + 1 + (0 + 24) + 1 + (0 + 24) + 4 + (0 + 1 + (0 + 400) + 1 + (0 + 400) + 1 + (0 + 400))) + 3 + (0 + 1 + (0 + 4)) + 3 + (0 + 1 + (0 + 4)) + 3 + (0 + 1 + (0 + 6)) + 3 ≤ 0 + 20 + (0 + 1 + (0 + 4) + 1 + (0 + 4) + 1 + (0 + 4) + 1 + (0 + 6) + 1 + (0 + 6) + 1 + (0 + 10) + 1 + (0 + 10) + 1 + (0 + 10) + 1 + (0 + 24) + 1 + (0 + 24) + 1 + (0 + 24) + 1 + (0 + 24) + 1 + (0 + 24) + 1 + (0 + 24) + 4 + (0 + 1 + (0 + 400) + 1 + (0 + 400) + 1 + (0 + 400))) + 3 + (0 + 1 + (0 + 4)) + 3 + (0 + 1 + (0 + 4)) + 3 + (0 + 1 + (0 + 6)) + 3 + (0 + 1 + (0 + 10)) by omega) hz dX5_init_58 fun H1 hz hP hS => ?_
  have hP : Wd Γ u58.1 u58.2 w H1 := by rw [← e58]; exact hP
  have t2 : u58.1 (k + 46) = some (sO 2 [2, 0, 0]) := by rw [← e58]; exact up_eq _ _ _
  have t0 : u58.1 k = some (sO 4 [(k + 4), (kt + 3), (k + 40), (k + 43), (k + 46), 2, 0, 0, 0]) := (low_kO e58 (by omega)).1.trans t0
  refine lv_dup hx hb dX5_init_61 rfl ?_
  refine lv_bipush (v := 10) hx hb dX5_init_62 rfl ?_
  obtain ⟨u64, e64, h⟩ := bnd_e h
  refine w_cK (u := u58) (q := u64) (k := (k + 46)) (k0 := k) hx hb hml hts hown hK hP hS hz (i_Names (N := 10) t2 (Nat.le_of_ble_eq_true rfl) e64) kX3_init mX5_22 rfl rfl hl.1 (Nat.le_of_ble_eq_true rfl) ⟨Nat.le_of_ble_eq_true rfl, Nat.le_of_ble_eq_true rfl⟩ ⟨(show 0 + 1 + (0 + 1 + (0 + 1) + 1 + (0 + 1) + 1 + (0 + 1) + 1 + (0 + 1) + 1 + (0 + 1) + 1 + (0 + 1) + 1 + (0 + 1) + 1 + (0 + 1) + 1 + (0 + 1) + 1 + (0 + 1) + 1 + (0 + 1) + 1 + (0 + 1) + 1 + (0 + 1) + 1 + (0 + 1) + 1 + (0 + 1 + (0 + 1) + 1 + (0 + 1) + 1 + (0 + 1))) + 1 + (0 + 1 + (0 + 1)) + 1 + (0 + 1 + (0 + 1)) + 1 + (0 + 1 + (0 + 1)) + 1 + (0 + 1 + (0 + 1)) ≤ 0 + 1 + (0 + 1 + (0 + 1) + 1 + (0 + 1) + 1 + (0 + 1) + 1 + (0 + 1) + 1 + (0 + 1) + 1 + (0 + 1) + 1 + (0 + 1) + 1 + (0 + 1) + 1 + (0 + 1) + 1 + (0 + 1) + 1 + (0 + 1) + 1 + (0 + 1) + 1 + (0 + 1) + 1 + (0 + 1) + 1 + (0 + 1 + (0 + 1) + 1 + (0 + 1) + 1 + (0 + 1))) + 1 + (0 + 1 + (0 + 1)) + 1 + (0 + 1 + (0 + 1)) + 1 + (0 + 1 + (0 + 1)) + 1 + (0 + 1 + (0 + 1)) by omega), (show 0 + 20 + (0 + 1 + (0 + 4) + 1 + (0 + 4) + 1 + (0 + 4) + 1 + (0 + 6) + 1 + (0 + 6) + 1 + (0 + 10) + 1 + (0 + 10) + 1 + (0 + 10) + 1 + (0 + 24) + 1 + (0 + 24) + 1 + (0 + 24) + 1 + (0 + 24) + 1 + (0 + 24) + 1 + (0 + 24) + 4 + (0 + 1 + (0 + 400) + 1 + (0 + 400) + 1 + (0 + 400))) + 3 + (0 + 1 + (0 + 4)) + 3 + (0 + 1 + (0 + 4)) + 3 + (0 + 1 + (0 + 6)) + 3 + (0 + 1 + (0 + 10)) ≤ 0 + 20 + (0 + 1 + (0 + 4) + 1 + (0 + 4) + 1 + (0 + 4) + 1 + (0 + 6) + 1 + (0 + 6) + 1 + (0 + 10) + 1 + (0 + 10) + 1 + (0 + 10) + 1 + (0 + 24) + 1 + (0 + 24) + 1 + (0 + 24) + 1 + (0 + 24) + 1 + (0 + 24) + 1 + (0 + 24) + 4 + (0 + 1 + (0 + 400) + 1 + (0 + 400) + 1 + (0 + 400))) + 3 + (0 + 1 + (0 + 4)) + 3 + (0 + 1 + (0 + 4)) + 3 + (0 + 1 + (0 + 6)) + 3 + (0 + 1 + (0 + 10)) by omega)⟩ dX5_init_64 (by omega) fun H1 locs1 hz hP hS => ?_
  have t0 : u64.1 k = some (sO 4 [(k + 4), (kt + 3), (k + 40), (k + 43), (k + 46), 2, 0, 0, 0]) := (low_Names (q := k) e64 (by omega)).1.trans t0
  obtain ⟨u67, e67, h⟩ := bnd_e h
  refine w_putF (cd := (k + 49)) (y := 0) hx hb hts hown hK hP hS (Nat.le_refl _) FX5_35 hnm t0 rfl rfl rfl rfl dX5_init_67 fun H1 locs1 hq hP hS => ?_
  have hz := hq.trans hz
  have hP : Wd Γ u67.1 u67.2 w H1 := by rw [← e67]; exact hP
  have t0 : u67.1 k = some (sO 4 [(k + 4), (kt + 3), (k + 40), (k + 43), (k + 46), (k + 49), 0, 0, 0]) := by rw [← e67]; exact up_eq _ _ _
  refine lv_aload_n hx hb dX5_init_70 rfl (lv_at hl 0 rfl) ?_
  refine lv_iconst (v := 0) hx hb dX5_init_71 rfl ?_
  obtain ⟨u72, e72, h⟩ := bnd_e h
  refine w_put (cd := 0) (y := 0) hx hb hts hown hK hP hS (Nat.le_refl _) fX5_38 t0 rfl rfl rfl rfl dX5_init_72 fun H1 locs1 hq hP hS => ?_
  have hz := hq.trans hz
  have hP : Wd Γ u72.1 u72.2 w H1 := by rw [← e72]; exact hP
  have t0 : u72.1 k = some (sO 4 [(k + 4), (kt + 3), (k + 40), (k + 43), (k + 46), (k + 49), 0, 0, 0]) := by rw [← e72]; exact up_eq _ _ _
  refine lv_aload_n hx hb dX5_init_75 rfl (lv_at hl 0 rfl) ?_
  refine lv_iconst (v := 0) hx hb dX5_init_76 rfl ?_
  obtain ⟨u77, e77, h⟩ := bnd_e h
  refine w_put (cd := 0) (y := 0) hx hb hts hown hK hP hS (Nat.le_refl _) fX5_42 t0 rfl rfl rfl rfl dX5_init_77 fun H1 locs1 hq hP hS => ?_
  have hz := hq.trans hz
  have hP : Wd Γ u77.1 u77.2 w H1 := by rw [← e77]; exact hP
  have t0 : u77.1 k = some (sO 4 [(k + 4), (kt + 3), (k + 40), (k + 43), (k + 46), (k + 49), 0, 0, 0]) := by rw [← e77]; exact up_eq _ _ _
  refine lv_aload_n hx hb dX5_init_80 rfl (lv_at hl 0 rfl) ?_
  refine lv_iconst (v := 0) hx hb dX5_init_81 rfl ?_
  obtain ⟨u82, e82, h⟩ := bnd_e h
  refine w_put (cd := 0) (y := 0) hx hb hts hown hK hP hS (Nat.le_refl _) fX5_45 t0 rfl rfl rfl rfl dX5_init_82 fun H1 locs1 hq hP hS => ?_
  have hz := hq.trans hz
  have hP : Wd Γ u82.1 u82.2 w H1 := by rw [← e82]; exact hP
  have t0 : u82.1 k = some (sO 4 [(k + 4), (kt + 3), (k + 40), (k + 43), (k + 46), (k + 49), 0, 0, 0]) := by rw [← e82]; exact up_eq _ _ _
  subst h
  exact w_kret hx hb hret hlk hK hP hS hz dX5_init_85
def K_Reckoner (u : Sh × Va) (k : Nat) (kst : Nat) (ksd : Nat) : Sh × Va := bnd (kR u k 5 [(kst + 3), 2, 2, 0] 0 0) fun u6 => bnd (kR u6 k 5 [(kst + 3), (ksd + 3), 2, 0] 1 0) fun u11 => bnd (kO u11 (k + 1) 6 [2]) fun u15 => bnd (K_Row u15 (k + 1) 400) fun u22 => bnd (kR u22 k 5 [(kst + 3), (ksd + 3), (k + 4), 0] 2 0) fun u25 => bnd (kR u25 k 5 [(kst + 3), (ksd + 3), (k + 4), 0] 3 0) fun u30 => u30
theorem low_Reckoner {u r : Sh × Va} {k q : Nat} {kst : Nat} {ksd : Nat} (h : K_Reckoner u k kst ksd = r) (hq : q < k) : lowq q r u := by
  unfold K_Reckoner at h
  have lc : lowq q u u := ⟨rfl, rfl⟩
  obtain ⟨u6, e6, h⟩ := bnd_e h
  have lc := (low_kR (q := q) e6 (by omega)).tr lc
  obtain ⟨u11, e11, h⟩ := bnd_e h
  have lc := (low_kR (q := q) e11 (by omega)).tr lc
  obtain ⟨u15, e15, h⟩ := bnd_e h
  have lc := (low_kO (q := q) e15 (by omega)).tr lc
  obtain ⟨u22, e22, h⟩ := bnd_e h
  have lc := (low_Row (q := q) e22 (by omega)).tr lc
  obtain ⟨u25, e25, h⟩ := bnd_e h
  have lc := (low_kR (q := q) e25 (by omega)).tr lc
  obtain ⟨u30, e30, h⟩ := bnd_e h
  have lc := (low_kR (q := q) e30 (by omega)).tr lc
  rw [← h]; exact lc
theorem i_Reckoner {l : Launch} {Γ : Cx} {u : Sh × Va} {w : Vl} {k : Nat} {kst : Nat} {ksd : Nat} (t0 : u.1 k = some (sO 5 [2, 2, 2, 0])) {r : Sh × Va} (h : K_Reckoner u k kst ksd = r) : MetK l yX6_init cX6_init 3 2 (0 + 1 + (0 + 1)) (0 + 1 + (0 + 400)) Γ k u w (k + 1) [.ref (Γ.2.1 + k), .ref (Γ.2.1 + kst), .ref (Γ.2.1 + ksd)] r (k + 3) := by
  unfold K_Reckoner at h
  refine w_startK pn_X6 (Nat.le_of_ble_eq_true rfl) fun p e s m args below meth c hx hb hml hret hlk hnm hts hown hK hP hz hS ls hl => ?_
  refine lv_aload_n hx hb dX6_init_0 rfl (lv_at hl 0 rfl) ?_
  refine W.objInit hx hb hown (hts _ xoX6_1) (hts _ xoi) (hts _ xoc) rfl (by rw [hml]; exact hl.1) rfl dX6_init_1 (Nat.le_of_ble_eq_true rfl) (Nat.le_of_ble_eq_true rfl) ?_
  refine lv_aload_n hx hb dX6_init_4 rfl (lv_at hl 0 rfl) ?_
  refine lv_aload_n hx hb dX6_init_5 rfl (lv_at hl 1 rfl) ?_
  obtain ⟨u6, e6, h⟩ := bnd_e h
  refine w_putF (cd := (kst + 3)) (y := 0) hx hb hts hown hK hP hS (Nat.le_refl _) FX6_7 hnm t0 rfl rfl rfl rfl dX6_init_6 fun H1 locs1 hq hP hS => ?_
  have hz := hq.trans hz
  have hP : Wd Γ u6.1 u6.2 w H1 := by rw [← e6]; exact hP
  have t0 : u6.1 k = some (sO 5 [(kst + 3), 2, 2, 0]) := by rw [← e6]; exact up_eq _ _ _
  refine lv_aload_n hx hb dX6_init_9 rfl (lv_at hl 0 rfl) ?_
  refine lv_aload_n hx hb dX6_init_10 rfl (lv_at hl 2 rfl) ?_
  obtain ⟨u11, e11, h⟩ := bnd_e h
  refine w_putF (cd := (ksd + 3)) (y := 0) hx hb hts hown hK hP hS (Nat.le_refl _) FX6_13 hnm t0 rfl rfl rfl rfl dX6_init_11 fun H1 locs1 hq hP hS => ?_
  have hz := hq.trans hz
  have hP : Wd Γ u11.1 u11.2 w H1 := by rw [← e11]; exact hP
  have t0 : u11.1 k = some (sO 5 [(kst + 3), (ksd + 3), 2, 0]) := by rw [← e11]; exact up_eq _ _ _
  refine lv_aload_n hx hb dX6_init_14 rfl (lv_at hl 0 rfl) ?_
  obtain ⟨u15, e15, h⟩ := bnd_e h
  refine w_new (n := (k + 1)) hx hb hts hown hK hP hS nX6_17 (show 0 + 1 ≤ 0 + 1 + (0 + 1) by omega) (show 0 + 1 ≤ 0 + 1 + (0 + 400) by omega) hz dX6_init_15 fun H1 hz hP hS => ?_
  have hP : Wd Γ u15.1 u15.2 w H1 := by rw [← e15]; exact hP
  have t2 : u15.1 (k + 1) = some (sO 6 [2]) := by rw [← e15]; exact up_eq _ _ _
  have t0 : u15.1 k = some (sO 5 [(kst + 3), (ksd + 3), 2, 0]) := (low_kO e15 (by omega)).1.trans t0
  refine lv_dup hx hb dX6_init_18 rfl ?_
  refine lv_sipush (v := 400) hx hb dX6_init_19 rfl ?_
  obtain ⟨u22, e22, h⟩ := bnd_e h
  refine w_cK (u := u15) (q := u22) (k := (k + 1)) (k0 := k) hx hb hml hts hown hK hP hS hz (i_Row (N := 400) t2 (Nat.le_of_ble_eq_true rfl) e22) kX7_init mX6_21 rfl rfl hl.1 (Nat.le_of_ble_eq_true rfl) ⟨Nat.le_of_ble_eq_true rfl, Nat.le_of_ble_eq_true rfl⟩ ⟨(show 0 + 1 + (0 + 1) ≤ 0 + 1 + (0 + 1) by omega), (show 0 + 1 + (0 + 400) ≤ 0 + 1 + (0 + 400) by omega)⟩ dX6_init_22 (by omega) fun H1 locs1 hz hP hS => ?_
  have t0 : u22.1 k = some (sO 5 [(kst + 3), (ksd + 3), 2, 0]) := (low_Row (q := k) e22 (by omega)).1.trans t0
  obtain ⟨u25, e25, h⟩ := bnd_e h
  refine w_putF (cd := (k + 4)) (y := 0) hx hb hts hown hK hP hS (Nat.le_refl _) FX6_24 hnm t0 rfl rfl rfl rfl dX6_init_25 fun H1 locs1 hq hP hS => ?_
  have hz := hq.trans hz
  have hP : Wd Γ u25.1 u25.2 w H1 := by rw [← e25]; exact hP
  have t0 : u25.1 k = some (sO 5 [(kst + 3), (ksd + 3), (k + 4), 0]) := by rw [← e25]; exact up_eq _ _ _
  refine lv_aload_n hx hb dX6_init_28 rfl (lv_at hl 0 rfl) ?_
  refine lv_iconst (v := 0) hx hb dX6_init_29 rfl ?_
  obtain ⟨u30, e30, h⟩ := bnd_e h
  refine w_put (cd := 0) (y := 0) hx hb hts hown hK hP hS (Nat.le_refl _) fX6_28 t0 rfl rfl rfl rfl dX6_init_30 fun H1 locs1 hq hP hS => ?_
  have hz := hq.trans hz
  have hP : Wd Γ u30.1 u30.2 w H1 := by rw [← e30]; exact hP
  have t0 : u30.1 k = some (sO 5 [(kst + 3), (ksd + 3), (k + 4), 0]) := by rw [← e30]; exact up_eq _ _ _
  subst h
  exact w_kret hx hb hret hlk hK hP hS hz dX6_init_33
