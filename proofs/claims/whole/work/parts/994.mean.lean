/-! MEAN, which may draw a NaN's bits -/
def f_Quay_mean (v : Va) : Option UInt64 := if (v 61 3) ≤ 0 then some FP.dconst0 else ((f_Stand_weightOfAll v 97).bind fun q => some (FP.ddiv (FP.i2d q) (FP.i2d (v 61 3))))
def f_Model_mean (z : Nat) (v : Va) (sp : Nat) : Option (UInt64 × Va) := bnd (pu v 149 0 0) fun v2 => if (v2 sp 15) = 0 then some (FP.dconst0, v2) else ((f_Model_weightOf z v2 sp 173).bind fun q => some (FP.ddiv (FP.i2d q) (FP.i2d (v2 sp 15)), v2))
def MetF (l : Launch) (y : MethodName) (b : ByteArray) (mL : Nat) (h : Nat) (Γ : Cx) (sh : Sh) (v : Va) (w : Vl) (n : Nat) (As : List Value) (post : UInt64 → Va → Prop) : Prop := MetD lw_cs l y (ws_ y b mL (some .double)) (rmh h) (va_Pc As (PN Γ sh v w n)) (va_Qd post (fun u => PN Γ sh u w n) (gA Γ)) 0 0 (gA Γ)
section WM
variable {p : Program} {l : Launch} {e : Env} {R : Room} {s : State} {m : MethodId} {args : Array Value} {below : List Frame} {meth : Method} {c : Code} {H H0 : Heap} {locs : List Loc} {cells slots : Nat} {Q : State → Prop}
variable {cc : ByteArray} {pc nL : Nat} {ls : Array Slot} {st0 rest As : List Value} {Γ : Cx} {sh : Sh} {v v1 : Va} {w : Vl} {own : String} {idx ci j k n nn hh mL : Nat} {cs : List Nat} {y : MethodName} {b : ByteArray} {d0 : Drawn}
theorem w_dret (hx : p.tables.exec = Jvm.exec) (hb : c.code = cc) {r : UInt64} (hr : meth.sig.returnType = some .double) (hlocks : meth.locks = false) (hK : wK Γ s) (hP : Wd Γ sh v w H) (hS : va_S (gA Γ) s.heap H locs) (hz : H.size = Γ.2.1 + n) (hE : EN Γ s) {post : UInt64 → Va → Prop} (hp : post r v) (hdg : decode cc pc = .ok (.dreturn, 1)) : W p l e R s m args below meth c H locs cells slots (MQ below (va_Qd post (fun u => PN Γ sh u w n) (gA Γ)) args s cells slots (gA Γ)) (F0 m pc ls [.double r]) :=
  W.dret hx hb hr (fun t ht hW => ⟨⟨r, v, rfl, hp, ⟨by rw [ht]; exact hP, va_K.moved hW.alike hK, by rw [ht]; exact hz, hE.go hS ht hW⟩⟩, hS.F ht⟩) hS.2.2 hdg hlocks
theorem w_startD {l : Launch} {y : MethodName} {cc : ByteArray} {mL : Nat} {ret : Option FieldType} {rm : Room} {Γ : Cx} {sh : Sh} {v : Va} {w : Vl} {n : Nat} {As : List Value} {Qc : Array Value → State → Outcome → State → Prop} {mc ms : Nat} (hy : plainName y.cls = true) (hlen : (lg_sl As).length ≤ mL)
    (body : ∀ (p : Program) (e : Env) (s : State) (m : MethodId) (args : Array Value) (below : List Frame) (meth : Method) (c : Code), p.tables.exec = Jvm.exec → c.code = cc → c.maxLocals = mL → meth.sig.returnType = ret → meth.locks = false → (∀ d : Drawn, ∀ w ∈ lw_all, w.before args (s.setDrawn d) = true) → s.vm.findClass y.cls = some m.cls → wK Γ s → Wd Γ sh v w s.heap → s.heap.size = Γ.2.1 + n → EN Γ s → va_S (gA Γ) s.heap s.heap [] → s.drawn.sameBut s.drawn lw_cs → ∀ ls, lv_has ls mL (lv_args 0 As) →
      W p l e rm (s.setDrawn s.drawn) m args below meth c s.heap [] 0 0 (MQD lw_cs below Qc args s mc ms (gA Γ)) (F0 m 0 ls [])) : MetD lw_cs l y (ws_ y cc mL ret) rm (va_Pc As (PN Γ sh v w n)) Qc mc ms (gA Γ) := by
  refine MetD.ofW (cc := cc) (maxL := mL) (ret := ret) hy rfl ?_
  intro p e s m args below meth c s₁ B hml hv hd0
  obtain ⟨rfl, hP, hK, hz, hE⟩ := hv
  have hts := atoms_spec (ws := ws_ y cc mL ret) B.pre
  have hts2 : ∀ w ∈ lw_all, w.before As.toArray s = true := fun w hw => hts w (List.mem_cons_of_mem _ hw)
  have hl := lv_entry As (n := mL) hlen
  rw [lg_entry_eq]
  exact body p e s m _ below meth c B.exec B.bytes hml B.returns B.notSynchronized (fun d => dr_words hts2 d) (findClass_of_methodNamed B.named) hK hP hz hE va_S.rf hd0 _ hl
theorem al_refl (x : UInt64) : alike64 x x = true := by
  unfold alike64
  rw [decide_eq_true rfl]; rfl
theorem c_Quay_mean (hk : isQuay sh) {q : UInt64} (h : f_Quay_mean v = some q) : MetF l yX11_mean cX11_mean 1 2 Γ sh v w n [.ref (Γ.2.1 + 0)] (fun r u => alike64 r q = true ∧ u = v) := by
  unfold f_Quay_mean at h
  refine w_startD pn_X11 (Nat.le_of_ble_eq_true rfl) fun p e s m args below meth c hx hb hml hret hlk hts hown hK hP hz hE hS hd0 ls hl => ?_
  refine lv_aload_n hx hb dX11_mean_0 rfl (lv_at hl 0 rfl) ?_
  refine w_gr (k := 0) (r := 61) hx hb (hts _) hown hK hP fX11_39 hk.1 rfl dX11_mean_1 ?_
  refine w_gi (k := 61) hx hb (hts _) hown hK hP fX11_247 hk.2.2.2.2.1.1 rfl dX11_mean_4 ?_
  refine lv_if_le (tgt := 30) hx hb dX11_mean_7 rfl (fun hc7 => ?_) (fun hc7 => ?_)
  · have h := itt_e h hc7
    refine lv_dconst0 hx hb dX11_mean_30 ?_
    refine W.endD hd0 ?_
    have hq : alike64 FP.dconst0 q = true ∧ v = v := by cases h; exact ⟨al_refl _, rfl⟩
    exact w_dret (s := s.setDrawn s.drawn) hx hb hret hlk hK hP hS hz hE hq dX11_mean_31
  · have h := itf_e h hc7
    refine lv_aload_n hx hb dX11_mean_10 rfl (lv_at hl 0 rfl) ?_
    refine w_gr (k := 0) (r := 97) hx hb (hts _) hown hK hP fX11_48 hk.1 rfl dX11_mean_11 ?_
    obtain ⟨q14, e14, h⟩ := obn_e h
    refine z_Vi (k := 97) (r1 := q14) (v1 := v) hx hb hml (hts _) hown hK hP hS hz hE (c_Stand_weightOfAll hk.2.2.2.2.2.1 e14) kX8_weightOfAll mX11_233 hk.2.2.2.2.2.1.1 rfl rfl rfl hl.1 (Nat.le_of_ble_eq_true rfl) ⟨Nat.le_of_ble_eq_true rfl, Nat.le_of_ble_eq_true rfl⟩ ⟨Nat.zero_le _, Nat.zero_le _⟩ dX11_mean_14 fun H1 locs1 hz hP hS => ?_
    refine lv_i2d hx hb dX11_mean_17 ?_
    refine lv_aload_n hx hb dX11_mean_18 rfl (lv_at hl 0 rfl) ?_
    refine w_gr (k := 0) (r := 61) hx hb (hts _) hown hK hP fX11_39 hk.1 rfl dX11_mean_19 ?_
    refine w_gi (k := 61) hx hb (hts _) hown hK hP fX11_247 hk.2.2.2.2.1.1 rfl dX11_mean_22 ?_
    refine lv_i2d hx hb dX11_mean_25 ?_
    refine lv_ddiv_any hd0 lw_bits hx hb dX11_mean_26 (fun r d1 hal hd1 => ?_)
    refine lv_goto (tgt := 31) hx hb dX11_mean_27 rfl ?_
    refine W.endD hd1 ?_
    have hq : alike64 r q = true ∧ v = v := by cases h; exact ⟨hal, rfl⟩
    exact w_dret (s := s.setDrawn d1) hx hb hret hlk hK hP hS hz hE hq dX11_mean_31
theorem c_Model_mean {z sp : Nat} (hk : isModel sh sp) {q : UInt64 × Va} (h : f_Model_mean z v sp = some q) : MetF l yX14_mean cX14_mean 1 1 Γ sh v w n [.ref (Γ.2.1 + 149)] (fun r u => alike64 r q.1 = true ∧ u = q.2) := by
  unfold f_Model_mean at h
  refine w_startD pn_X14 (Nat.le_of_ble_eq_true rfl) fun p e s m args below meth c hx hb hml hret hlk hts hown hK hP hz hE hS hd0 ls hl => ?_
  refine lv_aload_n hx hb dX14_mean_0 rfl (lv_at hl 0 rfl) ?_
  refine lv_iconst (v := 0) hx hb dX14_mean_1 rfl ?_
  obtain ⟨v2, e2, h⟩ := bnd_e h
  refine w_pi2 (k := 149) hx hb (hts _) hown hK hP hS hz fX14_40 hk.1 rfl e2 dX14_mean_2 fun H1 locs1 hz hP hS => ?_
  refine lv_aload_n hx hb dX14_mean_5 rfl (lv_at hl 0 rfl) ?_
  refine w_gr (k := 149) (r := sp) hx hb (hts _) hown hK hP fX14_20 hk.1 rfl dX14_mean_6 ?_
  refine w_gi (k := sp) hx hb (hts _) hown hK hP fX14_54 hk.2.2.1.1 rfl dX14_mean_9 ?_
  refine lv_if_ne (tgt := 19) hx hb dX14_mean_12 rfl (fun hc12 => ?_) (fun hc12 => ?_)
  · have h := itf_e h hc12
    refine lv_aload_n hx hb dX14_mean_19 rfl (lv_at hl 0 rfl) ?_
    refine lv_aload_n hx hb dX14_mean_20 rfl (lv_at hl 0 rfl) ?_
    refine w_gr (k := 149) (r := 173) hx hb (hts _) hown hK hP fX14_27 hk.1 rfl dX14_mean_21 ?_
    obtain ⟨q24, e24, h⟩ := obn_e h
    refine z_Vi (k := 149) (r1 := q24) (v1 := v2) hx hb hml (hts _) hown hK hP hS hz hE (c_Model_weightOf hk hk.2.2.2.1 e24) kX14_weightOf mX14_397 hk.1 rfl rfl rfl hl.1 (Nat.le_of_ble_eq_true rfl) ⟨Nat.le_of_ble_eq_true rfl, Nat.le_of_ble_eq_true rfl⟩ ⟨Nat.zero_le _, Nat.zero_le _⟩ dX14_mean_24 fun H1 locs1 hz hP hS => ?_
    refine lv_i2d hx hb dX14_mean_27 ?_
    refine lv_aload_n hx hb dX14_mean_28 rfl (lv_at hl 0 rfl) ?_
    refine w_gr (k := 149) (r := sp) hx hb (hts _) hown hK hP fX14_20 hk.1 rfl dX14_mean_29 ?_
    refine w_gi (k := sp) hx hb (hts _) hown hK hP fX14_54 hk.2.2.1.1 rfl dX14_mean_32 ?_
    refine lv_i2d hx hb dX14_mean_35 ?_
    refine lv_ddiv_any hd0 lw_bits hx hb dX14_mean_36 (fun r d1 hal hd1 => ?_)
    refine W.endD hd1 ?_
    have hq : alike64 r q.1 = true ∧ v2 = q.2 := by cases h; exact ⟨hal, rfl⟩
    exact w_dret (s := s.setDrawn d1) hx hb hret hlk hK hP hS hz hE hq dX14_mean_37
  · have h := itt_e h hc12
    refine lv_dconst0 hx hb dX14_mean_15 ?_
    refine lv_goto (tgt := 37) hx hb dX14_mean_16 rfl ?_
    refine W.endD hd0 ?_
    have hq : alike64 FP.dconst0 q.1 = true ∧ v2 = q.2 := by cases h; exact ⟨al_refl _, rfl⟩
    exact w_dret (s := s.setDrawn s.drawn) hx hb hret hlk hK hP hS hz hE hq dX14_mean_37
theorem z_VD (hd0 : s.drawn.sameBut d0 lw_cs) (hx : p.tables.exec = Jvm.exec) (hb : c.code = cc) (hml : c.maxLocals = nL) (hts : ∀ w ∈ lw_all, w.before args (s.setDrawn d0) = true) (hown : s.vm.findClass own = some m.cls) (hK : wK Γ s) (hP : Wd Γ sh v w H) (hS : va_S (gA Γ) s.heap H locs) (hz : H.size = Γ.2.1 + n) (hE : EN Γ s) {post : UInt64 → Va → Prop} (hM : MetF l y b mL hh Γ sh v w n (.ref (Γ.2.1 + k) :: As) post) (hC : CAV y b mL (some .double) nn) (hL : Cond.methodLink own idx y ∈ lw_all) (he : sh k = some (sO ci cs)) (hcl : (vwCl[ci]?).map (fun q => q.1) = some y.cls) (hst : st0 = As.reverse ++ .ref (Γ.2.1 + k) :: rest) (hn : As.length = nn) (hls : ls.size = nL) (hW : (rest.map fun v => v.category).sum ≤ 8) (hR : hh + 1 ≤ R.frames ∧ 8 + (mL + 11) + 40 * hh ≤ R.locals) (hf : cells ≤ R.cells ∧ slots ≤ R.slots) (hdg : decode cc pc = .ok (.invokevirtual idx, 3))
    (kk : ∀ (r : UInt64) (u : Va) (H1 : Heap) (locs1 : List Loc) (d1 : Drawn), post r u → H1.size = Γ.2.1 + n → Wd Γ sh u w H1 → va_S (gA Γ) s.heap H1 locs1 → s.drawn.sameBut d1 lw_cs → W p l e R (s.setDrawn d1) m args below meth c H1 locs1 cells slots Q (F0 m (pc + 3) ls (.double r :: rest))) : W p l e R (s.setDrawn d0) m args below meth c H locs cells slots Q (F0 m pc ls st0) := by
  obtain ⟨-, -, h1, h2, hax⟩ := id hC
  have hK' : wK Γ (s.setDrawn d0) := hK
  have hE' : EN Γ (s.setDrawn d0) := hE
  have hS' : va_S (gA Γ) (s.setDrawn d0).heap H locs := hS
  refine va_calldD hd0 (va_runV_D (C := y.cls) (n := nn) ⟨hx, hb, hml, hown, hts⟩ hM ⟨⟨rfl, rfl, hR.1, hR.2, w_hws hts hC.1, List.mem_cons_self, hts _ hC.1, hts _ hC.2.1, ⟨hax.1, hax.2.1⟩, w_len hax, hts _ hL⟩, hts _ h1, hts _ h2⟩ ⟨PN.blind, w_recv hK' hP he hcl, w_pn hK' hE' hS' hP hz⟩ rfl hn hls hst (by simpa [JFrame.monitorRoom] using hW) hdg hf) hS (fun q _ h => h) (fun q h => h) (fun r u t H1 locs1 ht hvm hp hB hz1 hk1 hS1 d1 hd1 => ?_)
  obtain ⟨hP1, -, hz2, -⟩ := hB
  rw [ht] at hP1 hz2
  exact kk r u H1 locs1 d1 hp hz2 hP1 hS1 hd1
end WM
section
variable {v : Va} {z sp : Nat}
theorem s_mean (hz : 4000 < z) (h : Inv z v sp) : ∃ y v2, f_Quay_mean v = some y ∧ f_Model_mean z v sp = some (y, v2) ∧ Inv z v2 sp := by
  obtain ⟨S, G, M, L, O, cs, ct, h⟩ := h
  have hL : L ≤ 10 := h.2.1.1.2.2.2.1
  obtain ⟨m1, m2, m3, m4, m5⟩ := h.mid (v1 := v) (fun _ _ => rfl)
  have l1 : v 61 3 = nI L := m1.2.1.2.2.2.1
  have l2 : (pu v 149 0 0) sp 15 = nI L := m1.2.2.1.2.2.2.1
  have w1 := weight_c m3
  have w2 := weight_m (z := z) m1 m4.1 hz
  unfold f_Quay_mean f_Model_mean
  rw [bd, l1, l2]
  by_cases h0 : L = 0
  · subst h0
    refine ⟨FP.dconst0, pu v 149 0 0, if_pos (by decide), if_pos rfl, h.told⟩
  · refine ⟨FP.ddiv (FP.i2d (row_t (pu v 149 0 0 (173 + 1)) 10)) (FP.i2d (nI L)), pu v 149 0 0, ?_, ?_, h.told⟩
    · rw [if_neg (by rw [show (0 : Int32) = nI 0 from rfl, le_n (by omega) (by omega)]; omega), w1, ob]
    · rw [if_neg (by rw [show (0 : Int32) = nI 0 from rfl, eq_n (by omega) (by omega)]; exact h0), w2, ob]
theorem nan_dec {x : UInt64} (h : isNaN64 x = true) : FP.dcmp x x = none := by
  have h1 : (0x7ff0000000000000 : UInt64) < x &&& 0x7fffffffffffffff := of_decide_eq_true h
  have h2 : (0x7ff0000000000000 : UInt64).toNat < (x &&& 0x7fffffffffffffff).toNat := UInt64.lt_iff_toNat_lt.mp h1
  rw [UInt64.toNat_and, show (0x7fffffffffffffff : UInt64).toNat = 2 ^ 63 - 1 from rfl, Nat.and_two_pow_sub_one_eq_mod, show (0x7ff0000000000000 : UInt64).toNat = 9218868437227405312 from rfl] at h2
  have hd : FP.Core.decode FP.Core.b64 x.toNat = .nan := by
    unfold FP.Core.decode FP.Core.fieldE FP.Core.fieldT
    have t1 : FP.Core.b64.tails = 4503599627370496 := by decide
    have t2 : FP.Core.b64.exps = 2048 := by decide
    rw [t1, t2]
    have p63 : (2 : Nat) ^ 63 = 9223372036854775808 := by decide
    rw [p63] at h2
    rw [if_pos (by omega), if_neg (by omega)]
  show FP.Core.order (FP.Core.decode FP.Core.b64 x.toNat) (FP.Core.decode FP.Core.b64 x.toNat) = none
  rw [hd]
  rfl
end
