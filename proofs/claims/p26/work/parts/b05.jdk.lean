/-! THE JDK: a builder of Latin-1 text, its strings -/
theorem xn_sb : Cond.initialized RJ4 ∈ lw_all := tk1 (i := 2) (by decide +kernel) rfl
theorem xmJ4_29 : Cond.methodLink RJ4 29 yJ5_append_cf1ce ∈ lw_all := tk6 (i := 171) (by decide +kernel) rfl
theorem xmJ5_204 : Cond.methodLink RJ5 204 yJ5_appendNull_278bc ∈ lw_all := tk6 (i := 175) (by decide +kernel) rfl
theorem xmJ5_100 : Cond.methodLink RJ5 100 yJ5_ensureCapacityInternal_d00df ∈ lw_all := tk6 (i := 179) (by decide +kernel) rfl
theorem xmJ5_104 : Cond.methodLink RJ5 104 yJ5_newCapacity_0f7a4 ∈ lw_all := tk6 (i := 183) (by decide +kernel) rfl
theorem xmJ5_83 : Cond.methodLink RJ5 83 yJ5_isLatin1_aae02 ∈ lw_all := tk6 (i := 208) (by decide +kernel) rfl
theorem xmJ5_208 : Cond.methodLink RJ5 208 yJ5_putStringAt_47b60 ∈ lw_all := tk6 (i := 221) (by decide +kernel) rfl
theorem xmJ5_397 : Cond.methodLink RJ5 397 yJ5_inflateIfNeededFor_a7421 ∈ lw_all := tk6 (i := 225) (by decide +kernel) rfl
theorem xmJ5_195 : Cond.methodLink RJ5 195 yJ5_inflate_da8c8 ∈ lw_all := tk6 (i := 230) (by decide +kernel) rfl
theorem xmJ4_53 : Cond.methodLink RJ4 53 yJ5_append_c97b9 ∈ lw_all := tk7 (i := 26) (by decide +kernel) rfl
theorem xmJ0_552 : Cond.methodLink RJ0 552 yJ5_getValue_6d5f1 ∈ lw_all := tk7 (i := 99) (by decide +kernel) rfl
theorem xmJ0_549 : Cond.methodLink RJ0 549 yJ5_length_8abf5 ∈ lw_all := tk7 (i := 104) (by decide +kernel) rfl
theorem sx_length : Cond.selects RJ4 yJ5_length_8abf5 yJ4_length_8abf5 ∈ lw_all := tk7 (i := 107) (by decide +kernel) rfl
theorem xi_sblen : Cond.instanceMethod yJ4_length_8abf5 ∈ lw_all := tk7 (i := 108) (by decide +kernel) rfl
theorem xk_sblen : Cond.code yJ4_length_8abf5 cJ4_length_8abf5 1 (some .int) ∈ lw_all := tk7 (i := 109) (by decide +kernel) rfl
theorem xmJ4_343 : Cond.methodLink RJ4 343 yJ5_length_8abf5 ∈ lw_all := tk7 (i := 110) (by decide +kernel) rfl
theorem xmJ0_1047 : Cond.methodLink RJ0 1047 yJ5_isLatin1_aae02 ∈ lw_all := tk7 (i := 112) (by decide +kernel) rfl
abbrev oSB : Sp := sO 13 [1, 0, 0, 0]
def fitN (v : Va) (p N : Nat) : Prop := ∀ i, i < N → (v p i).toInt8.toInt32 = v p i
/-- the builder at k, its bytes at p: the text L -/
def SBc (sh : Sh) (v : Va) (k p cap : Nat) (L : List Int32) : Prop := sh k = some oSB ∧ v k 1 = 0 ∧ v k 3 = nI L.length ∧ (v k 0).toNatClampNeg = p ∧ sh p = some (sB 1 cap) ∧ L.length ≤ cap ∧ cap ≤ 6000 ∧ fitN v p cap ∧ ∀ i, i < L.length → v p i = L.getD i 0
/-- a string that is only read: its bytes at av -/
def STc (sh : Sh) (v : Va) (ad av : Nat) (B : List Int32) : Prop := sh ad = some (sQ 12 [av + 3, 0, 0, 0]) ∧ sh av = some (sX 1 B.length) ∧ v ad 1 = 0 ∧ (∀ i, i < B.length → v av i = B.getD i 0) ∧ (∀ b ∈ B, 0 ≤ b.toInt ∧ b.toInt < 128) ∧ B.length ≤ 2500
theorem b_fit {x : Int32} (h : 0 ≤ x.toInt ∧ x.toInt < 128) : x.toInt8.toInt32 = x := by
  apply Int32.toInt_inj.mp
  rw [Int8.toInt_toInt32, Int32.toInt_toInt8]
  have e : ((2 ^ 8 : Nat) : Int) = 256 := rfl
  exact Int.bmod_eq_of_le (by omega) (by omega)
theorem STc.fit {sh : Sh} {v : Va} {ad av : Nat} {B : List Int32} (h : STc sh v ad av B) : fitN v av B.length := fun i hi => by
  rw [h.2.2.2.1 i hi]
  refine b_fit (h.2.2.2.2.1 _ ?_)
  rw [List.getD_eq_getElem?_getD, List.getElem?_eq_getElem hi]
  exact List.getElem_mem hi
/-- only the builder at k, and its bytes at p, and new cells have changed -/
def KP (sh : Sh) (v : Va) (n k p : Nat) (u : Wt) : Prop := GR sh n u.1 u.2.2 ∧ ∀ q, q < n → q ≠ k → q ≠ p → u.2.1 q = v q
section JD
variable {p : Program} {l : Launch} {e : Env} {R : Room} {s : State} {m : MethodId} {args : Array Value} {below : List Frame} {meth : Method} {c : Code} {H H0 : Heap} {locs : List Loc} {cells slots : Nat} {Q : State → Prop}
variable {cc : ByteArray} {pc nL : Nat} {ls : Array Slot} {st0 rest As Bs : List Value} {Γ : Cx} {sh sh0 : Sh} {v v1 : Va} {w : Vl} {own : String} {idx ci j k n n0 nn hh mL mc ms a : Nat} {cs : List Nat} {y : MethodName} {b : ByteArray} {ret : Option FieldType} {A : Nat → Prop}
theorem t_top {x x' : Int32} (h : x = x') (kk : W p l e R s m args below meth c H locs cells slots Q (F0 m pc ls (.int x' :: rest))) : W p l e R s m args below meth c H locs cells slots Q (F0 m pc ls (.int x :: rest)) := by rw [h]; exact kk
theorem u_calli {post : Int32 → Va → Prop} (hr : va_Run p l e R s m args below meth c H locs cells slots 0 0 (F0 m pc ls st0) rest (va_Qi post (fun u => PN Γ sh u w n) (gA Γ sh n) Bs.toArray) (gA Γ sh n)) (hG : GR sh0 n0 sh n) (hS : va_S (gA Γ sh0 n0) s.heap H locs)
    (kk : ∀ (r : Int32) (u : Va) (H1 : Heap) (locs1 : List Loc), post r u → H1.size = Γ.2.1 + n → Wd Γ sh u w H1 → va_S (gA Γ sh0 n0) s.heap H1 locs1 → W p l e R s m args below meth c H1 locs1 cells slots Q (F0 m (pc + 3) ls (.int r :: rest))) : W p l e R s m args below meth c H locs cells slots Q (F0 m pc ls st0) := by
  refine va_calli hr hS (fun q _ h => hG.A h) (fun q h => hG.A h) (fun r u t H1 locs1 ht hvm hp hB hz1 hk1 hS1 => ?_)
  obtain ⟨hP1, -, hz2, -⟩ := hB
  rw [ht] at hP1 hz2
  exact kk r u H1 locs1 hp hz2 hP1 hS1
theorem u_callv {post : Va → Prop} (hr : va_Run p l e R s m args below meth c H locs cells slots 0 0 (F0 m pc ls st0) rest (va_Qv post (fun u => PN Γ sh u w n) (gA Γ sh n) Bs.toArray) (gA Γ sh n)) (hG : GR sh0 n0 sh n) (hS : va_S (gA Γ sh0 n0) s.heap H locs)
    (kk : ∀ (u : Va) (H1 : Heap) (locs1 : List Loc), post u → H1.size = Γ.2.1 + n → Wd Γ sh u w H1 → va_S (gA Γ sh0 n0) s.heap H1 locs1 → W p l e R s m args below meth c H1 locs1 cells slots Q (F0 m (pc + 3) ls rest)) : W p l e R s m args below meth c H locs cells slots Q (F0 m pc ls st0) := by
  refine va_callv hr hS (fun q _ h => hG.A h) (fun q h => hG.A h) (fun u t H1 locs1 ht hvm hp hB hz1 hk1 hS1 => ?_)
  obtain ⟨hP1, -, hz2, -⟩ := hB
  rw [ht] at hP1 hz2
  exact kk u H1 locs1 hp hz2 hP1 hS1
theorem u_callr {post : Nat → Va → Prop} (hr : va_Run p l e R s m args below meth c H locs cells slots 0 0 (F0 m pc ls st0) rest (va_Qr (fun u : Nat × Va => post u.1 u.2) (fun u a t => a = Γ.2.1 + u.1 ∧ PN Γ sh u.2 w n t) (gA Γ sh n) Bs.toArray) (gA Γ sh n)) (hG : GR sh0 n0 sh n) (hS : va_S (gA Γ sh0 n0) s.heap H locs)
    (kk : ∀ (r : Nat) (u : Va) (H1 : Heap) (locs1 : List Loc), post r u → H1.size = Γ.2.1 + n → Wd Γ sh u w H1 → va_S (gA Γ sh0 n0) s.heap H1 locs1 → W p l e R s m args below meth c H1 locs1 cells slots Q (F0 m (pc + 3) ls (.ref (Γ.2.1 + r) :: rest))) : W p l e R s m args below meth c H locs cells slots Q (F0 m pc ls st0) := by
  refine va_callr hr hS (fun q _ h => hG.A h) (fun q h => hG.A h) (fun u a t H1 locs1 ht hvm hp hB hz1 hk1 hS1 => ?_)
  obtain ⟨ha, hP1, -, hz2, -⟩ := hB
  rw [ht] at hP1 hz2
  subst ha
  exact kk u.1 u.2 H1 locs1 hp hz2 hP1 hS1
/-- a reference to an array of bytes is put into a field that changes -/
theorem w_pdB (hx : p.tables.exec = Jvm.exec) (hb : c.code = cc) (hts : ∀ w ∈ lw_all, w.before args s = true) (hown : s.vm.findClass own = some m.cls) (hK : wK Γ s) (hP : Wd Γ sh v w H) (hS : va_S A H0 H locs) (hA : A (Γ.2.1 + k)) (hf : FL own idx ci j false (.array .byte)) (he : sh k = some (sO ci cs)) {r cd0 : Nat} (hc : cs[j]? = some cd0) (hr : r ≤ 2000000) (hdg : decode cc pc = .ok (.putfield idx, 3))
    (kk : ∀ (H1 : Heap) (locs1 : List Loc), H1.size = H.size → Wd Γ (up sh k (some (sO ci (cs.set j 1)))) (up v k (upd (v k) j (nI r))) w H1 → va_S A H0 H1 locs1 → W p l e R s m args below meth c H1 locs1 cells slots Q (F0 m (pc + 3) ls rest)) : W p l e R s m args below meth c H locs cells slots Q (F0 m pc ls (.ref (Γ.2.1 + r) :: .ref (Γ.2.1 + k) :: rest)) := by
  have e0 : (nI r).toNatClampNeg = r := Int32.toNatClampNeg_ofNat_of_lt (by omega)
  exact w_put hx hb hts hown hK hP hS hA hf he hc (cd := 1) (y := nI r) (by show Value.ref (Γ.2.1 + (nI r).toNatClampNeg) = _; rw [e0]) rfl rfl hdg kk
end JD
section JE
variable {l : Launch} {Γ : Cx} {sh : Sh} {v : Va} {w : Vl} {n : Nat}
theorem c_ASB_isLatin1 {k d1 d2 : Nat} (hk : sh k = some oSB) (hc : v k 1 = 0) (hC : EC Γ sh d1 d2) : MetI l yJ5_isLatin1_aae02 cJ5_isLatin1_aae02 1 (some .boolean) 0 Γ sh v w n [.ref (Γ.2.1 + k)] (fun x u => x = 1 ∧ u = v) := by
  refine w_start pn_J5 (Nat.le_of_ble_eq_true rfl) fun p e s m args below meth c hx hb hml hret hlk hnm hts hown hK hP hz hE hS ls hl => ?_
  have hd : DM sh n := hP.dm hz
  have hG : GR sh n sh n := GR.rf
  refine va_gets hx hb (hE.Z hC.1) hS hown (hts _ jJ5_18) (fun _ q => q) dJ5_isLatin1_aae02_0 ?_
  refine lv_if_eq (tgt := 17) hx hb dJ5_isLatin1_aae02_3 rfl (fun hc3 => False.elim (absurd hc3 (by decide))) (fun hc3 => ?_)
  refine lv_aload_n hx hb dJ5_isLatin1_aae02_6 rfl (lv_at hl 0 rfl) ?_
  refine w_gi (k := k) hx hb hts hown hK hP fJ5_22 hk rfl dJ5_isLatin1_aae02_7 ?_
  refine lv_if_ne (tgt := 17) hx hb dJ5_isLatin1_aae02_10 rfl (fun hc10 => False.elim (hc10 hc)) (fun hc10 => ?_)
  refine lv_iconst (v := 1) hx hb dJ5_isLatin1_aae02_13 rfl ?_
  refine lv_goto (tgt := 18) hx hb dJ5_isLatin1_aae02_14 rfl ?_
  exact w_iret hx hb hret rfl hlk hK hP hS hz hE ⟨rfl, rfl⟩ dJ5_isLatin1_aae02_18
theorem c_ASB_length {k : Nat} (hk : sh k = some oSB) : MetI l yJ5_length_8abf5 cJ5_length_8abf5 1 (some .int) 0 Γ sh v w n [.ref (Γ.2.1 + k)] (fun x u => x = v k 3 ∧ u = v) := by
  refine w_start pn_J5 (Nat.le_of_ble_eq_true rfl) fun p e s m args below meth c hx hb hml hret hlk hnm hts hown hK hP hz hE hS ls hl => ?_
  have hd : DM sh n := hP.dm hz
  have hG : GR sh n sh n := GR.rf
  refine lv_aload_n hx hb dJ5_length_8abf5_0 rfl (lv_at hl 0 rfl) ?_
  refine w_gi (k := k) hx hb hts hown hK hP fJ5_79 hk rfl dJ5_length_8abf5_1 ?_
  exact w_iret hx hb hret rfl hlk hK hP hS hz hE ⟨rfl, rfl⟩ dJ5_length_8abf5_4
theorem c_ASB_getValue {k pv : Nat} (hk : sh k = some oSB) (hp : (v k 0).toNatClampNeg = pv) : MetR l yJ5_getValue_6d5f1 cJ5_getValue_6d5f1 1 (some (FieldType.array FieldType.byte)) 0 Γ sh v w n [.ref (Γ.2.1 + k)] (fun x u => x = pv ∧ u = v) := by
  refine w_start pn_J5 (Nat.le_of_ble_eq_true rfl) fun p e s m args below meth c hx hb hml hret hlk hnm hts hown hK hP hz hE hS ls hl => ?_
  have hd : DM sh n := hP.dm hz
  have hG : GR sh n sh n := GR.rf
  refine lv_aload_n hx hb dJ5_getValue_6d5f1_0 rfl (lv_at hl 0 rfl) ?_
  refine w_gd2 (k := k) (r := pv) hx hb hts hown hK hP fJ5_15 hk rfl hp dJ5_getValue_6d5f1_1 ?_
  exact w_rret (post := fun x u => x = pv ∧ u = v) hx hb hret (Or.inr ⟨_, rfl⟩) hlk hK hP hS hz hE ⟨rfl, rfl⟩ dJ5_getValue_6d5f1_4
end JE
