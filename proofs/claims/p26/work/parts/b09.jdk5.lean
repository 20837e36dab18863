/-! THE JDK, five: append(String) -/
section JD
variable {p : Program} {l : Launch} {e : Env} {R : Room} {s : State} {m : MethodId} {args : Array Value} {below : List Frame} {meth : Method} {c : Code} {H H0 : Heap} {locs : List Loc} {cells slots : Nat} {Q : State → Prop}
variable {cc : ByteArray} {pc nL : Nat} {ls : Array Slot} {st0 rest As Bs : List Value} {Γ : Cx} {sh sh0 : Sh} {v v1 : Va} {w : Vl} {own : String} {idx ci j k n n0 nn hh mL mc ms a : Nat} {cs : List Nat} {y : MethodName} {b : ByteArray} {ret : Option FieldType} {A : Nat → Prop}
theorem t_pi (hx : p.tables.exec = Jvm.exec) (hb : c.code = cc) (hts : ∀ w ∈ lw_all, w.before args s = true) (hown : s.vm.findClass own = some m.cls) (hK : wK Γ s) (hP : Wd Γ sh v w H) (hS : va_S A H0 H locs) (hA : A (Γ.2.1 + k)) (hz : H.size = Γ.2.1 + n) (hf : FL own idx ci j false .int) (he : sh k = some (sO ci cs)) (hc : cs[j]? = some 0) {x : Int32} {v1 : Va} (hv1 : pu v k j x = v1) (hdg : decode cc pc = .ok (.putfield idx, 3))
    (kk : ∀ (H1 : Heap) (locs1 : List Loc), H1.size = Γ.2.1 + n → Wd Γ sh v1 w H1 → va_S A H0 H1 locs1 → W p l e R s m args below meth c H1 locs1 cells slots Q (F0 m (pc + 3) ls rest)) : W p l e R s m args below meth c H locs cells slots Q (F0 m pc ls (.int x :: .ref (Γ.2.1 + k) :: rest)) := by
  have hset : cs.set j 0 = cs := by
    apply List.ext_getElem?
    intro q
    rw [List.getElem?_set]
    by_cases hq : j = q
    · subst hq
      rw [if_pos rfl, if_pos (List.getElem?_eq_some_iff.mp hc).1, hc]
    · rw [if_neg hq]
  refine w_put hx hb hts hown hK hP hS hA hf he hc (cd := 0) (y := x) rfl rfl rfl hdg fun H1 locs1 h0 h1 h2 => kk H1 locs1 (h0.trans hz) ?_ h2
  have e1 : up sh k (some (sO ci (cs.set j 0))) = sh := by rw [hset, ← he]; exact up_id sh k
  rw [e1] at h1
  rw [← hv1]
  exact h1
end JD
section JE
variable {l : Launch} {Γ : Cx} {sh : Sh} {v : Va} {w : Vl} {n : Nat}
theorem STc.len {sh : Sh} {v : Va} {ad av : Nat} {B : List Int32} (h : STc sh v ad av B) : B.length ≤ 2500 := h.2.2.2.2.2
theorem KP.ro {sh : Sh} {v : Va} {n k p cap : Nat} {L : List Int32} {u : Wt} (h : KP sh v n k p u) (hT : SBc sh v k p cap L) (hd : DM sh n) : RO sh v u.2.1 := fun q e he hw => h.2 q (hd _ _ he) (fun e1 => by rw [e1, hT.1] at he; cases he; exact hw trivial) (fun e1 => by rw [e1, hT.2.2.2.2.1] at he; cases he; exact hw trivial)
theorem KP.tr {sh : Sh} {v : Va} {n k p p1 : Nat} {u u1 : Wt} (h : KP sh v n k p u) (h1 : KP u.1 u.2.1 u.2.2 k p1 u1) (hp : p1 = p ∨ n ≤ p1) : KP sh v n k p u1 := ⟨h.1.tr h1.1, fun q hq hk hpq => by
  rw [h1.2 q (Nat.lt_of_lt_of_le hq h.1.1) hk (by omega)]; exact h.2 q hq hk hpq⟩
theorem KP.rf {sh : Sh} {v : Va} {n k p : Nat} : KP sh v n k p (sh, v, n) := ⟨GR.rf, fun _ _ _ _ => rfl⟩
/-- what an append of B leaves -/
def APS (sh : Sh) (v : Va) (n k p : Nat) (L : List Int32) (u : Wt) : Prop := KP sh v n k p u ∧ u.2.2 ≤ n + 1 ∧ ∃ p1 cap1, SBc u.1 u.2.1 k p1 cap1 L ∧ (p1 = p ∨ n ≤ p1)
theorem cpy_in {f g : Nat → Int32} {a b N i : Nat} (h : i < N) : va_cpy f g a b N (b + i) = f (a + i) := by
  unfold va_cpy
  rw [if_pos ⟨by omega, by omega⟩]
  congr 1
  omega
theorem cpy_lo {f g : Nat → Int32} {a b N i : Nat} (h : i < b) : va_cpy f g a b N i = g i := if_neg (by omega)
theorem cpy_hi {f g : Nat → Int32} {a b N i : Nat} (h : b + N ≤ i) : va_cpy f g a b N i = g i := if_neg (by omega)
theorem SBc.add {sh : Sh} {v : Va} {k p cap : Nat} {L B : List Int32} (h : SBc sh v k p cap L) (hr : ∀ b ∈ B, 0 ≤ b.toInt ∧ b.toInt < 128) (hl : L.length + B.length ≤ cap) {v1 : Va} (h1 : v1 p = va_cpy (fun j => B.getD j 0) (v p) 0 L.length B.length) (h2 : v1 k 0 = v k 0 ∧ v1 k 1 = v k 1 ∧ v1 k 3 = nI (L.length + B.length)) : SBc sh v1 k p cap (L ++ B) := by
  obtain ⟨a1, a2, a3, a4, a5, a6, a7, a8, a9⟩ := h
  refine ⟨a1, h2.2.1.trans a2, h2.2.2.trans (by rw [List.length_append]), by rw [h2.1]; exact a4, a5, by rw [List.length_append]; exact hl, a7, fun i hi => ?_, fun i hi => ?_⟩
  · rw [h1]
    by_cases c1 : i < L.length
    · rw [cpy_lo c1]; exact a8 i hi
    · by_cases c2 : i < L.length + B.length
      · have e : i = L.length + (i - L.length) := by omega
        have hj : i - L.length < B.length := by omega
        rw [e, cpy_in hj, Nat.zero_add]
        refine b_fit (hr _ ?_)
        rw [List.getD_eq_getElem?_getD, List.getElem?_eq_getElem hj]
        exact List.getElem_mem hj
      · rw [cpy_hi (by omega)]; exact a8 i hi
  · rw [h1]
    rw [List.length_append] at hi
    by_cases c1 : i < L.length
    · rw [cpy_lo c1, a9 i c1, List.getD_eq_getElem?_getD, List.getD_eq_getElem?_getD, List.getElem?_append_left c1]
    · have e : i = L.length + (i - L.length) := by omega
      rw [e, cpy_in (by omega), Nat.zero_add, List.getD_eq_getElem?_getD, List.getD_eq_getElem?_getD, List.getElem?_append_right (by omega)]
      congr 2
      omega
theorem c_ASB_append {ad d1 d2 : Nat} {B : List Int32} (hT : SV Γ sh v ad B) (hC : EC Γ sh d1 d2) {k pv cp : Nat} {L : List Int32} (hL : SBc sh v k pv cp L) (hlen : L.length + B.length ≤ 2500) (hnb : n ≤ 1000000) : MetTR l yJ5_append_cf1ce cJ5_append_cf1ce 3 (some (FieldType.object "java/lang/AbstractStringBuilder")) 4 1 6000 Γ sh v w n [.ref (Γ.2.1 + k), .ref ad] (fun r u => r = k ∧ APS sh v n k pv (L ++ B) u) := by
  refine w_start pn_J5 (Nat.le_of_ble_eq_true rfl) fun p e s m args below meth c hx hb hml hret hlk hnm hts hown hK hP hz hE hS ls hl => ?_
  have hd : DM sh n := hP.dm hz
  have hG : GR sh n sh n := GR.rf
  obtain ⟨hk, hc, hcnt, hp, hb0, hLc, hcp, hfi, hbyL⟩ := id hL
  refine lv_aload_n hx hb dJ5_append_cf1ce_0 rfl (lv_at hl 1 rfl) ?_
  refine lv_ifnonnull (tgt := 9) hx hb dJ5_append_cf1ce_1 rfl ?_
  refine lv_aload_n hx hb dJ5_append_cf1ce_9 rfl (lv_at hl 1 rfl) ?_
  refine u_calli (Bs := []) (s_rV (a := ad) hx hb hml hts hown hK (c_V_length hT hC) rfl rfl kJ0_length_8abf5 mJ5_32 (hT.recv hK hP hE hG hS) PN.blind (t_pn hK hd hG hE hS hP hz) rfl hl.1 rfl (Nat.le_of_ble_eq_true rfl) ⟨Nat.le_of_ble_eq_true rfl, Nat.le_of_ble_eq_true rfl⟩ ⟨Nat.zero_le _, Nat.zero_le _⟩ dJ5_append_cf1ce_10) hG hS fun r u H1 locs1 hp1 hz hP hS => ?_
  obtain ⟨hr1, hu1⟩ := hp1
  rw [hu1] at hP
  rw [hr1]
  refine lv_istore_n (lv' := [(2, .int (nI B.length)), (0, .ref (Γ.2.1 + k)), (1, .ref ad)]) hx hb dJ5_append_cf1ce_13 rfl hl (by decide) rfl fun ls hl => ?_
  refine lv_aload_n hx hb dJ5_append_cf1ce_14 rfl (lv_at hl 1 rfl) ?_
  refine lv_aload_n hx hb dJ5_append_cf1ce_15 rfl (lv_at hl 1 rfl) ?_
  refine w_gi (k := k) hx hb hts hown hK hP fJ5_79 hk rfl dJ5_append_cf1ce_16 ?_
  rw [hcnt]
  refine lv_iload_n hx hb dJ5_append_cf1ce_19 rfl (lv_at hl 0 rfl) ?_
  refine lv_iadd hx hb dJ5_append_cf1ce_20 ?_
  refine t_top (x' := nI (L.length + B.length)) (nI_add _ _) ?_
  refine t_callv (Bs := []) (w_rU hx hb hml hts hown (c_ASB_ensure (q := L.length + B.length) hL (by omega) hnb) rfl rfl kJ5_ensureCapacityInternal_d00df.1 kJ5_ensureCapacityInternal_d00df.2.1 kJ5_ensureCapacityInternal_d00df.2.2.1 kJ5_ensureCapacityInternal_d00df.1 kJ5_ensureCapacityInternal_d00df.2.2.1 kJ5_ensureCapacityInternal_d00df.2.2.2.1 kJ5_ensureCapacityInternal_d00df.2.2.2.2 sl_J5_ensureCapacityInternal_d00df xmJ5_100 (w_recv hK hP hk rfl) PN.blind (t_pn hK hd hG hE hS hP hz) rfl hl.1 rfl (Nat.le_of_ble_eq_true rfl) ⟨Nat.le_of_ble_eq_true rfl, Nat.le_of_ble_eq_true rfl⟩ ⟨by show 0 + 1 ≤ 1; omega, by show 0 + 6000 ≤ 6000; omega⟩ dJ5_append_cf1ce_21) hG hS fun u H1 locs1 hp1 hz hP hS => ?_
  obtain ⟨⟨hG1, hkp⟩, hn1, p1, cap1, hL1, hq1, hpp, hf1⟩ := hp1
  obtain ⟨sh1, v1, n1⟩ := u
  dsimp only at hG1 hkp hn1 hL1 hq1 hpp hf1 hz hP
  have hkq : KP sh v n k pv (sh1, v1, n1) := ⟨hG1, hkp⟩
  have hT1 : SV Γ sh1 v1 ad B := hT.gr hd hG1 hE (hkq.ro hL hd)
  have hC1 : EC Γ sh1 d1 d2 := hC.gr hG1 hE
  obtain ⟨hk1, hcc1, hcnt1, hpp1, hb1, hLc1, hcp1, hfi1, hbyL1⟩ := id hL1
  have hkp1 := hL1.ne
  clear hG
  have hG : GR sh n sh1 n1 := hG1
  refine lv_aload_n hx hb dJ5_append_cf1ce_24 rfl (lv_at hl 1 rfl) ?_
  refine lv_aload_n hx hb dJ5_append_cf1ce_25 rfl (lv_at hl 1 rfl) ?_
  refine w_gi (k := k) hx hb hts hown hK hP fJ5_79 hk1 rfl dJ5_append_cf1ce_26 ?_
  rw [hcnt1]
  refine lv_aload_n hx hb dJ5_append_cf1ce_29 rfl (lv_at hl 2 rfl) ?_
  refine u_callv (Bs := []) (w_rU hx hb hml hts hown (c_ASB_putString (q := L.length) hT1 hC1 hk1 hcc1 hpp1 hb1 hq1 hcp1) rfl rfl kJ5_putStringAt_47b60.1 kJ5_putStringAt_47b60.2.1 kJ5_putStringAt_47b60.2.2.1 kJ5_putStringAt_47b60.1 kJ5_putStringAt_47b60.2.2.1 kJ5_putStringAt_47b60.2.2.2.1 kJ5_putStringAt_47b60.2.2.2.2 sl_J5_putStringAt_47b60 xmJ5_208 (w_recv hK hP hk1 rfl) PN.blind (t_pn hK hd hG hE hS hP hz) rfl hl.1 rfl (Nat.le_of_ble_eq_true rfl) ⟨Nat.le_of_ble_eq_true rfl, Nat.le_of_ble_eq_true rfl⟩ ⟨Nat.le_refl _, Nat.le_refl _⟩ dJ5_append_cf1ce_30) hG hS fun u H1 locs1 hp1 hz hP hS => ?_
  rw [hp1] at hP
  refine lv_aload_n hx hb dJ5_append_cf1ce_33 rfl (lv_at hl 1 rfl) ?_
  refine lv_dup hx hb dJ5_append_cf1ce_34 rfl ?_
  refine w_gi (k := k) hx hb hts hown hK hP fJ5_79 hk1 rfl dJ5_append_cf1ce_35 ?_
  rw [up_ne hkp1, hcnt1]
  refine lv_iload_n hx hb dJ5_append_cf1ce_38 rfl (lv_at hl 0 rfl) ?_
  refine lv_iadd hx hb dJ5_append_cf1ce_39 ?_
  refine t_top (x' := nI (L.length + B.length)) (nI_add _ _) ?_
  refine t_pi (k := k) hx hb hts hown hK hP hS (gA_in hk) hz fJ5_79 hk1 rfl rfl dJ5_append_cf1ce_40 fun H1 locs1 hz hP hS => ?_
  refine lv_aload_n hx hb dJ5_append_cf1ce_43 rfl (lv_at hl 1 rfl) ?_
  refine t_rret (post := fun r u => r = k ∧ APS sh v n k pv (L ++ B) u) hx hb hret (Or.inl ⟨_, rfl⟩) hlk hK hP hS hz hE hd hG ⟨rfl, ⟨hG, fun q hq h1 h2 => ?_⟩, hn1, p1, cap1, hL1.add hT.rg hq1 ?_ ⟨?_, ?_, ?_⟩, hpp⟩ dJ5_append_cf1ce_44
  all_goals (try dsimp only)
  · unfold pu
    rw [up_ne h1]
    by_cases e1 : q = p1
    · exfalso; omega
    · rw [up_ne e1]; exact hkp q hq h1 h2
  · unfold pu; rw [up_ne (Ne.symm hkp1), up_eq]
  · unfold pu; rw [up_eq, up_ne hkp1]; exact upd_ne (by decide)
  · unfold pu; rw [up_eq, up_ne hkp1]; exact upd_ne (by decide)
  · unfold pu; rw [up_eq]; exact upd_eq
theorem c_SB_append {ad d1 d2 : Nat} {B : List Int32} (hT : SV Γ sh v ad B) (hC : EC Γ sh d1 d2) {k pv cp : Nat} {L : List Int32} (hL : SBc sh v k pv cp L) (hlen : L.length + B.length ≤ 2500) (hnb : n ≤ 1000000) : MetTR l yJ4_append_15ec4 cJ4_append_15ec4 2 (some (FieldType.object "java/lang/StringBuilder")) 5 1 6000 Γ sh v w n [.ref (Γ.2.1 + k), .ref ad] (fun r u => r = k ∧ APS sh v n k pv (L ++ B) u) := by
  refine w_start pn_J4 (Nat.le_of_ble_eq_true rfl) fun p e s m args below meth c hx hb hml hret hlk hnm hts hown hK hP hz hE hS ls hl => ?_
  have hd : DM sh n := hP.dm hz
  have hG : GR sh n sh n := GR.rf
  refine lv_aload_n hx hb dJ4_append_15ec4_0 rfl (lv_at hl 0 rfl) ?_
  refine lv_aload_n hx hb dJ4_append_15ec4_1 rfl (lv_at hl 1 rfl) ?_
  refine t_callr (post := fun r u => r = k ∧ APS sh v n k pv (L ++ B) u) (Bs := []) (w_rP hx hb hml hts hown (hK.1 13 _ rfl).2 (c_ASB_append hT hC hL hlen hnb) rfl rfl kJ5_append_cf1ce su_J4 (by decide +kernel) xmJ4_29 (w_recv hK hP hL.1 rfl) PN.blind (t_pn hK hd hG hE hS hP hz) rfl hl.1 rfl (Nat.le_of_ble_eq_true rfl) ⟨Nat.le_of_ble_eq_true rfl, Nat.le_of_ble_eq_true rfl⟩ ⟨by show 0 + 1 ≤ 1; omega, by show 0 + 6000 ≤ 6000; omega⟩ dJ4_append_15ec4_2) hG hS fun r u H1 locs1 hp1 hz hP hS => ?_
  obtain ⟨hr1, hu1⟩ := hp1
  refine lv_pop hx hb dJ4_append_15ec4_5 rfl ?_
  refine lv_aload_n hx hb dJ4_append_15ec4_6 rfl (lv_at hl 0 rfl) ?_
  exact t_rret (post := fun r u => r = k ∧ APS sh v n k pv (L ++ B) u) hx hb hret (Or.inl ⟨_, rfl⟩) hlk hK hP hS hz hE hd hu1.1.1 ⟨rfl, hu1⟩ dJ4_append_15ec4_7
end JE
