/-! THE JDK, four: strings, a text is appended -/
section JE
variable {l : Launch} {Γ : Cx} {sh : Sh} {v : Va} {w : Vl} {n : Nat}
theorem w_recvQ {H : Heap} {s : State} {k ci : Nat} {cs : List Nat} (hK : wK Γ s) (hP : Wd Γ sh v w H) (he : sh k = some (sQ ci cs)) {C : String} (hcl : (vwCl[ci]?).map (fun q => q.1) = some C) : ∃ cell : Cell, H[Γ.2.1 + k]? = some cell ∧ cell.vm.isStatics = false ∧ s.vm.findClass C = some cell.cls := by
  cases hq : vwCl[ci]? with
  | none => rw [hq] at hcl; cases hcl
  | some q =>
    rw [hq] at hcl
    cases hcl
    exact va_recv hK (hP.one he) hq (q0 := 0) rfl
theorem c_S_coder {ad av d1 d2 : Nat} {B : List Int32} (hT : STc sh v ad av B) (hC : EC Γ sh v d1 d2) : MetI l yJ0_coder_7d493 cJ0_coder_7d493 1 (some .byte) 0 Γ sh v w n [.ref (Γ.2.1 + ad)] (fun x u => x = 0 ∧ u = v) := by
  refine w_start pn_J0 (Nat.le_of_ble_eq_true rfl) fun p e s m args below meth c hx hb hml hret hlk hnm hts hown hK hP hz hE hS ls hl => ?_
  have hd : DM sh n := hP.dm hz
  have hG : GR sh n sh n := GR.rf
  obtain ⟨ha, hv0, hc0, hby, hrg, hB⟩ := id hT
  refine va_gets hx hb (hE.Z hC.1) hS hown (hts _ jJ0_38) (fun _ q => q) dJ0_coder_7d493_0 ?_
  refine lv_if_eq (tgt := 13) hx hb dJ0_coder_7d493_3 rfl (fun hc3 => False.elim (absurd hc3 (by decide))) (fun hc3 => ?_)
  refine lv_aload_n hx hb dJ0_coder_7d493_6 rfl (lv_at hl 0 rfl) ?_
  refine w_getQ (k := ad) hx hb hts hown hK hP fJ0_15 ha rfl (x := .int 0) (congrArg Value.int hc0) dJ0_coder_7d493_7 ?_
  refine lv_goto (tgt := 14) hx hb dJ0_coder_7d493_10 rfl ?_
  exact w_iret hx hb hret rfl hlk hK hP hS hz hE ⟨rfl, rfl⟩ dJ0_coder_7d493_14
theorem c_S_length {ad av d1 d2 : Nat} {B : List Int32} (hT : STc sh v ad av B) (hC : EC Γ sh v d1 d2) : MetI l yJ0_length_8abf5 cJ0_length_8abf5 1 (some .int) 1 Γ sh v w n [.ref (Γ.2.1 + ad)] (fun x u => x = nI B.length ∧ u = v) := by
  refine w_start pn_J0 (Nat.le_of_ble_eq_true rfl) fun p e s m args below meth c hx hb hml hret hlk hnm hts hown hK hP hz hE hS ls hl => ?_
  have hd : DM sh n := hP.dm hz
  have hG : GR sh n sh n := GR.rf
  obtain ⟨ha, hv0, hc0, hby, hrg, hB⟩ := id hT
  refine lv_aload_n hx hb dJ0_length_8abf5_0 rfl (lv_at hl 0 rfl) ?_
  refine w_getQ (k := ad) hx hb hts hown hK hP fJ0_9 ha rfl (x := .ref (Γ.2.1 + av)) rfl dJ0_length_8abf5_1 ?_
  refine w_alenX (k := av) hx hb hK hP (by decide) hv0 dJ0_length_8abf5_4 ?_
  refine lv_aload_n hx hb dJ0_length_8abf5_5 rfl (lv_at hl 0 rfl) ?_
  refine u_calli (Bs := []) (w_rV (k := ad) hx hb hml hts hown hK (c_S_coder hT hC) rfl rfl kJ0_coder_7d493 mJ0_335 (w_recvQ hK hP ha rfl) PN.blind (t_pn hK hd hG hE hS hP hz) rfl hl.1 rfl (Nat.le_of_ble_eq_true rfl) ⟨Nat.le_of_ble_eq_true rfl, Nat.le_of_ble_eq_true rfl⟩ ⟨Nat.zero_le _, Nat.zero_le _⟩ dJ0_length_8abf5_6) hG hS fun r u H1 locs1 hp1 hz hP hS => ?_
  obtain ⟨hr1, hu1⟩ := hp1
  rw [hu1] at hP
  rw [hr1]
  refine lv_ishr hx hb dJ0_length_8abf5_9 ?_
  refine t_top (x' := nI B.length) (sb_shr0 _) ?_
  exact w_iret hx hb hret rfl hlk hK hP hS hz hE ⟨rfl, rfl⟩ dJ0_length_8abf5_10
theorem c_S_getBytes {ad av d1 d2 : Nat} {B : List Int32} (hT : STc sh v ad av B) (hC : EC Γ sh v d1 d2) {pv cp q : Nat} (hb0 : sh pv = some (sB 1 cp)) (hq : q + B.length ≤ cp) (hcp : cp ≤ 6000) (hne : av ≠ pv) : MetV l yJ0_getBytes_840e7 cJ0_getBytes_840e7 4 none 1 Γ sh v w n [.ref (Γ.2.1 + ad), .ref (Γ.2.1 + pv), .int (nI q), .int 0] (fun u => u = up v pv (va_cpy (v av) (v pv) 0 q B.length)) := by
  refine w_start pn_J0 (Nat.le_of_ble_eq_true rfl) fun p e s m args below meth c hx hb hml hret hlk hnm hts hown hK hP hz hE hS ls hl => ?_
  have hd : DM sh n := hP.dm hz
  have hG : GR sh n sh n := GR.rf
  obtain ⟨ha, hv0, hc0, hby, hrg, hB⟩ := id hT
  refine lv_aload_n hx hb dJ0_getBytes_840e7_0 rfl (lv_at hl 0 rfl) ?_
  refine u_calli (Bs := []) (w_rV (k := ad) hx hb hml hts hown hK (c_S_coder hT hC) rfl rfl kJ0_coder_7d493 mJ0_335 (w_recvQ hK hP ha rfl) PN.blind (t_pn hK hd hG hE hS hP hz) rfl hl.1 rfl (Nat.le_of_ble_eq_true rfl) ⟨Nat.le_of_ble_eq_true rfl, Nat.le_of_ble_eq_true rfl⟩ ⟨Nat.zero_le _, Nat.zero_le _⟩ dJ0_getBytes_840e7_1) hG hS fun r u H1 locs1 hp1 hz hP hS => ?_
  obtain ⟨hr1, hu1⟩ := hp1
  rw [hu1] at hP
  rw [hr1]
  refine lv_iload_n hx hb dJ0_getBytes_840e7_4 rfl (lv_at hl 3 rfl) ?_
  refine lv_icmp_ne (tgt := 28) hx hb dJ0_getBytes_840e7_5 rfl (fun hc5 => False.elim (hc5 rfl)) (fun hc5 => ?_)
  refine lv_aload_n hx hb dJ0_getBytes_840e7_8 rfl (lv_at hl 0 rfl) ?_
  refine w_getQ (k := ad) hx hb hts hown hK hP fJ0_9 ha rfl (x := .ref (Γ.2.1 + av)) rfl dJ0_getBytes_840e7_9 ?_
  refine lv_iconst (v := 0) hx hb dJ0_getBytes_840e7_12 rfl ?_
  refine lv_aload_n hx hb dJ0_getBytes_840e7_13 rfl (lv_at hl 1 rfl) ?_
  refine lv_iload_n hx hb dJ0_getBytes_840e7_14 rfl (lv_at hl 2 rfl) ?_
  refine lv_iload_n hx hb dJ0_getBytes_840e7_15 rfl (lv_at hl 3 rfl) ?_
  refine lv_ishl hx hb dJ0_getBytes_840e7_16 ?_
  refine t_top (x' := nI q) (sb_shl0 _) ?_
  refine lv_aload_n hx hb dJ0_getBytes_840e7_17 rfl (lv_at hl 0 rfl) ?_
  refine w_getQ (k := ad) hx hb hts hown hK hP fJ0_9 ha rfl (x := .ref (Γ.2.1 + av)) rfl dJ0_getBytes_840e7_18 ?_
  refine w_alenX (k := av) hx hb hK hP (by decide) hv0 dJ0_getBytes_840e7_21 ?_
  refine z_cpyB (n := n) (v1 := up v pv (va_cpy (v av) (v pv) 0 q B.length)) hx hb hml hl.1 hts hown hK hP hS hz (Or.inr hv0) hb0 (gA_in hb0) hT.fit xJ0_212 ?_ ⟨Nat.le_of_ble_eq_true rfl, Nat.le_of_ble_eq_true rfl⟩ (Nat.le_of_ble_eq_true rfl) ⟨Nat.le_refl _, Nat.le_refl _⟩ ?_ dJ0_getBytes_840e7_22 fun H1 locs1 hz hP hS => ?_
  · rw [nI_clamp (by omega), nI_clamp (by omega), sb_cl0]
    exact fun h => by rcases h with h | h | h | h | h | h <;> first | exact absurd h (by decide) | exact nI_pos (by omega) h | exact hne h | omega
  · unfold q_cpy; rw [nI_clamp (by omega), nI_clamp (by omega), sb_cl0]
  refine lv_goto (tgt := 43) hx hb dJ0_getBytes_840e7_25 rfl ?_
  exact w_vret hx hb hret hlk hK hP hS hz hE rfl dJ0_getBytes_840e7_43
theorem c_ASB_inflateNo {ad av d1 d2 : Nat} {B : List Int32} (hT : STc sh v ad av B) (hC : EC Γ sh v d1 d2) {k : Nat} (hk : sh k = some oSB) (hc : v k 1 = 0) : MetV l yJ5_inflateIfNeededFor_a7421 cJ5_inflateIfNeededFor_a7421 2 none 1 Γ sh v w n [.ref (Γ.2.1 + k), .ref (Γ.2.1 + ad)] (fun u => u = v) := by
  refine w_start pn_J5 (Nat.le_of_ble_eq_true rfl) fun p e s m args below meth c hx hb hml hret hlk hnm hts hown hK hP hz hE hS ls hl => ?_
  have hd : DM sh n := hP.dm hz
  have hG : GR sh n sh n := GR.rf
  obtain ⟨ha, hv0, hc0, hby, hrg, hB⟩ := id hT
  refine va_gets hx hb (hE.Z hC.1) hS hown (hts _ jJ5_18) (fun _ q => q) dJ5_inflateIfNeededFor_a7421_0 ?_
  refine lv_if_eq (tgt := 21) hx hb dJ5_inflateIfNeededFor_a7421_3 rfl (fun hc3 => False.elim (absurd hc3 (by decide))) (fun hc3 => ?_)
  refine lv_aload_n hx hb dJ5_inflateIfNeededFor_a7421_6 rfl (lv_at hl 0 rfl) ?_
  refine w_gi (k := k) hx hb hts hown hK hP fJ5_22 hk rfl dJ5_inflateIfNeededFor_a7421_7 ?_
  rw [hc]
  refine lv_aload_n hx hb dJ5_inflateIfNeededFor_a7421_10 rfl (lv_at hl 1 rfl) ?_
  refine u_calli (Bs := []) (w_rV (k := ad) hx hb hml hts hown hK (c_S_coder hT hC) rfl rfl kJ0_coder_7d493 mJ5_40 (w_recvQ hK hP ha rfl) PN.blind (t_pn hK hd hG hE hS hP hz) rfl hl.1 rfl (Nat.le_of_ble_eq_true rfl) ⟨Nat.le_of_ble_eq_true rfl, Nat.le_of_ble_eq_true rfl⟩ ⟨Nat.zero_le _, Nat.zero_le _⟩ dJ5_inflateIfNeededFor_a7421_11) hG hS fun r u H1 locs1 hp1 hz hP hS => ?_
  obtain ⟨hr1, hu1⟩ := hp1
  rw [hu1] at hP
  rw [hr1]
  refine lv_icmp_eq (tgt := 21) hx hb dJ5_inflateIfNeededFor_a7421_14 rfl (fun hc14 => ?_) (fun hc14 => False.elim (hc14 rfl))
  exact w_vret hx hb hret hlk hK hP hS hz hE rfl dJ5_inflateIfNeededFor_a7421_21
theorem c_ASB_putString {ad av d1 d2 : Nat} {B : List Int32} (hT : STc sh v ad av B) (hC : EC Γ sh v d1 d2) {k pv cp q : Nat} (hk : sh k = some oSB) (hc : v k 1 = 0) (hp : (v k 0).toNatClampNeg = pv) (hb0 : sh pv = some (sB 1 cp)) (hq : q + B.length ≤ cp) (hcp : cp ≤ 6000) (hne : av ≠ pv) : MetV l yJ5_putStringAt_47b60 cJ5_putStringAt_47b60 3 none 2 Γ sh v w n [.ref (Γ.2.1 + k), .int (nI q), .ref (Γ.2.1 + ad)] (fun u => u = up v pv (va_cpy (v av) (v pv) 0 q B.length)) := by
  refine w_start pn_J5 (Nat.le_of_ble_eq_true rfl) fun p e s m args below meth c hx hb hml hret hlk hnm hts hown hK hP hz hE hS ls hl => ?_
  have hd : DM sh n := hP.dm hz
  have hG : GR sh n sh n := GR.rf
  obtain ⟨ha, hv0, hc0, hby, hrg, hB⟩ := id hT
  refine lv_aload_n hx hb dJ5_putStringAt_47b60_0 rfl (lv_at hl 0 rfl) ?_
  refine lv_aload_n hx hb dJ5_putStringAt_47b60_1 rfl (lv_at hl 2 rfl) ?_
  refine u_callv (Bs := [.ref (Γ.2.1 + k), .ref (Γ.2.1 + ad)]) (w_rU hx hb hml hts hown (c_ASB_inflateNo hT hC hk hc) rfl rfl kJ5_inflateIfNeededFor_a7421.1 kJ5_inflateIfNeededFor_a7421.2.1 kJ5_inflateIfNeededFor_a7421.2.2.1 kJ5_inflateIfNeededFor_a7421.1 kJ5_inflateIfNeededFor_a7421.2.2.1 kJ5_inflateIfNeededFor_a7421.2.2.2.1 kJ5_inflateIfNeededFor_a7421.2.2.2.2 sl_J5_inflateIfNeededFor_a7421 xmJ5_397 (w_recv hK hP hk rfl) PN.blind (t_pn hK hd hG hE hS hP hz) rfl hl.1 rfl (Nat.le_of_ble_eq_true rfl) ⟨Nat.le_of_ble_eq_true rfl, Nat.le_of_ble_eq_true rfl⟩ ⟨Nat.zero_le _, Nat.zero_le _⟩ dJ5_putStringAt_47b60_2) hG hS fun u H1 locs1 hp1 hz hP hS => ?_
  rw [hp1] at hP
  refine lv_aload_n hx hb dJ5_putStringAt_47b60_5 rfl (lv_at hl 2 rfl) ?_
  refine lv_aload_n hx hb dJ5_putStringAt_47b60_6 rfl (lv_at hl 0 rfl) ?_
  refine w_gd2 (k := k) (r := pv) hx hb hts hown hK hP fJ5_15 hk rfl hp dJ5_putStringAt_47b60_7 ?_
  refine lv_iload_n hx hb dJ5_putStringAt_47b60_10 rfl (lv_at hl 1 rfl) ?_
  refine lv_aload_n hx hb dJ5_putStringAt_47b60_11 rfl (lv_at hl 0 rfl) ?_
  refine w_gi (k := k) hx hb hts hown hK hP fJ5_22 hk rfl dJ5_putStringAt_47b60_12 ?_
  rw [hc]
  refine u_callv (Bs := []) (w_rV (k := ad) hx hb hml hts hown hK (c_S_getBytes hT hC hb0 hq hcp hne) rfl rfl kJ0_getBytes_840e7 mJ5_399 (w_recvQ hK hP ha rfl) PN.blind (t_pn hK hd hG hE hS hP hz) rfl hl.1 rfl (Nat.le_of_ble_eq_true rfl) ⟨Nat.le_of_ble_eq_true rfl, Nat.le_of_ble_eq_true rfl⟩ ⟨Nat.zero_le _, Nat.zero_le _⟩ dJ5_putStringAt_47b60_15) hG hS fun u H1 locs1 hp1 hz hP hS => ?_
  rw [hp1] at hP
  exact w_vret hx hb hret hlk hK hP hS hz hE rfl dJ5_putStringAt_47b60_18
end JE
