/-! THE JDK, seven: append(int) -/
section JE
variable {l : Launch} {Γ : Cx} {sh : Sh} {v : Va} {w : Vl} {n : Nat}
theorem gcp_add {sh : Sh} {v v2 v3 : Va} {k p cap : Nat} {L B : List Int32} (h : SBc sh v k p cap L) (hr : ∀ b ∈ B, 0 ≤ b.toInt ∧ b.toInt < 128) (hl : L.length + B.length ≤ cap) (hg : GCP v p L.length B v2) (h3 : v3 = pu v2 k 3 (nI (L.length + B.length))) : SBc sh v3 k p cap (L ++ B) := by
  obtain ⟨f, e1, e2, e3⟩ := hg
  have hkp := h.ne
  obtain ⟨a1, a2, a3, a4, a5, a6, a7, a8, a9⟩ := h
  have e4 : v3 p = f := by rw [h3, pu_n9 (Ne.symm hkp), e1, up_eq]
  have e5 : ∀ i, i ≠ 3 → v3 k i = v k i := fun i hi => by rw [h3]; unfold pu; rw [up_eq, upd_ne hi, e1, up_ne hkp]
  have e6 : v3 k 3 = nI (L.length + B.length) := by rw [h3]; unfold pu; rw [up_eq, upd_eq]
  refine ⟨a1, (e5 1 (by decide)).trans a2, by rw [e6, List.length_append], by rw [e5 0 (by decide)]; exact a4, a5, by rw [List.length_append]; exact hl, a7, fun i hi => ?_, fun i hi => ?_⟩
  · rw [e4]
    by_cases c1 : i < L.length ∨ L.length + B.length ≤ i
    · rw [e2 i c1]; exact a8 i hi
    · have e : i = L.length + (i - L.length) := by omega
      have hj : i - L.length < B.length := by omega
      rw [e, e3 _ hj]
      refine b_fit (hr _ ?_)
      rw [List.getD_eq_getElem?_getD, List.getElem?_eq_getElem hj]
      exact List.getElem_mem hj
  · rw [e4]
    rw [List.length_append] at hi
    by_cases c1 : i < L.length
    · rw [e2 i (Or.inl c1), a9 i c1, List.getD_eq_getElem?_getD, List.getD_eq_getElem?_getD, List.getElem?_append_left c1]
    · have e : i = L.length + (i - L.length) := by omega
      rw [e, e3 _ (by omega), List.getD_eq_getElem?_getD, List.getD_eq_getElem?_getD, List.getElem?_append_right (by omega)]
      congr 2
      omega
theorem c_ASB_appendI {z0 d1 d2 : Nat} (hz0 : z0 ≤ 9999) (hC : EC Γ sh d1 d2) {k pv cp : Nat} {L : List Int32} (hL : SBc sh v k pv cp L) (hlen : L.length + (decL z0).length ≤ 2500) (hnb : n ≤ 1000000) : MetTR l yJ5_append_c97b9 cJ5_append_c97b9 4 (some (FieldType.object "java/lang/AbstractStringBuilder")) 4 1 6000 Γ sh v w n [.ref (Γ.2.1 + k), .int (nI z0)] (fun r u => r = k ∧ APS sh v n k pv (L ++ decL z0) u) := by
  refine w_start pn_J5 (Nat.le_of_ble_eq_true rfl) fun p e s m args below meth c hx hb hml hret hlk hnm hts hown hK hP hz hE hS ls hl => ?_
  have hd : DM sh n := hP.dm hz
  have hG : GR sh n sh n := GR.rf
  obtain ⟨hk, hc, hcnt, hp, hb0, hLc, hcp, hfi, hbyL⟩ := id hL
  rw [decL_len] at hlen
  refine lv_aload_n hx hb dJ5_append_c97b9_0 rfl (lv_at hl 0 rfl) ?_
  refine w_gi (k := k) hx hb hts hown hK hP fJ5_79 hk rfl dJ5_append_c97b9_1 ?_
  rw [hcnt]
  refine lv_istore_n (lv' := [(2, .int (nI L.length)), (0, .ref (Γ.2.1 + k)), (1, .int (nI z0))]) hx hb dJ5_append_c97b9_4 rfl hl (by decide) rfl fun ls hl => ?_
  refine lv_iload_n hx hb dJ5_append_c97b9_5 rfl (lv_at hl 0 rfl) ?_
  refine lv_iload_n hx hb dJ5_append_c97b9_6 rfl (lv_at hl 2 rfl) ?_
  refine u_calli (Bs := [.int (nI z0)]) (w_rS hx hb hml hts hown hK (c_stringSize hz0) rfl rfl kJ6_stringSize_0f7a4 mJ5_245 PN.blind (t_pn hK hd hG hE hS hP hz) rfl hl.1 rfl (Nat.le_of_ble_eq_true rfl) ⟨Nat.le_of_ble_eq_true rfl, Nat.le_of_ble_eq_true rfl⟩ ⟨Nat.zero_le _, Nat.zero_le _⟩ dJ5_append_c97b9_7) hG hS fun r u H1 locs1 hp1 hz hP hS => ?_
  obtain ⟨hr1, hu1⟩ := hp1
  rw [hu1] at hP
  rw [hr1]
  refine lv_iadd hx hb dJ5_append_c97b9_10 ?_
  refine t_top (x' := nI (L.length + lenD z0)) (nI_add _ _) ?_
  refine lv_istore_n (lv' := [(3, .int (nI (L.length + lenD z0))), (2, .int (nI L.length)), (0, .ref (Γ.2.1 + k)), (1, .int (nI z0))]) hx hb dJ5_append_c97b9_11 rfl hl (by decide) rfl fun ls hl => ?_
  refine lv_aload_n hx hb dJ5_append_c97b9_12 rfl (lv_at hl 2 rfl) ?_
  refine lv_iload_n hx hb dJ5_append_c97b9_13 rfl (lv_at hl 0 rfl) ?_
  refine t_callv (Bs := []) (w_rU hx hb hml hts hown (c_ASB_ensure (q := L.length + lenD z0) hL (by omega) hnb) rfl rfl kJ5_ensureCapacityInternal_d00df.1 kJ5_ensureCapacityInternal_d00df.2.1 kJ5_ensureCapacityInternal_d00df.2.2.1 kJ5_ensureCapacityInternal_d00df.1 kJ5_ensureCapacityInternal_d00df.2.2.1 kJ5_ensureCapacityInternal_d00df.2.2.2.1 kJ5_ensureCapacityInternal_d00df.2.2.2.2 sl_J5_ensureCapacityInternal_d00df xmJ5_100 (w_recv hK hP hk rfl) PN.blind (t_pn hK hd hG hE hS hP hz) rfl hl.1 rfl (Nat.le_of_ble_eq_true rfl) ⟨Nat.le_of_ble_eq_true rfl, Nat.le_of_ble_eq_true rfl⟩ ⟨by show 0 + 1 ≤ 1; omega, by show 0 + 6000 ≤ 6000; omega⟩ dJ5_append_c97b9_14) hG hS fun u H1 locs1 hp1 hz hP hS => ?_
  obtain ⟨⟨hG1, hkp⟩, hn1, p1, cap1, hL1, hq1, hpp, hf1⟩ := hp1
  obtain ⟨sh1, v1, n1⟩ := u
  dsimp only at hG1 hkp hn1 hL1 hq1 hpp hf1 hz hP
  have hC1 : EC Γ sh1 d1 d2 := hC.gr hG1 hE
  obtain ⟨hk1, hcc1, hcnt1, hpp1, hb1, hLc1, hcp1, hfi1, hbyL1⟩ := id hL1
  have hkp1 := hL1.ne
  clear hG
  have hG : GR sh n sh1 n1 := hG1
  refine lv_aload_n hx hb dJ5_append_c97b9_17 rfl (lv_at hl 2 rfl) ?_
  refine u_calli (Bs := []) (w_rU hx hb hml hts hown (c_ASB_isLatin1 hk1 hcc1 hC1) rfl rfl kJ5_isLatin1_aae02.1 kJ5_isLatin1_aae02.2.1 kJ5_isLatin1_aae02.2.2.1 kJ5_isLatin1_aae02.1 kJ5_isLatin1_aae02.2.2.1 kJ5_isLatin1_aae02.2.2.2.1 kJ5_isLatin1_aae02.2.2.2.2 sl_J5_isLatin1_aae02 xmJ5_83 (w_recv hK hP hk1 rfl) PN.blind (t_pn hK hd hG hE hS hP hz) rfl hl.1 rfl (Nat.le_of_ble_eq_true rfl) ⟨Nat.le_of_ble_eq_true rfl, Nat.le_of_ble_eq_true rfl⟩ ⟨Nat.le_refl _, Nat.le_refl _⟩ dJ5_append_c97b9_18) hG hS fun r u H1 locs1 hp1 hz hP hS => ?_
  obtain ⟨hr1, hu1⟩ := hp1
  rw [hu1] at hP
  rw [hr1]
  refine lv_if_eq (tgt := 37) hx hb dJ5_append_c97b9_21 rfl (fun hc21 => False.elim (absurd hc21 (by decide))) (fun hc21 => ?_)
  refine lv_iload_n hx hb dJ5_append_c97b9_24 rfl (lv_at hl 3 rfl) ?_
  refine lv_iload_n hx hb dJ5_append_c97b9_25 rfl (lv_at hl 0 rfl) ?_
  refine lv_aload_n hx hb dJ5_append_c97b9_26 rfl (lv_at hl 2 rfl) ?_
  refine w_gd2 (k := k) (r := p1) hx hb hts hown hK hP fJ5_15 hk1 rfl hpp1 dJ5_append_c97b9_27 ?_
  refine u_calli (Bs := [.int (nI z0), .int (nI (L.length + lenD z0)), .ref (Γ.2.1 + p1)]) (w_rS hx hb hml hts hown hK (c_getChars (q := L.length) hz0 hC1 hb1 hq1 hcp1) rfl rfl kJ6_getChars_ba4f3 mJ5_248 PN.blind (t_pn hK hd hG hE hS hP hz) rfl hl.1 rfl (Nat.le_of_ble_eq_true rfl) ⟨Nat.le_of_ble_eq_true rfl, Nat.le_of_ble_eq_true rfl⟩ ⟨Nat.le_refl _, Nat.le_refl _⟩ dJ5_append_c97b9_30) hG hS fun r u2 H1 locs1 hp1 hz hP hS => ?_
  refine lv_pop hx hb dJ5_append_c97b9_33 rfl ?_
  refine lv_goto (tgt := 48) hx hb dJ5_append_c97b9_34 rfl ?_
  refine lv_aload_n hx hb dJ5_append_c97b9_48 rfl (lv_at hl 2 rfl) ?_
  refine lv_iload_n hx hb dJ5_append_c97b9_49 rfl (lv_at hl 0 rfl) ?_
  refine t_pi (k := k) hx hb hts hown hK hP hS (gA_in hk) hz fJ5_79 hk1 rfl rfl dJ5_append_c97b9_50 fun H1 locs1 hz hP hS => ?_
  refine lv_aload_n hx hb dJ5_append_c97b9_53 rfl (lv_at hl 2 rfl) ?_
  rw [← decL_len] at hq1
  refine t_rret (post := fun r u => r = k ∧ APS sh v n k pv (L ++ decL z0) u) hx hb hret (Or.inl ⟨_, rfl⟩) hlk hK hP hS hz hE hd hG ⟨rfl, ⟨hG, fun q hq h1 h2 => ?_⟩, hn1, p1, cap1, gcp_add hL1 (decL_rg hz0) hq1 hp1 (by rw [decL_len]), hpp⟩ dJ5_append_c97b9_54
  obtain ⟨f, e1, -⟩ := hp1
  dsimp only
  rw [pu_n9 h1, e1]
  by_cases e1 : q = p1
  · exfalso; omega
  · rw [up_ne e1]; exact hkp q hq h1 h2
theorem c_SB_appendI {z0 d1 d2 : Nat} (hz0 : z0 ≤ 9999) (hC : EC Γ sh d1 d2) {k pv cp : Nat} {L : List Int32} (hL : SBc sh v k pv cp L) (hlen : L.length + (decL z0).length ≤ 2500) (hnb : n ≤ 1000000) : MetTR l yJ4_append_bf812 cJ4_append_bf812 2 (some (FieldType.object "java/lang/StringBuilder")) 5 1 6000 Γ sh v w n [.ref (Γ.2.1 + k), .int (nI z0)] (fun r u => r = k ∧ APS sh v n k pv (L ++ decL z0) u) := by
  refine w_start pn_J4 (Nat.le_of_ble_eq_true rfl) fun p e s m args below meth c hx hb hml hret hlk hnm hts hown hK hP hz hE hS ls hl => ?_
  have hd : DM sh n := hP.dm hz
  have hG : GR sh n sh n := GR.rf
  refine lv_aload_n hx hb dJ4_append_bf812_0 rfl (lv_at hl 0 rfl) ?_
  refine lv_iload_n hx hb dJ4_append_bf812_1 rfl (lv_at hl 1 rfl) ?_
  refine t_callr (post := fun r u => r = k ∧ APS sh v n k pv (L ++ decL z0) u) (Bs := []) (w_rP hx hb hml hts hown (hK.1 13 _ rfl).2 (c_ASB_appendI hz0 hC hL hlen hnb) rfl rfl kJ5_append_c97b9 su_J4 (by decide +kernel) xmJ4_53 (w_recv hK hP hL.1 rfl) PN.blind (t_pn hK hd hG hE hS hP hz) rfl hl.1 rfl (Nat.le_of_ble_eq_true rfl) ⟨Nat.le_of_ble_eq_true rfl, Nat.le_of_ble_eq_true rfl⟩ ⟨by show 0 + 1 ≤ 1; omega, by show 0 + 6000 ≤ 6000; omega⟩ dJ4_append_bf812_2) hG hS fun r u H1 locs1 hp1 hz hP hS => ?_
  obtain ⟨hr1, hu1⟩ := hp1
  refine lv_pop hx hb dJ4_append_bf812_5 rfl ?_
  refine lv_aload_n hx hb dJ4_append_bf812_6 rfl (lv_at hl 0 rfl) ?_
  exact t_rret (post := fun r u => r = k ∧ APS sh v n k pv (L ++ decL z0) u) hx hb hret (Or.inl ⟨_, rfl⟩) hlk hK hP hS hz hE hd hu1.1.1 ⟨rfl, hu1⟩ dJ4_append_bf812_7
end JE
