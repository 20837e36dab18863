/-! THE JDK, nine: a new builder; charAt -/
section JE
variable {l : Launch} {Γ : Cx} {sh : Sh} {v : Va} {w : Vl} {n : Nat}
theorem c_ASB_init {d1 d2 t S9 : Nat} (hC : EC Γ sh d1 d2) (ht : sh t = some (sO 13 [2, 0, 0, 0])) (hS9 : 16 ≤ S9) (hnb : n ≤ 1500000) : MetTV l yJ5_init_d00df cJ5_init_d00df 2 none 1 1 S9 Γ sh v w n [.ref (Γ.2.1 + t), .int 16] (fun u => u = (up (up sh n (some (sB 1 16))) t (some oSB), up (up (up v n (fun _ => 0)) t (upd (v t) 0 (nI n))) t (upd (upd (v t) 0 (nI n)) 1 0), n + 1)) := by
  refine w_start pn_J5 (Nat.le_of_ble_eq_true rfl) fun p e s m args below meth c hx hb hml hret hlk hnm hts hown hK hP hz hE hS ls hl => ?_
  have hd : DM sh n := hP.dm hz
  have hG : GR sh n sh n := GR.rf
  have htn : t ≠ n := fun q => by have := hd _ _ ht; omega
  refine lv_aload_n hx hb dJ5_init_d00df_0 rfl (lv_at hl 0 rfl) ?_
  refine W.objInit hx hb hown (hts _ xoJ5_3) (hts _ xoi) (hts _ xoc) rfl (by rw [hml]; exact hl.1) rfl dJ5_init_d00df_1 (Nat.le_of_ble_eq_true rfl) (Nat.le_of_ble_eq_true rfl) ?_
  refine va_gets hx hb (hE.Z hC.1) hS hown (hts _ jJ5_18) (fun _ q => q) dJ5_init_d00df_4 ?_
  refine lv_if_eq (tgt := 25) hx hb dJ5_init_d00df_7 rfl (fun hc7 => False.elim (absurd hc7 (by decide))) (fun hc7 => ?_)
  refine lv_aload_n hx hb dJ5_init_d00df_10 rfl (lv_at hl 0 rfl) ?_
  refine lv_iload_n hx hb dJ5_init_d00df_11 rfl (lv_at hl 1 rfl) ?_
  refine w_newB (n := n) (N := 16) hx hb hts hK hP hS (by decide) rfl (by omega) (show 0 + 1 ≤ 1 by omega) (show 0 + 16 ≤ S9 by omega) hz dJ5_init_d00df_12 fun H1 hz hP hS => ?_
  refine w_pdB (k := t) (r := n) hx hb hts hown hK hP hS (gA_in ht) fJ5_15 ((up_ne htn).trans ht) rfl (by omega) dJ5_init_d00df_14 fun H1 locs1 hq1 hP hS => ?_
  have hz := hq1.trans hz
  refine lv_aload_n hx hb dJ5_init_d00df_17 rfl (lv_at hl 0 rfl) ?_
  refine lv_iconst (v := 0) hx hb dJ5_init_d00df_18 rfl ?_
  refine w_put (k := t) hx hb hts hown hK hP hS (gA_in ht) fJ5_22 (up_eq _ _ _) rfl (cd := 0) (y := 0) rfl rfl rfl dJ5_init_d00df_19 fun H1 locs1 hq1 hP hS => ?_
  have hz := hq1.trans hz
  refine lv_goto (tgt := 38) hx hb dJ5_init_d00df_22 rfl ?_
  rw [up_up, up_eq, up_ne htn] at hP
  refine W.widen (k := 1) (n := S9) (Nat.le_of_eq (Nat.zero_add 1)) (show 0 + 16 ≤ S9 by omega) ?_
  refine t_vretW (post := fun u => u = (up (up sh n (some (sB 1 16))) t (some oSB), up (up (up v n (fun _ => 0)) t (upd (v t) 0 (nI n))) t (upd (upd (v t) 0 (nI n)) 1 0), n + 1)) hx hb hret hlk hK hP hS hz hE (Nat.le_succ _) (fun k e hk hw => ?_) rfl dJ5_init_d00df_38
  by_cases h1 : k = t
  · subst h1; exact ⟨_, up_eq _ _ _, trivial⟩
  · exact ⟨e, by rw [up_ne h1, up_ne (fun q => by have := hd _ _ hk; omega)]; exact hk, hw⟩
theorem c_SB_init {d1 d2 t S9 : Nat} (hC : EC Γ sh d1 d2) (ht : sh t = some (sO 13 [2, 0, 0, 0])) (hS9 : 16 ≤ S9) (hnb : n ≤ 1500000) : MetTV l yJ4_init_da8c8 cJ4_init_da8c8 1 none 2 1 S9 Γ sh v w n [.ref (Γ.2.1 + t)] (fun u => u = (up (up sh n (some (sB 1 16))) t (some oSB), up (up (up v n (fun _ => 0)) t (upd (v t) 0 (nI n))) t (upd (upd (v t) 0 (nI n)) 1 0), n + 1)) := by
  refine w_start pn_J4 (Nat.le_of_ble_eq_true rfl) fun p e s m args below meth c hx hb hml hret hlk hnm hts hown hK hP hz hE hS ls hl => ?_
  have hd : DM sh n := hP.dm hz
  have hG : GR sh n sh n := GR.rf
  refine lv_aload_n hx hb dJ4_init_da8c8_0 rfl (lv_at hl 0 rfl) ?_
  refine lv_bipush (v := 16) hx hb dJ4_init_da8c8_1 rfl ?_
  refine t_callv (Bs := []) (w_rI (k := t) hx hb hml hts hown hK (c_ASB_init hC ht hS9 hnb) rfl rfl kJ5_init_d00df mJ4_1 PN.blind (t_pn hK hd hG hE hS hP hz) rfl hl.1 rfl (Nat.le_of_ble_eq_true rfl) ⟨Nat.le_of_ble_eq_true rfl, Nat.le_of_ble_eq_true rfl⟩ ⟨by show 0 + 1 ≤ 1; omega, by show 0 + S9 ≤ S9; omega⟩ dJ4_init_da8c8_3) hG hS fun u H1 locs1 hp1 hz hP hS => ?_
  refine W.widen (k := 1) (n := S9) (Nat.le_of_eq (Nat.zero_add 1)) (Nat.le_of_eq (Nat.zero_add S9)) ?_
  refine t_vretW (post := fun u => u = (up (up sh n (some (sB 1 16))) t (some oSB), up (up (up v n (fun _ => 0)) t (upd (v t) 0 (nI n))) t (upd (upd (v t) 0 (nI n)) 1 0), n + 1)) hx hb hret hlk hK hP hS hz hE (by rw [hp1]; exact Nat.le_succ _) (fun k e hk hw => ?_) hp1 dJ4_init_da8c8_6
  rw [hp1]
  by_cases h1 : k = t
  · subst h1; exact ⟨_, up_eq _ _ _, trivial⟩
  · exact ⟨e, by show up _ t _ k = _; rw [up_ne h1, up_ne (fun q => by have := hd _ _ hk; omega)]; exact hk, hw⟩
/-- what new StringBuilder() leaves -/
theorem SBc.new {sh : Sh} {v : Va} {t n : Nat} (htn : t ≠ n) (h0 : v t 3 = 0) (hn : n ≤ 1500000) : SBc (up (up sh n (some (sB 1 16))) t (some oSB)) (up (up (up v n (fun _ => 0)) t (upd (v t) 0 (nI n))) t (upd (upd (v t) 0 (nI n)) 1 0)) t n 16 [] := by
  refine ⟨up_eq _ _ _, ?_, ?_, ?_, ?_, Nat.zero_le _, by omega, fun i hi => ?_, fun i hi => absurd hi (Nat.not_lt_zero _)⟩
  · rw [up_eq, upd_eq]
  · rw [up_eq, upd_ne (by decide), upd_ne (by decide), h0]; rfl
  · rw [up_eq, upd_ne (by decide), upd_eq]; exact ni_c9 (by omega)
  · rw [up_ne (Ne.symm htn), up_eq]
  · rw [up_up, up_ne (Ne.symm htn), up_eq]; rfl
theorem c_S_isLatin1 {ad av d1 d2 : Nat} {B : List Int32} (hT : STc sh v ad av B) (hC : EC Γ sh d1 d2) : MetI l yJ0_isLatin1_aae02 cJ0_isLatin1_aae02 1 (some .boolean) 0 Γ sh v w n [.ref (Γ.2.1 + ad)] (fun x u => x = 1 ∧ u = v) := by
  refine w_start pn_J0 (Nat.le_of_ble_eq_true rfl) fun p e s m args below meth c hx hb hml hret hlk hnm hts hown hK hP hz hE hS ls hl => ?_
  have hd : DM sh n := hP.dm hz
  have hG : GR sh n sh n := GR.rf
  obtain ⟨ha, hv0, hc0, hby, hrg, hB⟩ := id hT
  refine va_gets hx hb (hE.Z hC.1) hS hown (hts _ jJ0_38) (fun _ q => q) dJ0_isLatin1_aae02_0 ?_
  refine lv_if_eq (tgt := 17) hx hb dJ0_isLatin1_aae02_3 rfl (fun hc3 => False.elim (absurd hc3 (by decide))) (fun hc3 => ?_)
  refine lv_aload_n hx hb dJ0_isLatin1_aae02_6 rfl (lv_at hl 0 rfl) ?_
  refine w_getQ (k := ad) hx hb hts hown hK hP fJ0_15 ha rfl (x := .int 0) (congrArg Value.int hc0) dJ0_isLatin1_aae02_7 ?_
  refine lv_if_ne (tgt := 17) hx hb dJ0_isLatin1_aae02_10 rfl (fun hc10 => False.elim (hc10 rfl)) (fun hc10 => ?_)
  refine lv_iconst (v := 1) hx hb dJ0_isLatin1_aae02_13 rfl ?_
  refine lv_goto (tgt := 18) hx hb dJ0_isLatin1_aae02_14 rfl ?_
  exact w_iret hx hb hret rfl hlk hK hP hS hz hE ⟨rfl, rfl⟩ dJ0_isLatin1_aae02_18
theorem b_255 {b : Int32} (h : 0 ≤ b.toInt ∧ b.toInt < 128) : ((b &&& 255).toUInt32 % 65536).toInt32 = b := by
  have e1 : b.toBitVec.toNat < 128 := by
    have h1 := h.1; have h2 := h.2
    have e2 : b.toInt = b.toBitVec.toInt := rfl
    rw [e2, BitVec.toInt_eq_toNat_cond] at h1 h2
    split at h1 <;> rename_i h3
    · rw [if_pos h3] at h2; omega
    · have := b.toBitVec.isLt; omega
  apply Int32.toBitVec_inj.mp
  apply BitVec.eq_of_toNat_eq
  show ((b.toBitVec &&& 255#32) % 65536#32).toNat = _
  rw [BitVec.toNat_umod, BitVec.toNat_and, show (255#32 : BitVec 32).toNat = 2 ^ 8 - 1 from rfl, Nat.and_two_pow_sub_one_eq_mod, show (65536#32 : BitVec 32).toNat = 65536 from rfl]
  omega
theorem narrow_c {b : Int32} (h : 0 ≤ b.toInt ∧ b.toInt < 128) : narrow .char (.int b) = .int b := by
  show Value.int ((b.toUInt32 % 65536).toInt32) = .int b
  congr 1
  have e : b &&& 255 = b := by
    have h9 := b_255 h
    have e1 : b.toBitVec.toNat < 128 := by
      have h1 := h.1; have h2 := h.2
      have e2 : b.toInt = b.toBitVec.toInt := rfl
      rw [e2, BitVec.toInt_eq_toNat_cond] at h1 h2
      split at h1 <;> rename_i h3
      · rw [if_pos h3] at h2; omega
      · have := b.toBitVec.isLt; omega
    apply Int32.toBitVec_inj.mp
    apply BitVec.eq_of_toNat_eq
    show (b.toBitVec &&& 255#32).toNat = _
    rw [BitVec.toNat_and, show (255#32 : BitVec 32).toNat = 2 ^ 8 - 1 from rfl, Nat.and_two_pow_sub_one_eq_mod]
    omega
  have h9 := b_255 h
  rwa [e] at h9
theorem c_SL1_at {ad av d1 d2 : Nat} {B : List Int32} (hT : STc sh v ad av B) (hC : EC Γ sh d1 d2) (hF : EF Γ sh) {i : Nat} (hi : i < B.length) : MetI l yJ1_charAt_3b067 cJ1_charAt_3b067 2 (some .char) 3 Γ sh v w n [.ref (Γ.2.1 + av), .int (nI i)] (fun x u => x = B.getD i 0 ∧ u = v) := by
  refine w_start pn_J1 (Nat.le_of_ble_eq_true rfl) fun p e s m args below meth c hx hb hml hret hlk hnm hts hown hK hP hz hE hS ls hl => ?_
  have hd : DM sh n := hP.dm hz
  have hG : GR sh n sh n := GR.rf
  obtain ⟨ha, hv0, hc0, hby, hrg, hB⟩ := id hT
  refine lv_iload_n hx hb dJ1_charAt_3b067_0 rfl (lv_at hl 1 rfl) ?_
  refine lv_aload_n hx hb dJ1_charAt_3b067_1 rfl (lv_at hl 0 rfl) ?_
  refine w_alenX (k := av) hx hb hK hP (by decide) hv0 dJ1_charAt_3b067_2 ?_
  have hci : f_Str_checkIndex_df160 v (nI i) (nI B.length) = some () := by unfold f_Str_checkIndex_df160 f_Pre_checkIndex_8e157; rw [if_neg (nI_pos (by omega)), if_pos (show nI i < nI B.length from (ni_lt (by omega) (by omega)).mpr hi)]; rfl
  refine u_callv (Bs := [.int (nI i), .int (nI B.length)]) (w_rS hx hb hml hts hown hK (c_Str_checkIndex_df160 hF hci) rfl rfl kJ0_checkIndex_df160 mJ1_9 PN.blind (t_pn hK hd hG hE hS hP hz) rfl hl.1 rfl (Nat.le_of_ble_eq_true rfl) ⟨Nat.le_of_ble_eq_true rfl, Nat.le_of_ble_eq_true rfl⟩ ⟨Nat.zero_le _, Nat.zero_le _⟩ dJ1_charAt_3b067_3) hG hS fun u H1 locs1 hp1 hz hP hS => ?_
  rw [hp1] at hP
  refine lv_aload_n hx hb dJ1_charAt_3b067_6 rfl (lv_at hl 0 rfl) ?_
  refine lv_iload_n hx hb dJ1_charAt_3b067_7 rfl (lv_at hl 1 rfl) ?_
  refine w_baldX (k := av) hx hb hK hP hv0 (vin hi (by omega)) dJ1_charAt_3b067_8 ?_
  refine t_top (x' := B.getD i 0) (by rw [nI_clamp (by omega)]; exact hby i hi) ?_
  refine lv_sipush (v := 255) hx hb dJ1_charAt_3b067_9 rfl ?_
  refine lv_iand hx hb dJ1_charAt_3b067_12 ?_
  refine lv_i2c (v := (((B.getD i 0) &&& 255).toUInt32 % 65536).toInt32) hx hb dJ1_charAt_3b067_13 rfl ?_
  refine t_top (x' := B.getD i 0) (b_255 (hrg _ (by rw [List.getD_eq_getElem?_getD, List.getElem?_eq_getElem hi]; exact List.getElem_mem hi))) ?_
  exact w_iret hx hb hret (narrow_c (hrg _ (by rw [List.getD_eq_getElem?_getD, List.getElem?_eq_getElem hi]; exact List.getElem_mem hi))) hlk hK hP hS hz hE ⟨rfl, rfl⟩ dJ1_charAt_3b067_14
theorem c_S_charAt {ad av d1 d2 : Nat} {B : List Int32} (hT : STc sh v ad av B) (hC : EC Γ sh d1 d2) (hF : EF Γ sh) {i : Nat} (hi : i < B.length) : MetI l yJ0_charAt_5068e cJ0_charAt_5068e 2 (some .char) 4 Γ sh v w n [.ref (Γ.2.1 + ad), .int (nI i)] (fun x u => x = B.getD i 0 ∧ u = v) := by
  refine w_start pn_J0 (Nat.le_of_ble_eq_true rfl) fun p e s m args below meth c hx hb hml hret hlk hnm hts hown hK hP hz hE hS ls hl => ?_
  have hd : DM sh n := hP.dm hz
  have hG : GR sh n sh n := GR.rf
  obtain ⟨ha, hv0, hc0, hby, hrg, hB⟩ := id hT
  refine lv_aload_n hx hb dJ0_charAt_5068e_0 rfl (lv_at hl 0 rfl) ?_
  refine u_calli (Bs := []) (w_rV (k := ad) hx hb hml hts hown hK (c_S_isLatin1 hT hC) rfl rfl kJ0_isLatin1_aae02 mJ0_492 (w_recvQ hK hP ha rfl) PN.blind (t_pn hK hd hG hE hS hP hz) rfl hl.1 rfl (Nat.le_of_ble_eq_true rfl) ⟨Nat.le_of_ble_eq_true rfl, Nat.le_of_ble_eq_true rfl⟩ ⟨Nat.zero_le _, Nat.zero_le _⟩ dJ0_charAt_5068e_1) hG hS fun r u H1 locs1 hp1 hz hP hS => ?_
  obtain ⟨hr1, hu1⟩ := hp1
  rw [hu1] at hP
  rw [hr1]
  refine lv_if_eq (tgt := 16) hx hb dJ0_charAt_5068e_4 rfl (fun hc4 => False.elim (absurd hc4 (by decide))) (fun hc4 => ?_)
  refine lv_aload_n hx hb dJ0_charAt_5068e_7 rfl (lv_at hl 0 rfl) ?_
  refine w_getQ (k := ad) hx hb hts hown hK hP fJ0_9 ha rfl (x := .ref (Γ.2.1 + av)) rfl dJ0_charAt_5068e_8 ?_
  refine lv_iload_n hx hb dJ0_charAt_5068e_11 rfl (lv_at hl 1 rfl) ?_
  refine u_calli (Bs := [.ref (Γ.2.1 + av), .int (nI i)]) (w_rS hx hb hml hts hown hK (c_SL1_at hT hC hF hi) rfl rfl kJ1_charAt_3b067 mJ0_495 PN.blind (t_pn hK hd hG hE hS hP hz) rfl hl.1 rfl (Nat.le_of_ble_eq_true rfl) ⟨Nat.le_of_ble_eq_true rfl, Nat.le_of_ble_eq_true rfl⟩ ⟨Nat.zero_le _, Nat.zero_le _⟩ dJ0_charAt_5068e_12) hG hS fun r u H1 locs1 hp1 hz hP hS => ?_
  obtain ⟨hr1, hu1⟩ := hp1
  rw [hu1] at hP
  rw [hr1]
  exact w_iret hx hb hret (narrow_c (hrg _ (by rw [List.getD_eq_getElem?_getD, List.getElem?_eq_getElem hi]; exact List.getElem_mem hi))) hlk hK hP hS hz hE ⟨rfl, rfl⟩ dJ0_charAt_5068e_15
end JE
