/-! THE JDK, two: capacity -/
section JE
variable {l : Launch} {Γ : Cx} {sh : Sh} {v : Va} {w : Vl} {n : Nat}
theorem c_AS_newLength {a1 a2 a3 : Int32} (h1 : ¬ a1 + q_max a2 a3 ≤ 0) (h2 : ¬ 2147483639 < a1 + q_max a2 a3) : MetI l yJ8_newLength_cabcc cJ8_newLength_cabcc 4 (some .int) 1 Γ sh v w n [.int a1, .int a2, .int a3] (fun x u => x = a1 + q_max a2 a3 ∧ u = v) := by
  refine w_start pn_J8 (Nat.le_of_ble_eq_true rfl) fun p e s m args below meth c hx hb hml hret hlk hnm hts hown hK hP hz hE hS ls hl => ?_
  have hd : DM sh n := hP.dm hz
  have hG : GR sh n sh n := GR.rf
  refine lv_iload_n hx hb dJ8_newLength_cabcc_0 rfl (lv_at hl 0 rfl) ?_
  refine lv_iload_n hx hb dJ8_newLength_cabcc_1 rfl (lv_at hl 1 rfl) ?_
  refine lv_iload_n hx hb dJ8_newLength_cabcc_2 rfl (lv_at hl 2 rfl) ?_
  refine z_mmax hx hb hml hl.1 hts hown xJ8_194 ⟨Nat.le_of_ble_eq_true rfl, Nat.le_of_ble_eq_true rfl⟩ (Nat.le_of_ble_eq_true rfl) ⟨Nat.zero_le _, Nat.zero_le _⟩ dJ8_newLength_cabcc_3 ?_
  refine lv_iadd hx hb dJ8_newLength_cabcc_6 ?_
  refine lv_istore_n (lv' := [(3, .int (a1 + (q_max a2 a3))), (0, .int a1), (1, .int a2), (2, .int a3)]) hx hb dJ8_newLength_cabcc_7 rfl hl (by decide) rfl fun ls hl => ?_
  refine lv_iconst (v := 0) hx hb dJ8_newLength_cabcc_8 rfl ?_
  refine lv_iload_n hx hb dJ8_newLength_cabcc_9 rfl (lv_at hl 0 rfl) ?_
  refine lv_icmp_ge (tgt := 21) hx hb dJ8_newLength_cabcc_10 rfl (fun hc10 => False.elim (h1 hc10)) (fun hc10 => ?_)
  refine lv_iload_n hx hb dJ8_newLength_cabcc_13 rfl (lv_at hl 0 rfl) ?_
  refine lv_ldc hx hb hown (hts _ qJ8_200) dJ8_newLength_cabcc_14 ?_
  refine lv_icmp_gt (tgt := 21) hx hb dJ8_newLength_cabcc_16 rfl (fun hc16 => False.elim (h2 hc16)) (fun hc16 => ?_)
  refine lv_iload_n hx hb dJ8_newLength_cabcc_19 rfl (lv_at hl 0 rfl) ?_
  exact w_iret hx hb hret rfl hlk hK hP hS hz hE ⟨rfl, rfl⟩ dJ8_newLength_cabcc_20
def capN (q cp : Nat) : Nat := cp + (if q - cp < cp + 2 then cp + 2 else q - cp)
theorem capN_ge {q cp : Nat} : q ≤ capN q cp := by unfold capN; split <;> omega
theorem capN_le {q cp : Nat} (hq : q ≤ 2600) (hc : cp < q) : capN q cp ≤ 6000 ∧ cp < capN q cp := by unfold capN; split <;> omega
theorem q_max_n {a b : Nat} (ha : a ≤ 4000) (hb : b ≤ 4000) : q_max (nI a) (nI b) = nI (if a < b then b else a) := by
  unfold q_max
  by_cases h : a < b
  · rw [if_pos h, if_pos ((ni_lt ha hb).mpr h)]
  · rw [if_neg h, if_neg (fun q => h ((ni_lt ha hb).mp q))]
theorem q_min_n {a b : Nat} (ha : a ≤ 4000) (hb : b ≤ 4000) : q_min (nI a) (nI b) = nI (if b < a then b else a) := by
  unfold q_min
  by_cases h : b < a
  · rw [if_pos h, if_pos ((ni_lt hb ha).mpr h)]
  · rw [if_neg h, if_neg (fun q => h ((ni_lt hb ha).mp q))]
theorem c_ASB_newCapacity {k pv cp q : Nat} (hk : sh k = some oSB) (hc : v k 1 = 0) (hp : (v k 0).toNatClampNeg = pv) (hb0 : sh pv = some (sB 1 cp)) (h1 : cp < q) (hq : q ≤ 2600) : MetI l yJ5_newCapacity_0f7a4 cJ5_newCapacity_0f7a4 6 (some .int) 2 Γ sh v w n [.ref (Γ.2.1 + k), .int (nI q)] (fun x u => x = nI (capN q cp) ∧ u = v) := by
  refine w_start pn_J5 (Nat.le_of_ble_eq_true rfl) fun p e s m args below meth c hx hb hml hret hlk hnm hts hown hK hP hz hE hS ls hl => ?_
  have hd : DM sh n := hP.dm hz
  have hG : GR sh n sh n := GR.rf
  have e0 : nI cp + q_max (nI q - nI cp) (nI (cp + 2)) = nI (capN q cp) := by
    rw [pk_sub (by omega), q_max_n (by omega) (by omega), nI_add]; rfl
  have hcn := capN_le hq h1
  refine lv_aload_n hx hb dJ5_newCapacity_0f7a4_0 rfl (lv_at hl 0 rfl) ?_
  refine w_gd2 (k := k) (r := pv) hx hb hts hown hK hP fJ5_15 hk rfl hp dJ5_newCapacity_0f7a4_1 ?_
  refine w_alenB (k := pv) hx hb hK hP hb0 dJ5_newCapacity_0f7a4_4 ?_
  refine lv_istore_n (lv' := [(2, .int (nI cp)), (0, .ref (Γ.2.1 + k)), (1, .int (nI q))]) hx hb dJ5_newCapacity_0f7a4_5 rfl hl (by decide) rfl fun ls hl => ?_
  refine lv_iload_n hx hb dJ5_newCapacity_0f7a4_6 rfl (lv_at hl 2 rfl) ?_
  refine lv_aload_n hx hb dJ5_newCapacity_0f7a4_7 rfl (lv_at hl 1 rfl) ?_
  refine w_gi (k := k) hx hb hts hown hK hP fJ5_22 hk rfl dJ5_newCapacity_0f7a4_8 ?_
  rw [hc]
  refine lv_ishl hx hb dJ5_newCapacity_0f7a4_11 ?_
  refine t_top (x' := (nI q)) (sb_shl0 _) ?_
  refine lv_istore_n (lv' := [(3, .int (nI q)), (2, .int (nI cp)), (0, .ref (Γ.2.1 + k)), (1, .int (nI q))]) hx hb dJ5_newCapacity_0f7a4_12 rfl hl (by decide) rfl fun ls hl => ?_
  refine lv_iload_n hx hb dJ5_newCapacity_0f7a4_13 rfl (lv_at hl 0 rfl) ?_
  refine lv_iload_n hx hb dJ5_newCapacity_0f7a4_14 rfl (lv_at hl 1 rfl) ?_
  refine lv_isub hx hb dJ5_newCapacity_0f7a4_15 ?_
  refine lv_istore (lv' := [(4, .int ((nI q) - (nI cp))), (3, .int (nI q)), (2, .int (nI cp)), (0, .ref (Γ.2.1 + k)), (1, .int (nI q))]) hx hb dJ5_newCapacity_0f7a4_16 hl (by decide) rfl fun ls hl => ?_
  refine lv_iload_n hx hb dJ5_newCapacity_0f7a4_18 rfl (lv_at hl 2 rfl) ?_
  refine lv_iload hx hb dJ5_newCapacity_0f7a4_19 (lv_at hl 0 rfl) ?_
  refine lv_iload_n hx hb dJ5_newCapacity_0f7a4_21 rfl (lv_at hl 2 rfl) ?_
  refine lv_iconst (v := 2) hx hb dJ5_newCapacity_0f7a4_22 rfl ?_
  refine lv_aload_n hx hb dJ5_newCapacity_0f7a4_23 rfl (lv_at hl 3 rfl) ?_
  refine w_gi (k := k) hx hb hts hown hK hP fJ5_22 hk rfl dJ5_newCapacity_0f7a4_24 ?_
  rw [hc]
  refine lv_ishl hx hb dJ5_newCapacity_0f7a4_27 ?_
  refine t_top (x' := 2) (by rw [sb_shl0]) ?_
  refine lv_iadd hx hb dJ5_newCapacity_0f7a4_28 ?_
  refine t_top (x' := (nI (cp + 2))) (nI_add cp 2) ?_
  refine u_calli (Bs := [.int (nI cp), .int (nI q - nI cp), .int (nI (cp + 2))]) (w_rS hx hb hml hts hown hK (c_AS_newLength (a1 := nI cp) (a2 := nI q - nI cp) (a3 := nI (cp + 2)) (by rw [e0]; exact nI_nle (by omega) (by omega)) (by rw [e0]; exact show ¬ nI 2147483639 < nI (capN q cp) from nI_nlt (by omega) (by decide))) rfl rfl kJ8_newLength_cabcc mJ5_114 PN.blind (t_pn hK hd hG hE hS hP hz) rfl hl.1 rfl (Nat.le_of_ble_eq_true rfl) ⟨Nat.le_of_ble_eq_true rfl, Nat.le_of_ble_eq_true rfl⟩ ⟨Nat.le_refl _, Nat.le_refl _⟩ dJ5_newCapacity_0f7a4_29) hG hS fun r u H1 locs1 hp1 hz hP hS => ?_
  obtain ⟨hr1, hu1⟩ := hp1
  rw [hu1] at hP
  rw [hr1, e0]
  refine lv_istore (lv' := [(5, .int (nI (capN q cp))), (4, .int ((nI q) - (nI cp))), (3, .int (nI q)), (2, .int (nI cp)), (0, .ref (Γ.2.1 + k)), (1, .int (nI q))]) hx hb dJ5_newCapacity_0f7a4_32 hl (by decide) rfl fun ls hl => ?_
  refine lv_iload hx hb dJ5_newCapacity_0f7a4_34 (lv_at hl 0 rfl) ?_
  refine lv_ldc hx hb hown (hts _ qJ5_39) dJ5_newCapacity_0f7a4_36 ?_
  refine lv_icmp_ne (tgt := 51) hx hb dJ5_newCapacity_0f7a4_38 rfl (fun hc38 => ?_) (fun hc38 => False.elim (by have := (nI_eq (a := capN q cp) (b := 2147483647) (by omega) (by omega)).mp hc38; omega))
  refine lv_iload hx hb dJ5_newCapacity_0f7a4_51 (lv_at hl 0 rfl) ?_
  refine lv_aload_n hx hb dJ5_newCapacity_0f7a4_53 rfl (lv_at hl 4 rfl) ?_
  refine w_gi (k := k) hx hb hts hown hK hP fJ5_22 hk rfl dJ5_newCapacity_0f7a4_54 ?_
  rw [hc]
  refine lv_ishr hx hb dJ5_newCapacity_0f7a4_57 ?_
  refine t_top (x' := (nI (capN q cp))) (sb_shr0 _) ?_
  exact w_iret hx hb hret rfl hlk hK hP hS hz hE ⟨rfl, rfl⟩ dJ5_newCapacity_0f7a4_58
theorem c_AR_copyOf {pv cp N S9 : Nat} (hb0 : sh pv = some (sB 1 cp)) (h1 : cp < N) (hN : N ≤ 6000) (hcp : cp ≤ 4000) (hS9 : N ≤ S9) (hf : fitN v pv cp) : MetTR l yJ7_copyOf_9075b cJ7_copyOf_9075b 3 (some (FieldType.array FieldType.byte)) 1 1 S9 Γ sh v w n [.ref (Γ.2.1 + pv), .int (nI N)] (fun r u => r = n ∧ u = (up sh n (some (sB 1 N)), up v n (va_cpy (v pv) (fun _ => 0) 0 0 cp), n + 1)) := by
  refine w_start pn_J7 (Nat.le_of_ble_eq_true rfl) fun p e s m args below meth c hx hb hml hret hlk hnm hts hown hK hP hz hE hS ls hl => ?_
  have hd : DM sh n := hP.dm hz
  have hG : GR sh n sh n := GR.rf
  refine lv_iload_n hx hb dJ7_copyOf_9075b_0 rfl (lv_at hl 1 rfl) ?_
  refine lv_aload_n hx hb dJ7_copyOf_9075b_1 rfl (lv_at hl 0 rfl) ?_
  refine w_alenB (k := pv) hx hb hK hP hb0 dJ7_copyOf_9075b_2 ?_
  refine lv_icmp_ne (tgt := 14) hx hb dJ7_copyOf_9075b_3 rfl (fun hc3 => ?_) (fun hc3 => False.elim (by have := (nI_eq (a := N) (b := cp) (by omega) (by omega)).mp hc3; omega))
  refine lv_iload_n hx hb dJ7_copyOf_9075b_14 rfl (lv_at hl 1 rfl) ?_
  have hpn : pv ≠ n := fun q => by have := hd _ _ hb0; omega
  refine w_newB (n := n) (N := N) hx hb hts hK hP hS (nI_pos (by omega)) (nI_clamp (by omega)) (by omega) (show 0 + 1 ≤ 1 by omega) (show 0 + N ≤ S9 by omega) hz dJ7_copyOf_9075b_15 fun H1 hz hP hS => ?_
  have hb1 : (up sh n (some (sB 1 N))) pv = some (sB 1 cp) := (up_ne hpn).trans hb0
  have hb2 : (up sh n (some (sB 1 N))) n = some (sB 1 N) := up_eq _ _ _
  refine lv_astore_n (lv' := [(2, .ref (Γ.2.1 + n)), (0, .ref (Γ.2.1 + pv)), (1, .int (nI N))]) hx hb dJ7_copyOf_9075b_17 rfl hl (by decide) rfl fun ls hl => ?_
  refine lv_aload_n hx hb dJ7_copyOf_9075b_18 rfl (lv_at hl 1 rfl) ?_
  refine lv_iconst (v := 0) hx hb dJ7_copyOf_9075b_19 rfl ?_
  refine lv_aload_n hx hb dJ7_copyOf_9075b_20 rfl (lv_at hl 0 rfl) ?_
  refine lv_iconst (v := 0) hx hb dJ7_copyOf_9075b_21 rfl ?_
  refine lv_aload_n hx hb dJ7_copyOf_9075b_22 rfl (lv_at hl 1 rfl) ?_
  refine w_alenB (k := pv) hx hb hK hP hb1 dJ7_copyOf_9075b_23 ?_
  refine lv_iload_n hx hb dJ7_copyOf_9075b_24 rfl (lv_at hl 2 rfl) ?_
  refine z_mmin hx hb hml hl.1 hts hown xJ7_304 ⟨Nat.le_of_ble_eq_true rfl, Nat.le_of_ble_eq_true rfl⟩ (Nat.le_of_ble_eq_true rfl) ⟨Nat.le_refl _, by show 0 + N ≤ S9; omega⟩ dJ7_copyOf_9075b_25 ?_
  refine t_top (x' := (nI cp)) (by unfold q_min; exact if_neg (nI_nlt (by omega) (by omega))) ?_
  refine z_cpyB (n := n + 1) (v1 := up v n (va_cpy (v pv) (fun _ => 0) 0 0 cp)) hx hb hml hl.1 hts hown hK hP hS hz (Or.inl hb1) hb2 (gA_new (Nat.le_refl _)) (fun i hi => by rw [up_ne hpn]; exact hf i hi) xJ7_150 ?_ ⟨Nat.le_of_ble_eq_true rfl, Nat.le_of_ble_eq_true rfl⟩ (Nat.le_of_ble_eq_true rfl) ⟨Nat.le_refl _, by show 0 + N ≤ S9; omega⟩ ?_ dJ7_copyOf_9075b_28 fun H1 locs1 hz hP hS => ?_
  · rw [nI_clamp (by omega), sb_cl0]
    exact fun h => by rcases h with h | h | h | h | h | h <;> first | exact absurd h (by decide) | exact nI_pos (by omega) h | omega
  · unfold q_cpy; rw [nI_clamp (by omega), sb_cl0, up_eq, up_ne hpn, up_up]
  refine lv_aload_n hx hb dJ7_copyOf_9075b_31 rfl (lv_at hl 0 rfl) ?_
  refine W.widen (k := 1) (n := S9) (Nat.le_refl _) (by omega) ?_
  exact t_rret (post := (fun r u => r = n ∧ u = (up sh n (some (sB 1 N)), up v n (va_cpy (v pv) (fun _ => 0) 0 0 cp), n + 1))) hx hb hret (Or.inr ⟨_, rfl⟩) hlk hK hP hS hz hE hd hG.nw ⟨rfl, rfl⟩ dJ7_copyOf_9075b_32
end JE
