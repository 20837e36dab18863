/-! THE JDK, three: a text is appended -/
section JE
variable {l : Launch} {Γ : Cx} {sh : Sh} {v : Va} {w : Vl} {n : Nat}
theorem ni_c9 {i : Nat} (h : i ≤ 2000000) : (nI i).toNatClampNeg = i := Int32.toNatClampNeg_ofNat_of_lt (by omega)
theorem upd_eq {f : Nat → Int32} {k : Nat} {x : Int32} : upd f k x k = x := if_pos rfl
theorem upd_ne {f : Nat → Int32} {k q : Nat} {x : Int32} (h : q ≠ k) : upd f k x q = f q := if_neg h
theorem SBc.ne {sh : Sh} {v : Va} {k p cap : Nat} {L : List Int32} (h : SBc sh v k p cap L) : k ≠ p := fun q => by
  have h1 := h.1; have h2 := h.2.2.2.2.1
  rw [q, h2] at h1; cases h1
theorem STc.ne {sh : Sh} {v : Va} {ad av k p cap : Nat} {L B : List Int32} (h : STc sh v ad av B) (hT : SBc sh v k p cap L) : ad ≠ k ∧ ad ≠ p ∧ av ≠ k ∧ av ≠ p := by
  obtain ⟨h1, h2, -⟩ := h
  obtain ⟨h3, -, -, -, h4, -⟩ := hT
  refine ⟨fun q => ?_, fun q => ?_, fun q => ?_, fun q => ?_⟩ <;> subst q
  · rw [h1] at h3; cases h3
  · rw [h1] at h4; cases h4
  · rw [h2] at h3; cases h3
  · rw [h2] at h4; cases h4
theorem STc.gr {sh sh1 : Sh} {v v1 : Va} {n n1 ad av : Nat} {B : List Int32} (h : STc sh v ad av B) (hd : DM sh n) (hG : GR sh n sh1 n1) (h1 : v1 ad = v ad) (h2 : v1 av = v av) : STc sh1 v1 ad av B := by
  obtain ⟨a, b, c, d, e⟩ := h
  exact ⟨(hG.2 _ (hd _ _ a)).trans a, (hG.2 _ (hd _ _ b)).trans b, by rw [h1]; exact c, by rw [h2]; exact d, e⟩
/-- the builder has room for q bytes -/
def ENS (sh : Sh) (v : Va) (n k p cap q : Nat) (L : List Int32) (u : Wt) : Prop := KP sh v n k p u ∧ u.2.2 ≤ n + 1 ∧ ∃ p1 cap1, SBc u.1 u.2.1 k p1 cap1 L ∧ q ≤ cap1 ∧ (p1 = p ∨ n ≤ p1) ∧ (∀ i, i ≠ 0 → u.2.1 k i = v k i)
theorem c_ASB_ensure {k pv cp q : Nat} {L : List Int32} (hT : SBc sh v k pv cp L) (hq : q ≤ 2600) (hnb : n ≤ 1000000) : MetTV l yJ5_ensureCapacityInternal_d00df cJ5_ensureCapacityInternal_d00df 3 none 3 1 6000 Γ sh v w n [.ref (Γ.2.1 + k), .int (nI q)] (ENS sh v n k pv cp q L) := by
  refine w_start pn_J5 (Nat.le_of_ble_eq_true rfl) fun p e s m args below meth c hx hb hml hret hlk hnm hts hown hK hP hz hE hS ls hl => ?_
  have hd : DM sh n := hP.dm hz
  have hG : GR sh n sh n := GR.rf
  obtain ⟨hk, hc, hcnt, hp, hb0, hL, h6, hfi, hby⟩ := id hT
  refine lv_aload_n hx hb dJ5_ensureCapacityInternal_d00df_0 rfl (lv_at hl 0 rfl) ?_
  refine w_gd2 (k := k) (r := pv) hx hb hts hown hK hP fJ5_15 hk rfl hp dJ5_ensureCapacityInternal_d00df_1 ?_
  refine w_alenB (k := pv) hx hb hK hP hb0 dJ5_ensureCapacityInternal_d00df_4 ?_
  refine lv_aload_n hx hb dJ5_ensureCapacityInternal_d00df_5 rfl (lv_at hl 0 rfl) ?_
  refine w_gi (k := k) hx hb hts hown hK hP fJ5_22 hk rfl dJ5_ensureCapacityInternal_d00df_6 ?_
  rw [hc]
  refine lv_ishr hx hb dJ5_ensureCapacityInternal_d00df_9 ?_
  refine t_top (x' := (nI cp)) (sb_shr0 _) ?_
  refine lv_istore_n (lv' := [(2, .int (nI cp)), (0, .ref (Γ.2.1 + k)), (1, .int (nI q))]) hx hb dJ5_ensureCapacityInternal_d00df_10 rfl hl (by decide) rfl fun ls hl => ?_
  refine lv_iload_n hx hb dJ5_ensureCapacityInternal_d00df_11 rfl (lv_at hl 2 rfl) ?_
  refine lv_iload_n hx hb dJ5_ensureCapacityInternal_d00df_12 rfl (lv_at hl 0 rfl) ?_
  refine lv_isub hx hb dJ5_ensureCapacityInternal_d00df_13 ?_
  refine lv_if_le (tgt := 38) hx hb dJ5_ensureCapacityInternal_d00df_14 rfl (fun hc14 => ?_) (fun hc14 => ?_)
  · refine W.widen (k := 1) (n := 6000) (Nat.zero_le _) (Nat.zero_le _) ?_
    have hle : q ≤ cp := by
      by_cases hh : q ≤ cp
      · exact hh
      · exfalso
        rw [pk_sub (by omega)] at hc14
        exact nI_nle (by omega) (by omega) hc14
    exact t_vret (post := ENS sh v n k pv cp q L) hx hb hret hlk hK hP hS hz hE hd hG ⟨⟨GR.rf, fun _ _ _ _ => rfl⟩, Nat.le_succ _, pv, cp, hT, hle, Or.inl rfl, fun _ _ => rfl⟩ dJ5_ensureCapacityInternal_d00df_38
  · have hlt : cp < q := by
      by_cases hh : cp < q
      · exact hh
      · exfalso
        refine hc14 ?_
        have e1 := pk_sub_toInt (a := q) (b := cp) (by omega) (by omega)
        rw [Int32.le_iff_toInt_le, e1, Int32.toInt_zero]
        omega
    have hcn := capN_le hq hlt
    refine lv_aload_n hx hb dJ5_ensureCapacityInternal_d00df_17 rfl (lv_at hl 1 rfl) ?_
    refine lv_aload_n hx hb dJ5_ensureCapacityInternal_d00df_18 rfl (lv_at hl 1 rfl) ?_
    refine w_gd2 (k := k) (r := pv) hx hb hts hown hK hP fJ5_15 hk rfl hp dJ5_ensureCapacityInternal_d00df_19 ?_
    refine lv_aload_n hx hb dJ5_ensureCapacityInternal_d00df_22 rfl (lv_at hl 1 rfl) ?_
    refine lv_iload_n hx hb dJ5_ensureCapacityInternal_d00df_23 rfl (lv_at hl 2 rfl) ?_
    refine u_calli (Bs := [.ref (Γ.2.1 + k), .int (nI q)]) (w_rU hx hb hml hts hown (c_ASB_newCapacity hk hc hp hb0 hlt hq) rfl rfl kJ5_newCapacity_0f7a4.1 kJ5_newCapacity_0f7a4.2.1 kJ5_newCapacity_0f7a4.2.2.1 kJ5_newCapacity_0f7a4.1 kJ5_newCapacity_0f7a4.2.2.1 kJ5_newCapacity_0f7a4.2.2.2.1 kJ5_newCapacity_0f7a4.2.2.2.2 sl_J5_newCapacity_0f7a4 xmJ5_104 (w_recv hK hP hk rfl) PN.blind (t_pn hK hd hG hE hS hP hz) rfl hl.1 rfl (Nat.le_of_ble_eq_true rfl) ⟨Nat.le_of_ble_eq_true rfl, Nat.le_of_ble_eq_true rfl⟩ ⟨Nat.zero_le _, Nat.zero_le _⟩ dJ5_ensureCapacityInternal_d00df_24) hG hS fun r u H1 locs1 hp1 hz hP hS => ?_
    obtain ⟨hr1, hu1⟩ := hp1
    rw [hu1] at hP
    rw [hr1]
    refine lv_aload_n hx hb dJ5_ensureCapacityInternal_d00df_27 rfl (lv_at hl 1 rfl) ?_
    refine w_gi (k := k) hx hb hts hown hK hP fJ5_22 hk rfl dJ5_ensureCapacityInternal_d00df_28 ?_
    rw [hc]
    refine lv_ishl hx hb dJ5_ensureCapacityInternal_d00df_31 ?_
    refine t_top (x' := (nI (capN q cp))) (sb_shl0 _) ?_
    refine t_callr (post := fun r u => r = n ∧ u = (up sh n (some (sB 1 (capN q cp))), up v n (va_cpy (v pv) (fun _ => 0) 0 0 cp), n + 1)) (Bs := [.ref (Γ.2.1 + pv), .int (nI (capN q cp))]) (w_rS hx hb hml hts hown hK (c_AR_copyOf (S9 := 6000) hb0 hcn.2 hcn.1 (by omega) (by omega) hfi) rfl rfl kJ7_copyOf_9075b mJ5_108 PN.blind (t_pn hK hd hG hE hS hP hz) rfl hl.1 rfl (Nat.le_of_ble_eq_true rfl) ⟨Nat.le_of_ble_eq_true rfl, Nat.le_of_ble_eq_true rfl⟩ ⟨by show 0 + 1 ≤ 1; omega, by show 0 + 6000 ≤ 6000; omega⟩ dJ5_ensureCapacityInternal_d00df_32) hG hS fun r u H1 locs1 hp1 hz hP hS => ?_
    obtain ⟨hr1, hu1⟩ := hp1
    rw [hu1] at hz hP
    rw [hr1]
    dsimp only at hz hP
    have hkn : k ≠ n := fun q => by have := hd _ _ hk; omega
    have hpn : pv ≠ n := fun q => by have := hd _ _ hb0; omega
    refine w_pdB (k := k) (r := n) hx hb hts hown hK hP hS (gA_in hk) fJ5_15 ((up_ne hkn).trans hk) rfl (by omega) dJ5_ensureCapacityInternal_d00df_35 fun H1 locs1 hq1 hP hS => ?_
    have hz := hq1.trans hz
    have hG9 : GR sh n (up (up sh n (some (sB 1 (capN q cp)))) k (some (sO 13 ([1, 0, 0, 0].set 0 1)))) (n + 1) := GR.tr (hG.nw (e := some (sB 1 (capN q cp)))) ⟨Nat.le_refl _, fun q hq => ?_⟩
    refine t_vret (post := ENS sh v n k pv cp q L) hx hb hret hlk hK hP hS hz hE hd hG9 ⟨⟨hG9, fun q hq h1 h2 => ?_⟩, Nat.le_refl _, n, capN q cp, ⟨up_eq _ _ _, ?_, ?_, ?_, ?_, ?_, hcn.1, ?_, ?_⟩, capN_ge, Or.inr (Nat.le_refl _), fun i hi => ?_⟩ dJ5_ensureCapacityInternal_d00df_38
    all_goals try dsimp only
    · rw [up_ne h1, up_ne (by omega)]
    · rw [up_eq, up_ne hkn, upd_ne (by omega)]; exact hc
    · rw [up_eq, up_ne hkn, upd_ne (by omega)]; exact hcnt
    · rw [up_eq, upd_eq]; exact ni_c9 (by omega)
    · rw [up_ne (Ne.symm hkn), up_eq]
    · omega
    · intro i hi
      rw [up_ne (Ne.symm hkn), up_eq]
      by_cases hl2 : i < cp
      · rw [sb_cpy0 hl2]; exact hfi i hl2
      · rw [pk_cpy_out (by omega)]; rfl
    · intro i hi
      rw [up_ne (Ne.symm hkn), up_eq, sb_cpy0 (by omega)]; exact hby i hi
    · rw [up_eq, up_ne hkn, upd_ne hi]
    · by_cases e1 : q = k
      · subst e1; rw [up_eq]; exact ((up_ne hkn).trans hk).symm
      · exact up_ne e1
end JE
