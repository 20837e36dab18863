/-! THE JDK, six: an int is written as a text -/
section JE
variable {l : Launch} {Γ : Cx} {sh : Sh} {v : Va} {w : Vl} {n : Nat}
theorem ng_i {m : Nat} (h : m ≤ 10000) : (-(nI m)).toInt = -(m : Int) := by
  rw [Int32.toInt_neg, show (nI m).toInt = (m : Int) from Int32.toInt_ofNat_of_lt (by omega)]
  have e : ((2 ^ 32 : Nat) : Int) = 4294967296 := rfl
  exact Int.bmod_eq_of_le (by omega) (by omega)
theorem ng_lt {c : Int32} {m : Nat} (h : m ≤ 10000) : c < -(nI m) ↔ c.toInt < -(m : Int) := by rw [Int32.lt_iff_toInt_lt, ng_i h]
theorem ng_lt2 {c : Int32} {m : Nat} (h : m ≤ 10000) : -(nI m) < c ↔ -(m : Int) < c.toInt := by rw [Int32.lt_iff_toInt_lt, ng_i h]
theorem ng_le {c : Int32} {m : Nat} (h : m ≤ 10000) : -(nI m) ≤ c ↔ -(m : Int) ≤ c.toInt := by rw [Int32.le_iff_toInt_le, ng_i h]
theorem ng_le2 {c : Int32} {m : Nat} (h : m ≤ 10000) : c ≤ -(nI m) ↔ c.toInt ≤ -(m : Int) := by rw [Int32.le_iff_toInt_le, ng_i h]
theorem ng_ng {m : Nat} : - -(nI m) = nI m := Int32.neg_neg
theorem ng_div {m : Nat} (h : m ≤ 10000) : -(nI m) / 100 = -(nI (m / 100)) := by
  apply Int32.toInt_inj.mp
  rw [Int32.toInt_div, ng_i h, ng_i (by omega), show (100 : Int32).toInt = 100 from rfl, Int.neg_tdiv]
  have e : ((2 ^ 32 : Nat) : Int) = 4294967296 := rfl
  have e2 : (m : Int).tdiv 100 = ((m / 100 : Nat) : Int) := by rw [Int.tdiv_eq_ediv_of_nonneg (by omega)]; rfl
  rw [e2]
  exact Int.bmod_eq_of_le (by omega) (by omega)
theorem ng_mod {m : Nat} (h : m ≤ 10000) : -(nI (m / 100)) * 100 - -(nI m) = nI (m % 100) := by
  have e1 : nI m = nI (m / 100) * 100 + nI (m % 100) := by
    show Int32.ofNat m = Int32.ofNat (m / 100) * Int32.ofNat 100 + Int32.ofNat (m % 100)
    rw [← Int32.ofNat_mul, ← Int32.ofNat_add]
    congr 1
    omega
  rw [e1, Int32.sub_eq_add_neg, Int32.neg_neg, Int32.neg_mul, ← Int32.add_assoc, Int32.add_left_neg, Int32.zero_add]
theorem ni_m1 {m : Nat} (h : 1 ≤ m) : nI m + -1 = nI (m - 1) := by
  have e : nI m = nI (m - 1) + 1 := by rw [ni_s]; congr 1; omega
  rw [e, Int32.add_assoc, show (1 : Int32) + -1 = 0 from rfl, Int32.add_zero]
theorem ni_m2 {m : Nat} (h : 2 ≤ m) : nI m + -1 + -1 = nI (m - 2) := by rw [ni_m1 (by omega), ni_m1 (by omega)]; rfl
theorem ni_m3 {m : Nat} (h : 3 ≤ m) : nI m + -1 + -1 + -1 = nI (m - 3) := by rw [ni_m2 (by omega), ni_m1 (by omega)]; rfl
theorem ni_m4 {m : Nat} (h : 4 ≤ m) : nI m + -1 + -1 + -1 + -1 = nI (m - 4) := by rw [ni_m3 (by omega), ni_m1 (by omega)]; rfl
theorem pu_n9 {v : Va} {k k1 j : Nat} {x : Int32} (h : k1 ≠ k) : pu v k j x k1 = v k1 := up_ne h
/-- a number's digits -/
def lenD (m : Nat) : Nat := if m < 10 then 1 else if m < 100 then 2 else if m < 1000 then 3 else 4
def decL (m : Nat) : List Int32 := if m < 10 then [nI (48 + m)] else if m < 100 then [nI (48 + m / 10), nI (48 + m % 10)] else if m < 1000 then [nI (48 + m / 100), nI (48 + m % 100 / 10), nI (48 + m % 100 % 10)] else [nI (48 + m / 100 / 10), nI (48 + m / 100 % 10), nI (48 + m % 100 / 10), nI (48 + m % 100 % 10)]
theorem decL_len {m : Nat} : (decL m).length = lenD m := by unfold decL lenD; split; rfl; split; rfl; split <;> rfl
theorem lenD_le {m : Nat} : 1 ≤ lenD m ∧ lenD m ≤ 4 := by unfold lenD; split; omega; split; omega; split <;> omega
theorem c_stringSize1 {z0 : Nat} (h1 : 0 ≤ z0) (h2 : z0 ≤ 9) : MetI l yJ6_stringSize_0f7a4 cJ6_stringSize_0f7a4 4 (some .int) 1 Γ sh v w n [.int (nI z0)] (fun x u => x = nI 1 ∧ u = v) := by
  refine w_start pn_J6 (Nat.le_of_ble_eq_true rfl) fun p e s m args below meth c hx hb hml hret hlk hnm hts hown hK hP hz hE hS ls hl => ?_
  have hd : DM sh n := hP.dm hz
  have hG : GR sh n sh n := GR.rf
  refine lv_iconst (v := 1) hx hb dJ6_stringSize_0f7a4_0 rfl ?_
  refine lv_istore_n (lv' := [(1, .int 1), (0, .int (nI z0))]) hx hb dJ6_stringSize_0f7a4_1 rfl hl (by decide) rfl fun ls hl => ?_
  refine lv_iload_n hx hb dJ6_stringSize_0f7a4_2 rfl (lv_at hl 1 rfl) ?_
  refine lv_if_lt (tgt := 11) hx hb dJ6_stringSize_0f7a4_3 rfl (fun hc3 => False.elim (nI_pos (by omega) hc3)) (fun hc3 => ?_)
  refine lv_iconst (v := 0) hx hb dJ6_stringSize_0f7a4_6 rfl ?_
  refine lv_istore_n (lv' := [(1, .int 0), (0, .int (nI z0))]) hx hb dJ6_stringSize_0f7a4_7 rfl hl (by decide) rfl fun ls hl => ?_
  refine lv_iload_n hx hb dJ6_stringSize_0f7a4_8 rfl (lv_at hl 1 rfl) ?_
  refine lv_ineg hx hb dJ6_stringSize_0f7a4_9 ?_
  refine lv_istore_n (lv' := [(0, .int (-(nI z0))), (1, .int 0)]) hx hb dJ6_stringSize_0f7a4_10 rfl hl (by decide) rfl fun ls hl => ?_
  refine lv_bipush (v := (-10)) hx hb dJ6_stringSize_0f7a4_11 rfl ?_
  refine lv_istore_n (lv' := [(2, .int (-10)), (0, .int (-(nI z0))), (1, .int 0)]) hx hb dJ6_stringSize_0f7a4_13 rfl hl (by decide) rfl fun ls hl => ?_
  refine lv_iconst (v := 1) hx hb dJ6_stringSize_0f7a4_14 rfl ?_
  refine lv_istore_n (lv' := [(3, .int 1), (2, .int (-10)), (0, .int (-(nI z0))), (1, .int 0)]) hx hb dJ6_stringSize_0f7a4_15 rfl hl (by decide) rfl fun ls hl => ?_
  refine lv_iload_n hx hb dJ6_stringSize_0f7a4_16 rfl (lv_at hl 0 rfl) ?_
  refine lv_bipush (v := 10) hx hb dJ6_stringSize_0f7a4_17 rfl ?_
  refine lv_icmp_ge (tgt := 42) hx hb dJ6_stringSize_0f7a4_19 rfl (fun hc19 => False.elim (by revert hc19; decide)) (fun hc19 => ?_)
  refine lv_iload_n hx hb dJ6_stringSize_0f7a4_22 rfl (lv_at hl 2 rfl) ?_
  refine lv_iload_n hx hb dJ6_stringSize_0f7a4_23 rfl (lv_at hl 1 rfl) ?_
  refine lv_icmp_le (tgt := 31) hx hb dJ6_stringSize_0f7a4_24 rfl (fun hc24 => False.elim (by have := (ng_le (by omega)).mp hc24; rw [show Int32.toInt ((-10)) = -10 from by decide] at this; omega)) (fun hc24 => ?_)
  refine lv_iload_n hx hb dJ6_stringSize_0f7a4_27 rfl (lv_at hl 0 rfl) ?_
  refine lv_iload_n hx hb dJ6_stringSize_0f7a4_28 rfl (lv_at hl 3 rfl) ?_
  refine lv_iadd hx hb dJ6_stringSize_0f7a4_29 ?_
  exact w_iret hx hb hret rfl hlk hK hP hS hz hE ⟨by decide, rfl⟩ dJ6_stringSize_0f7a4_30
theorem c_stringSize2 {z0 : Nat} (h1 : 10 ≤ z0) (h2 : z0 ≤ 99) : MetI l yJ6_stringSize_0f7a4 cJ6_stringSize_0f7a4 4 (some .int) 1 Γ sh v w n [.int (nI z0)] (fun x u => x = nI 2 ∧ u = v) := by
  refine w_start pn_J6 (Nat.le_of_ble_eq_true rfl) fun p e s m args below meth c hx hb hml hret hlk hnm hts hown hK hP hz hE hS ls hl => ?_
  have hd : DM sh n := hP.dm hz
  have hG : GR sh n sh n := GR.rf
  refine lv_iconst (v := 1) hx hb dJ6_stringSize_0f7a4_0 rfl ?_
  refine lv_istore_n (lv' := [(1, .int 1), (0, .int (nI z0))]) hx hb dJ6_stringSize_0f7a4_1 rfl hl (by decide) rfl fun ls hl => ?_
  refine lv_iload_n hx hb dJ6_stringSize_0f7a4_2 rfl (lv_at hl 1 rfl) ?_
  refine lv_if_lt (tgt := 11) hx hb dJ6_stringSize_0f7a4_3 rfl (fun hc3 => False.elim (nI_pos (by omega) hc3)) (fun hc3 => ?_)
  refine lv_iconst (v := 0) hx hb dJ6_stringSize_0f7a4_6 rfl ?_
  refine lv_istore_n (lv' := [(1, .int 0), (0, .int (nI z0))]) hx hb dJ6_stringSize_0f7a4_7 rfl hl (by decide) rfl fun ls hl => ?_
  refine lv_iload_n hx hb dJ6_stringSize_0f7a4_8 rfl (lv_at hl 1 rfl) ?_
  refine lv_ineg hx hb dJ6_stringSize_0f7a4_9 ?_
  refine lv_istore_n (lv' := [(0, .int (-(nI z0))), (1, .int 0)]) hx hb dJ6_stringSize_0f7a4_10 rfl hl (by decide) rfl fun ls hl => ?_
  refine lv_bipush (v := (-10)) hx hb dJ6_stringSize_0f7a4_11 rfl ?_
  refine lv_istore_n (lv' := [(2, .int (-10)), (0, .int (-(nI z0))), (1, .int 0)]) hx hb dJ6_stringSize_0f7a4_13 rfl hl (by decide) rfl fun ls hl => ?_
  refine lv_iconst (v := 1) hx hb dJ6_stringSize_0f7a4_14 rfl ?_
  refine lv_istore_n (lv' := [(3, .int 1), (2, .int (-10)), (0, .int (-(nI z0))), (1, .int 0)]) hx hb dJ6_stringSize_0f7a4_15 rfl hl (by decide) rfl fun ls hl => ?_
  refine lv_iload_n hx hb dJ6_stringSize_0f7a4_16 rfl (lv_at hl 0 rfl) ?_
  refine lv_bipush (v := 10) hx hb dJ6_stringSize_0f7a4_17 rfl ?_
  refine lv_icmp_ge (tgt := 42) hx hb dJ6_stringSize_0f7a4_19 rfl (fun hc19 => False.elim (by revert hc19; decide)) (fun hc19 => ?_)
  refine lv_iload_n hx hb dJ6_stringSize_0f7a4_22 rfl (lv_at hl 2 rfl) ?_
  refine lv_iload_n hx hb dJ6_stringSize_0f7a4_23 rfl (lv_at hl 1 rfl) ?_
  refine lv_icmp_le (tgt := 31) hx hb dJ6_stringSize_0f7a4_24 rfl (fun hc24 => ?_) (fun hc24 => False.elim (hc24 ((ng_le (by omega)).mpr (by show -(z0 : Int) ≤ Int32.toInt ((-10)); rw [show Int32.toInt ((-10)) = -10 from by decide]; omega))))
  refine lv_bipush (v := 10) hx hb dJ6_stringSize_0f7a4_31 rfl ?_
  refine lv_iload_n hx hb dJ6_stringSize_0f7a4_33 rfl (lv_at hl 1 rfl) ?_
  refine lv_imul hx hb dJ6_stringSize_0f7a4_34 ?_
  refine lv_istore_n (lv' := [(2, .int ((10 : Int32) * ((-10) : Int32))), (3, .int 1), (0, .int (-(nI z0))), (1, .int 0)]) hx hb dJ6_stringSize_0f7a4_35 rfl hl (by decide) rfl fun ls hl => ?_
  refine lv_iinc (k := 1) (v := (1 + 1)) (lv' := [(3, .int (1 + 1)), (2, .int ((10 : Int32) * ((-10) : Int32))), (0, .int (-(nI z0))), (1, .int 0)]) hx hb dJ6_stringSize_0f7a4_36 hl rfl rfl (by decide) rfl fun ls hl => ?_
  refine lv_goto (tgt := 16) hx hb dJ6_stringSize_0f7a4_39 rfl ?_
  refine lv_iload_n hx hb dJ6_stringSize_0f7a4_16 rfl (lv_at hl 0 rfl) ?_
  refine lv_bipush (v := 10) hx hb dJ6_stringSize_0f7a4_17 rfl ?_
  refine lv_icmp_ge (tgt := 42) hx hb dJ6_stringSize_0f7a4_19 rfl (fun hc19 => False.elim (by revert hc19; decide)) (fun hc19 => ?_)
  refine lv_iload_n hx hb dJ6_stringSize_0f7a4_22 rfl (lv_at hl 2 rfl) ?_
  refine lv_iload_n hx hb dJ6_stringSize_0f7a4_23 rfl (lv_at hl 1 rfl) ?_
  refine lv_icmp_le (tgt := 31) hx hb dJ6_stringSize_0f7a4_24 rfl (fun hc24 => False.elim (by have := (ng_le (by omega)).mp hc24; rw [show Int32.toInt (((10 : Int32) * ((-10) : Int32))) = -100 from by decide] at this; omega)) (fun hc24 => ?_)
  refine lv_iload_n hx hb dJ6_stringSize_0f7a4_27 rfl (lv_at hl 0 rfl) ?_
  refine lv_iload_n hx hb dJ6_stringSize_0f7a4_28 rfl (lv_at hl 3 rfl) ?_
  refine lv_iadd hx hb dJ6_stringSize_0f7a4_29 ?_
  exact w_iret hx hb hret rfl hlk hK hP hS hz hE ⟨by decide, rfl⟩ dJ6_stringSize_0f7a4_30
theorem c_stringSize3 {z0 : Nat} (h1 : 100 ≤ z0) (h2 : z0 ≤ 999) : MetI l yJ6_stringSize_0f7a4 cJ6_stringSize_0f7a4 4 (some .int) 1 Γ sh v w n [.int (nI z0)] (fun x u => x = nI 3 ∧ u = v) := by
  refine w_start pn_J6 (Nat.le_of_ble_eq_true rfl) fun p e s m args below meth c hx hb hml hret hlk hnm hts hown hK hP hz hE hS ls hl => ?_
  have hd : DM sh n := hP.dm hz
  have hG : GR sh n sh n := GR.rf
  refine lv_iconst (v := 1) hx hb dJ6_stringSize_0f7a4_0 rfl ?_
  refine lv_istore_n (lv' := [(1, .int 1), (0, .int (nI z0))]) hx hb dJ6_stringSize_0f7a4_1 rfl hl (by decide) rfl fun ls hl => ?_
  refine lv_iload_n hx hb dJ6_stringSize_0f7a4_2 rfl (lv_at hl 1 rfl) ?_
  refine lv_if_lt (tgt := 11) hx hb dJ6_stringSize_0f7a4_3 rfl (fun hc3 => False.elim (nI_pos (by omega) hc3)) (fun hc3 => ?_)
  refine lv_iconst (v := 0) hx hb dJ6_stringSize_0f7a4_6 rfl ?_
  refine lv_istore_n (lv' := [(1, .int 0), (0, .int (nI z0))]) hx hb dJ6_stringSize_0f7a4_7 rfl hl (by decide) rfl fun ls hl => ?_
  refine lv_iload_n hx hb dJ6_stringSize_0f7a4_8 rfl (lv_at hl 1 rfl) ?_
  refine lv_ineg hx hb dJ6_stringSize_0f7a4_9 ?_
  refine lv_istore_n (lv' := [(0, .int (-(nI z0))), (1, .int 0)]) hx hb dJ6_stringSize_0f7a4_10 rfl hl (by decide) rfl fun ls hl => ?_
  refine lv_bipush (v := (-10)) hx hb dJ6_stringSize_0f7a4_11 rfl ?_
  refine lv_istore_n (lv' := [(2, .int (-10)), (0, .int (-(nI z0))), (1, .int 0)]) hx hb dJ6_stringSize_0f7a4_13 rfl hl (by decide) rfl fun ls hl => ?_
  refine lv_iconst (v := 1) hx hb dJ6_stringSize_0f7a4_14 rfl ?_
  refine lv_istore_n (lv' := [(3, .int 1), (2, .int (-10)), (0, .int (-(nI z0))), (1, .int 0)]) hx hb dJ6_stringSize_0f7a4_15 rfl hl (by decide) rfl fun ls hl => ?_
  refine lv_iload_n hx hb dJ6_stringSize_0f7a4_16 rfl (lv_at hl 0 rfl) ?_
  refine lv_bipush (v := 10) hx hb dJ6_stringSize_0f7a4_17 rfl ?_
  refine lv_icmp_ge (tgt := 42) hx hb dJ6_stringSize_0f7a4_19 rfl (fun hc19 => False.elim (by revert hc19; decide)) (fun hc19 => ?_)
  refine lv_iload_n hx hb dJ6_stringSize_0f7a4_22 rfl (lv_at hl 2 rfl) ?_
  refine lv_iload_n hx hb dJ6_stringSize_0f7a4_23 rfl (lv_at hl 1 rfl) ?_
  refine lv_icmp_le (tgt := 31) hx hb dJ6_stringSize_0f7a4_24 rfl (fun hc24 => ?_) (fun hc24 => False.elim (hc24 ((ng_le (by omega)).mpr (by show -(z0 : Int) ≤ Int32.toInt ((-10)); rw [show Int32.toInt ((-10)) = -10 from by decide]; omega))))
  refine lv_bipush (v := 10) hx hb dJ6_stringSize_0f7a4_31 rfl ?_
  refine lv_iload_n hx hb dJ6_stringSize_0f7a4_33 rfl (lv_at hl 1 rfl) ?_
  refine lv_imul hx hb dJ6_stringSize_0f7a4_34 ?_
  refine lv_istore_n (lv' := [(2, .int ((10 : Int32) * ((-10) : Int32))), (3, .int 1), (0, .int (-(nI z0))), (1, .int 0)]) hx hb dJ6_stringSize_0f7a4_35 rfl hl (by decide) rfl fun ls hl => ?_
  refine lv_iinc (k := 1) (v := (1 + 1)) (lv' := [(3, .int (1 + 1)), (2, .int ((10 : Int32) * ((-10) : Int32))), (0, .int (-(nI z0))), (1, .int 0)]) hx hb dJ6_stringSize_0f7a4_36 hl rfl rfl (by decide) rfl fun ls hl => ?_
  refine lv_goto (tgt := 16) hx hb dJ6_stringSize_0f7a4_39 rfl ?_
  refine lv_iload_n hx hb dJ6_stringSize_0f7a4_16 rfl (lv_at hl 0 rfl) ?_
  refine lv_bipush (v := 10) hx hb dJ6_stringSize_0f7a4_17 rfl ?_
  refine lv_icmp_ge (tgt := 42) hx hb dJ6_stringSize_0f7a4_19 rfl (fun hc19 => False.elim (by revert hc19; decide)) (fun hc19 => ?_)
  refine lv_iload_n hx hb dJ6_stringSize_0f7a4_22 rfl (lv_at hl 2 rfl) ?_
  refine lv_iload_n hx hb dJ6_stringSize_0f7a4_23 rfl (lv_at hl 1 rfl) ?_
  refine lv_icmp_le (tgt := 31) hx hb dJ6_stringSize_0f7a4_24 rfl (fun hc24 => ?_) (fun hc24 => False.elim (hc24 ((ng_le (by omega)).mpr (by show -(z0 : Int) ≤ Int32.toInt (((10 : Int32) * ((-10) : Int32))); rw [show Int32.toInt (((10 : Int32) * ((-10) : Int32))) = -100 from by decide]; omega))))
  refine lv_bipush (v := 10) hx hb dJ6_stringSize_0f7a4_31 rfl ?_
  refine lv_iload_n hx hb dJ6_stringSize_0f7a4_33 rfl (lv_at hl 1 rfl) ?_
  refine lv_imul hx hb dJ6_stringSize_0f7a4_34 ?_
  refine lv_istore_n (lv' := [(2, .int ((10 : Int32) * ((10 : Int32) * ((-10) : Int32)))), (3, .int (1 + 1)), (0, .int (-(nI z0))), (1, .int 0)]) hx hb dJ6_stringSize_0f7a4_35 rfl hl (by decide) rfl fun ls hl => ?_
  refine lv_iinc (k := 1) (v := ((1 + 1) + 1)) (lv' := [(3, .int ((1 + 1) + 1)), (2, .int ((10 : Int32) * ((10 : Int32) * ((-10) : Int32)))), (0, .int (-(nI z0))), (1, .int 0)]) hx hb dJ6_stringSize_0f7a4_36 hl rfl rfl (by decide) rfl fun ls hl => ?_
  refine lv_goto (tgt := 16) hx hb dJ6_stringSize_0f7a4_39 rfl ?_
  refine lv_iload_n hx hb dJ6_stringSize_0f7a4_16 rfl (lv_at hl 0 rfl) ?_
  refine lv_bipush (v := 10) hx hb dJ6_stringSize_0f7a4_17 rfl ?_
  refine lv_icmp_ge (tgt := 42) hx hb dJ6_stringSize_0f7a4_19 rfl (fun hc19 => False.elim (by revert hc19; decide)) (fun hc19 => ?_)
  refine lv_iload_n hx hb dJ6_stringSize_0f7a4_22 rfl (lv_at hl 2 rfl) ?_
  refine lv_iload_n hx hb dJ6_stringSize_0f7a4_23 rfl (lv_at hl 1 rfl) ?_
  refine lv_icmp_le (tgt := 31) hx hb dJ6_stringSize_0f7a4_24 rfl (fun hc24 => False.elim (by have := (ng_le (by omega)).mp hc24; rw [show Int32.toInt (((10 : Int32) * ((10 : Int32) * ((-10) : Int32)))) = -1000 from by decide] at this; omega)) (fun hc24 => ?_)
  refine lv_iload_n hx hb dJ6_stringSize_0f7a4_27 rfl (lv_at hl 0 rfl) ?_
  refine lv_iload_n hx hb dJ6_stringSize_0f7a4_28 rfl (lv_at hl 3 rfl) ?_
  refine lv_iadd hx hb dJ6_stringSize_0f7a4_29 ?_
  exact w_iret hx hb hret rfl hlk hK hP hS hz hE ⟨by decide, rfl⟩ dJ6_stringSize_0f7a4_30
theorem c_stringSize4 {z0 : Nat} (h1 : 1000 ≤ z0) (h2 : z0 ≤ 9999) : MetI l yJ6_stringSize_0f7a4 cJ6_stringSize_0f7a4 4 (some .int) 1 Γ sh v w n [.int (nI z0)] (fun x u => x = nI 4 ∧ u = v) := by
  refine w_start pn_J6 (Nat.le_of_ble_eq_true rfl) fun p e s m args below meth c hx hb hml hret hlk hnm hts hown hK hP hz hE hS ls hl => ?_
  have hd : DM sh n := hP.dm hz
  have hG : GR sh n sh n := GR.rf
  refine lv_iconst (v := 1) hx hb dJ6_stringSize_0f7a4_0 rfl ?_
  refine lv_istore_n (lv' := [(1, .int 1), (0, .int (nI z0))]) hx hb dJ6_stringSize_0f7a4_1 rfl hl (by decide) rfl fun ls hl => ?_
  refine lv_iload_n hx hb dJ6_stringSize_0f7a4_2 rfl (lv_at hl 1 rfl) ?_
  refine lv_if_lt (tgt := 11) hx hb dJ6_stringSize_0f7a4_3 rfl (fun hc3 => False.elim (nI_pos (by omega) hc3)) (fun hc3 => ?_)
  refine lv_iconst (v := 0) hx hb dJ6_stringSize_0f7a4_6 rfl ?_
  refine lv_istore_n (lv' := [(1, .int 0), (0, .int (nI z0))]) hx hb dJ6_stringSize_0f7a4_7 rfl hl (by decide) rfl fun ls hl => ?_
  refine lv_iload_n hx hb dJ6_stringSize_0f7a4_8 rfl (lv_at hl 1 rfl) ?_
  refine lv_ineg hx hb dJ6_stringSize_0f7a4_9 ?_
  refine lv_istore_n (lv' := [(0, .int (-(nI z0))), (1, .int 0)]) hx hb dJ6_stringSize_0f7a4_10 rfl hl (by decide) rfl fun ls hl => ?_
  refine lv_bipush (v := (-10)) hx hb dJ6_stringSize_0f7a4_11 rfl ?_
  refine lv_istore_n (lv' := [(2, .int (-10)), (0, .int (-(nI z0))), (1, .int 0)]) hx hb dJ6_stringSize_0f7a4_13 rfl hl (by decide) rfl fun ls hl => ?_
  refine lv_iconst (v := 1) hx hb dJ6_stringSize_0f7a4_14 rfl ?_
  refine lv_istore_n (lv' := [(3, .int 1), (2, .int (-10)), (0, .int (-(nI z0))), (1, .int 0)]) hx hb dJ6_stringSize_0f7a4_15 rfl hl (by decide) rfl fun ls hl => ?_
  refine lv_iload_n hx hb dJ6_stringSize_0f7a4_16 rfl (lv_at hl 0 rfl) ?_
  refine lv_bipush (v := 10) hx hb dJ6_stringSize_0f7a4_17 rfl ?_
  refine lv_icmp_ge (tgt := 42) hx hb dJ6_stringSize_0f7a4_19 rfl (fun hc19 => False.elim (by revert hc19; decide)) (fun hc19 => ?_)
  refine lv_iload_n hx hb dJ6_stringSize_0f7a4_22 rfl (lv_at hl 2 rfl) ?_
  refine lv_iload_n hx hb dJ6_stringSize_0f7a4_23 rfl (lv_at hl 1 rfl) ?_
  refine lv_icmp_le (tgt := 31) hx hb dJ6_stringSize_0f7a4_24 rfl (fun hc24 => ?_) (fun hc24 => False.elim (hc24 ((ng_le (by omega)).mpr (by show -(z0 : Int) ≤ Int32.toInt ((-10)); rw [show Int32.toInt ((-10)) = -10 from by decide]; omega))))
  refine lv_bipush (v := 10) hx hb dJ6_stringSize_0f7a4_31 rfl ?_
  refine lv_iload_n hx hb dJ6_stringSize_0f7a4_33 rfl (lv_at hl 1 rfl) ?_
  refine lv_imul hx hb dJ6_stringSize_0f7a4_34 ?_
  refine lv_istore_n (lv' := [(2, .int ((10 : Int32) * ((-10) : Int32))), (3, .int 1), (0, .int (-(nI z0))), (1, .int 0)]) hx hb dJ6_stringSize_0f7a4_35 rfl hl (by decide) rfl fun ls hl => ?_
  refine lv_iinc (k := 1) (v := (1 + 1)) (lv' := [(3, .int (1 + 1)), (2, .int ((10 : Int32) * ((-10) : Int32))), (0, .int (-(nI z0))), (1, .int 0)]) hx hb dJ6_stringSize_0f7a4_36 hl rfl rfl (by decide) rfl fun ls hl => ?_
  refine lv_goto (tgt := 16) hx hb dJ6_stringSize_0f7a4_39 rfl ?_
  refine lv_iload_n hx hb dJ6_stringSize_0f7a4_16 rfl (lv_at hl 0 rfl) ?_
  refine lv_bipush (v := 10) hx hb dJ6_stringSize_0f7a4_17 rfl ?_
  refine lv_icmp_ge (tgt := 42) hx hb dJ6_stringSize_0f7a4_19 rfl (fun hc19 => False.elim (by revert hc19; decide)) (fun hc19 => ?_)
  refine lv_iload_n hx hb dJ6_stringSize_0f7a4_22 rfl (lv_at hl 2 rfl) ?_
  refine lv_iload_n hx hb dJ6_stringSize_0f7a4_23 rfl (lv_at hl 1 rfl) ?_
  refine lv_icmp_le (tgt := 31) hx hb dJ6_stringSize_0f7a4_24 rfl (fun hc24 => ?_) (fun hc24 => False.elim (hc24 ((ng_le (by omega)).mpr (by show -(z0 : Int) ≤ Int32.toInt (((10 : Int32) * ((-10) : Int32))); rw [show Int32.toInt (((10 : Int32) * ((-10) : Int32))) = -100 from by decide]; omega))))
  refine lv_bipush (v := 10) hx hb dJ6_stringSize_0f7a4_31 rfl ?_
  refine lv_iload_n hx hb dJ6_stringSize_0f7a4_33 rfl (lv_at hl 1 rfl) ?_
  refine lv_imul hx hb dJ6_stringSize_0f7a4_34 ?_
  refine lv_istore_n (lv' := [(2, .int ((10 : Int32) * ((10 : Int32) * ((-10) : Int32)))), (3, .int (1 + 1)), (0, .int (-(nI z0))), (1, .int 0)]) hx hb dJ6_stringSize_0f7a4_35 rfl hl (by decide) rfl fun ls hl => ?_
  refine lv_iinc (k := 1) (v := ((1 + 1) + 1)) (lv' := [(3, .int ((1 + 1) + 1)), (2, .int ((10 : Int32) * ((10 : Int32) * ((-10) : Int32)))), (0, .int (-(nI z0))), (1, .int 0)]) hx hb dJ6_stringSize_0f7a4_36 hl rfl rfl (by decide) rfl fun ls hl => ?_
  refine lv_goto (tgt := 16) hx hb dJ6_stringSize_0f7a4_39 rfl ?_
  refine lv_iload_n hx hb dJ6_stringSize_0f7a4_16 rfl (lv_at hl 0 rfl) ?_
  refine lv_bipush (v := 10) hx hb dJ6_stringSize_0f7a4_17 rfl ?_
  refine lv_icmp_ge (tgt := 42) hx hb dJ6_stringSize_0f7a4_19 rfl (fun hc19 => False.elim (by revert hc19; decide)) (fun hc19 => ?_)
  refine lv_iload_n hx hb dJ6_stringSize_0f7a4_22 rfl (lv_at hl 2 rfl) ?_
  refine lv_iload_n hx hb dJ6_stringSize_0f7a4_23 rfl (lv_at hl 1 rfl) ?_
  refine lv_icmp_le (tgt := 31) hx hb dJ6_stringSize_0f7a4_24 rfl (fun hc24 => ?_) (fun hc24 => False.elim (hc24 ((ng_le (by omega)).mpr (by show -(z0 : Int) ≤ Int32.toInt (((10 : Int32) * ((10 : Int32) * ((-10) : Int32)))); rw [show Int32.toInt (((10 : Int32) * ((10 : Int32) * ((-10) : Int32)))) = -1000 from by decide]; omega))))
  refine lv_bipush (v := 10) hx hb dJ6_stringSize_0f7a4_31 rfl ?_
  refine lv_iload_n hx hb dJ6_stringSize_0f7a4_33 rfl (lv_at hl 1 rfl) ?_
  refine lv_imul hx hb dJ6_stringSize_0f7a4_34 ?_
  refine lv_istore_n (lv' := [(2, .int ((10 : Int32) * ((10 : Int32) * ((10 : Int32) * ((-10) : Int32))))), (3, .int ((1 + 1) + 1)), (0, .int (-(nI z0))), (1, .int 0)]) hx hb dJ6_stringSize_0f7a4_35 rfl hl (by decide) rfl fun ls hl => ?_
  refine lv_iinc (k := 1) (v := (((1 + 1) + 1) + 1)) (lv' := [(3, .int (((1 + 1) + 1) + 1)), (2, .int ((10 : Int32) * ((10 : Int32) * ((10 : Int32) * ((-10) : Int32))))), (0, .int (-(nI z0))), (1, .int 0)]) hx hb dJ6_stringSize_0f7a4_36 hl rfl rfl (by decide) rfl fun ls hl => ?_
  refine lv_goto (tgt := 16) hx hb dJ6_stringSize_0f7a4_39 rfl ?_
  refine lv_iload_n hx hb dJ6_stringSize_0f7a4_16 rfl (lv_at hl 0 rfl) ?_
  refine lv_bipush (v := 10) hx hb dJ6_stringSize_0f7a4_17 rfl ?_
  refine lv_icmp_ge (tgt := 42) hx hb dJ6_stringSize_0f7a4_19 rfl (fun hc19 => False.elim (by revert hc19; decide)) (fun hc19 => ?_)
  refine lv_iload_n hx hb dJ6_stringSize_0f7a4_22 rfl (lv_at hl 2 rfl) ?_
  refine lv_iload_n hx hb dJ6_stringSize_0f7a4_23 rfl (lv_at hl 1 rfl) ?_
  refine lv_icmp_le (tgt := 31) hx hb dJ6_stringSize_0f7a4_24 rfl (fun hc24 => False.elim (by have := (ng_le (by omega)).mp hc24; rw [show Int32.toInt (((10 : Int32) * ((10 : Int32) * ((10 : Int32) * ((-10) : Int32))))) = -10000 from by decide] at this; omega)) (fun hc24 => ?_)
  refine lv_iload_n hx hb dJ6_stringSize_0f7a4_27 rfl (lv_at hl 0 rfl) ?_
  refine lv_iload_n hx hb dJ6_stringSize_0f7a4_28 rfl (lv_at hl 3 rfl) ?_
  refine lv_iadd hx hb dJ6_stringSize_0f7a4_29 ?_
  exact w_iret hx hb hret rfl hlk hK hP hS hz hE ⟨by decide, rfl⟩ dJ6_stringSize_0f7a4_30
theorem c_stringSize {m : Nat} (h2 : m ≤ 9999) : MetI l yJ6_stringSize_0f7a4 cJ6_stringSize_0f7a4 4 (some .int) 1 Γ sh v w n [.int (nI m)] (fun x u => x = nI (lenD m) ∧ u = v) := by
  unfold lenD
  by_cases a1 : m < 10
  · rw [if_pos a1]; exact c_stringSize1 (by omega) (by omega)
  rw [if_neg a1]
  by_cases a2 : m < 100
  · rw [if_pos a2]; exact c_stringSize2 (by omega) (by omega)
  rw [if_neg a2]
  by_cases a3 : m < 1000
  · rw [if_pos a3]; exact c_stringSize3 (by omega) (by omega)
  rw [if_neg a3]
  exact c_stringSize4 (by omega) (by omega)
theorem vin {i N : Nat} (h : i < N) (hN : N ≤ 1000000) : vp_in (nI i) N := fun q => q.elim (nI_pos (by omega)) (fun q => by rw [nI_clamp (by omega)] at q; omega)
/-- digits are written before the place q + their length -/
def GCP (v : Va) (pv q : Nat) (B : List Int32) (u : Va) : Prop := ∃ f, u = up v pv f ∧ (∀ i, i < q ∨ q + B.length ≤ i → f i = v pv i) ∧ ∀ j, j < B.length → f (q + j) = B.getD j 0
theorem b48 {x : Nat} (h : x ≤ 9) : 0 ≤ (nI (48 + x)).toInt ∧ (nI (48 + x)).toInt < 128 := by
  rw [show (nI (48 + x)).toInt = ((48 + x : Nat) : Int) from Int32.toInt_ofNat_of_lt (by omega)]
  omega
theorem c_getChars1 {z0 q pv cp d1 d2 : Nat} (h1 : 0 ≤ z0) (h2 : z0 ≤ 9) (hC : EC Γ sh d1 d2) (hb0 : sh pv = some (sB 1 cp)) (hq : q + 1 ≤ cp) (hcp : cp ≤ 6000) : MetI l yJ6_getChars_ba4f3 cJ6_getChars_ba4f3 7 (some .int) 3 Γ sh v w n [.int (nI z0), .int (nI (q + 1)), .ref (Γ.2.1 + pv)] (fun x u => GCP v pv q (decL z0) u) := by
  refine w_start pn_J6 (Nat.le_of_ble_eq_true rfl) fun p e s m args below meth c hx hb hml hret hlk hnm hts hown hK hP hz hE hS ls hl => ?_
  have hd : DM sh n := hP.dm hz
  have hG : GR sh n sh n := GR.rf
  obtain ⟨hcs, hd1, hd2, hcl, hs1, hs2⟩ := id hC
  refine lv_iload_n hx hb dJ6_getChars_ba4f3_0 rfl (lv_at hl 1 rfl) ?_
  refine lv_istore (lv' := [(5, .int (nI (q + 1))), (0, .int (nI z0)), (1, .int (nI (q + 1))), (2, .ref (Γ.2.1 + pv))]) hx hb dJ6_getChars_ba4f3_1 hl (by decide) rfl fun ls hl => ?_
  refine lv_iload_n hx hb dJ6_getChars_ba4f3_3 rfl (lv_at hl 1 rfl) ?_
  refine lv_if_ge (tgt := 11) hx hb dJ6_getChars_ba4f3_4 rfl (fun hc4 => ?_) (fun hc4 => False.elim (hc4 (Int32.not_lt.mp (nI_pos (by omega)))))
  refine lv_iconst (v := 0) hx hb dJ6_getChars_ba4f3_11 rfl ?_
  refine lv_istore (lv' := [(6, .int 0), (5, .int (nI (q + 1))), (0, .int (nI z0)), (1, .int (nI (q + 1))), (2, .ref (Γ.2.1 + pv))]) hx hb dJ6_getChars_ba4f3_12 hl (by decide) rfl fun ls hl => ?_
  refine lv_iload hx hb dJ6_getChars_ba4f3_14 (lv_at hl 0 rfl) ?_
  refine lv_if_ne (tgt := 22) hx hb dJ6_getChars_ba4f3_16 rfl (fun hc16 => False.elim (hc16 rfl)) (fun hc16 => ?_)
  refine lv_iload_n hx hb dJ6_getChars_ba4f3_19 rfl (lv_at hl 2 rfl) ?_
  refine lv_ineg hx hb dJ6_getChars_ba4f3_20 ?_
  refine lv_istore_n (lv' := [(0, .int (-(nI z0))), (6, .int 0), (5, .int (nI (q + 1))), (1, .int (nI (q + 1))), (2, .ref (Γ.2.1 + pv))]) hx hb dJ6_getChars_ba4f3_21 rfl hl (by decide) rfl fun ls hl => ?_
  refine lv_iload_n hx hb dJ6_getChars_ba4f3_22 rfl (lv_at hl 0 rfl) ?_
  refine lv_bipush (v := (-100)) hx hb dJ6_getChars_ba4f3_23 rfl ?_
  refine lv_icmp_gt (tgt := 72) hx hb dJ6_getChars_ba4f3_25 rfl (fun hc25b => ?_) (fun hc25b => False.elim (hc25b ((ng_lt (by omega)).mpr (by rw [show Int32.toInt (-100) = -100 from by decide]; omega))))
  refine lv_aload_n hx hb dJ6_getChars_ba4f3_72 rfl (lv_at hl 4 rfl) ?_
  refine lv_iinc (k := 2) (v := ((nI (q + 1)) + (-1))) (lv' := [(5, .int ((nI (q + 1)) + (-1))), (0, .int (-(nI z0))), (6, .int 0), (1, .int (nI (q + 1))), (2, .ref (Γ.2.1 + pv))]) hx hb dJ6_getChars_ba4f3_73 hl rfl rfl (by decide) rfl fun ls hl => ?_
  refine lv_iload hx hb dJ6_getChars_ba4f3_76 (lv_at hl 0 rfl) ?_
  refine t_top (x' := nI (q + 0)) (ni_m1 (by omega)) ?_
  refine va_gets hx hb (hE.Z hd1) hS hown (hts _ jJ6_83) (fun _ q => q) dJ6_getChars_ba4f3_78 ?_
  refine lv_iload_n hx hb dJ6_getChars_ba4f3_81 rfl (lv_at hl 1 rfl) ?_
  refine lv_ineg hx hb dJ6_getChars_ba4f3_82 ?_
  refine t_top (x' := nI (z0)) ng_ng ?_
  refine va_tb hx hb (hE.T hs1.1) hS (vin (N := 100) (by omega) (by omega)) (v := .int (digO.getD (nI (z0)).toNatClampNeg 0)) rfl dJ6_getChars_ba4f3_83 ?_
  refine t_top (x' := nI (48 + (z0 % 10))) (by rw [nI_clamp (by omega)]; exact (dig_at (by omega)).1) ?_
  refine w_ba2 (k := pv) hx hb hK hP hS (gA_in hb0) hz hb0 (vin (by omega) (by omega)) (v1 := (pu v pv (q + 0) (nI (48 + (z0 % 10))))) (by rw [b_fit (b48 (x := z0 % 10) (by omega)), nI_clamp (by omega)]) dJ6_getChars_ba4f3_84 fun H1 locs1 hz hP hS => ?_
  refine lv_iload_n hx hb dJ6_getChars_ba4f3_85 rfl (lv_at hl 1 rfl) ?_
  refine lv_bipush (v := (-9)) hx hb dJ6_getChars_ba4f3_86 rfl ?_
  refine lv_icmp_ge (tgt := 104) hx hb dJ6_getChars_ba4f3_88 rfl (fun hc88 => ?_) (fun hc88 => False.elim (hc88 (by have := ng_le2 (c := -9) (m := z0) (by omega); rw [show Int32.toInt (-9) = -9 from by decide] at this; exact this.mpr (by omega))))
  refine lv_iload hx hb dJ6_getChars_ba4f3_104 (lv_at hl 2 rfl) ?_
  refine lv_if_eq (tgt := 118) hx hb dJ6_getChars_ba4f3_106 rfl (fun hc106 => ?_) (fun hc106 => False.elim (hc106 rfl))
  refine lv_iload hx hb dJ6_getChars_ba4f3_118 (lv_at hl 0 rfl) ?_
  refine w_iret hx hb hret rfl hlk hK hP hS hz hE (?_ : GCP v pv q (decL z0) (pu v pv (q + 0) (nI (48 + (z0 % 10))))) dJ6_getChars_ba4f3_120
  have e0 : decL z0 = [nI (48 + z0)] := by unfold decL; rw [if_pos (by omega)]
  rw [e0]
  refine ⟨fun i => (pu v pv (q + 0) (nI (48 + (z0 % 10)))) pv i, funext fun k => funext fun i => ?_, fun i hi => ?_, fun j hj => ?_⟩
  · unfold up
    by_cases hk : k = pv
    · rw [if_pos hk, hk]
    · rw [if_neg hk]; simp [pu, up, hk]
  · have hl : List.length [(0 : Int32)] = 1 := rfl
    simp only [List.length_cons, List.length_nil] at hi
    have : i ≠ q := by omega
    simp [pu, up, upd, this]
  · simp only [List.length_cons, List.length_nil] at hj
    have hj2 : j = 0 := by omega
    rcases hj2 with rfl <;> simp [pu, up, upd] <;> first | rfl | (congr 2; omega)
theorem c_getChars2 {z0 q pv cp d1 d2 : Nat} (h1 : 10 ≤ z0) (h2 : z0 ≤ 99) (hC : EC Γ sh d1 d2) (hb0 : sh pv = some (sB 1 cp)) (hq : q + 2 ≤ cp) (hcp : cp ≤ 6000) : MetI l yJ6_getChars_ba4f3 cJ6_getChars_ba4f3 7 (some .int) 3 Γ sh v w n [.int (nI z0), .int (nI (q + 2)), .ref (Γ.2.1 + pv)] (fun x u => GCP v pv q (decL z0) u) := by
  refine w_start pn_J6 (Nat.le_of_ble_eq_true rfl) fun p e s m args below meth c hx hb hml hret hlk hnm hts hown hK hP hz hE hS ls hl => ?_
  have hd : DM sh n := hP.dm hz
  have hG : GR sh n sh n := GR.rf
  obtain ⟨hcs, hd1, hd2, hcl, hs1, hs2⟩ := id hC
  refine lv_iload_n hx hb dJ6_getChars_ba4f3_0 rfl (lv_at hl 1 rfl) ?_
  refine lv_istore (lv' := [(5, .int (nI (q + 2))), (0, .int (nI z0)), (1, .int (nI (q + 2))), (2, .ref (Γ.2.1 + pv))]) hx hb dJ6_getChars_ba4f3_1 hl (by decide) rfl fun ls hl => ?_
  refine lv_iload_n hx hb dJ6_getChars_ba4f3_3 rfl (lv_at hl 1 rfl) ?_
  refine lv_if_ge (tgt := 11) hx hb dJ6_getChars_ba4f3_4 rfl (fun hc4 => ?_) (fun hc4 => False.elim (hc4 (Int32.not_lt.mp (nI_pos (by omega)))))
  refine lv_iconst (v := 0) hx hb dJ6_getChars_ba4f3_11 rfl ?_
  refine lv_istore (lv' := [(6, .int 0), (5, .int (nI (q + 2))), (0, .int (nI z0)), (1, .int (nI (q + 2))), (2, .ref (Γ.2.1 + pv))]) hx hb dJ6_getChars_ba4f3_12 hl (by decide) rfl fun ls hl => ?_
  refine lv_iload hx hb dJ6_getChars_ba4f3_14 (lv_at hl 0 rfl) ?_
  refine lv_if_ne (tgt := 22) hx hb dJ6_getChars_ba4f3_16 rfl (fun hc16 => False.elim (hc16 rfl)) (fun hc16 => ?_)
  refine lv_iload_n hx hb dJ6_getChars_ba4f3_19 rfl (lv_at hl 2 rfl) ?_
  refine lv_ineg hx hb dJ6_getChars_ba4f3_20 ?_
  refine lv_istore_n (lv' := [(0, .int (-(nI z0))), (6, .int 0), (5, .int (nI (q + 2))), (1, .int (nI (q + 2))), (2, .ref (Γ.2.1 + pv))]) hx hb dJ6_getChars_ba4f3_21 rfl hl (by decide) rfl fun ls hl => ?_
  refine lv_iload_n hx hb dJ6_getChars_ba4f3_22 rfl (lv_at hl 0 rfl) ?_
  refine lv_bipush (v := (-100)) hx hb dJ6_getChars_ba4f3_23 rfl ?_
  refine lv_icmp_gt (tgt := 72) hx hb dJ6_getChars_ba4f3_25 rfl (fun hc25b => ?_) (fun hc25b => False.elim (hc25b ((ng_lt (by omega)).mpr (by rw [show Int32.toInt (-100) = -100 from by decide]; omega))))
  refine lv_aload_n hx hb dJ6_getChars_ba4f3_72 rfl (lv_at hl 4 rfl) ?_
  refine lv_iinc (k := 2) (v := ((nI (q + 2)) + (-1))) (lv' := [(5, .int ((nI (q + 2)) + (-1))), (0, .int (-(nI z0))), (6, .int 0), (1, .int (nI (q + 2))), (2, .ref (Γ.2.1 + pv))]) hx hb dJ6_getChars_ba4f3_73 hl rfl rfl (by decide) rfl fun ls hl => ?_
  refine lv_iload hx hb dJ6_getChars_ba4f3_76 (lv_at hl 0 rfl) ?_
  refine t_top (x' := nI (q + 1)) (ni_m1 (by omega)) ?_
  refine va_gets hx hb (hE.Z hd1) hS hown (hts _ jJ6_83) (fun _ q => q) dJ6_getChars_ba4f3_78 ?_
  refine lv_iload_n hx hb dJ6_getChars_ba4f3_81 rfl (lv_at hl 1 rfl) ?_
  refine lv_ineg hx hb dJ6_getChars_ba4f3_82 ?_
  refine t_top (x' := nI (z0)) ng_ng ?_
  refine va_tb hx hb (hE.T hs1.1) hS (vin (N := 100) (by omega) (by omega)) (v := .int (digO.getD (nI (z0)).toNatClampNeg 0)) rfl dJ6_getChars_ba4f3_83 ?_
  refine t_top (x' := nI (48 + (z0 % 10))) (by rw [nI_clamp (by omega)]; exact (dig_at (by omega)).1) ?_
  refine w_ba2 (k := pv) hx hb hK hP hS (gA_in hb0) hz hb0 (vin (by omega) (by omega)) (v1 := (pu v pv (q + 1) (nI (48 + (z0 % 10))))) (by rw [b_fit (b48 (x := z0 % 10) (by omega)), nI_clamp (by omega)]) dJ6_getChars_ba4f3_84 fun H1 locs1 hz hP hS => ?_
  refine lv_iload_n hx hb dJ6_getChars_ba4f3_85 rfl (lv_at hl 1 rfl) ?_
  refine lv_bipush (v := (-9)) hx hb dJ6_getChars_ba4f3_86 rfl ?_
  refine lv_icmp_ge (tgt := 104) hx hb dJ6_getChars_ba4f3_88 rfl (fun hc88 => False.elim (by have := (ng_le2 (c := -9) (m := z0) (by omega)).mp hc88; rw [show Int32.toInt (-9) = -9 from by decide] at this; omega)) (fun hc88 => ?_)
  refine lv_aload_n hx hb dJ6_getChars_ba4f3_91 rfl (lv_at hl 4 rfl) ?_
  refine lv_iinc (k := 0) (v := (((nI (q + 2)) + (-1)) + (-1))) (lv' := [(5, .int (((nI (q + 2)) + (-1)) + (-1))), (0, .int (-(nI z0))), (6, .int 0), (1, .int (nI (q + 2))), (2, .ref (Γ.2.1 + pv))]) hx hb dJ6_getChars_ba4f3_92 hl rfl rfl (by decide) rfl fun ls hl => ?_
  refine lv_iload hx hb dJ6_getChars_ba4f3_95 (lv_at hl 0 rfl) ?_
  refine t_top (x' := nI (q + 0)) (ni_m2 (by omega)) ?_
  refine va_gets hx hb (hE.Z hd2) hS hown (hts _ jJ6_87) (fun _ q => q) dJ6_getChars_ba4f3_97 ?_
  refine lv_iload_n hx hb dJ6_getChars_ba4f3_100 rfl (lv_at hl 1 rfl) ?_
  refine lv_ineg hx hb dJ6_getChars_ba4f3_101 ?_
  refine t_top (x' := nI (z0)) ng_ng ?_
  refine va_tb hx hb (hE.T hs2.1) hS (vin (N := 100) (by omega) (by omega)) (v := .int (digT.getD (nI (z0)).toNatClampNeg 0)) rfl dJ6_getChars_ba4f3_102 ?_
  refine t_top (x' := nI (48 + (z0 / 10))) (by rw [nI_clamp (by omega)]; exact (dig_at (by omega)).2) ?_
  refine w_ba2 (k := pv) hx hb hK hP hS (gA_in hb0) hz hb0 (vin (by omega) (by omega)) (v1 := (pu (pu v pv (q + 1) (nI (48 + (z0 % 10)))) pv (q + 0) (nI (48 + (z0 / 10))))) (by rw [b_fit (b48 (x := z0 / 10) (by omega)), nI_clamp (by omega)]) dJ6_getChars_ba4f3_103 fun H1 locs1 hz hP hS => ?_
  refine lv_iload hx hb dJ6_getChars_ba4f3_104 (lv_at hl 2 rfl) ?_
  refine lv_if_eq (tgt := 118) hx hb dJ6_getChars_ba4f3_106 rfl (fun hc106 => ?_) (fun hc106 => False.elim (hc106 rfl))
  refine lv_iload hx hb dJ6_getChars_ba4f3_118 (lv_at hl 0 rfl) ?_
  refine w_iret hx hb hret rfl hlk hK hP hS hz hE (?_ : GCP v pv q (decL z0) (pu (pu v pv (q + 1) (nI (48 + (z0 % 10)))) pv (q + 0) (nI (48 + (z0 / 10))))) dJ6_getChars_ba4f3_120
  have e0 : decL z0 = [nI (48 + z0 / 10), nI (48 + z0 % 10)] := by unfold decL; rw [if_neg (by omega), if_pos (by omega)]
  rw [e0]
  refine ⟨fun i => (pu (pu v pv (q + 1) (nI (48 + (z0 % 10)))) pv (q + 0) (nI (48 + (z0 / 10)))) pv i, funext fun k => funext fun i => ?_, fun i hi => ?_, fun j hj => ?_⟩
  · unfold up
    by_cases hk : k = pv
    · rw [if_pos hk, hk]
    · rw [if_neg hk]; simp [pu, up, hk]
  · have hl : List.length [(0 : Int32), 0] = 2 := rfl
    simp only [List.length_cons, List.length_nil] at hi
    have : i ≠ q ∧ i ≠ q + 1 := by omega
    simp [pu, up, upd, this]
  · simp only [List.length_cons, List.length_nil] at hj
    have hj2 : j = 0 ∨ j = 1 := by omega
    rcases hj2 with rfl | rfl <;> simp [pu, up, upd] <;> first | rfl | (congr 2; omega)
theorem c_getChars3 {z0 q pv cp d1 d2 : Nat} (h1 : 100 ≤ z0) (h2 : z0 ≤ 999) (hC : EC Γ sh d1 d2) (hb0 : sh pv = some (sB 1 cp)) (hq : q + 3 ≤ cp) (hcp : cp ≤ 6000) : MetI l yJ6_getChars_ba4f3 cJ6_getChars_ba4f3 7 (some .int) 3 Γ sh v w n [.int (nI z0), .int (nI (q + 3)), .ref (Γ.2.1 + pv)] (fun x u => GCP v pv q (decL z0) u) := by
  refine w_start pn_J6 (Nat.le_of_ble_eq_true rfl) fun p e s m args below meth c hx hb hml hret hlk hnm hts hown hK hP hz hE hS ls hl => ?_
  have hd : DM sh n := hP.dm hz
  have hG : GR sh n sh n := GR.rf
  obtain ⟨hcs, hd1, hd2, hcl, hs1, hs2⟩ := id hC
  refine lv_iload_n hx hb dJ6_getChars_ba4f3_0 rfl (lv_at hl 1 rfl) ?_
  refine lv_istore (lv' := [(5, .int (nI (q + 3))), (0, .int (nI z0)), (1, .int (nI (q + 3))), (2, .ref (Γ.2.1 + pv))]) hx hb dJ6_getChars_ba4f3_1 hl (by decide) rfl fun ls hl => ?_
  refine lv_iload_n hx hb dJ6_getChars_ba4f3_3 rfl (lv_at hl 1 rfl) ?_
  refine lv_if_ge (tgt := 11) hx hb dJ6_getChars_ba4f3_4 rfl (fun hc4 => ?_) (fun hc4 => False.elim (hc4 (Int32.not_lt.mp (nI_pos (by omega)))))
  refine lv_iconst (v := 0) hx hb dJ6_getChars_ba4f3_11 rfl ?_
  refine lv_istore (lv' := [(6, .int 0), (5, .int (nI (q + 3))), (0, .int (nI z0)), (1, .int (nI (q + 3))), (2, .ref (Γ.2.1 + pv))]) hx hb dJ6_getChars_ba4f3_12 hl (by decide) rfl fun ls hl => ?_
  refine lv_iload hx hb dJ6_getChars_ba4f3_14 (lv_at hl 0 rfl) ?_
  refine lv_if_ne (tgt := 22) hx hb dJ6_getChars_ba4f3_16 rfl (fun hc16 => False.elim (hc16 rfl)) (fun hc16 => ?_)
  refine lv_iload_n hx hb dJ6_getChars_ba4f3_19 rfl (lv_at hl 2 rfl) ?_
  refine lv_ineg hx hb dJ6_getChars_ba4f3_20 ?_
  refine lv_istore_n (lv' := [(0, .int (-(nI z0))), (6, .int 0), (5, .int (nI (q + 3))), (1, .int (nI (q + 3))), (2, .ref (Γ.2.1 + pv))]) hx hb dJ6_getChars_ba4f3_21 rfl hl (by decide) rfl fun ls hl => ?_
  refine lv_iload_n hx hb dJ6_getChars_ba4f3_22 rfl (lv_at hl 0 rfl) ?_
  refine lv_bipush (v := (-100)) hx hb dJ6_getChars_ba4f3_23 rfl ?_
  refine lv_icmp_gt (tgt := 72) hx hb dJ6_getChars_ba4f3_25 rfl (fun hc25 => False.elim (by have := (ng_lt (by omega)).mp hc25; rw [show Int32.toInt (-100) = -100 from by decide] at this; omega)) (fun hc25 => ?_)
  refine lv_iload_n hx hb dJ6_getChars_ba4f3_28 rfl (lv_at hl 0 rfl) ?_
  refine lv_bipush (v := 100) hx hb dJ6_getChars_ba4f3_29 rfl ?_
  refine lv_idiv hx hb dJ6_getChars_ba4f3_31 (by decide) ?_
  refine t_top (x' := -(nI (z0 / 100))) (ng_div (by omega)) ?_
  refine lv_istore_n (lv' := [(3, .int (-(nI (z0 / 100)))), (0, .int (-(nI z0))), (6, .int 0), (5, .int (nI (q + 3))), (1, .int (nI (q + 3))), (2, .ref (Γ.2.1 + pv))]) hx hb dJ6_getChars_ba4f3_32 rfl hl (by decide) rfl fun ls hl => ?_
  refine lv_iload_n hx hb dJ6_getChars_ba4f3_33 rfl (lv_at hl 0 rfl) ?_
  refine lv_bipush (v := 100) hx hb dJ6_getChars_ba4f3_34 rfl ?_
  refine lv_imul hx hb dJ6_getChars_ba4f3_36 ?_
  refine lv_iload_n hx hb dJ6_getChars_ba4f3_37 rfl (lv_at hl 1 rfl) ?_
  refine lv_isub hx hb dJ6_getChars_ba4f3_38 ?_
  refine t_top (x' := nI (z0 % 100)) (ng_mod (by omega)) ?_
  refine lv_istore (lv' := [(4, .int (nI (z0 % 100))), (3, .int (-(nI (z0 / 100)))), (0, .int (-(nI z0))), (6, .int 0), (5, .int (nI (q + 3))), (1, .int (nI (q + 3))), (2, .ref (Γ.2.1 + pv))]) hx hb dJ6_getChars_ba4f3_39 hl (by decide) rfl fun ls hl => ?_
  refine lv_iload_n hx hb dJ6_getChars_ba4f3_41 rfl (lv_at hl 1 rfl) ?_
  refine lv_istore_n (lv' := [(0, .int (-(nI (z0 / 100)))), (4, .int (nI (z0 % 100))), (3, .int (-(nI (z0 / 100)))), (6, .int 0), (5, .int (nI (q + 3))), (1, .int (nI (q + 3))), (2, .ref (Γ.2.1 + pv))]) hx hb dJ6_getChars_ba4f3_42 rfl hl (by decide) rfl fun ls hl => ?_
  refine lv_aload_n hx hb dJ6_getChars_ba4f3_43 rfl (lv_at hl 6 rfl) ?_
  refine lv_iinc (k := 4) (v := ((nI (q + 3)) + (-1))) (lv' := [(5, .int ((nI (q + 3)) + (-1))), (0, .int (-(nI (z0 / 100)))), (4, .int (nI (z0 % 100))), (3, .int (-(nI (z0 / 100)))), (6, .int 0), (1, .int (nI (q + 3))), (2, .ref (Γ.2.1 + pv))]) hx hb dJ6_getChars_ba4f3_44 hl rfl rfl (by decide) rfl fun ls hl => ?_
  refine lv_iload hx hb dJ6_getChars_ba4f3_47 (lv_at hl 0 rfl) ?_
  refine t_top (x' := nI (q + 2)) (ni_m1 (by omega)) ?_
  refine va_gets hx hb (hE.Z hd1) hS hown (hts _ jJ6_83) (fun _ q => q) dJ6_getChars_ba4f3_49 ?_
  refine lv_iload hx hb dJ6_getChars_ba4f3_52 (lv_at hl 2 rfl) ?_
  refine va_tb hx hb (hE.T hs1.1) hS (vin (N := 100) (by omega) (by omega)) (v := .int (digO.getD (nI (z0 % 100)).toNatClampNeg 0)) rfl dJ6_getChars_ba4f3_54 ?_
  refine t_top (x' := nI (48 + (z0 % 100 % 10))) (by rw [nI_clamp (by omega)]; exact (dig_at (by omega)).1) ?_
  refine w_ba2 (k := pv) hx hb hK hP hS (gA_in hb0) hz hb0 (vin (by omega) (by omega)) (v1 := (pu v pv (q + 2) (nI (48 + (z0 % 100 % 10))))) (by rw [b_fit (b48 (x := z0 % 100 % 10) (by omega)), nI_clamp (by omega)]) dJ6_getChars_ba4f3_55 fun H1 locs1 hz hP hS => ?_
  refine lv_aload_n hx hb dJ6_getChars_ba4f3_56 rfl (lv_at hl 6 rfl) ?_
  refine lv_iinc (k := 0) (v := (((nI (q + 3)) + (-1)) + (-1))) (lv' := [(5, .int (((nI (q + 3)) + (-1)) + (-1))), (0, .int (-(nI (z0 / 100)))), (4, .int (nI (z0 % 100))), (3, .int (-(nI (z0 / 100)))), (6, .int 0), (1, .int (nI (q + 3))), (2, .ref (Γ.2.1 + pv))]) hx hb dJ6_getChars_ba4f3_57 hl rfl rfl (by decide) rfl fun ls hl => ?_
  refine lv_iload hx hb dJ6_getChars_ba4f3_60 (lv_at hl 0 rfl) ?_
  refine t_top (x' := nI (q + 1)) (ni_m2 (by omega)) ?_
  refine va_gets hx hb (hE.Z hd2) hS hown (hts _ jJ6_87) (fun _ q => q) dJ6_getChars_ba4f3_62 ?_
  refine lv_iload hx hb dJ6_getChars_ba4f3_65 (lv_at hl 2 rfl) ?_
  refine va_tb hx hb (hE.T hs2.1) hS (vin (N := 100) (by omega) (by omega)) (v := .int (digT.getD (nI (z0 % 100)).toNatClampNeg 0)) rfl dJ6_getChars_ba4f3_67 ?_
  refine t_top (x' := nI (48 + (z0 % 100 / 10))) (by rw [nI_clamp (by omega)]; exact (dig_at (by omega)).2) ?_
  refine w_ba2 (k := pv) hx hb hK hP hS (gA_in hb0) hz hb0 (vin (by omega) (by omega)) (v1 := (pu (pu v pv (q + 2) (nI (48 + (z0 % 100 % 10)))) pv (q + 1) (nI (48 + (z0 % 100 / 10))))) (by rw [b_fit (b48 (x := z0 % 100 / 10) (by omega)), nI_clamp (by omega)]) dJ6_getChars_ba4f3_68 fun H1 locs1 hz hP hS => ?_
  refine lv_goto (tgt := 22) hx hb dJ6_getChars_ba4f3_69 rfl ?_
  refine lv_iload_n hx hb dJ6_getChars_ba4f3_22 rfl (lv_at hl 1 rfl) ?_
  refine lv_bipush (v := (-100)) hx hb dJ6_getChars_ba4f3_23 rfl ?_
  refine lv_icmp_gt (tgt := 72) hx hb dJ6_getChars_ba4f3_25 rfl (fun hc25b => ?_) (fun hc25b => False.elim (hc25b ((ng_lt (by omega)).mpr (by rw [show Int32.toInt (-100) = -100 from by decide]; omega))))
  refine lv_aload_n hx hb dJ6_getChars_ba4f3_72 rfl (lv_at hl 6 rfl) ?_
  refine lv_iinc (k := 0) (v := ((((nI (q + 3)) + (-1)) + (-1)) + (-1))) (lv' := [(5, .int ((((nI (q + 3)) + (-1)) + (-1)) + (-1))), (0, .int (-(nI (z0 / 100)))), (4, .int (nI (z0 % 100))), (3, .int (-(nI (z0 / 100)))), (6, .int 0), (1, .int (nI (q + 3))), (2, .ref (Γ.2.1 + pv))]) hx hb dJ6_getChars_ba4f3_73 hl rfl rfl (by decide) rfl fun ls hl => ?_
  refine lv_iload hx hb dJ6_getChars_ba4f3_76 (lv_at hl 0 rfl) ?_
  refine t_top (x' := nI (q + 0)) (ni_m3 (by omega)) ?_
  refine va_gets hx hb (hE.Z hd1) hS hown (hts _ jJ6_83) (fun _ q => q) dJ6_getChars_ba4f3_78 ?_
  refine lv_iload_n hx hb dJ6_getChars_ba4f3_81 rfl (lv_at hl 1 rfl) ?_
  refine lv_ineg hx hb dJ6_getChars_ba4f3_82 ?_
  refine t_top (x' := nI (z0 / 100)) ng_ng ?_
  refine va_tb hx hb (hE.T hs1.1) hS (vin (N := 100) (by omega) (by omega)) (v := .int (digO.getD (nI (z0 / 100)).toNatClampNeg 0)) rfl dJ6_getChars_ba4f3_83 ?_
  refine t_top (x' := nI (48 + (z0 / 100 % 10))) (by rw [nI_clamp (by omega)]; exact (dig_at (by omega)).1) ?_
  refine w_ba2 (k := pv) hx hb hK hP hS (gA_in hb0) hz hb0 (vin (by omega) (by omega)) (v1 := (pu (pu (pu v pv (q + 2) (nI (48 + (z0 % 100 % 10)))) pv (q + 1) (nI (48 + (z0 % 100 / 10)))) pv (q + 0) (nI (48 + (z0 / 100 % 10))))) (by rw [b_fit (b48 (x := z0 / 100 % 10) (by omega)), nI_clamp (by omega)]) dJ6_getChars_ba4f3_84 fun H1 locs1 hz hP hS => ?_
  refine lv_iload_n hx hb dJ6_getChars_ba4f3_85 rfl (lv_at hl 1 rfl) ?_
  refine lv_bipush (v := (-9)) hx hb dJ6_getChars_ba4f3_86 rfl ?_
  refine lv_icmp_ge (tgt := 104) hx hb dJ6_getChars_ba4f3_88 rfl (fun hc88 => ?_) (fun hc88 => False.elim (hc88 (by have := ng_le2 (c := -9) (m := z0 / 100) (by omega); rw [show Int32.toInt (-9) = -9 from by decide] at this; exact this.mpr (by omega))))
  refine lv_iload hx hb dJ6_getChars_ba4f3_104 (lv_at hl 4 rfl) ?_
  refine lv_if_eq (tgt := 118) hx hb dJ6_getChars_ba4f3_106 rfl (fun hc106 => ?_) (fun hc106 => False.elim (hc106 rfl))
  refine lv_iload hx hb dJ6_getChars_ba4f3_118 (lv_at hl 0 rfl) ?_
  refine w_iret hx hb hret rfl hlk hK hP hS hz hE (?_ : GCP v pv q (decL z0) (pu (pu (pu v pv (q + 2) (nI (48 + (z0 % 100 % 10)))) pv (q + 1) (nI (48 + (z0 % 100 / 10)))) pv (q + 0) (nI (48 + (z0 / 100 % 10))))) dJ6_getChars_ba4f3_120
  have e0 : decL z0 = [nI (48 + z0 / 100), nI (48 + z0 % 100 / 10), nI (48 + z0 % 100 % 10)] := by unfold decL; rw [if_neg (by omega), if_neg (by omega), if_pos (by omega)]
  rw [e0]
  refine ⟨fun i => (pu (pu (pu v pv (q + 2) (nI (48 + (z0 % 100 % 10)))) pv (q + 1) (nI (48 + (z0 % 100 / 10)))) pv (q + 0) (nI (48 + (z0 / 100 % 10)))) pv i, funext fun k => funext fun i => ?_, fun i hi => ?_, fun j hj => ?_⟩
  · unfold up
    by_cases hk : k = pv
    · rw [if_pos hk, hk]
    · rw [if_neg hk]; simp [pu, up, hk]
  · have hl : List.length [(0 : Int32), 0, 0] = 3 := rfl
    simp only [List.length_cons, List.length_nil] at hi
    have : i ≠ q ∧ i ≠ q + 1 ∧ i ≠ q + 2 := by omega
    simp [pu, up, upd, this]
  · simp only [List.length_cons, List.length_nil] at hj
    have hj2 : j = 0 ∨ j = 1 ∨ j = 2 := by omega
    rcases hj2 with rfl | rfl | rfl <;> simp [pu, up, upd] <;> first | rfl | (congr 2; omega)
theorem c_getChars4 {z0 q pv cp d1 d2 : Nat} (h1 : 1000 ≤ z0) (h2 : z0 ≤ 9999) (hC : EC Γ sh d1 d2) (hb0 : sh pv = some (sB 1 cp)) (hq : q + 4 ≤ cp) (hcp : cp ≤ 6000) : MetI l yJ6_getChars_ba4f3 cJ6_getChars_ba4f3 7 (some .int) 3 Γ sh v w n [.int (nI z0), .int (nI (q + 4)), .ref (Γ.2.1 + pv)] (fun x u => GCP v pv q (decL z0) u) := by
  refine w_start pn_J6 (Nat.le_of_ble_eq_true rfl) fun p e s m args below meth c hx hb hml hret hlk hnm hts hown hK hP hz hE hS ls hl => ?_
  have hd : DM sh n := hP.dm hz
  have hG : GR sh n sh n := GR.rf
  obtain ⟨hcs, hd1, hd2, hcl, hs1, hs2⟩ := id hC
  refine lv_iload_n hx hb dJ6_getChars_ba4f3_0 rfl (lv_at hl 1 rfl) ?_
  refine lv_istore (lv' := [(5, .int (nI (q + 4))), (0, .int (nI z0)), (1, .int (nI (q + 4))), (2, .ref (Γ.2.1 + pv))]) hx hb dJ6_getChars_ba4f3_1 hl (by decide) rfl fun ls hl => ?_
  refine lv_iload_n hx hb dJ6_getChars_ba4f3_3 rfl (lv_at hl 1 rfl) ?_
  refine lv_if_ge (tgt := 11) hx hb dJ6_getChars_ba4f3_4 rfl (fun hc4 => ?_) (fun hc4 => False.elim (hc4 (Int32.not_lt.mp (nI_pos (by omega)))))
  refine lv_iconst (v := 0) hx hb dJ6_getChars_ba4f3_11 rfl ?_
  refine lv_istore (lv' := [(6, .int 0), (5, .int (nI (q + 4))), (0, .int (nI z0)), (1, .int (nI (q + 4))), (2, .ref (Γ.2.1 + pv))]) hx hb dJ6_getChars_ba4f3_12 hl (by decide) rfl fun ls hl => ?_
  refine lv_iload hx hb dJ6_getChars_ba4f3_14 (lv_at hl 0 rfl) ?_
  refine lv_if_ne (tgt := 22) hx hb dJ6_getChars_ba4f3_16 rfl (fun hc16 => False.elim (hc16 rfl)) (fun hc16 => ?_)
  refine lv_iload_n hx hb dJ6_getChars_ba4f3_19 rfl (lv_at hl 2 rfl) ?_
  refine lv_ineg hx hb dJ6_getChars_ba4f3_20 ?_
  refine lv_istore_n (lv' := [(0, .int (-(nI z0))), (6, .int 0), (5, .int (nI (q + 4))), (1, .int (nI (q + 4))), (2, .ref (Γ.2.1 + pv))]) hx hb dJ6_getChars_ba4f3_21 rfl hl (by decide) rfl fun ls hl => ?_
  refine lv_iload_n hx hb dJ6_getChars_ba4f3_22 rfl (lv_at hl 0 rfl) ?_
  refine lv_bipush (v := (-100)) hx hb dJ6_getChars_ba4f3_23 rfl ?_
  refine lv_icmp_gt (tgt := 72) hx hb dJ6_getChars_ba4f3_25 rfl (fun hc25 => False.elim (by have := (ng_lt (by omega)).mp hc25; rw [show Int32.toInt (-100) = -100 from by decide] at this; omega)) (fun hc25 => ?_)
  refine lv_iload_n hx hb dJ6_getChars_ba4f3_28 rfl (lv_at hl 0 rfl) ?_
  refine lv_bipush (v := 100) hx hb dJ6_getChars_ba4f3_29 rfl ?_
  refine lv_idiv hx hb dJ6_getChars_ba4f3_31 (by decide) ?_
  refine t_top (x' := -(nI (z0 / 100))) (ng_div (by omega)) ?_
  refine lv_istore_n (lv' := [(3, .int (-(nI (z0 / 100)))), (0, .int (-(nI z0))), (6, .int 0), (5, .int (nI (q + 4))), (1, .int (nI (q + 4))), (2, .ref (Γ.2.1 + pv))]) hx hb dJ6_getChars_ba4f3_32 rfl hl (by decide) rfl fun ls hl => ?_
  refine lv_iload_n hx hb dJ6_getChars_ba4f3_33 rfl (lv_at hl 0 rfl) ?_
  refine lv_bipush (v := 100) hx hb dJ6_getChars_ba4f3_34 rfl ?_
  refine lv_imul hx hb dJ6_getChars_ba4f3_36 ?_
  refine lv_iload_n hx hb dJ6_getChars_ba4f3_37 rfl (lv_at hl 1 rfl) ?_
  refine lv_isub hx hb dJ6_getChars_ba4f3_38 ?_
  refine t_top (x' := nI (z0 % 100)) (ng_mod (by omega)) ?_
  refine lv_istore (lv' := [(4, .int (nI (z0 % 100))), (3, .int (-(nI (z0 / 100)))), (0, .int (-(nI z0))), (6, .int 0), (5, .int (nI (q + 4))), (1, .int (nI (q + 4))), (2, .ref (Γ.2.1 + pv))]) hx hb dJ6_getChars_ba4f3_39 hl (by decide) rfl fun ls hl => ?_
  refine lv_iload_n hx hb dJ6_getChars_ba4f3_41 rfl (lv_at hl 1 rfl) ?_
  refine lv_istore_n (lv' := [(0, .int (-(nI (z0 / 100)))), (4, .int (nI (z0 % 100))), (3, .int (-(nI (z0 / 100)))), (6, .int 0), (5, .int (nI (q + 4))), (1, .int (nI (q + 4))), (2, .ref (Γ.2.1 + pv))]) hx hb dJ6_getChars_ba4f3_42 rfl hl (by decide) rfl fun ls hl => ?_
  refine lv_aload_n hx hb dJ6_getChars_ba4f3_43 rfl (lv_at hl 6 rfl) ?_
  refine lv_iinc (k := 4) (v := ((nI (q + 4)) + (-1))) (lv' := [(5, .int ((nI (q + 4)) + (-1))), (0, .int (-(nI (z0 / 100)))), (4, .int (nI (z0 % 100))), (3, .int (-(nI (z0 / 100)))), (6, .int 0), (1, .int (nI (q + 4))), (2, .ref (Γ.2.1 + pv))]) hx hb dJ6_getChars_ba4f3_44 hl rfl rfl (by decide) rfl fun ls hl => ?_
  refine lv_iload hx hb dJ6_getChars_ba4f3_47 (lv_at hl 0 rfl) ?_
  refine t_top (x' := nI (q + 3)) (ni_m1 (by omega)) ?_
  refine va_gets hx hb (hE.Z hd1) hS hown (hts _ jJ6_83) (fun _ q => q) dJ6_getChars_ba4f3_49 ?_
  refine lv_iload hx hb dJ6_getChars_ba4f3_52 (lv_at hl 2 rfl) ?_
  refine va_tb hx hb (hE.T hs1.1) hS (vin (N := 100) (by omega) (by omega)) (v := .int (digO.getD (nI (z0 % 100)).toNatClampNeg 0)) rfl dJ6_getChars_ba4f3_54 ?_
  refine t_top (x' := nI (48 + (z0 % 100 % 10))) (by rw [nI_clamp (by omega)]; exact (dig_at (by omega)).1) ?_
  refine w_ba2 (k := pv) hx hb hK hP hS (gA_in hb0) hz hb0 (vin (by omega) (by omega)) (v1 := (pu v pv (q + 3) (nI (48 + (z0 % 100 % 10))))) (by rw [b_fit (b48 (x := z0 % 100 % 10) (by omega)), nI_clamp (by omega)]) dJ6_getChars_ba4f3_55 fun H1 locs1 hz hP hS => ?_
  refine lv_aload_n hx hb dJ6_getChars_ba4f3_56 rfl (lv_at hl 6 rfl) ?_
  refine lv_iinc (k := 0) (v := (((nI (q + 4)) + (-1)) + (-1))) (lv' := [(5, .int (((nI (q + 4)) + (-1)) + (-1))), (0, .int (-(nI (z0 / 100)))), (4, .int (nI (z0 % 100))), (3, .int (-(nI (z0 / 100)))), (6, .int 0), (1, .int (nI (q + 4))), (2, .ref (Γ.2.1 + pv))]) hx hb dJ6_getChars_ba4f3_57 hl rfl rfl (by decide) rfl fun ls hl => ?_
  refine lv_iload hx hb dJ6_getChars_ba4f3_60 (lv_at hl 0 rfl) ?_
  refine t_top (x' := nI (q + 2)) (ni_m2 (by omega)) ?_
  refine va_gets hx hb (hE.Z hd2) hS hown (hts _ jJ6_87) (fun _ q => q) dJ6_getChars_ba4f3_62 ?_
  refine lv_iload hx hb dJ6_getChars_ba4f3_65 (lv_at hl 2 rfl) ?_
  refine va_tb hx hb (hE.T hs2.1) hS (vin (N := 100) (by omega) (by omega)) (v := .int (digT.getD (nI (z0 % 100)).toNatClampNeg 0)) rfl dJ6_getChars_ba4f3_67 ?_
  refine t_top (x' := nI (48 + (z0 % 100 / 10))) (by rw [nI_clamp (by omega)]; exact (dig_at (by omega)).2) ?_
  refine w_ba2 (k := pv) hx hb hK hP hS (gA_in hb0) hz hb0 (vin (by omega) (by omega)) (v1 := (pu (pu v pv (q + 3) (nI (48 + (z0 % 100 % 10)))) pv (q + 2) (nI (48 + (z0 % 100 / 10))))) (by rw [b_fit (b48 (x := z0 % 100 / 10) (by omega)), nI_clamp (by omega)]) dJ6_getChars_ba4f3_68 fun H1 locs1 hz hP hS => ?_
  refine lv_goto (tgt := 22) hx hb dJ6_getChars_ba4f3_69 rfl ?_
  refine lv_iload_n hx hb dJ6_getChars_ba4f3_22 rfl (lv_at hl 1 rfl) ?_
  refine lv_bipush (v := (-100)) hx hb dJ6_getChars_ba4f3_23 rfl ?_
  refine lv_icmp_gt (tgt := 72) hx hb dJ6_getChars_ba4f3_25 rfl (fun hc25b => ?_) (fun hc25b => False.elim (hc25b ((ng_lt (by omega)).mpr (by rw [show Int32.toInt (-100) = -100 from by decide]; omega))))
  refine lv_aload_n hx hb dJ6_getChars_ba4f3_72 rfl (lv_at hl 6 rfl) ?_
  refine lv_iinc (k := 0) (v := ((((nI (q + 4)) + (-1)) + (-1)) + (-1))) (lv' := [(5, .int ((((nI (q + 4)) + (-1)) + (-1)) + (-1))), (0, .int (-(nI (z0 / 100)))), (4, .int (nI (z0 % 100))), (3, .int (-(nI (z0 / 100)))), (6, .int 0), (1, .int (nI (q + 4))), (2, .ref (Γ.2.1 + pv))]) hx hb dJ6_getChars_ba4f3_73 hl rfl rfl (by decide) rfl fun ls hl => ?_
  refine lv_iload hx hb dJ6_getChars_ba4f3_76 (lv_at hl 0 rfl) ?_
  refine t_top (x' := nI (q + 1)) (ni_m3 (by omega)) ?_
  refine va_gets hx hb (hE.Z hd1) hS hown (hts _ jJ6_83) (fun _ q => q) dJ6_getChars_ba4f3_78 ?_
  refine lv_iload_n hx hb dJ6_getChars_ba4f3_81 rfl (lv_at hl 1 rfl) ?_
  refine lv_ineg hx hb dJ6_getChars_ba4f3_82 ?_
  refine t_top (x' := nI (z0 / 100)) ng_ng ?_
  refine va_tb hx hb (hE.T hs1.1) hS (vin (N := 100) (by omega) (by omega)) (v := .int (digO.getD (nI (z0 / 100)).toNatClampNeg 0)) rfl dJ6_getChars_ba4f3_83 ?_
  refine t_top (x' := nI (48 + (z0 / 100 % 10))) (by rw [nI_clamp (by omega)]; exact (dig_at (by omega)).1) ?_
  refine w_ba2 (k := pv) hx hb hK hP hS (gA_in hb0) hz hb0 (vin (by omega) (by omega)) (v1 := (pu (pu (pu v pv (q + 3) (nI (48 + (z0 % 100 % 10)))) pv (q + 2) (nI (48 + (z0 % 100 / 10)))) pv (q + 1) (nI (48 + (z0 / 100 % 10))))) (by rw [b_fit (b48 (x := z0 / 100 % 10) (by omega)), nI_clamp (by omega)]) dJ6_getChars_ba4f3_84 fun H1 locs1 hz hP hS => ?_
  refine lv_iload_n hx hb dJ6_getChars_ba4f3_85 rfl (lv_at hl 1 rfl) ?_
  refine lv_bipush (v := (-9)) hx hb dJ6_getChars_ba4f3_86 rfl ?_
  refine lv_icmp_ge (tgt := 104) hx hb dJ6_getChars_ba4f3_88 rfl (fun hc88 => False.elim (by have := (ng_le2 (c := -9) (m := z0 / 100) (by omega)).mp hc88; rw [show Int32.toInt (-9) = -9 from by decide] at this; omega)) (fun hc88 => ?_)
  refine lv_aload_n hx hb dJ6_getChars_ba4f3_91 rfl (lv_at hl 6 rfl) ?_
  refine lv_iinc (k := 0) (v := (((((nI (q + 4)) + (-1)) + (-1)) + (-1)) + (-1))) (lv' := [(5, .int (((((nI (q + 4)) + (-1)) + (-1)) + (-1)) + (-1))), (0, .int (-(nI (z0 / 100)))), (4, .int (nI (z0 % 100))), (3, .int (-(nI (z0 / 100)))), (6, .int 0), (1, .int (nI (q + 4))), (2, .ref (Γ.2.1 + pv))]) hx hb dJ6_getChars_ba4f3_92 hl rfl rfl (by decide) rfl fun ls hl => ?_
  refine lv_iload hx hb dJ6_getChars_ba4f3_95 (lv_at hl 0 rfl) ?_
  refine t_top (x' := nI (q + 0)) (ni_m4 (by omega)) ?_
  refine va_gets hx hb (hE.Z hd2) hS hown (hts _ jJ6_87) (fun _ q => q) dJ6_getChars_ba4f3_97 ?_
  refine lv_iload_n hx hb dJ6_getChars_ba4f3_100 rfl (lv_at hl 1 rfl) ?_
  refine lv_ineg hx hb dJ6_getChars_ba4f3_101 ?_
  refine t_top (x' := nI (z0 / 100)) ng_ng ?_
  refine va_tb hx hb (hE.T hs2.1) hS (vin (N := 100) (by omega) (by omega)) (v := .int (digT.getD (nI (z0 / 100)).toNatClampNeg 0)) rfl dJ6_getChars_ba4f3_102 ?_
  refine t_top (x' := nI (48 + (z0 / 100 / 10))) (by rw [nI_clamp (by omega)]; exact (dig_at (by omega)).2) ?_
  refine w_ba2 (k := pv) hx hb hK hP hS (gA_in hb0) hz hb0 (vin (by omega) (by omega)) (v1 := (pu (pu (pu (pu v pv (q + 3) (nI (48 + (z0 % 100 % 10)))) pv (q + 2) (nI (48 + (z0 % 100 / 10)))) pv (q + 1) (nI (48 + (z0 / 100 % 10)))) pv (q + 0) (nI (48 + (z0 / 100 / 10))))) (by rw [b_fit (b48 (x := z0 / 100 / 10) (by omega)), nI_clamp (by omega)]) dJ6_getChars_ba4f3_103 fun H1 locs1 hz hP hS => ?_
  refine lv_iload hx hb dJ6_getChars_ba4f3_104 (lv_at hl 4 rfl) ?_
  refine lv_if_eq (tgt := 118) hx hb dJ6_getChars_ba4f3_106 rfl (fun hc106 => ?_) (fun hc106 => False.elim (hc106 rfl))
  refine lv_iload hx hb dJ6_getChars_ba4f3_118 (lv_at hl 0 rfl) ?_
  refine w_iret hx hb hret rfl hlk hK hP hS hz hE (?_ : GCP v pv q (decL z0) (pu (pu (pu (pu v pv (q + 3) (nI (48 + (z0 % 100 % 10)))) pv (q + 2) (nI (48 + (z0 % 100 / 10)))) pv (q + 1) (nI (48 + (z0 / 100 % 10)))) pv (q + 0) (nI (48 + (z0 / 100 / 10))))) dJ6_getChars_ba4f3_120
  have e0 : decL z0 = [nI (48 + z0 / 100 / 10), nI (48 + z0 / 100 % 10), nI (48 + z0 % 100 / 10), nI (48 + z0 % 100 % 10)] := by unfold decL; rw [if_neg (by omega), if_neg (by omega), if_neg (by omega)]
  rw [e0]
  refine ⟨fun i => (pu (pu (pu (pu v pv (q + 3) (nI (48 + (z0 % 100 % 10)))) pv (q + 2) (nI (48 + (z0 % 100 / 10)))) pv (q + 1) (nI (48 + (z0 / 100 % 10)))) pv (q + 0) (nI (48 + (z0 / 100 / 10)))) pv i, funext fun k => funext fun i => ?_, fun i hi => ?_, fun j hj => ?_⟩
  · unfold up
    by_cases hk : k = pv
    · rw [if_pos hk, hk]
    · rw [if_neg hk]; simp [pu, up, hk]
  · have hl : List.length [(0 : Int32), 0, 0, 0] = 4 := rfl
    simp only [List.length_cons, List.length_nil] at hi
    have : i ≠ q ∧ i ≠ q + 1 ∧ i ≠ q + 2 ∧ i ≠ q + 3 := by omega
    simp [pu, up, upd, this]
  · simp only [List.length_cons, List.length_nil] at hj
    have hj2 : j = 0 ∨ j = 1 ∨ j = 2 ∨ j = 3 := by omega
    rcases hj2 with rfl | rfl | rfl | rfl <;> simp [pu, up, upd] <;> first | rfl | (congr 2; omega)
theorem c_getChars {z0 q pv cp d1 d2 : Nat} (h2 : z0 ≤ 9999) (hC : EC Γ sh d1 d2) (hb0 : sh pv = some (sB 1 cp)) (hq : q + lenD z0 ≤ cp) (hcp : cp ≤ 6000) : MetI l yJ6_getChars_ba4f3 cJ6_getChars_ba4f3 7 (some .int) 3 Γ sh v w n [.int (nI z0), .int (nI (q + lenD z0)), .ref (Γ.2.1 + pv)] (fun x u => GCP v pv q (decL z0) u) := by
  revert hq
  unfold lenD
  by_cases a1 : z0 < 10
  · rw [if_pos a1]; exact fun hq => c_getChars1 (by omega) (by omega) hC hb0 hq hcp
  rw [if_neg a1]
  by_cases a2 : z0 < 100
  · rw [if_pos a2]; exact fun hq => c_getChars2 (by omega) (by omega) hC hb0 hq hcp
  rw [if_neg a2]
  by_cases a3 : z0 < 1000
  · rw [if_pos a3]; exact fun hq => c_getChars3 (by omega) (by omega) hC hb0 hq hcp
  rw [if_neg a3]
  exact fun hq => c_getChars4 (by omega) (by omega) hC hb0 hq hcp
theorem decL_rg {m : Nat} (h : m ≤ 9999) : ∀ b ∈ decL m, 0 ≤ b.toInt ∧ b.toInt < 128 := by
  unfold decL
  intro b hb
  split at hb
  · rcases List.mem_cons.mp hb with rfl | hb
    · exact b48 (by omega)
    · cases hb
  split at hb
  · rcases List.mem_cons.mp hb with rfl | hb
    · exact b48 (by omega)
    rcases List.mem_cons.mp hb with rfl | hb
    · exact b48 (by omega)
    · cases hb
  split at hb
  · rcases List.mem_cons.mp hb with rfl | hb
    · exact b48 (by omega)
    rcases List.mem_cons.mp hb with rfl | hb
    · exact b48 (by omega)
    rcases List.mem_cons.mp hb with rfl | hb
    · exact b48 (by omega)
    · cases hb
  · rcases List.mem_cons.mp hb with rfl | hb
    · exact b48 (by omega)
    rcases List.mem_cons.mp hb with rfl | hb
    · exact b48 (by omega)
    rcases List.mem_cons.mp hb with rfl | hb
    · exact b48 (by omega)
    rcases List.mem_cons.mp hb with rfl | hb
    · exact b48 (by omega)
    · cases hb
end JE
