/-! BELOW, CELL -/
section JE
variable {l : Launch} {Γ : Cx} {sh : Sh} {v : Va} {w : Vl} {n : Nat}
/-- a number below n, out of an int -/
def bel (x : Int32) (n : Nat) : Nat := x.toBitVec.toNat % 2147483648 % n
theorem bel_lt {x : Int32} {n : Nat} (h : 1 ≤ n) : bel x n < n := Nat.mod_lt _ h
theorem mask_nn (x : Int32) : x &&& 2147483647 = nI (x.toBitVec.toNat % 2147483648) := by
  apply Int32.toBitVec_inj.mp
  apply BitVec.eq_of_toNat_eq
  show (x.toBitVec &&& 2147483647#32).toNat = (BitVec.ofNat 32 (x.toBitVec.toNat % 2147483648)).toNat
  rw [BitVec.toNat_and, show (2147483647#32 : BitVec 32).toNat = 2 ^ 31 - 1 from rfl, Nat.and_two_pow_sub_one_eq_mod, BitVec.toNat_ofNat]
  omega
theorem toInt_nI {a : Nat} (h : a < 2147483648) : (nI a).toInt = (a : Int) := Int32.toInt_ofNat_of_lt h
theorem nn_div {a b : Nat} (ha : a < 2147483648) (hb : b < 2147483648) : nI a / nI b = nI (a / b) := by
  have hq : a / b ≤ a := Nat.div_le_self _ _
  apply Int32.toInt_inj.mp
  rw [Int32.toInt_div, toInt_nI ha, toInt_nI hb, toInt_nI (by omega), Int.tdiv_eq_ediv_of_nonneg (by omega)]
  have e : ((2 ^ 32 : Nat) : Int) = 4294967296 := rfl
  have e2 : (a : Int) / (b : Int) = ((a / b : Nat) : Int) := rfl
  rw [e2]
  generalize a / b = c at hq ⊢
  exact Int.bmod_eq_of_le (by omega) (by omega)
theorem nn_rem {a b : Nat} (ha : a < 2147483648) (hb : b < 2147483648) : nI a - nI a / nI b * nI b = nI (a % b) := by
  rw [nn_div ha hb]
  show nI a - Int32.ofNat (a / b) * Int32.ofNat b = _
  rw [← Int32.ofNat_mul]
  have h1 : a / b * b ≤ a := Nat.div_mul_le_self a b
  have h2 := Nat.div_add_mod a b
  rw [Nat.mul_comm] at h2
  have e : nI a = nI (a % b) + Int32.ofNat (a / b * b) := by
    show Int32.ofNat a = Int32.ofNat (a % b) + Int32.ofNat (a / b * b)
    rw [← Int32.ofNat_add]
    congr 1
    omega
  rw [e, Int32.add_sub_cancel]
theorem ni_ne0 {b : Nat} (h : 1 ≤ b) (hb : b < 2147483648) : ¬ nI b = 0 := fun q => by
  have := congrArg Int32.toInt q
  rw [toInt_nI hb] at this
  have z : (0 : Int32).toInt = 0 := rfl
  omega
theorem c_L_below {x : Int32} {b : Nat} (h1 : 1 ≤ b) (h2 : b ≤ 2000000) : MetI l yL_below cL_below 2 (some .int) 0 Γ sh v w n [.int x, .int (nI b)] (fun r u => r = nI (bel x b) ∧ u = v) := by
  refine w_start pn_L (Nat.le_of_ble_eq_true rfl) fun p e s m args below meth c hx hb hml hret hlk hnm hts hown hK hP hz hE hS ls hl => ?_
  have hd : DM sh n := hP.dm hz
  have hG : GR sh n sh n := GR.rf
  refine lv_iload_n hx hb dL_below_0 rfl (lv_at hl 0 rfl) ?_
  refine lv_ldc hx hb hown (hts _ qL_7) dL_below_1 ?_
  refine lv_iand hx hb dL_below_3 ?_
  refine lv_iload_n hx hb dL_below_4 rfl (lv_at hl 1 rfl) ?_
  refine lv_irem hx hb dL_below_5 (ni_ne0 h1 (by omega)) ?_
  rw [mask_nn, nn_rem (by omega) (by omega)]
  exact w_iret hx hb hret rfl hlk hK hP hS hz hE ⟨rfl, rfl⟩ dL_below_6
/-- the script, and its cells -/
def SCR (Γ : Cx) (sh : Sh) (b L : Nat) (xs : Nat → Int32) : Prop := va_T .int b L (fun j => .int (xs j)) (gF Γ sh) (cx0 Γ) (cx0 Γ).heap ∧ L ≤ 260
theorem SCR.gr {sh0 : Sh} {b L : Nat} {xs : Nat → Int32} (h : SCR Γ sh0 b L xs) (hq : ∀ q, gF Γ sh q → gF Γ sh0 q) : SCR Γ sh b L xs := ⟨h.1.narrow hq, h.2⟩
def cel (L : Nat) (xs : Nat → Int32) (k : Nat) : Int32 := if k < L then xs k else 790386105 * (nI k + 3)
theorem c_L_cell {b0 L q : Nat} {xs : Nat → Int32} (hB : SCR Γ sh b0 L xs) (hq : q ≤ 2000) : MetI l yL_cell cL_cell 2 (some .int) 0 Γ sh v w n [.ref b0, .int (nI q)] (fun r u => r = cel L xs q ∧ u = v) := by
  refine w_start pn_L (Nat.le_of_ble_eq_true rfl) fun p e s m args below meth c hx hb hml hret hlk hnm hts hown hK hP hz hE hS ls hl => ?_
  have hd : DM sh n := hP.dm hz
  have hG : GR sh n sh n := GR.rf
  have hL := hB.2
  refine lv_iload_n hx hb dL_cell_0 rfl (lv_at hl 1 rfl) ?_
  refine lv_aload_n hx hb dL_cell_1 rfl (lv_at hl 0 rfl) ?_
  refine va_tlen hx hb (hE.T hB.1) hS (v := nI L) rfl dL_cell_2 ?_
  refine lv_icmp_ge (tgt := 12) hx hb dL_cell_3 rfl (fun hc3 => ?_) (fun hc3 => ?_)
  · have h9 : ¬ q < L := fun h => by have := (ni_le (i := L) (j := q) (by omega) (by omega)).mp hc3; omega
    refine lv_ldc hx hb hown (hts _ qL_8) dL_cell_12 ?_
    refine lv_iload_n hx hb dL_cell_14 rfl (lv_at hl 1 rfl) ?_
    refine lv_iconst (v := 3) hx hb dL_cell_15 rfl ?_
    refine lv_iadd hx hb dL_cell_16 ?_
    refine lv_imul hx hb dL_cell_17 ?_
    exact w_iret hx hb hret rfl hlk hK hP hS hz hE ⟨(if_neg h9).symm, rfl⟩ dL_cell_18
  · have h9 : q < L := by
      by_cases h : q < L
      · exact h
      · exact absurd ((ni_le (i := L) (j := q) (by omega) (by omega)).mpr (by omega)) hc3
    refine lv_aload_n hx hb dL_cell_6 rfl (lv_at hl 0 rfl) ?_
    refine lv_iload_n hx hb dL_cell_7 rfl (lv_at hl 1 rfl) ?_
    refine va_ti hx hb (hE.T hB.1) hS (vin h9 (by omega)) (v := .int (xs (nI q).toNatClampNeg)) rfl dL_cell_8 ?_
    rw [nI_clamp (by omega)]
    refine lv_goto (tgt := 18) hx hb dL_cell_9 rfl ?_
    exact w_iret hx hb hret rfl hlk hK hP hS hz hE ⟨(if_pos h9).symm, rfl⟩ dL_cell_18
end JE
