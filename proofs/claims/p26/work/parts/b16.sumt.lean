/-! TEXTS of an order -/
section JE
variable {l : Launch} {Γ : Cx} {sh : Sh} {v : Va} {w : Vl} {n : Nat}
def tx35 : List Int32 := [32, 109]
def tx48 : List Int32 := [32, 108]
def tx50 : List Int32 := [32]
def tx52 : List Int32 := [32, 99, 111, 105, 110, 115]
def tx54 : List Int32 := [47, 50, 43]
def tx56 : List Int32 := [32, 119, 101, 105, 103, 104, 116]
def tx58 : List Int32 := [47, 49, 48, 48, 32, 45, 32]
def tx60 : List Int32 := [32, 109, 105, 110, 40, 111, 119, 101, 115]
def tx62 : List Int32 := [44]
def tx64 : List Int32 := [41, 42, 50]
def tx66 : List Int32 := [32, 109, 97, 120, 40, 99, 104, 111, 112]
def tx68 : List Int32 := [41, 45, 100, 97, 121]
def tx70 : List Int32 := [45]
def tx72 : List Int32 := [43, 100, 101, 98, 116, 115]
def tx74 : List Int32 := [32, 97, 103, 101]
def tx76 : List Int32 := [42]
def tx78 : List Int32 := [32, 57, 57, 57, 57, 57, 57, 42, 57, 57, 57, 57, 57, 57]
def tx80 : List Int32 := []
def tx82 : List Int32 := [32, 119, 104, 101, 110, 32, 100, 97, 121, 62]
def tx84 : List Int32 := [47, 52]
def tx86 : List Int32 := [32, 119, 104, 101, 110, 32, 111, 119, 110, 115]
def tx88 : List Int32 := [32, 119, 104, 101, 110, 32, 110, 111, 116, 32, 111, 119, 110, 115]
def tx90 : List Int32 := [32, 111, 114, 32, 99, 111, 105, 110, 115, 32, 109]
def tx92 : List Int32 := [32, 62, 32]
def tx94 : List Int32 := [32, 119, 104, 101, 110, 32, 91, 119, 101, 105, 103, 104, 116]
def tx96 : List Int32 := [62]
def tx98 : List Int32 := [42, 49, 48, 32, 97, 110, 100, 32, 100, 97, 109, 112, 60]
def tx100 : List Int32 := [47, 51, 93, 111, 114, 32, 97, 103, 101, 32, 108]
def tx102 : List Int32 := [60, 61]
def tx104 : List Int32 := [47, 57]
def tx106 : List Int32 := [32, 119, 104, 101, 110, 32, 100, 101, 98, 116, 115]
def tx108 : List Int32 := [32, 119, 104, 101, 110, 32, 100, 97, 121, 47, 50, 42, 50, 61, 100, 97, 121]
def tx110 : List Int32 := [32, 119, 104, 101, 110, 32, 110, 111, 116, 32, 99, 104, 111, 112]
def tx112 : List Int32 := [42, 57]
def tx131 : List Int32 := [115, 112, 105, 99, 101, 32, 115]
def tx133 : List Int32 := [32, 108, 111, 115, 115, 32]
def tx135 : List Int32 := [59]
def tx142 : List Int32 := [103, 117, 105, 108, 100, 32, 103]
def tx144 : List Int32 := [32, 102, 101, 101, 32]
def tx146 : List Int32 := [32, 98, 105, 97, 115, 32]
def tx155 : List Int32 := [109, 101, 114, 99, 104, 97, 110, 116, 32, 109]
def tx157 : List Int32 := [32, 99, 111, 105, 110, 115, 32]
def tx159 : List Int32 := [32, 99, 114, 101, 100, 105, 116, 32]
def tx161 : List Int32 := [32, 59, 10]
def tx166 : List Int32 := [108, 111, 116, 32, 108]
def tx168 : List Int32 := [32, 111, 102, 32, 115]
def tx170 : List Int32 := [32, 115, 97, 99, 107, 115, 32]
def tx172 : List Int32 := [32, 102, 111, 114, 32, 109]
def tx182 : List Int32 := [119, 101, 105, 103, 104, 32, 108]
def tx184 : List Int32 := [32, 98, 121, 32, 103]
def tx186 : List Int32 := [115, 101, 108, 108, 32, 108]
def tx188 : List Int32 := [32, 116, 111, 32, 109]
def tx190 : List Int32 := [32, 115, 117, 109]
def tx196 : List Int32 := [112, 97, 121, 32, 109]
def tx201 : List Int32 := [59, 10]
def sumT (f n4 a9 b9 l9 : Nat) : List Int32 := match f with
  | 0 => (([] ++ tx50) ++ decL n4)
  | 1 => (((([] ++ tx52) ++ (([] ++ tx35) ++ decL a9)) ++ tx54) ++ decL n4)
  | 2 => (((([] ++ tx56) ++ (([] ++ tx48) ++ decL l9)) ++ tx58) ++ decL n4)
  | 3 => ((((((([] ++ tx60) ++ (([] ++ tx35) ++ decL a9)) ++ tx35) ++ decL b9) ++ tx62) ++ decL n4) ++ tx64)
  | 4 => ((((([] ++ tx66) ++ (([] ++ tx48) ++ decL l9)) ++ tx62) ++ decL n4) ++ tx68)
  | 5 => (((([] ++ tx70) ++ decL n4) ++ tx72) ++ (([] ++ tx35) ++ decL a9))
  | 6 => (((([] ++ tx74) ++ (([] ++ tx48) ++ decL l9)) ++ tx76) ++ decL n4)
  | _ => tx78
theorem c_L_sum {k d1 d2 f n4 g n6 a9 b9 l9 o9 : Nat} (hk : sh k = some (sA 12)) (hn4 : n4 ≤ 999) (hn6 : n6 ≤ 999) (ha9 : a9 ≤ 9) (hb9 : b9 ≤ 9) (hl9 : l9 ≤ 9) (ho9 : o9 ≤ 9) (hv4 : v k 4 = nI n4) (hv6 : v k 6 = nI n6) (hv7 : v k 7 = nI a9) (hv8 : v k 8 = nI b9) (hv9 : v k 9 = nI l9) (hv10 : v k 10 = nI o9) (hf : f ≤ 7) (hv3 : v k 3 = nI f) (hC : EC Γ sh d1 d2) (hL : EL Γ sh) (hnb : n ≤ 900000) : MetTA l yL_sum cL_sum 4 (some (FieldType.object "java/lang/String")) 7 60 100000 Γ sh v w n [.ref (Γ.2.1 + k)] (fun r u => TXP Γ sh v n 60 (sumT f n4 a9 b9 l9) 40 r u) := by
  refine w_start pn_L (Nat.le_of_ble_eq_true rfl) fun p e s m args below meth c hx hb hml hret hlk hnm hts hown hK hP hz hE hS ls hl => ?_
  have hd : DM sh n := hP.dm hz
  have hG : GR sh n sh n := GR.rf
  have hM : MC Γ p s m args c cL_sum 4 d1 d2 sh n := ⟨hx, hb, hml, hts, hown, hK, hE, hd, hC, hL⟩
  have hWc : WC Γ s sh n w sh v n s.heap [] := ⟨hG, hz, hP, hS⟩
  have hX : SX Γ sh v n 0 [] sh v n := ⟨fun _ _ => rfl, Nat.le_refl _, fun t ht => absurd ht List.not_mem_nil, GR.rf⟩
  have hkb : k < n := hd _ _ hk
  skip
  refine lv_aload_n hx hb dL_sum_0 rfl (lv_at hl 0 rfl) ?_
  refine lv_iconst (v := 4) hx hb dL_sum_1 rfl ?_
  refine s_el (k := k) hM hWc hX hk hkb (j := 4) rfl (vin (i := 4) (by decide) (by decide)) hv4 dL_sum_2 ?_
  refine lv_istore_n (lv' := [(1, .int (nI n4)), (0, .ref (Γ.2.1 + k))]) hx hb dL_sum_3 rfl hl (by decide) rfl fun ls hl => ?_
  refine s_sb hM hWc hX hl.1 (by omega) ⟨Nat.le_of_ble_eq_true rfl, Nat.le_of_ble_eq_true rfl⟩ (Nat.le_of_ble_eq_true rfl) ⟨by show 2 ≤ _; decide, by show 20 ≤ _; decide⟩ dL_sum_4 dL_sum_7 dL_sum_8 fun sh1 v1 n1 k1 H1 locs1 hWc hX hB => ?_
  refine s_lit (i := 0) (B := tx35) (M := 2) hM hWc rfl (by decide) dL_sum_11 fun ad35 hT35 => ?_
  refine s_apS hM hWc hX hl.1 (B := tx35) (M := 2) hT35 hB (by decide) (by omega) ⟨Nat.le_of_ble_eq_true rfl, Nat.le_of_ble_eq_true rfl⟩ (Nat.le_of_ble_eq_true rfl) ⟨by show 3 ≤ _; decide, by show 6020 ≤ _; decide⟩ dL_sum_13 fun sh1 v1 n1 H1 locs1 hWc hX hB => ?_
  refine lv_aload_n hx hb dL_sum_16 rfl (lv_at hl 1 rfl) ?_
  refine lv_bipush (v := 7) hx hb dL_sum_17 rfl ?_
  refine s_el (k := k) hM hWc hX hk hkb (j := 7) rfl (vin (i := 7) (by decide) (by decide)) hv7 dL_sum_19 ?_
  refine s_apI hM hWc hX hl.1 (z0 := a9) (by omega) hB (by decide) (by omega) ⟨Nat.le_of_ble_eq_true rfl, Nat.le_of_ble_eq_true rfl⟩ (Nat.le_of_ble_eq_true rfl) ⟨by show 4 ≤ _; decide, by show 12020 ≤ _; decide⟩ dL_sum_20 fun sh1 v1 n1 H1 locs1 hWc hX hB => ?_
  refine s_toS hM hWc hX hl.1 hB (by decide) (by omega) ⟨Nat.le_of_ble_eq_true rfl, Nat.le_of_ble_eq_true rfl⟩ (Nat.le_of_ble_eq_true rfl) ⟨by show 6 ≤ _; decide, by show 14620 ≤ _; decide⟩ dL_sum_23 fun sh1 v1 n1 t2 H1 locs1 hWc hX => ?_
  refine lv_astore_n (lv' := [(2, .ref t2), (1, .int (nI n4)), (0, .ref (Γ.2.1 + k))]) hx hb dL_sum_26 rfl hl (by decide) rfl fun ls hl => ?_
  refine s_sb hM hWc hX hl.1 (by omega) ⟨Nat.le_of_ble_eq_true rfl, Nat.le_of_ble_eq_true rfl⟩ (Nat.le_of_ble_eq_true rfl) ⟨by show 8 ≤ _; decide, by show 14640 ≤ _; decide⟩ dL_sum_27 dL_sum_30 dL_sum_31 fun sh1 v1 n1 k3 H1 locs1 hWc hX hB => ?_
  refine s_lit (i := 1) (B := tx48) (M := 2) hM hWc rfl (by decide) dL_sum_34 fun ad48 hT48 => ?_
  refine s_apS hM hWc hX hl.1 (B := tx48) (M := 2) hT48 hB (by decide) (by omega) ⟨Nat.le_of_ble_eq_true rfl, Nat.le_of_ble_eq_true rfl⟩ (Nat.le_of_ble_eq_true rfl) ⟨by show 9 ≤ _; decide, by show 20640 ≤ _; decide⟩ dL_sum_36 fun sh1 v1 n1 H1 locs1 hWc hX hB => ?_
  refine lv_aload_n hx hb dL_sum_39 rfl (lv_at hl 2 rfl) ?_
  refine lv_bipush (v := 9) hx hb dL_sum_40 rfl ?_
  refine s_el (k := k) hM hWc hX hk hkb (j := 9) rfl (vin (i := 9) (by decide) (by decide)) hv9 dL_sum_42 ?_
  refine s_apI hM hWc hX hl.1 (z0 := l9) (by omega) hB (by decide) (by omega) ⟨Nat.le_of_ble_eq_true rfl, Nat.le_of_ble_eq_true rfl⟩ (Nat.le_of_ble_eq_true rfl) ⟨by show 10 ≤ _; decide, by show 26640 ≤ _; decide⟩ dL_sum_43 fun sh1 v1 n1 H1 locs1 hWc hX hB => ?_
  refine s_toS hM hWc hX hl.1 hB (by decide) (by omega) ⟨Nat.le_of_ble_eq_true rfl, Nat.le_of_ble_eq_true rfl⟩ (Nat.le_of_ble_eq_true rfl) ⟨by show 12 ≤ _; decide, by show 29240 ≤ _; decide⟩ dL_sum_46 fun sh1 v1 n1 t4 H1 locs1 hWc hX => ?_
  refine lv_astore_n (lv' := [(3, .ref t4), (2, .ref t2), (1, .int (nI n4)), (0, .ref (Γ.2.1 + k))]) hx hb dL_sum_49 rfl hl (by decide) rfl fun ls hl => ?_
  refine lv_aload_n hx hb dL_sum_50 rfl (lv_at hl 3 rfl) ?_
  refine lv_iconst (v := 3) hx hb dL_sum_51 rfl ?_
  refine s_el (k := k) hM hWc hX hk hkb (j := 3) rfl (vin (i := 3) (by decide) (by decide)) rfl dL_sum_52 ?_
  have hcase : (f = 0 ∧ v k 3 = 0) ∨ (f = 1 ∧ v k 3 = 1) ∨ (f = 2 ∧ v k 3 = 2) ∨ (f = 3 ∧ v k 3 = 3) ∨ (f = 4 ∧ v k 3 = 4) ∨ (f = 5 ∧ v k 3 = 5) ∨ (f = 6 ∧ v k 3 = 6) ∨ (f = 7 ∧ v k 3 = 7) := by
    have h8 : f = 0 ∨ f = 1 ∨ f = 2 ∨ f = 3 ∨ f = 4 ∨ f = 5 ∨ f = 6 ∨ f = 7 := by omega
    rcases h8 with h8 | h8 | h8 | h8 | h8 | h8 | h8 | h8
    · exact Or.inl ⟨h8, by rw [hv3, h8]; decide⟩
    · exact Or.inr (Or.inl ⟨h8, by rw [hv3, h8]; decide⟩)
    · exact Or.inr (Or.inr (Or.inl ⟨h8, by rw [hv3, h8]; decide⟩))
    · exact Or.inr (Or.inr (Or.inr (Or.inl ⟨h8, by rw [hv3, h8]; decide⟩)))
    · exact Or.inr (Or.inr (Or.inr (Or.inr (Or.inl ⟨h8, by rw [hv3, h8]; decide⟩))))
    · exact Or.inr (Or.inr (Or.inr (Or.inr (Or.inr (Or.inl ⟨h8, by rw [hv3, h8]; decide⟩)))))
    · exact Or.inr (Or.inr (Or.inr (Or.inr (Or.inr (Or.inr (Or.inl ⟨h8, by rw [hv3, h8]; decide⟩))))))
    · exact Or.inr (Or.inr (Or.inr (Or.inr (Or.inr (Or.inr (Or.inr (⟨h8, by rw [hv3, h8]; decide⟩)))))))
  rcases hcase with ⟨hj, hc⟩ | ⟨hj, hc⟩ | ⟨hj, hc⟩ | ⟨hj, hc⟩ | ⟨hj, hc⟩ | ⟨hj, hc⟩ | ⟨hj, hc⟩ | ⟨hj, hc⟩
  · have e9 : sumT f n4 a9 b9 l9 = (([] ++ tx50) ++ decL n4) := by rw [hj]; rfl
    refine z_tI (y := 0) (tgt := 96) hx hb dL_sum_53 hc (by decide) (by decide) rfl rfl ?_
    refine s_sb hM hWc hX hl.1 (by omega) ⟨Nat.le_of_ble_eq_true rfl, Nat.le_of_ble_eq_true rfl⟩ (Nat.le_of_ble_eq_true rfl) ⟨by show 14 ≤ _; decide, by show 29260 ≤ _; decide⟩ dL_sum_96 dL_sum_99 dL_sum_100 fun sh1 v1 n1 k5 H1 locs1 hWc hX hB => ?_
    refine s_lit (i := 2) (B := tx50) (M := 1) hM hWc rfl (by decide) dL_sum_103 fun ad50 hT50 => ?_
    refine s_apS hM hWc hX hl.1 (B := tx50) (M := 1) hT50 hB (by decide) (by omega) ⟨Nat.le_of_ble_eq_true rfl, Nat.le_of_ble_eq_true rfl⟩ (Nat.le_of_ble_eq_true rfl) ⟨by show 15 ≤ _; decide, by show 35260 ≤ _; decide⟩ dL_sum_105 fun sh1 v1 n1 H1 locs1 hWc hX hB => ?_
    refine lv_iload_n hx hb dL_sum_108 rfl (lv_at hl 2 rfl) ?_
    refine s_apI hM hWc hX hl.1 (z0 := n4) (by omega) hB (by decide) (by omega) ⟨Nat.le_of_ble_eq_true rfl, Nat.le_of_ble_eq_true rfl⟩ (Nat.le_of_ble_eq_true rfl) ⟨by show 16 ≤ _; decide, by show 41260 ≤ _; decide⟩ dL_sum_109 fun sh1 v1 n1 H1 locs1 hWc hX hB => ?_
    refine s_toS hM hWc hX hl.1 hB (by decide) (by omega) ⟨Nat.le_of_ble_eq_true rfl, Nat.le_of_ble_eq_true rfl⟩ (Nat.le_of_ble_eq_true rfl) ⟨by show 18 ≤ _; decide, by show 43860 ≤ _; decide⟩ dL_sum_112 fun sh1 v1 n1 t6 H1 locs1 hWc hX => ?_
    have hT9 := hX.2.2.1 _ (List.mem_of_getElem? (i := 0) rfl)
    refine W.widen (k := 60) (n := 100000) (by decide) (by decide) ?_
    exact t_rretA (post := fun r u => TXP Γ sh v n 60 (sumT f n4 a9 b9 l9) 40 r u) hx hb hret (Or.inl ⟨_, rfl⟩) hlk hK hWc.2.2.1 hWc.2.2.2 hWc.2.1 hE hd hWc.1 ⟨hWc.1, hX.1, by have := hX.2.1; show n1 ≤ n + 60; omega, by rw [e9]; exact hT9.1, by rw [e9]; exact Nat.le_trans hT9.2 (Nat.le_of_ble_eq_true rfl)⟩ dL_sum_115
  · have e9 : sumT f n4 a9 b9 l9 = (((([] ++ tx52) ++ (([] ++ tx35) ++ decL a9)) ++ tx54) ++ decL n4) := by rw [hj]; rfl
    refine z_tI (y := 1) (tgt := 116) hx hb dL_sum_53 hc (by decide) (by decide) rfl rfl ?_
    refine s_sb hM hWc hX hl.1 (by omega) ⟨Nat.le_of_ble_eq_true rfl, Nat.le_of_ble_eq_true rfl⟩ (Nat.le_of_ble_eq_true rfl) ⟨by show 14 ≤ _; decide, by show 29260 ≤ _; decide⟩ dL_sum_116 dL_sum_119 dL_sum_120 fun sh1 v1 n1 k5 H1 locs1 hWc hX hB => ?_
    refine s_lit (i := 3) (B := tx52) (M := 6) hM hWc rfl (by decide) dL_sum_123 fun ad52 hT52 => ?_
    refine s_apS hM hWc hX hl.1 (B := tx52) (M := 6) hT52 hB (by decide) (by omega) ⟨Nat.le_of_ble_eq_true rfl, Nat.le_of_ble_eq_true rfl⟩ (Nat.le_of_ble_eq_true rfl) ⟨by show 15 ≤ _; decide, by show 35260 ≤ _; decide⟩ dL_sum_125 fun sh1 v1 n1 H1 locs1 hWc hX hB => ?_
    refine lv_aload_n hx hb dL_sum_128 rfl (lv_at hl 1 rfl) ?_
    refine s_apS hM hWc hX hl.1 (B := (([] ++ tx35) ++ decL a9)) (M := 6) (hX.2.2.1 _ (List.mem_of_getElem? (i := 1) rfl)) hB (by decide) (by omega) ⟨Nat.le_of_ble_eq_true rfl, Nat.le_of_ble_eq_true rfl⟩ (Nat.le_of_ble_eq_true rfl) ⟨by show 16 ≤ _; decide, by show 41260 ≤ _; decide⟩ dL_sum_129 fun sh1 v1 n1 H1 locs1 hWc hX hB => ?_
    refine s_lit (i := 4) (B := tx54) (M := 3) hM hWc rfl (by decide) dL_sum_132 fun ad54 hT54 => ?_
    refine s_apS hM hWc hX hl.1 (B := tx54) (M := 3) hT54 hB (by decide) (by omega) ⟨Nat.le_of_ble_eq_true rfl, Nat.le_of_ble_eq_true rfl⟩ (Nat.le_of_ble_eq_true rfl) ⟨by show 17 ≤ _; decide, by show 47260 ≤ _; decide⟩ dL_sum_134 fun sh1 v1 n1 H1 locs1 hWc hX hB => ?_
    refine lv_iload_n hx hb dL_sum_137 rfl (lv_at hl 2 rfl) ?_
    refine s_apI hM hWc hX hl.1 (z0 := n4) (by omega) hB (by decide) (by omega) ⟨Nat.le_of_ble_eq_true rfl, Nat.le_of_ble_eq_true rfl⟩ (Nat.le_of_ble_eq_true rfl) ⟨by show 18 ≤ _; decide, by show 53260 ≤ _; decide⟩ dL_sum_138 fun sh1 v1 n1 H1 locs1 hWc hX hB => ?_
    refine s_toS hM hWc hX hl.1 hB (by decide) (by omega) ⟨Nat.le_of_ble_eq_true rfl, Nat.le_of_ble_eq_true rfl⟩ (Nat.le_of_ble_eq_true rfl) ⟨by show 20 ≤ _; decide, by show 55860 ≤ _; decide⟩ dL_sum_141 fun sh1 v1 n1 t6 H1 locs1 hWc hX => ?_
    have hT9 := hX.2.2.1 _ (List.mem_of_getElem? (i := 0) rfl)
    refine W.widen (k := 60) (n := 100000) (by decide) (by decide) ?_
    exact t_rretA (post := fun r u => TXP Γ sh v n 60 (sumT f n4 a9 b9 l9) 40 r u) hx hb hret (Or.inl ⟨_, rfl⟩) hlk hK hWc.2.2.1 hWc.2.2.2 hWc.2.1 hE hd hWc.1 ⟨hWc.1, hX.1, by have := hX.2.1; show n1 ≤ n + 60; omega, by rw [e9]; exact hT9.1, by rw [e9]; exact Nat.le_trans hT9.2 (Nat.le_of_ble_eq_true rfl)⟩ dL_sum_144
  · have e9 : sumT f n4 a9 b9 l9 = (((([] ++ tx56) ++ (([] ++ tx48) ++ decL l9)) ++ tx58) ++ decL n4) := by rw [hj]; rfl
    refine z_tI (y := 2) (tgt := 145) hx hb dL_sum_53 hc (by decide) (by decide) rfl rfl ?_
    refine s_sb hM hWc hX hl.1 (by omega) ⟨Nat.le_of_ble_eq_true rfl, Nat.le_of_ble_eq_true rfl⟩ (Nat.le_of_ble_eq_true rfl) ⟨by show 14 ≤ _; decide, by show 29260 ≤ _; decide⟩ dL_sum_145 dL_sum_148 dL_sum_149 fun sh1 v1 n1 k5 H1 locs1 hWc hX hB => ?_
    refine s_lit (i := 5) (B := tx56) (M := 7) hM hWc rfl (by decide) dL_sum_152 fun ad56 hT56 => ?_
    refine s_apS hM hWc hX hl.1 (B := tx56) (M := 7) hT56 hB (by decide) (by omega) ⟨Nat.le_of_ble_eq_true rfl, Nat.le_of_ble_eq_true rfl⟩ (Nat.le_of_ble_eq_true rfl) ⟨by show 15 ≤ _; decide, by show 35260 ≤ _; decide⟩ dL_sum_154 fun sh1 v1 n1 H1 locs1 hWc hX hB => ?_
    refine lv_aload_n hx hb dL_sum_157 rfl (lv_at hl 0 rfl) ?_
    refine s_apS hM hWc hX hl.1 (B := (([] ++ tx48) ++ decL l9)) (M := 6) (hX.2.2.1 _ (List.mem_of_getElem? (i := 0) rfl)) hB (by decide) (by omega) ⟨Nat.le_of_ble_eq_true rfl, Nat.le_of_ble_eq_true rfl⟩ (Nat.le_of_ble_eq_true rfl) ⟨by show 16 ≤ _; decide, by show 41260 ≤ _; decide⟩ dL_sum_158 fun sh1 v1 n1 H1 locs1 hWc hX hB => ?_
    refine s_lit (i := 6) (B := tx58) (M := 7) hM hWc rfl (by decide) dL_sum_161 fun ad58 hT58 => ?_
    refine s_apS hM hWc hX hl.1 (B := tx58) (M := 7) hT58 hB (by decide) (by omega) ⟨Nat.le_of_ble_eq_true rfl, Nat.le_of_ble_eq_true rfl⟩ (Nat.le_of_ble_eq_true rfl) ⟨by show 17 ≤ _; decide, by show 47260 ≤ _; decide⟩ dL_sum_163 fun sh1 v1 n1 H1 locs1 hWc hX hB => ?_
    refine lv_iload_n hx hb dL_sum_166 rfl (lv_at hl 2 rfl) ?_
    refine s_apI hM hWc hX hl.1 (z0 := n4) (by omega) hB (by decide) (by omega) ⟨Nat.le_of_ble_eq_true rfl, Nat.le_of_ble_eq_true rfl⟩ (Nat.le_of_ble_eq_true rfl) ⟨by show 18 ≤ _; decide, by show 53260 ≤ _; decide⟩ dL_sum_167 fun sh1 v1 n1 H1 locs1 hWc hX hB => ?_
    refine s_toS hM hWc hX hl.1 hB (by decide) (by omega) ⟨Nat.le_of_ble_eq_true rfl, Nat.le_of_ble_eq_true rfl⟩ (Nat.le_of_ble_eq_true rfl) ⟨by show 20 ≤ _; decide, by show 55860 ≤ _; decide⟩ dL_sum_170 fun sh1 v1 n1 t6 H1 locs1 hWc hX => ?_
    have hT9 := hX.2.2.1 _ (List.mem_of_getElem? (i := 0) rfl)
    refine W.widen (k := 60) (n := 100000) (by decide) (by decide) ?_
    exact t_rretA (post := fun r u => TXP Γ sh v n 60 (sumT f n4 a9 b9 l9) 40 r u) hx hb hret (Or.inl ⟨_, rfl⟩) hlk hK hWc.2.2.1 hWc.2.2.2 hWc.2.1 hE hd hWc.1 ⟨hWc.1, hX.1, by have := hX.2.1; show n1 ≤ n + 60; omega, by rw [e9]; exact hT9.1, by rw [e9]; exact Nat.le_trans hT9.2 (Nat.le_of_ble_eq_true rfl)⟩ dL_sum_173
  · have e9 : sumT f n4 a9 b9 l9 = ((((((([] ++ tx60) ++ (([] ++ tx35) ++ decL a9)) ++ tx35) ++ decL b9) ++ tx62) ++ decL n4) ++ tx64) := by rw [hj]; rfl
    refine z_tI (y := 3) (tgt := 174) hx hb dL_sum_53 hc (by decide) (by decide) rfl rfl ?_
    refine s_sb hM hWc hX hl.1 (by omega) ⟨Nat.le_of_ble_eq_true rfl, Nat.le_of_ble_eq_true rfl⟩ (Nat.le_of_ble_eq_true rfl) ⟨by show 14 ≤ _; decide, by show 29260 ≤ _; decide⟩ dL_sum_174 dL_sum_177 dL_sum_178 fun sh1 v1 n1 k5 H1 locs1 hWc hX hB => ?_
    refine s_lit (i := 7) (B := tx60) (M := 9) hM hWc rfl (by decide) dL_sum_181 fun ad60 hT60 => ?_
    refine s_apS hM hWc hX hl.1 (B := tx60) (M := 9) hT60 hB (by decide) (by omega) ⟨Nat.le_of_ble_eq_true rfl, Nat.le_of_ble_eq_true rfl⟩ (Nat.le_of_ble_eq_true rfl) ⟨by show 15 ≤ _; decide, by show 35260 ≤ _; decide⟩ dL_sum_183 fun sh1 v1 n1 H1 locs1 hWc hX hB => ?_
    refine lv_aload_n hx hb dL_sum_186 rfl (lv_at hl 1 rfl) ?_
    refine s_apS hM hWc hX hl.1 (B := (([] ++ tx35) ++ decL a9)) (M := 6) (hX.2.2.1 _ (List.mem_of_getElem? (i := 1) rfl)) hB (by decide) (by omega) ⟨Nat.le_of_ble_eq_true rfl, Nat.le_of_ble_eq_true rfl⟩ (Nat.le_of_ble_eq_true rfl) ⟨by show 16 ≤ _; decide, by show 41260 ≤ _; decide⟩ dL_sum_187 fun sh1 v1 n1 H1 locs1 hWc hX hB => ?_
    refine s_lit (i := 0) (B := tx35) (M := 2) hM hWc rfl (by decide) dL_sum_190 fun ad35 hT35 => ?_
    refine s_apS hM hWc hX hl.1 (B := tx35) (M := 2) hT35 hB (by decide) (by omega) ⟨Nat.le_of_ble_eq_true rfl, Nat.le_of_ble_eq_true rfl⟩ (Nat.le_of_ble_eq_true rfl) ⟨by show 17 ≤ _; decide, by show 47260 ≤ _; decide⟩ dL_sum_192 fun sh1 v1 n1 H1 locs1 hWc hX hB => ?_
    refine lv_aload_n hx hb dL_sum_195 rfl (lv_at hl 3 rfl) ?_
    refine lv_bipush (v := 8) hx hb dL_sum_196 rfl ?_
    refine s_el (k := k) hM hWc hX hk hkb (j := 8) rfl (vin (i := 8) (by decide) (by decide)) hv8 dL_sum_198 ?_
    refine s_apI hM hWc hX hl.1 (z0 := b9) (by omega) hB (by decide) (by omega) ⟨Nat.le_of_ble_eq_true rfl, Nat.le_of_ble_eq_true rfl⟩ (Nat.le_of_ble_eq_true rfl) ⟨by show 18 ≤ _; decide, by show 53260 ≤ _; decide⟩ dL_sum_199 fun sh1 v1 n1 H1 locs1 hWc hX hB => ?_
    refine s_lit (i := 8) (B := tx62) (M := 1) hM hWc rfl (by decide) dL_sum_202 fun ad62 hT62 => ?_
    refine s_apS hM hWc hX hl.1 (B := tx62) (M := 1) hT62 hB (by decide) (by omega) ⟨Nat.le_of_ble_eq_true rfl, Nat.le_of_ble_eq_true rfl⟩ (Nat.le_of_ble_eq_true rfl) ⟨by show 19 ≤ _; decide, by show 59260 ≤ _; decide⟩ dL_sum_204 fun sh1 v1 n1 H1 locs1 hWc hX hB => ?_
    refine lv_iload_n hx hb dL_sum_207 rfl (lv_at hl 2 rfl) ?_
    refine s_apI hM hWc hX hl.1 (z0 := n4) (by omega) hB (by decide) (by omega) ⟨Nat.le_of_ble_eq_true rfl, Nat.le_of_ble_eq_true rfl⟩ (Nat.le_of_ble_eq_true rfl) ⟨by show 20 ≤ _; decide, by show 65260 ≤ _; decide⟩ dL_sum_208 fun sh1 v1 n1 H1 locs1 hWc hX hB => ?_
    refine s_lit (i := 9) (B := tx64) (M := 3) hM hWc rfl (by decide) dL_sum_211 fun ad64 hT64 => ?_
    refine s_apS hM hWc hX hl.1 (B := tx64) (M := 3) hT64 hB (by decide) (by omega) ⟨Nat.le_of_ble_eq_true rfl, Nat.le_of_ble_eq_true rfl⟩ (Nat.le_of_ble_eq_true rfl) ⟨by show 21 ≤ _; decide, by show 71260 ≤ _; decide⟩ dL_sum_213 fun sh1 v1 n1 H1 locs1 hWc hX hB => ?_
    refine s_toS hM hWc hX hl.1 hB (by decide) (by omega) ⟨Nat.le_of_ble_eq_true rfl, Nat.le_of_ble_eq_true rfl⟩ (Nat.le_of_ble_eq_true rfl) ⟨by show 23 ≤ _; decide, by show 73860 ≤ _; decide⟩ dL_sum_216 fun sh1 v1 n1 t6 H1 locs1 hWc hX => ?_
    have hT9 := hX.2.2.1 _ (List.mem_of_getElem? (i := 0) rfl)
    refine W.widen (k := 60) (n := 100000) (by decide) (by decide) ?_
    exact t_rretA (post := fun r u => TXP Γ sh v n 60 (sumT f n4 a9 b9 l9) 40 r u) hx hb hret (Or.inl ⟨_, rfl⟩) hlk hK hWc.2.2.1 hWc.2.2.2 hWc.2.1 hE hd hWc.1 ⟨hWc.1, hX.1, by have := hX.2.1; show n1 ≤ n + 60; omega, by rw [e9]; exact hT9.1, by rw [e9]; exact Nat.le_trans hT9.2 (Nat.le_of_ble_eq_true rfl)⟩ dL_sum_219
  · have e9 : sumT f n4 a9 b9 l9 = ((((([] ++ tx66) ++ (([] ++ tx48) ++ decL l9)) ++ tx62) ++ decL n4) ++ tx68) := by rw [hj]; rfl
    refine z_tI (y := 4) (tgt := 220) hx hb dL_sum_53 hc (by decide) (by decide) rfl rfl ?_
    refine s_sb hM hWc hX hl.1 (by omega) ⟨Nat.le_of_ble_eq_true rfl, Nat.le_of_ble_eq_true rfl⟩ (Nat.le_of_ble_eq_true rfl) ⟨by show 14 ≤ _; decide, by show 29260 ≤ _; decide⟩ dL_sum_220 dL_sum_223 dL_sum_224 fun sh1 v1 n1 k5 H1 locs1 hWc hX hB => ?_
    refine s_lit (i := 10) (B := tx66) (M := 9) hM hWc rfl (by decide) dL_sum_227 fun ad66 hT66 => ?_
    refine s_apS hM hWc hX hl.1 (B := tx66) (M := 9) hT66 hB (by decide) (by omega) ⟨Nat.le_of_ble_eq_true rfl, Nat.le_of_ble_eq_true rfl⟩ (Nat.le_of_ble_eq_true rfl) ⟨by show 15 ≤ _; decide, by show 35260 ≤ _; decide⟩ dL_sum_229 fun sh1 v1 n1 H1 locs1 hWc hX hB => ?_
    refine lv_aload_n hx hb dL_sum_232 rfl (lv_at hl 0 rfl) ?_
    refine s_apS hM hWc hX hl.1 (B := (([] ++ tx48) ++ decL l9)) (M := 6) (hX.2.2.1 _ (List.mem_of_getElem? (i := 0) rfl)) hB (by decide) (by omega) ⟨Nat.le_of_ble_eq_true rfl, Nat.le_of_ble_eq_true rfl⟩ (Nat.le_of_ble_eq_true rfl) ⟨by show 16 ≤ _; decide, by show 41260 ≤ _; decide⟩ dL_sum_233 fun sh1 v1 n1 H1 locs1 hWc hX hB => ?_
    refine s_lit (i := 8) (B := tx62) (M := 1) hM hWc rfl (by decide) dL_sum_236 fun ad62 hT62 => ?_
    refine s_apS hM hWc hX hl.1 (B := tx62) (M := 1) hT62 hB (by decide) (by omega) ⟨Nat.le_of_ble_eq_true rfl, Nat.le_of_ble_eq_true rfl⟩ (Nat.le_of_ble_eq_true rfl) ⟨by show 17 ≤ _; decide, by show 47260 ≤ _; decide⟩ dL_sum_238 fun sh1 v1 n1 H1 locs1 hWc hX hB => ?_
    refine lv_iload_n hx hb dL_sum_241 rfl (lv_at hl 2 rfl) ?_
    refine s_apI hM hWc hX hl.1 (z0 := n4) (by omega) hB (by decide) (by omega) ⟨Nat.le_of_ble_eq_true rfl, Nat.le_of_ble_eq_true rfl⟩ (Nat.le_of_ble_eq_true rfl) ⟨by show 18 ≤ _; decide, by show 53260 ≤ _; decide⟩ dL_sum_242 fun sh1 v1 n1 H1 locs1 hWc hX hB => ?_
    refine s_lit (i := 11) (B := tx68) (M := 5) hM hWc rfl (by decide) dL_sum_245 fun ad68 hT68 => ?_
    refine s_apS hM hWc hX hl.1 (B := tx68) (M := 5) hT68 hB (by decide) (by omega) ⟨Nat.le_of_ble_eq_true rfl, Nat.le_of_ble_eq_true rfl⟩ (Nat.le_of_ble_eq_true rfl) ⟨by show 19 ≤ _; decide, by show 59260 ≤ _; decide⟩ dL_sum_247 fun sh1 v1 n1 H1 locs1 hWc hX hB => ?_
    refine s_toS hM hWc hX hl.1 hB (by decide) (by omega) ⟨Nat.le_of_ble_eq_true rfl, Nat.le_of_ble_eq_true rfl⟩ (Nat.le_of_ble_eq_true rfl) ⟨by show 21 ≤ _; decide, by show 61860 ≤ _; decide⟩ dL_sum_250 fun sh1 v1 n1 t6 H1 locs1 hWc hX => ?_
    have hT9 := hX.2.2.1 _ (List.mem_of_getElem? (i := 0) rfl)
    refine W.widen (k := 60) (n := 100000) (by decide) (by decide) ?_
    exact t_rretA (post := fun r u => TXP Γ sh v n 60 (sumT f n4 a9 b9 l9) 40 r u) hx hb hret (Or.inl ⟨_, rfl⟩) hlk hK hWc.2.2.1 hWc.2.2.2 hWc.2.1 hE hd hWc.1 ⟨hWc.1, hX.1, by have := hX.2.1; show n1 ≤ n + 60; omega, by rw [e9]; exact hT9.1, by rw [e9]; exact Nat.le_trans hT9.2 (Nat.le_of_ble_eq_true rfl)⟩ dL_sum_253
  · have e9 : sumT f n4 a9 b9 l9 = (((([] ++ tx70) ++ decL n4) ++ tx72) ++ (([] ++ tx35) ++ decL a9)) := by rw [hj]; rfl
    refine z_tI (y := 5) (tgt := 254) hx hb dL_sum_53 hc (by decide) (by decide) rfl rfl ?_
    refine s_sb hM hWc hX hl.1 (by omega) ⟨Nat.le_of_ble_eq_true rfl, Nat.le_of_ble_eq_true rfl⟩ (Nat.le_of_ble_eq_true rfl) ⟨by show 14 ≤ _; decide, by show 29260 ≤ _; decide⟩ dL_sum_254 dL_sum_257 dL_sum_258 fun sh1 v1 n1 k5 H1 locs1 hWc hX hB => ?_
    refine s_lit (i := 12) (B := tx70) (M := 1) hM hWc rfl (by decide) dL_sum_261 fun ad70 hT70 => ?_
    refine s_apS hM hWc hX hl.1 (B := tx70) (M := 1) hT70 hB (by decide) (by omega) ⟨Nat.le_of_ble_eq_true rfl, Nat.le_of_ble_eq_true rfl⟩ (Nat.le_of_ble_eq_true rfl) ⟨by show 15 ≤ _; decide, by show 35260 ≤ _; decide⟩ dL_sum_263 fun sh1 v1 n1 H1 locs1 hWc hX hB => ?_
    refine lv_iload_n hx hb dL_sum_266 rfl (lv_at hl 2 rfl) ?_
    refine s_apI hM hWc hX hl.1 (z0 := n4) (by omega) hB (by decide) (by omega) ⟨Nat.le_of_ble_eq_true rfl, Nat.le_of_ble_eq_true rfl⟩ (Nat.le_of_ble_eq_true rfl) ⟨by show 16 ≤ _; decide, by show 41260 ≤ _; decide⟩ dL_sum_267 fun sh1 v1 n1 H1 locs1 hWc hX hB => ?_
    refine s_lit (i := 13) (B := tx72) (M := 6) hM hWc rfl (by decide) dL_sum_270 fun ad72 hT72 => ?_
    refine s_apS hM hWc hX hl.1 (B := tx72) (M := 6) hT72 hB (by decide) (by omega) ⟨Nat.le_of_ble_eq_true rfl, Nat.le_of_ble_eq_true rfl⟩ (Nat.le_of_ble_eq_true rfl) ⟨by show 17 ≤ _; decide, by show 47260 ≤ _; decide⟩ dL_sum_272 fun sh1 v1 n1 H1 locs1 hWc hX hB => ?_
    refine lv_aload_n hx hb dL_sum_275 rfl (lv_at hl 1 rfl) ?_
    refine s_apS hM hWc hX hl.1 (B := (([] ++ tx35) ++ decL a9)) (M := 6) (hX.2.2.1 _ (List.mem_of_getElem? (i := 1) rfl)) hB (by decide) (by omega) ⟨Nat.le_of_ble_eq_true rfl, Nat.le_of_ble_eq_true rfl⟩ (Nat.le_of_ble_eq_true rfl) ⟨by show 18 ≤ _; decide, by show 53260 ≤ _; decide⟩ dL_sum_276 fun sh1 v1 n1 H1 locs1 hWc hX hB => ?_
    refine s_toS hM hWc hX hl.1 hB (by decide) (by omega) ⟨Nat.le_of_ble_eq_true rfl, Nat.le_of_ble_eq_true rfl⟩ (Nat.le_of_ble_eq_true rfl) ⟨by show 20 ≤ _; decide, by show 55860 ≤ _; decide⟩ dL_sum_279 fun sh1 v1 n1 t6 H1 locs1 hWc hX => ?_
    have hT9 := hX.2.2.1 _ (List.mem_of_getElem? (i := 0) rfl)
    refine W.widen (k := 60) (n := 100000) (by decide) (by decide) ?_
    exact t_rretA (post := fun r u => TXP Γ sh v n 60 (sumT f n4 a9 b9 l9) 40 r u) hx hb hret (Or.inl ⟨_, rfl⟩) hlk hK hWc.2.2.1 hWc.2.2.2 hWc.2.1 hE hd hWc.1 ⟨hWc.1, hX.1, by have := hX.2.1; show n1 ≤ n + 60; omega, by rw [e9]; exact hT9.1, by rw [e9]; exact Nat.le_trans hT9.2 (Nat.le_of_ble_eq_true rfl)⟩ dL_sum_282
  · have e9 : sumT f n4 a9 b9 l9 = (((([] ++ tx74) ++ (([] ++ tx48) ++ decL l9)) ++ tx76) ++ decL n4) := by rw [hj]; rfl
    refine z_tI (y := 6) (tgt := 283) hx hb dL_sum_53 hc (by decide) (by decide) rfl rfl ?_
    refine s_sb hM hWc hX hl.1 (by omega) ⟨Nat.le_of_ble_eq_true rfl, Nat.le_of_ble_eq_true rfl⟩ (Nat.le_of_ble_eq_true rfl) ⟨by show 14 ≤ _; decide, by show 29260 ≤ _; decide⟩ dL_sum_283 dL_sum_286 dL_sum_287 fun sh1 v1 n1 k5 H1 locs1 hWc hX hB => ?_
    refine s_lit (i := 14) (B := tx74) (M := 4) hM hWc rfl (by decide) dL_sum_290 fun ad74 hT74 => ?_
    refine s_apS hM hWc hX hl.1 (B := tx74) (M := 4) hT74 hB (by decide) (by omega) ⟨Nat.le_of_ble_eq_true rfl, Nat.le_of_ble_eq_true rfl⟩ (Nat.le_of_ble_eq_true rfl) ⟨by show 15 ≤ _; decide, by show 35260 ≤ _; decide⟩ dL_sum_292 fun sh1 v1 n1 H1 locs1 hWc hX hB => ?_
    refine lv_aload_n hx hb dL_sum_295 rfl (lv_at hl 0 rfl) ?_
    refine s_apS hM hWc hX hl.1 (B := (([] ++ tx48) ++ decL l9)) (M := 6) (hX.2.2.1 _ (List.mem_of_getElem? (i := 0) rfl)) hB (by decide) (by omega) ⟨Nat.le_of_ble_eq_true rfl, Nat.le_of_ble_eq_true rfl⟩ (Nat.le_of_ble_eq_true rfl) ⟨by show 16 ≤ _; decide, by show 41260 ≤ _; decide⟩ dL_sum_296 fun sh1 v1 n1 H1 locs1 hWc hX hB => ?_
    refine s_lit (i := 15) (B := tx76) (M := 1) hM hWc rfl (by decide) dL_sum_299 fun ad76 hT76 => ?_
    refine s_apS hM hWc hX hl.1 (B := tx76) (M := 1) hT76 hB (by decide) (by omega) ⟨Nat.le_of_ble_eq_true rfl, Nat.le_of_ble_eq_true rfl⟩ (Nat.le_of_ble_eq_true rfl) ⟨by show 17 ≤ _; decide, by show 47260 ≤ _; decide⟩ dL_sum_301 fun sh1 v1 n1 H1 locs1 hWc hX hB => ?_
    refine lv_iload_n hx hb dL_sum_304 rfl (lv_at hl 2 rfl) ?_
    refine s_apI hM hWc hX hl.1 (z0 := n4) (by omega) hB (by decide) (by omega) ⟨Nat.le_of_ble_eq_true rfl, Nat.le_of_ble_eq_true rfl⟩ (Nat.le_of_ble_eq_true rfl) ⟨by show 18 ≤ _; decide, by show 53260 ≤ _; decide⟩ dL_sum_305 fun sh1 v1 n1 H1 locs1 hWc hX hB => ?_
    refine s_toS hM hWc hX hl.1 hB (by decide) (by omega) ⟨Nat.le_of_ble_eq_true rfl, Nat.le_of_ble_eq_true rfl⟩ (Nat.le_of_ble_eq_true rfl) ⟨by show 20 ≤ _; decide, by show 55860 ≤ _; decide⟩ dL_sum_308 fun sh1 v1 n1 t6 H1 locs1 hWc hX => ?_
    have hT9 := hX.2.2.1 _ (List.mem_of_getElem? (i := 0) rfl)
    refine W.widen (k := 60) (n := 100000) (by decide) (by decide) ?_
    exact t_rretA (post := fun r u => TXP Γ sh v n 60 (sumT f n4 a9 b9 l9) 40 r u) hx hb hret (Or.inl ⟨_, rfl⟩) hlk hK hWc.2.2.1 hWc.2.2.2 hWc.2.1 hE hd hWc.1 ⟨hWc.1, hX.1, by have := hX.2.1; show n1 ≤ n + 60; omega, by rw [e9]; exact hT9.1, by rw [e9]; exact Nat.le_trans hT9.2 (Nat.le_of_ble_eq_true rfl)⟩ dL_sum_311
  · have e9 : sumT f n4 a9 b9 l9 = tx78 := by rw [hj]; rfl
    rw [hc]
    refine lv_tableOut (tgt := 312) hx hb dL_sum_53 (by decide) rfl ?_
    refine s_lit (i := 16) (B := tx78) (M := 14) hM hWc rfl (by decide) dL_sum_312 fun ad78 hT78 => ?_
    have hT9 := hT78
    refine W.widen (k := 60) (n := 100000) (by decide) (by decide) ?_
    exact t_rretA (post := fun r u => TXP Γ sh v n 60 (sumT f n4 a9 b9 l9) 40 r u) hx hb hret (Or.inl ⟨_, rfl⟩) hlk hK hWc.2.2.1 hWc.2.2.2 hWc.2.1 hE hd hWc.1 ⟨hWc.1, hX.1, by have := hX.2.1; show n1 ≤ n + 60; omega, by rw [e9]; exact hT9.1, by rw [e9]; exact Nat.le_trans hT9.2 (Nat.le_of_ble_eq_true rfl)⟩ dL_sum_314
def whenT (g n6 a9 b9 l9 o9 : Nat) : List Int32 := match g with
  | 0 => tx80
  | 1 => ((([] ++ tx82) ++ decL n6) ++ tx84)
  | 2 => ((([] ++ tx86) ++ (([] ++ tx35) ++ decL a9)) ++ (([] ++ tx48) ++ decL l9))
  | 3 => ((((((([] ++ tx88) ++ (([] ++ tx35) ++ decL a9)) ++ (([] ++ tx48) ++ decL l9)) ++ tx90) ++ decL b9) ++ tx92) ++ decL n6)
  | 4 => ((((((((((([] ++ tx94) ++ (([] ++ tx48) ++ decL l9)) ++ tx96) ++ decL n6) ++ tx98) ++ decL n6) ++ tx100) ++ decL o9) ++ tx102) ++ decL n6) ++ tx104)
  | 5 => (((([] ++ tx106) ++ (([] ++ tx35) ++ decL a9)) ++ tx102) ++ decL n6)
  | 6 => tx108
  | _ => ((((([] ++ tx110) ++ (([] ++ tx48) ++ decL l9)) ++ tx96) ++ decL n6) ++ tx112)
theorem c_L_when {k d1 d2 f n4 g n6 a9 b9 l9 o9 : Nat} (hk : sh k = some (sA 12)) (hn4 : n4 ≤ 999) (hn6 : n6 ≤ 999) (ha9 : a9 ≤ 9) (hb9 : b9 ≤ 9) (hl9 : l9 ≤ 9) (ho9 : o9 ≤ 9) (hv4 : v k 4 = nI n4) (hv6 : v k 6 = nI n6) (hv7 : v k 7 = nI a9) (hv8 : v k 8 = nI b9) (hv9 : v k 9 = nI l9) (hv10 : v k 10 = nI o9) (hg : g ≤ 7) (hv5 : v k 5 = nI g + -1) (hC : EC Γ sh d1 d2) (hL : EL Γ sh) (hnb : n ≤ 900000) : MetTA l yL_when cL_when 4 (some (FieldType.object "java/lang/String")) 7 60 100000 Γ sh v w n [.ref (Γ.2.1 + k)] (fun r u => TXP Γ sh v n 60 (whenT g n6 a9 b9 l9 o9) 70 r u) := by
  refine w_start pn_L (Nat.le_of_ble_eq_true rfl) fun p e s m args below meth c hx hb hml hret hlk hnm hts hown hK hP hz hE hS ls hl => ?_
  have hd : DM sh n := hP.dm hz
  have hG : GR sh n sh n := GR.rf
  have hM : MC Γ p s m args c cL_when 4 d1 d2 sh n := ⟨hx, hb, hml, hts, hown, hK, hE, hd, hC, hL⟩
  have hWc : WC Γ s sh n w sh v n s.heap [] := ⟨hG, hz, hP, hS⟩
  have hX : SX Γ sh v n 0 [] sh v n := ⟨fun _ _ => rfl, Nat.le_refl _, fun t ht => absurd ht List.not_mem_nil, GR.rf⟩
  have hkb : k < n := hd _ _ hk
  skip
  refine lv_aload_n hx hb dL_when_0 rfl (lv_at hl 0 rfl) ?_
  refine lv_bipush (v := 6) hx hb dL_when_1 rfl ?_
  refine s_el (k := k) hM hWc hX hk hkb (j := 6) rfl (vin (i := 6) (by decide) (by decide)) hv6 dL_when_3 ?_
  refine lv_istore_n (lv' := [(1, .int (nI n6)), (0, .ref (Γ.2.1 + k))]) hx hb dL_when_4 rfl hl (by decide) rfl fun ls hl => ?_
  refine s_sb hM hWc hX hl.1 (by omega) ⟨Nat.le_of_ble_eq_true rfl, Nat.le_of_ble_eq_true rfl⟩ (Nat.le_of_ble_eq_true rfl) ⟨by show 2 ≤ _; decide, by show 20 ≤ _; decide⟩ dL_when_5 dL_when_8 dL_when_9 fun sh1 v1 n1 k1 H1 locs1 hWc hX hB => ?_
  refine s_lit (i := 0) (B := tx35) (M := 2) hM hWc rfl (by decide) dL_when_12 fun ad35 hT35 => ?_
  refine s_apS hM hWc hX hl.1 (B := tx35) (M := 2) hT35 hB (by decide) (by omega) ⟨Nat.le_of_ble_eq_true rfl, Nat.le_of_ble_eq_true rfl⟩ (Nat.le_of_ble_eq_true rfl) ⟨by show 3 ≤ _; decide, by show 6020 ≤ _; decide⟩ dL_when_14 fun sh1 v1 n1 H1 locs1 hWc hX hB => ?_
  refine lv_aload_n hx hb dL_when_17 rfl (lv_at hl 1 rfl) ?_
  refine lv_bipush (v := 7) hx hb dL_when_18 rfl ?_
  refine s_el (k := k) hM hWc hX hk hkb (j := 7) rfl (vin (i := 7) (by decide) (by decide)) hv7 dL_when_20 ?_
  refine s_apI hM hWc hX hl.1 (z0 := a9) (by omega) hB (by decide) (by omega) ⟨Nat.le_of_ble_eq_true rfl, Nat.le_of_ble_eq_true rfl⟩ (Nat.le_of_ble_eq_true rfl) ⟨by show 4 ≤ _; decide, by show 12020 ≤ _; decide⟩ dL_when_21 fun sh1 v1 n1 H1 locs1 hWc hX hB => ?_
  refine s_toS hM hWc hX hl.1 hB (by decide) (by omega) ⟨Nat.le_of_ble_eq_true rfl, Nat.le_of_ble_eq_true rfl⟩ (Nat.le_of_ble_eq_true rfl) ⟨by show 6 ≤ _; decide, by show 14620 ≤ _; decide⟩ dL_when_24 fun sh1 v1 n1 t2 H1 locs1 hWc hX => ?_
  refine lv_astore_n (lv' := [(2, .ref t2), (1, .int (nI n6)), (0, .ref (Γ.2.1 + k))]) hx hb dL_when_27 rfl hl (by decide) rfl fun ls hl => ?_
  refine s_sb hM hWc hX hl.1 (by omega) ⟨Nat.le_of_ble_eq_true rfl, Nat.le_of_ble_eq_true rfl⟩ (Nat.le_of_ble_eq_true rfl) ⟨by show 8 ≤ _; decide, by show 14640 ≤ _; decide⟩ dL_when_28 dL_when_31 dL_when_32 fun sh1 v1 n1 k3 H1 locs1 hWc hX hB => ?_
  refine s_lit (i := 1) (B := tx48) (M := 2) hM hWc rfl (by decide) dL_when_35 fun ad48 hT48 => ?_
  refine s_apS hM hWc hX hl.1 (B := tx48) (M := 2) hT48 hB (by decide) (by omega) ⟨Nat.le_of_ble_eq_true rfl, Nat.le_of_ble_eq_true rfl⟩ (Nat.le_of_ble_eq_true rfl) ⟨by show 9 ≤ _; decide, by show 20640 ≤ _; decide⟩ dL_when_37 fun sh1 v1 n1 H1 locs1 hWc hX hB => ?_
  refine lv_aload_n hx hb dL_when_40 rfl (lv_at hl 2 rfl) ?_
  refine lv_bipush (v := 9) hx hb dL_when_41 rfl ?_
  refine s_el (k := k) hM hWc hX hk hkb (j := 9) rfl (vin (i := 9) (by decide) (by decide)) hv9 dL_when_43 ?_
  refine s_apI hM hWc hX hl.1 (z0 := l9) (by omega) hB (by decide) (by omega) ⟨Nat.le_of_ble_eq_true rfl, Nat.le_of_ble_eq_true rfl⟩ (Nat.le_of_ble_eq_true rfl) ⟨by show 10 ≤ _; decide, by show 26640 ≤ _; decide⟩ dL_when_44 fun sh1 v1 n1 H1 locs1 hWc hX hB => ?_
  refine s_toS hM hWc hX hl.1 hB (by decide) (by omega) ⟨Nat.le_of_ble_eq_true rfl, Nat.le_of_ble_eq_true rfl⟩ (Nat.le_of_ble_eq_true rfl) ⟨by show 12 ≤ _; decide, by show 29240 ≤ _; decide⟩ dL_when_47 fun sh1 v1 n1 t4 H1 locs1 hWc hX => ?_
  refine lv_astore_n (lv' := [(3, .ref t4), (2, .ref t2), (1, .int (nI n6)), (0, .ref (Γ.2.1 + k))]) hx hb dL_when_50 rfl hl (by decide) rfl fun ls hl => ?_
  refine lv_aload_n hx hb dL_when_51 rfl (lv_at hl 3 rfl) ?_
  refine lv_iconst (v := 5) hx hb dL_when_52 rfl ?_
  refine s_el (k := k) hM hWc hX hk hkb (j := 5) rfl (vin (i := 5) (by decide) (by decide)) rfl dL_when_53 ?_
  have hcase : (g = 0 ∧ v k 5 = (-1)) ∨ (g = 1 ∧ v k 5 = 0) ∨ (g = 2 ∧ v k 5 = 1) ∨ (g = 3 ∧ v k 5 = 2) ∨ (g = 4 ∧ v k 5 = 3) ∨ (g = 5 ∧ v k 5 = 4) ∨ (g = 6 ∧ v k 5 = 5) ∨ (g = 7 ∧ v k 5 = 6) := by
    have h8 : g = 0 ∨ g = 1 ∨ g = 2 ∨ g = 3 ∨ g = 4 ∨ g = 5 ∨ g = 6 ∨ g = 7 := by omega
    rcases h8 with h8 | h8 | h8 | h8 | h8 | h8 | h8 | h8
    · exact Or.inl ⟨h8, by rw [hv5, h8]; decide⟩
    · exact Or.inr (Or.inl ⟨h8, by rw [hv5, h8]; decide⟩)
    · exact Or.inr (Or.inr (Or.inl ⟨h8, by rw [hv5, h8]; decide⟩))
    · exact Or.inr (Or.inr (Or.inr (Or.inl ⟨h8, by rw [hv5, h8]; decide⟩)))
    · exact Or.inr (Or.inr (Or.inr (Or.inr (Or.inl ⟨h8, by rw [hv5, h8]; decide⟩))))
    · exact Or.inr (Or.inr (Or.inr (Or.inr (Or.inr (Or.inl ⟨h8, by rw [hv5, h8]; decide⟩)))))
    · exact Or.inr (Or.inr (Or.inr (Or.inr (Or.inr (Or.inr (Or.inl ⟨h8, by rw [hv5, h8]; decide⟩))))))
    · exact Or.inr (Or.inr (Or.inr (Or.inr (Or.inr (Or.inr (Or.inr (⟨h8, by rw [hv5, h8]; decide⟩)))))))
  rcases hcase with ⟨hj, hc⟩ | ⟨hj, hc⟩ | ⟨hj, hc⟩ | ⟨hj, hc⟩ | ⟨hj, hc⟩ | ⟨hj, hc⟩ | ⟨hj, hc⟩ | ⟨hj, hc⟩
  · have e9 : whenT g n6 a9 b9 l9 o9 = tx80 := by rw [hj]; rfl
    refine z_tI (y := (-1)) (tgt := 96) hx hb dL_when_54 hc (by decide) (by decide) rfl rfl ?_
    refine s_lit (i := 17) (B := tx80) (M := 0) hM hWc rfl (by decide) dL_when_96 fun ad80 hT80 => ?_
    have hT9 := hT80
    refine W.widen (k := 60) (n := 100000) (by decide) (by decide) ?_
    exact t_rretA (post := fun r u => TXP Γ sh v n 60 (whenT g n6 a9 b9 l9 o9) 70 r u) hx hb hret (Or.inl ⟨_, rfl⟩) hlk hK hWc.2.2.1 hWc.2.2.2 hWc.2.1 hE hd hWc.1 ⟨hWc.1, hX.1, by have := hX.2.1; show n1 ≤ n + 60; omega, by rw [e9]; exact hT9.1, by rw [e9]; exact Nat.le_trans hT9.2 (Nat.le_of_ble_eq_true rfl)⟩ dL_when_98
  · have e9 : whenT g n6 a9 b9 l9 o9 = ((([] ++ tx82) ++ decL n6) ++ tx84) := by rw [hj]; rfl
    refine z_tI (y := 0) (tgt := 99) hx hb dL_when_54 hc (by decide) (by decide) rfl rfl ?_
    refine s_sb hM hWc hX hl.1 (by omega) ⟨Nat.le_of_ble_eq_true rfl, Nat.le_of_ble_eq_true rfl⟩ (Nat.le_of_ble_eq_true rfl) ⟨by show 14 ≤ _; decide, by show 29260 ≤ _; decide⟩ dL_when_99 dL_when_102 dL_when_103 fun sh1 v1 n1 k5 H1 locs1 hWc hX hB => ?_
    refine s_lit (i := 18) (B := tx82) (M := 10) hM hWc rfl (by decide) dL_when_106 fun ad82 hT82 => ?_
    refine s_apS hM hWc hX hl.1 (B := tx82) (M := 10) hT82 hB (by decide) (by omega) ⟨Nat.le_of_ble_eq_true rfl, Nat.le_of_ble_eq_true rfl⟩ (Nat.le_of_ble_eq_true rfl) ⟨by show 15 ≤ _; decide, by show 35260 ≤ _; decide⟩ dL_when_108 fun sh1 v1 n1 H1 locs1 hWc hX hB => ?_
    refine lv_iload_n hx hb dL_when_111 rfl (lv_at hl 2 rfl) ?_
    refine s_apI hM hWc hX hl.1 (z0 := n6) (by omega) hB (by decide) (by omega) ⟨Nat.le_of_ble_eq_true rfl, Nat.le_of_ble_eq_true rfl⟩ (Nat.le_of_ble_eq_true rfl) ⟨by show 16 ≤ _; decide, by show 41260 ≤ _; decide⟩ dL_when_112 fun sh1 v1 n1 H1 locs1 hWc hX hB => ?_
    refine s_lit (i := 19) (B := tx84) (M := 2) hM hWc rfl (by decide) dL_when_115 fun ad84 hT84 => ?_
    refine s_apS hM hWc hX hl.1 (B := tx84) (M := 2) hT84 hB (by decide) (by omega) ⟨Nat.le_of_ble_eq_true rfl, Nat.le_of_ble_eq_true rfl⟩ (Nat.le_of_ble_eq_true rfl) ⟨by show 17 ≤ _; decide, by show 47260 ≤ _; decide⟩ dL_when_117 fun sh1 v1 n1 H1 locs1 hWc hX hB => ?_
    refine s_toS hM hWc hX hl.1 hB (by decide) (by omega) ⟨Nat.le_of_ble_eq_true rfl, Nat.le_of_ble_eq_true rfl⟩ (Nat.le_of_ble_eq_true rfl) ⟨by show 19 ≤ _; decide, by show 49860 ≤ _; decide⟩ dL_when_120 fun sh1 v1 n1 t6 H1 locs1 hWc hX => ?_
    have hT9 := hX.2.2.1 _ (List.mem_of_getElem? (i := 0) rfl)
    refine W.widen (k := 60) (n := 100000) (by decide) (by decide) ?_
    exact t_rretA (post := fun r u => TXP Γ sh v n 60 (whenT g n6 a9 b9 l9 o9) 70 r u) hx hb hret (Or.inl ⟨_, rfl⟩) hlk hK hWc.2.2.1 hWc.2.2.2 hWc.2.1 hE hd hWc.1 ⟨hWc.1, hX.1, by have := hX.2.1; show n1 ≤ n + 60; omega, by rw [e9]; exact hT9.1, by rw [e9]; exact Nat.le_trans hT9.2 (Nat.le_of_ble_eq_true rfl)⟩ dL_when_123
  · have e9 : whenT g n6 a9 b9 l9 o9 = ((([] ++ tx86) ++ (([] ++ tx35) ++ decL a9)) ++ (([] ++ tx48) ++ decL l9)) := by rw [hj]; rfl
    refine z_tI (y := 1) (tgt := 124) hx hb dL_when_54 hc (by decide) (by decide) rfl rfl ?_
    refine s_sb hM hWc hX hl.1 (by omega) ⟨Nat.le_of_ble_eq_true rfl, Nat.le_of_ble_eq_true rfl⟩ (Nat.le_of_ble_eq_true rfl) ⟨by show 14 ≤ _; decide, by show 29260 ≤ _; decide⟩ dL_when_124 dL_when_127 dL_when_128 fun sh1 v1 n1 k5 H1 locs1 hWc hX hB => ?_
    refine s_lit (i := 20) (B := tx86) (M := 10) hM hWc rfl (by decide) dL_when_131 fun ad86 hT86 => ?_
    refine s_apS hM hWc hX hl.1 (B := tx86) (M := 10) hT86 hB (by decide) (by omega) ⟨Nat.le_of_ble_eq_true rfl, Nat.le_of_ble_eq_true rfl⟩ (Nat.le_of_ble_eq_true rfl) ⟨by show 15 ≤ _; decide, by show 35260 ≤ _; decide⟩ dL_when_133 fun sh1 v1 n1 H1 locs1 hWc hX hB => ?_
    refine lv_aload_n hx hb dL_when_136 rfl (lv_at hl 1 rfl) ?_
    refine s_apS hM hWc hX hl.1 (B := (([] ++ tx35) ++ decL a9)) (M := 6) (hX.2.2.1 _ (List.mem_of_getElem? (i := 1) rfl)) hB (by decide) (by omega) ⟨Nat.le_of_ble_eq_true rfl, Nat.le_of_ble_eq_true rfl⟩ (Nat.le_of_ble_eq_true rfl) ⟨by show 16 ≤ _; decide, by show 41260 ≤ _; decide⟩ dL_when_137 fun sh1 v1 n1 H1 locs1 hWc hX hB => ?_
    refine lv_aload_n hx hb dL_when_140 rfl (lv_at hl 0 rfl) ?_
    refine s_apS hM hWc hX hl.1 (B := (([] ++ tx48) ++ decL l9)) (M := 6) (hX.2.2.1 _ (List.mem_of_getElem? (i := 0) rfl)) hB (by decide) (by omega) ⟨Nat.le_of_ble_eq_true rfl, Nat.le_of_ble_eq_true rfl⟩ (Nat.le_of_ble_eq_true rfl) ⟨by show 17 ≤ _; decide, by show 47260 ≤ _; decide⟩ dL_when_141 fun sh1 v1 n1 H1 locs1 hWc hX hB => ?_
    refine s_toS hM hWc hX hl.1 hB (by decide) (by omega) ⟨Nat.le_of_ble_eq_true rfl, Nat.le_of_ble_eq_true rfl⟩ (Nat.le_of_ble_eq_true rfl) ⟨by show 19 ≤ _; decide, by show 49860 ≤ _; decide⟩ dL_when_144 fun sh1 v1 n1 t6 H1 locs1 hWc hX => ?_
    have hT9 := hX.2.2.1 _ (List.mem_of_getElem? (i := 0) rfl)
    refine W.widen (k := 60) (n := 100000) (by decide) (by decide) ?_
    exact t_rretA (post := fun r u => TXP Γ sh v n 60 (whenT g n6 a9 b9 l9 o9) 70 r u) hx hb hret (Or.inl ⟨_, rfl⟩) hlk hK hWc.2.2.1 hWc.2.2.2 hWc.2.1 hE hd hWc.1 ⟨hWc.1, hX.1, by have := hX.2.1; show n1 ≤ n + 60; omega, by rw [e9]; exact hT9.1, by rw [e9]; exact Nat.le_trans hT9.2 (Nat.le_of_ble_eq_true rfl)⟩ dL_when_147
  · have e9 : whenT g n6 a9 b9 l9 o9 = ((((((([] ++ tx88) ++ (([] ++ tx35) ++ decL a9)) ++ (([] ++ tx48) ++ decL l9)) ++ tx90) ++ decL b9) ++ tx92) ++ decL n6) := by rw [hj]; rfl
    refine z_tI (y := 2) (tgt := 148) hx hb dL_when_54 hc (by decide) (by decide) rfl rfl ?_
    refine s_sb hM hWc hX hl.1 (by omega) ⟨Nat.le_of_ble_eq_true rfl, Nat.le_of_ble_eq_true rfl⟩ (Nat.le_of_ble_eq_true rfl) ⟨by show 14 ≤ _; decide, by show 29260 ≤ _; decide⟩ dL_when_148 dL_when_151 dL_when_152 fun sh1 v1 n1 k5 H1 locs1 hWc hX hB => ?_
    refine s_lit (i := 21) (B := tx88) (M := 14) hM hWc rfl (by decide) dL_when_155 fun ad88 hT88 => ?_
    refine s_apS hM hWc hX hl.1 (B := tx88) (M := 14) hT88 hB (by decide) (by omega) ⟨Nat.le_of_ble_eq_true rfl, Nat.le_of_ble_eq_true rfl⟩ (Nat.le_of_ble_eq_true rfl) ⟨by show 15 ≤ _; decide, by show 35260 ≤ _; decide⟩ dL_when_157 fun sh1 v1 n1 H1 locs1 hWc hX hB => ?_
    refine lv_aload_n hx hb dL_when_160 rfl (lv_at hl 1 rfl) ?_
    refine s_apS hM hWc hX hl.1 (B := (([] ++ tx35) ++ decL a9)) (M := 6) (hX.2.2.1 _ (List.mem_of_getElem? (i := 1) rfl)) hB (by decide) (by omega) ⟨Nat.le_of_ble_eq_true rfl, Nat.le_of_ble_eq_true rfl⟩ (Nat.le_of_ble_eq_true rfl) ⟨by show 16 ≤ _; decide, by show 41260 ≤ _; decide⟩ dL_when_161 fun sh1 v1 n1 H1 locs1 hWc hX hB => ?_
    refine lv_aload_n hx hb dL_when_164 rfl (lv_at hl 0 rfl) ?_
    refine s_apS hM hWc hX hl.1 (B := (([] ++ tx48) ++ decL l9)) (M := 6) (hX.2.2.1 _ (List.mem_of_getElem? (i := 0) rfl)) hB (by decide) (by omega) ⟨Nat.le_of_ble_eq_true rfl, Nat.le_of_ble_eq_true rfl⟩ (Nat.le_of_ble_eq_true rfl) ⟨by show 17 ≤ _; decide, by show 47260 ≤ _; decide⟩ dL_when_165 fun sh1 v1 n1 H1 locs1 hWc hX hB => ?_
    refine s_lit (i := 22) (B := tx90) (M := 11) hM hWc rfl (by decide) dL_when_168 fun ad90 hT90 => ?_
    refine s_apS hM hWc hX hl.1 (B := tx90) (M := 11) hT90 hB (by decide) (by omega) ⟨Nat.le_of_ble_eq_true rfl, Nat.le_of_ble_eq_true rfl⟩ (Nat.le_of_ble_eq_true rfl) ⟨by show 18 ≤ _; decide, by show 53260 ≤ _; decide⟩ dL_when_170 fun sh1 v1 n1 H1 locs1 hWc hX hB => ?_
    refine lv_aload_n hx hb dL_when_173 rfl (lv_at hl 3 rfl) ?_
    refine lv_bipush (v := 8) hx hb dL_when_174 rfl ?_
    refine s_el (k := k) hM hWc hX hk hkb (j := 8) rfl (vin (i := 8) (by decide) (by decide)) hv8 dL_when_176 ?_
    refine s_apI hM hWc hX hl.1 (z0 := b9) (by omega) hB (by decide) (by omega) ⟨Nat.le_of_ble_eq_true rfl, Nat.le_of_ble_eq_true rfl⟩ (Nat.le_of_ble_eq_true rfl) ⟨by show 19 ≤ _; decide, by show 59260 ≤ _; decide⟩ dL_when_177 fun sh1 v1 n1 H1 locs1 hWc hX hB => ?_
    refine s_lit (i := 23) (B := tx92) (M := 3) hM hWc rfl (by decide) dL_when_180 fun ad92 hT92 => ?_
    refine s_apS hM hWc hX hl.1 (B := tx92) (M := 3) hT92 hB (by decide) (by omega) ⟨Nat.le_of_ble_eq_true rfl, Nat.le_of_ble_eq_true rfl⟩ (Nat.le_of_ble_eq_true rfl) ⟨by show 20 ≤ _; decide, by show 65260 ≤ _; decide⟩ dL_when_182 fun sh1 v1 n1 H1 locs1 hWc hX hB => ?_
    refine lv_iload_n hx hb dL_when_185 rfl (lv_at hl 2 rfl) ?_
    refine s_apI hM hWc hX hl.1 (z0 := n6) (by omega) hB (by decide) (by omega) ⟨Nat.le_of_ble_eq_true rfl, Nat.le_of_ble_eq_true rfl⟩ (Nat.le_of_ble_eq_true rfl) ⟨by show 21 ≤ _; decide, by show 71260 ≤ _; decide⟩ dL_when_186 fun sh1 v1 n1 H1 locs1 hWc hX hB => ?_
    refine s_toS hM hWc hX hl.1 hB (by decide) (by omega) ⟨Nat.le_of_ble_eq_true rfl, Nat.le_of_ble_eq_true rfl⟩ (Nat.le_of_ble_eq_true rfl) ⟨by show 23 ≤ _; decide, by show 73860 ≤ _; decide⟩ dL_when_189 fun sh1 v1 n1 t6 H1 locs1 hWc hX => ?_
    have hT9 := hX.2.2.1 _ (List.mem_of_getElem? (i := 0) rfl)
    refine W.widen (k := 60) (n := 100000) (by decide) (by decide) ?_
    exact t_rretA (post := fun r u => TXP Γ sh v n 60 (whenT g n6 a9 b9 l9 o9) 70 r u) hx hb hret (Or.inl ⟨_, rfl⟩) hlk hK hWc.2.2.1 hWc.2.2.2 hWc.2.1 hE hd hWc.1 ⟨hWc.1, hX.1, by have := hX.2.1; show n1 ≤ n + 60; omega, by rw [e9]; exact hT9.1, by rw [e9]; exact Nat.le_trans hT9.2 (Nat.le_of_ble_eq_true rfl)⟩ dL_when_192
  · have e9 : whenT g n6 a9 b9 l9 o9 = ((((((((((([] ++ tx94) ++ (([] ++ tx48) ++ decL l9)) ++ tx96) ++ decL n6) ++ tx98) ++ decL n6) ++ tx100) ++ decL o9) ++ tx102) ++ decL n6) ++ tx104) := by rw [hj]; rfl
    refine z_tI (y := 3) (tgt := 193) hx hb dL_when_54 hc (by decide) (by decide) rfl rfl ?_
    refine s_sb hM hWc hX hl.1 (by omega) ⟨Nat.le_of_ble_eq_true rfl, Nat.le_of_ble_eq_true rfl⟩ (Nat.le_of_ble_eq_true rfl) ⟨by show 14 ≤ _; decide, by show 29260 ≤ _; decide⟩ dL_when_193 dL_when_196 dL_when_197 fun sh1 v1 n1 k5 H1 locs1 hWc hX hB => ?_
    refine s_lit (i := 24) (B := tx94) (M := 13) hM hWc rfl (by decide) dL_when_200 fun ad94 hT94 => ?_
    refine s_apS hM hWc hX hl.1 (B := tx94) (M := 13) hT94 hB (by decide) (by omega) ⟨Nat.le_of_ble_eq_true rfl, Nat.le_of_ble_eq_true rfl⟩ (Nat.le_of_ble_eq_true rfl) ⟨by show 15 ≤ _; decide, by show 35260 ≤ _; decide⟩ dL_when_202 fun sh1 v1 n1 H1 locs1 hWc hX hB => ?_
    refine lv_aload_n hx hb dL_when_205 rfl (lv_at hl 0 rfl) ?_
    refine s_apS hM hWc hX hl.1 (B := (([] ++ tx48) ++ decL l9)) (M := 6) (hX.2.2.1 _ (List.mem_of_getElem? (i := 0) rfl)) hB (by decide) (by omega) ⟨Nat.le_of_ble_eq_true rfl, Nat.le_of_ble_eq_true rfl⟩ (Nat.le_of_ble_eq_true rfl) ⟨by show 16 ≤ _; decide, by show 41260 ≤ _; decide⟩ dL_when_206 fun sh1 v1 n1 H1 locs1 hWc hX hB => ?_
    refine s_lit (i := 25) (B := tx96) (M := 1) hM hWc rfl (by decide) dL_when_209 fun ad96 hT96 => ?_
    refine s_apS hM hWc hX hl.1 (B := tx96) (M := 1) hT96 hB (by decide) (by omega) ⟨Nat.le_of_ble_eq_true rfl, Nat.le_of_ble_eq_true rfl⟩ (Nat.le_of_ble_eq_true rfl) ⟨by show 17 ≤ _; decide, by show 47260 ≤ _; decide⟩ dL_when_211 fun sh1 v1 n1 H1 locs1 hWc hX hB => ?_
    refine lv_iload_n hx hb dL_when_214 rfl (lv_at hl 2 rfl) ?_
    refine s_apI hM hWc hX hl.1 (z0 := n6) (by omega) hB (by decide) (by omega) ⟨Nat.le_of_ble_eq_true rfl, Nat.le_of_ble_eq_true rfl⟩ (Nat.le_of_ble_eq_true rfl) ⟨by show 18 ≤ _; decide, by show 53260 ≤ _; decide⟩ dL_when_215 fun sh1 v1 n1 H1 locs1 hWc hX hB => ?_
    refine s_lit (i := 26) (B := tx98) (M := 13) hM hWc rfl (by decide) dL_when_218 fun ad98 hT98 => ?_
    refine s_apS hM hWc hX hl.1 (B := tx98) (M := 13) hT98 hB (by decide) (by omega) ⟨Nat.le_of_ble_eq_true rfl, Nat.le_of_ble_eq_true rfl⟩ (Nat.le_of_ble_eq_true rfl) ⟨by show 19 ≤ _; decide, by show 59260 ≤ _; decide⟩ dL_when_220 fun sh1 v1 n1 H1 locs1 hWc hX hB => ?_
    refine lv_iload_n hx hb dL_when_223 rfl (lv_at hl 2 rfl) ?_
    refine s_apI hM hWc hX hl.1 (z0 := n6) (by omega) hB (by decide) (by omega) ⟨Nat.le_of_ble_eq_true rfl, Nat.le_of_ble_eq_true rfl⟩ (Nat.le_of_ble_eq_true rfl) ⟨by show 20 ≤ _; decide, by show 65260 ≤ _; decide⟩ dL_when_224 fun sh1 v1 n1 H1 locs1 hWc hX hB => ?_
    refine s_lit (i := 27) (B := tx100) (M := 11) hM hWc rfl (by decide) dL_when_227 fun ad100 hT100 => ?_
    refine s_apS hM hWc hX hl.1 (B := tx100) (M := 11) hT100 hB (by decide) (by omega) ⟨Nat.le_of_ble_eq_true rfl, Nat.le_of_ble_eq_true rfl⟩ (Nat.le_of_ble_eq_true rfl) ⟨by show 21 ≤ _; decide, by show 71260 ≤ _; decide⟩ dL_when_229 fun sh1 v1 n1 H1 locs1 hWc hX hB => ?_
    refine lv_aload_n hx hb dL_when_232 rfl (lv_at hl 3 rfl) ?_
    refine lv_bipush (v := 10) hx hb dL_when_233 rfl ?_
    refine s_el (k := k) hM hWc hX hk hkb (j := 10) rfl (vin (i := 10) (by decide) (by decide)) hv10 dL_when_235 ?_
    refine s_apI hM hWc hX hl.1 (z0 := o9) (by omega) hB (by decide) (by omega) ⟨Nat.le_of_ble_eq_true rfl, Nat.le_of_ble_eq_true rfl⟩ (Nat.le_of_ble_eq_true rfl) ⟨by show 22 ≤ _; decide, by show 77260 ≤ _; decide⟩ dL_when_236 fun sh1 v1 n1 H1 locs1 hWc hX hB => ?_
    refine s_lit (i := 28) (B := tx102) (M := 2) hM hWc rfl (by decide) dL_when_239 fun ad102 hT102 => ?_
    refine s_apS hM hWc hX hl.1 (B := tx102) (M := 2) hT102 hB (by decide) (by omega) ⟨Nat.le_of_ble_eq_true rfl, Nat.le_of_ble_eq_true rfl⟩ (Nat.le_of_ble_eq_true rfl) ⟨by show 23 ≤ _; decide, by show 83260 ≤ _; decide⟩ dL_when_241 fun sh1 v1 n1 H1 locs1 hWc hX hB => ?_
    refine lv_iload_n hx hb dL_when_244 rfl (lv_at hl 2 rfl) ?_
    refine s_apI hM hWc hX hl.1 (z0 := n6) (by omega) hB (by decide) (by omega) ⟨Nat.le_of_ble_eq_true rfl, Nat.le_of_ble_eq_true rfl⟩ (Nat.le_of_ble_eq_true rfl) ⟨by show 24 ≤ _; decide, by show 89260 ≤ _; decide⟩ dL_when_245 fun sh1 v1 n1 H1 locs1 hWc hX hB => ?_
    refine s_lit (i := 29) (B := tx104) (M := 2) hM hWc rfl (by decide) dL_when_248 fun ad104 hT104 => ?_
    refine s_apS hM hWc hX hl.1 (B := tx104) (M := 2) hT104 hB (by decide) (by omega) ⟨Nat.le_of_ble_eq_true rfl, Nat.le_of_ble_eq_true rfl⟩ (Nat.le_of_ble_eq_true rfl) ⟨by show 25 ≤ _; decide, by show 95260 ≤ _; decide⟩ dL_when_250 fun sh1 v1 n1 H1 locs1 hWc hX hB => ?_
    refine s_toS hM hWc hX hl.1 hB (by decide) (by omega) ⟨Nat.le_of_ble_eq_true rfl, Nat.le_of_ble_eq_true rfl⟩ (Nat.le_of_ble_eq_true rfl) ⟨by show 27 ≤ _; decide, by show 97860 ≤ _; decide⟩ dL_when_253 fun sh1 v1 n1 t6 H1 locs1 hWc hX => ?_
    have hT9 := hX.2.2.1 _ (List.mem_of_getElem? (i := 0) rfl)
    refine W.widen (k := 60) (n := 100000) (by decide) (by decide) ?_
    exact t_rretA (post := fun r u => TXP Γ sh v n 60 (whenT g n6 a9 b9 l9 o9) 70 r u) hx hb hret (Or.inl ⟨_, rfl⟩) hlk hK hWc.2.2.1 hWc.2.2.2 hWc.2.1 hE hd hWc.1 ⟨hWc.1, hX.1, by have := hX.2.1; show n1 ≤ n + 60; omega, by rw [e9]; exact hT9.1, by rw [e9]; exact Nat.le_trans hT9.2 (Nat.le_of_ble_eq_true rfl)⟩ dL_when_256
  · have e9 : whenT g n6 a9 b9 l9 o9 = (((([] ++ tx106) ++ (([] ++ tx35) ++ decL a9)) ++ tx102) ++ decL n6) := by rw [hj]; rfl
    refine z_tI (y := 4) (tgt := 257) hx hb dL_when_54 hc (by decide) (by decide) rfl rfl ?_
    refine s_sb hM hWc hX hl.1 (by omega) ⟨Nat.le_of_ble_eq_true rfl, Nat.le_of_ble_eq_true rfl⟩ (Nat.le_of_ble_eq_true rfl) ⟨by show 14 ≤ _; decide, by show 29260 ≤ _; decide⟩ dL_when_257 dL_when_260 dL_when_261 fun sh1 v1 n1 k5 H1 locs1 hWc hX hB => ?_
    refine s_lit (i := 30) (B := tx106) (M := 11) hM hWc rfl (by decide) dL_when_264 fun ad106 hT106 => ?_
    refine s_apS hM hWc hX hl.1 (B := tx106) (M := 11) hT106 hB (by decide) (by omega) ⟨Nat.le_of_ble_eq_true rfl, Nat.le_of_ble_eq_true rfl⟩ (Nat.le_of_ble_eq_true rfl) ⟨by show 15 ≤ _; decide, by show 35260 ≤ _; decide⟩ dL_when_266 fun sh1 v1 n1 H1 locs1 hWc hX hB => ?_
    refine lv_aload_n hx hb dL_when_269 rfl (lv_at hl 1 rfl) ?_
    refine s_apS hM hWc hX hl.1 (B := (([] ++ tx35) ++ decL a9)) (M := 6) (hX.2.2.1 _ (List.mem_of_getElem? (i := 1) rfl)) hB (by decide) (by omega) ⟨Nat.le_of_ble_eq_true rfl, Nat.le_of_ble_eq_true rfl⟩ (Nat.le_of_ble_eq_true rfl) ⟨by show 16 ≤ _; decide, by show 41260 ≤ _; decide⟩ dL_when_270 fun sh1 v1 n1 H1 locs1 hWc hX hB => ?_
    refine s_lit (i := 28) (B := tx102) (M := 2) hM hWc rfl (by decide) dL_when_273 fun ad102 hT102 => ?_
    refine s_apS hM hWc hX hl.1 (B := tx102) (M := 2) hT102 hB (by decide) (by omega) ⟨Nat.le_of_ble_eq_true rfl, Nat.le_of_ble_eq_true rfl⟩ (Nat.le_of_ble_eq_true rfl) ⟨by show 17 ≤ _; decide, by show 47260 ≤ _; decide⟩ dL_when_275 fun sh1 v1 n1 H1 locs1 hWc hX hB => ?_
    refine lv_iload_n hx hb dL_when_278 rfl (lv_at hl 2 rfl) ?_
    refine s_apI hM hWc hX hl.1 (z0 := n6) (by omega) hB (by decide) (by omega) ⟨Nat.le_of_ble_eq_true rfl, Nat.le_of_ble_eq_true rfl⟩ (Nat.le_of_ble_eq_true rfl) ⟨by show 18 ≤ _; decide, by show 53260 ≤ _; decide⟩ dL_when_279 fun sh1 v1 n1 H1 locs1 hWc hX hB => ?_
    refine s_toS hM hWc hX hl.1 hB (by decide) (by omega) ⟨Nat.le_of_ble_eq_true rfl, Nat.le_of_ble_eq_true rfl⟩ (Nat.le_of_ble_eq_true rfl) ⟨by show 20 ≤ _; decide, by show 55860 ≤ _; decide⟩ dL_when_282 fun sh1 v1 n1 t6 H1 locs1 hWc hX => ?_
    have hT9 := hX.2.2.1 _ (List.mem_of_getElem? (i := 0) rfl)
    refine W.widen (k := 60) (n := 100000) (by decide) (by decide) ?_
    exact t_rretA (post := fun r u => TXP Γ sh v n 60 (whenT g n6 a9 b9 l9 o9) 70 r u) hx hb hret (Or.inl ⟨_, rfl⟩) hlk hK hWc.2.2.1 hWc.2.2.2 hWc.2.1 hE hd hWc.1 ⟨hWc.1, hX.1, by have := hX.2.1; show n1 ≤ n + 60; omega, by rw [e9]; exact hT9.1, by rw [e9]; exact Nat.le_trans hT9.2 (Nat.le_of_ble_eq_true rfl)⟩ dL_when_285
  · have e9 : whenT g n6 a9 b9 l9 o9 = tx108 := by rw [hj]; rfl
    refine z_tI (y := 5) (tgt := 286) hx hb dL_when_54 hc (by decide) (by decide) rfl rfl ?_
    refine s_lit (i := 31) (B := tx108) (M := 17) hM hWc rfl (by decide) dL_when_286 fun ad108 hT108 => ?_
    have hT9 := hT108
    refine W.widen (k := 60) (n := 100000) (by decide) (by decide) ?_
    exact t_rretA (post := fun r u => TXP Γ sh v n 60 (whenT g n6 a9 b9 l9 o9) 70 r u) hx hb hret (Or.inl ⟨_, rfl⟩) hlk hK hWc.2.2.1 hWc.2.2.2 hWc.2.1 hE hd hWc.1 ⟨hWc.1, hX.1, by have := hX.2.1; show n1 ≤ n + 60; omega, by rw [e9]; exact hT9.1, by rw [e9]; exact Nat.le_trans hT9.2 (Nat.le_of_ble_eq_true rfl)⟩ dL_when_288
  · have e9 : whenT g n6 a9 b9 l9 o9 = ((((([] ++ tx110) ++ (([] ++ tx48) ++ decL l9)) ++ tx96) ++ decL n6) ++ tx112) := by rw [hj]; rfl
    rw [hc]
    refine lv_tableOut (tgt := 289) hx hb dL_when_54 (by decide) rfl ?_
    refine s_sb hM hWc hX hl.1 (by omega) ⟨Nat.le_of_ble_eq_true rfl, Nat.le_of_ble_eq_true rfl⟩ (Nat.le_of_ble_eq_true rfl) ⟨by show 14 ≤ _; decide, by show 29260 ≤ _; decide⟩ dL_when_289 dL_when_292 dL_when_293 fun sh1 v1 n1 k5 H1 locs1 hWc hX hB => ?_
    refine s_lit (i := 32) (B := tx110) (M := 14) hM hWc rfl (by decide) dL_when_296 fun ad110 hT110 => ?_
    refine s_apS hM hWc hX hl.1 (B := tx110) (M := 14) hT110 hB (by decide) (by omega) ⟨Nat.le_of_ble_eq_true rfl, Nat.le_of_ble_eq_true rfl⟩ (Nat.le_of_ble_eq_true rfl) ⟨by show 15 ≤ _; decide, by show 35260 ≤ _; decide⟩ dL_when_298 fun sh1 v1 n1 H1 locs1 hWc hX hB => ?_
    refine lv_aload_n hx hb dL_when_301 rfl (lv_at hl 0 rfl) ?_
    refine s_apS hM hWc hX hl.1 (B := (([] ++ tx48) ++ decL l9)) (M := 6) (hX.2.2.1 _ (List.mem_of_getElem? (i := 0) rfl)) hB (by decide) (by omega) ⟨Nat.le_of_ble_eq_true rfl, Nat.le_of_ble_eq_true rfl⟩ (Nat.le_of_ble_eq_true rfl) ⟨by show 16 ≤ _; decide, by show 41260 ≤ _; decide⟩ dL_when_302 fun sh1 v1 n1 H1 locs1 hWc hX hB => ?_
    refine s_lit (i := 25) (B := tx96) (M := 1) hM hWc rfl (by decide) dL_when_305 fun ad96 hT96 => ?_
    refine s_apS hM hWc hX hl.1 (B := tx96) (M := 1) hT96 hB (by decide) (by omega) ⟨Nat.le_of_ble_eq_true rfl, Nat.le_of_ble_eq_true rfl⟩ (Nat.le_of_ble_eq_true rfl) ⟨by show 17 ≤ _; decide, by show 47260 ≤ _; decide⟩ dL_when_307 fun sh1 v1 n1 H1 locs1 hWc hX hB => ?_
    refine lv_iload_n hx hb dL_when_310 rfl (lv_at hl 2 rfl) ?_
    refine s_apI hM hWc hX hl.1 (z0 := n6) (by omega) hB (by decide) (by omega) ⟨Nat.le_of_ble_eq_true rfl, Nat.le_of_ble_eq_true rfl⟩ (Nat.le_of_ble_eq_true rfl) ⟨by show 18 ≤ _; decide, by show 53260 ≤ _; decide⟩ dL_when_311 fun sh1 v1 n1 H1 locs1 hWc hX hB => ?_
    refine s_lit (i := 33) (B := tx112) (M := 2) hM hWc rfl (by decide) dL_when_314 fun ad112 hT112 => ?_
    refine s_apS hM hWc hX hl.1 (B := tx112) (M := 2) hT112 hB (by decide) (by omega) ⟨Nat.le_of_ble_eq_true rfl, Nat.le_of_ble_eq_true rfl⟩ (Nat.le_of_ble_eq_true rfl) ⟨by show 19 ≤ _; decide, by show 59260 ≤ _; decide⟩ dL_when_316 fun sh1 v1 n1 H1 locs1 hWc hX hB => ?_
    refine s_toS hM hWc hX hl.1 hB (by decide) (by omega) ⟨Nat.le_of_ble_eq_true rfl, Nat.le_of_ble_eq_true rfl⟩ (Nat.le_of_ble_eq_true rfl) ⟨by show 21 ≤ _; decide, by show 61860 ≤ _; decide⟩ dL_when_319 fun sh1 v1 n1 t6 H1 locs1 hWc hX => ?_
    have hT9 := hX.2.2.1 _ (List.mem_of_getElem? (i := 0) rfl)
    refine W.widen (k := 60) (n := 100000) (by decide) (by decide) ?_
    exact t_rretA (post := fun r u => TXP Γ sh v n 60 (whenT g n6 a9 b9 l9 o9) 70 r u) hx hb hret (Or.inl ⟨_, rfl⟩) hlk hK hWc.2.2.1 hWc.2.2.2 hWc.2.1 hE hd hWc.1 ⟨hWc.1, hX.1, by have := hX.2.1; show n1 ≤ n + 60; omega, by rw [e9]; exact hT9.1, by rw [e9]; exact Nat.le_trans hT9.2 (Nat.le_of_ble_eq_true rfl)⟩ dL_when_322
end JE
