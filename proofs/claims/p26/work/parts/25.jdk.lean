
section GE
variable {l : Launch} {Γ : Cx} {sh : Sh} {v : Va} {w : Vl} {n z : Nat}
def j_Pre_checkIndex_8e157_9 : Option Int32 := none
def f_Pre_checkIndex_8e157 (a1 : Int32) (a2 : Int32) : Option Int32 := if a1 < 0 then (j_Pre_checkIndex_8e157_9) else (if a1 < a2 then (some a1) else (j_Pre_checkIndex_8e157_9))
theorem c_Pre_checkIndex_8e157 {a1 : Int32} {a2 : Int32} {ao3 : Nat} {q : Int32} (h : f_Pre_checkIndex_8e157 a1 a2 = some q) : MetI l yJ3_checkIndex_8e157 cJ3_checkIndex_8e157 3 (some .int) 1 Γ sh v w n [.int a1, .int a2, .ref ao3] (fun x u => x = q ∧ u = v) := by
  unfold f_Pre_checkIndex_8e157 at h
  refine w_start pn_J3 (Nat.le_of_ble_eq_true rfl) fun p e s m args below meth c hx hb hml hret hlk hnm hts hown hK hP hz hE hS ls hl => ?_
  refine lv_iload_n hx hb dJ3_checkIndex_8e157_0 rfl (lv_at hl 0 rfl) ?_
  have J9 : j_Pre_checkIndex_8e157_9 = some q → ∀ (H1 : Heap) (locs1 : List Loc) (ls1 : Array Slot), lv_has ls1 3 [(0, .int a1), (1, .int a2), (2, .ref ao3)] → Wd Γ sh v w H1 → va_S (gA Γ sh n) s.heap H1 locs1 → H1.size = Γ.2.1 + n → wpI Γ sh w n 1 (fun x u => x = q ∧ u = v) p l e s m args below meth c H1 locs1 (F0 m 9 ls1 []) := by
    intro  h H1 locs1 ls hl hP hS hz
    unfold j_Pre_checkIndex_8e157_9 at h
    refine lv_aload_n hx hb dJ3_checkIndex_8e157_9 rfl (lv_at hl 2 rfl) ?_
    refine lv_iload_n hx hb dJ3_checkIndex_8e157_10 rfl (lv_at hl 0 rfl) ?_
    refine lv_iload_n hx hb dJ3_checkIndex_8e157_11 rfl (lv_at hl 1 rfl) ?_
    cases h
  refine lv_if_lt (tgt := 9) hx hb dJ3_checkIndex_8e157_1 rfl (fun hc1 => ?_) (fun hc1 => ?_)
  · have h := itt_e h hc1
    exact J9 h _ _ _ (lv_sub hl [0, 1, 2] rfl) hP hS hz
  · have h := itf_e h hc1
    refine lv_iload_n hx hb dJ3_checkIndex_8e157_4 rfl (lv_at hl 0 rfl) ?_
    refine lv_iload_n hx hb dJ3_checkIndex_8e157_5 rfl (lv_at hl 1 rfl) ?_
    refine lv_icmp_lt (tgt := 16) hx hb dJ3_checkIndex_8e157_6 rfl (fun hc6 => ?_) (fun hc6 => ?_)
    · have h := itt_e h hc6
      refine lv_iload_n hx hb dJ3_checkIndex_8e157_16 rfl (lv_at hl 0 rfl) ?_
      exact w_iret hx hb hret rfl hlk hK hP hS hz hE (q_p1 h) dJ3_checkIndex_8e157_17
    · have h := itf_e h hc6
      exact J9 h _ _ _ (lv_sub hl [0, 1, 2] rfl) hP hS hz
theorem c_Pre_checkIndex_n {a1 : Int32} {a2 : Int32} {q : Int32} (h : f_Pre_checkIndex_8e157 a1 a2 = some q) : MetI l yJ3_checkIndex_8e157 cJ3_checkIndex_8e157 3 (some .int) 1 Γ sh v w n [.int a1, .int a2, .null] (fun x u => x = q ∧ u = v) := by
  unfold f_Pre_checkIndex_8e157 at h
  refine w_start pn_J3 (Nat.le_of_ble_eq_true rfl) fun p e s m args below meth c hx hb hml hret hlk hnm hts hown hK hP hz hE hS ls hl => ?_
  refine lv_iload_n hx hb dJ3_checkIndex_8e157_0 rfl (lv_at hl 0 rfl) ?_
  have J9 : j_Pre_checkIndex_8e157_9 = some q → ∀ (H1 : Heap) (locs1 : List Loc) (ls1 : Array Slot), lv_has ls1 3 [(0, .int a1), (1, .int a2), (2, .null)] → Wd Γ sh v w H1 → va_S (gA Γ sh n) s.heap H1 locs1 → H1.size = Γ.2.1 + n → wpI Γ sh w n 1 (fun x u => x = q ∧ u = v) p l e s m args below meth c H1 locs1 (F0 m 9 ls1 []) := by
    intro  h H1 locs1 ls hl hP hS hz
    unfold j_Pre_checkIndex_8e157_9 at h
    cases h
  refine lv_if_lt (tgt := 9) hx hb dJ3_checkIndex_8e157_1 rfl (fun hc1 => ?_) (fun hc1 => ?_)
  · have h := itt_e h hc1
    exact J9 h _ _ _ (lv_sub hl [0, 1, 2] rfl) hP hS hz
  · have h := itf_e h hc1
    refine lv_iload_n hx hb dJ3_checkIndex_8e157_4 rfl (lv_at hl 0 rfl) ?_
    refine lv_iload_n hx hb dJ3_checkIndex_8e157_5 rfl (lv_at hl 1 rfl) ?_
    refine lv_icmp_lt (tgt := 16) hx hb dJ3_checkIndex_8e157_6 rfl (fun hc6 => ?_) (fun hc6 => ?_)
    · have h := itt_e h hc6
      refine lv_iload_n hx hb dJ3_checkIndex_8e157_16 rfl (lv_at hl 0 rfl) ?_
      exact w_iret hx hb hret rfl hlk hK hP hS hz hE (q_p1 h) dJ3_checkIndex_8e157_17
    · have h := itf_e h hc6
      exact J9 h _ _ _ (lv_sub hl [0, 1, 2] rfl) hP hS hz
def f_Str_checkIndex_df160 (v : Va) (a1 : Int32) (a2 : Int32) : Option Unit := (f_Pre_checkIndex_8e157 a1 a2).bind fun q5 => some ()
theorem c_Str_checkIndex_df160 {a1 : Int32} {a2 : Int32} (hF : EF Γ sh) {q : Unit} (h : f_Str_checkIndex_df160 v a1 a2 = some q) : MetV l yJ0_checkIndex_df160 cJ0_checkIndex_df160 2 none 2 Γ sh v w n [.int a1, .int a2] (fun u => u = v) := by
  unfold f_Str_checkIndex_df160 at h
  refine w_start pn_J0 (Nat.le_of_ble_eq_true rfl) fun p e s m args below meth c hx hb hml hret hlk hnm hts hown hK hP hz hE hS ls hl => ?_
  rcases hF.2.1 with hfo | ⟨fo, hfo⟩
  · refine lv_iload_n hx hb dJ0_checkIndex_df160_0 rfl (lv_at hl 0 rfl) ?_
    refine lv_iload_n hx hb dJ0_checkIndex_df160_1 rfl (lv_at hl 1 rfl) ?_
    refine va_gets hx hb (hE.Z hfo) hS hown (hts _ jJ0_1053) (fun _ q => q) dJ0_checkIndex_df160_2 ?_
    obtain ⟨q5, e5, h⟩ := obn_e h
    refine z_Si (r1 := q5) (v1 := v) hx hb hml hts hown hK hP hS hz hE (c_Pre_checkIndex_n e5) kJ3_checkIndex_8e157 mJ0_1059 rfl rfl hl.1 (Nat.le_of_ble_eq_true rfl) ⟨Nat.le_of_ble_eq_true rfl, Nat.le_of_ble_eq_true rfl⟩ ⟨Nat.le_refl _, Nat.le_refl _⟩ dJ0_checkIndex_df160_5 fun H1 locs1 hz hP hS => ?_
    refine lv_pop hx hb dJ0_checkIndex_df160_8 rfl ?_
    exact w_vret hx hb hret hlk hK hP hS hz hE rfl dJ0_checkIndex_df160_9
  · refine lv_iload_n hx hb dJ0_checkIndex_df160_0 rfl (lv_at hl 0 rfl) ?_
    refine lv_iload_n hx hb dJ0_checkIndex_df160_1 rfl (lv_at hl 1 rfl) ?_
    refine va_gets hx hb (hE.Z hfo) hS hown (hts _ jJ0_1053) (fun _ q => q) dJ0_checkIndex_df160_2 ?_
    obtain ⟨q5, e5, h⟩ := obn_e h
    refine z_Si (r1 := q5) (v1 := v) hx hb hml hts hown hK hP hS hz hE (c_Pre_checkIndex_8e157  e5) kJ3_checkIndex_8e157 mJ0_1059 rfl rfl hl.1 (Nat.le_of_ble_eq_true rfl) ⟨Nat.le_of_ble_eq_true rfl, Nat.le_of_ble_eq_true rfl⟩ ⟨Nat.le_refl _, Nat.le_refl _⟩ dJ0_checkIndex_df160_5 fun H1 locs1 hz hP hS => ?_
    refine lv_pop hx hb dJ0_checkIndex_df160_8 rfl ?_
    exact w_vret hx hb hret hlk hK hP hS hz hE rfl dJ0_checkIndex_df160_9
def f_SL1_charAt_3b067 (v : Va) (bs1 : List Int32) (a2 : Int32) : Option Int32 := (f_Str_checkIndex_df160 v a2 (nI bs1.length)).bind fun q3 => if a2 < 0 ∨ bs1.length ≤ a2.toNatClampNeg then none else some ((((bs1.getD a2.toNatClampNeg 0) &&& 255).toUInt32 % 65536).toInt32)
theorem c_SL1_charAt_3b067 {av1 : Nat} {bs1 : List Int32} {a2 : Int32} (hy1 : sb_ok Γ sh av1 bs1) (hF : EF Γ sh) {q : Int32} (h : f_SL1_charAt_3b067 v bs1 a2 = some q) : MetI l yJ1_charAt_3b067 cJ1_charAt_3b067 2 (some .char) 3 Γ sh v w n [.ref av1, .int a2] (fun x u => x = q ∧ u = v) := by
  unfold f_SL1_charAt_3b067 at h
  refine w_start pn_J1 (Nat.le_of_ble_eq_true rfl) fun p e s m args below meth c hx hb hml hret hlk hnm hts hown hK hP hz hE hS ls hl => ?_
  refine lv_iload_n hx hb dJ1_charAt_3b067_0 rfl (lv_at hl 1 rfl) ?_
  refine lv_aload_n hx hb dJ1_charAt_3b067_1 rfl (lv_at hl 0 rfl) ?_
  refine va_tlen hx hb (hE.T hy1.1) hS (v := nI bs1.length) rfl dJ1_charAt_3b067_2 ?_
  obtain ⟨q3, e3, h⟩ := obn_e h
  refine z_Sv (v1 := v) hx hb hml hts hown hK hP hS hz hE (c_Str_checkIndex_df160 hF e3) kJ0_checkIndex_df160 mJ1_9 rfl rfl hl.1 (Nat.le_of_ble_eq_true rfl) ⟨Nat.le_of_ble_eq_true rfl, Nat.le_of_ble_eq_true rfl⟩ ⟨Nat.le_refl _, Nat.le_refl _⟩ dJ1_charAt_3b067_3 fun H1 locs1 hz hP hS => ?_
  refine lv_aload_n hx hb dJ1_charAt_3b067_6 rfl (lv_at hl 0 rfl) ?_
  refine lv_iload_n hx hb dJ1_charAt_3b067_7 rfl (lv_at hl 1 rfl) ?_
  obtain ⟨hn8, h⟩ := itn_e h
  refine va_tb hx hb (hE.T hy1.1) hS hn8 (v := .int (bs1.getD a2.toNatClampNeg 0)) rfl dJ1_charAt_3b067_8 ?_
  refine lv_sipush (v := 255) hx hb dJ1_charAt_3b067_9 rfl ?_
  refine lv_iand hx hb dJ1_charAt_3b067_12 ?_
  refine lv_i2c (v := (((bs1.getD a2.toNatClampNeg 0) &&& 255).toUInt32 % 65536).toInt32) hx hb dJ1_charAt_3b067_13 rfl ?_
  exact w_iret hx hb hret (q_ch _) hlk hK hP hS hz hE (q_p1 h) dJ1_charAt_3b067_14
def f_SL1_canEncode_9a6ad (a1 : Int32) : Option Bool := if a1 < 0 then (some false) else (if 255 < a1 then (some false) else (some true))
theorem c_SL1_canEncode_9a6ad {a1 : Int32} {q : Bool} (h : f_SL1_canEncode_9a6ad a1 = some q) : MetI l yJ1_canEncode_9a6ad cJ1_canEncode_9a6ad 1 (some .boolean) 0 Γ sh v w n [.int a1] (fun x u => x = q_b q ∧ u = v) := by
  unfold f_SL1_canEncode_9a6ad at h
  refine w_start pn_J1 (Nat.le_of_ble_eq_true rfl) fun p e s m args below meth c hx hb hml hret hlk hnm hts hown hK hP hz hE hS ls hl => ?_
  refine lv_iload_n hx hb dJ1_canEncode_9a6ad_0 rfl (lv_at hl 0 rfl) ?_
  refine lv_if_lt (tgt := 15) hx hb dJ1_canEncode_9a6ad_1 rfl (fun hc1 => ?_) (fun hc1 => ?_)
  · have h := itt_e h hc1
    refine lv_iconst (v := 0) hx hb dJ1_canEncode_9a6ad_15 rfl ?_
    exact w_iret hx hb hret rfl hlk hK hP hS hz hE (q_p1b h) dJ1_canEncode_9a6ad_16
  · have h := itf_e h hc1
    refine lv_iload_n hx hb dJ1_canEncode_9a6ad_4 rfl (lv_at hl 0 rfl) ?_
    refine lv_sipush (v := 255) hx hb dJ1_canEncode_9a6ad_5 rfl ?_
    refine lv_icmp_gt (tgt := 15) hx hb dJ1_canEncode_9a6ad_8 rfl (fun hc8 => ?_) (fun hc8 => ?_)
    · have h := itt_e h hc8
      refine lv_iconst (v := 0) hx hb dJ1_canEncode_9a6ad_15 rfl ?_
      exact w_iret hx hb hret rfl hlk hK hP hS hz hE (q_p1b h) dJ1_canEncode_9a6ad_16
    · have h := itf_e h hc8
      refine lv_iconst (v := 1) hx hb dJ1_canEncode_9a6ad_11 rfl ?_
      refine lv_goto (tgt := 16) hx hb dJ1_canEncode_9a6ad_12 rfl ?_
      exact w_iret hx hb hret rfl hlk hK hP hS hz hE (q_p1b h) dJ1_canEncode_9a6ad_16
def b_SL1_indexOfChar_4cfef_7 (bs1 : List Int32) (a2 : Int32) (a4 : Int32) (K7 : Int32 → Option Int32) (t7 : Int32) : Option Int32 := if a4 ≤ t7 then (some (-1)) else (if t7 < 0 ∨ bs1.length ≤ t7.toNatClampNeg then none else if (bs1.getD t7.toNatClampNeg 0) = (a2.toInt8.toInt32) then (some t7) else (K7 (t7 + 1)))
def f_SL1_indexOfChar_4cfef (z : Nat) (bs1 : List Int32) (a2 : Int32) (a3 : Int32) (a4 : Int32) : Option Int32 := rp (b_SL1_indexOfChar_4cfef_7 bs1 a2 a4) z a3
theorem c_SL1_indexOfChar_4cfef {av1 : Nat} {bs1 : List Int32} {a2 : Int32} {a3 : Int32} {a4 : Int32} (hy1 : sb_ok Γ sh av1 bs1) {q : Int32} (h : f_SL1_indexOfChar_4cfef z bs1 a2 a3 a4 = some q) : MetI l yJ1_indexOfChar_4cfef cJ1_indexOfChar_4cfef 6 (some .int) 0 Γ sh v w n [.ref av1, .int a2, .int a3, .int a4] (fun x u => x = q ∧ u = v) := by
  unfold f_SL1_indexOfChar_4cfef at h
  refine w_start pn_J1 (Nat.le_of_ble_eq_true rfl) fun p e s m args below meth c hx hb hml hret hlk hnm hts hown hK hP hz hE hS ls hl => ?_
  refine lv_iload_n hx hb dJ1_indexOfChar_4cfef_0 rfl (lv_at hl 1 rfl) ?_
  refine lv_i2b (v := a2.toInt8.toInt32) hx hb dJ1_indexOfChar_4cfef_1 rfl ?_
  refine lv_istore (lv' := [(4, .int (a2.toInt8.toInt32)), (0, .ref av1), (1, .int a2), (2, .int a3), (3, .int a4)]) hx hb dJ1_indexOfChar_4cfef_2 hl (by decide) rfl fun ls hl => ?_
  refine lv_iload_n hx hb dJ1_indexOfChar_4cfef_4 rfl (lv_at hl 3 rfl) ?_
  refine lv_istore (lv' := [(5, .int a3), (4, .int (a2.toInt8.toInt32)), (0, .ref av1), (1, .int a2), (2, .int a3), (3, .int a4)]) hx hb dJ1_indexOfChar_4cfef_5 hl (by decide) rfl fun ls hl => ?_
  have L7 : ∀ (fu : Nat) (t7 : Int32), rp (b_SL1_indexOfChar_4cfef_7 bs1 a2 a4) fu t7 = some q → ∀ (H1 : Heap) (locs1 : List Loc) (ls1 : Array Slot), lv_has ls1 6 [(0, .ref av1), (3, .int a4), (4, .int (a2.toInt8.toInt32)), (5, .int t7)] → Wd Γ sh v w H1 → va_S (gA Γ sh n) s.heap H1 locs1 → H1.size = Γ.2.1 + n → wpI Γ sh w n 0 (fun x u => x = q ∧ u = v) p l e s m args below meth c H1 locs1 (F0 m 7 ls1 []) := by
    refine q_loop (fun K7 ih7 t7 h H1 locs1 ls hl hP hS hz => ?_)
    unfold b_SL1_indexOfChar_4cfef_7 at h
    refine lv_iload hx hb dJ1_indexOfChar_4cfef_7 (lv_at hl 3 rfl) ?_
    refine lv_iload_n hx hb dJ1_indexOfChar_4cfef_9 rfl (lv_at hl 1 rfl) ?_
    refine lv_icmp_ge (tgt := 31) hx hb dJ1_indexOfChar_4cfef_10 rfl (fun hc10 => ?_) (fun hc10 => ?_)
    · have h := itt_e h hc10
      refine lv_iconst (v := (-1)) hx hb dJ1_indexOfChar_4cfef_31 rfl ?_
      exact w_iret hx hb hret rfl hlk hK hP hS hz hE (q_p1 h) dJ1_indexOfChar_4cfef_32
    · have h := itf_e h hc10
      refine lv_aload_n hx hb dJ1_indexOfChar_4cfef_13 rfl (lv_at hl 0 rfl) ?_
      refine lv_iload hx hb dJ1_indexOfChar_4cfef_14 (lv_at hl 3 rfl) ?_
      obtain ⟨hn16, h⟩ := itn_e h
      refine va_tb hx hb (hE.T hy1.1) hS hn16 (v := .int (bs1.getD t7.toNatClampNeg 0)) rfl dJ1_indexOfChar_4cfef_16 ?_
      refine lv_iload hx hb dJ1_indexOfChar_4cfef_17 (lv_at hl 2 rfl) ?_
      refine lv_icmp_ne (tgt := 25) hx hb dJ1_indexOfChar_4cfef_19 rfl (fun hc19 => ?_) (fun hc19 => ?_)
      · have h := itf_e h hc19
        refine lv_iinc (k := 3) (v := (t7 + 1)) (lv' := [(5, .int (t7 + 1)), (0, .ref av1), (3, .int a4), (4, .int (a2.toInt8.toInt32))]) hx hb dJ1_indexOfChar_4cfef_25 hl rfl rfl (by decide) rfl fun ls hl => ?_
        refine lv_goto (tgt := 7) hx hb dJ1_indexOfChar_4cfef_28 rfl ?_
        exact ih7 (t7 + 1) h _ _ _ (lv_sub hl [1, 2, 3, 0] rfl) hP hS hz
      · have h := itt_e h hc19
        refine lv_iload hx hb dJ1_indexOfChar_4cfef_22 (lv_at hl 3 rfl) ?_
        exact w_iret hx hb hret rfl hlk hK hP hS hz hE (q_p1 h) dJ1_indexOfChar_4cfef_24
  exact L7 z a3 h _ _ _ (lv_sub hl [2, 5, 1, 0] rfl) hP hS hz
def f_SL1_indexOf_4cfef (z : Nat) (bs1 : List Int32) (a2 : Int32) (a3 : Int32) (a4 : Int32) : Option Int32 := (f_SL1_canEncode_9a6ad a2).bind fun q1 => if (q_b q1) = 0 then (some (-1)) else (if (q_max a3 0) < (q_min a4 (nI bs1.length)) then ((f_SL1_indexOfChar_4cfef z bs1 a2 (q_max a3 0) (q_min a4 (nI bs1.length))).bind fun q33 => some q33) else (some (-1)))
theorem c_SL1_indexOf_4cfef {av1 : Nat} {bs1 : List Int32} {a2 : Int32} {a3 : Int32} {a4 : Int32} (hy1 : sb_ok Γ sh av1 bs1) {q : Int32} (h : f_SL1_indexOf_4cfef z bs1 a2 a3 a4 = some q) : MetI l yJ1_indexOf_4cfef cJ1_indexOf_4cfef 4 (some .int) 1 Γ sh v w n [.ref av1, .int a2, .int a3, .int a4] (fun x u => x = q ∧ u = v) := by
  unfold f_SL1_indexOf_4cfef at h
  refine w_start pn_J1 (Nat.le_of_ble_eq_true rfl) fun p e s m args below meth c hx hb hml hret hlk hnm hts hown hK hP hz hE hS ls hl => ?_
  refine lv_iload_n hx hb dJ1_indexOf_4cfef_0 rfl (lv_at hl 1 rfl) ?_
  obtain ⟨q1, e1, h⟩ := obn_e h
  refine z_Si (r1 := (q_b q1)) (v1 := v) hx hb hml hts hown hK hP hS hz hE (c_SL1_canEncode_9a6ad  e1) kJ1_canEncode_9a6ad mJ1_88 rfl rfl hl.1 (Nat.le_of_ble_eq_true rfl) ⟨Nat.le_of_ble_eq_true rfl, Nat.le_of_ble_eq_true rfl⟩ ⟨Nat.le_refl _, Nat.le_refl _⟩ dJ1_indexOf_4cfef_1 fun H1 locs1 hz hP hS => ?_
  refine lv_if_ne (tgt := 9) hx hb dJ1_indexOf_4cfef_4 rfl (fun hc4 => ?_) (fun hc4 => ?_)
  · have h := itf_e h hc4
    refine lv_iload_n hx hb dJ1_indexOf_4cfef_9 rfl (lv_at hl 2 rfl) ?_
    refine lv_iconst (v := 0) hx hb dJ1_indexOf_4cfef_10 rfl ?_
    refine z_mmax hx hb hml hl.1 hts hown xJ1_92 ⟨Nat.le_of_ble_eq_true rfl, Nat.le_of_ble_eq_true rfl⟩ (Nat.le_of_ble_eq_true rfl) ⟨Nat.le_refl _, Nat.le_refl _⟩ dJ1_indexOf_4cfef_11 ?_
    refine lv_istore_n (lv' := [(2, .int (q_max a3 0)), (0, .ref av1), (1, .int a2), (3, .int a4)]) hx hb dJ1_indexOf_4cfef_14 rfl hl (by decide) rfl fun ls hl => ?_
    refine lv_iload_n hx hb dJ1_indexOf_4cfef_15 rfl (lv_at hl 3 rfl) ?_
    refine lv_aload_n hx hb dJ1_indexOf_4cfef_16 rfl (lv_at hl 1 rfl) ?_
    refine va_tlen hx hb (hE.T hy1.1) hS (v := nI bs1.length) rfl dJ1_indexOf_4cfef_17 ?_
    refine z_mmin hx hb hml hl.1 hts hown xJ1_38 ⟨Nat.le_of_ble_eq_true rfl, Nat.le_of_ble_eq_true rfl⟩ (Nat.le_of_ble_eq_true rfl) ⟨Nat.le_refl _, Nat.le_refl _⟩ dJ1_indexOf_4cfef_18 ?_
    refine lv_istore_n (lv' := [(3, .int (q_min a4 (nI bs1.length))), (2, .int (q_max a3 0)), (0, .ref av1), (1, .int a2)]) hx hb dJ1_indexOf_4cfef_21 rfl hl (by decide) rfl fun ls hl => ?_
    refine lv_iload_n hx hb dJ1_indexOf_4cfef_22 rfl (lv_at hl 1 rfl) ?_
    refine lv_iload_n hx hb dJ1_indexOf_4cfef_23 rfl (lv_at hl 0 rfl) ?_
    refine lv_icmp_lt (tgt := 29) hx hb dJ1_indexOf_4cfef_24 rfl (fun hc24 => ?_) (fun hc24 => ?_)
    · have h := itt_e h hc24
      refine lv_aload_n hx hb dJ1_indexOf_4cfef_29 rfl (lv_at hl 2 rfl) ?_
      refine lv_iload_n hx hb dJ1_indexOf_4cfef_30 rfl (lv_at hl 3 rfl) ?_
      refine lv_iload_n hx hb dJ1_indexOf_4cfef_31 rfl (lv_at hl 1 rfl) ?_
      refine lv_iload_n hx hb dJ1_indexOf_4cfef_32 rfl (lv_at hl 0 rfl) ?_
      obtain ⟨q33, e33, h⟩ := obn_e h
      refine z_Si (r1 := q33) (v1 := v) hx hb hml hts hown hK hP hS hz hE (c_SL1_indexOfChar_4cfef hy1 e33) kJ1_indexOfChar_4cfef mJ1_95 rfl rfl hl.1 (Nat.le_of_ble_eq_true rfl) ⟨Nat.le_of_ble_eq_true rfl, Nat.le_of_ble_eq_true rfl⟩ ⟨Nat.le_refl _, Nat.le_refl _⟩ dJ1_indexOf_4cfef_33 fun H1 locs1 hz hP hS => ?_
      exact w_iret hx hb hret rfl hlk hK hP hS hz hE (q_p1 h) dJ1_indexOf_4cfef_36
    · have h := itf_e h hc24
      refine lv_iconst (v := (-1)) hx hb dJ1_indexOf_4cfef_27 rfl ?_
      exact w_iret hx hb hret rfl hlk hK hP hS hz hE (q_p1 h) dJ1_indexOf_4cfef_28
  · have h := itt_e h hc4
    refine lv_iconst (v := (-1)) hx hb dJ1_indexOf_4cfef_7 rfl ?_
    exact w_iret hx hb hret rfl hlk hK hP hS hz hE (q_p1 h) dJ1_indexOf_4cfef_8
def f_Str_coder_7d493 (v : Va) (bs : List Int32) : Option Int32 := if (1 : Int32) = 0 then (some 1) else (some 0)
theorem c_Str_coder_7d493 {ad : Nat} {av : Nat} {bs : List Int32} (hs : sl_ok Γ sh ad av bs) (hF : EF Γ sh) {q : Int32} (h : f_Str_coder_7d493 v bs = some q) : MetI l yJ0_coder_7d493 cJ0_coder_7d493 1 (some .byte) 0 Γ sh v w n [.ref ad] (fun x u => x = q ∧ u = v) := by
  unfold f_Str_coder_7d493 at h
  refine w_start pn_J0 (Nat.le_of_ble_eq_true rfl) fun p e s m args below meth c hx hb hml hret hlk hnm hts hown hK hP hz hE hS ls hl => ?_
  refine va_gets hx hb (hE.Z hF.1) hS hown (hts _ jJ0_38) (fun _ q => q) dJ0_coder_7d493_0 ?_
  refine lv_if_eq (tgt := 13) hx hb dJ0_coder_7d493_3 rfl (fun hc3 => ?_) (fun hc3 => ?_)
  · have h := itt_e h hc3
    refine lv_iconst (v := 1) hx hb dJ0_coder_7d493_13 rfl ?_
    exact w_iret hx hb hret rfl hlk hK hP hS hz hE (q_p1 h) dJ0_coder_7d493_14
  · have h := itf_e h hc3
    refine lv_aload_n hx hb dJ0_coder_7d493_6 rfl (lv_at hl 0 rfl) ?_
    refine vk_getf hx hb (hE.OF hs.2.1) hS hown (hts _ jJ0_15) (fun _ q => q) dJ0_coder_7d493_7 ?_
    refine lv_goto (tgt := 14) hx hb dJ0_coder_7d493_10 rfl ?_
    exact w_iret hx hb hret rfl hlk hK hP hS hz hE (q_p1 h) dJ0_coder_7d493_14
def f_Str_isLatin1_aae02 (v : Va) (bs : List Int32) : Option Bool := if (1 : Int32) = 0 then (some false) else (if (0 : Int32) = 0 then (some true) else (some false))
theorem c_Str_isLatin1_aae02 {ad : Nat} {av : Nat} {bs : List Int32} (hs : sl_ok Γ sh ad av bs) (hF : EF Γ sh) {q : Bool} (h : f_Str_isLatin1_aae02 v bs = some q) : MetI l yJ0_isLatin1_aae02 cJ0_isLatin1_aae02 1 (some .boolean) 0 Γ sh v w n [.ref ad] (fun x u => x = q_b q ∧ u = v) := by
  unfold f_Str_isLatin1_aae02 at h
  refine w_start pn_J0 (Nat.le_of_ble_eq_true rfl) fun p e s m args below meth c hx hb hml hret hlk hnm hts hown hK hP hz hE hS ls hl => ?_
  refine va_gets hx hb (hE.Z hF.1) hS hown (hts _ jJ0_38) (fun _ q => q) dJ0_isLatin1_aae02_0 ?_
  refine lv_if_eq (tgt := 17) hx hb dJ0_isLatin1_aae02_3 rfl (fun hc3 => ?_) (fun hc3 => ?_)
  · have h := itt_e h hc3
    refine lv_iconst (v := 0) hx hb dJ0_isLatin1_aae02_17 rfl ?_
    exact w_iret hx hb hret rfl hlk hK hP hS hz hE (q_p1b h) dJ0_isLatin1_aae02_18
  · have h := itf_e h hc3
    refine lv_aload_n hx hb dJ0_isLatin1_aae02_6 rfl (lv_at hl 0 rfl) ?_
    refine vk_getf hx hb (hE.OF hs.2.1) hS hown (hts _ jJ0_15) (fun _ q => q) dJ0_isLatin1_aae02_7 ?_
    refine lv_if_ne (tgt := 17) hx hb dJ0_isLatin1_aae02_10 rfl (fun hc10 => ?_) (fun hc10 => ?_)
    · have h := itf_e h hc10
      refine lv_iconst (v := 0) hx hb dJ0_isLatin1_aae02_17 rfl ?_
      exact w_iret hx hb hret rfl hlk hK hP hS hz hE (q_p1b h) dJ0_isLatin1_aae02_18
    · have h := itt_e h hc10
      refine lv_iconst (v := 1) hx hb dJ0_isLatin1_aae02_13 rfl ?_
      refine lv_goto (tgt := 18) hx hb dJ0_isLatin1_aae02_14 rfl ?_
      exact w_iret hx hb hret rfl hlk hK hP hS hz hE (q_p1b h) dJ0_isLatin1_aae02_18
def f_Str_length_8abf5 (v : Va) (bs : List Int32) : Option Int32 := (f_Str_coder_7d493 v bs).bind fun q6 => some ((nI bs.length) >>> (q6 &&& 31))
theorem c_Str_length_8abf5 {ad : Nat} {av : Nat} {bs : List Int32} (hs : sl_ok Γ sh ad av bs) (hF : EF Γ sh) {q : Int32} (h : f_Str_length_8abf5 v bs = some q) : MetI l yJ0_length_8abf5 cJ0_length_8abf5 1 (some .int) 1 Γ sh v w n [.ref ad] (fun x u => x = q ∧ u = v) := by
  unfold f_Str_length_8abf5 at h
  refine w_start pn_J0 (Nat.le_of_ble_eq_true rfl) fun p e s m args below meth c hx hb hml hret hlk hnm hts hown hK hP hz hE hS ls hl => ?_
  refine lv_aload_n hx hb dJ0_length_8abf5_0 rfl (lv_at hl 0 rfl) ?_
  refine vk_getf hx hb (hE.OF hs.2.2.1) hS hown (hts _ jJ0_9) (fun _ q => q) dJ0_length_8abf5_1 ?_
  refine va_tlen hx hb (hE.T hs.2.2.2.1) hS (v := nI bs.length) rfl dJ0_length_8abf5_4 ?_
  refine lv_aload_n hx hb dJ0_length_8abf5_5 rfl (lv_at hl 0 rfl) ?_
  obtain ⟨q6, e6, h⟩ := obn_e h
  refine z_sVi (a := ad) (r1 := q6) (v1 := v) hx hb hml hts hown hK hP hS hz hE (c_Str_coder_7d493 hs hF e6) kJ0_coder_7d493 mJ0_335 (sl_recv hE hS hs) rfl rfl hl.1 (Nat.le_of_ble_eq_true rfl) ⟨Nat.le_of_ble_eq_true rfl, Nat.le_of_ble_eq_true rfl⟩ ⟨Nat.le_refl _, Nat.le_refl _⟩ dJ0_length_8abf5_6 fun H1 locs1 hz hP hS => ?_
  refine lv_ishr hx hb dJ0_length_8abf5_9 ?_
  exact w_iret hx hb hret rfl hlk hK hP hS hz hE (q_p1 h) dJ0_length_8abf5_10
def f_Str_charAt_5068e (v : Va) (bs : List Int32) (a1 : Int32) : Option Int32 := (f_Str_isLatin1_aae02 v bs).bind fun q1 => if (q_b q1) = 0 then none else ((f_SL1_charAt_3b067 v bs a1).bind fun q12 => if ¬ narrow .char (.int q12) = .int q12 then none else some q12)
theorem c_Str_charAt_5068e {ad : Nat} {av : Nat} {bs : List Int32} {a1 : Int32} (hs : sl_ok Γ sh ad av bs) (hF : EF Γ sh) {q : Int32} (h : f_Str_charAt_5068e v bs a1 = some q) : MetI l yJ0_charAt_5068e cJ0_charAt_5068e 2 (some .char) 4 Γ sh v w n [.ref ad, .int a1] (fun x u => x = q ∧ u = v) := by
  unfold f_Str_charAt_5068e at h
  refine w_start pn_J0 (Nat.le_of_ble_eq_true rfl) fun p e s m args below meth c hx hb hml hret hlk hnm hts hown hK hP hz hE hS ls hl => ?_
  refine lv_aload_n hx hb dJ0_charAt_5068e_0 rfl (lv_at hl 0 rfl) ?_
  obtain ⟨q1, e1, h⟩ := obn_e h
  refine z_sVi (a := ad) (r1 := (q_b q1)) (v1 := v) hx hb hml hts hown hK hP hS hz hE (c_Str_isLatin1_aae02 hs hF e1) kJ0_isLatin1_aae02 mJ0_492 (sl_recv hE hS hs) rfl rfl hl.1 (Nat.le_of_ble_eq_true rfl) ⟨Nat.le_of_ble_eq_true rfl, Nat.le_of_ble_eq_true rfl⟩ ⟨Nat.le_refl _, Nat.le_refl _⟩ dJ0_charAt_5068e_1 fun H1 locs1 hz hP hS => ?_
  refine lv_if_eq (tgt := 16) hx hb dJ0_charAt_5068e_4 rfl (fun hc4 => ?_) (fun hc4 => ?_)
  · have h := itt_e h hc4
    refine lv_aload_n hx hb dJ0_charAt_5068e_16 rfl (lv_at hl 0 rfl) ?_
    refine vk_getf hx hb (hE.OF hs.2.2.1) hS hown (hts _ jJ0_9) (fun _ q => q) dJ0_charAt_5068e_17 ?_
    refine lv_iload_n hx hb dJ0_charAt_5068e_20 rfl (lv_at hl 1 rfl) ?_
    cases h
  · have h := itf_e h hc4
    refine lv_aload_n hx hb dJ0_charAt_5068e_7 rfl (lv_at hl 0 rfl) ?_
    refine vk_getf hx hb (hE.OF hs.2.2.1) hS hown (hts _ jJ0_9) (fun _ q => q) dJ0_charAt_5068e_8 ?_
    refine lv_iload_n hx hb dJ0_charAt_5068e_11 rfl (lv_at hl 1 rfl) ?_
    obtain ⟨q12, e12, h⟩ := obn_e h
    refine z_Si (r1 := q12) (v1 := v) hx hb hml hts hown hK hP hS hz hE (c_SL1_charAt_3b067 hs.2.2.2 hF e12) kJ1_charAt_3b067 mJ0_495 rfl rfl hl.1 (Nat.le_of_ble_eq_true rfl) ⟨Nat.le_of_ble_eq_true rfl, Nat.le_of_ble_eq_true rfl⟩ ⟨Nat.le_refl _, Nat.le_refl _⟩ dJ0_charAt_5068e_12 fun H1 locs1 hz hP hS => ?_
    obtain ⟨hn15, h⟩ := itn_e h
    exact w_iret hx hb hret (Decidable.not_not.mp hn15) hlk hK hP hS hz hE (q_p1 h) dJ0_charAt_5068e_15
def f_Str_indexOf_7cf53 (z : Nat) (v : Va) (bs : List Int32) (a1 : Int32) (a2 : Int32) : Option Int32 := (f_Str_isLatin1_aae02 v bs).bind fun q1 => if (q_b q1) = 0 then ((f_Str_length_8abf5 v bs).bind fun q30 => none) else ((f_Str_length_8abf5 v bs).bind fun q14 => (f_SL1_indexOf_4cfef z bs a1 a2 q14).bind fun q17 => some q17)
theorem c_Str_indexOf_7cf53 {ad : Nat} {av : Nat} {bs : List Int32} {a1 : Int32} {a2 : Int32} (hs : sl_ok Γ sh ad av bs) (hF : EF Γ sh) {q : Int32} (h : f_Str_indexOf_7cf53 z v bs a1 a2 = some q) : MetI l yJ0_indexOf_7cf53 cJ0_indexOf_7cf53 3 (some .int) 2 Γ sh v w n [.ref ad, .int a1, .int a2] (fun x u => x = q ∧ u = v) := by
  unfold f_Str_indexOf_7cf53 at h
  refine w_start pn_J0 (Nat.le_of_ble_eq_true rfl) fun p e s m args below meth c hx hb hml hret hlk hnm hts hown hK hP hz hE hS ls hl => ?_
  refine lv_aload_n hx hb dJ0_indexOf_7cf53_0 rfl (lv_at hl 0 rfl) ?_
  obtain ⟨q1, e1, h⟩ := obn_e h
  refine z_sVi (a := ad) (r1 := (q_b q1)) (v1 := v) hx hb hml hts hown hK hP hS hz hE (c_Str_isLatin1_aae02 hs hF e1) kJ0_isLatin1_aae02 mJ0_492 (sl_recv hE hS hs) rfl rfl hl.1 (Nat.le_of_ble_eq_true rfl) ⟨Nat.le_of_ble_eq_true rfl, Nat.le_of_ble_eq_true rfl⟩ ⟨Nat.le_refl _, Nat.le_refl _⟩ dJ0_indexOf_7cf53_1 fun H1 locs1 hz hP hS => ?_
  refine lv_if_eq (tgt := 23) hx hb dJ0_indexOf_7cf53_4 rfl (fun hc4 => ?_) (fun hc4 => ?_)
  · have h := itt_e h hc4
    refine lv_aload_n hx hb dJ0_indexOf_7cf53_23 rfl (lv_at hl 0 rfl) ?_
    refine vk_getf hx hb (hE.OF hs.2.2.1) hS hown (hts _ jJ0_9) (fun _ q => q) dJ0_indexOf_7cf53_24 ?_
    refine lv_iload_n hx hb dJ0_indexOf_7cf53_27 rfl (lv_at hl 1 rfl) ?_
    refine lv_iload_n hx hb dJ0_indexOf_7cf53_28 rfl (lv_at hl 2 rfl) ?_
    refine lv_aload_n hx hb dJ0_indexOf_7cf53_29 rfl (lv_at hl 0 rfl) ?_
    obtain ⟨q30, e30, h⟩ := obn_e h
    refine z_sVi (a := ad) (r1 := q30) (v1 := v) hx hb hml hts hown hK hP hS hz hE (c_Str_length_8abf5 hs hF e30) kJ0_length_8abf5 mJ0_505 (sl_recv hE hS hs) rfl rfl hl.1 (Nat.le_of_ble_eq_true rfl) ⟨Nat.le_of_ble_eq_true rfl, Nat.le_of_ble_eq_true rfl⟩ ⟨Nat.le_refl _, Nat.le_refl _⟩ dJ0_indexOf_7cf53_30 fun H1 locs1 hz hP hS => ?_
    cases h
  · have h := itf_e h hc4
    refine lv_aload_n hx hb dJ0_indexOf_7cf53_7 rfl (lv_at hl 0 rfl) ?_
    refine vk_getf hx hb (hE.OF hs.2.2.1) hS hown (hts _ jJ0_9) (fun _ q => q) dJ0_indexOf_7cf53_8 ?_
    refine lv_iload_n hx hb dJ0_indexOf_7cf53_11 rfl (lv_at hl 1 rfl) ?_
    refine lv_iload_n hx hb dJ0_indexOf_7cf53_12 rfl (lv_at hl 2 rfl) ?_
    refine lv_aload_n hx hb dJ0_indexOf_7cf53_13 rfl (lv_at hl 0 rfl) ?_
    obtain ⟨q14, e14, h⟩ := obn_e h
    refine z_sVi (a := ad) (r1 := q14) (v1 := v) hx hb hml hts hown hK hP hS hz hE (c_Str_length_8abf5 hs hF e14) kJ0_length_8abf5 mJ0_505 (sl_recv hE hS hs) rfl rfl hl.1 (Nat.le_of_ble_eq_true rfl) ⟨Nat.le_of_ble_eq_true rfl, Nat.le_of_ble_eq_true rfl⟩ ⟨Nat.le_refl _, Nat.le_refl _⟩ dJ0_indexOf_7cf53_14 fun H1 locs1 hz hP hS => ?_
    obtain ⟨q17, e17, h⟩ := obn_e h
    refine z_Si (r1 := q17) (v1 := v) hx hb hml hts hown hK hP hS hz hE (c_SL1_indexOf_4cfef hs.2.2.2 e17) kJ1_indexOf_4cfef mJ0_637 rfl rfl hl.1 (Nat.le_of_ble_eq_true rfl) ⟨Nat.le_of_ble_eq_true rfl, Nat.le_of_ble_eq_true rfl⟩ ⟨Nat.le_refl _, Nat.le_refl _⟩ dJ0_indexOf_7cf53_17 fun H1 locs1 hz hP hS => ?_
    refine lv_goto (tgt := 36) hx hb dJ0_indexOf_7cf53_20 rfl ?_
    exact w_iret hx hb hret rfl hlk hK hP hS hz hE (q_p1 h) dJ0_indexOf_7cf53_36
def f_Str_indexOf_0f7a4 (z : Nat) (v : Va) (bs : List Int32) (a1 : Int32) : Option Int32 := (f_Str_indexOf_7cf53 z v bs a1 0).bind fun q3 => some q3
theorem c_Str_indexOf_0f7a4 {ad : Nat} {av : Nat} {bs : List Int32} {a1 : Int32} (hs : sl_ok Γ sh ad av bs) (hF : EF Γ sh) {q : Int32} (h : f_Str_indexOf_0f7a4 z v bs a1 = some q) : MetI l yJ0_indexOf_0f7a4 cJ0_indexOf_0f7a4 2 (some .int) 3 Γ sh v w n [.ref ad, .int a1] (fun x u => x = q ∧ u = v) := by
  unfold f_Str_indexOf_0f7a4 at h
  refine w_start pn_J0 (Nat.le_of_ble_eq_true rfl) fun p e s m args below meth c hx hb hml hret hlk hnm hts hown hK hP hz hE hS ls hl => ?_
  refine lv_aload_n hx hb dJ0_indexOf_0f7a4_0 rfl (lv_at hl 0 rfl) ?_
  refine lv_iload_n hx hb dJ0_indexOf_0f7a4_1 rfl (lv_at hl 1 rfl) ?_
  refine lv_iconst (v := 0) hx hb dJ0_indexOf_0f7a4_2 rfl ?_
  obtain ⟨q3, e3, h⟩ := obn_e h
  refine z_sVi (a := ad) (r1 := q3) (v1 := v) hx hb hml hts hown hK hP hS hz hE (c_Str_indexOf_7cf53 hs hF e3) kJ0_indexOf_7cf53 mJ0_633 (sl_recv hE hS hs) rfl rfl hl.1 (Nat.le_of_ble_eq_true rfl) ⟨Nat.le_of_ble_eq_true rfl, Nat.le_of_ble_eq_true rfl⟩ ⟨Nat.le_refl _, Nat.le_refl _⟩ dJ0_indexOf_0f7a4_3 fun H1 locs1 hz hP hS => ?_
  exact w_iret hx hb hret rfl hlk hK hP hS hz hE (q_p1 h) dJ0_indexOf_0f7a4_6
end GE
