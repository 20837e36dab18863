
section GE
variable {l : Launch} {Γ : Cx} {sh : Sh} {v : Va} {w : Vl} {n z : Nat}
def f_Quay_counted (v : Va) (a1 : Int32) : Option Int32 := if a1 = 0 then (some (v 97 1)) else (if a1 = 1 then (some (v 97 2)) else (if a1 = 2 then (some (v 61 0)) else (if a1 = 3 then (some (v 61 1)) else (if a1 = 4 then (some (v 61 2)) else (if a1 = 5 then (some (v 61 3)) else (if a1 = 6 then (some (v 61 4)) else (if a1 = 13 then (some (v 0 8)) else ((f_Stand_tellAll v 97 a1).bind fun q138 => some q138))))))))
theorem c_Quay_counted {a1 : Int32} (hk : isQuay sh) {q : Int32} (h : f_Quay_counted v a1 = some q) : MetI l yX11_counted cX11_counted 2 (some .int) 3 Γ sh v w n [.ref (Γ.2.1 + 0), .int a1] (fun x u => x = q ∧ u = v) := by
  unfold f_Quay_counted at h
  refine w_start pn_X11 (Nat.le_of_ble_eq_true rfl) fun p e s m args below meth c hx hb hml hret hlk hnm hts hown hK hP hz hE hS ls hl => ?_
  refine lv_iload_n hx hb dX11_counted_0 rfl (lv_at hl 1 rfl) ?_
  by_cases hc1_0 : a1 = 0
  · have h := itt_e h hc1_0
    refine z_tI (y := 0) (tgt := 72) hx hb dX11_counted_1 hc1_0 (by decide) (by decide) rfl rfl ?_
    refine lv_aload_n hx hb dX11_counted_72 rfl (lv_at hl 0 rfl) ?_
    refine w_gr (k := 0) (r := 97) hx hb hts hown hK hP fX11_48 hk.1 rfl dX11_counted_73 ?_
    refine w_gi (k := 97) hx hb hts hown hK hP fX11_267 hk.2.2.2.2.2.1.1 rfl dX11_counted_76 ?_
    exact w_iret hx hb hret rfl hlk hK hP hS hz hE (q_p1 h) dX11_counted_79
  have h := itf_e h hc1_0
  by_cases hc1_1 : a1 = 1
  · have h := itt_e h hc1_1
    refine z_tI (y := 1) (tgt := 80) hx hb dX11_counted_1 hc1_1 (by decide) (by decide) rfl rfl ?_
    refine lv_aload_n hx hb dX11_counted_80 rfl (lv_at hl 0 rfl) ?_
    refine w_gr (k := 0) (r := 97) hx hb hts hown hK hP fX11_48 hk.1 rfl dX11_counted_81 ?_
    refine w_gi (k := 97) hx hb hts hown hK hP fX11_170 hk.2.2.2.2.2.1.1 rfl dX11_counted_84 ?_
    exact w_iret hx hb hret rfl hlk hK hP hS hz hE (q_p1 h) dX11_counted_87
  have h := itf_e h hc1_1
  by_cases hc1_2 : a1 = 2
  · have h := itt_e h hc1_2
    refine z_tI (y := 2) (tgt := 88) hx hb dX11_counted_1 hc1_2 (by decide) (by decide) rfl rfl ?_
    refine lv_aload_n hx hb dX11_counted_88 rfl (lv_at hl 0 rfl) ?_
    refine w_gr (k := 0) (r := 61) hx hb hts hown hK hP fX11_39 hk.1 rfl dX11_counted_89 ?_
    refine w_gi (k := 61) hx hb hts hown hK hP fX11_270 hk.2.2.2.2.1.1 rfl dX11_counted_92 ?_
    exact w_iret hx hb hret rfl hlk hK hP hS hz hE (q_p1 h) dX11_counted_95
  have h := itf_e h hc1_2
  by_cases hc1_3 : a1 = 3
  · have h := itt_e h hc1_3
    refine z_tI (y := 3) (tgt := 96) hx hb dX11_counted_1 hc1_3 (by decide) (by decide) rfl rfl ?_
    refine lv_aload_n hx hb dX11_counted_96 rfl (lv_at hl 0 rfl) ?_
    refine w_gr (k := 0) (r := 61) hx hb hts hown hK hP fX11_39 hk.1 rfl dX11_counted_97 ?_
    refine w_gi (k := 61) hx hb hts hown hK hP fX11_135 hk.2.2.2.2.1.1 rfl dX11_counted_100 ?_
    exact w_iret hx hb hret rfl hlk hK hP hS hz hE (q_p1 h) dX11_counted_103
  have h := itf_e h hc1_3
  by_cases hc1_4 : a1 = 4
  · have h := itt_e h hc1_4
    refine z_tI (y := 4) (tgt := 104) hx hb dX11_counted_1 hc1_4 (by decide) (by decide) rfl rfl ?_
    refine lv_aload_n hx hb dX11_counted_104 rfl (lv_at hl 0 rfl) ?_
    refine w_gr (k := 0) (r := 61) hx hb hts hown hK hP fX11_39 hk.1 rfl dX11_counted_105 ?_
    refine w_gi (k := 61) hx hb hts hown hK hP fX11_238 hk.2.2.2.2.1.1 rfl dX11_counted_108 ?_
    exact w_iret hx hb hret rfl hlk hK hP hS hz hE (q_p1 h) dX11_counted_111
  have h := itf_e h hc1_4
  by_cases hc1_5 : a1 = 5
  · have h := itt_e h hc1_5
    refine z_tI (y := 5) (tgt := 112) hx hb dX11_counted_1 hc1_5 (by decide) (by decide) rfl rfl ?_
    refine lv_aload_n hx hb dX11_counted_112 rfl (lv_at hl 0 rfl) ?_
    refine w_gr (k := 0) (r := 61) hx hb hts hown hK hP fX11_39 hk.1 rfl dX11_counted_113 ?_
    refine w_gi (k := 61) hx hb hts hown hK hP fX11_247 hk.2.2.2.2.1.1 rfl dX11_counted_116 ?_
    exact w_iret hx hb hret rfl hlk hK hP hS hz hE (q_p1 h) dX11_counted_119
  have h := itf_e h hc1_5
  by_cases hc1_6 : a1 = 6
  · have h := itt_e h hc1_6
    refine z_tI (y := 6) (tgt := 120) hx hb dX11_counted_1 hc1_6 (by decide) (by decide) rfl rfl ?_
    refine lv_aload_n hx hb dX11_counted_120 rfl (lv_at hl 0 rfl) ?_
    refine w_gr (k := 0) (r := 61) hx hb hts hown hK hP fX11_39 hk.1 rfl dX11_counted_121 ?_
    refine w_gi (k := 61) hx hb hts hown hK hP fX11_143 hk.2.2.2.2.1.1 rfl dX11_counted_124 ?_
    exact w_iret hx hb hret rfl hlk hK hP hS hz hE (q_p1 h) dX11_counted_127
  have h := itf_e h hc1_6
  by_cases hc1_13 : a1 = 13
  · have h := itt_e h hc1_13
    refine z_tI (y := 13) (tgt := 128) hx hb dX11_counted_1 hc1_13 (by decide) (by decide) rfl rfl ?_
    refine lv_aload_n hx hb dX11_counted_128 rfl (lv_at hl 0 rfl) ?_
    refine w_gi (k := 0) hx hb hts hown hK hP fX11_67 hk.1 rfl dX11_counted_129 ?_
    exact w_iret hx hb hret rfl hlk hK hP hS hz hE (q_p1 h) dX11_counted_132
  have h := itf_e h hc1_13
  refine z_tD (tgt := 133) hx hb [0, 1, 2, 3, 4, 5, 6, 13] dX11_counted_1 (q_nc hc1_0 (q_nc hc1_1 (q_nc hc1_2 (q_nc hc1_3 (q_nc hc1_4 (q_nc hc1_5 (q_nc hc1_6 (q_nc hc1_13 q_nn)))))))) (by decide) (by decide) rfl ?_
  refine lv_aload_n hx hb dX11_counted_133 rfl (lv_at hl 0 rfl) ?_
  refine w_gr (k := 0) (r := 97) hx hb hts hown hK hP fX11_48 hk.1 rfl dX11_counted_134 ?_
  refine lv_iload_n hx hb dX11_counted_137 rfl (lv_at hl 1 rfl) ?_
  obtain ⟨q138, e138, h⟩ := obn_e h
  refine z_Vi (k := 97) (r1 := q138) (v1 := v) hx hb hml hts hown hK hP hS hz hE (c_Stand_tellAll hk.2.2.2.2.2.1 e138) kX8_tellAll mX11_225 hk.2.2.2.2.2.1.1 rfl rfl rfl hl.1 (Nat.le_of_ble_eq_true rfl) ⟨Nat.le_of_ble_eq_true rfl, Nat.le_of_ble_eq_true rfl⟩ ⟨Nat.le_refl _, Nat.le_refl _⟩ dX11_counted_138 fun H1 locs1 hz hP hS => ?_
  exact w_iret hx hb hret rfl hlk hK hP hS hz hE (q_p1 h) dX11_counted_141
def b_Quay_digestOfLots_20 (v : Va) (K5 : (Int64 × Int32) → Option Int64) (t5 : Int64 × Int32) (K20 : (Int64 × Int32) → Option Int64) (t20 : Int64 × Int32) : Option Int64 := if 6 < t20.2 then (K5 (t20.1, (t5.2 + 1))) else ((f_Stand_tellLot v 97 t5.2 t20.2).bind fun q40 => K20 (((t20.1 * 31) + (q40.toInt64)), (t20.2 + 1)))
def b_Quay_digestOfLots_5 (z : Nat) (v : Va) (K5 : (Int64 × Int32) → Option Int64) (t5 : Int64 × Int32) : Option Int64 := if (v 61 3) ≤ t5.2 then (some t5.1) else (rp (b_Quay_digestOfLots_20 v K5 t5) z (t5.1, 0))
def f_Quay_digestOfLots (z : Nat) (v : Va) (a1 : Int64) : Option Int64 := rp (b_Quay_digestOfLots_5 z v) z (a1, 0)
theorem c_Quay_digestOfLots {a1 : Int64} (hk : isQuay sh) {q : Int64} (h : f_Quay_digestOfLots z v a1 = some q) : MetL l yX11_digestOfLots cX11_digestOfLots 7 (some .long) 3 Γ sh v w n [.ref (Γ.2.1 + 0), .long a1] (fun x u => x = q ∧ u = v) := by
  unfold f_Quay_digestOfLots at h
  refine w_start pn_X11 (Nat.le_of_ble_eq_true rfl) fun p e s m args below meth c hx hb hml hret hlk hnm hts hown hK hP hz hE hS ls hl => ?_
  refine lv_lload_n hx hb dX11_digestOfLots_0 rfl (lv_at hl 1 rfl) ?_
  refine lv_lstore_n (lv' := [(3, .long a1), (0, .ref (Γ.2.1 + 0)), (1, .long a1)]) hx hb dX11_digestOfLots_1 rfl hl (by decide) rfl fun ls hl => ?_
  refine lv_iconst (v := 0) hx hb dX11_digestOfLots_2 rfl ?_
  refine lv_istore (lv' := [(5, .int 0), (3, .long a1), (0, .ref (Γ.2.1 + 0)), (1, .long a1)]) hx hb dX11_digestOfLots_3 hl (by decide) rfl fun ls hl => ?_
  have L5 : ∀ (fu : Nat) (t5 : Int64 × Int32), rp (b_Quay_digestOfLots_5 z v) fu t5 = some q → ∀ (H1 : Heap) (locs1 : List Loc) (ls1 : Array Slot), lv_has ls1 7 [(0, .ref (Γ.2.1 + 0)), (3, .long t5.1), (5, .int t5.2)] → Wd Γ sh v w H1 → va_S (gA Γ sh n) s.heap H1 locs1 → H1.size = Γ.2.1 + n → wpL Γ sh w n 3 (fun x u => x = q ∧ u = v) p l e s m args below meth c H1 locs1 (F0 m 5 ls1 []) := by
    refine q_loop (fun K5 ih5 t5 h H1 locs1 ls hl hP hS hz => ?_)
    unfold b_Quay_digestOfLots_5 at h
    refine lv_iload hx hb dX11_digestOfLots_5 (lv_at hl 2 rfl) ?_
    refine lv_aload_n hx hb dX11_digestOfLots_7 rfl (lv_at hl 0 rfl) ?_
    refine w_gr (k := 0) (r := 61) hx hb hts hown hK hP fX11_39 hk.1 rfl dX11_digestOfLots_8 ?_
    refine w_gi (k := 61) hx hb hts hown hK hP fX11_247 hk.2.2.2.2.1.1 rfl dX11_digestOfLots_11 ?_
    refine lv_icmp_ge (tgt := 58) hx hb dX11_digestOfLots_14 rfl (fun hc14 => ?_) (fun hc14 => ?_)
    · have h := itt_e h hc14
      refine lv_lload_n hx hb dX11_digestOfLots_58 rfl (lv_at hl 1 rfl) ?_
      exact w_lret hx hb hret hlk hK hP hS hz hE (q_p1 h) dX11_digestOfLots_59
    · have h := itf_e h hc14
      refine lv_iconst (v := 0) hx hb dX11_digestOfLots_17 rfl ?_
      refine lv_istore (lv' := [(6, .int 0), (0, .ref (Γ.2.1 + 0)), (3, .long t5.1), (5, .int t5.2)]) hx hb dX11_digestOfLots_18 hl (by decide) rfl fun ls hl => ?_
      have L20 : ∀ (fu : Nat) (t20 : Int64 × Int32), rp (b_Quay_digestOfLots_20 v K5 t5) fu t20 = some q → ∀ (H1 : Heap) (locs1 : List Loc) (ls1 : Array Slot), lv_has ls1 7 [(0, .ref (Γ.2.1 + 0)), (3, .long t20.1), (5, .int t5.2), (6, .int t20.2)] → Wd Γ sh v w H1 → va_S (gA Γ sh n) s.heap H1 locs1 → H1.size = Γ.2.1 + n → wpL Γ sh w n 3 (fun x u => x = q ∧ u = v) p l e s m args below meth c H1 locs1 (F0 m 20 ls1 []) := by
        refine q_loop (fun K20 ih20 t20 h H1 locs1 ls hl hP hS hz => ?_)
        unfold b_Quay_digestOfLots_20 at h
        refine lv_iload hx hb dX11_digestOfLots_20 (lv_at hl 3 rfl) ?_
        refine lv_bipush (v := 6) hx hb dX11_digestOfLots_22 rfl ?_
        refine lv_icmp_gt (tgt := 52) hx hb dX11_digestOfLots_24 rfl (fun hc24 => ?_) (fun hc24 => ?_)
        · have h := itt_e h hc24
          refine lv_iinc (k := 2) (v := (t5.2 + 1)) (lv' := [(5, .int (t5.2 + 1)), (0, .ref (Γ.2.1 + 0)), (3, .long t20.1), (6, .int t20.2)]) hx hb dX11_digestOfLots_52 hl rfl rfl (by decide) rfl fun ls hl => ?_
          refine lv_goto (tgt := 5) hx hb dX11_digestOfLots_55 rfl ?_
          exact ih5 (t20.1, (t5.2 + 1)) h _ _ _ (lv_sub hl [1, 2, 0] rfl) hP hS hz
        · have h := itf_e h hc24
          refine lv_lload_n hx hb dX11_digestOfLots_27 rfl (lv_at hl 1 rfl) ?_
          refine lv_ldc2 hx hb hown (hts _ qX11_252) dX11_digestOfLots_28 ?_
          refine lv_lmul hx hb dX11_digestOfLots_31 ?_
          refine lv_aload_n hx hb dX11_digestOfLots_32 rfl (lv_at hl 0 rfl) ?_
          refine w_gr (k := 0) (r := 97) hx hb hts hown hK hP fX11_48 hk.1 rfl dX11_digestOfLots_33 ?_
          refine lv_iload hx hb dX11_digestOfLots_36 (lv_at hl 2 rfl) ?_
          refine lv_iload hx hb dX11_digestOfLots_38 (lv_at hl 3 rfl) ?_
          obtain ⟨q40, e40, h⟩ := obn_e h
          refine z_Vi (k := 97) (r1 := q40) (v1 := v) hx hb hml hts hown hK hP hS hz hE (c_Stand_tellLot hk.2.2.2.2.2.1 e40) kX8_tellLot mX11_123 hk.2.2.2.2.2.1.1 rfl rfl rfl hl.1 (Nat.le_of_ble_eq_true rfl) ⟨Nat.le_of_ble_eq_true rfl, Nat.le_of_ble_eq_true rfl⟩ ⟨Nat.le_refl _, Nat.le_refl _⟩ dX11_digestOfLots_40 fun H1 locs1 hz hP hS => ?_
          refine lv_i2l (v := (q40.toInt64)) hx hb dX11_digestOfLots_43 rfl ?_
          refine lv_ladd hx hb dX11_digestOfLots_44 ?_
          refine lv_lstore_n (lv' := [(3, .long ((t20.1 * 31) + (q40.toInt64))), (0, .ref (Γ.2.1 + 0)), (5, .int t5.2), (6, .int t20.2)]) hx hb dX11_digestOfLots_45 rfl hl (by decide) rfl fun ls hl => ?_
          refine lv_iinc (k := 3) (v := (t20.2 + 1)) (lv' := [(6, .int (t20.2 + 1)), (3, .long ((t20.1 * 31) + (q40.toInt64))), (0, .ref (Γ.2.1 + 0)), (5, .int t5.2)]) hx hb dX11_digestOfLots_46 hl rfl rfl (by decide) rfl fun ls hl => ?_
          refine lv_goto (tgt := 20) hx hb dX11_digestOfLots_49 rfl ?_
          exact ih20 (((t20.1 * 31) + (q40.toInt64)), (t20.2 + 1)) h _ _ _ (lv_sub hl [2, 1, 3, 0] rfl) hP hS hz
      exact L20 z (t5.1, 0) h _ _ _ (lv_sub hl [1, 2, 3, 0] rfl) hP hS hz
  exact L5 z (a1, 0) h _ _ _ (lv_sub hl [2, 1, 0] rfl) hP hS hz
def b_Quay_digestOfMerchants_54 (v : Va) (K5 : (Int64 × Int32) → Option Int64) (t5 : Int64 × Int32) (K54 : (Int64 × Int32) → Option Int64) (t54 : Int64 × Int32) : Option Int64 := if (v 61 2) ≤ t54.2 then (K5 (t54.1, (t5.2 + 1))) else ((f_Debts_between v 110 t5.2 t54.2).bind fun q82 => K54 (((t54.1 * 31) + (q82.toInt64)), (t54.2 + 1)))
def b_Quay_digestOfMerchants_20 (z : Nat) (v : Va) (K5 : (Int64 × Int32) → Option Int64) (t5 : Int64 × Int32) (K20 : (Int64 × Int32) → Option Int64) (t20 : Int64 × Int32) : Option Int64 := if 5 < t20.2 then (rp (b_Quay_digestOfMerchants_54 v K5 t5) z (t20.1, 0)) else ((f_Stand_tellMerchant z v 97 t5.2 t20.2).bind fun q39 => K20 (((t20.1 * 31) + (q39.toInt64)), (t20.2 + 1)))
def b_Quay_digestOfMerchants_5 (z : Nat) (v : Va) (K5 : (Int64 × Int32) → Option Int64) (t5 : Int64 × Int32) : Option Int64 := if (v 61 2) ≤ t5.2 then (some t5.1) else (rp (b_Quay_digestOfMerchants_20 z v K5 t5) z (t5.1, 0))
def f_Quay_digestOfMerchants (z : Nat) (v : Va) (a1 : Int64) : Option Int64 := rp (b_Quay_digestOfMerchants_5 z v) z (a1, 0)
theorem c_Quay_digestOfMerchants {a1 : Int64} (hk : isQuay sh) {q : Int64} (h : f_Quay_digestOfMerchants z v a1 = some q) : MetL l yX11_digestOfMerchants cX11_digestOfMerchants 7 (some .long) 3 Γ sh v w n [.ref (Γ.2.1 + 0), .long a1] (fun x u => x = q ∧ u = v) := by
  unfold f_Quay_digestOfMerchants at h
  refine w_start pn_X11 (Nat.le_of_ble_eq_true rfl) fun p e s m args below meth c hx hb hml hret hlk hnm hts hown hK hP hz hE hS ls hl => ?_
  refine lv_lload_n hx hb dX11_digestOfMerchants_0 rfl (lv_at hl 1 rfl) ?_
  refine lv_lstore_n (lv' := [(3, .long a1), (0, .ref (Γ.2.1 + 0)), (1, .long a1)]) hx hb dX11_digestOfMerchants_1 rfl hl (by decide) rfl fun ls hl => ?_
  refine lv_iconst (v := 0) hx hb dX11_digestOfMerchants_2 rfl ?_
  refine lv_istore (lv' := [(5, .int 0), (3, .long a1), (0, .ref (Γ.2.1 + 0)), (1, .long a1)]) hx hb dX11_digestOfMerchants_3 hl (by decide) rfl fun ls hl => ?_
  have L5 : ∀ (fu : Nat) (t5 : Int64 × Int32), rp (b_Quay_digestOfMerchants_5 z v) fu t5 = some q → ∀ (H1 : Heap) (locs1 : List Loc) (ls1 : Array Slot), lv_has ls1 7 [(0, .ref (Γ.2.1 + 0)), (3, .long t5.1), (5, .int t5.2)] → Wd Γ sh v w H1 → va_S (gA Γ sh n) s.heap H1 locs1 → H1.size = Γ.2.1 + n → wpL Γ sh w n 3 (fun x u => x = q ∧ u = v) p l e s m args below meth c H1 locs1 (F0 m 5 ls1 []) := by
    refine q_loop (fun K5 ih5 t5 h H1 locs1 ls hl hP hS hz => ?_)
    unfold b_Quay_digestOfMerchants_5 at h
    refine lv_iload hx hb dX11_digestOfMerchants_5 (lv_at hl 2 rfl) ?_
    refine lv_aload_n hx hb dX11_digestOfMerchants_7 rfl (lv_at hl 0 rfl) ?_
    refine w_gr (k := 0) (r := 61) hx hb hts hown hK hP fX11_39 hk.1 rfl dX11_digestOfMerchants_8 ?_
    refine w_gi (k := 61) hx hb hts hown hK hP fX11_238 hk.2.2.2.2.1.1 rfl dX11_digestOfMerchants_11 ?_
    refine lv_icmp_ge (tgt := 100) hx hb dX11_digestOfMerchants_14 rfl (fun hc14 => ?_) (fun hc14 => ?_)
    · have h := itt_e h hc14
      refine lv_lload_n hx hb dX11_digestOfMerchants_100 rfl (lv_at hl 1 rfl) ?_
      exact w_lret hx hb hret hlk hK hP hS hz hE (q_p1 h) dX11_digestOfMerchants_101
    · have h := itf_e h hc14
      refine lv_iconst (v := 0) hx hb dX11_digestOfMerchants_17 rfl ?_
      refine lv_istore (lv' := [(6, .int 0), (0, .ref (Γ.2.1 + 0)), (3, .long t5.1), (5, .int t5.2)]) hx hb dX11_digestOfMerchants_18 hl (by decide) rfl fun ls hl => ?_
      have L20 : ∀ (fu : Nat) (t20 : Int64 × Int32), rp (b_Quay_digestOfMerchants_20 z v K5 t5) fu t20 = some q → ∀ (H1 : Heap) (locs1 : List Loc) (ls1 : Array Slot), lv_has ls1 7 [(0, .ref (Γ.2.1 + 0)), (3, .long t20.1), (5, .int t5.2), (6, .int t20.2)] → Wd Γ sh v w H1 → va_S (gA Γ sh n) s.heap H1 locs1 → H1.size = Γ.2.1 + n → wpL Γ sh w n 3 (fun x u => x = q ∧ u = v) p l e s m args below meth c H1 locs1 (F0 m 20 ls1 []) := by
        refine q_loop (fun K20 ih20 t20 h H1 locs1 ls hl hP hS hz => ?_)
        unfold b_Quay_digestOfMerchants_20 at h
        refine lv_iload hx hb dX11_digestOfMerchants_20 (lv_at hl 3 rfl) ?_
        refine lv_iconst (v := 5) hx hb dX11_digestOfMerchants_22 rfl ?_
        refine lv_icmp_gt (tgt := 51) hx hb dX11_digestOfMerchants_23 rfl (fun hc23 => ?_) (fun hc23 => ?_)
        · have h := itt_e h hc23
          refine lv_iconst (v := 0) hx hb dX11_digestOfMerchants_51 rfl ?_
          refine lv_istore (lv' := [(6, .int 0), (0, .ref (Γ.2.1 + 0)), (3, .long t20.1), (5, .int t5.2)]) hx hb dX11_digestOfMerchants_52 hl (by decide) rfl fun ls hl => ?_
          have L54 : ∀ (fu : Nat) (t54 : Int64 × Int32), rp (b_Quay_digestOfMerchants_54 v K5 t5) fu t54 = some q → ∀ (H1 : Heap) (locs1 : List Loc) (ls1 : Array Slot), lv_has ls1 7 [(0, .ref (Γ.2.1 + 0)), (3, .long t54.1), (5, .int t5.2), (6, .int t54.2)] → Wd Γ sh v w H1 → va_S (gA Γ sh n) s.heap H1 locs1 → H1.size = Γ.2.1 + n → wpL Γ sh w n 3 (fun x u => x = q ∧ u = v) p l e s m args below meth c H1 locs1 (F0 m 54 ls1 []) := by
            refine q_loop (fun K54 ih54 t54 h H1 locs1 ls hl hP hS hz => ?_)
            unfold b_Quay_digestOfMerchants_54 at h
            refine lv_iload hx hb dX11_digestOfMerchants_54 (lv_at hl 3 rfl) ?_
            refine lv_aload_n hx hb dX11_digestOfMerchants_56 rfl (lv_at hl 0 rfl) ?_
            refine w_gr (k := 0) (r := 61) hx hb hts hown hK hP fX11_39 hk.1 rfl dX11_digestOfMerchants_57 ?_
            refine w_gi (k := 61) hx hb hts hown hK hP fX11_238 hk.2.2.2.2.1.1 rfl dX11_digestOfMerchants_60 ?_
            refine lv_icmp_ge (tgt := 94) hx hb dX11_digestOfMerchants_63 rfl (fun hc63 => ?_) (fun hc63 => ?_)
            · have h := itt_e h hc63
              refine lv_iinc (k := 2) (v := (t5.2 + 1)) (lv' := [(5, .int (t5.2 + 1)), (0, .ref (Γ.2.1 + 0)), (3, .long t54.1), (6, .int t54.2)]) hx hb dX11_digestOfMerchants_94 hl rfl rfl (by decide) rfl fun ls hl => ?_
              refine lv_goto (tgt := 5) hx hb dX11_digestOfMerchants_97 rfl ?_
              exact ih5 (t54.1, (t5.2 + 1)) h _ _ _ (lv_sub hl [1, 2, 0] rfl) hP hS hz
            · have h := itf_e h hc63
              refine lv_lload_n hx hb dX11_digestOfMerchants_66 rfl (lv_at hl 1 rfl) ?_
              refine lv_ldc2 hx hb hown (hts _ qX11_252) dX11_digestOfMerchants_67 ?_
              refine lv_lmul hx hb dX11_digestOfMerchants_70 ?_
              refine lv_aload_n hx hb dX11_digestOfMerchants_71 rfl (lv_at hl 0 rfl) ?_
              refine w_gr (k := 0) (r := 97) hx hb hts hown hK hP fX11_48 hk.1 rfl dX11_digestOfMerchants_72 ?_
              refine w_gr (k := 97) (r := 110) hx hb hts hown hK hP fX11_153 hk.2.2.2.2.2.1.1 rfl dX11_digestOfMerchants_75 ?_
              refine lv_iload hx hb dX11_digestOfMerchants_78 (lv_at hl 2 rfl) ?_
              refine lv_iload hx hb dX11_digestOfMerchants_80 (lv_at hl 3 rfl) ?_
              obtain ⟨q82, e82, h⟩ := obn_e h
              refine z_Vi (k := 110) (r1 := q82) (v1 := v) hx hb hml hts hown hK hP hS hz hE (c_Debts_between hk.2.2.2.2.2.1.2.2.2.2.2.2.2.2.1 e82) kX1_between mX11_157 hk.2.2.2.2.2.1.2.2.2.2.2.2.2.2.1.1 rfl rfl rfl hl.1 (Nat.le_of_ble_eq_true rfl) ⟨Nat.le_of_ble_eq_true rfl, Nat.le_of_ble_eq_true rfl⟩ ⟨Nat.le_refl _, Nat.le_refl _⟩ dX11_digestOfMerchants_82 fun H1 locs1 hz hP hS => ?_
              refine lv_i2l (v := (q82.toInt64)) hx hb dX11_digestOfMerchants_85 rfl ?_
              refine lv_ladd hx hb dX11_digestOfMerchants_86 ?_
              refine lv_lstore_n (lv' := [(3, .long ((t54.1 * 31) + (q82.toInt64))), (0, .ref (Γ.2.1 + 0)), (5, .int t5.2), (6, .int t54.2)]) hx hb dX11_digestOfMerchants_87 rfl hl (by decide) rfl fun ls hl => ?_
              refine lv_iinc (k := 3) (v := (t54.2 + 1)) (lv' := [(6, .int (t54.2 + 1)), (3, .long ((t54.1 * 31) + (q82.toInt64))), (0, .ref (Γ.2.1 + 0)), (5, .int t5.2)]) hx hb dX11_digestOfMerchants_88 hl rfl rfl (by decide) rfl fun ls hl => ?_
              refine lv_goto (tgt := 54) hx hb dX11_digestOfMerchants_91 rfl ?_
              exact ih54 (((t54.1 * 31) + (q82.toInt64)), (t54.2 + 1)) h _ _ _ (lv_sub hl [2, 1, 3, 0] rfl) hP hS hz
          exact L54 z (t20.1, 0) h _ _ _ (lv_sub hl [1, 2, 3, 0] rfl) hP hS hz
        · have h := itf_e h hc23
          refine lv_lload_n hx hb dX11_digestOfMerchants_26 rfl (lv_at hl 1 rfl) ?_
          refine lv_ldc2 hx hb hown (hts _ qX11_252) dX11_digestOfMerchants_27 ?_
          refine lv_lmul hx hb dX11_digestOfMerchants_30 ?_
          refine lv_aload_n hx hb dX11_digestOfMerchants_31 rfl (lv_at hl 0 rfl) ?_
          refine w_gr (k := 0) (r := 97) hx hb hts hown hK hP fX11_48 hk.1 rfl dX11_digestOfMerchants_32 ?_
          refine lv_iload hx hb dX11_digestOfMerchants_35 (lv_at hl 2 rfl) ?_
          refine lv_iload hx hb dX11_digestOfMerchants_37 (lv_at hl 3 rfl) ?_
          obtain ⟨q39, e39, h⟩ := obn_e h
          refine z_Vi (k := 97) (r1 := q39) (v1 := v) hx hb hml hts hown hK hP hS hz hE (c_Stand_tellMerchant hk.2.2.2.2.2.1 e39) kX8_tellMerchant mX11_132 hk.2.2.2.2.2.1.1 rfl rfl rfl hl.1 (Nat.le_of_ble_eq_true rfl) ⟨Nat.le_of_ble_eq_true rfl, Nat.le_of_ble_eq_true rfl⟩ ⟨Nat.le_refl _, Nat.le_refl _⟩ dX11_digestOfMerchants_39 fun H1 locs1 hz hP hS => ?_
          refine lv_i2l (v := (q39.toInt64)) hx hb dX11_digestOfMerchants_42 rfl ?_
          refine lv_ladd hx hb dX11_digestOfMerchants_43 ?_
          refine lv_lstore_n (lv' := [(3, .long ((t20.1 * 31) + (q39.toInt64))), (0, .ref (Γ.2.1 + 0)), (5, .int t5.2), (6, .int t20.2)]) hx hb dX11_digestOfMerchants_44 rfl hl (by decide) rfl fun ls hl => ?_
          refine lv_iinc (k := 3) (v := (t20.2 + 1)) (lv' := [(6, .int (t20.2 + 1)), (3, .long ((t20.1 * 31) + (q39.toInt64))), (0, .ref (Γ.2.1 + 0)), (5, .int t5.2)]) hx hb dX11_digestOfMerchants_45 hl rfl rfl (by decide) rfl fun ls hl => ?_
          refine lv_goto (tgt := 20) hx hb dX11_digestOfMerchants_48 rfl ?_
          exact ih20 (((t20.1 * 31) + (q39.toInt64)), (t20.2 + 1)) h _ _ _ (lv_sub hl [2, 1, 3, 0] rfl) hP hS hz
      exact L20 z (t5.1, 0) h _ _ _ (lv_sub hl [1, 2, 3, 0] rfl) hP hS hz
  exact L5 z (a1, 0) h _ _ _ (lv_sub hl [2, 1, 0] rfl) hP hS hz
def b_Quay_digestOfGuilds_20 (z : Nat) (v : Va) (K5 : (Int64 × Int32) → Option Int64) (t5 : Int64 × Int32) (K20 : (Int64 × Int32) → Option Int64) (t20 : Int64 × Int32) : Option Int64 := if 3 < t20.2 then (K5 (t20.1, (t5.2 + 1))) else ((f_Stand_tellGuild z v 97 t5.2 t20.2).bind fun q39 => K20 (((t20.1 * 31) + (q39.toInt64)), (t20.2 + 1)))
def b_Quay_digestOfGuilds_5 (z : Nat) (v : Va) (K5 : (Int64 × Int32) → Option Int64) (t5 : Int64 × Int32) : Option Int64 := if (v 61 1) ≤ t5.2 then (some t5.1) else (rp (b_Quay_digestOfGuilds_20 z v K5 t5) z (t5.1, 0))
def f_Quay_digestOfGuilds (z : Nat) (v : Va) (a1 : Int64) : Option Int64 := rp (b_Quay_digestOfGuilds_5 z v) z (a1, 0)
theorem c_Quay_digestOfGuilds {a1 : Int64} (hk : isQuay sh) {q : Int64} (h : f_Quay_digestOfGuilds z v a1 = some q) : MetL l yX11_digestOfGuilds cX11_digestOfGuilds 7 (some .long) 3 Γ sh v w n [.ref (Γ.2.1 + 0), .long a1] (fun x u => x = q ∧ u = v) := by
  unfold f_Quay_digestOfGuilds at h
  refine w_start pn_X11 (Nat.le_of_ble_eq_true rfl) fun p e s m args below meth c hx hb hml hret hlk hnm hts hown hK hP hz hE hS ls hl => ?_
  refine lv_lload_n hx hb dX11_digestOfGuilds_0 rfl (lv_at hl 1 rfl) ?_
  refine lv_lstore_n (lv' := [(3, .long a1), (0, .ref (Γ.2.1 + 0)), (1, .long a1)]) hx hb dX11_digestOfGuilds_1 rfl hl (by decide) rfl fun ls hl => ?_
  refine lv_iconst (v := 0) hx hb dX11_digestOfGuilds_2 rfl ?_
  refine lv_istore (lv' := [(5, .int 0), (3, .long a1), (0, .ref (Γ.2.1 + 0)), (1, .long a1)]) hx hb dX11_digestOfGuilds_3 hl (by decide) rfl fun ls hl => ?_
  have L5 : ∀ (fu : Nat) (t5 : Int64 × Int32), rp (b_Quay_digestOfGuilds_5 z v) fu t5 = some q → ∀ (H1 : Heap) (locs1 : List Loc) (ls1 : Array Slot), lv_has ls1 7 [(0, .ref (Γ.2.1 + 0)), (3, .long t5.1), (5, .int t5.2)] → Wd Γ sh v w H1 → va_S (gA Γ sh n) s.heap H1 locs1 → H1.size = Γ.2.1 + n → wpL Γ sh w n 3 (fun x u => x = q ∧ u = v) p l e s m args below meth c H1 locs1 (F0 m 5 ls1 []) := by
    refine q_loop (fun K5 ih5 t5 h H1 locs1 ls hl hP hS hz => ?_)
    unfold b_Quay_digestOfGuilds_5 at h
    refine lv_iload hx hb dX11_digestOfGuilds_5 (lv_at hl 2 rfl) ?_
    refine lv_aload_n hx hb dX11_digestOfGuilds_7 rfl (lv_at hl 0 rfl) ?_
    refine w_gr (k := 0) (r := 61) hx hb hts hown hK hP fX11_39 hk.1 rfl dX11_digestOfGuilds_8 ?_
    refine w_gi (k := 61) hx hb hts hown hK hP fX11_135 hk.2.2.2.2.1.1 rfl dX11_digestOfGuilds_11 ?_
    refine lv_icmp_ge (tgt := 57) hx hb dX11_digestOfGuilds_14 rfl (fun hc14 => ?_) (fun hc14 => ?_)
    · have h := itt_e h hc14
      refine lv_lload_n hx hb dX11_digestOfGuilds_57 rfl (lv_at hl 1 rfl) ?_
      exact w_lret hx hb hret hlk hK hP hS hz hE (q_p1 h) dX11_digestOfGuilds_58
    · have h := itf_e h hc14
      refine lv_iconst (v := 0) hx hb dX11_digestOfGuilds_17 rfl ?_
      refine lv_istore (lv' := [(6, .int 0), (0, .ref (Γ.2.1 + 0)), (3, .long t5.1), (5, .int t5.2)]) hx hb dX11_digestOfGuilds_18 hl (by decide) rfl fun ls hl => ?_
      have L20 : ∀ (fu : Nat) (t20 : Int64 × Int32), rp (b_Quay_digestOfGuilds_20 z v K5 t5) fu t20 = some q → ∀ (H1 : Heap) (locs1 : List Loc) (ls1 : Array Slot), lv_has ls1 7 [(0, .ref (Γ.2.1 + 0)), (3, .long t20.1), (5, .int t5.2), (6, .int t20.2)] → Wd Γ sh v w H1 → va_S (gA Γ sh n) s.heap H1 locs1 → H1.size = Γ.2.1 + n → wpL Γ sh w n 3 (fun x u => x = q ∧ u = v) p l e s m args below meth c H1 locs1 (F0 m 20 ls1 []) := by
        refine q_loop (fun K20 ih20 t20 h H1 locs1 ls hl hP hS hz => ?_)
        unfold b_Quay_digestOfGuilds_20 at h
        refine lv_iload hx hb dX11_digestOfGuilds_20 (lv_at hl 3 rfl) ?_
        refine lv_iconst (v := 3) hx hb dX11_digestOfGuilds_22 rfl ?_
        refine lv_icmp_gt (tgt := 51) hx hb dX11_digestOfGuilds_23 rfl (fun hc23 => ?_) (fun hc23 => ?_)
        · have h := itt_e h hc23
          refine lv_iinc (k := 2) (v := (t5.2 + 1)) (lv' := [(5, .int (t5.2 + 1)), (0, .ref (Γ.2.1 + 0)), (3, .long t20.1), (6, .int t20.2)]) hx hb dX11_digestOfGuilds_51 hl rfl rfl (by decide) rfl fun ls hl => ?_
          refine lv_goto (tgt := 5) hx hb dX11_digestOfGuilds_54 rfl ?_
          exact ih5 (t20.1, (t5.2 + 1)) h _ _ _ (lv_sub hl [1, 2, 0] rfl) hP hS hz
        · have h := itf_e h hc23
          refine lv_lload_n hx hb dX11_digestOfGuilds_26 rfl (lv_at hl 1 rfl) ?_
          refine lv_ldc2 hx hb hown (hts _ qX11_252) dX11_digestOfGuilds_27 ?_
          refine lv_lmul hx hb dX11_digestOfGuilds_30 ?_
          refine lv_aload_n hx hb dX11_digestOfGuilds_31 rfl (lv_at hl 0 rfl) ?_
          refine w_gr (k := 0) (r := 97) hx hb hts hown hK hP fX11_48 hk.1 rfl dX11_digestOfGuilds_32 ?_
          refine lv_iload hx hb dX11_digestOfGuilds_35 (lv_at hl 2 rfl) ?_
          refine lv_iload hx hb dX11_digestOfGuilds_37 (lv_at hl 3 rfl) ?_
          obtain ⟨q39, e39, h⟩ := obn_e h
          refine z_Vi (k := 97) (r1 := q39) (v1 := v) hx hb hml hts hown hK hP hS hz hE (c_Stand_tellGuild hk.2.2.2.2.2.1 e39) kX8_tellGuild mX11_140 hk.2.2.2.2.2.1.1 rfl rfl rfl hl.1 (Nat.le_of_ble_eq_true rfl) ⟨Nat.le_of_ble_eq_true rfl, Nat.le_of_ble_eq_true rfl⟩ ⟨Nat.le_refl _, Nat.le_refl _⟩ dX11_digestOfGuilds_39 fun H1 locs1 hz hP hS => ?_
          refine lv_i2l (v := (q39.toInt64)) hx hb dX11_digestOfGuilds_42 rfl ?_
          refine lv_ladd hx hb dX11_digestOfGuilds_43 ?_
          refine lv_lstore_n (lv' := [(3, .long ((t20.1 * 31) + (q39.toInt64))), (0, .ref (Γ.2.1 + 0)), (5, .int t5.2), (6, .int t20.2)]) hx hb dX11_digestOfGuilds_44 rfl hl (by decide) rfl fun ls hl => ?_
          refine lv_iinc (k := 3) (v := (t20.2 + 1)) (lv' := [(6, .int (t20.2 + 1)), (3, .long ((t20.1 * 31) + (q39.toInt64))), (0, .ref (Γ.2.1 + 0)), (5, .int t5.2)]) hx hb dX11_digestOfGuilds_45 hl rfl rfl (by decide) rfl fun ls hl => ?_
          refine lv_goto (tgt := 20) hx hb dX11_digestOfGuilds_48 rfl ?_
          exact ih20 (((t20.1 * 31) + (q39.toInt64)), (t20.2 + 1)) h _ _ _ (lv_sub hl [2, 1, 3, 0] rfl) hP hS hz
      exact L20 z (t5.1, 0) h _ _ _ (lv_sub hl [1, 2, 3, 0] rfl) hP hS hz
  exact L5 z (a1, 0) h _ _ _ (lv_sub hl [2, 1, 0] rfl) hP hS hz
def f_Quay_tellOrder (z : Nat) (v : Va) (a1 : Int32) (a2 : Int32) : Option (Int32 × Va) := if a2 = 0 then (bnd (row_g 24 (v 79) a1) fun q40 => some (q40, v)) else (if a2 = 1 then (bnd (row_g 24 (v 81) a1) fun q52 => some (q52, v)) else (if a2 = 2 then (bnd (row_g 24 (v 83) a1) fun q64 => some (q64, v)) else (if a2 = 3 then ((f_Days_wouldCarryOut z v 97 a1).bind fun q73 => if (q_b q73.1) = 0 then (some (0, q73.2)) else (some (1, q73.2))) else (bnd (row_g 24 (v 118) a1) fun q93 => some (q93, v)))))
theorem c_Quay_tellOrder {a1 : Int32} {a2 : Int32} (hk : isQuay sh) {q : Int32 × Va} (h : f_Quay_tellOrder z v a1 a2 = some q) : MetI l yX11_tellOrder cX11_tellOrder 3 (some .int) 5 Γ sh v w n [.ref (Γ.2.1 + 0), .int a1, .int a2] (fun x u => x = q.1 ∧ u = q.2) := by
  unfold f_Quay_tellOrder at h
  refine w_start pn_X11 (Nat.le_of_ble_eq_true rfl) fun p e s m args below meth c hx hb hml hret hlk hnm hts hown hK hP hz hE hS ls hl => ?_
  refine lv_iload_n hx hb dX11_tellOrder_0 rfl (lv_at hl 2 rfl) ?_
  by_cases hc1_0 : a2 = 0
  · have h := itt_e h hc1_0
    refine z_tI (y := 0) (tgt := 32) hx hb dX11_tellOrder_1 hc1_0 (by decide) (by decide) rfl rfl ?_
    refine lv_aload_n hx hb dX11_tellOrder_32 rfl (lv_at hl 0 rfl) ?_
    refine w_gr (k := 0) (r := 61) hx hb hts hown hK hP fX11_39 hk.1 rfl dX11_tellOrder_33 ?_
    refine w_gr (k := 61) (r := 78) hx hb hts hown hK hP fX11_273 hk.2.2.2.2.1.1 rfl dX11_tellOrder_36 ?_
    refine lv_iload_n hx hb dX11_tellOrder_39 rfl (lv_at hl 1 rfl) ?_
    obtain ⟨q40, e40, h⟩ := bnd_e h
    refine z_Vi (k := 78) (r1 := q40) (v1 := v) hx hb hml hts hown hK hP hS hz hE (C_Row_get hk.2.2.2.2.1.2.2.2.2.2.2.2.2.2.1 e40) kX7_get mX11_178 hk.2.2.2.2.1.2.2.2.2.2.2.2.2.2.1.1 rfl rfl rfl hl.1 (Nat.le_of_ble_eq_true rfl) ⟨Nat.le_of_ble_eq_true rfl, Nat.le_of_ble_eq_true rfl⟩ ⟨Nat.le_refl _, Nat.le_refl _⟩ dX11_tellOrder_40 fun H1 locs1 hz hP hS => ?_
    exact w_iret hx hb hret rfl hlk hK hP hS hz hE (q_p2 h) dX11_tellOrder_43
  have h := itf_e h hc1_0
  by_cases hc1_1 : a2 = 1
  · have h := itt_e h hc1_1
    refine z_tI (y := 1) (tgt := 44) hx hb dX11_tellOrder_1 hc1_1 (by decide) (by decide) rfl rfl ?_
    refine lv_aload_n hx hb dX11_tellOrder_44 rfl (lv_at hl 0 rfl) ?_
    refine w_gr (k := 0) (r := 61) hx hb hts hown hK hP fX11_39 hk.1 rfl dX11_tellOrder_45 ?_
    refine w_gr (k := 61) (r := 80) hx hb hts hown hK hP fX11_276 hk.2.2.2.2.1.1 rfl dX11_tellOrder_48 ?_
    refine lv_iload_n hx hb dX11_tellOrder_51 rfl (lv_at hl 1 rfl) ?_
    obtain ⟨q52, e52, h⟩ := bnd_e h
    refine z_Vi (k := 80) (r1 := q52) (v1 := v) hx hb hml hts hown hK hP hS hz hE (C_Row_get hk.2.2.2.2.1.2.2.2.2.2.2.2.2.2.2.1 e52) kX7_get mX11_178 hk.2.2.2.2.1.2.2.2.2.2.2.2.2.2.2.1.1 rfl rfl rfl hl.1 (Nat.le_of_ble_eq_true rfl) ⟨Nat.le_of_ble_eq_true rfl, Nat.le_of_ble_eq_true rfl⟩ ⟨Nat.le_refl _, Nat.le_refl _⟩ dX11_tellOrder_52 fun H1 locs1 hz hP hS => ?_
    exact w_iret hx hb hret rfl hlk hK hP hS hz hE (q_p2 h) dX11_tellOrder_55
  have h := itf_e h hc1_1
  by_cases hc1_2 : a2 = 2
  · have h := itt_e h hc1_2
    refine z_tI (y := 2) (tgt := 56) hx hb dX11_tellOrder_1 hc1_2 (by decide) (by decide) rfl rfl ?_
    refine lv_aload_n hx hb dX11_tellOrder_56 rfl (lv_at hl 0 rfl) ?_
    refine w_gr (k := 0) (r := 61) hx hb hts hown hK hP fX11_39 hk.1 rfl dX11_tellOrder_57 ?_
    refine w_gr (k := 61) (r := 82) hx hb hts hown hK hP fX11_279 hk.2.2.2.2.1.1 rfl dX11_tellOrder_60 ?_
    refine lv_iload_n hx hb dX11_tellOrder_63 rfl (lv_at hl 1 rfl) ?_
    obtain ⟨q64, e64, h⟩ := bnd_e h
    refine z_Vi (k := 82) (r1 := q64) (v1 := v) hx hb hml hts hown hK hP hS hz hE (C_Row_get hk.2.2.2.2.1.2.2.2.2.2.2.2.2.2.2.2.1 e64) kX7_get mX11_178 hk.2.2.2.2.1.2.2.2.2.2.2.2.2.2.2.2.1.1 rfl rfl rfl hl.1 (Nat.le_of_ble_eq_true rfl) ⟨Nat.le_of_ble_eq_true rfl, Nat.le_of_ble_eq_true rfl⟩ ⟨Nat.le_refl _, Nat.le_refl _⟩ dX11_tellOrder_64 fun H1 locs1 hz hP hS => ?_
    exact w_iret hx hb hret rfl hlk hK hP hS hz hE (q_p2 h) dX11_tellOrder_67
  have h := itf_e h hc1_2
  by_cases hc1_3 : a2 = 3
  · have h := itt_e h hc1_3
    refine z_tI (y := 3) (tgt := 68) hx hb dX11_tellOrder_1 hc1_3 (by decide) (by decide) rfl rfl ?_
    refine lv_aload_n hx hb dX11_tellOrder_68 rfl (lv_at hl 0 rfl) ?_
    refine w_gr (k := 0) (r := 119) hx hb hts hown hK hP fX11_57 hk.1 rfl dX11_tellOrder_69 ?_
    refine lv_iload_n hx hb dX11_tellOrder_72 rfl (lv_at hl 1 rfl) ?_
    obtain ⟨q73, e73, h⟩ := obn_e h
    refine z_Vi (k := 119) (r1 := (q_b q73.1)) (v1 := q73.2) hx hb hml hts hown hK hP hS hz hE (c_Days_wouldCarryOut hk.2.2.2.2.2.2.1 e73) kX0_wouldCarryOut mX11_282 hk.2.2.2.2.2.2.1.1 rfl rfl rfl hl.1 (Nat.le_of_ble_eq_true rfl) ⟨Nat.le_of_ble_eq_true rfl, Nat.le_of_ble_eq_true rfl⟩ ⟨Nat.le_refl _, Nat.le_refl _⟩ dX11_tellOrder_73 fun H1 locs1 hz hP hS => ?_
    refine lv_if_eq (tgt := 83) hx hb dX11_tellOrder_76 rfl (fun hc76 => ?_) (fun hc76 => ?_)
    · have h := itt_e h hc76
      refine lv_iconst (v := 0) hx hb dX11_tellOrder_83 rfl ?_
      exact w_iret hx hb hret rfl hlk hK hP hS hz hE (q_p2 h) dX11_tellOrder_84
    · have h := itf_e h hc76
      refine lv_iconst (v := 1) hx hb dX11_tellOrder_79 rfl ?_
      refine lv_goto (tgt := 84) hx hb dX11_tellOrder_80 rfl ?_
      exact w_iret hx hb hret rfl hlk hK hP hS hz hE (q_p2 h) dX11_tellOrder_84
  have h := itf_e h hc1_3
  refine z_tD (tgt := 85) hx hb [0, 1, 2, 3] dX11_tellOrder_1 (q_nc hc1_0 (q_nc hc1_1 (q_nc hc1_2 (q_nc hc1_3 q_nn)))) (by decide) (by decide) rfl ?_
  refine lv_aload_n hx hb dX11_tellOrder_85 rfl (lv_at hl 0 rfl) ?_
  refine w_gr (k := 0) (r := 97) hx hb hts hown hK hP fX11_48 hk.1 rfl dX11_tellOrder_86 ?_
  refine w_gr (k := 97) (r := 117) hx hb hts hown hK hP fX11_285 hk.2.2.2.2.2.1.1 rfl dX11_tellOrder_89 ?_
  refine lv_iload_n hx hb dX11_tellOrder_92 rfl (lv_at hl 1 rfl) ?_
  obtain ⟨q93, e93, h⟩ := bnd_e h
  refine z_Vi (k := 117) (r1 := q93) (v1 := v) hx hb hml hts hown hK hP hS hz hE (C_Row_get hk.2.2.2.2.2.1.2.2.2.2.2.2.2.2.2.2 e93) kX7_get mX11_178 hk.2.2.2.2.2.1.2.2.2.2.2.2.2.2.2.2.1 rfl rfl rfl hl.1 (Nat.le_of_ble_eq_true rfl) ⟨Nat.le_of_ble_eq_true rfl, Nat.le_of_ble_eq_true rfl⟩ ⟨Nat.le_refl _, Nat.le_refl _⟩ dX11_tellOrder_93 fun H1 locs1 hz hP hS => ?_
  exact w_iret hx hb hret rfl hlk hK hP hS hz hE (q_p2 h) dX11_tellOrder_96
def b_Quay_digestOfOrders_20 (z : Nat) (K5 : (Int64 × Int32 × Va) → Option (Int64 × Va)) (t5 : Int64 × Int32 × Va) (K20 : (Int64 × Int32 × Va) → Option (Int64 × Va)) (t20 : Int64 × Int32 × Va) : Option (Int64 × Va) := if 4 < t20.2.1 then (K5 (t20.1, (t5.2.1 + 1), t20.2.2)) else ((f_Quay_tellOrder z t20.2.2 t5.2.1 t20.2.1).bind fun q36 => K20 (((t20.1 * 31) + (q36.1.toInt64)), (t20.2.1 + 1), q36.2))
def b_Quay_digestOfOrders_5 (z : Nat) (K5 : (Int64 × Int32 × Va) → Option (Int64 × Va)) (t5 : Int64 × Int32 × Va) : Option (Int64 × Va) := if (t5.2.2 61 4) ≤ t5.2.1 then (some (t5.1, t5.2.2)) else (rp (b_Quay_digestOfOrders_20 z K5 t5) z (t5.1, 0, t5.2.2))
def f_Quay_digestOfOrders (z : Nat) (v : Va) (a1 : Int64) : Option (Int64 × Va) := rp (b_Quay_digestOfOrders_5 z) z (a1, 0, v)
theorem c_Quay_digestOfOrders {a1 : Int64} (hk : isQuay sh) {q : Int64 × Va} (h : f_Quay_digestOfOrders z v a1 = some q) : MetL l yX11_digestOfOrders cX11_digestOfOrders 7 (some .long) 6 Γ sh v w n [.ref (Γ.2.1 + 0), .long a1] (fun x u => x = q.1 ∧ u = q.2) := by
  unfold f_Quay_digestOfOrders at h
  refine w_start pn_X11 (Nat.le_of_ble_eq_true rfl) fun p e s m args below meth c hx hb hml hret hlk hnm hts hown hK hP hz hE hS ls hl => ?_
  refine lv_lload_n hx hb dX11_digestOfOrders_0 rfl (lv_at hl 1 rfl) ?_
  refine lv_lstore_n (lv' := [(3, .long a1), (0, .ref (Γ.2.1 + 0)), (1, .long a1)]) hx hb dX11_digestOfOrders_1 rfl hl (by decide) rfl fun ls hl => ?_
  refine lv_iconst (v := 0) hx hb dX11_digestOfOrders_2 rfl ?_
  refine lv_istore (lv' := [(5, .int 0), (3, .long a1), (0, .ref (Γ.2.1 + 0)), (1, .long a1)]) hx hb dX11_digestOfOrders_3 hl (by decide) rfl fun ls hl => ?_
  have L5 : ∀ (fu : Nat) (t5 : Int64 × Int32 × Va), rp (b_Quay_digestOfOrders_5 z) fu t5 = some q → ∀ (H1 : Heap) (locs1 : List Loc) (ls1 : Array Slot), lv_has ls1 7 [(0, .ref (Γ.2.1 + 0)), (3, .long t5.1), (5, .int t5.2.1)] → Wd Γ sh t5.2.2 w H1 → va_S (gA Γ sh n) s.heap H1 locs1 → H1.size = Γ.2.1 + n → wpL Γ sh w n 6 (fun x u => x = q.1 ∧ u = q.2) p l e s m args below meth c H1 locs1 (F0 m 5 ls1 []) := by
    refine q_loop (fun K5 ih5 t5 h H1 locs1 ls hl hP hS hz => ?_)
    unfold b_Quay_digestOfOrders_5 at h
    refine lv_iload hx hb dX11_digestOfOrders_5 (lv_at hl 2 rfl) ?_
    refine lv_aload_n hx hb dX11_digestOfOrders_7 rfl (lv_at hl 0 rfl) ?_
    refine w_gr (k := 0) (r := 61) hx hb hts hown hK hP fX11_39 hk.1 rfl dX11_digestOfOrders_8 ?_
    refine w_gi (k := 61) hx hb hts hown hK hP fX11_143 hk.2.2.2.2.1.1 rfl dX11_digestOfOrders_11 ?_
    refine lv_icmp_ge (tgt := 54) hx hb dX11_digestOfOrders_14 rfl (fun hc14 => ?_) (fun hc14 => ?_)
    · have h := itt_e h hc14
      refine lv_lload_n hx hb dX11_digestOfOrders_54 rfl (lv_at hl 1 rfl) ?_
      exact w_lret hx hb hret hlk hK hP hS hz hE (q_p2 h) dX11_digestOfOrders_55
    · have h := itf_e h hc14
      refine lv_iconst (v := 0) hx hb dX11_digestOfOrders_17 rfl ?_
      refine lv_istore (lv' := [(6, .int 0), (0, .ref (Γ.2.1 + 0)), (3, .long t5.1), (5, .int t5.2.1)]) hx hb dX11_digestOfOrders_18 hl (by decide) rfl fun ls hl => ?_
      have L20 : ∀ (fu : Nat) (t20 : Int64 × Int32 × Va), rp (b_Quay_digestOfOrders_20 z K5 t5) fu t20 = some q → ∀ (H1 : Heap) (locs1 : List Loc) (ls1 : Array Slot), lv_has ls1 7 [(0, .ref (Γ.2.1 + 0)), (3, .long t20.1), (5, .int t5.2.1), (6, .int t20.2.1)] → Wd Γ sh t20.2.2 w H1 → va_S (gA Γ sh n) s.heap H1 locs1 → H1.size = Γ.2.1 + n → wpL Γ sh w n 6 (fun x u => x = q.1 ∧ u = q.2) p l e s m args below meth c H1 locs1 (F0 m 20 ls1 []) := by
        refine q_loop (fun K20 ih20 t20 h H1 locs1 ls hl hP hS hz => ?_)
        unfold b_Quay_digestOfOrders_20 at h
        refine lv_iload hx hb dX11_digestOfOrders_20 (lv_at hl 3 rfl) ?_
        refine lv_iconst (v := 4) hx hb dX11_digestOfOrders_22 rfl ?_
        refine lv_icmp_gt (tgt := 48) hx hb dX11_digestOfOrders_23 rfl (fun hc23 => ?_) (fun hc23 => ?_)
        · have h := itt_e h hc23
          refine lv_iinc (k := 2) (v := (t5.2.1 + 1)) (lv' := [(5, .int (t5.2.1 + 1)), (0, .ref (Γ.2.1 + 0)), (3, .long t20.1), (6, .int t20.2.1)]) hx hb dX11_digestOfOrders_48 hl rfl rfl (by decide) rfl fun ls hl => ?_
          refine lv_goto (tgt := 5) hx hb dX11_digestOfOrders_51 rfl ?_
          exact ih5 (t20.1, (t5.2.1 + 1), t20.2.2) h _ _ _ (lv_sub hl [1, 2, 0] rfl) hP hS hz
        · have h := itf_e h hc23
          refine lv_lload_n hx hb dX11_digestOfOrders_26 rfl (lv_at hl 1 rfl) ?_
          refine lv_ldc2 hx hb hown (hts _ qX11_252) dX11_digestOfOrders_27 ?_
          refine lv_lmul hx hb dX11_digestOfOrders_30 ?_
          refine lv_aload_n hx hb dX11_digestOfOrders_31 rfl (lv_at hl 0 rfl) ?_
          refine lv_iload hx hb dX11_digestOfOrders_32 (lv_at hl 2 rfl) ?_
          refine lv_iload hx hb dX11_digestOfOrders_34 (lv_at hl 3 rfl) ?_
          obtain ⟨q36, e36, h⟩ := obn_e h
          refine z_Vi (k := 0) (r1 := q36.1) (v1 := q36.2) hx hb hml hts hown hK hP hS hz hE (c_Quay_tellOrder hk e36) kX11_tellOrder mX11_148 hk.1 rfl rfl rfl hl.1 (Nat.le_of_ble_eq_true rfl) ⟨Nat.le_of_ble_eq_true rfl, Nat.le_of_ble_eq_true rfl⟩ ⟨Nat.le_refl _, Nat.le_refl _⟩ dX11_digestOfOrders_36 fun H1 locs1 hz hP hS => ?_
          refine lv_i2l (v := (q36.1.toInt64)) hx hb dX11_digestOfOrders_39 rfl ?_
          refine lv_ladd hx hb dX11_digestOfOrders_40 ?_
          refine lv_lstore_n (lv' := [(3, .long ((t20.1 * 31) + (q36.1.toInt64))), (0, .ref (Γ.2.1 + 0)), (5, .int t5.2.1), (6, .int t20.2.1)]) hx hb dX11_digestOfOrders_41 rfl hl (by decide) rfl fun ls hl => ?_
          refine lv_iinc (k := 3) (v := (t20.2.1 + 1)) (lv' := [(6, .int (t20.2.1 + 1)), (3, .long ((t20.1 * 31) + (q36.1.toInt64))), (0, .ref (Γ.2.1 + 0)), (5, .int t5.2.1)]) hx hb dX11_digestOfOrders_42 hl rfl rfl (by decide) rfl fun ls hl => ?_
          refine lv_goto (tgt := 20) hx hb dX11_digestOfOrders_45 rfl ?_
          exact ih20 (((t20.1 * 31) + (q36.1.toInt64)), (t20.2.1 + 1), q36.2) h _ _ _ (lv_sub hl [2, 1, 3, 0] rfl) hP hS hz
      exact L20 z (t5.1, 0, t5.2.2) h _ _ _ (lv_sub hl [1, 2, 3, 0] rfl) hP hS hz
  exact L5 z (a1, 0, v) h _ _ _ (lv_sub hl [2, 1, 0] rfl) hP hS hz
def b_Quay_digest_6 (z : Nat) (v : Va) (K6 : (Int64 × Int32) → Option (Int64 × Va)) (t6 : Int64 × Int32) : Option (Int64 × Va) := if 13 < t6.2 then ((f_Quay_digestOfLots z v t6.1).bind fun q33 => (f_Quay_digestOfMerchants z v q33).bind fun q39 => (f_Quay_digestOfGuilds z v q39).bind fun q45 => (f_Quay_digestOfOrders z v q45).bind fun q51 => some (q51.1, q51.2)) else ((f_Quay_counted v t6.2).bind fun q19 => K6 (((t6.1 * 31) + (q19.toInt64)), (t6.2 + 1)))
def f_Quay_digest (z : Nat) (v : Va) : Option (Int64 × Va) := rp (b_Quay_digest_6 z v) z (829, 0)
theorem c_Quay_digest (hk : isQuay sh) {q : Int64 × Va} (h : f_Quay_digest z v = some q) : MetL l yX11_digest cX11_digest 4 (some .long) 7 Γ sh v w n [.ref (Γ.2.1 + 0)] (fun x u => x = q.1 ∧ u = q.2) := by
  unfold f_Quay_digest at h
  refine w_start pn_X11 (Nat.le_of_ble_eq_true rfl) fun p e s m args below meth c hx hb hml hret hlk hnm hts hown hK hP hz hE hS ls hl => ?_
  refine lv_ldc2 hx hb hown (hts _ qX11_250) dX11_digest_0 ?_
  refine lv_lstore_n (lv' := [(1, .long 829), (0, .ref (Γ.2.1 + 0))]) hx hb dX11_digest_3 rfl hl (by decide) rfl fun ls hl => ?_
  refine lv_iconst (v := 0) hx hb dX11_digest_4 rfl ?_
  refine lv_istore_n (lv' := [(3, .int 0), (1, .long 829), (0, .ref (Γ.2.1 + 0))]) hx hb dX11_digest_5 rfl hl (by decide) rfl fun ls hl => ?_
  have L6 : ∀ (fu : Nat) (t6 : Int64 × Int32), rp (b_Quay_digest_6 z v) fu t6 = some q → ∀ (H1 : Heap) (locs1 : List Loc) (ls1 : Array Slot), lv_has ls1 4 [(0, .ref (Γ.2.1 + 0)), (1, .long t6.1), (3, .int t6.2)] → Wd Γ sh v w H1 → va_S (gA Γ sh n) s.heap H1 locs1 → H1.size = Γ.2.1 + n → wpL Γ sh w n 7 (fun x u => x = q.1 ∧ u = q.2) p l e s m args below meth c H1 locs1 (F0 m 6 ls1 []) := by
    refine q_loop (fun K6 ih6 t6 h H1 locs1 ls hl hP hS hz => ?_)
    unfold b_Quay_digest_6 at h
    refine lv_iload_n hx hb dX11_digest_6 rfl (lv_at hl 2 rfl) ?_
    refine lv_bipush (v := 13) hx hb dX11_digest_7 rfl ?_
    refine lv_icmp_gt (tgt := 31) hx hb dX11_digest_9 rfl (fun hc9 => ?_) (fun hc9 => ?_)
    · have h := itt_e h hc9
      refine lv_aload_n hx hb dX11_digest_31 rfl (lv_at hl 0 rfl) ?_
      refine lv_lload_n hx hb dX11_digest_32 rfl (lv_at hl 1 rfl) ?_
      obtain ⟨q33, e33, h⟩ := obn_e h
      refine z_Vl (k := 0) (r1 := q33) (v1 := v) hx hb hml hts hown hK hP hS hz hE (c_Quay_digestOfLots hk e33) kX11_digestOfLots mX11_254 hk.1 rfl rfl rfl hl.1 (Nat.le_of_ble_eq_true rfl) ⟨Nat.le_of_ble_eq_true rfl, Nat.le_of_ble_eq_true rfl⟩ ⟨Nat.le_refl _, Nat.le_refl _⟩ dX11_digest_33 fun H1 locs1 hz hP hS => ?_
      refine lv_lstore_n (lv' := [(1, .long q33), (0, .ref (Γ.2.1 + 0)), (3, .int t6.2)]) hx hb dX11_digest_36 rfl hl (by decide) rfl fun ls hl => ?_
      refine lv_aload_n hx hb dX11_digest_37 rfl (lv_at hl 1 rfl) ?_
      refine lv_lload_n hx hb dX11_digest_38 rfl (lv_at hl 0 rfl) ?_
      obtain ⟨q39, e39, h⟩ := obn_e h
      refine z_Vl (k := 0) (r1 := q39) (v1 := v) hx hb hml hts hown hK hP hS hz hE (c_Quay_digestOfMerchants hk e39) kX11_digestOfMerchants mX11_258 hk.1 rfl rfl rfl hl.1 (Nat.le_of_ble_eq_true rfl) ⟨Nat.le_of_ble_eq_true rfl, Nat.le_of_ble_eq_true rfl⟩ ⟨Nat.le_refl _, Nat.le_refl _⟩ dX11_digest_39 fun H1 locs1 hz hP hS => ?_
      refine lv_lstore_n (lv' := [(1, .long q39), (0, .ref (Γ.2.1 + 0)), (3, .int t6.2)]) hx hb dX11_digest_42 rfl hl (by decide) rfl fun ls hl => ?_
      refine lv_aload_n hx hb dX11_digest_43 rfl (lv_at hl 1 rfl) ?_
      refine lv_lload_n hx hb dX11_digest_44 rfl (lv_at hl 0 rfl) ?_
      obtain ⟨q45, e45, h⟩ := obn_e h
      refine z_Vl (k := 0) (r1 := q45) (v1 := v) hx hb hml hts hown hK hP hS hz hE (c_Quay_digestOfGuilds hk e45) kX11_digestOfGuilds mX11_261 hk.1 rfl rfl rfl hl.1 (Nat.le_of_ble_eq_true rfl) ⟨Nat.le_of_ble_eq_true rfl, Nat.le_of_ble_eq_true rfl⟩ ⟨Nat.le_refl _, Nat.le_refl _⟩ dX11_digest_45 fun H1 locs1 hz hP hS => ?_
      refine lv_lstore_n (lv' := [(1, .long q45), (0, .ref (Γ.2.1 + 0)), (3, .int t6.2)]) hx hb dX11_digest_48 rfl hl (by decide) rfl fun ls hl => ?_
      refine lv_aload_n hx hb dX11_digest_49 rfl (lv_at hl 1 rfl) ?_
      refine lv_lload_n hx hb dX11_digest_50 rfl (lv_at hl 0 rfl) ?_
      obtain ⟨q51, e51, h⟩ := obn_e h
      refine z_Vl (k := 0) (r1 := q51.1) (v1 := q51.2) hx hb hml hts hown hK hP hS hz hE (c_Quay_digestOfOrders hk e51) kX11_digestOfOrders mX11_264 hk.1 rfl rfl rfl hl.1 (Nat.le_of_ble_eq_true rfl) ⟨Nat.le_of_ble_eq_true rfl, Nat.le_of_ble_eq_true rfl⟩ ⟨Nat.le_refl _, Nat.le_refl _⟩ dX11_digest_51 fun H1 locs1 hz hP hS => ?_
      exact w_lret hx hb hret hlk hK hP hS hz hE (q_p2 h) dX11_digest_54
    · have h := itf_e h hc9
      refine lv_lload_n hx hb dX11_digest_12 rfl (lv_at hl 1 rfl) ?_
      refine lv_ldc2 hx hb hown (hts _ qX11_252) dX11_digest_13 ?_
      refine lv_lmul hx hb dX11_digest_16 ?_
      refine lv_aload_n hx hb dX11_digest_17 rfl (lv_at hl 0 rfl) ?_
      refine lv_iload_n hx hb dX11_digest_18 rfl (lv_at hl 2 rfl) ?_
      obtain ⟨q19, e19, h⟩ := obn_e h
      refine z_Vi (k := 0) (r1 := q19) (v1 := v) hx hb hml hts hown hK hP hS hz hE (c_Quay_counted hk e19) kX11_counted mX11_113 hk.1 rfl rfl rfl hl.1 (Nat.le_of_ble_eq_true rfl) ⟨Nat.le_of_ble_eq_true rfl, Nat.le_of_ble_eq_true rfl⟩ ⟨Nat.le_refl _, Nat.le_refl _⟩ dX11_digest_19 fun H1 locs1 hz hP hS => ?_
      refine lv_i2l (v := (q19.toInt64)) hx hb dX11_digest_22 rfl ?_
      refine lv_ladd hx hb dX11_digest_23 ?_
      refine lv_lstore_n (lv' := [(1, .long ((t6.1 * 31) + (q19.toInt64))), (0, .ref (Γ.2.1 + 0)), (3, .int t6.2)]) hx hb dX11_digest_24 rfl hl (by decide) rfl fun ls hl => ?_
      refine lv_iinc (k := 2) (v := (t6.2 + 1)) (lv' := [(3, .int (t6.2 + 1)), (1, .long ((t6.1 * 31) + (q19.toInt64))), (0, .ref (Γ.2.1 + 0))]) hx hb dX11_digest_25 hl rfl rfl (by decide) rfl fun ls hl => ?_
      refine lv_goto (tgt := 6) hx hb dX11_digest_28 rfl ?_
      exact ih6 (((t6.1 * 31) + (q19.toInt64)), (t6.2 + 1)) h _ _ _ (lv_sub hl [2, 1, 0] rfl) hP hS hz
  exact L6 z (829, 0) h _ _ _ (lv_sub hl [2, 1, 0] rfl) hP hS hz
def b_Quay_append_3 (a1 : Int32) (K3 : (Int32 × Va) → Option Va) (t3 : Int32 × Va) : Option Va := if t3.1 < 0 then (some t3.2) else (bnd (up t3.2 2 (row_s 2000 (t3.2 2) (t3.2 0 8) (((a1.toUInt32 >>> (t3.1.toUInt32 &&& Int32.toUInt32 31)).toInt32) &&& 255))) fun q22 => bnd (pu q22 0 8 ((q22 0 8) + 1)) fun v32 => K3 ((t3.1 + (-8)), v32))
def f_Quay_append (z : Nat) (v : Va) (a1 : Int32) : Option Va := rp (b_Quay_append_3 a1) z (24, v)
theorem c_Quay_append {a1 : Int32} (hk : isQuay sh) {q : Va} (h : f_Quay_append z v a1 = some q) : MetV l yX11_append cX11_append 3 none 1 Γ sh v w n [.ref (Γ.2.1 + 0), .int a1] (fun u => u = q) := by
  unfold f_Quay_append at h
  refine w_start pn_X11 (Nat.le_of_ble_eq_true rfl) fun p e s m args below meth c hx hb hml hret hlk hnm hts hown hK hP hz hE hS ls hl => ?_
  refine lv_bipush (v := 24) hx hb dX11_append_0 rfl ?_
  refine lv_istore_n (lv' := [(2, .int 24), (0, .ref (Γ.2.1 + 0)), (1, .int a1)]) hx hb dX11_append_2 rfl hl (by decide) rfl fun ls hl => ?_
  have L3 : ∀ (fu : Nat) (t3 : Int32 × Va), rp (b_Quay_append_3 a1) fu t3 = some q → ∀ (H1 : Heap) (locs1 : List Loc) (ls1 : Array Slot), lv_has ls1 3 [(0, .ref (Γ.2.1 + 0)), (1, .int a1), (2, .int t3.1)] → Wd Γ sh t3.2 w H1 → va_S (gA Γ sh n) s.heap H1 locs1 → H1.size = Γ.2.1 + n → wpV Γ sh w n 1 (fun u => u = q) p l e s m args below meth c H1 locs1 (F0 m 3 ls1 []) := by
    refine q_loop (fun K3 ih3 t3 h H1 locs1 ls hl hP hS hz => ?_)
    unfold b_Quay_append_3 at h
    refine lv_iload_n hx hb dX11_append_3 rfl (lv_at hl 2 rfl) ?_
    refine lv_if_lt (tgt := 41) hx hb dX11_append_4 rfl (fun hc4 => ?_) (fun hc4 => ?_)
    · have h := itt_e h hc4
      exact w_vret hx hb hret hlk hK hP hS hz hE (Option.some.inj h) dX11_append_41
    · have h := itf_e h hc4
      refine lv_aload_n hx hb dX11_append_7 rfl (lv_at hl 0 rfl) ?_
      refine w_gr (k := 0) (r := 1) hx hb hts hown hK hP fX11_14 hk.1 rfl dX11_append_8 ?_
      refine lv_aload_n hx hb dX11_append_11 rfl (lv_at hl 0 rfl) ?_
      refine w_gi (k := 0) hx hb hts hown hK hP fX11_67 hk.1 rfl dX11_append_12 ?_
      refine lv_iload_n hx hb dX11_append_15 rfl (lv_at hl 1 rfl) ?_
      refine lv_iload_n hx hb dX11_append_16 rfl (lv_at hl 2 rfl) ?_
      refine lv_iushr (v := (a1.toUInt32 >>> (t3.1.toUInt32 &&& Int32.toUInt32 31)).toInt32) hx hb dX11_append_17 rfl ?_
      refine lv_sipush (v := 255) hx hb dX11_append_18 rfl ?_
      refine lv_iand hx hb dX11_append_21 ?_
      obtain ⟨q22, e22, h⟩ := bnd_e h
      refine z_Vv (k := 1) (v1 := q22) hx hb hml hts hown hK hP hS hz hE (C_Row_set hk.2.1 e22) kX7_set mX11_208 hk.2.1.1 rfl rfl rfl hl.1 (Nat.le_of_ble_eq_true rfl) ⟨Nat.le_of_ble_eq_true rfl, Nat.le_of_ble_eq_true rfl⟩ ⟨Nat.le_refl _, Nat.le_refl _⟩ dX11_append_22 fun H1 locs1 hz hP hS => ?_
      refine lv_aload_n hx hb dX11_append_25 rfl (lv_at hl 0 rfl) ?_
      refine lv_dup hx hb dX11_append_26 rfl ?_
      refine w_gi (k := 0) hx hb hts hown hK hP fX11_67 hk.1 rfl dX11_append_27 ?_
      refine lv_iconst (v := 1) hx hb dX11_append_30 rfl ?_
      refine lv_iadd hx hb dX11_append_31 ?_
      obtain ⟨v32, e32, h⟩ := bnd_e h
      refine w_pi2 (k := 0) hx hb hts hown hK hP hS hz fX11_67 hk.1 rfl e32 dX11_append_32 fun H1 locs1 hz hP hS => ?_
      refine lv_iinc (k := 2) (v := (t3.1 + (-8))) (lv' := [(2, .int (t3.1 + (-8))), (0, .ref (Γ.2.1 + 0)), (1, .int a1)]) hx hb dX11_append_35 hl rfl rfl (by decide) rfl fun ls hl => ?_
      refine lv_goto (tgt := 3) hx hb dX11_append_38 rfl ?_
      exact ih3 ((t3.1 + (-8)), v32) h _ _ _ (lv_sub hl [1, 2, 0] rfl) hP hS hz
  exact L3 z (24, v) h _ _ _ (lv_sub hl [1, 2, 0] rfl) hP hS hz
def f_Quay_isLot (v : Va) (a1 : Int32) : Option Bool := if a1 < 0 then (some false) else (if (v 61 3) ≤ a1 then (some false) else (some true))
theorem c_Quay_isLot {a1 : Int32} (hk : isQuay sh) {q : Bool} (h : f_Quay_isLot v a1 = some q) : MetI l yX11_isLot cX11_isLot 2 (some .boolean) 0 Γ sh v w n [.ref (Γ.2.1 + 0), .int a1] (fun x u => x = q_b q ∧ u = v) := by
  unfold f_Quay_isLot at h
  refine w_start pn_X11 (Nat.le_of_ble_eq_true rfl) fun p e s m args below meth c hx hb hml hret hlk hnm hts hown hK hP hz hE hS ls hl => ?_
  refine lv_iload_n hx hb dX11_isLot_0 rfl (lv_at hl 1 rfl) ?_
  refine lv_if_lt (tgt := 19) hx hb dX11_isLot_1 rfl (fun hc1 => ?_) (fun hc1 => ?_)
  · have h := itt_e h hc1
    refine lv_iconst (v := 0) hx hb dX11_isLot_19 rfl ?_
    exact w_iret hx hb hret rfl hlk hK hP hS hz hE (q_p1b h) dX11_isLot_20
  · have h := itf_e h hc1
    refine lv_iload_n hx hb dX11_isLot_4 rfl (lv_at hl 1 rfl) ?_
    refine lv_aload_n hx hb dX11_isLot_5 rfl (lv_at hl 0 rfl) ?_
    refine w_gr (k := 0) (r := 61) hx hb hts hown hK hP fX11_39 hk.1 rfl dX11_isLot_6 ?_
    refine w_gi (k := 61) hx hb hts hown hK hP fX11_247 hk.2.2.2.2.1.1 rfl dX11_isLot_9 ?_
    refine lv_icmp_ge (tgt := 19) hx hb dX11_isLot_12 rfl (fun hc12 => ?_) (fun hc12 => ?_)
    · have h := itt_e h hc12
      refine lv_iconst (v := 0) hx hb dX11_isLot_19 rfl ?_
      exact w_iret hx hb hret rfl hlk hK hP hS hz hE (q_p1b h) dX11_isLot_20
    · have h := itf_e h hc12
      refine lv_iconst (v := 1) hx hb dX11_isLot_15 rfl ?_
      refine lv_goto (tgt := 20) hx hb dX11_isLot_16 rfl ?_
      exact w_iret hx hb hret rfl hlk hK hP hS hz hE (q_p1b h) dX11_isLot_20
def f_Quay_isMerchant (v : Va) (a1 : Int32) : Option Bool := if a1 < 0 then (some false) else (if (v 61 2) ≤ a1 then (some false) else (some true))
theorem c_Quay_isMerchant {a1 : Int32} (hk : isQuay sh) {q : Bool} (h : f_Quay_isMerchant v a1 = some q) : MetI l yX11_isMerchant cX11_isMerchant 2 (some .boolean) 0 Γ sh v w n [.ref (Γ.2.1 + 0), .int a1] (fun x u => x = q_b q ∧ u = v) := by
  unfold f_Quay_isMerchant at h
  refine w_start pn_X11 (Nat.le_of_ble_eq_true rfl) fun p e s m args below meth c hx hb hml hret hlk hnm hts hown hK hP hz hE hS ls hl => ?_
  refine lv_iload_n hx hb dX11_isMerchant_0 rfl (lv_at hl 1 rfl) ?_
  refine lv_if_lt (tgt := 19) hx hb dX11_isMerchant_1 rfl (fun hc1 => ?_) (fun hc1 => ?_)
  · have h := itt_e h hc1
    refine lv_iconst (v := 0) hx hb dX11_isMerchant_19 rfl ?_
    exact w_iret hx hb hret rfl hlk hK hP hS hz hE (q_p1b h) dX11_isMerchant_20
  · have h := itf_e h hc1
    refine lv_iload_n hx hb dX11_isMerchant_4 rfl (lv_at hl 1 rfl) ?_
    refine lv_aload_n hx hb dX11_isMerchant_5 rfl (lv_at hl 0 rfl) ?_
    refine w_gr (k := 0) (r := 61) hx hb hts hown hK hP fX11_39 hk.1 rfl dX11_isMerchant_6 ?_
    refine w_gi (k := 61) hx hb hts hown hK hP fX11_238 hk.2.2.2.2.1.1 rfl dX11_isMerchant_9 ?_
    refine lv_icmp_ge (tgt := 19) hx hb dX11_isMerchant_12 rfl (fun hc12 => ?_) (fun hc12 => ?_)
    · have h := itt_e h hc12
      refine lv_iconst (v := 0) hx hb dX11_isMerchant_19 rfl ?_
      exact w_iret hx hb hret rfl hlk hK hP hS hz hE (q_p1b h) dX11_isMerchant_20
    · have h := itf_e h hc12
      refine lv_iconst (v := 1) hx hb dX11_isMerchant_15 rfl ?_
      refine lv_goto (tgt := 20) hx hb dX11_isMerchant_16 rfl ?_
      exact w_iret hx hb hret rfl hlk hK hP hS hz hE (q_p1b h) dX11_isMerchant_20
end GE
