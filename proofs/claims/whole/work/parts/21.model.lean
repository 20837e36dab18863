
section GE
variable {l : Launch} {Γ : Cx} {sh : Sh} {v : Va} {w : Vl} {n z : Nat}
def f_Model_no (v : Va) (sp : Nat) (a1 : Int32) : Option (Int32 × Va) := bnd (pu v 149 0 a1) fun v2 => some (0, v2)
theorem c_Model_no {sp : Nat} {a1 : Int32} (hk : isModel sh sp) {q : Int32 × Va} (h : f_Model_no v sp a1 = some q) : MetI l yX14_no cX14_no 2 (some .int) 0 Γ sh v w n [.ref (Γ.2.1 + 149), .int a1] (fun x u => x = q.1 ∧ u = q.2) := by
  unfold f_Model_no at h
  refine w_start pn_X14 (Nat.le_of_ble_eq_true rfl) fun p e s m args below meth c hx hb hml hret hlk hnm hts hown hK hP hz hE hS ls hl => ?_
  refine lv_aload_n hx hb dX14_no_0 rfl (lv_at hl 0 rfl) ?_
  refine lv_iload_n hx hb dX14_no_1 rfl (lv_at hl 1 rfl) ?_
  obtain ⟨v2, e2, h⟩ := bnd_e h
  refine w_pi2 (k := 149) hx hb hts hown hK hP hS hz fX14_40 hk.1 rfl e2 dX14_no_2 fun H1 locs1 hz hP hS => ?_
  refine lv_iconst (v := 0) hx hb dX14_no_5 rfl ?_
  exact w_iret hx hb hret rfl hlk hK hP hS hz hE (q_p2 h) dX14_no_6
def f_Model_isIn (a1 : Int32) (a2 : Int32) (a3 : Int32) : Option Bool := if a1 < a2 then (some false) else (if a3 < a1 then (some false) else (some true))
theorem c_Model_isIn {a1 : Int32} {a2 : Int32} {a3 : Int32} {q : Bool} (h : f_Model_isIn a1 a2 a3 = some q) : MetI l yX14_isIn cX14_isIn 3 (some .boolean) 0 Γ sh v w n [.int a1, .int a2, .int a3] (fun x u => x = q_b q ∧ u = v) := by
  unfold f_Model_isIn at h
  refine w_start pn_X14 (Nat.le_of_ble_eq_true rfl) fun p e s m args below meth c hx hb hml hret hlk hnm hts hown hK hP hz hE hS ls hl => ?_
  refine lv_iload_n hx hb dX14_isIn_0 rfl (lv_at hl 0 rfl) ?_
  refine lv_iload_n hx hb dX14_isIn_1 rfl (lv_at hl 1 rfl) ?_
  refine lv_icmp_lt (tgt := 14) hx hb dX14_isIn_2 rfl (fun hc2 => ?_) (fun hc2 => ?_)
  · have h := itt_e h hc2
    refine lv_iconst (v := 0) hx hb dX14_isIn_14 rfl ?_
    exact w_iret hx hb hret rfl hlk hK hP hS hz hE (q_p1b h) dX14_isIn_15
  · have h := itf_e h hc2
    refine lv_iload_n hx hb dX14_isIn_5 rfl (lv_at hl 0 rfl) ?_
    refine lv_iload_n hx hb dX14_isIn_6 rfl (lv_at hl 2 rfl) ?_
    refine lv_icmp_gt (tgt := 14) hx hb dX14_isIn_7 rfl (fun hc7 => ?_) (fun hc7 => ?_)
    · have h := itt_e h hc7
      refine lv_iconst (v := 0) hx hb dX14_isIn_14 rfl ?_
      exact w_iret hx hb hret rfl hlk hK hP hS hz hE (q_p1b h) dX14_isIn_15
    · have h := itf_e h hc7
      refine lv_iconst (v := 1) hx hb dX14_isIn_10 rfl ?_
      refine lv_goto (tgt := 15) hx hb dX14_isIn_11 rfl ?_
      exact w_iret hx hb hret rfl hlk hK hP hS hz hE (q_p1b h) dX14_isIn_15
def f_Model_isMerchant (v : Va) (sp : Nat) (a1 : Int32) : Option Bool := (f_Model_isIn a1 0 ((v sp 11) - 1)).bind fun q11 => some q11
theorem c_Model_isMerchant {sp : Nat} {a1 : Int32} (hk : isModel sh sp) {q : Bool} (h : f_Model_isMerchant v sp a1 = some q) : MetI l yX14_isMerchant cX14_isMerchant 2 (some .boolean) 1 Γ sh v w n [.ref (Γ.2.1 + 149), .int a1] (fun x u => x = q_b q ∧ u = v) := by
  unfold f_Model_isMerchant at h
  refine w_start pn_X14 (Nat.le_of_ble_eq_true rfl) fun p e s m args below meth c hx hb hml hret hlk hnm hts hown hK hP hz hE hS ls hl => ?_
  refine lv_iload_n hx hb dX14_isMerchant_0 rfl (lv_at hl 1 rfl) ?_
  refine lv_iconst (v := 0) hx hb dX14_isMerchant_1 rfl ?_
  refine lv_aload_n hx hb dX14_isMerchant_2 rfl (lv_at hl 0 rfl) ?_
  refine w_gr (k := 149) (r := sp) hx hb hts hown hK hP fX14_20 hk.1 rfl dX14_isMerchant_3 ?_
  refine w_gi (k := sp) hx hb hts hown hK hP fX14_43 hk.2.2.1.1 rfl dX14_isMerchant_6 ?_
  refine lv_iconst (v := 1) hx hb dX14_isMerchant_9 rfl ?_
  refine lv_isub hx hb dX14_isMerchant_10 ?_
  obtain ⟨q11, e11, h⟩ := obn_e h
  refine z_Si (r1 := (q_b q11)) (v1 := v) hx hb hml hts hown hK hP hS hz hE (c_Model_isIn  e11) kX14_isIn mX14_46 rfl rfl hl.1 (Nat.le_of_ble_eq_true rfl) ⟨Nat.le_of_ble_eq_true rfl, Nat.le_of_ble_eq_true rfl⟩ ⟨Nat.le_refl _, Nat.le_refl _⟩ dX14_isMerchant_11 fun H1 locs1 hz hP hS => ?_
  exact w_iret hx hb hret (q_bn _) hlk hK hP hS hz hE (q_p1b h) dX14_isMerchant_14
def f_Model_areMerchants (v : Va) (sp : Nat) (a1 : Int32) (a2 : Int32) : Option Bool := (f_Model_isMerchant v sp a1).bind fun q2 => if (q_b q2) = 0 then (some false) else ((f_Model_isMerchant v sp a2).bind fun q10 => if (q_b q10) = 0 then (some false) else (some true))
theorem c_Model_areMerchants {sp : Nat} {a1 : Int32} {a2 : Int32} (hk : isModel sh sp) {q : Bool} (h : f_Model_areMerchants v sp a1 a2 = some q) : MetI l yX14_areMerchants cX14_areMerchants 3 (some .boolean) 2 Γ sh v w n [.ref (Γ.2.1 + 149), .int a1, .int a2] (fun x u => x = q_b q ∧ u = v) := by
  unfold f_Model_areMerchants at h
  refine w_start pn_X14 (Nat.le_of_ble_eq_true rfl) fun p e s m args below meth c hx hb hml hret hlk hnm hts hown hK hP hz hE hS ls hl => ?_
  refine lv_aload_n hx hb dX14_areMerchants_0 rfl (lv_at hl 0 rfl) ?_
  refine lv_iload_n hx hb dX14_areMerchants_1 rfl (lv_at hl 1 rfl) ?_
  obtain ⟨q2, e2, h⟩ := obn_e h
  refine z_Vi (k := 149) (r1 := (q_b q2)) (v1 := v) hx hb hml hts hown hK hP hS hz hE (c_Model_isMerchant hk e2) kX14_isMerchant mX14_50 hk.1 rfl rfl rfl hl.1 (Nat.le_of_ble_eq_true rfl) ⟨Nat.le_of_ble_eq_true rfl, Nat.le_of_ble_eq_true rfl⟩ ⟨Nat.le_refl _, Nat.le_refl _⟩ dX14_areMerchants_2 fun H1 locs1 hz hP hS => ?_
  refine lv_if_eq (tgt := 20) hx hb dX14_areMerchants_5 rfl (fun hc5 => ?_) (fun hc5 => ?_)
  · have h := itt_e h hc5
    refine lv_iconst (v := 0) hx hb dX14_areMerchants_20 rfl ?_
    exact w_iret hx hb hret rfl hlk hK hP hS hz hE (q_p1b h) dX14_areMerchants_21
  · have h := itf_e h hc5
    refine lv_aload_n hx hb dX14_areMerchants_8 rfl (lv_at hl 0 rfl) ?_
    refine lv_iload_n hx hb dX14_areMerchants_9 rfl (lv_at hl 2 rfl) ?_
    obtain ⟨q10, e10, h⟩ := obn_e h
    refine z_Vi (k := 149) (r1 := (q_b q10)) (v1 := v) hx hb hml hts hown hK hP hS hz hE (c_Model_isMerchant hk e10) kX14_isMerchant mX14_50 hk.1 rfl rfl rfl hl.1 (Nat.le_of_ble_eq_true rfl) ⟨Nat.le_of_ble_eq_true rfl, Nat.le_of_ble_eq_true rfl⟩ ⟨Nat.le_refl _, Nat.le_refl _⟩ dX14_areMerchants_10 fun H1 locs1 hz hP hS => ?_
    refine lv_if_eq (tgt := 20) hx hb dX14_areMerchants_13 rfl (fun hc13 => ?_) (fun hc13 => ?_)
    · have h := itt_e h hc13
      refine lv_iconst (v := 0) hx hb dX14_areMerchants_20 rfl ?_
      exact w_iret hx hb hret rfl hlk hK hP hS hz hE (q_p1b h) dX14_areMerchants_21
    · have h := itf_e h hc13
      refine lv_iconst (v := 1) hx hb dX14_areMerchants_16 rfl ?_
      refine lv_goto (tgt := 21) hx hb dX14_areMerchants_17 rfl ?_
      exact w_iret hx hb hret rfl hlk hK hP hS hz hE (q_p1b h) dX14_areMerchants_21
def f_Model_isLot (v : Va) (sp : Nat) (a1 : Int32) : Option Bool := (f_Model_isIn a1 0 ((v sp 15) - 1)).bind fun q11 => some q11
theorem c_Model_isLot {sp : Nat} {a1 : Int32} (hk : isModel sh sp) {q : Bool} (h : f_Model_isLot v sp a1 = some q) : MetI l yX14_isLot cX14_isLot 2 (some .boolean) 1 Γ sh v w n [.ref (Γ.2.1 + 149), .int a1] (fun x u => x = q_b q ∧ u = v) := by
  unfold f_Model_isLot at h
  refine w_start pn_X14 (Nat.le_of_ble_eq_true rfl) fun p e s m args below meth c hx hb hml hret hlk hnm hts hown hK hP hz hE hS ls hl => ?_
  refine lv_iload_n hx hb dX14_isLot_0 rfl (lv_at hl 1 rfl) ?_
  refine lv_iconst (v := 0) hx hb dX14_isLot_1 rfl ?_
  refine lv_aload_n hx hb dX14_isLot_2 rfl (lv_at hl 0 rfl) ?_
  refine w_gr (k := 149) (r := sp) hx hb hts hown hK hP fX14_20 hk.1 rfl dX14_isLot_3 ?_
  refine w_gi (k := sp) hx hb hts hown hK hP fX14_54 hk.2.2.1.1 rfl dX14_isLot_6 ?_
  refine lv_iconst (v := 1) hx hb dX14_isLot_9 rfl ?_
  refine lv_isub hx hb dX14_isLot_10 ?_
  obtain ⟨q11, e11, h⟩ := obn_e h
  refine z_Si (r1 := (q_b q11)) (v1 := v) hx hb hml hts hown hK hP hS hz hE (c_Model_isIn  e11) kX14_isIn mX14_46 rfl rfl hl.1 (Nat.le_of_ble_eq_true rfl) ⟨Nat.le_of_ble_eq_true rfl, Nat.le_of_ble_eq_true rfl⟩ ⟨Nat.le_refl _, Nat.le_refl _⟩ dX14_isLot_11 fun H1 locs1 hz hP hS => ?_
  exact w_iret hx hb hret (q_bn _) hlk hK hP hS hz hE (q_p1b h) dX14_isLot_14
def f_Model_isLetter (a1 : Int32) : Option Bool := if a1 < 97 then (some false) else (if 122 < a1 then (some false) else (some true))
theorem c_Model_isLetter {a1 : Int32} {q : Bool} (h : f_Model_isLetter a1 = some q) : MetI l yX14_isLetter cX14_isLetter 1 (some .boolean) 0 Γ sh v w n [.int a1] (fun x u => x = q_b q ∧ u = v) := by
  unfold f_Model_isLetter at h
  refine w_start pn_X14 (Nat.le_of_ble_eq_true rfl) fun p e s m args below meth c hx hb hml hret hlk hnm hts hown hK hP hz hE hS ls hl => ?_
  refine lv_iload_n hx hb dX14_isLetter_0 rfl (lv_at hl 0 rfl) ?_
  refine lv_bipush (v := 97) hx hb dX14_isLetter_1 rfl ?_
  refine lv_icmp_lt (tgt := 16) hx hb dX14_isLetter_3 rfl (fun hc3 => ?_) (fun hc3 => ?_)
  · have h := itt_e h hc3
    refine lv_iconst (v := 0) hx hb dX14_isLetter_16 rfl ?_
    exact w_iret hx hb hret rfl hlk hK hP hS hz hE (q_p1b h) dX14_isLetter_17
  · have h := itf_e h hc3
    refine lv_iload_n hx hb dX14_isLetter_6 rfl (lv_at hl 0 rfl) ?_
    refine lv_bipush (v := 122) hx hb dX14_isLetter_7 rfl ?_
    refine lv_icmp_gt (tgt := 16) hx hb dX14_isLetter_9 rfl (fun hc9 => ?_) (fun hc9 => ?_)
    · have h := itt_e h hc9
      refine lv_iconst (v := 0) hx hb dX14_isLetter_16 rfl ?_
      exact w_iret hx hb hret rfl hlk hK hP hS hz hE (q_p1b h) dX14_isLetter_17
    · have h := itf_e h hc9
      refine lv_iconst (v := 1) hx hb dX14_isLetter_12 rfl ?_
      refine lv_goto (tgt := 17) hx hb dX14_isLetter_13 rfl ?_
      exact w_iret hx hb hret rfl hlk hK hP hS hz hE (q_p1b h) dX14_isLetter_17
def f_Model_isDigit (a1 : Int32) : Option Bool := if a1 < 48 then (some false) else (if 57 < a1 then (some false) else (some true))
theorem c_Model_isDigit {a1 : Int32} {q : Bool} (h : f_Model_isDigit a1 = some q) : MetI l yX14_isDigit cX14_isDigit 1 (some .boolean) 0 Γ sh v w n [.int a1] (fun x u => x = q_b q ∧ u = v) := by
  unfold f_Model_isDigit at h
  refine w_start pn_X14 (Nat.le_of_ble_eq_true rfl) fun p e s m args below meth c hx hb hml hret hlk hnm hts hown hK hP hz hE hS ls hl => ?_
  refine lv_iload_n hx hb dX14_isDigit_0 rfl (lv_at hl 0 rfl) ?_
  refine lv_bipush (v := 48) hx hb dX14_isDigit_1 rfl ?_
  refine lv_icmp_lt (tgt := 16) hx hb dX14_isDigit_3 rfl (fun hc3 => ?_) (fun hc3 => ?_)
  · have h := itt_e h hc3
    refine lv_iconst (v := 0) hx hb dX14_isDigit_16 rfl ?_
    exact w_iret hx hb hret rfl hlk hK hP hS hz hE (q_p1b h) dX14_isDigit_17
  · have h := itf_e h hc3
    refine lv_iload_n hx hb dX14_isDigit_6 rfl (lv_at hl 0 rfl) ?_
    refine lv_bipush (v := 57) hx hb dX14_isDigit_7 rfl ?_
    refine lv_icmp_gt (tgt := 16) hx hb dX14_isDigit_9 rfl (fun hc9 => ?_) (fun hc9 => ?_)
    · have h := itt_e h hc9
      refine lv_iconst (v := 0) hx hb dX14_isDigit_16 rfl ?_
      exact w_iret hx hb hret rfl hlk hK hP hS hz hE (q_p1b h) dX14_isDigit_17
    · have h := itf_e h hc9
      refine lv_iconst (v := 1) hx hb dX14_isDigit_12 rfl ?_
      refine lv_goto (tgt := 17) hx hb dX14_isDigit_13 rfl ?_
      exact w_iret hx hb hret rfl hlk hK hP hS hz hE (q_p1b h) dX14_isDigit_17
def f_Model_byteAt (v : Va) (sp : Nat) (a1 : Int32) : Option Int32 := if (v 149 2) ≤ a1 then (some (-1)) else (if a1 < 0 ∨ 2000 ≤ a1.toNatClampNeg then none else some (v 150 a1.toNatClampNeg))
theorem c_Model_byteAt {sp : Nat} {a1 : Int32} (hk : isModel sh sp) {q : Int32} (h : f_Model_byteAt v sp a1 = some q) : MetI l yX14_byteAt cX14_byteAt 2 (some .int) 0 Γ sh v w n [.ref (Γ.2.1 + 149), .int a1] (fun x u => x = q ∧ u = v) := by
  unfold f_Model_byteAt at h
  refine w_start pn_X14 (Nat.le_of_ble_eq_true rfl) fun p e s m args below meth c hx hb hml hret hlk hnm hts hown hK hP hz hE hS ls hl => ?_
  refine lv_iload_n hx hb dX14_byteAt_0 rfl (lv_at hl 1 rfl) ?_
  refine lv_aload_n hx hb dX14_byteAt_1 rfl (lv_at hl 0 rfl) ?_
  refine w_gi (k := 149) hx hb hts hown hK hP fX14_57 hk.1 rfl dX14_byteAt_2 ?_
  refine lv_icmp_ge (tgt := 17) hx hb dX14_byteAt_5 rfl (fun hc5 => ?_) (fun hc5 => ?_)
  · have h := itt_e h hc5
    refine lv_iconst (v := (-1)) hx hb dX14_byteAt_17 rfl ?_
    exact w_iret hx hb hret rfl hlk hK hP hS hz hE (q_p1 h) dX14_byteAt_18
  · have h := itf_e h hc5
    refine lv_aload_n hx hb dX14_byteAt_8 rfl (lv_at hl 0 rfl) ?_
    refine w_gr (k := 149) (r := 150) hx hb hts hown hK hP fX14_9 hk.1 rfl dX14_byteAt_9 ?_
    refine lv_iload_n hx hb dX14_byteAt_12 rfl (lv_at hl 1 rfl) ?_
    obtain ⟨hn13, h⟩ := itn_e h
    refine w_iald (k := 150) hx hb hK hP hk.2.1 hn13 dX14_byteAt_13 ?_
    refine lv_goto (tgt := 18) hx hb dX14_byteAt_14 rfl ?_
    exact w_iret hx hb hret rfl hlk hK hP hS hz hE (q_p1 h) dX14_byteAt_18
def j_Model_lengthAt_71 (v : Va) (sp : Nat) (a1 : Int32) : Option Int32 := (f_Model_byteAt v sp (a1 + 1)).bind fun q73 => if q73 = 61 then (some (((a1 + 1) + 1) - a1)) else (some ((a1 + 1) - a1))
def j_Model_lengthAt_53 (K24 : Int32 → Option Int32) (t24 : Int32) : Option Int32 := K24 (t24 + 1)
def b_Model_lengthAt_24 (v : Va) (sp : Nat) (a1 : Int32) (q2 : Int32) (K24 : Int32 → Option Int32) (t24 : Int32) : Option Int32 := (f_Model_byteAt v sp t24).bind fun q26 => (f_Model_isDigit q26).bind fun q29 => if (q_b q29) = 0 then ((f_Model_isLetter q2).bind fun q36 => if (q_b q36) = 0 then (some (t24 - a1)) else ((f_Model_byteAt v sp t24).bind fun q44 => (f_Model_isLetter q44).bind fun q47 => if (q_b q47) = 0 then (some (t24 - a1)) else (j_Model_lengthAt_53 K24 t24))) else (j_Model_lengthAt_53 K24 t24)
def j_Model_lengthAt_24 (z : Nat) (v : Va) (sp : Nat) (a1 : Int32) (q2 : Int32) : Option Int32 := rp (b_Model_lengthAt_24 v sp a1 q2) z (a1 + 1)
def f_Model_lengthAt (z : Nat) (v : Va) (sp : Nat) (a1 : Int32) : Option Int32 := (f_Model_byteAt v sp a1).bind fun q2 => (f_Model_isLetter q2).bind fun q11 => if (q_b q11) = 0 then ((f_Model_isDigit q2).bind fun q18 => if (q_b q18) = 0 then (if q2 = 60 then (j_Model_lengthAt_71 v sp a1) else (if q2 = 62 then (j_Model_lengthAt_71 v sp a1) else (some ((a1 + 1) - a1)))) else (j_Model_lengthAt_24 z v sp a1 q2)) else (j_Model_lengthAt_24 z v sp a1 q2)
theorem c_Model_lengthAt {sp : Nat} {a1 : Int32} (hk : isModel sh sp) {q : Int32} (h : f_Model_lengthAt z v sp a1 = some q) : MetI l yX14_lengthAt cX14_lengthAt 4 (some .int) 1 Γ sh v w n [.ref (Γ.2.1 + 149), .int a1] (fun x u => x = q ∧ u = v) := by
  unfold f_Model_lengthAt at h
  refine w_start pn_X14 (Nat.le_of_ble_eq_true rfl) fun p e s m args below meth c hx hb hml hret hlk hnm hts hown hK hP hz hE hS ls hl => ?_
  refine lv_aload_n hx hb dX14_lengthAt_0 rfl (lv_at hl 0 rfl) ?_
  refine lv_iload_n hx hb dX14_lengthAt_1 rfl (lv_at hl 1 rfl) ?_
  obtain ⟨q2, e2, h⟩ := obn_e h
  refine z_Vi (k := 149) (r1 := q2) (v1 := v) hx hb hml hts hown hK hP hS hz hE (c_Model_byteAt hk e2) kX14_byteAt mX14_60 hk.1 rfl rfl rfl hl.1 (Nat.le_of_ble_eq_true rfl) ⟨Nat.le_of_ble_eq_true rfl, Nat.le_of_ble_eq_true rfl⟩ ⟨Nat.le_refl _, Nat.le_refl _⟩ dX14_lengthAt_2 fun H1 locs1 hz hP hS => ?_
  refine lv_istore_n (lv' := [(2, .int q2), (0, .ref (Γ.2.1 + 149)), (1, .int a1)]) hx hb dX14_lengthAt_5 rfl hl (by decide) rfl fun ls hl => ?_
  refine lv_iload_n hx hb dX14_lengthAt_6 rfl (lv_at hl 2 rfl) ?_
  refine lv_iconst (v := 1) hx hb dX14_lengthAt_7 rfl ?_
  refine lv_iadd hx hb dX14_lengthAt_8 ?_
  refine lv_istore_n (lv' := [(3, .int (a1 + 1)), (2, .int q2), (0, .ref (Γ.2.1 + 149)), (1, .int a1)]) hx hb dX14_lengthAt_9 rfl hl (by decide) rfl fun ls hl => ?_
  refine lv_iload_n hx hb dX14_lengthAt_10 rfl (lv_at hl 1 rfl) ?_
  obtain ⟨q11, e11, h⟩ := obn_e h
  refine z_Si (r1 := (q_b q11)) (v1 := v) hx hb hml hts hown hK hP hS hz hE (c_Model_isLetter  e11) kX14_isLetter mX14_64 rfl rfl hl.1 (Nat.le_of_ble_eq_true rfl) ⟨Nat.le_of_ble_eq_true rfl, Nat.le_of_ble_eq_true rfl⟩ ⟨Nat.le_refl _, Nat.le_refl _⟩ dX14_lengthAt_11 fun H1 locs1 hz hP hS => ?_
  have J24 : (j_Model_lengthAt_24 z v sp a1 q2) = some q → ∀ (H1 : Heap) (locs1 : List Loc) (ls1 : Array Slot), lv_has ls1 4 [(0, .ref (Γ.2.1 + 149)), (1, .int a1), (2, .int q2), (3, .int (a1 + 1))] → Wd Γ sh v w H1 → va_S (gA Γ) s.heap H1 locs1 → H1.size = Γ.2.1 + n → wpI Γ sh w n 1 (fun x u => x = q ∧ u = v) p l e s m args below meth c H1 locs1 (F0 m 24 ls1 []) := by
    intro  h H1 locs1 ls hl hP hS hz
    unfold j_Model_lengthAt_24 at h
    have L24 : ∀ (fu : Nat) (t24 : Int32), rp (b_Model_lengthAt_24 v sp a1 q2) fu t24 = some q → ∀ (H1 : Heap) (locs1 : List Loc) (ls1 : Array Slot), lv_has ls1 4 [(0, .ref (Γ.2.1 + 149)), (1, .int a1), (2, .int q2), (3, .int t24)] → Wd Γ sh v w H1 → va_S (gA Γ) s.heap H1 locs1 → H1.size = Γ.2.1 + n → wpI Γ sh w n 1 (fun x u => x = q ∧ u = v) p l e s m args below meth c H1 locs1 (F0 m 24 ls1 []) := by
      refine q_loop (fun K24 ih24 t24 h H1 locs1 ls hl hP hS hz => ?_)
      unfold b_Model_lengthAt_24 at h
      refine lv_aload_n hx hb dX14_lengthAt_24 rfl (lv_at hl 0 rfl) ?_
      refine lv_iload_n hx hb dX14_lengthAt_25 rfl (lv_at hl 3 rfl) ?_
      obtain ⟨q26, e26, h⟩ := obn_e h
      refine z_Vi (k := 149) (r1 := q26) (v1 := v) hx hb hml hts hown hK hP hS hz hE (c_Model_byteAt hk e26) kX14_byteAt mX14_60 hk.1 rfl rfl rfl hl.1 (Nat.le_of_ble_eq_true rfl) ⟨Nat.le_of_ble_eq_true rfl, Nat.le_of_ble_eq_true rfl⟩ ⟨Nat.le_refl _, Nat.le_refl _⟩ dX14_lengthAt_26 fun H1 locs1 hz hP hS => ?_
      obtain ⟨q29, e29, h⟩ := obn_e h
      refine z_Si (r1 := (q_b q29)) (v1 := v) hx hb hml hts hown hK hP hS hz hE (c_Model_isDigit  e29) kX14_isDigit mX14_67 rfl rfl hl.1 (Nat.le_of_ble_eq_true rfl) ⟨Nat.le_of_ble_eq_true rfl, Nat.le_of_ble_eq_true rfl⟩ ⟨Nat.le_refl _, Nat.le_refl _⟩ dX14_lengthAt_29 fun H1 locs1 hz hP hS => ?_
      have J53 : (j_Model_lengthAt_53 K24 t24) = some q → ∀ (H1 : Heap) (locs1 : List Loc) (ls1 : Array Slot), lv_has ls1 4 [(0, .ref (Γ.2.1 + 149)), (1, .int a1), (2, .int q2), (3, .int t24)] → Wd Γ sh v w H1 → va_S (gA Γ) s.heap H1 locs1 → H1.size = Γ.2.1 + n → wpI Γ sh w n 1 (fun x u => x = q ∧ u = v) p l e s m args below meth c H1 locs1 (F0 m 53 ls1 []) := by
        intro  h H1 locs1 ls hl hP hS hz
        unfold j_Model_lengthAt_53 at h
        refine lv_iinc (k := 3) (v := (t24 + 1)) (lv' := [(3, .int (t24 + 1)), (0, .ref (Γ.2.1 + 149)), (1, .int a1), (2, .int q2)]) hx hb dX14_lengthAt_53 hl rfl rfl (by decide) rfl fun ls hl => ?_
        refine lv_goto (tgt := 24) hx hb dX14_lengthAt_56 rfl ?_
        exact ih24 (t24 + 1) h _ _ _ (lv_sub hl [1, 2, 3, 0] rfl) hP hS hz
      refine lv_if_ne (tgt := 53) hx hb dX14_lengthAt_32 rfl (fun hc32 => ?_) (fun hc32 => ?_)
      · have h := itf_e h hc32
        exact J53 h _ _ _ (lv_sub hl [0, 1, 2, 3] rfl) hP hS hz
      · have h := itt_e h hc32
        refine lv_iload_n hx hb dX14_lengthAt_35 rfl (lv_at hl 2 rfl) ?_
        obtain ⟨q36, e36, h⟩ := obn_e h
        refine z_Si (r1 := (q_b q36)) (v1 := v) hx hb hml hts hown hK hP hS hz hE (c_Model_isLetter  e36) kX14_isLetter mX14_64 rfl rfl hl.1 (Nat.le_of_ble_eq_true rfl) ⟨Nat.le_of_ble_eq_true rfl, Nat.le_of_ble_eq_true rfl⟩ ⟨Nat.le_refl _, Nat.le_refl _⟩ dX14_lengthAt_36 fun H1 locs1 hz hP hS => ?_
        refine lv_if_eq (tgt := 84) hx hb dX14_lengthAt_39 rfl (fun hc39 => ?_) (fun hc39 => ?_)
        · have h := itt_e h hc39
          refine lv_iload_n hx hb dX14_lengthAt_84 rfl (lv_at hl 3 rfl) ?_
          refine lv_iload_n hx hb dX14_lengthAt_85 rfl (lv_at hl 1 rfl) ?_
          refine lv_isub hx hb dX14_lengthAt_86 ?_
          exact w_iret hx hb hret rfl hlk hK hP hS hz hE (q_p1 h) dX14_lengthAt_87
        · have h := itf_e h hc39
          refine lv_aload_n hx hb dX14_lengthAt_42 rfl (lv_at hl 0 rfl) ?_
          refine lv_iload_n hx hb dX14_lengthAt_43 rfl (lv_at hl 3 rfl) ?_
          obtain ⟨q44, e44, h⟩ := obn_e h
          refine z_Vi (k := 149) (r1 := q44) (v1 := v) hx hb hml hts hown hK hP hS hz hE (c_Model_byteAt hk e44) kX14_byteAt mX14_60 hk.1 rfl rfl rfl hl.1 (Nat.le_of_ble_eq_true rfl) ⟨Nat.le_of_ble_eq_true rfl, Nat.le_of_ble_eq_true rfl⟩ ⟨Nat.le_refl _, Nat.le_refl _⟩ dX14_lengthAt_44 fun H1 locs1 hz hP hS => ?_
          obtain ⟨q47, e47, h⟩ := obn_e h
          refine z_Si (r1 := (q_b q47)) (v1 := v) hx hb hml hts hown hK hP hS hz hE (c_Model_isLetter  e47) kX14_isLetter mX14_64 rfl rfl hl.1 (Nat.le_of_ble_eq_true rfl) ⟨Nat.le_of_ble_eq_true rfl, Nat.le_of_ble_eq_true rfl⟩ ⟨Nat.le_refl _, Nat.le_refl _⟩ dX14_lengthAt_47 fun H1 locs1 hz hP hS => ?_
          refine lv_if_eq (tgt := 84) hx hb dX14_lengthAt_50 rfl (fun hc50 => ?_) (fun hc50 => ?_)
          · have h := itt_e h hc50
            refine lv_iload_n hx hb dX14_lengthAt_84 rfl (lv_at hl 3 rfl) ?_
            refine lv_iload_n hx hb dX14_lengthAt_85 rfl (lv_at hl 1 rfl) ?_
            refine lv_isub hx hb dX14_lengthAt_86 ?_
            exact w_iret hx hb hret rfl hlk hK hP hS hz hE (q_p1 h) dX14_lengthAt_87
          · have h := itf_e h hc50
            exact J53 h _ _ _ (lv_sub hl [0, 1, 2, 3] rfl) hP hS hz
    exact L24 z (a1 + 1) h _ _ _ (lv_sub hl [0, 1, 2, 3] rfl) hP hS hz
  refine lv_if_ne (tgt := 24) hx hb dX14_lengthAt_14 rfl (fun hc14 => ?_) (fun hc14 => ?_)
  · have h := itf_e h hc14
    exact J24 h _ _ _ (lv_sub hl [2, 3, 1, 0] rfl) hP hS hz
  · have h := itt_e h hc14
    refine lv_iload_n hx hb dX14_lengthAt_17 rfl (lv_at hl 1 rfl) ?_
    obtain ⟨q18, e18, h⟩ := obn_e h
    refine z_Si (r1 := (q_b q18)) (v1 := v) hx hb hml hts hown hK hP hS hz hE (c_Model_isDigit  e18) kX14_isDigit mX14_67 rfl rfl hl.1 (Nat.le_of_ble_eq_true rfl) ⟨Nat.le_of_ble_eq_true rfl, Nat.le_of_ble_eq_true rfl⟩ ⟨Nat.le_refl _, Nat.le_refl _⟩ dX14_lengthAt_18 fun H1 locs1 hz hP hS => ?_
    refine lv_if_eq (tgt := 59) hx hb dX14_lengthAt_21 rfl (fun hc21 => ?_) (fun hc21 => ?_)
    · have h := itt_e h hc21
      refine lv_iload_n hx hb dX14_lengthAt_59 rfl (lv_at hl 1 rfl) ?_
      refine lv_bipush (v := 60) hx hb dX14_lengthAt_60 rfl ?_
      have J71 : (j_Model_lengthAt_71 v sp a1) = some q → ∀ (H1 : Heap) (locs1 : List Loc) (ls1 : Array Slot), lv_has ls1 4 [(0, .ref (Γ.2.1 + 149)), (1, .int a1), (3, .int (a1 + 1))] → Wd Γ sh v w H1 → va_S (gA Γ) s.heap H1 locs1 → H1.size = Γ.2.1 + n → wpI Γ sh w n 1 (fun x u => x = q ∧ u = v) p l e s m args below meth c H1 locs1 (F0 m 71 ls1 []) := by
        intro  h H1 locs1 ls hl hP hS hz
        unfold j_Model_lengthAt_71 at h
        refine lv_aload_n hx hb dX14_lengthAt_71 rfl (lv_at hl 0 rfl) ?_
        refine lv_iload_n hx hb dX14_lengthAt_72 rfl (lv_at hl 2 rfl) ?_
        obtain ⟨q73, e73, h⟩ := obn_e h
        refine z_Vi (k := 149) (r1 := q73) (v1 := v) hx hb hml hts hown hK hP hS hz hE (c_Model_byteAt hk e73) kX14_byteAt mX14_60 hk.1 rfl rfl rfl hl.1 (Nat.le_of_ble_eq_true rfl) ⟨Nat.le_of_ble_eq_true rfl, Nat.le_of_ble_eq_true rfl⟩ ⟨Nat.le_refl _, Nat.le_refl _⟩ dX14_lengthAt_73 fun H1 locs1 hz hP hS => ?_
        refine lv_bipush (v := 61) hx hb dX14_lengthAt_76 rfl ?_
        refine lv_icmp_ne (tgt := 84) hx hb dX14_lengthAt_78 rfl (fun hc78 => ?_) (fun hc78 => ?_)
        · have h := itf_e h hc78
          refine lv_iload_n hx hb dX14_lengthAt_84 rfl (lv_at hl 2 rfl) ?_
          refine lv_iload_n hx hb dX14_lengthAt_85 rfl (lv_at hl 1 rfl) ?_
          refine lv_isub hx hb dX14_lengthAt_86 ?_
          exact w_iret hx hb hret rfl hlk hK hP hS hz hE (q_p1 h) dX14_lengthAt_87
        · have h := itt_e h hc78
          refine lv_iinc (k := 2) (v := ((a1 + 1) + 1)) (lv' := [(3, .int ((a1 + 1) + 1)), (0, .ref (Γ.2.1 + 149)), (1, .int a1)]) hx hb dX14_lengthAt_81 hl rfl rfl (by decide) rfl fun ls hl => ?_
          refine lv_iload_n hx hb dX14_lengthAt_84 rfl (lv_at hl 0 rfl) ?_
          refine lv_iload_n hx hb dX14_lengthAt_85 rfl (lv_at hl 2 rfl) ?_
          refine lv_isub hx hb dX14_lengthAt_86 ?_
          exact w_iret hx hb hret rfl hlk hK hP hS hz hE (q_p1 h) dX14_lengthAt_87
      refine lv_icmp_eq (tgt := 71) hx hb dX14_lengthAt_62 rfl (fun hc62 => ?_) (fun hc62 => ?_)
      · have h := itt_e h hc62
        exact J71 h _ _ _ (lv_sub hl [2, 3, 0] rfl) hP hS hz
      · have h := itf_e h hc62
        refine lv_iload_n hx hb dX14_lengthAt_65 rfl (lv_at hl 1 rfl) ?_
        refine lv_bipush (v := 62) hx hb dX14_lengthAt_66 rfl ?_
        refine lv_icmp_ne (tgt := 84) hx hb dX14_lengthAt_68 rfl (fun hc68 => ?_) (fun hc68 => ?_)
        · have h := itf_e h hc68
          refine lv_iload_n hx hb dX14_lengthAt_84 rfl (lv_at hl 0 rfl) ?_
          refine lv_iload_n hx hb dX14_lengthAt_85 rfl (lv_at hl 3 rfl) ?_
          refine lv_isub hx hb dX14_lengthAt_86 ?_
          exact w_iret hx hb hret rfl hlk hK hP hS hz hE (q_p1 h) dX14_lengthAt_87
        · have h := itt_e h hc68
          exact J71 h _ _ _ (lv_sub hl [2, 3, 0] rfl) hP hS hz
    · have h := itf_e h hc21
      exact J24 h _ _ _ (lv_sub hl [2, 3, 1, 0] rfl) hP hS hz
def f_Model_eat (v : Va) (sp : Nat) (k1 : Nat) (a2 : Int32) : Option (Bool × Va) := if (v 149 4) < 0 ∨ 401 ≤ (v 149 4).toNatClampNeg then none else if (v (k1 + 1) (v 149 4).toNatClampNeg) = a2 then (bnd (pu v 149 4 ((v 149 4) + 1)) fun v22 => some (true, v22)) else (some (false, v))
theorem c_Model_eat {sp : Nat} {k1 : Nat} {a2 : Int32} (hk : isModel sh sp) (hk1 : isSheet sh k1) {q : Bool × Va} (h : f_Model_eat v sp k1 a2 = some q) : MetI l yX14_eat cX14_eat 3 (some .boolean) 0 Γ sh v w n [.ref (Γ.2.1 + 149), .ref (Γ.2.1 + k1), .int a2] (fun x u => x = q_b q.1 ∧ u = q.2) := by
  unfold f_Model_eat at h
  refine w_start pn_X14 (Nat.le_of_ble_eq_true rfl) fun p e s m args below meth c hx hb hml hret hlk hnm hts hown hK hP hz hE hS ls hl => ?_
  refine lv_aload_n hx hb dX14_eat_0 rfl (lv_at hl 1 rfl) ?_
  refine w_gr (k := k1) (r := (k1 + 1)) hx hb hts hown hK hP fX14_102 hk1.1 rfl dX14_eat_1 ?_
  refine lv_aload_n hx hb dX14_eat_4 rfl (lv_at hl 0 rfl) ?_
  refine w_gi (k := 149) hx hb hts hown hK hP fX14_108 hk.1 rfl dX14_eat_5 ?_
  obtain ⟨hn8, h⟩ := itn_e h
  refine w_iald (k := (k1 + 1)) hx hb hK hP hk1.2.1 hn8 dX14_eat_8 ?_
  refine lv_iload_n hx hb dX14_eat_9 rfl (lv_at hl 2 rfl) ?_
  refine lv_icmp_eq (tgt := 15) hx hb dX14_eat_10 rfl (fun hc10 => ?_) (fun hc10 => ?_)
  · have h := itt_e h hc10
    refine lv_aload_n hx hb dX14_eat_15 rfl (lv_at hl 0 rfl) ?_
    refine lv_dup hx hb dX14_eat_16 rfl ?_
    refine w_gi (k := 149) hx hb hts hown hK hP fX14_108 hk.1 rfl dX14_eat_17 ?_
    refine lv_iconst (v := 1) hx hb dX14_eat_20 rfl ?_
    refine lv_iadd hx hb dX14_eat_21 ?_
    obtain ⟨v22, e22, h⟩ := bnd_e h
    refine w_pi2 (k := 149) hx hb hts hown hK hP hS hz fX14_108 hk.1 rfl e22 dX14_eat_22 fun H1 locs1 hz hP hS => ?_
    refine lv_iconst (v := 1) hx hb dX14_eat_25 rfl ?_
    exact w_iret hx hb hret rfl hlk hK hP hS hz hE (q_p2b h) dX14_eat_26
  · have h := itf_e h hc10
    refine lv_iconst (v := 0) hx hb dX14_eat_13 rfl ?_
    exact w_iret hx hb hret rfl hlk hK hP hS hz hE (q_p2b h) dX14_eat_14
def f_Model_eatIn (v : Va) (sp : Nat) (k1 : Nat) (a2 : Int32) (a3 : Int32) : Option (Bool × Va) := if (v 149 4) < 0 ∨ 401 ≤ (v 149 4).toNatClampNeg then none else (f_Model_isIn (v (k1 + 1) (v 149 4).toNatClampNeg) a2 a3).bind fun q11 => if (q_b q11) = 0 then (some (false, v)) else (bnd (pu v 149 4 ((v 149 4) + 1)) fun v26 => some (true, v26))
theorem c_Model_eatIn {sp : Nat} {k1 : Nat} {a2 : Int32} {a3 : Int32} (hk : isModel sh sp) (hk1 : isSheet sh k1) {q : Bool × Va} (h : f_Model_eatIn v sp k1 a2 a3 = some q) : MetI l yX14_eatIn cX14_eatIn 4 (some .boolean) 1 Γ sh v w n [.ref (Γ.2.1 + 149), .ref (Γ.2.1 + k1), .int a2, .int a3] (fun x u => x = q_b q.1 ∧ u = q.2) := by
  unfold f_Model_eatIn at h
  refine w_start pn_X14 (Nat.le_of_ble_eq_true rfl) fun p e s m args below meth c hx hb hml hret hlk hnm hts hown hK hP hz hE hS ls hl => ?_
  refine lv_aload_n hx hb dX14_eatIn_0 rfl (lv_at hl 1 rfl) ?_
  refine w_gr (k := k1) (r := (k1 + 1)) hx hb hts hown hK hP fX14_102 hk1.1 rfl dX14_eatIn_1 ?_
  refine lv_aload_n hx hb dX14_eatIn_4 rfl (lv_at hl 0 rfl) ?_
  refine w_gi (k := 149) hx hb hts hown hK hP fX14_108 hk.1 rfl dX14_eatIn_5 ?_
  obtain ⟨hn8, h⟩ := itn_e h
  refine w_iald (k := (k1 + 1)) hx hb hK hP hk1.2.1 hn8 dX14_eatIn_8 ?_
  refine lv_iload_n hx hb dX14_eatIn_9 rfl (lv_at hl 2 rfl) ?_
  refine lv_iload_n hx hb dX14_eatIn_10 rfl (lv_at hl 3 rfl) ?_
  obtain ⟨q11, e11, h⟩ := obn_e h
  refine z_Si (r1 := (q_b q11)) (v1 := v) hx hb hml hts hown hK hP hS hz hE (c_Model_isIn  e11) kX14_isIn mX14_46 rfl rfl hl.1 (Nat.le_of_ble_eq_true rfl) ⟨Nat.le_of_ble_eq_true rfl, Nat.le_of_ble_eq_true rfl⟩ ⟨Nat.le_refl _, Nat.le_refl _⟩ dX14_eatIn_11 fun H1 locs1 hz hP hS => ?_
  refine lv_if_ne (tgt := 19) hx hb dX14_eatIn_14 rfl (fun hc14 => ?_) (fun hc14 => ?_)
  · have h := itf_e h hc14
    refine lv_aload_n hx hb dX14_eatIn_19 rfl (lv_at hl 0 rfl) ?_
    refine lv_dup hx hb dX14_eatIn_20 rfl ?_
    refine w_gi (k := 149) hx hb hts hown hK hP fX14_108 hk.1 rfl dX14_eatIn_21 ?_
    refine lv_iconst (v := 1) hx hb dX14_eatIn_24 rfl ?_
    refine lv_iadd hx hb dX14_eatIn_25 ?_
    obtain ⟨v26, e26, h⟩ := bnd_e h
    refine w_pi2 (k := 149) hx hb hts hown hK hP hS hz fX14_108 hk.1 rfl e26 dX14_eatIn_26 fun H1 locs1 hz hP hS => ?_
    refine lv_iconst (v := 1) hx hb dX14_eatIn_29 rfl ?_
    exact w_iret hx hb hret rfl hlk hK hP hS hz hE (q_p2b h) dX14_eatIn_30
  · have h := itt_e h hc14
    refine lv_iconst (v := 0) hx hb dX14_eatIn_17 rfl ?_
    exact w_iret hx hb hret rfl hlk hK hP hS hz hE (q_p2b h) dX14_eatIn_18
def f_Model_goDown (v : Va) (sp : Nat) (k1 : Nat) (a2 : Int32) : Option (Bool × Va) := if (v 149 4) < 0 ∨ 401 ≤ (v 149 4).toNatClampNeg then none else if (v (k1 + 1) (v 149 4).toNatClampNeg) = a2 then (if (v 149 5) = 8 then (some (false, v)) else (bnd (pu v 149 5 ((v 149 5) + 1)) fun v31 => bnd (pu v31 149 4 ((v31 149 4) + 1)) fun v41 => some (true, v41))) else (some (false, v))
theorem c_Model_goDown {sp : Nat} {k1 : Nat} {a2 : Int32} (hk : isModel sh sp) (hk1 : isSheet sh k1) {q : Bool × Va} (h : f_Model_goDown v sp k1 a2 = some q) : MetI l yX14_goDown cX14_goDown 3 (some .boolean) 0 Γ sh v w n [.ref (Γ.2.1 + 149), .ref (Γ.2.1 + k1), .int a2] (fun x u => x = q_b q.1 ∧ u = q.2) := by
  unfold f_Model_goDown at h
  refine w_start pn_X14 (Nat.le_of_ble_eq_true rfl) fun p e s m args below meth c hx hb hml hret hlk hnm hts hown hK hP hz hE hS ls hl => ?_
  refine lv_aload_n hx hb dX14_goDown_0 rfl (lv_at hl 1 rfl) ?_
  refine w_gr (k := k1) (r := (k1 + 1)) hx hb hts hown hK hP fX14_102 hk1.1 rfl dX14_goDown_1 ?_
  refine lv_aload_n hx hb dX14_goDown_4 rfl (lv_at hl 0 rfl) ?_
  refine w_gi (k := 149) hx hb hts hown hK hP fX14_108 hk.1 rfl dX14_goDown_5 ?_
  obtain ⟨hn8, h⟩ := itn_e h
  refine w_iald (k := (k1 + 1)) hx hb hK hP hk1.2.1 hn8 dX14_goDown_8 ?_
  refine lv_iload_n hx hb dX14_goDown_9 rfl (lv_at hl 2 rfl) ?_
  refine lv_icmp_ne (tgt := 22) hx hb dX14_goDown_10 rfl (fun hc10 => ?_) (fun hc10 => ?_)
  · have h := itf_e h hc10
    refine lv_iconst (v := 0) hx hb dX14_goDown_22 rfl ?_
    exact w_iret hx hb hret rfl hlk hK hP hS hz hE (q_p2b h) dX14_goDown_23
  · have h := itt_e h hc10
    refine lv_aload_n hx hb dX14_goDown_13 rfl (lv_at hl 0 rfl) ?_
    refine w_gi (k := 149) hx hb hts hown hK hP fX14_111 hk.1 rfl dX14_goDown_14 ?_
    refine lv_bipush (v := 8) hx hb dX14_goDown_17 rfl ?_
    refine lv_icmp_ne (tgt := 24) hx hb dX14_goDown_19 rfl (fun hc19 => ?_) (fun hc19 => ?_)
    · have h := itf_e h hc19
      refine lv_aload_n hx hb dX14_goDown_24 rfl (lv_at hl 0 rfl) ?_
      refine lv_dup hx hb dX14_goDown_25 rfl ?_
      refine w_gi (k := 149) hx hb hts hown hK hP fX14_111 hk.1 rfl dX14_goDown_26 ?_
      refine lv_iconst (v := 1) hx hb dX14_goDown_29 rfl ?_
      refine lv_iadd hx hb dX14_goDown_30 ?_
      obtain ⟨v31, e31, h⟩ := bnd_e h
      refine w_pi2 (k := 149) hx hb hts hown hK hP hS hz fX14_111 hk.1 rfl e31 dX14_goDown_31 fun H1 locs1 hz hP hS => ?_
      refine lv_aload_n hx hb dX14_goDown_34 rfl (lv_at hl 0 rfl) ?_
      refine lv_dup hx hb dX14_goDown_35 rfl ?_
      refine w_gi (k := 149) hx hb hts hown hK hP fX14_108 hk.1 rfl dX14_goDown_36 ?_
      refine lv_iconst (v := 1) hx hb dX14_goDown_39 rfl ?_
      refine lv_iadd hx hb dX14_goDown_40 ?_
      obtain ⟨v41, e41, h⟩ := bnd_e h
      refine w_pi2 (k := 149) hx hb hts hown hK hP hS hz fX14_108 hk.1 rfl e41 dX14_goDown_41 fun H1 locs1 hz hP hS => ?_
      refine lv_iconst (v := 1) hx hb dX14_goDown_44 rfl ?_
      exact w_iret hx hb hret rfl hlk hK hP hS hz hE (q_p2b h) dX14_goDown_45
    · have h := itt_e h hc19
      refine lv_iconst (v := 0) hx hb dX14_goDown_22 rfl ?_
      exact w_iret hx hb hret rfl hlk hK hP hS hz hE (q_p2b h) dX14_goDown_23
def f_Model_isNumber (v : Va) (sp : Nat) (k1 : Nat) (a2 : Int32) : Option (Bool × Va) := (f_Model_eat v sp k1 a2).bind fun q3 => if (q_b q3.1) = 0 then (some (false, q3.2)) else ((f_Model_eat q3.2 sp k1 36).bind fun q13 => if (q_b q13.1) = 0 then (some (false, q13.2)) else (some (true, q13.2)))
theorem c_Model_isNumber {sp : Nat} {k1 : Nat} {a2 : Int32} (hk : isModel sh sp) (hk1 : isSheet sh k1) {q : Bool × Va} (h : f_Model_isNumber v sp k1 a2 = some q) : MetI l yX14_isNumber cX14_isNumber 3 (some .boolean) 1 Γ sh v w n [.ref (Γ.2.1 + 149), .ref (Γ.2.1 + k1), .int a2] (fun x u => x = q_b q.1 ∧ u = q.2) := by
  unfold f_Model_isNumber at h
  refine w_start pn_X14 (Nat.le_of_ble_eq_true rfl) fun p e s m args below meth c hx hb hml hret hlk hnm hts hown hK hP hz hE hS ls hl => ?_
  refine lv_aload_n hx hb dX14_isNumber_0 rfl (lv_at hl 0 rfl) ?_
  refine lv_aload_n hx hb dX14_isNumber_1 rfl (lv_at hl 1 rfl) ?_
  refine lv_iload_n hx hb dX14_isNumber_2 rfl (lv_at hl 2 rfl) ?_
  obtain ⟨q3, e3, h⟩ := obn_e h
  refine z_Vi (k := 149) (r1 := (q_b q3.1)) (v1 := q3.2) hx hb hml hts hown hK hP hS hz hE (c_Model_eat hk hk1 e3) kX14_eat mX14_118 hk.1 rfl rfl rfl hl.1 (Nat.le_of_ble_eq_true rfl) ⟨Nat.le_of_ble_eq_true rfl, Nat.le_of_ble_eq_true rfl⟩ ⟨Nat.le_refl _, Nat.le_refl _⟩ dX14_isNumber_3 fun H1 locs1 hz hP hS => ?_
  refine lv_if_eq (tgt := 23) hx hb dX14_isNumber_6 rfl (fun hc6 => ?_) (fun hc6 => ?_)
  · have h := itt_e h hc6
    refine lv_iconst (v := 0) hx hb dX14_isNumber_23 rfl ?_
    exact w_iret hx hb hret rfl hlk hK hP hS hz hE (q_p2b h) dX14_isNumber_24
  · have h := itf_e h hc6
    refine lv_aload_n hx hb dX14_isNumber_9 rfl (lv_at hl 0 rfl) ?_
    refine lv_aload_n hx hb dX14_isNumber_10 rfl (lv_at hl 1 rfl) ?_
    refine lv_bipush (v := 36) hx hb dX14_isNumber_11 rfl ?_
    obtain ⟨q13, e13, h⟩ := obn_e h
    refine z_Vi (k := 149) (r1 := (q_b q13.1)) (v1 := q13.2) hx hb hml hts hown hK hP hS hz hE (c_Model_eat hk hk1 e13) kX14_eat mX14_118 hk.1 rfl rfl rfl hl.1 (Nat.le_of_ble_eq_true rfl) ⟨Nat.le_of_ble_eq_true rfl, Nat.le_of_ble_eq_true rfl⟩ ⟨Nat.le_refl _, Nat.le_refl _⟩ dX14_isNumber_13 fun H1 locs1 hz hP hS => ?_
    refine lv_if_eq (tgt := 23) hx hb dX14_isNumber_16 rfl (fun hc16 => ?_) (fun hc16 => ?_)
    · have h := itt_e h hc16
      refine lv_iconst (v := 0) hx hb dX14_isNumber_23 rfl ?_
      exact w_iret hx hb hret rfl hlk hK hP hS hz hE (q_p2b h) dX14_isNumber_24
    · have h := itf_e h hc16
      refine lv_iconst (v := 1) hx hb dX14_isNumber_19 rfl ?_
      refine lv_goto (tgt := 24) hx hb dX14_isNumber_20 rfl ?_
      exact w_iret hx hb hret rfl hlk hK hP hS hz hE (q_p2b h) dX14_isNumber_24
def f_Model_isName (v : Va) (sp : Nat) (k1 : Nat) (a2 : Int32) : Option (Bool × Va) := (f_Model_eat v sp k1 a2).bind fun q3 => if (q_b q3.1) = 0 then (some (false, q3.2)) else ((f_Model_eat q3.2 sp k1 35).bind fun q13 => if (q_b q13.1) = 0 then (some (false, q13.2)) else (some (true, q13.2)))
theorem c_Model_isName {sp : Nat} {k1 : Nat} {a2 : Int32} (hk : isModel sh sp) (hk1 : isSheet sh k1) {q : Bool × Va} (h : f_Model_isName v sp k1 a2 = some q) : MetI l yX14_isName cX14_isName 3 (some .boolean) 1 Γ sh v w n [.ref (Γ.2.1 + 149), .ref (Γ.2.1 + k1), .int a2] (fun x u => x = q_b q.1 ∧ u = q.2) := by
  unfold f_Model_isName at h
  refine w_start pn_X14 (Nat.le_of_ble_eq_true rfl) fun p e s m args below meth c hx hb hml hret hlk hnm hts hown hK hP hz hE hS ls hl => ?_
  refine lv_aload_n hx hb dX14_isName_0 rfl (lv_at hl 0 rfl) ?_
  refine lv_aload_n hx hb dX14_isName_1 rfl (lv_at hl 1 rfl) ?_
  refine lv_iload_n hx hb dX14_isName_2 rfl (lv_at hl 2 rfl) ?_
  obtain ⟨q3, e3, h⟩ := obn_e h
  refine z_Vi (k := 149) (r1 := (q_b q3.1)) (v1 := q3.2) hx hb hml hts hown hK hP hS hz hE (c_Model_eat hk hk1 e3) kX14_eat mX14_118 hk.1 rfl rfl rfl hl.1 (Nat.le_of_ble_eq_true rfl) ⟨Nat.le_of_ble_eq_true rfl, Nat.le_of_ble_eq_true rfl⟩ ⟨Nat.le_refl _, Nat.le_refl _⟩ dX14_isName_3 fun H1 locs1 hz hP hS => ?_
  refine lv_if_eq (tgt := 23) hx hb dX14_isName_6 rfl (fun hc6 => ?_) (fun hc6 => ?_)
  · have h := itt_e h hc6
    refine lv_iconst (v := 0) hx hb dX14_isName_23 rfl ?_
    exact w_iret hx hb hret rfl hlk hK hP hS hz hE (q_p2b h) dX14_isName_24
  · have h := itf_e h hc6
    refine lv_aload_n hx hb dX14_isName_9 rfl (lv_at hl 0 rfl) ?_
    refine lv_aload_n hx hb dX14_isName_10 rfl (lv_at hl 1 rfl) ?_
    refine lv_bipush (v := 35) hx hb dX14_isName_11 rfl ?_
    obtain ⟨q13, e13, h⟩ := obn_e h
    refine z_Vi (k := 149) (r1 := (q_b q13.1)) (v1 := q13.2) hx hb hml hts hown hK hP hS hz hE (c_Model_eat hk hk1 e13) kX14_eat mX14_118 hk.1 rfl rfl rfl hl.1 (Nat.le_of_ble_eq_true rfl) ⟨Nat.le_of_ble_eq_true rfl, Nat.le_of_ble_eq_true rfl⟩ ⟨Nat.le_refl _, Nat.le_refl _⟩ dX14_isName_13 fun H1 locs1 hz hP hS => ?_
    refine lv_if_eq (tgt := 23) hx hb dX14_isName_16 rfl (fun hc16 => ?_) (fun hc16 => ?_)
    · have h := itt_e h hc16
      refine lv_iconst (v := 0) hx hb dX14_isName_23 rfl ?_
      exact w_iret hx hb hret rfl hlk hK hP hS hz hE (q_p2b h) dX14_isName_24
    · have h := itf_e h hc16
      refine lv_iconst (v := 1) hx hb dX14_isName_19 rfl ?_
      refine lv_goto (tgt := 24) hx hb dX14_isName_20 rfl ?_
      exact w_iret hx hb hret rfl hlk hK hP hS hz hE (q_p2b h) dX14_isName_24
def b_Model_number_5 (v : Va) (k1 : Nat) (a2 : Int32) (K5 : (Int32 × Int32) → Option Int32) (t5 : Int32 × Int32) : Option Int32 := if a2 < 0 ∨ 401 ≤ a2.toNatClampNeg then none else if (v (k1 + 3) a2.toNatClampNeg) ≤ t5.2 then (some t5.1) else (if a2 < 0 ∨ 401 ≤ a2.toNatClampNeg then none else if ((v (k1 + 2) a2.toNatClampNeg) + t5.2) < 0 ∨ 2000 ≤ ((v (k1 + 2) a2.toNatClampNeg) + t5.2).toNatClampNeg then none else K5 ((((10 * t5.1) + (v 150 ((v (k1 + 2) a2.toNatClampNeg) + t5.2).toNatClampNeg)) - 48), (t5.2 + 1)))
def f_Model_number (z : Nat) (v : Va) (sp : Nat) (k1 : Nat) (a2 : Int32) : Option Int32 := rp (b_Model_number_5 v k1 a2) z (0, 0)
theorem c_Model_number {sp : Nat} {k1 : Nat} {a2 : Int32} (hk : isModel sh sp) (hk1 : isSheet sh k1) {q : Int32} (h : f_Model_number z v sp k1 a2 = some q) : MetI l yX14_number cX14_number 5 (some .int) 0 Γ sh v w n [.ref (Γ.2.1 + 149), .ref (Γ.2.1 + k1), .int a2] (fun x u => x = q ∧ u = v) := by
  unfold f_Model_number at h
  refine w_start pn_X14 (Nat.le_of_ble_eq_true rfl) fun p e s m args below meth c hx hb hml hret hlk hnm hts hown hK hP hz hE hS ls hl => ?_
  refine lv_iconst (v := 0) hx hb dX14_number_0 rfl ?_
  refine lv_istore_n (lv' := [(3, .int 0), (0, .ref (Γ.2.1 + 149)), (1, .ref (Γ.2.1 + k1)), (2, .int a2)]) hx hb dX14_number_1 rfl hl (by decide) rfl fun ls hl => ?_
  refine lv_iconst (v := 0) hx hb dX14_number_2 rfl ?_
  refine lv_istore (lv' := [(4, .int 0), (3, .int 0), (0, .ref (Γ.2.1 + 149)), (1, .ref (Γ.2.1 + k1)), (2, .int a2)]) hx hb dX14_number_3 hl (by decide) rfl fun ls hl => ?_
  have L5 : ∀ (fu : Nat) (t5 : Int32 × Int32), rp (b_Model_number_5 v k1 a2) fu t5 = some q → ∀ (H1 : Heap) (locs1 : List Loc) (ls1 : Array Slot), lv_has ls1 5 [(0, .ref (Γ.2.1 + 149)), (1, .ref (Γ.2.1 + k1)), (2, .int a2), (3, .int t5.1), (4, .int t5.2)] → Wd Γ sh v w H1 → va_S (gA Γ) s.heap H1 locs1 → H1.size = Γ.2.1 + n → wpI Γ sh w n 0 (fun x u => x = q ∧ u = v) p l e s m args below meth c H1 locs1 (F0 m 5 ls1 []) := by
    refine q_loop (fun K5 ih5 t5 h H1 locs1 ls hl hP hS hz => ?_)
    unfold b_Model_number_5 at h
    refine lv_iload hx hb dX14_number_5 (lv_at hl 4 rfl) ?_
    refine lv_aload_n hx hb dX14_number_7 rfl (lv_at hl 1 rfl) ?_
    refine w_gr (k := k1) (r := (k1 + 3)) hx hb hts hown hK hP fX14_96 hk1.1 rfl dX14_number_8 ?_
    refine lv_iload_n hx hb dX14_number_11 rfl (lv_at hl 2 rfl) ?_
    obtain ⟨hn12, h⟩ := itn_e h
    refine w_iald (k := (k1 + 3)) hx hb hK hP hk1.2.2.2.1 hn12 dX14_number_12 ?_
    refine lv_icmp_ge (tgt := 45) hx hb dX14_number_13 rfl (fun hc13 => ?_) (fun hc13 => ?_)
    · have h := itt_e h hc13
      refine lv_iload_n hx hb dX14_number_45 rfl (lv_at hl 3 rfl) ?_
      exact w_iret hx hb hret rfl hlk hK hP hS hz hE (q_p1 h) dX14_number_46
    · have h := itf_e h hc13
      refine lv_bipush (v := 10) hx hb dX14_number_16 rfl ?_
      refine lv_iload_n hx hb dX14_number_18 rfl (lv_at hl 3 rfl) ?_
      refine lv_imul hx hb dX14_number_19 ?_
      refine lv_aload_n hx hb dX14_number_20 rfl (lv_at hl 0 rfl) ?_
      refine w_gr (k := 149) (r := 150) hx hb hts hown hK hP fX14_9 hk.1 rfl dX14_number_21 ?_
      refine lv_aload_n hx hb dX14_number_24 rfl (lv_at hl 1 rfl) ?_
      refine w_gr (k := k1) (r := (k1 + 2)) hx hb hts hown hK hP fX14_93 hk1.1 rfl dX14_number_25 ?_
      refine lv_iload_n hx hb dX14_number_28 rfl (lv_at hl 2 rfl) ?_
      obtain ⟨hn29, h⟩ := itn_e h
      refine w_iald (k := (k1 + 2)) hx hb hK hP hk1.2.2.1 hn29 dX14_number_29 ?_
      refine lv_iload hx hb dX14_number_30 (lv_at hl 4 rfl) ?_
      refine lv_iadd hx hb dX14_number_32 ?_
      obtain ⟨hn33, h⟩ := itn_e h
      refine w_iald (k := 150) hx hb hK hP hk.2.1 hn33 dX14_number_33 ?_
      refine lv_iadd hx hb dX14_number_34 ?_
      refine lv_bipush (v := 48) hx hb dX14_number_35 rfl ?_
      refine lv_isub hx hb dX14_number_37 ?_
      refine lv_istore_n (lv' := [(3, .int (((10 * t5.1) + (v 150 ((v (k1 + 2) a2.toNatClampNeg) + t5.2).toNatClampNeg)) - 48)), (0, .ref (Γ.2.1 + 149)), (1, .ref (Γ.2.1 + k1)), (2, .int a2), (4, .int t5.2)]) hx hb dX14_number_38 rfl hl (by decide) rfl fun ls hl => ?_
      refine lv_iinc (k := 4) (v := (t5.2 + 1)) (lv' := [(4, .int (t5.2 + 1)), (3, .int (((10 * t5.1) + (v 150 ((v (k1 + 2) a2.toNatClampNeg) + t5.2).toNatClampNeg)) - 48)), (0, .ref (Γ.2.1 + 149)), (1, .ref (Γ.2.1 + k1)), (2, .int a2)]) hx hb dX14_number_39 hl rfl rfl (by decide) rfl fun ls hl => ?_
      refine lv_goto (tgt := 5) hx hb dX14_number_42 rfl ?_
      exact ih5 ((((10 * t5.1) + (v 150 ((v (k1 + 2) a2.toNatClampNeg) + t5.2).toNatClampNeg)) - 48), (t5.2 + 1)) h _ _ _ (lv_sub hl [2, 3, 4, 1, 0] rfl) hP hS hz
  exact L5 z (0, 0) h _ _ _ (lv_sub hl [2, 3, 4, 1, 0] rfl) hP hS hz
def j_Model_areSame_77 (K25 : (Bool × Int32) → Option Bool) (t25 : Bool × Int32) (s77_0 : Bool) : Option Bool := K25 (s77_0, (t25.2 + 1))
def b_Model_areSame_25 (v : Va) (k1 : Nat) (a2 : Int32) (a3 : Int32) (K25 : (Bool × Int32) → Option Bool) (t25 : Bool × Int32) : Option Bool := if (q_b t25.1) = 0 then (some t25.1) else (if a2 < 0 ∨ 401 ≤ a2.toNatClampNeg then none else if (v (k1 + 3) a2.toNatClampNeg) ≤ t25.2 then (some t25.1) else (if a2 < 0 ∨ 401 ≤ a2.toNatClampNeg then none else if ((v (k1 + 2) a2.toNatClampNeg) + t25.2) < 0 ∨ 2000 ≤ ((v (k1 + 2) a2.toNatClampNeg) + t25.2).toNatClampNeg then none else if a3 < 0 ∨ 401 ≤ a3.toNatClampNeg then none else if ((v (k1 + 2) a3.toNatClampNeg) + t25.2) < 0 ∨ 2000 ≤ ((v (k1 + 2) a3.toNatClampNeg) + t25.2).toNatClampNeg then none else if (v 150 ((v (k1 + 2) a2.toNatClampNeg) + t25.2).toNatClampNeg) = (v 150 ((v (k1 + 2) a3.toNatClampNeg) + t25.2).toNatClampNeg) then (j_Model_areSame_77 K25 t25 true) else (j_Model_areSame_77 K25 t25 false)))
def j_Model_areSame_20 (z : Nat) (v : Va) (k1 : Nat) (a2 : Int32) (a3 : Int32) (s20_0 : Bool) : Option Bool := rp (b_Model_areSame_25 v k1 a2 a3) z (s20_0, 0)
def f_Model_areSame (z : Nat) (v : Va) (sp : Nat) (k1 : Nat) (a2 : Int32) (a3 : Int32) : Option Bool := if a2 < 0 ∨ 401 ≤ a2.toNatClampNeg then none else if a3 < 0 ∨ 401 ≤ a3.toNatClampNeg then none else if (v (k1 + 3) a2.toNatClampNeg) = (v (k1 + 3) a3.toNatClampNeg) then (j_Model_areSame_20 z v k1 a2 a3 true) else (j_Model_areSame_20 z v k1 a2 a3 false)
theorem c_Model_areSame {sp : Nat} {k1 : Nat} {a2 : Int32} {a3 : Int32} (hk : isModel sh sp) (hk1 : isSheet sh k1) {q : Bool} (h : f_Model_areSame z v sp k1 a2 a3 = some q) : MetI l yX14_areSame cX14_areSame 6 (some .boolean) 0 Γ sh v w n [.ref (Γ.2.1 + 149), .ref (Γ.2.1 + k1), .int a2, .int a3] (fun x u => x = q_b q ∧ u = v) := by
  unfold f_Model_areSame at h
  refine w_start pn_X14 (Nat.le_of_ble_eq_true rfl) fun p e s m args below meth c hx hb hml hret hlk hnm hts hown hK hP hz hE hS ls hl => ?_
  refine lv_aload_n hx hb dX14_areSame_0 rfl (lv_at hl 1 rfl) ?_
  refine w_gr (k := k1) (r := (k1 + 3)) hx hb hts hown hK hP fX14_96 hk1.1 rfl dX14_areSame_1 ?_
  refine lv_iload_n hx hb dX14_areSame_4 rfl (lv_at hl 2 rfl) ?_
  obtain ⟨hn5, h⟩ := itn_e h
  refine w_iald (k := (k1 + 3)) hx hb hK hP hk1.2.2.2.1 hn5 dX14_areSame_5 ?_
  refine lv_aload_n hx hb dX14_areSame_6 rfl (lv_at hl 1 rfl) ?_
  refine w_gr (k := k1) (r := (k1 + 3)) hx hb hts hown hK hP fX14_96 hk1.1 rfl dX14_areSame_7 ?_
  refine lv_iload_n hx hb dX14_areSame_10 rfl (lv_at hl 3 rfl) ?_
  obtain ⟨hn11, h⟩ := itn_e h
  refine w_iald (k := (k1 + 3)) hx hb hK hP hk1.2.2.2.1 hn11 dX14_areSame_11 ?_
  have J20 : ∀ (s20_0 : Bool), (j_Model_areSame_20 z v k1 a2 a3) s20_0 = some q → ∀ (H1 : Heap) (locs1 : List Loc) (ls1 : Array Slot), lv_has ls1 6 [(0, .ref (Γ.2.1 + 149)), (1, .ref (Γ.2.1 + k1)), (2, .int a2), (3, .int a3)] → Wd Γ sh v w H1 → va_S (gA Γ) s.heap H1 locs1 → H1.size = Γ.2.1 + n → wpI Γ sh w n 0 (fun x u => x = q_b q ∧ u = v) p l e s m args below meth c H1 locs1 (F0 m 20 ls1 [.int (q_b s20_0)]) := by
    intro s20_0 h H1 locs1 ls hl hP hS hz
    unfold j_Model_areSame_20 at h
    refine lv_istore (lv' := [(4, .int (q_b s20_0)), (0, .ref (Γ.2.1 + 149)), (1, .ref (Γ.2.1 + k1)), (2, .int a2), (3, .int a3)]) hx hb dX14_areSame_20 hl (by decide) rfl fun ls hl => ?_
    refine lv_iconst (v := 0) hx hb dX14_areSame_22 rfl ?_
    refine lv_istore (lv' := [(5, .int 0), (4, .int (q_b s20_0)), (0, .ref (Γ.2.1 + 149)), (1, .ref (Γ.2.1 + k1)), (2, .int a2), (3, .int a3)]) hx hb dX14_areSame_23 hl (by decide) rfl fun ls hl => ?_
    have L25 : ∀ (fu : Nat) (t25 : Bool × Int32), rp (b_Model_areSame_25 v k1 a2 a3) fu t25 = some q → ∀ (H1 : Heap) (locs1 : List Loc) (ls1 : Array Slot), lv_has ls1 6 [(0, .ref (Γ.2.1 + 149)), (1, .ref (Γ.2.1 + k1)), (2, .int a2), (3, .int a3), (4, .int (q_b t25.1)), (5, .int t25.2)] → Wd Γ sh v w H1 → va_S (gA Γ) s.heap H1 locs1 → H1.size = Γ.2.1 + n → wpI Γ sh w n 0 (fun x u => x = q_b q ∧ u = v) p l e s m args below meth c H1 locs1 (F0 m 25 ls1 []) := by
      refine q_loop (fun K25 ih25 t25 h H1 locs1 ls hl hP hS hz => ?_)
      unfold b_Model_areSame_25 at h
      refine lv_iload hx hb dX14_areSame_25 (lv_at hl 4 rfl) ?_
      refine lv_if_eq (tgt := 85) hx hb dX14_areSame_27 rfl (fun hc27 => ?_) (fun hc27 => ?_)
      · have h := itt_e h hc27
        refine lv_iload hx hb dX14_areSame_85 (lv_at hl 4 rfl) ?_
        exact w_iret hx hb hret (q_bn _) hlk hK hP hS hz hE (q_p1b h) dX14_areSame_87
      · have h := itf_e h hc27
        refine lv_iload hx hb dX14_areSame_30 (lv_at hl 5 rfl) ?_
        refine lv_aload_n hx hb dX14_areSame_32 rfl (lv_at hl 1 rfl) ?_
        refine w_gr (k := k1) (r := (k1 + 3)) hx hb hts hown hK hP fX14_96 hk1.1 rfl dX14_areSame_33 ?_
        refine lv_iload_n hx hb dX14_areSame_36 rfl (lv_at hl 2 rfl) ?_
        obtain ⟨hn37, h⟩ := itn_e h
        refine w_iald (k := (k1 + 3)) hx hb hK hP hk1.2.2.2.1 hn37 dX14_areSame_37 ?_
        refine lv_icmp_ge (tgt := 85) hx hb dX14_areSame_38 rfl (fun hc38 => ?_) (fun hc38 => ?_)
        · have h := itt_e h hc38
          refine lv_iload hx hb dX14_areSame_85 (lv_at hl 4 rfl) ?_
          exact w_iret hx hb hret (q_bn _) hlk hK hP hS hz hE (q_p1b h) dX14_areSame_87
        · have h := itf_e h hc38
          refine lv_aload_n hx hb dX14_areSame_41 rfl (lv_at hl 0 rfl) ?_
          refine w_gr (k := 149) (r := 150) hx hb hts hown hK hP fX14_9 hk.1 rfl dX14_areSame_42 ?_
          refine lv_aload_n hx hb dX14_areSame_45 rfl (lv_at hl 1 rfl) ?_
          refine w_gr (k := k1) (r := (k1 + 2)) hx hb hts hown hK hP fX14_93 hk1.1 rfl dX14_areSame_46 ?_
          refine lv_iload_n hx hb dX14_areSame_49 rfl (lv_at hl 2 rfl) ?_
          obtain ⟨hn50, h⟩ := itn_e h
          refine w_iald (k := (k1 + 2)) hx hb hK hP hk1.2.2.1 hn50 dX14_areSame_50 ?_
          refine lv_iload hx hb dX14_areSame_51 (lv_at hl 5 rfl) ?_
          refine lv_iadd hx hb dX14_areSame_53 ?_
          obtain ⟨hn54, h⟩ := itn_e h
          refine w_iald (k := 150) hx hb hK hP hk.2.1 hn54 dX14_areSame_54 ?_
          refine lv_aload_n hx hb dX14_areSame_55 rfl (lv_at hl 0 rfl) ?_
          refine w_gr (k := 149) (r := 150) hx hb hts hown hK hP fX14_9 hk.1 rfl dX14_areSame_56 ?_
          refine lv_aload_n hx hb dX14_areSame_59 rfl (lv_at hl 1 rfl) ?_
          refine w_gr (k := k1) (r := (k1 + 2)) hx hb hts hown hK hP fX14_93 hk1.1 rfl dX14_areSame_60 ?_
          refine lv_iload_n hx hb dX14_areSame_63 rfl (lv_at hl 3 rfl) ?_
          obtain ⟨hn64, h⟩ := itn_e h
          refine w_iald (k := (k1 + 2)) hx hb hK hP hk1.2.2.1 hn64 dX14_areSame_64 ?_
          refine lv_iload hx hb dX14_areSame_65 (lv_at hl 5 rfl) ?_
          refine lv_iadd hx hb dX14_areSame_67 ?_
          obtain ⟨hn68, h⟩ := itn_e h
          refine w_iald (k := 150) hx hb hK hP hk.2.1 hn68 dX14_areSame_68 ?_
          have J77 : ∀ (s77_0 : Bool), (j_Model_areSame_77 K25 t25) s77_0 = some q → ∀ (H1 : Heap) (locs1 : List Loc) (ls1 : Array Slot), lv_has ls1 6 [(0, .ref (Γ.2.1 + 149)), (1, .ref (Γ.2.1 + k1)), (2, .int a2), (3, .int a3), (5, .int t25.2)] → Wd Γ sh v w H1 → va_S (gA Γ) s.heap H1 locs1 → H1.size = Γ.2.1 + n → wpI Γ sh w n 0 (fun x u => x = q_b q ∧ u = v) p l e s m args below meth c H1 locs1 (F0 m 77 ls1 [.int (q_b s77_0)]) := by
            intro s77_0 h H1 locs1 ls hl hP hS hz
            unfold j_Model_areSame_77 at h
            refine lv_istore (lv' := [(4, .int (q_b s77_0)), (0, .ref (Γ.2.1 + 149)), (1, .ref (Γ.2.1 + k1)), (2, .int a2), (3, .int a3), (5, .int t25.2)]) hx hb dX14_areSame_77 hl (by decide) rfl fun ls hl => ?_
            refine lv_iinc (k := 5) (v := (t25.2 + 1)) (lv' := [(5, .int (t25.2 + 1)), (4, .int (q_b s77_0)), (0, .ref (Γ.2.1 + 149)), (1, .ref (Γ.2.1 + k1)), (2, .int a2), (3, .int a3)]) hx hb dX14_areSame_79 hl rfl rfl (by decide) rfl fun ls hl => ?_
            refine lv_goto (tgt := 25) hx hb dX14_areSame_82 rfl ?_
            exact ih25 (s77_0, (t25.2 + 1)) h _ _ _ (lv_sub hl [2, 3, 4, 5, 1, 0] rfl) hP hS hz
          refine lv_icmp_ne (tgt := 76) hx hb dX14_areSame_69 rfl (fun hc69 => ?_) (fun hc69 => ?_)
          · have h := itf_e h hc69
            refine lv_iconst (v := 0) hx hb dX14_areSame_76 rfl ?_
            exact J77 false h _ _ _ (lv_sub hl [0, 1, 2, 3, 5] rfl) hP hS hz
          · have h := itt_e h hc69
            refine lv_iconst (v := 1) hx hb dX14_areSame_72 rfl ?_
            refine lv_goto (tgt := 77) hx hb dX14_areSame_73 rfl ?_
            exact J77 true h _ _ _ (lv_sub hl [0, 1, 2, 3, 5] rfl) hP hS hz
    exact L25 z (s20_0, 0) h _ _ _ (lv_sub hl [2, 3, 4, 5, 1, 0] rfl) hP hS hz
  refine lv_icmp_ne (tgt := 19) hx hb dX14_areSame_12 rfl (fun hc12 => ?_) (fun hc12 => ?_)
  · have h := itf_e h hc12
    refine lv_iconst (v := 0) hx hb dX14_areSame_19 rfl ?_
    exact J20 false h _ _ _ (lv_sub hl [0, 1, 2, 3] rfl) hP hS hz
  · have h := itt_e h hc12
    refine lv_iconst (v := 1) hx hb dX14_areSame_15 rfl ?_
    refine lv_goto (tgt := 20) hx hb dX14_areSame_16 rfl ?_
    exact J20 true h _ _ _ (lv_sub hl [0, 1, 2, 3] rfl) hP hS hz
def b_Model_find_3 (z : Nat) (v : Va) (sp : Nat) (k1 : Nat) (ka2 : Nat) (Na2 : Nat) (a3 : Int32) (a4 : Int32) (K3 : Int32 → Option Int32) (t3 : Int32) : Option Int32 := if a3 ≤ t3 then (some (-1)) else (if t3 < 0 ∨ Na2 ≤ t3.toNatClampNeg then none else (f_Model_areSame z v sp k1 (v ka2 t3.toNatClampNeg) a4).bind fun q17 => if (q_b q17) = 0 then (K3 (t3 + 1)) else (some t3))
def f_Model_find (z : Nat) (v : Va) (sp : Nat) (k1 : Nat) (ka2 : Nat) (Na2 : Nat) (a3 : Int32) (a4 : Int32) : Option Int32 := rp (b_Model_find_3 z v sp k1 ka2 Na2 a3 a4) z 0
theorem c_Model_find {sp : Nat} {k1 : Nat} {ka2 : Nat} {Na2 : Nat} {a3 : Int32} {a4 : Int32} (hk : isModel sh sp) (hk1 : isSheet sh k1) (ha2 : sh ka2 = some (sA Na2)) {q : Int32} (h : f_Model_find z v sp k1 ka2 Na2 a3 a4 = some q) : MetI l yX14_find cX14_find 6 (some .int) 1 Γ sh v w n [.ref (Γ.2.1 + 149), .ref (Γ.2.1 + k1), .ref (Γ.2.1 + ka2), .int a3, .int a4] (fun x u => x = q ∧ u = v) := by
  unfold f_Model_find at h
  refine w_start pn_X14 (Nat.le_of_ble_eq_true rfl) fun p e s m args below meth c hx hb hml hret hlk hnm hts hown hK hP hz hE hS ls hl => ?_
  refine lv_iconst (v := 0) hx hb dX14_find_0 rfl ?_
  refine lv_istore (lv' := [(5, .int 0), (0, .ref (Γ.2.1 + 149)), (1, .ref (Γ.2.1 + k1)), (2, .ref (Γ.2.1 + ka2)), (3, .int a3), (4, .int a4)]) hx hb dX14_find_1 hl (by decide) rfl fun ls hl => ?_
  have L3 : ∀ (fu : Nat) (t3 : Int32), rp (b_Model_find_3 z v sp k1 ka2 Na2 a3 a4) fu t3 = some q → ∀ (H1 : Heap) (locs1 : List Loc) (ls1 : Array Slot), lv_has ls1 6 [(0, .ref (Γ.2.1 + 149)), (1, .ref (Γ.2.1 + k1)), (2, .ref (Γ.2.1 + ka2)), (3, .int a3), (4, .int a4), (5, .int t3)] → Wd Γ sh v w H1 → va_S (gA Γ) s.heap H1 locs1 → H1.size = Γ.2.1 + n → wpI Γ sh w n 1 (fun x u => x = q ∧ u = v) p l e s m args below meth c H1 locs1 (F0 m 3 ls1 []) := by
    refine q_loop (fun K3 ih3 t3 h H1 locs1 ls hl hP hS hz => ?_)
    unfold b_Model_find_3 at h
    refine lv_iload hx hb dX14_find_3 (lv_at hl 5 rfl) ?_
    refine lv_iload_n hx hb dX14_find_5 rfl (lv_at hl 3 rfl) ?_
    refine lv_icmp_ge (tgt := 32) hx hb dX14_find_6 rfl (fun hc6 => ?_) (fun hc6 => ?_)
    · have h := itt_e h hc6
      refine lv_iconst (v := (-1)) hx hb dX14_find_32 rfl ?_
      exact w_iret hx hb hret rfl hlk hK hP hS hz hE (q_p1 h) dX14_find_33
    · have h := itf_e h hc6
      refine lv_aload_n hx hb dX14_find_9 rfl (lv_at hl 0 rfl) ?_
      refine lv_aload_n hx hb dX14_find_10 rfl (lv_at hl 1 rfl) ?_
      refine lv_aload_n hx hb dX14_find_11 rfl (lv_at hl 2 rfl) ?_
      refine lv_iload hx hb dX14_find_12 (lv_at hl 5 rfl) ?_
      obtain ⟨hn14, h⟩ := itn_e h
      refine w_iald (k := ka2) hx hb hK hP ha2 hn14 dX14_find_14 ?_
      refine lv_iload hx hb dX14_find_15 (lv_at hl 4 rfl) ?_
      obtain ⟨q17, e17, h⟩ := obn_e h
      refine z_Vi (k := 149) (r1 := (q_b q17)) (v1 := v) hx hb hml hts hown hK hP hS hz hE (c_Model_areSame hk hk1 e17) kX14_areSame mX14_156 hk.1 rfl rfl rfl hl.1 (Nat.le_of_ble_eq_true rfl) ⟨Nat.le_of_ble_eq_true rfl, Nat.le_of_ble_eq_true rfl⟩ ⟨Nat.le_refl _, Nat.le_refl _⟩ dX14_find_17 fun H1 locs1 hz hP hS => ?_
      refine lv_if_eq (tgt := 26) hx hb dX14_find_20 rfl (fun hc20 => ?_) (fun hc20 => ?_)
      · have h := itt_e h hc20
        refine lv_iinc (k := 5) (v := (t3 + 1)) (lv' := [(5, .int (t3 + 1)), (0, .ref (Γ.2.1 + 149)), (1, .ref (Γ.2.1 + k1)), (2, .ref (Γ.2.1 + ka2)), (3, .int a3), (4, .int a4)]) hx hb dX14_find_26 hl rfl rfl (by decide) rfl fun ls hl => ?_
        refine lv_goto (tgt := 3) hx hb dX14_find_29 rfl ?_
        exact ih3 (t3 + 1) h _ _ _ (lv_sub hl [1, 2, 3, 4, 5, 0] rfl) hP hS hz
      · have h := itf_e h hc20
        refine lv_iload hx hb dX14_find_23 (lv_at hl 5 rfl) ?_
        exact w_iret hx hb hret rfl hlk hK hP hS hz hE (q_p1 h) dX14_find_25
  exact L3 z 0 h _ _ _ (lv_sub hl [1, 2, 3, 4, 5, 0] rfl) hP hS hz
def f_Model_namesOf (v : Va) (sp : Nat) (k1 : Nat) (a2 : Int32) : Option (Nat × Nat) := if a2 = 0 then (some ((k1 + 5), 4)) else (if a2 = 2 then (some ((k1 + 7), 4)) else (if a2 = 5 then (some ((k1 + 10), 6)) else (some ((k1 + 13), 10))))
theorem c_Model_namesOf {sp : Nat} {k1 : Nat} {a2 : Int32} (hk : isModel sh sp) (hk1 : isSheet sh k1) {q : Nat × Nat} (h : f_Model_namesOf v sp k1 a2 = some q) : MetR l yX14_namesOf cX14_namesOf 3 (some (FieldType.array FieldType.int)) 0 Γ sh v w n [.ref (Γ.2.1 + 149), .ref (Γ.2.1 + k1), .int a2] (fun x u => x = q.1 ∧ u = v) := by
  unfold f_Model_namesOf at h
  refine w_start pn_X14 (Nat.le_of_ble_eq_true rfl) fun p e s m args below meth c hx hb hml hret hlk hnm hts hown hK hP hz hE hS ls hl => ?_
  refine lv_iload_n hx hb dX14_namesOf_0 rfl (lv_at hl 2 rfl) ?_
  refine lv_if_ne (tgt := 11) hx hb dX14_namesOf_1 rfl (fun hc1 => ?_) (fun hc1 => ?_)
  · have h := itf_e h hc1
    refine lv_iload_n hx hb dX14_namesOf_11 rfl (lv_at hl 2 rfl) ?_
    refine lv_iconst (v := 2) hx hb dX14_namesOf_12 rfl ?_
    refine lv_icmp_ne (tgt := 23) hx hb dX14_namesOf_13 rfl (fun hc13 => ?_) (fun hc13 => ?_)
    · have h := itf_e h hc13
      refine lv_iload_n hx hb dX14_namesOf_23 rfl (lv_at hl 2 rfl) ?_
      refine lv_iconst (v := 5) hx hb dX14_namesOf_24 rfl ?_
      refine lv_icmp_ne (tgt := 35) hx hb dX14_namesOf_25 rfl (fun hc25 => ?_) (fun hc25 => ?_)
      · have h := itf_e h hc25
        refine lv_aload_n hx hb dX14_namesOf_35 rfl (lv_at hl 1 rfl) ?_
        refine w_gr (k := k1) (r := (k1 + 13)) hx hb hts hown hK hP fX14_168 hk1.1 rfl dX14_namesOf_36 ?_
        exact w_rret (post := (fun x u => x = q.1 ∧ u = v)) hx hb hret (Or.inr ⟨_, rfl⟩) hlk hK hP hS hz hE (q_p1r h) dX14_namesOf_39
      · have h := itt_e h hc25
        refine lv_aload_n hx hb dX14_namesOf_28 rfl (lv_at hl 1 rfl) ?_
        refine w_gr (k := k1) (r := (k1 + 10)) hx hb hts hown hK hP fX14_165 hk1.1 rfl dX14_namesOf_29 ?_
        refine lv_goto (tgt := 39) hx hb dX14_namesOf_32 rfl ?_
        exact w_rret (post := (fun x u => x = q.1 ∧ u = v)) hx hb hret (Or.inr ⟨_, rfl⟩) hlk hK hP hS hz hE (q_p1r h) dX14_namesOf_39
    · have h := itt_e h hc13
      refine lv_aload_n hx hb dX14_namesOf_16 rfl (lv_at hl 1 rfl) ?_
      refine w_gr (k := k1) (r := (k1 + 7)) hx hb hts hown hK hP fX14_162 hk1.1 rfl dX14_namesOf_17 ?_
      refine lv_goto (tgt := 39) hx hb dX14_namesOf_20 rfl ?_
      exact w_rret (post := (fun x u => x = q.1 ∧ u = v)) hx hb hret (Or.inr ⟨_, rfl⟩) hlk hK hP hS hz hE (q_p1r h) dX14_namesOf_39
  · have h := itt_e h hc1
    refine lv_aload_n hx hb dX14_namesOf_4 rfl (lv_at hl 1 rfl) ?_
    refine w_gr (k := k1) (r := (k1 + 5)) hx hb hts hown hK hP fX14_159 hk1.1 rfl dX14_namesOf_5 ?_
    refine lv_goto (tgt := 39) hx hb dX14_namesOf_8 rfl ?_
    exact w_rret (post := (fun x u => x = q.1 ∧ u = v)) hx hb hret (Or.inr ⟨_, rfl⟩) hlk hK hP hS hz hE (q_p1r h) dX14_namesOf_39
theorem s_Model_namesOf {sp : Nat} {k1 : Nat} {a2 : Int32} (hk : isModel sh sp) (hk1 : isSheet sh k1) {q : Nat × Nat} (h : f_Model_namesOf v sp k1 a2 = some q) : sh q.1 = some (sA q.2) := by
  unfold f_Model_namesOf at h
  repeat (first | (cases h; first | exact hk1.2.2.2.2.2.2.2.2.2.2.2.2.2.1 | exact hk1.2.2.2.2.2.2.2.2.2.2.1 | exact hk1.2.2.2.2.2.2.2.1 | exact hk1.2.2.2.2.2.1) | split at h)
def f_Model_manyOf (v : Va) (sp : Nat) (k1 : Nat) (a2 : Int32) : Option Int32 := if a2 = 0 then (some (v k1 4)) else (if a2 = 2 then (some (v k1 7)) else (if a2 = 5 then (some (v k1 11)) else (some (v k1 15))))
theorem c_Model_manyOf {sp : Nat} {k1 : Nat} {a2 : Int32} (hk : isModel sh sp) (hk1 : isSheet sh k1) {q : Int32} (h : f_Model_manyOf v sp k1 a2 = some q) : MetI l yX14_manyOf cX14_manyOf 3 (some .int) 0 Γ sh v w n [.ref (Γ.2.1 + 149), .ref (Γ.2.1 + k1), .int a2] (fun x u => x = q ∧ u = v) := by
  unfold f_Model_manyOf at h
  refine w_start pn_X14 (Nat.le_of_ble_eq_true rfl) fun p e s m args below meth c hx hb hml hret hlk hnm hts hown hK hP hz hE hS ls hl => ?_
  refine lv_iload_n hx hb dX14_manyOf_0 rfl (lv_at hl 2 rfl) ?_
  refine lv_if_ne (tgt := 11) hx hb dX14_manyOf_1 rfl (fun hc1 => ?_) (fun hc1 => ?_)
  · have h := itf_e h hc1
    refine lv_iload_n hx hb dX14_manyOf_11 rfl (lv_at hl 2 rfl) ?_
    refine lv_iconst (v := 2) hx hb dX14_manyOf_12 rfl ?_
    refine lv_icmp_ne (tgt := 23) hx hb dX14_manyOf_13 rfl (fun hc13 => ?_) (fun hc13 => ?_)
    · have h := itf_e h hc13
      refine lv_iload_n hx hb dX14_manyOf_23 rfl (lv_at hl 2 rfl) ?_
      refine lv_iconst (v := 5) hx hb dX14_manyOf_24 rfl ?_
      refine lv_icmp_ne (tgt := 35) hx hb dX14_manyOf_25 rfl (fun hc25 => ?_) (fun hc25 => ?_)
      · have h := itf_e h hc25
        refine lv_aload_n hx hb dX14_manyOf_35 rfl (lv_at hl 1 rfl) ?_
        refine w_gi (k := k1) hx hb hts hown hK hP fX14_54 hk1.1 rfl dX14_manyOf_36 ?_
        exact w_iret hx hb hret rfl hlk hK hP hS hz hE (q_p1 h) dX14_manyOf_39
      · have h := itt_e h hc25
        refine lv_aload_n hx hb dX14_manyOf_28 rfl (lv_at hl 1 rfl) ?_
        refine w_gi (k := k1) hx hb hts hown hK hP fX14_43 hk1.1 rfl dX14_manyOf_29 ?_
        refine lv_goto (tgt := 39) hx hb dX14_manyOf_32 rfl ?_
        exact w_iret hx hb hret rfl hlk hK hP hS hz hE (q_p1 h) dX14_manyOf_39
    · have h := itt_e h hc13
      refine lv_aload_n hx hb dX14_manyOf_16 rfl (lv_at hl 1 rfl) ?_
      refine w_gi (k := k1) hx hb hts hown hK hP fX14_174 hk1.1 rfl dX14_manyOf_17 ?_
      refine lv_goto (tgt := 39) hx hb dX14_manyOf_20 rfl ?_
      exact w_iret hx hb hret rfl hlk hK hP hS hz hE (q_p1 h) dX14_manyOf_39
  · have h := itt_e h hc1
    refine lv_aload_n hx hb dX14_manyOf_4 rfl (lv_at hl 1 rfl) ?_
    refine w_gi (k := k1) hx hb hts hown hK hP fX14_171 hk1.1 rfl dX14_manyOf_5 ?_
    refine lv_goto (tgt := 39) hx hb dX14_manyOf_8 rfl ?_
    exact w_iret hx hb hret rfl hlk hK hP hS hz hE (q_p1 h) dX14_manyOf_39
def f_Model_errorOfNew (z : Nat) (v : Va) (sp : Nat) (k1 : Nat) (a2 : Int32) (a3 : Int32) : Option (Int32 × Va) := (f_Model_manyOf v sp k1 a3).bind fun q3 => (f_Model_namesOf v sp k1 a3).bind fun q11 => (f_Model_find z v sp k1 q11.1 q11.2 q3 a2).bind fun q23 => if q23 = (-1) then (if q3 = (nI q11.2) then (some (4, v)) else (if q3 < 0 ∨ q11.2 ≤ q3.toNatClampNeg then none else bnd (pu v q11.1 q3.toNatClampNeg a2) fun v47 => if a3 = 0 then (bnd (pu v47 k1 4 ((v47 k1 4) + 1)) fun v91 => some (0, v91)) else (if a3 = 2 then (bnd (pu v47 k1 7 ((v47 k1 7) + 1)) fun v104 => some (0, v104)) else (if a3 = 5 then (bnd (pu v47 k1 11 ((v47 k1 11) + 1)) fun v117 => some (0, v117)) else (bnd (pu v47 k1 15 ((v47 k1 15) + 1)) fun v130 => some (0, v130)))))) else (some (2, v))
theorem c_Model_errorOfNew {sp : Nat} {k1 : Nat} {a2 : Int32} {a3 : Int32} (hk : isModel sh sp) (hk1 : isSheet sh k1) {q : Int32 × Va} (h : f_Model_errorOfNew z v sp k1 a2 a3 = some q) : MetI l yX14_errorOfNew cX14_errorOfNew 6 (some .int) 2 Γ sh v w n [.ref (Γ.2.1 + 149), .ref (Γ.2.1 + k1), .int a2, .int a3] (fun x u => x = q.1 ∧ u = q.2) := by
  unfold f_Model_errorOfNew at h
  refine w_start pn_X14 (Nat.le_of_ble_eq_true rfl) fun p e s m args below meth c hx hb hml hret hlk hnm hts hown hK hP hz hE hS ls hl => ?_
  refine lv_aload_n hx hb dX14_errorOfNew_0 rfl (lv_at hl 0 rfl) ?_
  refine lv_aload_n hx hb dX14_errorOfNew_1 rfl (lv_at hl 1 rfl) ?_
  refine lv_iload_n hx hb dX14_errorOfNew_2 rfl (lv_at hl 3 rfl) ?_
  obtain ⟨q3, e3, h⟩ := obn_e h
  refine z_Vi (k := 149) (r1 := q3) (v1 := v) hx hb hml hts hown hK hP hS hz hE (c_Model_manyOf hk hk1 e3) kX14_manyOf mX14_177 hk.1 rfl rfl rfl hl.1 (Nat.le_of_ble_eq_true rfl) ⟨Nat.le_of_ble_eq_true rfl, Nat.le_of_ble_eq_true rfl⟩ ⟨Nat.le_refl _, Nat.le_refl _⟩ dX14_errorOfNew_3 fun H1 locs1 hz hP hS => ?_
  refine lv_istore (lv' := [(4, .int q3), (0, .ref (Γ.2.1 + 149)), (1, .ref (Γ.2.1 + k1)), (2, .int a2), (3, .int a3)]) hx hb dX14_errorOfNew_6 hl (by decide) rfl fun ls hl => ?_
  refine lv_aload_n hx hb dX14_errorOfNew_8 rfl (lv_at hl 1 rfl) ?_
  refine lv_aload_n hx hb dX14_errorOfNew_9 rfl (lv_at hl 2 rfl) ?_
  refine lv_iload_n hx hb dX14_errorOfNew_10 rfl (lv_at hl 4 rfl) ?_
  obtain ⟨q11, e11, h⟩ := obn_e h
  refine z_Vr (k := 149) (r1 := q11.1) (v1 := v) hx hb hml hts hown hK hP hS hz hE (c_Model_namesOf hk hk1 e11) kX14_namesOf mX14_181 hk.1 rfl rfl rfl hl.1 (Nat.le_of_ble_eq_true rfl) ⟨Nat.le_of_ble_eq_true rfl, Nat.le_of_ble_eq_true rfl⟩ ⟨Nat.le_refl _, Nat.le_refl _⟩ dX14_errorOfNew_11 fun H1 locs1 hz hP hS => ?_
  refine lv_astore (lv' := [(5, .ref (Γ.2.1 + q11.1)), (4, .int q3), (0, .ref (Γ.2.1 + 149)), (1, .ref (Γ.2.1 + k1)), (2, .int a2), (3, .int a3)]) hx hb dX14_errorOfNew_14 hl (by decide) rfl fun ls hl => ?_
  refine lv_aload_n hx hb dX14_errorOfNew_16 rfl (lv_at hl 2 rfl) ?_
  refine lv_aload_n hx hb dX14_errorOfNew_17 rfl (lv_at hl 3 rfl) ?_
  refine lv_aload hx hb dX14_errorOfNew_18 (lv_at hl 0 rfl) ?_
  refine lv_iload hx hb dX14_errorOfNew_20 (lv_at hl 1 rfl) ?_
  refine lv_iload_n hx hb dX14_errorOfNew_22 rfl (lv_at hl 4 rfl) ?_
  obtain ⟨q23, e23, h⟩ := obn_e h
  refine z_Vi (k := 149) (r1 := q23) (v1 := v) hx hb hml hts hown hK hP hS hz hE (c_Model_find hk hk1 (s_Model_namesOf hk hk1 e11) e23) kX14_find mX14_185 hk.1 rfl rfl rfl hl.1 (Nat.le_of_ble_eq_true rfl) ⟨Nat.le_of_ble_eq_true rfl, Nat.le_of_ble_eq_true rfl⟩ ⟨Nat.le_refl _, Nat.le_refl _⟩ dX14_errorOfNew_23 fun H1 locs1 hz hP hS => ?_
  refine lv_iconst (v := (-1)) hx hb dX14_errorOfNew_26 rfl ?_
  refine lv_icmp_eq (tgt := 32) hx hb dX14_errorOfNew_27 rfl (fun hc27 => ?_) (fun hc27 => ?_)
  · have h := itt_e h hc27
    refine lv_iload hx hb dX14_errorOfNew_32 (lv_at hl 1 rfl) ?_
    refine lv_aload hx hb dX14_errorOfNew_34 (lv_at hl 0 rfl) ?_
    refine w_alen (k := q11.1) hx hb hK hP (s_Model_namesOf hk hk1 e11) dX14_errorOfNew_36 ?_
    refine lv_icmp_ne (tgt := 42) hx hb dX14_errorOfNew_37 rfl (fun hc37 => ?_) (fun hc37 => ?_)
    · have h := itf_e h hc37
      refine lv_aload hx hb dX14_errorOfNew_42 (lv_at hl 0 rfl) ?_
      refine lv_iload hx hb dX14_errorOfNew_44 (lv_at hl 1 rfl) ?_
      refine lv_iload_n hx hb dX14_errorOfNew_46 rfl (lv_at hl 4 rfl) ?_
      obtain ⟨hn47, h⟩ := itn_e h
      obtain ⟨v47, e47, h⟩ := bnd_e h
      refine w_ia2 (k := q11.1) hx hb hK hP hS hz (s_Model_namesOf hk hk1 e11) hn47 e47 dX14_errorOfNew_47 fun H1 locs1 hz hP hS => ?_
      refine lv_iload_n hx hb dX14_errorOfNew_48 rfl (lv_at hl 5 rfl) ?_
      by_cases hc49_0 : a3 = 0
      · have h := itt_e h hc49_0
        refine z_lI (y := 0) (tgt := 84) hx hb dX14_errorOfNew_49 hc49_0 rfl rfl rfl ?_
        refine lv_aload_n hx hb dX14_errorOfNew_84 rfl (lv_at hl 3 rfl) ?_
        refine lv_dup hx hb dX14_errorOfNew_85 rfl ?_
        refine w_gi (k := k1) hx hb hts hown hK hP fX14_171 hk1.1 rfl dX14_errorOfNew_86 ?_
        refine lv_iconst (v := 1) hx hb dX14_errorOfNew_89 rfl ?_
        refine lv_iadd hx hb dX14_errorOfNew_90 ?_
        obtain ⟨v91, e91, h⟩ := bnd_e h
        refine w_pi2 (k := k1) hx hb hts hown hK hP hS hz fX14_171 hk1.1 rfl e91 dX14_errorOfNew_91 fun H1 locs1 hz hP hS => ?_
        refine lv_goto (tgt := 133) hx hb dX14_errorOfNew_94 rfl ?_
        refine lv_iconst (v := 0) hx hb dX14_errorOfNew_133 rfl ?_
        exact w_iret hx hb hret rfl hlk hK hP hS hz hE (q_p2 h) dX14_errorOfNew_134
      have h := itf_e h hc49_0
      by_cases hc49_2 : a3 = 2
      · have h := itt_e h hc49_2
        refine z_lI (y := 2) (tgt := 97) hx hb dX14_errorOfNew_49 hc49_2 rfl rfl rfl ?_
        refine lv_aload_n hx hb dX14_errorOfNew_97 rfl (lv_at hl 3 rfl) ?_
        refine lv_dup hx hb dX14_errorOfNew_98 rfl ?_
        refine w_gi (k := k1) hx hb hts hown hK hP fX14_174 hk1.1 rfl dX14_errorOfNew_99 ?_
        refine lv_iconst (v := 1) hx hb dX14_errorOfNew_102 rfl ?_
        refine lv_iadd hx hb dX14_errorOfNew_103 ?_
        obtain ⟨v104, e104, h⟩ := bnd_e h
        refine w_pi2 (k := k1) hx hb hts hown hK hP hS hz fX14_174 hk1.1 rfl e104 dX14_errorOfNew_104 fun H1 locs1 hz hP hS => ?_
        refine lv_goto (tgt := 133) hx hb dX14_errorOfNew_107 rfl ?_
        refine lv_iconst (v := 0) hx hb dX14_errorOfNew_133 rfl ?_
        exact w_iret hx hb hret rfl hlk hK hP hS hz hE (q_p2 h) dX14_errorOfNew_134
      have h := itf_e h hc49_2
      by_cases hc49_5 : a3 = 5
      · have h := itt_e h hc49_5
        refine z_lI (y := 5) (tgt := 110) hx hb dX14_errorOfNew_49 hc49_5 rfl rfl rfl ?_
        refine lv_aload_n hx hb dX14_errorOfNew_110 rfl (lv_at hl 3 rfl) ?_
        refine lv_dup hx hb dX14_errorOfNew_111 rfl ?_
        refine w_gi (k := k1) hx hb hts hown hK hP fX14_43 hk1.1 rfl dX14_errorOfNew_112 ?_
        refine lv_iconst (v := 1) hx hb dX14_errorOfNew_115 rfl ?_
        refine lv_iadd hx hb dX14_errorOfNew_116 ?_
        obtain ⟨v117, e117, h⟩ := bnd_e h
        refine w_pi2 (k := k1) hx hb hts hown hK hP hS hz fX14_43 hk1.1 rfl e117 dX14_errorOfNew_117 fun H1 locs1 hz hP hS => ?_
        refine lv_goto (tgt := 133) hx hb dX14_errorOfNew_120 rfl ?_
        refine lv_iconst (v := 0) hx hb dX14_errorOfNew_133 rfl ?_
        exact w_iret hx hb hret rfl hlk hK hP hS hz hE (q_p2 h) dX14_errorOfNew_134
      have h := itf_e h hc49_5
      refine z_lD (tgt := 123) hx hb [0, 2, 5] dX14_errorOfNew_49 (q_nc hc49_0 (q_nc hc49_2 (q_nc hc49_5 q_nn))) (by decide) (by decide) rfl ?_
      refine lv_aload_n hx hb dX14_errorOfNew_123 rfl (lv_at hl 3 rfl) ?_
      refine lv_dup hx hb dX14_errorOfNew_124 rfl ?_
      refine w_gi (k := k1) hx hb hts hown hK hP fX14_54 hk1.1 rfl dX14_errorOfNew_125 ?_
      refine lv_iconst (v := 1) hx hb dX14_errorOfNew_128 rfl ?_
      refine lv_iadd hx hb dX14_errorOfNew_129 ?_
      obtain ⟨v130, e130, h⟩ := bnd_e h
      refine w_pi2 (k := k1) hx hb hts hown hK hP hS hz fX14_54 hk1.1 rfl e130 dX14_errorOfNew_130 fun H1 locs1 hz hP hS => ?_
      refine lv_iconst (v := 0) hx hb dX14_errorOfNew_133 rfl ?_
      exact w_iret hx hb hret rfl hlk hK hP hS hz hE (q_p2 h) dX14_errorOfNew_134
    · have h := itt_e h hc37
      refine lv_iconst (v := 4) hx hb dX14_errorOfNew_40 rfl ?_
      exact w_iret hx hb hret rfl hlk hK hP hS hz hE (q_p2 h) dX14_errorOfNew_41
  · have h := itf_e h hc27
    refine lv_iconst (v := 2) hx hb dX14_errorOfNew_30 rfl ?_
    exact w_iret hx hb hret rfl hlk hK hP hS hz hE (q_p2 h) dX14_errorOfNew_31
def f_Model_sortOf (v : Va) (k1 : Nat) (a2 : Int32) : Option Int32 := if (a2 - 1) < 0 ∨ 401 ≤ (a2 - 1).toNatClampNeg then none else if (v (k1 + 1) (a2 - 1).toNatClampNeg) = 6 then (some 5) else (if (v (k1 + 1) (a2 - 1).toNatClampNeg) = 9 then (some 0) else (if (v (k1 + 1) (a2 - 1).toNatClampNeg) = 11 then (some 5) else (if (v (k1 + 1) (a2 - 1).toNatClampNeg) = 13 then (some 2) else (if (v (k1 + 1) (a2 - 1).toNatClampNeg) = 15 then (some 5) else (if (v (k1 + 1) (a2 - 1).toNatClampNeg) = 16 then (some 5) else (if (v (k1 + 1) (a2 - 1).toNatClampNeg) = 24 then (some 5) else (if (v (k1 + 1) (a2 - 1).toNatClampNeg) = 25 then (some 5) else (if (v (k1 + 1) (a2 - 1).toNatClampNeg) = 26 then (some 5) else (if (v (k1 + 1) (a2 - 1).toNatClampNeg) = 35 then (if (a2 - 2) < 0 ∨ 401 ≤ (a2 - 2).toNatClampNeg then none else if (v (k1 + 1) (a2 - 2).toNatClampNeg) = 25 then (some 5) else (some 8)) else (some 8))))))))))
theorem c_Model_sortOf {k1 : Nat} {a2 : Int32} (hk1 : isSheet sh k1) {q : Int32} (h : f_Model_sortOf v k1 a2 = some q) : MetI l yX14_sortOf cX14_sortOf 3 (some .int) 0 Γ sh v w n [.ref (Γ.2.1 + k1), .int a2] (fun x u => x = q ∧ u = v) := by
  unfold f_Model_sortOf at h
  refine w_start pn_X14 (Nat.le_of_ble_eq_true rfl) fun p e s m args below meth c hx hb hml hret hlk hnm hts hown hK hP hz hE hS ls hl => ?_
  refine lv_aload_n hx hb dX14_sortOf_0 rfl (lv_at hl 0 rfl) ?_
  refine w_gr (k := k1) (r := (k1 + 1)) hx hb hts hown hK hP fX14_102 hk1.1 rfl dX14_sortOf_1 ?_
  refine lv_iload_n hx hb dX14_sortOf_4 rfl (lv_at hl 1 rfl) ?_
  refine lv_iconst (v := 1) hx hb dX14_sortOf_5 rfl ?_
  refine lv_isub hx hb dX14_sortOf_6 ?_
  obtain ⟨hn7, h⟩ := itn_e h
  refine w_iald (k := (k1 + 1)) hx hb hK hP hk1.2.1 hn7 dX14_sortOf_7 ?_
  refine lv_istore_n (lv' := [(2, .int (v (k1 + 1) (a2 - 1).toNatClampNeg)), (0, .ref (Γ.2.1 + k1)), (1, .int a2)]) hx hb dX14_sortOf_8 rfl hl (by decide) rfl fun ls hl => ?_
  refine lv_iload_n hx hb dX14_sortOf_9 rfl (lv_at hl 0 rfl) ?_
  by_cases hc10_6 : (v (k1 + 1) (a2 - 1).toNatClampNeg) = 6
  · have h := itt_e h hc10_6
    refine z_tI (y := 6) (tgt := 148) hx hb dX14_sortOf_10 hc10_6 (by decide) (by decide) rfl rfl ?_
    refine lv_iconst (v := 5) hx hb dX14_sortOf_148 rfl ?_
    exact w_iret hx hb hret rfl hlk hK hP hS hz hE (q_p1 h) dX14_sortOf_149
  have h := itf_e h hc10_6
  by_cases hc10_9 : (v (k1 + 1) (a2 - 1).toNatClampNeg) = 9
  · have h := itt_e h hc10_9
    refine z_tI (y := 9) (tgt := 144) hx hb dX14_sortOf_10 hc10_9 (by decide) (by decide) rfl rfl ?_
    refine lv_iconst (v := 0) hx hb dX14_sortOf_144 rfl ?_
    exact w_iret hx hb hret rfl hlk hK hP hS hz hE (q_p1 h) dX14_sortOf_145
  have h := itf_e h hc10_9
  by_cases hc10_11 : (v (k1 + 1) (a2 - 1).toNatClampNeg) = 11
  · have h := itt_e h hc10_11
    refine z_tI (y := 11) (tgt := 148) hx hb dX14_sortOf_10 hc10_11 (by decide) (by decide) rfl rfl ?_
    refine lv_iconst (v := 5) hx hb dX14_sortOf_148 rfl ?_
    exact w_iret hx hb hret rfl hlk hK hP hS hz hE (q_p1 h) dX14_sortOf_149
  have h := itf_e h hc10_11
  by_cases hc10_13 : (v (k1 + 1) (a2 - 1).toNatClampNeg) = 13
  · have h := itt_e h hc10_13
    refine z_tI (y := 13) (tgt := 146) hx hb dX14_sortOf_10 hc10_13 (by decide) (by decide) rfl rfl ?_
    refine lv_iconst (v := 2) hx hb dX14_sortOf_146 rfl ?_
    exact w_iret hx hb hret rfl hlk hK hP hS hz hE (q_p1 h) dX14_sortOf_147
  have h := itf_e h hc10_13
  by_cases hc10_15 : (v (k1 + 1) (a2 - 1).toNatClampNeg) = 15
  · have h := itt_e h hc10_15
    refine z_tI (y := 15) (tgt := 148) hx hb dX14_sortOf_10 hc10_15 (by decide) (by decide) rfl rfl ?_
    refine lv_iconst (v := 5) hx hb dX14_sortOf_148 rfl ?_
    exact w_iret hx hb hret rfl hlk hK hP hS hz hE (q_p1 h) dX14_sortOf_149
  have h := itf_e h hc10_15
  by_cases hc10_16 : (v (k1 + 1) (a2 - 1).toNatClampNeg) = 16
  · have h := itt_e h hc10_16
    refine z_tI (y := 16) (tgt := 148) hx hb dX14_sortOf_10 hc10_16 (by decide) (by decide) rfl rfl ?_
    refine lv_iconst (v := 5) hx hb dX14_sortOf_148 rfl ?_
    exact w_iret hx hb hret rfl hlk hK hP hS hz hE (q_p1 h) dX14_sortOf_149
  have h := itf_e h hc10_16
  by_cases hc10_24 : (v (k1 + 1) (a2 - 1).toNatClampNeg) = 24
  · have h := itt_e h hc10_24
    refine z_tI (y := 24) (tgt := 148) hx hb dX14_sortOf_10 hc10_24 (by decide) (by decide) rfl rfl ?_
    refine lv_iconst (v := 5) hx hb dX14_sortOf_148 rfl ?_
    exact w_iret hx hb hret rfl hlk hK hP hS hz hE (q_p1 h) dX14_sortOf_149
  have h := itf_e h hc10_24
  by_cases hc10_25 : (v (k1 + 1) (a2 - 1).toNatClampNeg) = 25
  · have h := itt_e h hc10_25
    refine z_tI (y := 25) (tgt := 148) hx hb dX14_sortOf_10 hc10_25 (by decide) (by decide) rfl rfl ?_
    refine lv_iconst (v := 5) hx hb dX14_sortOf_148 rfl ?_
    exact w_iret hx hb hret rfl hlk hK hP hS hz hE (q_p1 h) dX14_sortOf_149
  have h := itf_e h hc10_25
  by_cases hc10_26 : (v (k1 + 1) (a2 - 1).toNatClampNeg) = 26
  · have h := itt_e h hc10_26
    refine z_tI (y := 26) (tgt := 148) hx hb dX14_sortOf_10 hc10_26 (by decide) (by decide) rfl rfl ?_
    refine lv_iconst (v := 5) hx hb dX14_sortOf_148 rfl ?_
    exact w_iret hx hb hret rfl hlk hK hP hS hz hE (q_p1 h) dX14_sortOf_149
  have h := itf_e h hc10_26
  by_cases hc10_35 : (v (k1 + 1) (a2 - 1).toNatClampNeg) = 35
  · have h := itt_e h hc10_35
    refine z_tI (y := 35) (tgt := 150) hx hb dX14_sortOf_10 hc10_35 (by decide) (by decide) rfl rfl ?_
    refine lv_aload_n hx hb dX14_sortOf_150 rfl (lv_at hl 1 rfl) ?_
    refine w_gr (k := k1) (r := (k1 + 1)) hx hb hts hown hK hP fX14_102 hk1.1 rfl dX14_sortOf_151 ?_
    refine lv_iload_n hx hb dX14_sortOf_154 rfl (lv_at hl 2 rfl) ?_
    refine lv_iconst (v := 2) hx hb dX14_sortOf_155 rfl ?_
    refine lv_isub hx hb dX14_sortOf_156 ?_
    obtain ⟨hn157, h⟩ := itn_e h
    refine w_iald (k := (k1 + 1)) hx hb hK hP hk1.2.1 hn157 dX14_sortOf_157 ?_
    refine lv_bipush (v := 25) hx hb dX14_sortOf_158 rfl ?_
    refine lv_icmp_ne (tgt := 167) hx hb dX14_sortOf_160 rfl (fun hc160 => ?_) (fun hc160 => ?_)
    · have h := itf_e h hc160
      refine lv_bipush (v := 8) hx hb dX14_sortOf_167 rfl ?_
      exact w_iret hx hb hret rfl hlk hK hP hS hz hE (q_p1 h) dX14_sortOf_169
    · have h := itt_e h hc160
      refine lv_iconst (v := 5) hx hb dX14_sortOf_163 rfl ?_
      refine lv_goto (tgt := 169) hx hb dX14_sortOf_164 rfl ?_
      exact w_iret hx hb hret rfl hlk hK hP hS hz hE (q_p1 h) dX14_sortOf_169
  have h := itf_e h hc10_35
  refine z_tD (tgt := 170) hx hb [6, 9, 11, 13, 15, 16, 24, 25, 26, 35] dX14_sortOf_10 (q_nc hc10_6 (q_nc hc10_9 (q_nc hc10_11 (q_nc hc10_13 (q_nc hc10_15 (q_nc hc10_16 (q_nc hc10_24 (q_nc hc10_25 (q_nc hc10_26 (q_nc hc10_35 q_nn)))))))))) (by decide) (by decide) rfl ?_
  refine lv_bipush (v := 8) hx hb dX14_sortOf_170 rfl ?_
  exact w_iret hx hb hret rfl hlk hK hP hS hz hE (q_p1 h) dX14_sortOf_172
def j_Model_errorOfName_29 (z : Nat) (v : Va) (sp : Nat) (k1 : Nat) (a2 : Int32) : Option (Int32 × Va) := (f_Model_errorOfNew z v sp k1 a2 (v (k1 + 1) (a2 - 1).toNatClampNeg)).bind fun q33 => some (q33.1, q33.2)
def j_Model_errorOfName_163 (k1 : Nat) (q61 : Int32) (v151 : Va) : Option (Int32 × Va) := if ((v151 k1 20) - 1) < 0 ∨ 24 ≤ ((v151 k1 20) - 1).toNatClampNeg then none else bnd (pu v151 (k1 + 19) ((v151 k1 20) - 1).toNatClampNeg q61) fun v175 => some (0, v175)
def j_Model_errorOfName_151 (v : Va) (k1 : Nat) (a2 : Int32) (q61 : Int32) (v151 : Va) : Option (Int32 × Va) := if (v (k1 + 1) (a2 - 1).toNatClampNeg) = 13 then (j_Model_errorOfName_163 k1 q61 v151) else (if (v (k1 + 1) (a2 - 1).toNatClampNeg) = 15 then (j_Model_errorOfName_163 k1 q61 v151) else (some (0, v151)))
def j_Model_errorOfName_138 (v : Va) (k1 : Nat) (a2 : Int32) (q61 : Int32) (v120 : Va) : Option (Int32 × Va) := if ((v120 k1 20) - 1) < 0 ∨ 24 ≤ ((v120 k1 20) - 1).toNatClampNeg then none else bnd (pu v120 (k1 + 18) ((v120 k1 20) - 1).toNatClampNeg q61) fun v150 => j_Model_errorOfName_151 v k1 a2 q61 v150
def j_Model_errorOfName_120 (v : Va) (k1 : Nat) (a2 : Int32) (q61 : Int32) (v120 : Va) : Option (Int32 × Va) := if (v (k1 + 1) (a2 - 1).toNatClampNeg) = 12 then (j_Model_errorOfName_138 v k1 a2 q61 v120) else (if (v (k1 + 1) (a2 - 1).toNatClampNeg) = 14 then (j_Model_errorOfName_138 v k1 a2 q61 v120) else (if (v (k1 + 1) (a2 - 1).toNatClampNeg) = 16 then (j_Model_errorOfName_138 v k1 a2 q61 v120) else (j_Model_errorOfName_151 v k1 a2 q61 v120)))
def j_Model_errorOfName_101 (v : Va) (k1 : Nat) (a2 : Int32) (q61 : Int32) (v101 : Va) : Option (Int32 × Va) := if (v (k1 + 1) (a2 - 1).toNatClampNeg) = 11 then (if ((v101 k1 15) - 1) < 0 ∨ 10 ≤ ((v101 k1 15) - 1).toNatClampNeg then none else bnd (pu v101 (k1 + 16) ((v101 k1 15) - 1).toNatClampNeg q61) fun v119 => j_Model_errorOfName_120 v k1 a2 q61 v119) else (j_Model_errorOfName_120 v k1 a2 q61 v101)
def f_Model_errorOfName (z : Nat) (v : Va) (sp : Nat) (k1 : Nat) (a2 : Int32) : Option (Int32 × Va) := if (a2 - 1) < 0 ∨ 401 ≤ (a2 - 1).toNatClampNeg then none else if (v (k1 + 1) (a2 - 1).toNatClampNeg) = 0 then (j_Model_errorOfName_29 z v sp k1 a2) else (if (v (k1 + 1) (a2 - 1).toNatClampNeg) = 2 then (j_Model_errorOfName_29 z v sp k1 a2) else (if (v (k1 + 1) (a2 - 1).toNatClampNeg) = 5 then (j_Model_errorOfName_29 z v sp k1 a2) else (if (v (k1 + 1) (a2 - 1).toNatClampNeg) = 8 then (j_Model_errorOfName_29 z v sp k1 a2) else ((f_Model_sortOf v k1 a2).bind fun q39 => (f_Model_namesOf v sp k1 q39).bind fun q50 => (f_Model_manyOf v sp k1 q39).bind fun q57 => (f_Model_find z v sp k1 q50.1 q50.2 q57 a2).bind fun q61 => if q61 = (-1) then (some (3, v)) else (if a2 < 0 ∨ 401 ≤ a2.toNatClampNeg then none else bnd (pu v (k1 + 4) a2.toNatClampNeg q61) fun v81 => if (v (k1 + 1) (a2 - 1).toNatClampNeg) = 9 then (if ((v81 k1 15) - 1) < 0 ∨ 10 ≤ ((v81 k1 15) - 1).toNatClampNeg then none else bnd (pu v81 (k1 + 14) ((v81 k1 15) - 1).toNatClampNeg q61) fun v100 => j_Model_errorOfName_101 v k1 a2 q61 v100) else (j_Model_errorOfName_101 v k1 a2 q61 v81))))))
theorem c_Model_errorOfName {sp : Nat} {k1 : Nat} {a2 : Int32} (hk : isModel sh sp) (hk1 : isSheet sh k1) {q : Int32 × Va} (h : f_Model_errorOfName z v sp k1 a2 = some q) : MetI l yX14_errorOfName cX14_errorOfName 6 (some .int) 3 Γ sh v w n [.ref (Γ.2.1 + 149), .ref (Γ.2.1 + k1), .int a2] (fun x u => x = q.1 ∧ u = q.2) := by
  unfold f_Model_errorOfName at h
  refine w_start pn_X14 (Nat.le_of_ble_eq_true rfl) fun p e s m args below meth c hx hb hml hret hlk hnm hts hown hK hP hz hE hS ls hl => ?_
  refine lv_aload_n hx hb dX14_errorOfName_0 rfl (lv_at hl 1 rfl) ?_
  refine w_gr (k := k1) (r := (k1 + 1)) hx hb hts hown hK hP fX14_102 hk1.1 rfl dX14_errorOfName_1 ?_
  refine lv_iload_n hx hb dX14_errorOfName_4 rfl (lv_at hl 2 rfl) ?_
  refine lv_iconst (v := 1) hx hb dX14_errorOfName_5 rfl ?_
  refine lv_isub hx hb dX14_errorOfName_6 ?_
  obtain ⟨hn7, h⟩ := itn_e h
  refine w_iald (k := (k1 + 1)) hx hb hK hP hk1.2.1 hn7 dX14_errorOfName_7 ?_
  refine lv_istore_n (lv' := [(3, .int (v (k1 + 1) (a2 - 1).toNatClampNeg)), (0, .ref (Γ.2.1 + 149)), (1, .ref (Γ.2.1 + k1)), (2, .int a2)]) hx hb dX14_errorOfName_8 rfl hl (by decide) rfl fun ls hl => ?_
  refine lv_iload_n hx hb dX14_errorOfName_9 rfl (lv_at hl 0 rfl) ?_
  have J29 : (j_Model_errorOfName_29 z v sp k1 a2) = some q → ∀ (H1 : Heap) (locs1 : List Loc) (ls1 : Array Slot), lv_has ls1 6 [(0, .ref (Γ.2.1 + 149)), (1, .ref (Γ.2.1 + k1)), (2, .int a2), (3, .int (v (k1 + 1) (a2 - 1).toNatClampNeg))] → Wd Γ sh v w H1 → va_S (gA Γ) s.heap H1 locs1 → H1.size = Γ.2.1 + n → wpI Γ sh w n 3 (fun x u => x = q.1 ∧ u = q.2) p l e s m args below meth c H1 locs1 (F0 m 29 ls1 []) := by
    intro  h H1 locs1 ls hl hP hS hz
    unfold j_Model_errorOfName_29 at h
    refine lv_aload_n hx hb dX14_errorOfName_29 rfl (lv_at hl 0 rfl) ?_
    refine lv_aload_n hx hb dX14_errorOfName_30 rfl (lv_at hl 1 rfl) ?_
    refine lv_iload_n hx hb dX14_errorOfName_31 rfl (lv_at hl 2 rfl) ?_
    refine lv_iload_n hx hb dX14_errorOfName_32 rfl (lv_at hl 3 rfl) ?_
    obtain ⟨q33, e33, h⟩ := obn_e h
    refine z_Vi (k := 149) (r1 := q33.1) (v1 := q33.2) hx hb hml hts hown hK hP hS hz hE (c_Model_errorOfNew hk hk1 e33) kX14_errorOfNew mX14_189 hk.1 rfl rfl rfl hl.1 (Nat.le_of_ble_eq_true rfl) ⟨Nat.le_of_ble_eq_true rfl, Nat.le_of_ble_eq_true rfl⟩ ⟨Nat.le_refl _, Nat.le_refl _⟩ dX14_errorOfName_33 fun H1 locs1 hz hP hS => ?_
    exact w_iret hx hb hret rfl hlk hK hP hS hz hE (q_p2 h) dX14_errorOfName_36
  refine lv_if_eq (tgt := 29) hx hb dX14_errorOfName_10 rfl (fun hc10 => ?_) (fun hc10 => ?_)
  · have h := itt_e h hc10
    exact J29 h _ _ _ (lv_sub hl [1, 2, 3, 0] rfl) hP hS hz
  · have h := itf_e h hc10
    refine lv_iload_n hx hb dX14_errorOfName_13 rfl (lv_at hl 0 rfl) ?_
    refine lv_iconst (v := 2) hx hb dX14_errorOfName_14 rfl ?_
    refine lv_icmp_eq (tgt := 29) hx hb dX14_errorOfName_15 rfl (fun hc15 => ?_) (fun hc15 => ?_)
    · have h := itt_e h hc15
      exact J29 h _ _ _ (lv_sub hl [1, 2, 3, 0] rfl) hP hS hz
    · have h := itf_e h hc15
      refine lv_iload_n hx hb dX14_errorOfName_18 rfl (lv_at hl 0 rfl) ?_
      refine lv_iconst (v := 5) hx hb dX14_errorOfName_19 rfl ?_
      refine lv_icmp_eq (tgt := 29) hx hb dX14_errorOfName_20 rfl (fun hc20 => ?_) (fun hc20 => ?_)
      · have h := itt_e h hc20
        exact J29 h _ _ _ (lv_sub hl [1, 2, 3, 0] rfl) hP hS hz
      · have h := itf_e h hc20
        refine lv_iload_n hx hb dX14_errorOfName_23 rfl (lv_at hl 0 rfl) ?_
        refine lv_bipush (v := 8) hx hb dX14_errorOfName_24 rfl ?_
        refine lv_icmp_ne (tgt := 37) hx hb dX14_errorOfName_26 rfl (fun hc26 => ?_) (fun hc26 => ?_)
        · have h := itf_e h hc26
          refine lv_aload_n hx hb dX14_errorOfName_37 rfl (lv_at hl 2 rfl) ?_
          refine lv_iload_n hx hb dX14_errorOfName_38 rfl (lv_at hl 3 rfl) ?_
          obtain ⟨q39, e39, h⟩ := obn_e h
          refine z_Si (r1 := q39) (v1 := v) hx hb hml hts hown hK hP hS hz hE (c_Model_sortOf hk1 e39) kX14_sortOf mX14_193 rfl rfl hl.1 (Nat.le_of_ble_eq_true rfl) ⟨Nat.le_of_ble_eq_true rfl, Nat.le_of_ble_eq_true rfl⟩ ⟨Nat.le_refl _, Nat.le_refl _⟩ dX14_errorOfName_39 fun H1 locs1 hz hP hS => ?_
          refine lv_istore (lv' := [(4, .int q39), (3, .int (v (k1 + 1) (a2 - 1).toNatClampNeg)), (0, .ref (Γ.2.1 + 149)), (1, .ref (Γ.2.1 + k1)), (2, .int a2)]) hx hb dX14_errorOfName_42 hl (by decide) rfl fun ls hl => ?_
          refine lv_aload_n hx hb dX14_errorOfName_44 rfl (lv_at hl 2 rfl) ?_
          refine lv_aload_n hx hb dX14_errorOfName_45 rfl (lv_at hl 3 rfl) ?_
          refine lv_aload_n hx hb dX14_errorOfName_46 rfl (lv_at hl 2 rfl) ?_
          refine lv_aload_n hx hb dX14_errorOfName_47 rfl (lv_at hl 3 rfl) ?_
          refine lv_iload hx hb dX14_errorOfName_48 (lv_at hl 0 rfl) ?_
          obtain ⟨q50, e50, h⟩ := obn_e h
          refine z_Vr (k := 149) (r1 := q50.1) (v1 := v) hx hb hml hts hown hK hP hS hz hE (c_Model_namesOf hk hk1 e50) kX14_namesOf mX14_181 hk.1 rfl rfl rfl hl.1 (Nat.le_of_ble_eq_true rfl) ⟨Nat.le_of_ble_eq_true rfl, Nat.le_of_ble_eq_true rfl⟩ ⟨Nat.le_refl _, Nat.le_refl _⟩ dX14_errorOfName_50 fun H1 locs1 hz hP hS => ?_
          refine lv_aload_n hx hb dX14_errorOfName_53 rfl (lv_at hl 2 rfl) ?_
          refine lv_aload_n hx hb dX14_errorOfName_54 rfl (lv_at hl 3 rfl) ?_
          refine lv_iload hx hb dX14_errorOfName_55 (lv_at hl 0 rfl) ?_
          obtain ⟨q57, e57, h⟩ := obn_e h
          refine z_Vi (k := 149) (r1 := q57) (v1 := v) hx hb hml hts hown hK hP hS hz hE (c_Model_manyOf hk hk1 e57) kX14_manyOf mX14_177 hk.1 rfl rfl rfl hl.1 (Nat.le_of_ble_eq_true rfl) ⟨Nat.le_of_ble_eq_true rfl, Nat.le_of_ble_eq_true rfl⟩ ⟨Nat.le_refl _, Nat.le_refl _⟩ dX14_errorOfName_57 fun H1 locs1 hz hP hS => ?_
          refine lv_iload_n hx hb dX14_errorOfName_60 rfl (lv_at hl 4 rfl) ?_
          obtain ⟨q61, e61, h⟩ := obn_e h
          refine z_Vi (k := 149) (r1 := q61) (v1 := v) hx hb hml hts hown hK hP hS hz hE (c_Model_find hk hk1 (s_Model_namesOf hk hk1 e50) e61) kX14_find mX14_185 hk.1 rfl rfl rfl hl.1 (Nat.le_of_ble_eq_true rfl) ⟨Nat.le_of_ble_eq_true rfl, Nat.le_of_ble_eq_true rfl⟩ ⟨Nat.le_refl _, Nat.le_refl _⟩ dX14_errorOfName_61 fun H1 locs1 hz hP hS => ?_
          refine lv_istore (lv' := [(5, .int q61), (4, .int q39), (3, .int (v (k1 + 1) (a2 - 1).toNatClampNeg)), (0, .ref (Γ.2.1 + 149)), (1, .ref (Γ.2.1 + k1)), (2, .int a2)]) hx hb dX14_errorOfName_64 hl (by decide) rfl fun ls hl => ?_
          refine lv_iload hx hb dX14_errorOfName_66 (lv_at hl 0 rfl) ?_
          refine lv_iconst (v := (-1)) hx hb dX14_errorOfName_68 rfl ?_
          refine lv_icmp_ne (tgt := 74) hx hb dX14_errorOfName_69 rfl (fun hc69 => ?_) (fun hc69 => ?_)
          · have h := itf_e h hc69
            refine lv_aload_n hx hb dX14_errorOfName_74 rfl (lv_at hl 4 rfl) ?_
            refine w_gr (k := k1) (r := (k1 + 4)) hx hb hts hown hK hP fX14_196 hk1.1 rfl dX14_errorOfName_75 ?_
            refine lv_iload_n hx hb dX14_errorOfName_78 rfl (lv_at hl 5 rfl) ?_
            refine lv_iload hx hb dX14_errorOfName_79 (lv_at hl 0 rfl) ?_
            obtain ⟨hn81, h⟩ := itn_e h
            obtain ⟨v81, e81, h⟩ := bnd_e h
            refine w_ia2 (k := (k1 + 4)) hx hb hK hP hS hz hk1.2.2.2.2.1 hn81 e81 dX14_errorOfName_81 fun H1 locs1 hz hP hS => ?_
            refine lv_iload_n hx hb dX14_errorOfName_82 rfl (lv_at hl 2 rfl) ?_
            refine lv_bipush (v := 9) hx hb dX14_errorOfName_83 rfl ?_
            have J101 : ∀ (v101 : Va), (j_Model_errorOfName_101 v k1 a2 q61) v101 = some q → ∀ (H1 : Heap) (locs1 : List Loc) (ls1 : Array Slot), lv_has ls1 6 [(1, .ref (Γ.2.1 + k1)), (3, .int (v (k1 + 1) (a2 - 1).toNatClampNeg)), (5, .int q61)] → Wd Γ sh v101 w H1 → va_S (gA Γ) s.heap H1 locs1 → H1.size = Γ.2.1 + n → wpI Γ sh w n 3 (fun x u => x = q.1 ∧ u = q.2) p l e s m args below meth c H1 locs1 (F0 m 101 ls1 []) := by
              intro v101 h H1 locs1 ls hl hP hS hz
              unfold j_Model_errorOfName_101 at h
              refine lv_iload_n hx hb dX14_errorOfName_101 rfl (lv_at hl 1 rfl) ?_
              refine lv_bipush (v := 11) hx hb dX14_errorOfName_102 rfl ?_
              have J120 : ∀ (v120 : Va), (j_Model_errorOfName_120 v k1 a2 q61) v120 = some q → ∀ (H1 : Heap) (locs1 : List Loc) (ls1 : Array Slot), lv_has ls1 6 [(1, .ref (Γ.2.1 + k1)), (3, .int (v (k1 + 1) (a2 - 1).toNatClampNeg)), (5, .int q61)] → Wd Γ sh v120 w H1 → va_S (gA Γ) s.heap H1 locs1 → H1.size = Γ.2.1 + n → wpI Γ sh w n 3 (fun x u => x = q.1 ∧ u = q.2) p l e s m args below meth c H1 locs1 (F0 m 120 ls1 []) := by
                intro v120 h H1 locs1 ls hl hP hS hz
                unfold j_Model_errorOfName_120 at h
                refine lv_iload_n hx hb dX14_errorOfName_120 rfl (lv_at hl 1 rfl) ?_
                refine lv_bipush (v := 12) hx hb dX14_errorOfName_121 rfl ?_
                have J151 : ∀ (v151 : Va), (j_Model_errorOfName_151 v k1 a2 q61) v151 = some q → ∀ (H1 : Heap) (locs1 : List Loc) (ls1 : Array Slot), lv_has ls1 6 [(1, .ref (Γ.2.1 + k1)), (3, .int (v (k1 + 1) (a2 - 1).toNatClampNeg)), (5, .int q61)] → Wd Γ sh v151 w H1 → va_S (gA Γ) s.heap H1 locs1 → H1.size = Γ.2.1 + n → wpI Γ sh w n 3 (fun x u => x = q.1 ∧ u = q.2) p l e s m args below meth c H1 locs1 (F0 m 151 ls1 []) := by
                  intro v151 h H1 locs1 ls hl hP hS hz
                  unfold j_Model_errorOfName_151 at h
                  refine lv_iload_n hx hb dX14_errorOfName_151 rfl (lv_at hl 1 rfl) ?_
                  refine lv_bipush (v := 13) hx hb dX14_errorOfName_152 rfl ?_
                  have J163 : (j_Model_errorOfName_163 k1 q61 v151) = some q → ∀ (H1 : Heap) (locs1 : List Loc) (ls1 : Array Slot), lv_has ls1 6 [(1, .ref (Γ.2.1 + k1)), (5, .int q61)] → Wd Γ sh v151 w H1 → va_S (gA Γ) s.heap H1 locs1 → H1.size = Γ.2.1 + n → wpI Γ sh w n 3 (fun x u => x = q.1 ∧ u = q.2) p l e s m args below meth c H1 locs1 (F0 m 163 ls1 []) := by
                    intro  h H1 locs1 ls hl hP hS hz
                    unfold j_Model_errorOfName_163 at h
                    refine lv_aload_n hx hb dX14_errorOfName_163 rfl (lv_at hl 0 rfl) ?_
                    refine w_gr (k := k1) (r := (k1 + 19)) hx hb hts hown hK hP fX14_211 hk1.1 rfl dX14_errorOfName_164 ?_
                    refine lv_aload_n hx hb dX14_errorOfName_167 rfl (lv_at hl 0 rfl) ?_
                    refine w_gi (k := k1) hx hb hts hown hK hP fX14_208 hk1.1 rfl dX14_errorOfName_168 ?_
                    refine lv_iconst (v := 1) hx hb dX14_errorOfName_171 rfl ?_
                    refine lv_isub hx hb dX14_errorOfName_172 ?_
                    refine lv_iload hx hb dX14_errorOfName_173 (lv_at hl 1 rfl) ?_
                    obtain ⟨hn175, h⟩ := itn_e h
                    obtain ⟨v175, e175, h⟩ := bnd_e h
                    refine w_ia2 (k := (k1 + 19)) hx hb hK hP hS hz hk1.2.2.2.2.2.2.2.2.2.2.2.2.2.2.2.2.2.2.2.1 hn175 e175 dX14_errorOfName_175 fun H1 locs1 hz hP hS => ?_
                    refine lv_iconst (v := 0) hx hb dX14_errorOfName_176 rfl ?_
                    exact w_iret hx hb hret rfl hlk hK hP hS hz hE (q_p2 h) dX14_errorOfName_177
                  refine lv_icmp_eq (tgt := 163) hx hb dX14_errorOfName_154 rfl (fun hc154 => ?_) (fun hc154 => ?_)
                  · have h := itt_e h hc154
                    exact J163 h _ _ _ (lv_sub hl [0, 2] rfl) hP hS hz
                  · have h := itf_e h hc154
                    refine lv_iload_n hx hb dX14_errorOfName_157 rfl (lv_at hl 1 rfl) ?_
                    refine lv_bipush (v := 15) hx hb dX14_errorOfName_158 rfl ?_
                    refine lv_icmp_ne (tgt := 176) hx hb dX14_errorOfName_160 rfl (fun hc160 => ?_) (fun hc160 => ?_)
                    · have h := itf_e h hc160
                      refine lv_iconst (v := 0) hx hb dX14_errorOfName_176 rfl ?_
                      exact w_iret hx hb hret rfl hlk hK hP hS hz hE (q_p2 h) dX14_errorOfName_177
                    · have h := itt_e h hc160
                      exact J163 h _ _ _ (lv_sub hl [0, 2] rfl) hP hS hz
                have J138 : (j_Model_errorOfName_138 v k1 a2 q61 v120) = some q → ∀ (H1 : Heap) (locs1 : List Loc) (ls1 : Array Slot), lv_has ls1 6 [(1, .ref (Γ.2.1 + k1)), (3, .int (v (k1 + 1) (a2 - 1).toNatClampNeg)), (5, .int q61)] → Wd Γ sh v120 w H1 → va_S (gA Γ) s.heap H1 locs1 → H1.size = Γ.2.1 + n → wpI Γ sh w n 3 (fun x u => x = q.1 ∧ u = q.2) p l e s m args below meth c H1 locs1 (F0 m 138 ls1 []) := by
                  intro  h H1 locs1 ls hl hP hS hz
                  unfold j_Model_errorOfName_138 at h
                  refine lv_aload_n hx hb dX14_errorOfName_138 rfl (lv_at hl 0 rfl) ?_
                  refine w_gr (k := k1) (r := (k1 + 18)) hx hb hts hown hK hP fX14_205 hk1.1 rfl dX14_errorOfName_139 ?_
                  refine lv_aload_n hx hb dX14_errorOfName_142 rfl (lv_at hl 0 rfl) ?_
                  refine w_gi (k := k1) hx hb hts hown hK hP fX14_208 hk1.1 rfl dX14_errorOfName_143 ?_
                  refine lv_iconst (v := 1) hx hb dX14_errorOfName_146 rfl ?_
                  refine lv_isub hx hb dX14_errorOfName_147 ?_
                  refine lv_iload hx hb dX14_errorOfName_148 (lv_at hl 2 rfl) ?_
                  obtain ⟨hn150, h⟩ := itn_e h
                  obtain ⟨v150, e150, h⟩ := bnd_e h
                  refine w_ia2 (k := (k1 + 18)) hx hb hK hP hS hz hk1.2.2.2.2.2.2.2.2.2.2.2.2.2.2.2.2.2.2.1 hn150 e150 dX14_errorOfName_150 fun H1 locs1 hz hP hS => ?_
                  exact J151 v150 h _ _ _ (lv_sub hl [0, 1, 2] rfl) hP hS hz
                refine lv_icmp_eq (tgt := 138) hx hb dX14_errorOfName_123 rfl (fun hc123 => ?_) (fun hc123 => ?_)
                · have h := itt_e h hc123
                  exact J138 h _ _ _ (lv_sub hl [0, 1, 2] rfl) hP hS hz
                · have h := itf_e h hc123
                  refine lv_iload_n hx hb dX14_errorOfName_126 rfl (lv_at hl 1 rfl) ?_
                  refine lv_bipush (v := 14) hx hb dX14_errorOfName_127 rfl ?_
                  refine lv_icmp_eq (tgt := 138) hx hb dX14_errorOfName_129 rfl (fun hc129 => ?_) (fun hc129 => ?_)
                  · have h := itt_e h hc129
                    exact J138 h _ _ _ (lv_sub hl [0, 1, 2] rfl) hP hS hz
                  · have h := itf_e h hc129
                    refine lv_iload_n hx hb dX14_errorOfName_132 rfl (lv_at hl 1 rfl) ?_
                    refine lv_bipush (v := 16) hx hb dX14_errorOfName_133 rfl ?_
                    refine lv_icmp_ne (tgt := 151) hx hb dX14_errorOfName_135 rfl (fun hc135 => ?_) (fun hc135 => ?_)
                    · have h := itf_e h hc135
                      exact J151 v120 h _ _ _ (lv_sub hl [0, 1, 2] rfl) hP hS hz
                    · have h := itt_e h hc135
                      exact J138 h _ _ _ (lv_sub hl [0, 1, 2] rfl) hP hS hz
              refine lv_icmp_ne (tgt := 120) hx hb dX14_errorOfName_104 rfl (fun hc104 => ?_) (fun hc104 => ?_)
              · have h := itf_e h hc104
                exact J120 v101 h _ _ _ (lv_sub hl [0, 1, 2] rfl) hP hS hz
              · have h := itt_e h hc104
                refine lv_aload_n hx hb dX14_errorOfName_107 rfl (lv_at hl 0 rfl) ?_
                refine w_gr (k := k1) (r := (k1 + 16)) hx hb hts hown hK hP fX14_202 hk1.1 rfl dX14_errorOfName_108 ?_
                refine lv_aload_n hx hb dX14_errorOfName_111 rfl (lv_at hl 0 rfl) ?_
                refine w_gi (k := k1) hx hb hts hown hK hP fX14_54 hk1.1 rfl dX14_errorOfName_112 ?_
                refine lv_iconst (v := 1) hx hb dX14_errorOfName_115 rfl ?_
                refine lv_isub hx hb dX14_errorOfName_116 ?_
                refine lv_iload hx hb dX14_errorOfName_117 (lv_at hl 2 rfl) ?_
                obtain ⟨hn119, h⟩ := itn_e h
                obtain ⟨v119, e119, h⟩ := bnd_e h
                refine w_ia2 (k := (k1 + 16)) hx hb hK hP hS hz hk1.2.2.2.2.2.2.2.2.2.2.2.2.2.2.2.2.1 hn119 e119 dX14_errorOfName_119 fun H1 locs1 hz hP hS => ?_
                exact J120 v119 h _ _ _ (lv_sub hl [0, 1, 2] rfl) hP hS hz
            refine lv_icmp_ne (tgt := 101) hx hb dX14_errorOfName_85 rfl (fun hc85 => ?_) (fun hc85 => ?_)
            · have h := itf_e h hc85
              exact J101 v81 h _ _ _ (lv_sub hl [4, 2, 0] rfl) hP hS hz
            · have h := itt_e h hc85
              refine lv_aload_n hx hb dX14_errorOfName_88 rfl (lv_at hl 4 rfl) ?_
              refine w_gr (k := k1) (r := (k1 + 14)) hx hb hts hown hK hP fX14_199 hk1.1 rfl dX14_errorOfName_89 ?_
              refine lv_aload_n hx hb dX14_errorOfName_92 rfl (lv_at hl 4 rfl) ?_
              refine w_gi (k := k1) hx hb hts hown hK hP fX14_54 hk1.1 rfl dX14_errorOfName_93 ?_
              refine lv_iconst (v := 1) hx hb dX14_errorOfName_96 rfl ?_
              refine lv_isub hx hb dX14_errorOfName_97 ?_
              refine lv_iload hx hb dX14_errorOfName_98 (lv_at hl 0 rfl) ?_
              obtain ⟨hn100, h⟩ := itn_e h
              obtain ⟨v100, e100, h⟩ := bnd_e h
              refine w_ia2 (k := (k1 + 14)) hx hb hK hP hS hz hk1.2.2.2.2.2.2.2.2.2.2.2.2.2.2.1 hn100 e100 dX14_errorOfName_100 fun H1 locs1 hz hP hS => ?_
              exact J101 v100 h _ _ _ (lv_sub hl [4, 2, 0] rfl) hP hS hz
          · have h := itt_e h hc69
            refine lv_iconst (v := 3) hx hb dX14_errorOfName_72 rfl ?_
            exact w_iret hx hb hret rfl hlk hK hP hS hz hE (q_p2 h) dX14_errorOfName_73
        · have h := itt_e h hc26
          exact J29 h _ _ _ (lv_sub hl [1, 2, 3, 0] rfl) hP hS hz
def f_Model_errorOfRange (a1 : Int32) (a2 : Int32) (a3 : Int32) : Option Int32 := (f_Model_isIn a1 a2 a3).bind fun q3 => if (q_b q3) = 0 then (some 5) else (some 0)
theorem c_Model_errorOfRange {a1 : Int32} {a2 : Int32} {a3 : Int32} {q : Int32} (h : f_Model_errorOfRange a1 a2 a3 = some q) : MetI l yX14_errorOfRange cX14_errorOfRange 3 (some .int) 1 Γ sh v w n [.int a1, .int a2, .int a3] (fun x u => x = q ∧ u = v) := by
  unfold f_Model_errorOfRange at h
  refine w_start pn_X14 (Nat.le_of_ble_eq_true rfl) fun p e s m args below meth c hx hb hml hret hlk hnm hts hown hK hP hz hE hS ls hl => ?_
  refine lv_iload_n hx hb dX14_errorOfRange_0 rfl (lv_at hl 0 rfl) ?_
  refine lv_iload_n hx hb dX14_errorOfRange_1 rfl (lv_at hl 1 rfl) ?_
  refine lv_iload_n hx hb dX14_errorOfRange_2 rfl (lv_at hl 2 rfl) ?_
  obtain ⟨q3, e3, h⟩ := obn_e h
  refine z_Si (r1 := (q_b q3)) (v1 := v) hx hb hml hts hown hK hP hS hz hE (c_Model_isIn  e3) kX14_isIn mX14_46 rfl rfl hl.1 (Nat.le_of_ble_eq_true rfl) ⟨Nat.le_of_ble_eq_true rfl, Nat.le_of_ble_eq_true rfl⟩ ⟨Nat.le_refl _, Nat.le_refl _⟩ dX14_errorOfRange_3 fun H1 locs1 hz hP hS => ?_
  refine lv_if_eq (tgt := 13) hx hb dX14_errorOfRange_6 rfl (fun hc6 => ?_) (fun hc6 => ?_)
  · have h := itt_e h hc6
    refine lv_iconst (v := 5) hx hb dX14_errorOfRange_13 rfl ?_
    exact w_iret hx hb hret rfl hlk hK hP hS hz hE (q_p1 h) dX14_errorOfRange_14
  · have h := itf_e h hc6
    refine lv_iconst (v := 0) hx hb dX14_errorOfRange_9 rfl ?_
    refine lv_goto (tgt := 14) hx hb dX14_errorOfRange_10 rfl ?_
    exact w_iret hx hb hret rfl hlk hK hP hS hz hE (q_p1 h) dX14_errorOfRange_14
def f_Model_errorOfNumber (z : Nat) (v : Va) (sp : Nat) (k1 : Nat) (a2 : Int32) : Option (Int32 × Va) := (f_Model_number z v sp k1 a2).bind fun q3 => if a2 < 0 ∨ 401 ≤ a2.toNatClampNeg then none else bnd (pu v (k1 + 4) a2.toNatClampNeg q3) fun v13 => if (a2 - 1) < 0 ∨ 401 ≤ (a2 - 1).toNatClampNeg then none else if (v13 (k1 + 1) (a2 - 1).toNatClampNeg) = 1 then (if ((v13 k1 4) - 1) < 0 ∨ 4 ≤ ((v13 k1 4) - 1).toNatClampNeg then none else bnd (pu v13 (k1 + 6) ((v13 k1 4) - 1).toNatClampNeg q3) fun v87 => (f_Model_errorOfRange q3 0 9).bind fun q92 => some (q92, v87)) else (if (v13 (k1 + 1) (a2 - 1).toNatClampNeg) = 3 then (if ((v13 k1 7) - 1) < 0 ∨ 4 ≤ ((v13 k1 7) - 1).toNatClampNeg then none else bnd (pu v13 (k1 + 8) ((v13 k1 7) - 1).toNatClampNeg q3) fun v107 => (f_Model_errorOfRange q3 0 99).bind fun q112 => some (q112, v107)) else (if (v13 (k1 + 1) (a2 - 1).toNatClampNeg) = 4 then (if ((v13 k1 7) - 1) < 0 ∨ 4 ≤ ((v13 k1 7) - 1).toNatClampNeg then none else bnd (pu v13 (k1 + 9) ((v13 k1 7) - 1).toNatClampNeg q3) fun v127 => (f_Model_errorOfRange q3 0 20).bind fun q132 => some (q132, v127)) else (if (v13 (k1 + 1) (a2 - 1).toNatClampNeg) = 6 then (if ((v13 k1 11) - 1) < 0 ∨ 6 ≤ ((v13 k1 11) - 1).toNatClampNeg then none else bnd (pu v13 (k1 + 11) ((v13 k1 11) - 1).toNatClampNeg q3) fun v147 => (f_Model_errorOfRange q3 0 9999).bind fun q153 => some (q153, v147)) else (if (v13 (k1 + 1) (a2 - 1).toNatClampNeg) = 7 then (if ((v13 k1 11) - 1) < 0 ∨ 6 ≤ ((v13 k1 11) - 1).toNatClampNeg then none else bnd (pu v13 (k1 + 12) ((v13 k1 11) - 1).toNatClampNeg q3) fun v168 => (f_Model_errorOfRange q3 0 9999).bind fun q174 => some (q174, v168)) else (if (v13 (k1 + 1) (a2 - 1).toNatClampNeg) = 10 then (if ((v13 k1 15) - 1) < 0 ∨ 10 ≤ ((v13 k1 15) - 1).toNatClampNeg then none else bnd (pu v13 (k1 + 15) ((v13 k1 15) - 1).toNatClampNeg q3) fun v189 => (f_Model_errorOfRange q3 1 90).bind fun q194 => some (q194, v189)) else (some (0, v13)))))))
theorem c_Model_errorOfNumber {sp : Nat} {k1 : Nat} {a2 : Int32} (hk : isModel sh sp) (hk1 : isSheet sh k1) {q : Int32 × Va} (h : f_Model_errorOfNumber z v sp k1 a2 = some q) : MetI l yX14_errorOfNumber cX14_errorOfNumber 4 (some .int) 2 Γ sh v w n [.ref (Γ.2.1 + 149), .ref (Γ.2.1 + k1), .int a2] (fun x u => x = q.1 ∧ u = q.2) := by
  unfold f_Model_errorOfNumber at h
  refine w_start pn_X14 (Nat.le_of_ble_eq_true rfl) fun p e s m args below meth c hx hb hml hret hlk hnm hts hown hK hP hz hE hS ls hl => ?_
  refine lv_aload_n hx hb dX14_errorOfNumber_0 rfl (lv_at hl 0 rfl) ?_
  refine lv_aload_n hx hb dX14_errorOfNumber_1 rfl (lv_at hl 1 rfl) ?_
  refine lv_iload_n hx hb dX14_errorOfNumber_2 rfl (lv_at hl 2 rfl) ?_
  obtain ⟨q3, e3, h⟩ := obn_e h
  refine z_Vi (k := 149) (r1 := q3) (v1 := v) hx hb hml hts hown hK hP hS hz hE (c_Model_number hk hk1 e3) kX14_number mX14_214 hk.1 rfl rfl rfl hl.1 (Nat.le_of_ble_eq_true rfl) ⟨Nat.le_of_ble_eq_true rfl, Nat.le_of_ble_eq_true rfl⟩ ⟨Nat.le_refl _, Nat.le_refl _⟩ dX14_errorOfNumber_3 fun H1 locs1 hz hP hS => ?_
  refine lv_istore_n (lv' := [(3, .int q3), (0, .ref (Γ.2.1 + 149)), (1, .ref (Γ.2.1 + k1)), (2, .int a2)]) hx hb dX14_errorOfNumber_6 rfl hl (by decide) rfl fun ls hl => ?_
  refine lv_aload_n hx hb dX14_errorOfNumber_7 rfl (lv_at hl 2 rfl) ?_
  refine w_gr (k := k1) (r := (k1 + 4)) hx hb hts hown hK hP fX14_196 hk1.1 rfl dX14_errorOfNumber_8 ?_
  refine lv_iload_n hx hb dX14_errorOfNumber_11 rfl (lv_at hl 3 rfl) ?_
  refine lv_iload_n hx hb dX14_errorOfNumber_12 rfl (lv_at hl 0 rfl) ?_
  obtain ⟨hn13, h⟩ := itn_e h
  obtain ⟨v13, e13, h⟩ := bnd_e h
  refine w_ia2 (k := (k1 + 4)) hx hb hK hP hS hz hk1.2.2.2.2.1 hn13 e13 dX14_errorOfNumber_13 fun H1 locs1 hz hP hS => ?_
  refine lv_aload_n hx hb dX14_errorOfNumber_14 rfl (lv_at hl 2 rfl) ?_
  refine w_gr (k := k1) (r := (k1 + 1)) hx hb hts hown hK hP fX14_102 hk1.1 rfl dX14_errorOfNumber_15 ?_
  refine lv_iload_n hx hb dX14_errorOfNumber_18 rfl (lv_at hl 3 rfl) ?_
  refine lv_iconst (v := 1) hx hb dX14_errorOfNumber_19 rfl ?_
  refine lv_isub hx hb dX14_errorOfNumber_20 ?_
  obtain ⟨hn21, h⟩ := itn_e h
  refine w_iald (k := (k1 + 1)) hx hb hK hP hk1.2.1 hn21 dX14_errorOfNumber_21 ?_
  by_cases hc22_1 : (v13 (k1 + 1) (a2 - 1).toNatClampNeg) = 1
  · have h := itt_e h hc22_1
    refine z_tI (y := 1) (tgt := 76) hx hb dX14_errorOfNumber_22 hc22_1 (by decide) (by decide) rfl rfl ?_
    refine lv_aload_n hx hb dX14_errorOfNumber_76 rfl (lv_at hl 2 rfl) ?_
    refine w_gr (k := k1) (r := (k1 + 6)) hx hb hts hown hK hP fX14_217 hk1.1 rfl dX14_errorOfNumber_77 ?_
    refine lv_aload_n hx hb dX14_errorOfNumber_80 rfl (lv_at hl 2 rfl) ?_
    refine w_gi (k := k1) hx hb hts hown hK hP fX14_171 hk1.1 rfl dX14_errorOfNumber_81 ?_
    refine lv_iconst (v := 1) hx hb dX14_errorOfNumber_84 rfl ?_
    refine lv_isub hx hb dX14_errorOfNumber_85 ?_
    refine lv_iload_n hx hb dX14_errorOfNumber_86 rfl (lv_at hl 0 rfl) ?_
    obtain ⟨hn87, h⟩ := itn_e h
    obtain ⟨v87, e87, h⟩ := bnd_e h
    refine w_ia2 (k := (k1 + 6)) hx hb hK hP hS hz hk1.2.2.2.2.2.2.1 hn87 e87 dX14_errorOfNumber_87 fun H1 locs1 hz hP hS => ?_
    refine lv_iload_n hx hb dX14_errorOfNumber_88 rfl (lv_at hl 0 rfl) ?_
    refine lv_iconst (v := 0) hx hb dX14_errorOfNumber_89 rfl ?_
    refine lv_bipush (v := 9) hx hb dX14_errorOfNumber_90 rfl ?_
    obtain ⟨q92, e92, h⟩ := obn_e h
    refine z_Si (r1 := q92) (v1 := v87) hx hb hml hts hown hK hP hS hz hE (c_Model_errorOfRange  e92) kX14_errorOfRange mX14_220 rfl rfl hl.1 (Nat.le_of_ble_eq_true rfl) ⟨Nat.le_of_ble_eq_true rfl, Nat.le_of_ble_eq_true rfl⟩ ⟨Nat.le_refl _, Nat.le_refl _⟩ dX14_errorOfNumber_92 fun H1 locs1 hz hP hS => ?_
    exact w_iret hx hb hret rfl hlk hK hP hS hz hE (q_p2 h) dX14_errorOfNumber_95
  have h := itf_e h hc22_1
  by_cases hc22_3 : (v13 (k1 + 1) (a2 - 1).toNatClampNeg) = 3
  · have h := itt_e h hc22_3
    refine z_tI (y := 3) (tgt := 96) hx hb dX14_errorOfNumber_22 hc22_3 (by decide) (by decide) rfl rfl ?_
    refine lv_aload_n hx hb dX14_errorOfNumber_96 rfl (lv_at hl 2 rfl) ?_
    refine w_gr (k := k1) (r := (k1 + 8)) hx hb hts hown hK hP fX14_224 hk1.1 rfl dX14_errorOfNumber_97 ?_
    refine lv_aload_n hx hb dX14_errorOfNumber_100 rfl (lv_at hl 2 rfl) ?_
    refine w_gi (k := k1) hx hb hts hown hK hP fX14_174 hk1.1 rfl dX14_errorOfNumber_101 ?_
    refine lv_iconst (v := 1) hx hb dX14_errorOfNumber_104 rfl ?_
    refine lv_isub hx hb dX14_errorOfNumber_105 ?_
    refine lv_iload_n hx hb dX14_errorOfNumber_106 rfl (lv_at hl 0 rfl) ?_
    obtain ⟨hn107, h⟩ := itn_e h
    obtain ⟨v107, e107, h⟩ := bnd_e h
    refine w_ia2 (k := (k1 + 8)) hx hb hK hP hS hz hk1.2.2.2.2.2.2.2.2.1 hn107 e107 dX14_errorOfNumber_107 fun H1 locs1 hz hP hS => ?_
    refine lv_iload_n hx hb dX14_errorOfNumber_108 rfl (lv_at hl 0 rfl) ?_
    refine lv_iconst (v := 0) hx hb dX14_errorOfNumber_109 rfl ?_
    refine lv_bipush (v := 99) hx hb dX14_errorOfNumber_110 rfl ?_
    obtain ⟨q112, e112, h⟩ := obn_e h
    refine z_Si (r1 := q112) (v1 := v107) hx hb hml hts hown hK hP hS hz hE (c_Model_errorOfRange  e112) kX14_errorOfRange mX14_220 rfl rfl hl.1 (Nat.le_of_ble_eq_true rfl) ⟨Nat.le_of_ble_eq_true rfl, Nat.le_of_ble_eq_true rfl⟩ ⟨Nat.le_refl _, Nat.le_refl _⟩ dX14_errorOfNumber_112 fun H1 locs1 hz hP hS => ?_
    exact w_iret hx hb hret rfl hlk hK hP hS hz hE (q_p2 h) dX14_errorOfNumber_115
  have h := itf_e h hc22_3
  by_cases hc22_4 : (v13 (k1 + 1) (a2 - 1).toNatClampNeg) = 4
  · have h := itt_e h hc22_4
    refine z_tI (y := 4) (tgt := 116) hx hb dX14_errorOfNumber_22 hc22_4 (by decide) (by decide) rfl rfl ?_
    refine lv_aload_n hx hb dX14_errorOfNumber_116 rfl (lv_at hl 2 rfl) ?_
    refine w_gr (k := k1) (r := (k1 + 9)) hx hb hts hown hK hP fX14_227 hk1.1 rfl dX14_errorOfNumber_117 ?_
    refine lv_aload_n hx hb dX14_errorOfNumber_120 rfl (lv_at hl 2 rfl) ?_
    refine w_gi (k := k1) hx hb hts hown hK hP fX14_174 hk1.1 rfl dX14_errorOfNumber_121 ?_
    refine lv_iconst (v := 1) hx hb dX14_errorOfNumber_124 rfl ?_
    refine lv_isub hx hb dX14_errorOfNumber_125 ?_
    refine lv_iload_n hx hb dX14_errorOfNumber_126 rfl (lv_at hl 0 rfl) ?_
    obtain ⟨hn127, h⟩ := itn_e h
    obtain ⟨v127, e127, h⟩ := bnd_e h
    refine w_ia2 (k := (k1 + 9)) hx hb hK hP hS hz hk1.2.2.2.2.2.2.2.2.2.1 hn127 e127 dX14_errorOfNumber_127 fun H1 locs1 hz hP hS => ?_
    refine lv_iload_n hx hb dX14_errorOfNumber_128 rfl (lv_at hl 0 rfl) ?_
    refine lv_iconst (v := 0) hx hb dX14_errorOfNumber_129 rfl ?_
    refine lv_bipush (v := 20) hx hb dX14_errorOfNumber_130 rfl ?_
    obtain ⟨q132, e132, h⟩ := obn_e h
    refine z_Si (r1 := q132) (v1 := v127) hx hb hml hts hown hK hP hS hz hE (c_Model_errorOfRange  e132) kX14_errorOfRange mX14_220 rfl rfl hl.1 (Nat.le_of_ble_eq_true rfl) ⟨Nat.le_of_ble_eq_true rfl, Nat.le_of_ble_eq_true rfl⟩ ⟨Nat.le_refl _, Nat.le_refl _⟩ dX14_errorOfNumber_132 fun H1 locs1 hz hP hS => ?_
    exact w_iret hx hb hret rfl hlk hK hP hS hz hE (q_p2 h) dX14_errorOfNumber_135
  have h := itf_e h hc22_4
  by_cases hc22_6 : (v13 (k1 + 1) (a2 - 1).toNatClampNeg) = 6
  · have h := itt_e h hc22_6
    refine z_tI (y := 6) (tgt := 136) hx hb dX14_errorOfNumber_22 hc22_6 (by decide) (by decide) rfl rfl ?_
    refine lv_aload_n hx hb dX14_errorOfNumber_136 rfl (lv_at hl 2 rfl) ?_
    refine w_gr (k := k1) (r := (k1 + 11)) hx hb hts hown hK hP fX14_230 hk1.1 rfl dX14_errorOfNumber_137 ?_
    refine lv_aload_n hx hb dX14_errorOfNumber_140 rfl (lv_at hl 2 rfl) ?_
    refine w_gi (k := k1) hx hb hts hown hK hP fX14_43 hk1.1 rfl dX14_errorOfNumber_141 ?_
    refine lv_iconst (v := 1) hx hb dX14_errorOfNumber_144 rfl ?_
    refine lv_isub hx hb dX14_errorOfNumber_145 ?_
    refine lv_iload_n hx hb dX14_errorOfNumber_146 rfl (lv_at hl 0 rfl) ?_
    obtain ⟨hn147, h⟩ := itn_e h
    obtain ⟨v147, e147, h⟩ := bnd_e h
    refine w_ia2 (k := (k1 + 11)) hx hb hK hP hS hz hk1.2.2.2.2.2.2.2.2.2.2.2.1 hn147 e147 dX14_errorOfNumber_147 fun H1 locs1 hz hP hS => ?_
    refine lv_iload_n hx hb dX14_errorOfNumber_148 rfl (lv_at hl 0 rfl) ?_
    refine lv_iconst (v := 0) hx hb dX14_errorOfNumber_149 rfl ?_
    refine lv_sipush (v := 9999) hx hb dX14_errorOfNumber_150 rfl ?_
    obtain ⟨q153, e153, h⟩ := obn_e h
    refine z_Si (r1 := q153) (v1 := v147) hx hb hml hts hown hK hP hS hz hE (c_Model_errorOfRange  e153) kX14_errorOfRange mX14_220 rfl rfl hl.1 (Nat.le_of_ble_eq_true rfl) ⟨Nat.le_of_ble_eq_true rfl, Nat.le_of_ble_eq_true rfl⟩ ⟨Nat.le_refl _, Nat.le_refl _⟩ dX14_errorOfNumber_153 fun H1 locs1 hz hP hS => ?_
    exact w_iret hx hb hret rfl hlk hK hP hS hz hE (q_p2 h) dX14_errorOfNumber_156
  have h := itf_e h hc22_6
  by_cases hc22_7 : (v13 (k1 + 1) (a2 - 1).toNatClampNeg) = 7
  · have h := itt_e h hc22_7
    refine z_tI (y := 7) (tgt := 157) hx hb dX14_errorOfNumber_22 hc22_7 (by decide) (by decide) rfl rfl ?_
    refine lv_aload_n hx hb dX14_errorOfNumber_157 rfl (lv_at hl 2 rfl) ?_
    refine w_gr (k := k1) (r := (k1 + 12)) hx hb hts hown hK hP fX14_233 hk1.1 rfl dX14_errorOfNumber_158 ?_
    refine lv_aload_n hx hb dX14_errorOfNumber_161 rfl (lv_at hl 2 rfl) ?_
    refine w_gi (k := k1) hx hb hts hown hK hP fX14_43 hk1.1 rfl dX14_errorOfNumber_162 ?_
    refine lv_iconst (v := 1) hx hb dX14_errorOfNumber_165 rfl ?_
    refine lv_isub hx hb dX14_errorOfNumber_166 ?_
    refine lv_iload_n hx hb dX14_errorOfNumber_167 rfl (lv_at hl 0 rfl) ?_
    obtain ⟨hn168, h⟩ := itn_e h
    obtain ⟨v168, e168, h⟩ := bnd_e h
    refine w_ia2 (k := (k1 + 12)) hx hb hK hP hS hz hk1.2.2.2.2.2.2.2.2.2.2.2.2.1 hn168 e168 dX14_errorOfNumber_168 fun H1 locs1 hz hP hS => ?_
    refine lv_iload_n hx hb dX14_errorOfNumber_169 rfl (lv_at hl 0 rfl) ?_
    refine lv_iconst (v := 0) hx hb dX14_errorOfNumber_170 rfl ?_
    refine lv_sipush (v := 9999) hx hb dX14_errorOfNumber_171 rfl ?_
    obtain ⟨q174, e174, h⟩ := obn_e h
    refine z_Si (r1 := q174) (v1 := v168) hx hb hml hts hown hK hP hS hz hE (c_Model_errorOfRange  e174) kX14_errorOfRange mX14_220 rfl rfl hl.1 (Nat.le_of_ble_eq_true rfl) ⟨Nat.le_of_ble_eq_true rfl, Nat.le_of_ble_eq_true rfl⟩ ⟨Nat.le_refl _, Nat.le_refl _⟩ dX14_errorOfNumber_174 fun H1 locs1 hz hP hS => ?_
    exact w_iret hx hb hret rfl hlk hK hP hS hz hE (q_p2 h) dX14_errorOfNumber_177
  have h := itf_e h hc22_7
  by_cases hc22_10 : (v13 (k1 + 1) (a2 - 1).toNatClampNeg) = 10
  · have h := itt_e h hc22_10
    refine z_tI (y := 10) (tgt := 178) hx hb dX14_errorOfNumber_22 hc22_10 (by decide) (by decide) rfl rfl ?_
    refine lv_aload_n hx hb dX14_errorOfNumber_178 rfl (lv_at hl 2 rfl) ?_
    refine w_gr (k := k1) (r := (k1 + 15)) hx hb hts hown hK hP fX14_236 hk1.1 rfl dX14_errorOfNumber_179 ?_
    refine lv_aload_n hx hb dX14_errorOfNumber_182 rfl (lv_at hl 2 rfl) ?_
    refine w_gi (k := k1) hx hb hts hown hK hP fX14_54 hk1.1 rfl dX14_errorOfNumber_183 ?_
    refine lv_iconst (v := 1) hx hb dX14_errorOfNumber_186 rfl ?_
    refine lv_isub hx hb dX14_errorOfNumber_187 ?_
    refine lv_iload_n hx hb dX14_errorOfNumber_188 rfl (lv_at hl 0 rfl) ?_
    obtain ⟨hn189, h⟩ := itn_e h
    obtain ⟨v189, e189, h⟩ := bnd_e h
    refine w_ia2 (k := (k1 + 15)) hx hb hK hP hS hz hk1.2.2.2.2.2.2.2.2.2.2.2.2.2.2.2.1 hn189 e189 dX14_errorOfNumber_189 fun H1 locs1 hz hP hS => ?_
    refine lv_iload_n hx hb dX14_errorOfNumber_190 rfl (lv_at hl 0 rfl) ?_
    refine lv_iconst (v := 1) hx hb dX14_errorOfNumber_191 rfl ?_
    refine lv_bipush (v := 90) hx hb dX14_errorOfNumber_192 rfl ?_
    obtain ⟨q194, e194, h⟩ := obn_e h
    refine z_Si (r1 := q194) (v1 := v189) hx hb hml hts hown hK hP hS hz hE (c_Model_errorOfRange  e194) kX14_errorOfRange mX14_220 rfl rfl hl.1 (Nat.le_of_ble_eq_true rfl) ⟨Nat.le_of_ble_eq_true rfl, Nat.le_of_ble_eq_true rfl⟩ ⟨Nat.le_refl _, Nat.le_refl _⟩ dX14_errorOfNumber_194 fun H1 locs1 hz hP hS => ?_
    exact w_iret hx hb hret rfl hlk hK hP hS hz hE (q_p2 h) dX14_errorOfNumber_197
  have h := itf_e h hc22_10
  refine z_tD (tgt := 198) hx hb [1, 3, 4, 6, 7, 10] dX14_errorOfNumber_22 (q_nc hc22_1 (q_nc hc22_3 (q_nc hc22_4 (q_nc hc22_6 (q_nc hc22_7 (q_nc hc22_10 q_nn)))))) (by decide) (by decide) rfl ?_
  refine lv_iconst (v := 0) hx hb dX14_errorOfNumber_198 rfl ?_
  exact w_iret hx hb hret rfl hlk hK hP hS hz hE (q_p2 h) dX14_errorOfNumber_199
def j_Model_errorOfOrder_40 (v : Va) (k1 : Nat) (s40_0 : Int32) : Option (Int32 × Va) := if (v k1 20) < 0 ∨ 24 ≤ (v k1 20).toNatClampNeg then none else bnd (pu v (k1 + 17) (v k1 20).toNatClampNeg s40_0) fun v40 => if (v40 k1 20) < 0 ∨ 24 ≤ (v40 k1 20).toNatClampNeg then none else bnd (pu v40 (k1 + 20) (v40 k1 20).toNatClampNeg (-1)) fun v50 => if (v50 k1 20) < 0 ∨ 24 ≤ (v50 k1 20).toNatClampNeg then none else bnd (pu v50 (k1 + 21) (v50 k1 20).toNatClampNeg (-1)) fun v60 => bnd (pu v60 k1 20 ((v60 k1 20) + 1)) fun v68 => some (0, v68)
def f_Model_errorOfOrder (v : Va) (sp : Nat) (k1 : Nat) (a2 : Int32) : Option (Int32 × Va) := if (v k1 20) = 24 then (some (4, v)) else (if a2 = 12 then (j_Model_errorOfOrder_40 v k1 0) else (if a2 = 14 then (j_Model_errorOfOrder_40 v k1 1) else (j_Model_errorOfOrder_40 v k1 2)))
theorem c_Model_errorOfOrder {sp : Nat} {k1 : Nat} {a2 : Int32} (hk : isModel sh sp) (hk1 : isSheet sh k1) {q : Int32 × Va} (h : f_Model_errorOfOrder v sp k1 a2 = some q) : MetI l yX14_errorOfOrder cX14_errorOfOrder 3 (some .int) 0 Γ sh v w n [.ref (Γ.2.1 + 149), .ref (Γ.2.1 + k1), .int a2] (fun x u => x = q.1 ∧ u = q.2) := by
  unfold f_Model_errorOfOrder at h
  refine w_start pn_X14 (Nat.le_of_ble_eq_true rfl) fun p e s m args below meth c hx hb hml hret hlk hnm hts hown hK hP hz hE hS ls hl => ?_
  refine lv_aload_n hx hb dX14_errorOfOrder_0 rfl (lv_at hl 1 rfl) ?_
  refine w_gi (k := k1) hx hb hts hown hK hP fX14_208 hk1.1 rfl dX14_errorOfOrder_1 ?_
  refine lv_bipush (v := 24) hx hb dX14_errorOfOrder_4 rfl ?_
  refine lv_icmp_ne (tgt := 11) hx hb dX14_errorOfOrder_6 rfl (fun hc6 => ?_) (fun hc6 => ?_)
  · have h := itf_e h hc6
    refine lv_aload_n hx hb dX14_errorOfOrder_11 rfl (lv_at hl 1 rfl) ?_
    refine w_gr (k := k1) (r := (k1 + 17)) hx hb hts hown hK hP fX14_239 hk1.1 rfl dX14_errorOfOrder_12 ?_
    refine lv_aload_n hx hb dX14_errorOfOrder_15 rfl (lv_at hl 1 rfl) ?_
    refine w_gi (k := k1) hx hb hts hown hK hP fX14_208 hk1.1 rfl dX14_errorOfOrder_16 ?_
    refine lv_iload_n hx hb dX14_errorOfOrder_19 rfl (lv_at hl 2 rfl) ?_
    refine lv_bipush (v := 12) hx hb dX14_errorOfOrder_20 rfl ?_
    have J40 : ∀ (s40_0 : Int32), (j_Model_errorOfOrder_40 v k1) s40_0 = some q → ∀ (H1 : Heap) (locs1 : List Loc) (ls1 : Array Slot), lv_has ls1 3 [(1, .ref (Γ.2.1 + k1))] → Wd Γ sh v w H1 → va_S (gA Γ) s.heap H1 locs1 → H1.size = Γ.2.1 + n → wpI Γ sh w n 0 (fun x u => x = q.1 ∧ u = q.2) p l e s m args below meth c H1 locs1 (F0 m 40 ls1 [.int s40_0, .int (v k1 20), .ref (Γ.2.1 + (k1 + 17))]) := by
      intro s40_0 h H1 locs1 ls hl hP hS hz
      unfold j_Model_errorOfOrder_40 at h
      obtain ⟨hn40, h⟩ := itn_e h
      obtain ⟨v40, e40, h⟩ := bnd_e h
      refine w_ia2 (k := (k1 + 17)) hx hb hK hP hS hz hk1.2.2.2.2.2.2.2.2.2.2.2.2.2.2.2.2.2.1 hn40 e40 dX14_errorOfOrder_40 fun H1 locs1 hz hP hS => ?_
      refine lv_aload_n hx hb dX14_errorOfOrder_41 rfl (lv_at hl 0 rfl) ?_
      refine w_gr (k := k1) (r := (k1 + 20)) hx hb hts hown hK hP fX14_242 hk1.1 rfl dX14_errorOfOrder_42 ?_
      refine lv_aload_n hx hb dX14_errorOfOrder_45 rfl (lv_at hl 0 rfl) ?_
      refine w_gi (k := k1) hx hb hts hown hK hP fX14_208 hk1.1 rfl dX14_errorOfOrder_46 ?_
      refine lv_iconst (v := (-1)) hx hb dX14_errorOfOrder_49 rfl ?_
      obtain ⟨hn50, h⟩ := itn_e h
      obtain ⟨v50, e50, h⟩ := bnd_e h
      refine w_ia2 (k := (k1 + 20)) hx hb hK hP hS hz hk1.2.2.2.2.2.2.2.2.2.2.2.2.2.2.2.2.2.2.2.2.1 hn50 e50 dX14_errorOfOrder_50 fun H1 locs1 hz hP hS => ?_
      refine lv_aload_n hx hb dX14_errorOfOrder_51 rfl (lv_at hl 0 rfl) ?_
      refine w_gr (k := k1) (r := (k1 + 21)) hx hb hts hown hK hP fX14_245 hk1.1 rfl dX14_errorOfOrder_52 ?_
      refine lv_aload_n hx hb dX14_errorOfOrder_55 rfl (lv_at hl 0 rfl) ?_
      refine w_gi (k := k1) hx hb hts hown hK hP fX14_208 hk1.1 rfl dX14_errorOfOrder_56 ?_
      refine lv_iconst (v := (-1)) hx hb dX14_errorOfOrder_59 rfl ?_
      obtain ⟨hn60, h⟩ := itn_e h
      obtain ⟨v60, e60, h⟩ := bnd_e h
      refine w_ia2 (k := (k1 + 21)) hx hb hK hP hS hz hk1.2.2.2.2.2.2.2.2.2.2.2.2.2.2.2.2.2.2.2.2.2 hn60 e60 dX14_errorOfOrder_60 fun H1 locs1 hz hP hS => ?_
      refine lv_aload_n hx hb dX14_errorOfOrder_61 rfl (lv_at hl 0 rfl) ?_
      refine lv_dup hx hb dX14_errorOfOrder_62 rfl ?_
      refine w_gi (k := k1) hx hb hts hown hK hP fX14_208 hk1.1 rfl dX14_errorOfOrder_63 ?_
      refine lv_iconst (v := 1) hx hb dX14_errorOfOrder_66 rfl ?_
      refine lv_iadd hx hb dX14_errorOfOrder_67 ?_
      obtain ⟨v68, e68, h⟩ := bnd_e h
      refine w_pi2 (k := k1) hx hb hts hown hK hP hS hz fX14_208 hk1.1 rfl e68 dX14_errorOfOrder_68 fun H1 locs1 hz hP hS => ?_
      refine lv_iconst (v := 0) hx hb dX14_errorOfOrder_71 rfl ?_
      exact w_iret hx hb hret rfl hlk hK hP hS hz hE (q_p2 h) dX14_errorOfOrder_72
    refine lv_icmp_ne (tgt := 29) hx hb dX14_errorOfOrder_22 rfl (fun hc22 => ?_) (fun hc22 => ?_)
    · have h := itf_e h hc22
      refine lv_iload_n hx hb dX14_errorOfOrder_29 rfl (lv_at hl 2 rfl) ?_
      refine lv_bipush (v := 14) hx hb dX14_errorOfOrder_30 rfl ?_
      refine lv_icmp_ne (tgt := 39) hx hb dX14_errorOfOrder_32 rfl (fun hc32 => ?_) (fun hc32 => ?_)
      · have h := itf_e h hc32
        refine lv_iconst (v := 2) hx hb dX14_errorOfOrder_39 rfl ?_
        exact J40 2 h _ _ _ (lv_sub hl [1] rfl) hP hS hz
      · have h := itt_e h hc32
        refine lv_iconst (v := 1) hx hb dX14_errorOfOrder_35 rfl ?_
        refine lv_goto (tgt := 40) hx hb dX14_errorOfOrder_36 rfl ?_
        exact J40 1 h _ _ _ (lv_sub hl [1] rfl) hP hS hz
    · have h := itt_e h hc22
      refine lv_iconst (v := 0) hx hb dX14_errorOfOrder_25 rfl ?_
      refine lv_goto (tgt := 40) hx hb dX14_errorOfOrder_26 rfl ?_
      exact J40 0 h _ _ _ (lv_sub hl [1] rfl) hP hS hz
  · have h := itt_e h hc6
    refine lv_iconst (v := 4) hx hb dX14_errorOfOrder_9 rfl ?_
    exact w_iret hx hb hret rfl hlk hK hP hS hz hE (q_p2 h) dX14_errorOfOrder_10
def f_Model_errorOf (z : Nat) (v : Va) (sp : Nat) (k1 : Nat) (a2 : Int32) : Option (Int32 × Va) := if a2 < 0 ∨ 401 ≤ a2.toNatClampNeg then none else if (v (k1 + 1) a2.toNatClampNeg) = 12 then ((f_Model_errorOfOrder v sp k1 (v (k1 + 1) a2.toNatClampNeg)).bind fun q141 => some (q141.1, q141.2)) else (if (v (k1 + 1) a2.toNatClampNeg) = 14 then ((f_Model_errorOfOrder v sp k1 (v (k1 + 1) a2.toNatClampNeg)).bind fun q141 => some (q141.1, q141.2)) else (if (v (k1 + 1) a2.toNatClampNeg) = 16 then ((f_Model_errorOfOrder v sp k1 (v (k1 + 1) a2.toNatClampNeg)).bind fun q141 => some (q141.1, q141.2)) else (if (v (k1 + 1) a2.toNatClampNeg) = 17 then (if ((v k1 20) - 1) < 0 ∨ 24 ≤ ((v k1 20) - 1).toNatClampNeg then none else bnd (pu v (k1 + 20) ((v k1 20) - 1).toNatClampNeg (a2 + 1)) fun v158 => some (0, v158)) else (if (v (k1 + 1) a2.toNatClampNeg) = 18 then (if ((v k1 20) - 1) < 0 ∨ 24 ≤ ((v k1 20) - 1).toNatClampNeg then none else bnd (pu v (k1 + 21) ((v k1 20) - 1).toNatClampNeg (a2 + 1)) fun v174 => some (0, v174)) else (if (v (k1 + 1) a2.toNatClampNeg) = 35 then ((f_Model_errorOfName z v sp k1 a2).bind fun q127 => some (q127.1, q127.2)) else (if (v (k1 + 1) a2.toNatClampNeg) = 36 then ((f_Model_errorOfNumber z v sp k1 a2).bind fun q134 => some (q134.1, q134.2)) else (some (0, v))))))))
theorem c_Model_errorOf {sp : Nat} {k1 : Nat} {a2 : Int32} (hk : isModel sh sp) (hk1 : isSheet sh k1) {q : Int32 × Va} (h : f_Model_errorOf z v sp k1 a2 = some q) : MetI l yX14_errorOf cX14_errorOf 4 (some .int) 4 Γ sh v w n [.ref (Γ.2.1 + 149), .ref (Γ.2.1 + k1), .int a2] (fun x u => x = q.1 ∧ u = q.2) := by
  unfold f_Model_errorOf at h
  refine w_start pn_X14 (Nat.le_of_ble_eq_true rfl) fun p e s m args below meth c hx hb hml hret hlk hnm hts hown hK hP hz hE hS ls hl => ?_
  refine lv_aload_n hx hb dX14_errorOf_0 rfl (lv_at hl 1 rfl) ?_
  refine w_gr (k := k1) (r := (k1 + 1)) hx hb hts hown hK hP fX14_102 hk1.1 rfl dX14_errorOf_1 ?_
  refine lv_iload_n hx hb dX14_errorOf_4 rfl (lv_at hl 2 rfl) ?_
  obtain ⟨hn5, h⟩ := itn_e h
  refine w_iald (k := (k1 + 1)) hx hb hK hP hk1.2.1 hn5 dX14_errorOf_5 ?_
  refine lv_istore_n (lv' := [(3, .int (v (k1 + 1) a2.toNatClampNeg)), (0, .ref (Γ.2.1 + 149)), (1, .ref (Γ.2.1 + k1)), (2, .int a2)]) hx hb dX14_errorOf_6 rfl hl (by decide) rfl fun ls hl => ?_
  refine lv_iload_n hx hb dX14_errorOf_7 rfl (lv_at hl 0 rfl) ?_
  by_cases hc8_12 : (v (k1 + 1) a2.toNatClampNeg) = 12
  · have h := itt_e h hc8_12
    refine z_tI (y := 12) (tgt := 138) hx hb dX14_errorOf_8 hc8_12 (by decide) (by decide) rfl rfl ?_
    refine lv_aload_n hx hb dX14_errorOf_138 rfl (lv_at hl 1 rfl) ?_
    refine lv_aload_n hx hb dX14_errorOf_139 rfl (lv_at hl 2 rfl) ?_
    refine lv_iload_n hx hb dX14_errorOf_140 rfl (lv_at hl 0 rfl) ?_
    obtain ⟨q141, e141, h⟩ := obn_e h
    refine z_Vi (k := 149) (r1 := q141.1) (v1 := q141.2) hx hb hml hts hown hK hP hS hz hE (c_Model_errorOfOrder hk hk1 e141) kX14_errorOfOrder mX14_254 hk.1 rfl rfl rfl hl.1 (Nat.le_of_ble_eq_true rfl) ⟨Nat.le_of_ble_eq_true rfl, Nat.le_of_ble_eq_true rfl⟩ ⟨Nat.le_refl _, Nat.le_refl _⟩ dX14_errorOf_141 fun H1 locs1 hz hP hS => ?_
    exact w_iret hx hb hret rfl hlk hK hP hS hz hE (q_p2 h) dX14_errorOf_144
  have h := itf_e h hc8_12
  by_cases hc8_14 : (v (k1 + 1) a2.toNatClampNeg) = 14
  · have h := itt_e h hc8_14
    refine z_tI (y := 14) (tgt := 138) hx hb dX14_errorOf_8 hc8_14 (by decide) (by decide) rfl rfl ?_
    refine lv_aload_n hx hb dX14_errorOf_138 rfl (lv_at hl 1 rfl) ?_
    refine lv_aload_n hx hb dX14_errorOf_139 rfl (lv_at hl 2 rfl) ?_
    refine lv_iload_n hx hb dX14_errorOf_140 rfl (lv_at hl 0 rfl) ?_
    obtain ⟨q141, e141, h⟩ := obn_e h
    refine z_Vi (k := 149) (r1 := q141.1) (v1 := q141.2) hx hb hml hts hown hK hP hS hz hE (c_Model_errorOfOrder hk hk1 e141) kX14_errorOfOrder mX14_254 hk.1 rfl rfl rfl hl.1 (Nat.le_of_ble_eq_true rfl) ⟨Nat.le_of_ble_eq_true rfl, Nat.le_of_ble_eq_true rfl⟩ ⟨Nat.le_refl _, Nat.le_refl _⟩ dX14_errorOf_141 fun H1 locs1 hz hP hS => ?_
    exact w_iret hx hb hret rfl hlk hK hP hS hz hE (q_p2 h) dX14_errorOf_144
  have h := itf_e h hc8_14
  by_cases hc8_16 : (v (k1 + 1) a2.toNatClampNeg) = 16
  · have h := itt_e h hc8_16
    refine z_tI (y := 16) (tgt := 138) hx hb dX14_errorOf_8 hc8_16 (by decide) (by decide) rfl rfl ?_
    refine lv_aload_n hx hb dX14_errorOf_138 rfl (lv_at hl 1 rfl) ?_
    refine lv_aload_n hx hb dX14_errorOf_139 rfl (lv_at hl 2 rfl) ?_
    refine lv_iload_n hx hb dX14_errorOf_140 rfl (lv_at hl 0 rfl) ?_
    obtain ⟨q141, e141, h⟩ := obn_e h
    refine z_Vi (k := 149) (r1 := q141.1) (v1 := q141.2) hx hb hml hts hown hK hP hS hz hE (c_Model_errorOfOrder hk hk1 e141) kX14_errorOfOrder mX14_254 hk.1 rfl rfl rfl hl.1 (Nat.le_of_ble_eq_true rfl) ⟨Nat.le_of_ble_eq_true rfl, Nat.le_of_ble_eq_true rfl⟩ ⟨Nat.le_refl _, Nat.le_refl _⟩ dX14_errorOf_141 fun H1 locs1 hz hP hS => ?_
    exact w_iret hx hb hret rfl hlk hK hP hS hz hE (q_p2 h) dX14_errorOf_144
  have h := itf_e h hc8_16
  by_cases hc8_17 : (v (k1 + 1) a2.toNatClampNeg) = 17
  · have h := itt_e h hc8_17
    refine z_tI (y := 17) (tgt := 145) hx hb dX14_errorOf_8 hc8_17 (by decide) (by decide) rfl rfl ?_
    refine lv_aload_n hx hb dX14_errorOf_145 rfl (lv_at hl 2 rfl) ?_
    refine w_gr (k := k1) (r := (k1 + 20)) hx hb hts hown hK hP fX14_242 hk1.1 rfl dX14_errorOf_146 ?_
    refine lv_aload_n hx hb dX14_errorOf_149 rfl (lv_at hl 2 rfl) ?_
    refine w_gi (k := k1) hx hb hts hown hK hP fX14_208 hk1.1 rfl dX14_errorOf_150 ?_
    refine lv_iconst (v := 1) hx hb dX14_errorOf_153 rfl ?_
    refine lv_isub hx hb dX14_errorOf_154 ?_
    refine lv_iload_n hx hb dX14_errorOf_155 rfl (lv_at hl 3 rfl) ?_
    refine lv_iconst (v := 1) hx hb dX14_errorOf_156 rfl ?_
    refine lv_iadd hx hb dX14_errorOf_157 ?_
    obtain ⟨hn158, h⟩ := itn_e h
    obtain ⟨v158, e158, h⟩ := bnd_e h
    refine w_ia2 (k := (k1 + 20)) hx hb hK hP hS hz hk1.2.2.2.2.2.2.2.2.2.2.2.2.2.2.2.2.2.2.2.2.1 hn158 e158 dX14_errorOf_158 fun H1 locs1 hz hP hS => ?_
    refine lv_iconst (v := 0) hx hb dX14_errorOf_159 rfl ?_
    exact w_iret hx hb hret rfl hlk hK hP hS hz hE (q_p2 h) dX14_errorOf_160
  have h := itf_e h hc8_17
  by_cases hc8_18 : (v (k1 + 1) a2.toNatClampNeg) = 18
  · have h := itt_e h hc8_18
    refine z_tI (y := 18) (tgt := 161) hx hb dX14_errorOf_8 hc8_18 (by decide) (by decide) rfl rfl ?_
    refine lv_aload_n hx hb dX14_errorOf_161 rfl (lv_at hl 2 rfl) ?_
    refine w_gr (k := k1) (r := (k1 + 21)) hx hb hts hown hK hP fX14_245 hk1.1 rfl dX14_errorOf_162 ?_
    refine lv_aload_n hx hb dX14_errorOf_165 rfl (lv_at hl 2 rfl) ?_
    refine w_gi (k := k1) hx hb hts hown hK hP fX14_208 hk1.1 rfl dX14_errorOf_166 ?_
    refine lv_iconst (v := 1) hx hb dX14_errorOf_169 rfl ?_
    refine lv_isub hx hb dX14_errorOf_170 ?_
    refine lv_iload_n hx hb dX14_errorOf_171 rfl (lv_at hl 3 rfl) ?_
    refine lv_iconst (v := 1) hx hb dX14_errorOf_172 rfl ?_
    refine lv_iadd hx hb dX14_errorOf_173 ?_
    obtain ⟨hn174, h⟩ := itn_e h
    obtain ⟨v174, e174, h⟩ := bnd_e h
    refine w_ia2 (k := (k1 + 21)) hx hb hK hP hS hz hk1.2.2.2.2.2.2.2.2.2.2.2.2.2.2.2.2.2.2.2.2.2 hn174 e174 dX14_errorOf_174 fun H1 locs1 hz hP hS => ?_
    refine lv_iconst (v := 0) hx hb dX14_errorOf_175 rfl ?_
    exact w_iret hx hb hret rfl hlk hK hP hS hz hE (q_p2 h) dX14_errorOf_176
  have h := itf_e h hc8_18
  by_cases hc8_35 : (v (k1 + 1) a2.toNatClampNeg) = 35
  · have h := itt_e h hc8_35
    refine z_tI (y := 35) (tgt := 124) hx hb dX14_errorOf_8 hc8_35 (by decide) (by decide) rfl rfl ?_
    refine lv_aload_n hx hb dX14_errorOf_124 rfl (lv_at hl 1 rfl) ?_
    refine lv_aload_n hx hb dX14_errorOf_125 rfl (lv_at hl 2 rfl) ?_
    refine lv_iload_n hx hb dX14_errorOf_126 rfl (lv_at hl 3 rfl) ?_
    obtain ⟨q127, e127, h⟩ := obn_e h
    refine z_Vi (k := 149) (r1 := q127.1) (v1 := q127.2) hx hb hml hts hown hK hP hS hz hE (c_Model_errorOfName hk hk1 e127) kX14_errorOfName mX14_248 hk.1 rfl rfl rfl hl.1 (Nat.le_of_ble_eq_true rfl) ⟨Nat.le_of_ble_eq_true rfl, Nat.le_of_ble_eq_true rfl⟩ ⟨Nat.le_refl _, Nat.le_refl _⟩ dX14_errorOf_127 fun H1 locs1 hz hP hS => ?_
    exact w_iret hx hb hret rfl hlk hK hP hS hz hE (q_p2 h) dX14_errorOf_130
  have h := itf_e h hc8_35
  by_cases hc8_36 : (v (k1 + 1) a2.toNatClampNeg) = 36
  · have h := itt_e h hc8_36
    refine z_tI (y := 36) (tgt := 131) hx hb dX14_errorOf_8 hc8_36 (by decide) (by decide) rfl rfl ?_
    refine lv_aload_n hx hb dX14_errorOf_131 rfl (lv_at hl 1 rfl) ?_
    refine lv_aload_n hx hb dX14_errorOf_132 rfl (lv_at hl 2 rfl) ?_
    refine lv_iload_n hx hb dX14_errorOf_133 rfl (lv_at hl 3 rfl) ?_
    obtain ⟨q134, e134, h⟩ := obn_e h
    refine z_Vi (k := 149) (r1 := q134.1) (v1 := q134.2) hx hb hml hts hown hK hP hS hz hE (c_Model_errorOfNumber hk hk1 e134) kX14_errorOfNumber mX14_251 hk.1 rfl rfl rfl hl.1 (Nat.le_of_ble_eq_true rfl) ⟨Nat.le_of_ble_eq_true rfl, Nat.le_of_ble_eq_true rfl⟩ ⟨Nat.le_refl _, Nat.le_refl _⟩ dX14_errorOf_134 fun H1 locs1 hz hP hS => ?_
    exact w_iret hx hb hret rfl hlk hK hP hS hz hE (q_p2 h) dX14_errorOf_137
  have h := itf_e h hc8_36
  refine z_tD (tgt := 177) hx hb [12, 14, 16, 17, 18, 35, 36] dX14_errorOf_8 (q_nc hc8_12 (q_nc hc8_14 (q_nc hc8_16 (q_nc hc8_17 (q_nc hc8_18 (q_nc hc8_35 (q_nc hc8_36 q_nn))))))) (by decide) (by decide) rfl ?_
  refine lv_iconst (v := 0) hx hb dX14_errorOf_177 rfl ?_
  exact w_iret hx hb hret rfl hlk hK hP hS hz hE (q_p2 h) dX14_errorOf_178
def f_Model_goesBy (v : Va) (sp : Nat) (a1 : Int32) : Option (Bool × Va) := if (v 149 10) < 0 ∨ 401 ≤ (v 149 10).toNatClampNeg then none else if (v (sp + 1) (v 149 10).toNatClampNeg) = a1 then (bnd (pu v 149 10 ((v 149 10) + 1)) fun v25 => some (true, v25)) else (some (false, v))
theorem c_Model_goesBy {sp : Nat} {a1 : Int32} (hk : isModel sh sp) {q : Bool × Va} (h : f_Model_goesBy v sp a1 = some q) : MetI l yX14_goesBy cX14_goesBy 2 (some .boolean) 0 Γ sh v w n [.ref (Γ.2.1 + 149), .int a1] (fun x u => x = q_b q.1 ∧ u = q.2) := by
  unfold f_Model_goesBy at h
  refine w_start pn_X14 (Nat.le_of_ble_eq_true rfl) fun p e s m args below meth c hx hb hml hret hlk hnm hts hown hK hP hz hE hS ls hl => ?_
  refine lv_aload_n hx hb dX14_goesBy_0 rfl (lv_at hl 0 rfl) ?_
  refine w_gr (k := 149) (r := sp) hx hb hts hown hK hP fX14_20 hk.1 rfl dX14_goesBy_1 ?_
  refine w_gr (k := sp) (r := (sp + 1)) hx hb hts hown hK hP fX14_102 hk.2.2.1.1 rfl dX14_goesBy_4 ?_
  refine lv_aload_n hx hb dX14_goesBy_7 rfl (lv_at hl 0 rfl) ?_
  refine w_gi (k := 149) hx hb hts hown hK hP fX14_267 hk.1 rfl dX14_goesBy_8 ?_
  obtain ⟨hn11, h⟩ := itn_e h
  refine w_iald (k := (sp + 1)) hx hb hK hP hk.2.2.1.2.1 hn11 dX14_goesBy_11 ?_
  refine lv_iload_n hx hb dX14_goesBy_12 rfl (lv_at hl 1 rfl) ?_
  refine lv_icmp_eq (tgt := 18) hx hb dX14_goesBy_13 rfl (fun hc13 => ?_) (fun hc13 => ?_)
  · have h := itt_e h hc13
    refine lv_aload_n hx hb dX14_goesBy_18 rfl (lv_at hl 0 rfl) ?_
    refine lv_dup hx hb dX14_goesBy_19 rfl ?_
    refine w_gi (k := 149) hx hb hts hown hK hP fX14_267 hk.1 rfl dX14_goesBy_20 ?_
    refine lv_iconst (v := 1) hx hb dX14_goesBy_23 rfl ?_
    refine lv_iadd hx hb dX14_goesBy_24 ?_
    obtain ⟨v25, e25, h⟩ := bnd_e h
    refine w_pi2 (k := 149) hx hb hts hown hK hP hS hz fX14_267 hk.1 rfl e25 dX14_goesBy_25 fun H1 locs1 hz hP hS => ?_
    refine lv_iconst (v := 1) hx hb dX14_goesBy_28 rfl ?_
    exact w_iret hx hb hret rfl hlk hK hP hS hz hE (q_p2b h) dX14_goesBy_29
  · have h := itf_e h hc13
    refine lv_iconst (v := 0) hx hb dX14_goesBy_16 rfl ?_
    exact w_iret hx hb hret rfl hlk hK hP hS hz hE (q_p2b h) dX14_goesBy_17
def f_Model_ofOne (z : Nat) (v : Va) (sp : Nat) (sn : Nat) (a1 : Int32) (a2 : Int32) : Option Int32 := if a1 = 6 then (if ¬ (v 149 11).toNatClampNeg = sn then none else if a2 < 0 ∨ 6 ≤ a2.toNatClampNeg then none else some (v (sn + 6) a2.toNatClampNeg)) else (if a1 = 21 then (if ¬ (v 149 11).toNatClampNeg = sn then none else if a2 < 0 ∨ 10 ≤ a2.toNatClampNeg then none else some (v (sn + 1) a2.toNatClampNeg)) else (if a1 = 22 then (if ¬ (v 149 11).toNatClampNeg = sn then none else if a2 < 0 ∨ 10 ≤ a2.toNatClampNeg then none else if (v (sn + 3) a2.toNatClampNeg) = (-1) then (some 0) else (if ¬ (v 149 11).toNatClampNeg = sn then none else if a2 < 0 ∨ 10 ≤ a2.toNatClampNeg then none else some (v (sn + 4) a2.toNatClampNeg))) else (if a1 = 23 then (if ¬ (v 149 11).toNatClampNeg = sn then none else (f_State_age v sn a2).bind fun q86 => some q86) else (if ¬ (v 149 11).toNatClampNeg = sn then none else (f_State_debts z v sn a2).bind fun q105 => some q105))))
theorem c_Model_ofOne {sp : Nat} {sn : Nat} {a1 : Int32} {a2 : Int32} (hk : isModel sh sp) (hsn : isState sh sn) {q : Int32} (h : f_Model_ofOne z v sp sn a1 a2 = some q) : MetI l yX14_ofOne cX14_ofOne 3 (some .int) 2 Γ sh v w n [.ref (Γ.2.1 + 149), .int a1, .int a2] (fun x u => x = q ∧ u = v) := by
  unfold f_Model_ofOne at h
  refine w_start pn_X14 (Nat.le_of_ble_eq_true rfl) fun p e s m args below meth c hx hb hml hret hlk hnm hts hown hK hP hz hE hS ls hl => ?_
  refine lv_iload_n hx hb dX14_ofOne_0 rfl (lv_at hl 1 rfl) ?_
  by_cases hc1_6 : a1 = 6
  · have h := itt_e h hc1_6
    refine z_lI (y := 6) (tgt := 90) hx hb dX14_ofOne_1 hc1_6 rfl rfl rfl ?_
    refine lv_aload_n hx hb dX14_ofOne_90 rfl (lv_at hl 0 rfl) ?_
    obtain ⟨hn91, h⟩ := itn_e h
    refine w_gd2 (k := 149) (r := sn) hx hb hts hown hK hP fX14_37 hk.1 rfl (Decidable.not_not.mp hn91) dX14_ofOne_91 ?_
    refine w_gr (k := sn) (r := (sn + 6)) hx hb hts hown hK hP fX14_304 hsn.1 rfl dX14_ofOne_94 ?_
    refine lv_iload_n hx hb dX14_ofOne_97 rfl (lv_at hl 2 rfl) ?_
    obtain ⟨hn98, h⟩ := itn_e h
    refine w_iald (k := (sn + 6)) hx hb hK hP hsn.2.2.2.2.2.2.1 hn98 dX14_ofOne_98 ?_
    exact w_iret hx hb hret rfl hlk hK hP hS hz hE (q_p1 h) dX14_ofOne_99
  have h := itf_e h hc1_6
  by_cases hc1_21 : a1 = 21
  · have h := itt_e h hc1_21
    refine z_lI (y := 21) (tgt := 44) hx hb dX14_ofOne_1 hc1_21 rfl rfl rfl ?_
    refine lv_aload_n hx hb dX14_ofOne_44 rfl (lv_at hl 0 rfl) ?_
    obtain ⟨hn45, h⟩ := itn_e h
    refine w_gd2 (k := 149) (r := sn) hx hb hts hown hK hP fX14_37 hk.1 rfl (Decidable.not_not.mp hn45) dX14_ofOne_45 ?_
    refine w_gr (k := sn) (r := (sn + 1)) hx hb hts hown hK hP fX14_292 hsn.1 rfl dX14_ofOne_48 ?_
    refine lv_iload_n hx hb dX14_ofOne_51 rfl (lv_at hl 2 rfl) ?_
    obtain ⟨hn52, h⟩ := itn_e h
    refine w_iald (k := (sn + 1)) hx hb hK hP hsn.2.1 hn52 dX14_ofOne_52 ?_
    exact w_iret hx hb hret rfl hlk hK hP hS hz hE (q_p1 h) dX14_ofOne_53
  have h := itf_e h hc1_21
  by_cases hc1_22 : a1 = 22
  · have h := itt_e h hc1_22
    refine z_lI (y := 22) (tgt := 54) hx hb dX14_ofOne_1 hc1_22 rfl rfl rfl ?_
    refine lv_aload_n hx hb dX14_ofOne_54 rfl (lv_at hl 0 rfl) ?_
    obtain ⟨hn55, h⟩ := itn_e h
    refine w_gd2 (k := 149) (r := sn) hx hb hts hown hK hP fX14_37 hk.1 rfl (Decidable.not_not.mp hn55) dX14_ofOne_55 ?_
    refine w_gr (k := sn) (r := (sn + 3)) hx hb hts hown hK hP fX14_295 hsn.1 rfl dX14_ofOne_58 ?_
    refine lv_iload_n hx hb dX14_ofOne_61 rfl (lv_at hl 2 rfl) ?_
    obtain ⟨hn62, h⟩ := itn_e h
    refine w_iald (k := (sn + 3)) hx hb hK hP hsn.2.2.2.1 hn62 dX14_ofOne_62 ?_
    refine lv_iconst (v := (-1)) hx hb dX14_ofOne_63 rfl ?_
    refine lv_icmp_ne (tgt := 71) hx hb dX14_ofOne_64 rfl (fun hc64 => ?_) (fun hc64 => ?_)
    · have h := itf_e h hc64
      refine lv_aload_n hx hb dX14_ofOne_71 rfl (lv_at hl 0 rfl) ?_
      obtain ⟨hn72, h⟩ := itn_e h
      refine w_gd2 (k := 149) (r := sn) hx hb hts hown hK hP fX14_37 hk.1 rfl (Decidable.not_not.mp hn72) dX14_ofOne_72 ?_
      refine w_gr (k := sn) (r := (sn + 4)) hx hb hts hown hK hP fX14_298 hsn.1 rfl dX14_ofOne_75 ?_
      refine lv_iload_n hx hb dX14_ofOne_78 rfl (lv_at hl 2 rfl) ?_
      obtain ⟨hn79, h⟩ := itn_e h
      refine w_iald (k := (sn + 4)) hx hb hK hP hsn.2.2.2.2.1 hn79 dX14_ofOne_79 ?_
      exact w_iret hx hb hret rfl hlk hK hP hS hz hE (q_p1 h) dX14_ofOne_80
    · have h := itt_e h hc64
      refine lv_iconst (v := 0) hx hb dX14_ofOne_67 rfl ?_
      refine lv_goto (tgt := 80) hx hb dX14_ofOne_68 rfl ?_
      exact w_iret hx hb hret rfl hlk hK hP hS hz hE (q_p1 h) dX14_ofOne_80
  have h := itf_e h hc1_22
  by_cases hc1_23 : a1 = 23
  · have h := itt_e h hc1_23
    refine z_lI (y := 23) (tgt := 81) hx hb dX14_ofOne_1 hc1_23 rfl rfl rfl ?_
    refine lv_aload_n hx hb dX14_ofOne_81 rfl (lv_at hl 0 rfl) ?_
    obtain ⟨hn82, h⟩ := itn_e h
    refine w_gd2 (k := 149) (r := sn) hx hb hts hown hK hP fX14_37 hk.1 rfl (Decidable.not_not.mp hn82) dX14_ofOne_82 ?_
    refine lv_iload_n hx hb dX14_ofOne_85 rfl (lv_at hl 2 rfl) ?_
    obtain ⟨q86, e86, h⟩ := obn_e h
    refine z_Vi (k := sn) (r1 := q86) (v1 := v) hx hb hml hts hown hK hP hS hz hE (c_State_age hsn e86) kX13_age mX14_301 hsn.1 rfl rfl rfl hl.1 (Nat.le_of_ble_eq_true rfl) ⟨Nat.le_of_ble_eq_true rfl, Nat.le_of_ble_eq_true rfl⟩ ⟨Nat.le_refl _, Nat.le_refl _⟩ dX14_ofOne_86 fun H1 locs1 hz hP hS => ?_
    exact w_iret hx hb hret rfl hlk hK hP hS hz hE (q_p1 h) dX14_ofOne_89
  have h := itf_e h hc1_23
  refine z_lD (tgt := 100) hx hb [6, 21, 22, 23] dX14_ofOne_1 (q_nc hc1_6 (q_nc hc1_21 (q_nc hc1_22 (q_nc hc1_23 q_nn)))) (by decide) (by decide) rfl ?_
  refine lv_aload_n hx hb dX14_ofOne_100 rfl (lv_at hl 0 rfl) ?_
  obtain ⟨hn101, h⟩ := itn_e h
  refine w_gd2 (k := 149) (r := sn) hx hb hts hown hK hP fX14_37 hk.1 rfl (Decidable.not_not.mp hn101) dX14_ofOne_101 ?_
  refine lv_iload_n hx hb dX14_ofOne_104 rfl (lv_at hl 2 rfl) ?_
  obtain ⟨q105, e105, h⟩ := obn_e h
  refine z_Vi (k := sn) (r1 := q105) (v1 := v) hx hb hml hts hown hK hP hS hz hE (c_State_debts hsn e105) kX13_debts mX14_305 hsn.1 rfl rfl rfl hl.1 (Nat.le_of_ble_eq_true rfl) ⟨Nat.le_of_ble_eq_true rfl, Nat.le_of_ble_eq_true rfl⟩ ⟨Nat.le_refl _, Nat.le_refl _⟩ dX14_ofOne_105 fun H1 locs1 hz hP hS => ?_
  exact w_iret hx hb hret rfl hlk hK hP hS hz hE (q_p1 h) dX14_ofOne_108
end GE
