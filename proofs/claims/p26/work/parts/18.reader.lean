
section GE
variable {l : Launch} {Γ : Cx} {sh : Sh} {v : Va} {w : Vl} {n z : Nat}
def f_Reader_faultPlace (v : Va) : Option Int32 := if (v 12 7) = 0 then (some (-1)) else (bnd (row_g 401 (v 7) (v 12 8)) fun q22 => some q22)
theorem c_Reader_faultPlace (hk : isReader sh) {q : Int32} (h : f_Reader_faultPlace v = some q) : MetI l yX5_faultPlace cX5_faultPlace 1 (some .int) 1 Γ sh v w n [.ref (Γ.2.1 + 12)] (fun x u => x = q ∧ u = v) := by
  unfold f_Reader_faultPlace at h
  refine w_start pn_X5 (Nat.le_of_ble_eq_true rfl) fun p e s m args below meth c hx hb hml hret hlk hnm hts hown hK hP hz hE hS ls hl => ?_
  refine lv_aload_n hx hb dX5_faultPlace_0 rfl (lv_at hl 0 rfl) ?_
  refine w_gi (k := 12) hx hb hts hown hK hP fX5_42 hk.1 rfl dX5_faultPlace_1 ?_
  refine lv_if_ne (tgt := 11) hx hb dX5_faultPlace_4 rfl (fun hc4 => ?_) (fun hc4 => ?_)
  · have h := itf_e h hc4
    refine lv_aload_n hx hb dX5_faultPlace_11 rfl (lv_at hl 0 rfl) ?_
    refine w_gr (k := 12) (r := 3) hx hb hts hown hK hP fX5_7 hk.1 rfl dX5_faultPlace_12 ?_
    refine w_gr (k := 3) (r := 6) hx hb hts hown hK hP fX5_48 hk.2.2.1.1 rfl dX5_faultPlace_15 ?_
    refine lv_aload_n hx hb dX5_faultPlace_18 rfl (lv_at hl 0 rfl) ?_
    refine w_gi (k := 12) hx hb hts hown hK hP fX5_45 hk.1 rfl dX5_faultPlace_19 ?_
    obtain ⟨q22, e22, h⟩ := bnd_e h
    refine z_Vi (k := 6) (r1 := q22) (v1 := v) hx hb hml hts hown hK hP hS hz hE (C_Row_get hk.2.2.1.2.2.2.1 e22) kX7_get mX5_54 hk.2.2.1.2.2.2.1.1 rfl rfl rfl hl.1 (Nat.le_of_ble_eq_true rfl) ⟨Nat.le_of_ble_eq_true rfl, Nat.le_of_ble_eq_true rfl⟩ ⟨Nat.le_refl _, Nat.le_refl _⟩ dX5_faultPlace_22 fun H1 locs1 hz hP hS => ?_
    exact w_iret hx hb hret rfl hlk hK hP hS hz hE (q_p1 h) dX5_faultPlace_25
  · have h := itt_e h hc4
    refine lv_iconst (v := (-1)) hx hb dX5_faultPlace_7 rfl ?_
    refine lv_goto (tgt := 25) hx hb dX5_faultPlace_8 rfl ?_
    exact w_iret hx hb hret rfl hlk hK hP hS hz hE (q_p1 h) dX5_faultPlace_25
def f_Reader_begin (v : Va) : Option Va := bnd (pu v 12 6 0) fun v2 => bnd (pu v2 12 7 0) fun v7 => bnd (pu v7 12 8 0) fun v12 => (f_Names_forget v12 49 4).bind fun q19 => (f_Names_forget q19 52 4).bind fun q26 => (f_Names_forget q26 55 6).bind fun q33 => (f_Names_forget q33 58 10).bind fun q40 => bnd (pu q40 13 4 0) fun v48 => bnd (pu v48 42 0 0) fun v59 => some v59
theorem c_Reader_begin (hk : isReader sh) {q : Va} (h : f_Reader_begin v = some q) : MetV l yX5_begin cX5_begin 1 none 1 Γ sh v w n [.ref (Γ.2.1 + 12)] (fun u => u = q) := by
  unfold f_Reader_begin at h
  refine w_start pn_X5 (Nat.le_of_ble_eq_true rfl) fun p e s m args below meth c hx hb hml hret hlk hnm hts hown hK hP hz hE hS ls hl => ?_
  refine lv_aload_n hx hb dX5_begin_0 rfl (lv_at hl 0 rfl) ?_
  refine lv_iconst (v := 0) hx hb dX5_begin_1 rfl ?_
  obtain ⟨v2, e2, h⟩ := bnd_e h
  refine w_pi2 (k := 12) hx hb hts hown hK hP hS hz fX5_38 hk.1 rfl e2 dX5_begin_2 fun H1 locs1 hz hP hS => ?_
  refine lv_aload_n hx hb dX5_begin_5 rfl (lv_at hl 0 rfl) ?_
  refine lv_iconst (v := 0) hx hb dX5_begin_6 rfl ?_
  obtain ⟨v7, e7, h⟩ := bnd_e h
  refine w_pi2 (k := 12) hx hb hts hown hK hP hS hz fX5_42 hk.1 rfl e7 dX5_begin_7 fun H1 locs1 hz hP hS => ?_
  refine lv_aload_n hx hb dX5_begin_10 rfl (lv_at hl 0 rfl) ?_
  refine lv_iconst (v := 0) hx hb dX5_begin_11 rfl ?_
  obtain ⟨v12, e12, h⟩ := bnd_e h
  refine w_pi2 (k := 12) hx hb hts hown hK hP hS hz fX5_45 hk.1 rfl e12 dX5_begin_12 fun H1 locs1 hz hP hS => ?_
  refine lv_aload_n hx hb dX5_begin_15 rfl (lv_at hl 0 rfl) ?_
  refine w_gr (k := 12) (r := 49) hx hb hts hown hK hP fX5_25 hk.1 rfl dX5_begin_16 ?_
  obtain ⟨q19, e19, h⟩ := obn_e h
  refine z_Vv (k := 49) (v1 := q19) hx hb hml hts hown hK hP hS hz hE (c_Names_forget hk.2.2.2.1 e19) kX3_forget mX5_101 hk.2.2.2.1.1 rfl rfl rfl hl.1 (Nat.le_of_ble_eq_true rfl) ⟨Nat.le_of_ble_eq_true rfl, Nat.le_of_ble_eq_true rfl⟩ ⟨Nat.le_refl _, Nat.le_refl _⟩ dX5_begin_19 fun H1 locs1 hz hP hS => ?_
  refine lv_aload_n hx hb dX5_begin_22 rfl (lv_at hl 0 rfl) ?_
  refine w_gr (k := 12) (r := 52) hx hb hts hown hK hP fX5_29 hk.1 rfl dX5_begin_23 ?_
  obtain ⟨q26, e26, h⟩ := obn_e h
  refine z_Vv (k := 52) (v1 := q26) hx hb hml hts hown hK hP hS hz hE (c_Names_forget hk.2.2.2.2.1 e26) kX3_forget mX5_101 hk.2.2.2.2.1.1 rfl rfl rfl hl.1 (Nat.le_of_ble_eq_true rfl) ⟨Nat.le_of_ble_eq_true rfl, Nat.le_of_ble_eq_true rfl⟩ ⟨Nat.le_refl _, Nat.le_refl _⟩ dX5_begin_26 fun H1 locs1 hz hP hS => ?_
  refine lv_aload_n hx hb dX5_begin_29 rfl (lv_at hl 0 rfl) ?_
  refine w_gr (k := 12) (r := 55) hx hb hts hown hK hP fX5_32 hk.1 rfl dX5_begin_30 ?_
  obtain ⟨q33, e33, h⟩ := obn_e h
  refine z_Vv (k := 55) (v1 := q33) hx hb hml hts hown hK hP hS hz hE (c_Names_forget hk.2.2.2.2.2.1 e33) kX3_forget mX5_101 hk.2.2.2.2.2.1.1 rfl rfl rfl hl.1 (Nat.le_of_ble_eq_true rfl) ⟨Nat.le_of_ble_eq_true rfl, Nat.le_of_ble_eq_true rfl⟩ ⟨Nat.le_refl _, Nat.le_refl _⟩ dX5_begin_33 fun H1 locs1 hz hP hS => ?_
  refine lv_aload_n hx hb dX5_begin_36 rfl (lv_at hl 0 rfl) ?_
  refine w_gr (k := 12) (r := 58) hx hb hts hown hK hP fX5_35 hk.1 rfl dX5_begin_37 ?_
  obtain ⟨q40, e40, h⟩ := obn_e h
  refine z_Vv (k := 58) (v1 := q40) hx hb hml hts hown hK hP hS hz hE (c_Names_forget hk.2.2.2.2.2.2 e40) kX3_forget mX5_101 hk.2.2.2.2.2.2.1 rfl rfl rfl hl.1 (Nat.le_of_ble_eq_true rfl) ⟨Nat.le_of_ble_eq_true rfl, Nat.le_of_ble_eq_true rfl⟩ ⟨Nat.le_refl _, Nat.le_refl _⟩ dX5_begin_40 fun H1 locs1 hz hP hS => ?_
  refine lv_aload_n hx hb dX5_begin_43 rfl (lv_at hl 0 rfl) ?_
  refine w_gr (k := 12) (r := 13) hx hb hts hown hK hP fX5_16 hk.1 rfl dX5_begin_44 ?_
  refine lv_iconst (v := 0) hx hb dX5_begin_47 rfl ?_
  obtain ⟨v48, e48, h⟩ := bnd_e h
  refine w_pi2 (k := 13) hx hb hts hown hK hP hS hz fX5_104 hk.2.1.1 rfl e48 dX5_begin_48 fun H1 locs1 hz hP hS => ?_
  refine lv_aload_n hx hb dX5_begin_51 rfl (lv_at hl 0 rfl) ?_
  refine w_gr (k := 12) (r := 13) hx hb hts hown hK hP fX5_16 hk.1 rfl dX5_begin_52 ?_
  refine w_gr (k := 13) (r := 42) hx hb hts hown hK hP fX5_107 hk.2.1.1 rfl dX5_begin_55 ?_
  refine lv_iconst (v := 0) hx hb dX5_begin_58 rfl ?_
  obtain ⟨v59, e59, h⟩ := bnd_e h
  refine w_pi2 (k := 42) hx hb hts hown hK hP hS hz fX5_111 hk.2.1.2.2.2.2.2.2.2.2.2.2.2.2.2.2.2.1 rfl e59 dX5_begin_59 fun H1 locs1 hz hP hS => ?_
  exact w_vret hx hb hret hlk hK hP hS hz hE (Option.some.inj h) dX5_begin_62
def f_Reader_seen (v : Va) : Option Int32 := if (v 12 7) = 1 then (some 50) else (bnd (row_g 401 (v 5) (v 12 6)) fun q24 => some q24)
theorem c_Reader_seen (hk : isReader sh) {q : Int32} (h : f_Reader_seen v = some q) : MetI l yX5_seen cX5_seen 1 (some .int) 1 Γ sh v w n [.ref (Γ.2.1 + 12)] (fun x u => x = q ∧ u = v) := by
  unfold f_Reader_seen at h
  refine w_start pn_X5 (Nat.le_of_ble_eq_true rfl) fun p e s m args below meth c hx hb hml hret hlk hnm hts hown hK hP hz hE hS ls hl => ?_
  refine lv_aload_n hx hb dX5_seen_0 rfl (lv_at hl 0 rfl) ?_
  refine w_gi (k := 12) hx hb hts hown hK hP fX5_42 hk.1 rfl dX5_seen_1 ?_
  refine lv_iconst (v := 1) hx hb dX5_seen_4 rfl ?_
  refine lv_icmp_ne (tgt := 13) hx hb dX5_seen_5 rfl (fun hc5 => ?_) (fun hc5 => ?_)
  · have h := itf_e h hc5
    refine lv_aload_n hx hb dX5_seen_13 rfl (lv_at hl 0 rfl) ?_
    refine w_gr (k := 12) (r := 3) hx hb hts hown hK hP fX5_7 hk.1 rfl dX5_seen_14 ?_
    refine w_gr (k := 3) (r := 4) hx hb hts hown hK hP fX5_222 hk.2.2.1.1 rfl dX5_seen_17 ?_
    refine lv_aload_n hx hb dX5_seen_20 rfl (lv_at hl 0 rfl) ?_
    refine w_gi (k := 12) hx hb hts hown hK hP fX5_38 hk.1 rfl dX5_seen_21 ?_
    obtain ⟨q24, e24, h⟩ := bnd_e h
    refine z_Vi (k := 4) (r1 := q24) (v1 := v) hx hb hml hts hown hK hP hS hz hE (C_Row_get hk.2.2.1.2.2.1 e24) kX7_get mX5_54 hk.2.2.1.2.2.1.1 rfl rfl rfl hl.1 (Nat.le_of_ble_eq_true rfl) ⟨Nat.le_of_ble_eq_true rfl, Nat.le_of_ble_eq_true rfl⟩ ⟨Nat.le_refl _, Nat.le_refl _⟩ dX5_seen_24 fun H1 locs1 hz hP hS => ?_
    exact w_iret hx hb hret rfl hlk hK hP hS hz hE (q_p1 h) dX5_seen_27
  · have h := itt_e h hc5
    refine lv_bipush (v := 50) hx hb dX5_seen_8 rfl ?_
    refine lv_goto (tgt := 27) hx hb dX5_seen_10 rfl ?_
    exact w_iret hx hb hret rfl hlk hK hP hS hz hE (q_p1 h) dX5_seen_27
def f_Reader_fail (v : Va) : Option Va := if (v 12 7) = 1 then (some v) else (bnd (pu v 12 7 1) fun v10 => bnd (pu v10 12 8 (v10 12 6)) fun v18 => some v18)
theorem c_Reader_fail (hk : isReader sh) {q : Va} (h : f_Reader_fail v = some q) : MetV l yX5_fail cX5_fail 1 none 0 Γ sh v w n [.ref (Γ.2.1 + 12)] (fun u => u = q) := by
  unfold f_Reader_fail at h
  refine w_start pn_X5 (Nat.le_of_ble_eq_true rfl) fun p e s m args below meth c hx hb hml hret hlk hnm hts hown hK hP hz hE hS ls hl => ?_
  refine lv_aload_n hx hb dX5_fail_0 rfl (lv_at hl 0 rfl) ?_
  refine w_gi (k := 12) hx hb hts hown hK hP fX5_42 hk.1 rfl dX5_fail_1 ?_
  refine lv_iconst (v := 1) hx hb dX5_fail_4 rfl ?_
  refine lv_icmp_eq (tgt := 21) hx hb dX5_fail_5 rfl (fun hc5 => ?_) (fun hc5 => ?_)
  · have h := itt_e h hc5
    exact w_vret hx hb hret hlk hK hP hS hz hE (Option.some.inj h) dX5_fail_21
  · have h := itf_e h hc5
    refine lv_aload_n hx hb dX5_fail_8 rfl (lv_at hl 0 rfl) ?_
    refine lv_iconst (v := 1) hx hb dX5_fail_9 rfl ?_
    obtain ⟨v10, e10, h⟩ := bnd_e h
    refine w_pi2 (k := 12) hx hb hts hown hK hP hS hz fX5_42 hk.1 rfl e10 dX5_fail_10 fun H1 locs1 hz hP hS => ?_
    refine lv_aload_n hx hb dX5_fail_13 rfl (lv_at hl 0 rfl) ?_
    refine lv_aload_n hx hb dX5_fail_14 rfl (lv_at hl 0 rfl) ?_
    refine w_gi (k := 12) hx hb hts hown hK hP fX5_38 hk.1 rfl dX5_fail_15 ?_
    obtain ⟨v18, e18, h⟩ := bnd_e h
    refine w_pi2 (k := 12) hx hb hts hown hK hP hS hz fX5_45 hk.1 rfl e18 dX5_fail_18 fun H1 locs1 hz hP hS => ?_
    exact w_vret hx hb hret hlk hK hP hS hz hE (Option.some.inj h) dX5_fail_21
def f_Reader_take (v : Va) (a1 : Int32) : Option Va := (f_Reader_seen v).bind fun q1 => if q1 = a1 then (bnd (pu v 12 6 ((v 12 6) + 1)) fun v15 => some v15) else ((f_Reader_fail v).bind fun q22 => some q22)
theorem c_Reader_take {a1 : Int32} (hk : isReader sh) {q : Va} (h : f_Reader_take v a1 = some q) : MetV l yX5_take cX5_take 2 none 2 Γ sh v w n [.ref (Γ.2.1 + 12), .int a1] (fun u => u = q) := by
  unfold f_Reader_take at h
  refine w_start pn_X5 (Nat.le_of_ble_eq_true rfl) fun p e s m args below meth c hx hb hml hret hlk hnm hts hown hK hP hz hE hS ls hl => ?_
  refine lv_aload_n hx hb dX5_take_0 rfl (lv_at hl 0 rfl) ?_
  obtain ⟨q1, e1, h⟩ := obn_e h
  refine z_Vi (k := 12) (r1 := q1) (v1 := v) hx hb hml hts hown hK hP hS hz hE (c_Reader_seen hk e1) kX5_seen mX5_63 hk.1 rfl rfl rfl hl.1 (Nat.le_of_ble_eq_true rfl) ⟨Nat.le_of_ble_eq_true rfl, Nat.le_of_ble_eq_true rfl⟩ ⟨Nat.le_refl _, Nat.le_refl _⟩ dX5_take_1 fun H1 locs1 hz hP hS => ?_
  refine lv_iload_n hx hb dX5_take_4 rfl (lv_at hl 1 rfl) ?_
  refine lv_icmp_ne (tgt := 21) hx hb dX5_take_5 rfl (fun hc5 => ?_) (fun hc5 => ?_)
  · have h := itf_e h hc5
    refine lv_aload_n hx hb dX5_take_21 rfl (lv_at hl 0 rfl) ?_
    obtain ⟨q22, e22, h⟩ := obn_e h
    refine z_Vv (k := 12) (v1 := q22) hx hb hml hts hown hK hP hS hz hE (c_Reader_fail hk e22) kX5_fail mX5_84 hk.1 rfl rfl rfl hl.1 (Nat.le_of_ble_eq_true rfl) ⟨Nat.le_of_ble_eq_true rfl, Nat.le_of_ble_eq_true rfl⟩ ⟨Nat.le_refl _, Nat.le_refl _⟩ dX5_take_22 fun H1 locs1 hz hP hS => ?_
    exact w_vret hx hb hret hlk hK hP hS hz hE (Option.some.inj h) dX5_take_25
  · have h := itt_e h hc5
    refine lv_aload_n hx hb dX5_take_8 rfl (lv_at hl 0 rfl) ?_
    refine lv_dup hx hb dX5_take_9 rfl ?_
    refine w_gi (k := 12) hx hb hts hown hK hP fX5_38 hk.1 rfl dX5_take_10 ?_
    refine lv_iconst (v := 1) hx hb dX5_take_13 rfl ?_
    refine lv_iadd hx hb dX5_take_14 ?_
    obtain ⟨v15, e15, h⟩ := bnd_e h
    refine w_pi2 (k := 12) hx hb hts hown hK hP hS hz fX5_38 hk.1 rfl e15 dX5_take_15 fun H1 locs1 hz hP hS => ?_
    refine lv_goto (tgt := 25) hx hb dX5_take_18 rfl ?_
    exact w_vret hx hb hret hlk hK hP hS hz hE (Option.some.inj h) dX5_take_25
def f_Reader_blame (v : Va) (a1 : Int32) (a2 : Int32) : Option Va := if (v 12 7) = 0 then (bnd (pu v 12 7 a1) fun v9 => bnd (pu v9 12 8 a2) fun v14 => some v14) else (some v)
theorem c_Reader_blame {a1 : Int32} {a2 : Int32} (hk : isReader sh) {q : Va} (h : f_Reader_blame v a1 a2 = some q) : MetV l yX5_blame cX5_blame 3 none 0 Γ sh v w n [.ref (Γ.2.1 + 12), .int a1, .int a2] (fun u => u = q) := by
  unfold f_Reader_blame at h
  refine w_start pn_X5 (Nat.le_of_ble_eq_true rfl) fun p e s m args below meth c hx hb hml hret hlk hnm hts hown hK hP hz hE hS ls hl => ?_
  refine lv_aload_n hx hb dX5_blame_0 rfl (lv_at hl 0 rfl) ?_
  refine w_gi (k := 12) hx hb hts hown hK hP fX5_42 hk.1 rfl dX5_blame_1 ?_
  refine lv_if_ne (tgt := 17) hx hb dX5_blame_4 rfl (fun hc4 => ?_) (fun hc4 => ?_)
  · have h := itf_e h hc4
    exact w_vret hx hb hret hlk hK hP hS hz hE (Option.some.inj h) dX5_blame_17
  · have h := itt_e h hc4
    refine lv_aload_n hx hb dX5_blame_7 rfl (lv_at hl 0 rfl) ?_
    refine lv_iload_n hx hb dX5_blame_8 rfl (lv_at hl 1 rfl) ?_
    obtain ⟨v9, e9, h⟩ := bnd_e h
    refine w_pi2 (k := 12) hx hb hts hown hK hP hS hz fX5_42 hk.1 rfl e9 dX5_blame_9 fun H1 locs1 hz hP hS => ?_
    refine lv_aload_n hx hb dX5_blame_12 rfl (lv_at hl 0 rfl) ?_
    refine lv_iload_n hx hb dX5_blame_13 rfl (lv_at hl 2 rfl) ?_
    obtain ⟨v14, e14, h⟩ := bnd_e h
    refine w_pi2 (k := 12) hx hb hts hown hK hP hS hz fX5_45 hk.1 rfl e14 dX5_blame_14 fun H1 locs1 hz hP hS => ?_
    exact w_vret hx hb hret hlk hK hP hS hz hE (Option.some.inj h) dX5_blame_17
def f_Reader_takeNewName (z : Nat) (v : Va) (k1 : Nat) (N1 : Nat) : Option (Int32 × Va) := (f_Reader_seen v).bind fun q1 => if q1 = 47 then (bnd (pu v 12 6 ((v 12 6) + 1)) fun v27 => bnd (row_g 401 (v27 11) (v 12 6)) fun q38 => (f_Names_find z v27 k1 N1 q38).bind fun q44 => if q44 < 0 then ((f_Names_isFull v27 k1 N1).bind fun q59 => if (q_b q59) = 0 then ((f_Names_add v27 k1 N1 q38).bind fun q75 => some (q75.1, q75.2)) else ((f_Reader_blame v27 4 (v 12 6)).bind fun q68 => some ((-1), q68))) else ((f_Reader_blame v27 2 (v 12 6)).bind fun q53 => some ((-1), q53))) else ((f_Reader_fail v).bind fun q10 => some ((-1), q10))
theorem c_Reader_takeNewName {k1 : Nat} {N1 : Nat} (hk : isReader sh) (hk1 : isNames sh k1 N1) {q : Int32 × Va} (h : f_Reader_takeNewName z v k1 N1 = some q) : MetI l yX5_takeNewName cX5_takeNewName 4 (some .int) 2 Γ sh v w n [.ref (Γ.2.1 + 12), .ref (Γ.2.1 + k1)] (fun x u => x = q.1 ∧ u = q.2) := by
  unfold f_Reader_takeNewName at h
  refine w_start pn_X5 (Nat.le_of_ble_eq_true rfl) fun p e s m args below meth c hx hb hml hret hlk hnm hts hown hK hP hz hE hS ls hl => ?_
  refine lv_aload_n hx hb dX5_takeNewName_0 rfl (lv_at hl 0 rfl) ?_
  obtain ⟨q1, e1, h⟩ := obn_e h
  refine z_Vi (k := 12) (r1 := q1) (v1 := v) hx hb hml hts hown hK hP hS hz hE (c_Reader_seen hk e1) kX5_seen mX5_63 hk.1 rfl rfl rfl hl.1 (Nat.le_of_ble_eq_true rfl) ⟨Nat.le_of_ble_eq_true rfl, Nat.le_of_ble_eq_true rfl⟩ ⟨Nat.le_refl _, Nat.le_refl _⟩ dX5_takeNewName_1 fun H1 locs1 hz hP hS => ?_
  refine lv_bipush (v := 47) hx hb dX5_takeNewName_4 rfl ?_
  refine lv_icmp_eq (tgt := 15) hx hb dX5_takeNewName_6 rfl (fun hc6 => ?_) (fun hc6 => ?_)
  · have h := itt_e h hc6
    refine lv_aload_n hx hb dX5_takeNewName_15 rfl (lv_at hl 0 rfl) ?_
    refine w_gi (k := 12) hx hb hts hown hK hP fX5_38 hk.1 rfl dX5_takeNewName_16 ?_
    refine lv_istore_n (lv' := [(2, .int (v 12 6)), (0, .ref (Γ.2.1 + 12)), (1, .ref (Γ.2.1 + k1))]) hx hb dX5_takeNewName_19 rfl hl (by decide) rfl fun ls hl => ?_
    refine lv_aload_n hx hb dX5_takeNewName_20 rfl (lv_at hl 1 rfl) ?_
    refine lv_dup hx hb dX5_takeNewName_21 rfl ?_
    refine w_gi (k := 12) hx hb hts hown hK hP fX5_38 hk.1 rfl dX5_takeNewName_22 ?_
    refine lv_iconst (v := 1) hx hb dX5_takeNewName_25 rfl ?_
    refine lv_iadd hx hb dX5_takeNewName_26 ?_
    obtain ⟨v27, e27, h⟩ := bnd_e h
    refine w_pi2 (k := 12) hx hb hts hown hK hP hS hz fX5_38 hk.1 rfl e27 dX5_takeNewName_27 fun H1 locs1 hz hP hS => ?_
    refine lv_aload_n hx hb dX5_takeNewName_30 rfl (lv_at hl 1 rfl) ?_
    refine w_gr (k := 12) (r := 3) hx hb hts hown hK hP fX5_7 hk.1 rfl dX5_takeNewName_31 ?_
    refine w_gr (k := 3) (r := 10) hx hb hts hown hK hP fX5_229 hk.2.2.1.1 rfl dX5_takeNewName_34 ?_
    refine lv_iload_n hx hb dX5_takeNewName_37 rfl (lv_at hl 0 rfl) ?_
    obtain ⟨q38, e38, h⟩ := bnd_e h
    refine z_Vi (k := 10) (r1 := q38) (v1 := v27) hx hb hml hts hown hK hP hS hz hE (C_Row_get hk.2.2.1.2.2.2.2.2 e38) kX7_get mX5_54 hk.2.2.1.2.2.2.2.2.1 rfl rfl rfl hl.1 (Nat.le_of_ble_eq_true rfl) ⟨Nat.le_of_ble_eq_true rfl, Nat.le_of_ble_eq_true rfl⟩ ⟨Nat.le_refl _, Nat.le_refl _⟩ dX5_takeNewName_38 fun H1 locs1 hz hP hS => ?_
    refine lv_istore_n (lv' := [(3, .int q38), (2, .int (v 12 6)), (0, .ref (Γ.2.1 + 12)), (1, .ref (Γ.2.1 + k1))]) hx hb dX5_takeNewName_41 rfl hl (by decide) rfl fun ls hl => ?_
    refine lv_aload_n hx hb dX5_takeNewName_42 rfl (lv_at hl 3 rfl) ?_
    refine lv_iload_n hx hb dX5_takeNewName_43 rfl (lv_at hl 0 rfl) ?_
    obtain ⟨q44, e44, h⟩ := obn_e h
    refine z_Vi (k := k1) (r1 := q44) (v1 := v27) hx hb hml hts hown hK hP hS hz hE (c_Names_find hk1 e44) kX3_find mX5_231 hk1.1 rfl rfl rfl hl.1 (Nat.le_of_ble_eq_true rfl) ⟨Nat.le_of_ble_eq_true rfl, Nat.le_of_ble_eq_true rfl⟩ ⟨Nat.le_refl _, Nat.le_refl _⟩ dX5_takeNewName_44 fun H1 locs1 hz hP hS => ?_
    refine lv_if_lt (tgt := 58) hx hb dX5_takeNewName_47 rfl (fun hc47 => ?_) (fun hc47 => ?_)
    · have h := itt_e h hc47
      refine lv_aload_n hx hb dX5_takeNewName_58 rfl (lv_at hl 3 rfl) ?_
      obtain ⟨q59, e59, h⟩ := obn_e h
      refine z_Vi (k := k1) (r1 := (q_b q59)) (v1 := v27) hx hb hml hts hown hK hP hS hz hE (c_Names_isFull hk1 e59) kX3_isFull mX5_234 hk1.1 rfl rfl rfl hl.1 (Nat.le_of_ble_eq_true rfl) ⟨Nat.le_of_ble_eq_true rfl, Nat.le_of_ble_eq_true rfl⟩ ⟨Nat.le_refl _, Nat.le_refl _⟩ dX5_takeNewName_59 fun H1 locs1 hz hP hS => ?_
      refine lv_if_eq (tgt := 73) hx hb dX5_takeNewName_62 rfl (fun hc62 => ?_) (fun hc62 => ?_)
      · have h := itt_e h hc62
        refine lv_aload_n hx hb dX5_takeNewName_73 rfl (lv_at hl 3 rfl) ?_
        refine lv_iload_n hx hb dX5_takeNewName_74 rfl (lv_at hl 0 rfl) ?_
        obtain ⟨q75, e75, h⟩ := obn_e h
        refine z_Vi (k := k1) (r1 := q75.1) (v1 := q75.2) hx hb hml hts hown hK hP hS hz hE (c_Names_add hk1 e75) kX3_add mX5_238 hk1.1 rfl rfl rfl hl.1 (Nat.le_of_ble_eq_true rfl) ⟨Nat.le_of_ble_eq_true rfl, Nat.le_of_ble_eq_true rfl⟩ ⟨Nat.le_refl _, Nat.le_refl _⟩ dX5_takeNewName_75 fun H1 locs1 hz hP hS => ?_
        exact w_iret hx hb hret rfl hlk hK hP hS hz hE (q_p2 h) dX5_takeNewName_78
      · have h := itf_e h hc62
        refine lv_aload_n hx hb dX5_takeNewName_65 rfl (lv_at hl 2 rfl) ?_
        refine lv_iconst (v := 4) hx hb dX5_takeNewName_66 rfl ?_
        refine lv_iload_n hx hb dX5_takeNewName_67 rfl (lv_at hl 1 rfl) ?_
        obtain ⟨q68, e68, h⟩ := obn_e h
        refine z_Vv (k := 12) (v1 := q68) hx hb hml hts hown hK hP hS hz hE (c_Reader_blame hk e68) kX5_blame mX5_154 hk.1 rfl rfl rfl hl.1 (Nat.le_of_ble_eq_true rfl) ⟨Nat.le_of_ble_eq_true rfl, Nat.le_of_ble_eq_true rfl⟩ ⟨Nat.le_refl _, Nat.le_refl _⟩ dX5_takeNewName_68 fun H1 locs1 hz hP hS => ?_
        refine lv_iconst (v := (-1)) hx hb dX5_takeNewName_71 rfl ?_
        exact w_iret hx hb hret rfl hlk hK hP hS hz hE (q_p2 h) dX5_takeNewName_72
    · have h := itf_e h hc47
      refine lv_aload_n hx hb dX5_takeNewName_50 rfl (lv_at hl 2 rfl) ?_
      refine lv_iconst (v := 2) hx hb dX5_takeNewName_51 rfl ?_
      refine lv_iload_n hx hb dX5_takeNewName_52 rfl (lv_at hl 1 rfl) ?_
      obtain ⟨q53, e53, h⟩ := obn_e h
      refine z_Vv (k := 12) (v1 := q53) hx hb hml hts hown hK hP hS hz hE (c_Reader_blame hk e53) kX5_blame mX5_154 hk.1 rfl rfl rfl hl.1 (Nat.le_of_ble_eq_true rfl) ⟨Nat.le_of_ble_eq_true rfl, Nat.le_of_ble_eq_true rfl⟩ ⟨Nat.le_refl _, Nat.le_refl _⟩ dX5_takeNewName_53 fun H1 locs1 hz hP hS => ?_
      refine lv_iconst (v := (-1)) hx hb dX5_takeNewName_56 rfl ?_
      exact w_iret hx hb hret rfl hlk hK hP hS hz hE (q_p2 h) dX5_takeNewName_57
  · have h := itf_e h hc6
    refine lv_aload_n hx hb dX5_takeNewName_9 rfl (lv_at hl 0 rfl) ?_
    obtain ⟨q10, e10, h⟩ := obn_e h
    refine z_Vv (k := 12) (v1 := q10) hx hb hml hts hown hK hP hS hz hE (c_Reader_fail hk e10) kX5_fail mX5_84 hk.1 rfl rfl rfl hl.1 (Nat.le_of_ble_eq_true rfl) ⟨Nat.le_of_ble_eq_true rfl, Nat.le_of_ble_eq_true rfl⟩ ⟨Nat.le_refl _, Nat.le_refl _⟩ dX5_takeNewName_10 fun H1 locs1 hz hP hS => ?_
    refine lv_iconst (v := (-1)) hx hb dX5_takeNewName_13 rfl ?_
    exact w_iret hx hb hret rfl hlk hK hP hS hz hE (q_p2 h) dX5_takeNewName_14
def j_Reader_takeNumber_55 (v : Va) (v27 : Va) (q38 : Int32) : Option (Int32 × Va) := (f_Reader_blame v27 5 (v 12 6)).bind fun q58 => some (q38, q58)
def f_Reader_takeNumber (v : Va) (a1 : Int32) (a2 : Int32) : Option (Int32 × Va) := (f_Reader_seen v).bind fun q1 => if q1 = 48 then (bnd (pu v 12 6 ((v 12 6) + 1)) fun v27 => bnd (row_g 401 (v27 11) (v 12 6)) fun q38 => if q38 < a1 then (j_Reader_takeNumber_55 v v27 q38) else (if q38 ≤ a2 then (some (q38, v27)) else (j_Reader_takeNumber_55 v v27 q38))) else ((f_Reader_fail v).bind fun q10 => some (0, q10))
theorem c_Reader_takeNumber {a1 : Int32} {a2 : Int32} (hk : isReader sh) {q : Int32 × Va} (h : f_Reader_takeNumber v a1 a2 = some q) : MetI l yX5_takeNumber cX5_takeNumber 5 (some .int) 2 Γ sh v w n [.ref (Γ.2.1 + 12), .int a1, .int a2] (fun x u => x = q.1 ∧ u = q.2) := by
  unfold f_Reader_takeNumber at h
  refine w_start pn_X5 (Nat.le_of_ble_eq_true rfl) fun p e s m args below meth c hx hb hml hret hlk hnm hts hown hK hP hz hE hS ls hl => ?_
  refine lv_aload_n hx hb dX5_takeNumber_0 rfl (lv_at hl 0 rfl) ?_
  obtain ⟨q1, e1, h⟩ := obn_e h
  refine z_Vi (k := 12) (r1 := q1) (v1 := v) hx hb hml hts hown hK hP hS hz hE (c_Reader_seen hk e1) kX5_seen mX5_63 hk.1 rfl rfl rfl hl.1 (Nat.le_of_ble_eq_true rfl) ⟨Nat.le_of_ble_eq_true rfl, Nat.le_of_ble_eq_true rfl⟩ ⟨Nat.le_refl _, Nat.le_refl _⟩ dX5_takeNumber_1 fun H1 locs1 hz hP hS => ?_
  refine lv_bipush (v := 48) hx hb dX5_takeNumber_4 rfl ?_
  refine lv_icmp_eq (tgt := 15) hx hb dX5_takeNumber_6 rfl (fun hc6 => ?_) (fun hc6 => ?_)
  · have h := itt_e h hc6
    refine lv_aload_n hx hb dX5_takeNumber_15 rfl (lv_at hl 0 rfl) ?_
    refine w_gi (k := 12) hx hb hts hown hK hP fX5_38 hk.1 rfl dX5_takeNumber_16 ?_
    refine lv_istore_n (lv' := [(3, .int (v 12 6)), (0, .ref (Γ.2.1 + 12)), (1, .int a1), (2, .int a2)]) hx hb dX5_takeNumber_19 rfl hl (by decide) rfl fun ls hl => ?_
    refine lv_aload_n hx hb dX5_takeNumber_20 rfl (lv_at hl 1 rfl) ?_
    refine lv_dup hx hb dX5_takeNumber_21 rfl ?_
    refine w_gi (k := 12) hx hb hts hown hK hP fX5_38 hk.1 rfl dX5_takeNumber_22 ?_
    refine lv_iconst (v := 1) hx hb dX5_takeNumber_25 rfl ?_
    refine lv_iadd hx hb dX5_takeNumber_26 ?_
    obtain ⟨v27, e27, h⟩ := bnd_e h
    refine w_pi2 (k := 12) hx hb hts hown hK hP hS hz fX5_38 hk.1 rfl e27 dX5_takeNumber_27 fun H1 locs1 hz hP hS => ?_
    refine lv_aload_n hx hb dX5_takeNumber_30 rfl (lv_at hl 1 rfl) ?_
    refine w_gr (k := 12) (r := 3) hx hb hts hown hK hP fX5_7 hk.1 rfl dX5_takeNumber_31 ?_
    refine w_gr (k := 3) (r := 10) hx hb hts hown hK hP fX5_229 hk.2.2.1.1 rfl dX5_takeNumber_34 ?_
    refine lv_iload_n hx hb dX5_takeNumber_37 rfl (lv_at hl 0 rfl) ?_
    obtain ⟨q38, e38, h⟩ := bnd_e h
    refine z_Vi (k := 10) (r1 := q38) (v1 := v27) hx hb hml hts hown hK hP hS hz hE (C_Row_get hk.2.2.1.2.2.2.2.2 e38) kX7_get mX5_54 hk.2.2.1.2.2.2.2.2.1 rfl rfl rfl hl.1 (Nat.le_of_ble_eq_true rfl) ⟨Nat.le_of_ble_eq_true rfl, Nat.le_of_ble_eq_true rfl⟩ ⟨Nat.le_refl _, Nat.le_refl _⟩ dX5_takeNumber_38 fun H1 locs1 hz hP hS => ?_
    refine lv_istore (lv' := [(4, .int q38), (3, .int (v 12 6)), (0, .ref (Γ.2.1 + 12)), (1, .int a1), (2, .int a2)]) hx hb dX5_takeNumber_41 hl (by decide) rfl fun ls hl => ?_
    refine lv_iload hx hb dX5_takeNumber_43 (lv_at hl 0 rfl) ?_
    refine lv_iload_n hx hb dX5_takeNumber_45 rfl (lv_at hl 3 rfl) ?_
    have J55 : (j_Reader_takeNumber_55 v v27 q38) = some q → ∀ (H1 : Heap) (locs1 : List Loc) (ls1 : Array Slot), lv_has ls1 5 [(0, .ref (Γ.2.1 + 12)), (3, .int (v 12 6)), (4, .int q38)] → Wd Γ sh v27 w H1 → va_S (gA Γ sh n) s.heap H1 locs1 → H1.size = Γ.2.1 + n → wpI Γ sh w n 2 (fun x u => x = q.1 ∧ u = q.2) p l e s m args below meth c H1 locs1 (F0 m 55 ls1 []) := by
      intro  h H1 locs1 ls hl hP hS hz
      unfold j_Reader_takeNumber_55 at h
      refine lv_aload_n hx hb dX5_takeNumber_55 rfl (lv_at hl 0 rfl) ?_
      refine lv_iconst (v := 5) hx hb dX5_takeNumber_56 rfl ?_
      refine lv_iload_n hx hb dX5_takeNumber_57 rfl (lv_at hl 1 rfl) ?_
      obtain ⟨q58, e58, h⟩ := obn_e h
      refine z_Vv (k := 12) (v1 := q58) hx hb hml hts hown hK hP hS hz hE (c_Reader_blame hk e58) kX5_blame mX5_154 hk.1 rfl rfl rfl hl.1 (Nat.le_of_ble_eq_true rfl) ⟨Nat.le_of_ble_eq_true rfl, Nat.le_of_ble_eq_true rfl⟩ ⟨Nat.le_refl _, Nat.le_refl _⟩ dX5_takeNumber_58 fun H1 locs1 hz hP hS => ?_
      refine lv_iload hx hb dX5_takeNumber_61 (lv_at hl 2 rfl) ?_
      exact w_iret hx hb hret rfl hlk hK hP hS hz hE (q_p2 h) dX5_takeNumber_63
    refine lv_icmp_lt (tgt := 55) hx hb dX5_takeNumber_46 rfl (fun hc46 => ?_) (fun hc46 => ?_)
    · have h := itt_e h hc46
      exact J55 h _ _ _ (lv_sub hl [2, 1, 0] rfl) hP hS hz
    · have h := itf_e h hc46
      refine lv_iload hx hb dX5_takeNumber_49 (lv_at hl 0 rfl) ?_
      refine lv_iload_n hx hb dX5_takeNumber_51 rfl (lv_at hl 4 rfl) ?_
      refine lv_icmp_le (tgt := 61) hx hb dX5_takeNumber_52 rfl (fun hc52 => ?_) (fun hc52 => ?_)
      · have h := itt_e h hc52
        refine lv_iload hx hb dX5_takeNumber_61 (lv_at hl 0 rfl) ?_
        exact w_iret hx hb hret rfl hlk hK hP hS hz hE (q_p2 h) dX5_takeNumber_63
      · have h := itf_e h hc52
        exact J55 h _ _ _ (lv_sub hl [2, 1, 0] rfl) hP hS hz
  · have h := itf_e h hc6
    refine lv_aload_n hx hb dX5_takeNumber_9 rfl (lv_at hl 0 rfl) ?_
    obtain ⟨q10, e10, h⟩ := obn_e h
    refine z_Vv (k := 12) (v1 := q10) hx hb hml hts hown hK hP hS hz hE (c_Reader_fail hk e10) kX5_fail mX5_84 hk.1 rfl rfl rfl hl.1 (Nat.le_of_ble_eq_true rfl) ⟨Nat.le_of_ble_eq_true rfl, Nat.le_of_ble_eq_true rfl⟩ ⟨Nat.le_refl _, Nat.le_refl _⟩ dX5_takeNumber_10 fun H1 locs1 hz hP hS => ?_
    refine lv_iconst (v := 0) hx hb dX5_takeNumber_13 rfl ?_
    exact w_iret hx hb hret rfl hlk hK hP hS hz hE (q_p2 h) dX5_takeNumber_14
def f_Reader_spiceLine (z : Nat) (v : Va) : Option Va := (f_Reader_take v 0).bind fun q2 => (f_Reader_takeNewName z q2 49 4).bind fun q10 => (f_Reader_take q10.2 1).bind fun q16 => (f_Reader_takeNumber q16 0 9).bind fun q31 => bnd (up q31.2 15 (row_s 4 (q31.2 15) q10.1 q31.1)) fun q34 => some q34
theorem c_Reader_spiceLine (hk : isReader sh) {q : Va} (h : f_Reader_spiceLine z v = some q) : MetV l yX5_spiceLine cX5_spiceLine 2 none 3 Γ sh v w n [.ref (Γ.2.1 + 12)] (fun u => u = q) := by
  unfold f_Reader_spiceLine at h
  refine w_start pn_X5 (Nat.le_of_ble_eq_true rfl) fun p e s m args below meth c hx hb hml hret hlk hnm hts hown hK hP hz hE hS ls hl => ?_
  refine lv_aload_n hx hb dX5_spiceLine_0 rfl (lv_at hl 0 rfl) ?_
  refine lv_iconst (v := 0) hx hb dX5_spiceLine_1 rfl ?_
  obtain ⟨q2, e2, h⟩ := obn_e h
  refine z_Vv (k := 12) (v1 := q2) hx hb hml hts hown hK hP hS hz hE (c_Reader_take hk e2) kX5_take mX5_87 hk.1 rfl rfl rfl hl.1 (Nat.le_of_ble_eq_true rfl) ⟨Nat.le_of_ble_eq_true rfl, Nat.le_of_ble_eq_true rfl⟩ ⟨Nat.le_refl _, Nat.le_refl _⟩ dX5_spiceLine_2 fun H1 locs1 hz hP hS => ?_
  refine lv_aload_n hx hb dX5_spiceLine_5 rfl (lv_at hl 0 rfl) ?_
  refine lv_aload_n hx hb dX5_spiceLine_6 rfl (lv_at hl 0 rfl) ?_
  refine w_gr (k := 12) (r := 49) hx hb hts hown hK hP fX5_25 hk.1 rfl dX5_spiceLine_7 ?_
  obtain ⟨q10, e10, h⟩ := obn_e h
  refine z_Vi (k := 12) (r1 := q10.1) (v1 := q10.2) hx hb hml hts hown hK hP hS hz hE (c_Reader_takeNewName hk hk.2.2.2.1 e10) kX5_takeNewName mX5_115 hk.1 rfl rfl rfl hl.1 (Nat.le_of_ble_eq_true rfl) ⟨Nat.le_of_ble_eq_true rfl, Nat.le_of_ble_eq_true rfl⟩ ⟨Nat.le_refl _, Nat.le_refl _⟩ dX5_spiceLine_10 fun H1 locs1 hz hP hS => ?_
  refine lv_istore_n (lv' := [(1, .int q10.1), (0, .ref (Γ.2.1 + 12))]) hx hb dX5_spiceLine_13 rfl hl (by decide) rfl fun ls hl => ?_
  refine lv_aload_n hx hb dX5_spiceLine_14 rfl (lv_at hl 1 rfl) ?_
  refine lv_iconst (v := 1) hx hb dX5_spiceLine_15 rfl ?_
  obtain ⟨q16, e16, h⟩ := obn_e h
  refine z_Vv (k := 12) (v1 := q16) hx hb hml hts hown hK hP hS hz hE (c_Reader_take hk e16) kX5_take mX5_87 hk.1 rfl rfl rfl hl.1 (Nat.le_of_ble_eq_true rfl) ⟨Nat.le_of_ble_eq_true rfl, Nat.le_of_ble_eq_true rfl⟩ ⟨Nat.le_refl _, Nat.le_refl _⟩ dX5_spiceLine_16 fun H1 locs1 hz hP hS => ?_
  refine lv_aload_n hx hb dX5_spiceLine_19 rfl (lv_at hl 1 rfl) ?_
  refine w_gr (k := 12) (r := 13) hx hb hts hown hK hP fX5_16 hk.1 rfl dX5_spiceLine_20 ?_
  refine w_gr (k := 13) (r := 14) hx hb hts hown hK hP fX5_119 hk.2.1.1 rfl dX5_spiceLine_23 ?_
  refine lv_iload_n hx hb dX5_spiceLine_26 rfl (lv_at hl 0 rfl) ?_
  refine lv_aload_n hx hb dX5_spiceLine_27 rfl (lv_at hl 1 rfl) ?_
  refine lv_iconst (v := 0) hx hb dX5_spiceLine_28 rfl ?_
  refine lv_bipush (v := 9) hx hb dX5_spiceLine_29 rfl ?_
  obtain ⟨q31, e31, h⟩ := obn_e h
  refine z_Vi (k := 12) (r1 := q31.1) (v1 := q31.2) hx hb hml hts hown hK hP hS hz hE (c_Reader_takeNumber hk e31) kX5_takeNumber mX5_122 hk.1 rfl rfl rfl hl.1 (Nat.le_of_ble_eq_true rfl) ⟨Nat.le_of_ble_eq_true rfl, Nat.le_of_ble_eq_true rfl⟩ ⟨Nat.le_refl _, Nat.le_refl _⟩ dX5_spiceLine_31 fun H1 locs1 hz hP hS => ?_
  obtain ⟨q34, e34, h⟩ := bnd_e h
  refine z_Vv (k := 14) (v1 := q34) hx hb hml hts hown hK hP hS hz hE (C_Row_set hk.2.1.2.1 e34) kX7_set mX5_126 hk.2.1.2.1.1 rfl rfl rfl hl.1 (Nat.le_of_ble_eq_true rfl) ⟨Nat.le_of_ble_eq_true rfl, Nat.le_of_ble_eq_true rfl⟩ ⟨Nat.le_refl _, Nat.le_refl _⟩ dX5_spiceLine_34 fun H1 locs1 hz hP hS => ?_
  exact w_vret hx hb hret hlk hK hP hS hz hE (Option.some.inj h) dX5_spiceLine_37
def f_Reader_guildLine (z : Nat) (v : Va) : Option Va := (f_Reader_take v 2).bind fun q2 => (f_Reader_takeNewName z q2 52 4).bind fun q10 => (f_Reader_take q10.2 3).bind fun q16 => (f_Reader_takeNumber q16 0 99).bind fun q31 => bnd (up q31.2 17 (row_s 4 (q31.2 17) q10.1 q31.1)) fun q34 => (f_Reader_take q34 4).bind fun q39 => (f_Reader_takeNumber q39 0 20).bind fun q54 => bnd (up q54.2 19 (row_s 4 (q54.2 19) q10.1 q54.1)) fun q57 => some q57
theorem c_Reader_guildLine (hk : isReader sh) {q : Va} (h : f_Reader_guildLine z v = some q) : MetV l yX5_guildLine cX5_guildLine 2 none 3 Γ sh v w n [.ref (Γ.2.1 + 12)] (fun u => u = q) := by
  unfold f_Reader_guildLine at h
  refine w_start pn_X5 (Nat.le_of_ble_eq_true rfl) fun p e s m args below meth c hx hb hml hret hlk hnm hts hown hK hP hz hE hS ls hl => ?_
  refine lv_aload_n hx hb dX5_guildLine_0 rfl (lv_at hl 0 rfl) ?_
  refine lv_iconst (v := 2) hx hb dX5_guildLine_1 rfl ?_
  obtain ⟨q2, e2, h⟩ := obn_e h
  refine z_Vv (k := 12) (v1 := q2) hx hb hml hts hown hK hP hS hz hE (c_Reader_take hk e2) kX5_take mX5_87 hk.1 rfl rfl rfl hl.1 (Nat.le_of_ble_eq_true rfl) ⟨Nat.le_of_ble_eq_true rfl, Nat.le_of_ble_eq_true rfl⟩ ⟨Nat.le_refl _, Nat.le_refl _⟩ dX5_guildLine_2 fun H1 locs1 hz hP hS => ?_
  refine lv_aload_n hx hb dX5_guildLine_5 rfl (lv_at hl 0 rfl) ?_
  refine lv_aload_n hx hb dX5_guildLine_6 rfl (lv_at hl 0 rfl) ?_
  refine w_gr (k := 12) (r := 52) hx hb hts hown hK hP fX5_29 hk.1 rfl dX5_guildLine_7 ?_
  obtain ⟨q10, e10, h⟩ := obn_e h
  refine z_Vi (k := 12) (r1 := q10.1) (v1 := q10.2) hx hb hml hts hown hK hP hS hz hE (c_Reader_takeNewName hk hk.2.2.2.2.1 e10) kX5_takeNewName mX5_115 hk.1 rfl rfl rfl hl.1 (Nat.le_of_ble_eq_true rfl) ⟨Nat.le_of_ble_eq_true rfl, Nat.le_of_ble_eq_true rfl⟩ ⟨Nat.le_refl _, Nat.le_refl _⟩ dX5_guildLine_10 fun H1 locs1 hz hP hS => ?_
  refine lv_istore_n (lv' := [(1, .int q10.1), (0, .ref (Γ.2.1 + 12))]) hx hb dX5_guildLine_13 rfl hl (by decide) rfl fun ls hl => ?_
  refine lv_aload_n hx hb dX5_guildLine_14 rfl (lv_at hl 1 rfl) ?_
  refine lv_iconst (v := 3) hx hb dX5_guildLine_15 rfl ?_
  obtain ⟨q16, e16, h⟩ := obn_e h
  refine z_Vv (k := 12) (v1 := q16) hx hb hml hts hown hK hP hS hz hE (c_Reader_take hk e16) kX5_take mX5_87 hk.1 rfl rfl rfl hl.1 (Nat.le_of_ble_eq_true rfl) ⟨Nat.le_of_ble_eq_true rfl, Nat.le_of_ble_eq_true rfl⟩ ⟨Nat.le_refl _, Nat.le_refl _⟩ dX5_guildLine_16 fun H1 locs1 hz hP hS => ?_
  refine lv_aload_n hx hb dX5_guildLine_19 rfl (lv_at hl 1 rfl) ?_
  refine w_gr (k := 12) (r := 13) hx hb hts hown hK hP fX5_16 hk.1 rfl dX5_guildLine_20 ?_
  refine w_gr (k := 13) (r := 16) hx hb hts hown hK hP fX5_130 hk.2.1.1 rfl dX5_guildLine_23 ?_
  refine lv_iload_n hx hb dX5_guildLine_26 rfl (lv_at hl 0 rfl) ?_
  refine lv_aload_n hx hb dX5_guildLine_27 rfl (lv_at hl 1 rfl) ?_
  refine lv_iconst (v := 0) hx hb dX5_guildLine_28 rfl ?_
  refine lv_bipush (v := 99) hx hb dX5_guildLine_29 rfl ?_
  obtain ⟨q31, e31, h⟩ := obn_e h
  refine z_Vi (k := 12) (r1 := q31.1) (v1 := q31.2) hx hb hml hts hown hK hP hS hz hE (c_Reader_takeNumber hk e31) kX5_takeNumber mX5_122 hk.1 rfl rfl rfl hl.1 (Nat.le_of_ble_eq_true rfl) ⟨Nat.le_of_ble_eq_true rfl, Nat.le_of_ble_eq_true rfl⟩ ⟨Nat.le_refl _, Nat.le_refl _⟩ dX5_guildLine_31 fun H1 locs1 hz hP hS => ?_
  obtain ⟨q34, e34, h⟩ := bnd_e h
  refine z_Vv (k := 16) (v1 := q34) hx hb hml hts hown hK hP hS hz hE (C_Row_set hk.2.1.2.2.1 e34) kX7_set mX5_126 hk.2.1.2.2.1.1 rfl rfl rfl hl.1 (Nat.le_of_ble_eq_true rfl) ⟨Nat.le_of_ble_eq_true rfl, Nat.le_of_ble_eq_true rfl⟩ ⟨Nat.le_refl _, Nat.le_refl _⟩ dX5_guildLine_34 fun H1 locs1 hz hP hS => ?_
  refine lv_aload_n hx hb dX5_guildLine_37 rfl (lv_at hl 1 rfl) ?_
  refine lv_iconst (v := 4) hx hb dX5_guildLine_38 rfl ?_
  obtain ⟨q39, e39, h⟩ := obn_e h
  refine z_Vv (k := 12) (v1 := q39) hx hb hml hts hown hK hP hS hz hE (c_Reader_take hk e39) kX5_take mX5_87 hk.1 rfl rfl rfl hl.1 (Nat.le_of_ble_eq_true rfl) ⟨Nat.le_of_ble_eq_true rfl, Nat.le_of_ble_eq_true rfl⟩ ⟨Nat.le_refl _, Nat.le_refl _⟩ dX5_guildLine_39 fun H1 locs1 hz hP hS => ?_
  refine lv_aload_n hx hb dX5_guildLine_42 rfl (lv_at hl 1 rfl) ?_
  refine w_gr (k := 12) (r := 13) hx hb hts hown hK hP fX5_16 hk.1 rfl dX5_guildLine_43 ?_
  refine w_gr (k := 13) (r := 18) hx hb hts hown hK hP fX5_133 hk.2.1.1 rfl dX5_guildLine_46 ?_
  refine lv_iload_n hx hb dX5_guildLine_49 rfl (lv_at hl 0 rfl) ?_
  refine lv_aload_n hx hb dX5_guildLine_50 rfl (lv_at hl 1 rfl) ?_
  refine lv_iconst (v := 0) hx hb dX5_guildLine_51 rfl ?_
  refine lv_bipush (v := 20) hx hb dX5_guildLine_52 rfl ?_
  obtain ⟨q54, e54, h⟩ := obn_e h
  refine z_Vi (k := 12) (r1 := q54.1) (v1 := q54.2) hx hb hml hts hown hK hP hS hz hE (c_Reader_takeNumber hk e54) kX5_takeNumber mX5_122 hk.1 rfl rfl rfl hl.1 (Nat.le_of_ble_eq_true rfl) ⟨Nat.le_of_ble_eq_true rfl, Nat.le_of_ble_eq_true rfl⟩ ⟨Nat.le_refl _, Nat.le_refl _⟩ dX5_guildLine_54 fun H1 locs1 hz hP hS => ?_
  obtain ⟨q57, e57, h⟩ := bnd_e h
  refine z_Vv (k := 18) (v1 := q57) hx hb hml hts hown hK hP hS hz hE (C_Row_set hk.2.1.2.2.2.1 e57) kX7_set mX5_126 hk.2.1.2.2.2.1.1 rfl rfl rfl hl.1 (Nat.le_of_ble_eq_true rfl) ⟨Nat.le_of_ble_eq_true rfl, Nat.le_of_ble_eq_true rfl⟩ ⟨Nat.le_refl _, Nat.le_refl _⟩ dX5_guildLine_57 fun H1 locs1 hz hP hS => ?_
  exact w_vret hx hb hret hlk hK hP hS hz hE (Option.some.inj h) dX5_guildLine_60
def f_Reader_merchantLine (z : Nat) (v : Va) : Option Va := (f_Reader_take v 5).bind fun q2 => (f_Reader_takeNewName z q2 55 6).bind fun q10 => (f_Reader_take q10.2 6).bind fun q17 => (f_Reader_takeNumber q17 0 9999).bind fun q33 => bnd (up q33.2 21 (row_s 6 (q33.2 21) q10.1 q33.1)) fun q36 => (f_Reader_take q36 7).bind fun q42 => (f_Reader_takeNumber q42 0 9999).bind fun q58 => bnd (up q58.2 23 (row_s 6 (q58.2 23) q10.1 q58.1)) fun q61 => some q61
theorem c_Reader_merchantLine (hk : isReader sh) {q : Va} (h : f_Reader_merchantLine z v = some q) : MetV l yX5_merchantLine cX5_merchantLine 2 none 3 Γ sh v w n [.ref (Γ.2.1 + 12)] (fun u => u = q) := by
  unfold f_Reader_merchantLine at h
  refine w_start pn_X5 (Nat.le_of_ble_eq_true rfl) fun p e s m args below meth c hx hb hml hret hlk hnm hts hown hK hP hz hE hS ls hl => ?_
  refine lv_aload_n hx hb dX5_merchantLine_0 rfl (lv_at hl 0 rfl) ?_
  refine lv_iconst (v := 5) hx hb dX5_merchantLine_1 rfl ?_
  obtain ⟨q2, e2, h⟩ := obn_e h
  refine z_Vv (k := 12) (v1 := q2) hx hb hml hts hown hK hP hS hz hE (c_Reader_take hk e2) kX5_take mX5_87 hk.1 rfl rfl rfl hl.1 (Nat.le_of_ble_eq_true rfl) ⟨Nat.le_of_ble_eq_true rfl, Nat.le_of_ble_eq_true rfl⟩ ⟨Nat.le_refl _, Nat.le_refl _⟩ dX5_merchantLine_2 fun H1 locs1 hz hP hS => ?_
  refine lv_aload_n hx hb dX5_merchantLine_5 rfl (lv_at hl 0 rfl) ?_
  refine lv_aload_n hx hb dX5_merchantLine_6 rfl (lv_at hl 0 rfl) ?_
  refine w_gr (k := 12) (r := 55) hx hb hts hown hK hP fX5_32 hk.1 rfl dX5_merchantLine_7 ?_
  obtain ⟨q10, e10, h⟩ := obn_e h
  refine z_Vi (k := 12) (r1 := q10.1) (v1 := q10.2) hx hb hml hts hown hK hP hS hz hE (c_Reader_takeNewName hk hk.2.2.2.2.2.1 e10) kX5_takeNewName mX5_115 hk.1 rfl rfl rfl hl.1 (Nat.le_of_ble_eq_true rfl) ⟨Nat.le_of_ble_eq_true rfl, Nat.le_of_ble_eq_true rfl⟩ ⟨Nat.le_refl _, Nat.le_refl _⟩ dX5_merchantLine_10 fun H1 locs1 hz hP hS => ?_
  refine lv_istore_n (lv' := [(1, .int q10.1), (0, .ref (Γ.2.1 + 12))]) hx hb dX5_merchantLine_13 rfl hl (by decide) rfl fun ls hl => ?_
  refine lv_aload_n hx hb dX5_merchantLine_14 rfl (lv_at hl 1 rfl) ?_
  refine lv_bipush (v := 6) hx hb dX5_merchantLine_15 rfl ?_
  obtain ⟨q17, e17, h⟩ := obn_e h
  refine z_Vv (k := 12) (v1 := q17) hx hb hml hts hown hK hP hS hz hE (c_Reader_take hk e17) kX5_take mX5_87 hk.1 rfl rfl rfl hl.1 (Nat.le_of_ble_eq_true rfl) ⟨Nat.le_of_ble_eq_true rfl, Nat.le_of_ble_eq_true rfl⟩ ⟨Nat.le_refl _, Nat.le_refl _⟩ dX5_merchantLine_17 fun H1 locs1 hz hP hS => ?_
  refine lv_aload_n hx hb dX5_merchantLine_20 rfl (lv_at hl 1 rfl) ?_
  refine w_gr (k := 12) (r := 13) hx hb hts hown hK hP fX5_16 hk.1 rfl dX5_merchantLine_21 ?_
  refine w_gr (k := 13) (r := 20) hx hb hts hown hK hP fX5_136 hk.2.1.1 rfl dX5_merchantLine_24 ?_
  refine lv_iload_n hx hb dX5_merchantLine_27 rfl (lv_at hl 0 rfl) ?_
  refine lv_aload_n hx hb dX5_merchantLine_28 rfl (lv_at hl 1 rfl) ?_
  refine lv_iconst (v := 0) hx hb dX5_merchantLine_29 rfl ?_
  refine lv_sipush (v := 9999) hx hb dX5_merchantLine_30 rfl ?_
  obtain ⟨q33, e33, h⟩ := obn_e h
  refine z_Vi (k := 12) (r1 := q33.1) (v1 := q33.2) hx hb hml hts hown hK hP hS hz hE (c_Reader_takeNumber hk e33) kX5_takeNumber mX5_122 hk.1 rfl rfl rfl hl.1 (Nat.le_of_ble_eq_true rfl) ⟨Nat.le_of_ble_eq_true rfl, Nat.le_of_ble_eq_true rfl⟩ ⟨Nat.le_refl _, Nat.le_refl _⟩ dX5_merchantLine_33 fun H1 locs1 hz hP hS => ?_
  obtain ⟨q36, e36, h⟩ := bnd_e h
  refine z_Vv (k := 20) (v1 := q36) hx hb hml hts hown hK hP hS hz hE (C_Row_set hk.2.1.2.2.2.2.1 e36) kX7_set mX5_126 hk.2.1.2.2.2.2.1.1 rfl rfl rfl hl.1 (Nat.le_of_ble_eq_true rfl) ⟨Nat.le_of_ble_eq_true rfl, Nat.le_of_ble_eq_true rfl⟩ ⟨Nat.le_refl _, Nat.le_refl _⟩ dX5_merchantLine_36 fun H1 locs1 hz hP hS => ?_
  refine lv_aload_n hx hb dX5_merchantLine_39 rfl (lv_at hl 1 rfl) ?_
  refine lv_bipush (v := 7) hx hb dX5_merchantLine_40 rfl ?_
  obtain ⟨q42, e42, h⟩ := obn_e h
  refine z_Vv (k := 12) (v1 := q42) hx hb hml hts hown hK hP hS hz hE (c_Reader_take hk e42) kX5_take mX5_87 hk.1 rfl rfl rfl hl.1 (Nat.le_of_ble_eq_true rfl) ⟨Nat.le_of_ble_eq_true rfl, Nat.le_of_ble_eq_true rfl⟩ ⟨Nat.le_refl _, Nat.le_refl _⟩ dX5_merchantLine_42 fun H1 locs1 hz hP hS => ?_
  refine lv_aload_n hx hb dX5_merchantLine_45 rfl (lv_at hl 1 rfl) ?_
  refine w_gr (k := 12) (r := 13) hx hb hts hown hK hP fX5_16 hk.1 rfl dX5_merchantLine_46 ?_
  refine w_gr (k := 13) (r := 22) hx hb hts hown hK hP fX5_139 hk.2.1.1 rfl dX5_merchantLine_49 ?_
  refine lv_iload_n hx hb dX5_merchantLine_52 rfl (lv_at hl 0 rfl) ?_
  refine lv_aload_n hx hb dX5_merchantLine_53 rfl (lv_at hl 1 rfl) ?_
  refine lv_iconst (v := 0) hx hb dX5_merchantLine_54 rfl ?_
  refine lv_sipush (v := 9999) hx hb dX5_merchantLine_55 rfl ?_
  obtain ⟨q58, e58, h⟩ := obn_e h
  refine z_Vi (k := 12) (r1 := q58.1) (v1 := q58.2) hx hb hml hts hown hK hP hS hz hE (c_Reader_takeNumber hk e58) kX5_takeNumber mX5_122 hk.1 rfl rfl rfl hl.1 (Nat.le_of_ble_eq_true rfl) ⟨Nat.le_of_ble_eq_true rfl, Nat.le_of_ble_eq_true rfl⟩ ⟨Nat.le_refl _, Nat.le_refl _⟩ dX5_merchantLine_58 fun H1 locs1 hz hP hS => ?_
  obtain ⟨q61, e61, h⟩ := bnd_e h
  refine z_Vv (k := 22) (v1 := q61) hx hb hml hts hown hK hP hS hz hE (C_Row_set hk.2.1.2.2.2.2.2.1 e61) kX7_set mX5_126 hk.2.1.2.2.2.2.2.1.1 rfl rfl rfl hl.1 (Nat.le_of_ble_eq_true rfl) ⟨Nat.le_of_ble_eq_true rfl, Nat.le_of_ble_eq_true rfl⟩ ⟨Nat.le_refl _, Nat.le_refl _⟩ dX5_merchantLine_61 fun H1 locs1 hz hP hS => ?_
  exact w_vret hx hb hret hlk hK hP hS hz hE (Option.some.inj h) dX5_merchantLine_64
def f_Reader_takeName (z : Nat) (v : Va) (k1 : Nat) (N1 : Nat) : Option (Int32 × Va) := (f_Reader_seen v).bind fun q1 => if q1 = 47 then (bnd (pu v 12 6 ((v 12 6) + 1)) fun v27 => bnd (row_g 401 (v27 11) (v 12 6)) fun q39 => (f_Names_find z v27 k1 N1 q39).bind fun q42 => if 0 ≤ q42 then (some (q42, v27)) else ((f_Reader_blame v27 3 (v 12 6)).bind fun q53 => some (q42, q53))) else ((f_Reader_fail v).bind fun q10 => some ((-1), q10))
theorem c_Reader_takeName {k1 : Nat} {N1 : Nat} (hk : isReader sh) (hk1 : isNames sh k1 N1) {q : Int32 × Va} (h : f_Reader_takeName z v k1 N1 = some q) : MetI l yX5_takeName cX5_takeName 4 (some .int) 2 Γ sh v w n [.ref (Γ.2.1 + 12), .ref (Γ.2.1 + k1)] (fun x u => x = q.1 ∧ u = q.2) := by
  unfold f_Reader_takeName at h
  refine w_start pn_X5 (Nat.le_of_ble_eq_true rfl) fun p e s m args below meth c hx hb hml hret hlk hnm hts hown hK hP hz hE hS ls hl => ?_
  refine lv_aload_n hx hb dX5_takeName_0 rfl (lv_at hl 0 rfl) ?_
  obtain ⟨q1, e1, h⟩ := obn_e h
  refine z_Vi (k := 12) (r1 := q1) (v1 := v) hx hb hml hts hown hK hP hS hz hE (c_Reader_seen hk e1) kX5_seen mX5_63 hk.1 rfl rfl rfl hl.1 (Nat.le_of_ble_eq_true rfl) ⟨Nat.le_of_ble_eq_true rfl, Nat.le_of_ble_eq_true rfl⟩ ⟨Nat.le_refl _, Nat.le_refl _⟩ dX5_takeName_1 fun H1 locs1 hz hP hS => ?_
  refine lv_bipush (v := 47) hx hb dX5_takeName_4 rfl ?_
  refine lv_icmp_eq (tgt := 15) hx hb dX5_takeName_6 rfl (fun hc6 => ?_) (fun hc6 => ?_)
  · have h := itt_e h hc6
    refine lv_aload_n hx hb dX5_takeName_15 rfl (lv_at hl 0 rfl) ?_
    refine w_gi (k := 12) hx hb hts hown hK hP fX5_38 hk.1 rfl dX5_takeName_16 ?_
    refine lv_istore_n (lv' := [(2, .int (v 12 6)), (0, .ref (Γ.2.1 + 12)), (1, .ref (Γ.2.1 + k1))]) hx hb dX5_takeName_19 rfl hl (by decide) rfl fun ls hl => ?_
    refine lv_aload_n hx hb dX5_takeName_20 rfl (lv_at hl 1 rfl) ?_
    refine lv_dup hx hb dX5_takeName_21 rfl ?_
    refine w_gi (k := 12) hx hb hts hown hK hP fX5_38 hk.1 rfl dX5_takeName_22 ?_
    refine lv_iconst (v := 1) hx hb dX5_takeName_25 rfl ?_
    refine lv_iadd hx hb dX5_takeName_26 ?_
    obtain ⟨v27, e27, h⟩ := bnd_e h
    refine w_pi2 (k := 12) hx hb hts hown hK hP hS hz fX5_38 hk.1 rfl e27 dX5_takeName_27 fun H1 locs1 hz hP hS => ?_
    refine lv_aload_n hx hb dX5_takeName_30 rfl (lv_at hl 2 rfl) ?_
    refine lv_aload_n hx hb dX5_takeName_31 rfl (lv_at hl 1 rfl) ?_
    refine w_gr (k := 12) (r := 3) hx hb hts hown hK hP fX5_7 hk.1 rfl dX5_takeName_32 ?_
    refine w_gr (k := 3) (r := 10) hx hb hts hown hK hP fX5_229 hk.2.2.1.1 rfl dX5_takeName_35 ?_
    refine lv_iload_n hx hb dX5_takeName_38 rfl (lv_at hl 0 rfl) ?_
    obtain ⟨q39, e39, h⟩ := bnd_e h
    refine z_Vi (k := 10) (r1 := q39) (v1 := v27) hx hb hml hts hown hK hP hS hz hE (C_Row_get hk.2.2.1.2.2.2.2.2 e39) kX7_get mX5_54 hk.2.2.1.2.2.2.2.2.1 rfl rfl rfl hl.1 (Nat.le_of_ble_eq_true rfl) ⟨Nat.le_of_ble_eq_true rfl, Nat.le_of_ble_eq_true rfl⟩ ⟨Nat.le_refl _, Nat.le_refl _⟩ dX5_takeName_39 fun H1 locs1 hz hP hS => ?_
    obtain ⟨q42, e42, h⟩ := obn_e h
    refine z_Vi (k := k1) (r1 := q42) (v1 := v27) hx hb hml hts hown hK hP hS hz hE (c_Names_find hk1 e42) kX3_find mX5_231 hk1.1 rfl rfl rfl hl.1 (Nat.le_of_ble_eq_true rfl) ⟨Nat.le_of_ble_eq_true rfl, Nat.le_of_ble_eq_true rfl⟩ ⟨Nat.le_refl _, Nat.le_refl _⟩ dX5_takeName_42 fun H1 locs1 hz hP hS => ?_
    refine lv_istore_n (lv' := [(3, .int q42), (2, .int (v 12 6)), (0, .ref (Γ.2.1 + 12)), (1, .ref (Γ.2.1 + k1))]) hx hb dX5_takeName_45 rfl hl (by decide) rfl fun ls hl => ?_
    refine lv_iload_n hx hb dX5_takeName_46 rfl (lv_at hl 0 rfl) ?_
    refine lv_if_ge (tgt := 56) hx hb dX5_takeName_47 rfl (fun hc47 => ?_) (fun hc47 => ?_)
    · have h := itt_e h hc47
      refine lv_iload_n hx hb dX5_takeName_56 rfl (lv_at hl 0 rfl) ?_
      exact w_iret hx hb hret rfl hlk hK hP hS hz hE (q_p2 h) dX5_takeName_57
    · have h := itf_e h hc47
      refine lv_aload_n hx hb dX5_takeName_50 rfl (lv_at hl 2 rfl) ?_
      refine lv_iconst (v := 3) hx hb dX5_takeName_51 rfl ?_
      refine lv_iload_n hx hb dX5_takeName_52 rfl (lv_at hl 1 rfl) ?_
      obtain ⟨q53, e53, h⟩ := obn_e h
      refine z_Vv (k := 12) (v1 := q53) hx hb hml hts hown hK hP hS hz hE (c_Reader_blame hk e53) kX5_blame mX5_154 hk.1 rfl rfl rfl hl.1 (Nat.le_of_ble_eq_true rfl) ⟨Nat.le_of_ble_eq_true rfl, Nat.le_of_ble_eq_true rfl⟩ ⟨Nat.le_refl _, Nat.le_refl _⟩ dX5_takeName_53 fun H1 locs1 hz hP hS => ?_
      refine lv_iload_n hx hb dX5_takeName_56 rfl (lv_at hl 0 rfl) ?_
      exact w_iret hx hb hret rfl hlk hK hP hS hz hE (q_p2 h) dX5_takeName_57
  · have h := itf_e h hc6
    refine lv_aload_n hx hb dX5_takeName_9 rfl (lv_at hl 0 rfl) ?_
    obtain ⟨q10, e10, h⟩ := obn_e h
    refine z_Vv (k := 12) (v1 := q10) hx hb hml hts hown hK hP hS hz hE (c_Reader_fail hk e10) kX5_fail mX5_84 hk.1 rfl rfl rfl hl.1 (Nat.le_of_ble_eq_true rfl) ⟨Nat.le_of_ble_eq_true rfl, Nat.le_of_ble_eq_true rfl⟩ ⟨Nat.le_refl _, Nat.le_refl _⟩ dX5_takeName_10 fun H1 locs1 hz hP hS => ?_
    refine lv_iconst (v := (-1)) hx hb dX5_takeName_13 rfl ?_
    exact w_iret hx hb hret rfl hlk hK hP hS hz hE (q_p2 h) dX5_takeName_14
def f_Reader_lotLine (z : Nat) (v : Va) : Option Va := (f_Reader_take v 8).bind fun q3 => (f_Reader_takeNewName z q3 58 10).bind fun q11 => (f_Reader_take q11.2 9).bind fun q18 => (f_Reader_takeName z q18 49 4).bind fun q34 => bnd (up q34.2 25 (row_s 10 (q34.2 25) q11.1 q34.1)) fun q37 => (f_Reader_take q37 10).bind fun q43 => (f_Reader_takeNumber q43 1 90).bind fun q58 => bnd (up q58.2 27 (row_s 10 (q58.2 27) q11.1 q58.1)) fun q61 => (f_Reader_take q61 11).bind fun q67 => (f_Reader_takeName z q67 55 6).bind fun q83 => bnd (up q83.2 29 (row_s 10 (q83.2 29) q11.1 q83.1)) fun q86 => some q86
theorem c_Reader_lotLine (hk : isReader sh) {q : Va} (h : f_Reader_lotLine z v = some q) : MetV l yX5_lotLine cX5_lotLine 2 none 3 Γ sh v w n [.ref (Γ.2.1 + 12)] (fun u => u = q) := by
  unfold f_Reader_lotLine at h
  refine w_start pn_X5 (Nat.le_of_ble_eq_true rfl) fun p e s m args below meth c hx hb hml hret hlk hnm hts hown hK hP hz hE hS ls hl => ?_
  refine lv_aload_n hx hb dX5_lotLine_0 rfl (lv_at hl 0 rfl) ?_
  refine lv_bipush (v := 8) hx hb dX5_lotLine_1 rfl ?_
  obtain ⟨q3, e3, h⟩ := obn_e h
  refine z_Vv (k := 12) (v1 := q3) hx hb hml hts hown hK hP hS hz hE (c_Reader_take hk e3) kX5_take mX5_87 hk.1 rfl rfl rfl hl.1 (Nat.le_of_ble_eq_true rfl) ⟨Nat.le_of_ble_eq_true rfl, Nat.le_of_ble_eq_true rfl⟩ ⟨Nat.le_refl _, Nat.le_refl _⟩ dX5_lotLine_3 fun H1 locs1 hz hP hS => ?_
  refine lv_aload_n hx hb dX5_lotLine_6 rfl (lv_at hl 0 rfl) ?_
  refine lv_aload_n hx hb dX5_lotLine_7 rfl (lv_at hl 0 rfl) ?_
  refine w_gr (k := 12) (r := 58) hx hb hts hown hK hP fX5_35 hk.1 rfl dX5_lotLine_8 ?_
  obtain ⟨q11, e11, h⟩ := obn_e h
  refine z_Vi (k := 12) (r1 := q11.1) (v1 := q11.2) hx hb hml hts hown hK hP hS hz hE (c_Reader_takeNewName hk hk.2.2.2.2.2.2 e11) kX5_takeNewName mX5_115 hk.1 rfl rfl rfl hl.1 (Nat.le_of_ble_eq_true rfl) ⟨Nat.le_of_ble_eq_true rfl, Nat.le_of_ble_eq_true rfl⟩ ⟨Nat.le_refl _, Nat.le_refl _⟩ dX5_lotLine_11 fun H1 locs1 hz hP hS => ?_
  refine lv_istore_n (lv' := [(1, .int q11.1), (0, .ref (Γ.2.1 + 12))]) hx hb dX5_lotLine_14 rfl hl (by decide) rfl fun ls hl => ?_
  refine lv_aload_n hx hb dX5_lotLine_15 rfl (lv_at hl 1 rfl) ?_
  refine lv_bipush (v := 9) hx hb dX5_lotLine_16 rfl ?_
  obtain ⟨q18, e18, h⟩ := obn_e h
  refine z_Vv (k := 12) (v1 := q18) hx hb hml hts hown hK hP hS hz hE (c_Reader_take hk e18) kX5_take mX5_87 hk.1 rfl rfl rfl hl.1 (Nat.le_of_ble_eq_true rfl) ⟨Nat.le_of_ble_eq_true rfl, Nat.le_of_ble_eq_true rfl⟩ ⟨Nat.le_refl _, Nat.le_refl _⟩ dX5_lotLine_18 fun H1 locs1 hz hP hS => ?_
  refine lv_aload_n hx hb dX5_lotLine_21 rfl (lv_at hl 1 rfl) ?_
  refine w_gr (k := 12) (r := 13) hx hb hts hown hK hP fX5_16 hk.1 rfl dX5_lotLine_22 ?_
  refine w_gr (k := 13) (r := 24) hx hb hts hown hK hP fX5_142 hk.2.1.1 rfl dX5_lotLine_25 ?_
  refine lv_iload_n hx hb dX5_lotLine_28 rfl (lv_at hl 0 rfl) ?_
  refine lv_aload_n hx hb dX5_lotLine_29 rfl (lv_at hl 1 rfl) ?_
  refine lv_aload_n hx hb dX5_lotLine_30 rfl (lv_at hl 1 rfl) ?_
  refine w_gr (k := 12) (r := 49) hx hb hts hown hK hP fX5_25 hk.1 rfl dX5_lotLine_31 ?_
  obtain ⟨q34, e34, h⟩ := obn_e h
  refine z_Vi (k := 12) (r1 := q34.1) (v1 := q34.2) hx hb hml hts hown hK hP hS hz hE (c_Reader_takeName hk hk.2.2.2.1 e34) kX5_takeName mX5_145 hk.1 rfl rfl rfl hl.1 (Nat.le_of_ble_eq_true rfl) ⟨Nat.le_of_ble_eq_true rfl, Nat.le_of_ble_eq_true rfl⟩ ⟨Nat.le_refl _, Nat.le_refl _⟩ dX5_lotLine_34 fun H1 locs1 hz hP hS => ?_
  obtain ⟨q37, e37, h⟩ := bnd_e h
  refine z_Vv (k := 24) (v1 := q37) hx hb hml hts hown hK hP hS hz hE (C_Row_set hk.2.1.2.2.2.2.2.2.1 e37) kX7_set mX5_126 hk.2.1.2.2.2.2.2.2.1.1 rfl rfl rfl hl.1 (Nat.le_of_ble_eq_true rfl) ⟨Nat.le_of_ble_eq_true rfl, Nat.le_of_ble_eq_true rfl⟩ ⟨Nat.le_refl _, Nat.le_refl _⟩ dX5_lotLine_37 fun H1 locs1 hz hP hS => ?_
  refine lv_aload_n hx hb dX5_lotLine_40 rfl (lv_at hl 1 rfl) ?_
  refine lv_bipush (v := 10) hx hb dX5_lotLine_41 rfl ?_
  obtain ⟨q43, e43, h⟩ := obn_e h
  refine z_Vv (k := 12) (v1 := q43) hx hb hml hts hown hK hP hS hz hE (c_Reader_take hk e43) kX5_take mX5_87 hk.1 rfl rfl rfl hl.1 (Nat.le_of_ble_eq_true rfl) ⟨Nat.le_of_ble_eq_true rfl, Nat.le_of_ble_eq_true rfl⟩ ⟨Nat.le_refl _, Nat.le_refl _⟩ dX5_lotLine_43 fun H1 locs1 hz hP hS => ?_
  refine lv_aload_n hx hb dX5_lotLine_46 rfl (lv_at hl 1 rfl) ?_
  refine w_gr (k := 12) (r := 13) hx hb hts hown hK hP fX5_16 hk.1 rfl dX5_lotLine_47 ?_
  refine w_gr (k := 13) (r := 26) hx hb hts hown hK hP fX5_148 hk.2.1.1 rfl dX5_lotLine_50 ?_
  refine lv_iload_n hx hb dX5_lotLine_53 rfl (lv_at hl 0 rfl) ?_
  refine lv_aload_n hx hb dX5_lotLine_54 rfl (lv_at hl 1 rfl) ?_
  refine lv_iconst (v := 1) hx hb dX5_lotLine_55 rfl ?_
  refine lv_bipush (v := 90) hx hb dX5_lotLine_56 rfl ?_
  obtain ⟨q58, e58, h⟩ := obn_e h
  refine z_Vi (k := 12) (r1 := q58.1) (v1 := q58.2) hx hb hml hts hown hK hP hS hz hE (c_Reader_takeNumber hk e58) kX5_takeNumber mX5_122 hk.1 rfl rfl rfl hl.1 (Nat.le_of_ble_eq_true rfl) ⟨Nat.le_of_ble_eq_true rfl, Nat.le_of_ble_eq_true rfl⟩ ⟨Nat.le_refl _, Nat.le_refl _⟩ dX5_lotLine_58 fun H1 locs1 hz hP hS => ?_
  obtain ⟨q61, e61, h⟩ := bnd_e h
  refine z_Vv (k := 26) (v1 := q61) hx hb hml hts hown hK hP hS hz hE (C_Row_set hk.2.1.2.2.2.2.2.2.2.1 e61) kX7_set mX5_126 hk.2.1.2.2.2.2.2.2.2.1.1 rfl rfl rfl hl.1 (Nat.le_of_ble_eq_true rfl) ⟨Nat.le_of_ble_eq_true rfl, Nat.le_of_ble_eq_true rfl⟩ ⟨Nat.le_refl _, Nat.le_refl _⟩ dX5_lotLine_61 fun H1 locs1 hz hP hS => ?_
  refine lv_aload_n hx hb dX5_lotLine_64 rfl (lv_at hl 1 rfl) ?_
  refine lv_bipush (v := 11) hx hb dX5_lotLine_65 rfl ?_
  obtain ⟨q67, e67, h⟩ := obn_e h
  refine z_Vv (k := 12) (v1 := q67) hx hb hml hts hown hK hP hS hz hE (c_Reader_take hk e67) kX5_take mX5_87 hk.1 rfl rfl rfl hl.1 (Nat.le_of_ble_eq_true rfl) ⟨Nat.le_of_ble_eq_true rfl, Nat.le_of_ble_eq_true rfl⟩ ⟨Nat.le_refl _, Nat.le_refl _⟩ dX5_lotLine_67 fun H1 locs1 hz hP hS => ?_
  refine lv_aload_n hx hb dX5_lotLine_70 rfl (lv_at hl 1 rfl) ?_
  refine w_gr (k := 12) (r := 13) hx hb hts hown hK hP fX5_16 hk.1 rfl dX5_lotLine_71 ?_
  refine w_gr (k := 13) (r := 28) hx hb hts hown hK hP fX5_151 hk.2.1.1 rfl dX5_lotLine_74 ?_
  refine lv_iload_n hx hb dX5_lotLine_77 rfl (lv_at hl 0 rfl) ?_
  refine lv_aload_n hx hb dX5_lotLine_78 rfl (lv_at hl 1 rfl) ?_
  refine lv_aload_n hx hb dX5_lotLine_79 rfl (lv_at hl 1 rfl) ?_
  refine w_gr (k := 12) (r := 55) hx hb hts hown hK hP fX5_32 hk.1 rfl dX5_lotLine_80 ?_
  obtain ⟨q83, e83, h⟩ := obn_e h
  refine z_Vi (k := 12) (r1 := q83.1) (v1 := q83.2) hx hb hml hts hown hK hP hS hz hE (c_Reader_takeName hk hk.2.2.2.2.2.1 e83) kX5_takeName mX5_145 hk.1 rfl rfl rfl hl.1 (Nat.le_of_ble_eq_true rfl) ⟨Nat.le_of_ble_eq_true rfl, Nat.le_of_ble_eq_true rfl⟩ ⟨Nat.le_refl _, Nat.le_refl _⟩ dX5_lotLine_83 fun H1 locs1 hz hP hS => ?_
  obtain ⟨q86, e86, h⟩ := bnd_e h
  refine z_Vv (k := 28) (v1 := q86) hx hb hml hts hown hK hP hS hz hE (C_Row_set hk.2.1.2.2.2.2.2.2.2.2.1 e86) kX7_set mX5_126 hk.2.1.2.2.2.2.2.2.2.2.1.1 rfl rfl rfl hl.1 (Nat.le_of_ble_eq_true rfl) ⟨Nat.le_of_ble_eq_true rfl, Nat.le_of_ble_eq_true rfl⟩ ⟨Nat.le_refl _, Nat.le_refl _⟩ dX5_lotLine_86 fun H1 locs1 hz hP hS => ?_
  exact w_vret hx hb hret hlk hK hP hS hz hE (Option.some.inj h) dX5_lotLine_89
def j_Reader_goesDeeper_14 (v : Va) : Option (Bool × Va) := (f_Reader_fail v).bind fun q15 => some (false, q15)
def f_Reader_goesDeeper (v : Va) (a1 : Int32) (a2 : Int32) : Option (Bool × Va) := if 8 ≤ a2 then (j_Reader_goesDeeper_14 v) else ((f_Reader_seen v).bind fun q7 => if q7 = a1 then (bnd (pu v 12 6 ((v 12 6) + 1)) fun v27 => some (true, v27)) else (j_Reader_goesDeeper_14 v))
theorem c_Reader_goesDeeper {a1 : Int32} {a2 : Int32} (hk : isReader sh) {q : Bool × Va} (h : f_Reader_goesDeeper v a1 a2 = some q) : MetI l yX5_goesDeeper cX5_goesDeeper 3 (some .boolean) 2 Γ sh v w n [.ref (Γ.2.1 + 12), .int a1, .int a2] (fun x u => x = q_b q.1 ∧ u = q.2) := by
  unfold f_Reader_goesDeeper at h
  refine w_start pn_X5 (Nat.le_of_ble_eq_true rfl) fun p e s m args below meth c hx hb hml hret hlk hnm hts hown hK hP hz hE hS ls hl => ?_
  refine lv_iload_n hx hb dX5_goesDeeper_0 rfl (lv_at hl 2 rfl) ?_
  refine lv_bipush (v := 8) hx hb dX5_goesDeeper_1 rfl ?_
  have J14 : (j_Reader_goesDeeper_14 v) = some q → ∀ (H1 : Heap) (locs1 : List Loc) (ls1 : Array Slot), lv_has ls1 3 [(0, .ref (Γ.2.1 + 12))] → Wd Γ sh v w H1 → va_S (gA Γ sh n) s.heap H1 locs1 → H1.size = Γ.2.1 + n → wpI Γ sh w n 2 (fun x u => x = q_b q.1 ∧ u = q.2) p l e s m args below meth c H1 locs1 (F0 m 14 ls1 []) := by
    intro  h H1 locs1 ls hl hP hS hz
    unfold j_Reader_goesDeeper_14 at h
    refine lv_aload_n hx hb dX5_goesDeeper_14 rfl (lv_at hl 0 rfl) ?_
    obtain ⟨q15, e15, h⟩ := obn_e h
    refine z_Vv (k := 12) (v1 := q15) hx hb hml hts hown hK hP hS hz hE (c_Reader_fail hk e15) kX5_fail mX5_84 hk.1 rfl rfl rfl hl.1 (Nat.le_of_ble_eq_true rfl) ⟨Nat.le_of_ble_eq_true rfl, Nat.le_of_ble_eq_true rfl⟩ ⟨Nat.le_refl _, Nat.le_refl _⟩ dX5_goesDeeper_15 fun H1 locs1 hz hP hS => ?_
    refine lv_iconst (v := 0) hx hb dX5_goesDeeper_18 rfl ?_
    exact w_iret hx hb hret rfl hlk hK hP hS hz hE (q_p2b h) dX5_goesDeeper_19
  refine lv_icmp_ge (tgt := 14) hx hb dX5_goesDeeper_3 rfl (fun hc3 => ?_) (fun hc3 => ?_)
  · have h := itt_e h hc3
    exact J14 h _ _ _ (lv_sub hl [0] rfl) hP hS hz
  · have h := itf_e h hc3
    refine lv_aload_n hx hb dX5_goesDeeper_6 rfl (lv_at hl 0 rfl) ?_
    obtain ⟨q7, e7, h⟩ := obn_e h
    refine z_Vi (k := 12) (r1 := q7) (v1 := v) hx hb hml hts hown hK hP hS hz hE (c_Reader_seen hk e7) kX5_seen mX5_63 hk.1 rfl rfl rfl hl.1 (Nat.le_of_ble_eq_true rfl) ⟨Nat.le_of_ble_eq_true rfl, Nat.le_of_ble_eq_true rfl⟩ ⟨Nat.le_refl _, Nat.le_refl _⟩ dX5_goesDeeper_7 fun H1 locs1 hz hP hS => ?_
    refine lv_iload_n hx hb dX5_goesDeeper_10 rfl (lv_at hl 1 rfl) ?_
    refine lv_icmp_eq (tgt := 20) hx hb dX5_goesDeeper_11 rfl (fun hc11 => ?_) (fun hc11 => ?_)
    · have h := itt_e h hc11
      refine lv_aload_n hx hb dX5_goesDeeper_20 rfl (lv_at hl 0 rfl) ?_
      refine lv_dup hx hb dX5_goesDeeper_21 rfl ?_
      refine w_gi (k := 12) hx hb hts hown hK hP fX5_38 hk.1 rfl dX5_goesDeeper_22 ?_
      refine lv_iconst (v := 1) hx hb dX5_goesDeeper_25 rfl ?_
      refine lv_iadd hx hb dX5_goesDeeper_26 ?_
      obtain ⟨v27, e27, h⟩ := bnd_e h
      refine w_pi2 (k := 12) hx hb hts hown hK hP hS hz fX5_38 hk.1 rfl e27 dX5_goesDeeper_27 fun H1 locs1 hz hP hS => ?_
      refine lv_iconst (v := 1) hx hb dX5_goesDeeper_30 rfl ?_
      exact w_iret hx hb hret rfl hlk hK hP hS hz hE (q_p2b h) dX5_goesDeeper_31
    · have h := itf_e h hc11
      exact J14 h _ _ _ (lv_sub hl [0] rfl) hP hS hz
def f_Reader_takeComparison (v : Va) : Option (Int32 × Va) := (f_Reader_seen v).bind fun q1 => (f_Kind_compares q1).bind fun q6 => if (q_b q6) = 0 then ((f_Reader_fail v).bind fun q26 => some (q1, q26)) else (bnd (pu v 12 6 ((v 12 6) + 1)) fun v19 => some (q1, v19))
theorem c_Reader_takeComparison (hk : isReader sh) {q : Int32 × Va} (h : f_Reader_takeComparison v = some q) : MetI l yX5_takeComparison cX5_takeComparison 2 (some .int) 2 Γ sh v w n [.ref (Γ.2.1 + 12)] (fun x u => x = q.1 ∧ u = q.2) := by
  unfold f_Reader_takeComparison at h
  refine w_start pn_X5 (Nat.le_of_ble_eq_true rfl) fun p e s m args below meth c hx hb hml hret hlk hnm hts hown hK hP hz hE hS ls hl => ?_
  refine lv_aload_n hx hb dX5_takeComparison_0 rfl (lv_at hl 0 rfl) ?_
  obtain ⟨q1, e1, h⟩ := obn_e h
  refine z_Vi (k := 12) (r1 := q1) (v1 := v) hx hb hml hts hown hK hP hS hz hE (c_Reader_seen hk e1) kX5_seen mX5_63 hk.1 rfl rfl rfl hl.1 (Nat.le_of_ble_eq_true rfl) ⟨Nat.le_of_ble_eq_true rfl, Nat.le_of_ble_eq_true rfl⟩ ⟨Nat.le_refl _, Nat.le_refl _⟩ dX5_takeComparison_1 fun H1 locs1 hz hP hS => ?_
  refine lv_istore_n (lv' := [(1, .int q1), (0, .ref (Γ.2.1 + 12))]) hx hb dX5_takeComparison_4 rfl hl (by decide) rfl fun ls hl => ?_
  refine lv_iload_n hx hb dX5_takeComparison_5 rfl (lv_at hl 0 rfl) ?_
  obtain ⟨q6, e6, h⟩ := obn_e h
  refine z_Si (r1 := (q_b q6)) (v1 := v) hx hb hml hts hown hK hP hS hz hE (c_Kind_compares  e6) kX2_compares mX5_225 rfl rfl hl.1 (Nat.le_of_ble_eq_true rfl) ⟨Nat.le_of_ble_eq_true rfl, Nat.le_of_ble_eq_true rfl⟩ ⟨Nat.le_refl _, Nat.le_refl _⟩ dX5_takeComparison_6 fun H1 locs1 hz hP hS => ?_
  refine lv_if_eq (tgt := 25) hx hb dX5_takeComparison_9 rfl (fun hc9 => ?_) (fun hc9 => ?_)
  · have h := itt_e h hc9
    refine lv_aload_n hx hb dX5_takeComparison_25 rfl (lv_at hl 1 rfl) ?_
    obtain ⟨q26, e26, h⟩ := obn_e h
    refine z_Vv (k := 12) (v1 := q26) hx hb hml hts hown hK hP hS hz hE (c_Reader_fail hk e26) kX5_fail mX5_84 hk.1 rfl rfl rfl hl.1 (Nat.le_of_ble_eq_true rfl) ⟨Nat.le_of_ble_eq_true rfl, Nat.le_of_ble_eq_true rfl⟩ ⟨Nat.le_refl _, Nat.le_refl _⟩ dX5_takeComparison_26 fun H1 locs1 hz hP hS => ?_
    refine lv_iload_n hx hb dX5_takeComparison_29 rfl (lv_at hl 0 rfl) ?_
    exact w_iret hx hb hret rfl hlk hK hP hS hz hE (q_p2 h) dX5_takeComparison_30
  · have h := itf_e h hc9
    refine lv_aload_n hx hb dX5_takeComparison_12 rfl (lv_at hl 1 rfl) ?_
    refine lv_dup hx hb dX5_takeComparison_13 rfl ?_
    refine w_gi (k := 12) hx hb hts hown hK hP fX5_38 hk.1 rfl dX5_takeComparison_14 ?_
    refine lv_iconst (v := 1) hx hb dX5_takeComparison_17 rfl ?_
    refine lv_iadd hx hb dX5_takeComparison_18 ?_
    obtain ⟨v19, e19, h⟩ := bnd_e h
    refine w_pi2 (k := 12) hx hb hts hown hK hP hS hz fX5_38 hk.1 rfl e19 dX5_takeComparison_19 fun H1 locs1 hz hP hS => ?_
    refine lv_goto (tgt := 29) hx hb dX5_takeComparison_22 rfl ?_
    refine lv_iload_n hx hb dX5_takeComparison_29 rfl (lv_at hl 0 rfl) ?_
    exact w_iret hx hb hret rfl hlk hK hP hS hz hE (q_p2 h) dX5_takeComparison_30
def b_Reader_test_7 (GV : Nat → List Int32 → Va → Option Va) (a1 : Int32) (K7 : (Int32 × Va) → Option Va) (t7 : Int32 × Va) : Option Va := if 400 ≤ t7.1 then (some t7.2) else ((f_Reader_seen t7.2).bind fun q15 => if q15 = 29 then (bnd (pu t7.2 12 6 ((t7.2 12 6) + 1)) fun v30 => (GV 1 [a1] v30).bind fun q35 => (f_Steps_add q35 42 29 0 0).bind fun q49 => K7 ((t7.1 + 1), q49)) else (some t7.2))
def f_Reader_test (z : Nat) (GV : Nat → List Int32 → Va → Option Va) (v : Va) (a1 : Int32) : Option Va := (GV 1 [a1] v).bind fun q2 => rp (b_Reader_test_7 GV a1) z (0, q2)
theorem c_Reader_test {a1 : Int32} {GV : Nat → List Int32 → Va → Option Va} {hh : Nat} (hk : isReader sh) (hc : 3 ≤ hh) (ig1 : ∀ (a1 : Int32) (v : Va) (q : Va), GV 1 [a1] v = some q → MetV l yX5_both cX5_both 3 none hh Γ sh v w n [.ref (Γ.2.1 + 12), .int a1] (fun u => u = q)) {q : Va} (h : f_Reader_test z GV v a1 = some q) : MetV l yX5_test cX5_test 3 none (hh + 1) Γ sh v w n [.ref (Γ.2.1 + 12), .int a1] (fun u => u = q) := by
  unfold f_Reader_test at h
  refine w_start pn_X5 (Nat.le_of_ble_eq_true rfl) fun p e s m args below meth c hx hb hml hret hlk hnm hts hown hK hP hz hE hS ls hl => ?_
  refine lv_aload_n hx hb dX5_test_0 rfl (lv_at hl 0 rfl) ?_
  refine lv_iload_n hx hb dX5_test_1 rfl (lv_at hl 1 rfl) ?_
  obtain ⟨q2, e2, h⟩ := obn_e h
  refine z_Vv (k := 12) (v1 := q2) hx hb hml hts hown hK hP hS hz hE (ig1 _ _ _ e2) kX5_both mX5_181 hk.1 rfl rfl rfl hl.1 (Nat.le_of_ble_eq_true rfl) (q_room (Nat.le_refl _) (Nat.le_refl _) (Nat.le_of_ble_eq_true rfl)) ⟨Nat.le_refl _, Nat.le_refl _⟩ dX5_test_2 fun H1 locs1 hz hP hS => ?_
  refine lv_iconst (v := 0) hx hb dX5_test_5 rfl ?_
  refine lv_istore_n (lv' := [(2, .int 0), (0, .ref (Γ.2.1 + 12)), (1, .int a1)]) hx hb dX5_test_6 rfl hl (by decide) rfl fun ls hl => ?_
  have L7 : ∀ (fu : Nat) (t7 : Int32 × Va), rp (b_Reader_test_7 GV a1) fu t7 = some q → ∀ (H1 : Heap) (locs1 : List Loc) (ls1 : Array Slot), lv_has ls1 3 [(0, .ref (Γ.2.1 + 12)), (1, .int a1), (2, .int t7.1)] → Wd Γ sh t7.2 w H1 → va_S (gA Γ sh n) s.heap H1 locs1 → H1.size = Γ.2.1 + n → wpV Γ sh w n (hh + 1) (fun u => u = q) p l e s m args below meth c H1 locs1 (F0 m 7 ls1 []) := by
    refine q_loop (fun K7 ih7 t7 h H1 locs1 ls hl hP hS hz => ?_)
    unfold b_Reader_test_7 at h
    refine lv_iload_n hx hb dX5_test_7 rfl (lv_at hl 2 rfl) ?_
    refine lv_sipush (v := 400) hx hb dX5_test_8 rfl ?_
    refine lv_icmp_ge (tgt := 58) hx hb dX5_test_11 rfl (fun hc11 => ?_) (fun hc11 => ?_)
    · have h := itt_e h hc11
      exact w_vret hx hb hret hlk hK hP hS hz hE (Option.some.inj h) dX5_test_58
    · have h := itf_e h hc11
      refine lv_aload_n hx hb dX5_test_14 rfl (lv_at hl 0 rfl) ?_
      obtain ⟨q15, e15, h⟩ := obn_e h
      refine z_Vi (k := 12) (r1 := q15) (v1 := t7.2) hx hb hml hts hown hK hP hS hz hE (c_Reader_seen hk e15) kX5_seen mX5_63 hk.1 rfl rfl rfl hl.1 (Nat.le_of_ble_eq_true rfl) (q_room hc (Nat.le_of_ble_eq_true rfl) (Nat.le_of_ble_eq_true rfl)) ⟨Nat.le_refl _, Nat.le_refl _⟩ dX5_test_15 fun H1 locs1 hz hP hS => ?_
      refine lv_bipush (v := 29) hx hb dX5_test_18 rfl ?_
      refine lv_icmp_ne (tgt := 58) hx hb dX5_test_20 rfl (fun hc20 => ?_) (fun hc20 => ?_)
      · have h := itf_e h hc20
        exact w_vret hx hb hret hlk hK hP hS hz hE (Option.some.inj h) dX5_test_58
      · have h := itt_e h hc20
        refine lv_aload_n hx hb dX5_test_23 rfl (lv_at hl 0 rfl) ?_
        refine lv_dup hx hb dX5_test_24 rfl ?_
        refine w_gi (k := 12) hx hb hts hown hK hP fX5_38 hk.1 rfl dX5_test_25 ?_
        refine lv_iconst (v := 1) hx hb dX5_test_28 rfl ?_
        refine lv_iadd hx hb dX5_test_29 ?_
        obtain ⟨v30, e30, h⟩ := bnd_e h
        refine w_pi2 (k := 12) hx hb hts hown hK hP hS hz fX5_38 hk.1 rfl e30 dX5_test_30 fun H1 locs1 hz hP hS => ?_
        refine lv_aload_n hx hb dX5_test_33 rfl (lv_at hl 0 rfl) ?_
        refine lv_iload_n hx hb dX5_test_34 rfl (lv_at hl 1 rfl) ?_
        obtain ⟨q35, e35, h⟩ := obn_e h
        refine z_Vv (k := 12) (v1 := q35) hx hb hml hts hown hK hP hS hz hE (ig1 _ _ _ e35) kX5_both mX5_181 hk.1 rfl rfl rfl hl.1 (Nat.le_of_ble_eq_true rfl) (q_room (Nat.le_refl _) (Nat.le_refl _) (Nat.le_of_ble_eq_true rfl)) ⟨Nat.le_refl _, Nat.le_refl _⟩ dX5_test_35 fun H1 locs1 hz hP hS => ?_
        refine lv_aload_n hx hb dX5_test_38 rfl (lv_at hl 0 rfl) ?_
        refine w_gr (k := 12) (r := 13) hx hb hts hown hK hP fX5_16 hk.1 rfl dX5_test_39 ?_
        refine w_gr (k := 13) (r := 42) hx hb hts hown hK hP fX5_107 hk.2.1.1 rfl dX5_test_42 ?_
        refine lv_bipush (v := 29) hx hb dX5_test_45 rfl ?_
        refine lv_iconst (v := 0) hx hb dX5_test_47 rfl ?_
        refine lv_iconst (v := 0) hx hb dX5_test_48 rfl ?_
        obtain ⟨q49, e49, h⟩ := obn_e h
        refine z_Vv (k := 42) (v1 := q49) hx hb hml hts hown hK hP hS hz hE (c_Steps_add hk.2.1.2.2.2.2.2.2.2.2.2.2.2.2.2.2.2 e49) kX9_add mX5_184 hk.2.1.2.2.2.2.2.2.2.2.2.2.2.2.2.2.2.1 rfl rfl rfl hl.1 (Nat.le_of_ble_eq_true rfl) (q_room hc (Nat.le_of_ble_eq_true rfl) (Nat.le_of_ble_eq_true rfl)) ⟨Nat.le_refl _, Nat.le_refl _⟩ dX5_test_49 fun H1 locs1 hz hP hS => ?_
        refine lv_iinc (k := 2) (v := (t7.1 + 1)) (lv' := [(2, .int (t7.1 + 1)), (0, .ref (Γ.2.1 + 12)), (1, .int a1)]) hx hb dX5_test_52 hl rfl rfl (by decide) rfl fun ls hl => ?_
        refine lv_goto (tgt := 7) hx hb dX5_test_55 rfl ?_
        exact ih7 ((t7.1 + 1), q49) h _ _ _ (lv_sub hl [1, 2, 0] rfl) hP hS hz
  exact L7 z (0, q2) h _ _ _ (lv_sub hl [1, 2, 0] rfl) hP hS hz
def b_Reader_both_7 (GV : Nat → List Int32 → Va → Option Va) (a1 : Int32) (K7 : (Int32 × Va) → Option Va) (t7 : Int32 × Va) : Option Va := if 400 ≤ t7.1 then (some t7.2) else ((f_Reader_seen t7.2).bind fun q15 => if q15 = 28 then (bnd (pu t7.2 12 6 ((t7.2 12 6) + 1)) fun v30 => (GV 2 [a1] v30).bind fun q35 => (f_Steps_add q35 42 28 0 0).bind fun q49 => K7 ((t7.1 + 1), q49)) else (some t7.2))
def f_Reader_both (z : Nat) (GV : Nat → List Int32 → Va → Option Va) (v : Va) (a1 : Int32) : Option Va := (GV 2 [a1] v).bind fun q2 => rp (b_Reader_both_7 GV a1) z (0, q2)
theorem c_Reader_both {a1 : Int32} {GV : Nat → List Int32 → Va → Option Va} {hh : Nat} (hk : isReader sh) (hc : 3 ≤ hh) (ig2 : ∀ (a1 : Int32) (v : Va) (q : Va), GV 2 [a1] v = some q → MetV l yX5_single cX5_single 4 none hh Γ sh v w n [.ref (Γ.2.1 + 12), .int a1] (fun u => u = q)) {q : Va} (h : f_Reader_both z GV v a1 = some q) : MetV l yX5_both cX5_both 3 none (hh + 1) Γ sh v w n [.ref (Γ.2.1 + 12), .int a1] (fun u => u = q) := by
  unfold f_Reader_both at h
  refine w_start pn_X5 (Nat.le_of_ble_eq_true rfl) fun p e s m args below meth c hx hb hml hret hlk hnm hts hown hK hP hz hE hS ls hl => ?_
  refine lv_aload_n hx hb dX5_both_0 rfl (lv_at hl 0 rfl) ?_
  refine lv_iload_n hx hb dX5_both_1 rfl (lv_at hl 1 rfl) ?_
  obtain ⟨q2, e2, h⟩ := obn_e h
  refine z_Vv (k := 12) (v1 := q2) hx hb hml hts hown hK hP hS hz hE (ig2 _ _ _ e2) kX5_single mX5_188 hk.1 rfl rfl rfl hl.1 (Nat.le_of_ble_eq_true rfl) (q_room (Nat.le_refl _) (Nat.le_refl _) (Nat.le_of_ble_eq_true rfl)) ⟨Nat.le_refl _, Nat.le_refl _⟩ dX5_both_2 fun H1 locs1 hz hP hS => ?_
  refine lv_iconst (v := 0) hx hb dX5_both_5 rfl ?_
  refine lv_istore_n (lv' := [(2, .int 0), (0, .ref (Γ.2.1 + 12)), (1, .int a1)]) hx hb dX5_both_6 rfl hl (by decide) rfl fun ls hl => ?_
  have L7 : ∀ (fu : Nat) (t7 : Int32 × Va), rp (b_Reader_both_7 GV a1) fu t7 = some q → ∀ (H1 : Heap) (locs1 : List Loc) (ls1 : Array Slot), lv_has ls1 3 [(0, .ref (Γ.2.1 + 12)), (1, .int a1), (2, .int t7.1)] → Wd Γ sh t7.2 w H1 → va_S (gA Γ sh n) s.heap H1 locs1 → H1.size = Γ.2.1 + n → wpV Γ sh w n (hh + 1) (fun u => u = q) p l e s m args below meth c H1 locs1 (F0 m 7 ls1 []) := by
    refine q_loop (fun K7 ih7 t7 h H1 locs1 ls hl hP hS hz => ?_)
    unfold b_Reader_both_7 at h
    refine lv_iload_n hx hb dX5_both_7 rfl (lv_at hl 2 rfl) ?_
    refine lv_sipush (v := 400) hx hb dX5_both_8 rfl ?_
    refine lv_icmp_ge (tgt := 58) hx hb dX5_both_11 rfl (fun hc11 => ?_) (fun hc11 => ?_)
    · have h := itt_e h hc11
      exact w_vret hx hb hret hlk hK hP hS hz hE (Option.some.inj h) dX5_both_58
    · have h := itf_e h hc11
      refine lv_aload_n hx hb dX5_both_14 rfl (lv_at hl 0 rfl) ?_
      obtain ⟨q15, e15, h⟩ := obn_e h
      refine z_Vi (k := 12) (r1 := q15) (v1 := t7.2) hx hb hml hts hown hK hP hS hz hE (c_Reader_seen hk e15) kX5_seen mX5_63 hk.1 rfl rfl rfl hl.1 (Nat.le_of_ble_eq_true rfl) (q_room hc (Nat.le_of_ble_eq_true rfl) (Nat.le_of_ble_eq_true rfl)) ⟨Nat.le_refl _, Nat.le_refl _⟩ dX5_both_15 fun H1 locs1 hz hP hS => ?_
      refine lv_bipush (v := 28) hx hb dX5_both_18 rfl ?_
      refine lv_icmp_ne (tgt := 58) hx hb dX5_both_20 rfl (fun hc20 => ?_) (fun hc20 => ?_)
      · have h := itf_e h hc20
        exact w_vret hx hb hret hlk hK hP hS hz hE (Option.some.inj h) dX5_both_58
      · have h := itt_e h hc20
        refine lv_aload_n hx hb dX5_both_23 rfl (lv_at hl 0 rfl) ?_
        refine lv_dup hx hb dX5_both_24 rfl ?_
        refine w_gi (k := 12) hx hb hts hown hK hP fX5_38 hk.1 rfl dX5_both_25 ?_
        refine lv_iconst (v := 1) hx hb dX5_both_28 rfl ?_
        refine lv_iadd hx hb dX5_both_29 ?_
        obtain ⟨v30, e30, h⟩ := bnd_e h
        refine w_pi2 (k := 12) hx hb hts hown hK hP hS hz fX5_38 hk.1 rfl e30 dX5_both_30 fun H1 locs1 hz hP hS => ?_
        refine lv_aload_n hx hb dX5_both_33 rfl (lv_at hl 0 rfl) ?_
        refine lv_iload_n hx hb dX5_both_34 rfl (lv_at hl 1 rfl) ?_
        obtain ⟨q35, e35, h⟩ := obn_e h
        refine z_Vv (k := 12) (v1 := q35) hx hb hml hts hown hK hP hS hz hE (ig2 _ _ _ e35) kX5_single mX5_188 hk.1 rfl rfl rfl hl.1 (Nat.le_of_ble_eq_true rfl) (q_room (Nat.le_refl _) (Nat.le_refl _) (Nat.le_of_ble_eq_true rfl)) ⟨Nat.le_refl _, Nat.le_refl _⟩ dX5_both_35 fun H1 locs1 hz hP hS => ?_
        refine lv_aload_n hx hb dX5_both_38 rfl (lv_at hl 0 rfl) ?_
        refine w_gr (k := 12) (r := 13) hx hb hts hown hK hP fX5_16 hk.1 rfl dX5_both_39 ?_
        refine w_gr (k := 13) (r := 42) hx hb hts hown hK hP fX5_107 hk.2.1.1 rfl dX5_both_42 ?_
        refine lv_bipush (v := 28) hx hb dX5_both_45 rfl ?_
        refine lv_iconst (v := 0) hx hb dX5_both_47 rfl ?_
        refine lv_iconst (v := 0) hx hb dX5_both_48 rfl ?_
        obtain ⟨q49, e49, h⟩ := obn_e h
        refine z_Vv (k := 42) (v1 := q49) hx hb hml hts hown hK hP hS hz hE (c_Steps_add hk.2.1.2.2.2.2.2.2.2.2.2.2.2.2.2.2.2 e49) kX9_add mX5_184 hk.2.1.2.2.2.2.2.2.2.2.2.2.2.2.2.2.2.1 rfl rfl rfl hl.1 (Nat.le_of_ble_eq_true rfl) (q_room hc (Nat.le_of_ble_eq_true rfl) (Nat.le_of_ble_eq_true rfl)) ⟨Nat.le_refl _, Nat.le_refl _⟩ dX5_both_49 fun H1 locs1 hz hP hS => ?_
        refine lv_iinc (k := 2) (v := (t7.1 + 1)) (lv' := [(2, .int (t7.1 + 1)), (0, .ref (Γ.2.1 + 12)), (1, .int a1)]) hx hb dX5_both_52 hl rfl rfl (by decide) rfl fun ls hl => ?_
        refine lv_goto (tgt := 7) hx hb dX5_both_55 rfl ?_
        exact ih7 ((t7.1 + 1), q49) h _ _ _ (lv_sub hl [1, 2, 0] rfl) hP hS hz
  exact L7 z (0, q2) h _ _ _ (lv_sub hl [1, 2, 0] rfl) hP hS hz
def f_Reader_single (z : Nat) (GV : Nat → List Int32 → Va → Option Va) (v : Va) (a1 : Int32) : Option Va := (f_Reader_seen v).bind fun q1 => if q1 = 26 then (bnd (pu v 12 6 ((v 12 6) + 1)) fun v63 => (f_Reader_takeName z v63 55 6).bind fun q71 => (f_Reader_takeName z q71.2 58 10).bind fun q90 => (f_Steps_add q90.2 42 26 q71.1 q90.1).bind fun q93 => some q93) else (if q1 = 27 then ((GV 3 [a1] v).bind fun q42 => some q42) else (if q1 = 34 then ((GV 4 [a1] v).bind fun q50 => some q50) else ((GV 5 [a1] v).bind fun q101 => (f_Reader_takeComparison q101).bind fun q105 => (GV 5 [a1] q105.2).bind fun q111 => (f_Steps_add q111 42 q105.1 0 0).bind fun q124 => some q124)))
theorem c_Reader_single {a1 : Int32} {GV : Nat → List Int32 → Va → Option Va} {hh : Nat} (hk : isReader sh) (hc : 3 ≤ hh) (ig3 : ∀ (a1 : Int32) (v : Va) (q : Va), GV 3 [a1] v = some q → MetV l yX5_turnedTest cX5_turnedTest 2 none hh Γ sh v w n [.ref (Γ.2.1 + 12), .int a1] (fun u => u = q)) (ig4 : ∀ (a1 : Int32) (v : Va) (q : Va), GV 4 [a1] v = some q → MetV l yX5_testInBrackets cX5_testInBrackets 2 none hh Γ sh v w n [.ref (Γ.2.1 + 12), .int a1] (fun u => u = q)) (ig5 : ∀ (a1 : Int32) (v : Va) (q : Va), GV 5 [a1] v = some q → MetV l yX5_sum cX5_sum 4 none hh Γ sh v w n [.ref (Γ.2.1 + 12), .int a1] (fun u => u = q)) {q : Va} (h : f_Reader_single z GV v a1 = some q) : MetV l yX5_single cX5_single 4 none (hh + 1) Γ sh v w n [.ref (Γ.2.1 + 12), .int a1] (fun u => u = q) := by
  unfold f_Reader_single at h
  refine w_start pn_X5 (Nat.le_of_ble_eq_true rfl) fun p e s m args below meth c hx hb hml hret hlk hnm hts hown hK hP hz hE hS ls hl => ?_
  refine lv_aload_n hx hb dX5_single_0 rfl (lv_at hl 0 rfl) ?_
  obtain ⟨q1, e1, h⟩ := obn_e h
  refine z_Vi (k := 12) (r1 := q1) (v1 := v) hx hb hml hts hown hK hP hS hz hE (c_Reader_seen hk e1) kX5_seen mX5_63 hk.1 rfl rfl rfl hl.1 (Nat.le_of_ble_eq_true rfl) (q_room hc (Nat.le_of_ble_eq_true rfl) (Nat.le_of_ble_eq_true rfl)) ⟨Nat.le_refl _, Nat.le_refl _⟩ dX5_single_1 fun H1 locs1 hz hP hS => ?_
  by_cases hc4_26 : q1 = 26
  · have h := itt_e h hc4_26
    refine z_lI (y := 26) (tgt := 56) hx hb dX5_single_4 hc4_26 rfl rfl rfl ?_
    refine lv_aload_n hx hb dX5_single_56 rfl (lv_at hl 0 rfl) ?_
    refine lv_dup hx hb dX5_single_57 rfl ?_
    refine w_gi (k := 12) hx hb hts hown hK hP fX5_38 hk.1 rfl dX5_single_58 ?_
    refine lv_iconst (v := 1) hx hb dX5_single_61 rfl ?_
    refine lv_iadd hx hb dX5_single_62 ?_
    obtain ⟨v63, e63, h⟩ := bnd_e h
    refine w_pi2 (k := 12) hx hb hts hown hK hP hS hz fX5_38 hk.1 rfl e63 dX5_single_63 fun H1 locs1 hz hP hS => ?_
    refine lv_aload_n hx hb dX5_single_66 rfl (lv_at hl 0 rfl) ?_
    refine lv_aload_n hx hb dX5_single_67 rfl (lv_at hl 0 rfl) ?_
    refine w_gr (k := 12) (r := 55) hx hb hts hown hK hP fX5_32 hk.1 rfl dX5_single_68 ?_
    obtain ⟨q71, e71, h⟩ := obn_e h
    refine z_Vi (k := 12) (r1 := q71.1) (v1 := q71.2) hx hb hml hts hown hK hP hS hz hE (c_Reader_takeName hk hk.2.2.2.2.2.1 e71) kX5_takeName mX5_145 hk.1 rfl rfl rfl hl.1 (Nat.le_of_ble_eq_true rfl) (q_room hc (Nat.le_of_ble_eq_true rfl) (Nat.le_of_ble_eq_true rfl)) ⟨Nat.le_refl _, Nat.le_refl _⟩ dX5_single_71 fun H1 locs1 hz hP hS => ?_
    refine lv_istore_n (lv' := [(2, .int q71.1), (0, .ref (Γ.2.1 + 12)), (1, .int a1)]) hx hb dX5_single_74 rfl hl (by decide) rfl fun ls hl => ?_
    refine lv_aload_n hx hb dX5_single_75 rfl (lv_at hl 1 rfl) ?_
    refine w_gr (k := 12) (r := 13) hx hb hts hown hK hP fX5_16 hk.1 rfl dX5_single_76 ?_
    refine w_gr (k := 13) (r := 42) hx hb hts hown hK hP fX5_107 hk.2.1.1 rfl dX5_single_79 ?_
    refine lv_bipush (v := 26) hx hb dX5_single_82 rfl ?_
    refine lv_iload_n hx hb dX5_single_84 rfl (lv_at hl 0 rfl) ?_
    refine lv_aload_n hx hb dX5_single_85 rfl (lv_at hl 1 rfl) ?_
    refine lv_aload_n hx hb dX5_single_86 rfl (lv_at hl 1 rfl) ?_
    refine w_gr (k := 12) (r := 58) hx hb hts hown hK hP fX5_35 hk.1 rfl dX5_single_87 ?_
    obtain ⟨q90, e90, h⟩ := obn_e h
    refine z_Vi (k := 12) (r1 := q90.1) (v1 := q90.2) hx hb hml hts hown hK hP hS hz hE (c_Reader_takeName hk hk.2.2.2.2.2.2 e90) kX5_takeName mX5_145 hk.1 rfl rfl rfl hl.1 (Nat.le_of_ble_eq_true rfl) (q_room hc (Nat.le_of_ble_eq_true rfl) (Nat.le_of_ble_eq_true rfl)) ⟨Nat.le_refl _, Nat.le_refl _⟩ dX5_single_90 fun H1 locs1 hz hP hS => ?_
    obtain ⟨q93, e93, h⟩ := obn_e h
    refine z_Vv (k := 42) (v1 := q93) hx hb hml hts hown hK hP hS hz hE (c_Steps_add hk.2.1.2.2.2.2.2.2.2.2.2.2.2.2.2.2.2 e93) kX9_add mX5_184 hk.2.1.2.2.2.2.2.2.2.2.2.2.2.2.2.2.2.1 rfl rfl rfl hl.1 (Nat.le_of_ble_eq_true rfl) (q_room hc (Nat.le_of_ble_eq_true rfl) (Nat.le_of_ble_eq_true rfl)) ⟨Nat.le_refl _, Nat.le_refl _⟩ dX5_single_93 fun H1 locs1 hz hP hS => ?_
    refine lv_goto (tgt := 127) hx hb dX5_single_96 rfl ?_
    exact w_vret hx hb hret hlk hK hP hS hz hE (Option.some.inj h) dX5_single_127
  have h := itf_e h hc4_26
  by_cases hc4_27 : q1 = 27
  · have h := itt_e h hc4_27
    refine z_lI (y := 27) (tgt := 40) hx hb dX5_single_4 hc4_27 rfl rfl rfl ?_
    refine lv_aload_n hx hb dX5_single_40 rfl (lv_at hl 0 rfl) ?_
    refine lv_iload_n hx hb dX5_single_41 rfl (lv_at hl 1 rfl) ?_
    obtain ⟨q42, e42, h⟩ := obn_e h
    refine z_Vv (k := 12) (v1 := q42) hx hb hml hts hown hK hP hS hz hE (ig3 _ _ _ e42) kX5_turnedTest mX5_191 hk.1 rfl rfl rfl hl.1 (Nat.le_of_ble_eq_true rfl) (q_room (Nat.le_refl _) (Nat.le_refl _) (Nat.le_of_ble_eq_true rfl)) ⟨Nat.le_refl _, Nat.le_refl _⟩ dX5_single_42 fun H1 locs1 hz hP hS => ?_
    refine lv_goto (tgt := 127) hx hb dX5_single_45 rfl ?_
    exact w_vret hx hb hret hlk hK hP hS hz hE (Option.some.inj h) dX5_single_127
  have h := itf_e h hc4_27
  by_cases hc4_34 : q1 = 34
  · have h := itt_e h hc4_34
    refine z_lI (y := 34) (tgt := 48) hx hb dX5_single_4 hc4_34 rfl rfl rfl ?_
    refine lv_aload_n hx hb dX5_single_48 rfl (lv_at hl 0 rfl) ?_
    refine lv_iload_n hx hb dX5_single_49 rfl (lv_at hl 1 rfl) ?_
    obtain ⟨q50, e50, h⟩ := obn_e h
    refine z_Vv (k := 12) (v1 := q50) hx hb hml hts hown hK hP hS hz hE (ig4 _ _ _ e50) kX5_testInBrackets mX5_194 hk.1 rfl rfl rfl hl.1 (Nat.le_of_ble_eq_true rfl) (q_room (Nat.le_refl _) (Nat.le_refl _) (Nat.le_of_ble_eq_true rfl)) ⟨Nat.le_refl _, Nat.le_refl _⟩ dX5_single_50 fun H1 locs1 hz hP hS => ?_
    refine lv_goto (tgt := 127) hx hb dX5_single_53 rfl ?_
    exact w_vret hx hb hret hlk hK hP hS hz hE (Option.some.inj h) dX5_single_127
  have h := itf_e h hc4_34
  refine z_lD (tgt := 99) hx hb [26, 27, 34] dX5_single_4 (q_nc hc4_26 (q_nc hc4_27 (q_nc hc4_34 q_nn))) (by decide) (by decide) rfl ?_
  refine lv_aload_n hx hb dX5_single_99 rfl (lv_at hl 0 rfl) ?_
  refine lv_iload_n hx hb dX5_single_100 rfl (lv_at hl 1 rfl) ?_
  obtain ⟨q101, e101, h⟩ := obn_e h
  refine z_Vv (k := 12) (v1 := q101) hx hb hml hts hown hK hP hS hz hE (ig5 _ _ _ e101) kX5_sum mX5_169 hk.1 rfl rfl rfl hl.1 (Nat.le_of_ble_eq_true rfl) (q_room (Nat.le_refl _) (Nat.le_refl _) (Nat.le_of_ble_eq_true rfl)) ⟨Nat.le_refl _, Nat.le_refl _⟩ dX5_single_101 fun H1 locs1 hz hP hS => ?_
  refine lv_aload_n hx hb dX5_single_104 rfl (lv_at hl 0 rfl) ?_
  obtain ⟨q105, e105, h⟩ := obn_e h
  refine z_Vi (k := 12) (r1 := q105.1) (v1 := q105.2) hx hb hml hts hown hK hP hS hz hE (c_Reader_takeComparison hk e105) kX5_takeComparison mX5_197 hk.1 rfl rfl rfl hl.1 (Nat.le_of_ble_eq_true rfl) (q_room hc (Nat.le_of_ble_eq_true rfl) (Nat.le_of_ble_eq_true rfl)) ⟨Nat.le_refl _, Nat.le_refl _⟩ dX5_single_105 fun H1 locs1 hz hP hS => ?_
  refine lv_istore_n (lv' := [(3, .int q105.1), (0, .ref (Γ.2.1 + 12)), (1, .int a1)]) hx hb dX5_single_108 rfl hl (by decide) rfl fun ls hl => ?_
  refine lv_aload_n hx hb dX5_single_109 rfl (lv_at hl 1 rfl) ?_
  refine lv_iload_n hx hb dX5_single_110 rfl (lv_at hl 2 rfl) ?_
  obtain ⟨q111, e111, h⟩ := obn_e h
  refine z_Vv (k := 12) (v1 := q111) hx hb hml hts hown hK hP hS hz hE (ig5 _ _ _ e111) kX5_sum mX5_169 hk.1 rfl rfl rfl hl.1 (Nat.le_of_ble_eq_true rfl) (q_room (Nat.le_refl _) (Nat.le_refl _) (Nat.le_of_ble_eq_true rfl)) ⟨Nat.le_refl _, Nat.le_refl _⟩ dX5_single_111 fun H1 locs1 hz hP hS => ?_
  refine lv_aload_n hx hb dX5_single_114 rfl (lv_at hl 1 rfl) ?_
  refine w_gr (k := 12) (r := 13) hx hb hts hown hK hP fX5_16 hk.1 rfl dX5_single_115 ?_
  refine w_gr (k := 13) (r := 42) hx hb hts hown hK hP fX5_107 hk.2.1.1 rfl dX5_single_118 ?_
  refine lv_iload_n hx hb dX5_single_121 rfl (lv_at hl 0 rfl) ?_
  refine lv_iconst (v := 0) hx hb dX5_single_122 rfl ?_
  refine lv_iconst (v := 0) hx hb dX5_single_123 rfl ?_
  obtain ⟨q124, e124, h⟩ := obn_e h
  refine z_Vv (k := 42) (v1 := q124) hx hb hml hts hown hK hP hS hz hE (c_Steps_add hk.2.1.2.2.2.2.2.2.2.2.2.2.2.2.2.2.2 e124) kX9_add mX5_184 hk.2.1.2.2.2.2.2.2.2.2.2.2.2.2.2.2.2.1 rfl rfl rfl hl.1 (Nat.le_of_ble_eq_true rfl) (q_room hc (Nat.le_of_ble_eq_true rfl) (Nat.le_of_ble_eq_true rfl)) ⟨Nat.le_refl _, Nat.le_refl _⟩ dX5_single_124 fun H1 locs1 hz hP hS => ?_
  exact w_vret hx hb hret hlk hK hP hS hz hE (Option.some.inj h) dX5_single_127
def f_Reader_turnedTest (z : Nat) (GV : Nat → List Int32 → Va → Option Va) (v : Va) (a1 : Int32) : Option Va := (f_Reader_goesDeeper v 27 a1).bind fun q4 => if (q_b q4.1) = 0 then (some q4.2) else ((GV 2 [(a1 + 1)] q4.2).bind fun q14 => (f_Steps_add q14 42 27 0 0).bind fun q28 => some q28)
theorem c_Reader_turnedTest {a1 : Int32} {GV : Nat → List Int32 → Va → Option Va} {hh : Nat} (hk : isReader sh) (hc : 3 ≤ hh) (ig2 : ∀ (a1 : Int32) (v : Va) (q : Va), GV 2 [a1] v = some q → MetV l yX5_single cX5_single 4 none hh Γ sh v w n [.ref (Γ.2.1 + 12), .int a1] (fun u => u = q)) {q : Va} (h : f_Reader_turnedTest z GV v a1 = some q) : MetV l yX5_turnedTest cX5_turnedTest 2 none (hh + 1) Γ sh v w n [.ref (Γ.2.1 + 12), .int a1] (fun u => u = q) := by
  unfold f_Reader_turnedTest at h
  refine w_start pn_X5 (Nat.le_of_ble_eq_true rfl) fun p e s m args below meth c hx hb hml hret hlk hnm hts hown hK hP hz hE hS ls hl => ?_
  refine lv_aload_n hx hb dX5_turnedTest_0 rfl (lv_at hl 0 rfl) ?_
  refine lv_bipush (v := 27) hx hb dX5_turnedTest_1 rfl ?_
  refine lv_iload_n hx hb dX5_turnedTest_3 rfl (lv_at hl 1 rfl) ?_
  obtain ⟨q4, e4, h⟩ := obn_e h
  refine z_Vi (k := 12) (r1 := (q_b q4.1)) (v1 := q4.2) hx hb hml hts hown hK hP hS hz hE (c_Reader_goesDeeper hk e4) kX5_goesDeeper mX5_200 hk.1 rfl rfl rfl hl.1 (Nat.le_of_ble_eq_true rfl) (q_room hc (Nat.le_of_ble_eq_true rfl) (Nat.le_of_ble_eq_true rfl)) ⟨Nat.le_refl _, Nat.le_refl _⟩ dX5_turnedTest_4 fun H1 locs1 hz hP hS => ?_
  refine lv_if_eq (tgt := 31) hx hb dX5_turnedTest_7 rfl (fun hc7 => ?_) (fun hc7 => ?_)
  · have h := itt_e h hc7
    exact w_vret hx hb hret hlk hK hP hS hz hE (Option.some.inj h) dX5_turnedTest_31
  · have h := itf_e h hc7
    refine lv_aload_n hx hb dX5_turnedTest_10 rfl (lv_at hl 0 rfl) ?_
    refine lv_iload_n hx hb dX5_turnedTest_11 rfl (lv_at hl 1 rfl) ?_
    refine lv_iconst (v := 1) hx hb dX5_turnedTest_12 rfl ?_
    refine lv_iadd hx hb dX5_turnedTest_13 ?_
    obtain ⟨q14, e14, h⟩ := obn_e h
    refine z_Vv (k := 12) (v1 := q14) hx hb hml hts hown hK hP hS hz hE (ig2 _ _ _ e14) kX5_single mX5_188 hk.1 rfl rfl rfl hl.1 (Nat.le_of_ble_eq_true rfl) (q_room (Nat.le_refl _) (Nat.le_refl _) (Nat.le_of_ble_eq_true rfl)) ⟨Nat.le_refl _, Nat.le_refl _⟩ dX5_turnedTest_14 fun H1 locs1 hz hP hS => ?_
    refine lv_aload_n hx hb dX5_turnedTest_17 rfl (lv_at hl 0 rfl) ?_
    refine w_gr (k := 12) (r := 13) hx hb hts hown hK hP fX5_16 hk.1 rfl dX5_turnedTest_18 ?_
    refine w_gr (k := 13) (r := 42) hx hb hts hown hK hP fX5_107 hk.2.1.1 rfl dX5_turnedTest_21 ?_
    refine lv_bipush (v := 27) hx hb dX5_turnedTest_24 rfl ?_
    refine lv_iconst (v := 0) hx hb dX5_turnedTest_26 rfl ?_
    refine lv_iconst (v := 0) hx hb dX5_turnedTest_27 rfl ?_
    obtain ⟨q28, e28, h⟩ := obn_e h
    refine z_Vv (k := 42) (v1 := q28) hx hb hml hts hown hK hP hS hz hE (c_Steps_add hk.2.1.2.2.2.2.2.2.2.2.2.2.2.2.2.2.2 e28) kX9_add mX5_184 hk.2.1.2.2.2.2.2.2.2.2.2.2.2.2.2.2.2.1 rfl rfl rfl hl.1 (Nat.le_of_ble_eq_true rfl) (q_room hc (Nat.le_of_ble_eq_true rfl) (Nat.le_of_ble_eq_true rfl)) ⟨Nat.le_refl _, Nat.le_refl _⟩ dX5_turnedTest_28 fun H1 locs1 hz hP hS => ?_
    exact w_vret hx hb hret hlk hK hP hS hz hE (Option.some.inj h) dX5_turnedTest_31
def f_Reader_testInBrackets (z : Nat) (GV : Nat → List Int32 → Va → Option Va) (v : Va) (a1 : Int32) : Option Va := (f_Reader_goesDeeper v 34 a1).bind fun q4 => if (q_b q4.1) = 0 then (some q4.2) else ((GV 0 [(a1 + 1)] q4.2).bind fun q14 => (f_Reader_take q14 35).bind fun q20 => some q20)
theorem c_Reader_testInBrackets {a1 : Int32} {GV : Nat → List Int32 → Va → Option Va} {hh : Nat} (hk : isReader sh) (hc : 3 ≤ hh) (ig0 : ∀ (a1 : Int32) (v : Va) (q : Va), GV 0 [a1] v = some q → MetV l yX5_test cX5_test 3 none hh Γ sh v w n [.ref (Γ.2.1 + 12), .int a1] (fun u => u = q)) {q : Va} (h : f_Reader_testInBrackets z GV v a1 = some q) : MetV l yX5_testInBrackets cX5_testInBrackets 2 none (hh + 1) Γ sh v w n [.ref (Γ.2.1 + 12), .int a1] (fun u => u = q) := by
  unfold f_Reader_testInBrackets at h
  refine w_start pn_X5 (Nat.le_of_ble_eq_true rfl) fun p e s m args below meth c hx hb hml hret hlk hnm hts hown hK hP hz hE hS ls hl => ?_
  refine lv_aload_n hx hb dX5_testInBrackets_0 rfl (lv_at hl 0 rfl) ?_
  refine lv_bipush (v := 34) hx hb dX5_testInBrackets_1 rfl ?_
  refine lv_iload_n hx hb dX5_testInBrackets_3 rfl (lv_at hl 1 rfl) ?_
  obtain ⟨q4, e4, h⟩ := obn_e h
  refine z_Vi (k := 12) (r1 := (q_b q4.1)) (v1 := q4.2) hx hb hml hts hown hK hP hS hz hE (c_Reader_goesDeeper hk e4) kX5_goesDeeper mX5_200 hk.1 rfl rfl rfl hl.1 (Nat.le_of_ble_eq_true rfl) (q_room hc (Nat.le_of_ble_eq_true rfl) (Nat.le_of_ble_eq_true rfl)) ⟨Nat.le_refl _, Nat.le_refl _⟩ dX5_testInBrackets_4 fun H1 locs1 hz hP hS => ?_
  refine lv_if_eq (tgt := 23) hx hb dX5_testInBrackets_7 rfl (fun hc7 => ?_) (fun hc7 => ?_)
  · have h := itt_e h hc7
    exact w_vret hx hb hret hlk hK hP hS hz hE (Option.some.inj h) dX5_testInBrackets_23
  · have h := itf_e h hc7
    refine lv_aload_n hx hb dX5_testInBrackets_10 rfl (lv_at hl 0 rfl) ?_
    refine lv_iload_n hx hb dX5_testInBrackets_11 rfl (lv_at hl 1 rfl) ?_
    refine lv_iconst (v := 1) hx hb dX5_testInBrackets_12 rfl ?_
    refine lv_iadd hx hb dX5_testInBrackets_13 ?_
    obtain ⟨q14, e14, h⟩ := obn_e h
    refine z_Vv (k := 12) (v1 := q14) hx hb hml hts hown hK hP hS hz hE (ig0 _ _ _ e14) kX5_test mX5_175 hk.1 rfl rfl rfl hl.1 (Nat.le_of_ble_eq_true rfl) (q_room (Nat.le_refl _) (Nat.le_refl _) (Nat.le_of_ble_eq_true rfl)) ⟨Nat.le_refl _, Nat.le_refl _⟩ dX5_testInBrackets_14 fun H1 locs1 hz hP hS => ?_
    refine lv_aload_n hx hb dX5_testInBrackets_17 rfl (lv_at hl 0 rfl) ?_
    refine lv_bipush (v := 35) hx hb dX5_testInBrackets_18 rfl ?_
    obtain ⟨q20, e20, h⟩ := obn_e h
    refine z_Vv (k := 12) (v1 := q20) hx hb hml hts hown hK hP hS hz hE (c_Reader_take hk e20) kX5_take mX5_87 hk.1 rfl rfl rfl hl.1 (Nat.le_of_ble_eq_true rfl) (q_room hc (Nat.le_of_ble_eq_true rfl) (Nat.le_of_ble_eq_true rfl)) ⟨Nat.le_refl _, Nat.le_refl _⟩ dX5_testInBrackets_20 fun H1 locs1 hz hP hS => ?_
    exact w_vret hx hb hret hlk hK hP hS hz hE (Option.some.inj h) dX5_testInBrackets_23
def j_Reader_sum_31 (GV : Nat → List Int32 → Va → Option Va) (a1 : Int32) (K12 : (Int32 × Int32 × Va) → Option Va) (t12 : Int32 × Int32 × Va) : Option Va := bnd (pu t12.2.2 12 6 ((t12.2.2 12 6) + 1)) fun v38 => (GV 6 [a1] v38).bind fun q43 => (f_Steps_add q43 42 t12.1 0 0).bind fun q56 => (f_Reader_seen q56).bind fun q60 => K12 (q60, (t12.2.1 + 1), q56)
def b_Reader_sum_12 (GV : Nat → List Int32 → Va → Option Va) (a1 : Int32) (K12 : (Int32 × Int32 × Va) → Option Va) (t12 : Int32 × Int32 × Va) : Option Va := if 400 ≤ t12.2.1 then (some t12.2.2) else (if t12.1 = 38 then (j_Reader_sum_31 GV a1 K12 t12) else (if t12.1 = 39 then (j_Reader_sum_31 GV a1 K12 t12) else (some t12.2.2)))
def f_Reader_sum (z : Nat) (GV : Nat → List Int32 → Va → Option Va) (v : Va) (a1 : Int32) : Option Va := (GV 6 [a1] v).bind fun q2 => (f_Reader_seen q2).bind fun q6 => rp (b_Reader_sum_12 GV a1) z (q6, 0, q2)
theorem c_Reader_sum {a1 : Int32} {GV : Nat → List Int32 → Va → Option Va} {hh : Nat} (hk : isReader sh) (hc : 3 ≤ hh) (ig6 : ∀ (a1 : Int32) (v : Va) (q : Va), GV 6 [a1] v = some q → MetV l yX5_product cX5_product 4 none hh Γ sh v w n [.ref (Γ.2.1 + 12), .int a1] (fun u => u = q)) {q : Va} (h : f_Reader_sum z GV v a1 = some q) : MetV l yX5_sum cX5_sum 4 none (hh + 1) Γ sh v w n [.ref (Γ.2.1 + 12), .int a1] (fun u => u = q) := by
  unfold f_Reader_sum at h
  refine w_start pn_X5 (Nat.le_of_ble_eq_true rfl) fun p e s m args below meth c hx hb hml hret hlk hnm hts hown hK hP hz hE hS ls hl => ?_
  refine lv_aload_n hx hb dX5_sum_0 rfl (lv_at hl 0 rfl) ?_
  refine lv_iload_n hx hb dX5_sum_1 rfl (lv_at hl 1 rfl) ?_
  obtain ⟨q2, e2, h⟩ := obn_e h
  refine z_Vv (k := 12) (v1 := q2) hx hb hml hts hown hK hP hS hz hE (ig6 _ _ _ e2) kX5_product mX5_204 hk.1 rfl rfl rfl hl.1 (Nat.le_of_ble_eq_true rfl) (q_room (Nat.le_refl _) (Nat.le_refl _) (Nat.le_of_ble_eq_true rfl)) ⟨Nat.le_refl _, Nat.le_refl _⟩ dX5_sum_2 fun H1 locs1 hz hP hS => ?_
  refine lv_aload_n hx hb dX5_sum_5 rfl (lv_at hl 0 rfl) ?_
  obtain ⟨q6, e6, h⟩ := obn_e h
  refine z_Vi (k := 12) (r1 := q6) (v1 := q2) hx hb hml hts hown hK hP hS hz hE (c_Reader_seen hk e6) kX5_seen mX5_63 hk.1 rfl rfl rfl hl.1 (Nat.le_of_ble_eq_true rfl) (q_room hc (Nat.le_of_ble_eq_true rfl) (Nat.le_of_ble_eq_true rfl)) ⟨Nat.le_refl _, Nat.le_refl _⟩ dX5_sum_6 fun H1 locs1 hz hP hS => ?_
  refine lv_istore_n (lv' := [(2, .int q6), (0, .ref (Γ.2.1 + 12)), (1, .int a1)]) hx hb dX5_sum_9 rfl hl (by decide) rfl fun ls hl => ?_
  refine lv_iconst (v := 0) hx hb dX5_sum_10 rfl ?_
  refine lv_istore_n (lv' := [(3, .int 0), (2, .int q6), (0, .ref (Γ.2.1 + 12)), (1, .int a1)]) hx hb dX5_sum_11 rfl hl (by decide) rfl fun ls hl => ?_
  have L12 : ∀ (fu : Nat) (t12 : Int32 × Int32 × Va), rp (b_Reader_sum_12 GV a1) fu t12 = some q → ∀ (H1 : Heap) (locs1 : List Loc) (ls1 : Array Slot), lv_has ls1 4 [(0, .ref (Γ.2.1 + 12)), (1, .int a1), (2, .int t12.1), (3, .int t12.2.1)] → Wd Γ sh t12.2.2 w H1 → va_S (gA Γ sh n) s.heap H1 locs1 → H1.size = Γ.2.1 + n → wpV Γ sh w n (hh + 1) (fun u => u = q) p l e s m args below meth c H1 locs1 (F0 m 12 ls1 []) := by
    refine q_loop (fun K12 ih12 t12 h H1 locs1 ls hl hP hS hz => ?_)
    unfold b_Reader_sum_12 at h
    refine lv_iload_n hx hb dX5_sum_12 rfl (lv_at hl 3 rfl) ?_
    refine lv_sipush (v := 400) hx hb dX5_sum_13 rfl ?_
    refine lv_icmp_ge (tgt := 70) hx hb dX5_sum_16 rfl (fun hc16 => ?_) (fun hc16 => ?_)
    · have h := itt_e h hc16
      exact w_vret hx hb hret hlk hK hP hS hz hE (Option.some.inj h) dX5_sum_70
    · have h := itf_e h hc16
      refine lv_iload_n hx hb dX5_sum_19 rfl (lv_at hl 2 rfl) ?_
      refine lv_bipush (v := 38) hx hb dX5_sum_20 rfl ?_
      have J31 : (j_Reader_sum_31 GV a1 K12 t12) = some q → ∀ (H1 : Heap) (locs1 : List Loc) (ls1 : Array Slot), lv_has ls1 4 [(0, .ref (Γ.2.1 + 12)), (1, .int a1), (2, .int t12.1), (3, .int t12.2.1)] → Wd Γ sh t12.2.2 w H1 → va_S (gA Γ sh n) s.heap H1 locs1 → H1.size = Γ.2.1 + n → wpV Γ sh w n (hh + 1) (fun u => u = q) p l e s m args below meth c H1 locs1 (F0 m 31 ls1 []) := by
        intro  h H1 locs1 ls hl hP hS hz
        unfold j_Reader_sum_31 at h
        refine lv_aload_n hx hb dX5_sum_31 rfl (lv_at hl 0 rfl) ?_
        refine lv_dup hx hb dX5_sum_32 rfl ?_
        refine w_gi (k := 12) hx hb hts hown hK hP fX5_38 hk.1 rfl dX5_sum_33 ?_
        refine lv_iconst (v := 1) hx hb dX5_sum_36 rfl ?_
        refine lv_iadd hx hb dX5_sum_37 ?_
        obtain ⟨v38, e38, h⟩ := bnd_e h
        refine w_pi2 (k := 12) hx hb hts hown hK hP hS hz fX5_38 hk.1 rfl e38 dX5_sum_38 fun H1 locs1 hz hP hS => ?_
        refine lv_aload_n hx hb dX5_sum_41 rfl (lv_at hl 0 rfl) ?_
        refine lv_iload_n hx hb dX5_sum_42 rfl (lv_at hl 1 rfl) ?_
        obtain ⟨q43, e43, h⟩ := obn_e h
        refine z_Vv (k := 12) (v1 := q43) hx hb hml hts hown hK hP hS hz hE (ig6 _ _ _ e43) kX5_product mX5_204 hk.1 rfl rfl rfl hl.1 (Nat.le_of_ble_eq_true rfl) (q_room (Nat.le_refl _) (Nat.le_refl _) (Nat.le_of_ble_eq_true rfl)) ⟨Nat.le_refl _, Nat.le_refl _⟩ dX5_sum_43 fun H1 locs1 hz hP hS => ?_
        refine lv_aload_n hx hb dX5_sum_46 rfl (lv_at hl 0 rfl) ?_
        refine w_gr (k := 12) (r := 13) hx hb hts hown hK hP fX5_16 hk.1 rfl dX5_sum_47 ?_
        refine w_gr (k := 13) (r := 42) hx hb hts hown hK hP fX5_107 hk.2.1.1 rfl dX5_sum_50 ?_
        refine lv_iload_n hx hb dX5_sum_53 rfl (lv_at hl 2 rfl) ?_
        refine lv_iconst (v := 0) hx hb dX5_sum_54 rfl ?_
        refine lv_iconst (v := 0) hx hb dX5_sum_55 rfl ?_
        obtain ⟨q56, e56, h⟩ := obn_e h
        refine z_Vv (k := 42) (v1 := q56) hx hb hml hts hown hK hP hS hz hE (c_Steps_add hk.2.1.2.2.2.2.2.2.2.2.2.2.2.2.2.2.2 e56) kX9_add mX5_184 hk.2.1.2.2.2.2.2.2.2.2.2.2.2.2.2.2.2.1 rfl rfl rfl hl.1 (Nat.le_of_ble_eq_true rfl) (q_room hc (Nat.le_of_ble_eq_true rfl) (Nat.le_of_ble_eq_true rfl)) ⟨Nat.le_refl _, Nat.le_refl _⟩ dX5_sum_56 fun H1 locs1 hz hP hS => ?_
        refine lv_aload_n hx hb dX5_sum_59 rfl (lv_at hl 0 rfl) ?_
        obtain ⟨q60, e60, h⟩ := obn_e h
        refine z_Vi (k := 12) (r1 := q60) (v1 := q56) hx hb hml hts hown hK hP hS hz hE (c_Reader_seen hk e60) kX5_seen mX5_63 hk.1 rfl rfl rfl hl.1 (Nat.le_of_ble_eq_true rfl) (q_room hc (Nat.le_of_ble_eq_true rfl) (Nat.le_of_ble_eq_true rfl)) ⟨Nat.le_refl _, Nat.le_refl _⟩ dX5_sum_60 fun H1 locs1 hz hP hS => ?_
        refine lv_istore_n (lv' := [(2, .int q60), (0, .ref (Γ.2.1 + 12)), (1, .int a1), (3, .int t12.2.1)]) hx hb dX5_sum_63 rfl hl (by decide) rfl fun ls hl => ?_
        refine lv_iinc (k := 3) (v := (t12.2.1 + 1)) (lv' := [(3, .int (t12.2.1 + 1)), (2, .int q60), (0, .ref (Γ.2.1 + 12)), (1, .int a1)]) hx hb dX5_sum_64 hl rfl rfl (by decide) rfl fun ls hl => ?_
        refine lv_goto (tgt := 12) hx hb dX5_sum_67 rfl ?_
        exact ih12 (q60, (t12.2.1 + 1), q56) h _ _ _ (lv_sub hl [2, 3, 1, 0] rfl) hP hS hz
      refine lv_icmp_eq (tgt := 31) hx hb dX5_sum_22 rfl (fun hc22 => ?_) (fun hc22 => ?_)
      · have h := itt_e h hc22
        exact J31 h _ _ _ (lv_sub hl [0, 1, 2, 3] rfl) hP hS hz
      · have h := itf_e h hc22
        refine lv_iload_n hx hb dX5_sum_25 rfl (lv_at hl 2 rfl) ?_
        refine lv_bipush (v := 39) hx hb dX5_sum_26 rfl ?_
        refine lv_icmp_ne (tgt := 70) hx hb dX5_sum_28 rfl (fun hc28 => ?_) (fun hc28 => ?_)
        · have h := itf_e h hc28
          exact w_vret hx hb hret hlk hK hP hS hz hE (Option.some.inj h) dX5_sum_70
        · have h := itt_e h hc28
          exact J31 h _ _ _ (lv_sub hl [0, 1, 2, 3] rfl) hP hS hz
  exact L12 z (q6, 0, q2) h _ _ _ (lv_sub hl [2, 3, 1, 0] rfl) hP hS hz
def j_Reader_product_31 (GV : Nat → List Int32 → Va → Option Va) (a1 : Int32) (K12 : (Int32 × Int32 × Va) → Option Va) (t12 : Int32 × Int32 × Va) : Option Va := bnd (pu t12.2.2 12 6 ((t12.2.2 12 6) + 1)) fun v38 => (GV 7 [a1] v38).bind fun q43 => (f_Steps_add q43 42 t12.1 0 0).bind fun q56 => (f_Reader_seen q56).bind fun q60 => K12 (q60, (t12.2.1 + 1), q56)
def b_Reader_product_12 (GV : Nat → List Int32 → Va → Option Va) (a1 : Int32) (K12 : (Int32 × Int32 × Va) → Option Va) (t12 : Int32 × Int32 × Va) : Option Va := if 400 ≤ t12.2.1 then (some t12.2.2) else (if t12.1 = 40 then (j_Reader_product_31 GV a1 K12 t12) else (if t12.1 = 41 then (j_Reader_product_31 GV a1 K12 t12) else (some t12.2.2)))
def f_Reader_product (z : Nat) (GV : Nat → List Int32 → Va → Option Va) (v : Va) (a1 : Int32) : Option Va := (GV 7 [a1] v).bind fun q2 => (f_Reader_seen q2).bind fun q6 => rp (b_Reader_product_12 GV a1) z (q6, 0, q2)
theorem c_Reader_product {a1 : Int32} {GV : Nat → List Int32 → Va → Option Va} {hh : Nat} (hk : isReader sh) (hc : 3 ≤ hh) (ig7 : ∀ (a1 : Int32) (v : Va) (q : Va), GV 7 [a1] v = some q → MetV l yX5_value cX5_value 4 none hh Γ sh v w n [.ref (Γ.2.1 + 12), .int a1] (fun u => u = q)) {q : Va} (h : f_Reader_product z GV v a1 = some q) : MetV l yX5_product cX5_product 4 none (hh + 1) Γ sh v w n [.ref (Γ.2.1 + 12), .int a1] (fun u => u = q) := by
  unfold f_Reader_product at h
  refine w_start pn_X5 (Nat.le_of_ble_eq_true rfl) fun p e s m args below meth c hx hb hml hret hlk hnm hts hown hK hP hz hE hS ls hl => ?_
  refine lv_aload_n hx hb dX5_product_0 rfl (lv_at hl 0 rfl) ?_
  refine lv_iload_n hx hb dX5_product_1 rfl (lv_at hl 1 rfl) ?_
  obtain ⟨q2, e2, h⟩ := obn_e h
  refine z_Vv (k := 12) (v1 := q2) hx hb hml hts hown hK hP hS hz hE (ig7 _ _ _ e2) kX5_value mX5_207 hk.1 rfl rfl rfl hl.1 (Nat.le_of_ble_eq_true rfl) (q_room (Nat.le_refl _) (Nat.le_refl _) (Nat.le_of_ble_eq_true rfl)) ⟨Nat.le_refl _, Nat.le_refl _⟩ dX5_product_2 fun H1 locs1 hz hP hS => ?_
  refine lv_aload_n hx hb dX5_product_5 rfl (lv_at hl 0 rfl) ?_
  obtain ⟨q6, e6, h⟩ := obn_e h
  refine z_Vi (k := 12) (r1 := q6) (v1 := q2) hx hb hml hts hown hK hP hS hz hE (c_Reader_seen hk e6) kX5_seen mX5_63 hk.1 rfl rfl rfl hl.1 (Nat.le_of_ble_eq_true rfl) (q_room hc (Nat.le_of_ble_eq_true rfl) (Nat.le_of_ble_eq_true rfl)) ⟨Nat.le_refl _, Nat.le_refl _⟩ dX5_product_6 fun H1 locs1 hz hP hS => ?_
  refine lv_istore_n (lv' := [(2, .int q6), (0, .ref (Γ.2.1 + 12)), (1, .int a1)]) hx hb dX5_product_9 rfl hl (by decide) rfl fun ls hl => ?_
  refine lv_iconst (v := 0) hx hb dX5_product_10 rfl ?_
  refine lv_istore_n (lv' := [(3, .int 0), (2, .int q6), (0, .ref (Γ.2.1 + 12)), (1, .int a1)]) hx hb dX5_product_11 rfl hl (by decide) rfl fun ls hl => ?_
  have L12 : ∀ (fu : Nat) (t12 : Int32 × Int32 × Va), rp (b_Reader_product_12 GV a1) fu t12 = some q → ∀ (H1 : Heap) (locs1 : List Loc) (ls1 : Array Slot), lv_has ls1 4 [(0, .ref (Γ.2.1 + 12)), (1, .int a1), (2, .int t12.1), (3, .int t12.2.1)] → Wd Γ sh t12.2.2 w H1 → va_S (gA Γ sh n) s.heap H1 locs1 → H1.size = Γ.2.1 + n → wpV Γ sh w n (hh + 1) (fun u => u = q) p l e s m args below meth c H1 locs1 (F0 m 12 ls1 []) := by
    refine q_loop (fun K12 ih12 t12 h H1 locs1 ls hl hP hS hz => ?_)
    unfold b_Reader_product_12 at h
    refine lv_iload_n hx hb dX5_product_12 rfl (lv_at hl 3 rfl) ?_
    refine lv_sipush (v := 400) hx hb dX5_product_13 rfl ?_
    refine lv_icmp_ge (tgt := 70) hx hb dX5_product_16 rfl (fun hc16 => ?_) (fun hc16 => ?_)
    · have h := itt_e h hc16
      exact w_vret hx hb hret hlk hK hP hS hz hE (Option.some.inj h) dX5_product_70
    · have h := itf_e h hc16
      refine lv_iload_n hx hb dX5_product_19 rfl (lv_at hl 2 rfl) ?_
      refine lv_bipush (v := 40) hx hb dX5_product_20 rfl ?_
      have J31 : (j_Reader_product_31 GV a1 K12 t12) = some q → ∀ (H1 : Heap) (locs1 : List Loc) (ls1 : Array Slot), lv_has ls1 4 [(0, .ref (Γ.2.1 + 12)), (1, .int a1), (2, .int t12.1), (3, .int t12.2.1)] → Wd Γ sh t12.2.2 w H1 → va_S (gA Γ sh n) s.heap H1 locs1 → H1.size = Γ.2.1 + n → wpV Γ sh w n (hh + 1) (fun u => u = q) p l e s m args below meth c H1 locs1 (F0 m 31 ls1 []) := by
        intro  h H1 locs1 ls hl hP hS hz
        unfold j_Reader_product_31 at h
        refine lv_aload_n hx hb dX5_product_31 rfl (lv_at hl 0 rfl) ?_
        refine lv_dup hx hb dX5_product_32 rfl ?_
        refine w_gi (k := 12) hx hb hts hown hK hP fX5_38 hk.1 rfl dX5_product_33 ?_
        refine lv_iconst (v := 1) hx hb dX5_product_36 rfl ?_
        refine lv_iadd hx hb dX5_product_37 ?_
        obtain ⟨v38, e38, h⟩ := bnd_e h
        refine w_pi2 (k := 12) hx hb hts hown hK hP hS hz fX5_38 hk.1 rfl e38 dX5_product_38 fun H1 locs1 hz hP hS => ?_
        refine lv_aload_n hx hb dX5_product_41 rfl (lv_at hl 0 rfl) ?_
        refine lv_iload_n hx hb dX5_product_42 rfl (lv_at hl 1 rfl) ?_
        obtain ⟨q43, e43, h⟩ := obn_e h
        refine z_Vv (k := 12) (v1 := q43) hx hb hml hts hown hK hP hS hz hE (ig7 _ _ _ e43) kX5_value mX5_207 hk.1 rfl rfl rfl hl.1 (Nat.le_of_ble_eq_true rfl) (q_room (Nat.le_refl _) (Nat.le_refl _) (Nat.le_of_ble_eq_true rfl)) ⟨Nat.le_refl _, Nat.le_refl _⟩ dX5_product_43 fun H1 locs1 hz hP hS => ?_
        refine lv_aload_n hx hb dX5_product_46 rfl (lv_at hl 0 rfl) ?_
        refine w_gr (k := 12) (r := 13) hx hb hts hown hK hP fX5_16 hk.1 rfl dX5_product_47 ?_
        refine w_gr (k := 13) (r := 42) hx hb hts hown hK hP fX5_107 hk.2.1.1 rfl dX5_product_50 ?_
        refine lv_iload_n hx hb dX5_product_53 rfl (lv_at hl 2 rfl) ?_
        refine lv_iconst (v := 0) hx hb dX5_product_54 rfl ?_
        refine lv_iconst (v := 0) hx hb dX5_product_55 rfl ?_
        obtain ⟨q56, e56, h⟩ := obn_e h
        refine z_Vv (k := 42) (v1 := q56) hx hb hml hts hown hK hP hS hz hE (c_Steps_add hk.2.1.2.2.2.2.2.2.2.2.2.2.2.2.2.2.2 e56) kX9_add mX5_184 hk.2.1.2.2.2.2.2.2.2.2.2.2.2.2.2.2.2.1 rfl rfl rfl hl.1 (Nat.le_of_ble_eq_true rfl) (q_room hc (Nat.le_of_ble_eq_true rfl) (Nat.le_of_ble_eq_true rfl)) ⟨Nat.le_refl _, Nat.le_refl _⟩ dX5_product_56 fun H1 locs1 hz hP hS => ?_
        refine lv_aload_n hx hb dX5_product_59 rfl (lv_at hl 0 rfl) ?_
        obtain ⟨q60, e60, h⟩ := obn_e h
        refine z_Vi (k := 12) (r1 := q60) (v1 := q56) hx hb hml hts hown hK hP hS hz hE (c_Reader_seen hk e60) kX5_seen mX5_63 hk.1 rfl rfl rfl hl.1 (Nat.le_of_ble_eq_true rfl) (q_room hc (Nat.le_of_ble_eq_true rfl) (Nat.le_of_ble_eq_true rfl)) ⟨Nat.le_refl _, Nat.le_refl _⟩ dX5_product_60 fun H1 locs1 hz hP hS => ?_
        refine lv_istore_n (lv' := [(2, .int q60), (0, .ref (Γ.2.1 + 12)), (1, .int a1), (3, .int t12.2.1)]) hx hb dX5_product_63 rfl hl (by decide) rfl fun ls hl => ?_
        refine lv_iinc (k := 3) (v := (t12.2.1 + 1)) (lv' := [(3, .int (t12.2.1 + 1)), (2, .int q60), (0, .ref (Γ.2.1 + 12)), (1, .int a1)]) hx hb dX5_product_64 hl rfl rfl (by decide) rfl fun ls hl => ?_
        refine lv_goto (tgt := 12) hx hb dX5_product_67 rfl ?_
        exact ih12 (q60, (t12.2.1 + 1), q56) h _ _ _ (lv_sub hl [2, 3, 1, 0] rfl) hP hS hz
      refine lv_icmp_eq (tgt := 31) hx hb dX5_product_22 rfl (fun hc22 => ?_) (fun hc22 => ?_)
      · have h := itt_e h hc22
        exact J31 h _ _ _ (lv_sub hl [0, 1, 2, 3] rfl) hP hS hz
      · have h := itf_e h hc22
        refine lv_iload_n hx hb dX5_product_25 rfl (lv_at hl 2 rfl) ?_
        refine lv_bipush (v := 41) hx hb dX5_product_26 rfl ?_
        refine lv_icmp_ne (tgt := 70) hx hb dX5_product_28 rfl (fun hc28 => ?_) (fun hc28 => ?_)
        · have h := itf_e h hc28
          exact w_vret hx hb hret hlk hK hP hS hz hE (Option.some.inj h) dX5_product_70
        · have h := itt_e h hc28
          exact J31 h _ _ _ (lv_sub hl [0, 1, 2, 3] rfl) hP hS hz
  exact L12 z (q6, 0, q2) h _ _ _ (lv_sub hl [2, 3, 1, 0] rfl) hP hS hz
def f_Reader_value (z : Nat) (GV : Nat → List Int32 → Va → Option Va) (v : Va) (a1 : Int32) : Option Va := (f_Reader_seen v).bind fun q1 => if q1 = 6 then (bnd (pu v 12 6 ((v 12 6) + 1)) fun v280 => (f_Reader_takeName z v280 55 6).bind fun q296 => (f_Steps_add q296.2 42 q1 q296.1 0).bind fun q300 => some q300) else (if q1 = 19 then (bnd (pu v 12 6 ((v 12 6) + 1)) fun v221 => (f_Steps_add v221 42 q1 0 0).bind fun q234 => some q234) else (if q1 = 20 then (bnd (pu v 12 6 ((v 12 6) + 1)) fun v221 => (f_Steps_add v221 42 q1 0 0).bind fun q234 => some q234) else (if q1 = 21 then (bnd (pu v 12 6 ((v 12 6) + 1)) fun v247 => (f_Reader_takeName z v247 58 10).bind fun q263 => (f_Steps_add q263.2 42 q1 q263.1 0).bind fun q267 => some q267) else (if q1 = 22 then (bnd (pu v 12 6 ((v 12 6) + 1)) fun v247 => (f_Reader_takeName z v247 58 10).bind fun q263 => (f_Steps_add q263.2 42 q1 q263.1 0).bind fun q267 => some q267) else (if q1 = 23 then (bnd (pu v 12 6 ((v 12 6) + 1)) fun v247 => (f_Reader_takeName z v247 58 10).bind fun q263 => (f_Steps_add q263.2 42 q1 q263.1 0).bind fun q267 => some q267) else (if q1 = 24 then (bnd (pu v 12 6 ((v 12 6) + 1)) fun v280 => (f_Reader_takeName z v280 55 6).bind fun q296 => (f_Steps_add q296.2 42 q1 q296.1 0).bind fun q300 => some q300) else (if q1 = 25 then (bnd (pu v 12 6 ((v 12 6) + 1)) fun v313 => (f_Reader_takeName z v313 55 6).bind fun q321 => (f_Reader_takeName z q321.2 55 6).bind fun q339 => (f_Steps_add q339.2 42 q1 q321.1 q339.1).bind fun q342 => some q342) else (if q1 = 30 then ((GV 10 [q1, a1] v).bind fun q367 => some q367) else (if q1 = 31 then ((GV 10 [q1, a1] v).bind fun q367 => some q367) else (if q1 = 32 then ((GV 9 [a1] v).bind fun q358 => some q358) else (if q1 = 39 then ((GV 8 [a1] v).bind fun q350 => some q350) else (if q1 = 48 then ((f_Reader_takeNumber v 0 2147483647).bind fun q204 => (f_Steps_add q204.2 42 q1 q204.1 0).bind fun q208 => some q208) else ((f_Reader_fail v).bind fun q374 => some q374)))))))))))))
theorem c_Reader_value {a1 : Int32} {GV : Nat → List Int32 → Va → Option Va} {hh : Nat} (hk : isReader sh) (hc : 3 ≤ hh) (ig8 : ∀ (a1 : Int32) (v : Va) (q : Va), GV 8 [a1] v = some q → MetV l yX5_turnedValue cX5_turnedValue 2 none hh Γ sh v w n [.ref (Γ.2.1 + 12), .int a1] (fun u => u = q)) (ig9 : ∀ (a1 : Int32) (v : Va) (q : Va), GV 9 [a1] v = some q → MetV l yX5_sumInBrackets cX5_sumInBrackets 2 none hh Γ sh v w n [.ref (Γ.2.1 + 12), .int a1] (fun u => u = q)) (ig10 : ∀ (a1 : Int32) (a2 : Int32) (v : Va) (q : Va), GV 10 [a1, a2] v = some q → MetV l yX5_oneOfTwoSums cX5_oneOfTwoSums 3 none hh Γ sh v w n [.ref (Γ.2.1 + 12), .int a1, .int a2] (fun u => u = q)) {q : Va} (h : f_Reader_value z GV v a1 = some q) : MetV l yX5_value cX5_value 4 none (hh + 1) Γ sh v w n [.ref (Γ.2.1 + 12), .int a1] (fun u => u = q) := by
  unfold f_Reader_value at h
  refine w_start pn_X5 (Nat.le_of_ble_eq_true rfl) fun p e s m args below meth c hx hb hml hret hlk hnm hts hown hK hP hz hE hS ls hl => ?_
  refine lv_aload_n hx hb dX5_value_0 rfl (lv_at hl 0 rfl) ?_
  obtain ⟨q1, e1, h⟩ := obn_e h
  refine z_Vi (k := 12) (r1 := q1) (v1 := v) hx hb hml hts hown hK hP hS hz hE (c_Reader_seen hk e1) kX5_seen mX5_63 hk.1 rfl rfl rfl hl.1 (Nat.le_of_ble_eq_true rfl) (q_room hc (Nat.le_of_ble_eq_true rfl) (Nat.le_of_ble_eq_true rfl)) ⟨Nat.le_refl _, Nat.le_refl _⟩ dX5_value_1 fun H1 locs1 hz hP hS => ?_
  refine lv_istore_n (lv' := [(2, .int q1), (0, .ref (Γ.2.1 + 12)), (1, .int a1)]) hx hb dX5_value_4 rfl hl (by decide) rfl fun ls hl => ?_
  refine lv_iload_n hx hb dX5_value_5 rfl (lv_at hl 0 rfl) ?_
  by_cases hc6_6 : q1 = 6
  · have h := itt_e h hc6_6
    refine z_tI (y := 6) (tgt := 273) hx hb dX5_value_6 hc6_6 (by decide) (by decide) rfl rfl ?_
    refine lv_aload_n hx hb dX5_value_273 rfl (lv_at hl 1 rfl) ?_
    refine lv_dup hx hb dX5_value_274 rfl ?_
    refine w_gi (k := 12) hx hb hts hown hK hP fX5_38 hk.1 rfl dX5_value_275 ?_
    refine lv_iconst (v := 1) hx hb dX5_value_278 rfl ?_
    refine lv_iadd hx hb dX5_value_279 ?_
    obtain ⟨v280, e280, h⟩ := bnd_e h
    refine w_pi2 (k := 12) hx hb hts hown hK hP hS hz fX5_38 hk.1 rfl e280 dX5_value_280 fun H1 locs1 hz hP hS => ?_
    refine lv_aload_n hx hb dX5_value_283 rfl (lv_at hl 1 rfl) ?_
    refine w_gr (k := 12) (r := 13) hx hb hts hown hK hP fX5_16 hk.1 rfl dX5_value_284 ?_
    refine w_gr (k := 13) (r := 42) hx hb hts hown hK hP fX5_107 hk.2.1.1 rfl dX5_value_287 ?_
    refine lv_iload_n hx hb dX5_value_290 rfl (lv_at hl 0 rfl) ?_
    refine lv_aload_n hx hb dX5_value_291 rfl (lv_at hl 1 rfl) ?_
    refine lv_aload_n hx hb dX5_value_292 rfl (lv_at hl 1 rfl) ?_
    refine w_gr (k := 12) (r := 55) hx hb hts hown hK hP fX5_32 hk.1 rfl dX5_value_293 ?_
    obtain ⟨q296, e296, h⟩ := obn_e h
    refine z_Vi (k := 12) (r1 := q296.1) (v1 := q296.2) hx hb hml hts hown hK hP hS hz hE (c_Reader_takeName hk hk.2.2.2.2.2.1 e296) kX5_takeName mX5_145 hk.1 rfl rfl rfl hl.1 (Nat.le_of_ble_eq_true rfl) (q_room hc (Nat.le_of_ble_eq_true rfl) (Nat.le_of_ble_eq_true rfl)) ⟨Nat.le_refl _, Nat.le_refl _⟩ dX5_value_296 fun H1 locs1 hz hP hS => ?_
    refine lv_iconst (v := 0) hx hb dX5_value_299 rfl ?_
    obtain ⟨q300, e300, h⟩ := obn_e h
    refine z_Vv (k := 42) (v1 := q300) hx hb hml hts hown hK hP hS hz hE (c_Steps_add hk.2.1.2.2.2.2.2.2.2.2.2.2.2.2.2.2.2 e300) kX9_add mX5_184 hk.2.1.2.2.2.2.2.2.2.2.2.2.2.2.2.2.2.1 rfl rfl rfl hl.1 (Nat.le_of_ble_eq_true rfl) (q_room hc (Nat.le_of_ble_eq_true rfl) (Nat.le_of_ble_eq_true rfl)) ⟨Nat.le_refl _, Nat.le_refl _⟩ dX5_value_300 fun H1 locs1 hz hP hS => ?_
    refine lv_goto (tgt := 377) hx hb dX5_value_303 rfl ?_
    exact w_vret hx hb hret hlk hK hP hS hz hE (Option.some.inj h) dX5_value_377
  have h := itf_e h hc6_6
  by_cases hc6_19 : q1 = 19
  · have h := itt_e h hc6_19
    refine z_tI (y := 19) (tgt := 214) hx hb dX5_value_6 hc6_19 (by decide) (by decide) rfl rfl ?_
    refine lv_aload_n hx hb dX5_value_214 rfl (lv_at hl 1 rfl) ?_
    refine lv_dup hx hb dX5_value_215 rfl ?_
    refine w_gi (k := 12) hx hb hts hown hK hP fX5_38 hk.1 rfl dX5_value_216 ?_
    refine lv_iconst (v := 1) hx hb dX5_value_219 rfl ?_
    refine lv_iadd hx hb dX5_value_220 ?_
    obtain ⟨v221, e221, h⟩ := bnd_e h
    refine w_pi2 (k := 12) hx hb hts hown hK hP hS hz fX5_38 hk.1 rfl e221 dX5_value_221 fun H1 locs1 hz hP hS => ?_
    refine lv_aload_n hx hb dX5_value_224 rfl (lv_at hl 1 rfl) ?_
    refine w_gr (k := 12) (r := 13) hx hb hts hown hK hP fX5_16 hk.1 rfl dX5_value_225 ?_
    refine w_gr (k := 13) (r := 42) hx hb hts hown hK hP fX5_107 hk.2.1.1 rfl dX5_value_228 ?_
    refine lv_iload_n hx hb dX5_value_231 rfl (lv_at hl 0 rfl) ?_
    refine lv_iconst (v := 0) hx hb dX5_value_232 rfl ?_
    refine lv_iconst (v := 0) hx hb dX5_value_233 rfl ?_
    obtain ⟨q234, e234, h⟩ := obn_e h
    refine z_Vv (k := 42) (v1 := q234) hx hb hml hts hown hK hP hS hz hE (c_Steps_add hk.2.1.2.2.2.2.2.2.2.2.2.2.2.2.2.2.2 e234) kX9_add mX5_184 hk.2.1.2.2.2.2.2.2.2.2.2.2.2.2.2.2.2.1 rfl rfl rfl hl.1 (Nat.le_of_ble_eq_true rfl) (q_room hc (Nat.le_of_ble_eq_true rfl) (Nat.le_of_ble_eq_true rfl)) ⟨Nat.le_refl _, Nat.le_refl _⟩ dX5_value_234 fun H1 locs1 hz hP hS => ?_
    refine lv_goto (tgt := 377) hx hb dX5_value_237 rfl ?_
    exact w_vret hx hb hret hlk hK hP hS hz hE (Option.some.inj h) dX5_value_377
  have h := itf_e h hc6_19
  by_cases hc6_20 : q1 = 20
  · have h := itt_e h hc6_20
    refine z_tI (y := 20) (tgt := 214) hx hb dX5_value_6 hc6_20 (by decide) (by decide) rfl rfl ?_
    refine lv_aload_n hx hb dX5_value_214 rfl (lv_at hl 1 rfl) ?_
    refine lv_dup hx hb dX5_value_215 rfl ?_
    refine w_gi (k := 12) hx hb hts hown hK hP fX5_38 hk.1 rfl dX5_value_216 ?_
    refine lv_iconst (v := 1) hx hb dX5_value_219 rfl ?_
    refine lv_iadd hx hb dX5_value_220 ?_
    obtain ⟨v221, e221, h⟩ := bnd_e h
    refine w_pi2 (k := 12) hx hb hts hown hK hP hS hz fX5_38 hk.1 rfl e221 dX5_value_221 fun H1 locs1 hz hP hS => ?_
    refine lv_aload_n hx hb dX5_value_224 rfl (lv_at hl 1 rfl) ?_
    refine w_gr (k := 12) (r := 13) hx hb hts hown hK hP fX5_16 hk.1 rfl dX5_value_225 ?_
    refine w_gr (k := 13) (r := 42) hx hb hts hown hK hP fX5_107 hk.2.1.1 rfl dX5_value_228 ?_
    refine lv_iload_n hx hb dX5_value_231 rfl (lv_at hl 0 rfl) ?_
    refine lv_iconst (v := 0) hx hb dX5_value_232 rfl ?_
    refine lv_iconst (v := 0) hx hb dX5_value_233 rfl ?_
    obtain ⟨q234, e234, h⟩ := obn_e h
    refine z_Vv (k := 42) (v1 := q234) hx hb hml hts hown hK hP hS hz hE (c_Steps_add hk.2.1.2.2.2.2.2.2.2.2.2.2.2.2.2.2.2 e234) kX9_add mX5_184 hk.2.1.2.2.2.2.2.2.2.2.2.2.2.2.2.2.2.1 rfl rfl rfl hl.1 (Nat.le_of_ble_eq_true rfl) (q_room hc (Nat.le_of_ble_eq_true rfl) (Nat.le_of_ble_eq_true rfl)) ⟨Nat.le_refl _, Nat.le_refl _⟩ dX5_value_234 fun H1 locs1 hz hP hS => ?_
    refine lv_goto (tgt := 377) hx hb dX5_value_237 rfl ?_
    exact w_vret hx hb hret hlk hK hP hS hz hE (Option.some.inj h) dX5_value_377
  have h := itf_e h hc6_20
  by_cases hc6_21 : q1 = 21
  · have h := itt_e h hc6_21
    refine z_tI (y := 21) (tgt := 240) hx hb dX5_value_6 hc6_21 (by decide) (by decide) rfl rfl ?_
    refine lv_aload_n hx hb dX5_value_240 rfl (lv_at hl 1 rfl) ?_
    refine lv_dup hx hb dX5_value_241 rfl ?_
    refine w_gi (k := 12) hx hb hts hown hK hP fX5_38 hk.1 rfl dX5_value_242 ?_
    refine lv_iconst (v := 1) hx hb dX5_value_245 rfl ?_
    refine lv_iadd hx hb dX5_value_246 ?_
    obtain ⟨v247, e247, h⟩ := bnd_e h
    refine w_pi2 (k := 12) hx hb hts hown hK hP hS hz fX5_38 hk.1 rfl e247 dX5_value_247 fun H1 locs1 hz hP hS => ?_
    refine lv_aload_n hx hb dX5_value_250 rfl (lv_at hl 1 rfl) ?_
    refine w_gr (k := 12) (r := 13) hx hb hts hown hK hP fX5_16 hk.1 rfl dX5_value_251 ?_
    refine w_gr (k := 13) (r := 42) hx hb hts hown hK hP fX5_107 hk.2.1.1 rfl dX5_value_254 ?_
    refine lv_iload_n hx hb dX5_value_257 rfl (lv_at hl 0 rfl) ?_
    refine lv_aload_n hx hb dX5_value_258 rfl (lv_at hl 1 rfl) ?_
    refine lv_aload_n hx hb dX5_value_259 rfl (lv_at hl 1 rfl) ?_
    refine w_gr (k := 12) (r := 58) hx hb hts hown hK hP fX5_35 hk.1 rfl dX5_value_260 ?_
    obtain ⟨q263, e263, h⟩ := obn_e h
    refine z_Vi (k := 12) (r1 := q263.1) (v1 := q263.2) hx hb hml hts hown hK hP hS hz hE (c_Reader_takeName hk hk.2.2.2.2.2.2 e263) kX5_takeName mX5_145 hk.1 rfl rfl rfl hl.1 (Nat.le_of_ble_eq_true rfl) (q_room hc (Nat.le_of_ble_eq_true rfl) (Nat.le_of_ble_eq_true rfl)) ⟨Nat.le_refl _, Nat.le_refl _⟩ dX5_value_263 fun H1 locs1 hz hP hS => ?_
    refine lv_iconst (v := 0) hx hb dX5_value_266 rfl ?_
    obtain ⟨q267, e267, h⟩ := obn_e h
    refine z_Vv (k := 42) (v1 := q267) hx hb hml hts hown hK hP hS hz hE (c_Steps_add hk.2.1.2.2.2.2.2.2.2.2.2.2.2.2.2.2.2 e267) kX9_add mX5_184 hk.2.1.2.2.2.2.2.2.2.2.2.2.2.2.2.2.2.1 rfl rfl rfl hl.1 (Nat.le_of_ble_eq_true rfl) (q_room hc (Nat.le_of_ble_eq_true rfl) (Nat.le_of_ble_eq_true rfl)) ⟨Nat.le_refl _, Nat.le_refl _⟩ dX5_value_267 fun H1 locs1 hz hP hS => ?_
    refine lv_goto (tgt := 377) hx hb dX5_value_270 rfl ?_
    exact w_vret hx hb hret hlk hK hP hS hz hE (Option.some.inj h) dX5_value_377
  have h := itf_e h hc6_21
  by_cases hc6_22 : q1 = 22
  · have h := itt_e h hc6_22
    refine z_tI (y := 22) (tgt := 240) hx hb dX5_value_6 hc6_22 (by decide) (by decide) rfl rfl ?_
    refine lv_aload_n hx hb dX5_value_240 rfl (lv_at hl 1 rfl) ?_
    refine lv_dup hx hb dX5_value_241 rfl ?_
    refine w_gi (k := 12) hx hb hts hown hK hP fX5_38 hk.1 rfl dX5_value_242 ?_
    refine lv_iconst (v := 1) hx hb dX5_value_245 rfl ?_
    refine lv_iadd hx hb dX5_value_246 ?_
    obtain ⟨v247, e247, h⟩ := bnd_e h
    refine w_pi2 (k := 12) hx hb hts hown hK hP hS hz fX5_38 hk.1 rfl e247 dX5_value_247 fun H1 locs1 hz hP hS => ?_
    refine lv_aload_n hx hb dX5_value_250 rfl (lv_at hl 1 rfl) ?_
    refine w_gr (k := 12) (r := 13) hx hb hts hown hK hP fX5_16 hk.1 rfl dX5_value_251 ?_
    refine w_gr (k := 13) (r := 42) hx hb hts hown hK hP fX5_107 hk.2.1.1 rfl dX5_value_254 ?_
    refine lv_iload_n hx hb dX5_value_257 rfl (lv_at hl 0 rfl) ?_
    refine lv_aload_n hx hb dX5_value_258 rfl (lv_at hl 1 rfl) ?_
    refine lv_aload_n hx hb dX5_value_259 rfl (lv_at hl 1 rfl) ?_
    refine w_gr (k := 12) (r := 58) hx hb hts hown hK hP fX5_35 hk.1 rfl dX5_value_260 ?_
    obtain ⟨q263, e263, h⟩ := obn_e h
    refine z_Vi (k := 12) (r1 := q263.1) (v1 := q263.2) hx hb hml hts hown hK hP hS hz hE (c_Reader_takeName hk hk.2.2.2.2.2.2 e263) kX5_takeName mX5_145 hk.1 rfl rfl rfl hl.1 (Nat.le_of_ble_eq_true rfl) (q_room hc (Nat.le_of_ble_eq_true rfl) (Nat.le_of_ble_eq_true rfl)) ⟨Nat.le_refl _, Nat.le_refl _⟩ dX5_value_263 fun H1 locs1 hz hP hS => ?_
    refine lv_iconst (v := 0) hx hb dX5_value_266 rfl ?_
    obtain ⟨q267, e267, h⟩ := obn_e h
    refine z_Vv (k := 42) (v1 := q267) hx hb hml hts hown hK hP hS hz hE (c_Steps_add hk.2.1.2.2.2.2.2.2.2.2.2.2.2.2.2.2.2 e267) kX9_add mX5_184 hk.2.1.2.2.2.2.2.2.2.2.2.2.2.2.2.2.2.1 rfl rfl rfl hl.1 (Nat.le_of_ble_eq_true rfl) (q_room hc (Nat.le_of_ble_eq_true rfl) (Nat.le_of_ble_eq_true rfl)) ⟨Nat.le_refl _, Nat.le_refl _⟩ dX5_value_267 fun H1 locs1 hz hP hS => ?_
    refine lv_goto (tgt := 377) hx hb dX5_value_270 rfl ?_
    exact w_vret hx hb hret hlk hK hP hS hz hE (Option.some.inj h) dX5_value_377
  have h := itf_e h hc6_22
  by_cases hc6_23 : q1 = 23
  · have h := itt_e h hc6_23
    refine z_tI (y := 23) (tgt := 240) hx hb dX5_value_6 hc6_23 (by decide) (by decide) rfl rfl ?_
    refine lv_aload_n hx hb dX5_value_240 rfl (lv_at hl 1 rfl) ?_
    refine lv_dup hx hb dX5_value_241 rfl ?_
    refine w_gi (k := 12) hx hb hts hown hK hP fX5_38 hk.1 rfl dX5_value_242 ?_
    refine lv_iconst (v := 1) hx hb dX5_value_245 rfl ?_
    refine lv_iadd hx hb dX5_value_246 ?_
    obtain ⟨v247, e247, h⟩ := bnd_e h
    refine w_pi2 (k := 12) hx hb hts hown hK hP hS hz fX5_38 hk.1 rfl e247 dX5_value_247 fun H1 locs1 hz hP hS => ?_
    refine lv_aload_n hx hb dX5_value_250 rfl (lv_at hl 1 rfl) ?_
    refine w_gr (k := 12) (r := 13) hx hb hts hown hK hP fX5_16 hk.1 rfl dX5_value_251 ?_
    refine w_gr (k := 13) (r := 42) hx hb hts hown hK hP fX5_107 hk.2.1.1 rfl dX5_value_254 ?_
    refine lv_iload_n hx hb dX5_value_257 rfl (lv_at hl 0 rfl) ?_
    refine lv_aload_n hx hb dX5_value_258 rfl (lv_at hl 1 rfl) ?_
    refine lv_aload_n hx hb dX5_value_259 rfl (lv_at hl 1 rfl) ?_
    refine w_gr (k := 12) (r := 58) hx hb hts hown hK hP fX5_35 hk.1 rfl dX5_value_260 ?_
    obtain ⟨q263, e263, h⟩ := obn_e h
    refine z_Vi (k := 12) (r1 := q263.1) (v1 := q263.2) hx hb hml hts hown hK hP hS hz hE (c_Reader_takeName hk hk.2.2.2.2.2.2 e263) kX5_takeName mX5_145 hk.1 rfl rfl rfl hl.1 (Nat.le_of_ble_eq_true rfl) (q_room hc (Nat.le_of_ble_eq_true rfl) (Nat.le_of_ble_eq_true rfl)) ⟨Nat.le_refl _, Nat.le_refl _⟩ dX5_value_263 fun H1 locs1 hz hP hS => ?_
    refine lv_iconst (v := 0) hx hb dX5_value_266 rfl ?_
    obtain ⟨q267, e267, h⟩ := obn_e h
    refine z_Vv (k := 42) (v1 := q267) hx hb hml hts hown hK hP hS hz hE (c_Steps_add hk.2.1.2.2.2.2.2.2.2.2.2.2.2.2.2.2.2 e267) kX9_add mX5_184 hk.2.1.2.2.2.2.2.2.2.2.2.2.2.2.2.2.2.1 rfl rfl rfl hl.1 (Nat.le_of_ble_eq_true rfl) (q_room hc (Nat.le_of_ble_eq_true rfl) (Nat.le_of_ble_eq_true rfl)) ⟨Nat.le_refl _, Nat.le_refl _⟩ dX5_value_267 fun H1 locs1 hz hP hS => ?_
    refine lv_goto (tgt := 377) hx hb dX5_value_270 rfl ?_
    exact w_vret hx hb hret hlk hK hP hS hz hE (Option.some.inj h) dX5_value_377
  have h := itf_e h hc6_23
  by_cases hc6_24 : q1 = 24
  · have h := itt_e h hc6_24
    refine z_tI (y := 24) (tgt := 273) hx hb dX5_value_6 hc6_24 (by decide) (by decide) rfl rfl ?_
    refine lv_aload_n hx hb dX5_value_273 rfl (lv_at hl 1 rfl) ?_
    refine lv_dup hx hb dX5_value_274 rfl ?_
    refine w_gi (k := 12) hx hb hts hown hK hP fX5_38 hk.1 rfl dX5_value_275 ?_
    refine lv_iconst (v := 1) hx hb dX5_value_278 rfl ?_
    refine lv_iadd hx hb dX5_value_279 ?_
    obtain ⟨v280, e280, h⟩ := bnd_e h
    refine w_pi2 (k := 12) hx hb hts hown hK hP hS hz fX5_38 hk.1 rfl e280 dX5_value_280 fun H1 locs1 hz hP hS => ?_
    refine lv_aload_n hx hb dX5_value_283 rfl (lv_at hl 1 rfl) ?_
    refine w_gr (k := 12) (r := 13) hx hb hts hown hK hP fX5_16 hk.1 rfl dX5_value_284 ?_
    refine w_gr (k := 13) (r := 42) hx hb hts hown hK hP fX5_107 hk.2.1.1 rfl dX5_value_287 ?_
    refine lv_iload_n hx hb dX5_value_290 rfl (lv_at hl 0 rfl) ?_
    refine lv_aload_n hx hb dX5_value_291 rfl (lv_at hl 1 rfl) ?_
    refine lv_aload_n hx hb dX5_value_292 rfl (lv_at hl 1 rfl) ?_
    refine w_gr (k := 12) (r := 55) hx hb hts hown hK hP fX5_32 hk.1 rfl dX5_value_293 ?_
    obtain ⟨q296, e296, h⟩ := obn_e h
    refine z_Vi (k := 12) (r1 := q296.1) (v1 := q296.2) hx hb hml hts hown hK hP hS hz hE (c_Reader_takeName hk hk.2.2.2.2.2.1 e296) kX5_takeName mX5_145 hk.1 rfl rfl rfl hl.1 (Nat.le_of_ble_eq_true rfl) (q_room hc (Nat.le_of_ble_eq_true rfl) (Nat.le_of_ble_eq_true rfl)) ⟨Nat.le_refl _, Nat.le_refl _⟩ dX5_value_296 fun H1 locs1 hz hP hS => ?_
    refine lv_iconst (v := 0) hx hb dX5_value_299 rfl ?_
    obtain ⟨q300, e300, h⟩ := obn_e h
    refine z_Vv (k := 42) (v1 := q300) hx hb hml hts hown hK hP hS hz hE (c_Steps_add hk.2.1.2.2.2.2.2.2.2.2.2.2.2.2.2.2.2 e300) kX9_add mX5_184 hk.2.1.2.2.2.2.2.2.2.2.2.2.2.2.2.2.2.1 rfl rfl rfl hl.1 (Nat.le_of_ble_eq_true rfl) (q_room hc (Nat.le_of_ble_eq_true rfl) (Nat.le_of_ble_eq_true rfl)) ⟨Nat.le_refl _, Nat.le_refl _⟩ dX5_value_300 fun H1 locs1 hz hP hS => ?_
    refine lv_goto (tgt := 377) hx hb dX5_value_303 rfl ?_
    exact w_vret hx hb hret hlk hK hP hS hz hE (Option.some.inj h) dX5_value_377
  have h := itf_e h hc6_24
  by_cases hc6_25 : q1 = 25
  · have h := itt_e h hc6_25
    refine z_tI (y := 25) (tgt := 306) hx hb dX5_value_6 hc6_25 (by decide) (by decide) rfl rfl ?_
    refine lv_aload_n hx hb dX5_value_306 rfl (lv_at hl 1 rfl) ?_
    refine lv_dup hx hb dX5_value_307 rfl ?_
    refine w_gi (k := 12) hx hb hts hown hK hP fX5_38 hk.1 rfl dX5_value_308 ?_
    refine lv_iconst (v := 1) hx hb dX5_value_311 rfl ?_
    refine lv_iadd hx hb dX5_value_312 ?_
    obtain ⟨v313, e313, h⟩ := bnd_e h
    refine w_pi2 (k := 12) hx hb hts hown hK hP hS hz fX5_38 hk.1 rfl e313 dX5_value_313 fun H1 locs1 hz hP hS => ?_
    refine lv_aload_n hx hb dX5_value_316 rfl (lv_at hl 1 rfl) ?_
    refine lv_aload_n hx hb dX5_value_317 rfl (lv_at hl 1 rfl) ?_
    refine w_gr (k := 12) (r := 55) hx hb hts hown hK hP fX5_32 hk.1 rfl dX5_value_318 ?_
    obtain ⟨q321, e321, h⟩ := obn_e h
    refine z_Vi (k := 12) (r1 := q321.1) (v1 := q321.2) hx hb hml hts hown hK hP hS hz hE (c_Reader_takeName hk hk.2.2.2.2.2.1 e321) kX5_takeName mX5_145 hk.1 rfl rfl rfl hl.1 (Nat.le_of_ble_eq_true rfl) (q_room hc (Nat.le_of_ble_eq_true rfl) (Nat.le_of_ble_eq_true rfl)) ⟨Nat.le_refl _, Nat.le_refl _⟩ dX5_value_321 fun H1 locs1 hz hP hS => ?_
    refine lv_istore_n (lv' := [(3, .int q321.1), (2, .int q1), (0, .ref (Γ.2.1 + 12)), (1, .int a1)]) hx hb dX5_value_324 rfl hl (by decide) rfl fun ls hl => ?_
    refine lv_aload_n hx hb dX5_value_325 rfl (lv_at hl 2 rfl) ?_
    refine w_gr (k := 12) (r := 13) hx hb hts hown hK hP fX5_16 hk.1 rfl dX5_value_326 ?_
    refine w_gr (k := 13) (r := 42) hx hb hts hown hK hP fX5_107 hk.2.1.1 rfl dX5_value_329 ?_
    refine lv_iload_n hx hb dX5_value_332 rfl (lv_at hl 1 rfl) ?_
    refine lv_iload_n hx hb dX5_value_333 rfl (lv_at hl 0 rfl) ?_
    refine lv_aload_n hx hb dX5_value_334 rfl (lv_at hl 2 rfl) ?_
    refine lv_aload_n hx hb dX5_value_335 rfl (lv_at hl 2 rfl) ?_
    refine w_gr (k := 12) (r := 55) hx hb hts hown hK hP fX5_32 hk.1 rfl dX5_value_336 ?_
    obtain ⟨q339, e339, h⟩ := obn_e h
    refine z_Vi (k := 12) (r1 := q339.1) (v1 := q339.2) hx hb hml hts hown hK hP hS hz hE (c_Reader_takeName hk hk.2.2.2.2.2.1 e339) kX5_takeName mX5_145 hk.1 rfl rfl rfl hl.1 (Nat.le_of_ble_eq_true rfl) (q_room hc (Nat.le_of_ble_eq_true rfl) (Nat.le_of_ble_eq_true rfl)) ⟨Nat.le_refl _, Nat.le_refl _⟩ dX5_value_339 fun H1 locs1 hz hP hS => ?_
    obtain ⟨q342, e342, h⟩ := obn_e h
    refine z_Vv (k := 42) (v1 := q342) hx hb hml hts hown hK hP hS hz hE (c_Steps_add hk.2.1.2.2.2.2.2.2.2.2.2.2.2.2.2.2.2 e342) kX9_add mX5_184 hk.2.1.2.2.2.2.2.2.2.2.2.2.2.2.2.2.2.1 rfl rfl rfl hl.1 (Nat.le_of_ble_eq_true rfl) (q_room hc (Nat.le_of_ble_eq_true rfl) (Nat.le_of_ble_eq_true rfl)) ⟨Nat.le_refl _, Nat.le_refl _⟩ dX5_value_342 fun H1 locs1 hz hP hS => ?_
    refine lv_goto (tgt := 377) hx hb dX5_value_345 rfl ?_
    exact w_vret hx hb hret hlk hK hP hS hz hE (Option.some.inj h) dX5_value_377
  have h := itf_e h hc6_25
  by_cases hc6_30 : q1 = 30
  · have h := itt_e h hc6_30
    refine z_tI (y := 30) (tgt := 364) hx hb dX5_value_6 hc6_30 (by decide) (by decide) rfl rfl ?_
    refine lv_aload_n hx hb dX5_value_364 rfl (lv_at hl 1 rfl) ?_
    refine lv_iload_n hx hb dX5_value_365 rfl (lv_at hl 0 rfl) ?_
    refine lv_iload_n hx hb dX5_value_366 rfl (lv_at hl 2 rfl) ?_
    obtain ⟨q367, e367, h⟩ := obn_e h
    refine z_Vv (k := 12) (v1 := q367) hx hb hml hts hown hK hP hS hz hE (ig10 _ _ _ _ e367) kX5_oneOfTwoSums mX5_219 hk.1 rfl rfl rfl hl.1 (Nat.le_of_ble_eq_true rfl) (q_room (Nat.le_refl _) (Nat.le_refl _) (Nat.le_of_ble_eq_true rfl)) ⟨Nat.le_refl _, Nat.le_refl _⟩ dX5_value_367 fun H1 locs1 hz hP hS => ?_
    refine lv_goto (tgt := 377) hx hb dX5_value_370 rfl ?_
    exact w_vret hx hb hret hlk hK hP hS hz hE (Option.some.inj h) dX5_value_377
  have h := itf_e h hc6_30
  by_cases hc6_31 : q1 = 31
  · have h := itt_e h hc6_31
    refine z_tI (y := 31) (tgt := 364) hx hb dX5_value_6 hc6_31 (by decide) (by decide) rfl rfl ?_
    refine lv_aload_n hx hb dX5_value_364 rfl (lv_at hl 1 rfl) ?_
    refine lv_iload_n hx hb dX5_value_365 rfl (lv_at hl 0 rfl) ?_
    refine lv_iload_n hx hb dX5_value_366 rfl (lv_at hl 2 rfl) ?_
    obtain ⟨q367, e367, h⟩ := obn_e h
    refine z_Vv (k := 12) (v1 := q367) hx hb hml hts hown hK hP hS hz hE (ig10 _ _ _ _ e367) kX5_oneOfTwoSums mX5_219 hk.1 rfl rfl rfl hl.1 (Nat.le_of_ble_eq_true rfl) (q_room (Nat.le_refl _) (Nat.le_refl _) (Nat.le_of_ble_eq_true rfl)) ⟨Nat.le_refl _, Nat.le_refl _⟩ dX5_value_367 fun H1 locs1 hz hP hS => ?_
    refine lv_goto (tgt := 377) hx hb dX5_value_370 rfl ?_
    exact w_vret hx hb hret hlk hK hP hS hz hE (Option.some.inj h) dX5_value_377
  have h := itf_e h hc6_31
  by_cases hc6_32 : q1 = 32
  · have h := itt_e h hc6_32
    refine z_tI (y := 32) (tgt := 356) hx hb dX5_value_6 hc6_32 (by decide) (by decide) rfl rfl ?_
    refine lv_aload_n hx hb dX5_value_356 rfl (lv_at hl 1 rfl) ?_
    refine lv_iload_n hx hb dX5_value_357 rfl (lv_at hl 2 rfl) ?_
    obtain ⟨q358, e358, h⟩ := obn_e h
    refine z_Vv (k := 12) (v1 := q358) hx hb hml hts hown hK hP hS hz hE (ig9 _ _ _ e358) kX5_sumInBrackets mX5_216 hk.1 rfl rfl rfl hl.1 (Nat.le_of_ble_eq_true rfl) (q_room (Nat.le_refl _) (Nat.le_refl _) (Nat.le_of_ble_eq_true rfl)) ⟨Nat.le_refl _, Nat.le_refl _⟩ dX5_value_358 fun H1 locs1 hz hP hS => ?_
    refine lv_goto (tgt := 377) hx hb dX5_value_361 rfl ?_
    exact w_vret hx hb hret hlk hK hP hS hz hE (Option.some.inj h) dX5_value_377
  have h := itf_e h hc6_32
  by_cases hc6_39 : q1 = 39
  · have h := itt_e h hc6_39
    refine z_tI (y := 39) (tgt := 348) hx hb dX5_value_6 hc6_39 (by decide) (by decide) rfl rfl ?_
    refine lv_aload_n hx hb dX5_value_348 rfl (lv_at hl 1 rfl) ?_
    refine lv_iload_n hx hb dX5_value_349 rfl (lv_at hl 2 rfl) ?_
    obtain ⟨q350, e350, h⟩ := obn_e h
    refine z_Vv (k := 12) (v1 := q350) hx hb hml hts hown hK hP hS hz hE (ig8 _ _ _ e350) kX5_turnedValue mX5_213 hk.1 rfl rfl rfl hl.1 (Nat.le_of_ble_eq_true rfl) (q_room (Nat.le_refl _) (Nat.le_refl _) (Nat.le_of_ble_eq_true rfl)) ⟨Nat.le_refl _, Nat.le_refl _⟩ dX5_value_350 fun H1 locs1 hz hP hS => ?_
    refine lv_goto (tgt := 377) hx hb dX5_value_353 rfl ?_
    exact w_vret hx hb hret hlk hK hP hS hz hE (Option.some.inj h) dX5_value_377
  have h := itf_e h hc6_39
  by_cases hc6_48 : q1 = 48
  · have h := itt_e h hc6_48
    refine z_tI (y := 48) (tgt := 192) hx hb dX5_value_6 hc6_48 (by decide) (by decide) rfl rfl ?_
    refine lv_aload_n hx hb dX5_value_192 rfl (lv_at hl 1 rfl) ?_
    refine w_gr (k := 12) (r := 13) hx hb hts hown hK hP fX5_16 hk.1 rfl dX5_value_193 ?_
    refine w_gr (k := 13) (r := 42) hx hb hts hown hK hP fX5_107 hk.2.1.1 rfl dX5_value_196 ?_
    refine lv_iload_n hx hb dX5_value_199 rfl (lv_at hl 0 rfl) ?_
    refine lv_aload_n hx hb dX5_value_200 rfl (lv_at hl 1 rfl) ?_
    refine lv_iconst (v := 0) hx hb dX5_value_201 rfl ?_
    refine lv_ldc hx hb hown (hts _ qX5_212) dX5_value_202 ?_
    obtain ⟨q204, e204, h⟩ := obn_e h
    refine z_Vi (k := 12) (r1 := q204.1) (v1 := q204.2) hx hb hml hts hown hK hP hS hz hE (c_Reader_takeNumber hk e204) kX5_takeNumber mX5_122 hk.1 rfl rfl rfl hl.1 (Nat.le_of_ble_eq_true rfl) (q_room hc (Nat.le_of_ble_eq_true rfl) (Nat.le_of_ble_eq_true rfl)) ⟨Nat.le_refl _, Nat.le_refl _⟩ dX5_value_204 fun H1 locs1 hz hP hS => ?_
    refine lv_iconst (v := 0) hx hb dX5_value_207 rfl ?_
    obtain ⟨q208, e208, h⟩ := obn_e h
    refine z_Vv (k := 42) (v1 := q208) hx hb hml hts hown hK hP hS hz hE (c_Steps_add hk.2.1.2.2.2.2.2.2.2.2.2.2.2.2.2.2.2 e208) kX9_add mX5_184 hk.2.1.2.2.2.2.2.2.2.2.2.2.2.2.2.2.2.1 rfl rfl rfl hl.1 (Nat.le_of_ble_eq_true rfl) (q_room hc (Nat.le_of_ble_eq_true rfl) (Nat.le_of_ble_eq_true rfl)) ⟨Nat.le_refl _, Nat.le_refl _⟩ dX5_value_208 fun H1 locs1 hz hP hS => ?_
    refine lv_goto (tgt := 377) hx hb dX5_value_211 rfl ?_
    exact w_vret hx hb hret hlk hK hP hS hz hE (Option.some.inj h) dX5_value_377
  have h := itf_e h hc6_48
  refine z_tD (tgt := 373) hx hb [6, 19, 20, 21, 22, 23, 24, 25, 30, 31, 32, 39, 48] dX5_value_6 (q_nc hc6_6 (q_nc hc6_19 (q_nc hc6_20 (q_nc hc6_21 (q_nc hc6_22 (q_nc hc6_23 (q_nc hc6_24 (q_nc hc6_25 (q_nc hc6_30 (q_nc hc6_31 (q_nc hc6_32 (q_nc hc6_39 (q_nc hc6_48 q_nn))))))))))))) (by decide) (by decide) rfl ?_
  refine lv_aload_n hx hb dX5_value_373 rfl (lv_at hl 1 rfl) ?_
  obtain ⟨q374, e374, h⟩ := obn_e h
  refine z_Vv (k := 12) (v1 := q374) hx hb hml hts hown hK hP hS hz hE (c_Reader_fail hk e374) kX5_fail mX5_84 hk.1 rfl rfl rfl hl.1 (Nat.le_of_ble_eq_true rfl) (q_room hc (Nat.le_of_ble_eq_true rfl) (Nat.le_of_ble_eq_true rfl)) ⟨Nat.le_refl _, Nat.le_refl _⟩ dX5_value_374 fun H1 locs1 hz hP hS => ?_
  exact w_vret hx hb hret hlk hK hP hS hz hE (Option.some.inj h) dX5_value_377
def f_Reader_turnedValue (z : Nat) (GV : Nat → List Int32 → Va → Option Va) (v : Va) (a1 : Int32) : Option Va := (f_Reader_goesDeeper v 39 a1).bind fun q4 => if (q_b q4.1) = 0 then (some q4.2) else ((GV 7 [(a1 + 1)] q4.2).bind fun q14 => (f_Steps_add q14 42 51 0 0).bind fun q28 => some q28)
theorem c_Reader_turnedValue {a1 : Int32} {GV : Nat → List Int32 → Va → Option Va} {hh : Nat} (hk : isReader sh) (hc : 3 ≤ hh) (ig7 : ∀ (a1 : Int32) (v : Va) (q : Va), GV 7 [a1] v = some q → MetV l yX5_value cX5_value 4 none hh Γ sh v w n [.ref (Γ.2.1 + 12), .int a1] (fun u => u = q)) {q : Va} (h : f_Reader_turnedValue z GV v a1 = some q) : MetV l yX5_turnedValue cX5_turnedValue 2 none (hh + 1) Γ sh v w n [.ref (Γ.2.1 + 12), .int a1] (fun u => u = q) := by
  unfold f_Reader_turnedValue at h
  refine w_start pn_X5 (Nat.le_of_ble_eq_true rfl) fun p e s m args below meth c hx hb hml hret hlk hnm hts hown hK hP hz hE hS ls hl => ?_
  refine lv_aload_n hx hb dX5_turnedValue_0 rfl (lv_at hl 0 rfl) ?_
  refine lv_bipush (v := 39) hx hb dX5_turnedValue_1 rfl ?_
  refine lv_iload_n hx hb dX5_turnedValue_3 rfl (lv_at hl 1 rfl) ?_
  obtain ⟨q4, e4, h⟩ := obn_e h
  refine z_Vi (k := 12) (r1 := (q_b q4.1)) (v1 := q4.2) hx hb hml hts hown hK hP hS hz hE (c_Reader_goesDeeper hk e4) kX5_goesDeeper mX5_200 hk.1 rfl rfl rfl hl.1 (Nat.le_of_ble_eq_true rfl) (q_room hc (Nat.le_of_ble_eq_true rfl) (Nat.le_of_ble_eq_true rfl)) ⟨Nat.le_refl _, Nat.le_refl _⟩ dX5_turnedValue_4 fun H1 locs1 hz hP hS => ?_
  refine lv_if_eq (tgt := 31) hx hb dX5_turnedValue_7 rfl (fun hc7 => ?_) (fun hc7 => ?_)
  · have h := itt_e h hc7
    exact w_vret hx hb hret hlk hK hP hS hz hE (Option.some.inj h) dX5_turnedValue_31
  · have h := itf_e h hc7
    refine lv_aload_n hx hb dX5_turnedValue_10 rfl (lv_at hl 0 rfl) ?_
    refine lv_iload_n hx hb dX5_turnedValue_11 rfl (lv_at hl 1 rfl) ?_
    refine lv_iconst (v := 1) hx hb dX5_turnedValue_12 rfl ?_
    refine lv_iadd hx hb dX5_turnedValue_13 ?_
    obtain ⟨q14, e14, h⟩ := obn_e h
    refine z_Vv (k := 12) (v1 := q14) hx hb hml hts hown hK hP hS hz hE (ig7 _ _ _ e14) kX5_value mX5_207 hk.1 rfl rfl rfl hl.1 (Nat.le_of_ble_eq_true rfl) (q_room (Nat.le_refl _) (Nat.le_refl _) (Nat.le_of_ble_eq_true rfl)) ⟨Nat.le_refl _, Nat.le_refl _⟩ dX5_turnedValue_14 fun H1 locs1 hz hP hS => ?_
    refine lv_aload_n hx hb dX5_turnedValue_17 rfl (lv_at hl 0 rfl) ?_
    refine w_gr (k := 12) (r := 13) hx hb hts hown hK hP fX5_16 hk.1 rfl dX5_turnedValue_18 ?_
    refine w_gr (k := 13) (r := 42) hx hb hts hown hK hP fX5_107 hk.2.1.1 rfl dX5_turnedValue_21 ?_
    refine lv_bipush (v := 51) hx hb dX5_turnedValue_24 rfl ?_
    refine lv_iconst (v := 0) hx hb dX5_turnedValue_26 rfl ?_
    refine lv_iconst (v := 0) hx hb dX5_turnedValue_27 rfl ?_
    obtain ⟨q28, e28, h⟩ := obn_e h
    refine z_Vv (k := 42) (v1 := q28) hx hb hml hts hown hK hP hS hz hE (c_Steps_add hk.2.1.2.2.2.2.2.2.2.2.2.2.2.2.2.2.2 e28) kX9_add mX5_184 hk.2.1.2.2.2.2.2.2.2.2.2.2.2.2.2.2.2.1 rfl rfl rfl hl.1 (Nat.le_of_ble_eq_true rfl) (q_room hc (Nat.le_of_ble_eq_true rfl) (Nat.le_of_ble_eq_true rfl)) ⟨Nat.le_refl _, Nat.le_refl _⟩ dX5_turnedValue_28 fun H1 locs1 hz hP hS => ?_
    exact w_vret hx hb hret hlk hK hP hS hz hE (Option.some.inj h) dX5_turnedValue_31
def f_Reader_sumInBrackets (z : Nat) (GV : Nat → List Int32 → Va → Option Va) (v : Va) (a1 : Int32) : Option Va := (f_Reader_goesDeeper v 32 a1).bind fun q4 => if (q_b q4.1) = 0 then (some q4.2) else ((GV 5 [(a1 + 1)] q4.2).bind fun q14 => (f_Reader_take q14 33).bind fun q20 => some q20)
theorem c_Reader_sumInBrackets {a1 : Int32} {GV : Nat → List Int32 → Va → Option Va} {hh : Nat} (hk : isReader sh) (hc : 3 ≤ hh) (ig5 : ∀ (a1 : Int32) (v : Va) (q : Va), GV 5 [a1] v = some q → MetV l yX5_sum cX5_sum 4 none hh Γ sh v w n [.ref (Γ.2.1 + 12), .int a1] (fun u => u = q)) {q : Va} (h : f_Reader_sumInBrackets z GV v a1 = some q) : MetV l yX5_sumInBrackets cX5_sumInBrackets 2 none (hh + 1) Γ sh v w n [.ref (Γ.2.1 + 12), .int a1] (fun u => u = q) := by
  unfold f_Reader_sumInBrackets at h
  refine w_start pn_X5 (Nat.le_of_ble_eq_true rfl) fun p e s m args below meth c hx hb hml hret hlk hnm hts hown hK hP hz hE hS ls hl => ?_
  refine lv_aload_n hx hb dX5_sumInBrackets_0 rfl (lv_at hl 0 rfl) ?_
  refine lv_bipush (v := 32) hx hb dX5_sumInBrackets_1 rfl ?_
  refine lv_iload_n hx hb dX5_sumInBrackets_3 rfl (lv_at hl 1 rfl) ?_
  obtain ⟨q4, e4, h⟩ := obn_e h
  refine z_Vi (k := 12) (r1 := (q_b q4.1)) (v1 := q4.2) hx hb hml hts hown hK hP hS hz hE (c_Reader_goesDeeper hk e4) kX5_goesDeeper mX5_200 hk.1 rfl rfl rfl hl.1 (Nat.le_of_ble_eq_true rfl) (q_room hc (Nat.le_of_ble_eq_true rfl) (Nat.le_of_ble_eq_true rfl)) ⟨Nat.le_refl _, Nat.le_refl _⟩ dX5_sumInBrackets_4 fun H1 locs1 hz hP hS => ?_
  refine lv_if_eq (tgt := 23) hx hb dX5_sumInBrackets_7 rfl (fun hc7 => ?_) (fun hc7 => ?_)
  · have h := itt_e h hc7
    exact w_vret hx hb hret hlk hK hP hS hz hE (Option.some.inj h) dX5_sumInBrackets_23
  · have h := itf_e h hc7
    refine lv_aload_n hx hb dX5_sumInBrackets_10 rfl (lv_at hl 0 rfl) ?_
    refine lv_iload_n hx hb dX5_sumInBrackets_11 rfl (lv_at hl 1 rfl) ?_
    refine lv_iconst (v := 1) hx hb dX5_sumInBrackets_12 rfl ?_
    refine lv_iadd hx hb dX5_sumInBrackets_13 ?_
    obtain ⟨q14, e14, h⟩ := obn_e h
    refine z_Vv (k := 12) (v1 := q14) hx hb hml hts hown hK hP hS hz hE (ig5 _ _ _ e14) kX5_sum mX5_169 hk.1 rfl rfl rfl hl.1 (Nat.le_of_ble_eq_true rfl) (q_room (Nat.le_refl _) (Nat.le_refl _) (Nat.le_of_ble_eq_true rfl)) ⟨Nat.le_refl _, Nat.le_refl _⟩ dX5_sumInBrackets_14 fun H1 locs1 hz hP hS => ?_
    refine lv_aload_n hx hb dX5_sumInBrackets_17 rfl (lv_at hl 0 rfl) ?_
    refine lv_bipush (v := 33) hx hb dX5_sumInBrackets_18 rfl ?_
    obtain ⟨q20, e20, h⟩ := obn_e h
    refine z_Vv (k := 12) (v1 := q20) hx hb hml hts hown hK hP hS hz hE (c_Reader_take hk e20) kX5_take mX5_87 hk.1 rfl rfl rfl hl.1 (Nat.le_of_ble_eq_true rfl) (q_room hc (Nat.le_of_ble_eq_true rfl) (Nat.le_of_ble_eq_true rfl)) ⟨Nat.le_refl _, Nat.le_refl _⟩ dX5_sumInBrackets_20 fun H1 locs1 hz hP hS => ?_
    exact w_vret hx hb hret hlk hK hP hS hz hE (Option.some.inj h) dX5_sumInBrackets_23
def f_Reader_oneOfTwoSums (z : Nat) (GV : Nat → List Int32 → Va → Option Va) (v : Va) (a1 : Int32) (a2 : Int32) : Option Va := bnd (pu v 12 6 ((v 12 6) + 1)) fun v7 => (f_Reader_goesDeeper v7 32 a2).bind fun q14 => if (q_b q14.1) = 0 then (some q14.2) else ((GV 5 [(a2 + 1)] q14.2).bind fun q24 => (f_Reader_take q24 37).bind fun q30 => (GV 5 [(a2 + 1)] q30).bind fun q37 => (f_Reader_take q37 33).bind fun q43 => (f_Steps_add q43 42 a1 0 0).bind fun q56 => some q56)
theorem c_Reader_oneOfTwoSums {a1 : Int32} {a2 : Int32} {GV : Nat → List Int32 → Va → Option Va} {hh : Nat} (hk : isReader sh) (hc : 3 ≤ hh) (ig5 : ∀ (a1 : Int32) (v : Va) (q : Va), GV 5 [a1] v = some q → MetV l yX5_sum cX5_sum 4 none hh Γ sh v w n [.ref (Γ.2.1 + 12), .int a1] (fun u => u = q)) {q : Va} (h : f_Reader_oneOfTwoSums z GV v a1 a2 = some q) : MetV l yX5_oneOfTwoSums cX5_oneOfTwoSums 3 none (hh + 1) Γ sh v w n [.ref (Γ.2.1 + 12), .int a1, .int a2] (fun u => u = q) := by
  unfold f_Reader_oneOfTwoSums at h
  refine w_start pn_X5 (Nat.le_of_ble_eq_true rfl) fun p e s m args below meth c hx hb hml hret hlk hnm hts hown hK hP hz hE hS ls hl => ?_
  refine lv_aload_n hx hb dX5_oneOfTwoSums_0 rfl (lv_at hl 0 rfl) ?_
  refine lv_dup hx hb dX5_oneOfTwoSums_1 rfl ?_
  refine w_gi (k := 12) hx hb hts hown hK hP fX5_38 hk.1 rfl dX5_oneOfTwoSums_2 ?_
  refine lv_iconst (v := 1) hx hb dX5_oneOfTwoSums_5 rfl ?_
  refine lv_iadd hx hb dX5_oneOfTwoSums_6 ?_
  obtain ⟨v7, e7, h⟩ := bnd_e h
  refine w_pi2 (k := 12) hx hb hts hown hK hP hS hz fX5_38 hk.1 rfl e7 dX5_oneOfTwoSums_7 fun H1 locs1 hz hP hS => ?_
  refine lv_aload_n hx hb dX5_oneOfTwoSums_10 rfl (lv_at hl 0 rfl) ?_
  refine lv_bipush (v := 32) hx hb dX5_oneOfTwoSums_11 rfl ?_
  refine lv_iload_n hx hb dX5_oneOfTwoSums_13 rfl (lv_at hl 2 rfl) ?_
  obtain ⟨q14, e14, h⟩ := obn_e h
  refine z_Vi (k := 12) (r1 := (q_b q14.1)) (v1 := q14.2) hx hb hml hts hown hK hP hS hz hE (c_Reader_goesDeeper hk e14) kX5_goesDeeper mX5_200 hk.1 rfl rfl rfl hl.1 (Nat.le_of_ble_eq_true rfl) (q_room hc (Nat.le_of_ble_eq_true rfl) (Nat.le_of_ble_eq_true rfl)) ⟨Nat.le_refl _, Nat.le_refl _⟩ dX5_oneOfTwoSums_14 fun H1 locs1 hz hP hS => ?_
  refine lv_if_eq (tgt := 59) hx hb dX5_oneOfTwoSums_17 rfl (fun hc17 => ?_) (fun hc17 => ?_)
  · have h := itt_e h hc17
    exact w_vret hx hb hret hlk hK hP hS hz hE (Option.some.inj h) dX5_oneOfTwoSums_59
  · have h := itf_e h hc17
    refine lv_aload_n hx hb dX5_oneOfTwoSums_20 rfl (lv_at hl 0 rfl) ?_
    refine lv_iload_n hx hb dX5_oneOfTwoSums_21 rfl (lv_at hl 2 rfl) ?_
    refine lv_iconst (v := 1) hx hb dX5_oneOfTwoSums_22 rfl ?_
    refine lv_iadd hx hb dX5_oneOfTwoSums_23 ?_
    obtain ⟨q24, e24, h⟩ := obn_e h
    refine z_Vv (k := 12) (v1 := q24) hx hb hml hts hown hK hP hS hz hE (ig5 _ _ _ e24) kX5_sum mX5_169 hk.1 rfl rfl rfl hl.1 (Nat.le_of_ble_eq_true rfl) (q_room (Nat.le_refl _) (Nat.le_refl _) (Nat.le_of_ble_eq_true rfl)) ⟨Nat.le_refl _, Nat.le_refl _⟩ dX5_oneOfTwoSums_24 fun H1 locs1 hz hP hS => ?_
    refine lv_aload_n hx hb dX5_oneOfTwoSums_27 rfl (lv_at hl 0 rfl) ?_
    refine lv_bipush (v := 37) hx hb dX5_oneOfTwoSums_28 rfl ?_
    obtain ⟨q30, e30, h⟩ := obn_e h
    refine z_Vv (k := 12) (v1 := q30) hx hb hml hts hown hK hP hS hz hE (c_Reader_take hk e30) kX5_take mX5_87 hk.1 rfl rfl rfl hl.1 (Nat.le_of_ble_eq_true rfl) (q_room hc (Nat.le_of_ble_eq_true rfl) (Nat.le_of_ble_eq_true rfl)) ⟨Nat.le_refl _, Nat.le_refl _⟩ dX5_oneOfTwoSums_30 fun H1 locs1 hz hP hS => ?_
    refine lv_aload_n hx hb dX5_oneOfTwoSums_33 rfl (lv_at hl 0 rfl) ?_
    refine lv_iload_n hx hb dX5_oneOfTwoSums_34 rfl (lv_at hl 2 rfl) ?_
    refine lv_iconst (v := 1) hx hb dX5_oneOfTwoSums_35 rfl ?_
    refine lv_iadd hx hb dX5_oneOfTwoSums_36 ?_
    obtain ⟨q37, e37, h⟩ := obn_e h
    refine z_Vv (k := 12) (v1 := q37) hx hb hml hts hown hK hP hS hz hE (ig5 _ _ _ e37) kX5_sum mX5_169 hk.1 rfl rfl rfl hl.1 (Nat.le_of_ble_eq_true rfl) (q_room (Nat.le_refl _) (Nat.le_refl _) (Nat.le_of_ble_eq_true rfl)) ⟨Nat.le_refl _, Nat.le_refl _⟩ dX5_oneOfTwoSums_37 fun H1 locs1 hz hP hS => ?_
    refine lv_aload_n hx hb dX5_oneOfTwoSums_40 rfl (lv_at hl 0 rfl) ?_
    refine lv_bipush (v := 33) hx hb dX5_oneOfTwoSums_41 rfl ?_
    obtain ⟨q43, e43, h⟩ := obn_e h
    refine z_Vv (k := 12) (v1 := q43) hx hb hml hts hown hK hP hS hz hE (c_Reader_take hk e43) kX5_take mX5_87 hk.1 rfl rfl rfl hl.1 (Nat.le_of_ble_eq_true rfl) (q_room hc (Nat.le_of_ble_eq_true rfl) (Nat.le_of_ble_eq_true rfl)) ⟨Nat.le_refl _, Nat.le_refl _⟩ dX5_oneOfTwoSums_43 fun H1 locs1 hz hP hS => ?_
    refine lv_aload_n hx hb dX5_oneOfTwoSums_46 rfl (lv_at hl 0 rfl) ?_
    refine w_gr (k := 12) (r := 13) hx hb hts hown hK hP fX5_16 hk.1 rfl dX5_oneOfTwoSums_47 ?_
    refine w_gr (k := 13) (r := 42) hx hb hts hown hK hP fX5_107 hk.2.1.1 rfl dX5_oneOfTwoSums_50 ?_
    refine lv_iload_n hx hb dX5_oneOfTwoSums_53 rfl (lv_at hl 1 rfl) ?_
    refine lv_iconst (v := 0) hx hb dX5_oneOfTwoSums_54 rfl ?_
    refine lv_iconst (v := 0) hx hb dX5_oneOfTwoSums_55 rfl ?_
    obtain ⟨q56, e56, h⟩ := obn_e h
    refine z_Vv (k := 42) (v1 := q56) hx hb hml hts hown hK hP hS hz hE (c_Steps_add hk.2.1.2.2.2.2.2.2.2.2.2.2.2.2.2.2.2 e56) kX9_add mX5_184 hk.2.1.2.2.2.2.2.2.2.2.2.2.2.2.2.2.2.1 rfl rfl rfl hl.1 (Nat.le_of_ble_eq_true rfl) (q_room hc (Nat.le_of_ble_eq_true rfl) (Nat.le_of_ble_eq_true rfl)) ⟨Nat.le_refl _, Nat.le_refl _⟩ dX5_oneOfTwoSums_56 fun H1 locs1 hz hP hS => ?_
    exact w_vret hx hb hret hlk hK hP hS hz hE (Option.some.inj h) dX5_oneOfTwoSums_59
def g_Reader (z : Nat) : Nat → (Nat → List Int32 → Va → Option Va)
  | 0 => fun _ _ _ => none
  | d + 1 => fun i a v => if i = 0 then f_Reader_test z (g_Reader z d) v (a.getD 0 0) else if i = 1 then f_Reader_both z (g_Reader z d) v (a.getD 0 0) else if i = 2 then f_Reader_single z (g_Reader z d) v (a.getD 0 0) else if i = 3 then f_Reader_turnedTest z (g_Reader z d) v (a.getD 0 0) else if i = 4 then f_Reader_testInBrackets z (g_Reader z d) v (a.getD 0 0) else if i = 5 then f_Reader_sum z (g_Reader z d) v (a.getD 0 0) else if i = 6 then f_Reader_product z (g_Reader z d) v (a.getD 0 0) else if i = 7 then f_Reader_value z (g_Reader z d) v (a.getD 0 0) else if i = 8 then f_Reader_turnedValue z (g_Reader z d) v (a.getD 0 0) else if i = 9 then f_Reader_sumInBrackets z (g_Reader z d) v (a.getD 0 0) else if i = 10 then f_Reader_oneOfTwoSums z (g_Reader z d) v (a.getD 0 0) (a.getD 1 0) else none
theorem cg_Reader (hk : isReader sh) : ∀ d : Nat, (∀ (a1 : Int32) (v : Va) (q : Va), (g_Reader z d) 0 [a1] v = some q → MetV l yX5_test cX5_test 3 none (3 + d) Γ sh v w n [.ref (Γ.2.1 + 12), .int a1] (fun u => u = q)) ∧ (∀ (a1 : Int32) (v : Va) (q : Va), (g_Reader z d) 1 [a1] v = some q → MetV l yX5_both cX5_both 3 none (3 + d) Γ sh v w n [.ref (Γ.2.1 + 12), .int a1] (fun u => u = q)) ∧ (∀ (a1 : Int32) (v : Va) (q : Va), (g_Reader z d) 2 [a1] v = some q → MetV l yX5_single cX5_single 4 none (3 + d) Γ sh v w n [.ref (Γ.2.1 + 12), .int a1] (fun u => u = q)) ∧ (∀ (a1 : Int32) (v : Va) (q : Va), (g_Reader z d) 3 [a1] v = some q → MetV l yX5_turnedTest cX5_turnedTest 2 none (3 + d) Γ sh v w n [.ref (Γ.2.1 + 12), .int a1] (fun u => u = q)) ∧ (∀ (a1 : Int32) (v : Va) (q : Va), (g_Reader z d) 4 [a1] v = some q → MetV l yX5_testInBrackets cX5_testInBrackets 2 none (3 + d) Γ sh v w n [.ref (Γ.2.1 + 12), .int a1] (fun u => u = q)) ∧ (∀ (a1 : Int32) (v : Va) (q : Va), (g_Reader z d) 5 [a1] v = some q → MetV l yX5_sum cX5_sum 4 none (3 + d) Γ sh v w n [.ref (Γ.2.1 + 12), .int a1] (fun u => u = q)) ∧ (∀ (a1 : Int32) (v : Va) (q : Va), (g_Reader z d) 6 [a1] v = some q → MetV l yX5_product cX5_product 4 none (3 + d) Γ sh v w n [.ref (Γ.2.1 + 12), .int a1] (fun u => u = q)) ∧ (∀ (a1 : Int32) (v : Va) (q : Va), (g_Reader z d) 7 [a1] v = some q → MetV l yX5_value cX5_value 4 none (3 + d) Γ sh v w n [.ref (Γ.2.1 + 12), .int a1] (fun u => u = q)) ∧ (∀ (a1 : Int32) (v : Va) (q : Va), (g_Reader z d) 8 [a1] v = some q → MetV l yX5_turnedValue cX5_turnedValue 2 none (3 + d) Γ sh v w n [.ref (Γ.2.1 + 12), .int a1] (fun u => u = q)) ∧ (∀ (a1 : Int32) (v : Va) (q : Va), (g_Reader z d) 9 [a1] v = some q → MetV l yX5_sumInBrackets cX5_sumInBrackets 2 none (3 + d) Γ sh v w n [.ref (Γ.2.1 + 12), .int a1] (fun u => u = q)) ∧ (∀ (a1 : Int32) (a2 : Int32) (v : Va) (q : Va), (g_Reader z d) 10 [a1, a2] v = some q → MetV l yX5_oneOfTwoSums cX5_oneOfTwoSums 3 none (3 + d) Γ sh v w n [.ref (Γ.2.1 + 12), .int a1, .int a2] (fun u => u = q)) := by
  intro d
  induction d with
  | zero => exact ⟨fun _ _ _ h => (by cases h), fun _ _ _ h => (by cases h), fun _ _ _ h => (by cases h), fun _ _ _ h => (by cases h), fun _ _ _ h => (by cases h), fun _ _ _ h => (by cases h), fun _ _ _ h => (by cases h), fun _ _ _ h => (by cases h), fun _ _ _ h => (by cases h), fun _ _ _ h => (by cases h), fun _ _ _ _ h => (by cases h)⟩
  | succ d ih => exact ⟨fun _ _ _ h => c_Reader_test hk (z := z) (GV := g_Reader z d) (hh := 3 + d) (Nat.le_add_right _ _) ih.2.1 h,
      fun _ _ _ h => c_Reader_both hk (z := z) (GV := g_Reader z d) (hh := 3 + d) (Nat.le_add_right _ _) ih.2.2.1 h,
      fun _ _ _ h => c_Reader_single hk (z := z) (GV := g_Reader z d) (hh := 3 + d) (Nat.le_add_right _ _) ih.2.2.2.1 ih.2.2.2.2.1 ih.2.2.2.2.2.1 h,
      fun _ _ _ h => c_Reader_turnedTest hk (z := z) (GV := g_Reader z d) (hh := 3 + d) (Nat.le_add_right _ _) ih.2.2.1 h,
      fun _ _ _ h => c_Reader_testInBrackets hk (z := z) (GV := g_Reader z d) (hh := 3 + d) (Nat.le_add_right _ _) ih.1 h,
      fun _ _ _ h => c_Reader_sum hk (z := z) (GV := g_Reader z d) (hh := 3 + d) (Nat.le_add_right _ _) ih.2.2.2.2.2.2.1 h,
      fun _ _ _ h => c_Reader_product hk (z := z) (GV := g_Reader z d) (hh := 3 + d) (Nat.le_add_right _ _) ih.2.2.2.2.2.2.2.1 h,
      fun _ _ _ h => c_Reader_value hk (z := z) (GV := g_Reader z d) (hh := 3 + d) (Nat.le_add_right _ _) ih.2.2.2.2.2.2.2.2.1 ih.2.2.2.2.2.2.2.2.2.1 ih.2.2.2.2.2.2.2.2.2.2 h,
      fun _ _ _ h => c_Reader_turnedValue hk (z := z) (GV := g_Reader z d) (hh := 3 + d) (Nat.le_add_right _ _) ih.2.2.2.2.2.2.2.1 h,
      fun _ _ _ h => c_Reader_sumInBrackets hk (z := z) (GV := g_Reader z d) (hh := 3 + d) (Nat.le_add_right _ _) ih.2.2.2.2.2.1 h,
      fun _ _ _ _ h => c_Reader_oneOfTwoSums hk (z := z) (GV := g_Reader z d) (hh := 3 + d) (Nat.le_add_right _ _) ih.2.2.2.2.2.1 h⟩
def j_Reader_orderLine_202 (v : Va) (v202 : Va) : Option Va := bnd (up v202 41 (row_s 24 (v202 41) (v 13 4) (v202 42 0))) fun q220 => bnd (pu q220 13 4 ((q220 13 4) + 1)) fun v233 => some v233
def j_Reader_orderLine_157 (z : Nat) (v : Va) (v157 : Va) : Option Va := bnd (up v157 39 (row_s 24 (v157 39) (v 13 4) (v157 42 0))) fun q175 => (f_Reader_seen q175).bind fun q179 => if q179 = 18 then (bnd (pu q175 12 6 ((q175 12 6) + 1)) fun v194 => (g_Reader z 48 0 [0] v194).bind fun q199 => j_Reader_orderLine_202 v q199) else (j_Reader_orderLine_202 v q175)
def j_Reader_orderLine_115 (z : Nat) (v : Va) (a1 : Int32) (q88 : Va) (s115_0k : Nat) (s115_0N : Nat) : Option Va := (f_Reader_takeName z q88 s115_0k s115_0N).bind fun q115 => bnd (up q115.2 35 (row_s 24 (q115.2 35) (v 13 4) q115.1)) fun q118 => bnd (up q118 37 (row_s 24 (q118 37) (v 13 4) (q118 42 0))) fun q139 => if a1 = 0 then (j_Reader_orderLine_157 z v q139) else ((f_Reader_take q139 17).bind fun q149 => (g_Reader z 48 5 [0] q149).bind fun q154 => j_Reader_orderLine_157 z v q154)
def j_Reader_orderLine_88 (z : Nat) (v : Va) (a1 : Int32) (q73 : Va) (s88_0 : Int32) : Option Va := (f_Reader_take q73 s88_0).bind fun q88 => if a1 = 0 then (j_Reader_orderLine_115 z v a1 q88 52 4) else (j_Reader_orderLine_115 z v a1 q88 55 6)
def j_Reader_orderLine_70 (z : Nat) (v : Va) (a1 : Int32) (q42 : Va) (s70_0k : Nat) (s70_0N : Nat) : Option Va := (f_Reader_takeName z q42 s70_0k s70_0N).bind fun q70 => bnd (up q70.2 33 (row_s 24 (q70.2 33) (v 13 4) q70.1)) fun q73 => if a1 = 0 then (j_Reader_orderLine_88 z v a1 q73 13) else (j_Reader_orderLine_88 z v a1 q73 15)
def j_Reader_orderLine_23 (z : Nat) (v : Va) (a1 : Int32) (v23 : Va) : Option Va := bnd (pu v23 12 6 ((v23 12 6) + 1)) fun v30 => bnd (up v30 31 (row_s 24 (v30 31) (v 13 4) a1)) fun q42 => if a1 = 2 then (j_Reader_orderLine_70 z v a1 q42 55 6) else (j_Reader_orderLine_70 z v a1 q42 58 10)
def f_Reader_orderLine (z : Nat) (v : Va) (a1 : Int32) : Option Va := if (v 13 4) < 24 then (j_Reader_orderLine_23 z v a1 v) else ((f_Reader_blame v 4 (v 12 6)).bind fun q20 => j_Reader_orderLine_23 z v a1 q20)
theorem c_Reader_orderLine {a1 : Int32} (hk : isReader sh) {q : Va} (h : f_Reader_orderLine z v a1 = some q) : MetV l yX5_orderLine cX5_orderLine 3 none 52 Γ sh v w n [.ref (Γ.2.1 + 12), .int a1] (fun u => u = q) := by
  unfold f_Reader_orderLine at h
  refine w_start pn_X5 (Nat.le_of_ble_eq_true rfl) fun p e s m args below meth c hx hb hml hret hlk hnm hts hown hK hP hz hE hS ls hl => ?_
  refine lv_aload_n hx hb dX5_orderLine_0 rfl (lv_at hl 0 rfl) ?_
  refine w_gr (k := 12) (r := 13) hx hb hts hown hK hP fX5_16 hk.1 rfl dX5_orderLine_1 ?_
  refine w_gi (k := 13) hx hb hts hown hK hP fX5_104 hk.2.1.1 rfl dX5_orderLine_4 ?_
  refine lv_istore_n (lv' := [(2, .int (v 13 4)), (0, .ref (Γ.2.1 + 12)), (1, .int a1)]) hx hb dX5_orderLine_7 rfl hl (by decide) rfl fun ls hl => ?_
  refine lv_iload_n hx hb dX5_orderLine_8 rfl (lv_at hl 0 rfl) ?_
  refine lv_bipush (v := 24) hx hb dX5_orderLine_9 rfl ?_
  have J23 : ∀ (v23 : Va), (j_Reader_orderLine_23 z v a1) v23 = some q → ∀ (H1 : Heap) (locs1 : List Loc) (ls1 : Array Slot), lv_has ls1 3 [(0, .ref (Γ.2.1 + 12)), (1, .int a1), (2, .int (v 13 4))] → Wd Γ sh v23 w H1 → va_S (gA Γ sh n) s.heap H1 locs1 → H1.size = Γ.2.1 + n → wpV Γ sh w n 52 (fun u => u = q) p l e s m args below meth c H1 locs1 (F0 m 23 ls1 []) := by
    intro v23 h H1 locs1 ls hl hP hS hz
    unfold j_Reader_orderLine_23 at h
    refine lv_aload_n hx hb dX5_orderLine_23 rfl (lv_at hl 0 rfl) ?_
    refine lv_dup hx hb dX5_orderLine_24 rfl ?_
    refine w_gi (k := 12) hx hb hts hown hK hP fX5_38 hk.1 rfl dX5_orderLine_25 ?_
    refine lv_iconst (v := 1) hx hb dX5_orderLine_28 rfl ?_
    refine lv_iadd hx hb dX5_orderLine_29 ?_
    obtain ⟨v30, e30, h⟩ := bnd_e h
    refine w_pi2 (k := 12) hx hb hts hown hK hP hS hz fX5_38 hk.1 rfl e30 dX5_orderLine_30 fun H1 locs1 hz hP hS => ?_
    refine lv_aload_n hx hb dX5_orderLine_33 rfl (lv_at hl 0 rfl) ?_
    refine w_gr (k := 12) (r := 13) hx hb hts hown hK hP fX5_16 hk.1 rfl dX5_orderLine_34 ?_
    refine w_gr (k := 13) (r := 30) hx hb hts hown hK hP fX5_157 hk.2.1.1 rfl dX5_orderLine_37 ?_
    refine lv_iload_n hx hb dX5_orderLine_40 rfl (lv_at hl 2 rfl) ?_
    refine lv_iload_n hx hb dX5_orderLine_41 rfl (lv_at hl 1 rfl) ?_
    obtain ⟨q42, e42, h⟩ := bnd_e h
    refine z_Vv (k := 30) (v1 := q42) hx hb hml hts hown hK hP hS hz hE (C_Row_set hk.2.1.2.2.2.2.2.2.2.2.2.1 e42) kX7_set mX5_126 hk.2.1.2.2.2.2.2.2.2.2.2.1.1 rfl rfl rfl hl.1 (Nat.le_of_ble_eq_true rfl) ⟨Nat.le_of_ble_eq_true rfl, Nat.le_of_ble_eq_true rfl⟩ ⟨Nat.le_refl _, Nat.le_refl _⟩ dX5_orderLine_42 fun H1 locs1 hz hP hS => ?_
    refine lv_aload_n hx hb dX5_orderLine_45 rfl (lv_at hl 0 rfl) ?_
    refine w_gr (k := 12) (r := 13) hx hb hts hown hK hP fX5_16 hk.1 rfl dX5_orderLine_46 ?_
    refine w_gr (k := 13) (r := 32) hx hb hts hown hK hP fX5_160 hk.2.1.1 rfl dX5_orderLine_49 ?_
    refine lv_iload_n hx hb dX5_orderLine_52 rfl (lv_at hl 2 rfl) ?_
    refine lv_aload_n hx hb dX5_orderLine_53 rfl (lv_at hl 0 rfl) ?_
    refine lv_iload_n hx hb dX5_orderLine_54 rfl (lv_at hl 1 rfl) ?_
    refine lv_iconst (v := 2) hx hb dX5_orderLine_55 rfl ?_
    have J70 : ∀ (s70_0k : Nat) (s70_0N : Nat) (hs70_0 : isNames sh s70_0k s70_0N), (j_Reader_orderLine_70 z v a1 q42) s70_0k s70_0N = some q → ∀ (H1 : Heap) (locs1 : List Loc) (ls1 : Array Slot), lv_has ls1 3 [(0, .ref (Γ.2.1 + 12)), (1, .int a1), (2, .int (v 13 4))] → Wd Γ sh q42 w H1 → va_S (gA Γ sh n) s.heap H1 locs1 → H1.size = Γ.2.1 + n → wpV Γ sh w n 52 (fun u => u = q) p l e s m args below meth c H1 locs1 (F0 m 70 ls1 [.ref (Γ.2.1 + s70_0k), .ref (Γ.2.1 + 12), .int (v 13 4), .ref (Γ.2.1 + 32)]) := by
      intro s70_0k s70_0N hs70_0 h H1 locs1 ls hl hP hS hz
      unfold j_Reader_orderLine_70 at h
      obtain ⟨q70, e70, h⟩ := obn_e h
      refine z_Vi (k := 12) (r1 := q70.1) (v1 := q70.2) hx hb hml hts hown hK hP hS hz hE (c_Reader_takeName hk hs70_0 e70) kX5_takeName mX5_145 hk.1 rfl rfl rfl hl.1 (Nat.le_of_ble_eq_true rfl) ⟨Nat.le_of_ble_eq_true rfl, Nat.le_of_ble_eq_true rfl⟩ ⟨Nat.le_refl _, Nat.le_refl _⟩ dX5_orderLine_70 fun H1 locs1 hz hP hS => ?_
      obtain ⟨q73, e73, h⟩ := bnd_e h
      refine z_Vv (k := 32) (v1 := q73) hx hb hml hts hown hK hP hS hz hE (C_Row_set hk.2.1.2.2.2.2.2.2.2.2.2.2.1 e73) kX7_set mX5_126 hk.2.1.2.2.2.2.2.2.2.2.2.2.1.1 rfl rfl rfl hl.1 (Nat.le_of_ble_eq_true rfl) ⟨Nat.le_of_ble_eq_true rfl, Nat.le_of_ble_eq_true rfl⟩ ⟨Nat.le_refl _, Nat.le_refl _⟩ dX5_orderLine_73 fun H1 locs1 hz hP hS => ?_
      refine lv_aload_n hx hb dX5_orderLine_76 rfl (lv_at hl 0 rfl) ?_
      refine lv_iload_n hx hb dX5_orderLine_77 rfl (lv_at hl 1 rfl) ?_
      have J88 : ∀ (s88_0 : Int32), (j_Reader_orderLine_88 z v a1 q73) s88_0 = some q → ∀ (H1 : Heap) (locs1 : List Loc) (ls1 : Array Slot), lv_has ls1 3 [(0, .ref (Γ.2.1 + 12)), (1, .int a1), (2, .int (v 13 4))] → Wd Γ sh q73 w H1 → va_S (gA Γ sh n) s.heap H1 locs1 → H1.size = Γ.2.1 + n → wpV Γ sh w n 52 (fun u => u = q) p l e s m args below meth c H1 locs1 (F0 m 88 ls1 [.int s88_0, .ref (Γ.2.1 + 12)]) := by
        intro s88_0 h H1 locs1 ls hl hP hS hz
        unfold j_Reader_orderLine_88 at h
        obtain ⟨q88, e88, h⟩ := obn_e h
        refine z_Vv (k := 12) (v1 := q88) hx hb hml hts hown hK hP hS hz hE (c_Reader_take hk e88) kX5_take mX5_87 hk.1 rfl rfl rfl hl.1 (Nat.le_of_ble_eq_true rfl) ⟨Nat.le_of_ble_eq_true rfl, Nat.le_of_ble_eq_true rfl⟩ ⟨Nat.le_refl _, Nat.le_refl _⟩ dX5_orderLine_88 fun H1 locs1 hz hP hS => ?_
        refine lv_aload_n hx hb dX5_orderLine_91 rfl (lv_at hl 0 rfl) ?_
        refine w_gr (k := 12) (r := 13) hx hb hts hown hK hP fX5_16 hk.1 rfl dX5_orderLine_92 ?_
        refine w_gr (k := 13) (r := 34) hx hb hts hown hK hP fX5_163 hk.2.1.1 rfl dX5_orderLine_95 ?_
        refine lv_iload_n hx hb dX5_orderLine_98 rfl (lv_at hl 2 rfl) ?_
        refine lv_aload_n hx hb dX5_orderLine_99 rfl (lv_at hl 0 rfl) ?_
        refine lv_iload_n hx hb dX5_orderLine_100 rfl (lv_at hl 1 rfl) ?_
        have J115 : ∀ (s115_0k : Nat) (s115_0N : Nat) (hs115_0 : isNames sh s115_0k s115_0N), (j_Reader_orderLine_115 z v a1 q88) s115_0k s115_0N = some q → ∀ (H1 : Heap) (locs1 : List Loc) (ls1 : Array Slot), lv_has ls1 3 [(0, .ref (Γ.2.1 + 12)), (1, .int a1), (2, .int (v 13 4))] → Wd Γ sh q88 w H1 → va_S (gA Γ sh n) s.heap H1 locs1 → H1.size = Γ.2.1 + n → wpV Γ sh w n 52 (fun u => u = q) p l e s m args below meth c H1 locs1 (F0 m 115 ls1 [.ref (Γ.2.1 + s115_0k), .ref (Γ.2.1 + 12), .int (v 13 4), .ref (Γ.2.1 + 34)]) := by
          intro s115_0k s115_0N hs115_0 h H1 locs1 ls hl hP hS hz
          unfold j_Reader_orderLine_115 at h
          obtain ⟨q115, e115, h⟩ := obn_e h
          refine z_Vi (k := 12) (r1 := q115.1) (v1 := q115.2) hx hb hml hts hown hK hP hS hz hE (c_Reader_takeName hk hs115_0 e115) kX5_takeName mX5_145 hk.1 rfl rfl rfl hl.1 (Nat.le_of_ble_eq_true rfl) ⟨Nat.le_of_ble_eq_true rfl, Nat.le_of_ble_eq_true rfl⟩ ⟨Nat.le_refl _, Nat.le_refl _⟩ dX5_orderLine_115 fun H1 locs1 hz hP hS => ?_
          obtain ⟨q118, e118, h⟩ := bnd_e h
          refine z_Vv (k := 34) (v1 := q118) hx hb hml hts hown hK hP hS hz hE (C_Row_set hk.2.1.2.2.2.2.2.2.2.2.2.2.2.1 e118) kX7_set mX5_126 hk.2.1.2.2.2.2.2.2.2.2.2.2.2.1.1 rfl rfl rfl hl.1 (Nat.le_of_ble_eq_true rfl) ⟨Nat.le_of_ble_eq_true rfl, Nat.le_of_ble_eq_true rfl⟩ ⟨Nat.le_refl _, Nat.le_refl _⟩ dX5_orderLine_118 fun H1 locs1 hz hP hS => ?_
          refine lv_aload_n hx hb dX5_orderLine_121 rfl (lv_at hl 0 rfl) ?_
          refine w_gr (k := 12) (r := 13) hx hb hts hown hK hP fX5_16 hk.1 rfl dX5_orderLine_122 ?_
          refine w_gr (k := 13) (r := 36) hx hb hts hown hK hP fX5_166 hk.2.1.1 rfl dX5_orderLine_125 ?_
          refine lv_iload_n hx hb dX5_orderLine_128 rfl (lv_at hl 2 rfl) ?_
          refine lv_aload_n hx hb dX5_orderLine_129 rfl (lv_at hl 0 rfl) ?_
          refine w_gr (k := 12) (r := 13) hx hb hts hown hK hP fX5_16 hk.1 rfl dX5_orderLine_130 ?_
          refine w_gr (k := 13) (r := 42) hx hb hts hown hK hP fX5_107 hk.2.1.1 rfl dX5_orderLine_133 ?_
          refine w_gi (k := 42) hx hb hts hown hK hP fX5_111 hk.2.1.2.2.2.2.2.2.2.2.2.2.2.2.2.2.2.1 rfl dX5_orderLine_136 ?_
          obtain ⟨q139, e139, h⟩ := bnd_e h
          refine z_Vv (k := 36) (v1 := q139) hx hb hml hts hown hK hP hS hz hE (C_Row_set hk.2.1.2.2.2.2.2.2.2.2.2.2.2.2.1 e139) kX7_set mX5_126 hk.2.1.2.2.2.2.2.2.2.2.2.2.2.2.1.1 rfl rfl rfl hl.1 (Nat.le_of_ble_eq_true rfl) ⟨Nat.le_of_ble_eq_true rfl, Nat.le_of_ble_eq_true rfl⟩ ⟨Nat.le_refl _, Nat.le_refl _⟩ dX5_orderLine_139 fun H1 locs1 hz hP hS => ?_
          refine lv_iload_n hx hb dX5_orderLine_142 rfl (lv_at hl 1 rfl) ?_
          have J157 : ∀ (v157 : Va), (j_Reader_orderLine_157 z v) v157 = some q → ∀ (H1 : Heap) (locs1 : List Loc) (ls1 : Array Slot), lv_has ls1 3 [(0, .ref (Γ.2.1 + 12)), (2, .int (v 13 4))] → Wd Γ sh v157 w H1 → va_S (gA Γ sh n) s.heap H1 locs1 → H1.size = Γ.2.1 + n → wpV Γ sh w n 52 (fun u => u = q) p l e s m args below meth c H1 locs1 (F0 m 157 ls1 []) := by
            intro v157 h H1 locs1 ls hl hP hS hz
            unfold j_Reader_orderLine_157 at h
            refine lv_aload_n hx hb dX5_orderLine_157 rfl (lv_at hl 0 rfl) ?_
            refine w_gr (k := 12) (r := 13) hx hb hts hown hK hP fX5_16 hk.1 rfl dX5_orderLine_158 ?_
            refine w_gr (k := 13) (r := 38) hx hb hts hown hK hP fX5_172 hk.2.1.1 rfl dX5_orderLine_161 ?_
            refine lv_iload_n hx hb dX5_orderLine_164 rfl (lv_at hl 1 rfl) ?_
            refine lv_aload_n hx hb dX5_orderLine_165 rfl (lv_at hl 0 rfl) ?_
            refine w_gr (k := 12) (r := 13) hx hb hts hown hK hP fX5_16 hk.1 rfl dX5_orderLine_166 ?_
            refine w_gr (k := 13) (r := 42) hx hb hts hown hK hP fX5_107 hk.2.1.1 rfl dX5_orderLine_169 ?_
            refine w_gi (k := 42) hx hb hts hown hK hP fX5_111 hk.2.1.2.2.2.2.2.2.2.2.2.2.2.2.2.2.2.1 rfl dX5_orderLine_172 ?_
            obtain ⟨q175, e175, h⟩ := bnd_e h
            refine z_Vv (k := 38) (v1 := q175) hx hb hml hts hown hK hP hS hz hE (C_Row_set hk.2.1.2.2.2.2.2.2.2.2.2.2.2.2.2.1 e175) kX7_set mX5_126 hk.2.1.2.2.2.2.2.2.2.2.2.2.2.2.2.1.1 rfl rfl rfl hl.1 (Nat.le_of_ble_eq_true rfl) ⟨Nat.le_of_ble_eq_true rfl, Nat.le_of_ble_eq_true rfl⟩ ⟨Nat.le_refl _, Nat.le_refl _⟩ dX5_orderLine_175 fun H1 locs1 hz hP hS => ?_
            refine lv_aload_n hx hb dX5_orderLine_178 rfl (lv_at hl 0 rfl) ?_
            obtain ⟨q179, e179, h⟩ := obn_e h
            refine z_Vi (k := 12) (r1 := q179) (v1 := q175) hx hb hml hts hown hK hP hS hz hE (c_Reader_seen hk e179) kX5_seen mX5_63 hk.1 rfl rfl rfl hl.1 (Nat.le_of_ble_eq_true rfl) ⟨Nat.le_of_ble_eq_true rfl, Nat.le_of_ble_eq_true rfl⟩ ⟨Nat.le_refl _, Nat.le_refl _⟩ dX5_orderLine_179 fun H1 locs1 hz hP hS => ?_
            refine lv_bipush (v := 18) hx hb dX5_orderLine_182 rfl ?_
            have J202 : ∀ (v202 : Va), (j_Reader_orderLine_202 v) v202 = some q → ∀ (H1 : Heap) (locs1 : List Loc) (ls1 : Array Slot), lv_has ls1 3 [(0, .ref (Γ.2.1 + 12)), (2, .int (v 13 4))] → Wd Γ sh v202 w H1 → va_S (gA Γ sh n) s.heap H1 locs1 → H1.size = Γ.2.1 + n → wpV Γ sh w n 52 (fun u => u = q) p l e s m args below meth c H1 locs1 (F0 m 202 ls1 []) := by
              intro v202 h H1 locs1 ls hl hP hS hz
              unfold j_Reader_orderLine_202 at h
              refine lv_aload_n hx hb dX5_orderLine_202 rfl (lv_at hl 0 rfl) ?_
              refine w_gr (k := 12) (r := 13) hx hb hts hown hK hP fX5_16 hk.1 rfl dX5_orderLine_203 ?_
              refine w_gr (k := 13) (r := 40) hx hb hts hown hK hP fX5_178 hk.2.1.1 rfl dX5_orderLine_206 ?_
              refine lv_iload_n hx hb dX5_orderLine_209 rfl (lv_at hl 1 rfl) ?_
              refine lv_aload_n hx hb dX5_orderLine_210 rfl (lv_at hl 0 rfl) ?_
              refine w_gr (k := 12) (r := 13) hx hb hts hown hK hP fX5_16 hk.1 rfl dX5_orderLine_211 ?_
              refine w_gr (k := 13) (r := 42) hx hb hts hown hK hP fX5_107 hk.2.1.1 rfl dX5_orderLine_214 ?_
              refine w_gi (k := 42) hx hb hts hown hK hP fX5_111 hk.2.1.2.2.2.2.2.2.2.2.2.2.2.2.2.2.2.1 rfl dX5_orderLine_217 ?_
              obtain ⟨q220, e220, h⟩ := bnd_e h
              refine z_Vv (k := 40) (v1 := q220) hx hb hml hts hown hK hP hS hz hE (C_Row_set hk.2.1.2.2.2.2.2.2.2.2.2.2.2.2.2.2.1 e220) kX7_set mX5_126 hk.2.1.2.2.2.2.2.2.2.2.2.2.2.2.2.2.1.1 rfl rfl rfl hl.1 (Nat.le_of_ble_eq_true rfl) ⟨Nat.le_of_ble_eq_true rfl, Nat.le_of_ble_eq_true rfl⟩ ⟨Nat.le_refl _, Nat.le_refl _⟩ dX5_orderLine_220 fun H1 locs1 hz hP hS => ?_
              refine lv_aload_n hx hb dX5_orderLine_223 rfl (lv_at hl 0 rfl) ?_
              refine w_gr (k := 12) (r := 13) hx hb hts hown hK hP fX5_16 hk.1 rfl dX5_orderLine_224 ?_
              refine lv_dup hx hb dX5_orderLine_227 rfl ?_
              refine w_gi (k := 13) hx hb hts hown hK hP fX5_104 hk.2.1.1 rfl dX5_orderLine_228 ?_
              refine lv_iconst (v := 1) hx hb dX5_orderLine_231 rfl ?_
              refine lv_iadd hx hb dX5_orderLine_232 ?_
              obtain ⟨v233, e233, h⟩ := bnd_e h
              refine w_pi2 (k := 13) hx hb hts hown hK hP hS hz fX5_104 hk.2.1.1 rfl e233 dX5_orderLine_233 fun H1 locs1 hz hP hS => ?_
              exact w_vret hx hb hret hlk hK hP hS hz hE (Option.some.inj h) dX5_orderLine_236
            refine lv_icmp_ne (tgt := 202) hx hb dX5_orderLine_184 rfl (fun hc184 => ?_) (fun hc184 => ?_)
            · have h := itf_e h hc184
              exact J202 q175 h _ _ _ (lv_sub hl [0, 1] rfl) hP hS hz
            · have h := itt_e h hc184
              refine lv_aload_n hx hb dX5_orderLine_187 rfl (lv_at hl 0 rfl) ?_
              refine lv_dup hx hb dX5_orderLine_188 rfl ?_
              refine w_gi (k := 12) hx hb hts hown hK hP fX5_38 hk.1 rfl dX5_orderLine_189 ?_
              refine lv_iconst (v := 1) hx hb dX5_orderLine_192 rfl ?_
              refine lv_iadd hx hb dX5_orderLine_193 ?_
              obtain ⟨v194, e194, h⟩ := bnd_e h
              refine w_pi2 (k := 12) hx hb hts hown hK hP hS hz fX5_38 hk.1 rfl e194 dX5_orderLine_194 fun H1 locs1 hz hP hS => ?_
              refine lv_aload_n hx hb dX5_orderLine_197 rfl (lv_at hl 0 rfl) ?_
              refine lv_iconst (v := 0) hx hb dX5_orderLine_198 rfl ?_
              obtain ⟨q199, e199, h⟩ := obn_e h
              refine z_Vv (k := 12) (v1 := q199) hx hb hml hts hown hK hP hS hz hE ((cg_Reader (z := z) hk 48).1 _ _ _ e199) kX5_test mX5_175 hk.1 rfl rfl rfl hl.1 (Nat.le_of_ble_eq_true rfl) ⟨Nat.le_of_ble_eq_true rfl, Nat.le_of_ble_eq_true rfl⟩ ⟨Nat.le_refl _, Nat.le_refl _⟩ dX5_orderLine_199 fun H1 locs1 hz hP hS => ?_
              exact J202 q199 h _ _ _ (lv_sub hl [0, 1] rfl) hP hS hz
          refine lv_if_eq (tgt := 157) hx hb dX5_orderLine_143 rfl (fun hc143 => ?_) (fun hc143 => ?_)
          · have h := itt_e h hc143
            exact J157 q139 h _ _ _ (lv_sub hl [0, 2] rfl) hP hS hz
          · have h := itf_e h hc143
            refine lv_aload_n hx hb dX5_orderLine_146 rfl (lv_at hl 0 rfl) ?_
            refine lv_bipush (v := 17) hx hb dX5_orderLine_147 rfl ?_
            obtain ⟨q149, e149, h⟩ := obn_e h
            refine z_Vv (k := 12) (v1 := q149) hx hb hml hts hown hK hP hS hz hE (c_Reader_take hk e149) kX5_take mX5_87 hk.1 rfl rfl rfl hl.1 (Nat.le_of_ble_eq_true rfl) ⟨Nat.le_of_ble_eq_true rfl, Nat.le_of_ble_eq_true rfl⟩ ⟨Nat.le_refl _, Nat.le_refl _⟩ dX5_orderLine_149 fun H1 locs1 hz hP hS => ?_
            refine lv_aload_n hx hb dX5_orderLine_152 rfl (lv_at hl 0 rfl) ?_
            refine lv_iconst (v := 0) hx hb dX5_orderLine_153 rfl ?_
            obtain ⟨q154, e154, h⟩ := obn_e h
            refine z_Vv (k := 12) (v1 := q154) hx hb hml hts hown hK hP hS hz hE ((cg_Reader (z := z) hk 48).2.2.2.2.2.1 _ _ _ e154) kX5_sum mX5_169 hk.1 rfl rfl rfl hl.1 (Nat.le_of_ble_eq_true rfl) ⟨Nat.le_of_ble_eq_true rfl, Nat.le_of_ble_eq_true rfl⟩ ⟨Nat.le_refl _, Nat.le_refl _⟩ dX5_orderLine_154 fun H1 locs1 hz hP hS => ?_
            exact J157 q154 h _ _ _ (lv_sub hl [0, 2] rfl) hP hS hz
        refine lv_if_ne (tgt := 111) hx hb dX5_orderLine_101 rfl (fun hc101 => ?_) (fun hc101 => ?_)
        · have h := itf_e h hc101
          refine lv_aload_n hx hb dX5_orderLine_111 rfl (lv_at hl 0 rfl) ?_
          refine w_gr (k := 12) (r := 55) hx hb hts hown hK hP fX5_32 hk.1 rfl dX5_orderLine_112 ?_
          exact J115 55 6 hk.2.2.2.2.2.1 h _ _ _ (lv_sub hl [0, 1, 2] rfl) hP hS hz
        · have h := itt_e h hc101
          refine lv_aload_n hx hb dX5_orderLine_104 rfl (lv_at hl 0 rfl) ?_
          refine w_gr (k := 12) (r := 52) hx hb hts hown hK hP fX5_29 hk.1 rfl dX5_orderLine_105 ?_
          refine lv_goto (tgt := 115) hx hb dX5_orderLine_108 rfl ?_
          exact J115 52 4 hk.2.2.2.2.1 h _ _ _ (lv_sub hl [0, 1, 2] rfl) hP hS hz
      refine lv_if_ne (tgt := 86) hx hb dX5_orderLine_78 rfl (fun hc78 => ?_) (fun hc78 => ?_)
      · have h := itf_e h hc78
        refine lv_bipush (v := 15) hx hb dX5_orderLine_86 rfl ?_
        exact J88 15 h _ _ _ (lv_sub hl [0, 1, 2] rfl) hP hS hz
      · have h := itt_e h hc78
        refine lv_bipush (v := 13) hx hb dX5_orderLine_81 rfl ?_
        refine lv_goto (tgt := 88) hx hb dX5_orderLine_83 rfl ?_
        exact J88 13 h _ _ _ (lv_sub hl [0, 1, 2] rfl) hP hS hz
    refine lv_icmp_ne (tgt := 66) hx hb dX5_orderLine_56 rfl (fun hc56 => ?_) (fun hc56 => ?_)
    · have h := itf_e h hc56
      refine lv_aload_n hx hb dX5_orderLine_66 rfl (lv_at hl 0 rfl) ?_
      refine w_gr (k := 12) (r := 58) hx hb hts hown hK hP fX5_35 hk.1 rfl dX5_orderLine_67 ?_
      exact J70 58 10 hk.2.2.2.2.2.2 h _ _ _ (lv_sub hl [0, 1, 2] rfl) hP hS hz
    · have h := itt_e h hc56
      refine lv_aload_n hx hb dX5_orderLine_59 rfl (lv_at hl 0 rfl) ?_
      refine w_gr (k := 12) (r := 55) hx hb hts hown hK hP fX5_32 hk.1 rfl dX5_orderLine_60 ?_
      refine lv_goto (tgt := 70) hx hb dX5_orderLine_63 rfl ?_
      exact J70 55 6 hk.2.2.2.2.2.1 h _ _ _ (lv_sub hl [0, 1, 2] rfl) hP hS hz
  refine lv_icmp_lt (tgt := 23) hx hb dX5_orderLine_11 rfl (fun hc11 => ?_) (fun hc11 => ?_)
  · have h := itt_e h hc11
    exact J23 v h _ _ _ (lv_sub hl [1, 2, 0] rfl) hP hS hz
  · have h := itf_e h hc11
    refine lv_aload_n hx hb dX5_orderLine_14 rfl (lv_at hl 1 rfl) ?_
    refine lv_iconst (v := 4) hx hb dX5_orderLine_15 rfl ?_
    refine lv_aload_n hx hb dX5_orderLine_16 rfl (lv_at hl 1 rfl) ?_
    refine w_gi (k := 12) hx hb hts hown hK hP fX5_38 hk.1 rfl dX5_orderLine_17 ?_
    obtain ⟨q20, e20, h⟩ := obn_e h
    refine z_Vv (k := 12) (v1 := q20) hx hb hml hts hown hK hP hS hz hE (c_Reader_blame hk e20) kX5_blame mX5_154 hk.1 rfl rfl rfl hl.1 (Nat.le_of_ble_eq_true rfl) ⟨Nat.le_of_ble_eq_true rfl, Nat.le_of_ble_eq_true rfl⟩ ⟨Nat.le_refl _, Nat.le_refl _⟩ dX5_orderLine_20 fun H1 locs1 hz hP hS => ?_
    exact J23 q20 h _ _ _ (lv_sub hl [1, 2, 0] rfl) hP hS hz
def j_Reader_read_184 (t6 : Int32 × Va) : Option (Int32 × Va) := (f_Names_told t6.2 49 4).bind fun q192 => bnd (pu t6.2 13 0 q192) fun v195 => (f_Names_told v195 52 4).bind fun q206 => bnd (pu v195 13 1 q206) fun v209 => (f_Names_told v209 55 6).bind fun q220 => bnd (pu v209 13 2 q220) fun v223 => (f_Names_told v223 58 10).bind fun q234 => bnd (pu v223 13 3 q234) fun v237 => some ((v237 12 7), v237)
def j_Reader_read_172 (K6 : (Int32 × Va) → Option (Int32 × Va)) (t6 : Int32 × Va) (v172 : Va) : Option (Int32 × Va) := (f_Reader_take v172 36).bind fun q175 => K6 ((t6.1 + 1), q175)
def b_Reader_read_6 (z : Nat) (K6 : (Int32 × Va) → Option (Int32 × Va)) (t6 : Int32 × Va) : Option (Int32 × Va) := if 400 ≤ t6.1 then (j_Reader_read_184 t6) else (if (t6.2 12 7) = 1 then (j_Reader_read_184 t6) else ((f_Reader_seen t6.2).bind fun q22 => if q22 = 49 then (j_Reader_read_184 t6) else ((f_Reader_seen t6.2).bind fun q31 => if q31 = 0 then ((f_Reader_spiceLine z t6.2).bind fun q117 => j_Reader_read_172 K6 t6 q117) else (if q31 = 2 then ((f_Reader_guildLine z t6.2).bind fun q124 => j_Reader_read_172 K6 t6 q124) else (if q31 = 5 then ((f_Reader_merchantLine z t6.2).bind fun q131 => j_Reader_read_172 K6 t6 q131) else (if q31 = 8 then ((f_Reader_lotLine z t6.2).bind fun q138 => j_Reader_read_172 K6 t6 q138) else (if q31 = 12 then ((f_Reader_orderLine z t6.2 0).bind fun q146 => j_Reader_read_172 K6 t6 q146) else (if q31 = 14 then ((f_Reader_orderLine z t6.2 1).bind fun q154 => j_Reader_read_172 K6 t6 q154) else (if q31 = 16 then ((f_Reader_orderLine z t6.2 2).bind fun q162 => j_Reader_read_172 K6 t6 q162) else ((f_Reader_fail t6.2).bind fun q169 => j_Reader_read_172 K6 t6 q169))))))))))
def f_Reader_read (z : Nat) (v : Va) : Option (Int32 × Va) := (f_Reader_begin v).bind fun q1 => rp (b_Reader_read_6 z) z (0, q1)
theorem c_Reader_read (hk : isReader sh) {q : Int32 × Va} (h : f_Reader_read z v = some q) : MetI l yX5_read cX5_read 2 (some .int) 53 Γ sh v w n [.ref (Γ.2.1 + 12)] (fun x u => x = q.1 ∧ u = q.2) := by
  unfold f_Reader_read at h
  refine w_start pn_X5 (Nat.le_of_ble_eq_true rfl) fun p e s m args below meth c hx hb hml hret hlk hnm hts hown hK hP hz hE hS ls hl => ?_
  refine lv_aload_n hx hb dX5_read_0 rfl (lv_at hl 0 rfl) ?_
  obtain ⟨q1, e1, h⟩ := obn_e h
  refine z_Vv (k := 12) (v1 := q1) hx hb hml hts hown hK hP hS hz hE (c_Reader_begin hk e1) kX5_begin mX5_60 hk.1 rfl rfl rfl hl.1 (Nat.le_of_ble_eq_true rfl) ⟨Nat.le_of_ble_eq_true rfl, Nat.le_of_ble_eq_true rfl⟩ ⟨Nat.le_refl _, Nat.le_refl _⟩ dX5_read_1 fun H1 locs1 hz hP hS => ?_
  refine lv_iconst (v := 0) hx hb dX5_read_4 rfl ?_
  refine lv_istore_n (lv' := [(1, .int 0), (0, .ref (Γ.2.1 + 12))]) hx hb dX5_read_5 rfl hl (by decide) rfl fun ls hl => ?_
  have L6 : ∀ (fu : Nat) (t6 : Int32 × Va), rp (b_Reader_read_6 z) fu t6 = some q → ∀ (H1 : Heap) (locs1 : List Loc) (ls1 : Array Slot), lv_has ls1 2 [(0, .ref (Γ.2.1 + 12)), (1, .int t6.1)] → Wd Γ sh t6.2 w H1 → va_S (gA Γ sh n) s.heap H1 locs1 → H1.size = Γ.2.1 + n → wpI Γ sh w n 53 (fun x u => x = q.1 ∧ u = q.2) p l e s m args below meth c H1 locs1 (F0 m 6 ls1 []) := by
    refine q_loop (fun K6 ih6 t6 h H1 locs1 ls hl hP hS hz => ?_)
    unfold b_Reader_read_6 at h
    refine lv_iload_n hx hb dX5_read_6 rfl (lv_at hl 1 rfl) ?_
    refine lv_sipush (v := 400) hx hb dX5_read_7 rfl ?_
    have J184 : (j_Reader_read_184 t6) = some q → ∀ (H1 : Heap) (locs1 : List Loc) (ls1 : Array Slot), lv_has ls1 2 [(0, .ref (Γ.2.1 + 12))] → Wd Γ sh t6.2 w H1 → va_S (gA Γ sh n) s.heap H1 locs1 → H1.size = Γ.2.1 + n → wpI Γ sh w n 53 (fun x u => x = q.1 ∧ u = q.2) p l e s m args below meth c H1 locs1 (F0 m 184 ls1 []) := by
      intro  h H1 locs1 ls hl hP hS hz
      unfold j_Reader_read_184 at h
      refine lv_aload_n hx hb dX5_read_184 rfl (lv_at hl 0 rfl) ?_
      refine w_gr (k := 12) (r := 13) hx hb hts hown hK hP fX5_16 hk.1 rfl dX5_read_185 ?_
      refine lv_aload_n hx hb dX5_read_188 rfl (lv_at hl 0 rfl) ?_
      refine w_gr (k := 12) (r := 49) hx hb hts hown hK hP fX5_25 hk.1 rfl dX5_read_189 ?_
      obtain ⟨q192, e192, h⟩ := obn_e h
      refine z_Vi (k := 49) (r1 := q192) (v1 := t6.2) hx hb hml hts hown hK hP hS hz hE (c_Names_told hk.2.2.2.1 e192) kX3_told mX5_90 hk.2.2.2.1.1 rfl rfl rfl hl.1 (Nat.le_of_ble_eq_true rfl) ⟨Nat.le_of_ble_eq_true rfl, Nat.le_of_ble_eq_true rfl⟩ ⟨Nat.le_refl _, Nat.le_refl _⟩ dX5_read_192 fun H1 locs1 hz hP hS => ?_
      obtain ⟨v195, e195, h⟩ := bnd_e h
      refine w_pi2 (k := 13) hx hb hts hown hK hP hS hz fX5_93 hk.2.1.1 rfl e195 dX5_read_195 fun H1 locs1 hz hP hS => ?_
      refine lv_aload_n hx hb dX5_read_198 rfl (lv_at hl 0 rfl) ?_
      refine w_gr (k := 12) (r := 13) hx hb hts hown hK hP fX5_16 hk.1 rfl dX5_read_199 ?_
      refine lv_aload_n hx hb dX5_read_202 rfl (lv_at hl 0 rfl) ?_
      refine w_gr (k := 12) (r := 52) hx hb hts hown hK hP fX5_29 hk.1 rfl dX5_read_203 ?_
      obtain ⟨q206, e206, h⟩ := obn_e h
      refine z_Vi (k := 52) (r1 := q206) (v1 := v195) hx hb hml hts hown hK hP hS hz hE (c_Names_told hk.2.2.2.2.1 e206) kX3_told mX5_90 hk.2.2.2.2.1.1 rfl rfl rfl hl.1 (Nat.le_of_ble_eq_true rfl) ⟨Nat.le_of_ble_eq_true rfl, Nat.le_of_ble_eq_true rfl⟩ ⟨Nat.le_refl _, Nat.le_refl _⟩ dX5_read_206 fun H1 locs1 hz hP hS => ?_
      obtain ⟨v209, e209, h⟩ := bnd_e h
      refine w_pi2 (k := 13) hx hb hts hown hK hP hS hz fX5_95 hk.2.1.1 rfl e209 dX5_read_209 fun H1 locs1 hz hP hS => ?_
      refine lv_aload_n hx hb dX5_read_212 rfl (lv_at hl 0 rfl) ?_
      refine w_gr (k := 12) (r := 13) hx hb hts hown hK hP fX5_16 hk.1 rfl dX5_read_213 ?_
      refine lv_aload_n hx hb dX5_read_216 rfl (lv_at hl 0 rfl) ?_
      refine w_gr (k := 12) (r := 55) hx hb hts hown hK hP fX5_32 hk.1 rfl dX5_read_217 ?_
      obtain ⟨q220, e220, h⟩ := obn_e h
      refine z_Vi (k := 55) (r1 := q220) (v1 := v209) hx hb hml hts hown hK hP hS hz hE (c_Names_told hk.2.2.2.2.2.1 e220) kX3_told mX5_90 hk.2.2.2.2.2.1.1 rfl rfl rfl hl.1 (Nat.le_of_ble_eq_true rfl) ⟨Nat.le_of_ble_eq_true rfl, Nat.le_of_ble_eq_true rfl⟩ ⟨Nat.le_refl _, Nat.le_refl _⟩ dX5_read_220 fun H1 locs1 hz hP hS => ?_
      obtain ⟨v223, e223, h⟩ := bnd_e h
      refine w_pi2 (k := 13) hx hb hts hown hK hP hS hz fX5_97 hk.2.1.1 rfl e223 dX5_read_223 fun H1 locs1 hz hP hS => ?_
      refine lv_aload_n hx hb dX5_read_226 rfl (lv_at hl 0 rfl) ?_
      refine w_gr (k := 12) (r := 13) hx hb hts hown hK hP fX5_16 hk.1 rfl dX5_read_227 ?_
      refine lv_aload_n hx hb dX5_read_230 rfl (lv_at hl 0 rfl) ?_
      refine w_gr (k := 12) (r := 58) hx hb hts hown hK hP fX5_35 hk.1 rfl dX5_read_231 ?_
      obtain ⟨q234, e234, h⟩ := obn_e h
      refine z_Vi (k := 58) (r1 := q234) (v1 := v223) hx hb hml hts hown hK hP hS hz hE (c_Names_told hk.2.2.2.2.2.2 e234) kX3_told mX5_90 hk.2.2.2.2.2.2.1 rfl rfl rfl hl.1 (Nat.le_of_ble_eq_true rfl) ⟨Nat.le_of_ble_eq_true rfl, Nat.le_of_ble_eq_true rfl⟩ ⟨Nat.le_refl _, Nat.le_refl _⟩ dX5_read_234 fun H1 locs1 hz hP hS => ?_
      obtain ⟨v237, e237, h⟩ := bnd_e h
      refine w_pi2 (k := 13) hx hb hts hown hK hP hS hz fX5_99 hk.2.1.1 rfl e237 dX5_read_237 fun H1 locs1 hz hP hS => ?_
      refine lv_aload_n hx hb dX5_read_240 rfl (lv_at hl 0 rfl) ?_
      refine w_gi (k := 12) hx hb hts hown hK hP fX5_42 hk.1 rfl dX5_read_241 ?_
      exact w_iret hx hb hret rfl hlk hK hP hS hz hE (q_p2 h) dX5_read_244
    refine lv_icmp_ge (tgt := 184) hx hb dX5_read_10 rfl (fun hc10 => ?_) (fun hc10 => ?_)
    · have h := itt_e h hc10
      exact J184 h _ _ _ (lv_sub hl [0] rfl) hP hS hz
    · have h := itf_e h hc10
      refine lv_aload_n hx hb dX5_read_13 rfl (lv_at hl 0 rfl) ?_
      refine w_gi (k := 12) hx hb hts hown hK hP fX5_42 hk.1 rfl dX5_read_14 ?_
      refine lv_iconst (v := 1) hx hb dX5_read_17 rfl ?_
      refine lv_icmp_eq (tgt := 184) hx hb dX5_read_18 rfl (fun hc18 => ?_) (fun hc18 => ?_)
      · have h := itt_e h hc18
        exact J184 h _ _ _ (lv_sub hl [0] rfl) hP hS hz
      · have h := itf_e h hc18
        refine lv_aload_n hx hb dX5_read_21 rfl (lv_at hl 0 rfl) ?_
        obtain ⟨q22, e22, h⟩ := obn_e h
        refine z_Vi (k := 12) (r1 := q22) (v1 := t6.2) hx hb hml hts hown hK hP hS hz hE (c_Reader_seen hk e22) kX5_seen mX5_63 hk.1 rfl rfl rfl hl.1 (Nat.le_of_ble_eq_true rfl) ⟨Nat.le_of_ble_eq_true rfl, Nat.le_of_ble_eq_true rfl⟩ ⟨Nat.le_refl _, Nat.le_refl _⟩ dX5_read_22 fun H1 locs1 hz hP hS => ?_
        refine lv_bipush (v := 49) hx hb dX5_read_25 rfl ?_
        refine lv_icmp_eq (tgt := 184) hx hb dX5_read_27 rfl (fun hc27 => ?_) (fun hc27 => ?_)
        · have h := itt_e h hc27
          exact J184 h _ _ _ (lv_sub hl [0] rfl) hP hS hz
        · have h := itf_e h hc27
          refine lv_aload_n hx hb dX5_read_30 rfl (lv_at hl 0 rfl) ?_
          obtain ⟨q31, e31, h⟩ := obn_e h
          refine z_Vi (k := 12) (r1 := q31) (v1 := t6.2) hx hb hml hts hown hK hP hS hz hE (c_Reader_seen hk e31) kX5_seen mX5_63 hk.1 rfl rfl rfl hl.1 (Nat.le_of_ble_eq_true rfl) ⟨Nat.le_of_ble_eq_true rfl, Nat.le_of_ble_eq_true rfl⟩ ⟨Nat.le_refl _, Nat.le_refl _⟩ dX5_read_31 fun H1 locs1 hz hP hS => ?_
          have J172 : ∀ (v172 : Va), (j_Reader_read_172 K6 t6) v172 = some q → ∀ (H1 : Heap) (locs1 : List Loc) (ls1 : Array Slot), lv_has ls1 2 [(0, .ref (Γ.2.1 + 12)), (1, .int t6.1)] → Wd Γ sh v172 w H1 → va_S (gA Γ sh n) s.heap H1 locs1 → H1.size = Γ.2.1 + n → wpI Γ sh w n 53 (fun x u => x = q.1 ∧ u = q.2) p l e s m args below meth c H1 locs1 (F0 m 172 ls1 []) := by
            intro v172 h H1 locs1 ls hl hP hS hz
            unfold j_Reader_read_172 at h
            refine lv_aload_n hx hb dX5_read_172 rfl (lv_at hl 0 rfl) ?_
            refine lv_bipush (v := 36) hx hb dX5_read_173 rfl ?_
            obtain ⟨q175, e175, h⟩ := obn_e h
            refine z_Vv (k := 12) (v1 := q175) hx hb hml hts hown hK hP hS hz hE (c_Reader_take hk e175) kX5_take mX5_87 hk.1 rfl rfl rfl hl.1 (Nat.le_of_ble_eq_true rfl) ⟨Nat.le_of_ble_eq_true rfl, Nat.le_of_ble_eq_true rfl⟩ ⟨Nat.le_refl _, Nat.le_refl _⟩ dX5_read_175 fun H1 locs1 hz hP hS => ?_
            refine lv_iinc (k := 1) (v := (t6.1 + 1)) (lv' := [(1, .int (t6.1 + 1)), (0, .ref (Γ.2.1 + 12))]) hx hb dX5_read_178 hl rfl rfl (by decide) rfl fun ls hl => ?_
            refine lv_goto (tgt := 6) hx hb dX5_read_181 rfl ?_
            exact ih6 ((t6.1 + 1), q175) h _ _ _ (lv_sub hl [1, 0] rfl) hP hS hz
          by_cases hc34_0 : q31 = 0
          · have h := itt_e h hc34_0
            refine z_tI (y := 0) (tgt := 116) hx hb dX5_read_34 hc34_0 (by decide) (by decide) rfl rfl ?_
            refine lv_aload_n hx hb dX5_read_116 rfl (lv_at hl 0 rfl) ?_
            obtain ⟨q117, e117, h⟩ := obn_e h
            refine z_Vv (k := 12) (v1 := q117) hx hb hml hts hown hK hP hS hz hE (c_Reader_spiceLine hk e117) kX5_spiceLine mX5_69 hk.1 rfl rfl rfl hl.1 (Nat.le_of_ble_eq_true rfl) ⟨Nat.le_of_ble_eq_true rfl, Nat.le_of_ble_eq_true rfl⟩ ⟨Nat.le_refl _, Nat.le_refl _⟩ dX5_read_117 fun H1 locs1 hz hP hS => ?_
            refine lv_goto (tgt := 172) hx hb dX5_read_120 rfl ?_
            exact J172 q117 h _ _ _ (lv_sub hl [0, 1] rfl) hP hS hz
          have h := itf_e h hc34_0
          by_cases hc34_2 : q31 = 2
          · have h := itt_e h hc34_2
            refine z_tI (y := 2) (tgt := 123) hx hb dX5_read_34 hc34_2 (by decide) (by decide) rfl rfl ?_
            refine lv_aload_n hx hb dX5_read_123 rfl (lv_at hl 0 rfl) ?_
            obtain ⟨q124, e124, h⟩ := obn_e h
            refine z_Vv (k := 12) (v1 := q124) hx hb hml hts hown hK hP hS hz hE (c_Reader_guildLine hk e124) kX5_guildLine mX5_72 hk.1 rfl rfl rfl hl.1 (Nat.le_of_ble_eq_true rfl) ⟨Nat.le_of_ble_eq_true rfl, Nat.le_of_ble_eq_true rfl⟩ ⟨Nat.le_refl _, Nat.le_refl _⟩ dX5_read_124 fun H1 locs1 hz hP hS => ?_
            refine lv_goto (tgt := 172) hx hb dX5_read_127 rfl ?_
            exact J172 q124 h _ _ _ (lv_sub hl [0, 1] rfl) hP hS hz
          have h := itf_e h hc34_2
          by_cases hc34_5 : q31 = 5
          · have h := itt_e h hc34_5
            refine z_tI (y := 5) (tgt := 130) hx hb dX5_read_34 hc34_5 (by decide) (by decide) rfl rfl ?_
            refine lv_aload_n hx hb dX5_read_130 rfl (lv_at hl 0 rfl) ?_
            obtain ⟨q131, e131, h⟩ := obn_e h
            refine z_Vv (k := 12) (v1 := q131) hx hb hml hts hown hK hP hS hz hE (c_Reader_merchantLine hk e131) kX5_merchantLine mX5_75 hk.1 rfl rfl rfl hl.1 (Nat.le_of_ble_eq_true rfl) ⟨Nat.le_of_ble_eq_true rfl, Nat.le_of_ble_eq_true rfl⟩ ⟨Nat.le_refl _, Nat.le_refl _⟩ dX5_read_131 fun H1 locs1 hz hP hS => ?_
            refine lv_goto (tgt := 172) hx hb dX5_read_134 rfl ?_
            exact J172 q131 h _ _ _ (lv_sub hl [0, 1] rfl) hP hS hz
          have h := itf_e h hc34_5
          by_cases hc34_8 : q31 = 8
          · have h := itt_e h hc34_8
            refine z_tI (y := 8) (tgt := 137) hx hb dX5_read_34 hc34_8 (by decide) (by decide) rfl rfl ?_
            refine lv_aload_n hx hb dX5_read_137 rfl (lv_at hl 0 rfl) ?_
            obtain ⟨q138, e138, h⟩ := obn_e h
            refine z_Vv (k := 12) (v1 := q138) hx hb hml hts hown hK hP hS hz hE (c_Reader_lotLine hk e138) kX5_lotLine mX5_78 hk.1 rfl rfl rfl hl.1 (Nat.le_of_ble_eq_true rfl) ⟨Nat.le_of_ble_eq_true rfl, Nat.le_of_ble_eq_true rfl⟩ ⟨Nat.le_refl _, Nat.le_refl _⟩ dX5_read_138 fun H1 locs1 hz hP hS => ?_
            refine lv_goto (tgt := 172) hx hb dX5_read_141 rfl ?_
            exact J172 q138 h _ _ _ (lv_sub hl [0, 1] rfl) hP hS hz
          have h := itf_e h hc34_8
          by_cases hc34_12 : q31 = 12
          · have h := itt_e h hc34_12
            refine z_tI (y := 12) (tgt := 144) hx hb dX5_read_34 hc34_12 (by decide) (by decide) rfl rfl ?_
            refine lv_aload_n hx hb dX5_read_144 rfl (lv_at hl 0 rfl) ?_
            refine lv_iconst (v := 0) hx hb dX5_read_145 rfl ?_
            obtain ⟨q146, e146, h⟩ := obn_e h
            refine z_Vv (k := 12) (v1 := q146) hx hb hml hts hown hK hP hS hz hE (c_Reader_orderLine hk e146) kX5_orderLine mX5_81 hk.1 rfl rfl rfl hl.1 (Nat.le_of_ble_eq_true rfl) ⟨Nat.le_of_ble_eq_true rfl, Nat.le_of_ble_eq_true rfl⟩ ⟨Nat.le_refl _, Nat.le_refl _⟩ dX5_read_146 fun H1 locs1 hz hP hS => ?_
            refine lv_goto (tgt := 172) hx hb dX5_read_149 rfl ?_
            exact J172 q146 h _ _ _ (lv_sub hl [0, 1] rfl) hP hS hz
          have h := itf_e h hc34_12
          by_cases hc34_14 : q31 = 14
          · have h := itt_e h hc34_14
            refine z_tI (y := 14) (tgt := 152) hx hb dX5_read_34 hc34_14 (by decide) (by decide) rfl rfl ?_
            refine lv_aload_n hx hb dX5_read_152 rfl (lv_at hl 0 rfl) ?_
            refine lv_iconst (v := 1) hx hb dX5_read_153 rfl ?_
            obtain ⟨q154, e154, h⟩ := obn_e h
            refine z_Vv (k := 12) (v1 := q154) hx hb hml hts hown hK hP hS hz hE (c_Reader_orderLine hk e154) kX5_orderLine mX5_81 hk.1 rfl rfl rfl hl.1 (Nat.le_of_ble_eq_true rfl) ⟨Nat.le_of_ble_eq_true rfl, Nat.le_of_ble_eq_true rfl⟩ ⟨Nat.le_refl _, Nat.le_refl _⟩ dX5_read_154 fun H1 locs1 hz hP hS => ?_
            refine lv_goto (tgt := 172) hx hb dX5_read_157 rfl ?_
            exact J172 q154 h _ _ _ (lv_sub hl [0, 1] rfl) hP hS hz
          have h := itf_e h hc34_14
          by_cases hc34_16 : q31 = 16
          · have h := itt_e h hc34_16
            refine z_tI (y := 16) (tgt := 160) hx hb dX5_read_34 hc34_16 (by decide) (by decide) rfl rfl ?_
            refine lv_aload_n hx hb dX5_read_160 rfl (lv_at hl 0 rfl) ?_
            refine lv_iconst (v := 2) hx hb dX5_read_161 rfl ?_
            obtain ⟨q162, e162, h⟩ := obn_e h
            refine z_Vv (k := 12) (v1 := q162) hx hb hml hts hown hK hP hS hz hE (c_Reader_orderLine hk e162) kX5_orderLine mX5_81 hk.1 rfl rfl rfl hl.1 (Nat.le_of_ble_eq_true rfl) ⟨Nat.le_of_ble_eq_true rfl, Nat.le_of_ble_eq_true rfl⟩ ⟨Nat.le_refl _, Nat.le_refl _⟩ dX5_read_162 fun H1 locs1 hz hP hS => ?_
            refine lv_goto (tgt := 172) hx hb dX5_read_165 rfl ?_
            exact J172 q162 h _ _ _ (lv_sub hl [0, 1] rfl) hP hS hz
          have h := itf_e h hc34_16
          refine z_tD (tgt := 168) hx hb [0, 2, 5, 8, 12, 14, 16] dX5_read_34 (q_nc hc34_0 (q_nc hc34_2 (q_nc hc34_5 (q_nc hc34_8 (q_nc hc34_12 (q_nc hc34_14 (q_nc hc34_16 q_nn))))))) (by decide) (by decide) rfl ?_
          refine lv_aload_n hx hb dX5_read_168 rfl (lv_at hl 0 rfl) ?_
          obtain ⟨q169, e169, h⟩ := obn_e h
          refine z_Vv (k := 12) (v1 := q169) hx hb hml hts hown hK hP hS hz hE (c_Reader_fail hk e169) kX5_fail mX5_84 hk.1 rfl rfl rfl hl.1 (Nat.le_of_ble_eq_true rfl) ⟨Nat.le_of_ble_eq_true rfl, Nat.le_of_ble_eq_true rfl⟩ ⟨Nat.le_refl _, Nat.le_refl _⟩ dX5_read_169 fun H1 locs1 hz hP hS => ?_
          exact J172 q169 h _ _ _ (lv_sub hl [0, 1] rfl) hP hS hz
  exact L6 z (0, q1) h _ _ _ (lv_sub hl [1, 0] rfl) hP hS hz
end GE
