
section GE
variable {l : Launch} {Γ : Cx} {sh : Sh} {v : Va} {w : Vl} {n z : Nat}
def f_Reckoner_take (v : Va) (k : Nat) : Option (Int32 × Va) := bnd (pu v (k + 23) 3 ((v (k + 23) 3) - 1)) fun v7 => bnd (row_g 400 (v7 (k + 25)) (v7 (k + 23) 3)) fun q18 => some (q18, v7)
theorem c_Reckoner_take {k : Nat} (hk : isReckoner sh k) {q : Int32 × Va} (h : f_Reckoner_take v k = some q) : MetI l yX6_take cX6_take 1 (some .int) 1 Γ sh v w n [.ref (Γ.2.1 + (k + 23))] (fun x u => x = q.1 ∧ u = q.2) := by
  unfold f_Reckoner_take at h
  refine w_start pn_X6 (Nat.le_of_ble_eq_true rfl) fun p e s m args below meth c hx hb hml hret hlk hnm hts hown hK hP hz hE hS ls hl => ?_
  refine lv_aload_n hx hb dX6_take_0 rfl (lv_at hl 0 rfl) ?_
  refine lv_dup hx hb dX6_take_1 rfl ?_
  refine w_gi (k := (k + 23)) hx hb hts hown hK hP fX6_28 hk.1 rfl dX6_take_2 ?_
  refine lv_iconst (v := 1) hx hb dX6_take_5 rfl ?_
  refine lv_isub hx hb dX6_take_6 ?_
  obtain ⟨v7, e7, h⟩ := bnd_e h
  refine w_pi2 (k := (k + 23)) hx hb hts hown hK hP hS hz fX6_28 hk.1 rfl e7 dX6_take_7 fun H1 locs1 hz hP hS => ?_
  refine lv_aload_n hx hb dX6_take_10 rfl (lv_at hl 0 rfl) ?_
  refine w_gr (k := (k + 23)) (r := (k + 24)) hx hb hts hown hK hP fX6_24 hk.1 rfl dX6_take_11 ?_
  refine lv_aload_n hx hb dX6_take_14 rfl (lv_at hl 0 rfl) ?_
  refine w_gi (k := (k + 23)) hx hb hts hown hK hP fX6_28 hk.1 rfl dX6_take_15 ?_
  obtain ⟨q18, e18, h⟩ := bnd_e h
  refine z_Vi (k := (k + 24)) (r1 := q18) (v1 := v7) hx hb hml hts hown hK hP hS hz hE (C_Row_get hk.2.2.2 e18) kX7_get mX6_35 hk.2.2.2.1 rfl rfl rfl hl.1 (Nat.le_of_ble_eq_true rfl) ⟨Nat.le_of_ble_eq_true rfl, Nat.le_of_ble_eq_true rfl⟩ ⟨Nat.le_refl _, Nat.le_refl _⟩ dX6_take_18 fun H1 locs1 hz hP hS => ?_
  exact w_iret hx hb hret rfl hlk hK hP hS hz hE (q_p2 h) dX6_take_21
def f_Reckoner_put (v : Va) (k : Nat) (a1 : Int32) : Option Va := bnd (up v (k + 25) (row_s 400 (v (k + 25)) (v (k + 23) 3) a1)) fun q9 => bnd (pu q9 (k + 23) 3 ((q9 (k + 23) 3) + 1)) fun v19 => some v19
theorem c_Reckoner_put {k : Nat} {a1 : Int32} (hk : isReckoner sh k) {q : Va} (h : f_Reckoner_put v k a1 = some q) : MetV l yX6_put cX6_put 2 none 1 Γ sh v w n [.ref (Γ.2.1 + (k + 23)), .int a1] (fun u => u = q) := by
  unfold f_Reckoner_put at h
  refine w_start pn_X6 (Nat.le_of_ble_eq_true rfl) fun p e s m args below meth c hx hb hml hret hlk hnm hts hown hK hP hz hE hS ls hl => ?_
  refine lv_aload_n hx hb dX6_put_0 rfl (lv_at hl 0 rfl) ?_
  refine w_gr (k := (k + 23)) (r := (k + 24)) hx hb hts hown hK hP fX6_24 hk.1 rfl dX6_put_1 ?_
  refine lv_aload_n hx hb dX6_put_4 rfl (lv_at hl 0 rfl) ?_
  refine w_gi (k := (k + 23)) hx hb hts hown hK hP fX6_28 hk.1 rfl dX6_put_5 ?_
  refine lv_iload_n hx hb dX6_put_8 rfl (lv_at hl 1 rfl) ?_
  obtain ⟨q9, e9, h⟩ := bnd_e h
  refine z_Vv (k := (k + 24)) (v1 := q9) hx hb hml hts hown hK hP hS hz hE (C_Row_set hk.2.2.2 e9) kX7_set mX6_75 hk.2.2.2.1 rfl rfl rfl hl.1 (Nat.le_of_ble_eq_true rfl) ⟨Nat.le_of_ble_eq_true rfl, Nat.le_of_ble_eq_true rfl⟩ ⟨Nat.le_refl _, Nat.le_refl _⟩ dX6_put_9 fun H1 locs1 hz hP hS => ?_
  refine lv_aload_n hx hb dX6_put_12 rfl (lv_at hl 0 rfl) ?_
  refine lv_dup hx hb dX6_put_13 rfl ?_
  refine w_gi (k := (k + 23)) hx hb hts hown hK hP fX6_28 hk.1 rfl dX6_put_14 ?_
  refine lv_iconst (v := 1) hx hb dX6_put_17 rfl ?_
  refine lv_iadd hx hb dX6_put_18 ?_
  obtain ⟨v19, e19, h⟩ := bnd_e h
  refine w_pi2 (k := (k + 23)) hx hb hts hown hK hP hS hz fX6_28 hk.1 rfl e19 dX6_put_19 fun H1 locs1 hz hP hS => ?_
  exact w_vret hx hb hret hlk hK hP hS hz hE (Option.some.inj h) dX6_put_22
def f_Reckoner_joined (a1 : Int32) (a2 : Int32) (a3 : Int32) : Option Int32 := if a1 = 30 then (some (q_min a2 a3)) else (if a1 = 38 then (some (a2 + a3)) else (if a1 = 39 then (some (a2 - a3)) else (if a1 = 40 then (some (a2 * a3)) else (if a1 = 41 then (if a3 = 0 then (some 0) else (some (a2 / a3))) else (some (q_max a2 a3))))))
theorem c_Reckoner_joined {a1 : Int32} {a2 : Int32} {a3 : Int32} {q : Int32} (h : f_Reckoner_joined a1 a2 a3 = some q) : MetI l yX6_joined cX6_joined 3 (some .int) 1 Γ sh v w n [.int a1, .int a2, .int a3] (fun x u => x = q ∧ u = v) := by
  unfold f_Reckoner_joined at h
  refine w_start pn_X6 (Nat.le_of_ble_eq_true rfl) fun p e s m args below meth c hx hb hml hret hlk hnm hts hown hK hP hz hE hS ls hl => ?_
  refine lv_iload_n hx hb dX6_joined_0 rfl (lv_at hl 0 rfl) ?_
  by_cases hc1_30 : a1 = 30
  · have h := itt_e h hc1_30
    refine z_tI (y := 30) (tgt := 88) hx hb dX6_joined_1 hc1_30 (by decide) (by decide) rfl rfl ?_
    refine lv_iload_n hx hb dX6_joined_88 rfl (lv_at hl 1 rfl) ?_
    refine lv_iload_n hx hb dX6_joined_89 rfl (lv_at hl 2 rfl) ?_
    refine z_mmin hx hb hml hl.1 hts hown xX6_115 ⟨Nat.le_of_ble_eq_true rfl, Nat.le_of_ble_eq_true rfl⟩ (Nat.le_of_ble_eq_true rfl) ⟨Nat.le_refl _, Nat.le_refl _⟩ dX6_joined_90 ?_
    exact w_iret hx hb hret rfl hlk hK hP hS hz hE (q_p1 h) dX6_joined_93
  have h := itf_e h hc1_30
  by_cases hc1_38 : a1 = 38
  · have h := itt_e h hc1_38
    refine z_tI (y := 38) (tgt := 64) hx hb dX6_joined_1 hc1_38 (by decide) (by decide) rfl rfl ?_
    refine lv_iload_n hx hb dX6_joined_64 rfl (lv_at hl 1 rfl) ?_
    refine lv_iload_n hx hb dX6_joined_65 rfl (lv_at hl 2 rfl) ?_
    refine lv_iadd hx hb dX6_joined_66 ?_
    exact w_iret hx hb hret rfl hlk hK hP hS hz hE (q_p1 h) dX6_joined_67
  have h := itf_e h hc1_38
  by_cases hc1_39 : a1 = 39
  · have h := itt_e h hc1_39
    refine z_tI (y := 39) (tgt := 68) hx hb dX6_joined_1 hc1_39 (by decide) (by decide) rfl rfl ?_
    refine lv_iload_n hx hb dX6_joined_68 rfl (lv_at hl 1 rfl) ?_
    refine lv_iload_n hx hb dX6_joined_69 rfl (lv_at hl 2 rfl) ?_
    refine lv_isub hx hb dX6_joined_70 ?_
    exact w_iret hx hb hret rfl hlk hK hP hS hz hE (q_p1 h) dX6_joined_71
  have h := itf_e h hc1_39
  by_cases hc1_40 : a1 = 40
  · have h := itt_e h hc1_40
    refine z_tI (y := 40) (tgt := 72) hx hb dX6_joined_1 hc1_40 (by decide) (by decide) rfl rfl ?_
    refine lv_iload_n hx hb dX6_joined_72 rfl (lv_at hl 1 rfl) ?_
    refine lv_iload_n hx hb dX6_joined_73 rfl (lv_at hl 2 rfl) ?_
    refine lv_imul hx hb dX6_joined_74 ?_
    exact w_iret hx hb hret rfl hlk hK hP hS hz hE (q_p1 h) dX6_joined_75
  have h := itf_e h hc1_40
  by_cases hc1_41 : a1 = 41
  · have h := itt_e h hc1_41
    refine z_tI (y := 41) (tgt := 76) hx hb dX6_joined_1 hc1_41 (by decide) (by decide) rfl rfl ?_
    refine lv_iload_n hx hb dX6_joined_76 rfl (lv_at hl 2 rfl) ?_
    refine lv_if_ne (tgt := 84) hx hb dX6_joined_77 rfl (fun hc77 => ?_) (fun hc77 => ?_)
    · have h := itf_e h hc77
      refine lv_iload_n hx hb dX6_joined_84 rfl (lv_at hl 1 rfl) ?_
      refine lv_iload_n hx hb dX6_joined_85 rfl (lv_at hl 2 rfl) ?_
      refine lv_idiv hx hb dX6_joined_86 hc77 ?_
      exact w_iret hx hb hret rfl hlk hK hP hS hz hE (q_p1 h) dX6_joined_87
    · have h := itt_e h hc77
      refine lv_iconst (v := 0) hx hb dX6_joined_80 rfl ?_
      refine lv_goto (tgt := 87) hx hb dX6_joined_81 rfl ?_
      exact w_iret hx hb hret rfl hlk hK hP hS hz hE (q_p1 h) dX6_joined_87
  have h := itf_e h hc1_41
  refine z_tD (tgt := 94) hx hb [30, 38, 39, 40, 41] dX6_joined_1 (q_nc hc1_30 (q_nc hc1_38 (q_nc hc1_39 (q_nc hc1_40 (q_nc hc1_41 q_nn))))) (by decide) (by decide) rfl ?_
  refine lv_iload_n hx hb dX6_joined_94 rfl (lv_at hl 1 rfl) ?_
  refine lv_iload_n hx hb dX6_joined_95 rfl (lv_at hl 2 rfl) ?_
  refine z_mmax hx hb hml hl.1 hts hown xX6_120 ⟨Nat.le_of_ble_eq_true rfl, Nat.le_of_ble_eq_true rfl⟩ (Nat.le_of_ble_eq_true rfl) ⟨Nat.le_refl _, Nat.le_refl _⟩ dX6_joined_96 ?_
  exact w_iret hx hb hret rfl hlk hK hP hS hz hE (q_p1 h) dX6_joined_99
def f_Reckoner_holds (a1 : Int32) (a2 : Int32) (a3 : Int32) : Option Bool := if a1 = 42 then (if a3 ≤ a2 then (some false) else (some true)) else (if a1 = 43 then (if a2 ≤ a3 then (some false) else (some true)) else (if a1 = 44 then (if a2 = a3 then (some true) else (some false)) else (if a1 = 45 then (if a3 < a2 then (some false) else (some true)) else (if a2 < a3 then (some false) else (some true)))))
theorem c_Reckoner_holds {a1 : Int32} {a2 : Int32} {a3 : Int32} {q : Bool} (h : f_Reckoner_holds a1 a2 a3 = some q) : MetI l yX6_holds cX6_holds 3 (some .boolean) 0 Γ sh v w n [.int a1, .int a2, .int a3] (fun x u => x = q_b q ∧ u = v) := by
  unfold f_Reckoner_holds at h
  refine w_start pn_X6 (Nat.le_of_ble_eq_true rfl) fun p e s m args below meth c hx hb hml hret hlk hnm hts hown hK hP hz hE hS ls hl => ?_
  refine lv_iload_n hx hb dX6_holds_0 rfl (lv_at hl 0 rfl) ?_
  by_cases hc1_42 : a1 = 42
  · have h := itt_e h hc1_42
    refine z_tI (y := 42) (tgt := 32) hx hb dX6_holds_1 hc1_42 (by decide) (by decide) rfl rfl ?_
    refine lv_iload_n hx hb dX6_holds_32 rfl (lv_at hl 1 rfl) ?_
    refine lv_iload_n hx hb dX6_holds_33 rfl (lv_at hl 2 rfl) ?_
    refine lv_icmp_ge (tgt := 41) hx hb dX6_holds_34 rfl (fun hc34 => ?_) (fun hc34 => ?_)
    · have h := itt_e h hc34
      refine lv_iconst (v := 0) hx hb dX6_holds_41 rfl ?_
      exact w_iret hx hb hret rfl hlk hK hP hS hz hE (q_p1b h) dX6_holds_42
    · have h := itf_e h hc34
      refine lv_iconst (v := 1) hx hb dX6_holds_37 rfl ?_
      refine lv_goto (tgt := 42) hx hb dX6_holds_38 rfl ?_
      exact w_iret hx hb hret rfl hlk hK hP hS hz hE (q_p1b h) dX6_holds_42
  have h := itf_e h hc1_42
  by_cases hc1_43 : a1 = 43
  · have h := itt_e h hc1_43
    refine z_tI (y := 43) (tgt := 43) hx hb dX6_holds_1 hc1_43 (by decide) (by decide) rfl rfl ?_
    refine lv_iload_n hx hb dX6_holds_43 rfl (lv_at hl 1 rfl) ?_
    refine lv_iload_n hx hb dX6_holds_44 rfl (lv_at hl 2 rfl) ?_
    refine lv_icmp_le (tgt := 52) hx hb dX6_holds_45 rfl (fun hc45 => ?_) (fun hc45 => ?_)
    · have h := itt_e h hc45
      refine lv_iconst (v := 0) hx hb dX6_holds_52 rfl ?_
      exact w_iret hx hb hret rfl hlk hK hP hS hz hE (q_p1b h) dX6_holds_53
    · have h := itf_e h hc45
      refine lv_iconst (v := 1) hx hb dX6_holds_48 rfl ?_
      refine lv_goto (tgt := 53) hx hb dX6_holds_49 rfl ?_
      exact w_iret hx hb hret rfl hlk hK hP hS hz hE (q_p1b h) dX6_holds_53
  have h := itf_e h hc1_43
  by_cases hc1_44 : a1 = 44
  · have h := itt_e h hc1_44
    refine z_tI (y := 44) (tgt := 54) hx hb dX6_holds_1 hc1_44 (by decide) (by decide) rfl rfl ?_
    refine lv_iload_n hx hb dX6_holds_54 rfl (lv_at hl 1 rfl) ?_
    refine lv_iload_n hx hb dX6_holds_55 rfl (lv_at hl 2 rfl) ?_
    refine lv_icmp_ne (tgt := 63) hx hb dX6_holds_56 rfl (fun hc56 => ?_) (fun hc56 => ?_)
    · have h := itf_e h hc56
      refine lv_iconst (v := 0) hx hb dX6_holds_63 rfl ?_
      exact w_iret hx hb hret rfl hlk hK hP hS hz hE (q_p1b h) dX6_holds_64
    · have h := itt_e h hc56
      refine lv_iconst (v := 1) hx hb dX6_holds_59 rfl ?_
      refine lv_goto (tgt := 64) hx hb dX6_holds_60 rfl ?_
      exact w_iret hx hb hret rfl hlk hK hP hS hz hE (q_p1b h) dX6_holds_64
  have h := itf_e h hc1_44
  by_cases hc1_45 : a1 = 45
  · have h := itt_e h hc1_45
    refine z_tI (y := 45) (tgt := 65) hx hb dX6_holds_1 hc1_45 (by decide) (by decide) rfl rfl ?_
    refine lv_iload_n hx hb dX6_holds_65 rfl (lv_at hl 1 rfl) ?_
    refine lv_iload_n hx hb dX6_holds_66 rfl (lv_at hl 2 rfl) ?_
    refine lv_icmp_gt (tgt := 74) hx hb dX6_holds_67 rfl (fun hc67 => ?_) (fun hc67 => ?_)
    · have h := itt_e h hc67
      refine lv_iconst (v := 0) hx hb dX6_holds_74 rfl ?_
      exact w_iret hx hb hret rfl hlk hK hP hS hz hE (q_p1b h) dX6_holds_75
    · have h := itf_e h hc67
      refine lv_iconst (v := 1) hx hb dX6_holds_70 rfl ?_
      refine lv_goto (tgt := 75) hx hb dX6_holds_71 rfl ?_
      exact w_iret hx hb hret rfl hlk hK hP hS hz hE (q_p1b h) dX6_holds_75
  have h := itf_e h hc1_45
  refine z_tD (tgt := 76) hx hb [42, 43, 44, 45] dX6_holds_1 (q_nc hc1_42 (q_nc hc1_43 (q_nc hc1_44 (q_nc hc1_45 q_nn)))) (by decide) (by decide) rfl ?_
  refine lv_iload_n hx hb dX6_holds_76 rfl (lv_at hl 1 rfl) ?_
  refine lv_iload_n hx hb dX6_holds_77 rfl (lv_at hl 2 rfl) ?_
  refine lv_icmp_lt (tgt := 85) hx hb dX6_holds_78 rfl (fun hc78 => ?_) (fun hc78 => ?_)
  · have h := itt_e h hc78
    refine lv_iconst (v := 0) hx hb dX6_holds_85 rfl ?_
    exact w_iret hx hb hret rfl hlk hK hP hS hz hE (q_p1b h) dX6_holds_86
  · have h := itf_e h hc78
    refine lv_iconst (v := 1) hx hb dX6_holds_81 rfl ?_
    refine lv_goto (tgt := 86) hx hb dX6_holds_82 rfl ?_
    exact w_iret hx hb hret rfl hlk hK hP hS hz hE (q_p1b h) dX6_holds_86
def f_Reckoner_value (z : Nat) (v : Va) (k : Nat) (a1 : Int32) (a2 : Int32) (a3 : Int32) : Option Int32 := if a1 = 6 then (bnd (row_g 6 (v (k + 12)) a2) fun q157 => some q157) else (if a1 = 19 then (some (v k 1)) else (if a1 = 20 then (some (v k 2)) else (if a1 = 21 then (bnd (row_g 10 (v (k + 2)) a2) fun q124 => some q124) else (if a1 = 22 then (bnd (row_g 10 (v (k + 8)) a2) fun q136 => some q136) else (if a1 = 23 then ((f_Stand_ageOfChop v k a2).bind fun q145 => some q145) else (if a1 = 24 then ((f_Debts_sumOf z v (k + 13) a2).bind fun q169 => some q169) else (if a1 = 25 then ((f_Debts_between v (k + 13) a2 a3).bind fun q182 => some q182) else (if a1 = 26 then (bnd (row_g 10 (v (k + 4)) a3) fun q194 => if q194 = a2 then (some 1) else (some 0)) else (some a2)))))))))
theorem c_Reckoner_value {k : Nat} {a1 : Int32} {a2 : Int32} {a3 : Int32} (hk : isReckoner sh k) {q : Int32} (h : f_Reckoner_value z v k a1 a2 a3 = some q) : MetI l yX6_value cX6_value 4 (some .int) 2 Γ sh v w n [.ref (Γ.2.1 + (k + 23)), .int a1, .int a2, .int a3] (fun x u => x = q ∧ u = v) := by
  unfold f_Reckoner_value at h
  refine w_start pn_X6 (Nat.le_of_ble_eq_true rfl) fun p e s m args below meth c hx hb hml hret hlk hnm hts hown hK hP hz hE hS ls hl => ?_
  refine lv_iload_n hx hb dX6_value_0 rfl (lv_at hl 1 rfl) ?_
  by_cases hc1_6 : a1 = 6
  · have h := itt_e h hc1_6
    refine z_tI (y := 6) (tgt := 149) hx hb dX6_value_1 hc1_6 (by decide) (by decide) rfl rfl ?_
    refine lv_aload_n hx hb dX6_value_149 rfl (lv_at hl 0 rfl) ?_
    refine w_gr (k := (k + 23)) (r := k) hx hb hts hown hK hP fX6_13 hk.1 rfl dX6_value_150 ?_
    refine w_gr (k := k) (r := (k + 11)) hx hb hts hown hK hP fX6_96 hk.2.2.1.1 rfl dX6_value_153 ?_
    refine lv_iload_n hx hb dX6_value_156 rfl (lv_at hl 2 rfl) ?_
    obtain ⟨q157, e157, h⟩ := bnd_e h
    refine z_Vi (k := (k + 11)) (r1 := q157) (v1 := v) hx hb hml hts hown hK hP hS hz hE (C_Row_get hk.2.2.1.2.2.2.2.2.2.2.1 e157) kX7_get mX6_35 hk.2.2.1.2.2.2.2.2.2.2.1.1 rfl rfl rfl hl.1 (Nat.le_of_ble_eq_true rfl) ⟨Nat.le_of_ble_eq_true rfl, Nat.le_of_ble_eq_true rfl⟩ ⟨Nat.le_refl _, Nat.le_refl _⟩ dX6_value_157 fun H1 locs1 hz hP hS => ?_
    exact w_iret hx hb hret rfl hlk hK hP hS hz hE (q_p1 h) dX6_value_160
  have h := itf_e h hc1_6
  by_cases hc1_19 : a1 = 19
  · have h := itt_e h hc1_19
    refine z_tI (y := 19) (tgt := 100) hx hb dX6_value_1 hc1_19 (by decide) (by decide) rfl rfl ?_
    refine lv_aload_n hx hb dX6_value_100 rfl (lv_at hl 0 rfl) ?_
    refine w_gr (k := (k + 23)) (r := k) hx hb hts hown hK hP fX6_13 hk.1 rfl dX6_value_101 ?_
    refine w_gi (k := k) hx hb hts hown hK hP fX6_79 hk.2.2.1.1 rfl dX6_value_104 ?_
    exact w_iret hx hb hret rfl hlk hK hP hS hz hE (q_p1 h) dX6_value_107
  have h := itf_e h hc1_19
  by_cases hc1_20 : a1 = 20
  · have h := itt_e h hc1_20
    refine z_tI (y := 20) (tgt := 108) hx hb dX6_value_1 hc1_20 (by decide) (by decide) rfl rfl ?_
    refine lv_aload_n hx hb dX6_value_108 rfl (lv_at hl 0 rfl) ?_
    refine w_gr (k := (k + 23)) (r := k) hx hb hts hown hK hP fX6_13 hk.1 rfl dX6_value_109 ?_
    refine w_gi (k := k) hx hb hts hown hK hP fX6_84 hk.2.2.1.1 rfl dX6_value_112 ?_
    exact w_iret hx hb hret rfl hlk hK hP hS hz hE (q_p1 h) dX6_value_115
  have h := itf_e h hc1_20
  by_cases hc1_21 : a1 = 21
  · have h := itt_e h hc1_21
    refine z_tI (y := 21) (tgt := 116) hx hb dX6_value_1 hc1_21 (by decide) (by decide) rfl rfl ?_
    refine lv_aload_n hx hb dX6_value_116 rfl (lv_at hl 0 rfl) ?_
    refine w_gr (k := (k + 23)) (r := k) hx hb hts hown hK hP fX6_13 hk.1 rfl dX6_value_117 ?_
    refine w_gr (k := k) (r := (k + 1)) hx hb hts hown hK hP fX6_87 hk.2.2.1.1 rfl dX6_value_120 ?_
    refine lv_iload_n hx hb dX6_value_123 rfl (lv_at hl 2 rfl) ?_
    obtain ⟨q124, e124, h⟩ := bnd_e h
    refine z_Vi (k := (k + 1)) (r1 := q124) (v1 := v) hx hb hml hts hown hK hP hS hz hE (C_Row_get hk.2.2.1.2.2.1 e124) kX7_get mX6_35 hk.2.2.1.2.2.1.1 rfl rfl rfl hl.1 (Nat.le_of_ble_eq_true rfl) ⟨Nat.le_of_ble_eq_true rfl, Nat.le_of_ble_eq_true rfl⟩ ⟨Nat.le_refl _, Nat.le_refl _⟩ dX6_value_124 fun H1 locs1 hz hP hS => ?_
    exact w_iret hx hb hret rfl hlk hK hP hS hz hE (q_p1 h) dX6_value_127
  have h := itf_e h hc1_21
  by_cases hc1_22 : a1 = 22
  · have h := itt_e h hc1_22
    refine z_tI (y := 22) (tgt := 128) hx hb dX6_value_1 hc1_22 (by decide) (by decide) rfl rfl ?_
    refine lv_aload_n hx hb dX6_value_128 rfl (lv_at hl 0 rfl) ?_
    refine w_gr (k := (k + 23)) (r := k) hx hb hts hown hK hP fX6_13 hk.1 rfl dX6_value_129 ?_
    refine w_gr (k := k) (r := (k + 7)) hx hb hts hown hK hP fX6_90 hk.2.2.1.1 rfl dX6_value_132 ?_
    refine lv_iload_n hx hb dX6_value_135 rfl (lv_at hl 2 rfl) ?_
    obtain ⟨q136, e136, h⟩ := bnd_e h
    refine z_Vi (k := (k + 7)) (r1 := q136) (v1 := v) hx hb hml hts hown hK hP hS hz hE (C_Row_get hk.2.2.1.2.2.2.2.2.1 e136) kX7_get mX6_35 hk.2.2.1.2.2.2.2.2.1.1 rfl rfl rfl hl.1 (Nat.le_of_ble_eq_true rfl) ⟨Nat.le_of_ble_eq_true rfl, Nat.le_of_ble_eq_true rfl⟩ ⟨Nat.le_refl _, Nat.le_refl _⟩ dX6_value_136 fun H1 locs1 hz hP hS => ?_
    exact w_iret hx hb hret rfl hlk hK hP hS hz hE (q_p1 h) dX6_value_139
  have h := itf_e h hc1_22
  by_cases hc1_23 : a1 = 23
  · have h := itt_e h hc1_23
    refine z_tI (y := 23) (tgt := 140) hx hb dX6_value_1 hc1_23 (by decide) (by decide) rfl rfl ?_
    refine lv_aload_n hx hb dX6_value_140 rfl (lv_at hl 0 rfl) ?_
    refine w_gr (k := (k + 23)) (r := k) hx hb hts hown hK hP fX6_13 hk.1 rfl dX6_value_141 ?_
    refine lv_iload_n hx hb dX6_value_144 rfl (lv_at hl 2 rfl) ?_
    obtain ⟨q145, e145, h⟩ := obn_e h
    refine z_Vi (k := k) (r1 := q145) (v1 := v) hx hb hml hts hown hK hP hS hz hE (c_Stand_ageOfChop hk.2.2.1 e145) kX8_ageOfChop mX6_93 hk.2.2.1.1 rfl rfl rfl hl.1 (Nat.le_of_ble_eq_true rfl) ⟨Nat.le_of_ble_eq_true rfl, Nat.le_of_ble_eq_true rfl⟩ ⟨Nat.le_refl _, Nat.le_refl _⟩ dX6_value_145 fun H1 locs1 hz hP hS => ?_
    exact w_iret hx hb hret rfl hlk hK hP hS hz hE (q_p1 h) dX6_value_148
  have h := itf_e h hc1_23
  by_cases hc1_24 : a1 = 24
  · have h := itt_e h hc1_24
    refine z_tI (y := 24) (tgt := 161) hx hb dX6_value_1 hc1_24 (by decide) (by decide) rfl rfl ?_
    refine lv_aload_n hx hb dX6_value_161 rfl (lv_at hl 0 rfl) ?_
    refine w_gr (k := (k + 23)) (r := k) hx hb hts hown hK hP fX6_13 hk.1 rfl dX6_value_162 ?_
    refine w_gr (k := k) (r := (k + 13)) hx hb hts hown hK hP fX6_99 hk.2.2.1.1 rfl dX6_value_165 ?_
    refine lv_iload_n hx hb dX6_value_168 rfl (lv_at hl 2 rfl) ?_
    obtain ⟨q169, e169, h⟩ := obn_e h
    refine z_Vi (k := (k + 13)) (r1 := q169) (v1 := v) hx hb hml hts hown hK hP hS hz hE (c_Debts_sumOf hk.2.2.1.2.2.2.2.2.2.2.2.1 e169) kX1_sumOf mX6_103 hk.2.2.1.2.2.2.2.2.2.2.2.1.1 rfl rfl rfl hl.1 (Nat.le_of_ble_eq_true rfl) ⟨Nat.le_of_ble_eq_true rfl, Nat.le_of_ble_eq_true rfl⟩ ⟨Nat.le_refl _, Nat.le_refl _⟩ dX6_value_169 fun H1 locs1 hz hP hS => ?_
    exact w_iret hx hb hret rfl hlk hK hP hS hz hE (q_p1 h) dX6_value_172
  have h := itf_e h hc1_24
  by_cases hc1_25 : a1 = 25
  · have h := itt_e h hc1_25
    refine z_tI (y := 25) (tgt := 173) hx hb dX6_value_1 hc1_25 (by decide) (by decide) rfl rfl ?_
    refine lv_aload_n hx hb dX6_value_173 rfl (lv_at hl 0 rfl) ?_
    refine w_gr (k := (k + 23)) (r := k) hx hb hts hown hK hP fX6_13 hk.1 rfl dX6_value_174 ?_
    refine w_gr (k := k) (r := (k + 13)) hx hb hts hown hK hP fX6_99 hk.2.2.1.1 rfl dX6_value_177 ?_
    refine lv_iload_n hx hb dX6_value_180 rfl (lv_at hl 2 rfl) ?_
    refine lv_iload_n hx hb dX6_value_181 rfl (lv_at hl 3 rfl) ?_
    obtain ⟨q182, e182, h⟩ := obn_e h
    refine z_Vi (k := (k + 13)) (r1 := q182) (v1 := v) hx hb hml hts hown hK hP hS hz hE (c_Debts_between hk.2.2.1.2.2.2.2.2.2.2.2.1 e182) kX1_between mX6_108 hk.2.2.1.2.2.2.2.2.2.2.2.1.1 rfl rfl rfl hl.1 (Nat.le_of_ble_eq_true rfl) ⟨Nat.le_of_ble_eq_true rfl, Nat.le_of_ble_eq_true rfl⟩ ⟨Nat.le_refl _, Nat.le_refl _⟩ dX6_value_182 fun H1 locs1 hz hP hS => ?_
    exact w_iret hx hb hret rfl hlk hK hP hS hz hE (q_p1 h) dX6_value_185
  have h := itf_e h hc1_25
  by_cases hc1_26 : a1 = 26
  · have h := itt_e h hc1_26
    refine z_tI (y := 26) (tgt := 186) hx hb dX6_value_1 hc1_26 (by decide) (by decide) rfl rfl ?_
    refine lv_aload_n hx hb dX6_value_186 rfl (lv_at hl 0 rfl) ?_
    refine w_gr (k := (k + 23)) (r := k) hx hb hts hown hK hP fX6_13 hk.1 rfl dX6_value_187 ?_
    refine w_gr (k := k) (r := (k + 3)) hx hb hts hown hK hP fX6_112 hk.2.2.1.1 rfl dX6_value_190 ?_
    refine lv_iload_n hx hb dX6_value_193 rfl (lv_at hl 3 rfl) ?_
    obtain ⟨q194, e194, h⟩ := bnd_e h
    refine z_Vi (k := (k + 3)) (r1 := q194) (v1 := v) hx hb hml hts hown hK hP hS hz hE (C_Row_get hk.2.2.1.2.2.2.1 e194) kX7_get mX6_35 hk.2.2.1.2.2.2.1.1 rfl rfl rfl hl.1 (Nat.le_of_ble_eq_true rfl) ⟨Nat.le_of_ble_eq_true rfl, Nat.le_of_ble_eq_true rfl⟩ ⟨Nat.le_refl _, Nat.le_refl _⟩ dX6_value_194 fun H1 locs1 hz hP hS => ?_
    refine lv_iload_n hx hb dX6_value_197 rfl (lv_at hl 2 rfl) ?_
    refine lv_icmp_ne (tgt := 205) hx hb dX6_value_198 rfl (fun hc198 => ?_) (fun hc198 => ?_)
    · have h := itf_e h hc198
      refine lv_iconst (v := 0) hx hb dX6_value_205 rfl ?_
      exact w_iret hx hb hret rfl hlk hK hP hS hz hE (q_p1 h) dX6_value_206
    · have h := itt_e h hc198
      refine lv_iconst (v := 1) hx hb dX6_value_201 rfl ?_
      refine lv_goto (tgt := 206) hx hb dX6_value_202 rfl ?_
      exact w_iret hx hb hret rfl hlk hK hP hS hz hE (q_p1 h) dX6_value_206
  have h := itf_e h hc1_26
  refine z_tD (tgt := 207) hx hb [6, 19, 20, 21, 22, 23, 24, 25, 26] dX6_value_1 (q_nc hc1_6 (q_nc hc1_19 (q_nc hc1_20 (q_nc hc1_21 (q_nc hc1_22 (q_nc hc1_23 (q_nc hc1_24 (q_nc hc1_25 (q_nc hc1_26 q_nn))))))))) (by decide) (by decide) rfl ?_
  refine lv_iload_n hx hb dX6_value_207 rfl (lv_at hl 2 rfl) ?_
  exact w_iret hx hb hret rfl hlk hK hP hS hz hE (q_p1 h) dX6_value_208
def j_Reckoner_reckon_213 (K7 : (Int32 × Va) → Option (Int32 × Va)) (t7 : Int32 × Va) (v213 : Va) : Option (Int32 × Va) := K7 ((t7.1 + 1), v213)
def j_Reckoner_reckon_175 (k : Nat) (K7 : (Int32 × Va) → Option (Int32 × Va)) (t7 : Int32 × Va) (s175_0 : Int32) (v175 : Va) : Option (Int32 × Va) := (f_Reckoner_put v175 k s175_0).bind fun q175 => j_Reckoner_reckon_213 K7 t7 q175
def j_Reckoner_reckon_130 (k : Nat) (K7 : (Int32 × Va) → Option (Int32 × Va)) (t7 : Int32 × Va) (q114 : Int32 × Va) (s130_0 : Bool) : Option (Int32 × Va) := (f_Reckoner_put q114.2 k (q_b s130_0)).bind fun q130 => j_Reckoner_reckon_213 K7 t7 q130
def b_Reckoner_reckon_7 (z : Nat) (k : Nat) (a2 : Int32) (K7 : (Int32 × Va) → Option (Int32 × Va)) (t7 : Int32 × Va) : Option (Int32 × Va) := if a2 ≤ t7.1 then ((f_Reckoner_take t7.2 k).bind fun q220 => some (q220.1, q220.2)) else (bnd (row_g 400 (t7.2 92) t7.1) fun q20 => if q20 = 51 then ((f_Reckoner_take t7.2 k).bind fun q34 => (f_Reckoner_put q34.2 k (-q34.1)).bind fun q38 => j_Reckoner_reckon_213 K7 t7 q38) else (if q20 = 27 then ((f_Reckoner_take t7.2 k).bind fun q54 => (f_Reckoner_put q54.2 k (1 - q54.1)).bind fun q58 => j_Reckoner_reckon_213 K7 t7 q58) else ((f_Kind_joinsSums q20).bind fun q66 => if (q_b q66) = 0 then ((f_Kind_compares q20).bind fun q98 => if (q_b q98) = 0 then ((f_Kind_joinsTests q20).bind fun q138 => if (q_b q138) = 0 then (bnd (row_g 400 (t7.2 94) t7.1) fun q193 => bnd (row_g 400 (t7.2 96) t7.1) fun q204 => (f_Reckoner_value z t7.2 k q20 q193 q204).bind fun q207 => (f_Reckoner_put t7.2 k q207).bind fun q210 => j_Reckoner_reckon_213 K7 t7 q210) else ((f_Reckoner_take t7.2 k).bind fun q145 => if q20 = 28 then ((f_Reckoner_take q145.2 k).bind fun q159 => j_Reckoner_reckon_175 k K7 t7 (q159.1 &&& q145.1) q159.2) else ((f_Reckoner_take q145.2 k).bind fun q169 => j_Reckoner_reckon_175 k K7 t7 (q169.1 ||| q145.1) q169.2))) else ((f_Reckoner_take t7.2 k).bind fun q105 => (f_Reckoner_take q105.2 k).bind fun q114 => (f_Reckoner_holds q20 q114.1 q105.1).bind fun q119 => if (q_b q119) = 0 then (j_Reckoner_reckon_130 k K7 t7 q114 false) else (j_Reckoner_reckon_130 k K7 t7 q114 true))) else ((f_Reckoner_take t7.2 k).bind fun q73 => (f_Reckoner_take q73.2 k).bind fun q82 => (f_Reckoner_joined q20 q82.1 q73.1).bind fun q87 => (f_Reckoner_put q82.2 k q87).bind fun q90 => j_Reckoner_reckon_213 K7 t7 q90))))
def f_Reckoner_reckon (z : Nat) (v : Va) (k : Nat) (a1 : Int32) (a2 : Int32) : Option (Int32 × Va) := bnd (pu v (k + 23) 3 0) fun v2 => rp (b_Reckoner_reckon_7 z k a2) z (a1, v2)
theorem c_Reckoner_reckon {k : Nat} {a1 : Int32} {a2 : Int32} (hk : isReckoner sh k) {q : Int32 × Va} (h : f_Reckoner_reckon z v k a1 a2 = some q) : MetI l yX6_reckon cX6_reckon 6 (some .int) 3 Γ sh v w n [.ref (Γ.2.1 + (k + 23)), .int a1, .int a2] (fun x u => x = q.1 ∧ u = q.2) := by
  unfold f_Reckoner_reckon at h
  refine w_start pn_X6 (Nat.le_of_ble_eq_true rfl) fun p e s m args below meth c hx hb hml hret hlk hnm hts hown hK hP hz hE hS ls hl => ?_
  refine lv_aload_n hx hb dX6_reckon_0 rfl (lv_at hl 0 rfl) ?_
  refine lv_iconst (v := 0) hx hb dX6_reckon_1 rfl ?_
  obtain ⟨v2, e2, h⟩ := bnd_e h
  refine w_pi2 (k := (k + 23)) hx hb hts hown hK hP hS hz fX6_28 hk.1 rfl e2 dX6_reckon_2 fun H1 locs1 hz hP hS => ?_
  refine lv_iload_n hx hb dX6_reckon_5 rfl (lv_at hl 1 rfl) ?_
  refine lv_istore_n (lv' := [(3, .int a1), (0, .ref (Γ.2.1 + (k + 23))), (1, .int a1), (2, .int a2)]) hx hb dX6_reckon_6 rfl hl (by decide) rfl fun ls hl => ?_
  have L7 : ∀ (fu : Nat) (t7 : Int32 × Va), rp (b_Reckoner_reckon_7 z k a2) fu t7 = some q → ∀ (H1 : Heap) (locs1 : List Loc) (ls1 : Array Slot), lv_has ls1 6 [(0, .ref (Γ.2.1 + (k + 23))), (2, .int a2), (3, .int t7.1)] → Wd Γ sh t7.2 w H1 → va_S (gA Γ sh n) s.heap H1 locs1 → H1.size = Γ.2.1 + n → wpI Γ sh w n 3 (fun x u => x = q.1 ∧ u = q.2) p l e s m args below meth c H1 locs1 (F0 m 7 ls1 []) := by
    refine q_loop (fun K7 ih7 t7 h H1 locs1 ls hl hP hS hz => ?_)
    unfold b_Reckoner_reckon_7 at h
    refine lv_iload_n hx hb dX6_reckon_7 rfl (lv_at hl 2 rfl) ?_
    refine lv_iload_n hx hb dX6_reckon_8 rfl (lv_at hl 1 rfl) ?_
    refine lv_icmp_ge (tgt := 219) hx hb dX6_reckon_9 rfl (fun hc9 => ?_) (fun hc9 => ?_)
    · have h := itt_e h hc9
      refine lv_aload_n hx hb dX6_reckon_219 rfl (lv_at hl 0 rfl) ?_
      obtain ⟨q220, e220, h⟩ := obn_e h
      refine z_Vi (k := (k + 23)) (r1 := q220.1) (v1 := q220.2) hx hb hml hts hown hK hP hS hz hE (c_Reckoner_take hk e220) kX6_take mX6_41 hk.1 rfl rfl rfl hl.1 (Nat.le_of_ble_eq_true rfl) ⟨Nat.le_of_ble_eq_true rfl, Nat.le_of_ble_eq_true rfl⟩ ⟨Nat.le_refl _, Nat.le_refl _⟩ dX6_reckon_220 fun H1 locs1 hz hP hS => ?_
      exact w_iret hx hb hret rfl hlk hK hP hS hz hE (q_p2 h) dX6_reckon_223
    · have h := itf_e h hc9
      refine lv_aload_n hx hb dX6_reckon_12 rfl (lv_at hl 0 rfl) ?_
      refine w_gr (k := (k + 23)) (r := 90) hx hb hts hown hK hP fX6_7 hk.1 rfl dX6_reckon_13 ?_
      refine w_gr (k := 90) (r := 91) hx hb hts hown hK hP fX6_32 hk.2.1.1 rfl dX6_reckon_16 ?_
      refine lv_iload_n hx hb dX6_reckon_19 rfl (lv_at hl 2 rfl) ?_
      obtain ⟨q20, e20, h⟩ := bnd_e h
      refine z_Vi (k := 91) (r1 := q20) (v1 := t7.2) hx hb hml hts hown hK hP hS hz hE (C_Row_get hk.2.1.2.1 e20) kX7_get mX6_35 hk.2.1.2.1.1 rfl rfl rfl hl.1 (Nat.le_of_ble_eq_true rfl) ⟨Nat.le_of_ble_eq_true rfl, Nat.le_of_ble_eq_true rfl⟩ ⟨Nat.le_refl _, Nat.le_refl _⟩ dX6_reckon_20 fun H1 locs1 hz hP hS => ?_
      refine lv_istore (lv' := [(4, .int q20), (0, .ref (Γ.2.1 + (k + 23))), (2, .int a2), (3, .int t7.1)]) hx hb dX6_reckon_23 hl (by decide) rfl fun ls hl => ?_
      refine lv_iload hx hb dX6_reckon_25 (lv_at hl 0 rfl) ?_
      refine lv_bipush (v := 51) hx hb dX6_reckon_27 rfl ?_
      have J213 : ∀ (v213 : Va), (j_Reckoner_reckon_213 K7 t7) v213 = some q → ∀ (H1 : Heap) (locs1 : List Loc) (ls1 : Array Slot), lv_has ls1 6 [(0, .ref (Γ.2.1 + (k + 23))), (2, .int a2), (3, .int t7.1)] → Wd Γ sh v213 w H1 → va_S (gA Γ sh n) s.heap H1 locs1 → H1.size = Γ.2.1 + n → wpI Γ sh w n 3 (fun x u => x = q.1 ∧ u = q.2) p l e s m args below meth c H1 locs1 (F0 m 213 ls1 []) := by
        intro v213 h H1 locs1 ls hl hP hS hz
        unfold j_Reckoner_reckon_213 at h
        refine lv_iinc (k := 2) (v := (t7.1 + 1)) (lv' := [(3, .int (t7.1 + 1)), (0, .ref (Γ.2.1 + (k + 23))), (2, .int a2)]) hx hb dX6_reckon_213 hl rfl rfl (by decide) rfl fun ls hl => ?_
        refine lv_goto (tgt := 7) hx hb dX6_reckon_216 rfl ?_
        exact ih7 ((t7.1 + 1), v213) h _ _ _ (lv_sub hl [1, 2, 0] rfl) hP hS hz
      refine lv_icmp_ne (tgt := 44) hx hb dX6_reckon_29 rfl (fun hc29 => ?_) (fun hc29 => ?_)
      · have h := itf_e h hc29
        refine lv_iload hx hb dX6_reckon_44 (lv_at hl 0 rfl) ?_
        refine lv_bipush (v := 27) hx hb dX6_reckon_46 rfl ?_
        refine lv_icmp_ne (tgt := 64) hx hb dX6_reckon_48 rfl (fun hc48 => ?_) (fun hc48 => ?_)
        · have h := itf_e h hc48
          refine lv_iload hx hb dX6_reckon_64 (lv_at hl 0 rfl) ?_
          obtain ⟨q66, e66, h⟩ := obn_e h
          refine z_Si (r1 := (q_b q66)) (v1 := t7.2) hx hb hml hts hown hK hP hS hz hE (c_Kind_joinsSums  e66) kX2_joinsSums mX6_48 rfl rfl hl.1 (Nat.le_of_ble_eq_true rfl) ⟨Nat.le_of_ble_eq_true rfl, Nat.le_of_ble_eq_true rfl⟩ ⟨Nat.le_refl _, Nat.le_refl _⟩ dX6_reckon_66 fun H1 locs1 hz hP hS => ?_
          refine lv_if_eq (tgt := 96) hx hb dX6_reckon_69 rfl (fun hc69 => ?_) (fun hc69 => ?_)
          · have h := itt_e h hc69
            refine lv_iload hx hb dX6_reckon_96 (lv_at hl 0 rfl) ?_
            obtain ⟨q98, e98, h⟩ := obn_e h
            refine z_Si (r1 := (q_b q98)) (v1 := t7.2) hx hb hml hts hown hK hP hS hz hE (c_Kind_compares  e98) kX2_compares mX6_56 rfl rfl hl.1 (Nat.le_of_ble_eq_true rfl) ⟨Nat.le_of_ble_eq_true rfl, Nat.le_of_ble_eq_true rfl⟩ ⟨Nat.le_refl _, Nat.le_refl _⟩ dX6_reckon_98 fun H1 locs1 hz hP hS => ?_
            refine lv_if_eq (tgt := 136) hx hb dX6_reckon_101 rfl (fun hc101 => ?_) (fun hc101 => ?_)
            · have h := itt_e h hc101
              refine lv_iload hx hb dX6_reckon_136 (lv_at hl 0 rfl) ?_
              obtain ⟨q138, e138, h⟩ := obn_e h
              refine z_Si (r1 := (q_b q138)) (v1 := t7.2) hx hb hml hts hown hK hP hS hz hE (c_Kind_joinsTests  e138) kX2_joinsTests mX6_63 rfl rfl hl.1 (Nat.le_of_ble_eq_true rfl) ⟨Nat.le_of_ble_eq_true rfl, Nat.le_of_ble_eq_true rfl⟩ ⟨Nat.le_refl _, Nat.le_refl _⟩ dX6_reckon_138 fun H1 locs1 hz hP hS => ?_
              refine lv_if_eq (tgt := 181) hx hb dX6_reckon_141 rfl (fun hc141 => ?_) (fun hc141 => ?_)
              · have h := itt_e h hc141
                refine lv_aload_n hx hb dX6_reckon_181 rfl (lv_at hl 1 rfl) ?_
                refine lv_aload_n hx hb dX6_reckon_182 rfl (lv_at hl 1 rfl) ?_
                refine lv_iload hx hb dX6_reckon_183 (lv_at hl 0 rfl) ?_
                refine lv_aload_n hx hb dX6_reckon_185 rfl (lv_at hl 1 rfl) ?_
                refine w_gr (k := (k + 23)) (r := 90) hx hb hts hown hK hP fX6_7 hk.1 rfl dX6_reckon_186 ?_
                refine w_gr (k := 90) (r := 93) hx hb hts hown hK hP fX6_66 hk.2.1.1 rfl dX6_reckon_189 ?_
                refine lv_iload_n hx hb dX6_reckon_192 rfl (lv_at hl 3 rfl) ?_
                obtain ⟨q193, e193, h⟩ := bnd_e h
                refine z_Vi (k := 93) (r1 := q193) (v1 := t7.2) hx hb hml hts hown hK hP hS hz hE (C_Row_get hk.2.1.2.2.1 e193) kX7_get mX6_35 hk.2.1.2.2.1.1 rfl rfl rfl hl.1 (Nat.le_of_ble_eq_true rfl) ⟨Nat.le_of_ble_eq_true rfl, Nat.le_of_ble_eq_true rfl⟩ ⟨Nat.le_refl _, Nat.le_refl _⟩ dX6_reckon_193 fun H1 locs1 hz hP hS => ?_
                refine lv_aload_n hx hb dX6_reckon_196 rfl (lv_at hl 1 rfl) ?_
                refine w_gr (k := (k + 23)) (r := 90) hx hb hts hown hK hP fX6_7 hk.1 rfl dX6_reckon_197 ?_
                refine w_gr (k := 90) (r := 95) hx hb hts hown hK hP fX6_69 hk.2.1.1 rfl dX6_reckon_200 ?_
                refine lv_iload_n hx hb dX6_reckon_203 rfl (lv_at hl 3 rfl) ?_
                obtain ⟨q204, e204, h⟩ := bnd_e h
                refine z_Vi (k := 95) (r1 := q204) (v1 := t7.2) hx hb hml hts hown hK hP hS hz hE (C_Row_get hk.2.1.2.2.2 e204) kX7_get mX6_35 hk.2.1.2.2.2.1 rfl rfl rfl hl.1 (Nat.le_of_ble_eq_true rfl) ⟨Nat.le_of_ble_eq_true rfl, Nat.le_of_ble_eq_true rfl⟩ ⟨Nat.le_refl _, Nat.le_refl _⟩ dX6_reckon_204 fun H1 locs1 hz hP hS => ?_
                obtain ⟨q207, e207, h⟩ := obn_e h
                refine z_Vi (k := (k + 23)) (r1 := q207) (v1 := t7.2) hx hb hml hts hown hK hP hS hz hE (c_Reckoner_value hk e207) kX6_value mX6_72 hk.1 rfl rfl rfl hl.1 (Nat.le_of_ble_eq_true rfl) ⟨Nat.le_of_ble_eq_true rfl, Nat.le_of_ble_eq_true rfl⟩ ⟨Nat.le_refl _, Nat.le_refl _⟩ dX6_reckon_207 fun H1 locs1 hz hP hS => ?_
                obtain ⟨q210, e210, h⟩ := obn_e h
                refine z_Vv (k := (k + 23)) (v1 := q210) hx hb hml hts hown hK hP hS hz hE (c_Reckoner_put hk e210) kX6_put mX6_45 hk.1 rfl rfl rfl hl.1 (Nat.le_of_ble_eq_true rfl) ⟨Nat.le_of_ble_eq_true rfl, Nat.le_of_ble_eq_true rfl⟩ ⟨Nat.le_refl _, Nat.le_refl _⟩ dX6_reckon_210 fun H1 locs1 hz hP hS => ?_
                exact J213 q210 h _ _ _ (lv_sub hl [1, 2, 3] rfl) hP hS hz
              · have h := itf_e h hc141
                refine lv_aload_n hx hb dX6_reckon_144 rfl (lv_at hl 1 rfl) ?_
                obtain ⟨q145, e145, h⟩ := obn_e h
                refine z_Vi (k := (k + 23)) (r1 := q145.1) (v1 := q145.2) hx hb hml hts hown hK hP hS hz hE (c_Reckoner_take hk e145) kX6_take mX6_41 hk.1 rfl rfl rfl hl.1 (Nat.le_of_ble_eq_true rfl) ⟨Nat.le_of_ble_eq_true rfl, Nat.le_of_ble_eq_true rfl⟩ ⟨Nat.le_refl _, Nat.le_refl _⟩ dX6_reckon_145 fun H1 locs1 hz hP hS => ?_
                refine lv_istore (lv' := [(5, .int q145.1), (4, .int q20), (0, .ref (Γ.2.1 + (k + 23))), (2, .int a2), (3, .int t7.1)]) hx hb dX6_reckon_148 hl (by decide) rfl fun ls hl => ?_
                refine lv_aload_n hx hb dX6_reckon_150 rfl (lv_at hl 2 rfl) ?_
                refine lv_iload hx hb dX6_reckon_151 (lv_at hl 1 rfl) ?_
                refine lv_bipush (v := 28) hx hb dX6_reckon_153 rfl ?_
                have J175 : ∀ (s175_0 : Int32) (v175 : Va), (j_Reckoner_reckon_175 k K7 t7) s175_0 v175 = some q → ∀ (H1 : Heap) (locs1 : List Loc) (ls1 : Array Slot), lv_has ls1 6 [(0, .ref (Γ.2.1 + (k + 23))), (2, .int a2), (3, .int t7.1)] → Wd Γ sh v175 w H1 → va_S (gA Γ sh n) s.heap H1 locs1 → H1.size = Γ.2.1 + n → wpI Γ sh w n 3 (fun x u => x = q.1 ∧ u = q.2) p l e s m args below meth c H1 locs1 (F0 m 175 ls1 [.int s175_0, .ref (Γ.2.1 + (k + 23))]) := by
                  intro s175_0 v175 h H1 locs1 ls hl hP hS hz
                  unfold j_Reckoner_reckon_175 at h
                  obtain ⟨q175, e175, h⟩ := obn_e h
                  refine z_Vv (k := (k + 23)) (v1 := q175) hx hb hml hts hown hK hP hS hz hE (c_Reckoner_put hk e175) kX6_put mX6_45 hk.1 rfl rfl rfl hl.1 (Nat.le_of_ble_eq_true rfl) ⟨Nat.le_of_ble_eq_true rfl, Nat.le_of_ble_eq_true rfl⟩ ⟨Nat.le_refl _, Nat.le_refl _⟩ dX6_reckon_175 fun H1 locs1 hz hP hS => ?_
                  refine lv_goto (tgt := 213) hx hb dX6_reckon_178 rfl ?_
                  exact J213 q175 h _ _ _ (lv_sub hl [0, 1, 2] rfl) hP hS hz
                refine lv_icmp_ne (tgt := 168) hx hb dX6_reckon_155 rfl (fun hc155 => ?_) (fun hc155 => ?_)
                · have h := itf_e h hc155
                  refine lv_aload_n hx hb dX6_reckon_168 rfl (lv_at hl 2 rfl) ?_
                  obtain ⟨q169, e169, h⟩ := obn_e h
                  refine z_Vi (k := (k + 23)) (r1 := q169.1) (v1 := q169.2) hx hb hml hts hown hK hP hS hz hE (c_Reckoner_take hk e169) kX6_take mX6_41 hk.1 rfl rfl rfl hl.1 (Nat.le_of_ble_eq_true rfl) ⟨Nat.le_of_ble_eq_true rfl, Nat.le_of_ble_eq_true rfl⟩ ⟨Nat.le_refl _, Nat.le_refl _⟩ dX6_reckon_169 fun H1 locs1 hz hP hS => ?_
                  refine lv_iload hx hb dX6_reckon_172 (lv_at hl 0 rfl) ?_
                  refine lv_ior hx hb dX6_reckon_174 ?_
                  exact J175 (q169.1 ||| q145.1) q169.2 h _ _ _ (lv_sub hl [2, 3, 4] rfl) hP hS hz
                · have h := itt_e h hc155
                  refine lv_aload_n hx hb dX6_reckon_158 rfl (lv_at hl 2 rfl) ?_
                  obtain ⟨q159, e159, h⟩ := obn_e h
                  refine z_Vi (k := (k + 23)) (r1 := q159.1) (v1 := q159.2) hx hb hml hts hown hK hP hS hz hE (c_Reckoner_take hk e159) kX6_take mX6_41 hk.1 rfl rfl rfl hl.1 (Nat.le_of_ble_eq_true rfl) ⟨Nat.le_of_ble_eq_true rfl, Nat.le_of_ble_eq_true rfl⟩ ⟨Nat.le_refl _, Nat.le_refl _⟩ dX6_reckon_159 fun H1 locs1 hz hP hS => ?_
                  refine lv_iload hx hb dX6_reckon_162 (lv_at hl 0 rfl) ?_
                  refine lv_iand hx hb dX6_reckon_164 ?_
                  refine lv_goto (tgt := 175) hx hb dX6_reckon_165 rfl ?_
                  exact J175 (q159.1 &&& q145.1) q159.2 h _ _ _ (lv_sub hl [2, 3, 4] rfl) hP hS hz
            · have h := itf_e h hc101
              refine lv_aload_n hx hb dX6_reckon_104 rfl (lv_at hl 1 rfl) ?_
              obtain ⟨q105, e105, h⟩ := obn_e h
              refine z_Vi (k := (k + 23)) (r1 := q105.1) (v1 := q105.2) hx hb hml hts hown hK hP hS hz hE (c_Reckoner_take hk e105) kX6_take mX6_41 hk.1 rfl rfl rfl hl.1 (Nat.le_of_ble_eq_true rfl) ⟨Nat.le_of_ble_eq_true rfl, Nat.le_of_ble_eq_true rfl⟩ ⟨Nat.le_refl _, Nat.le_refl _⟩ dX6_reckon_105 fun H1 locs1 hz hP hS => ?_
              refine lv_istore (lv' := [(5, .int q105.1), (4, .int q20), (0, .ref (Γ.2.1 + (k + 23))), (2, .int a2), (3, .int t7.1)]) hx hb dX6_reckon_108 hl (by decide) rfl fun ls hl => ?_
              refine lv_aload_n hx hb dX6_reckon_110 rfl (lv_at hl 2 rfl) ?_
              refine lv_iload hx hb dX6_reckon_111 (lv_at hl 1 rfl) ?_
              refine lv_aload_n hx hb dX6_reckon_113 rfl (lv_at hl 2 rfl) ?_
              obtain ⟨q114, e114, h⟩ := obn_e h
              refine z_Vi (k := (k + 23)) (r1 := q114.1) (v1 := q114.2) hx hb hml hts hown hK hP hS hz hE (c_Reckoner_take hk e114) kX6_take mX6_41 hk.1 rfl rfl rfl hl.1 (Nat.le_of_ble_eq_true rfl) ⟨Nat.le_of_ble_eq_true rfl, Nat.le_of_ble_eq_true rfl⟩ ⟨Nat.le_refl _, Nat.le_refl _⟩ dX6_reckon_114 fun H1 locs1 hz hP hS => ?_
              refine lv_iload hx hb dX6_reckon_117 (lv_at hl 0 rfl) ?_
              obtain ⟨q119, e119, h⟩ := obn_e h
              refine z_Si (r1 := (q_b q119)) (v1 := q114.2) hx hb hml hts hown hK hP hS hz hE (c_Reckoner_holds  e119) kX6_holds mX6_59 rfl rfl hl.1 (Nat.le_of_ble_eq_true rfl) ⟨Nat.le_of_ble_eq_true rfl, Nat.le_of_ble_eq_true rfl⟩ ⟨Nat.le_refl _, Nat.le_refl _⟩ dX6_reckon_119 fun H1 locs1 hz hP hS => ?_
              have J130 : ∀ (s130_0 : Bool), (j_Reckoner_reckon_130 k K7 t7 q114) s130_0 = some q → ∀ (H1 : Heap) (locs1 : List Loc) (ls1 : Array Slot), lv_has ls1 6 [(0, .ref (Γ.2.1 + (k + 23))), (2, .int a2), (3, .int t7.1)] → Wd Γ sh q114.2 w H1 → va_S (gA Γ sh n) s.heap H1 locs1 → H1.size = Γ.2.1 + n → wpI Γ sh w n 3 (fun x u => x = q.1 ∧ u = q.2) p l e s m args below meth c H1 locs1 (F0 m 130 ls1 [.int (q_b s130_0), .ref (Γ.2.1 + (k + 23))]) := by
                intro s130_0 h H1 locs1 ls hl hP hS hz
                unfold j_Reckoner_reckon_130 at h
                obtain ⟨q130, e130, h⟩ := obn_e h
                refine z_Vv (k := (k + 23)) (v1 := q130) hx hb hml hts hown hK hP hS hz hE (c_Reckoner_put hk e130) kX6_put mX6_45 hk.1 rfl rfl rfl hl.1 (Nat.le_of_ble_eq_true rfl) ⟨Nat.le_of_ble_eq_true rfl, Nat.le_of_ble_eq_true rfl⟩ ⟨Nat.le_refl _, Nat.le_refl _⟩ dX6_reckon_130 fun H1 locs1 hz hP hS => ?_
                refine lv_goto (tgt := 213) hx hb dX6_reckon_133 rfl ?_
                exact J213 q130 h _ _ _ (lv_sub hl [0, 1, 2] rfl) hP hS hz
              refine lv_if_eq (tgt := 129) hx hb dX6_reckon_122 rfl (fun hc122 => ?_) (fun hc122 => ?_)
              · have h := itt_e h hc122
                refine lv_iconst (v := 0) hx hb dX6_reckon_129 rfl ?_
                exact J130 false h _ _ _ (lv_sub hl [2, 3, 4] rfl) hP hS hz
              · have h := itf_e h hc122
                refine lv_iconst (v := 1) hx hb dX6_reckon_125 rfl ?_
                refine lv_goto (tgt := 130) hx hb dX6_reckon_126 rfl ?_
                exact J130 true h _ _ _ (lv_sub hl [2, 3, 4] rfl) hP hS hz
          · have h := itf_e h hc69
            refine lv_aload_n hx hb dX6_reckon_72 rfl (lv_at hl 1 rfl) ?_
            obtain ⟨q73, e73, h⟩ := obn_e h
            refine z_Vi (k := (k + 23)) (r1 := q73.1) (v1 := q73.2) hx hb hml hts hown hK hP hS hz hE (c_Reckoner_take hk e73) kX6_take mX6_41 hk.1 rfl rfl rfl hl.1 (Nat.le_of_ble_eq_true rfl) ⟨Nat.le_of_ble_eq_true rfl, Nat.le_of_ble_eq_true rfl⟩ ⟨Nat.le_refl _, Nat.le_refl _⟩ dX6_reckon_73 fun H1 locs1 hz hP hS => ?_
            refine lv_istore (lv' := [(5, .int q73.1), (4, .int q20), (0, .ref (Γ.2.1 + (k + 23))), (2, .int a2), (3, .int t7.1)]) hx hb dX6_reckon_76 hl (by decide) rfl fun ls hl => ?_
            refine lv_aload_n hx hb dX6_reckon_78 rfl (lv_at hl 2 rfl) ?_
            refine lv_iload hx hb dX6_reckon_79 (lv_at hl 1 rfl) ?_
            refine lv_aload_n hx hb dX6_reckon_81 rfl (lv_at hl 2 rfl) ?_
            obtain ⟨q82, e82, h⟩ := obn_e h
            refine z_Vi (k := (k + 23)) (r1 := q82.1) (v1 := q82.2) hx hb hml hts hown hK hP hS hz hE (c_Reckoner_take hk e82) kX6_take mX6_41 hk.1 rfl rfl rfl hl.1 (Nat.le_of_ble_eq_true rfl) ⟨Nat.le_of_ble_eq_true rfl, Nat.le_of_ble_eq_true rfl⟩ ⟨Nat.le_refl _, Nat.le_refl _⟩ dX6_reckon_82 fun H1 locs1 hz hP hS => ?_
            refine lv_iload hx hb dX6_reckon_85 (lv_at hl 0 rfl) ?_
            obtain ⟨q87, e87, h⟩ := obn_e h
            refine z_Si (r1 := q87) (v1 := q82.2) hx hb hml hts hown hK hP hS hz hE (c_Reckoner_joined  e87) kX6_joined mX6_52 rfl rfl hl.1 (Nat.le_of_ble_eq_true rfl) ⟨Nat.le_of_ble_eq_true rfl, Nat.le_of_ble_eq_true rfl⟩ ⟨Nat.le_refl _, Nat.le_refl _⟩ dX6_reckon_87 fun H1 locs1 hz hP hS => ?_
            obtain ⟨q90, e90, h⟩ := obn_e h
            refine z_Vv (k := (k + 23)) (v1 := q90) hx hb hml hts hown hK hP hS hz hE (c_Reckoner_put hk e90) kX6_put mX6_45 hk.1 rfl rfl rfl hl.1 (Nat.le_of_ble_eq_true rfl) ⟨Nat.le_of_ble_eq_true rfl, Nat.le_of_ble_eq_true rfl⟩ ⟨Nat.le_refl _, Nat.le_refl _⟩ dX6_reckon_90 fun H1 locs1 hz hP hS => ?_
            refine lv_goto (tgt := 213) hx hb dX6_reckon_93 rfl ?_
            exact J213 q90 h _ _ _ (lv_sub hl [2, 3, 4] rfl) hP hS hz
        · have h := itt_e h hc48
          refine lv_aload_n hx hb dX6_reckon_51 rfl (lv_at hl 1 rfl) ?_
          refine lv_iconst (v := 1) hx hb dX6_reckon_52 rfl ?_
          refine lv_aload_n hx hb dX6_reckon_53 rfl (lv_at hl 1 rfl) ?_
          obtain ⟨q54, e54, h⟩ := obn_e h
          refine z_Vi (k := (k + 23)) (r1 := q54.1) (v1 := q54.2) hx hb hml hts hown hK hP hS hz hE (c_Reckoner_take hk e54) kX6_take mX6_41 hk.1 rfl rfl rfl hl.1 (Nat.le_of_ble_eq_true rfl) ⟨Nat.le_of_ble_eq_true rfl, Nat.le_of_ble_eq_true rfl⟩ ⟨Nat.le_refl _, Nat.le_refl _⟩ dX6_reckon_54 fun H1 locs1 hz hP hS => ?_
          refine lv_isub hx hb dX6_reckon_57 ?_
          obtain ⟨q58, e58, h⟩ := obn_e h
          refine z_Vv (k := (k + 23)) (v1 := q58) hx hb hml hts hown hK hP hS hz hE (c_Reckoner_put hk e58) kX6_put mX6_45 hk.1 rfl rfl rfl hl.1 (Nat.le_of_ble_eq_true rfl) ⟨Nat.le_of_ble_eq_true rfl, Nat.le_of_ble_eq_true rfl⟩ ⟨Nat.le_refl _, Nat.le_refl _⟩ dX6_reckon_58 fun H1 locs1 hz hP hS => ?_
          refine lv_goto (tgt := 213) hx hb dX6_reckon_61 rfl ?_
          exact J213 q58 h _ _ _ (lv_sub hl [1, 2, 3] rfl) hP hS hz
      · have h := itt_e h hc29
        refine lv_aload_n hx hb dX6_reckon_32 rfl (lv_at hl 1 rfl) ?_
        refine lv_aload_n hx hb dX6_reckon_33 rfl (lv_at hl 1 rfl) ?_
        obtain ⟨q34, e34, h⟩ := obn_e h
        refine z_Vi (k := (k + 23)) (r1 := q34.1) (v1 := q34.2) hx hb hml hts hown hK hP hS hz hE (c_Reckoner_take hk e34) kX6_take mX6_41 hk.1 rfl rfl rfl hl.1 (Nat.le_of_ble_eq_true rfl) ⟨Nat.le_of_ble_eq_true rfl, Nat.le_of_ble_eq_true rfl⟩ ⟨Nat.le_refl _, Nat.le_refl _⟩ dX6_reckon_34 fun H1 locs1 hz hP hS => ?_
        refine lv_ineg hx hb dX6_reckon_37 ?_
        obtain ⟨q38, e38, h⟩ := obn_e h
        refine z_Vv (k := (k + 23)) (v1 := q38) hx hb hml hts hown hK hP hS hz hE (c_Reckoner_put hk e38) kX6_put mX6_45 hk.1 rfl rfl rfl hl.1 (Nat.le_of_ble_eq_true rfl) ⟨Nat.le_of_ble_eq_true rfl, Nat.le_of_ble_eq_true rfl⟩ ⟨Nat.le_refl _, Nat.le_refl _⟩ dX6_reckon_38 fun H1 locs1 hz hP hS => ?_
        refine lv_goto (tgt := 213) hx hb dX6_reckon_41 rfl ?_
        exact J213 q38 h _ _ _ (lv_sub hl [1, 2, 3] rfl) hP hS hz
  exact L7 z (a1, v2) h _ _ _ (lv_sub hl [1, 3, 0] rfl) hP hS hz
def f_Days_canWeigh (v : Va) (k : Nat) (a1 : Int32) (a2 : Int32) : Option Bool := bnd (row_g 10 (v (k + 4)) a1) fun q15 => bnd (row_g 6 (v (k + 12)) q15) fun q18 => bnd (row_g 4 (v 65) a2) fun q29 => if q18 < q29 then (some false) else (some true)
theorem c_Days_canWeigh {k : Nat} {a1 : Int32} {a2 : Int32} (hk : isDays sh k) {q : Bool} (h : f_Days_canWeigh v k a1 a2 = some q) : MetI l yX0_canWeigh cX0_canWeigh 3 (some .boolean) 1 Γ sh v w n [.ref (Γ.2.1 + (k + 22)), .int a1, .int a2] (fun x u => x = q_b q ∧ u = v) := by
  unfold f_Days_canWeigh at h
  refine w_start pn_X0 (Nat.le_of_ble_eq_true rfl) fun p e s m args below meth c hx hb hml hret hlk hnm hts hown hK hP hz hE hS ls hl => ?_
  refine lv_aload_n hx hb dX0_canWeigh_0 rfl (lv_at hl 0 rfl) ?_
  refine w_gr (k := (k + 22)) (r := k) hx hb hts hown hK hP fX0_13 hk.1 rfl dX0_canWeigh_1 ?_
  refine w_gr (k := k) (r := (k + 11)) hx hb hts hown hK hP fX0_123 hk.2.2.1.1 rfl dX0_canWeigh_4 ?_
  refine lv_aload_n hx hb dX0_canWeigh_7 rfl (lv_at hl 0 rfl) ?_
  refine w_gr (k := (k + 22)) (r := k) hx hb hts hown hK hP fX0_13 hk.1 rfl dX0_canWeigh_8 ?_
  refine w_gr (k := k) (r := (k + 3)) hx hb hts hown hK hP fX0_126 hk.2.2.1.1 rfl dX0_canWeigh_11 ?_
  refine lv_iload_n hx hb dX0_canWeigh_14 rfl (lv_at hl 1 rfl) ?_
  obtain ⟨q15, e15, h⟩ := bnd_e h
  refine z_Vi (k := (k + 3)) (r1 := q15) (v1 := v) hx hb hml hts hown hK hP hS hz hE (C_Row_get hk.2.2.1.2.2.2.1 e15) kX7_get mX0_69 hk.2.2.1.2.2.2.1.1 rfl rfl rfl hl.1 (Nat.le_of_ble_eq_true rfl) ⟨Nat.le_of_ble_eq_true rfl, Nat.le_of_ble_eq_true rfl⟩ ⟨Nat.le_refl _, Nat.le_refl _⟩ dX0_canWeigh_15 fun H1 locs1 hz hP hS => ?_
  obtain ⟨q18, e18, h⟩ := bnd_e h
  refine z_Vi (k := (k + 11)) (r1 := q18) (v1 := v) hx hb hml hts hown hK hP hS hz hE (C_Row_get hk.2.2.1.2.2.2.2.2.2.2.1 e18) kX7_get mX0_69 hk.2.2.1.2.2.2.2.2.2.2.1.1 rfl rfl rfl hl.1 (Nat.le_of_ble_eq_true rfl) ⟨Nat.le_of_ble_eq_true rfl, Nat.le_of_ble_eq_true rfl⟩ ⟨Nat.le_refl _, Nat.le_refl _⟩ dX0_canWeigh_18 fun H1 locs1 hz hP hS => ?_
  refine lv_aload_n hx hb dX0_canWeigh_21 rfl (lv_at hl 0 rfl) ?_
  refine w_gr (k := (k + 22)) (r := 61) hx hb hts hown hK hP fX0_7 hk.1 rfl dX0_canWeigh_22 ?_
  refine w_gr (k := 61) (r := 64) hx hb hts hown hK hP fX0_129 hk.2.1.1 rfl dX0_canWeigh_25 ?_
  refine lv_iload_n hx hb dX0_canWeigh_28 rfl (lv_at hl 2 rfl) ?_
  obtain ⟨q29, e29, h⟩ := bnd_e h
  refine z_Vi (k := 64) (r1 := q29) (v1 := v) hx hb hml hts hown hK hP hS hz hE (C_Row_get hk.2.1.2.2.1 e29) kX7_get mX0_69 hk.2.1.2.2.1.1 rfl rfl rfl hl.1 (Nat.le_of_ble_eq_true rfl) ⟨Nat.le_of_ble_eq_true rfl, Nat.le_of_ble_eq_true rfl⟩ ⟨Nat.le_refl _, Nat.le_refl _⟩ dX0_canWeigh_29 fun H1 locs1 hz hP hS => ?_
  refine lv_icmp_lt (tgt := 39) hx hb dX0_canWeigh_32 rfl (fun hc32 => ?_) (fun hc32 => ?_)
  · have h := itt_e h hc32
    refine lv_iconst (v := 0) hx hb dX0_canWeigh_39 rfl ?_
    exact w_iret hx hb hret rfl hlk hK hP hS hz hE (q_p1b h) dX0_canWeigh_40
  · have h := itf_e h hc32
    refine lv_iconst (v := 1) hx hb dX0_canWeigh_35 rfl ?_
    refine lv_goto (tgt := 40) hx hb dX0_canWeigh_36 rfl ?_
    exact w_iret hx hb hret rfl hlk hK hP hS hz hE (q_p1b h) dX0_canWeigh_40
def f_Days_price (v : Va) (k : Nat) (a1 : Int32) (a2 : Int32) : Option Int32 := bnd (row_g 10 (v (k + 8)) a1) fun q21 => some (((q_max 0 (q_min 999 a2)) * q21) / 100)
theorem c_Days_price {k : Nat} {a1 : Int32} {a2 : Int32} (hk : isDays sh k) {q : Int32} (h : f_Days_price v k a1 a2 = some q) : MetI l yX0_price cX0_price 4 (some .int) 1 Γ sh v w n [.ref (Γ.2.1 + (k + 22)), .int a1, .int a2] (fun x u => x = q ∧ u = v) := by
  unfold f_Days_price at h
  refine w_start pn_X0 (Nat.le_of_ble_eq_true rfl) fun p e s m args below meth c hx hb hml hret hlk hnm hts hown hK hP hz hE hS ls hl => ?_
  refine lv_iconst (v := 0) hx hb dX0_price_0 rfl ?_
  refine lv_sipush (v := 999) hx hb dX0_price_1 rfl ?_
  refine lv_iload_n hx hb dX0_price_4 rfl (lv_at hl 2 rfl) ?_
  refine z_mmin hx hb hml hl.1 hts hown xX0_164 ⟨Nat.le_of_ble_eq_true rfl, Nat.le_of_ble_eq_true rfl⟩ (Nat.le_of_ble_eq_true rfl) ⟨Nat.le_refl _, Nat.le_refl _⟩ dX0_price_5 ?_
  refine z_mmax hx hb hml hl.1 hts hown xX0_153 ⟨Nat.le_of_ble_eq_true rfl, Nat.le_of_ble_eq_true rfl⟩ (Nat.le_of_ble_eq_true rfl) ⟨Nat.le_refl _, Nat.le_refl _⟩ dX0_price_8 ?_
  refine lv_istore_n (lv' := [(3, .int (q_max 0 (q_min 999 a2))), (0, .ref (Γ.2.1 + (k + 22))), (1, .int a1), (2, .int a2)]) hx hb dX0_price_11 rfl hl (by decide) rfl fun ls hl => ?_
  refine lv_iload_n hx hb dX0_price_12 rfl (lv_at hl 0 rfl) ?_
  refine lv_aload_n hx hb dX0_price_13 rfl (lv_at hl 1 rfl) ?_
  refine w_gr (k := (k + 22)) (r := k) hx hb hts hown hK hP fX0_13 hk.1 rfl dX0_price_14 ?_
  refine w_gr (k := k) (r := (k + 7)) hx hb hts hown hK hP fX0_179 hk.2.2.1.1 rfl dX0_price_17 ?_
  refine lv_iload_n hx hb dX0_price_20 rfl (lv_at hl 2 rfl) ?_
  obtain ⟨q21, e21, h⟩ := bnd_e h
  refine z_Vi (k := (k + 7)) (r1 := q21) (v1 := v) hx hb hml hts hown hK hP hS hz hE (C_Row_get hk.2.2.1.2.2.2.2.2.1 e21) kX7_get mX0_69 hk.2.2.1.2.2.2.2.2.1.1 rfl rfl rfl hl.1 (Nat.le_of_ble_eq_true rfl) ⟨Nat.le_of_ble_eq_true rfl, Nat.le_of_ble_eq_true rfl⟩ ⟨Nat.le_refl _, Nat.le_refl _⟩ dX0_price_21 fun H1 locs1 hz hP hS => ?_
  refine lv_imul hx hb dX0_price_24 ?_
  refine lv_bipush (v := 100) hx hb dX0_price_25 rfl ?_
  refine lv_idiv hx hb dX0_price_27 (by decide) ?_
  exact w_iret hx hb hret rfl hlk hK hP hS hz hE (q_p1 h) dX0_price_28
def f_Days_canSell (z : Nat) (v : Va) (k : Nat) (a1 : Int32) (a2 : Int32) (a3 : Int32) : Option Bool := (f_Stand_canBeSold v k a1).bind fun q5 => if (q_b q5) = 0 then (some false) else (bnd (row_g 10 (v (k + 4)) a1) fun q19 => if q19 = a2 then (some false) else ((f_Days_price v k a1 a3).bind fun q32 => bnd (row_g 6 (v (k + 12)) a2) fun q43 => (f_Debts_sumOf z v (k + 13) a2).bind fun q60 => bnd (row_g 6 (v 71) a2) fun q74 => if q74 < (q60 + (q_max 0 (q32 - q43))) then (some false) else (some true)))
theorem c_Days_canSell {k : Nat} {a1 : Int32} {a2 : Int32} {a3 : Int32} (hk : isDays sh k) {q : Bool} (h : f_Days_canSell z v k a1 a2 a3 = some q) : MetI l yX0_canSell cX0_canSell 5 (some .boolean) 2 Γ sh v w n [.ref (Γ.2.1 + (k + 22)), .int a1, .int a2, .int a3] (fun x u => x = q_b q ∧ u = v) := by
  unfold f_Days_canSell at h
  refine w_start pn_X0 (Nat.le_of_ble_eq_true rfl) fun p e s m args below meth c hx hb hml hret hlk hnm hts hown hK hP hz hE hS ls hl => ?_
  refine lv_aload_n hx hb dX0_canSell_0 rfl (lv_at hl 0 rfl) ?_
  refine w_gr (k := (k + 22)) (r := k) hx hb hts hown hK hP fX0_13 hk.1 rfl dX0_canSell_1 ?_
  refine lv_iload_n hx hb dX0_canSell_4 rfl (lv_at hl 1 rfl) ?_
  obtain ⟨q5, e5, h⟩ := obn_e h
  refine z_Vi (k := k) (r1 := (q_b q5)) (v1 := v) hx hb hml hts hown hK hP hS hz hE (c_Stand_canBeSold hk.2.2.1 e5) kX8_canBeSold mX0_147 hk.2.2.1.1 rfl rfl rfl hl.1 (Nat.le_of_ble_eq_true rfl) ⟨Nat.le_of_ble_eq_true rfl, Nat.le_of_ble_eq_true rfl⟩ ⟨Nat.le_refl _, Nat.le_refl _⟩ dX0_canSell_5 fun H1 locs1 hz hP hS => ?_
  refine lv_if_eq (tgt := 26) hx hb dX0_canSell_8 rfl (fun hc8 => ?_) (fun hc8 => ?_)
  · have h := itt_e h hc8
    refine lv_iconst (v := 0) hx hb dX0_canSell_26 rfl ?_
    exact w_iret hx hb hret rfl hlk hK hP hS hz hE (q_p1b h) dX0_canSell_27
  · have h := itf_e h hc8
    refine lv_aload_n hx hb dX0_canSell_11 rfl (lv_at hl 0 rfl) ?_
    refine w_gr (k := (k + 22)) (r := k) hx hb hts hown hK hP fX0_13 hk.1 rfl dX0_canSell_12 ?_
    refine w_gr (k := k) (r := (k + 3)) hx hb hts hown hK hP fX0_126 hk.2.2.1.1 rfl dX0_canSell_15 ?_
    refine lv_iload_n hx hb dX0_canSell_18 rfl (lv_at hl 1 rfl) ?_
    obtain ⟨q19, e19, h⟩ := bnd_e h
    refine z_Vi (k := (k + 3)) (r1 := q19) (v1 := v) hx hb hml hts hown hK hP hS hz hE (C_Row_get hk.2.2.1.2.2.2.1 e19) kX7_get mX0_69 hk.2.2.1.2.2.2.1.1 rfl rfl rfl hl.1 (Nat.le_of_ble_eq_true rfl) ⟨Nat.le_of_ble_eq_true rfl, Nat.le_of_ble_eq_true rfl⟩ ⟨Nat.le_refl _, Nat.le_refl _⟩ dX0_canSell_19 fun H1 locs1 hz hP hS => ?_
    refine lv_iload_n hx hb dX0_canSell_22 rfl (lv_at hl 2 rfl) ?_
    refine lv_icmp_ne (tgt := 28) hx hb dX0_canSell_23 rfl (fun hc23 => ?_) (fun hc23 => ?_)
    · have h := itf_e h hc23
      refine lv_iconst (v := 0) hx hb dX0_canSell_28 rfl ?_
      refine lv_aload_n hx hb dX0_canSell_29 rfl (lv_at hl 0 rfl) ?_
      refine lv_iload_n hx hb dX0_canSell_30 rfl (lv_at hl 1 rfl) ?_
      refine lv_iload_n hx hb dX0_canSell_31 rfl (lv_at hl 3 rfl) ?_
      obtain ⟨q32, e32, h⟩ := obn_e h
      refine z_Vi (k := (k + 22)) (r1 := q32) (v1 := v) hx hb hml hts hown hK hP hS hz hE (c_Days_price hk e32) kX0_price mX0_150 hk.1 rfl rfl rfl hl.1 (Nat.le_of_ble_eq_true rfl) ⟨Nat.le_of_ble_eq_true rfl, Nat.le_of_ble_eq_true rfl⟩ ⟨Nat.le_refl _, Nat.le_refl _⟩ dX0_canSell_32 fun H1 locs1 hz hP hS => ?_
      refine lv_aload_n hx hb dX0_canSell_35 rfl (lv_at hl 0 rfl) ?_
      refine w_gr (k := (k + 22)) (r := k) hx hb hts hown hK hP fX0_13 hk.1 rfl dX0_canSell_36 ?_
      refine w_gr (k := k) (r := (k + 11)) hx hb hts hown hK hP fX0_123 hk.2.2.1.1 rfl dX0_canSell_39 ?_
      refine lv_iload_n hx hb dX0_canSell_42 rfl (lv_at hl 2 rfl) ?_
      obtain ⟨q43, e43, h⟩ := bnd_e h
      refine z_Vi (k := (k + 11)) (r1 := q43) (v1 := v) hx hb hml hts hown hK hP hS hz hE (C_Row_get hk.2.2.1.2.2.2.2.2.2.2.1 e43) kX7_get mX0_69 hk.2.2.1.2.2.2.2.2.2.2.1.1 rfl rfl rfl hl.1 (Nat.le_of_ble_eq_true rfl) ⟨Nat.le_of_ble_eq_true rfl, Nat.le_of_ble_eq_true rfl⟩ ⟨Nat.le_refl _, Nat.le_refl _⟩ dX0_canSell_43 fun H1 locs1 hz hP hS => ?_
      refine lv_isub hx hb dX0_canSell_46 ?_
      refine z_mmax hx hb hml hl.1 hts hown xX0_153 ⟨Nat.le_of_ble_eq_true rfl, Nat.le_of_ble_eq_true rfl⟩ (Nat.le_of_ble_eq_true rfl) ⟨Nat.le_refl _, Nat.le_refl _⟩ dX0_canSell_47 ?_
      refine lv_istore (lv' := [(4, .int (q_max 0 (q32 - q43))), (0, .ref (Γ.2.1 + (k + 22))), (1, .int a1), (2, .int a2), (3, .int a3)]) hx hb dX0_canSell_50 hl (by decide) rfl fun ls hl => ?_
      refine lv_aload_n hx hb dX0_canSell_52 rfl (lv_at hl 1 rfl) ?_
      refine w_gr (k := (k + 22)) (r := k) hx hb hts hown hK hP fX0_13 hk.1 rfl dX0_canSell_53 ?_
      refine w_gr (k := k) (r := (k + 13)) hx hb hts hown hK hP fX0_45 hk.2.2.1.1 rfl dX0_canSell_56 ?_
      refine lv_iload_n hx hb dX0_canSell_59 rfl (lv_at hl 3 rfl) ?_
      obtain ⟨q60, e60, h⟩ := obn_e h
      refine z_Vi (k := (k + 13)) (r1 := q60) (v1 := v) hx hb hml hts hown hK hP hS hz hE (c_Debts_sumOf hk.2.2.1.2.2.2.2.2.2.2.2.1 e60) kX1_sumOf mX0_158 hk.2.2.1.2.2.2.2.2.2.2.2.1.1 rfl rfl rfl hl.1 (Nat.le_of_ble_eq_true rfl) ⟨Nat.le_of_ble_eq_true rfl, Nat.le_of_ble_eq_true rfl⟩ ⟨Nat.le_refl _, Nat.le_refl _⟩ dX0_canSell_60 fun H1 locs1 hz hP hS => ?_
      refine lv_iload hx hb dX0_canSell_63 (lv_at hl 0 rfl) ?_
      refine lv_iadd hx hb dX0_canSell_65 ?_
      refine lv_aload_n hx hb dX0_canSell_66 rfl (lv_at hl 1 rfl) ?_
      refine w_gr (k := (k + 22)) (r := 61) hx hb hts hown hK hP fX0_7 hk.1 rfl dX0_canSell_67 ?_
      refine w_gr (k := 61) (r := 70) hx hb hts hown hK hP fX0_161 hk.2.1.1 rfl dX0_canSell_70 ?_
      refine lv_iload_n hx hb dX0_canSell_73 rfl (lv_at hl 3 rfl) ?_
      obtain ⟨q74, e74, h⟩ := bnd_e h
      refine z_Vi (k := 70) (r1 := q74) (v1 := v) hx hb hml hts hown hK hP hS hz hE (C_Row_get hk.2.1.2.2.2.2.2.1 e74) kX7_get mX0_69 hk.2.1.2.2.2.2.2.1.1 rfl rfl rfl hl.1 (Nat.le_of_ble_eq_true rfl) ⟨Nat.le_of_ble_eq_true rfl, Nat.le_of_ble_eq_true rfl⟩ ⟨Nat.le_refl _, Nat.le_refl _⟩ dX0_canSell_74 fun H1 locs1 hz hP hS => ?_
      refine lv_icmp_gt (tgt := 84) hx hb dX0_canSell_77 rfl (fun hc77 => ?_) (fun hc77 => ?_)
      · have h := itt_e h hc77
        refine lv_iconst (v := 0) hx hb dX0_canSell_84 rfl ?_
        exact w_iret hx hb hret rfl hlk hK hP hS hz hE (q_p1b h) dX0_canSell_85
      · have h := itf_e h hc77
        refine lv_iconst (v := 1) hx hb dX0_canSell_80 rfl ?_
        refine lv_goto (tgt := 85) hx hb dX0_canSell_81 rfl ?_
        exact w_iret hx hb hret rfl hlk hK hP hS hz hE (q_p1b h) dX0_canSell_85
    · have h := itt_e h hc23
      refine lv_iconst (v := 0) hx hb dX0_canSell_26 rfl ?_
      exact w_iret hx hb hret rfl hlk hK hP hS hz hE (q_p1b h) dX0_canSell_27
def f_Days_due (v : Va) (k : Nat) (a1 : Int32) (a2 : Int32) (a3 : Int32) : Option Int32 := (f_Debts_between v (k + 13) a1 a2).bind fun q9 => bnd (row_g 6 (v (k + 12)) a1) fun q25 => some (q_min a3 (q_min q9 q25))
theorem c_Days_due {k : Nat} {a1 : Int32} {a2 : Int32} {a3 : Int32} (hk : isDays sh k) {q : Int32} (h : f_Days_due v k a1 a2 a3 = some q) : MetI l yX0_due cX0_due 5 (some .int) 2 Γ sh v w n [.ref (Γ.2.1 + (k + 22)), .int a1, .int a2, .int a3] (fun x u => x = q ∧ u = v) := by
  unfold f_Days_due at h
  refine w_start pn_X0 (Nat.le_of_ble_eq_true rfl) fun p e s m args below meth c hx hb hml hret hlk hnm hts hown hK hP hz hE hS ls hl => ?_
  refine lv_aload_n hx hb dX0_due_0 rfl (lv_at hl 0 rfl) ?_
  refine w_gr (k := (k + 22)) (r := k) hx hb hts hown hK hP fX0_13 hk.1 rfl dX0_due_1 ?_
  refine w_gr (k := k) (r := (k + 13)) hx hb hts hown hK hP fX0_45 hk.2.2.1.1 rfl dX0_due_4 ?_
  refine lv_iload_n hx hb dX0_due_7 rfl (lv_at hl 1 rfl) ?_
  refine lv_iload_n hx hb dX0_due_8 rfl (lv_at hl 2 rfl) ?_
  obtain ⟨q9, e9, h⟩ := obn_e h
  refine z_Vi (k := (k + 13)) (r1 := q9) (v1 := v) hx hb hml hts hown hK hP hS hz hE (c_Debts_between hk.2.2.1.2.2.2.2.2.2.2.2.1 e9) kX1_between mX0_182 hk.2.2.1.2.2.2.2.2.2.2.2.1.1 rfl rfl rfl hl.1 (Nat.le_of_ble_eq_true rfl) ⟨Nat.le_of_ble_eq_true rfl, Nat.le_of_ble_eq_true rfl⟩ ⟨Nat.le_refl _, Nat.le_refl _⟩ dX0_due_9 fun H1 locs1 hz hP hS => ?_
  refine lv_istore (lv' := [(4, .int q9), (0, .ref (Γ.2.1 + (k + 22))), (1, .int a1), (2, .int a2), (3, .int a3)]) hx hb dX0_due_12 hl (by decide) rfl fun ls hl => ?_
  refine lv_iload_n hx hb dX0_due_14 rfl (lv_at hl 4 rfl) ?_
  refine lv_iload hx hb dX0_due_15 (lv_at hl 0 rfl) ?_
  refine lv_aload_n hx hb dX0_due_17 rfl (lv_at hl 1 rfl) ?_
  refine w_gr (k := (k + 22)) (r := k) hx hb hts hown hK hP fX0_13 hk.1 rfl dX0_due_18 ?_
  refine w_gr (k := k) (r := (k + 11)) hx hb hts hown hK hP fX0_123 hk.2.2.1.1 rfl dX0_due_21 ?_
  refine lv_iload_n hx hb dX0_due_24 rfl (lv_at hl 2 rfl) ?_
  obtain ⟨q25, e25, h⟩ := bnd_e h
  refine z_Vi (k := (k + 11)) (r1 := q25) (v1 := v) hx hb hml hts hown hK hP hS hz hE (C_Row_get hk.2.2.1.2.2.2.2.2.2.2.1 e25) kX7_get mX0_69 hk.2.2.1.2.2.2.2.2.2.2.1.1 rfl rfl rfl hl.1 (Nat.le_of_ble_eq_true rfl) ⟨Nat.le_of_ble_eq_true rfl, Nat.le_of_ble_eq_true rfl⟩ ⟨Nat.le_refl _, Nat.le_refl _⟩ dX0_due_25 fun H1 locs1 hz hP hS => ?_
  refine z_mmin hx hb hml hl.1 hts hown xX0_164 ⟨Nat.le_of_ble_eq_true rfl, Nat.le_of_ble_eq_true rfl⟩ (Nat.le_of_ble_eq_true rfl) ⟨Nat.le_refl _, Nat.le_refl _⟩ dX0_due_28 ?_
  refine z_mmin hx hb hml hl.1 hts hown xX0_164 ⟨Nat.le_of_ble_eq_true rfl, Nat.le_of_ble_eq_true rfl⟩ (Nat.le_of_ble_eq_true rfl) ⟨Nat.le_refl _, Nat.le_refl _⟩ dX0_due_31 ?_
  exact w_iret hx hb hret rfl hlk hK hP hS hz hE (q_p1 h) dX0_due_34
def j_Days_wouldCarryOut_43 (z : Nat) (k : Nat) (a1 : Int32) (q8 : Int32) (v43 : Va) : Option (Bool × Va) := bnd (row_g 24 (v43 85) a1) fun q55 => (f_Reckoner_reckon z v43 k q55 q8).bind fun q59 => bnd (row_g 24 (q59.2 81) a1) fun q72 => bnd (row_g 24 (q59.2 83) a1) fun q85 => bnd (row_g 24 (q59.2 79) a1) fun q98 => if q98 = 0 then ((f_Days_canWeigh q59.2 k q72 q85).bind fun q133 => some (q133, q59.2)) else (if q98 = 1 then ((f_Days_canSell z q59.2 k q72 q85 q59.1).bind fun q144 => some (q144, q59.2)) else ((f_Days_due q59.2 k q72 q85 q59.1).bind fun q155 => if q155 < 1 then (some (false, q59.2)) else (some (true, q59.2))))
def f_Days_wouldCarryOut (z : Nat) (v : Va) (k : Nat) (a1 : Int32) : Option (Bool × Va) := bnd (row_g 24 (v 87) a1) fun q8 => bnd (row_g 24 (v 89) a1) fun q20 => if q20 ≤ q8 then (j_Days_wouldCarryOut_43 z k a1 q8 v) else ((f_Reckoner_reckon z v k q8 q20).bind fun q35 => if q35.1 = 0 then (some (false, q35.2)) else (j_Days_wouldCarryOut_43 z k a1 q8 q35.2))
theorem c_Days_wouldCarryOut {k : Nat} {a1 : Int32} (hk : isDays sh k) {q : Bool × Va} (h : f_Days_wouldCarryOut z v k a1 = some q) : MetI l yX0_wouldCarryOut cX0_wouldCarryOut 7 (some .boolean) 4 Γ sh v w n [.ref (Γ.2.1 + (k + 22)), .int a1] (fun x u => x = q_b q.1 ∧ u = q.2) := by
  unfold f_Days_wouldCarryOut at h
  refine w_start pn_X0 (Nat.le_of_ble_eq_true rfl) fun p e s m args below meth c hx hb hml hret hlk hnm hts hown hK hP hz hE hS ls hl => ?_
  refine lv_aload_n hx hb dX0_wouldCarryOut_0 rfl (lv_at hl 0 rfl) ?_
  refine w_gr (k := (k + 22)) (r := 61) hx hb hts hown hK hP fX0_7 hk.1 rfl dX0_wouldCarryOut_1 ?_
  refine w_gr (k := 61) (r := 86) hx hb hts hown hK hP fX0_65 hk.2.1.1 rfl dX0_wouldCarryOut_4 ?_
  refine lv_iload_n hx hb dX0_wouldCarryOut_7 rfl (lv_at hl 1 rfl) ?_
  obtain ⟨q8, e8, h⟩ := bnd_e h
  refine z_Vi (k := 86) (r1 := q8) (v1 := v) hx hb hml hts hown hK hP hS hz hE (C_Row_get hk.2.1.2.2.2.2.2.2.2.2.2.2.2.2.2.1 e8) kX7_get mX0_69 hk.2.1.2.2.2.2.2.2.2.2.2.2.2.2.2.1.1 rfl rfl rfl hl.1 (Nat.le_of_ble_eq_true rfl) ⟨Nat.le_of_ble_eq_true rfl, Nat.le_of_ble_eq_true rfl⟩ ⟨Nat.le_refl _, Nat.le_refl _⟩ dX0_wouldCarryOut_8 fun H1 locs1 hz hP hS => ?_
  refine lv_istore_n (lv' := [(2, .int q8), (0, .ref (Γ.2.1 + (k + 22))), (1, .int a1)]) hx hb dX0_wouldCarryOut_11 rfl hl (by decide) rfl fun ls hl => ?_
  refine lv_aload_n hx hb dX0_wouldCarryOut_12 rfl (lv_at hl 1 rfl) ?_
  refine w_gr (k := (k + 22)) (r := 61) hx hb hts hown hK hP fX0_7 hk.1 rfl dX0_wouldCarryOut_13 ?_
  refine w_gr (k := 61) (r := 88) hx hb hts hown hK hP fX0_75 hk.2.1.1 rfl dX0_wouldCarryOut_16 ?_
  refine lv_iload_n hx hb dX0_wouldCarryOut_19 rfl (lv_at hl 2 rfl) ?_
  obtain ⟨q20, e20, h⟩ := bnd_e h
  refine z_Vi (k := 88) (r1 := q20) (v1 := v) hx hb hml hts hown hK hP hS hz hE (C_Row_get hk.2.1.2.2.2.2.2.2.2.2.2.2.2.2.2.2.1 e20) kX7_get mX0_69 hk.2.1.2.2.2.2.2.2.2.2.2.2.2.2.2.2.1.1 rfl rfl rfl hl.1 (Nat.le_of_ble_eq_true rfl) ⟨Nat.le_of_ble_eq_true rfl, Nat.le_of_ble_eq_true rfl⟩ ⟨Nat.le_refl _, Nat.le_refl _⟩ dX0_wouldCarryOut_20 fun H1 locs1 hz hP hS => ?_
  refine lv_istore_n (lv' := [(3, .int q20), (2, .int q8), (0, .ref (Γ.2.1 + (k + 22))), (1, .int a1)]) hx hb dX0_wouldCarryOut_23 rfl hl (by decide) rfl fun ls hl => ?_
  refine lv_iload_n hx hb dX0_wouldCarryOut_24 rfl (lv_at hl 1 rfl) ?_
  refine lv_iload_n hx hb dX0_wouldCarryOut_25 rfl (lv_at hl 0 rfl) ?_
  have J43 : ∀ (v43 : Va), (j_Days_wouldCarryOut_43 z k a1 q8) v43 = some q → ∀ (H1 : Heap) (locs1 : List Loc) (ls1 : Array Slot), lv_has ls1 7 [(0, .ref (Γ.2.1 + (k + 22))), (1, .int a1), (2, .int q8)] → Wd Γ sh v43 w H1 → va_S (gA Γ sh n) s.heap H1 locs1 → H1.size = Γ.2.1 + n → wpI Γ sh w n 4 (fun x u => x = q_b q.1 ∧ u = q.2) p l e s m args below meth c H1 locs1 (F0 m 43 ls1 []) := by
    intro v43 h H1 locs1 ls hl hP hS hz
    unfold j_Days_wouldCarryOut_43 at h
    refine lv_aload_n hx hb dX0_wouldCarryOut_43 rfl (lv_at hl 0 rfl) ?_
    refine w_gr (k := (k + 22)) (r := (k + 23)) hx hb hts hown hK hP fX0_28 hk.1 rfl dX0_wouldCarryOut_44 ?_
    refine lv_aload_n hx hb dX0_wouldCarryOut_47 rfl (lv_at hl 0 rfl) ?_
    refine w_gr (k := (k + 22)) (r := 61) hx hb hts hown hK hP fX0_7 hk.1 rfl dX0_wouldCarryOut_48 ?_
    refine w_gr (k := 61) (r := 84) hx hb hts hown hK hP fX0_82 hk.2.1.1 rfl dX0_wouldCarryOut_51 ?_
    refine lv_iload_n hx hb dX0_wouldCarryOut_54 rfl (lv_at hl 1 rfl) ?_
    obtain ⟨q55, e55, h⟩ := bnd_e h
    refine z_Vi (k := 84) (r1 := q55) (v1 := v43) hx hb hml hts hown hK hP hS hz hE (C_Row_get hk.2.1.2.2.2.2.2.2.2.2.2.2.2.2.1 e55) kX7_get mX0_69 hk.2.1.2.2.2.2.2.2.2.2.2.2.2.2.1.1 rfl rfl rfl hl.1 (Nat.le_of_ble_eq_true rfl) ⟨Nat.le_of_ble_eq_true rfl, Nat.le_of_ble_eq_true rfl⟩ ⟨Nat.le_refl _, Nat.le_refl _⟩ dX0_wouldCarryOut_55 fun H1 locs1 hz hP hS => ?_
    refine lv_iload_n hx hb dX0_wouldCarryOut_58 rfl (lv_at hl 2 rfl) ?_
    obtain ⟨q59, e59, h⟩ := obn_e h
    refine z_Vi (k := (k + 23)) (r1 := q59.1) (v1 := q59.2) hx hb hml hts hown hK hP hS hz hE (c_Reckoner_reckon hk.2.2.2 e59) kX6_reckon mX0_78 hk.2.2.2.1 rfl rfl rfl hl.1 (Nat.le_of_ble_eq_true rfl) ⟨Nat.le_of_ble_eq_true rfl, Nat.le_of_ble_eq_true rfl⟩ ⟨Nat.le_refl _, Nat.le_refl _⟩ dX0_wouldCarryOut_59 fun H1 locs1 hz hP hS => ?_
    refine lv_istore (lv' := [(4, .int q59.1), (0, .ref (Γ.2.1 + (k + 22))), (1, .int a1), (2, .int q8)]) hx hb dX0_wouldCarryOut_62 hl (by decide) rfl fun ls hl => ?_
    refine lv_aload_n hx hb dX0_wouldCarryOut_64 rfl (lv_at hl 1 rfl) ?_
    refine w_gr (k := (k + 22)) (r := 61) hx hb hts hown hK hP fX0_7 hk.1 rfl dX0_wouldCarryOut_65 ?_
    refine w_gr (k := 61) (r := 80) hx hb hts hown hK hP fX0_85 hk.2.1.1 rfl dX0_wouldCarryOut_68 ?_
    refine lv_iload_n hx hb dX0_wouldCarryOut_71 rfl (lv_at hl 2 rfl) ?_
    obtain ⟨q72, e72, h⟩ := bnd_e h
    refine z_Vi (k := 80) (r1 := q72) (v1 := q59.2) hx hb hml hts hown hK hP hS hz hE (C_Row_get hk.2.1.2.2.2.2.2.2.2.2.2.2.1 e72) kX7_get mX0_69 hk.2.1.2.2.2.2.2.2.2.2.2.2.1.1 rfl rfl rfl hl.1 (Nat.le_of_ble_eq_true rfl) ⟨Nat.le_of_ble_eq_true rfl, Nat.le_of_ble_eq_true rfl⟩ ⟨Nat.le_refl _, Nat.le_refl _⟩ dX0_wouldCarryOut_72 fun H1 locs1 hz hP hS => ?_
    refine lv_istore (lv' := [(5, .int q72), (4, .int q59.1), (0, .ref (Γ.2.1 + (k + 22))), (1, .int a1), (2, .int q8)]) hx hb dX0_wouldCarryOut_75 hl (by decide) rfl fun ls hl => ?_
    refine lv_aload_n hx hb dX0_wouldCarryOut_77 rfl (lv_at hl 2 rfl) ?_
    refine w_gr (k := (k + 22)) (r := 61) hx hb hts hown hK hP fX0_7 hk.1 rfl dX0_wouldCarryOut_78 ?_
    refine w_gr (k := 61) (r := 82) hx hb hts hown hK hP fX0_88 hk.2.1.1 rfl dX0_wouldCarryOut_81 ?_
    refine lv_iload_n hx hb dX0_wouldCarryOut_84 rfl (lv_at hl 3 rfl) ?_
    obtain ⟨q85, e85, h⟩ := bnd_e h
    refine z_Vi (k := 82) (r1 := q85) (v1 := q59.2) hx hb hml hts hown hK hP hS hz hE (C_Row_get hk.2.1.2.2.2.2.2.2.2.2.2.2.2.1 e85) kX7_get mX0_69 hk.2.1.2.2.2.2.2.2.2.2.2.2.2.1.1 rfl rfl rfl hl.1 (Nat.le_of_ble_eq_true rfl) ⟨Nat.le_of_ble_eq_true rfl, Nat.le_of_ble_eq_true rfl⟩ ⟨Nat.le_refl _, Nat.le_refl _⟩ dX0_wouldCarryOut_85 fun H1 locs1 hz hP hS => ?_
    refine lv_istore (lv' := [(6, .int q85), (5, .int q72), (4, .int q59.1), (0, .ref (Γ.2.1 + (k + 22))), (1, .int a1), (2, .int q8)]) hx hb dX0_wouldCarryOut_88 hl (by decide) rfl fun ls hl => ?_
    refine lv_aload_n hx hb dX0_wouldCarryOut_90 rfl (lv_at hl 3 rfl) ?_
    refine w_gr (k := (k + 22)) (r := 61) hx hb hts hown hK hP fX0_7 hk.1 rfl dX0_wouldCarryOut_91 ?_
    refine w_gr (k := 61) (r := 78) hx hb hts hown hK hP fX0_91 hk.2.1.1 rfl dX0_wouldCarryOut_94 ?_
    refine lv_iload_n hx hb dX0_wouldCarryOut_97 rfl (lv_at hl 4 rfl) ?_
    obtain ⟨q98, e98, h⟩ := bnd_e h
    refine z_Vi (k := 78) (r1 := q98) (v1 := q59.2) hx hb hml hts hown hK hP hS hz hE (C_Row_get hk.2.1.2.2.2.2.2.2.2.2.2.1 e98) kX7_get mX0_69 hk.2.1.2.2.2.2.2.2.2.2.2.1.1 rfl rfl rfl hl.1 (Nat.le_of_ble_eq_true rfl) ⟨Nat.le_of_ble_eq_true rfl, Nat.le_of_ble_eq_true rfl⟩ ⟨Nat.le_refl _, Nat.le_refl _⟩ dX0_wouldCarryOut_98 fun H1 locs1 hz hP hS => ?_
    by_cases hc101_0 : q98 = 0
    · have h := itt_e h hc101_0
      refine z_lI (y := 0) (tgt := 128) hx hb dX0_wouldCarryOut_101 hc101_0 rfl rfl rfl ?_
      refine lv_aload_n hx hb dX0_wouldCarryOut_128 rfl (lv_at hl 3 rfl) ?_
      refine lv_iload hx hb dX0_wouldCarryOut_129 (lv_at hl 1 rfl) ?_
      refine lv_iload hx hb dX0_wouldCarryOut_131 (lv_at hl 0 rfl) ?_
      obtain ⟨q133, e133, h⟩ := obn_e h
      refine z_Vi (k := (k + 22)) (r1 := (q_b q133)) (v1 := q59.2) hx hb hml hts hown hK hP hS hz hE (c_Days_canWeigh hk e133) kX0_canWeigh mX0_94 hk.1 rfl rfl rfl hl.1 (Nat.le_of_ble_eq_true rfl) ⟨Nat.le_of_ble_eq_true rfl, Nat.le_of_ble_eq_true rfl⟩ ⟨Nat.le_refl _, Nat.le_refl _⟩ dX0_wouldCarryOut_133 fun H1 locs1 hz hP hS => ?_
      exact w_iret hx hb hret (q_bn _) hlk hK hP hS hz hE (q_p2b h) dX0_wouldCarryOut_136
    have h := itf_e h hc101_0
    by_cases hc101_1 : q98 = 1
    · have h := itt_e h hc101_1
      refine z_lI (y := 1) (tgt := 137) hx hb dX0_wouldCarryOut_101 hc101_1 rfl rfl rfl ?_
      refine lv_aload_n hx hb dX0_wouldCarryOut_137 rfl (lv_at hl 3 rfl) ?_
      refine lv_iload hx hb dX0_wouldCarryOut_138 (lv_at hl 1 rfl) ?_
      refine lv_iload hx hb dX0_wouldCarryOut_140 (lv_at hl 0 rfl) ?_
      refine lv_iload hx hb dX0_wouldCarryOut_142 (lv_at hl 2 rfl) ?_
      obtain ⟨q144, e144, h⟩ := obn_e h
      refine z_Vi (k := (k + 22)) (r1 := (q_b q144)) (v1 := q59.2) hx hb hml hts hown hK hP hS hz hE (c_Days_canSell hk e144) kX0_canSell mX0_98 hk.1 rfl rfl rfl hl.1 (Nat.le_of_ble_eq_true rfl) ⟨Nat.le_of_ble_eq_true rfl, Nat.le_of_ble_eq_true rfl⟩ ⟨Nat.le_refl _, Nat.le_refl _⟩ dX0_wouldCarryOut_144 fun H1 locs1 hz hP hS => ?_
      exact w_iret hx hb hret (q_bn _) hlk hK hP hS hz hE (q_p2b h) dX0_wouldCarryOut_147
    have h := itf_e h hc101_1
    refine z_lD (tgt := 148) hx hb [0, 1] dX0_wouldCarryOut_101 (q_nc hc101_0 (q_nc hc101_1 q_nn)) (by decide) (by decide) rfl ?_
    refine lv_aload_n hx hb dX0_wouldCarryOut_148 rfl (lv_at hl 3 rfl) ?_
    refine lv_iload hx hb dX0_wouldCarryOut_149 (lv_at hl 1 rfl) ?_
    refine lv_iload hx hb dX0_wouldCarryOut_151 (lv_at hl 0 rfl) ?_
    refine lv_iload hx hb dX0_wouldCarryOut_153 (lv_at hl 2 rfl) ?_
    obtain ⟨q155, e155, h⟩ := obn_e h
    refine z_Vi (k := (k + 22)) (r1 := q155) (v1 := q59.2) hx hb hml hts hown hK hP hS hz hE (c_Days_due hk e155) kX0_due mX0_102 hk.1 rfl rfl rfl hl.1 (Nat.le_of_ble_eq_true rfl) ⟨Nat.le_of_ble_eq_true rfl, Nat.le_of_ble_eq_true rfl⟩ ⟨Nat.le_refl _, Nat.le_refl _⟩ dX0_wouldCarryOut_155 fun H1 locs1 hz hP hS => ?_
    refine lv_iconst (v := 1) hx hb dX0_wouldCarryOut_158 rfl ?_
    refine lv_icmp_lt (tgt := 166) hx hb dX0_wouldCarryOut_159 rfl (fun hc159 => ?_) (fun hc159 => ?_)
    · have h := itt_e h hc159
      refine lv_iconst (v := 0) hx hb dX0_wouldCarryOut_166 rfl ?_
      exact w_iret hx hb hret rfl hlk hK hP hS hz hE (q_p2b h) dX0_wouldCarryOut_167
    · have h := itf_e h hc159
      refine lv_iconst (v := 1) hx hb dX0_wouldCarryOut_162 rfl ?_
      refine lv_goto (tgt := 167) hx hb dX0_wouldCarryOut_163 rfl ?_
      exact w_iret hx hb hret rfl hlk hK hP hS hz hE (q_p2b h) dX0_wouldCarryOut_167
  refine lv_icmp_ge (tgt := 43) hx hb dX0_wouldCarryOut_26 rfl (fun hc26 => ?_) (fun hc26 => ?_)
  · have h := itt_e h hc26
    exact J43 v h _ _ _ (lv_sub hl [2, 3, 1] rfl) hP hS hz
  · have h := itf_e h hc26
    refine lv_aload_n hx hb dX0_wouldCarryOut_29 rfl (lv_at hl 2 rfl) ?_
    refine w_gr (k := (k + 22)) (r := (k + 23)) hx hb hts hown hK hP fX0_28 hk.1 rfl dX0_wouldCarryOut_30 ?_
    refine lv_iload_n hx hb dX0_wouldCarryOut_33 rfl (lv_at hl 1 rfl) ?_
    refine lv_iload_n hx hb dX0_wouldCarryOut_34 rfl (lv_at hl 0 rfl) ?_
    obtain ⟨q35, e35, h⟩ := obn_e h
    refine z_Vi (k := (k + 23)) (r1 := q35.1) (v1 := q35.2) hx hb hml hts hown hK hP hS hz hE (c_Reckoner_reckon hk.2.2.2 e35) kX6_reckon mX0_78 hk.2.2.2.1 rfl rfl rfl hl.1 (Nat.le_of_ble_eq_true rfl) ⟨Nat.le_of_ble_eq_true rfl, Nat.le_of_ble_eq_true rfl⟩ ⟨Nat.le_refl _, Nat.le_refl _⟩ dX0_wouldCarryOut_35 fun H1 locs1 hz hP hS => ?_
    refine lv_if_ne (tgt := 43) hx hb dX0_wouldCarryOut_38 rfl (fun hc38 => ?_) (fun hc38 => ?_)
    · have h := itf_e h hc38
      exact J43 q35.2 h _ _ _ (lv_sub hl [2, 3, 1] rfl) hP hS hz
    · have h := itt_e h hc38
      refine lv_iconst (v := 0) hx hb dX0_wouldCarryOut_41 rfl ?_
      exact w_iret hx hb hret rfl hlk hK hP hS hz hE (q_p2b h) dX0_wouldCarryOut_42
def f_Days_weigh (v : Va) (k : Nat) (a1 : Int32) (a2 : Int32) : Option Va := bnd (row_g 4 (v 65) a2) fun q8 => bnd (row_g 10 (v (k + 2)) a1) fun q20 => bnd (row_g 10 (v (k + 4)) a1) fun q40 => bnd (up v (k + 12) (row_a 6 (v (k + 12)) q40 (-q8))) fun q45 => bnd (up q45 (k + 19) (row_a 4 (q45 (k + 19)) a2 q8)) fun q57 => bnd (row_g 4 (q57 67) a2) fun q78 => (f_Stand_setChop q57 k a1 a2 (q20 - ((q20 * q78) / 100))).bind fun q86 => bnd (pu q86 k 4 ((q86 k 4) + 1)) fun v99 => some v99
theorem c_Days_weigh {k : Nat} {a1 : Int32} {a2 : Int32} (hk : isDays sh k) {q : Va} (h : f_Days_weigh v k a1 a2 = some q) : MetV l yX0_weigh cX0_weigh 5 none 2 Γ sh v w n [.ref (Γ.2.1 + (k + 22)), .int a1, .int a2] (fun u => u = q) := by
  unfold f_Days_weigh at h
  refine w_start pn_X0 (Nat.le_of_ble_eq_true rfl) fun p e s m args below meth c hx hb hml hret hlk hnm hts hown hK hP hz hE hS ls hl => ?_
  refine lv_aload_n hx hb dX0_weigh_0 rfl (lv_at hl 0 rfl) ?_
  refine w_gr (k := (k + 22)) (r := 61) hx hb hts hown hK hP fX0_7 hk.1 rfl dX0_weigh_1 ?_
  refine w_gr (k := 61) (r := 64) hx hb hts hown hK hP fX0_129 hk.2.1.1 rfl dX0_weigh_4 ?_
  refine lv_iload_n hx hb dX0_weigh_7 rfl (lv_at hl 2 rfl) ?_
  obtain ⟨q8, e8, h⟩ := bnd_e h
  refine z_Vi (k := 64) (r1 := q8) (v1 := v) hx hb hml hts hown hK hP hS hz hE (C_Row_get hk.2.1.2.2.1 e8) kX7_get mX0_69 hk.2.1.2.2.1.1 rfl rfl rfl hl.1 (Nat.le_of_ble_eq_true rfl) ⟨Nat.le_of_ble_eq_true rfl, Nat.le_of_ble_eq_true rfl⟩ ⟨Nat.le_refl _, Nat.le_refl _⟩ dX0_weigh_8 fun H1 locs1 hz hP hS => ?_
  refine lv_istore_n (lv' := [(3, .int q8), (0, .ref (Γ.2.1 + (k + 22))), (1, .int a1), (2, .int a2)]) hx hb dX0_weigh_11 rfl hl (by decide) rfl fun ls hl => ?_
  refine lv_aload_n hx hb dX0_weigh_12 rfl (lv_at hl 1 rfl) ?_
  refine w_gr (k := (k + 22)) (r := k) hx hb hts hown hK hP fX0_13 hk.1 rfl dX0_weigh_13 ?_
  refine w_gr (k := k) (r := (k + 1)) hx hb hts hown hK hP fX0_132 hk.2.2.1.1 rfl dX0_weigh_16 ?_
  refine lv_iload_n hx hb dX0_weigh_19 rfl (lv_at hl 2 rfl) ?_
  obtain ⟨q20, e20, h⟩ := bnd_e h
  refine z_Vi (k := (k + 1)) (r1 := q20) (v1 := v) hx hb hml hts hown hK hP hS hz hE (C_Row_get hk.2.2.1.2.2.1 e20) kX7_get mX0_69 hk.2.2.1.2.2.1.1 rfl rfl rfl hl.1 (Nat.le_of_ble_eq_true rfl) ⟨Nat.le_of_ble_eq_true rfl, Nat.le_of_ble_eq_true rfl⟩ ⟨Nat.le_refl _, Nat.le_refl _⟩ dX0_weigh_20 fun H1 locs1 hz hP hS => ?_
  refine lv_istore (lv' := [(4, .int q20), (3, .int q8), (0, .ref (Γ.2.1 + (k + 22))), (1, .int a1), (2, .int a2)]) hx hb dX0_weigh_23 hl (by decide) rfl fun ls hl => ?_
  refine lv_aload_n hx hb dX0_weigh_25 rfl (lv_at hl 2 rfl) ?_
  refine w_gr (k := (k + 22)) (r := k) hx hb hts hown hK hP fX0_13 hk.1 rfl dX0_weigh_26 ?_
  refine w_gr (k := k) (r := (k + 11)) hx hb hts hown hK hP fX0_123 hk.2.2.1.1 rfl dX0_weigh_29 ?_
  refine lv_aload_n hx hb dX0_weigh_32 rfl (lv_at hl 2 rfl) ?_
  refine w_gr (k := (k + 22)) (r := k) hx hb hts hown hK hP fX0_13 hk.1 rfl dX0_weigh_33 ?_
  refine w_gr (k := k) (r := (k + 3)) hx hb hts hown hK hP fX0_126 hk.2.2.1.1 rfl dX0_weigh_36 ?_
  refine lv_iload_n hx hb dX0_weigh_39 rfl (lv_at hl 3 rfl) ?_
  obtain ⟨q40, e40, h⟩ := bnd_e h
  refine z_Vi (k := (k + 3)) (r1 := q40) (v1 := v) hx hb hml hts hown hK hP hS hz hE (C_Row_get hk.2.2.1.2.2.2.1 e40) kX7_get mX0_69 hk.2.2.1.2.2.2.1.1 rfl rfl rfl hl.1 (Nat.le_of_ble_eq_true rfl) ⟨Nat.le_of_ble_eq_true rfl, Nat.le_of_ble_eq_true rfl⟩ ⟨Nat.le_refl _, Nat.le_refl _⟩ dX0_weigh_40 fun H1 locs1 hz hP hS => ?_
  refine lv_iload_n hx hb dX0_weigh_43 rfl (lv_at hl 1 rfl) ?_
  refine lv_ineg hx hb dX0_weigh_44 ?_
  obtain ⟨q45, e45, h⟩ := bnd_e h
  refine z_Vv (k := (k + 11)) (v1 := q45) hx hb hml hts hown hK hP hS hz hE (C_Row_add hk.2.2.1.2.2.2.2.2.2.2.1 e45) kX7_add mX0_120 hk.2.2.1.2.2.2.2.2.2.2.1.1 rfl rfl rfl hl.1 (Nat.le_of_ble_eq_true rfl) ⟨Nat.le_of_ble_eq_true rfl, Nat.le_of_ble_eq_true rfl⟩ ⟨Nat.le_refl _, Nat.le_refl _⟩ dX0_weigh_45 fun H1 locs1 hz hP hS => ?_
  refine lv_aload_n hx hb dX0_weigh_48 rfl (lv_at hl 2 rfl) ?_
  refine w_gr (k := (k + 22)) (r := k) hx hb hts hown hK hP fX0_13 hk.1 rfl dX0_weigh_49 ?_
  refine w_gr (k := k) (r := (k + 18)) hx hb hts hown hK hP fX0_135 hk.2.2.1.1 rfl dX0_weigh_52 ?_
  refine lv_iload_n hx hb dX0_weigh_55 rfl (lv_at hl 4 rfl) ?_
  refine lv_iload_n hx hb dX0_weigh_56 rfl (lv_at hl 1 rfl) ?_
  obtain ⟨q57, e57, h⟩ := bnd_e h
  refine z_Vv (k := (k + 18)) (v1 := q57) hx hb hml hts hown hK hP hS hz hE (C_Row_add hk.2.2.1.2.2.2.2.2.2.2.2.2.1 e57) kX7_add mX0_120 hk.2.2.1.2.2.2.2.2.2.2.2.2.1.1 rfl rfl rfl hl.1 (Nat.le_of_ble_eq_true rfl) ⟨Nat.le_of_ble_eq_true rfl, Nat.le_of_ble_eq_true rfl⟩ ⟨Nat.le_refl _, Nat.le_refl _⟩ dX0_weigh_57 fun H1 locs1 hz hP hS => ?_
  refine lv_aload_n hx hb dX0_weigh_60 rfl (lv_at hl 2 rfl) ?_
  refine w_gr (k := (k + 22)) (r := k) hx hb hts hown hK hP fX0_13 hk.1 rfl dX0_weigh_61 ?_
  refine lv_iload_n hx hb dX0_weigh_64 rfl (lv_at hl 3 rfl) ?_
  refine lv_iload_n hx hb dX0_weigh_65 rfl (lv_at hl 4 rfl) ?_
  refine lv_iload hx hb dX0_weigh_66 (lv_at hl 0 rfl) ?_
  refine lv_iload hx hb dX0_weigh_68 (lv_at hl 0 rfl) ?_
  refine lv_aload_n hx hb dX0_weigh_70 rfl (lv_at hl 2 rfl) ?_
  refine w_gr (k := (k + 22)) (r := 61) hx hb hts hown hK hP fX0_7 hk.1 rfl dX0_weigh_71 ?_
  refine w_gr (k := 61) (r := 66) hx hb hts hown hK hP fX0_138 hk.2.1.1 rfl dX0_weigh_74 ?_
  refine lv_iload_n hx hb dX0_weigh_77 rfl (lv_at hl 4 rfl) ?_
  obtain ⟨q78, e78, h⟩ := bnd_e h
  refine z_Vi (k := 66) (r1 := q78) (v1 := q57) hx hb hml hts hown hK hP hS hz hE (C_Row_get hk.2.1.2.2.2.1 e78) kX7_get mX0_69 hk.2.1.2.2.2.1.1 rfl rfl rfl hl.1 (Nat.le_of_ble_eq_true rfl) ⟨Nat.le_of_ble_eq_true rfl, Nat.le_of_ble_eq_true rfl⟩ ⟨Nat.le_refl _, Nat.le_refl _⟩ dX0_weigh_78 fun H1 locs1 hz hP hS => ?_
  refine lv_imul hx hb dX0_weigh_81 ?_
  refine lv_bipush (v := 100) hx hb dX0_weigh_82 rfl ?_
  refine lv_idiv hx hb dX0_weigh_84 (by decide) ?_
  refine lv_isub hx hb dX0_weigh_85 ?_
  obtain ⟨q86, e86, h⟩ := obn_e h
  refine z_Vv (k := k) (v1 := q86) hx hb hml hts hown hK hP hS hz hE (c_Stand_setChop hk.2.2.1 e86) kX8_setChop mX0_141 hk.2.2.1.1 rfl rfl rfl hl.1 (Nat.le_of_ble_eq_true rfl) ⟨Nat.le_of_ble_eq_true rfl, Nat.le_of_ble_eq_true rfl⟩ ⟨Nat.le_refl _, Nat.le_refl _⟩ dX0_weigh_86 fun H1 locs1 hz hP hS => ?_
  refine lv_aload_n hx hb dX0_weigh_89 rfl (lv_at hl 2 rfl) ?_
  refine w_gr (k := (k + 22)) (r := k) hx hb hts hown hK hP fX0_13 hk.1 rfl dX0_weigh_90 ?_
  refine lv_dup hx hb dX0_weigh_93 rfl ?_
  refine w_gi (k := k) hx hb hts hown hK hP fX0_144 hk.2.2.1.1 rfl dX0_weigh_94 ?_
  refine lv_iconst (v := 1) hx hb dX0_weigh_97 rfl ?_
  refine lv_iadd hx hb dX0_weigh_98 ?_
  obtain ⟨v99, e99, h⟩ := bnd_e h
  refine w_pi2 (k := k) hx hb hts hown hK hP hS hz fX0_144 hk.2.2.1.1 rfl e99 dX0_weigh_99 fun H1 locs1 hz hP hS => ?_
  exact w_vret hx hb hret hlk hK hP hS hz hE (Option.some.inj h) dX0_weigh_102
def f_Days_sell (v : Va) (k : Nat) (a1 : Int32) (a2 : Int32) (a3 : Int32) : Option Va := bnd (row_g 10 (v (k + 4)) a1) fun q8 => (f_Days_price v k a1 a3).bind fun q16 => bnd (row_g 6 (v (k + 12)) a2) fun q31 => (f_Stand_moveCoins v k a2 q8 (q_min q16 q31)).bind fun q48 => (f_Debts_grow q48 (k + 13) a2 q8 (q16 - (q_min q16 q31))).bind fun q66 => bnd (up q66 (k + 4) (row_s 10 (q66 (k + 4)) a1 a2)) fun q78 => bnd (pu q78 k 3 ((q78 k 3) + 1)) fun v91 => some v91
theorem c_Days_sell {k : Nat} {a1 : Int32} {a2 : Int32} {a3 : Int32} (hk : isDays sh k) {q : Va} (h : f_Days_sell v k a1 a2 a3 = some q) : MetV l yX0_sell cX0_sell 7 none 2 Γ sh v w n [.ref (Γ.2.1 + (k + 22)), .int a1, .int a2, .int a3] (fun u => u = q) := by
  unfold f_Days_sell at h
  refine w_start pn_X0 (Nat.le_of_ble_eq_true rfl) fun p e s m args below meth c hx hb hml hret hlk hnm hts hown hK hP hz hE hS ls hl => ?_
  refine lv_aload_n hx hb dX0_sell_0 rfl (lv_at hl 0 rfl) ?_
  refine w_gr (k := (k + 22)) (r := k) hx hb hts hown hK hP fX0_13 hk.1 rfl dX0_sell_1 ?_
  refine w_gr (k := k) (r := (k + 3)) hx hb hts hown hK hP fX0_126 hk.2.2.1.1 rfl dX0_sell_4 ?_
  refine lv_iload_n hx hb dX0_sell_7 rfl (lv_at hl 1 rfl) ?_
  obtain ⟨q8, e8, h⟩ := bnd_e h
  refine z_Vi (k := (k + 3)) (r1 := q8) (v1 := v) hx hb hml hts hown hK hP hS hz hE (C_Row_get hk.2.2.1.2.2.2.1 e8) kX7_get mX0_69 hk.2.2.1.2.2.2.1.1 rfl rfl rfl hl.1 (Nat.le_of_ble_eq_true rfl) ⟨Nat.le_of_ble_eq_true rfl, Nat.le_of_ble_eq_true rfl⟩ ⟨Nat.le_refl _, Nat.le_refl _⟩ dX0_sell_8 fun H1 locs1 hz hP hS => ?_
  refine lv_istore (lv' := [(4, .int q8), (0, .ref (Γ.2.1 + (k + 22))), (1, .int a1), (2, .int a2), (3, .int a3)]) hx hb dX0_sell_11 hl (by decide) rfl fun ls hl => ?_
  refine lv_aload_n hx hb dX0_sell_13 rfl (lv_at hl 1 rfl) ?_
  refine lv_iload_n hx hb dX0_sell_14 rfl (lv_at hl 2 rfl) ?_
  refine lv_iload_n hx hb dX0_sell_15 rfl (lv_at hl 4 rfl) ?_
  obtain ⟨q16, e16, h⟩ := obn_e h
  refine z_Vi (k := (k + 22)) (r1 := q16) (v1 := v) hx hb hml hts hown hK hP hS hz hE (c_Days_price hk e16) kX0_price mX0_150 hk.1 rfl rfl rfl hl.1 (Nat.le_of_ble_eq_true rfl) ⟨Nat.le_of_ble_eq_true rfl, Nat.le_of_ble_eq_true rfl⟩ ⟨Nat.le_refl _, Nat.le_refl _⟩ dX0_sell_16 fun H1 locs1 hz hP hS => ?_
  refine lv_istore (lv' := [(5, .int q16), (4, .int q8), (0, .ref (Γ.2.1 + (k + 22))), (1, .int a1), (2, .int a2), (3, .int a3)]) hx hb dX0_sell_19 hl (by decide) rfl fun ls hl => ?_
  refine lv_iload hx hb dX0_sell_21 (lv_at hl 0 rfl) ?_
  refine lv_aload_n hx hb dX0_sell_23 rfl (lv_at hl 2 rfl) ?_
  refine w_gr (k := (k + 22)) (r := k) hx hb hts hown hK hP fX0_13 hk.1 rfl dX0_sell_24 ?_
  refine w_gr (k := k) (r := (k + 11)) hx hb hts hown hK hP fX0_123 hk.2.2.1.1 rfl dX0_sell_27 ?_
  refine lv_iload_n hx hb dX0_sell_30 rfl (lv_at hl 4 rfl) ?_
  obtain ⟨q31, e31, h⟩ := bnd_e h
  refine z_Vi (k := (k + 11)) (r1 := q31) (v1 := v) hx hb hml hts hown hK hP hS hz hE (C_Row_get hk.2.2.1.2.2.2.2.2.2.2.1 e31) kX7_get mX0_69 hk.2.2.1.2.2.2.2.2.2.2.1.1 rfl rfl rfl hl.1 (Nat.le_of_ble_eq_true rfl) ⟨Nat.le_of_ble_eq_true rfl, Nat.le_of_ble_eq_true rfl⟩ ⟨Nat.le_refl _, Nat.le_refl _⟩ dX0_sell_31 fun H1 locs1 hz hP hS => ?_
  refine z_mmin hx hb hml hl.1 hts hown xX0_164 ⟨Nat.le_of_ble_eq_true rfl, Nat.le_of_ble_eq_true rfl⟩ (Nat.le_of_ble_eq_true rfl) ⟨Nat.le_refl _, Nat.le_refl _⟩ dX0_sell_34 ?_
  refine lv_istore (lv' := [(6, .int (q_min q16 q31)), (5, .int q16), (4, .int q8), (0, .ref (Γ.2.1 + (k + 22))), (1, .int a1), (2, .int a2), (3, .int a3)]) hx hb dX0_sell_37 hl (by decide) rfl fun ls hl => ?_
  refine lv_aload_n hx hb dX0_sell_39 rfl (lv_at hl 3 rfl) ?_
  refine w_gr (k := (k + 22)) (r := k) hx hb hts hown hK hP fX0_13 hk.1 rfl dX0_sell_40 ?_
  refine lv_iload_n hx hb dX0_sell_43 rfl (lv_at hl 5 rfl) ?_
  refine lv_iload hx hb dX0_sell_44 (lv_at hl 2 rfl) ?_
  refine lv_iload hx hb dX0_sell_46 (lv_at hl 0 rfl) ?_
  obtain ⟨q48, e48, h⟩ := obn_e h
  refine z_Vv (k := k) (v1 := q48) hx hb hml hts hown hK hP hS hz hE (c_Stand_moveCoins hk.2.2.1 e48) kX8_moveCoins mX0_167 hk.2.2.1.1 rfl rfl rfl hl.1 (Nat.le_of_ble_eq_true rfl) ⟨Nat.le_of_ble_eq_true rfl, Nat.le_of_ble_eq_true rfl⟩ ⟨Nat.le_refl _, Nat.le_refl _⟩ dX0_sell_48 fun H1 locs1 hz hP hS => ?_
  refine lv_aload_n hx hb dX0_sell_51 rfl (lv_at hl 3 rfl) ?_
  refine w_gr (k := (k + 22)) (r := k) hx hb hts hown hK hP fX0_13 hk.1 rfl dX0_sell_52 ?_
  refine w_gr (k := k) (r := (k + 13)) hx hb hts hown hK hP fX0_45 hk.2.2.1.1 rfl dX0_sell_55 ?_
  refine lv_iload_n hx hb dX0_sell_58 rfl (lv_at hl 5 rfl) ?_
  refine lv_iload hx hb dX0_sell_59 (lv_at hl 2 rfl) ?_
  refine lv_iload hx hb dX0_sell_61 (lv_at hl 1 rfl) ?_
  refine lv_iload hx hb dX0_sell_63 (lv_at hl 0 rfl) ?_
  refine lv_isub hx hb dX0_sell_65 ?_
  obtain ⟨q66, e66, h⟩ := obn_e h
  refine z_Vv (k := (k + 13)) (v1 := q66) hx hb hml hts hown hK hP hS hz hE (c_Debts_grow hk.2.2.1.2.2.2.2.2.2.2.2.1 e66) kX1_grow mX0_170 hk.2.2.1.2.2.2.2.2.2.2.2.1.1 rfl rfl rfl hl.1 (Nat.le_of_ble_eq_true rfl) ⟨Nat.le_of_ble_eq_true rfl, Nat.le_of_ble_eq_true rfl⟩ ⟨Nat.le_refl _, Nat.le_refl _⟩ dX0_sell_66 fun H1 locs1 hz hP hS => ?_
  refine lv_aload_n hx hb dX0_sell_69 rfl (lv_at hl 3 rfl) ?_
  refine w_gr (k := (k + 22)) (r := k) hx hb hts hown hK hP fX0_13 hk.1 rfl dX0_sell_70 ?_
  refine w_gr (k := k) (r := (k + 3)) hx hb hts hown hK hP fX0_126 hk.2.2.1.1 rfl dX0_sell_73 ?_
  refine lv_iload_n hx hb dX0_sell_76 rfl (lv_at hl 4 rfl) ?_
  refine lv_iload_n hx hb dX0_sell_77 rfl (lv_at hl 5 rfl) ?_
  obtain ⟨q78, e78, h⟩ := bnd_e h
  refine z_Vv (k := (k + 3)) (v1 := q78) hx hb hml hts hown hK hP hS hz hE (C_Row_set hk.2.2.1.2.2.2.1 e78) kX7_set mX0_173 hk.2.2.1.2.2.2.1.1 rfl rfl rfl hl.1 (Nat.le_of_ble_eq_true rfl) ⟨Nat.le_of_ble_eq_true rfl, Nat.le_of_ble_eq_true rfl⟩ ⟨Nat.le_refl _, Nat.le_refl _⟩ dX0_sell_78 fun H1 locs1 hz hP hS => ?_
  refine lv_aload_n hx hb dX0_sell_81 rfl (lv_at hl 3 rfl) ?_
  refine w_gr (k := (k + 22)) (r := k) hx hb hts hown hK hP fX0_13 hk.1 rfl dX0_sell_82 ?_
  refine lv_dup hx hb dX0_sell_85 rfl ?_
  refine w_gi (k := k) hx hb hts hown hK hP fX0_176 hk.2.2.1.1 rfl dX0_sell_86 ?_
  refine lv_iconst (v := 1) hx hb dX0_sell_89 rfl ?_
  refine lv_iadd hx hb dX0_sell_90 ?_
  obtain ⟨v91, e91, h⟩ := bnd_e h
  refine w_pi2 (k := k) hx hb hts hown hK hP hS hz fX0_176 hk.2.2.1.1 rfl e91 dX0_sell_91 fun H1 locs1 hz hP hS => ?_
  exact w_vret hx hb hret hlk hK hP hS hz hE (Option.some.inj h) dX0_sell_94
def f_Days_payBack (v : Va) (k : Nat) (a1 : Int32) (a2 : Int32) (a3 : Int32) : Option Va := (f_Days_due v k a1 a2 a3).bind fun q4 => (f_Stand_moveCoins v k a1 a2 q4).bind fun q17 => (f_Debts_grow q17 (k + 13) a1 a2 (-q4)).bind fun q32 => bnd (pu q32 k 5 ((q32 k 5) + 1)) fun v45 => some v45
theorem c_Days_payBack {k : Nat} {a1 : Int32} {a2 : Int32} {a3 : Int32} (hk : isDays sh k) {q : Va} (h : f_Days_payBack v k a1 a2 a3 = some q) : MetV l yX0_payBack cX0_payBack 5 none 3 Γ sh v w n [.ref (Γ.2.1 + (k + 22)), .int a1, .int a2, .int a3] (fun u => u = q) := by
  unfold f_Days_payBack at h
  refine w_start pn_X0 (Nat.le_of_ble_eq_true rfl) fun p e s m args below meth c hx hb hml hret hlk hnm hts hown hK hP hz hE hS ls hl => ?_
  refine lv_aload_n hx hb dX0_payBack_0 rfl (lv_at hl 0 rfl) ?_
  refine lv_iload_n hx hb dX0_payBack_1 rfl (lv_at hl 1 rfl) ?_
  refine lv_iload_n hx hb dX0_payBack_2 rfl (lv_at hl 2 rfl) ?_
  refine lv_iload_n hx hb dX0_payBack_3 rfl (lv_at hl 3 rfl) ?_
  obtain ⟨q4, e4, h⟩ := obn_e h
  refine z_Vi (k := (k + 22)) (r1 := q4) (v1 := v) hx hb hml hts hown hK hP hS hz hE (c_Days_due hk e4) kX0_due mX0_102 hk.1 rfl rfl rfl hl.1 (Nat.le_of_ble_eq_true rfl) ⟨Nat.le_of_ble_eq_true rfl, Nat.le_of_ble_eq_true rfl⟩ ⟨Nat.le_refl _, Nat.le_refl _⟩ dX0_payBack_4 fun H1 locs1 hz hP hS => ?_
  refine lv_istore (lv' := [(4, .int q4), (0, .ref (Γ.2.1 + (k + 22))), (1, .int a1), (2, .int a2), (3, .int a3)]) hx hb dX0_payBack_7 hl (by decide) rfl fun ls hl => ?_
  refine lv_aload_n hx hb dX0_payBack_9 rfl (lv_at hl 1 rfl) ?_
  refine w_gr (k := (k + 22)) (r := k) hx hb hts hown hK hP fX0_13 hk.1 rfl dX0_payBack_10 ?_
  refine lv_iload_n hx hb dX0_payBack_13 rfl (lv_at hl 2 rfl) ?_
  refine lv_iload_n hx hb dX0_payBack_14 rfl (lv_at hl 3 rfl) ?_
  refine lv_iload hx hb dX0_payBack_15 (lv_at hl 0 rfl) ?_
  obtain ⟨q17, e17, h⟩ := obn_e h
  refine z_Vv (k := k) (v1 := q17) hx hb hml hts hown hK hP hS hz hE (c_Stand_moveCoins hk.2.2.1 e17) kX8_moveCoins mX0_167 hk.2.2.1.1 rfl rfl rfl hl.1 (Nat.le_of_ble_eq_true rfl) ⟨Nat.le_of_ble_eq_true rfl, Nat.le_of_ble_eq_true rfl⟩ ⟨Nat.le_refl _, Nat.le_refl _⟩ dX0_payBack_17 fun H1 locs1 hz hP hS => ?_
  refine lv_aload_n hx hb dX0_payBack_20 rfl (lv_at hl 1 rfl) ?_
  refine w_gr (k := (k + 22)) (r := k) hx hb hts hown hK hP fX0_13 hk.1 rfl dX0_payBack_21 ?_
  refine w_gr (k := k) (r := (k + 13)) hx hb hts hown hK hP fX0_45 hk.2.2.1.1 rfl dX0_payBack_24 ?_
  refine lv_iload_n hx hb dX0_payBack_27 rfl (lv_at hl 2 rfl) ?_
  refine lv_iload_n hx hb dX0_payBack_28 rfl (lv_at hl 3 rfl) ?_
  refine lv_iload hx hb dX0_payBack_29 (lv_at hl 0 rfl) ?_
  refine lv_ineg hx hb dX0_payBack_31 ?_
  obtain ⟨q32, e32, h⟩ := obn_e h
  refine z_Vv (k := (k + 13)) (v1 := q32) hx hb hml hts hown hK hP hS hz hE (c_Debts_grow hk.2.2.1.2.2.2.2.2.2.2.2.1 e32) kX1_grow mX0_170 hk.2.2.1.2.2.2.2.2.2.2.2.1.1 rfl rfl rfl hl.1 (Nat.le_of_ble_eq_true rfl) ⟨Nat.le_of_ble_eq_true rfl, Nat.le_of_ble_eq_true rfl⟩ ⟨Nat.le_refl _, Nat.le_refl _⟩ dX0_payBack_32 fun H1 locs1 hz hP hS => ?_
  refine lv_aload_n hx hb dX0_payBack_35 rfl (lv_at hl 1 rfl) ?_
  refine w_gr (k := (k + 22)) (r := k) hx hb hts hown hK hP fX0_13 hk.1 rfl dX0_payBack_36 ?_
  refine lv_dup hx hb dX0_payBack_39 rfl ?_
  refine w_gi (k := k) hx hb hts hown hK hP fX0_185 hk.2.2.1.1 rfl dX0_payBack_40 ?_
  refine lv_iconst (v := 1) hx hb dX0_payBack_43 rfl ?_
  refine lv_iadd hx hb dX0_payBack_44 ?_
  obtain ⟨v45, e45, h⟩ := bnd_e h
  refine w_pi2 (k := k) hx hb hts hown hK hP hS hz fX0_185 hk.2.2.1.1 rfl e45 dX0_payBack_45 fun H1 locs1 hz hP hS => ?_
  exact w_vret hx hb hret hlk hK hP hS hz hE (Option.some.inj h) dX0_payBack_48
def j_Days_carryOut_121 (k : Nat) (a1 : Int32) (v121 : Va) : Option Va := bnd (up v121 (k + 21) (row_a 24 (v121 (k + 21)) a1 1)) fun q130 => some q130
def f_Days_carryOut (z : Nat) (v : Va) (k : Nat) (a1 : Int32) : Option Va := bnd (row_g 24 (v 85) a1) fun q12 => bnd (row_g 24 (v 87) a1) fun q23 => (f_Reckoner_reckon z v k q12 q23).bind fun q26 => bnd (row_g 24 (q26.2 81) a1) fun q38 => bnd (row_g 24 (q26.2 83) a1) fun q50 => bnd (row_g 24 (q26.2 79) a1) fun q63 => if q63 = 0 then ((f_Days_weigh q26.2 k q38 q50).bind fun q96 => j_Days_carryOut_121 k a1 q96) else (if q63 = 1 then ((f_Days_sell q26.2 k q38 q50 q26.1).bind fun q107 => j_Days_carryOut_121 k a1 q107) else ((f_Days_payBack q26.2 k q38 q50 q26.1).bind fun q118 => j_Days_carryOut_121 k a1 q118))
theorem c_Days_carryOut {k : Nat} {a1 : Int32} (hk : isDays sh k) {q : Va} (h : f_Days_carryOut z v k a1 = some q) : MetV l yX0_carryOut cX0_carryOut 5 none 4 Γ sh v w n [.ref (Γ.2.1 + (k + 22)), .int a1] (fun u => u = q) := by
  unfold f_Days_carryOut at h
  refine w_start pn_X0 (Nat.le_of_ble_eq_true rfl) fun p e s m args below meth c hx hb hml hret hlk hnm hts hown hK hP hz hE hS ls hl => ?_
  refine lv_aload_n hx hb dX0_carryOut_0 rfl (lv_at hl 0 rfl) ?_
  refine w_gr (k := (k + 22)) (r := (k + 23)) hx hb hts hown hK hP fX0_28 hk.1 rfl dX0_carryOut_1 ?_
  refine lv_aload_n hx hb dX0_carryOut_4 rfl (lv_at hl 0 rfl) ?_
  refine w_gr (k := (k + 22)) (r := 61) hx hb hts hown hK hP fX0_7 hk.1 rfl dX0_carryOut_5 ?_
  refine w_gr (k := 61) (r := 84) hx hb hts hown hK hP fX0_82 hk.2.1.1 rfl dX0_carryOut_8 ?_
  refine lv_iload_n hx hb dX0_carryOut_11 rfl (lv_at hl 1 rfl) ?_
  obtain ⟨q12, e12, h⟩ := bnd_e h
  refine z_Vi (k := 84) (r1 := q12) (v1 := v) hx hb hml hts hown hK hP hS hz hE (C_Row_get hk.2.1.2.2.2.2.2.2.2.2.2.2.2.2.1 e12) kX7_get mX0_69 hk.2.1.2.2.2.2.2.2.2.2.2.2.2.2.1.1 rfl rfl rfl hl.1 (Nat.le_of_ble_eq_true rfl) ⟨Nat.le_of_ble_eq_true rfl, Nat.le_of_ble_eq_true rfl⟩ ⟨Nat.le_refl _, Nat.le_refl _⟩ dX0_carryOut_12 fun H1 locs1 hz hP hS => ?_
  refine lv_aload_n hx hb dX0_carryOut_15 rfl (lv_at hl 0 rfl) ?_
  refine w_gr (k := (k + 22)) (r := 61) hx hb hts hown hK hP fX0_7 hk.1 rfl dX0_carryOut_16 ?_
  refine w_gr (k := 61) (r := 86) hx hb hts hown hK hP fX0_65 hk.2.1.1 rfl dX0_carryOut_19 ?_
  refine lv_iload_n hx hb dX0_carryOut_22 rfl (lv_at hl 1 rfl) ?_
  obtain ⟨q23, e23, h⟩ := bnd_e h
  refine z_Vi (k := 86) (r1 := q23) (v1 := v) hx hb hml hts hown hK hP hS hz hE (C_Row_get hk.2.1.2.2.2.2.2.2.2.2.2.2.2.2.2.1 e23) kX7_get mX0_69 hk.2.1.2.2.2.2.2.2.2.2.2.2.2.2.2.1.1 rfl rfl rfl hl.1 (Nat.le_of_ble_eq_true rfl) ⟨Nat.le_of_ble_eq_true rfl, Nat.le_of_ble_eq_true rfl⟩ ⟨Nat.le_refl _, Nat.le_refl _⟩ dX0_carryOut_23 fun H1 locs1 hz hP hS => ?_
  obtain ⟨q26, e26, h⟩ := obn_e h
  refine z_Vi (k := (k + 23)) (r1 := q26.1) (v1 := q26.2) hx hb hml hts hown hK hP hS hz hE (c_Reckoner_reckon hk.2.2.2 e26) kX6_reckon mX0_78 hk.2.2.2.1 rfl rfl rfl hl.1 (Nat.le_of_ble_eq_true rfl) ⟨Nat.le_of_ble_eq_true rfl, Nat.le_of_ble_eq_true rfl⟩ ⟨Nat.le_refl _, Nat.le_refl _⟩ dX0_carryOut_26 fun H1 locs1 hz hP hS => ?_
  refine lv_istore_n (lv' := [(2, .int q26.1), (0, .ref (Γ.2.1 + (k + 22))), (1, .int a1)]) hx hb dX0_carryOut_29 rfl hl (by decide) rfl fun ls hl => ?_
  refine lv_aload_n hx hb dX0_carryOut_30 rfl (lv_at hl 1 rfl) ?_
  refine w_gr (k := (k + 22)) (r := 61) hx hb hts hown hK hP fX0_7 hk.1 rfl dX0_carryOut_31 ?_
  refine w_gr (k := 61) (r := 80) hx hb hts hown hK hP fX0_85 hk.2.1.1 rfl dX0_carryOut_34 ?_
  refine lv_iload_n hx hb dX0_carryOut_37 rfl (lv_at hl 2 rfl) ?_
  obtain ⟨q38, e38, h⟩ := bnd_e h
  refine z_Vi (k := 80) (r1 := q38) (v1 := q26.2) hx hb hml hts hown hK hP hS hz hE (C_Row_get hk.2.1.2.2.2.2.2.2.2.2.2.2.1 e38) kX7_get mX0_69 hk.2.1.2.2.2.2.2.2.2.2.2.2.1.1 rfl rfl rfl hl.1 (Nat.le_of_ble_eq_true rfl) ⟨Nat.le_of_ble_eq_true rfl, Nat.le_of_ble_eq_true rfl⟩ ⟨Nat.le_refl _, Nat.le_refl _⟩ dX0_carryOut_38 fun H1 locs1 hz hP hS => ?_
  refine lv_istore_n (lv' := [(3, .int q38), (2, .int q26.1), (0, .ref (Γ.2.1 + (k + 22))), (1, .int a1)]) hx hb dX0_carryOut_41 rfl hl (by decide) rfl fun ls hl => ?_
  refine lv_aload_n hx hb dX0_carryOut_42 rfl (lv_at hl 2 rfl) ?_
  refine w_gr (k := (k + 22)) (r := 61) hx hb hts hown hK hP fX0_7 hk.1 rfl dX0_carryOut_43 ?_
  refine w_gr (k := 61) (r := 82) hx hb hts hown hK hP fX0_88 hk.2.1.1 rfl dX0_carryOut_46 ?_
  refine lv_iload_n hx hb dX0_carryOut_49 rfl (lv_at hl 3 rfl) ?_
  obtain ⟨q50, e50, h⟩ := bnd_e h
  refine z_Vi (k := 82) (r1 := q50) (v1 := q26.2) hx hb hml hts hown hK hP hS hz hE (C_Row_get hk.2.1.2.2.2.2.2.2.2.2.2.2.2.1 e50) kX7_get mX0_69 hk.2.1.2.2.2.2.2.2.2.2.2.2.2.1.1 rfl rfl rfl hl.1 (Nat.le_of_ble_eq_true rfl) ⟨Nat.le_of_ble_eq_true rfl, Nat.le_of_ble_eq_true rfl⟩ ⟨Nat.le_refl _, Nat.le_refl _⟩ dX0_carryOut_50 fun H1 locs1 hz hP hS => ?_
  refine lv_istore (lv' := [(4, .int q50), (3, .int q38), (2, .int q26.1), (0, .ref (Γ.2.1 + (k + 22))), (1, .int a1)]) hx hb dX0_carryOut_53 hl (by decide) rfl fun ls hl => ?_
  refine lv_aload_n hx hb dX0_carryOut_55 rfl (lv_at hl 3 rfl) ?_
  refine w_gr (k := (k + 22)) (r := 61) hx hb hts hown hK hP fX0_7 hk.1 rfl dX0_carryOut_56 ?_
  refine w_gr (k := 61) (r := 78) hx hb hts hown hK hP fX0_91 hk.2.1.1 rfl dX0_carryOut_59 ?_
  refine lv_iload_n hx hb dX0_carryOut_62 rfl (lv_at hl 4 rfl) ?_
  obtain ⟨q63, e63, h⟩ := bnd_e h
  refine z_Vi (k := 78) (r1 := q63) (v1 := q26.2) hx hb hml hts hown hK hP hS hz hE (C_Row_get hk.2.1.2.2.2.2.2.2.2.2.2.1 e63) kX7_get mX0_69 hk.2.1.2.2.2.2.2.2.2.2.2.1.1 rfl rfl rfl hl.1 (Nat.le_of_ble_eq_true rfl) ⟨Nat.le_of_ble_eq_true rfl, Nat.le_of_ble_eq_true rfl⟩ ⟨Nat.le_refl _, Nat.le_refl _⟩ dX0_carryOut_63 fun H1 locs1 hz hP hS => ?_
  have J121 : ∀ (v121 : Va), (j_Days_carryOut_121 k a1) v121 = some q → ∀ (H1 : Heap) (locs1 : List Loc) (ls1 : Array Slot), lv_has ls1 5 [(0, .ref (Γ.2.1 + (k + 22))), (1, .int a1)] → Wd Γ sh v121 w H1 → va_S (gA Γ sh n) s.heap H1 locs1 → H1.size = Γ.2.1 + n → wpV Γ sh w n 4 (fun u => u = q) p l e s m args below meth c H1 locs1 (F0 m 121 ls1 []) := by
    intro v121 h H1 locs1 ls hl hP hS hz
    unfold j_Days_carryOut_121 at h
    refine lv_aload_n hx hb dX0_carryOut_121 rfl (lv_at hl 0 rfl) ?_
    refine w_gr (k := (k + 22)) (r := k) hx hb hts hown hK hP fX0_13 hk.1 rfl dX0_carryOut_122 ?_
    refine w_gr (k := k) (r := (k + 20)) hx hb hts hown hK hP fX0_117 hk.2.2.1.1 rfl dX0_carryOut_125 ?_
    refine lv_iload_n hx hb dX0_carryOut_128 rfl (lv_at hl 1 rfl) ?_
    refine lv_iconst (v := 1) hx hb dX0_carryOut_129 rfl ?_
    obtain ⟨q130, e130, h⟩ := bnd_e h
    refine z_Vv (k := (k + 20)) (v1 := q130) hx hb hml hts hown hK hP hS hz hE (C_Row_add hk.2.2.1.2.2.2.2.2.2.2.2.2.2 e130) kX7_add mX0_120 hk.2.2.1.2.2.2.2.2.2.2.2.2.2.1 rfl rfl rfl hl.1 (Nat.le_of_ble_eq_true rfl) ⟨Nat.le_of_ble_eq_true rfl, Nat.le_of_ble_eq_true rfl⟩ ⟨Nat.le_refl _, Nat.le_refl _⟩ dX0_carryOut_130 fun H1 locs1 hz hP hS => ?_
    exact w_vret hx hb hret hlk hK hP hS hz hE (Option.some.inj h) dX0_carryOut_133
  by_cases hc66_0 : q63 = 0
  · have h := itt_e h hc66_0
    refine z_lI (y := 0) (tgt := 92) hx hb dX0_carryOut_66 hc66_0 rfl rfl rfl ?_
    refine lv_aload_n hx hb dX0_carryOut_92 rfl (lv_at hl 3 rfl) ?_
    refine lv_iload_n hx hb dX0_carryOut_93 rfl (lv_at hl 1 rfl) ?_
    refine lv_iload hx hb dX0_carryOut_94 (lv_at hl 0 rfl) ?_
    obtain ⟨q96, e96, h⟩ := obn_e h
    refine z_Vv (k := (k + 22)) (v1 := q96) hx hb hml hts hown hK hP hS hz hE (c_Days_weigh hk e96) kX0_weigh mX0_106 hk.1 rfl rfl rfl hl.1 (Nat.le_of_ble_eq_true rfl) ⟨Nat.le_of_ble_eq_true rfl, Nat.le_of_ble_eq_true rfl⟩ ⟨Nat.le_refl _, Nat.le_refl _⟩ dX0_carryOut_96 fun H1 locs1 hz hP hS => ?_
    refine lv_goto (tgt := 121) hx hb dX0_carryOut_99 rfl ?_
    exact J121 q96 h _ _ _ (lv_sub hl [3, 4] rfl) hP hS hz
  have h := itf_e h hc66_0
  by_cases hc66_1 : q63 = 1
  · have h := itt_e h hc66_1
    refine z_lI (y := 1) (tgt := 102) hx hb dX0_carryOut_66 hc66_1 rfl rfl rfl ?_
    refine lv_aload_n hx hb dX0_carryOut_102 rfl (lv_at hl 3 rfl) ?_
    refine lv_iload_n hx hb dX0_carryOut_103 rfl (lv_at hl 1 rfl) ?_
    refine lv_iload hx hb dX0_carryOut_104 (lv_at hl 0 rfl) ?_
    refine lv_iload_n hx hb dX0_carryOut_106 rfl (lv_at hl 2 rfl) ?_
    obtain ⟨q107, e107, h⟩ := obn_e h
    refine z_Vv (k := (k + 22)) (v1 := q107) hx hb hml hts hown hK hP hS hz hE (c_Days_sell hk e107) kX0_sell mX0_110 hk.1 rfl rfl rfl hl.1 (Nat.le_of_ble_eq_true rfl) ⟨Nat.le_of_ble_eq_true rfl, Nat.le_of_ble_eq_true rfl⟩ ⟨Nat.le_refl _, Nat.le_refl _⟩ dX0_carryOut_107 fun H1 locs1 hz hP hS => ?_
    refine lv_goto (tgt := 121) hx hb dX0_carryOut_110 rfl ?_
    exact J121 q107 h _ _ _ (lv_sub hl [3, 4] rfl) hP hS hz
  have h := itf_e h hc66_1
  refine z_lD (tgt := 113) hx hb [0, 1] dX0_carryOut_66 (q_nc hc66_0 (q_nc hc66_1 q_nn)) (by decide) (by decide) rfl ?_
  refine lv_aload_n hx hb dX0_carryOut_113 rfl (lv_at hl 3 rfl) ?_
  refine lv_iload_n hx hb dX0_carryOut_114 rfl (lv_at hl 1 rfl) ?_
  refine lv_iload hx hb dX0_carryOut_115 (lv_at hl 0 rfl) ?_
  refine lv_iload_n hx hb dX0_carryOut_117 rfl (lv_at hl 2 rfl) ?_
  obtain ⟨q118, e118, h⟩ := obn_e h
  refine z_Vv (k := (k + 22)) (v1 := q118) hx hb hml hts hown hK hP hS hz hE (c_Days_payBack hk e118) kX0_payBack mX0_114 hk.1 rfl rfl rfl hl.1 (Nat.le_of_ble_eq_true rfl) ⟨Nat.le_of_ble_eq_true rfl, Nat.le_of_ble_eq_true rfl⟩ ⟨Nat.le_refl _, Nat.le_refl _⟩ dX0_carryOut_118 fun H1 locs1 hz hP hS => ?_
  exact J121 q118 h _ _ _ (lv_sub hl [3, 4] rfl) hP hS hz
def j_Days_followOrders_31 (K4 : (Int32 × Int32 × Va) → Option (Int32 × Va)) (t4 : Int32 × Int32 × Va) (x31_1 : Int32) (v31 : Va) : Option (Int32 × Va) := K4 (x31_1, (t4.2.1 + 1), v31)
def b_Days_followOrders_4 (z : Nat) (k : Nat) (K4 : (Int32 × Int32 × Va) → Option (Int32 × Va)) (t4 : Int32 × Int32 × Va) : Option (Int32 × Va) := if (t4.2.2 61 4) ≤ t4.2.1 then (some (t4.1, t4.2.2)) else ((f_Days_wouldCarryOut z t4.2.2 k t4.2.1).bind fun q17 => if (q_b q17.1) = 0 then (j_Days_followOrders_31 K4 t4 t4.1 q17.2) else ((f_Days_carryOut z q17.2 k t4.2.1).bind fun q25 => j_Days_followOrders_31 K4 t4 (t4.1 + 1) q25))
def f_Days_followOrders (z : Nat) (v : Va) (k : Nat) : Option (Int32 × Va) := rp (b_Days_followOrders_4 z k) z (0, 0, v)
theorem c_Days_followOrders {k : Nat} (hk : isDays sh k) {q : Int32 × Va} (h : f_Days_followOrders z v k = some q) : MetI l yX0_followOrders cX0_followOrders 3 (some .int) 5 Γ sh v w n [.ref (Γ.2.1 + (k + 22))] (fun x u => x = q.1 ∧ u = q.2) := by
  unfold f_Days_followOrders at h
  refine w_start pn_X0 (Nat.le_of_ble_eq_true rfl) fun p e s m args below meth c hx hb hml hret hlk hnm hts hown hK hP hz hE hS ls hl => ?_
  refine lv_iconst (v := 0) hx hb dX0_followOrders_0 rfl ?_
  refine lv_istore_n (lv' := [(1, .int 0), (0, .ref (Γ.2.1 + (k + 22)))]) hx hb dX0_followOrders_1 rfl hl (by decide) rfl fun ls hl => ?_
  refine lv_iconst (v := 0) hx hb dX0_followOrders_2 rfl ?_
  refine lv_istore_n (lv' := [(2, .int 0), (1, .int 0), (0, .ref (Γ.2.1 + (k + 22)))]) hx hb dX0_followOrders_3 rfl hl (by decide) rfl fun ls hl => ?_
  have L4 : ∀ (fu : Nat) (t4 : Int32 × Int32 × Va), rp (b_Days_followOrders_4 z k) fu t4 = some q → ∀ (H1 : Heap) (locs1 : List Loc) (ls1 : Array Slot), lv_has ls1 3 [(0, .ref (Γ.2.1 + (k + 22))), (1, .int t4.1), (2, .int t4.2.1)] → Wd Γ sh t4.2.2 w H1 → va_S (gA Γ sh n) s.heap H1 locs1 → H1.size = Γ.2.1 + n → wpI Γ sh w n 5 (fun x u => x = q.1 ∧ u = q.2) p l e s m args below meth c H1 locs1 (F0 m 4 ls1 []) := by
    refine q_loop (fun K4 ih4 t4 h H1 locs1 ls hl hP hS hz => ?_)
    unfold b_Days_followOrders_4 at h
    refine lv_iload_n hx hb dX0_followOrders_4 rfl (lv_at hl 2 rfl) ?_
    refine lv_aload_n hx hb dX0_followOrders_5 rfl (lv_at hl 0 rfl) ?_
    refine w_gr (k := (k + 22)) (r := 61) hx hb hts hown hK hP fX0_7 hk.1 rfl dX0_followOrders_6 ?_
    refine w_gi (k := 61) hx hb hts hown hK hP fX0_54 hk.2.1.1 rfl dX0_followOrders_9 ?_
    refine lv_icmp_ge (tgt := 37) hx hb dX0_followOrders_12 rfl (fun hc12 => ?_) (fun hc12 => ?_)
    · have h := itt_e h hc12
      refine lv_iload_n hx hb dX0_followOrders_37 rfl (lv_at hl 1 rfl) ?_
      exact w_iret hx hb hret rfl hlk hK hP hS hz hE (q_p2 h) dX0_followOrders_38
    · have h := itf_e h hc12
      refine lv_aload_n hx hb dX0_followOrders_15 rfl (lv_at hl 0 rfl) ?_
      refine lv_iload_n hx hb dX0_followOrders_16 rfl (lv_at hl 2 rfl) ?_
      obtain ⟨q17, e17, h⟩ := obn_e h
      refine z_Vi (k := (k + 22)) (r1 := (q_b q17.1)) (v1 := q17.2) hx hb hml hts hown hK hP hS hz hE (c_Days_wouldCarryOut hk e17) kX0_wouldCarryOut mX0_57 hk.1 rfl rfl rfl hl.1 (Nat.le_of_ble_eq_true rfl) ⟨Nat.le_of_ble_eq_true rfl, Nat.le_of_ble_eq_true rfl⟩ ⟨Nat.le_refl _, Nat.le_refl _⟩ dX0_followOrders_17 fun H1 locs1 hz hP hS => ?_
      have J31 : ∀ (x31_1 : Int32) (v31 : Va), (j_Days_followOrders_31 K4 t4) x31_1 v31 = some q → ∀ (H1 : Heap) (locs1 : List Loc) (ls1 : Array Slot), lv_has ls1 3 [(0, .ref (Γ.2.1 + (k + 22))), (1, .int x31_1), (2, .int t4.2.1)] → Wd Γ sh v31 w H1 → va_S (gA Γ sh n) s.heap H1 locs1 → H1.size = Γ.2.1 + n → wpI Γ sh w n 5 (fun x u => x = q.1 ∧ u = q.2) p l e s m args below meth c H1 locs1 (F0 m 31 ls1 []) := by
        intro x31_1 v31 h H1 locs1 ls hl hP hS hz
        unfold j_Days_followOrders_31 at h
        refine lv_iinc (k := 2) (v := (t4.2.1 + 1)) (lv' := [(2, .int (t4.2.1 + 1)), (0, .ref (Γ.2.1 + (k + 22))), (1, .int x31_1)]) hx hb dX0_followOrders_31 hl rfl rfl (by decide) rfl fun ls hl => ?_
        refine lv_goto (tgt := 4) hx hb dX0_followOrders_34 rfl ?_
        exact ih4 (x31_1, (t4.2.1 + 1), v31) h _ _ _ (lv_sub hl [1, 2, 0] rfl) hP hS hz
      refine lv_if_eq (tgt := 31) hx hb dX0_followOrders_20 rfl (fun hc20 => ?_) (fun hc20 => ?_)
      · have h := itt_e h hc20
        exact J31 t4.1 q17.2 h _ _ _ (lv_sub hl [0, 1, 2] rfl) hP hS hz
      · have h := itf_e h hc20
        refine lv_aload_n hx hb dX0_followOrders_23 rfl (lv_at hl 0 rfl) ?_
        refine lv_iload_n hx hb dX0_followOrders_24 rfl (lv_at hl 2 rfl) ?_
        obtain ⟨q25, e25, h⟩ := obn_e h
        refine z_Vv (k := (k + 22)) (v1 := q25) hx hb hml hts hown hK hP hS hz hE (c_Days_carryOut hk e25) kX0_carryOut mX0_61 hk.1 rfl rfl rfl hl.1 (Nat.le_of_ble_eq_true rfl) ⟨Nat.le_of_ble_eq_true rfl, Nat.le_of_ble_eq_true rfl⟩ ⟨Nat.le_refl _, Nat.le_refl _⟩ dX0_followOrders_25 fun H1 locs1 hz hP hS => ?_
        refine lv_iinc (k := 1) (v := (t4.1 + 1)) (lv' := [(1, .int (t4.1 + 1)), (0, .ref (Γ.2.1 + (k + 22))), (2, .int t4.2.1)]) hx hb dX0_followOrders_28 hl rfl rfl (by decide) rfl fun ls hl => ?_
        exact J31 (t4.1 + 1) q25 h _ _ _ (lv_sub hl [1, 0, 2] rfl) hP hS hz
  exact L4 z (0, 0, v) h _ _ _ (lv_sub hl [2, 1, 0] rfl) hP hS hz
def j_Days_goOn_48 (k : Nat) (K4 : (Int32 × Int32 × Va) → Option (Int32 × Va)) (t4 : Int32 × Int32 × Va) (q18 : Int32 × Va) (v48 : Va) : Option (Int32 × Va) := bnd (pu v48 k 1 ((v48 k 1) + 1)) fun v58 => K4 ((t4.1 + q18.1), (t4.2.1 + 1), v58)
def b_Days_goOn_4 (z : Nat) (k : Nat) (a1 : Int32) (K4 : (Int32 × Int32 × Va) → Option (Int32 × Va)) (t4 : Int32 × Int32 × Va) : Option (Int32 × Va) := if a1 ≤ t4.2.1 then (some (t4.1, t4.2.2)) else ((f_Stand_loseWeight z t4.2.2 k).bind fun q13 => (f_Days_followOrders z q13 k).bind fun q18 => if ((q18.2 k 1) - (q18.2 k 1) / 7 * 7) = 6 then ((f_Debts_growAll z q18.2 (k + 13)).bind fun q45 => j_Days_goOn_48 k K4 t4 q18 q45) else (j_Days_goOn_48 k K4 t4 q18 q18.2))
def f_Days_goOn (z : Nat) (v : Va) (k : Nat) (a1 : Int32) : Option (Int32 × Va) := rp (b_Days_goOn_4 z k a1) z (0, 0, v)
theorem c_Days_goOn {k : Nat} {a1 : Int32} (hk : isDays sh k) {q : Int32 × Va} (h : f_Days_goOn z v k a1 = some q) : MetI l yX0_goOn cX0_goOn 4 (some .int) 6 Γ sh v w n [.ref (Γ.2.1 + (k + 22)), .int a1] (fun x u => x = q.1 ∧ u = q.2) := by
  unfold f_Days_goOn at h
  refine w_start pn_X0 (Nat.le_of_ble_eq_true rfl) fun p e s m args below meth c hx hb hml hret hlk hnm hts hown hK hP hz hE hS ls hl => ?_
  refine lv_iconst (v := 0) hx hb dX0_goOn_0 rfl ?_
  refine lv_istore_n (lv' := [(2, .int 0), (0, .ref (Γ.2.1 + (k + 22))), (1, .int a1)]) hx hb dX0_goOn_1 rfl hl (by decide) rfl fun ls hl => ?_
  refine lv_iconst (v := 0) hx hb dX0_goOn_2 rfl ?_
  refine lv_istore_n (lv' := [(3, .int 0), (2, .int 0), (0, .ref (Γ.2.1 + (k + 22))), (1, .int a1)]) hx hb dX0_goOn_3 rfl hl (by decide) rfl fun ls hl => ?_
  have L4 : ∀ (fu : Nat) (t4 : Int32 × Int32 × Va), rp (b_Days_goOn_4 z k a1) fu t4 = some q → ∀ (H1 : Heap) (locs1 : List Loc) (ls1 : Array Slot), lv_has ls1 4 [(0, .ref (Γ.2.1 + (k + 22))), (1, .int a1), (2, .int t4.1), (3, .int t4.2.1)] → Wd Γ sh t4.2.2 w H1 → va_S (gA Γ sh n) s.heap H1 locs1 → H1.size = Γ.2.1 + n → wpI Γ sh w n 6 (fun x u => x = q.1 ∧ u = q.2) p l e s m args below meth c H1 locs1 (F0 m 4 ls1 []) := by
    refine q_loop (fun K4 ih4 t4 h H1 locs1 ls hl hP hS hz => ?_)
    unfold b_Days_goOn_4 at h
    refine lv_iload_n hx hb dX0_goOn_4 rfl (lv_at hl 3 rfl) ?_
    refine lv_iload_n hx hb dX0_goOn_5 rfl (lv_at hl 1 rfl) ?_
    refine lv_icmp_ge (tgt := 67) hx hb dX0_goOn_6 rfl (fun hc6 => ?_) (fun hc6 => ?_)
    · have h := itt_e h hc6
      refine lv_iload_n hx hb dX0_goOn_67 rfl (lv_at hl 2 rfl) ?_
      exact w_iret hx hb hret rfl hlk hK hP hS hz hE (q_p2 h) dX0_goOn_68
    · have h := itf_e h hc6
      refine lv_aload_n hx hb dX0_goOn_9 rfl (lv_at hl 0 rfl) ?_
      refine w_gr (k := (k + 22)) (r := k) hx hb hts hown hK hP fX0_13 hk.1 rfl dX0_goOn_10 ?_
      obtain ⟨q13, e13, h⟩ := obn_e h
      refine z_Vv (k := k) (v1 := q13) hx hb hml hts hown hK hP hS hz hE (c_Stand_loseWeight hk.2.2.1 e13) kX8_loseWeight mX0_32 hk.2.2.1.1 rfl rfl rfl hl.1 (Nat.le_of_ble_eq_true rfl) ⟨Nat.le_of_ble_eq_true rfl, Nat.le_of_ble_eq_true rfl⟩ ⟨Nat.le_refl _, Nat.le_refl _⟩ dX0_goOn_13 fun H1 locs1 hz hP hS => ?_
      refine lv_iload_n hx hb dX0_goOn_16 rfl (lv_at hl 2 rfl) ?_
      refine lv_aload_n hx hb dX0_goOn_17 rfl (lv_at hl 0 rfl) ?_
      obtain ⟨q18, e18, h⟩ := obn_e h
      refine z_Vi (k := (k + 22)) (r1 := q18.1) (v1 := q18.2) hx hb hml hts hown hK hP hS hz hE (c_Days_followOrders hk e18) kX0_followOrders mX0_37 hk.1 rfl rfl rfl hl.1 (Nat.le_of_ble_eq_true rfl) ⟨Nat.le_of_ble_eq_true rfl, Nat.le_of_ble_eq_true rfl⟩ ⟨Nat.le_refl _, Nat.le_refl _⟩ dX0_goOn_18 fun H1 locs1 hz hP hS => ?_
      refine lv_iadd hx hb dX0_goOn_21 ?_
      refine lv_istore_n (lv' := [(2, .int (t4.1 + q18.1)), (0, .ref (Γ.2.1 + (k + 22))), (1, .int a1), (3, .int t4.2.1)]) hx hb dX0_goOn_22 rfl hl (by decide) rfl fun ls hl => ?_
      refine lv_aload_n hx hb dX0_goOn_23 rfl (lv_at hl 1 rfl) ?_
      refine w_gr (k := (k + 22)) (r := k) hx hb hts hown hK hP fX0_13 hk.1 rfl dX0_goOn_24 ?_
      refine w_gi (k := k) hx hb hts hown hK hP fX0_41 hk.2.2.1.1 rfl dX0_goOn_27 ?_
      refine lv_bipush (v := 7) hx hb dX0_goOn_30 rfl ?_
      refine lv_irem hx hb dX0_goOn_32 (by decide) ?_
      refine lv_bipush (v := 6) hx hb dX0_goOn_33 rfl ?_
      have J48 : ∀ (v48 : Va), (j_Days_goOn_48 k K4 t4 q18) v48 = some q → ∀ (H1 : Heap) (locs1 : List Loc) (ls1 : Array Slot), lv_has ls1 4 [(0, .ref (Γ.2.1 + (k + 22))), (1, .int a1), (2, .int (t4.1 + q18.1)), (3, .int t4.2.1)] → Wd Γ sh v48 w H1 → va_S (gA Γ sh n) s.heap H1 locs1 → H1.size = Γ.2.1 + n → wpI Γ sh w n 6 (fun x u => x = q.1 ∧ u = q.2) p l e s m args below meth c H1 locs1 (F0 m 48 ls1 []) := by
        intro v48 h H1 locs1 ls hl hP hS hz
        unfold j_Days_goOn_48 at h
        refine lv_aload_n hx hb dX0_goOn_48 rfl (lv_at hl 0 rfl) ?_
        refine w_gr (k := (k + 22)) (r := k) hx hb hts hown hK hP fX0_13 hk.1 rfl dX0_goOn_49 ?_
        refine lv_dup hx hb dX0_goOn_52 rfl ?_
        refine w_gi (k := k) hx hb hts hown hK hP fX0_41 hk.2.2.1.1 rfl dX0_goOn_53 ?_
        refine lv_iconst (v := 1) hx hb dX0_goOn_56 rfl ?_
        refine lv_iadd hx hb dX0_goOn_57 ?_
        obtain ⟨v58, e58, h⟩ := bnd_e h
        refine w_pi2 (k := k) hx hb hts hown hK hP hS hz fX0_41 hk.2.2.1.1 rfl e58 dX0_goOn_58 fun H1 locs1 hz hP hS => ?_
        refine lv_iinc (k := 3) (v := (t4.2.1 + 1)) (lv' := [(3, .int (t4.2.1 + 1)), (0, .ref (Γ.2.1 + (k + 22))), (1, .int a1), (2, .int (t4.1 + q18.1))]) hx hb dX0_goOn_61 hl rfl rfl (by decide) rfl fun ls hl => ?_
        refine lv_goto (tgt := 4) hx hb dX0_goOn_64 rfl ?_
        exact ih4 ((t4.1 + q18.1), (t4.2.1 + 1), v58) h _ _ _ (lv_sub hl [1, 2, 3, 0] rfl) hP hS hz
      refine lv_icmp_ne (tgt := 48) hx hb dX0_goOn_35 rfl (fun hc35 => ?_) (fun hc35 => ?_)
      · have h := itf_e h hc35
        exact J48 q18.2 h _ _ _ (lv_sub hl [1, 2, 0, 3] rfl) hP hS hz
      · have h := itt_e h hc35
        refine lv_aload_n hx hb dX0_goOn_38 rfl (lv_at hl 1 rfl) ?_
        refine w_gr (k := (k + 22)) (r := k) hx hb hts hown hK hP fX0_13 hk.1 rfl dX0_goOn_39 ?_
        refine w_gr (k := k) (r := (k + 13)) hx hb hts hown hK hP fX0_45 hk.2.2.1.1 rfl dX0_goOn_42 ?_
        obtain ⟨q45, e45, h⟩ := obn_e h
        refine z_Vv (k := (k + 13)) (v1 := q45) hx hb hml hts hown hK hP hS hz hE (c_Debts_growAll hk.2.2.1.2.2.2.2.2.2.2.2.1 e45) kX1_growAll mX0_49 hk.2.2.1.2.2.2.2.2.2.2.2.1.1 rfl rfl rfl hl.1 (Nat.le_of_ble_eq_true rfl) ⟨Nat.le_of_ble_eq_true rfl, Nat.le_of_ble_eq_true rfl⟩ ⟨Nat.le_refl _, Nat.le_refl _⟩ dX0_goOn_45 fun H1 locs1 hz hP hS => ?_
        exact J48 q45 h _ _ _ (lv_sub hl [1, 2, 0, 3] rfl) hP hS hz
  exact L4 z (0, 0, v) h _ _ _ (lv_sub hl [2, 3, 1, 0] rfl) hP hS hz
end GE
