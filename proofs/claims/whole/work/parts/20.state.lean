
section GE
variable {l : Launch} {Γ : Cx} {sh : Sh} {v : Va} {w : Vl} {n z : Nat}
def f_State_copy (v : Va) (k : Nat) (ka1 : Nat) (Na1 : Nat) (ka2 : Nat) (Na2 : Nat) : Option Va := if (0 : Int32) < 0 ∨ (0 : Int32) < 0 ∨ (nI Na1) < 0 ∨ Na1 < (0 : Int32).toNatClampNeg + (nI Na1).toNatClampNeg ∨ Na2 < (0 : Int32).toNatClampNeg + (nI Na1).toNatClampNeg ∨ ka1 = ka2 then none else bnd (q_cpy v ka1 (0 : Int32) ka2 (0 : Int32) (nI Na1)) fun v6 => some v6
theorem c_State_copy {k : Nat} {ka1 : Nat} {Na1 : Nat} {ka2 : Nat} {Na2 : Nat} (hk : isState sh k) (ha1 : sh ka1 = some (sA Na1)) (ha2 : sh ka2 = some (sA Na2)) {q : Va} (h : f_State_copy v k ka1 Na1 ka2 Na2 = some q) : MetV l yX13_copy cX13_copy 3 none 1 Γ sh v w n [.ref (Γ.2.1 + k), .ref (Γ.2.1 + ka1), .ref (Γ.2.1 + ka2)] (fun u => u = q) := by
  unfold f_State_copy at h
  refine w_start pn_X13 (Nat.le_of_ble_eq_true rfl) fun p e s m args below meth c hx hb hml hret hlk hnm hts hown hK hP hz hE hS ls hl => ?_
  refine lv_aload_n hx hb dX13_copy_0 rfl (lv_at hl 1 rfl) ?_
  refine lv_iconst (v := 0) hx hb dX13_copy_1 rfl ?_
  refine lv_aload_n hx hb dX13_copy_2 rfl (lv_at hl 2 rfl) ?_
  refine lv_iconst (v := 0) hx hb dX13_copy_3 rfl ?_
  refine lv_aload_n hx hb dX13_copy_4 rfl (lv_at hl 1 rfl) ?_
  refine w_alen (k := ka1) hx hb hK hP ha1 dX13_copy_5 ?_
  obtain ⟨hn6, h⟩ := itn_e h
  obtain ⟨v6, e6, h⟩ := bnd_e h
  refine z_cpy hx hb hml hl.1 hts hown hK hP hS hz ha1 ha2 xX13_43 hn6 ⟨Nat.le_of_ble_eq_true rfl, Nat.le_of_ble_eq_true rfl⟩ (Nat.le_of_ble_eq_true rfl) ⟨Nat.le_refl _, Nat.le_refl _⟩ e6 dX13_copy_6 fun H1 locs1 hz hP hS => ?_
  exact w_vret hx hb hret hlk hK hP hS hz hE (Option.some.inj h) dX13_copy_9
def f_State_become (v : Va) (k : Nat) (k1 : Nat) : Option Va := bnd (pu v k 0 (v k1 0)) fun v5 => bnd (pu v5 k 1 (v5 k1 1)) fun v13 => bnd (pu v13 k 2 (v13 k1 2)) fun v21 => bnd (pu v21 k 3 (v21 k1 3)) fun v29 => bnd (pu v29 k 4 (v29 k1 4)) fun v37 => (f_State_copy v37 k (k1 + 1) 10 (k + 1) 10).bind fun q49 => (f_State_copy q49 k (k1 + 2) 10 (k + 2) 10).bind fun q61 => (f_State_copy q61 k (k1 + 3) 10 (k + 3) 10).bind fun q73 => (f_State_copy q73 k (k1 + 4) 10 (k + 4) 10).bind fun q85 => (f_State_copy q85 k (k1 + 5) 10 (k + 5) 10).bind fun q97 => (f_State_copy q97 k (k1 + 6) 6 (k + 6) 6).bind fun q109 => (f_State_copy q109 k (k1 + 7) 36 (k + 7) 36).bind fun q121 => (f_State_copy q121 k (k1 + 8) 4 (k + 8) 4).bind fun q133 => (f_State_copy q133 k (k1 + 9) 24 (k + 9) 24).bind fun q145 => some q145
theorem c_State_become {k : Nat} {k1 : Nat} (hk : isState sh k) (hk1 : isState sh k1) {q : Va} (h : f_State_become v k k1 = some q) : MetV l yX13_become cX13_become 2 none 2 Γ sh v w n [.ref (Γ.2.1 + k), .ref (Γ.2.1 + k1)] (fun u => u = q) := by
  unfold f_State_become at h
  refine w_start pn_X13 (Nat.le_of_ble_eq_true rfl) fun p e s m args below meth c hx hb hml hret hlk hnm hts hown hK hP hz hE hS ls hl => ?_
  refine lv_aload_n hx hb dX13_become_0 rfl (lv_at hl 0 rfl) ?_
  refine lv_aload_n hx hb dX13_become_1 rfl (lv_at hl 1 rfl) ?_
  refine w_gi (k := k1) hx hb hts hown hK hP fX13_49 hk1.1 rfl dX13_become_2 ?_
  obtain ⟨v5, e5, h⟩ := bnd_e h
  refine w_pi2 (k := k) hx hb hts hown hK hP hS hz fX13_49 hk.1 rfl e5 dX13_become_5 fun H1 locs1 hz hP hS => ?_
  refine lv_aload_n hx hb dX13_become_8 rfl (lv_at hl 0 rfl) ?_
  refine lv_aload_n hx hb dX13_become_9 rfl (lv_at hl 1 rfl) ?_
  refine w_gi (k := k1) hx hb hts hown hK hP fX13_9 hk1.1 rfl dX13_become_10 ?_
  obtain ⟨v13, e13, h⟩ := bnd_e h
  refine w_pi2 (k := k) hx hb hts hown hK hP hS hz fX13_9 hk.1 rfl e13 dX13_become_13 fun H1 locs1 hz hP hS => ?_
  refine lv_aload_n hx hb dX13_become_16 rfl (lv_at hl 0 rfl) ?_
  refine lv_aload_n hx hb dX13_become_17 rfl (lv_at hl 1 rfl) ?_
  refine w_gi (k := k1) hx hb hts hown hK hP fX13_52 hk1.1 rfl dX13_become_18 ?_
  obtain ⟨v21, e21, h⟩ := bnd_e h
  refine w_pi2 (k := k) hx hb hts hown hK hP hS hz fX13_52 hk.1 rfl e21 dX13_become_21 fun H1 locs1 hz hP hS => ?_
  refine lv_aload_n hx hb dX13_become_24 rfl (lv_at hl 0 rfl) ?_
  refine lv_aload_n hx hb dX13_become_25 rfl (lv_at hl 1 rfl) ?_
  refine w_gi (k := k1) hx hb hts hown hK hP fX13_55 hk1.1 rfl dX13_become_26 ?_
  obtain ⟨v29, e29, h⟩ := bnd_e h
  refine w_pi2 (k := k) hx hb hts hown hK hP hS hz fX13_55 hk.1 rfl e29 dX13_become_29 fun H1 locs1 hz hP hS => ?_
  refine lv_aload_n hx hb dX13_become_32 rfl (lv_at hl 0 rfl) ?_
  refine lv_aload_n hx hb dX13_become_33 rfl (lv_at hl 1 rfl) ?_
  refine w_gi (k := k1) hx hb hts hown hK hP fX13_58 hk1.1 rfl dX13_become_34 ?_
  obtain ⟨v37, e37, h⟩ := bnd_e h
  refine w_pi2 (k := k) hx hb hts hown hK hP hS hz fX13_58 hk.1 rfl e37 dX13_become_37 fun H1 locs1 hz hP hS => ?_
  refine lv_aload_n hx hb dX13_become_40 rfl (lv_at hl 0 rfl) ?_
  refine lv_aload_n hx hb dX13_become_41 rfl (lv_at hl 1 rfl) ?_
  refine w_gr (k := k1) (r := (k1 + 1)) hx hb hts hown hK hP fX13_15 hk1.1 rfl dX13_become_42 ?_
  refine lv_aload_n hx hb dX13_become_45 rfl (lv_at hl 0 rfl) ?_
  refine w_gr (k := k) (r := (k + 1)) hx hb hts hown hK hP fX13_15 hk.1 rfl dX13_become_46 ?_
  obtain ⟨q49, e49, h⟩ := obn_e h
  refine z_Vv (k := k) (v1 := q49) hx hb hml hts hown hK hP hS hz hE (c_State_copy hk hk1.2.1 hk.2.1 e49) kX13_copy mX13_61 hk.1 rfl rfl rfl hl.1 (Nat.le_of_ble_eq_true rfl) ⟨Nat.le_of_ble_eq_true rfl, Nat.le_of_ble_eq_true rfl⟩ ⟨Nat.le_refl _, Nat.le_refl _⟩ dX13_become_49 fun H1 locs1 hz hP hS => ?_
  refine lv_aload_n hx hb dX13_become_52 rfl (lv_at hl 0 rfl) ?_
  refine lv_aload_n hx hb dX13_become_53 rfl (lv_at hl 1 rfl) ?_
  refine w_gr (k := k1) (r := (k1 + 2)) hx hb hts hown hK hP fX13_19 hk1.1 rfl dX13_become_54 ?_
  refine lv_aload_n hx hb dX13_become_57 rfl (lv_at hl 0 rfl) ?_
  refine w_gr (k := k) (r := (k + 2)) hx hb hts hown hK hP fX13_19 hk.1 rfl dX13_become_58 ?_
  obtain ⟨q61, e61, h⟩ := obn_e h
  refine z_Vv (k := k) (v1 := q61) hx hb hml hts hown hK hP hS hz hE (c_State_copy hk hk1.2.2.1 hk.2.2.1 e61) kX13_copy mX13_61 hk.1 rfl rfl rfl hl.1 (Nat.le_of_ble_eq_true rfl) ⟨Nat.le_of_ble_eq_true rfl, Nat.le_of_ble_eq_true rfl⟩ ⟨Nat.le_refl _, Nat.le_refl _⟩ dX13_become_61 fun H1 locs1 hz hP hS => ?_
  refine lv_aload_n hx hb dX13_become_64 rfl (lv_at hl 0 rfl) ?_
  refine lv_aload_n hx hb dX13_become_65 rfl (lv_at hl 1 rfl) ?_
  refine w_gr (k := k1) (r := (k1 + 3)) hx hb hts hown hK hP fX13_22 hk1.1 rfl dX13_become_66 ?_
  refine lv_aload_n hx hb dX13_become_69 rfl (lv_at hl 0 rfl) ?_
  refine w_gr (k := k) (r := (k + 3)) hx hb hts hown hK hP fX13_22 hk.1 rfl dX13_become_70 ?_
  obtain ⟨q73, e73, h⟩ := obn_e h
  refine z_Vv (k := k) (v1 := q73) hx hb hml hts hown hK hP hS hz hE (c_State_copy hk hk1.2.2.2.1 hk.2.2.2.1 e73) kX13_copy mX13_61 hk.1 rfl rfl rfl hl.1 (Nat.le_of_ble_eq_true rfl) ⟨Nat.le_of_ble_eq_true rfl, Nat.le_of_ble_eq_true rfl⟩ ⟨Nat.le_refl _, Nat.le_refl _⟩ dX13_become_73 fun H1 locs1 hz hP hS => ?_
  refine lv_aload_n hx hb dX13_become_76 rfl (lv_at hl 0 rfl) ?_
  refine lv_aload_n hx hb dX13_become_77 rfl (lv_at hl 1 rfl) ?_
  refine w_gr (k := k1) (r := (k1 + 4)) hx hb hts hown hK hP fX13_25 hk1.1 rfl dX13_become_78 ?_
  refine lv_aload_n hx hb dX13_become_81 rfl (lv_at hl 0 rfl) ?_
  refine w_gr (k := k) (r := (k + 4)) hx hb hts hown hK hP fX13_25 hk.1 rfl dX13_become_82 ?_
  obtain ⟨q85, e85, h⟩ := obn_e h
  refine z_Vv (k := k) (v1 := q85) hx hb hml hts hown hK hP hS hz hE (c_State_copy hk hk1.2.2.2.2.1 hk.2.2.2.2.1 e85) kX13_copy mX13_61 hk.1 rfl rfl rfl hl.1 (Nat.le_of_ble_eq_true rfl) ⟨Nat.le_of_ble_eq_true rfl, Nat.le_of_ble_eq_true rfl⟩ ⟨Nat.le_refl _, Nat.le_refl _⟩ dX13_become_85 fun H1 locs1 hz hP hS => ?_
  refine lv_aload_n hx hb dX13_become_88 rfl (lv_at hl 0 rfl) ?_
  refine lv_aload_n hx hb dX13_become_89 rfl (lv_at hl 1 rfl) ?_
  refine w_gr (k := k1) (r := (k1 + 5)) hx hb hts hown hK hP fX13_28 hk1.1 rfl dX13_become_90 ?_
  refine lv_aload_n hx hb dX13_become_93 rfl (lv_at hl 0 rfl) ?_
  refine w_gr (k := k) (r := (k + 5)) hx hb hts hown hK hP fX13_28 hk.1 rfl dX13_become_94 ?_
  obtain ⟨q97, e97, h⟩ := obn_e h
  refine z_Vv (k := k) (v1 := q97) hx hb hml hts hown hK hP hS hz hE (c_State_copy hk hk1.2.2.2.2.2.1 hk.2.2.2.2.2.1 e97) kX13_copy mX13_61 hk.1 rfl rfl rfl hl.1 (Nat.le_of_ble_eq_true rfl) ⟨Nat.le_of_ble_eq_true rfl, Nat.le_of_ble_eq_true rfl⟩ ⟨Nat.le_refl _, Nat.le_refl _⟩ dX13_become_97 fun H1 locs1 hz hP hS => ?_
  refine lv_aload_n hx hb dX13_become_100 rfl (lv_at hl 0 rfl) ?_
  refine lv_aload_n hx hb dX13_become_101 rfl (lv_at hl 1 rfl) ?_
  refine w_gr (k := k1) (r := (k1 + 6)) hx hb hts hown hK hP fX13_31 hk1.1 rfl dX13_become_102 ?_
  refine lv_aload_n hx hb dX13_become_105 rfl (lv_at hl 0 rfl) ?_
  refine w_gr (k := k) (r := (k + 6)) hx hb hts hown hK hP fX13_31 hk.1 rfl dX13_become_106 ?_
  obtain ⟨q109, e109, h⟩ := obn_e h
  refine z_Vv (k := k) (v1 := q109) hx hb hml hts hown hK hP hS hz hE (c_State_copy hk hk1.2.2.2.2.2.2.1 hk.2.2.2.2.2.2.1 e109) kX13_copy mX13_61 hk.1 rfl rfl rfl hl.1 (Nat.le_of_ble_eq_true rfl) ⟨Nat.le_of_ble_eq_true rfl, Nat.le_of_ble_eq_true rfl⟩ ⟨Nat.le_refl _, Nat.le_refl _⟩ dX13_become_109 fun H1 locs1 hz hP hS => ?_
  refine lv_aload_n hx hb dX13_become_112 rfl (lv_at hl 0 rfl) ?_
  refine lv_aload_n hx hb dX13_become_113 rfl (lv_at hl 1 rfl) ?_
  refine w_gr (k := k1) (r := (k1 + 7)) hx hb hts hown hK hP fX13_34 hk1.1 rfl dX13_become_114 ?_
  refine lv_aload_n hx hb dX13_become_117 rfl (lv_at hl 0 rfl) ?_
  refine w_gr (k := k) (r := (k + 7)) hx hb hts hown hK hP fX13_34 hk.1 rfl dX13_become_118 ?_
  obtain ⟨q121, e121, h⟩ := obn_e h
  refine z_Vv (k := k) (v1 := q121) hx hb hml hts hown hK hP hS hz hE (c_State_copy hk hk1.2.2.2.2.2.2.2.1 hk.2.2.2.2.2.2.2.1 e121) kX13_copy mX13_61 hk.1 rfl rfl rfl hl.1 (Nat.le_of_ble_eq_true rfl) ⟨Nat.le_of_ble_eq_true rfl, Nat.le_of_ble_eq_true rfl⟩ ⟨Nat.le_refl _, Nat.le_refl _⟩ dX13_become_121 fun H1 locs1 hz hP hS => ?_
  refine lv_aload_n hx hb dX13_become_124 rfl (lv_at hl 0 rfl) ?_
  refine lv_aload_n hx hb dX13_become_125 rfl (lv_at hl 1 rfl) ?_
  refine w_gr (k := k1) (r := (k1 + 8)) hx hb hts hown hK hP fX13_37 hk1.1 rfl dX13_become_126 ?_
  refine lv_aload_n hx hb dX13_become_129 rfl (lv_at hl 0 rfl) ?_
  refine w_gr (k := k) (r := (k + 8)) hx hb hts hown hK hP fX13_37 hk.1 rfl dX13_become_130 ?_
  obtain ⟨q133, e133, h⟩ := obn_e h
  refine z_Vv (k := k) (v1 := q133) hx hb hml hts hown hK hP hS hz hE (c_State_copy hk hk1.2.2.2.2.2.2.2.2.1 hk.2.2.2.2.2.2.2.2.1 e133) kX13_copy mX13_61 hk.1 rfl rfl rfl hl.1 (Nat.le_of_ble_eq_true rfl) ⟨Nat.le_of_ble_eq_true rfl, Nat.le_of_ble_eq_true rfl⟩ ⟨Nat.le_refl _, Nat.le_refl _⟩ dX13_become_133 fun H1 locs1 hz hP hS => ?_
  refine lv_aload_n hx hb dX13_become_136 rfl (lv_at hl 0 rfl) ?_
  refine lv_aload_n hx hb dX13_become_137 rfl (lv_at hl 1 rfl) ?_
  refine w_gr (k := k1) (r := (k1 + 9)) hx hb hts hown hK hP fX13_40 hk1.1 rfl dX13_become_138 ?_
  refine lv_aload_n hx hb dX13_become_141 rfl (lv_at hl 0 rfl) ?_
  refine w_gr (k := k) (r := (k + 9)) hx hb hts hown hK hP fX13_40 hk.1 rfl dX13_become_142 ?_
  obtain ⟨q145, e145, h⟩ := obn_e h
  refine z_Vv (k := k) (v1 := q145) hx hb hml hts hown hK hP hS hz hE (c_State_copy hk hk1.2.2.2.2.2.2.2.2.2.1 hk.2.2.2.2.2.2.2.2.2.1 e145) kX13_copy mX13_61 hk.1 rfl rfl rfl hl.1 (Nat.le_of_ble_eq_true rfl) ⟨Nat.le_of_ble_eq_true rfl, Nat.le_of_ble_eq_true rfl⟩ ⟨Nat.le_refl _, Nat.le_refl _⟩ dX13_become_145 fun H1 locs1 hz hP hS => ?_
  exact w_vret hx hb hret hlk hK hP hS hz hE (Option.some.inj h) dX13_become_148
def f_State_owes (v : Va) (k : Nat) (a1 : Int32) (a2 : Int32) : Option Int32 := if ((6 * a1) + a2) < 0 ∨ 36 ≤ ((6 * a1) + a2).toNatClampNeg then none else some (v (k + 7) ((6 * a1) + a2).toNatClampNeg)
theorem c_State_owes {k : Nat} {a1 : Int32} {a2 : Int32} (hk : isState sh k) {q : Int32} (h : f_State_owes v k a1 a2 = some q) : MetI l yX13_owes cX13_owes 3 (some .int) 0 Γ sh v w n [.ref (Γ.2.1 + k), .int a1, .int a2] (fun x u => x = q ∧ u = v) := by
  unfold f_State_owes at h
  refine w_start pn_X13 (Nat.le_of_ble_eq_true rfl) fun p e s m args below meth c hx hb hml hret hlk hnm hts hown hK hP hz hE hS ls hl => ?_
  refine lv_aload_n hx hb dX13_owes_0 rfl (lv_at hl 0 rfl) ?_
  refine w_gr (k := k) (r := (k + 7)) hx hb hts hown hK hP fX13_34 hk.1 rfl dX13_owes_1 ?_
  refine lv_bipush (v := 6) hx hb dX13_owes_4 rfl ?_
  refine lv_iload_n hx hb dX13_owes_6 rfl (lv_at hl 1 rfl) ?_
  refine lv_imul hx hb dX13_owes_7 ?_
  refine lv_iload_n hx hb dX13_owes_8 rfl (lv_at hl 2 rfl) ?_
  refine lv_iadd hx hb dX13_owes_9 ?_
  obtain ⟨hn10, h⟩ := itn_e h
  refine w_iald (k := (k + 7)) hx hb hK hP hk.2.2.2.2.2.2.2.1 hn10 dX13_owes_10 ?_
  exact w_iret hx hb hret rfl hlk hK hP hS hz hE (q_p1 h) dX13_owes_11
def b_State_debts_4 (v : Va) (k : Nat) (a1 : Int32) (K4 : (Int32 × Int32) → Option Int32) (t4 : Int32 × Int32) : Option Int32 := if 6 ≤ t4.2 then (some t4.1) else ((f_State_owes v k a1 t4.2).bind fun q14 => K4 ((t4.1 + q14), (t4.2 + 1)))
def f_State_debts (z : Nat) (v : Va) (k : Nat) (a1 : Int32) : Option Int32 := rp (b_State_debts_4 v k a1) z (0, 0)
theorem c_State_debts {k : Nat} {a1 : Int32} (hk : isState sh k) {q : Int32} (h : f_State_debts z v k a1 = some q) : MetI l yX13_debts cX13_debts 4 (some .int) 1 Γ sh v w n [.ref (Γ.2.1 + k), .int a1] (fun x u => x = q ∧ u = v) := by
  unfold f_State_debts at h
  refine w_start pn_X13 (Nat.le_of_ble_eq_true rfl) fun p e s m args below meth c hx hb hml hret hlk hnm hts hown hK hP hz hE hS ls hl => ?_
  refine lv_iconst (v := 0) hx hb dX13_debts_0 rfl ?_
  refine lv_istore_n (lv' := [(2, .int 0), (0, .ref (Γ.2.1 + k)), (1, .int a1)]) hx hb dX13_debts_1 rfl hl (by decide) rfl fun ls hl => ?_
  refine lv_iconst (v := 0) hx hb dX13_debts_2 rfl ?_
  refine lv_istore_n (lv' := [(3, .int 0), (2, .int 0), (0, .ref (Γ.2.1 + k)), (1, .int a1)]) hx hb dX13_debts_3 rfl hl (by decide) rfl fun ls hl => ?_
  have L4 : ∀ (fu : Nat) (t4 : Int32 × Int32), rp (b_State_debts_4 v k a1) fu t4 = some q → ∀ (H1 : Heap) (locs1 : List Loc) (ls1 : Array Slot), lv_has ls1 4 [(0, .ref (Γ.2.1 + k)), (1, .int a1), (2, .int t4.1), (3, .int t4.2)] → Wd Γ sh v w H1 → va_S (gA Γ) s.heap H1 locs1 → H1.size = Γ.2.1 + n → wpI Γ sh w n 1 (fun x u => x = q ∧ u = v) p l e s m args below meth c H1 locs1 (F0 m 4 ls1 []) := by
    refine q_loop (fun K4 ih4 t4 h H1 locs1 ls hl hP hS hz => ?_)
    unfold b_State_debts_4 at h
    refine lv_iload_n hx hb dX13_debts_4 rfl (lv_at hl 3 rfl) ?_
    refine lv_bipush (v := 6) hx hb dX13_debts_5 rfl ?_
    refine lv_icmp_ge (tgt := 25) hx hb dX13_debts_7 rfl (fun hc7 => ?_) (fun hc7 => ?_)
    · have h := itt_e h hc7
      refine lv_iload_n hx hb dX13_debts_25 rfl (lv_at hl 2 rfl) ?_
      exact w_iret hx hb hret rfl hlk hK hP hS hz hE (q_p1 h) dX13_debts_26
    · have h := itf_e h hc7
      refine lv_iload_n hx hb dX13_debts_10 rfl (lv_at hl 2 rfl) ?_
      refine lv_aload_n hx hb dX13_debts_11 rfl (lv_at hl 0 rfl) ?_
      refine lv_iload_n hx hb dX13_debts_12 rfl (lv_at hl 1 rfl) ?_
      refine lv_iload_n hx hb dX13_debts_13 rfl (lv_at hl 3 rfl) ?_
      obtain ⟨q14, e14, h⟩ := obn_e h
      refine z_Vi (k := k) (r1 := q14) (v1 := v) hx hb hml hts hown hK hP hS hz hE (c_State_owes hk e14) kX13_owes mX13_65 hk.1 rfl rfl rfl hl.1 (Nat.le_of_ble_eq_true rfl) ⟨Nat.le_of_ble_eq_true rfl, Nat.le_of_ble_eq_true rfl⟩ ⟨Nat.le_refl _, Nat.le_refl _⟩ dX13_debts_14 fun H1 locs1 hz hP hS => ?_
      refine lv_iadd hx hb dX13_debts_17 ?_
      refine lv_istore_n (lv' := [(2, .int (t4.1 + q14)), (0, .ref (Γ.2.1 + k)), (1, .int a1), (3, .int t4.2)]) hx hb dX13_debts_18 rfl hl (by decide) rfl fun ls hl => ?_
      refine lv_iinc (k := 3) (v := (t4.2 + 1)) (lv' := [(3, .int (t4.2 + 1)), (2, .int (t4.1 + q14)), (0, .ref (Γ.2.1 + k)), (1, .int a1)]) hx hb dX13_debts_19 hl rfl rfl (by decide) rfl fun ls hl => ?_
      refine lv_goto (tgt := 4) hx hb dX13_debts_22 rfl ?_
      exact ih4 ((t4.1 + q14), (t4.2 + 1)) h _ _ _ (lv_sub hl [2, 3, 1, 0] rfl) hP hS hz
  exact L4 z (0, 0) h _ _ _ (lv_sub hl [2, 3, 1, 0] rfl) hP hS hz
def b_State_owed_4 (v : Va) (k : Nat) (a1 : Int32) (K4 : (Int32 × Int32) → Option Int32) (t4 : Int32 × Int32) : Option Int32 := if 6 ≤ t4.2 then (some t4.1) else ((f_State_owes v k t4.2 a1).bind fun q14 => K4 ((t4.1 + q14), (t4.2 + 1)))
def f_State_owed (z : Nat) (v : Va) (k : Nat) (a1 : Int32) : Option Int32 := rp (b_State_owed_4 v k a1) z (0, 0)
theorem c_State_owed {k : Nat} {a1 : Int32} (hk : isState sh k) {q : Int32} (h : f_State_owed z v k a1 = some q) : MetI l yX13_owed cX13_owed 4 (some .int) 1 Γ sh v w n [.ref (Γ.2.1 + k), .int a1] (fun x u => x = q ∧ u = v) := by
  unfold f_State_owed at h
  refine w_start pn_X13 (Nat.le_of_ble_eq_true rfl) fun p e s m args below meth c hx hb hml hret hlk hnm hts hown hK hP hz hE hS ls hl => ?_
  refine lv_iconst (v := 0) hx hb dX13_owed_0 rfl ?_
  refine lv_istore_n (lv' := [(2, .int 0), (0, .ref (Γ.2.1 + k)), (1, .int a1)]) hx hb dX13_owed_1 rfl hl (by decide) rfl fun ls hl => ?_
  refine lv_iconst (v := 0) hx hb dX13_owed_2 rfl ?_
  refine lv_istore_n (lv' := [(3, .int 0), (2, .int 0), (0, .ref (Γ.2.1 + k)), (1, .int a1)]) hx hb dX13_owed_3 rfl hl (by decide) rfl fun ls hl => ?_
  have L4 : ∀ (fu : Nat) (t4 : Int32 × Int32), rp (b_State_owed_4 v k a1) fu t4 = some q → ∀ (H1 : Heap) (locs1 : List Loc) (ls1 : Array Slot), lv_has ls1 4 [(0, .ref (Γ.2.1 + k)), (1, .int a1), (2, .int t4.1), (3, .int t4.2)] → Wd Γ sh v w H1 → va_S (gA Γ) s.heap H1 locs1 → H1.size = Γ.2.1 + n → wpI Γ sh w n 1 (fun x u => x = q ∧ u = v) p l e s m args below meth c H1 locs1 (F0 m 4 ls1 []) := by
    refine q_loop (fun K4 ih4 t4 h H1 locs1 ls hl hP hS hz => ?_)
    unfold b_State_owed_4 at h
    refine lv_iload_n hx hb dX13_owed_4 rfl (lv_at hl 3 rfl) ?_
    refine lv_bipush (v := 6) hx hb dX13_owed_5 rfl ?_
    refine lv_icmp_ge (tgt := 25) hx hb dX13_owed_7 rfl (fun hc7 => ?_) (fun hc7 => ?_)
    · have h := itt_e h hc7
      refine lv_iload_n hx hb dX13_owed_25 rfl (lv_at hl 2 rfl) ?_
      exact w_iret hx hb hret rfl hlk hK hP hS hz hE (q_p1 h) dX13_owed_26
    · have h := itf_e h hc7
      refine lv_iload_n hx hb dX13_owed_10 rfl (lv_at hl 2 rfl) ?_
      refine lv_aload_n hx hb dX13_owed_11 rfl (lv_at hl 0 rfl) ?_
      refine lv_iload_n hx hb dX13_owed_12 rfl (lv_at hl 3 rfl) ?_
      refine lv_iload_n hx hb dX13_owed_13 rfl (lv_at hl 1 rfl) ?_
      obtain ⟨q14, e14, h⟩ := obn_e h
      refine z_Vi (k := k) (r1 := q14) (v1 := v) hx hb hml hts hown hK hP hS hz hE (c_State_owes hk e14) kX13_owes mX13_65 hk.1 rfl rfl rfl hl.1 (Nat.le_of_ble_eq_true rfl) ⟨Nat.le_of_ble_eq_true rfl, Nat.le_of_ble_eq_true rfl⟩ ⟨Nat.le_refl _, Nat.le_refl _⟩ dX13_owed_14 fun H1 locs1 hz hP hS => ?_
      refine lv_iadd hx hb dX13_owed_17 ?_
      refine lv_istore_n (lv' := [(2, .int (t4.1 + q14)), (0, .ref (Γ.2.1 + k)), (1, .int a1), (3, .int t4.2)]) hx hb dX13_owed_18 rfl hl (by decide) rfl fun ls hl => ?_
      refine lv_iinc (k := 3) (v := (t4.2 + 1)) (lv' := [(3, .int (t4.2 + 1)), (2, .int (t4.1 + q14)), (0, .ref (Γ.2.1 + k)), (1, .int a1)]) hx hb dX13_owed_19 hl rfl rfl (by decide) rfl fun ls hl => ?_
      refine lv_goto (tgt := 4) hx hb dX13_owed_22 rfl ?_
      exact ih4 ((t4.1 + q14), (t4.2 + 1)) h _ _ _ (lv_sub hl [2, 3, 1, 0] rfl) hP hS hz
  exact L4 z (0, 0) h _ _ _ (lv_sub hl [2, 3, 1, 0] rfl) hP hS hz
def f_State_age (v : Va) (k : Nat) (a1 : Int32) : Option Int32 := if a1 < 0 ∨ 10 ≤ a1.toNatClampNeg then none else if (v (k + 3) a1.toNatClampNeg) = (-1) then (some 0) else (if a1 < 0 ∨ 10 ≤ a1.toNatClampNeg then none else some ((v k 0) - (v (k + 5) a1.toNatClampNeg)))
theorem c_State_age {k : Nat} {a1 : Int32} (hk : isState sh k) {q : Int32} (h : f_State_age v k a1 = some q) : MetI l yX13_age cX13_age 2 (some .int) 0 Γ sh v w n [.ref (Γ.2.1 + k), .int a1] (fun x u => x = q ∧ u = v) := by
  unfold f_State_age at h
  refine w_start pn_X13 (Nat.le_of_ble_eq_true rfl) fun p e s m args below meth c hx hb hml hret hlk hnm hts hown hK hP hz hE hS ls hl => ?_
  refine lv_aload_n hx hb dX13_age_0 rfl (lv_at hl 0 rfl) ?_
  refine w_gr (k := k) (r := (k + 3)) hx hb hts hown hK hP fX13_22 hk.1 rfl dX13_age_1 ?_
  refine lv_iload_n hx hb dX13_age_4 rfl (lv_at hl 1 rfl) ?_
  obtain ⟨hn5, h⟩ := itn_e h
  refine w_iald (k := (k + 3)) hx hb hK hP hk.2.2.2.1 hn5 dX13_age_5 ?_
  refine lv_iconst (v := (-1)) hx hb dX13_age_6 rfl ?_
  refine lv_icmp_ne (tgt := 14) hx hb dX13_age_7 rfl (fun hc7 => ?_) (fun hc7 => ?_)
  · have h := itf_e h hc7
    refine lv_aload_n hx hb dX13_age_14 rfl (lv_at hl 0 rfl) ?_
    refine w_gi (k := k) hx hb hts hown hK hP fX13_49 hk.1 rfl dX13_age_15 ?_
    refine lv_aload_n hx hb dX13_age_18 rfl (lv_at hl 0 rfl) ?_
    refine w_gr (k := k) (r := (k + 5)) hx hb hts hown hK hP fX13_28 hk.1 rfl dX13_age_19 ?_
    refine lv_iload_n hx hb dX13_age_22 rfl (lv_at hl 1 rfl) ?_
    obtain ⟨hn23, h⟩ := itn_e h
    refine w_iald (k := (k + 5)) hx hb hK hP hk.2.2.2.2.2.1 hn23 dX13_age_23 ?_
    refine lv_isub hx hb dX13_age_24 ?_
    exact w_iret hx hb hret rfl hlk hK hP hS hz hE (q_p1 h) dX13_age_25
  · have h := itt_e h hc7
    refine lv_iconst (v := 0) hx hb dX13_age_10 rfl ?_
    refine lv_goto (tgt := 25) hx hb dX13_age_11 rfl ?_
    exact w_iret hx hb hret rfl hlk hK hP hS hz hE (q_p1 h) dX13_age_25
def f_State_isFresh (v : Va) (k : Nat) (a1 : Int32) : Option Bool := if a1 < 0 ∨ 10 ≤ a1.toNatClampNeg then none else if (v (k + 3) a1.toNatClampNeg) = (-1) then (some false) else (if a1 < 0 ∨ 10 ≤ a1.toNatClampNeg then none else if 5 < ((v k 0) - (v (k + 5) a1.toNatClampNeg)) then (some false) else (some true))
theorem c_State_isFresh {k : Nat} {a1 : Int32} (hk : isState sh k) {q : Bool} (h : f_State_isFresh v k a1 = some q) : MetI l yX13_isFresh cX13_isFresh 2 (some .boolean) 0 Γ sh v w n [.ref (Γ.2.1 + k), .int a1] (fun x u => x = q_b q ∧ u = v) := by
  unfold f_State_isFresh at h
  refine w_start pn_X13 (Nat.le_of_ble_eq_true rfl) fun p e s m args below meth c hx hb hml hret hlk hnm hts hown hK hP hz hE hS ls hl => ?_
  refine lv_aload_n hx hb dX13_isFresh_0 rfl (lv_at hl 0 rfl) ?_
  refine w_gr (k := k) (r := (k + 3)) hx hb hts hown hK hP fX13_22 hk.1 rfl dX13_isFresh_1 ?_
  refine lv_iload_n hx hb dX13_isFresh_4 rfl (lv_at hl 1 rfl) ?_
  obtain ⟨hn5, h⟩ := itn_e h
  refine w_iald (k := (k + 3)) hx hb hK hP hk.2.2.2.1 hn5 dX13_isFresh_5 ?_
  refine lv_iconst (v := (-1)) hx hb dX13_isFresh_6 rfl ?_
  refine lv_icmp_eq (tgt := 29) hx hb dX13_isFresh_7 rfl (fun hc7 => ?_) (fun hc7 => ?_)
  · have h := itt_e h hc7
    refine lv_iconst (v := 0) hx hb dX13_isFresh_29 rfl ?_
    exact w_iret hx hb hret rfl hlk hK hP hS hz hE (q_p1b h) dX13_isFresh_30
  · have h := itf_e h hc7
    refine lv_aload_n hx hb dX13_isFresh_10 rfl (lv_at hl 0 rfl) ?_
    refine w_gi (k := k) hx hb hts hown hK hP fX13_49 hk.1 rfl dX13_isFresh_11 ?_
    refine lv_aload_n hx hb dX13_isFresh_14 rfl (lv_at hl 0 rfl) ?_
    refine w_gr (k := k) (r := (k + 5)) hx hb hts hown hK hP fX13_28 hk.1 rfl dX13_isFresh_15 ?_
    refine lv_iload_n hx hb dX13_isFresh_18 rfl (lv_at hl 1 rfl) ?_
    obtain ⟨hn19, h⟩ := itn_e h
    refine w_iald (k := (k + 5)) hx hb hK hP hk.2.2.2.2.2.1 hn19 dX13_isFresh_19 ?_
    refine lv_isub hx hb dX13_isFresh_20 ?_
    refine lv_iconst (v := 5) hx hb dX13_isFresh_21 rfl ?_
    refine lv_icmp_gt (tgt := 29) hx hb dX13_isFresh_22 rfl (fun hc22 => ?_) (fun hc22 => ?_)
    · have h := itt_e h hc22
      refine lv_iconst (v := 0) hx hb dX13_isFresh_29 rfl ?_
      exact w_iret hx hb hret rfl hlk hK hP hS hz hE (q_p1b h) dX13_isFresh_30
    · have h := itf_e h hc22
      refine lv_iconst (v := 1) hx hb dX13_isFresh_25 rfl ?_
      refine lv_goto (tgt := 30) hx hb dX13_isFresh_26 rfl ?_
      exact w_iret hx hb hret rfl hlk hK hP hS hz hE (q_p1b h) dX13_isFresh_30
end GE
