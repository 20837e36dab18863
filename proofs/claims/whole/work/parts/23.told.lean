
section GE
variable {l : Launch} {Γ : Cx} {sh : Sh} {v : Va} {w : Vl} {n z : Nat}
def f_Model_thrown (v : Va) (sp : Nat) : Option Int32 := some (v 149 0)
theorem c_Model_thrown {sp : Nat} (hk : isModel sh sp) {q : Int32} (h : f_Model_thrown v sp = some q) : MetI l yX14_thrown cX14_thrown 1 (some .int) 0 Γ sh v w n [.ref (Γ.2.1 + 149)] (fun x u => x = q ∧ u = v) := by
  unfold f_Model_thrown at h
  refine w_start pn_X14 (Nat.le_of_ble_eq_true rfl) fun p e s m args below meth c hx hb hml hret hlk hnm hts hown hK hP hz hE hS ls hl => ?_
  refine lv_aload_n hx hb dX14_thrown_0 rfl (lv_at hl 0 rfl) ?_
  refine w_gi (k := 149) hx hb hts hown hK hP fX14_40 hk.1 rfl dX14_thrown_1 ?_
  exact w_iret hx hb hret rfl hlk hK hP hS hz hE (q_p1 h) dX14_thrown_4
def f_Model_holds (z : Nat) (v : Va) (sp : Nat) (k1 : Nat) (a2 : Int32) : Option (Bool × Va) := bnd (pu v 149 11 (nI k1)) fun v2 => if a2 < 0 ∨ 24 ≤ a2.toNatClampNeg then none else bnd (pu v2 149 10 (v2 (sp + 21) a2.toNatClampNeg)) fun v15 => if (v15 149 10) = (-1) then (some (true, v15)) else (((g_Ev z sp k1 48).1 0 [] v15).bind fun q27 => if (q_b q27.1) = 0 then (some (false, q27.2)) else (some (true, q27.2)))
theorem c_Model_holds {sp : Nat} {k1 : Nat} {a2 : Int32} (hk : isModel sh sp) (hk1 : isState sh k1) {q : Bool × Va} (h : f_Model_holds z v sp k1 a2 = some q) : MetI l yX14_holds cX14_holds 3 (some .boolean) 52 Γ sh v w n [.ref (Γ.2.1 + 149), .ref (Γ.2.1 + k1), .int a2] (fun x u => x = q_b q.1 ∧ u = q.2) := by
  unfold f_Model_holds at h
  refine w_start pn_X14 (Nat.le_of_ble_eq_true rfl) fun p e s m args below meth c hx hb hml hret hlk hnm hts hown hK hP hz hE hS ls hl => ?_
  refine lv_aload_n hx hb dX14_holds_0 rfl (lv_at hl 0 rfl) ?_
  refine lv_aload_n hx hb dX14_holds_1 rfl (lv_at hl 1 rfl) ?_
  obtain ⟨v2, e2, h⟩ := bnd_e h
  refine w_pd2 (k := 149) (r := k1) hx hb hts hown hK hP hS hz fX14_37 hk.1 rfl hk1.2.2.2.2.2.2.2.2.2.2 e2 dX14_holds_2 fun H1 locs1 hz hP hS => ?_
  refine lv_aload_n hx hb dX14_holds_5 rfl (lv_at hl 0 rfl) ?_
  refine lv_aload_n hx hb dX14_holds_6 rfl (lv_at hl 0 rfl) ?_
  refine w_gr (k := 149) (r := sp) hx hb hts hown hK hP fX14_20 hk.1 rfl dX14_holds_7 ?_
  refine w_gr (k := sp) (r := (sp + 21)) hx hb hts hown hK hP fX14_245 hk.2.2.1.1 rfl dX14_holds_10 ?_
  refine lv_iload_n hx hb dX14_holds_13 rfl (lv_at hl 2 rfl) ?_
  obtain ⟨hn14, h⟩ := itn_e h
  refine w_iald (k := (sp + 21)) hx hb hK hP hk.2.2.1.2.2.2.2.2.2.2.2.2.2.2.2.2.2.2.2.2.2.2.2.2 hn14 dX14_holds_14 ?_
  obtain ⟨v15, e15, h⟩ := bnd_e h
  refine w_pi2 (k := 149) hx hb hts hown hK hP hS hz fX14_267 hk.1 rfl e15 dX14_holds_15 fun H1 locs1 hz hP hS => ?_
  refine lv_aload_n hx hb dX14_holds_18 rfl (lv_at hl 0 rfl) ?_
  refine w_gi (k := 149) hx hb hts hown hK hP fX14_267 hk.1 rfl dX14_holds_19 ?_
  refine lv_iconst (v := (-1)) hx hb dX14_holds_22 rfl ?_
  refine lv_icmp_eq (tgt := 33) hx hb dX14_holds_23 rfl (fun hc23 => ?_) (fun hc23 => ?_)
  · have h := itt_e h hc23
    refine lv_iconst (v := 1) hx hb dX14_holds_33 rfl ?_
    refine lv_goto (tgt := 38) hx hb dX14_holds_34 rfl ?_
    exact w_iret hx hb hret rfl hlk hK hP hS hz hE (q_p2b h) dX14_holds_38
  · have h := itf_e h hc23
    refine lv_aload_n hx hb dX14_holds_26 rfl (lv_at hl 0 rfl) ?_
    obtain ⟨q27, e27, h⟩ := obn_e h
    refine z_Vi (k := 149) (r1 := (q_b q27.1)) (v1 := q27.2) hx hb hml hts hown hK hP hS hz hE ((cg_Ev (z := z) hk hk1 48).1 _ _ e27) kX14_test mX14_280 hk.1 rfl rfl rfl hl.1 (Nat.le_of_ble_eq_true rfl) ⟨Nat.le_of_ble_eq_true rfl, Nat.le_of_ble_eq_true rfl⟩ ⟨Nat.le_refl _, Nat.le_refl _⟩ dX14_holds_27 fun H1 locs1 hz hP hS => ?_
    refine lv_if_eq (tgt := 37) hx hb dX14_holds_30 rfl (fun hc30 => ?_) (fun hc30 => ?_)
    · have h := itt_e h hc30
      refine lv_iconst (v := 0) hx hb dX14_holds_37 rfl ?_
      exact w_iret hx hb hret rfl hlk hK hP hS hz hE (q_p2b h) dX14_holds_38
    · have h := itf_e h hc30
      refine lv_iconst (v := 1) hx hb dX14_holds_33 rfl ?_
      refine lv_goto (tgt := 38) hx hb dX14_holds_34 rfl ?_
      exact w_iret hx hb hret rfl hlk hK hP hS hz hE (q_p2b h) dX14_holds_38
def f_Model_sumOf (z : Nat) (v : Va) (sp : Nat) (k1 : Nat) (a2 : Int32) : Option (Int32 × Va) := bnd (pu v 149 11 (nI k1)) fun v2 => if a2 < 0 ∨ 24 ≤ a2.toNatClampNeg then none else bnd (pu v2 149 10 (v2 (sp + 20) a2.toNatClampNeg)) fun v15 => ((g_Ev z sp k1 48).2 3 [] v15).bind fun q19 => some (q19.1, q19.2)
theorem c_Model_sumOf {sp : Nat} {k1 : Nat} {a2 : Int32} (hk : isModel sh sp) (hk1 : isState sh k1) {q : Int32 × Va} (h : f_Model_sumOf z v sp k1 a2 = some q) : MetI l yX14_sumOf cX14_sumOf 3 (some .int) 52 Γ sh v w n [.ref (Γ.2.1 + 149), .ref (Γ.2.1 + k1), .int a2] (fun x u => x = q.1 ∧ u = q.2) := by
  unfold f_Model_sumOf at h
  refine w_start pn_X14 (Nat.le_of_ble_eq_true rfl) fun p e s m args below meth c hx hb hml hret hlk hnm hts hown hK hP hz hE hS ls hl => ?_
  refine lv_aload_n hx hb dX14_sumOf_0 rfl (lv_at hl 0 rfl) ?_
  refine lv_aload_n hx hb dX14_sumOf_1 rfl (lv_at hl 1 rfl) ?_
  obtain ⟨v2, e2, h⟩ := bnd_e h
  refine w_pd2 (k := 149) (r := k1) hx hb hts hown hK hP hS hz fX14_37 hk.1 rfl hk1.2.2.2.2.2.2.2.2.2.2 e2 dX14_sumOf_2 fun H1 locs1 hz hP hS => ?_
  refine lv_aload_n hx hb dX14_sumOf_5 rfl (lv_at hl 0 rfl) ?_
  refine lv_aload_n hx hb dX14_sumOf_6 rfl (lv_at hl 0 rfl) ?_
  refine w_gr (k := 149) (r := sp) hx hb hts hown hK hP fX14_20 hk.1 rfl dX14_sumOf_7 ?_
  refine w_gr (k := sp) (r := (sp + 20)) hx hb hts hown hK hP fX14_242 hk.2.2.1.1 rfl dX14_sumOf_10 ?_
  refine lv_iload_n hx hb dX14_sumOf_13 rfl (lv_at hl 2 rfl) ?_
  obtain ⟨hn14, h⟩ := itn_e h
  refine w_iald (k := (sp + 20)) hx hb hK hP hk.2.2.1.2.2.2.2.2.2.2.2.2.2.2.2.2.2.2.2.2.2.2.2.1 hn14 dX14_sumOf_14 ?_
  obtain ⟨v15, e15, h⟩ := bnd_e h
  refine w_pi2 (k := 149) hx hb hts hown hK hP hS hz fX14_267 hk.1 rfl e15 dX14_sumOf_15 fun H1 locs1 hz hP hS => ?_
  refine lv_aload_n hx hb dX14_sumOf_18 rfl (lv_at hl 0 rfl) ?_
  obtain ⟨q19, e19, h⟩ := obn_e h
  refine z_Vi (k := 149) (r1 := q19.1) (v1 := q19.2) hx hb hml hts hown hK hP hS hz hE ((cg_Ev (z := z) hk hk1 48).2.2.2.1 _ _ e19) kX14_sum mX14_284 hk.1 rfl rfl rfl hl.1 (Nat.le_of_ble_eq_true rfl) ⟨Nat.le_of_ble_eq_true rfl, Nat.le_of_ble_eq_true rfl⟩ ⟨Nat.le_refl _, Nat.le_refl _⟩ dX14_sumOf_19 fun H1 locs1 hz hP hS => ?_
  exact w_iret hx hb hret rfl hlk hK hP hS hz hE (q_p2 h) dX14_sumOf_22
def f_Model_priceOf (z : Nat) (v : Va) (sp : Nat) (k1 : Nat) (a2 : Int32) : Option (Int32 × Va) := (f_Model_sumOf z v sp k1 a2).bind fun q7 => if a2 < 0 ∨ 24 ≤ a2.toNatClampNeg then none else if (q7.2 (sp + 18) a2.toNatClampNeg) < 0 ∨ 10 ≤ (q7.2 (sp + 18) a2.toNatClampNeg).toNatClampNeg then none else some ((((q_max 0 (q_min 999 q7.1)) * (q7.2 (k1 + 4) (q7.2 (sp + 18) a2.toNatClampNeg).toNatClampNeg)) / 100), q7.2)
theorem c_Model_priceOf {sp : Nat} {k1 : Nat} {a2 : Int32} (hk : isModel sh sp) (hk1 : isState sh k1) {q : Int32 × Va} (h : f_Model_priceOf z v sp k1 a2 = some q) : MetI l yX14_priceOf cX14_priceOf 3 (some .int) 53 Γ sh v w n [.ref (Γ.2.1 + 149), .ref (Γ.2.1 + k1), .int a2] (fun x u => x = q.1 ∧ u = q.2) := by
  unfold f_Model_priceOf at h
  refine w_start pn_X14 (Nat.le_of_ble_eq_true rfl) fun p e s m args below meth c hx hb hml hret hlk hnm hts hown hK hP hz hE hS ls hl => ?_
  refine lv_iconst (v := 0) hx hb dX14_priceOf_0 rfl ?_
  refine lv_sipush (v := 999) hx hb dX14_priceOf_1 rfl ?_
  refine lv_aload_n hx hb dX14_priceOf_4 rfl (lv_at hl 0 rfl) ?_
  refine lv_aload_n hx hb dX14_priceOf_5 rfl (lv_at hl 1 rfl) ?_
  refine lv_iload_n hx hb dX14_priceOf_6 rfl (lv_at hl 2 rfl) ?_
  obtain ⟨q7, e7, h⟩ := obn_e h
  refine z_Vi (k := 149) (r1 := q7.1) (v1 := q7.2) hx hb hml hts hown hK hP hS hz hE (c_Model_sumOf hk hk1 e7) kX14_sumOf mX14_328 hk.1 rfl rfl rfl hl.1 (Nat.le_of_ble_eq_true rfl) ⟨Nat.le_of_ble_eq_true rfl, Nat.le_of_ble_eq_true rfl⟩ ⟨Nat.le_refl _, Nat.le_refl _⟩ dX14_priceOf_7 fun H1 locs1 hz hP hS => ?_
  refine z_mmin hx hb hml hl.1 hts hown xX14_320 ⟨Nat.le_of_ble_eq_true rfl, Nat.le_of_ble_eq_true rfl⟩ (Nat.le_of_ble_eq_true rfl) ⟨Nat.le_refl _, Nat.le_refl _⟩ dX14_priceOf_10 ?_
  refine z_mmax hx hb hml hl.1 hts hown xX14_325 ⟨Nat.le_of_ble_eq_true rfl, Nat.le_of_ble_eq_true rfl⟩ (Nat.le_of_ble_eq_true rfl) ⟨Nat.le_refl _, Nat.le_refl _⟩ dX14_priceOf_13 ?_
  refine lv_aload_n hx hb dX14_priceOf_16 rfl (lv_at hl 1 rfl) ?_
  refine w_gr (k := k1) (r := (k1 + 4)) hx hb hts hown hK hP fX14_298 hk1.1 rfl dX14_priceOf_17 ?_
  refine lv_aload_n hx hb dX14_priceOf_20 rfl (lv_at hl 0 rfl) ?_
  refine w_gr (k := 149) (r := sp) hx hb hts hown hK hP fX14_20 hk.1 rfl dX14_priceOf_21 ?_
  refine w_gr (k := sp) (r := (sp + 18)) hx hb hts hown hK hP fX14_205 hk.2.2.1.1 rfl dX14_priceOf_24 ?_
  refine lv_iload_n hx hb dX14_priceOf_27 rfl (lv_at hl 2 rfl) ?_
  obtain ⟨hn28, h⟩ := itn_e h
  refine w_iald (k := (sp + 18)) hx hb hK hP hk.2.2.1.2.2.2.2.2.2.2.2.2.2.2.2.2.2.2.2.2.2.1 hn28 dX14_priceOf_28 ?_
  obtain ⟨hn29, h⟩ := itn_e h
  refine w_iald (k := (k1 + 4)) hx hb hK hP hk1.2.2.2.2.1 hn29 dX14_priceOf_29 ?_
  refine lv_imul hx hb dX14_priceOf_30 ?_
  refine lv_bipush (v := 100) hx hb dX14_priceOf_31 rfl ?_
  refine lv_idiv hx hb dX14_priceOf_33 (by decide) ?_
  exact w_iret hx hb hret rfl hlk hK hP hS hz hE (q_p2 h) dX14_priceOf_34
def f_Model_payOf (z : Nat) (v : Va) (sp : Nat) (k1 : Nat) (a2 : Int32) : Option (Int32 × Va) := if a2 < 0 ∨ 24 ≤ a2.toNatClampNeg then none else if a2 < 0 ∨ 24 ≤ a2.toNatClampNeg then none else if (v (sp + 18) a2.toNatClampNeg) = (v (sp + 19) a2.toNatClampNeg) then (some (0, v)) else ((f_Model_sumOf z v sp k1 a2).bind fun q34 => (f_State_owes q34.2 k1 (v (sp + 18) a2.toNatClampNeg) (v (sp + 19) a2.toNatClampNeg)).bind fun q41 => if (v (sp + 18) a2.toNatClampNeg) < 0 ∨ 6 ≤ (v (sp + 18) a2.toNatClampNeg).toNatClampNeg then none else some ((q_min (q_min q34.1 q41) (q34.2 (k1 + 6) (v (sp + 18) a2.toNatClampNeg).toNatClampNeg)), q34.2))
theorem c_Model_payOf {sp : Nat} {k1 : Nat} {a2 : Int32} (hk : isModel sh sp) (hk1 : isState sh k1) {q : Int32 × Va} (h : f_Model_payOf z v sp k1 a2 = some q) : MetI l yX14_payOf cX14_payOf 5 (some .int) 53 Γ sh v w n [.ref (Γ.2.1 + 149), .ref (Γ.2.1 + k1), .int a2] (fun x u => x = q.1 ∧ u = q.2) := by
  unfold f_Model_payOf at h
  refine w_start pn_X14 (Nat.le_of_ble_eq_true rfl) fun p e s m args below meth c hx hb hml hret hlk hnm hts hown hK hP hz hE hS ls hl => ?_
  refine lv_aload_n hx hb dX14_payOf_0 rfl (lv_at hl 0 rfl) ?_
  refine w_gr (k := 149) (r := sp) hx hb hts hown hK hP fX14_20 hk.1 rfl dX14_payOf_1 ?_
  refine w_gr (k := sp) (r := (sp + 18)) hx hb hts hown hK hP fX14_205 hk.2.2.1.1 rfl dX14_payOf_4 ?_
  refine lv_iload_n hx hb dX14_payOf_7 rfl (lv_at hl 2 rfl) ?_
  obtain ⟨hn8, h⟩ := itn_e h
  refine w_iald (k := (sp + 18)) hx hb hK hP hk.2.2.1.2.2.2.2.2.2.2.2.2.2.2.2.2.2.2.2.2.2.1 hn8 dX14_payOf_8 ?_
  refine lv_istore_n (lv' := [(3, .int (v (sp + 18) a2.toNatClampNeg)), (0, .ref (Γ.2.1 + 149)), (1, .ref (Γ.2.1 + k1)), (2, .int a2)]) hx hb dX14_payOf_9 rfl hl (by decide) rfl fun ls hl => ?_
  refine lv_aload_n hx hb dX14_payOf_10 rfl (lv_at hl 1 rfl) ?_
  refine w_gr (k := 149) (r := sp) hx hb hts hown hK hP fX14_20 hk.1 rfl dX14_payOf_11 ?_
  refine w_gr (k := sp) (r := (sp + 19)) hx hb hts hown hK hP fX14_211 hk.2.2.1.1 rfl dX14_payOf_14 ?_
  refine lv_iload_n hx hb dX14_payOf_17 rfl (lv_at hl 3 rfl) ?_
  obtain ⟨hn18, h⟩ := itn_e h
  refine w_iald (k := (sp + 19)) hx hb hK hP hk.2.2.1.2.2.2.2.2.2.2.2.2.2.2.2.2.2.2.2.2.2.2.1 hn18 dX14_payOf_18 ?_
  refine lv_istore (lv' := [(4, .int (v (sp + 19) a2.toNatClampNeg)), (3, .int (v (sp + 18) a2.toNatClampNeg)), (0, .ref (Γ.2.1 + 149)), (1, .ref (Γ.2.1 + k1)), (2, .int a2)]) hx hb dX14_payOf_19 hl (by decide) rfl fun ls hl => ?_
  refine lv_iload_n hx hb dX14_payOf_21 rfl (lv_at hl 1 rfl) ?_
  refine lv_iload hx hb dX14_payOf_22 (lv_at hl 0 rfl) ?_
  refine lv_icmp_ne (tgt := 31) hx hb dX14_payOf_24 rfl (fun hc24 => ?_) (fun hc24 => ?_)
  · have h := itf_e h hc24
    refine lv_aload_n hx hb dX14_payOf_31 rfl (lv_at hl 2 rfl) ?_
    refine lv_aload_n hx hb dX14_payOf_32 rfl (lv_at hl 3 rfl) ?_
    refine lv_iload_n hx hb dX14_payOf_33 rfl (lv_at hl 4 rfl) ?_
    obtain ⟨q34, e34, h⟩ := obn_e h
    refine z_Vi (k := 149) (r1 := q34.1) (v1 := q34.2) hx hb hml hts hown hK hP hS hz hE (c_Model_sumOf hk hk1 e34) kX14_sumOf mX14_328 hk.1 rfl rfl rfl hl.1 (Nat.le_of_ble_eq_true rfl) ⟨Nat.le_of_ble_eq_true rfl, Nat.le_of_ble_eq_true rfl⟩ ⟨Nat.le_refl _, Nat.le_refl _⟩ dX14_payOf_34 fun H1 locs1 hz hP hS => ?_
    refine lv_aload_n hx hb dX14_payOf_37 rfl (lv_at hl 3 rfl) ?_
    refine lv_iload_n hx hb dX14_payOf_38 rfl (lv_at hl 1 rfl) ?_
    refine lv_iload hx hb dX14_payOf_39 (lv_at hl 0 rfl) ?_
    obtain ⟨q41, e41, h⟩ := obn_e h
    refine z_Vi (k := k1) (r1 := q41) (v1 := q34.2) hx hb hml hts hown hK hP hS hz hE (c_State_owes hk1 e41) kX13_owes mX14_317 hk1.1 rfl rfl rfl hl.1 (Nat.le_of_ble_eq_true rfl) ⟨Nat.le_of_ble_eq_true rfl, Nat.le_of_ble_eq_true rfl⟩ ⟨Nat.le_refl _, Nat.le_refl _⟩ dX14_payOf_41 fun H1 locs1 hz hP hS => ?_
    refine z_mmin hx hb hml hl.1 hts hown xX14_320 ⟨Nat.le_of_ble_eq_true rfl, Nat.le_of_ble_eq_true rfl⟩ (Nat.le_of_ble_eq_true rfl) ⟨Nat.le_refl _, Nat.le_refl _⟩ dX14_payOf_44 ?_
    refine lv_aload_n hx hb dX14_payOf_47 rfl (lv_at hl 3 rfl) ?_
    refine w_gr (k := k1) (r := (k1 + 6)) hx hb hts hown hK hP fX14_304 hk1.1 rfl dX14_payOf_48 ?_
    refine lv_iload_n hx hb dX14_payOf_51 rfl (lv_at hl 1 rfl) ?_
    obtain ⟨hn52, h⟩ := itn_e h
    refine w_iald (k := (k1 + 6)) hx hb hK hP hk1.2.2.2.2.2.2.1 hn52 dX14_payOf_52 ?_
    refine z_mmin hx hb hml hl.1 hts hown xX14_320 ⟨Nat.le_of_ble_eq_true rfl, Nat.le_of_ble_eq_true rfl⟩ (Nat.le_of_ble_eq_true rfl) ⟨Nat.le_refl _, Nat.le_refl _⟩ dX14_payOf_53 ?_
    exact w_iret hx hb hret rfl hlk hK hP hS hz hE (q_p2 h) dX14_payOf_56
  · have h := itt_e h hc24
    refine lv_iconst (v := 0) hx hb dX14_payOf_27 rfl ?_
    refine lv_goto (tgt := 56) hx hb dX14_payOf_28 rfl ?_
    exact w_iret hx hb hret rfl hlk hK hP hS hz hE (q_p2 h) dX14_payOf_56
def f_Model_canSell (z : Nat) (v : Va) (sp : Nat) (k1 : Nat) (a2 : Int32) : Option (Bool × Va) := if a2 < 0 ∨ 24 ≤ a2.toNatClampNeg then none else if a2 < 0 ∨ 24 ≤ a2.toNatClampNeg then none else (f_State_isFresh v k1 (v (sp + 18) a2.toNatClampNeg)).bind fun q23 => if (q_b q23) = 0 then (some (false, v)) else (if (v (sp + 18) a2.toNatClampNeg) < 0 ∨ 10 ≤ (v (sp + 18) a2.toNatClampNeg).toNatClampNeg then none else if (v (k1 + 2) (v (sp + 18) a2.toNatClampNeg).toNatClampNeg) = (v (sp + 19) a2.toNatClampNeg) then (some (false, v)) else ((f_Model_priceOf z v sp k1 a2).bind fun q46 => if (v (sp + 19) a2.toNatClampNeg) < 0 ∨ 6 ≤ (v (sp + 19) a2.toNatClampNeg).toNatClampNeg then none else (f_State_debts z q46.2 k1 (v (sp + 19) a2.toNatClampNeg)).bind fun q65 => if (v (sp + 19) a2.toNatClampNeg) < 0 ∨ 6 ≤ (v (sp + 19) a2.toNatClampNeg).toNatClampNeg then none else if (q46.2 (sp + 12) (v (sp + 19) a2.toNatClampNeg).toNatClampNeg) < (q65 + (q_max 0 (q46.1 - (q46.2 (k1 + 6) (v (sp + 19) a2.toNatClampNeg).toNatClampNeg)))) then (some (false, q46.2)) else (some (true, q46.2))))
theorem c_Model_canSell {sp : Nat} {k1 : Nat} {a2 : Int32} (hk : isModel sh sp) (hk1 : isState sh k1) {q : Bool × Va} (h : f_Model_canSell z v sp k1 a2 = some q) : MetI l yX14_canSell cX14_canSell 6 (some .boolean) 54 Γ sh v w n [.ref (Γ.2.1 + 149), .ref (Γ.2.1 + k1), .int a2] (fun x u => x = q_b q.1 ∧ u = q.2) := by
  unfold f_Model_canSell at h
  refine w_start pn_X14 (Nat.le_of_ble_eq_true rfl) fun p e s m args below meth c hx hb hml hret hlk hnm hts hown hK hP hz hE hS ls hl => ?_
  refine lv_aload_n hx hb dX14_canSell_0 rfl (lv_at hl 0 rfl) ?_
  refine w_gr (k := 149) (r := sp) hx hb hts hown hK hP fX14_20 hk.1 rfl dX14_canSell_1 ?_
  refine w_gr (k := sp) (r := (sp + 18)) hx hb hts hown hK hP fX14_205 hk.2.2.1.1 rfl dX14_canSell_4 ?_
  refine lv_iload_n hx hb dX14_canSell_7 rfl (lv_at hl 2 rfl) ?_
  obtain ⟨hn8, h⟩ := itn_e h
  refine w_iald (k := (sp + 18)) hx hb hK hP hk.2.2.1.2.2.2.2.2.2.2.2.2.2.2.2.2.2.2.2.2.2.1 hn8 dX14_canSell_8 ?_
  refine lv_istore_n (lv' := [(3, .int (v (sp + 18) a2.toNatClampNeg)), (0, .ref (Γ.2.1 + 149)), (1, .ref (Γ.2.1 + k1)), (2, .int a2)]) hx hb dX14_canSell_9 rfl hl (by decide) rfl fun ls hl => ?_
  refine lv_aload_n hx hb dX14_canSell_10 rfl (lv_at hl 1 rfl) ?_
  refine w_gr (k := 149) (r := sp) hx hb hts hown hK hP fX14_20 hk.1 rfl dX14_canSell_11 ?_
  refine w_gr (k := sp) (r := (sp + 19)) hx hb hts hown hK hP fX14_211 hk.2.2.1.1 rfl dX14_canSell_14 ?_
  refine lv_iload_n hx hb dX14_canSell_17 rfl (lv_at hl 3 rfl) ?_
  obtain ⟨hn18, h⟩ := itn_e h
  refine w_iald (k := (sp + 19)) hx hb hK hP hk.2.2.1.2.2.2.2.2.2.2.2.2.2.2.2.2.2.2.2.2.2.2.1 hn18 dX14_canSell_18 ?_
  refine lv_istore (lv' := [(4, .int (v (sp + 19) a2.toNatClampNeg)), (3, .int (v (sp + 18) a2.toNatClampNeg)), (0, .ref (Γ.2.1 + 149)), (1, .ref (Γ.2.1 + k1)), (2, .int a2)]) hx hb dX14_canSell_19 hl (by decide) rfl fun ls hl => ?_
  refine lv_aload_n hx hb dX14_canSell_21 rfl (lv_at hl 3 rfl) ?_
  refine lv_iload_n hx hb dX14_canSell_22 rfl (lv_at hl 1 rfl) ?_
  obtain ⟨q23, e23, h⟩ := obn_e h
  refine z_Vi (k := k1) (r1 := (q_b q23)) (v1 := v) hx hb hml hts hown hK hP hS hz hE (c_State_isFresh hk1 e23) kX13_isFresh mX14_332 hk1.1 rfl rfl rfl hl.1 (Nat.le_of_ble_eq_true rfl) ⟨Nat.le_of_ble_eq_true rfl, Nat.le_of_ble_eq_true rfl⟩ ⟨Nat.le_refl _, Nat.le_refl _⟩ dX14_canSell_23 fun H1 locs1 hz hP hS => ?_
  refine lv_if_eq (tgt := 40) hx hb dX14_canSell_26 rfl (fun hc26 => ?_) (fun hc26 => ?_)
  · have h := itt_e h hc26
    refine lv_iconst (v := 0) hx hb dX14_canSell_40 rfl ?_
    exact w_iret hx hb hret rfl hlk hK hP hS hz hE (q_p2b h) dX14_canSell_41
  · have h := itf_e h hc26
    refine lv_aload_n hx hb dX14_canSell_29 rfl (lv_at hl 3 rfl) ?_
    refine w_gr (k := k1) (r := (k1 + 2)) hx hb hts hown hK hP fX14_283 hk1.1 rfl dX14_canSell_30 ?_
    refine lv_iload_n hx hb dX14_canSell_33 rfl (lv_at hl 1 rfl) ?_
    obtain ⟨hn34, h⟩ := itn_e h
    refine w_iald (k := (k1 + 2)) hx hb hK hP hk1.2.2.1 hn34 dX14_canSell_34 ?_
    refine lv_iload hx hb dX14_canSell_35 (lv_at hl 0 rfl) ?_
    refine lv_icmp_ne (tgt := 42) hx hb dX14_canSell_37 rfl (fun hc37 => ?_) (fun hc37 => ?_)
    · have h := itf_e h hc37
      refine lv_iconst (v := 0) hx hb dX14_canSell_42 rfl ?_
      refine lv_aload_n hx hb dX14_canSell_43 rfl (lv_at hl 2 rfl) ?_
      refine lv_aload_n hx hb dX14_canSell_44 rfl (lv_at hl 3 rfl) ?_
      refine lv_iload_n hx hb dX14_canSell_45 rfl (lv_at hl 4 rfl) ?_
      obtain ⟨q46, e46, h⟩ := obn_e h
      refine z_Vi (k := 149) (r1 := q46.1) (v1 := q46.2) hx hb hml hts hown hK hP hS hz hE (c_Model_priceOf hk hk1 e46) kX14_priceOf mX14_335 hk.1 rfl rfl rfl hl.1 (Nat.le_of_ble_eq_true rfl) ⟨Nat.le_of_ble_eq_true rfl, Nat.le_of_ble_eq_true rfl⟩ ⟨Nat.le_refl _, Nat.le_refl _⟩ dX14_canSell_46 fun H1 locs1 hz hP hS => ?_
      refine lv_aload_n hx hb dX14_canSell_49 rfl (lv_at hl 3 rfl) ?_
      refine w_gr (k := k1) (r := (k1 + 6)) hx hb hts hown hK hP fX14_304 hk1.1 rfl dX14_canSell_50 ?_
      refine lv_iload hx hb dX14_canSell_53 (lv_at hl 0 rfl) ?_
      obtain ⟨hn55, h⟩ := itn_e h
      refine w_iald (k := (k1 + 6)) hx hb hK hP hk1.2.2.2.2.2.2.1 hn55 dX14_canSell_55 ?_
      refine lv_isub hx hb dX14_canSell_56 ?_
      refine z_mmax hx hb hml hl.1 hts hown xX14_325 ⟨Nat.le_of_ble_eq_true rfl, Nat.le_of_ble_eq_true rfl⟩ (Nat.le_of_ble_eq_true rfl) ⟨Nat.le_refl _, Nat.le_refl _⟩ dX14_canSell_57 ?_
      refine lv_istore (lv' := [(5, .int (q_max 0 (q46.1 - (q46.2 (k1 + 6) (v (sp + 19) a2.toNatClampNeg).toNatClampNeg)))), (4, .int (v (sp + 19) a2.toNatClampNeg)), (3, .int (v (sp + 18) a2.toNatClampNeg)), (0, .ref (Γ.2.1 + 149)), (1, .ref (Γ.2.1 + k1)), (2, .int a2)]) hx hb dX14_canSell_60 hl (by decide) rfl fun ls hl => ?_
      refine lv_aload_n hx hb dX14_canSell_62 rfl (lv_at hl 4 rfl) ?_
      refine lv_iload hx hb dX14_canSell_63 (lv_at hl 1 rfl) ?_
      obtain ⟨q65, e65, h⟩ := obn_e h
      refine z_Vi (k := k1) (r1 := q65) (v1 := q46.2) hx hb hml hts hown hK hP hS hz hE (c_State_debts hk1 e65) kX13_debts mX14_305 hk1.1 rfl rfl rfl hl.1 (Nat.le_of_ble_eq_true rfl) ⟨Nat.le_of_ble_eq_true rfl, Nat.le_of_ble_eq_true rfl⟩ ⟨Nat.le_refl _, Nat.le_refl _⟩ dX14_canSell_65 fun H1 locs1 hz hP hS => ?_
      refine lv_iload hx hb dX14_canSell_68 (lv_at hl 0 rfl) ?_
      refine lv_iadd hx hb dX14_canSell_70 ?_
      refine lv_aload_n hx hb dX14_canSell_71 rfl (lv_at hl 3 rfl) ?_
      refine w_gr (k := 149) (r := sp) hx hb hts hown hK hP fX14_20 hk.1 rfl dX14_canSell_72 ?_
      refine w_gr (k := sp) (r := (sp + 12)) hx hb hts hown hK hP fX14_233 hk.2.2.1.1 rfl dX14_canSell_75 ?_
      refine lv_iload hx hb dX14_canSell_78 (lv_at hl 1 rfl) ?_
      obtain ⟨hn80, h⟩ := itn_e h
      refine w_iald (k := (sp + 12)) hx hb hK hP hk.2.2.1.2.2.2.2.2.2.2.2.2.2.2.2.1 hn80 dX14_canSell_80 ?_
      refine lv_icmp_gt (tgt := 88) hx hb dX14_canSell_81 rfl (fun hc81 => ?_) (fun hc81 => ?_)
      · have h := itt_e h hc81
        refine lv_iconst (v := 0) hx hb dX14_canSell_88 rfl ?_
        exact w_iret hx hb hret rfl hlk hK hP hS hz hE (q_p2b h) dX14_canSell_89
      · have h := itf_e h hc81
        refine lv_iconst (v := 1) hx hb dX14_canSell_84 rfl ?_
        refine lv_goto (tgt := 89) hx hb dX14_canSell_85 rfl ?_
        exact w_iret hx hb hret rfl hlk hK hP hS hz hE (q_p2b h) dX14_canSell_89
    · have h := itt_e h hc37
      refine lv_iconst (v := 0) hx hb dX14_canSell_40 rfl ?_
      exact w_iret hx hb hret rfl hlk hK hP hS hz hE (q_p2b h) dX14_canSell_41
def f_Model_can (z : Nat) (v : Va) (sp : Nat) (k1 : Nat) (a2 : Int32) : Option (Bool × Va) := (f_Model_holds z v sp k1 a2).bind fun q3 => if (q_b q3.1) = 0 then (some (false, q3.2)) else (if a2 < 0 ∨ 24 ≤ a2.toNatClampNeg then none else if (q3.2 (sp + 17) a2.toNatClampNeg) = 0 then (if a2 < 0 ∨ 24 ≤ a2.toNatClampNeg then none else if (q3.2 (sp + 18) a2.toNatClampNeg) < 0 ∨ 10 ≤ (q3.2 (sp + 18) a2.toNatClampNeg).toNatClampNeg then none else if (q3.2 (k1 + 2) (q3.2 (sp + 18) a2.toNatClampNeg).toNatClampNeg) < 0 ∨ 6 ≤ (q3.2 (k1 + 2) (q3.2 (sp + 18) a2.toNatClampNeg).toNatClampNeg).toNatClampNeg then none else if a2 < 0 ∨ 24 ≤ a2.toNatClampNeg then none else if (q3.2 (sp + 19) a2.toNatClampNeg) < 0 ∨ 4 ≤ (q3.2 (sp + 19) a2.toNatClampNeg).toNatClampNeg then none else if (q3.2 (k1 + 6) (q3.2 (k1 + 2) (q3.2 (sp + 18) a2.toNatClampNeg).toNatClampNeg).toNatClampNeg) < (q3.2 (sp + 8) (q3.2 (sp + 19) a2.toNatClampNeg).toNatClampNeg) then (some (false, q3.2)) else (some (true, q3.2))) else (if (q3.2 (sp + 17) a2.toNatClampNeg) = 1 then ((f_Model_canSell z q3.2 sp k1 a2).bind fun q96 => some (q96.1, q96.2)) else ((f_Model_payOf z q3.2 sp k1 a2).bind fun q103 => if q103.1 < 1 then (some (false, q103.2)) else (some (true, q103.2)))))
theorem c_Model_can {sp : Nat} {k1 : Nat} {a2 : Int32} (hk : isModel sh sp) (hk1 : isState sh k1) {q : Bool × Va} (h : f_Model_can z v sp k1 a2 = some q) : MetI l yX14_can cX14_can 3 (some .boolean) 55 Γ sh v w n [.ref (Γ.2.1 + 149), .ref (Γ.2.1 + k1), .int a2] (fun x u => x = q_b q.1 ∧ u = q.2) := by
  unfold f_Model_can at h
  refine w_start pn_X14 (Nat.le_of_ble_eq_true rfl) fun p e s m args below meth c hx hb hml hret hlk hnm hts hown hK hP hz hE hS ls hl => ?_
  refine lv_aload_n hx hb dX14_can_0 rfl (lv_at hl 0 rfl) ?_
  refine lv_aload_n hx hb dX14_can_1 rfl (lv_at hl 1 rfl) ?_
  refine lv_iload_n hx hb dX14_can_2 rfl (lv_at hl 2 rfl) ?_
  obtain ⟨q3, e3, h⟩ := obn_e h
  refine z_Vi (k := 149) (r1 := (q_b q3.1)) (v1 := q3.2) hx hb hml hts hown hK hP hS hz hE (c_Model_holds hk hk1 e3) kX14_holds mX14_338 hk.1 rfl rfl rfl hl.1 (Nat.le_of_ble_eq_true rfl) ⟨Nat.le_of_ble_eq_true rfl, Nat.le_of_ble_eq_true rfl⟩ ⟨Nat.le_refl _, Nat.le_refl _⟩ dX14_can_3 fun H1 locs1 hz hP hS => ?_
  refine lv_if_ne (tgt := 11) hx hb dX14_can_6 rfl (fun hc6 => ?_) (fun hc6 => ?_)
  · have h := itf_e h hc6
    refine lv_aload_n hx hb dX14_can_11 rfl (lv_at hl 0 rfl) ?_
    refine w_gr (k := 149) (r := sp) hx hb hts hown hK hP fX14_20 hk.1 rfl dX14_can_12 ?_
    refine w_gr (k := sp) (r := (sp + 17)) hx hb hts hown hK hP fX14_239 hk.2.2.1.1 rfl dX14_can_15 ?_
    refine lv_iload_n hx hb dX14_can_18 rfl (lv_at hl 2 rfl) ?_
    obtain ⟨hn19, h⟩ := itn_e h
    refine w_iald (k := (sp + 17)) hx hb hK hP hk.2.2.1.2.2.2.2.2.2.2.2.2.2.2.2.2.2.2.2.2.1 hn19 dX14_can_19 ?_
    by_cases hc20_0 : (q3.2 (sp + 17) a2.toNatClampNeg) = 0
    · have h := itt_e h hc20_0
      refine z_lI (y := 0) (tgt := 48) hx hb dX14_can_20 hc20_0 rfl rfl rfl ?_
      refine lv_aload_n hx hb dX14_can_48 rfl (lv_at hl 1 rfl) ?_
      refine w_gr (k := k1) (r := (k1 + 6)) hx hb hts hown hK hP fX14_304 hk1.1 rfl dX14_can_49 ?_
      refine lv_aload_n hx hb dX14_can_52 rfl (lv_at hl 1 rfl) ?_
      refine w_gr (k := k1) (r := (k1 + 2)) hx hb hts hown hK hP fX14_283 hk1.1 rfl dX14_can_53 ?_
      refine lv_aload_n hx hb dX14_can_56 rfl (lv_at hl 0 rfl) ?_
      refine w_gr (k := 149) (r := sp) hx hb hts hown hK hP fX14_20 hk.1 rfl dX14_can_57 ?_
      refine w_gr (k := sp) (r := (sp + 18)) hx hb hts hown hK hP fX14_205 hk.2.2.1.1 rfl dX14_can_60 ?_
      refine lv_iload_n hx hb dX14_can_63 rfl (lv_at hl 2 rfl) ?_
      obtain ⟨hn64, h⟩ := itn_e h
      refine w_iald (k := (sp + 18)) hx hb hK hP hk.2.2.1.2.2.2.2.2.2.2.2.2.2.2.2.2.2.2.2.2.2.1 hn64 dX14_can_64 ?_
      obtain ⟨hn65, h⟩ := itn_e h
      refine w_iald (k := (k1 + 2)) hx hb hK hP hk1.2.2.1 hn65 dX14_can_65 ?_
      obtain ⟨hn66, h⟩ := itn_e h
      refine w_iald (k := (k1 + 6)) hx hb hK hP hk1.2.2.2.2.2.2.1 hn66 dX14_can_66 ?_
      refine lv_aload_n hx hb dX14_can_67 rfl (lv_at hl 0 rfl) ?_
      refine w_gr (k := 149) (r := sp) hx hb hts hown hK hP fX14_20 hk.1 rfl dX14_can_68 ?_
      refine w_gr (k := sp) (r := (sp + 8)) hx hb hts hown hK hP fX14_224 hk.2.2.1.1 rfl dX14_can_71 ?_
      refine lv_aload_n hx hb dX14_can_74 rfl (lv_at hl 0 rfl) ?_
      refine w_gr (k := 149) (r := sp) hx hb hts hown hK hP fX14_20 hk.1 rfl dX14_can_75 ?_
      refine w_gr (k := sp) (r := (sp + 19)) hx hb hts hown hK hP fX14_211 hk.2.2.1.1 rfl dX14_can_78 ?_
      refine lv_iload_n hx hb dX14_can_81 rfl (lv_at hl 2 rfl) ?_
      obtain ⟨hn82, h⟩ := itn_e h
      refine w_iald (k := (sp + 19)) hx hb hK hP hk.2.2.1.2.2.2.2.2.2.2.2.2.2.2.2.2.2.2.2.2.2.2.1 hn82 dX14_can_82 ?_
      obtain ⟨hn83, h⟩ := itn_e h
      refine w_iald (k := (sp + 8)) hx hb hK hP hk.2.2.1.2.2.2.2.2.2.2.2.1 hn83 dX14_can_83 ?_
      refine lv_icmp_lt (tgt := 91) hx hb dX14_can_84 rfl (fun hc84 => ?_) (fun hc84 => ?_)
      · have h := itt_e h hc84
        refine lv_iconst (v := 0) hx hb dX14_can_91 rfl ?_
        exact w_iret hx hb hret rfl hlk hK hP hS hz hE (q_p2b h) dX14_can_92
      · have h := itf_e h hc84
        refine lv_iconst (v := 1) hx hb dX14_can_87 rfl ?_
        refine lv_goto (tgt := 92) hx hb dX14_can_88 rfl ?_
        exact w_iret hx hb hret rfl hlk hK hP hS hz hE (q_p2b h) dX14_can_92
    have h := itf_e h hc20_0
    by_cases hc20_1 : (q3.2 (sp + 17) a2.toNatClampNeg) = 1
    · have h := itt_e h hc20_1
      refine z_lI (y := 1) (tgt := 93) hx hb dX14_can_20 hc20_1 rfl rfl rfl ?_
      refine lv_aload_n hx hb dX14_can_93 rfl (lv_at hl 0 rfl) ?_
      refine lv_aload_n hx hb dX14_can_94 rfl (lv_at hl 1 rfl) ?_
      refine lv_iload_n hx hb dX14_can_95 rfl (lv_at hl 2 rfl) ?_
      obtain ⟨q96, e96, h⟩ := obn_e h
      refine z_Vi (k := 149) (r1 := (q_b q96.1)) (v1 := q96.2) hx hb hml hts hown hK hP hS hz hE (c_Model_canSell hk hk1 e96) kX14_canSell mX14_342 hk.1 rfl rfl rfl hl.1 (Nat.le_of_ble_eq_true rfl) ⟨Nat.le_of_ble_eq_true rfl, Nat.le_of_ble_eq_true rfl⟩ ⟨Nat.le_refl _, Nat.le_refl _⟩ dX14_can_96 fun H1 locs1 hz hP hS => ?_
      exact w_iret hx hb hret (q_bn _) hlk hK hP hS hz hE (q_p2b h) dX14_can_99
    have h := itf_e h hc20_1
    refine z_lD (tgt := 100) hx hb [0, 1] dX14_can_20 (q_nc hc20_0 (q_nc hc20_1 q_nn)) (by decide) (by decide) rfl ?_
    refine lv_aload_n hx hb dX14_can_100 rfl (lv_at hl 0 rfl) ?_
    refine lv_aload_n hx hb dX14_can_101 rfl (lv_at hl 1 rfl) ?_
    refine lv_iload_n hx hb dX14_can_102 rfl (lv_at hl 2 rfl) ?_
    obtain ⟨q103, e103, h⟩ := obn_e h
    refine z_Vi (k := 149) (r1 := q103.1) (v1 := q103.2) hx hb hml hts hown hK hP hS hz hE (c_Model_payOf hk hk1 e103) kX14_payOf mX14_345 hk.1 rfl rfl rfl hl.1 (Nat.le_of_ble_eq_true rfl) ⟨Nat.le_of_ble_eq_true rfl, Nat.le_of_ble_eq_true rfl⟩ ⟨Nat.le_refl _, Nat.le_refl _⟩ dX14_can_103 fun H1 locs1 hz hP hS => ?_
    refine lv_iconst (v := 1) hx hb dX14_can_106 rfl ?_
    refine lv_icmp_lt (tgt := 114) hx hb dX14_can_107 rfl (fun hc107 => ?_) (fun hc107 => ?_)
    · have h := itt_e h hc107
      refine lv_iconst (v := 0) hx hb dX14_can_114 rfl ?_
      exact w_iret hx hb hret rfl hlk hK hP hS hz hE (q_p2b h) dX14_can_115
    · have h := itf_e h hc107
      refine lv_iconst (v := 1) hx hb dX14_can_110 rfl ?_
      refine lv_goto (tgt := 115) hx hb dX14_can_111 rfl ?_
      exact w_iret hx hb hret rfl hlk hK hP hS hz hE (q_p2b h) dX14_can_115
  · have h := itt_e h hc6
    refine lv_iconst (v := 0) hx hb dX14_can_9 rfl ?_
    exact w_iret hx hb hret rfl hlk hK hP hS hz hE (q_p2b h) dX14_can_10
def f_Model_weigh (v : Va) (sp : Nat) (k1 : Nat) (a2 : Int32) (a3 : Int32) : Option Va := if a2 < 0 ∨ 10 ≤ a2.toNatClampNeg then none else if (v (k1 + 2) a2.toNatClampNeg) < 0 ∨ 6 ≤ (v (k1 + 2) a2.toNatClampNeg).toNatClampNeg then none else if a3 < 0 ∨ 4 ≤ a3.toNatClampNeg then none else if (v (k1 + 2) a2.toNatClampNeg) < 0 ∨ 6 ≤ (v (k1 + 2) a2.toNatClampNeg).toNatClampNeg then none else bnd (pu v (k1 + 6) (v (k1 + 2) a2.toNatClampNeg).toNatClampNeg ((v (k1 + 6) (v (k1 + 2) a2.toNatClampNeg).toNatClampNeg) - (v (sp + 8) a3.toNatClampNeg))) fun v22 => if a3 < 0 ∨ 4 ≤ a3.toNatClampNeg then none else if a3 < 0 ∨ 4 ≤ a3.toNatClampNeg then none else if a3 < 0 ∨ 4 ≤ a3.toNatClampNeg then none else bnd (pu v22 (k1 + 8) a3.toNatClampNeg ((v22 (k1 + 8) a3.toNatClampNeg) + (v22 (sp + 8) a3.toNatClampNeg))) fun v40 => if a2 < 0 ∨ 10 ≤ a2.toNatClampNeg then none else bnd (pu v40 (k1 + 3) a2.toNatClampNeg a3) fun v47 => if a2 < 0 ∨ 10 ≤ a2.toNatClampNeg then none else if a2 < 0 ∨ 10 ≤ a2.toNatClampNeg then none else if a3 < 0 ∨ 4 ≤ a3.toNatClampNeg then none else if a2 < 0 ∨ 10 ≤ a2.toNatClampNeg then none else bnd (pu v47 (k1 + 4) a2.toNatClampNeg ((v47 (k1 + 1) a2.toNatClampNeg) - (((v47 (k1 + 1) a2.toNatClampNeg) * (v47 (sp + 9) a3.toNatClampNeg)) / 100))) fun v79 => if a2 < 0 ∨ 10 ≤ a2.toNatClampNeg then none else bnd (pu v79 (k1 + 5) a2.toNatClampNeg (v79 k1 0)) fun v89 => bnd (pu v89 k1 3 ((v89 k1 3) + 1)) fun v97 => some v97
theorem c_Model_weigh {sp : Nat} {k1 : Nat} {a2 : Int32} {a3 : Int32} (hk : isModel sh sp) (hk1 : isState sh k1) {q : Va} (h : f_Model_weigh v sp k1 a2 a3 = some q) : MetV l yX14_weigh cX14_weigh 4 none 0 Γ sh v w n [.ref (Γ.2.1 + 149), .ref (Γ.2.1 + k1), .int a2, .int a3] (fun u => u = q) := by
  unfold f_Model_weigh at h
  refine w_start pn_X14 (Nat.le_of_ble_eq_true rfl) fun p e s m args below meth c hx hb hml hret hlk hnm hts hown hK hP hz hE hS ls hl => ?_
  refine lv_aload_n hx hb dX14_weigh_0 rfl (lv_at hl 1 rfl) ?_
  refine w_gr (k := k1) (r := (k1 + 6)) hx hb hts hown hK hP fX14_304 hk1.1 rfl dX14_weigh_1 ?_
  refine lv_aload_n hx hb dX14_weigh_4 rfl (lv_at hl 1 rfl) ?_
  refine w_gr (k := k1) (r := (k1 + 2)) hx hb hts hown hK hP fX14_283 hk1.1 rfl dX14_weigh_5 ?_
  refine lv_iload_n hx hb dX14_weigh_8 rfl (lv_at hl 2 rfl) ?_
  obtain ⟨hn9, h⟩ := itn_e h
  refine w_iald (k := (k1 + 2)) hx hb hK hP hk1.2.2.1 hn9 dX14_weigh_9 ?_
  refine lv_dup2_11 hx hb dX14_weigh_10 rfl rfl ?_
  obtain ⟨hn11, h⟩ := itn_e h
  refine w_iald (k := (k1 + 6)) hx hb hK hP hk1.2.2.2.2.2.2.1 hn11 dX14_weigh_11 ?_
  refine lv_aload_n hx hb dX14_weigh_12 rfl (lv_at hl 0 rfl) ?_
  refine w_gr (k := 149) (r := sp) hx hb hts hown hK hP fX14_20 hk.1 rfl dX14_weigh_13 ?_
  refine w_gr (k := sp) (r := (sp + 8)) hx hb hts hown hK hP fX14_224 hk.2.2.1.1 rfl dX14_weigh_16 ?_
  refine lv_iload_n hx hb dX14_weigh_19 rfl (lv_at hl 3 rfl) ?_
  obtain ⟨hn20, h⟩ := itn_e h
  refine w_iald (k := (sp + 8)) hx hb hK hP hk.2.2.1.2.2.2.2.2.2.2.2.1 hn20 dX14_weigh_20 ?_
  refine lv_isub hx hb dX14_weigh_21 ?_
  obtain ⟨hn22, h⟩ := itn_e h
  obtain ⟨v22, e22, h⟩ := bnd_e h
  refine w_ia2 (k := (k1 + 6)) hx hb hK hP hS hz hk1.2.2.2.2.2.2.1 hn22 e22 dX14_weigh_22 fun H1 locs1 hz hP hS => ?_
  refine lv_aload_n hx hb dX14_weigh_23 rfl (lv_at hl 1 rfl) ?_
  refine w_gr (k := k1) (r := (k1 + 8)) hx hb hts hown hK hP fX14_348 hk1.1 rfl dX14_weigh_24 ?_
  refine lv_iload_n hx hb dX14_weigh_27 rfl (lv_at hl 3 rfl) ?_
  refine lv_dup2_11 hx hb dX14_weigh_28 rfl rfl ?_
  obtain ⟨hn29, h⟩ := itn_e h
  refine w_iald (k := (k1 + 8)) hx hb hK hP hk1.2.2.2.2.2.2.2.2.1 hn29 dX14_weigh_29 ?_
  refine lv_aload_n hx hb dX14_weigh_30 rfl (lv_at hl 0 rfl) ?_
  refine w_gr (k := 149) (r := sp) hx hb hts hown hK hP fX14_20 hk.1 rfl dX14_weigh_31 ?_
  refine w_gr (k := sp) (r := (sp + 8)) hx hb hts hown hK hP fX14_224 hk.2.2.1.1 rfl dX14_weigh_34 ?_
  refine lv_iload_n hx hb dX14_weigh_37 rfl (lv_at hl 3 rfl) ?_
  obtain ⟨hn38, h⟩ := itn_e h
  refine w_iald (k := (sp + 8)) hx hb hK hP hk.2.2.1.2.2.2.2.2.2.2.2.1 hn38 dX14_weigh_38 ?_
  refine lv_iadd hx hb dX14_weigh_39 ?_
  obtain ⟨hn40, h⟩ := itn_e h
  obtain ⟨v40, e40, h⟩ := bnd_e h
  refine w_ia2 (k := (k1 + 8)) hx hb hK hP hS hz hk1.2.2.2.2.2.2.2.2.1 hn40 e40 dX14_weigh_40 fun H1 locs1 hz hP hS => ?_
  refine lv_aload_n hx hb dX14_weigh_41 rfl (lv_at hl 1 rfl) ?_
  refine w_gr (k := k1) (r := (k1 + 3)) hx hb hts hown hK hP fX14_295 hk1.1 rfl dX14_weigh_42 ?_
  refine lv_iload_n hx hb dX14_weigh_45 rfl (lv_at hl 2 rfl) ?_
  refine lv_iload_n hx hb dX14_weigh_46 rfl (lv_at hl 3 rfl) ?_
  obtain ⟨hn47, h⟩ := itn_e h
  obtain ⟨v47, e47, h⟩ := bnd_e h
  refine w_ia2 (k := (k1 + 3)) hx hb hK hP hS hz hk1.2.2.2.1 hn47 e47 dX14_weigh_47 fun H1 locs1 hz hP hS => ?_
  refine lv_aload_n hx hb dX14_weigh_48 rfl (lv_at hl 1 rfl) ?_
  refine w_gr (k := k1) (r := (k1 + 4)) hx hb hts hown hK hP fX14_298 hk1.1 rfl dX14_weigh_49 ?_
  refine lv_iload_n hx hb dX14_weigh_52 rfl (lv_at hl 2 rfl) ?_
  refine lv_aload_n hx hb dX14_weigh_53 rfl (lv_at hl 1 rfl) ?_
  refine w_gr (k := k1) (r := (k1 + 1)) hx hb hts hown hK hP fX14_292 hk1.1 rfl dX14_weigh_54 ?_
  refine lv_iload_n hx hb dX14_weigh_57 rfl (lv_at hl 2 rfl) ?_
  obtain ⟨hn58, h⟩ := itn_e h
  refine w_iald (k := (k1 + 1)) hx hb hK hP hk1.2.1 hn58 dX14_weigh_58 ?_
  refine lv_aload_n hx hb dX14_weigh_59 rfl (lv_at hl 1 rfl) ?_
  refine w_gr (k := k1) (r := (k1 + 1)) hx hb hts hown hK hP fX14_292 hk1.1 rfl dX14_weigh_60 ?_
  refine lv_iload_n hx hb dX14_weigh_63 rfl (lv_at hl 2 rfl) ?_
  obtain ⟨hn64, h⟩ := itn_e h
  refine w_iald (k := (k1 + 1)) hx hb hK hP hk1.2.1 hn64 dX14_weigh_64 ?_
  refine lv_aload_n hx hb dX14_weigh_65 rfl (lv_at hl 0 rfl) ?_
  refine w_gr (k := 149) (r := sp) hx hb hts hown hK hP fX14_20 hk.1 rfl dX14_weigh_66 ?_
  refine w_gr (k := sp) (r := (sp + 9)) hx hb hts hown hK hP fX14_227 hk.2.2.1.1 rfl dX14_weigh_69 ?_
  refine lv_iload_n hx hb dX14_weigh_72 rfl (lv_at hl 3 rfl) ?_
  obtain ⟨hn73, h⟩ := itn_e h
  refine w_iald (k := (sp + 9)) hx hb hK hP hk.2.2.1.2.2.2.2.2.2.2.2.2.1 hn73 dX14_weigh_73 ?_
  refine lv_imul hx hb dX14_weigh_74 ?_
  refine lv_bipush (v := 100) hx hb dX14_weigh_75 rfl ?_
  refine lv_idiv hx hb dX14_weigh_77 (by decide) ?_
  refine lv_isub hx hb dX14_weigh_78 ?_
  obtain ⟨hn79, h⟩ := itn_e h
  obtain ⟨v79, e79, h⟩ := bnd_e h
  refine w_ia2 (k := (k1 + 4)) hx hb hK hP hS hz hk1.2.2.2.2.1 hn79 e79 dX14_weigh_79 fun H1 locs1 hz hP hS => ?_
  refine lv_aload_n hx hb dX14_weigh_80 rfl (lv_at hl 1 rfl) ?_
  refine w_gr (k := k1) (r := (k1 + 5)) hx hb hts hown hK hP fX14_351 hk1.1 rfl dX14_weigh_81 ?_
  refine lv_iload_n hx hb dX14_weigh_84 rfl (lv_at hl 2 rfl) ?_
  refine lv_aload_n hx hb dX14_weigh_85 rfl (lv_at hl 1 rfl) ?_
  refine w_gi (k := k1) hx hb hts hown hK hP fX14_308 hk1.1 rfl dX14_weigh_86 ?_
  obtain ⟨hn89, h⟩ := itn_e h
  obtain ⟨v89, e89, h⟩ := bnd_e h
  refine w_ia2 (k := (k1 + 5)) hx hb hK hP hS hz hk1.2.2.2.2.2.1 hn89 e89 dX14_weigh_89 fun H1 locs1 hz hP hS => ?_
  refine lv_aload_n hx hb dX14_weigh_90 rfl (lv_at hl 1 rfl) ?_
  refine lv_dup hx hb dX14_weigh_91 rfl ?_
  refine w_gi (k := k1) hx hb hts hown hK hP fX14_354 hk1.1 rfl dX14_weigh_92 ?_
  refine lv_iconst (v := 1) hx hb dX14_weigh_95 rfl ?_
  refine lv_iadd hx hb dX14_weigh_96 ?_
  obtain ⟨v97, e97, h⟩ := bnd_e h
  refine w_pi2 (k := k1) hx hb hts hown hK hP hS hz fX14_354 hk1.1 rfl e97 dX14_weigh_97 fun H1 locs1 hz hP hS => ?_
  exact w_vret hx hb hret hlk hK hP hS hz hE (Option.some.inj h) dX14_weigh_100
def f_Model_sell (v : Va) (sp : Nat) (k1 : Nat) (a2 : Int32) (a3 : Int32) (a4 : Int32) : Option Va := if a2 < 0 ∨ 10 ≤ a2.toNatClampNeg then none else if a3 < 0 ∨ 6 ≤ a3.toNatClampNeg then none else if a3 < 0 ∨ 6 ≤ a3.toNatClampNeg then none else if a3 < 0 ∨ 6 ≤ a3.toNatClampNeg then none else bnd (pu v (k1 + 6) a3.toNatClampNeg ((v (k1 + 6) a3.toNatClampNeg) - (q_min a4 (v (k1 + 6) a3.toNatClampNeg)))) fun v31 => if (v (k1 + 2) a2.toNatClampNeg) < 0 ∨ 6 ≤ (v (k1 + 2) a2.toNatClampNeg).toNatClampNeg then none else if (v (k1 + 2) a2.toNatClampNeg) < 0 ∨ 6 ≤ (v (k1 + 2) a2.toNatClampNeg).toNatClampNeg then none else bnd (pu v31 (k1 + 6) (v (k1 + 2) a2.toNatClampNeg).toNatClampNeg ((v31 (k1 + 6) (v (k1 + 2) a2.toNatClampNeg).toNatClampNeg) + (q_min a4 (v (k1 + 6) a3.toNatClampNeg)))) fun v43 => if ((6 * a3) + (v (k1 + 2) a2.toNatClampNeg)) < 0 ∨ 36 ≤ ((6 * a3) + (v (k1 + 2) a2.toNatClampNeg)).toNatClampNeg then none else if ((6 * a3) + (v (k1 + 2) a2.toNatClampNeg)) < 0 ∨ 36 ≤ ((6 * a3) + (v (k1 + 2) a2.toNatClampNeg)).toNatClampNeg then none else bnd (pu v43 (k1 + 7) ((6 * a3) + (v (k1 + 2) a2.toNatClampNeg)).toNatClampNeg ((v43 (k1 + 7) ((6 * a3) + (v (k1 + 2) a2.toNatClampNeg)).toNatClampNeg) + (a4 - (q_min a4 (v (k1 + 6) a3.toNatClampNeg))))) fun v63 => if a2 < 0 ∨ 10 ≤ a2.toNatClampNeg then none else bnd (pu v63 (k1 + 2) a2.toNatClampNeg a3) fun v70 => bnd (pu v70 k1 2 ((v70 k1 2) + 1)) fun v78 => some v78
theorem c_Model_sell {sp : Nat} {k1 : Nat} {a2 : Int32} {a3 : Int32} {a4 : Int32} (hk : isModel sh sp) (hk1 : isState sh k1) {q : Va} (h : f_Model_sell v sp k1 a2 a3 a4 = some q) : MetV l yX14_sell cX14_sell 7 none 1 Γ sh v w n [.ref (Γ.2.1 + 149), .ref (Γ.2.1 + k1), .int a2, .int a3, .int a4] (fun u => u = q) := by
  unfold f_Model_sell at h
  refine w_start pn_X14 (Nat.le_of_ble_eq_true rfl) fun p e s m args below meth c hx hb hml hret hlk hnm hts hown hK hP hz hE hS ls hl => ?_
  refine lv_aload_n hx hb dX14_sell_0 rfl (lv_at hl 1 rfl) ?_
  refine w_gr (k := k1) (r := (k1 + 2)) hx hb hts hown hK hP fX14_283 hk1.1 rfl dX14_sell_1 ?_
  refine lv_iload_n hx hb dX14_sell_4 rfl (lv_at hl 2 rfl) ?_
  obtain ⟨hn5, h⟩ := itn_e h
  refine w_iald (k := (k1 + 2)) hx hb hK hP hk1.2.2.1 hn5 dX14_sell_5 ?_
  refine lv_istore (lv' := [(5, .int (v (k1 + 2) a2.toNatClampNeg)), (0, .ref (Γ.2.1 + 149)), (1, .ref (Γ.2.1 + k1)), (2, .int a2), (3, .int a3), (4, .int a4)]) hx hb dX14_sell_6 hl (by decide) rfl fun ls hl => ?_
  refine lv_iload hx hb dX14_sell_8 (lv_at hl 5 rfl) ?_
  refine lv_aload_n hx hb dX14_sell_10 rfl (lv_at hl 2 rfl) ?_
  refine w_gr (k := k1) (r := (k1 + 6)) hx hb hts hown hK hP fX14_304 hk1.1 rfl dX14_sell_11 ?_
  refine lv_iload_n hx hb dX14_sell_14 rfl (lv_at hl 4 rfl) ?_
  obtain ⟨hn15, h⟩ := itn_e h
  refine w_iald (k := (k1 + 6)) hx hb hK hP hk1.2.2.2.2.2.2.1 hn15 dX14_sell_15 ?_
  refine z_mmin hx hb hml hl.1 hts hown xX14_320 ⟨Nat.le_of_ble_eq_true rfl, Nat.le_of_ble_eq_true rfl⟩ (Nat.le_of_ble_eq_true rfl) ⟨Nat.le_refl _, Nat.le_refl _⟩ dX14_sell_16 ?_
  refine lv_istore (lv' := [(6, .int (q_min a4 (v (k1 + 6) a3.toNatClampNeg))), (5, .int (v (k1 + 2) a2.toNatClampNeg)), (0, .ref (Γ.2.1 + 149)), (1, .ref (Γ.2.1 + k1)), (2, .int a2), (3, .int a3), (4, .int a4)]) hx hb dX14_sell_19 hl (by decide) rfl fun ls hl => ?_
  refine lv_aload_n hx hb dX14_sell_21 rfl (lv_at hl 3 rfl) ?_
  refine w_gr (k := k1) (r := (k1 + 6)) hx hb hts hown hK hP fX14_304 hk1.1 rfl dX14_sell_22 ?_
  refine lv_iload_n hx hb dX14_sell_25 rfl (lv_at hl 5 rfl) ?_
  refine lv_dup2_11 hx hb dX14_sell_26 rfl rfl ?_
  obtain ⟨hn27, h⟩ := itn_e h
  refine w_iald (k := (k1 + 6)) hx hb hK hP hk1.2.2.2.2.2.2.1 hn27 dX14_sell_27 ?_
  refine lv_iload hx hb dX14_sell_28 (lv_at hl 0 rfl) ?_
  refine lv_isub hx hb dX14_sell_30 ?_
  obtain ⟨hn31, h⟩ := itn_e h
  obtain ⟨v31, e31, h⟩ := bnd_e h
  refine w_ia2 (k := (k1 + 6)) hx hb hK hP hS hz hk1.2.2.2.2.2.2.1 hn31 e31 dX14_sell_31 fun H1 locs1 hz hP hS => ?_
  refine lv_aload_n hx hb dX14_sell_32 rfl (lv_at hl 3 rfl) ?_
  refine w_gr (k := k1) (r := (k1 + 6)) hx hb hts hown hK hP fX14_304 hk1.1 rfl dX14_sell_33 ?_
  refine lv_iload hx hb dX14_sell_36 (lv_at hl 1 rfl) ?_
  refine lv_dup2_11 hx hb dX14_sell_38 rfl rfl ?_
  obtain ⟨hn39, h⟩ := itn_e h
  refine w_iald (k := (k1 + 6)) hx hb hK hP hk1.2.2.2.2.2.2.1 hn39 dX14_sell_39 ?_
  refine lv_iload hx hb dX14_sell_40 (lv_at hl 0 rfl) ?_
  refine lv_iadd hx hb dX14_sell_42 ?_
  obtain ⟨hn43, h⟩ := itn_e h
  obtain ⟨v43, e43, h⟩ := bnd_e h
  refine w_ia2 (k := (k1 + 6)) hx hb hK hP hS hz hk1.2.2.2.2.2.2.1 hn43 e43 dX14_sell_43 fun H1 locs1 hz hP hS => ?_
  refine lv_aload_n hx hb dX14_sell_44 rfl (lv_at hl 3 rfl) ?_
  refine w_gr (k := k1) (r := (k1 + 7)) hx hb hts hown hK hP fX14_357 hk1.1 rfl dX14_sell_45 ?_
  refine lv_bipush (v := 6) hx hb dX14_sell_48 rfl ?_
  refine lv_iload_n hx hb dX14_sell_50 rfl (lv_at hl 5 rfl) ?_
  refine lv_imul hx hb dX14_sell_51 ?_
  refine lv_iload hx hb dX14_sell_52 (lv_at hl 1 rfl) ?_
  refine lv_iadd hx hb dX14_sell_54 ?_
  refine lv_dup2_11 hx hb dX14_sell_55 rfl rfl ?_
  obtain ⟨hn56, h⟩ := itn_e h
  refine w_iald (k := (k1 + 7)) hx hb hK hP hk1.2.2.2.2.2.2.2.1 hn56 dX14_sell_56 ?_
  refine lv_iload hx hb dX14_sell_57 (lv_at hl 6 rfl) ?_
  refine lv_iload hx hb dX14_sell_59 (lv_at hl 0 rfl) ?_
  refine lv_isub hx hb dX14_sell_61 ?_
  refine lv_iadd hx hb dX14_sell_62 ?_
  obtain ⟨hn63, h⟩ := itn_e h
  obtain ⟨v63, e63, h⟩ := bnd_e h
  refine w_ia2 (k := (k1 + 7)) hx hb hK hP hS hz hk1.2.2.2.2.2.2.2.1 hn63 e63 dX14_sell_63 fun H1 locs1 hz hP hS => ?_
  refine lv_aload_n hx hb dX14_sell_64 rfl (lv_at hl 3 rfl) ?_
  refine w_gr (k := k1) (r := (k1 + 2)) hx hb hts hown hK hP fX14_283 hk1.1 rfl dX14_sell_65 ?_
  refine lv_iload_n hx hb dX14_sell_68 rfl (lv_at hl 4 rfl) ?_
  refine lv_iload_n hx hb dX14_sell_69 rfl (lv_at hl 5 rfl) ?_
  obtain ⟨hn70, h⟩ := itn_e h
  obtain ⟨v70, e70, h⟩ := bnd_e h
  refine w_ia2 (k := (k1 + 2)) hx hb hK hP hS hz hk1.2.2.1 hn70 e70 dX14_sell_70 fun H1 locs1 hz hP hS => ?_
  refine lv_aload_n hx hb dX14_sell_71 rfl (lv_at hl 3 rfl) ?_
  refine lv_dup hx hb dX14_sell_72 rfl ?_
  refine w_gi (k := k1) hx hb hts hown hK hP fX14_359 hk1.1 rfl dX14_sell_73 ?_
  refine lv_iconst (v := 1) hx hb dX14_sell_76 rfl ?_
  refine lv_iadd hx hb dX14_sell_77 ?_
  obtain ⟨v78, e78, h⟩ := bnd_e h
  refine w_pi2 (k := k1) hx hb hts hown hK hP hS hz fX14_359 hk1.1 rfl e78 dX14_sell_78 fun H1 locs1 hz hP hS => ?_
  exact w_vret hx hb hret hlk hK hP hS hz hE (Option.some.inj h) dX14_sell_81
def f_Model_pay (v : Va) (sp : Nat) (k1 : Nat) (a2 : Int32) (a3 : Int32) (a4 : Int32) : Option Va := if a2 < 0 ∨ 6 ≤ a2.toNatClampNeg then none else if a2 < 0 ∨ 6 ≤ a2.toNatClampNeg then none else bnd (pu v (k1 + 6) a2.toNatClampNeg ((v (k1 + 6) a2.toNatClampNeg) - a4)) fun v10 => if a3 < 0 ∨ 6 ≤ a3.toNatClampNeg then none else if a3 < 0 ∨ 6 ≤ a3.toNatClampNeg then none else bnd (pu v10 (k1 + 6) a3.toNatClampNeg ((v10 (k1 + 6) a3.toNatClampNeg) + a4)) fun v21 => if ((6 * a2) + a3) < 0 ∨ 36 ≤ ((6 * a2) + a3).toNatClampNeg then none else if ((6 * a2) + a3) < 0 ∨ 36 ≤ ((6 * a2) + a3).toNatClampNeg then none else bnd (pu v21 (k1 + 7) ((6 * a2) + a3).toNatClampNeg ((v21 (k1 + 7) ((6 * a2) + a3).toNatClampNeg) - a4)) fun v37 => bnd (pu v37 k1 4 ((v37 k1 4) + 1)) fun v45 => some v45
theorem c_Model_pay {sp : Nat} {k1 : Nat} {a2 : Int32} {a3 : Int32} {a4 : Int32} (hk : isModel sh sp) (hk1 : isState sh k1) {q : Va} (h : f_Model_pay v sp k1 a2 a3 a4 = some q) : MetV l yX14_pay cX14_pay 5 none 0 Γ sh v w n [.ref (Γ.2.1 + 149), .ref (Γ.2.1 + k1), .int a2, .int a3, .int a4] (fun u => u = q) := by
  unfold f_Model_pay at h
  refine w_start pn_X14 (Nat.le_of_ble_eq_true rfl) fun p e s m args below meth c hx hb hml hret hlk hnm hts hown hK hP hz hE hS ls hl => ?_
  refine lv_aload_n hx hb dX14_pay_0 rfl (lv_at hl 1 rfl) ?_
  refine w_gr (k := k1) (r := (k1 + 6)) hx hb hts hown hK hP fX14_304 hk1.1 rfl dX14_pay_1 ?_
  refine lv_iload_n hx hb dX14_pay_4 rfl (lv_at hl 2 rfl) ?_
  refine lv_dup2_11 hx hb dX14_pay_5 rfl rfl ?_
  obtain ⟨hn6, h⟩ := itn_e h
  refine w_iald (k := (k1 + 6)) hx hb hK hP hk1.2.2.2.2.2.2.1 hn6 dX14_pay_6 ?_
  refine lv_iload hx hb dX14_pay_7 (lv_at hl 4 rfl) ?_
  refine lv_isub hx hb dX14_pay_9 ?_
  obtain ⟨hn10, h⟩ := itn_e h
  obtain ⟨v10, e10, h⟩ := bnd_e h
  refine w_ia2 (k := (k1 + 6)) hx hb hK hP hS hz hk1.2.2.2.2.2.2.1 hn10 e10 dX14_pay_10 fun H1 locs1 hz hP hS => ?_
  refine lv_aload_n hx hb dX14_pay_11 rfl (lv_at hl 1 rfl) ?_
  refine w_gr (k := k1) (r := (k1 + 6)) hx hb hts hown hK hP fX14_304 hk1.1 rfl dX14_pay_12 ?_
  refine lv_iload_n hx hb dX14_pay_15 rfl (lv_at hl 3 rfl) ?_
  refine lv_dup2_11 hx hb dX14_pay_16 rfl rfl ?_
  obtain ⟨hn17, h⟩ := itn_e h
  refine w_iald (k := (k1 + 6)) hx hb hK hP hk1.2.2.2.2.2.2.1 hn17 dX14_pay_17 ?_
  refine lv_iload hx hb dX14_pay_18 (lv_at hl 4 rfl) ?_
  refine lv_iadd hx hb dX14_pay_20 ?_
  obtain ⟨hn21, h⟩ := itn_e h
  obtain ⟨v21, e21, h⟩ := bnd_e h
  refine w_ia2 (k := (k1 + 6)) hx hb hK hP hS hz hk1.2.2.2.2.2.2.1 hn21 e21 dX14_pay_21 fun H1 locs1 hz hP hS => ?_
  refine lv_aload_n hx hb dX14_pay_22 rfl (lv_at hl 1 rfl) ?_
  refine w_gr (k := k1) (r := (k1 + 7)) hx hb hts hown hK hP fX14_357 hk1.1 rfl dX14_pay_23 ?_
  refine lv_bipush (v := 6) hx hb dX14_pay_26 rfl ?_
  refine lv_iload_n hx hb dX14_pay_28 rfl (lv_at hl 2 rfl) ?_
  refine lv_imul hx hb dX14_pay_29 ?_
  refine lv_iload_n hx hb dX14_pay_30 rfl (lv_at hl 3 rfl) ?_
  refine lv_iadd hx hb dX14_pay_31 ?_
  refine lv_dup2_11 hx hb dX14_pay_32 rfl rfl ?_
  obtain ⟨hn33, h⟩ := itn_e h
  refine w_iald (k := (k1 + 7)) hx hb hK hP hk1.2.2.2.2.2.2.2.1 hn33 dX14_pay_33 ?_
  refine lv_iload hx hb dX14_pay_34 (lv_at hl 4 rfl) ?_
  refine lv_isub hx hb dX14_pay_36 ?_
  obtain ⟨hn37, h⟩ := itn_e h
  obtain ⟨v37, e37, h⟩ := bnd_e h
  refine w_ia2 (k := (k1 + 7)) hx hb hK hP hS hz hk1.2.2.2.2.2.2.2.1 hn37 e37 dX14_pay_37 fun H1 locs1 hz hP hS => ?_
  refine lv_aload_n hx hb dX14_pay_38 rfl (lv_at hl 1 rfl) ?_
  refine lv_dup hx hb dX14_pay_39 rfl ?_
  refine w_gi (k := k1) hx hb hts hown hK hP fX14_362 hk1.1 rfl dX14_pay_40 ?_
  refine lv_iconst (v := 1) hx hb dX14_pay_43 rfl ?_
  refine lv_iadd hx hb dX14_pay_44 ?_
  obtain ⟨v45, e45, h⟩ := bnd_e h
  refine w_pi2 (k := k1) hx hb hts hown hK hP hS hz fX14_362 hk1.1 rfl e45 dX14_pay_45 fun H1 locs1 hz hP hS => ?_
  exact w_vret hx hb hret hlk hK hP hS hz hE (Option.some.inj h) dX14_pay_48
def j_Model_carry_99 (k1 : Nat) (a2 : Int32) (v99 : Va) : Option (Bool × Va) := if a2 < 0 ∨ 24 ≤ a2.toNatClampNeg then none else if a2 < 0 ∨ 24 ≤ a2.toNatClampNeg then none else bnd (pu v99 (k1 + 9) a2.toNatClampNeg ((v99 (k1 + 9) a2.toNatClampNeg) + 1)) fun v108 => some (true, v108)
def f_Model_carry (z : Nat) (v : Va) (sp : Nat) (k1 : Nat) (a2 : Int32) : Option (Bool × Va) := (f_Model_can z v sp k1 a2).bind fun q3 => if (q_b q3.1) = 0 then (some (false, q3.2)) else (if a2 < 0 ∨ 24 ≤ a2.toNatClampNeg then none else if a2 < 0 ∨ 24 ≤ a2.toNatClampNeg then none else if a2 < 0 ∨ 24 ≤ a2.toNatClampNeg then none else if (q3.2 (sp + 17) a2.toNatClampNeg) = 0 then ((f_Model_weigh q3.2 sp k1 (q3.2 (sp + 18) a2.toNatClampNeg) (q3.2 (sp + 19) a2.toNatClampNeg)).bind fun q49 => j_Model_carry_99 k1 a2 q49) else (if a2 < 0 ∨ 24 ≤ a2.toNatClampNeg then none else if (q3.2 (sp + 17) a2.toNatClampNeg) = 1 then ((f_Model_priceOf z q3.2 sp k1 a2).bind fun q76 => (f_Model_sell q76.2 sp k1 (q3.2 (sp + 18) a2.toNatClampNeg) (q3.2 (sp + 19) a2.toNatClampNeg) q76.1).bind fun q79 => j_Model_carry_99 k1 a2 q79) else ((f_Model_payOf z q3.2 sp k1 a2).bind fun q93 => (f_Model_pay q93.2 sp k1 (q3.2 (sp + 18) a2.toNatClampNeg) (q3.2 (sp + 19) a2.toNatClampNeg) q93.1).bind fun q96 => j_Model_carry_99 k1 a2 q96)))
theorem c_Model_carry {sp : Nat} {k1 : Nat} {a2 : Int32} (hk : isModel sh sp) (hk1 : isState sh k1) {q : Bool × Va} (h : f_Model_carry z v sp k1 a2 = some q) : MetI l yX14_carry cX14_carry 5 (some .boolean) 56 Γ sh v w n [.ref (Γ.2.1 + 149), .ref (Γ.2.1 + k1), .int a2] (fun x u => x = q_b q.1 ∧ u = q.2) := by
  unfold f_Model_carry at h
  refine w_start pn_X14 (Nat.le_of_ble_eq_true rfl) fun p e s m args below meth c hx hb hml hret hlk hnm hts hown hK hP hz hE hS ls hl => ?_
  refine lv_aload_n hx hb dX14_carry_0 rfl (lv_at hl 0 rfl) ?_
  refine lv_aload_n hx hb dX14_carry_1 rfl (lv_at hl 1 rfl) ?_
  refine lv_iload_n hx hb dX14_carry_2 rfl (lv_at hl 2 rfl) ?_
  obtain ⟨q3, e3, h⟩ := obn_e h
  refine z_Vi (k := 149) (r1 := (q_b q3.1)) (v1 := q3.2) hx hb hml hts hown hK hP hS hz hE (c_Model_can hk hk1 e3) kX14_can mX14_365 hk.1 rfl rfl rfl hl.1 (Nat.le_of_ble_eq_true rfl) ⟨Nat.le_of_ble_eq_true rfl, Nat.le_of_ble_eq_true rfl⟩ ⟨Nat.le_refl _, Nat.le_refl _⟩ dX14_carry_3 fun H1 locs1 hz hP hS => ?_
  refine lv_if_ne (tgt := 11) hx hb dX14_carry_6 rfl (fun hc6 => ?_) (fun hc6 => ?_)
  · have h := itf_e h hc6
    refine lv_aload_n hx hb dX14_carry_11 rfl (lv_at hl 0 rfl) ?_
    refine w_gr (k := 149) (r := sp) hx hb hts hown hK hP fX14_20 hk.1 rfl dX14_carry_12 ?_
    refine w_gr (k := sp) (r := (sp + 18)) hx hb hts hown hK hP fX14_205 hk.2.2.1.1 rfl dX14_carry_15 ?_
    refine lv_iload_n hx hb dX14_carry_18 rfl (lv_at hl 2 rfl) ?_
    obtain ⟨hn19, h⟩ := itn_e h
    refine w_iald (k := (sp + 18)) hx hb hK hP hk.2.2.1.2.2.2.2.2.2.2.2.2.2.2.2.2.2.2.2.2.2.1 hn19 dX14_carry_19 ?_
    refine lv_istore_n (lv' := [(3, .int (q3.2 (sp + 18) a2.toNatClampNeg)), (0, .ref (Γ.2.1 + 149)), (1, .ref (Γ.2.1 + k1)), (2, .int a2)]) hx hb dX14_carry_20 rfl hl (by decide) rfl fun ls hl => ?_
    refine lv_aload_n hx hb dX14_carry_21 rfl (lv_at hl 1 rfl) ?_
    refine w_gr (k := 149) (r := sp) hx hb hts hown hK hP fX14_20 hk.1 rfl dX14_carry_22 ?_
    refine w_gr (k := sp) (r := (sp + 19)) hx hb hts hown hK hP fX14_211 hk.2.2.1.1 rfl dX14_carry_25 ?_
    refine lv_iload_n hx hb dX14_carry_28 rfl (lv_at hl 3 rfl) ?_
    obtain ⟨hn29, h⟩ := itn_e h
    refine w_iald (k := (sp + 19)) hx hb hK hP hk.2.2.1.2.2.2.2.2.2.2.2.2.2.2.2.2.2.2.2.2.2.2.1 hn29 dX14_carry_29 ?_
    refine lv_istore (lv' := [(4, .int (q3.2 (sp + 19) a2.toNatClampNeg)), (3, .int (q3.2 (sp + 18) a2.toNatClampNeg)), (0, .ref (Γ.2.1 + 149)), (1, .ref (Γ.2.1 + k1)), (2, .int a2)]) hx hb dX14_carry_30 hl (by decide) rfl fun ls hl => ?_
    refine lv_aload_n hx hb dX14_carry_32 rfl (lv_at hl 2 rfl) ?_
    refine w_gr (k := 149) (r := sp) hx hb hts hown hK hP fX14_20 hk.1 rfl dX14_carry_33 ?_
    refine w_gr (k := sp) (r := (sp + 17)) hx hb hts hown hK hP fX14_239 hk.2.2.1.1 rfl dX14_carry_36 ?_
    refine lv_iload_n hx hb dX14_carry_39 rfl (lv_at hl 4 rfl) ?_
    obtain ⟨hn40, h⟩ := itn_e h
    refine w_iald (k := (sp + 17)) hx hb hK hP hk.2.2.1.2.2.2.2.2.2.2.2.2.2.2.2.2.2.2.2.2.1 hn40 dX14_carry_40 ?_
    have J99 : ∀ (v99 : Va), (j_Model_carry_99 k1 a2) v99 = some q → ∀ (H1 : Heap) (locs1 : List Loc) (ls1 : Array Slot), lv_has ls1 5 [(1, .ref (Γ.2.1 + k1)), (2, .int a2)] → Wd Γ sh v99 w H1 → va_S (gA Γ) s.heap H1 locs1 → H1.size = Γ.2.1 + n → wpI Γ sh w n 56 (fun x u => x = q_b q.1 ∧ u = q.2) p l e s m args below meth c H1 locs1 (F0 m 99 ls1 []) := by
      intro v99 h H1 locs1 ls hl hP hS hz
      unfold j_Model_carry_99 at h
      refine lv_aload_n hx hb dX14_carry_99 rfl (lv_at hl 0 rfl) ?_
      refine w_gr (k := k1) (r := (k1 + 9)) hx hb hts hown hK hP fX14_379 hk1.1 rfl dX14_carry_100 ?_
      refine lv_iload_n hx hb dX14_carry_103 rfl (lv_at hl 1 rfl) ?_
      refine lv_dup2_11 hx hb dX14_carry_104 rfl rfl ?_
      obtain ⟨hn105, h⟩ := itn_e h
      refine w_iald (k := (k1 + 9)) hx hb hK hP hk1.2.2.2.2.2.2.2.2.2.1 hn105 dX14_carry_105 ?_
      refine lv_iconst (v := 1) hx hb dX14_carry_106 rfl ?_
      refine lv_iadd hx hb dX14_carry_107 ?_
      obtain ⟨hn108, h⟩ := itn_e h
      obtain ⟨v108, e108, h⟩ := bnd_e h
      refine w_ia2 (k := (k1 + 9)) hx hb hK hP hS hz hk1.2.2.2.2.2.2.2.2.2.1 hn108 e108 dX14_carry_108 fun H1 locs1 hz hP hS => ?_
      refine lv_iconst (v := 1) hx hb dX14_carry_109 rfl ?_
      exact w_iret hx hb hret rfl hlk hK hP hS hz hE (q_p2b h) dX14_carry_110
    refine lv_if_ne (tgt := 55) hx hb dX14_carry_41 rfl (fun hc41 => ?_) (fun hc41 => ?_)
    · have h := itf_e h hc41
      refine lv_aload_n hx hb dX14_carry_55 rfl (lv_at hl 2 rfl) ?_
      refine w_gr (k := 149) (r := sp) hx hb hts hown hK hP fX14_20 hk.1 rfl dX14_carry_56 ?_
      refine w_gr (k := sp) (r := (sp + 17)) hx hb hts hown hK hP fX14_239 hk.2.2.1.1 rfl dX14_carry_59 ?_
      refine lv_iload_n hx hb dX14_carry_62 rfl (lv_at hl 4 rfl) ?_
      obtain ⟨hn63, h⟩ := itn_e h
      refine w_iald (k := (sp + 17)) hx hb hK hP hk.2.2.1.2.2.2.2.2.2.2.2.2.2.2.2.2.2.2.2.2.1 hn63 dX14_carry_63 ?_
      refine lv_iconst (v := 1) hx hb dX14_carry_64 rfl ?_
      refine lv_icmp_ne (tgt := 85) hx hb dX14_carry_65 rfl (fun hc65 => ?_) (fun hc65 => ?_)
      · have h := itf_e h hc65
        refine lv_aload_n hx hb dX14_carry_85 rfl (lv_at hl 2 rfl) ?_
        refine lv_aload_n hx hb dX14_carry_86 rfl (lv_at hl 3 rfl) ?_
        refine lv_iload_n hx hb dX14_carry_87 rfl (lv_at hl 1 rfl) ?_
        refine lv_iload hx hb dX14_carry_88 (lv_at hl 0 rfl) ?_
        refine lv_aload_n hx hb dX14_carry_90 rfl (lv_at hl 2 rfl) ?_
        refine lv_aload_n hx hb dX14_carry_91 rfl (lv_at hl 3 rfl) ?_
        refine lv_iload_n hx hb dX14_carry_92 rfl (lv_at hl 4 rfl) ?_
        obtain ⟨q93, e93, h⟩ := obn_e h
        refine z_Vi (k := 149) (r1 := q93.1) (v1 := q93.2) hx hb hml hts hown hK hP hS hz hE (c_Model_payOf hk hk1 e93) kX14_payOf mX14_345 hk.1 rfl rfl rfl hl.1 (Nat.le_of_ble_eq_true rfl) ⟨Nat.le_of_ble_eq_true rfl, Nat.le_of_ble_eq_true rfl⟩ ⟨Nat.le_refl _, Nat.le_refl _⟩ dX14_carry_93 fun H1 locs1 hz hP hS => ?_
        obtain ⟨q96, e96, h⟩ := obn_e h
        refine z_Vv (k := 149) (v1 := q96) hx hb hml hts hown hK hP hS hz hE (c_Model_pay hk hk1 e96) kX14_pay mX14_376 hk.1 rfl rfl rfl hl.1 (Nat.le_of_ble_eq_true rfl) ⟨Nat.le_of_ble_eq_true rfl, Nat.le_of_ble_eq_true rfl⟩ ⟨Nat.le_refl _, Nat.le_refl _⟩ dX14_carry_96 fun H1 locs1 hz hP hS => ?_
        exact J99 q96 h _ _ _ (lv_sub hl [3, 4] rfl) hP hS hz
      · have h := itt_e h hc65
        refine lv_aload_n hx hb dX14_carry_68 rfl (lv_at hl 2 rfl) ?_
        refine lv_aload_n hx hb dX14_carry_69 rfl (lv_at hl 3 rfl) ?_
        refine lv_iload_n hx hb dX14_carry_70 rfl (lv_at hl 1 rfl) ?_
        refine lv_iload hx hb dX14_carry_71 (lv_at hl 0 rfl) ?_
        refine lv_aload_n hx hb dX14_carry_73 rfl (lv_at hl 2 rfl) ?_
        refine lv_aload_n hx hb dX14_carry_74 rfl (lv_at hl 3 rfl) ?_
        refine lv_iload_n hx hb dX14_carry_75 rfl (lv_at hl 4 rfl) ?_
        obtain ⟨q76, e76, h⟩ := obn_e h
        refine z_Vi (k := 149) (r1 := q76.1) (v1 := q76.2) hx hb hml hts hown hK hP hS hz hE (c_Model_priceOf hk hk1 e76) kX14_priceOf mX14_335 hk.1 rfl rfl rfl hl.1 (Nat.le_of_ble_eq_true rfl) ⟨Nat.le_of_ble_eq_true rfl, Nat.le_of_ble_eq_true rfl⟩ ⟨Nat.le_refl _, Nat.le_refl _⟩ dX14_carry_76 fun H1 locs1 hz hP hS => ?_
        obtain ⟨q79, e79, h⟩ := obn_e h
        refine z_Vv (k := 149) (v1 := q79) hx hb hml hts hown hK hP hS hz hE (c_Model_sell hk hk1 e79) kX14_sell mX14_372 hk.1 rfl rfl rfl hl.1 (Nat.le_of_ble_eq_true rfl) ⟨Nat.le_of_ble_eq_true rfl, Nat.le_of_ble_eq_true rfl⟩ ⟨Nat.le_refl _, Nat.le_refl _⟩ dX14_carry_79 fun H1 locs1 hz hP hS => ?_
        refine lv_goto (tgt := 99) hx hb dX14_carry_82 rfl ?_
        exact J99 q79 h _ _ _ (lv_sub hl [3, 4] rfl) hP hS hz
    · have h := itt_e h hc41
      refine lv_aload_n hx hb dX14_carry_44 rfl (lv_at hl 2 rfl) ?_
      refine lv_aload_n hx hb dX14_carry_45 rfl (lv_at hl 3 rfl) ?_
      refine lv_iload_n hx hb dX14_carry_46 rfl (lv_at hl 1 rfl) ?_
      refine lv_iload hx hb dX14_carry_47 (lv_at hl 0 rfl) ?_
      obtain ⟨q49, e49, h⟩ := obn_e h
      refine z_Vv (k := 149) (v1 := q49) hx hb hml hts hown hK hP hS hz hE (c_Model_weigh hk hk1 e49) kX14_weigh mX14_368 hk.1 rfl rfl rfl hl.1 (Nat.le_of_ble_eq_true rfl) ⟨Nat.le_of_ble_eq_true rfl, Nat.le_of_ble_eq_true rfl⟩ ⟨Nat.le_refl _, Nat.le_refl _⟩ dX14_carry_49 fun H1 locs1 hz hP hS => ?_
      refine lv_goto (tgt := 99) hx hb dX14_carry_52 rfl ?_
      exact J99 q49 h _ _ _ (lv_sub hl [3, 4] rfl) hP hS hz
  · have h := itt_e h hc6
    refine lv_iconst (v := 0) hx hb dX14_carry_9 rfl ?_
    exact w_iret hx hb hret rfl hlk hK hP hS hz hE (q_p2b h) dX14_carry_10
def f_Model_lossOf (v : Va) (sp : Nat) (k1 : Nat) (a2 : Int32) : Option Int32 := if a2 < 0 ∨ 10 ≤ a2.toNatClampNeg then none else if a2 < 0 ∨ 10 ≤ a2.toNatClampNeg then none else if (v (sp + 14) a2.toNatClampNeg) < 0 ∨ 4 ≤ (v (sp + 14) a2.toNatClampNeg).toNatClampNeg then none else some ((((v (k1 + 1) a2.toNatClampNeg) * (v (sp + 6) (v (sp + 14) a2.toNatClampNeg).toNatClampNeg)) * (v k1 1)) / 1000)
theorem c_Model_lossOf {sp : Nat} {k1 : Nat} {a2 : Int32} (hk : isModel sh sp) (hk1 : isState sh k1) {q : Int32} (h : f_Model_lossOf v sp k1 a2 = some q) : MetI l yX14_lossOf cX14_lossOf 3 (some .int) 0 Γ sh v w n [.ref (Γ.2.1 + 149), .ref (Γ.2.1 + k1), .int a2] (fun x u => x = q ∧ u = v) := by
  unfold f_Model_lossOf at h
  refine w_start pn_X14 (Nat.le_of_ble_eq_true rfl) fun p e s m args below meth c hx hb hml hret hlk hnm hts hown hK hP hz hE hS ls hl => ?_
  refine lv_aload_n hx hb dX14_lossOf_0 rfl (lv_at hl 1 rfl) ?_
  refine w_gr (k := k1) (r := (k1 + 1)) hx hb hts hown hK hP fX14_292 hk1.1 rfl dX14_lossOf_1 ?_
  refine lv_iload_n hx hb dX14_lossOf_4 rfl (lv_at hl 2 rfl) ?_
  obtain ⟨hn5, h⟩ := itn_e h
  refine w_iald (k := (k1 + 1)) hx hb hK hP hk1.2.1 hn5 dX14_lossOf_5 ?_
  refine lv_aload_n hx hb dX14_lossOf_6 rfl (lv_at hl 0 rfl) ?_
  refine w_gr (k := 149) (r := sp) hx hb hts hown hK hP fX14_20 hk.1 rfl dX14_lossOf_7 ?_
  refine w_gr (k := sp) (r := (sp + 6)) hx hb hts hown hK hP fX14_217 hk.2.2.1.1 rfl dX14_lossOf_10 ?_
  refine lv_aload_n hx hb dX14_lossOf_13 rfl (lv_at hl 0 rfl) ?_
  refine w_gr (k := 149) (r := sp) hx hb hts hown hK hP fX14_20 hk.1 rfl dX14_lossOf_14 ?_
  refine w_gr (k := sp) (r := (sp + 14)) hx hb hts hown hK hP fX14_199 hk.2.2.1.1 rfl dX14_lossOf_17 ?_
  refine lv_iload_n hx hb dX14_lossOf_20 rfl (lv_at hl 2 rfl) ?_
  obtain ⟨hn21, h⟩ := itn_e h
  refine w_iald (k := (sp + 14)) hx hb hK hP hk.2.2.1.2.2.2.2.2.2.2.2.2.2.2.2.2.2.1 hn21 dX14_lossOf_21 ?_
  obtain ⟨hn22, h⟩ := itn_e h
  refine w_iald (k := (sp + 6)) hx hb hK hP hk.2.2.1.2.2.2.2.2.2.1 hn22 dX14_lossOf_22 ?_
  refine lv_imul hx hb dX14_lossOf_23 ?_
  refine lv_aload_n hx hb dX14_lossOf_24 rfl (lv_at hl 1 rfl) ?_
  refine w_gi (k := k1) hx hb hts hown hK hP fX14_311 hk1.1 rfl dX14_lossOf_25 ?_
  refine lv_imul hx hb dX14_lossOf_28 ?_
  refine lv_sipush (v := 1000) hx hb dX14_lossOf_29 rfl ?_
  refine lv_idiv hx hb dX14_lossOf_32 (by decide) ?_
  exact w_iret hx hb hret rfl hlk hK hP hS hz hE (q_p1 h) dX14_lossOf_33
def b_Model_lose_2 (sp : Nat) (k1 : Nat) (K2 : (Int32 × Va) → Option Va) (t2 : Int32 × Va) : Option Va := if (t2.2 sp 15) ≤ t2.1 then (some t2.2) else (if t2.1 < 0 ∨ 10 ≤ t2.1.toNatClampNeg then none else (f_Model_lossOf t2.2 sp k1 t2.1).bind fun q23 => if t2.1 < 0 ∨ 10 ≤ t2.1.toNatClampNeg then none else bnd (pu t2.2 (k1 + 1) t2.1.toNatClampNeg ((t2.2 (k1 + 1) t2.1.toNatClampNeg) - q23)) fun v27 => K2 ((t2.1 + 1), v27))
def f_Model_lose (z : Nat) (v : Va) (sp : Nat) (k1 : Nat) : Option Va := rp (b_Model_lose_2 sp k1) z (0, v)
theorem c_Model_lose {sp : Nat} {k1 : Nat} (hk : isModel sh sp) (hk1 : isState sh k1) {q : Va} (h : f_Model_lose z v sp k1 = some q) : MetV l yX14_lose cX14_lose 3 none 1 Γ sh v w n [.ref (Γ.2.1 + 149), .ref (Γ.2.1 + k1)] (fun u => u = q) := by
  unfold f_Model_lose at h
  refine w_start pn_X14 (Nat.le_of_ble_eq_true rfl) fun p e s m args below meth c hx hb hml hret hlk hnm hts hown hK hP hz hE hS ls hl => ?_
  refine lv_iconst (v := 0) hx hb dX14_lose_0 rfl ?_
  refine lv_istore_n (lv' := [(2, .int 0), (0, .ref (Γ.2.1 + 149)), (1, .ref (Γ.2.1 + k1))]) hx hb dX14_lose_1 rfl hl (by decide) rfl fun ls hl => ?_
  have L2 : ∀ (fu : Nat) (t2 : Int32 × Va), rp (b_Model_lose_2 sp k1) fu t2 = some q → ∀ (H1 : Heap) (locs1 : List Loc) (ls1 : Array Slot), lv_has ls1 3 [(0, .ref (Γ.2.1 + 149)), (1, .ref (Γ.2.1 + k1)), (2, .int t2.1)] → Wd Γ sh t2.2 w H1 → va_S (gA Γ) s.heap H1 locs1 → H1.size = Γ.2.1 + n → wpV Γ sh w n 1 (fun u => u = q) p l e s m args below meth c H1 locs1 (F0 m 2 ls1 []) := by
    refine q_loop (fun K2 ih2 t2 h H1 locs1 ls hl hP hS hz => ?_)
    unfold b_Model_lose_2 at h
    refine lv_iload_n hx hb dX14_lose_2 rfl (lv_at hl 2 rfl) ?_
    refine lv_aload_n hx hb dX14_lose_3 rfl (lv_at hl 0 rfl) ?_
    refine w_gr (k := 149) (r := sp) hx hb hts hown hK hP fX14_20 hk.1 rfl dX14_lose_4 ?_
    refine w_gi (k := sp) hx hb hts hown hK hP fX14_54 hk.2.2.1.1 rfl dX14_lose_7 ?_
    refine lv_icmp_ge (tgt := 34) hx hb dX14_lose_10 rfl (fun hc10 => ?_) (fun hc10 => ?_)
    · have h := itt_e h hc10
      exact w_vret hx hb hret hlk hK hP hS hz hE (Option.some.inj h) dX14_lose_34
    · have h := itf_e h hc10
      refine lv_aload_n hx hb dX14_lose_13 rfl (lv_at hl 1 rfl) ?_
      refine w_gr (k := k1) (r := (k1 + 1)) hx hb hts hown hK hP fX14_292 hk1.1 rfl dX14_lose_14 ?_
      refine lv_iload_n hx hb dX14_lose_17 rfl (lv_at hl 2 rfl) ?_
      refine lv_dup2_11 hx hb dX14_lose_18 rfl rfl ?_
      obtain ⟨hn19, h⟩ := itn_e h
      refine w_iald (k := (k1 + 1)) hx hb hK hP hk1.2.1 hn19 dX14_lose_19 ?_
      refine lv_aload_n hx hb dX14_lose_20 rfl (lv_at hl 0 rfl) ?_
      refine lv_aload_n hx hb dX14_lose_21 rfl (lv_at hl 1 rfl) ?_
      refine lv_iload_n hx hb dX14_lose_22 rfl (lv_at hl 2 rfl) ?_
      obtain ⟨q23, e23, h⟩ := obn_e h
      refine z_Vi (k := 149) (r1 := q23) (v1 := t2.2) hx hb hml hts hown hK hP hS hz hE (c_Model_lossOf hk hk1 e23) kX14_lossOf mX14_382 hk.1 rfl rfl rfl hl.1 (Nat.le_of_ble_eq_true rfl) ⟨Nat.le_of_ble_eq_true rfl, Nat.le_of_ble_eq_true rfl⟩ ⟨Nat.le_refl _, Nat.le_refl _⟩ dX14_lose_23 fun H1 locs1 hz hP hS => ?_
      refine lv_isub hx hb dX14_lose_26 ?_
      obtain ⟨hn27, h⟩ := itn_e h
      obtain ⟨v27, e27, h⟩ := bnd_e h
      refine w_ia2 (k := (k1 + 1)) hx hb hK hP hS hz hk1.2.1 hn27 e27 dX14_lose_27 fun H1 locs1 hz hP hS => ?_
      refine lv_iinc (k := 2) (v := (t2.1 + 1)) (lv' := [(2, .int (t2.1 + 1)), (0, .ref (Γ.2.1 + 149)), (1, .ref (Γ.2.1 + k1))]) hx hb dX14_lose_28 hl rfl rfl (by decide) rfl fun ls hl => ?_
      refine lv_goto (tgt := 2) hx hb dX14_lose_31 rfl ?_
      exact ih2 ((t2.1 + 1), v27) h _ _ _ (lv_sub hl [1, 2, 0] rfl) hP hS hz
  exact L2 z (0, v) h _ _ _ (lv_sub hl [1, 2, 0] rfl) hP hS hz
def j_Model_dayOn_111 (k1 : Nat) (t9 : Int32 × Int32 × Va) (t45 : Int32 × Va) : Option (Int32 × Va) := bnd (pu t45.2 k1 0 ((t45.2 k1 0) + 1)) fun v118 => some (t9.1, v118)
def j_Model_dayOn_105 (K45 : (Int32 × Va) → Option (Int32 × Va)) (t45 : Int32 × Va) (v105 : Va) : Option (Int32 × Va) := K45 ((t45.1 + 1), v105)
def b_Model_dayOn_45 (k1 : Nat) (t9 : Int32 × Int32 × Va) (K45 : (Int32 × Va) → Option (Int32 × Va)) (t45 : Int32 × Va) : Option (Int32 × Va) := if (nI 36) ≤ t45.1 then (j_Model_dayOn_111 k1 t9 t45) else (if ((t45.2 k1 0) - (t45.2 k1 0) / 7 * 7) = 6 then (if t45.1 < 0 ∨ 36 ≤ t45.1.toNatClampNeg then none else if (t45.2 (k1 + 7) t45.1.toNatClampNeg) ≤ 0 then (j_Model_dayOn_105 K45 t45 t45.2) else (if t45.1 < 0 ∨ 36 ≤ t45.1.toNatClampNeg then none else if t45.1 < 0 ∨ 36 ≤ t45.1.toNatClampNeg then none else if t45.1 < 0 ∨ 36 ≤ t45.1.toNatClampNeg then none else bnd (pu t45.2 (k1 + 7) t45.1.toNatClampNeg (q_min 99999 (((t45.2 (k1 + 7) t45.1.toNatClampNeg) + ((t45.2 (k1 + 7) t45.1.toNatClampNeg) / 20)) + 1))) fun v104 => j_Model_dayOn_105 K45 t45 v104)) else (j_Model_dayOn_111 k1 t9 t45))
def j_Model_dayOn_35 (K9 : (Int32 × Int32 × Va) → Option (Int32 × Va)) (t9 : Int32 × Int32 × Va) (q24 : Bool × Va) (s35_0 : Bool) : Option (Int32 × Va) := K9 ((t9.1 + (q_b s35_0)), (t9.2.1 + 1), q24.2)
def b_Model_dayOn_9 (z : Nat) (sp : Nat) (k1 : Nat) (K9 : (Int32 × Int32 × Va) → Option (Int32 × Va)) (t9 : Int32 × Int32 × Va) : Option (Int32 × Va) := if (t9.2.2 sp 20) ≤ t9.2.1 then (rp (b_Model_dayOn_45 k1 t9) z (0, t9.2.2)) else ((f_Model_carry z t9.2.2 sp k1 t9.2.1).bind fun q24 => if (q_b q24.1) = 0 then (j_Model_dayOn_35 K9 t9 q24 false) else (j_Model_dayOn_35 K9 t9 q24 true))
def f_Model_dayOn (z : Nat) (v : Va) (sp : Nat) (k1 : Nat) : Option (Int32 × Va) := (f_Model_lose z v sp k1).bind fun q2 => rp (b_Model_dayOn_9 z sp k1) z (0, 0, q2)
theorem c_Model_dayOn {sp : Nat} {k1 : Nat} (hk : isModel sh sp) (hk1 : isState sh k1) {q : Int32 × Va} (h : f_Model_dayOn z v sp k1 = some q) : MetI l yX14_dayOn cX14_dayOn 4 (some .int) 57 Γ sh v w n [.ref (Γ.2.1 + 149), .ref (Γ.2.1 + k1)] (fun x u => x = q.1 ∧ u = q.2) := by
  unfold f_Model_dayOn at h
  refine w_start pn_X14 (Nat.le_of_ble_eq_true rfl) fun p e s m args below meth c hx hb hml hret hlk hnm hts hown hK hP hz hE hS ls hl => ?_
  refine lv_aload_n hx hb dX14_dayOn_0 rfl (lv_at hl 0 rfl) ?_
  refine lv_aload_n hx hb dX14_dayOn_1 rfl (lv_at hl 1 rfl) ?_
  obtain ⟨q2, e2, h⟩ := obn_e h
  refine z_Vv (k := 149) (v1 := q2) hx hb hml hts hown hK hP hS hz hE (c_Model_lose hk hk1 e2) kX14_lose mX14_385 hk.1 rfl rfl rfl hl.1 (Nat.le_of_ble_eq_true rfl) ⟨Nat.le_of_ble_eq_true rfl, Nat.le_of_ble_eq_true rfl⟩ ⟨Nat.le_refl _, Nat.le_refl _⟩ dX14_dayOn_2 fun H1 locs1 hz hP hS => ?_
  refine lv_iconst (v := 0) hx hb dX14_dayOn_5 rfl ?_
  refine lv_istore_n (lv' := [(2, .int 0), (0, .ref (Γ.2.1 + 149)), (1, .ref (Γ.2.1 + k1))]) hx hb dX14_dayOn_6 rfl hl (by decide) rfl fun ls hl => ?_
  refine lv_iconst (v := 0) hx hb dX14_dayOn_7 rfl ?_
  refine lv_istore_n (lv' := [(3, .int 0), (2, .int 0), (0, .ref (Γ.2.1 + 149)), (1, .ref (Γ.2.1 + k1))]) hx hb dX14_dayOn_8 rfl hl (by decide) rfl fun ls hl => ?_
  have L9 : ∀ (fu : Nat) (t9 : Int32 × Int32 × Va), rp (b_Model_dayOn_9 z sp k1) fu t9 = some q → ∀ (H1 : Heap) (locs1 : List Loc) (ls1 : Array Slot), lv_has ls1 4 [(0, .ref (Γ.2.1 + 149)), (1, .ref (Γ.2.1 + k1)), (2, .int t9.1), (3, .int t9.2.1)] → Wd Γ sh t9.2.2 w H1 → va_S (gA Γ) s.heap H1 locs1 → H1.size = Γ.2.1 + n → wpI Γ sh w n 57 (fun x u => x = q.1 ∧ u = q.2) p l e s m args below meth c H1 locs1 (F0 m 9 ls1 []) := by
    refine q_loop (fun K9 ih9 t9 h H1 locs1 ls hl hP hS hz => ?_)
    unfold b_Model_dayOn_9 at h
    refine lv_iload_n hx hb dX14_dayOn_9 rfl (lv_at hl 3 rfl) ?_
    refine lv_aload_n hx hb dX14_dayOn_10 rfl (lv_at hl 0 rfl) ?_
    refine w_gr (k := 149) (r := sp) hx hb hts hown hK hP fX14_20 hk.1 rfl dX14_dayOn_11 ?_
    refine w_gi (k := sp) hx hb hts hown hK hP fX14_208 hk.2.2.1.1 rfl dX14_dayOn_14 ?_
    refine lv_icmp_ge (tgt := 43) hx hb dX14_dayOn_17 rfl (fun hc17 => ?_) (fun hc17 => ?_)
    · have h := itt_e h hc17
      refine lv_iconst (v := 0) hx hb dX14_dayOn_43 rfl ?_
      refine lv_istore_n (lv' := [(3, .int 0), (0, .ref (Γ.2.1 + 149)), (1, .ref (Γ.2.1 + k1)), (2, .int t9.1)]) hx hb dX14_dayOn_44 rfl hl (by decide) rfl fun ls hl => ?_
      have L45 : ∀ (fu : Nat) (t45 : Int32 × Va), rp (b_Model_dayOn_45 k1 t9) fu t45 = some q → ∀ (H1 : Heap) (locs1 : List Loc) (ls1 : Array Slot), lv_has ls1 4 [(1, .ref (Γ.2.1 + k1)), (2, .int t9.1), (3, .int t45.1)] → Wd Γ sh t45.2 w H1 → va_S (gA Γ) s.heap H1 locs1 → H1.size = Γ.2.1 + n → wpI Γ sh w n 57 (fun x u => x = q.1 ∧ u = q.2) p l e s m args below meth c H1 locs1 (F0 m 45 ls1 []) := by
        refine q_loop (fun K45 ih45 t45 h H1 locs1 ls hl hP hS hz => ?_)
        unfold b_Model_dayOn_45 at h
        refine lv_iload_n hx hb dX14_dayOn_45 rfl (lv_at hl 2 rfl) ?_
        refine lv_aload_n hx hb dX14_dayOn_46 rfl (lv_at hl 0 rfl) ?_
        refine w_gr (k := k1) (r := (k1 + 7)) hx hb hts hown hK hP fX14_357 hk1.1 rfl dX14_dayOn_47 ?_
        refine w_alen (k := (k1 + 7)) hx hb hK hP hk1.2.2.2.2.2.2.2.1 dX14_dayOn_50 ?_
        have J111 : (j_Model_dayOn_111 k1 t9 t45) = some q → ∀ (H1 : Heap) (locs1 : List Loc) (ls1 : Array Slot), lv_has ls1 4 [(1, .ref (Γ.2.1 + k1)), (2, .int t9.1)] → Wd Γ sh t45.2 w H1 → va_S (gA Γ) s.heap H1 locs1 → H1.size = Γ.2.1 + n → wpI Γ sh w n 57 (fun x u => x = q.1 ∧ u = q.2) p l e s m args below meth c H1 locs1 (F0 m 111 ls1 []) := by
          intro  h H1 locs1 ls hl hP hS hz
          unfold j_Model_dayOn_111 at h
          refine lv_aload_n hx hb dX14_dayOn_111 rfl (lv_at hl 0 rfl) ?_
          refine lv_dup hx hb dX14_dayOn_112 rfl ?_
          refine w_gi (k := k1) hx hb hts hown hK hP fX14_308 hk1.1 rfl dX14_dayOn_113 ?_
          refine lv_iconst (v := 1) hx hb dX14_dayOn_116 rfl ?_
          refine lv_iadd hx hb dX14_dayOn_117 ?_
          obtain ⟨v118, e118, h⟩ := bnd_e h
          refine w_pi2 (k := k1) hx hb hts hown hK hP hS hz fX14_308 hk1.1 rfl e118 dX14_dayOn_118 fun H1 locs1 hz hP hS => ?_
          refine lv_iload_n hx hb dX14_dayOn_121 rfl (lv_at hl 1 rfl) ?_
          exact w_iret hx hb hret rfl hlk hK hP hS hz hE (q_p2 h) dX14_dayOn_122
        refine lv_icmp_ge (tgt := 111) hx hb dX14_dayOn_51 rfl (fun hc51 => ?_) (fun hc51 => ?_)
        · have h := itt_e h hc51
          exact J111 h _ _ _ (lv_sub hl [0, 1] rfl) hP hS hz
        · have h := itf_e h hc51
          refine lv_aload_n hx hb dX14_dayOn_54 rfl (lv_at hl 0 rfl) ?_
          refine w_gi (k := k1) hx hb hts hown hK hP fX14_308 hk1.1 rfl dX14_dayOn_55 ?_
          refine lv_bipush (v := 7) hx hb dX14_dayOn_58 rfl ?_
          refine lv_irem hx hb dX14_dayOn_60 (by decide) ?_
          refine lv_bipush (v := 6) hx hb dX14_dayOn_61 rfl ?_
          refine lv_icmp_ne (tgt := 111) hx hb dX14_dayOn_63 rfl (fun hc63 => ?_) (fun hc63 => ?_)
          · have h := itf_e h hc63
            exact J111 h _ _ _ (lv_sub hl [0, 1] rfl) hP hS hz
          · have h := itt_e h hc63
            refine lv_aload_n hx hb dX14_dayOn_66 rfl (lv_at hl 0 rfl) ?_
            refine w_gr (k := k1) (r := (k1 + 7)) hx hb hts hown hK hP fX14_357 hk1.1 rfl dX14_dayOn_67 ?_
            refine lv_iload_n hx hb dX14_dayOn_70 rfl (lv_at hl 2 rfl) ?_
            obtain ⟨hn71, h⟩ := itn_e h
            refine w_iald (k := (k1 + 7)) hx hb hK hP hk1.2.2.2.2.2.2.2.1 hn71 dX14_dayOn_71 ?_
            have J105 : ∀ (v105 : Va), (j_Model_dayOn_105 K45 t45) v105 = some q → ∀ (H1 : Heap) (locs1 : List Loc) (ls1 : Array Slot), lv_has ls1 4 [(1, .ref (Γ.2.1 + k1)), (2, .int t9.1), (3, .int t45.1)] → Wd Γ sh v105 w H1 → va_S (gA Γ) s.heap H1 locs1 → H1.size = Γ.2.1 + n → wpI Γ sh w n 57 (fun x u => x = q.1 ∧ u = q.2) p l e s m args below meth c H1 locs1 (F0 m 105 ls1 []) := by
              intro v105 h H1 locs1 ls hl hP hS hz
              unfold j_Model_dayOn_105 at h
              refine lv_iinc (k := 2) (v := (t45.1 + 1)) (lv' := [(3, .int (t45.1 + 1)), (1, .ref (Γ.2.1 + k1)), (2, .int t9.1)]) hx hb dX14_dayOn_105 hl rfl rfl (by decide) rfl fun ls hl => ?_
              refine lv_goto (tgt := 45) hx hb dX14_dayOn_108 rfl ?_
              exact ih45 ((t45.1 + 1), v105) h _ _ _ (lv_sub hl [1, 2, 0] rfl) hP hS hz
            refine lv_if_le (tgt := 105) hx hb dX14_dayOn_72 rfl (fun hc72 => ?_) (fun hc72 => ?_)
            · have h := itt_e h hc72
              exact J105 t45.2 h _ _ _ (lv_sub hl [0, 1, 2] rfl) hP hS hz
            · have h := itf_e h hc72
              refine lv_aload_n hx hb dX14_dayOn_75 rfl (lv_at hl 0 rfl) ?_
              refine w_gr (k := k1) (r := (k1 + 7)) hx hb hts hown hK hP fX14_357 hk1.1 rfl dX14_dayOn_76 ?_
              refine lv_iload_n hx hb dX14_dayOn_79 rfl (lv_at hl 2 rfl) ?_
              refine lv_ldcw hx hb hown (hts _ qX14_392) dX14_dayOn_80 ?_
              refine lv_aload_n hx hb dX14_dayOn_83 rfl (lv_at hl 0 rfl) ?_
              refine w_gr (k := k1) (r := (k1 + 7)) hx hb hts hown hK hP fX14_357 hk1.1 rfl dX14_dayOn_84 ?_
              refine lv_iload_n hx hb dX14_dayOn_87 rfl (lv_at hl 2 rfl) ?_
              obtain ⟨hn88, h⟩ := itn_e h
              refine w_iald (k := (k1 + 7)) hx hb hK hP hk1.2.2.2.2.2.2.2.1 hn88 dX14_dayOn_88 ?_
              refine lv_aload_n hx hb dX14_dayOn_89 rfl (lv_at hl 0 rfl) ?_
              refine w_gr (k := k1) (r := (k1 + 7)) hx hb hts hown hK hP fX14_357 hk1.1 rfl dX14_dayOn_90 ?_
              refine lv_iload_n hx hb dX14_dayOn_93 rfl (lv_at hl 2 rfl) ?_
              obtain ⟨hn94, h⟩ := itn_e h
              refine w_iald (k := (k1 + 7)) hx hb hK hP hk1.2.2.2.2.2.2.2.1 hn94 dX14_dayOn_94 ?_
              refine lv_bipush (v := 20) hx hb dX14_dayOn_95 rfl ?_
              refine lv_idiv hx hb dX14_dayOn_97 (by decide) ?_
              refine lv_iadd hx hb dX14_dayOn_98 ?_
              refine lv_iconst (v := 1) hx hb dX14_dayOn_99 rfl ?_
              refine lv_iadd hx hb dX14_dayOn_100 ?_
              refine z_mmin hx hb hml hl.1 hts hown xX14_320 ⟨Nat.le_of_ble_eq_true rfl, Nat.le_of_ble_eq_true rfl⟩ (Nat.le_of_ble_eq_true rfl) ⟨Nat.le_refl _, Nat.le_refl _⟩ dX14_dayOn_101 ?_
              obtain ⟨hn104, h⟩ := itn_e h
              obtain ⟨v104, e104, h⟩ := bnd_e h
              refine w_ia2 (k := (k1 + 7)) hx hb hK hP hS hz hk1.2.2.2.2.2.2.2.1 hn104 e104 dX14_dayOn_104 fun H1 locs1 hz hP hS => ?_
              exact J105 v104 h _ _ _ (lv_sub hl [0, 1, 2] rfl) hP hS hz
      exact L45 z (0, t9.2.2) h _ _ _ (lv_sub hl [2, 3, 0] rfl) hP hS hz
    · have h := itf_e h hc17
      refine lv_iload_n hx hb dX14_dayOn_20 rfl (lv_at hl 2 rfl) ?_
      refine lv_aload_n hx hb dX14_dayOn_21 rfl (lv_at hl 0 rfl) ?_
      refine lv_aload_n hx hb dX14_dayOn_22 rfl (lv_at hl 1 rfl) ?_
      refine lv_iload_n hx hb dX14_dayOn_23 rfl (lv_at hl 3 rfl) ?_
      obtain ⟨q24, e24, h⟩ := obn_e h
      refine z_Vi (k := 149) (r1 := (q_b q24.1)) (v1 := q24.2) hx hb hml hts hown hK hP hS hz hE (c_Model_carry hk hk1 e24) kX14_carry mX14_389 hk.1 rfl rfl rfl hl.1 (Nat.le_of_ble_eq_true rfl) ⟨Nat.le_of_ble_eq_true rfl, Nat.le_of_ble_eq_true rfl⟩ ⟨Nat.le_refl _, Nat.le_refl _⟩ dX14_dayOn_24 fun H1 locs1 hz hP hS => ?_
      have J35 : ∀ (s35_0 : Bool), (j_Model_dayOn_35 K9 t9 q24) s35_0 = some q → ∀ (H1 : Heap) (locs1 : List Loc) (ls1 : Array Slot), lv_has ls1 4 [(0, .ref (Γ.2.1 + 149)), (1, .ref (Γ.2.1 + k1)), (3, .int t9.2.1)] → Wd Γ sh q24.2 w H1 → va_S (gA Γ) s.heap H1 locs1 → H1.size = Γ.2.1 + n → wpI Γ sh w n 57 (fun x u => x = q.1 ∧ u = q.2) p l e s m args below meth c H1 locs1 (F0 m 35 ls1 [.int (q_b s35_0), .int t9.1]) := by
        intro s35_0 h H1 locs1 ls hl hP hS hz
        unfold j_Model_dayOn_35 at h
        refine lv_iadd hx hb dX14_dayOn_35 ?_
        refine lv_istore_n (lv' := [(2, .int (t9.1 + (q_b s35_0))), (0, .ref (Γ.2.1 + 149)), (1, .ref (Γ.2.1 + k1)), (3, .int t9.2.1)]) hx hb dX14_dayOn_36 rfl hl (by decide) rfl fun ls hl => ?_
        refine lv_iinc (k := 3) (v := (t9.2.1 + 1)) (lv' := [(3, .int (t9.2.1 + 1)), (2, .int (t9.1 + (q_b s35_0))), (0, .ref (Γ.2.1 + 149)), (1, .ref (Γ.2.1 + k1))]) hx hb dX14_dayOn_37 hl rfl rfl (by decide) rfl fun ls hl => ?_
        refine lv_goto (tgt := 9) hx hb dX14_dayOn_40 rfl ?_
        exact ih9 ((t9.1 + (q_b s35_0)), (t9.2.1 + 1), q24.2) h _ _ _ (lv_sub hl [2, 3, 1, 0] rfl) hP hS hz
      refine lv_if_eq (tgt := 34) hx hb dX14_dayOn_27 rfl (fun hc27 => ?_) (fun hc27 => ?_)
      · have h := itt_e h hc27
        refine lv_iconst (v := 0) hx hb dX14_dayOn_34 rfl ?_
        exact J35 false h _ _ _ (lv_sub hl [0, 1, 3] rfl) hP hS hz
      · have h := itf_e h hc27
        refine lv_iconst (v := 1) hx hb dX14_dayOn_30 rfl ?_
        refine lv_goto (tgt := 35) hx hb dX14_dayOn_31 rfl ?_
        exact J35 true h _ _ _ (lv_sub hl [0, 1, 3] rfl) hP hS hz
  exact L9 z (0, 0, q2) h _ _ _ (lv_sub hl [2, 3, 1, 0] rfl) hP hS hz
def b_Model_daysOn_5 (z : Nat) (sp : Nat) (k1 : Nat) (a2 : Int32) (K5 : (Int32 × Int32 × Va) → Option (Int32 × Va)) (t5 : Int32 × Int32 × Va) : Option (Int32 × Va) := if a2 ≤ t5.2.1 then (some (t5.1, t5.2.2)) else ((f_Model_dayOn z t5.2.2 sp k1).bind fun q14 => K5 ((t5.1 + q14.1), (t5.2.1 + 1), q14.2))
def f_Model_daysOn (z : Nat) (v : Va) (sp : Nat) (k1 : Nat) (a2 : Int32) : Option (Int32 × Va) := rp (b_Model_daysOn_5 z sp k1 a2) z (0, 0, v)
theorem c_Model_daysOn {sp : Nat} {k1 : Nat} {a2 : Int32} (hk : isModel sh sp) (hk1 : isState sh k1) {q : Int32 × Va} (h : f_Model_daysOn z v sp k1 a2 = some q) : MetI l yX14_daysOn cX14_daysOn 5 (some .int) 58 Γ sh v w n [.ref (Γ.2.1 + 149), .ref (Γ.2.1 + k1), .int a2] (fun x u => x = q.1 ∧ u = q.2) := by
  unfold f_Model_daysOn at h
  refine w_start pn_X14 (Nat.le_of_ble_eq_true rfl) fun p e s m args below meth c hx hb hml hret hlk hnm hts hown hK hP hz hE hS ls hl => ?_
  refine lv_iconst (v := 0) hx hb dX14_daysOn_0 rfl ?_
  refine lv_istore_n (lv' := [(3, .int 0), (0, .ref (Γ.2.1 + 149)), (1, .ref (Γ.2.1 + k1)), (2, .int a2)]) hx hb dX14_daysOn_1 rfl hl (by decide) rfl fun ls hl => ?_
  refine lv_iconst (v := 0) hx hb dX14_daysOn_2 rfl ?_
  refine lv_istore (lv' := [(4, .int 0), (3, .int 0), (0, .ref (Γ.2.1 + 149)), (1, .ref (Γ.2.1 + k1)), (2, .int a2)]) hx hb dX14_daysOn_3 hl (by decide) rfl fun ls hl => ?_
  have L5 : ∀ (fu : Nat) (t5 : Int32 × Int32 × Va), rp (b_Model_daysOn_5 z sp k1 a2) fu t5 = some q → ∀ (H1 : Heap) (locs1 : List Loc) (ls1 : Array Slot), lv_has ls1 5 [(0, .ref (Γ.2.1 + 149)), (1, .ref (Γ.2.1 + k1)), (2, .int a2), (3, .int t5.1), (4, .int t5.2.1)] → Wd Γ sh t5.2.2 w H1 → va_S (gA Γ) s.heap H1 locs1 → H1.size = Γ.2.1 + n → wpI Γ sh w n 58 (fun x u => x = q.1 ∧ u = q.2) p l e s m args below meth c H1 locs1 (F0 m 5 ls1 []) := by
    refine q_loop (fun K5 ih5 t5 h H1 locs1 ls hl hP hS hz => ?_)
    unfold b_Model_daysOn_5 at h
    refine lv_iload hx hb dX14_daysOn_5 (lv_at hl 4 rfl) ?_
    refine lv_iload_n hx hb dX14_daysOn_7 rfl (lv_at hl 2 rfl) ?_
    refine lv_icmp_ge (tgt := 25) hx hb dX14_daysOn_8 rfl (fun hc8 => ?_) (fun hc8 => ?_)
    · have h := itt_e h hc8
      refine lv_iload_n hx hb dX14_daysOn_25 rfl (lv_at hl 3 rfl) ?_
      exact w_iret hx hb hret rfl hlk hK hP hS hz hE (q_p2 h) dX14_daysOn_26
    · have h := itf_e h hc8
      refine lv_iload_n hx hb dX14_daysOn_11 rfl (lv_at hl 3 rfl) ?_
      refine lv_aload_n hx hb dX14_daysOn_12 rfl (lv_at hl 0 rfl) ?_
      refine lv_aload_n hx hb dX14_daysOn_13 rfl (lv_at hl 1 rfl) ?_
      obtain ⟨q14, e14, h⟩ := obn_e h
      refine z_Vi (k := 149) (r1 := q14.1) (v1 := q14.2) hx hb hml hts hown hK hP hS hz hE (c_Model_dayOn hk hk1 e14) kX14_dayOn mX14_393 hk.1 rfl rfl rfl hl.1 (Nat.le_of_ble_eq_true rfl) ⟨Nat.le_of_ble_eq_true rfl, Nat.le_of_ble_eq_true rfl⟩ ⟨Nat.le_refl _, Nat.le_refl _⟩ dX14_daysOn_14 fun H1 locs1 hz hP hS => ?_
      refine lv_iadd hx hb dX14_daysOn_17 ?_
      refine lv_istore_n (lv' := [(3, .int (t5.1 + q14.1)), (0, .ref (Γ.2.1 + 149)), (1, .ref (Γ.2.1 + k1)), (2, .int a2), (4, .int t5.2.1)]) hx hb dX14_daysOn_18 rfl hl (by decide) rfl fun ls hl => ?_
      refine lv_iinc (k := 4) (v := (t5.2.1 + 1)) (lv' := [(4, .int (t5.2.1 + 1)), (3, .int (t5.1 + q14.1)), (0, .ref (Γ.2.1 + 149)), (1, .ref (Γ.2.1 + k1)), (2, .int a2)]) hx hb dX14_daysOn_19 hl rfl rfl (by decide) rfl fun ls hl => ?_
      refine lv_goto (tgt := 5) hx hb dX14_daysOn_22 rfl ?_
      exact ih5 ((t5.1 + q14.1), (t5.2.1 + 1), q14.2) h _ _ _ (lv_sub hl [2, 3, 4, 1, 0] rfl) hP hS hz
  exact L5 z (0, 0, v) h _ _ _ (lv_sub hl [2, 3, 4, 1, 0] rfl) hP hS hz
def b_Model_weightOf_4 (v : Va) (sp : Nat) (k1 : Nat) (K4 : (Int32 × Int32) → Option Int32) (t4 : Int32 × Int32) : Option Int32 := if (v sp 15) ≤ t4.2 then (some t4.1) else (if t4.2 < 0 ∨ 10 ≤ t4.2.toNatClampNeg then none else K4 ((t4.1 + (v (k1 + 1) t4.2.toNatClampNeg)), (t4.2 + 1)))
def f_Model_weightOf (z : Nat) (v : Va) (sp : Nat) (k1 : Nat) : Option Int32 := rp (b_Model_weightOf_4 v sp k1) z (0, 0)
theorem c_Model_weightOf {sp : Nat} {k1 : Nat} (hk : isModel sh sp) (hk1 : isState sh k1) {q : Int32} (h : f_Model_weightOf z v sp k1 = some q) : MetI l yX14_weightOf cX14_weightOf 4 (some .int) 0 Γ sh v w n [.ref (Γ.2.1 + 149), .ref (Γ.2.1 + k1)] (fun x u => x = q ∧ u = v) := by
  unfold f_Model_weightOf at h
  refine w_start pn_X14 (Nat.le_of_ble_eq_true rfl) fun p e s m args below meth c hx hb hml hret hlk hnm hts hown hK hP hz hE hS ls hl => ?_
  refine lv_iconst (v := 0) hx hb dX14_weightOf_0 rfl ?_
  refine lv_istore_n (lv' := [(2, .int 0), (0, .ref (Γ.2.1 + 149)), (1, .ref (Γ.2.1 + k1))]) hx hb dX14_weightOf_1 rfl hl (by decide) rfl fun ls hl => ?_
  refine lv_iconst (v := 0) hx hb dX14_weightOf_2 rfl ?_
  refine lv_istore_n (lv' := [(3, .int 0), (2, .int 0), (0, .ref (Γ.2.1 + 149)), (1, .ref (Γ.2.1 + k1))]) hx hb dX14_weightOf_3 rfl hl (by decide) rfl fun ls hl => ?_
  have L4 : ∀ (fu : Nat) (t4 : Int32 × Int32), rp (b_Model_weightOf_4 v sp k1) fu t4 = some q → ∀ (H1 : Heap) (locs1 : List Loc) (ls1 : Array Slot), lv_has ls1 4 [(0, .ref (Γ.2.1 + 149)), (1, .ref (Γ.2.1 + k1)), (2, .int t4.1), (3, .int t4.2)] → Wd Γ sh v w H1 → va_S (gA Γ) s.heap H1 locs1 → H1.size = Γ.2.1 + n → wpI Γ sh w n 0 (fun x u => x = q ∧ u = v) p l e s m args below meth c H1 locs1 (F0 m 4 ls1 []) := by
    refine q_loop (fun K4 ih4 t4 h H1 locs1 ls hl hP hS hz => ?_)
    unfold b_Model_weightOf_4 at h
    refine lv_iload_n hx hb dX14_weightOf_4 rfl (lv_at hl 3 rfl) ?_
    refine lv_aload_n hx hb dX14_weightOf_5 rfl (lv_at hl 0 rfl) ?_
    refine w_gr (k := 149) (r := sp) hx hb hts hown hK hP fX14_20 hk.1 rfl dX14_weightOf_6 ?_
    refine w_gi (k := sp) hx hb hts hown hK hP fX14_54 hk.2.2.1.1 rfl dX14_weightOf_9 ?_
    refine lv_icmp_ge (tgt := 30) hx hb dX14_weightOf_12 rfl (fun hc12 => ?_) (fun hc12 => ?_)
    · have h := itt_e h hc12
      refine lv_iload_n hx hb dX14_weightOf_30 rfl (lv_at hl 2 rfl) ?_
      exact w_iret hx hb hret rfl hlk hK hP hS hz hE (q_p1 h) dX14_weightOf_31
    · have h := itf_e h hc12
      refine lv_iload_n hx hb dX14_weightOf_15 rfl (lv_at hl 2 rfl) ?_
      refine lv_aload_n hx hb dX14_weightOf_16 rfl (lv_at hl 1 rfl) ?_
      refine w_gr (k := k1) (r := (k1 + 1)) hx hb hts hown hK hP fX14_292 hk1.1 rfl dX14_weightOf_17 ?_
      refine lv_iload_n hx hb dX14_weightOf_20 rfl (lv_at hl 3 rfl) ?_
      obtain ⟨hn21, h⟩ := itn_e h
      refine w_iald (k := (k1 + 1)) hx hb hK hP hk1.2.1 hn21 dX14_weightOf_21 ?_
      refine lv_iadd hx hb dX14_weightOf_22 ?_
      refine lv_istore_n (lv' := [(2, .int (t4.1 + (v (k1 + 1) t4.2.toNatClampNeg))), (0, .ref (Γ.2.1 + 149)), (1, .ref (Γ.2.1 + k1)), (3, .int t4.2)]) hx hb dX14_weightOf_23 rfl hl (by decide) rfl fun ls hl => ?_
      refine lv_iinc (k := 3) (v := (t4.2 + 1)) (lv' := [(3, .int (t4.2 + 1)), (2, .int (t4.1 + (v (k1 + 1) t4.2.toNatClampNeg))), (0, .ref (Γ.2.1 + 149)), (1, .ref (Γ.2.1 + k1))]) hx hb dX14_weightOf_24 hl rfl rfl (by decide) rfl fun ls hl => ?_
      refine lv_goto (tgt := 4) hx hb dX14_weightOf_27 rfl ?_
      exact ih4 ((t4.1 + (v (k1 + 1) t4.2.toNatClampNeg)), (t4.2 + 1)) h _ _ _ (lv_sub hl [2, 3, 1, 0] rfl) hP hS hz
  exact L4 z (0, 0) h _ _ _ (lv_sub hl [2, 3, 1, 0] rfl) hP hS hz
def b_Model_sumOf__10 (v : Va) (ka1 : Nat) (Na1 : Nat) (K10 : (Int32 × Int32) → Option Int32) (t10 : Int32 × Int32) : Option Int32 := if (nI Na1) ≤ t10.2 then (some t10.1) else (if t10.2 < 0 ∨ Na1 ≤ t10.2.toNatClampNeg then none else K10 ((t10.1 + (v ka1 t10.2.toNatClampNeg)), (t10.2 + 1)))
def f_Model_sumOf_ (z : Nat) (v : Va) (ka1 : Nat) (Na1 : Nat) : Option Int32 := rp (b_Model_sumOf__10 v ka1 Na1) z (0, 0)
theorem c_Model_sumOf_ {ka1 : Nat} {Na1 : Nat} (ha1 : sh ka1 = some (sA Na1)) {q : Int32} (h : f_Model_sumOf_ z v ka1 Na1 = some q) : MetI l yX14_sumOf_ cX14_sumOf_ 6 (some .int) 0 Γ sh v w n [.ref (Γ.2.1 + ka1)] (fun x u => x = q ∧ u = v) := by
  unfold f_Model_sumOf_ at h
  refine w_start pn_X14 (Nat.le_of_ble_eq_true rfl) fun p e s m args below meth c hx hb hml hret hlk hnm hts hown hK hP hz hE hS ls hl => ?_
  refine lv_iconst (v := 0) hx hb dX14_sumOf__0 rfl ?_
  refine lv_istore_n (lv' := [(1, .int 0), (0, .ref (Γ.2.1 + ka1))]) hx hb dX14_sumOf__1 rfl hl (by decide) rfl fun ls hl => ?_
  refine lv_aload_n hx hb dX14_sumOf__2 rfl (lv_at hl 1 rfl) ?_
  refine lv_astore_n (lv' := [(2, .ref (Γ.2.1 + ka1)), (1, .int 0), (0, .ref (Γ.2.1 + ka1))]) hx hb dX14_sumOf__3 rfl hl (by decide) rfl fun ls hl => ?_
  refine lv_aload_n hx hb dX14_sumOf__4 rfl (lv_at hl 0 rfl) ?_
  refine w_alen (k := ka1) hx hb hK hP ha1 dX14_sumOf__5 ?_
  refine lv_istore_n (lv' := [(3, .int (nI Na1)), (2, .ref (Γ.2.1 + ka1)), (1, .int 0), (0, .ref (Γ.2.1 + ka1))]) hx hb dX14_sumOf__6 rfl hl (by decide) rfl fun ls hl => ?_
  refine lv_iconst (v := 0) hx hb dX14_sumOf__7 rfl ?_
  refine lv_istore (lv' := [(4, .int 0), (3, .int (nI Na1)), (2, .ref (Γ.2.1 + ka1)), (1, .int 0), (0, .ref (Γ.2.1 + ka1))]) hx hb dX14_sumOf__8 hl (by decide) rfl fun ls hl => ?_
  have L10 : ∀ (fu : Nat) (t10 : Int32 × Int32), rp (b_Model_sumOf__10 v ka1 Na1) fu t10 = some q → ∀ (H1 : Heap) (locs1 : List Loc) (ls1 : Array Slot), lv_has ls1 6 [(1, .int t10.1), (2, .ref (Γ.2.1 + ka1)), (3, .int (nI Na1)), (4, .int t10.2)] → Wd Γ sh v w H1 → va_S (gA Γ) s.heap H1 locs1 → H1.size = Γ.2.1 + n → wpI Γ sh w n 0 (fun x u => x = q ∧ u = v) p l e s m args below meth c H1 locs1 (F0 m 10 ls1 []) := by
    refine q_loop (fun K10 ih10 t10 h H1 locs1 ls hl hP hS hz => ?_)
    unfold b_Model_sumOf__10 at h
    refine lv_iload hx hb dX14_sumOf__10 (lv_at hl 3 rfl) ?_
    refine lv_iload_n hx hb dX14_sumOf__12 rfl (lv_at hl 2 rfl) ?_
    refine lv_icmp_ge (tgt := 33) hx hb dX14_sumOf__13 rfl (fun hc13 => ?_) (fun hc13 => ?_)
    · have h := itt_e h hc13
      refine lv_iload_n hx hb dX14_sumOf__33 rfl (lv_at hl 0 rfl) ?_
      exact w_iret hx hb hret rfl hlk hK hP hS hz hE (q_p1 h) dX14_sumOf__34
    · have h := itf_e h hc13
      refine lv_aload_n hx hb dX14_sumOf__16 rfl (lv_at hl 1 rfl) ?_
      refine lv_iload hx hb dX14_sumOf__17 (lv_at hl 3 rfl) ?_
      obtain ⟨hn19, h⟩ := itn_e h
      refine w_iald (k := ka1) hx hb hK hP ha1 hn19 dX14_sumOf__19 ?_
      refine lv_istore (lv' := [(5, .int (v ka1 t10.2.toNatClampNeg)), (1, .int t10.1), (2, .ref (Γ.2.1 + ka1)), (3, .int (nI Na1)), (4, .int t10.2)]) hx hb dX14_sumOf__20 hl (by decide) rfl fun ls hl => ?_
      refine lv_iload_n hx hb dX14_sumOf__22 rfl (lv_at hl 1 rfl) ?_
      refine lv_iload hx hb dX14_sumOf__23 (lv_at hl 0 rfl) ?_
      refine lv_iadd hx hb dX14_sumOf__25 ?_
      refine lv_istore_n (lv' := [(1, .int (t10.1 + (v ka1 t10.2.toNatClampNeg))), (5, .int (v ka1 t10.2.toNatClampNeg)), (2, .ref (Γ.2.1 + ka1)), (3, .int (nI Na1)), (4, .int t10.2)]) hx hb dX14_sumOf__26 rfl hl (by decide) rfl fun ls hl => ?_
      refine lv_iinc (k := 4) (v := (t10.2 + 1)) (lv' := [(4, .int (t10.2 + 1)), (1, .int (t10.1 + (v ka1 t10.2.toNatClampNeg))), (5, .int (v ka1 t10.2.toNatClampNeg)), (2, .ref (Γ.2.1 + ka1)), (3, .int (nI Na1))]) hx hb dX14_sumOf__27 hl rfl rfl (by decide) rfl fun ls hl => ?_
      refine lv_goto (tgt := 10) hx hb dX14_sumOf__30 rfl ?_
      exact ih10 ((t10.1 + (v ka1 t10.2.toNatClampNeg)), (t10.2 + 1)) h _ _ _ (lv_sub hl [1, 3, 4, 0] rfl) hP hS hz
  exact L10 z (0, 0) h _ _ _ (lv_sub hl [3, 2, 1, 0] rfl) hP hS hz
def f_Model_counted (z : Nat) (v : Va) (sp : Nat) (k1 : Nat) (a2 : Int32) : Option Int32 := if a2 = 0 then (some (v k1 0)) else (if a2 = 1 then (some (v k1 1)) else (if a2 = 2 then (some (v sp 4)) else (if a2 = 3 then (some (v sp 7)) else (if a2 = 4 then (some (v sp 11)) else (if a2 = 5 then (some (v sp 15)) else (if a2 = 6 then (some (v sp 20)) else (if a2 = 7 then ((f_Model_weightOf z v sp k1).bind fun q120 => some q120) else (if a2 = 8 then ((f_Model_sumOf_ z v (k1 + 7) 36).bind fun q128 => some q128) else (if a2 = 9 then ((f_Model_sumOf_ z v (k1 + 6) 6).bind fun q136 => some q136) else (if a2 = 10 then (some (v k1 2)) else (if a2 = 11 then (some (v k1 3)) else (if a2 = 12 then (some (v k1 4)) else (some (v 149 2))))))))))))))
theorem c_Model_counted {sp : Nat} {k1 : Nat} {a2 : Int32} (hk : isModel sh sp) (hk1 : isState sh k1) {q : Int32} (h : f_Model_counted z v sp k1 a2 = some q) : MetI l yX14_counted cX14_counted 3 (some .int) 1 Γ sh v w n [.ref (Γ.2.1 + 149), .ref (Γ.2.1 + k1), .int a2] (fun x u => x = q ∧ u = v) := by
  unfold f_Model_counted at h
  refine w_start pn_X14 (Nat.le_of_ble_eq_true rfl) fun p e s m args below meth c hx hb hml hret hlk hnm hts hown hK hP hz hE hS ls hl => ?_
  refine lv_iload_n hx hb dX14_counted_0 rfl (lv_at hl 2 rfl) ?_
  by_cases hc1_0 : a2 = 0
  · have h := itt_e h hc1_0
    refine z_tI (y := 0) (tgt := 68) hx hb dX14_counted_1 hc1_0 (by decide) (by decide) rfl rfl ?_
    refine lv_aload_n hx hb dX14_counted_68 rfl (lv_at hl 1 rfl) ?_
    refine w_gi (k := k1) hx hb hts hown hK hP fX14_308 hk1.1 rfl dX14_counted_69 ?_
    exact w_iret hx hb hret rfl hlk hK hP hS hz hE (q_p1 h) dX14_counted_72
  have h := itf_e h hc1_0
  by_cases hc1_1 : a2 = 1
  · have h := itt_e h hc1_1
    refine z_tI (y := 1) (tgt := 73) hx hb dX14_counted_1 hc1_1 (by decide) (by decide) rfl rfl ?_
    refine lv_aload_n hx hb dX14_counted_73 rfl (lv_at hl 1 rfl) ?_
    refine w_gi (k := k1) hx hb hts hown hK hP fX14_311 hk1.1 rfl dX14_counted_74 ?_
    exact w_iret hx hb hret rfl hlk hK hP hS hz hE (q_p1 h) dX14_counted_77
  have h := itf_e h hc1_1
  by_cases hc1_2 : a2 = 2
  · have h := itt_e h hc1_2
    refine z_tI (y := 2) (tgt := 78) hx hb dX14_counted_1 hc1_2 (by decide) (by decide) rfl rfl ?_
    refine lv_aload_n hx hb dX14_counted_78 rfl (lv_at hl 0 rfl) ?_
    refine w_gr (k := 149) (r := sp) hx hb hts hown hK hP fX14_20 hk.1 rfl dX14_counted_79 ?_
    refine w_gi (k := sp) hx hb hts hown hK hP fX14_171 hk.2.2.1.1 rfl dX14_counted_82 ?_
    exact w_iret hx hb hret rfl hlk hK hP hS hz hE (q_p1 h) dX14_counted_85
  have h := itf_e h hc1_2
  by_cases hc1_3 : a2 = 3
  · have h := itt_e h hc1_3
    refine z_tI (y := 3) (tgt := 86) hx hb dX14_counted_1 hc1_3 (by decide) (by decide) rfl rfl ?_
    refine lv_aload_n hx hb dX14_counted_86 rfl (lv_at hl 0 rfl) ?_
    refine w_gr (k := 149) (r := sp) hx hb hts hown hK hP fX14_20 hk.1 rfl dX14_counted_87 ?_
    refine w_gi (k := sp) hx hb hts hown hK hP fX14_174 hk.2.2.1.1 rfl dX14_counted_90 ?_
    exact w_iret hx hb hret rfl hlk hK hP hS hz hE (q_p1 h) dX14_counted_93
  have h := itf_e h hc1_3
  by_cases hc1_4 : a2 = 4
  · have h := itt_e h hc1_4
    refine z_tI (y := 4) (tgt := 94) hx hb dX14_counted_1 hc1_4 (by decide) (by decide) rfl rfl ?_
    refine lv_aload_n hx hb dX14_counted_94 rfl (lv_at hl 0 rfl) ?_
    refine w_gr (k := 149) (r := sp) hx hb hts hown hK hP fX14_20 hk.1 rfl dX14_counted_95 ?_
    refine w_gi (k := sp) hx hb hts hown hK hP fX14_43 hk.2.2.1.1 rfl dX14_counted_98 ?_
    exact w_iret hx hb hret rfl hlk hK hP hS hz hE (q_p1 h) dX14_counted_101
  have h := itf_e h hc1_4
  by_cases hc1_5 : a2 = 5
  · have h := itt_e h hc1_5
    refine z_tI (y := 5) (tgt := 102) hx hb dX14_counted_1 hc1_5 (by decide) (by decide) rfl rfl ?_
    refine lv_aload_n hx hb dX14_counted_102 rfl (lv_at hl 0 rfl) ?_
    refine w_gr (k := 149) (r := sp) hx hb hts hown hK hP fX14_20 hk.1 rfl dX14_counted_103 ?_
    refine w_gi (k := sp) hx hb hts hown hK hP fX14_54 hk.2.2.1.1 rfl dX14_counted_106 ?_
    exact w_iret hx hb hret rfl hlk hK hP hS hz hE (q_p1 h) dX14_counted_109
  have h := itf_e h hc1_5
  by_cases hc1_6 : a2 = 6
  · have h := itt_e h hc1_6
    refine z_tI (y := 6) (tgt := 110) hx hb dX14_counted_1 hc1_6 (by decide) (by decide) rfl rfl ?_
    refine lv_aload_n hx hb dX14_counted_110 rfl (lv_at hl 0 rfl) ?_
    refine w_gr (k := 149) (r := sp) hx hb hts hown hK hP fX14_20 hk.1 rfl dX14_counted_111 ?_
    refine w_gi (k := sp) hx hb hts hown hK hP fX14_208 hk.2.2.1.1 rfl dX14_counted_114 ?_
    exact w_iret hx hb hret rfl hlk hK hP hS hz hE (q_p1 h) dX14_counted_117
  have h := itf_e h hc1_6
  by_cases hc1_7 : a2 = 7
  · have h := itt_e h hc1_7
    refine z_tI (y := 7) (tgt := 118) hx hb dX14_counted_1 hc1_7 (by decide) (by decide) rfl rfl ?_
    refine lv_aload_n hx hb dX14_counted_118 rfl (lv_at hl 0 rfl) ?_
    refine lv_aload_n hx hb dX14_counted_119 rfl (lv_at hl 1 rfl) ?_
    obtain ⟨q120, e120, h⟩ := obn_e h
    refine z_Vi (k := 149) (r1 := q120) (v1 := v) hx hb hml hts hown hK hP hS hz hE (c_Model_weightOf hk hk1 e120) kX14_weightOf mX14_397 hk.1 rfl rfl rfl hl.1 (Nat.le_of_ble_eq_true rfl) ⟨Nat.le_of_ble_eq_true rfl, Nat.le_of_ble_eq_true rfl⟩ ⟨Nat.le_refl _, Nat.le_refl _⟩ dX14_counted_120 fun H1 locs1 hz hP hS => ?_
    exact w_iret hx hb hret rfl hlk hK hP hS hz hE (q_p1 h) dX14_counted_123
  have h := itf_e h hc1_7
  by_cases hc1_8 : a2 = 8
  · have h := itt_e h hc1_8
    refine z_tI (y := 8) (tgt := 124) hx hb dX14_counted_1 hc1_8 (by decide) (by decide) rfl rfl ?_
    refine lv_aload_n hx hb dX14_counted_124 rfl (lv_at hl 1 rfl) ?_
    refine w_gr (k := k1) (r := (k1 + 7)) hx hb hts hown hK hP fX14_357 hk1.1 rfl dX14_counted_125 ?_
    obtain ⟨q128, e128, h⟩ := obn_e h
    refine z_Si (r1 := q128) (v1 := v) hx hb hml hts hown hK hP hS hz hE (c_Model_sumOf_ hk1.2.2.2.2.2.2.2.1 e128) kX14_sumOf_ mX14_400 rfl rfl hl.1 (Nat.le_of_ble_eq_true rfl) ⟨Nat.le_of_ble_eq_true rfl, Nat.le_of_ble_eq_true rfl⟩ ⟨Nat.le_refl _, Nat.le_refl _⟩ dX14_counted_128 fun H1 locs1 hz hP hS => ?_
    exact w_iret hx hb hret rfl hlk hK hP hS hz hE (q_p1 h) dX14_counted_131
  have h := itf_e h hc1_8
  by_cases hc1_9 : a2 = 9
  · have h := itt_e h hc1_9
    refine z_tI (y := 9) (tgt := 132) hx hb dX14_counted_1 hc1_9 (by decide) (by decide) rfl rfl ?_
    refine lv_aload_n hx hb dX14_counted_132 rfl (lv_at hl 1 rfl) ?_
    refine w_gr (k := k1) (r := (k1 + 6)) hx hb hts hown hK hP fX14_304 hk1.1 rfl dX14_counted_133 ?_
    obtain ⟨q136, e136, h⟩ := obn_e h
    refine z_Si (r1 := q136) (v1 := v) hx hb hml hts hown hK hP hS hz hE (c_Model_sumOf_ hk1.2.2.2.2.2.2.1 e136) kX14_sumOf_ mX14_400 rfl rfl hl.1 (Nat.le_of_ble_eq_true rfl) ⟨Nat.le_of_ble_eq_true rfl, Nat.le_of_ble_eq_true rfl⟩ ⟨Nat.le_refl _, Nat.le_refl _⟩ dX14_counted_136 fun H1 locs1 hz hP hS => ?_
    exact w_iret hx hb hret rfl hlk hK hP hS hz hE (q_p1 h) dX14_counted_139
  have h := itf_e h hc1_9
  by_cases hc1_10 : a2 = 10
  · have h := itt_e h hc1_10
    refine z_tI (y := 10) (tgt := 140) hx hb dX14_counted_1 hc1_10 (by decide) (by decide) rfl rfl ?_
    refine lv_aload_n hx hb dX14_counted_140 rfl (lv_at hl 1 rfl) ?_
    refine w_gi (k := k1) hx hb hts hown hK hP fX14_359 hk1.1 rfl dX14_counted_141 ?_
    exact w_iret hx hb hret rfl hlk hK hP hS hz hE (q_p1 h) dX14_counted_144
  have h := itf_e h hc1_10
  by_cases hc1_11 : a2 = 11
  · have h := itt_e h hc1_11
    refine z_tI (y := 11) (tgt := 145) hx hb dX14_counted_1 hc1_11 (by decide) (by decide) rfl rfl ?_
    refine lv_aload_n hx hb dX14_counted_145 rfl (lv_at hl 1 rfl) ?_
    refine w_gi (k := k1) hx hb hts hown hK hP fX14_354 hk1.1 rfl dX14_counted_146 ?_
    exact w_iret hx hb hret rfl hlk hK hP hS hz hE (q_p1 h) dX14_counted_149
  have h := itf_e h hc1_11
  by_cases hc1_12 : a2 = 12
  · have h := itt_e h hc1_12
    refine z_tI (y := 12) (tgt := 150) hx hb dX14_counted_1 hc1_12 (by decide) (by decide) rfl rfl ?_
    refine lv_aload_n hx hb dX14_counted_150 rfl (lv_at hl 1 rfl) ?_
    refine w_gi (k := k1) hx hb hts hown hK hP fX14_362 hk1.1 rfl dX14_counted_151 ?_
    exact w_iret hx hb hret rfl hlk hK hP hS hz hE (q_p1 h) dX14_counted_154
  have h := itf_e h hc1_12
  refine z_tD (tgt := 155) hx hb [0, 1, 2, 3, 4, 5, 6, 7, 8, 9, 10, 11, 12] dX14_counted_1 (q_nc hc1_0 (q_nc hc1_1 (q_nc hc1_2 (q_nc hc1_3 (q_nc hc1_4 (q_nc hc1_5 (q_nc hc1_6 (q_nc hc1_7 (q_nc hc1_8 (q_nc hc1_9 (q_nc hc1_10 (q_nc hc1_11 (q_nc hc1_12 q_nn))))))))))))) (by decide) (by decide) rfl ?_
  refine lv_aload_n hx hb dX14_counted_155 rfl (lv_at hl 0 rfl) ?_
  refine w_gi (k := 149) hx hb hts hown hK hP fX14_57 hk.1 rfl dX14_counted_156 ?_
  exact w_iret hx hb hret rfl hlk hK hP hS hz hE (q_p1 h) dX14_counted_159
def f_Model_trim (v : Va) (sp : Nat) (a1 : Int32) : Option (Int32 × Va) := bnd (pu v 149 0 0) fun v2 => (f_Model_isIn a1 0 (v2 149 2)).bind fun q11 => if (q_b q11) = 0 then ((f_Model_no v2 sp 1).bind fun q19 => some (q19.1, q19.2)) else (bnd (pu v2 149 2 a1) fun v25 => some (a1, v25))
theorem c_Model_trim {sp : Nat} {a1 : Int32} (hk : isModel sh sp) {q : Int32 × Va} (h : f_Model_trim v sp a1 = some q) : MetI l yX14_trim cX14_trim 2 (some .int) 1 Γ sh v w n [.ref (Γ.2.1 + 149), .int a1] (fun x u => x = q.1 ∧ u = q.2) := by
  unfold f_Model_trim at h
  refine w_start pn_X14 (Nat.le_of_ble_eq_true rfl) fun p e s m args below meth c hx hb hml hret hlk hnm hts hown hK hP hz hE hS ls hl => ?_
  refine lv_aload_n hx hb dX14_trim_0 rfl (lv_at hl 0 rfl) ?_
  refine lv_iconst (v := 0) hx hb dX14_trim_1 rfl ?_
  obtain ⟨v2, e2, h⟩ := bnd_e h
  refine w_pi2 (k := 149) hx hb hts hown hK hP hS hz fX14_40 hk.1 rfl e2 dX14_trim_2 fun H1 locs1 hz hP hS => ?_
  refine lv_iload_n hx hb dX14_trim_5 rfl (lv_at hl 1 rfl) ?_
  refine lv_iconst (v := 0) hx hb dX14_trim_6 rfl ?_
  refine lv_aload_n hx hb dX14_trim_7 rfl (lv_at hl 0 rfl) ?_
  refine w_gi (k := 149) hx hb hts hown hK hP fX14_57 hk.1 rfl dX14_trim_8 ?_
  obtain ⟨q11, e11, h⟩ := obn_e h
  refine z_Si (r1 := (q_b q11)) (v1 := v2) hx hb hml hts hown hK hP hS hz hE (c_Model_isIn  e11) kX14_isIn mX14_46 rfl rfl hl.1 (Nat.le_of_ble_eq_true rfl) ⟨Nat.le_of_ble_eq_true rfl, Nat.le_of_ble_eq_true rfl⟩ ⟨Nat.le_refl _, Nat.le_refl _⟩ dX14_trim_11 fun H1 locs1 hz hP hS => ?_
  refine lv_if_ne (tgt := 23) hx hb dX14_trim_14 rfl (fun hc14 => ?_) (fun hc14 => ?_)
  · have h := itf_e h hc14
    refine lv_aload_n hx hb dX14_trim_23 rfl (lv_at hl 0 rfl) ?_
    refine lv_iload_n hx hb dX14_trim_24 rfl (lv_at hl 1 rfl) ?_
    obtain ⟨v25, e25, h⟩ := bnd_e h
    refine w_pi2 (k := 149) hx hb hts hown hK hP hS hz fX14_57 hk.1 rfl e25 dX14_trim_25 fun H1 locs1 hz hP hS => ?_
    refine lv_iload_n hx hb dX14_trim_28 rfl (lv_at hl 1 rfl) ?_
    exact w_iret hx hb hret rfl hlk hK hP hS hz hE (q_p2 h) dX14_trim_29
  · have h := itt_e h hc14
    refine lv_aload_n hx hb dX14_trim_17 rfl (lv_at hl 0 rfl) ?_
    refine lv_iconst (v := 1) hx hb dX14_trim_18 rfl ?_
    obtain ⟨q19, e19, h⟩ := obn_e h
    refine z_Vi (k := 149) (r1 := q19.1) (v1 := q19.2) hx hb hml hts hown hK hP hS hz hE (c_Model_no hk e19) kX14_no mX14_403 hk.1 rfl rfl rfl hl.1 (Nat.le_of_ble_eq_true rfl) ⟨Nat.le_of_ble_eq_true rfl, Nat.le_of_ble_eq_true rfl⟩ ⟨Nat.le_refl _, Nat.le_refl _⟩ dX14_trim_19 fun H1 locs1 hz hP hS => ?_
    exact w_iret hx hb hret rfl hlk hK hP hS hz hE (q_p2 h) dX14_trim_22
def b_Model_fill_2 (ka1 : Nat) (Na1 : Nat) (a2 : Int32) (K2 : (Int32 × Va) → Option Va) (t2 : Int32 × Va) : Option Va := if (nI Na1) ≤ t2.1 then (some t2.2) else (if t2.1 < 0 ∨ Na1 ≤ t2.1.toNatClampNeg then none else bnd (pu t2.2 ka1 t2.1.toNatClampNeg a2) fun v11 => K2 ((t2.1 + 1), v11))
def f_Model_fill (z : Nat) (v : Va) (ka1 : Nat) (Na1 : Nat) (a2 : Int32) : Option Va := rp (b_Model_fill_2 ka1 Na1 a2) z (0, v)
theorem c_Model_fill {ka1 : Nat} {Na1 : Nat} {a2 : Int32} (ha1 : sh ka1 = some (sA Na1)) {q : Va} (h : f_Model_fill z v ka1 Na1 a2 = some q) : MetV l yX14_fill cX14_fill 3 none 0 Γ sh v w n [.ref (Γ.2.1 + ka1), .int a2] (fun u => u = q) := by
  unfold f_Model_fill at h
  refine w_start pn_X14 (Nat.le_of_ble_eq_true rfl) fun p e s m args below meth c hx hb hml hret hlk hnm hts hown hK hP hz hE hS ls hl => ?_
  refine lv_iconst (v := 0) hx hb dX14_fill_0 rfl ?_
  refine lv_istore_n (lv' := [(2, .int 0), (0, .ref (Γ.2.1 + ka1)), (1, .int a2)]) hx hb dX14_fill_1 rfl hl (by decide) rfl fun ls hl => ?_
  have L2 : ∀ (fu : Nat) (t2 : Int32 × Va), rp (b_Model_fill_2 ka1 Na1 a2) fu t2 = some q → ∀ (H1 : Heap) (locs1 : List Loc) (ls1 : Array Slot), lv_has ls1 3 [(0, .ref (Γ.2.1 + ka1)), (1, .int a2), (2, .int t2.1)] → Wd Γ sh t2.2 w H1 → va_S (gA Γ) s.heap H1 locs1 → H1.size = Γ.2.1 + n → wpV Γ sh w n 0 (fun u => u = q) p l e s m args below meth c H1 locs1 (F0 m 2 ls1 []) := by
    refine q_loop (fun K2 ih2 t2 h H1 locs1 ls hl hP hS hz => ?_)
    unfold b_Model_fill_2 at h
    refine lv_iload_n hx hb dX14_fill_2 rfl (lv_at hl 2 rfl) ?_
    refine lv_aload_n hx hb dX14_fill_3 rfl (lv_at hl 0 rfl) ?_
    refine w_alen (k := ka1) hx hb hK hP ha1 dX14_fill_4 ?_
    refine lv_icmp_ge (tgt := 18) hx hb dX14_fill_5 rfl (fun hc5 => ?_) (fun hc5 => ?_)
    · have h := itt_e h hc5
      exact w_vret hx hb hret hlk hK hP hS hz hE (Option.some.inj h) dX14_fill_18
    · have h := itf_e h hc5
      refine lv_aload_n hx hb dX14_fill_8 rfl (lv_at hl 0 rfl) ?_
      refine lv_iload_n hx hb dX14_fill_9 rfl (lv_at hl 2 rfl) ?_
      refine lv_iload_n hx hb dX14_fill_10 rfl (lv_at hl 1 rfl) ?_
      obtain ⟨hn11, h⟩ := itn_e h
      obtain ⟨v11, e11, h⟩ := bnd_e h
      refine w_ia2 (k := ka1) hx hb hK hP hS hz ha1 hn11 e11 dX14_fill_11 fun H1 locs1 hz hP hS => ?_
      refine lv_iinc (k := 2) (v := (t2.1 + 1)) (lv' := [(2, .int (t2.1 + 1)), (0, .ref (Γ.2.1 + ka1)), (1, .int a2)]) hx hb dX14_fill_12 hl rfl rfl (by decide) rfl fun ls hl => ?_
      refine lv_goto (tgt := 2) hx hb dX14_fill_15 rfl ?_
      exact ih2 ((t2.1 + 1), v11) h _ _ _ (lv_sub hl [1, 2, 0] rfl) hP hS hz
  exact L2 z (0, v) h _ _ _ (lv_sub hl [1, 2, 0] rfl) hP hS hz
def f_Model_errorAt (v : Va) (sp : Nat) : Option (Int32 × Va) := bnd (pu v 149 0 0) fun v2 => some ((v2 149 3), v2)
theorem c_Model_errorAt {sp : Nat} (hk : isModel sh sp) {q : Int32 × Va} (h : f_Model_errorAt v sp = some q) : MetI l yX14_errorAt cX14_errorAt 1 (some .int) 0 Γ sh v w n [.ref (Γ.2.1 + 149)] (fun x u => x = q.1 ∧ u = q.2) := by
  unfold f_Model_errorAt at h
  refine w_start pn_X14 (Nat.le_of_ble_eq_true rfl) fun p e s m args below meth c hx hb hml hret hlk hnm hts hown hK hP hz hE hS ls hl => ?_
  refine lv_aload_n hx hb dX14_errorAt_0 rfl (lv_at hl 0 rfl) ?_
  refine lv_iconst (v := 0) hx hb dX14_errorAt_1 rfl ?_
  obtain ⟨v2, e2, h⟩ := bnd_e h
  refine w_pi2 (k := 149) hx hb hts hown hK hP hS hz fX14_40 hk.1 rfl e2 dX14_errorAt_2 fun H1 locs1 hz hP hS => ?_
  refine lv_aload_n hx hb dX14_errorAt_5 rfl (lv_at hl 0 rfl) ?_
  refine w_gi (k := 149) hx hb hts hown hK hP fX14_13 hk.1 rfl dX14_errorAt_6 ?_
  exact w_iret hx hb hret rfl hlk hK hP hS hz hE (q_p2 h) dX14_errorAt_9
def f_Model_count (z : Nat) (v : Va) (sp : Nat) (a1 : Int32) : Option (Int32 × Va) := bnd (pu v 149 0 0) fun v2 => (f_Model_isIn a1 0 13).bind fun q9 => if (q_b q9) = 0 then ((f_Model_no v2 sp 1).bind fun q29 => some (q29.1, q29.2)) else ((f_Model_counted z v2 sp 173 a1).bind fun q21 => some (q21, v2))
theorem c_Model_count {sp : Nat} {a1 : Int32} (hk : isModel sh sp) {q : Int32 × Va} (h : f_Model_count z v sp a1 = some q) : MetI l yX14_count cX14_count 2 (some .int) 2 Γ sh v w n [.ref (Γ.2.1 + 149), .int a1] (fun x u => x = q.1 ∧ u = q.2) := by
  unfold f_Model_count at h
  refine w_start pn_X14 (Nat.le_of_ble_eq_true rfl) fun p e s m args below meth c hx hb hml hret hlk hnm hts hown hK hP hz hE hS ls hl => ?_
  refine lv_aload_n hx hb dX14_count_0 rfl (lv_at hl 0 rfl) ?_
  refine lv_iconst (v := 0) hx hb dX14_count_1 rfl ?_
  obtain ⟨v2, e2, h⟩ := bnd_e h
  refine w_pi2 (k := 149) hx hb hts hown hK hP hS hz fX14_40 hk.1 rfl e2 dX14_count_2 fun H1 locs1 hz hP hS => ?_
  refine lv_iload_n hx hb dX14_count_5 rfl (lv_at hl 1 rfl) ?_
  refine lv_iconst (v := 0) hx hb dX14_count_6 rfl ?_
  refine lv_bipush (v := 13) hx hb dX14_count_7 rfl ?_
  obtain ⟨q9, e9, h⟩ := obn_e h
  refine z_Si (r1 := (q_b q9)) (v1 := v2) hx hb hml hts hown hK hP hS hz hE (c_Model_isIn  e9) kX14_isIn mX14_46 rfl rfl hl.1 (Nat.le_of_ble_eq_true rfl) ⟨Nat.le_of_ble_eq_true rfl, Nat.le_of_ble_eq_true rfl⟩ ⟨Nat.le_refl _, Nat.le_refl _⟩ dX14_count_9 fun H1 locs1 hz hP hS => ?_
  refine lv_if_eq (tgt := 27) hx hb dX14_count_12 rfl (fun hc12 => ?_) (fun hc12 => ?_)
  · have h := itt_e h hc12
    refine lv_aload_n hx hb dX14_count_27 rfl (lv_at hl 0 rfl) ?_
    refine lv_iconst (v := 1) hx hb dX14_count_28 rfl ?_
    obtain ⟨q29, e29, h⟩ := obn_e h
    refine z_Vi (k := 149) (r1 := q29.1) (v1 := q29.2) hx hb hml hts hown hK hP hS hz hE (c_Model_no hk e29) kX14_no mX14_403 hk.1 rfl rfl rfl hl.1 (Nat.le_of_ble_eq_true rfl) ⟨Nat.le_of_ble_eq_true rfl, Nat.le_of_ble_eq_true rfl⟩ ⟨Nat.le_refl _, Nat.le_refl _⟩ dX14_count_29 fun H1 locs1 hz hP hS => ?_
    exact w_iret hx hb hret rfl hlk hK hP hS hz hE (q_p2 h) dX14_count_32
  · have h := itf_e h hc12
    refine lv_aload_n hx hb dX14_count_15 rfl (lv_at hl 0 rfl) ?_
    refine lv_aload_n hx hb dX14_count_16 rfl (lv_at hl 0 rfl) ?_
    refine w_gr (k := 149) (r := 173) hx hb hts hown hK hP fX14_27 hk.1 rfl dX14_count_17 ?_
    refine lv_iload_n hx hb dX14_count_20 rfl (lv_at hl 1 rfl) ?_
    obtain ⟨q21, e21, h⟩ := obn_e h
    refine z_Vi (k := 149) (r1 := q21) (v1 := v2) hx hb hml hts hown hK hP hS hz hE (c_Model_counted hk hk.2.2.2.1 e21) kX14_counted mX14_420 hk.1 rfl rfl rfl hl.1 (Nat.le_of_ble_eq_true rfl) ⟨Nat.le_of_ble_eq_true rfl, Nat.le_of_ble_eq_true rfl⟩ ⟨Nat.le_refl _, Nat.le_refl _⟩ dX14_count_21 fun H1 locs1 hz hP hS => ?_
    refine lv_goto (tgt := 32) hx hb dX14_count_24 rfl ?_
    exact w_iret hx hb hret rfl hlk hK hP hS hz hE (q_p2 h) dX14_count_32
def f_Model_lotTold (v : Va) (sp : Nat) (a1 : Int32) (a2 : Int32) : Option Int32 := if a2 = 0 then (if a1 < 0 ∨ 10 ≤ a1.toNatClampNeg then none else some (v (sp + 14) a1.toNatClampNeg)) else (if a2 = 1 then (if a1 < 0 ∨ 10 ≤ a1.toNatClampNeg then none else some (v 174 a1.toNatClampNeg)) else (if a2 = 2 then (if a1 < 0 ∨ 10 ≤ a1.toNatClampNeg then none else some (v 175 a1.toNatClampNeg)) else (if a2 = 3 then (if a1 < 0 ∨ 10 ≤ a1.toNatClampNeg then none else some (v 176 a1.toNatClampNeg)) else (if a2 = 4 then (if a1 < 0 ∨ 10 ≤ a1.toNatClampNeg then none else if (v 176 a1.toNatClampNeg) = (-1) then (some 0) else (if a1 < 0 ∨ 10 ≤ a1.toNatClampNeg then none else some (v 177 a1.toNatClampNeg))) else (if a2 = 5 then ((f_State_age v 173 a1).bind fun q112 => some q112) else ((f_State_isFresh v 173 a1).bind fun q121 => if (q_b q121) = 0 then (some 0) else (some 1)))))))
theorem c_Model_lotTold {sp : Nat} {a1 : Int32} {a2 : Int32} (hk : isModel sh sp) {q : Int32} (h : f_Model_lotTold v sp a1 a2 = some q) : MetI l yX14_lotTold cX14_lotTold 3 (some .int) 1 Γ sh v w n [.ref (Γ.2.1 + 149), .int a1, .int a2] (fun x u => x = q ∧ u = v) := by
  unfold f_Model_lotTold at h
  refine w_start pn_X14 (Nat.le_of_ble_eq_true rfl) fun p e s m args below meth c hx hb hml hret hlk hnm hts hown hK hP hz hE hS ls hl => ?_
  refine lv_iload_n hx hb dX14_lotTold_0 rfl (lv_at hl 2 rfl) ?_
  by_cases hc1_0 : a2 = 0
  · have h := itt_e h hc1_0
    refine z_tI (y := 0) (tgt := 40) hx hb dX14_lotTold_1 hc1_0 (by decide) (by decide) rfl rfl ?_
    refine lv_aload_n hx hb dX14_lotTold_40 rfl (lv_at hl 0 rfl) ?_
    refine w_gr (k := 149) (r := sp) hx hb hts hown hK hP fX14_20 hk.1 rfl dX14_lotTold_41 ?_
    refine w_gr (k := sp) (r := (sp + 14)) hx hb hts hown hK hP fX14_199 hk.2.2.1.1 rfl dX14_lotTold_44 ?_
    refine lv_iload_n hx hb dX14_lotTold_47 rfl (lv_at hl 1 rfl) ?_
    obtain ⟨hn48, h⟩ := itn_e h
    refine w_iald (k := (sp + 14)) hx hb hK hP hk.2.2.1.2.2.2.2.2.2.2.2.2.2.2.2.2.2.1 hn48 dX14_lotTold_48 ?_
    exact w_iret hx hb hret rfl hlk hK hP hS hz hE (q_p1 h) dX14_lotTold_49
  have h := itf_e h hc1_0
  by_cases hc1_1 : a2 = 1
  · have h := itt_e h hc1_1
    refine z_tI (y := 1) (tgt := 50) hx hb dX14_lotTold_1 hc1_1 (by decide) (by decide) rfl rfl ?_
    refine lv_aload_n hx hb dX14_lotTold_50 rfl (lv_at hl 0 rfl) ?_
    refine w_gr (k := 149) (r := 173) hx hb hts hown hK hP fX14_27 hk.1 rfl dX14_lotTold_51 ?_
    refine w_gr (k := 173) (r := 174) hx hb hts hown hK hP fX14_292 hk.2.2.2.1.1 rfl dX14_lotTold_54 ?_
    refine lv_iload_n hx hb dX14_lotTold_57 rfl (lv_at hl 1 rfl) ?_
    obtain ⟨hn58, h⟩ := itn_e h
    refine w_iald (k := 174) hx hb hK hP hk.2.2.2.1.2.1 hn58 dX14_lotTold_58 ?_
    exact w_iret hx hb hret rfl hlk hK hP hS hz hE (q_p1 h) dX14_lotTold_59
  have h := itf_e h hc1_1
  by_cases hc1_2 : a2 = 2
  · have h := itt_e h hc1_2
    refine z_tI (y := 2) (tgt := 60) hx hb dX14_lotTold_1 hc1_2 (by decide) (by decide) rfl rfl ?_
    refine lv_aload_n hx hb dX14_lotTold_60 rfl (lv_at hl 0 rfl) ?_
    refine w_gr (k := 149) (r := 173) hx hb hts hown hK hP fX14_27 hk.1 rfl dX14_lotTold_61 ?_
    refine w_gr (k := 173) (r := 175) hx hb hts hown hK hP fX14_283 hk.2.2.2.1.1 rfl dX14_lotTold_64 ?_
    refine lv_iload_n hx hb dX14_lotTold_67 rfl (lv_at hl 1 rfl) ?_
    obtain ⟨hn68, h⟩ := itn_e h
    refine w_iald (k := 175) hx hb hK hP hk.2.2.2.1.2.2.1 hn68 dX14_lotTold_68 ?_
    exact w_iret hx hb hret rfl hlk hK hP hS hz hE (q_p1 h) dX14_lotTold_69
  have h := itf_e h hc1_2
  by_cases hc1_3 : a2 = 3
  · have h := itt_e h hc1_3
    refine z_tI (y := 3) (tgt := 70) hx hb dX14_lotTold_1 hc1_3 (by decide) (by decide) rfl rfl ?_
    refine lv_aload_n hx hb dX14_lotTold_70 rfl (lv_at hl 0 rfl) ?_
    refine w_gr (k := 149) (r := 173) hx hb hts hown hK hP fX14_27 hk.1 rfl dX14_lotTold_71 ?_
    refine w_gr (k := 173) (r := 176) hx hb hts hown hK hP fX14_295 hk.2.2.2.1.1 rfl dX14_lotTold_74 ?_
    refine lv_iload_n hx hb dX14_lotTold_77 rfl (lv_at hl 1 rfl) ?_
    obtain ⟨hn78, h⟩ := itn_e h
    refine w_iald (k := 176) hx hb hK hP hk.2.2.2.1.2.2.2.1 hn78 dX14_lotTold_78 ?_
    exact w_iret hx hb hret rfl hlk hK hP hS hz hE (q_p1 h) dX14_lotTold_79
  have h := itf_e h hc1_3
  by_cases hc1_4 : a2 = 4
  · have h := itt_e h hc1_4
    refine z_tI (y := 4) (tgt := 80) hx hb dX14_lotTold_1 hc1_4 (by decide) (by decide) rfl rfl ?_
    refine lv_aload_n hx hb dX14_lotTold_80 rfl (lv_at hl 0 rfl) ?_
    refine w_gr (k := 149) (r := 173) hx hb hts hown hK hP fX14_27 hk.1 rfl dX14_lotTold_81 ?_
    refine w_gr (k := 173) (r := 176) hx hb hts hown hK hP fX14_295 hk.2.2.2.1.1 rfl dX14_lotTold_84 ?_
    refine lv_iload_n hx hb dX14_lotTold_87 rfl (lv_at hl 1 rfl) ?_
    obtain ⟨hn88, h⟩ := itn_e h
    refine w_iald (k := 176) hx hb hK hP hk.2.2.2.1.2.2.2.1 hn88 dX14_lotTold_88 ?_
    refine lv_iconst (v := (-1)) hx hb dX14_lotTold_89 rfl ?_
    refine lv_icmp_ne (tgt := 97) hx hb dX14_lotTold_90 rfl (fun hc90 => ?_) (fun hc90 => ?_)
    · have h := itf_e h hc90
      refine lv_aload_n hx hb dX14_lotTold_97 rfl (lv_at hl 0 rfl) ?_
      refine w_gr (k := 149) (r := 173) hx hb hts hown hK hP fX14_27 hk.1 rfl dX14_lotTold_98 ?_
      refine w_gr (k := 173) (r := 177) hx hb hts hown hK hP fX14_298 hk.2.2.2.1.1 rfl dX14_lotTold_101 ?_
      refine lv_iload_n hx hb dX14_lotTold_104 rfl (lv_at hl 1 rfl) ?_
      obtain ⟨hn105, h⟩ := itn_e h
      refine w_iald (k := 177) hx hb hK hP hk.2.2.2.1.2.2.2.2.1 hn105 dX14_lotTold_105 ?_
      exact w_iret hx hb hret rfl hlk hK hP hS hz hE (q_p1 h) dX14_lotTold_106
    · have h := itt_e h hc90
      refine lv_iconst (v := 0) hx hb dX14_lotTold_93 rfl ?_
      refine lv_goto (tgt := 106) hx hb dX14_lotTold_94 rfl ?_
      exact w_iret hx hb hret rfl hlk hK hP hS hz hE (q_p1 h) dX14_lotTold_106
  have h := itf_e h hc1_4
  by_cases hc1_5 : a2 = 5
  · have h := itt_e h hc1_5
    refine z_tI (y := 5) (tgt := 107) hx hb dX14_lotTold_1 hc1_5 (by decide) (by decide) rfl rfl ?_
    refine lv_aload_n hx hb dX14_lotTold_107 rfl (lv_at hl 0 rfl) ?_
    refine w_gr (k := 149) (r := 173) hx hb hts hown hK hP fX14_27 hk.1 rfl dX14_lotTold_108 ?_
    refine lv_iload_n hx hb dX14_lotTold_111 rfl (lv_at hl 1 rfl) ?_
    obtain ⟨q112, e112, h⟩ := obn_e h
    refine z_Vi (k := 173) (r1 := q112) (v1 := v) hx hb hml hts hown hK hP hS hz hE (c_State_age hk.2.2.2.1 e112) kX13_age mX14_301 hk.2.2.2.1.1 rfl rfl rfl hl.1 (Nat.le_of_ble_eq_true rfl) ⟨Nat.le_of_ble_eq_true rfl, Nat.le_of_ble_eq_true rfl⟩ ⟨Nat.le_refl _, Nat.le_refl _⟩ dX14_lotTold_112 fun H1 locs1 hz hP hS => ?_
    exact w_iret hx hb hret rfl hlk hK hP hS hz hE (q_p1 h) dX14_lotTold_115
  have h := itf_e h hc1_5
  refine z_tD (tgt := 116) hx hb [0, 1, 2, 3, 4, 5] dX14_lotTold_1 (q_nc hc1_0 (q_nc hc1_1 (q_nc hc1_2 (q_nc hc1_3 (q_nc hc1_4 (q_nc hc1_5 q_nn)))))) (by decide) (by decide) rfl ?_
  refine lv_aload_n hx hb dX14_lotTold_116 rfl (lv_at hl 0 rfl) ?_
  refine w_gr (k := 149) (r := 173) hx hb hts hown hK hP fX14_27 hk.1 rfl dX14_lotTold_117 ?_
  refine lv_iload_n hx hb dX14_lotTold_120 rfl (lv_at hl 1 rfl) ?_
  obtain ⟨q121, e121, h⟩ := obn_e h
  refine z_Vi (k := 173) (r1 := (q_b q121)) (v1 := v) hx hb hml hts hown hK hP hS hz hE (c_State_isFresh hk.2.2.2.1 e121) kX13_isFresh mX14_332 hk.2.2.2.1.1 rfl rfl rfl hl.1 (Nat.le_of_ble_eq_true rfl) ⟨Nat.le_of_ble_eq_true rfl, Nat.le_of_ble_eq_true rfl⟩ ⟨Nat.le_refl _, Nat.le_refl _⟩ dX14_lotTold_121 fun H1 locs1 hz hP hS => ?_
  refine lv_if_eq (tgt := 131) hx hb dX14_lotTold_124 rfl (fun hc124 => ?_) (fun hc124 => ?_)
  · have h := itt_e h hc124
    refine lv_iconst (v := 0) hx hb dX14_lotTold_131 rfl ?_
    exact w_iret hx hb hret rfl hlk hK hP hS hz hE (q_p1 h) dX14_lotTold_132
  · have h := itf_e h hc124
    refine lv_iconst (v := 1) hx hb dX14_lotTold_127 rfl ?_
    refine lv_goto (tgt := 132) hx hb dX14_lotTold_128 rfl ?_
    exact w_iret hx hb hret rfl hlk hK hP hS hz hE (q_p1 h) dX14_lotTold_132
def j_Model_lot_32 (sp : Nat) (v2 : Va) : Option (Int32 × Va) := (f_Model_no v2 sp 1).bind fun q34 => some (q34.1, q34.2)
def f_Model_lot (v : Va) (sp : Nat) (a1 : Int32) (a2 : Int32) : Option (Int32 × Va) := bnd (pu v 149 0 0) fun v2 => (f_Model_isLot v2 sp a1).bind fun q7 => if (q_b q7) = 0 then (j_Model_lot_32 sp v2) else ((f_Model_isIn a2 0 6).bind fun q17 => if (q_b q17) = 0 then (j_Model_lot_32 sp v2) else ((f_Model_lotTold v2 sp a1 a2).bind fun q26 => some (q26, v2)))
theorem c_Model_lot {sp : Nat} {a1 : Int32} {a2 : Int32} (hk : isModel sh sp) {q : Int32 × Va} (h : f_Model_lot v sp a1 a2 = some q) : MetI l yX14_lot cX14_lot 3 (some .int) 2 Γ sh v w n [.ref (Γ.2.1 + 149), .int a1, .int a2] (fun x u => x = q.1 ∧ u = q.2) := by
  unfold f_Model_lot at h
  refine w_start pn_X14 (Nat.le_of_ble_eq_true rfl) fun p e s m args below meth c hx hb hml hret hlk hnm hts hown hK hP hz hE hS ls hl => ?_
  refine lv_aload_n hx hb dX14_lot_0 rfl (lv_at hl 0 rfl) ?_
  refine lv_iconst (v := 0) hx hb dX14_lot_1 rfl ?_
  obtain ⟨v2, e2, h⟩ := bnd_e h
  refine w_pi2 (k := 149) hx hb hts hown hK hP hS hz fX14_40 hk.1 rfl e2 dX14_lot_2 fun H1 locs1 hz hP hS => ?_
  refine lv_aload_n hx hb dX14_lot_5 rfl (lv_at hl 0 rfl) ?_
  refine lv_iload_n hx hb dX14_lot_6 rfl (lv_at hl 1 rfl) ?_
  obtain ⟨q7, e7, h⟩ := obn_e h
  refine z_Vi (k := 149) (r1 := (q_b q7)) (v1 := v2) hx hb hml hts hown hK hP hS hz hE (c_Model_isLot hk e7) kX14_isLot mX14_423 hk.1 rfl rfl rfl hl.1 (Nat.le_of_ble_eq_true rfl) ⟨Nat.le_of_ble_eq_true rfl, Nat.le_of_ble_eq_true rfl⟩ ⟨Nat.le_refl _, Nat.le_refl _⟩ dX14_lot_7 fun H1 locs1 hz hP hS => ?_
  have J32 : (j_Model_lot_32 sp v2) = some q → ∀ (H1 : Heap) (locs1 : List Loc) (ls1 : Array Slot), lv_has ls1 3 [(0, .ref (Γ.2.1 + 149))] → Wd Γ sh v2 w H1 → va_S (gA Γ) s.heap H1 locs1 → H1.size = Γ.2.1 + n → wpI Γ sh w n 2 (fun x u => x = q.1 ∧ u = q.2) p l e s m args below meth c H1 locs1 (F0 m 32 ls1 []) := by
    intro  h H1 locs1 ls hl hP hS hz
    unfold j_Model_lot_32 at h
    refine lv_aload_n hx hb dX14_lot_32 rfl (lv_at hl 0 rfl) ?_
    refine lv_iconst (v := 1) hx hb dX14_lot_33 rfl ?_
    obtain ⟨q34, e34, h⟩ := obn_e h
    refine z_Vi (k := 149) (r1 := q34.1) (v1 := q34.2) hx hb hml hts hown hK hP hS hz hE (c_Model_no hk e34) kX14_no mX14_403 hk.1 rfl rfl rfl hl.1 (Nat.le_of_ble_eq_true rfl) ⟨Nat.le_of_ble_eq_true rfl, Nat.le_of_ble_eq_true rfl⟩ ⟨Nat.le_refl _, Nat.le_refl _⟩ dX14_lot_34 fun H1 locs1 hz hP hS => ?_
    exact w_iret hx hb hret rfl hlk hK hP hS hz hE (q_p2 h) dX14_lot_37
  refine lv_if_eq (tgt := 32) hx hb dX14_lot_10 rfl (fun hc10 => ?_) (fun hc10 => ?_)
  · have h := itt_e h hc10
    exact J32 h _ _ _ (lv_sub hl [0] rfl) hP hS hz
  · have h := itf_e h hc10
    refine lv_iload_n hx hb dX14_lot_13 rfl (lv_at hl 2 rfl) ?_
    refine lv_iconst (v := 0) hx hb dX14_lot_14 rfl ?_
    refine lv_bipush (v := 6) hx hb dX14_lot_15 rfl ?_
    obtain ⟨q17, e17, h⟩ := obn_e h
    refine z_Si (r1 := (q_b q17)) (v1 := v2) hx hb hml hts hown hK hP hS hz hE (c_Model_isIn  e17) kX14_isIn mX14_46 rfl rfl hl.1 (Nat.le_of_ble_eq_true rfl) ⟨Nat.le_of_ble_eq_true rfl, Nat.le_of_ble_eq_true rfl⟩ ⟨Nat.le_refl _, Nat.le_refl _⟩ dX14_lot_17 fun H1 locs1 hz hP hS => ?_
    refine lv_if_eq (tgt := 32) hx hb dX14_lot_20 rfl (fun hc20 => ?_) (fun hc20 => ?_)
    · have h := itt_e h hc20
      exact J32 h _ _ _ (lv_sub hl [0] rfl) hP hS hz
    · have h := itf_e h hc20
      refine lv_aload_n hx hb dX14_lot_23 rfl (lv_at hl 0 rfl) ?_
      refine lv_iload_n hx hb dX14_lot_24 rfl (lv_at hl 1 rfl) ?_
      refine lv_iload_n hx hb dX14_lot_25 rfl (lv_at hl 2 rfl) ?_
      obtain ⟨q26, e26, h⟩ := obn_e h
      refine z_Vi (k := 149) (r1 := q26) (v1 := v2) hx hb hml hts hown hK hP hS hz hE (c_Model_lotTold hk e26) kX14_lotTold mX14_426 hk.1 rfl rfl rfl hl.1 (Nat.le_of_ble_eq_true rfl) ⟨Nat.le_of_ble_eq_true rfl, Nat.le_of_ble_eq_true rfl⟩ ⟨Nat.le_refl _, Nat.le_refl _⟩ dX14_lot_26 fun H1 locs1 hz hP hS => ?_
      refine lv_goto (tgt := 37) hx hb dX14_lot_29 rfl ?_
      exact w_iret hx hb hret rfl hlk hK hP hS hz hE (q_p2 h) dX14_lot_37
def j_Model_lotsOf_54 (K5 : (Int32 × Int32) → Option Int32) (t5 : Int32 × Int32) (s54_0 : Int32) : Option Int32 := K5 ((t5.1 + s54_0), (t5.2 + 1))
def b_Model_lotsOf_5 (v : Va) (sp : Nat) (a1 : Int32) (a2 : Int32) (K5 : (Int32 × Int32) → Option Int32) (t5 : Int32 × Int32) : Option Int32 := if (v sp 15) ≤ t5.2 then (some t5.1) else (if t5.2 < 0 ∨ 10 ≤ t5.2.toNatClampNeg then none else if (v 175 t5.2.toNatClampNeg) = a1 then (if a2 = 0 then (j_Model_lotsOf_54 K5 t5 1) else (if t5.2 < 0 ∨ 10 ≤ t5.2.toNatClampNeg then none else j_Model_lotsOf_54 K5 t5 (v 174 t5.2.toNatClampNeg))) else (j_Model_lotsOf_54 K5 t5 0))
def f_Model_lotsOf (z : Nat) (v : Va) (sp : Nat) (a1 : Int32) (a2 : Int32) : Option Int32 := rp (b_Model_lotsOf_5 v sp a1 a2) z (0, 0)
theorem c_Model_lotsOf {sp : Nat} {a1 : Int32} {a2 : Int32} (hk : isModel sh sp) {q : Int32} (h : f_Model_lotsOf z v sp a1 a2 = some q) : MetI l yX14_lotsOf cX14_lotsOf 5 (some .int) 0 Γ sh v w n [.ref (Γ.2.1 + 149), .int a1, .int a2] (fun x u => x = q ∧ u = v) := by
  unfold f_Model_lotsOf at h
  refine w_start pn_X14 (Nat.le_of_ble_eq_true rfl) fun p e s m args below meth c hx hb hml hret hlk hnm hts hown hK hP hz hE hS ls hl => ?_
  refine lv_iconst (v := 0) hx hb dX14_lotsOf_0 rfl ?_
  refine lv_istore_n (lv' := [(3, .int 0), (0, .ref (Γ.2.1 + 149)), (1, .int a1), (2, .int a2)]) hx hb dX14_lotsOf_1 rfl hl (by decide) rfl fun ls hl => ?_
  refine lv_iconst (v := 0) hx hb dX14_lotsOf_2 rfl ?_
  refine lv_istore (lv' := [(4, .int 0), (3, .int 0), (0, .ref (Γ.2.1 + 149)), (1, .int a1), (2, .int a2)]) hx hb dX14_lotsOf_3 hl (by decide) rfl fun ls hl => ?_
  have L5 : ∀ (fu : Nat) (t5 : Int32 × Int32), rp (b_Model_lotsOf_5 v sp a1 a2) fu t5 = some q → ∀ (H1 : Heap) (locs1 : List Loc) (ls1 : Array Slot), lv_has ls1 5 [(0, .ref (Γ.2.1 + 149)), (1, .int a1), (2, .int a2), (3, .int t5.1), (4, .int t5.2)] → Wd Γ sh v w H1 → va_S (gA Γ) s.heap H1 locs1 → H1.size = Γ.2.1 + n → wpI Γ sh w n 0 (fun x u => x = q ∧ u = v) p l e s m args below meth c H1 locs1 (F0 m 5 ls1 []) := by
    refine q_loop (fun K5 ih5 t5 h H1 locs1 ls hl hP hS hz => ?_)
    unfold b_Model_lotsOf_5 at h
    refine lv_iload hx hb dX14_lotsOf_5 (lv_at hl 4 rfl) ?_
    refine lv_aload_n hx hb dX14_lotsOf_7 rfl (lv_at hl 0 rfl) ?_
    refine w_gr (k := 149) (r := sp) hx hb hts hown hK hP fX14_20 hk.1 rfl dX14_lotsOf_8 ?_
    refine w_gi (k := sp) hx hb hts hown hK hP fX14_54 hk.2.2.1.1 rfl dX14_lotsOf_11 ?_
    refine lv_icmp_ge (tgt := 62) hx hb dX14_lotsOf_14 rfl (fun hc14 => ?_) (fun hc14 => ?_)
    · have h := itt_e h hc14
      refine lv_iload_n hx hb dX14_lotsOf_62 rfl (lv_at hl 3 rfl) ?_
      exact w_iret hx hb hret rfl hlk hK hP hS hz hE (q_p1 h) dX14_lotsOf_63
    · have h := itf_e h hc14
      refine lv_iload_n hx hb dX14_lotsOf_17 rfl (lv_at hl 3 rfl) ?_
      refine lv_aload_n hx hb dX14_lotsOf_18 rfl (lv_at hl 0 rfl) ?_
      refine w_gr (k := 149) (r := 173) hx hb hts hown hK hP fX14_27 hk.1 rfl dX14_lotsOf_19 ?_
      refine w_gr (k := 173) (r := 175) hx hb hts hown hK hP fX14_283 hk.2.2.2.1.1 rfl dX14_lotsOf_22 ?_
      refine lv_iload hx hb dX14_lotsOf_25 (lv_at hl 4 rfl) ?_
      obtain ⟨hn27, h⟩ := itn_e h
      refine w_iald (k := 175) hx hb hK hP hk.2.2.2.1.2.2.1 hn27 dX14_lotsOf_27 ?_
      refine lv_iload_n hx hb dX14_lotsOf_28 rfl (lv_at hl 1 rfl) ?_
      have J54 : ∀ (s54_0 : Int32), (j_Model_lotsOf_54 K5 t5) s54_0 = some q → ∀ (H1 : Heap) (locs1 : List Loc) (ls1 : Array Slot), lv_has ls1 5 [(0, .ref (Γ.2.1 + 149)), (1, .int a1), (2, .int a2), (4, .int t5.2)] → Wd Γ sh v w H1 → va_S (gA Γ) s.heap H1 locs1 → H1.size = Γ.2.1 + n → wpI Γ sh w n 0 (fun x u => x = q ∧ u = v) p l e s m args below meth c H1 locs1 (F0 m 54 ls1 [.int s54_0, .int t5.1]) := by
        intro s54_0 h H1 locs1 ls hl hP hS hz
        unfold j_Model_lotsOf_54 at h
        refine lv_iadd hx hb dX14_lotsOf_54 ?_
        refine lv_istore_n (lv' := [(3, .int (t5.1 + s54_0)), (0, .ref (Γ.2.1 + 149)), (1, .int a1), (2, .int a2), (4, .int t5.2)]) hx hb dX14_lotsOf_55 rfl hl (by decide) rfl fun ls hl => ?_
        refine lv_iinc (k := 4) (v := (t5.2 + 1)) (lv' := [(4, .int (t5.2 + 1)), (3, .int (t5.1 + s54_0)), (0, .ref (Γ.2.1 + 149)), (1, .int a1), (2, .int a2)]) hx hb dX14_lotsOf_56 hl rfl rfl (by decide) rfl fun ls hl => ?_
        refine lv_goto (tgt := 5) hx hb dX14_lotsOf_59 rfl ?_
        exact ih5 ((t5.1 + s54_0), (t5.2 + 1)) h _ _ _ (lv_sub hl [2, 3, 4, 1, 0] rfl) hP hS hz
      refine lv_icmp_eq (tgt := 36) hx hb dX14_lotsOf_29 rfl (fun hc29 => ?_) (fun hc29 => ?_)
      · have h := itt_e h hc29
        refine lv_iload_n hx hb dX14_lotsOf_36 rfl (lv_at hl 2 rfl) ?_
        refine lv_if_eq (tgt := 53) hx hb dX14_lotsOf_37 rfl (fun hc37 => ?_) (fun hc37 => ?_)
        · have h := itt_e h hc37
          refine lv_iconst (v := 1) hx hb dX14_lotsOf_53 rfl ?_
          exact J54 1 h _ _ _ (lv_sub hl [0, 1, 2, 4] rfl) hP hS hz
        · have h := itf_e h hc37
          refine lv_aload_n hx hb dX14_lotsOf_40 rfl (lv_at hl 0 rfl) ?_
          refine w_gr (k := 149) (r := 173) hx hb hts hown hK hP fX14_27 hk.1 rfl dX14_lotsOf_41 ?_
          refine w_gr (k := 173) (r := 174) hx hb hts hown hK hP fX14_292 hk.2.2.2.1.1 rfl dX14_lotsOf_44 ?_
          refine lv_iload hx hb dX14_lotsOf_47 (lv_at hl 4 rfl) ?_
          obtain ⟨hn49, h⟩ := itn_e h
          refine w_iald (k := 174) hx hb hK hP hk.2.2.2.1.2.1 hn49 dX14_lotsOf_49 ?_
          refine lv_goto (tgt := 54) hx hb dX14_lotsOf_50 rfl ?_
          exact J54 (v 174 t5.2.toNatClampNeg) h _ _ _ (lv_sub hl [0, 1, 2, 4] rfl) hP hS hz
      · have h := itf_e h hc29
        refine lv_iconst (v := 0) hx hb dX14_lotsOf_32 rfl ?_
        refine lv_goto (tgt := 54) hx hb dX14_lotsOf_33 rfl ?_
        exact J54 0 h _ _ _ (lv_sub hl [0, 1, 2, 4] rfl) hP hS hz
  exact L5 z (0, 0) h _ _ _ (lv_sub hl [2, 3, 4, 1, 0] rfl) hP hS hz
def j_Model_merchantTold_82 (z : Nat) (v : Va) (sp : Nat) (a1 : Int32) (s82_0 : Bool) : Option Int32 := (f_Model_lotsOf z v sp a1 (q_b s82_0)).bind fun q82 => some q82
def f_Model_merchantTold (z : Nat) (v : Va) (sp : Nat) (a1 : Int32) (a2 : Int32) : Option Int32 := if a2 = 0 then (if a1 < 0 ∨ 6 ≤ a1.toNatClampNeg then none else some (v 179 a1.toNatClampNeg)) else (if a2 = 1 then (if a1 < 0 ∨ 6 ≤ a1.toNatClampNeg then none else some (v (sp + 12) a1.toNatClampNeg)) else (if a2 = 2 then ((f_State_debts z v 173 a1).bind fun q57 => some q57) else (if a2 = 3 then ((f_State_owed z v 173 a1).bind fun q66 => some q66) else (if a2 = 5 then (j_Model_merchantTold_82 z v sp a1 true) else (j_Model_merchantTold_82 z v sp a1 false)))))
theorem c_Model_merchantTold {sp : Nat} {a1 : Int32} {a2 : Int32} (hk : isModel sh sp) {q : Int32} (h : f_Model_merchantTold z v sp a1 a2 = some q) : MetI l yX14_merchantTold cX14_merchantTold 3 (some .int) 2 Γ sh v w n [.ref (Γ.2.1 + 149), .int a1, .int a2] (fun x u => x = q ∧ u = v) := by
  unfold f_Model_merchantTold at h
  refine w_start pn_X14 (Nat.le_of_ble_eq_true rfl) fun p e s m args below meth c hx hb hml hret hlk hnm hts hown hK hP hz hE hS ls hl => ?_
  refine lv_iload_n hx hb dX14_merchantTold_0 rfl (lv_at hl 2 rfl) ?_
  by_cases hc1_0 : a2 = 0
  · have h := itt_e h hc1_0
    refine z_tI (y := 0) (tgt := 32) hx hb dX14_merchantTold_1 hc1_0 (by decide) (by decide) rfl rfl ?_
    refine lv_aload_n hx hb dX14_merchantTold_32 rfl (lv_at hl 0 rfl) ?_
    refine w_gr (k := 149) (r := 173) hx hb hts hown hK hP fX14_27 hk.1 rfl dX14_merchantTold_33 ?_
    refine w_gr (k := 173) (r := 179) hx hb hts hown hK hP fX14_304 hk.2.2.2.1.1 rfl dX14_merchantTold_36 ?_
    refine lv_iload_n hx hb dX14_merchantTold_39 rfl (lv_at hl 1 rfl) ?_
    obtain ⟨hn40, h⟩ := itn_e h
    refine w_iald (k := 179) hx hb hK hP hk.2.2.2.1.2.2.2.2.2.2.1 hn40 dX14_merchantTold_40 ?_
    exact w_iret hx hb hret rfl hlk hK hP hS hz hE (q_p1 h) dX14_merchantTold_41
  have h := itf_e h hc1_0
  by_cases hc1_1 : a2 = 1
  · have h := itt_e h hc1_1
    refine z_tI (y := 1) (tgt := 42) hx hb dX14_merchantTold_1 hc1_1 (by decide) (by decide) rfl rfl ?_
    refine lv_aload_n hx hb dX14_merchantTold_42 rfl (lv_at hl 0 rfl) ?_
    refine w_gr (k := 149) (r := sp) hx hb hts hown hK hP fX14_20 hk.1 rfl dX14_merchantTold_43 ?_
    refine w_gr (k := sp) (r := (sp + 12)) hx hb hts hown hK hP fX14_233 hk.2.2.1.1 rfl dX14_merchantTold_46 ?_
    refine lv_iload_n hx hb dX14_merchantTold_49 rfl (lv_at hl 1 rfl) ?_
    obtain ⟨hn50, h⟩ := itn_e h
    refine w_iald (k := (sp + 12)) hx hb hK hP hk.2.2.1.2.2.2.2.2.2.2.2.2.2.2.2.1 hn50 dX14_merchantTold_50 ?_
    exact w_iret hx hb hret rfl hlk hK hP hS hz hE (q_p1 h) dX14_merchantTold_51
  have h := itf_e h hc1_1
  by_cases hc1_2 : a2 = 2
  · have h := itt_e h hc1_2
    refine z_tI (y := 2) (tgt := 52) hx hb dX14_merchantTold_1 hc1_2 (by decide) (by decide) rfl rfl ?_
    refine lv_aload_n hx hb dX14_merchantTold_52 rfl (lv_at hl 0 rfl) ?_
    refine w_gr (k := 149) (r := 173) hx hb hts hown hK hP fX14_27 hk.1 rfl dX14_merchantTold_53 ?_
    refine lv_iload_n hx hb dX14_merchantTold_56 rfl (lv_at hl 1 rfl) ?_
    obtain ⟨q57, e57, h⟩ := obn_e h
    refine z_Vi (k := 173) (r1 := q57) (v1 := v) hx hb hml hts hown hK hP hS hz hE (c_State_debts hk.2.2.2.1 e57) kX13_debts mX14_305 hk.2.2.2.1.1 rfl rfl rfl hl.1 (Nat.le_of_ble_eq_true rfl) ⟨Nat.le_of_ble_eq_true rfl, Nat.le_of_ble_eq_true rfl⟩ ⟨Nat.le_refl _, Nat.le_refl _⟩ dX14_merchantTold_57 fun H1 locs1 hz hP hS => ?_
    exact w_iret hx hb hret rfl hlk hK hP hS hz hE (q_p1 h) dX14_merchantTold_60
  have h := itf_e h hc1_2
  by_cases hc1_3 : a2 = 3
  · have h := itt_e h hc1_3
    refine z_tI (y := 3) (tgt := 61) hx hb dX14_merchantTold_1 hc1_3 (by decide) (by decide) rfl rfl ?_
    refine lv_aload_n hx hb dX14_merchantTold_61 rfl (lv_at hl 0 rfl) ?_
    refine w_gr (k := 149) (r := 173) hx hb hts hown hK hP fX14_27 hk.1 rfl dX14_merchantTold_62 ?_
    refine lv_iload_n hx hb dX14_merchantTold_65 rfl (lv_at hl 1 rfl) ?_
    obtain ⟨q66, e66, h⟩ := obn_e h
    refine z_Vi (k := 173) (r1 := q66) (v1 := v) hx hb hml hts hown hK hP hS hz hE (c_State_owed hk.2.2.2.1 e66) kX13_owed mX14_429 hk.2.2.2.1.1 rfl rfl rfl hl.1 (Nat.le_of_ble_eq_true rfl) ⟨Nat.le_of_ble_eq_true rfl, Nat.le_of_ble_eq_true rfl⟩ ⟨Nat.le_refl _, Nat.le_refl _⟩ dX14_merchantTold_66 fun H1 locs1 hz hP hS => ?_
    exact w_iret hx hb hret rfl hlk hK hP hS hz hE (q_p1 h) dX14_merchantTold_69
  have h := itf_e h hc1_3
  refine z_tD (tgt := 70) hx hb [0, 1, 2, 3] dX14_merchantTold_1 (q_nc hc1_0 (q_nc hc1_1 (q_nc hc1_2 (q_nc hc1_3 q_nn)))) (by decide) (by decide) rfl ?_
  refine lv_aload_n hx hb dX14_merchantTold_70 rfl (lv_at hl 0 rfl) ?_
  refine lv_iload_n hx hb dX14_merchantTold_71 rfl (lv_at hl 1 rfl) ?_
  refine lv_iload_n hx hb dX14_merchantTold_72 rfl (lv_at hl 2 rfl) ?_
  refine lv_iconst (v := 5) hx hb dX14_merchantTold_73 rfl ?_
  have J82 : ∀ (s82_0 : Bool), (j_Model_merchantTold_82 z v sp a1) s82_0 = some q → ∀ (H1 : Heap) (locs1 : List Loc) (ls1 : Array Slot), lv_has ls1 3 [] → Wd Γ sh v w H1 → va_S (gA Γ) s.heap H1 locs1 → H1.size = Γ.2.1 + n → wpI Γ sh w n 2 (fun x u => x = q ∧ u = v) p l e s m args below meth c H1 locs1 (F0 m 82 ls1 [.int (q_b s82_0), .int a1, .ref (Γ.2.1 + 149)]) := by
    intro s82_0 h H1 locs1 ls hl hP hS hz
    unfold j_Model_merchantTold_82 at h
    obtain ⟨q82, e82, h⟩ := obn_e h
    refine z_Vi (k := 149) (r1 := q82) (v1 := v) hx hb hml hts hown hK hP hS hz hE (c_Model_lotsOf hk e82) kX14_lotsOf mX14_432 hk.1 rfl rfl rfl hl.1 (Nat.le_of_ble_eq_true rfl) ⟨Nat.le_of_ble_eq_true rfl, Nat.le_of_ble_eq_true rfl⟩ ⟨Nat.le_refl _, Nat.le_refl _⟩ dX14_merchantTold_82 fun H1 locs1 hz hP hS => ?_
    exact w_iret hx hb hret rfl hlk hK hP hS hz hE (q_p1 h) dX14_merchantTold_85
  refine lv_icmp_ne (tgt := 81) hx hb dX14_merchantTold_74 rfl (fun hc74 => ?_) (fun hc74 => ?_)
  · have h := itf_e h hc74
    refine lv_iconst (v := 0) hx hb dX14_merchantTold_81 rfl ?_
    exact J82 false h _ _ _ (lv_sub hl [] rfl) hP hS hz
  · have h := itt_e h hc74
    refine lv_iconst (v := 1) hx hb dX14_merchantTold_77 rfl ?_
    refine lv_goto (tgt := 82) hx hb dX14_merchantTold_78 rfl ?_
    exact J82 true h _ _ _ (lv_sub hl [] rfl) hP hS hz
def j_Model_merchant_31 (sp : Nat) (v2 : Va) : Option (Int32 × Va) := (f_Model_no v2 sp 1).bind fun q33 => some (q33.1, q33.2)
def f_Model_merchant (z : Nat) (v : Va) (sp : Nat) (a1 : Int32) (a2 : Int32) : Option (Int32 × Va) := bnd (pu v 149 0 0) fun v2 => (f_Model_isMerchant v2 sp a1).bind fun q7 => if (q_b q7) = 0 then (j_Model_merchant_31 sp v2) else ((f_Model_isIn a2 0 5).bind fun q16 => if (q_b q16) = 0 then (j_Model_merchant_31 sp v2) else ((f_Model_merchantTold z v2 sp a1 a2).bind fun q25 => some (q25, v2)))
theorem c_Model_merchant {sp : Nat} {a1 : Int32} {a2 : Int32} (hk : isModel sh sp) {q : Int32 × Va} (h : f_Model_merchant z v sp a1 a2 = some q) : MetI l yX14_merchant cX14_merchant 3 (some .int) 3 Γ sh v w n [.ref (Γ.2.1 + 149), .int a1, .int a2] (fun x u => x = q.1 ∧ u = q.2) := by
  unfold f_Model_merchant at h
  refine w_start pn_X14 (Nat.le_of_ble_eq_true rfl) fun p e s m args below meth c hx hb hml hret hlk hnm hts hown hK hP hz hE hS ls hl => ?_
  refine lv_aload_n hx hb dX14_merchant_0 rfl (lv_at hl 0 rfl) ?_
  refine lv_iconst (v := 0) hx hb dX14_merchant_1 rfl ?_
  obtain ⟨v2, e2, h⟩ := bnd_e h
  refine w_pi2 (k := 149) hx hb hts hown hK hP hS hz fX14_40 hk.1 rfl e2 dX14_merchant_2 fun H1 locs1 hz hP hS => ?_
  refine lv_aload_n hx hb dX14_merchant_5 rfl (lv_at hl 0 rfl) ?_
  refine lv_iload_n hx hb dX14_merchant_6 rfl (lv_at hl 1 rfl) ?_
  obtain ⟨q7, e7, h⟩ := obn_e h
  refine z_Vi (k := 149) (r1 := (q_b q7)) (v1 := v2) hx hb hml hts hown hK hP hS hz hE (c_Model_isMerchant hk e7) kX14_isMerchant mX14_50 hk.1 rfl rfl rfl hl.1 (Nat.le_of_ble_eq_true rfl) ⟨Nat.le_of_ble_eq_true rfl, Nat.le_of_ble_eq_true rfl⟩ ⟨Nat.le_refl _, Nat.le_refl _⟩ dX14_merchant_7 fun H1 locs1 hz hP hS => ?_
  have J31 : (j_Model_merchant_31 sp v2) = some q → ∀ (H1 : Heap) (locs1 : List Loc) (ls1 : Array Slot), lv_has ls1 3 [(0, .ref (Γ.2.1 + 149))] → Wd Γ sh v2 w H1 → va_S (gA Γ) s.heap H1 locs1 → H1.size = Γ.2.1 + n → wpI Γ sh w n 3 (fun x u => x = q.1 ∧ u = q.2) p l e s m args below meth c H1 locs1 (F0 m 31 ls1 []) := by
    intro  h H1 locs1 ls hl hP hS hz
    unfold j_Model_merchant_31 at h
    refine lv_aload_n hx hb dX14_merchant_31 rfl (lv_at hl 0 rfl) ?_
    refine lv_iconst (v := 1) hx hb dX14_merchant_32 rfl ?_
    obtain ⟨q33, e33, h⟩ := obn_e h
    refine z_Vi (k := 149) (r1 := q33.1) (v1 := q33.2) hx hb hml hts hown hK hP hS hz hE (c_Model_no hk e33) kX14_no mX14_403 hk.1 rfl rfl rfl hl.1 (Nat.le_of_ble_eq_true rfl) ⟨Nat.le_of_ble_eq_true rfl, Nat.le_of_ble_eq_true rfl⟩ ⟨Nat.le_refl _, Nat.le_refl _⟩ dX14_merchant_33 fun H1 locs1 hz hP hS => ?_
    exact w_iret hx hb hret rfl hlk hK hP hS hz hE (q_p2 h) dX14_merchant_36
  refine lv_if_eq (tgt := 31) hx hb dX14_merchant_10 rfl (fun hc10 => ?_) (fun hc10 => ?_)
  · have h := itt_e h hc10
    exact J31 h _ _ _ (lv_sub hl [0] rfl) hP hS hz
  · have h := itf_e h hc10
    refine lv_iload_n hx hb dX14_merchant_13 rfl (lv_at hl 2 rfl) ?_
    refine lv_iconst (v := 0) hx hb dX14_merchant_14 rfl ?_
    refine lv_iconst (v := 5) hx hb dX14_merchant_15 rfl ?_
    obtain ⟨q16, e16, h⟩ := obn_e h
    refine z_Si (r1 := (q_b q16)) (v1 := v2) hx hb hml hts hown hK hP hS hz hE (c_Model_isIn  e16) kX14_isIn mX14_46 rfl rfl hl.1 (Nat.le_of_ble_eq_true rfl) ⟨Nat.le_of_ble_eq_true rfl, Nat.le_of_ble_eq_true rfl⟩ ⟨Nat.le_refl _, Nat.le_refl _⟩ dX14_merchant_16 fun H1 locs1 hz hP hS => ?_
    refine lv_if_eq (tgt := 31) hx hb dX14_merchant_19 rfl (fun hc19 => ?_) (fun hc19 => ?_)
    · have h := itt_e h hc19
      exact J31 h _ _ _ (lv_sub hl [0] rfl) hP hS hz
    · have h := itf_e h hc19
      refine lv_aload_n hx hb dX14_merchant_22 rfl (lv_at hl 0 rfl) ?_
      refine lv_iload_n hx hb dX14_merchant_23 rfl (lv_at hl 1 rfl) ?_
      refine lv_iload_n hx hb dX14_merchant_24 rfl (lv_at hl 2 rfl) ?_
      obtain ⟨q25, e25, h⟩ := obn_e h
      refine z_Vi (k := 149) (r1 := q25) (v1 := v2) hx hb hml hts hown hK hP hS hz hE (c_Model_merchantTold hk e25) kX14_merchantTold mX14_436 hk.1 rfl rfl rfl hl.1 (Nat.le_of_ble_eq_true rfl) ⟨Nat.le_of_ble_eq_true rfl, Nat.le_of_ble_eq_true rfl⟩ ⟨Nat.le_refl _, Nat.le_refl _⟩ dX14_merchant_25 fun H1 locs1 hz hP hS => ?_
      refine lv_goto (tgt := 36) hx hb dX14_merchant_28 rfl ?_
      exact w_iret hx hb hret rfl hlk hK hP hS hz hE (q_p2 h) dX14_merchant_36
def j_Model_guildTold_93 (K61 : (Int32 × Int32) → Option Int32) (t61 : Int32 × Int32) (s93_0 : Bool) : Option Int32 := K61 ((t61.1 + (q_b s93_0)), (t61.2 + 1))
def b_Model_guildTold_61 (v : Va) (sp : Nat) (a1 : Int32) (K61 : (Int32 × Int32) → Option Int32) (t61 : Int32 × Int32) : Option Int32 := if (v sp 15) ≤ t61.2 then (some t61.1) else (if t61.2 < 0 ∨ 10 ≤ t61.2.toNatClampNeg then none else if (v 176 t61.2.toNatClampNeg) = a1 then (j_Model_guildTold_93 K61 t61 true) else (j_Model_guildTold_93 K61 t61 false))
def f_Model_guildTold (z : Nat) (v : Va) (sp : Nat) (a1 : Int32) (a2 : Int32) : Option Int32 := if a2 = 0 then (if a1 < 0 ∨ 4 ≤ a1.toNatClampNeg then none else some (v (sp + 8) a1.toNatClampNeg)) else (if a2 = 1 then (if a1 < 0 ∨ 4 ≤ a1.toNatClampNeg then none else some (v (sp + 9) a1.toNatClampNeg)) else (if a2 = 2 then (if a1 < 0 ∨ 4 ≤ a1.toNatClampNeg then none else some (v 181 a1.toNatClampNeg)) else (rp (b_Model_guildTold_61 v sp a1) z (0, 0))))
theorem c_Model_guildTold {sp : Nat} {a1 : Int32} {a2 : Int32} (hk : isModel sh sp) {q : Int32} (h : f_Model_guildTold z v sp a1 a2 = some q) : MetI l yX14_guildTold cX14_guildTold 5 (some .int) 0 Γ sh v w n [.ref (Γ.2.1 + 149), .int a1, .int a2] (fun x u => x = q ∧ u = v) := by
  unfold f_Model_guildTold at h
  refine w_start pn_X14 (Nat.le_of_ble_eq_true rfl) fun p e s m args below meth c hx hb hml hret hlk hnm hts hown hK hP hz hE hS ls hl => ?_
  refine lv_iconst (v := 0) hx hb dX14_guildTold_0 rfl ?_
  refine lv_istore_n (lv' := [(3, .int 0), (0, .ref (Γ.2.1 + 149)), (1, .int a1), (2, .int a2)]) hx hb dX14_guildTold_1 rfl hl (by decide) rfl fun ls hl => ?_
  refine lv_iload_n hx hb dX14_guildTold_2 rfl (lv_at hl 3 rfl) ?_
  by_cases hc3_0 : a2 = 0
  · have h := itt_e h hc3_0
    refine z_tI (y := 0) (tgt := 28) hx hb dX14_guildTold_3 hc3_0 (by decide) (by decide) rfl rfl ?_
    refine lv_aload_n hx hb dX14_guildTold_28 rfl (lv_at hl 1 rfl) ?_
    refine w_gr (k := 149) (r := sp) hx hb hts hown hK hP fX14_20 hk.1 rfl dX14_guildTold_29 ?_
    refine w_gr (k := sp) (r := (sp + 8)) hx hb hts hown hK hP fX14_224 hk.2.2.1.1 rfl dX14_guildTold_32 ?_
    refine lv_iload_n hx hb dX14_guildTold_35 rfl (lv_at hl 2 rfl) ?_
    obtain ⟨hn36, h⟩ := itn_e h
    refine w_iald (k := (sp + 8)) hx hb hK hP hk.2.2.1.2.2.2.2.2.2.2.2.1 hn36 dX14_guildTold_36 ?_
    exact w_iret hx hb hret rfl hlk hK hP hS hz hE (q_p1 h) dX14_guildTold_37
  have h := itf_e h hc3_0
  by_cases hc3_1 : a2 = 1
  · have h := itt_e h hc3_1
    refine z_tI (y := 1) (tgt := 38) hx hb dX14_guildTold_3 hc3_1 (by decide) (by decide) rfl rfl ?_
    refine lv_aload_n hx hb dX14_guildTold_38 rfl (lv_at hl 1 rfl) ?_
    refine w_gr (k := 149) (r := sp) hx hb hts hown hK hP fX14_20 hk.1 rfl dX14_guildTold_39 ?_
    refine w_gr (k := sp) (r := (sp + 9)) hx hb hts hown hK hP fX14_227 hk.2.2.1.1 rfl dX14_guildTold_42 ?_
    refine lv_iload_n hx hb dX14_guildTold_45 rfl (lv_at hl 2 rfl) ?_
    obtain ⟨hn46, h⟩ := itn_e h
    refine w_iald (k := (sp + 9)) hx hb hK hP hk.2.2.1.2.2.2.2.2.2.2.2.2.1 hn46 dX14_guildTold_46 ?_
    exact w_iret hx hb hret rfl hlk hK hP hS hz hE (q_p1 h) dX14_guildTold_47
  have h := itf_e h hc3_1
  by_cases hc3_2 : a2 = 2
  · have h := itt_e h hc3_2
    refine z_tI (y := 2) (tgt := 48) hx hb dX14_guildTold_3 hc3_2 (by decide) (by decide) rfl rfl ?_
    refine lv_aload_n hx hb dX14_guildTold_48 rfl (lv_at hl 1 rfl) ?_
    refine w_gr (k := 149) (r := 173) hx hb hts hown hK hP fX14_27 hk.1 rfl dX14_guildTold_49 ?_
    refine w_gr (k := 173) (r := 181) hx hb hts hown hK hP fX14_348 hk.2.2.2.1.1 rfl dX14_guildTold_52 ?_
    refine lv_iload_n hx hb dX14_guildTold_55 rfl (lv_at hl 2 rfl) ?_
    obtain ⟨hn56, h⟩ := itn_e h
    refine w_iald (k := 181) hx hb hK hP hk.2.2.2.1.2.2.2.2.2.2.2.2.1 hn56 dX14_guildTold_56 ?_
    exact w_iret hx hb hret rfl hlk hK hP hS hz hE (q_p1 h) dX14_guildTold_57
  have h := itf_e h hc3_2
  refine z_tD (tgt := 58) hx hb [0, 1, 2] dX14_guildTold_3 (q_nc hc3_0 (q_nc hc3_1 (q_nc hc3_2 q_nn))) (by decide) (by decide) rfl ?_
  refine lv_iconst (v := 0) hx hb dX14_guildTold_58 rfl ?_
  refine lv_istore (lv' := [(4, .int 0), (3, .int 0), (0, .ref (Γ.2.1 + 149)), (1, .int a1), (2, .int a2)]) hx hb dX14_guildTold_59 hl (by decide) rfl fun ls hl => ?_
  have L61 : ∀ (fu : Nat) (t61 : Int32 × Int32), rp (b_Model_guildTold_61 v sp a1) fu t61 = some q → ∀ (H1 : Heap) (locs1 : List Loc) (ls1 : Array Slot), lv_has ls1 5 [(0, .ref (Γ.2.1 + 149)), (1, .int a1), (3, .int t61.1), (4, .int t61.2)] → Wd Γ sh v w H1 → va_S (gA Γ) s.heap H1 locs1 → H1.size = Γ.2.1 + n → wpI Γ sh w n 0 (fun x u => x = q ∧ u = v) p l e s m args below meth c H1 locs1 (F0 m 61 ls1 []) := by
    refine q_loop (fun K61 ih61 t61 h H1 locs1 ls hl hP hS hz => ?_)
    unfold b_Model_guildTold_61 at h
    refine lv_iload hx hb dX14_guildTold_61 (lv_at hl 3 rfl) ?_
    refine lv_aload_n hx hb dX14_guildTold_63 rfl (lv_at hl 0 rfl) ?_
    refine w_gr (k := 149) (r := sp) hx hb hts hown hK hP fX14_20 hk.1 rfl dX14_guildTold_64 ?_
    refine w_gi (k := sp) hx hb hts hown hK hP fX14_54 hk.2.2.1.1 rfl dX14_guildTold_67 ?_
    refine lv_icmp_ge (tgt := 101) hx hb dX14_guildTold_70 rfl (fun hc70 => ?_) (fun hc70 => ?_)
    · have h := itt_e h hc70
      refine lv_iload_n hx hb dX14_guildTold_101 rfl (lv_at hl 2 rfl) ?_
      exact w_iret hx hb hret rfl hlk hK hP hS hz hE (q_p1 h) dX14_guildTold_102
    · have h := itf_e h hc70
      refine lv_iload_n hx hb dX14_guildTold_73 rfl (lv_at hl 2 rfl) ?_
      refine lv_aload_n hx hb dX14_guildTold_74 rfl (lv_at hl 0 rfl) ?_
      refine w_gr (k := 149) (r := 173) hx hb hts hown hK hP fX14_27 hk.1 rfl dX14_guildTold_75 ?_
      refine w_gr (k := 173) (r := 176) hx hb hts hown hK hP fX14_295 hk.2.2.2.1.1 rfl dX14_guildTold_78 ?_
      refine lv_iload hx hb dX14_guildTold_81 (lv_at hl 3 rfl) ?_
      obtain ⟨hn83, h⟩ := itn_e h
      refine w_iald (k := 176) hx hb hK hP hk.2.2.2.1.2.2.2.1 hn83 dX14_guildTold_83 ?_
      refine lv_iload_n hx hb dX14_guildTold_84 rfl (lv_at hl 1 rfl) ?_
      have J93 : ∀ (s93_0 : Bool), (j_Model_guildTold_93 K61 t61) s93_0 = some q → ∀ (H1 : Heap) (locs1 : List Loc) (ls1 : Array Slot), lv_has ls1 5 [(0, .ref (Γ.2.1 + 149)), (1, .int a1), (4, .int t61.2)] → Wd Γ sh v w H1 → va_S (gA Γ) s.heap H1 locs1 → H1.size = Γ.2.1 + n → wpI Γ sh w n 0 (fun x u => x = q ∧ u = v) p l e s m args below meth c H1 locs1 (F0 m 93 ls1 [.int (q_b s93_0), .int t61.1]) := by
        intro s93_0 h H1 locs1 ls hl hP hS hz
        unfold j_Model_guildTold_93 at h
        refine lv_iadd hx hb dX14_guildTold_93 ?_
        refine lv_istore_n (lv' := [(3, .int (t61.1 + (q_b s93_0))), (0, .ref (Γ.2.1 + 149)), (1, .int a1), (4, .int t61.2)]) hx hb dX14_guildTold_94 rfl hl (by decide) rfl fun ls hl => ?_
        refine lv_iinc (k := 3) (v := (t61.2 + 1)) (lv' := [(4, .int (t61.2 + 1)), (3, .int (t61.1 + (q_b s93_0))), (0, .ref (Γ.2.1 + 149)), (1, .int a1)]) hx hb dX14_guildTold_95 hl rfl rfl (by decide) rfl fun ls hl => ?_
        refine lv_goto (tgt := 61) hx hb dX14_guildTold_98 rfl ?_
        exact ih61 ((t61.1 + (q_b s93_0)), (t61.2 + 1)) h _ _ _ (lv_sub hl [2, 3, 1, 0] rfl) hP hS hz
      refine lv_icmp_ne (tgt := 92) hx hb dX14_guildTold_85 rfl (fun hc85 => ?_) (fun hc85 => ?_)
      · have h := itf_e h hc85
        refine lv_iconst (v := 0) hx hb dX14_guildTold_92 rfl ?_
        exact J93 false h _ _ _ (lv_sub hl [0, 1, 3] rfl) hP hS hz
      · have h := itt_e h hc85
        refine lv_iconst (v := 1) hx hb dX14_guildTold_88 rfl ?_
        refine lv_goto (tgt := 93) hx hb dX14_guildTold_89 rfl ?_
        exact J93 true h _ _ _ (lv_sub hl [0, 1, 3] rfl) hP hS hz
  exact L61 z (0, 0) h _ _ _ (lv_sub hl [2, 3, 1, 0] rfl) hP hS hz
def j_Model_guild_40 (sp : Nat) (v2 : Va) : Option (Int32 × Va) := (f_Model_no v2 sp 1).bind fun q42 => some (q42.1, q42.2)
def f_Model_guild (z : Nat) (v : Va) (sp : Nat) (a1 : Int32) (a2 : Int32) : Option (Int32 × Va) := bnd (pu v 149 0 0) fun v2 => (f_Model_isIn a1 0 ((v2 sp 7) - 1)).bind fun q16 => if (q_b q16) = 0 then (j_Model_guild_40 sp v2) else ((f_Model_isIn a2 0 3).bind fun q25 => if (q_b q25) = 0 then (j_Model_guild_40 sp v2) else ((f_Model_guildTold z v2 sp a1 a2).bind fun q34 => some (q34, v2)))
theorem c_Model_guild {sp : Nat} {a1 : Int32} {a2 : Int32} (hk : isModel sh sp) {q : Int32 × Va} (h : f_Model_guild z v sp a1 a2 = some q) : MetI l yX14_guild cX14_guild 3 (some .int) 1 Γ sh v w n [.ref (Γ.2.1 + 149), .int a1, .int a2] (fun x u => x = q.1 ∧ u = q.2) := by
  unfold f_Model_guild at h
  refine w_start pn_X14 (Nat.le_of_ble_eq_true rfl) fun p e s m args below meth c hx hb hml hret hlk hnm hts hown hK hP hz hE hS ls hl => ?_
  refine lv_aload_n hx hb dX14_guild_0 rfl (lv_at hl 0 rfl) ?_
  refine lv_iconst (v := 0) hx hb dX14_guild_1 rfl ?_
  obtain ⟨v2, e2, h⟩ := bnd_e h
  refine w_pi2 (k := 149) hx hb hts hown hK hP hS hz fX14_40 hk.1 rfl e2 dX14_guild_2 fun H1 locs1 hz hP hS => ?_
  refine lv_iload_n hx hb dX14_guild_5 rfl (lv_at hl 1 rfl) ?_
  refine lv_iconst (v := 0) hx hb dX14_guild_6 rfl ?_
  refine lv_aload_n hx hb dX14_guild_7 rfl (lv_at hl 0 rfl) ?_
  refine w_gr (k := 149) (r := sp) hx hb hts hown hK hP fX14_20 hk.1 rfl dX14_guild_8 ?_
  refine w_gi (k := sp) hx hb hts hown hK hP fX14_174 hk.2.2.1.1 rfl dX14_guild_11 ?_
  refine lv_iconst (v := 1) hx hb dX14_guild_14 rfl ?_
  refine lv_isub hx hb dX14_guild_15 ?_
  obtain ⟨q16, e16, h⟩ := obn_e h
  refine z_Si (r1 := (q_b q16)) (v1 := v2) hx hb hml hts hown hK hP hS hz hE (c_Model_isIn  e16) kX14_isIn mX14_46 rfl rfl hl.1 (Nat.le_of_ble_eq_true rfl) ⟨Nat.le_of_ble_eq_true rfl, Nat.le_of_ble_eq_true rfl⟩ ⟨Nat.le_refl _, Nat.le_refl _⟩ dX14_guild_16 fun H1 locs1 hz hP hS => ?_
  have J40 : (j_Model_guild_40 sp v2) = some q → ∀ (H1 : Heap) (locs1 : List Loc) (ls1 : Array Slot), lv_has ls1 3 [(0, .ref (Γ.2.1 + 149))] → Wd Γ sh v2 w H1 → va_S (gA Γ) s.heap H1 locs1 → H1.size = Γ.2.1 + n → wpI Γ sh w n 1 (fun x u => x = q.1 ∧ u = q.2) p l e s m args below meth c H1 locs1 (F0 m 40 ls1 []) := by
    intro  h H1 locs1 ls hl hP hS hz
    unfold j_Model_guild_40 at h
    refine lv_aload_n hx hb dX14_guild_40 rfl (lv_at hl 0 rfl) ?_
    refine lv_iconst (v := 1) hx hb dX14_guild_41 rfl ?_
    obtain ⟨q42, e42, h⟩ := obn_e h
    refine z_Vi (k := 149) (r1 := q42.1) (v1 := q42.2) hx hb hml hts hown hK hP hS hz hE (c_Model_no hk e42) kX14_no mX14_403 hk.1 rfl rfl rfl hl.1 (Nat.le_of_ble_eq_true rfl) ⟨Nat.le_of_ble_eq_true rfl, Nat.le_of_ble_eq_true rfl⟩ ⟨Nat.le_refl _, Nat.le_refl _⟩ dX14_guild_42 fun H1 locs1 hz hP hS => ?_
    exact w_iret hx hb hret rfl hlk hK hP hS hz hE (q_p2 h) dX14_guild_45
  refine lv_if_eq (tgt := 40) hx hb dX14_guild_19 rfl (fun hc19 => ?_) (fun hc19 => ?_)
  · have h := itt_e h hc19
    exact J40 h _ _ _ (lv_sub hl [0] rfl) hP hS hz
  · have h := itf_e h hc19
    refine lv_iload_n hx hb dX14_guild_22 rfl (lv_at hl 2 rfl) ?_
    refine lv_iconst (v := 0) hx hb dX14_guild_23 rfl ?_
    refine lv_iconst (v := 3) hx hb dX14_guild_24 rfl ?_
    obtain ⟨q25, e25, h⟩ := obn_e h
    refine z_Si (r1 := (q_b q25)) (v1 := v2) hx hb hml hts hown hK hP hS hz hE (c_Model_isIn  e25) kX14_isIn mX14_46 rfl rfl hl.1 (Nat.le_of_ble_eq_true rfl) ⟨Nat.le_of_ble_eq_true rfl, Nat.le_of_ble_eq_true rfl⟩ ⟨Nat.le_refl _, Nat.le_refl _⟩ dX14_guild_25 fun H1 locs1 hz hP hS => ?_
    refine lv_if_eq (tgt := 40) hx hb dX14_guild_28 rfl (fun hc28 => ?_) (fun hc28 => ?_)
    · have h := itt_e h hc28
      exact J40 h _ _ _ (lv_sub hl [0] rfl) hP hS hz
    · have h := itf_e h hc28
      refine lv_aload_n hx hb dX14_guild_31 rfl (lv_at hl 0 rfl) ?_
      refine lv_iload_n hx hb dX14_guild_32 rfl (lv_at hl 1 rfl) ?_
      refine lv_iload_n hx hb dX14_guild_33 rfl (lv_at hl 2 rfl) ?_
      obtain ⟨q34, e34, h⟩ := obn_e h
      refine z_Vi (k := 149) (r1 := q34) (v1 := v2) hx hb hml hts hown hK hP hS hz hE (c_Model_guildTold hk e34) kX14_guildTold mX14_439 hk.1 rfl rfl rfl hl.1 (Nat.le_of_ble_eq_true rfl) ⟨Nat.le_of_ble_eq_true rfl, Nat.le_of_ble_eq_true rfl⟩ ⟨Nat.le_refl _, Nat.le_refl _⟩ dX14_guild_34 fun H1 locs1 hz hP hS => ?_
      refine lv_goto (tgt := 45) hx hb dX14_guild_37 rfl ?_
      exact w_iret hx hb hret rfl hlk hK hP hS hz hE (q_p2 h) dX14_guild_45
def f_Model_orderTold (z : Nat) (v : Va) (sp : Nat) (a1 : Int32) (a2 : Int32) : Option (Int32 × Va) := if a2 = 0 then (if a1 < 0 ∨ 24 ≤ a1.toNatClampNeg then none else some ((v (sp + 17) a1.toNatClampNeg), v)) else (if a2 = 1 then (if a1 < 0 ∨ 24 ≤ a1.toNatClampNeg then none else some ((v (sp + 18) a1.toNatClampNeg), v)) else (if a2 = 2 then (if a1 < 0 ∨ 24 ≤ a1.toNatClampNeg then none else some ((v (sp + 19) a1.toNatClampNeg), v)) else (if a2 = 3 then ((f_Model_can z v sp 173 a1).bind fun q68 => if (q_b q68.1) = 0 then (some (0, q68.2)) else (some (1, q68.2))) else (if a1 < 0 ∨ 24 ≤ a1.toNatClampNeg then none else some ((v 182 a1.toNatClampNeg), v)))))
theorem c_Model_orderTold {sp : Nat} {a1 : Int32} {a2 : Int32} (hk : isModel sh sp) {q : Int32 × Va} (h : f_Model_orderTold z v sp a1 a2 = some q) : MetI l yX14_orderTold cX14_orderTold 3 (some .int) 56 Γ sh v w n [.ref (Γ.2.1 + 149), .int a1, .int a2] (fun x u => x = q.1 ∧ u = q.2) := by
  unfold f_Model_orderTold at h
  refine w_start pn_X14 (Nat.le_of_ble_eq_true rfl) fun p e s m args below meth c hx hb hml hret hlk hnm hts hown hK hP hz hE hS ls hl => ?_
  refine lv_iload_n hx hb dX14_orderTold_0 rfl (lv_at hl 2 rfl) ?_
  by_cases hc1_0 : a2 = 0
  · have h := itt_e h hc1_0
    refine z_tI (y := 0) (tgt := 32) hx hb dX14_orderTold_1 hc1_0 (by decide) (by decide) rfl rfl ?_
    refine lv_aload_n hx hb dX14_orderTold_32 rfl (lv_at hl 0 rfl) ?_
    refine w_gr (k := 149) (r := sp) hx hb hts hown hK hP fX14_20 hk.1 rfl dX14_orderTold_33 ?_
    refine w_gr (k := sp) (r := (sp + 17)) hx hb hts hown hK hP fX14_239 hk.2.2.1.1 rfl dX14_orderTold_36 ?_
    refine lv_iload_n hx hb dX14_orderTold_39 rfl (lv_at hl 1 rfl) ?_
    obtain ⟨hn40, h⟩ := itn_e h
    refine w_iald (k := (sp + 17)) hx hb hK hP hk.2.2.1.2.2.2.2.2.2.2.2.2.2.2.2.2.2.2.2.2.1 hn40 dX14_orderTold_40 ?_
    exact w_iret hx hb hret rfl hlk hK hP hS hz hE (q_p2 h) dX14_orderTold_41
  have h := itf_e h hc1_0
  by_cases hc1_1 : a2 = 1
  · have h := itt_e h hc1_1
    refine z_tI (y := 1) (tgt := 42) hx hb dX14_orderTold_1 hc1_1 (by decide) (by decide) rfl rfl ?_
    refine lv_aload_n hx hb dX14_orderTold_42 rfl (lv_at hl 0 rfl) ?_
    refine w_gr (k := 149) (r := sp) hx hb hts hown hK hP fX14_20 hk.1 rfl dX14_orderTold_43 ?_
    refine w_gr (k := sp) (r := (sp + 18)) hx hb hts hown hK hP fX14_205 hk.2.2.1.1 rfl dX14_orderTold_46 ?_
    refine lv_iload_n hx hb dX14_orderTold_49 rfl (lv_at hl 1 rfl) ?_
    obtain ⟨hn50, h⟩ := itn_e h
    refine w_iald (k := (sp + 18)) hx hb hK hP hk.2.2.1.2.2.2.2.2.2.2.2.2.2.2.2.2.2.2.2.2.2.1 hn50 dX14_orderTold_50 ?_
    exact w_iret hx hb hret rfl hlk hK hP hS hz hE (q_p2 h) dX14_orderTold_51
  have h := itf_e h hc1_1
  by_cases hc1_2 : a2 = 2
  · have h := itt_e h hc1_2
    refine z_tI (y := 2) (tgt := 52) hx hb dX14_orderTold_1 hc1_2 (by decide) (by decide) rfl rfl ?_
    refine lv_aload_n hx hb dX14_orderTold_52 rfl (lv_at hl 0 rfl) ?_
    refine w_gr (k := 149) (r := sp) hx hb hts hown hK hP fX14_20 hk.1 rfl dX14_orderTold_53 ?_
    refine w_gr (k := sp) (r := (sp + 19)) hx hb hts hown hK hP fX14_211 hk.2.2.1.1 rfl dX14_orderTold_56 ?_
    refine lv_iload_n hx hb dX14_orderTold_59 rfl (lv_at hl 1 rfl) ?_
    obtain ⟨hn60, h⟩ := itn_e h
    refine w_iald (k := (sp + 19)) hx hb hK hP hk.2.2.1.2.2.2.2.2.2.2.2.2.2.2.2.2.2.2.2.2.2.2.1 hn60 dX14_orderTold_60 ?_
    exact w_iret hx hb hret rfl hlk hK hP hS hz hE (q_p2 h) dX14_orderTold_61
  have h := itf_e h hc1_2
  by_cases hc1_3 : a2 = 3
  · have h := itt_e h hc1_3
    refine z_tI (y := 3) (tgt := 62) hx hb dX14_orderTold_1 hc1_3 (by decide) (by decide) rfl rfl ?_
    refine lv_aload_n hx hb dX14_orderTold_62 rfl (lv_at hl 0 rfl) ?_
    refine lv_aload_n hx hb dX14_orderTold_63 rfl (lv_at hl 0 rfl) ?_
    refine w_gr (k := 149) (r := 173) hx hb hts hown hK hP fX14_27 hk.1 rfl dX14_orderTold_64 ?_
    refine lv_iload_n hx hb dX14_orderTold_67 rfl (lv_at hl 1 rfl) ?_
    obtain ⟨q68, e68, h⟩ := obn_e h
    refine z_Vi (k := 149) (r1 := (q_b q68.1)) (v1 := q68.2) hx hb hml hts hown hK hP hS hz hE (c_Model_can hk hk.2.2.2.1 e68) kX14_can mX14_365 hk.1 rfl rfl rfl hl.1 (Nat.le_of_ble_eq_true rfl) ⟨Nat.le_of_ble_eq_true rfl, Nat.le_of_ble_eq_true rfl⟩ ⟨Nat.le_refl _, Nat.le_refl _⟩ dX14_orderTold_68 fun H1 locs1 hz hP hS => ?_
    refine lv_if_eq (tgt := 78) hx hb dX14_orderTold_71 rfl (fun hc71 => ?_) (fun hc71 => ?_)
    · have h := itt_e h hc71
      refine lv_iconst (v := 0) hx hb dX14_orderTold_78 rfl ?_
      exact w_iret hx hb hret rfl hlk hK hP hS hz hE (q_p2 h) dX14_orderTold_79
    · have h := itf_e h hc71
      refine lv_iconst (v := 1) hx hb dX14_orderTold_74 rfl ?_
      refine lv_goto (tgt := 79) hx hb dX14_orderTold_75 rfl ?_
      exact w_iret hx hb hret rfl hlk hK hP hS hz hE (q_p2 h) dX14_orderTold_79
  have h := itf_e h hc1_3
  refine z_tD (tgt := 80) hx hb [0, 1, 2, 3] dX14_orderTold_1 (q_nc hc1_0 (q_nc hc1_1 (q_nc hc1_2 (q_nc hc1_3 q_nn)))) (by decide) (by decide) rfl ?_
  refine lv_aload_n hx hb dX14_orderTold_80 rfl (lv_at hl 0 rfl) ?_
  refine w_gr (k := 149) (r := 173) hx hb hts hown hK hP fX14_27 hk.1 rfl dX14_orderTold_81 ?_
  refine w_gr (k := 173) (r := 182) hx hb hts hown hK hP fX14_379 hk.2.2.2.1.1 rfl dX14_orderTold_84 ?_
  refine lv_iload_n hx hb dX14_orderTold_87 rfl (lv_at hl 1 rfl) ?_
  obtain ⟨hn88, h⟩ := itn_e h
  refine w_iald (k := 182) hx hb hK hP hk.2.2.2.1.2.2.2.2.2.2.2.2.2.1 hn88 dX14_orderTold_88 ?_
  exact w_iret hx hb hret rfl hlk hK hP hS hz hE (q_p2 h) dX14_orderTold_89
def j_Model_order_40 (sp : Nat) (v2 : Va) : Option (Int32 × Va) := (f_Model_no v2 sp 1).bind fun q42 => some (q42.1, q42.2)
def f_Model_order (z : Nat) (v : Va) (sp : Nat) (a1 : Int32) (a2 : Int32) : Option (Int32 × Va) := bnd (pu v 149 0 0) fun v2 => (f_Model_isIn a1 0 ((v2 sp 20) - 1)).bind fun q16 => if (q_b q16) = 0 then (j_Model_order_40 sp v2) else ((f_Model_isIn a2 0 4).bind fun q25 => if (q_b q25) = 0 then (j_Model_order_40 sp v2) else ((f_Model_orderTold z v2 sp a1 a2).bind fun q34 => some (q34.1, q34.2)))
theorem c_Model_order {sp : Nat} {a1 : Int32} {a2 : Int32} (hk : isModel sh sp) {q : Int32 × Va} (h : f_Model_order z v sp a1 a2 = some q) : MetI l yX14_order cX14_order 3 (some .int) 57 Γ sh v w n [.ref (Γ.2.1 + 149), .int a1, .int a2] (fun x u => x = q.1 ∧ u = q.2) := by
  unfold f_Model_order at h
  refine w_start pn_X14 (Nat.le_of_ble_eq_true rfl) fun p e s m args below meth c hx hb hml hret hlk hnm hts hown hK hP hz hE hS ls hl => ?_
  refine lv_aload_n hx hb dX14_order_0 rfl (lv_at hl 0 rfl) ?_
  refine lv_iconst (v := 0) hx hb dX14_order_1 rfl ?_
  obtain ⟨v2, e2, h⟩ := bnd_e h
  refine w_pi2 (k := 149) hx hb hts hown hK hP hS hz fX14_40 hk.1 rfl e2 dX14_order_2 fun H1 locs1 hz hP hS => ?_
  refine lv_iload_n hx hb dX14_order_5 rfl (lv_at hl 1 rfl) ?_
  refine lv_iconst (v := 0) hx hb dX14_order_6 rfl ?_
  refine lv_aload_n hx hb dX14_order_7 rfl (lv_at hl 0 rfl) ?_
  refine w_gr (k := 149) (r := sp) hx hb hts hown hK hP fX14_20 hk.1 rfl dX14_order_8 ?_
  refine w_gi (k := sp) hx hb hts hown hK hP fX14_208 hk.2.2.1.1 rfl dX14_order_11 ?_
  refine lv_iconst (v := 1) hx hb dX14_order_14 rfl ?_
  refine lv_isub hx hb dX14_order_15 ?_
  obtain ⟨q16, e16, h⟩ := obn_e h
  refine z_Si (r1 := (q_b q16)) (v1 := v2) hx hb hml hts hown hK hP hS hz hE (c_Model_isIn  e16) kX14_isIn mX14_46 rfl rfl hl.1 (Nat.le_of_ble_eq_true rfl) ⟨Nat.le_of_ble_eq_true rfl, Nat.le_of_ble_eq_true rfl⟩ ⟨Nat.le_refl _, Nat.le_refl _⟩ dX14_order_16 fun H1 locs1 hz hP hS => ?_
  have J40 : (j_Model_order_40 sp v2) = some q → ∀ (H1 : Heap) (locs1 : List Loc) (ls1 : Array Slot), lv_has ls1 3 [(0, .ref (Γ.2.1 + 149))] → Wd Γ sh v2 w H1 → va_S (gA Γ) s.heap H1 locs1 → H1.size = Γ.2.1 + n → wpI Γ sh w n 57 (fun x u => x = q.1 ∧ u = q.2) p l e s m args below meth c H1 locs1 (F0 m 40 ls1 []) := by
    intro  h H1 locs1 ls hl hP hS hz
    unfold j_Model_order_40 at h
    refine lv_aload_n hx hb dX14_order_40 rfl (lv_at hl 0 rfl) ?_
    refine lv_iconst (v := 1) hx hb dX14_order_41 rfl ?_
    obtain ⟨q42, e42, h⟩ := obn_e h
    refine z_Vi (k := 149) (r1 := q42.1) (v1 := q42.2) hx hb hml hts hown hK hP hS hz hE (c_Model_no hk e42) kX14_no mX14_403 hk.1 rfl rfl rfl hl.1 (Nat.le_of_ble_eq_true rfl) ⟨Nat.le_of_ble_eq_true rfl, Nat.le_of_ble_eq_true rfl⟩ ⟨Nat.le_refl _, Nat.le_refl _⟩ dX14_order_42 fun H1 locs1 hz hP hS => ?_
    exact w_iret hx hb hret rfl hlk hK hP hS hz hE (q_p2 h) dX14_order_45
  refine lv_if_eq (tgt := 40) hx hb dX14_order_19 rfl (fun hc19 => ?_) (fun hc19 => ?_)
  · have h := itt_e h hc19
    exact J40 h _ _ _ (lv_sub hl [0] rfl) hP hS hz
  · have h := itf_e h hc19
    refine lv_iload_n hx hb dX14_order_22 rfl (lv_at hl 2 rfl) ?_
    refine lv_iconst (v := 0) hx hb dX14_order_23 rfl ?_
    refine lv_iconst (v := 4) hx hb dX14_order_24 rfl ?_
    obtain ⟨q25, e25, h⟩ := obn_e h
    refine z_Si (r1 := (q_b q25)) (v1 := v2) hx hb hml hts hown hK hP hS hz hE (c_Model_isIn  e25) kX14_isIn mX14_46 rfl rfl hl.1 (Nat.le_of_ble_eq_true rfl) ⟨Nat.le_of_ble_eq_true rfl, Nat.le_of_ble_eq_true rfl⟩ ⟨Nat.le_refl _, Nat.le_refl _⟩ dX14_order_25 fun H1 locs1 hz hP hS => ?_
    refine lv_if_eq (tgt := 40) hx hb dX14_order_28 rfl (fun hc28 => ?_) (fun hc28 => ?_)
    · have h := itt_e h hc28
      exact J40 h _ _ _ (lv_sub hl [0] rfl) hP hS hz
    · have h := itf_e h hc28
      refine lv_aload_n hx hb dX14_order_31 rfl (lv_at hl 0 rfl) ?_
      refine lv_iload_n hx hb dX14_order_32 rfl (lv_at hl 1 rfl) ?_
      refine lv_iload_n hx hb dX14_order_33 rfl (lv_at hl 2 rfl) ?_
      obtain ⟨q34, e34, h⟩ := obn_e h
      refine z_Vi (k := 149) (r1 := q34.1) (v1 := q34.2) hx hb hml hts hown hK hP hS hz hE (c_Model_orderTold hk e34) kX14_orderTold mX14_442 hk.1 rfl rfl rfl hl.1 (Nat.le_of_ble_eq_true rfl) ⟨Nat.le_of_ble_eq_true rfl, Nat.le_of_ble_eq_true rfl⟩ ⟨Nat.le_refl _, Nat.le_refl _⟩ dX14_order_34 fun H1 locs1 hz hP hS => ?_
      refine lv_goto (tgt := 45) hx hb dX14_order_37 rfl ?_
      exact w_iret hx hb hret rfl hlk hK hP hS hz hE (q_p2 h) dX14_order_45
def f_Model_owes (v : Va) (sp : Nat) (a1 : Int32) (a2 : Int32) : Option (Int32 × Va) := bnd (pu v 149 0 0) fun v2 => (f_Model_areMerchants v2 sp a1 a2).bind fun q8 => if (q_b q8) = 0 then ((f_Model_no v2 sp 1).bind fun q28 => some (q28.1, q28.2)) else ((f_State_owes v2 173 a1 a2).bind fun q20 => some (q20, v2))
theorem c_Model_owes {sp : Nat} {a1 : Int32} {a2 : Int32} (hk : isModel sh sp) {q : Int32 × Va} (h : f_Model_owes v sp a1 a2 = some q) : MetI l yX14_owes cX14_owes 3 (some .int) 3 Γ sh v w n [.ref (Γ.2.1 + 149), .int a1, .int a2] (fun x u => x = q.1 ∧ u = q.2) := by
  unfold f_Model_owes at h
  refine w_start pn_X14 (Nat.le_of_ble_eq_true rfl) fun p e s m args below meth c hx hb hml hret hlk hnm hts hown hK hP hz hE hS ls hl => ?_
  refine lv_aload_n hx hb dX14_owes_0 rfl (lv_at hl 0 rfl) ?_
  refine lv_iconst (v := 0) hx hb dX14_owes_1 rfl ?_
  obtain ⟨v2, e2, h⟩ := bnd_e h
  refine w_pi2 (k := 149) hx hb hts hown hK hP hS hz fX14_40 hk.1 rfl e2 dX14_owes_2 fun H1 locs1 hz hP hS => ?_
  refine lv_aload_n hx hb dX14_owes_5 rfl (lv_at hl 0 rfl) ?_
  refine lv_iload_n hx hb dX14_owes_6 rfl (lv_at hl 1 rfl) ?_
  refine lv_iload_n hx hb dX14_owes_7 rfl (lv_at hl 2 rfl) ?_
  obtain ⟨q8, e8, h⟩ := obn_e h
  refine z_Vi (k := 149) (r1 := (q_b q8)) (v1 := v2) hx hb hml hts hown hK hP hS hz hE (c_Model_areMerchants hk e8) kX14_areMerchants mX14_445 hk.1 rfl rfl rfl hl.1 (Nat.le_of_ble_eq_true rfl) ⟨Nat.le_of_ble_eq_true rfl, Nat.le_of_ble_eq_true rfl⟩ ⟨Nat.le_refl _, Nat.le_refl _⟩ dX14_owes_8 fun H1 locs1 hz hP hS => ?_
  refine lv_if_eq (tgt := 26) hx hb dX14_owes_11 rfl (fun hc11 => ?_) (fun hc11 => ?_)
  · have h := itt_e h hc11
    refine lv_aload_n hx hb dX14_owes_26 rfl (lv_at hl 0 rfl) ?_
    refine lv_iconst (v := 1) hx hb dX14_owes_27 rfl ?_
    obtain ⟨q28, e28, h⟩ := obn_e h
    refine z_Vi (k := 149) (r1 := q28.1) (v1 := q28.2) hx hb hml hts hown hK hP hS hz hE (c_Model_no hk e28) kX14_no mX14_403 hk.1 rfl rfl rfl hl.1 (Nat.le_of_ble_eq_true rfl) ⟨Nat.le_of_ble_eq_true rfl, Nat.le_of_ble_eq_true rfl⟩ ⟨Nat.le_refl _, Nat.le_refl _⟩ dX14_owes_28 fun H1 locs1 hz hP hS => ?_
    exact w_iret hx hb hret rfl hlk hK hP hS hz hE (q_p2 h) dX14_owes_31
  · have h := itf_e h hc11
    refine lv_aload_n hx hb dX14_owes_14 rfl (lv_at hl 0 rfl) ?_
    refine w_gr (k := 149) (r := 173) hx hb hts hown hK hP fX14_27 hk.1 rfl dX14_owes_15 ?_
    refine lv_iload_n hx hb dX14_owes_18 rfl (lv_at hl 1 rfl) ?_
    refine lv_iload_n hx hb dX14_owes_19 rfl (lv_at hl 2 rfl) ?_
    obtain ⟨q20, e20, h⟩ := obn_e h
    refine z_Vi (k := 173) (r1 := q20) (v1 := v2) hx hb hml hts hown hK hP hS hz hE (c_State_owes hk.2.2.2.1 e20) kX13_owes mX14_317 hk.2.2.2.1.1 rfl rfl rfl hl.1 (Nat.le_of_ble_eq_true rfl) ⟨Nat.le_of_ble_eq_true rfl, Nat.le_of_ble_eq_true rfl⟩ ⟨Nat.le_refl _, Nat.le_refl _⟩ dX14_owes_20 fun H1 locs1 hz hP hS => ?_
    refine lv_goto (tgt := 31) hx hb dX14_owes_23 rfl ?_
    exact w_iret hx hb hret rfl hlk hK hP hS hz hE (q_p2 h) dX14_owes_31
def j_Model_chain_133 (K51 : (Int32 × Va) → Option (Int32 × Va)) (t51 : Int32 × Va) (v133 : Va) : Option (Int32 × Va) := K51 ((t51.1 + 1), v133)
def j_Model_chain_127 (K80 : (Int32 × Va) → Option (Int32 × Va)) (t80 : Int32 × Va) (v127 : Va) : Option (Int32 × Va) := K80 ((t80.1 + 1), v127)
def b_Model_chain_80 (sp : Nat) (t37 : Int32 × Va) (K51 : (Int32 × Va) → Option (Int32 × Va)) (t51 : Int32 × Va) (K80 : (Int32 × Va) → Option (Int32 × Va)) (t80 : Int32 × Va) : Option (Int32 × Va) := if (t80.2 sp 11) ≤ t80.1 then (j_Model_chain_133 K51 t51 t80.2) else (if t80.1 < 0 ∨ 6 ≤ t80.1.toNatClampNeg then none else if (t80.2 193 t80.1.toNatClampNeg) = (-1) then ((f_State_owes t80.2 173 t51.1 t80.1).bind fun q111 => if q111 ≤ 0 then (j_Model_chain_127 K80 t80 t80.2) else (if t80.1 < 0 ∨ 6 ≤ t80.1.toNatClampNeg then none else bnd (pu t80.2 193 t80.1.toNatClampNeg (t37.1 + 1)) fun v126 => j_Model_chain_127 K80 t80 v126)) else (j_Model_chain_127 K80 t80 t80.2))
def b_Model_chain_51 (z : Nat) (sp : Nat) (K37 : (Int32 × Va) → Option (Int32 × Va)) (t37 : Int32 × Va) (K51 : (Int32 × Va) → Option (Int32 × Va)) (t51 : Int32 × Va) : Option (Int32 × Va) := if (t51.2 sp 11) ≤ t51.1 then (K37 ((t37.1 + 1), t51.2)) else (if t51.1 < 0 ∨ 6 ≤ t51.1.toNatClampNeg then none else if (t51.2 193 t51.1.toNatClampNeg) = t37.1 then (rp (b_Model_chain_80 sp t37 K51 t51) z (0, t51.2)) else (j_Model_chain_133 K51 t51 t51.2))
def b_Model_chain_37 (z : Nat) (sp : Nat) (a2 : Int32) (K37 : (Int32 × Va) → Option (Int32 × Va)) (t37 : Int32 × Va) : Option (Int32 × Va) := if (t37.2 sp 11) ≤ t37.1 then (if a2 < 0 ∨ 6 ≤ a2.toNatClampNeg then none else some ((t37.2 193 a2.toNatClampNeg), t37.2)) else (rp (b_Model_chain_51 z sp K37 t37) z (0, t37.2))
def f_Model_chain (z : Nat) (v : Va) (sp : Nat) (a1 : Int32) (a2 : Int32) : Option (Int32 × Va) := bnd (pu v 149 0 0) fun v2 => (f_Model_areMerchants v2 sp a1 a2).bind fun q8 => if (q_b q8) = 0 then ((f_Model_no v2 sp 1).bind fun q16 => some (q16.1, q16.2)) else ((f_Model_fill z v2 193 6 (-1)).bind fun q25 => if a1 < 0 ∨ 6 ≤ a1.toNatClampNeg then none else bnd (pu q25 193 a1.toNatClampNeg 0) fun v34 => rp (b_Model_chain_37 z sp a2) z (0, v34))
theorem c_Model_chain {sp : Nat} {a1 : Int32} {a2 : Int32} (hk : isModel sh sp) {q : Int32 × Va} (h : f_Model_chain z v sp a1 a2 = some q) : MetI l yX14_chain cX14_chain 6 (some .int) 3 Γ sh v w n [.ref (Γ.2.1 + 149), .int a1, .int a2] (fun x u => x = q.1 ∧ u = q.2) := by
  unfold f_Model_chain at h
  refine w_start pn_X14 (Nat.le_of_ble_eq_true rfl) fun p e s m args below meth c hx hb hml hret hlk hnm hts hown hK hP hz hE hS ls hl => ?_
  refine lv_aload_n hx hb dX14_chain_0 rfl (lv_at hl 0 rfl) ?_
  refine lv_iconst (v := 0) hx hb dX14_chain_1 rfl ?_
  obtain ⟨v2, e2, h⟩ := bnd_e h
  refine w_pi2 (k := 149) hx hb hts hown hK hP hS hz fX14_40 hk.1 rfl e2 dX14_chain_2 fun H1 locs1 hz hP hS => ?_
  refine lv_aload_n hx hb dX14_chain_5 rfl (lv_at hl 0 rfl) ?_
  refine lv_iload_n hx hb dX14_chain_6 rfl (lv_at hl 1 rfl) ?_
  refine lv_iload_n hx hb dX14_chain_7 rfl (lv_at hl 2 rfl) ?_
  obtain ⟨q8, e8, h⟩ := obn_e h
  refine z_Vi (k := 149) (r1 := (q_b q8)) (v1 := v2) hx hb hml hts hown hK hP hS hz hE (c_Model_areMerchants hk e8) kX14_areMerchants mX14_445 hk.1 rfl rfl rfl hl.1 (Nat.le_of_ble_eq_true rfl) ⟨Nat.le_of_ble_eq_true rfl, Nat.le_of_ble_eq_true rfl⟩ ⟨Nat.le_refl _, Nat.le_refl _⟩ dX14_chain_8 fun H1 locs1 hz hP hS => ?_
  refine lv_if_ne (tgt := 20) hx hb dX14_chain_11 rfl (fun hc11 => ?_) (fun hc11 => ?_)
  · have h := itf_e h hc11
    refine lv_aload_n hx hb dX14_chain_20 rfl (lv_at hl 0 rfl) ?_
    refine w_gr (k := 149) (r := 193) hx hb hts hown hK hP fX14_34 hk.1 rfl dX14_chain_21 ?_
    refine lv_iconst (v := (-1)) hx hb dX14_chain_24 rfl ?_
    obtain ⟨q25, e25, h⟩ := obn_e h
    refine z_Sv (v1 := q25) hx hb hml hts hown hK hP hS hz hE (c_Model_fill hk.2.2.2.2.2 e25) kX14_fill mX14_416 rfl rfl hl.1 (Nat.le_of_ble_eq_true rfl) ⟨Nat.le_of_ble_eq_true rfl, Nat.le_of_ble_eq_true rfl⟩ ⟨Nat.le_refl _, Nat.le_refl _⟩ dX14_chain_25 fun H1 locs1 hz hP hS => ?_
    refine lv_aload_n hx hb dX14_chain_28 rfl (lv_at hl 0 rfl) ?_
    refine w_gr (k := 149) (r := 193) hx hb hts hown hK hP fX14_34 hk.1 rfl dX14_chain_29 ?_
    refine lv_iload_n hx hb dX14_chain_32 rfl (lv_at hl 1 rfl) ?_
    refine lv_iconst (v := 0) hx hb dX14_chain_33 rfl ?_
    obtain ⟨hn34, h⟩ := itn_e h
    obtain ⟨v34, e34, h⟩ := bnd_e h
    refine w_ia2 (k := 193) hx hb hK hP hS hz hk.2.2.2.2.2 hn34 e34 dX14_chain_34 fun H1 locs1 hz hP hS => ?_
    refine lv_iconst (v := 0) hx hb dX14_chain_35 rfl ?_
    refine lv_istore_n (lv' := [(3, .int 0), (0, .ref (Γ.2.1 + 149)), (1, .int a1), (2, .int a2)]) hx hb dX14_chain_36 rfl hl (by decide) rfl fun ls hl => ?_
    have L37 : ∀ (fu : Nat) (t37 : Int32 × Va), rp (b_Model_chain_37 z sp a2) fu t37 = some q → ∀ (H1 : Heap) (locs1 : List Loc) (ls1 : Array Slot), lv_has ls1 6 [(0, .ref (Γ.2.1 + 149)), (2, .int a2), (3, .int t37.1)] → Wd Γ sh t37.2 w H1 → va_S (gA Γ) s.heap H1 locs1 → H1.size = Γ.2.1 + n → wpI Γ sh w n 3 (fun x u => x = q.1 ∧ u = q.2) p l e s m args below meth c H1 locs1 (F0 m 37 ls1 []) := by
      refine q_loop (fun K37 ih37 t37 h H1 locs1 ls hl hP hS hz => ?_)
      unfold b_Model_chain_37 at h
      refine lv_iload_n hx hb dX14_chain_37 rfl (lv_at hl 2 rfl) ?_
      refine lv_aload_n hx hb dX14_chain_38 rfl (lv_at hl 0 rfl) ?_
      refine w_gr (k := 149) (r := sp) hx hb hts hown hK hP fX14_20 hk.1 rfl dX14_chain_39 ?_
      refine w_gi (k := sp) hx hb hts hown hK hP fX14_43 hk.2.2.1.1 rfl dX14_chain_42 ?_
      refine lv_icmp_ge (tgt := 145) hx hb dX14_chain_45 rfl (fun hc45 => ?_) (fun hc45 => ?_)
      · have h := itt_e h hc45
        refine lv_aload_n hx hb dX14_chain_145 rfl (lv_at hl 0 rfl) ?_
        refine w_gr (k := 149) (r := 193) hx hb hts hown hK hP fX14_34 hk.1 rfl dX14_chain_146 ?_
        refine lv_iload_n hx hb dX14_chain_149 rfl (lv_at hl 1 rfl) ?_
        obtain ⟨hn150, h⟩ := itn_e h
        refine w_iald (k := 193) hx hb hK hP hk.2.2.2.2.2 hn150 dX14_chain_150 ?_
        exact w_iret hx hb hret rfl hlk hK hP hS hz hE (q_p2 h) dX14_chain_151
      · have h := itf_e h hc45
        refine lv_iconst (v := 0) hx hb dX14_chain_48 rfl ?_
        refine lv_istore (lv' := [(4, .int 0), (0, .ref (Γ.2.1 + 149)), (2, .int a2), (3, .int t37.1)]) hx hb dX14_chain_49 hl (by decide) rfl fun ls hl => ?_
        have L51 : ∀ (fu : Nat) (t51 : Int32 × Va), rp (b_Model_chain_51 z sp K37 t37) fu t51 = some q → ∀ (H1 : Heap) (locs1 : List Loc) (ls1 : Array Slot), lv_has ls1 6 [(0, .ref (Γ.2.1 + 149)), (2, .int a2), (3, .int t37.1), (4, .int t51.1)] → Wd Γ sh t51.2 w H1 → va_S (gA Γ) s.heap H1 locs1 → H1.size = Γ.2.1 + n → wpI Γ sh w n 3 (fun x u => x = q.1 ∧ u = q.2) p l e s m args below meth c H1 locs1 (F0 m 51 ls1 []) := by
          refine q_loop (fun K51 ih51 t51 h H1 locs1 ls hl hP hS hz => ?_)
          unfold b_Model_chain_51 at h
          refine lv_iload hx hb dX14_chain_51 (lv_at hl 3 rfl) ?_
          refine lv_aload_n hx hb dX14_chain_53 rfl (lv_at hl 0 rfl) ?_
          refine w_gr (k := 149) (r := sp) hx hb hts hown hK hP fX14_20 hk.1 rfl dX14_chain_54 ?_
          refine w_gi (k := sp) hx hb hts hown hK hP fX14_43 hk.2.2.1.1 rfl dX14_chain_57 ?_
          refine lv_icmp_ge (tgt := 139) hx hb dX14_chain_60 rfl (fun hc60 => ?_) (fun hc60 => ?_)
          · have h := itt_e h hc60
            refine lv_iinc (k := 2) (v := (t37.1 + 1)) (lv' := [(3, .int (t37.1 + 1)), (0, .ref (Γ.2.1 + 149)), (2, .int a2), (4, .int t51.1)]) hx hb dX14_chain_139 hl rfl rfl (by decide) rfl fun ls hl => ?_
            refine lv_goto (tgt := 37) hx hb dX14_chain_142 rfl ?_
            exact ih37 ((t37.1 + 1), t51.2) h _ _ _ (lv_sub hl [1, 2, 0] rfl) hP hS hz
          · have h := itf_e h hc60
            refine lv_aload_n hx hb dX14_chain_63 rfl (lv_at hl 0 rfl) ?_
            refine w_gr (k := 149) (r := 193) hx hb hts hown hK hP fX14_34 hk.1 rfl dX14_chain_64 ?_
            refine lv_iload hx hb dX14_chain_67 (lv_at hl 3 rfl) ?_
            obtain ⟨hn69, h⟩ := itn_e h
            refine w_iald (k := 193) hx hb hK hP hk.2.2.2.2.2 hn69 dX14_chain_69 ?_
            refine lv_iload_n hx hb dX14_chain_70 rfl (lv_at hl 2 rfl) ?_
            have J133 : ∀ (v133 : Va), (j_Model_chain_133 K51 t51) v133 = some q → ∀ (H1 : Heap) (locs1 : List Loc) (ls1 : Array Slot), lv_has ls1 6 [(0, .ref (Γ.2.1 + 149)), (2, .int a2), (3, .int t37.1), (4, .int t51.1)] → Wd Γ sh v133 w H1 → va_S (gA Γ) s.heap H1 locs1 → H1.size = Γ.2.1 + n → wpI Γ sh w n 3 (fun x u => x = q.1 ∧ u = q.2) p l e s m args below meth c H1 locs1 (F0 m 133 ls1 []) := by
              intro v133 h H1 locs1 ls hl hP hS hz
              unfold j_Model_chain_133 at h
              refine lv_iinc (k := 3) (v := (t51.1 + 1)) (lv' := [(4, .int (t51.1 + 1)), (0, .ref (Γ.2.1 + 149)), (2, .int a2), (3, .int t37.1)]) hx hb dX14_chain_133 hl rfl rfl (by decide) rfl fun ls hl => ?_
              refine lv_goto (tgt := 51) hx hb dX14_chain_136 rfl ?_
              exact ih51 ((t51.1 + 1), v133) h _ _ _ (lv_sub hl [1, 2, 3, 0] rfl) hP hS hz
            refine lv_icmp_eq (tgt := 77) hx hb dX14_chain_71 rfl (fun hc71 => ?_) (fun hc71 => ?_)
            · have h := itt_e h hc71
              refine lv_iconst (v := 0) hx hb dX14_chain_77 rfl ?_
              refine lv_istore (lv' := [(5, .int 0), (0, .ref (Γ.2.1 + 149)), (2, .int a2), (3, .int t37.1), (4, .int t51.1)]) hx hb dX14_chain_78 hl (by decide) rfl fun ls hl => ?_
              have L80 : ∀ (fu : Nat) (t80 : Int32 × Va), rp (b_Model_chain_80 sp t37 K51 t51) fu t80 = some q → ∀ (H1 : Heap) (locs1 : List Loc) (ls1 : Array Slot), lv_has ls1 6 [(0, .ref (Γ.2.1 + 149)), (2, .int a2), (3, .int t37.1), (4, .int t51.1), (5, .int t80.1)] → Wd Γ sh t80.2 w H1 → va_S (gA Γ) s.heap H1 locs1 → H1.size = Γ.2.1 + n → wpI Γ sh w n 3 (fun x u => x = q.1 ∧ u = q.2) p l e s m args below meth c H1 locs1 (F0 m 80 ls1 []) := by
                refine q_loop (fun K80 ih80 t80 h H1 locs1 ls hl hP hS hz => ?_)
                unfold b_Model_chain_80 at h
                refine lv_iload hx hb dX14_chain_80 (lv_at hl 4 rfl) ?_
                refine lv_aload_n hx hb dX14_chain_82 rfl (lv_at hl 0 rfl) ?_
                refine w_gr (k := 149) (r := sp) hx hb hts hown hK hP fX14_20 hk.1 rfl dX14_chain_83 ?_
                refine w_gi (k := sp) hx hb hts hown hK hP fX14_43 hk.2.2.1.1 rfl dX14_chain_86 ?_
                refine lv_icmp_ge (tgt := 133) hx hb dX14_chain_89 rfl (fun hc89 => ?_) (fun hc89 => ?_)
                · have h := itt_e h hc89
                  exact J133 t80.2 h _ _ _ (lv_sub hl [0, 1, 2, 3] rfl) hP hS hz
                · have h := itf_e h hc89
                  refine lv_aload_n hx hb dX14_chain_92 rfl (lv_at hl 0 rfl) ?_
                  refine w_gr (k := 149) (r := 193) hx hb hts hown hK hP fX14_34 hk.1 rfl dX14_chain_93 ?_
                  refine lv_iload hx hb dX14_chain_96 (lv_at hl 4 rfl) ?_
                  obtain ⟨hn98, h⟩ := itn_e h
                  refine w_iald (k := 193) hx hb hK hP hk.2.2.2.2.2 hn98 dX14_chain_98 ?_
                  refine lv_iconst (v := (-1)) hx hb dX14_chain_99 rfl ?_
                  have J127 : ∀ (v127 : Va), (j_Model_chain_127 K80 t80) v127 = some q → ∀ (H1 : Heap) (locs1 : List Loc) (ls1 : Array Slot), lv_has ls1 6 [(0, .ref (Γ.2.1 + 149)), (2, .int a2), (3, .int t37.1), (4, .int t51.1), (5, .int t80.1)] → Wd Γ sh v127 w H1 → va_S (gA Γ) s.heap H1 locs1 → H1.size = Γ.2.1 + n → wpI Γ sh w n 3 (fun x u => x = q.1 ∧ u = q.2) p l e s m args below meth c H1 locs1 (F0 m 127 ls1 []) := by
                    intro v127 h H1 locs1 ls hl hP hS hz
                    unfold j_Model_chain_127 at h
                    refine lv_iinc (k := 4) (v := (t80.1 + 1)) (lv' := [(5, .int (t80.1 + 1)), (0, .ref (Γ.2.1 + 149)), (2, .int a2), (3, .int t37.1), (4, .int t51.1)]) hx hb dX14_chain_127 hl rfl rfl (by decide) rfl fun ls hl => ?_
                    refine lv_goto (tgt := 80) hx hb dX14_chain_130 rfl ?_
                    exact ih80 ((t80.1 + 1), v127) h _ _ _ (lv_sub hl [1, 2, 3, 4, 0] rfl) hP hS hz
                  refine lv_icmp_ne (tgt := 127) hx hb dX14_chain_100 rfl (fun hc100 => ?_) (fun hc100 => ?_)
                  · have h := itf_e h hc100
                    exact J127 t80.2 h _ _ _ (lv_sub hl [0, 1, 2, 3, 4] rfl) hP hS hz
                  · have h := itt_e h hc100
                    refine lv_aload_n hx hb dX14_chain_103 rfl (lv_at hl 0 rfl) ?_
                    refine w_gr (k := 149) (r := 173) hx hb hts hown hK hP fX14_27 hk.1 rfl dX14_chain_104 ?_
                    refine lv_iload hx hb dX14_chain_107 (lv_at hl 3 rfl) ?_
                    refine lv_iload hx hb dX14_chain_109 (lv_at hl 4 rfl) ?_
                    obtain ⟨q111, e111, h⟩ := obn_e h
                    refine z_Vi (k := 173) (r1 := q111) (v1 := t80.2) hx hb hml hts hown hK hP hS hz hE (c_State_owes hk.2.2.2.1 e111) kX13_owes mX14_317 hk.2.2.2.1.1 rfl rfl rfl hl.1 (Nat.le_of_ble_eq_true rfl) ⟨Nat.le_of_ble_eq_true rfl, Nat.le_of_ble_eq_true rfl⟩ ⟨Nat.le_refl _, Nat.le_refl _⟩ dX14_chain_111 fun H1 locs1 hz hP hS => ?_
                    refine lv_if_le (tgt := 127) hx hb dX14_chain_114 rfl (fun hc114 => ?_) (fun hc114 => ?_)
                    · have h := itt_e h hc114
                      exact J127 t80.2 h _ _ _ (lv_sub hl [0, 1, 2, 3, 4] rfl) hP hS hz
                    · have h := itf_e h hc114
                      refine lv_aload_n hx hb dX14_chain_117 rfl (lv_at hl 0 rfl) ?_
                      refine w_gr (k := 149) (r := 193) hx hb hts hown hK hP fX14_34 hk.1 rfl dX14_chain_118 ?_
                      refine lv_iload hx hb dX14_chain_121 (lv_at hl 4 rfl) ?_
                      refine lv_iload_n hx hb dX14_chain_123 rfl (lv_at hl 2 rfl) ?_
                      refine lv_iconst (v := 1) hx hb dX14_chain_124 rfl ?_
                      refine lv_iadd hx hb dX14_chain_125 ?_
                      obtain ⟨hn126, h⟩ := itn_e h
                      obtain ⟨v126, e126, h⟩ := bnd_e h
                      refine w_ia2 (k := 193) hx hb hK hP hS hz hk.2.2.2.2.2 hn126 e126 dX14_chain_126 fun H1 locs1 hz hP hS => ?_
                      exact J127 v126 h _ _ _ (lv_sub hl [0, 1, 2, 3, 4] rfl) hP hS hz
              exact L80 z (0, t51.2) h _ _ _ (lv_sub hl [1, 2, 3, 4, 0] rfl) hP hS hz
            · have h := itf_e h hc71
              refine lv_goto (tgt := 133) hx hb dX14_chain_74 rfl ?_
              exact J133 t51.2 h _ _ _ (lv_sub hl [0, 1, 2, 3] rfl) hP hS hz
        exact L51 z (0, t37.2) h _ _ _ (lv_sub hl [1, 2, 3, 0] rfl) hP hS hz
    exact L37 z (0, v34) h _ _ _ (lv_sub hl [1, 3, 0] rfl) hP hS hz
  · have h := itt_e h hc11
    refine lv_aload_n hx hb dX14_chain_14 rfl (lv_at hl 0 rfl) ?_
    refine lv_iconst (v := 1) hx hb dX14_chain_15 rfl ?_
    obtain ⟨q16, e16, h⟩ := obn_e h
    refine z_Vi (k := 149) (r1 := q16.1) (v1 := q16.2) hx hb hml hts hown hK hP hS hz hE (c_Model_no hk e16) kX14_no mX14_403 hk.1 rfl rfl rfl hl.1 (Nat.le_of_ble_eq_true rfl) ⟨Nat.le_of_ble_eq_true rfl, Nat.le_of_ble_eq_true rfl⟩ ⟨Nat.le_refl _, Nat.le_refl _⟩ dX14_chain_16 fun H1 locs1 hz hP hS => ?_
    exact w_iret hx hb hret rfl hlk hK hP hS hz hE (q_p2 h) dX14_chain_19
def j_Model_ring_174 (K135 : (Int32 × Int32) → Option (Int32 × Va)) (t135 : Int32 × Int32) (x174_2 : Int32) : Option (Int32 × Va) := K135 (x174_2, (t135.2 + 1))
def b_Model_ring_135 (sp : Nat) (a1 : Int32) (t38 : Int32 × Va) (K135 : (Int32 × Int32) → Option (Int32 × Va)) (t135 : Int32 × Int32) : Option (Int32 × Va) := if (t38.2 sp 11) ≤ t135.2 then (some (t135.1, t38.2)) else (if t135.2 = a1 then (j_Model_ring_174 K135 t135 t135.1) else (if t135.2 < 0 ∨ 6 ≤ t135.2.toNatClampNeg then none else (f_State_owes t38.2 173 t135.2 a1).bind fun q164 => j_Model_ring_174 K135 t135 (q_max t135.1 (q_min (t38.2 193 t135.2.toNatClampNeg) q164))))
def b_Model_ring_65 (sp : Nat) (K51 : (Int32 × Va) → Option (Int32 × Va)) (t51 : Int32 × Va) (K65 : (Int32 × Va) → Option (Int32 × Va)) (t65 : Int32 × Va) : Option (Int32 × Va) := if (t65.2 sp 11) ≤ t65.1 then (K51 ((t51.1 + 1), t65.2)) else (if t65.1 < 0 ∨ 6 ≤ t65.1.toNatClampNeg then none else if t51.1 < 0 ∨ 6 ≤ t51.1.toNatClampNeg then none else (f_State_owes t65.2 173 t51.1 t65.1).bind fun q103 => if t65.1 < 0 ∨ 6 ≤ t65.1.toNatClampNeg then none else bnd (pu t65.2 193 t65.1.toNatClampNeg (q_max (t65.2 193 t65.1.toNatClampNeg) (q_min (t65.2 193 t51.1.toNatClampNeg) q103))) fun v112 => K65 ((t65.1 + 1), v112))
def b_Model_ring_51 (z : Nat) (sp : Nat) (K38 : (Int32 × Va) → Option (Int32 × Va)) (t38 : Int32 × Va) (K51 : (Int32 × Va) → Option (Int32 × Va)) (t51 : Int32 × Va) : Option (Int32 × Va) := if (t51.2 sp 11) ≤ t51.1 then (K38 ((t38.1 + 1), t51.2)) else (rp (b_Model_ring_65 sp K51 t51) z (0, t51.2))
def b_Model_ring_38 (z : Nat) (sp : Nat) (a1 : Int32) (K38 : (Int32 × Va) → Option (Int32 × Va)) (t38 : Int32 × Va) : Option (Int32 × Va) := if (t38.2 sp 11) ≤ t38.1 then (rp (b_Model_ring_135 sp a1 t38) z (0, 0)) else (rp (b_Model_ring_51 z sp K38 t38) z (0, t38.2))
def f_Model_ring (z : Nat) (v : Va) (sp : Nat) (a1 : Int32) : Option (Int32 × Va) := bnd (pu v 149 0 0) fun v2 => (f_Model_isMerchant v2 sp a1).bind fun q7 => if (q_b q7) = 0 then ((f_Model_no v2 sp 1).bind fun q15 => some (q15.1, q15.2)) else ((f_Model_fill z v2 193 6 0).bind fun q24 => if a1 < 0 ∨ 6 ≤ a1.toNatClampNeg then none else bnd (pu q24 193 a1.toNatClampNeg 2147483647) fun v35 => rp (b_Model_ring_38 z sp a1) z (0, v35))
theorem c_Model_ring {sp : Nat} {a1 : Int32} (hk : isModel sh sp) {q : Int32 × Va} (h : f_Model_ring z v sp a1 = some q) : MetI l yX14_ring cX14_ring 5 (some .int) 2 Γ sh v w n [.ref (Γ.2.1 + 149), .int a1] (fun x u => x = q.1 ∧ u = q.2) := by
  unfold f_Model_ring at h
  refine w_start pn_X14 (Nat.le_of_ble_eq_true rfl) fun p e s m args below meth c hx hb hml hret hlk hnm hts hown hK hP hz hE hS ls hl => ?_
  refine lv_aload_n hx hb dX14_ring_0 rfl (lv_at hl 0 rfl) ?_
  refine lv_iconst (v := 0) hx hb dX14_ring_1 rfl ?_
  obtain ⟨v2, e2, h⟩ := bnd_e h
  refine w_pi2 (k := 149) hx hb hts hown hK hP hS hz fX14_40 hk.1 rfl e2 dX14_ring_2 fun H1 locs1 hz hP hS => ?_
  refine lv_aload_n hx hb dX14_ring_5 rfl (lv_at hl 0 rfl) ?_
  refine lv_iload_n hx hb dX14_ring_6 rfl (lv_at hl 1 rfl) ?_
  obtain ⟨q7, e7, h⟩ := obn_e h
  refine z_Vi (k := 149) (r1 := (q_b q7)) (v1 := v2) hx hb hml hts hown hK hP hS hz hE (c_Model_isMerchant hk e7) kX14_isMerchant mX14_50 hk.1 rfl rfl rfl hl.1 (Nat.le_of_ble_eq_true rfl) ⟨Nat.le_of_ble_eq_true rfl, Nat.le_of_ble_eq_true rfl⟩ ⟨Nat.le_refl _, Nat.le_refl _⟩ dX14_ring_7 fun H1 locs1 hz hP hS => ?_
  refine lv_if_ne (tgt := 19) hx hb dX14_ring_10 rfl (fun hc10 => ?_) (fun hc10 => ?_)
  · have h := itf_e h hc10
    refine lv_aload_n hx hb dX14_ring_19 rfl (lv_at hl 0 rfl) ?_
    refine w_gr (k := 149) (r := 193) hx hb hts hown hK hP fX14_34 hk.1 rfl dX14_ring_20 ?_
    refine lv_iconst (v := 0) hx hb dX14_ring_23 rfl ?_
    obtain ⟨q24, e24, h⟩ := obn_e h
    refine z_Sv (v1 := q24) hx hb hml hts hown hK hP hS hz hE (c_Model_fill hk.2.2.2.2.2 e24) kX14_fill mX14_416 rfl rfl hl.1 (Nat.le_of_ble_eq_true rfl) ⟨Nat.le_of_ble_eq_true rfl, Nat.le_of_ble_eq_true rfl⟩ ⟨Nat.le_refl _, Nat.le_refl _⟩ dX14_ring_24 fun H1 locs1 hz hP hS => ?_
    refine lv_aload_n hx hb dX14_ring_27 rfl (lv_at hl 0 rfl) ?_
    refine w_gr (k := 149) (r := 193) hx hb hts hown hK hP fX14_34 hk.1 rfl dX14_ring_28 ?_
    refine lv_iload_n hx hb dX14_ring_31 rfl (lv_at hl 1 rfl) ?_
    refine lv_ldcw hx hb hown (hts _ qX14_451) dX14_ring_32 ?_
    obtain ⟨hn35, h⟩ := itn_e h
    obtain ⟨v35, e35, h⟩ := bnd_e h
    refine w_ia2 (k := 193) hx hb hK hP hS hz hk.2.2.2.2.2 hn35 e35 dX14_ring_35 fun H1 locs1 hz hP hS => ?_
    refine lv_iconst (v := 0) hx hb dX14_ring_36 rfl ?_
    refine lv_istore_n (lv' := [(2, .int 0), (0, .ref (Γ.2.1 + 149)), (1, .int a1)]) hx hb dX14_ring_37 rfl hl (by decide) rfl fun ls hl => ?_
    have L38 : ∀ (fu : Nat) (t38 : Int32 × Va), rp (b_Model_ring_38 z sp a1) fu t38 = some q → ∀ (H1 : Heap) (locs1 : List Loc) (ls1 : Array Slot), lv_has ls1 5 [(0, .ref (Γ.2.1 + 149)), (1, .int a1), (2, .int t38.1)] → Wd Γ sh t38.2 w H1 → va_S (gA Γ) s.heap H1 locs1 → H1.size = Γ.2.1 + n → wpI Γ sh w n 2 (fun x u => x = q.1 ∧ u = q.2) p l e s m args below meth c H1 locs1 (F0 m 38 ls1 []) := by
      refine q_loop (fun K38 ih38 t38 h H1 locs1 ls hl hP hS hz => ?_)
      unfold b_Model_ring_38 at h
      refine lv_iload_n hx hb dX14_ring_38 rfl (lv_at hl 2 rfl) ?_
      refine lv_aload_n hx hb dX14_ring_39 rfl (lv_at hl 0 rfl) ?_
      refine w_gr (k := 149) (r := sp) hx hb hts hown hK hP fX14_20 hk.1 rfl dX14_ring_40 ?_
      refine w_gi (k := sp) hx hb hts hown hK hP fX14_43 hk.2.2.1.1 rfl dX14_ring_43 ?_
      refine lv_icmp_ge (tgt := 131) hx hb dX14_ring_46 rfl (fun hc46 => ?_) (fun hc46 => ?_)
      · have h := itt_e h hc46
        refine lv_iconst (v := 0) hx hb dX14_ring_131 rfl ?_
        refine lv_istore_n (lv' := [(2, .int 0), (0, .ref (Γ.2.1 + 149)), (1, .int a1)]) hx hb dX14_ring_132 rfl hl (by decide) rfl fun ls hl => ?_
        refine lv_iconst (v := 0) hx hb dX14_ring_133 rfl ?_
        refine lv_istore_n (lv' := [(3, .int 0), (2, .int 0), (0, .ref (Γ.2.1 + 149)), (1, .int a1)]) hx hb dX14_ring_134 rfl hl (by decide) rfl fun ls hl => ?_
        have L135 : ∀ (fu : Nat) (t135 : Int32 × Int32), rp (b_Model_ring_135 sp a1 t38) fu t135 = some q → ∀ (H1 : Heap) (locs1 : List Loc) (ls1 : Array Slot), lv_has ls1 5 [(0, .ref (Γ.2.1 + 149)), (1, .int a1), (2, .int t135.1), (3, .int t135.2)] → Wd Γ sh t38.2 w H1 → va_S (gA Γ) s.heap H1 locs1 → H1.size = Γ.2.1 + n → wpI Γ sh w n 2 (fun x u => x = q.1 ∧ u = q.2) p l e s m args below meth c H1 locs1 (F0 m 135 ls1 []) := by
          refine q_loop (fun K135 ih135 t135 h H1 locs1 ls hl hP hS hz => ?_)
          unfold b_Model_ring_135 at h
          refine lv_iload_n hx hb dX14_ring_135 rfl (lv_at hl 3 rfl) ?_
          refine lv_aload_n hx hb dX14_ring_136 rfl (lv_at hl 0 rfl) ?_
          refine w_gr (k := 149) (r := sp) hx hb hts hown hK hP fX14_20 hk.1 rfl dX14_ring_137 ?_
          refine w_gi (k := sp) hx hb hts hown hK hP fX14_43 hk.2.2.1.1 rfl dX14_ring_140 ?_
          refine lv_icmp_ge (tgt := 180) hx hb dX14_ring_143 rfl (fun hc143 => ?_) (fun hc143 => ?_)
          · have h := itt_e h hc143
            refine lv_iload_n hx hb dX14_ring_180 rfl (lv_at hl 2 rfl) ?_
            exact w_iret hx hb hret rfl hlk hK hP hS hz hE (q_p2 h) dX14_ring_181
          · have h := itf_e h hc143
            refine lv_iload_n hx hb dX14_ring_146 rfl (lv_at hl 3 rfl) ?_
            refine lv_iload_n hx hb dX14_ring_147 rfl (lv_at hl 1 rfl) ?_
            have J174 : ∀ (x174_2 : Int32), (j_Model_ring_174 K135 t135) x174_2 = some q → ∀ (H1 : Heap) (locs1 : List Loc) (ls1 : Array Slot), lv_has ls1 5 [(0, .ref (Γ.2.1 + 149)), (1, .int a1), (2, .int x174_2), (3, .int t135.2)] → Wd Γ sh t38.2 w H1 → va_S (gA Γ) s.heap H1 locs1 → H1.size = Γ.2.1 + n → wpI Γ sh w n 2 (fun x u => x = q.1 ∧ u = q.2) p l e s m args below meth c H1 locs1 (F0 m 174 ls1 []) := by
              intro x174_2 h H1 locs1 ls hl hP hS hz
              unfold j_Model_ring_174 at h
              refine lv_iinc (k := 3) (v := (t135.2 + 1)) (lv' := [(3, .int (t135.2 + 1)), (0, .ref (Γ.2.1 + 149)), (1, .int a1), (2, .int x174_2)]) hx hb dX14_ring_174 hl rfl rfl (by decide) rfl fun ls hl => ?_
              refine lv_goto (tgt := 135) hx hb dX14_ring_177 rfl ?_
              exact ih135 (x174_2, (t135.2 + 1)) h _ _ _ (lv_sub hl [1, 2, 3, 0] rfl) hP hS hz
            refine lv_icmp_eq (tgt := 174) hx hb dX14_ring_148 rfl (fun hc148 => ?_) (fun hc148 => ?_)
            · have h := itt_e h hc148
              exact J174 t135.1 h _ _ _ (lv_sub hl [0, 1, 2, 3] rfl) hP hS hz
            · have h := itf_e h hc148
              refine lv_iload_n hx hb dX14_ring_151 rfl (lv_at hl 2 rfl) ?_
              refine lv_aload_n hx hb dX14_ring_152 rfl (lv_at hl 0 rfl) ?_
              refine w_gr (k := 149) (r := 193) hx hb hts hown hK hP fX14_34 hk.1 rfl dX14_ring_153 ?_
              refine lv_iload_n hx hb dX14_ring_156 rfl (lv_at hl 3 rfl) ?_
              obtain ⟨hn157, h⟩ := itn_e h
              refine w_iald (k := 193) hx hb hK hP hk.2.2.2.2.2 hn157 dX14_ring_157 ?_
              refine lv_aload_n hx hb dX14_ring_158 rfl (lv_at hl 0 rfl) ?_
              refine w_gr (k := 149) (r := 173) hx hb hts hown hK hP fX14_27 hk.1 rfl dX14_ring_159 ?_
              refine lv_iload_n hx hb dX14_ring_162 rfl (lv_at hl 3 rfl) ?_
              refine lv_iload_n hx hb dX14_ring_163 rfl (lv_at hl 1 rfl) ?_
              obtain ⟨q164, e164, h⟩ := obn_e h
              refine z_Vi (k := 173) (r1 := q164) (v1 := t38.2) hx hb hml hts hown hK hP hS hz hE (c_State_owes hk.2.2.2.1 e164) kX13_owes mX14_317 hk.2.2.2.1.1 rfl rfl rfl hl.1 (Nat.le_of_ble_eq_true rfl) ⟨Nat.le_of_ble_eq_true rfl, Nat.le_of_ble_eq_true rfl⟩ ⟨Nat.le_refl _, Nat.le_refl _⟩ dX14_ring_164 fun H1 locs1 hz hP hS => ?_
              refine z_mmin hx hb hml hl.1 hts hown xX14_320 ⟨Nat.le_of_ble_eq_true rfl, Nat.le_of_ble_eq_true rfl⟩ (Nat.le_of_ble_eq_true rfl) ⟨Nat.le_refl _, Nat.le_refl _⟩ dX14_ring_167 ?_
              refine z_mmax hx hb hml hl.1 hts hown xX14_325 ⟨Nat.le_of_ble_eq_true rfl, Nat.le_of_ble_eq_true rfl⟩ (Nat.le_of_ble_eq_true rfl) ⟨Nat.le_refl _, Nat.le_refl _⟩ dX14_ring_170 ?_
              refine lv_istore_n (lv' := [(2, .int (q_max t135.1 (q_min (t38.2 193 t135.2.toNatClampNeg) q164))), (0, .ref (Γ.2.1 + 149)), (1, .int a1), (3, .int t135.2)]) hx hb dX14_ring_173 rfl hl (by decide) rfl fun ls hl => ?_
              exact J174 (q_max t135.1 (q_min (t38.2 193 t135.2.toNatClampNeg) q164)) h _ _ _ (lv_sub hl [1, 2, 0, 3] rfl) hP hS hz
        exact L135 z (0, 0) h _ _ _ (lv_sub hl [2, 3, 1, 0] rfl) hP hS hz
      · have h := itf_e h hc46
        refine lv_iconst (v := 0) hx hb dX14_ring_49 rfl ?_
        refine lv_istore_n (lv' := [(3, .int 0), (0, .ref (Γ.2.1 + 149)), (1, .int a1), (2, .int t38.1)]) hx hb dX14_ring_50 rfl hl (by decide) rfl fun ls hl => ?_
        have L51 : ∀ (fu : Nat) (t51 : Int32 × Va), rp (b_Model_ring_51 z sp K38 t38) fu t51 = some q → ∀ (H1 : Heap) (locs1 : List Loc) (ls1 : Array Slot), lv_has ls1 5 [(0, .ref (Γ.2.1 + 149)), (1, .int a1), (2, .int t38.1), (3, .int t51.1)] → Wd Γ sh t51.2 w H1 → va_S (gA Γ) s.heap H1 locs1 → H1.size = Γ.2.1 + n → wpI Γ sh w n 2 (fun x u => x = q.1 ∧ u = q.2) p l e s m args below meth c H1 locs1 (F0 m 51 ls1 []) := by
          refine q_loop (fun K51 ih51 t51 h H1 locs1 ls hl hP hS hz => ?_)
          unfold b_Model_ring_51 at h
          refine lv_iload_n hx hb dX14_ring_51 rfl (lv_at hl 3 rfl) ?_
          refine lv_aload_n hx hb dX14_ring_52 rfl (lv_at hl 0 rfl) ?_
          refine w_gr (k := 149) (r := sp) hx hb hts hown hK hP fX14_20 hk.1 rfl dX14_ring_53 ?_
          refine w_gi (k := sp) hx hb hts hown hK hP fX14_43 hk.2.2.1.1 rfl dX14_ring_56 ?_
          refine lv_icmp_ge (tgt := 125) hx hb dX14_ring_59 rfl (fun hc59 => ?_) (fun hc59 => ?_)
          · have h := itt_e h hc59
            refine lv_iinc (k := 2) (v := (t38.1 + 1)) (lv' := [(2, .int (t38.1 + 1)), (0, .ref (Γ.2.1 + 149)), (1, .int a1), (3, .int t51.1)]) hx hb dX14_ring_125 hl rfl rfl (by decide) rfl fun ls hl => ?_
            refine lv_goto (tgt := 38) hx hb dX14_ring_128 rfl ?_
            exact ih38 ((t38.1 + 1), t51.2) h _ _ _ (lv_sub hl [1, 2, 0] rfl) hP hS hz
          · have h := itf_e h hc59
            refine lv_iconst (v := 0) hx hb dX14_ring_62 rfl ?_
            refine lv_istore (lv' := [(4, .int 0), (0, .ref (Γ.2.1 + 149)), (1, .int a1), (2, .int t38.1), (3, .int t51.1)]) hx hb dX14_ring_63 hl (by decide) rfl fun ls hl => ?_
            have L65 : ∀ (fu : Nat) (t65 : Int32 × Va), rp (b_Model_ring_65 sp K51 t51) fu t65 = some q → ∀ (H1 : Heap) (locs1 : List Loc) (ls1 : Array Slot), lv_has ls1 5 [(0, .ref (Γ.2.1 + 149)), (1, .int a1), (2, .int t38.1), (3, .int t51.1), (4, .int t65.1)] → Wd Γ sh t65.2 w H1 → va_S (gA Γ) s.heap H1 locs1 → H1.size = Γ.2.1 + n → wpI Γ sh w n 2 (fun x u => x = q.1 ∧ u = q.2) p l e s m args below meth c H1 locs1 (F0 m 65 ls1 []) := by
              refine q_loop (fun K65 ih65 t65 h H1 locs1 ls hl hP hS hz => ?_)
              unfold b_Model_ring_65 at h
              refine lv_iload hx hb dX14_ring_65 (lv_at hl 4 rfl) ?_
              refine lv_aload_n hx hb dX14_ring_67 rfl (lv_at hl 0 rfl) ?_
              refine w_gr (k := 149) (r := sp) hx hb hts hown hK hP fX14_20 hk.1 rfl dX14_ring_68 ?_
              refine w_gi (k := sp) hx hb hts hown hK hP fX14_43 hk.2.2.1.1 rfl dX14_ring_71 ?_
              refine lv_icmp_ge (tgt := 119) hx hb dX14_ring_74 rfl (fun hc74 => ?_) (fun hc74 => ?_)
              · have h := itt_e h hc74
                refine lv_iinc (k := 3) (v := (t51.1 + 1)) (lv' := [(3, .int (t51.1 + 1)), (0, .ref (Γ.2.1 + 149)), (1, .int a1), (2, .int t38.1), (4, .int t65.1)]) hx hb dX14_ring_119 hl rfl rfl (by decide) rfl fun ls hl => ?_
                refine lv_goto (tgt := 51) hx hb dX14_ring_122 rfl ?_
                exact ih51 ((t51.1 + 1), t65.2) h _ _ _ (lv_sub hl [1, 2, 3, 0] rfl) hP hS hz
              · have h := itf_e h hc74
                refine lv_aload_n hx hb dX14_ring_77 rfl (lv_at hl 0 rfl) ?_
                refine w_gr (k := 149) (r := 193) hx hb hts hown hK hP fX14_34 hk.1 rfl dX14_ring_78 ?_
                refine lv_iload hx hb dX14_ring_81 (lv_at hl 4 rfl) ?_
                refine lv_aload_n hx hb dX14_ring_83 rfl (lv_at hl 0 rfl) ?_
                refine w_gr (k := 149) (r := 193) hx hb hts hown hK hP fX14_34 hk.1 rfl dX14_ring_84 ?_
                refine lv_iload hx hb dX14_ring_87 (lv_at hl 4 rfl) ?_
                obtain ⟨hn89, h⟩ := itn_e h
                refine w_iald (k := 193) hx hb hK hP hk.2.2.2.2.2 hn89 dX14_ring_89 ?_
                refine lv_aload_n hx hb dX14_ring_90 rfl (lv_at hl 0 rfl) ?_
                refine w_gr (k := 149) (r := 193) hx hb hts hown hK hP fX14_34 hk.1 rfl dX14_ring_91 ?_
                refine lv_iload_n hx hb dX14_ring_94 rfl (lv_at hl 3 rfl) ?_
                obtain ⟨hn95, h⟩ := itn_e h
                refine w_iald (k := 193) hx hb hK hP hk.2.2.2.2.2 hn95 dX14_ring_95 ?_
                refine lv_aload_n hx hb dX14_ring_96 rfl (lv_at hl 0 rfl) ?_
                refine w_gr (k := 149) (r := 173) hx hb hts hown hK hP fX14_27 hk.1 rfl dX14_ring_97 ?_
                refine lv_iload_n hx hb dX14_ring_100 rfl (lv_at hl 3 rfl) ?_
                refine lv_iload hx hb dX14_ring_101 (lv_at hl 4 rfl) ?_
                obtain ⟨q103, e103, h⟩ := obn_e h
                refine z_Vi (k := 173) (r1 := q103) (v1 := t65.2) hx hb hml hts hown hK hP hS hz hE (c_State_owes hk.2.2.2.1 e103) kX13_owes mX14_317 hk.2.2.2.1.1 rfl rfl rfl hl.1 (Nat.le_of_ble_eq_true rfl) ⟨Nat.le_of_ble_eq_true rfl, Nat.le_of_ble_eq_true rfl⟩ ⟨Nat.le_refl _, Nat.le_refl _⟩ dX14_ring_103 fun H1 locs1 hz hP hS => ?_
                refine z_mmin hx hb hml hl.1 hts hown xX14_320 ⟨Nat.le_of_ble_eq_true rfl, Nat.le_of_ble_eq_true rfl⟩ (Nat.le_of_ble_eq_true rfl) ⟨Nat.le_refl _, Nat.le_refl _⟩ dX14_ring_106 ?_
                refine z_mmax hx hb hml hl.1 hts hown xX14_325 ⟨Nat.le_of_ble_eq_true rfl, Nat.le_of_ble_eq_true rfl⟩ (Nat.le_of_ble_eq_true rfl) ⟨Nat.le_refl _, Nat.le_refl _⟩ dX14_ring_109 ?_
                obtain ⟨hn112, h⟩ := itn_e h
                obtain ⟨v112, e112, h⟩ := bnd_e h
                refine w_ia2 (k := 193) hx hb hK hP hS hz hk.2.2.2.2.2 hn112 e112 dX14_ring_112 fun H1 locs1 hz hP hS => ?_
                refine lv_iinc (k := 4) (v := (t65.1 + 1)) (lv' := [(4, .int (t65.1 + 1)), (0, .ref (Γ.2.1 + 149)), (1, .int a1), (2, .int t38.1), (3, .int t51.1)]) hx hb dX14_ring_113 hl rfl rfl (by decide) rfl fun ls hl => ?_
                refine lv_goto (tgt := 65) hx hb dX14_ring_116 rfl ?_
                exact ih65 ((t65.1 + 1), v112) h _ _ _ (lv_sub hl [1, 2, 3, 4, 0] rfl) hP hS hz
            exact L65 z (0, t51.2) h _ _ _ (lv_sub hl [1, 2, 3, 4, 0] rfl) hP hS hz
        exact L51 z (0, t38.2) h _ _ _ (lv_sub hl [1, 2, 3, 0] rfl) hP hS hz
    exact L38 z (0, v35) h _ _ _ (lv_sub hl [1, 2, 0] rfl) hP hS hz
  · have h := itt_e h hc10
    refine lv_aload_n hx hb dX14_ring_13 rfl (lv_at hl 0 rfl) ?_
    refine lv_iconst (v := 1) hx hb dX14_ring_14 rfl ?_
    obtain ⟨q15, e15, h⟩ := obn_e h
    refine z_Vi (k := 149) (r1 := q15.1) (v1 := q15.2) hx hb hml hts hown hK hP hS hz hE (c_Model_no hk e15) kX14_no mX14_403 hk.1 rfl rfl rfl hl.1 (Nat.le_of_ble_eq_true rfl) ⟨Nat.le_of_ble_eq_true rfl, Nat.le_of_ble_eq_true rfl⟩ ⟨Nat.le_refl _, Nat.le_refl _⟩ dX14_ring_15 fun H1 locs1 hz hP hS => ?_
    exact w_iret hx hb hret rfl hlk hK hP hS hz hE (q_p2 h) dX14_ring_18
def f_Model_setDamp (v : Va) (sp : Nat) (a1 : Int32) : Option (Int32 × Va) := bnd (pu v 149 0 0) fun v2 => (f_Model_isIn a1 0 9).bind fun q9 => if (q_b q9) = 0 then ((f_Model_no v2 sp 1).bind fun q17 => some (q17.1, q17.2)) else (bnd (pu v2 173 1 a1) fun v34 => some ((v2 173 1), v34))
theorem c_Model_setDamp {sp : Nat} {a1 : Int32} (hk : isModel sh sp) {q : Int32 × Va} (h : f_Model_setDamp v sp a1 = some q) : MetI l yX14_setDamp cX14_setDamp 3 (some .int) 1 Γ sh v w n [.ref (Γ.2.1 + 149), .int a1] (fun x u => x = q.1 ∧ u = q.2) := by
  unfold f_Model_setDamp at h
  refine w_start pn_X14 (Nat.le_of_ble_eq_true rfl) fun p e s m args below meth c hx hb hml hret hlk hnm hts hown hK hP hz hE hS ls hl => ?_
  refine lv_aload_n hx hb dX14_setDamp_0 rfl (lv_at hl 0 rfl) ?_
  refine lv_iconst (v := 0) hx hb dX14_setDamp_1 rfl ?_
  obtain ⟨v2, e2, h⟩ := bnd_e h
  refine w_pi2 (k := 149) hx hb hts hown hK hP hS hz fX14_40 hk.1 rfl e2 dX14_setDamp_2 fun H1 locs1 hz hP hS => ?_
  refine lv_iload_n hx hb dX14_setDamp_5 rfl (lv_at hl 1 rfl) ?_
  refine lv_iconst (v := 0) hx hb dX14_setDamp_6 rfl ?_
  refine lv_bipush (v := 9) hx hb dX14_setDamp_7 rfl ?_
  obtain ⟨q9, e9, h⟩ := obn_e h
  refine z_Si (r1 := (q_b q9)) (v1 := v2) hx hb hml hts hown hK hP hS hz hE (c_Model_isIn  e9) kX14_isIn mX14_46 rfl rfl hl.1 (Nat.le_of_ble_eq_true rfl) ⟨Nat.le_of_ble_eq_true rfl, Nat.le_of_ble_eq_true rfl⟩ ⟨Nat.le_refl _, Nat.le_refl _⟩ dX14_setDamp_9 fun H1 locs1 hz hP hS => ?_
  refine lv_if_ne (tgt := 21) hx hb dX14_setDamp_12 rfl (fun hc12 => ?_) (fun hc12 => ?_)
  · have h := itf_e h hc12
    refine lv_aload_n hx hb dX14_setDamp_21 rfl (lv_at hl 0 rfl) ?_
    refine w_gr (k := 149) (r := 173) hx hb hts hown hK hP fX14_27 hk.1 rfl dX14_setDamp_22 ?_
    refine w_gi (k := 173) hx hb hts hown hK hP fX14_311 hk.2.2.2.1.1 rfl dX14_setDamp_25 ?_
    refine lv_istore_n (lv' := [(2, .int (v2 173 1)), (0, .ref (Γ.2.1 + 149)), (1, .int a1)]) hx hb dX14_setDamp_28 rfl hl (by decide) rfl fun ls hl => ?_
    refine lv_aload_n hx hb dX14_setDamp_29 rfl (lv_at hl 1 rfl) ?_
    refine w_gr (k := 149) (r := 173) hx hb hts hown hK hP fX14_27 hk.1 rfl dX14_setDamp_30 ?_
    refine lv_iload_n hx hb dX14_setDamp_33 rfl (lv_at hl 2 rfl) ?_
    obtain ⟨v34, e34, h⟩ := bnd_e h
    refine w_pi2 (k := 173) hx hb hts hown hK hP hS hz fX14_311 hk.2.2.2.1.1 rfl e34 dX14_setDamp_34 fun H1 locs1 hz hP hS => ?_
    refine lv_iload_n hx hb dX14_setDamp_37 rfl (lv_at hl 0 rfl) ?_
    exact w_iret hx hb hret rfl hlk hK hP hS hz hE (q_p2 h) dX14_setDamp_38
  · have h := itt_e h hc12
    refine lv_aload_n hx hb dX14_setDamp_15 rfl (lv_at hl 0 rfl) ?_
    refine lv_iconst (v := 1) hx hb dX14_setDamp_16 rfl ?_
    obtain ⟨q17, e17, h⟩ := obn_e h
    refine z_Vi (k := 149) (r1 := q17.1) (v1 := q17.2) hx hb hml hts hown hK hP hS hz hE (c_Model_no hk e17) kX14_no mX14_403 hk.1 rfl rfl rfl hl.1 (Nat.le_of_ble_eq_true rfl) ⟨Nat.le_of_ble_eq_true rfl, Nat.le_of_ble_eq_true rfl⟩ ⟨Nat.le_refl _, Nat.le_refl _⟩ dX14_setDamp_17 fun H1 locs1 hz hP hS => ?_
    exact w_iret hx hb hret rfl hlk hK hP hS hz hE (q_p2 h) dX14_setDamp_20
def j_Model_lend_36 (sp : Nat) (v2 : Va) : Option (Int32 × Va) := (f_Model_no v2 sp 2).bind fun q38 => some (q38.1, q38.2)
def j_Model_lend_77 (sp : Nat) (v2 : Va) : Option (Int32 × Va) := (f_Model_no v2 sp 3).bind fun q79 => some (q79.1, q79.2)
def f_Model_lend (z : Nat) (v : Va) (sp : Nat) (a1 : Int32) (a2 : Int32) (a3 : Int32) : Option (Int32 × Va) := bnd (pu v 149 0 0) fun v2 => (f_Model_areMerchants v2 sp a1 a2).bind fun q8 => if (q_b q8) = 0 then ((f_Model_no v2 sp 1).bind fun q16 => some (q16.1, q16.2)) else (if a1 = a2 then (j_Model_lend_36 sp v2) else ((f_Model_isIn a3 1 9999).bind fun q30 => if (q_b q30) = 0 then (j_Model_lend_36 sp v2) else (if a1 < 0 ∨ 6 ≤ a1.toNatClampNeg then none else if (v2 179 a1.toNatClampNeg) < a3 then (j_Model_lend_77 sp v2) else ((f_State_debts z v2 173 a2).bind fun q60 => if a2 < 0 ∨ 6 ≤ a2.toNatClampNeg then none else if (q60 + a3) ≤ (v2 (sp + 12) a2.toNatClampNeg) then (if a1 < 0 ∨ 6 ≤ a1.toNatClampNeg then none else if a1 < 0 ∨ 6 ≤ a1.toNatClampNeg then none else bnd (pu v2 179 a1.toNatClampNeg ((v2 179 a1.toNatClampNeg) - a3)) fun v95 => if a2 < 0 ∨ 6 ≤ a2.toNatClampNeg then none else if a2 < 0 ∨ 6 ≤ a2.toNatClampNeg then none else bnd (pu v95 179 a2.toNatClampNeg ((v95 179 a2.toNatClampNeg) + a3)) fun v108 => if ((6 * a2) + a1) < 0 ∨ 36 ≤ ((6 * a2) + a1).toNatClampNeg then none else if ((6 * a2) + a1) < 0 ∨ 36 ≤ ((6 * a2) + a1).toNatClampNeg then none else bnd (pu v108 180 ((6 * a2) + a1).toNatClampNeg ((v108 180 ((6 * a2) + a1).toNatClampNeg) + a3)) fun v126 => (f_State_owes v126 173 a2 a1).bind fun q133 => some (q133, v126)) else (j_Model_lend_77 sp v2)))))
theorem c_Model_lend {sp : Nat} {a1 : Int32} {a2 : Int32} {a3 : Int32} (hk : isModel sh sp) {q : Int32 × Va} (h : f_Model_lend z v sp a1 a2 a3 = some q) : MetI l yX14_lend cX14_lend 4 (some .int) 3 Γ sh v w n [.ref (Γ.2.1 + 149), .int a1, .int a2, .int a3] (fun x u => x = q.1 ∧ u = q.2) := by
  unfold f_Model_lend at h
  refine w_start pn_X14 (Nat.le_of_ble_eq_true rfl) fun p e s m args below meth c hx hb hml hret hlk hnm hts hown hK hP hz hE hS ls hl => ?_
  refine lv_aload_n hx hb dX14_lend_0 rfl (lv_at hl 0 rfl) ?_
  refine lv_iconst (v := 0) hx hb dX14_lend_1 rfl ?_
  obtain ⟨v2, e2, h⟩ := bnd_e h
  refine w_pi2 (k := 149) hx hb hts hown hK hP hS hz fX14_40 hk.1 rfl e2 dX14_lend_2 fun H1 locs1 hz hP hS => ?_
  refine lv_aload_n hx hb dX14_lend_5 rfl (lv_at hl 0 rfl) ?_
  refine lv_iload_n hx hb dX14_lend_6 rfl (lv_at hl 1 rfl) ?_
  refine lv_iload_n hx hb dX14_lend_7 rfl (lv_at hl 2 rfl) ?_
  obtain ⟨q8, e8, h⟩ := obn_e h
  refine z_Vi (k := 149) (r1 := (q_b q8)) (v1 := v2) hx hb hml hts hown hK hP hS hz hE (c_Model_areMerchants hk e8) kX14_areMerchants mX14_445 hk.1 rfl rfl rfl hl.1 (Nat.le_of_ble_eq_true rfl) ⟨Nat.le_of_ble_eq_true rfl, Nat.le_of_ble_eq_true rfl⟩ ⟨Nat.le_refl _, Nat.le_refl _⟩ dX14_lend_8 fun H1 locs1 hz hP hS => ?_
  refine lv_if_ne (tgt := 20) hx hb dX14_lend_11 rfl (fun hc11 => ?_) (fun hc11 => ?_)
  · have h := itf_e h hc11
    refine lv_iload_n hx hb dX14_lend_20 rfl (lv_at hl 1 rfl) ?_
    refine lv_iload_n hx hb dX14_lend_21 rfl (lv_at hl 2 rfl) ?_
    have J36 : (j_Model_lend_36 sp v2) = some q → ∀ (H1 : Heap) (locs1 : List Loc) (ls1 : Array Slot), lv_has ls1 4 [(0, .ref (Γ.2.1 + 149))] → Wd Γ sh v2 w H1 → va_S (gA Γ) s.heap H1 locs1 → H1.size = Γ.2.1 + n → wpI Γ sh w n 3 (fun x u => x = q.1 ∧ u = q.2) p l e s m args below meth c H1 locs1 (F0 m 36 ls1 []) := by
      intro  h H1 locs1 ls hl hP hS hz
      unfold j_Model_lend_36 at h
      refine lv_aload_n hx hb dX14_lend_36 rfl (lv_at hl 0 rfl) ?_
      refine lv_iconst (v := 2) hx hb dX14_lend_37 rfl ?_
      obtain ⟨q38, e38, h⟩ := obn_e h
      refine z_Vi (k := 149) (r1 := q38.1) (v1 := q38.2) hx hb hml hts hown hK hP hS hz hE (c_Model_no hk e38) kX14_no mX14_403 hk.1 rfl rfl rfl hl.1 (Nat.le_of_ble_eq_true rfl) ⟨Nat.le_of_ble_eq_true rfl, Nat.le_of_ble_eq_true rfl⟩ ⟨Nat.le_refl _, Nat.le_refl _⟩ dX14_lend_38 fun H1 locs1 hz hP hS => ?_
      exact w_iret hx hb hret rfl hlk hK hP hS hz hE (q_p2 h) dX14_lend_41
    refine lv_icmp_eq (tgt := 36) hx hb dX14_lend_22 rfl (fun hc22 => ?_) (fun hc22 => ?_)
    · have h := itt_e h hc22
      exact J36 h _ _ _ (lv_sub hl [0] rfl) hP hS hz
    · have h := itf_e h hc22
      refine lv_iload_n hx hb dX14_lend_25 rfl (lv_at hl 3 rfl) ?_
      refine lv_iconst (v := 1) hx hb dX14_lend_26 rfl ?_
      refine lv_sipush (v := 9999) hx hb dX14_lend_27 rfl ?_
      obtain ⟨q30, e30, h⟩ := obn_e h
      refine z_Si (r1 := (q_b q30)) (v1 := v2) hx hb hml hts hown hK hP hS hz hE (c_Model_isIn  e30) kX14_isIn mX14_46 rfl rfl hl.1 (Nat.le_of_ble_eq_true rfl) ⟨Nat.le_of_ble_eq_true rfl, Nat.le_of_ble_eq_true rfl⟩ ⟨Nat.le_refl _, Nat.le_refl _⟩ dX14_lend_30 fun H1 locs1 hz hP hS => ?_
      refine lv_if_ne (tgt := 42) hx hb dX14_lend_33 rfl (fun hc33 => ?_) (fun hc33 => ?_)
      · have h := itf_e h hc33
        refine lv_aload_n hx hb dX14_lend_42 rfl (lv_at hl 0 rfl) ?_
        refine w_gr (k := 149) (r := 173) hx hb hts hown hK hP fX14_27 hk.1 rfl dX14_lend_43 ?_
        refine w_gr (k := 173) (r := 179) hx hb hts hown hK hP fX14_304 hk.2.2.2.1.1 rfl dX14_lend_46 ?_
        refine lv_iload_n hx hb dX14_lend_49 rfl (lv_at hl 1 rfl) ?_
        obtain ⟨hn50, h⟩ := itn_e h
        refine w_iald (k := 179) hx hb hK hP hk.2.2.2.1.2.2.2.2.2.2.1 hn50 dX14_lend_50 ?_
        refine lv_iload_n hx hb dX14_lend_51 rfl (lv_at hl 3 rfl) ?_
        have J77 : (j_Model_lend_77 sp v2) = some q → ∀ (H1 : Heap) (locs1 : List Loc) (ls1 : Array Slot), lv_has ls1 4 [(0, .ref (Γ.2.1 + 149))] → Wd Γ sh v2 w H1 → va_S (gA Γ) s.heap H1 locs1 → H1.size = Γ.2.1 + n → wpI Γ sh w n 3 (fun x u => x = q.1 ∧ u = q.2) p l e s m args below meth c H1 locs1 (F0 m 77 ls1 []) := by
          intro  h H1 locs1 ls hl hP hS hz
          unfold j_Model_lend_77 at h
          refine lv_aload_n hx hb dX14_lend_77 rfl (lv_at hl 0 rfl) ?_
          refine lv_iconst (v := 3) hx hb dX14_lend_78 rfl ?_
          obtain ⟨q79, e79, h⟩ := obn_e h
          refine z_Vi (k := 149) (r1 := q79.1) (v1 := q79.2) hx hb hml hts hown hK hP hS hz hE (c_Model_no hk e79) kX14_no mX14_403 hk.1 rfl rfl rfl hl.1 (Nat.le_of_ble_eq_true rfl) ⟨Nat.le_of_ble_eq_true rfl, Nat.le_of_ble_eq_true rfl⟩ ⟨Nat.le_refl _, Nat.le_refl _⟩ dX14_lend_79 fun H1 locs1 hz hP hS => ?_
          exact w_iret hx hb hret rfl hlk hK hP hS hz hE (q_p2 h) dX14_lend_82
        refine lv_icmp_lt (tgt := 77) hx hb dX14_lend_52 rfl (fun hc52 => ?_) (fun hc52 => ?_)
        · have h := itt_e h hc52
          exact J77 h _ _ _ (lv_sub hl [0] rfl) hP hS hz
        · have h := itf_e h hc52
          refine lv_aload_n hx hb dX14_lend_55 rfl (lv_at hl 0 rfl) ?_
          refine w_gr (k := 149) (r := 173) hx hb hts hown hK hP fX14_27 hk.1 rfl dX14_lend_56 ?_
          refine lv_iload_n hx hb dX14_lend_59 rfl (lv_at hl 2 rfl) ?_
          obtain ⟨q60, e60, h⟩ := obn_e h
          refine z_Vi (k := 173) (r1 := q60) (v1 := v2) hx hb hml hts hown hK hP hS hz hE (c_State_debts hk.2.2.2.1 e60) kX13_debts mX14_305 hk.2.2.2.1.1 rfl rfl rfl hl.1 (Nat.le_of_ble_eq_true rfl) ⟨Nat.le_of_ble_eq_true rfl, Nat.le_of_ble_eq_true rfl⟩ ⟨Nat.le_refl _, Nat.le_refl _⟩ dX14_lend_60 fun H1 locs1 hz hP hS => ?_
          refine lv_iload_n hx hb dX14_lend_63 rfl (lv_at hl 3 rfl) ?_
          refine lv_iadd hx hb dX14_lend_64 ?_
          refine lv_aload_n hx hb dX14_lend_65 rfl (lv_at hl 0 rfl) ?_
          refine w_gr (k := 149) (r := sp) hx hb hts hown hK hP fX14_20 hk.1 rfl dX14_lend_66 ?_
          refine w_gr (k := sp) (r := (sp + 12)) hx hb hts hown hK hP fX14_233 hk.2.2.1.1 rfl dX14_lend_69 ?_
          refine lv_iload_n hx hb dX14_lend_72 rfl (lv_at hl 2 rfl) ?_
          obtain ⟨hn73, h⟩ := itn_e h
          refine w_iald (k := (sp + 12)) hx hb hK hP hk.2.2.1.2.2.2.2.2.2.2.2.2.2.2.2.1 hn73 dX14_lend_73 ?_
          refine lv_icmp_le (tgt := 83) hx hb dX14_lend_74 rfl (fun hc74 => ?_) (fun hc74 => ?_)
          · have h := itt_e h hc74
            refine lv_aload_n hx hb dX14_lend_83 rfl (lv_at hl 0 rfl) ?_
            refine w_gr (k := 149) (r := 173) hx hb hts hown hK hP fX14_27 hk.1 rfl dX14_lend_84 ?_
            refine w_gr (k := 173) (r := 179) hx hb hts hown hK hP fX14_304 hk.2.2.2.1.1 rfl dX14_lend_87 ?_
            refine lv_iload_n hx hb dX14_lend_90 rfl (lv_at hl 1 rfl) ?_
            refine lv_dup2_11 hx hb dX14_lend_91 rfl rfl ?_
            obtain ⟨hn92, h⟩ := itn_e h
            refine w_iald (k := 179) hx hb hK hP hk.2.2.2.1.2.2.2.2.2.2.1 hn92 dX14_lend_92 ?_
            refine lv_iload_n hx hb dX14_lend_93 rfl (lv_at hl 3 rfl) ?_
            refine lv_isub hx hb dX14_lend_94 ?_
            obtain ⟨hn95, h⟩ := itn_e h
            obtain ⟨v95, e95, h⟩ := bnd_e h
            refine w_ia2 (k := 179) hx hb hK hP hS hz hk.2.2.2.1.2.2.2.2.2.2.1 hn95 e95 dX14_lend_95 fun H1 locs1 hz hP hS => ?_
            refine lv_aload_n hx hb dX14_lend_96 rfl (lv_at hl 0 rfl) ?_
            refine w_gr (k := 149) (r := 173) hx hb hts hown hK hP fX14_27 hk.1 rfl dX14_lend_97 ?_
            refine w_gr (k := 173) (r := 179) hx hb hts hown hK hP fX14_304 hk.2.2.2.1.1 rfl dX14_lend_100 ?_
            refine lv_iload_n hx hb dX14_lend_103 rfl (lv_at hl 2 rfl) ?_
            refine lv_dup2_11 hx hb dX14_lend_104 rfl rfl ?_
            obtain ⟨hn105, h⟩ := itn_e h
            refine w_iald (k := 179) hx hb hK hP hk.2.2.2.1.2.2.2.2.2.2.1 hn105 dX14_lend_105 ?_
            refine lv_iload_n hx hb dX14_lend_106 rfl (lv_at hl 3 rfl) ?_
            refine lv_iadd hx hb dX14_lend_107 ?_
            obtain ⟨hn108, h⟩ := itn_e h
            obtain ⟨v108, e108, h⟩ := bnd_e h
            refine w_ia2 (k := 179) hx hb hK hP hS hz hk.2.2.2.1.2.2.2.2.2.2.1 hn108 e108 dX14_lend_108 fun H1 locs1 hz hP hS => ?_
            refine lv_aload_n hx hb dX14_lend_109 rfl (lv_at hl 0 rfl) ?_
            refine w_gr (k := 149) (r := 173) hx hb hts hown hK hP fX14_27 hk.1 rfl dX14_lend_110 ?_
            refine w_gr (k := 173) (r := 180) hx hb hts hown hK hP fX14_357 hk.2.2.2.1.1 rfl dX14_lend_113 ?_
            refine lv_bipush (v := 6) hx hb dX14_lend_116 rfl ?_
            refine lv_iload_n hx hb dX14_lend_118 rfl (lv_at hl 2 rfl) ?_
            refine lv_imul hx hb dX14_lend_119 ?_
            refine lv_iload_n hx hb dX14_lend_120 rfl (lv_at hl 1 rfl) ?_
            refine lv_iadd hx hb dX14_lend_121 ?_
            refine lv_dup2_11 hx hb dX14_lend_122 rfl rfl ?_
            obtain ⟨hn123, h⟩ := itn_e h
            refine w_iald (k := 180) hx hb hK hP hk.2.2.2.1.2.2.2.2.2.2.2.1 hn123 dX14_lend_123 ?_
            refine lv_iload_n hx hb dX14_lend_124 rfl (lv_at hl 3 rfl) ?_
            refine lv_iadd hx hb dX14_lend_125 ?_
            obtain ⟨hn126, h⟩ := itn_e h
            obtain ⟨v126, e126, h⟩ := bnd_e h
            refine w_ia2 (k := 180) hx hb hK hP hS hz hk.2.2.2.1.2.2.2.2.2.2.2.1 hn126 e126 dX14_lend_126 fun H1 locs1 hz hP hS => ?_
            refine lv_aload_n hx hb dX14_lend_127 rfl (lv_at hl 0 rfl) ?_
            refine w_gr (k := 149) (r := 173) hx hb hts hown hK hP fX14_27 hk.1 rfl dX14_lend_128 ?_
            refine lv_iload_n hx hb dX14_lend_131 rfl (lv_at hl 2 rfl) ?_
            refine lv_iload_n hx hb dX14_lend_132 rfl (lv_at hl 1 rfl) ?_
            obtain ⟨q133, e133, h⟩ := obn_e h
            refine z_Vi (k := 173) (r1 := q133) (v1 := v126) hx hb hml hts hown hK hP hS hz hE (c_State_owes hk.2.2.2.1 e133) kX13_owes mX14_317 hk.2.2.2.1.1 rfl rfl rfl hl.1 (Nat.le_of_ble_eq_true rfl) ⟨Nat.le_of_ble_eq_true rfl, Nat.le_of_ble_eq_true rfl⟩ ⟨Nat.le_refl _, Nat.le_refl _⟩ dX14_lend_133 fun H1 locs1 hz hP hS => ?_
            exact w_iret hx hb hret rfl hlk hK hP hS hz hE (q_p2 h) dX14_lend_136
          · have h := itf_e h hc74
            exact J77 h _ _ _ (lv_sub hl [0] rfl) hP hS hz
      · have h := itt_e h hc33
        exact J36 h _ _ _ (lv_sub hl [0] rfl) hP hS hz
  · have h := itt_e h hc11
    refine lv_aload_n hx hb dX14_lend_14 rfl (lv_at hl 0 rfl) ?_
    refine lv_iconst (v := 1) hx hb dX14_lend_15 rfl ?_
    obtain ⟨q16, e16, h⟩ := obn_e h
    refine z_Vi (k := 149) (r1 := q16.1) (v1 := q16.2) hx hb hml hts hown hK hP hS hz hE (c_Model_no hk e16) kX14_no mX14_403 hk.1 rfl rfl rfl hl.1 (Nat.le_of_ble_eq_true rfl) ⟨Nat.le_of_ble_eq_true rfl, Nat.le_of_ble_eq_true rfl⟩ ⟨Nat.le_refl _, Nat.le_refl _⟩ dX14_lend_16 fun H1 locs1 hz hP hS => ?_
    exact w_iret hx hb hret rfl hlk hK hP hS hz hE (q_p2 h) dX14_lend_19
def f_Model_offset (v : Va) (sp : Nat) (a1 : Int32) (a2 : Int32) : Option (Int32 × Va) := bnd (pu v 149 0 0) fun v2 => (f_Model_areMerchants v2 sp a1 a2).bind fun q8 => if (q_b q8) = 0 then ((f_Model_no v2 sp 1).bind fun q16 => some (q16.1, q16.2)) else (if a1 = a2 then ((f_Model_no v2 sp 2).bind fun q27 => some (q27.1, q27.2)) else ((f_State_owes v2 173 a1 a2).bind fun q37 => (f_State_owes v2 173 a2 a1).bind fun q46 => if ((6 * a1) + a2) < 0 ∨ 36 ≤ ((6 * a1) + a2).toNatClampNeg then none else if ((6 * a1) + a2) < 0 ∨ 36 ≤ ((6 * a1) + a2).toNatClampNeg then none else bnd (pu v2 180 ((6 * a1) + a2).toNatClampNeg ((v2 180 ((6 * a1) + a2).toNatClampNeg) - (q_min q37 q46))) fun v70 => if ((6 * a2) + a1) < 0 ∨ 36 ≤ ((6 * a2) + a1).toNatClampNeg then none else if ((6 * a2) + a1) < 0 ∨ 36 ≤ ((6 * a2) + a1).toNatClampNeg then none else bnd (pu v70 180 ((6 * a2) + a1).toNatClampNeg ((v70 180 ((6 * a2) + a1).toNatClampNeg) - (q_min q37 q46))) fun v88 => some ((q_min q37 q46), v88)))
theorem c_Model_offset {sp : Nat} {a1 : Int32} {a2 : Int32} (hk : isModel sh sp) {q : Int32 × Va} (h : f_Model_offset v sp a1 a2 = some q) : MetI l yX14_offset cX14_offset 4 (some .int) 3 Γ sh v w n [.ref (Γ.2.1 + 149), .int a1, .int a2] (fun x u => x = q.1 ∧ u = q.2) := by
  unfold f_Model_offset at h
  refine w_start pn_X14 (Nat.le_of_ble_eq_true rfl) fun p e s m args below meth c hx hb hml hret hlk hnm hts hown hK hP hz hE hS ls hl => ?_
  refine lv_aload_n hx hb dX14_offset_0 rfl (lv_at hl 0 rfl) ?_
  refine lv_iconst (v := 0) hx hb dX14_offset_1 rfl ?_
  obtain ⟨v2, e2, h⟩ := bnd_e h
  refine w_pi2 (k := 149) hx hb hts hown hK hP hS hz fX14_40 hk.1 rfl e2 dX14_offset_2 fun H1 locs1 hz hP hS => ?_
  refine lv_aload_n hx hb dX14_offset_5 rfl (lv_at hl 0 rfl) ?_
  refine lv_iload_n hx hb dX14_offset_6 rfl (lv_at hl 1 rfl) ?_
  refine lv_iload_n hx hb dX14_offset_7 rfl (lv_at hl 2 rfl) ?_
  obtain ⟨q8, e8, h⟩ := obn_e h
  refine z_Vi (k := 149) (r1 := (q_b q8)) (v1 := v2) hx hb hml hts hown hK hP hS hz hE (c_Model_areMerchants hk e8) kX14_areMerchants mX14_445 hk.1 rfl rfl rfl hl.1 (Nat.le_of_ble_eq_true rfl) ⟨Nat.le_of_ble_eq_true rfl, Nat.le_of_ble_eq_true rfl⟩ ⟨Nat.le_refl _, Nat.le_refl _⟩ dX14_offset_8 fun H1 locs1 hz hP hS => ?_
  refine lv_if_ne (tgt := 20) hx hb dX14_offset_11 rfl (fun hc11 => ?_) (fun hc11 => ?_)
  · have h := itf_e h hc11
    refine lv_iload_n hx hb dX14_offset_20 rfl (lv_at hl 1 rfl) ?_
    refine lv_iload_n hx hb dX14_offset_21 rfl (lv_at hl 2 rfl) ?_
    refine lv_icmp_ne (tgt := 31) hx hb dX14_offset_22 rfl (fun hc22 => ?_) (fun hc22 => ?_)
    · have h := itf_e h hc22
      refine lv_aload_n hx hb dX14_offset_31 rfl (lv_at hl 0 rfl) ?_
      refine w_gr (k := 149) (r := 173) hx hb hts hown hK hP fX14_27 hk.1 rfl dX14_offset_32 ?_
      refine lv_iload_n hx hb dX14_offset_35 rfl (lv_at hl 1 rfl) ?_
      refine lv_iload_n hx hb dX14_offset_36 rfl (lv_at hl 2 rfl) ?_
      obtain ⟨q37, e37, h⟩ := obn_e h
      refine z_Vi (k := 173) (r1 := q37) (v1 := v2) hx hb hml hts hown hK hP hS hz hE (c_State_owes hk.2.2.2.1 e37) kX13_owes mX14_317 hk.2.2.2.1.1 rfl rfl rfl hl.1 (Nat.le_of_ble_eq_true rfl) ⟨Nat.le_of_ble_eq_true rfl, Nat.le_of_ble_eq_true rfl⟩ ⟨Nat.le_refl _, Nat.le_refl _⟩ dX14_offset_37 fun H1 locs1 hz hP hS => ?_
      refine lv_aload_n hx hb dX14_offset_40 rfl (lv_at hl 0 rfl) ?_
      refine w_gr (k := 149) (r := 173) hx hb hts hown hK hP fX14_27 hk.1 rfl dX14_offset_41 ?_
      refine lv_iload_n hx hb dX14_offset_44 rfl (lv_at hl 2 rfl) ?_
      refine lv_iload_n hx hb dX14_offset_45 rfl (lv_at hl 1 rfl) ?_
      obtain ⟨q46, e46, h⟩ := obn_e h
      refine z_Vi (k := 173) (r1 := q46) (v1 := v2) hx hb hml hts hown hK hP hS hz hE (c_State_owes hk.2.2.2.1 e46) kX13_owes mX14_317 hk.2.2.2.1.1 rfl rfl rfl hl.1 (Nat.le_of_ble_eq_true rfl) ⟨Nat.le_of_ble_eq_true rfl, Nat.le_of_ble_eq_true rfl⟩ ⟨Nat.le_refl _, Nat.le_refl _⟩ dX14_offset_46 fun H1 locs1 hz hP hS => ?_
      refine z_mmin hx hb hml hl.1 hts hown xX14_320 ⟨Nat.le_of_ble_eq_true rfl, Nat.le_of_ble_eq_true rfl⟩ (Nat.le_of_ble_eq_true rfl) ⟨Nat.le_refl _, Nat.le_refl _⟩ dX14_offset_49 ?_
      refine lv_istore_n (lv' := [(3, .int (q_min q37 q46)), (0, .ref (Γ.2.1 + 149)), (1, .int a1), (2, .int a2)]) hx hb dX14_offset_52 rfl hl (by decide) rfl fun ls hl => ?_
      refine lv_aload_n hx hb dX14_offset_53 rfl (lv_at hl 1 rfl) ?_
      refine w_gr (k := 149) (r := 173) hx hb hts hown hK hP fX14_27 hk.1 rfl dX14_offset_54 ?_
      refine w_gr (k := 173) (r := 180) hx hb hts hown hK hP fX14_357 hk.2.2.2.1.1 rfl dX14_offset_57 ?_
      refine lv_bipush (v := 6) hx hb dX14_offset_60 rfl ?_
      refine lv_iload_n hx hb dX14_offset_62 rfl (lv_at hl 2 rfl) ?_
      refine lv_imul hx hb dX14_offset_63 ?_
      refine lv_iload_n hx hb dX14_offset_64 rfl (lv_at hl 3 rfl) ?_
      refine lv_iadd hx hb dX14_offset_65 ?_
      refine lv_dup2_11 hx hb dX14_offset_66 rfl rfl ?_
      obtain ⟨hn67, h⟩ := itn_e h
      refine w_iald (k := 180) hx hb hK hP hk.2.2.2.1.2.2.2.2.2.2.2.1 hn67 dX14_offset_67 ?_
      refine lv_iload_n hx hb dX14_offset_68 rfl (lv_at hl 0 rfl) ?_
      refine lv_isub hx hb dX14_offset_69 ?_
      obtain ⟨hn70, h⟩ := itn_e h
      obtain ⟨v70, e70, h⟩ := bnd_e h
      refine w_ia2 (k := 180) hx hb hK hP hS hz hk.2.2.2.1.2.2.2.2.2.2.2.1 hn70 e70 dX14_offset_70 fun H1 locs1 hz hP hS => ?_
      refine lv_aload_n hx hb dX14_offset_71 rfl (lv_at hl 1 rfl) ?_
      refine w_gr (k := 149) (r := 173) hx hb hts hown hK hP fX14_27 hk.1 rfl dX14_offset_72 ?_
      refine w_gr (k := 173) (r := 180) hx hb hts hown hK hP fX14_357 hk.2.2.2.1.1 rfl dX14_offset_75 ?_
      refine lv_bipush (v := 6) hx hb dX14_offset_78 rfl ?_
      refine lv_iload_n hx hb dX14_offset_80 rfl (lv_at hl 3 rfl) ?_
      refine lv_imul hx hb dX14_offset_81 ?_
      refine lv_iload_n hx hb dX14_offset_82 rfl (lv_at hl 2 rfl) ?_
      refine lv_iadd hx hb dX14_offset_83 ?_
      refine lv_dup2_11 hx hb dX14_offset_84 rfl rfl ?_
      obtain ⟨hn85, h⟩ := itn_e h
      refine w_iald (k := 180) hx hb hK hP hk.2.2.2.1.2.2.2.2.2.2.2.1 hn85 dX14_offset_85 ?_
      refine lv_iload_n hx hb dX14_offset_86 rfl (lv_at hl 0 rfl) ?_
      refine lv_isub hx hb dX14_offset_87 ?_
      obtain ⟨hn88, h⟩ := itn_e h
      obtain ⟨v88, e88, h⟩ := bnd_e h
      refine w_ia2 (k := 180) hx hb hK hP hS hz hk.2.2.2.1.2.2.2.2.2.2.2.1 hn88 e88 dX14_offset_88 fun H1 locs1 hz hP hS => ?_
      refine lv_iload_n hx hb dX14_offset_89 rfl (lv_at hl 0 rfl) ?_
      exact w_iret hx hb hret rfl hlk hK hP hS hz hE (q_p2 h) dX14_offset_90
    · have h := itt_e h hc22
      refine lv_aload_n hx hb dX14_offset_25 rfl (lv_at hl 0 rfl) ?_
      refine lv_iconst (v := 2) hx hb dX14_offset_26 rfl ?_
      obtain ⟨q27, e27, h⟩ := obn_e h
      refine z_Vi (k := 149) (r1 := q27.1) (v1 := q27.2) hx hb hml hts hown hK hP hS hz hE (c_Model_no hk e27) kX14_no mX14_403 hk.1 rfl rfl rfl hl.1 (Nat.le_of_ble_eq_true rfl) ⟨Nat.le_of_ble_eq_true rfl, Nat.le_of_ble_eq_true rfl⟩ ⟨Nat.le_refl _, Nat.le_refl _⟩ dX14_offset_27 fun H1 locs1 hz hP hS => ?_
      exact w_iret hx hb hret rfl hlk hK hP hS hz hE (q_p2 h) dX14_offset_30
  · have h := itt_e h hc11
    refine lv_aload_n hx hb dX14_offset_14 rfl (lv_at hl 0 rfl) ?_
    refine lv_iconst (v := 1) hx hb dX14_offset_15 rfl ?_
    obtain ⟨q16, e16, h⟩ := obn_e h
    refine z_Vi (k := 149) (r1 := q16.1) (v1 := q16.2) hx hb hml hts hown hK hP hS hz hE (c_Model_no hk e16) kX14_no mX14_403 hk.1 rfl rfl rfl hl.1 (Nat.le_of_ble_eq_true rfl) ⟨Nat.le_of_ble_eq_true rfl, Nat.le_of_ble_eq_true rfl⟩ ⟨Nat.le_refl _, Nat.le_refl _⟩ dX14_offset_16 fun H1 locs1 hz hP hS => ?_
    exact w_iret hx hb hret rfl hlk hK hP hS hz hE (q_p2 h) dX14_offset_19
def f_Model_dry (v : Va) (sp : Nat) (a1 : Int32) : Option (Int32 × Va) := bnd (pu v 149 0 0) fun v2 => (f_Model_isLot v2 sp a1).bind fun q7 => if (q_b q7) = 0 then ((f_Model_no v2 sp 1).bind fun q15 => some (q15.1, q15.2)) else (if a1 < 0 ∨ 10 ≤ a1.toNatClampNeg then none else if a1 < 0 ∨ 10 ≤ a1.toNatClampNeg then none else if a1 < 0 ∨ 10 ≤ a1.toNatClampNeg then none else bnd (pu v2 174 a1.toNatClampNeg ((v2 174 a1.toNatClampNeg) - ((v2 174 a1.toNatClampNeg) / 10))) fun v42 => if a1 < 0 ∨ 10 ≤ a1.toNatClampNeg then none else bnd (pu v42 176 a1.toNatClampNeg (-1)) fun v52 => if a1 < 0 ∨ 10 ≤ a1.toNatClampNeg then none else some ((v52 174 a1.toNatClampNeg), v52))
theorem c_Model_dry {sp : Nat} {a1 : Int32} (hk : isModel sh sp) {q : Int32 × Va} (h : f_Model_dry v sp a1 = some q) : MetI l yX14_dry cX14_dry 2 (some .int) 2 Γ sh v w n [.ref (Γ.2.1 + 149), .int a1] (fun x u => x = q.1 ∧ u = q.2) := by
  unfold f_Model_dry at h
  refine w_start pn_X14 (Nat.le_of_ble_eq_true rfl) fun p e s m args below meth c hx hb hml hret hlk hnm hts hown hK hP hz hE hS ls hl => ?_
  refine lv_aload_n hx hb dX14_dry_0 rfl (lv_at hl 0 rfl) ?_
  refine lv_iconst (v := 0) hx hb dX14_dry_1 rfl ?_
  obtain ⟨v2, e2, h⟩ := bnd_e h
  refine w_pi2 (k := 149) hx hb hts hown hK hP hS hz fX14_40 hk.1 rfl e2 dX14_dry_2 fun H1 locs1 hz hP hS => ?_
  refine lv_aload_n hx hb dX14_dry_5 rfl (lv_at hl 0 rfl) ?_
  refine lv_iload_n hx hb dX14_dry_6 rfl (lv_at hl 1 rfl) ?_
  obtain ⟨q7, e7, h⟩ := obn_e h
  refine z_Vi (k := 149) (r1 := (q_b q7)) (v1 := v2) hx hb hml hts hown hK hP hS hz hE (c_Model_isLot hk e7) kX14_isLot mX14_423 hk.1 rfl rfl rfl hl.1 (Nat.le_of_ble_eq_true rfl) ⟨Nat.le_of_ble_eq_true rfl, Nat.le_of_ble_eq_true rfl⟩ ⟨Nat.le_refl _, Nat.le_refl _⟩ dX14_dry_7 fun H1 locs1 hz hP hS => ?_
  refine lv_if_ne (tgt := 19) hx hb dX14_dry_10 rfl (fun hc10 => ?_) (fun hc10 => ?_)
  · have h := itf_e h hc10
    refine lv_aload_n hx hb dX14_dry_19 rfl (lv_at hl 0 rfl) ?_
    refine w_gr (k := 149) (r := 173) hx hb hts hown hK hP fX14_27 hk.1 rfl dX14_dry_20 ?_
    refine w_gr (k := 173) (r := 174) hx hb hts hown hK hP fX14_292 hk.2.2.2.1.1 rfl dX14_dry_23 ?_
    refine lv_iload_n hx hb dX14_dry_26 rfl (lv_at hl 1 rfl) ?_
    refine lv_dup2_11 hx hb dX14_dry_27 rfl rfl ?_
    obtain ⟨hn28, h⟩ := itn_e h
    refine w_iald (k := 174) hx hb hK hP hk.2.2.2.1.2.1 hn28 dX14_dry_28 ?_
    refine lv_aload_n hx hb dX14_dry_29 rfl (lv_at hl 0 rfl) ?_
    refine w_gr (k := 149) (r := 173) hx hb hts hown hK hP fX14_27 hk.1 rfl dX14_dry_30 ?_
    refine w_gr (k := 173) (r := 174) hx hb hts hown hK hP fX14_292 hk.2.2.2.1.1 rfl dX14_dry_33 ?_
    refine lv_iload_n hx hb dX14_dry_36 rfl (lv_at hl 1 rfl) ?_
    obtain ⟨hn37, h⟩ := itn_e h
    refine w_iald (k := 174) hx hb hK hP hk.2.2.2.1.2.1 hn37 dX14_dry_37 ?_
    refine lv_bipush (v := 10) hx hb dX14_dry_38 rfl ?_
    refine lv_idiv hx hb dX14_dry_40 (by decide) ?_
    refine lv_isub hx hb dX14_dry_41 ?_
    obtain ⟨hn42, h⟩ := itn_e h
    obtain ⟨v42, e42, h⟩ := bnd_e h
    refine w_ia2 (k := 174) hx hb hK hP hS hz hk.2.2.2.1.2.1 hn42 e42 dX14_dry_42 fun H1 locs1 hz hP hS => ?_
    refine lv_aload_n hx hb dX14_dry_43 rfl (lv_at hl 0 rfl) ?_
    refine w_gr (k := 149) (r := 173) hx hb hts hown hK hP fX14_27 hk.1 rfl dX14_dry_44 ?_
    refine w_gr (k := 173) (r := 176) hx hb hts hown hK hP fX14_295 hk.2.2.2.1.1 rfl dX14_dry_47 ?_
    refine lv_iload_n hx hb dX14_dry_50 rfl (lv_at hl 1 rfl) ?_
    refine lv_iconst (v := (-1)) hx hb dX14_dry_51 rfl ?_
    obtain ⟨hn52, h⟩ := itn_e h
    obtain ⟨v52, e52, h⟩ := bnd_e h
    refine w_ia2 (k := 176) hx hb hK hP hS hz hk.2.2.2.1.2.2.2.1 hn52 e52 dX14_dry_52 fun H1 locs1 hz hP hS => ?_
    refine lv_aload_n hx hb dX14_dry_53 rfl (lv_at hl 0 rfl) ?_
    refine w_gr (k := 149) (r := 173) hx hb hts hown hK hP fX14_27 hk.1 rfl dX14_dry_54 ?_
    refine w_gr (k := 173) (r := 174) hx hb hts hown hK hP fX14_292 hk.2.2.2.1.1 rfl dX14_dry_57 ?_
    refine lv_iload_n hx hb dX14_dry_60 rfl (lv_at hl 1 rfl) ?_
    obtain ⟨hn61, h⟩ := itn_e h
    refine w_iald (k := 174) hx hb hK hP hk.2.2.2.1.2.1 hn61 dX14_dry_61 ?_
    exact w_iret hx hb hret rfl hlk hK hP hS hz hE (q_p2 h) dX14_dry_62
  · have h := itt_e h hc10
    refine lv_aload_n hx hb dX14_dry_13 rfl (lv_at hl 0 rfl) ?_
    refine lv_iconst (v := 1) hx hb dX14_dry_14 rfl ?_
    obtain ⟨q15, e15, h⟩ := obn_e h
    refine z_Vi (k := 149) (r1 := q15.1) (v1 := q15.2) hx hb hml hts hown hK hP hS hz hE (c_Model_no hk e15) kX14_no mX14_403 hk.1 rfl rfl rfl hl.1 (Nat.le_of_ble_eq_true rfl) ⟨Nat.le_of_ble_eq_true rfl, Nat.le_of_ble_eq_true rfl⟩ ⟨Nat.le_refl _, Nat.le_refl _⟩ dX14_dry_15 fun H1 locs1 hz hP hS => ?_
    exact w_iret hx hb hret rfl hlk hK hP hS hz hE (q_p2 h) dX14_dry_18
def f_Model_pass (z : Nat) (v : Va) (sp : Nat) (a1 : Int32) : Option (Int32 × Va) := bnd (pu v 149 0 0) fun v2 => (f_Model_isIn a1 1 120).bind fun q9 => if (q_b q9) = 0 then ((f_Model_no v2 sp 1).bind fun q29 => some (q29.1, q29.2)) else ((f_Model_daysOn z v2 sp 173 a1).bind fun q21 => some (q21.1, q21.2))
theorem c_Model_pass {sp : Nat} {a1 : Int32} (hk : isModel sh sp) {q : Int32 × Va} (h : f_Model_pass z v sp a1 = some q) : MetI l yX14_pass cX14_pass 2 (some .int) 59 Γ sh v w n [.ref (Γ.2.1 + 149), .int a1] (fun x u => x = q.1 ∧ u = q.2) := by
  unfold f_Model_pass at h
  refine w_start pn_X14 (Nat.le_of_ble_eq_true rfl) fun p e s m args below meth c hx hb hml hret hlk hnm hts hown hK hP hz hE hS ls hl => ?_
  refine lv_aload_n hx hb dX14_pass_0 rfl (lv_at hl 0 rfl) ?_
  refine lv_iconst (v := 0) hx hb dX14_pass_1 rfl ?_
  obtain ⟨v2, e2, h⟩ := bnd_e h
  refine w_pi2 (k := 149) hx hb hts hown hK hP hS hz fX14_40 hk.1 rfl e2 dX14_pass_2 fun H1 locs1 hz hP hS => ?_
  refine lv_iload_n hx hb dX14_pass_5 rfl (lv_at hl 1 rfl) ?_
  refine lv_iconst (v := 1) hx hb dX14_pass_6 rfl ?_
  refine lv_bipush (v := 120) hx hb dX14_pass_7 rfl ?_
  obtain ⟨q9, e9, h⟩ := obn_e h
  refine z_Si (r1 := (q_b q9)) (v1 := v2) hx hb hml hts hown hK hP hS hz hE (c_Model_isIn  e9) kX14_isIn mX14_46 rfl rfl hl.1 (Nat.le_of_ble_eq_true rfl) ⟨Nat.le_of_ble_eq_true rfl, Nat.le_of_ble_eq_true rfl⟩ ⟨Nat.le_refl _, Nat.le_refl _⟩ dX14_pass_9 fun H1 locs1 hz hP hS => ?_
  refine lv_if_eq (tgt := 27) hx hb dX14_pass_12 rfl (fun hc12 => ?_) (fun hc12 => ?_)
  · have h := itt_e h hc12
    refine lv_aload_n hx hb dX14_pass_27 rfl (lv_at hl 0 rfl) ?_
    refine lv_iconst (v := 1) hx hb dX14_pass_28 rfl ?_
    obtain ⟨q29, e29, h⟩ := obn_e h
    refine z_Vi (k := 149) (r1 := q29.1) (v1 := q29.2) hx hb hml hts hown hK hP hS hz hE (c_Model_no hk e29) kX14_no mX14_403 hk.1 rfl rfl rfl hl.1 (Nat.le_of_ble_eq_true rfl) ⟨Nat.le_of_ble_eq_true rfl, Nat.le_of_ble_eq_true rfl⟩ ⟨Nat.le_refl _, Nat.le_refl _⟩ dX14_pass_29 fun H1 locs1 hz hP hS => ?_
    exact w_iret hx hb hret rfl hlk hK hP hS hz hE (q_p2 h) dX14_pass_32
  · have h := itf_e h hc12
    refine lv_aload_n hx hb dX14_pass_15 rfl (lv_at hl 0 rfl) ?_
    refine lv_aload_n hx hb dX14_pass_16 rfl (lv_at hl 0 rfl) ?_
    refine w_gr (k := 149) (r := 173) hx hb hts hown hK hP fX14_27 hk.1 rfl dX14_pass_17 ?_
    refine lv_iload_n hx hb dX14_pass_20 rfl (lv_at hl 1 rfl) ?_
    obtain ⟨q21, e21, h⟩ := obn_e h
    refine z_Vi (k := 149) (r1 := q21.1) (v1 := q21.2) hx hb hml hts hown hK hP hS hz hE (c_Model_daysOn hk hk.2.2.2.1 e21) kX14_daysOn mX14_452 hk.1 rfl rfl rfl hl.1 (Nat.le_of_ble_eq_true rfl) ⟨Nat.le_of_ble_eq_true rfl, Nat.le_of_ble_eq_true rfl⟩ ⟨Nat.le_refl _, Nat.le_refl _⟩ dX14_pass_21 fun H1 locs1 hz hP hS => ?_
    refine lv_goto (tgt := 32) hx hb dX14_pass_24 rfl ?_
    exact w_iret hx hb hret rfl hlk hK hP hS hz hE (q_p2 h) dX14_pass_32
def j_Model_foresee_42 (z : Nat) (sp : Nat) (a1 : Int32) (a2 : Int32) (v2 : Va) : Option (Int32 × Va) := (f_State_become v2 183 173).bind fun q50 => (f_Model_daysOn z q50 sp 183 a1).bind fun q59 => if a2 = 0 then (some (q59.1, q59.2)) else ((f_Model_counted z q59.2 sp 183 a2).bind fun q77 => some (q77, q59.2))
def f_Model_foresee (z : Nat) (v : Va) (sp : Nat) (a1 : Int32) (a2 : Int32) : Option (Int32 × Va) := bnd (pu v 149 0 0) fun v2 => (f_Model_isIn a1 1 120).bind fun q9 => if (q_b q9) = 0 then ((f_Model_no v2 sp 1).bind fun q17 => some (q17.1, q17.2)) else (if a2 = 0 then (j_Model_foresee_42 z sp a1 a2 v2) else ((f_Model_isIn a2 7 12).bind fun q30 => if (q_b q30) = 0 then ((f_Model_no v2 sp 2).bind fun q38 => some (q38.1, q38.2)) else (j_Model_foresee_42 z sp a1 a2 v2)))
theorem c_Model_foresee {sp : Nat} {a1 : Int32} {a2 : Int32} (hk : isModel sh sp) {q : Int32 × Va} (h : f_Model_foresee z v sp a1 a2 = some q) : MetI l yX14_foresee cX14_foresee 4 (some .int) 59 Γ sh v w n [.ref (Γ.2.1 + 149), .int a1, .int a2] (fun x u => x = q.1 ∧ u = q.2) := by
  unfold f_Model_foresee at h
  refine w_start pn_X14 (Nat.le_of_ble_eq_true rfl) fun p e s m args below meth c hx hb hml hret hlk hnm hts hown hK hP hz hE hS ls hl => ?_
  refine lv_aload_n hx hb dX14_foresee_0 rfl (lv_at hl 0 rfl) ?_
  refine lv_iconst (v := 0) hx hb dX14_foresee_1 rfl ?_
  obtain ⟨v2, e2, h⟩ := bnd_e h
  refine w_pi2 (k := 149) hx hb hts hown hK hP hS hz fX14_40 hk.1 rfl e2 dX14_foresee_2 fun H1 locs1 hz hP hS => ?_
  refine lv_iload_n hx hb dX14_foresee_5 rfl (lv_at hl 1 rfl) ?_
  refine lv_iconst (v := 1) hx hb dX14_foresee_6 rfl ?_
  refine lv_bipush (v := 120) hx hb dX14_foresee_7 rfl ?_
  obtain ⟨q9, e9, h⟩ := obn_e h
  refine z_Si (r1 := (q_b q9)) (v1 := v2) hx hb hml hts hown hK hP hS hz hE (c_Model_isIn  e9) kX14_isIn mX14_46 rfl rfl hl.1 (Nat.le_of_ble_eq_true rfl) ⟨Nat.le_of_ble_eq_true rfl, Nat.le_of_ble_eq_true rfl⟩ ⟨Nat.le_refl _, Nat.le_refl _⟩ dX14_foresee_9 fun H1 locs1 hz hP hS => ?_
  refine lv_if_ne (tgt := 21) hx hb dX14_foresee_12 rfl (fun hc12 => ?_) (fun hc12 => ?_)
  · have h := itf_e h hc12
    refine lv_iload_n hx hb dX14_foresee_21 rfl (lv_at hl 2 rfl) ?_
    have J42 : (j_Model_foresee_42 z sp a1 a2 v2) = some q → ∀ (H1 : Heap) (locs1 : List Loc) (ls1 : Array Slot), lv_has ls1 4 [(0, .ref (Γ.2.1 + 149)), (1, .int a1), (2, .int a2)] → Wd Γ sh v2 w H1 → va_S (gA Γ) s.heap H1 locs1 → H1.size = Γ.2.1 + n → wpI Γ sh w n 59 (fun x u => x = q.1 ∧ u = q.2) p l e s m args below meth c H1 locs1 (F0 m 42 ls1 []) := by
      intro  h H1 locs1 ls hl hP hS hz
      unfold j_Model_foresee_42 at h
      refine lv_aload_n hx hb dX14_foresee_42 rfl (lv_at hl 0 rfl) ?_
      refine w_gr (k := 149) (r := 183) hx hb hts hown hK hP fX14_31 hk.1 rfl dX14_foresee_43 ?_
      refine lv_aload_n hx hb dX14_foresee_46 rfl (lv_at hl 0 rfl) ?_
      refine w_gr (k := 149) (r := 173) hx hb hts hown hK hP fX14_27 hk.1 rfl dX14_foresee_47 ?_
      obtain ⟨q50, e50, h⟩ := obn_e h
      refine z_Vv (k := 183) (v1 := q50) hx hb hml hts hown hK hP hS hz hE (c_State_become hk.2.2.2.2.1 hk.2.2.2.1 e50) kX13_become mX14_455 hk.2.2.2.2.1.1 rfl rfl rfl hl.1 (Nat.le_of_ble_eq_true rfl) ⟨Nat.le_of_ble_eq_true rfl, Nat.le_of_ble_eq_true rfl⟩ ⟨Nat.le_refl _, Nat.le_refl _⟩ dX14_foresee_50 fun H1 locs1 hz hP hS => ?_
      refine lv_aload_n hx hb dX14_foresee_53 rfl (lv_at hl 0 rfl) ?_
      refine lv_aload_n hx hb dX14_foresee_54 rfl (lv_at hl 0 rfl) ?_
      refine w_gr (k := 149) (r := 183) hx hb hts hown hK hP fX14_31 hk.1 rfl dX14_foresee_55 ?_
      refine lv_iload_n hx hb dX14_foresee_58 rfl (lv_at hl 1 rfl) ?_
      obtain ⟨q59, e59, h⟩ := obn_e h
      refine z_Vi (k := 149) (r1 := q59.1) (v1 := q59.2) hx hb hml hts hown hK hP hS hz hE (c_Model_daysOn hk hk.2.2.2.2.1 e59) kX14_daysOn mX14_452 hk.1 rfl rfl rfl hl.1 (Nat.le_of_ble_eq_true rfl) ⟨Nat.le_of_ble_eq_true rfl, Nat.le_of_ble_eq_true rfl⟩ ⟨Nat.le_refl _, Nat.le_refl _⟩ dX14_foresee_59 fun H1 locs1 hz hP hS => ?_
      refine lv_istore_n (lv' := [(3, .int q59.1), (0, .ref (Γ.2.1 + 149)), (1, .int a1), (2, .int a2)]) hx hb dX14_foresee_62 rfl hl (by decide) rfl fun ls hl => ?_
      refine lv_iload_n hx hb dX14_foresee_63 rfl (lv_at hl 3 rfl) ?_
      refine lv_if_ne (tgt := 71) hx hb dX14_foresee_64 rfl (fun hc64 => ?_) (fun hc64 => ?_)
      · have h := itf_e h hc64
        refine lv_aload_n hx hb dX14_foresee_71 rfl (lv_at hl 1 rfl) ?_
        refine lv_aload_n hx hb dX14_foresee_72 rfl (lv_at hl 1 rfl) ?_
        refine w_gr (k := 149) (r := 183) hx hb hts hown hK hP fX14_31 hk.1 rfl dX14_foresee_73 ?_
        refine lv_iload_n hx hb dX14_foresee_76 rfl (lv_at hl 3 rfl) ?_
        obtain ⟨q77, e77, h⟩ := obn_e h
        refine z_Vi (k := 149) (r1 := q77) (v1 := q59.2) hx hb hml hts hown hK hP hS hz hE (c_Model_counted hk hk.2.2.2.2.1 e77) kX14_counted mX14_420 hk.1 rfl rfl rfl hl.1 (Nat.le_of_ble_eq_true rfl) ⟨Nat.le_of_ble_eq_true rfl, Nat.le_of_ble_eq_true rfl⟩ ⟨Nat.le_refl _, Nat.le_refl _⟩ dX14_foresee_77 fun H1 locs1 hz hP hS => ?_
        exact w_iret hx hb hret rfl hlk hK hP hS hz hE (q_p2 h) dX14_foresee_80
      · have h := itt_e h hc64
        refine lv_iload_n hx hb dX14_foresee_67 rfl (lv_at hl 0 rfl) ?_
        refine lv_goto (tgt := 80) hx hb dX14_foresee_68 rfl ?_
        exact w_iret hx hb hret rfl hlk hK hP hS hz hE (q_p2 h) dX14_foresee_80
    refine lv_if_eq (tgt := 42) hx hb dX14_foresee_22 rfl (fun hc22 => ?_) (fun hc22 => ?_)
    · have h := itt_e h hc22
      exact J42 h _ _ _ (lv_sub hl [0, 1, 2] rfl) hP hS hz
    · have h := itf_e h hc22
      refine lv_iload_n hx hb dX14_foresee_25 rfl (lv_at hl 2 rfl) ?_
      refine lv_bipush (v := 7) hx hb dX14_foresee_26 rfl ?_
      refine lv_bipush (v := 12) hx hb dX14_foresee_28 rfl ?_
      obtain ⟨q30, e30, h⟩ := obn_e h
      refine z_Si (r1 := (q_b q30)) (v1 := v2) hx hb hml hts hown hK hP hS hz hE (c_Model_isIn  e30) kX14_isIn mX14_46 rfl rfl hl.1 (Nat.le_of_ble_eq_true rfl) ⟨Nat.le_of_ble_eq_true rfl, Nat.le_of_ble_eq_true rfl⟩ ⟨Nat.le_refl _, Nat.le_refl _⟩ dX14_foresee_30 fun H1 locs1 hz hP hS => ?_
      refine lv_if_ne (tgt := 42) hx hb dX14_foresee_33 rfl (fun hc33 => ?_) (fun hc33 => ?_)
      · have h := itf_e h hc33
        exact J42 h _ _ _ (lv_sub hl [0, 1, 2] rfl) hP hS hz
      · have h := itt_e h hc33
        refine lv_aload_n hx hb dX14_foresee_36 rfl (lv_at hl 0 rfl) ?_
        refine lv_iconst (v := 2) hx hb dX14_foresee_37 rfl ?_
        obtain ⟨q38, e38, h⟩ := obn_e h
        refine z_Vi (k := 149) (r1 := q38.1) (v1 := q38.2) hx hb hml hts hown hK hP hS hz hE (c_Model_no hk e38) kX14_no mX14_403 hk.1 rfl rfl rfl hl.1 (Nat.le_of_ble_eq_true rfl) ⟨Nat.le_of_ble_eq_true rfl, Nat.le_of_ble_eq_true rfl⟩ ⟨Nat.le_refl _, Nat.le_refl _⟩ dX14_foresee_38 fun H1 locs1 hz hP hS => ?_
        exact w_iret hx hb hret rfl hlk hK hP hS hz hE (q_p2 h) dX14_foresee_41
  · have h := itt_e h hc12
    refine lv_aload_n hx hb dX14_foresee_15 rfl (lv_at hl 0 rfl) ?_
    refine lv_iconst (v := 1) hx hb dX14_foresee_16 rfl ?_
    obtain ⟨q17, e17, h⟩ := obn_e h
    refine z_Vi (k := 149) (r1 := q17.1) (v1 := q17.2) hx hb hml hts hown hK hP hS hz hE (c_Model_no hk e17) kX14_no mX14_403 hk.1 rfl rfl rfl hl.1 (Nat.le_of_ble_eq_true rfl) ⟨Nat.le_of_ble_eq_true rfl, Nat.le_of_ble_eq_true rfl⟩ ⟨Nat.le_refl _, Nat.le_refl _⟩ dX14_foresee_17 fun H1 locs1 hz hP hS => ?_
    exact w_iret hx hb hret rfl hlk hK hP hS hz hE (q_p2 h) dX14_foresee_20
def b_Model_costs_52 (z : Nat) (sp : Nat) (a1 : Int32) (K52 : (Int32 × Va) → Option (Int32 × Va)) (t52 : Int32 × Va) : Option (Int32 × Va) := if a1 ≤ t52.1 then ((f_Model_weightOf z t52.2 sp 173).bind fun q76 => (f_Model_weightOf z t52.2 sp 183).bind fun q84 => some ((q76 - q84), t52.2)) else ((f_Model_lose z t52.2 sp 183).bind fun q62 => K52 ((t52.1 + 1), q62))
def j_Model_costs_25 (sp : Nat) (v2 : Va) : Option (Int32 × Va) := (f_Model_no v2 sp 1).bind fun q27 => some (q27.1, q27.2)
def f_Model_costs (z : Nat) (v : Va) (sp : Nat) (a1 : Int32) (a2 : Int32) : Option (Int32 × Va) := bnd (pu v 149 0 0) fun v2 => (f_Model_isIn a1 1 90).bind fun q9 => if (q_b q9) = 0 then (j_Model_costs_25 sp v2) else ((f_Model_isIn a2 0 9).bind fun q19 => if (q_b q19) = 0 then (j_Model_costs_25 sp v2) else ((f_State_become v2 183 173).bind fun q39 => bnd (pu q39 183 1 a2) fun v47 => rp (b_Model_costs_52 z sp a1) z (0, v47)))
theorem c_Model_costs {sp : Nat} {a1 : Int32} {a2 : Int32} (hk : isModel sh sp) {q : Int32 × Va} (h : f_Model_costs z v sp a1 a2 = some q) : MetI l yX14_costs cX14_costs 4 (some .int) 3 Γ sh v w n [.ref (Γ.2.1 + 149), .int a1, .int a2] (fun x u => x = q.1 ∧ u = q.2) := by
  unfold f_Model_costs at h
  refine w_start pn_X14 (Nat.le_of_ble_eq_true rfl) fun p e s m args below meth c hx hb hml hret hlk hnm hts hown hK hP hz hE hS ls hl => ?_
  refine lv_aload_n hx hb dX14_costs_0 rfl (lv_at hl 0 rfl) ?_
  refine lv_iconst (v := 0) hx hb dX14_costs_1 rfl ?_
  obtain ⟨v2, e2, h⟩ := bnd_e h
  refine w_pi2 (k := 149) hx hb hts hown hK hP hS hz fX14_40 hk.1 rfl e2 dX14_costs_2 fun H1 locs1 hz hP hS => ?_
  refine lv_iload_n hx hb dX14_costs_5 rfl (lv_at hl 1 rfl) ?_
  refine lv_iconst (v := 1) hx hb dX14_costs_6 rfl ?_
  refine lv_bipush (v := 90) hx hb dX14_costs_7 rfl ?_
  obtain ⟨q9, e9, h⟩ := obn_e h
  refine z_Si (r1 := (q_b q9)) (v1 := v2) hx hb hml hts hown hK hP hS hz hE (c_Model_isIn  e9) kX14_isIn mX14_46 rfl rfl hl.1 (Nat.le_of_ble_eq_true rfl) ⟨Nat.le_of_ble_eq_true rfl, Nat.le_of_ble_eq_true rfl⟩ ⟨Nat.le_refl _, Nat.le_refl _⟩ dX14_costs_9 fun H1 locs1 hz hP hS => ?_
  have J25 : (j_Model_costs_25 sp v2) = some q → ∀ (H1 : Heap) (locs1 : List Loc) (ls1 : Array Slot), lv_has ls1 4 [(0, .ref (Γ.2.1 + 149))] → Wd Γ sh v2 w H1 → va_S (gA Γ) s.heap H1 locs1 → H1.size = Γ.2.1 + n → wpI Γ sh w n 3 (fun x u => x = q.1 ∧ u = q.2) p l e s m args below meth c H1 locs1 (F0 m 25 ls1 []) := by
    intro  h H1 locs1 ls hl hP hS hz
    unfold j_Model_costs_25 at h
    refine lv_aload_n hx hb dX14_costs_25 rfl (lv_at hl 0 rfl) ?_
    refine lv_iconst (v := 1) hx hb dX14_costs_26 rfl ?_
    obtain ⟨q27, e27, h⟩ := obn_e h
    refine z_Vi (k := 149) (r1 := q27.1) (v1 := q27.2) hx hb hml hts hown hK hP hS hz hE (c_Model_no hk e27) kX14_no mX14_403 hk.1 rfl rfl rfl hl.1 (Nat.le_of_ble_eq_true rfl) ⟨Nat.le_of_ble_eq_true rfl, Nat.le_of_ble_eq_true rfl⟩ ⟨Nat.le_refl _, Nat.le_refl _⟩ dX14_costs_27 fun H1 locs1 hz hP hS => ?_
    exact w_iret hx hb hret rfl hlk hK hP hS hz hE (q_p2 h) dX14_costs_30
  refine lv_if_eq (tgt := 25) hx hb dX14_costs_12 rfl (fun hc12 => ?_) (fun hc12 => ?_)
  · have h := itt_e h hc12
    exact J25 h _ _ _ (lv_sub hl [0] rfl) hP hS hz
  · have h := itf_e h hc12
    refine lv_iload_n hx hb dX14_costs_15 rfl (lv_at hl 2 rfl) ?_
    refine lv_iconst (v := 0) hx hb dX14_costs_16 rfl ?_
    refine lv_bipush (v := 9) hx hb dX14_costs_17 rfl ?_
    obtain ⟨q19, e19, h⟩ := obn_e h
    refine z_Si (r1 := (q_b q19)) (v1 := v2) hx hb hml hts hown hK hP hS hz hE (c_Model_isIn  e19) kX14_isIn mX14_46 rfl rfl hl.1 (Nat.le_of_ble_eq_true rfl) ⟨Nat.le_of_ble_eq_true rfl, Nat.le_of_ble_eq_true rfl⟩ ⟨Nat.le_refl _, Nat.le_refl _⟩ dX14_costs_19 fun H1 locs1 hz hP hS => ?_
    refine lv_if_ne (tgt := 31) hx hb dX14_costs_22 rfl (fun hc22 => ?_) (fun hc22 => ?_)
    · have h := itf_e h hc22
      refine lv_aload_n hx hb dX14_costs_31 rfl (lv_at hl 0 rfl) ?_
      refine w_gr (k := 149) (r := 183) hx hb hts hown hK hP fX14_31 hk.1 rfl dX14_costs_32 ?_
      refine lv_aload_n hx hb dX14_costs_35 rfl (lv_at hl 0 rfl) ?_
      refine w_gr (k := 149) (r := 173) hx hb hts hown hK hP fX14_27 hk.1 rfl dX14_costs_36 ?_
      obtain ⟨q39, e39, h⟩ := obn_e h
      refine z_Vv (k := 183) (v1 := q39) hx hb hml hts hown hK hP hS hz hE (c_State_become hk.2.2.2.2.1 hk.2.2.2.1 e39) kX13_become mX14_455 hk.2.2.2.2.1.1 rfl rfl rfl hl.1 (Nat.le_of_ble_eq_true rfl) ⟨Nat.le_of_ble_eq_true rfl, Nat.le_of_ble_eq_true rfl⟩ ⟨Nat.le_refl _, Nat.le_refl _⟩ dX14_costs_39 fun H1 locs1 hz hP hS => ?_
      refine lv_aload_n hx hb dX14_costs_42 rfl (lv_at hl 0 rfl) ?_
      refine w_gr (k := 149) (r := 183) hx hb hts hown hK hP fX14_31 hk.1 rfl dX14_costs_43 ?_
      refine lv_iload_n hx hb dX14_costs_46 rfl (lv_at hl 2 rfl) ?_
      obtain ⟨v47, e47, h⟩ := bnd_e h
      refine w_pi2 (k := 183) hx hb hts hown hK hP hS hz fX14_311 hk.2.2.2.2.1.1 rfl e47 dX14_costs_47 fun H1 locs1 hz hP hS => ?_
      refine lv_iconst (v := 0) hx hb dX14_costs_50 rfl ?_
      refine lv_istore_n (lv' := [(3, .int 0), (0, .ref (Γ.2.1 + 149)), (1, .int a1), (2, .int a2)]) hx hb dX14_costs_51 rfl hl (by decide) rfl fun ls hl => ?_
      have L52 : ∀ (fu : Nat) (t52 : Int32 × Va), rp (b_Model_costs_52 z sp a1) fu t52 = some q → ∀ (H1 : Heap) (locs1 : List Loc) (ls1 : Array Slot), lv_has ls1 4 [(0, .ref (Γ.2.1 + 149)), (1, .int a1), (3, .int t52.1)] → Wd Γ sh t52.2 w H1 → va_S (gA Γ) s.heap H1 locs1 → H1.size = Γ.2.1 + n → wpI Γ sh w n 3 (fun x u => x = q.1 ∧ u = q.2) p l e s m args below meth c H1 locs1 (F0 m 52 ls1 []) := by
        refine q_loop (fun K52 ih52 t52 h H1 locs1 ls hl hP hS hz => ?_)
        unfold b_Model_costs_52 at h
        refine lv_iload_n hx hb dX14_costs_52 rfl (lv_at hl 2 rfl) ?_
        refine lv_iload_n hx hb dX14_costs_53 rfl (lv_at hl 1 rfl) ?_
        refine lv_icmp_ge (tgt := 71) hx hb dX14_costs_54 rfl (fun hc54 => ?_) (fun hc54 => ?_)
        · have h := itt_e h hc54
          refine lv_aload_n hx hb dX14_costs_71 rfl (lv_at hl 0 rfl) ?_
          refine lv_aload_n hx hb dX14_costs_72 rfl (lv_at hl 0 rfl) ?_
          refine w_gr (k := 149) (r := 173) hx hb hts hown hK hP fX14_27 hk.1 rfl dX14_costs_73 ?_
          obtain ⟨q76, e76, h⟩ := obn_e h
          refine z_Vi (k := 149) (r1 := q76) (v1 := t52.2) hx hb hml hts hown hK hP hS hz hE (c_Model_weightOf hk hk.2.2.2.1 e76) kX14_weightOf mX14_397 hk.1 rfl rfl rfl hl.1 (Nat.le_of_ble_eq_true rfl) ⟨Nat.le_of_ble_eq_true rfl, Nat.le_of_ble_eq_true rfl⟩ ⟨Nat.le_refl _, Nat.le_refl _⟩ dX14_costs_76 fun H1 locs1 hz hP hS => ?_
          refine lv_aload_n hx hb dX14_costs_79 rfl (lv_at hl 0 rfl) ?_
          refine lv_aload_n hx hb dX14_costs_80 rfl (lv_at hl 0 rfl) ?_
          refine w_gr (k := 149) (r := 183) hx hb hts hown hK hP fX14_31 hk.1 rfl dX14_costs_81 ?_
          obtain ⟨q84, e84, h⟩ := obn_e h
          refine z_Vi (k := 149) (r1 := q84) (v1 := t52.2) hx hb hml hts hown hK hP hS hz hE (c_Model_weightOf hk hk.2.2.2.2.1 e84) kX14_weightOf mX14_397 hk.1 rfl rfl rfl hl.1 (Nat.le_of_ble_eq_true rfl) ⟨Nat.le_of_ble_eq_true rfl, Nat.le_of_ble_eq_true rfl⟩ ⟨Nat.le_refl _, Nat.le_refl _⟩ dX14_costs_84 fun H1 locs1 hz hP hS => ?_
          refine lv_isub hx hb dX14_costs_87 ?_
          exact w_iret hx hb hret rfl hlk hK hP hS hz hE (q_p2 h) dX14_costs_88
        · have h := itf_e h hc54
          refine lv_aload_n hx hb dX14_costs_57 rfl (lv_at hl 0 rfl) ?_
          refine lv_aload_n hx hb dX14_costs_58 rfl (lv_at hl 0 rfl) ?_
          refine w_gr (k := 149) (r := 183) hx hb hts hown hK hP fX14_31 hk.1 rfl dX14_costs_59 ?_
          obtain ⟨q62, e62, h⟩ := obn_e h
          refine z_Vv (k := 149) (v1 := q62) hx hb hml hts hown hK hP hS hz hE (c_Model_lose hk hk.2.2.2.2.1 e62) kX14_lose mX14_385 hk.1 rfl rfl rfl hl.1 (Nat.le_of_ble_eq_true rfl) ⟨Nat.le_of_ble_eq_true rfl, Nat.le_of_ble_eq_true rfl⟩ ⟨Nat.le_refl _, Nat.le_refl _⟩ dX14_costs_62 fun H1 locs1 hz hP hS => ?_
          refine lv_iinc (k := 2) (v := (t52.1 + 1)) (lv' := [(3, .int (t52.1 + 1)), (0, .ref (Γ.2.1 + 149)), (1, .int a1)]) hx hb dX14_costs_65 hl rfl rfl (by decide) rfl fun ls hl => ?_
          refine lv_goto (tgt := 52) hx hb dX14_costs_68 rfl ?_
          exact ih52 ((t52.1 + 1), q62) h _ _ _ (lv_sub hl [1, 2, 0] rfl) hP hS hz
      exact L52 z (0, v47) h _ _ _ (lv_sub hl [1, 2, 0] rfl) hP hS hz
    · have h := itt_e h hc22
      exact J25 h _ _ _ (lv_sub hl [0] rfl) hP hS hz
def f_Model_wealth (z : Nat) (v : Va) (k1 : Nat) (a2 : Int32) : Option Int32 := if a2 < 0 ∨ 6 ≤ a2.toNatClampNeg then none else (f_State_owed z v k1 a2).bind fun q8 => (f_State_debts z v k1 a2).bind fun q14 => some (((v (k1 + 6) a2.toNatClampNeg) + q8) - q14)
theorem c_Model_wealth {k1 : Nat} {a2 : Int32} (hk1 : isState sh k1) {q : Int32} (h : f_Model_wealth z v k1 a2 = some q) : MetI l yX14_wealth cX14_wealth 2 (some .int) 2 Γ sh v w n [.ref (Γ.2.1 + k1), .int a2] (fun x u => x = q ∧ u = v) := by
  unfold f_Model_wealth at h
  refine w_start pn_X14 (Nat.le_of_ble_eq_true rfl) fun p e s m args below meth c hx hb hml hret hlk hnm hts hown hK hP hz hE hS ls hl => ?_
  refine lv_aload_n hx hb dX14_wealth_0 rfl (lv_at hl 0 rfl) ?_
  refine w_gr (k := k1) (r := (k1 + 6)) hx hb hts hown hK hP fX14_304 hk1.1 rfl dX14_wealth_1 ?_
  refine lv_iload_n hx hb dX14_wealth_4 rfl (lv_at hl 1 rfl) ?_
  obtain ⟨hn5, h⟩ := itn_e h
  refine w_iald (k := (k1 + 6)) hx hb hK hP hk1.2.2.2.2.2.2.1 hn5 dX14_wealth_5 ?_
  refine lv_aload_n hx hb dX14_wealth_6 rfl (lv_at hl 0 rfl) ?_
  refine lv_iload_n hx hb dX14_wealth_7 rfl (lv_at hl 1 rfl) ?_
  obtain ⟨q8, e8, h⟩ := obn_e h
  refine z_Vi (k := k1) (r1 := q8) (v1 := v) hx hb hml hts hown hK hP hS hz hE (c_State_owed hk1 e8) kX13_owed mX14_429 hk1.1 rfl rfl rfl hl.1 (Nat.le_of_ble_eq_true rfl) ⟨Nat.le_of_ble_eq_true rfl, Nat.le_of_ble_eq_true rfl⟩ ⟨Nat.le_refl _, Nat.le_refl _⟩ dX14_wealth_8 fun H1 locs1 hz hP hS => ?_
  refine lv_iadd hx hb dX14_wealth_11 ?_
  refine lv_aload_n hx hb dX14_wealth_12 rfl (lv_at hl 0 rfl) ?_
  refine lv_iload_n hx hb dX14_wealth_13 rfl (lv_at hl 1 rfl) ?_
  obtain ⟨q14, e14, h⟩ := obn_e h
  refine z_Vi (k := k1) (r1 := q14) (v1 := v) hx hb hml hts hown hK hP hS hz hE (c_State_debts hk1 e14) kX13_debts mX14_305 hk1.1 rfl rfl rfl hl.1 (Nat.le_of_ble_eq_true rfl) ⟨Nat.le_of_ble_eq_true rfl, Nat.le_of_ble_eq_true rfl⟩ ⟨Nat.le_refl _, Nat.le_refl _⟩ dX14_wealth_14 fun H1 locs1 hz hP hS => ?_
  refine lv_isub hx hb dX14_wealth_17 ?_
  exact w_iret hx hb hret rfl hlk hK hP hS hz hE (q_p1 h) dX14_wealth_18
def j_Model_richest_92 (K60 : (Int32 × Int32) → Option (Int32 × Va)) (t60 : Int32 × Int32) (x92_2 : Int32) : Option (Int32 × Va) := K60 (x92_2, (t60.2 + 1))
def b_Model_richest_60 (z : Nat) (sp : Nat) (q38 : Int32 × Va) (K60 : (Int32 × Int32) → Option (Int32 × Va)) (t60 : Int32 × Int32) : Option (Int32 × Va) := if (q38.2 sp 11) ≤ t60.2 then (some (t60.1, q38.2)) else ((f_Model_wealth z q38.2 183 t60.2).bind fun q76 => (f_Model_wealth z q38.2 183 t60.1).bind fun q84 => if q76 ≤ q84 then (j_Model_richest_92 K60 t60 t60.1) else (j_Model_richest_92 K60 t60 t60.2))
def j_Model_richest_57 (z : Nat) (sp : Nat) (q38 : Int32 × Va) (s57_0 : Int32) : Option (Int32 × Va) := rp (b_Model_richest_60 z sp q38) z (s57_0, 1)
def f_Model_richest (z : Nat) (v : Va) (sp : Nat) (a1 : Int32) : Option (Int32 × Va) := bnd (pu v 149 0 0) fun v2 => (f_Model_isIn a1 1 90).bind fun q9 => if (q_b q9) = 0 then ((f_Model_no v2 sp 1).bind fun q17 => some (q17.1, q17.2)) else ((f_State_become v2 183 173).bind fun q29 => (f_Model_daysOn z q29 sp 183 a1).bind fun q38 => if (q38.2 sp 11) = 0 then (j_Model_richest_57 z sp q38 (-1)) else (j_Model_richest_57 z sp q38 0))
theorem c_Model_richest {sp : Nat} {a1 : Int32} (hk : isModel sh sp) {q : Int32 × Va} (h : f_Model_richest z v sp a1 = some q) : MetI l yX14_richest cX14_richest 4 (some .int) 59 Γ sh v w n [.ref (Γ.2.1 + 149), .int a1] (fun x u => x = q.1 ∧ u = q.2) := by
  unfold f_Model_richest at h
  refine w_start pn_X14 (Nat.le_of_ble_eq_true rfl) fun p e s m args below meth c hx hb hml hret hlk hnm hts hown hK hP hz hE hS ls hl => ?_
  refine lv_aload_n hx hb dX14_richest_0 rfl (lv_at hl 0 rfl) ?_
  refine lv_iconst (v := 0) hx hb dX14_richest_1 rfl ?_
  obtain ⟨v2, e2, h⟩ := bnd_e h
  refine w_pi2 (k := 149) hx hb hts hown hK hP hS hz fX14_40 hk.1 rfl e2 dX14_richest_2 fun H1 locs1 hz hP hS => ?_
  refine lv_iload_n hx hb dX14_richest_5 rfl (lv_at hl 1 rfl) ?_
  refine lv_iconst (v := 1) hx hb dX14_richest_6 rfl ?_
  refine lv_bipush (v := 90) hx hb dX14_richest_7 rfl ?_
  obtain ⟨q9, e9, h⟩ := obn_e h
  refine z_Si (r1 := (q_b q9)) (v1 := v2) hx hb hml hts hown hK hP hS hz hE (c_Model_isIn  e9) kX14_isIn mX14_46 rfl rfl hl.1 (Nat.le_of_ble_eq_true rfl) ⟨Nat.le_of_ble_eq_true rfl, Nat.le_of_ble_eq_true rfl⟩ ⟨Nat.le_refl _, Nat.le_refl _⟩ dX14_richest_9 fun H1 locs1 hz hP hS => ?_
  refine lv_if_ne (tgt := 21) hx hb dX14_richest_12 rfl (fun hc12 => ?_) (fun hc12 => ?_)
  · have h := itf_e h hc12
    refine lv_aload_n hx hb dX14_richest_21 rfl (lv_at hl 0 rfl) ?_
    refine w_gr (k := 149) (r := 183) hx hb hts hown hK hP fX14_31 hk.1 rfl dX14_richest_22 ?_
    refine lv_aload_n hx hb dX14_richest_25 rfl (lv_at hl 0 rfl) ?_
    refine w_gr (k := 149) (r := 173) hx hb hts hown hK hP fX14_27 hk.1 rfl dX14_richest_26 ?_
    obtain ⟨q29, e29, h⟩ := obn_e h
    refine z_Vv (k := 183) (v1 := q29) hx hb hml hts hown hK hP hS hz hE (c_State_become hk.2.2.2.2.1 hk.2.2.2.1 e29) kX13_become mX14_455 hk.2.2.2.2.1.1 rfl rfl rfl hl.1 (Nat.le_of_ble_eq_true rfl) ⟨Nat.le_of_ble_eq_true rfl, Nat.le_of_ble_eq_true rfl⟩ ⟨Nat.le_refl _, Nat.le_refl _⟩ dX14_richest_29 fun H1 locs1 hz hP hS => ?_
    refine lv_aload_n hx hb dX14_richest_32 rfl (lv_at hl 0 rfl) ?_
    refine lv_aload_n hx hb dX14_richest_33 rfl (lv_at hl 0 rfl) ?_
    refine w_gr (k := 149) (r := 183) hx hb hts hown hK hP fX14_31 hk.1 rfl dX14_richest_34 ?_
    refine lv_iload_n hx hb dX14_richest_37 rfl (lv_at hl 1 rfl) ?_
    obtain ⟨q38, e38, h⟩ := obn_e h
    refine z_Vi (k := 149) (r1 := q38.1) (v1 := q38.2) hx hb hml hts hown hK hP hS hz hE (c_Model_daysOn hk hk.2.2.2.2.1 e38) kX14_daysOn mX14_452 hk.1 rfl rfl rfl hl.1 (Nat.le_of_ble_eq_true rfl) ⟨Nat.le_of_ble_eq_true rfl, Nat.le_of_ble_eq_true rfl⟩ ⟨Nat.le_refl _, Nat.le_refl _⟩ dX14_richest_38 fun H1 locs1 hz hP hS => ?_
    refine lv_pop hx hb dX14_richest_41 rfl ?_
    refine lv_aload_n hx hb dX14_richest_42 rfl (lv_at hl 0 rfl) ?_
    refine w_gr (k := 149) (r := sp) hx hb hts hown hK hP fX14_20 hk.1 rfl dX14_richest_43 ?_
    refine w_gi (k := sp) hx hb hts hown hK hP fX14_43 hk.2.2.1.1 rfl dX14_richest_46 ?_
    have J57 : ∀ (s57_0 : Int32), (j_Model_richest_57 z sp q38) s57_0 = some q → ∀ (H1 : Heap) (locs1 : List Loc) (ls1 : Array Slot), lv_has ls1 4 [(0, .ref (Γ.2.1 + 149))] → Wd Γ sh q38.2 w H1 → va_S (gA Γ) s.heap H1 locs1 → H1.size = Γ.2.1 + n → wpI Γ sh w n 59 (fun x u => x = q.1 ∧ u = q.2) p l e s m args below meth c H1 locs1 (F0 m 57 ls1 [.int s57_0]) := by
      intro s57_0 h H1 locs1 ls hl hP hS hz
      unfold j_Model_richest_57 at h
      refine lv_istore_n (lv' := [(2, .int s57_0), (0, .ref (Γ.2.1 + 149))]) hx hb dX14_richest_57 rfl hl (by decide) rfl fun ls hl => ?_
      refine lv_iconst (v := 1) hx hb dX14_richest_58 rfl ?_
      refine lv_istore_n (lv' := [(3, .int 1), (2, .int s57_0), (0, .ref (Γ.2.1 + 149))]) hx hb dX14_richest_59 rfl hl (by decide) rfl fun ls hl => ?_
      have L60 : ∀ (fu : Nat) (t60 : Int32 × Int32), rp (b_Model_richest_60 z sp q38) fu t60 = some q → ∀ (H1 : Heap) (locs1 : List Loc) (ls1 : Array Slot), lv_has ls1 4 [(0, .ref (Γ.2.1 + 149)), (2, .int t60.1), (3, .int t60.2)] → Wd Γ sh q38.2 w H1 → va_S (gA Γ) s.heap H1 locs1 → H1.size = Γ.2.1 + n → wpI Γ sh w n 59 (fun x u => x = q.1 ∧ u = q.2) p l e s m args below meth c H1 locs1 (F0 m 60 ls1 []) := by
        refine q_loop (fun K60 ih60 t60 h H1 locs1 ls hl hP hS hz => ?_)
        unfold b_Model_richest_60 at h
        refine lv_iload_n hx hb dX14_richest_60 rfl (lv_at hl 2 rfl) ?_
        refine lv_aload_n hx hb dX14_richest_61 rfl (lv_at hl 0 rfl) ?_
        refine w_gr (k := 149) (r := sp) hx hb hts hown hK hP fX14_20 hk.1 rfl dX14_richest_62 ?_
        refine w_gi (k := sp) hx hb hts hown hK hP fX14_43 hk.2.2.1.1 rfl dX14_richest_65 ?_
        refine lv_icmp_ge (tgt := 98) hx hb dX14_richest_68 rfl (fun hc68 => ?_) (fun hc68 => ?_)
        · have h := itt_e h hc68
          refine lv_iload_n hx hb dX14_richest_98 rfl (lv_at hl 1 rfl) ?_
          exact w_iret hx hb hret rfl hlk hK hP hS hz hE (q_p2 h) dX14_richest_99
        · have h := itf_e h hc68
          refine lv_aload_n hx hb dX14_richest_71 rfl (lv_at hl 0 rfl) ?_
          refine w_gr (k := 149) (r := 183) hx hb hts hown hK hP fX14_31 hk.1 rfl dX14_richest_72 ?_
          refine lv_iload_n hx hb dX14_richest_75 rfl (lv_at hl 2 rfl) ?_
          obtain ⟨q76, e76, h⟩ := obn_e h
          refine z_Si (r1 := q76) (v1 := q38.2) hx hb hml hts hown hK hP hS hz hE (c_Model_wealth hk.2.2.2.2.1 e76) kX14_wealth mX14_458 rfl rfl hl.1 (Nat.le_of_ble_eq_true rfl) ⟨Nat.le_of_ble_eq_true rfl, Nat.le_of_ble_eq_true rfl⟩ ⟨Nat.le_refl _, Nat.le_refl _⟩ dX14_richest_76 fun H1 locs1 hz hP hS => ?_
          refine lv_aload_n hx hb dX14_richest_79 rfl (lv_at hl 0 rfl) ?_
          refine w_gr (k := 149) (r := 183) hx hb hts hown hK hP fX14_31 hk.1 rfl dX14_richest_80 ?_
          refine lv_iload_n hx hb dX14_richest_83 rfl (lv_at hl 1 rfl) ?_
          obtain ⟨q84, e84, h⟩ := obn_e h
          refine z_Si (r1 := q84) (v1 := q38.2) hx hb hml hts hown hK hP hS hz hE (c_Model_wealth hk.2.2.2.2.1 e84) kX14_wealth mX14_458 rfl rfl hl.1 (Nat.le_of_ble_eq_true rfl) ⟨Nat.le_of_ble_eq_true rfl, Nat.le_of_ble_eq_true rfl⟩ ⟨Nat.le_refl _, Nat.le_refl _⟩ dX14_richest_84 fun H1 locs1 hz hP hS => ?_
          have J92 : ∀ (x92_2 : Int32), (j_Model_richest_92 K60 t60) x92_2 = some q → ∀ (H1 : Heap) (locs1 : List Loc) (ls1 : Array Slot), lv_has ls1 4 [(0, .ref (Γ.2.1 + 149)), (2, .int x92_2), (3, .int t60.2)] → Wd Γ sh q38.2 w H1 → va_S (gA Γ) s.heap H1 locs1 → H1.size = Γ.2.1 + n → wpI Γ sh w n 59 (fun x u => x = q.1 ∧ u = q.2) p l e s m args below meth c H1 locs1 (F0 m 92 ls1 []) := by
            intro x92_2 h H1 locs1 ls hl hP hS hz
            unfold j_Model_richest_92 at h
            refine lv_iinc (k := 2) (v := (t60.2 + 1)) (lv' := [(3, .int (t60.2 + 1)), (0, .ref (Γ.2.1 + 149)), (2, .int x92_2)]) hx hb dX14_richest_92 hl rfl rfl (by decide) rfl fun ls hl => ?_
            refine lv_goto (tgt := 60) hx hb dX14_richest_95 rfl ?_
            exact ih60 (x92_2, (t60.2 + 1)) h _ _ _ (lv_sub hl [1, 2, 0] rfl) hP hS hz
          refine lv_icmp_le (tgt := 92) hx hb dX14_richest_87 rfl (fun hc87 => ?_) (fun hc87 => ?_)
          · have h := itt_e h hc87
            exact J92 t60.1 h _ _ _ (lv_sub hl [0, 1, 2] rfl) hP hS hz
          · have h := itf_e h hc87
            refine lv_iload_n hx hb dX14_richest_90 rfl (lv_at hl 2 rfl) ?_
            refine lv_istore_n (lv' := [(2, .int t60.2), (0, .ref (Γ.2.1 + 149)), (3, .int t60.2)]) hx hb dX14_richest_91 rfl hl (by decide) rfl fun ls hl => ?_
            exact J92 t60.2 h _ _ _ (lv_sub hl [1, 0, 2] rfl) hP hS hz
      exact L60 z (s57_0, 1) h _ _ _ (lv_sub hl [2, 1, 0] rfl) hP hS hz
    refine lv_if_ne (tgt := 56) hx hb dX14_richest_49 rfl (fun hc49 => ?_) (fun hc49 => ?_)
    · have h := itf_e h hc49
      refine lv_iconst (v := 0) hx hb dX14_richest_56 rfl ?_
      exact J57 0 h _ _ _ (lv_sub hl [0] rfl) hP hS hz
    · have h := itt_e h hc49
      refine lv_iconst (v := (-1)) hx hb dX14_richest_52 rfl ?_
      refine lv_goto (tgt := 57) hx hb dX14_richest_53 rfl ?_
      exact J57 (-1) h _ _ _ (lv_sub hl [0] rfl) hP hS hz
  · have h := itt_e h hc12
    refine lv_aload_n hx hb dX14_richest_15 rfl (lv_at hl 0 rfl) ?_
    refine lv_iconst (v := 1) hx hb dX14_richest_16 rfl ?_
    obtain ⟨q17, e17, h⟩ := obn_e h
    refine z_Vi (k := 149) (r1 := q17.1) (v1 := q17.2) hx hb hml hts hown hK hP hS hz hE (c_Model_no hk e17) kX14_no mX14_403 hk.1 rfl rfl rfl hl.1 (Nat.le_of_ble_eq_true rfl) ⟨Nat.le_of_ble_eq_true rfl, Nat.le_of_ble_eq_true rfl⟩ ⟨Nat.le_refl _, Nat.le_refl _⟩ dX14_richest_17 fun H1 locs1 hz hP hS => ?_
    exact w_iret hx hb hret rfl hlk hK hP hS hz hE (q_p2 h) dX14_richest_20
def b_Model_until_32 (z : Nat) (sp : Nat) (a1 : Int32) (K32 : (Int32 × Va) → Option (Int32 × Va)) (t32 : Int32 × Va) : Option (Int32 × Va) := if 150 < t32.1 then (some ((-1), t32.2)) else ((f_State_debts z t32.2 183 a1).bind fun q44 => if a1 < 0 ∨ 6 ≤ a1.toNatClampNeg then none else if q44 ≤ (t32.2 (sp + 12) a1.toNatClampNeg) then ((f_Model_dayOn z t32.2 sp 183).bind fun q66 => K32 ((t32.1 + 1), q66.2)) else (some (t32.1, t32.2)))
def f_Model_until (z : Nat) (v : Va) (sp : Nat) (a1 : Int32) : Option (Int32 × Va) := bnd (pu v 149 0 0) fun v2 => (f_Model_isMerchant v2 sp a1).bind fun q7 => if (q_b q7) = 0 then ((f_Model_no v2 sp 1).bind fun q15 => some (q15.1, q15.2)) else ((f_State_become v2 183 173).bind fun q27 => rp (b_Model_until_32 z sp a1) z (0, q27))
theorem c_Model_until {sp : Nat} {a1 : Int32} (hk : isModel sh sp) {q : Int32 × Va} (h : f_Model_until z v sp a1 = some q) : MetI l yX14_until cX14_until 3 (some .int) 58 Γ sh v w n [.ref (Γ.2.1 + 149), .int a1] (fun x u => x = q.1 ∧ u = q.2) := by
  unfold f_Model_until at h
  refine w_start pn_X14 (Nat.le_of_ble_eq_true rfl) fun p e s m args below meth c hx hb hml hret hlk hnm hts hown hK hP hz hE hS ls hl => ?_
  refine lv_aload_n hx hb dX14_until_0 rfl (lv_at hl 0 rfl) ?_
  refine lv_iconst (v := 0) hx hb dX14_until_1 rfl ?_
  obtain ⟨v2, e2, h⟩ := bnd_e h
  refine w_pi2 (k := 149) hx hb hts hown hK hP hS hz fX14_40 hk.1 rfl e2 dX14_until_2 fun H1 locs1 hz hP hS => ?_
  refine lv_aload_n hx hb dX14_until_5 rfl (lv_at hl 0 rfl) ?_
  refine lv_iload_n hx hb dX14_until_6 rfl (lv_at hl 1 rfl) ?_
  obtain ⟨q7, e7, h⟩ := obn_e h
  refine z_Vi (k := 149) (r1 := (q_b q7)) (v1 := v2) hx hb hml hts hown hK hP hS hz hE (c_Model_isMerchant hk e7) kX14_isMerchant mX14_50 hk.1 rfl rfl rfl hl.1 (Nat.le_of_ble_eq_true rfl) ⟨Nat.le_of_ble_eq_true rfl, Nat.le_of_ble_eq_true rfl⟩ ⟨Nat.le_refl _, Nat.le_refl _⟩ dX14_until_7 fun H1 locs1 hz hP hS => ?_
  refine lv_if_ne (tgt := 19) hx hb dX14_until_10 rfl (fun hc10 => ?_) (fun hc10 => ?_)
  · have h := itf_e h hc10
    refine lv_aload_n hx hb dX14_until_19 rfl (lv_at hl 0 rfl) ?_
    refine w_gr (k := 149) (r := 183) hx hb hts hown hK hP fX14_31 hk.1 rfl dX14_until_20 ?_
    refine lv_aload_n hx hb dX14_until_23 rfl (lv_at hl 0 rfl) ?_
    refine w_gr (k := 149) (r := 173) hx hb hts hown hK hP fX14_27 hk.1 rfl dX14_until_24 ?_
    obtain ⟨q27, e27, h⟩ := obn_e h
    refine z_Vv (k := 183) (v1 := q27) hx hb hml hts hown hK hP hS hz hE (c_State_become hk.2.2.2.2.1 hk.2.2.2.1 e27) kX13_become mX14_455 hk.2.2.2.2.1.1 rfl rfl rfl hl.1 (Nat.le_of_ble_eq_true rfl) ⟨Nat.le_of_ble_eq_true rfl, Nat.le_of_ble_eq_true rfl⟩ ⟨Nat.le_refl _, Nat.le_refl _⟩ dX14_until_27 fun H1 locs1 hz hP hS => ?_
    refine lv_iconst (v := 0) hx hb dX14_until_30 rfl ?_
    refine lv_istore_n (lv' := [(2, .int 0), (0, .ref (Γ.2.1 + 149)), (1, .int a1)]) hx hb dX14_until_31 rfl hl (by decide) rfl fun ls hl => ?_
    have L32 : ∀ (fu : Nat) (t32 : Int32 × Va), rp (b_Model_until_32 z sp a1) fu t32 = some q → ∀ (H1 : Heap) (locs1 : List Loc) (ls1 : Array Slot), lv_has ls1 3 [(0, .ref (Γ.2.1 + 149)), (1, .int a1), (2, .int t32.1)] → Wd Γ sh t32.2 w H1 → va_S (gA Γ) s.heap H1 locs1 → H1.size = Γ.2.1 + n → wpI Γ sh w n 58 (fun x u => x = q.1 ∧ u = q.2) p l e s m args below meth c H1 locs1 (F0 m 32 ls1 []) := by
      refine q_loop (fun K32 ih32 t32 h H1 locs1 ls hl hP hS hz => ?_)
      unfold b_Model_until_32 at h
      refine lv_iload_n hx hb dX14_until_32 rfl (lv_at hl 2 rfl) ?_
      refine lv_sipush (v := 150) hx hb dX14_until_33 rfl ?_
      refine lv_icmp_gt (tgt := 76) hx hb dX14_until_36 rfl (fun hc36 => ?_) (fun hc36 => ?_)
      · have h := itt_e h hc36
        refine lv_iconst (v := (-1)) hx hb dX14_until_76 rfl ?_
        exact w_iret hx hb hret rfl hlk hK hP hS hz hE (q_p2 h) dX14_until_77
      · have h := itf_e h hc36
        refine lv_aload_n hx hb dX14_until_39 rfl (lv_at hl 0 rfl) ?_
        refine w_gr (k := 149) (r := 183) hx hb hts hown hK hP fX14_31 hk.1 rfl dX14_until_40 ?_
        refine lv_iload_n hx hb dX14_until_43 rfl (lv_at hl 1 rfl) ?_
        obtain ⟨q44, e44, h⟩ := obn_e h
        refine z_Vi (k := 183) (r1 := q44) (v1 := t32.2) hx hb hml hts hown hK hP hS hz hE (c_State_debts hk.2.2.2.2.1 e44) kX13_debts mX14_305 hk.2.2.2.2.1.1 rfl rfl rfl hl.1 (Nat.le_of_ble_eq_true rfl) ⟨Nat.le_of_ble_eq_true rfl, Nat.le_of_ble_eq_true rfl⟩ ⟨Nat.le_refl _, Nat.le_refl _⟩ dX14_until_44 fun H1 locs1 hz hP hS => ?_
        refine lv_aload_n hx hb dX14_until_47 rfl (lv_at hl 0 rfl) ?_
        refine w_gr (k := 149) (r := sp) hx hb hts hown hK hP fX14_20 hk.1 rfl dX14_until_48 ?_
        refine w_gr (k := sp) (r := (sp + 12)) hx hb hts hown hK hP fX14_233 hk.2.2.1.1 rfl dX14_until_51 ?_
        refine lv_iload_n hx hb dX14_until_54 rfl (lv_at hl 1 rfl) ?_
        obtain ⟨hn55, h⟩ := itn_e h
        refine w_iald (k := (sp + 12)) hx hb hK hP hk.2.2.1.2.2.2.2.2.2.2.2.2.2.2.2.1 hn55 dX14_until_55 ?_
        refine lv_icmp_le (tgt := 61) hx hb dX14_until_56 rfl (fun hc56 => ?_) (fun hc56 => ?_)
        · have h := itt_e h hc56
          refine lv_aload_n hx hb dX14_until_61 rfl (lv_at hl 0 rfl) ?_
          refine lv_aload_n hx hb dX14_until_62 rfl (lv_at hl 0 rfl) ?_
          refine w_gr (k := 149) (r := 183) hx hb hts hown hK hP fX14_31 hk.1 rfl dX14_until_63 ?_
          obtain ⟨q66, e66, h⟩ := obn_e h
          refine z_Vi (k := 149) (r1 := q66.1) (v1 := q66.2) hx hb hml hts hown hK hP hS hz hE (c_Model_dayOn hk hk.2.2.2.2.1 e66) kX14_dayOn mX14_393 hk.1 rfl rfl rfl hl.1 (Nat.le_of_ble_eq_true rfl) ⟨Nat.le_of_ble_eq_true rfl, Nat.le_of_ble_eq_true rfl⟩ ⟨Nat.le_refl _, Nat.le_refl _⟩ dX14_until_66 fun H1 locs1 hz hP hS => ?_
          refine lv_pop hx hb dX14_until_69 rfl ?_
          refine lv_iinc (k := 2) (v := (t32.1 + 1)) (lv' := [(2, .int (t32.1 + 1)), (0, .ref (Γ.2.1 + 149)), (1, .int a1)]) hx hb dX14_until_70 hl rfl rfl (by decide) rfl fun ls hl => ?_
          refine lv_goto (tgt := 32) hx hb dX14_until_73 rfl ?_
          exact ih32 ((t32.1 + 1), q66.2) h _ _ _ (lv_sub hl [1, 2, 0] rfl) hP hS hz
        · have h := itf_e h hc56
          refine lv_iload_n hx hb dX14_until_59 rfl (lv_at hl 2 rfl) ?_
          exact w_iret hx hb hret rfl hlk hK hP hS hz hE (q_p2 h) dX14_until_60
    exact L32 z (0, q27) h _ _ _ (lv_sub hl [1, 2, 0] rfl) hP hS hz
  · have h := itt_e h hc10
    refine lv_aload_n hx hb dX14_until_13 rfl (lv_at hl 0 rfl) ?_
    refine lv_iconst (v := 1) hx hb dX14_until_14 rfl ?_
    obtain ⟨q15, e15, h⟩ := obn_e h
    refine z_Vi (k := 149) (r1 := q15.1) (v1 := q15.2) hx hb hml hts hown hK hP hS hz hE (c_Model_no hk e15) kX14_no mX14_403 hk.1 rfl rfl rfl hl.1 (Nat.le_of_ble_eq_true rfl) ⟨Nat.le_of_ble_eq_true rfl, Nat.le_of_ble_eq_true rfl⟩ ⟨Nat.le_refl _, Nat.le_refl _⟩ dX14_until_15 fun H1 locs1 hz hP hS => ?_
    exact w_iret hx hb hret rfl hlk hK hP hS hz hE (q_p2 h) dX14_until_18
def b_Model_digest_243 (z : Nat) (sp : Nat) (K229 : (Int64 × Int32 × Va) → Option (Int64 × Va)) (t229 : Int64 × Int32 × Va) (K243 : (Int64 × Int32 × Va) → Option (Int64 × Va)) (t243 : Int64 × Int32 × Va) : Option (Int64 × Va) := if 4 < t243.2.1 then (K229 (t243.1, (t229.2.1 + 1), t243.2.2)) else ((f_Model_orderTold z t243.2.2 sp t229.2.1 t243.2.1).bind fun q258 => K243 (((t243.1 * 31) + (q258.1.toInt64)), (t243.2.1 + 1), q258.2))
def b_Model_digest_229 (z : Nat) (sp : Nat) (K229 : (Int64 × Int32 × Va) → Option (Int64 × Va)) (t229 : Int64 × Int32 × Va) : Option (Int64 × Va) := if (t229.2.2 sp 20) ≤ t229.2.1 then (some (t229.1, t229.2.2)) else (rp (b_Model_digest_243 z sp K229 t229) z (t229.1, 0, t229.2.2))
def b_Model_digest_194 (z : Nat) (sp : Nat) (v2 : Va) (K180 : (Int64 × Int32) → Option (Int64 × Va)) (t180 : Int64 × Int32) (K194 : (Int64 × Int32) → Option (Int64 × Va)) (t194 : Int64 × Int32) : Option (Int64 × Va) := if 3 < t194.2 then (K180 (t194.1, (t180.2 + 1))) else ((f_Model_guildTold z v2 sp t180.2 t194.2).bind fun q209 => K194 (((t194.1 * 31) + (q209.toInt64)), (t194.2 + 1)))
def b_Model_digest_180 (z : Nat) (sp : Nat) (v2 : Va) (K180 : (Int64 × Int32) → Option (Int64 × Va)) (t180 : Int64 × Int32) : Option (Int64 × Va) := if (v2 sp 7) ≤ t180.2 then (rp (b_Model_digest_229 z sp) z (t180.1, 0, v2)) else (rp (b_Model_digest_194 z sp v2 K180 t180) z (t180.1, 0))
def b_Model_digest_136 (sp : Nat) (v2 : Va) (K92 : (Int64 × Int32) → Option (Int64 × Va)) (t92 : Int64 × Int32) (K136 : (Int64 × Int32) → Option (Int64 × Va)) (t136 : Int64 × Int32) : Option (Int64 × Va) := if (v2 sp 11) ≤ t136.2 then (K92 (t136.1, (t92.2 + 1))) else ((f_State_owes v2 173 t92.2 t136.2).bind fun q160 => K136 (((t136.1 * 31) + (q160.toInt64)), (t136.2 + 1)))
def b_Model_digest_106 (z : Nat) (sp : Nat) (v2 : Va) (K92 : (Int64 × Int32) → Option (Int64 × Va)) (t92 : Int64 × Int32) (K106 : (Int64 × Int32) → Option (Int64 × Va)) (t106 : Int64 × Int32) : Option (Int64 × Va) := if 5 < t106.2 then (rp (b_Model_digest_136 sp v2 K92 t92) z (t106.1, 0)) else ((f_Model_merchantTold z v2 sp t92.2 t106.2).bind fun q121 => K106 (((t106.1 * 31) + (q121.toInt64)), (t106.2 + 1)))
def b_Model_digest_92 (z : Nat) (sp : Nat) (v2 : Va) (K92 : (Int64 × Int32) → Option (Int64 × Va)) (t92 : Int64 × Int32) : Option (Int64 × Va) := if (v2 sp 11) ≤ t92.2 then (rp (b_Model_digest_180 z sp v2) z (t92.1, 0)) else (rp (b_Model_digest_106 z sp v2 K92 t92) z (t92.1, 0))
def b_Model_digest_56 (sp : Nat) (v2 : Va) (K42 : (Int64 × Int32) → Option (Int64 × Va)) (t42 : Int64 × Int32) (K56 : (Int64 × Int32) → Option (Int64 × Va)) (t56 : Int64 × Int32) : Option (Int64 × Va) := if 6 < t56.2 then (K42 (t56.1, (t42.2 + 1))) else ((f_Model_lotTold v2 sp t42.2 t56.2).bind fun q72 => K56 (((t56.1 * 31) + (q72.toInt64)), (t56.2 + 1)))
def b_Model_digest_42 (z : Nat) (sp : Nat) (v2 : Va) (K42 : (Int64 × Int32) → Option (Int64 × Va)) (t42 : Int64 × Int32) : Option (Int64 × Va) := if (v2 sp 15) ≤ t42.2 then (rp (b_Model_digest_92 z sp v2) z (t42.1, 0)) else (rp (b_Model_digest_56 sp v2 K42 t42) z (t42.1, 0))
def b_Model_digest_11 (z : Nat) (sp : Nat) (v2 : Va) (K11 : (Int64 × Int32) → Option (Int64 × Va)) (t11 : Int64 × Int32) : Option (Int64 × Va) := if 13 < t11.2 then (rp (b_Model_digest_42 z sp v2) z (t11.1, 0)) else ((f_Model_counted z v2 sp 173 t11.2).bind fun q28 => K11 (((t11.1 * 31) + (q28.toInt64)), (t11.2 + 1)))
def f_Model_digest (z : Nat) (v : Va) (sp : Nat) : Option (Int64 × Va) := bnd (pu v 149 0 0) fun v2 => rp (b_Model_digest_11 z sp v2) z (829, 0)
theorem c_Model_digest {sp : Nat} (hk : isModel sh sp) {q : Int64 × Va} (h : f_Model_digest z v sp = some q) : MetL l yX14_digest cX14_digest 5 (some .long) 57 Γ sh v w n [.ref (Γ.2.1 + 149)] (fun x u => x = q.1 ∧ u = q.2) := by
  unfold f_Model_digest at h
  refine w_start pn_X14 (Nat.le_of_ble_eq_true rfl) fun p e s m args below meth c hx hb hml hret hlk hnm hts hown hK hP hz hE hS ls hl => ?_
  refine lv_aload_n hx hb dX14_digest_0 rfl (lv_at hl 0 rfl) ?_
  refine lv_iconst (v := 0) hx hb dX14_digest_1 rfl ?_
  obtain ⟨v2, e2, h⟩ := bnd_e h
  refine w_pi2 (k := 149) hx hb hts hown hK hP hS hz fX14_40 hk.1 rfl e2 dX14_digest_2 fun H1 locs1 hz hP hS => ?_
  refine lv_ldc2 hx hb hown (hts _ qX14_461) dX14_digest_5 ?_
  refine lv_lstore_n (lv' := [(1, .long 829), (0, .ref (Γ.2.1 + 149))]) hx hb dX14_digest_8 rfl hl (by decide) rfl fun ls hl => ?_
  refine lv_iconst (v := 0) hx hb dX14_digest_9 rfl ?_
  refine lv_istore_n (lv' := [(3, .int 0), (1, .long 829), (0, .ref (Γ.2.1 + 149))]) hx hb dX14_digest_10 rfl hl (by decide) rfl fun ls hl => ?_
  have L11 : ∀ (fu : Nat) (t11 : Int64 × Int32), rp (b_Model_digest_11 z sp v2) fu t11 = some q → ∀ (H1 : Heap) (locs1 : List Loc) (ls1 : Array Slot), lv_has ls1 5 [(0, .ref (Γ.2.1 + 149)), (1, .long t11.1), (3, .int t11.2)] → Wd Γ sh v2 w H1 → va_S (gA Γ) s.heap H1 locs1 → H1.size = Γ.2.1 + n → wpL Γ sh w n 57 (fun x u => x = q.1 ∧ u = q.2) p l e s m args below meth c H1 locs1 (F0 m 11 ls1 []) := by
    refine q_loop (fun K11 ih11 t11 h H1 locs1 ls hl hP hS hz => ?_)
    unfold b_Model_digest_11 at h
    refine lv_iload_n hx hb dX14_digest_11 rfl (lv_at hl 2 rfl) ?_
    refine lv_bipush (v := 13) hx hb dX14_digest_12 rfl ?_
    refine lv_icmp_gt (tgt := 40) hx hb dX14_digest_14 rfl (fun hc14 => ?_) (fun hc14 => ?_)
    · have h := itt_e h hc14
      refine lv_iconst (v := 0) hx hb dX14_digest_40 rfl ?_
      refine lv_istore_n (lv' := [(3, .int 0), (0, .ref (Γ.2.1 + 149)), (1, .long t11.1)]) hx hb dX14_digest_41 rfl hl (by decide) rfl fun ls hl => ?_
      have L42 : ∀ (fu : Nat) (t42 : Int64 × Int32), rp (b_Model_digest_42 z sp v2) fu t42 = some q → ∀ (H1 : Heap) (locs1 : List Loc) (ls1 : Array Slot), lv_has ls1 5 [(0, .ref (Γ.2.1 + 149)), (1, .long t42.1), (3, .int t42.2)] → Wd Γ sh v2 w H1 → va_S (gA Γ) s.heap H1 locs1 → H1.size = Γ.2.1 + n → wpL Γ sh w n 57 (fun x u => x = q.1 ∧ u = q.2) p l e s m args below meth c H1 locs1 (F0 m 42 ls1 []) := by
        refine q_loop (fun K42 ih42 t42 h H1 locs1 ls hl hP hS hz => ?_)
        unfold b_Model_digest_42 at h
        refine lv_iload_n hx hb dX14_digest_42 rfl (lv_at hl 2 rfl) ?_
        refine lv_aload_n hx hb dX14_digest_43 rfl (lv_at hl 0 rfl) ?_
        refine w_gr (k := 149) (r := sp) hx hb hts hown hK hP fX14_20 hk.1 rfl dX14_digest_44 ?_
        refine w_gi (k := sp) hx hb hts hown hK hP fX14_54 hk.2.2.1.1 rfl dX14_digest_47 ?_
        refine lv_icmp_ge (tgt := 90) hx hb dX14_digest_50 rfl (fun hc50 => ?_) (fun hc50 => ?_)
        · have h := itt_e h hc50
          refine lv_iconst (v := 0) hx hb dX14_digest_90 rfl ?_
          refine lv_istore_n (lv' := [(3, .int 0), (0, .ref (Γ.2.1 + 149)), (1, .long t42.1)]) hx hb dX14_digest_91 rfl hl (by decide) rfl fun ls hl => ?_
          have L92 : ∀ (fu : Nat) (t92 : Int64 × Int32), rp (b_Model_digest_92 z sp v2) fu t92 = some q → ∀ (H1 : Heap) (locs1 : List Loc) (ls1 : Array Slot), lv_has ls1 5 [(0, .ref (Γ.2.1 + 149)), (1, .long t92.1), (3, .int t92.2)] → Wd Γ sh v2 w H1 → va_S (gA Γ) s.heap H1 locs1 → H1.size = Γ.2.1 + n → wpL Γ sh w n 57 (fun x u => x = q.1 ∧ u = q.2) p l e s m args below meth c H1 locs1 (F0 m 92 ls1 []) := by
            refine q_loop (fun K92 ih92 t92 h H1 locs1 ls hl hP hS hz => ?_)
            unfold b_Model_digest_92 at h
            refine lv_iload_n hx hb dX14_digest_92 rfl (lv_at hl 2 rfl) ?_
            refine lv_aload_n hx hb dX14_digest_93 rfl (lv_at hl 0 rfl) ?_
            refine w_gr (k := 149) (r := sp) hx hb hts hown hK hP fX14_20 hk.1 rfl dX14_digest_94 ?_
            refine w_gi (k := sp) hx hb hts hown hK hP fX14_43 hk.2.2.1.1 rfl dX14_digest_97 ?_
            refine lv_icmp_ge (tgt := 178) hx hb dX14_digest_100 rfl (fun hc100 => ?_) (fun hc100 => ?_)
            · have h := itt_e h hc100
              refine lv_iconst (v := 0) hx hb dX14_digest_178 rfl ?_
              refine lv_istore_n (lv' := [(3, .int 0), (0, .ref (Γ.2.1 + 149)), (1, .long t92.1)]) hx hb dX14_digest_179 rfl hl (by decide) rfl fun ls hl => ?_
              have L180 : ∀ (fu : Nat) (t180 : Int64 × Int32), rp (b_Model_digest_180 z sp v2) fu t180 = some q → ∀ (H1 : Heap) (locs1 : List Loc) (ls1 : Array Slot), lv_has ls1 5 [(0, .ref (Γ.2.1 + 149)), (1, .long t180.1), (3, .int t180.2)] → Wd Γ sh v2 w H1 → va_S (gA Γ) s.heap H1 locs1 → H1.size = Γ.2.1 + n → wpL Γ sh w n 57 (fun x u => x = q.1 ∧ u = q.2) p l e s m args below meth c H1 locs1 (F0 m 180 ls1 []) := by
                refine q_loop (fun K180 ih180 t180 h H1 locs1 ls hl hP hS hz => ?_)
                unfold b_Model_digest_180 at h
                refine lv_iload_n hx hb dX14_digest_180 rfl (lv_at hl 2 rfl) ?_
                refine lv_aload_n hx hb dX14_digest_181 rfl (lv_at hl 0 rfl) ?_
                refine w_gr (k := 149) (r := sp) hx hb hts hown hK hP fX14_20 hk.1 rfl dX14_digest_182 ?_
                refine w_gi (k := sp) hx hb hts hown hK hP fX14_174 hk.2.2.1.1 rfl dX14_digest_185 ?_
                refine lv_icmp_ge (tgt := 227) hx hb dX14_digest_188 rfl (fun hc188 => ?_) (fun hc188 => ?_)
                · have h := itt_e h hc188
                  refine lv_iconst (v := 0) hx hb dX14_digest_227 rfl ?_
                  refine lv_istore_n (lv' := [(3, .int 0), (0, .ref (Γ.2.1 + 149)), (1, .long t180.1)]) hx hb dX14_digest_228 rfl hl (by decide) rfl fun ls hl => ?_
                  have L229 : ∀ (fu : Nat) (t229 : Int64 × Int32 × Va), rp (b_Model_digest_229 z sp) fu t229 = some q → ∀ (H1 : Heap) (locs1 : List Loc) (ls1 : Array Slot), lv_has ls1 5 [(0, .ref (Γ.2.1 + 149)), (1, .long t229.1), (3, .int t229.2.1)] → Wd Γ sh t229.2.2 w H1 → va_S (gA Γ) s.heap H1 locs1 → H1.size = Γ.2.1 + n → wpL Γ sh w n 57 (fun x u => x = q.1 ∧ u = q.2) p l e s m args below meth c H1 locs1 (F0 m 229 ls1 []) := by
                    refine q_loop (fun K229 ih229 t229 h H1 locs1 ls hl hP hS hz => ?_)
                    unfold b_Model_digest_229 at h
                    refine lv_iload_n hx hb dX14_digest_229 rfl (lv_at hl 2 rfl) ?_
                    refine lv_aload_n hx hb dX14_digest_230 rfl (lv_at hl 0 rfl) ?_
                    refine w_gr (k := 149) (r := sp) hx hb hts hown hK hP fX14_20 hk.1 rfl dX14_digest_231 ?_
                    refine w_gi (k := sp) hx hb hts hown hK hP fX14_208 hk.2.2.1.1 rfl dX14_digest_234 ?_
                    refine lv_icmp_ge (tgt := 276) hx hb dX14_digest_237 rfl (fun hc237 => ?_) (fun hc237 => ?_)
                    · have h := itt_e h hc237
                      refine lv_lload_n hx hb dX14_digest_276 rfl (lv_at hl 1 rfl) ?_
                      exact w_lret hx hb hret hlk hK hP hS hz hE (q_p2 h) dX14_digest_277
                    · have h := itf_e h hc237
                      refine lv_iconst (v := 0) hx hb dX14_digest_240 rfl ?_
                      refine lv_istore (lv' := [(4, .int 0), (0, .ref (Γ.2.1 + 149)), (1, .long t229.1), (3, .int t229.2.1)]) hx hb dX14_digest_241 hl (by decide) rfl fun ls hl => ?_
                      have L243 : ∀ (fu : Nat) (t243 : Int64 × Int32 × Va), rp (b_Model_digest_243 z sp K229 t229) fu t243 = some q → ∀ (H1 : Heap) (locs1 : List Loc) (ls1 : Array Slot), lv_has ls1 5 [(0, .ref (Γ.2.1 + 149)), (1, .long t243.1), (3, .int t229.2.1), (4, .int t243.2.1)] → Wd Γ sh t243.2.2 w H1 → va_S (gA Γ) s.heap H1 locs1 → H1.size = Γ.2.1 + n → wpL Γ sh w n 57 (fun x u => x = q.1 ∧ u = q.2) p l e s m args below meth c H1 locs1 (F0 m 243 ls1 []) := by
                        refine q_loop (fun K243 ih243 t243 h H1 locs1 ls hl hP hS hz => ?_)
                        unfold b_Model_digest_243 at h
                        refine lv_iload hx hb dX14_digest_243 (lv_at hl 3 rfl) ?_
                        refine lv_iconst (v := 4) hx hb dX14_digest_245 rfl ?_
                        refine lv_icmp_gt (tgt := 270) hx hb dX14_digest_246 rfl (fun hc246 => ?_) (fun hc246 => ?_)
                        · have h := itt_e h hc246
                          refine lv_iinc (k := 2) (v := (t229.2.1 + 1)) (lv' := [(3, .int (t229.2.1 + 1)), (0, .ref (Γ.2.1 + 149)), (1, .long t243.1), (4, .int t243.2.1)]) hx hb dX14_digest_270 hl rfl rfl (by decide) rfl fun ls hl => ?_
                          refine lv_goto (tgt := 229) hx hb dX14_digest_273 rfl ?_
                          exact ih229 (t243.1, (t229.2.1 + 1), t243.2.2) h _ _ _ (lv_sub hl [1, 2, 0] rfl) hP hS hz
                        · have h := itf_e h hc246
                          refine lv_lload_n hx hb dX14_digest_249 rfl (lv_at hl 1 rfl) ?_
                          refine lv_ldc2 hx hb hown (hts _ qX14_463) dX14_digest_250 ?_
                          refine lv_lmul hx hb dX14_digest_253 ?_
                          refine lv_aload_n hx hb dX14_digest_254 rfl (lv_at hl 0 rfl) ?_
                          refine lv_iload_n hx hb dX14_digest_255 rfl (lv_at hl 2 rfl) ?_
                          refine lv_iload hx hb dX14_digest_256 (lv_at hl 3 rfl) ?_
                          obtain ⟨q258, e258, h⟩ := obn_e h
                          refine z_Vi (k := 149) (r1 := q258.1) (v1 := q258.2) hx hb hml hts hown hK hP hS hz hE (c_Model_orderTold hk e258) kX14_orderTold mX14_442 hk.1 rfl rfl rfl hl.1 (Nat.le_of_ble_eq_true rfl) ⟨Nat.le_of_ble_eq_true rfl, Nat.le_of_ble_eq_true rfl⟩ ⟨Nat.le_refl _, Nat.le_refl _⟩ dX14_digest_258 fun H1 locs1 hz hP hS => ?_
                          refine lv_i2l (v := (q258.1.toInt64)) hx hb dX14_digest_261 rfl ?_
                          refine lv_ladd hx hb dX14_digest_262 ?_
                          refine lv_lstore_n (lv' := [(1, .long ((t243.1 * 31) + (q258.1.toInt64))), (0, .ref (Γ.2.1 + 149)), (3, .int t229.2.1), (4, .int t243.2.1)]) hx hb dX14_digest_263 rfl hl (by decide) rfl fun ls hl => ?_
                          refine lv_iinc (k := 3) (v := (t243.2.1 + 1)) (lv' := [(4, .int (t243.2.1 + 1)), (1, .long ((t243.1 * 31) + (q258.1.toInt64))), (0, .ref (Γ.2.1 + 149)), (3, .int t229.2.1)]) hx hb dX14_digest_264 hl rfl rfl (by decide) rfl fun ls hl => ?_
                          refine lv_goto (tgt := 243) hx hb dX14_digest_267 rfl ?_
                          exact ih243 (((t243.1 * 31) + (q258.1.toInt64)), (t243.2.1 + 1), q258.2) h _ _ _ (lv_sub hl [2, 1, 3, 0] rfl) hP hS hz
                      exact L243 z (t229.1, 0, t229.2.2) h _ _ _ (lv_sub hl [1, 2, 3, 0] rfl) hP hS hz
                  exact L229 z (t180.1, 0, v2) h _ _ _ (lv_sub hl [1, 2, 0] rfl) hP hS hz
                · have h := itf_e h hc188
                  refine lv_iconst (v := 0) hx hb dX14_digest_191 rfl ?_
                  refine lv_istore (lv' := [(4, .int 0), (0, .ref (Γ.2.1 + 149)), (1, .long t180.1), (3, .int t180.2)]) hx hb dX14_digest_192 hl (by decide) rfl fun ls hl => ?_
                  have L194 : ∀ (fu : Nat) (t194 : Int64 × Int32), rp (b_Model_digest_194 z sp v2 K180 t180) fu t194 = some q → ∀ (H1 : Heap) (locs1 : List Loc) (ls1 : Array Slot), lv_has ls1 5 [(0, .ref (Γ.2.1 + 149)), (1, .long t194.1), (3, .int t180.2), (4, .int t194.2)] → Wd Γ sh v2 w H1 → va_S (gA Γ) s.heap H1 locs1 → H1.size = Γ.2.1 + n → wpL Γ sh w n 57 (fun x u => x = q.1 ∧ u = q.2) p l e s m args below meth c H1 locs1 (F0 m 194 ls1 []) := by
                    refine q_loop (fun K194 ih194 t194 h H1 locs1 ls hl hP hS hz => ?_)
                    unfold b_Model_digest_194 at h
                    refine lv_iload hx hb dX14_digest_194 (lv_at hl 3 rfl) ?_
                    refine lv_iconst (v := 3) hx hb dX14_digest_196 rfl ?_
                    refine lv_icmp_gt (tgt := 221) hx hb dX14_digest_197 rfl (fun hc197 => ?_) (fun hc197 => ?_)
                    · have h := itt_e h hc197
                      refine lv_iinc (k := 2) (v := (t180.2 + 1)) (lv' := [(3, .int (t180.2 + 1)), (0, .ref (Γ.2.1 + 149)), (1, .long t194.1), (4, .int t194.2)]) hx hb dX14_digest_221 hl rfl rfl (by decide) rfl fun ls hl => ?_
                      refine lv_goto (tgt := 180) hx hb dX14_digest_224 rfl ?_
                      exact ih180 (t194.1, (t180.2 + 1)) h _ _ _ (lv_sub hl [1, 2, 0] rfl) hP hS hz
                    · have h := itf_e h hc197
                      refine lv_lload_n hx hb dX14_digest_200 rfl (lv_at hl 1 rfl) ?_
                      refine lv_ldc2 hx hb hown (hts _ qX14_463) dX14_digest_201 ?_
                      refine lv_lmul hx hb dX14_digest_204 ?_
                      refine lv_aload_n hx hb dX14_digest_205 rfl (lv_at hl 0 rfl) ?_
                      refine lv_iload_n hx hb dX14_digest_206 rfl (lv_at hl 2 rfl) ?_
                      refine lv_iload hx hb dX14_digest_207 (lv_at hl 3 rfl) ?_
                      obtain ⟨q209, e209, h⟩ := obn_e h
                      refine z_Vi (k := 149) (r1 := q209) (v1 := v2) hx hb hml hts hown hK hP hS hz hE (c_Model_guildTold hk e209) kX14_guildTold mX14_439 hk.1 rfl rfl rfl hl.1 (Nat.le_of_ble_eq_true rfl) ⟨Nat.le_of_ble_eq_true rfl, Nat.le_of_ble_eq_true rfl⟩ ⟨Nat.le_refl _, Nat.le_refl _⟩ dX14_digest_209 fun H1 locs1 hz hP hS => ?_
                      refine lv_i2l (v := (q209.toInt64)) hx hb dX14_digest_212 rfl ?_
                      refine lv_ladd hx hb dX14_digest_213 ?_
                      refine lv_lstore_n (lv' := [(1, .long ((t194.1 * 31) + (q209.toInt64))), (0, .ref (Γ.2.1 + 149)), (3, .int t180.2), (4, .int t194.2)]) hx hb dX14_digest_214 rfl hl (by decide) rfl fun ls hl => ?_
                      refine lv_iinc (k := 3) (v := (t194.2 + 1)) (lv' := [(4, .int (t194.2 + 1)), (1, .long ((t194.1 * 31) + (q209.toInt64))), (0, .ref (Γ.2.1 + 149)), (3, .int t180.2)]) hx hb dX14_digest_215 hl rfl rfl (by decide) rfl fun ls hl => ?_
                      refine lv_goto (tgt := 194) hx hb dX14_digest_218 rfl ?_
                      exact ih194 (((t194.1 * 31) + (q209.toInt64)), (t194.2 + 1)) h _ _ _ (lv_sub hl [2, 1, 3, 0] rfl) hP hS hz
                  exact L194 z (t180.1, 0) h _ _ _ (lv_sub hl [1, 2, 3, 0] rfl) hP hS hz
              exact L180 z (t92.1, 0) h _ _ _ (lv_sub hl [1, 2, 0] rfl) hP hS hz
            · have h := itf_e h hc100
              refine lv_iconst (v := 0) hx hb dX14_digest_103 rfl ?_
              refine lv_istore (lv' := [(4, .int 0), (0, .ref (Γ.2.1 + 149)), (1, .long t92.1), (3, .int t92.2)]) hx hb dX14_digest_104 hl (by decide) rfl fun ls hl => ?_
              have L106 : ∀ (fu : Nat) (t106 : Int64 × Int32), rp (b_Model_digest_106 z sp v2 K92 t92) fu t106 = some q → ∀ (H1 : Heap) (locs1 : List Loc) (ls1 : Array Slot), lv_has ls1 5 [(0, .ref (Γ.2.1 + 149)), (1, .long t106.1), (3, .int t92.2), (4, .int t106.2)] → Wd Γ sh v2 w H1 → va_S (gA Γ) s.heap H1 locs1 → H1.size = Γ.2.1 + n → wpL Γ sh w n 57 (fun x u => x = q.1 ∧ u = q.2) p l e s m args below meth c H1 locs1 (F0 m 106 ls1 []) := by
                refine q_loop (fun K106 ih106 t106 h H1 locs1 ls hl hP hS hz => ?_)
                unfold b_Model_digest_106 at h
                refine lv_iload hx hb dX14_digest_106 (lv_at hl 3 rfl) ?_
                refine lv_iconst (v := 5) hx hb dX14_digest_108 rfl ?_
                refine lv_icmp_gt (tgt := 133) hx hb dX14_digest_109 rfl (fun hc109 => ?_) (fun hc109 => ?_)
                · have h := itt_e h hc109
                  refine lv_iconst (v := 0) hx hb dX14_digest_133 rfl ?_
                  refine lv_istore (lv' := [(4, .int 0), (0, .ref (Γ.2.1 + 149)), (1, .long t106.1), (3, .int t92.2)]) hx hb dX14_digest_134 hl (by decide) rfl fun ls hl => ?_
                  have L136 : ∀ (fu : Nat) (t136 : Int64 × Int32), rp (b_Model_digest_136 sp v2 K92 t92) fu t136 = some q → ∀ (H1 : Heap) (locs1 : List Loc) (ls1 : Array Slot), lv_has ls1 5 [(0, .ref (Γ.2.1 + 149)), (1, .long t136.1), (3, .int t92.2), (4, .int t136.2)] → Wd Γ sh v2 w H1 → va_S (gA Γ) s.heap H1 locs1 → H1.size = Γ.2.1 + n → wpL Γ sh w n 57 (fun x u => x = q.1 ∧ u = q.2) p l e s m args below meth c H1 locs1 (F0 m 136 ls1 []) := by
                    refine q_loop (fun K136 ih136 t136 h H1 locs1 ls hl hP hS hz => ?_)
                    unfold b_Model_digest_136 at h
                    refine lv_iload hx hb dX14_digest_136 (lv_at hl 3 rfl) ?_
                    refine lv_aload_n hx hb dX14_digest_138 rfl (lv_at hl 0 rfl) ?_
                    refine w_gr (k := 149) (r := sp) hx hb hts hown hK hP fX14_20 hk.1 rfl dX14_digest_139 ?_
                    refine w_gi (k := sp) hx hb hts hown hK hP fX14_43 hk.2.2.1.1 rfl dX14_digest_142 ?_
                    refine lv_icmp_ge (tgt := 172) hx hb dX14_digest_145 rfl (fun hc145 => ?_) (fun hc145 => ?_)
                    · have h := itt_e h hc145
                      refine lv_iinc (k := 2) (v := (t92.2 + 1)) (lv' := [(3, .int (t92.2 + 1)), (0, .ref (Γ.2.1 + 149)), (1, .long t136.1), (4, .int t136.2)]) hx hb dX14_digest_172 hl rfl rfl (by decide) rfl fun ls hl => ?_
                      refine lv_goto (tgt := 92) hx hb dX14_digest_175 rfl ?_
                      exact ih92 (t136.1, (t92.2 + 1)) h _ _ _ (lv_sub hl [1, 2, 0] rfl) hP hS hz
                    · have h := itf_e h hc145
                      refine lv_lload_n hx hb dX14_digest_148 rfl (lv_at hl 1 rfl) ?_
                      refine lv_ldc2 hx hb hown (hts _ qX14_463) dX14_digest_149 ?_
                      refine lv_lmul hx hb dX14_digest_152 ?_
                      refine lv_aload_n hx hb dX14_digest_153 rfl (lv_at hl 0 rfl) ?_
                      refine w_gr (k := 149) (r := 173) hx hb hts hown hK hP fX14_27 hk.1 rfl dX14_digest_154 ?_
                      refine lv_iload_n hx hb dX14_digest_157 rfl (lv_at hl 2 rfl) ?_
                      refine lv_iload hx hb dX14_digest_158 (lv_at hl 3 rfl) ?_
                      obtain ⟨q160, e160, h⟩ := obn_e h
                      refine z_Vi (k := 173) (r1 := q160) (v1 := v2) hx hb hml hts hown hK hP hS hz hE (c_State_owes hk.2.2.2.1 e160) kX13_owes mX14_317 hk.2.2.2.1.1 rfl rfl rfl hl.1 (Nat.le_of_ble_eq_true rfl) ⟨Nat.le_of_ble_eq_true rfl, Nat.le_of_ble_eq_true rfl⟩ ⟨Nat.le_refl _, Nat.le_refl _⟩ dX14_digest_160 fun H1 locs1 hz hP hS => ?_
                      refine lv_i2l (v := (q160.toInt64)) hx hb dX14_digest_163 rfl ?_
                      refine lv_ladd hx hb dX14_digest_164 ?_
                      refine lv_lstore_n (lv' := [(1, .long ((t136.1 * 31) + (q160.toInt64))), (0, .ref (Γ.2.1 + 149)), (3, .int t92.2), (4, .int t136.2)]) hx hb dX14_digest_165 rfl hl (by decide) rfl fun ls hl => ?_
                      refine lv_iinc (k := 3) (v := (t136.2 + 1)) (lv' := [(4, .int (t136.2 + 1)), (1, .long ((t136.1 * 31) + (q160.toInt64))), (0, .ref (Γ.2.1 + 149)), (3, .int t92.2)]) hx hb dX14_digest_166 hl rfl rfl (by decide) rfl fun ls hl => ?_
                      refine lv_goto (tgt := 136) hx hb dX14_digest_169 rfl ?_
                      exact ih136 (((t136.1 * 31) + (q160.toInt64)), (t136.2 + 1)) h _ _ _ (lv_sub hl [2, 1, 3, 0] rfl) hP hS hz
                  exact L136 z (t106.1, 0) h _ _ _ (lv_sub hl [1, 2, 3, 0] rfl) hP hS hz
                · have h := itf_e h hc109
                  refine lv_lload_n hx hb dX14_digest_112 rfl (lv_at hl 1 rfl) ?_
                  refine lv_ldc2 hx hb hown (hts _ qX14_463) dX14_digest_113 ?_
                  refine lv_lmul hx hb dX14_digest_116 ?_
                  refine lv_aload_n hx hb dX14_digest_117 rfl (lv_at hl 0 rfl) ?_
                  refine lv_iload_n hx hb dX14_digest_118 rfl (lv_at hl 2 rfl) ?_
                  refine lv_iload hx hb dX14_digest_119 (lv_at hl 3 rfl) ?_
                  obtain ⟨q121, e121, h⟩ := obn_e h
                  refine z_Vi (k := 149) (r1 := q121) (v1 := v2) hx hb hml hts hown hK hP hS hz hE (c_Model_merchantTold hk e121) kX14_merchantTold mX14_436 hk.1 rfl rfl rfl hl.1 (Nat.le_of_ble_eq_true rfl) ⟨Nat.le_of_ble_eq_true rfl, Nat.le_of_ble_eq_true rfl⟩ ⟨Nat.le_refl _, Nat.le_refl _⟩ dX14_digest_121 fun H1 locs1 hz hP hS => ?_
                  refine lv_i2l (v := (q121.toInt64)) hx hb dX14_digest_124 rfl ?_
                  refine lv_ladd hx hb dX14_digest_125 ?_
                  refine lv_lstore_n (lv' := [(1, .long ((t106.1 * 31) + (q121.toInt64))), (0, .ref (Γ.2.1 + 149)), (3, .int t92.2), (4, .int t106.2)]) hx hb dX14_digest_126 rfl hl (by decide) rfl fun ls hl => ?_
                  refine lv_iinc (k := 3) (v := (t106.2 + 1)) (lv' := [(4, .int (t106.2 + 1)), (1, .long ((t106.1 * 31) + (q121.toInt64))), (0, .ref (Γ.2.1 + 149)), (3, .int t92.2)]) hx hb dX14_digest_127 hl rfl rfl (by decide) rfl fun ls hl => ?_
                  refine lv_goto (tgt := 106) hx hb dX14_digest_130 rfl ?_
                  exact ih106 (((t106.1 * 31) + (q121.toInt64)), (t106.2 + 1)) h _ _ _ (lv_sub hl [2, 1, 3, 0] rfl) hP hS hz
              exact L106 z (t92.1, 0) h _ _ _ (lv_sub hl [1, 2, 3, 0] rfl) hP hS hz
          exact L92 z (t42.1, 0) h _ _ _ (lv_sub hl [1, 2, 0] rfl) hP hS hz
        · have h := itf_e h hc50
          refine lv_iconst (v := 0) hx hb dX14_digest_53 rfl ?_
          refine lv_istore (lv' := [(4, .int 0), (0, .ref (Γ.2.1 + 149)), (1, .long t42.1), (3, .int t42.2)]) hx hb dX14_digest_54 hl (by decide) rfl fun ls hl => ?_
          have L56 : ∀ (fu : Nat) (t56 : Int64 × Int32), rp (b_Model_digest_56 sp v2 K42 t42) fu t56 = some q → ∀ (H1 : Heap) (locs1 : List Loc) (ls1 : Array Slot), lv_has ls1 5 [(0, .ref (Γ.2.1 + 149)), (1, .long t56.1), (3, .int t42.2), (4, .int t56.2)] → Wd Γ sh v2 w H1 → va_S (gA Γ) s.heap H1 locs1 → H1.size = Γ.2.1 + n → wpL Γ sh w n 57 (fun x u => x = q.1 ∧ u = q.2) p l e s m args below meth c H1 locs1 (F0 m 56 ls1 []) := by
            refine q_loop (fun K56 ih56 t56 h H1 locs1 ls hl hP hS hz => ?_)
            unfold b_Model_digest_56 at h
            refine lv_iload hx hb dX14_digest_56 (lv_at hl 3 rfl) ?_
            refine lv_bipush (v := 6) hx hb dX14_digest_58 rfl ?_
            refine lv_icmp_gt (tgt := 84) hx hb dX14_digest_60 rfl (fun hc60 => ?_) (fun hc60 => ?_)
            · have h := itt_e h hc60
              refine lv_iinc (k := 2) (v := (t42.2 + 1)) (lv' := [(3, .int (t42.2 + 1)), (0, .ref (Γ.2.1 + 149)), (1, .long t56.1), (4, .int t56.2)]) hx hb dX14_digest_84 hl rfl rfl (by decide) rfl fun ls hl => ?_
              refine lv_goto (tgt := 42) hx hb dX14_digest_87 rfl ?_
              exact ih42 (t56.1, (t42.2 + 1)) h _ _ _ (lv_sub hl [1, 2, 0] rfl) hP hS hz
            · have h := itf_e h hc60
              refine lv_lload_n hx hb dX14_digest_63 rfl (lv_at hl 1 rfl) ?_
              refine lv_ldc2 hx hb hown (hts _ qX14_463) dX14_digest_64 ?_
              refine lv_lmul hx hb dX14_digest_67 ?_
              refine lv_aload_n hx hb dX14_digest_68 rfl (lv_at hl 0 rfl) ?_
              refine lv_iload_n hx hb dX14_digest_69 rfl (lv_at hl 2 rfl) ?_
              refine lv_iload hx hb dX14_digest_70 (lv_at hl 3 rfl) ?_
              obtain ⟨q72, e72, h⟩ := obn_e h
              refine z_Vi (k := 149) (r1 := q72) (v1 := v2) hx hb hml hts hown hK hP hS hz hE (c_Model_lotTold hk e72) kX14_lotTold mX14_426 hk.1 rfl rfl rfl hl.1 (Nat.le_of_ble_eq_true rfl) ⟨Nat.le_of_ble_eq_true rfl, Nat.le_of_ble_eq_true rfl⟩ ⟨Nat.le_refl _, Nat.le_refl _⟩ dX14_digest_72 fun H1 locs1 hz hP hS => ?_
              refine lv_i2l (v := (q72.toInt64)) hx hb dX14_digest_75 rfl ?_
              refine lv_ladd hx hb dX14_digest_76 ?_
              refine lv_lstore_n (lv' := [(1, .long ((t56.1 * 31) + (q72.toInt64))), (0, .ref (Γ.2.1 + 149)), (3, .int t42.2), (4, .int t56.2)]) hx hb dX14_digest_77 rfl hl (by decide) rfl fun ls hl => ?_
              refine lv_iinc (k := 3) (v := (t56.2 + 1)) (lv' := [(4, .int (t56.2 + 1)), (1, .long ((t56.1 * 31) + (q72.toInt64))), (0, .ref (Γ.2.1 + 149)), (3, .int t42.2)]) hx hb dX14_digest_78 hl rfl rfl (by decide) rfl fun ls hl => ?_
              refine lv_goto (tgt := 56) hx hb dX14_digest_81 rfl ?_
              exact ih56 (((t56.1 * 31) + (q72.toInt64)), (t56.2 + 1)) h _ _ _ (lv_sub hl [2, 1, 3, 0] rfl) hP hS hz
          exact L56 z (t42.1, 0) h _ _ _ (lv_sub hl [1, 2, 3, 0] rfl) hP hS hz
      exact L42 z (t11.1, 0) h _ _ _ (lv_sub hl [1, 2, 0] rfl) hP hS hz
    · have h := itf_e h hc14
      refine lv_lload_n hx hb dX14_digest_17 rfl (lv_at hl 1 rfl) ?_
      refine lv_ldc2 hx hb hown (hts _ qX14_463) dX14_digest_18 ?_
      refine lv_lmul hx hb dX14_digest_21 ?_
      refine lv_aload_n hx hb dX14_digest_22 rfl (lv_at hl 0 rfl) ?_
      refine lv_aload_n hx hb dX14_digest_23 rfl (lv_at hl 0 rfl) ?_
      refine w_gr (k := 149) (r := 173) hx hb hts hown hK hP fX14_27 hk.1 rfl dX14_digest_24 ?_
      refine lv_iload_n hx hb dX14_digest_27 rfl (lv_at hl 2 rfl) ?_
      obtain ⟨q28, e28, h⟩ := obn_e h
      refine z_Vi (k := 149) (r1 := q28) (v1 := v2) hx hb hml hts hown hK hP hS hz hE (c_Model_counted hk hk.2.2.2.1 e28) kX14_counted mX14_420 hk.1 rfl rfl rfl hl.1 (Nat.le_of_ble_eq_true rfl) ⟨Nat.le_of_ble_eq_true rfl, Nat.le_of_ble_eq_true rfl⟩ ⟨Nat.le_refl _, Nat.le_refl _⟩ dX14_digest_28 fun H1 locs1 hz hP hS => ?_
      refine lv_i2l (v := (q28.toInt64)) hx hb dX14_digest_31 rfl ?_
      refine lv_ladd hx hb dX14_digest_32 ?_
      refine lv_lstore_n (lv' := [(1, .long ((t11.1 * 31) + (q28.toInt64))), (0, .ref (Γ.2.1 + 149)), (3, .int t11.2)]) hx hb dX14_digest_33 rfl hl (by decide) rfl fun ls hl => ?_
      refine lv_iinc (k := 2) (v := (t11.2 + 1)) (lv' := [(3, .int (t11.2 + 1)), (1, .long ((t11.1 * 31) + (q28.toInt64))), (0, .ref (Γ.2.1 + 149))]) hx hb dX14_digest_34 hl rfl rfl (by decide) rfl fun ls hl => ?_
      refine lv_goto (tgt := 11) hx hb dX14_digest_37 rfl ?_
      exact ih11 (((t11.1 * 31) + (q28.toInt64)), (t11.2 + 1)) h _ _ _ (lv_sub hl [2, 1, 0] rfl) hP hS hz
  exact L11 z (829, 0) h _ _ _ (lv_sub hl [2, 1, 0] rfl) hP hS hz
end GE
