
section GE
variable {l : Launch} {Γ : Cx} {sh : Sh} {v : Va} {w : Vl} {n z : Nat}
def j_Model_wordAt_81 (K2 : Int32 → Option Int32) (t2 : Int32) : Option Int32 := K2 (t2 + 1)
def j_Model_wordAt_60 (v : Va) (a2 : Int32) (K2 : Int32 → Option Int32) (t2 : Int32) (t13 : Int32) : Option Int32 := if t13 = a2 then (if t2 < 0 ∨ 32 ≤ t2.toNatClampNeg then none else (f_Str_length_8abf5 v (litW.getD t2.toNatClampNeg [])).bind fun q73 => if t13 = q73 then (some t2) else (j_Model_wordAt_81 K2 t2)) else (j_Model_wordAt_81 K2 t2)
def b_Model_wordAt_13 (v : Va) (a1 : Int32) (a2 : Int32) (K2 : Int32 → Option Int32) (t2 : Int32) (K13 : Int32 → Option Int32) (t13 : Int32) : Option Int32 := if a2 ≤ t13 then (j_Model_wordAt_60 v a2 K2 t2 t13) else (if t2 < 0 ∨ 32 ≤ t2.toNatClampNeg then none else (f_Str_length_8abf5 v (litW.getD t2.toNatClampNeg [])).bind fun q26 => if q26 ≤ t13 then (j_Model_wordAt_60 v a2 K2 t2 t13) else (if t2 < 0 ∨ 32 ≤ t2.toNatClampNeg then none else (f_Str_charAt_5068e v (litW.getD t2.toNatClampNeg []) t13).bind fun q39 => if (a1 + t13) < 0 ∨ 2000 ≤ (a1 + t13).toNatClampNeg then none else if q39 = (v 150 (a1 + t13).toNatClampNeg) then (K13 (t13 + 1)) else (j_Model_wordAt_60 v a2 K2 t2 t13)))
def b_Model_wordAt_2 (z : Nat) (v : Va) (a1 : Int32) (a2 : Int32) (K2 : Int32 → Option Int32) (t2 : Int32) : Option Int32 := if 32 ≤ t2 then (some 35) else (rp (b_Model_wordAt_13 v a1 a2 K2 t2) z 0)
def f_Model_wordAt (z : Nat) (v : Va) (sp : Nat) (a1 : Int32) (a2 : Int32) : Option Int32 := rp (b_Model_wordAt_2 z v a1 a2) z 0
theorem c_Model_wordAt {sp : Nat} {a1 : Int32} {a2 : Int32} (hk : isModel sh sp) (hF : EF Γ) {q : Int32} (h : f_Model_wordAt z v sp a1 a2 = some q) : MetI l yX14_wordAt cX14_wordAt 5 (some .int) 5 Γ sh v w n [.ref (Γ.2.1 + 149), .int a1, .int a2] (fun x u => x = q ∧ u = v) := by
  unfold f_Model_wordAt at h
  refine w_start pn_X14 (Nat.le_of_ble_eq_true rfl) fun p e s m args below meth c hx hb hml hret hlk hnm hts hown hK hP hz hE hS ls hl => ?_
  obtain ⟨aw, adw, avw, hzw, htw, hsw⟩ := hF.2.2.2.2.2
  refine lv_iconst (v := 0) hx hb dX14_wordAt_0 rfl ?_
  refine lv_istore_n (lv' := [(3, .int 0), (0, .ref (Γ.2.1 + 149)), (1, .int a1), (2, .int a2)]) hx hb dX14_wordAt_1 rfl hl (by decide) rfl fun ls hl => ?_
  have L2 : ∀ (fu : Nat) (t2 : Int32), rp (b_Model_wordAt_2 z v a1 a2) fu t2 = some q → ∀ (H1 : Heap) (locs1 : List Loc) (ls1 : Array Slot), lv_has ls1 5 [(0, .ref (Γ.2.1 + 149)), (1, .int a1), (2, .int a2), (3, .int t2)] → Wd Γ sh v w H1 → va_S (gA Γ) s.heap H1 locs1 → H1.size = Γ.2.1 + n → wpI Γ sh w n 5 (fun x u => x = q ∧ u = v) p l e s m args below meth c H1 locs1 (F0 m 2 ls1 []) := by
    refine q_loop (fun K2 ih2 t2 h H1 locs1 ls hl hP hS hz => ?_)
    unfold b_Model_wordAt_2 at h
    refine lv_iload_n hx hb dX14_wordAt_2 rfl (lv_at hl 3 rfl) ?_
    refine va_gets hx hb (hE.Z hzw) hS hown (hts _ jX14_81) (fun _ q => q) dX14_wordAt_3 ?_
    refine va_tlen hx hb (hE.T htw) hS (v := 32) rfl dX14_wordAt_6 ?_
    refine lv_icmp_ge (tgt := 87) hx hb dX14_wordAt_7 rfl (fun hc7 => ?_) (fun hc7 => ?_)
    · have h := itt_e h hc7
      refine lv_bipush (v := 35) hx hb dX14_wordAt_87 rfl ?_
      exact w_iret hx hb hret rfl hlk hK hP hS hz hE (q_p1 h) dX14_wordAt_89
    · have h := itf_e h hc7
      refine lv_iconst (v := 0) hx hb dX14_wordAt_10 rfl ?_
      refine lv_istore (lv' := [(4, .int 0), (0, .ref (Γ.2.1 + 149)), (1, .int a1), (2, .int a2), (3, .int t2)]) hx hb dX14_wordAt_11 hl (by decide) rfl fun ls hl => ?_
      have L13 : ∀ (fu : Nat) (t13 : Int32), rp (b_Model_wordAt_13 v a1 a2 K2 t2) fu t13 = some q → ∀ (H1 : Heap) (locs1 : List Loc) (ls1 : Array Slot), lv_has ls1 5 [(0, .ref (Γ.2.1 + 149)), (1, .int a1), (2, .int a2), (3, .int t2), (4, .int t13)] → Wd Γ sh v w H1 → va_S (gA Γ) s.heap H1 locs1 → H1.size = Γ.2.1 + n → wpI Γ sh w n 5 (fun x u => x = q ∧ u = v) p l e s m args below meth c H1 locs1 (F0 m 13 ls1 []) := by
        refine q_loop (fun K13 ih13 t13 h H1 locs1 ls hl hP hS hz => ?_)
        unfold b_Model_wordAt_13 at h
        refine lv_iload hx hb dX14_wordAt_13 (lv_at hl 4 rfl) ?_
        refine lv_iload_n hx hb dX14_wordAt_15 rfl (lv_at hl 2 rfl) ?_
        have J60 : (j_Model_wordAt_60 v a2 K2 t2 t13) = some q → ∀ (H1 : Heap) (locs1 : List Loc) (ls1 : Array Slot), lv_has ls1 5 [(0, .ref (Γ.2.1 + 149)), (1, .int a1), (2, .int a2), (3, .int t2), (4, .int t13)] → Wd Γ sh v w H1 → va_S (gA Γ) s.heap H1 locs1 → H1.size = Γ.2.1 + n → wpI Γ sh w n 5 (fun x u => x = q ∧ u = v) p l e s m args below meth c H1 locs1 (F0 m 60 ls1 []) := by
          intro  h H1 locs1 ls hl hP hS hz
          unfold j_Model_wordAt_60 at h
          refine lv_iload hx hb dX14_wordAt_60 (lv_at hl 4 rfl) ?_
          refine lv_iload_n hx hb dX14_wordAt_62 rfl (lv_at hl 2 rfl) ?_
          have J81 : (j_Model_wordAt_81 K2 t2) = some q → ∀ (H1 : Heap) (locs1 : List Loc) (ls1 : Array Slot), lv_has ls1 5 [(0, .ref (Γ.2.1 + 149)), (1, .int a1), (2, .int a2), (3, .int t2)] → Wd Γ sh v w H1 → va_S (gA Γ) s.heap H1 locs1 → H1.size = Γ.2.1 + n → wpI Γ sh w n 5 (fun x u => x = q ∧ u = v) p l e s m args below meth c H1 locs1 (F0 m 81 ls1 []) := by
            intro  h H1 locs1 ls hl hP hS hz
            unfold j_Model_wordAt_81 at h
            refine lv_iinc (k := 3) (v := (t2 + 1)) (lv' := [(3, .int (t2 + 1)), (0, .ref (Γ.2.1 + 149)), (1, .int a1), (2, .int a2)]) hx hb dX14_wordAt_81 hl rfl rfl (by decide) rfl fun ls hl => ?_
            refine lv_goto (tgt := 2) hx hb dX14_wordAt_84 rfl ?_
            exact ih2 (t2 + 1) h _ _ _ (lv_sub hl [1, 2, 3, 0] rfl) hP hS hz
          refine lv_icmp_ne (tgt := 81) hx hb dX14_wordAt_63 rfl (fun hc63 => ?_) (fun hc63 => ?_)
          · have h := itf_e h hc63
            exact J81 h _ _ _ (lv_sub hl [0, 1, 2, 3] rfl) hP hS hz
          · have h := itt_e h hc63
            refine lv_iload hx hb dX14_wordAt_66 (lv_at hl 4 rfl) ?_
            refine va_gets hx hb (hE.Z hzw) hS hown (hts _ jX14_81) (fun _ q => q) dX14_wordAt_68 ?_
            refine lv_iload_n hx hb dX14_wordAt_71 rfl (lv_at hl 3 rfl) ?_
            obtain ⟨hn72, h⟩ := itn_e h
            refine vb_tq hx hb (hE.T htw) hS hn72 (v := .ref (adw t2.toNatClampNeg)) rfl dX14_wordAt_72 ?_
            obtain ⟨q73, e73, h⟩ := obn_e h
            refine z_sVi (a := (adw t2.toNatClampNeg)) (r1 := q73) (v1 := v) hx hb hml hts hown hK hP hS hz hE (c_Str_length_8abf5 (hsw _ (Nat.lt_of_not_le fun q => hn72 (Or.inr q))) hF e73) kJ0_length_8abf5 mX14_85 (sl_recv hE hS (hsw _ (Nat.lt_of_not_le fun q => hn72 (Or.inr q)))) rfl rfl hl.1 (Nat.le_of_ble_eq_true rfl) ⟨Nat.le_of_ble_eq_true rfl, Nat.le_of_ble_eq_true rfl⟩ ⟨Nat.le_refl _, Nat.le_refl _⟩ dX14_wordAt_73 fun H1 locs1 hz hP hS => ?_
            refine lv_icmp_ne (tgt := 81) hx hb dX14_wordAt_76 rfl (fun hc76 => ?_) (fun hc76 => ?_)
            · have h := itf_e h hc76
              exact J81 h _ _ _ (lv_sub hl [0, 1, 2, 3] rfl) hP hS hz
            · have h := itt_e h hc76
              refine lv_iload_n hx hb dX14_wordAt_79 rfl (lv_at hl 3 rfl) ?_
              exact w_iret hx hb hret rfl hlk hK hP hS hz hE (q_p1 h) dX14_wordAt_80
        refine lv_icmp_ge (tgt := 60) hx hb dX14_wordAt_16 rfl (fun hc16 => ?_) (fun hc16 => ?_)
        · have h := itt_e h hc16
          exact J60 h _ _ _ (lv_sub hl [0, 1, 2, 3, 4] rfl) hP hS hz
        · have h := itf_e h hc16
          refine lv_iload hx hb dX14_wordAt_19 (lv_at hl 4 rfl) ?_
          refine va_gets hx hb (hE.Z hzw) hS hown (hts _ jX14_81) (fun _ q => q) dX14_wordAt_21 ?_
          refine lv_iload_n hx hb dX14_wordAt_24 rfl (lv_at hl 3 rfl) ?_
          obtain ⟨hn25, h⟩ := itn_e h
          refine vb_tq hx hb (hE.T htw) hS hn25 (v := .ref (adw t2.toNatClampNeg)) rfl dX14_wordAt_25 ?_
          obtain ⟨q26, e26, h⟩ := obn_e h
          refine z_sVi (a := (adw t2.toNatClampNeg)) (r1 := q26) (v1 := v) hx hb hml hts hown hK hP hS hz hE (c_Str_length_8abf5 (hsw _ (Nat.lt_of_not_le fun q => hn25 (Or.inr q))) hF e26) kJ0_length_8abf5 mX14_85 (sl_recv hE hS (hsw _ (Nat.lt_of_not_le fun q => hn25 (Or.inr q)))) rfl rfl hl.1 (Nat.le_of_ble_eq_true rfl) ⟨Nat.le_of_ble_eq_true rfl, Nat.le_of_ble_eq_true rfl⟩ ⟨Nat.le_refl _, Nat.le_refl _⟩ dX14_wordAt_26 fun H1 locs1 hz hP hS => ?_
          refine lv_icmp_ge (tgt := 60) hx hb dX14_wordAt_29 rfl (fun hc29 => ?_) (fun hc29 => ?_)
          · have h := itt_e h hc29
            exact J60 h _ _ _ (lv_sub hl [0, 1, 2, 3, 4] rfl) hP hS hz
          · have h := itf_e h hc29
            refine va_gets hx hb (hE.Z hzw) hS hown (hts _ jX14_81) (fun _ q => q) dX14_wordAt_32 ?_
            refine lv_iload_n hx hb dX14_wordAt_35 rfl (lv_at hl 3 rfl) ?_
            obtain ⟨hn36, h⟩ := itn_e h
            refine vb_tq hx hb (hE.T htw) hS hn36 (v := .ref (adw t2.toNatClampNeg)) rfl dX14_wordAt_36 ?_
            refine lv_iload hx hb dX14_wordAt_37 (lv_at hl 4 rfl) ?_
            obtain ⟨q39, e39, h⟩ := obn_e h
            refine z_sVi (a := (adw t2.toNatClampNeg)) (r1 := q39) (v1 := v) hx hb hml hts hown hK hP hS hz hE (c_Str_charAt_5068e (hsw _ (Nat.lt_of_not_le fun q => hn36 (Or.inr q))) hF e39) kJ0_charAt_5068e mX14_89 (sl_recv hE hS (hsw _ (Nat.lt_of_not_le fun q => hn36 (Or.inr q)))) rfl rfl hl.1 (Nat.le_of_ble_eq_true rfl) ⟨Nat.le_of_ble_eq_true rfl, Nat.le_of_ble_eq_true rfl⟩ ⟨Nat.le_refl _, Nat.le_refl _⟩ dX14_wordAt_39 fun H1 locs1 hz hP hS => ?_
            refine lv_aload_n hx hb dX14_wordAt_42 rfl (lv_at hl 0 rfl) ?_
            refine w_gr (k := 149) (r := 150) hx hb hts hown hK hP fX14_9 hk.1 rfl dX14_wordAt_43 ?_
            refine lv_iload_n hx hb dX14_wordAt_46 rfl (lv_at hl 1 rfl) ?_
            refine lv_iload hx hb dX14_wordAt_47 (lv_at hl 4 rfl) ?_
            refine lv_iadd hx hb dX14_wordAt_49 ?_
            obtain ⟨hn50, h⟩ := itn_e h
            refine w_iald (k := 150) hx hb hK hP hk.2.1 hn50 dX14_wordAt_50 ?_
            refine lv_icmp_ne (tgt := 60) hx hb dX14_wordAt_51 rfl (fun hc51 => ?_) (fun hc51 => ?_)
            · have h := itf_e h hc51
              exact J60 h _ _ _ (lv_sub hl [0, 1, 2, 3, 4] rfl) hP hS hz
            · have h := itt_e h hc51
              refine lv_iinc (k := 4) (v := (t13 + 1)) (lv' := [(4, .int (t13 + 1)), (0, .ref (Γ.2.1 + 149)), (1, .int a1), (2, .int a2), (3, .int t2)]) hx hb dX14_wordAt_54 hl rfl rfl (by decide) rfl fun ls hl => ?_
              refine lv_goto (tgt := 13) hx hb dX14_wordAt_57 rfl ?_
              exact ih13 (t13 + 1) h _ _ _ (lv_sub hl [1, 2, 3, 4, 0] rfl) hP hS hz
      exact L13 z 0 h _ _ _ (lv_sub hl [1, 2, 3, 4, 0] rfl) hP hS hz
  exact L2 z 0 h _ _ _ (lv_sub hl [1, 2, 3, 0] rfl) hP hS hz
def f_Model_kindAt (z : Nat) (v : Va) (sp : Nat) (a1 : Int32) (a2 : Int32) : Option Int32 := (f_Model_byteAt v sp a1).bind fun q2 => if q2 = (-1) then (some 70) else ((f_Model_isDigit q2).bind fun q15 => if (q_b q15) = 0 then ((f_Model_isLetter q2).bind fun q36 => if (q_b q36) = 0 then (if a2 = 2 then (if q2 = 60 then (some 53) else (some 54)) else ((f_Str_indexOf_0f7a4 z v litX14_74 q2).bind fun q82 => if 0 ≤ q82 then (some (40 + q82)) else (some 71))) else (if a2 ≤ 10 then ((f_Model_wordAt z v sp a1 a2).bind fun q56 => some q56) else (some 71))) else (if a2 ≤ 6 then (some 36) else (some 71)))
theorem c_Model_kindAt {sp : Nat} {a1 : Int32} {a2 : Int32} (hk : isModel sh sp) (hF : EF Γ) {q : Int32} (h : f_Model_kindAt z v sp a1 a2 = some q) : MetI l yX14_kindAt cX14_kindAt 5 (some .int) 6 Γ sh v w n [.ref (Γ.2.1 + 149), .int a1, .int a2] (fun x u => x = q ∧ u = v) := by
  unfold f_Model_kindAt at h
  refine w_start pn_X14 (Nat.le_of_ble_eq_true rfl) fun p e s m args below meth c hx hb hml hret hlk hnm hts hown hK hP hz hE hS ls hl => ?_
  obtain ⟨ad74, av74, hr74, hs74⟩ := LT.get hE hF.2.2.2.2.1
  refine lv_aload_n hx hb dX14_kindAt_0 rfl (lv_at hl 0 rfl) ?_
  refine lv_iload_n hx hb dX14_kindAt_1 rfl (lv_at hl 1 rfl) ?_
  obtain ⟨q2, e2, h⟩ := obn_e h
  refine z_Vi (k := 149) (r1 := q2) (v1 := v) hx hb hml hts hown hK hP hS hz hE (c_Model_byteAt hk e2) kX14_byteAt mX14_60 hk.1 rfl rfl rfl hl.1 (Nat.le_of_ble_eq_true rfl) ⟨Nat.le_of_ble_eq_true rfl, Nat.le_of_ble_eq_true rfl⟩ ⟨Nat.le_refl _, Nat.le_refl _⟩ dX14_kindAt_2 fun H1 locs1 hz hP hS => ?_
  refine lv_istore_n (lv' := [(3, .int q2), (0, .ref (Γ.2.1 + 149)), (1, .int a1), (2, .int a2)]) hx hb dX14_kindAt_5 rfl hl (by decide) rfl fun ls hl => ?_
  refine lv_iload_n hx hb dX14_kindAt_6 rfl (lv_at hl 0 rfl) ?_
  refine lv_iconst (v := (-1)) hx hb dX14_kindAt_7 rfl ?_
  refine lv_icmp_ne (tgt := 14) hx hb dX14_kindAt_8 rfl (fun hc8 => ?_) (fun hc8 => ?_)
  · have h := itf_e h hc8
    refine lv_iload_n hx hb dX14_kindAt_14 rfl (lv_at hl 0 rfl) ?_
    obtain ⟨q15, e15, h⟩ := obn_e h
    refine z_Si (r1 := (q_b q15)) (v1 := v) hx hb hml hts hown hK hP hS hz hE (c_Model_isDigit  e15) kX14_isDigit mX14_67 rfl rfl hl.1 (Nat.le_of_ble_eq_true rfl) ⟨Nat.le_of_ble_eq_true rfl, Nat.le_of_ble_eq_true rfl⟩ ⟨Nat.le_refl _, Nat.le_refl _⟩ dX14_kindAt_15 fun H1 locs1 hz hP hS => ?_
    refine lv_if_eq (tgt := 35) hx hb dX14_kindAt_18 rfl (fun hc18 => ?_) (fun hc18 => ?_)
    · have h := itt_e h hc18
      refine lv_iload_n hx hb dX14_kindAt_35 rfl (lv_at hl 0 rfl) ?_
      obtain ⟨q36, e36, h⟩ := obn_e h
      refine z_Si (r1 := (q_b q36)) (v1 := v) hx hb hml hts hown hK hP hS hz hE (c_Model_isLetter  e36) kX14_isLetter mX14_64 rfl rfl hl.1 (Nat.le_of_ble_eq_true rfl) ⟨Nat.le_of_ble_eq_true rfl, Nat.le_of_ble_eq_true rfl⟩ ⟨Nat.le_refl _, Nat.le_refl _⟩ dX14_kindAt_36 fun H1 locs1 hz hP hS => ?_
      refine lv_if_eq (tgt := 60) hx hb dX14_kindAt_39 rfl (fun hc39 => ?_) (fun hc39 => ?_)
      · have h := itt_e h hc39
        refine lv_iload_n hx hb dX14_kindAt_60 rfl (lv_at hl 3 rfl) ?_
        refine lv_iconst (v := 2) hx hb dX14_kindAt_61 rfl ?_
        refine lv_icmp_ne (tgt := 79) hx hb dX14_kindAt_62 rfl (fun hc62 => ?_) (fun hc62 => ?_)
        · have h := itf_e h hc62
          refine va_ldcS hx hb hown hr74 dX14_kindAt_79 ?_
          refine lv_iload_n hx hb dX14_kindAt_81 rfl (lv_at hl 0 rfl) ?_
          obtain ⟨q82, e82, h⟩ := obn_e h
          refine z_sVi (a := ad74) (r1 := q82) (v1 := v) hx hb hml hts hown hK hP hS hz hE (c_Str_indexOf_0f7a4 hs74 hF e82) kJ0_indexOf_0f7a4 mX14_76 (sl_recv hE hS hs74) rfl rfl hl.1 (Nat.le_of_ble_eq_true rfl) ⟨Nat.le_of_ble_eq_true rfl, Nat.le_of_ble_eq_true rfl⟩ ⟨Nat.le_refl _, Nat.le_refl _⟩ dX14_kindAt_82 fun H1 locs1 hz hP hS => ?_
          refine lv_istore (lv' := [(4, .int q82), (3, .int q2), (0, .ref (Γ.2.1 + 149)), (1, .int a1), (2, .int a2)]) hx hb dX14_kindAt_85 hl (by decide) rfl fun ls hl => ?_
          refine lv_iload hx hb dX14_kindAt_87 (lv_at hl 0 rfl) ?_
          refine lv_if_ge (tgt := 97) hx hb dX14_kindAt_89 rfl (fun hc89 => ?_) (fun hc89 => ?_)
          · have h := itt_e h hc89
            refine lv_bipush (v := 40) hx hb dX14_kindAt_97 rfl ?_
            refine lv_iload hx hb dX14_kindAt_99 (lv_at hl 0 rfl) ?_
            refine lv_iadd hx hb dX14_kindAt_101 ?_
            exact w_iret hx hb hret rfl hlk hK hP hS hz hE (q_p1 h) dX14_kindAt_102
          · have h := itf_e h hc89
            refine lv_bipush (v := 71) hx hb dX14_kindAt_92 rfl ?_
            refine lv_goto (tgt := 102) hx hb dX14_kindAt_94 rfl ?_
            exact w_iret hx hb hret rfl hlk hK hP hS hz hE (q_p1 h) dX14_kindAt_102
        · have h := itt_e h hc62
          refine lv_iload_n hx hb dX14_kindAt_65 rfl (lv_at hl 0 rfl) ?_
          refine lv_bipush (v := 60) hx hb dX14_kindAt_66 rfl ?_
          refine lv_icmp_ne (tgt := 76) hx hb dX14_kindAt_68 rfl (fun hc68 => ?_) (fun hc68 => ?_)
          · have h := itf_e h hc68
            refine lv_bipush (v := 54) hx hb dX14_kindAt_76 rfl ?_
            exact w_iret hx hb hret rfl hlk hK hP hS hz hE (q_p1 h) dX14_kindAt_78
          · have h := itt_e h hc68
            refine lv_bipush (v := 53) hx hb dX14_kindAt_71 rfl ?_
            refine lv_goto (tgt := 78) hx hb dX14_kindAt_73 rfl ?_
            exact w_iret hx hb hret rfl hlk hK hP hS hz hE (q_p1 h) dX14_kindAt_78
      · have h := itf_e h hc39
        refine lv_iload_n hx hb dX14_kindAt_42 rfl (lv_at hl 3 rfl) ?_
        refine lv_bipush (v := 10) hx hb dX14_kindAt_43 rfl ?_
        refine lv_icmp_le (tgt := 53) hx hb dX14_kindAt_45 rfl (fun hc45 => ?_) (fun hc45 => ?_)
        · have h := itt_e h hc45
          refine lv_aload_n hx hb dX14_kindAt_53 rfl (lv_at hl 1 rfl) ?_
          refine lv_iload_n hx hb dX14_kindAt_54 rfl (lv_at hl 2 rfl) ?_
          refine lv_iload_n hx hb dX14_kindAt_55 rfl (lv_at hl 3 rfl) ?_
          obtain ⟨q56, e56, h⟩ := obn_e h
          refine z_Vi (k := 149) (r1 := q56) (v1 := v) hx hb hml hts hown hK hP hS hz hE (c_Model_wordAt hk hF e56) kX14_wordAt mX14_70 hk.1 rfl rfl rfl hl.1 (Nat.le_of_ble_eq_true rfl) ⟨Nat.le_of_ble_eq_true rfl, Nat.le_of_ble_eq_true rfl⟩ ⟨Nat.le_refl _, Nat.le_refl _⟩ dX14_kindAt_56 fun H1 locs1 hz hP hS => ?_
          exact w_iret hx hb hret rfl hlk hK hP hS hz hE (q_p1 h) dX14_kindAt_59
        · have h := itf_e h hc45
          refine lv_bipush (v := 71) hx hb dX14_kindAt_48 rfl ?_
          refine lv_goto (tgt := 59) hx hb dX14_kindAt_50 rfl ?_
          exact w_iret hx hb hret rfl hlk hK hP hS hz hE (q_p1 h) dX14_kindAt_59
    · have h := itf_e h hc18
      refine lv_iload_n hx hb dX14_kindAt_21 rfl (lv_at hl 3 rfl) ?_
      refine lv_bipush (v := 6) hx hb dX14_kindAt_22 rfl ?_
      refine lv_icmp_le (tgt := 32) hx hb dX14_kindAt_24 rfl (fun hc24 => ?_) (fun hc24 => ?_)
      · have h := itt_e h hc24
        refine lv_bipush (v := 36) hx hb dX14_kindAt_32 rfl ?_
        exact w_iret hx hb hret rfl hlk hK hP hS hz hE (q_p1 h) dX14_kindAt_34
      · have h := itf_e h hc24
        refine lv_bipush (v := 71) hx hb dX14_kindAt_27 rfl ?_
        refine lv_goto (tgt := 34) hx hb dX14_kindAt_29 rfl ?_
        exact w_iret hx hb hret rfl hlk hK hP hS hz hE (q_p1 h) dX14_kindAt_34
  · have h := itt_e h hc8
    refine lv_bipush (v := 70) hx hb dX14_kindAt_11 rfl ?_
    exact w_iret hx hb hret rfl hlk hK hP hS hz hE (q_p1 h) dX14_kindAt_13
def j_Model_cut_31 (K11 : Int32 → Option Va) (t11 : Int32) : Option Va := K11 (t11 + 1)
def j_Model_cut_98 (k1 : Nat) (K4 : (Int32 × Int32 × Va) → Option Va) (t4 : Int32 × Int32 × Va) (t11 : Int32) (v98 : Va) : Option Va := if t4.2.1 < 0 ∨ 401 ≤ t4.2.1.toNatClampNeg then none else if (v98 (k1 + 1) t4.2.1.toNatClampNeg) < 70 then (if t4.2.1 < 0 ∨ 401 ≤ t4.2.1.toNatClampNeg then none else K4 ((t11 + (v98 (k1 + 3) t4.2.1.toNatClampNeg)), (t4.2.1 + 1), v98)) else (some v98)
def b_Model_cut_11 (z : Nat) (sp : Nat) (k1 : Nat) (K4 : (Int32 × Int32 × Va) → Option Va) (t4 : Int32 × Int32 × Va) (K11 : Int32 → Option Va) (t11 : Int32) : Option Va := (f_Model_byteAt t4.2.2 sp t11).bind fun q13 => if q13 = 32 then (j_Model_cut_31 K11 t11) else ((f_Model_byteAt t4.2.2 sp t11).bind fun q23 => if q23 = 10 then (j_Model_cut_31 K11 t11) else (if t4.2.1 < 0 ∨ 401 ≤ t4.2.1.toNatClampNeg then none else bnd (pu t4.2.2 (k1 + 2) t4.2.1.toNatClampNeg t11) fun v43 => (f_Model_lengthAt z v43 sp t11).bind fun q51 => if t4.2.1 < 0 ∨ 401 ≤ t4.2.1.toNatClampNeg then none else bnd (pu v43 (k1 + 3) t4.2.1.toNatClampNeg q51) fun v54 => if t4.2.1 < 0 ∨ 401 ≤ t4.2.1.toNatClampNeg then none else (f_Model_kindAt z v54 sp t11 (v54 (k1 + 3) t4.2.1.toNatClampNeg)).bind fun q68 => if t4.2.1 < 0 ∨ 401 ≤ t4.2.1.toNatClampNeg then none else bnd (pu v54 (k1 + 1) t4.2.1.toNatClampNeg q68) fun v71 => if t4.2.1 = 400 then (if t4.2.1 < 0 ∨ 401 ≤ t4.2.1.toNatClampNeg then none else if (v71 (k1 + 1) t4.2.1.toNatClampNeg) = 70 then (j_Model_cut_98 k1 K4 t4 t11 v71) else (if t4.2.1 < 0 ∨ 401 ≤ t4.2.1.toNatClampNeg then none else bnd (pu v71 (k1 + 1) t4.2.1.toNatClampNeg 71) fun v97 => j_Model_cut_98 k1 K4 t4 t11 v97)) else (j_Model_cut_98 k1 K4 t4 t11 v71)))
def b_Model_cut_4 (z : Nat) (sp : Nat) (k1 : Nat) (K4 : (Int32 × Int32 × Va) → Option Va) (t4 : Int32 × Int32 × Va) : Option Va := if 400 < t4.2.1 then (some t4.2.2) else (rp (b_Model_cut_11 z sp k1 K4 t4) z t4.1)
def f_Model_cut (z : Nat) (v : Va) (sp : Nat) (k1 : Nat) : Option Va := rp (b_Model_cut_4 z sp k1) z (0, 0, v)
theorem c_Model_cut {sp : Nat} {k1 : Nat} (hk : isModel sh sp) (hk1 : isSheet sh k1) (hF : EF Γ) {q : Va} (h : f_Model_cut z v sp k1 = some q) : MetV l yX14_cut cX14_cut 4 none 7 Γ sh v w n [.ref (Γ.2.1 + 149), .ref (Γ.2.1 + k1)] (fun u => u = q) := by
  unfold f_Model_cut at h
  refine w_start pn_X14 (Nat.le_of_ble_eq_true rfl) fun p e s m args below meth c hx hb hml hret hlk hnm hts hown hK hP hz hE hS ls hl => ?_
  refine lv_iconst (v := 0) hx hb dX14_cut_0 rfl ?_
  refine lv_istore_n (lv' := [(2, .int 0), (0, .ref (Γ.2.1 + 149)), (1, .ref (Γ.2.1 + k1))]) hx hb dX14_cut_1 rfl hl (by decide) rfl fun ls hl => ?_
  refine lv_iconst (v := 0) hx hb dX14_cut_2 rfl ?_
  refine lv_istore_n (lv' := [(3, .int 0), (2, .int 0), (0, .ref (Γ.2.1 + 149)), (1, .ref (Γ.2.1 + k1))]) hx hb dX14_cut_3 rfl hl (by decide) rfl fun ls hl => ?_
  have L4 : ∀ (fu : Nat) (t4 : Int32 × Int32 × Va), rp (b_Model_cut_4 z sp k1) fu t4 = some q → ∀ (H1 : Heap) (locs1 : List Loc) (ls1 : Array Slot), lv_has ls1 4 [(0, .ref (Γ.2.1 + 149)), (1, .ref (Γ.2.1 + k1)), (2, .int t4.1), (3, .int t4.2.1)] → Wd Γ sh t4.2.2 w H1 → va_S (gA Γ) s.heap H1 locs1 → H1.size = Γ.2.1 + n → wpV Γ sh w n 7 (fun u => u = q) p l e s m args below meth c H1 locs1 (F0 m 4 ls1 []) := by
    refine q_loop (fun K4 ih4 t4 h H1 locs1 ls hl hP hS hz => ?_)
    unfold b_Model_cut_4 at h
    refine lv_iload_n hx hb dX14_cut_4 rfl (lv_at hl 3 rfl) ?_
    refine lv_sipush (v := 400) hx hb dX14_cut_5 rfl ?_
    refine lv_icmp_gt (tgt := 125) hx hb dX14_cut_8 rfl (fun hc8 => ?_) (fun hc8 => ?_)
    · have h := itt_e h hc8
      exact w_vret hx hb hret hlk hK hP hS hz hE (Option.some.inj h) dX14_cut_125
    · have h := itf_e h hc8
      have L11 : ∀ (fu : Nat) (t11 : Int32), rp (b_Model_cut_11 z sp k1 K4 t4) fu t11 = some q → ∀ (H1 : Heap) (locs1 : List Loc) (ls1 : Array Slot), lv_has ls1 4 [(0, .ref (Γ.2.1 + 149)), (1, .ref (Γ.2.1 + k1)), (2, .int t11), (3, .int t4.2.1)] → Wd Γ sh t4.2.2 w H1 → va_S (gA Γ) s.heap H1 locs1 → H1.size = Γ.2.1 + n → wpV Γ sh w n 7 (fun u => u = q) p l e s m args below meth c H1 locs1 (F0 m 11 ls1 []) := by
        refine q_loop (fun K11 ih11 t11 h H1 locs1 ls hl hP hS hz => ?_)
        unfold b_Model_cut_11 at h
        refine lv_aload_n hx hb dX14_cut_11 rfl (lv_at hl 0 rfl) ?_
        refine lv_iload_n hx hb dX14_cut_12 rfl (lv_at hl 2 rfl) ?_
        obtain ⟨q13, e13, h⟩ := obn_e h
        refine z_Vi (k := 149) (r1 := q13) (v1 := t4.2.2) hx hb hml hts hown hK hP hS hz hE (c_Model_byteAt hk e13) kX14_byteAt mX14_60 hk.1 rfl rfl rfl hl.1 (Nat.le_of_ble_eq_true rfl) ⟨Nat.le_of_ble_eq_true rfl, Nat.le_of_ble_eq_true rfl⟩ ⟨Nat.le_refl _, Nat.le_refl _⟩ dX14_cut_13 fun H1 locs1 hz hP hS => ?_
        refine lv_bipush (v := 32) hx hb dX14_cut_16 rfl ?_
        have J31 : (j_Model_cut_31 K11 t11) = some q → ∀ (H1 : Heap) (locs1 : List Loc) (ls1 : Array Slot), lv_has ls1 4 [(0, .ref (Γ.2.1 + 149)), (1, .ref (Γ.2.1 + k1)), (2, .int t11), (3, .int t4.2.1)] → Wd Γ sh t4.2.2 w H1 → va_S (gA Γ) s.heap H1 locs1 → H1.size = Γ.2.1 + n → wpV Γ sh w n 7 (fun u => u = q) p l e s m args below meth c H1 locs1 (F0 m 31 ls1 []) := by
          intro  h H1 locs1 ls hl hP hS hz
          unfold j_Model_cut_31 at h
          refine lv_iinc (k := 2) (v := (t11 + 1)) (lv' := [(2, .int (t11 + 1)), (0, .ref (Γ.2.1 + 149)), (1, .ref (Γ.2.1 + k1)), (3, .int t4.2.1)]) hx hb dX14_cut_31 hl rfl rfl (by decide) rfl fun ls hl => ?_
          refine lv_goto (tgt := 11) hx hb dX14_cut_34 rfl ?_
          exact ih11 (t11 + 1) h _ _ _ (lv_sub hl [1, 2, 0, 3] rfl) hP hS hz
        refine lv_icmp_eq (tgt := 31) hx hb dX14_cut_18 rfl (fun hc18 => ?_) (fun hc18 => ?_)
        · have h := itt_e h hc18
          exact J31 h _ _ _ (lv_sub hl [0, 1, 2, 3] rfl) hP hS hz
        · have h := itf_e h hc18
          refine lv_aload_n hx hb dX14_cut_21 rfl (lv_at hl 0 rfl) ?_
          refine lv_iload_n hx hb dX14_cut_22 rfl (lv_at hl 2 rfl) ?_
          obtain ⟨q23, e23, h⟩ := obn_e h
          refine z_Vi (k := 149) (r1 := q23) (v1 := t4.2.2) hx hb hml hts hown hK hP hS hz hE (c_Model_byteAt hk e23) kX14_byteAt mX14_60 hk.1 rfl rfl rfl hl.1 (Nat.le_of_ble_eq_true rfl) ⟨Nat.le_of_ble_eq_true rfl, Nat.le_of_ble_eq_true rfl⟩ ⟨Nat.le_refl _, Nat.le_refl _⟩ dX14_cut_23 fun H1 locs1 hz hP hS => ?_
          refine lv_bipush (v := 10) hx hb dX14_cut_26 rfl ?_
          refine lv_icmp_ne (tgt := 37) hx hb dX14_cut_28 rfl (fun hc28 => ?_) (fun hc28 => ?_)
          · have h := itf_e h hc28
            refine lv_aload_n hx hb dX14_cut_37 rfl (lv_at hl 1 rfl) ?_
            refine w_gr (k := k1) (r := (k1 + 2)) hx hb hts hown hK hP fX14_93 hk1.1 rfl dX14_cut_38 ?_
            refine lv_iload_n hx hb dX14_cut_41 rfl (lv_at hl 3 rfl) ?_
            refine lv_iload_n hx hb dX14_cut_42 rfl (lv_at hl 2 rfl) ?_
            obtain ⟨hn43, h⟩ := itn_e h
            obtain ⟨v43, e43, h⟩ := bnd_e h
            refine w_ia2 (k := (k1 + 2)) hx hb hK hP hS hz hk1.2.2.1 hn43 e43 dX14_cut_43 fun H1 locs1 hz hP hS => ?_
            refine lv_aload_n hx hb dX14_cut_44 rfl (lv_at hl 1 rfl) ?_
            refine w_gr (k := k1) (r := (k1 + 3)) hx hb hts hown hK hP fX14_96 hk1.1 rfl dX14_cut_45 ?_
            refine lv_iload_n hx hb dX14_cut_48 rfl (lv_at hl 3 rfl) ?_
            refine lv_aload_n hx hb dX14_cut_49 rfl (lv_at hl 0 rfl) ?_
            refine lv_iload_n hx hb dX14_cut_50 rfl (lv_at hl 2 rfl) ?_
            obtain ⟨q51, e51, h⟩ := obn_e h
            refine z_Vi (k := 149) (r1 := q51) (v1 := v43) hx hb hml hts hown hK hP hS hz hE (c_Model_lengthAt hk e51) kX14_lengthAt mX14_99 hk.1 rfl rfl rfl hl.1 (Nat.le_of_ble_eq_true rfl) ⟨Nat.le_of_ble_eq_true rfl, Nat.le_of_ble_eq_true rfl⟩ ⟨Nat.le_refl _, Nat.le_refl _⟩ dX14_cut_51 fun H1 locs1 hz hP hS => ?_
            obtain ⟨hn54, h⟩ := itn_e h
            obtain ⟨v54, e54, h⟩ := bnd_e h
            refine w_ia2 (k := (k1 + 3)) hx hb hK hP hS hz hk1.2.2.2.1 hn54 e54 dX14_cut_54 fun H1 locs1 hz hP hS => ?_
            refine lv_aload_n hx hb dX14_cut_55 rfl (lv_at hl 1 rfl) ?_
            refine w_gr (k := k1) (r := (k1 + 1)) hx hb hts hown hK hP fX14_102 hk1.1 rfl dX14_cut_56 ?_
            refine lv_iload_n hx hb dX14_cut_59 rfl (lv_at hl 3 rfl) ?_
            refine lv_aload_n hx hb dX14_cut_60 rfl (lv_at hl 0 rfl) ?_
            refine lv_iload_n hx hb dX14_cut_61 rfl (lv_at hl 2 rfl) ?_
            refine lv_aload_n hx hb dX14_cut_62 rfl (lv_at hl 1 rfl) ?_
            refine w_gr (k := k1) (r := (k1 + 3)) hx hb hts hown hK hP fX14_96 hk1.1 rfl dX14_cut_63 ?_
            refine lv_iload_n hx hb dX14_cut_66 rfl (lv_at hl 3 rfl) ?_
            obtain ⟨hn67, h⟩ := itn_e h
            refine w_iald (k := (k1 + 3)) hx hb hK hP hk1.2.2.2.1 hn67 dX14_cut_67 ?_
            obtain ⟨q68, e68, h⟩ := obn_e h
            refine z_Vi (k := 149) (r1 := q68) (v1 := v54) hx hb hml hts hown hK hP hS hz hE (c_Model_kindAt hk hF e68) kX14_kindAt mX14_105 hk.1 rfl rfl rfl hl.1 (Nat.le_of_ble_eq_true rfl) ⟨Nat.le_of_ble_eq_true rfl, Nat.le_of_ble_eq_true rfl⟩ ⟨Nat.le_refl _, Nat.le_refl _⟩ dX14_cut_68 fun H1 locs1 hz hP hS => ?_
            obtain ⟨hn71, h⟩ := itn_e h
            obtain ⟨v71, e71, h⟩ := bnd_e h
            refine w_ia2 (k := (k1 + 1)) hx hb hK hP hS hz hk1.2.1 hn71 e71 dX14_cut_71 fun H1 locs1 hz hP hS => ?_
            refine lv_iload_n hx hb dX14_cut_72 rfl (lv_at hl 3 rfl) ?_
            refine lv_sipush (v := 400) hx hb dX14_cut_73 rfl ?_
            have J98 : ∀ (v98 : Va), (j_Model_cut_98 k1 K4 t4 t11) v98 = some q → ∀ (H1 : Heap) (locs1 : List Loc) (ls1 : Array Slot), lv_has ls1 4 [(0, .ref (Γ.2.1 + 149)), (1, .ref (Γ.2.1 + k1)), (2, .int t11), (3, .int t4.2.1)] → Wd Γ sh v98 w H1 → va_S (gA Γ) s.heap H1 locs1 → H1.size = Γ.2.1 + n → wpV Γ sh w n 7 (fun u => u = q) p l e s m args below meth c H1 locs1 (F0 m 98 ls1 []) := by
              intro v98 h H1 locs1 ls hl hP hS hz
              unfold j_Model_cut_98 at h
              refine lv_aload_n hx hb dX14_cut_98 rfl (lv_at hl 1 rfl) ?_
              refine w_gr (k := k1) (r := (k1 + 1)) hx hb hts hown hK hP fX14_102 hk1.1 rfl dX14_cut_99 ?_
              refine lv_iload_n hx hb dX14_cut_102 rfl (lv_at hl 3 rfl) ?_
              obtain ⟨hn103, h⟩ := itn_e h
              refine w_iald (k := (k1 + 1)) hx hb hK hP hk1.2.1 hn103 dX14_cut_103 ?_
              refine lv_bipush (v := 70) hx hb dX14_cut_104 rfl ?_
              refine lv_icmp_lt (tgt := 110) hx hb dX14_cut_106 rfl (fun hc106 => ?_) (fun hc106 => ?_)
              · have h := itt_e h hc106
                refine lv_iload_n hx hb dX14_cut_110 rfl (lv_at hl 2 rfl) ?_
                refine lv_aload_n hx hb dX14_cut_111 rfl (lv_at hl 1 rfl) ?_
                refine w_gr (k := k1) (r := (k1 + 3)) hx hb hts hown hK hP fX14_96 hk1.1 rfl dX14_cut_112 ?_
                refine lv_iload_n hx hb dX14_cut_115 rfl (lv_at hl 3 rfl) ?_
                obtain ⟨hn116, h⟩ := itn_e h
                refine w_iald (k := (k1 + 3)) hx hb hK hP hk1.2.2.2.1 hn116 dX14_cut_116 ?_
                refine lv_iadd hx hb dX14_cut_117 ?_
                refine lv_istore_n (lv' := [(2, .int (t11 + (v98 (k1 + 3) t4.2.1.toNatClampNeg))), (0, .ref (Γ.2.1 + 149)), (1, .ref (Γ.2.1 + k1)), (3, .int t4.2.1)]) hx hb dX14_cut_118 rfl hl (by decide) rfl fun ls hl => ?_
                refine lv_iinc (k := 3) (v := (t4.2.1 + 1)) (lv' := [(3, .int (t4.2.1 + 1)), (2, .int (t11 + (v98 (k1 + 3) t4.2.1.toNatClampNeg))), (0, .ref (Γ.2.1 + 149)), (1, .ref (Γ.2.1 + k1))]) hx hb dX14_cut_119 hl rfl rfl (by decide) rfl fun ls hl => ?_
                refine lv_goto (tgt := 4) hx hb dX14_cut_122 rfl ?_
                exact ih4 ((t11 + (v98 (k1 + 3) t4.2.1.toNatClampNeg)), (t4.2.1 + 1), v98) h _ _ _ (lv_sub hl [2, 3, 1, 0] rfl) hP hS hz
              · have h := itf_e h hc106
                exact w_vret hx hb hret hlk hK hP hS hz hE (Option.some.inj h) dX14_cut_109
            refine lv_icmp_ne (tgt := 98) hx hb dX14_cut_76 rfl (fun hc76 => ?_) (fun hc76 => ?_)
            · have h := itf_e h hc76
              exact J98 v71 h _ _ _ (lv_sub hl [0, 1, 2, 3] rfl) hP hS hz
            · have h := itt_e h hc76
              refine lv_aload_n hx hb dX14_cut_79 rfl (lv_at hl 1 rfl) ?_
              refine w_gr (k := k1) (r := (k1 + 1)) hx hb hts hown hK hP fX14_102 hk1.1 rfl dX14_cut_80 ?_
              refine lv_iload_n hx hb dX14_cut_83 rfl (lv_at hl 3 rfl) ?_
              obtain ⟨hn84, h⟩ := itn_e h
              refine w_iald (k := (k1 + 1)) hx hb hK hP hk1.2.1 hn84 dX14_cut_84 ?_
              refine lv_bipush (v := 70) hx hb dX14_cut_85 rfl ?_
              refine lv_icmp_eq (tgt := 98) hx hb dX14_cut_87 rfl (fun hc87 => ?_) (fun hc87 => ?_)
              · have h := itt_e h hc87
                exact J98 v71 h _ _ _ (lv_sub hl [0, 1, 2, 3] rfl) hP hS hz
              · have h := itf_e h hc87
                refine lv_aload_n hx hb dX14_cut_90 rfl (lv_at hl 1 rfl) ?_
                refine w_gr (k := k1) (r := (k1 + 1)) hx hb hts hown hK hP fX14_102 hk1.1 rfl dX14_cut_91 ?_
                refine lv_iload_n hx hb dX14_cut_94 rfl (lv_at hl 3 rfl) ?_
                refine lv_bipush (v := 71) hx hb dX14_cut_95 rfl ?_
                obtain ⟨hn97, h⟩ := itn_e h
                obtain ⟨v97, e97, h⟩ := bnd_e h
                refine w_ia2 (k := (k1 + 1)) hx hb hK hP hS hz hk1.2.1 hn97 e97 dX14_cut_97 fun H1 locs1 hz hP hS => ?_
                exact J98 v97 h _ _ _ (lv_sub hl [0, 1, 2, 3] rfl) hP hS hz
          · have h := itt_e h hc28
            exact J31 h _ _ _ (lv_sub hl [0, 1, 2, 3] rfl) hP hS hz
      exact L11 z t4.1 h _ _ _ (lv_sub hl [0, 1, 2, 3] rfl) hP hS hz
  exact L4 z (0, 0, v) h _ _ _ (lv_sub hl [2, 3, 1, 0] rfl) hP hS hz
def b_Model_read_40 (z : Nat) (sp : Nat) (k1 : Nat) (K40 : (Int32 × Va) → Option (Int32 × Va)) (t40 : Int32 × Va) : Option (Int32 × Va) := if (t40.2 149 4) ≤ t40.1 then (some (0, t40.2)) else ((f_Model_errorOf z t40.2 sp k1 t40.1).bind fun q51 => if q51.1 = 0 then (K40 ((t40.1 + 1), q51.2)) else (if t40.1 < 0 ∨ 401 ≤ t40.1.toNatClampNeg then none else bnd (pu q51.2 149 3 (q51.2 (k1 + 2) t40.1.toNatClampNeg)) fun v69 => some (q51.1, v69)))
def f_Model_read (z : Nat) (v : Va) (sp : Nat) (k1 : Nat) : Option (Int32 × Va) := (f_Model_cut z v sp k1).bind fun q2 => bnd (pu q2 149 4 0) fun v7 => bnd (pu v7 149 5 0) fun v12 => (f_Model_isList z v12 sp k1).bind fun q17 => if (q_b q17.1) = 0 then (if (q17.2 149 4) < 0 ∨ 401 ≤ (q17.2 149 4).toNatClampNeg then none else bnd (pu q17.2 149 3 (q17.2 (k1 + 2) (q17.2 149 4).toNatClampNeg)) fun v33 => some (1, v33)) else (rp (b_Model_read_40 z sp k1) z (0, q17.2))
theorem c_Model_read {sp : Nat} {k1 : Nat} (hk : isModel sh sp) (hk1 : isSheet sh k1) (hF : EF Γ) {q : Int32 × Va} (h : f_Model_read z v sp k1 = some q) : MetI l yX14_read cX14_read 4 (some .int) 54 Γ sh v w n [.ref (Γ.2.1 + 149), .ref (Γ.2.1 + k1)] (fun x u => x = q.1 ∧ u = q.2) := by
  unfold f_Model_read at h
  refine w_start pn_X14 (Nat.le_of_ble_eq_true rfl) fun p e s m args below meth c hx hb hml hret hlk hnm hts hown hK hP hz hE hS ls hl => ?_
  refine lv_aload_n hx hb dX14_read_0 rfl (lv_at hl 0 rfl) ?_
  refine lv_aload_n hx hb dX14_read_1 rfl (lv_at hl 1 rfl) ?_
  obtain ⟨q2, e2, h⟩ := obn_e h
  refine z_Vv (k := 149) (v1 := q2) hx hb hml hts hown hK hP hS hz hE (c_Model_cut hk hk1 hF e2) kX14_cut mX14_257 hk.1 rfl rfl rfl hl.1 (Nat.le_of_ble_eq_true rfl) ⟨Nat.le_of_ble_eq_true rfl, Nat.le_of_ble_eq_true rfl⟩ ⟨Nat.le_refl _, Nat.le_refl _⟩ dX14_read_2 fun H1 locs1 hz hP hS => ?_
  refine lv_aload_n hx hb dX14_read_5 rfl (lv_at hl 0 rfl) ?_
  refine lv_iconst (v := 0) hx hb dX14_read_6 rfl ?_
  obtain ⟨v7, e7, h⟩ := bnd_e h
  refine w_pi2 (k := 149) hx hb hts hown hK hP hS hz fX14_108 hk.1 rfl e7 dX14_read_7 fun H1 locs1 hz hP hS => ?_
  refine lv_aload_n hx hb dX14_read_10 rfl (lv_at hl 0 rfl) ?_
  refine lv_iconst (v := 0) hx hb dX14_read_11 rfl ?_
  obtain ⟨v12, e12, h⟩ := bnd_e h
  refine w_pi2 (k := 149) hx hb hts hown hK hP hS hz fX14_111 hk.1 rfl e12 dX14_read_12 fun H1 locs1 hz hP hS => ?_
  refine lv_aload_n hx hb dX14_read_15 rfl (lv_at hl 0 rfl) ?_
  refine lv_aload_n hx hb dX14_read_16 rfl (lv_at hl 1 rfl) ?_
  obtain ⟨q17, e17, h⟩ := obn_e h
  refine z_Vi (k := 149) (r1 := (q_b q17.1)) (v1 := q17.2) hx hb hml hts hown hK hP hS hz hE (c_Model_isList hk hk1 e17) kX14_isList mX14_261 hk.1 rfl rfl rfl hl.1 (Nat.le_of_ble_eq_true rfl) ⟨Nat.le_of_ble_eq_true rfl, Nat.le_of_ble_eq_true rfl⟩ ⟨Nat.le_refl _, Nat.le_refl _⟩ dX14_read_17 fun H1 locs1 hz hP hS => ?_
  refine lv_if_ne (tgt := 38) hx hb dX14_read_20 rfl (fun hc20 => ?_) (fun hc20 => ?_)
  · have h := itf_e h hc20
    refine lv_iconst (v := 0) hx hb dX14_read_38 rfl ?_
    refine lv_istore_n (lv' := [(2, .int 0), (0, .ref (Γ.2.1 + 149)), (1, .ref (Γ.2.1 + k1))]) hx hb dX14_read_39 rfl hl (by decide) rfl fun ls hl => ?_
    have L40 : ∀ (fu : Nat) (t40 : Int32 × Va), rp (b_Model_read_40 z sp k1) fu t40 = some q → ∀ (H1 : Heap) (locs1 : List Loc) (ls1 : Array Slot), lv_has ls1 4 [(0, .ref (Γ.2.1 + 149)), (1, .ref (Γ.2.1 + k1)), (2, .int t40.1)] → Wd Γ sh t40.2 w H1 → va_S (gA Γ) s.heap H1 locs1 → H1.size = Γ.2.1 + n → wpI Γ sh w n 54 (fun x u => x = q.1 ∧ u = q.2) p l e s m args below meth c H1 locs1 (F0 m 40 ls1 []) := by
      refine q_loop (fun K40 ih40 t40 h H1 locs1 ls hl hP hS hz => ?_)
      unfold b_Model_read_40 at h
      refine lv_iload_n hx hb dX14_read_40 rfl (lv_at hl 2 rfl) ?_
      refine lv_aload_n hx hb dX14_read_41 rfl (lv_at hl 0 rfl) ?_
      refine w_gi (k := 149) hx hb hts hown hK hP fX14_108 hk.1 rfl dX14_read_42 ?_
      refine lv_icmp_ge (tgt := 80) hx hb dX14_read_45 rfl (fun hc45 => ?_) (fun hc45 => ?_)
      · have h := itt_e h hc45
        refine lv_iconst (v := 0) hx hb dX14_read_80 rfl ?_
        exact w_iret hx hb hret rfl hlk hK hP hS hz hE (q_p2 h) dX14_read_81
      · have h := itf_e h hc45
        refine lv_aload_n hx hb dX14_read_48 rfl (lv_at hl 0 rfl) ?_
        refine lv_aload_n hx hb dX14_read_49 rfl (lv_at hl 1 rfl) ?_
        refine lv_iload_n hx hb dX14_read_50 rfl (lv_at hl 2 rfl) ?_
        obtain ⟨q51, e51, h⟩ := obn_e h
        refine z_Vi (k := 149) (r1 := q51.1) (v1 := q51.2) hx hb hml hts hown hK hP hS hz hE (c_Model_errorOf hk hk1 e51) kX14_errorOf mX14_264 hk.1 rfl rfl rfl hl.1 (Nat.le_of_ble_eq_true rfl) ⟨Nat.le_of_ble_eq_true rfl, Nat.le_of_ble_eq_true rfl⟩ ⟨Nat.le_refl _, Nat.le_refl _⟩ dX14_read_51 fun H1 locs1 hz hP hS => ?_
        refine lv_istore_n (lv' := [(3, .int q51.1), (0, .ref (Γ.2.1 + 149)), (1, .ref (Γ.2.1 + k1)), (2, .int t40.1)]) hx hb dX14_read_54 rfl hl (by decide) rfl fun ls hl => ?_
        refine lv_iload_n hx hb dX14_read_55 rfl (lv_at hl 0 rfl) ?_
        refine lv_if_ne (tgt := 62) hx hb dX14_read_56 rfl (fun hc56 => ?_) (fun hc56 => ?_)
        · have h := itf_e h hc56
          refine lv_aload_n hx hb dX14_read_62 rfl (lv_at hl 1 rfl) ?_
          refine lv_aload_n hx hb dX14_read_63 rfl (lv_at hl 2 rfl) ?_
          refine w_gr (k := k1) (r := (k1 + 2)) hx hb hts hown hK hP fX14_93 hk1.1 rfl dX14_read_64 ?_
          refine lv_iload_n hx hb dX14_read_67 rfl (lv_at hl 3 rfl) ?_
          obtain ⟨hn68, h⟩ := itn_e h
          refine w_iald (k := (k1 + 2)) hx hb hK hP hk1.2.2.1 hn68 dX14_read_68 ?_
          obtain ⟨v69, e69, h⟩ := bnd_e h
          refine w_pi2 (k := 149) hx hb hts hown hK hP hS hz fX14_13 hk.1 rfl e69 dX14_read_69 fun H1 locs1 hz hP hS => ?_
          refine lv_iload_n hx hb dX14_read_72 rfl (lv_at hl 0 rfl) ?_
          exact w_iret hx hb hret rfl hlk hK hP hS hz hE (q_p2 h) dX14_read_73
        · have h := itt_e h hc56
          refine lv_goto (tgt := 74) hx hb dX14_read_59 rfl ?_
          refine lv_iinc (k := 3) (v := (t40.1 + 1)) (lv' := [(2, .int (t40.1 + 1)), (3, .int q51.1), (0, .ref (Γ.2.1 + 149)), (1, .ref (Γ.2.1 + k1))]) hx hb dX14_read_74 hl rfl rfl (by decide) rfl fun ls hl => ?_
          refine lv_goto (tgt := 40) hx hb dX14_read_77 rfl ?_
          exact ih40 ((t40.1 + 1), q51.2) h _ _ _ (lv_sub hl [2, 3, 0] rfl) hP hS hz
    exact L40 z (0, q17.2) h _ _ _ (lv_sub hl [1, 2, 0] rfl) hP hS hz
  · have h := itt_e h hc20
    refine lv_aload_n hx hb dX14_read_23 rfl (lv_at hl 0 rfl) ?_
    refine lv_aload_n hx hb dX14_read_24 rfl (lv_at hl 1 rfl) ?_
    refine w_gr (k := k1) (r := (k1 + 2)) hx hb hts hown hK hP fX14_93 hk1.1 rfl dX14_read_25 ?_
    refine lv_aload_n hx hb dX14_read_28 rfl (lv_at hl 0 rfl) ?_
    refine w_gi (k := 149) hx hb hts hown hK hP fX14_108 hk.1 rfl dX14_read_29 ?_
    obtain ⟨hn32, h⟩ := itn_e h
    refine w_iald (k := (k1 + 2)) hx hb hK hP hk1.2.2.1 hn32 dX14_read_32 ?_
    obtain ⟨v33, e33, h⟩ := bnd_e h
    refine w_pi2 (k := 149) hx hb hts hown hK hP hS hz fX14_13 hk.1 rfl e33 dX14_read_33 fun H1 locs1 hz hP hS => ?_
    refine lv_iconst (v := 1) hx hb dX14_read_36 rfl ?_
    exact w_iret hx hb hret rfl hlk hK hP hS hz hE (q_p2 h) dX14_read_37
end GE
