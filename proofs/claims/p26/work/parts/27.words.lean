
section GE
variable {l : Launch} {Γ : Cx} {sh : Sh} {v : Va} {w : Vl} {n z : Nat}
def b_Tokens_spells_3 (v : Va) (a1 : Int32) (a2 : Int32) (a3 : Int32) (K3 : Int32 → Option Bool) (t3 : Int32) : Option Bool := if a3 ≤ t3 then (some true) else ((f_Str_length_8abf5 v litX10_84).bind fun q15 => if q15 ≤ (a1 + t3) then (some false) else ((f_Str_charAt_5068e v litX10_84 (a1 + t3)).bind fun q27 => bnd (row_g 2000 (v 2) (a2 + t3)) fun q38 => if q27 = q38 then (K3 (t3 + 1)) else (some false)))
def f_Tokens_spells (z : Nat) (v : Va) (a1 : Int32) (a2 : Int32) (a3 : Int32) : Option Bool := rp (b_Tokens_spells_3 v a1 a2 a3) z 0
theorem c_Tokens_spells {a1 : Int32} {a2 : Int32} {a3 : Int32} (hk : isTokens sh) (hF : EF Γ sh) {q : Bool} (h : f_Tokens_spells z v a1 a2 a3 = some q) : MetI l yX10_spells cX10_spells 5 (some .boolean) 5 Γ sh v w n [.ref (Γ.2.1 + 3), .int a1, .int a2, .int a3] (fun x u => x = q_b q ∧ u = v) := by
  unfold f_Tokens_spells at h
  refine w_start pn_X10 (Nat.le_of_ble_eq_true rfl) fun p e s m args below meth c hx hb hml hret hlk hnm hts hown hK hP hz hE hS ls hl => ?_
  obtain ⟨ad84, av84, hr84, hs84⟩ := LT.get hE hF.2.2.1
  refine lv_iconst (v := 0) hx hb dX10_spells_0 rfl ?_
  refine lv_istore (lv' := [(4, .int 0), (0, .ref (Γ.2.1 + 3)), (1, .int a1), (2, .int a2), (3, .int a3)]) hx hb dX10_spells_1 hl (by decide) rfl fun ls hl => ?_
  have L3 : ∀ (fu : Nat) (t3 : Int32), rp (b_Tokens_spells_3 v a1 a2 a3) fu t3 = some q → ∀ (H1 : Heap) (locs1 : List Loc) (ls1 : Array Slot), lv_has ls1 5 [(0, .ref (Γ.2.1 + 3)), (1, .int a1), (2, .int a2), (3, .int a3), (4, .int t3)] → Wd Γ sh v w H1 → va_S (gA Γ sh n) s.heap H1 locs1 → H1.size = Γ.2.1 + n → wpI Γ sh w n 5 (fun x u => x = q_b q ∧ u = v) p l e s m args below meth c H1 locs1 (F0 m 3 ls1 []) := by
    refine q_loop (fun K3 ih3 t3 h H1 locs1 ls hl hP hS hz => ?_)
    unfold b_Tokens_spells_3 at h
    refine lv_iload hx hb dX10_spells_3 (lv_at hl 4 rfl) ?_
    refine lv_iload_n hx hb dX10_spells_5 rfl (lv_at hl 3 rfl) ?_
    refine lv_icmp_ge (tgt := 52) hx hb dX10_spells_6 rfl (fun hc6 => ?_) (fun hc6 => ?_)
    · have h := itt_e h hc6
      refine lv_iconst (v := 1) hx hb dX10_spells_52 rfl ?_
      exact w_iret hx hb hret rfl hlk hK hP hS hz hE (q_p1b h) dX10_spells_53
    · have h := itf_e h hc6
      refine lv_iload_n hx hb dX10_spells_9 rfl (lv_at hl 1 rfl) ?_
      refine lv_iload hx hb dX10_spells_10 (lv_at hl 4 rfl) ?_
      refine lv_iadd hx hb dX10_spells_12 ?_
      refine va_ldcS hx hb hown hr84 dX10_spells_13 ?_
      obtain ⟨q15, e15, h⟩ := obn_e h
      refine z_sVi (a := ad84) (r1 := q15) (v1 := v) hx hb hml hts hown hK hP hS hz hE (c_Str_length_8abf5 hs84 hF e15) kJ0_length_8abf5 mX10_86 (sl_recv hE hS hs84) rfl rfl hl.1 (Nat.le_of_ble_eq_true rfl) ⟨Nat.le_of_ble_eq_true rfl, Nat.le_of_ble_eq_true rfl⟩ ⟨Nat.le_refl _, Nat.le_refl _⟩ dX10_spells_15 fun H1 locs1 hz hP hS => ?_
      refine lv_icmp_ge (tgt := 44) hx hb dX10_spells_18 rfl (fun hc18 => ?_) (fun hc18 => ?_)
      · have h := itt_e h hc18
        refine lv_iconst (v := 0) hx hb dX10_spells_44 rfl ?_
        exact w_iret hx hb hret rfl hlk hK hP hS hz hE (q_p1b h) dX10_spells_45
      · have h := itf_e h hc18
        refine va_ldcS hx hb hown hr84 dX10_spells_21 ?_
        refine lv_iload_n hx hb dX10_spells_23 rfl (lv_at hl 1 rfl) ?_
        refine lv_iload hx hb dX10_spells_24 (lv_at hl 4 rfl) ?_
        refine lv_iadd hx hb dX10_spells_26 ?_
        obtain ⟨q27, e27, h⟩ := obn_e h
        refine z_sVi (a := ad84) (r1 := q27) (v1 := v) hx hb hml hts hown hK hP hS hz hE (c_Str_charAt_5068e hs84 hF e27) kJ0_charAt_5068e mX10_89 (sl_recv hE hS hs84) rfl rfl hl.1 (Nat.le_of_ble_eq_true rfl) ⟨Nat.le_of_ble_eq_true rfl, Nat.le_of_ble_eq_true rfl⟩ ⟨Nat.le_refl _, Nat.le_refl _⟩ dX10_spells_27 fun H1 locs1 hz hP hS => ?_
        refine lv_aload_n hx hb dX10_spells_30 rfl (lv_at hl 0 rfl) ?_
        refine w_gr (k := 3) (r := 1) hx hb hts hown hK hP fX10_7 hk.1 rfl dX10_spells_31 ?_
        refine lv_iload_n hx hb dX10_spells_34 rfl (lv_at hl 2 rfl) ?_
        refine lv_iload hx hb dX10_spells_35 (lv_at hl 4 rfl) ?_
        refine lv_iadd hx hb dX10_spells_37 ?_
        obtain ⟨q38, e38, h⟩ := bnd_e h
        refine z_Vi (k := 1) (r1 := q38) (v1 := v) hx hb hml hts hown hK hP hS hz hE (C_Row_get hk.2.1 e38) kX7_get mX10_45 hk.2.1.1 rfl rfl rfl hl.1 (Nat.le_of_ble_eq_true rfl) ⟨Nat.le_of_ble_eq_true rfl, Nat.le_of_ble_eq_true rfl⟩ ⟨Nat.le_refl _, Nat.le_refl _⟩ dX10_spells_38 fun H1 locs1 hz hP hS => ?_
        refine lv_icmp_eq (tgt := 46) hx hb dX10_spells_41 rfl (fun hc41 => ?_) (fun hc41 => ?_)
        · have h := itt_e h hc41
          refine lv_iinc (k := 4) (v := (t3 + 1)) (lv' := [(4, .int (t3 + 1)), (0, .ref (Γ.2.1 + 3)), (1, .int a1), (2, .int a2), (3, .int a3)]) hx hb dX10_spells_46 hl rfl rfl (by decide) rfl fun ls hl => ?_
          refine lv_goto (tgt := 3) hx hb dX10_spells_49 rfl ?_
          exact ih3 (t3 + 1) h _ _ _ (lv_sub hl [1, 2, 3, 4, 0] rfl) hP hS hz
        · have h := itf_e h hc41
          refine lv_iconst (v := 0) hx hb dX10_spells_44 rfl ?_
          exact w_iret hx hb hret rfl hlk hK hP hS hz hE (q_p1b h) dX10_spells_45
  exact L3 z 0 h _ _ _ (lv_sub hl [1, 2, 3, 4, 0] rfl) hP hS hz
def j_Tokens_keyword_61 (K8 : (Int32 × Int32 × Int32) → Option Int32) (t8 : Int32 × Int32 × Int32) (x61_3 : Int32) (x61_4 : Int32) : Option Int32 := K8 (x61_3, x61_4, (t8.2.2 + 1))
def j_Tokens_keyword_52 (K8 : (Int32 × Int32 × Int32) → Option Int32) (t8 : Int32 × Int32 × Int32) : Option Int32 := j_Tokens_keyword_61 K8 t8 (t8.1 + 1) (t8.2.2 + 1)
def b_Tokens_keyword_8 (z : Nat) (v : Va) (a1 : Int32) (a2 : Int32) (K8 : (Int32 × Int32 × Int32) → Option Int32) (t8 : Int32 × Int32 × Int32) : Option Int32 := (f_Str_length_8abf5 v litX10_84).bind fun q12 => if q12 ≤ t8.2.2 then (some 47) else ((f_Str_charAt_5068e v litX10_84 t8.2.2).bind fun q22 => if q22 = 32 then (if (t8.2.2 - t8.2.1) = a2 then ((f_Tokens_spells z v t8.2.1 a1 a2).bind fun q44 => if (q_b q44) = 0 then (j_Tokens_keyword_52 K8 t8) else (some t8.1)) else (j_Tokens_keyword_52 K8 t8)) else (j_Tokens_keyword_61 K8 t8 t8.1 t8.2.1))
def f_Tokens_keyword (z : Nat) (v : Va) (a1 : Int32) (a2 : Int32) : Option Int32 := rp (b_Tokens_keyword_8 z v a1 a2) z (0, 0, 0)
theorem c_Tokens_keyword {a1 : Int32} {a2 : Int32} (hk : isTokens sh) (hF : EF Γ sh) {q : Int32} (h : f_Tokens_keyword z v a1 a2 = some q) : MetI l yX10_keyword cX10_keyword 6 (some .int) 6 Γ sh v w n [.ref (Γ.2.1 + 3), .int a1, .int a2] (fun x u => x = q ∧ u = v) := by
  unfold f_Tokens_keyword at h
  refine w_start pn_X10 (Nat.le_of_ble_eq_true rfl) fun p e s m args below meth c hx hb hml hret hlk hnm hts hown hK hP hz hE hS ls hl => ?_
  obtain ⟨ad84, av84, hr84, hs84⟩ := LT.get hE hF.2.2.1
  refine lv_iconst (v := 0) hx hb dX10_keyword_0 rfl ?_
  refine lv_istore_n (lv' := [(3, .int 0), (0, .ref (Γ.2.1 + 3)), (1, .int a1), (2, .int a2)]) hx hb dX10_keyword_1 rfl hl (by decide) rfl fun ls hl => ?_
  refine lv_iconst (v := 0) hx hb dX10_keyword_2 rfl ?_
  refine lv_istore (lv' := [(4, .int 0), (3, .int 0), (0, .ref (Γ.2.1 + 3)), (1, .int a1), (2, .int a2)]) hx hb dX10_keyword_3 hl (by decide) rfl fun ls hl => ?_
  refine lv_iconst (v := 0) hx hb dX10_keyword_5 rfl ?_
  refine lv_istore (lv' := [(5, .int 0), (4, .int 0), (3, .int 0), (0, .ref (Γ.2.1 + 3)), (1, .int a1), (2, .int a2)]) hx hb dX10_keyword_6 hl (by decide) rfl fun ls hl => ?_
  have L8 : ∀ (fu : Nat) (t8 : Int32 × Int32 × Int32), rp (b_Tokens_keyword_8 z v a1 a2) fu t8 = some q → ∀ (H1 : Heap) (locs1 : List Loc) (ls1 : Array Slot), lv_has ls1 6 [(0, .ref (Γ.2.1 + 3)), (1, .int a1), (2, .int a2), (3, .int t8.1), (4, .int t8.2.1), (5, .int t8.2.2)] → Wd Γ sh v w H1 → va_S (gA Γ sh n) s.heap H1 locs1 → H1.size = Γ.2.1 + n → wpI Γ sh w n 6 (fun x u => x = q ∧ u = v) p l e s m args below meth c H1 locs1 (F0 m 8 ls1 []) := by
    refine q_loop (fun K8 ih8 t8 h H1 locs1 ls hl hP hS hz => ?_)
    unfold b_Tokens_keyword_8 at h
    refine lv_iload hx hb dX10_keyword_8 (lv_at hl 5 rfl) ?_
    refine va_ldcS hx hb hown hr84 dX10_keyword_10 ?_
    obtain ⟨q12, e12, h⟩ := obn_e h
    refine z_sVi (a := ad84) (r1 := q12) (v1 := v) hx hb hml hts hown hK hP hS hz hE (c_Str_length_8abf5 hs84 hF e12) kJ0_length_8abf5 mX10_86 (sl_recv hE hS hs84) rfl rfl hl.1 (Nat.le_of_ble_eq_true rfl) ⟨Nat.le_of_ble_eq_true rfl, Nat.le_of_ble_eq_true rfl⟩ ⟨Nat.le_refl _, Nat.le_refl _⟩ dX10_keyword_12 fun H1 locs1 hz hP hS => ?_
    refine lv_icmp_ge (tgt := 67) hx hb dX10_keyword_15 rfl (fun hc15 => ?_) (fun hc15 => ?_)
    · have h := itt_e h hc15
      refine lv_bipush (v := 47) hx hb dX10_keyword_67 rfl ?_
      exact w_iret hx hb hret rfl hlk hK hP hS hz hE (q_p1 h) dX10_keyword_69
    · have h := itf_e h hc15
      refine va_ldcS hx hb hown hr84 dX10_keyword_18 ?_
      refine lv_iload hx hb dX10_keyword_20 (lv_at hl 5 rfl) ?_
      obtain ⟨q22, e22, h⟩ := obn_e h
      refine z_sVi (a := ad84) (r1 := q22) (v1 := v) hx hb hml hts hown hK hP hS hz hE (c_Str_charAt_5068e hs84 hF e22) kJ0_charAt_5068e mX10_89 (sl_recv hE hS hs84) rfl rfl hl.1 (Nat.le_of_ble_eq_true rfl) ⟨Nat.le_of_ble_eq_true rfl, Nat.le_of_ble_eq_true rfl⟩ ⟨Nat.le_refl _, Nat.le_refl _⟩ dX10_keyword_22 fun H1 locs1 hz hP hS => ?_
      refine lv_bipush (v := 32) hx hb dX10_keyword_25 rfl ?_
      have J61 : ∀ (x61_3 : Int32) (x61_4 : Int32), (j_Tokens_keyword_61 K8 t8) x61_3 x61_4 = some q → ∀ (H1 : Heap) (locs1 : List Loc) (ls1 : Array Slot), lv_has ls1 6 [(0, .ref (Γ.2.1 + 3)), (1, .int a1), (2, .int a2), (3, .int x61_3), (4, .int x61_4), (5, .int t8.2.2)] → Wd Γ sh v w H1 → va_S (gA Γ sh n) s.heap H1 locs1 → H1.size = Γ.2.1 + n → wpI Γ sh w n 6 (fun x u => x = q ∧ u = v) p l e s m args below meth c H1 locs1 (F0 m 61 ls1 []) := by
        intro x61_3 x61_4 h H1 locs1 ls hl hP hS hz
        unfold j_Tokens_keyword_61 at h
        refine lv_iinc (k := 5) (v := (t8.2.2 + 1)) (lv' := [(5, .int (t8.2.2 + 1)), (0, .ref (Γ.2.1 + 3)), (1, .int a1), (2, .int a2), (3, .int x61_3), (4, .int x61_4)]) hx hb dX10_keyword_61 hl rfl rfl (by decide) rfl fun ls hl => ?_
        refine lv_goto (tgt := 8) hx hb dX10_keyword_64 rfl ?_
        exact ih8 (x61_3, x61_4, (t8.2.2 + 1)) h _ _ _ (lv_sub hl [1, 2, 3, 4, 5, 0] rfl) hP hS hz
      refine lv_icmp_ne (tgt := 61) hx hb dX10_keyword_27 rfl (fun hc27 => ?_) (fun hc27 => ?_)
      · have h := itf_e h hc27
        exact J61 t8.1 t8.2.1 h _ _ _ (lv_sub hl [0, 1, 2, 3, 4, 5] rfl) hP hS hz
      · have h := itt_e h hc27
        refine lv_iload hx hb dX10_keyword_30 (lv_at hl 5 rfl) ?_
        refine lv_iload hx hb dX10_keyword_32 (lv_at hl 4 rfl) ?_
        refine lv_isub hx hb dX10_keyword_34 ?_
        refine lv_iload_n hx hb dX10_keyword_35 rfl (lv_at hl 2 rfl) ?_
        have J52 : (j_Tokens_keyword_52 K8 t8) = some q → ∀ (H1 : Heap) (locs1 : List Loc) (ls1 : Array Slot), lv_has ls1 6 [(0, .ref (Γ.2.1 + 3)), (1, .int a1), (2, .int a2), (3, .int t8.1), (5, .int t8.2.2)] → Wd Γ sh v w H1 → va_S (gA Γ sh n) s.heap H1 locs1 → H1.size = Γ.2.1 + n → wpI Γ sh w n 6 (fun x u => x = q ∧ u = v) p l e s m args below meth c H1 locs1 (F0 m 52 ls1 []) := by
          intro  h H1 locs1 ls hl hP hS hz
          unfold j_Tokens_keyword_52 at h
          refine lv_iinc (k := 3) (v := (t8.1 + 1)) (lv' := [(3, .int (t8.1 + 1)), (0, .ref (Γ.2.1 + 3)), (1, .int a1), (2, .int a2), (5, .int t8.2.2)]) hx hb dX10_keyword_52 hl rfl rfl (by decide) rfl fun ls hl => ?_
          refine lv_iload hx hb dX10_keyword_55 (lv_at hl 4 rfl) ?_
          refine lv_iconst (v := 1) hx hb dX10_keyword_57 rfl ?_
          refine lv_iadd hx hb dX10_keyword_58 ?_
          refine lv_istore (lv' := [(4, .int (t8.2.2 + 1)), (3, .int (t8.1 + 1)), (0, .ref (Γ.2.1 + 3)), (1, .int a1), (2, .int a2), (5, .int t8.2.2)]) hx hb dX10_keyword_59 hl (by decide) rfl fun ls hl => ?_
          exact J61 (t8.1 + 1) (t8.2.2 + 1) h _ _ _ (lv_sub hl [2, 3, 4, 1, 0, 5] rfl) hP hS hz
        refine lv_icmp_ne (tgt := 52) hx hb dX10_keyword_36 rfl (fun hc36 => ?_) (fun hc36 => ?_)
        · have h := itf_e h hc36
          exact J52 h _ _ _ (lv_sub hl [0, 1, 2, 3, 5] rfl) hP hS hz
        · have h := itt_e h hc36
          refine lv_aload_n hx hb dX10_keyword_39 rfl (lv_at hl 0 rfl) ?_
          refine lv_iload hx hb dX10_keyword_40 (lv_at hl 4 rfl) ?_
          refine lv_iload_n hx hb dX10_keyword_42 rfl (lv_at hl 1 rfl) ?_
          refine lv_iload_n hx hb dX10_keyword_43 rfl (lv_at hl 2 rfl) ?_
          obtain ⟨q44, e44, h⟩ := obn_e h
          refine z_Vi (k := 3) (r1 := (q_b q44)) (v1 := v) hx hb hml hts hown hK hP hS hz hE (c_Tokens_spells hk hF e44) kX10_spells mX10_93 hk.1 rfl rfl rfl hl.1 (Nat.le_of_ble_eq_true rfl) ⟨Nat.le_of_ble_eq_true rfl, Nat.le_of_ble_eq_true rfl⟩ ⟨Nat.le_refl _, Nat.le_refl _⟩ dX10_keyword_44 fun H1 locs1 hz hP hS => ?_
          refine lv_if_eq (tgt := 52) hx hb dX10_keyword_47 rfl (fun hc47 => ?_) (fun hc47 => ?_)
          · have h := itt_e h hc47
            exact J52 h _ _ _ (lv_sub hl [0, 1, 2, 3, 5] rfl) hP hS hz
          · have h := itf_e h hc47
            refine lv_iload_n hx hb dX10_keyword_50 rfl (lv_at hl 3 rfl) ?_
            exact w_iret hx hb hret rfl hlk hK hP hS hz hE (q_p1 h) dX10_keyword_51
  exact L8 z (0, 0, 0) h _ _ _ (lv_sub hl [3, 4, 5, 2, 1, 0] rfl) hP hS hz
def j_Tokens_readsWord_89 (v : Va) (a1 : Int32) (t4 : Int32) (q61 : Int32) (s89_0 : Int32) : Option (Bool × Va) := (f_Tokens_add v q61 a1 (t4 - a1) s89_0).bind fun q89 => some (true, q89)
def j_Tokens_readsWord_46 (z : Nat) (v : Va) (a1 : Int32) (t4 : Int32) : Option (Bool × Va) := if (t4 - a1) ≤ 10 then ((f_Tokens_keyword z v a1 (t4 - a1)).bind fun q61 => if q61 = 47 then ((f_Tokens_firstWithName z v a1 (t4 - a1)).bind fun q82 => j_Tokens_readsWord_89 v a1 t4 q61 q82) else (j_Tokens_readsWord_89 v a1 t4 q61 0)) else (some (false, v))
def j_Tokens_readsWord_40 (K4 : Int32 → Option (Bool × Va)) (t4 : Int32) : Option (Bool × Va) := K4 (t4 + 1)
def b_Tokens_readsWord_4 (z : Nat) (v : Va) (a1 : Int32) (K4 : Int32 → Option (Bool × Va)) (t4 : Int32) : Option (Bool × Va) := if (v 3 1) ≤ t4 then (j_Tokens_readsWord_46 z v a1 t4) else (bnd (row_g 2000 (v 2) t4) fun q17 => (f_Tokens_isLetter q17).bind fun q20 => if (q_b q20) = 0 then (bnd (row_g 2000 (v 2) t4) fun q31 => (f_Tokens_isDigit q31).bind fun q34 => if (q_b q34) = 0 then (j_Tokens_readsWord_46 z v a1 t4) else (j_Tokens_readsWord_40 K4 t4)) else (j_Tokens_readsWord_40 K4 t4))
def f_Tokens_readsWord (z : Nat) (v : Va) (a1 : Int32) : Option (Bool × Va) := rp (b_Tokens_readsWord_4 z v a1) z (a1 + 1)
theorem c_Tokens_readsWord {a1 : Int32} (hk : isTokens sh) (hF : EF Γ sh) {q : Bool × Va} (h : f_Tokens_readsWord z v a1 = some q) : MetI l yX10_readsWord cX10_readsWord 4 (some .boolean) 7 Γ sh v w n [.ref (Γ.2.1 + 3), .int a1] (fun x u => x = q_b q.1 ∧ u = q.2) := by
  unfold f_Tokens_readsWord at h
  refine w_start pn_X10 (Nat.le_of_ble_eq_true rfl) fun p e s m args below meth c hx hb hml hret hlk hnm hts hown hK hP hz hE hS ls hl => ?_
  refine lv_iload_n hx hb dX10_readsWord_0 rfl (lv_at hl 1 rfl) ?_
  refine lv_iconst (v := 1) hx hb dX10_readsWord_1 rfl ?_
  refine lv_iadd hx hb dX10_readsWord_2 ?_
  refine lv_istore_n (lv' := [(2, .int (a1 + 1)), (0, .ref (Γ.2.1 + 3)), (1, .int a1)]) hx hb dX10_readsWord_3 rfl hl (by decide) rfl fun ls hl => ?_
  have L4 : ∀ (fu : Nat) (t4 : Int32), rp (b_Tokens_readsWord_4 z v a1) fu t4 = some q → ∀ (H1 : Heap) (locs1 : List Loc) (ls1 : Array Slot), lv_has ls1 4 [(0, .ref (Γ.2.1 + 3)), (1, .int a1), (2, .int t4)] → Wd Γ sh v w H1 → va_S (gA Γ sh n) s.heap H1 locs1 → H1.size = Γ.2.1 + n → wpI Γ sh w n 7 (fun x u => x = q_b q.1 ∧ u = q.2) p l e s m args below meth c H1 locs1 (F0 m 4 ls1 []) := by
    refine q_loop (fun K4 ih4 t4 h H1 locs1 ls hl hP hS hz => ?_)
    unfold b_Tokens_readsWord_4 at h
    refine lv_iload_n hx hb dX10_readsWord_4 rfl (lv_at hl 2 rfl) ?_
    refine lv_aload_n hx hb dX10_readsWord_5 rfl (lv_at hl 0 rfl) ?_
    refine w_gi (k := 3) hx hb hts hown hK hP fX10_30 hk.1 rfl dX10_readsWord_6 ?_
    have J46 : (j_Tokens_readsWord_46 z v a1 t4) = some q → ∀ (H1 : Heap) (locs1 : List Loc) (ls1 : Array Slot), lv_has ls1 4 [(0, .ref (Γ.2.1 + 3)), (1, .int a1), (2, .int t4)] → Wd Γ sh v w H1 → va_S (gA Γ sh n) s.heap H1 locs1 → H1.size = Γ.2.1 + n → wpI Γ sh w n 7 (fun x u => x = q_b q.1 ∧ u = q.2) p l e s m args below meth c H1 locs1 (F0 m 46 ls1 []) := by
      intro  h H1 locs1 ls hl hP hS hz
      unfold j_Tokens_readsWord_46 at h
      refine lv_iload_n hx hb dX10_readsWord_46 rfl (lv_at hl 2 rfl) ?_
      refine lv_iload_n hx hb dX10_readsWord_47 rfl (lv_at hl 1 rfl) ?_
      refine lv_isub hx hb dX10_readsWord_48 ?_
      refine lv_bipush (v := 10) hx hb dX10_readsWord_49 rfl ?_
      refine lv_icmp_le (tgt := 56) hx hb dX10_readsWord_51 rfl (fun hc51 => ?_) (fun hc51 => ?_)
      · have h := itt_e h hc51
        refine lv_aload_n hx hb dX10_readsWord_56 rfl (lv_at hl 0 rfl) ?_
        refine lv_iload_n hx hb dX10_readsWord_57 rfl (lv_at hl 1 rfl) ?_
        refine lv_iload_n hx hb dX10_readsWord_58 rfl (lv_at hl 2 rfl) ?_
        refine lv_iload_n hx hb dX10_readsWord_59 rfl (lv_at hl 1 rfl) ?_
        refine lv_isub hx hb dX10_readsWord_60 ?_
        obtain ⟨q61, e61, h⟩ := obn_e h
        refine z_Vi (k := 3) (r1 := q61) (v1 := v) hx hb hml hts hown hK hP hS hz hE (c_Tokens_keyword hk hF e61) kX10_keyword mX10_70 hk.1 rfl rfl rfl hl.1 (Nat.le_of_ble_eq_true rfl) ⟨Nat.le_of_ble_eq_true rfl, Nat.le_of_ble_eq_true rfl⟩ ⟨Nat.le_refl _, Nat.le_refl _⟩ dX10_readsWord_61 fun H1 locs1 hz hP hS => ?_
        refine lv_istore_n (lv' := [(3, .int q61), (0, .ref (Γ.2.1 + 3)), (1, .int a1), (2, .int t4)]) hx hb dX10_readsWord_64 rfl hl (by decide) rfl fun ls hl => ?_
        refine lv_aload_n hx hb dX10_readsWord_65 rfl (lv_at hl 1 rfl) ?_
        refine lv_iload_n hx hb dX10_readsWord_66 rfl (lv_at hl 0 rfl) ?_
        refine lv_iload_n hx hb dX10_readsWord_67 rfl (lv_at hl 2 rfl) ?_
        refine lv_iload_n hx hb dX10_readsWord_68 rfl (lv_at hl 3 rfl) ?_
        refine lv_iload_n hx hb dX10_readsWord_69 rfl (lv_at hl 2 rfl) ?_
        refine lv_isub hx hb dX10_readsWord_70 ?_
        refine lv_iload_n hx hb dX10_readsWord_71 rfl (lv_at hl 0 rfl) ?_
        refine lv_bipush (v := 47) hx hb dX10_readsWord_72 rfl ?_
        have J89 : ∀ (s89_0 : Int32), (j_Tokens_readsWord_89 v a1 t4 q61) s89_0 = some q → ∀ (H1 : Heap) (locs1 : List Loc) (ls1 : Array Slot), lv_has ls1 4 [] → Wd Γ sh v w H1 → va_S (gA Γ sh n) s.heap H1 locs1 → H1.size = Γ.2.1 + n → wpI Γ sh w n 7 (fun x u => x = q_b q.1 ∧ u = q.2) p l e s m args below meth c H1 locs1 (F0 m 89 ls1 [.int s89_0, .int (t4 - a1), .int a1, .int q61, .ref (Γ.2.1 + 3)]) := by
          intro s89_0 h H1 locs1 ls hl hP hS hz
          unfold j_Tokens_readsWord_89 at h
          obtain ⟨q89, e89, h⟩ := obn_e h
          refine z_Vv (k := 3) (v1 := q89) hx hb hml hts hown hK hP hS hz hE (c_Tokens_add hk e89) kX10_add mX10_50 hk.1 rfl rfl rfl hl.1 (Nat.le_of_ble_eq_true rfl) ⟨Nat.le_of_ble_eq_true rfl, Nat.le_of_ble_eq_true rfl⟩ ⟨Nat.le_refl _, Nat.le_refl _⟩ dX10_readsWord_89 fun H1 locs1 hz hP hS => ?_
          refine lv_iconst (v := 1) hx hb dX10_readsWord_92 rfl ?_
          exact w_iret hx hb hret rfl hlk hK hP hS hz hE (q_p2b h) dX10_readsWord_93
        refine lv_icmp_ne (tgt := 88) hx hb dX10_readsWord_74 rfl (fun hc74 => ?_) (fun hc74 => ?_)
        · have h := itf_e h hc74
          refine lv_iconst (v := 0) hx hb dX10_readsWord_88 rfl ?_
          exact J89 0 h _ _ _ (lv_sub hl [] rfl) hP hS hz
        · have h := itt_e h hc74
          refine lv_aload_n hx hb dX10_readsWord_77 rfl (lv_at hl 1 rfl) ?_
          refine lv_iload_n hx hb dX10_readsWord_78 rfl (lv_at hl 2 rfl) ?_
          refine lv_iload_n hx hb dX10_readsWord_79 rfl (lv_at hl 3 rfl) ?_
          refine lv_iload_n hx hb dX10_readsWord_80 rfl (lv_at hl 2 rfl) ?_
          refine lv_isub hx hb dX10_readsWord_81 ?_
          obtain ⟨q82, e82, h⟩ := obn_e h
          refine z_Vi (k := 3) (r1 := q82) (v1 := v) hx hb hml hts hown hK hP hS hz hE (c_Tokens_firstWithName hk e82) kX10_firstWithName mX10_74 hk.1 rfl rfl rfl hl.1 (Nat.le_of_ble_eq_true rfl) ⟨Nat.le_of_ble_eq_true rfl, Nat.le_of_ble_eq_true rfl⟩ ⟨Nat.le_refl _, Nat.le_refl _⟩ dX10_readsWord_82 fun H1 locs1 hz hP hS => ?_
          refine lv_goto (tgt := 89) hx hb dX10_readsWord_85 rfl ?_
          exact J89 q82 h _ _ _ (lv_sub hl [] rfl) hP hS hz
      · have h := itf_e h hc51
        refine lv_iconst (v := 0) hx hb dX10_readsWord_54 rfl ?_
        exact w_iret hx hb hret rfl hlk hK hP hS hz hE (q_p2b h) dX10_readsWord_55
    refine lv_icmp_ge (tgt := 46) hx hb dX10_readsWord_9 rfl (fun hc9 => ?_) (fun hc9 => ?_)
    · have h := itt_e h hc9
      exact J46 h _ _ _ (lv_sub hl [0, 1, 2] rfl) hP hS hz
    · have h := itf_e h hc9
      refine lv_aload_n hx hb dX10_readsWord_12 rfl (lv_at hl 0 rfl) ?_
      refine w_gr (k := 3) (r := 1) hx hb hts hown hK hP fX10_7 hk.1 rfl dX10_readsWord_13 ?_
      refine lv_iload_n hx hb dX10_readsWord_16 rfl (lv_at hl 2 rfl) ?_
      obtain ⟨q17, e17, h⟩ := bnd_e h
      refine z_Vi (k := 1) (r1 := q17) (v1 := v) hx hb hml hts hown hK hP hS hz hE (C_Row_get hk.2.1 e17) kX7_get mX10_45 hk.2.1.1 rfl rfl rfl hl.1 (Nat.le_of_ble_eq_true rfl) ⟨Nat.le_of_ble_eq_true rfl, Nat.le_of_ble_eq_true rfl⟩ ⟨Nat.le_refl _, Nat.le_refl _⟩ dX10_readsWord_17 fun H1 locs1 hz hP hS => ?_
      obtain ⟨q20, e20, h⟩ := obn_e h
      refine z_Si (r1 := (q_b q20)) (v1 := v) hx hb hml hts hown hK hP hS hz hE (c_Tokens_isLetter  e20) kX10_isLetter mX10_54 rfl rfl hl.1 (Nat.le_of_ble_eq_true rfl) ⟨Nat.le_of_ble_eq_true rfl, Nat.le_of_ble_eq_true rfl⟩ ⟨Nat.le_refl _, Nat.le_refl _⟩ dX10_readsWord_20 fun H1 locs1 hz hP hS => ?_
      have J40 : (j_Tokens_readsWord_40 K4 t4) = some q → ∀ (H1 : Heap) (locs1 : List Loc) (ls1 : Array Slot), lv_has ls1 4 [(0, .ref (Γ.2.1 + 3)), (1, .int a1), (2, .int t4)] → Wd Γ sh v w H1 → va_S (gA Γ sh n) s.heap H1 locs1 → H1.size = Γ.2.1 + n → wpI Γ sh w n 7 (fun x u => x = q_b q.1 ∧ u = q.2) p l e s m args below meth c H1 locs1 (F0 m 40 ls1 []) := by
        intro  h H1 locs1 ls hl hP hS hz
        unfold j_Tokens_readsWord_40 at h
        refine lv_iinc (k := 2) (v := (t4 + 1)) (lv' := [(2, .int (t4 + 1)), (0, .ref (Γ.2.1 + 3)), (1, .int a1)]) hx hb dX10_readsWord_40 hl rfl rfl (by decide) rfl fun ls hl => ?_
        refine lv_goto (tgt := 4) hx hb dX10_readsWord_43 rfl ?_
        exact ih4 (t4 + 1) h _ _ _ (lv_sub hl [1, 2, 0] rfl) hP hS hz
      refine lv_if_ne (tgt := 40) hx hb dX10_readsWord_23 rfl (fun hc23 => ?_) (fun hc23 => ?_)
      · have h := itf_e h hc23
        exact J40 h _ _ _ (lv_sub hl [0, 1, 2] rfl) hP hS hz
      · have h := itt_e h hc23
        refine lv_aload_n hx hb dX10_readsWord_26 rfl (lv_at hl 0 rfl) ?_
        refine w_gr (k := 3) (r := 1) hx hb hts hown hK hP fX10_7 hk.1 rfl dX10_readsWord_27 ?_
        refine lv_iload_n hx hb dX10_readsWord_30 rfl (lv_at hl 2 rfl) ?_
        obtain ⟨q31, e31, h⟩ := bnd_e h
        refine z_Vi (k := 1) (r1 := q31) (v1 := v) hx hb hml hts hown hK hP hS hz hE (C_Row_get hk.2.1 e31) kX7_get mX10_45 hk.2.1.1 rfl rfl rfl hl.1 (Nat.le_of_ble_eq_true rfl) ⟨Nat.le_of_ble_eq_true rfl, Nat.le_of_ble_eq_true rfl⟩ ⟨Nat.le_refl _, Nat.le_refl _⟩ dX10_readsWord_31 fun H1 locs1 hz hP hS => ?_
        obtain ⟨q34, e34, h⟩ := obn_e h
        refine z_Si (r1 := (q_b q34)) (v1 := v) hx hb hml hts hown hK hP hS hz hE (c_Tokens_isDigit  e34) kX10_isDigit mX10_60 rfl rfl hl.1 (Nat.le_of_ble_eq_true rfl) ⟨Nat.le_of_ble_eq_true rfl, Nat.le_of_ble_eq_true rfl⟩ ⟨Nat.le_refl _, Nat.le_refl _⟩ dX10_readsWord_34 fun H1 locs1 hz hP hS => ?_
        refine lv_if_eq (tgt := 46) hx hb dX10_readsWord_37 rfl (fun hc37 => ?_) (fun hc37 => ?_)
        · have h := itt_e h hc37
          exact J46 h _ _ _ (lv_sub hl [0, 1, 2] rfl) hP hS hz
        · have h := itf_e h hc37
          exact J40 h _ _ _ (lv_sub hl [0, 1, 2] rfl) hP hS hz
  exact L4 z (a1 + 1) h _ _ _ (lv_sub hl [1, 2, 0] rfl) hP hS hz
def j_Tokens_readsSign_92 (v : Va) (a1 : Int32) (q4 : Int32) : Option (Bool × Va) := (f_Tokens_add v (32 + q4) a1 1 0).bind fun q100 => some (true, q100)
def j_Tokens_readsSign_69 (v : Va) (a1 : Int32) (a2 : Int32) (q4 : Int32) (s44_0 : Bool) : Option (Bool × Va) := if a2 = 62 then (if (q_b s44_0) = 0 then (j_Tokens_readsSign_92 v a1 q4) else ((f_Tokens_add v 46 a1 2 0).bind fun q86 => some (true, q86))) else (j_Tokens_readsSign_92 v a1 q4)
def j_Tokens_readsSign_44 (v : Va) (a1 : Int32) (a2 : Int32) (q4 : Int32) (s44_0 : Bool) : Option (Bool × Va) := if a2 = 60 then (if (q_b s44_0) = 0 then (j_Tokens_readsSign_69 v a1 a2 q4 s44_0) else ((f_Tokens_add v 45 a1 2 0).bind fun q63 => some (true, q63))) else (j_Tokens_readsSign_69 v a1 a2 q4 s44_0)
def j_Tokens_readsSign_43 (v : Va) (a1 : Int32) (a2 : Int32) (q4 : Int32) : Option (Bool × Va) := j_Tokens_readsSign_44 v a1 a2 q4 false
def f_Tokens_readsSign (z : Nat) (v : Va) (a1 : Int32) (a2 : Int32) : Option (Bool × Va) := (f_Str_indexOf_0f7a4 z v litX10_77 ((a2.toUInt32 % 65536).toInt32)).bind fun q4 => if 0 ≤ q4 then (if (v 3 1) ≤ (a1 + 1) then (j_Tokens_readsSign_43 v a1 a2 q4) else (bnd (row_g 2000 (v 2) (a1 + 1)) fun q31 => if q31 = 61 then (j_Tokens_readsSign_44 v a1 a2 q4 true) else (j_Tokens_readsSign_43 v a1 a2 q4))) else (some (false, v))
theorem c_Tokens_readsSign {a1 : Int32} {a2 : Int32} (hk : isTokens sh) (hF : EF Γ sh) {q : Bool × Va} (h : f_Tokens_readsSign z v a1 a2 = some q) : MetI l yX10_readsSign cX10_readsSign 5 (some .boolean) 4 Γ sh v w n [.ref (Γ.2.1 + 3), .int a1, .int a2] (fun x u => x = q_b q.1 ∧ u = q.2) := by
  unfold f_Tokens_readsSign at h
  refine w_start pn_X10 (Nat.le_of_ble_eq_true rfl) fun p e s m args below meth c hx hb hml hret hlk hnm hts hown hK hP hz hE hS ls hl => ?_
  obtain ⟨ad77, av77, hr77, hs77⟩ := LT.get hE hF.2.2.2
  refine va_ldcS hx hb hown hr77 dX10_readsSign_0 ?_
  refine lv_iload_n hx hb dX10_readsSign_2 rfl (lv_at hl 2 rfl) ?_
  refine lv_i2c (v := (a2.toUInt32 % 65536).toInt32) hx hb dX10_readsSign_3 rfl ?_
  obtain ⟨q4, e4, h⟩ := obn_e h
  refine z_sVi (a := ad77) (r1 := q4) (v1 := v) hx hb hml hts hown hK hP hS hz hE (c_Str_indexOf_0f7a4 hs77 hF e4) kJ0_indexOf_0f7a4 mX10_79 (sl_recv hE hS hs77) rfl rfl hl.1 (Nat.le_of_ble_eq_true rfl) ⟨Nat.le_of_ble_eq_true rfl, Nat.le_of_ble_eq_true rfl⟩ ⟨Nat.le_refl _, Nat.le_refl _⟩ dX10_readsSign_4 fun H1 locs1 hz hP hS => ?_
  refine lv_istore_n (lv' := [(3, .int q4), (0, .ref (Γ.2.1 + 3)), (1, .int a1), (2, .int a2)]) hx hb dX10_readsSign_7 rfl hl (by decide) rfl fun ls hl => ?_
  refine lv_iload_n hx hb dX10_readsSign_8 rfl (lv_at hl 0 rfl) ?_
  refine lv_if_ge (tgt := 14) hx hb dX10_readsSign_9 rfl (fun hc9 => ?_) (fun hc9 => ?_)
  · have h := itt_e h hc9
    refine lv_iload_n hx hb dX10_readsSign_14 rfl (lv_at hl 2 rfl) ?_
    refine lv_iconst (v := 1) hx hb dX10_readsSign_15 rfl ?_
    refine lv_iadd hx hb dX10_readsSign_16 ?_
    refine lv_aload_n hx hb dX10_readsSign_17 rfl (lv_at hl 1 rfl) ?_
    refine w_gi (k := 3) hx hb hts hown hK hP fX10_30 hk.1 rfl dX10_readsSign_18 ?_
    have J44 : ∀ (s44_0 : Bool), (j_Tokens_readsSign_44 v a1 a2 q4) s44_0 = some q → ∀ (H1 : Heap) (locs1 : List Loc) (ls1 : Array Slot), lv_has ls1 5 [(0, .ref (Γ.2.1 + 3)), (1, .int a1), (2, .int a2), (3, .int q4)] → Wd Γ sh v w H1 → va_S (gA Γ sh n) s.heap H1 locs1 → H1.size = Γ.2.1 + n → wpI Γ sh w n 4 (fun x u => x = q_b q.1 ∧ u = q.2) p l e s m args below meth c H1 locs1 (F0 m 44 ls1 [.int (q_b s44_0)]) := by
      intro s44_0 h H1 locs1 ls hl hP hS hz
      unfold j_Tokens_readsSign_44 at h
      refine lv_istore (lv' := [(4, .int (q_b s44_0)), (0, .ref (Γ.2.1 + 3)), (1, .int a1), (2, .int a2), (3, .int q4)]) hx hb dX10_readsSign_44 hl (by decide) rfl fun ls hl => ?_
      refine lv_iload_n hx hb dX10_readsSign_46 rfl (lv_at hl 3 rfl) ?_
      refine lv_bipush (v := 60) hx hb dX10_readsSign_47 rfl ?_
      have J69 : (j_Tokens_readsSign_69 v a1 a2 q4 s44_0) = some q → ∀ (H1 : Heap) (locs1 : List Loc) (ls1 : Array Slot), lv_has ls1 5 [(0, .ref (Γ.2.1 + 3)), (1, .int a1), (2, .int a2), (3, .int q4), (4, .int (q_b s44_0))] → Wd Γ sh v w H1 → va_S (gA Γ sh n) s.heap H1 locs1 → H1.size = Γ.2.1 + n → wpI Γ sh w n 4 (fun x u => x = q_b q.1 ∧ u = q.2) p l e s m args below meth c H1 locs1 (F0 m 69 ls1 []) := by
        intro  h H1 locs1 ls hl hP hS hz
        unfold j_Tokens_readsSign_69 at h
        refine lv_iload_n hx hb dX10_readsSign_69 rfl (lv_at hl 2 rfl) ?_
        refine lv_bipush (v := 62) hx hb dX10_readsSign_70 rfl ?_
        have J92 : (j_Tokens_readsSign_92 v a1 q4) = some q → ∀ (H1 : Heap) (locs1 : List Loc) (ls1 : Array Slot), lv_has ls1 5 [(0, .ref (Γ.2.1 + 3)), (1, .int a1), (3, .int q4)] → Wd Γ sh v w H1 → va_S (gA Γ sh n) s.heap H1 locs1 → H1.size = Γ.2.1 + n → wpI Γ sh w n 4 (fun x u => x = q_b q.1 ∧ u = q.2) p l e s m args below meth c H1 locs1 (F0 m 92 ls1 []) := by
          intro  h H1 locs1 ls hl hP hS hz
          unfold j_Tokens_readsSign_92 at h
          refine lv_aload_n hx hb dX10_readsSign_92 rfl (lv_at hl 0 rfl) ?_
          refine lv_bipush (v := 32) hx hb dX10_readsSign_93 rfl ?_
          refine lv_iload_n hx hb dX10_readsSign_95 rfl (lv_at hl 2 rfl) ?_
          refine lv_iadd hx hb dX10_readsSign_96 ?_
          refine lv_iload_n hx hb dX10_readsSign_97 rfl (lv_at hl 1 rfl) ?_
          refine lv_iconst (v := 1) hx hb dX10_readsSign_98 rfl ?_
          refine lv_iconst (v := 0) hx hb dX10_readsSign_99 rfl ?_
          obtain ⟨q100, e100, h⟩ := obn_e h
          refine z_Vv (k := 3) (v1 := q100) hx hb hml hts hown hK hP hS hz hE (c_Tokens_add hk e100) kX10_add mX10_50 hk.1 rfl rfl rfl hl.1 (Nat.le_of_ble_eq_true rfl) ⟨Nat.le_of_ble_eq_true rfl, Nat.le_of_ble_eq_true rfl⟩ ⟨Nat.le_refl _, Nat.le_refl _⟩ dX10_readsSign_100 fun H1 locs1 hz hP hS => ?_
          refine lv_iconst (v := 1) hx hb dX10_readsSign_103 rfl ?_
          exact w_iret hx hb hret rfl hlk hK hP hS hz hE (q_p2b h) dX10_readsSign_104
        refine lv_icmp_ne (tgt := 92) hx hb dX10_readsSign_72 rfl (fun hc72 => ?_) (fun hc72 => ?_)
        · have h := itf_e h hc72
          exact J92 h _ _ _ (lv_sub hl [0, 1, 3] rfl) hP hS hz
        · have h := itt_e h hc72
          refine lv_iload hx hb dX10_readsSign_75 (lv_at hl 4 rfl) ?_
          refine lv_if_eq (tgt := 92) hx hb dX10_readsSign_77 rfl (fun hc77 => ?_) (fun hc77 => ?_)
          · have h := itt_e h hc77
            exact J92 h _ _ _ (lv_sub hl [0, 1, 3] rfl) hP hS hz
          · have h := itf_e h hc77
            refine lv_aload_n hx hb dX10_readsSign_80 rfl (lv_at hl 0 rfl) ?_
            refine lv_bipush (v := 46) hx hb dX10_readsSign_81 rfl ?_
            refine lv_iload_n hx hb dX10_readsSign_83 rfl (lv_at hl 1 rfl) ?_
            refine lv_iconst (v := 2) hx hb dX10_readsSign_84 rfl ?_
            refine lv_iconst (v := 0) hx hb dX10_readsSign_85 rfl ?_
            obtain ⟨q86, e86, h⟩ := obn_e h
            refine z_Vv (k := 3) (v1 := q86) hx hb hml hts hown hK hP hS hz hE (c_Tokens_add hk e86) kX10_add mX10_50 hk.1 rfl rfl rfl hl.1 (Nat.le_of_ble_eq_true rfl) ⟨Nat.le_of_ble_eq_true rfl, Nat.le_of_ble_eq_true rfl⟩ ⟨Nat.le_refl _, Nat.le_refl _⟩ dX10_readsSign_86 fun H1 locs1 hz hP hS => ?_
            refine lv_goto (tgt := 103) hx hb dX10_readsSign_89 rfl ?_
            refine lv_iconst (v := 1) hx hb dX10_readsSign_103 rfl ?_
            exact w_iret hx hb hret rfl hlk hK hP hS hz hE (q_p2b h) dX10_readsSign_104
      refine lv_icmp_ne (tgt := 69) hx hb dX10_readsSign_49 rfl (fun hc49 => ?_) (fun hc49 => ?_)
      · have h := itf_e h hc49
        exact J69 h _ _ _ (lv_sub hl [1, 2, 3, 4, 0] rfl) hP hS hz
      · have h := itt_e h hc49
        refine lv_iload hx hb dX10_readsSign_52 (lv_at hl 0 rfl) ?_
        refine lv_if_eq (tgt := 69) hx hb dX10_readsSign_54 rfl (fun hc54 => ?_) (fun hc54 => ?_)
        · have h := itt_e h hc54
          exact J69 h _ _ _ (lv_sub hl [1, 2, 3, 4, 0] rfl) hP hS hz
        · have h := itf_e h hc54
          refine lv_aload_n hx hb dX10_readsSign_57 rfl (lv_at hl 1 rfl) ?_
          refine lv_bipush (v := 45) hx hb dX10_readsSign_58 rfl ?_
          refine lv_iload_n hx hb dX10_readsSign_60 rfl (lv_at hl 2 rfl) ?_
          refine lv_iconst (v := 2) hx hb dX10_readsSign_61 rfl ?_
          refine lv_iconst (v := 0) hx hb dX10_readsSign_62 rfl ?_
          obtain ⟨q63, e63, h⟩ := obn_e h
          refine z_Vv (k := 3) (v1 := q63) hx hb hml hts hown hK hP hS hz hE (c_Tokens_add hk e63) kX10_add mX10_50 hk.1 rfl rfl rfl hl.1 (Nat.le_of_ble_eq_true rfl) ⟨Nat.le_of_ble_eq_true rfl, Nat.le_of_ble_eq_true rfl⟩ ⟨Nat.le_refl _, Nat.le_refl _⟩ dX10_readsSign_63 fun H1 locs1 hz hP hS => ?_
          refine lv_goto (tgt := 103) hx hb dX10_readsSign_66 rfl ?_
          refine lv_iconst (v := 1) hx hb dX10_readsSign_103 rfl ?_
          exact w_iret hx hb hret rfl hlk hK hP hS hz hE (q_p2b h) dX10_readsSign_104
    have J43 : (j_Tokens_readsSign_43 v a1 a2 q4) = some q → ∀ (H1 : Heap) (locs1 : List Loc) (ls1 : Array Slot), lv_has ls1 5 [(0, .ref (Γ.2.1 + 3)), (1, .int a1), (2, .int a2), (3, .int q4)] → Wd Γ sh v w H1 → va_S (gA Γ sh n) s.heap H1 locs1 → H1.size = Γ.2.1 + n → wpI Γ sh w n 4 (fun x u => x = q_b q.1 ∧ u = q.2) p l e s m args below meth c H1 locs1 (F0 m 43 ls1 []) := by
      intro  h H1 locs1 ls hl hP hS hz
      unfold j_Tokens_readsSign_43 at h
      refine lv_iconst (v := 0) hx hb dX10_readsSign_43 rfl ?_
      exact J44 false h _ _ _ (lv_sub hl [0, 1, 2, 3] rfl) hP hS hz
    refine lv_icmp_ge (tgt := 43) hx hb dX10_readsSign_21 rfl (fun hc21 => ?_) (fun hc21 => ?_)
    · have h := itt_e h hc21
      exact J43 h _ _ _ (lv_sub hl [1, 2, 3, 0] rfl) hP hS hz
    · have h := itf_e h hc21
      refine lv_aload_n hx hb dX10_readsSign_24 rfl (lv_at hl 1 rfl) ?_
      refine w_gr (k := 3) (r := 1) hx hb hts hown hK hP fX10_7 hk.1 rfl dX10_readsSign_25 ?_
      refine lv_iload_n hx hb dX10_readsSign_28 rfl (lv_at hl 2 rfl) ?_
      refine lv_iconst (v := 1) hx hb dX10_readsSign_29 rfl ?_
      refine lv_iadd hx hb dX10_readsSign_30 ?_
      obtain ⟨q31, e31, h⟩ := bnd_e h
      refine z_Vi (k := 1) (r1 := q31) (v1 := v) hx hb hml hts hown hK hP hS hz hE (C_Row_get hk.2.1 e31) kX7_get mX10_45 hk.2.1.1 rfl rfl rfl hl.1 (Nat.le_of_ble_eq_true rfl) ⟨Nat.le_of_ble_eq_true rfl, Nat.le_of_ble_eq_true rfl⟩ ⟨Nat.le_refl _, Nat.le_refl _⟩ dX10_readsSign_31 fun H1 locs1 hz hP hS => ?_
      refine lv_bipush (v := 61) hx hb dX10_readsSign_34 rfl ?_
      refine lv_icmp_ne (tgt := 43) hx hb dX10_readsSign_36 rfl (fun hc36 => ?_) (fun hc36 => ?_)
      · have h := itf_e h hc36
        exact J43 h _ _ _ (lv_sub hl [1, 2, 3, 0] rfl) hP hS hz
      · have h := itt_e h hc36
        refine lv_iconst (v := 1) hx hb dX10_readsSign_39 rfl ?_
        refine lv_goto (tgt := 44) hx hb dX10_readsSign_40 rfl ?_
        exact J44 true h _ _ _ (lv_sub hl [1, 2, 3, 0] rfl) hP hS hz
  · have h := itf_e h hc9
    refine lv_iconst (v := 0) hx hb dX10_readsSign_12 rfl ?_
    exact w_iret hx hb hret rfl hlk hK hP hS hz hE (q_p2b h) dX10_readsSign_13
def f_Tokens_reads (z : Nat) (v : Va) (a1 : Int32) : Option (Bool × Va) := bnd (row_g 2000 (v 2) a1) fun q5 => (f_Tokens_isLetter q5).bind fun q10 => if (q_b q10) = 0 then ((f_Tokens_isDigit q5).bind fun q23 => if (q_b q23) = 0 then ((f_Tokens_readsSign z v a1 q5).bind fun q40 => some (q40.1, q40.2)) else ((f_Tokens_readsNumber z v a1).bind fun q31 => some (q31.1, q31.2))) else ((f_Tokens_readsWord z v a1).bind fun q18 => some (q18.1, q18.2))
theorem c_Tokens_reads {a1 : Int32} (hk : isTokens sh) (hF : EF Γ sh) {q : Bool × Va} (h : f_Tokens_reads z v a1 = some q) : MetI l yX10_reads cX10_reads 3 (some .boolean) 8 Γ sh v w n [.ref (Γ.2.1 + 3), .int a1] (fun x u => x = q_b q.1 ∧ u = q.2) := by
  unfold f_Tokens_reads at h
  refine w_start pn_X10 (Nat.le_of_ble_eq_true rfl) fun p e s m args below meth c hx hb hml hret hlk hnm hts hown hK hP hz hE hS ls hl => ?_
  refine lv_aload_n hx hb dX10_reads_0 rfl (lv_at hl 0 rfl) ?_
  refine w_gr (k := 3) (r := 1) hx hb hts hown hK hP fX10_7 hk.1 rfl dX10_reads_1 ?_
  refine lv_iload_n hx hb dX10_reads_4 rfl (lv_at hl 1 rfl) ?_
  obtain ⟨q5, e5, h⟩ := bnd_e h
  refine z_Vi (k := 1) (r1 := q5) (v1 := v) hx hb hml hts hown hK hP hS hz hE (C_Row_get hk.2.1 e5) kX7_get mX10_45 hk.2.1.1 rfl rfl rfl hl.1 (Nat.le_of_ble_eq_true rfl) ⟨Nat.le_of_ble_eq_true rfl, Nat.le_of_ble_eq_true rfl⟩ ⟨Nat.le_refl _, Nat.le_refl _⟩ dX10_reads_5 fun H1 locs1 hz hP hS => ?_
  refine lv_istore_n (lv' := [(2, .int q5), (0, .ref (Γ.2.1 + 3)), (1, .int a1)]) hx hb dX10_reads_8 rfl hl (by decide) rfl fun ls hl => ?_
  refine lv_iload_n hx hb dX10_reads_9 rfl (lv_at hl 0 rfl) ?_
  obtain ⟨q10, e10, h⟩ := obn_e h
  refine z_Si (r1 := (q_b q10)) (v1 := v) hx hb hml hts hown hK hP hS hz hE (c_Tokens_isLetter  e10) kX10_isLetter mX10_54 rfl rfl hl.1 (Nat.le_of_ble_eq_true rfl) ⟨Nat.le_of_ble_eq_true rfl, Nat.le_of_ble_eq_true rfl⟩ ⟨Nat.le_refl _, Nat.le_refl _⟩ dX10_reads_10 fun H1 locs1 hz hP hS => ?_
  refine lv_if_eq (tgt := 22) hx hb dX10_reads_13 rfl (fun hc13 => ?_) (fun hc13 => ?_)
  · have h := itt_e h hc13
    refine lv_iload_n hx hb dX10_reads_22 rfl (lv_at hl 0 rfl) ?_
    obtain ⟨q23, e23, h⟩ := obn_e h
    refine z_Si (r1 := (q_b q23)) (v1 := v) hx hb hml hts hown hK hP hS hz hE (c_Tokens_isDigit  e23) kX10_isDigit mX10_60 rfl rfl hl.1 (Nat.le_of_ble_eq_true rfl) ⟨Nat.le_of_ble_eq_true rfl, Nat.le_of_ble_eq_true rfl⟩ ⟨Nat.le_refl _, Nat.le_refl _⟩ dX10_reads_23 fun H1 locs1 hz hP hS => ?_
    refine lv_if_eq (tgt := 37) hx hb dX10_reads_26 rfl (fun hc26 => ?_) (fun hc26 => ?_)
    · have h := itt_e h hc26
      refine lv_aload_n hx hb dX10_reads_37 rfl (lv_at hl 1 rfl) ?_
      refine lv_iload_n hx hb dX10_reads_38 rfl (lv_at hl 2 rfl) ?_
      refine lv_iload_n hx hb dX10_reads_39 rfl (lv_at hl 0 rfl) ?_
      obtain ⟨q40, e40, h⟩ := obn_e h
      refine z_Vi (k := 3) (r1 := (q_b q40.1)) (v1 := q40.2) hx hb hml hts hown hK hP hS hz hE (c_Tokens_readsSign hk hF e40) kX10_readsSign mX10_66 hk.1 rfl rfl rfl hl.1 (Nat.le_of_ble_eq_true rfl) ⟨Nat.le_of_ble_eq_true rfl, Nat.le_of_ble_eq_true rfl⟩ ⟨Nat.le_refl _, Nat.le_refl _⟩ dX10_reads_40 fun H1 locs1 hz hP hS => ?_
      exact w_iret hx hb hret (q_bn _) hlk hK hP hS hz hE (q_p2b h) dX10_reads_43
    · have h := itf_e h hc26
      refine lv_aload_n hx hb dX10_reads_29 rfl (lv_at hl 1 rfl) ?_
      refine lv_iload_n hx hb dX10_reads_30 rfl (lv_at hl 2 rfl) ?_
      obtain ⟨q31, e31, h⟩ := obn_e h
      refine z_Vi (k := 3) (r1 := (q_b q31.1)) (v1 := q31.2) hx hb hml hts hown hK hP hS hz hE (c_Tokens_readsNumber hk e31) kX10_readsNumber mX10_63 hk.1 rfl rfl rfl hl.1 (Nat.le_of_ble_eq_true rfl) ⟨Nat.le_of_ble_eq_true rfl, Nat.le_of_ble_eq_true rfl⟩ ⟨Nat.le_refl _, Nat.le_refl _⟩ dX10_reads_31 fun H1 locs1 hz hP hS => ?_
      refine lv_goto (tgt := 43) hx hb dX10_reads_34 rfl ?_
      exact w_iret hx hb hret (q_bn _) hlk hK hP hS hz hE (q_p2b h) dX10_reads_43
  · have h := itf_e h hc13
    refine lv_aload_n hx hb dX10_reads_16 rfl (lv_at hl 1 rfl) ?_
    refine lv_iload_n hx hb dX10_reads_17 rfl (lv_at hl 2 rfl) ?_
    obtain ⟨q18, e18, h⟩ := obn_e h
    refine z_Vi (k := 3) (r1 := (q_b q18.1)) (v1 := q18.2) hx hb hml hts hown hK hP hS hz hE (c_Tokens_readsWord hk hF e18) kX10_readsWord mX10_57 hk.1 rfl rfl rfl hl.1 (Nat.le_of_ble_eq_true rfl) ⟨Nat.le_of_ble_eq_true rfl, Nat.le_of_ble_eq_true rfl⟩ ⟨Nat.le_refl _, Nat.le_refl _⟩ dX10_reads_18 fun H1 locs1 hz hP hS => ?_
    exact w_iret hx hb hret (q_bn _) hlk hK hP hS hz hE (q_p2b h) dX10_reads_21
def j_Tokens_scan_77 (t18 : Int32 × Int32 × Va) (v64 : Va) (s77_0 : Int32) : Option Va := (f_Tokens_add v64 s77_0 t18.1 0 0).bind fun q80 => some q80
def j_Tokens_scan_64 (a1 : Int32) (t18 : Int32 × Int32 × Va) (v64 : Va) : Option Va := if a1 ≤ t18.1 then (j_Tokens_scan_77 t18 v64 49) else (j_Tokens_scan_77 t18 v64 50)
def b_Tokens_scan_18 (z : Nat) (a1 : Int32) (K18 : (Int32 × Int32 × Va) → Option Va) (t18 : Int32 × Int32 × Va) : Option Va := if 400 ≤ t18.2.1 then (j_Tokens_scan_64 a1 t18 t18.2.2) else (if a1 ≤ t18.1 then (j_Tokens_scan_64 a1 t18 t18.2.2) else ((f_Tokens_reads z t18.2.2 t18.1).bind fun q32 => if (q_b q32.1) = 0 then (j_Tokens_scan_64 a1 t18 q32.2) else (bnd (row_g 401 (q32.2 9) ((q32.2 3 2) - 1)) fun q50 => (f_Tokens_behindBlanks z q32.2 (t18.1 + q50)).bind fun q54 => K18 (q54, (t18.2.1 + 1), q32.2))))
def f_Tokens_scan (z : Nat) (v : Va) (a1 : Int32) : Option Va := bnd (pu v 3 1 a1) fun v2 => bnd (pu v2 3 2 0) fun v7 => (f_Tokens_behindBlanks z v7 0).bind fun q12 => rp (b_Tokens_scan_18 z a1) z (q12, 0, v7)
theorem c_Tokens_scan {a1 : Int32} (hk : isTokens sh) (hF : EF Γ sh) {q : Va} (h : f_Tokens_scan z v a1 = some q) : MetV l yX10_scan cX10_scan 4 none 9 Γ sh v w n [.ref (Γ.2.1 + 3), .int a1] (fun u => u = q) := by
  unfold f_Tokens_scan at h
  refine w_start pn_X10 (Nat.le_of_ble_eq_true rfl) fun p e s m args below meth c hx hb hml hret hlk hnm hts hown hK hP hz hE hS ls hl => ?_
  refine lv_aload_n hx hb dX10_scan_0 rfl (lv_at hl 0 rfl) ?_
  refine lv_iload_n hx hb dX10_scan_1 rfl (lv_at hl 1 rfl) ?_
  obtain ⟨v2, e2, h⟩ := bnd_e h
  refine w_pi2 (k := 3) hx hb hts hown hK hP hS hz fX10_30 hk.1 rfl e2 dX10_scan_2 fun H1 locs1 hz hP hS => ?_
  refine lv_aload_n hx hb dX10_scan_5 rfl (lv_at hl 0 rfl) ?_
  refine lv_iconst (v := 0) hx hb dX10_scan_6 rfl ?_
  obtain ⟨v7, e7, h⟩ := bnd_e h
  refine w_pi2 (k := 3) hx hb hts hown hK hP hS hz fX10_34 hk.1 rfl e7 dX10_scan_7 fun H1 locs1 hz hP hS => ?_
  refine lv_aload_n hx hb dX10_scan_10 rfl (lv_at hl 0 rfl) ?_
  refine lv_iconst (v := 0) hx hb dX10_scan_11 rfl ?_
  obtain ⟨q12, e12, h⟩ := obn_e h
  refine z_Vi (k := 3) (r1 := q12) (v1 := v7) hx hb hml hts hown hK hP hS hz hE (c_Tokens_behindBlanks hk e12) kX10_behindBlanks mX10_37 hk.1 rfl rfl rfl hl.1 (Nat.le_of_ble_eq_true rfl) ⟨Nat.le_of_ble_eq_true rfl, Nat.le_of_ble_eq_true rfl⟩ ⟨Nat.le_refl _, Nat.le_refl _⟩ dX10_scan_12 fun H1 locs1 hz hP hS => ?_
  refine lv_istore_n (lv' := [(2, .int q12), (0, .ref (Γ.2.1 + 3)), (1, .int a1)]) hx hb dX10_scan_15 rfl hl (by decide) rfl fun ls hl => ?_
  refine lv_iconst (v := 0) hx hb dX10_scan_16 rfl ?_
  refine lv_istore_n (lv' := [(3, .int 0), (2, .int q12), (0, .ref (Γ.2.1 + 3)), (1, .int a1)]) hx hb dX10_scan_17 rfl hl (by decide) rfl fun ls hl => ?_
  have L18 : ∀ (fu : Nat) (t18 : Int32 × Int32 × Va), rp (b_Tokens_scan_18 z a1) fu t18 = some q → ∀ (H1 : Heap) (locs1 : List Loc) (ls1 : Array Slot), lv_has ls1 4 [(0, .ref (Γ.2.1 + 3)), (1, .int a1), (2, .int t18.1), (3, .int t18.2.1)] → Wd Γ sh t18.2.2 w H1 → va_S (gA Γ sh n) s.heap H1 locs1 → H1.size = Γ.2.1 + n → wpV Γ sh w n 9 (fun u => u = q) p l e s m args below meth c H1 locs1 (F0 m 18 ls1 []) := by
    refine q_loop (fun K18 ih18 t18 h H1 locs1 ls hl hP hS hz => ?_)
    unfold b_Tokens_scan_18 at h
    refine lv_iload_n hx hb dX10_scan_18 rfl (lv_at hl 3 rfl) ?_
    refine lv_sipush (v := 400) hx hb dX10_scan_19 rfl ?_
    have J64 : ∀ (v64 : Va), (j_Tokens_scan_64 a1 t18) v64 = some q → ∀ (H1 : Heap) (locs1 : List Loc) (ls1 : Array Slot), lv_has ls1 4 [(0, .ref (Γ.2.1 + 3)), (1, .int a1), (2, .int t18.1)] → Wd Γ sh v64 w H1 → va_S (gA Γ sh n) s.heap H1 locs1 → H1.size = Γ.2.1 + n → wpV Γ sh w n 9 (fun u => u = q) p l e s m args below meth c H1 locs1 (F0 m 64 ls1 []) := by
      intro v64 h H1 locs1 ls hl hP hS hz
      unfold j_Tokens_scan_64 at h
      refine lv_aload_n hx hb dX10_scan_64 rfl (lv_at hl 0 rfl) ?_
      refine lv_iload_n hx hb dX10_scan_65 rfl (lv_at hl 2 rfl) ?_
      refine lv_iload_n hx hb dX10_scan_66 rfl (lv_at hl 1 rfl) ?_
      have J77 : ∀ (s77_0 : Int32), (j_Tokens_scan_77 t18 v64) s77_0 = some q → ∀ (H1 : Heap) (locs1 : List Loc) (ls1 : Array Slot), lv_has ls1 4 [(2, .int t18.1)] → Wd Γ sh v64 w H1 → va_S (gA Γ sh n) s.heap H1 locs1 → H1.size = Γ.2.1 + n → wpV Γ sh w n 9 (fun u => u = q) p l e s m args below meth c H1 locs1 (F0 m 77 ls1 [.int s77_0, .ref (Γ.2.1 + 3)]) := by
        intro s77_0 h H1 locs1 ls hl hP hS hz
        unfold j_Tokens_scan_77 at h
        refine lv_iload_n hx hb dX10_scan_77 rfl (lv_at hl 0 rfl) ?_
        refine lv_iconst (v := 0) hx hb dX10_scan_78 rfl ?_
        refine lv_iconst (v := 0) hx hb dX10_scan_79 rfl ?_
        obtain ⟨q80, e80, h⟩ := obn_e h
        refine z_Vv (k := 3) (v1 := q80) hx hb hml hts hown hK hP hS hz hE (c_Tokens_add hk e80) kX10_add mX10_50 hk.1 rfl rfl rfl hl.1 (Nat.le_of_ble_eq_true rfl) ⟨Nat.le_of_ble_eq_true rfl, Nat.le_of_ble_eq_true rfl⟩ ⟨Nat.le_refl _, Nat.le_refl _⟩ dX10_scan_80 fun H1 locs1 hz hP hS => ?_
        exact w_vret hx hb hret hlk hK hP hS hz hE (Option.some.inj h) dX10_scan_83
      refine lv_icmp_ge (tgt := 75) hx hb dX10_scan_67 rfl (fun hc67 => ?_) (fun hc67 => ?_)
      · have h := itt_e h hc67
        refine lv_bipush (v := 49) hx hb dX10_scan_75 rfl ?_
        exact J77 49 h _ _ _ (lv_sub hl [2] rfl) hP hS hz
      · have h := itf_e h hc67
        refine lv_bipush (v := 50) hx hb dX10_scan_70 rfl ?_
        refine lv_goto (tgt := 77) hx hb dX10_scan_72 rfl ?_
        exact J77 50 h _ _ _ (lv_sub hl [2] rfl) hP hS hz
    refine lv_icmp_ge (tgt := 64) hx hb dX10_scan_22 rfl (fun hc22 => ?_) (fun hc22 => ?_)
    · have h := itt_e h hc22
      exact J64 t18.2.2 h _ _ _ (lv_sub hl [0, 1, 2] rfl) hP hS hz
    · have h := itf_e h hc22
      refine lv_iload_n hx hb dX10_scan_25 rfl (lv_at hl 2 rfl) ?_
      refine lv_iload_n hx hb dX10_scan_26 rfl (lv_at hl 1 rfl) ?_
      refine lv_icmp_ge (tgt := 64) hx hb dX10_scan_27 rfl (fun hc27 => ?_) (fun hc27 => ?_)
      · have h := itt_e h hc27
        exact J64 t18.2.2 h _ _ _ (lv_sub hl [0, 1, 2] rfl) hP hS hz
      · have h := itf_e h hc27
        refine lv_aload_n hx hb dX10_scan_30 rfl (lv_at hl 0 rfl) ?_
        refine lv_iload_n hx hb dX10_scan_31 rfl (lv_at hl 2 rfl) ?_
        obtain ⟨q32, e32, h⟩ := obn_e h
        refine z_Vi (k := 3) (r1 := (q_b q32.1)) (v1 := q32.2) hx hb hml hts hown hK hP hS hz hE (c_Tokens_reads hk hF e32) kX10_reads mX10_41 hk.1 rfl rfl rfl hl.1 (Nat.le_of_ble_eq_true rfl) ⟨Nat.le_of_ble_eq_true rfl, Nat.le_of_ble_eq_true rfl⟩ ⟨Nat.le_refl _, Nat.le_refl _⟩ dX10_scan_32 fun H1 locs1 hz hP hS => ?_
        refine lv_if_eq (tgt := 64) hx hb dX10_scan_35 rfl (fun hc35 => ?_) (fun hc35 => ?_)
        · have h := itt_e h hc35
          exact J64 q32.2 h _ _ _ (lv_sub hl [0, 1, 2] rfl) hP hS hz
        · have h := itf_e h hc35
          refine lv_aload_n hx hb dX10_scan_38 rfl (lv_at hl 0 rfl) ?_
          refine lv_iload_n hx hb dX10_scan_39 rfl (lv_at hl 2 rfl) ?_
          refine lv_aload_n hx hb dX10_scan_40 rfl (lv_at hl 0 rfl) ?_
          refine w_gr (k := 3) (r := 8) hx hb hts hown hK hP fX10_24 hk.1 rfl dX10_scan_41 ?_
          refine lv_aload_n hx hb dX10_scan_44 rfl (lv_at hl 0 rfl) ?_
          refine w_gi (k := 3) hx hb hts hown hK hP fX10_34 hk.1 rfl dX10_scan_45 ?_
          refine lv_iconst (v := 1) hx hb dX10_scan_48 rfl ?_
          refine lv_isub hx hb dX10_scan_49 ?_
          obtain ⟨q50, e50, h⟩ := bnd_e h
          refine z_Vi (k := 8) (r1 := q50) (v1 := q32.2) hx hb hml hts hown hK hP hS hz hE (C_Row_get hk.2.2.2.2.1 e50) kX7_get mX10_45 hk.2.2.2.2.1.1 rfl rfl rfl hl.1 (Nat.le_of_ble_eq_true rfl) ⟨Nat.le_of_ble_eq_true rfl, Nat.le_of_ble_eq_true rfl⟩ ⟨Nat.le_refl _, Nat.le_refl _⟩ dX10_scan_50 fun H1 locs1 hz hP hS => ?_
          refine lv_iadd hx hb dX10_scan_53 ?_
          obtain ⟨q54, e54, h⟩ := obn_e h
          refine z_Vi (k := 3) (r1 := q54) (v1 := q32.2) hx hb hml hts hown hK hP hS hz hE (c_Tokens_behindBlanks hk e54) kX10_behindBlanks mX10_37 hk.1 rfl rfl rfl hl.1 (Nat.le_of_ble_eq_true rfl) ⟨Nat.le_of_ble_eq_true rfl, Nat.le_of_ble_eq_true rfl⟩ ⟨Nat.le_refl _, Nat.le_refl _⟩ dX10_scan_54 fun H1 locs1 hz hP hS => ?_
          refine lv_istore_n (lv' := [(2, .int q54), (0, .ref (Γ.2.1 + 3)), (1, .int a1), (3, .int t18.2.1)]) hx hb dX10_scan_57 rfl hl (by decide) rfl fun ls hl => ?_
          refine lv_iinc (k := 3) (v := (t18.2.1 + 1)) (lv' := [(3, .int (t18.2.1 + 1)), (2, .int q54), (0, .ref (Γ.2.1 + 3)), (1, .int a1)]) hx hb dX10_scan_58 hl rfl rfl (by decide) rfl fun ls hl => ?_
          refine lv_goto (tgt := 18) hx hb dX10_scan_61 rfl ?_
          exact ih18 (q54, (t18.2.1 + 1), q32.2) h _ _ _ (lv_sub hl [2, 3, 1, 0] rfl) hP hS hz
  exact L18 z (q12, 0, v7) h _ _ _ (lv_sub hl [2, 3, 1, 0] rfl) hP hS hz
end GE
