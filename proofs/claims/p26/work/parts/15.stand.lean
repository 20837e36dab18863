
section GE
variable {l : Launch} {Γ : Cx} {sh : Sh} {v : Va} {w : Vl} {n z : Nat}
def f_Stand_takeChop (v : Va) (k : Nat) (a1 : Int32) : Option Va := bnd (up v (k + 6) (row_s 10 (v (k + 6)) a1 (-1))) fun q6 => bnd (up q6 (k + 8) (row_s 10 (q6 (k + 8)) a1 0)) fun q15 => bnd (up q15 (k + 10) (row_s 10 (q15 (k + 10)) a1 0)) fun q24 => some q24
theorem c_Stand_takeChop {k : Nat} {a1 : Int32} (hk : isStand sh k) {q : Va} (h : f_Stand_takeChop v k a1 = some q) : MetV l yX8_takeChop cX8_takeChop 2 none 1 Γ sh v w n [.ref (Γ.2.1 + k), .int a1] (fun u => u = q) := by
  unfold f_Stand_takeChop at h
  refine w_start pn_X8 (Nat.le_of_ble_eq_true rfl) fun p e s m args below meth c hx hb hml hret hlk hnm hts hown hK hP hz hE hS ls hl => ?_
  refine lv_aload_n hx hb dX8_takeChop_0 rfl (lv_at hl 0 rfl) ?_
  refine w_gr (k := k) (r := (k + 5)) hx hb hts hown hK hP fX8_34 hk.1 rfl dX8_takeChop_1 ?_
  refine lv_iload_n hx hb dX8_takeChop_4 rfl (lv_at hl 1 rfl) ?_
  refine lv_iconst (v := (-1)) hx hb dX8_takeChop_5 rfl ?_
  obtain ⟨q6, e6, h⟩ := bnd_e h
  refine z_Vv (k := (k + 5)) (v1 := q6) hx hb hml hts hown hK hP hS hz hE (C_Row_set hk.2.2.2.2.1 e6) kX7_set mX8_81 hk.2.2.2.2.1.1 rfl rfl rfl hl.1 (Nat.le_of_ble_eq_true rfl) ⟨Nat.le_of_ble_eq_true rfl, Nat.le_of_ble_eq_true rfl⟩ ⟨Nat.le_refl _, Nat.le_refl _⟩ dX8_takeChop_6 fun H1 locs1 hz hP hS => ?_
  refine lv_aload_n hx hb dX8_takeChop_9 rfl (lv_at hl 0 rfl) ?_
  refine w_gr (k := k) (r := (k + 7)) hx hb hts hown hK hP fX8_37 hk.1 rfl dX8_takeChop_10 ?_
  refine lv_iload_n hx hb dX8_takeChop_13 rfl (lv_at hl 1 rfl) ?_
  refine lv_iconst (v := 0) hx hb dX8_takeChop_14 rfl ?_
  obtain ⟨q15, e15, h⟩ := bnd_e h
  refine z_Vv (k := (k + 7)) (v1 := q15) hx hb hml hts hown hK hP hS hz hE (C_Row_set hk.2.2.2.2.2.1 e15) kX7_set mX8_81 hk.2.2.2.2.2.1.1 rfl rfl rfl hl.1 (Nat.le_of_ble_eq_true rfl) ⟨Nat.le_of_ble_eq_true rfl, Nat.le_of_ble_eq_true rfl⟩ ⟨Nat.le_refl _, Nat.le_refl _⟩ dX8_takeChop_15 fun H1 locs1 hz hP hS => ?_
  refine lv_aload_n hx hb dX8_takeChop_18 rfl (lv_at hl 0 rfl) ?_
  refine w_gr (k := k) (r := (k + 9)) hx hb hts hown hK hP fX8_40 hk.1 rfl dX8_takeChop_19 ?_
  refine lv_iload_n hx hb dX8_takeChop_22 rfl (lv_at hl 1 rfl) ?_
  refine lv_iconst (v := 0) hx hb dX8_takeChop_23 rfl ?_
  obtain ⟨q24, e24, h⟩ := bnd_e h
  refine z_Vv (k := (k + 9)) (v1 := q24) hx hb hml hts hown hK hP hS hz hE (C_Row_set hk.2.2.2.2.2.2.1 e24) kX7_set mX8_81 hk.2.2.2.2.2.2.1.1 rfl rfl rfl hl.1 (Nat.le_of_ble_eq_true rfl) ⟨Nat.le_of_ble_eq_true rfl, Nat.le_of_ble_eq_true rfl⟩ ⟨Nat.le_refl _, Nat.le_refl _⟩ dX8_takeChop_24 fun H1 locs1 hz hP hS => ?_
  exact w_vret hx hb hret hlk hK hP hS hz hE (Option.some.inj h) dX8_takeChop_27
def b_Stand_begin_98 (k : Nat) (K98 : (Int32 × Va) → Option Va) (t98 : Int32 × Va) : Option Va := if (t98.2 61 2) ≤ t98.1 then ((f_Debts_forget t98.2 (k + 13)).bind fun q138 => bnd (up q138 (k + 19) (row_f 4 (q138 (k + 19)) 0)) fun q146 => bnd (up q146 (k + 21) (row_f 24 (q146 (k + 21)) 0)) fun q154 => some q154) else (bnd (row_g 6 (t98.2 69) t98.1) fun q122 => bnd (up t98.2 (k + 12) (row_s 6 (t98.2 (k + 12)) t98.1 q122)) fun q125 => K98 ((t98.1 + 1), q125))
def b_Stand_begin_33 (z : Nat) (k : Nat) (K33 : (Int32 × Va) → Option Va) (t33 : Int32 × Va) : Option Va := if (t33.2 61 3) ≤ t33.1 then (rp (b_Stand_begin_98 k) z (0, t33.2)) else (bnd (row_g 10 (t33.2 75) t33.1) fun q57 => bnd (up t33.2 (k + 2) (row_s 10 (t33.2 (k + 2)) t33.1 (q57 * 100))) fun q63 => bnd (row_g 10 (q63 77) t33.1) fun q79 => bnd (up q63 (k + 4) (row_s 10 (q63 (k + 4)) t33.1 q79)) fun q82 => (f_Stand_takeChop q82 k t33.1).bind fun q87 => K33 ((t33.1 + 1), q87))
def f_Stand_begin (z : Nat) (v : Va) (k : Nat) : Option Va := bnd (pu v k 3 0) fun v2 => bnd (pu v2 k 4 0) fun v7 => bnd (pu v7 k 5 0) fun v12 => bnd (up v12 (k + 2) (row_f 10 (v12 (k + 2)) 0)) fun q20 => bnd (up q20 (k + 12) (row_f 6 (q20 (k + 12)) 0)) fun q28 => rp (b_Stand_begin_33 z k) z (0, q28)
theorem c_Stand_begin {k : Nat} (hk : isStand sh k) {q : Va} (h : f_Stand_begin z v k = some q) : MetV l yX8_begin cX8_begin 2 none 2 Γ sh v w n [.ref (Γ.2.1 + k)] (fun u => u = q) := by
  unfold f_Stand_begin at h
  refine w_start pn_X8 (Nat.le_of_ble_eq_true rfl) fun p e s m args below meth c hx hb hml hret hlk hnm hts hown hK hP hz hE hS ls hl => ?_
  refine lv_aload_n hx hb dX8_begin_0 rfl (lv_at hl 0 rfl) ?_
  refine lv_iconst (v := 0) hx hb dX8_begin_1 rfl ?_
  obtain ⟨v2, e2, h⟩ := bnd_e h
  refine w_pi2 (k := k) hx hb hts hown hK hP hS hz fX8_59 hk.1 rfl e2 dX8_begin_2 fun H1 locs1 hz hP hS => ?_
  refine lv_aload_n hx hb dX8_begin_5 rfl (lv_at hl 0 rfl) ?_
  refine lv_iconst (v := 0) hx hb dX8_begin_6 rfl ?_
  obtain ⟨v7, e7, h⟩ := bnd_e h
  refine w_pi2 (k := k) hx hb hts hown hK hP hS hz fX8_62 hk.1 rfl e7 dX8_begin_7 fun H1 locs1 hz hP hS => ?_
  refine lv_aload_n hx hb dX8_begin_10 rfl (lv_at hl 0 rfl) ?_
  refine lv_iconst (v := 0) hx hb dX8_begin_11 rfl ?_
  obtain ⟨v12, e12, h⟩ := bnd_e h
  refine w_pi2 (k := k) hx hb hts hown hK hP hS hz fX8_65 hk.1 rfl e12 dX8_begin_12 fun H1 locs1 hz hP hS => ?_
  refine lv_aload_n hx hb dX8_begin_15 rfl (lv_at hl 0 rfl) ?_
  refine w_gr (k := k) (r := (k + 1)) hx hb hts hown hK hP fX8_27 hk.1 rfl dX8_begin_16 ?_
  refine lv_iconst (v := 0) hx hb dX8_begin_19 rfl ?_
  obtain ⟨q20, e20, h⟩ := bnd_e h
  refine z_Vv (k := (k + 1)) (v1 := q20) hx hb hml hts hown hK hP hS hz hE (C_Row_fill hk.2.2.1 e20) kX7_fill mX8_68 hk.2.2.1.1 rfl rfl rfl hl.1 (Nat.le_of_ble_eq_true rfl) ⟨Nat.le_of_ble_eq_true rfl, Nat.le_of_ble_eq_true rfl⟩ ⟨Nat.le_refl _, Nat.le_refl _⟩ dX8_begin_20 fun H1 locs1 hz hP hS => ?_
  refine lv_aload_n hx hb dX8_begin_23 rfl (lv_at hl 0 rfl) ?_
  refine w_gr (k := k) (r := (k + 11)) hx hb hts hown hK hP fX8_43 hk.1 rfl dX8_begin_24 ?_
  refine lv_iconst (v := 0) hx hb dX8_begin_27 rfl ?_
  obtain ⟨q28, e28, h⟩ := bnd_e h
  refine z_Vv (k := (k + 11)) (v1 := q28) hx hb hml hts hown hK hP hS hz hE (C_Row_fill hk.2.2.2.2.2.2.2.1 e28) kX7_fill mX8_68 hk.2.2.2.2.2.2.2.1.1 rfl rfl rfl hl.1 (Nat.le_of_ble_eq_true rfl) ⟨Nat.le_of_ble_eq_true rfl, Nat.le_of_ble_eq_true rfl⟩ ⟨Nat.le_refl _, Nat.le_refl _⟩ dX8_begin_28 fun H1 locs1 hz hP hS => ?_
  refine lv_iconst (v := 0) hx hb dX8_begin_31 rfl ?_
  refine lv_istore_n (lv' := [(1, .int 0), (0, .ref (Γ.2.1 + k))]) hx hb dX8_begin_32 rfl hl (by decide) rfl fun ls hl => ?_
  have L33 : ∀ (fu : Nat) (t33 : Int32 × Va), rp (b_Stand_begin_33 z k) fu t33 = some q → ∀ (H1 : Heap) (locs1 : List Loc) (ls1 : Array Slot), lv_has ls1 2 [(0, .ref (Γ.2.1 + k)), (1, .int t33.1)] → Wd Γ sh t33.2 w H1 → va_S (gA Γ sh n) s.heap H1 locs1 → H1.size = Γ.2.1 + n → wpV Γ sh w n 2 (fun u => u = q) p l e s m args below meth c H1 locs1 (F0 m 33 ls1 []) := by
    refine q_loop (fun K33 ih33 t33 h H1 locs1 ls hl hP hS hz => ?_)
    unfold b_Stand_begin_33 at h
    refine lv_iload_n hx hb dX8_begin_33 rfl (lv_at hl 1 rfl) ?_
    refine lv_aload_n hx hb dX8_begin_34 rfl (lv_at hl 0 rfl) ?_
    refine w_gr (k := k) (r := 61) hx hb hts hown hK hP fX8_7 hk.1 rfl dX8_begin_35 ?_
    refine w_gi (k := 61) hx hb hts hown hK hP fX8_71 hk.2.1.1 rfl dX8_begin_38 ?_
    refine lv_icmp_ge (tgt := 96) hx hb dX8_begin_41 rfl (fun hc41 => ?_) (fun hc41 => ?_)
    · have h := itt_e h hc41
      refine lv_iconst (v := 0) hx hb dX8_begin_96 rfl ?_
      refine lv_istore_n (lv' := [(1, .int 0), (0, .ref (Γ.2.1 + k))]) hx hb dX8_begin_97 rfl hl (by decide) rfl fun ls hl => ?_
      have L98 : ∀ (fu : Nat) (t98 : Int32 × Va), rp (b_Stand_begin_98 k) fu t98 = some q → ∀ (H1 : Heap) (locs1 : List Loc) (ls1 : Array Slot), lv_has ls1 2 [(0, .ref (Γ.2.1 + k)), (1, .int t98.1)] → Wd Γ sh t98.2 w H1 → va_S (gA Γ sh n) s.heap H1 locs1 → H1.size = Γ.2.1 + n → wpV Γ sh w n 2 (fun u => u = q) p l e s m args below meth c H1 locs1 (F0 m 98 ls1 []) := by
        refine q_loop (fun K98 ih98 t98 h H1 locs1 ls hl hP hS hz => ?_)
        unfold b_Stand_begin_98 at h
        refine lv_iload_n hx hb dX8_begin_98 rfl (lv_at hl 1 rfl) ?_
        refine lv_aload_n hx hb dX8_begin_99 rfl (lv_at hl 0 rfl) ?_
        refine w_gr (k := k) (r := 61) hx hb hts hown hK hP fX8_7 hk.1 rfl dX8_begin_100 ?_
        refine w_gi (k := 61) hx hb hts hown hK hP fX8_89 hk.2.1.1 rfl dX8_begin_103 ?_
        refine lv_icmp_ge (tgt := 134) hx hb dX8_begin_106 rfl (fun hc106 => ?_) (fun hc106 => ?_)
        · have h := itt_e h hc106
          refine lv_aload_n hx hb dX8_begin_134 rfl (lv_at hl 0 rfl) ?_
          refine w_gr (k := k) (r := (k + 13)) hx hb hts hown hK hP fX8_49 hk.1 rfl dX8_begin_135 ?_
          obtain ⟨q138, e138, h⟩ := obn_e h
          refine z_Vv (k := (k + 13)) (v1 := q138) hx hb hml hts hown hK hP hS hz hE (c_Debts_forget hk.2.2.2.2.2.2.2.2.1 e138) kX1_forget mX8_93 hk.2.2.2.2.2.2.2.2.1.1 rfl rfl rfl hl.1 (Nat.le_of_ble_eq_true rfl) ⟨Nat.le_of_ble_eq_true rfl, Nat.le_of_ble_eq_true rfl⟩ ⟨Nat.le_refl _, Nat.le_refl _⟩ dX8_begin_138 fun H1 locs1 hz hP hS => ?_
          refine lv_aload_n hx hb dX8_begin_141 rfl (lv_at hl 0 rfl) ?_
          refine w_gr (k := k) (r := (k + 18)) hx hb hts hown hK hP fX8_53 hk.1 rfl dX8_begin_142 ?_
          refine lv_iconst (v := 0) hx hb dX8_begin_145 rfl ?_
          obtain ⟨q146, e146, h⟩ := bnd_e h
          refine z_Vv (k := (k + 18)) (v1 := q146) hx hb hml hts hown hK hP hS hz hE (C_Row_fill hk.2.2.2.2.2.2.2.2.2.1 e146) kX7_fill mX8_68 hk.2.2.2.2.2.2.2.2.2.1.1 rfl rfl rfl hl.1 (Nat.le_of_ble_eq_true rfl) ⟨Nat.le_of_ble_eq_true rfl, Nat.le_of_ble_eq_true rfl⟩ ⟨Nat.le_refl _, Nat.le_refl _⟩ dX8_begin_146 fun H1 locs1 hz hP hS => ?_
          refine lv_aload_n hx hb dX8_begin_149 rfl (lv_at hl 0 rfl) ?_
          refine w_gr (k := k) (r := (k + 20)) hx hb hts hown hK hP fX8_56 hk.1 rfl dX8_begin_150 ?_
          refine lv_iconst (v := 0) hx hb dX8_begin_153 rfl ?_
          obtain ⟨q154, e154, h⟩ := bnd_e h
          refine z_Vv (k := (k + 20)) (v1 := q154) hx hb hml hts hown hK hP hS hz hE (C_Row_fill hk.2.2.2.2.2.2.2.2.2.2 e154) kX7_fill mX8_68 hk.2.2.2.2.2.2.2.2.2.2.1 rfl rfl rfl hl.1 (Nat.le_of_ble_eq_true rfl) ⟨Nat.le_of_ble_eq_true rfl, Nat.le_of_ble_eq_true rfl⟩ ⟨Nat.le_refl _, Nat.le_refl _⟩ dX8_begin_154 fun H1 locs1 hz hP hS => ?_
          exact w_vret hx hb hret hlk hK hP hS hz hE (Option.some.inj h) dX8_begin_157
        · have h := itf_e h hc106
          refine lv_aload_n hx hb dX8_begin_109 rfl (lv_at hl 0 rfl) ?_
          refine w_gr (k := k) (r := (k + 11)) hx hb hts hown hK hP fX8_43 hk.1 rfl dX8_begin_110 ?_
          refine lv_iload_n hx hb dX8_begin_113 rfl (lv_at hl 1 rfl) ?_
          refine lv_aload_n hx hb dX8_begin_114 rfl (lv_at hl 0 rfl) ?_
          refine w_gr (k := k) (r := 61) hx hb hts hown hK hP fX8_7 hk.1 rfl dX8_begin_115 ?_
          refine w_gr (k := 61) (r := 68) hx hb hts hown hK hP fX8_92 hk.2.1.1 rfl dX8_begin_118 ?_
          refine lv_iload_n hx hb dX8_begin_121 rfl (lv_at hl 1 rfl) ?_
          obtain ⟨q122, e122, h⟩ := bnd_e h
          refine z_Vi (k := 68) (r1 := q122) (v1 := t98.2) hx hb hml hts hown hK hP hS hz hE (C_Row_get hk.2.1.2.2.2.2.1 e122) kX7_get mX8_77 hk.2.1.2.2.2.2.1.1 rfl rfl rfl hl.1 (Nat.le_of_ble_eq_true rfl) ⟨Nat.le_of_ble_eq_true rfl, Nat.le_of_ble_eq_true rfl⟩ ⟨Nat.le_refl _, Nat.le_refl _⟩ dX8_begin_122 fun H1 locs1 hz hP hS => ?_
          obtain ⟨q125, e125, h⟩ := bnd_e h
          refine z_Vv (k := (k + 11)) (v1 := q125) hx hb hml hts hown hK hP hS hz hE (C_Row_set hk.2.2.2.2.2.2.2.1 e125) kX7_set mX8_81 hk.2.2.2.2.2.2.2.1.1 rfl rfl rfl hl.1 (Nat.le_of_ble_eq_true rfl) ⟨Nat.le_of_ble_eq_true rfl, Nat.le_of_ble_eq_true rfl⟩ ⟨Nat.le_refl _, Nat.le_refl _⟩ dX8_begin_125 fun H1 locs1 hz hP hS => ?_
          refine lv_iinc (k := 1) (v := (t98.1 + 1)) (lv' := [(1, .int (t98.1 + 1)), (0, .ref (Γ.2.1 + k))]) hx hb dX8_begin_128 hl rfl rfl (by decide) rfl fun ls hl => ?_
          refine lv_goto (tgt := 98) hx hb dX8_begin_131 rfl ?_
          exact ih98 ((t98.1 + 1), q125) h _ _ _ (lv_sub hl [1, 0] rfl) hP hS hz
      exact L98 z (0, t33.2) h _ _ _ (lv_sub hl [1, 0] rfl) hP hS hz
    · have h := itf_e h hc41
      refine lv_aload_n hx hb dX8_begin_44 rfl (lv_at hl 0 rfl) ?_
      refine w_gr (k := k) (r := (k + 1)) hx hb hts hown hK hP fX8_27 hk.1 rfl dX8_begin_45 ?_
      refine lv_iload_n hx hb dX8_begin_48 rfl (lv_at hl 1 rfl) ?_
      refine lv_aload_n hx hb dX8_begin_49 rfl (lv_at hl 0 rfl) ?_
      refine w_gr (k := k) (r := 61) hx hb hts hown hK hP fX8_7 hk.1 rfl dX8_begin_50 ?_
      refine w_gr (k := 61) (r := 74) hx hb hts hown hK hP fX8_74 hk.2.1.1 rfl dX8_begin_53 ?_
      refine lv_iload_n hx hb dX8_begin_56 rfl (lv_at hl 1 rfl) ?_
      obtain ⟨q57, e57, h⟩ := bnd_e h
      refine z_Vi (k := 74) (r1 := q57) (v1 := t33.2) hx hb hml hts hown hK hP hS hz hE (C_Row_get hk.2.1.2.2.2.2.2.2.2.1 e57) kX7_get mX8_77 hk.2.1.2.2.2.2.2.2.2.1.1 rfl rfl rfl hl.1 (Nat.le_of_ble_eq_true rfl) ⟨Nat.le_of_ble_eq_true rfl, Nat.le_of_ble_eq_true rfl⟩ ⟨Nat.le_refl _, Nat.le_refl _⟩ dX8_begin_57 fun H1 locs1 hz hP hS => ?_
      refine lv_bipush (v := 100) hx hb dX8_begin_60 rfl ?_
      refine lv_imul hx hb dX8_begin_62 ?_
      obtain ⟨q63, e63, h⟩ := bnd_e h
      refine z_Vv (k := (k + 1)) (v1 := q63) hx hb hml hts hown hK hP hS hz hE (C_Row_set hk.2.2.1 e63) kX7_set mX8_81 hk.2.2.1.1 rfl rfl rfl hl.1 (Nat.le_of_ble_eq_true rfl) ⟨Nat.le_of_ble_eq_true rfl, Nat.le_of_ble_eq_true rfl⟩ ⟨Nat.le_refl _, Nat.le_refl _⟩ dX8_begin_63 fun H1 locs1 hz hP hS => ?_
      refine lv_aload_n hx hb dX8_begin_66 rfl (lv_at hl 0 rfl) ?_
      refine w_gr (k := k) (r := (k + 3)) hx hb hts hown hK hP fX8_31 hk.1 rfl dX8_begin_67 ?_
      refine lv_iload_n hx hb dX8_begin_70 rfl (lv_at hl 1 rfl) ?_
      refine lv_aload_n hx hb dX8_begin_71 rfl (lv_at hl 0 rfl) ?_
      refine w_gr (k := k) (r := 61) hx hb hts hown hK hP fX8_7 hk.1 rfl dX8_begin_72 ?_
      refine w_gr (k := 61) (r := 76) hx hb hts hown hK hP fX8_85 hk.2.1.1 rfl dX8_begin_75 ?_
      refine lv_iload_n hx hb dX8_begin_78 rfl (lv_at hl 1 rfl) ?_
      obtain ⟨q79, e79, h⟩ := bnd_e h
      refine z_Vi (k := 76) (r1 := q79) (v1 := q63) hx hb hml hts hown hK hP hS hz hE (C_Row_get hk.2.1.2.2.2.2.2.2.2.2.1 e79) kX7_get mX8_77 hk.2.1.2.2.2.2.2.2.2.2.1.1 rfl rfl rfl hl.1 (Nat.le_of_ble_eq_true rfl) ⟨Nat.le_of_ble_eq_true rfl, Nat.le_of_ble_eq_true rfl⟩ ⟨Nat.le_refl _, Nat.le_refl _⟩ dX8_begin_79 fun H1 locs1 hz hP hS => ?_
      obtain ⟨q82, e82, h⟩ := bnd_e h
      refine z_Vv (k := (k + 3)) (v1 := q82) hx hb hml hts hown hK hP hS hz hE (C_Row_set hk.2.2.2.1 e82) kX7_set mX8_81 hk.2.2.2.1.1 rfl rfl rfl hl.1 (Nat.le_of_ble_eq_true rfl) ⟨Nat.le_of_ble_eq_true rfl, Nat.le_of_ble_eq_true rfl⟩ ⟨Nat.le_refl _, Nat.le_refl _⟩ dX8_begin_82 fun H1 locs1 hz hP hS => ?_
      refine lv_aload_n hx hb dX8_begin_85 rfl (lv_at hl 0 rfl) ?_
      refine lv_iload_n hx hb dX8_begin_86 rfl (lv_at hl 1 rfl) ?_
      obtain ⟨q87, e87, h⟩ := obn_e h
      refine z_Vv (k := k) (v1 := q87) hx hb hml hts hown hK hP hS hz hE (c_Stand_takeChop hk e87) kX8_takeChop mX8_86 hk.1 rfl rfl rfl hl.1 (Nat.le_of_ble_eq_true rfl) ⟨Nat.le_of_ble_eq_true rfl, Nat.le_of_ble_eq_true rfl⟩ ⟨Nat.le_refl _, Nat.le_refl _⟩ dX8_begin_87 fun H1 locs1 hz hP hS => ?_
      refine lv_iinc (k := 1) (v := (t33.1 + 1)) (lv' := [(1, .int (t33.1 + 1)), (0, .ref (Γ.2.1 + k))]) hx hb dX8_begin_90 hl rfl rfl (by decide) rfl fun ls hl => ?_
      refine lv_goto (tgt := 33) hx hb dX8_begin_93 rfl ?_
      exact ih33 ((t33.1 + 1), q87) h _ _ _ (lv_sub hl [1, 0] rfl) hP hS hz
  exact L33 z (0, q28) h _ _ _ (lv_sub hl [1, 0] rfl) hP hS hz
def f_Stand_copyFrom (v : Va) (k : Nat) (k1 : Nat) : Option Va := bnd (pu v k 1 (v k1 1)) fun v5 => bnd (pu v5 k 2 (v5 k1 2)) fun v13 => bnd (pu v13 k 3 (v13 k1 3)) fun v21 => bnd (pu v21 k 4 (v21 k1 4)) fun v29 => bnd (pu v29 k 5 (v29 k1 5)) fun v37 => bnd (up v37 (k + 2) (row_c 10 (v37 (k + 2)) 10 (v37 (k1 + 2)))) fun q48 => bnd (up q48 (k + 4) (row_c 10 (q48 (k + 4)) 10 (q48 (k1 + 4)))) fun q59 => bnd (up q59 (k + 6) (row_c 10 (q59 (k + 6)) 10 (q59 (k1 + 6)))) fun q70 => bnd (up q70 (k + 8) (row_c 10 (q70 (k + 8)) 10 (q70 (k1 + 8)))) fun q81 => bnd (up q81 (k + 10) (row_c 10 (q81 (k + 10)) 10 (q81 (k1 + 10)))) fun q92 => bnd (up q92 (k + 12) (row_c 6 (q92 (k + 12)) 6 (q92 (k1 + 12)))) fun q103 => (f_Debts_copyFrom q103 (k + 13) (k1 + 13)).bind fun q114 => bnd (up q114 (k + 19) (row_c 4 (q114 (k + 19)) 4 (q114 (k1 + 19)))) fun q125 => bnd (up q125 (k + 21) (row_c 24 (q125 (k + 21)) 24 (q125 (k1 + 21)))) fun q136 => some q136
theorem c_Stand_copyFrom {k : Nat} {k1 : Nat} (hk : isStand sh k) (hk1 : isStand sh k1) (hne : k ≠ k1) {q : Va} (h : f_Stand_copyFrom v k k1 = some q) : MetV l yX8_copyFrom cX8_copyFrom 2 none 3 Γ sh v w n [.ref (Γ.2.1 + k), .ref (Γ.2.1 + k1)] (fun u => u = q) := by
  unfold f_Stand_copyFrom at h
  refine w_start pn_X8 (Nat.le_of_ble_eq_true rfl) fun p e s m args below meth c hx hb hml hret hlk hnm hts hown hK hP hz hE hS ls hl => ?_
  refine lv_aload_n hx hb dX8_copyFrom_0 rfl (lv_at hl 0 rfl) ?_
  refine lv_aload_n hx hb dX8_copyFrom_1 rfl (lv_at hl 1 rfl) ?_
  refine w_gi (k := k1) hx hb hts hown hK hP fX8_13 hk1.1 rfl dX8_copyFrom_2 ?_
  obtain ⟨v5, e5, h⟩ := bnd_e h
  refine w_pi2 (k := k) hx hb hts hown hK hP hS hz fX8_13 hk.1 rfl e5 dX8_copyFrom_5 fun H1 locs1 hz hP hS => ?_
  refine lv_aload_n hx hb dX8_copyFrom_8 rfl (lv_at hl 0 rfl) ?_
  refine lv_aload_n hx hb dX8_copyFrom_9 rfl (lv_at hl 1 rfl) ?_
  refine w_gi (k := k1) hx hb hts hown hK hP fX8_17 hk1.1 rfl dX8_copyFrom_10 ?_
  obtain ⟨v13, e13, h⟩ := bnd_e h
  refine w_pi2 (k := k) hx hb hts hown hK hP hS hz fX8_17 hk.1 rfl e13 dX8_copyFrom_13 fun H1 locs1 hz hP hS => ?_
  refine lv_aload_n hx hb dX8_copyFrom_16 rfl (lv_at hl 0 rfl) ?_
  refine lv_aload_n hx hb dX8_copyFrom_17 rfl (lv_at hl 1 rfl) ?_
  refine w_gi (k := k1) hx hb hts hown hK hP fX8_59 hk1.1 rfl dX8_copyFrom_18 ?_
  obtain ⟨v21, e21, h⟩ := bnd_e h
  refine w_pi2 (k := k) hx hb hts hown hK hP hS hz fX8_59 hk.1 rfl e21 dX8_copyFrom_21 fun H1 locs1 hz hP hS => ?_
  refine lv_aload_n hx hb dX8_copyFrom_24 rfl (lv_at hl 0 rfl) ?_
  refine lv_aload_n hx hb dX8_copyFrom_25 rfl (lv_at hl 1 rfl) ?_
  refine w_gi (k := k1) hx hb hts hown hK hP fX8_62 hk1.1 rfl dX8_copyFrom_26 ?_
  obtain ⟨v29, e29, h⟩ := bnd_e h
  refine w_pi2 (k := k) hx hb hts hown hK hP hS hz fX8_62 hk.1 rfl e29 dX8_copyFrom_29 fun H1 locs1 hz hP hS => ?_
  refine lv_aload_n hx hb dX8_copyFrom_32 rfl (lv_at hl 0 rfl) ?_
  refine lv_aload_n hx hb dX8_copyFrom_33 rfl (lv_at hl 1 rfl) ?_
  refine w_gi (k := k1) hx hb hts hown hK hP fX8_65 hk1.1 rfl dX8_copyFrom_34 ?_
  obtain ⟨v37, e37, h⟩ := bnd_e h
  refine w_pi2 (k := k) hx hb hts hown hK hP hS hz fX8_65 hk.1 rfl e37 dX8_copyFrom_37 fun H1 locs1 hz hP hS => ?_
  refine lv_aload_n hx hb dX8_copyFrom_40 rfl (lv_at hl 0 rfl) ?_
  refine w_gr (k := k) (r := (k + 1)) hx hb hts hown hK hP fX8_27 hk.1 rfl dX8_copyFrom_41 ?_
  refine lv_aload_n hx hb dX8_copyFrom_44 rfl (lv_at hl 1 rfl) ?_
  refine w_gr (k := k1) (r := (k1 + 1)) hx hb hts hown hK hP fX8_27 hk1.1 rfl dX8_copyFrom_45 ?_
  obtain ⟨q48, e48, h⟩ := bnd_e h
  refine z_Vv (k := (k + 1)) (v1 := q48) hx hb hml hts hown hK hP hS hz hE (C_Row_copyFrom hk.2.2.1 hk1.2.2.1 (by omega) e48) kX7_copyFrom mX8_96 hk.2.2.1.1 rfl rfl rfl hl.1 (Nat.le_of_ble_eq_true rfl) ⟨Nat.le_of_ble_eq_true rfl, Nat.le_of_ble_eq_true rfl⟩ ⟨Nat.le_refl _, Nat.le_refl _⟩ dX8_copyFrom_48 fun H1 locs1 hz hP hS => ?_
  refine lv_aload_n hx hb dX8_copyFrom_51 rfl (lv_at hl 0 rfl) ?_
  refine w_gr (k := k) (r := (k + 3)) hx hb hts hown hK hP fX8_31 hk.1 rfl dX8_copyFrom_52 ?_
  refine lv_aload_n hx hb dX8_copyFrom_55 rfl (lv_at hl 1 rfl) ?_
  refine w_gr (k := k1) (r := (k1 + 3)) hx hb hts hown hK hP fX8_31 hk1.1 rfl dX8_copyFrom_56 ?_
  obtain ⟨q59, e59, h⟩ := bnd_e h
  refine z_Vv (k := (k + 3)) (v1 := q59) hx hb hml hts hown hK hP hS hz hE (C_Row_copyFrom hk.2.2.2.1 hk1.2.2.2.1 (by omega) e59) kX7_copyFrom mX8_96 hk.2.2.2.1.1 rfl rfl rfl hl.1 (Nat.le_of_ble_eq_true rfl) ⟨Nat.le_of_ble_eq_true rfl, Nat.le_of_ble_eq_true rfl⟩ ⟨Nat.le_refl _, Nat.le_refl _⟩ dX8_copyFrom_59 fun H1 locs1 hz hP hS => ?_
  refine lv_aload_n hx hb dX8_copyFrom_62 rfl (lv_at hl 0 rfl) ?_
  refine w_gr (k := k) (r := (k + 5)) hx hb hts hown hK hP fX8_34 hk.1 rfl dX8_copyFrom_63 ?_
  refine lv_aload_n hx hb dX8_copyFrom_66 rfl (lv_at hl 1 rfl) ?_
  refine w_gr (k := k1) (r := (k1 + 5)) hx hb hts hown hK hP fX8_34 hk1.1 rfl dX8_copyFrom_67 ?_
  obtain ⟨q70, e70, h⟩ := bnd_e h
  refine z_Vv (k := (k + 5)) (v1 := q70) hx hb hml hts hown hK hP hS hz hE (C_Row_copyFrom hk.2.2.2.2.1 hk1.2.2.2.2.1 (by omega) e70) kX7_copyFrom mX8_96 hk.2.2.2.2.1.1 rfl rfl rfl hl.1 (Nat.le_of_ble_eq_true rfl) ⟨Nat.le_of_ble_eq_true rfl, Nat.le_of_ble_eq_true rfl⟩ ⟨Nat.le_refl _, Nat.le_refl _⟩ dX8_copyFrom_70 fun H1 locs1 hz hP hS => ?_
  refine lv_aload_n hx hb dX8_copyFrom_73 rfl (lv_at hl 0 rfl) ?_
  refine w_gr (k := k) (r := (k + 7)) hx hb hts hown hK hP fX8_37 hk.1 rfl dX8_copyFrom_74 ?_
  refine lv_aload_n hx hb dX8_copyFrom_77 rfl (lv_at hl 1 rfl) ?_
  refine w_gr (k := k1) (r := (k1 + 7)) hx hb hts hown hK hP fX8_37 hk1.1 rfl dX8_copyFrom_78 ?_
  obtain ⟨q81, e81, h⟩ := bnd_e h
  refine z_Vv (k := (k + 7)) (v1 := q81) hx hb hml hts hown hK hP hS hz hE (C_Row_copyFrom hk.2.2.2.2.2.1 hk1.2.2.2.2.2.1 (by omega) e81) kX7_copyFrom mX8_96 hk.2.2.2.2.2.1.1 rfl rfl rfl hl.1 (Nat.le_of_ble_eq_true rfl) ⟨Nat.le_of_ble_eq_true rfl, Nat.le_of_ble_eq_true rfl⟩ ⟨Nat.le_refl _, Nat.le_refl _⟩ dX8_copyFrom_81 fun H1 locs1 hz hP hS => ?_
  refine lv_aload_n hx hb dX8_copyFrom_84 rfl (lv_at hl 0 rfl) ?_
  refine w_gr (k := k) (r := (k + 9)) hx hb hts hown hK hP fX8_40 hk.1 rfl dX8_copyFrom_85 ?_
  refine lv_aload_n hx hb dX8_copyFrom_88 rfl (lv_at hl 1 rfl) ?_
  refine w_gr (k := k1) (r := (k1 + 9)) hx hb hts hown hK hP fX8_40 hk1.1 rfl dX8_copyFrom_89 ?_
  obtain ⟨q92, e92, h⟩ := bnd_e h
  refine z_Vv (k := (k + 9)) (v1 := q92) hx hb hml hts hown hK hP hS hz hE (C_Row_copyFrom hk.2.2.2.2.2.2.1 hk1.2.2.2.2.2.2.1 (by omega) e92) kX7_copyFrom mX8_96 hk.2.2.2.2.2.2.1.1 rfl rfl rfl hl.1 (Nat.le_of_ble_eq_true rfl) ⟨Nat.le_of_ble_eq_true rfl, Nat.le_of_ble_eq_true rfl⟩ ⟨Nat.le_refl _, Nat.le_refl _⟩ dX8_copyFrom_92 fun H1 locs1 hz hP hS => ?_
  refine lv_aload_n hx hb dX8_copyFrom_95 rfl (lv_at hl 0 rfl) ?_
  refine w_gr (k := k) (r := (k + 11)) hx hb hts hown hK hP fX8_43 hk.1 rfl dX8_copyFrom_96 ?_
  refine lv_aload_n hx hb dX8_copyFrom_99 rfl (lv_at hl 1 rfl) ?_
  refine w_gr (k := k1) (r := (k1 + 11)) hx hb hts hown hK hP fX8_43 hk1.1 rfl dX8_copyFrom_100 ?_
  obtain ⟨q103, e103, h⟩ := bnd_e h
  refine z_Vv (k := (k + 11)) (v1 := q103) hx hb hml hts hown hK hP hS hz hE (C_Row_copyFrom hk.2.2.2.2.2.2.2.1 hk1.2.2.2.2.2.2.2.1 (by omega) e103) kX7_copyFrom mX8_96 hk.2.2.2.2.2.2.2.1.1 rfl rfl rfl hl.1 (Nat.le_of_ble_eq_true rfl) ⟨Nat.le_of_ble_eq_true rfl, Nat.le_of_ble_eq_true rfl⟩ ⟨Nat.le_refl _, Nat.le_refl _⟩ dX8_copyFrom_103 fun H1 locs1 hz hP hS => ?_
  refine lv_aload_n hx hb dX8_copyFrom_106 rfl (lv_at hl 0 rfl) ?_
  refine w_gr (k := k) (r := (k + 13)) hx hb hts hown hK hP fX8_49 hk.1 rfl dX8_copyFrom_107 ?_
  refine lv_aload_n hx hb dX8_copyFrom_110 rfl (lv_at hl 1 rfl) ?_
  refine w_gr (k := k1) (r := (k1 + 13)) hx hb hts hown hK hP fX8_49 hk1.1 rfl dX8_copyFrom_111 ?_
  obtain ⟨q114, e114, h⟩ := obn_e h
  refine z_Vv (k := (k + 13)) (v1 := q114) hx hb hml hts hown hK hP hS hz hE (c_Debts_copyFrom hk.2.2.2.2.2.2.2.2.1 hk1.2.2.2.2.2.2.2.2.1 (by omega) e114) kX1_copyFrom mX8_100 hk.2.2.2.2.2.2.2.2.1.1 rfl rfl rfl hl.1 (Nat.le_of_ble_eq_true rfl) ⟨Nat.le_of_ble_eq_true rfl, Nat.le_of_ble_eq_true rfl⟩ ⟨Nat.le_refl _, Nat.le_refl _⟩ dX8_copyFrom_114 fun H1 locs1 hz hP hS => ?_
  refine lv_aload_n hx hb dX8_copyFrom_117 rfl (lv_at hl 0 rfl) ?_
  refine w_gr (k := k) (r := (k + 18)) hx hb hts hown hK hP fX8_53 hk.1 rfl dX8_copyFrom_118 ?_
  refine lv_aload_n hx hb dX8_copyFrom_121 rfl (lv_at hl 1 rfl) ?_
  refine w_gr (k := k1) (r := (k1 + 18)) hx hb hts hown hK hP fX8_53 hk1.1 rfl dX8_copyFrom_122 ?_
  obtain ⟨q125, e125, h⟩ := bnd_e h
  refine z_Vv (k := (k + 18)) (v1 := q125) hx hb hml hts hown hK hP hS hz hE (C_Row_copyFrom hk.2.2.2.2.2.2.2.2.2.1 hk1.2.2.2.2.2.2.2.2.2.1 (by omega) e125) kX7_copyFrom mX8_96 hk.2.2.2.2.2.2.2.2.2.1.1 rfl rfl rfl hl.1 (Nat.le_of_ble_eq_true rfl) ⟨Nat.le_of_ble_eq_true rfl, Nat.le_of_ble_eq_true rfl⟩ ⟨Nat.le_refl _, Nat.le_refl _⟩ dX8_copyFrom_125 fun H1 locs1 hz hP hS => ?_
  refine lv_aload_n hx hb dX8_copyFrom_128 rfl (lv_at hl 0 rfl) ?_
  refine w_gr (k := k) (r := (k + 20)) hx hb hts hown hK hP fX8_56 hk.1 rfl dX8_copyFrom_129 ?_
  refine lv_aload_n hx hb dX8_copyFrom_132 rfl (lv_at hl 1 rfl) ?_
  refine w_gr (k := k1) (r := (k1 + 20)) hx hb hts hown hK hP fX8_56 hk1.1 rfl dX8_copyFrom_133 ?_
  obtain ⟨q136, e136, h⟩ := bnd_e h
  refine z_Vv (k := (k + 20)) (v1 := q136) hx hb hml hts hown hK hP hS hz hE (C_Row_copyFrom hk.2.2.2.2.2.2.2.2.2.2 hk1.2.2.2.2.2.2.2.2.2.2 (by omega) e136) kX7_copyFrom mX8_96 hk.2.2.2.2.2.2.2.2.2.2.1 rfl rfl rfl hl.1 (Nat.le_of_ble_eq_true rfl) ⟨Nat.le_of_ble_eq_true rfl, Nat.le_of_ble_eq_true rfl⟩ ⟨Nat.le_refl _, Nat.le_refl _⟩ dX8_copyFrom_136 fun H1 locs1 hz hP hS => ?_
  exact w_vret hx hb hret hlk hK hP hS hz hE (Option.some.inj h) dX8_copyFrom_139
def b_Stand_loseWeight_2 (k : Nat) (K2 : (Int32 × Va) → Option Va) (t2 : Int32 × Va) : Option Va := if (t2.2 61 3) ≤ t2.1 then (some t2.2) else (bnd (row_g 10 (t2.2 (k + 2)) t2.1) fun q18 => bnd (row_g 10 (t2.2 73) t2.1) fun q37 => bnd (row_g 4 (t2.2 63) q37) fun q40 => bnd (up t2.2 (k + 2) (row_s 10 (t2.2 (k + 2)) t2.1 (q18 - (((q18 * q40) * (t2.2 k 2)) / 1000)))) fun q63 => K2 ((t2.1 + 1), q63))
def f_Stand_loseWeight (z : Nat) (v : Va) (k : Nat) : Option Va := rp (b_Stand_loseWeight_2 k) z (0, v)
theorem c_Stand_loseWeight {k : Nat} (hk : isStand sh k) {q : Va} (h : f_Stand_loseWeight z v k = some q) : MetV l yX8_loseWeight cX8_loseWeight 4 none 1 Γ sh v w n [.ref (Γ.2.1 + k)] (fun u => u = q) := by
  unfold f_Stand_loseWeight at h
  refine w_start pn_X8 (Nat.le_of_ble_eq_true rfl) fun p e s m args below meth c hx hb hml hret hlk hnm hts hown hK hP hz hE hS ls hl => ?_
  refine lv_iconst (v := 0) hx hb dX8_loseWeight_0 rfl ?_
  refine lv_istore_n (lv' := [(1, .int 0), (0, .ref (Γ.2.1 + k))]) hx hb dX8_loseWeight_1 rfl hl (by decide) rfl fun ls hl => ?_
  have L2 : ∀ (fu : Nat) (t2 : Int32 × Va), rp (b_Stand_loseWeight_2 k) fu t2 = some q → ∀ (H1 : Heap) (locs1 : List Loc) (ls1 : Array Slot), lv_has ls1 4 [(0, .ref (Γ.2.1 + k)), (1, .int t2.1)] → Wd Γ sh t2.2 w H1 → va_S (gA Γ sh n) s.heap H1 locs1 → H1.size = Γ.2.1 + n → wpV Γ sh w n 1 (fun u => u = q) p l e s m args below meth c H1 locs1 (F0 m 2 ls1 []) := by
    refine q_loop (fun K2 ih2 t2 h H1 locs1 ls hl hP hS hz => ?_)
    unfold b_Stand_loseWeight_2 at h
    refine lv_iload_n hx hb dX8_loseWeight_2 rfl (lv_at hl 1 rfl) ?_
    refine lv_aload_n hx hb dX8_loseWeight_3 rfl (lv_at hl 0 rfl) ?_
    refine w_gr (k := k) (r := 61) hx hb hts hown hK hP fX8_7 hk.1 rfl dX8_loseWeight_4 ?_
    refine w_gi (k := 61) hx hb hts hown hK hP fX8_71 hk.2.1.1 rfl dX8_loseWeight_7 ?_
    refine lv_icmp_ge (tgt := 72) hx hb dX8_loseWeight_10 rfl (fun hc10 => ?_) (fun hc10 => ?_)
    · have h := itt_e h hc10
      exact w_vret hx hb hret hlk hK hP hS hz hE (Option.some.inj h) dX8_loseWeight_72
    · have h := itf_e h hc10
      refine lv_aload_n hx hb dX8_loseWeight_13 rfl (lv_at hl 0 rfl) ?_
      refine w_gr (k := k) (r := (k + 1)) hx hb hts hown hK hP fX8_27 hk.1 rfl dX8_loseWeight_14 ?_
      refine lv_iload_n hx hb dX8_loseWeight_17 rfl (lv_at hl 1 rfl) ?_
      obtain ⟨q18, e18, h⟩ := bnd_e h
      refine z_Vi (k := (k + 1)) (r1 := q18) (v1 := t2.2) hx hb hml hts hown hK hP hS hz hE (C_Row_get hk.2.2.1 e18) kX7_get mX8_77 hk.2.2.1.1 rfl rfl rfl hl.1 (Nat.le_of_ble_eq_true rfl) ⟨Nat.le_of_ble_eq_true rfl, Nat.le_of_ble_eq_true rfl⟩ ⟨Nat.le_refl _, Nat.le_refl _⟩ dX8_loseWeight_18 fun H1 locs1 hz hP hS => ?_
      refine lv_istore_n (lv' := [(2, .int q18), (0, .ref (Γ.2.1 + k)), (1, .int t2.1)]) hx hb dX8_loseWeight_21 rfl hl (by decide) rfl fun ls hl => ?_
      refine lv_aload_n hx hb dX8_loseWeight_22 rfl (lv_at hl 1 rfl) ?_
      refine w_gr (k := k) (r := 61) hx hb hts hown hK hP fX8_7 hk.1 rfl dX8_loseWeight_23 ?_
      refine w_gr (k := 61) (r := 62) hx hb hts hown hK hP fX8_103 hk.2.1.1 rfl dX8_loseWeight_26 ?_
      refine lv_aload_n hx hb dX8_loseWeight_29 rfl (lv_at hl 1 rfl) ?_
      refine w_gr (k := k) (r := 61) hx hb hts hown hK hP fX8_7 hk.1 rfl dX8_loseWeight_30 ?_
      refine w_gr (k := 61) (r := 72) hx hb hts hown hK hP fX8_106 hk.2.1.1 rfl dX8_loseWeight_33 ?_
      refine lv_iload_n hx hb dX8_loseWeight_36 rfl (lv_at hl 2 rfl) ?_
      obtain ⟨q37, e37, h⟩ := bnd_e h
      refine z_Vi (k := 72) (r1 := q37) (v1 := t2.2) hx hb hml hts hown hK hP hS hz hE (C_Row_get hk.2.1.2.2.2.2.2.2.1 e37) kX7_get mX8_77 hk.2.1.2.2.2.2.2.2.1.1 rfl rfl rfl hl.1 (Nat.le_of_ble_eq_true rfl) ⟨Nat.le_of_ble_eq_true rfl, Nat.le_of_ble_eq_true rfl⟩ ⟨Nat.le_refl _, Nat.le_refl _⟩ dX8_loseWeight_37 fun H1 locs1 hz hP hS => ?_
      obtain ⟨q40, e40, h⟩ := bnd_e h
      refine z_Vi (k := 62) (r1 := q40) (v1 := t2.2) hx hb hml hts hown hK hP hS hz hE (C_Row_get hk.2.1.2.1 e40) kX7_get mX8_77 hk.2.1.2.1.1 rfl rfl rfl hl.1 (Nat.le_of_ble_eq_true rfl) ⟨Nat.le_of_ble_eq_true rfl, Nat.le_of_ble_eq_true rfl⟩ ⟨Nat.le_refl _, Nat.le_refl _⟩ dX8_loseWeight_40 fun H1 locs1 hz hP hS => ?_
      refine lv_istore_n (lv' := [(3, .int q40), (2, .int q18), (0, .ref (Γ.2.1 + k)), (1, .int t2.1)]) hx hb dX8_loseWeight_43 rfl hl (by decide) rfl fun ls hl => ?_
      refine lv_aload_n hx hb dX8_loseWeight_44 rfl (lv_at hl 2 rfl) ?_
      refine w_gr (k := k) (r := (k + 1)) hx hb hts hown hK hP fX8_27 hk.1 rfl dX8_loseWeight_45 ?_
      refine lv_iload_n hx hb dX8_loseWeight_48 rfl (lv_at hl 3 rfl) ?_
      refine lv_iload_n hx hb dX8_loseWeight_49 rfl (lv_at hl 1 rfl) ?_
      refine lv_iload_n hx hb dX8_loseWeight_50 rfl (lv_at hl 1 rfl) ?_
      refine lv_iload_n hx hb dX8_loseWeight_51 rfl (lv_at hl 0 rfl) ?_
      refine lv_imul hx hb dX8_loseWeight_52 ?_
      refine lv_aload_n hx hb dX8_loseWeight_53 rfl (lv_at hl 2 rfl) ?_
      refine w_gi (k := k) hx hb hts hown hK hP fX8_17 hk.1 rfl dX8_loseWeight_54 ?_
      refine lv_imul hx hb dX8_loseWeight_57 ?_
      refine lv_sipush (v := 1000) hx hb dX8_loseWeight_58 rfl ?_
      refine lv_idiv hx hb dX8_loseWeight_61 (by decide) ?_
      refine lv_isub hx hb dX8_loseWeight_62 ?_
      obtain ⟨q63, e63, h⟩ := bnd_e h
      refine z_Vv (k := (k + 1)) (v1 := q63) hx hb hml hts hown hK hP hS hz hE (C_Row_set hk.2.2.1 e63) kX7_set mX8_81 hk.2.2.1.1 rfl rfl rfl hl.1 (Nat.le_of_ble_eq_true rfl) ⟨Nat.le_of_ble_eq_true rfl, Nat.le_of_ble_eq_true rfl⟩ ⟨Nat.le_refl _, Nat.le_refl _⟩ dX8_loseWeight_63 fun H1 locs1 hz hP hS => ?_
      refine lv_iinc (k := 3) (v := (t2.1 + 1)) (lv' := [(1, .int (t2.1 + 1)), (3, .int q40), (2, .int q18), (0, .ref (Γ.2.1 + k))]) hx hb dX8_loseWeight_66 hl rfl rfl (by decide) rfl fun ls hl => ?_
      refine lv_goto (tgt := 2) hx hb dX8_loseWeight_69 rfl ?_
      exact ih2 ((t2.1 + 1), q63) h _ _ _ (lv_sub hl [3, 0] rfl) hP hS hz
  exact L2 z (0, v) h _ _ _ (lv_sub hl [1, 0] rfl) hP hS hz
def f_Stand_moveCoins (v : Va) (k : Nat) (a1 : Int32) (a2 : Int32) (a3 : Int32) : Option Va := bnd (up v (k + 12) (row_a 6 (v (k + 12)) a1 (-a3))) fun q7 => bnd (up q7 (k + 12) (row_a 6 (q7 (k + 12)) a2 a3)) fun q16 => some q16
theorem c_Stand_moveCoins {k : Nat} {a1 : Int32} {a2 : Int32} {a3 : Int32} (hk : isStand sh k) {q : Va} (h : f_Stand_moveCoins v k a1 a2 a3 = some q) : MetV l yX8_moveCoins cX8_moveCoins 4 none 1 Γ sh v w n [.ref (Γ.2.1 + k), .int a1, .int a2, .int a3] (fun u => u = q) := by
  unfold f_Stand_moveCoins at h
  refine w_start pn_X8 (Nat.le_of_ble_eq_true rfl) fun p e s m args below meth c hx hb hml hret hlk hnm hts hown hK hP hz hE hS ls hl => ?_
  refine lv_aload_n hx hb dX8_moveCoins_0 rfl (lv_at hl 0 rfl) ?_
  refine w_gr (k := k) (r := (k + 11)) hx hb hts hown hK hP fX8_43 hk.1 rfl dX8_moveCoins_1 ?_
  refine lv_iload_n hx hb dX8_moveCoins_4 rfl (lv_at hl 1 rfl) ?_
  refine lv_iload_n hx hb dX8_moveCoins_5 rfl (lv_at hl 3 rfl) ?_
  refine lv_ineg hx hb dX8_moveCoins_6 ?_
  obtain ⟨q7, e7, h⟩ := bnd_e h
  refine z_Vv (k := (k + 11)) (v1 := q7) hx hb hml hts hown hK hP hS hz hE (C_Row_add hk.2.2.2.2.2.2.2.1 e7) kX7_add mX8_109 hk.2.2.2.2.2.2.2.1.1 rfl rfl rfl hl.1 (Nat.le_of_ble_eq_true rfl) ⟨Nat.le_of_ble_eq_true rfl, Nat.le_of_ble_eq_true rfl⟩ ⟨Nat.le_refl _, Nat.le_refl _⟩ dX8_moveCoins_7 fun H1 locs1 hz hP hS => ?_
  refine lv_aload_n hx hb dX8_moveCoins_10 rfl (lv_at hl 0 rfl) ?_
  refine w_gr (k := k) (r := (k + 11)) hx hb hts hown hK hP fX8_43 hk.1 rfl dX8_moveCoins_11 ?_
  refine lv_iload_n hx hb dX8_moveCoins_14 rfl (lv_at hl 2 rfl) ?_
  refine lv_iload_n hx hb dX8_moveCoins_15 rfl (lv_at hl 3 rfl) ?_
  obtain ⟨q16, e16, h⟩ := bnd_e h
  refine z_Vv (k := (k + 11)) (v1 := q16) hx hb hml hts hown hK hP hS hz hE (C_Row_add hk.2.2.2.2.2.2.2.1 e16) kX7_add mX8_109 hk.2.2.2.2.2.2.2.1.1 rfl rfl rfl hl.1 (Nat.le_of_ble_eq_true rfl) ⟨Nat.le_of_ble_eq_true rfl, Nat.le_of_ble_eq_true rfl⟩ ⟨Nat.le_refl _, Nat.le_refl _⟩ dX8_moveCoins_16 fun H1 locs1 hz hP hS => ?_
  exact w_vret hx hb hret hlk hK hP hS hz hE (Option.some.inj h) dX8_moveCoins_19
def f_Stand_setChop (v : Va) (k : Nat) (a1 : Int32) (a2 : Int32) (a3 : Int32) : Option Va := bnd (up v (k + 6) (row_s 10 (v (k + 6)) a1 a2)) fun q6 => bnd (up q6 (k + 8) (row_s 10 (q6 (k + 8)) a1 a3)) fun q15 => bnd (up q15 (k + 10) (row_s 10 (q15 (k + 10)) a1 (q15 k 1))) fun q27 => some q27
theorem c_Stand_setChop {k : Nat} {a1 : Int32} {a2 : Int32} {a3 : Int32} (hk : isStand sh k) {q : Va} (h : f_Stand_setChop v k a1 a2 a3 = some q) : MetV l yX8_setChop cX8_setChop 4 none 1 Γ sh v w n [.ref (Γ.2.1 + k), .int a1, .int a2, .int a3] (fun u => u = q) := by
  unfold f_Stand_setChop at h
  refine w_start pn_X8 (Nat.le_of_ble_eq_true rfl) fun p e s m args below meth c hx hb hml hret hlk hnm hts hown hK hP hz hE hS ls hl => ?_
  refine lv_aload_n hx hb dX8_setChop_0 rfl (lv_at hl 0 rfl) ?_
  refine w_gr (k := k) (r := (k + 5)) hx hb hts hown hK hP fX8_34 hk.1 rfl dX8_setChop_1 ?_
  refine lv_iload_n hx hb dX8_setChop_4 rfl (lv_at hl 1 rfl) ?_
  refine lv_iload_n hx hb dX8_setChop_5 rfl (lv_at hl 2 rfl) ?_
  obtain ⟨q6, e6, h⟩ := bnd_e h
  refine z_Vv (k := (k + 5)) (v1 := q6) hx hb hml hts hown hK hP hS hz hE (C_Row_set hk.2.2.2.2.1 e6) kX7_set mX8_81 hk.2.2.2.2.1.1 rfl rfl rfl hl.1 (Nat.le_of_ble_eq_true rfl) ⟨Nat.le_of_ble_eq_true rfl, Nat.le_of_ble_eq_true rfl⟩ ⟨Nat.le_refl _, Nat.le_refl _⟩ dX8_setChop_6 fun H1 locs1 hz hP hS => ?_
  refine lv_aload_n hx hb dX8_setChop_9 rfl (lv_at hl 0 rfl) ?_
  refine w_gr (k := k) (r := (k + 7)) hx hb hts hown hK hP fX8_37 hk.1 rfl dX8_setChop_10 ?_
  refine lv_iload_n hx hb dX8_setChop_13 rfl (lv_at hl 1 rfl) ?_
  refine lv_iload_n hx hb dX8_setChop_14 rfl (lv_at hl 3 rfl) ?_
  obtain ⟨q15, e15, h⟩ := bnd_e h
  refine z_Vv (k := (k + 7)) (v1 := q15) hx hb hml hts hown hK hP hS hz hE (C_Row_set hk.2.2.2.2.2.1 e15) kX7_set mX8_81 hk.2.2.2.2.2.1.1 rfl rfl rfl hl.1 (Nat.le_of_ble_eq_true rfl) ⟨Nat.le_of_ble_eq_true rfl, Nat.le_of_ble_eq_true rfl⟩ ⟨Nat.le_refl _, Nat.le_refl _⟩ dX8_setChop_15 fun H1 locs1 hz hP hS => ?_
  refine lv_aload_n hx hb dX8_setChop_18 rfl (lv_at hl 0 rfl) ?_
  refine w_gr (k := k) (r := (k + 9)) hx hb hts hown hK hP fX8_40 hk.1 rfl dX8_setChop_19 ?_
  refine lv_iload_n hx hb dX8_setChop_22 rfl (lv_at hl 1 rfl) ?_
  refine lv_aload_n hx hb dX8_setChop_23 rfl (lv_at hl 0 rfl) ?_
  refine w_gi (k := k) hx hb hts hown hK hP fX8_13 hk.1 rfl dX8_setChop_24 ?_
  obtain ⟨q27, e27, h⟩ := bnd_e h
  refine z_Vv (k := (k + 9)) (v1 := q27) hx hb hml hts hown hK hP hS hz hE (C_Row_set hk.2.2.2.2.2.2.1 e27) kX7_set mX8_81 hk.2.2.2.2.2.2.1.1 rfl rfl rfl hl.1 (Nat.le_of_ble_eq_true rfl) ⟨Nat.le_of_ble_eq_true rfl, Nat.le_of_ble_eq_true rfl⟩ ⟨Nat.le_refl _, Nat.le_refl _⟩ dX8_setChop_27 fun H1 locs1 hz hP hS => ?_
  exact w_vret hx hb hret hlk hK hP hS hz hE (Option.some.inj h) dX8_setChop_30
def f_Stand_ageOfChop (v : Va) (k : Nat) (a1 : Int32) : Option Int32 := bnd (row_g 10 (v (k + 6)) a1) fun q5 => if 0 ≤ q5 then (bnd (row_g 10 (v (k + 10)) a1) fun q24 => some ((v k 1) - q24)) else (some 0)
theorem c_Stand_ageOfChop {k : Nat} {a1 : Int32} (hk : isStand sh k) {q : Int32} (h : f_Stand_ageOfChop v k a1 = some q) : MetI l yX8_ageOfChop cX8_ageOfChop 2 (some .int) 1 Γ sh v w n [.ref (Γ.2.1 + k), .int a1] (fun x u => x = q ∧ u = v) := by
  unfold f_Stand_ageOfChop at h
  refine w_start pn_X8 (Nat.le_of_ble_eq_true rfl) fun p e s m args below meth c hx hb hml hret hlk hnm hts hown hK hP hz hE hS ls hl => ?_
  refine lv_aload_n hx hb dX8_ageOfChop_0 rfl (lv_at hl 0 rfl) ?_
  refine w_gr (k := k) (r := (k + 5)) hx hb hts hown hK hP fX8_34 hk.1 rfl dX8_ageOfChop_1 ?_
  refine lv_iload_n hx hb dX8_ageOfChop_4 rfl (lv_at hl 1 rfl) ?_
  obtain ⟨q5, e5, h⟩ := bnd_e h
  refine z_Vi (k := (k + 5)) (r1 := q5) (v1 := v) hx hb hml hts hown hK hP hS hz hE (C_Row_get hk.2.2.2.2.1 e5) kX7_get mX8_77 hk.2.2.2.2.1.1 rfl rfl rfl hl.1 (Nat.le_of_ble_eq_true rfl) ⟨Nat.le_of_ble_eq_true rfl, Nat.le_of_ble_eq_true rfl⟩ ⟨Nat.le_refl _, Nat.le_refl _⟩ dX8_ageOfChop_5 fun H1 locs1 hz hP hS => ?_
  refine lv_if_ge (tgt := 15) hx hb dX8_ageOfChop_8 rfl (fun hc8 => ?_) (fun hc8 => ?_)
  · have h := itt_e h hc8
    refine lv_aload_n hx hb dX8_ageOfChop_15 rfl (lv_at hl 0 rfl) ?_
    refine w_gi (k := k) hx hb hts hown hK hP fX8_13 hk.1 rfl dX8_ageOfChop_16 ?_
    refine lv_aload_n hx hb dX8_ageOfChop_19 rfl (lv_at hl 0 rfl) ?_
    refine w_gr (k := k) (r := (k + 9)) hx hb hts hown hK hP fX8_40 hk.1 rfl dX8_ageOfChop_20 ?_
    refine lv_iload_n hx hb dX8_ageOfChop_23 rfl (lv_at hl 1 rfl) ?_
    obtain ⟨q24, e24, h⟩ := bnd_e h
    refine z_Vi (k := (k + 9)) (r1 := q24) (v1 := v) hx hb hml hts hown hK hP hS hz hE (C_Row_get hk.2.2.2.2.2.2.1 e24) kX7_get mX8_77 hk.2.2.2.2.2.2.1.1 rfl rfl rfl hl.1 (Nat.le_of_ble_eq_true rfl) ⟨Nat.le_of_ble_eq_true rfl, Nat.le_of_ble_eq_true rfl⟩ ⟨Nat.le_refl _, Nat.le_refl _⟩ dX8_ageOfChop_24 fun H1 locs1 hz hP hS => ?_
    refine lv_isub hx hb dX8_ageOfChop_27 ?_
    exact w_iret hx hb hret rfl hlk hK hP hS hz hE (q_p1 h) dX8_ageOfChop_28
  · have h := itf_e h hc8
    refine lv_iconst (v := 0) hx hb dX8_ageOfChop_11 rfl ?_
    refine lv_goto (tgt := 28) hx hb dX8_ageOfChop_12 rfl ?_
    exact w_iret hx hb hret rfl hlk hK hP hS hz hE (q_p1 h) dX8_ageOfChop_28
def f_Stand_canBeSold (v : Va) (k : Nat) (a1 : Int32) : Option Bool := bnd (row_g 10 (v (k + 6)) a1) fun q5 => if q5 < 0 then (some false) else (bnd (row_g 10 (v (k + 10)) a1) fun q20 => if 5 < ((v k 1) - q20) then (some false) else (some true))
theorem c_Stand_canBeSold {k : Nat} {a1 : Int32} (hk : isStand sh k) {q : Bool} (h : f_Stand_canBeSold v k a1 = some q) : MetI l yX8_canBeSold cX8_canBeSold 2 (some .boolean) 1 Γ sh v w n [.ref (Γ.2.1 + k), .int a1] (fun x u => x = q_b q ∧ u = v) := by
  unfold f_Stand_canBeSold at h
  refine w_start pn_X8 (Nat.le_of_ble_eq_true rfl) fun p e s m args below meth c hx hb hml hret hlk hnm hts hown hK hP hz hE hS ls hl => ?_
  refine lv_aload_n hx hb dX8_canBeSold_0 rfl (lv_at hl 0 rfl) ?_
  refine w_gr (k := k) (r := (k + 5)) hx hb hts hown hK hP fX8_34 hk.1 rfl dX8_canBeSold_1 ?_
  refine lv_iload_n hx hb dX8_canBeSold_4 rfl (lv_at hl 1 rfl) ?_
  obtain ⟨q5, e5, h⟩ := bnd_e h
  refine z_Vi (k := (k + 5)) (r1 := q5) (v1 := v) hx hb hml hts hown hK hP hS hz hE (C_Row_get hk.2.2.2.2.1 e5) kX7_get mX8_77 hk.2.2.2.2.1.1 rfl rfl rfl hl.1 (Nat.le_of_ble_eq_true rfl) ⟨Nat.le_of_ble_eq_true rfl, Nat.le_of_ble_eq_true rfl⟩ ⟨Nat.le_refl _, Nat.le_refl _⟩ dX8_canBeSold_5 fun H1 locs1 hz hP hS => ?_
  refine lv_if_lt (tgt := 32) hx hb dX8_canBeSold_8 rfl (fun hc8 => ?_) (fun hc8 => ?_)
  · have h := itt_e h hc8
    refine lv_iconst (v := 0) hx hb dX8_canBeSold_32 rfl ?_
    exact w_iret hx hb hret rfl hlk hK hP hS hz hE (q_p1b h) dX8_canBeSold_33
  · have h := itf_e h hc8
    refine lv_aload_n hx hb dX8_canBeSold_11 rfl (lv_at hl 0 rfl) ?_
    refine w_gi (k := k) hx hb hts hown hK hP fX8_13 hk.1 rfl dX8_canBeSold_12 ?_
    refine lv_aload_n hx hb dX8_canBeSold_15 rfl (lv_at hl 0 rfl) ?_
    refine w_gr (k := k) (r := (k + 9)) hx hb hts hown hK hP fX8_40 hk.1 rfl dX8_canBeSold_16 ?_
    refine lv_iload_n hx hb dX8_canBeSold_19 rfl (lv_at hl 1 rfl) ?_
    obtain ⟨q20, e20, h⟩ := bnd_e h
    refine z_Vi (k := (k + 9)) (r1 := q20) (v1 := v) hx hb hml hts hown hK hP hS hz hE (C_Row_get hk.2.2.2.2.2.2.1 e20) kX7_get mX8_77 hk.2.2.2.2.2.2.1.1 rfl rfl rfl hl.1 (Nat.le_of_ble_eq_true rfl) ⟨Nat.le_of_ble_eq_true rfl, Nat.le_of_ble_eq_true rfl⟩ ⟨Nat.le_refl _, Nat.le_refl _⟩ dX8_canBeSold_20 fun H1 locs1 hz hP hS => ?_
    refine lv_isub hx hb dX8_canBeSold_23 ?_
    refine lv_iconst (v := 5) hx hb dX8_canBeSold_24 rfl ?_
    refine lv_icmp_gt (tgt := 32) hx hb dX8_canBeSold_25 rfl (fun hc25 => ?_) (fun hc25 => ?_)
    · have h := itt_e h hc25
      refine lv_iconst (v := 0) hx hb dX8_canBeSold_32 rfl ?_
      exact w_iret hx hb hret rfl hlk hK hP hS hz hE (q_p1b h) dX8_canBeSold_33
    · have h := itf_e h hc25
      refine lv_iconst (v := 1) hx hb dX8_canBeSold_28 rfl ?_
      refine lv_goto (tgt := 33) hx hb dX8_canBeSold_29 rfl ?_
      exact w_iret hx hb hret rfl hlk hK hP hS hz hE (q_p1b h) dX8_canBeSold_33
def f_Stand_isOverCredit (z : Nat) (v : Va) (k : Nat) (a1 : Int32) : Option Bool := (f_Debts_sumOf z v (k + 13) a1).bind fun q5 => bnd (row_g 6 (v 71) a1) fun q16 => if q5 ≤ q16 then (some false) else (some true)
theorem c_Stand_isOverCredit {k : Nat} {a1 : Int32} (hk : isStand sh k) {q : Bool} (h : f_Stand_isOverCredit z v k a1 = some q) : MetI l yX8_isOverCredit cX8_isOverCredit 2 (some .boolean) 2 Γ sh v w n [.ref (Γ.2.1 + k), .int a1] (fun x u => x = q_b q ∧ u = v) := by
  unfold f_Stand_isOverCredit at h
  refine w_start pn_X8 (Nat.le_of_ble_eq_true rfl) fun p e s m args below meth c hx hb hml hret hlk hnm hts hown hK hP hz hE hS ls hl => ?_
  refine lv_aload_n hx hb dX8_isOverCredit_0 rfl (lv_at hl 0 rfl) ?_
  refine w_gr (k := k) (r := (k + 13)) hx hb hts hown hK hP fX8_49 hk.1 rfl dX8_isOverCredit_1 ?_
  refine lv_iload_n hx hb dX8_isOverCredit_4 rfl (lv_at hl 1 rfl) ?_
  obtain ⟨q5, e5, h⟩ := obn_e h
  refine z_Vi (k := (k + 13)) (r1 := q5) (v1 := v) hx hb hml hts hown hK hP hS hz hE (c_Debts_sumOf hk.2.2.2.2.2.2.2.2.1 e5) kX1_sumOf mX8_112 hk.2.2.2.2.2.2.2.2.1.1 rfl rfl rfl hl.1 (Nat.le_of_ble_eq_true rfl) ⟨Nat.le_of_ble_eq_true rfl, Nat.le_of_ble_eq_true rfl⟩ ⟨Nat.le_refl _, Nat.le_refl _⟩ dX8_isOverCredit_5 fun H1 locs1 hz hP hS => ?_
  refine lv_aload_n hx hb dX8_isOverCredit_8 rfl (lv_at hl 0 rfl) ?_
  refine w_gr (k := k) (r := 61) hx hb hts hown hK hP fX8_7 hk.1 rfl dX8_isOverCredit_9 ?_
  refine w_gr (k := 61) (r := 70) hx hb hts hown hK hP fX8_115 hk.2.1.1 rfl dX8_isOverCredit_12 ?_
  refine lv_iload_n hx hb dX8_isOverCredit_15 rfl (lv_at hl 1 rfl) ?_
  obtain ⟨q16, e16, h⟩ := bnd_e h
  refine z_Vi (k := 70) (r1 := q16) (v1 := v) hx hb hml hts hown hK hP hS hz hE (C_Row_get hk.2.1.2.2.2.2.2.1 e16) kX7_get mX8_77 hk.2.1.2.2.2.2.2.1.1 rfl rfl rfl hl.1 (Nat.le_of_ble_eq_true rfl) ⟨Nat.le_of_ble_eq_true rfl, Nat.le_of_ble_eq_true rfl⟩ ⟨Nat.le_refl _, Nat.le_refl _⟩ dX8_isOverCredit_16 fun H1 locs1 hz hP hS => ?_
  refine lv_icmp_le (tgt := 26) hx hb dX8_isOverCredit_19 rfl (fun hc19 => ?_) (fun hc19 => ?_)
  · have h := itt_e h hc19
    refine lv_iconst (v := 0) hx hb dX8_isOverCredit_26 rfl ?_
    exact w_iret hx hb hret rfl hlk hK hP hS hz hE (q_p1b h) dX8_isOverCredit_27
  · have h := itf_e h hc19
    refine lv_iconst (v := 1) hx hb dX8_isOverCredit_22 rfl ?_
    refine lv_goto (tgt := 27) hx hb dX8_isOverCredit_23 rfl ?_
    exact w_iret hx hb hret rfl hlk hK hP hS hz hE (q_p1b h) dX8_isOverCredit_27
def f_Stand_wealthOf (z : Nat) (v : Va) (k : Nat) (a1 : Int32) : Option Int32 := bnd (row_g 6 (v (k + 12)) a1) fun q5 => (f_Debts_sumOwedTo z v (k + 13) a1).bind fun q13 => (f_Debts_sumOf z v (k + 13) a1).bind fun q22 => some ((q5 + q13) - q22)
theorem c_Stand_wealthOf {k : Nat} {a1 : Int32} (hk : isStand sh k) {q : Int32} (h : f_Stand_wealthOf z v k a1 = some q) : MetI l yX8_wealthOf cX8_wealthOf 2 (some .int) 2 Γ sh v w n [.ref (Γ.2.1 + k), .int a1] (fun x u => x = q ∧ u = v) := by
  unfold f_Stand_wealthOf at h
  refine w_start pn_X8 (Nat.le_of_ble_eq_true rfl) fun p e s m args below meth c hx hb hml hret hlk hnm hts hown hK hP hz hE hS ls hl => ?_
  refine lv_aload_n hx hb dX8_wealthOf_0 rfl (lv_at hl 0 rfl) ?_
  refine w_gr (k := k) (r := (k + 11)) hx hb hts hown hK hP fX8_43 hk.1 rfl dX8_wealthOf_1 ?_
  refine lv_iload_n hx hb dX8_wealthOf_4 rfl (lv_at hl 1 rfl) ?_
  obtain ⟨q5, e5, h⟩ := bnd_e h
  refine z_Vi (k := (k + 11)) (r1 := q5) (v1 := v) hx hb hml hts hown hK hP hS hz hE (C_Row_get hk.2.2.2.2.2.2.2.1 e5) kX7_get mX8_77 hk.2.2.2.2.2.2.2.1.1 rfl rfl rfl hl.1 (Nat.le_of_ble_eq_true rfl) ⟨Nat.le_of_ble_eq_true rfl, Nat.le_of_ble_eq_true rfl⟩ ⟨Nat.le_refl _, Nat.le_refl _⟩ dX8_wealthOf_5 fun H1 locs1 hz hP hS => ?_
  refine lv_aload_n hx hb dX8_wealthOf_8 rfl (lv_at hl 0 rfl) ?_
  refine w_gr (k := k) (r := (k + 13)) hx hb hts hown hK hP fX8_49 hk.1 rfl dX8_wealthOf_9 ?_
  refine lv_iload_n hx hb dX8_wealthOf_12 rfl (lv_at hl 1 rfl) ?_
  obtain ⟨q13, e13, h⟩ := obn_e h
  refine z_Vi (k := (k + 13)) (r1 := q13) (v1 := v) hx hb hml hts hown hK hP hS hz hE (c_Debts_sumOwedTo hk.2.2.2.2.2.2.2.2.1 e13) kX1_sumOwedTo mX8_118 hk.2.2.2.2.2.2.2.2.1.1 rfl rfl rfl hl.1 (Nat.le_of_ble_eq_true rfl) ⟨Nat.le_of_ble_eq_true rfl, Nat.le_of_ble_eq_true rfl⟩ ⟨Nat.le_refl _, Nat.le_refl _⟩ dX8_wealthOf_13 fun H1 locs1 hz hP hS => ?_
  refine lv_iadd hx hb dX8_wealthOf_16 ?_
  refine lv_aload_n hx hb dX8_wealthOf_17 rfl (lv_at hl 0 rfl) ?_
  refine w_gr (k := k) (r := (k + 13)) hx hb hts hown hK hP fX8_49 hk.1 rfl dX8_wealthOf_18 ?_
  refine lv_iload_n hx hb dX8_wealthOf_21 rfl (lv_at hl 1 rfl) ?_
  obtain ⟨q22, e22, h⟩ := obn_e h
  refine z_Vi (k := (k + 13)) (r1 := q22) (v1 := v) hx hb hml hts hown hK hP hS hz hE (c_Debts_sumOf hk.2.2.2.2.2.2.2.2.1 e22) kX1_sumOf mX8_112 hk.2.2.2.2.2.2.2.2.1.1 rfl rfl rfl hl.1 (Nat.le_of_ble_eq_true rfl) ⟨Nat.le_of_ble_eq_true rfl, Nat.le_of_ble_eq_true rfl⟩ ⟨Nat.le_refl _, Nat.le_refl _⟩ dX8_wealthOf_22 fun H1 locs1 hz hP hS => ?_
  refine lv_isub hx hb dX8_wealthOf_25 ?_
  exact w_iret hx hb hret rfl hlk hK hP hS hz hE (q_p1 h) dX8_wealthOf_26
def f_Stand_weightOfAll (v : Va) (k : Nat) : Option Int32 := bnd (row_t (v (k + 2)) 10) fun q4 => some q4
theorem c_Stand_weightOfAll {k : Nat} (hk : isStand sh k) {q : Int32} (h : f_Stand_weightOfAll v k = some q) : MetI l yX8_weightOfAll cX8_weightOfAll 1 (some .int) 1 Γ sh v w n [.ref (Γ.2.1 + k)] (fun x u => x = q ∧ u = v) := by
  unfold f_Stand_weightOfAll at h
  refine w_start pn_X8 (Nat.le_of_ble_eq_true rfl) fun p e s m args below meth c hx hb hml hret hlk hnm hts hown hK hP hz hE hS ls hl => ?_
  refine lv_aload_n hx hb dX8_weightOfAll_0 rfl (lv_at hl 0 rfl) ?_
  refine w_gr (k := k) (r := (k + 1)) hx hb hts hown hK hP fX8_27 hk.1 rfl dX8_weightOfAll_1 ?_
  obtain ⟨q4, e4, h⟩ := bnd_e h
  refine z_Vi (k := (k + 1)) (r1 := q4) (v1 := v) hx hb hml hts hown hK hP hS hz hE (C_Row_sum hk.2.2.1 e4) kX7_sum mX8_121 hk.2.2.1.1 rfl rfl rfl hl.1 (Nat.le_of_ble_eq_true rfl) ⟨Nat.le_of_ble_eq_true rfl, Nat.le_of_ble_eq_true rfl⟩ ⟨Nat.le_refl _, Nat.le_refl _⟩ dX8_weightOfAll_4 fun H1 locs1 hz hP hS => ?_
  exact w_iret hx hb hret rfl hlk hK hP hS hz hE (q_p1 h) dX8_weightOfAll_7
def f_Stand_tellAll (v : Va) (k : Nat) (a1 : Int32) : Option Int32 := if a1 = 7 then ((f_Stand_weightOfAll v k).bind fun q37 => some q37) else (if a1 = 8 then ((f_Debts_sumOfAll v (k + 13)).bind fun q45 => some q45) else (if a1 = 9 then (bnd (row_t (v (k + 12)) 6) fun q53 => some q53) else (if a1 = 10 then (some (v k 3)) else (if a1 = 11 then (some (v k 4)) else (some (v k 5))))))
theorem c_Stand_tellAll {k : Nat} {a1 : Int32} (hk : isStand sh k) {q : Int32} (h : f_Stand_tellAll v k a1 = some q) : MetI l yX8_tellAll cX8_tellAll 2 (some .int) 2 Γ sh v w n [.ref (Γ.2.1 + k), .int a1] (fun x u => x = q ∧ u = v) := by
  unfold f_Stand_tellAll at h
  refine w_start pn_X8 (Nat.le_of_ble_eq_true rfl) fun p e s m args below meth c hx hb hml hret hlk hnm hts hown hK hP hz hE hS ls hl => ?_
  refine lv_iload_n hx hb dX8_tellAll_0 rfl (lv_at hl 1 rfl) ?_
  by_cases hc1_7 : a1 = 7
  · have h := itt_e h hc1_7
    refine z_tI (y := 7) (tgt := 36) hx hb dX8_tellAll_1 hc1_7 (by decide) (by decide) rfl rfl ?_
    refine lv_aload_n hx hb dX8_tellAll_36 rfl (lv_at hl 0 rfl) ?_
    obtain ⟨q37, e37, h⟩ := obn_e h
    refine z_Vi (k := k) (r1 := q37) (v1 := v) hx hb hml hts hown hK hP hS hz hE (c_Stand_weightOfAll hk e37) kX8_weightOfAll mX8_125 hk.1 rfl rfl rfl hl.1 (Nat.le_of_ble_eq_true rfl) ⟨Nat.le_of_ble_eq_true rfl, Nat.le_of_ble_eq_true rfl⟩ ⟨Nat.le_refl _, Nat.le_refl _⟩ dX8_tellAll_37 fun H1 locs1 hz hP hS => ?_
    exact w_iret hx hb hret rfl hlk hK hP hS hz hE (q_p1 h) dX8_tellAll_40
  have h := itf_e h hc1_7
  by_cases hc1_8 : a1 = 8
  · have h := itt_e h hc1_8
    refine z_tI (y := 8) (tgt := 41) hx hb dX8_tellAll_1 hc1_8 (by decide) (by decide) rfl rfl ?_
    refine lv_aload_n hx hb dX8_tellAll_41 rfl (lv_at hl 0 rfl) ?_
    refine w_gr (k := k) (r := (k + 13)) hx hb hts hown hK hP fX8_49 hk.1 rfl dX8_tellAll_42 ?_
    obtain ⟨q45, e45, h⟩ := obn_e h
    refine z_Vi (k := (k + 13)) (r1 := q45) (v1 := v) hx hb hml hts hown hK hP hS hz hE (c_Debts_sumOfAll hk.2.2.2.2.2.2.2.2.1 e45) kX1_sumOfAll mX8_128 hk.2.2.2.2.2.2.2.2.1.1 rfl rfl rfl hl.1 (Nat.le_of_ble_eq_true rfl) ⟨Nat.le_of_ble_eq_true rfl, Nat.le_of_ble_eq_true rfl⟩ ⟨Nat.le_refl _, Nat.le_refl _⟩ dX8_tellAll_45 fun H1 locs1 hz hP hS => ?_
    exact w_iret hx hb hret rfl hlk hK hP hS hz hE (q_p1 h) dX8_tellAll_48
  have h := itf_e h hc1_8
  by_cases hc1_9 : a1 = 9
  · have h := itt_e h hc1_9
    refine z_tI (y := 9) (tgt := 49) hx hb dX8_tellAll_1 hc1_9 (by decide) (by decide) rfl rfl ?_
    refine lv_aload_n hx hb dX8_tellAll_49 rfl (lv_at hl 0 rfl) ?_
    refine w_gr (k := k) (r := (k + 11)) hx hb hts hown hK hP fX8_43 hk.1 rfl dX8_tellAll_50 ?_
    obtain ⟨q53, e53, h⟩ := bnd_e h
    refine z_Vi (k := (k + 11)) (r1 := q53) (v1 := v) hx hb hml hts hown hK hP hS hz hE (C_Row_sum hk.2.2.2.2.2.2.2.1 e53) kX7_sum mX8_121 hk.2.2.2.2.2.2.2.1.1 rfl rfl rfl hl.1 (Nat.le_of_ble_eq_true rfl) ⟨Nat.le_of_ble_eq_true rfl, Nat.le_of_ble_eq_true rfl⟩ ⟨Nat.le_refl _, Nat.le_refl _⟩ dX8_tellAll_53 fun H1 locs1 hz hP hS => ?_
    exact w_iret hx hb hret rfl hlk hK hP hS hz hE (q_p1 h) dX8_tellAll_56
  have h := itf_e h hc1_9
  by_cases hc1_10 : a1 = 10
  · have h := itt_e h hc1_10
    refine z_tI (y := 10) (tgt := 57) hx hb dX8_tellAll_1 hc1_10 (by decide) (by decide) rfl rfl ?_
    refine lv_aload_n hx hb dX8_tellAll_57 rfl (lv_at hl 0 rfl) ?_
    refine w_gi (k := k) hx hb hts hown hK hP fX8_59 hk.1 rfl dX8_tellAll_58 ?_
    exact w_iret hx hb hret rfl hlk hK hP hS hz hE (q_p1 h) dX8_tellAll_61
  have h := itf_e h hc1_10
  by_cases hc1_11 : a1 = 11
  · have h := itt_e h hc1_11
    refine z_tI (y := 11) (tgt := 62) hx hb dX8_tellAll_1 hc1_11 (by decide) (by decide) rfl rfl ?_
    refine lv_aload_n hx hb dX8_tellAll_62 rfl (lv_at hl 0 rfl) ?_
    refine w_gi (k := k) hx hb hts hown hK hP fX8_62 hk.1 rfl dX8_tellAll_63 ?_
    exact w_iret hx hb hret rfl hlk hK hP hS hz hE (q_p1 h) dX8_tellAll_66
  have h := itf_e h hc1_11
  refine z_tD (tgt := 67) hx hb [7, 8, 9, 10, 11] dX8_tellAll_1 (q_nc hc1_7 (q_nc hc1_8 (q_nc hc1_9 (q_nc hc1_10 (q_nc hc1_11 q_nn))))) (by decide) (by decide) rfl ?_
  refine lv_aload_n hx hb dX8_tellAll_67 rfl (lv_at hl 0 rfl) ?_
  refine w_gi (k := k) hx hb hts hown hK hP fX8_65 hk.1 rfl dX8_tellAll_68 ?_
  exact w_iret hx hb hret rfl hlk hK hP hS hz hE (q_p1 h) dX8_tellAll_71
def f_Stand_tellLot (v : Va) (k : Nat) (a1 : Int32) (a2 : Int32) : Option Int32 := if a2 = 0 then (bnd (row_g 10 (v 73) a1) fun q48 => some q48) else (if a2 = 1 then (bnd (row_g 10 (v (k + 2)) a1) fun q57 => some q57) else (if a2 = 2 then (bnd (row_g 10 (v (k + 4)) a1) fun q66 => some q66) else (if a2 = 3 then (bnd (row_g 10 (v (k + 6)) a1) fun q75 => some q75) else (if a2 = 4 then (bnd (row_g 10 (v (k + 8)) a1) fun q84 => some q84) else (if a2 = 5 then ((f_Stand_ageOfChop v k a1).bind fun q90 => some q90) else ((f_Stand_canBeSold v k a1).bind fun q96 => if (q_b q96) = 0 then (some 0) else (some 1)))))))
theorem c_Stand_tellLot {k : Nat} {a1 : Int32} {a2 : Int32} (hk : isStand sh k) {q : Int32} (h : f_Stand_tellLot v k a1 a2 = some q) : MetI l yX8_tellLot cX8_tellLot 3 (some .int) 2 Γ sh v w n [.ref (Γ.2.1 + k), .int a1, .int a2] (fun x u => x = q ∧ u = v) := by
  unfold f_Stand_tellLot at h
  refine w_start pn_X8 (Nat.le_of_ble_eq_true rfl) fun p e s m args below meth c hx hb hml hret hlk hnm hts hown hK hP hz hE hS ls hl => ?_
  refine lv_iload_n hx hb dX8_tellLot_0 rfl (lv_at hl 2 rfl) ?_
  by_cases hc1_0 : a2 = 0
  · have h := itt_e h hc1_0
    refine z_tI (y := 0) (tgt := 40) hx hb dX8_tellLot_1 hc1_0 (by decide) (by decide) rfl rfl ?_
    refine lv_aload_n hx hb dX8_tellLot_40 rfl (lv_at hl 0 rfl) ?_
    refine w_gr (k := k) (r := 61) hx hb hts hown hK hP fX8_7 hk.1 rfl dX8_tellLot_41 ?_
    refine w_gr (k := 61) (r := 72) hx hb hts hown hK hP fX8_106 hk.2.1.1 rfl dX8_tellLot_44 ?_
    refine lv_iload_n hx hb dX8_tellLot_47 rfl (lv_at hl 1 rfl) ?_
    obtain ⟨q48, e48, h⟩ := bnd_e h
    refine z_Vi (k := 72) (r1 := q48) (v1 := v) hx hb hml hts hown hK hP hS hz hE (C_Row_get hk.2.1.2.2.2.2.2.2.1 e48) kX7_get mX8_77 hk.2.1.2.2.2.2.2.2.1.1 rfl rfl rfl hl.1 (Nat.le_of_ble_eq_true rfl) ⟨Nat.le_of_ble_eq_true rfl, Nat.le_of_ble_eq_true rfl⟩ ⟨Nat.le_refl _, Nat.le_refl _⟩ dX8_tellLot_48 fun H1 locs1 hz hP hS => ?_
    exact w_iret hx hb hret rfl hlk hK hP hS hz hE (q_p1 h) dX8_tellLot_51
  have h := itf_e h hc1_0
  by_cases hc1_1 : a2 = 1
  · have h := itt_e h hc1_1
    refine z_tI (y := 1) (tgt := 52) hx hb dX8_tellLot_1 hc1_1 (by decide) (by decide) rfl rfl ?_
    refine lv_aload_n hx hb dX8_tellLot_52 rfl (lv_at hl 0 rfl) ?_
    refine w_gr (k := k) (r := (k + 1)) hx hb hts hown hK hP fX8_27 hk.1 rfl dX8_tellLot_53 ?_
    refine lv_iload_n hx hb dX8_tellLot_56 rfl (lv_at hl 1 rfl) ?_
    obtain ⟨q57, e57, h⟩ := bnd_e h
    refine z_Vi (k := (k + 1)) (r1 := q57) (v1 := v) hx hb hml hts hown hK hP hS hz hE (C_Row_get hk.2.2.1 e57) kX7_get mX8_77 hk.2.2.1.1 rfl rfl rfl hl.1 (Nat.le_of_ble_eq_true rfl) ⟨Nat.le_of_ble_eq_true rfl, Nat.le_of_ble_eq_true rfl⟩ ⟨Nat.le_refl _, Nat.le_refl _⟩ dX8_tellLot_57 fun H1 locs1 hz hP hS => ?_
    exact w_iret hx hb hret rfl hlk hK hP hS hz hE (q_p1 h) dX8_tellLot_60
  have h := itf_e h hc1_1
  by_cases hc1_2 : a2 = 2
  · have h := itt_e h hc1_2
    refine z_tI (y := 2) (tgt := 61) hx hb dX8_tellLot_1 hc1_2 (by decide) (by decide) rfl rfl ?_
    refine lv_aload_n hx hb dX8_tellLot_61 rfl (lv_at hl 0 rfl) ?_
    refine w_gr (k := k) (r := (k + 3)) hx hb hts hown hK hP fX8_31 hk.1 rfl dX8_tellLot_62 ?_
    refine lv_iload_n hx hb dX8_tellLot_65 rfl (lv_at hl 1 rfl) ?_
    obtain ⟨q66, e66, h⟩ := bnd_e h
    refine z_Vi (k := (k + 3)) (r1 := q66) (v1 := v) hx hb hml hts hown hK hP hS hz hE (C_Row_get hk.2.2.2.1 e66) kX7_get mX8_77 hk.2.2.2.1.1 rfl rfl rfl hl.1 (Nat.le_of_ble_eq_true rfl) ⟨Nat.le_of_ble_eq_true rfl, Nat.le_of_ble_eq_true rfl⟩ ⟨Nat.le_refl _, Nat.le_refl _⟩ dX8_tellLot_66 fun H1 locs1 hz hP hS => ?_
    exact w_iret hx hb hret rfl hlk hK hP hS hz hE (q_p1 h) dX8_tellLot_69
  have h := itf_e h hc1_2
  by_cases hc1_3 : a2 = 3
  · have h := itt_e h hc1_3
    refine z_tI (y := 3) (tgt := 70) hx hb dX8_tellLot_1 hc1_3 (by decide) (by decide) rfl rfl ?_
    refine lv_aload_n hx hb dX8_tellLot_70 rfl (lv_at hl 0 rfl) ?_
    refine w_gr (k := k) (r := (k + 5)) hx hb hts hown hK hP fX8_34 hk.1 rfl dX8_tellLot_71 ?_
    refine lv_iload_n hx hb dX8_tellLot_74 rfl (lv_at hl 1 rfl) ?_
    obtain ⟨q75, e75, h⟩ := bnd_e h
    refine z_Vi (k := (k + 5)) (r1 := q75) (v1 := v) hx hb hml hts hown hK hP hS hz hE (C_Row_get hk.2.2.2.2.1 e75) kX7_get mX8_77 hk.2.2.2.2.1.1 rfl rfl rfl hl.1 (Nat.le_of_ble_eq_true rfl) ⟨Nat.le_of_ble_eq_true rfl, Nat.le_of_ble_eq_true rfl⟩ ⟨Nat.le_refl _, Nat.le_refl _⟩ dX8_tellLot_75 fun H1 locs1 hz hP hS => ?_
    exact w_iret hx hb hret rfl hlk hK hP hS hz hE (q_p1 h) dX8_tellLot_78
  have h := itf_e h hc1_3
  by_cases hc1_4 : a2 = 4
  · have h := itt_e h hc1_4
    refine z_tI (y := 4) (tgt := 79) hx hb dX8_tellLot_1 hc1_4 (by decide) (by decide) rfl rfl ?_
    refine lv_aload_n hx hb dX8_tellLot_79 rfl (lv_at hl 0 rfl) ?_
    refine w_gr (k := k) (r := (k + 7)) hx hb hts hown hK hP fX8_37 hk.1 rfl dX8_tellLot_80 ?_
    refine lv_iload_n hx hb dX8_tellLot_83 rfl (lv_at hl 1 rfl) ?_
    obtain ⟨q84, e84, h⟩ := bnd_e h
    refine z_Vi (k := (k + 7)) (r1 := q84) (v1 := v) hx hb hml hts hown hK hP hS hz hE (C_Row_get hk.2.2.2.2.2.1 e84) kX7_get mX8_77 hk.2.2.2.2.2.1.1 rfl rfl rfl hl.1 (Nat.le_of_ble_eq_true rfl) ⟨Nat.le_of_ble_eq_true rfl, Nat.le_of_ble_eq_true rfl⟩ ⟨Nat.le_refl _, Nat.le_refl _⟩ dX8_tellLot_84 fun H1 locs1 hz hP hS => ?_
    exact w_iret hx hb hret rfl hlk hK hP hS hz hE (q_p1 h) dX8_tellLot_87
  have h := itf_e h hc1_4
  by_cases hc1_5 : a2 = 5
  · have h := itt_e h hc1_5
    refine z_tI (y := 5) (tgt := 88) hx hb dX8_tellLot_1 hc1_5 (by decide) (by decide) rfl rfl ?_
    refine lv_aload_n hx hb dX8_tellLot_88 rfl (lv_at hl 0 rfl) ?_
    refine lv_iload_n hx hb dX8_tellLot_89 rfl (lv_at hl 1 rfl) ?_
    obtain ⟨q90, e90, h⟩ := obn_e h
    refine z_Vi (k := k) (r1 := q90) (v1 := v) hx hb hml hts hown hK hP hS hz hE (c_Stand_ageOfChop hk e90) kX8_ageOfChop mX8_131 hk.1 rfl rfl rfl hl.1 (Nat.le_of_ble_eq_true rfl) ⟨Nat.le_of_ble_eq_true rfl, Nat.le_of_ble_eq_true rfl⟩ ⟨Nat.le_refl _, Nat.le_refl _⟩ dX8_tellLot_90 fun H1 locs1 hz hP hS => ?_
    exact w_iret hx hb hret rfl hlk hK hP hS hz hE (q_p1 h) dX8_tellLot_93
  have h := itf_e h hc1_5
  refine z_tD (tgt := 94) hx hb [0, 1, 2, 3, 4, 5] dX8_tellLot_1 (q_nc hc1_0 (q_nc hc1_1 (q_nc hc1_2 (q_nc hc1_3 (q_nc hc1_4 (q_nc hc1_5 q_nn)))))) (by decide) (by decide) rfl ?_
  refine lv_aload_n hx hb dX8_tellLot_94 rfl (lv_at hl 0 rfl) ?_
  refine lv_iload_n hx hb dX8_tellLot_95 rfl (lv_at hl 1 rfl) ?_
  obtain ⟨q96, e96, h⟩ := obn_e h
  refine z_Vi (k := k) (r1 := (q_b q96)) (v1 := v) hx hb hml hts hown hK hP hS hz hE (c_Stand_canBeSold hk e96) kX8_canBeSold mX8_134 hk.1 rfl rfl rfl hl.1 (Nat.le_of_ble_eq_true rfl) ⟨Nat.le_of_ble_eq_true rfl, Nat.le_of_ble_eq_true rfl⟩ ⟨Nat.le_refl _, Nat.le_refl _⟩ dX8_tellLot_96 fun H1 locs1 hz hP hS => ?_
  refine lv_if_eq (tgt := 106) hx hb dX8_tellLot_99 rfl (fun hc99 => ?_) (fun hc99 => ?_)
  · have h := itt_e h hc99
    refine lv_iconst (v := 0) hx hb dX8_tellLot_106 rfl ?_
    exact w_iret hx hb hret rfl hlk hK hP hS hz hE (q_p1 h) dX8_tellLot_107
  · have h := itf_e h hc99
    refine lv_iconst (v := 1) hx hb dX8_tellLot_102 rfl ?_
    refine lv_goto (tgt := 107) hx hb dX8_tellLot_103 rfl ?_
    exact w_iret hx hb hret rfl hlk hK hP hS hz hE (q_p1 h) dX8_tellLot_107
def j_Stand_lotsOf_30 (K4 : (Int32 × Int32) → Option Int32) (t4 : Int32 × Int32) (x30_2 : Int32) : Option Int32 := K4 (x30_2, (t4.2 + 1))
def b_Stand_lotsOf_4 (v : Va) (k : Nat) (a1 : Int32) (K4 : (Int32 × Int32) → Option Int32) (t4 : Int32 × Int32) : Option Int32 := if (v 61 3) ≤ t4.2 then (some t4.1) else (bnd (row_g 10 (v (k + 4)) t4.2) fun q20 => if q20 = a1 then (j_Stand_lotsOf_30 K4 t4 (t4.1 + 1)) else (j_Stand_lotsOf_30 K4 t4 t4.1))
def f_Stand_lotsOf (z : Nat) (v : Va) (k : Nat) (a1 : Int32) : Option Int32 := rp (b_Stand_lotsOf_4 v k a1) z (0, 0)
theorem c_Stand_lotsOf {k : Nat} {a1 : Int32} (hk : isStand sh k) {q : Int32} (h : f_Stand_lotsOf z v k a1 = some q) : MetI l yX8_lotsOf cX8_lotsOf 4 (some .int) 1 Γ sh v w n [.ref (Γ.2.1 + k), .int a1] (fun x u => x = q ∧ u = v) := by
  unfold f_Stand_lotsOf at h
  refine w_start pn_X8 (Nat.le_of_ble_eq_true rfl) fun p e s m args below meth c hx hb hml hret hlk hnm hts hown hK hP hz hE hS ls hl => ?_
  refine lv_iconst (v := 0) hx hb dX8_lotsOf_0 rfl ?_
  refine lv_istore_n (lv' := [(2, .int 0), (0, .ref (Γ.2.1 + k)), (1, .int a1)]) hx hb dX8_lotsOf_1 rfl hl (by decide) rfl fun ls hl => ?_
  refine lv_iconst (v := 0) hx hb dX8_lotsOf_2 rfl ?_
  refine lv_istore_n (lv' := [(3, .int 0), (2, .int 0), (0, .ref (Γ.2.1 + k)), (1, .int a1)]) hx hb dX8_lotsOf_3 rfl hl (by decide) rfl fun ls hl => ?_
  have L4 : ∀ (fu : Nat) (t4 : Int32 × Int32), rp (b_Stand_lotsOf_4 v k a1) fu t4 = some q → ∀ (H1 : Heap) (locs1 : List Loc) (ls1 : Array Slot), lv_has ls1 4 [(0, .ref (Γ.2.1 + k)), (1, .int a1), (2, .int t4.1), (3, .int t4.2)] → Wd Γ sh v w H1 → va_S (gA Γ sh n) s.heap H1 locs1 → H1.size = Γ.2.1 + n → wpI Γ sh w n 1 (fun x u => x = q ∧ u = v) p l e s m args below meth c H1 locs1 (F0 m 4 ls1 []) := by
    refine q_loop (fun K4 ih4 t4 h H1 locs1 ls hl hP hS hz => ?_)
    unfold b_Stand_lotsOf_4 at h
    refine lv_iload_n hx hb dX8_lotsOf_4 rfl (lv_at hl 3 rfl) ?_
    refine lv_aload_n hx hb dX8_lotsOf_5 rfl (lv_at hl 0 rfl) ?_
    refine w_gr (k := k) (r := 61) hx hb hts hown hK hP fX8_7 hk.1 rfl dX8_lotsOf_6 ?_
    refine w_gi (k := 61) hx hb hts hown hK hP fX8_71 hk.2.1.1 rfl dX8_lotsOf_9 ?_
    refine lv_icmp_ge (tgt := 36) hx hb dX8_lotsOf_12 rfl (fun hc12 => ?_) (fun hc12 => ?_)
    · have h := itt_e h hc12
      refine lv_iload_n hx hb dX8_lotsOf_36 rfl (lv_at hl 2 rfl) ?_
      exact w_iret hx hb hret rfl hlk hK hP hS hz hE (q_p1 h) dX8_lotsOf_37
    · have h := itf_e h hc12
      refine lv_aload_n hx hb dX8_lotsOf_15 rfl (lv_at hl 0 rfl) ?_
      refine w_gr (k := k) (r := (k + 3)) hx hb hts hown hK hP fX8_31 hk.1 rfl dX8_lotsOf_16 ?_
      refine lv_iload_n hx hb dX8_lotsOf_19 rfl (lv_at hl 3 rfl) ?_
      obtain ⟨q20, e20, h⟩ := bnd_e h
      refine z_Vi (k := (k + 3)) (r1 := q20) (v1 := v) hx hb hml hts hown hK hP hS hz hE (C_Row_get hk.2.2.2.1 e20) kX7_get mX8_77 hk.2.2.2.1.1 rfl rfl rfl hl.1 (Nat.le_of_ble_eq_true rfl) ⟨Nat.le_of_ble_eq_true rfl, Nat.le_of_ble_eq_true rfl⟩ ⟨Nat.le_refl _, Nat.le_refl _⟩ dX8_lotsOf_20 fun H1 locs1 hz hP hS => ?_
      refine lv_iload_n hx hb dX8_lotsOf_23 rfl (lv_at hl 1 rfl) ?_
      have J30 : ∀ (x30_2 : Int32), (j_Stand_lotsOf_30 K4 t4) x30_2 = some q → ∀ (H1 : Heap) (locs1 : List Loc) (ls1 : Array Slot), lv_has ls1 4 [(0, .ref (Γ.2.1 + k)), (1, .int a1), (2, .int x30_2), (3, .int t4.2)] → Wd Γ sh v w H1 → va_S (gA Γ sh n) s.heap H1 locs1 → H1.size = Γ.2.1 + n → wpI Γ sh w n 1 (fun x u => x = q ∧ u = v) p l e s m args below meth c H1 locs1 (F0 m 30 ls1 []) := by
        intro x30_2 h H1 locs1 ls hl hP hS hz
        unfold j_Stand_lotsOf_30 at h
        refine lv_iinc (k := 3) (v := (t4.2 + 1)) (lv' := [(3, .int (t4.2 + 1)), (0, .ref (Γ.2.1 + k)), (1, .int a1), (2, .int x30_2)]) hx hb dX8_lotsOf_30 hl rfl rfl (by decide) rfl fun ls hl => ?_
        refine lv_goto (tgt := 4) hx hb dX8_lotsOf_33 rfl ?_
        exact ih4 (x30_2, (t4.2 + 1)) h _ _ _ (lv_sub hl [1, 2, 3, 0] rfl) hP hS hz
      refine lv_icmp_ne (tgt := 30) hx hb dX8_lotsOf_24 rfl (fun hc24 => ?_) (fun hc24 => ?_)
      · have h := itf_e h hc24
        exact J30 t4.1 h _ _ _ (lv_sub hl [0, 1, 2, 3] rfl) hP hS hz
      · have h := itt_e h hc24
        refine lv_iinc (k := 2) (v := (t4.1 + 1)) (lv' := [(2, .int (t4.1 + 1)), (0, .ref (Γ.2.1 + k)), (1, .int a1), (3, .int t4.2)]) hx hb dX8_lotsOf_27 hl rfl rfl (by decide) rfl fun ls hl => ?_
        exact J30 (t4.1 + 1) h _ _ _ (lv_sub hl [1, 2, 0, 3] rfl) hP hS hz
  exact L4 z (0, 0) h _ _ _ (lv_sub hl [2, 3, 1, 0] rfl) hP hS hz
def j_Stand_weightOfLotsOf_38 (K4 : (Int32 × Int32) → Option Int32) (t4 : Int32 × Int32) (x38_2 : Int32) : Option Int32 := K4 (x38_2, (t4.2 + 1))
def b_Stand_weightOfLotsOf_4 (v : Va) (k : Nat) (a1 : Int32) (K4 : (Int32 × Int32) → Option Int32) (t4 : Int32 × Int32) : Option Int32 := if (v 61 3) ≤ t4.2 then (some t4.1) else (bnd (row_g 10 (v (k + 4)) t4.2) fun q20 => if q20 = a1 then (bnd (row_g 10 (v (k + 2)) t4.2) fun q33 => j_Stand_weightOfLotsOf_38 K4 t4 (t4.1 + q33)) else (j_Stand_weightOfLotsOf_38 K4 t4 t4.1))
def f_Stand_weightOfLotsOf (z : Nat) (v : Va) (k : Nat) (a1 : Int32) : Option Int32 := rp (b_Stand_weightOfLotsOf_4 v k a1) z (0, 0)
theorem c_Stand_weightOfLotsOf {k : Nat} {a1 : Int32} (hk : isStand sh k) {q : Int32} (h : f_Stand_weightOfLotsOf z v k a1 = some q) : MetI l yX8_weightOfLotsOf cX8_weightOfLotsOf 4 (some .int) 1 Γ sh v w n [.ref (Γ.2.1 + k), .int a1] (fun x u => x = q ∧ u = v) := by
  unfold f_Stand_weightOfLotsOf at h
  refine w_start pn_X8 (Nat.le_of_ble_eq_true rfl) fun p e s m args below meth c hx hb hml hret hlk hnm hts hown hK hP hz hE hS ls hl => ?_
  refine lv_iconst (v := 0) hx hb dX8_weightOfLotsOf_0 rfl ?_
  refine lv_istore_n (lv' := [(2, .int 0), (0, .ref (Γ.2.1 + k)), (1, .int a1)]) hx hb dX8_weightOfLotsOf_1 rfl hl (by decide) rfl fun ls hl => ?_
  refine lv_iconst (v := 0) hx hb dX8_weightOfLotsOf_2 rfl ?_
  refine lv_istore_n (lv' := [(3, .int 0), (2, .int 0), (0, .ref (Γ.2.1 + k)), (1, .int a1)]) hx hb dX8_weightOfLotsOf_3 rfl hl (by decide) rfl fun ls hl => ?_
  have L4 : ∀ (fu : Nat) (t4 : Int32 × Int32), rp (b_Stand_weightOfLotsOf_4 v k a1) fu t4 = some q → ∀ (H1 : Heap) (locs1 : List Loc) (ls1 : Array Slot), lv_has ls1 4 [(0, .ref (Γ.2.1 + k)), (1, .int a1), (2, .int t4.1), (3, .int t4.2)] → Wd Γ sh v w H1 → va_S (gA Γ sh n) s.heap H1 locs1 → H1.size = Γ.2.1 + n → wpI Γ sh w n 1 (fun x u => x = q ∧ u = v) p l e s m args below meth c H1 locs1 (F0 m 4 ls1 []) := by
    refine q_loop (fun K4 ih4 t4 h H1 locs1 ls hl hP hS hz => ?_)
    unfold b_Stand_weightOfLotsOf_4 at h
    refine lv_iload_n hx hb dX8_weightOfLotsOf_4 rfl (lv_at hl 3 rfl) ?_
    refine lv_aload_n hx hb dX8_weightOfLotsOf_5 rfl (lv_at hl 0 rfl) ?_
    refine w_gr (k := k) (r := 61) hx hb hts hown hK hP fX8_7 hk.1 rfl dX8_weightOfLotsOf_6 ?_
    refine w_gi (k := 61) hx hb hts hown hK hP fX8_71 hk.2.1.1 rfl dX8_weightOfLotsOf_9 ?_
    refine lv_icmp_ge (tgt := 44) hx hb dX8_weightOfLotsOf_12 rfl (fun hc12 => ?_) (fun hc12 => ?_)
    · have h := itt_e h hc12
      refine lv_iload_n hx hb dX8_weightOfLotsOf_44 rfl (lv_at hl 2 rfl) ?_
      exact w_iret hx hb hret rfl hlk hK hP hS hz hE (q_p1 h) dX8_weightOfLotsOf_45
    · have h := itf_e h hc12
      refine lv_aload_n hx hb dX8_weightOfLotsOf_15 rfl (lv_at hl 0 rfl) ?_
      refine w_gr (k := k) (r := (k + 3)) hx hb hts hown hK hP fX8_31 hk.1 rfl dX8_weightOfLotsOf_16 ?_
      refine lv_iload_n hx hb dX8_weightOfLotsOf_19 rfl (lv_at hl 3 rfl) ?_
      obtain ⟨q20, e20, h⟩ := bnd_e h
      refine z_Vi (k := (k + 3)) (r1 := q20) (v1 := v) hx hb hml hts hown hK hP hS hz hE (C_Row_get hk.2.2.2.1 e20) kX7_get mX8_77 hk.2.2.2.1.1 rfl rfl rfl hl.1 (Nat.le_of_ble_eq_true rfl) ⟨Nat.le_of_ble_eq_true rfl, Nat.le_of_ble_eq_true rfl⟩ ⟨Nat.le_refl _, Nat.le_refl _⟩ dX8_weightOfLotsOf_20 fun H1 locs1 hz hP hS => ?_
      refine lv_iload_n hx hb dX8_weightOfLotsOf_23 rfl (lv_at hl 1 rfl) ?_
      have J38 : ∀ (x38_2 : Int32), (j_Stand_weightOfLotsOf_38 K4 t4) x38_2 = some q → ∀ (H1 : Heap) (locs1 : List Loc) (ls1 : Array Slot), lv_has ls1 4 [(0, .ref (Γ.2.1 + k)), (1, .int a1), (2, .int x38_2), (3, .int t4.2)] → Wd Γ sh v w H1 → va_S (gA Γ sh n) s.heap H1 locs1 → H1.size = Γ.2.1 + n → wpI Γ sh w n 1 (fun x u => x = q ∧ u = v) p l e s m args below meth c H1 locs1 (F0 m 38 ls1 []) := by
        intro x38_2 h H1 locs1 ls hl hP hS hz
        unfold j_Stand_weightOfLotsOf_38 at h
        refine lv_iinc (k := 3) (v := (t4.2 + 1)) (lv' := [(3, .int (t4.2 + 1)), (0, .ref (Γ.2.1 + k)), (1, .int a1), (2, .int x38_2)]) hx hb dX8_weightOfLotsOf_38 hl rfl rfl (by decide) rfl fun ls hl => ?_
        refine lv_goto (tgt := 4) hx hb dX8_weightOfLotsOf_41 rfl ?_
        exact ih4 (x38_2, (t4.2 + 1)) h _ _ _ (lv_sub hl [1, 2, 3, 0] rfl) hP hS hz
      refine lv_icmp_ne (tgt := 38) hx hb dX8_weightOfLotsOf_24 rfl (fun hc24 => ?_) (fun hc24 => ?_)
      · have h := itf_e h hc24
        exact J38 t4.1 h _ _ _ (lv_sub hl [0, 1, 2, 3] rfl) hP hS hz
      · have h := itt_e h hc24
        refine lv_iload_n hx hb dX8_weightOfLotsOf_27 rfl (lv_at hl 2 rfl) ?_
        refine lv_aload_n hx hb dX8_weightOfLotsOf_28 rfl (lv_at hl 0 rfl) ?_
        refine w_gr (k := k) (r := (k + 1)) hx hb hts hown hK hP fX8_27 hk.1 rfl dX8_weightOfLotsOf_29 ?_
        refine lv_iload_n hx hb dX8_weightOfLotsOf_32 rfl (lv_at hl 3 rfl) ?_
        obtain ⟨q33, e33, h⟩ := bnd_e h
        refine z_Vi (k := (k + 1)) (r1 := q33) (v1 := v) hx hb hml hts hown hK hP hS hz hE (C_Row_get hk.2.2.1 e33) kX7_get mX8_77 hk.2.2.1.1 rfl rfl rfl hl.1 (Nat.le_of_ble_eq_true rfl) ⟨Nat.le_of_ble_eq_true rfl, Nat.le_of_ble_eq_true rfl⟩ ⟨Nat.le_refl _, Nat.le_refl _⟩ dX8_weightOfLotsOf_33 fun H1 locs1 hz hP hS => ?_
        refine lv_iadd hx hb dX8_weightOfLotsOf_36 ?_
        refine lv_istore_n (lv' := [(2, .int (t4.1 + q33)), (0, .ref (Γ.2.1 + k)), (1, .int a1), (3, .int t4.2)]) hx hb dX8_weightOfLotsOf_37 rfl hl (by decide) rfl fun ls hl => ?_
        exact J38 (t4.1 + q33) h _ _ _ (lv_sub hl [1, 2, 0, 3] rfl) hP hS hz
  exact L4 z (0, 0) h _ _ _ (lv_sub hl [2, 3, 1, 0] rfl) hP hS hz
def f_Stand_tellMerchant (z : Nat) (v : Va) (k : Nat) (a1 : Int32) (a2 : Int32) : Option Int32 := if a2 = 0 then (bnd (row_g 6 (v (k + 12)) a1) fun q41 => some q41) else (if a2 = 1 then (bnd (row_g 6 (v 71) a1) fun q53 => some q53) else (if a2 = 2 then ((f_Debts_sumOf z v (k + 13) a1).bind fun q62 => some q62) else (if a2 = 3 then ((f_Debts_sumOwedTo z v (k + 13) a1).bind fun q71 => some q71) else (if a2 = 4 then ((f_Stand_lotsOf z v k a1).bind fun q77 => some q77) else ((f_Stand_weightOfLotsOf z v k a1).bind fun q83 => some q83)))))
theorem c_Stand_tellMerchant {k : Nat} {a1 : Int32} {a2 : Int32} (hk : isStand sh k) {q : Int32} (h : f_Stand_tellMerchant z v k a1 a2 = some q) : MetI l yX8_tellMerchant cX8_tellMerchant 3 (some .int) 2 Γ sh v w n [.ref (Γ.2.1 + k), .int a1, .int a2] (fun x u => x = q ∧ u = v) := by
  unfold f_Stand_tellMerchant at h
  refine w_start pn_X8 (Nat.le_of_ble_eq_true rfl) fun p e s m args below meth c hx hb hml hret hlk hnm hts hown hK hP hz hE hS ls hl => ?_
  refine lv_iload_n hx hb dX8_tellMerchant_0 rfl (lv_at hl 2 rfl) ?_
  by_cases hc1_0 : a2 = 0
  · have h := itt_e h hc1_0
    refine z_tI (y := 0) (tgt := 36) hx hb dX8_tellMerchant_1 hc1_0 (by decide) (by decide) rfl rfl ?_
    refine lv_aload_n hx hb dX8_tellMerchant_36 rfl (lv_at hl 0 rfl) ?_
    refine w_gr (k := k) (r := (k + 11)) hx hb hts hown hK hP fX8_43 hk.1 rfl dX8_tellMerchant_37 ?_
    refine lv_iload_n hx hb dX8_tellMerchant_40 rfl (lv_at hl 1 rfl) ?_
    obtain ⟨q41, e41, h⟩ := bnd_e h
    refine z_Vi (k := (k + 11)) (r1 := q41) (v1 := v) hx hb hml hts hown hK hP hS hz hE (C_Row_get hk.2.2.2.2.2.2.2.1 e41) kX7_get mX8_77 hk.2.2.2.2.2.2.2.1.1 rfl rfl rfl hl.1 (Nat.le_of_ble_eq_true rfl) ⟨Nat.le_of_ble_eq_true rfl, Nat.le_of_ble_eq_true rfl⟩ ⟨Nat.le_refl _, Nat.le_refl _⟩ dX8_tellMerchant_41 fun H1 locs1 hz hP hS => ?_
    exact w_iret hx hb hret rfl hlk hK hP hS hz hE (q_p1 h) dX8_tellMerchant_44
  have h := itf_e h hc1_0
  by_cases hc1_1 : a2 = 1
  · have h := itt_e h hc1_1
    refine z_tI (y := 1) (tgt := 45) hx hb dX8_tellMerchant_1 hc1_1 (by decide) (by decide) rfl rfl ?_
    refine lv_aload_n hx hb dX8_tellMerchant_45 rfl (lv_at hl 0 rfl) ?_
    refine w_gr (k := k) (r := 61) hx hb hts hown hK hP fX8_7 hk.1 rfl dX8_tellMerchant_46 ?_
    refine w_gr (k := 61) (r := 70) hx hb hts hown hK hP fX8_115 hk.2.1.1 rfl dX8_tellMerchant_49 ?_
    refine lv_iload_n hx hb dX8_tellMerchant_52 rfl (lv_at hl 1 rfl) ?_
    obtain ⟨q53, e53, h⟩ := bnd_e h
    refine z_Vi (k := 70) (r1 := q53) (v1 := v) hx hb hml hts hown hK hP hS hz hE (C_Row_get hk.2.1.2.2.2.2.2.1 e53) kX7_get mX8_77 hk.2.1.2.2.2.2.2.1.1 rfl rfl rfl hl.1 (Nat.le_of_ble_eq_true rfl) ⟨Nat.le_of_ble_eq_true rfl, Nat.le_of_ble_eq_true rfl⟩ ⟨Nat.le_refl _, Nat.le_refl _⟩ dX8_tellMerchant_53 fun H1 locs1 hz hP hS => ?_
    exact w_iret hx hb hret rfl hlk hK hP hS hz hE (q_p1 h) dX8_tellMerchant_56
  have h := itf_e h hc1_1
  by_cases hc1_2 : a2 = 2
  · have h := itt_e h hc1_2
    refine z_tI (y := 2) (tgt := 57) hx hb dX8_tellMerchant_1 hc1_2 (by decide) (by decide) rfl rfl ?_
    refine lv_aload_n hx hb dX8_tellMerchant_57 rfl (lv_at hl 0 rfl) ?_
    refine w_gr (k := k) (r := (k + 13)) hx hb hts hown hK hP fX8_49 hk.1 rfl dX8_tellMerchant_58 ?_
    refine lv_iload_n hx hb dX8_tellMerchant_61 rfl (lv_at hl 1 rfl) ?_
    obtain ⟨q62, e62, h⟩ := obn_e h
    refine z_Vi (k := (k + 13)) (r1 := q62) (v1 := v) hx hb hml hts hown hK hP hS hz hE (c_Debts_sumOf hk.2.2.2.2.2.2.2.2.1 e62) kX1_sumOf mX8_112 hk.2.2.2.2.2.2.2.2.1.1 rfl rfl rfl hl.1 (Nat.le_of_ble_eq_true rfl) ⟨Nat.le_of_ble_eq_true rfl, Nat.le_of_ble_eq_true rfl⟩ ⟨Nat.le_refl _, Nat.le_refl _⟩ dX8_tellMerchant_62 fun H1 locs1 hz hP hS => ?_
    exact w_iret hx hb hret rfl hlk hK hP hS hz hE (q_p1 h) dX8_tellMerchant_65
  have h := itf_e h hc1_2
  by_cases hc1_3 : a2 = 3
  · have h := itt_e h hc1_3
    refine z_tI (y := 3) (tgt := 66) hx hb dX8_tellMerchant_1 hc1_3 (by decide) (by decide) rfl rfl ?_
    refine lv_aload_n hx hb dX8_tellMerchant_66 rfl (lv_at hl 0 rfl) ?_
    refine w_gr (k := k) (r := (k + 13)) hx hb hts hown hK hP fX8_49 hk.1 rfl dX8_tellMerchant_67 ?_
    refine lv_iload_n hx hb dX8_tellMerchant_70 rfl (lv_at hl 1 rfl) ?_
    obtain ⟨q71, e71, h⟩ := obn_e h
    refine z_Vi (k := (k + 13)) (r1 := q71) (v1 := v) hx hb hml hts hown hK hP hS hz hE (c_Debts_sumOwedTo hk.2.2.2.2.2.2.2.2.1 e71) kX1_sumOwedTo mX8_118 hk.2.2.2.2.2.2.2.2.1.1 rfl rfl rfl hl.1 (Nat.le_of_ble_eq_true rfl) ⟨Nat.le_of_ble_eq_true rfl, Nat.le_of_ble_eq_true rfl⟩ ⟨Nat.le_refl _, Nat.le_refl _⟩ dX8_tellMerchant_71 fun H1 locs1 hz hP hS => ?_
    exact w_iret hx hb hret rfl hlk hK hP hS hz hE (q_p1 h) dX8_tellMerchant_74
  have h := itf_e h hc1_3
  by_cases hc1_4 : a2 = 4
  · have h := itt_e h hc1_4
    refine z_tI (y := 4) (tgt := 75) hx hb dX8_tellMerchant_1 hc1_4 (by decide) (by decide) rfl rfl ?_
    refine lv_aload_n hx hb dX8_tellMerchant_75 rfl (lv_at hl 0 rfl) ?_
    refine lv_iload_n hx hb dX8_tellMerchant_76 rfl (lv_at hl 1 rfl) ?_
    obtain ⟨q77, e77, h⟩ := obn_e h
    refine z_Vi (k := k) (r1 := q77) (v1 := v) hx hb hml hts hown hK hP hS hz hE (c_Stand_lotsOf hk e77) kX8_lotsOf mX8_138 hk.1 rfl rfl rfl hl.1 (Nat.le_of_ble_eq_true rfl) ⟨Nat.le_of_ble_eq_true rfl, Nat.le_of_ble_eq_true rfl⟩ ⟨Nat.le_refl _, Nat.le_refl _⟩ dX8_tellMerchant_77 fun H1 locs1 hz hP hS => ?_
    exact w_iret hx hb hret rfl hlk hK hP hS hz hE (q_p1 h) dX8_tellMerchant_80
  have h := itf_e h hc1_4
  refine z_tD (tgt := 81) hx hb [0, 1, 2, 3, 4] dX8_tellMerchant_1 (q_nc hc1_0 (q_nc hc1_1 (q_nc hc1_2 (q_nc hc1_3 (q_nc hc1_4 q_nn))))) (by decide) (by decide) rfl ?_
  refine lv_aload_n hx hb dX8_tellMerchant_81 rfl (lv_at hl 0 rfl) ?_
  refine lv_iload_n hx hb dX8_tellMerchant_82 rfl (lv_at hl 1 rfl) ?_
  obtain ⟨q83, e83, h⟩ := obn_e h
  refine z_Vi (k := k) (r1 := q83) (v1 := v) hx hb hml hts hown hK hP hS hz hE (c_Stand_weightOfLotsOf hk e83) kX8_weightOfLotsOf mX8_141 hk.1 rfl rfl rfl hl.1 (Nat.le_of_ble_eq_true rfl) ⟨Nat.le_of_ble_eq_true rfl, Nat.le_of_ble_eq_true rfl⟩ ⟨Nat.le_refl _, Nat.le_refl _⟩ dX8_tellMerchant_83 fun H1 locs1 hz hP hS => ?_
  exact w_iret hx hb hret rfl hlk hK hP hS hz hE (q_p1 h) dX8_tellMerchant_86
def j_Stand_lotsWithChopOf_30 (K4 : (Int32 × Int32) → Option Int32) (t4 : Int32 × Int32) (x30_2 : Int32) : Option Int32 := K4 (x30_2, (t4.2 + 1))
def b_Stand_lotsWithChopOf_4 (v : Va) (k : Nat) (a1 : Int32) (K4 : (Int32 × Int32) → Option Int32) (t4 : Int32 × Int32) : Option Int32 := if (v 61 3) ≤ t4.2 then (some t4.1) else (bnd (row_g 10 (v (k + 6)) t4.2) fun q20 => if q20 = a1 then (j_Stand_lotsWithChopOf_30 K4 t4 (t4.1 + 1)) else (j_Stand_lotsWithChopOf_30 K4 t4 t4.1))
def f_Stand_lotsWithChopOf (z : Nat) (v : Va) (k : Nat) (a1 : Int32) : Option Int32 := rp (b_Stand_lotsWithChopOf_4 v k a1) z (0, 0)
theorem c_Stand_lotsWithChopOf {k : Nat} {a1 : Int32} (hk : isStand sh k) {q : Int32} (h : f_Stand_lotsWithChopOf z v k a1 = some q) : MetI l yX8_lotsWithChopOf cX8_lotsWithChopOf 4 (some .int) 1 Γ sh v w n [.ref (Γ.2.1 + k), .int a1] (fun x u => x = q ∧ u = v) := by
  unfold f_Stand_lotsWithChopOf at h
  refine w_start pn_X8 (Nat.le_of_ble_eq_true rfl) fun p e s m args below meth c hx hb hml hret hlk hnm hts hown hK hP hz hE hS ls hl => ?_
  refine lv_iconst (v := 0) hx hb dX8_lotsWithChopOf_0 rfl ?_
  refine lv_istore_n (lv' := [(2, .int 0), (0, .ref (Γ.2.1 + k)), (1, .int a1)]) hx hb dX8_lotsWithChopOf_1 rfl hl (by decide) rfl fun ls hl => ?_
  refine lv_iconst (v := 0) hx hb dX8_lotsWithChopOf_2 rfl ?_
  refine lv_istore_n (lv' := [(3, .int 0), (2, .int 0), (0, .ref (Γ.2.1 + k)), (1, .int a1)]) hx hb dX8_lotsWithChopOf_3 rfl hl (by decide) rfl fun ls hl => ?_
  have L4 : ∀ (fu : Nat) (t4 : Int32 × Int32), rp (b_Stand_lotsWithChopOf_4 v k a1) fu t4 = some q → ∀ (H1 : Heap) (locs1 : List Loc) (ls1 : Array Slot), lv_has ls1 4 [(0, .ref (Γ.2.1 + k)), (1, .int a1), (2, .int t4.1), (3, .int t4.2)] → Wd Γ sh v w H1 → va_S (gA Γ sh n) s.heap H1 locs1 → H1.size = Γ.2.1 + n → wpI Γ sh w n 1 (fun x u => x = q ∧ u = v) p l e s m args below meth c H1 locs1 (F0 m 4 ls1 []) := by
    refine q_loop (fun K4 ih4 t4 h H1 locs1 ls hl hP hS hz => ?_)
    unfold b_Stand_lotsWithChopOf_4 at h
    refine lv_iload_n hx hb dX8_lotsWithChopOf_4 rfl (lv_at hl 3 rfl) ?_
    refine lv_aload_n hx hb dX8_lotsWithChopOf_5 rfl (lv_at hl 0 rfl) ?_
    refine w_gr (k := k) (r := 61) hx hb hts hown hK hP fX8_7 hk.1 rfl dX8_lotsWithChopOf_6 ?_
    refine w_gi (k := 61) hx hb hts hown hK hP fX8_71 hk.2.1.1 rfl dX8_lotsWithChopOf_9 ?_
    refine lv_icmp_ge (tgt := 36) hx hb dX8_lotsWithChopOf_12 rfl (fun hc12 => ?_) (fun hc12 => ?_)
    · have h := itt_e h hc12
      refine lv_iload_n hx hb dX8_lotsWithChopOf_36 rfl (lv_at hl 2 rfl) ?_
      exact w_iret hx hb hret rfl hlk hK hP hS hz hE (q_p1 h) dX8_lotsWithChopOf_37
    · have h := itf_e h hc12
      refine lv_aload_n hx hb dX8_lotsWithChopOf_15 rfl (lv_at hl 0 rfl) ?_
      refine w_gr (k := k) (r := (k + 5)) hx hb hts hown hK hP fX8_34 hk.1 rfl dX8_lotsWithChopOf_16 ?_
      refine lv_iload_n hx hb dX8_lotsWithChopOf_19 rfl (lv_at hl 3 rfl) ?_
      obtain ⟨q20, e20, h⟩ := bnd_e h
      refine z_Vi (k := (k + 5)) (r1 := q20) (v1 := v) hx hb hml hts hown hK hP hS hz hE (C_Row_get hk.2.2.2.2.1 e20) kX7_get mX8_77 hk.2.2.2.2.1.1 rfl rfl rfl hl.1 (Nat.le_of_ble_eq_true rfl) ⟨Nat.le_of_ble_eq_true rfl, Nat.le_of_ble_eq_true rfl⟩ ⟨Nat.le_refl _, Nat.le_refl _⟩ dX8_lotsWithChopOf_20 fun H1 locs1 hz hP hS => ?_
      refine lv_iload_n hx hb dX8_lotsWithChopOf_23 rfl (lv_at hl 1 rfl) ?_
      have J30 : ∀ (x30_2 : Int32), (j_Stand_lotsWithChopOf_30 K4 t4) x30_2 = some q → ∀ (H1 : Heap) (locs1 : List Loc) (ls1 : Array Slot), lv_has ls1 4 [(0, .ref (Γ.2.1 + k)), (1, .int a1), (2, .int x30_2), (3, .int t4.2)] → Wd Γ sh v w H1 → va_S (gA Γ sh n) s.heap H1 locs1 → H1.size = Γ.2.1 + n → wpI Γ sh w n 1 (fun x u => x = q ∧ u = v) p l e s m args below meth c H1 locs1 (F0 m 30 ls1 []) := by
        intro x30_2 h H1 locs1 ls hl hP hS hz
        unfold j_Stand_lotsWithChopOf_30 at h
        refine lv_iinc (k := 3) (v := (t4.2 + 1)) (lv' := [(3, .int (t4.2 + 1)), (0, .ref (Γ.2.1 + k)), (1, .int a1), (2, .int x30_2)]) hx hb dX8_lotsWithChopOf_30 hl rfl rfl (by decide) rfl fun ls hl => ?_
        refine lv_goto (tgt := 4) hx hb dX8_lotsWithChopOf_33 rfl ?_
        exact ih4 (x30_2, (t4.2 + 1)) h _ _ _ (lv_sub hl [1, 2, 3, 0] rfl) hP hS hz
      refine lv_icmp_ne (tgt := 30) hx hb dX8_lotsWithChopOf_24 rfl (fun hc24 => ?_) (fun hc24 => ?_)
      · have h := itf_e h hc24
        exact J30 t4.1 h _ _ _ (lv_sub hl [0, 1, 2, 3] rfl) hP hS hz
      · have h := itt_e h hc24
        refine lv_iinc (k := 2) (v := (t4.1 + 1)) (lv' := [(2, .int (t4.1 + 1)), (0, .ref (Γ.2.1 + k)), (1, .int a1), (3, .int t4.2)]) hx hb dX8_lotsWithChopOf_27 hl rfl rfl (by decide) rfl fun ls hl => ?_
        exact J30 (t4.1 + 1) h _ _ _ (lv_sub hl [1, 2, 0, 3] rfl) hP hS hz
  exact L4 z (0, 0) h _ _ _ (lv_sub hl [2, 3, 1, 0] rfl) hP hS hz
def f_Stand_tellGuild (z : Nat) (v : Va) (k : Nat) (a1 : Int32) (a2 : Int32) : Option Int32 := if a2 = 0 then (bnd (row_g 4 (v 65) a1) fun q36 => some q36) else (if a2 = 1 then (bnd (row_g 4 (v 67) a1) fun q48 => some q48) else (if a2 = 2 then (bnd (row_g 4 (v (k + 19)) a1) fun q57 => some q57) else ((f_Stand_lotsWithChopOf z v k a1).bind fun q63 => some q63)))
theorem c_Stand_tellGuild {k : Nat} {a1 : Int32} {a2 : Int32} (hk : isStand sh k) {q : Int32} (h : f_Stand_tellGuild z v k a1 a2 = some q) : MetI l yX8_tellGuild cX8_tellGuild 3 (some .int) 2 Γ sh v w n [.ref (Γ.2.1 + k), .int a1, .int a2] (fun x u => x = q ∧ u = v) := by
  unfold f_Stand_tellGuild at h
  refine w_start pn_X8 (Nat.le_of_ble_eq_true rfl) fun p e s m args below meth c hx hb hml hret hlk hnm hts hown hK hP hz hE hS ls hl => ?_
  refine lv_iload_n hx hb dX8_tellGuild_0 rfl (lv_at hl 2 rfl) ?_
  by_cases hc1_0 : a2 = 0
  · have h := itt_e h hc1_0
    refine z_tI (y := 0) (tgt := 28) hx hb dX8_tellGuild_1 hc1_0 (by decide) (by decide) rfl rfl ?_
    refine lv_aload_n hx hb dX8_tellGuild_28 rfl (lv_at hl 0 rfl) ?_
    refine w_gr (k := k) (r := 61) hx hb hts hown hK hP fX8_7 hk.1 rfl dX8_tellGuild_29 ?_
    refine w_gr (k := 61) (r := 64) hx hb hts hown hK hP fX8_144 hk.2.1.1 rfl dX8_tellGuild_32 ?_
    refine lv_iload_n hx hb dX8_tellGuild_35 rfl (lv_at hl 1 rfl) ?_
    obtain ⟨q36, e36, h⟩ := bnd_e h
    refine z_Vi (k := 64) (r1 := q36) (v1 := v) hx hb hml hts hown hK hP hS hz hE (C_Row_get hk.2.1.2.2.1 e36) kX7_get mX8_77 hk.2.1.2.2.1.1 rfl rfl rfl hl.1 (Nat.le_of_ble_eq_true rfl) ⟨Nat.le_of_ble_eq_true rfl, Nat.le_of_ble_eq_true rfl⟩ ⟨Nat.le_refl _, Nat.le_refl _⟩ dX8_tellGuild_36 fun H1 locs1 hz hP hS => ?_
    exact w_iret hx hb hret rfl hlk hK hP hS hz hE (q_p1 h) dX8_tellGuild_39
  have h := itf_e h hc1_0
  by_cases hc1_1 : a2 = 1
  · have h := itt_e h hc1_1
    refine z_tI (y := 1) (tgt := 40) hx hb dX8_tellGuild_1 hc1_1 (by decide) (by decide) rfl rfl ?_
    refine lv_aload_n hx hb dX8_tellGuild_40 rfl (lv_at hl 0 rfl) ?_
    refine w_gr (k := k) (r := 61) hx hb hts hown hK hP fX8_7 hk.1 rfl dX8_tellGuild_41 ?_
    refine w_gr (k := 61) (r := 66) hx hb hts hown hK hP fX8_147 hk.2.1.1 rfl dX8_tellGuild_44 ?_
    refine lv_iload_n hx hb dX8_tellGuild_47 rfl (lv_at hl 1 rfl) ?_
    obtain ⟨q48, e48, h⟩ := bnd_e h
    refine z_Vi (k := 66) (r1 := q48) (v1 := v) hx hb hml hts hown hK hP hS hz hE (C_Row_get hk.2.1.2.2.2.1 e48) kX7_get mX8_77 hk.2.1.2.2.2.1.1 rfl rfl rfl hl.1 (Nat.le_of_ble_eq_true rfl) ⟨Nat.le_of_ble_eq_true rfl, Nat.le_of_ble_eq_true rfl⟩ ⟨Nat.le_refl _, Nat.le_refl _⟩ dX8_tellGuild_48 fun H1 locs1 hz hP hS => ?_
    exact w_iret hx hb hret rfl hlk hK hP hS hz hE (q_p1 h) dX8_tellGuild_51
  have h := itf_e h hc1_1
  by_cases hc1_2 : a2 = 2
  · have h := itt_e h hc1_2
    refine z_tI (y := 2) (tgt := 52) hx hb dX8_tellGuild_1 hc1_2 (by decide) (by decide) rfl rfl ?_
    refine lv_aload_n hx hb dX8_tellGuild_52 rfl (lv_at hl 0 rfl) ?_
    refine w_gr (k := k) (r := (k + 18)) hx hb hts hown hK hP fX8_53 hk.1 rfl dX8_tellGuild_53 ?_
    refine lv_iload_n hx hb dX8_tellGuild_56 rfl (lv_at hl 1 rfl) ?_
    obtain ⟨q57, e57, h⟩ := bnd_e h
    refine z_Vi (k := (k + 18)) (r1 := q57) (v1 := v) hx hb hml hts hown hK hP hS hz hE (C_Row_get hk.2.2.2.2.2.2.2.2.2.1 e57) kX7_get mX8_77 hk.2.2.2.2.2.2.2.2.2.1.1 rfl rfl rfl hl.1 (Nat.le_of_ble_eq_true rfl) ⟨Nat.le_of_ble_eq_true rfl, Nat.le_of_ble_eq_true rfl⟩ ⟨Nat.le_refl _, Nat.le_refl _⟩ dX8_tellGuild_57 fun H1 locs1 hz hP hS => ?_
    exact w_iret hx hb hret rfl hlk hK hP hS hz hE (q_p1 h) dX8_tellGuild_60
  have h := itf_e h hc1_2
  refine z_tD (tgt := 61) hx hb [0, 1, 2] dX8_tellGuild_1 (q_nc hc1_0 (q_nc hc1_1 (q_nc hc1_2 q_nn))) (by decide) (by decide) rfl ?_
  refine lv_aload_n hx hb dX8_tellGuild_61 rfl (lv_at hl 0 rfl) ?_
  refine lv_iload_n hx hb dX8_tellGuild_62 rfl (lv_at hl 1 rfl) ?_
  obtain ⟨q63, e63, h⟩ := obn_e h
  refine z_Vi (k := k) (r1 := q63) (v1 := v) hx hb hml hts hown hK hP hS hz hE (c_Stand_lotsWithChopOf hk e63) kX8_lotsWithChopOf mX8_150 hk.1 rfl rfl rfl hl.1 (Nat.le_of_ble_eq_true rfl) ⟨Nat.le_of_ble_eq_true rfl, Nat.le_of_ble_eq_true rfl⟩ ⟨Nat.le_refl _, Nat.le_refl _⟩ dX8_tellGuild_63 fun H1 locs1 hz hP hS => ?_
  exact w_iret hx hb hret rfl hlk hK hP hS hz hE (q_p1 h) dX8_tellGuild_66
end GE
