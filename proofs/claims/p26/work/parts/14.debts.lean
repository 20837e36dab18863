
section GE
variable {l : Launch} {Γ : Cx} {sh : Sh} {v : Va} {w : Vl} {n z : Nat}
def f_Debts_forget (v : Va) (k : Nat) : Option Va := bnd (up v (k + 2) (row_f 36 (v (k + 2)) 0)) fun q5 => some q5
theorem c_Debts_forget {k : Nat} (hk : isDebts sh k) {q : Va} (h : f_Debts_forget v k = some q) : MetV l yX1_forget cX1_forget 1 none 1 Γ sh v w n [.ref (Γ.2.1 + k)] (fun u => u = q) := by
  unfold f_Debts_forget at h
  refine w_start pn_X1 (Nat.le_of_ble_eq_true rfl) fun p e s m args below meth c hx hb hml hret hlk hnm hts hown hK hP hz hE hS ls hl => ?_
  refine lv_aload_n hx hb dX1_forget_0 rfl (lv_at hl 0 rfl) ?_
  refine w_gr (k := k) (r := (k + 1)) hx hb hts hown hK hP fX1_16 hk.1 rfl dX1_forget_1 ?_
  refine lv_iconst (v := 0) hx hb dX1_forget_4 rfl ?_
  obtain ⟨q5, e5, h⟩ := bnd_e h
  refine z_Vv (k := (k + 1)) (v1 := q5) hx hb hml hts hown hK hP hS hz hE (C_Row_fill hk.2.1 e5) kX7_fill mX1_23 hk.2.1.1 rfl rfl rfl hl.1 (Nat.le_of_ble_eq_true rfl) ⟨Nat.le_of_ble_eq_true rfl, Nat.le_of_ble_eq_true rfl⟩ ⟨Nat.le_refl _, Nat.le_refl _⟩ dX1_forget_5 fun H1 locs1 hz hP hS => ?_
  exact w_vret hx hb hret hlk hK hP hS hz hE (Option.some.inj h) dX1_forget_8
def f_Debts_copyFrom (v : Va) (k : Nat) (k1 : Nat) : Option Va := bnd (up v (k + 2) (row_c 36 (v (k + 2)) 36 (v (k1 + 2)))) fun q8 => some q8
theorem c_Debts_copyFrom {k : Nat} {k1 : Nat} (hk : isDebts sh k) (hk1 : isDebts sh k1) (hne : k ≠ k1) {q : Va} (h : f_Debts_copyFrom v k k1 = some q) : MetV l yX1_copyFrom cX1_copyFrom 2 none 2 Γ sh v w n [.ref (Γ.2.1 + k), .ref (Γ.2.1 + k1)] (fun u => u = q) := by
  unfold f_Debts_copyFrom at h
  refine w_start pn_X1 (Nat.le_of_ble_eq_true rfl) fun p e s m args below meth c hx hb hml hret hlk hnm hts hown hK hP hz hE hS ls hl => ?_
  refine lv_aload_n hx hb dX1_copyFrom_0 rfl (lv_at hl 0 rfl) ?_
  refine w_gr (k := k) (r := (k + 1)) hx hb hts hown hK hP fX1_16 hk.1 rfl dX1_copyFrom_1 ?_
  refine lv_aload_n hx hb dX1_copyFrom_4 rfl (lv_at hl 1 rfl) ?_
  refine w_gr (k := k1) (r := (k1 + 1)) hx hb hts hown hK hP fX1_16 hk1.1 rfl dX1_copyFrom_5 ?_
  obtain ⟨q8, e8, h⟩ := bnd_e h
  refine z_Vv (k := (k + 1)) (v1 := q8) hx hb hml hts hown hK hP hS hz hE (C_Row_copyFrom hk.2.1 hk1.2.1 (by omega) e8) kX7_copyFrom mX1_26 hk.2.1.1 rfl rfl rfl hl.1 (Nat.le_of_ble_eq_true rfl) ⟨Nat.le_of_ble_eq_true rfl, Nat.le_of_ble_eq_true rfl⟩ ⟨Nat.le_refl _, Nat.le_refl _⟩ dX1_copyFrom_8 fun H1 locs1 hz hP hS => ?_
  exact w_vret hx hb hret hlk hK hP hS hz hE (Option.some.inj h) dX1_copyFrom_11
def f_Debts_between (v : Va) (k : Nat) (a1 : Int32) (a2 : Int32) : Option Int32 := bnd (row_g 36 (v (k + 2)) ((a1 * 6) + a2)) fun q10 => some q10
theorem c_Debts_between {k : Nat} {a1 : Int32} {a2 : Int32} (hk : isDebts sh k) {q : Int32} (h : f_Debts_between v k a1 a2 = some q) : MetI l yX1_between cX1_between 3 (some .int) 1 Γ sh v w n [.ref (Γ.2.1 + k), .int a1, .int a2] (fun x u => x = q ∧ u = v) := by
  unfold f_Debts_between at h
  refine w_start pn_X1 (Nat.le_of_ble_eq_true rfl) fun p e s m args below meth c hx hb hml hret hlk hnm hts hown hK hP hz hE hS ls hl => ?_
  refine lv_aload_n hx hb dX1_between_0 rfl (lv_at hl 0 rfl) ?_
  refine w_gr (k := k) (r := (k + 1)) hx hb hts hown hK hP fX1_16 hk.1 rfl dX1_between_1 ?_
  refine lv_iload_n hx hb dX1_between_4 rfl (lv_at hl 1 rfl) ?_
  refine lv_bipush (v := 6) hx hb dX1_between_5 rfl ?_
  refine lv_imul hx hb dX1_between_7 ?_
  refine lv_iload_n hx hb dX1_between_8 rfl (lv_at hl 2 rfl) ?_
  refine lv_iadd hx hb dX1_between_9 ?_
  obtain ⟨q10, e10, h⟩ := bnd_e h
  refine z_Vi (k := (k + 1)) (r1 := q10) (v1 := v) hx hb hml hts hown hK hP hS hz hE (C_Row_get hk.2.1 e10) kX7_get mX1_30 hk.2.1.1 rfl rfl rfl hl.1 (Nat.le_of_ble_eq_true rfl) ⟨Nat.le_of_ble_eq_true rfl, Nat.le_of_ble_eq_true rfl⟩ ⟨Nat.le_refl _, Nat.le_refl _⟩ dX1_between_10 fun H1 locs1 hz hP hS => ?_
  exact w_iret hx hb hret rfl hlk hK hP hS hz hE (q_p1 h) dX1_between_13
def f_Debts_grow (v : Va) (k : Nat) (a1 : Int32) (a2 : Int32) (a3 : Int32) : Option Va := bnd (row_g 36 (v (k + 2)) ((a1 * 6) + a2)) fun q22 => bnd (up v (k + 2) (row_s 36 (v (k + 2)) ((a1 * 6) + a2) (q_min 99999 (q22 + a3)))) fun q30 => some q30
theorem c_Debts_grow {k : Nat} {a1 : Int32} {a2 : Int32} {a3 : Int32} (hk : isDebts sh k) {q : Va} (h : f_Debts_grow v k a1 a2 a3 = some q) : MetV l yX1_grow cX1_grow 4 none 1 Γ sh v w n [.ref (Γ.2.1 + k), .int a1, .int a2, .int a3] (fun u => u = q) := by
  unfold f_Debts_grow at h
  refine w_start pn_X1 (Nat.le_of_ble_eq_true rfl) fun p e s m args below meth c hx hb hml hret hlk hnm hts hown hK hP hz hE hS ls hl => ?_
  refine lv_aload_n hx hb dX1_grow_0 rfl (lv_at hl 0 rfl) ?_
  refine w_gr (k := k) (r := (k + 1)) hx hb hts hown hK hP fX1_16 hk.1 rfl dX1_grow_1 ?_
  refine lv_iload_n hx hb dX1_grow_4 rfl (lv_at hl 1 rfl) ?_
  refine lv_bipush (v := 6) hx hb dX1_grow_5 rfl ?_
  refine lv_imul hx hb dX1_grow_7 ?_
  refine lv_iload_n hx hb dX1_grow_8 rfl (lv_at hl 2 rfl) ?_
  refine lv_iadd hx hb dX1_grow_9 ?_
  refine lv_ldc hx hb hown (hts _ qX1_34) dX1_grow_10 ?_
  refine lv_aload_n hx hb dX1_grow_12 rfl (lv_at hl 0 rfl) ?_
  refine w_gr (k := k) (r := (k + 1)) hx hb hts hown hK hP fX1_16 hk.1 rfl dX1_grow_13 ?_
  refine lv_iload_n hx hb dX1_grow_16 rfl (lv_at hl 1 rfl) ?_
  refine lv_bipush (v := 6) hx hb dX1_grow_17 rfl ?_
  refine lv_imul hx hb dX1_grow_19 ?_
  refine lv_iload_n hx hb dX1_grow_20 rfl (lv_at hl 2 rfl) ?_
  refine lv_iadd hx hb dX1_grow_21 ?_
  obtain ⟨q22, e22, h⟩ := bnd_e h
  refine z_Vi (k := (k + 1)) (r1 := q22) (v1 := v) hx hb hml hts hown hK hP hS hz hE (C_Row_get hk.2.1 e22) kX7_get mX1_30 hk.2.1.1 rfl rfl rfl hl.1 (Nat.le_of_ble_eq_true rfl) ⟨Nat.le_of_ble_eq_true rfl, Nat.le_of_ble_eq_true rfl⟩ ⟨Nat.le_refl _, Nat.le_refl _⟩ dX1_grow_22 fun H1 locs1 hz hP hS => ?_
  refine lv_iload_n hx hb dX1_grow_25 rfl (lv_at hl 3 rfl) ?_
  refine lv_iadd hx hb dX1_grow_26 ?_
  refine z_mmin hx hb hml hl.1 hts hown xX1_35 ⟨Nat.le_of_ble_eq_true rfl, Nat.le_of_ble_eq_true rfl⟩ (Nat.le_of_ble_eq_true rfl) ⟨Nat.le_refl _, Nat.le_refl _⟩ dX1_grow_27 ?_
  obtain ⟨q30, e30, h⟩ := bnd_e h
  refine z_Vv (k := (k + 1)) (v1 := q30) hx hb hml hts hown hK hP hS hz hE (C_Row_set hk.2.1 e30) kX7_set mX1_41 hk.2.1.1 rfl rfl rfl hl.1 (Nat.le_of_ble_eq_true rfl) ⟨Nat.le_of_ble_eq_true rfl, Nat.le_of_ble_eq_true rfl⟩ ⟨Nat.le_refl _, Nat.le_refl _⟩ dX1_grow_30 fun H1 locs1 hz hP hS => ?_
  exact w_vret hx hb hret hlk hK hP hS hz hE (Option.some.inj h) dX1_grow_33
def j_Debts_growAll_43 (K2 : (Int32 × Va) → Option Va) (t2 : Int32 × Va) (v43 : Va) : Option Va := K2 ((t2.1 + 1), v43)
def b_Debts_growAll_2 (k : Nat) (K2 : (Int32 × Va) → Option Va) (t2 : Int32 × Va) : Option Va := if 36 ≤ t2.1 then (some t2.2) else (bnd (row_g 36 (t2.2 (k + 2)) t2.1) fun q13 => if q13 < 1 then (j_Debts_growAll_43 K2 t2 t2.2) else (bnd (up t2.2 (k + 2) (row_s 36 (t2.2 (k + 2)) t2.1 (q_min 99999 ((q13 + (q13 / 20)) + 1)))) fun q40 => j_Debts_growAll_43 K2 t2 q40))
def f_Debts_growAll (z : Nat) (v : Va) (k : Nat) : Option Va := rp (b_Debts_growAll_2 k) z (0, v)
theorem c_Debts_growAll {k : Nat} (hk : isDebts sh k) {q : Va} (h : f_Debts_growAll z v k = some q) : MetV l yX1_growAll cX1_growAll 3 none 1 Γ sh v w n [.ref (Γ.2.1 + k)] (fun u => u = q) := by
  unfold f_Debts_growAll at h
  refine w_start pn_X1 (Nat.le_of_ble_eq_true rfl) fun p e s m args below meth c hx hb hml hret hlk hnm hts hown hK hP hz hE hS ls hl => ?_
  refine lv_iconst (v := 0) hx hb dX1_growAll_0 rfl ?_
  refine lv_istore_n (lv' := [(1, .int 0), (0, .ref (Γ.2.1 + k))]) hx hb dX1_growAll_1 rfl hl (by decide) rfl fun ls hl => ?_
  have L2 : ∀ (fu : Nat) (t2 : Int32 × Va), rp (b_Debts_growAll_2 k) fu t2 = some q → ∀ (H1 : Heap) (locs1 : List Loc) (ls1 : Array Slot), lv_has ls1 3 [(0, .ref (Γ.2.1 + k)), (1, .int t2.1)] → Wd Γ sh t2.2 w H1 → va_S (gA Γ sh n) s.heap H1 locs1 → H1.size = Γ.2.1 + n → wpV Γ sh w n 1 (fun u => u = q) p l e s m args below meth c H1 locs1 (F0 m 2 ls1 []) := by
    refine q_loop (fun K2 ih2 t2 h H1 locs1 ls hl hP hS hz => ?_)
    unfold b_Debts_growAll_2 at h
    refine lv_iload_n hx hb dX1_growAll_2 rfl (lv_at hl 1 rfl) ?_
    refine lv_bipush (v := 36) hx hb dX1_growAll_3 rfl ?_
    refine lv_icmp_ge (tgt := 49) hx hb dX1_growAll_5 rfl (fun hc5 => ?_) (fun hc5 => ?_)
    · have h := itt_e h hc5
      exact w_vret hx hb hret hlk hK hP hS hz hE (Option.some.inj h) dX1_growAll_49
    · have h := itf_e h hc5
      refine lv_aload_n hx hb dX1_growAll_8 rfl (lv_at hl 0 rfl) ?_
      refine w_gr (k := k) (r := (k + 1)) hx hb hts hown hK hP fX1_16 hk.1 rfl dX1_growAll_9 ?_
      refine lv_iload_n hx hb dX1_growAll_12 rfl (lv_at hl 1 rfl) ?_
      obtain ⟨q13, e13, h⟩ := bnd_e h
      refine z_Vi (k := (k + 1)) (r1 := q13) (v1 := t2.2) hx hb hml hts hown hK hP hS hz hE (C_Row_get hk.2.1 e13) kX7_get mX1_30 hk.2.1.1 rfl rfl rfl hl.1 (Nat.le_of_ble_eq_true rfl) ⟨Nat.le_of_ble_eq_true rfl, Nat.le_of_ble_eq_true rfl⟩ ⟨Nat.le_refl _, Nat.le_refl _⟩ dX1_growAll_13 fun H1 locs1 hz hP hS => ?_
      refine lv_istore_n (lv' := [(2, .int q13), (0, .ref (Γ.2.1 + k)), (1, .int t2.1)]) hx hb dX1_growAll_16 rfl hl (by decide) rfl fun ls hl => ?_
      refine lv_iload_n hx hb dX1_growAll_17 rfl (lv_at hl 0 rfl) ?_
      refine lv_iconst (v := 1) hx hb dX1_growAll_18 rfl ?_
      have J43 : ∀ (v43 : Va), (j_Debts_growAll_43 K2 t2) v43 = some q → ∀ (H1 : Heap) (locs1 : List Loc) (ls1 : Array Slot), lv_has ls1 3 [(0, .ref (Γ.2.1 + k)), (1, .int t2.1)] → Wd Γ sh v43 w H1 → va_S (gA Γ sh n) s.heap H1 locs1 → H1.size = Γ.2.1 + n → wpV Γ sh w n 1 (fun u => u = q) p l e s m args below meth c H1 locs1 (F0 m 43 ls1 []) := by
        intro v43 h H1 locs1 ls hl hP hS hz
        unfold j_Debts_growAll_43 at h
        refine lv_iinc (k := 1) (v := (t2.1 + 1)) (lv' := [(1, .int (t2.1 + 1)), (0, .ref (Γ.2.1 + k))]) hx hb dX1_growAll_43 hl rfl rfl (by decide) rfl fun ls hl => ?_
        refine lv_goto (tgt := 2) hx hb dX1_growAll_46 rfl ?_
        exact ih2 ((t2.1 + 1), v43) h _ _ _ (lv_sub hl [1, 0] rfl) hP hS hz
      refine lv_icmp_lt (tgt := 43) hx hb dX1_growAll_19 rfl (fun hc19 => ?_) (fun hc19 => ?_)
      · have h := itt_e h hc19
        exact J43 t2.2 h _ _ _ (lv_sub hl [1, 2] rfl) hP hS hz
      · have h := itf_e h hc19
        refine lv_aload_n hx hb dX1_growAll_22 rfl (lv_at hl 1 rfl) ?_
        refine w_gr (k := k) (r := (k + 1)) hx hb hts hown hK hP fX1_16 hk.1 rfl dX1_growAll_23 ?_
        refine lv_iload_n hx hb dX1_growAll_26 rfl (lv_at hl 2 rfl) ?_
        refine lv_ldc hx hb hown (hts _ qX1_34) dX1_growAll_27 ?_
        refine lv_iload_n hx hb dX1_growAll_29 rfl (lv_at hl 0 rfl) ?_
        refine lv_iload_n hx hb dX1_growAll_30 rfl (lv_at hl 0 rfl) ?_
        refine lv_bipush (v := 20) hx hb dX1_growAll_31 rfl ?_
        refine lv_idiv hx hb dX1_growAll_33 (by decide) ?_
        refine lv_iadd hx hb dX1_growAll_34 ?_
        refine lv_iconst (v := 1) hx hb dX1_growAll_35 rfl ?_
        refine lv_iadd hx hb dX1_growAll_36 ?_
        refine z_mmin hx hb hml hl.1 hts hown xX1_35 ⟨Nat.le_of_ble_eq_true rfl, Nat.le_of_ble_eq_true rfl⟩ (Nat.le_of_ble_eq_true rfl) ⟨Nat.le_refl _, Nat.le_refl _⟩ dX1_growAll_37 ?_
        obtain ⟨q40, e40, h⟩ := bnd_e h
        refine z_Vv (k := (k + 1)) (v1 := q40) hx hb hml hts hown hK hP hS hz hE (C_Row_set hk.2.1 e40) kX7_set mX1_41 hk.2.1.1 rfl rfl rfl hl.1 (Nat.le_of_ble_eq_true rfl) ⟨Nat.le_of_ble_eq_true rfl, Nat.le_of_ble_eq_true rfl⟩ ⟨Nat.le_refl _, Nat.le_refl _⟩ dX1_growAll_40 fun H1 locs1 hz hP hS => ?_
        exact J43 q40 h _ _ _ (lv_sub hl [1, 2] rfl) hP hS hz
  exact L2 z (0, v) h _ _ _ (lv_sub hl [1, 0] rfl) hP hS hz
def b_Debts_sumOf_4 (v : Va) (k : Nat) (a1 : Int32) (K4 : (Int32 × Int32) → Option Int32) (t4 : Int32 × Int32) : Option Int32 := if 6 ≤ t4.2 then (some t4.1) else (bnd (row_g 36 (v (k + 2)) ((a1 * 6) + t4.2)) fun q21 => K4 ((t4.1 + q21), (t4.2 + 1)))
def f_Debts_sumOf (z : Nat) (v : Va) (k : Nat) (a1 : Int32) : Option Int32 := rp (b_Debts_sumOf_4 v k a1) z (0, 0)
theorem c_Debts_sumOf {k : Nat} {a1 : Int32} (hk : isDebts sh k) {q : Int32} (h : f_Debts_sumOf z v k a1 = some q) : MetI l yX1_sumOf cX1_sumOf 4 (some .int) 1 Γ sh v w n [.ref (Γ.2.1 + k), .int a1] (fun x u => x = q ∧ u = v) := by
  unfold f_Debts_sumOf at h
  refine w_start pn_X1 (Nat.le_of_ble_eq_true rfl) fun p e s m args below meth c hx hb hml hret hlk hnm hts hown hK hP hz hE hS ls hl => ?_
  refine lv_iconst (v := 0) hx hb dX1_sumOf_0 rfl ?_
  refine lv_istore_n (lv' := [(2, .int 0), (0, .ref (Γ.2.1 + k)), (1, .int a1)]) hx hb dX1_sumOf_1 rfl hl (by decide) rfl fun ls hl => ?_
  refine lv_iconst (v := 0) hx hb dX1_sumOf_2 rfl ?_
  refine lv_istore_n (lv' := [(3, .int 0), (2, .int 0), (0, .ref (Γ.2.1 + k)), (1, .int a1)]) hx hb dX1_sumOf_3 rfl hl (by decide) rfl fun ls hl => ?_
  have L4 : ∀ (fu : Nat) (t4 : Int32 × Int32), rp (b_Debts_sumOf_4 v k a1) fu t4 = some q → ∀ (H1 : Heap) (locs1 : List Loc) (ls1 : Array Slot), lv_has ls1 4 [(0, .ref (Γ.2.1 + k)), (1, .int a1), (2, .int t4.1), (3, .int t4.2)] → Wd Γ sh v w H1 → va_S (gA Γ sh n) s.heap H1 locs1 → H1.size = Γ.2.1 + n → wpI Γ sh w n 1 (fun x u => x = q ∧ u = v) p l e s m args below meth c H1 locs1 (F0 m 4 ls1 []) := by
    refine q_loop (fun K4 ih4 t4 h H1 locs1 ls hl hP hS hz => ?_)
    unfold b_Debts_sumOf_4 at h
    refine lv_iload_n hx hb dX1_sumOf_4 rfl (lv_at hl 3 rfl) ?_
    refine lv_bipush (v := 6) hx hb dX1_sumOf_5 rfl ?_
    refine lv_icmp_ge (tgt := 32) hx hb dX1_sumOf_7 rfl (fun hc7 => ?_) (fun hc7 => ?_)
    · have h := itt_e h hc7
      refine lv_iload_n hx hb dX1_sumOf_32 rfl (lv_at hl 2 rfl) ?_
      exact w_iret hx hb hret rfl hlk hK hP hS hz hE (q_p1 h) dX1_sumOf_33
    · have h := itf_e h hc7
      refine lv_iload_n hx hb dX1_sumOf_10 rfl (lv_at hl 2 rfl) ?_
      refine lv_aload_n hx hb dX1_sumOf_11 rfl (lv_at hl 0 rfl) ?_
      refine w_gr (k := k) (r := (k + 1)) hx hb hts hown hK hP fX1_16 hk.1 rfl dX1_sumOf_12 ?_
      refine lv_iload_n hx hb dX1_sumOf_15 rfl (lv_at hl 1 rfl) ?_
      refine lv_bipush (v := 6) hx hb dX1_sumOf_16 rfl ?_
      refine lv_imul hx hb dX1_sumOf_18 ?_
      refine lv_iload_n hx hb dX1_sumOf_19 rfl (lv_at hl 3 rfl) ?_
      refine lv_iadd hx hb dX1_sumOf_20 ?_
      obtain ⟨q21, e21, h⟩ := bnd_e h
      refine z_Vi (k := (k + 1)) (r1 := q21) (v1 := v) hx hb hml hts hown hK hP hS hz hE (C_Row_get hk.2.1 e21) kX7_get mX1_30 hk.2.1.1 rfl rfl rfl hl.1 (Nat.le_of_ble_eq_true rfl) ⟨Nat.le_of_ble_eq_true rfl, Nat.le_of_ble_eq_true rfl⟩ ⟨Nat.le_refl _, Nat.le_refl _⟩ dX1_sumOf_21 fun H1 locs1 hz hP hS => ?_
      refine lv_iadd hx hb dX1_sumOf_24 ?_
      refine lv_istore_n (lv' := [(2, .int (t4.1 + q21)), (0, .ref (Γ.2.1 + k)), (1, .int a1), (3, .int t4.2)]) hx hb dX1_sumOf_25 rfl hl (by decide) rfl fun ls hl => ?_
      refine lv_iinc (k := 3) (v := (t4.2 + 1)) (lv' := [(3, .int (t4.2 + 1)), (2, .int (t4.1 + q21)), (0, .ref (Γ.2.1 + k)), (1, .int a1)]) hx hb dX1_sumOf_26 hl rfl rfl (by decide) rfl fun ls hl => ?_
      refine lv_goto (tgt := 4) hx hb dX1_sumOf_29 rfl ?_
      exact ih4 ((t4.1 + q21), (t4.2 + 1)) h _ _ _ (lv_sub hl [2, 3, 1, 0] rfl) hP hS hz
  exact L4 z (0, 0) h _ _ _ (lv_sub hl [2, 3, 1, 0] rfl) hP hS hz
def b_Debts_sumOwedTo_4 (v : Va) (k : Nat) (a1 : Int32) (K4 : (Int32 × Int32) → Option Int32) (t4 : Int32 × Int32) : Option Int32 := if 6 ≤ t4.2 then (some t4.1) else (bnd (row_g 36 (v (k + 2)) ((t4.2 * 6) + a1)) fun q21 => K4 ((t4.1 + q21), (t4.2 + 1)))
def f_Debts_sumOwedTo (z : Nat) (v : Va) (k : Nat) (a1 : Int32) : Option Int32 := rp (b_Debts_sumOwedTo_4 v k a1) z (0, 0)
theorem c_Debts_sumOwedTo {k : Nat} {a1 : Int32} (hk : isDebts sh k) {q : Int32} (h : f_Debts_sumOwedTo z v k a1 = some q) : MetI l yX1_sumOwedTo cX1_sumOwedTo 4 (some .int) 1 Γ sh v w n [.ref (Γ.2.1 + k), .int a1] (fun x u => x = q ∧ u = v) := by
  unfold f_Debts_sumOwedTo at h
  refine w_start pn_X1 (Nat.le_of_ble_eq_true rfl) fun p e s m args below meth c hx hb hml hret hlk hnm hts hown hK hP hz hE hS ls hl => ?_
  refine lv_iconst (v := 0) hx hb dX1_sumOwedTo_0 rfl ?_
  refine lv_istore_n (lv' := [(2, .int 0), (0, .ref (Γ.2.1 + k)), (1, .int a1)]) hx hb dX1_sumOwedTo_1 rfl hl (by decide) rfl fun ls hl => ?_
  refine lv_iconst (v := 0) hx hb dX1_sumOwedTo_2 rfl ?_
  refine lv_istore_n (lv' := [(3, .int 0), (2, .int 0), (0, .ref (Γ.2.1 + k)), (1, .int a1)]) hx hb dX1_sumOwedTo_3 rfl hl (by decide) rfl fun ls hl => ?_
  have L4 : ∀ (fu : Nat) (t4 : Int32 × Int32), rp (b_Debts_sumOwedTo_4 v k a1) fu t4 = some q → ∀ (H1 : Heap) (locs1 : List Loc) (ls1 : Array Slot), lv_has ls1 4 [(0, .ref (Γ.2.1 + k)), (1, .int a1), (2, .int t4.1), (3, .int t4.2)] → Wd Γ sh v w H1 → va_S (gA Γ sh n) s.heap H1 locs1 → H1.size = Γ.2.1 + n → wpI Γ sh w n 1 (fun x u => x = q ∧ u = v) p l e s m args below meth c H1 locs1 (F0 m 4 ls1 []) := by
    refine q_loop (fun K4 ih4 t4 h H1 locs1 ls hl hP hS hz => ?_)
    unfold b_Debts_sumOwedTo_4 at h
    refine lv_iload_n hx hb dX1_sumOwedTo_4 rfl (lv_at hl 3 rfl) ?_
    refine lv_bipush (v := 6) hx hb dX1_sumOwedTo_5 rfl ?_
    refine lv_icmp_ge (tgt := 32) hx hb dX1_sumOwedTo_7 rfl (fun hc7 => ?_) (fun hc7 => ?_)
    · have h := itt_e h hc7
      refine lv_iload_n hx hb dX1_sumOwedTo_32 rfl (lv_at hl 2 rfl) ?_
      exact w_iret hx hb hret rfl hlk hK hP hS hz hE (q_p1 h) dX1_sumOwedTo_33
    · have h := itf_e h hc7
      refine lv_iload_n hx hb dX1_sumOwedTo_10 rfl (lv_at hl 2 rfl) ?_
      refine lv_aload_n hx hb dX1_sumOwedTo_11 rfl (lv_at hl 0 rfl) ?_
      refine w_gr (k := k) (r := (k + 1)) hx hb hts hown hK hP fX1_16 hk.1 rfl dX1_sumOwedTo_12 ?_
      refine lv_iload_n hx hb dX1_sumOwedTo_15 rfl (lv_at hl 3 rfl) ?_
      refine lv_bipush (v := 6) hx hb dX1_sumOwedTo_16 rfl ?_
      refine lv_imul hx hb dX1_sumOwedTo_18 ?_
      refine lv_iload_n hx hb dX1_sumOwedTo_19 rfl (lv_at hl 1 rfl) ?_
      refine lv_iadd hx hb dX1_sumOwedTo_20 ?_
      obtain ⟨q21, e21, h⟩ := bnd_e h
      refine z_Vi (k := (k + 1)) (r1 := q21) (v1 := v) hx hb hml hts hown hK hP hS hz hE (C_Row_get hk.2.1 e21) kX7_get mX1_30 hk.2.1.1 rfl rfl rfl hl.1 (Nat.le_of_ble_eq_true rfl) ⟨Nat.le_of_ble_eq_true rfl, Nat.le_of_ble_eq_true rfl⟩ ⟨Nat.le_refl _, Nat.le_refl _⟩ dX1_sumOwedTo_21 fun H1 locs1 hz hP hS => ?_
      refine lv_iadd hx hb dX1_sumOwedTo_24 ?_
      refine lv_istore_n (lv' := [(2, .int (t4.1 + q21)), (0, .ref (Γ.2.1 + k)), (1, .int a1), (3, .int t4.2)]) hx hb dX1_sumOwedTo_25 rfl hl (by decide) rfl fun ls hl => ?_
      refine lv_iinc (k := 3) (v := (t4.2 + 1)) (lv' := [(3, .int (t4.2 + 1)), (2, .int (t4.1 + q21)), (0, .ref (Γ.2.1 + k)), (1, .int a1)]) hx hb dX1_sumOwedTo_26 hl rfl rfl (by decide) rfl fun ls hl => ?_
      refine lv_goto (tgt := 4) hx hb dX1_sumOwedTo_29 rfl ?_
      exact ih4 ((t4.1 + q21), (t4.2 + 1)) h _ _ _ (lv_sub hl [2, 3, 1, 0] rfl) hP hS hz
  exact L4 z (0, 0) h _ _ _ (lv_sub hl [2, 3, 1, 0] rfl) hP hS hz
def f_Debts_sumOfAll (v : Va) (k : Nat) : Option Int32 := bnd (row_t (v (k + 2)) 36) fun q4 => some q4
theorem c_Debts_sumOfAll {k : Nat} (hk : isDebts sh k) {q : Int32} (h : f_Debts_sumOfAll v k = some q) : MetI l yX1_sumOfAll cX1_sumOfAll 1 (some .int) 1 Γ sh v w n [.ref (Γ.2.1 + k)] (fun x u => x = q ∧ u = v) := by
  unfold f_Debts_sumOfAll at h
  refine w_start pn_X1 (Nat.le_of_ble_eq_true rfl) fun p e s m args below meth c hx hb hml hret hlk hnm hts hown hK hP hz hE hS ls hl => ?_
  refine lv_aload_n hx hb dX1_sumOfAll_0 rfl (lv_at hl 0 rfl) ?_
  refine w_gr (k := k) (r := (k + 1)) hx hb hts hown hK hP fX1_16 hk.1 rfl dX1_sumOfAll_1 ?_
  obtain ⟨q4, e4, h⟩ := bnd_e h
  refine z_Vi (k := (k + 1)) (r1 := q4) (v1 := v) hx hb hml hts hown hK hP hS hz hE (C_Row_sum hk.2.1 e4) kX7_sum mX1_45 hk.2.1.1 rfl rfl rfl hl.1 (Nat.le_of_ble_eq_true rfl) ⟨Nat.le_of_ble_eq_true rfl, Nat.le_of_ble_eq_true rfl⟩ ⟨Nat.le_refl _, Nat.le_refl _⟩ dX1_sumOfAll_4 fun H1 locs1 hz hP hS => ?_
  exact w_iret hx hb hret rfl hlk hK hP hS hz hE (q_p1 h) dX1_sumOfAll_7
def j_Debts_reachBy_59 (K10 : (Int32 × Va) → Option Va) (t10 : Int32 × Va) (v59 : Va) : Option Va := K10 ((t10.1 + 1), v59)
def b_Debts_reachBy_10 (k : Nat) (a1 : Int32) (K2 : (Int32 × Va) → Option Va) (t2 : Int32 × Va) (K10 : (Int32 × Va) → Option Va) (t10 : Int32 × Va) : Option Va := if 6 ≤ t10.1 then (K2 ((t2.1 + 1), t10.2)) else (bnd (row_g 6 (t10.2 (k + 4)) t2.1) fun q21 => if q21 = (a1 - 1) then (bnd (row_g 6 (t10.2 (k + 4)) t10.1) fun q35 => if 0 ≤ q35 then (j_Debts_reachBy_59 K10 t10 t10.2) else ((f_Debts_between t10.2 k t2.1 t10.1).bind fun q44 => if q44 ≤ 0 then (j_Debts_reachBy_59 K10 t10 t10.2) else (bnd (up t10.2 (k + 4) (row_s 6 (t10.2 (k + 4)) t10.1 a1)) fun q56 => j_Debts_reachBy_59 K10 t10 q56))) else (j_Debts_reachBy_59 K10 t10 t10.2))
def b_Debts_reachBy_2 (z : Nat) (k : Nat) (a1 : Int32) (K2 : (Int32 × Va) → Option Va) (t2 : Int32 × Va) : Option Va := if 6 ≤ t2.1 then (some t2.2) else (rp (b_Debts_reachBy_10 k a1 K2 t2) z (0, t2.2))
def f_Debts_reachBy (z : Nat) (v : Va) (k : Nat) (a1 : Int32) : Option Va := rp (b_Debts_reachBy_2 z k a1) z (0, v)
theorem c_Debts_reachBy {k : Nat} {a1 : Int32} (hk : isDebts sh k) {q : Va} (h : f_Debts_reachBy z v k a1 = some q) : MetV l yX1_reachBy cX1_reachBy 4 none 2 Γ sh v w n [.ref (Γ.2.1 + k), .int a1] (fun u => u = q) := by
  unfold f_Debts_reachBy at h
  refine w_start pn_X1 (Nat.le_of_ble_eq_true rfl) fun p e s m args below meth c hx hb hml hret hlk hnm hts hown hK hP hz hE hS ls hl => ?_
  refine lv_iconst (v := 0) hx hb dX1_reachBy_0 rfl ?_
  refine lv_istore_n (lv' := [(2, .int 0), (0, .ref (Γ.2.1 + k)), (1, .int a1)]) hx hb dX1_reachBy_1 rfl hl (by decide) rfl fun ls hl => ?_
  have L2 : ∀ (fu : Nat) (t2 : Int32 × Va), rp (b_Debts_reachBy_2 z k a1) fu t2 = some q → ∀ (H1 : Heap) (locs1 : List Loc) (ls1 : Array Slot), lv_has ls1 4 [(0, .ref (Γ.2.1 + k)), (1, .int a1), (2, .int t2.1)] → Wd Γ sh t2.2 w H1 → va_S (gA Γ sh n) s.heap H1 locs1 → H1.size = Γ.2.1 + n → wpV Γ sh w n 2 (fun u => u = q) p l e s m args below meth c H1 locs1 (F0 m 2 ls1 []) := by
    refine q_loop (fun K2 ih2 t2 h H1 locs1 ls hl hP hS hz => ?_)
    unfold b_Debts_reachBy_2 at h
    refine lv_iload_n hx hb dX1_reachBy_2 rfl (lv_at hl 2 rfl) ?_
    refine lv_bipush (v := 6) hx hb dX1_reachBy_3 rfl ?_
    refine lv_icmp_ge (tgt := 71) hx hb dX1_reachBy_5 rfl (fun hc5 => ?_) (fun hc5 => ?_)
    · have h := itt_e h hc5
      exact w_vret hx hb hret hlk hK hP hS hz hE (Option.some.inj h) dX1_reachBy_71
    · have h := itf_e h hc5
      refine lv_iconst (v := 0) hx hb dX1_reachBy_8 rfl ?_
      refine lv_istore_n (lv' := [(3, .int 0), (0, .ref (Γ.2.1 + k)), (1, .int a1), (2, .int t2.1)]) hx hb dX1_reachBy_9 rfl hl (by decide) rfl fun ls hl => ?_
      have L10 : ∀ (fu : Nat) (t10 : Int32 × Va), rp (b_Debts_reachBy_10 k a1 K2 t2) fu t10 = some q → ∀ (H1 : Heap) (locs1 : List Loc) (ls1 : Array Slot), lv_has ls1 4 [(0, .ref (Γ.2.1 + k)), (1, .int a1), (2, .int t2.1), (3, .int t10.1)] → Wd Γ sh t10.2 w H1 → va_S (gA Γ sh n) s.heap H1 locs1 → H1.size = Γ.2.1 + n → wpV Γ sh w n 2 (fun u => u = q) p l e s m args below meth c H1 locs1 (F0 m 10 ls1 []) := by
        refine q_loop (fun K10 ih10 t10 h H1 locs1 ls hl hP hS hz => ?_)
        unfold b_Debts_reachBy_10 at h
        refine lv_iload_n hx hb dX1_reachBy_10 rfl (lv_at hl 3 rfl) ?_
        refine lv_bipush (v := 6) hx hb dX1_reachBy_11 rfl ?_
        refine lv_icmp_ge (tgt := 65) hx hb dX1_reachBy_13 rfl (fun hc13 => ?_) (fun hc13 => ?_)
        · have h := itt_e h hc13
          refine lv_iinc (k := 2) (v := (t2.1 + 1)) (lv' := [(2, .int (t2.1 + 1)), (0, .ref (Γ.2.1 + k)), (1, .int a1), (3, .int t10.1)]) hx hb dX1_reachBy_65 hl rfl rfl (by decide) rfl fun ls hl => ?_
          refine lv_goto (tgt := 2) hx hb dX1_reachBy_68 rfl ?_
          exact ih2 ((t2.1 + 1), t10.2) h _ _ _ (lv_sub hl [1, 2, 0] rfl) hP hS hz
        · have h := itf_e h hc13
          refine lv_aload_n hx hb dX1_reachBy_16 rfl (lv_at hl 0 rfl) ?_
          refine w_gr (k := k) (r := (k + 3)) hx hb hts hown hK hP fX1_20 hk.1 rfl dX1_reachBy_17 ?_
          refine lv_iload_n hx hb dX1_reachBy_20 rfl (lv_at hl 2 rfl) ?_
          obtain ⟨q21, e21, h⟩ := bnd_e h
          refine z_Vi (k := (k + 3)) (r1 := q21) (v1 := t10.2) hx hb hml hts hown hK hP hS hz hE (C_Row_get hk.2.2 e21) kX7_get mX1_30 hk.2.2.1 rfl rfl rfl hl.1 (Nat.le_of_ble_eq_true rfl) ⟨Nat.le_of_ble_eq_true rfl, Nat.le_of_ble_eq_true rfl⟩ ⟨Nat.le_refl _, Nat.le_refl _⟩ dX1_reachBy_21 fun H1 locs1 hz hP hS => ?_
          refine lv_iload_n hx hb dX1_reachBy_24 rfl (lv_at hl 1 rfl) ?_
          refine lv_iconst (v := 1) hx hb dX1_reachBy_25 rfl ?_
          refine lv_isub hx hb dX1_reachBy_26 ?_
          have J59 : ∀ (v59 : Va), (j_Debts_reachBy_59 K10 t10) v59 = some q → ∀ (H1 : Heap) (locs1 : List Loc) (ls1 : Array Slot), lv_has ls1 4 [(0, .ref (Γ.2.1 + k)), (1, .int a1), (2, .int t2.1), (3, .int t10.1)] → Wd Γ sh v59 w H1 → va_S (gA Γ sh n) s.heap H1 locs1 → H1.size = Γ.2.1 + n → wpV Γ sh w n 2 (fun u => u = q) p l e s m args below meth c H1 locs1 (F0 m 59 ls1 []) := by
            intro v59 h H1 locs1 ls hl hP hS hz
            unfold j_Debts_reachBy_59 at h
            refine lv_iinc (k := 3) (v := (t10.1 + 1)) (lv' := [(3, .int (t10.1 + 1)), (0, .ref (Γ.2.1 + k)), (1, .int a1), (2, .int t2.1)]) hx hb dX1_reachBy_59 hl rfl rfl (by decide) rfl fun ls hl => ?_
            refine lv_goto (tgt := 10) hx hb dX1_reachBy_62 rfl ?_
            exact ih10 ((t10.1 + 1), v59) h _ _ _ (lv_sub hl [1, 2, 3, 0] rfl) hP hS hz
          refine lv_icmp_ne (tgt := 59) hx hb dX1_reachBy_27 rfl (fun hc27 => ?_) (fun hc27 => ?_)
          · have h := itf_e h hc27
            exact J59 t10.2 h _ _ _ (lv_sub hl [0, 1, 2, 3] rfl) hP hS hz
          · have h := itt_e h hc27
            refine lv_aload_n hx hb dX1_reachBy_30 rfl (lv_at hl 0 rfl) ?_
            refine w_gr (k := k) (r := (k + 3)) hx hb hts hown hK hP fX1_20 hk.1 rfl dX1_reachBy_31 ?_
            refine lv_iload_n hx hb dX1_reachBy_34 rfl (lv_at hl 3 rfl) ?_
            obtain ⟨q35, e35, h⟩ := bnd_e h
            refine z_Vi (k := (k + 3)) (r1 := q35) (v1 := t10.2) hx hb hml hts hown hK hP hS hz hE (C_Row_get hk.2.2 e35) kX7_get mX1_30 hk.2.2.1 rfl rfl rfl hl.1 (Nat.le_of_ble_eq_true rfl) ⟨Nat.le_of_ble_eq_true rfl, Nat.le_of_ble_eq_true rfl⟩ ⟨Nat.le_refl _, Nat.le_refl _⟩ dX1_reachBy_35 fun H1 locs1 hz hP hS => ?_
            refine lv_if_ge (tgt := 59) hx hb dX1_reachBy_38 rfl (fun hc38 => ?_) (fun hc38 => ?_)
            · have h := itt_e h hc38
              exact J59 t10.2 h _ _ _ (lv_sub hl [0, 1, 2, 3] rfl) hP hS hz
            · have h := itf_e h hc38
              refine lv_aload_n hx hb dX1_reachBy_41 rfl (lv_at hl 0 rfl) ?_
              refine lv_iload_n hx hb dX1_reachBy_42 rfl (lv_at hl 2 rfl) ?_
              refine lv_iload_n hx hb dX1_reachBy_43 rfl (lv_at hl 3 rfl) ?_
              obtain ⟨q44, e44, h⟩ := obn_e h
              refine z_Vi (k := k) (r1 := q44) (v1 := t10.2) hx hb hml hts hown hK hP hS hz hE (c_Debts_between hk e44) kX1_between mX1_52 hk.1 rfl rfl rfl hl.1 (Nat.le_of_ble_eq_true rfl) ⟨Nat.le_of_ble_eq_true rfl, Nat.le_of_ble_eq_true rfl⟩ ⟨Nat.le_refl _, Nat.le_refl _⟩ dX1_reachBy_44 fun H1 locs1 hz hP hS => ?_
              refine lv_if_le (tgt := 59) hx hb dX1_reachBy_47 rfl (fun hc47 => ?_) (fun hc47 => ?_)
              · have h := itt_e h hc47
                exact J59 t10.2 h _ _ _ (lv_sub hl [0, 1, 2, 3] rfl) hP hS hz
              · have h := itf_e h hc47
                refine lv_aload_n hx hb dX1_reachBy_50 rfl (lv_at hl 0 rfl) ?_
                refine w_gr (k := k) (r := (k + 3)) hx hb hts hown hK hP fX1_20 hk.1 rfl dX1_reachBy_51 ?_
                refine lv_iload_n hx hb dX1_reachBy_54 rfl (lv_at hl 3 rfl) ?_
                refine lv_iload_n hx hb dX1_reachBy_55 rfl (lv_at hl 1 rfl) ?_
                obtain ⟨q56, e56, h⟩ := bnd_e h
                refine z_Vv (k := (k + 3)) (v1 := q56) hx hb hml hts hown hK hP hS hz hE (C_Row_set hk.2.2 e56) kX7_set mX1_41 hk.2.2.1 rfl rfl rfl hl.1 (Nat.le_of_ble_eq_true rfl) ⟨Nat.le_of_ble_eq_true rfl, Nat.le_of_ble_eq_true rfl⟩ ⟨Nat.le_refl _, Nat.le_refl _⟩ dX1_reachBy_56 fun H1 locs1 hz hP hS => ?_
                exact J59 q56 h _ _ _ (lv_sub hl [0, 1, 2, 3] rfl) hP hS hz
      exact L10 z (0, t2.2) h _ _ _ (lv_sub hl [1, 2, 3, 0] rfl) hP hS hz
  exact L2 z (0, v) h _ _ _ (lv_sub hl [1, 2, 0] rfl) hP hS hz
def b_Debts_fewestFromTo_19 (z : Nat) (k : Nat) (a2 : Int32) (K19 : (Int32 × Va) → Option (Int32 × Va)) (t19 : Int32 × Va) : Option (Int32 × Va) := if 6 ≤ t19.1 then (bnd (row_g 6 (t19.2 (k + 4)) a2) fun q41 => some (q41, t19.2)) else ((f_Debts_reachBy z t19.2 k t19.1).bind fun q27 => K19 ((t19.1 + 1), q27))
def f_Debts_fewestFromTo (z : Nat) (v : Va) (k : Nat) (a1 : Int32) (a2 : Int32) : Option (Int32 × Va) := bnd (up v (k + 4) (row_f 6 (v (k + 4)) (-1))) fun q5 => bnd (up q5 (k + 4) (row_s 6 (q5 (k + 4)) a1 0)) fun q14 => rp (b_Debts_fewestFromTo_19 z k a2) z (1, q14)
theorem c_Debts_fewestFromTo {k : Nat} {a1 : Int32} {a2 : Int32} (hk : isDebts sh k) {q : Int32 × Va} (h : f_Debts_fewestFromTo z v k a1 a2 = some q) : MetI l yX1_fewestFromTo cX1_fewestFromTo 4 (some .int) 3 Γ sh v w n [.ref (Γ.2.1 + k), .int a1, .int a2] (fun x u => x = q.1 ∧ u = q.2) := by
  unfold f_Debts_fewestFromTo at h
  refine w_start pn_X1 (Nat.le_of_ble_eq_true rfl) fun p e s m args below meth c hx hb hml hret hlk hnm hts hown hK hP hz hE hS ls hl => ?_
  refine lv_aload_n hx hb dX1_fewestFromTo_0 rfl (lv_at hl 0 rfl) ?_
  refine w_gr (k := k) (r := (k + 3)) hx hb hts hown hK hP fX1_20 hk.1 rfl dX1_fewestFromTo_1 ?_
  refine lv_iconst (v := (-1)) hx hb dX1_fewestFromTo_4 rfl ?_
  obtain ⟨q5, e5, h⟩ := bnd_e h
  refine z_Vv (k := (k + 3)) (v1 := q5) hx hb hml hts hown hK hP hS hz hE (C_Row_fill hk.2.2 e5) kX7_fill mX1_23 hk.2.2.1 rfl rfl rfl hl.1 (Nat.le_of_ble_eq_true rfl) ⟨Nat.le_of_ble_eq_true rfl, Nat.le_of_ble_eq_true rfl⟩ ⟨Nat.le_refl _, Nat.le_refl _⟩ dX1_fewestFromTo_5 fun H1 locs1 hz hP hS => ?_
  refine lv_aload_n hx hb dX1_fewestFromTo_8 rfl (lv_at hl 0 rfl) ?_
  refine w_gr (k := k) (r := (k + 3)) hx hb hts hown hK hP fX1_20 hk.1 rfl dX1_fewestFromTo_9 ?_
  refine lv_iload_n hx hb dX1_fewestFromTo_12 rfl (lv_at hl 1 rfl) ?_
  refine lv_iconst (v := 0) hx hb dX1_fewestFromTo_13 rfl ?_
  obtain ⟨q14, e14, h⟩ := bnd_e h
  refine z_Vv (k := (k + 3)) (v1 := q14) hx hb hml hts hown hK hP hS hz hE (C_Row_set hk.2.2 e14) kX7_set mX1_41 hk.2.2.1 rfl rfl rfl hl.1 (Nat.le_of_ble_eq_true rfl) ⟨Nat.le_of_ble_eq_true rfl, Nat.le_of_ble_eq_true rfl⟩ ⟨Nat.le_refl _, Nat.le_refl _⟩ dX1_fewestFromTo_14 fun H1 locs1 hz hP hS => ?_
  refine lv_iconst (v := 1) hx hb dX1_fewestFromTo_17 rfl ?_
  refine lv_istore_n (lv' := [(3, .int 1), (0, .ref (Γ.2.1 + k)), (1, .int a1), (2, .int a2)]) hx hb dX1_fewestFromTo_18 rfl hl (by decide) rfl fun ls hl => ?_
  have L19 : ∀ (fu : Nat) (t19 : Int32 × Va), rp (b_Debts_fewestFromTo_19 z k a2) fu t19 = some q → ∀ (H1 : Heap) (locs1 : List Loc) (ls1 : Array Slot), lv_has ls1 4 [(0, .ref (Γ.2.1 + k)), (2, .int a2), (3, .int t19.1)] → Wd Γ sh t19.2 w H1 → va_S (gA Γ sh n) s.heap H1 locs1 → H1.size = Γ.2.1 + n → wpI Γ sh w n 3 (fun x u => x = q.1 ∧ u = q.2) p l e s m args below meth c H1 locs1 (F0 m 19 ls1 []) := by
    refine q_loop (fun K19 ih19 t19 h H1 locs1 ls hl hP hS hz => ?_)
    unfold b_Debts_fewestFromTo_19 at h
    refine lv_iload_n hx hb dX1_fewestFromTo_19 rfl (lv_at hl 2 rfl) ?_
    refine lv_bipush (v := 6) hx hb dX1_fewestFromTo_20 rfl ?_
    refine lv_icmp_ge (tgt := 36) hx hb dX1_fewestFromTo_22 rfl (fun hc22 => ?_) (fun hc22 => ?_)
    · have h := itt_e h hc22
      refine lv_aload_n hx hb dX1_fewestFromTo_36 rfl (lv_at hl 0 rfl) ?_
      refine w_gr (k := k) (r := (k + 3)) hx hb hts hown hK hP fX1_20 hk.1 rfl dX1_fewestFromTo_37 ?_
      refine lv_iload_n hx hb dX1_fewestFromTo_40 rfl (lv_at hl 1 rfl) ?_
      obtain ⟨q41, e41, h⟩ := bnd_e h
      refine z_Vi (k := (k + 3)) (r1 := q41) (v1 := t19.2) hx hb hml hts hown hK hP hS hz hE (C_Row_get hk.2.2 e41) kX7_get mX1_30 hk.2.2.1 rfl rfl rfl hl.1 (Nat.le_of_ble_eq_true rfl) ⟨Nat.le_of_ble_eq_true rfl, Nat.le_of_ble_eq_true rfl⟩ ⟨Nat.le_refl _, Nat.le_refl _⟩ dX1_fewestFromTo_41 fun H1 locs1 hz hP hS => ?_
      exact w_iret hx hb hret rfl hlk hK hP hS hz hE (q_p2 h) dX1_fewestFromTo_44
    · have h := itf_e h hc22
      refine lv_aload_n hx hb dX1_fewestFromTo_25 rfl (lv_at hl 0 rfl) ?_
      refine lv_iload_n hx hb dX1_fewestFromTo_26 rfl (lv_at hl 2 rfl) ?_
      obtain ⟨q27, e27, h⟩ := obn_e h
      refine z_Vv (k := k) (v1 := q27) hx hb hml hts hown hK hP hS hz hE (c_Debts_reachBy hk e27) kX1_reachBy mX1_49 hk.1 rfl rfl rfl hl.1 (Nat.le_of_ble_eq_true rfl) ⟨Nat.le_of_ble_eq_true rfl, Nat.le_of_ble_eq_true rfl⟩ ⟨Nat.le_refl _, Nat.le_refl _⟩ dX1_fewestFromTo_27 fun H1 locs1 hz hP hS => ?_
      refine lv_iinc (k := 2) (v := (t19.1 + 1)) (lv' := [(3, .int (t19.1 + 1)), (0, .ref (Γ.2.1 + k)), (2, .int a2)]) hx hb dX1_fewestFromTo_30 hl rfl rfl (by decide) rfl fun ls hl => ?_
      refine lv_goto (tgt := 19) hx hb dX1_fewestFromTo_33 rfl ?_
      exact ih19 ((t19.1 + 1), q27) h _ _ _ (lv_sub hl [1, 2, 0] rfl) hP hS hz
  exact L19 z (1, q14) h _ _ _ (lv_sub hl [1, 3, 0] rfl) hP hS hz
def b_Debts_widen_10 (k : Nat) (K2 : (Int32 × Va) → Option Va) (t2 : Int32 × Va) (K10 : (Int32 × Va) → Option Va) (t10 : Int32 × Va) : Option Va := if 6 ≤ t10.1 then (K2 ((t2.1 + 1), t10.2)) else (bnd (row_g 6 (t10.2 (k + 4)) t2.1) fun q21 => (f_Debts_between t10.2 k t2.1 t10.1).bind fun q27 => bnd (row_g 6 (t10.2 (k + 4)) t10.1) fun q44 => bnd (up t10.2 (k + 4) (row_s 6 (t10.2 (k + 4)) t10.1 (q_max q44 (q_min q21 q27)))) fun q51 => K10 ((t10.1 + 1), q51))
def b_Debts_widen_2 (z : Nat) (k : Nat) (K2 : (Int32 × Va) → Option Va) (t2 : Int32 × Va) : Option Va := if 6 ≤ t2.1 then (some t2.2) else (rp (b_Debts_widen_10 k K2 t2) z (0, t2.2))
def f_Debts_widen (z : Nat) (v : Va) (k : Nat) : Option Va := rp (b_Debts_widen_2 z k) z (0, v)
theorem c_Debts_widen {k : Nat} (hk : isDebts sh k) {q : Va} (h : f_Debts_widen z v k = some q) : MetV l yX1_widen cX1_widen 4 none 2 Γ sh v w n [.ref (Γ.2.1 + k)] (fun u => u = q) := by
  unfold f_Debts_widen at h
  refine w_start pn_X1 (Nat.le_of_ble_eq_true rfl) fun p e s m args below meth c hx hb hml hret hlk hnm hts hown hK hP hz hE hS ls hl => ?_
  refine lv_iconst (v := 0) hx hb dX1_widen_0 rfl ?_
  refine lv_istore_n (lv' := [(1, .int 0), (0, .ref (Γ.2.1 + k))]) hx hb dX1_widen_1 rfl hl (by decide) rfl fun ls hl => ?_
  have L2 : ∀ (fu : Nat) (t2 : Int32 × Va), rp (b_Debts_widen_2 z k) fu t2 = some q → ∀ (H1 : Heap) (locs1 : List Loc) (ls1 : Array Slot), lv_has ls1 4 [(0, .ref (Γ.2.1 + k)), (1, .int t2.1)] → Wd Γ sh t2.2 w H1 → va_S (gA Γ sh n) s.heap H1 locs1 → H1.size = Γ.2.1 + n → wpV Γ sh w n 2 (fun u => u = q) p l e s m args below meth c H1 locs1 (F0 m 2 ls1 []) := by
    refine q_loop (fun K2 ih2 t2 h H1 locs1 ls hl hP hS hz => ?_)
    unfold b_Debts_widen_2 at h
    refine lv_iload_n hx hb dX1_widen_2 rfl (lv_at hl 1 rfl) ?_
    refine lv_bipush (v := 6) hx hb dX1_widen_3 rfl ?_
    refine lv_icmp_ge (tgt := 66) hx hb dX1_widen_5 rfl (fun hc5 => ?_) (fun hc5 => ?_)
    · have h := itt_e h hc5
      exact w_vret hx hb hret hlk hK hP hS hz hE (Option.some.inj h) dX1_widen_66
    · have h := itf_e h hc5
      refine lv_iconst (v := 0) hx hb dX1_widen_8 rfl ?_
      refine lv_istore_n (lv' := [(2, .int 0), (0, .ref (Γ.2.1 + k)), (1, .int t2.1)]) hx hb dX1_widen_9 rfl hl (by decide) rfl fun ls hl => ?_
      have L10 : ∀ (fu : Nat) (t10 : Int32 × Va), rp (b_Debts_widen_10 k K2 t2) fu t10 = some q → ∀ (H1 : Heap) (locs1 : List Loc) (ls1 : Array Slot), lv_has ls1 4 [(0, .ref (Γ.2.1 + k)), (1, .int t2.1), (2, .int t10.1)] → Wd Γ sh t10.2 w H1 → va_S (gA Γ sh n) s.heap H1 locs1 → H1.size = Γ.2.1 + n → wpV Γ sh w n 2 (fun u => u = q) p l e s m args below meth c H1 locs1 (F0 m 10 ls1 []) := by
        refine q_loop (fun K10 ih10 t10 h H1 locs1 ls hl hP hS hz => ?_)
        unfold b_Debts_widen_10 at h
        refine lv_iload_n hx hb dX1_widen_10 rfl (lv_at hl 2 rfl) ?_
        refine lv_bipush (v := 6) hx hb dX1_widen_11 rfl ?_
        refine lv_icmp_ge (tgt := 60) hx hb dX1_widen_13 rfl (fun hc13 => ?_) (fun hc13 => ?_)
        · have h := itt_e h hc13
          refine lv_iinc (k := 1) (v := (t2.1 + 1)) (lv' := [(1, .int (t2.1 + 1)), (0, .ref (Γ.2.1 + k)), (2, .int t10.1)]) hx hb dX1_widen_60 hl rfl rfl (by decide) rfl fun ls hl => ?_
          refine lv_goto (tgt := 2) hx hb dX1_widen_63 rfl ?_
          exact ih2 ((t2.1 + 1), t10.2) h _ _ _ (lv_sub hl [1, 0] rfl) hP hS hz
        · have h := itf_e h hc13
          refine lv_aload_n hx hb dX1_widen_16 rfl (lv_at hl 0 rfl) ?_
          refine w_gr (k := k) (r := (k + 3)) hx hb hts hown hK hP fX1_20 hk.1 rfl dX1_widen_17 ?_
          refine lv_iload_n hx hb dX1_widen_20 rfl (lv_at hl 1 rfl) ?_
          obtain ⟨q21, e21, h⟩ := bnd_e h
          refine z_Vi (k := (k + 3)) (r1 := q21) (v1 := t10.2) hx hb hml hts hown hK hP hS hz hE (C_Row_get hk.2.2 e21) kX7_get mX1_30 hk.2.2.1 rfl rfl rfl hl.1 (Nat.le_of_ble_eq_true rfl) ⟨Nat.le_of_ble_eq_true rfl, Nat.le_of_ble_eq_true rfl⟩ ⟨Nat.le_refl _, Nat.le_refl _⟩ dX1_widen_21 fun H1 locs1 hz hP hS => ?_
          refine lv_aload_n hx hb dX1_widen_24 rfl (lv_at hl 0 rfl) ?_
          refine lv_iload_n hx hb dX1_widen_25 rfl (lv_at hl 1 rfl) ?_
          refine lv_iload_n hx hb dX1_widen_26 rfl (lv_at hl 2 rfl) ?_
          obtain ⟨q27, e27, h⟩ := obn_e h
          refine z_Vi (k := k) (r1 := q27) (v1 := t10.2) hx hb hml hts hown hK hP hS hz hE (c_Debts_between hk e27) kX1_between mX1_52 hk.1 rfl rfl rfl hl.1 (Nat.le_of_ble_eq_true rfl) ⟨Nat.le_of_ble_eq_true rfl, Nat.le_of_ble_eq_true rfl⟩ ⟨Nat.le_refl _, Nat.le_refl _⟩ dX1_widen_27 fun H1 locs1 hz hP hS => ?_
          refine z_mmin hx hb hml hl.1 hts hown xX1_35 ⟨Nat.le_of_ble_eq_true rfl, Nat.le_of_ble_eq_true rfl⟩ (Nat.le_of_ble_eq_true rfl) ⟨Nat.le_refl _, Nat.le_refl _⟩ dX1_widen_30 ?_
          refine lv_istore_n (lv' := [(3, .int (q_min q21 q27)), (0, .ref (Γ.2.1 + k)), (1, .int t2.1), (2, .int t10.1)]) hx hb dX1_widen_33 rfl hl (by decide) rfl fun ls hl => ?_
          refine lv_aload_n hx hb dX1_widen_34 rfl (lv_at hl 1 rfl) ?_
          refine w_gr (k := k) (r := (k + 3)) hx hb hts hown hK hP fX1_20 hk.1 rfl dX1_widen_35 ?_
          refine lv_iload_n hx hb dX1_widen_38 rfl (lv_at hl 3 rfl) ?_
          refine lv_aload_n hx hb dX1_widen_39 rfl (lv_at hl 1 rfl) ?_
          refine w_gr (k := k) (r := (k + 3)) hx hb hts hown hK hP fX1_20 hk.1 rfl dX1_widen_40 ?_
          refine lv_iload_n hx hb dX1_widen_43 rfl (lv_at hl 3 rfl) ?_
          obtain ⟨q44, e44, h⟩ := bnd_e h
          refine z_Vi (k := (k + 3)) (r1 := q44) (v1 := t10.2) hx hb hml hts hown hK hP hS hz hE (C_Row_get hk.2.2 e44) kX7_get mX1_30 hk.2.2.1 rfl rfl rfl hl.1 (Nat.le_of_ble_eq_true rfl) ⟨Nat.le_of_ble_eq_true rfl, Nat.le_of_ble_eq_true rfl⟩ ⟨Nat.le_refl _, Nat.le_refl _⟩ dX1_widen_44 fun H1 locs1 hz hP hS => ?_
          refine lv_iload_n hx hb dX1_widen_47 rfl (lv_at hl 0 rfl) ?_
          refine z_mmax hx hb hml hl.1 hts hown xX1_58 ⟨Nat.le_of_ble_eq_true rfl, Nat.le_of_ble_eq_true rfl⟩ (Nat.le_of_ble_eq_true rfl) ⟨Nat.le_refl _, Nat.le_refl _⟩ dX1_widen_48 ?_
          obtain ⟨q51, e51, h⟩ := bnd_e h
          refine z_Vv (k := (k + 3)) (v1 := q51) hx hb hml hts hown hK hP hS hz hE (C_Row_set hk.2.2 e51) kX7_set mX1_41 hk.2.2.1 rfl rfl rfl hl.1 (Nat.le_of_ble_eq_true rfl) ⟨Nat.le_of_ble_eq_true rfl, Nat.le_of_ble_eq_true rfl⟩ ⟨Nat.le_refl _, Nat.le_refl _⟩ dX1_widen_51 fun H1 locs1 hz hP hS => ?_
          refine lv_iinc (k := 3) (v := (t10.1 + 1)) (lv' := [(2, .int (t10.1 + 1)), (3, .int (q_min q21 q27)), (0, .ref (Γ.2.1 + k)), (1, .int t2.1)]) hx hb dX1_widen_54 hl rfl rfl (by decide) rfl fun ls hl => ?_
          refine lv_goto (tgt := 10) hx hb dX1_widen_57 rfl ?_
          exact ih10 ((t10.1 + 1), q51) h _ _ _ (lv_sub hl [2, 3, 0] rfl) hP hS hz
      exact L10 z (0, t2.2) h _ _ _ (lv_sub hl [1, 2, 0] rfl) hP hS hz
  exact L2 z (0, v) h _ _ _ (lv_sub hl [1, 0] rfl) hP hS hz
def b_Debts_widestRing_50 (k : Nat) (a1 : Int32) (t30 : Int32 × Va) (K50 : (Int32 × Int32) → Option (Int32 × Va)) (t50 : Int32 × Int32) : Option (Int32 × Va) := if 6 ≤ t50.2 then (some (t50.1, t30.2)) else (bnd (row_g 6 (t30.2 (k + 4)) t50.2) fun q62 => (f_Debts_between t30.2 k t50.2 a1).bind fun q68 => K50 ((q_max t50.1 (q_min q62 q68)), (t50.2 + 1)))
def b_Debts_widestRing_30 (z : Nat) (k : Nat) (a1 : Int32) (K30 : (Int32 × Va) → Option (Int32 × Va)) (t30 : Int32 × Va) : Option (Int32 × Va) := if 6 ≤ t30.1 then (rp (b_Debts_widestRing_50 k a1 t30) z (0, 0)) else ((f_Debts_widen z t30.2 k).bind fun q37 => K30 ((t30.1 + 1), q37))
def b_Debts_widestRing_2 (z : Nat) (k : Nat) (a1 : Int32) (K2 : (Int32 × Va) → Option (Int32 × Va)) (t2 : Int32 × Va) : Option (Int32 × Va) := if 6 ≤ t2.1 then (rp (b_Debts_widestRing_30 z k a1) z (2, t2.2)) else ((f_Debts_between t2.2 k a1 t2.1).bind fun q16 => bnd (up t2.2 (k + 4) (row_s 6 (t2.2 (k + 4)) t2.1 q16)) fun q19 => K2 ((t2.1 + 1), q19))
def f_Debts_widestRing (z : Nat) (v : Va) (k : Nat) (a1 : Int32) : Option (Int32 × Va) := rp (b_Debts_widestRing_2 z k a1) z (0, v)
theorem c_Debts_widestRing {k : Nat} {a1 : Int32} (hk : isDebts sh k) {q : Int32 × Va} (h : f_Debts_widestRing z v k a1 = some q) : MetI l yX1_widestRing cX1_widestRing 4 (some .int) 3 Γ sh v w n [.ref (Γ.2.1 + k), .int a1] (fun x u => x = q.1 ∧ u = q.2) := by
  unfold f_Debts_widestRing at h
  refine w_start pn_X1 (Nat.le_of_ble_eq_true rfl) fun p e s m args below meth c hx hb hml hret hlk hnm hts hown hK hP hz hE hS ls hl => ?_
  refine lv_iconst (v := 0) hx hb dX1_widestRing_0 rfl ?_
  refine lv_istore_n (lv' := [(2, .int 0), (0, .ref (Γ.2.1 + k)), (1, .int a1)]) hx hb dX1_widestRing_1 rfl hl (by decide) rfl fun ls hl => ?_
  have L2 : ∀ (fu : Nat) (t2 : Int32 × Va), rp (b_Debts_widestRing_2 z k a1) fu t2 = some q → ∀ (H1 : Heap) (locs1 : List Loc) (ls1 : Array Slot), lv_has ls1 4 [(0, .ref (Γ.2.1 + k)), (1, .int a1), (2, .int t2.1)] → Wd Γ sh t2.2 w H1 → va_S (gA Γ sh n) s.heap H1 locs1 → H1.size = Γ.2.1 + n → wpI Γ sh w n 3 (fun x u => x = q.1 ∧ u = q.2) p l e s m args below meth c H1 locs1 (F0 m 2 ls1 []) := by
    refine q_loop (fun K2 ih2 t2 h H1 locs1 ls hl hP hS hz => ?_)
    unfold b_Debts_widestRing_2 at h
    refine lv_iload_n hx hb dX1_widestRing_2 rfl (lv_at hl 2 rfl) ?_
    refine lv_bipush (v := 6) hx hb dX1_widestRing_3 rfl ?_
    refine lv_icmp_ge (tgt := 28) hx hb dX1_widestRing_5 rfl (fun hc5 => ?_) (fun hc5 => ?_)
    · have h := itt_e h hc5
      refine lv_iconst (v := 2) hx hb dX1_widestRing_28 rfl ?_
      refine lv_istore_n (lv' := [(2, .int 2), (0, .ref (Γ.2.1 + k)), (1, .int a1)]) hx hb dX1_widestRing_29 rfl hl (by decide) rfl fun ls hl => ?_
      have L30 : ∀ (fu : Nat) (t30 : Int32 × Va), rp (b_Debts_widestRing_30 z k a1) fu t30 = some q → ∀ (H1 : Heap) (locs1 : List Loc) (ls1 : Array Slot), lv_has ls1 4 [(0, .ref (Γ.2.1 + k)), (1, .int a1), (2, .int t30.1)] → Wd Γ sh t30.2 w H1 → va_S (gA Γ sh n) s.heap H1 locs1 → H1.size = Γ.2.1 + n → wpI Γ sh w n 3 (fun x u => x = q.1 ∧ u = q.2) p l e s m args below meth c H1 locs1 (F0 m 30 ls1 []) := by
        refine q_loop (fun K30 ih30 t30 h H1 locs1 ls hl hP hS hz => ?_)
        unfold b_Debts_widestRing_30 at h
        refine lv_iload_n hx hb dX1_widestRing_30 rfl (lv_at hl 2 rfl) ?_
        refine lv_bipush (v := 6) hx hb dX1_widestRing_31 rfl ?_
        refine lv_icmp_ge (tgt := 46) hx hb dX1_widestRing_33 rfl (fun hc33 => ?_) (fun hc33 => ?_)
        · have h := itt_e h hc33
          refine lv_iconst (v := 0) hx hb dX1_widestRing_46 rfl ?_
          refine lv_istore_n (lv' := [(2, .int 0), (0, .ref (Γ.2.1 + k)), (1, .int a1)]) hx hb dX1_widestRing_47 rfl hl (by decide) rfl fun ls hl => ?_
          refine lv_iconst (v := 0) hx hb dX1_widestRing_48 rfl ?_
          refine lv_istore_n (lv' := [(3, .int 0), (2, .int 0), (0, .ref (Γ.2.1 + k)), (1, .int a1)]) hx hb dX1_widestRing_49 rfl hl (by decide) rfl fun ls hl => ?_
          have L50 : ∀ (fu : Nat) (t50 : Int32 × Int32), rp (b_Debts_widestRing_50 k a1 t30) fu t50 = some q → ∀ (H1 : Heap) (locs1 : List Loc) (ls1 : Array Slot), lv_has ls1 4 [(0, .ref (Γ.2.1 + k)), (1, .int a1), (2, .int t50.1), (3, .int t50.2)] → Wd Γ sh t30.2 w H1 → va_S (gA Γ sh n) s.heap H1 locs1 → H1.size = Γ.2.1 + n → wpI Γ sh w n 3 (fun x u => x = q.1 ∧ u = q.2) p l e s m args below meth c H1 locs1 (F0 m 50 ls1 []) := by
            refine q_loop (fun K50 ih50 t50 h H1 locs1 ls hl hP hS hz => ?_)
            unfold b_Debts_widestRing_50 at h
            refine lv_iload_n hx hb dX1_widestRing_50 rfl (lv_at hl 3 rfl) ?_
            refine lv_bipush (v := 6) hx hb dX1_widestRing_51 rfl ?_
            refine lv_icmp_ge (tgt := 84) hx hb dX1_widestRing_53 rfl (fun hc53 => ?_) (fun hc53 => ?_)
            · have h := itt_e h hc53
              refine lv_iload_n hx hb dX1_widestRing_84 rfl (lv_at hl 2 rfl) ?_
              exact w_iret hx hb hret rfl hlk hK hP hS hz hE (q_p2 h) dX1_widestRing_85
            · have h := itf_e h hc53
              refine lv_iload_n hx hb dX1_widestRing_56 rfl (lv_at hl 2 rfl) ?_
              refine lv_aload_n hx hb dX1_widestRing_57 rfl (lv_at hl 0 rfl) ?_
              refine w_gr (k := k) (r := (k + 3)) hx hb hts hown hK hP fX1_20 hk.1 rfl dX1_widestRing_58 ?_
              refine lv_iload_n hx hb dX1_widestRing_61 rfl (lv_at hl 3 rfl) ?_
              obtain ⟨q62, e62, h⟩ := bnd_e h
              refine z_Vi (k := (k + 3)) (r1 := q62) (v1 := t30.2) hx hb hml hts hown hK hP hS hz hE (C_Row_get hk.2.2 e62) kX7_get mX1_30 hk.2.2.1 rfl rfl rfl hl.1 (Nat.le_of_ble_eq_true rfl) ⟨Nat.le_of_ble_eq_true rfl, Nat.le_of_ble_eq_true rfl⟩ ⟨Nat.le_refl _, Nat.le_refl _⟩ dX1_widestRing_62 fun H1 locs1 hz hP hS => ?_
              refine lv_aload_n hx hb dX1_widestRing_65 rfl (lv_at hl 0 rfl) ?_
              refine lv_iload_n hx hb dX1_widestRing_66 rfl (lv_at hl 3 rfl) ?_
              refine lv_iload_n hx hb dX1_widestRing_67 rfl (lv_at hl 1 rfl) ?_
              obtain ⟨q68, e68, h⟩ := obn_e h
              refine z_Vi (k := k) (r1 := q68) (v1 := t30.2) hx hb hml hts hown hK hP hS hz hE (c_Debts_between hk e68) kX1_between mX1_52 hk.1 rfl rfl rfl hl.1 (Nat.le_of_ble_eq_true rfl) ⟨Nat.le_of_ble_eq_true rfl, Nat.le_of_ble_eq_true rfl⟩ ⟨Nat.le_refl _, Nat.le_refl _⟩ dX1_widestRing_68 fun H1 locs1 hz hP hS => ?_
              refine z_mmin hx hb hml hl.1 hts hown xX1_35 ⟨Nat.le_of_ble_eq_true rfl, Nat.le_of_ble_eq_true rfl⟩ (Nat.le_of_ble_eq_true rfl) ⟨Nat.le_refl _, Nat.le_refl _⟩ dX1_widestRing_71 ?_
              refine z_mmax hx hb hml hl.1 hts hown xX1_58 ⟨Nat.le_of_ble_eq_true rfl, Nat.le_of_ble_eq_true rfl⟩ (Nat.le_of_ble_eq_true rfl) ⟨Nat.le_refl _, Nat.le_refl _⟩ dX1_widestRing_74 ?_
              refine lv_istore_n (lv' := [(2, .int (q_max t50.1 (q_min q62 q68))), (0, .ref (Γ.2.1 + k)), (1, .int a1), (3, .int t50.2)]) hx hb dX1_widestRing_77 rfl hl (by decide) rfl fun ls hl => ?_
              refine lv_iinc (k := 3) (v := (t50.2 + 1)) (lv' := [(3, .int (t50.2 + 1)), (2, .int (q_max t50.1 (q_min q62 q68))), (0, .ref (Γ.2.1 + k)), (1, .int a1)]) hx hb dX1_widestRing_78 hl rfl rfl (by decide) rfl fun ls hl => ?_
              refine lv_goto (tgt := 50) hx hb dX1_widestRing_81 rfl ?_
              exact ih50 ((q_max t50.1 (q_min q62 q68)), (t50.2 + 1)) h _ _ _ (lv_sub hl [2, 3, 1, 0] rfl) hP hS hz
          exact L50 z (0, 0) h _ _ _ (lv_sub hl [2, 3, 1, 0] rfl) hP hS hz
        · have h := itf_e h hc33
          refine lv_aload_n hx hb dX1_widestRing_36 rfl (lv_at hl 0 rfl) ?_
          obtain ⟨q37, e37, h⟩ := obn_e h
          refine z_Vv (k := k) (v1 := q37) hx hb hml hts hown hK hP hS hz hE (c_Debts_widen hk e37) kX1_widen mX1_55 hk.1 rfl rfl rfl hl.1 (Nat.le_of_ble_eq_true rfl) ⟨Nat.le_of_ble_eq_true rfl, Nat.le_of_ble_eq_true rfl⟩ ⟨Nat.le_refl _, Nat.le_refl _⟩ dX1_widestRing_37 fun H1 locs1 hz hP hS => ?_
          refine lv_iinc (k := 2) (v := (t30.1 + 1)) (lv' := [(2, .int (t30.1 + 1)), (0, .ref (Γ.2.1 + k)), (1, .int a1)]) hx hb dX1_widestRing_40 hl rfl rfl (by decide) rfl fun ls hl => ?_
          refine lv_goto (tgt := 30) hx hb dX1_widestRing_43 rfl ?_
          exact ih30 ((t30.1 + 1), q37) h _ _ _ (lv_sub hl [1, 2, 0] rfl) hP hS hz
      exact L30 z (2, t2.2) h _ _ _ (lv_sub hl [1, 2, 0] rfl) hP hS hz
    · have h := itf_e h hc5
      refine lv_aload_n hx hb dX1_widestRing_8 rfl (lv_at hl 0 rfl) ?_
      refine w_gr (k := k) (r := (k + 3)) hx hb hts hown hK hP fX1_20 hk.1 rfl dX1_widestRing_9 ?_
      refine lv_iload_n hx hb dX1_widestRing_12 rfl (lv_at hl 2 rfl) ?_
      refine lv_aload_n hx hb dX1_widestRing_13 rfl (lv_at hl 0 rfl) ?_
      refine lv_iload_n hx hb dX1_widestRing_14 rfl (lv_at hl 1 rfl) ?_
      refine lv_iload_n hx hb dX1_widestRing_15 rfl (lv_at hl 2 rfl) ?_
      obtain ⟨q16, e16, h⟩ := obn_e h
      refine z_Vi (k := k) (r1 := q16) (v1 := t2.2) hx hb hml hts hown hK hP hS hz hE (c_Debts_between hk e16) kX1_between mX1_52 hk.1 rfl rfl rfl hl.1 (Nat.le_of_ble_eq_true rfl) ⟨Nat.le_of_ble_eq_true rfl, Nat.le_of_ble_eq_true rfl⟩ ⟨Nat.le_refl _, Nat.le_refl _⟩ dX1_widestRing_16 fun H1 locs1 hz hP hS => ?_
      obtain ⟨q19, e19, h⟩ := bnd_e h
      refine z_Vv (k := (k + 3)) (v1 := q19) hx hb hml hts hown hK hP hS hz hE (C_Row_set hk.2.2 e19) kX7_set mX1_41 hk.2.2.1 rfl rfl rfl hl.1 (Nat.le_of_ble_eq_true rfl) ⟨Nat.le_of_ble_eq_true rfl, Nat.le_of_ble_eq_true rfl⟩ ⟨Nat.le_refl _, Nat.le_refl _⟩ dX1_widestRing_19 fun H1 locs1 hz hP hS => ?_
      refine lv_iinc (k := 2) (v := (t2.1 + 1)) (lv' := [(2, .int (t2.1 + 1)), (0, .ref (Γ.2.1 + k)), (1, .int a1)]) hx hb dX1_widestRing_22 hl rfl rfl (by decide) rfl fun ls hl => ?_
      refine lv_goto (tgt := 2) hx hb dX1_widestRing_25 rfl ?_
      exact ih2 ((t2.1 + 1), q19) h _ _ _ (lv_sub hl [1, 2, 0] rfl) hP hS hz
  exact L2 z (0, v) h _ _ _ (lv_sub hl [1, 2, 0] rfl) hP hS hz
end GE
