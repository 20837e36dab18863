
section GE
variable {l : Launch} {Γ : Cx} {sh : Sh} {v : Va} {w : Vl} {n z : Nat}
def j_Tokens_behindBlanks_36 (K2 : Int32 → Option Int32) (t2 : Int32) : Option Int32 := K2 (t2 + 1)
def b_Tokens_behindBlanks_2 (v : Va) (K2 : Int32 → Option Int32) (t2 : Int32) : Option Int32 := if (v 3 1) ≤ t2 then (some t2) else (bnd (row_g 2000 (v 2) t2) fun q15 => if q15 = 32 then (j_Tokens_behindBlanks_36 K2 t2) else (bnd (row_g 2000 (v 2) t2) fun q28 => if q28 = 10 then (j_Tokens_behindBlanks_36 K2 t2) else (some t2)))
def f_Tokens_behindBlanks (z : Nat) (v : Va) (a1 : Int32) : Option Int32 := rp (b_Tokens_behindBlanks_2 v) z a1
theorem c_Tokens_behindBlanks {a1 : Int32} (hk : isTokens sh) {q : Int32} (h : f_Tokens_behindBlanks z v a1 = some q) : MetI l yX10_behindBlanks cX10_behindBlanks 3 (some .int) 1 Γ sh v w n [.ref (Γ.2.1 + 3), .int a1] (fun x u => x = q ∧ u = v) := by
  unfold f_Tokens_behindBlanks at h
  refine w_start pn_X10 (Nat.le_of_ble_eq_true rfl) fun p e s m args below meth c hx hb hml hret hlk hnm hts hown hK hP hz hE hS ls hl => ?_
  refine lv_iload_n hx hb dX10_behindBlanks_0 rfl (lv_at hl 1 rfl) ?_
  refine lv_istore_n (lv' := [(2, .int a1), (0, .ref (Γ.2.1 + 3)), (1, .int a1)]) hx hb dX10_behindBlanks_1 rfl hl (by decide) rfl fun ls hl => ?_
  have L2 : ∀ (fu : Nat) (t2 : Int32), rp (b_Tokens_behindBlanks_2 v) fu t2 = some q → ∀ (H1 : Heap) (locs1 : List Loc) (ls1 : Array Slot), lv_has ls1 3 [(0, .ref (Γ.2.1 + 3)), (2, .int t2)] → Wd Γ sh v w H1 → va_S (gA Γ sh n) s.heap H1 locs1 → H1.size = Γ.2.1 + n → wpI Γ sh w n 1 (fun x u => x = q ∧ u = v) p l e s m args below meth c H1 locs1 (F0 m 2 ls1 []) := by
    refine q_loop (fun K2 ih2 t2 h H1 locs1 ls hl hP hS hz => ?_)
    unfold b_Tokens_behindBlanks_2 at h
    refine lv_iload_n hx hb dX10_behindBlanks_2 rfl (lv_at hl 1 rfl) ?_
    refine lv_aload_n hx hb dX10_behindBlanks_3 rfl (lv_at hl 0 rfl) ?_
    refine w_gi (k := 3) hx hb hts hown hK hP fX10_30 hk.1 rfl dX10_behindBlanks_4 ?_
    refine lv_icmp_ge (tgt := 42) hx hb dX10_behindBlanks_7 rfl (fun hc7 => ?_) (fun hc7 => ?_)
    · have h := itt_e h hc7
      refine lv_iload_n hx hb dX10_behindBlanks_42 rfl (lv_at hl 1 rfl) ?_
      exact w_iret hx hb hret rfl hlk hK hP hS hz hE (q_p1 h) dX10_behindBlanks_43
    · have h := itf_e h hc7
      refine lv_aload_n hx hb dX10_behindBlanks_10 rfl (lv_at hl 0 rfl) ?_
      refine w_gr (k := 3) (r := 1) hx hb hts hown hK hP fX10_7 hk.1 rfl dX10_behindBlanks_11 ?_
      refine lv_iload_n hx hb dX10_behindBlanks_14 rfl (lv_at hl 1 rfl) ?_
      obtain ⟨q15, e15, h⟩ := bnd_e h
      refine z_Vi (k := 1) (r1 := q15) (v1 := v) hx hb hml hts hown hK hP hS hz hE (C_Row_get hk.2.1 e15) kX7_get mX10_45 hk.2.1.1 rfl rfl rfl hl.1 (Nat.le_of_ble_eq_true rfl) ⟨Nat.le_of_ble_eq_true rfl, Nat.le_of_ble_eq_true rfl⟩ ⟨Nat.le_refl _, Nat.le_refl _⟩ dX10_behindBlanks_15 fun H1 locs1 hz hP hS => ?_
      refine lv_bipush (v := 32) hx hb dX10_behindBlanks_18 rfl ?_
      have J36 : (j_Tokens_behindBlanks_36 K2 t2) = some q → ∀ (H1 : Heap) (locs1 : List Loc) (ls1 : Array Slot), lv_has ls1 3 [(0, .ref (Γ.2.1 + 3)), (2, .int t2)] → Wd Γ sh v w H1 → va_S (gA Γ sh n) s.heap H1 locs1 → H1.size = Γ.2.1 + n → wpI Γ sh w n 1 (fun x u => x = q ∧ u = v) p l e s m args below meth c H1 locs1 (F0 m 36 ls1 []) := by
        intro  h H1 locs1 ls hl hP hS hz
        unfold j_Tokens_behindBlanks_36 at h
        refine lv_iinc (k := 1) (v := (t2 + 1)) (lv' := [(2, .int (t2 + 1)), (0, .ref (Γ.2.1 + 3))]) hx hb dX10_behindBlanks_36 hl rfl rfl (by decide) rfl fun ls hl => ?_
        refine lv_goto (tgt := 2) hx hb dX10_behindBlanks_39 rfl ?_
        exact ih2 (t2 + 1) h _ _ _ (lv_sub hl [1, 0] rfl) hP hS hz
      refine lv_icmp_eq (tgt := 36) hx hb dX10_behindBlanks_20 rfl (fun hc20 => ?_) (fun hc20 => ?_)
      · have h := itt_e h hc20
        exact J36 h _ _ _ (lv_sub hl [0, 1] rfl) hP hS hz
      · have h := itf_e h hc20
        refine lv_aload_n hx hb dX10_behindBlanks_23 rfl (lv_at hl 0 rfl) ?_
        refine w_gr (k := 3) (r := 1) hx hb hts hown hK hP fX10_7 hk.1 rfl dX10_behindBlanks_24 ?_
        refine lv_iload_n hx hb dX10_behindBlanks_27 rfl (lv_at hl 1 rfl) ?_
        obtain ⟨q28, e28, h⟩ := bnd_e h
        refine z_Vi (k := 1) (r1 := q28) (v1 := v) hx hb hml hts hown hK hP hS hz hE (C_Row_get hk.2.1 e28) kX7_get mX10_45 hk.2.1.1 rfl rfl rfl hl.1 (Nat.le_of_ble_eq_true rfl) ⟨Nat.le_of_ble_eq_true rfl, Nat.le_of_ble_eq_true rfl⟩ ⟨Nat.le_refl _, Nat.le_refl _⟩ dX10_behindBlanks_28 fun H1 locs1 hz hP hS => ?_
        refine lv_bipush (v := 10) hx hb dX10_behindBlanks_31 rfl ?_
        refine lv_icmp_ne (tgt := 42) hx hb dX10_behindBlanks_33 rfl (fun hc33 => ?_) (fun hc33 => ?_)
        · have h := itf_e h hc33
          refine lv_iload_n hx hb dX10_behindBlanks_42 rfl (lv_at hl 1 rfl) ?_
          exact w_iret hx hb hret rfl hlk hK hP hS hz hE (q_p1 h) dX10_behindBlanks_43
        · have h := itt_e h hc33
          exact J36 h _ _ _ (lv_sub hl [0, 1] rfl) hP hS hz
  exact L2 z a1 h _ _ _ (lv_sub hl [1, 0] rfl) hP hS hz
def f_Tokens_isDigit (a1 : Int32) : Option Bool := if a1 < 48 then (some false) else (if 57 < a1 then (some false) else (some true))
theorem c_Tokens_isDigit {a1 : Int32} {q : Bool} (h : f_Tokens_isDigit a1 = some q) : MetI l yX10_isDigit cX10_isDigit 1 (some .boolean) 0 Γ sh v w n [.int a1] (fun x u => x = q_b q ∧ u = v) := by
  unfold f_Tokens_isDigit at h
  refine w_start pn_X10 (Nat.le_of_ble_eq_true rfl) fun p e s m args below meth c hx hb hml hret hlk hnm hts hown hK hP hz hE hS ls hl => ?_
  refine lv_iload_n hx hb dX10_isDigit_0 rfl (lv_at hl 0 rfl) ?_
  refine lv_bipush (v := 48) hx hb dX10_isDigit_1 rfl ?_
  refine lv_icmp_lt (tgt := 16) hx hb dX10_isDigit_3 rfl (fun hc3 => ?_) (fun hc3 => ?_)
  · have h := itt_e h hc3
    refine lv_iconst (v := 0) hx hb dX10_isDigit_16 rfl ?_
    exact w_iret hx hb hret rfl hlk hK hP hS hz hE (q_p1b h) dX10_isDigit_17
  · have h := itf_e h hc3
    refine lv_iload_n hx hb dX10_isDigit_6 rfl (lv_at hl 0 rfl) ?_
    refine lv_bipush (v := 57) hx hb dX10_isDigit_7 rfl ?_
    refine lv_icmp_gt (tgt := 16) hx hb dX10_isDigit_9 rfl (fun hc9 => ?_) (fun hc9 => ?_)
    · have h := itt_e h hc9
      refine lv_iconst (v := 0) hx hb dX10_isDigit_16 rfl ?_
      exact w_iret hx hb hret rfl hlk hK hP hS hz hE (q_p1b h) dX10_isDigit_17
    · have h := itf_e h hc9
      refine lv_iconst (v := 1) hx hb dX10_isDigit_12 rfl ?_
      refine lv_goto (tgt := 17) hx hb dX10_isDigit_13 rfl ?_
      exact w_iret hx hb hret rfl hlk hK hP hS hz hE (q_p1b h) dX10_isDigit_17
def f_Tokens_add (v : Va) (a1 : Int32) (a2 : Int32) (a3 : Int32) (a4 : Int32) : Option Va := bnd (up v 5 (row_s 401 (v 5) (v 3 2) a1)) fun q9 => bnd (up q9 7 (row_s 401 (q9 7) (q9 3 2) a2)) fun q21 => bnd (up q21 9 (row_s 401 (q21 9) (q21 3 2) a3)) fun q33 => bnd (up q33 11 (row_s 401 (q33 11) (q33 3 2) a4)) fun q46 => bnd (pu q46 3 2 ((q46 3 2) + 1)) fun v56 => some v56
theorem c_Tokens_add {a1 : Int32} {a2 : Int32} {a3 : Int32} {a4 : Int32} (hk : isTokens sh) {q : Va} (h : f_Tokens_add v a1 a2 a3 a4 = some q) : MetV l yX10_add cX10_add 5 none 1 Γ sh v w n [.ref (Γ.2.1 + 3), .int a1, .int a2, .int a3, .int a4] (fun u => u = q) := by
  unfold f_Tokens_add at h
  refine w_start pn_X10 (Nat.le_of_ble_eq_true rfl) fun p e s m args below meth c hx hb hml hret hlk hnm hts hown hK hP hz hE hS ls hl => ?_
  refine lv_aload_n hx hb dX10_add_0 rfl (lv_at hl 0 rfl) ?_
  refine w_gr (k := 3) (r := 4) hx hb hts hown hK hP fX10_18 hk.1 rfl dX10_add_1 ?_
  refine lv_aload_n hx hb dX10_add_4 rfl (lv_at hl 0 rfl) ?_
  refine w_gi (k := 3) hx hb hts hown hK hP fX10_34 hk.1 rfl dX10_add_5 ?_
  refine lv_iload_n hx hb dX10_add_8 rfl (lv_at hl 1 rfl) ?_
  obtain ⟨q9, e9, h⟩ := bnd_e h
  refine z_Vv (k := 4) (v1 := q9) hx hb hml hts hown hK hP hS hz hE (C_Row_set hk.2.2.1 e9) kX7_set mX10_100 hk.2.2.1.1 rfl rfl rfl hl.1 (Nat.le_of_ble_eq_true rfl) ⟨Nat.le_of_ble_eq_true rfl, Nat.le_of_ble_eq_true rfl⟩ ⟨Nat.le_refl _, Nat.le_refl _⟩ dX10_add_9 fun H1 locs1 hz hP hS => ?_
  refine lv_aload_n hx hb dX10_add_12 rfl (lv_at hl 0 rfl) ?_
  refine w_gr (k := 3) (r := 6) hx hb hts hown hK hP fX10_21 hk.1 rfl dX10_add_13 ?_
  refine lv_aload_n hx hb dX10_add_16 rfl (lv_at hl 0 rfl) ?_
  refine w_gi (k := 3) hx hb hts hown hK hP fX10_34 hk.1 rfl dX10_add_17 ?_
  refine lv_iload_n hx hb dX10_add_20 rfl (lv_at hl 2 rfl) ?_
  obtain ⟨q21, e21, h⟩ := bnd_e h
  refine z_Vv (k := 6) (v1 := q21) hx hb hml hts hown hK hP hS hz hE (C_Row_set hk.2.2.2.1 e21) kX7_set mX10_100 hk.2.2.2.1.1 rfl rfl rfl hl.1 (Nat.le_of_ble_eq_true rfl) ⟨Nat.le_of_ble_eq_true rfl, Nat.le_of_ble_eq_true rfl⟩ ⟨Nat.le_refl _, Nat.le_refl _⟩ dX10_add_21 fun H1 locs1 hz hP hS => ?_
  refine lv_aload_n hx hb dX10_add_24 rfl (lv_at hl 0 rfl) ?_
  refine w_gr (k := 3) (r := 8) hx hb hts hown hK hP fX10_24 hk.1 rfl dX10_add_25 ?_
  refine lv_aload_n hx hb dX10_add_28 rfl (lv_at hl 0 rfl) ?_
  refine w_gi (k := 3) hx hb hts hown hK hP fX10_34 hk.1 rfl dX10_add_29 ?_
  refine lv_iload_n hx hb dX10_add_32 rfl (lv_at hl 3 rfl) ?_
  obtain ⟨q33, e33, h⟩ := bnd_e h
  refine z_Vv (k := 8) (v1 := q33) hx hb hml hts hown hK hP hS hz hE (C_Row_set hk.2.2.2.2.1 e33) kX7_set mX10_100 hk.2.2.2.2.1.1 rfl rfl rfl hl.1 (Nat.le_of_ble_eq_true rfl) ⟨Nat.le_of_ble_eq_true rfl, Nat.le_of_ble_eq_true rfl⟩ ⟨Nat.le_refl _, Nat.le_refl _⟩ dX10_add_33 fun H1 locs1 hz hP hS => ?_
  refine lv_aload_n hx hb dX10_add_36 rfl (lv_at hl 0 rfl) ?_
  refine w_gr (k := 3) (r := 10) hx hb hts hown hK hP fX10_27 hk.1 rfl dX10_add_37 ?_
  refine lv_aload_n hx hb dX10_add_40 rfl (lv_at hl 0 rfl) ?_
  refine w_gi (k := 3) hx hb hts hown hK hP fX10_34 hk.1 rfl dX10_add_41 ?_
  refine lv_iload hx hb dX10_add_44 (lv_at hl 4 rfl) ?_
  obtain ⟨q46, e46, h⟩ := bnd_e h
  refine z_Vv (k := 10) (v1 := q46) hx hb hml hts hown hK hP hS hz hE (C_Row_set hk.2.2.2.2.2 e46) kX7_set mX10_100 hk.2.2.2.2.2.1 rfl rfl rfl hl.1 (Nat.le_of_ble_eq_true rfl) ⟨Nat.le_of_ble_eq_true rfl, Nat.le_of_ble_eq_true rfl⟩ ⟨Nat.le_refl _, Nat.le_refl _⟩ dX10_add_46 fun H1 locs1 hz hP hS => ?_
  refine lv_aload_n hx hb dX10_add_49 rfl (lv_at hl 0 rfl) ?_
  refine lv_dup hx hb dX10_add_50 rfl ?_
  refine w_gi (k := 3) hx hb hts hown hK hP fX10_34 hk.1 rfl dX10_add_51 ?_
  refine lv_iconst (v := 1) hx hb dX10_add_54 rfl ?_
  refine lv_iadd hx hb dX10_add_55 ?_
  obtain ⟨v56, e56, h⟩ := bnd_e h
  refine w_pi2 (k := 3) hx hb hts hown hK hP hS hz fX10_34 hk.1 rfl e56 dX10_add_56 fun H1 locs1 hz hP hS => ?_
  exact w_vret hx hb hret hlk hK hP hS hz hE (Option.some.inj h) dX10_add_59
def j_Tokens_readsNumber_49 (v : Va) (a1 : Int32) (t4 : Int32 × Int32) : Option (Bool × Va) := if (t4.1 - a1) ≤ 6 then ((f_Tokens_add v 48 a1 (t4.1 - a1) t4.2).bind fun q67 => some (true, q67)) else (some (false, v))
def b_Tokens_readsNumber_4 (v : Va) (a1 : Int32) (K4 : (Int32 × Int32) → Option (Bool × Va)) (t4 : Int32 × Int32) : Option (Bool × Va) := if (v 3 1) ≤ t4.1 then (j_Tokens_readsNumber_49 v a1 t4) else (bnd (row_g 2000 (v 2) t4.1) fun q17 => (f_Tokens_isDigit q17).bind fun q20 => if (q_b q20) = 0 then (j_Tokens_readsNumber_49 v a1 t4) else (bnd (row_g 2000 (v 2) t4.1) fun q35 => K4 ((t4.1 + 1), (((t4.2 * 10) + q35) - 48))))
def f_Tokens_readsNumber (z : Nat) (v : Va) (a1 : Int32) : Option (Bool × Va) := rp (b_Tokens_readsNumber_4 v a1) z (a1, 0)
theorem c_Tokens_readsNumber {a1 : Int32} (hk : isTokens sh) {q : Bool × Va} (h : f_Tokens_readsNumber z v a1 = some q) : MetI l yX10_readsNumber cX10_readsNumber 4 (some .boolean) 2 Γ sh v w n [.ref (Γ.2.1 + 3), .int a1] (fun x u => x = q_b q.1 ∧ u = q.2) := by
  unfold f_Tokens_readsNumber at h
  refine w_start pn_X10 (Nat.le_of_ble_eq_true rfl) fun p e s m args below meth c hx hb hml hret hlk hnm hts hown hK hP hz hE hS ls hl => ?_
  refine lv_iload_n hx hb dX10_readsNumber_0 rfl (lv_at hl 1 rfl) ?_
  refine lv_istore_n (lv' := [(2, .int a1), (0, .ref (Γ.2.1 + 3)), (1, .int a1)]) hx hb dX10_readsNumber_1 rfl hl (by decide) rfl fun ls hl => ?_
  refine lv_iconst (v := 0) hx hb dX10_readsNumber_2 rfl ?_
  refine lv_istore_n (lv' := [(3, .int 0), (2, .int a1), (0, .ref (Γ.2.1 + 3)), (1, .int a1)]) hx hb dX10_readsNumber_3 rfl hl (by decide) rfl fun ls hl => ?_
  have L4 : ∀ (fu : Nat) (t4 : Int32 × Int32), rp (b_Tokens_readsNumber_4 v a1) fu t4 = some q → ∀ (H1 : Heap) (locs1 : List Loc) (ls1 : Array Slot), lv_has ls1 4 [(0, .ref (Γ.2.1 + 3)), (1, .int a1), (2, .int t4.1), (3, .int t4.2)] → Wd Γ sh v w H1 → va_S (gA Γ sh n) s.heap H1 locs1 → H1.size = Γ.2.1 + n → wpI Γ sh w n 2 (fun x u => x = q_b q.1 ∧ u = q.2) p l e s m args below meth c H1 locs1 (F0 m 4 ls1 []) := by
    refine q_loop (fun K4 ih4 t4 h H1 locs1 ls hl hP hS hz => ?_)
    unfold b_Tokens_readsNumber_4 at h
    refine lv_iload_n hx hb dX10_readsNumber_4 rfl (lv_at hl 2 rfl) ?_
    refine lv_aload_n hx hb dX10_readsNumber_5 rfl (lv_at hl 0 rfl) ?_
    refine w_gi (k := 3) hx hb hts hown hK hP fX10_30 hk.1 rfl dX10_readsNumber_6 ?_
    have J49 : (j_Tokens_readsNumber_49 v a1 t4) = some q → ∀ (H1 : Heap) (locs1 : List Loc) (ls1 : Array Slot), lv_has ls1 4 [(0, .ref (Γ.2.1 + 3)), (1, .int a1), (2, .int t4.1), (3, .int t4.2)] → Wd Γ sh v w H1 → va_S (gA Γ sh n) s.heap H1 locs1 → H1.size = Γ.2.1 + n → wpI Γ sh w n 2 (fun x u => x = q_b q.1 ∧ u = q.2) p l e s m args below meth c H1 locs1 (F0 m 49 ls1 []) := by
      intro  h H1 locs1 ls hl hP hS hz
      unfold j_Tokens_readsNumber_49 at h
      refine lv_iload_n hx hb dX10_readsNumber_49 rfl (lv_at hl 2 rfl) ?_
      refine lv_iload_n hx hb dX10_readsNumber_50 rfl (lv_at hl 1 rfl) ?_
      refine lv_isub hx hb dX10_readsNumber_51 ?_
      refine lv_bipush (v := 6) hx hb dX10_readsNumber_52 rfl ?_
      refine lv_icmp_le (tgt := 59) hx hb dX10_readsNumber_54 rfl (fun hc54 => ?_) (fun hc54 => ?_)
      · have h := itt_e h hc54
        refine lv_aload_n hx hb dX10_readsNumber_59 rfl (lv_at hl 0 rfl) ?_
        refine lv_bipush (v := 48) hx hb dX10_readsNumber_60 rfl ?_
        refine lv_iload_n hx hb dX10_readsNumber_62 rfl (lv_at hl 1 rfl) ?_
        refine lv_iload_n hx hb dX10_readsNumber_63 rfl (lv_at hl 2 rfl) ?_
        refine lv_iload_n hx hb dX10_readsNumber_64 rfl (lv_at hl 1 rfl) ?_
        refine lv_isub hx hb dX10_readsNumber_65 ?_
        refine lv_iload_n hx hb dX10_readsNumber_66 rfl (lv_at hl 3 rfl) ?_
        obtain ⟨q67, e67, h⟩ := obn_e h
        refine z_Vv (k := 3) (v1 := q67) hx hb hml hts hown hK hP hS hz hE (c_Tokens_add hk e67) kX10_add mX10_50 hk.1 rfl rfl rfl hl.1 (Nat.le_of_ble_eq_true rfl) ⟨Nat.le_of_ble_eq_true rfl, Nat.le_of_ble_eq_true rfl⟩ ⟨Nat.le_refl _, Nat.le_refl _⟩ dX10_readsNumber_67 fun H1 locs1 hz hP hS => ?_
        refine lv_iconst (v := 1) hx hb dX10_readsNumber_70 rfl ?_
        exact w_iret hx hb hret rfl hlk hK hP hS hz hE (q_p2b h) dX10_readsNumber_71
      · have h := itf_e h hc54
        refine lv_iconst (v := 0) hx hb dX10_readsNumber_57 rfl ?_
        exact w_iret hx hb hret rfl hlk hK hP hS hz hE (q_p2b h) dX10_readsNumber_58
    refine lv_icmp_ge (tgt := 49) hx hb dX10_readsNumber_9 rfl (fun hc9 => ?_) (fun hc9 => ?_)
    · have h := itt_e h hc9
      exact J49 h _ _ _ (lv_sub hl [0, 1, 2, 3] rfl) hP hS hz
    · have h := itf_e h hc9
      refine lv_aload_n hx hb dX10_readsNumber_12 rfl (lv_at hl 0 rfl) ?_
      refine w_gr (k := 3) (r := 1) hx hb hts hown hK hP fX10_7 hk.1 rfl dX10_readsNumber_13 ?_
      refine lv_iload_n hx hb dX10_readsNumber_16 rfl (lv_at hl 2 rfl) ?_
      obtain ⟨q17, e17, h⟩ := bnd_e h
      refine z_Vi (k := 1) (r1 := q17) (v1 := v) hx hb hml hts hown hK hP hS hz hE (C_Row_get hk.2.1 e17) kX7_get mX10_45 hk.2.1.1 rfl rfl rfl hl.1 (Nat.le_of_ble_eq_true rfl) ⟨Nat.le_of_ble_eq_true rfl, Nat.le_of_ble_eq_true rfl⟩ ⟨Nat.le_refl _, Nat.le_refl _⟩ dX10_readsNumber_17 fun H1 locs1 hz hP hS => ?_
      obtain ⟨q20, e20, h⟩ := obn_e h
      refine z_Si (r1 := (q_b q20)) (v1 := v) hx hb hml hts hown hK hP hS hz hE (c_Tokens_isDigit  e20) kX10_isDigit mX10_60 rfl rfl hl.1 (Nat.le_of_ble_eq_true rfl) ⟨Nat.le_of_ble_eq_true rfl, Nat.le_of_ble_eq_true rfl⟩ ⟨Nat.le_refl _, Nat.le_refl _⟩ dX10_readsNumber_20 fun H1 locs1 hz hP hS => ?_
      refine lv_if_eq (tgt := 49) hx hb dX10_readsNumber_23 rfl (fun hc23 => ?_) (fun hc23 => ?_)
      · have h := itt_e h hc23
        exact J49 h _ _ _ (lv_sub hl [0, 1, 2, 3] rfl) hP hS hz
      · have h := itf_e h hc23
        refine lv_iload_n hx hb dX10_readsNumber_26 rfl (lv_at hl 3 rfl) ?_
        refine lv_bipush (v := 10) hx hb dX10_readsNumber_27 rfl ?_
        refine lv_imul hx hb dX10_readsNumber_29 ?_
        refine lv_aload_n hx hb dX10_readsNumber_30 rfl (lv_at hl 0 rfl) ?_
        refine w_gr (k := 3) (r := 1) hx hb hts hown hK hP fX10_7 hk.1 rfl dX10_readsNumber_31 ?_
        refine lv_iload_n hx hb dX10_readsNumber_34 rfl (lv_at hl 2 rfl) ?_
        obtain ⟨q35, e35, h⟩ := bnd_e h
        refine z_Vi (k := 1) (r1 := q35) (v1 := v) hx hb hml hts hown hK hP hS hz hE (C_Row_get hk.2.1 e35) kX7_get mX10_45 hk.2.1.1 rfl rfl rfl hl.1 (Nat.le_of_ble_eq_true rfl) ⟨Nat.le_of_ble_eq_true rfl, Nat.le_of_ble_eq_true rfl⟩ ⟨Nat.le_refl _, Nat.le_refl _⟩ dX10_readsNumber_35 fun H1 locs1 hz hP hS => ?_
        refine lv_iadd hx hb dX10_readsNumber_38 ?_
        refine lv_bipush (v := 48) hx hb dX10_readsNumber_39 rfl ?_
        refine lv_isub hx hb dX10_readsNumber_41 ?_
        refine lv_istore_n (lv' := [(3, .int (((t4.2 * 10) + q35) - 48)), (0, .ref (Γ.2.1 + 3)), (1, .int a1), (2, .int t4.1)]) hx hb dX10_readsNumber_42 rfl hl (by decide) rfl fun ls hl => ?_
        refine lv_iinc (k := 3) (v := (t4.1 + 1)) (lv' := [(2, .int (t4.1 + 1)), (3, .int (((t4.2 * 10) + q35) - 48)), (0, .ref (Γ.2.1 + 3)), (1, .int a1)]) hx hb dX10_readsNumber_43 hl rfl rfl (by decide) rfl fun ls hl => ?_
        refine lv_goto (tgt := 4) hx hb dX10_readsNumber_46 rfl ?_
        exact ih4 ((t4.1 + 1), (((t4.2 * 10) + q35) - 48)) h _ _ _ (lv_sub hl [2, 3, 0, 1] rfl) hP hS hz
  exact L4 z (a1, 0) h _ _ _ (lv_sub hl [2, 3, 1, 0] rfl) hP hS hz
def b_Tokens_isSame_3 (v : Va) (a1 : Int32) (a2 : Int32) (a3 : Int32) (K3 : Int32 → Option Bool) (t3 : Int32) : Option Bool := if a3 ≤ t3 then (some true) else (bnd (row_g 2000 (v 2) (a1 + t3)) fun q17 => bnd (row_g 2000 (v 2) (a2 + t3)) fun q28 => if q17 = q28 then (K3 (t3 + 1)) else (some false))
def f_Tokens_isSame (z : Nat) (v : Va) (a1 : Int32) (a2 : Int32) (a3 : Int32) : Option Bool := rp (b_Tokens_isSame_3 v a1 a2 a3) z 0
theorem c_Tokens_isSame {a1 : Int32} {a2 : Int32} {a3 : Int32} (hk : isTokens sh) {q : Bool} (h : f_Tokens_isSame z v a1 a2 a3 = some q) : MetI l yX10_isSame cX10_isSame 5 (some .boolean) 1 Γ sh v w n [.ref (Γ.2.1 + 3), .int a1, .int a2, .int a3] (fun x u => x = q_b q ∧ u = v) := by
  unfold f_Tokens_isSame at h
  refine w_start pn_X10 (Nat.le_of_ble_eq_true rfl) fun p e s m args below meth c hx hb hml hret hlk hnm hts hown hK hP hz hE hS ls hl => ?_
  refine lv_iconst (v := 0) hx hb dX10_isSame_0 rfl ?_
  refine lv_istore (lv' := [(4, .int 0), (0, .ref (Γ.2.1 + 3)), (1, .int a1), (2, .int a2), (3, .int a3)]) hx hb dX10_isSame_1 hl (by decide) rfl fun ls hl => ?_
  have L3 : ∀ (fu : Nat) (t3 : Int32), rp (b_Tokens_isSame_3 v a1 a2 a3) fu t3 = some q → ∀ (H1 : Heap) (locs1 : List Loc) (ls1 : Array Slot), lv_has ls1 5 [(0, .ref (Γ.2.1 + 3)), (1, .int a1), (2, .int a2), (3, .int a3), (4, .int t3)] → Wd Γ sh v w H1 → va_S (gA Γ sh n) s.heap H1 locs1 → H1.size = Γ.2.1 + n → wpI Γ sh w n 1 (fun x u => x = q_b q ∧ u = v) p l e s m args below meth c H1 locs1 (F0 m 3 ls1 []) := by
    refine q_loop (fun K3 ih3 t3 h H1 locs1 ls hl hP hS hz => ?_)
    unfold b_Tokens_isSame_3 at h
    refine lv_iload hx hb dX10_isSame_3 (lv_at hl 4 rfl) ?_
    refine lv_iload_n hx hb dX10_isSame_5 rfl (lv_at hl 3 rfl) ?_
    refine lv_icmp_ge (tgt := 42) hx hb dX10_isSame_6 rfl (fun hc6 => ?_) (fun hc6 => ?_)
    · have h := itt_e h hc6
      refine lv_iconst (v := 1) hx hb dX10_isSame_42 rfl ?_
      exact w_iret hx hb hret rfl hlk hK hP hS hz hE (q_p1b h) dX10_isSame_43
    · have h := itf_e h hc6
      refine lv_aload_n hx hb dX10_isSame_9 rfl (lv_at hl 0 rfl) ?_
      refine w_gr (k := 3) (r := 1) hx hb hts hown hK hP fX10_7 hk.1 rfl dX10_isSame_10 ?_
      refine lv_iload_n hx hb dX10_isSame_13 rfl (lv_at hl 1 rfl) ?_
      refine lv_iload hx hb dX10_isSame_14 (lv_at hl 4 rfl) ?_
      refine lv_iadd hx hb dX10_isSame_16 ?_
      obtain ⟨q17, e17, h⟩ := bnd_e h
      refine z_Vi (k := 1) (r1 := q17) (v1 := v) hx hb hml hts hown hK hP hS hz hE (C_Row_get hk.2.1 e17) kX7_get mX10_45 hk.2.1.1 rfl rfl rfl hl.1 (Nat.le_of_ble_eq_true rfl) ⟨Nat.le_of_ble_eq_true rfl, Nat.le_of_ble_eq_true rfl⟩ ⟨Nat.le_refl _, Nat.le_refl _⟩ dX10_isSame_17 fun H1 locs1 hz hP hS => ?_
      refine lv_aload_n hx hb dX10_isSame_20 rfl (lv_at hl 0 rfl) ?_
      refine w_gr (k := 3) (r := 1) hx hb hts hown hK hP fX10_7 hk.1 rfl dX10_isSame_21 ?_
      refine lv_iload_n hx hb dX10_isSame_24 rfl (lv_at hl 2 rfl) ?_
      refine lv_iload hx hb dX10_isSame_25 (lv_at hl 4 rfl) ?_
      refine lv_iadd hx hb dX10_isSame_27 ?_
      obtain ⟨q28, e28, h⟩ := bnd_e h
      refine z_Vi (k := 1) (r1 := q28) (v1 := v) hx hb hml hts hown hK hP hS hz hE (C_Row_get hk.2.1 e28) kX7_get mX10_45 hk.2.1.1 rfl rfl rfl hl.1 (Nat.le_of_ble_eq_true rfl) ⟨Nat.le_of_ble_eq_true rfl, Nat.le_of_ble_eq_true rfl⟩ ⟨Nat.le_refl _, Nat.le_refl _⟩ dX10_isSame_28 fun H1 locs1 hz hP hS => ?_
      refine lv_icmp_eq (tgt := 36) hx hb dX10_isSame_31 rfl (fun hc31 => ?_) (fun hc31 => ?_)
      · have h := itt_e h hc31
        refine lv_iinc (k := 4) (v := (t3 + 1)) (lv' := [(4, .int (t3 + 1)), (0, .ref (Γ.2.1 + 3)), (1, .int a1), (2, .int a2), (3, .int a3)]) hx hb dX10_isSame_36 hl rfl rfl (by decide) rfl fun ls hl => ?_
        refine lv_goto (tgt := 3) hx hb dX10_isSame_39 rfl ?_
        exact ih3 (t3 + 1) h _ _ _ (lv_sub hl [1, 2, 3, 4, 0] rfl) hP hS hz
      · have h := itf_e h hc31
        refine lv_iconst (v := 0) hx hb dX10_isSame_34 rfl ?_
        exact w_iret hx hb hret rfl hlk hK hP hS hz hE (q_p1b h) dX10_isSame_35
  exact L3 z 0 h _ _ _ (lv_sub hl [1, 2, 3, 4, 0] rfl) hP hS hz
def j_Tokens_firstWithName_54 (K2 : Int32 → Option Int32) (t2 : Int32) : Option Int32 := K2 (t2 + 1)
def b_Tokens_firstWithName_2 (z : Nat) (v : Va) (a1 : Int32) (a2 : Int32) (K2 : Int32 → Option Int32) (t2 : Int32) : Option Int32 := if (v 3 2) ≤ t2 then (some (v 3 2)) else (bnd (row_g 401 (v 5) t2) fun q15 => if q15 = 47 then (bnd (row_g 401 (v 9) t2) fun q28 => if q28 = a2 then (bnd (row_g 401 (v 7) t2) fun q41 => (f_Tokens_isSame z v q41 a1 a2).bind fun q46 => if (q_b q46) = 0 then (j_Tokens_firstWithName_54 K2 t2) else (some t2)) else (j_Tokens_firstWithName_54 K2 t2)) else (j_Tokens_firstWithName_54 K2 t2))
def f_Tokens_firstWithName (z : Nat) (v : Va) (a1 : Int32) (a2 : Int32) : Option Int32 := rp (b_Tokens_firstWithName_2 z v a1 a2) z 0
theorem c_Tokens_firstWithName {a1 : Int32} {a2 : Int32} (hk : isTokens sh) {q : Int32} (h : f_Tokens_firstWithName z v a1 a2 = some q) : MetI l yX10_firstWithName cX10_firstWithName 4 (some .int) 2 Γ sh v w n [.ref (Γ.2.1 + 3), .int a1, .int a2] (fun x u => x = q ∧ u = v) := by
  unfold f_Tokens_firstWithName at h
  refine w_start pn_X10 (Nat.le_of_ble_eq_true rfl) fun p e s m args below meth c hx hb hml hret hlk hnm hts hown hK hP hz hE hS ls hl => ?_
  refine lv_iconst (v := 0) hx hb dX10_firstWithName_0 rfl ?_
  refine lv_istore_n (lv' := [(3, .int 0), (0, .ref (Γ.2.1 + 3)), (1, .int a1), (2, .int a2)]) hx hb dX10_firstWithName_1 rfl hl (by decide) rfl fun ls hl => ?_
  have L2 : ∀ (fu : Nat) (t2 : Int32), rp (b_Tokens_firstWithName_2 z v a1 a2) fu t2 = some q → ∀ (H1 : Heap) (locs1 : List Loc) (ls1 : Array Slot), lv_has ls1 4 [(0, .ref (Γ.2.1 + 3)), (1, .int a1), (2, .int a2), (3, .int t2)] → Wd Γ sh v w H1 → va_S (gA Γ sh n) s.heap H1 locs1 → H1.size = Γ.2.1 + n → wpI Γ sh w n 2 (fun x u => x = q ∧ u = v) p l e s m args below meth c H1 locs1 (F0 m 2 ls1 []) := by
    refine q_loop (fun K2 ih2 t2 h H1 locs1 ls hl hP hS hz => ?_)
    unfold b_Tokens_firstWithName_2 at h
    refine lv_iload_n hx hb dX10_firstWithName_2 rfl (lv_at hl 3 rfl) ?_
    refine lv_aload_n hx hb dX10_firstWithName_3 rfl (lv_at hl 0 rfl) ?_
    refine w_gi (k := 3) hx hb hts hown hK hP fX10_34 hk.1 rfl dX10_firstWithName_4 ?_
    refine lv_icmp_ge (tgt := 60) hx hb dX10_firstWithName_7 rfl (fun hc7 => ?_) (fun hc7 => ?_)
    · have h := itt_e h hc7
      refine lv_aload_n hx hb dX10_firstWithName_60 rfl (lv_at hl 0 rfl) ?_
      refine w_gi (k := 3) hx hb hts hown hK hP fX10_34 hk.1 rfl dX10_firstWithName_61 ?_
      exact w_iret hx hb hret rfl hlk hK hP hS hz hE (q_p1 h) dX10_firstWithName_64
    · have h := itf_e h hc7
      refine lv_aload_n hx hb dX10_firstWithName_10 rfl (lv_at hl 0 rfl) ?_
      refine w_gr (k := 3) (r := 4) hx hb hts hown hK hP fX10_18 hk.1 rfl dX10_firstWithName_11 ?_
      refine lv_iload_n hx hb dX10_firstWithName_14 rfl (lv_at hl 3 rfl) ?_
      obtain ⟨q15, e15, h⟩ := bnd_e h
      refine z_Vi (k := 4) (r1 := q15) (v1 := v) hx hb hml hts hown hK hP hS hz hE (C_Row_get hk.2.2.1 e15) kX7_get mX10_45 hk.2.2.1.1 rfl rfl rfl hl.1 (Nat.le_of_ble_eq_true rfl) ⟨Nat.le_of_ble_eq_true rfl, Nat.le_of_ble_eq_true rfl⟩ ⟨Nat.le_refl _, Nat.le_refl _⟩ dX10_firstWithName_15 fun H1 locs1 hz hP hS => ?_
      refine lv_bipush (v := 47) hx hb dX10_firstWithName_18 rfl ?_
      have J54 : (j_Tokens_firstWithName_54 K2 t2) = some q → ∀ (H1 : Heap) (locs1 : List Loc) (ls1 : Array Slot), lv_has ls1 4 [(0, .ref (Γ.2.1 + 3)), (1, .int a1), (2, .int a2), (3, .int t2)] → Wd Γ sh v w H1 → va_S (gA Γ sh n) s.heap H1 locs1 → H1.size = Γ.2.1 + n → wpI Γ sh w n 2 (fun x u => x = q ∧ u = v) p l e s m args below meth c H1 locs1 (F0 m 54 ls1 []) := by
        intro  h H1 locs1 ls hl hP hS hz
        unfold j_Tokens_firstWithName_54 at h
        refine lv_iinc (k := 3) (v := (t2 + 1)) (lv' := [(3, .int (t2 + 1)), (0, .ref (Γ.2.1 + 3)), (1, .int a1), (2, .int a2)]) hx hb dX10_firstWithName_54 hl rfl rfl (by decide) rfl fun ls hl => ?_
        refine lv_goto (tgt := 2) hx hb dX10_firstWithName_57 rfl ?_
        exact ih2 (t2 + 1) h _ _ _ (lv_sub hl [1, 2, 3, 0] rfl) hP hS hz
      refine lv_icmp_ne (tgt := 54) hx hb dX10_firstWithName_20 rfl (fun hc20 => ?_) (fun hc20 => ?_)
      · have h := itf_e h hc20
        exact J54 h _ _ _ (lv_sub hl [0, 1, 2, 3] rfl) hP hS hz
      · have h := itt_e h hc20
        refine lv_aload_n hx hb dX10_firstWithName_23 rfl (lv_at hl 0 rfl) ?_
        refine w_gr (k := 3) (r := 8) hx hb hts hown hK hP fX10_24 hk.1 rfl dX10_firstWithName_24 ?_
        refine lv_iload_n hx hb dX10_firstWithName_27 rfl (lv_at hl 3 rfl) ?_
        obtain ⟨q28, e28, h⟩ := bnd_e h
        refine z_Vi (k := 8) (r1 := q28) (v1 := v) hx hb hml hts hown hK hP hS hz hE (C_Row_get hk.2.2.2.2.1 e28) kX7_get mX10_45 hk.2.2.2.2.1.1 rfl rfl rfl hl.1 (Nat.le_of_ble_eq_true rfl) ⟨Nat.le_of_ble_eq_true rfl, Nat.le_of_ble_eq_true rfl⟩ ⟨Nat.le_refl _, Nat.le_refl _⟩ dX10_firstWithName_28 fun H1 locs1 hz hP hS => ?_
        refine lv_iload_n hx hb dX10_firstWithName_31 rfl (lv_at hl 2 rfl) ?_
        refine lv_icmp_ne (tgt := 54) hx hb dX10_firstWithName_32 rfl (fun hc32 => ?_) (fun hc32 => ?_)
        · have h := itf_e h hc32
          exact J54 h _ _ _ (lv_sub hl [0, 1, 2, 3] rfl) hP hS hz
        · have h := itt_e h hc32
          refine lv_aload_n hx hb dX10_firstWithName_35 rfl (lv_at hl 0 rfl) ?_
          refine lv_aload_n hx hb dX10_firstWithName_36 rfl (lv_at hl 0 rfl) ?_
          refine w_gr (k := 3) (r := 6) hx hb hts hown hK hP fX10_21 hk.1 rfl dX10_firstWithName_37 ?_
          refine lv_iload_n hx hb dX10_firstWithName_40 rfl (lv_at hl 3 rfl) ?_
          obtain ⟨q41, e41, h⟩ := bnd_e h
          refine z_Vi (k := 6) (r1 := q41) (v1 := v) hx hb hml hts hown hK hP hS hz hE (C_Row_get hk.2.2.2.1 e41) kX7_get mX10_45 hk.2.2.2.1.1 rfl rfl rfl hl.1 (Nat.le_of_ble_eq_true rfl) ⟨Nat.le_of_ble_eq_true rfl, Nat.le_of_ble_eq_true rfl⟩ ⟨Nat.le_refl _, Nat.le_refl _⟩ dX10_firstWithName_41 fun H1 locs1 hz hP hS => ?_
          refine lv_iload_n hx hb dX10_firstWithName_44 rfl (lv_at hl 1 rfl) ?_
          refine lv_iload_n hx hb dX10_firstWithName_45 rfl (lv_at hl 2 rfl) ?_
          obtain ⟨q46, e46, h⟩ := obn_e h
          refine z_Vi (k := 3) (r1 := (q_b q46)) (v1 := v) hx hb hml hts hown hK hP hS hz hE (c_Tokens_isSame hk e46) kX10_isSame mX10_97 hk.1 rfl rfl rfl hl.1 (Nat.le_of_ble_eq_true rfl) ⟨Nat.le_of_ble_eq_true rfl, Nat.le_of_ble_eq_true rfl⟩ ⟨Nat.le_refl _, Nat.le_refl _⟩ dX10_firstWithName_46 fun H1 locs1 hz hP hS => ?_
          refine lv_if_eq (tgt := 54) hx hb dX10_firstWithName_49 rfl (fun hc49 => ?_) (fun hc49 => ?_)
          · have h := itt_e h hc49
            exact J54 h _ _ _ (lv_sub hl [0, 1, 2, 3] rfl) hP hS hz
          · have h := itf_e h hc49
            refine lv_iload_n hx hb dX10_firstWithName_52 rfl (lv_at hl 3 rfl) ?_
            exact w_iret hx hb hret rfl hlk hK hP hS hz hE (q_p1 h) dX10_firstWithName_53
  exact L2 z 0 h _ _ _ (lv_sub hl [1, 2, 3, 0] rfl) hP hS hz
def f_Tokens_isLetter (a1 : Int32) : Option Bool := if a1 < 97 then (some false) else (if 122 < a1 then (some false) else (some true))
theorem c_Tokens_isLetter {a1 : Int32} {q : Bool} (h : f_Tokens_isLetter a1 = some q) : MetI l yX10_isLetter cX10_isLetter 1 (some .boolean) 0 Γ sh v w n [.int a1] (fun x u => x = q_b q ∧ u = v) := by
  unfold f_Tokens_isLetter at h
  refine w_start pn_X10 (Nat.le_of_ble_eq_true rfl) fun p e s m args below meth c hx hb hml hret hlk hnm hts hown hK hP hz hE hS ls hl => ?_
  refine lv_iload_n hx hb dX10_isLetter_0 rfl (lv_at hl 0 rfl) ?_
  refine lv_bipush (v := 97) hx hb dX10_isLetter_1 rfl ?_
  refine lv_icmp_lt (tgt := 16) hx hb dX10_isLetter_3 rfl (fun hc3 => ?_) (fun hc3 => ?_)
  · have h := itt_e h hc3
    refine lv_iconst (v := 0) hx hb dX10_isLetter_16 rfl ?_
    exact w_iret hx hb hret rfl hlk hK hP hS hz hE (q_p1b h) dX10_isLetter_17
  · have h := itf_e h hc3
    refine lv_iload_n hx hb dX10_isLetter_6 rfl (lv_at hl 0 rfl) ?_
    refine lv_bipush (v := 122) hx hb dX10_isLetter_7 rfl ?_
    refine lv_icmp_gt (tgt := 16) hx hb dX10_isLetter_9 rfl (fun hc9 => ?_) (fun hc9 => ?_)
    · have h := itt_e h hc9
      refine lv_iconst (v := 0) hx hb dX10_isLetter_16 rfl ?_
      exact w_iret hx hb hret rfl hlk hK hP hS hz hE (q_p1b h) dX10_isLetter_17
    · have h := itf_e h hc9
      refine lv_iconst (v := 1) hx hb dX10_isLetter_12 rfl ?_
      refine lv_goto (tgt := 17) hx hb dX10_isLetter_13 rfl ?_
      exact w_iret hx hb hret rfl hlk hK hP hS hz hE (q_p1b h) dX10_isLetter_17
end GE
