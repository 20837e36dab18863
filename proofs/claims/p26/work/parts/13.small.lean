
section GE
variable {l : Launch} {Γ : Cx} {sh : Sh} {v : Va} {w : Vl} {n z : Nat}
def f_Kind_joinsTests (a1 : Int32) : Option Bool := if a1 = 28 then (some true) else (if a1 = 29 then (some true) else (some false))
theorem c_Kind_joinsTests {a1 : Int32} {q : Bool} (h : f_Kind_joinsTests a1 = some q) : MetI l yX2_joinsTests cX2_joinsTests 1 (some .boolean) 0 Γ sh v w n [.int a1] (fun x u => x = q_b q ∧ u = v) := by
  unfold f_Kind_joinsTests at h
  refine w_start pn_X2 (Nat.le_of_ble_eq_true rfl) fun p e s m args below meth c hx hb hml hret hlk hnm hts hown hK hP hz hE hS ls hl => ?_
  refine lv_iload_n hx hb dX2_joinsTests_0 rfl (lv_at hl 0 rfl) ?_
  refine lv_bipush (v := 28) hx hb dX2_joinsTests_1 rfl ?_
  refine lv_icmp_eq (tgt := 12) hx hb dX2_joinsTests_3 rfl (fun hc3 => ?_) (fun hc3 => ?_)
  · have h := itt_e h hc3
    refine lv_iconst (v := 1) hx hb dX2_joinsTests_12 rfl ?_
    refine lv_goto (tgt := 17) hx hb dX2_joinsTests_13 rfl ?_
    exact w_iret hx hb hret rfl hlk hK hP hS hz hE (q_p1b h) dX2_joinsTests_17
  · have h := itf_e h hc3
    refine lv_iload_n hx hb dX2_joinsTests_6 rfl (lv_at hl 0 rfl) ?_
    refine lv_bipush (v := 29) hx hb dX2_joinsTests_7 rfl ?_
    refine lv_icmp_ne (tgt := 16) hx hb dX2_joinsTests_9 rfl (fun hc9 => ?_) (fun hc9 => ?_)
    · have h := itf_e h hc9
      refine lv_iconst (v := 0) hx hb dX2_joinsTests_16 rfl ?_
      exact w_iret hx hb hret rfl hlk hK hP hS hz hE (q_p1b h) dX2_joinsTests_17
    · have h := itt_e h hc9
      refine lv_iconst (v := 1) hx hb dX2_joinsTests_12 rfl ?_
      refine lv_goto (tgt := 17) hx hb dX2_joinsTests_13 rfl ?_
      exact w_iret hx hb hret rfl hlk hK hP hS hz hE (q_p1b h) dX2_joinsTests_17
def f_Kind_compares (a1 : Int32) : Option Bool := if a1 < 42 then (some false) else (if 46 < a1 then (some false) else (some true))
theorem c_Kind_compares {a1 : Int32} {q : Bool} (h : f_Kind_compares a1 = some q) : MetI l yX2_compares cX2_compares 1 (some .boolean) 0 Γ sh v w n [.int a1] (fun x u => x = q_b q ∧ u = v) := by
  unfold f_Kind_compares at h
  refine w_start pn_X2 (Nat.le_of_ble_eq_true rfl) fun p e s m args below meth c hx hb hml hret hlk hnm hts hown hK hP hz hE hS ls hl => ?_
  refine lv_iload_n hx hb dX2_compares_0 rfl (lv_at hl 0 rfl) ?_
  refine lv_bipush (v := 42) hx hb dX2_compares_1 rfl ?_
  refine lv_icmp_lt (tgt := 16) hx hb dX2_compares_3 rfl (fun hc3 => ?_) (fun hc3 => ?_)
  · have h := itt_e h hc3
    refine lv_iconst (v := 0) hx hb dX2_compares_16 rfl ?_
    exact w_iret hx hb hret rfl hlk hK hP hS hz hE (q_p1b h) dX2_compares_17
  · have h := itf_e h hc3
    refine lv_iload_n hx hb dX2_compares_6 rfl (lv_at hl 0 rfl) ?_
    refine lv_bipush (v := 46) hx hb dX2_compares_7 rfl ?_
    refine lv_icmp_gt (tgt := 16) hx hb dX2_compares_9 rfl (fun hc9 => ?_) (fun hc9 => ?_)
    · have h := itt_e h hc9
      refine lv_iconst (v := 0) hx hb dX2_compares_16 rfl ?_
      exact w_iret hx hb hret rfl hlk hK hP hS hz hE (q_p1b h) dX2_compares_17
    · have h := itf_e h hc9
      refine lv_iconst (v := 1) hx hb dX2_compares_12 rfl ?_
      refine lv_goto (tgt := 17) hx hb dX2_compares_13 rfl ?_
      exact w_iret hx hb hret rfl hlk hK hP hS hz hE (q_p1b h) dX2_compares_17
def j_Kind_joinsSums_12 (a1 : Int32) : Option Bool := if a1 = 30 then (some true) else (if a1 = 31 then (some true) else (some false))
def f_Kind_joinsSums (a1 : Int32) : Option Bool := if a1 < 38 then (j_Kind_joinsSums_12 a1) else (if a1 ≤ 41 then (some true) else (j_Kind_joinsSums_12 a1))
theorem c_Kind_joinsSums {a1 : Int32} {q : Bool} (h : f_Kind_joinsSums a1 = some q) : MetI l yX2_joinsSums cX2_joinsSums 1 (some .boolean) 0 Γ sh v w n [.int a1] (fun x u => x = q_b q ∧ u = v) := by
  unfold f_Kind_joinsSums at h
  refine w_start pn_X2 (Nat.le_of_ble_eq_true rfl) fun p e s m args below meth c hx hb hml hret hlk hnm hts hown hK hP hz hE hS ls hl => ?_
  refine lv_iload_n hx hb dX2_joinsSums_0 rfl (lv_at hl 0 rfl) ?_
  refine lv_bipush (v := 38) hx hb dX2_joinsSums_1 rfl ?_
  have J12 : (j_Kind_joinsSums_12 a1) = some q → ∀ (H1 : Heap) (locs1 : List Loc) (ls1 : Array Slot), lv_has ls1 1 [(0, .int a1)] → Wd Γ sh v w H1 → va_S (gA Γ sh n) s.heap H1 locs1 → H1.size = Γ.2.1 + n → wpI Γ sh w n 0 (fun x u => x = q_b q ∧ u = v) p l e s m args below meth c H1 locs1 (F0 m 12 ls1 []) := by
    intro  h H1 locs1 ls hl hP hS hz
    unfold j_Kind_joinsSums_12 at h
    refine lv_iload_n hx hb dX2_joinsSums_12 rfl (lv_at hl 0 rfl) ?_
    refine lv_bipush (v := 30) hx hb dX2_joinsSums_13 rfl ?_
    refine lv_icmp_eq (tgt := 24) hx hb dX2_joinsSums_15 rfl (fun hc15 => ?_) (fun hc15 => ?_)
    · have h := itt_e h hc15
      refine lv_iconst (v := 1) hx hb dX2_joinsSums_24 rfl ?_
      refine lv_goto (tgt := 29) hx hb dX2_joinsSums_25 rfl ?_
      exact w_iret hx hb hret rfl hlk hK hP hS hz hE (q_p1b h) dX2_joinsSums_29
    · have h := itf_e h hc15
      refine lv_iload_n hx hb dX2_joinsSums_18 rfl (lv_at hl 0 rfl) ?_
      refine lv_bipush (v := 31) hx hb dX2_joinsSums_19 rfl ?_
      refine lv_icmp_ne (tgt := 28) hx hb dX2_joinsSums_21 rfl (fun hc21 => ?_) (fun hc21 => ?_)
      · have h := itf_e h hc21
        refine lv_iconst (v := 0) hx hb dX2_joinsSums_28 rfl ?_
        exact w_iret hx hb hret rfl hlk hK hP hS hz hE (q_p1b h) dX2_joinsSums_29
      · have h := itt_e h hc21
        refine lv_iconst (v := 1) hx hb dX2_joinsSums_24 rfl ?_
        refine lv_goto (tgt := 29) hx hb dX2_joinsSums_25 rfl ?_
        exact w_iret hx hb hret rfl hlk hK hP hS hz hE (q_p1b h) dX2_joinsSums_29
  refine lv_icmp_lt (tgt := 12) hx hb dX2_joinsSums_3 rfl (fun hc3 => ?_) (fun hc3 => ?_)
  · have h := itt_e h hc3
    exact J12 h _ _ _ (lv_sub hl [0] rfl) hP hS hz
  · have h := itf_e h hc3
    refine lv_iload_n hx hb dX2_joinsSums_6 rfl (lv_at hl 0 rfl) ?_
    refine lv_bipush (v := 41) hx hb dX2_joinsSums_7 rfl ?_
    refine lv_icmp_le (tgt := 24) hx hb dX2_joinsSums_9 rfl (fun hc9 => ?_) (fun hc9 => ?_)
    · have h := itt_e h hc9
      refine lv_iconst (v := 1) hx hb dX2_joinsSums_24 rfl ?_
      refine lv_goto (tgt := 29) hx hb dX2_joinsSums_25 rfl ?_
      exact w_iret hx hb hret rfl hlk hK hP hS hz hE (q_p1b h) dX2_joinsSums_29
    · have h := itf_e h hc9
      exact J12 h _ _ _ (lv_sub hl [0] rfl) hP hS hz
def f_Names_forget (v : Va) (k : Nat) (N : Nat) : Option Va := bnd (pu v k 2 0) fun v2 => some v2
theorem c_Names_forget {k : Nat} {N : Nat} (hk : isNames sh k N) {q : Va} (h : f_Names_forget v k N = some q) : MetV l yX3_forget cX3_forget 1 none 0 Γ sh v w n [.ref (Γ.2.1 + k)] (fun u => u = q) := by
  unfold f_Names_forget at h
  refine w_start pn_X3 (Nat.le_of_ble_eq_true rfl) fun p e s m args below meth c hx hb hml hret hlk hnm hts hown hK hP hz hE hS ls hl => ?_
  refine lv_aload_n hx hb dX3_forget_0 rfl (lv_at hl 0 rfl) ?_
  refine lv_iconst (v := 0) hx hb dX3_forget_1 rfl ?_
  obtain ⟨v2, e2, h⟩ := bnd_e h
  refine w_pi2 (k := k) hx hb hts hown hK hP hS hz fX3_22 hk.1 rfl e2 dX3_forget_2 fun H1 locs1 hz hP hS => ?_
  exact w_vret hx hb hret hlk hK hP hS hz hE (Option.some.inj h) dX3_forget_5
def f_Names_told (v : Va) (k : Nat) (N : Nat) : Option Int32 := some (v k 2)
theorem c_Names_told {k : Nat} {N : Nat} (hk : isNames sh k N) {q : Int32} (h : f_Names_told v k N = some q) : MetI l yX3_told cX3_told 1 (some .int) 0 Γ sh v w n [.ref (Γ.2.1 + k)] (fun x u => x = q ∧ u = v) := by
  unfold f_Names_told at h
  refine w_start pn_X3 (Nat.le_of_ble_eq_true rfl) fun p e s m args below meth c hx hb hml hret hlk hnm hts hown hK hP hz hE hS ls hl => ?_
  refine lv_aload_n hx hb dX3_told_0 rfl (lv_at hl 0 rfl) ?_
  refine w_gi (k := k) hx hb hts hown hK hP fX3_22 hk.1 rfl dX3_told_1 ?_
  exact w_iret hx hb hret rfl hlk hK hP hS hz hE (q_p1 h) dX3_told_4
def f_Names_isFull (v : Va) (k : Nat) (N : Nat) : Option Bool := if (v k 2) < (v k 1) then (some false) else (some true)
theorem c_Names_isFull {k : Nat} {N : Nat} (hk : isNames sh k N) {q : Bool} (h : f_Names_isFull v k N = some q) : MetI l yX3_isFull cX3_isFull 1 (some .boolean) 0 Γ sh v w n [.ref (Γ.2.1 + k)] (fun x u => x = q_b q ∧ u = v) := by
  unfold f_Names_isFull at h
  refine w_start pn_X3 (Nat.le_of_ble_eq_true rfl) fun p e s m args below meth c hx hb hml hret hlk hnm hts hown hK hP hz hE hS ls hl => ?_
  refine lv_aload_n hx hb dX3_isFull_0 rfl (lv_at hl 0 rfl) ?_
  refine w_gi (k := k) hx hb hts hown hK hP fX3_22 hk.1 rfl dX3_isFull_1 ?_
  refine lv_aload_n hx hb dX3_isFull_4 rfl (lv_at hl 0 rfl) ?_
  refine w_gi (k := k) hx hb hts hown hK hP fX3_7 hk.1 rfl dX3_isFull_5 ?_
  refine lv_icmp_lt (tgt := 15) hx hb dX3_isFull_8 rfl (fun hc8 => ?_) (fun hc8 => ?_)
  · have h := itt_e h hc8
    refine lv_iconst (v := 0) hx hb dX3_isFull_15 rfl ?_
    exact w_iret hx hb hret rfl hlk hK hP hS hz hE (q_p1b h) dX3_isFull_16
  · have h := itf_e h hc8
    refine lv_iconst (v := 1) hx hb dX3_isFull_11 rfl ?_
    refine lv_goto (tgt := 16) hx hb dX3_isFull_12 rfl ?_
    exact w_iret hx hb hret rfl hlk hK hP hS hz hE (q_p1b h) dX3_isFull_16
def b_Names_find_2 (v : Va) (k : Nat) (N : Nat) (a1 : Int32) (K2 : Int32 → Option Int32) (t2 : Int32) : Option Int32 := if (v k 2) ≤ t2 then (some (-1)) else (bnd (row_g N (v (k + 2)) t2) fun q15 => if q15 = a1 then (some t2) else (K2 (t2 + 1)))
def f_Names_find (z : Nat) (v : Va) (k : Nat) (N : Nat) (a1 : Int32) : Option Int32 := rp (b_Names_find_2 v k N a1) z 0
theorem c_Names_find {k : Nat} {N : Nat} {a1 : Int32} (hk : isNames sh k N) {q : Int32} (h : f_Names_find z v k N a1 = some q) : MetI l yX3_find cX3_find 3 (some .int) 1 Γ sh v w n [.ref (Γ.2.1 + k), .int a1] (fun x u => x = q ∧ u = v) := by
  unfold f_Names_find at h
  refine w_start pn_X3 (Nat.le_of_ble_eq_true rfl) fun p e s m args below meth c hx hb hml hret hlk hnm hts hown hK hP hz hE hS ls hl => ?_
  refine lv_iconst (v := 0) hx hb dX3_find_0 rfl ?_
  refine lv_istore_n (lv' := [(2, .int 0), (0, .ref (Γ.2.1 + k)), (1, .int a1)]) hx hb dX3_find_1 rfl hl (by decide) rfl fun ls hl => ?_
  have L2 : ∀ (fu : Nat) (t2 : Int32), rp (b_Names_find_2 v k N a1) fu t2 = some q → ∀ (H1 : Heap) (locs1 : List Loc) (ls1 : Array Slot), lv_has ls1 3 [(0, .ref (Γ.2.1 + k)), (1, .int a1), (2, .int t2)] → Wd Γ sh v w H1 → va_S (gA Γ sh n) s.heap H1 locs1 → H1.size = Γ.2.1 + n → wpI Γ sh w n 1 (fun x u => x = q ∧ u = v) p l e s m args below meth c H1 locs1 (F0 m 2 ls1 []) := by
    refine q_loop (fun K2 ih2 t2 h H1 locs1 ls hl hP hS hz => ?_)
    unfold b_Names_find_2 at h
    refine lv_iload_n hx hb dX3_find_2 rfl (lv_at hl 2 rfl) ?_
    refine lv_aload_n hx hb dX3_find_3 rfl (lv_at hl 0 rfl) ?_
    refine w_gi (k := k) hx hb hts hown hK hP fX3_22 hk.1 rfl dX3_find_4 ?_
    refine lv_icmp_ge (tgt := 30) hx hb dX3_find_7 rfl (fun hc7 => ?_) (fun hc7 => ?_)
    · have h := itt_e h hc7
      refine lv_iconst (v := (-1)) hx hb dX3_find_30 rfl ?_
      exact w_iret hx hb hret rfl hlk hK hP hS hz hE (q_p1 h) dX3_find_31
    · have h := itf_e h hc7
      refine lv_aload_n hx hb dX3_find_10 rfl (lv_at hl 0 rfl) ?_
      refine w_gr (k := k) (r := (k + 1)) hx hb hts hown hK hP fX3_18 hk.1 rfl dX3_find_11 ?_
      refine lv_iload_n hx hb dX3_find_14 rfl (lv_at hl 2 rfl) ?_
      obtain ⟨q15, e15, h⟩ := bnd_e h
      refine z_Vi (k := (k + 1)) (r1 := q15) (v1 := v) hx hb hml hts hown hK hP hS hz hE (C_Row_get hk.2 e15) kX7_get mX3_25 hk.2.1 rfl rfl rfl hl.1 (Nat.le_of_ble_eq_true rfl) ⟨Nat.le_of_ble_eq_true rfl, Nat.le_of_ble_eq_true rfl⟩ ⟨Nat.le_refl _, Nat.le_refl _⟩ dX3_find_15 fun H1 locs1 hz hP hS => ?_
      refine lv_iload_n hx hb dX3_find_18 rfl (lv_at hl 1 rfl) ?_
      refine lv_icmp_ne (tgt := 24) hx hb dX3_find_19 rfl (fun hc19 => ?_) (fun hc19 => ?_)
      · have h := itf_e h hc19
        refine lv_iinc (k := 2) (v := (t2 + 1)) (lv' := [(2, .int (t2 + 1)), (0, .ref (Γ.2.1 + k)), (1, .int a1)]) hx hb dX3_find_24 hl rfl rfl (by decide) rfl fun ls hl => ?_
        refine lv_goto (tgt := 2) hx hb dX3_find_27 rfl ?_
        exact ih2 (t2 + 1) h _ _ _ (lv_sub hl [1, 2, 0] rfl) hP hS hz
      · have h := itt_e h hc19
        refine lv_iload_n hx hb dX3_find_22 rfl (lv_at hl 2 rfl) ?_
        exact w_iret hx hb hret rfl hlk hK hP hS hz hE (q_p1 h) dX3_find_23
  exact L2 z 0 h _ _ _ (lv_sub hl [1, 2, 0] rfl) hP hS hz
def f_Names_add (v : Va) (k : Nat) (N : Nat) (a1 : Int32) : Option (Int32 × Va) := bnd (up v (k + 2) (row_s N (v (k + 2)) (v k 2) a1)) fun q9 => bnd (pu q9 k 2 ((q9 k 2) + 1)) fun v19 => some (((v19 k 2) - 1), v19)
theorem c_Names_add {k : Nat} {N : Nat} {a1 : Int32} (hk : isNames sh k N) {q : Int32 × Va} (h : f_Names_add v k N a1 = some q) : MetI l yX3_add cX3_add 2 (some .int) 1 Γ sh v w n [.ref (Γ.2.1 + k), .int a1] (fun x u => x = q.1 ∧ u = q.2) := by
  unfold f_Names_add at h
  refine w_start pn_X3 (Nat.le_of_ble_eq_true rfl) fun p e s m args below meth c hx hb hml hret hlk hnm hts hown hK hP hz hE hS ls hl => ?_
  refine lv_aload_n hx hb dX3_add_0 rfl (lv_at hl 0 rfl) ?_
  refine w_gr (k := k) (r := (k + 1)) hx hb hts hown hK hP fX3_18 hk.1 rfl dX3_add_1 ?_
  refine lv_aload_n hx hb dX3_add_4 rfl (lv_at hl 0 rfl) ?_
  refine w_gi (k := k) hx hb hts hown hK hP fX3_22 hk.1 rfl dX3_add_5 ?_
  refine lv_iload_n hx hb dX3_add_8 rfl (lv_at hl 1 rfl) ?_
  obtain ⟨q9, e9, h⟩ := bnd_e h
  refine z_Vv (k := (k + 1)) (v1 := q9) hx hb hml hts hown hK hP hS hz hE (C_Row_set hk.2 e9) kX7_set mX3_29 hk.2.1 rfl rfl rfl hl.1 (Nat.le_of_ble_eq_true rfl) ⟨Nat.le_of_ble_eq_true rfl, Nat.le_of_ble_eq_true rfl⟩ ⟨Nat.le_refl _, Nat.le_refl _⟩ dX3_add_9 fun H1 locs1 hz hP hS => ?_
  refine lv_aload_n hx hb dX3_add_12 rfl (lv_at hl 0 rfl) ?_
  refine lv_dup hx hb dX3_add_13 rfl ?_
  refine w_gi (k := k) hx hb hts hown hK hP fX3_22 hk.1 rfl dX3_add_14 ?_
  refine lv_iconst (v := 1) hx hb dX3_add_17 rfl ?_
  refine lv_iadd hx hb dX3_add_18 ?_
  obtain ⟨v19, e19, h⟩ := bnd_e h
  refine w_pi2 (k := k) hx hb hts hown hK hP hS hz fX3_22 hk.1 rfl e19 dX3_add_19 fun H1 locs1 hz hP hS => ?_
  refine lv_aload_n hx hb dX3_add_22 rfl (lv_at hl 0 rfl) ?_
  refine w_gi (k := k) hx hb hts hown hK hP fX3_22 hk.1 rfl dX3_add_23 ?_
  refine lv_iconst (v := 1) hx hb dX3_add_26 rfl ?_
  refine lv_isub hx hb dX3_add_27 ?_
  exact w_iret hx hb hret rfl hlk hK hP hS hz hE (q_p2 h) dX3_add_28
def f_Steps_add (v : Va) (k : Nat) (a1 : Int32) (a2 : Int32) (a3 : Int32) : Option Va := bnd (up v (k + 2) (row_s 400 (v (k + 2)) (v k 0) a1)) fun q9 => bnd (up q9 (k + 4) (row_s 400 (q9 (k + 4)) (q9 k 0) a2)) fun q21 => bnd (up q21 (k + 6) (row_s 400 (q21 (k + 6)) (q21 k 0) a3)) fun q33 => bnd (pu q33 k 0 ((q33 k 0) + 1)) fun v43 => some v43
theorem c_Steps_add {k : Nat} {a1 : Int32} {a2 : Int32} {a3 : Int32} (hk : isSteps sh k) {q : Va} (h : f_Steps_add v k a1 a2 a3 = some q) : MetV l yX9_add cX9_add 4 none 1 Γ sh v w n [.ref (Γ.2.1 + k), .int a1, .int a2, .int a3] (fun u => u = q) := by
  unfold f_Steps_add at h
  refine w_start pn_X9 (Nat.le_of_ble_eq_true rfl) fun p e s m args below meth c hx hb hml hret hlk hnm hts hown hK hP hz hE hS ls hl => ?_
  refine lv_aload_n hx hb dX9_add_0 rfl (lv_at hl 0 rfl) ?_
  refine w_gr (k := k) (r := (k + 1)) hx hb hts hown hK hP fX9_20 hk.1 rfl dX9_add_1 ?_
  refine lv_aload_n hx hb dX9_add_4 rfl (lv_at hl 0 rfl) ?_
  refine w_gi (k := k) hx hb hts hown hK hP fX9_9 hk.1 rfl dX9_add_5 ?_
  refine lv_iload_n hx hb dX9_add_8 rfl (lv_at hl 1 rfl) ?_
  obtain ⟨q9, e9, h⟩ := bnd_e h
  refine z_Vv (k := (k + 1)) (v1 := q9) hx hb hml hts hown hK hP hS hz hE (C_Row_set hk.2.1 e9) kX7_set mX9_30 hk.2.1.1 rfl rfl rfl hl.1 (Nat.le_of_ble_eq_true rfl) ⟨Nat.le_of_ble_eq_true rfl, Nat.le_of_ble_eq_true rfl⟩ ⟨Nat.le_refl _, Nat.le_refl _⟩ dX9_add_9 fun H1 locs1 hz hP hS => ?_
  refine lv_aload_n hx hb dX9_add_12 rfl (lv_at hl 0 rfl) ?_
  refine w_gr (k := k) (r := (k + 3)) hx hb hts hown hK hP fX9_24 hk.1 rfl dX9_add_13 ?_
  refine lv_aload_n hx hb dX9_add_16 rfl (lv_at hl 0 rfl) ?_
  refine w_gi (k := k) hx hb hts hown hK hP fX9_9 hk.1 rfl dX9_add_17 ?_
  refine lv_iload_n hx hb dX9_add_20 rfl (lv_at hl 2 rfl) ?_
  obtain ⟨q21, e21, h⟩ := bnd_e h
  refine z_Vv (k := (k + 3)) (v1 := q21) hx hb hml hts hown hK hP hS hz hE (C_Row_set hk.2.2.1 e21) kX7_set mX9_30 hk.2.2.1.1 rfl rfl rfl hl.1 (Nat.le_of_ble_eq_true rfl) ⟨Nat.le_of_ble_eq_true rfl, Nat.le_of_ble_eq_true rfl⟩ ⟨Nat.le_refl _, Nat.le_refl _⟩ dX9_add_21 fun H1 locs1 hz hP hS => ?_
  refine lv_aload_n hx hb dX9_add_24 rfl (lv_at hl 0 rfl) ?_
  refine w_gr (k := k) (r := (k + 5)) hx hb hts hown hK hP fX9_27 hk.1 rfl dX9_add_25 ?_
  refine lv_aload_n hx hb dX9_add_28 rfl (lv_at hl 0 rfl) ?_
  refine w_gi (k := k) hx hb hts hown hK hP fX9_9 hk.1 rfl dX9_add_29 ?_
  refine lv_iload_n hx hb dX9_add_32 rfl (lv_at hl 3 rfl) ?_
  obtain ⟨q33, e33, h⟩ := bnd_e h
  refine z_Vv (k := (k + 5)) (v1 := q33) hx hb hml hts hown hK hP hS hz hE (C_Row_set hk.2.2.2 e33) kX7_set mX9_30 hk.2.2.2.1 rfl rfl rfl hl.1 (Nat.le_of_ble_eq_true rfl) ⟨Nat.le_of_ble_eq_true rfl, Nat.le_of_ble_eq_true rfl⟩ ⟨Nat.le_refl _, Nat.le_refl _⟩ dX9_add_33 fun H1 locs1 hz hP hS => ?_
  refine lv_aload_n hx hb dX9_add_36 rfl (lv_at hl 0 rfl) ?_
  refine lv_dup hx hb dX9_add_37 rfl ?_
  refine w_gi (k := k) hx hb hts hown hK hP fX9_9 hk.1 rfl dX9_add_38 ?_
  refine lv_iconst (v := 1) hx hb dX9_add_41 rfl ?_
  refine lv_iadd hx hb dX9_add_42 ?_
  obtain ⟨v43, e43, h⟩ := bnd_e h
  refine w_pi2 (k := k) hx hb hts hown hK hP hS hz fX9_9 hk.1 rfl e43 dX9_add_43 fun H1 locs1 hz hP hS => ?_
  exact w_vret hx hb hret hlk hK hP hS hz hE (Option.some.inj h) dX9_add_46
def f_Steps_copyFrom (v : Va) (k : Nat) (k1 : Nat) : Option Va := bnd (pu v k 0 (v k1 0)) fun v5 => bnd (up v5 (k + 2) (row_c 400 (v5 (k + 2)) 400 (v5 (k1 + 2)))) fun q16 => bnd (up q16 (k + 4) (row_c 400 (q16 (k + 4)) 400 (q16 (k1 + 4)))) fun q27 => bnd (up q27 (k + 6) (row_c 400 (q27 (k + 6)) 400 (q27 (k1 + 6)))) fun q38 => some q38
theorem c_Steps_copyFrom {k : Nat} {k1 : Nat} (hk : isSteps sh k) (hk1 : isSteps sh k1) (hne : k ≠ k1) {q : Va} (h : f_Steps_copyFrom v k k1 = some q) : MetV l yX9_copyFrom cX9_copyFrom 2 none 2 Γ sh v w n [.ref (Γ.2.1 + k), .ref (Γ.2.1 + k1)] (fun u => u = q) := by
  unfold f_Steps_copyFrom at h
  refine w_start pn_X9 (Nat.le_of_ble_eq_true rfl) fun p e s m args below meth c hx hb hml hret hlk hnm hts hown hK hP hz hE hS ls hl => ?_
  refine lv_aload_n hx hb dX9_copyFrom_0 rfl (lv_at hl 0 rfl) ?_
  refine lv_aload_n hx hb dX9_copyFrom_1 rfl (lv_at hl 1 rfl) ?_
  refine w_gi (k := k1) hx hb hts hown hK hP fX9_9 hk1.1 rfl dX9_copyFrom_2 ?_
  obtain ⟨v5, e5, h⟩ := bnd_e h
  refine w_pi2 (k := k) hx hb hts hown hK hP hS hz fX9_9 hk.1 rfl e5 dX9_copyFrom_5 fun H1 locs1 hz hP hS => ?_
  refine lv_aload_n hx hb dX9_copyFrom_8 rfl (lv_at hl 0 rfl) ?_
  refine w_gr (k := k) (r := (k + 1)) hx hb hts hown hK hP fX9_20 hk.1 rfl dX9_copyFrom_9 ?_
  refine lv_aload_n hx hb dX9_copyFrom_12 rfl (lv_at hl 1 rfl) ?_
  refine w_gr (k := k1) (r := (k1 + 1)) hx hb hts hown hK hP fX9_20 hk1.1 rfl dX9_copyFrom_13 ?_
  obtain ⟨q16, e16, h⟩ := bnd_e h
  refine z_Vv (k := (k + 1)) (v1 := q16) hx hb hml hts hown hK hP hS hz hE (C_Row_copyFrom hk.2.1 hk1.2.1 (by omega) e16) kX7_copyFrom mX9_34 hk.2.1.1 rfl rfl rfl hl.1 (Nat.le_of_ble_eq_true rfl) ⟨Nat.le_of_ble_eq_true rfl, Nat.le_of_ble_eq_true rfl⟩ ⟨Nat.le_refl _, Nat.le_refl _⟩ dX9_copyFrom_16 fun H1 locs1 hz hP hS => ?_
  refine lv_aload_n hx hb dX9_copyFrom_19 rfl (lv_at hl 0 rfl) ?_
  refine w_gr (k := k) (r := (k + 3)) hx hb hts hown hK hP fX9_24 hk.1 rfl dX9_copyFrom_20 ?_
  refine lv_aload_n hx hb dX9_copyFrom_23 rfl (lv_at hl 1 rfl) ?_
  refine w_gr (k := k1) (r := (k1 + 3)) hx hb hts hown hK hP fX9_24 hk1.1 rfl dX9_copyFrom_24 ?_
  obtain ⟨q27, e27, h⟩ := bnd_e h
  refine z_Vv (k := (k + 3)) (v1 := q27) hx hb hml hts hown hK hP hS hz hE (C_Row_copyFrom hk.2.2.1 hk1.2.2.1 (by omega) e27) kX7_copyFrom mX9_34 hk.2.2.1.1 rfl rfl rfl hl.1 (Nat.le_of_ble_eq_true rfl) ⟨Nat.le_of_ble_eq_true rfl, Nat.le_of_ble_eq_true rfl⟩ ⟨Nat.le_refl _, Nat.le_refl _⟩ dX9_copyFrom_27 fun H1 locs1 hz hP hS => ?_
  refine lv_aload_n hx hb dX9_copyFrom_30 rfl (lv_at hl 0 rfl) ?_
  refine w_gr (k := k) (r := (k + 5)) hx hb hts hown hK hP fX9_27 hk.1 rfl dX9_copyFrom_31 ?_
  refine lv_aload_n hx hb dX9_copyFrom_34 rfl (lv_at hl 1 rfl) ?_
  refine w_gr (k := k1) (r := (k1 + 5)) hx hb hts hown hK hP fX9_27 hk1.1 rfl dX9_copyFrom_35 ?_
  obtain ⟨q38, e38, h⟩ := bnd_e h
  refine z_Vv (k := (k + 5)) (v1 := q38) hx hb hml hts hown hK hP hS hz hE (C_Row_copyFrom hk.2.2.2 hk1.2.2.2 (by omega) e38) kX7_copyFrom mX9_34 hk.2.2.2.1 rfl rfl rfl hl.1 (Nat.le_of_ble_eq_true rfl) ⟨Nat.le_of_ble_eq_true rfl, Nat.le_of_ble_eq_true rfl⟩ ⟨Nat.le_refl _, Nat.le_refl _⟩ dX9_copyFrom_38 fun H1 locs1 hz hP hS => ?_
  exact w_vret hx hb hret hlk hK hP hS hz hE (Option.some.inj h) dX9_copyFrom_41
def f_Plan_copyFrom (v : Va) (k : Nat) (k1 : Nat) : Option Va := bnd (pu v k 0 (v k1 0)) fun v5 => bnd (pu v5 k 1 (v5 k1 1)) fun v13 => bnd (pu v13 k 2 (v13 k1 2)) fun v21 => bnd (pu v21 k 3 (v21 k1 3)) fun v29 => bnd (pu v29 k 4 (v29 k1 4)) fun v37 => bnd (up v37 (k + 2) (row_c 4 (v37 (k + 2)) 4 (v37 (k1 + 2)))) fun q48 => bnd (up q48 (k + 4) (row_c 4 (q48 (k + 4)) 4 (q48 (k1 + 4)))) fun q59 => bnd (up q59 (k + 6) (row_c 4 (q59 (k + 6)) 4 (q59 (k1 + 6)))) fun q70 => bnd (up q70 (k + 8) (row_c 6 (q70 (k + 8)) 6 (q70 (k1 + 8)))) fun q81 => bnd (up q81 (k + 10) (row_c 6 (q81 (k + 10)) 6 (q81 (k1 + 10)))) fun q92 => bnd (up q92 (k + 12) (row_c 10 (q92 (k + 12)) 10 (q92 (k1 + 12)))) fun q103 => bnd (up q103 (k + 14) (row_c 10 (q103 (k + 14)) 10 (q103 (k1 + 14)))) fun q114 => bnd (up q114 (k + 16) (row_c 10 (q114 (k + 16)) 10 (q114 (k1 + 16)))) fun q125 => bnd (up q125 (k + 18) (row_c 24 (q125 (k + 18)) 24 (q125 (k1 + 18)))) fun q136 => bnd (up q136 (k + 20) (row_c 24 (q136 (k + 20)) 24 (q136 (k1 + 20)))) fun q147 => bnd (up q147 (k + 22) (row_c 24 (q147 (k + 22)) 24 (q147 (k1 + 22)))) fun q158 => bnd (up q158 (k + 24) (row_c 24 (q158 (k + 24)) 24 (q158 (k1 + 24)))) fun q169 => bnd (up q169 (k + 26) (row_c 24 (q169 (k + 26)) 24 (q169 (k1 + 26)))) fun q180 => bnd (up q180 (k + 28) (row_c 24 (q180 (k + 28)) 24 (q180 (k1 + 28)))) fun q191 => (f_Steps_copyFrom q191 (k + 29) (k1 + 29)).bind fun q202 => some q202
theorem c_Plan_copyFrom {k : Nat} {k1 : Nat} (hk : isPlan sh k) (hk1 : isPlan sh k1) (hne : k ≠ k1) {q : Va} (h : f_Plan_copyFrom v k k1 = some q) : MetV l yX4_copyFrom cX4_copyFrom 2 none 3 Γ sh v w n [.ref (Γ.2.1 + k), .ref (Γ.2.1 + k1)] (fun u => u = q) := by
  unfold f_Plan_copyFrom at h
  refine w_start pn_X4 (Nat.le_of_ble_eq_true rfl) fun p e s m args below meth c hx hb hml hret hlk hnm hts hown hK hP hz hE hS ls hl => ?_
  refine lv_aload_n hx hb dX4_copyFrom_0 rfl (lv_at hl 0 rfl) ?_
  refine lv_aload_n hx hb dX4_copyFrom_1 rfl (lv_at hl 1 rfl) ?_
  refine w_gi (k := k1) hx hb hts hown hK hP fX4_64 hk1.1 rfl dX4_copyFrom_2 ?_
  obtain ⟨v5, e5, h⟩ := bnd_e h
  refine w_pi2 (k := k) hx hb hts hown hK hP hS hz fX4_64 hk.1 rfl e5 dX4_copyFrom_5 fun H1 locs1 hz hP hS => ?_
  refine lv_aload_n hx hb dX4_copyFrom_8 rfl (lv_at hl 0 rfl) ?_
  refine lv_aload_n hx hb dX4_copyFrom_9 rfl (lv_at hl 1 rfl) ?_
  refine w_gi (k := k1) hx hb hts hown hK hP fX4_68 hk1.1 rfl dX4_copyFrom_10 ?_
  obtain ⟨v13, e13, h⟩ := bnd_e h
  refine w_pi2 (k := k) hx hb hts hown hK hP hS hz fX4_68 hk.1 rfl e13 dX4_copyFrom_13 fun H1 locs1 hz hP hS => ?_
  refine lv_aload_n hx hb dX4_copyFrom_16 rfl (lv_at hl 0 rfl) ?_
  refine lv_aload_n hx hb dX4_copyFrom_17 rfl (lv_at hl 1 rfl) ?_
  refine w_gi (k := k1) hx hb hts hown hK hP fX4_71 hk1.1 rfl dX4_copyFrom_18 ?_
  obtain ⟨v21, e21, h⟩ := bnd_e h
  refine w_pi2 (k := k) hx hb hts hown hK hP hS hz fX4_71 hk.1 rfl e21 dX4_copyFrom_21 fun H1 locs1 hz hP hS => ?_
  refine lv_aload_n hx hb dX4_copyFrom_24 rfl (lv_at hl 0 rfl) ?_
  refine lv_aload_n hx hb dX4_copyFrom_25 rfl (lv_at hl 1 rfl) ?_
  refine w_gi (k := k1) hx hb hts hown hK hP fX4_74 hk1.1 rfl dX4_copyFrom_26 ?_
  obtain ⟨v29, e29, h⟩ := bnd_e h
  refine w_pi2 (k := k) hx hb hts hown hK hP hS hz fX4_74 hk.1 rfl e29 dX4_copyFrom_29 fun H1 locs1 hz hP hS => ?_
  refine lv_aload_n hx hb dX4_copyFrom_32 rfl (lv_at hl 0 rfl) ?_
  refine lv_aload_n hx hb dX4_copyFrom_33 rfl (lv_at hl 1 rfl) ?_
  refine w_gi (k := k1) hx hb hts hown hK hP fX4_77 hk1.1 rfl dX4_copyFrom_34 ?_
  obtain ⟨v37, e37, h⟩ := bnd_e h
  refine w_pi2 (k := k) hx hb hts hown hK hP hS hz fX4_77 hk.1 rfl e37 dX4_copyFrom_37 fun H1 locs1 hz hP hS => ?_
  refine lv_aload_n hx hb dX4_copyFrom_40 rfl (lv_at hl 0 rfl) ?_
  refine w_gr (k := k) (r := (k + 1)) hx hb hts hown hK hP fX4_14 hk.1 rfl dX4_copyFrom_41 ?_
  refine lv_aload_n hx hb dX4_copyFrom_44 rfl (lv_at hl 1 rfl) ?_
  refine w_gr (k := k1) (r := (k1 + 1)) hx hb hts hown hK hP fX4_14 hk1.1 rfl dX4_copyFrom_45 ?_
  obtain ⟨q48, e48, h⟩ := bnd_e h
  refine z_Vv (k := (k + 1)) (v1 := q48) hx hb hml hts hown hK hP hS hz hE (C_Row_copyFrom hk.2.1 hk1.2.1 (by omega) e48) kX7_copyFrom mX4_80 hk.2.1.1 rfl rfl rfl hl.1 (Nat.le_of_ble_eq_true rfl) ⟨Nat.le_of_ble_eq_true rfl, Nat.le_of_ble_eq_true rfl⟩ ⟨Nat.le_refl _, Nat.le_refl _⟩ dX4_copyFrom_48 fun H1 locs1 hz hP hS => ?_
  refine lv_aload_n hx hb dX4_copyFrom_51 rfl (lv_at hl 0 rfl) ?_
  refine w_gr (k := k) (r := (k + 3)) hx hb hts hown hK hP fX4_18 hk.1 rfl dX4_copyFrom_52 ?_
  refine lv_aload_n hx hb dX4_copyFrom_55 rfl (lv_at hl 1 rfl) ?_
  refine w_gr (k := k1) (r := (k1 + 3)) hx hb hts hown hK hP fX4_18 hk1.1 rfl dX4_copyFrom_56 ?_
  obtain ⟨q59, e59, h⟩ := bnd_e h
  refine z_Vv (k := (k + 3)) (v1 := q59) hx hb hml hts hown hK hP hS hz hE (C_Row_copyFrom hk.2.2.1 hk1.2.2.1 (by omega) e59) kX7_copyFrom mX4_80 hk.2.2.1.1 rfl rfl rfl hl.1 (Nat.le_of_ble_eq_true rfl) ⟨Nat.le_of_ble_eq_true rfl, Nat.le_of_ble_eq_true rfl⟩ ⟨Nat.le_refl _, Nat.le_refl _⟩ dX4_copyFrom_59 fun H1 locs1 hz hP hS => ?_
  refine lv_aload_n hx hb dX4_copyFrom_62 rfl (lv_at hl 0 rfl) ?_
  refine w_gr (k := k) (r := (k + 5)) hx hb hts hown hK hP fX4_21 hk.1 rfl dX4_copyFrom_63 ?_
  refine lv_aload_n hx hb dX4_copyFrom_66 rfl (lv_at hl 1 rfl) ?_
  refine w_gr (k := k1) (r := (k1 + 5)) hx hb hts hown hK hP fX4_21 hk1.1 rfl dX4_copyFrom_67 ?_
  obtain ⟨q70, e70, h⟩ := bnd_e h
  refine z_Vv (k := (k + 5)) (v1 := q70) hx hb hml hts hown hK hP hS hz hE (C_Row_copyFrom hk.2.2.2.1 hk1.2.2.2.1 (by omega) e70) kX7_copyFrom mX4_80 hk.2.2.2.1.1 rfl rfl rfl hl.1 (Nat.le_of_ble_eq_true rfl) ⟨Nat.le_of_ble_eq_true rfl, Nat.le_of_ble_eq_true rfl⟩ ⟨Nat.le_refl _, Nat.le_refl _⟩ dX4_copyFrom_70 fun H1 locs1 hz hP hS => ?_
  refine lv_aload_n hx hb dX4_copyFrom_73 rfl (lv_at hl 0 rfl) ?_
  refine w_gr (k := k) (r := (k + 7)) hx hb hts hown hK hP fX4_24 hk.1 rfl dX4_copyFrom_74 ?_
  refine lv_aload_n hx hb dX4_copyFrom_77 rfl (lv_at hl 1 rfl) ?_
  refine w_gr (k := k1) (r := (k1 + 7)) hx hb hts hown hK hP fX4_24 hk1.1 rfl dX4_copyFrom_78 ?_
  obtain ⟨q81, e81, h⟩ := bnd_e h
  refine z_Vv (k := (k + 7)) (v1 := q81) hx hb hml hts hown hK hP hS hz hE (C_Row_copyFrom hk.2.2.2.2.1 hk1.2.2.2.2.1 (by omega) e81) kX7_copyFrom mX4_80 hk.2.2.2.2.1.1 rfl rfl rfl hl.1 (Nat.le_of_ble_eq_true rfl) ⟨Nat.le_of_ble_eq_true rfl, Nat.le_of_ble_eq_true rfl⟩ ⟨Nat.le_refl _, Nat.le_refl _⟩ dX4_copyFrom_81 fun H1 locs1 hz hP hS => ?_
  refine lv_aload_n hx hb dX4_copyFrom_84 rfl (lv_at hl 0 rfl) ?_
  refine w_gr (k := k) (r := (k + 9)) hx hb hts hown hK hP fX4_27 hk.1 rfl dX4_copyFrom_85 ?_
  refine lv_aload_n hx hb dX4_copyFrom_88 rfl (lv_at hl 1 rfl) ?_
  refine w_gr (k := k1) (r := (k1 + 9)) hx hb hts hown hK hP fX4_27 hk1.1 rfl dX4_copyFrom_89 ?_
  obtain ⟨q92, e92, h⟩ := bnd_e h
  refine z_Vv (k := (k + 9)) (v1 := q92) hx hb hml hts hown hK hP hS hz hE (C_Row_copyFrom hk.2.2.2.2.2.1 hk1.2.2.2.2.2.1 (by omega) e92) kX7_copyFrom mX4_80 hk.2.2.2.2.2.1.1 rfl rfl rfl hl.1 (Nat.le_of_ble_eq_true rfl) ⟨Nat.le_of_ble_eq_true rfl, Nat.le_of_ble_eq_true rfl⟩ ⟨Nat.le_refl _, Nat.le_refl _⟩ dX4_copyFrom_92 fun H1 locs1 hz hP hS => ?_
  refine lv_aload_n hx hb dX4_copyFrom_95 rfl (lv_at hl 0 rfl) ?_
  refine w_gr (k := k) (r := (k + 11)) hx hb hts hown hK hP fX4_30 hk.1 rfl dX4_copyFrom_96 ?_
  refine lv_aload_n hx hb dX4_copyFrom_99 rfl (lv_at hl 1 rfl) ?_
  refine w_gr (k := k1) (r := (k1 + 11)) hx hb hts hown hK hP fX4_30 hk1.1 rfl dX4_copyFrom_100 ?_
  obtain ⟨q103, e103, h⟩ := bnd_e h
  refine z_Vv (k := (k + 11)) (v1 := q103) hx hb hml hts hown hK hP hS hz hE (C_Row_copyFrom hk.2.2.2.2.2.2.1 hk1.2.2.2.2.2.2.1 (by omega) e103) kX7_copyFrom mX4_80 hk.2.2.2.2.2.2.1.1 rfl rfl rfl hl.1 (Nat.le_of_ble_eq_true rfl) ⟨Nat.le_of_ble_eq_true rfl, Nat.le_of_ble_eq_true rfl⟩ ⟨Nat.le_refl _, Nat.le_refl _⟩ dX4_copyFrom_103 fun H1 locs1 hz hP hS => ?_
  refine lv_aload_n hx hb dX4_copyFrom_106 rfl (lv_at hl 0 rfl) ?_
  refine w_gr (k := k) (r := (k + 13)) hx hb hts hown hK hP fX4_33 hk.1 rfl dX4_copyFrom_107 ?_
  refine lv_aload_n hx hb dX4_copyFrom_110 rfl (lv_at hl 1 rfl) ?_
  refine w_gr (k := k1) (r := (k1 + 13)) hx hb hts hown hK hP fX4_33 hk1.1 rfl dX4_copyFrom_111 ?_
  obtain ⟨q114, e114, h⟩ := bnd_e h
  refine z_Vv (k := (k + 13)) (v1 := q114) hx hb hml hts hown hK hP hS hz hE (C_Row_copyFrom hk.2.2.2.2.2.2.2.1 hk1.2.2.2.2.2.2.2.1 (by omega) e114) kX7_copyFrom mX4_80 hk.2.2.2.2.2.2.2.1.1 rfl rfl rfl hl.1 (Nat.le_of_ble_eq_true rfl) ⟨Nat.le_of_ble_eq_true rfl, Nat.le_of_ble_eq_true rfl⟩ ⟨Nat.le_refl _, Nat.le_refl _⟩ dX4_copyFrom_114 fun H1 locs1 hz hP hS => ?_
  refine lv_aload_n hx hb dX4_copyFrom_117 rfl (lv_at hl 0 rfl) ?_
  refine w_gr (k := k) (r := (k + 15)) hx hb hts hown hK hP fX4_36 hk.1 rfl dX4_copyFrom_118 ?_
  refine lv_aload_n hx hb dX4_copyFrom_121 rfl (lv_at hl 1 rfl) ?_
  refine w_gr (k := k1) (r := (k1 + 15)) hx hb hts hown hK hP fX4_36 hk1.1 rfl dX4_copyFrom_122 ?_
  obtain ⟨q125, e125, h⟩ := bnd_e h
  refine z_Vv (k := (k + 15)) (v1 := q125) hx hb hml hts hown hK hP hS hz hE (C_Row_copyFrom hk.2.2.2.2.2.2.2.2.1 hk1.2.2.2.2.2.2.2.2.1 (by omega) e125) kX7_copyFrom mX4_80 hk.2.2.2.2.2.2.2.2.1.1 rfl rfl rfl hl.1 (Nat.le_of_ble_eq_true rfl) ⟨Nat.le_of_ble_eq_true rfl, Nat.le_of_ble_eq_true rfl⟩ ⟨Nat.le_refl _, Nat.le_refl _⟩ dX4_copyFrom_125 fun H1 locs1 hz hP hS => ?_
  refine lv_aload_n hx hb dX4_copyFrom_128 rfl (lv_at hl 0 rfl) ?_
  refine w_gr (k := k) (r := (k + 17)) hx hb hts hown hK hP fX4_39 hk.1 rfl dX4_copyFrom_129 ?_
  refine lv_aload_n hx hb dX4_copyFrom_132 rfl (lv_at hl 1 rfl) ?_
  refine w_gr (k := k1) (r := (k1 + 17)) hx hb hts hown hK hP fX4_39 hk1.1 rfl dX4_copyFrom_133 ?_
  obtain ⟨q136, e136, h⟩ := bnd_e h
  refine z_Vv (k := (k + 17)) (v1 := q136) hx hb hml hts hown hK hP hS hz hE (C_Row_copyFrom hk.2.2.2.2.2.2.2.2.2.1 hk1.2.2.2.2.2.2.2.2.2.1 (by omega) e136) kX7_copyFrom mX4_80 hk.2.2.2.2.2.2.2.2.2.1.1 rfl rfl rfl hl.1 (Nat.le_of_ble_eq_true rfl) ⟨Nat.le_of_ble_eq_true rfl, Nat.le_of_ble_eq_true rfl⟩ ⟨Nat.le_refl _, Nat.le_refl _⟩ dX4_copyFrom_136 fun H1 locs1 hz hP hS => ?_
  refine lv_aload_n hx hb dX4_copyFrom_139 rfl (lv_at hl 0 rfl) ?_
  refine w_gr (k := k) (r := (k + 19)) hx hb hts hown hK hP fX4_42 hk.1 rfl dX4_copyFrom_140 ?_
  refine lv_aload_n hx hb dX4_copyFrom_143 rfl (lv_at hl 1 rfl) ?_
  refine w_gr (k := k1) (r := (k1 + 19)) hx hb hts hown hK hP fX4_42 hk1.1 rfl dX4_copyFrom_144 ?_
  obtain ⟨q147, e147, h⟩ := bnd_e h
  refine z_Vv (k := (k + 19)) (v1 := q147) hx hb hml hts hown hK hP hS hz hE (C_Row_copyFrom hk.2.2.2.2.2.2.2.2.2.2.1 hk1.2.2.2.2.2.2.2.2.2.2.1 (by omega) e147) kX7_copyFrom mX4_80 hk.2.2.2.2.2.2.2.2.2.2.1.1 rfl rfl rfl hl.1 (Nat.le_of_ble_eq_true rfl) ⟨Nat.le_of_ble_eq_true rfl, Nat.le_of_ble_eq_true rfl⟩ ⟨Nat.le_refl _, Nat.le_refl _⟩ dX4_copyFrom_147 fun H1 locs1 hz hP hS => ?_
  refine lv_aload_n hx hb dX4_copyFrom_150 rfl (lv_at hl 0 rfl) ?_
  refine w_gr (k := k) (r := (k + 21)) hx hb hts hown hK hP fX4_45 hk.1 rfl dX4_copyFrom_151 ?_
  refine lv_aload_n hx hb dX4_copyFrom_154 rfl (lv_at hl 1 rfl) ?_
  refine w_gr (k := k1) (r := (k1 + 21)) hx hb hts hown hK hP fX4_45 hk1.1 rfl dX4_copyFrom_155 ?_
  obtain ⟨q158, e158, h⟩ := bnd_e h
  refine z_Vv (k := (k + 21)) (v1 := q158) hx hb hml hts hown hK hP hS hz hE (C_Row_copyFrom hk.2.2.2.2.2.2.2.2.2.2.2.1 hk1.2.2.2.2.2.2.2.2.2.2.2.1 (by omega) e158) kX7_copyFrom mX4_80 hk.2.2.2.2.2.2.2.2.2.2.2.1.1 rfl rfl rfl hl.1 (Nat.le_of_ble_eq_true rfl) ⟨Nat.le_of_ble_eq_true rfl, Nat.le_of_ble_eq_true rfl⟩ ⟨Nat.le_refl _, Nat.le_refl _⟩ dX4_copyFrom_158 fun H1 locs1 hz hP hS => ?_
  refine lv_aload_n hx hb dX4_copyFrom_161 rfl (lv_at hl 0 rfl) ?_
  refine w_gr (k := k) (r := (k + 23)) hx hb hts hown hK hP fX4_48 hk.1 rfl dX4_copyFrom_162 ?_
  refine lv_aload_n hx hb dX4_copyFrom_165 rfl (lv_at hl 1 rfl) ?_
  refine w_gr (k := k1) (r := (k1 + 23)) hx hb hts hown hK hP fX4_48 hk1.1 rfl dX4_copyFrom_166 ?_
  obtain ⟨q169, e169, h⟩ := bnd_e h
  refine z_Vv (k := (k + 23)) (v1 := q169) hx hb hml hts hown hK hP hS hz hE (C_Row_copyFrom hk.2.2.2.2.2.2.2.2.2.2.2.2.1 hk1.2.2.2.2.2.2.2.2.2.2.2.2.1 (by omega) e169) kX7_copyFrom mX4_80 hk.2.2.2.2.2.2.2.2.2.2.2.2.1.1 rfl rfl rfl hl.1 (Nat.le_of_ble_eq_true rfl) ⟨Nat.le_of_ble_eq_true rfl, Nat.le_of_ble_eq_true rfl⟩ ⟨Nat.le_refl _, Nat.le_refl _⟩ dX4_copyFrom_169 fun H1 locs1 hz hP hS => ?_
  refine lv_aload_n hx hb dX4_copyFrom_172 rfl (lv_at hl 0 rfl) ?_
  refine w_gr (k := k) (r := (k + 25)) hx hb hts hown hK hP fX4_51 hk.1 rfl dX4_copyFrom_173 ?_
  refine lv_aload_n hx hb dX4_copyFrom_176 rfl (lv_at hl 1 rfl) ?_
  refine w_gr (k := k1) (r := (k1 + 25)) hx hb hts hown hK hP fX4_51 hk1.1 rfl dX4_copyFrom_177 ?_
  obtain ⟨q180, e180, h⟩ := bnd_e h
  refine z_Vv (k := (k + 25)) (v1 := q180) hx hb hml hts hown hK hP hS hz hE (C_Row_copyFrom hk.2.2.2.2.2.2.2.2.2.2.2.2.2.1 hk1.2.2.2.2.2.2.2.2.2.2.2.2.2.1 (by omega) e180) kX7_copyFrom mX4_80 hk.2.2.2.2.2.2.2.2.2.2.2.2.2.1.1 rfl rfl rfl hl.1 (Nat.le_of_ble_eq_true rfl) ⟨Nat.le_of_ble_eq_true rfl, Nat.le_of_ble_eq_true rfl⟩ ⟨Nat.le_refl _, Nat.le_refl _⟩ dX4_copyFrom_180 fun H1 locs1 hz hP hS => ?_
  refine lv_aload_n hx hb dX4_copyFrom_183 rfl (lv_at hl 0 rfl) ?_
  refine w_gr (k := k) (r := (k + 27)) hx hb hts hown hK hP fX4_54 hk.1 rfl dX4_copyFrom_184 ?_
  refine lv_aload_n hx hb dX4_copyFrom_187 rfl (lv_at hl 1 rfl) ?_
  refine w_gr (k := k1) (r := (k1 + 27)) hx hb hts hown hK hP fX4_54 hk1.1 rfl dX4_copyFrom_188 ?_
  obtain ⟨q191, e191, h⟩ := bnd_e h
  refine z_Vv (k := (k + 27)) (v1 := q191) hx hb hml hts hown hK hP hS hz hE (C_Row_copyFrom hk.2.2.2.2.2.2.2.2.2.2.2.2.2.2.1 hk1.2.2.2.2.2.2.2.2.2.2.2.2.2.2.1 (by omega) e191) kX7_copyFrom mX4_80 hk.2.2.2.2.2.2.2.2.2.2.2.2.2.2.1.1 rfl rfl rfl hl.1 (Nat.le_of_ble_eq_true rfl) ⟨Nat.le_of_ble_eq_true rfl, Nat.le_of_ble_eq_true rfl⟩ ⟨Nat.le_refl _, Nat.le_refl _⟩ dX4_copyFrom_191 fun H1 locs1 hz hP hS => ?_
  refine lv_aload_n hx hb dX4_copyFrom_194 rfl (lv_at hl 0 rfl) ?_
  refine w_gr (k := k) (r := (k + 29)) hx hb hts hown hK hP fX4_60 hk.1 rfl dX4_copyFrom_195 ?_
  refine lv_aload_n hx hb dX4_copyFrom_198 rfl (lv_at hl 1 rfl) ?_
  refine w_gr (k := k1) (r := (k1 + 29)) hx hb hts hown hK hP fX4_60 hk1.1 rfl dX4_copyFrom_199 ?_
  obtain ⟨q202, e202, h⟩ := obn_e h
  refine z_Vv (k := (k + 29)) (v1 := q202) hx hb hml hts hown hK hP hS hz hE (c_Steps_copyFrom hk.2.2.2.2.2.2.2.2.2.2.2.2.2.2.2 hk1.2.2.2.2.2.2.2.2.2.2.2.2.2.2.2 (by omega) e202) kX9_copyFrom mX4_84 hk.2.2.2.2.2.2.2.2.2.2.2.2.2.2.2.1 rfl rfl rfl hl.1 (Nat.le_of_ble_eq_true rfl) ⟨Nat.le_of_ble_eq_true rfl, Nat.le_of_ble_eq_true rfl⟩ ⟨Nat.le_refl _, Nat.le_refl _⟩ dX4_copyFrom_202 fun H1 locs1 hz hP hS => ?_
  exact w_vret hx hb hret hlk hK hP hS hz hE (Option.some.inj h) dX4_copyFrom_205
end GE
