
section GE
variable {l : Launch} {Γ : Cx} {sh : Sh} {v : Va} {w : Vl} {n z : Nat}
def b_Model_isTest_0 (GB : Nat → List Int32 → Va → Option (Bool × Va)) (sp : Nat) (k1 : Nat) (K0 : Va → Option (Bool × Va)) (t0 : Va) : Option (Bool × Va) := (GB 1 [] t0).bind fun q2 => if (q_b q2.1) = 0 then (some (false, q2.2)) else ((f_Model_eat q2.2 sp k1 29).bind fun q14 => if (q_b q14.1) = 0 then (some (true, q14.2)) else (K0 q14.2))
def f_Model_isTest (z : Nat) (GB : Nat → List Int32 → Va → Option (Bool × Va)) (v : Va) (sp : Nat) (k1 : Nat) : Option (Bool × Va) := rp (b_Model_isTest_0 GB sp k1) z v
theorem c_Model_isTest {sp : Nat} {k1 : Nat} {GB : Nat → List Int32 → Va → Option (Bool × Va)} {hh : Nat} (hk : isModel sh sp) (hk1 : isSheet sh k1) (hc : 2 ≤ hh) (ig1 : ∀ (v : Va) (q : Bool × Va), GB 1 [] v = some q → MetI l yX14_isBoth cX14_isBoth 2 (some .boolean) hh Γ sh v w n [.ref (Γ.2.1 + 149), .ref (Γ.2.1 + k1)] (fun x u => x = q_b q.1 ∧ u = q.2)) {q : Bool × Va} (h : f_Model_isTest z GB v sp k1 = some q) : MetI l yX14_isTest cX14_isTest 2 (some .boolean) (hh + 1) Γ sh v w n [.ref (Γ.2.1 + 149), .ref (Γ.2.1 + k1)] (fun x u => x = q_b q.1 ∧ u = q.2) := by
  unfold f_Model_isTest at h
  refine w_start pn_X14 (Nat.le_of_ble_eq_true rfl) fun p e s m args below meth c hx hb hml hret hlk hnm hts hown hK hP hz hE hS ls hl => ?_
  have L0 : ∀ (fu : Nat) (t0 : Va), rp (b_Model_isTest_0 GB sp k1) fu t0 = some q → ∀ (H1 : Heap) (locs1 : List Loc) (ls1 : Array Slot), lv_has ls1 2 [(0, .ref (Γ.2.1 + 149)), (1, .ref (Γ.2.1 + k1))] → Wd Γ sh t0 w H1 → va_S (gA Γ) s.heap H1 locs1 → H1.size = Γ.2.1 + n → wpI Γ sh w n (hh + 1) (fun x u => x = q_b q.1 ∧ u = q.2) p l e s m args below meth c H1 locs1 (F0 m 0 ls1 []) := by
    refine q_loop (fun K0 ih0 t0 h H1 locs1 ls hl hP hS hz => ?_)
    unfold b_Model_isTest_0 at h
    refine lv_aload_n hx hb dX14_isTest_0 rfl (lv_at hl 0 rfl) ?_
    refine lv_aload_n hx hb dX14_isTest_1 rfl (lv_at hl 1 rfl) ?_
    obtain ⟨q2, e2, h⟩ := obn_e h
    refine z_Vi (k := 149) (r1 := (q_b q2.1)) (v1 := q2.2) hx hb hml hts hown hK hP hS hz hE (ig1 _ _ e2) kX14_isBoth mX14_137 hk.1 rfl rfl rfl hl.1 (Nat.le_of_ble_eq_true rfl) (q_room (Nat.le_refl _) (Nat.le_refl _) (Nat.le_of_ble_eq_true rfl)) ⟨Nat.le_refl _, Nat.le_refl _⟩ dX14_isTest_2 fun H1 locs1 hz hP hS => ?_
    refine lv_if_ne (tgt := 10) hx hb dX14_isTest_5 rfl (fun hc5 => ?_) (fun hc5 => ?_)
    · have h := itf_e h hc5
      refine lv_aload_n hx hb dX14_isTest_10 rfl (lv_at hl 0 rfl) ?_
      refine lv_aload_n hx hb dX14_isTest_11 rfl (lv_at hl 1 rfl) ?_
      refine lv_bipush (v := 29) hx hb dX14_isTest_12 rfl ?_
      obtain ⟨q14, e14, h⟩ := obn_e h
      refine z_Vi (k := 149) (r1 := (q_b q14.1)) (v1 := q14.2) hx hb hml hts hown hK hP hS hz hE (c_Model_eat hk hk1 e14) kX14_eat mX14_118 hk.1 rfl rfl rfl hl.1 (Nat.le_of_ble_eq_true rfl) (q_room hc (Nat.le_of_ble_eq_true rfl) (Nat.le_of_ble_eq_true rfl)) ⟨Nat.le_refl _, Nat.le_refl _⟩ dX14_isTest_14 fun H1 locs1 hz hP hS => ?_
      refine lv_if_ne (tgt := 0) hx hb dX14_isTest_17 rfl (fun hc17 => ?_) (fun hc17 => ?_)
      · have h := itf_e h hc17
        exact ih0 q14.2 h _ _ _ (lv_sub hl [0, 1] rfl) hP hS hz
      · have h := itt_e h hc17
        refine lv_iconst (v := 1) hx hb dX14_isTest_20 rfl ?_
        exact w_iret hx hb hret rfl hlk hK hP hS hz hE (q_p2b h) dX14_isTest_21
    · have h := itt_e h hc5
      refine lv_iconst (v := 0) hx hb dX14_isTest_8 rfl ?_
      exact w_iret hx hb hret rfl hlk hK hP hS hz hE (q_p2b h) dX14_isTest_9
  exact L0 z v h _ _ _ (lv_sub hl [0, 1] rfl) hP hS hz
def b_Model_isBoth_0 (GB : Nat → List Int32 → Va → Option (Bool × Va)) (sp : Nat) (k1 : Nat) (K0 : Va → Option (Bool × Va)) (t0 : Va) : Option (Bool × Va) := (GB 2 [] t0).bind fun q2 => if (q_b q2.1) = 0 then (some (false, q2.2)) else ((f_Model_eat q2.2 sp k1 28).bind fun q14 => if (q_b q14.1) = 0 then (some (true, q14.2)) else (K0 q14.2))
def f_Model_isBoth (z : Nat) (GB : Nat → List Int32 → Va → Option (Bool × Va)) (v : Va) (sp : Nat) (k1 : Nat) : Option (Bool × Va) := rp (b_Model_isBoth_0 GB sp k1) z v
theorem c_Model_isBoth {sp : Nat} {k1 : Nat} {GB : Nat → List Int32 → Va → Option (Bool × Va)} {hh : Nat} (hk : isModel sh sp) (hk1 : isSheet sh k1) (hc : 2 ≤ hh) (ig2 : ∀ (v : Va) (q : Bool × Va), GB 2 [] v = some q → MetI l yX14_isSingle cX14_isSingle 2 (some .boolean) hh Γ sh v w n [.ref (Γ.2.1 + 149), .ref (Γ.2.1 + k1)] (fun x u => x = q_b q.1 ∧ u = q.2)) {q : Bool × Va} (h : f_Model_isBoth z GB v sp k1 = some q) : MetI l yX14_isBoth cX14_isBoth 2 (some .boolean) (hh + 1) Γ sh v w n [.ref (Γ.2.1 + 149), .ref (Γ.2.1 + k1)] (fun x u => x = q_b q.1 ∧ u = q.2) := by
  unfold f_Model_isBoth at h
  refine w_start pn_X14 (Nat.le_of_ble_eq_true rfl) fun p e s m args below meth c hx hb hml hret hlk hnm hts hown hK hP hz hE hS ls hl => ?_
  have L0 : ∀ (fu : Nat) (t0 : Va), rp (b_Model_isBoth_0 GB sp k1) fu t0 = some q → ∀ (H1 : Heap) (locs1 : List Loc) (ls1 : Array Slot), lv_has ls1 2 [(0, .ref (Γ.2.1 + 149)), (1, .ref (Γ.2.1 + k1))] → Wd Γ sh t0 w H1 → va_S (gA Γ) s.heap H1 locs1 → H1.size = Γ.2.1 + n → wpI Γ sh w n (hh + 1) (fun x u => x = q_b q.1 ∧ u = q.2) p l e s m args below meth c H1 locs1 (F0 m 0 ls1 []) := by
    refine q_loop (fun K0 ih0 t0 h H1 locs1 ls hl hP hS hz => ?_)
    unfold b_Model_isBoth_0 at h
    refine lv_aload_n hx hb dX14_isBoth_0 rfl (lv_at hl 0 rfl) ?_
    refine lv_aload_n hx hb dX14_isBoth_1 rfl (lv_at hl 1 rfl) ?_
    obtain ⟨q2, e2, h⟩ := obn_e h
    refine z_Vi (k := 149) (r1 := (q_b q2.1)) (v1 := q2.2) hx hb hml hts hown hK hP hS hz hE (ig2 _ _ e2) kX14_isSingle mX14_140 hk.1 rfl rfl rfl hl.1 (Nat.le_of_ble_eq_true rfl) (q_room (Nat.le_refl _) (Nat.le_refl _) (Nat.le_of_ble_eq_true rfl)) ⟨Nat.le_refl _, Nat.le_refl _⟩ dX14_isBoth_2 fun H1 locs1 hz hP hS => ?_
    refine lv_if_ne (tgt := 10) hx hb dX14_isBoth_5 rfl (fun hc5 => ?_) (fun hc5 => ?_)
    · have h := itf_e h hc5
      refine lv_aload_n hx hb dX14_isBoth_10 rfl (lv_at hl 0 rfl) ?_
      refine lv_aload_n hx hb dX14_isBoth_11 rfl (lv_at hl 1 rfl) ?_
      refine lv_bipush (v := 28) hx hb dX14_isBoth_12 rfl ?_
      obtain ⟨q14, e14, h⟩ := obn_e h
      refine z_Vi (k := 149) (r1 := (q_b q14.1)) (v1 := q14.2) hx hb hml hts hown hK hP hS hz hE (c_Model_eat hk hk1 e14) kX14_eat mX14_118 hk.1 rfl rfl rfl hl.1 (Nat.le_of_ble_eq_true rfl) (q_room hc (Nat.le_of_ble_eq_true rfl) (Nat.le_of_ble_eq_true rfl)) ⟨Nat.le_refl _, Nat.le_refl _⟩ dX14_isBoth_14 fun H1 locs1 hz hP hS => ?_
      refine lv_if_ne (tgt := 0) hx hb dX14_isBoth_17 rfl (fun hc17 => ?_) (fun hc17 => ?_)
      · have h := itf_e h hc17
        exact ih0 q14.2 h _ _ _ (lv_sub hl [0, 1] rfl) hP hS hz
      · have h := itt_e h hc17
        refine lv_iconst (v := 1) hx hb dX14_isBoth_20 rfl ?_
        exact w_iret hx hb hret rfl hlk hK hP hS hz hE (q_p2b h) dX14_isBoth_21
    · have h := itt_e h hc5
      refine lv_iconst (v := 0) hx hb dX14_isBoth_8 rfl ?_
      exact w_iret hx hb hret rfl hlk hK hP hS hz hE (q_p2b h) dX14_isBoth_9
  exact L0 z v h _ _ _ (lv_sub hl [0, 1] rfl) hP hS hz
def f_Model_isSingle (z : Nat) (GB : Nat → List Int32 → Va → Option (Bool × Va)) (v : Va) (sp : Nat) (k1 : Nat) : Option (Bool × Va) := if (v 149 4) < 0 ∨ 401 ≤ (v 149 4).toNatClampNeg then none else if (v (k1 + 1) (v 149 4).toNatClampNeg) = 27 then ((f_Model_goDown v sp k1 27).bind fun q18 => if (q_b q18.1) = 0 then (some (false, q18.2)) else ((GB 2 [] q18.2).bind fun q26 => if (q_b q26.1) = 0 then (some (false, q26.2)) else (bnd (pu q26.2 149 5 ((q26.2 149 5) - 1)) fun v41 => some (true, v41)))) else (if (v 149 4) < 0 ∨ 401 ≤ (v 149 4).toNatClampNeg then none else if (v (k1 + 1) (v 149 4).toNatClampNeg) = 42 then ((f_Model_goDown v sp k1 42).bind fun q64 => if (q_b q64.1) = 0 then (some (false, q64.2)) else ((GB 0 [] q64.2).bind fun q72 => if (q_b q72.1) = 0 then (some (false, q72.2)) else ((f_Model_eat q72.2 sp k1 43).bind fun q82 => if (q_b q82.1) = 0 then (some (false, q82.2)) else (bnd (pu q82.2 149 5 ((q82.2 149 5) - 1)) fun v97 => some (true, v97))))) else ((f_Model_eat v sp k1 26).bind fun q106 => if (q_b q106.1) = 0 then ((GB 3 [] q106.2).bind fun q140 => if (q_b q140.1) = 0 then (some (false, q140.2)) else ((f_Model_eatIn q140.2 sp k1 50 54).bind fun q152 => if (q_b q152.1) = 0 then (some (false, q152.2)) else ((GB 3 [] q152.2).bind fun q160 => if (q_b q160.1) = 0 then (some (false, q160.2)) else (some (true, q160.2))))) else ((f_Model_eat q106.2 sp k1 35).bind fun q116 => if (q_b q116.1) = 0 then (some (false, q116.2)) else ((f_Model_eat q116.2 sp k1 35).bind fun q126 => if (q_b q126.1) = 0 then (some (false, q126.2)) else (some (true, q126.2))))))
theorem c_Model_isSingle {sp : Nat} {k1 : Nat} {GB : Nat → List Int32 → Va → Option (Bool × Va)} {hh : Nat} (hk : isModel sh sp) (hk1 : isSheet sh k1) (hc : 2 ≤ hh) (ig0 : ∀ (v : Va) (q : Bool × Va), GB 0 [] v = some q → MetI l yX14_isTest cX14_isTest 2 (some .boolean) hh Γ sh v w n [.ref (Γ.2.1 + 149), .ref (Γ.2.1 + k1)] (fun x u => x = q_b q.1 ∧ u = q.2)) (ig2 : ∀ (v : Va) (q : Bool × Va), GB 2 [] v = some q → MetI l yX14_isSingle cX14_isSingle 2 (some .boolean) hh Γ sh v w n [.ref (Γ.2.1 + 149), .ref (Γ.2.1 + k1)] (fun x u => x = q_b q.1 ∧ u = q.2)) (ig3 : ∀ (v : Va) (q : Bool × Va), GB 3 [] v = some q → MetI l yX14_isSum cX14_isSum 2 (some .boolean) hh Γ sh v w n [.ref (Γ.2.1 + 149), .ref (Γ.2.1 + k1)] (fun x u => x = q_b q.1 ∧ u = q.2)) {q : Bool × Va} (h : f_Model_isSingle z GB v sp k1 = some q) : MetI l yX14_isSingle cX14_isSingle 2 (some .boolean) (hh + 1) Γ sh v w n [.ref (Γ.2.1 + 149), .ref (Γ.2.1 + k1)] (fun x u => x = q_b q.1 ∧ u = q.2) := by
  unfold f_Model_isSingle at h
  refine w_start pn_X14 (Nat.le_of_ble_eq_true rfl) fun p e s m args below meth c hx hb hml hret hlk hnm hts hown hK hP hz hE hS ls hl => ?_
  refine lv_aload_n hx hb dX14_isSingle_0 rfl (lv_at hl 1 rfl) ?_
  refine w_gr (k := k1) (r := (k1 + 1)) hx hb hts hown hK hP fX14_102 hk1.1 rfl dX14_isSingle_1 ?_
  refine lv_aload_n hx hb dX14_isSingle_4 rfl (lv_at hl 0 rfl) ?_
  refine w_gi (k := 149) hx hb hts hown hK hP fX14_108 hk.1 rfl dX14_isSingle_5 ?_
  obtain ⟨hn8, h⟩ := itn_e h
  refine w_iald (k := (k1 + 1)) hx hb hK hP hk1.2.1 hn8 dX14_isSingle_8 ?_
  refine lv_bipush (v := 27) hx hb dX14_isSingle_9 rfl ?_
  refine lv_icmp_ne (tgt := 46) hx hb dX14_isSingle_11 rfl (fun hc11 => ?_) (fun hc11 => ?_)
  · have h := itf_e h hc11
    refine lv_aload_n hx hb dX14_isSingle_46 rfl (lv_at hl 1 rfl) ?_
    refine w_gr (k := k1) (r := (k1 + 1)) hx hb hts hown hK hP fX14_102 hk1.1 rfl dX14_isSingle_47 ?_
    refine lv_aload_n hx hb dX14_isSingle_50 rfl (lv_at hl 0 rfl) ?_
    refine w_gi (k := 149) hx hb hts hown hK hP fX14_108 hk.1 rfl dX14_isSingle_51 ?_
    obtain ⟨hn54, h⟩ := itn_e h
    refine w_iald (k := (k1 + 1)) hx hb hK hP hk1.2.1 hn54 dX14_isSingle_54 ?_
    refine lv_bipush (v := 42) hx hb dX14_isSingle_55 rfl ?_
    refine lv_icmp_ne (tgt := 102) hx hb dX14_isSingle_57 rfl (fun hc57 => ?_) (fun hc57 => ?_)
    · have h := itf_e h hc57
      refine lv_aload_n hx hb dX14_isSingle_102 rfl (lv_at hl 0 rfl) ?_
      refine lv_aload_n hx hb dX14_isSingle_103 rfl (lv_at hl 1 rfl) ?_
      refine lv_bipush (v := 26) hx hb dX14_isSingle_104 rfl ?_
      obtain ⟨q106, e106, h⟩ := obn_e h
      refine z_Vi (k := 149) (r1 := (q_b q106.1)) (v1 := q106.2) hx hb hml hts hown hK hP hS hz hE (c_Model_eat hk hk1 e106) kX14_eat mX14_118 hk.1 rfl rfl rfl hl.1 (Nat.le_of_ble_eq_true rfl) (q_room hc (Nat.le_of_ble_eq_true rfl) (Nat.le_of_ble_eq_true rfl)) ⟨Nat.le_refl _, Nat.le_refl _⟩ dX14_isSingle_106 fun H1 locs1 hz hP hS => ?_
      refine lv_if_eq (tgt := 138) hx hb dX14_isSingle_109 rfl (fun hc109 => ?_) (fun hc109 => ?_)
      · have h := itt_e h hc109
        refine lv_aload_n hx hb dX14_isSingle_138 rfl (lv_at hl 0 rfl) ?_
        refine lv_aload_n hx hb dX14_isSingle_139 rfl (lv_at hl 1 rfl) ?_
        obtain ⟨q140, e140, h⟩ := obn_e h
        refine z_Vi (k := 149) (r1 := (q_b q140.1)) (v1 := q140.2) hx hb hml hts hown hK hP hS hz hE (ig3 _ _ e140) kX14_isSum mX14_134 hk.1 rfl rfl rfl hl.1 (Nat.le_of_ble_eq_true rfl) (q_room (Nat.le_refl _) (Nat.le_refl _) (Nat.le_of_ble_eq_true rfl)) ⟨Nat.le_refl _, Nat.le_refl _⟩ dX14_isSingle_140 fun H1 locs1 hz hP hS => ?_
        refine lv_if_eq (tgt := 170) hx hb dX14_isSingle_143 rfl (fun hc143 => ?_) (fun hc143 => ?_)
        · have h := itt_e h hc143
          refine lv_iconst (v := 0) hx hb dX14_isSingle_170 rfl ?_
          exact w_iret hx hb hret rfl hlk hK hP hS hz hE (q_p2b h) dX14_isSingle_171
        · have h := itf_e h hc143
          refine lv_aload_n hx hb dX14_isSingle_146 rfl (lv_at hl 0 rfl) ?_
          refine lv_aload_n hx hb dX14_isSingle_147 rfl (lv_at hl 1 rfl) ?_
          refine lv_bipush (v := 50) hx hb dX14_isSingle_148 rfl ?_
          refine lv_bipush (v := 54) hx hb dX14_isSingle_150 rfl ?_
          obtain ⟨q152, e152, h⟩ := obn_e h
          refine z_Vi (k := 149) (r1 := (q_b q152.1)) (v1 := q152.2) hx hb hml hts hown hK hP hS hz hE (c_Model_eatIn hk hk1 e152) kX14_eatIn mX14_146 hk.1 rfl rfl rfl hl.1 (Nat.le_of_ble_eq_true rfl) (q_room hc (Nat.le_of_ble_eq_true rfl) (Nat.le_of_ble_eq_true rfl)) ⟨Nat.le_refl _, Nat.le_refl _⟩ dX14_isSingle_152 fun H1 locs1 hz hP hS => ?_
          refine lv_if_eq (tgt := 170) hx hb dX14_isSingle_155 rfl (fun hc155 => ?_) (fun hc155 => ?_)
          · have h := itt_e h hc155
            refine lv_iconst (v := 0) hx hb dX14_isSingle_170 rfl ?_
            exact w_iret hx hb hret rfl hlk hK hP hS hz hE (q_p2b h) dX14_isSingle_171
          · have h := itf_e h hc155
            refine lv_aload_n hx hb dX14_isSingle_158 rfl (lv_at hl 0 rfl) ?_
            refine lv_aload_n hx hb dX14_isSingle_159 rfl (lv_at hl 1 rfl) ?_
            obtain ⟨q160, e160, h⟩ := obn_e h
            refine z_Vi (k := 149) (r1 := (q_b q160.1)) (v1 := q160.2) hx hb hml hts hown hK hP hS hz hE (ig3 _ _ e160) kX14_isSum mX14_134 hk.1 rfl rfl rfl hl.1 (Nat.le_of_ble_eq_true rfl) (q_room (Nat.le_refl _) (Nat.le_refl _) (Nat.le_of_ble_eq_true rfl)) ⟨Nat.le_refl _, Nat.le_refl _⟩ dX14_isSingle_160 fun H1 locs1 hz hP hS => ?_
            refine lv_if_eq (tgt := 170) hx hb dX14_isSingle_163 rfl (fun hc163 => ?_) (fun hc163 => ?_)
            · have h := itt_e h hc163
              refine lv_iconst (v := 0) hx hb dX14_isSingle_170 rfl ?_
              exact w_iret hx hb hret rfl hlk hK hP hS hz hE (q_p2b h) dX14_isSingle_171
            · have h := itf_e h hc163
              refine lv_iconst (v := 1) hx hb dX14_isSingle_166 rfl ?_
              refine lv_goto (tgt := 171) hx hb dX14_isSingle_167 rfl ?_
              exact w_iret hx hb hret rfl hlk hK hP hS hz hE (q_p2b h) dX14_isSingle_171
      · have h := itf_e h hc109
        refine lv_aload_n hx hb dX14_isSingle_112 rfl (lv_at hl 0 rfl) ?_
        refine lv_aload_n hx hb dX14_isSingle_113 rfl (lv_at hl 1 rfl) ?_
        refine lv_bipush (v := 35) hx hb dX14_isSingle_114 rfl ?_
        obtain ⟨q116, e116, h⟩ := obn_e h
        refine z_Vi (k := 149) (r1 := (q_b q116.1)) (v1 := q116.2) hx hb hml hts hown hK hP hS hz hE (c_Model_eat hk hk1 e116) kX14_eat mX14_118 hk.1 rfl rfl rfl hl.1 (Nat.le_of_ble_eq_true rfl) (q_room hc (Nat.le_of_ble_eq_true rfl) (Nat.le_of_ble_eq_true rfl)) ⟨Nat.le_refl _, Nat.le_refl _⟩ dX14_isSingle_116 fun H1 locs1 hz hP hS => ?_
        refine lv_if_eq (tgt := 136) hx hb dX14_isSingle_119 rfl (fun hc119 => ?_) (fun hc119 => ?_)
        · have h := itt_e h hc119
          refine lv_iconst (v := 0) hx hb dX14_isSingle_136 rfl ?_
          exact w_iret hx hb hret rfl hlk hK hP hS hz hE (q_p2b h) dX14_isSingle_137
        · have h := itf_e h hc119
          refine lv_aload_n hx hb dX14_isSingle_122 rfl (lv_at hl 0 rfl) ?_
          refine lv_aload_n hx hb dX14_isSingle_123 rfl (lv_at hl 1 rfl) ?_
          refine lv_bipush (v := 35) hx hb dX14_isSingle_124 rfl ?_
          obtain ⟨q126, e126, h⟩ := obn_e h
          refine z_Vi (k := 149) (r1 := (q_b q126.1)) (v1 := q126.2) hx hb hml hts hown hK hP hS hz hE (c_Model_eat hk hk1 e126) kX14_eat mX14_118 hk.1 rfl rfl rfl hl.1 (Nat.le_of_ble_eq_true rfl) (q_room hc (Nat.le_of_ble_eq_true rfl) (Nat.le_of_ble_eq_true rfl)) ⟨Nat.le_refl _, Nat.le_refl _⟩ dX14_isSingle_126 fun H1 locs1 hz hP hS => ?_
          refine lv_if_eq (tgt := 136) hx hb dX14_isSingle_129 rfl (fun hc129 => ?_) (fun hc129 => ?_)
          · have h := itt_e h hc129
            refine lv_iconst (v := 0) hx hb dX14_isSingle_136 rfl ?_
            exact w_iret hx hb hret rfl hlk hK hP hS hz hE (q_p2b h) dX14_isSingle_137
          · have h := itf_e h hc129
            refine lv_iconst (v := 1) hx hb dX14_isSingle_132 rfl ?_
            refine lv_goto (tgt := 137) hx hb dX14_isSingle_133 rfl ?_
            exact w_iret hx hb hret rfl hlk hK hP hS hz hE (q_p2b h) dX14_isSingle_137
    · have h := itt_e h hc57
      refine lv_aload_n hx hb dX14_isSingle_60 rfl (lv_at hl 0 rfl) ?_
      refine lv_aload_n hx hb dX14_isSingle_61 rfl (lv_at hl 1 rfl) ?_
      refine lv_bipush (v := 42) hx hb dX14_isSingle_62 rfl ?_
      obtain ⟨q64, e64, h⟩ := obn_e h
      refine z_Vi (k := 149) (r1 := (q_b q64.1)) (v1 := q64.2) hx hb hml hts hown hK hP hS hz hE (c_Model_goDown hk hk1 e64) kX14_goDown mX14_143 hk.1 rfl rfl rfl hl.1 (Nat.le_of_ble_eq_true rfl) (q_room hc (Nat.le_of_ble_eq_true rfl) (Nat.le_of_ble_eq_true rfl)) ⟨Nat.le_refl _, Nat.le_refl _⟩ dX14_isSingle_64 fun H1 locs1 hz hP hS => ?_
      refine lv_if_eq (tgt := 88) hx hb dX14_isSingle_67 rfl (fun hc67 => ?_) (fun hc67 => ?_)
      · have h := itt_e h hc67
        refine lv_iconst (v := 0) hx hb dX14_isSingle_88 rfl ?_
        exact w_iret hx hb hret rfl hlk hK hP hS hz hE (q_p2b h) dX14_isSingle_89
      · have h := itf_e h hc67
        refine lv_aload_n hx hb dX14_isSingle_70 rfl (lv_at hl 0 rfl) ?_
        refine lv_aload_n hx hb dX14_isSingle_71 rfl (lv_at hl 1 rfl) ?_
        obtain ⟨q72, e72, h⟩ := obn_e h
        refine z_Vi (k := 149) (r1 := (q_b q72.1)) (v1 := q72.2) hx hb hml hts hown hK hP hS hz hE (ig0 _ _ e72) kX14_isTest mX14_122 hk.1 rfl rfl rfl hl.1 (Nat.le_of_ble_eq_true rfl) (q_room (Nat.le_refl _) (Nat.le_refl _) (Nat.le_of_ble_eq_true rfl)) ⟨Nat.le_refl _, Nat.le_refl _⟩ dX14_isSingle_72 fun H1 locs1 hz hP hS => ?_
        refine lv_if_eq (tgt := 88) hx hb dX14_isSingle_75 rfl (fun hc75 => ?_) (fun hc75 => ?_)
        · have h := itt_e h hc75
          refine lv_iconst (v := 0) hx hb dX14_isSingle_88 rfl ?_
          exact w_iret hx hb hret rfl hlk hK hP hS hz hE (q_p2b h) dX14_isSingle_89
        · have h := itf_e h hc75
          refine lv_aload_n hx hb dX14_isSingle_78 rfl (lv_at hl 0 rfl) ?_
          refine lv_aload_n hx hb dX14_isSingle_79 rfl (lv_at hl 1 rfl) ?_
          refine lv_bipush (v := 43) hx hb dX14_isSingle_80 rfl ?_
          obtain ⟨q82, e82, h⟩ := obn_e h
          refine z_Vi (k := 149) (r1 := (q_b q82.1)) (v1 := q82.2) hx hb hml hts hown hK hP hS hz hE (c_Model_eat hk hk1 e82) kX14_eat mX14_118 hk.1 rfl rfl rfl hl.1 (Nat.le_of_ble_eq_true rfl) (q_room hc (Nat.le_of_ble_eq_true rfl) (Nat.le_of_ble_eq_true rfl)) ⟨Nat.le_refl _, Nat.le_refl _⟩ dX14_isSingle_82 fun H1 locs1 hz hP hS => ?_
          refine lv_if_ne (tgt := 90) hx hb dX14_isSingle_85 rfl (fun hc85 => ?_) (fun hc85 => ?_)
          · have h := itf_e h hc85
            refine lv_aload_n hx hb dX14_isSingle_90 rfl (lv_at hl 0 rfl) ?_
            refine lv_dup hx hb dX14_isSingle_91 rfl ?_
            refine w_gi (k := 149) hx hb hts hown hK hP fX14_111 hk.1 rfl dX14_isSingle_92 ?_
            refine lv_iconst (v := 1) hx hb dX14_isSingle_95 rfl ?_
            refine lv_isub hx hb dX14_isSingle_96 ?_
            obtain ⟨v97, e97, h⟩ := bnd_e h
            refine w_pi2 (k := 149) hx hb hts hown hK hP hS hz fX14_111 hk.1 rfl e97 dX14_isSingle_97 fun H1 locs1 hz hP hS => ?_
            refine lv_iconst (v := 1) hx hb dX14_isSingle_100 rfl ?_
            exact w_iret hx hb hret rfl hlk hK hP hS hz hE (q_p2b h) dX14_isSingle_101
          · have h := itt_e h hc85
            refine lv_iconst (v := 0) hx hb dX14_isSingle_88 rfl ?_
            exact w_iret hx hb hret rfl hlk hK hP hS hz hE (q_p2b h) dX14_isSingle_89
  · have h := itt_e h hc11
    refine lv_aload_n hx hb dX14_isSingle_14 rfl (lv_at hl 0 rfl) ?_
    refine lv_aload_n hx hb dX14_isSingle_15 rfl (lv_at hl 1 rfl) ?_
    refine lv_bipush (v := 27) hx hb dX14_isSingle_16 rfl ?_
    obtain ⟨q18, e18, h⟩ := obn_e h
    refine z_Vi (k := 149) (r1 := (q_b q18.1)) (v1 := q18.2) hx hb hml hts hown hK hP hS hz hE (c_Model_goDown hk hk1 e18) kX14_goDown mX14_143 hk.1 rfl rfl rfl hl.1 (Nat.le_of_ble_eq_true rfl) (q_room hc (Nat.le_of_ble_eq_true rfl) (Nat.le_of_ble_eq_true rfl)) ⟨Nat.le_refl _, Nat.le_refl _⟩ dX14_isSingle_18 fun H1 locs1 hz hP hS => ?_
    refine lv_if_eq (tgt := 32) hx hb dX14_isSingle_21 rfl (fun hc21 => ?_) (fun hc21 => ?_)
    · have h := itt_e h hc21
      refine lv_iconst (v := 0) hx hb dX14_isSingle_32 rfl ?_
      exact w_iret hx hb hret rfl hlk hK hP hS hz hE (q_p2b h) dX14_isSingle_33
    · have h := itf_e h hc21
      refine lv_aload_n hx hb dX14_isSingle_24 rfl (lv_at hl 0 rfl) ?_
      refine lv_aload_n hx hb dX14_isSingle_25 rfl (lv_at hl 1 rfl) ?_
      obtain ⟨q26, e26, h⟩ := obn_e h
      refine z_Vi (k := 149) (r1 := (q_b q26.1)) (v1 := q26.2) hx hb hml hts hown hK hP hS hz hE (ig2 _ _ e26) kX14_isSingle mX14_140 hk.1 rfl rfl rfl hl.1 (Nat.le_of_ble_eq_true rfl) (q_room (Nat.le_refl _) (Nat.le_refl _) (Nat.le_of_ble_eq_true rfl)) ⟨Nat.le_refl _, Nat.le_refl _⟩ dX14_isSingle_26 fun H1 locs1 hz hP hS => ?_
      refine lv_if_ne (tgt := 34) hx hb dX14_isSingle_29 rfl (fun hc29 => ?_) (fun hc29 => ?_)
      · have h := itf_e h hc29
        refine lv_aload_n hx hb dX14_isSingle_34 rfl (lv_at hl 0 rfl) ?_
        refine lv_dup hx hb dX14_isSingle_35 rfl ?_
        refine w_gi (k := 149) hx hb hts hown hK hP fX14_111 hk.1 rfl dX14_isSingle_36 ?_
        refine lv_iconst (v := 1) hx hb dX14_isSingle_39 rfl ?_
        refine lv_isub hx hb dX14_isSingle_40 ?_
        obtain ⟨v41, e41, h⟩ := bnd_e h
        refine w_pi2 (k := 149) hx hb hts hown hK hP hS hz fX14_111 hk.1 rfl e41 dX14_isSingle_41 fun H1 locs1 hz hP hS => ?_
        refine lv_iconst (v := 1) hx hb dX14_isSingle_44 rfl ?_
        exact w_iret hx hb hret rfl hlk hK hP hS hz hE (q_p2b h) dX14_isSingle_45
      · have h := itt_e h hc29
        refine lv_iconst (v := 0) hx hb dX14_isSingle_32 rfl ?_
        exact w_iret hx hb hret rfl hlk hK hP hS hz hE (q_p2b h) dX14_isSingle_33
def b_Model_isSum_0 (GB : Nat → List Int32 → Va → Option (Bool × Va)) (sp : Nat) (k1 : Nat) (K0 : Va → Option (Bool × Va)) (t0 : Va) : Option (Bool × Va) := (GB 4 [] t0).bind fun q2 => if (q_b q2.1) = 0 then (some (false, q2.2)) else ((f_Model_eatIn q2.2 sp k1 46 47).bind fun q16 => if (q_b q16.1) = 0 then (some (true, q16.2)) else (K0 q16.2))
def f_Model_isSum (z : Nat) (GB : Nat → List Int32 → Va → Option (Bool × Va)) (v : Va) (sp : Nat) (k1 : Nat) : Option (Bool × Va) := rp (b_Model_isSum_0 GB sp k1) z v
theorem c_Model_isSum {sp : Nat} {k1 : Nat} {GB : Nat → List Int32 → Va → Option (Bool × Va)} {hh : Nat} (hk : isModel sh sp) (hk1 : isSheet sh k1) (hc : 2 ≤ hh) (ig4 : ∀ (v : Va) (q : Bool × Va), GB 4 [] v = some q → MetI l yX14_isProduct cX14_isProduct 2 (some .boolean) hh Γ sh v w n [.ref (Γ.2.1 + 149), .ref (Γ.2.1 + k1)] (fun x u => x = q_b q.1 ∧ u = q.2)) {q : Bool × Va} (h : f_Model_isSum z GB v sp k1 = some q) : MetI l yX14_isSum cX14_isSum 2 (some .boolean) (hh + 1) Γ sh v w n [.ref (Γ.2.1 + 149), .ref (Γ.2.1 + k1)] (fun x u => x = q_b q.1 ∧ u = q.2) := by
  unfold f_Model_isSum at h
  refine w_start pn_X14 (Nat.le_of_ble_eq_true rfl) fun p e s m args below meth c hx hb hml hret hlk hnm hts hown hK hP hz hE hS ls hl => ?_
  have L0 : ∀ (fu : Nat) (t0 : Va), rp (b_Model_isSum_0 GB sp k1) fu t0 = some q → ∀ (H1 : Heap) (locs1 : List Loc) (ls1 : Array Slot), lv_has ls1 2 [(0, .ref (Γ.2.1 + 149)), (1, .ref (Γ.2.1 + k1))] → Wd Γ sh t0 w H1 → va_S (gA Γ) s.heap H1 locs1 → H1.size = Γ.2.1 + n → wpI Γ sh w n (hh + 1) (fun x u => x = q_b q.1 ∧ u = q.2) p l e s m args below meth c H1 locs1 (F0 m 0 ls1 []) := by
    refine q_loop (fun K0 ih0 t0 h H1 locs1 ls hl hP hS hz => ?_)
    unfold b_Model_isSum_0 at h
    refine lv_aload_n hx hb dX14_isSum_0 rfl (lv_at hl 0 rfl) ?_
    refine lv_aload_n hx hb dX14_isSum_1 rfl (lv_at hl 1 rfl) ?_
    obtain ⟨q2, e2, h⟩ := obn_e h
    refine z_Vi (k := 149) (r1 := (q_b q2.1)) (v1 := q2.2) hx hb hml hts hown hK hP hS hz hE (ig4 _ _ e2) kX14_isProduct mX14_150 hk.1 rfl rfl rfl hl.1 (Nat.le_of_ble_eq_true rfl) (q_room (Nat.le_refl _) (Nat.le_refl _) (Nat.le_of_ble_eq_true rfl)) ⟨Nat.le_refl _, Nat.le_refl _⟩ dX14_isSum_2 fun H1 locs1 hz hP hS => ?_
    refine lv_if_ne (tgt := 10) hx hb dX14_isSum_5 rfl (fun hc5 => ?_) (fun hc5 => ?_)
    · have h := itf_e h hc5
      refine lv_aload_n hx hb dX14_isSum_10 rfl (lv_at hl 0 rfl) ?_
      refine lv_aload_n hx hb dX14_isSum_11 rfl (lv_at hl 1 rfl) ?_
      refine lv_bipush (v := 46) hx hb dX14_isSum_12 rfl ?_
      refine lv_bipush (v := 47) hx hb dX14_isSum_14 rfl ?_
      obtain ⟨q16, e16, h⟩ := obn_e h
      refine z_Vi (k := 149) (r1 := (q_b q16.1)) (v1 := q16.2) hx hb hml hts hown hK hP hS hz hE (c_Model_eatIn hk hk1 e16) kX14_eatIn mX14_146 hk.1 rfl rfl rfl hl.1 (Nat.le_of_ble_eq_true rfl) (q_room hc (Nat.le_of_ble_eq_true rfl) (Nat.le_of_ble_eq_true rfl)) ⟨Nat.le_refl _, Nat.le_refl _⟩ dX14_isSum_16 fun H1 locs1 hz hP hS => ?_
      refine lv_if_ne (tgt := 0) hx hb dX14_isSum_19 rfl (fun hc19 => ?_) (fun hc19 => ?_)
      · have h := itf_e h hc19
        exact ih0 q16.2 h _ _ _ (lv_sub hl [0, 1] rfl) hP hS hz
      · have h := itt_e h hc19
        refine lv_iconst (v := 1) hx hb dX14_isSum_22 rfl ?_
        exact w_iret hx hb hret rfl hlk hK hP hS hz hE (q_p2b h) dX14_isSum_23
    · have h := itt_e h hc5
      refine lv_iconst (v := 0) hx hb dX14_isSum_8 rfl ?_
      exact w_iret hx hb hret rfl hlk hK hP hS hz hE (q_p2b h) dX14_isSum_9
  exact L0 z v h _ _ _ (lv_sub hl [0, 1] rfl) hP hS hz
def b_Model_isProduct_0 (GB : Nat → List Int32 → Va → Option (Bool × Va)) (sp : Nat) (k1 : Nat) (K0 : Va → Option (Bool × Va)) (t0 : Va) : Option (Bool × Va) := (GB 5 [] t0).bind fun q2 => if (q_b q2.1) = 0 then (some (false, q2.2)) else ((f_Model_eatIn q2.2 sp k1 48 49).bind fun q16 => if (q_b q16.1) = 0 then (some (true, q16.2)) else (K0 q16.2))
def f_Model_isProduct (z : Nat) (GB : Nat → List Int32 → Va → Option (Bool × Va)) (v : Va) (sp : Nat) (k1 : Nat) : Option (Bool × Va) := rp (b_Model_isProduct_0 GB sp k1) z v
theorem c_Model_isProduct {sp : Nat} {k1 : Nat} {GB : Nat → List Int32 → Va → Option (Bool × Va)} {hh : Nat} (hk : isModel sh sp) (hk1 : isSheet sh k1) (hc : 2 ≤ hh) (ig5 : ∀ (v : Va) (q : Bool × Va), GB 5 [] v = some q → MetI l yX14_isValue cX14_isValue 3 (some .boolean) hh Γ sh v w n [.ref (Γ.2.1 + 149), .ref (Γ.2.1 + k1)] (fun x u => x = q_b q.1 ∧ u = q.2)) {q : Bool × Va} (h : f_Model_isProduct z GB v sp k1 = some q) : MetI l yX14_isProduct cX14_isProduct 2 (some .boolean) (hh + 1) Γ sh v w n [.ref (Γ.2.1 + 149), .ref (Γ.2.1 + k1)] (fun x u => x = q_b q.1 ∧ u = q.2) := by
  unfold f_Model_isProduct at h
  refine w_start pn_X14 (Nat.le_of_ble_eq_true rfl) fun p e s m args below meth c hx hb hml hret hlk hnm hts hown hK hP hz hE hS ls hl => ?_
  have L0 : ∀ (fu : Nat) (t0 : Va), rp (b_Model_isProduct_0 GB sp k1) fu t0 = some q → ∀ (H1 : Heap) (locs1 : List Loc) (ls1 : Array Slot), lv_has ls1 2 [(0, .ref (Γ.2.1 + 149)), (1, .ref (Γ.2.1 + k1))] → Wd Γ sh t0 w H1 → va_S (gA Γ) s.heap H1 locs1 → H1.size = Γ.2.1 + n → wpI Γ sh w n (hh + 1) (fun x u => x = q_b q.1 ∧ u = q.2) p l e s m args below meth c H1 locs1 (F0 m 0 ls1 []) := by
    refine q_loop (fun K0 ih0 t0 h H1 locs1 ls hl hP hS hz => ?_)
    unfold b_Model_isProduct_0 at h
    refine lv_aload_n hx hb dX14_isProduct_0 rfl (lv_at hl 0 rfl) ?_
    refine lv_aload_n hx hb dX14_isProduct_1 rfl (lv_at hl 1 rfl) ?_
    obtain ⟨q2, e2, h⟩ := obn_e h
    refine z_Vi (k := 149) (r1 := (q_b q2.1)) (v1 := q2.2) hx hb hml hts hown hK hP hS hz hE (ig5 _ _ e2) kX14_isValue mX14_153 hk.1 rfl rfl rfl hl.1 (Nat.le_of_ble_eq_true rfl) (q_room (Nat.le_refl _) (Nat.le_refl _) (Nat.le_of_ble_eq_true rfl)) ⟨Nat.le_refl _, Nat.le_refl _⟩ dX14_isProduct_2 fun H1 locs1 hz hP hS => ?_
    refine lv_if_ne (tgt := 10) hx hb dX14_isProduct_5 rfl (fun hc5 => ?_) (fun hc5 => ?_)
    · have h := itf_e h hc5
      refine lv_aload_n hx hb dX14_isProduct_10 rfl (lv_at hl 0 rfl) ?_
      refine lv_aload_n hx hb dX14_isProduct_11 rfl (lv_at hl 1 rfl) ?_
      refine lv_bipush (v := 48) hx hb dX14_isProduct_12 rfl ?_
      refine lv_bipush (v := 49) hx hb dX14_isProduct_14 rfl ?_
      obtain ⟨q16, e16, h⟩ := obn_e h
      refine z_Vi (k := 149) (r1 := (q_b q16.1)) (v1 := q16.2) hx hb hml hts hown hK hP hS hz hE (c_Model_eatIn hk hk1 e16) kX14_eatIn mX14_146 hk.1 rfl rfl rfl hl.1 (Nat.le_of_ble_eq_true rfl) (q_room hc (Nat.le_of_ble_eq_true rfl) (Nat.le_of_ble_eq_true rfl)) ⟨Nat.le_refl _, Nat.le_refl _⟩ dX14_isProduct_16 fun H1 locs1 hz hP hS => ?_
      refine lv_if_ne (tgt := 0) hx hb dX14_isProduct_19 rfl (fun hc19 => ?_) (fun hc19 => ?_)
      · have h := itf_e h hc19
        exact ih0 q16.2 h _ _ _ (lv_sub hl [0, 1] rfl) hP hS hz
      · have h := itt_e h hc19
        refine lv_iconst (v := 1) hx hb dX14_isProduct_22 rfl ?_
        exact w_iret hx hb hret rfl hlk hK hP hS hz hE (q_p2b h) dX14_isProduct_23
    · have h := itt_e h hc5
      refine lv_iconst (v := 0) hx hb dX14_isProduct_8 rfl ?_
      exact w_iret hx hb hret rfl hlk hK hP hS hz hE (q_p2b h) dX14_isProduct_9
  exact L0 z v h _ _ _ (lv_sub hl [0, 1] rfl) hP hS hz
def j_Model_isValue_186 (sp : Nat) (k1 : Nat) (v186 : Va) : Option (Bool × Va) := (f_Model_eat v186 sp k1 41).bind fun q190 => if (q_b q190.1) = 0 then (some (false, q190.2)) else (bnd (pu q190.2 149 5 ((q190.2 149 5) - 1)) fun v205 => some (true, v205))
def j_Model_isValue_92 (sp : Nat) (k1 : Nat) (v92 : Va) : Option (Bool × Va) := (f_Model_eat v92 sp k1 35).bind fun q96 => some (q96.1, q96.2)
def f_Model_isValue (z : Nat) (GB : Nat → List Int32 → Va → Option (Bool × Va)) (v : Va) (sp : Nat) (k1 : Nat) : Option (Bool × Va) := if (v 149 4) < 0 ∨ 401 ≤ (v 149 4).toNatClampNeg then none else if (v (k1 + 1) (v 149 4).toNatClampNeg) = 47 then ((f_Model_goDown v sp k1 47).bind fun q18 => if (q_b q18.1) = 0 then (some (false, q18.2)) else ((GB 5 [] q18.2).bind fun q26 => if (q_b q26.1) = 0 then (some (false, q26.2)) else (bnd (pu q26.2 149 5 ((q26.2 149 5) - 1)) fun v41 => some (true, v41)))) else ((f_Model_eat v sp k1 36).bind fun q50 => if (q_b q50.1) = 0 then ((f_Model_eatIn q50.2 sp k1 19 20).bind fun q62 => if (q_b q62.1) = 0 then ((f_Model_eatIn q62.2 sp k1 21 24).bind fun q76 => if (q_b q76.1) = 0 then ((f_Model_eat q76.2 sp k1 6).bind fun q86 => if (q_b q86.1) = 0 then ((f_Model_eat q86.2 sp k1 25).bind fun q104 => if (q_b q104.1) = 0 then ((f_Model_eatIn q104.2 sp k1 30 31).bind fun q142 => (f_Model_goDown q142.2 sp k1 40).bind fun q150 => if (q_b q150.1) = 0 then (some (false, q150.2)) else ((GB 3 [] q150.2).bind fun q158 => if (q_b q158.1) = 0 then (some (false, q158.2)) else (if (q_b q142.1) = 0 then (j_Model_isValue_186 sp k1 q158.2) else ((f_Model_eat q158.2 sp k1 45).bind fun q172 => if (q_b q172.1) = 0 then (some (false, q172.2)) else ((GB 3 [] q172.2).bind fun q180 => if (q_b q180.1) = 0 then (some (false, q180.2)) else (j_Model_isValue_186 sp k1 q180.2)))))) else ((f_Model_eat q104.2 sp k1 35).bind fun q114 => if (q_b q114.1) = 0 then (some (false, q114.2)) else ((f_Model_eat q114.2 sp k1 35).bind fun q124 => if (q_b q124.1) = 0 then (some (false, q124.2)) else (some (true, q124.2))))) else (j_Model_isValue_92 sp k1 q86.2)) else (j_Model_isValue_92 sp k1 q76.2)) else (some (true, q62.2))) else (some (true, q50.2)))
theorem c_Model_isValue {sp : Nat} {k1 : Nat} {GB : Nat → List Int32 → Va → Option (Bool × Va)} {hh : Nat} (hk : isModel sh sp) (hk1 : isSheet sh k1) (hc : 2 ≤ hh) (ig3 : ∀ (v : Va) (q : Bool × Va), GB 3 [] v = some q → MetI l yX14_isSum cX14_isSum 2 (some .boolean) hh Γ sh v w n [.ref (Γ.2.1 + 149), .ref (Γ.2.1 + k1)] (fun x u => x = q_b q.1 ∧ u = q.2)) (ig5 : ∀ (v : Va) (q : Bool × Va), GB 5 [] v = some q → MetI l yX14_isValue cX14_isValue 3 (some .boolean) hh Γ sh v w n [.ref (Γ.2.1 + 149), .ref (Γ.2.1 + k1)] (fun x u => x = q_b q.1 ∧ u = q.2)) {q : Bool × Va} (h : f_Model_isValue z GB v sp k1 = some q) : MetI l yX14_isValue cX14_isValue 3 (some .boolean) (hh + 1) Γ sh v w n [.ref (Γ.2.1 + 149), .ref (Γ.2.1 + k1)] (fun x u => x = q_b q.1 ∧ u = q.2) := by
  unfold f_Model_isValue at h
  refine w_start pn_X14 (Nat.le_of_ble_eq_true rfl) fun p e s m args below meth c hx hb hml hret hlk hnm hts hown hK hP hz hE hS ls hl => ?_
  refine lv_aload_n hx hb dX14_isValue_0 rfl (lv_at hl 1 rfl) ?_
  refine w_gr (k := k1) (r := (k1 + 1)) hx hb hts hown hK hP fX14_102 hk1.1 rfl dX14_isValue_1 ?_
  refine lv_aload_n hx hb dX14_isValue_4 rfl (lv_at hl 0 rfl) ?_
  refine w_gi (k := 149) hx hb hts hown hK hP fX14_108 hk.1 rfl dX14_isValue_5 ?_
  obtain ⟨hn8, h⟩ := itn_e h
  refine w_iald (k := (k1 + 1)) hx hb hK hP hk1.2.1 hn8 dX14_isValue_8 ?_
  refine lv_bipush (v := 47) hx hb dX14_isValue_9 rfl ?_
  refine lv_icmp_ne (tgt := 46) hx hb dX14_isValue_11 rfl (fun hc11 => ?_) (fun hc11 => ?_)
  · have h := itf_e h hc11
    refine lv_aload_n hx hb dX14_isValue_46 rfl (lv_at hl 0 rfl) ?_
    refine lv_aload_n hx hb dX14_isValue_47 rfl (lv_at hl 1 rfl) ?_
    refine lv_bipush (v := 36) hx hb dX14_isValue_48 rfl ?_
    obtain ⟨q50, e50, h⟩ := obn_e h
    refine z_Vi (k := 149) (r1 := (q_b q50.1)) (v1 := q50.2) hx hb hml hts hown hK hP hS hz hE (c_Model_eat hk hk1 e50) kX14_eat mX14_118 hk.1 rfl rfl rfl hl.1 (Nat.le_of_ble_eq_true rfl) (q_room hc (Nat.le_of_ble_eq_true rfl) (Nat.le_of_ble_eq_true rfl)) ⟨Nat.le_refl _, Nat.le_refl _⟩ dX14_isValue_50 fun H1 locs1 hz hP hS => ?_
    refine lv_if_ne (tgt := 68) hx hb dX14_isValue_53 rfl (fun hc53 => ?_) (fun hc53 => ?_)
    · have h := itf_e h hc53
      refine lv_iconst (v := 1) hx hb dX14_isValue_68 rfl ?_
      exact w_iret hx hb hret rfl hlk hK hP hS hz hE (q_p2b h) dX14_isValue_69
    · have h := itt_e h hc53
      refine lv_aload_n hx hb dX14_isValue_56 rfl (lv_at hl 0 rfl) ?_
      refine lv_aload_n hx hb dX14_isValue_57 rfl (lv_at hl 1 rfl) ?_
      refine lv_bipush (v := 19) hx hb dX14_isValue_58 rfl ?_
      refine lv_bipush (v := 20) hx hb dX14_isValue_60 rfl ?_
      obtain ⟨q62, e62, h⟩ := obn_e h
      refine z_Vi (k := 149) (r1 := (q_b q62.1)) (v1 := q62.2) hx hb hml hts hown hK hP hS hz hE (c_Model_eatIn hk hk1 e62) kX14_eatIn mX14_146 hk.1 rfl rfl rfl hl.1 (Nat.le_of_ble_eq_true rfl) (q_room hc (Nat.le_of_ble_eq_true rfl) (Nat.le_of_ble_eq_true rfl)) ⟨Nat.le_refl _, Nat.le_refl _⟩ dX14_isValue_62 fun H1 locs1 hz hP hS => ?_
      refine lv_if_eq (tgt := 70) hx hb dX14_isValue_65 rfl (fun hc65 => ?_) (fun hc65 => ?_)
      · have h := itt_e h hc65
        refine lv_aload_n hx hb dX14_isValue_70 rfl (lv_at hl 0 rfl) ?_
        refine lv_aload_n hx hb dX14_isValue_71 rfl (lv_at hl 1 rfl) ?_
        refine lv_bipush (v := 21) hx hb dX14_isValue_72 rfl ?_
        refine lv_bipush (v := 24) hx hb dX14_isValue_74 rfl ?_
        obtain ⟨q76, e76, h⟩ := obn_e h
        refine z_Vi (k := 149) (r1 := (q_b q76.1)) (v1 := q76.2) hx hb hml hts hown hK hP hS hz hE (c_Model_eatIn hk hk1 e76) kX14_eatIn mX14_146 hk.1 rfl rfl rfl hl.1 (Nat.le_of_ble_eq_true rfl) (q_room hc (Nat.le_of_ble_eq_true rfl) (Nat.le_of_ble_eq_true rfl)) ⟨Nat.le_refl _, Nat.le_refl _⟩ dX14_isValue_76 fun H1 locs1 hz hP hS => ?_
        have J92 : ∀ (v92 : Va), (j_Model_isValue_92 sp k1) v92 = some q → ∀ (H1 : Heap) (locs1 : List Loc) (ls1 : Array Slot), lv_has ls1 3 [(0, .ref (Γ.2.1 + 149)), (1, .ref (Γ.2.1 + k1))] → Wd Γ sh v92 w H1 → va_S (gA Γ) s.heap H1 locs1 → H1.size = Γ.2.1 + n → wpI Γ sh w n (hh + 1) (fun x u => x = q_b q.1 ∧ u = q.2) p l e s m args below meth c H1 locs1 (F0 m 92 ls1 []) := by
          intro v92 h H1 locs1 ls hl hP hS hz
          unfold j_Model_isValue_92 at h
          refine lv_aload_n hx hb dX14_isValue_92 rfl (lv_at hl 0 rfl) ?_
          refine lv_aload_n hx hb dX14_isValue_93 rfl (lv_at hl 1 rfl) ?_
          refine lv_bipush (v := 35) hx hb dX14_isValue_94 rfl ?_
          obtain ⟨q96, e96, h⟩ := obn_e h
          refine z_Vi (k := 149) (r1 := (q_b q96.1)) (v1 := q96.2) hx hb hml hts hown hK hP hS hz hE (c_Model_eat hk hk1 e96) kX14_eat mX14_118 hk.1 rfl rfl rfl hl.1 (Nat.le_of_ble_eq_true rfl) (q_room hc (Nat.le_of_ble_eq_true rfl) (Nat.le_of_ble_eq_true rfl)) ⟨Nat.le_refl _, Nat.le_refl _⟩ dX14_isValue_96 fun H1 locs1 hz hP hS => ?_
          exact w_iret hx hb hret (q_bn _) hlk hK hP hS hz hE (q_p2b h) dX14_isValue_99
        refine lv_if_ne (tgt := 92) hx hb dX14_isValue_79 rfl (fun hc79 => ?_) (fun hc79 => ?_)
        · have h := itf_e h hc79
          exact J92 q76.2 h _ _ _ (lv_sub hl [0, 1] rfl) hP hS hz
        · have h := itt_e h hc79
          refine lv_aload_n hx hb dX14_isValue_82 rfl (lv_at hl 0 rfl) ?_
          refine lv_aload_n hx hb dX14_isValue_83 rfl (lv_at hl 1 rfl) ?_
          refine lv_bipush (v := 6) hx hb dX14_isValue_84 rfl ?_
          obtain ⟨q86, e86, h⟩ := obn_e h
          refine z_Vi (k := 149) (r1 := (q_b q86.1)) (v1 := q86.2) hx hb hml hts hown hK hP hS hz hE (c_Model_eat hk hk1 e86) kX14_eat mX14_118 hk.1 rfl rfl rfl hl.1 (Nat.le_of_ble_eq_true rfl) (q_room hc (Nat.le_of_ble_eq_true rfl) (Nat.le_of_ble_eq_true rfl)) ⟨Nat.le_refl _, Nat.le_refl _⟩ dX14_isValue_86 fun H1 locs1 hz hP hS => ?_
          refine lv_if_eq (tgt := 100) hx hb dX14_isValue_89 rfl (fun hc89 => ?_) (fun hc89 => ?_)
          · have h := itt_e h hc89
            refine lv_aload_n hx hb dX14_isValue_100 rfl (lv_at hl 0 rfl) ?_
            refine lv_aload_n hx hb dX14_isValue_101 rfl (lv_at hl 1 rfl) ?_
            refine lv_bipush (v := 25) hx hb dX14_isValue_102 rfl ?_
            obtain ⟨q104, e104, h⟩ := obn_e h
            refine z_Vi (k := 149) (r1 := (q_b q104.1)) (v1 := q104.2) hx hb hml hts hown hK hP hS hz hE (c_Model_eat hk hk1 e104) kX14_eat mX14_118 hk.1 rfl rfl rfl hl.1 (Nat.le_of_ble_eq_true rfl) (q_room hc (Nat.le_of_ble_eq_true rfl) (Nat.le_of_ble_eq_true rfl)) ⟨Nat.le_refl _, Nat.le_refl _⟩ dX14_isValue_104 fun H1 locs1 hz hP hS => ?_
            refine lv_if_eq (tgt := 136) hx hb dX14_isValue_107 rfl (fun hc107 => ?_) (fun hc107 => ?_)
            · have h := itt_e h hc107
              refine lv_aload_n hx hb dX14_isValue_136 rfl (lv_at hl 0 rfl) ?_
              refine lv_aload_n hx hb dX14_isValue_137 rfl (lv_at hl 1 rfl) ?_
              refine lv_bipush (v := 30) hx hb dX14_isValue_138 rfl ?_
              refine lv_bipush (v := 31) hx hb dX14_isValue_140 rfl ?_
              obtain ⟨q142, e142, h⟩ := obn_e h
              refine z_Vi (k := 149) (r1 := (q_b q142.1)) (v1 := q142.2) hx hb hml hts hown hK hP hS hz hE (c_Model_eatIn hk hk1 e142) kX14_eatIn mX14_146 hk.1 rfl rfl rfl hl.1 (Nat.le_of_ble_eq_true rfl) (q_room hc (Nat.le_of_ble_eq_true rfl) (Nat.le_of_ble_eq_true rfl)) ⟨Nat.le_refl _, Nat.le_refl _⟩ dX14_isValue_142 fun H1 locs1 hz hP hS => ?_
              refine lv_istore_n (lv' := [(2, .int (q_b q142.1)), (0, .ref (Γ.2.1 + 149)), (1, .ref (Γ.2.1 + k1))]) hx hb dX14_isValue_145 rfl hl (by decide) rfl fun ls hl => ?_
              refine lv_aload_n hx hb dX14_isValue_146 rfl (lv_at hl 1 rfl) ?_
              refine lv_aload_n hx hb dX14_isValue_147 rfl (lv_at hl 2 rfl) ?_
              refine lv_bipush (v := 40) hx hb dX14_isValue_148 rfl ?_
              obtain ⟨q150, e150, h⟩ := obn_e h
              refine z_Vi (k := 149) (r1 := (q_b q150.1)) (v1 := q150.2) hx hb hml hts hown hK hP hS hz hE (c_Model_goDown hk hk1 e150) kX14_goDown mX14_143 hk.1 rfl rfl rfl hl.1 (Nat.le_of_ble_eq_true rfl) (q_room hc (Nat.le_of_ble_eq_true rfl) (Nat.le_of_ble_eq_true rfl)) ⟨Nat.le_refl _, Nat.le_refl _⟩ dX14_isValue_150 fun H1 locs1 hz hP hS => ?_
              refine lv_if_eq (tgt := 196) hx hb dX14_isValue_153 rfl (fun hc153 => ?_) (fun hc153 => ?_)
              · have h := itt_e h hc153
                refine lv_iconst (v := 0) hx hb dX14_isValue_196 rfl ?_
                exact w_iret hx hb hret rfl hlk hK hP hS hz hE (q_p2b h) dX14_isValue_197
              · have h := itf_e h hc153
                refine lv_aload_n hx hb dX14_isValue_156 rfl (lv_at hl 1 rfl) ?_
                refine lv_aload_n hx hb dX14_isValue_157 rfl (lv_at hl 2 rfl) ?_
                obtain ⟨q158, e158, h⟩ := obn_e h
                refine z_Vi (k := 149) (r1 := (q_b q158.1)) (v1 := q158.2) hx hb hml hts hown hK hP hS hz hE (ig3 _ _ e158) kX14_isSum mX14_134 hk.1 rfl rfl rfl hl.1 (Nat.le_of_ble_eq_true rfl) (q_room (Nat.le_refl _) (Nat.le_refl _) (Nat.le_of_ble_eq_true rfl)) ⟨Nat.le_refl _, Nat.le_refl _⟩ dX14_isValue_158 fun H1 locs1 hz hP hS => ?_
                refine lv_if_eq (tgt := 196) hx hb dX14_isValue_161 rfl (fun hc161 => ?_) (fun hc161 => ?_)
                · have h := itt_e h hc161
                  refine lv_iconst (v := 0) hx hb dX14_isValue_196 rfl ?_
                  exact w_iret hx hb hret rfl hlk hK hP hS hz hE (q_p2b h) dX14_isValue_197
                · have h := itf_e h hc161
                  refine lv_iload_n hx hb dX14_isValue_164 rfl (lv_at hl 0 rfl) ?_
                  have J186 : ∀ (v186 : Va), (j_Model_isValue_186 sp k1) v186 = some q → ∀ (H1 : Heap) (locs1 : List Loc) (ls1 : Array Slot), lv_has ls1 3 [(0, .ref (Γ.2.1 + 149)), (1, .ref (Γ.2.1 + k1))] → Wd Γ sh v186 w H1 → va_S (gA Γ) s.heap H1 locs1 → H1.size = Γ.2.1 + n → wpI Γ sh w n (hh + 1) (fun x u => x = q_b q.1 ∧ u = q.2) p l e s m args below meth c H1 locs1 (F0 m 186 ls1 []) := by
                    intro v186 h H1 locs1 ls hl hP hS hz
                    unfold j_Model_isValue_186 at h
                    refine lv_aload_n hx hb dX14_isValue_186 rfl (lv_at hl 0 rfl) ?_
                    refine lv_aload_n hx hb dX14_isValue_187 rfl (lv_at hl 1 rfl) ?_
                    refine lv_bipush (v := 41) hx hb dX14_isValue_188 rfl ?_
                    obtain ⟨q190, e190, h⟩ := obn_e h
                    refine z_Vi (k := 149) (r1 := (q_b q190.1)) (v1 := q190.2) hx hb hml hts hown hK hP hS hz hE (c_Model_eat hk hk1 e190) kX14_eat mX14_118 hk.1 rfl rfl rfl hl.1 (Nat.le_of_ble_eq_true rfl) (q_room hc (Nat.le_of_ble_eq_true rfl) (Nat.le_of_ble_eq_true rfl)) ⟨Nat.le_refl _, Nat.le_refl _⟩ dX14_isValue_190 fun H1 locs1 hz hP hS => ?_
                    refine lv_if_ne (tgt := 198) hx hb dX14_isValue_193 rfl (fun hc193 => ?_) (fun hc193 => ?_)
                    · have h := itf_e h hc193
                      refine lv_aload_n hx hb dX14_isValue_198 rfl (lv_at hl 0 rfl) ?_
                      refine lv_dup hx hb dX14_isValue_199 rfl ?_
                      refine w_gi (k := 149) hx hb hts hown hK hP fX14_111 hk.1 rfl dX14_isValue_200 ?_
                      refine lv_iconst (v := 1) hx hb dX14_isValue_203 rfl ?_
                      refine lv_isub hx hb dX14_isValue_204 ?_
                      obtain ⟨v205, e205, h⟩ := bnd_e h
                      refine w_pi2 (k := 149) hx hb hts hown hK hP hS hz fX14_111 hk.1 rfl e205 dX14_isValue_205 fun H1 locs1 hz hP hS => ?_
                      refine lv_iconst (v := 1) hx hb dX14_isValue_208 rfl ?_
                      exact w_iret hx hb hret rfl hlk hK hP hS hz hE (q_p2b h) dX14_isValue_209
                    · have h := itt_e h hc193
                      refine lv_iconst (v := 0) hx hb dX14_isValue_196 rfl ?_
                      exact w_iret hx hb hret rfl hlk hK hP hS hz hE (q_p2b h) dX14_isValue_197
                  refine lv_if_eq (tgt := 186) hx hb dX14_isValue_165 rfl (fun hc165 => ?_) (fun hc165 => ?_)
                  · have h := itt_e h hc165
                    exact J186 q158.2 h _ _ _ (lv_sub hl [1, 2] rfl) hP hS hz
                  · have h := itf_e h hc165
                    refine lv_aload_n hx hb dX14_isValue_168 rfl (lv_at hl 1 rfl) ?_
                    refine lv_aload_n hx hb dX14_isValue_169 rfl (lv_at hl 2 rfl) ?_
                    refine lv_bipush (v := 45) hx hb dX14_isValue_170 rfl ?_
                    obtain ⟨q172, e172, h⟩ := obn_e h
                    refine z_Vi (k := 149) (r1 := (q_b q172.1)) (v1 := q172.2) hx hb hml hts hown hK hP hS hz hE (c_Model_eat hk hk1 e172) kX14_eat mX14_118 hk.1 rfl rfl rfl hl.1 (Nat.le_of_ble_eq_true rfl) (q_room hc (Nat.le_of_ble_eq_true rfl) (Nat.le_of_ble_eq_true rfl)) ⟨Nat.le_refl _, Nat.le_refl _⟩ dX14_isValue_172 fun H1 locs1 hz hP hS => ?_
                    refine lv_if_eq (tgt := 196) hx hb dX14_isValue_175 rfl (fun hc175 => ?_) (fun hc175 => ?_)
                    · have h := itt_e h hc175
                      refine lv_iconst (v := 0) hx hb dX14_isValue_196 rfl ?_
                      exact w_iret hx hb hret rfl hlk hK hP hS hz hE (q_p2b h) dX14_isValue_197
                    · have h := itf_e h hc175
                      refine lv_aload_n hx hb dX14_isValue_178 rfl (lv_at hl 1 rfl) ?_
                      refine lv_aload_n hx hb dX14_isValue_179 rfl (lv_at hl 2 rfl) ?_
                      obtain ⟨q180, e180, h⟩ := obn_e h
                      refine z_Vi (k := 149) (r1 := (q_b q180.1)) (v1 := q180.2) hx hb hml hts hown hK hP hS hz hE (ig3 _ _ e180) kX14_isSum mX14_134 hk.1 rfl rfl rfl hl.1 (Nat.le_of_ble_eq_true rfl) (q_room (Nat.le_refl _) (Nat.le_refl _) (Nat.le_of_ble_eq_true rfl)) ⟨Nat.le_refl _, Nat.le_refl _⟩ dX14_isValue_180 fun H1 locs1 hz hP hS => ?_
                      refine lv_if_eq (tgt := 196) hx hb dX14_isValue_183 rfl (fun hc183 => ?_) (fun hc183 => ?_)
                      · have h := itt_e h hc183
                        refine lv_iconst (v := 0) hx hb dX14_isValue_196 rfl ?_
                        exact w_iret hx hb hret rfl hlk hK hP hS hz hE (q_p2b h) dX14_isValue_197
                      · have h := itf_e h hc183
                        exact J186 q180.2 h _ _ _ (lv_sub hl [1, 2] rfl) hP hS hz
            · have h := itf_e h hc107
              refine lv_aload_n hx hb dX14_isValue_110 rfl (lv_at hl 0 rfl) ?_
              refine lv_aload_n hx hb dX14_isValue_111 rfl (lv_at hl 1 rfl) ?_
              refine lv_bipush (v := 35) hx hb dX14_isValue_112 rfl ?_
              obtain ⟨q114, e114, h⟩ := obn_e h
              refine z_Vi (k := 149) (r1 := (q_b q114.1)) (v1 := q114.2) hx hb hml hts hown hK hP hS hz hE (c_Model_eat hk hk1 e114) kX14_eat mX14_118 hk.1 rfl rfl rfl hl.1 (Nat.le_of_ble_eq_true rfl) (q_room hc (Nat.le_of_ble_eq_true rfl) (Nat.le_of_ble_eq_true rfl)) ⟨Nat.le_refl _, Nat.le_refl _⟩ dX14_isValue_114 fun H1 locs1 hz hP hS => ?_
              refine lv_if_eq (tgt := 134) hx hb dX14_isValue_117 rfl (fun hc117 => ?_) (fun hc117 => ?_)
              · have h := itt_e h hc117
                refine lv_iconst (v := 0) hx hb dX14_isValue_134 rfl ?_
                exact w_iret hx hb hret rfl hlk hK hP hS hz hE (q_p2b h) dX14_isValue_135
              · have h := itf_e h hc117
                refine lv_aload_n hx hb dX14_isValue_120 rfl (lv_at hl 0 rfl) ?_
                refine lv_aload_n hx hb dX14_isValue_121 rfl (lv_at hl 1 rfl) ?_
                refine lv_bipush (v := 35) hx hb dX14_isValue_122 rfl ?_
                obtain ⟨q124, e124, h⟩ := obn_e h
                refine z_Vi (k := 149) (r1 := (q_b q124.1)) (v1 := q124.2) hx hb hml hts hown hK hP hS hz hE (c_Model_eat hk hk1 e124) kX14_eat mX14_118 hk.1 rfl rfl rfl hl.1 (Nat.le_of_ble_eq_true rfl) (q_room hc (Nat.le_of_ble_eq_true rfl) (Nat.le_of_ble_eq_true rfl)) ⟨Nat.le_refl _, Nat.le_refl _⟩ dX14_isValue_124 fun H1 locs1 hz hP hS => ?_
                refine lv_if_eq (tgt := 134) hx hb dX14_isValue_127 rfl (fun hc127 => ?_) (fun hc127 => ?_)
                · have h := itt_e h hc127
                  refine lv_iconst (v := 0) hx hb dX14_isValue_134 rfl ?_
                  exact w_iret hx hb hret rfl hlk hK hP hS hz hE (q_p2b h) dX14_isValue_135
                · have h := itf_e h hc127
                  refine lv_iconst (v := 1) hx hb dX14_isValue_130 rfl ?_
                  refine lv_goto (tgt := 135) hx hb dX14_isValue_131 rfl ?_
                  exact w_iret hx hb hret rfl hlk hK hP hS hz hE (q_p2b h) dX14_isValue_135
          · have h := itf_e h hc89
            exact J92 q86.2 h _ _ _ (lv_sub hl [0, 1] rfl) hP hS hz
      · have h := itf_e h hc65
        refine lv_iconst (v := 1) hx hb dX14_isValue_68 rfl ?_
        exact w_iret hx hb hret rfl hlk hK hP hS hz hE (q_p2b h) dX14_isValue_69
  · have h := itt_e h hc11
    refine lv_aload_n hx hb dX14_isValue_14 rfl (lv_at hl 0 rfl) ?_
    refine lv_aload_n hx hb dX14_isValue_15 rfl (lv_at hl 1 rfl) ?_
    refine lv_bipush (v := 47) hx hb dX14_isValue_16 rfl ?_
    obtain ⟨q18, e18, h⟩ := obn_e h
    refine z_Vi (k := 149) (r1 := (q_b q18.1)) (v1 := q18.2) hx hb hml hts hown hK hP hS hz hE (c_Model_goDown hk hk1 e18) kX14_goDown mX14_143 hk.1 rfl rfl rfl hl.1 (Nat.le_of_ble_eq_true rfl) (q_room hc (Nat.le_of_ble_eq_true rfl) (Nat.le_of_ble_eq_true rfl)) ⟨Nat.le_refl _, Nat.le_refl _⟩ dX14_isValue_18 fun H1 locs1 hz hP hS => ?_
    refine lv_if_eq (tgt := 32) hx hb dX14_isValue_21 rfl (fun hc21 => ?_) (fun hc21 => ?_)
    · have h := itt_e h hc21
      refine lv_iconst (v := 0) hx hb dX14_isValue_32 rfl ?_
      exact w_iret hx hb hret rfl hlk hK hP hS hz hE (q_p2b h) dX14_isValue_33
    · have h := itf_e h hc21
      refine lv_aload_n hx hb dX14_isValue_24 rfl (lv_at hl 0 rfl) ?_
      refine lv_aload_n hx hb dX14_isValue_25 rfl (lv_at hl 1 rfl) ?_
      obtain ⟨q26, e26, h⟩ := obn_e h
      refine z_Vi (k := 149) (r1 := (q_b q26.1)) (v1 := q26.2) hx hb hml hts hown hK hP hS hz hE (ig5 _ _ e26) kX14_isValue mX14_153 hk.1 rfl rfl rfl hl.1 (Nat.le_of_ble_eq_true rfl) (q_room (Nat.le_refl _) (Nat.le_refl _) (Nat.le_of_ble_eq_true rfl)) ⟨Nat.le_refl _, Nat.le_refl _⟩ dX14_isValue_26 fun H1 locs1 hz hP hS => ?_
      refine lv_if_ne (tgt := 34) hx hb dX14_isValue_29 rfl (fun hc29 => ?_) (fun hc29 => ?_)
      · have h := itf_e h hc29
        refine lv_aload_n hx hb dX14_isValue_34 rfl (lv_at hl 0 rfl) ?_
        refine lv_dup hx hb dX14_isValue_35 rfl ?_
        refine w_gi (k := 149) hx hb hts hown hK hP fX14_111 hk.1 rfl dX14_isValue_36 ?_
        refine lv_iconst (v := 1) hx hb dX14_isValue_39 rfl ?_
        refine lv_isub hx hb dX14_isValue_40 ?_
        obtain ⟨v41, e41, h⟩ := bnd_e h
        refine w_pi2 (k := 149) hx hb hts hown hK hP hS hz fX14_111 hk.1 rfl e41 dX14_isValue_41 fun H1 locs1 hz hP hS => ?_
        refine lv_iconst (v := 1) hx hb dX14_isValue_44 rfl ?_
        exact w_iret hx hb hret rfl hlk hK hP hS hz hE (q_p2b h) dX14_isValue_45
      · have h := itt_e h hc29
        refine lv_iconst (v := 0) hx hb dX14_isValue_32 rfl ?_
        exact w_iret hx hb hret rfl hlk hK hP hS hz hE (q_p2b h) dX14_isValue_33
def g_Syn (z : Nat) (sp : Nat) (k1 : Nat) : Nat → (Nat → List Int32 → Va → Option (Bool × Va))
  | 0 => fun _ _ _ => none
  | d + 1 => fun i a v => if i = 0 then f_Model_isTest z (g_Syn z sp k1 d) v sp k1 else if i = 1 then f_Model_isBoth z (g_Syn z sp k1 d) v sp k1 else if i = 2 then f_Model_isSingle z (g_Syn z sp k1 d) v sp k1 else if i = 3 then f_Model_isSum z (g_Syn z sp k1 d) v sp k1 else if i = 4 then f_Model_isProduct z (g_Syn z sp k1 d) v sp k1 else if i = 5 then f_Model_isValue z (g_Syn z sp k1 d) v sp k1 else none
theorem cg_Syn {sp : Nat} {k1 : Nat} (hk : isModel sh sp) (hk1 : isSheet sh k1) : ∀ d : Nat, (∀ (v : Va) (q : Bool × Va), (g_Syn z sp k1 d) 0 [] v = some q → MetI l yX14_isTest cX14_isTest 2 (some .boolean) (2 + d) Γ sh v w n [.ref (Γ.2.1 + 149), .ref (Γ.2.1 + k1)] (fun x u => x = q_b q.1 ∧ u = q.2)) ∧ (∀ (v : Va) (q : Bool × Va), (g_Syn z sp k1 d) 1 [] v = some q → MetI l yX14_isBoth cX14_isBoth 2 (some .boolean) (2 + d) Γ sh v w n [.ref (Γ.2.1 + 149), .ref (Γ.2.1 + k1)] (fun x u => x = q_b q.1 ∧ u = q.2)) ∧ (∀ (v : Va) (q : Bool × Va), (g_Syn z sp k1 d) 2 [] v = some q → MetI l yX14_isSingle cX14_isSingle 2 (some .boolean) (2 + d) Γ sh v w n [.ref (Γ.2.1 + 149), .ref (Γ.2.1 + k1)] (fun x u => x = q_b q.1 ∧ u = q.2)) ∧ (∀ (v : Va) (q : Bool × Va), (g_Syn z sp k1 d) 3 [] v = some q → MetI l yX14_isSum cX14_isSum 2 (some .boolean) (2 + d) Γ sh v w n [.ref (Γ.2.1 + 149), .ref (Γ.2.1 + k1)] (fun x u => x = q_b q.1 ∧ u = q.2)) ∧ (∀ (v : Va) (q : Bool × Va), (g_Syn z sp k1 d) 4 [] v = some q → MetI l yX14_isProduct cX14_isProduct 2 (some .boolean) (2 + d) Γ sh v w n [.ref (Γ.2.1 + 149), .ref (Γ.2.1 + k1)] (fun x u => x = q_b q.1 ∧ u = q.2)) ∧ (∀ (v : Va) (q : Bool × Va), (g_Syn z sp k1 d) 5 [] v = some q → MetI l yX14_isValue cX14_isValue 3 (some .boolean) (2 + d) Γ sh v w n [.ref (Γ.2.1 + 149), .ref (Γ.2.1 + k1)] (fun x u => x = q_b q.1 ∧ u = q.2)) := by
  intro d
  induction d with
  | zero => exact ⟨fun _ _ h => (by cases h), fun _ _ h => (by cases h), fun _ _ h => (by cases h), fun _ _ h => (by cases h), fun _ _ h => (by cases h), fun _ _ h => (by cases h)⟩
  | succ d ih => exact ⟨fun _ _ h => c_Model_isTest hk hk1 (z := z) (GB := g_Syn z sp k1 d) (hh := 2 + d) (Nat.le_add_right _ _) ih.2.1 h,
      fun _ _ h => c_Model_isBoth hk hk1 (z := z) (GB := g_Syn z sp k1 d) (hh := 2 + d) (Nat.le_add_right _ _) ih.2.2.1 h,
      fun _ _ h => c_Model_isSingle hk hk1 (z := z) (GB := g_Syn z sp k1 d) (hh := 2 + d) (Nat.le_add_right _ _) ih.1 ih.2.2.1 ih.2.2.2.1 h,
      fun _ _ h => c_Model_isSum hk hk1 (z := z) (GB := g_Syn z sp k1 d) (hh := 2 + d) (Nat.le_add_right _ _) ih.2.2.2.2.1 h,
      fun _ _ h => c_Model_isProduct hk hk1 (z := z) (GB := g_Syn z sp k1 d) (hh := 2 + d) (Nat.le_add_right _ _) ih.2.2.2.2.2 h,
      fun _ _ h => c_Model_isValue hk hk1 (z := z) (GB := g_Syn z sp k1 d) (hh := 2 + d) (Nat.le_add_right _ _) ih.2.2.2.1 ih.2.2.2.2.2 h⟩
def f_Model_mayTest (z : Nat) (v : Va) (sp : Nat) (k1 : Nat) : Option (Bool × Va) := (f_Model_eat v sp k1 18).bind fun q4 => if (q_b q4.1) = 0 then (some (true, q4.2)) else ((g_Syn z sp k1 48 0 [] q4.2).bind fun q12 => if (q_b q12.1) = 0 then (some (false, q12.2)) else (some (true, q12.2)))
theorem c_Model_mayTest {sp : Nat} {k1 : Nat} (hk : isModel sh sp) (hk1 : isSheet sh k1) {q : Bool × Va} (h : f_Model_mayTest z v sp k1 = some q) : MetI l yX14_mayTest cX14_mayTest 2 (some .boolean) 51 Γ sh v w n [.ref (Γ.2.1 + 149), .ref (Γ.2.1 + k1)] (fun x u => x = q_b q.1 ∧ u = q.2) := by
  unfold f_Model_mayTest at h
  refine w_start pn_X14 (Nat.le_of_ble_eq_true rfl) fun p e s m args below meth c hx hb hml hret hlk hnm hts hown hK hP hz hE hS ls hl => ?_
  refine lv_aload_n hx hb dX14_mayTest_0 rfl (lv_at hl 0 rfl) ?_
  refine lv_aload_n hx hb dX14_mayTest_1 rfl (lv_at hl 1 rfl) ?_
  refine lv_bipush (v := 18) hx hb dX14_mayTest_2 rfl ?_
  obtain ⟨q4, e4, h⟩ := obn_e h
  refine z_Vi (k := 149) (r1 := (q_b q4.1)) (v1 := q4.2) hx hb hml hts hown hK hP hS hz hE (c_Model_eat hk hk1 e4) kX14_eat mX14_118 hk.1 rfl rfl rfl hl.1 (Nat.le_of_ble_eq_true rfl) ⟨Nat.le_of_ble_eq_true rfl, Nat.le_of_ble_eq_true rfl⟩ ⟨Nat.le_refl _, Nat.le_refl _⟩ dX14_mayTest_4 fun H1 locs1 hz hP hS => ?_
  refine lv_if_eq (tgt := 18) hx hb dX14_mayTest_7 rfl (fun hc7 => ?_) (fun hc7 => ?_)
  · have h := itt_e h hc7
    refine lv_iconst (v := 1) hx hb dX14_mayTest_18 rfl ?_
    refine lv_goto (tgt := 23) hx hb dX14_mayTest_19 rfl ?_
    exact w_iret hx hb hret rfl hlk hK hP hS hz hE (q_p2b h) dX14_mayTest_23
  · have h := itf_e h hc7
    refine lv_aload_n hx hb dX14_mayTest_10 rfl (lv_at hl 0 rfl) ?_
    refine lv_aload_n hx hb dX14_mayTest_11 rfl (lv_at hl 1 rfl) ?_
    obtain ⟨q12, e12, h⟩ := obn_e h
    refine z_Vi (k := 149) (r1 := (q_b q12.1)) (v1 := q12.2) hx hb hml hts hown hK hP hS hz hE ((cg_Syn (z := z) hk hk1 48).1 _ _ e12) kX14_isTest mX14_122 hk.1 rfl rfl rfl hl.1 (Nat.le_of_ble_eq_true rfl) ⟨Nat.le_of_ble_eq_true rfl, Nat.le_of_ble_eq_true rfl⟩ ⟨Nat.le_refl _, Nat.le_refl _⟩ dX14_mayTest_12 fun H1 locs1 hz hP hS => ?_
    refine lv_if_eq (tgt := 22) hx hb dX14_mayTest_15 rfl (fun hc15 => ?_) (fun hc15 => ?_)
    · have h := itt_e h hc15
      refine lv_iconst (v := 0) hx hb dX14_mayTest_22 rfl ?_
      exact w_iret hx hb hret rfl hlk hK hP hS hz hE (q_p2b h) dX14_mayTest_23
    · have h := itf_e h hc15
      refine lv_iconst (v := 1) hx hb dX14_mayTest_18 rfl ?_
      refine lv_goto (tgt := 23) hx hb dX14_mayTest_19 rfl ?_
      exact w_iret hx hb hret rfl hlk hK hP hS hz hE (q_p2b h) dX14_mayTest_23
def f_Model_isLine (z : Nat) (v : Va) (sp : Nat) (k1 : Nat) : Option (Bool × Va) := if (v 149 4) < 0 ∨ 401 ≤ (v 149 4).toNatClampNeg then none else if (v (k1 + 1) (v 149 4).toNatClampNeg) = 0 then ((f_Model_isName v sp k1 0).bind fun q87 => if (q_b q87.1) = 0 then (some (false, q87.2)) else ((f_Model_isNumber q87.2 sp k1 1).bind fun q96 => if (q_b q96.1) = 0 then (some (false, q96.2)) else (some (true, q96.2)))) else (if (v (k1 + 1) (v 149 4).toNatClampNeg) = 2 then ((f_Model_isName v sp k1 2).bind fun q111 => if (q_b q111.1) = 0 then (some (false, q111.2)) else ((f_Model_isNumber q111.2 sp k1 3).bind fun q120 => if (q_b q120.1) = 0 then (some (false, q120.2)) else ((f_Model_isNumber q120.2 sp k1 4).bind fun q129 => if (q_b q129.1) = 0 then (some (false, q129.2)) else (some (true, q129.2))))) else (if (v (k1 + 1) (v 149 4).toNatClampNeg) = 5 then ((f_Model_isName v sp k1 5).bind fun q144 => if (q_b q144.1) = 0 then (some (false, q144.2)) else ((f_Model_isNumber q144.2 sp k1 6).bind fun q154 => if (q_b q154.1) = 0 then (some (false, q154.2)) else ((f_Model_isNumber q154.2 sp k1 7).bind fun q164 => if (q_b q164.1) = 0 then (some (false, q164.2)) else (some (true, q164.2))))) else (if (v (k1 + 1) (v 149 4).toNatClampNeg) = 8 then ((f_Model_isName v sp k1 8).bind fun q180 => if (q_b q180.1) = 0 then (some (false, q180.2)) else ((f_Model_isName q180.2 sp k1 9).bind fun q190 => if (q_b q190.1) = 0 then (some (false, q190.2)) else ((f_Model_isNumber q190.2 sp k1 10).bind fun q200 => if (q_b q200.1) = 0 then (some (false, q200.2)) else ((f_Model_isName q200.2 sp k1 11).bind fun q210 => if (q_b q210.1) = 0 then (some (false, q210.2)) else (some (true, q210.2)))))) else (if (v (k1 + 1) (v 149 4).toNatClampNeg) = 12 then ((f_Model_isName v sp k1 12).bind fun q226 => if (q_b q226.1) = 0 then (some (false, q226.2)) else ((f_Model_isName q226.2 sp k1 13).bind fun q236 => if (q_b q236.1) = 0 then (some (false, q236.2)) else ((f_Model_mayTest z q236.2 sp k1).bind fun q244 => if (q_b q244.1) = 0 then (some (false, q244.2)) else (some (true, q244.2))))) else (if (v (k1 + 1) (v 149 4).toNatClampNeg) = 14 then ((f_Model_isName v sp k1 14).bind fun q260 => if (q_b q260.1) = 0 then (some (false, q260.2)) else ((f_Model_isName q260.2 sp k1 15).bind fun q270 => if (q_b q270.1) = 0 then (some (false, q270.2)) else ((f_Model_eat q270.2 sp k1 17).bind fun q280 => if (q_b q280.1) = 0 then (some (false, q280.2)) else ((g_Syn z sp k1 48 3 [] q280.2).bind fun q288 => if (q_b q288.1) = 0 then (some (false, q288.2)) else ((f_Model_mayTest z q288.2 sp k1).bind fun q296 => if (q_b q296.1) = 0 then (some (false, q296.2)) else (some (true, q296.2))))))) else ((f_Model_isName v sp k1 16).bind fun q312 => if (q_b q312.1) = 0 then (some (false, q312.2)) else ((f_Model_isName q312.2 sp k1 15).bind fun q322 => if (q_b q322.1) = 0 then (some (false, q322.2)) else ((f_Model_eat q322.2 sp k1 17).bind fun q332 => if (q_b q332.1) = 0 then (some (false, q332.2)) else ((g_Syn z sp k1 48 3 [] q332.2).bind fun q340 => if (q_b q340.1) = 0 then (some (false, q340.2)) else ((f_Model_mayTest z q340.2 sp k1).bind fun q348 => if (q_b q348.1) = 0 then (some (false, q348.2)) else (some (true, q348.2))))))))))))
theorem c_Model_isLine {sp : Nat} {k1 : Nat} (hk : isModel sh sp) (hk1 : isSheet sh k1) {q : Bool × Va} (h : f_Model_isLine z v sp k1 = some q) : MetI l yX14_isLine cX14_isLine 2 (some .boolean) 52 Γ sh v w n [.ref (Γ.2.1 + 149), .ref (Γ.2.1 + k1)] (fun x u => x = q_b q.1 ∧ u = q.2) := by
  unfold f_Model_isLine at h
  refine w_start pn_X14 (Nat.le_of_ble_eq_true rfl) fun p e s m args below meth c hx hb hml hret hlk hnm hts hown hK hP hz hE hS ls hl => ?_
  refine lv_aload_n hx hb dX14_isLine_0 rfl (lv_at hl 1 rfl) ?_
  refine w_gr (k := k1) (r := (k1 + 1)) hx hb hts hown hK hP fX14_102 hk1.1 rfl dX14_isLine_1 ?_
  refine lv_aload_n hx hb dX14_isLine_4 rfl (lv_at hl 0 rfl) ?_
  refine w_gi (k := 149) hx hb hts hown hK hP fX14_108 hk.1 rfl dX14_isLine_5 ?_
  obtain ⟨hn8, h⟩ := itn_e h
  refine w_iald (k := (k1 + 1)) hx hb hK hP hk1.2.1 hn8 dX14_isLine_8 ?_
  by_cases hc9_0 : (v (k1 + 1) (v 149 4).toNatClampNeg) = 0
  · have h := itt_e h hc9_0
    refine z_tI (y := 0) (tgt := 84) hx hb dX14_isLine_9 hc9_0 (by decide) (by decide) rfl rfl ?_
    refine lv_aload_n hx hb dX14_isLine_84 rfl (lv_at hl 0 rfl) ?_
    refine lv_aload_n hx hb dX14_isLine_85 rfl (lv_at hl 1 rfl) ?_
    refine lv_iconst (v := 0) hx hb dX14_isLine_86 rfl ?_
    obtain ⟨q87, e87, h⟩ := obn_e h
    refine z_Vi (k := 149) (r1 := (q_b q87.1)) (v1 := q87.2) hx hb hml hts hown hK hP hS hz hE (c_Model_isName hk hk1 e87) kX14_isName mX14_125 hk.1 rfl rfl rfl hl.1 (Nat.le_of_ble_eq_true rfl) ⟨Nat.le_of_ble_eq_true rfl, Nat.le_of_ble_eq_true rfl⟩ ⟨Nat.le_refl _, Nat.le_refl _⟩ dX14_isLine_87 fun H1 locs1 hz hP hS => ?_
    refine lv_if_eq (tgt := 106) hx hb dX14_isLine_90 rfl (fun hc90 => ?_) (fun hc90 => ?_)
    · have h := itt_e h hc90
      refine lv_iconst (v := 0) hx hb dX14_isLine_106 rfl ?_
      exact w_iret hx hb hret rfl hlk hK hP hS hz hE (q_p2b h) dX14_isLine_107
    · have h := itf_e h hc90
      refine lv_aload_n hx hb dX14_isLine_93 rfl (lv_at hl 0 rfl) ?_
      refine lv_aload_n hx hb dX14_isLine_94 rfl (lv_at hl 1 rfl) ?_
      refine lv_iconst (v := 1) hx hb dX14_isLine_95 rfl ?_
      obtain ⟨q96, e96, h⟩ := obn_e h
      refine z_Vi (k := 149) (r1 := (q_b q96.1)) (v1 := q96.2) hx hb hml hts hown hK hP hS hz hE (c_Model_isNumber hk hk1 e96) kX14_isNumber mX14_128 hk.1 rfl rfl rfl hl.1 (Nat.le_of_ble_eq_true rfl) ⟨Nat.le_of_ble_eq_true rfl, Nat.le_of_ble_eq_true rfl⟩ ⟨Nat.le_refl _, Nat.le_refl _⟩ dX14_isLine_96 fun H1 locs1 hz hP hS => ?_
      refine lv_if_eq (tgt := 106) hx hb dX14_isLine_99 rfl (fun hc99 => ?_) (fun hc99 => ?_)
      · have h := itt_e h hc99
        refine lv_iconst (v := 0) hx hb dX14_isLine_106 rfl ?_
        exact w_iret hx hb hret rfl hlk hK hP hS hz hE (q_p2b h) dX14_isLine_107
      · have h := itf_e h hc99
        refine lv_iconst (v := 1) hx hb dX14_isLine_102 rfl ?_
        refine lv_goto (tgt := 107) hx hb dX14_isLine_103 rfl ?_
        exact w_iret hx hb hret rfl hlk hK hP hS hz hE (q_p2b h) dX14_isLine_107
  have h := itf_e h hc9_0
  by_cases hc9_2 : (v (k1 + 1) (v 149 4).toNatClampNeg) = 2
  · have h := itt_e h hc9_2
    refine z_tI (y := 2) (tgt := 108) hx hb dX14_isLine_9 hc9_2 (by decide) (by decide) rfl rfl ?_
    refine lv_aload_n hx hb dX14_isLine_108 rfl (lv_at hl 0 rfl) ?_
    refine lv_aload_n hx hb dX14_isLine_109 rfl (lv_at hl 1 rfl) ?_
    refine lv_iconst (v := 2) hx hb dX14_isLine_110 rfl ?_
    obtain ⟨q111, e111, h⟩ := obn_e h
    refine z_Vi (k := 149) (r1 := (q_b q111.1)) (v1 := q111.2) hx hb hml hts hown hK hP hS hz hE (c_Model_isName hk hk1 e111) kX14_isName mX14_125 hk.1 rfl rfl rfl hl.1 (Nat.le_of_ble_eq_true rfl) ⟨Nat.le_of_ble_eq_true rfl, Nat.le_of_ble_eq_true rfl⟩ ⟨Nat.le_refl _, Nat.le_refl _⟩ dX14_isLine_111 fun H1 locs1 hz hP hS => ?_
    refine lv_if_eq (tgt := 139) hx hb dX14_isLine_114 rfl (fun hc114 => ?_) (fun hc114 => ?_)
    · have h := itt_e h hc114
      refine lv_iconst (v := 0) hx hb dX14_isLine_139 rfl ?_
      exact w_iret hx hb hret rfl hlk hK hP hS hz hE (q_p2b h) dX14_isLine_140
    · have h := itf_e h hc114
      refine lv_aload_n hx hb dX14_isLine_117 rfl (lv_at hl 0 rfl) ?_
      refine lv_aload_n hx hb dX14_isLine_118 rfl (lv_at hl 1 rfl) ?_
      refine lv_iconst (v := 3) hx hb dX14_isLine_119 rfl ?_
      obtain ⟨q120, e120, h⟩ := obn_e h
      refine z_Vi (k := 149) (r1 := (q_b q120.1)) (v1 := q120.2) hx hb hml hts hown hK hP hS hz hE (c_Model_isNumber hk hk1 e120) kX14_isNumber mX14_128 hk.1 rfl rfl rfl hl.1 (Nat.le_of_ble_eq_true rfl) ⟨Nat.le_of_ble_eq_true rfl, Nat.le_of_ble_eq_true rfl⟩ ⟨Nat.le_refl _, Nat.le_refl _⟩ dX14_isLine_120 fun H1 locs1 hz hP hS => ?_
      refine lv_if_eq (tgt := 139) hx hb dX14_isLine_123 rfl (fun hc123 => ?_) (fun hc123 => ?_)
      · have h := itt_e h hc123
        refine lv_iconst (v := 0) hx hb dX14_isLine_139 rfl ?_
        exact w_iret hx hb hret rfl hlk hK hP hS hz hE (q_p2b h) dX14_isLine_140
      · have h := itf_e h hc123
        refine lv_aload_n hx hb dX14_isLine_126 rfl (lv_at hl 0 rfl) ?_
        refine lv_aload_n hx hb dX14_isLine_127 rfl (lv_at hl 1 rfl) ?_
        refine lv_iconst (v := 4) hx hb dX14_isLine_128 rfl ?_
        obtain ⟨q129, e129, h⟩ := obn_e h
        refine z_Vi (k := 149) (r1 := (q_b q129.1)) (v1 := q129.2) hx hb hml hts hown hK hP hS hz hE (c_Model_isNumber hk hk1 e129) kX14_isNumber mX14_128 hk.1 rfl rfl rfl hl.1 (Nat.le_of_ble_eq_true rfl) ⟨Nat.le_of_ble_eq_true rfl, Nat.le_of_ble_eq_true rfl⟩ ⟨Nat.le_refl _, Nat.le_refl _⟩ dX14_isLine_129 fun H1 locs1 hz hP hS => ?_
        refine lv_if_eq (tgt := 139) hx hb dX14_isLine_132 rfl (fun hc132 => ?_) (fun hc132 => ?_)
        · have h := itt_e h hc132
          refine lv_iconst (v := 0) hx hb dX14_isLine_139 rfl ?_
          exact w_iret hx hb hret rfl hlk hK hP hS hz hE (q_p2b h) dX14_isLine_140
        · have h := itf_e h hc132
          refine lv_iconst (v := 1) hx hb dX14_isLine_135 rfl ?_
          refine lv_goto (tgt := 140) hx hb dX14_isLine_136 rfl ?_
          exact w_iret hx hb hret rfl hlk hK hP hS hz hE (q_p2b h) dX14_isLine_140
  have h := itf_e h hc9_2
  by_cases hc9_5 : (v (k1 + 1) (v 149 4).toNatClampNeg) = 5
  · have h := itt_e h hc9_5
    refine z_tI (y := 5) (tgt := 141) hx hb dX14_isLine_9 hc9_5 (by decide) (by decide) rfl rfl ?_
    refine lv_aload_n hx hb dX14_isLine_141 rfl (lv_at hl 0 rfl) ?_
    refine lv_aload_n hx hb dX14_isLine_142 rfl (lv_at hl 1 rfl) ?_
    refine lv_iconst (v := 5) hx hb dX14_isLine_143 rfl ?_
    obtain ⟨q144, e144, h⟩ := obn_e h
    refine z_Vi (k := 149) (r1 := (q_b q144.1)) (v1 := q144.2) hx hb hml hts hown hK hP hS hz hE (c_Model_isName hk hk1 e144) kX14_isName mX14_125 hk.1 rfl rfl rfl hl.1 (Nat.le_of_ble_eq_true rfl) ⟨Nat.le_of_ble_eq_true rfl, Nat.le_of_ble_eq_true rfl⟩ ⟨Nat.le_refl _, Nat.le_refl _⟩ dX14_isLine_144 fun H1 locs1 hz hP hS => ?_
    refine lv_if_eq (tgt := 174) hx hb dX14_isLine_147 rfl (fun hc147 => ?_) (fun hc147 => ?_)
    · have h := itt_e h hc147
      refine lv_iconst (v := 0) hx hb dX14_isLine_174 rfl ?_
      exact w_iret hx hb hret rfl hlk hK hP hS hz hE (q_p2b h) dX14_isLine_175
    · have h := itf_e h hc147
      refine lv_aload_n hx hb dX14_isLine_150 rfl (lv_at hl 0 rfl) ?_
      refine lv_aload_n hx hb dX14_isLine_151 rfl (lv_at hl 1 rfl) ?_
      refine lv_bipush (v := 6) hx hb dX14_isLine_152 rfl ?_
      obtain ⟨q154, e154, h⟩ := obn_e h
      refine z_Vi (k := 149) (r1 := (q_b q154.1)) (v1 := q154.2) hx hb hml hts hown hK hP hS hz hE (c_Model_isNumber hk hk1 e154) kX14_isNumber mX14_128 hk.1 rfl rfl rfl hl.1 (Nat.le_of_ble_eq_true rfl) ⟨Nat.le_of_ble_eq_true rfl, Nat.le_of_ble_eq_true rfl⟩ ⟨Nat.le_refl _, Nat.le_refl _⟩ dX14_isLine_154 fun H1 locs1 hz hP hS => ?_
      refine lv_if_eq (tgt := 174) hx hb dX14_isLine_157 rfl (fun hc157 => ?_) (fun hc157 => ?_)
      · have h := itt_e h hc157
        refine lv_iconst (v := 0) hx hb dX14_isLine_174 rfl ?_
        exact w_iret hx hb hret rfl hlk hK hP hS hz hE (q_p2b h) dX14_isLine_175
      · have h := itf_e h hc157
        refine lv_aload_n hx hb dX14_isLine_160 rfl (lv_at hl 0 rfl) ?_
        refine lv_aload_n hx hb dX14_isLine_161 rfl (lv_at hl 1 rfl) ?_
        refine lv_bipush (v := 7) hx hb dX14_isLine_162 rfl ?_
        obtain ⟨q164, e164, h⟩ := obn_e h
        refine z_Vi (k := 149) (r1 := (q_b q164.1)) (v1 := q164.2) hx hb hml hts hown hK hP hS hz hE (c_Model_isNumber hk hk1 e164) kX14_isNumber mX14_128 hk.1 rfl rfl rfl hl.1 (Nat.le_of_ble_eq_true rfl) ⟨Nat.le_of_ble_eq_true rfl, Nat.le_of_ble_eq_true rfl⟩ ⟨Nat.le_refl _, Nat.le_refl _⟩ dX14_isLine_164 fun H1 locs1 hz hP hS => ?_
        refine lv_if_eq (tgt := 174) hx hb dX14_isLine_167 rfl (fun hc167 => ?_) (fun hc167 => ?_)
        · have h := itt_e h hc167
          refine lv_iconst (v := 0) hx hb dX14_isLine_174 rfl ?_
          exact w_iret hx hb hret rfl hlk hK hP hS hz hE (q_p2b h) dX14_isLine_175
        · have h := itf_e h hc167
          refine lv_iconst (v := 1) hx hb dX14_isLine_170 rfl ?_
          refine lv_goto (tgt := 175) hx hb dX14_isLine_171 rfl ?_
          exact w_iret hx hb hret rfl hlk hK hP hS hz hE (q_p2b h) dX14_isLine_175
  have h := itf_e h hc9_5
  by_cases hc9_8 : (v (k1 + 1) (v 149 4).toNatClampNeg) = 8
  · have h := itt_e h hc9_8
    refine z_tI (y := 8) (tgt := 176) hx hb dX14_isLine_9 hc9_8 (by decide) (by decide) rfl rfl ?_
    refine lv_aload_n hx hb dX14_isLine_176 rfl (lv_at hl 0 rfl) ?_
    refine lv_aload_n hx hb dX14_isLine_177 rfl (lv_at hl 1 rfl) ?_
    refine lv_bipush (v := 8) hx hb dX14_isLine_178 rfl ?_
    obtain ⟨q180, e180, h⟩ := obn_e h
    refine z_Vi (k := 149) (r1 := (q_b q180.1)) (v1 := q180.2) hx hb hml hts hown hK hP hS hz hE (c_Model_isName hk hk1 e180) kX14_isName mX14_125 hk.1 rfl rfl rfl hl.1 (Nat.le_of_ble_eq_true rfl) ⟨Nat.le_of_ble_eq_true rfl, Nat.le_of_ble_eq_true rfl⟩ ⟨Nat.le_refl _, Nat.le_refl _⟩ dX14_isLine_180 fun H1 locs1 hz hP hS => ?_
    refine lv_if_eq (tgt := 220) hx hb dX14_isLine_183 rfl (fun hc183 => ?_) (fun hc183 => ?_)
    · have h := itt_e h hc183
      refine lv_iconst (v := 0) hx hb dX14_isLine_220 rfl ?_
      exact w_iret hx hb hret rfl hlk hK hP hS hz hE (q_p2b h) dX14_isLine_221
    · have h := itf_e h hc183
      refine lv_aload_n hx hb dX14_isLine_186 rfl (lv_at hl 0 rfl) ?_
      refine lv_aload_n hx hb dX14_isLine_187 rfl (lv_at hl 1 rfl) ?_
      refine lv_bipush (v := 9) hx hb dX14_isLine_188 rfl ?_
      obtain ⟨q190, e190, h⟩ := obn_e h
      refine z_Vi (k := 149) (r1 := (q_b q190.1)) (v1 := q190.2) hx hb hml hts hown hK hP hS hz hE (c_Model_isName hk hk1 e190) kX14_isName mX14_125 hk.1 rfl rfl rfl hl.1 (Nat.le_of_ble_eq_true rfl) ⟨Nat.le_of_ble_eq_true rfl, Nat.le_of_ble_eq_true rfl⟩ ⟨Nat.le_refl _, Nat.le_refl _⟩ dX14_isLine_190 fun H1 locs1 hz hP hS => ?_
      refine lv_if_eq (tgt := 220) hx hb dX14_isLine_193 rfl (fun hc193 => ?_) (fun hc193 => ?_)
      · have h := itt_e h hc193
        refine lv_iconst (v := 0) hx hb dX14_isLine_220 rfl ?_
        exact w_iret hx hb hret rfl hlk hK hP hS hz hE (q_p2b h) dX14_isLine_221
      · have h := itf_e h hc193
        refine lv_aload_n hx hb dX14_isLine_196 rfl (lv_at hl 0 rfl) ?_
        refine lv_aload_n hx hb dX14_isLine_197 rfl (lv_at hl 1 rfl) ?_
        refine lv_bipush (v := 10) hx hb dX14_isLine_198 rfl ?_
        obtain ⟨q200, e200, h⟩ := obn_e h
        refine z_Vi (k := 149) (r1 := (q_b q200.1)) (v1 := q200.2) hx hb hml hts hown hK hP hS hz hE (c_Model_isNumber hk hk1 e200) kX14_isNumber mX14_128 hk.1 rfl rfl rfl hl.1 (Nat.le_of_ble_eq_true rfl) ⟨Nat.le_of_ble_eq_true rfl, Nat.le_of_ble_eq_true rfl⟩ ⟨Nat.le_refl _, Nat.le_refl _⟩ dX14_isLine_200 fun H1 locs1 hz hP hS => ?_
        refine lv_if_eq (tgt := 220) hx hb dX14_isLine_203 rfl (fun hc203 => ?_) (fun hc203 => ?_)
        · have h := itt_e h hc203
          refine lv_iconst (v := 0) hx hb dX14_isLine_220 rfl ?_
          exact w_iret hx hb hret rfl hlk hK hP hS hz hE (q_p2b h) dX14_isLine_221
        · have h := itf_e h hc203
          refine lv_aload_n hx hb dX14_isLine_206 rfl (lv_at hl 0 rfl) ?_
          refine lv_aload_n hx hb dX14_isLine_207 rfl (lv_at hl 1 rfl) ?_
          refine lv_bipush (v := 11) hx hb dX14_isLine_208 rfl ?_
          obtain ⟨q210, e210, h⟩ := obn_e h
          refine z_Vi (k := 149) (r1 := (q_b q210.1)) (v1 := q210.2) hx hb hml hts hown hK hP hS hz hE (c_Model_isName hk hk1 e210) kX14_isName mX14_125 hk.1 rfl rfl rfl hl.1 (Nat.le_of_ble_eq_true rfl) ⟨Nat.le_of_ble_eq_true rfl, Nat.le_of_ble_eq_true rfl⟩ ⟨Nat.le_refl _, Nat.le_refl _⟩ dX14_isLine_210 fun H1 locs1 hz hP hS => ?_
          refine lv_if_eq (tgt := 220) hx hb dX14_isLine_213 rfl (fun hc213 => ?_) (fun hc213 => ?_)
          · have h := itt_e h hc213
            refine lv_iconst (v := 0) hx hb dX14_isLine_220 rfl ?_
            exact w_iret hx hb hret rfl hlk hK hP hS hz hE (q_p2b h) dX14_isLine_221
          · have h := itf_e h hc213
            refine lv_iconst (v := 1) hx hb dX14_isLine_216 rfl ?_
            refine lv_goto (tgt := 221) hx hb dX14_isLine_217 rfl ?_
            exact w_iret hx hb hret rfl hlk hK hP hS hz hE (q_p2b h) dX14_isLine_221
  have h := itf_e h hc9_8
  by_cases hc9_12 : (v (k1 + 1) (v 149 4).toNatClampNeg) = 12
  · have h := itt_e h hc9_12
    refine z_tI (y := 12) (tgt := 222) hx hb dX14_isLine_9 hc9_12 (by decide) (by decide) rfl rfl ?_
    refine lv_aload_n hx hb dX14_isLine_222 rfl (lv_at hl 0 rfl) ?_
    refine lv_aload_n hx hb dX14_isLine_223 rfl (lv_at hl 1 rfl) ?_
    refine lv_bipush (v := 12) hx hb dX14_isLine_224 rfl ?_
    obtain ⟨q226, e226, h⟩ := obn_e h
    refine z_Vi (k := 149) (r1 := (q_b q226.1)) (v1 := q226.2) hx hb hml hts hown hK hP hS hz hE (c_Model_isName hk hk1 e226) kX14_isName mX14_125 hk.1 rfl rfl rfl hl.1 (Nat.le_of_ble_eq_true rfl) ⟨Nat.le_of_ble_eq_true rfl, Nat.le_of_ble_eq_true rfl⟩ ⟨Nat.le_refl _, Nat.le_refl _⟩ dX14_isLine_226 fun H1 locs1 hz hP hS => ?_
    refine lv_if_eq (tgt := 254) hx hb dX14_isLine_229 rfl (fun hc229 => ?_) (fun hc229 => ?_)
    · have h := itt_e h hc229
      refine lv_iconst (v := 0) hx hb dX14_isLine_254 rfl ?_
      exact w_iret hx hb hret rfl hlk hK hP hS hz hE (q_p2b h) dX14_isLine_255
    · have h := itf_e h hc229
      refine lv_aload_n hx hb dX14_isLine_232 rfl (lv_at hl 0 rfl) ?_
      refine lv_aload_n hx hb dX14_isLine_233 rfl (lv_at hl 1 rfl) ?_
      refine lv_bipush (v := 13) hx hb dX14_isLine_234 rfl ?_
      obtain ⟨q236, e236, h⟩ := obn_e h
      refine z_Vi (k := 149) (r1 := (q_b q236.1)) (v1 := q236.2) hx hb hml hts hown hK hP hS hz hE (c_Model_isName hk hk1 e236) kX14_isName mX14_125 hk.1 rfl rfl rfl hl.1 (Nat.le_of_ble_eq_true rfl) ⟨Nat.le_of_ble_eq_true rfl, Nat.le_of_ble_eq_true rfl⟩ ⟨Nat.le_refl _, Nat.le_refl _⟩ dX14_isLine_236 fun H1 locs1 hz hP hS => ?_
      refine lv_if_eq (tgt := 254) hx hb dX14_isLine_239 rfl (fun hc239 => ?_) (fun hc239 => ?_)
      · have h := itt_e h hc239
        refine lv_iconst (v := 0) hx hb dX14_isLine_254 rfl ?_
        exact w_iret hx hb hret rfl hlk hK hP hS hz hE (q_p2b h) dX14_isLine_255
      · have h := itf_e h hc239
        refine lv_aload_n hx hb dX14_isLine_242 rfl (lv_at hl 0 rfl) ?_
        refine lv_aload_n hx hb dX14_isLine_243 rfl (lv_at hl 1 rfl) ?_
        obtain ⟨q244, e244, h⟩ := obn_e h
        refine z_Vi (k := 149) (r1 := (q_b q244.1)) (v1 := q244.2) hx hb hml hts hown hK hP hS hz hE (c_Model_mayTest hk hk1 e244) kX14_mayTest mX14_131 hk.1 rfl rfl rfl hl.1 (Nat.le_of_ble_eq_true rfl) ⟨Nat.le_of_ble_eq_true rfl, Nat.le_of_ble_eq_true rfl⟩ ⟨Nat.le_refl _, Nat.le_refl _⟩ dX14_isLine_244 fun H1 locs1 hz hP hS => ?_
        refine lv_if_eq (tgt := 254) hx hb dX14_isLine_247 rfl (fun hc247 => ?_) (fun hc247 => ?_)
        · have h := itt_e h hc247
          refine lv_iconst (v := 0) hx hb dX14_isLine_254 rfl ?_
          exact w_iret hx hb hret rfl hlk hK hP hS hz hE (q_p2b h) dX14_isLine_255
        · have h := itf_e h hc247
          refine lv_iconst (v := 1) hx hb dX14_isLine_250 rfl ?_
          refine lv_goto (tgt := 255) hx hb dX14_isLine_251 rfl ?_
          exact w_iret hx hb hret rfl hlk hK hP hS hz hE (q_p2b h) dX14_isLine_255
  have h := itf_e h hc9_12
  by_cases hc9_14 : (v (k1 + 1) (v 149 4).toNatClampNeg) = 14
  · have h := itt_e h hc9_14
    refine z_tI (y := 14) (tgt := 256) hx hb dX14_isLine_9 hc9_14 (by decide) (by decide) rfl rfl ?_
    refine lv_aload_n hx hb dX14_isLine_256 rfl (lv_at hl 0 rfl) ?_
    refine lv_aload_n hx hb dX14_isLine_257 rfl (lv_at hl 1 rfl) ?_
    refine lv_bipush (v := 14) hx hb dX14_isLine_258 rfl ?_
    obtain ⟨q260, e260, h⟩ := obn_e h
    refine z_Vi (k := 149) (r1 := (q_b q260.1)) (v1 := q260.2) hx hb hml hts hown hK hP hS hz hE (c_Model_isName hk hk1 e260) kX14_isName mX14_125 hk.1 rfl rfl rfl hl.1 (Nat.le_of_ble_eq_true rfl) ⟨Nat.le_of_ble_eq_true rfl, Nat.le_of_ble_eq_true rfl⟩ ⟨Nat.le_refl _, Nat.le_refl _⟩ dX14_isLine_260 fun H1 locs1 hz hP hS => ?_
    refine lv_if_eq (tgt := 306) hx hb dX14_isLine_263 rfl (fun hc263 => ?_) (fun hc263 => ?_)
    · have h := itt_e h hc263
      refine lv_iconst (v := 0) hx hb dX14_isLine_306 rfl ?_
      exact w_iret hx hb hret rfl hlk hK hP hS hz hE (q_p2b h) dX14_isLine_307
    · have h := itf_e h hc263
      refine lv_aload_n hx hb dX14_isLine_266 rfl (lv_at hl 0 rfl) ?_
      refine lv_aload_n hx hb dX14_isLine_267 rfl (lv_at hl 1 rfl) ?_
      refine lv_bipush (v := 15) hx hb dX14_isLine_268 rfl ?_
      obtain ⟨q270, e270, h⟩ := obn_e h
      refine z_Vi (k := 149) (r1 := (q_b q270.1)) (v1 := q270.2) hx hb hml hts hown hK hP hS hz hE (c_Model_isName hk hk1 e270) kX14_isName mX14_125 hk.1 rfl rfl rfl hl.1 (Nat.le_of_ble_eq_true rfl) ⟨Nat.le_of_ble_eq_true rfl, Nat.le_of_ble_eq_true rfl⟩ ⟨Nat.le_refl _, Nat.le_refl _⟩ dX14_isLine_270 fun H1 locs1 hz hP hS => ?_
      refine lv_if_eq (tgt := 306) hx hb dX14_isLine_273 rfl (fun hc273 => ?_) (fun hc273 => ?_)
      · have h := itt_e h hc273
        refine lv_iconst (v := 0) hx hb dX14_isLine_306 rfl ?_
        exact w_iret hx hb hret rfl hlk hK hP hS hz hE (q_p2b h) dX14_isLine_307
      · have h := itf_e h hc273
        refine lv_aload_n hx hb dX14_isLine_276 rfl (lv_at hl 0 rfl) ?_
        refine lv_aload_n hx hb dX14_isLine_277 rfl (lv_at hl 1 rfl) ?_
        refine lv_bipush (v := 17) hx hb dX14_isLine_278 rfl ?_
        obtain ⟨q280, e280, h⟩ := obn_e h
        refine z_Vi (k := 149) (r1 := (q_b q280.1)) (v1 := q280.2) hx hb hml hts hown hK hP hS hz hE (c_Model_eat hk hk1 e280) kX14_eat mX14_118 hk.1 rfl rfl rfl hl.1 (Nat.le_of_ble_eq_true rfl) ⟨Nat.le_of_ble_eq_true rfl, Nat.le_of_ble_eq_true rfl⟩ ⟨Nat.le_refl _, Nat.le_refl _⟩ dX14_isLine_280 fun H1 locs1 hz hP hS => ?_
        refine lv_if_eq (tgt := 306) hx hb dX14_isLine_283 rfl (fun hc283 => ?_) (fun hc283 => ?_)
        · have h := itt_e h hc283
          refine lv_iconst (v := 0) hx hb dX14_isLine_306 rfl ?_
          exact w_iret hx hb hret rfl hlk hK hP hS hz hE (q_p2b h) dX14_isLine_307
        · have h := itf_e h hc283
          refine lv_aload_n hx hb dX14_isLine_286 rfl (lv_at hl 0 rfl) ?_
          refine lv_aload_n hx hb dX14_isLine_287 rfl (lv_at hl 1 rfl) ?_
          obtain ⟨q288, e288, h⟩ := obn_e h
          refine z_Vi (k := 149) (r1 := (q_b q288.1)) (v1 := q288.2) hx hb hml hts hown hK hP hS hz hE ((cg_Syn (z := z) hk hk1 48).2.2.2.1 _ _ e288) kX14_isSum mX14_134 hk.1 rfl rfl rfl hl.1 (Nat.le_of_ble_eq_true rfl) ⟨Nat.le_of_ble_eq_true rfl, Nat.le_of_ble_eq_true rfl⟩ ⟨Nat.le_refl _, Nat.le_refl _⟩ dX14_isLine_288 fun H1 locs1 hz hP hS => ?_
          refine lv_if_eq (tgt := 306) hx hb dX14_isLine_291 rfl (fun hc291 => ?_) (fun hc291 => ?_)
          · have h := itt_e h hc291
            refine lv_iconst (v := 0) hx hb dX14_isLine_306 rfl ?_
            exact w_iret hx hb hret rfl hlk hK hP hS hz hE (q_p2b h) dX14_isLine_307
          · have h := itf_e h hc291
            refine lv_aload_n hx hb dX14_isLine_294 rfl (lv_at hl 0 rfl) ?_
            refine lv_aload_n hx hb dX14_isLine_295 rfl (lv_at hl 1 rfl) ?_
            obtain ⟨q296, e296, h⟩ := obn_e h
            refine z_Vi (k := 149) (r1 := (q_b q296.1)) (v1 := q296.2) hx hb hml hts hown hK hP hS hz hE (c_Model_mayTest hk hk1 e296) kX14_mayTest mX14_131 hk.1 rfl rfl rfl hl.1 (Nat.le_of_ble_eq_true rfl) ⟨Nat.le_of_ble_eq_true rfl, Nat.le_of_ble_eq_true rfl⟩ ⟨Nat.le_refl _, Nat.le_refl _⟩ dX14_isLine_296 fun H1 locs1 hz hP hS => ?_
            refine lv_if_eq (tgt := 306) hx hb dX14_isLine_299 rfl (fun hc299 => ?_) (fun hc299 => ?_)
            · have h := itt_e h hc299
              refine lv_iconst (v := 0) hx hb dX14_isLine_306 rfl ?_
              exact w_iret hx hb hret rfl hlk hK hP hS hz hE (q_p2b h) dX14_isLine_307
            · have h := itf_e h hc299
              refine lv_iconst (v := 1) hx hb dX14_isLine_302 rfl ?_
              refine lv_goto (tgt := 307) hx hb dX14_isLine_303 rfl ?_
              exact w_iret hx hb hret rfl hlk hK hP hS hz hE (q_p2b h) dX14_isLine_307
  have h := itf_e h hc9_14
  refine z_tD (tgt := 308) hx hb [0, 2, 5, 8, 12, 14] dX14_isLine_9 (q_nc hc9_0 (q_nc hc9_2 (q_nc hc9_5 (q_nc hc9_8 (q_nc hc9_12 (q_nc hc9_14 q_nn)))))) (by decide) (by decide) rfl ?_
  refine lv_aload_n hx hb dX14_isLine_308 rfl (lv_at hl 0 rfl) ?_
  refine lv_aload_n hx hb dX14_isLine_309 rfl (lv_at hl 1 rfl) ?_
  refine lv_bipush (v := 16) hx hb dX14_isLine_310 rfl ?_
  obtain ⟨q312, e312, h⟩ := obn_e h
  refine z_Vi (k := 149) (r1 := (q_b q312.1)) (v1 := q312.2) hx hb hml hts hown hK hP hS hz hE (c_Model_isName hk hk1 e312) kX14_isName mX14_125 hk.1 rfl rfl rfl hl.1 (Nat.le_of_ble_eq_true rfl) ⟨Nat.le_of_ble_eq_true rfl, Nat.le_of_ble_eq_true rfl⟩ ⟨Nat.le_refl _, Nat.le_refl _⟩ dX14_isLine_312 fun H1 locs1 hz hP hS => ?_
  refine lv_if_eq (tgt := 358) hx hb dX14_isLine_315 rfl (fun hc315 => ?_) (fun hc315 => ?_)
  · have h := itt_e h hc315
    refine lv_iconst (v := 0) hx hb dX14_isLine_358 rfl ?_
    exact w_iret hx hb hret rfl hlk hK hP hS hz hE (q_p2b h) dX14_isLine_359
  · have h := itf_e h hc315
    refine lv_aload_n hx hb dX14_isLine_318 rfl (lv_at hl 0 rfl) ?_
    refine lv_aload_n hx hb dX14_isLine_319 rfl (lv_at hl 1 rfl) ?_
    refine lv_bipush (v := 15) hx hb dX14_isLine_320 rfl ?_
    obtain ⟨q322, e322, h⟩ := obn_e h
    refine z_Vi (k := 149) (r1 := (q_b q322.1)) (v1 := q322.2) hx hb hml hts hown hK hP hS hz hE (c_Model_isName hk hk1 e322) kX14_isName mX14_125 hk.1 rfl rfl rfl hl.1 (Nat.le_of_ble_eq_true rfl) ⟨Nat.le_of_ble_eq_true rfl, Nat.le_of_ble_eq_true rfl⟩ ⟨Nat.le_refl _, Nat.le_refl _⟩ dX14_isLine_322 fun H1 locs1 hz hP hS => ?_
    refine lv_if_eq (tgt := 358) hx hb dX14_isLine_325 rfl (fun hc325 => ?_) (fun hc325 => ?_)
    · have h := itt_e h hc325
      refine lv_iconst (v := 0) hx hb dX14_isLine_358 rfl ?_
      exact w_iret hx hb hret rfl hlk hK hP hS hz hE (q_p2b h) dX14_isLine_359
    · have h := itf_e h hc325
      refine lv_aload_n hx hb dX14_isLine_328 rfl (lv_at hl 0 rfl) ?_
      refine lv_aload_n hx hb dX14_isLine_329 rfl (lv_at hl 1 rfl) ?_
      refine lv_bipush (v := 17) hx hb dX14_isLine_330 rfl ?_
      obtain ⟨q332, e332, h⟩ := obn_e h
      refine z_Vi (k := 149) (r1 := (q_b q332.1)) (v1 := q332.2) hx hb hml hts hown hK hP hS hz hE (c_Model_eat hk hk1 e332) kX14_eat mX14_118 hk.1 rfl rfl rfl hl.1 (Nat.le_of_ble_eq_true rfl) ⟨Nat.le_of_ble_eq_true rfl, Nat.le_of_ble_eq_true rfl⟩ ⟨Nat.le_refl _, Nat.le_refl _⟩ dX14_isLine_332 fun H1 locs1 hz hP hS => ?_
      refine lv_if_eq (tgt := 358) hx hb dX14_isLine_335 rfl (fun hc335 => ?_) (fun hc335 => ?_)
      · have h := itt_e h hc335
        refine lv_iconst (v := 0) hx hb dX14_isLine_358 rfl ?_
        exact w_iret hx hb hret rfl hlk hK hP hS hz hE (q_p2b h) dX14_isLine_359
      · have h := itf_e h hc335
        refine lv_aload_n hx hb dX14_isLine_338 rfl (lv_at hl 0 rfl) ?_
        refine lv_aload_n hx hb dX14_isLine_339 rfl (lv_at hl 1 rfl) ?_
        obtain ⟨q340, e340, h⟩ := obn_e h
        refine z_Vi (k := 149) (r1 := (q_b q340.1)) (v1 := q340.2) hx hb hml hts hown hK hP hS hz hE ((cg_Syn (z := z) hk hk1 48).2.2.2.1 _ _ e340) kX14_isSum mX14_134 hk.1 rfl rfl rfl hl.1 (Nat.le_of_ble_eq_true rfl) ⟨Nat.le_of_ble_eq_true rfl, Nat.le_of_ble_eq_true rfl⟩ ⟨Nat.le_refl _, Nat.le_refl _⟩ dX14_isLine_340 fun H1 locs1 hz hP hS => ?_
        refine lv_if_eq (tgt := 358) hx hb dX14_isLine_343 rfl (fun hc343 => ?_) (fun hc343 => ?_)
        · have h := itt_e h hc343
          refine lv_iconst (v := 0) hx hb dX14_isLine_358 rfl ?_
          exact w_iret hx hb hret rfl hlk hK hP hS hz hE (q_p2b h) dX14_isLine_359
        · have h := itf_e h hc343
          refine lv_aload_n hx hb dX14_isLine_346 rfl (lv_at hl 0 rfl) ?_
          refine lv_aload_n hx hb dX14_isLine_347 rfl (lv_at hl 1 rfl) ?_
          obtain ⟨q348, e348, h⟩ := obn_e h
          refine z_Vi (k := 149) (r1 := (q_b q348.1)) (v1 := q348.2) hx hb hml hts hown hK hP hS hz hE (c_Model_mayTest hk hk1 e348) kX14_mayTest mX14_131 hk.1 rfl rfl rfl hl.1 (Nat.le_of_ble_eq_true rfl) ⟨Nat.le_of_ble_eq_true rfl, Nat.le_of_ble_eq_true rfl⟩ ⟨Nat.le_refl _, Nat.le_refl _⟩ dX14_isLine_348 fun H1 locs1 hz hP hS => ?_
          refine lv_if_eq (tgt := 358) hx hb dX14_isLine_351 rfl (fun hc351 => ?_) (fun hc351 => ?_)
          · have h := itt_e h hc351
            refine lv_iconst (v := 0) hx hb dX14_isLine_358 rfl ?_
            exact w_iret hx hb hret rfl hlk hK hP hS hz hE (q_p2b h) dX14_isLine_359
          · have h := itf_e h hc351
            refine lv_iconst (v := 1) hx hb dX14_isLine_354 rfl ?_
            refine lv_goto (tgt := 359) hx hb dX14_isLine_355 rfl ?_
            exact w_iret hx hb hret rfl hlk hK hP hS hz hE (q_p2b h) dX14_isLine_359
def b_Model_isList_0 (z : Nat) (sp : Nat) (k1 : Nat) (K0 : Va → Option (Bool × Va)) (t0 : Va) : Option (Bool × Va) := if (t0 149 4) < 0 ∨ 401 ≤ (t0 149 4).toNatClampNeg then none else if (t0 (k1 + 1) (t0 149 4).toNatClampNeg) = 70 then (some (true, t0)) else ((f_Model_isLine z t0 sp k1).bind fun q16 => if (q_b q16.1) = 0 then (some (false, q16.2)) else ((f_Model_eat q16.2 sp k1 44).bind fun q26 => if (q_b q26.1) = 0 then (some (false, q26.2)) else (K0 q26.2)))
def f_Model_isList (z : Nat) (v : Va) (sp : Nat) (k1 : Nat) : Option (Bool × Va) := rp (b_Model_isList_0 z sp k1) z v
theorem c_Model_isList {sp : Nat} {k1 : Nat} (hk : isModel sh sp) (hk1 : isSheet sh k1) {q : Bool × Va} (h : f_Model_isList z v sp k1 = some q) : MetI l yX14_isList cX14_isList 2 (some .boolean) 53 Γ sh v w n [.ref (Γ.2.1 + 149), .ref (Γ.2.1 + k1)] (fun x u => x = q_b q.1 ∧ u = q.2) := by
  unfold f_Model_isList at h
  refine w_start pn_X14 (Nat.le_of_ble_eq_true rfl) fun p e s m args below meth c hx hb hml hret hlk hnm hts hown hK hP hz hE hS ls hl => ?_
  have L0 : ∀ (fu : Nat) (t0 : Va), rp (b_Model_isList_0 z sp k1) fu t0 = some q → ∀ (H1 : Heap) (locs1 : List Loc) (ls1 : Array Slot), lv_has ls1 2 [(0, .ref (Γ.2.1 + 149)), (1, .ref (Γ.2.1 + k1))] → Wd Γ sh t0 w H1 → va_S (gA Γ) s.heap H1 locs1 → H1.size = Γ.2.1 + n → wpI Γ sh w n 53 (fun x u => x = q_b q.1 ∧ u = q.2) p l e s m args below meth c H1 locs1 (F0 m 0 ls1 []) := by
    refine q_loop (fun K0 ih0 t0 h H1 locs1 ls hl hP hS hz => ?_)
    unfold b_Model_isList_0 at h
    refine lv_aload_n hx hb dX14_isList_0 rfl (lv_at hl 1 rfl) ?_
    refine w_gr (k := k1) (r := (k1 + 1)) hx hb hts hown hK hP fX14_102 hk1.1 rfl dX14_isList_1 ?_
    refine lv_aload_n hx hb dX14_isList_4 rfl (lv_at hl 0 rfl) ?_
    refine w_gi (k := 149) hx hb hts hown hK hP fX14_108 hk.1 rfl dX14_isList_5 ?_
    obtain ⟨hn8, h⟩ := itn_e h
    refine w_iald (k := (k1 + 1)) hx hb hK hP hk1.2.1 hn8 dX14_isList_8 ?_
    refine lv_bipush (v := 70) hx hb dX14_isList_9 rfl ?_
    refine lv_icmp_eq (tgt := 34) hx hb dX14_isList_11 rfl (fun hc11 => ?_) (fun hc11 => ?_)
    · have h := itt_e h hc11
      refine lv_iconst (v := 1) hx hb dX14_isList_34 rfl ?_
      exact w_iret hx hb hret rfl hlk hK hP hS hz hE (q_p2b h) dX14_isList_35
    · have h := itf_e h hc11
      refine lv_aload_n hx hb dX14_isList_14 rfl (lv_at hl 0 rfl) ?_
      refine lv_aload_n hx hb dX14_isList_15 rfl (lv_at hl 1 rfl) ?_
      obtain ⟨q16, e16, h⟩ := obn_e h
      refine z_Vi (k := 149) (r1 := (q_b q16.1)) (v1 := q16.2) hx hb hml hts hown hK hP hS hz hE (c_Model_isLine hk hk1 e16) kX14_isLine mX14_114 hk.1 rfl rfl rfl hl.1 (Nat.le_of_ble_eq_true rfl) ⟨Nat.le_of_ble_eq_true rfl, Nat.le_of_ble_eq_true rfl⟩ ⟨Nat.le_refl _, Nat.le_refl _⟩ dX14_isList_16 fun H1 locs1 hz hP hS => ?_
      refine lv_if_eq (tgt := 32) hx hb dX14_isList_19 rfl (fun hc19 => ?_) (fun hc19 => ?_)
      · have h := itt_e h hc19
        refine lv_iconst (v := 0) hx hb dX14_isList_32 rfl ?_
        exact w_iret hx hb hret rfl hlk hK hP hS hz hE (q_p2b h) dX14_isList_33
      · have h := itf_e h hc19
        refine lv_aload_n hx hb dX14_isList_22 rfl (lv_at hl 0 rfl) ?_
        refine lv_aload_n hx hb dX14_isList_23 rfl (lv_at hl 1 rfl) ?_
        refine lv_bipush (v := 44) hx hb dX14_isList_24 rfl ?_
        obtain ⟨q26, e26, h⟩ := obn_e h
        refine z_Vi (k := 149) (r1 := (q_b q26.1)) (v1 := q26.2) hx hb hml hts hown hK hP hS hz hE (c_Model_eat hk hk1 e26) kX14_eat mX14_118 hk.1 rfl rfl rfl hl.1 (Nat.le_of_ble_eq_true rfl) ⟨Nat.le_of_ble_eq_true rfl, Nat.le_of_ble_eq_true rfl⟩ ⟨Nat.le_refl _, Nat.le_refl _⟩ dX14_isList_26 fun H1 locs1 hz hP hS => ?_
        refine lv_if_ne (tgt := 0) hx hb dX14_isList_29 rfl (fun hc29 => ?_) (fun hc29 => ?_)
        · have h := itf_e h hc29
          exact ih0 q26.2 h _ _ _ (lv_sub hl [0, 1] rfl) hP hS hz
        · have h := itt_e h hc29
          refine lv_iconst (v := 0) hx hb dX14_isList_32 rfl ?_
          exact w_iret hx hb hret rfl hlk hK hP hS hz hE (q_p2b h) dX14_isList_33
  exact L0 z v h _ _ _ (lv_sub hl [0, 1] rfl) hP hS hz
def b_Model_test_5 (GB : Nat → List Int32 → Va → Option (Bool × Va)) (sp : Nat) (K5 : (Bool × Va) → Option (Bool × Va)) (t5 : Bool × Va) : Option (Bool × Va) := (f_Model_goesBy t5.2 sp 29).bind fun q8 => if (q_b q8.1) = 0 then (some (t5.1, q8.2)) else ((GB 1 [] q8.2).bind fun q16 => K5 ((t5.1 || q16.1), q16.2))
def f_Model_test (z : Nat) (GB : Nat → List Int32 → Va → Option (Bool × Va)) (GI : Nat → List Int32 → Va → Option (Int32 × Va)) (v : Va) (sp : Nat) (sn : Nat) : Option (Bool × Va) := (GB 1 [] v).bind fun q1 => rp (b_Model_test_5 GB sp) z (q1.1, q1.2)
theorem c_Model_test {sp : Nat} {sn : Nat} {GB : Nat → List Int32 → Va → Option (Bool × Va)} {hh : Nat} {GI : Nat → List Int32 → Va → Option (Int32 × Va)} (hk : isModel sh sp) (hsn : isState sh sn) (hc : 3 ≤ hh) (ig1 : ∀ (v : Va) (q : Bool × Va), GB 1 [] v = some q → MetI l yX14_both cX14_both 2 (some .boolean) hh Γ sh v w n [.ref (Γ.2.1 + 149)] (fun x u => x = q_b q.1 ∧ u = q.2)) {q : Bool × Va} (h : f_Model_test z GB GI v sp sn = some q) : MetI l yX14_test cX14_test 2 (some .boolean) (hh + 1) Γ sh v w n [.ref (Γ.2.1 + 149)] (fun x u => x = q_b q.1 ∧ u = q.2) := by
  unfold f_Model_test at h
  refine w_start pn_X14 (Nat.le_of_ble_eq_true rfl) fun p e s m args below meth c hx hb hml hret hlk hnm hts hown hK hP hz hE hS ls hl => ?_
  refine lv_aload_n hx hb dX14_test_0 rfl (lv_at hl 0 rfl) ?_
  obtain ⟨q1, e1, h⟩ := obn_e h
  refine z_Vi (k := 149) (r1 := (q_b q1.1)) (v1 := q1.2) hx hb hml hts hown hK hP hS hz hE (ig1 _ _ e1) kX14_both mX14_270 hk.1 rfl rfl rfl hl.1 (Nat.le_of_ble_eq_true rfl) (q_room (Nat.le_refl _) (Nat.le_refl _) (Nat.le_of_ble_eq_true rfl)) ⟨Nat.le_refl _, Nat.le_refl _⟩ dX14_test_1 fun H1 locs1 hz hP hS => ?_
  refine lv_istore_n (lv' := [(1, .int (q_b q1.1)), (0, .ref (Γ.2.1 + 149))]) hx hb dX14_test_4 rfl hl (by decide) rfl fun ls hl => ?_
  have L5 : ∀ (fu : Nat) (t5 : Bool × Va), rp (b_Model_test_5 GB sp) fu t5 = some q → ∀ (H1 : Heap) (locs1 : List Loc) (ls1 : Array Slot), lv_has ls1 2 [(0, .ref (Γ.2.1 + 149)), (1, .int (q_b t5.1))] → Wd Γ sh t5.2 w H1 → va_S (gA Γ) s.heap H1 locs1 → H1.size = Γ.2.1 + n → wpI Γ sh w n (hh + 1) (fun x u => x = q_b q.1 ∧ u = q.2) p l e s m args below meth c H1 locs1 (F0 m 5 ls1 []) := by
    refine q_loop (fun K5 ih5 t5 h H1 locs1 ls hl hP hS hz => ?_)
    unfold b_Model_test_5 at h
    refine lv_aload_n hx hb dX14_test_5 rfl (lv_at hl 0 rfl) ?_
    refine lv_bipush (v := 29) hx hb dX14_test_6 rfl ?_
    obtain ⟨q8, e8, h⟩ := obn_e h
    refine z_Vi (k := 149) (r1 := (q_b q8.1)) (v1 := q8.2) hx hb hml hts hown hK hP hS hz hE (c_Model_goesBy hk e8) kX14_goesBy mX14_274 hk.1 rfl rfl rfl hl.1 (Nat.le_of_ble_eq_true rfl) (q_room hc (Nat.le_of_ble_eq_true rfl) (Nat.le_of_ble_eq_true rfl)) ⟨Nat.le_refl _, Nat.le_refl _⟩ dX14_test_8 fun H1 locs1 hz hP hS => ?_
    refine lv_if_eq (tgt := 24) hx hb dX14_test_11 rfl (fun hc11 => ?_) (fun hc11 => ?_)
    · have h := itt_e h hc11
      refine lv_iload_n hx hb dX14_test_24 rfl (lv_at hl 1 rfl) ?_
      exact w_iret hx hb hret (q_bn _) hlk hK hP hS hz hE (q_p2b h) dX14_test_25
    · have h := itf_e h hc11
      refine lv_iload_n hx hb dX14_test_14 rfl (lv_at hl 1 rfl) ?_
      refine lv_aload_n hx hb dX14_test_15 rfl (lv_at hl 0 rfl) ?_
      obtain ⟨q16, e16, h⟩ := obn_e h
      refine z_Vi (k := 149) (r1 := (q_b q16.1)) (v1 := q16.2) hx hb hml hts hown hK hP hS hz hE (ig1 _ _ e16) kX14_both mX14_270 hk.1 rfl rfl rfl hl.1 (Nat.le_of_ble_eq_true rfl) (q_room (Nat.le_refl _) (Nat.le_refl _) (Nat.le_of_ble_eq_true rfl)) ⟨Nat.le_refl _, Nat.le_refl _⟩ dX14_test_16 fun H1 locs1 hz hP hS => ?_
      refine z_bor hx hb dX14_test_19 ?_
      refine lv_istore_n (lv' := [(1, .int (q_b (t5.1 || q16.1))), (0, .ref (Γ.2.1 + 149))]) hx hb dX14_test_20 rfl hl (by decide) rfl fun ls hl => ?_
      refine lv_goto (tgt := 5) hx hb dX14_test_21 rfl ?_
      exact ih5 ((t5.1 || q16.1), q16.2) h _ _ _ (lv_sub hl [1, 0] rfl) hP hS hz
  exact L5 z (q1.1, q1.2) h _ _ _ (lv_sub hl [1, 0] rfl) hP hS hz
def b_Model_both_5 (GB : Nat → List Int32 → Va → Option (Bool × Va)) (sp : Nat) (K5 : (Bool × Va) → Option (Bool × Va)) (t5 : Bool × Va) : Option (Bool × Va) := (f_Model_goesBy t5.2 sp 28).bind fun q8 => if (q_b q8.1) = 0 then (some (t5.1, q8.2)) else ((GB 2 [] q8.2).bind fun q16 => K5 ((t5.1 && q16.1), q16.2))
def f_Model_both (z : Nat) (GB : Nat → List Int32 → Va → Option (Bool × Va)) (GI : Nat → List Int32 → Va → Option (Int32 × Va)) (v : Va) (sp : Nat) (sn : Nat) : Option (Bool × Va) := (GB 2 [] v).bind fun q1 => rp (b_Model_both_5 GB sp) z (q1.1, q1.2)
theorem c_Model_both {sp : Nat} {sn : Nat} {GB : Nat → List Int32 → Va → Option (Bool × Va)} {hh : Nat} {GI : Nat → List Int32 → Va → Option (Int32 × Va)} (hk : isModel sh sp) (hsn : isState sh sn) (hc : 3 ≤ hh) (ig2 : ∀ (v : Va) (q : Bool × Va), GB 2 [] v = some q → MetI l yX14_single cX14_single 4 (some .boolean) hh Γ sh v w n [.ref (Γ.2.1 + 149)] (fun x u => x = q_b q.1 ∧ u = q.2)) {q : Bool × Va} (h : f_Model_both z GB GI v sp sn = some q) : MetI l yX14_both cX14_both 2 (some .boolean) (hh + 1) Γ sh v w n [.ref (Γ.2.1 + 149)] (fun x u => x = q_b q.1 ∧ u = q.2) := by
  unfold f_Model_both at h
  refine w_start pn_X14 (Nat.le_of_ble_eq_true rfl) fun p e s m args below meth c hx hb hml hret hlk hnm hts hown hK hP hz hE hS ls hl => ?_
  refine lv_aload_n hx hb dX14_both_0 rfl (lv_at hl 0 rfl) ?_
  obtain ⟨q1, e1, h⟩ := obn_e h
  refine z_Vi (k := 149) (r1 := (q_b q1.1)) (v1 := q1.2) hx hb hml hts hown hK hP hS hz hE (ig2 _ _ e1) kX14_single mX14_277 hk.1 rfl rfl rfl hl.1 (Nat.le_of_ble_eq_true rfl) (q_room (Nat.le_refl _) (Nat.le_refl _) (Nat.le_of_ble_eq_true rfl)) ⟨Nat.le_refl _, Nat.le_refl _⟩ dX14_both_1 fun H1 locs1 hz hP hS => ?_
  refine lv_istore_n (lv' := [(1, .int (q_b q1.1)), (0, .ref (Γ.2.1 + 149))]) hx hb dX14_both_4 rfl hl (by decide) rfl fun ls hl => ?_
  have L5 : ∀ (fu : Nat) (t5 : Bool × Va), rp (b_Model_both_5 GB sp) fu t5 = some q → ∀ (H1 : Heap) (locs1 : List Loc) (ls1 : Array Slot), lv_has ls1 2 [(0, .ref (Γ.2.1 + 149)), (1, .int (q_b t5.1))] → Wd Γ sh t5.2 w H1 → va_S (gA Γ) s.heap H1 locs1 → H1.size = Γ.2.1 + n → wpI Γ sh w n (hh + 1) (fun x u => x = q_b q.1 ∧ u = q.2) p l e s m args below meth c H1 locs1 (F0 m 5 ls1 []) := by
    refine q_loop (fun K5 ih5 t5 h H1 locs1 ls hl hP hS hz => ?_)
    unfold b_Model_both_5 at h
    refine lv_aload_n hx hb dX14_both_5 rfl (lv_at hl 0 rfl) ?_
    refine lv_bipush (v := 28) hx hb dX14_both_6 rfl ?_
    obtain ⟨q8, e8, h⟩ := obn_e h
    refine z_Vi (k := 149) (r1 := (q_b q8.1)) (v1 := q8.2) hx hb hml hts hown hK hP hS hz hE (c_Model_goesBy hk e8) kX14_goesBy mX14_274 hk.1 rfl rfl rfl hl.1 (Nat.le_of_ble_eq_true rfl) (q_room hc (Nat.le_of_ble_eq_true rfl) (Nat.le_of_ble_eq_true rfl)) ⟨Nat.le_refl _, Nat.le_refl _⟩ dX14_both_8 fun H1 locs1 hz hP hS => ?_
    refine lv_if_eq (tgt := 24) hx hb dX14_both_11 rfl (fun hc11 => ?_) (fun hc11 => ?_)
    · have h := itt_e h hc11
      refine lv_iload_n hx hb dX14_both_24 rfl (lv_at hl 1 rfl) ?_
      exact w_iret hx hb hret (q_bn _) hlk hK hP hS hz hE (q_p2b h) dX14_both_25
    · have h := itf_e h hc11
      refine lv_iload_n hx hb dX14_both_14 rfl (lv_at hl 1 rfl) ?_
      refine lv_aload_n hx hb dX14_both_15 rfl (lv_at hl 0 rfl) ?_
      obtain ⟨q16, e16, h⟩ := obn_e h
      refine z_Vi (k := 149) (r1 := (q_b q16.1)) (v1 := q16.2) hx hb hml hts hown hK hP hS hz hE (ig2 _ _ e16) kX14_single mX14_277 hk.1 rfl rfl rfl hl.1 (Nat.le_of_ble_eq_true rfl) (q_room (Nat.le_refl _) (Nat.le_refl _) (Nat.le_of_ble_eq_true rfl)) ⟨Nat.le_refl _, Nat.le_refl _⟩ dX14_both_16 fun H1 locs1 hz hP hS => ?_
      refine z_band hx hb dX14_both_19 ?_
      refine lv_istore_n (lv' := [(1, .int (q_b (t5.1 && q16.1))), (0, .ref (Γ.2.1 + 149))]) hx hb dX14_both_20 rfl hl (by decide) rfl fun ls hl => ?_
      refine lv_goto (tgt := 5) hx hb dX14_both_21 rfl ?_
      exact ih5 ((t5.1 && q16.1), q16.2) h _ _ _ (lv_sub hl [1, 0] rfl) hP hS hz
  exact L5 z (q1.1, q1.2) h _ _ _ (lv_sub hl [1, 0] rfl) hP hS hz
def f_Model_single (z : Nat) (GB : Nat → List Int32 → Va → Option (Bool × Va)) (GI : Nat → List Int32 → Va → Option (Int32 × Va)) (v : Va) (sp : Nat) (sn : Nat) : Option (Bool × Va) := (f_Model_goesBy v sp 27).bind fun q3 => if (q_b q3.1) = 0 then ((f_Model_goesBy q3.2 sp 42).bind fun q25 => if (q_b q25.1) = 0 then ((f_Model_goesBy q25.2 sp 26).bind fun q51 => if (q_b q51.1) = 0 then ((GI 3 [] q51.2).bind fun q113 => if (q113.2 149 10) < 0 ∨ 401 ≤ (q113.2 149 10).toNatClampNeg then none else bnd (pu q113.2 149 10 ((q113.2 149 10) + 1)) fun v137 => (GI 3 [] v137).bind fun q141 => if q113.1 = q141.1 then (if (q113.2 (sp + 1) (q113.2 149 10).toNatClampNeg) = 52 then (some (true, q141.2)) else (if (q113.2 (sp + 1) (q113.2 149 10).toNatClampNeg) < 53 then (some (false, q141.2)) else (some (true, q141.2)))) else (if q141.1 ≤ q113.1 then (if (q113.2 (sp + 1) (q113.2 149 10).toNatClampNeg) = 51 then (some (true, q141.2)) else (if (q113.2 (sp + 1) (q113.2 149 10).toNatClampNeg) = 54 then (some (true, q141.2)) else (some (false, q141.2)))) else (if (q113.2 (sp + 1) (q113.2 149 10).toNatClampNeg) = 50 then (some (true, q141.2)) else (if (q113.2 (sp + 1) (q113.2 149 10).toNatClampNeg) = 53 then (some (true, q141.2)) else (some (false, q141.2)))))) else (bnd (pu q51.2 149 10 ((q51.2 149 10) + 2)) fun v64 => if ¬ (v64 149 11).toNatClampNeg = sn then none else if ((v64 149 10) - 1) < 0 ∨ 401 ≤ ((v64 149 10) - 1).toNatClampNeg then none else if (v64 (sp + 4) ((v64 149 10) - 1).toNatClampNeg) < 0 ∨ 10 ≤ (v64 (sp + 4) ((v64 149 10) - 1).toNatClampNeg).toNatClampNeg then none else if ((v64 149 10) - 2) < 0 ∨ 401 ≤ ((v64 149 10) - 2).toNatClampNeg then none else if (v64 (sn + 2) (v64 (sp + 4) ((v64 149 10) - 1).toNatClampNeg).toNatClampNeg) = (v64 (sp + 4) ((v64 149 10) - 2).toNatClampNeg) then (some (true, v64)) else (some (false, v64)))) else ((GB 0 [] q25.2).bind fun q32 => bnd (pu q32.2 149 10 ((q32.2 149 10) + 1)) fun v43 => some (q32.1, v43))) else ((GB 2 [] q3.2).bind fun q10 => if (q_b q10.1) = 0 then (some (true, q10.2)) else (some (false, q10.2)))
theorem c_Model_single {sp : Nat} {sn : Nat} {GB : Nat → List Int32 → Va → Option (Bool × Va)} {hh : Nat} {GI : Nat → List Int32 → Va → Option (Int32 × Va)} (hk : isModel sh sp) (hsn : isState sh sn) (hc : 3 ≤ hh) (ig0 : ∀ (v : Va) (q : Bool × Va), GB 0 [] v = some q → MetI l yX14_test cX14_test 2 (some .boolean) hh Γ sh v w n [.ref (Γ.2.1 + 149)] (fun x u => x = q_b q.1 ∧ u = q.2)) (ig2 : ∀ (v : Va) (q : Bool × Va), GB 2 [] v = some q → MetI l yX14_single cX14_single 4 (some .boolean) hh Γ sh v w n [.ref (Γ.2.1 + 149)] (fun x u => x = q_b q.1 ∧ u = q.2)) (ig3 : ∀ (v : Va) (q : Int32 × Va), GI 3 [] v = some q → MetI l yX14_sum cX14_sum 4 (some .int) hh Γ sh v w n [.ref (Γ.2.1 + 149)] (fun x u => x = q.1 ∧ u = q.2)) {q : Bool × Va} (h : f_Model_single z GB GI v sp sn = some q) : MetI l yX14_single cX14_single 4 (some .boolean) (hh + 1) Γ sh v w n [.ref (Γ.2.1 + 149)] (fun x u => x = q_b q.1 ∧ u = q.2) := by
  unfold f_Model_single at h
  refine w_start pn_X14 (Nat.le_of_ble_eq_true rfl) fun p e s m args below meth c hx hb hml hret hlk hnm hts hown hK hP hz hE hS ls hl => ?_
  refine lv_aload_n hx hb dX14_single_0 rfl (lv_at hl 0 rfl) ?_
  refine lv_bipush (v := 27) hx hb dX14_single_1 rfl ?_
  obtain ⟨q3, e3, h⟩ := obn_e h
  refine z_Vi (k := 149) (r1 := (q_b q3.1)) (v1 := q3.2) hx hb hml hts hown hK hP hS hz hE (c_Model_goesBy hk e3) kX14_goesBy mX14_274 hk.1 rfl rfl rfl hl.1 (Nat.le_of_ble_eq_true rfl) (q_room hc (Nat.le_of_ble_eq_true rfl) (Nat.le_of_ble_eq_true rfl)) ⟨Nat.le_refl _, Nat.le_refl _⟩ dX14_single_3 fun H1 locs1 hz hP hS => ?_
  refine lv_if_eq (tgt := 22) hx hb dX14_single_6 rfl (fun hc6 => ?_) (fun hc6 => ?_)
  · have h := itt_e h hc6
    refine lv_aload_n hx hb dX14_single_22 rfl (lv_at hl 0 rfl) ?_
    refine lv_bipush (v := 42) hx hb dX14_single_23 rfl ?_
    obtain ⟨q25, e25, h⟩ := obn_e h
    refine z_Vi (k := 149) (r1 := (q_b q25.1)) (v1 := q25.2) hx hb hml hts hown hK hP hS hz hE (c_Model_goesBy hk e25) kX14_goesBy mX14_274 hk.1 rfl rfl rfl hl.1 (Nat.le_of_ble_eq_true rfl) (q_room hc (Nat.le_of_ble_eq_true rfl) (Nat.le_of_ble_eq_true rfl)) ⟨Nat.le_refl _, Nat.le_refl _⟩ dX14_single_25 fun H1 locs1 hz hP hS => ?_
    refine lv_if_eq (tgt := 48) hx hb dX14_single_28 rfl (fun hc28 => ?_) (fun hc28 => ?_)
    · have h := itt_e h hc28
      refine lv_aload_n hx hb dX14_single_48 rfl (lv_at hl 0 rfl) ?_
      refine lv_bipush (v := 26) hx hb dX14_single_49 rfl ?_
      obtain ⟨q51, e51, h⟩ := obn_e h
      refine z_Vi (k := 149) (r1 := (q_b q51.1)) (v1 := q51.2) hx hb hml hts hown hK hP hS hz hE (c_Model_goesBy hk e51) kX14_goesBy mX14_274 hk.1 rfl rfl rfl hl.1 (Nat.le_of_ble_eq_true rfl) (q_room hc (Nat.le_of_ble_eq_true rfl) (Nat.le_of_ble_eq_true rfl)) ⟨Nat.le_refl _, Nat.le_refl _⟩ dX14_single_51 fun H1 locs1 hz hP hS => ?_
      refine lv_if_eq (tgt := 112) hx hb dX14_single_54 rfl (fun hc54 => ?_) (fun hc54 => ?_)
      · have h := itt_e h hc54
        refine lv_aload_n hx hb dX14_single_112 rfl (lv_at hl 0 rfl) ?_
        obtain ⟨q113, e113, h⟩ := obn_e h
        refine z_Vi (k := 149) (r1 := q113.1) (v1 := q113.2) hx hb hml hts hown hK hP hS hz hE (ig3 _ _ e113) kX14_sum mX14_284 hk.1 rfl rfl rfl hl.1 (Nat.le_of_ble_eq_true rfl) (q_room (Nat.le_refl _) (Nat.le_refl _) (Nat.le_of_ble_eq_true rfl)) ⟨Nat.le_refl _, Nat.le_refl _⟩ dX14_single_113 fun H1 locs1 hz hP hS => ?_
        refine lv_istore_n (lv' := [(1, .int q113.1), (0, .ref (Γ.2.1 + 149))]) hx hb dX14_single_116 rfl hl (by decide) rfl fun ls hl => ?_
        refine lv_aload_n hx hb dX14_single_117 rfl (lv_at hl 1 rfl) ?_
        refine w_gr (k := 149) (r := sp) hx hb hts hown hK hP fX14_20 hk.1 rfl dX14_single_118 ?_
        refine w_gr (k := sp) (r := (sp + 1)) hx hb hts hown hK hP fX14_102 hk.2.2.1.1 rfl dX14_single_121 ?_
        refine lv_aload_n hx hb dX14_single_124 rfl (lv_at hl 1 rfl) ?_
        refine w_gi (k := 149) hx hb hts hown hK hP fX14_267 hk.1 rfl dX14_single_125 ?_
        obtain ⟨hn128, h⟩ := itn_e h
        refine w_iald (k := (sp + 1)) hx hb hK hP hk.2.2.1.2.1 hn128 dX14_single_128 ?_
        refine lv_istore_n (lv' := [(2, .int (q113.2 (sp + 1) (q113.2 149 10).toNatClampNeg)), (1, .int q113.1), (0, .ref (Γ.2.1 + 149))]) hx hb dX14_single_129 rfl hl (by decide) rfl fun ls hl => ?_
        refine lv_aload_n hx hb dX14_single_130 rfl (lv_at hl 2 rfl) ?_
        refine lv_dup hx hb dX14_single_131 rfl ?_
        refine w_gi (k := 149) hx hb hts hown hK hP fX14_267 hk.1 rfl dX14_single_132 ?_
        refine lv_iconst (v := 1) hx hb dX14_single_135 rfl ?_
        refine lv_iadd hx hb dX14_single_136 ?_
        obtain ⟨v137, e137, h⟩ := bnd_e h
        refine w_pi2 (k := 149) hx hb hts hown hK hP hS hz fX14_267 hk.1 rfl e137 dX14_single_137 fun H1 locs1 hz hP hS => ?_
        refine lv_aload_n hx hb dX14_single_140 rfl (lv_at hl 2 rfl) ?_
        obtain ⟨q141, e141, h⟩ := obn_e h
        refine z_Vi (k := 149) (r1 := q141.1) (v1 := q141.2) hx hb hml hts hown hK hP hS hz hE (ig3 _ _ e141) kX14_sum mX14_284 hk.1 rfl rfl rfl hl.1 (Nat.le_of_ble_eq_true rfl) (q_room (Nat.le_refl _) (Nat.le_refl _) (Nat.le_of_ble_eq_true rfl)) ⟨Nat.le_refl _, Nat.le_refl _⟩ dX14_single_141 fun H1 locs1 hz hP hS => ?_
        refine lv_istore_n (lv' := [(3, .int q141.1), (2, .int (q113.2 (sp + 1) (q113.2 149 10).toNatClampNeg)), (1, .int q113.1), (0, .ref (Γ.2.1 + 149))]) hx hb dX14_single_144 rfl hl (by decide) rfl fun ls hl => ?_
        refine lv_iload_n hx hb dX14_single_145 rfl (lv_at hl 2 rfl) ?_
        refine lv_iload_n hx hb dX14_single_146 rfl (lv_at hl 0 rfl) ?_
        refine lv_icmp_ne (tgt := 168) hx hb dX14_single_147 rfl (fun hc147 => ?_) (fun hc147 => ?_)
        · have h := itf_e h hc147
          refine lv_iload_n hx hb dX14_single_168 rfl (lv_at hl 2 rfl) ?_
          refine lv_iload_n hx hb dX14_single_169 rfl (lv_at hl 0 rfl) ?_
          refine lv_icmp_ge (tgt := 193) hx hb dX14_single_170 rfl (fun hc170 => ?_) (fun hc170 => ?_)
          · have h := itt_e h hc170
            refine lv_iload_n hx hb dX14_single_193 rfl (lv_at hl 1 rfl) ?_
            refine lv_bipush (v := 51) hx hb dX14_single_194 rfl ?_
            refine lv_icmp_eq (tgt := 205) hx hb dX14_single_196 rfl (fun hc196 => ?_) (fun hc196 => ?_)
            · have h := itt_e h hc196
              refine lv_iconst (v := 1) hx hb dX14_single_205 rfl ?_
              refine lv_goto (tgt := 210) hx hb dX14_single_206 rfl ?_
              exact w_iret hx hb hret rfl hlk hK hP hS hz hE (q_p2b h) dX14_single_210
            · have h := itf_e h hc196
              refine lv_iload_n hx hb dX14_single_199 rfl (lv_at hl 1 rfl) ?_
              refine lv_bipush (v := 54) hx hb dX14_single_200 rfl ?_
              refine lv_icmp_ne (tgt := 209) hx hb dX14_single_202 rfl (fun hc202 => ?_) (fun hc202 => ?_)
              · have h := itf_e h hc202
                refine lv_iconst (v := 0) hx hb dX14_single_209 rfl ?_
                exact w_iret hx hb hret rfl hlk hK hP hS hz hE (q_p2b h) dX14_single_210
              · have h := itt_e h hc202
                refine lv_iconst (v := 1) hx hb dX14_single_205 rfl ?_
                refine lv_goto (tgt := 210) hx hb dX14_single_206 rfl ?_
                exact w_iret hx hb hret rfl hlk hK hP hS hz hE (q_p2b h) dX14_single_210
          · have h := itf_e h hc170
            refine lv_iload_n hx hb dX14_single_173 rfl (lv_at hl 1 rfl) ?_
            refine lv_bipush (v := 50) hx hb dX14_single_174 rfl ?_
            refine lv_icmp_eq (tgt := 185) hx hb dX14_single_176 rfl (fun hc176 => ?_) (fun hc176 => ?_)
            · have h := itt_e h hc176
              refine lv_iconst (v := 1) hx hb dX14_single_185 rfl ?_
              refine lv_goto (tgt := 210) hx hb dX14_single_186 rfl ?_
              exact w_iret hx hb hret rfl hlk hK hP hS hz hE (q_p2b h) dX14_single_210
            · have h := itf_e h hc176
              refine lv_iload_n hx hb dX14_single_179 rfl (lv_at hl 1 rfl) ?_
              refine lv_bipush (v := 53) hx hb dX14_single_180 rfl ?_
              refine lv_icmp_ne (tgt := 189) hx hb dX14_single_182 rfl (fun hc182 => ?_) (fun hc182 => ?_)
              · have h := itf_e h hc182
                refine lv_iconst (v := 0) hx hb dX14_single_189 rfl ?_
                refine lv_goto (tgt := 210) hx hb dX14_single_190 rfl ?_
                exact w_iret hx hb hret rfl hlk hK hP hS hz hE (q_p2b h) dX14_single_210
              · have h := itt_e h hc182
                refine lv_iconst (v := 1) hx hb dX14_single_185 rfl ?_
                refine lv_goto (tgt := 210) hx hb dX14_single_186 rfl ?_
                exact w_iret hx hb hret rfl hlk hK hP hS hz hE (q_p2b h) dX14_single_210
        · have h := itt_e h hc147
          refine lv_iload_n hx hb dX14_single_150 rfl (lv_at hl 1 rfl) ?_
          refine lv_bipush (v := 52) hx hb dX14_single_151 rfl ?_
          refine lv_icmp_eq (tgt := 162) hx hb dX14_single_153 rfl (fun hc153 => ?_) (fun hc153 => ?_)
          · have h := itt_e h hc153
            refine lv_iconst (v := 1) hx hb dX14_single_162 rfl ?_
            refine lv_goto (tgt := 167) hx hb dX14_single_163 rfl ?_
            exact w_iret hx hb hret rfl hlk hK hP hS hz hE (q_p2b h) dX14_single_167
          · have h := itf_e h hc153
            refine lv_iload_n hx hb dX14_single_156 rfl (lv_at hl 1 rfl) ?_
            refine lv_bipush (v := 53) hx hb dX14_single_157 rfl ?_
            refine lv_icmp_lt (tgt := 166) hx hb dX14_single_159 rfl (fun hc159 => ?_) (fun hc159 => ?_)
            · have h := itt_e h hc159
              refine lv_iconst (v := 0) hx hb dX14_single_166 rfl ?_
              exact w_iret hx hb hret rfl hlk hK hP hS hz hE (q_p2b h) dX14_single_167
            · have h := itf_e h hc159
              refine lv_iconst (v := 1) hx hb dX14_single_162 rfl ?_
              refine lv_goto (tgt := 167) hx hb dX14_single_163 rfl ?_
              exact w_iret hx hb hret rfl hlk hK hP hS hz hE (q_p2b h) dX14_single_167
      · have h := itf_e h hc54
        refine lv_aload_n hx hb dX14_single_57 rfl (lv_at hl 0 rfl) ?_
        refine lv_dup hx hb dX14_single_58 rfl ?_
        refine w_gi (k := 149) hx hb hts hown hK hP fX14_267 hk.1 rfl dX14_single_59 ?_
        refine lv_iconst (v := 2) hx hb dX14_single_62 rfl ?_
        refine lv_iadd hx hb dX14_single_63 ?_
        obtain ⟨v64, e64, h⟩ := bnd_e h
        refine w_pi2 (k := 149) hx hb hts hown hK hP hS hz fX14_267 hk.1 rfl e64 dX14_single_64 fun H1 locs1 hz hP hS => ?_
        refine lv_aload_n hx hb dX14_single_67 rfl (lv_at hl 0 rfl) ?_
        obtain ⟨hn68, h⟩ := itn_e h
        refine w_gd2 (k := 149) (r := sn) hx hb hts hown hK hP fX14_37 hk.1 rfl (Decidable.not_not.mp hn68) dX14_single_68 ?_
        refine w_gr (k := sn) (r := (sn + 2)) hx hb hts hown hK hP fX14_283 hsn.1 rfl dX14_single_71 ?_
        refine lv_aload_n hx hb dX14_single_74 rfl (lv_at hl 0 rfl) ?_
        refine w_gr (k := 149) (r := sp) hx hb hts hown hK hP fX14_20 hk.1 rfl dX14_single_75 ?_
        refine w_gr (k := sp) (r := (sp + 4)) hx hb hts hown hK hP fX14_196 hk.2.2.1.1 rfl dX14_single_78 ?_
        refine lv_aload_n hx hb dX14_single_81 rfl (lv_at hl 0 rfl) ?_
        refine w_gi (k := 149) hx hb hts hown hK hP fX14_267 hk.1 rfl dX14_single_82 ?_
        refine lv_iconst (v := 1) hx hb dX14_single_85 rfl ?_
        refine lv_isub hx hb dX14_single_86 ?_
        obtain ⟨hn87, h⟩ := itn_e h
        refine w_iald (k := (sp + 4)) hx hb hK hP hk.2.2.1.2.2.2.2.1 hn87 dX14_single_87 ?_
        obtain ⟨hn88, h⟩ := itn_e h
        refine w_iald (k := (sn + 2)) hx hb hK hP hsn.2.2.1 hn88 dX14_single_88 ?_
        refine lv_aload_n hx hb dX14_single_89 rfl (lv_at hl 0 rfl) ?_
        refine w_gr (k := 149) (r := sp) hx hb hts hown hK hP fX14_20 hk.1 rfl dX14_single_90 ?_
        refine w_gr (k := sp) (r := (sp + 4)) hx hb hts hown hK hP fX14_196 hk.2.2.1.1 rfl dX14_single_93 ?_
        refine lv_aload_n hx hb dX14_single_96 rfl (lv_at hl 0 rfl) ?_
        refine w_gi (k := 149) hx hb hts hown hK hP fX14_267 hk.1 rfl dX14_single_97 ?_
        refine lv_iconst (v := 2) hx hb dX14_single_100 rfl ?_
        refine lv_isub hx hb dX14_single_101 ?_
        obtain ⟨hn102, h⟩ := itn_e h
        refine w_iald (k := (sp + 4)) hx hb hK hP hk.2.2.1.2.2.2.2.1 hn102 dX14_single_102 ?_
        refine lv_icmp_ne (tgt := 110) hx hb dX14_single_103 rfl (fun hc103 => ?_) (fun hc103 => ?_)
        · have h := itf_e h hc103
          refine lv_iconst (v := 0) hx hb dX14_single_110 rfl ?_
          exact w_iret hx hb hret rfl hlk hK hP hS hz hE (q_p2b h) dX14_single_111
        · have h := itt_e h hc103
          refine lv_iconst (v := 1) hx hb dX14_single_106 rfl ?_
          refine lv_goto (tgt := 111) hx hb dX14_single_107 rfl ?_
          exact w_iret hx hb hret rfl hlk hK hP hS hz hE (q_p2b h) dX14_single_111
    · have h := itf_e h hc28
      refine lv_aload_n hx hb dX14_single_31 rfl (lv_at hl 0 rfl) ?_
      obtain ⟨q32, e32, h⟩ := obn_e h
      refine z_Vi (k := 149) (r1 := (q_b q32.1)) (v1 := q32.2) hx hb hml hts hown hK hP hS hz hE (ig0 _ _ e32) kX14_test mX14_280 hk.1 rfl rfl rfl hl.1 (Nat.le_of_ble_eq_true rfl) (q_room (Nat.le_refl _) (Nat.le_refl _) (Nat.le_of_ble_eq_true rfl)) ⟨Nat.le_refl _, Nat.le_refl _⟩ dX14_single_32 fun H1 locs1 hz hP hS => ?_
      refine lv_istore_n (lv' := [(1, .int (q_b q32.1)), (0, .ref (Γ.2.1 + 149))]) hx hb dX14_single_35 rfl hl (by decide) rfl fun ls hl => ?_
      refine lv_aload_n hx hb dX14_single_36 rfl (lv_at hl 1 rfl) ?_
      refine lv_dup hx hb dX14_single_37 rfl ?_
      refine w_gi (k := 149) hx hb hts hown hK hP fX14_267 hk.1 rfl dX14_single_38 ?_
      refine lv_iconst (v := 1) hx hb dX14_single_41 rfl ?_
      refine lv_iadd hx hb dX14_single_42 ?_
      obtain ⟨v43, e43, h⟩ := bnd_e h
      refine w_pi2 (k := 149) hx hb hts hown hK hP hS hz fX14_267 hk.1 rfl e43 dX14_single_43 fun H1 locs1 hz hP hS => ?_
      refine lv_iload_n hx hb dX14_single_46 rfl (lv_at hl 0 rfl) ?_
      exact w_iret hx hb hret (q_bn _) hlk hK hP hS hz hE (q_p2b h) dX14_single_47
  · have h := itf_e h hc6
    refine lv_aload_n hx hb dX14_single_9 rfl (lv_at hl 0 rfl) ?_
    obtain ⟨q10, e10, h⟩ := obn_e h
    refine z_Vi (k := 149) (r1 := (q_b q10.1)) (v1 := q10.2) hx hb hml hts hown hK hP hS hz hE (ig2 _ _ e10) kX14_single mX14_277 hk.1 rfl rfl rfl hl.1 (Nat.le_of_ble_eq_true rfl) (q_room (Nat.le_refl _) (Nat.le_refl _) (Nat.le_of_ble_eq_true rfl)) ⟨Nat.le_refl _, Nat.le_refl _⟩ dX14_single_10 fun H1 locs1 hz hP hS => ?_
    refine lv_if_ne (tgt := 20) hx hb dX14_single_13 rfl (fun hc13 => ?_) (fun hc13 => ?_)
    · have h := itf_e h hc13
      refine lv_iconst (v := 0) hx hb dX14_single_20 rfl ?_
      exact w_iret hx hb hret rfl hlk hK hP hS hz hE (q_p2b h) dX14_single_21
    · have h := itt_e h hc13
      refine lv_iconst (v := 1) hx hb dX14_single_16 rfl ?_
      refine lv_goto (tgt := 21) hx hb dX14_single_17 rfl ?_
      exact w_iret hx hb hret rfl hlk hK hP hS hz hE (q_p2b h) dX14_single_21
def j_Model_sum_70 (K5 : (Int32 × Va) → Option (Int32 × Va)) (q51 : Int32 × Va) (s70_0 : Int32) : Option (Int32 × Va) := K5 (s70_0, q51.2)
def b_Model_sum_5 (GI : Nat → List Int32 → Va → Option (Int32 × Va)) (sp : Nat) (K5 : (Int32 × Va) → Option (Int32 × Va)) (t5 : Int32 × Va) : Option (Int32 × Va) := if (t5.2 149 10) < 0 ∨ 401 ≤ (t5.2 149 10).toNatClampNeg then none else (f_Model_isIn (t5.2 (sp + 1) (t5.2 149 10).toNatClampNeg) 46 47).bind fun q21 => if (q_b q21) = 0 then (some (t5.1, t5.2)) else (if (t5.2 149 10) < 0 ∨ 401 ≤ (t5.2 149 10).toNatClampNeg then none else bnd (pu t5.2 149 10 ((t5.2 149 10) + 1)) fun v47 => (GI 4 [] v47).bind fun q51 => if (t5.2 (sp + 1) (t5.2 149 10).toNatClampNeg) = 46 then (j_Model_sum_70 K5 q51 (t5.1 + q51.1)) else (j_Model_sum_70 K5 q51 (t5.1 - q51.1)))
def f_Model_sum (z : Nat) (GB : Nat → List Int32 → Va → Option (Bool × Va)) (GI : Nat → List Int32 → Va → Option (Int32 × Va)) (v : Va) (sp : Nat) (sn : Nat) : Option (Int32 × Va) := (GI 4 [] v).bind fun q1 => rp (b_Model_sum_5 GI sp) z (q1.1, q1.2)
theorem c_Model_sum {sp : Nat} {sn : Nat} {GB : Nat → List Int32 → Va → Option (Bool × Va)} {hh : Nat} {GI : Nat → List Int32 → Va → Option (Int32 × Va)} (hk : isModel sh sp) (hsn : isState sh sn) (hc : 3 ≤ hh) (ig4 : ∀ (v : Va) (q : Int32 × Va), GI 4 [] v = some q → MetI l yX14_product cX14_product 4 (some .int) hh Γ sh v w n [.ref (Γ.2.1 + 149)] (fun x u => x = q.1 ∧ u = q.2)) {q : Int32 × Va} (h : f_Model_sum z GB GI v sp sn = some q) : MetI l yX14_sum cX14_sum 4 (some .int) (hh + 1) Γ sh v w n [.ref (Γ.2.1 + 149)] (fun x u => x = q.1 ∧ u = q.2) := by
  unfold f_Model_sum at h
  refine w_start pn_X14 (Nat.le_of_ble_eq_true rfl) fun p e s m args below meth c hx hb hml hret hlk hnm hts hown hK hP hz hE hS ls hl => ?_
  refine lv_aload_n hx hb dX14_sum_0 rfl (lv_at hl 0 rfl) ?_
  obtain ⟨q1, e1, h⟩ := obn_e h
  refine z_Vi (k := 149) (r1 := q1.1) (v1 := q1.2) hx hb hml hts hown hK hP hS hz hE (ig4 _ _ e1) kX14_product mX14_286 hk.1 rfl rfl rfl hl.1 (Nat.le_of_ble_eq_true rfl) (q_room (Nat.le_refl _) (Nat.le_refl _) (Nat.le_of_ble_eq_true rfl)) ⟨Nat.le_refl _, Nat.le_refl _⟩ dX14_sum_1 fun H1 locs1 hz hP hS => ?_
  refine lv_istore_n (lv' := [(1, .int q1.1), (0, .ref (Γ.2.1 + 149))]) hx hb dX14_sum_4 rfl hl (by decide) rfl fun ls hl => ?_
  have L5 : ∀ (fu : Nat) (t5 : Int32 × Va), rp (b_Model_sum_5 GI sp) fu t5 = some q → ∀ (H1 : Heap) (locs1 : List Loc) (ls1 : Array Slot), lv_has ls1 4 [(0, .ref (Γ.2.1 + 149)), (1, .int t5.1)] → Wd Γ sh t5.2 w H1 → va_S (gA Γ) s.heap H1 locs1 → H1.size = Γ.2.1 + n → wpI Γ sh w n (hh + 1) (fun x u => x = q.1 ∧ u = q.2) p l e s m args below meth c H1 locs1 (F0 m 5 ls1 []) := by
    refine q_loop (fun K5 ih5 t5 h H1 locs1 ls hl hP hS hz => ?_)
    unfold b_Model_sum_5 at h
    refine lv_aload_n hx hb dX14_sum_5 rfl (lv_at hl 0 rfl) ?_
    refine w_gr (k := 149) (r := sp) hx hb hts hown hK hP fX14_20 hk.1 rfl dX14_sum_6 ?_
    refine w_gr (k := sp) (r := (sp + 1)) hx hb hts hown hK hP fX14_102 hk.2.2.1.1 rfl dX14_sum_9 ?_
    refine lv_aload_n hx hb dX14_sum_12 rfl (lv_at hl 0 rfl) ?_
    refine w_gi (k := 149) hx hb hts hown hK hP fX14_267 hk.1 rfl dX14_sum_13 ?_
    obtain ⟨hn16, h⟩ := itn_e h
    refine w_iald (k := (sp + 1)) hx hb hK hP hk.2.2.1.2.1 hn16 dX14_sum_16 ?_
    refine lv_bipush (v := 46) hx hb dX14_sum_17 rfl ?_
    refine lv_bipush (v := 47) hx hb dX14_sum_19 rfl ?_
    obtain ⟨q21, e21, h⟩ := obn_e h
    refine z_Si (r1 := (q_b q21)) (v1 := t5.2) hx hb hml hts hown hK hP hS hz hE (c_Model_isIn  e21) kX14_isIn mX14_46 rfl rfl hl.1 (Nat.le_of_ble_eq_true rfl) (q_room hc (Nat.le_of_ble_eq_true rfl) (Nat.le_of_ble_eq_true rfl)) ⟨Nat.le_refl _, Nat.le_refl _⟩ dX14_sum_21 fun H1 locs1 hz hP hS => ?_
    refine lv_if_eq (tgt := 74) hx hb dX14_sum_24 rfl (fun hc24 => ?_) (fun hc24 => ?_)
    · have h := itt_e h hc24
      refine lv_iload_n hx hb dX14_sum_74 rfl (lv_at hl 1 rfl) ?_
      exact w_iret hx hb hret rfl hlk hK hP hS hz hE (q_p2 h) dX14_sum_75
    · have h := itf_e h hc24
      refine lv_aload_n hx hb dX14_sum_27 rfl (lv_at hl 0 rfl) ?_
      refine w_gr (k := 149) (r := sp) hx hb hts hown hK hP fX14_20 hk.1 rfl dX14_sum_28 ?_
      refine w_gr (k := sp) (r := (sp + 1)) hx hb hts hown hK hP fX14_102 hk.2.2.1.1 rfl dX14_sum_31 ?_
      refine lv_aload_n hx hb dX14_sum_34 rfl (lv_at hl 0 rfl) ?_
      refine w_gi (k := 149) hx hb hts hown hK hP fX14_267 hk.1 rfl dX14_sum_35 ?_
      obtain ⟨hn38, h⟩ := itn_e h
      refine w_iald (k := (sp + 1)) hx hb hK hP hk.2.2.1.2.1 hn38 dX14_sum_38 ?_
      refine lv_istore_n (lv' := [(2, .int (t5.2 (sp + 1) (t5.2 149 10).toNatClampNeg)), (0, .ref (Γ.2.1 + 149)), (1, .int t5.1)]) hx hb dX14_sum_39 rfl hl (by decide) rfl fun ls hl => ?_
      refine lv_aload_n hx hb dX14_sum_40 rfl (lv_at hl 1 rfl) ?_
      refine lv_dup hx hb dX14_sum_41 rfl ?_
      refine w_gi (k := 149) hx hb hts hown hK hP fX14_267 hk.1 rfl dX14_sum_42 ?_
      refine lv_iconst (v := 1) hx hb dX14_sum_45 rfl ?_
      refine lv_iadd hx hb dX14_sum_46 ?_
      obtain ⟨v47, e47, h⟩ := bnd_e h
      refine w_pi2 (k := 149) hx hb hts hown hK hP hS hz fX14_267 hk.1 rfl e47 dX14_sum_47 fun H1 locs1 hz hP hS => ?_
      refine lv_aload_n hx hb dX14_sum_50 rfl (lv_at hl 1 rfl) ?_
      obtain ⟨q51, e51, h⟩ := obn_e h
      refine z_Vi (k := 149) (r1 := q51.1) (v1 := q51.2) hx hb hml hts hown hK hP hS hz hE (ig4 _ _ e51) kX14_product mX14_286 hk.1 rfl rfl rfl hl.1 (Nat.le_of_ble_eq_true rfl) (q_room (Nat.le_refl _) (Nat.le_refl _) (Nat.le_of_ble_eq_true rfl)) ⟨Nat.le_refl _, Nat.le_refl _⟩ dX14_sum_51 fun H1 locs1 hz hP hS => ?_
      refine lv_istore_n (lv' := [(3, .int q51.1), (2, .int (t5.2 (sp + 1) (t5.2 149 10).toNatClampNeg)), (0, .ref (Γ.2.1 + 149)), (1, .int t5.1)]) hx hb dX14_sum_54 rfl hl (by decide) rfl fun ls hl => ?_
      refine lv_iload_n hx hb dX14_sum_55 rfl (lv_at hl 1 rfl) ?_
      refine lv_bipush (v := 46) hx hb dX14_sum_56 rfl ?_
      have J70 : ∀ (s70_0 : Int32), (j_Model_sum_70 K5 q51) s70_0 = some q → ∀ (H1 : Heap) (locs1 : List Loc) (ls1 : Array Slot), lv_has ls1 4 [(0, .ref (Γ.2.1 + 149))] → Wd Γ sh q51.2 w H1 → va_S (gA Γ) s.heap H1 locs1 → H1.size = Γ.2.1 + n → wpI Γ sh w n (hh + 1) (fun x u => x = q.1 ∧ u = q.2) p l e s m args below meth c H1 locs1 (F0 m 70 ls1 [.int s70_0]) := by
        intro s70_0 h H1 locs1 ls hl hP hS hz
        unfold j_Model_sum_70 at h
        refine lv_istore_n (lv' := [(1, .int s70_0), (0, .ref (Γ.2.1 + 149))]) hx hb dX14_sum_70 rfl hl (by decide) rfl fun ls hl => ?_
        refine lv_goto (tgt := 5) hx hb dX14_sum_71 rfl ?_
        exact ih5 (s70_0, q51.2) h _ _ _ (lv_sub hl [1, 0] rfl) hP hS hz
      refine lv_icmp_ne (tgt := 67) hx hb dX14_sum_58 rfl (fun hc58 => ?_) (fun hc58 => ?_)
      · have h := itf_e h hc58
        refine lv_iload_n hx hb dX14_sum_67 rfl (lv_at hl 3 rfl) ?_
        refine lv_iload_n hx hb dX14_sum_68 rfl (lv_at hl 0 rfl) ?_
        refine lv_isub hx hb dX14_sum_69 ?_
        exact J70 (t5.1 - q51.1) h _ _ _ (lv_sub hl [2] rfl) hP hS hz
      · have h := itt_e h hc58
        refine lv_iload_n hx hb dX14_sum_61 rfl (lv_at hl 3 rfl) ?_
        refine lv_iload_n hx hb dX14_sum_62 rfl (lv_at hl 0 rfl) ?_
        refine lv_iadd hx hb dX14_sum_63 ?_
        refine lv_goto (tgt := 70) hx hb dX14_sum_64 rfl ?_
        exact J70 (t5.1 + q51.1) h _ _ _ (lv_sub hl [2] rfl) hP hS hz
  exact L5 z (q1.1, q1.2) h _ _ _ (lv_sub hl [1, 0] rfl) hP hS hz
def j_Model_product_78 (K5 : (Int32 × Va) → Option (Int32 × Va)) (q51 : Int32 × Va) (s78_0 : Int32) : Option (Int32 × Va) := K5 (s78_0, q51.2)
def b_Model_product_5 (GI : Nat → List Int32 → Va → Option (Int32 × Va)) (sp : Nat) (K5 : (Int32 × Va) → Option (Int32 × Va)) (t5 : Int32 × Va) : Option (Int32 × Va) := if (t5.2 149 10) < 0 ∨ 401 ≤ (t5.2 149 10).toNatClampNeg then none else (f_Model_isIn (t5.2 (sp + 1) (t5.2 149 10).toNatClampNeg) 48 49).bind fun q21 => if (q_b q21) = 0 then (some (t5.1, t5.2)) else (if (t5.2 149 10) < 0 ∨ 401 ≤ (t5.2 149 10).toNatClampNeg then none else bnd (pu t5.2 149 10 ((t5.2 149 10) + 1)) fun v47 => (GI 5 [] v47).bind fun q51 => if (t5.2 (sp + 1) (t5.2 149 10).toNatClampNeg) = 48 then (j_Model_product_78 K5 q51 (t5.1 * q51.1)) else (if q51.1 = 0 then (j_Model_product_78 K5 q51 0) else (j_Model_product_78 K5 q51 (t5.1 / q51.1))))
def f_Model_product (z : Nat) (GB : Nat → List Int32 → Va → Option (Bool × Va)) (GI : Nat → List Int32 → Va → Option (Int32 × Va)) (v : Va) (sp : Nat) (sn : Nat) : Option (Int32 × Va) := (GI 5 [] v).bind fun q1 => rp (b_Model_product_5 GI sp) z (q1.1, q1.2)
theorem c_Model_product {sp : Nat} {sn : Nat} {GB : Nat → List Int32 → Va → Option (Bool × Va)} {hh : Nat} {GI : Nat → List Int32 → Va → Option (Int32 × Va)} (hk : isModel sh sp) (hsn : isState sh sn) (hc : 3 ≤ hh) (ig5 : ∀ (v : Va) (q : Int32 × Va), GI 5 [] v = some q → MetI l yX14_value cX14_value 4 (some .int) hh Γ sh v w n [.ref (Γ.2.1 + 149)] (fun x u => x = q.1 ∧ u = q.2)) {q : Int32 × Va} (h : f_Model_product z GB GI v sp sn = some q) : MetI l yX14_product cX14_product 4 (some .int) (hh + 1) Γ sh v w n [.ref (Γ.2.1 + 149)] (fun x u => x = q.1 ∧ u = q.2) := by
  unfold f_Model_product at h
  refine w_start pn_X14 (Nat.le_of_ble_eq_true rfl) fun p e s m args below meth c hx hb hml hret hlk hnm hts hown hK hP hz hE hS ls hl => ?_
  refine lv_aload_n hx hb dX14_product_0 rfl (lv_at hl 0 rfl) ?_
  obtain ⟨q1, e1, h⟩ := obn_e h
  refine z_Vi (k := 149) (r1 := q1.1) (v1 := q1.2) hx hb hml hts hown hK hP hS hz hE (ig5 _ _ e1) kX14_value mX14_289 hk.1 rfl rfl rfl hl.1 (Nat.le_of_ble_eq_true rfl) (q_room (Nat.le_refl _) (Nat.le_refl _) (Nat.le_of_ble_eq_true rfl)) ⟨Nat.le_refl _, Nat.le_refl _⟩ dX14_product_1 fun H1 locs1 hz hP hS => ?_
  refine lv_istore_n (lv' := [(1, .int q1.1), (0, .ref (Γ.2.1 + 149))]) hx hb dX14_product_4 rfl hl (by decide) rfl fun ls hl => ?_
  have L5 : ∀ (fu : Nat) (t5 : Int32 × Va), rp (b_Model_product_5 GI sp) fu t5 = some q → ∀ (H1 : Heap) (locs1 : List Loc) (ls1 : Array Slot), lv_has ls1 4 [(0, .ref (Γ.2.1 + 149)), (1, .int t5.1)] → Wd Γ sh t5.2 w H1 → va_S (gA Γ) s.heap H1 locs1 → H1.size = Γ.2.1 + n → wpI Γ sh w n (hh + 1) (fun x u => x = q.1 ∧ u = q.2) p l e s m args below meth c H1 locs1 (F0 m 5 ls1 []) := by
    refine q_loop (fun K5 ih5 t5 h H1 locs1 ls hl hP hS hz => ?_)
    unfold b_Model_product_5 at h
    refine lv_aload_n hx hb dX14_product_5 rfl (lv_at hl 0 rfl) ?_
    refine w_gr (k := 149) (r := sp) hx hb hts hown hK hP fX14_20 hk.1 rfl dX14_product_6 ?_
    refine w_gr (k := sp) (r := (sp + 1)) hx hb hts hown hK hP fX14_102 hk.2.2.1.1 rfl dX14_product_9 ?_
    refine lv_aload_n hx hb dX14_product_12 rfl (lv_at hl 0 rfl) ?_
    refine w_gi (k := 149) hx hb hts hown hK hP fX14_267 hk.1 rfl dX14_product_13 ?_
    obtain ⟨hn16, h⟩ := itn_e h
    refine w_iald (k := (sp + 1)) hx hb hK hP hk.2.2.1.2.1 hn16 dX14_product_16 ?_
    refine lv_bipush (v := 48) hx hb dX14_product_17 rfl ?_
    refine lv_bipush (v := 49) hx hb dX14_product_19 rfl ?_
    obtain ⟨q21, e21, h⟩ := obn_e h
    refine z_Si (r1 := (q_b q21)) (v1 := t5.2) hx hb hml hts hown hK hP hS hz hE (c_Model_isIn  e21) kX14_isIn mX14_46 rfl rfl hl.1 (Nat.le_of_ble_eq_true rfl) (q_room hc (Nat.le_of_ble_eq_true rfl) (Nat.le_of_ble_eq_true rfl)) ⟨Nat.le_refl _, Nat.le_refl _⟩ dX14_product_21 fun H1 locs1 hz hP hS => ?_
    refine lv_if_eq (tgt := 82) hx hb dX14_product_24 rfl (fun hc24 => ?_) (fun hc24 => ?_)
    · have h := itt_e h hc24
      refine lv_iload_n hx hb dX14_product_82 rfl (lv_at hl 1 rfl) ?_
      exact w_iret hx hb hret rfl hlk hK hP hS hz hE (q_p2 h) dX14_product_83
    · have h := itf_e h hc24
      refine lv_aload_n hx hb dX14_product_27 rfl (lv_at hl 0 rfl) ?_
      refine w_gr (k := 149) (r := sp) hx hb hts hown hK hP fX14_20 hk.1 rfl dX14_product_28 ?_
      refine w_gr (k := sp) (r := (sp + 1)) hx hb hts hown hK hP fX14_102 hk.2.2.1.1 rfl dX14_product_31 ?_
      refine lv_aload_n hx hb dX14_product_34 rfl (lv_at hl 0 rfl) ?_
      refine w_gi (k := 149) hx hb hts hown hK hP fX14_267 hk.1 rfl dX14_product_35 ?_
      obtain ⟨hn38, h⟩ := itn_e h
      refine w_iald (k := (sp + 1)) hx hb hK hP hk.2.2.1.2.1 hn38 dX14_product_38 ?_
      refine lv_istore_n (lv' := [(2, .int (t5.2 (sp + 1) (t5.2 149 10).toNatClampNeg)), (0, .ref (Γ.2.1 + 149)), (1, .int t5.1)]) hx hb dX14_product_39 rfl hl (by decide) rfl fun ls hl => ?_
      refine lv_aload_n hx hb dX14_product_40 rfl (lv_at hl 1 rfl) ?_
      refine lv_dup hx hb dX14_product_41 rfl ?_
      refine w_gi (k := 149) hx hb hts hown hK hP fX14_267 hk.1 rfl dX14_product_42 ?_
      refine lv_iconst (v := 1) hx hb dX14_product_45 rfl ?_
      refine lv_iadd hx hb dX14_product_46 ?_
      obtain ⟨v47, e47, h⟩ := bnd_e h
      refine w_pi2 (k := 149) hx hb hts hown hK hP hS hz fX14_267 hk.1 rfl e47 dX14_product_47 fun H1 locs1 hz hP hS => ?_
      refine lv_aload_n hx hb dX14_product_50 rfl (lv_at hl 1 rfl) ?_
      obtain ⟨q51, e51, h⟩ := obn_e h
      refine z_Vi (k := 149) (r1 := q51.1) (v1 := q51.2) hx hb hml hts hown hK hP hS hz hE (ig5 _ _ e51) kX14_value mX14_289 hk.1 rfl rfl rfl hl.1 (Nat.le_of_ble_eq_true rfl) (q_room (Nat.le_refl _) (Nat.le_refl _) (Nat.le_of_ble_eq_true rfl)) ⟨Nat.le_refl _, Nat.le_refl _⟩ dX14_product_51 fun H1 locs1 hz hP hS => ?_
      refine lv_istore_n (lv' := [(3, .int q51.1), (2, .int (t5.2 (sp + 1) (t5.2 149 10).toNatClampNeg)), (0, .ref (Γ.2.1 + 149)), (1, .int t5.1)]) hx hb dX14_product_54 rfl hl (by decide) rfl fun ls hl => ?_
      refine lv_iload_n hx hb dX14_product_55 rfl (lv_at hl 1 rfl) ?_
      refine lv_bipush (v := 48) hx hb dX14_product_56 rfl ?_
      have J78 : ∀ (s78_0 : Int32), (j_Model_product_78 K5 q51) s78_0 = some q → ∀ (H1 : Heap) (locs1 : List Loc) (ls1 : Array Slot), lv_has ls1 4 [(0, .ref (Γ.2.1 + 149))] → Wd Γ sh q51.2 w H1 → va_S (gA Γ) s.heap H1 locs1 → H1.size = Γ.2.1 + n → wpI Γ sh w n (hh + 1) (fun x u => x = q.1 ∧ u = q.2) p l e s m args below meth c H1 locs1 (F0 m 78 ls1 [.int s78_0]) := by
        intro s78_0 h H1 locs1 ls hl hP hS hz
        unfold j_Model_product_78 at h
        refine lv_istore_n (lv' := [(1, .int s78_0), (0, .ref (Γ.2.1 + 149))]) hx hb dX14_product_78 rfl hl (by decide) rfl fun ls hl => ?_
        refine lv_goto (tgt := 5) hx hb dX14_product_79 rfl ?_
        exact ih5 (s78_0, q51.2) h _ _ _ (lv_sub hl [1, 0] rfl) hP hS hz
      refine lv_icmp_ne (tgt := 67) hx hb dX14_product_58 rfl (fun hc58 => ?_) (fun hc58 => ?_)
      · have h := itf_e h hc58
        refine lv_iload_n hx hb dX14_product_67 rfl (lv_at hl 0 rfl) ?_
        refine lv_if_ne (tgt := 75) hx hb dX14_product_68 rfl (fun hc68 => ?_) (fun hc68 => ?_)
        · have h := itf_e h hc68
          refine lv_iload_n hx hb dX14_product_75 rfl (lv_at hl 3 rfl) ?_
          refine lv_iload_n hx hb dX14_product_76 rfl (lv_at hl 0 rfl) ?_
          refine lv_idiv hx hb dX14_product_77 hc68 ?_
          exact J78 (t5.1 / q51.1) h _ _ _ (lv_sub hl [2] rfl) hP hS hz
        · have h := itt_e h hc68
          refine lv_iconst (v := 0) hx hb dX14_product_71 rfl ?_
          refine lv_goto (tgt := 78) hx hb dX14_product_72 rfl ?_
          exact J78 0 h _ _ _ (lv_sub hl [2] rfl) hP hS hz
      · have h := itt_e h hc58
        refine lv_iload_n hx hb dX14_product_61 rfl (lv_at hl 3 rfl) ?_
        refine lv_iload_n hx hb dX14_product_62 rfl (lv_at hl 0 rfl) ?_
        refine lv_imul hx hb dX14_product_63 ?_
        refine lv_goto (tgt := 78) hx hb dX14_product_64 rfl ?_
        exact J78 (t5.1 * q51.1) h _ _ _ (lv_sub hl [2] rfl) hP hS hz
  exact L5 z (q1.1, q1.2) h _ _ _ (lv_sub hl [1, 0] rfl) hP hS hz
def f_Model_value (z : Nat) (GB : Nat → List Int32 → Va → Option (Bool × Va)) (GI : Nat → List Int32 → Va → Option (Int32 × Va)) (v : Va) (sp : Nat) (sn : Nat) : Option (Int32 × Va) := if (v 149 10) < 0 ∨ 401 ≤ (v 149 10).toNatClampNeg then none else bnd (pu v 149 10 ((v 149 10) + 1)) fun v20 => if (v (sp + 1) (v 149 10).toNatClampNeg) = 6 then (bnd (pu v20 149 10 ((v20 149 10) + 1)) fun v252 => if ((v252 149 10) - 1) < 0 ∨ 401 ≤ ((v252 149 10) - 1).toNatClampNeg then none else (f_Model_ofOne z v252 sp sn (v (sp + 1) (v 149 10).toNatClampNeg) (v252 (sp + 4) ((v252 149 10) - 1).toNatClampNeg)).bind fun q271 => some (q271, v252)) else (if (v (sp + 1) (v 149 10).toNatClampNeg) = 19 then (if ¬ (v20 149 11).toNatClampNeg = sn then none else some ((v20 sn 0), v20)) else (if (v (sp + 1) (v 149 10).toNatClampNeg) = 20 then (if ¬ (v20 149 11).toNatClampNeg = sn then none else some ((v20 sn 1), v20)) else (if (v (sp + 1) (v 149 10).toNatClampNeg) = 21 then (bnd (pu v20 149 10 ((v20 149 10) + 1)) fun v252 => if ((v252 149 10) - 1) < 0 ∨ 401 ≤ ((v252 149 10) - 1).toNatClampNeg then none else (f_Model_ofOne z v252 sp sn (v (sp + 1) (v 149 10).toNatClampNeg) (v252 (sp + 4) ((v252 149 10) - 1).toNatClampNeg)).bind fun q271 => some (q271, v252)) else (if (v (sp + 1) (v 149 10).toNatClampNeg) = 22 then (bnd (pu v20 149 10 ((v20 149 10) + 1)) fun v252 => if ((v252 149 10) - 1) < 0 ∨ 401 ≤ ((v252 149 10) - 1).toNatClampNeg then none else (f_Model_ofOne z v252 sp sn (v (sp + 1) (v 149 10).toNatClampNeg) (v252 (sp + 4) ((v252 149 10) - 1).toNatClampNeg)).bind fun q271 => some (q271, v252)) else (if (v (sp + 1) (v 149 10).toNatClampNeg) = 23 then (bnd (pu v20 149 10 ((v20 149 10) + 1)) fun v252 => if ((v252 149 10) - 1) < 0 ∨ 401 ≤ ((v252 149 10) - 1).toNatClampNeg then none else (f_Model_ofOne z v252 sp sn (v (sp + 1) (v 149 10).toNatClampNeg) (v252 (sp + 4) ((v252 149 10) - 1).toNatClampNeg)).bind fun q271 => some (q271, v252)) else (if (v (sp + 1) (v 149 10).toNatClampNeg) = 24 then (bnd (pu v20 149 10 ((v20 149 10) + 1)) fun v252 => if ((v252 149 10) - 1) < 0 ∨ 401 ≤ ((v252 149 10) - 1).toNatClampNeg then none else (f_Model_ofOne z v252 sp sn (v (sp + 1) (v 149 10).toNatClampNeg) (v252 (sp + 4) ((v252 149 10) - 1).toNatClampNeg)).bind fun q271 => some (q271, v252)) else (if (v (sp + 1) (v 149 10).toNatClampNeg) = 25 then (bnd (pu v20 149 10 ((v20 149 10) + 2)) fun v282 => if ¬ (v282 149 11).toNatClampNeg = sn then none else if ((v282 149 10) - 2) < 0 ∨ 401 ≤ ((v282 149 10) - 2).toNatClampNeg then none else if ((v282 149 10) - 1) < 0 ∨ 401 ≤ ((v282 149 10) - 1).toNatClampNeg then none else (f_State_owes v282 sn (v282 (sp + 4) ((v282 149 10) - 2).toNatClampNeg) (v282 (sp + 4) ((v282 149 10) - 1).toNatClampNeg)).bind fun q317 => some (q317, v282)) else (if (v (sp + 1) (v 149 10).toNatClampNeg) = 36 then (if ((v20 149 10) - 1) < 0 ∨ 401 ≤ ((v20 149 10) - 1).toNatClampNeg then none else some ((v20 (sp + 4) ((v20 149 10) - 1).toNatClampNeg), v20)) else (if (v (sp + 1) (v 149 10).toNatClampNeg) = 40 then ((GI 3 [] v20).bind fun q322 => bnd (pu q322.2 149 10 ((q322.2 149 10) + 1)) fun v333 => some (q322.1, v333)) else (if (v (sp + 1) (v 149 10).toNatClampNeg) = 47 then ((GI 5 [] v20).bind fun q240 => some ((-q240.1), q240.2)) else (bnd (pu v20 149 10 ((v20 149 10) + 1)) fun v345 => (GI 3 [] v345).bind fun q349 => bnd (pu q349.2 149 10 ((q349.2 149 10) + 1)) fun v360 => (GI 3 [] v360).bind fun q364 => bnd (pu q364.2 149 10 ((q364.2 149 10) + 1)) fun v375 => if (v (sp + 1) (v 149 10).toNatClampNeg) = 30 then (some ((q_min q349.1 q364.1), v375)) else (some ((q_max q349.1 q364.1), v375)))))))))))))
theorem c_Model_value {sp : Nat} {sn : Nat} {GB : Nat → List Int32 → Va → Option (Bool × Va)} {hh : Nat} {GI : Nat → List Int32 → Va → Option (Int32 × Va)} (hk : isModel sh sp) (hsn : isState sh sn) (hc : 3 ≤ hh) (ig3 : ∀ (v : Va) (q : Int32 × Va), GI 3 [] v = some q → MetI l yX14_sum cX14_sum 4 (some .int) hh Γ sh v w n [.ref (Γ.2.1 + 149)] (fun x u => x = q.1 ∧ u = q.2)) (ig5 : ∀ (v : Va) (q : Int32 × Va), GI 5 [] v = some q → MetI l yX14_value cX14_value 4 (some .int) hh Γ sh v w n [.ref (Γ.2.1 + 149)] (fun x u => x = q.1 ∧ u = q.2)) {q : Int32 × Va} (h : f_Model_value z GB GI v sp sn = some q) : MetI l yX14_value cX14_value 4 (some .int) (hh + 1) Γ sh v w n [.ref (Γ.2.1 + 149)] (fun x u => x = q.1 ∧ u = q.2) := by
  unfold f_Model_value at h
  refine w_start pn_X14 (Nat.le_of_ble_eq_true rfl) fun p e s m args below meth c hx hb hml hret hlk hnm hts hown hK hP hz hE hS ls hl => ?_
  refine lv_aload_n hx hb dX14_value_0 rfl (lv_at hl 0 rfl) ?_
  refine w_gr (k := 149) (r := sp) hx hb hts hown hK hP fX14_20 hk.1 rfl dX14_value_1 ?_
  refine w_gr (k := sp) (r := (sp + 1)) hx hb hts hown hK hP fX14_102 hk.2.2.1.1 rfl dX14_value_4 ?_
  refine lv_aload_n hx hb dX14_value_7 rfl (lv_at hl 0 rfl) ?_
  refine w_gi (k := 149) hx hb hts hown hK hP fX14_267 hk.1 rfl dX14_value_8 ?_
  obtain ⟨hn11, h⟩ := itn_e h
  refine w_iald (k := (sp + 1)) hx hb hK hP hk.2.2.1.2.1 hn11 dX14_value_11 ?_
  refine lv_istore_n (lv' := [(1, .int (v (sp + 1) (v 149 10).toNatClampNeg)), (0, .ref (Γ.2.1 + 149))]) hx hb dX14_value_12 rfl hl (by decide) rfl fun ls hl => ?_
  refine lv_aload_n hx hb dX14_value_13 rfl (lv_at hl 1 rfl) ?_
  refine lv_dup hx hb dX14_value_14 rfl ?_
  refine w_gi (k := 149) hx hb hts hown hK hP fX14_267 hk.1 rfl dX14_value_15 ?_
  refine lv_iconst (v := 1) hx hb dX14_value_18 rfl ?_
  refine lv_iadd hx hb dX14_value_19 ?_
  obtain ⟨v20, e20, h⟩ := bnd_e h
  refine w_pi2 (k := 149) hx hb hts hown hK hP hS hz fX14_267 hk.1 rfl e20 dX14_value_20 fun H1 locs1 hz hP hS => ?_
  refine lv_iload_n hx hb dX14_value_23 rfl (lv_at hl 0 rfl) ?_
  by_cases hc24_6 : (v (sp + 1) (v 149 10).toNatClampNeg) = 6
  · have h := itt_e h hc24_6
    refine z_tI (y := 6) (tgt := 245) hx hb dX14_value_24 hc24_6 (by decide) (by decide) rfl rfl ?_
    refine lv_aload_n hx hb dX14_value_245 rfl (lv_at hl 1 rfl) ?_
    refine lv_dup hx hb dX14_value_246 rfl ?_
    refine w_gi (k := 149) hx hb hts hown hK hP fX14_267 hk.1 rfl dX14_value_247 ?_
    refine lv_iconst (v := 1) hx hb dX14_value_250 rfl ?_
    refine lv_iadd hx hb dX14_value_251 ?_
    obtain ⟨v252, e252, h⟩ := bnd_e h
    refine w_pi2 (k := 149) hx hb hts hown hK hP hS hz fX14_267 hk.1 rfl e252 dX14_value_252 fun H1 locs1 hz hP hS => ?_
    refine lv_aload_n hx hb dX14_value_255 rfl (lv_at hl 1 rfl) ?_
    refine lv_iload_n hx hb dX14_value_256 rfl (lv_at hl 0 rfl) ?_
    refine lv_aload_n hx hb dX14_value_257 rfl (lv_at hl 1 rfl) ?_
    refine w_gr (k := 149) (r := sp) hx hb hts hown hK hP fX14_20 hk.1 rfl dX14_value_258 ?_
    refine w_gr (k := sp) (r := (sp + 4)) hx hb hts hown hK hP fX14_196 hk.2.2.1.1 rfl dX14_value_261 ?_
    refine lv_aload_n hx hb dX14_value_264 rfl (lv_at hl 1 rfl) ?_
    refine w_gi (k := 149) hx hb hts hown hK hP fX14_267 hk.1 rfl dX14_value_265 ?_
    refine lv_iconst (v := 1) hx hb dX14_value_268 rfl ?_
    refine lv_isub hx hb dX14_value_269 ?_
    obtain ⟨hn270, h⟩ := itn_e h
    refine w_iald (k := (sp + 4)) hx hb hK hP hk.2.2.1.2.2.2.2.1 hn270 dX14_value_270 ?_
    obtain ⟨q271, e271, h⟩ := obn_e h
    refine z_Vi (k := 149) (r1 := q271) (v1 := v252) hx hb hml hts hown hK hP hS hz hE (c_Model_ofOne hk hsn e271) kX14_ofOne mX14_314 hk.1 rfl rfl rfl hl.1 (Nat.le_of_ble_eq_true rfl) (q_room hc (Nat.le_of_ble_eq_true rfl) (Nat.le_of_ble_eq_true rfl)) ⟨Nat.le_refl _, Nat.le_refl _⟩ dX14_value_271 fun H1 locs1 hz hP hS => ?_
    exact w_iret hx hb hret rfl hlk hK hP hS hz hE (q_p2 h) dX14_value_274
  have h := itf_e h hc24_6
  by_cases hc24_19 : (v (sp + 1) (v 149 10).toNatClampNeg) = 19
  · have h := itt_e h hc24_19
    refine z_tI (y := 19) (tgt := 223) hx hb dX14_value_24 hc24_19 (by decide) (by decide) rfl rfl ?_
    refine lv_aload_n hx hb dX14_value_223 rfl (lv_at hl 1 rfl) ?_
    obtain ⟨hn224, h⟩ := itn_e h
    refine w_gd2 (k := 149) (r := sn) hx hb hts hown hK hP fX14_37 hk.1 rfl (Decidable.not_not.mp hn224) dX14_value_224 ?_
    refine w_gi (k := sn) hx hb hts hown hK hP fX14_308 hsn.1 rfl dX14_value_227 ?_
    exact w_iret hx hb hret rfl hlk hK hP hS hz hE (q_p2 h) dX14_value_230
  have h := itf_e h hc24_19
  by_cases hc24_20 : (v (sp + 1) (v 149 10).toNatClampNeg) = 20
  · have h := itt_e h hc24_20
    refine z_tI (y := 20) (tgt := 231) hx hb dX14_value_24 hc24_20 (by decide) (by decide) rfl rfl ?_
    refine lv_aload_n hx hb dX14_value_231 rfl (lv_at hl 1 rfl) ?_
    obtain ⟨hn232, h⟩ := itn_e h
    refine w_gd2 (k := 149) (r := sn) hx hb hts hown hK hP fX14_37 hk.1 rfl (Decidable.not_not.mp hn232) dX14_value_232 ?_
    refine w_gi (k := sn) hx hb hts hown hK hP fX14_311 hsn.1 rfl dX14_value_235 ?_
    exact w_iret hx hb hret rfl hlk hK hP hS hz hE (q_p2 h) dX14_value_238
  have h := itf_e h hc24_20
  by_cases hc24_21 : (v (sp + 1) (v 149 10).toNatClampNeg) = 21
  · have h := itt_e h hc24_21
    refine z_tI (y := 21) (tgt := 245) hx hb dX14_value_24 hc24_21 (by decide) (by decide) rfl rfl ?_
    refine lv_aload_n hx hb dX14_value_245 rfl (lv_at hl 1 rfl) ?_
    refine lv_dup hx hb dX14_value_246 rfl ?_
    refine w_gi (k := 149) hx hb hts hown hK hP fX14_267 hk.1 rfl dX14_value_247 ?_
    refine lv_iconst (v := 1) hx hb dX14_value_250 rfl ?_
    refine lv_iadd hx hb dX14_value_251 ?_
    obtain ⟨v252, e252, h⟩ := bnd_e h
    refine w_pi2 (k := 149) hx hb hts hown hK hP hS hz fX14_267 hk.1 rfl e252 dX14_value_252 fun H1 locs1 hz hP hS => ?_
    refine lv_aload_n hx hb dX14_value_255 rfl (lv_at hl 1 rfl) ?_
    refine lv_iload_n hx hb dX14_value_256 rfl (lv_at hl 0 rfl) ?_
    refine lv_aload_n hx hb dX14_value_257 rfl (lv_at hl 1 rfl) ?_
    refine w_gr (k := 149) (r := sp) hx hb hts hown hK hP fX14_20 hk.1 rfl dX14_value_258 ?_
    refine w_gr (k := sp) (r := (sp + 4)) hx hb hts hown hK hP fX14_196 hk.2.2.1.1 rfl dX14_value_261 ?_
    refine lv_aload_n hx hb dX14_value_264 rfl (lv_at hl 1 rfl) ?_
    refine w_gi (k := 149) hx hb hts hown hK hP fX14_267 hk.1 rfl dX14_value_265 ?_
    refine lv_iconst (v := 1) hx hb dX14_value_268 rfl ?_
    refine lv_isub hx hb dX14_value_269 ?_
    obtain ⟨hn270, h⟩ := itn_e h
    refine w_iald (k := (sp + 4)) hx hb hK hP hk.2.2.1.2.2.2.2.1 hn270 dX14_value_270 ?_
    obtain ⟨q271, e271, h⟩ := obn_e h
    refine z_Vi (k := 149) (r1 := q271) (v1 := v252) hx hb hml hts hown hK hP hS hz hE (c_Model_ofOne hk hsn e271) kX14_ofOne mX14_314 hk.1 rfl rfl rfl hl.1 (Nat.le_of_ble_eq_true rfl) (q_room hc (Nat.le_of_ble_eq_true rfl) (Nat.le_of_ble_eq_true rfl)) ⟨Nat.le_refl _, Nat.le_refl _⟩ dX14_value_271 fun H1 locs1 hz hP hS => ?_
    exact w_iret hx hb hret rfl hlk hK hP hS hz hE (q_p2 h) dX14_value_274
  have h := itf_e h hc24_21
  by_cases hc24_22 : (v (sp + 1) (v 149 10).toNatClampNeg) = 22
  · have h := itt_e h hc24_22
    refine z_tI (y := 22) (tgt := 245) hx hb dX14_value_24 hc24_22 (by decide) (by decide) rfl rfl ?_
    refine lv_aload_n hx hb dX14_value_245 rfl (lv_at hl 1 rfl) ?_
    refine lv_dup hx hb dX14_value_246 rfl ?_
    refine w_gi (k := 149) hx hb hts hown hK hP fX14_267 hk.1 rfl dX14_value_247 ?_
    refine lv_iconst (v := 1) hx hb dX14_value_250 rfl ?_
    refine lv_iadd hx hb dX14_value_251 ?_
    obtain ⟨v252, e252, h⟩ := bnd_e h
    refine w_pi2 (k := 149) hx hb hts hown hK hP hS hz fX14_267 hk.1 rfl e252 dX14_value_252 fun H1 locs1 hz hP hS => ?_
    refine lv_aload_n hx hb dX14_value_255 rfl (lv_at hl 1 rfl) ?_
    refine lv_iload_n hx hb dX14_value_256 rfl (lv_at hl 0 rfl) ?_
    refine lv_aload_n hx hb dX14_value_257 rfl (lv_at hl 1 rfl) ?_
    refine w_gr (k := 149) (r := sp) hx hb hts hown hK hP fX14_20 hk.1 rfl dX14_value_258 ?_
    refine w_gr (k := sp) (r := (sp + 4)) hx hb hts hown hK hP fX14_196 hk.2.2.1.1 rfl dX14_value_261 ?_
    refine lv_aload_n hx hb dX14_value_264 rfl (lv_at hl 1 rfl) ?_
    refine w_gi (k := 149) hx hb hts hown hK hP fX14_267 hk.1 rfl dX14_value_265 ?_
    refine lv_iconst (v := 1) hx hb dX14_value_268 rfl ?_
    refine lv_isub hx hb dX14_value_269 ?_
    obtain ⟨hn270, h⟩ := itn_e h
    refine w_iald (k := (sp + 4)) hx hb hK hP hk.2.2.1.2.2.2.2.1 hn270 dX14_value_270 ?_
    obtain ⟨q271, e271, h⟩ := obn_e h
    refine z_Vi (k := 149) (r1 := q271) (v1 := v252) hx hb hml hts hown hK hP hS hz hE (c_Model_ofOne hk hsn e271) kX14_ofOne mX14_314 hk.1 rfl rfl rfl hl.1 (Nat.le_of_ble_eq_true rfl) (q_room hc (Nat.le_of_ble_eq_true rfl) (Nat.le_of_ble_eq_true rfl)) ⟨Nat.le_refl _, Nat.le_refl _⟩ dX14_value_271 fun H1 locs1 hz hP hS => ?_
    exact w_iret hx hb hret rfl hlk hK hP hS hz hE (q_p2 h) dX14_value_274
  have h := itf_e h hc24_22
  by_cases hc24_23 : (v (sp + 1) (v 149 10).toNatClampNeg) = 23
  · have h := itt_e h hc24_23
    refine z_tI (y := 23) (tgt := 245) hx hb dX14_value_24 hc24_23 (by decide) (by decide) rfl rfl ?_
    refine lv_aload_n hx hb dX14_value_245 rfl (lv_at hl 1 rfl) ?_
    refine lv_dup hx hb dX14_value_246 rfl ?_
    refine w_gi (k := 149) hx hb hts hown hK hP fX14_267 hk.1 rfl dX14_value_247 ?_
    refine lv_iconst (v := 1) hx hb dX14_value_250 rfl ?_
    refine lv_iadd hx hb dX14_value_251 ?_
    obtain ⟨v252, e252, h⟩ := bnd_e h
    refine w_pi2 (k := 149) hx hb hts hown hK hP hS hz fX14_267 hk.1 rfl e252 dX14_value_252 fun H1 locs1 hz hP hS => ?_
    refine lv_aload_n hx hb dX14_value_255 rfl (lv_at hl 1 rfl) ?_
    refine lv_iload_n hx hb dX14_value_256 rfl (lv_at hl 0 rfl) ?_
    refine lv_aload_n hx hb dX14_value_257 rfl (lv_at hl 1 rfl) ?_
    refine w_gr (k := 149) (r := sp) hx hb hts hown hK hP fX14_20 hk.1 rfl dX14_value_258 ?_
    refine w_gr (k := sp) (r := (sp + 4)) hx hb hts hown hK hP fX14_196 hk.2.2.1.1 rfl dX14_value_261 ?_
    refine lv_aload_n hx hb dX14_value_264 rfl (lv_at hl 1 rfl) ?_
    refine w_gi (k := 149) hx hb hts hown hK hP fX14_267 hk.1 rfl dX14_value_265 ?_
    refine lv_iconst (v := 1) hx hb dX14_value_268 rfl ?_
    refine lv_isub hx hb dX14_value_269 ?_
    obtain ⟨hn270, h⟩ := itn_e h
    refine w_iald (k := (sp + 4)) hx hb hK hP hk.2.2.1.2.2.2.2.1 hn270 dX14_value_270 ?_
    obtain ⟨q271, e271, h⟩ := obn_e h
    refine z_Vi (k := 149) (r1 := q271) (v1 := v252) hx hb hml hts hown hK hP hS hz hE (c_Model_ofOne hk hsn e271) kX14_ofOne mX14_314 hk.1 rfl rfl rfl hl.1 (Nat.le_of_ble_eq_true rfl) (q_room hc (Nat.le_of_ble_eq_true rfl) (Nat.le_of_ble_eq_true rfl)) ⟨Nat.le_refl _, Nat.le_refl _⟩ dX14_value_271 fun H1 locs1 hz hP hS => ?_
    exact w_iret hx hb hret rfl hlk hK hP hS hz hE (q_p2 h) dX14_value_274
  have h := itf_e h hc24_23
  by_cases hc24_24 : (v (sp + 1) (v 149 10).toNatClampNeg) = 24
  · have h := itt_e h hc24_24
    refine z_tI (y := 24) (tgt := 245) hx hb dX14_value_24 hc24_24 (by decide) (by decide) rfl rfl ?_
    refine lv_aload_n hx hb dX14_value_245 rfl (lv_at hl 1 rfl) ?_
    refine lv_dup hx hb dX14_value_246 rfl ?_
    refine w_gi (k := 149) hx hb hts hown hK hP fX14_267 hk.1 rfl dX14_value_247 ?_
    refine lv_iconst (v := 1) hx hb dX14_value_250 rfl ?_
    refine lv_iadd hx hb dX14_value_251 ?_
    obtain ⟨v252, e252, h⟩ := bnd_e h
    refine w_pi2 (k := 149) hx hb hts hown hK hP hS hz fX14_267 hk.1 rfl e252 dX14_value_252 fun H1 locs1 hz hP hS => ?_
    refine lv_aload_n hx hb dX14_value_255 rfl (lv_at hl 1 rfl) ?_
    refine lv_iload_n hx hb dX14_value_256 rfl (lv_at hl 0 rfl) ?_
    refine lv_aload_n hx hb dX14_value_257 rfl (lv_at hl 1 rfl) ?_
    refine w_gr (k := 149) (r := sp) hx hb hts hown hK hP fX14_20 hk.1 rfl dX14_value_258 ?_
    refine w_gr (k := sp) (r := (sp + 4)) hx hb hts hown hK hP fX14_196 hk.2.2.1.1 rfl dX14_value_261 ?_
    refine lv_aload_n hx hb dX14_value_264 rfl (lv_at hl 1 rfl) ?_
    refine w_gi (k := 149) hx hb hts hown hK hP fX14_267 hk.1 rfl dX14_value_265 ?_
    refine lv_iconst (v := 1) hx hb dX14_value_268 rfl ?_
    refine lv_isub hx hb dX14_value_269 ?_
    obtain ⟨hn270, h⟩ := itn_e h
    refine w_iald (k := (sp + 4)) hx hb hK hP hk.2.2.1.2.2.2.2.1 hn270 dX14_value_270 ?_
    obtain ⟨q271, e271, h⟩ := obn_e h
    refine z_Vi (k := 149) (r1 := q271) (v1 := v252) hx hb hml hts hown hK hP hS hz hE (c_Model_ofOne hk hsn e271) kX14_ofOne mX14_314 hk.1 rfl rfl rfl hl.1 (Nat.le_of_ble_eq_true rfl) (q_room hc (Nat.le_of_ble_eq_true rfl) (Nat.le_of_ble_eq_true rfl)) ⟨Nat.le_refl _, Nat.le_refl _⟩ dX14_value_271 fun H1 locs1 hz hP hS => ?_
    exact w_iret hx hb hret rfl hlk hK hP hS hz hE (q_p2 h) dX14_value_274
  have h := itf_e h hc24_24
  by_cases hc24_25 : (v (sp + 1) (v 149 10).toNatClampNeg) = 25
  · have h := itt_e h hc24_25
    refine z_tI (y := 25) (tgt := 275) hx hb dX14_value_24 hc24_25 (by decide) (by decide) rfl rfl ?_
    refine lv_aload_n hx hb dX14_value_275 rfl (lv_at hl 1 rfl) ?_
    refine lv_dup hx hb dX14_value_276 rfl ?_
    refine w_gi (k := 149) hx hb hts hown hK hP fX14_267 hk.1 rfl dX14_value_277 ?_
    refine lv_iconst (v := 2) hx hb dX14_value_280 rfl ?_
    refine lv_iadd hx hb dX14_value_281 ?_
    obtain ⟨v282, e282, h⟩ := bnd_e h
    refine w_pi2 (k := 149) hx hb hts hown hK hP hS hz fX14_267 hk.1 rfl e282 dX14_value_282 fun H1 locs1 hz hP hS => ?_
    refine lv_aload_n hx hb dX14_value_285 rfl (lv_at hl 1 rfl) ?_
    obtain ⟨hn286, h⟩ := itn_e h
    refine w_gd2 (k := 149) (r := sn) hx hb hts hown hK hP fX14_37 hk.1 rfl (Decidable.not_not.mp hn286) dX14_value_286 ?_
    refine lv_aload_n hx hb dX14_value_289 rfl (lv_at hl 1 rfl) ?_
    refine w_gr (k := 149) (r := sp) hx hb hts hown hK hP fX14_20 hk.1 rfl dX14_value_290 ?_
    refine w_gr (k := sp) (r := (sp + 4)) hx hb hts hown hK hP fX14_196 hk.2.2.1.1 rfl dX14_value_293 ?_
    refine lv_aload_n hx hb dX14_value_296 rfl (lv_at hl 1 rfl) ?_
    refine w_gi (k := 149) hx hb hts hown hK hP fX14_267 hk.1 rfl dX14_value_297 ?_
    refine lv_iconst (v := 2) hx hb dX14_value_300 rfl ?_
    refine lv_isub hx hb dX14_value_301 ?_
    obtain ⟨hn302, h⟩ := itn_e h
    refine w_iald (k := (sp + 4)) hx hb hK hP hk.2.2.1.2.2.2.2.1 hn302 dX14_value_302 ?_
    refine lv_aload_n hx hb dX14_value_303 rfl (lv_at hl 1 rfl) ?_
    refine w_gr (k := 149) (r := sp) hx hb hts hown hK hP fX14_20 hk.1 rfl dX14_value_304 ?_
    refine w_gr (k := sp) (r := (sp + 4)) hx hb hts hown hK hP fX14_196 hk.2.2.1.1 rfl dX14_value_307 ?_
    refine lv_aload_n hx hb dX14_value_310 rfl (lv_at hl 1 rfl) ?_
    refine w_gi (k := 149) hx hb hts hown hK hP fX14_267 hk.1 rfl dX14_value_311 ?_
    refine lv_iconst (v := 1) hx hb dX14_value_314 rfl ?_
    refine lv_isub hx hb dX14_value_315 ?_
    obtain ⟨hn316, h⟩ := itn_e h
    refine w_iald (k := (sp + 4)) hx hb hK hP hk.2.2.1.2.2.2.2.1 hn316 dX14_value_316 ?_
    obtain ⟨q317, e317, h⟩ := obn_e h
    refine z_Vi (k := sn) (r1 := q317) (v1 := v282) hx hb hml hts hown hK hP hS hz hE (c_State_owes hsn e317) kX13_owes mX14_317 hsn.1 rfl rfl rfl hl.1 (Nat.le_of_ble_eq_true rfl) (q_room hc (Nat.le_of_ble_eq_true rfl) (Nat.le_of_ble_eq_true rfl)) ⟨Nat.le_refl _, Nat.le_refl _⟩ dX14_value_317 fun H1 locs1 hz hP hS => ?_
    exact w_iret hx hb hret rfl hlk hK hP hS hz hE (q_p2 h) dX14_value_320
  have h := itf_e h hc24_25
  by_cases hc24_36 : (v (sp + 1) (v 149 10).toNatClampNeg) = 36
  · have h := itt_e h hc24_36
    refine z_tI (y := 36) (tgt := 208) hx hb dX14_value_24 hc24_36 (by decide) (by decide) rfl rfl ?_
    refine lv_aload_n hx hb dX14_value_208 rfl (lv_at hl 1 rfl) ?_
    refine w_gr (k := 149) (r := sp) hx hb hts hown hK hP fX14_20 hk.1 rfl dX14_value_209 ?_
    refine w_gr (k := sp) (r := (sp + 4)) hx hb hts hown hK hP fX14_196 hk.2.2.1.1 rfl dX14_value_212 ?_
    refine lv_aload_n hx hb dX14_value_215 rfl (lv_at hl 1 rfl) ?_
    refine w_gi (k := 149) hx hb hts hown hK hP fX14_267 hk.1 rfl dX14_value_216 ?_
    refine lv_iconst (v := 1) hx hb dX14_value_219 rfl ?_
    refine lv_isub hx hb dX14_value_220 ?_
    obtain ⟨hn221, h⟩ := itn_e h
    refine w_iald (k := (sp + 4)) hx hb hK hP hk.2.2.1.2.2.2.2.1 hn221 dX14_value_221 ?_
    exact w_iret hx hb hret rfl hlk hK hP hS hz hE (q_p2 h) dX14_value_222
  have h := itf_e h hc24_36
  by_cases hc24_40 : (v (sp + 1) (v 149 10).toNatClampNeg) = 40
  · have h := itt_e h hc24_40
    refine z_tI (y := 40) (tgt := 321) hx hb dX14_value_24 hc24_40 (by decide) (by decide) rfl rfl ?_
    refine lv_aload_n hx hb dX14_value_321 rfl (lv_at hl 1 rfl) ?_
    obtain ⟨q322, e322, h⟩ := obn_e h
    refine z_Vi (k := 149) (r1 := q322.1) (v1 := q322.2) hx hb hml hts hown hK hP hS hz hE (ig3 _ _ e322) kX14_sum mX14_284 hk.1 rfl rfl rfl hl.1 (Nat.le_of_ble_eq_true rfl) (q_room (Nat.le_refl _) (Nat.le_refl _) (Nat.le_of_ble_eq_true rfl)) ⟨Nat.le_refl _, Nat.le_refl _⟩ dX14_value_322 fun H1 locs1 hz hP hS => ?_
    refine lv_istore_n (lv' := [(2, .int q322.1), (1, .int (v (sp + 1) (v 149 10).toNatClampNeg)), (0, .ref (Γ.2.1 + 149))]) hx hb dX14_value_325 rfl hl (by decide) rfl fun ls hl => ?_
    refine lv_aload_n hx hb dX14_value_326 rfl (lv_at hl 2 rfl) ?_
    refine lv_dup hx hb dX14_value_327 rfl ?_
    refine w_gi (k := 149) hx hb hts hown hK hP fX14_267 hk.1 rfl dX14_value_328 ?_
    refine lv_iconst (v := 1) hx hb dX14_value_331 rfl ?_
    refine lv_iadd hx hb dX14_value_332 ?_
    obtain ⟨v333, e333, h⟩ := bnd_e h
    refine w_pi2 (k := 149) hx hb hts hown hK hP hS hz fX14_267 hk.1 rfl e333 dX14_value_333 fun H1 locs1 hz hP hS => ?_
    refine lv_iload_n hx hb dX14_value_336 rfl (lv_at hl 0 rfl) ?_
    exact w_iret hx hb hret rfl hlk hK hP hS hz hE (q_p2 h) dX14_value_337
  have h := itf_e h hc24_40
  by_cases hc24_47 : (v (sp + 1) (v 149 10).toNatClampNeg) = 47
  · have h := itt_e h hc24_47
    refine z_tI (y := 47) (tgt := 239) hx hb dX14_value_24 hc24_47 (by decide) (by decide) rfl rfl ?_
    refine lv_aload_n hx hb dX14_value_239 rfl (lv_at hl 1 rfl) ?_
    obtain ⟨q240, e240, h⟩ := obn_e h
    refine z_Vi (k := 149) (r1 := q240.1) (v1 := q240.2) hx hb hml hts hown hK hP hS hz hE (ig5 _ _ e240) kX14_value mX14_289 hk.1 rfl rfl rfl hl.1 (Nat.le_of_ble_eq_true rfl) (q_room (Nat.le_refl _) (Nat.le_refl _) (Nat.le_of_ble_eq_true rfl)) ⟨Nat.le_refl _, Nat.le_refl _⟩ dX14_value_240 fun H1 locs1 hz hP hS => ?_
    refine lv_ineg hx hb dX14_value_243 ?_
    exact w_iret hx hb hret rfl hlk hK hP hS hz hE (q_p2 h) dX14_value_244
  have h := itf_e h hc24_47
  refine z_tD (tgt := 338) hx hb [6, 19, 20, 21, 22, 23, 24, 25, 36, 40, 47] dX14_value_24 (q_nc hc24_6 (q_nc hc24_19 (q_nc hc24_20 (q_nc hc24_21 (q_nc hc24_22 (q_nc hc24_23 (q_nc hc24_24 (q_nc hc24_25 (q_nc hc24_36 (q_nc hc24_40 (q_nc hc24_47 q_nn))))))))))) (by decide) (by decide) rfl ?_
  refine lv_aload_n hx hb dX14_value_338 rfl (lv_at hl 1 rfl) ?_
  refine lv_dup hx hb dX14_value_339 rfl ?_
  refine w_gi (k := 149) hx hb hts hown hK hP fX14_267 hk.1 rfl dX14_value_340 ?_
  refine lv_iconst (v := 1) hx hb dX14_value_343 rfl ?_
  refine lv_iadd hx hb dX14_value_344 ?_
  obtain ⟨v345, e345, h⟩ := bnd_e h
  refine w_pi2 (k := 149) hx hb hts hown hK hP hS hz fX14_267 hk.1 rfl e345 dX14_value_345 fun H1 locs1 hz hP hS => ?_
  refine lv_aload_n hx hb dX14_value_348 rfl (lv_at hl 1 rfl) ?_
  obtain ⟨q349, e349, h⟩ := obn_e h
  refine z_Vi (k := 149) (r1 := q349.1) (v1 := q349.2) hx hb hml hts hown hK hP hS hz hE (ig3 _ _ e349) kX14_sum mX14_284 hk.1 rfl rfl rfl hl.1 (Nat.le_of_ble_eq_true rfl) (q_room (Nat.le_refl _) (Nat.le_refl _) (Nat.le_of_ble_eq_true rfl)) ⟨Nat.le_refl _, Nat.le_refl _⟩ dX14_value_349 fun H1 locs1 hz hP hS => ?_
  refine lv_istore_n (lv' := [(2, .int q349.1), (1, .int (v (sp + 1) (v 149 10).toNatClampNeg)), (0, .ref (Γ.2.1 + 149))]) hx hb dX14_value_352 rfl hl (by decide) rfl fun ls hl => ?_
  refine lv_aload_n hx hb dX14_value_353 rfl (lv_at hl 2 rfl) ?_
  refine lv_dup hx hb dX14_value_354 rfl ?_
  refine w_gi (k := 149) hx hb hts hown hK hP fX14_267 hk.1 rfl dX14_value_355 ?_
  refine lv_iconst (v := 1) hx hb dX14_value_358 rfl ?_
  refine lv_iadd hx hb dX14_value_359 ?_
  obtain ⟨v360, e360, h⟩ := bnd_e h
  refine w_pi2 (k := 149) hx hb hts hown hK hP hS hz fX14_267 hk.1 rfl e360 dX14_value_360 fun H1 locs1 hz hP hS => ?_
  refine lv_aload_n hx hb dX14_value_363 rfl (lv_at hl 2 rfl) ?_
  obtain ⟨q364, e364, h⟩ := obn_e h
  refine z_Vi (k := 149) (r1 := q364.1) (v1 := q364.2) hx hb hml hts hown hK hP hS hz hE (ig3 _ _ e364) kX14_sum mX14_284 hk.1 rfl rfl rfl hl.1 (Nat.le_of_ble_eq_true rfl) (q_room (Nat.le_refl _) (Nat.le_refl _) (Nat.le_of_ble_eq_true rfl)) ⟨Nat.le_refl _, Nat.le_refl _⟩ dX14_value_364 fun H1 locs1 hz hP hS => ?_
  refine lv_istore_n (lv' := [(3, .int q364.1), (2, .int q349.1), (1, .int (v (sp + 1) (v 149 10).toNatClampNeg)), (0, .ref (Γ.2.1 + 149))]) hx hb dX14_value_367 rfl hl (by decide) rfl fun ls hl => ?_
  refine lv_aload_n hx hb dX14_value_368 rfl (lv_at hl 3 rfl) ?_
  refine lv_dup hx hb dX14_value_369 rfl ?_
  refine w_gi (k := 149) hx hb hts hown hK hP fX14_267 hk.1 rfl dX14_value_370 ?_
  refine lv_iconst (v := 1) hx hb dX14_value_373 rfl ?_
  refine lv_iadd hx hb dX14_value_374 ?_
  obtain ⟨v375, e375, h⟩ := bnd_e h
  refine w_pi2 (k := 149) hx hb hts hown hK hP hS hz fX14_267 hk.1 rfl e375 dX14_value_375 fun H1 locs1 hz hP hS => ?_
  refine lv_iload_n hx hb dX14_value_378 rfl (lv_at hl 2 rfl) ?_
  refine lv_bipush (v := 30) hx hb dX14_value_379 rfl ?_
  refine lv_icmp_ne (tgt := 392) hx hb dX14_value_381 rfl (fun hc381 => ?_) (fun hc381 => ?_)
  · have h := itf_e h hc381
    refine lv_iload_n hx hb dX14_value_392 rfl (lv_at hl 1 rfl) ?_
    refine lv_iload_n hx hb dX14_value_393 rfl (lv_at hl 0 rfl) ?_
    refine z_mmax hx hb hml hl.1 hts hown xX14_325 q_roomM (Nat.le_of_ble_eq_true rfl) ⟨Nat.le_refl _, Nat.le_refl _⟩ dX14_value_394 ?_
    exact w_iret hx hb hret rfl hlk hK hP hS hz hE (q_p2 h) dX14_value_397
  · have h := itt_e h hc381
    refine lv_iload_n hx hb dX14_value_384 rfl (lv_at hl 1 rfl) ?_
    refine lv_iload_n hx hb dX14_value_385 rfl (lv_at hl 0 rfl) ?_
    refine z_mmin hx hb hml hl.1 hts hown xX14_320 q_roomM (Nat.le_of_ble_eq_true rfl) ⟨Nat.le_refl _, Nat.le_refl _⟩ dX14_value_386 ?_
    refine lv_goto (tgt := 397) hx hb dX14_value_389 rfl ?_
    exact w_iret hx hb hret rfl hlk hK hP hS hz hE (q_p2 h) dX14_value_397
def g_Ev (z : Nat) (sp : Nat) (sn : Nat) : Nat → ((Nat → List Int32 → Va → Option (Bool × Va)) × (Nat → List Int32 → Va → Option (Int32 × Va)))
  | 0 => (fun _ _ _ => none, fun _ _ _ => none)
  | d + 1 => (fun i a v => if i = 0 then f_Model_test z (g_Ev z sp sn d).1 (g_Ev z sp sn d).2 v sp sn else if i = 1 then f_Model_both z (g_Ev z sp sn d).1 (g_Ev z sp sn d).2 v sp sn else if i = 2 then f_Model_single z (g_Ev z sp sn d).1 (g_Ev z sp sn d).2 v sp sn else none, fun i a v => if i = 3 then f_Model_sum z (g_Ev z sp sn d).1 (g_Ev z sp sn d).2 v sp sn else if i = 4 then f_Model_product z (g_Ev z sp sn d).1 (g_Ev z sp sn d).2 v sp sn else if i = 5 then f_Model_value z (g_Ev z sp sn d).1 (g_Ev z sp sn d).2 v sp sn else none)
theorem cg_Ev {sp : Nat} {sn : Nat} (hk : isModel sh sp) (hsn : isState sh sn) : ∀ d : Nat, (∀ (v : Va) (q : Bool × Va), (g_Ev z sp sn d).1 0 [] v = some q → MetI l yX14_test cX14_test 2 (some .boolean) (3 + d) Γ sh v w n [.ref (Γ.2.1 + 149)] (fun x u => x = q_b q.1 ∧ u = q.2)) ∧ (∀ (v : Va) (q : Bool × Va), (g_Ev z sp sn d).1 1 [] v = some q → MetI l yX14_both cX14_both 2 (some .boolean) (3 + d) Γ sh v w n [.ref (Γ.2.1 + 149)] (fun x u => x = q_b q.1 ∧ u = q.2)) ∧ (∀ (v : Va) (q : Bool × Va), (g_Ev z sp sn d).1 2 [] v = some q → MetI l yX14_single cX14_single 4 (some .boolean) (3 + d) Γ sh v w n [.ref (Γ.2.1 + 149)] (fun x u => x = q_b q.1 ∧ u = q.2)) ∧ (∀ (v : Va) (q : Int32 × Va), (g_Ev z sp sn d).2 3 [] v = some q → MetI l yX14_sum cX14_sum 4 (some .int) (3 + d) Γ sh v w n [.ref (Γ.2.1 + 149)] (fun x u => x = q.1 ∧ u = q.2)) ∧ (∀ (v : Va) (q : Int32 × Va), (g_Ev z sp sn d).2 4 [] v = some q → MetI l yX14_product cX14_product 4 (some .int) (3 + d) Γ sh v w n [.ref (Γ.2.1 + 149)] (fun x u => x = q.1 ∧ u = q.2)) ∧ (∀ (v : Va) (q : Int32 × Va), (g_Ev z sp sn d).2 5 [] v = some q → MetI l yX14_value cX14_value 4 (some .int) (3 + d) Γ sh v w n [.ref (Γ.2.1 + 149)] (fun x u => x = q.1 ∧ u = q.2)) := by
  intro d
  induction d with
  | zero => exact ⟨fun _ _ h => (by cases h), fun _ _ h => (by cases h), fun _ _ h => (by cases h), fun _ _ h => (by cases h), fun _ _ h => (by cases h), fun _ _ h => (by cases h)⟩
  | succ d ih => exact ⟨fun _ _ h => c_Model_test hk hsn (z := z) (GB := (g_Ev z sp sn d).1) (GI := (g_Ev z sp sn d).2) (hh := 3 + d) (Nat.le_add_right _ _) ih.2.1 h,
      fun _ _ h => c_Model_both hk hsn (z := z) (GB := (g_Ev z sp sn d).1) (GI := (g_Ev z sp sn d).2) (hh := 3 + d) (Nat.le_add_right _ _) ih.2.2.1 h,
      fun _ _ h => c_Model_single hk hsn (z := z) (GB := (g_Ev z sp sn d).1) (GI := (g_Ev z sp sn d).2) (hh := 3 + d) (Nat.le_add_right _ _) ih.1 ih.2.2.1 ih.2.2.2.1 h,
      fun _ _ h => c_Model_sum hk hsn (z := z) (GB := (g_Ev z sp sn d).1) (GI := (g_Ev z sp sn d).2) (hh := 3 + d) (Nat.le_add_right _ _) ih.2.2.2.2.1 h,
      fun _ _ h => c_Model_product hk hsn (z := z) (GB := (g_Ev z sp sn d).1) (GI := (g_Ev z sp sn d).2) (hh := 3 + d) (Nat.le_add_right _ _) ih.2.2.2.2.2 h,
      fun _ _ h => c_Model_value hk hsn (z := z) (GB := (g_Ev z sp sn d).1) (GI := (g_Ev z sp sn d).2) (hh := 3 + d) (Nat.le_add_right _ _) ih.2.2.2.1 ih.2.2.2.2.2 h⟩
end GE
