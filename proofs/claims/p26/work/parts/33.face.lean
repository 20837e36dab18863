
section GE
variable {l : Launch} {Γ : Cx} {sh : Sh} {v : Va} {w : Vl} {n z : Nat}
def f_Quay_feed (z : Nat) (v : Va) (a1 : Int32) (a2 : Int32) (a3 : Int32) (a4 : Int32) (a5 : Int32) : Option ((Int32 × Va) ⊕ Nat) := if (v 0 8) ≤ 1980 then ((f_Quay_append z v a1).bind fun q22 => (f_Quay_append z q22 a2).bind fun q27 => (f_Quay_append z q27 a3).bind fun q32 => (f_Quay_append z q32 a4).bind fun q38 => (f_Quay_append z q38 a5).bind fun q44 => some (.inl ((q44 0 8), q44))) else (some (.inr 0))
theorem c_Quay_feed {a1 : Int32} {a2 : Int32} {a3 : Int32} {a4 : Int32} {a5 : Int32} (hk : isQuay sh) (hX : EX Γ sh) (hlt : l.stackTraces = false) {q : (Int32 × Va) ⊕ Nat} (h : f_Quay_feed z v a1 a2 a3 a4 a5 = some q) : MetX l yX11_feed cX11_feed 6 (some .int) 6 Γ sh v w n [.ref (Γ.2.1 + 0), .int a1, .int a2, .int a3, .int a4, .int a5] (fun x u => q = .inl (x, u)) (fun E => ∃ c, q = .inr c ∧ E = xn c) := by
  unfold f_Quay_feed at h
  refine w_startX pn_X11 (Nat.le_of_ble_eq_true rfl) fun p e s m args below meth c hx hb hml hret hlk hnm hts hown hK hP hz hE hS ls hl hout => ?_
  refine lv_aload_n hx hb dX11_feed_0 rfl (lv_at hl 0 rfl) ?_
  refine w_gi (k := 0) hx hb hts hown hK hP fX11_67 hk.1 rfl dX11_feed_1 ?_
  refine lv_sipush (v := 1980) hx hb dX11_feed_4 rfl ?_
  refine lv_icmp_le (tgt := 20) hx hb dX11_feed_7 rfl (fun hc7 => ?_) (fun hc7 => ?_)
  · have h := itt_e h hc7
    refine lv_aload_n hx hb dX11_feed_20 rfl (lv_at hl 0 rfl) ?_
    refine lv_iload_n hx hb dX11_feed_21 rfl (lv_at hl 1 rfl) ?_
    obtain ⟨q22, e22, h⟩ := obn_e h
    refine z_Vv (k := 0) (v1 := q22) hx hb hml hts hown hK hP hS hz hE (c_Quay_append hk e22) kX11_append mX11_81 hk.1 rfl rfl rfl hl.1 (Nat.le_of_ble_eq_true rfl) ⟨Nat.le_of_ble_eq_true rfl, Nat.le_of_ble_eq_true rfl⟩ ⟨Nat.zero_le _, Nat.zero_le _⟩ dX11_feed_22 fun H1 locs1 hz hP hS => ?_
    refine lv_aload_n hx hb dX11_feed_25 rfl (lv_at hl 0 rfl) ?_
    refine lv_iload_n hx hb dX11_feed_26 rfl (lv_at hl 2 rfl) ?_
    obtain ⟨q27, e27, h⟩ := obn_e h
    refine z_Vv (k := 0) (v1 := q27) hx hb hml hts hown hK hP hS hz hE (c_Quay_append hk e27) kX11_append mX11_81 hk.1 rfl rfl rfl hl.1 (Nat.le_of_ble_eq_true rfl) ⟨Nat.le_of_ble_eq_true rfl, Nat.le_of_ble_eq_true rfl⟩ ⟨Nat.zero_le _, Nat.zero_le _⟩ dX11_feed_27 fun H1 locs1 hz hP hS => ?_
    refine lv_aload_n hx hb dX11_feed_30 rfl (lv_at hl 0 rfl) ?_
    refine lv_iload_n hx hb dX11_feed_31 rfl (lv_at hl 3 rfl) ?_
    obtain ⟨q32, e32, h⟩ := obn_e h
    refine z_Vv (k := 0) (v1 := q32) hx hb hml hts hown hK hP hS hz hE (c_Quay_append hk e32) kX11_append mX11_81 hk.1 rfl rfl rfl hl.1 (Nat.le_of_ble_eq_true rfl) ⟨Nat.le_of_ble_eq_true rfl, Nat.le_of_ble_eq_true rfl⟩ ⟨Nat.zero_le _, Nat.zero_le _⟩ dX11_feed_32 fun H1 locs1 hz hP hS => ?_
    refine lv_aload_n hx hb dX11_feed_35 rfl (lv_at hl 0 rfl) ?_
    refine lv_iload hx hb dX11_feed_36 (lv_at hl 4 rfl) ?_
    obtain ⟨q38, e38, h⟩ := obn_e h
    refine z_Vv (k := 0) (v1 := q38) hx hb hml hts hown hK hP hS hz hE (c_Quay_append hk e38) kX11_append mX11_81 hk.1 rfl rfl rfl hl.1 (Nat.le_of_ble_eq_true rfl) ⟨Nat.le_of_ble_eq_true rfl, Nat.le_of_ble_eq_true rfl⟩ ⟨Nat.zero_le _, Nat.zero_le _⟩ dX11_feed_38 fun H1 locs1 hz hP hS => ?_
    refine lv_aload_n hx hb dX11_feed_41 rfl (lv_at hl 0 rfl) ?_
    refine lv_iload hx hb dX11_feed_42 (lv_at hl 5 rfl) ?_
    obtain ⟨q44, e44, h⟩ := obn_e h
    refine z_Vv (k := 0) (v1 := q44) hx hb hml hts hown hK hP hS hz hE (c_Quay_append hk e44) kX11_append mX11_81 hk.1 rfl rfl rfl hl.1 (Nat.le_of_ble_eq_true rfl) ⟨Nat.le_of_ble_eq_true rfl, Nat.le_of_ble_eq_true rfl⟩ ⟨Nat.zero_le _, Nat.zero_le _⟩ dX11_feed_44 fun H1 locs1 hz hP hS => ?_
    refine lv_aload_n hx hb dX11_feed_47 rfl (lv_at hl 0 rfl) ?_
    refine w_gi (k := 0) hx hb hts hown hK hP fX11_67 hk.1 rfl dX11_feed_48 ?_
    exact x_iret hx hb hret rfl hlk hK hP hS hz hE (Option.some.inj h).symm dX11_feed_51
  · have h := itf_e h hc7
    exact x_thr hx hb hlt hml hl.1 hts hown hP hS hz hE hX hlk hout (List.mem_of_getElem? (i := 0) rfl) xk_74 xi_0 ew_0 (by decide +kernel) dX11_feed_10 dX11_feed_13 dX11_feed_14 dX11_feed_16 dX11_feed_19 (Nat.le_of_ble_eq_true rfl) (Nat.le_of_ble_eq_true rfl) ⟨0, (Option.some.inj h).symm, rfl⟩
def f_Quay_trim (v : Va) (a1 : Int32) : Option ((Int32 × Va) ⊕ Nat) := if a1 < 0 then (some (.inr 1)) else (if a1 ≤ (v 0 8) then (bnd (pu v 0 8 a1) fun v24 => some (.inl (a1, v24))) else (some (.inr 1)))
theorem c_Quay_trim {a1 : Int32} (hk : isQuay sh) (hX : EX Γ sh) (hlt : l.stackTraces = false) {q : (Int32 × Va) ⊕ Nat} (h : f_Quay_trim v a1 = some q) : MetX l yX11_trim cX11_trim 2 (some .int) 6 Γ sh v w n [.ref (Γ.2.1 + 0), .int a1] (fun x u => q = .inl (x, u)) (fun E => ∃ c, q = .inr c ∧ E = xn c) := by
  unfold f_Quay_trim at h
  refine w_startX pn_X11 (Nat.le_of_ble_eq_true rfl) fun p e s m args below meth c hx hb hml hret hlk hnm hts hown hK hP hz hE hS ls hl hout => ?_
  refine lv_iload_n hx hb dX11_trim_0 rfl (lv_at hl 1 rfl) ?_
  refine lv_if_lt (tgt := 12) hx hb dX11_trim_1 rfl (fun hc1 => ?_) (fun hc1 => ?_)
  · have h := itt_e h hc1
    exact x_thr hx hb hlt hml hl.1 hts hown hP hS hz hE hX hlk hout (List.mem_of_getElem? (i := 1) rfl) xk_84 xi_1 ew_1 (by decide +kernel) dX11_trim_12 dX11_trim_15 dX11_trim_16 dX11_trim_18 dX11_trim_21 (Nat.le_of_ble_eq_true rfl) (Nat.le_of_ble_eq_true rfl) ⟨1, (Option.some.inj h).symm, rfl⟩
  · have h := itf_e h hc1
    refine lv_iload_n hx hb dX11_trim_4 rfl (lv_at hl 1 rfl) ?_
    refine lv_aload_n hx hb dX11_trim_5 rfl (lv_at hl 0 rfl) ?_
    refine w_gi (k := 0) hx hb hts hown hK hP fX11_67 hk.1 rfl dX11_trim_6 ?_
    refine lv_icmp_le (tgt := 22) hx hb dX11_trim_9 rfl (fun hc9 => ?_) (fun hc9 => ?_)
    · have h := itt_e h hc9
      refine lv_aload_n hx hb dX11_trim_22 rfl (lv_at hl 0 rfl) ?_
      refine lv_iload_n hx hb dX11_trim_23 rfl (lv_at hl 1 rfl) ?_
      obtain ⟨v24, e24, h⟩ := bnd_e h
      refine w_pi2 (k := 0) hx hb hts hown hK hP hS hz fX11_67 hk.1 rfl e24 dX11_trim_24 fun H1 locs1 hz hP hS => ?_
      refine lv_iload_n hx hb dX11_trim_27 rfl (lv_at hl 1 rfl) ?_
      exact x_iret hx hb hret rfl hlk hK hP hS hz hE (Option.some.inj h).symm dX11_trim_28
    · have h := itf_e h hc9
      exact x_thr hx hb hlt hml hl.1 hts hown hP hS hz hE hX hlk hout (List.mem_of_getElem? (i := 1) rfl) xk_84 xi_1 ew_1 (by decide +kernel) dX11_trim_12 dX11_trim_15 dX11_trim_16 dX11_trim_18 dX11_trim_21 (Nat.le_of_ble_eq_true rfl) (Nat.le_of_ble_eq_true rfl) ⟨1, (Option.some.inj h).symm, rfl⟩
def f_Quay_teach (z : Nat) (v : Va) : Option (Int32 × Va) := (f_Tokens_scan z v (v 0 8)).bind fun q8 => (f_Reader_read z q8).bind fun q15 => (f_Reader_faultPlace q15.2).bind fun q24 => bnd (pu q15.2 0 9 q24) fun v27 => bnd (pu v27 0 8 0) fun v32 => if q15.1 = 0 then ((f_Plan_copyFrom v32 61 13).bind fun q50 => (f_Stand_begin z q50 97).bind fun q57 => some (q15.1, q57)) else (some (q15.1, v32))
theorem c_Quay_teach (hk : isQuay sh) (hF : EF Γ sh) {q : Int32 × Va} (h : f_Quay_teach z v = some q) : MetI l yX11_teach cX11_teach 2 (some .int) 54 Γ sh v w n [.ref (Γ.2.1 + 0)] (fun x u => x = q.1 ∧ u = q.2) := by
  unfold f_Quay_teach at h
  refine w_start pn_X11 (Nat.le_of_ble_eq_true rfl) fun p e s m args below meth c hx hb hml hret hlk hnm hts hown hK hP hz hE hS ls hl => ?_
  refine lv_aload_n hx hb dX11_teach_0 rfl (lv_at hl 0 rfl) ?_
  refine w_gr (k := 0) (r := 3) hx hb hts hown hK hP fX11_23 hk.1 rfl dX11_teach_1 ?_
  refine lv_aload_n hx hb dX11_teach_4 rfl (lv_at hl 0 rfl) ?_
  refine w_gi (k := 0) hx hb hts hown hK hP fX11_67 hk.1 rfl dX11_teach_5 ?_
  obtain ⟨q8, e8, h⟩ := obn_e h
  refine z_Vv (k := 3) (v1 := q8) hx hb hml hts hown hK hP hS hz hE (c_Tokens_scan hk.2.2.1 hF e8) kX10_scan mX11_89 hk.2.2.1.1 rfl rfl rfl hl.1 (Nat.le_of_ble_eq_true rfl) ⟨Nat.le_of_ble_eq_true rfl, Nat.le_of_ble_eq_true rfl⟩ ⟨Nat.zero_le _, Nat.zero_le _⟩ dX11_teach_8 fun H1 locs1 hz hP hS => ?_
  refine lv_aload_n hx hb dX11_teach_11 rfl (lv_at hl 0 rfl) ?_
  refine w_gr (k := 0) (r := 12) hx hb hts hown hK hP fX11_32 hk.1 rfl dX11_teach_12 ?_
  obtain ⟨q15, e15, h⟩ := obn_e h
  refine z_Vi (k := 12) (r1 := q15.1) (v1 := q15.2) hx hb hml hts hown hK hP hS hz hE (c_Reader_read hk.2.2.2.1 e15) kX5_read mX11_92 hk.2.2.2.1.1 rfl rfl rfl hl.1 (Nat.le_of_ble_eq_true rfl) ⟨Nat.le_of_ble_eq_true rfl, Nat.le_of_ble_eq_true rfl⟩ ⟨Nat.zero_le _, Nat.zero_le _⟩ dX11_teach_15 fun H1 locs1 hz hP hS => ?_
  refine lv_istore_n (lv' := [(1, .int q15.1), (0, .ref (Γ.2.1 + 0))]) hx hb dX11_teach_18 rfl hl (by decide) rfl fun ls hl => ?_
  refine lv_aload_n hx hb dX11_teach_19 rfl (lv_at hl 1 rfl) ?_
  refine lv_aload_n hx hb dX11_teach_20 rfl (lv_at hl 1 rfl) ?_
  refine w_gr (k := 0) (r := 12) hx hb hts hown hK hP fX11_32 hk.1 rfl dX11_teach_21 ?_
  obtain ⟨q24, e24, h⟩ := obn_e h
  refine z_Vi (k := 12) (r1 := q24) (v1 := q15.2) hx hb hml hts hown hK hP hS hz hE (c_Reader_faultPlace hk.2.2.2.1 e24) kX5_faultPlace mX11_96 hk.2.2.2.1.1 rfl rfl rfl hl.1 (Nat.le_of_ble_eq_true rfl) ⟨Nat.le_of_ble_eq_true rfl, Nat.le_of_ble_eq_true rfl⟩ ⟨Nat.zero_le _, Nat.zero_le _⟩ dX11_teach_24 fun H1 locs1 hz hP hS => ?_
  obtain ⟨v27, e27, h⟩ := bnd_e h
  refine w_pi2 (k := 0) hx hb hts hown hK hP hS hz fX11_71 hk.1 rfl e27 dX11_teach_27 fun H1 locs1 hz hP hS => ?_
  refine lv_aload_n hx hb dX11_teach_30 rfl (lv_at hl 1 rfl) ?_
  refine lv_iconst (v := 0) hx hb dX11_teach_31 rfl ?_
  obtain ⟨v32, e32, h⟩ := bnd_e h
  refine w_pi2 (k := 0) hx hb hts hown hK hP hS hz fX11_67 hk.1 rfl e32 dX11_teach_32 fun H1 locs1 hz hP hS => ?_
  refine lv_iload_n hx hb dX11_teach_35 rfl (lv_at hl 0 rfl) ?_
  refine lv_if_ne (tgt := 60) hx hb dX11_teach_36 rfl (fun hc36 => ?_) (fun hc36 => ?_)
  · have h := itf_e h hc36
    refine lv_iload_n hx hb dX11_teach_60 rfl (lv_at hl 0 rfl) ?_
    exact w_iret hx hb hret rfl hlk hK hP hS hz hE (q_p2 h) dX11_teach_61
  · have h := itt_e h hc36
    refine lv_aload_n hx hb dX11_teach_39 rfl (lv_at hl 1 rfl) ?_
    refine w_gr (k := 0) (r := 61) hx hb hts hown hK hP fX11_39 hk.1 rfl dX11_teach_40 ?_
    refine lv_aload_n hx hb dX11_teach_43 rfl (lv_at hl 1 rfl) ?_
    refine w_gr (k := 0) (r := 12) hx hb hts hown hK hP fX11_32 hk.1 rfl dX11_teach_44 ?_
    refine w_gr (k := 12) (r := 13) hx hb hts hown hK hP fX11_99 hk.2.2.2.1.1 rfl dX11_teach_47 ?_
    obtain ⟨q50, e50, h⟩ := obn_e h
    refine z_Vv (k := 61) (v1 := q50) hx hb hml hts hown hK hP hS hz hE (c_Plan_copyFrom hk.2.2.2.2.1 hk.2.2.2.1.2.1 (by omega) e50) kX4_copyFrom mX11_102 hk.2.2.2.2.1.1 rfl rfl rfl hl.1 (Nat.le_of_ble_eq_true rfl) ⟨Nat.le_of_ble_eq_true rfl, Nat.le_of_ble_eq_true rfl⟩ ⟨Nat.zero_le _, Nat.zero_le _⟩ dX11_teach_50 fun H1 locs1 hz hP hS => ?_
    refine lv_aload_n hx hb dX11_teach_53 rfl (lv_at hl 1 rfl) ?_
    refine w_gr (k := 0) (r := 97) hx hb hts hown hK hP fX11_48 hk.1 rfl dX11_teach_54 ?_
    obtain ⟨q57, e57, h⟩ := obn_e h
    refine z_Vv (k := 97) (v1 := q57) hx hb hml hts hown hK hP hS hz hE (c_Stand_begin hk.2.2.2.2.2.1 e57) kX8_begin mX11_105 hk.2.2.2.2.2.1.1 rfl rfl rfl hl.1 (Nat.le_of_ble_eq_true rfl) ⟨Nat.le_of_ble_eq_true rfl, Nat.le_of_ble_eq_true rfl⟩ ⟨Nat.zero_le _, Nat.zero_le _⟩ dX11_teach_57 fun H1 locs1 hz hP hS => ?_
    refine lv_iload_n hx hb dX11_teach_60 rfl (lv_at hl 0 rfl) ?_
    exact w_iret hx hb hret rfl hlk hK hP hS hz hE (q_p2 h) dX11_teach_61
def f_Quay_count (v : Va) (a1 : Int32) : Option (Int32 ⊕ Nat) := if a1 < 0 then (some (.inr 2)) else (if a1 ≤ 13 then ((f_Quay_counted v a1).bind fun q22 => some (.inl q22)) else (some (.inr 2)))
theorem c_Quay_count {a1 : Int32} (hk : isQuay sh) (hX : EX Γ sh) (hlt : l.stackTraces = false) {q : Int32 ⊕ Nat} (h : f_Quay_count v a1 = some q) : MetX l yX11_count cX11_count 2 (some .int) 6 Γ sh v w n [.ref (Γ.2.1 + 0), .int a1] (fun x u => q = .inl x ∧ u = v) (fun E => ∃ c, q = .inr c ∧ E = xn c) := by
  unfold f_Quay_count at h
  refine w_startX pn_X11 (Nat.le_of_ble_eq_true rfl) fun p e s m args below meth c hx hb hml hret hlk hnm hts hown hK hP hz hE hS ls hl hout => ?_
  refine lv_iload_n hx hb dX11_count_0 rfl (lv_at hl 1 rfl) ?_
  refine lv_if_lt (tgt := 10) hx hb dX11_count_1 rfl (fun hc1 => ?_) (fun hc1 => ?_)
  · have h := itt_e h hc1
    exact x_thr hx hb hlt hml hl.1 hts hown hP hS hz hE hX hlk hout (List.mem_of_getElem? (i := 2) rfl) xk_108 xi_2 ew_2 (by decide +kernel) dX11_count_10 dX11_count_13 dX11_count_14 dX11_count_16 dX11_count_19 (Nat.le_of_ble_eq_true rfl) (Nat.le_of_ble_eq_true rfl) ⟨2, (Option.some.inj h).symm, rfl⟩
  · have h := itf_e h hc1
    refine lv_iload_n hx hb dX11_count_4 rfl (lv_at hl 1 rfl) ?_
    refine lv_bipush (v := 13) hx hb dX11_count_5 rfl ?_
    refine lv_icmp_le (tgt := 20) hx hb dX11_count_7 rfl (fun hc7 => ?_) (fun hc7 => ?_)
    · have h := itt_e h hc7
      refine lv_aload_n hx hb dX11_count_20 rfl (lv_at hl 0 rfl) ?_
      refine lv_iload_n hx hb dX11_count_21 rfl (lv_at hl 1 rfl) ?_
      obtain ⟨q22, e22, h⟩ := obn_e h
      refine z_Vi (k := 0) (r1 := q22) (v1 := v) hx hb hml hts hown hK hP hS hz hE (c_Quay_counted hk e22) kX11_counted mX11_113 hk.1 rfl rfl rfl hl.1 (Nat.le_of_ble_eq_true rfl) ⟨Nat.le_of_ble_eq_true rfl, Nat.le_of_ble_eq_true rfl⟩ ⟨Nat.zero_le _, Nat.zero_le _⟩ dX11_count_22 fun H1 locs1 hz hP hS => ?_
      exact x_iret hx hb hret rfl hlk hK hP hS hz hE ⟨(Option.some.inj h).symm, rfl⟩ dX11_count_25
    · have h := itf_e h hc7
      exact x_thr hx hb hlt hml hl.1 hts hown hP hS hz hE hX hlk hout (List.mem_of_getElem? (i := 2) rfl) xk_108 xi_2 ew_2 (by decide +kernel) dX11_count_10 dX11_count_13 dX11_count_14 dX11_count_16 dX11_count_19 (Nat.le_of_ble_eq_true rfl) (Nat.le_of_ble_eq_true rfl) ⟨2, (Option.some.inj h).symm, rfl⟩
def f_Quay_lot (v : Va) (a1 : Int32) (a2 : Int32) : Option (Int32 ⊕ Nat) := (f_Quay_isLot v a1).bind fun q2 => if (q_b q2) = 0 then (some (.inr 2)) else (if a2 < 0 then (some (.inr 2)) else (if a2 ≤ 6 then ((f_Stand_tellLot v 97 a1 a2).bind fun q34 => some (.inl q34)) else (some (.inr 2))))
theorem c_Quay_lot {a1 : Int32} {a2 : Int32} (hk : isQuay sh) (hX : EX Γ sh) (hlt : l.stackTraces = false) {q : Int32 ⊕ Nat} (h : f_Quay_lot v a1 a2 = some q) : MetX l yX11_lot cX11_lot 3 (some .int) 6 Γ sh v w n [.ref (Γ.2.1 + 0), .int a1, .int a2] (fun x u => q = .inl x ∧ u = v) (fun E => ∃ c, q = .inr c ∧ E = xn c) := by
  unfold f_Quay_lot at h
  refine w_startX pn_X11 (Nat.le_of_ble_eq_true rfl) fun p e s m args below meth c hx hb hml hret hlk hnm hts hown hK hP hz hE hS ls hl hout => ?_
  refine lv_aload_n hx hb dX11_lot_0 rfl (lv_at hl 0 rfl) ?_
  refine lv_iload_n hx hb dX11_lot_1 rfl (lv_at hl 1 rfl) ?_
  obtain ⟨q2, e2, h⟩ := obn_e h
  refine z_Vi (k := 0) (r1 := (q_b q2)) (v1 := v) hx hb hml hts hown hK hP hS hz hE (c_Quay_isLot hk e2) kX11_isLot mX11_117 hk.1 rfl rfl rfl hl.1 (Nat.le_of_ble_eq_true rfl) ⟨Nat.le_of_ble_eq_true rfl, Nat.le_of_ble_eq_true rfl⟩ ⟨Nat.zero_le _, Nat.zero_le _⟩ dX11_lot_2 fun H1 locs1 hz hP hS => ?_
  refine lv_if_eq (tgt := 18) hx hb dX11_lot_5 rfl (fun hc5 => ?_) (fun hc5 => ?_)
  · have h := itt_e h hc5
    exact x_thr hx hb hlt hml hl.1 hts hown hP hS hz hE hX hlk hout (List.mem_of_getElem? (i := 3) rfl) xk_108 xi_2 ew_2 (by decide +kernel) dX11_lot_18 dX11_lot_21 dX11_lot_22 dX11_lot_24 dX11_lot_27 (Nat.le_of_ble_eq_true rfl) (Nat.le_of_ble_eq_true rfl) ⟨2, (Option.some.inj h).symm, rfl⟩
  · have h := itf_e h hc5
    refine lv_iload_n hx hb dX11_lot_8 rfl (lv_at hl 2 rfl) ?_
    refine lv_if_lt (tgt := 18) hx hb dX11_lot_9 rfl (fun hc9 => ?_) (fun hc9 => ?_)
    · have h := itt_e h hc9
      exact x_thr hx hb hlt hml hl.1 hts hown hP hS hz hE hX hlk hout (List.mem_of_getElem? (i := 3) rfl) xk_108 xi_2 ew_2 (by decide +kernel) dX11_lot_18 dX11_lot_21 dX11_lot_22 dX11_lot_24 dX11_lot_27 (Nat.le_of_ble_eq_true rfl) (Nat.le_of_ble_eq_true rfl) ⟨2, (Option.some.inj h).symm, rfl⟩
    · have h := itf_e h hc9
      refine lv_iload_n hx hb dX11_lot_12 rfl (lv_at hl 2 rfl) ?_
      refine lv_bipush (v := 6) hx hb dX11_lot_13 rfl ?_
      refine lv_icmp_le (tgt := 28) hx hb dX11_lot_15 rfl (fun hc15 => ?_) (fun hc15 => ?_)
      · have h := itt_e h hc15
        refine lv_aload_n hx hb dX11_lot_28 rfl (lv_at hl 0 rfl) ?_
        refine w_gr (k := 0) (r := 97) hx hb hts hown hK hP fX11_48 hk.1 rfl dX11_lot_29 ?_
        refine lv_iload_n hx hb dX11_lot_32 rfl (lv_at hl 1 rfl) ?_
        refine lv_iload_n hx hb dX11_lot_33 rfl (lv_at hl 2 rfl) ?_
        obtain ⟨q34, e34, h⟩ := obn_e h
        refine z_Vi (k := 97) (r1 := q34) (v1 := v) hx hb hml hts hown hK hP hS hz hE (c_Stand_tellLot hk.2.2.2.2.2.1 e34) kX8_tellLot mX11_123 hk.2.2.2.2.2.1.1 rfl rfl rfl hl.1 (Nat.le_of_ble_eq_true rfl) ⟨Nat.le_of_ble_eq_true rfl, Nat.le_of_ble_eq_true rfl⟩ ⟨Nat.zero_le _, Nat.zero_le _⟩ dX11_lot_34 fun H1 locs1 hz hP hS => ?_
        exact x_iret hx hb hret rfl hlk hK hP hS hz hE ⟨(Option.some.inj h).symm, rfl⟩ dX11_lot_37
      · have h := itf_e h hc15
        exact x_thr hx hb hlt hml hl.1 hts hown hP hS hz hE hX hlk hout (List.mem_of_getElem? (i := 3) rfl) xk_108 xi_2 ew_2 (by decide +kernel) dX11_lot_18 dX11_lot_21 dX11_lot_22 dX11_lot_24 dX11_lot_27 (Nat.le_of_ble_eq_true rfl) (Nat.le_of_ble_eq_true rfl) ⟨2, (Option.some.inj h).symm, rfl⟩
def f_Quay_merchant (z : Nat) (v : Va) (a1 : Int32) (a2 : Int32) : Option (Int32 ⊕ Nat) := (f_Quay_isMerchant v a1).bind fun q2 => if (q_b q2) = 0 then (some (.inr 2)) else (if a2 < 0 then (some (.inr 2)) else (if a2 ≤ 5 then ((f_Stand_tellMerchant z v 97 a1 a2).bind fun q33 => some (.inl q33)) else (some (.inr 2))))
theorem c_Quay_merchant {a1 : Int32} {a2 : Int32} (hk : isQuay sh) (hX : EX Γ sh) (hlt : l.stackTraces = false) {q : Int32 ⊕ Nat} (h : f_Quay_merchant z v a1 a2 = some q) : MetX l yX11_merchant cX11_merchant 3 (some .int) 6 Γ sh v w n [.ref (Γ.2.1 + 0), .int a1, .int a2] (fun x u => q = .inl x ∧ u = v) (fun E => ∃ c, q = .inr c ∧ E = xn c) := by
  unfold f_Quay_merchant at h
  refine w_startX pn_X11 (Nat.le_of_ble_eq_true rfl) fun p e s m args below meth c hx hb hml hret hlk hnm hts hown hK hP hz hE hS ls hl hout => ?_
  refine lv_aload_n hx hb dX11_merchant_0 rfl (lv_at hl 0 rfl) ?_
  refine lv_iload_n hx hb dX11_merchant_1 rfl (lv_at hl 1 rfl) ?_
  obtain ⟨q2, e2, h⟩ := obn_e h
  refine z_Vi (k := 0) (r1 := (q_b q2)) (v1 := v) hx hb hml hts hown hK hP hS hz hE (c_Quay_isMerchant hk e2) kX11_isMerchant mX11_127 hk.1 rfl rfl rfl hl.1 (Nat.le_of_ble_eq_true rfl) ⟨Nat.le_of_ble_eq_true rfl, Nat.le_of_ble_eq_true rfl⟩ ⟨Nat.zero_le _, Nat.zero_le _⟩ dX11_merchant_2 fun H1 locs1 hz hP hS => ?_
  refine lv_if_eq (tgt := 17) hx hb dX11_merchant_5 rfl (fun hc5 => ?_) (fun hc5 => ?_)
  · have h := itt_e h hc5
    exact x_thr hx hb hlt hml hl.1 hts hown hP hS hz hE hX hlk hout (List.mem_of_getElem? (i := 4) rfl) xk_108 xi_2 ew_2 (by decide +kernel) dX11_merchant_17 dX11_merchant_20 dX11_merchant_21 dX11_merchant_23 dX11_merchant_26 (Nat.le_of_ble_eq_true rfl) (Nat.le_of_ble_eq_true rfl) ⟨2, (Option.some.inj h).symm, rfl⟩
  · have h := itf_e h hc5
    refine lv_iload_n hx hb dX11_merchant_8 rfl (lv_at hl 2 rfl) ?_
    refine lv_if_lt (tgt := 17) hx hb dX11_merchant_9 rfl (fun hc9 => ?_) (fun hc9 => ?_)
    · have h := itt_e h hc9
      exact x_thr hx hb hlt hml hl.1 hts hown hP hS hz hE hX hlk hout (List.mem_of_getElem? (i := 4) rfl) xk_108 xi_2 ew_2 (by decide +kernel) dX11_merchant_17 dX11_merchant_20 dX11_merchant_21 dX11_merchant_23 dX11_merchant_26 (Nat.le_of_ble_eq_true rfl) (Nat.le_of_ble_eq_true rfl) ⟨2, (Option.some.inj h).symm, rfl⟩
    · have h := itf_e h hc9
      refine lv_iload_n hx hb dX11_merchant_12 rfl (lv_at hl 2 rfl) ?_
      refine lv_iconst (v := 5) hx hb dX11_merchant_13 rfl ?_
      refine lv_icmp_le (tgt := 27) hx hb dX11_merchant_14 rfl (fun hc14 => ?_) (fun hc14 => ?_)
      · have h := itt_e h hc14
        refine lv_aload_n hx hb dX11_merchant_27 rfl (lv_at hl 0 rfl) ?_
        refine w_gr (k := 0) (r := 97) hx hb hts hown hK hP fX11_48 hk.1 rfl dX11_merchant_28 ?_
        refine lv_iload_n hx hb dX11_merchant_31 rfl (lv_at hl 1 rfl) ?_
        refine lv_iload_n hx hb dX11_merchant_32 rfl (lv_at hl 2 rfl) ?_
        obtain ⟨q33, e33, h⟩ := obn_e h
        refine z_Vi (k := 97) (r1 := q33) (v1 := v) hx hb hml hts hown hK hP hS hz hE (c_Stand_tellMerchant hk.2.2.2.2.2.1 e33) kX8_tellMerchant mX11_132 hk.2.2.2.2.2.1.1 rfl rfl rfl hl.1 (Nat.le_of_ble_eq_true rfl) ⟨Nat.le_of_ble_eq_true rfl, Nat.le_of_ble_eq_true rfl⟩ ⟨Nat.zero_le _, Nat.zero_le _⟩ dX11_merchant_33 fun H1 locs1 hz hP hS => ?_
        exact x_iret hx hb hret rfl hlk hK hP hS hz hE ⟨(Option.some.inj h).symm, rfl⟩ dX11_merchant_36
      · have h := itf_e h hc14
        exact x_thr hx hb hlt hml hl.1 hts hown hP hS hz hE hX hlk hout (List.mem_of_getElem? (i := 4) rfl) xk_108 xi_2 ew_2 (by decide +kernel) dX11_merchant_17 dX11_merchant_20 dX11_merchant_21 dX11_merchant_23 dX11_merchant_26 (Nat.le_of_ble_eq_true rfl) (Nat.le_of_ble_eq_true rfl) ⟨2, (Option.some.inj h).symm, rfl⟩
def f_Quay_guild (z : Nat) (v : Va) (a1 : Int32) (a2 : Int32) : Option (Int32 ⊕ Nat) := if a1 < 0 then (some (.inr 2)) else (if (v 61 1) ≤ a1 then (some (.inr 2)) else (if a2 < 0 then (some (.inr 2)) else (if a2 ≤ 3 then ((f_Stand_tellGuild z v 97 a1 a2).bind fun q40 => some (.inl q40)) else (some (.inr 2)))))
theorem c_Quay_guild {a1 : Int32} {a2 : Int32} (hk : isQuay sh) (hX : EX Γ sh) (hlt : l.stackTraces = false) {q : Int32 ⊕ Nat} (h : f_Quay_guild z v a1 a2 = some q) : MetX l yX11_guild cX11_guild 3 (some .int) 6 Γ sh v w n [.ref (Γ.2.1 + 0), .int a1, .int a2] (fun x u => q = .inl x ∧ u = v) (fun E => ∃ c, q = .inr c ∧ E = xn c) := by
  unfold f_Quay_guild at h
  refine w_startX pn_X11 (Nat.le_of_ble_eq_true rfl) fun p e s m args below meth c hx hb hml hret hlk hnm hts hown hK hP hz hE hS ls hl hout => ?_
  refine lv_iload_n hx hb dX11_guild_0 rfl (lv_at hl 1 rfl) ?_
  refine lv_if_lt (tgt := 24) hx hb dX11_guild_1 rfl (fun hc1 => ?_) (fun hc1 => ?_)
  · have h := itt_e h hc1
    exact x_thr hx hb hlt hml hl.1 hts hown hP hS hz hE hX hlk hout (List.mem_of_getElem? (i := 5) rfl) xk_108 xi_2 ew_2 (by decide +kernel) dX11_guild_24 dX11_guild_27 dX11_guild_28 dX11_guild_30 dX11_guild_33 (Nat.le_of_ble_eq_true rfl) (Nat.le_of_ble_eq_true rfl) ⟨2, (Option.some.inj h).symm, rfl⟩
  · have h := itf_e h hc1
    refine lv_iload_n hx hb dX11_guild_4 rfl (lv_at hl 1 rfl) ?_
    refine lv_aload_n hx hb dX11_guild_5 rfl (lv_at hl 0 rfl) ?_
    refine w_gr (k := 0) (r := 61) hx hb hts hown hK hP fX11_39 hk.1 rfl dX11_guild_6 ?_
    refine w_gi (k := 61) hx hb hts hown hK hP fX11_135 hk.2.2.2.2.1.1 rfl dX11_guild_9 ?_
    refine lv_icmp_ge (tgt := 24) hx hb dX11_guild_12 rfl (fun hc12 => ?_) (fun hc12 => ?_)
    · have h := itt_e h hc12
      exact x_thr hx hb hlt hml hl.1 hts hown hP hS hz hE hX hlk hout (List.mem_of_getElem? (i := 5) rfl) xk_108 xi_2 ew_2 (by decide +kernel) dX11_guild_24 dX11_guild_27 dX11_guild_28 dX11_guild_30 dX11_guild_33 (Nat.le_of_ble_eq_true rfl) (Nat.le_of_ble_eq_true rfl) ⟨2, (Option.some.inj h).symm, rfl⟩
    · have h := itf_e h hc12
      refine lv_iload_n hx hb dX11_guild_15 rfl (lv_at hl 2 rfl) ?_
      refine lv_if_lt (tgt := 24) hx hb dX11_guild_16 rfl (fun hc16 => ?_) (fun hc16 => ?_)
      · have h := itt_e h hc16
        exact x_thr hx hb hlt hml hl.1 hts hown hP hS hz hE hX hlk hout (List.mem_of_getElem? (i := 5) rfl) xk_108 xi_2 ew_2 (by decide +kernel) dX11_guild_24 dX11_guild_27 dX11_guild_28 dX11_guild_30 dX11_guild_33 (Nat.le_of_ble_eq_true rfl) (Nat.le_of_ble_eq_true rfl) ⟨2, (Option.some.inj h).symm, rfl⟩
      · have h := itf_e h hc16
        refine lv_iload_n hx hb dX11_guild_19 rfl (lv_at hl 2 rfl) ?_
        refine lv_iconst (v := 3) hx hb dX11_guild_20 rfl ?_
        refine lv_icmp_le (tgt := 34) hx hb dX11_guild_21 rfl (fun hc21 => ?_) (fun hc21 => ?_)
        · have h := itt_e h hc21
          refine lv_aload_n hx hb dX11_guild_34 rfl (lv_at hl 0 rfl) ?_
          refine w_gr (k := 0) (r := 97) hx hb hts hown hK hP fX11_48 hk.1 rfl dX11_guild_35 ?_
          refine lv_iload_n hx hb dX11_guild_38 rfl (lv_at hl 1 rfl) ?_
          refine lv_iload_n hx hb dX11_guild_39 rfl (lv_at hl 2 rfl) ?_
          obtain ⟨q40, e40, h⟩ := obn_e h
          refine z_Vi (k := 97) (r1 := q40) (v1 := v) hx hb hml hts hown hK hP hS hz hE (c_Stand_tellGuild hk.2.2.2.2.2.1 e40) kX8_tellGuild mX11_140 hk.2.2.2.2.2.1.1 rfl rfl rfl hl.1 (Nat.le_of_ble_eq_true rfl) ⟨Nat.le_of_ble_eq_true rfl, Nat.le_of_ble_eq_true rfl⟩ ⟨Nat.zero_le _, Nat.zero_le _⟩ dX11_guild_40 fun H1 locs1 hz hP hS => ?_
          exact x_iret hx hb hret rfl hlk hK hP hS hz hE ⟨(Option.some.inj h).symm, rfl⟩ dX11_guild_43
        · have h := itf_e h hc21
          exact x_thr hx hb hlt hml hl.1 hts hown hP hS hz hE hX hlk hout (List.mem_of_getElem? (i := 5) rfl) xk_108 xi_2 ew_2 (by decide +kernel) dX11_guild_24 dX11_guild_27 dX11_guild_28 dX11_guild_30 dX11_guild_33 (Nat.le_of_ble_eq_true rfl) (Nat.le_of_ble_eq_true rfl) ⟨2, (Option.some.inj h).symm, rfl⟩
def f_Quay_order (z : Nat) (v : Va) (a1 : Int32) (a2 : Int32) : Option ((Int32 × Va) ⊕ Nat) := if a1 < 0 then (some (.inr 2)) else (if (v 61 4) ≤ a1 then (some (.inr 2)) else (if a2 < 0 then (some (.inr 2)) else (if a2 ≤ 4 then ((f_Quay_tellOrder z v a1 a2).bind fun q37 => some (.inl (q37.1, q37.2))) else (some (.inr 2)))))
theorem c_Quay_order {a1 : Int32} {a2 : Int32} (hk : isQuay sh) (hX : EX Γ sh) (hlt : l.stackTraces = false) {q : (Int32 × Va) ⊕ Nat} (h : f_Quay_order z v a1 a2 = some q) : MetX l yX11_order cX11_order 3 (some .int) 6 Γ sh v w n [.ref (Γ.2.1 + 0), .int a1, .int a2] (fun x u => q = .inl (x, u)) (fun E => ∃ c, q = .inr c ∧ E = xn c) := by
  unfold f_Quay_order at h
  refine w_startX pn_X11 (Nat.le_of_ble_eq_true rfl) fun p e s m args below meth c hx hb hml hret hlk hnm hts hown hK hP hz hE hS ls hl hout => ?_
  refine lv_iload_n hx hb dX11_order_0 rfl (lv_at hl 1 rfl) ?_
  refine lv_if_lt (tgt := 24) hx hb dX11_order_1 rfl (fun hc1 => ?_) (fun hc1 => ?_)
  · have h := itt_e h hc1
    exact x_thr hx hb hlt hml hl.1 hts hown hP hS hz hE hX hlk hout (List.mem_of_getElem? (i := 6) rfl) xk_108 xi_2 ew_2 (by decide +kernel) dX11_order_24 dX11_order_27 dX11_order_28 dX11_order_30 dX11_order_33 (Nat.le_of_ble_eq_true rfl) (Nat.le_of_ble_eq_true rfl) ⟨2, (Option.some.inj h).symm, rfl⟩
  · have h := itf_e h hc1
    refine lv_iload_n hx hb dX11_order_4 rfl (lv_at hl 1 rfl) ?_
    refine lv_aload_n hx hb dX11_order_5 rfl (lv_at hl 0 rfl) ?_
    refine w_gr (k := 0) (r := 61) hx hb hts hown hK hP fX11_39 hk.1 rfl dX11_order_6 ?_
    refine w_gi (k := 61) hx hb hts hown hK hP fX11_143 hk.2.2.2.2.1.1 rfl dX11_order_9 ?_
    refine lv_icmp_ge (tgt := 24) hx hb dX11_order_12 rfl (fun hc12 => ?_) (fun hc12 => ?_)
    · have h := itt_e h hc12
      exact x_thr hx hb hlt hml hl.1 hts hown hP hS hz hE hX hlk hout (List.mem_of_getElem? (i := 6) rfl) xk_108 xi_2 ew_2 (by decide +kernel) dX11_order_24 dX11_order_27 dX11_order_28 dX11_order_30 dX11_order_33 (Nat.le_of_ble_eq_true rfl) (Nat.le_of_ble_eq_true rfl) ⟨2, (Option.some.inj h).symm, rfl⟩
    · have h := itf_e h hc12
      refine lv_iload_n hx hb dX11_order_15 rfl (lv_at hl 2 rfl) ?_
      refine lv_if_lt (tgt := 24) hx hb dX11_order_16 rfl (fun hc16 => ?_) (fun hc16 => ?_)
      · have h := itt_e h hc16
        exact x_thr hx hb hlt hml hl.1 hts hown hP hS hz hE hX hlk hout (List.mem_of_getElem? (i := 6) rfl) xk_108 xi_2 ew_2 (by decide +kernel) dX11_order_24 dX11_order_27 dX11_order_28 dX11_order_30 dX11_order_33 (Nat.le_of_ble_eq_true rfl) (Nat.le_of_ble_eq_true rfl) ⟨2, (Option.some.inj h).symm, rfl⟩
      · have h := itf_e h hc16
        refine lv_iload_n hx hb dX11_order_19 rfl (lv_at hl 2 rfl) ?_
        refine lv_iconst (v := 4) hx hb dX11_order_20 rfl ?_
        refine lv_icmp_le (tgt := 34) hx hb dX11_order_21 rfl (fun hc21 => ?_) (fun hc21 => ?_)
        · have h := itt_e h hc21
          refine lv_aload_n hx hb dX11_order_34 rfl (lv_at hl 0 rfl) ?_
          refine lv_iload_n hx hb dX11_order_35 rfl (lv_at hl 1 rfl) ?_
          refine lv_iload_n hx hb dX11_order_36 rfl (lv_at hl 2 rfl) ?_
          obtain ⟨q37, e37, h⟩ := obn_e h
          refine z_Vi (k := 0) (r1 := q37.1) (v1 := q37.2) hx hb hml hts hown hK hP hS hz hE (c_Quay_tellOrder hk e37) kX11_tellOrder mX11_148 hk.1 rfl rfl rfl hl.1 (Nat.le_of_ble_eq_true rfl) ⟨Nat.le_of_ble_eq_true rfl, Nat.le_of_ble_eq_true rfl⟩ ⟨Nat.zero_le _, Nat.zero_le _⟩ dX11_order_37 fun H1 locs1 hz hP hS => ?_
          exact x_iret hx hb hret rfl hlk hK hP hS hz hE (Option.some.inj h).symm dX11_order_40
        · have h := itf_e h hc21
          exact x_thr hx hb hlt hml hl.1 hts hown hP hS hz hE hX hlk hout (List.mem_of_getElem? (i := 6) rfl) xk_108 xi_2 ew_2 (by decide +kernel) dX11_order_24 dX11_order_27 dX11_order_28 dX11_order_30 dX11_order_33 (Nat.le_of_ble_eq_true rfl) (Nat.le_of_ble_eq_true rfl) ⟨2, (Option.some.inj h).symm, rfl⟩
def f_Quay_owes (v : Va) (a1 : Int32) (a2 : Int32) : Option (Int32 ⊕ Nat) := (f_Quay_isMerchant v a1).bind fun q2 => if (q_b q2) = 0 then (some (.inr 2)) else ((f_Quay_isMerchant v a2).bind fun q10 => if (q_b q10) = 0 then (some (.inr 2)) else ((f_Debts_between v 110 a1 a2).bind fun q35 => some (.inl q35)))
theorem c_Quay_owes {a1 : Int32} {a2 : Int32} (hk : isQuay sh) (hX : EX Γ sh) (hlt : l.stackTraces = false) {q : Int32 ⊕ Nat} (h : f_Quay_owes v a1 a2 = some q) : MetX l yX11_owes cX11_owes 3 (some .int) 6 Γ sh v w n [.ref (Γ.2.1 + 0), .int a1, .int a2] (fun x u => q = .inl x ∧ u = v) (fun E => ∃ c, q = .inr c ∧ E = xn c) := by
  unfold f_Quay_owes at h
  refine w_startX pn_X11 (Nat.le_of_ble_eq_true rfl) fun p e s m args below meth c hx hb hml hret hlk hnm hts hown hK hP hz hE hS ls hl hout => ?_
  refine lv_aload_n hx hb dX11_owes_0 rfl (lv_at hl 0 rfl) ?_
  refine lv_iload_n hx hb dX11_owes_1 rfl (lv_at hl 1 rfl) ?_
  obtain ⟨q2, e2, h⟩ := obn_e h
  refine z_Vi (k := 0) (r1 := (q_b q2)) (v1 := v) hx hb hml hts hown hK hP hS hz hE (c_Quay_isMerchant hk e2) kX11_isMerchant mX11_127 hk.1 rfl rfl rfl hl.1 (Nat.le_of_ble_eq_true rfl) ⟨Nat.le_of_ble_eq_true rfl, Nat.le_of_ble_eq_true rfl⟩ ⟨Nat.zero_le _, Nat.zero_le _⟩ dX11_owes_2 fun H1 locs1 hz hP hS => ?_
  refine lv_if_eq (tgt := 16) hx hb dX11_owes_5 rfl (fun hc5 => ?_) (fun hc5 => ?_)
  · have h := itt_e h hc5
    exact x_thr hx hb hlt hml hl.1 hts hown hP hS hz hE hX hlk hout (List.mem_of_getElem? (i := 7) rfl) xk_108 xi_2 ew_2 (by decide +kernel) dX11_owes_16 dX11_owes_19 dX11_owes_20 dX11_owes_22 dX11_owes_25 (Nat.le_of_ble_eq_true rfl) (Nat.le_of_ble_eq_true rfl) ⟨2, (Option.some.inj h).symm, rfl⟩
  · have h := itf_e h hc5
    refine lv_aload_n hx hb dX11_owes_8 rfl (lv_at hl 0 rfl) ?_
    refine lv_iload_n hx hb dX11_owes_9 rfl (lv_at hl 2 rfl) ?_
    obtain ⟨q10, e10, h⟩ := obn_e h
    refine z_Vi (k := 0) (r1 := (q_b q10)) (v1 := v) hx hb hml hts hown hK hP hS hz hE (c_Quay_isMerchant hk e10) kX11_isMerchant mX11_127 hk.1 rfl rfl rfl hl.1 (Nat.le_of_ble_eq_true rfl) ⟨Nat.le_of_ble_eq_true rfl, Nat.le_of_ble_eq_true rfl⟩ ⟨Nat.zero_le _, Nat.zero_le _⟩ dX11_owes_10 fun H1 locs1 hz hP hS => ?_
    refine lv_if_ne (tgt := 26) hx hb dX11_owes_13 rfl (fun hc13 => ?_) (fun hc13 => ?_)
    · have h := itf_e h hc13
      refine lv_aload_n hx hb dX11_owes_26 rfl (lv_at hl 0 rfl) ?_
      refine w_gr (k := 0) (r := 97) hx hb hts hown hK hP fX11_48 hk.1 rfl dX11_owes_27 ?_
      refine w_gr (k := 97) (r := 110) hx hb hts hown hK hP fX11_153 hk.2.2.2.2.2.1.1 rfl dX11_owes_30 ?_
      refine lv_iload_n hx hb dX11_owes_33 rfl (lv_at hl 1 rfl) ?_
      refine lv_iload_n hx hb dX11_owes_34 rfl (lv_at hl 2 rfl) ?_
      obtain ⟨q35, e35, h⟩ := obn_e h
      refine z_Vi (k := 110) (r1 := q35) (v1 := v) hx hb hml hts hown hK hP hS hz hE (c_Debts_between hk.2.2.2.2.2.1.2.2.2.2.2.2.2.2.1 e35) kX1_between mX11_157 hk.2.2.2.2.2.1.2.2.2.2.2.2.2.2.1.1 rfl rfl rfl hl.1 (Nat.le_of_ble_eq_true rfl) ⟨Nat.le_of_ble_eq_true rfl, Nat.le_of_ble_eq_true rfl⟩ ⟨Nat.zero_le _, Nat.zero_le _⟩ dX11_owes_35 fun H1 locs1 hz hP hS => ?_
      exact x_iret hx hb hret rfl hlk hK hP hS hz hE ⟨(Option.some.inj h).symm, rfl⟩ dX11_owes_38
    · have h := itt_e h hc13
      exact x_thr hx hb hlt hml hl.1 hts hown hP hS hz hE hX hlk hout (List.mem_of_getElem? (i := 7) rfl) xk_108 xi_2 ew_2 (by decide +kernel) dX11_owes_16 dX11_owes_19 dX11_owes_20 dX11_owes_22 dX11_owes_25 (Nat.le_of_ble_eq_true rfl) (Nat.le_of_ble_eq_true rfl) ⟨2, (Option.some.inj h).symm, rfl⟩
def f_Quay_chain (z : Nat) (v : Va) (a1 : Int32) (a2 : Int32) : Option ((Int32 × Va) ⊕ Nat) := (f_Quay_isMerchant v a1).bind fun q2 => if (q_b q2) = 0 then (some (.inr 2)) else ((f_Quay_isMerchant v a2).bind fun q10 => if (q_b q10) = 0 then (some (.inr 2)) else ((f_Debts_fewestFromTo z v 110 a1 a2).bind fun q35 => some (.inl (q35.1, q35.2))))
theorem c_Quay_chain {a1 : Int32} {a2 : Int32} (hk : isQuay sh) (hX : EX Γ sh) (hlt : l.stackTraces = false) {q : (Int32 × Va) ⊕ Nat} (h : f_Quay_chain z v a1 a2 = some q) : MetX l yX11_chain cX11_chain 3 (some .int) 6 Γ sh v w n [.ref (Γ.2.1 + 0), .int a1, .int a2] (fun x u => q = .inl (x, u)) (fun E => ∃ c, q = .inr c ∧ E = xn c) := by
  unfold f_Quay_chain at h
  refine w_startX pn_X11 (Nat.le_of_ble_eq_true rfl) fun p e s m args below meth c hx hb hml hret hlk hnm hts hown hK hP hz hE hS ls hl hout => ?_
  refine lv_aload_n hx hb dX11_chain_0 rfl (lv_at hl 0 rfl) ?_
  refine lv_iload_n hx hb dX11_chain_1 rfl (lv_at hl 1 rfl) ?_
  obtain ⟨q2, e2, h⟩ := obn_e h
  refine z_Vi (k := 0) (r1 := (q_b q2)) (v1 := v) hx hb hml hts hown hK hP hS hz hE (c_Quay_isMerchant hk e2) kX11_isMerchant mX11_127 hk.1 rfl rfl rfl hl.1 (Nat.le_of_ble_eq_true rfl) ⟨Nat.le_of_ble_eq_true rfl, Nat.le_of_ble_eq_true rfl⟩ ⟨Nat.zero_le _, Nat.zero_le _⟩ dX11_chain_2 fun H1 locs1 hz hP hS => ?_
  refine lv_if_eq (tgt := 16) hx hb dX11_chain_5 rfl (fun hc5 => ?_) (fun hc5 => ?_)
  · have h := itt_e h hc5
    exact x_thr hx hb hlt hml hl.1 hts hown hP hS hz hE hX hlk hout (List.mem_of_getElem? (i := 7) rfl) xk_108 xi_2 ew_2 (by decide +kernel) dX11_chain_16 dX11_chain_19 dX11_chain_20 dX11_chain_22 dX11_chain_25 (Nat.le_of_ble_eq_true rfl) (Nat.le_of_ble_eq_true rfl) ⟨2, (Option.some.inj h).symm, rfl⟩
  · have h := itf_e h hc5
    refine lv_aload_n hx hb dX11_chain_8 rfl (lv_at hl 0 rfl) ?_
    refine lv_iload_n hx hb dX11_chain_9 rfl (lv_at hl 2 rfl) ?_
    obtain ⟨q10, e10, h⟩ := obn_e h
    refine z_Vi (k := 0) (r1 := (q_b q10)) (v1 := v) hx hb hml hts hown hK hP hS hz hE (c_Quay_isMerchant hk e10) kX11_isMerchant mX11_127 hk.1 rfl rfl rfl hl.1 (Nat.le_of_ble_eq_true rfl) ⟨Nat.le_of_ble_eq_true rfl, Nat.le_of_ble_eq_true rfl⟩ ⟨Nat.zero_le _, Nat.zero_le _⟩ dX11_chain_10 fun H1 locs1 hz hP hS => ?_
    refine lv_if_ne (tgt := 26) hx hb dX11_chain_13 rfl (fun hc13 => ?_) (fun hc13 => ?_)
    · have h := itf_e h hc13
      refine lv_aload_n hx hb dX11_chain_26 rfl (lv_at hl 0 rfl) ?_
      refine w_gr (k := 0) (r := 97) hx hb hts hown hK hP fX11_48 hk.1 rfl dX11_chain_27 ?_
      refine w_gr (k := 97) (r := 110) hx hb hts hown hK hP fX11_153 hk.2.2.2.2.2.1.1 rfl dX11_chain_30 ?_
      refine lv_iload_n hx hb dX11_chain_33 rfl (lv_at hl 1 rfl) ?_
      refine lv_iload_n hx hb dX11_chain_34 rfl (lv_at hl 2 rfl) ?_
      obtain ⟨q35, e35, h⟩ := obn_e h
      refine z_Vi (k := 110) (r1 := q35.1) (v1 := q35.2) hx hb hml hts hown hK hP hS hz hE (c_Debts_fewestFromTo hk.2.2.2.2.2.1.2.2.2.2.2.2.2.2.1 e35) kX1_fewestFromTo mX11_162 hk.2.2.2.2.2.1.2.2.2.2.2.2.2.2.1.1 rfl rfl rfl hl.1 (Nat.le_of_ble_eq_true rfl) ⟨Nat.le_of_ble_eq_true rfl, Nat.le_of_ble_eq_true rfl⟩ ⟨Nat.zero_le _, Nat.zero_le _⟩ dX11_chain_35 fun H1 locs1 hz hP hS => ?_
      exact x_iret hx hb hret rfl hlk hK hP hS hz hE (Option.some.inj h).symm dX11_chain_38
    · have h := itt_e h hc13
      exact x_thr hx hb hlt hml hl.1 hts hown hP hS hz hE hX hlk hout (List.mem_of_getElem? (i := 7) rfl) xk_108 xi_2 ew_2 (by decide +kernel) dX11_chain_16 dX11_chain_19 dX11_chain_20 dX11_chain_22 dX11_chain_25 (Nat.le_of_ble_eq_true rfl) (Nat.le_of_ble_eq_true rfl) ⟨2, (Option.some.inj h).symm, rfl⟩
def f_Quay_ring (z : Nat) (v : Va) (a1 : Int32) : Option ((Int32 × Va) ⊕ Nat) := (f_Quay_isMerchant v a1).bind fun q2 => if (q_b q2) = 0 then (some (.inr 2)) else ((f_Debts_widestRing z v 110 a1).bind fun q26 => some (.inl (q26.1, q26.2)))
theorem c_Quay_ring {a1 : Int32} (hk : isQuay sh) (hX : EX Γ sh) (hlt : l.stackTraces = false) {q : (Int32 × Va) ⊕ Nat} (h : f_Quay_ring z v a1 = some q) : MetX l yX11_ring cX11_ring 2 (some .int) 6 Γ sh v w n [.ref (Γ.2.1 + 0), .int a1] (fun x u => q = .inl (x, u)) (fun E => ∃ c, q = .inr c ∧ E = xn c) := by
  unfold f_Quay_ring at h
  refine w_startX pn_X11 (Nat.le_of_ble_eq_true rfl) fun p e s m args below meth c hx hb hml hret hlk hnm hts hown hK hP hz hE hS ls hl hout => ?_
  refine lv_aload_n hx hb dX11_ring_0 rfl (lv_at hl 0 rfl) ?_
  refine lv_iload_n hx hb dX11_ring_1 rfl (lv_at hl 1 rfl) ?_
  obtain ⟨q2, e2, h⟩ := obn_e h
  refine z_Vi (k := 0) (r1 := (q_b q2)) (v1 := v) hx hb hml hts hown hK hP hS hz hE (c_Quay_isMerchant hk e2) kX11_isMerchant mX11_127 hk.1 rfl rfl rfl hl.1 (Nat.le_of_ble_eq_true rfl) ⟨Nat.le_of_ble_eq_true rfl, Nat.le_of_ble_eq_true rfl⟩ ⟨Nat.zero_le _, Nat.zero_le _⟩ dX11_ring_2 fun H1 locs1 hz hP hS => ?_
  refine lv_if_ne (tgt := 18) hx hb dX11_ring_5 rfl (fun hc5 => ?_) (fun hc5 => ?_)
  · have h := itf_e h hc5
    refine lv_aload_n hx hb dX11_ring_18 rfl (lv_at hl 0 rfl) ?_
    refine w_gr (k := 0) (r := 97) hx hb hts hown hK hP fX11_48 hk.1 rfl dX11_ring_19 ?_
    refine w_gr (k := 97) (r := 110) hx hb hts hown hK hP fX11_153 hk.2.2.2.2.2.1.1 rfl dX11_ring_22 ?_
    refine lv_iload_n hx hb dX11_ring_25 rfl (lv_at hl 1 rfl) ?_
    obtain ⟨q26, e26, h⟩ := obn_e h
    refine z_Vi (k := 110) (r1 := q26.1) (v1 := q26.2) hx hb hml hts hown hK hP hS hz hE (c_Debts_widestRing hk.2.2.2.2.2.1.2.2.2.2.2.2.2.2.1 e26) kX1_widestRing mX11_165 hk.2.2.2.2.2.1.2.2.2.2.2.2.2.2.1.1 rfl rfl rfl hl.1 (Nat.le_of_ble_eq_true rfl) ⟨Nat.le_of_ble_eq_true rfl, Nat.le_of_ble_eq_true rfl⟩ ⟨Nat.zero_le _, Nat.zero_le _⟩ dX11_ring_26 fun H1 locs1 hz hP hS => ?_
    exact x_iret hx hb hret rfl hlk hK hP hS hz hE (Option.some.inj h).symm dX11_ring_29
  · have h := itt_e h hc5
    exact x_thr hx hb hlt hml hl.1 hts hown hP hS hz hE hX hlk hout (List.mem_of_getElem? (i := 7) rfl) xk_108 xi_2 ew_2 (by decide +kernel) dX11_ring_8 dX11_ring_11 dX11_ring_12 dX11_ring_14 dX11_ring_17 (Nat.le_of_ble_eq_true rfl) (Nat.le_of_ble_eq_true rfl) ⟨2, (Option.some.inj h).symm, rfl⟩
def f_Quay_setDamp (v : Va) (a1 : Int32) : Option ((Int32 × Va) ⊕ Nat) := if a1 < 0 then (some (.inr 1)) else (if a1 ≤ 9 then (bnd (pu v 97 2 a1) fun v33 => some (.inl ((v 97 2), v33))) else (some (.inr 1)))
theorem c_Quay_setDamp {a1 : Int32} (hk : isQuay sh) (hX : EX Γ sh) (hlt : l.stackTraces = false) {q : (Int32 × Va) ⊕ Nat} (h : f_Quay_setDamp v a1 = some q) : MetX l yX11_setDamp cX11_setDamp 3 (some .int) 6 Γ sh v w n [.ref (Γ.2.1 + 0), .int a1] (fun x u => q = .inl (x, u)) (fun E => ∃ c, q = .inr c ∧ E = xn c) := by
  unfold f_Quay_setDamp at h
  refine w_startX pn_X11 (Nat.le_of_ble_eq_true rfl) fun p e s m args below meth c hx hb hml hret hlk hnm hts hown hK hP hz hE hS ls hl hout => ?_
  refine lv_iload_n hx hb dX11_setDamp_0 rfl (lv_at hl 1 rfl) ?_
  refine lv_if_lt (tgt := 10) hx hb dX11_setDamp_1 rfl (fun hc1 => ?_) (fun hc1 => ?_)
  · have h := itt_e h hc1
    exact x_thr hx hb hlt hml hl.1 hts hown hP hS hz hE hX hlk hout (List.mem_of_getElem? (i := 8) rfl) xk_84 xi_1 ew_1 (by decide +kernel) dX11_setDamp_10 dX11_setDamp_13 dX11_setDamp_14 dX11_setDamp_16 dX11_setDamp_19 (Nat.le_of_ble_eq_true rfl) (Nat.le_of_ble_eq_true rfl) ⟨1, (Option.some.inj h).symm, rfl⟩
  · have h := itf_e h hc1
    refine lv_iload_n hx hb dX11_setDamp_4 rfl (lv_at hl 1 rfl) ?_
    refine lv_bipush (v := 9) hx hb dX11_setDamp_5 rfl ?_
    refine lv_icmp_le (tgt := 20) hx hb dX11_setDamp_7 rfl (fun hc7 => ?_) (fun hc7 => ?_)
    · have h := itt_e h hc7
      refine lv_aload_n hx hb dX11_setDamp_20 rfl (lv_at hl 0 rfl) ?_
      refine w_gr (k := 0) (r := 97) hx hb hts hown hK hP fX11_48 hk.1 rfl dX11_setDamp_21 ?_
      refine w_gi (k := 97) hx hb hts hown hK hP fX11_170 hk.2.2.2.2.2.1.1 rfl dX11_setDamp_24 ?_
      refine lv_istore_n (lv' := [(2, .int (v 97 2)), (0, .ref (Γ.2.1 + 0)), (1, .int a1)]) hx hb dX11_setDamp_27 rfl hl (by decide) rfl fun ls hl => ?_
      refine lv_aload_n hx hb dX11_setDamp_28 rfl (lv_at hl 1 rfl) ?_
      refine w_gr (k := 0) (r := 97) hx hb hts hown hK hP fX11_48 hk.1 rfl dX11_setDamp_29 ?_
      refine lv_iload_n hx hb dX11_setDamp_32 rfl (lv_at hl 2 rfl) ?_
      obtain ⟨v33, e33, h⟩ := bnd_e h
      refine w_pi2 (k := 97) hx hb hts hown hK hP hS hz fX11_170 hk.2.2.2.2.2.1.1 rfl e33 dX11_setDamp_33 fun H1 locs1 hz hP hS => ?_
      refine lv_iload_n hx hb dX11_setDamp_36 rfl (lv_at hl 0 rfl) ?_
      exact x_iret hx hb hret rfl hlk hK hP hS hz hE (Option.some.inj h).symm dX11_setDamp_37
    · have h := itf_e h hc7
      exact x_thr hx hb hlt hml hl.1 hts hown hP hS hz hE hX hlk hout (List.mem_of_getElem? (i := 8) rfl) xk_84 xi_1 ew_1 (by decide +kernel) dX11_setDamp_10 dX11_setDamp_13 dX11_setDamp_14 dX11_setDamp_16 dX11_setDamp_19 (Nat.le_of_ble_eq_true rfl) (Nat.le_of_ble_eq_true rfl) ⟨1, (Option.some.inj h).symm, rfl⟩
def f_Quay_lend (z : Nat) (v : Va) (a1 : Int32) (a2 : Int32) (a3 : Int32) : Option ((Int32 × Va) ⊕ Nat) := (f_Quay_isMerchant v a1).bind fun q2 => if (q_b q2) = 0 then (some (.inr 2)) else ((f_Quay_isMerchant v a2).bind fun q10 => if (q_b q10) = 0 then (some (.inr 2)) else (if a1 = a2 then (some (.inr 1)) else (if a3 < 1 then (some (.inr 1)) else (if a3 ≤ 9999 then (bnd (row_g 6 (v 109) a1) fun q61 => if q61 < a3 then (some (.inr 0)) else ((f_Debts_sumOf z v 110 a2).bind fun q76 => bnd (row_g 6 (v 71) a2) fun q89 => if (q76 + a3) ≤ q89 then ((f_Stand_moveCoins v 97 a1 a2 a3).bind fun q112 => (f_Debts_grow q112 110 a2 a1 a3).bind fun q125 => (f_Debts_between q125 110 a2 a1).bind fun q137 => some (.inl (q137, q125))) else (some (.inr 0)))) else (some (.inr 1))))))
theorem c_Quay_lend {a1 : Int32} {a2 : Int32} {a3 : Int32} (hk : isQuay sh) (hX : EX Γ sh) (hlt : l.stackTraces = false) {q : (Int32 × Va) ⊕ Nat} (h : f_Quay_lend z v a1 a2 a3 = some q) : MetX l yX11_lend cX11_lend 4 (some .int) 6 Γ sh v w n [.ref (Γ.2.1 + 0), .int a1, .int a2, .int a3] (fun x u => q = .inl (x, u)) (fun E => ∃ c, q = .inr c ∧ E = xn c) := by
  unfold f_Quay_lend at h
  refine w_startX pn_X11 (Nat.le_of_ble_eq_true rfl) fun p e s m args below meth c hx hb hml hret hlk hnm hts hown hK hP hz hE hS ls hl hout => ?_
  refine lv_aload_n hx hb dX11_lend_0 rfl (lv_at hl 0 rfl) ?_
  refine lv_iload_n hx hb dX11_lend_1 rfl (lv_at hl 1 rfl) ?_
  obtain ⟨q2, e2, h⟩ := obn_e h
  refine z_Vi (k := 0) (r1 := (q_b q2)) (v1 := v) hx hb hml hts hown hK hP hS hz hE (c_Quay_isMerchant hk e2) kX11_isMerchant mX11_127 hk.1 rfl rfl rfl hl.1 (Nat.le_of_ble_eq_true rfl) ⟨Nat.le_of_ble_eq_true rfl, Nat.le_of_ble_eq_true rfl⟩ ⟨Nat.zero_le _, Nat.zero_le _⟩ dX11_lend_2 fun H1 locs1 hz hP hS => ?_
  refine lv_if_eq (tgt := 16) hx hb dX11_lend_5 rfl (fun hc5 => ?_) (fun hc5 => ?_)
  · have h := itt_e h hc5
    exact x_thr hx hb hlt hml hl.1 hts hown hP hS hz hE hX hlk hout (List.mem_of_getElem? (i := 7) rfl) xk_108 xi_2 ew_2 (by decide +kernel) dX11_lend_16 dX11_lend_19 dX11_lend_20 dX11_lend_22 dX11_lend_25 (Nat.le_of_ble_eq_true rfl) (Nat.le_of_ble_eq_true rfl) ⟨2, (Option.some.inj h).symm, rfl⟩
  · have h := itf_e h hc5
    refine lv_aload_n hx hb dX11_lend_8 rfl (lv_at hl 0 rfl) ?_
    refine lv_iload_n hx hb dX11_lend_9 rfl (lv_at hl 2 rfl) ?_
    obtain ⟨q10, e10, h⟩ := obn_e h
    refine z_Vi (k := 0) (r1 := (q_b q10)) (v1 := v) hx hb hml hts hown hK hP hS hz hE (c_Quay_isMerchant hk e10) kX11_isMerchant mX11_127 hk.1 rfl rfl rfl hl.1 (Nat.le_of_ble_eq_true rfl) ⟨Nat.le_of_ble_eq_true rfl, Nat.le_of_ble_eq_true rfl⟩ ⟨Nat.zero_le _, Nat.zero_le _⟩ dX11_lend_10 fun H1 locs1 hz hP hS => ?_
    refine lv_if_ne (tgt := 26) hx hb dX11_lend_13 rfl (fun hc13 => ?_) (fun hc13 => ?_)
    · have h := itf_e h hc13
      refine lv_iload_n hx hb dX11_lend_26 rfl (lv_at hl 1 rfl) ?_
      refine lv_iload_n hx hb dX11_lend_27 rfl (lv_at hl 2 rfl) ?_
      refine lv_icmp_eq (tgt := 43) hx hb dX11_lend_28 rfl (fun hc28 => ?_) (fun hc28 => ?_)
      · have h := itt_e h hc28
        exact x_thr hx hb hlt hml hl.1 hts hown hP hS hz hE hX hlk hout (List.mem_of_getElem? (i := 9) rfl) xk_84 xi_1 ew_1 (by decide +kernel) dX11_lend_43 dX11_lend_46 dX11_lend_47 dX11_lend_49 dX11_lend_52 (Nat.le_of_ble_eq_true rfl) (Nat.le_of_ble_eq_true rfl) ⟨1, (Option.some.inj h).symm, rfl⟩
      · have h := itf_e h hc28
        refine lv_iload_n hx hb dX11_lend_31 rfl (lv_at hl 3 rfl) ?_
        refine lv_iconst (v := 1) hx hb dX11_lend_32 rfl ?_
        refine lv_icmp_lt (tgt := 43) hx hb dX11_lend_33 rfl (fun hc33 => ?_) (fun hc33 => ?_)
        · have h := itt_e h hc33
          exact x_thr hx hb hlt hml hl.1 hts hown hP hS hz hE hX hlk hout (List.mem_of_getElem? (i := 9) rfl) xk_84 xi_1 ew_1 (by decide +kernel) dX11_lend_43 dX11_lend_46 dX11_lend_47 dX11_lend_49 dX11_lend_52 (Nat.le_of_ble_eq_true rfl) (Nat.le_of_ble_eq_true rfl) ⟨1, (Option.some.inj h).symm, rfl⟩
        · have h := itf_e h hc33
          refine lv_iload_n hx hb dX11_lend_36 rfl (lv_at hl 3 rfl) ?_
          refine lv_sipush (v := 9999) hx hb dX11_lend_37 rfl ?_
          refine lv_icmp_le (tgt := 53) hx hb dX11_lend_40 rfl (fun hc40 => ?_) (fun hc40 => ?_)
          · have h := itt_e h hc40
            refine lv_aload_n hx hb dX11_lend_53 rfl (lv_at hl 0 rfl) ?_
            refine w_gr (k := 0) (r := 97) hx hb hts hown hK hP fX11_48 hk.1 rfl dX11_lend_54 ?_
            refine w_gr (k := 97) (r := 108) hx hb hts hown hK hP fX11_175 hk.2.2.2.2.2.1.1 rfl dX11_lend_57 ?_
            refine lv_iload_n hx hb dX11_lend_60 rfl (lv_at hl 1 rfl) ?_
            obtain ⟨q61, e61, h⟩ := bnd_e h
            refine z_Vi (k := 108) (r1 := q61) (v1 := v) hx hb hml hts hown hK hP hS hz hE (C_Row_get hk.2.2.2.2.2.1.2.2.2.2.2.2.2.1 e61) kX7_get mX11_178 hk.2.2.2.2.2.1.2.2.2.2.2.2.2.1.1 rfl rfl rfl hl.1 (Nat.le_of_ble_eq_true rfl) ⟨Nat.le_of_ble_eq_true rfl, Nat.le_of_ble_eq_true rfl⟩ ⟨Nat.zero_le _, Nat.zero_le _⟩ dX11_lend_61 fun H1 locs1 hz hP hS => ?_
            refine lv_iload_n hx hb dX11_lend_64 rfl (lv_at hl 3 rfl) ?_
            refine lv_icmp_lt (tgt := 95) hx hb dX11_lend_65 rfl (fun hc65 => ?_) (fun hc65 => ?_)
            · have h := itt_e h hc65
              exact x_thr hx hb hlt hml hl.1 hts hown hP hS hz hE hX hlk hout (List.mem_of_getElem? (i := 10) rfl) xk_74 xi_0 ew_0 (by decide +kernel) dX11_lend_95 dX11_lend_98 dX11_lend_99 dX11_lend_101 dX11_lend_104 (Nat.le_of_ble_eq_true rfl) (Nat.le_of_ble_eq_true rfl) ⟨0, (Option.some.inj h).symm, rfl⟩
            · have h := itf_e h hc65
              refine lv_aload_n hx hb dX11_lend_68 rfl (lv_at hl 0 rfl) ?_
              refine w_gr (k := 0) (r := 97) hx hb hts hown hK hP fX11_48 hk.1 rfl dX11_lend_69 ?_
              refine w_gr (k := 97) (r := 110) hx hb hts hown hK hP fX11_153 hk.2.2.2.2.2.1.1 rfl dX11_lend_72 ?_
              refine lv_iload_n hx hb dX11_lend_75 rfl (lv_at hl 2 rfl) ?_
              obtain ⟨q76, e76, h⟩ := obn_e h
              refine z_Vi (k := 110) (r1 := q76) (v1 := v) hx hb hml hts hown hK hP hS hz hE (c_Debts_sumOf hk.2.2.2.2.2.1.2.2.2.2.2.2.2.2.1 e76) kX1_sumOf mX11_181 hk.2.2.2.2.2.1.2.2.2.2.2.2.2.2.1.1 rfl rfl rfl hl.1 (Nat.le_of_ble_eq_true rfl) ⟨Nat.le_of_ble_eq_true rfl, Nat.le_of_ble_eq_true rfl⟩ ⟨Nat.zero_le _, Nat.zero_le _⟩ dX11_lend_76 fun H1 locs1 hz hP hS => ?_
              refine lv_iload_n hx hb dX11_lend_79 rfl (lv_at hl 3 rfl) ?_
              refine lv_iadd hx hb dX11_lend_80 ?_
              refine lv_aload_n hx hb dX11_lend_81 rfl (lv_at hl 0 rfl) ?_
              refine w_gr (k := 0) (r := 61) hx hb hts hown hK hP fX11_39 hk.1 rfl dX11_lend_82 ?_
              refine w_gr (k := 61) (r := 70) hx hb hts hown hK hP fX11_184 hk.2.2.2.2.1.1 rfl dX11_lend_85 ?_
              refine lv_iload_n hx hb dX11_lend_88 rfl (lv_at hl 2 rfl) ?_
              obtain ⟨q89, e89, h⟩ := bnd_e h
              refine z_Vi (k := 70) (r1 := q89) (v1 := v) hx hb hml hts hown hK hP hS hz hE (C_Row_get hk.2.2.2.2.1.2.2.2.2.2.1 e89) kX7_get mX11_178 hk.2.2.2.2.1.2.2.2.2.2.1.1 rfl rfl rfl hl.1 (Nat.le_of_ble_eq_true rfl) ⟨Nat.le_of_ble_eq_true rfl, Nat.le_of_ble_eq_true rfl⟩ ⟨Nat.zero_le _, Nat.zero_le _⟩ dX11_lend_89 fun H1 locs1 hz hP hS => ?_
              refine lv_icmp_le (tgt := 105) hx hb dX11_lend_92 rfl (fun hc92 => ?_) (fun hc92 => ?_)
              · have h := itt_e h hc92
                refine lv_aload_n hx hb dX11_lend_105 rfl (lv_at hl 0 rfl) ?_
                refine w_gr (k := 0) (r := 97) hx hb hts hown hK hP fX11_48 hk.1 rfl dX11_lend_106 ?_
                refine lv_iload_n hx hb dX11_lend_109 rfl (lv_at hl 1 rfl) ?_
                refine lv_iload_n hx hb dX11_lend_110 rfl (lv_at hl 2 rfl) ?_
                refine lv_iload_n hx hb dX11_lend_111 rfl (lv_at hl 3 rfl) ?_
                obtain ⟨q112, e112, h⟩ := obn_e h
                refine z_Vv (k := 97) (v1 := q112) hx hb hml hts hown hK hP hS hz hE (c_Stand_moveCoins hk.2.2.2.2.2.1 e112) kX8_moveCoins mX11_189 hk.2.2.2.2.2.1.1 rfl rfl rfl hl.1 (Nat.le_of_ble_eq_true rfl) ⟨Nat.le_of_ble_eq_true rfl, Nat.le_of_ble_eq_true rfl⟩ ⟨Nat.zero_le _, Nat.zero_le _⟩ dX11_lend_112 fun H1 locs1 hz hP hS => ?_
                refine lv_aload_n hx hb dX11_lend_115 rfl (lv_at hl 0 rfl) ?_
                refine w_gr (k := 0) (r := 97) hx hb hts hown hK hP fX11_48 hk.1 rfl dX11_lend_116 ?_
                refine w_gr (k := 97) (r := 110) hx hb hts hown hK hP fX11_153 hk.2.2.2.2.2.1.1 rfl dX11_lend_119 ?_
                refine lv_iload_n hx hb dX11_lend_122 rfl (lv_at hl 2 rfl) ?_
                refine lv_iload_n hx hb dX11_lend_123 rfl (lv_at hl 1 rfl) ?_
                refine lv_iload_n hx hb dX11_lend_124 rfl (lv_at hl 3 rfl) ?_
                obtain ⟨q125, e125, h⟩ := obn_e h
                refine z_Vv (k := 110) (v1 := q125) hx hb hml hts hown hK hP hS hz hE (c_Debts_grow hk.2.2.2.2.2.1.2.2.2.2.2.2.2.2.1 e125) kX1_grow mX11_193 hk.2.2.2.2.2.1.2.2.2.2.2.2.2.2.1.1 rfl rfl rfl hl.1 (Nat.le_of_ble_eq_true rfl) ⟨Nat.le_of_ble_eq_true rfl, Nat.le_of_ble_eq_true rfl⟩ ⟨Nat.zero_le _, Nat.zero_le _⟩ dX11_lend_125 fun H1 locs1 hz hP hS => ?_
                refine lv_aload_n hx hb dX11_lend_128 rfl (lv_at hl 0 rfl) ?_
                refine w_gr (k := 0) (r := 97) hx hb hts hown hK hP fX11_48 hk.1 rfl dX11_lend_129 ?_
                refine w_gr (k := 97) (r := 110) hx hb hts hown hK hP fX11_153 hk.2.2.2.2.2.1.1 rfl dX11_lend_132 ?_
                refine lv_iload_n hx hb dX11_lend_135 rfl (lv_at hl 2 rfl) ?_
                refine lv_iload_n hx hb dX11_lend_136 rfl (lv_at hl 1 rfl) ?_
                obtain ⟨q137, e137, h⟩ := obn_e h
                refine z_Vi (k := 110) (r1 := q137) (v1 := q125) hx hb hml hts hown hK hP hS hz hE (c_Debts_between hk.2.2.2.2.2.1.2.2.2.2.2.2.2.2.1 e137) kX1_between mX11_157 hk.2.2.2.2.2.1.2.2.2.2.2.2.2.2.1.1 rfl rfl rfl hl.1 (Nat.le_of_ble_eq_true rfl) ⟨Nat.le_of_ble_eq_true rfl, Nat.le_of_ble_eq_true rfl⟩ ⟨Nat.zero_le _, Nat.zero_le _⟩ dX11_lend_137 fun H1 locs1 hz hP hS => ?_
                exact x_iret hx hb hret rfl hlk hK hP hS hz hE (Option.some.inj h).symm dX11_lend_140
              · have h := itf_e h hc92
                exact x_thr hx hb hlt hml hl.1 hts hown hP hS hz hE hX hlk hout (List.mem_of_getElem? (i := 10) rfl) xk_74 xi_0 ew_0 (by decide +kernel) dX11_lend_95 dX11_lend_98 dX11_lend_99 dX11_lend_101 dX11_lend_104 (Nat.le_of_ble_eq_true rfl) (Nat.le_of_ble_eq_true rfl) ⟨0, (Option.some.inj h).symm, rfl⟩
          · have h := itf_e h hc40
            exact x_thr hx hb hlt hml hl.1 hts hown hP hS hz hE hX hlk hout (List.mem_of_getElem? (i := 9) rfl) xk_84 xi_1 ew_1 (by decide +kernel) dX11_lend_43 dX11_lend_46 dX11_lend_47 dX11_lend_49 dX11_lend_52 (Nat.le_of_ble_eq_true rfl) (Nat.le_of_ble_eq_true rfl) ⟨1, (Option.some.inj h).symm, rfl⟩
    · have h := itt_e h hc13
      exact x_thr hx hb hlt hml hl.1 hts hown hP hS hz hE hX hlk hout (List.mem_of_getElem? (i := 7) rfl) xk_108 xi_2 ew_2 (by decide +kernel) dX11_lend_16 dX11_lend_19 dX11_lend_20 dX11_lend_22 dX11_lend_25 (Nat.le_of_ble_eq_true rfl) (Nat.le_of_ble_eq_true rfl) ⟨2, (Option.some.inj h).symm, rfl⟩
def f_Quay_offset (v : Va) (a1 : Int32) (a2 : Int32) : Option ((Int32 × Va) ⊕ Nat) := (f_Quay_isMerchant v a1).bind fun q2 => if (q_b q2) = 0 then (some (.inr 2)) else ((f_Quay_isMerchant v a2).bind fun q10 => if (q_b q10) = 0 then (some (.inr 2)) else (if a1 = a2 then (some (.inr 1)) else ((f_Debts_between v 110 a1 a2).bind fun q50 => (f_Debts_between v 110 a2 a1).bind fun q62 => (f_Debts_grow v 110 a1 a2 (-(q_min q50 q62))).bind fun q80 => (f_Debts_grow q80 110 a2 a1 (-(q_min q50 q62))).bind fun q94 => some (.inl ((q_min q50 q62), q94)))))
theorem c_Quay_offset {a1 : Int32} {a2 : Int32} (hk : isQuay sh) (hX : EX Γ sh) (hlt : l.stackTraces = false) {q : (Int32 × Va) ⊕ Nat} (h : f_Quay_offset v a1 a2 = some q) : MetX l yX11_offset cX11_offset 4 (some .int) 6 Γ sh v w n [.ref (Γ.2.1 + 0), .int a1, .int a2] (fun x u => q = .inl (x, u)) (fun E => ∃ c, q = .inr c ∧ E = xn c) := by
  unfold f_Quay_offset at h
  refine w_startX pn_X11 (Nat.le_of_ble_eq_true rfl) fun p e s m args below meth c hx hb hml hret hlk hnm hts hown hK hP hz hE hS ls hl hout => ?_
  refine lv_aload_n hx hb dX11_offset_0 rfl (lv_at hl 0 rfl) ?_
  refine lv_iload_n hx hb dX11_offset_1 rfl (lv_at hl 1 rfl) ?_
  obtain ⟨q2, e2, h⟩ := obn_e h
  refine z_Vi (k := 0) (r1 := (q_b q2)) (v1 := v) hx hb hml hts hown hK hP hS hz hE (c_Quay_isMerchant hk e2) kX11_isMerchant mX11_127 hk.1 rfl rfl rfl hl.1 (Nat.le_of_ble_eq_true rfl) ⟨Nat.le_of_ble_eq_true rfl, Nat.le_of_ble_eq_true rfl⟩ ⟨Nat.zero_le _, Nat.zero_le _⟩ dX11_offset_2 fun H1 locs1 hz hP hS => ?_
  refine lv_if_eq (tgt := 16) hx hb dX11_offset_5 rfl (fun hc5 => ?_) (fun hc5 => ?_)
  · have h := itt_e h hc5
    exact x_thr hx hb hlt hml hl.1 hts hown hP hS hz hE hX hlk hout (List.mem_of_getElem? (i := 7) rfl) xk_108 xi_2 ew_2 (by decide +kernel) dX11_offset_16 dX11_offset_19 dX11_offset_20 dX11_offset_22 dX11_offset_25 (Nat.le_of_ble_eq_true rfl) (Nat.le_of_ble_eq_true rfl) ⟨2, (Option.some.inj h).symm, rfl⟩
  · have h := itf_e h hc5
    refine lv_aload_n hx hb dX11_offset_8 rfl (lv_at hl 0 rfl) ?_
    refine lv_iload_n hx hb dX11_offset_9 rfl (lv_at hl 2 rfl) ?_
    obtain ⟨q10, e10, h⟩ := obn_e h
    refine z_Vi (k := 0) (r1 := (q_b q10)) (v1 := v) hx hb hml hts hown hK hP hS hz hE (c_Quay_isMerchant hk e10) kX11_isMerchant mX11_127 hk.1 rfl rfl rfl hl.1 (Nat.le_of_ble_eq_true rfl) ⟨Nat.le_of_ble_eq_true rfl, Nat.le_of_ble_eq_true rfl⟩ ⟨Nat.zero_le _, Nat.zero_le _⟩ dX11_offset_10 fun H1 locs1 hz hP hS => ?_
    refine lv_if_ne (tgt := 26) hx hb dX11_offset_13 rfl (fun hc13 => ?_) (fun hc13 => ?_)
    · have h := itf_e h hc13
      refine lv_iload_n hx hb dX11_offset_26 rfl (lv_at hl 1 rfl) ?_
      refine lv_iload_n hx hb dX11_offset_27 rfl (lv_at hl 2 rfl) ?_
      refine lv_icmp_ne (tgt := 41) hx hb dX11_offset_28 rfl (fun hc28 => ?_) (fun hc28 => ?_)
      · have h := itf_e h hc28
        refine lv_aload_n hx hb dX11_offset_41 rfl (lv_at hl 0 rfl) ?_
        refine w_gr (k := 0) (r := 97) hx hb hts hown hK hP fX11_48 hk.1 rfl dX11_offset_42 ?_
        refine w_gr (k := 97) (r := 110) hx hb hts hown hK hP fX11_153 hk.2.2.2.2.2.1.1 rfl dX11_offset_45 ?_
        refine lv_iload_n hx hb dX11_offset_48 rfl (lv_at hl 1 rfl) ?_
        refine lv_iload_n hx hb dX11_offset_49 rfl (lv_at hl 2 rfl) ?_
        obtain ⟨q50, e50, h⟩ := obn_e h
        refine z_Vi (k := 110) (r1 := q50) (v1 := v) hx hb hml hts hown hK hP hS hz hE (c_Debts_between hk.2.2.2.2.2.1.2.2.2.2.2.2.2.2.1 e50) kX1_between mX11_157 hk.2.2.2.2.2.1.2.2.2.2.2.2.2.2.1.1 rfl rfl rfl hl.1 (Nat.le_of_ble_eq_true rfl) ⟨Nat.le_of_ble_eq_true rfl, Nat.le_of_ble_eq_true rfl⟩ ⟨Nat.zero_le _, Nat.zero_le _⟩ dX11_offset_50 fun H1 locs1 hz hP hS => ?_
        refine lv_aload_n hx hb dX11_offset_53 rfl (lv_at hl 0 rfl) ?_
        refine w_gr (k := 0) (r := 97) hx hb hts hown hK hP fX11_48 hk.1 rfl dX11_offset_54 ?_
        refine w_gr (k := 97) (r := 110) hx hb hts hown hK hP fX11_153 hk.2.2.2.2.2.1.1 rfl dX11_offset_57 ?_
        refine lv_iload_n hx hb dX11_offset_60 rfl (lv_at hl 2 rfl) ?_
        refine lv_iload_n hx hb dX11_offset_61 rfl (lv_at hl 1 rfl) ?_
        obtain ⟨q62, e62, h⟩ := obn_e h
        refine z_Vi (k := 110) (r1 := q62) (v1 := v) hx hb hml hts hown hK hP hS hz hE (c_Debts_between hk.2.2.2.2.2.1.2.2.2.2.2.2.2.2.1 e62) kX1_between mX11_157 hk.2.2.2.2.2.1.2.2.2.2.2.2.2.2.1.1 rfl rfl rfl hl.1 (Nat.le_of_ble_eq_true rfl) ⟨Nat.le_of_ble_eq_true rfl, Nat.le_of_ble_eq_true rfl⟩ ⟨Nat.zero_le _, Nat.zero_le _⟩ dX11_offset_62 fun H1 locs1 hz hP hS => ?_
        refine z_mmin hx hb hml hl.1 hts hown xX11_198 ⟨Nat.le_of_ble_eq_true rfl, Nat.le_of_ble_eq_true rfl⟩ (Nat.le_of_ble_eq_true rfl) ⟨Nat.zero_le _, Nat.zero_le _⟩ dX11_offset_65 ?_
        refine lv_istore_n (lv' := [(3, .int (q_min q50 q62)), (0, .ref (Γ.2.1 + 0)), (1, .int a1), (2, .int a2)]) hx hb dX11_offset_68 rfl hl (by decide) rfl fun ls hl => ?_
        refine lv_aload_n hx hb dX11_offset_69 rfl (lv_at hl 1 rfl) ?_
        refine w_gr (k := 0) (r := 97) hx hb hts hown hK hP fX11_48 hk.1 rfl dX11_offset_70 ?_
        refine w_gr (k := 97) (r := 110) hx hb hts hown hK hP fX11_153 hk.2.2.2.2.2.1.1 rfl dX11_offset_73 ?_
        refine lv_iload_n hx hb dX11_offset_76 rfl (lv_at hl 2 rfl) ?_
        refine lv_iload_n hx hb dX11_offset_77 rfl (lv_at hl 3 rfl) ?_
        refine lv_iload_n hx hb dX11_offset_78 rfl (lv_at hl 0 rfl) ?_
        refine lv_ineg hx hb dX11_offset_79 ?_
        obtain ⟨q80, e80, h⟩ := obn_e h
        refine z_Vv (k := 110) (v1 := q80) hx hb hml hts hown hK hP hS hz hE (c_Debts_grow hk.2.2.2.2.2.1.2.2.2.2.2.2.2.2.1 e80) kX1_grow mX11_193 hk.2.2.2.2.2.1.2.2.2.2.2.2.2.2.1.1 rfl rfl rfl hl.1 (Nat.le_of_ble_eq_true rfl) ⟨Nat.le_of_ble_eq_true rfl, Nat.le_of_ble_eq_true rfl⟩ ⟨Nat.zero_le _, Nat.zero_le _⟩ dX11_offset_80 fun H1 locs1 hz hP hS => ?_
        refine lv_aload_n hx hb dX11_offset_83 rfl (lv_at hl 1 rfl) ?_
        refine w_gr (k := 0) (r := 97) hx hb hts hown hK hP fX11_48 hk.1 rfl dX11_offset_84 ?_
        refine w_gr (k := 97) (r := 110) hx hb hts hown hK hP fX11_153 hk.2.2.2.2.2.1.1 rfl dX11_offset_87 ?_
        refine lv_iload_n hx hb dX11_offset_90 rfl (lv_at hl 3 rfl) ?_
        refine lv_iload_n hx hb dX11_offset_91 rfl (lv_at hl 2 rfl) ?_
        refine lv_iload_n hx hb dX11_offset_92 rfl (lv_at hl 0 rfl) ?_
        refine lv_ineg hx hb dX11_offset_93 ?_
        obtain ⟨q94, e94, h⟩ := obn_e h
        refine z_Vv (k := 110) (v1 := q94) hx hb hml hts hown hK hP hS hz hE (c_Debts_grow hk.2.2.2.2.2.1.2.2.2.2.2.2.2.2.1 e94) kX1_grow mX11_193 hk.2.2.2.2.2.1.2.2.2.2.2.2.2.2.1.1 rfl rfl rfl hl.1 (Nat.le_of_ble_eq_true rfl) ⟨Nat.le_of_ble_eq_true rfl, Nat.le_of_ble_eq_true rfl⟩ ⟨Nat.zero_le _, Nat.zero_le _⟩ dX11_offset_94 fun H1 locs1 hz hP hS => ?_
        refine lv_iload_n hx hb dX11_offset_97 rfl (lv_at hl 0 rfl) ?_
        exact x_iret hx hb hret rfl hlk hK hP hS hz hE (Option.some.inj h).symm dX11_offset_98
      · have h := itt_e h hc28
        exact x_thr hx hb hlt hml hl.1 hts hown hP hS hz hE hX hlk hout (List.mem_of_getElem? (i := 11) rfl) xk_84 xi_1 ew_1 (by decide +kernel) dX11_offset_31 dX11_offset_34 dX11_offset_35 dX11_offset_37 dX11_offset_40 (Nat.le_of_ble_eq_true rfl) (Nat.le_of_ble_eq_true rfl) ⟨1, (Option.some.inj h).symm, rfl⟩
    · have h := itt_e h hc13
      exact x_thr hx hb hlt hml hl.1 hts hown hP hS hz hE hX hlk hout (List.mem_of_getElem? (i := 7) rfl) xk_108 xi_2 ew_2 (by decide +kernel) dX11_offset_16 dX11_offset_19 dX11_offset_20 dX11_offset_22 dX11_offset_25 (Nat.le_of_ble_eq_true rfl) (Nat.le_of_ble_eq_true rfl) ⟨2, (Option.some.inj h).symm, rfl⟩
def f_Quay_dry (v : Va) (a1 : Int32) : Option ((Int32 × Va) ⊕ Nat) := (f_Quay_isLot v a1).bind fun q2 => if (q_b q2) = 0 then (some (.inr 2)) else (bnd (row_g 10 (v 99) a1) fun q26 => bnd (up v 99 (row_s 10 (v 99) a1 (q26 - (q26 / 10)))) fun q44 => (f_Stand_takeChop q44 97 a1).bind fun q52 => bnd (row_g 10 (q52 99) a1) fun q63 => some (.inl (q63, q52)))
theorem c_Quay_dry {a1 : Int32} (hk : isQuay sh) (hX : EX Γ sh) (hlt : l.stackTraces = false) {q : (Int32 × Va) ⊕ Nat} (h : f_Quay_dry v a1 = some q) : MetX l yX11_dry cX11_dry 3 (some .int) 6 Γ sh v w n [.ref (Γ.2.1 + 0), .int a1] (fun x u => q = .inl (x, u)) (fun E => ∃ c, q = .inr c ∧ E = xn c) := by
  unfold f_Quay_dry at h
  refine w_startX pn_X11 (Nat.le_of_ble_eq_true rfl) fun p e s m args below meth c hx hb hml hret hlk hnm hts hown hK hP hz hE hS ls hl hout => ?_
  refine lv_aload_n hx hb dX11_dry_0 rfl (lv_at hl 0 rfl) ?_
  refine lv_iload_n hx hb dX11_dry_1 rfl (lv_at hl 1 rfl) ?_
  obtain ⟨q2, e2, h⟩ := obn_e h
  refine z_Vi (k := 0) (r1 := (q_b q2)) (v1 := v) hx hb hml hts hown hK hP hS hz hE (c_Quay_isLot hk e2) kX11_isLot mX11_117 hk.1 rfl rfl rfl hl.1 (Nat.le_of_ble_eq_true rfl) ⟨Nat.le_of_ble_eq_true rfl, Nat.le_of_ble_eq_true rfl⟩ ⟨Nat.zero_le _, Nat.zero_le _⟩ dX11_dry_2 fun H1 locs1 hz hP hS => ?_
  refine lv_if_ne (tgt := 18) hx hb dX11_dry_5 rfl (fun hc5 => ?_) (fun hc5 => ?_)
  · have h := itf_e h hc5
    refine lv_aload_n hx hb dX11_dry_18 rfl (lv_at hl 0 rfl) ?_
    refine w_gr (k := 0) (r := 97) hx hb hts hown hK hP fX11_48 hk.1 rfl dX11_dry_19 ?_
    refine w_gr (k := 97) (r := 98) hx hb hts hown hK hP fX11_205 hk.2.2.2.2.2.1.1 rfl dX11_dry_22 ?_
    refine lv_iload_n hx hb dX11_dry_25 rfl (lv_at hl 1 rfl) ?_
    obtain ⟨q26, e26, h⟩ := bnd_e h
    refine z_Vi (k := 98) (r1 := q26) (v1 := v) hx hb hml hts hown hK hP hS hz hE (C_Row_get hk.2.2.2.2.2.1.2.2.1 e26) kX7_get mX11_178 hk.2.2.2.2.2.1.2.2.1.1 rfl rfl rfl hl.1 (Nat.le_of_ble_eq_true rfl) ⟨Nat.le_of_ble_eq_true rfl, Nat.le_of_ble_eq_true rfl⟩ ⟨Nat.zero_le _, Nat.zero_le _⟩ dX11_dry_26 fun H1 locs1 hz hP hS => ?_
    refine lv_istore_n (lv' := [(2, .int q26), (0, .ref (Γ.2.1 + 0)), (1, .int a1)]) hx hb dX11_dry_29 rfl hl (by decide) rfl fun ls hl => ?_
    refine lv_aload_n hx hb dX11_dry_30 rfl (lv_at hl 1 rfl) ?_
    refine w_gr (k := 0) (r := 97) hx hb hts hown hK hP fX11_48 hk.1 rfl dX11_dry_31 ?_
    refine w_gr (k := 97) (r := 98) hx hb hts hown hK hP fX11_205 hk.2.2.2.2.2.1.1 rfl dX11_dry_34 ?_
    refine lv_iload_n hx hb dX11_dry_37 rfl (lv_at hl 2 rfl) ?_
    refine lv_iload_n hx hb dX11_dry_38 rfl (lv_at hl 0 rfl) ?_
    refine lv_iload_n hx hb dX11_dry_39 rfl (lv_at hl 0 rfl) ?_
    refine lv_bipush (v := 10) hx hb dX11_dry_40 rfl ?_
    refine lv_idiv hx hb dX11_dry_42 (by decide) ?_
    refine lv_isub hx hb dX11_dry_43 ?_
    obtain ⟨q44, e44, h⟩ := bnd_e h
    refine z_Vv (k := 98) (v1 := q44) hx hb hml hts hown hK hP hS hz hE (C_Row_set hk.2.2.2.2.2.1.2.2.1 e44) kX7_set mX11_208 hk.2.2.2.2.2.1.2.2.1.1 rfl rfl rfl hl.1 (Nat.le_of_ble_eq_true rfl) ⟨Nat.le_of_ble_eq_true rfl, Nat.le_of_ble_eq_true rfl⟩ ⟨Nat.zero_le _, Nat.zero_le _⟩ dX11_dry_44 fun H1 locs1 hz hP hS => ?_
    refine lv_aload_n hx hb dX11_dry_47 rfl (lv_at hl 1 rfl) ?_
    refine w_gr (k := 0) (r := 97) hx hb hts hown hK hP fX11_48 hk.1 rfl dX11_dry_48 ?_
    refine lv_iload_n hx hb dX11_dry_51 rfl (lv_at hl 2 rfl) ?_
    obtain ⟨q52, e52, h⟩ := obn_e h
    refine z_Vv (k := 97) (v1 := q52) hx hb hml hts hown hK hP hS hz hE (c_Stand_takeChop hk.2.2.2.2.2.1 e52) kX8_takeChop mX11_212 hk.2.2.2.2.2.1.1 rfl rfl rfl hl.1 (Nat.le_of_ble_eq_true rfl) ⟨Nat.le_of_ble_eq_true rfl, Nat.le_of_ble_eq_true rfl⟩ ⟨Nat.zero_le _, Nat.zero_le _⟩ dX11_dry_52 fun H1 locs1 hz hP hS => ?_
    refine lv_aload_n hx hb dX11_dry_55 rfl (lv_at hl 1 rfl) ?_
    refine w_gr (k := 0) (r := 97) hx hb hts hown hK hP fX11_48 hk.1 rfl dX11_dry_56 ?_
    refine w_gr (k := 97) (r := 98) hx hb hts hown hK hP fX11_205 hk.2.2.2.2.2.1.1 rfl dX11_dry_59 ?_
    refine lv_iload_n hx hb dX11_dry_62 rfl (lv_at hl 2 rfl) ?_
    obtain ⟨q63, e63, h⟩ := bnd_e h
    refine z_Vi (k := 98) (r1 := q63) (v1 := q52) hx hb hml hts hown hK hP hS hz hE (C_Row_get hk.2.2.2.2.2.1.2.2.1 e63) kX7_get mX11_178 hk.2.2.2.2.2.1.2.2.1.1 rfl rfl rfl hl.1 (Nat.le_of_ble_eq_true rfl) ⟨Nat.le_of_ble_eq_true rfl, Nat.le_of_ble_eq_true rfl⟩ ⟨Nat.zero_le _, Nat.zero_le _⟩ dX11_dry_63 fun H1 locs1 hz hP hS => ?_
    exact x_iret hx hb hret rfl hlk hK hP hS hz hE (Option.some.inj h).symm dX11_dry_66
  · have h := itt_e h hc5
    exact x_thr hx hb hlt hml hl.1 hts hown hP hS hz hE hX hlk hout (List.mem_of_getElem? (i := 12) rfl) xk_108 xi_2 ew_2 (by decide +kernel) dX11_dry_8 dX11_dry_11 dX11_dry_12 dX11_dry_14 dX11_dry_17 (Nat.le_of_ble_eq_true rfl) (Nat.le_of_ble_eq_true rfl) ⟨2, (Option.some.inj h).symm, rfl⟩
def f_Quay_pass (z : Nat) (v : Va) (a1 : Int32) : Option ((Int32 × Va) ⊕ Nat) := if a1 < 1 then (some (.inr 1)) else (if a1 ≤ 120 then ((f_Days_goOn z v 97 a1).bind fun q26 => some (.inl (q26.1, q26.2))) else (some (.inr 1)))
theorem c_Quay_pass {a1 : Int32} (hk : isQuay sh) (hX : EX Γ sh) (hlt : l.stackTraces = false) {q : (Int32 × Va) ⊕ Nat} (h : f_Quay_pass z v a1 = some q) : MetX l yX11_pass cX11_pass 2 (some .int) 7 Γ sh v w n [.ref (Γ.2.1 + 0), .int a1] (fun x u => q = .inl (x, u)) (fun E => ∃ c, q = .inr c ∧ E = xn c) := by
  unfold f_Quay_pass at h
  refine w_startX pn_X11 (Nat.le_of_ble_eq_true rfl) fun p e s m args below meth c hx hb hml hret hlk hnm hts hown hK hP hz hE hS ls hl hout => ?_
  refine lv_iload_n hx hb dX11_pass_0 rfl (lv_at hl 1 rfl) ?_
  refine lv_iconst (v := 1) hx hb dX11_pass_1 rfl ?_
  refine lv_icmp_lt (tgt := 11) hx hb dX11_pass_2 rfl (fun hc2 => ?_) (fun hc2 => ?_)
  · have h := itt_e h hc2
    exact x_thr hx hb hlt hml hl.1 hts hown hP hS hz hE hX hlk hout (List.mem_of_getElem? (i := 13) rfl) xk_84 xi_1 ew_1 (by decide +kernel) dX11_pass_11 dX11_pass_14 dX11_pass_15 dX11_pass_17 dX11_pass_20 (Nat.le_of_ble_eq_true rfl) (Nat.le_of_ble_eq_true rfl) ⟨1, (Option.some.inj h).symm, rfl⟩
  · have h := itf_e h hc2
    refine lv_iload_n hx hb dX11_pass_5 rfl (lv_at hl 1 rfl) ?_
    refine lv_bipush (v := 120) hx hb dX11_pass_6 rfl ?_
    refine lv_icmp_le (tgt := 21) hx hb dX11_pass_8 rfl (fun hc8 => ?_) (fun hc8 => ?_)
    · have h := itt_e h hc8
      refine lv_aload_n hx hb dX11_pass_21 rfl (lv_at hl 0 rfl) ?_
      refine w_gr (k := 0) (r := 119) hx hb hts hown hK hP fX11_57 hk.1 rfl dX11_pass_22 ?_
      refine lv_iload_n hx hb dX11_pass_25 rfl (lv_at hl 1 rfl) ?_
      obtain ⟨q26, e26, h⟩ := obn_e h
      refine z_Vi (k := 119) (r1 := q26.1) (v1 := q26.2) hx hb hml hts hown hK hP hS hz hE (c_Days_goOn hk.2.2.2.2.2.2.1 e26) kX0_goOn mX11_217 hk.2.2.2.2.2.2.1.1 rfl rfl rfl hl.1 (Nat.le_of_ble_eq_true rfl) ⟨Nat.le_of_ble_eq_true rfl, Nat.le_of_ble_eq_true rfl⟩ ⟨Nat.zero_le _, Nat.zero_le _⟩ dX11_pass_26 fun H1 locs1 hz hP hS => ?_
      exact x_iret hx hb hret rfl hlk hK hP hS hz hE (Option.some.inj h).symm dX11_pass_29
    · have h := itf_e h hc8
      exact x_thr hx hb hlt hml hl.1 hts hown hP hS hz hE hX hlk hout (List.mem_of_getElem? (i := 13) rfl) xk_84 xi_1 ew_1 (by decide +kernel) dX11_pass_11 dX11_pass_14 dX11_pass_15 dX11_pass_17 dX11_pass_20 (Nat.le_of_ble_eq_true rfl) (Nat.le_of_ble_eq_true rfl) ⟨1, (Option.some.inj h).symm, rfl⟩
def j_Quay_foresee_47 (z : Nat) (v : Va) (a1 : Int32) (a2 : Int32) : Option ((Int32 × Va) ⊕ Nat) := (f_Stand_copyFrom v 123 97).bind fun q55 => (f_Days_goOn z q55 123 a1).bind fun q63 => if a2 = 0 then (some (.inl (q63.1, q63.2))) else ((f_Stand_tellAll q63.2 123 a2).bind fun q80 => some (.inl (q80, q63.2)))
def f_Quay_foresee (z : Nat) (v : Va) (a1 : Int32) (a2 : Int32) : Option ((Int32 × Va) ⊕ Nat) := if a1 < 1 then (some (.inr 1)) else (if a1 ≤ 120 then (if a2 = 0 then (j_Quay_foresee_47 z v a1 a2) else (if a2 < 7 then (some (.inr 2)) else (if a2 ≤ 12 then (j_Quay_foresee_47 z v a1 a2) else (some (.inr 2))))) else (some (.inr 1)))
theorem c_Quay_foresee {a1 : Int32} {a2 : Int32} (hk : isQuay sh) (hX : EX Γ sh) (hlt : l.stackTraces = false) {q : (Int32 × Va) ⊕ Nat} (h : f_Quay_foresee z v a1 a2 = some q) : MetX l yX11_foresee cX11_foresee 4 (some .int) 7 Γ sh v w n [.ref (Γ.2.1 + 0), .int a1, .int a2] (fun x u => q = .inl (x, u)) (fun E => ∃ c, q = .inr c ∧ E = xn c) := by
  unfold f_Quay_foresee at h
  refine w_startX pn_X11 (Nat.le_of_ble_eq_true rfl) fun p e s m args below meth c hx hb hml hret hlk hnm hts hown hK hP hz hE hS ls hl hout => ?_
  refine lv_iload_n hx hb dX11_foresee_0 rfl (lv_at hl 1 rfl) ?_
  refine lv_iconst (v := 1) hx hb dX11_foresee_1 rfl ?_
  refine lv_icmp_lt (tgt := 11) hx hb dX11_foresee_2 rfl (fun hc2 => ?_) (fun hc2 => ?_)
  · have h := itt_e h hc2
    exact x_thr hx hb hlt hml hl.1 hts hown hP hS hz hE hX hlk hout (List.mem_of_getElem? (i := 13) rfl) xk_84 xi_1 ew_1 (by decide +kernel) dX11_foresee_11 dX11_foresee_14 dX11_foresee_15 dX11_foresee_17 dX11_foresee_20 (Nat.le_of_ble_eq_true rfl) (Nat.le_of_ble_eq_true rfl) ⟨1, (Option.some.inj h).symm, rfl⟩
  · have h := itf_e h hc2
    refine lv_iload_n hx hb dX11_foresee_5 rfl (lv_at hl 1 rfl) ?_
    refine lv_bipush (v := 120) hx hb dX11_foresee_6 rfl ?_
    refine lv_icmp_le (tgt := 21) hx hb dX11_foresee_8 rfl (fun hc8 => ?_) (fun hc8 => ?_)
    · have h := itt_e h hc8
      refine lv_iload_n hx hb dX11_foresee_21 rfl (lv_at hl 2 rfl) ?_
      have J47 : (j_Quay_foresee_47 z v a1 a2) = some q → ∀ (H1 : Heap) (locs1 : List Loc) (ls1 : Array Slot), lv_has ls1 4 [(0, .ref (Γ.2.1 + 0)), (1, .int a1), (2, .int a2)] → Wd Γ sh v w H1 → va_S (gA Γ sh n) s.heap H1 locs1 → H1.size = Γ.2.1 + n → wpX Γ sh v w n 7 (fun x u => q = .inl (x, u)) (fun E => ∃ c, q = .inr c ∧ E = xn c) p l e s m args below meth c H1 locs1 (F0 m 47 ls1 []) := by
        intro  h H1 locs1 ls hl hP hS hz
        unfold j_Quay_foresee_47 at h
        refine lv_aload_n hx hb dX11_foresee_47 rfl (lv_at hl 0 rfl) ?_
        refine w_gr (k := 0) (r := 123) hx hb hts hown hK hP fX11_61 hk.1 rfl dX11_foresee_48 ?_
        refine lv_aload_n hx hb dX11_foresee_51 rfl (lv_at hl 0 rfl) ?_
        refine w_gr (k := 0) (r := 97) hx hb hts hown hK hP fX11_48 hk.1 rfl dX11_foresee_52 ?_
        obtain ⟨q55, e55, h⟩ := obn_e h
        refine z_Vv (k := 123) (v1 := q55) hx hb hml hts hown hK hP hS hz hE (c_Stand_copyFrom hk.2.2.2.2.2.2.2.1 hk.2.2.2.2.2.1 (by omega) e55) kX8_copyFrom mX11_222 hk.2.2.2.2.2.2.2.1.1 rfl rfl rfl hl.1 (Nat.le_of_ble_eq_true rfl) ⟨Nat.le_of_ble_eq_true rfl, Nat.le_of_ble_eq_true rfl⟩ ⟨Nat.zero_le _, Nat.zero_le _⟩ dX11_foresee_55 fun H1 locs1 hz hP hS => ?_
        refine lv_aload_n hx hb dX11_foresee_58 rfl (lv_at hl 0 rfl) ?_
        refine w_gr (k := 0) (r := 145) hx hb hts hown hK hP fX11_64 hk.1 rfl dX11_foresee_59 ?_
        refine lv_iload_n hx hb dX11_foresee_62 rfl (lv_at hl 1 rfl) ?_
        obtain ⟨q63, e63, h⟩ := obn_e h
        refine z_Vi (k := 145) (r1 := q63.1) (v1 := q63.2) hx hb hml hts hown hK hP hS hz hE (c_Days_goOn hk.2.2.2.2.2.2.2.2 e63) kX0_goOn mX11_217 hk.2.2.2.2.2.2.2.2.1 rfl rfl rfl hl.1 (Nat.le_of_ble_eq_true rfl) ⟨Nat.le_of_ble_eq_true rfl, Nat.le_of_ble_eq_true rfl⟩ ⟨Nat.zero_le _, Nat.zero_le _⟩ dX11_foresee_63 fun H1 locs1 hz hP hS => ?_
        refine lv_istore_n (lv' := [(3, .int q63.1), (0, .ref (Γ.2.1 + 0)), (1, .int a1), (2, .int a2)]) hx hb dX11_foresee_66 rfl hl (by decide) rfl fun ls hl => ?_
        refine lv_iload_n hx hb dX11_foresee_67 rfl (lv_at hl 3 rfl) ?_
        refine lv_if_ne (tgt := 75) hx hb dX11_foresee_68 rfl (fun hc68 => ?_) (fun hc68 => ?_)
        · have h := itf_e h hc68
          refine lv_aload_n hx hb dX11_foresee_75 rfl (lv_at hl 1 rfl) ?_
          refine w_gr (k := 0) (r := 123) hx hb hts hown hK hP fX11_61 hk.1 rfl dX11_foresee_76 ?_
          refine lv_iload_n hx hb dX11_foresee_79 rfl (lv_at hl 3 rfl) ?_
          obtain ⟨q80, e80, h⟩ := obn_e h
          refine z_Vi (k := 123) (r1 := q80) (v1 := q63.2) hx hb hml hts hown hK hP hS hz hE (c_Stand_tellAll hk.2.2.2.2.2.2.2.1 e80) kX8_tellAll mX11_225 hk.2.2.2.2.2.2.2.1.1 rfl rfl rfl hl.1 (Nat.le_of_ble_eq_true rfl) ⟨Nat.le_of_ble_eq_true rfl, Nat.le_of_ble_eq_true rfl⟩ ⟨Nat.zero_le _, Nat.zero_le _⟩ dX11_foresee_80 fun H1 locs1 hz hP hS => ?_
          exact x_iret hx hb hret rfl hlk hK hP hS hz hE (Option.some.inj h).symm dX11_foresee_83
        · have h := itt_e h hc68
          refine lv_iload_n hx hb dX11_foresee_71 rfl (lv_at hl 0 rfl) ?_
          refine lv_goto (tgt := 83) hx hb dX11_foresee_72 rfl ?_
          exact x_iret hx hb hret rfl hlk hK hP hS hz hE (Option.some.inj h).symm dX11_foresee_83
      refine lv_if_eq (tgt := 47) hx hb dX11_foresee_22 rfl (fun hc22 => ?_) (fun hc22 => ?_)
      · have h := itt_e h hc22
        exact J47 h _ _ _ (lv_sub hl [0, 1, 2] rfl) hP hS hz
      · have h := itf_e h hc22
        refine lv_iload_n hx hb dX11_foresee_25 rfl (lv_at hl 2 rfl) ?_
        refine lv_bipush (v := 7) hx hb dX11_foresee_26 rfl ?_
        refine lv_icmp_lt (tgt := 37) hx hb dX11_foresee_28 rfl (fun hc28 => ?_) (fun hc28 => ?_)
        · have h := itt_e h hc28
          exact x_thr hx hb hlt hml hl.1 hts hown hP hS hz hE hX hlk hout (List.mem_of_getElem? (i := 14) rfl) xk_108 xi_2 ew_2 (by decide +kernel) dX11_foresee_37 dX11_foresee_40 dX11_foresee_41 dX11_foresee_43 dX11_foresee_46 (Nat.le_of_ble_eq_true rfl) (Nat.le_of_ble_eq_true rfl) ⟨2, (Option.some.inj h).symm, rfl⟩
        · have h := itf_e h hc28
          refine lv_iload_n hx hb dX11_foresee_31 rfl (lv_at hl 2 rfl) ?_
          refine lv_bipush (v := 12) hx hb dX11_foresee_32 rfl ?_
          refine lv_icmp_le (tgt := 47) hx hb dX11_foresee_34 rfl (fun hc34 => ?_) (fun hc34 => ?_)
          · have h := itt_e h hc34
            exact J47 h _ _ _ (lv_sub hl [0, 1, 2] rfl) hP hS hz
          · have h := itf_e h hc34
            exact x_thr hx hb hlt hml hl.1 hts hown hP hS hz hE hX hlk hout (List.mem_of_getElem? (i := 14) rfl) xk_108 xi_2 ew_2 (by decide +kernel) dX11_foresee_37 dX11_foresee_40 dX11_foresee_41 dX11_foresee_43 dX11_foresee_46 (Nat.le_of_ble_eq_true rfl) (Nat.le_of_ble_eq_true rfl) ⟨2, (Option.some.inj h).symm, rfl⟩
    · have h := itf_e h hc8
      exact x_thr hx hb hlt hml hl.1 hts hown hP hS hz hE hX hlk hout (List.mem_of_getElem? (i := 13) rfl) xk_84 xi_1 ew_1 (by decide +kernel) dX11_foresee_11 dX11_foresee_14 dX11_foresee_15 dX11_foresee_17 dX11_foresee_20 (Nat.le_of_ble_eq_true rfl) (Nat.le_of_ble_eq_true rfl) ⟨1, (Option.some.inj h).symm, rfl⟩
def b_Quay_costs_52 (z : Nat) (a1 : Int32) (K52 : (Int32 × Va) → Option ((Int32 × Va) ⊕ Nat)) (t52 : Int32 × Va) : Option ((Int32 × Va) ⊕ Nat) := if a1 ≤ t52.1 then ((f_Stand_weightOfAll t52.2 97).bind fun q74 => (f_Stand_weightOfAll t52.2 123).bind fun q81 => some (.inl ((q74 - q81), t52.2))) else ((f_Stand_loseWeight z t52.2 123).bind fun q61 => K52 ((t52.1 + 1), q61))
def f_Quay_costs (z : Nat) (v : Va) (a1 : Int32) (a2 : Int32) : Option ((Int32 × Va) ⊕ Nat) := if a1 < 1 then (some (.inr 1)) else (if 90 < a1 then (some (.inr 1)) else (if a2 < 0 then (some (.inr 1)) else (if a2 ≤ 9 then ((f_Stand_copyFrom v 123 97).bind fun q39 => bnd (pu q39 123 2 a2) fun v47 => rp (b_Quay_costs_52 z a1) z (0, v47)) else (some (.inr 1)))))
theorem c_Quay_costs {a1 : Int32} {a2 : Int32} (hk : isQuay sh) (hX : EX Γ sh) (hlt : l.stackTraces = false) {q : (Int32 × Va) ⊕ Nat} (h : f_Quay_costs z v a1 a2 = some q) : MetX l yX11_costs cX11_costs 4 (some .int) 6 Γ sh v w n [.ref (Γ.2.1 + 0), .int a1, .int a2] (fun x u => q = .inl (x, u)) (fun E => ∃ c, q = .inr c ∧ E = xn c) := by
  unfold f_Quay_costs at h
  refine w_startX pn_X11 (Nat.le_of_ble_eq_true rfl) fun p e s m args below meth c hx hb hml hret hlk hnm hts hown hK hP hz hE hS ls hl hout => ?_
  refine lv_iload_n hx hb dX11_costs_0 rfl (lv_at hl 1 rfl) ?_
  refine lv_iconst (v := 1) hx hb dX11_costs_1 rfl ?_
  refine lv_icmp_lt (tgt := 21) hx hb dX11_costs_2 rfl (fun hc2 => ?_) (fun hc2 => ?_)
  · have h := itt_e h hc2
    exact x_thr hx hb hlt hml hl.1 hts hown hP hS hz hE hX hlk hout (List.mem_of_getElem? (i := 15) rfl) xk_84 xi_1 ew_1 (by decide +kernel) dX11_costs_21 dX11_costs_24 dX11_costs_25 dX11_costs_27 dX11_costs_30 (Nat.le_of_ble_eq_true rfl) (Nat.le_of_ble_eq_true rfl) ⟨1, (Option.some.inj h).symm, rfl⟩
  · have h := itf_e h hc2
    refine lv_iload_n hx hb dX11_costs_5 rfl (lv_at hl 1 rfl) ?_
    refine lv_bipush (v := 90) hx hb dX11_costs_6 rfl ?_
    refine lv_icmp_gt (tgt := 21) hx hb dX11_costs_8 rfl (fun hc8 => ?_) (fun hc8 => ?_)
    · have h := itt_e h hc8
      exact x_thr hx hb hlt hml hl.1 hts hown hP hS hz hE hX hlk hout (List.mem_of_getElem? (i := 15) rfl) xk_84 xi_1 ew_1 (by decide +kernel) dX11_costs_21 dX11_costs_24 dX11_costs_25 dX11_costs_27 dX11_costs_30 (Nat.le_of_ble_eq_true rfl) (Nat.le_of_ble_eq_true rfl) ⟨1, (Option.some.inj h).symm, rfl⟩
    · have h := itf_e h hc8
      refine lv_iload_n hx hb dX11_costs_11 rfl (lv_at hl 2 rfl) ?_
      refine lv_if_lt (tgt := 21) hx hb dX11_costs_12 rfl (fun hc12 => ?_) (fun hc12 => ?_)
      · have h := itt_e h hc12
        exact x_thr hx hb hlt hml hl.1 hts hown hP hS hz hE hX hlk hout (List.mem_of_getElem? (i := 15) rfl) xk_84 xi_1 ew_1 (by decide +kernel) dX11_costs_21 dX11_costs_24 dX11_costs_25 dX11_costs_27 dX11_costs_30 (Nat.le_of_ble_eq_true rfl) (Nat.le_of_ble_eq_true rfl) ⟨1, (Option.some.inj h).symm, rfl⟩
      · have h := itf_e h hc12
        refine lv_iload_n hx hb dX11_costs_15 rfl (lv_at hl 2 rfl) ?_
        refine lv_bipush (v := 9) hx hb dX11_costs_16 rfl ?_
        refine lv_icmp_le (tgt := 31) hx hb dX11_costs_18 rfl (fun hc18 => ?_) (fun hc18 => ?_)
        · have h := itt_e h hc18
          refine lv_aload_n hx hb dX11_costs_31 rfl (lv_at hl 0 rfl) ?_
          refine w_gr (k := 0) (r := 123) hx hb hts hown hK hP fX11_61 hk.1 rfl dX11_costs_32 ?_
          refine lv_aload_n hx hb dX11_costs_35 rfl (lv_at hl 0 rfl) ?_
          refine w_gr (k := 0) (r := 97) hx hb hts hown hK hP fX11_48 hk.1 rfl dX11_costs_36 ?_
          obtain ⟨q39, e39, h⟩ := obn_e h
          refine z_Vv (k := 123) (v1 := q39) hx hb hml hts hown hK hP hS hz hE (c_Stand_copyFrom hk.2.2.2.2.2.2.2.1 hk.2.2.2.2.2.1 (by omega) e39) kX8_copyFrom mX11_222 hk.2.2.2.2.2.2.2.1.1 rfl rfl rfl hl.1 (Nat.le_of_ble_eq_true rfl) ⟨Nat.le_of_ble_eq_true rfl, Nat.le_of_ble_eq_true rfl⟩ ⟨Nat.zero_le _, Nat.zero_le _⟩ dX11_costs_39 fun H1 locs1 hz hP hS => ?_
          refine lv_aload_n hx hb dX11_costs_42 rfl (lv_at hl 0 rfl) ?_
          refine w_gr (k := 0) (r := 123) hx hb hts hown hK hP fX11_61 hk.1 rfl dX11_costs_43 ?_
          refine lv_iload_n hx hb dX11_costs_46 rfl (lv_at hl 2 rfl) ?_
          obtain ⟨v47, e47, h⟩ := bnd_e h
          refine w_pi2 (k := 123) hx hb hts hown hK hP hS hz fX11_170 hk.2.2.2.2.2.2.2.1.1 rfl e47 dX11_costs_47 fun H1 locs1 hz hP hS => ?_
          refine lv_iconst (v := 0) hx hb dX11_costs_50 rfl ?_
          refine lv_istore_n (lv' := [(3, .int 0), (0, .ref (Γ.2.1 + 0)), (1, .int a1), (2, .int a2)]) hx hb dX11_costs_51 rfl hl (by decide) rfl fun ls hl => ?_
          have L52 : ∀ (fu : Nat) (t52 : Int32 × Va), rp (b_Quay_costs_52 z a1) fu t52 = some q → ∀ (H1 : Heap) (locs1 : List Loc) (ls1 : Array Slot), lv_has ls1 4 [(0, .ref (Γ.2.1 + 0)), (1, .int a1), (3, .int t52.1)] → Wd Γ sh t52.2 w H1 → va_S (gA Γ sh n) s.heap H1 locs1 → H1.size = Γ.2.1 + n → wpX Γ sh v w n 6 (fun x u => q = .inl (x, u)) (fun E => ∃ c, q = .inr c ∧ E = xn c) p l e s m args below meth c H1 locs1 (F0 m 52 ls1 []) := by
            refine q_loop (fun K52 ih52 t52 h H1 locs1 ls hl hP hS hz => ?_)
            unfold b_Quay_costs_52 at h
            refine lv_iload_n hx hb dX11_costs_52 rfl (lv_at hl 2 rfl) ?_
            refine lv_iload_n hx hb dX11_costs_53 rfl (lv_at hl 1 rfl) ?_
            refine lv_icmp_ge (tgt := 70) hx hb dX11_costs_54 rfl (fun hc54 => ?_) (fun hc54 => ?_)
            · have h := itt_e h hc54
              refine lv_aload_n hx hb dX11_costs_70 rfl (lv_at hl 0 rfl) ?_
              refine w_gr (k := 0) (r := 97) hx hb hts hown hK hP fX11_48 hk.1 rfl dX11_costs_71 ?_
              obtain ⟨q74, e74, h⟩ := obn_e h
              refine z_Vi (k := 97) (r1 := q74) (v1 := t52.2) hx hb hml hts hown hK hP hS hz hE (c_Stand_weightOfAll hk.2.2.2.2.2.1 e74) kX8_weightOfAll mX11_233 hk.2.2.2.2.2.1.1 rfl rfl rfl hl.1 (Nat.le_of_ble_eq_true rfl) ⟨Nat.le_of_ble_eq_true rfl, Nat.le_of_ble_eq_true rfl⟩ ⟨Nat.zero_le _, Nat.zero_le _⟩ dX11_costs_74 fun H1 locs1 hz hP hS => ?_
              refine lv_aload_n hx hb dX11_costs_77 rfl (lv_at hl 0 rfl) ?_
              refine w_gr (k := 0) (r := 123) hx hb hts hown hK hP fX11_61 hk.1 rfl dX11_costs_78 ?_
              obtain ⟨q81, e81, h⟩ := obn_e h
              refine z_Vi (k := 123) (r1 := q81) (v1 := t52.2) hx hb hml hts hown hK hP hS hz hE (c_Stand_weightOfAll hk.2.2.2.2.2.2.2.1 e81) kX8_weightOfAll mX11_233 hk.2.2.2.2.2.2.2.1.1 rfl rfl rfl hl.1 (Nat.le_of_ble_eq_true rfl) ⟨Nat.le_of_ble_eq_true rfl, Nat.le_of_ble_eq_true rfl⟩ ⟨Nat.zero_le _, Nat.zero_le _⟩ dX11_costs_81 fun H1 locs1 hz hP hS => ?_
              refine lv_isub hx hb dX11_costs_84 ?_
              exact x_iret hx hb hret rfl hlk hK hP hS hz hE (Option.some.inj h).symm dX11_costs_85
            · have h := itf_e h hc54
              refine lv_aload_n hx hb dX11_costs_57 rfl (lv_at hl 0 rfl) ?_
              refine w_gr (k := 0) (r := 123) hx hb hts hown hK hP fX11_61 hk.1 rfl dX11_costs_58 ?_
              obtain ⟨q61, e61, h⟩ := obn_e h
              refine z_Vv (k := 123) (v1 := q61) hx hb hml hts hown hK hP hS hz hE (c_Stand_loseWeight hk.2.2.2.2.2.2.2.1 e61) kX8_loseWeight mX11_230 hk.2.2.2.2.2.2.2.1.1 rfl rfl rfl hl.1 (Nat.le_of_ble_eq_true rfl) ⟨Nat.le_of_ble_eq_true rfl, Nat.le_of_ble_eq_true rfl⟩ ⟨Nat.zero_le _, Nat.zero_le _⟩ dX11_costs_61 fun H1 locs1 hz hP hS => ?_
              refine lv_iinc (k := 2) (v := (t52.1 + 1)) (lv' := [(3, .int (t52.1 + 1)), (0, .ref (Γ.2.1 + 0)), (1, .int a1)]) hx hb dX11_costs_64 hl rfl rfl (by decide) rfl fun ls hl => ?_
              refine lv_goto (tgt := 52) hx hb dX11_costs_67 rfl ?_
              exact ih52 ((t52.1 + 1), q61) h _ _ _ (lv_sub hl [1, 2, 0] rfl) hP hS hz
          exact L52 z (0, v47) h _ _ _ (lv_sub hl [1, 2, 0] rfl) hP hS hz
        · have h := itf_e h hc18
          exact x_thr hx hb hlt hml hl.1 hts hown hP hS hz hE hX hlk hout (List.mem_of_getElem? (i := 15) rfl) xk_84 xi_1 ew_1 (by decide +kernel) dX11_costs_21 dX11_costs_24 dX11_costs_25 dX11_costs_27 dX11_costs_30 (Nat.le_of_ble_eq_true rfl) (Nat.le_of_ble_eq_true rfl) ⟨1, (Option.some.inj h).symm, rfl⟩
def j_Quay_richest_81 (K45 : (Int32 × Int32) → Option ((Int32 × Va) ⊕ Nat)) (t45 : Int32 × Int32) (x81_2 : Int32) : Option ((Int32 × Va) ⊕ Nat) := K45 (x81_2, (t45.2 + 1))
def j_Quay_richest_79 (K45 : (Int32 × Int32) → Option ((Int32 × Va) ⊕ Nat)) (t45 : Int32 × Int32) : Option ((Int32 × Va) ⊕ Nat) := j_Quay_richest_81 K45 t45 t45.2
def b_Quay_richest_45 (z : Nat) (q37 : Int32 × Va) (K45 : (Int32 × Int32) → Option ((Int32 × Va) ⊕ Nat)) (t45 : Int32 × Int32) : Option ((Int32 × Va) ⊕ Nat) := if (q37.2 61 2) ≤ t45.2 then (some (.inl (t45.1, q37.2))) else (if t45.1 < 0 then (j_Quay_richest_79 K45 t45) else ((f_Stand_wealthOf z q37.2 123 t45.2).bind fun q65 => (f_Stand_wealthOf z q37.2 123 t45.1).bind fun q73 => if q65 ≤ q73 then (j_Quay_richest_81 K45 t45 t45.1) else (j_Quay_richest_79 K45 t45)))
def f_Quay_richest (z : Nat) (v : Va) (a1 : Int32) : Option ((Int32 × Va) ⊕ Nat) := if a1 < 1 then (some (.inr 1)) else (if a1 ≤ 90 then ((f_Stand_copyFrom v 123 97).bind fun q29 => (f_Days_goOn z q29 123 a1).bind fun q37 => rp (b_Quay_richest_45 z q37) z ((-1), 0)) else (some (.inr 1)))
theorem c_Quay_richest {a1 : Int32} (hk : isQuay sh) (hX : EX Γ sh) (hlt : l.stackTraces = false) {q : (Int32 × Va) ⊕ Nat} (h : f_Quay_richest z v a1 = some q) : MetX l yX11_richest cX11_richest 4 (some .int) 7 Γ sh v w n [.ref (Γ.2.1 + 0), .int a1] (fun x u => q = .inl (x, u)) (fun E => ∃ c, q = .inr c ∧ E = xn c) := by
  unfold f_Quay_richest at h
  refine w_startX pn_X11 (Nat.le_of_ble_eq_true rfl) fun p e s m args below meth c hx hb hml hret hlk hnm hts hown hK hP hz hE hS ls hl hout => ?_
  refine lv_iload_n hx hb dX11_richest_0 rfl (lv_at hl 1 rfl) ?_
  refine lv_iconst (v := 1) hx hb dX11_richest_1 rfl ?_
  refine lv_icmp_lt (tgt := 11) hx hb dX11_richest_2 rfl (fun hc2 => ?_) (fun hc2 => ?_)
  · have h := itt_e h hc2
    exact x_thr hx hb hlt hml hl.1 hts hown hP hS hz hE hX hlk hout (List.mem_of_getElem? (i := 16) rfl) xk_84 xi_1 ew_1 (by decide +kernel) dX11_richest_11 dX11_richest_14 dX11_richest_15 dX11_richest_17 dX11_richest_20 (Nat.le_of_ble_eq_true rfl) (Nat.le_of_ble_eq_true rfl) ⟨1, (Option.some.inj h).symm, rfl⟩
  · have h := itf_e h hc2
    refine lv_iload_n hx hb dX11_richest_5 rfl (lv_at hl 1 rfl) ?_
    refine lv_bipush (v := 90) hx hb dX11_richest_6 rfl ?_
    refine lv_icmp_le (tgt := 21) hx hb dX11_richest_8 rfl (fun hc8 => ?_) (fun hc8 => ?_)
    · have h := itt_e h hc8
      refine lv_aload_n hx hb dX11_richest_21 rfl (lv_at hl 0 rfl) ?_
      refine w_gr (k := 0) (r := 123) hx hb hts hown hK hP fX11_61 hk.1 rfl dX11_richest_22 ?_
      refine lv_aload_n hx hb dX11_richest_25 rfl (lv_at hl 0 rfl) ?_
      refine w_gr (k := 0) (r := 97) hx hb hts hown hK hP fX11_48 hk.1 rfl dX11_richest_26 ?_
      obtain ⟨q29, e29, h⟩ := obn_e h
      refine z_Vv (k := 123) (v1 := q29) hx hb hml hts hown hK hP hS hz hE (c_Stand_copyFrom hk.2.2.2.2.2.2.2.1 hk.2.2.2.2.2.1 (by omega) e29) kX8_copyFrom mX11_222 hk.2.2.2.2.2.2.2.1.1 rfl rfl rfl hl.1 (Nat.le_of_ble_eq_true rfl) ⟨Nat.le_of_ble_eq_true rfl, Nat.le_of_ble_eq_true rfl⟩ ⟨Nat.zero_le _, Nat.zero_le _⟩ dX11_richest_29 fun H1 locs1 hz hP hS => ?_
      refine lv_aload_n hx hb dX11_richest_32 rfl (lv_at hl 0 rfl) ?_
      refine w_gr (k := 0) (r := 145) hx hb hts hown hK hP fX11_64 hk.1 rfl dX11_richest_33 ?_
      refine lv_iload_n hx hb dX11_richest_36 rfl (lv_at hl 1 rfl) ?_
      obtain ⟨q37, e37, h⟩ := obn_e h
      refine z_Vi (k := 145) (r1 := q37.1) (v1 := q37.2) hx hb hml hts hown hK hP hS hz hE (c_Days_goOn hk.2.2.2.2.2.2.2.2 e37) kX0_goOn mX11_217 hk.2.2.2.2.2.2.2.2.1 rfl rfl rfl hl.1 (Nat.le_of_ble_eq_true rfl) ⟨Nat.le_of_ble_eq_true rfl, Nat.le_of_ble_eq_true rfl⟩ ⟨Nat.zero_le _, Nat.zero_le _⟩ dX11_richest_37 fun H1 locs1 hz hP hS => ?_
      refine lv_pop hx hb dX11_richest_40 rfl ?_
      refine lv_iconst (v := (-1)) hx hb dX11_richest_41 rfl ?_
      refine lv_istore_n (lv' := [(2, .int (-1)), (0, .ref (Γ.2.1 + 0)), (1, .int a1)]) hx hb dX11_richest_42 rfl hl (by decide) rfl fun ls hl => ?_
      refine lv_iconst (v := 0) hx hb dX11_richest_43 rfl ?_
      refine lv_istore_n (lv' := [(3, .int 0), (2, .int (-1)), (0, .ref (Γ.2.1 + 0)), (1, .int a1)]) hx hb dX11_richest_44 rfl hl (by decide) rfl fun ls hl => ?_
      have L45 : ∀ (fu : Nat) (t45 : Int32 × Int32), rp (b_Quay_richest_45 z q37) fu t45 = some q → ∀ (H1 : Heap) (locs1 : List Loc) (ls1 : Array Slot), lv_has ls1 4 [(0, .ref (Γ.2.1 + 0)), (2, .int t45.1), (3, .int t45.2)] → Wd Γ sh q37.2 w H1 → va_S (gA Γ sh n) s.heap H1 locs1 → H1.size = Γ.2.1 + n → wpX Γ sh v w n 7 (fun x u => q = .inl (x, u)) (fun E => ∃ c, q = .inr c ∧ E = xn c) p l e s m args below meth c H1 locs1 (F0 m 45 ls1 []) := by
        refine q_loop (fun K45 ih45 t45 h H1 locs1 ls hl hP hS hz => ?_)
        unfold b_Quay_richest_45 at h
        refine lv_iload_n hx hb dX11_richest_45 rfl (lv_at hl 2 rfl) ?_
        refine lv_aload_n hx hb dX11_richest_46 rfl (lv_at hl 0 rfl) ?_
        refine w_gr (k := 0) (r := 61) hx hb hts hown hK hP fX11_39 hk.1 rfl dX11_richest_47 ?_
        refine w_gi (k := 61) hx hb hts hown hK hP fX11_238 hk.2.2.2.2.1.1 rfl dX11_richest_50 ?_
        refine lv_icmp_ge (tgt := 87) hx hb dX11_richest_53 rfl (fun hc53 => ?_) (fun hc53 => ?_)
        · have h := itt_e h hc53
          refine lv_iload_n hx hb dX11_richest_87 rfl (lv_at hl 1 rfl) ?_
          exact x_iret hx hb hret rfl hlk hK hP hS hz hE (Option.some.inj h).symm dX11_richest_88
        · have h := itf_e h hc53
          refine lv_iload_n hx hb dX11_richest_56 rfl (lv_at hl 1 rfl) ?_
          have J81 : ∀ (x81_2 : Int32), (j_Quay_richest_81 K45 t45) x81_2 = some q → ∀ (H1 : Heap) (locs1 : List Loc) (ls1 : Array Slot), lv_has ls1 4 [(0, .ref (Γ.2.1 + 0)), (2, .int x81_2), (3, .int t45.2)] → Wd Γ sh q37.2 w H1 → va_S (gA Γ sh n) s.heap H1 locs1 → H1.size = Γ.2.1 + n → wpX Γ sh v w n 7 (fun x u => q = .inl (x, u)) (fun E => ∃ c, q = .inr c ∧ E = xn c) p l e s m args below meth c H1 locs1 (F0 m 81 ls1 []) := by
            intro x81_2 h H1 locs1 ls hl hP hS hz
            unfold j_Quay_richest_81 at h
            refine lv_iinc (k := 2) (v := (t45.2 + 1)) (lv' := [(3, .int (t45.2 + 1)), (0, .ref (Γ.2.1 + 0)), (2, .int x81_2)]) hx hb dX11_richest_81 hl rfl rfl (by decide) rfl fun ls hl => ?_
            refine lv_goto (tgt := 45) hx hb dX11_richest_84 rfl ?_
            exact ih45 (x81_2, (t45.2 + 1)) h _ _ _ (lv_sub hl [1, 2, 0] rfl) hP hS hz
          have J79 : (j_Quay_richest_79 K45 t45) = some q → ∀ (H1 : Heap) (locs1 : List Loc) (ls1 : Array Slot), lv_has ls1 4 [(0, .ref (Γ.2.1 + 0)), (3, .int t45.2)] → Wd Γ sh q37.2 w H1 → va_S (gA Γ sh n) s.heap H1 locs1 → H1.size = Γ.2.1 + n → wpX Γ sh v w n 7 (fun x u => q = .inl (x, u)) (fun E => ∃ c, q = .inr c ∧ E = xn c) p l e s m args below meth c H1 locs1 (F0 m 79 ls1 []) := by
            intro  h H1 locs1 ls hl hP hS hz
            unfold j_Quay_richest_79 at h
            refine lv_iload_n hx hb dX11_richest_79 rfl (lv_at hl 1 rfl) ?_
            refine lv_istore_n (lv' := [(2, .int t45.2), (0, .ref (Γ.2.1 + 0)), (3, .int t45.2)]) hx hb dX11_richest_80 rfl hl (by decide) rfl fun ls hl => ?_
            exact J81 t45.2 h _ _ _ (lv_sub hl [1, 0, 2] rfl) hP hS hz
          refine lv_if_lt (tgt := 79) hx hb dX11_richest_57 rfl (fun hc57 => ?_) (fun hc57 => ?_)
          · have h := itt_e h hc57
            exact J79 h _ _ _ (lv_sub hl [0, 2] rfl) hP hS hz
          · have h := itf_e h hc57
            refine lv_aload_n hx hb dX11_richest_60 rfl (lv_at hl 0 rfl) ?_
            refine w_gr (k := 0) (r := 123) hx hb hts hown hK hP fX11_61 hk.1 rfl dX11_richest_61 ?_
            refine lv_iload_n hx hb dX11_richest_64 rfl (lv_at hl 2 rfl) ?_
            obtain ⟨q65, e65, h⟩ := obn_e h
            refine z_Vi (k := 123) (r1 := q65) (v1 := q37.2) hx hb hml hts hown hK hP hS hz hE (c_Stand_wealthOf hk.2.2.2.2.2.2.2.1 e65) kX8_wealthOf mX11_241 hk.2.2.2.2.2.2.2.1.1 rfl rfl rfl hl.1 (Nat.le_of_ble_eq_true rfl) ⟨Nat.le_of_ble_eq_true rfl, Nat.le_of_ble_eq_true rfl⟩ ⟨Nat.zero_le _, Nat.zero_le _⟩ dX11_richest_65 fun H1 locs1 hz hP hS => ?_
            refine lv_aload_n hx hb dX11_richest_68 rfl (lv_at hl 0 rfl) ?_
            refine w_gr (k := 0) (r := 123) hx hb hts hown hK hP fX11_61 hk.1 rfl dX11_richest_69 ?_
            refine lv_iload_n hx hb dX11_richest_72 rfl (lv_at hl 1 rfl) ?_
            obtain ⟨q73, e73, h⟩ := obn_e h
            refine z_Vi (k := 123) (r1 := q73) (v1 := q37.2) hx hb hml hts hown hK hP hS hz hE (c_Stand_wealthOf hk.2.2.2.2.2.2.2.1 e73) kX8_wealthOf mX11_241 hk.2.2.2.2.2.2.2.1.1 rfl rfl rfl hl.1 (Nat.le_of_ble_eq_true rfl) ⟨Nat.le_of_ble_eq_true rfl, Nat.le_of_ble_eq_true rfl⟩ ⟨Nat.zero_le _, Nat.zero_le _⟩ dX11_richest_73 fun H1 locs1 hz hP hS => ?_
            refine lv_icmp_le (tgt := 81) hx hb dX11_richest_76 rfl (fun hc76 => ?_) (fun hc76 => ?_)
            · have h := itt_e h hc76
              exact J81 t45.1 h _ _ _ (lv_sub hl [0, 1, 2] rfl) hP hS hz
            · have h := itf_e h hc76
              exact J79 h _ _ _ (lv_sub hl [0, 2] rfl) hP hS hz
      exact L45 z ((-1), 0) h _ _ _ (lv_sub hl [2, 1, 0] rfl) hP hS hz
    · have h := itf_e h hc8
      exact x_thr hx hb hlt hml hl.1 hts hown hP hS hz hE hX hlk hout (List.mem_of_getElem? (i := 16) rfl) xk_84 xi_1 ew_1 (by decide +kernel) dX11_richest_11 dX11_richest_14 dX11_richest_15 dX11_richest_17 dX11_richest_20 (Nat.le_of_ble_eq_true rfl) (Nat.le_of_ble_eq_true rfl) ⟨1, (Option.some.inj h).symm, rfl⟩
def b_Quay_until_31 (z : Nat) (a1 : Int32) (K31 : (Int32 × Va) → Option ((Int32 × Va) ⊕ Nat)) (t31 : Int32 × Va) : Option ((Int32 × Va) ⊕ Nat) := if 150 ≤ t31.1 then ((f_Stand_isOverCredit z t31.2 123 a1).bind fun q71 => if (q_b q71) = 0 then (some (.inl ((-1), t31.2))) else (some (.inl (150, t31.2)))) else ((f_Stand_isOverCredit z t31.2 123 a1).bind fun q43 => if (q_b q43) = 0 then ((f_Days_goOn z t31.2 123 1).bind fun q56 => K31 ((t31.1 + 1), q56.2)) else (some (.inl (t31.1, t31.2))))
def f_Quay_until (z : Nat) (v : Va) (a1 : Int32) : Option ((Int32 × Va) ⊕ Nat) := (f_Quay_isMerchant v a1).bind fun q2 => if (q_b q2) = 0 then (some (.inr 2)) else ((f_Stand_copyFrom v 123 97).bind fun q26 => rp (b_Quay_until_31 z a1) z (0, q26))
theorem c_Quay_until {a1 : Int32} (hk : isQuay sh) (hX : EX Γ sh) (hlt : l.stackTraces = false) {q : (Int32 × Va) ⊕ Nat} (h : f_Quay_until z v a1 = some q) : MetX l yX11_until cX11_until 3 (some .int) 7 Γ sh v w n [.ref (Γ.2.1 + 0), .int a1] (fun x u => q = .inl (x, u)) (fun E => ∃ c, q = .inr c ∧ E = xn c) := by
  unfold f_Quay_until at h
  refine w_startX pn_X11 (Nat.le_of_ble_eq_true rfl) fun p e s m args below meth c hx hb hml hret hlk hnm hts hown hK hP hz hE hS ls hl hout => ?_
  refine lv_aload_n hx hb dX11_until_0 rfl (lv_at hl 0 rfl) ?_
  refine lv_iload_n hx hb dX11_until_1 rfl (lv_at hl 1 rfl) ?_
  obtain ⟨q2, e2, h⟩ := obn_e h
  refine z_Vi (k := 0) (r1 := (q_b q2)) (v1 := v) hx hb hml hts hown hK hP hS hz hE (c_Quay_isMerchant hk e2) kX11_isMerchant mX11_127 hk.1 rfl rfl rfl hl.1 (Nat.le_of_ble_eq_true rfl) ⟨Nat.le_of_ble_eq_true rfl, Nat.le_of_ble_eq_true rfl⟩ ⟨Nat.zero_le _, Nat.zero_le _⟩ dX11_until_2 fun H1 locs1 hz hP hS => ?_
  refine lv_if_ne (tgt := 18) hx hb dX11_until_5 rfl (fun hc5 => ?_) (fun hc5 => ?_)
  · have h := itf_e h hc5
    refine lv_aload_n hx hb dX11_until_18 rfl (lv_at hl 0 rfl) ?_
    refine w_gr (k := 0) (r := 123) hx hb hts hown hK hP fX11_61 hk.1 rfl dX11_until_19 ?_
    refine lv_aload_n hx hb dX11_until_22 rfl (lv_at hl 0 rfl) ?_
    refine w_gr (k := 0) (r := 97) hx hb hts hown hK hP fX11_48 hk.1 rfl dX11_until_23 ?_
    obtain ⟨q26, e26, h⟩ := obn_e h
    refine z_Vv (k := 123) (v1 := q26) hx hb hml hts hown hK hP hS hz hE (c_Stand_copyFrom hk.2.2.2.2.2.2.2.1 hk.2.2.2.2.2.1 (by omega) e26) kX8_copyFrom mX11_222 hk.2.2.2.2.2.2.2.1.1 rfl rfl rfl hl.1 (Nat.le_of_ble_eq_true rfl) ⟨Nat.le_of_ble_eq_true rfl, Nat.le_of_ble_eq_true rfl⟩ ⟨Nat.zero_le _, Nat.zero_le _⟩ dX11_until_26 fun H1 locs1 hz hP hS => ?_
    refine lv_iconst (v := 0) hx hb dX11_until_29 rfl ?_
    refine lv_istore_n (lv' := [(2, .int 0), (0, .ref (Γ.2.1 + 0)), (1, .int a1)]) hx hb dX11_until_30 rfl hl (by decide) rfl fun ls hl => ?_
    have L31 : ∀ (fu : Nat) (t31 : Int32 × Va), rp (b_Quay_until_31 z a1) fu t31 = some q → ∀ (H1 : Heap) (locs1 : List Loc) (ls1 : Array Slot), lv_has ls1 3 [(0, .ref (Γ.2.1 + 0)), (1, .int a1), (2, .int t31.1)] → Wd Γ sh t31.2 w H1 → va_S (gA Γ sh n) s.heap H1 locs1 → H1.size = Γ.2.1 + n → wpX Γ sh v w n 7 (fun x u => q = .inl (x, u)) (fun E => ∃ c, q = .inr c ∧ E = xn c) p l e s m args below meth c H1 locs1 (F0 m 31 ls1 []) := by
      refine q_loop (fun K31 ih31 t31 h H1 locs1 ls hl hP hS hz => ?_)
      unfold b_Quay_until_31 at h
      refine lv_iload_n hx hb dX11_until_31 rfl (lv_at hl 2 rfl) ?_
      refine lv_sipush (v := 150) hx hb dX11_until_32 rfl ?_
      refine lv_icmp_ge (tgt := 66) hx hb dX11_until_35 rfl (fun hc35 => ?_) (fun hc35 => ?_)
      · have h := itt_e h hc35
        refine lv_aload_n hx hb dX11_until_66 rfl (lv_at hl 0 rfl) ?_
        refine w_gr (k := 0) (r := 123) hx hb hts hown hK hP fX11_61 hk.1 rfl dX11_until_67 ?_
        refine lv_iload_n hx hb dX11_until_70 rfl (lv_at hl 1 rfl) ?_
        obtain ⟨q71, e71, h⟩ := obn_e h
        refine z_Vi (k := 123) (r1 := (q_b q71)) (v1 := t31.2) hx hb hml hts hown hK hP hS hz hE (c_Stand_isOverCredit hk.2.2.2.2.2.2.2.1 e71) kX8_isOverCredit mX11_244 hk.2.2.2.2.2.2.2.1.1 rfl rfl rfl hl.1 (Nat.le_of_ble_eq_true rfl) ⟨Nat.le_of_ble_eq_true rfl, Nat.le_of_ble_eq_true rfl⟩ ⟨Nat.zero_le _, Nat.zero_le _⟩ dX11_until_71 fun H1 locs1 hz hP hS => ?_
        refine lv_if_eq (tgt := 83) hx hb dX11_until_74 rfl (fun hc74 => ?_) (fun hc74 => ?_)
        · have h := itt_e h hc74
          refine lv_iconst (v := (-1)) hx hb dX11_until_83 rfl ?_
          exact x_iret hx hb hret rfl hlk hK hP hS hz hE (Option.some.inj h).symm dX11_until_84
        · have h := itf_e h hc74
          refine lv_sipush (v := 150) hx hb dX11_until_77 rfl ?_
          refine lv_goto (tgt := 84) hx hb dX11_until_80 rfl ?_
          exact x_iret hx hb hret rfl hlk hK hP hS hz hE (Option.some.inj h).symm dX11_until_84
      · have h := itf_e h hc35
        refine lv_aload_n hx hb dX11_until_38 rfl (lv_at hl 0 rfl) ?_
        refine w_gr (k := 0) (r := 123) hx hb hts hown hK hP fX11_61 hk.1 rfl dX11_until_39 ?_
        refine lv_iload_n hx hb dX11_until_42 rfl (lv_at hl 1 rfl) ?_
        obtain ⟨q43, e43, h⟩ := obn_e h
        refine z_Vi (k := 123) (r1 := (q_b q43)) (v1 := t31.2) hx hb hml hts hown hK hP hS hz hE (c_Stand_isOverCredit hk.2.2.2.2.2.2.2.1 e43) kX8_isOverCredit mX11_244 hk.2.2.2.2.2.2.2.1.1 rfl rfl rfl hl.1 (Nat.le_of_ble_eq_true rfl) ⟨Nat.le_of_ble_eq_true rfl, Nat.le_of_ble_eq_true rfl⟩ ⟨Nat.zero_le _, Nat.zero_le _⟩ dX11_until_43 fun H1 locs1 hz hP hS => ?_
        refine lv_if_eq (tgt := 51) hx hb dX11_until_46 rfl (fun hc46 => ?_) (fun hc46 => ?_)
        · have h := itt_e h hc46
          refine lv_aload_n hx hb dX11_until_51 rfl (lv_at hl 0 rfl) ?_
          refine w_gr (k := 0) (r := 145) hx hb hts hown hK hP fX11_64 hk.1 rfl dX11_until_52 ?_
          refine lv_iconst (v := 1) hx hb dX11_until_55 rfl ?_
          obtain ⟨q56, e56, h⟩ := obn_e h
          refine z_Vi (k := 145) (r1 := q56.1) (v1 := q56.2) hx hb hml hts hown hK hP hS hz hE (c_Days_goOn hk.2.2.2.2.2.2.2.2 e56) kX0_goOn mX11_217 hk.2.2.2.2.2.2.2.2.1 rfl rfl rfl hl.1 (Nat.le_of_ble_eq_true rfl) ⟨Nat.le_of_ble_eq_true rfl, Nat.le_of_ble_eq_true rfl⟩ ⟨Nat.zero_le _, Nat.zero_le _⟩ dX11_until_56 fun H1 locs1 hz hP hS => ?_
          refine lv_pop hx hb dX11_until_59 rfl ?_
          refine lv_iinc (k := 2) (v := (t31.1 + 1)) (lv' := [(2, .int (t31.1 + 1)), (0, .ref (Γ.2.1 + 0)), (1, .int a1)]) hx hb dX11_until_60 hl rfl rfl (by decide) rfl fun ls hl => ?_
          refine lv_goto (tgt := 31) hx hb dX11_until_63 rfl ?_
          exact ih31 ((t31.1 + 1), q56.2) h _ _ _ (lv_sub hl [1, 2, 0] rfl) hP hS hz
        · have h := itf_e h hc46
          refine lv_iload_n hx hb dX11_until_49 rfl (lv_at hl 2 rfl) ?_
          exact x_iret hx hb hret rfl hlk hK hP hS hz hE (Option.some.inj h).symm dX11_until_50
    exact L31 z (0, q26) h _ _ _ (lv_sub hl [1, 2, 0] rfl) hP hS hz
  · have h := itt_e h hc5
    exact x_thr hx hb hlt hml hl.1 hts hown hP hS hz hE hX hlk hout (List.mem_of_getElem? (i := 7) rfl) xk_108 xi_2 ew_2 (by decide +kernel) dX11_until_8 dX11_until_11 dX11_until_12 dX11_until_14 dX11_until_17 (Nat.le_of_ble_eq_true rfl) (Nat.le_of_ble_eq_true rfl) ⟨2, (Option.some.inj h).symm, rfl⟩
end GE
