/-! THE LAW'S TURNS, part 2 -/
theorem turn_setDamp {p : Program} {l : Launch} {e : Env} {s : State} {m : MethodId} {args : Array Value} {below : List Frame} {meth : Method} {c : Code} {Q : State → Prop} {Γ : Cx} {b L cells slots : Nat} {xs : Nat → Int32} {i : Int32} (hc : LC Γ p s m args c b L xs) (hlt : l.stackTraces = false) (h0 : 0 ≤ i.toInt) (h1 : i.toInt + 6 ≤ L) (hrc : cells + 30 ≤ room_1.cells) (hrs : slots + 2000 ≤ room_1.slots) (kk : LK l Γ p e s m args below meth c b i (cells + 30) (slots + 2000) Q 1473) : LK l Γ p e s m args below meth c b i cells slots Q 854 := by
  intro sh v w n sp H locs ls hd hP hS hz hl
  obtain ⟨hx, hb, hml, hts, hown, hK, hE, hF, hX, hN, hsc, hbl, hbA, hL⟩ := hc
  have hq := hd.1
  have hm := hd.2.1
  have h4 := hd.2.2.1
  have hI := hd.2.2.2.1
  have hn := hd.2.2.2.2.1
  have hsp := hd.2.2.2.2.2

  refine lv_aload_n hx hb dL_law_854 rfl (lv_at hl 3 rfl) ?_
  refine lv_aload_n hx hb dL_law_855 rfl (lv_at hl 4 rfl) ?_
  refine lv_iload hx hb dL_law_856 (lv_at hl 0 rfl) ?_
  refine lv_iconst (v := 1) hx hb dL_law_858 rfl ?_
  refine lv_iadd hx hb dL_law_859 ?_
  refine va_sld hx hb hsc hbl hbA hS (sc_in h0 h1 hL (a := 1) ⟨by decide, by decide⟩) dL_law_860 ?_
  refine lv_aload_n hx hb dL_law_861 rfl (lv_at hl 1 rfl) ?_
  rcases s_setDamp (z := 5000) hI (xs (i + 1).toNatClampNeg) with ⟨x, v1, v2, e1, e2, e3, hI2⟩ | ⟨k, t, y, v2, hkt, e1, e2, e3, hI2⟩
  · refine z_SS (own := RL) hx hb hml hts hown hK hP hS hz hE (c_L_setDamp hq h4 hX hN hlt e1 (fun c h => by cases h)) kL_setDamp (tk5 (i := 205) (by decide +kernel) rfl) rfl rfl hl.1 (Nat.le_of_ble_eq_true rfl) ⟨Nat.le_of_ble_eq_true rfl, Nat.le_of_ble_eq_true rfl⟩ ⟨by omega, by omega⟩ dL_law_862 fun r u H1 locs1 hp hz hP hS => ?_
    rcases Or.symm hp with ⟨c9, hq9, -⟩ | ⟨a9, v9, hq9, rfl, rfl⟩
    · cases hq9
    cases hq9
    have hz : H1.size = Γ.2.1 + n := hz
    have hP : Wd Γ sh v1 (up w 194 (lu (w 194) 0 x.toInt64)) H1 := hP
    refine lv_istore (lv' := (5, .int 0) :: LL Γ b i) hx hb dL_law_865 hl (by decide) rfl fun ls hl => ?_
    refine lv_aload_n hx hb dL_law_867 rfl (lv_at hl 3 rfl) ?_
    refine lv_aload_n hx hb dL_law_868 rfl (lv_at hl 5 rfl) ?_
    refine lv_iload hx hb dL_law_869 (lv_at hl 1 rfl) ?_
    refine lv_iconst (v := 1) hx hb dL_law_871 rfl ?_
    refine lv_iadd hx hb dL_law_872 ?_
    refine va_sld hx hb hsc hbl hbA hS (sc_in h0 h1 hL (a := 1) ⟨by decide, by decide⟩) dL_law_873 ?_
    refine z_Vi (k := 149) (r1 := x) (v1 := v2) hx hb hml hts hown hK hP hS hz hE (c_Model_setDamp hm e2) kX14_setDamp mL_129 hm.1 rfl rfl rfl hl.1 (Nat.le_of_ble_eq_true rfl) ⟨Nat.le_of_ble_eq_true rfl, Nat.le_of_ble_eq_true rfl⟩ ⟨by omega, by omega⟩ dL_law_874 fun H1 locs1 hz hP hS => ?_
    have hd2 : LD sh v2 n sp := hd.go hI2 (Nat.le_refl _)
    refine lv_istore (lv' := (6, .int x) :: (5, .int 0) :: LL Γ b i) hx hb dL_law_877 hl (by decide) rfl fun ls hl => ?_
    refine lv_aload_n hx hb dL_law_879 rfl (lv_at hl 4 rfl) ?_
    refine z_Vi (k := 149) (r1 := v2 149 0) (v1 := v2) hx hb hml hts hown hK hP hS hz hE (c_Model_thrown (q := v2 149 0) hm rfl) kX14_thrown mL_86 hm.1 rfl rfl rfl hl.1 (Nat.le_of_ble_eq_true rfl) ⟨Nat.le_of_ble_eq_true rfl, Nat.le_of_ble_eq_true rfl⟩ ⟨by omega, by omega⟩ dL_law_880 fun H1 locs1 hz hP hS => ?_
    refine lv_iload hx hb dL_law_883 (lv_at hl 1 rfl) ?_
    refine lv_icmp_eq (tgt := 890) hx hb dL_law_885 rfl (fun _ => ?_) (fun hne => absurd e3 hne)
    refine lv_iload hx hb dL_law_890 (lv_at hl 1 rfl) ?_
    refine lv_if_ne (tgt := 907) hx hb dL_law_892 rfl (fun h => absurd rfl h) (fun _ => ?_)
    refine lv_aload_n hx hb dL_law_895 rfl (lv_at hl 3 rfl) ?_
    refine lv_iconst (v := 0) hx hb dL_law_896 rfl ?_
    refine w_lald (k := 194) (N := 1) hx hb hK hP h4 pin_1 dL_law_897 ?_
    rw [lu_0]
    refine lv_iload hx hb dL_law_898 (lv_at hl 0 rfl) ?_
    refine lv_i2l (v := x.toInt64) hx hb dL_law_900 rfl ?_
    refine lv_lcmpE hx hb dL_law_901 ?_
    refine lv_if_eq (tgt := 907) hx hb dL_law_902 rfl (fun _ => ?_) (fun h => absurd rfl h)
    refine lv_goto (tgt := 1473) hx hb dL_law_907 rfl ?_
    refine W.widen (k := cells + 30) (n := slots + 2000) (by omega) (by omega) ?_
    exact kk _ _ _ _ _ _ _ _ hd2 hP hS hz hl.two
  · simp only [List.mem_cons, Prod.mk.injEq, List.not_mem_nil, or_false] at hkt
    have hk9 : k = 1 := hkt.1
    refine z_SS (own := RL) hx hb hml hts hown hK hP hS hz hE (c_L_setDamp hq h4 hX hN hlt e1 (fun c h => by cases h; exact hk9)) kL_setDamp (tk5 (i := 205) (by decide +kernel) rfl) rfl rfl hl.1 (Nat.le_of_ble_eq_true rfl) ⟨Nat.le_of_ble_eq_true rfl, Nat.le_of_ble_eq_true rfl⟩ ⟨by omega, by omega⟩ dL_law_862 fun r u H1 locs1 hp hz hP hS => ?_
    rcases hp with ⟨a9, v9, hq9, -⟩ | ⟨c9, hq9, hr, hu1, hu2, hn2⟩
    · cases hq9
    cases hq9
    rw [hu1, hu2] at hP
    have hrt : r = t := hr.2.trans hkt.2.symm
    have hr0 : ¬ r = 0 := by rw [hr.2]; decide
    refine lv_istore (lv' := (5, .int r) :: LL Γ b i) hx hb dL_law_865 hl (by decide) rfl fun ls hl => ?_
    refine lv_aload_n hx hb dL_law_867 rfl (lv_at hl 3 rfl) ?_
    refine lv_aload_n hx hb dL_law_868 rfl (lv_at hl 5 rfl) ?_
    refine lv_iload hx hb dL_law_869 (lv_at hl 1 rfl) ?_
    refine lv_iconst (v := 1) hx hb dL_law_871 rfl ?_
    refine lv_iadd hx hb dL_law_872 ?_
    refine va_sld hx hb hsc hbl hbA hS (sc_in h0 h1 hL (a := 1) ⟨by decide, by decide⟩) dL_law_873 ?_
    refine z_Vi (k := 149) (r1 := y) (v1 := v2) hx hb hml hts hown hK hP hS hz hE (c_Model_setDamp hm e2) kX14_setDamp mL_129 hm.1 rfl rfl rfl hl.1 (Nat.le_of_ble_eq_true rfl) ⟨Nat.le_of_ble_eq_true rfl, Nat.le_of_ble_eq_true rfl⟩ ⟨by omega, by omega⟩ dL_law_874 fun H1 locs1 hz hP hS => ?_
    have hd2 : LD sh v2 u.2.2 sp := hd.go hI2 hn2
    refine lv_istore (lv' := (6, .int y) :: (5, .int r) :: LL Γ b i) hx hb dL_law_877 hl (by decide) rfl fun ls hl => ?_
    refine lv_aload_n hx hb dL_law_879 rfl (lv_at hl 4 rfl) ?_
    refine z_Vi (k := 149) (r1 := v2 149 0) (v1 := v2) hx hb hml hts hown hK hP hS hz hE (c_Model_thrown (q := v2 149 0) hm rfl) kX14_thrown mL_86 hm.1 rfl rfl rfl hl.1 (Nat.le_of_ble_eq_true rfl) ⟨Nat.le_of_ble_eq_true rfl, Nat.le_of_ble_eq_true rfl⟩ ⟨by omega, by omega⟩ dL_law_880 fun H1 locs1 hz hP hS => ?_
    refine lv_iload hx hb dL_law_883 (lv_at hl 1 rfl) ?_
    refine lv_icmp_eq (tgt := 890) hx hb dL_law_885 rfl (fun _ => ?_) (fun hne => absurd (e3.trans hrt.symm) hne)
    refine lv_iload hx hb dL_law_890 (lv_at hl 1 rfl) ?_
    refine lv_if_ne (tgt := 907) hx hb dL_law_892 rfl (fun _ => ?_) (fun h => absurd h hr0)
    refine lv_goto (tgt := 1473) hx hb dL_law_907 rfl ?_
    refine W.widen (k := cells + 30) (n := slots + 2000) (by omega) (by omega) ?_
    exact kk _ _ _ _ _ _ _ _ hd2 hP hS hz hl.two
theorem turn_lend {p : Program} {l : Launch} {e : Env} {s : State} {m : MethodId} {args : Array Value} {below : List Frame} {meth : Method} {c : Code} {Q : State → Prop} {Γ : Cx} {b L cells slots : Nat} {xs : Nat → Int32} {i : Int32} (hc : LC Γ p s m args c b L xs) (hlt : l.stackTraces = false) (h0 : 0 ≤ i.toInt) (h1 : i.toInt + 6 ≤ L) (hrc : cells + 30 ≤ room_1.cells) (hrs : slots + 2000 ≤ room_1.slots) (kk : LK l Γ p e s m args below meth c b i (cells + 30) (slots + 2000) Q 1473) : LK l Γ p e s m args below meth c b i cells slots Q 910 := by
  intro sh v w n sp H locs ls hd hP hS hz hl
  obtain ⟨hx, hb, hml, hts, hown, hK, hE, hF, hX, hN, hsc, hbl, hbA, hL⟩ := hc
  have hq := hd.1
  have hm := hd.2.1
  have h4 := hd.2.2.1
  have hI := hd.2.2.2.1
  have hn := hd.2.2.2.2.1
  have hsp := hd.2.2.2.2.2

  refine lv_aload_n hx hb dL_law_910 rfl (lv_at hl 3 rfl) ?_
  refine lv_aload_n hx hb dL_law_911 rfl (lv_at hl 4 rfl) ?_
  refine lv_iload hx hb dL_law_912 (lv_at hl 0 rfl) ?_
  refine lv_iconst (v := 1) hx hb dL_law_914 rfl ?_
  refine lv_iadd hx hb dL_law_915 ?_
  refine va_sld hx hb hsc hbl hbA hS (sc_in h0 h1 hL (a := 1) ⟨by decide, by decide⟩) dL_law_916 ?_
  refine lv_aload_n hx hb dL_law_917 rfl (lv_at hl 4 rfl) ?_
  refine lv_iload hx hb dL_law_918 (lv_at hl 0 rfl) ?_
  refine lv_iconst (v := 2) hx hb dL_law_920 rfl ?_
  refine lv_iadd hx hb dL_law_921 ?_
  refine va_sld hx hb hsc hbl hbA hS (sc_in h0 h1 hL (a := 2) ⟨by decide, by decide⟩) dL_law_922 ?_
  refine lv_aload_n hx hb dL_law_923 rfl (lv_at hl 4 rfl) ?_
  refine lv_iload hx hb dL_law_924 (lv_at hl 0 rfl) ?_
  refine lv_iconst (v := 3) hx hb dL_law_926 rfl ?_
  refine lv_iadd hx hb dL_law_927 ?_
  refine va_sld hx hb hsc hbl hbA hS (sc_in h0 h1 hL (a := 3) ⟨by decide, by decide⟩) dL_law_928 ?_
  refine lv_aload_n hx hb dL_law_929 rfl (lv_at hl 1 rfl) ?_
  rcases s_lend (z := 5000) (by omega) hI (xs (i + 1).toNatClampNeg) (xs (i + 2).toNatClampNeg) (xs (i + 3).toNatClampNeg) with ⟨x, v1, v2, e1, e2, e3, hI2⟩ | ⟨k, t, y, v2, hkt, e1, e2, e3, hI2⟩
  · refine z_SS (own := RL) hx hb hml hts hown hK hP hS hz hE (c_L_lend hq h4 hX hN hlt e1 (fun c h => by cases h)) kL_lend (tk5 (i := 213) (by decide +kernel) rfl) rfl rfl hl.1 (Nat.le_of_ble_eq_true rfl) ⟨Nat.le_of_ble_eq_true rfl, Nat.le_of_ble_eq_true rfl⟩ ⟨by omega, by omega⟩ dL_law_930 fun r u H1 locs1 hp hz hP hS => ?_
    rcases Or.symm hp with ⟨c9, hq9, -⟩ | ⟨a9, v9, hq9, rfl, rfl⟩
    · cases hq9
    cases hq9
    have hz : H1.size = Γ.2.1 + n := hz
    have hP : Wd Γ sh v1 (up w 194 (lu (w 194) 0 x.toInt64)) H1 := hP
    refine lv_istore (lv' := (5, .int 0) :: LL Γ b i) hx hb dL_law_933 hl (by decide) rfl fun ls hl => ?_
    refine lv_aload_n hx hb dL_law_935 rfl (lv_at hl 3 rfl) ?_
    refine lv_aload_n hx hb dL_law_936 rfl (lv_at hl 5 rfl) ?_
    refine lv_iload hx hb dL_law_937 (lv_at hl 1 rfl) ?_
    refine lv_iconst (v := 1) hx hb dL_law_939 rfl ?_
    refine lv_iadd hx hb dL_law_940 ?_
    refine va_sld hx hb hsc hbl hbA hS (sc_in h0 h1 hL (a := 1) ⟨by decide, by decide⟩) dL_law_941 ?_
    refine lv_aload_n hx hb dL_law_942 rfl (lv_at hl 5 rfl) ?_
    refine lv_iload hx hb dL_law_943 (lv_at hl 1 rfl) ?_
    refine lv_iconst (v := 2) hx hb dL_law_945 rfl ?_
    refine lv_iadd hx hb dL_law_946 ?_
    refine va_sld hx hb hsc hbl hbA hS (sc_in h0 h1 hL (a := 2) ⟨by decide, by decide⟩) dL_law_947 ?_
    refine lv_aload_n hx hb dL_law_948 rfl (lv_at hl 5 rfl) ?_
    refine lv_iload hx hb dL_law_949 (lv_at hl 1 rfl) ?_
    refine lv_iconst (v := 3) hx hb dL_law_951 rfl ?_
    refine lv_iadd hx hb dL_law_952 ?_
    refine va_sld hx hb hsc hbl hbA hS (sc_in h0 h1 hL (a := 3) ⟨by decide, by decide⟩) dL_law_953 ?_
    refine z_Vi (k := 149) (r1 := x) (v1 := v2) hx hb hml hts hown hK hP hS hz hE (c_Model_lend hm e2) kX14_lend mL_133 hm.1 rfl rfl rfl hl.1 (Nat.le_of_ble_eq_true rfl) ⟨Nat.le_of_ble_eq_true rfl, Nat.le_of_ble_eq_true rfl⟩ ⟨by omega, by omega⟩ dL_law_954 fun H1 locs1 hz hP hS => ?_
    have hd2 : LD sh v2 n sp := hd.go hI2 (Nat.le_refl _)
    refine lv_istore (lv' := (6, .int x) :: (5, .int 0) :: LL Γ b i) hx hb dL_law_957 hl (by decide) rfl fun ls hl => ?_
    refine lv_aload_n hx hb dL_law_959 rfl (lv_at hl 4 rfl) ?_
    refine z_Vi (k := 149) (r1 := v2 149 0) (v1 := v2) hx hb hml hts hown hK hP hS hz hE (c_Model_thrown (q := v2 149 0) hm rfl) kX14_thrown mL_86 hm.1 rfl rfl rfl hl.1 (Nat.le_of_ble_eq_true rfl) ⟨Nat.le_of_ble_eq_true rfl, Nat.le_of_ble_eq_true rfl⟩ ⟨by omega, by omega⟩ dL_law_960 fun H1 locs1 hz hP hS => ?_
    refine lv_iload hx hb dL_law_963 (lv_at hl 1 rfl) ?_
    refine lv_icmp_eq (tgt := 970) hx hb dL_law_965 rfl (fun _ => ?_) (fun hne => absurd e3 hne)
    refine lv_iload hx hb dL_law_970 (lv_at hl 1 rfl) ?_
    refine lv_if_ne (tgt := 987) hx hb dL_law_972 rfl (fun h => absurd rfl h) (fun _ => ?_)
    refine lv_aload_n hx hb dL_law_975 rfl (lv_at hl 3 rfl) ?_
    refine lv_iconst (v := 0) hx hb dL_law_976 rfl ?_
    refine w_lald (k := 194) (N := 1) hx hb hK hP h4 pin_1 dL_law_977 ?_
    rw [lu_0]
    refine lv_iload hx hb dL_law_978 (lv_at hl 0 rfl) ?_
    refine lv_i2l (v := x.toInt64) hx hb dL_law_980 rfl ?_
    refine lv_lcmpE hx hb dL_law_981 ?_
    refine lv_if_eq (tgt := 987) hx hb dL_law_982 rfl (fun _ => ?_) (fun h => absurd rfl h)
    refine lv_goto (tgt := 1473) hx hb dL_law_987 rfl ?_
    refine W.widen (k := cells + 30) (n := slots + 2000) (by omega) (by omega) ?_
    exact kk _ _ _ _ _ _ _ _ hd2 hP hS hz hl.two
  · simp only [List.mem_cons, Prod.mk.injEq, List.not_mem_nil, or_false] at hkt
    have hk9 : k = 2 ∨ k = 1 ∨ k = 0 := by rcases hkt with ⟨h, -⟩ | ⟨h, -⟩ | ⟨h, -⟩ <;> simp [h]
    refine z_SS (own := RL) hx hb hml hts hown hK hP hS hz hE (c_L_lend hq h4 hX hN hlt e1 (fun c h => by cases h; exact hk9)) kL_lend (tk5 (i := 213) (by decide +kernel) rfl) rfl rfl hl.1 (Nat.le_of_ble_eq_true rfl) ⟨Nat.le_of_ble_eq_true rfl, Nat.le_of_ble_eq_true rfl⟩ ⟨by omega, by omega⟩ dL_law_930 fun r u H1 locs1 hp hz hP hS => ?_
    rcases hp with ⟨a9, v9, hq9, -⟩ | ⟨c9, hq9, hr, hu1, hu2, hn2⟩
    · cases hq9
    cases hq9
    rw [hu1, hu2] at hP
    have hrt : r = t := by rcases hkt with ⟨f1, f2⟩ | ⟨f1, f2⟩ | ⟨f1, f2⟩ <;> rcases hr with ⟨g1, g2⟩ | ⟨g1, g2⟩ | ⟨g1, g2⟩ <;> first | exact g2.trans f2.symm | (exfalso; omega)
    have hr0 : ¬ r = 0 := by rcases hr with ⟨g1, g2⟩ | ⟨g1, g2⟩ | ⟨g1, g2⟩ <;> (rw [g2]; decide)
    refine lv_istore (lv' := (5, .int r) :: LL Γ b i) hx hb dL_law_933 hl (by decide) rfl fun ls hl => ?_
    refine lv_aload_n hx hb dL_law_935 rfl (lv_at hl 3 rfl) ?_
    refine lv_aload_n hx hb dL_law_936 rfl (lv_at hl 5 rfl) ?_
    refine lv_iload hx hb dL_law_937 (lv_at hl 1 rfl) ?_
    refine lv_iconst (v := 1) hx hb dL_law_939 rfl ?_
    refine lv_iadd hx hb dL_law_940 ?_
    refine va_sld hx hb hsc hbl hbA hS (sc_in h0 h1 hL (a := 1) ⟨by decide, by decide⟩) dL_law_941 ?_
    refine lv_aload_n hx hb dL_law_942 rfl (lv_at hl 5 rfl) ?_
    refine lv_iload hx hb dL_law_943 (lv_at hl 1 rfl) ?_
    refine lv_iconst (v := 2) hx hb dL_law_945 rfl ?_
    refine lv_iadd hx hb dL_law_946 ?_
    refine va_sld hx hb hsc hbl hbA hS (sc_in h0 h1 hL (a := 2) ⟨by decide, by decide⟩) dL_law_947 ?_
    refine lv_aload_n hx hb dL_law_948 rfl (lv_at hl 5 rfl) ?_
    refine lv_iload hx hb dL_law_949 (lv_at hl 1 rfl) ?_
    refine lv_iconst (v := 3) hx hb dL_law_951 rfl ?_
    refine lv_iadd hx hb dL_law_952 ?_
    refine va_sld hx hb hsc hbl hbA hS (sc_in h0 h1 hL (a := 3) ⟨by decide, by decide⟩) dL_law_953 ?_
    refine z_Vi (k := 149) (r1 := y) (v1 := v2) hx hb hml hts hown hK hP hS hz hE (c_Model_lend hm e2) kX14_lend mL_133 hm.1 rfl rfl rfl hl.1 (Nat.le_of_ble_eq_true rfl) ⟨Nat.le_of_ble_eq_true rfl, Nat.le_of_ble_eq_true rfl⟩ ⟨by omega, by omega⟩ dL_law_954 fun H1 locs1 hz hP hS => ?_
    have hd2 : LD sh v2 u.2.2 sp := hd.go hI2 hn2
    refine lv_istore (lv' := (6, .int y) :: (5, .int r) :: LL Γ b i) hx hb dL_law_957 hl (by decide) rfl fun ls hl => ?_
    refine lv_aload_n hx hb dL_law_959 rfl (lv_at hl 4 rfl) ?_
    refine z_Vi (k := 149) (r1 := v2 149 0) (v1 := v2) hx hb hml hts hown hK hP hS hz hE (c_Model_thrown (q := v2 149 0) hm rfl) kX14_thrown mL_86 hm.1 rfl rfl rfl hl.1 (Nat.le_of_ble_eq_true rfl) ⟨Nat.le_of_ble_eq_true rfl, Nat.le_of_ble_eq_true rfl⟩ ⟨by omega, by omega⟩ dL_law_960 fun H1 locs1 hz hP hS => ?_
    refine lv_iload hx hb dL_law_963 (lv_at hl 1 rfl) ?_
    refine lv_icmp_eq (tgt := 970) hx hb dL_law_965 rfl (fun _ => ?_) (fun hne => absurd (e3.trans hrt.symm) hne)
    refine lv_iload hx hb dL_law_970 (lv_at hl 1 rfl) ?_
    refine lv_if_ne (tgt := 987) hx hb dL_law_972 rfl (fun _ => ?_) (fun h => absurd h hr0)
    refine lv_goto (tgt := 1473) hx hb dL_law_987 rfl ?_
    refine W.widen (k := cells + 30) (n := slots + 2000) (by omega) (by omega) ?_
    exact kk _ _ _ _ _ _ _ _ hd2 hP hS hz hl.two
theorem turn_offset {p : Program} {l : Launch} {e : Env} {s : State} {m : MethodId} {args : Array Value} {below : List Frame} {meth : Method} {c : Code} {Q : State → Prop} {Γ : Cx} {b L cells slots : Nat} {xs : Nat → Int32} {i : Int32} (hc : LC Γ p s m args c b L xs) (hlt : l.stackTraces = false) (h0 : 0 ≤ i.toInt) (h1 : i.toInt + 6 ≤ L) (hrc : cells + 30 ≤ room_1.cells) (hrs : slots + 2000 ≤ room_1.slots) (kk : LK l Γ p e s m args below meth c b i (cells + 30) (slots + 2000) Q 1473) : LK l Γ p e s m args below meth c b i cells slots Q 990 := by
  intro sh v w n sp H locs ls hd hP hS hz hl
  obtain ⟨hx, hb, hml, hts, hown, hK, hE, hF, hX, hN, hsc, hbl, hbA, hL⟩ := hc
  have hq := hd.1
  have hm := hd.2.1
  have h4 := hd.2.2.1
  have hI := hd.2.2.2.1
  have hn := hd.2.2.2.2.1
  have hsp := hd.2.2.2.2.2

  refine lv_aload_n hx hb dL_law_990 rfl (lv_at hl 3 rfl) ?_
  refine lv_aload_n hx hb dL_law_991 rfl (lv_at hl 4 rfl) ?_
  refine lv_iload hx hb dL_law_992 (lv_at hl 0 rfl) ?_
  refine lv_iconst (v := 1) hx hb dL_law_994 rfl ?_
  refine lv_iadd hx hb dL_law_995 ?_
  refine va_sld hx hb hsc hbl hbA hS (sc_in h0 h1 hL (a := 1) ⟨by decide, by decide⟩) dL_law_996 ?_
  refine lv_aload_n hx hb dL_law_997 rfl (lv_at hl 4 rfl) ?_
  refine lv_iload hx hb dL_law_998 (lv_at hl 0 rfl) ?_
  refine lv_iconst (v := 2) hx hb dL_law_1000 rfl ?_
  refine lv_iadd hx hb dL_law_1001 ?_
  refine va_sld hx hb hsc hbl hbA hS (sc_in h0 h1 hL (a := 2) ⟨by decide, by decide⟩) dL_law_1002 ?_
  refine lv_aload_n hx hb dL_law_1003 rfl (lv_at hl 1 rfl) ?_
  rcases s_offset (z := 5000) hI (xs (i + 1).toNatClampNeg) (xs (i + 2).toNatClampNeg) with ⟨x, v1, v2, e1, e2, e3, hI2⟩ | ⟨k, t, y, v2, hkt, e1, e2, e3, hI2⟩
  · refine z_SS (own := RL) hx hb hml hts hown hK hP hS hz hE (c_L_offset hq h4 hX hN hlt e1 (fun c h => by cases h)) kL_offset (tk5 (i := 236) (by decide +kernel) rfl) rfl rfl hl.1 (Nat.le_of_ble_eq_true rfl) ⟨Nat.le_of_ble_eq_true rfl, Nat.le_of_ble_eq_true rfl⟩ ⟨by omega, by omega⟩ dL_law_1004 fun r u H1 locs1 hp hz hP hS => ?_
    rcases Or.symm hp with ⟨c9, hq9, -⟩ | ⟨a9, v9, hq9, rfl, rfl⟩
    · cases hq9
    cases hq9
    have hz : H1.size = Γ.2.1 + n := hz
    have hP : Wd Γ sh v1 (up w 194 (lu (w 194) 0 x.toInt64)) H1 := hP
    refine lv_istore (lv' := (5, .int 0) :: LL Γ b i) hx hb dL_law_1007 hl (by decide) rfl fun ls hl => ?_
    refine lv_aload_n hx hb dL_law_1009 rfl (lv_at hl 3 rfl) ?_
    refine lv_aload_n hx hb dL_law_1010 rfl (lv_at hl 5 rfl) ?_
    refine lv_iload hx hb dL_law_1011 (lv_at hl 1 rfl) ?_
    refine lv_iconst (v := 1) hx hb dL_law_1013 rfl ?_
    refine lv_iadd hx hb dL_law_1014 ?_
    refine va_sld hx hb hsc hbl hbA hS (sc_in h0 h1 hL (a := 1) ⟨by decide, by decide⟩) dL_law_1015 ?_
    refine lv_aload_n hx hb dL_law_1016 rfl (lv_at hl 5 rfl) ?_
    refine lv_iload hx hb dL_law_1017 (lv_at hl 1 rfl) ?_
    refine lv_iconst (v := 2) hx hb dL_law_1019 rfl ?_
    refine lv_iadd hx hb dL_law_1020 ?_
    refine va_sld hx hb hsc hbl hbA hS (sc_in h0 h1 hL (a := 2) ⟨by decide, by decide⟩) dL_law_1021 ?_
    refine z_Vi (k := 149) (r1 := x) (v1 := v2) hx hb hml hts hown hK hP hS hz hE (c_Model_offset hm e2) kX14_offset mL_136 hm.1 rfl rfl rfl hl.1 (Nat.le_of_ble_eq_true rfl) ⟨Nat.le_of_ble_eq_true rfl, Nat.le_of_ble_eq_true rfl⟩ ⟨by omega, by omega⟩ dL_law_1022 fun H1 locs1 hz hP hS => ?_
    have hd2 : LD sh v2 n sp := hd.go hI2 (Nat.le_refl _)
    refine lv_istore (lv' := (6, .int x) :: (5, .int 0) :: LL Γ b i) hx hb dL_law_1025 hl (by decide) rfl fun ls hl => ?_
    refine lv_aload_n hx hb dL_law_1027 rfl (lv_at hl 4 rfl) ?_
    refine z_Vi (k := 149) (r1 := v2 149 0) (v1 := v2) hx hb hml hts hown hK hP hS hz hE (c_Model_thrown (q := v2 149 0) hm rfl) kX14_thrown mL_86 hm.1 rfl rfl rfl hl.1 (Nat.le_of_ble_eq_true rfl) ⟨Nat.le_of_ble_eq_true rfl, Nat.le_of_ble_eq_true rfl⟩ ⟨by omega, by omega⟩ dL_law_1028 fun H1 locs1 hz hP hS => ?_
    refine lv_iload hx hb dL_law_1031 (lv_at hl 1 rfl) ?_
    refine lv_icmp_eq (tgt := 1038) hx hb dL_law_1033 rfl (fun _ => ?_) (fun hne => absurd e3 hne)
    refine lv_iload hx hb dL_law_1038 (lv_at hl 1 rfl) ?_
    refine lv_if_ne (tgt := 1055) hx hb dL_law_1040 rfl (fun h => absurd rfl h) (fun _ => ?_)
    refine lv_aload_n hx hb dL_law_1043 rfl (lv_at hl 3 rfl) ?_
    refine lv_iconst (v := 0) hx hb dL_law_1044 rfl ?_
    refine w_lald (k := 194) (N := 1) hx hb hK hP h4 pin_1 dL_law_1045 ?_
    rw [lu_0]
    refine lv_iload hx hb dL_law_1046 (lv_at hl 0 rfl) ?_
    refine lv_i2l (v := x.toInt64) hx hb dL_law_1048 rfl ?_
    refine lv_lcmpE hx hb dL_law_1049 ?_
    refine lv_if_eq (tgt := 1055) hx hb dL_law_1050 rfl (fun _ => ?_) (fun h => absurd rfl h)
    refine lv_goto (tgt := 1473) hx hb dL_law_1055 rfl ?_
    refine W.widen (k := cells + 30) (n := slots + 2000) (by omega) (by omega) ?_
    exact kk _ _ _ _ _ _ _ _ hd2 hP hS hz hl.two
  · simp only [List.mem_cons, Prod.mk.injEq, List.not_mem_nil, or_false] at hkt
    have hk9 : k = 2 ∨ k = 1 := by rcases hkt with ⟨h, -⟩ | ⟨h, -⟩ <;> simp [h]
    refine z_SS (own := RL) hx hb hml hts hown hK hP hS hz hE (c_L_offset hq h4 hX hN hlt e1 (fun c h => by cases h; exact hk9)) kL_offset (tk5 (i := 236) (by decide +kernel) rfl) rfl rfl hl.1 (Nat.le_of_ble_eq_true rfl) ⟨Nat.le_of_ble_eq_true rfl, Nat.le_of_ble_eq_true rfl⟩ ⟨by omega, by omega⟩ dL_law_1004 fun r u H1 locs1 hp hz hP hS => ?_
    rcases hp with ⟨a9, v9, hq9, -⟩ | ⟨c9, hq9, hr, hu1, hu2, hn2⟩
    · cases hq9
    cases hq9
    rw [hu1, hu2] at hP
    have hrt : r = t := by rcases hkt with ⟨f1, f2⟩ | ⟨f1, f2⟩ <;> rcases hr with ⟨g1, g2⟩ | ⟨g1, g2⟩ <;> first | exact g2.trans f2.symm | (exfalso; omega)
    have hr0 : ¬ r = 0 := by rcases hr with ⟨g1, g2⟩ | ⟨g1, g2⟩ <;> (rw [g2]; decide)
    refine lv_istore (lv' := (5, .int r) :: LL Γ b i) hx hb dL_law_1007 hl (by decide) rfl fun ls hl => ?_
    refine lv_aload_n hx hb dL_law_1009 rfl (lv_at hl 3 rfl) ?_
    refine lv_aload_n hx hb dL_law_1010 rfl (lv_at hl 5 rfl) ?_
    refine lv_iload hx hb dL_law_1011 (lv_at hl 1 rfl) ?_
    refine lv_iconst (v := 1) hx hb dL_law_1013 rfl ?_
    refine lv_iadd hx hb dL_law_1014 ?_
    refine va_sld hx hb hsc hbl hbA hS (sc_in h0 h1 hL (a := 1) ⟨by decide, by decide⟩) dL_law_1015 ?_
    refine lv_aload_n hx hb dL_law_1016 rfl (lv_at hl 5 rfl) ?_
    refine lv_iload hx hb dL_law_1017 (lv_at hl 1 rfl) ?_
    refine lv_iconst (v := 2) hx hb dL_law_1019 rfl ?_
    refine lv_iadd hx hb dL_law_1020 ?_
    refine va_sld hx hb hsc hbl hbA hS (sc_in h0 h1 hL (a := 2) ⟨by decide, by decide⟩) dL_law_1021 ?_
    refine z_Vi (k := 149) (r1 := y) (v1 := v2) hx hb hml hts hown hK hP hS hz hE (c_Model_offset hm e2) kX14_offset mL_136 hm.1 rfl rfl rfl hl.1 (Nat.le_of_ble_eq_true rfl) ⟨Nat.le_of_ble_eq_true rfl, Nat.le_of_ble_eq_true rfl⟩ ⟨by omega, by omega⟩ dL_law_1022 fun H1 locs1 hz hP hS => ?_
    have hd2 : LD sh v2 u.2.2 sp := hd.go hI2 hn2
    refine lv_istore (lv' := (6, .int y) :: (5, .int r) :: LL Γ b i) hx hb dL_law_1025 hl (by decide) rfl fun ls hl => ?_
    refine lv_aload_n hx hb dL_law_1027 rfl (lv_at hl 4 rfl) ?_
    refine z_Vi (k := 149) (r1 := v2 149 0) (v1 := v2) hx hb hml hts hown hK hP hS hz hE (c_Model_thrown (q := v2 149 0) hm rfl) kX14_thrown mL_86 hm.1 rfl rfl rfl hl.1 (Nat.le_of_ble_eq_true rfl) ⟨Nat.le_of_ble_eq_true rfl, Nat.le_of_ble_eq_true rfl⟩ ⟨by omega, by omega⟩ dL_law_1028 fun H1 locs1 hz hP hS => ?_
    refine lv_iload hx hb dL_law_1031 (lv_at hl 1 rfl) ?_
    refine lv_icmp_eq (tgt := 1038) hx hb dL_law_1033 rfl (fun _ => ?_) (fun hne => absurd (e3.trans hrt.symm) hne)
    refine lv_iload hx hb dL_law_1038 (lv_at hl 1 rfl) ?_
    refine lv_if_ne (tgt := 1055) hx hb dL_law_1040 rfl (fun _ => ?_) (fun h => absurd h hr0)
    refine lv_goto (tgt := 1473) hx hb dL_law_1055 rfl ?_
    refine W.widen (k := cells + 30) (n := slots + 2000) (by omega) (by omega) ?_
    exact kk _ _ _ _ _ _ _ _ hd2 hP hS hz hl.two
theorem turn_dry {p : Program} {l : Launch} {e : Env} {s : State} {m : MethodId} {args : Array Value} {below : List Frame} {meth : Method} {c : Code} {Q : State → Prop} {Γ : Cx} {b L cells slots : Nat} {xs : Nat → Int32} {i : Int32} (hc : LC Γ p s m args c b L xs) (hlt : l.stackTraces = false) (h0 : 0 ≤ i.toInt) (h1 : i.toInt + 6 ≤ L) (hrc : cells + 30 ≤ room_1.cells) (hrs : slots + 2000 ≤ room_1.slots) (kk : LK l Γ p e s m args below meth c b i (cells + 30) (slots + 2000) Q 1473) : LK l Γ p e s m args below meth c b i cells slots Q 1058 := by
  intro sh v w n sp H locs ls hd hP hS hz hl
  obtain ⟨hx, hb, hml, hts, hown, hK, hE, hF, hX, hN, hsc, hbl, hbA, hL⟩ := hc
  have hq := hd.1
  have hm := hd.2.1
  have h4 := hd.2.2.1
  have hI := hd.2.2.2.1
  have hn := hd.2.2.2.2.1
  have hsp := hd.2.2.2.2.2

  refine lv_aload_n hx hb dL_law_1058 rfl (lv_at hl 3 rfl) ?_
  refine lv_aload_n hx hb dL_law_1059 rfl (lv_at hl 4 rfl) ?_
  refine lv_iload hx hb dL_law_1060 (lv_at hl 0 rfl) ?_
  refine lv_iconst (v := 1) hx hb dL_law_1062 rfl ?_
  refine lv_iadd hx hb dL_law_1063 ?_
  refine va_sld hx hb hsc hbl hbA hS (sc_in h0 h1 hL (a := 1) ⟨by decide, by decide⟩) dL_law_1064 ?_
  refine lv_aload_n hx hb dL_law_1065 rfl (lv_at hl 1 rfl) ?_
  rcases s_dry (z := 5000) hI (xs (i + 1).toNatClampNeg) with ⟨x, v1, v2, e1, e2, e3, hI2⟩ | ⟨k, t, y, v2, hkt, e1, e2, e3, hI2⟩
  · refine z_SS (own := RL) hx hb hml hts hown hK hP hS hz hE (c_L_dry hq h4 hX hN hlt e1 (fun c h => by cases h)) kL_dry (tk6 (i := 5) (by decide +kernel) rfl) rfl rfl hl.1 (Nat.le_of_ble_eq_true rfl) ⟨Nat.le_of_ble_eq_true rfl, Nat.le_of_ble_eq_true rfl⟩ ⟨by omega, by omega⟩ dL_law_1066 fun r u H1 locs1 hp hz hP hS => ?_
    rcases Or.symm hp with ⟨c9, hq9, -⟩ | ⟨a9, v9, hq9, rfl, rfl⟩
    · cases hq9
    cases hq9
    have hz : H1.size = Γ.2.1 + n := hz
    have hP : Wd Γ sh v1 (up w 194 (lu (w 194) 0 x.toInt64)) H1 := hP
    refine lv_istore (lv' := (5, .int 0) :: LL Γ b i) hx hb dL_law_1069 hl (by decide) rfl fun ls hl => ?_
    refine lv_aload_n hx hb dL_law_1071 rfl (lv_at hl 3 rfl) ?_
    refine lv_aload_n hx hb dL_law_1072 rfl (lv_at hl 5 rfl) ?_
    refine lv_iload hx hb dL_law_1073 (lv_at hl 1 rfl) ?_
    refine lv_iconst (v := 1) hx hb dL_law_1075 rfl ?_
    refine lv_iadd hx hb dL_law_1076 ?_
    refine va_sld hx hb hsc hbl hbA hS (sc_in h0 h1 hL (a := 1) ⟨by decide, by decide⟩) dL_law_1077 ?_
    refine z_Vi (k := 149) (r1 := x) (v1 := v2) hx hb hml hts hown hK hP hS hz hE (c_Model_dry hm e2) kX14_dry mL_139 hm.1 rfl rfl rfl hl.1 (Nat.le_of_ble_eq_true rfl) ⟨Nat.le_of_ble_eq_true rfl, Nat.le_of_ble_eq_true rfl⟩ ⟨by omega, by omega⟩ dL_law_1078 fun H1 locs1 hz hP hS => ?_
    have hd2 : LD sh v2 n sp := hd.go hI2 (Nat.le_refl _)
    refine lv_istore (lv' := (6, .int x) :: (5, .int 0) :: LL Γ b i) hx hb dL_law_1081 hl (by decide) rfl fun ls hl => ?_
    refine lv_aload_n hx hb dL_law_1083 rfl (lv_at hl 4 rfl) ?_
    refine z_Vi (k := 149) (r1 := v2 149 0) (v1 := v2) hx hb hml hts hown hK hP hS hz hE (c_Model_thrown (q := v2 149 0) hm rfl) kX14_thrown mL_86 hm.1 rfl rfl rfl hl.1 (Nat.le_of_ble_eq_true rfl) ⟨Nat.le_of_ble_eq_true rfl, Nat.le_of_ble_eq_true rfl⟩ ⟨by omega, by omega⟩ dL_law_1084 fun H1 locs1 hz hP hS => ?_
    refine lv_iload hx hb dL_law_1087 (lv_at hl 1 rfl) ?_
    refine lv_icmp_eq (tgt := 1094) hx hb dL_law_1089 rfl (fun _ => ?_) (fun hne => absurd e3 hne)
    refine lv_iload hx hb dL_law_1094 (lv_at hl 1 rfl) ?_
    refine lv_if_ne (tgt := 1111) hx hb dL_law_1096 rfl (fun h => absurd rfl h) (fun _ => ?_)
    refine lv_aload_n hx hb dL_law_1099 rfl (lv_at hl 3 rfl) ?_
    refine lv_iconst (v := 0) hx hb dL_law_1100 rfl ?_
    refine w_lald (k := 194) (N := 1) hx hb hK hP h4 pin_1 dL_law_1101 ?_
    rw [lu_0]
    refine lv_iload hx hb dL_law_1102 (lv_at hl 0 rfl) ?_
    refine lv_i2l (v := x.toInt64) hx hb dL_law_1104 rfl ?_
    refine lv_lcmpE hx hb dL_law_1105 ?_
    refine lv_if_eq (tgt := 1111) hx hb dL_law_1106 rfl (fun _ => ?_) (fun h => absurd rfl h)
    refine lv_goto (tgt := 1473) hx hb dL_law_1111 rfl ?_
    refine W.widen (k := cells + 30) (n := slots + 2000) (by omega) (by omega) ?_
    exact kk _ _ _ _ _ _ _ _ hd2 hP hS hz hl.two
  · simp only [List.mem_cons, Prod.mk.injEq, List.not_mem_nil, or_false] at hkt
    have hk9 : k = 2 := hkt.1
    refine z_SS (own := RL) hx hb hml hts hown hK hP hS hz hE (c_L_dry hq h4 hX hN hlt e1 (fun c h => by cases h; exact hk9)) kL_dry (tk6 (i := 5) (by decide +kernel) rfl) rfl rfl hl.1 (Nat.le_of_ble_eq_true rfl) ⟨Nat.le_of_ble_eq_true rfl, Nat.le_of_ble_eq_true rfl⟩ ⟨by omega, by omega⟩ dL_law_1066 fun r u H1 locs1 hp hz hP hS => ?_
    rcases hp with ⟨a9, v9, hq9, -⟩ | ⟨c9, hq9, hr, hu1, hu2, hn2⟩
    · cases hq9
    cases hq9
    rw [hu1, hu2] at hP
    have hrt : r = t := hr.2.trans hkt.2.symm
    have hr0 : ¬ r = 0 := by rw [hr.2]; decide
    refine lv_istore (lv' := (5, .int r) :: LL Γ b i) hx hb dL_law_1069 hl (by decide) rfl fun ls hl => ?_
    refine lv_aload_n hx hb dL_law_1071 rfl (lv_at hl 3 rfl) ?_
    refine lv_aload_n hx hb dL_law_1072 rfl (lv_at hl 5 rfl) ?_
    refine lv_iload hx hb dL_law_1073 (lv_at hl 1 rfl) ?_
    refine lv_iconst (v := 1) hx hb dL_law_1075 rfl ?_
    refine lv_iadd hx hb dL_law_1076 ?_
    refine va_sld hx hb hsc hbl hbA hS (sc_in h0 h1 hL (a := 1) ⟨by decide, by decide⟩) dL_law_1077 ?_
    refine z_Vi (k := 149) (r1 := y) (v1 := v2) hx hb hml hts hown hK hP hS hz hE (c_Model_dry hm e2) kX14_dry mL_139 hm.1 rfl rfl rfl hl.1 (Nat.le_of_ble_eq_true rfl) ⟨Nat.le_of_ble_eq_true rfl, Nat.le_of_ble_eq_true rfl⟩ ⟨by omega, by omega⟩ dL_law_1078 fun H1 locs1 hz hP hS => ?_
    have hd2 : LD sh v2 u.2.2 sp := hd.go hI2 hn2
    refine lv_istore (lv' := (6, .int y) :: (5, .int r) :: LL Γ b i) hx hb dL_law_1081 hl (by decide) rfl fun ls hl => ?_
    refine lv_aload_n hx hb dL_law_1083 rfl (lv_at hl 4 rfl) ?_
    refine z_Vi (k := 149) (r1 := v2 149 0) (v1 := v2) hx hb hml hts hown hK hP hS hz hE (c_Model_thrown (q := v2 149 0) hm rfl) kX14_thrown mL_86 hm.1 rfl rfl rfl hl.1 (Nat.le_of_ble_eq_true rfl) ⟨Nat.le_of_ble_eq_true rfl, Nat.le_of_ble_eq_true rfl⟩ ⟨by omega, by omega⟩ dL_law_1084 fun H1 locs1 hz hP hS => ?_
    refine lv_iload hx hb dL_law_1087 (lv_at hl 1 rfl) ?_
    refine lv_icmp_eq (tgt := 1094) hx hb dL_law_1089 rfl (fun _ => ?_) (fun hne => absurd (e3.trans hrt.symm) hne)
    refine lv_iload hx hb dL_law_1094 (lv_at hl 1 rfl) ?_
    refine lv_if_ne (tgt := 1111) hx hb dL_law_1096 rfl (fun _ => ?_) (fun h => absurd h hr0)
    refine lv_goto (tgt := 1473) hx hb dL_law_1111 rfl ?_
    refine W.widen (k := cells + 30) (n := slots + 2000) (by omega) (by omega) ?_
    exact kk _ _ _ _ _ _ _ _ hd2 hP hS hz hl.two
theorem turn_pass {p : Program} {l : Launch} {e : Env} {s : State} {m : MethodId} {args : Array Value} {below : List Frame} {meth : Method} {c : Code} {Q : State → Prop} {Γ : Cx} {b L cells slots : Nat} {xs : Nat → Int32} {i : Int32} (hc : LC Γ p s m args c b L xs) (hlt : l.stackTraces = false) (h0 : 0 ≤ i.toInt) (h1 : i.toInt + 6 ≤ L) (hrc : cells + 30 ≤ room_1.cells) (hrs : slots + 2000 ≤ room_1.slots) (kk : LK l Γ p e s m args below meth c b i (cells + 30) (slots + 2000) Q 1473) : LK l Γ p e s m args below meth c b i cells slots Q 1114 := by
  intro sh v w n sp H locs ls hd hP hS hz hl
  obtain ⟨hx, hb, hml, hts, hown, hK, hE, hF, hX, hN, hsc, hbl, hbA, hL⟩ := hc
  have hq := hd.1
  have hm := hd.2.1
  have h4 := hd.2.2.1
  have hI := hd.2.2.2.1
  have hn := hd.2.2.2.2.1
  have hsp := hd.2.2.2.2.2

  refine lv_aload_n hx hb dL_law_1114 rfl (lv_at hl 3 rfl) ?_
  refine lv_aload_n hx hb dL_law_1115 rfl (lv_at hl 4 rfl) ?_
  refine lv_iload hx hb dL_law_1116 (lv_at hl 0 rfl) ?_
  refine lv_iconst (v := 1) hx hb dL_law_1118 rfl ?_
  refine lv_iadd hx hb dL_law_1119 ?_
  refine va_sld hx hb hsc hbl hbA hS (sc_in h0 h1 hL (a := 1) ⟨by decide, by decide⟩) dL_law_1120 ?_
  refine lv_aload_n hx hb dL_law_1121 rfl (lv_at hl 1 rfl) ?_
  rcases s_pass (z := 5000) (by omega) hI (xs (i + 1).toNatClampNeg) with ⟨x, v1, v2, e1, e2, e3, hI2⟩ | ⟨k, t, y, v2, hkt, e1, e2, e3, hI2⟩
  · refine z_SS (own := RL) hx hb hml hts hown hK hP hS hz hE (c_L_pass hq h4 hX hN hlt e1 (fun c h => by cases h)) kL_pass (tk6 (i := 14) (by decide +kernel) rfl) rfl rfl hl.1 (Nat.le_of_ble_eq_true rfl) ⟨Nat.le_of_ble_eq_true rfl, Nat.le_of_ble_eq_true rfl⟩ ⟨by omega, by omega⟩ dL_law_1122 fun r u H1 locs1 hp hz hP hS => ?_
    rcases Or.symm hp with ⟨c9, hq9, -⟩ | ⟨a9, v9, hq9, rfl, rfl⟩
    · cases hq9
    cases hq9
    have hz : H1.size = Γ.2.1 + n := hz
    have hP : Wd Γ sh v1 (up w 194 (lu (w 194) 0 x.toInt64)) H1 := hP
    refine lv_istore (lv' := (5, .int 0) :: LL Γ b i) hx hb dL_law_1125 hl (by decide) rfl fun ls hl => ?_
    refine lv_aload_n hx hb dL_law_1127 rfl (lv_at hl 3 rfl) ?_
    refine lv_aload_n hx hb dL_law_1128 rfl (lv_at hl 5 rfl) ?_
    refine lv_iload hx hb dL_law_1129 (lv_at hl 1 rfl) ?_
    refine lv_iconst (v := 1) hx hb dL_law_1131 rfl ?_
    refine lv_iadd hx hb dL_law_1132 ?_
    refine va_sld hx hb hsc hbl hbA hS (sc_in h0 h1 hL (a := 1) ⟨by decide, by decide⟩) dL_law_1133 ?_
    refine z_Vi (k := 149) (r1 := x) (v1 := v2) hx hb hml hts hown hK hP hS hz hE (c_Model_pass hm e2) kX14_pass mL_142 hm.1 rfl rfl rfl hl.1 (Nat.le_of_ble_eq_true rfl) ⟨Nat.le_of_ble_eq_true rfl, Nat.le_of_ble_eq_true rfl⟩ ⟨by omega, by omega⟩ dL_law_1134 fun H1 locs1 hz hP hS => ?_
    have hd2 : LD sh v2 n sp := hd.go hI2 (Nat.le_refl _)
    refine lv_istore (lv' := (6, .int x) :: (5, .int 0) :: LL Γ b i) hx hb dL_law_1137 hl (by decide) rfl fun ls hl => ?_
    refine lv_aload_n hx hb dL_law_1139 rfl (lv_at hl 4 rfl) ?_
    refine z_Vi (k := 149) (r1 := v2 149 0) (v1 := v2) hx hb hml hts hown hK hP hS hz hE (c_Model_thrown (q := v2 149 0) hm rfl) kX14_thrown mL_86 hm.1 rfl rfl rfl hl.1 (Nat.le_of_ble_eq_true rfl) ⟨Nat.le_of_ble_eq_true rfl, Nat.le_of_ble_eq_true rfl⟩ ⟨by omega, by omega⟩ dL_law_1140 fun H1 locs1 hz hP hS => ?_
    refine lv_iload hx hb dL_law_1143 (lv_at hl 1 rfl) ?_
    refine lv_icmp_eq (tgt := 1150) hx hb dL_law_1145 rfl (fun _ => ?_) (fun hne => absurd e3 hne)
    refine lv_iload hx hb dL_law_1150 (lv_at hl 1 rfl) ?_
    refine lv_if_ne (tgt := 1167) hx hb dL_law_1152 rfl (fun h => absurd rfl h) (fun _ => ?_)
    refine lv_aload_n hx hb dL_law_1155 rfl (lv_at hl 3 rfl) ?_
    refine lv_iconst (v := 0) hx hb dL_law_1156 rfl ?_
    refine w_lald (k := 194) (N := 1) hx hb hK hP h4 pin_1 dL_law_1157 ?_
    rw [lu_0]
    refine lv_iload hx hb dL_law_1158 (lv_at hl 0 rfl) ?_
    refine lv_i2l (v := x.toInt64) hx hb dL_law_1160 rfl ?_
    refine lv_lcmpE hx hb dL_law_1161 ?_
    refine lv_if_eq (tgt := 1167) hx hb dL_law_1162 rfl (fun _ => ?_) (fun h => absurd rfl h)
    refine lv_goto (tgt := 1473) hx hb dL_law_1167 rfl ?_
    refine W.widen (k := cells + 30) (n := slots + 2000) (by omega) (by omega) ?_
    exact kk _ _ _ _ _ _ _ _ hd2 hP hS hz hl.two
  · simp only [List.mem_cons, Prod.mk.injEq, List.not_mem_nil, or_false] at hkt
    have hk9 : k = 1 := hkt.1
    refine z_SS (own := RL) hx hb hml hts hown hK hP hS hz hE (c_L_pass hq h4 hX hN hlt e1 (fun c h => by cases h; exact hk9)) kL_pass (tk6 (i := 14) (by decide +kernel) rfl) rfl rfl hl.1 (Nat.le_of_ble_eq_true rfl) ⟨Nat.le_of_ble_eq_true rfl, Nat.le_of_ble_eq_true rfl⟩ ⟨by omega, by omega⟩ dL_law_1122 fun r u H1 locs1 hp hz hP hS => ?_
    rcases hp with ⟨a9, v9, hq9, -⟩ | ⟨c9, hq9, hr, hu1, hu2, hn2⟩
    · cases hq9
    cases hq9
    rw [hu1, hu2] at hP
    have hrt : r = t := hr.2.trans hkt.2.symm
    have hr0 : ¬ r = 0 := by rw [hr.2]; decide
    refine lv_istore (lv' := (5, .int r) :: LL Γ b i) hx hb dL_law_1125 hl (by decide) rfl fun ls hl => ?_
    refine lv_aload_n hx hb dL_law_1127 rfl (lv_at hl 3 rfl) ?_
    refine lv_aload_n hx hb dL_law_1128 rfl (lv_at hl 5 rfl) ?_
    refine lv_iload hx hb dL_law_1129 (lv_at hl 1 rfl) ?_
    refine lv_iconst (v := 1) hx hb dL_law_1131 rfl ?_
    refine lv_iadd hx hb dL_law_1132 ?_
    refine va_sld hx hb hsc hbl hbA hS (sc_in h0 h1 hL (a := 1) ⟨by decide, by decide⟩) dL_law_1133 ?_
    refine z_Vi (k := 149) (r1 := y) (v1 := v2) hx hb hml hts hown hK hP hS hz hE (c_Model_pass hm e2) kX14_pass mL_142 hm.1 rfl rfl rfl hl.1 (Nat.le_of_ble_eq_true rfl) ⟨Nat.le_of_ble_eq_true rfl, Nat.le_of_ble_eq_true rfl⟩ ⟨by omega, by omega⟩ dL_law_1134 fun H1 locs1 hz hP hS => ?_
    have hd2 : LD sh v2 u.2.2 sp := hd.go hI2 hn2
    refine lv_istore (lv' := (6, .int y) :: (5, .int r) :: LL Γ b i) hx hb dL_law_1137 hl (by decide) rfl fun ls hl => ?_
    refine lv_aload_n hx hb dL_law_1139 rfl (lv_at hl 4 rfl) ?_
    refine z_Vi (k := 149) (r1 := v2 149 0) (v1 := v2) hx hb hml hts hown hK hP hS hz hE (c_Model_thrown (q := v2 149 0) hm rfl) kX14_thrown mL_86 hm.1 rfl rfl rfl hl.1 (Nat.le_of_ble_eq_true rfl) ⟨Nat.le_of_ble_eq_true rfl, Nat.le_of_ble_eq_true rfl⟩ ⟨by omega, by omega⟩ dL_law_1140 fun H1 locs1 hz hP hS => ?_
    refine lv_iload hx hb dL_law_1143 (lv_at hl 1 rfl) ?_
    refine lv_icmp_eq (tgt := 1150) hx hb dL_law_1145 rfl (fun _ => ?_) (fun hne => absurd (e3.trans hrt.symm) hne)
    refine lv_iload hx hb dL_law_1150 (lv_at hl 1 rfl) ?_
    refine lv_if_ne (tgt := 1167) hx hb dL_law_1152 rfl (fun _ => ?_) (fun h => absurd h hr0)
    refine lv_goto (tgt := 1473) hx hb dL_law_1167 rfl ?_
    refine W.widen (k := cells + 30) (n := slots + 2000) (by omega) (by omega) ?_
    exact kk _ _ _ _ _ _ _ _ hd2 hP hS hz hl.two
theorem turn_foresee {p : Program} {l : Launch} {e : Env} {s : State} {m : MethodId} {args : Array Value} {below : List Frame} {meth : Method} {c : Code} {Q : State → Prop} {Γ : Cx} {b L cells slots : Nat} {xs : Nat → Int32} {i : Int32} (hc : LC Γ p s m args c b L xs) (hlt : l.stackTraces = false) (h0 : 0 ≤ i.toInt) (h1 : i.toInt + 6 ≤ L) (hrc : cells + 30 ≤ room_1.cells) (hrs : slots + 2000 ≤ room_1.slots) (kk : LK l Γ p e s m args below meth c b i (cells + 30) (slots + 2000) Q 1473) : LK l Γ p e s m args below meth c b i cells slots Q 1170 := by
  intro sh v w n sp H locs ls hd hP hS hz hl
  obtain ⟨hx, hb, hml, hts, hown, hK, hE, hF, hX, hN, hsc, hbl, hbA, hL⟩ := hc
  have hq := hd.1
  have hm := hd.2.1
  have h4 := hd.2.2.1
  have hI := hd.2.2.2.1
  have hn := hd.2.2.2.2.1
  have hsp := hd.2.2.2.2.2

  refine lv_aload_n hx hb dL_law_1170 rfl (lv_at hl 3 rfl) ?_
  refine lv_aload_n hx hb dL_law_1171 rfl (lv_at hl 4 rfl) ?_
  refine lv_iload hx hb dL_law_1172 (lv_at hl 0 rfl) ?_
  refine lv_iconst (v := 1) hx hb dL_law_1174 rfl ?_
  refine lv_iadd hx hb dL_law_1175 ?_
  refine va_sld hx hb hsc hbl hbA hS (sc_in h0 h1 hL (a := 1) ⟨by decide, by decide⟩) dL_law_1176 ?_
  refine lv_aload_n hx hb dL_law_1177 rfl (lv_at hl 4 rfl) ?_
  refine lv_iload hx hb dL_law_1178 (lv_at hl 0 rfl) ?_
  refine lv_iconst (v := 2) hx hb dL_law_1180 rfl ?_
  refine lv_iadd hx hb dL_law_1181 ?_
  refine va_sld hx hb hsc hbl hbA hS (sc_in h0 h1 hL (a := 2) ⟨by decide, by decide⟩) dL_law_1182 ?_
  refine lv_aload_n hx hb dL_law_1183 rfl (lv_at hl 1 rfl) ?_
  rcases s_foresee (z := 5000) (by omega) hI (xs (i + 1).toNatClampNeg) (xs (i + 2).toNatClampNeg) with ⟨x, v1, v2, e1, e2, e3, hI2⟩ | ⟨k, t, y, v2, hkt, e1, e2, e3, hI2⟩
  · refine z_SS (own := RL) hx hb hml hts hown hK hP hS hz hE (c_L_foresee hq h4 hX hN hlt e1 (fun c h => by cases h)) kL_foresee (tk6 (i := 63) (by decide +kernel) rfl) rfl rfl hl.1 (Nat.le_of_ble_eq_true rfl) ⟨Nat.le_of_ble_eq_true rfl, Nat.le_of_ble_eq_true rfl⟩ ⟨by omega, by omega⟩ dL_law_1184 fun r u H1 locs1 hp hz hP hS => ?_
    rcases Or.symm hp with ⟨c9, hq9, -⟩ | ⟨a9, v9, hq9, rfl, rfl⟩
    · cases hq9
    cases hq9
    have hz : H1.size = Γ.2.1 + n := hz
    have hP : Wd Γ sh v1 (up w 194 (lu (w 194) 0 x.toInt64)) H1 := hP
    refine lv_istore (lv' := (5, .int 0) :: LL Γ b i) hx hb dL_law_1187 hl (by decide) rfl fun ls hl => ?_
    refine lv_aload_n hx hb dL_law_1189 rfl (lv_at hl 3 rfl) ?_
    refine lv_aload_n hx hb dL_law_1190 rfl (lv_at hl 5 rfl) ?_
    refine lv_iload hx hb dL_law_1191 (lv_at hl 1 rfl) ?_
    refine lv_iconst (v := 1) hx hb dL_law_1193 rfl ?_
    refine lv_iadd hx hb dL_law_1194 ?_
    refine va_sld hx hb hsc hbl hbA hS (sc_in h0 h1 hL (a := 1) ⟨by decide, by decide⟩) dL_law_1195 ?_
    refine lv_aload_n hx hb dL_law_1196 rfl (lv_at hl 5 rfl) ?_
    refine lv_iload hx hb dL_law_1197 (lv_at hl 1 rfl) ?_
    refine lv_iconst (v := 2) hx hb dL_law_1199 rfl ?_
    refine lv_iadd hx hb dL_law_1200 ?_
    refine va_sld hx hb hsc hbl hbA hS (sc_in h0 h1 hL (a := 2) ⟨by decide, by decide⟩) dL_law_1201 ?_
    refine z_Vi (k := 149) (r1 := x) (v1 := v2) hx hb hml hts hown hK hP hS hz hE (c_Model_foresee hm e2) kX14_foresee mL_145 hm.1 rfl rfl rfl hl.1 (Nat.le_of_ble_eq_true rfl) ⟨Nat.le_of_ble_eq_true rfl, Nat.le_of_ble_eq_true rfl⟩ ⟨by omega, by omega⟩ dL_law_1202 fun H1 locs1 hz hP hS => ?_
    have hd2 : LD sh v2 n sp := hd.go hI2 (Nat.le_refl _)
    refine lv_istore (lv' := (6, .int x) :: (5, .int 0) :: LL Γ b i) hx hb dL_law_1205 hl (by decide) rfl fun ls hl => ?_
    refine lv_aload_n hx hb dL_law_1207 rfl (lv_at hl 4 rfl) ?_
    refine z_Vi (k := 149) (r1 := v2 149 0) (v1 := v2) hx hb hml hts hown hK hP hS hz hE (c_Model_thrown (q := v2 149 0) hm rfl) kX14_thrown mL_86 hm.1 rfl rfl rfl hl.1 (Nat.le_of_ble_eq_true rfl) ⟨Nat.le_of_ble_eq_true rfl, Nat.le_of_ble_eq_true rfl⟩ ⟨by omega, by omega⟩ dL_law_1208 fun H1 locs1 hz hP hS => ?_
    refine lv_iload hx hb dL_law_1211 (lv_at hl 1 rfl) ?_
    refine lv_icmp_eq (tgt := 1218) hx hb dL_law_1213 rfl (fun _ => ?_) (fun hne => absurd e3 hne)
    refine lv_iload hx hb dL_law_1218 (lv_at hl 1 rfl) ?_
    refine lv_if_ne (tgt := 1235) hx hb dL_law_1220 rfl (fun h => absurd rfl h) (fun _ => ?_)
    refine lv_aload_n hx hb dL_law_1223 rfl (lv_at hl 3 rfl) ?_
    refine lv_iconst (v := 0) hx hb dL_law_1224 rfl ?_
    refine w_lald (k := 194) (N := 1) hx hb hK hP h4 pin_1 dL_law_1225 ?_
    rw [lu_0]
    refine lv_iload hx hb dL_law_1226 (lv_at hl 0 rfl) ?_
    refine lv_i2l (v := x.toInt64) hx hb dL_law_1228 rfl ?_
    refine lv_lcmpE hx hb dL_law_1229 ?_
    refine lv_if_eq (tgt := 1235) hx hb dL_law_1230 rfl (fun _ => ?_) (fun h => absurd rfl h)
    refine lv_goto (tgt := 1473) hx hb dL_law_1235 rfl ?_
    refine W.widen (k := cells + 30) (n := slots + 2000) (by omega) (by omega) ?_
    exact kk _ _ _ _ _ _ _ _ hd2 hP hS hz hl.two
  · simp only [List.mem_cons, Prod.mk.injEq, List.not_mem_nil, or_false] at hkt
    have hk9 : k = 1 ∨ k = 2 := by rcases hkt with ⟨h, -⟩ | ⟨h, -⟩ <;> simp [h]
    refine z_SS (own := RL) hx hb hml hts hown hK hP hS hz hE (c_L_foresee hq h4 hX hN hlt e1 (fun c h => by cases h; exact hk9)) kL_foresee (tk6 (i := 63) (by decide +kernel) rfl) rfl rfl hl.1 (Nat.le_of_ble_eq_true rfl) ⟨Nat.le_of_ble_eq_true rfl, Nat.le_of_ble_eq_true rfl⟩ ⟨by omega, by omega⟩ dL_law_1184 fun r u H1 locs1 hp hz hP hS => ?_
    rcases hp with ⟨a9, v9, hq9, -⟩ | ⟨c9, hq9, hr, hu1, hu2, hn2⟩
    · cases hq9
    cases hq9
    rw [hu1, hu2] at hP
    have hrt : r = t := by rcases hkt with ⟨f1, f2⟩ | ⟨f1, f2⟩ <;> rcases hr with ⟨g1, g2⟩ | ⟨g1, g2⟩ <;> first | exact g2.trans f2.symm | (exfalso; omega)
    have hr0 : ¬ r = 0 := by rcases hr with ⟨g1, g2⟩ | ⟨g1, g2⟩ <;> (rw [g2]; decide)
    refine lv_istore (lv' := (5, .int r) :: LL Γ b i) hx hb dL_law_1187 hl (by decide) rfl fun ls hl => ?_
    refine lv_aload_n hx hb dL_law_1189 rfl (lv_at hl 3 rfl) ?_
    refine lv_aload_n hx hb dL_law_1190 rfl (lv_at hl 5 rfl) ?_
    refine lv_iload hx hb dL_law_1191 (lv_at hl 1 rfl) ?_
    refine lv_iconst (v := 1) hx hb dL_law_1193 rfl ?_
    refine lv_iadd hx hb dL_law_1194 ?_
    refine va_sld hx hb hsc hbl hbA hS (sc_in h0 h1 hL (a := 1) ⟨by decide, by decide⟩) dL_law_1195 ?_
    refine lv_aload_n hx hb dL_law_1196 rfl (lv_at hl 5 rfl) ?_
    refine lv_iload hx hb dL_law_1197 (lv_at hl 1 rfl) ?_
    refine lv_iconst (v := 2) hx hb dL_law_1199 rfl ?_
    refine lv_iadd hx hb dL_law_1200 ?_
    refine va_sld hx hb hsc hbl hbA hS (sc_in h0 h1 hL (a := 2) ⟨by decide, by decide⟩) dL_law_1201 ?_
    refine z_Vi (k := 149) (r1 := y) (v1 := v2) hx hb hml hts hown hK hP hS hz hE (c_Model_foresee hm e2) kX14_foresee mL_145 hm.1 rfl rfl rfl hl.1 (Nat.le_of_ble_eq_true rfl) ⟨Nat.le_of_ble_eq_true rfl, Nat.le_of_ble_eq_true rfl⟩ ⟨by omega, by omega⟩ dL_law_1202 fun H1 locs1 hz hP hS => ?_
    have hd2 : LD sh v2 u.2.2 sp := hd.go hI2 hn2
    refine lv_istore (lv' := (6, .int y) :: (5, .int r) :: LL Γ b i) hx hb dL_law_1205 hl (by decide) rfl fun ls hl => ?_
    refine lv_aload_n hx hb dL_law_1207 rfl (lv_at hl 4 rfl) ?_
    refine z_Vi (k := 149) (r1 := v2 149 0) (v1 := v2) hx hb hml hts hown hK hP hS hz hE (c_Model_thrown (q := v2 149 0) hm rfl) kX14_thrown mL_86 hm.1 rfl rfl rfl hl.1 (Nat.le_of_ble_eq_true rfl) ⟨Nat.le_of_ble_eq_true rfl, Nat.le_of_ble_eq_true rfl⟩ ⟨by omega, by omega⟩ dL_law_1208 fun H1 locs1 hz hP hS => ?_
    refine lv_iload hx hb dL_law_1211 (lv_at hl 1 rfl) ?_
    refine lv_icmp_eq (tgt := 1218) hx hb dL_law_1213 rfl (fun _ => ?_) (fun hne => absurd (e3.trans hrt.symm) hne)
    refine lv_iload hx hb dL_law_1218 (lv_at hl 1 rfl) ?_
    refine lv_if_ne (tgt := 1235) hx hb dL_law_1220 rfl (fun _ => ?_) (fun h => absurd h hr0)
    refine lv_goto (tgt := 1473) hx hb dL_law_1235 rfl ?_
    refine W.widen (k := cells + 30) (n := slots + 2000) (by omega) (by omega) ?_
    exact kk _ _ _ _ _ _ _ _ hd2 hP hS hz hl.two
theorem turn_costs {p : Program} {l : Launch} {e : Env} {s : State} {m : MethodId} {args : Array Value} {below : List Frame} {meth : Method} {c : Code} {Q : State → Prop} {Γ : Cx} {b L cells slots : Nat} {xs : Nat → Int32} {i : Int32} (hc : LC Γ p s m args c b L xs) (hlt : l.stackTraces = false) (h0 : 0 ≤ i.toInt) (h1 : i.toInt + 6 ≤ L) (hrc : cells + 30 ≤ room_1.cells) (hrs : slots + 2000 ≤ room_1.slots) (kk : LK l Γ p e s m args below meth c b i (cells + 30) (slots + 2000) Q 1473) : LK l Γ p e s m args below meth c b i cells slots Q 1238 := by
  intro sh v w n sp H locs ls hd hP hS hz hl
  obtain ⟨hx, hb, hml, hts, hown, hK, hE, hF, hX, hN, hsc, hbl, hbA, hL⟩ := hc
  have hq := hd.1
  have hm := hd.2.1
  have h4 := hd.2.2.1
  have hI := hd.2.2.2.1
  have hn := hd.2.2.2.2.1
  have hsp := hd.2.2.2.2.2

  refine lv_aload_n hx hb dL_law_1238 rfl (lv_at hl 3 rfl) ?_
  refine lv_aload_n hx hb dL_law_1239 rfl (lv_at hl 4 rfl) ?_
  refine lv_iload hx hb dL_law_1240 (lv_at hl 0 rfl) ?_
  refine lv_iconst (v := 1) hx hb dL_law_1242 rfl ?_
  refine lv_iadd hx hb dL_law_1243 ?_
  refine va_sld hx hb hsc hbl hbA hS (sc_in h0 h1 hL (a := 1) ⟨by decide, by decide⟩) dL_law_1244 ?_
  refine lv_aload_n hx hb dL_law_1245 rfl (lv_at hl 4 rfl) ?_
  refine lv_iload hx hb dL_law_1246 (lv_at hl 0 rfl) ?_
  refine lv_iconst (v := 2) hx hb dL_law_1248 rfl ?_
  refine lv_iadd hx hb dL_law_1249 ?_
  refine va_sld hx hb hsc hbl hbA hS (sc_in h0 h1 hL (a := 2) ⟨by decide, by decide⟩) dL_law_1250 ?_
  refine lv_aload_n hx hb dL_law_1251 rfl (lv_at hl 1 rfl) ?_
  rcases s_costs (z := 5000) (by omega) hI (xs (i + 1).toNatClampNeg) (xs (i + 2).toNatClampNeg) with ⟨x, v1, v2, e1, e2, e3, hI2⟩ | ⟨k, t, y, v2, hkt, e1, e2, e3, hI2⟩
  · refine z_SS (own := RL) hx hb hml hts hown hK hP hS hz hE (c_L_costs hq h4 hX hN hlt e1 (fun c h => by cases h)) kL_costs (tk6 (i := 81) (by decide +kernel) rfl) rfl rfl hl.1 (Nat.le_of_ble_eq_true rfl) ⟨Nat.le_of_ble_eq_true rfl, Nat.le_of_ble_eq_true rfl⟩ ⟨by omega, by omega⟩ dL_law_1252 fun r u H1 locs1 hp hz hP hS => ?_
    rcases Or.symm hp with ⟨c9, hq9, -⟩ | ⟨a9, v9, hq9, rfl, rfl⟩
    · cases hq9
    cases hq9
    have hz : H1.size = Γ.2.1 + n := hz
    have hP : Wd Γ sh v1 (up w 194 (lu (w 194) 0 x.toInt64)) H1 := hP
    refine lv_istore (lv' := (5, .int 0) :: LL Γ b i) hx hb dL_law_1255 hl (by decide) rfl fun ls hl => ?_
    refine lv_aload_n hx hb dL_law_1257 rfl (lv_at hl 3 rfl) ?_
    refine lv_aload_n hx hb dL_law_1258 rfl (lv_at hl 5 rfl) ?_
    refine lv_iload hx hb dL_law_1259 (lv_at hl 1 rfl) ?_
    refine lv_iconst (v := 1) hx hb dL_law_1261 rfl ?_
    refine lv_iadd hx hb dL_law_1262 ?_
    refine va_sld hx hb hsc hbl hbA hS (sc_in h0 h1 hL (a := 1) ⟨by decide, by decide⟩) dL_law_1263 ?_
    refine lv_aload_n hx hb dL_law_1264 rfl (lv_at hl 5 rfl) ?_
    refine lv_iload hx hb dL_law_1265 (lv_at hl 1 rfl) ?_
    refine lv_iconst (v := 2) hx hb dL_law_1267 rfl ?_
    refine lv_iadd hx hb dL_law_1268 ?_
    refine va_sld hx hb hsc hbl hbA hS (sc_in h0 h1 hL (a := 2) ⟨by decide, by decide⟩) dL_law_1269 ?_
    refine z_Vi (k := 149) (r1 := x) (v1 := v2) hx hb hml hts hown hK hP hS hz hE (c_Model_costs hm e2) kX14_costs mL_148 hm.1 rfl rfl rfl hl.1 (Nat.le_of_ble_eq_true rfl) ⟨Nat.le_of_ble_eq_true rfl, Nat.le_of_ble_eq_true rfl⟩ ⟨by omega, by omega⟩ dL_law_1270 fun H1 locs1 hz hP hS => ?_
    have hd2 : LD sh v2 n sp := hd.go hI2 (Nat.le_refl _)
    refine lv_istore (lv' := (6, .int x) :: (5, .int 0) :: LL Γ b i) hx hb dL_law_1273 hl (by decide) rfl fun ls hl => ?_
    refine lv_aload_n hx hb dL_law_1275 rfl (lv_at hl 4 rfl) ?_
    refine z_Vi (k := 149) (r1 := v2 149 0) (v1 := v2) hx hb hml hts hown hK hP hS hz hE (c_Model_thrown (q := v2 149 0) hm rfl) kX14_thrown mL_86 hm.1 rfl rfl rfl hl.1 (Nat.le_of_ble_eq_true rfl) ⟨Nat.le_of_ble_eq_true rfl, Nat.le_of_ble_eq_true rfl⟩ ⟨by omega, by omega⟩ dL_law_1276 fun H1 locs1 hz hP hS => ?_
    refine lv_iload hx hb dL_law_1279 (lv_at hl 1 rfl) ?_
    refine lv_icmp_eq (tgt := 1286) hx hb dL_law_1281 rfl (fun _ => ?_) (fun hne => absurd e3 hne)
    refine lv_iload hx hb dL_law_1286 (lv_at hl 1 rfl) ?_
    refine lv_if_ne (tgt := 1303) hx hb dL_law_1288 rfl (fun h => absurd rfl h) (fun _ => ?_)
    refine lv_aload_n hx hb dL_law_1291 rfl (lv_at hl 3 rfl) ?_
    refine lv_iconst (v := 0) hx hb dL_law_1292 rfl ?_
    refine w_lald (k := 194) (N := 1) hx hb hK hP h4 pin_1 dL_law_1293 ?_
    rw [lu_0]
    refine lv_iload hx hb dL_law_1294 (lv_at hl 0 rfl) ?_
    refine lv_i2l (v := x.toInt64) hx hb dL_law_1296 rfl ?_
    refine lv_lcmpE hx hb dL_law_1297 ?_
    refine lv_if_eq (tgt := 1303) hx hb dL_law_1298 rfl (fun _ => ?_) (fun h => absurd rfl h)
    refine lv_goto (tgt := 1473) hx hb dL_law_1303 rfl ?_
    refine W.widen (k := cells + 30) (n := slots + 2000) (by omega) (by omega) ?_
    exact kk _ _ _ _ _ _ _ _ hd2 hP hS hz hl.two
  · simp only [List.mem_cons, Prod.mk.injEq, List.not_mem_nil, or_false] at hkt
    have hk9 : k = 1 := hkt.1
    refine z_SS (own := RL) hx hb hml hts hown hK hP hS hz hE (c_L_costs hq h4 hX hN hlt e1 (fun c h => by cases h; exact hk9)) kL_costs (tk6 (i := 81) (by decide +kernel) rfl) rfl rfl hl.1 (Nat.le_of_ble_eq_true rfl) ⟨Nat.le_of_ble_eq_true rfl, Nat.le_of_ble_eq_true rfl⟩ ⟨by omega, by omega⟩ dL_law_1252 fun r u H1 locs1 hp hz hP hS => ?_
    rcases hp with ⟨a9, v9, hq9, -⟩ | ⟨c9, hq9, hr, hu1, hu2, hn2⟩
    · cases hq9
    cases hq9
    rw [hu1, hu2] at hP
    have hrt : r = t := hr.2.trans hkt.2.symm
    have hr0 : ¬ r = 0 := by rw [hr.2]; decide
    refine lv_istore (lv' := (5, .int r) :: LL Γ b i) hx hb dL_law_1255 hl (by decide) rfl fun ls hl => ?_
    refine lv_aload_n hx hb dL_law_1257 rfl (lv_at hl 3 rfl) ?_
    refine lv_aload_n hx hb dL_law_1258 rfl (lv_at hl 5 rfl) ?_
    refine lv_iload hx hb dL_law_1259 (lv_at hl 1 rfl) ?_
    refine lv_iconst (v := 1) hx hb dL_law_1261 rfl ?_
    refine lv_iadd hx hb dL_law_1262 ?_
    refine va_sld hx hb hsc hbl hbA hS (sc_in h0 h1 hL (a := 1) ⟨by decide, by decide⟩) dL_law_1263 ?_
    refine lv_aload_n hx hb dL_law_1264 rfl (lv_at hl 5 rfl) ?_
    refine lv_iload hx hb dL_law_1265 (lv_at hl 1 rfl) ?_
    refine lv_iconst (v := 2) hx hb dL_law_1267 rfl ?_
    refine lv_iadd hx hb dL_law_1268 ?_
    refine va_sld hx hb hsc hbl hbA hS (sc_in h0 h1 hL (a := 2) ⟨by decide, by decide⟩) dL_law_1269 ?_
    refine z_Vi (k := 149) (r1 := y) (v1 := v2) hx hb hml hts hown hK hP hS hz hE (c_Model_costs hm e2) kX14_costs mL_148 hm.1 rfl rfl rfl hl.1 (Nat.le_of_ble_eq_true rfl) ⟨Nat.le_of_ble_eq_true rfl, Nat.le_of_ble_eq_true rfl⟩ ⟨by omega, by omega⟩ dL_law_1270 fun H1 locs1 hz hP hS => ?_
    have hd2 : LD sh v2 u.2.2 sp := hd.go hI2 hn2
    refine lv_istore (lv' := (6, .int y) :: (5, .int r) :: LL Γ b i) hx hb dL_law_1273 hl (by decide) rfl fun ls hl => ?_
    refine lv_aload_n hx hb dL_law_1275 rfl (lv_at hl 4 rfl) ?_
    refine z_Vi (k := 149) (r1 := v2 149 0) (v1 := v2) hx hb hml hts hown hK hP hS hz hE (c_Model_thrown (q := v2 149 0) hm rfl) kX14_thrown mL_86 hm.1 rfl rfl rfl hl.1 (Nat.le_of_ble_eq_true rfl) ⟨Nat.le_of_ble_eq_true rfl, Nat.le_of_ble_eq_true rfl⟩ ⟨by omega, by omega⟩ dL_law_1276 fun H1 locs1 hz hP hS => ?_
    refine lv_iload hx hb dL_law_1279 (lv_at hl 1 rfl) ?_
    refine lv_icmp_eq (tgt := 1286) hx hb dL_law_1281 rfl (fun _ => ?_) (fun hne => absurd (e3.trans hrt.symm) hne)
    refine lv_iload hx hb dL_law_1286 (lv_at hl 1 rfl) ?_
    refine lv_if_ne (tgt := 1303) hx hb dL_law_1288 rfl (fun _ => ?_) (fun h => absurd h hr0)
    refine lv_goto (tgt := 1473) hx hb dL_law_1303 rfl ?_
    refine W.widen (k := cells + 30) (n := slots + 2000) (by omega) (by omega) ?_
    exact kk _ _ _ _ _ _ _ _ hd2 hP hS hz hl.two
theorem turn_richest {p : Program} {l : Launch} {e : Env} {s : State} {m : MethodId} {args : Array Value} {below : List Frame} {meth : Method} {c : Code} {Q : State → Prop} {Γ : Cx} {b L cells slots : Nat} {xs : Nat → Int32} {i : Int32} (hc : LC Γ p s m args c b L xs) (hlt : l.stackTraces = false) (h0 : 0 ≤ i.toInt) (h1 : i.toInt + 6 ≤ L) (hrc : cells + 30 ≤ room_1.cells) (hrs : slots + 2000 ≤ room_1.slots) (kk : LK l Γ p e s m args below meth c b i (cells + 30) (slots + 2000) Q 1473) : LK l Γ p e s m args below meth c b i cells slots Q 1306 := by
  intro sh v w n sp H locs ls hd hP hS hz hl
  obtain ⟨hx, hb, hml, hts, hown, hK, hE, hF, hX, hN, hsc, hbl, hbA, hL⟩ := hc
  have hq := hd.1
  have hm := hd.2.1
  have h4 := hd.2.2.1
  have hI := hd.2.2.2.1
  have hn := hd.2.2.2.2.1
  have hsp := hd.2.2.2.2.2

  refine lv_aload_n hx hb dL_law_1306 rfl (lv_at hl 3 rfl) ?_
  refine lv_aload_n hx hb dL_law_1307 rfl (lv_at hl 4 rfl) ?_
  refine lv_iload hx hb dL_law_1308 (lv_at hl 0 rfl) ?_
  refine lv_iconst (v := 1) hx hb dL_law_1310 rfl ?_
  refine lv_iadd hx hb dL_law_1311 ?_
  refine va_sld hx hb hsc hbl hbA hS (sc_in h0 h1 hL (a := 1) ⟨by decide, by decide⟩) dL_law_1312 ?_
  refine lv_aload_n hx hb dL_law_1313 rfl (lv_at hl 1 rfl) ?_
  rcases s_richest (z := 5000) (by omega) hI (xs (i + 1).toNatClampNeg) with ⟨x, v1, v2, e1, e2, e3, hI2⟩ | ⟨k, t, y, v2, hkt, e1, e2, e3, hI2⟩
  · refine z_SS (own := RL) hx hb hml hts hown hK hP hS hz hE (c_L_richest hq h4 hX hN hlt e1 (fun c h => by cases h)) kL_richest (tk6 (i := 90) (by decide +kernel) rfl) rfl rfl hl.1 (Nat.le_of_ble_eq_true rfl) ⟨Nat.le_of_ble_eq_true rfl, Nat.le_of_ble_eq_true rfl⟩ ⟨by omega, by omega⟩ dL_law_1314 fun r u H1 locs1 hp hz hP hS => ?_
    rcases Or.symm hp with ⟨c9, hq9, -⟩ | ⟨a9, v9, hq9, rfl, rfl⟩
    · cases hq9
    cases hq9
    have hz : H1.size = Γ.2.1 + n := hz
    have hP : Wd Γ sh v1 (up w 194 (lu (w 194) 0 x.toInt64)) H1 := hP
    refine lv_istore (lv' := (5, .int 0) :: LL Γ b i) hx hb dL_law_1317 hl (by decide) rfl fun ls hl => ?_
    refine lv_aload_n hx hb dL_law_1319 rfl (lv_at hl 3 rfl) ?_
    refine lv_aload_n hx hb dL_law_1320 rfl (lv_at hl 5 rfl) ?_
    refine lv_iload hx hb dL_law_1321 (lv_at hl 1 rfl) ?_
    refine lv_iconst (v := 1) hx hb dL_law_1323 rfl ?_
    refine lv_iadd hx hb dL_law_1324 ?_
    refine va_sld hx hb hsc hbl hbA hS (sc_in h0 h1 hL (a := 1) ⟨by decide, by decide⟩) dL_law_1325 ?_
    refine z_Vi (k := 149) (r1 := x) (v1 := v2) hx hb hml hts hown hK hP hS hz hE (c_Model_richest hm e2) kX14_richest mL_151 hm.1 rfl rfl rfl hl.1 (Nat.le_of_ble_eq_true rfl) ⟨Nat.le_of_ble_eq_true rfl, Nat.le_of_ble_eq_true rfl⟩ ⟨by omega, by omega⟩ dL_law_1326 fun H1 locs1 hz hP hS => ?_
    have hd2 : LD sh v2 n sp := hd.go hI2 (Nat.le_refl _)
    refine lv_istore (lv' := (6, .int x) :: (5, .int 0) :: LL Γ b i) hx hb dL_law_1329 hl (by decide) rfl fun ls hl => ?_
    refine lv_aload_n hx hb dL_law_1331 rfl (lv_at hl 4 rfl) ?_
    refine z_Vi (k := 149) (r1 := v2 149 0) (v1 := v2) hx hb hml hts hown hK hP hS hz hE (c_Model_thrown (q := v2 149 0) hm rfl) kX14_thrown mL_86 hm.1 rfl rfl rfl hl.1 (Nat.le_of_ble_eq_true rfl) ⟨Nat.le_of_ble_eq_true rfl, Nat.le_of_ble_eq_true rfl⟩ ⟨by omega, by omega⟩ dL_law_1332 fun H1 locs1 hz hP hS => ?_
    refine lv_iload hx hb dL_law_1335 (lv_at hl 1 rfl) ?_
    refine lv_icmp_eq (tgt := 1342) hx hb dL_law_1337 rfl (fun _ => ?_) (fun hne => absurd e3 hne)
    refine lv_iload hx hb dL_law_1342 (lv_at hl 1 rfl) ?_
    refine lv_if_ne (tgt := 1359) hx hb dL_law_1344 rfl (fun h => absurd rfl h) (fun _ => ?_)
    refine lv_aload_n hx hb dL_law_1347 rfl (lv_at hl 3 rfl) ?_
    refine lv_iconst (v := 0) hx hb dL_law_1348 rfl ?_
    refine w_lald (k := 194) (N := 1) hx hb hK hP h4 pin_1 dL_law_1349 ?_
    rw [lu_0]
    refine lv_iload hx hb dL_law_1350 (lv_at hl 0 rfl) ?_
    refine lv_i2l (v := x.toInt64) hx hb dL_law_1352 rfl ?_
    refine lv_lcmpE hx hb dL_law_1353 ?_
    refine lv_if_eq (tgt := 1359) hx hb dL_law_1354 rfl (fun _ => ?_) (fun h => absurd rfl h)
    refine lv_goto (tgt := 1473) hx hb dL_law_1359 rfl ?_
    refine W.widen (k := cells + 30) (n := slots + 2000) (by omega) (by omega) ?_
    exact kk _ _ _ _ _ _ _ _ hd2 hP hS hz hl.two
  · simp only [List.mem_cons, Prod.mk.injEq, List.not_mem_nil, or_false] at hkt
    have hk9 : k = 1 := hkt.1
    refine z_SS (own := RL) hx hb hml hts hown hK hP hS hz hE (c_L_richest hq h4 hX hN hlt e1 (fun c h => by cases h; exact hk9)) kL_richest (tk6 (i := 90) (by decide +kernel) rfl) rfl rfl hl.1 (Nat.le_of_ble_eq_true rfl) ⟨Nat.le_of_ble_eq_true rfl, Nat.le_of_ble_eq_true rfl⟩ ⟨by omega, by omega⟩ dL_law_1314 fun r u H1 locs1 hp hz hP hS => ?_
    rcases hp with ⟨a9, v9, hq9, -⟩ | ⟨c9, hq9, hr, hu1, hu2, hn2⟩
    · cases hq9
    cases hq9
    rw [hu1, hu2] at hP
    have hrt : r = t := hr.2.trans hkt.2.symm
    have hr0 : ¬ r = 0 := by rw [hr.2]; decide
    refine lv_istore (lv' := (5, .int r) :: LL Γ b i) hx hb dL_law_1317 hl (by decide) rfl fun ls hl => ?_
    refine lv_aload_n hx hb dL_law_1319 rfl (lv_at hl 3 rfl) ?_
    refine lv_aload_n hx hb dL_law_1320 rfl (lv_at hl 5 rfl) ?_
    refine lv_iload hx hb dL_law_1321 (lv_at hl 1 rfl) ?_
    refine lv_iconst (v := 1) hx hb dL_law_1323 rfl ?_
    refine lv_iadd hx hb dL_law_1324 ?_
    refine va_sld hx hb hsc hbl hbA hS (sc_in h0 h1 hL (a := 1) ⟨by decide, by decide⟩) dL_law_1325 ?_
    refine z_Vi (k := 149) (r1 := y) (v1 := v2) hx hb hml hts hown hK hP hS hz hE (c_Model_richest hm e2) kX14_richest mL_151 hm.1 rfl rfl rfl hl.1 (Nat.le_of_ble_eq_true rfl) ⟨Nat.le_of_ble_eq_true rfl, Nat.le_of_ble_eq_true rfl⟩ ⟨by omega, by omega⟩ dL_law_1326 fun H1 locs1 hz hP hS => ?_
    have hd2 : LD sh v2 u.2.2 sp := hd.go hI2 hn2
    refine lv_istore (lv' := (6, .int y) :: (5, .int r) :: LL Γ b i) hx hb dL_law_1329 hl (by decide) rfl fun ls hl => ?_
    refine lv_aload_n hx hb dL_law_1331 rfl (lv_at hl 4 rfl) ?_
    refine z_Vi (k := 149) (r1 := v2 149 0) (v1 := v2) hx hb hml hts hown hK hP hS hz hE (c_Model_thrown (q := v2 149 0) hm rfl) kX14_thrown mL_86 hm.1 rfl rfl rfl hl.1 (Nat.le_of_ble_eq_true rfl) ⟨Nat.le_of_ble_eq_true rfl, Nat.le_of_ble_eq_true rfl⟩ ⟨by omega, by omega⟩ dL_law_1332 fun H1 locs1 hz hP hS => ?_
    refine lv_iload hx hb dL_law_1335 (lv_at hl 1 rfl) ?_
    refine lv_icmp_eq (tgt := 1342) hx hb dL_law_1337 rfl (fun _ => ?_) (fun hne => absurd (e3.trans hrt.symm) hne)
    refine lv_iload hx hb dL_law_1342 (lv_at hl 1 rfl) ?_
    refine lv_if_ne (tgt := 1359) hx hb dL_law_1344 rfl (fun _ => ?_) (fun h => absurd h hr0)
    refine lv_goto (tgt := 1473) hx hb dL_law_1359 rfl ?_
    refine W.widen (k := cells + 30) (n := slots + 2000) (by omega) (by omega) ?_
    exact kk _ _ _ _ _ _ _ _ hd2 hP hS hz hl.two
theorem turn_until {p : Program} {l : Launch} {e : Env} {s : State} {m : MethodId} {args : Array Value} {below : List Frame} {meth : Method} {c : Code} {Q : State → Prop} {Γ : Cx} {b L cells slots : Nat} {xs : Nat → Int32} {i : Int32} (hc : LC Γ p s m args c b L xs) (hlt : l.stackTraces = false) (h0 : 0 ≤ i.toInt) (h1 : i.toInt + 6 ≤ L) (hrc : cells + 30 ≤ room_1.cells) (hrs : slots + 2000 ≤ room_1.slots) (kk : LK l Γ p e s m args below meth c b i (cells + 30) (slots + 2000) Q 1473) : LK l Γ p e s m args below meth c b i cells slots Q 1362 := by
  intro sh v w n sp H locs ls hd hP hS hz hl
  obtain ⟨hx, hb, hml, hts, hown, hK, hE, hF, hX, hN, hsc, hbl, hbA, hL⟩ := hc
  have hq := hd.1
  have hm := hd.2.1
  have h4 := hd.2.2.1
  have hI := hd.2.2.2.1
  have hn := hd.2.2.2.2.1
  have hsp := hd.2.2.2.2.2

  refine lv_aload_n hx hb dL_law_1362 rfl (lv_at hl 3 rfl) ?_
  refine lv_aload_n hx hb dL_law_1363 rfl (lv_at hl 4 rfl) ?_
  refine lv_iload hx hb dL_law_1364 (lv_at hl 0 rfl) ?_
  refine lv_iconst (v := 1) hx hb dL_law_1366 rfl ?_
  refine lv_iadd hx hb dL_law_1367 ?_
  refine va_sld hx hb hsc hbl hbA hS (sc_in h0 h1 hL (a := 1) ⟨by decide, by decide⟩) dL_law_1368 ?_
  refine lv_aload_n hx hb dL_law_1369 rfl (lv_at hl 1 rfl) ?_
  rcases s_until (z := 5000) (by omega) hI (xs (i + 1).toNatClampNeg) with ⟨x, v1, v2, e1, e2, e3, hI2⟩ | ⟨k, t, y, v2, hkt, e1, e2, e3, hI2⟩
  · refine z_SS (own := RL) hx hb hml hts hown hK hP hS hz hE (c_L_until hq h4 hX hN hlt e1 (fun c h => by cases h)) kL_until (tk6 (i := 102) (by decide +kernel) rfl) rfl rfl hl.1 (Nat.le_of_ble_eq_true rfl) ⟨Nat.le_of_ble_eq_true rfl, Nat.le_of_ble_eq_true rfl⟩ ⟨by omega, by omega⟩ dL_law_1370 fun r u H1 locs1 hp hz hP hS => ?_
    rcases Or.symm hp with ⟨c9, hq9, -⟩ | ⟨a9, v9, hq9, rfl, rfl⟩
    · cases hq9
    cases hq9
    have hz : H1.size = Γ.2.1 + n := hz
    have hP : Wd Γ sh v1 (up w 194 (lu (w 194) 0 x.toInt64)) H1 := hP
    refine lv_istore (lv' := (5, .int 0) :: LL Γ b i) hx hb dL_law_1373 hl (by decide) rfl fun ls hl => ?_
    refine lv_aload_n hx hb dL_law_1375 rfl (lv_at hl 3 rfl) ?_
    refine lv_aload_n hx hb dL_law_1376 rfl (lv_at hl 5 rfl) ?_
    refine lv_iload hx hb dL_law_1377 (lv_at hl 1 rfl) ?_
    refine lv_iconst (v := 1) hx hb dL_law_1379 rfl ?_
    refine lv_iadd hx hb dL_law_1380 ?_
    refine va_sld hx hb hsc hbl hbA hS (sc_in h0 h1 hL (a := 1) ⟨by decide, by decide⟩) dL_law_1381 ?_
    refine z_Vi (k := 149) (r1 := x) (v1 := v2) hx hb hml hts hown hK hP hS hz hE (c_Model_until hm e2) kX14_until mL_154 hm.1 rfl rfl rfl hl.1 (Nat.le_of_ble_eq_true rfl) ⟨Nat.le_of_ble_eq_true rfl, Nat.le_of_ble_eq_true rfl⟩ ⟨by omega, by omega⟩ dL_law_1382 fun H1 locs1 hz hP hS => ?_
    have hd2 : LD sh v2 n sp := hd.go hI2 (Nat.le_refl _)
    refine lv_istore (lv' := (6, .int x) :: (5, .int 0) :: LL Γ b i) hx hb dL_law_1385 hl (by decide) rfl fun ls hl => ?_
    refine lv_aload_n hx hb dL_law_1387 rfl (lv_at hl 4 rfl) ?_
    refine z_Vi (k := 149) (r1 := v2 149 0) (v1 := v2) hx hb hml hts hown hK hP hS hz hE (c_Model_thrown (q := v2 149 0) hm rfl) kX14_thrown mL_86 hm.1 rfl rfl rfl hl.1 (Nat.le_of_ble_eq_true rfl) ⟨Nat.le_of_ble_eq_true rfl, Nat.le_of_ble_eq_true rfl⟩ ⟨by omega, by omega⟩ dL_law_1388 fun H1 locs1 hz hP hS => ?_
    refine lv_iload hx hb dL_law_1391 (lv_at hl 1 rfl) ?_
    refine lv_icmp_eq (tgt := 1398) hx hb dL_law_1393 rfl (fun _ => ?_) (fun hne => absurd e3 hne)
    refine lv_iload hx hb dL_law_1398 (lv_at hl 1 rfl) ?_
    refine lv_if_ne (tgt := 1415) hx hb dL_law_1400 rfl (fun h => absurd rfl h) (fun _ => ?_)
    refine lv_aload_n hx hb dL_law_1403 rfl (lv_at hl 3 rfl) ?_
    refine lv_iconst (v := 0) hx hb dL_law_1404 rfl ?_
    refine w_lald (k := 194) (N := 1) hx hb hK hP h4 pin_1 dL_law_1405 ?_
    rw [lu_0]
    refine lv_iload hx hb dL_law_1406 (lv_at hl 0 rfl) ?_
    refine lv_i2l (v := x.toInt64) hx hb dL_law_1408 rfl ?_
    refine lv_lcmpE hx hb dL_law_1409 ?_
    refine lv_if_eq (tgt := 1415) hx hb dL_law_1410 rfl (fun _ => ?_) (fun h => absurd rfl h)
    refine lv_goto (tgt := 1473) hx hb dL_law_1415 rfl ?_
    refine W.widen (k := cells + 30) (n := slots + 2000) (by omega) (by omega) ?_
    exact kk _ _ _ _ _ _ _ _ hd2 hP hS hz hl.two
  · simp only [List.mem_cons, Prod.mk.injEq, List.not_mem_nil, or_false] at hkt
    have hk9 : k = 2 := hkt.1
    refine z_SS (own := RL) hx hb hml hts hown hK hP hS hz hE (c_L_until hq h4 hX hN hlt e1 (fun c h => by cases h; exact hk9)) kL_until (tk6 (i := 102) (by decide +kernel) rfl) rfl rfl hl.1 (Nat.le_of_ble_eq_true rfl) ⟨Nat.le_of_ble_eq_true rfl, Nat.le_of_ble_eq_true rfl⟩ ⟨by omega, by omega⟩ dL_law_1370 fun r u H1 locs1 hp hz hP hS => ?_
    rcases hp with ⟨a9, v9, hq9, -⟩ | ⟨c9, hq9, hr, hu1, hu2, hn2⟩
    · cases hq9
    cases hq9
    rw [hu1, hu2] at hP
    have hrt : r = t := hr.2.trans hkt.2.symm
    have hr0 : ¬ r = 0 := by rw [hr.2]; decide
    refine lv_istore (lv' := (5, .int r) :: LL Γ b i) hx hb dL_law_1373 hl (by decide) rfl fun ls hl => ?_
    refine lv_aload_n hx hb dL_law_1375 rfl (lv_at hl 3 rfl) ?_
    refine lv_aload_n hx hb dL_law_1376 rfl (lv_at hl 5 rfl) ?_
    refine lv_iload hx hb dL_law_1377 (lv_at hl 1 rfl) ?_
    refine lv_iconst (v := 1) hx hb dL_law_1379 rfl ?_
    refine lv_iadd hx hb dL_law_1380 ?_
    refine va_sld hx hb hsc hbl hbA hS (sc_in h0 h1 hL (a := 1) ⟨by decide, by decide⟩) dL_law_1381 ?_
    refine z_Vi (k := 149) (r1 := y) (v1 := v2) hx hb hml hts hown hK hP hS hz hE (c_Model_until hm e2) kX14_until mL_154 hm.1 rfl rfl rfl hl.1 (Nat.le_of_ble_eq_true rfl) ⟨Nat.le_of_ble_eq_true rfl, Nat.le_of_ble_eq_true rfl⟩ ⟨by omega, by omega⟩ dL_law_1382 fun H1 locs1 hz hP hS => ?_
    have hd2 : LD sh v2 u.2.2 sp := hd.go hI2 hn2
    refine lv_istore (lv' := (6, .int y) :: (5, .int r) :: LL Γ b i) hx hb dL_law_1385 hl (by decide) rfl fun ls hl => ?_
    refine lv_aload_n hx hb dL_law_1387 rfl (lv_at hl 4 rfl) ?_
    refine z_Vi (k := 149) (r1 := v2 149 0) (v1 := v2) hx hb hml hts hown hK hP hS hz hE (c_Model_thrown (q := v2 149 0) hm rfl) kX14_thrown mL_86 hm.1 rfl rfl rfl hl.1 (Nat.le_of_ble_eq_true rfl) ⟨Nat.le_of_ble_eq_true rfl, Nat.le_of_ble_eq_true rfl⟩ ⟨by omega, by omega⟩ dL_law_1388 fun H1 locs1 hz hP hS => ?_
    refine lv_iload hx hb dL_law_1391 (lv_at hl 1 rfl) ?_
    refine lv_icmp_eq (tgt := 1398) hx hb dL_law_1393 rfl (fun _ => ?_) (fun hne => absurd (e3.trans hrt.symm) hne)
    refine lv_iload hx hb dL_law_1398 (lv_at hl 1 rfl) ?_
    refine lv_if_ne (tgt := 1415) hx hb dL_law_1400 rfl (fun _ => ?_) (fun h => absurd h hr0)
    refine lv_goto (tgt := 1473) hx hb dL_law_1415 rfl ?_
    refine W.widen (k := cells + 30) (n := slots + 2000) (by omega) (by omega) ?_
    exact kk _ _ _ _ _ _ _ _ hd2 hP hS hz hl.two
theorem turn_teach {p : Program} {l : Launch} {e : Env} {s : State} {m : MethodId} {args : Array Value} {below : List Frame} {meth : Method} {c : Code} {Q : State → Prop} {Γ : Cx} {b L cells slots : Nat} {xs : Nat → Int32} {i : Int32} (hc : LC Γ p s m args c b L xs) (hrc : cells + 30 ≤ room_1.cells) (hrs : slots + 2000 ≤ room_1.slots) (kk : LK l Γ p e s m args below meth c b i (cells + 30) (slots + 2000) Q 1473) : LK l Γ p e s m args below meth c b i cells slots Q 308 := by
  intro sh v w n sp H locs ls hd hP hS hz hl
  obtain ⟨hx, hb, hml, hts, hown, hK, hE, hF, hX, hN, hsc, hbl, hbA, hL⟩ := hc
  have hq := hd.1
  have hm := hd.2.1
  have hI := hd.2.2.2.1
  have hn := hd.2.2.2.2.1
  have hsp := hd.2.2.2.2.2
  obtain ⟨x, v1, sh', v2, sp', e1, e2, hI2, hs2, hm2, hq2⟩ := s_teach (sh := sh) (n := n) (z := 5000) (by omega) hI (by omega) hsp hm
  refine lv_aload_n hx hb dL_law_308 rfl (lv_at hl 3 rfl) ?_
  refine z_Vi (k := 0) (r1 := x) (v1 := v1) hx hb hml hts hown hK hP hS hz hE (c_Quay_teach hq hF e1) kX11_teach mL_94 hq.1 rfl rfl rfl hl.1 (Nat.le_of_ble_eq_true rfl) ⟨Nat.le_of_ble_eq_true rfl, Nat.le_of_ble_eq_true rfl⟩ ⟨by omega, by omega⟩ dL_law_309 fun H1 locs1 hz hP hS => ?_
  refine lv_aload_n hx hb dL_law_312 rfl (lv_at hl 2 rfl) ?_
  have htC : tC ≤ 30 := Nat.le_of_ble_eq_true rfl
  have htS : tS ≤ 2000 := Nat.le_of_ble_eq_true rfl
  refine z_VT (C := tC) (S := tS) (k := 149) (r1 := x) (u1 := (sh', v2, n + 22)) hx hb hml hts hown hK hP hS hz hE (c_Model_teach hm (by omega) hsp hF e2) kX14_teach mL_97 hm.1 rfl rfl rfl hl.1 (Nat.le_of_ble_eq_true rfl) ⟨Nat.le_of_ble_eq_true rfl, Nat.le_of_ble_eq_true rfl⟩ ⟨Nat.le_trans (Nat.add_le_add_left htC _) hrc, Nat.le_trans (Nat.add_le_add_left htS _) hrs⟩ dL_law_313 fun H1 locs1 hz hP hS => ?_
  refine lv_icmp_eq (tgt := 1473) hx hb dL_law_316 rfl (fun _ => ?_) (fun hne => absurd rfl hne)
  have hz : H1.size = Γ.2.1 + (n + 22) := hz
  have hP : Wd Γ sh' v2 w H1 := hP
  refine W.widen (k := cells + 30) (n := slots + 2000) (Nat.add_le_add_left htC _) (Nat.add_le_add_left htS _) ?_
  exact kk _ _ _ _ _ _ _ _ (hd.far hq2 hm2 hI2 (by omega) hs2) hP hS hz hl
theorem turn_errorAt {p : Program} {l : Launch} {e : Env} {s : State} {m : MethodId} {args : Array Value} {below : List Frame} {meth : Method} {c : Code} {Q : State → Prop} {Γ : Cx} {b L cells slots : Nat} {xs : Nat → Int32} {i : Int32} (hc : LC Γ p s m args c b L xs) (hrc : cells + 30 ≤ room_1.cells) (hrs : slots + 2000 ≤ room_1.slots) (kk : LK l Γ p e s m args below meth c b i (cells + 30) (slots + 2000) Q 1473) : LK l Γ p e s m args below meth c b i cells slots Q 321 := by
  intro sh v w n sp H locs ls hd hP hS hz hl
  obtain ⟨hx, hb, hml, hts, hown, hK, hE, hF, hX, hN, hsc, hbl, hbA, hL⟩ := hc
  have hq := hd.1
  have hm := hd.2.1
  obtain ⟨x, v2, e1, e2, hI2⟩ := s_errorAt hd.2.2.2.1
  refine lv_aload_n hx hb dL_law_321 rfl (lv_at hl 3 rfl) ?_
  refine z_Vi (k := 0) (r1 := x) (v1 := v) hx hb hml hts hown hK hP hS hz hE (c_Quay_errorAt hq e1) kX11_errorAt mL_98 hq.1 rfl rfl rfl hl.1 (Nat.le_of_ble_eq_true rfl) ⟨Nat.le_of_ble_eq_true rfl, Nat.le_of_ble_eq_true rfl⟩ ⟨by omega, by omega⟩ dL_law_322 fun H1 locs1 hz hP hS => ?_
  refine lv_aload_n hx hb dL_law_325 rfl (lv_at hl 2 rfl) ?_
  refine z_Vi (k := 149) (r1 := x) (v1 := v2) hx hb hml hts hown hK hP hS hz hE (c_Model_errorAt hm e2) kX14_errorAt mL_101 hm.1 rfl rfl rfl hl.1 (Nat.le_of_ble_eq_true rfl) ⟨Nat.le_of_ble_eq_true rfl, Nat.le_of_ble_eq_true rfl⟩ ⟨by omega, by omega⟩ dL_law_326 fun H1 locs1 hz hP hS => ?_
  refine lv_icmp_eq (tgt := 1473) hx hb dL_law_329 rfl (fun _ => ?_) (fun hne => absurd rfl hne)
  refine W.widen (k := cells + 30) (n := slots + 2000) (by omega) (by omega) ?_
  exact kk _ _ _ _ _ _ _ _ (hd.go hI2 (Nat.le_refl _)) hP hS hz hl
theorem turn_digest {p : Program} {l : Launch} {e : Env} {s : State} {m : MethodId} {args : Array Value} {below : List Frame} {meth : Method} {c : Code} {Q : State → Prop} {Γ : Cx} {b L cells slots : Nat} {xs : Nat → Int32} {i : Int32} (hc : LC Γ p s m args c b L xs) (hrc : cells + 30 ≤ room_1.cells) (hrs : slots + 2000 ≤ room_1.slots) (kk : LK l Γ p e s m args below meth c b i (cells + 30) (slots + 2000) Q 1473) : LK l Γ p e s m args below meth c b i cells slots Q 1459 := by
  intro sh v w n sp H locs ls hd hP hS hz hl
  obtain ⟨hx, hb, hml, hts, hown, hK, hE, hF, hX, hN, hsc, hbl, hbA, hL⟩ := hc
  have hq := hd.1
  have hm := hd.2.1
  obtain ⟨x, v1, v2, e1, e2, hI2⟩ := s_digest (z := 5000) (by omega) hd.2.2.2.1
  refine lv_aload_n hx hb dL_law_1459 rfl (lv_at hl 3 rfl) ?_
  refine z_Vl (k := 0) (r1 := x) (v1 := v1) hx hb hml hts hown hK hP hS hz hE (c_Quay_digest hq e1) kX11_digest mL_160 hq.1 rfl rfl rfl hl.1 (Nat.le_of_ble_eq_true rfl) ⟨Nat.le_of_ble_eq_true rfl, Nat.le_of_ble_eq_true rfl⟩ ⟨by omega, by omega⟩ dL_law_1460 fun H1 locs1 hz hP hS => ?_
  refine lv_aload_n hx hb dL_law_1463 rfl (lv_at hl 2 rfl) ?_
  refine z_Vl (k := 149) (r1 := x) (v1 := v2) hx hb hml hts hown hK hP hS hz hE (c_Model_digest hm e2) kX14_digest mL_164 hm.1 rfl rfl rfl hl.1 (Nat.le_of_ble_eq_true rfl) ⟨Nat.le_of_ble_eq_true rfl, Nat.le_of_ble_eq_true rfl⟩ ⟨by omega, by omega⟩ dL_law_1464 fun H1 locs1 hz hP hS => ?_
  refine lv_lcmpE hx hb dL_law_1467 ?_
  refine lv_if_eq (tgt := 1473) hx hb dL_law_1468 rfl (fun _ => ?_) (fun h => absurd rfl h)
  refine W.widen (k := cells + 30) (n := slots + 2000) (by omega) (by omega) ?_
  exact kk _ _ _ _ _ _ _ _ (hd.go hI2 (Nat.le_refl _)) hP hS hz hl
theorem turn_mean {p : Program} {l : Launch} {e : Env} {s : State} {m : MethodId} {args : Array Value} {below : List Frame} {meth : Method} {c : Code} {Q : State → Prop} {Γ : Cx} {b L cells slots : Nat} {xs : Nat → Int32} {i : Int32} {d0 : Drawn} (hd0 : s.drawn.sameBut d0 lw_cs) (hc : LC Γ p s m args c b L xs) (hrc : cells + 30 ≤ room_1.cells) (hrs : slots + 2000 ≤ room_1.slots) (kk : ∀ d1 : Drawn, s.drawn.sameBut d1 lw_cs → LK l Γ p e (s.setDrawn d1) m args below meth c b i (cells + 30) (slots + 2000) Q 1473) : LK l Γ p e (s.setDrawn d0) m args below meth c b i cells slots Q 1418 := by
  intro sh v w n sp H locs ls hd hP hS hz hl
  obtain ⟨hx, hb, hml, hts, hown, hK, hE, hF, hX, hN, hsc, hbl, hbA, hL⟩ := hc
  have hS : va_S (gA Γ) s.heap H locs := hS
  have hq := hd.1
  have hm := hd.2.1
  obtain ⟨y, v2, e1, e2, hI2⟩ := s_mean (z := 5000) (by omega) hd.2.2.2.1
  refine lv_aload_n hx hb dL_law_1418 rfl (lv_at hl 3 rfl) ?_
  refine z_VD (k := 0) hd0 hx hb hml (dr_words hts d0) hown hK hP hS hz hE (c_Quay_mean hq e1) kX11_mean (tk4 (i := 75) (by decide +kernel) rfl) hq.1 rfl rfl rfl hl.1 (Nat.le_of_ble_eq_true rfl) ⟨Nat.le_of_ble_eq_true rfl, Nat.le_of_ble_eq_true rfl⟩ ⟨by omega, by omega⟩ dL_law_1419 fun r1 u1 H1 locs1 d1 hp1 hz hP hS hd1 => ?_
  obtain ⟨ha1, hu1⟩ := hp1
  rw [hu1] at hP
  refine lv_dstore (lv' := (5, .double r1) :: LL Γ b i) hx hb dL_law_1422 hl (by decide) rfl fun ls hl => ?_
  refine lv_aload_n hx hb dL_law_1424 rfl (lv_at hl 3 rfl) ?_
  refine z_VD (k := 149) hd1 hx hb hml (dr_words hts d1) hown hK hP hS hz hE (c_Model_mean hm e2) kX14_mean (tk9 (i := 12) (by decide +kernel) rfl) hm.1 rfl rfl rfl hl.1 (Nat.le_of_ble_eq_true rfl) ⟨Nat.le_of_ble_eq_true rfl, Nat.le_of_ble_eq_true rfl⟩ ⟨by omega, by omega⟩ dL_law_1425 fun r2 u2 H1 locs1 d2 hp2 hz hP hS hd2 => ?_
  obtain ⟨ha2, hu2⟩ := hp2
  rw [hu2] at hP
  refine lv_dstore (lv' := (7, .double r2) :: (5, .double r1) :: LL Γ b i) hx hb dL_law_1428 hl (by decide) rfl fun ls hl => ?_
  have fin : W p l e room_1 (s.setDrawn d2) m args below meth c H1 locs1 cells slots Q (F0 m 1456 ls []) := by
    refine lv_goto (tgt := 1473) hx hb dL_law_1456 rfl ?_
    refine W.widen (k := cells + 30) (n := slots + 2000) (by omega) (by omega) ?_
    exact kk d2 hd2 _ _ _ _ _ _ _ _ (hd.go hI2 (Nat.le_refl _)) hP hS hz hl.two
  refine lv_dload hx hb dL_law_1430 (lv_at hl 1 rfl) ?_
  refine lv_dload hx hb dL_law_1432 (lv_at hl 0 rfl) ?_
  refine lv_dcmp hx hb dL_law_1434 ?_
  refine lv_if_eq (tgt := 1456) hx hb dL_law_1435 rfl (fun _ => fin) (fun hne => ?_)
  obtain ⟨hn1, hn2⟩ := al_two ha1 ha2 hne
  refine lv_dload hx hb dL_law_1438 (lv_at hl 1 rfl) ?_
  refine lv_dload hx hb dL_law_1440 (lv_at hl 1 rfl) ?_
  refine lv_dcmp hx hb dL_law_1442 ?_
  refine lv_if_eq (tgt := 1454) hx hb dL_law_1443 rfl (fun h => absurd h hn1) (fun _ => ?_)
  refine lv_dload hx hb dL_law_1446 (lv_at hl 0 rfl) ?_
  refine lv_dload hx hb dL_law_1448 (lv_at hl 0 rfl) ?_
  refine lv_dcmp hx hb dL_law_1450 ?_
  exact lv_if_ne (tgt := 1456) hx hb dL_law_1451 rfl (fun _ => fin) (fun h => absurd h hn2)
