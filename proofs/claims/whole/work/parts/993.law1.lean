/-! THE LAW'S OWN CALLS: what it gets, or what it catches -/
theorem ac_long : Cond.arrayClass .long ∈ lw_all := tk9 (i := 22) (by decide +kernel) rfl
theorem cl_13 : Cond.classLink RL 13 "java/lang/IllegalStateException" ∈ lw_all := tk4 (i := 238) (by decide +kernel) rfl
theorem cl_19 : Cond.classLink RL 19 "java/lang/IllegalArgumentException" ∈ lw_all := tk5 (i := 78) (by decide +kernel) rfl
theorem cl_24 : Cond.classLink RL 24 "java/lang/IndexOutOfBoundsException" ∈ lw_all := tk5 (i := 102) (by decide +kernel) rfl
theorem pn_L : plainName RL = true := by decide +kernel
section GL
variable {l : Launch} {Γ : Cx} {sh : Sh} {v : Va} {w : Vl} {n z : Nat}
theorem cs_exB {c : Nat} (hc : c ≤ 2) : Cond.castable (xn c) (xn c) ∈ exB := by
  have : c = 0 ∨ c = 1 ∨ c = 2 := by omega
  rcases this with rfl | rfl | rfl
  · exact List.mem_of_getElem? (i := 3) rfl
  · exact List.mem_of_getElem? (i := 4) rfl
  · exact List.mem_of_getElem? (i := 5) rfl
theorem EN.cs {s : State} {args : Array Value} (hE : EN Γ s) (hX : EX Γ) {c : Nat} (hc : c ≤ 2) : (Cond.castable (xn c) (xn c)).before args s = true := hE.word rfl rfl (hX.2.2.2 _ (cs_exB hc))
theorem EN.nc {s : State} (hE : EN Γ s) (hN : NCs Γ) {a b : Nat} (ha : a ≤ 2) (hb : b ≤ 2) (hab : a ≠ b) : va_Nc (xn a) (xn b) s := (hN a b ha hb hab).moved hE.1.alike
theorem kL_feed : CASW yL_feed cL_feed 8 (some .int) [(0, 16, 19, 13)] 7 := ⟨tk4 (i := 237) (by decide +kernel) rfl, tk1 (i := 0) (by decide +kernel) rfl, tk4 (i := 236) (by decide +kernel) rfl, by decide +kernel, by decide +kernel, by decide +kernel⟩
theorem c_L_feed {a1 : Int32} {a2 : Int32} {a3 : Int32} {a4 : Int32} {a5 : Int32} (hk : isQuay sh) (hL : sh 194 = some (sL 1)) (hX : EX Γ) (hN : NCs Γ) (hlt : l.stackTraces = false) {q : (Int32 × Va) ⊕ Nat} (h : f_Quay_feed z v a1 a2 a3 a4 a5 = some q) (hq : ∀ c : Nat, q = .inr c → c = 0) : MetS l yL_feed cL_feed 8 (some .int) [(0, 16, 19, 13)] 7 Γ sh v w n [.ref (Γ.2.1 + 0), .int a1, .int a2, .int a3, .int a4, .int a5, .ref (Γ.2.1 + 194)] (fun x u => (∃ (a : Int32) (v1 : Va), q = .inl (a, v1) ∧ x = 0 ∧ u = (v1, up w 194 (lu (w 194) 0 a.toInt64), n)) ∨ ∃ c : Nat, q = .inr c ∧ (c = 0 ∧ x = 1) ∧ u.1 = v ∧ u.2.1 = w ∧ n ≤ u.2.2) := by
  refine w_startS pn_L (Nat.le_of_ble_eq_true rfl) fun p e s m args below meth c hx hb hml hret hlk htab hts hown hK hP hz hE hS ls hl => ?_
  refine lv_aload hx hb dL_feed_0 (lv_at hl 6 rfl) ?_
  refine lv_iconst (v := 0) hx hb dL_feed_2 rfl ?_
  refine lv_aload_n hx hb dL_feed_3 rfl (lv_at hl 0 rfl) ?_
  refine lv_iload_n hx hb dL_feed_4 rfl (lv_at hl 1 rfl) ?_
  refine lv_iload_n hx hb dL_feed_5 rfl (lv_at hl 2 rfl) ?_
  refine lv_iload_n hx hb dL_feed_6 rfl (lv_at hl 3 rfl) ?_
  refine lv_iload hx hb dL_feed_7 (lv_at hl 4 rfl) ?_
  refine lv_iload hx hb dL_feed_9 (lv_at hl 5 rfl) ?_
  refine z_Xi (k := 0) hx hb hml hts hown hK hP hS hz hE (c_Quay_feed hk hX hlt h) kX11_feed (tk4 (i := 239) (by decide +kernel) rfl) hk.1 rfl rfl rfl hl.1 (Nat.le_of_ble_eq_true rfl) ⟨Nat.le_of_ble_eq_true rfl, Nat.le_of_ble_eq_true rfl⟩ ⟨Nat.le_refl _, Nat.le_refl _⟩ dL_feed_11 (fun E ce q9 n1 H1 locs1 hex hP hz1 hn hS hce hcv hcl => ?_) (fun r u H1 locs1 hp hz hP hS => ?_)
  · obtain ⟨c0, hc0, rfl⟩ := hex
    have hc : c0 = 0 := hq c0 hc0
    subst hc
    refine vx_catch hown [] ⟨0, 16, 19, 13⟩ [] (htab.trans rfl) (fun z hz => absurd hz List.not_mem_nil) rfl (by decide) (hts _ cl_13) (hE.cs (c := 0) hX (by decide)) hce hcv hcl ?_
    refine lv_astore (lv' := [(7, .ref q9), (0, .ref (Γ.2.1 + 0)), (1, .int a1), (2, .int a2), (3, .int a3), (4, .int a4), (5, .int a5), (6, .ref (Γ.2.1 + 194))]) hx hb dL_feed_19 hl (by decide) rfl fun ls hl => ?_
    refine lv_iconst (v := 1) hx hb dL_feed_21 rfl ?_
    exact w_sret hx hb hret rfl hlk hK hP hS hz1 hE (Or.inr ⟨0, hc0, ⟨rfl, rfl⟩, rfl, rfl, hn⟩) dL_feed_22
  · refine lv_i2l (v := r.toInt64) hx hb dL_feed_14 rfl ?_
    refine w_last (k := 194) hx hb hK hP hS hz hL (show ¬ ((0 : Int32) < 0 ∨ 1 ≤ (0 : Int32).toNatClampNeg) by decide) dL_feed_15 fun H1 locs1 hz hP hS => ?_
    refine lv_goto (tgt := 23) hx hb dL_feed_16 rfl ?_
    refine lv_iconst (v := 0) hx hb dL_feed_23 rfl ?_
    exact w_sret hx hb hret rfl hlk hK hP hS hz hE (Or.inl ⟨r, u, hp, rfl, rfl⟩) dL_feed_24
theorem kL_trim : CASW yL_trim cL_trim 4 (some .int) [(0, 9, 12, 19)] 3 := ⟨tk5 (i := 77) (by decide +kernel) rfl, tk1 (i := 0) (by decide +kernel) rfl, tk5 (i := 76) (by decide +kernel) rfl, by decide +kernel, by decide +kernel, by decide +kernel⟩
theorem c_L_trim {a1 : Int32} (hk : isQuay sh) (hL : sh 194 = some (sL 1)) (hX : EX Γ) (hN : NCs Γ) (hlt : l.stackTraces = false) {q : (Int32 × Va) ⊕ Nat} (h : f_Quay_trim v a1 = some q) (hq : ∀ c : Nat, q = .inr c → c = 1) : MetS l yL_trim cL_trim 4 (some .int) [(0, 9, 12, 19)] 7 Γ sh v w n [.ref (Γ.2.1 + 0), .int a1, .ref (Γ.2.1 + 194)] (fun x u => (∃ (a : Int32) (v1 : Va), q = .inl (a, v1) ∧ x = 0 ∧ u = (v1, up w 194 (lu (w 194) 0 a.toInt64), n)) ∨ ∃ c : Nat, q = .inr c ∧ (c = 1 ∧ x = 1) ∧ u.1 = v ∧ u.2.1 = w ∧ n ≤ u.2.2) := by
  refine w_startS pn_L (Nat.le_of_ble_eq_true rfl) fun p e s m args below meth c hx hb hml hret hlk htab hts hown hK hP hz hE hS ls hl => ?_
  refine lv_aload_n hx hb dL_trim_0 rfl (lv_at hl 2 rfl) ?_
  refine lv_iconst (v := 0) hx hb dL_trim_1 rfl ?_
  refine lv_aload_n hx hb dL_trim_2 rfl (lv_at hl 0 rfl) ?_
  refine lv_iload_n hx hb dL_trim_3 rfl (lv_at hl 1 rfl) ?_
  refine z_Xi (k := 0) hx hb hml hts hown hK hP hS hz hE (c_Quay_trim hk hX hlt h) kX11_trim (tk5 (i := 79) (by decide +kernel) rfl) hk.1 rfl rfl rfl hl.1 (Nat.le_of_ble_eq_true rfl) ⟨Nat.le_of_ble_eq_true rfl, Nat.le_of_ble_eq_true rfl⟩ ⟨Nat.le_refl _, Nat.le_refl _⟩ dL_trim_4 (fun E ce q9 n1 H1 locs1 hex hP hz1 hn hS hce hcv hcl => ?_) (fun r u H1 locs1 hp hz hP hS => ?_)
  · obtain ⟨c0, hc0, rfl⟩ := hex
    have hc : c0 = 1 := hq c0 hc0
    subst hc
    refine vx_catch hown [] ⟨0, 9, 12, 19⟩ [] (htab.trans rfl) (fun z hz => absurd hz List.not_mem_nil) rfl (by decide) (hts _ cl_19) (hE.cs (c := 1) hX (by decide)) hce hcv hcl ?_
    refine lv_astore_n (lv' := [(3, .ref q9), (0, .ref (Γ.2.1 + 0)), (1, .int a1), (2, .ref (Γ.2.1 + 194))]) hx hb dL_trim_12 rfl hl (by decide) rfl fun ls hl => ?_
    refine lv_iconst (v := 1) hx hb dL_trim_13 rfl ?_
    exact w_sret hx hb hret rfl hlk hK hP hS hz1 hE (Or.inr ⟨1, hc0, ⟨rfl, rfl⟩, rfl, rfl, hn⟩) dL_trim_14
  · refine lv_i2l (v := r.toInt64) hx hb dL_trim_7 rfl ?_
    refine w_last (k := 194) hx hb hK hP hS hz hL (show ¬ ((0 : Int32) < 0 ∨ 1 ≤ (0 : Int32).toNatClampNeg) by decide) dL_trim_8 fun H1 locs1 hz hP hS => ?_
    refine lv_goto (tgt := 15) hx hb dL_trim_9 rfl ?_
    refine lv_iconst (v := 0) hx hb dL_trim_15 rfl ?_
    exact w_sret hx hb hret rfl hlk hK hP hS hz hE (Or.inl ⟨r, u, hp, rfl, rfl⟩) dL_trim_16
theorem kL_count : CASW yL_count cL_count 4 (some .int) [(0, 9, 12, 24)] 3 := ⟨tk5 (i := 101) (by decide +kernel) rfl, tk1 (i := 0) (by decide +kernel) rfl, tk5 (i := 100) (by decide +kernel) rfl, by decide +kernel, by decide +kernel, by decide +kernel⟩
theorem c_L_count {a1 : Int32} (hk : isQuay sh) (hL : sh 194 = some (sL 1)) (hX : EX Γ) (hN : NCs Γ) (hlt : l.stackTraces = false) {q : Int32 ⊕ Nat} (h : f_Quay_count v a1 = some q) (hq : ∀ c : Nat, q = .inr c → c = 2) : MetS l yL_count cL_count 4 (some .int) [(0, 9, 12, 24)] 7 Γ sh v w n [.ref (Γ.2.1 + 0), .int a1, .ref (Γ.2.1 + 194)] (fun x u => (∃ (a : Int32), q = .inl a ∧ x = 0 ∧ u = (v, up w 194 (lu (w 194) 0 a.toInt64), n)) ∨ ∃ c : Nat, q = .inr c ∧ (c = 2 ∧ x = 1) ∧ u.1 = v ∧ u.2.1 = w ∧ n ≤ u.2.2) := by
  refine w_startS pn_L (Nat.le_of_ble_eq_true rfl) fun p e s m args below meth c hx hb hml hret hlk htab hts hown hK hP hz hE hS ls hl => ?_
  refine lv_aload_n hx hb dL_count_0 rfl (lv_at hl 2 rfl) ?_
  refine lv_iconst (v := 0) hx hb dL_count_1 rfl ?_
  refine lv_aload_n hx hb dL_count_2 rfl (lv_at hl 0 rfl) ?_
  refine lv_iload_n hx hb dL_count_3 rfl (lv_at hl 1 rfl) ?_
  refine z_Xi (k := 0) hx hb hml hts hown hK hP hS hz hE (c_Quay_count hk hX hlt h) kX11_count (tk5 (i := 103) (by decide +kernel) rfl) hk.1 rfl rfl rfl hl.1 (Nat.le_of_ble_eq_true rfl) ⟨Nat.le_of_ble_eq_true rfl, Nat.le_of_ble_eq_true rfl⟩ ⟨Nat.le_refl _, Nat.le_refl _⟩ dL_count_4 (fun E ce q9 n1 H1 locs1 hex hP hz1 hn hS hce hcv hcl => ?_) (fun r u H1 locs1 hp hz hP hS => ?_)
  · obtain ⟨c0, hc0, rfl⟩ := hex
    have hc : c0 = 2 := hq c0 hc0
    subst hc
    refine vx_catch hown [] ⟨0, 9, 12, 24⟩ [] (htab.trans rfl) (fun z hz => absurd hz List.not_mem_nil) rfl (by decide) (hts _ cl_24) (hE.cs (c := 2) hX (by decide)) hce hcv hcl ?_
    refine lv_astore_n (lv' := [(3, .ref q9), (0, .ref (Γ.2.1 + 0)), (1, .int a1), (2, .ref (Γ.2.1 + 194))]) hx hb dL_count_12 rfl hl (by decide) rfl fun ls hl => ?_
    refine lv_iconst (v := 1) hx hb dL_count_13 rfl ?_
    exact w_sret hx hb hret rfl hlk hK hP hS hz1 hE (Or.inr ⟨2, hc0, ⟨rfl, rfl⟩, rfl, rfl, hn⟩) dL_count_14
  · obtain ⟨hp, hu⟩ := hp
    rw [hu] at hP
    refine lv_i2l (v := r.toInt64) hx hb dL_count_7 rfl ?_
    refine w_last (k := 194) hx hb hK hP hS hz hL (show ¬ ((0 : Int32) < 0 ∨ 1 ≤ (0 : Int32).toNatClampNeg) by decide) dL_count_8 fun H1 locs1 hz hP hS => ?_
    refine lv_goto (tgt := 15) hx hb dL_count_9 rfl ?_
    refine lv_iconst (v := 0) hx hb dL_count_15 rfl ?_
    exact w_sret hx hb hret rfl hlk hK hP hS hz hE (Or.inl ⟨r, hp, rfl, rfl⟩) dL_count_16
theorem kL_lot : CASW yL_lot cL_lot 5 (some .int) [(0, 10, 13, 24)] 4 := ⟨tk5 (i := 125) (by decide +kernel) rfl, tk1 (i := 0) (by decide +kernel) rfl, tk5 (i := 124) (by decide +kernel) rfl, by decide +kernel, by decide +kernel, by decide +kernel⟩
theorem c_L_lot {a1 : Int32} {a2 : Int32} (hk : isQuay sh) (hL : sh 194 = some (sL 1)) (hX : EX Γ) (hN : NCs Γ) (hlt : l.stackTraces = false) {q : Int32 ⊕ Nat} (h : f_Quay_lot v a1 a2 = some q) (hq : ∀ c : Nat, q = .inr c → c = 2) : MetS l yL_lot cL_lot 5 (some .int) [(0, 10, 13, 24)] 7 Γ sh v w n [.ref (Γ.2.1 + 0), .int a1, .int a2, .ref (Γ.2.1 + 194)] (fun x u => (∃ (a : Int32), q = .inl a ∧ x = 0 ∧ u = (v, up w 194 (lu (w 194) 0 a.toInt64), n)) ∨ ∃ c : Nat, q = .inr c ∧ (c = 2 ∧ x = 1) ∧ u.1 = v ∧ u.2.1 = w ∧ n ≤ u.2.2) := by
  refine w_startS pn_L (Nat.le_of_ble_eq_true rfl) fun p e s m args below meth c hx hb hml hret hlk htab hts hown hK hP hz hE hS ls hl => ?_
  refine lv_aload_n hx hb dL_lot_0 rfl (lv_at hl 3 rfl) ?_
  refine lv_iconst (v := 0) hx hb dL_lot_1 rfl ?_
  refine lv_aload_n hx hb dL_lot_2 rfl (lv_at hl 0 rfl) ?_
  refine lv_iload_n hx hb dL_lot_3 rfl (lv_at hl 1 rfl) ?_
  refine lv_iload_n hx hb dL_lot_4 rfl (lv_at hl 2 rfl) ?_
  refine z_Xi (k := 0) hx hb hml hts hown hK hP hS hz hE (c_Quay_lot hk hX hlt h) kX11_lot (tk5 (i := 126) (by decide +kernel) rfl) hk.1 rfl rfl rfl hl.1 (Nat.le_of_ble_eq_true rfl) ⟨Nat.le_of_ble_eq_true rfl, Nat.le_of_ble_eq_true rfl⟩ ⟨Nat.le_refl _, Nat.le_refl _⟩ dL_lot_5 (fun E ce q9 n1 H1 locs1 hex hP hz1 hn hS hce hcv hcl => ?_) (fun r u H1 locs1 hp hz hP hS => ?_)
  · obtain ⟨c0, hc0, rfl⟩ := hex
    have hc : c0 = 2 := hq c0 hc0
    subst hc
    refine vx_catch hown [] ⟨0, 10, 13, 24⟩ [] (htab.trans rfl) (fun z hz => absurd hz List.not_mem_nil) rfl (by decide) (hts _ cl_24) (hE.cs (c := 2) hX (by decide)) hce hcv hcl ?_
    refine lv_astore (lv' := [(4, .ref q9), (0, .ref (Γ.2.1 + 0)), (1, .int a1), (2, .int a2), (3, .ref (Γ.2.1 + 194))]) hx hb dL_lot_13 hl (by decide) rfl fun ls hl => ?_
    refine lv_iconst (v := 1) hx hb dL_lot_15 rfl ?_
    exact w_sret hx hb hret rfl hlk hK hP hS hz1 hE (Or.inr ⟨2, hc0, ⟨rfl, rfl⟩, rfl, rfl, hn⟩) dL_lot_16
  · obtain ⟨hp, hu⟩ := hp
    rw [hu] at hP
    refine lv_i2l (v := r.toInt64) hx hb dL_lot_8 rfl ?_
    refine w_last (k := 194) hx hb hK hP hS hz hL (show ¬ ((0 : Int32) < 0 ∨ 1 ≤ (0 : Int32).toNatClampNeg) by decide) dL_lot_9 fun H1 locs1 hz hP hS => ?_
    refine lv_goto (tgt := 17) hx hb dL_lot_10 rfl ?_
    refine lv_iconst (v := 0) hx hb dL_lot_17 rfl ?_
    exact w_sret hx hb hret rfl hlk hK hP hS hz hE (Or.inl ⟨r, hp, rfl, rfl⟩) dL_lot_18
theorem kL_merchant : CASW yL_merchant cL_merchant 5 (some .int) [(0, 10, 13, 24)] 4 := ⟨tk5 (i := 137) (by decide +kernel) rfl, tk1 (i := 0) (by decide +kernel) rfl, tk5 (i := 136) (by decide +kernel) rfl, by decide +kernel, by decide +kernel, by decide +kernel⟩
theorem c_L_merchant {a1 : Int32} {a2 : Int32} (hk : isQuay sh) (hL : sh 194 = some (sL 1)) (hX : EX Γ) (hN : NCs Γ) (hlt : l.stackTraces = false) {q : Int32 ⊕ Nat} (h : f_Quay_merchant z v a1 a2 = some q) (hq : ∀ c : Nat, q = .inr c → c = 2) : MetS l yL_merchant cL_merchant 5 (some .int) [(0, 10, 13, 24)] 7 Γ sh v w n [.ref (Γ.2.1 + 0), .int a1, .int a2, .ref (Γ.2.1 + 194)] (fun x u => (∃ (a : Int32), q = .inl a ∧ x = 0 ∧ u = (v, up w 194 (lu (w 194) 0 a.toInt64), n)) ∨ ∃ c : Nat, q = .inr c ∧ (c = 2 ∧ x = 1) ∧ u.1 = v ∧ u.2.1 = w ∧ n ≤ u.2.2) := by
  refine w_startS pn_L (Nat.le_of_ble_eq_true rfl) fun p e s m args below meth c hx hb hml hret hlk htab hts hown hK hP hz hE hS ls hl => ?_
  refine lv_aload_n hx hb dL_merchant_0 rfl (lv_at hl 3 rfl) ?_
  refine lv_iconst (v := 0) hx hb dL_merchant_1 rfl ?_
  refine lv_aload_n hx hb dL_merchant_2 rfl (lv_at hl 0 rfl) ?_
  refine lv_iload_n hx hb dL_merchant_3 rfl (lv_at hl 1 rfl) ?_
  refine lv_iload_n hx hb dL_merchant_4 rfl (lv_at hl 2 rfl) ?_
  refine z_Xi (k := 0) hx hb hml hts hown hK hP hS hz hE (c_Quay_merchant hk hX hlt h) kX11_merchant (tk5 (i := 138) (by decide +kernel) rfl) hk.1 rfl rfl rfl hl.1 (Nat.le_of_ble_eq_true rfl) ⟨Nat.le_of_ble_eq_true rfl, Nat.le_of_ble_eq_true rfl⟩ ⟨Nat.le_refl _, Nat.le_refl _⟩ dL_merchant_5 (fun E ce q9 n1 H1 locs1 hex hP hz1 hn hS hce hcv hcl => ?_) (fun r u H1 locs1 hp hz hP hS => ?_)
  · obtain ⟨c0, hc0, rfl⟩ := hex
    have hc : c0 = 2 := hq c0 hc0
    subst hc
    refine vx_catch hown [] ⟨0, 10, 13, 24⟩ [] (htab.trans rfl) (fun z hz => absurd hz List.not_mem_nil) rfl (by decide) (hts _ cl_24) (hE.cs (c := 2) hX (by decide)) hce hcv hcl ?_
    refine lv_astore (lv' := [(4, .ref q9), (0, .ref (Γ.2.1 + 0)), (1, .int a1), (2, .int a2), (3, .ref (Γ.2.1 + 194))]) hx hb dL_merchant_13 hl (by decide) rfl fun ls hl => ?_
    refine lv_iconst (v := 1) hx hb dL_merchant_15 rfl ?_
    exact w_sret hx hb hret rfl hlk hK hP hS hz1 hE (Or.inr ⟨2, hc0, ⟨rfl, rfl⟩, rfl, rfl, hn⟩) dL_merchant_16
  · obtain ⟨hp, hu⟩ := hp
    rw [hu] at hP
    refine lv_i2l (v := r.toInt64) hx hb dL_merchant_8 rfl ?_
    refine w_last (k := 194) hx hb hK hP hS hz hL (show ¬ ((0 : Int32) < 0 ∨ 1 ≤ (0 : Int32).toNatClampNeg) by decide) dL_merchant_9 fun H1 locs1 hz hP hS => ?_
    refine lv_goto (tgt := 17) hx hb dL_merchant_10 rfl ?_
    refine lv_iconst (v := 0) hx hb dL_merchant_17 rfl ?_
    exact w_sret hx hb hret rfl hlk hK hP hS hz hE (Or.inl ⟨r, hp, rfl, rfl⟩) dL_merchant_18
theorem kL_guild : CASW yL_guild cL_guild 5 (some .int) [(0, 10, 13, 24)] 4 := ⟨tk5 (i := 149) (by decide +kernel) rfl, tk1 (i := 0) (by decide +kernel) rfl, tk5 (i := 148) (by decide +kernel) rfl, by decide +kernel, by decide +kernel, by decide +kernel⟩
theorem c_L_guild {a1 : Int32} {a2 : Int32} (hk : isQuay sh) (hL : sh 194 = some (sL 1)) (hX : EX Γ) (hN : NCs Γ) (hlt : l.stackTraces = false) {q : Int32 ⊕ Nat} (h : f_Quay_guild z v a1 a2 = some q) (hq : ∀ c : Nat, q = .inr c → c = 2) : MetS l yL_guild cL_guild 5 (some .int) [(0, 10, 13, 24)] 7 Γ sh v w n [.ref (Γ.2.1 + 0), .int a1, .int a2, .ref (Γ.2.1 + 194)] (fun x u => (∃ (a : Int32), q = .inl a ∧ x = 0 ∧ u = (v, up w 194 (lu (w 194) 0 a.toInt64), n)) ∨ ∃ c : Nat, q = .inr c ∧ (c = 2 ∧ x = 1) ∧ u.1 = v ∧ u.2.1 = w ∧ n ≤ u.2.2) := by
  refine w_startS pn_L (Nat.le_of_ble_eq_true rfl) fun p e s m args below meth c hx hb hml hret hlk htab hts hown hK hP hz hE hS ls hl => ?_
  refine lv_aload_n hx hb dL_guild_0 rfl (lv_at hl 3 rfl) ?_
  refine lv_iconst (v := 0) hx hb dL_guild_1 rfl ?_
  refine lv_aload_n hx hb dL_guild_2 rfl (lv_at hl 0 rfl) ?_
  refine lv_iload_n hx hb dL_guild_3 rfl (lv_at hl 1 rfl) ?_
  refine lv_iload_n hx hb dL_guild_4 rfl (lv_at hl 2 rfl) ?_
  refine z_Xi (k := 0) hx hb hml hts hown hK hP hS hz hE (c_Quay_guild hk hX hlt h) kX11_guild (tk5 (i := 150) (by decide +kernel) rfl) hk.1 rfl rfl rfl hl.1 (Nat.le_of_ble_eq_true rfl) ⟨Nat.le_of_ble_eq_true rfl, Nat.le_of_ble_eq_true rfl⟩ ⟨Nat.le_refl _, Nat.le_refl _⟩ dL_guild_5 (fun E ce q9 n1 H1 locs1 hex hP hz1 hn hS hce hcv hcl => ?_) (fun r u H1 locs1 hp hz hP hS => ?_)
  · obtain ⟨c0, hc0, rfl⟩ := hex
    have hc : c0 = 2 := hq c0 hc0
    subst hc
    refine vx_catch hown [] ⟨0, 10, 13, 24⟩ [] (htab.trans rfl) (fun z hz => absurd hz List.not_mem_nil) rfl (by decide) (hts _ cl_24) (hE.cs (c := 2) hX (by decide)) hce hcv hcl ?_
    refine lv_astore (lv' := [(4, .ref q9), (0, .ref (Γ.2.1 + 0)), (1, .int a1), (2, .int a2), (3, .ref (Γ.2.1 + 194))]) hx hb dL_guild_13 hl (by decide) rfl fun ls hl => ?_
    refine lv_iconst (v := 1) hx hb dL_guild_15 rfl ?_
    exact w_sret hx hb hret rfl hlk hK hP hS hz1 hE (Or.inr ⟨2, hc0, ⟨rfl, rfl⟩, rfl, rfl, hn⟩) dL_guild_16
  · obtain ⟨hp, hu⟩ := hp
    rw [hu] at hP
    refine lv_i2l (v := r.toInt64) hx hb dL_guild_8 rfl ?_
    refine w_last (k := 194) hx hb hK hP hS hz hL (show ¬ ((0 : Int32) < 0 ∨ 1 ≤ (0 : Int32).toNatClampNeg) by decide) dL_guild_9 fun H1 locs1 hz hP hS => ?_
    refine lv_goto (tgt := 17) hx hb dL_guild_10 rfl ?_
    refine lv_iconst (v := 0) hx hb dL_guild_17 rfl ?_
    exact w_sret hx hb hret rfl hlk hK hP hS hz hE (Or.inl ⟨r, hp, rfl, rfl⟩) dL_guild_18
theorem kL_order : CASW yL_order cL_order 5 (some .int) [(0, 10, 13, 24)] 4 := ⟨tk5 (i := 157) (by decide +kernel) rfl, tk1 (i := 0) (by decide +kernel) rfl, tk5 (i := 156) (by decide +kernel) rfl, by decide +kernel, by decide +kernel, by decide +kernel⟩
theorem c_L_order {a1 : Int32} {a2 : Int32} (hk : isQuay sh) (hL : sh 194 = some (sL 1)) (hX : EX Γ) (hN : NCs Γ) (hlt : l.stackTraces = false) {q : (Int32 × Va) ⊕ Nat} (h : f_Quay_order z v a1 a2 = some q) (hq : ∀ c : Nat, q = .inr c → c = 2) : MetS l yL_order cL_order 5 (some .int) [(0, 10, 13, 24)] 7 Γ sh v w n [.ref (Γ.2.1 + 0), .int a1, .int a2, .ref (Γ.2.1 + 194)] (fun x u => (∃ (a : Int32) (v1 : Va), q = .inl (a, v1) ∧ x = 0 ∧ u = (v1, up w 194 (lu (w 194) 0 a.toInt64), n)) ∨ ∃ c : Nat, q = .inr c ∧ (c = 2 ∧ x = 1) ∧ u.1 = v ∧ u.2.1 = w ∧ n ≤ u.2.2) := by
  refine w_startS pn_L (Nat.le_of_ble_eq_true rfl) fun p e s m args below meth c hx hb hml hret hlk htab hts hown hK hP hz hE hS ls hl => ?_
  refine lv_aload_n hx hb dL_order_0 rfl (lv_at hl 3 rfl) ?_
  refine lv_iconst (v := 0) hx hb dL_order_1 rfl ?_
  refine lv_aload_n hx hb dL_order_2 rfl (lv_at hl 0 rfl) ?_
  refine lv_iload_n hx hb dL_order_3 rfl (lv_at hl 1 rfl) ?_
  refine lv_iload_n hx hb dL_order_4 rfl (lv_at hl 2 rfl) ?_
  refine z_Xi (k := 0) hx hb hml hts hown hK hP hS hz hE (c_Quay_order hk hX hlt h) kX11_order (tk5 (i := 158) (by decide +kernel) rfl) hk.1 rfl rfl rfl hl.1 (Nat.le_of_ble_eq_true rfl) ⟨Nat.le_of_ble_eq_true rfl, Nat.le_of_ble_eq_true rfl⟩ ⟨Nat.le_refl _, Nat.le_refl _⟩ dL_order_5 (fun E ce q9 n1 H1 locs1 hex hP hz1 hn hS hce hcv hcl => ?_) (fun r u H1 locs1 hp hz hP hS => ?_)
  · obtain ⟨c0, hc0, rfl⟩ := hex
    have hc : c0 = 2 := hq c0 hc0
    subst hc
    refine vx_catch hown [] ⟨0, 10, 13, 24⟩ [] (htab.trans rfl) (fun z hz => absurd hz List.not_mem_nil) rfl (by decide) (hts _ cl_24) (hE.cs (c := 2) hX (by decide)) hce hcv hcl ?_
    refine lv_astore (lv' := [(4, .ref q9), (0, .ref (Γ.2.1 + 0)), (1, .int a1), (2, .int a2), (3, .ref (Γ.2.1 + 194))]) hx hb dL_order_13 hl (by decide) rfl fun ls hl => ?_
    refine lv_iconst (v := 1) hx hb dL_order_15 rfl ?_
    exact w_sret hx hb hret rfl hlk hK hP hS hz1 hE (Or.inr ⟨2, hc0, ⟨rfl, rfl⟩, rfl, rfl, hn⟩) dL_order_16
  · refine lv_i2l (v := r.toInt64) hx hb dL_order_8 rfl ?_
    refine w_last (k := 194) hx hb hK hP hS hz hL (show ¬ ((0 : Int32) < 0 ∨ 1 ≤ (0 : Int32).toNatClampNeg) by decide) dL_order_9 fun H1 locs1 hz hP hS => ?_
    refine lv_goto (tgt := 17) hx hb dL_order_10 rfl ?_
    refine lv_iconst (v := 0) hx hb dL_order_17 rfl ?_
    exact w_sret hx hb hret rfl hlk hK hP hS hz hE (Or.inl ⟨r, u, hp, rfl, rfl⟩) dL_order_18
theorem kL_owes : CASW yL_owes cL_owes 5 (some .int) [(0, 10, 13, 24)] 4 := ⟨tk5 (i := 165) (by decide +kernel) rfl, tk1 (i := 0) (by decide +kernel) rfl, tk5 (i := 164) (by decide +kernel) rfl, by decide +kernel, by decide +kernel, by decide +kernel⟩
theorem c_L_owes {a1 : Int32} {a2 : Int32} (hk : isQuay sh) (hL : sh 194 = some (sL 1)) (hX : EX Γ) (hN : NCs Γ) (hlt : l.stackTraces = false) {q : Int32 ⊕ Nat} (h : f_Quay_owes v a1 a2 = some q) (hq : ∀ c : Nat, q = .inr c → c = 2) : MetS l yL_owes cL_owes 5 (some .int) [(0, 10, 13, 24)] 7 Γ sh v w n [.ref (Γ.2.1 + 0), .int a1, .int a2, .ref (Γ.2.1 + 194)] (fun x u => (∃ (a : Int32), q = .inl a ∧ x = 0 ∧ u = (v, up w 194 (lu (w 194) 0 a.toInt64), n)) ∨ ∃ c : Nat, q = .inr c ∧ (c = 2 ∧ x = 1) ∧ u.1 = v ∧ u.2.1 = w ∧ n ≤ u.2.2) := by
  refine w_startS pn_L (Nat.le_of_ble_eq_true rfl) fun p e s m args below meth c hx hb hml hret hlk htab hts hown hK hP hz hE hS ls hl => ?_
  refine lv_aload_n hx hb dL_owes_0 rfl (lv_at hl 3 rfl) ?_
  refine lv_iconst (v := 0) hx hb dL_owes_1 rfl ?_
  refine lv_aload_n hx hb dL_owes_2 rfl (lv_at hl 0 rfl) ?_
  refine lv_iload_n hx hb dL_owes_3 rfl (lv_at hl 1 rfl) ?_
  refine lv_iload_n hx hb dL_owes_4 rfl (lv_at hl 2 rfl) ?_
  refine z_Xi (k := 0) hx hb hml hts hown hK hP hS hz hE (c_Quay_owes hk hX hlt h) kX11_owes (tk5 (i := 166) (by decide +kernel) rfl) hk.1 rfl rfl rfl hl.1 (Nat.le_of_ble_eq_true rfl) ⟨Nat.le_of_ble_eq_true rfl, Nat.le_of_ble_eq_true rfl⟩ ⟨Nat.le_refl _, Nat.le_refl _⟩ dL_owes_5 (fun E ce q9 n1 H1 locs1 hex hP hz1 hn hS hce hcv hcl => ?_) (fun r u H1 locs1 hp hz hP hS => ?_)
  · obtain ⟨c0, hc0, rfl⟩ := hex
    have hc : c0 = 2 := hq c0 hc0
    subst hc
    refine vx_catch hown [] ⟨0, 10, 13, 24⟩ [] (htab.trans rfl) (fun z hz => absurd hz List.not_mem_nil) rfl (by decide) (hts _ cl_24) (hE.cs (c := 2) hX (by decide)) hce hcv hcl ?_
    refine lv_astore (lv' := [(4, .ref q9), (0, .ref (Γ.2.1 + 0)), (1, .int a1), (2, .int a2), (3, .ref (Γ.2.1 + 194))]) hx hb dL_owes_13 hl (by decide) rfl fun ls hl => ?_
    refine lv_iconst (v := 1) hx hb dL_owes_15 rfl ?_
    exact w_sret hx hb hret rfl hlk hK hP hS hz1 hE (Or.inr ⟨2, hc0, ⟨rfl, rfl⟩, rfl, rfl, hn⟩) dL_owes_16
  · obtain ⟨hp, hu⟩ := hp
    rw [hu] at hP
    refine lv_i2l (v := r.toInt64) hx hb dL_owes_8 rfl ?_
    refine w_last (k := 194) hx hb hK hP hS hz hL (show ¬ ((0 : Int32) < 0 ∨ 1 ≤ (0 : Int32).toNatClampNeg) by decide) dL_owes_9 fun H1 locs1 hz hP hS => ?_
    refine lv_goto (tgt := 17) hx hb dL_owes_10 rfl ?_
    refine lv_iconst (v := 0) hx hb dL_owes_17 rfl ?_
    exact w_sret hx hb hret rfl hlk hK hP hS hz hE (Or.inl ⟨r, hp, rfl, rfl⟩) dL_owes_18
theorem kL_chain : CASW yL_chain cL_chain 5 (some .int) [(0, 10, 13, 24)] 4 := ⟨tk5 (i := 173) (by decide +kernel) rfl, tk1 (i := 0) (by decide +kernel) rfl, tk5 (i := 172) (by decide +kernel) rfl, by decide +kernel, by decide +kernel, by decide +kernel⟩
theorem c_L_chain {a1 : Int32} {a2 : Int32} (hk : isQuay sh) (hL : sh 194 = some (sL 1)) (hX : EX Γ) (hN : NCs Γ) (hlt : l.stackTraces = false) {q : (Int32 × Va) ⊕ Nat} (h : f_Quay_chain z v a1 a2 = some q) (hq : ∀ c : Nat, q = .inr c → c = 2) : MetS l yL_chain cL_chain 5 (some .int) [(0, 10, 13, 24)] 7 Γ sh v w n [.ref (Γ.2.1 + 0), .int a1, .int a2, .ref (Γ.2.1 + 194)] (fun x u => (∃ (a : Int32) (v1 : Va), q = .inl (a, v1) ∧ x = 0 ∧ u = (v1, up w 194 (lu (w 194) 0 a.toInt64), n)) ∨ ∃ c : Nat, q = .inr c ∧ (c = 2 ∧ x = 1) ∧ u.1 = v ∧ u.2.1 = w ∧ n ≤ u.2.2) := by
  refine w_startS pn_L (Nat.le_of_ble_eq_true rfl) fun p e s m args below meth c hx hb hml hret hlk htab hts hown hK hP hz hE hS ls hl => ?_
  refine lv_aload_n hx hb dL_chain_0 rfl (lv_at hl 3 rfl) ?_
  refine lv_iconst (v := 0) hx hb dL_chain_1 rfl ?_
  refine lv_aload_n hx hb dL_chain_2 rfl (lv_at hl 0 rfl) ?_
  refine lv_iload_n hx hb dL_chain_3 rfl (lv_at hl 1 rfl) ?_
  refine lv_iload_n hx hb dL_chain_4 rfl (lv_at hl 2 rfl) ?_
  refine z_Xi (k := 0) hx hb hml hts hown hK hP hS hz hE (c_Quay_chain hk hX hlt h) kX11_chain (tk5 (i := 174) (by decide +kernel) rfl) hk.1 rfl rfl rfl hl.1 (Nat.le_of_ble_eq_true rfl) ⟨Nat.le_of_ble_eq_true rfl, Nat.le_of_ble_eq_true rfl⟩ ⟨Nat.le_refl _, Nat.le_refl _⟩ dL_chain_5 (fun E ce q9 n1 H1 locs1 hex hP hz1 hn hS hce hcv hcl => ?_) (fun r u H1 locs1 hp hz hP hS => ?_)
  · obtain ⟨c0, hc0, rfl⟩ := hex
    have hc : c0 = 2 := hq c0 hc0
    subst hc
    refine vx_catch hown [] ⟨0, 10, 13, 24⟩ [] (htab.trans rfl) (fun z hz => absurd hz List.not_mem_nil) rfl (by decide) (hts _ cl_24) (hE.cs (c := 2) hX (by decide)) hce hcv hcl ?_
    refine lv_astore (lv' := [(4, .ref q9), (0, .ref (Γ.2.1 + 0)), (1, .int a1), (2, .int a2), (3, .ref (Γ.2.1 + 194))]) hx hb dL_chain_13 hl (by decide) rfl fun ls hl => ?_
    refine lv_iconst (v := 1) hx hb dL_chain_15 rfl ?_
    exact w_sret hx hb hret rfl hlk hK hP hS hz1 hE (Or.inr ⟨2, hc0, ⟨rfl, rfl⟩, rfl, rfl, hn⟩) dL_chain_16
  · refine lv_i2l (v := r.toInt64) hx hb dL_chain_8 rfl ?_
    refine w_last (k := 194) hx hb hK hP hS hz hL (show ¬ ((0 : Int32) < 0 ∨ 1 ≤ (0 : Int32).toNatClampNeg) by decide) dL_chain_9 fun H1 locs1 hz hP hS => ?_
    refine lv_goto (tgt := 17) hx hb dL_chain_10 rfl ?_
    refine lv_iconst (v := 0) hx hb dL_chain_17 rfl ?_
    exact w_sret hx hb hret rfl hlk hK hP hS hz hE (Or.inl ⟨r, u, hp, rfl, rfl⟩) dL_chain_18
theorem kL_ring : CASW yL_ring cL_ring 4 (some .int) [(0, 9, 12, 24)] 3 := ⟨tk5 (i := 190) (by decide +kernel) rfl, tk1 (i := 0) (by decide +kernel) rfl, tk5 (i := 189) (by decide +kernel) rfl, by decide +kernel, by decide +kernel, by decide +kernel⟩
theorem c_L_ring {a1 : Int32} (hk : isQuay sh) (hL : sh 194 = some (sL 1)) (hX : EX Γ) (hN : NCs Γ) (hlt : l.stackTraces = false) {q : (Int32 × Va) ⊕ Nat} (h : f_Quay_ring z v a1 = some q) (hq : ∀ c : Nat, q = .inr c → c = 2) : MetS l yL_ring cL_ring 4 (some .int) [(0, 9, 12, 24)] 7 Γ sh v w n [.ref (Γ.2.1 + 0), .int a1, .ref (Γ.2.1 + 194)] (fun x u => (∃ (a : Int32) (v1 : Va), q = .inl (a, v1) ∧ x = 0 ∧ u = (v1, up w 194 (lu (w 194) 0 a.toInt64), n)) ∨ ∃ c : Nat, q = .inr c ∧ (c = 2 ∧ x = 1) ∧ u.1 = v ∧ u.2.1 = w ∧ n ≤ u.2.2) := by
  refine w_startS pn_L (Nat.le_of_ble_eq_true rfl) fun p e s m args below meth c hx hb hml hret hlk htab hts hown hK hP hz hE hS ls hl => ?_
  refine lv_aload_n hx hb dL_ring_0 rfl (lv_at hl 2 rfl) ?_
  refine lv_iconst (v := 0) hx hb dL_ring_1 rfl ?_
  refine lv_aload_n hx hb dL_ring_2 rfl (lv_at hl 0 rfl) ?_
  refine lv_iload_n hx hb dL_ring_3 rfl (lv_at hl 1 rfl) ?_
  refine z_Xi (k := 0) hx hb hml hts hown hK hP hS hz hE (c_Quay_ring hk hX hlt h) kX11_ring (tk5 (i := 191) (by decide +kernel) rfl) hk.1 rfl rfl rfl hl.1 (Nat.le_of_ble_eq_true rfl) ⟨Nat.le_of_ble_eq_true rfl, Nat.le_of_ble_eq_true rfl⟩ ⟨Nat.le_refl _, Nat.le_refl _⟩ dL_ring_4 (fun E ce q9 n1 H1 locs1 hex hP hz1 hn hS hce hcv hcl => ?_) (fun r u H1 locs1 hp hz hP hS => ?_)
  · obtain ⟨c0, hc0, rfl⟩ := hex
    have hc : c0 = 2 := hq c0 hc0
    subst hc
    refine vx_catch hown [] ⟨0, 9, 12, 24⟩ [] (htab.trans rfl) (fun z hz => absurd hz List.not_mem_nil) rfl (by decide) (hts _ cl_24) (hE.cs (c := 2) hX (by decide)) hce hcv hcl ?_
    refine lv_astore_n (lv' := [(3, .ref q9), (0, .ref (Γ.2.1 + 0)), (1, .int a1), (2, .ref (Γ.2.1 + 194))]) hx hb dL_ring_12 rfl hl (by decide) rfl fun ls hl => ?_
    refine lv_iconst (v := 1) hx hb dL_ring_13 rfl ?_
    exact w_sret hx hb hret rfl hlk hK hP hS hz1 hE (Or.inr ⟨2, hc0, ⟨rfl, rfl⟩, rfl, rfl, hn⟩) dL_ring_14
  · refine lv_i2l (v := r.toInt64) hx hb dL_ring_7 rfl ?_
    refine w_last (k := 194) hx hb hK hP hS hz hL (show ¬ ((0 : Int32) < 0 ∨ 1 ≤ (0 : Int32).toNatClampNeg) by decide) dL_ring_8 fun H1 locs1 hz hP hS => ?_
    refine lv_goto (tgt := 15) hx hb dL_ring_9 rfl ?_
    refine lv_iconst (v := 0) hx hb dL_ring_15 rfl ?_
    exact w_sret hx hb hret rfl hlk hK hP hS hz hE (Or.inl ⟨r, u, hp, rfl, rfl⟩) dL_ring_16
theorem kL_setDamp : CASW yL_setDamp cL_setDamp 4 (some .int) [(0, 9, 12, 19)] 3 := ⟨tk5 (i := 207) (by decide +kernel) rfl, tk1 (i := 0) (by decide +kernel) rfl, tk5 (i := 206) (by decide +kernel) rfl, by decide +kernel, by decide +kernel, by decide +kernel⟩
theorem c_L_setDamp {a1 : Int32} (hk : isQuay sh) (hL : sh 194 = some (sL 1)) (hX : EX Γ) (hN : NCs Γ) (hlt : l.stackTraces = false) {q : (Int32 × Va) ⊕ Nat} (h : f_Quay_setDamp v a1 = some q) (hq : ∀ c : Nat, q = .inr c → c = 1) : MetS l yL_setDamp cL_setDamp 4 (some .int) [(0, 9, 12, 19)] 7 Γ sh v w n [.ref (Γ.2.1 + 0), .int a1, .ref (Γ.2.1 + 194)] (fun x u => (∃ (a : Int32) (v1 : Va), q = .inl (a, v1) ∧ x = 0 ∧ u = (v1, up w 194 (lu (w 194) 0 a.toInt64), n)) ∨ ∃ c : Nat, q = .inr c ∧ (c = 1 ∧ x = 1) ∧ u.1 = v ∧ u.2.1 = w ∧ n ≤ u.2.2) := by
  refine w_startS pn_L (Nat.le_of_ble_eq_true rfl) fun p e s m args below meth c hx hb hml hret hlk htab hts hown hK hP hz hE hS ls hl => ?_
  refine lv_aload_n hx hb dL_setDamp_0 rfl (lv_at hl 2 rfl) ?_
  refine lv_iconst (v := 0) hx hb dL_setDamp_1 rfl ?_
  refine lv_aload_n hx hb dL_setDamp_2 rfl (lv_at hl 0 rfl) ?_
  refine lv_iload_n hx hb dL_setDamp_3 rfl (lv_at hl 1 rfl) ?_
  refine z_Xi (k := 0) hx hb hml hts hown hK hP hS hz hE (c_Quay_setDamp hk hX hlt h) kX11_setDamp (tk5 (i := 208) (by decide +kernel) rfl) hk.1 rfl rfl rfl hl.1 (Nat.le_of_ble_eq_true rfl) ⟨Nat.le_of_ble_eq_true rfl, Nat.le_of_ble_eq_true rfl⟩ ⟨Nat.le_refl _, Nat.le_refl _⟩ dL_setDamp_4 (fun E ce q9 n1 H1 locs1 hex hP hz1 hn hS hce hcv hcl => ?_) (fun r u H1 locs1 hp hz hP hS => ?_)
  · obtain ⟨c0, hc0, rfl⟩ := hex
    have hc : c0 = 1 := hq c0 hc0
    subst hc
    refine vx_catch hown [] ⟨0, 9, 12, 19⟩ [] (htab.trans rfl) (fun z hz => absurd hz List.not_mem_nil) rfl (by decide) (hts _ cl_19) (hE.cs (c := 1) hX (by decide)) hce hcv hcl ?_
    refine lv_astore_n (lv' := [(3, .ref q9), (0, .ref (Γ.2.1 + 0)), (1, .int a1), (2, .ref (Γ.2.1 + 194))]) hx hb dL_setDamp_12 rfl hl (by decide) rfl fun ls hl => ?_
    refine lv_iconst (v := 1) hx hb dL_setDamp_13 rfl ?_
    exact w_sret hx hb hret rfl hlk hK hP hS hz1 hE (Or.inr ⟨1, hc0, ⟨rfl, rfl⟩, rfl, rfl, hn⟩) dL_setDamp_14
  · refine lv_i2l (v := r.toInt64) hx hb dL_setDamp_7 rfl ?_
    refine w_last (k := 194) hx hb hK hP hS hz hL (show ¬ ((0 : Int32) < 0 ∨ 1 ≤ (0 : Int32).toNatClampNeg) by decide) dL_setDamp_8 fun H1 locs1 hz hP hS => ?_
    refine lv_goto (tgt := 15) hx hb dL_setDamp_9 rfl ?_
    refine lv_iconst (v := 0) hx hb dL_setDamp_15 rfl ?_
    exact w_sret hx hb hret rfl hlk hK hP hS hz hE (Or.inl ⟨r, u, hp, rfl, rfl⟩) dL_setDamp_16
theorem kL_lend : CASW yL_lend cL_lend 6 (some .int) [(0, 12, 15, 24), (0, 12, 19, 19), (0, 12, 23, 13)] 5 := ⟨tk5 (i := 215) (by decide +kernel) rfl, tk1 (i := 0) (by decide +kernel) rfl, tk5 (i := 214) (by decide +kernel) rfl, by decide +kernel, by decide +kernel, by decide +kernel⟩
theorem c_L_lend {a1 : Int32} {a2 : Int32} {a3 : Int32} (hk : isQuay sh) (hL : sh 194 = some (sL 1)) (hX : EX Γ) (hN : NCs Γ) (hlt : l.stackTraces = false) {q : (Int32 × Va) ⊕ Nat} (h : f_Quay_lend z v a1 a2 a3 = some q) (hq : ∀ c : Nat, q = .inr c → c = 2 ∨ c = 1 ∨ c = 0) : MetS l yL_lend cL_lend 6 (some .int) [(0, 12, 15, 24), (0, 12, 19, 19), (0, 12, 23, 13)] 7 Γ sh v w n [.ref (Γ.2.1 + 0), .int a1, .int a2, .int a3, .ref (Γ.2.1 + 194)] (fun x u => (∃ (a : Int32) (v1 : Va), q = .inl (a, v1) ∧ x = 0 ∧ u = (v1, up w 194 (lu (w 194) 0 a.toInt64), n)) ∨ ∃ c : Nat, q = .inr c ∧ (c = 2 ∧ x = 1 ∨ c = 1 ∧ x = 2 ∨ c = 0 ∧ x = 3) ∧ u.1 = v ∧ u.2.1 = w ∧ n ≤ u.2.2) := by
  refine w_startS pn_L (Nat.le_of_ble_eq_true rfl) fun p e s m args below meth c hx hb hml hret hlk htab hts hown hK hP hz hE hS ls hl => ?_
  refine lv_aload hx hb dL_lend_0 (lv_at hl 4 rfl) ?_
  refine lv_iconst (v := 0) hx hb dL_lend_2 rfl ?_
  refine lv_aload_n hx hb dL_lend_3 rfl (lv_at hl 0 rfl) ?_
  refine lv_iload_n hx hb dL_lend_4 rfl (lv_at hl 1 rfl) ?_
  refine lv_iload_n hx hb dL_lend_5 rfl (lv_at hl 2 rfl) ?_
  refine lv_iload_n hx hb dL_lend_6 rfl (lv_at hl 3 rfl) ?_
  refine z_Xi (k := 0) hx hb hml hts hown hK hP hS hz hE (c_Quay_lend hk hX hlt h) kX11_lend (tk5 (i := 216) (by decide +kernel) rfl) hk.1 rfl rfl rfl hl.1 (Nat.le_of_ble_eq_true rfl) ⟨Nat.le_of_ble_eq_true rfl, Nat.le_of_ble_eq_true rfl⟩ ⟨Nat.le_refl _, Nat.le_refl _⟩ dL_lend_7 (fun E ce q9 n1 H1 locs1 hex hP hz1 hn hS hce hcv hcl => ?_) (fun r u H1 locs1 hp hz hP hS => ?_)
  · obtain ⟨c0, hc0, rfl⟩ := hex
    rcases hq c0 hc0 with rfl | rfl | rfl
    · refine vx_catch hown [] ⟨0, 12, 15, 24⟩ [⟨0, 12, 19, 19⟩, ⟨0, 12, 23, 13⟩] (htab.trans rfl) (fun z hz => absurd hz List.not_mem_nil) rfl (by decide) (hts _ cl_24) (hE.cs (c := 2) hX (by decide)) hce hcv hcl ?_
      refine lv_astore (lv' := [(5, .ref q9), (0, .ref (Γ.2.1 + 0)), (1, .int a1), (2, .int a2), (3, .int a3), (4, .ref (Γ.2.1 + 194))]) hx hb dL_lend_15 hl (by decide) rfl fun ls hl => ?_
      refine lv_iconst (v := 1) hx hb dL_lend_17 rfl ?_
      exact w_sret hx hb hret rfl hlk hK hP hS hz1 hE (Or.inr ⟨2, hc0, Or.inl ⟨rfl, rfl⟩, rfl, rfl, hn⟩) dL_lend_18
    · refine vx_catch hown [⟨0, 12, 15, 24⟩] ⟨0, 12, 19, 19⟩ [⟨0, 12, 23, 13⟩] (htab.trans rfl) (fun z hz => ?_) rfl (by decide) (hts _ cl_19) (hE.cs (c := 1) hX (by decide)) hce hcv hcl ?_
      · have hzz : z = ⟨0, 12, 15, 24⟩ := by simpa using hz
        subst hzz
        exact Or.inr ⟨by decide, _, hts _ cl_24, hE.nc (a := 1) (b := 2) hN (by decide) (by decide) (by decide)⟩
      · refine lv_astore (lv' := [(5, .ref q9), (0, .ref (Γ.2.1 + 0)), (1, .int a1), (2, .int a2), (3, .int a3), (4, .ref (Γ.2.1 + 194))]) hx hb dL_lend_19 hl (by decide) rfl fun ls hl => ?_
        refine lv_iconst (v := 2) hx hb dL_lend_21 rfl ?_
        exact w_sret hx hb hret rfl hlk hK hP hS hz1 hE (Or.inr ⟨1, hc0, Or.inr (Or.inl ⟨rfl, rfl⟩), rfl, rfl, hn⟩) dL_lend_22
    · refine vx_catch hown [⟨0, 12, 15, 24⟩, ⟨0, 12, 19, 19⟩] ⟨0, 12, 23, 13⟩ [] (htab.trans rfl) (fun z hz => ?_) rfl (by decide) (hts _ cl_13) (hE.cs (c := 0) hX (by decide)) hce hcv hcl ?_
      · have hzz : z = ⟨0, 12, 15, 24⟩ ∨ z = ⟨0, 12, 19, 19⟩ := by simpa using hz
        rcases hzz with rfl | rfl
        · exact Or.inr ⟨by decide, _, hts _ cl_24, hE.nc (a := 0) (b := 2) hN (by decide) (by decide) (by decide)⟩
        · exact Or.inr ⟨by decide, _, hts _ cl_19, hE.nc (a := 0) (b := 1) hN (by decide) (by decide) (by decide)⟩
      · refine lv_astore (lv' := [(5, .ref q9), (0, .ref (Γ.2.1 + 0)), (1, .int a1), (2, .int a2), (3, .int a3), (4, .ref (Γ.2.1 + 194))]) hx hb dL_lend_23 hl (by decide) rfl fun ls hl => ?_
        refine lv_iconst (v := 3) hx hb dL_lend_25 rfl ?_
        exact w_sret hx hb hret rfl hlk hK hP hS hz1 hE (Or.inr ⟨0, hc0, Or.inr (Or.inr (⟨rfl, rfl⟩)), rfl, rfl, hn⟩) dL_lend_26
  · refine lv_i2l (v := r.toInt64) hx hb dL_lend_10 rfl ?_
    refine w_last (k := 194) hx hb hK hP hS hz hL (show ¬ ((0 : Int32) < 0 ∨ 1 ≤ (0 : Int32).toNatClampNeg) by decide) dL_lend_11 fun H1 locs1 hz hP hS => ?_
    refine lv_goto (tgt := 27) hx hb dL_lend_12 rfl ?_
    refine lv_iconst (v := 0) hx hb dL_lend_27 rfl ?_
    exact w_sret hx hb hret rfl hlk hK hP hS hz hE (Or.inl ⟨r, u, hp, rfl, rfl⟩) dL_lend_28
theorem kL_offset : CASW yL_offset cL_offset 5 (some .int) [(0, 10, 13, 24), (0, 10, 17, 19)] 4 := ⟨tk5 (i := 238) (by decide +kernel) rfl, tk1 (i := 0) (by decide +kernel) rfl, tk5 (i := 237) (by decide +kernel) rfl, by decide +kernel, by decide +kernel, by decide +kernel⟩
theorem c_L_offset {a1 : Int32} {a2 : Int32} (hk : isQuay sh) (hL : sh 194 = some (sL 1)) (hX : EX Γ) (hN : NCs Γ) (hlt : l.stackTraces = false) {q : (Int32 × Va) ⊕ Nat} (h : f_Quay_offset v a1 a2 = some q) (hq : ∀ c : Nat, q = .inr c → c = 2 ∨ c = 1) : MetS l yL_offset cL_offset 5 (some .int) [(0, 10, 13, 24), (0, 10, 17, 19)] 7 Γ sh v w n [.ref (Γ.2.1 + 0), .int a1, .int a2, .ref (Γ.2.1 + 194)] (fun x u => (∃ (a : Int32) (v1 : Va), q = .inl (a, v1) ∧ x = 0 ∧ u = (v1, up w 194 (lu (w 194) 0 a.toInt64), n)) ∨ ∃ c : Nat, q = .inr c ∧ (c = 2 ∧ x = 1 ∨ c = 1 ∧ x = 2) ∧ u.1 = v ∧ u.2.1 = w ∧ n ≤ u.2.2) := by
  refine w_startS pn_L (Nat.le_of_ble_eq_true rfl) fun p e s m args below meth c hx hb hml hret hlk htab hts hown hK hP hz hE hS ls hl => ?_
  refine lv_aload_n hx hb dL_offset_0 rfl (lv_at hl 3 rfl) ?_
  refine lv_iconst (v := 0) hx hb dL_offset_1 rfl ?_
  refine lv_aload_n hx hb dL_offset_2 rfl (lv_at hl 0 rfl) ?_
  refine lv_iload_n hx hb dL_offset_3 rfl (lv_at hl 1 rfl) ?_
  refine lv_iload_n hx hb dL_offset_4 rfl (lv_at hl 2 rfl) ?_
  refine z_Xi (k := 0) hx hb hml hts hown hK hP hS hz hE (c_Quay_offset hk hX hlt h) kX11_offset (tk5 (i := 239) (by decide +kernel) rfl) hk.1 rfl rfl rfl hl.1 (Nat.le_of_ble_eq_true rfl) ⟨Nat.le_of_ble_eq_true rfl, Nat.le_of_ble_eq_true rfl⟩ ⟨Nat.le_refl _, Nat.le_refl _⟩ dL_offset_5 (fun E ce q9 n1 H1 locs1 hex hP hz1 hn hS hce hcv hcl => ?_) (fun r u H1 locs1 hp hz hP hS => ?_)
  · obtain ⟨c0, hc0, rfl⟩ := hex
    rcases hq c0 hc0 with rfl | rfl
    · refine vx_catch hown [] ⟨0, 10, 13, 24⟩ [⟨0, 10, 17, 19⟩] (htab.trans rfl) (fun z hz => absurd hz List.not_mem_nil) rfl (by decide) (hts _ cl_24) (hE.cs (c := 2) hX (by decide)) hce hcv hcl ?_
      refine lv_astore (lv' := [(4, .ref q9), (0, .ref (Γ.2.1 + 0)), (1, .int a1), (2, .int a2), (3, .ref (Γ.2.1 + 194))]) hx hb dL_offset_13 hl (by decide) rfl fun ls hl => ?_
      refine lv_iconst (v := 1) hx hb dL_offset_15 rfl ?_
      exact w_sret hx hb hret rfl hlk hK hP hS hz1 hE (Or.inr ⟨2, hc0, Or.inl ⟨rfl, rfl⟩, rfl, rfl, hn⟩) dL_offset_16
    · refine vx_catch hown [⟨0, 10, 13, 24⟩] ⟨0, 10, 17, 19⟩ [] (htab.trans rfl) (fun z hz => ?_) rfl (by decide) (hts _ cl_19) (hE.cs (c := 1) hX (by decide)) hce hcv hcl ?_
      · have hzz : z = ⟨0, 10, 13, 24⟩ := by simpa using hz
        subst hzz
        exact Or.inr ⟨by decide, _, hts _ cl_24, hE.nc (a := 1) (b := 2) hN (by decide) (by decide) (by decide)⟩
      · refine lv_astore (lv' := [(4, .ref q9), (0, .ref (Γ.2.1 + 0)), (1, .int a1), (2, .int a2), (3, .ref (Γ.2.1 + 194))]) hx hb dL_offset_17 hl (by decide) rfl fun ls hl => ?_
        refine lv_iconst (v := 2) hx hb dL_offset_19 rfl ?_
        exact w_sret hx hb hret rfl hlk hK hP hS hz1 hE (Or.inr ⟨1, hc0, Or.inr (⟨rfl, rfl⟩), rfl, rfl, hn⟩) dL_offset_20
  · refine lv_i2l (v := r.toInt64) hx hb dL_offset_8 rfl ?_
    refine w_last (k := 194) hx hb hK hP hS hz hL (show ¬ ((0 : Int32) < 0 ∨ 1 ≤ (0 : Int32).toNatClampNeg) by decide) dL_offset_9 fun H1 locs1 hz hP hS => ?_
    refine lv_goto (tgt := 21) hx hb dL_offset_10 rfl ?_
    refine lv_iconst (v := 0) hx hb dL_offset_21 rfl ?_
    exact w_sret hx hb hret rfl hlk hK hP hS hz hE (Or.inl ⟨r, u, hp, rfl, rfl⟩) dL_offset_22
theorem kL_dry : CASW yL_dry cL_dry 4 (some .int) [(0, 9, 12, 24)] 3 := ⟨tk6 (i := 7) (by decide +kernel) rfl, tk1 (i := 0) (by decide +kernel) rfl, tk6 (i := 6) (by decide +kernel) rfl, by decide +kernel, by decide +kernel, by decide +kernel⟩
theorem c_L_dry {a1 : Int32} (hk : isQuay sh) (hL : sh 194 = some (sL 1)) (hX : EX Γ) (hN : NCs Γ) (hlt : l.stackTraces = false) {q : (Int32 × Va) ⊕ Nat} (h : f_Quay_dry v a1 = some q) (hq : ∀ c : Nat, q = .inr c → c = 2) : MetS l yL_dry cL_dry 4 (some .int) [(0, 9, 12, 24)] 7 Γ sh v w n [.ref (Γ.2.1 + 0), .int a1, .ref (Γ.2.1 + 194)] (fun x u => (∃ (a : Int32) (v1 : Va), q = .inl (a, v1) ∧ x = 0 ∧ u = (v1, up w 194 (lu (w 194) 0 a.toInt64), n)) ∨ ∃ c : Nat, q = .inr c ∧ (c = 2 ∧ x = 1) ∧ u.1 = v ∧ u.2.1 = w ∧ n ≤ u.2.2) := by
  refine w_startS pn_L (Nat.le_of_ble_eq_true rfl) fun p e s m args below meth c hx hb hml hret hlk htab hts hown hK hP hz hE hS ls hl => ?_
  refine lv_aload_n hx hb dL_dry_0 rfl (lv_at hl 2 rfl) ?_
  refine lv_iconst (v := 0) hx hb dL_dry_1 rfl ?_
  refine lv_aload_n hx hb dL_dry_2 rfl (lv_at hl 0 rfl) ?_
  refine lv_iload_n hx hb dL_dry_3 rfl (lv_at hl 1 rfl) ?_
  refine z_Xi (k := 0) hx hb hml hts hown hK hP hS hz hE (c_Quay_dry hk hX hlt h) kX11_dry (tk6 (i := 8) (by decide +kernel) rfl) hk.1 rfl rfl rfl hl.1 (Nat.le_of_ble_eq_true rfl) ⟨Nat.le_of_ble_eq_true rfl, Nat.le_of_ble_eq_true rfl⟩ ⟨Nat.le_refl _, Nat.le_refl _⟩ dL_dry_4 (fun E ce q9 n1 H1 locs1 hex hP hz1 hn hS hce hcv hcl => ?_) (fun r u H1 locs1 hp hz hP hS => ?_)
  · obtain ⟨c0, hc0, rfl⟩ := hex
    have hc : c0 = 2 := hq c0 hc0
    subst hc
    refine vx_catch hown [] ⟨0, 9, 12, 24⟩ [] (htab.trans rfl) (fun z hz => absurd hz List.not_mem_nil) rfl (by decide) (hts _ cl_24) (hE.cs (c := 2) hX (by decide)) hce hcv hcl ?_
    refine lv_astore_n (lv' := [(3, .ref q9), (0, .ref (Γ.2.1 + 0)), (1, .int a1), (2, .ref (Γ.2.1 + 194))]) hx hb dL_dry_12 rfl hl (by decide) rfl fun ls hl => ?_
    refine lv_iconst (v := 1) hx hb dL_dry_13 rfl ?_
    exact w_sret hx hb hret rfl hlk hK hP hS hz1 hE (Or.inr ⟨2, hc0, ⟨rfl, rfl⟩, rfl, rfl, hn⟩) dL_dry_14
  · refine lv_i2l (v := r.toInt64) hx hb dL_dry_7 rfl ?_
    refine w_last (k := 194) hx hb hK hP hS hz hL (show ¬ ((0 : Int32) < 0 ∨ 1 ≤ (0 : Int32).toNatClampNeg) by decide) dL_dry_8 fun H1 locs1 hz hP hS => ?_
    refine lv_goto (tgt := 15) hx hb dL_dry_9 rfl ?_
    refine lv_iconst (v := 0) hx hb dL_dry_15 rfl ?_
    exact w_sret hx hb hret rfl hlk hK hP hS hz hE (Or.inl ⟨r, u, hp, rfl, rfl⟩) dL_dry_16
theorem kL_pass : CASW yL_pass cL_pass 4 (some .int) [(0, 9, 12, 19)] 3 := ⟨tk6 (i := 16) (by decide +kernel) rfl, tk1 (i := 0) (by decide +kernel) rfl, tk6 (i := 15) (by decide +kernel) rfl, by decide +kernel, by decide +kernel, by decide +kernel⟩
theorem c_L_pass {a1 : Int32} (hk : isQuay sh) (hL : sh 194 = some (sL 1)) (hX : EX Γ) (hN : NCs Γ) (hlt : l.stackTraces = false) {q : (Int32 × Va) ⊕ Nat} (h : f_Quay_pass z v a1 = some q) (hq : ∀ c : Nat, q = .inr c → c = 1) : MetS l yL_pass cL_pass 4 (some .int) [(0, 9, 12, 19)] 8 Γ sh v w n [.ref (Γ.2.1 + 0), .int a1, .ref (Γ.2.1 + 194)] (fun x u => (∃ (a : Int32) (v1 : Va), q = .inl (a, v1) ∧ x = 0 ∧ u = (v1, up w 194 (lu (w 194) 0 a.toInt64), n)) ∨ ∃ c : Nat, q = .inr c ∧ (c = 1 ∧ x = 1) ∧ u.1 = v ∧ u.2.1 = w ∧ n ≤ u.2.2) := by
  refine w_startS pn_L (Nat.le_of_ble_eq_true rfl) fun p e s m args below meth c hx hb hml hret hlk htab hts hown hK hP hz hE hS ls hl => ?_
  refine lv_aload_n hx hb dL_pass_0 rfl (lv_at hl 2 rfl) ?_
  refine lv_iconst (v := 0) hx hb dL_pass_1 rfl ?_
  refine lv_aload_n hx hb dL_pass_2 rfl (lv_at hl 0 rfl) ?_
  refine lv_iload_n hx hb dL_pass_3 rfl (lv_at hl 1 rfl) ?_
  refine z_Xi (k := 0) hx hb hml hts hown hK hP hS hz hE (c_Quay_pass hk hX hlt h) kX11_pass (tk6 (i := 17) (by decide +kernel) rfl) hk.1 rfl rfl rfl hl.1 (Nat.le_of_ble_eq_true rfl) ⟨Nat.le_of_ble_eq_true rfl, Nat.le_of_ble_eq_true rfl⟩ ⟨Nat.le_refl _, Nat.le_refl _⟩ dL_pass_4 (fun E ce q9 n1 H1 locs1 hex hP hz1 hn hS hce hcv hcl => ?_) (fun r u H1 locs1 hp hz hP hS => ?_)
  · obtain ⟨c0, hc0, rfl⟩ := hex
    have hc : c0 = 1 := hq c0 hc0
    subst hc
    refine vx_catch hown [] ⟨0, 9, 12, 19⟩ [] (htab.trans rfl) (fun z hz => absurd hz List.not_mem_nil) rfl (by decide) (hts _ cl_19) (hE.cs (c := 1) hX (by decide)) hce hcv hcl ?_
    refine lv_astore_n (lv' := [(3, .ref q9), (0, .ref (Γ.2.1 + 0)), (1, .int a1), (2, .ref (Γ.2.1 + 194))]) hx hb dL_pass_12 rfl hl (by decide) rfl fun ls hl => ?_
    refine lv_iconst (v := 1) hx hb dL_pass_13 rfl ?_
    exact w_sret hx hb hret rfl hlk hK hP hS hz1 hE (Or.inr ⟨1, hc0, ⟨rfl, rfl⟩, rfl, rfl, hn⟩) dL_pass_14
  · refine lv_i2l (v := r.toInt64) hx hb dL_pass_7 rfl ?_
    refine w_last (k := 194) hx hb hK hP hS hz hL (show ¬ ((0 : Int32) < 0 ∨ 1 ≤ (0 : Int32).toNatClampNeg) by decide) dL_pass_8 fun H1 locs1 hz hP hS => ?_
    refine lv_goto (tgt := 15) hx hb dL_pass_9 rfl ?_
    refine lv_iconst (v := 0) hx hb dL_pass_15 rfl ?_
    exact w_sret hx hb hret rfl hlk hK hP hS hz hE (Or.inl ⟨r, u, hp, rfl, rfl⟩) dL_pass_16
theorem kL_foresee : CASW yL_foresee cL_foresee 5 (some .int) [(0, 10, 13, 19), (0, 10, 17, 24)] 4 := ⟨tk6 (i := 65) (by decide +kernel) rfl, tk1 (i := 0) (by decide +kernel) rfl, tk6 (i := 64) (by decide +kernel) rfl, by decide +kernel, by decide +kernel, by decide +kernel⟩
theorem c_L_foresee {a1 : Int32} {a2 : Int32} (hk : isQuay sh) (hL : sh 194 = some (sL 1)) (hX : EX Γ) (hN : NCs Γ) (hlt : l.stackTraces = false) {q : (Int32 × Va) ⊕ Nat} (h : f_Quay_foresee z v a1 a2 = some q) (hq : ∀ c : Nat, q = .inr c → c = 1 ∨ c = 2) : MetS l yL_foresee cL_foresee 5 (some .int) [(0, 10, 13, 19), (0, 10, 17, 24)] 8 Γ sh v w n [.ref (Γ.2.1 + 0), .int a1, .int a2, .ref (Γ.2.1 + 194)] (fun x u => (∃ (a : Int32) (v1 : Va), q = .inl (a, v1) ∧ x = 0 ∧ u = (v1, up w 194 (lu (w 194) 0 a.toInt64), n)) ∨ ∃ c : Nat, q = .inr c ∧ (c = 1 ∧ x = 1 ∨ c = 2 ∧ x = 2) ∧ u.1 = v ∧ u.2.1 = w ∧ n ≤ u.2.2) := by
  refine w_startS pn_L (Nat.le_of_ble_eq_true rfl) fun p e s m args below meth c hx hb hml hret hlk htab hts hown hK hP hz hE hS ls hl => ?_
  refine lv_aload_n hx hb dL_foresee_0 rfl (lv_at hl 3 rfl) ?_
  refine lv_iconst (v := 0) hx hb dL_foresee_1 rfl ?_
  refine lv_aload_n hx hb dL_foresee_2 rfl (lv_at hl 0 rfl) ?_
  refine lv_iload_n hx hb dL_foresee_3 rfl (lv_at hl 1 rfl) ?_
  refine lv_iload_n hx hb dL_foresee_4 rfl (lv_at hl 2 rfl) ?_
  refine z_Xi (k := 0) hx hb hml hts hown hK hP hS hz hE (c_Quay_foresee hk hX hlt h) kX11_foresee (tk6 (i := 66) (by decide +kernel) rfl) hk.1 rfl rfl rfl hl.1 (Nat.le_of_ble_eq_true rfl) ⟨Nat.le_of_ble_eq_true rfl, Nat.le_of_ble_eq_true rfl⟩ ⟨Nat.le_refl _, Nat.le_refl _⟩ dL_foresee_5 (fun E ce q9 n1 H1 locs1 hex hP hz1 hn hS hce hcv hcl => ?_) (fun r u H1 locs1 hp hz hP hS => ?_)
  · obtain ⟨c0, hc0, rfl⟩ := hex
    rcases hq c0 hc0 with rfl | rfl
    · refine vx_catch hown [] ⟨0, 10, 13, 19⟩ [⟨0, 10, 17, 24⟩] (htab.trans rfl) (fun z hz => absurd hz List.not_mem_nil) rfl (by decide) (hts _ cl_19) (hE.cs (c := 1) hX (by decide)) hce hcv hcl ?_
      refine lv_astore (lv' := [(4, .ref q9), (0, .ref (Γ.2.1 + 0)), (1, .int a1), (2, .int a2), (3, .ref (Γ.2.1 + 194))]) hx hb dL_foresee_13 hl (by decide) rfl fun ls hl => ?_
      refine lv_iconst (v := 1) hx hb dL_foresee_15 rfl ?_
      exact w_sret hx hb hret rfl hlk hK hP hS hz1 hE (Or.inr ⟨1, hc0, Or.inl ⟨rfl, rfl⟩, rfl, rfl, hn⟩) dL_foresee_16
    · refine vx_catch hown [⟨0, 10, 13, 19⟩] ⟨0, 10, 17, 24⟩ [] (htab.trans rfl) (fun z hz => ?_) rfl (by decide) (hts _ cl_24) (hE.cs (c := 2) hX (by decide)) hce hcv hcl ?_
      · have hzz : z = ⟨0, 10, 13, 19⟩ := by simpa using hz
        subst hzz
        exact Or.inr ⟨by decide, _, hts _ cl_19, hE.nc (a := 2) (b := 1) hN (by decide) (by decide) (by decide)⟩
      · refine lv_astore (lv' := [(4, .ref q9), (0, .ref (Γ.2.1 + 0)), (1, .int a1), (2, .int a2), (3, .ref (Γ.2.1 + 194))]) hx hb dL_foresee_17 hl (by decide) rfl fun ls hl => ?_
        refine lv_iconst (v := 2) hx hb dL_foresee_19 rfl ?_
        exact w_sret hx hb hret rfl hlk hK hP hS hz1 hE (Or.inr ⟨2, hc0, Or.inr (⟨rfl, rfl⟩), rfl, rfl, hn⟩) dL_foresee_20
  · refine lv_i2l (v := r.toInt64) hx hb dL_foresee_8 rfl ?_
    refine w_last (k := 194) hx hb hK hP hS hz hL (show ¬ ((0 : Int32) < 0 ∨ 1 ≤ (0 : Int32).toNatClampNeg) by decide) dL_foresee_9 fun H1 locs1 hz hP hS => ?_
    refine lv_goto (tgt := 21) hx hb dL_foresee_10 rfl ?_
    refine lv_iconst (v := 0) hx hb dL_foresee_21 rfl ?_
    exact w_sret hx hb hret rfl hlk hK hP hS hz hE (Or.inl ⟨r, u, hp, rfl, rfl⟩) dL_foresee_22
theorem kL_costs : CASW yL_costs cL_costs 5 (some .int) [(0, 10, 13, 19)] 4 := ⟨tk6 (i := 83) (by decide +kernel) rfl, tk1 (i := 0) (by decide +kernel) rfl, tk6 (i := 82) (by decide +kernel) rfl, by decide +kernel, by decide +kernel, by decide +kernel⟩
theorem c_L_costs {a1 : Int32} {a2 : Int32} (hk : isQuay sh) (hL : sh 194 = some (sL 1)) (hX : EX Γ) (hN : NCs Γ) (hlt : l.stackTraces = false) {q : (Int32 × Va) ⊕ Nat} (h : f_Quay_costs z v a1 a2 = some q) (hq : ∀ c : Nat, q = .inr c → c = 1) : MetS l yL_costs cL_costs 5 (some .int) [(0, 10, 13, 19)] 7 Γ sh v w n [.ref (Γ.2.1 + 0), .int a1, .int a2, .ref (Γ.2.1 + 194)] (fun x u => (∃ (a : Int32) (v1 : Va), q = .inl (a, v1) ∧ x = 0 ∧ u = (v1, up w 194 (lu (w 194) 0 a.toInt64), n)) ∨ ∃ c : Nat, q = .inr c ∧ (c = 1 ∧ x = 1) ∧ u.1 = v ∧ u.2.1 = w ∧ n ≤ u.2.2) := by
  refine w_startS pn_L (Nat.le_of_ble_eq_true rfl) fun p e s m args below meth c hx hb hml hret hlk htab hts hown hK hP hz hE hS ls hl => ?_
  refine lv_aload_n hx hb dL_costs_0 rfl (lv_at hl 3 rfl) ?_
  refine lv_iconst (v := 0) hx hb dL_costs_1 rfl ?_
  refine lv_aload_n hx hb dL_costs_2 rfl (lv_at hl 0 rfl) ?_
  refine lv_iload_n hx hb dL_costs_3 rfl (lv_at hl 1 rfl) ?_
  refine lv_iload_n hx hb dL_costs_4 rfl (lv_at hl 2 rfl) ?_
  refine z_Xi (k := 0) hx hb hml hts hown hK hP hS hz hE (c_Quay_costs hk hX hlt h) kX11_costs (tk6 (i := 84) (by decide +kernel) rfl) hk.1 rfl rfl rfl hl.1 (Nat.le_of_ble_eq_true rfl) ⟨Nat.le_of_ble_eq_true rfl, Nat.le_of_ble_eq_true rfl⟩ ⟨Nat.le_refl _, Nat.le_refl _⟩ dL_costs_5 (fun E ce q9 n1 H1 locs1 hex hP hz1 hn hS hce hcv hcl => ?_) (fun r u H1 locs1 hp hz hP hS => ?_)
  · obtain ⟨c0, hc0, rfl⟩ := hex
    have hc : c0 = 1 := hq c0 hc0
    subst hc
    refine vx_catch hown [] ⟨0, 10, 13, 19⟩ [] (htab.trans rfl) (fun z hz => absurd hz List.not_mem_nil) rfl (by decide) (hts _ cl_19) (hE.cs (c := 1) hX (by decide)) hce hcv hcl ?_
    refine lv_astore (lv' := [(4, .ref q9), (0, .ref (Γ.2.1 + 0)), (1, .int a1), (2, .int a2), (3, .ref (Γ.2.1 + 194))]) hx hb dL_costs_13 hl (by decide) rfl fun ls hl => ?_
    refine lv_iconst (v := 1) hx hb dL_costs_15 rfl ?_
    exact w_sret hx hb hret rfl hlk hK hP hS hz1 hE (Or.inr ⟨1, hc0, ⟨rfl, rfl⟩, rfl, rfl, hn⟩) dL_costs_16
  · refine lv_i2l (v := r.toInt64) hx hb dL_costs_8 rfl ?_
    refine w_last (k := 194) hx hb hK hP hS hz hL (show ¬ ((0 : Int32) < 0 ∨ 1 ≤ (0 : Int32).toNatClampNeg) by decide) dL_costs_9 fun H1 locs1 hz hP hS => ?_
    refine lv_goto (tgt := 17) hx hb dL_costs_10 rfl ?_
    refine lv_iconst (v := 0) hx hb dL_costs_17 rfl ?_
    exact w_sret hx hb hret rfl hlk hK hP hS hz hE (Or.inl ⟨r, u, hp, rfl, rfl⟩) dL_costs_18
theorem kL_richest : CASW yL_richest cL_richest 4 (some .int) [(0, 9, 12, 19)] 3 := ⟨tk6 (i := 92) (by decide +kernel) rfl, tk1 (i := 0) (by decide +kernel) rfl, tk6 (i := 91) (by decide +kernel) rfl, by decide +kernel, by decide +kernel, by decide +kernel⟩
theorem c_L_richest {a1 : Int32} (hk : isQuay sh) (hL : sh 194 = some (sL 1)) (hX : EX Γ) (hN : NCs Γ) (hlt : l.stackTraces = false) {q : (Int32 × Va) ⊕ Nat} (h : f_Quay_richest z v a1 = some q) (hq : ∀ c : Nat, q = .inr c → c = 1) : MetS l yL_richest cL_richest 4 (some .int) [(0, 9, 12, 19)] 8 Γ sh v w n [.ref (Γ.2.1 + 0), .int a1, .ref (Γ.2.1 + 194)] (fun x u => (∃ (a : Int32) (v1 : Va), q = .inl (a, v1) ∧ x = 0 ∧ u = (v1, up w 194 (lu (w 194) 0 a.toInt64), n)) ∨ ∃ c : Nat, q = .inr c ∧ (c = 1 ∧ x = 1) ∧ u.1 = v ∧ u.2.1 = w ∧ n ≤ u.2.2) := by
  refine w_startS pn_L (Nat.le_of_ble_eq_true rfl) fun p e s m args below meth c hx hb hml hret hlk htab hts hown hK hP hz hE hS ls hl => ?_
  refine lv_aload_n hx hb dL_richest_0 rfl (lv_at hl 2 rfl) ?_
  refine lv_iconst (v := 0) hx hb dL_richest_1 rfl ?_
  refine lv_aload_n hx hb dL_richest_2 rfl (lv_at hl 0 rfl) ?_
  refine lv_iload_n hx hb dL_richest_3 rfl (lv_at hl 1 rfl) ?_
  refine z_Xi (k := 0) hx hb hml hts hown hK hP hS hz hE (c_Quay_richest hk hX hlt h) kX11_richest (tk6 (i := 93) (by decide +kernel) rfl) hk.1 rfl rfl rfl hl.1 (Nat.le_of_ble_eq_true rfl) ⟨Nat.le_of_ble_eq_true rfl, Nat.le_of_ble_eq_true rfl⟩ ⟨Nat.le_refl _, Nat.le_refl _⟩ dL_richest_4 (fun E ce q9 n1 H1 locs1 hex hP hz1 hn hS hce hcv hcl => ?_) (fun r u H1 locs1 hp hz hP hS => ?_)
  · obtain ⟨c0, hc0, rfl⟩ := hex
    have hc : c0 = 1 := hq c0 hc0
    subst hc
    refine vx_catch hown [] ⟨0, 9, 12, 19⟩ [] (htab.trans rfl) (fun z hz => absurd hz List.not_mem_nil) rfl (by decide) (hts _ cl_19) (hE.cs (c := 1) hX (by decide)) hce hcv hcl ?_
    refine lv_astore_n (lv' := [(3, .ref q9), (0, .ref (Γ.2.1 + 0)), (1, .int a1), (2, .ref (Γ.2.1 + 194))]) hx hb dL_richest_12 rfl hl (by decide) rfl fun ls hl => ?_
    refine lv_iconst (v := 1) hx hb dL_richest_13 rfl ?_
    exact w_sret hx hb hret rfl hlk hK hP hS hz1 hE (Or.inr ⟨1, hc0, ⟨rfl, rfl⟩, rfl, rfl, hn⟩) dL_richest_14
  · refine lv_i2l (v := r.toInt64) hx hb dL_richest_7 rfl ?_
    refine w_last (k := 194) hx hb hK hP hS hz hL (show ¬ ((0 : Int32) < 0 ∨ 1 ≤ (0 : Int32).toNatClampNeg) by decide) dL_richest_8 fun H1 locs1 hz hP hS => ?_
    refine lv_goto (tgt := 15) hx hb dL_richest_9 rfl ?_
    refine lv_iconst (v := 0) hx hb dL_richest_15 rfl ?_
    exact w_sret hx hb hret rfl hlk hK hP hS hz hE (Or.inl ⟨r, u, hp, rfl, rfl⟩) dL_richest_16
theorem kL_until : CASW yL_until cL_until 4 (some .int) [(0, 9, 12, 24)] 3 := ⟨tk6 (i := 104) (by decide +kernel) rfl, tk1 (i := 0) (by decide +kernel) rfl, tk6 (i := 103) (by decide +kernel) rfl, by decide +kernel, by decide +kernel, by decide +kernel⟩
theorem c_L_until {a1 : Int32} (hk : isQuay sh) (hL : sh 194 = some (sL 1)) (hX : EX Γ) (hN : NCs Γ) (hlt : l.stackTraces = false) {q : (Int32 × Va) ⊕ Nat} (h : f_Quay_until z v a1 = some q) (hq : ∀ c : Nat, q = .inr c → c = 2) : MetS l yL_until cL_until 4 (some .int) [(0, 9, 12, 24)] 8 Γ sh v w n [.ref (Γ.2.1 + 0), .int a1, .ref (Γ.2.1 + 194)] (fun x u => (∃ (a : Int32) (v1 : Va), q = .inl (a, v1) ∧ x = 0 ∧ u = (v1, up w 194 (lu (w 194) 0 a.toInt64), n)) ∨ ∃ c : Nat, q = .inr c ∧ (c = 2 ∧ x = 1) ∧ u.1 = v ∧ u.2.1 = w ∧ n ≤ u.2.2) := by
  refine w_startS pn_L (Nat.le_of_ble_eq_true rfl) fun p e s m args below meth c hx hb hml hret hlk htab hts hown hK hP hz hE hS ls hl => ?_
  refine lv_aload_n hx hb dL_until_0 rfl (lv_at hl 2 rfl) ?_
  refine lv_iconst (v := 0) hx hb dL_until_1 rfl ?_
  refine lv_aload_n hx hb dL_until_2 rfl (lv_at hl 0 rfl) ?_
  refine lv_iload_n hx hb dL_until_3 rfl (lv_at hl 1 rfl) ?_
  refine z_Xi (k := 0) hx hb hml hts hown hK hP hS hz hE (c_Quay_until hk hX hlt h) kX11_until (tk6 (i := 105) (by decide +kernel) rfl) hk.1 rfl rfl rfl hl.1 (Nat.le_of_ble_eq_true rfl) ⟨Nat.le_of_ble_eq_true rfl, Nat.le_of_ble_eq_true rfl⟩ ⟨Nat.le_refl _, Nat.le_refl _⟩ dL_until_4 (fun E ce q9 n1 H1 locs1 hex hP hz1 hn hS hce hcv hcl => ?_) (fun r u H1 locs1 hp hz hP hS => ?_)
  · obtain ⟨c0, hc0, rfl⟩ := hex
    have hc : c0 = 2 := hq c0 hc0
    subst hc
    refine vx_catch hown [] ⟨0, 9, 12, 24⟩ [] (htab.trans rfl) (fun z hz => absurd hz List.not_mem_nil) rfl (by decide) (hts _ cl_24) (hE.cs (c := 2) hX (by decide)) hce hcv hcl ?_
    refine lv_astore_n (lv' := [(3, .ref q9), (0, .ref (Γ.2.1 + 0)), (1, .int a1), (2, .ref (Γ.2.1 + 194))]) hx hb dL_until_12 rfl hl (by decide) rfl fun ls hl => ?_
    refine lv_iconst (v := 1) hx hb dL_until_13 rfl ?_
    exact w_sret hx hb hret rfl hlk hK hP hS hz1 hE (Or.inr ⟨2, hc0, ⟨rfl, rfl⟩, rfl, rfl, hn⟩) dL_until_14
  · refine lv_i2l (v := r.toInt64) hx hb dL_until_7 rfl ?_
    refine w_last (k := 194) hx hb hK hP hS hz hL (show ¬ ((0 : Int32) < 0 ∨ 1 ≤ (0 : Int32).toNatClampNeg) by decide) dL_until_8 fun H1 locs1 hz hP hS => ?_
    refine lv_goto (tgt := 15) hx hb dL_until_9 rfl ?_
    refine lv_iconst (v := 0) hx hb dL_until_15 rfl ?_
    exact w_sret hx hb hret rfl hlk hK hP hS hz hE (Or.inl ⟨r, u, hp, rfl, rfl⟩) dL_until_16
end GL
