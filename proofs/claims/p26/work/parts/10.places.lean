/-! PLACES OF OBJECTS, and the methods of Row -/
def isRow (sh : Sh) (k : Nat) (N : Nat) : Prop := sh k = some (sO 6 [(k + 4)]) ∧ sh (k + 1) = some (sA N) ∧ N ≤ 4000
def isNames (sh : Sh) (k : Nat) (N : Nat) : Prop := sh k = some (sO 2 [(k + 4), 0, 0]) ∧ isRow sh (k + 1) N
def isSteps (sh : Sh) (k : Nat) : Prop := sh k = some (sO 8 [0, (k + 4), (k + 6), (k + 8)]) ∧ isRow sh (k + 1) 400 ∧ isRow sh (k + 3) 400 ∧ isRow sh (k + 5) 400
def isPlan (sh : Sh) (k : Nat) : Prop := sh k = some (sO 3 [0, 0, 0, 0, 0, (k + 4), (k + 6), (k + 8), (k + 10), (k + 12), (k + 14), (k + 16), (k + 18), (k + 20), (k + 22), (k + 24), (k + 26), (k + 28), (k + 30), (k + 32)]) ∧ isRow sh (k + 1) 4 ∧ isRow sh (k + 3) 4 ∧ isRow sh (k + 5) 4 ∧ isRow sh (k + 7) 6 ∧ isRow sh (k + 9) 6 ∧ isRow sh (k + 11) 10 ∧ isRow sh (k + 13) 10 ∧ isRow sh (k + 15) 10 ∧ isRow sh (k + 17) 24 ∧ isRow sh (k + 19) 24 ∧ isRow sh (k + 21) 24 ∧ isRow sh (k + 23) 24 ∧ isRow sh (k + 25) 24 ∧ isRow sh (k + 27) 24 ∧ isSteps sh (k + 29)
def isDebts (sh : Sh) (k : Nat) : Prop := sh k = some (sO 1 [(k + 4), (k + 6)]) ∧ isRow sh (k + 1) 36 ∧ isRow sh (k + 3) 6
def isStand (sh : Sh) (k : Nat) : Prop := sh k = some (sO 7 [64, 0, 0, 0, 0, 0, (k + 4), (k + 6), (k + 8), (k + 10), (k + 12), (k + 14), (k + 16), (k + 21), (k + 23)]) ∧ isPlan sh 61 ∧ isRow sh (k + 1) 10 ∧ isRow sh (k + 3) 10 ∧ isRow sh (k + 5) 10 ∧ isRow sh (k + 7) 10 ∧ isRow sh (k + 9) 10 ∧ isRow sh (k + 11) 6 ∧ isDebts sh (k + 13) ∧ isRow sh (k + 18) 4 ∧ isRow sh (k + 20) 24
def isTokens (sh : Sh) : Prop := sh 3 = some (sO 9 [4, 0, 0, 7, 9, 11, 13]) ∧ isRow sh 1 2000 ∧ isRow sh 4 401 ∧ isRow sh 6 401 ∧ isRow sh 8 401 ∧ isRow sh 10 401
def isReader (sh : Sh) : Prop := sh 12 = some (sO 4 [16, 6, 52, 55, 58, 61, 0, 0, 0]) ∧ isPlan sh 13 ∧ isTokens sh ∧ isNames sh 49 4 ∧ isNames sh 52 4 ∧ isNames sh 55 6 ∧ isNames sh 58 10
def isReckoner (sh : Sh) (k : Nat) : Prop := sh (k + 23) = some (sO 5 [93, (k + 3), (k + 27), 0]) ∧ isSteps sh 90 ∧ isStand sh k ∧ isRow sh (k + 24) 400
def isDays (sh : Sh) (k : Nat) : Prop := sh (k + 22) = some (sO 0 [64, (k + 3), (k + 26)]) ∧ isPlan sh 61 ∧ isStand sh k ∧ isReckoner sh k
def isQuay (sh : Sh) : Prop := sh 0 = some (sO 10 [4, 6, 15, 64, 100, 122, 126, 148, 0, 0]) ∧ isRow sh 1 2000 ∧ isTokens sh ∧ isReader sh ∧ isPlan sh 61 ∧ isStand sh 97 ∧ isDays sh 97 ∧ isStand sh 123 ∧ isDays sh 123
theorem pn_X0 : plainName RX0 = true := by decide +kernel
theorem pn_X1 : plainName RX1 = true := by decide +kernel
theorem pn_X2 : plainName RX2 = true := by decide +kernel
theorem pn_X3 : plainName RX3 = true := by decide +kernel
theorem pn_X4 : plainName RX4 = true := by decide +kernel
theorem pn_X5 : plainName RX5 = true := by decide +kernel
theorem pn_X6 : plainName RX6 = true := by decide +kernel
theorem pn_X7 : plainName RX7 = true := by decide +kernel
theorem pn_X8 : plainName RX8 = true := by decide +kernel
theorem pn_X9 : plainName RX9 = true := by decide +kernel
theorem pn_X10 : plainName RX10 = true := by decide +kernel
theorem pn_X11 : plainName RX11 = true := by decide +kernel
theorem pn_X12 : plainName RX12 = true := by decide +kernel
theorem pn_J0 : plainName RJ0 = true := by decide +kernel
theorem pn_J1 : plainName RJ1 = true := by decide +kernel
theorem pn_J3 : plainName RJ3 = true := by decide +kernel
theorem pn_J4 : plainName RJ4 = true := by decide +kernel
theorem pn_J5 : plainName RJ5 = true := by decide +kernel
theorem pn_J6 : plainName RJ6 = true := by decide +kernel
theorem pn_J7 : plainName RJ7 = true := by decide +kernel
theorem pn_J8 : plainName RJ8 = true := by decide +kernel
theorem pn_L : plainName RL = true := by decide +kernel
theorem q_room {h m hh c0 : Nat} (hc : c0 ≤ hh) (h1 : h ≤ c0) (h2 : m ≤ 21) : h + 1 ≤ (rmh (hh + 1)).frames ∧ 8 + (m + 11) + 40 * h ≤ (rmh (hh + 1)).locals := ⟨by show h + 1 ≤ hh + 1; omega, by show 8 + (m + 11) + 40 * h ≤ 40 * (hh + 1); omega⟩
theorem q_roomM {hh : Nat} : 1 ≤ (rmh (hh + 1)).frames ∧ 21 ≤ (rmh (hh + 1)).locals := ⟨by show 1 ≤ hh + 1; omega, by show 21 ≤ 40 * (hh + 1); omega⟩
theorem q_loop {σ ρ : Type} {f : (σ → Option ρ) → σ → Option ρ} {r : ρ} {C : σ → Prop} (step : ∀ K : σ → Option ρ, (∀ t, K t = some r → C t) → ∀ t, f K t = some r → C t) : ∀ n t, rp f n t = some r → C t
  | 0, _, h => q_rp0 h
  | n + 1, t, h => step (rp f n) (q_loop step n) t h

section GE
variable {l : Launch} {Γ : Cx} {sh : Sh} {v : Va} {w : Vl} {n z : Nat}
def f_Row_get (v : Va) (k : Nat) (N : Nat) (a1 : Int32) : Option Int32 := if a1 < 0 then (some 0) else (if (nI N) ≤ a1 then (some 0) else (if a1 < 0 ∨ N ≤ a1.toNatClampNeg then none else some (v (k + 1) a1.toNatClampNeg)))
theorem c_Row_get {k : Nat} {N : Nat} {a1 : Int32} (hk : isRow sh k N) {q : Int32} (h : f_Row_get v k N a1 = some q) : MetI l yX7_get cX7_get 2 (some .int) 0 Γ sh v w n [.ref (Γ.2.1 + k), .int a1] (fun x u => x = q ∧ u = v) := by
  unfold f_Row_get at h
  refine w_start pn_X7 (Nat.le_of_ble_eq_true rfl) fun p e s m args below meth c hx hb hml hret hlk hnm hts hown hK hP hz hE hS ls hl => ?_
  refine lv_iload_n hx hb dX7_get_0 rfl (lv_at hl 1 rfl) ?_
  refine lv_if_lt (tgt := 22) hx hb dX7_get_1 rfl (fun hc1 => ?_) (fun hc1 => ?_)
  · have h := itt_e h hc1
    refine lv_iconst (v := 0) hx hb dX7_get_22 rfl ?_
    exact w_iret hx hb hret rfl hlk hK hP hS hz hE (q_p1 h) dX7_get_23
  · have h := itf_e h hc1
    refine lv_iload_n hx hb dX7_get_4 rfl (lv_at hl 1 rfl) ?_
    refine lv_aload_n hx hb dX7_get_5 rfl (lv_at hl 0 rfl) ?_
    refine w_gr (k := k) (r := (k + 1)) hx hb hts hown hK hP fX7_7 hk.1 rfl dX7_get_6 ?_
    refine w_alen (k := (k + 1)) hx hb hK hP hk.2.1 dX7_get_9 ?_
    refine lv_icmp_ge (tgt := 22) hx hb dX7_get_10 rfl (fun hc10 => ?_) (fun hc10 => ?_)
    · have h := itt_e h hc10
      refine lv_iconst (v := 0) hx hb dX7_get_22 rfl ?_
      exact w_iret hx hb hret rfl hlk hK hP hS hz hE (q_p1 h) dX7_get_23
    · have h := itf_e h hc10
      refine lv_aload_n hx hb dX7_get_13 rfl (lv_at hl 0 rfl) ?_
      refine w_gr (k := k) (r := (k + 1)) hx hb hts hown hK hP fX7_7 hk.1 rfl dX7_get_14 ?_
      refine lv_iload_n hx hb dX7_get_17 rfl (lv_at hl 1 rfl) ?_
      obtain ⟨hn18, h⟩ := itn_e h
      refine w_iald (k := (k + 1)) hx hb hK hP hk.2.1 hn18 dX7_get_18 ?_
      refine lv_goto (tgt := 23) hx hb dX7_get_19 rfl ?_
      exact w_iret hx hb hret rfl hlk hK hP hS hz hE (q_p1 h) dX7_get_23
def f_Row_set (v : Va) (k : Nat) (N : Nat) (a1 : Int32) (a2 : Int32) : Option Va := if a1 < 0 then (some v) else (if (nI N) ≤ a1 then (some v) else (if a1 < 0 ∨ N ≤ a1.toNatClampNeg then none else bnd (pu v (k + 1) a1.toNatClampNeg a2) fun v19 => some v19))
theorem c_Row_set {k : Nat} {N : Nat} {a1 : Int32} {a2 : Int32} (hk : isRow sh k N) {q : Va} (h : f_Row_set v k N a1 a2 = some q) : MetV l yX7_set cX7_set 3 none 0 Γ sh v w n [.ref (Γ.2.1 + k), .int a1, .int a2] (fun u => u = q) := by
  unfold f_Row_set at h
  refine w_start pn_X7 (Nat.le_of_ble_eq_true rfl) fun p e s m args below meth c hx hb hml hret hlk hnm hts hown hK hP hz hE hS ls hl => ?_
  refine lv_iload_n hx hb dX7_set_0 rfl (lv_at hl 1 rfl) ?_
  refine lv_if_lt (tgt := 20) hx hb dX7_set_1 rfl (fun hc1 => ?_) (fun hc1 => ?_)
  · have h := itt_e h hc1
    exact w_vret hx hb hret hlk hK hP hS hz hE (Option.some.inj h) dX7_set_20
  · have h := itf_e h hc1
    refine lv_iload_n hx hb dX7_set_4 rfl (lv_at hl 1 rfl) ?_
    refine lv_aload_n hx hb dX7_set_5 rfl (lv_at hl 0 rfl) ?_
    refine w_gr (k := k) (r := (k + 1)) hx hb hts hown hK hP fX7_7 hk.1 rfl dX7_set_6 ?_
    refine w_alen (k := (k + 1)) hx hb hK hP hk.2.1 dX7_set_9 ?_
    refine lv_icmp_ge (tgt := 20) hx hb dX7_set_10 rfl (fun hc10 => ?_) (fun hc10 => ?_)
    · have h := itt_e h hc10
      exact w_vret hx hb hret hlk hK hP hS hz hE (Option.some.inj h) dX7_set_20
    · have h := itf_e h hc10
      refine lv_aload_n hx hb dX7_set_13 rfl (lv_at hl 0 rfl) ?_
      refine w_gr (k := k) (r := (k + 1)) hx hb hts hown hK hP fX7_7 hk.1 rfl dX7_set_14 ?_
      refine lv_iload_n hx hb dX7_set_17 rfl (lv_at hl 1 rfl) ?_
      refine lv_iload_n hx hb dX7_set_18 rfl (lv_at hl 2 rfl) ?_
      obtain ⟨hn19, h⟩ := itn_e h
      obtain ⟨v19, e19, h⟩ := bnd_e h
      refine w_ia2 (k := (k + 1)) hx hb hK hP hS hz hk.2.1 hn19 e19 dX7_set_19 fun H1 locs1 hz hP hS => ?_
      exact w_vret hx hb hret hlk hK hP hS hz hE (Option.some.inj h) dX7_set_20
def f_Row_add (v : Va) (k : Nat) (N : Nat) (a1 : Int32) (a2 : Int32) : Option Va := if a1 < 0 then (some v) else (if (nI N) ≤ a1 then (some v) else (if a1 < 0 ∨ N ≤ a1.toNatClampNeg then none else if a1 < 0 ∨ N ≤ a1.toNatClampNeg then none else bnd (pu v (k + 1) a1.toNatClampNeg ((v (k + 1) a1.toNatClampNeg) + a2)) fun v22 => some v22))
theorem c_Row_add {k : Nat} {N : Nat} {a1 : Int32} {a2 : Int32} (hk : isRow sh k N) {q : Va} (h : f_Row_add v k N a1 a2 = some q) : MetV l yX7_add cX7_add 3 none 0 Γ sh v w n [.ref (Γ.2.1 + k), .int a1, .int a2] (fun u => u = q) := by
  unfold f_Row_add at h
  refine w_start pn_X7 (Nat.le_of_ble_eq_true rfl) fun p e s m args below meth c hx hb hml hret hlk hnm hts hown hK hP hz hE hS ls hl => ?_
  refine lv_iload_n hx hb dX7_add_0 rfl (lv_at hl 1 rfl) ?_
  refine lv_if_lt (tgt := 23) hx hb dX7_add_1 rfl (fun hc1 => ?_) (fun hc1 => ?_)
  · have h := itt_e h hc1
    exact w_vret hx hb hret hlk hK hP hS hz hE (Option.some.inj h) dX7_add_23
  · have h := itf_e h hc1
    refine lv_iload_n hx hb dX7_add_4 rfl (lv_at hl 1 rfl) ?_
    refine lv_aload_n hx hb dX7_add_5 rfl (lv_at hl 0 rfl) ?_
    refine w_gr (k := k) (r := (k + 1)) hx hb hts hown hK hP fX7_7 hk.1 rfl dX7_add_6 ?_
    refine w_alen (k := (k + 1)) hx hb hK hP hk.2.1 dX7_add_9 ?_
    refine lv_icmp_ge (tgt := 23) hx hb dX7_add_10 rfl (fun hc10 => ?_) (fun hc10 => ?_)
    · have h := itt_e h hc10
      exact w_vret hx hb hret hlk hK hP hS hz hE (Option.some.inj h) dX7_add_23
    · have h := itf_e h hc10
      refine lv_aload_n hx hb dX7_add_13 rfl (lv_at hl 0 rfl) ?_
      refine w_gr (k := k) (r := (k + 1)) hx hb hts hown hK hP fX7_7 hk.1 rfl dX7_add_14 ?_
      refine lv_iload_n hx hb dX7_add_17 rfl (lv_at hl 1 rfl) ?_
      refine lv_dup2_11 hx hb dX7_add_18 rfl rfl ?_
      obtain ⟨hn19, h⟩ := itn_e h
      refine w_iald (k := (k + 1)) hx hb hK hP hk.2.1 hn19 dX7_add_19 ?_
      refine lv_iload_n hx hb dX7_add_20 rfl (lv_at hl 2 rfl) ?_
      refine lv_iadd hx hb dX7_add_21 ?_
      obtain ⟨hn22, h⟩ := itn_e h
      obtain ⟨v22, e22, h⟩ := bnd_e h
      refine w_ia2 (k := (k + 1)) hx hb hK hP hS hz hk.2.1 hn22 e22 dX7_add_22 fun H1 locs1 hz hP hS => ?_
      exact w_vret hx hb hret hlk hK hP hS hz hE (Option.some.inj h) dX7_add_23
def b_Row_fill_2 (k : Nat) (N : Nat) (a1 : Int32) (K2 : (Int32 × Va) → Option Va) (t2 : Int32 × Va) : Option Va := if (nI N) ≤ t2.1 then (some t2.2) else (if t2.1 < 0 ∨ N ≤ t2.1.toNatClampNeg then none else bnd (pu t2.2 (k + 1) t2.1.toNatClampNeg a1) fun v17 => K2 ((t2.1 + 1), v17))
def f_Row_fill (z : Nat) (v : Va) (k : Nat) (N : Nat) (a1 : Int32) : Option Va := rp (b_Row_fill_2 k N a1) z (0, v)
theorem c_Row_fill {k : Nat} {N : Nat} {a1 : Int32} (hk : isRow sh k N) {q : Va} (h : f_Row_fill z v k N a1 = some q) : MetV l yX7_fill cX7_fill 3 none 0 Γ sh v w n [.ref (Γ.2.1 + k), .int a1] (fun u => u = q) := by
  unfold f_Row_fill at h
  refine w_start pn_X7 (Nat.le_of_ble_eq_true rfl) fun p e s m args below meth c hx hb hml hret hlk hnm hts hown hK hP hz hE hS ls hl => ?_
  refine lv_iconst (v := 0) hx hb dX7_fill_0 rfl ?_
  refine lv_istore_n (lv' := [(2, .int 0), (0, .ref (Γ.2.1 + k)), (1, .int a1)]) hx hb dX7_fill_1 rfl hl (by decide) rfl fun ls hl => ?_
  have L2 : ∀ (fu : Nat) (t2 : Int32 × Va), rp (b_Row_fill_2 k N a1) fu t2 = some q → ∀ (H1 : Heap) (locs1 : List Loc) (ls1 : Array Slot), lv_has ls1 3 [(0, .ref (Γ.2.1 + k)), (1, .int a1), (2, .int t2.1)] → Wd Γ sh t2.2 w H1 → va_S (gA Γ sh n) s.heap H1 locs1 → H1.size = Γ.2.1 + n → wpV Γ sh w n 0 (fun u => u = q) p l e s m args below meth c H1 locs1 (F0 m 2 ls1 []) := by
    refine q_loop (fun K2 ih2 t2 h H1 locs1 ls hl hP hS hz => ?_)
    unfold b_Row_fill_2 at h
    refine lv_iload_n hx hb dX7_fill_2 rfl (lv_at hl 2 rfl) ?_
    refine lv_aload_n hx hb dX7_fill_3 rfl (lv_at hl 0 rfl) ?_
    refine w_gr (k := k) (r := (k + 1)) hx hb hts hown hK hP fX7_7 hk.1 rfl dX7_fill_4 ?_
    refine w_alen (k := (k + 1)) hx hb hK hP hk.2.1 dX7_fill_7 ?_
    refine lv_icmp_ge (tgt := 24) hx hb dX7_fill_8 rfl (fun hc8 => ?_) (fun hc8 => ?_)
    · have h := itt_e h hc8
      exact w_vret hx hb hret hlk hK hP hS hz hE (Option.some.inj h) dX7_fill_24
    · have h := itf_e h hc8
      refine lv_aload_n hx hb dX7_fill_11 rfl (lv_at hl 0 rfl) ?_
      refine w_gr (k := k) (r := (k + 1)) hx hb hts hown hK hP fX7_7 hk.1 rfl dX7_fill_12 ?_
      refine lv_iload_n hx hb dX7_fill_15 rfl (lv_at hl 2 rfl) ?_
      refine lv_iload_n hx hb dX7_fill_16 rfl (lv_at hl 1 rfl) ?_
      obtain ⟨hn17, h⟩ := itn_e h
      obtain ⟨v17, e17, h⟩ := bnd_e h
      refine w_ia2 (k := (k + 1)) hx hb hK hP hS hz hk.2.1 hn17 e17 dX7_fill_17 fun H1 locs1 hz hP hS => ?_
      refine lv_iinc (k := 2) (v := (t2.1 + 1)) (lv' := [(2, .int (t2.1 + 1)), (0, .ref (Γ.2.1 + k)), (1, .int a1)]) hx hb dX7_fill_18 hl rfl rfl (by decide) rfl fun ls hl => ?_
      refine lv_goto (tgt := 2) hx hb dX7_fill_21 rfl ?_
      exact ih2 ((t2.1 + 1), v17) h _ _ _ (lv_sub hl [1, 2, 0] rfl) hP hS hz
  exact L2 z (0, v) h _ _ _ (lv_sub hl [1, 2, 0] rfl) hP hS hz
def b_Row_sum_4 (v : Va) (k : Nat) (N : Nat) (K4 : (Int32 × Int32) → Option Int32) (t4 : Int32 × Int32) : Option Int32 := if (nI N) ≤ t4.2 then (some t4.1) else (if t4.2 < 0 ∨ N ≤ t4.2.toNatClampNeg then none else K4 ((t4.1 + (v (k + 1) t4.2.toNatClampNeg)), (t4.2 + 1)))
def f_Row_sum (z : Nat) (v : Va) (k : Nat) (N : Nat) : Option Int32 := rp (b_Row_sum_4 v k N) z (0, 0)
theorem c_Row_sum {k : Nat} {N : Nat} (hk : isRow sh k N) {q : Int32} (h : f_Row_sum z v k N = some q) : MetI l yX7_sum cX7_sum 3 (some .int) 0 Γ sh v w n [.ref (Γ.2.1 + k)] (fun x u => x = q ∧ u = v) := by
  unfold f_Row_sum at h
  refine w_start pn_X7 (Nat.le_of_ble_eq_true rfl) fun p e s m args below meth c hx hb hml hret hlk hnm hts hown hK hP hz hE hS ls hl => ?_
  refine lv_iconst (v := 0) hx hb dX7_sum_0 rfl ?_
  refine lv_istore_n (lv' := [(1, .int 0), (0, .ref (Γ.2.1 + k))]) hx hb dX7_sum_1 rfl hl (by decide) rfl fun ls hl => ?_
  refine lv_iconst (v := 0) hx hb dX7_sum_2 rfl ?_
  refine lv_istore_n (lv' := [(2, .int 0), (1, .int 0), (0, .ref (Γ.2.1 + k))]) hx hb dX7_sum_3 rfl hl (by decide) rfl fun ls hl => ?_
  have L4 : ∀ (fu : Nat) (t4 : Int32 × Int32), rp (b_Row_sum_4 v k N) fu t4 = some q → ∀ (H1 : Heap) (locs1 : List Loc) (ls1 : Array Slot), lv_has ls1 3 [(0, .ref (Γ.2.1 + k)), (1, .int t4.1), (2, .int t4.2)] → Wd Γ sh v w H1 → va_S (gA Γ sh n) s.heap H1 locs1 → H1.size = Γ.2.1 + n → wpI Γ sh w n 0 (fun x u => x = q ∧ u = v) p l e s m args below meth c H1 locs1 (F0 m 4 ls1 []) := by
    refine q_loop (fun K4 ih4 t4 h H1 locs1 ls hl hP hS hz => ?_)
    unfold b_Row_sum_4 at h
    refine lv_iload_n hx hb dX7_sum_4 rfl (lv_at hl 2 rfl) ?_
    refine lv_aload_n hx hb dX7_sum_5 rfl (lv_at hl 0 rfl) ?_
    refine w_gr (k := k) (r := (k + 1)) hx hb hts hown hK hP fX7_7 hk.1 rfl dX7_sum_6 ?_
    refine w_alen (k := (k + 1)) hx hb hK hP hk.2.1 dX7_sum_9 ?_
    refine lv_icmp_ge (tgt := 28) hx hb dX7_sum_10 rfl (fun hc10 => ?_) (fun hc10 => ?_)
    · have h := itt_e h hc10
      refine lv_iload_n hx hb dX7_sum_28 rfl (lv_at hl 1 rfl) ?_
      exact w_iret hx hb hret rfl hlk hK hP hS hz hE (q_p1 h) dX7_sum_29
    · have h := itf_e h hc10
      refine lv_iload_n hx hb dX7_sum_13 rfl (lv_at hl 1 rfl) ?_
      refine lv_aload_n hx hb dX7_sum_14 rfl (lv_at hl 0 rfl) ?_
      refine w_gr (k := k) (r := (k + 1)) hx hb hts hown hK hP fX7_7 hk.1 rfl dX7_sum_15 ?_
      refine lv_iload_n hx hb dX7_sum_18 rfl (lv_at hl 2 rfl) ?_
      obtain ⟨hn19, h⟩ := itn_e h
      refine w_iald (k := (k + 1)) hx hb hK hP hk.2.1 hn19 dX7_sum_19 ?_
      refine lv_iadd hx hb dX7_sum_20 ?_
      refine lv_istore_n (lv' := [(1, .int (t4.1 + (v (k + 1) t4.2.toNatClampNeg))), (0, .ref (Γ.2.1 + k)), (2, .int t4.2)]) hx hb dX7_sum_21 rfl hl (by decide) rfl fun ls hl => ?_
      refine lv_iinc (k := 2) (v := (t4.2 + 1)) (lv' := [(2, .int (t4.2 + 1)), (1, .int (t4.1 + (v (k + 1) t4.2.toNatClampNeg))), (0, .ref (Γ.2.1 + k))]) hx hb dX7_sum_22 hl rfl rfl (by decide) rfl fun ls hl => ?_
      refine lv_goto (tgt := 4) hx hb dX7_sum_25 rfl ?_
      exact ih4 ((t4.1 + (v (k + 1) t4.2.toNatClampNeg)), (t4.2 + 1)) h _ _ _ (lv_sub hl [2, 1, 0] rfl) hP hS hz
  exact L4 z (0, 0) h _ _ _ (lv_sub hl [2, 1, 0] rfl) hP hS hz
end GE
