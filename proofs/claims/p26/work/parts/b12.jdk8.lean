/-! THE JDK, eight: toString -/
section JE
variable {l : Launch} {Γ : Cx} {sh : Sh} {v : Va} {w : Vl} {n : Nat}
theorem SBc.gr {sh sh1 : Sh} {v v1 : Va} {n n1 k p cap : Nat} {L : List Int32} (h : SBc sh v k p cap L) (hd : DM sh n) (hG : GR sh n sh1 n1) (h1 : v1 k = v k) (h2 : v1 p = v p) : SBc sh1 v1 k p cap L := by
  obtain ⟨a1, a2, a3, a4, a5, a6, a7, a8, a9⟩ := h
  exact ⟨(hG.2 _ (hd _ _ a1)).trans a1, by rw [h1]; exact a2, by rw [h1]; exact a3, by rw [h1]; exact a4, (hG.2 _ (hd _ _ a5)).trans a5, a6, a7, fun i hi => by rw [h2]; exact a8 i hi, fun i hi => by rw [h2]; exact a9 i hi⟩
theorem xkJ7_311 : Cond.classLink RJ7 311 "[B" ∈ lw_all := tk6 (i := 203) (by decide +kernel) rfl
theorem GR.W {sh0 sh : Sh} {n0 n : Nat} {s U : State} {H : Heap} {locs : List Loc} (h1 : n0 ≤ n) (h2 : ∀ k e, sh0 k = some e → wr e → ∃ e1, sh k = some e1 ∧ wr e1) (hE : EN Γ sh0 n0 s) (hS : va_S (gA Γ sh0 n0) s.heap H locs) (hU : U.heap = H) (hW : s.WarmedH U.vm) : EN Γ sh n U := by
  obtain ⟨a1, a2, a3, a4⟩ := hE.go hS hU hW
  exact ⟨a1, a2, Nat.le_trans a3 (Nat.add_le_add_left h1 _), fun a ha hq => a4 a ha fun k e hk hw => by
    obtain ⟨e1, hk1, hw1⟩ := h2 k e hk hw
    exact hq k e1 hk1 hw1⟩
theorem t_vretW {p : Program} {e : Env} {R : Room} {s : State} {m : MethodId} {args : Array Value} {below : List Frame} {meth : Method} {c : Code} {H : Heap} {locs : List Loc} {cells slots : Nat} {cc : ByteArray} {pc : Nat} {ls : Array Slot} {sh0 : Sh} {n0 : Nat} (hx : p.tables.exec = Jvm.exec) (hb : c.code = cc) (hr : meth.sig.returnType = none) (hlocks : meth.locks = false) (hK : wK Γ s) (hP : Wd Γ sh v w H) (hS : va_S (gA Γ sh0 n0) s.heap H locs) (hz : H.size = Γ.2.1 + n) (hE : EN Γ sh0 n0 s) (h1 : n0 ≤ n) (h2 : ∀ k e, sh0 k = some e → wr e → ∃ e1, sh k = some e1 ∧ wr e1) {post : Wt → Prop} (hp : post (sh, v, n)) (hdg : decode cc pc = .ok (.return_, 1)) : W p l e R s m args below meth c H locs cells slots (MQ below (va_Qv post (fun u => PN Γ u.1 u.2.1 w u.2.2) (gA Γ sh0 n0)) args s cells slots (gA Γ sh0 n0)) (F0 m pc ls []) :=
  W.vret hx hb hr (fun t ht hW => ⟨⟨(sh, v, n), rfl, hp, ⟨by rw [ht]; exact hP, va_K.moved hW.alike hK, by rw [ht]; exact hz, GR.W h1 h2 hE hS ht hW⟩⟩, hS.F ht⟩) hS.2.2 hdg hlocks
theorem Wd.ro {sh1 : Sh} {H : Heap} (h : Wd Γ sh v w H) (hr : ∀ k, sh1 k = sh k ∨ (∃ ci cs, sh k = some (sO ci cs) ∧ sh1 k = some (sQ ci cs)) ∨ ∃ N, sh k = some (sB 1 N) ∧ sh1 k = some (sX 1 N)) : Wd Γ sh1 v w H := fun k e hk => by
  rcases hr k with h1 | ⟨ci, cs, h1, h2⟩ | ⟨N, h1, h2⟩
  · rw [h1] at hk; exact h k e hk
  · rw [h2] at hk; cases hk; have h9 := h k _ h1; exact h9
  · rw [h2] at hk; cases hk; have h9 := h k _ h1; exact h9
theorem c_checkLength {N : Nat} (hN : N ≤ 6000) : MetV l yJ7_checkLength_df160 cJ7_checkLength_df160 2 none 0 Γ sh v w n [.int 0, .int (nI N)] (fun u => u = v) := by
  refine w_start pn_J7 (Nat.le_of_ble_eq_true rfl) fun p e s m args below meth c hx hb hml hret hlk hnm hts hown hK hP hz hE hS ls hl => ?_
  have hd : DM sh n := hP.dm hz
  have hG : GR sh n sh n := GR.rf
  refine lv_iload_n hx hb dJ7_checkLength_df160_0 rfl (lv_at hl 1 rfl) ?_
  refine lv_iload_n hx hb dJ7_checkLength_df160_1 rfl (lv_at hl 0 rfl) ?_
  refine lv_icmp_ge (tgt := 37) hx hb dJ7_checkLength_df160_2 rfl (fun hc2 => ?_) (fun hc2 => False.elim (hc2 (Int32.not_lt.mp (nI_pos (by omega)))))
  exact w_vret hx hb hret hlk hK hP hS hz hE rfl dJ7_checkLength_df160_37
theorem q_min_le {N cp : Nat} (h : N ≤ cp) (hc : cp ≤ 100000) : q_min (nI cp) (nI N) = nI N := by
  unfold q_min
  by_cases h1 : N < cp
  · rw [if_pos (show nI N < nI cp from by rw [Int32.lt_iff_toInt_lt, show (nI N).toInt = (N : Int) from Int32.toInt_ofNat_of_lt (by omega), show (nI cp).toInt = (cp : Int) from Int32.toInt_ofNat_of_lt (by omega)]; omega)]
  · have : N = cp := by omega
    subst this
    exact ite_self _
/-- a new array of bytes with the first N of pv's -/
def CPY (sh : Sh) (v : Va) (n pv N : Nat) (u : Wt) : Prop := ∃ f, u = (up sh n (some (sB 1 N)), up v n f, n + 1) ∧ ∀ i, i < N → f i = v pv i
theorem c_copyOfRangeByte {pv cp N S9 : Nat} (hb0 : sh pv = some (sB 1 cp)) (hN : N ≤ cp) (hcp : cp ≤ 6000) (hS9 : N ≤ S9) (hf : fitN v pv cp) : MetTR l yJ7_copyOfRangeByte_39247 cJ7_copyOfRangeByte_39247 5 (some (FieldType.array FieldType.byte)) 1 1 S9 Γ sh v w n [.ref (Γ.2.1 + pv), .int 0, .int (nI N)] (fun r u => r = n ∧ CPY sh v n pv N u) := by
  refine w_start pn_J7 (Nat.le_of_ble_eq_true rfl) fun p e s m args below meth c hx hb hml hret hlk hnm hts hown hK hP hz hE hS ls hl => ?_
  have hd : DM sh n := hP.dm hz
  have hG : GR sh n sh n := GR.rf
  refine lv_iload_n hx hb dJ7_copyOfRangeByte_39247_0 rfl (lv_at hl 1 rfl) ?_
  refine lv_iload_n hx hb dJ7_copyOfRangeByte_39247_1 rfl (lv_at hl 2 rfl) ?_
  refine u_callv (Bs := [.int 0, .int (nI N)]) (w_rS hx hb hml hts hown hK (c_checkLength (by omega)) rfl rfl kJ7_checkLength_df160 mJ7_343 PN.blind (t_pn hK hd hG hE hS hP hz) rfl hl.1 rfl (Nat.le_of_ble_eq_true rfl) ⟨Nat.le_of_ble_eq_true rfl, Nat.le_of_ble_eq_true rfl⟩ ⟨Nat.zero_le _, Nat.zero_le _⟩ dJ7_copyOfRangeByte_39247_2) hG hS fun u H1 locs1 hp1 hz hP hS => ?_
  rw [hp1] at hP
  refine lv_iload_n hx hb dJ7_copyOfRangeByte_39247_5 rfl (lv_at hl 2 rfl) ?_
  refine lv_iload_n hx hb dJ7_copyOfRangeByte_39247_6 rfl (lv_at hl 1 rfl) ?_
  refine lv_isub hx hb dJ7_copyOfRangeByte_39247_7 ?_
  refine t_top (x' := nI N) (by rw [Int32.sub_zero]) ?_
  refine lv_istore_n (lv' := [(3, .int (nI N)), (0, .ref (Γ.2.1 + pv)), (1, .int 0), (2, .int (nI N))]) hx hb dJ7_copyOfRangeByte_39247_8 rfl hl (by decide) rfl fun ls hl => ?_
  refine lv_iload_n hx hb dJ7_copyOfRangeByte_39247_9 rfl (lv_at hl 0 rfl) ?_
  have hpn : pv ≠ n := fun q => by have := hd _ _ hb0; omega
  refine w_newB (n := n) (N := N) hx hb hts hK hP hS (nI_pos (by omega)) (nI_clamp (by omega)) (by omega) (show 0 + 1 ≤ 1 by omega) (show 0 + N ≤ S9 by omega) hz dJ7_copyOfRangeByte_39247_10 fun H1 hz hP hS => ?_
  have hb1 : (up sh n (some (sB 1 N))) pv = some (sB 1 cp) := (up_ne hpn).trans hb0
  have hb2 : (up sh n (some (sB 1 N))) n = some (sB 1 N) := up_eq _ _ _
  refine lv_astore (lv' := [(4, .ref (Γ.2.1 + n)), (3, .int (nI N)), (0, .ref (Γ.2.1 + pv)), (1, .int 0), (2, .int (nI N))]) hx hb dJ7_copyOfRangeByte_39247_12 hl (by decide) rfl fun ls hl => ?_
  refine lv_aload_n hx hb dJ7_copyOfRangeByte_39247_14 rfl (lv_at hl 2 rfl) ?_
  refine lv_iload_n hx hb dJ7_copyOfRangeByte_39247_15 rfl (lv_at hl 3 rfl) ?_
  refine lv_aload hx hb dJ7_copyOfRangeByte_39247_16 (lv_at hl 0 rfl) ?_
  refine lv_iconst (v := 0) hx hb dJ7_copyOfRangeByte_39247_18 rfl ?_
  refine lv_aload_n hx hb dJ7_copyOfRangeByte_39247_19 rfl (lv_at hl 2 rfl) ?_
  refine w_alenB (k := pv) hx hb hK hP hb1 dJ7_copyOfRangeByte_39247_20 ?_
  refine lv_iload_n hx hb dJ7_copyOfRangeByte_39247_21 rfl (lv_at hl 3 rfl) ?_
  refine lv_isub hx hb dJ7_copyOfRangeByte_39247_22 ?_
  refine t_top (x' := nI cp) (by rw [Int32.sub_zero]) ?_
  refine lv_iload_n hx hb dJ7_copyOfRangeByte_39247_23 rfl (lv_at hl 1 rfl) ?_
  refine z_mmin hx hb hml hl.1 hts hown xJ7_304 ⟨Nat.le_of_ble_eq_true rfl, Nat.le_of_ble_eq_true rfl⟩ (Nat.le_of_ble_eq_true rfl) ⟨Nat.le_refl _, by show 0 + N ≤ S9; omega⟩ dJ7_copyOfRangeByte_39247_24 ?_
  refine t_top (x' := nI N) (q_min_le hN (by omega)) ?_
  refine z_cpyB (n := n + 1) (v1 := up v n (va_cpy (v pv) (fun _ => 0) 0 0 N)) hx hb hml hl.1 hts hown hK hP hS hz (Or.inl hb1) hb2 (gA_new (Nat.le_refl _)) (fun i hi => by rw [up_ne hpn]; exact hf i hi) xJ7_150 ?_ ⟨Nat.le_of_ble_eq_true rfl, Nat.le_of_ble_eq_true rfl⟩ (Nat.le_of_ble_eq_true rfl) ⟨Nat.le_refl _, by show 0 + N ≤ S9; omega⟩ ?_ dJ7_copyOfRangeByte_39247_27 fun H1 locs1 hz hP hS => ?_
  · rw [nI_clamp (by omega), sb_cl0]
    exact fun h => by rcases h with h | h | h | h | h | h <;> first | exact absurd h (by decide) | exact nI_pos (by omega) h | omega
  · unfold q_cpy; rw [nI_clamp (by omega), sb_cl0, up_eq, up_ne hpn, up_up]
  refine lv_aload hx hb dJ7_copyOfRangeByte_39247_30 (lv_at hl 0 rfl) ?_
  refine W.widen (k := 1) (n := S9) (Nat.le_refl _) (by omega) ?_
  exact t_rret (post := (fun r u => r = n ∧ CPY sh v n pv N u)) hx hb hret (Or.inr ⟨_, rfl⟩) hlk hK hP hS hz hE hd hG.nw ⟨rfl, _, rfl, fun i hi => sb_cpy0 hi⟩ dJ7_copyOfRangeByte_39247_32
theorem c_copyOfRange {pv cp N S9 : Nat} (hb0 : sh pv = some (sB 1 cp)) (hN : N ≤ cp) (hcp : cp ≤ 6000) (hS9 : N ≤ S9) (hf : fitN v pv cp) {d1 d2 : Nat} (hC : EC Γ sh d1 d2) : MetTR l yJ7_copyOfRange_39247 cJ7_copyOfRange_39247 3 (some (FieldType.array FieldType.byte)) 2 1 S9 Γ sh v w n [.ref (Γ.2.1 + pv), .int 0, .int (nI N)] (fun r u => r = n ∧ CPY sh v n pv N u) := by
  refine w_start pn_J7 (Nat.le_of_ble_eq_true rfl) fun p e s m args below meth c hx hb hml hret hlk hnm hts hown hK hP hz hE hS ls hl => ?_
  have hd : DM sh n := hP.dm hz
  have hG : GR sh n sh n := GR.rf
  refine lv_iload_n hx hb dJ7_copyOfRange_39247_0 rfl (lv_at hl 1 rfl) ?_
  refine lv_if_ne (tgt := 10) hx hb dJ7_copyOfRange_39247_1 rfl (fun hc1 => False.elim (hc1 rfl)) (fun hc1 => ?_)
  refine lv_iload_n hx hb dJ7_copyOfRange_39247_4 rfl (lv_at hl 2 rfl) ?_
  refine lv_aload_n hx hb dJ7_copyOfRange_39247_5 rfl (lv_at hl 0 rfl) ?_
  refine w_alenB (k := pv) hx hb hK hP hb0 dJ7_copyOfRange_39247_6 ?_
  refine lv_icmp_eq (tgt := 17) hx hb dJ7_copyOfRange_39247_7 rfl (fun hc7 => ?_) (fun hc7 => ?_)
  · have hNc : N = cp := (nI_eq (by omega) (by omega)).mp hc7
    subst hNc
    refine lv_aload_n hx hb dJ7_copyOfRange_39247_17 rfl (lv_at hl 0 rfl) ?_
    refine w_clone (n := n) (t := 1) (N := N) (ty := .byte) (ad := "[B") hx hb hml hl.1 hts hown hK hP hS rfl rfl (fun cA h => h) hb0 (fun i hi => fit_b (hf i hi)) xcJ7_310 xcs_B xcx_B (hE.word rfl rfl (hC.2.2.2.1 _ List.mem_cons_self)) ⟨Nat.le_of_ble_eq_true rfl, Nat.le_of_ble_eq_true rfl⟩ (Nat.le_of_ble_eq_true rfl) (show 0 + 1 ≤ 1 by omega) (show 0 + N ≤ S9 by omega) hz dJ7_copyOfRange_39247_18 fun H1 hz hP hS => ?_
    refine w_cast (k := n) (t := 1) (N := N) (ty := .byte) (ad := "[B") hx hb hts hown hK hP rfl rfl (fun cA h => h) (up_eq _ _ _) xkJ7_311 dJ7_copyOfRange_39247_21 ?_
    refine W.widen (k := 1) (n := S9) (Nat.le_refl _) (by omega) ?_
    exact t_rret (post := (fun r u => r = n ∧ CPY sh v n pv N u)) hx hb hret (Or.inr ⟨_, rfl⟩) hlk hK hP hS hz hE hd hG.nw ⟨rfl, _, rfl, fun i hi => rfl⟩ dJ7_copyOfRange_39247_24
  · skip
    refine lv_aload_n hx hb dJ7_copyOfRange_39247_10 rfl (lv_at hl 0 rfl) ?_
    refine lv_iload_n hx hb dJ7_copyOfRange_39247_11 rfl (lv_at hl 1 rfl) ?_
    refine lv_iload_n hx hb dJ7_copyOfRange_39247_12 rfl (lv_at hl 2 rfl) ?_
    refine t_callr (post := fun r u => r = n ∧ CPY sh v n pv N u) (Bs := [.ref (Γ.2.1 + pv), .int 0, .int (nI N)]) (w_rS hx hb hml hts hown hK (c_copyOfRangeByte hb0 hN hcp hS9 hf) rfl rfl kJ7_copyOfRangeByte_39247 mJ7_339 PN.blind (t_pn hK hd hG hE hS hP hz) rfl hl.1 rfl (Nat.le_of_ble_eq_true rfl) ⟨Nat.le_of_ble_eq_true rfl, Nat.le_of_ble_eq_true rfl⟩ ⟨by show 0 + 1 ≤ 1; omega, by show 0 + S9 ≤ S9; omega⟩ dJ7_copyOfRange_39247_13) hG hS fun r u H1 locs1 hp1 hz hP hS => ?_
    obtain ⟨hr1, hu1⟩ := id hp1
    obtain ⟨f, hf1, hf2⟩ := hu1
    have hG9 : GR sh n u.1 u.2.2 := by rw [hf1]; exact hG.nw
    refine W.widen (k := 1) (n := S9) (Nat.le_of_eq (Nat.zero_add 1)) (Nat.le_of_eq (Nat.zero_add S9)) ?_
    exact t_rret (post := (fun r u => r = n ∧ CPY sh v n pv N u)) hx hb hret (Or.inr ⟨_, rfl⟩) hlk hK hP hS hz hE hd hG9 hp1 dJ7_copyOfRange_39247_16
theorem c_SB_length {k : Nat} (hk : sh k = some oSB) : MetI l yJ4_length_8abf5 cJ4_length_8abf5 1 (some .int) 1 Γ sh v w n [.ref (Γ.2.1 + k)] (fun x u => x = v k 3 ∧ u = v) := by
  refine w_start pn_J4 (Nat.le_of_ble_eq_true rfl) fun p e s m args below meth c hx hb hml hret hlk hnm hts hown hK hP hz hE hS ls hl => ?_
  have hd : DM sh n := hP.dm hz
  have hG : GR sh n sh n := GR.rf
  refine lv_aload_n hx hb dJ4_length_8abf5_0 rfl (lv_at hl 0 rfl) ?_
  refine u_calli (Bs := []) (w_rP hx hb hml hts hown (hK.1 13 _ rfl).2 (c_ASB_length hk) rfl rfl kJ5_length_8abf5 su_J4 (by decide +kernel) xmJ4_343 (w_recv hK hP hk rfl) PN.blind (t_pn hK hd hG hE hS hP hz) rfl hl.1 rfl (Nat.le_of_ble_eq_true rfl) ⟨Nat.le_of_ble_eq_true rfl, Nat.le_of_ble_eq_true rfl⟩ ⟨Nat.zero_le _, Nat.zero_le _⟩ dJ4_length_8abf5_1) hG hS fun r u H1 locs1 hp1 hz hP hS => ?_
  obtain ⟨hr1, hu1⟩ := hp1
  rw [hu1] at hP
  rw [hr1]
  exact w_iret hx hb hret rfl hlk hK hP hS hz hE ⟨rfl, rfl⟩ dJ4_length_8abf5_4
theorem c_S_initASB {d1 d2 k pv cp t S9 : Nat} {L : List Int32} (hC : EC Γ sh d1 d2) (hL : SBc sh v k pv cp L) (ht : sh t = some (sO 12 [2, 0, 0, 0])) (hS9 : L.length ≤ S9) (hnb : n ≤ 1500000) : MetTV l yJ0_init_db425 cJ0_init_db425 5 none 3 1 S9 Γ sh v w n [.ref (Γ.2.1 + t), .ref (Γ.2.1 + k), .null] (fun u => ∃ f, u = (up (up sh n (some (sB 1 L.length))) t (some (sO 12 [n + 3, 0, 0, 0])), up (up (up v t (upd (v t) 1 0)) n f) t (upd (upd (v t) 1 0) 0 0), n + 1) ∧ ∀ i, i < L.length → f i = L.getD i 0) := by
  refine w_start pn_J0 (Nat.le_of_ble_eq_true rfl) fun p e s m args below meth c hx hb hml hret hlk hnm hts hown hK hP hz hE hS ls hl => ?_
  have hd : DM sh n := hP.dm hz
  have hG : GR sh n sh n := GR.rf
  obtain ⟨hk, hc, hcnt, hp, hb0, hLc, hcp, hfi, hbyL⟩ := id hL
  have htk : k ≠ t := fun q => by rw [← q, hk] at ht; cases ht
  have htp : pv ≠ t := fun q => by rw [← q, hb0] at ht; cases ht
  have htn : t ≠ n := fun q => by have := hd _ _ ht; omega
  refine lv_aload_n hx hb dJ0_init_db425_0 rfl (lv_at hl 0 rfl) ?_
  refine W.objInit hx hb hown (hts _ xoJ0_1) (hts _ xoi) (hts _ xoc) rfl (by rw [hml]; exact hl.1) rfl dJ0_init_db425_1 (Nat.le_of_ble_eq_true rfl) (Nat.le_of_ble_eq_true rfl) ?_
  refine lv_aload_n hx hb dJ0_init_db425_4 rfl (lv_at hl 1 rfl) ?_
  refine u_callr (post := (fun x u => x = pv ∧ u = v)) (Bs := []) (w_rU hx hb hml hts hown (c_ASB_getValue hk hp) rfl rfl kJ5_getValue_6d5f1.1 kJ5_getValue_6d5f1.2.1 kJ5_getValue_6d5f1.2.2.1 kJ5_getValue_6d5f1.1 kJ5_getValue_6d5f1.2.2.1 kJ5_getValue_6d5f1.2.2.2.1 kJ5_getValue_6d5f1.2.2.2.2 sl_J5_getValue_6d5f1 xmJ0_552 (w_recv hK hP hk rfl) PN.blind (t_pn hK hd hG hE hS hP hz) rfl hl.1 rfl (Nat.le_of_ble_eq_true rfl) ⟨Nat.le_of_ble_eq_true rfl, Nat.le_of_ble_eq_true rfl⟩ ⟨Nat.zero_le _, Nat.zero_le _⟩ dJ0_init_db425_5) hG hS fun r u H1 locs1 hp1 hz hP hS => ?_
  obtain ⟨hr1, hu1⟩ := hp1
  rw [hu1] at hP
  rw [hr1]
  refine lv_astore_n (lv' := [(3, .ref (Γ.2.1 + pv)), (0, .ref (Γ.2.1 + t)), (1, .ref (Γ.2.1 + k)), (2, .null)]) hx hb dJ0_init_db425_8 rfl hl (by decide) rfl fun ls hl => ?_
  refine lv_aload_n hx hb dJ0_init_db425_9 rfl (lv_at hl 2 rfl) ?_
  refine u_calli (Bs := []) (w_rU hx hb hml hts hown (c_SB_length hk) rfl rfl xk_sblen xn_sb xi_sblen kJ5_length_8abf5.1 kJ5_length_8abf5.2.2.1 kJ5_length_8abf5.2.2.2.1 kJ5_length_8abf5.2.2.2.2 sx_length xmJ0_549 (w_recv hK hP hk rfl) PN.blind (t_pn hK hd hG hE hS hP hz) rfl hl.1 rfl (Nat.le_of_ble_eq_true rfl) ⟨Nat.le_of_ble_eq_true rfl, Nat.le_of_ble_eq_true rfl⟩ ⟨Nat.zero_le _, Nat.zero_le _⟩ dJ0_init_db425_10) hG hS fun r u H1 locs1 hp1 hz hP hS => ?_
  obtain ⟨hr1, hu1⟩ := hp1
  rw [hu1] at hP
  rw [hr1, hcnt]
  refine lv_istore (lv' := [(4, .int (nI L.length)), (3, .ref (Γ.2.1 + pv)), (0, .ref (Γ.2.1 + t)), (1, .ref (Γ.2.1 + k)), (2, .null)]) hx hb dJ0_init_db425_13 hl (by decide) rfl fun ls hl => ?_
  refine lv_aload_n hx hb dJ0_init_db425_15 rfl (lv_at hl 3 rfl) ?_
  refine u_calli (Bs := []) (w_rU hx hb hml hts hown (c_ASB_isLatin1 hk hc hC) rfl rfl kJ5_isLatin1_aae02.1 kJ5_isLatin1_aae02.2.1 kJ5_isLatin1_aae02.2.2.1 kJ5_isLatin1_aae02.1 kJ5_isLatin1_aae02.2.2.1 kJ5_isLatin1_aae02.2.2.2.1 kJ5_isLatin1_aae02.2.2.2.2 sl_J5_isLatin1_aae02 xmJ0_1047 (w_recv hK hP hk rfl) PN.blind (t_pn hK hd hG hE hS hP hz) rfl hl.1 rfl (Nat.le_of_ble_eq_true rfl) ⟨Nat.le_of_ble_eq_true rfl, Nat.le_of_ble_eq_true rfl⟩ ⟨Nat.zero_le _, Nat.zero_le _⟩ dJ0_init_db425_16) hG hS fun r u H1 locs1 hp1 hz hP hS => ?_
  obtain ⟨hr1, hu1⟩ := hp1
  rw [hu1] at hP
  rw [hr1]
  refine lv_if_eq (tgt := 41) hx hb dJ0_init_db425_19 rfl (fun hc19 => False.elim (absurd hc19 (by decide))) (fun hc19 => ?_)
  refine lv_aload_n hx hb dJ0_init_db425_22 rfl (lv_at hl 2 rfl) ?_
  refine lv_iconst (v := 0) hx hb dJ0_init_db425_23 rfl ?_
  refine w_putF (k := t) hx hb hts hown hK hP hS (gA_in ht) FJ0_15 hnm ht (cd := 0) (y := 0) rfl rfl rfl rfl dJ0_init_db425_24 fun H1 locs1 hz1 hP hS => ?_
  have hz := hz1.trans hz
  have e1 : up sh t (some (sO 12 ([2, 0, 0, 0].set 1 0))) = sh := by rw [show ([2, 0, 0, 0] : List Nat).set 1 0 = [2, 0, 0, 0] from rfl, ← ht]; exact up_id sh t
  rw [e1] at hP
  have hb9 : fitN (up v t (upd (v t) 1 0)) pv cp := fun i hi => by rw [up_ne htp]; exact hfi i hi
  have hC9 : EC Γ sh d1 d2 := hC
  refine lv_aload_n hx hb dJ0_init_db425_27 rfl (lv_at hl 2 rfl) ?_
  refine lv_aload_n hx hb dJ0_init_db425_28 rfl (lv_at hl 1 rfl) ?_
  refine lv_iconst (v := 0) hx hb dJ0_init_db425_29 rfl ?_
  refine lv_iload hx hb dJ0_init_db425_30 (lv_at hl 0 rfl) ?_
  refine t_callr (post := fun r u => r = n ∧ CPY sh (up v t (upd (v t) 1 0)) n pv L.length u) (Bs := [.ref (Γ.2.1 + pv), .int 0, .int (nI L.length)]) (w_rS hx hb hml hts hown hK (c_copyOfRange hb0 hLc hcp hS9 hb9 hC9) rfl rfl kJ7_copyOfRange_39247 mJ0_54 PN.blind (t_pn hK hd hG hE hS hP hz) rfl hl.1 rfl (Nat.le_of_ble_eq_true rfl) ⟨Nat.le_of_ble_eq_true rfl, Nat.le_of_ble_eq_true rfl⟩ ⟨by show 0 + 1 ≤ 1; omega, by show 0 + S9 ≤ S9; omega⟩ dJ0_init_db425_32) hG hS fun r u H1 locs1 hp1 hz hP hS => ?_
  obtain ⟨hr1, f, hu1, hf1⟩ := hp1
  rw [hu1] at hP hz
  rw [hr1]
  dsimp only at hz hP
  refine w_putF (k := t) hx hb hts hown hK hP hS (gA_in ht) FJ0_9 hnm ((up_ne htn).trans ht) (cd := n + 3) (y := 0) rfl rfl rfl rfl dJ0_init_db425_35 fun H1 locs1 hz1 hP hS => ?_
  refine lv_goto (tgt := 97) hx hb dJ0_init_db425_38 rfl ?_
  have hz := hz1.trans hz
  refine W.widen (k := 1) (n := S9) (Nat.le_of_eq (Nat.zero_add 1)) (Nat.le_of_eq (Nat.zero_add S9)) ?_
  refine t_vretW (post := fun u => ∃ f, u = (up (up sh n (some (sB 1 L.length))) t (some (sO 12 [n + 3, 0, 0, 0])), up (up (up v t (upd (v t) 1 0)) n f) t (upd (upd (v t) 1 0) 0 0), n + 1) ∧ ∀ i, i < L.length → f i = L.getD i 0) hx hb hret hlk hK hP hS hz hE (Nat.le_succ _) (fun k e hk hw => ?_) ⟨f, ?_, fun i hi => ?_⟩ dJ0_init_db425_97
  · by_cases h1 : k = t
    · subst h1; exact ⟨_, up_eq _ _ _, trivial⟩
    · exact ⟨e, by rw [up_ne h1, up_ne (fun q => by have := hd _ _ hk; omega)]; exact hk, hw⟩
  · rw [up_ne htn, up_eq]; rfl
  · rw [hf1 i hi, up_ne htp]; exact hbyL i hi
theorem c_S_initSB {d1 d2 k pv cp t S9 : Nat} {L : List Int32} (hC : EC Γ sh d1 d2) (hL : SBc sh v k pv cp L) (ht : sh t = some (sO 12 [2, 0, 0, 0])) (hS9 : L.length ≤ S9) (hnb : n ≤ 1500000) : MetTV l yJ0_init_81219 cJ0_init_81219 2 none 4 1 S9 Γ sh v w n [.ref (Γ.2.1 + t), .ref (Γ.2.1 + k)] (fun u => ∃ f, u = (up (up sh n (some (sB 1 L.length))) t (some (sO 12 [n + 3, 0, 0, 0])), up (up (up v t (upd (v t) 1 0)) n f) t (upd (upd (v t) 1 0) 0 0), n + 1) ∧ ∀ i, i < L.length → f i = L.getD i 0) := by
  refine w_start pn_J0 (Nat.le_of_ble_eq_true rfl) fun p e s m args below meth c hx hb hml hret hlk hnm hts hown hK hP hz hE hS ls hl => ?_
  have hd : DM sh n := hP.dm hz
  have hG : GR sh n sh n := GR.rf
  refine lv_aload_n hx hb dJ0_init_81219_0 rfl (lv_at hl 0 rfl) ?_
  refine lv_aload_n hx hb dJ0_init_81219_1 rfl (lv_at hl 1 rfl) ?_
  refine lv_null hx hb dJ0_init_81219_2 ?_
  refine t_callv (Bs := []) (w_rI (k := t) hx hb hml hts hown hK (c_S_initASB hC hL ht hS9 hnb) rfl rfl kJ0_init_db425 mJ0_489 PN.blind (t_pn hK hd hG hE hS hP hz) rfl hl.1 rfl (Nat.le_of_ble_eq_true rfl) ⟨Nat.le_of_ble_eq_true rfl, Nat.le_of_ble_eq_true rfl⟩ ⟨by show 0 + 1 ≤ 1; omega, by show 0 + S9 ≤ S9; omega⟩ dJ0_init_81219_3) hG hS fun u H1 locs1 hp1 hz hP hS => ?_
  obtain ⟨f, hu1, hf1⟩ := id hp1
  refine W.widen (k := 1) (n := S9) (Nat.le_of_eq (Nat.zero_add 1)) (Nat.le_of_eq (Nat.zero_add S9)) ?_
  refine t_vretW (post := fun u => ∃ f, u = (up (up sh n (some (sB 1 L.length))) t (some (sO 12 [n + 3, 0, 0, 0])), up (up (up v t (upd (v t) 1 0)) n f) t (upd (upd (v t) 1 0) 0 0), n + 1) ∧ ∀ i, i < L.length → f i = L.getD i 0) hx hb hret hlk hK hP hS hz hE (by rw [hu1]; exact Nat.le_succ _) (fun k e hk hw => ?_) hp1 dJ0_init_81219_6
  rw [hu1]
  by_cases h1 : k = t
  · subst h1; exact ⟨_, up_eq _ _ _, trivial⟩
  · exact ⟨e, by show up _ t _ k = _; rw [up_ne h1, up_ne (fun q => by have := hd _ _ hk; omega)]; exact hk, hw⟩
/-- a new string B -/
def STR (sh : Sh) (v : Va) (n : Nat) (B : List Int32) (u : Wt) : Prop := GR sh n u.1 u.2.2 ∧ u.2.2 = n + 2 ∧ (∀ q, q < n → u.2.1 q = v q) ∧ STc u.1 u.2.1 n (n + 1) B
theorem c_SB_toString {d1 d2 k pv cp S9 : Nat} {L : List Int32} (hC : EC Γ sh d1 d2) (hL : SBc sh v k pv cp L) (hrg : ∀ b ∈ L, 0 ≤ b.toInt ∧ b.toInt < 128) (hlen : L.length ≤ 2500) (hS9 : L.length + 4 ≤ S9) (hnb : n ≤ 1000000) : MetTR l yJ4_toString_0e30d cJ4_toString_0e30d 1 (some (FieldType.object "java/lang/String")) 5 2 S9 Γ sh v w n [.ref (Γ.2.1 + k)] (fun r u => r = n ∧ STR sh v n L u) := by
  refine w_start pn_J4 (Nat.le_of_ble_eq_true rfl) fun p e s m args below meth c hx hb hml hret hlk hnm hts hown hK hP hz hE hS ls hl => ?_
  have hd : DM sh n := hP.dm hz
  have hG : GR sh n sh n := GR.rf
  refine w_new (n := n) hx hb hts hown hK hP hS nJ4_18 (show 0 + 1 ≤ 2 by omega) (show 0 + 4 ≤ S9 by omega) hz dJ4_toString_0e30d_0 fun H1 hz hP hS => ?_
  refine lv_dup hx hb dJ4_toString_0e30d_3 rfl ?_
  refine lv_aload_n hx hb dJ4_toString_0e30d_4 rfl (lv_at hl 0 rfl) ?_
  have hG9 : GR sh n (up sh n (some (sO 12 [2, 0, 0, 0]))) (n + 1) := hG.nw
  clear hG
  have hG := hG9
  have hkn : k ≠ n := fun q => by have := hd _ _ hL.1; omega
  have hpn : pv ≠ n := fun q => by have := hd _ _ hL.2.2.2.2.1; omega
  have hL9 : SBc (up sh n (some (sO 12 [2, 0, 0, 0]))) (up v n (fun _ => 0)) k pv cp L := hL.gr hd hG9 (up_ne hkn) (up_ne hpn)
  have hC9 : EC Γ (up sh n (some (sO 12 [2, 0, 0, 0]))) d1 d2 := hC.gr hG9 hE
  refine t_callv (Bs := []) (w_rI (k := n) hx hb hml hts hown hK (c_S_initSB (S9 := S9 - 4) hC9 hL9 (up_eq _ _ _) (by omega) (by omega)) rfl rfl kJ0_init_81219 mJ4_137 PN.blind (t_pn hK hd hG hE hS hP hz) rfl hl.1 rfl (Nat.le_of_ble_eq_true rfl) ⟨Nat.le_of_ble_eq_true rfl, Nat.le_of_ble_eq_true rfl⟩ ⟨by show 0 + 1 + 1 ≤ 2; omega, by show 0 + 4 + (S9 - 4) ≤ S9; omega⟩ dJ4_toString_0e30d_5) hG hS fun u H1 locs1 hp1 hz hP hS => ?_
  obtain ⟨f, hu1, hf1⟩ := id hp1
  rw [hu1] at hP hz
  dsimp only at hz hP
  generalize hsh9 : up (up (up sh n (some (sO 12 [2, 0, 0, 0]))) (n + 1) (some (sB 1 L.length))) n (some (sO 12 [n + 1 + 3, 0, 0, 0])) = sh9 at hP
  generalize hv9 : up (up (up (up v n (fun _ => 0)) n (upd ((up v n (fun _ => 0)) n) 1 0)) (n + 1) f) n (upd (upd ((up v n (fun _ => 0)) n) 1 0) 0 0) = v9 at hP
  have hP := hP.ro (sh1 := up (up sh (n + 1) (some (sX 1 L.length))) n (some (sQ 12 [n + 1 + 3, 0, 0, 0]))) fun q => ?_
  have hG : GR sh n (up (up sh (n + 1) (some (sX 1 L.length))) n (some (sQ 12 [n + 1 + 3, 0, 0, 0]))) (n + 2) := ⟨by omega, fun q hq => by rw [up_ne (by omega), up_ne (by omega)]⟩
  refine W.widen (k := 2) (n := S9) (Nat.le_of_eq (by omega)) (by omega) ?_
  refine t_rret (post := fun r u => r = n ∧ STR sh v n L u) hx hb hret (Or.inl ⟨_, rfl⟩) hlk hK hP hS hz hE hd hG ⟨rfl, hG, rfl, fun q hq => ?_, up_eq _ _ _, ?_, ?_, fun i hi => ?_, hrg, hlen⟩ dJ4_toString_0e30d_8
  · show v9 q = v q
    rw [← hv9, up_ne (by omega), up_ne (by omega), up_ne (by omega), up_ne (by omega)]
  · show up _ _ _ (n + 1) = _
    rw [up_ne (by omega), up_eq]
  · show v9 n 1 = 0
    rw [← hv9, up_eq, upd_ne (by decide), upd_eq]
  · show v9 (n + 1) i = _
    rw [← hv9, up_ne (by omega), up_eq]
    exact hf1 i hi
  · rw [← hsh9]
    by_cases h1 : q = n
    · subst h1
      exact Or.inr (Or.inl ⟨12, [q + 1 + 3, 0, 0, 0], up_eq _ _ _, up_eq _ _ _⟩)
    · by_cases h2 : q = n + 1
      · subst h2
        exact Or.inr (Or.inr ⟨_, by rw [up_ne h1, up_eq], by rw [up_ne h1, up_eq]⟩)
      · exact Or.inl (by rw [up_ne h1, up_ne h2, up_ne h1, up_ne h2, up_ne h1])
end JE
