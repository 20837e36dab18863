/-! THE JDK, four: strings, a text is appended -/
section JE
variable {l : Launch} {Γ : Cx} {sh : Sh} {v : Va} {w : Vl} {n : Nat}
theorem w_recvQ {H : Heap} {s : State} {k ci : Nat} {cs : List Nat} (hK : wK Γ s) (hP : Wd Γ sh v w H) (he : sh k = some (sQ ci cs)) {C : String} (hcl : (vwCl[ci]?).map (fun q => q.1) = some C) : ∃ cell : Cell, H[Γ.2.1 + k]? = some cell ∧ cell.vm.isStatics = false ∧ s.vm.findClass C = some cell.cls := by
  cases hq : vwCl[ci]? with
  | none => rw [hq] at hcl; cases hcl
  | some q =>
    rw [hq] at hcl
    cases hcl
    exact va_recv hK (hP.one he) hq (q0 := 0) rfl
theorem c_S_coder {ad av d1 d2 : Nat} {B : List Int32} (hT : STc sh v ad av B) (hC : EC Γ sh d1 d2) : MetI l yJ0_coder_7d493 cJ0_coder_7d493 1 (some .byte) 0 Γ sh v w n [.ref (Γ.2.1 + ad)] (fun x u => x = 0 ∧ u = v) := by
  refine w_start pn_J0 (Nat.le_of_ble_eq_true rfl) fun p e s m args below meth c hx hb hml hret hlk hnm hts hown hK hP hz hE hS ls hl => ?_
  have hd : DM sh n := hP.dm hz
  have hG : GR sh n sh n := GR.rf
  obtain ⟨ha, hv0, hc0, hby, hrg, hB⟩ := id hT
  refine va_gets hx hb (hE.Z hC.1) hS hown (hts _ jJ0_38) (fun _ q => q) dJ0_coder_7d493_0 ?_
  refine lv_if_eq (tgt := 13) hx hb dJ0_coder_7d493_3 rfl (fun hc3 => False.elim (absurd hc3 (by decide))) (fun hc3 => ?_)
  refine lv_aload_n hx hb dJ0_coder_7d493_6 rfl (lv_at hl 0 rfl) ?_
  refine w_getQ (k := ad) hx hb hts hown hK hP fJ0_15 ha rfl (x := .int 0) (congrArg Value.int hc0) dJ0_coder_7d493_7 ?_
  refine lv_goto (tgt := 14) hx hb dJ0_coder_7d493_10 rfl ?_
  exact w_iret hx hb hret rfl hlk hK hP hS hz hE ⟨rfl, rfl⟩ dJ0_coder_7d493_14
theorem c_S_length {ad av d1 d2 : Nat} {B : List Int32} (hT : STc sh v ad av B) (hC : EC Γ sh d1 d2) : MetI l yJ0_length_8abf5 cJ0_length_8abf5 1 (some .int) 1 Γ sh v w n [.ref (Γ.2.1 + ad)] (fun x u => x = nI B.length ∧ u = v) := by
  refine w_start pn_J0 (Nat.le_of_ble_eq_true rfl) fun p e s m args below meth c hx hb hml hret hlk hnm hts hown hK hP hz hE hS ls hl => ?_
  have hd : DM sh n := hP.dm hz
  have hG : GR sh n sh n := GR.rf
  obtain ⟨ha, hv0, hc0, hby, hrg, hB⟩ := id hT
  refine lv_aload_n hx hb dJ0_length_8abf5_0 rfl (lv_at hl 0 rfl) ?_
  refine w_getQ (k := ad) hx hb hts hown hK hP fJ0_9 ha rfl (x := .ref (Γ.2.1 + av)) rfl dJ0_length_8abf5_1 ?_
  refine w_alenX (k := av) hx hb hK hP (by decide) hv0 dJ0_length_8abf5_4 ?_
  refine lv_aload_n hx hb dJ0_length_8abf5_5 rfl (lv_at hl 0 rfl) ?_
  refine u_calli (Bs := []) (w_rV (k := ad) hx hb hml hts hown hK (c_S_coder hT hC) rfl rfl kJ0_coder_7d493 mJ0_335 (w_recvQ hK hP ha rfl) PN.blind (t_pn hK hd hG hE hS hP hz) rfl hl.1 rfl (Nat.le_of_ble_eq_true rfl) ⟨Nat.le_of_ble_eq_true rfl, Nat.le_of_ble_eq_true rfl⟩ ⟨Nat.zero_le _, Nat.zero_le _⟩ dJ0_length_8abf5_6) hG hS fun r u H1 locs1 hp1 hz hP hS => ?_
  obtain ⟨hr1, hu1⟩ := hp1
  rw [hu1] at hP
  rw [hr1]
  refine lv_ishr hx hb dJ0_length_8abf5_9 ?_
  refine t_top (x' := nI B.length) (sb_shr0 _) ?_
  exact w_iret hx hb hret rfl hlk hK hP hS hz hE ⟨rfl, rfl⟩ dJ0_length_8abf5_10
theorem cpy_eq {f g h : Nat → Int32} {b N : Nat} (e : ∀ i, i < N → f i = g i) : va_cpy f h 0 b N = va_cpy g h 0 b N := funext fun k => by
  unfold va_cpy
  by_cases c : b ≤ k ∧ k < b + N
  · rw [if_pos c, if_pos c]; exact e _ (by omega)
  · rw [if_neg c, if_neg c]
theorem c_S_getBytes {ad av d1 d2 : Nat} {B : List Int32} (hT : STc sh v ad av B) (hC : EC Γ sh d1 d2) {pv cp q : Nat} (hb0 : sh pv = some (sB 1 cp)) (hq : q + B.length ≤ cp) (hcp : cp ≤ 6000) : MetV l yJ0_getBytes_840e7 cJ0_getBytes_840e7 4 none 1 Γ sh v w n [.ref (Γ.2.1 + ad), .ref (Γ.2.1 + pv), .int (nI q), .int 0] (fun u => u = up v pv (va_cpy (fun j => B.getD j 0) (v pv) 0 q B.length)) := by
  refine w_start pn_J0 (Nat.le_of_ble_eq_true rfl) fun p e s m args below meth c hx hb hml hret hlk hnm hts hown hK hP hz hE hS ls hl => ?_
  have hd : DM sh n := hP.dm hz
  have hG : GR sh n sh n := GR.rf
  obtain ⟨ha, hv0, hc0, hby, hrg, hB⟩ := id hT
  have hne : av ≠ pv := fun q => by rw [q, hb0] at hv0; cases hv0
  refine lv_aload_n hx hb dJ0_getBytes_840e7_0 rfl (lv_at hl 0 rfl) ?_
  refine u_calli (Bs := []) (w_rV (k := ad) hx hb hml hts hown hK (c_S_coder hT hC) rfl rfl kJ0_coder_7d493 mJ0_335 (w_recvQ hK hP ha rfl) PN.blind (t_pn hK hd hG hE hS hP hz) rfl hl.1 rfl (Nat.le_of_ble_eq_true rfl) ⟨Nat.le_of_ble_eq_true rfl, Nat.le_of_ble_eq_true rfl⟩ ⟨Nat.zero_le _, Nat.zero_le _⟩ dJ0_getBytes_840e7_1) hG hS fun r u H1 locs1 hp1 hz hP hS => ?_
  obtain ⟨hr1, hu1⟩ := hp1
  rw [hu1] at hP
  rw [hr1]
  refine lv_iload_n hx hb dJ0_getBytes_840e7_4 rfl (lv_at hl 3 rfl) ?_
  refine lv_icmp_ne (tgt := 28) hx hb dJ0_getBytes_840e7_5 rfl (fun hc5 => False.elim (hc5 rfl)) (fun hc5 => ?_)
  refine lv_aload_n hx hb dJ0_getBytes_840e7_8 rfl (lv_at hl 0 rfl) ?_
  refine w_getQ (k := ad) hx hb hts hown hK hP fJ0_9 ha rfl (x := .ref (Γ.2.1 + av)) rfl dJ0_getBytes_840e7_9 ?_
  refine lv_iconst (v := 0) hx hb dJ0_getBytes_840e7_12 rfl ?_
  refine lv_aload_n hx hb dJ0_getBytes_840e7_13 rfl (lv_at hl 1 rfl) ?_
  refine lv_iload_n hx hb dJ0_getBytes_840e7_14 rfl (lv_at hl 2 rfl) ?_
  refine lv_iload_n hx hb dJ0_getBytes_840e7_15 rfl (lv_at hl 3 rfl) ?_
  refine lv_ishl hx hb dJ0_getBytes_840e7_16 ?_
  refine t_top (x' := nI q) (sb_shl0 _) ?_
  refine lv_aload_n hx hb dJ0_getBytes_840e7_17 rfl (lv_at hl 0 rfl) ?_
  refine w_getQ (k := ad) hx hb hts hown hK hP fJ0_9 ha rfl (x := .ref (Γ.2.1 + av)) rfl dJ0_getBytes_840e7_18 ?_
  refine w_alenX (k := av) hx hb hK hP (by decide) hv0 dJ0_getBytes_840e7_21 ?_
  refine z_cpyB (n := n) (v1 := up v pv (va_cpy (fun j => B.getD j 0) (v pv) 0 q B.length)) hx hb hml hl.1 hts hown hK hP hS hz (Or.inr hv0) hb0 (gA_in hb0) hT.fit xJ0_212 ?_ ⟨Nat.le_of_ble_eq_true rfl, Nat.le_of_ble_eq_true rfl⟩ (Nat.le_of_ble_eq_true rfl) ⟨Nat.le_refl _, Nat.le_refl _⟩ ?_ dJ0_getBytes_840e7_22 fun H1 locs1 hz hP hS => ?_
  · rw [nI_clamp (by omega), nI_clamp (by omega), sb_cl0]
    exact fun h => by rcases h with h | h | h | h | h | h <;> first | exact absurd h (by decide) | exact nI_pos (by omega) h | exact hne h | omega
  · unfold q_cpy; rw [nI_clamp (by omega), nI_clamp (by omega), sb_cl0, cpy_eq hby]
  refine lv_goto (tgt := 43) hx hb dJ0_getBytes_840e7_25 rfl ?_
  exact w_vret hx hb hret hlk hK hP hS hz hE rfl dJ0_getBytes_840e7_43
theorem c_L_coder {ad av d1 d2 : Nat} {B : List Int32} (hs : sl_ok Γ sh ad av B) (hC : EC Γ sh d1 d2) : MetI l yJ0_coder_7d493 cJ0_coder_7d493 1 (some .byte) 0 Γ sh v w n [.ref ad] (fun x u => x = 0 ∧ u = v) := by
  refine w_start pn_J0 (Nat.le_of_ble_eq_true rfl) fun p e s m args below meth c hx hb hml hret hlk hnm hts hown hK hP hz hE hS ls hl => ?_
  have hd : DM sh n := hP.dm hz
  have hG : GR sh n sh n := GR.rf
  refine va_gets hx hb (hE.Z hC.1) hS hown (hts _ jJ0_38) (fun _ q => q) dJ0_coder_7d493_0 ?_
  refine lv_if_eq (tgt := 13) hx hb dJ0_coder_7d493_3 rfl (fun hc3 => False.elim (absurd hc3 (by decide))) (fun hc3 => ?_)
  refine lv_aload_n hx hb dJ0_coder_7d493_6 rfl (lv_at hl 0 rfl) ?_
  refine vk_getf hx hb (hE.OF hs.2.1) hS hown (hts _ jJ0_15) (fun _ q => q) dJ0_coder_7d493_7 ?_
  refine lv_goto (tgt := 14) hx hb dJ0_coder_7d493_10 rfl ?_
  exact w_iret hx hb hret rfl hlk hK hP hS hz hE ⟨rfl, rfl⟩ dJ0_coder_7d493_14
theorem c_L_length {ad av d1 d2 : Nat} {B : List Int32} (hs : sl_ok Γ sh ad av B) (hC : EC Γ sh d1 d2) : MetI l yJ0_length_8abf5 cJ0_length_8abf5 1 (some .int) 1 Γ sh v w n [.ref ad] (fun x u => x = nI B.length ∧ u = v) := by
  refine w_start pn_J0 (Nat.le_of_ble_eq_true rfl) fun p e s m args below meth c hx hb hml hret hlk hnm hts hown hK hP hz hE hS ls hl => ?_
  have hd : DM sh n := hP.dm hz
  have hG : GR sh n sh n := GR.rf
  refine lv_aload_n hx hb dJ0_length_8abf5_0 rfl (lv_at hl 0 rfl) ?_
  refine vk_getf hx hb (hE.OF hs.2.2.1) hS hown (hts _ jJ0_9) (fun _ q => q) dJ0_length_8abf5_1 ?_
  refine va_tlen hx hb (hE.T hs.2.2.2.1) hS (v := nI B.length) rfl dJ0_length_8abf5_4 ?_
  refine lv_aload_n hx hb dJ0_length_8abf5_5 rfl (lv_at hl 0 rfl) ?_
  refine u_calli (Bs := []) (s_rV (a := ad) hx hb hml hts hown hK (c_L_coder hs hC) rfl rfl kJ0_coder_7d493 mJ0_335 (sl_recv hE hS hs) PN.blind (t_pn hK hd hG hE hS hP hz) rfl hl.1 rfl (Nat.le_of_ble_eq_true rfl) ⟨Nat.le_of_ble_eq_true rfl, Nat.le_of_ble_eq_true rfl⟩ ⟨Nat.zero_le _, Nat.zero_le _⟩ dJ0_length_8abf5_6) hG hS fun r u H1 locs1 hp1 hz hP hS => ?_
  obtain ⟨hr1, hu1⟩ := hp1
  rw [hu1] at hP
  rw [hr1]
  refine lv_ishr hx hb dJ0_length_8abf5_9 ?_
  refine t_top (x' := nI B.length) (sb_shr0 _) ?_
  exact w_iret hx hb hret rfl hlk hK hP hS hz hE ⟨rfl, rfl⟩ dJ0_length_8abf5_10
theorem c_L_getBytes {ad av d1 d2 : Nat} {B : List Int32} (hs : sl_ok Γ sh ad av B) (hC : EC Γ sh d1 d2) {pv cp q : Nat} (hb0 : sh pv = some (sB 1 cp)) (hq : q + B.length ≤ cp) (hcp : cp ≤ 6000) : MetV l yJ0_getBytes_840e7 cJ0_getBytes_840e7 4 none 1 Γ sh v w n [.ref ad, .ref (Γ.2.1 + pv), .int (nI q), .int 0] (fun u => u = up v pv (va_cpy (fun j => B.getD j 0) (v pv) 0 q B.length)) := by
  refine w_start pn_J0 (Nat.le_of_ble_eq_true rfl) fun p e s m args below meth c hx hb hml hret hlk hnm hts hown hK hP hz hE hS ls hl => ?_
  have hd : DM sh n := hP.dm hz
  have hG : GR sh n sh n := GR.rf
  refine lv_aload_n hx hb dJ0_getBytes_840e7_0 rfl (lv_at hl 0 rfl) ?_
  refine u_calli (Bs := []) (s_rV (a := ad) hx hb hml hts hown hK (c_L_coder hs hC) rfl rfl kJ0_coder_7d493 mJ0_335 (sl_recv hE hS hs) PN.blind (t_pn hK hd hG hE hS hP hz) rfl hl.1 rfl (Nat.le_of_ble_eq_true rfl) ⟨Nat.le_of_ble_eq_true rfl, Nat.le_of_ble_eq_true rfl⟩ ⟨Nat.zero_le _, Nat.zero_le _⟩ dJ0_getBytes_840e7_1) hG hS fun r u H1 locs1 hp1 hz hP hS => ?_
  obtain ⟨hr1, hu1⟩ := hp1
  rw [hu1] at hP
  rw [hr1]
  refine lv_iload_n hx hb dJ0_getBytes_840e7_4 rfl (lv_at hl 3 rfl) ?_
  refine lv_icmp_ne (tgt := 28) hx hb dJ0_getBytes_840e7_5 rfl (fun hc5 => False.elim (hc5 rfl)) (fun hc5 => ?_)
  refine lv_aload_n hx hb dJ0_getBytes_840e7_8 rfl (lv_at hl 0 rfl) ?_
  refine vk_getf hx hb (hE.OF hs.2.2.1) hS hown (hts _ jJ0_9) (fun _ q => q) dJ0_getBytes_840e7_9 ?_
  refine lv_iconst (v := 0) hx hb dJ0_getBytes_840e7_12 rfl ?_
  refine lv_aload_n hx hb dJ0_getBytes_840e7_13 rfl (lv_at hl 1 rfl) ?_
  refine lv_iload_n hx hb dJ0_getBytes_840e7_14 rfl (lv_at hl 2 rfl) ?_
  refine lv_iload_n hx hb dJ0_getBytes_840e7_15 rfl (lv_at hl 3 rfl) ?_
  refine lv_ishl hx hb dJ0_getBytes_840e7_16 ?_
  refine t_top (x' := nI q) (sb_shl0 _) ?_
  refine lv_aload_n hx hb dJ0_getBytes_840e7_17 rfl (lv_at hl 0 rfl) ?_
  refine vk_getf hx hb (hE.OF hs.2.2.1) hS hown (hts _ jJ0_9) (fun _ q => q) dJ0_getBytes_840e7_18 ?_
  refine va_tlen hx hb (hE.T hs.2.2.2.1) hS (v := nI B.length) rfl dJ0_getBytes_840e7_21 ?_
  refine z_cpyL (n := n) (v1 := up v pv (va_cpy (fun j => B.getD j 0) (v pv) 0 q B.length)) hx hb hml hl.1 hts hown hK hP hS hz (hE.T hs.2.2.2.1) hb0 (gA_in hb0) (fun i hi => hs.2.2.2.2.2 _ (by rw [List.getD_eq_getElem?_getD, List.getElem?_eq_getElem hi]; exact List.getElem_mem hi)) xJ0_212 ?_ ⟨Nat.le_of_ble_eq_true rfl, Nat.le_of_ble_eq_true rfl⟩ (Nat.le_of_ble_eq_true rfl) ⟨Nat.le_refl _, Nat.le_refl _⟩ ?_ dJ0_getBytes_840e7_22 fun H1 locs1 hz hP hS => ?_
  · rw [nI_clamp (by omega), nI_clamp (by omega), sb_cl0]
    exact fun h => by rcases h with h | h | h | h | h <;> first | exact absurd h (by decide) | exact nI_pos (by omega) h | omega
  · rw [nI_clamp (by omega), nI_clamp (by omega), sb_cl0]
  refine lv_goto (tgt := 43) hx hb dJ0_getBytes_840e7_25 rfl ?_
  exact w_vret hx hb hret hlk hK hP hS hz hE rfl dJ0_getBytes_840e7_43
/-- a string: one that was made, or a constant -/
def SV (Γ : Cx) (sh : Sh) (v : Va) (ad : Nat) (B : List Int32) : Prop := (∃ k av, ad = Γ.2.1 + k ∧ STc sh v k av B) ∨ ((∃ av, sl_ok Γ sh ad av B) ∧ (∀ b ∈ B, 0 ≤ b.toInt ∧ b.toInt < 128) ∧ B.length ≤ 2500)
theorem SV.recv {ad : Nat} {B : List Int32} {H : Heap} {locs : List Loc} {s : State} {sh0 : Sh} {n0 : Nat} (h : SV Γ sh v ad B) (hK : wK Γ s) (hP : Wd Γ sh v w H) (hE : EN Γ sh0 n0 s) (hG : GR sh0 n0 sh n) (hS : va_S (gA Γ sh0 n0) s.heap H locs) : ∃ cell : Cell, H[ad]? = some cell ∧ cell.vm.isStatics = false ∧ s.vm.findClass "java/lang/String" = some cell.cls := by
  rcases h with ⟨k, av, rfl, h⟩ | ⟨⟨av, h⟩, -⟩
  · exact w_recvQ hK hP h.1 rfl
  · have h1 := h.1
    obtain ⟨cell, h2, h3, h4, h5⟩ := h1
    have hlt := (Array.getElem?_eq_some_iff.mp h2).1
    have hnot : ¬ gA Γ sh0 n0 ad := fun q => h5 (by
      rcases q with ⟨k, e, hk, hw, e1⟩ | q
      · by_cases hkn : k < n0
        · exact Or.inl ⟨k, e, (hG.2 k hkn).trans hk, hw, e1⟩
        · exact absurd hlt (by have h3 : (cx0 Γ).heap.size ≤ Γ.2.1 + n0 := hE.2.2.1
                               omega)
      · exact absurd hlt (by have h3 : (cx0 Γ).heap.size ≤ Γ.2.1 + n0 := hE.2.2.1
                             omega))
    have e1 : s.heap[ad]? = (cx0 Γ).heap[ad]? := hE.2.2.2 ad hlt fun k e hk hw e2 => hnot (Or.inl ⟨k, e, hk, hw, e2⟩)
    have hs : ad < s.heap.size := by rw [h2] at e1; exact (Array.getElem?_eq_some_iff.mp e1).1
    exact ⟨cell, by rw [hS.2.1 ad hs hnot, e1]; exact h2, h3, by rw [hE.1.alike.findClass]; exact h4⟩
theorem SV.len {ad : Nat} {B : List Int32} (h : SV Γ sh v ad B) : B.length ≤ 2500 := h.elim (fun ⟨_, _, _, h⟩ => h.2.2.2.2.2) (fun h => h.2.2)
theorem SV.rg {ad : Nat} {B : List Int32} (h : SV Γ sh v ad B) : ∀ b ∈ B, 0 ≤ b.toInt ∧ b.toInt < 128 := h.elim (fun ⟨_, _, _, h⟩ => h.2.2.2.2.1) (fun h => h.2.1)
/-- what is only read stays -/
def RO (sh : Sh) (v v1 : Va) : Prop := ∀ q e, sh q = some e → ¬ wr e → v1 q = v q
theorem SV.gr {sh0 : Sh} {v0 : Va} {n0 ad : Nat} {B : List Int32} {s : State} (h : SV Γ sh0 v0 ad B) (hd : DM sh0 n0) (hG : GR sh0 n0 sh n) (hE : EN Γ sh0 n0 s) (hv : RO sh0 v0 v) : SV Γ sh v ad B := by
  rcases h with ⟨k, av, e, h⟩ | ⟨⟨av, h⟩, h2⟩
  · obtain ⟨a1, a2, a3, a4, a5⟩ := h
    exact Or.inl ⟨k, av, e, (hG.2 _ (hd _ _ a1)).trans a1, (hG.2 _ (hd _ _ a2)).trans a2, by rw [hv _ _ a1 (fun q => q)]; exact a3, by rw [hv _ _ a2 (fun q => q)]; exact a4, a5⟩
  · exact Or.inr ⟨⟨av, h.gr (hG.F2 hE)⟩, h2⟩
theorem c_V_coder {ad d1 d2 : Nat} {B : List Int32} (hT : SV Γ sh v ad B) (hC : EC Γ sh d1 d2) : MetI l yJ0_coder_7d493 cJ0_coder_7d493 1 (some .byte) 0 Γ sh v w n [.ref ad] (fun x u => x = 0 ∧ u = v) := by
  rcases hT with ⟨k, av, rfl, h⟩ | ⟨⟨av, h⟩, -⟩
  · exact c_S_coder h hC
  · exact c_L_coder h hC
theorem c_V_length {ad d1 d2 : Nat} {B : List Int32} (hT : SV Γ sh v ad B) (hC : EC Γ sh d1 d2) : MetI l yJ0_length_8abf5 cJ0_length_8abf5 1 (some .int) 1 Γ sh v w n [.ref ad] (fun x u => x = nI B.length ∧ u = v) := by
  rcases hT with ⟨k, av, rfl, h⟩ | ⟨⟨av, h⟩, -⟩
  · exact c_S_length h hC
  · exact c_L_length h hC
theorem c_V_getBytes {ad d1 d2 : Nat} {B : List Int32} (hT : SV Γ sh v ad B) (hC : EC Γ sh d1 d2) {pv cp q : Nat} (hb0 : sh pv = some (sB 1 cp)) (hq : q + B.length ≤ cp) (hcp : cp ≤ 6000) : MetV l yJ0_getBytes_840e7 cJ0_getBytes_840e7 4 none 1 Γ sh v w n [.ref ad, .ref (Γ.2.1 + pv), .int (nI q), .int 0] (fun u => u = up v pv (va_cpy (fun j => B.getD j 0) (v pv) 0 q B.length)) := by
  rcases hT with ⟨k, av, rfl, h⟩ | ⟨⟨av, h⟩, -⟩
  · exact c_S_getBytes h hC hb0 hq hcp
  · exact c_L_getBytes h hC hb0 hq hcp
theorem c_ASB_inflateNo {ad d1 d2 : Nat} {B : List Int32} (hT : SV Γ sh v ad B) (hC : EC Γ sh d1 d2) {k : Nat} (hk : sh k = some oSB) (hc : v k 1 = 0) : MetV l yJ5_inflateIfNeededFor_a7421 cJ5_inflateIfNeededFor_a7421 2 none 1 Γ sh v w n [.ref (Γ.2.1 + k), .ref ad] (fun u => u = v) := by
  refine w_start pn_J5 (Nat.le_of_ble_eq_true rfl) fun p e s m args below meth c hx hb hml hret hlk hnm hts hown hK hP hz hE hS ls hl => ?_
  have hd : DM sh n := hP.dm hz
  have hG : GR sh n sh n := GR.rf
  refine va_gets hx hb (hE.Z hC.1) hS hown (hts _ jJ5_18) (fun _ q => q) dJ5_inflateIfNeededFor_a7421_0 ?_
  refine lv_if_eq (tgt := 21) hx hb dJ5_inflateIfNeededFor_a7421_3 rfl (fun hc3 => False.elim (absurd hc3 (by decide))) (fun hc3 => ?_)
  refine lv_aload_n hx hb dJ5_inflateIfNeededFor_a7421_6 rfl (lv_at hl 0 rfl) ?_
  refine w_gi (k := k) hx hb hts hown hK hP fJ5_22 hk rfl dJ5_inflateIfNeededFor_a7421_7 ?_
  rw [hc]
  refine lv_aload_n hx hb dJ5_inflateIfNeededFor_a7421_10 rfl (lv_at hl 1 rfl) ?_
  refine u_calli (Bs := []) (s_rV (a := ad) hx hb hml hts hown hK (c_V_coder hT hC) rfl rfl kJ0_coder_7d493 mJ5_40 (hT.recv hK hP hE hG hS) PN.blind (t_pn hK hd hG hE hS hP hz) rfl hl.1 rfl (Nat.le_of_ble_eq_true rfl) ⟨Nat.le_of_ble_eq_true rfl, Nat.le_of_ble_eq_true rfl⟩ ⟨Nat.zero_le _, Nat.zero_le _⟩ dJ5_inflateIfNeededFor_a7421_11) hG hS fun r u H1 locs1 hp1 hz hP hS => ?_
  obtain ⟨hr1, hu1⟩ := hp1
  rw [hu1] at hP
  rw [hr1]
  refine lv_icmp_eq (tgt := 21) hx hb dJ5_inflateIfNeededFor_a7421_14 rfl (fun hc14 => ?_) (fun hc14 => False.elim (hc14 rfl))
  exact w_vret hx hb hret hlk hK hP hS hz hE rfl dJ5_inflateIfNeededFor_a7421_21
theorem c_ASB_putString {ad d1 d2 : Nat} {B : List Int32} (hT : SV Γ sh v ad B) (hC : EC Γ sh d1 d2) {k pv cp q : Nat} (hk : sh k = some oSB) (hc : v k 1 = 0) (hp : (v k 0).toNatClampNeg = pv) (hb0 : sh pv = some (sB 1 cp)) (hq : q + B.length ≤ cp) (hcp : cp ≤ 6000) : MetV l yJ5_putStringAt_47b60 cJ5_putStringAt_47b60 3 none 2 Γ sh v w n [.ref (Γ.2.1 + k), .int (nI q), .ref ad] (fun u => u = up v pv (va_cpy (fun j => B.getD j 0) (v pv) 0 q B.length)) := by
  refine w_start pn_J5 (Nat.le_of_ble_eq_true rfl) fun p e s m args below meth c hx hb hml hret hlk hnm hts hown hK hP hz hE hS ls hl => ?_
  have hd : DM sh n := hP.dm hz
  have hG : GR sh n sh n := GR.rf
  refine lv_aload_n hx hb dJ5_putStringAt_47b60_0 rfl (lv_at hl 0 rfl) ?_
  refine lv_aload_n hx hb dJ5_putStringAt_47b60_1 rfl (lv_at hl 2 rfl) ?_
  refine u_callv (Bs := [.ref (Γ.2.1 + k), .ref ad]) (w_rU hx hb hml hts hown (c_ASB_inflateNo hT hC hk hc) rfl rfl kJ5_inflateIfNeededFor_a7421.1 kJ5_inflateIfNeededFor_a7421.2.1 kJ5_inflateIfNeededFor_a7421.2.2.1 kJ5_inflateIfNeededFor_a7421.1 kJ5_inflateIfNeededFor_a7421.2.2.1 kJ5_inflateIfNeededFor_a7421.2.2.2.1 kJ5_inflateIfNeededFor_a7421.2.2.2.2 sl_J5_inflateIfNeededFor_a7421 xmJ5_397 (w_recv hK hP hk rfl) PN.blind (t_pn hK hd hG hE hS hP hz) rfl hl.1 rfl (Nat.le_of_ble_eq_true rfl) ⟨Nat.le_of_ble_eq_true rfl, Nat.le_of_ble_eq_true rfl⟩ ⟨Nat.zero_le _, Nat.zero_le _⟩ dJ5_putStringAt_47b60_2) hG hS fun u H1 locs1 hp1 hz hP hS => ?_
  rw [hp1] at hP
  refine lv_aload_n hx hb dJ5_putStringAt_47b60_5 rfl (lv_at hl 2 rfl) ?_
  refine lv_aload_n hx hb dJ5_putStringAt_47b60_6 rfl (lv_at hl 0 rfl) ?_
  refine w_gd2 (k := k) (r := pv) hx hb hts hown hK hP fJ5_15 hk rfl hp dJ5_putStringAt_47b60_7 ?_
  refine lv_iload_n hx hb dJ5_putStringAt_47b60_10 rfl (lv_at hl 1 rfl) ?_
  refine lv_aload_n hx hb dJ5_putStringAt_47b60_11 rfl (lv_at hl 0 rfl) ?_
  refine w_gi (k := k) hx hb hts hown hK hP fJ5_22 hk rfl dJ5_putStringAt_47b60_12 ?_
  rw [hc]
  refine u_callv (Bs := []) (s_rV (a := ad) hx hb hml hts hown hK (c_V_getBytes hT hC hb0 hq hcp) rfl rfl kJ0_getBytes_840e7 mJ5_399 (hT.recv hK hP hE hG hS) PN.blind (t_pn hK hd hG hE hS hP hz) rfl hl.1 rfl (Nat.le_of_ble_eq_true rfl) ⟨Nat.le_of_ble_eq_true rfl, Nat.le_of_ble_eq_true rfl⟩ ⟨Nat.zero_le _, Nat.zero_le _⟩ dJ5_putStringAt_47b60_15) hG hS fun u H1 locs1 hp1 hz hP hS => ?_
  rw [hp1] at hP
  exact w_vret hx hb hret hlk hK hP hS hz hE rfl dJ5_putStringAt_47b60_18
end JE
