/-! THE LAW: from its entry to what was taught -/
section LB9
variable {p : Program} {l : Launch} {e : Env} {R : Room} {s : State} {m : MethodId} {args : Array Value} {below : List Frame} {meth : Method} {c : Code} {H H0 : Heap} {locs : List Loc} {cells slots : Nat} {Q : State → Prop}
variable {Γ : Cx} {sh sh0 : Sh} {v : Va} {w : Vl} {b0 b2 k n n0 L0 d1 d2 : Nat} {xs : Nat → Int32}
/-- what the entry gives, for any shape of new cells -/
def STF (Γ : Cx) (b0 L0 d1 d2 : Nat) (xs : Nat → Int32) : Prop := ∀ (Γ' : Cx) (sh : Sh), cx0 Γ' = cx0 Γ → (∀ a : Nat, a < (cx0 Γ).heap.size → ¬ gF Γ' sh a) → EF Γ' sh ∧ EX Γ' sh ∧ EC Γ' sh d1 d2 ∧ EL Γ' sh ∧ SCR Γ' sh b0 L0 xs
theorem LO.gF (h : LO Γ sh) : ∀ a : Nat, a < (cx0 Γ).heap.size → ¬ gF Γ sh a := fun a ha q => by
  rcases q with ⟨k, e, hk, _, e1⟩ | q
  · have := h k e hk; omega
  · exact absurd ha (Nat.not_lt.mpr q)
theorem S_gL {A : Nat → Prop} {H0 H : Heap} {locs : List Loc} (h : va_S A H0 H locs) (hA : ∀ q, A q → gL Γ q) : va_S (gL Γ) H0 H locs := ⟨h.1, fun q h1 h2 => h.2.1 q h1 (fun h3 => h2 (hA q h3)), fun q hq => hA _ (h.2.2 q hq)⟩
/-- a cell that was made for the class: the class's world begins -/
theorem split_A (hP : Wd Γ (up sh n (some (sO 10 [2, 2, 2, 2, 2, 2, 2, 2, 0, 0]))) (up v n (fun _ => 0)) w H) (hd : DM sh n) : Wd Γ sh v w H := fun k e he => by
  have hk : k ≠ n := by have := hd k e he; omega
  have := hP k e (by rw [up_ne hk]; exact he)
  rwa [up_ne hk] at this
theorem split_B (hP : Wd Γ (up sh n (some (sO 10 [2, 2, 2, 2, 2, 2, 2, 2, 0, 0]))) (up v n (fun _ => 0)) w H) (hb : b2 = Γ.2.1 + n) : Wd (bs Γ b2) (kO wv0 0 10 [2, 2, 2, 2, 2, 2, 2, 2, 0, 0]).1 (kO wv0 0 10 [2, 2, 2, 2, 2, 2, 2, 2, 0, 0]).2 (fun _ _ => 0) H := fun k e he => by
  have h1 := hP n _ (up_eq _ _ _)
  rw [up_eq] at h1
  by_cases hk : k = 0
  · subst hk
    have he2 : some (sO 10 [2, 2, 2, 2, 2, 2, 2, 2, 0, 0]) = some e := he
    cases he2
    subst hb
    exact h1
  · have he2 : (none : Option Sp) = some e := by rw [← he]; exact (up_ne (v := wv0.1) (f := some (sO 10 [2, 2, 2, 2, 2, 2, 2, 2, 0, 0])) hk).symm
    cases he2
theorem law_body (hx : p.tables.exec = Jvm.exec) (hb : c.code = cL_law) (hml : c.maxLocals = 31) (hts : ∀ w ∈ lw_all, w.before args s = true) (hown : s.vm.findClass RL = some m.cls) (hlt : l.stackTraces = false) (hK : wK Γ s) (hz0 : Γ.2.1 = s.heap.size) (hcx : cx0 Γ = s) (hER : ER Γ) (hSF : STF Γ b0 L0 d1 d2 xs) (hFR : 70 ≤ R.frames ∧ 3000 ≤ R.locals) (hroom : 40000 ≤ R.cells ∧ 3400000 ≤ R.slots) {ls : Array Slot} (hl : lv_has ls 31 [(0, .ref b0)])
    (hend : ∀ (H : Heap) (locs : List Loc) (ls : Array Slot), va_S (gL Γ) s.heap H locs → W p l e R s m args below meth c H locs 40000 3400000 Q (F0 m 1206 ls [.int 1])) :
    W p l e R s m args below meth c s.heap [] 0 0 Q (F0 m 0 ls []) := by
  have hsz : (cx0 Γ).heap.size = Γ.2.1 := by rw [hcx, hz0]
  have hLO : ∀ sh, LO Γ sh := fun sh k e _ => by rw [hsz]; omega
  have hF : ∀ sh, EF Γ sh ∧ EX Γ sh ∧ EC Γ sh d1 d2 ∧ EL Γ sh ∧ SCR Γ sh b0 L0 xs := fun sh => hSF Γ sh rfl (LO.gF (hLO sh))
  have hE0 : E0 Γ s := by unfold E0; rw [hcx]; exact ⟨State.WarmedH.refl s, Nat.le_refl _, fun _ _ => rfl⟩
  have hz : s.heap.size = Γ.2.1 + 0 := hz0.symm
  have hEN : EN Γ (fun _ => none) 0 s := hE0.en hz
  have hDM : DM (fun _ => none) 0 := fun k e h => by cases h
  have hM : MC Γ p s m args c cL_law 31 d1 d2 (fun _ => none) 0 := ⟨hx, hb, hml, hts, hown, hK, hEN, hDM, (hF _).2.2.1, (hF _).2.2.2.1⟩
  have hWc : WC Γ s (fun _ => none) 0 (fun _ _ => 0) (fun _ => none) (fun _ _ => 0) 0 s.heap [] := ⟨GR.rf, hz, (fun k e h => by cases h), va_S.rf⟩
  have hAL : ∀ q, gA Γ (fun _ => none) 0 q → gL Γ q := fun q hq => by
    rcases hq with ⟨k, e, hk, -⟩ | hq
    · cases hk
    · show (cx0 Γ).heap.size ≤ q; rw [hsz]; exact hq
  refine r_sb hM hWc hl.1 (by omega) ⟨by omega, by omega⟩ (Nat.le_of_ble_eq_true rfl) ⟨by omega, by omega⟩ dL_law_0 dL_law_3 dL_law_4 fun sh1 v1 H1 locs1 hWc1 hG1 hq1 hB1 => ?_
  refine lv_astore_n (lv' := [(1, .ref (Γ.2.1 + 0)), (0, .ref b0)]) hx hb dL_law_7 rfl hl (by decide) rfl fun ls hl => ?_
  refine lv_aload_n hx hb dL_law_8 rfl (lv_at hl 1 rfl) ?_
  refine lv_aload_n hx hb dL_law_9 rfl (lv_at hl 0 rfl) ?_
  refine t_callr (post := fun r u => LIP sh1 v1 2 0 1 L0 xs r u) (Bs := [.ref b0, .ref (Γ.2.1 + 0)]) (w_rS hx hb hml hts hown hK (c_L_list (kt := 0) (p0 := 1) (hF _).2.2.1 (hF _).2.2.2.1 hER (hF _).2.2.2.2 hB1 (by omega)) rfl rfl kL_list mL_237 PN.blind (t_pn hK hDM hWc1.1 hEN hWc1.2.2.2 hWc1.2.2.1 hWc1.2.1) rfl hl.1 rfl (Nat.le_of_ble_eq_true rfl) ⟨by show 9 + 1 ≤ _; omega, by show 8 + (11 + 11) + 40 * 9 ≤ _; omega⟩ ⟨by omega, by omega⟩ dL_law_10) hWc1.1 hWc1.2.2.2 fun r u H1 locs1 hp hz2 hP2 hS2 => ?_
  obtain ⟨sh2, v2, n2⟩ := u
  obtain ⟨hG2, hn2, hq2, ⟨hTl, hTr, pT, cT, hBT, -⟩, Pm2, hSN2, hLI2⟩ := hp
  dsimp only at hG2 hn2 hq2 hTl hTr hBT hSN2 hz2 hP2
  obtain ⟨pA, pB, hik, hSM, hAP⟩ := LIS.sim hSN2 hLI2
  have hd2 : DM sh2 n2 := Wd.dm hP2 hz2
  refine lv_astore_n (lv' := [(2, .ref (Γ.2.1 + r)), (1, .ref (Γ.2.1 + 0)), (0, .ref b0)]) hx hb dL_law_13 rfl hl (by decide) rfl fun ls hl => ?_
  refine w_new (n := n2) hx hb hts hown hK hP2 hS2 nL_10 (by omega) (by omega) hz2 dL_law_14 fun H3 hz3 hP3 hS3 => ?_
  refine lv_dup hx hb dL_law_17 rfl ?_
  obtain ⟨b2, hb2e⟩ : ∃ x, x = Γ.2.1 + n2 := ⟨_, rfl⟩
  have hPA := split_A hP3 hd2
  have hPB := split_B hP3 hb2e
  have hb2 : (cx0 Γ).heap.size ≤ b2 := by rw [hsz, hb2e]; omega
  have hFB : ∀ sh, EF (bs Γ b2) sh ∧ EX (bs Γ b2) sh ∧ EC (bs Γ b2) sh d1 d2 ∧ EL (bs Γ b2) sh ∧ SCR (bs Γ b2) sh b0 L0 xs := fun sh => hSF (bs Γ b2) sh rfl (LO.gF (Γ := bs Γ b2) (fun k e _ => by show (cx0 Γ).heap.size ≤ b2 + k; omega))
  rw [show Value.ref (Γ.2.1 + n2) = Value.ref (b2 + 0) by rw [hb2e]; rfl]
  refine va_callv (w_rI (Γ := bs Γ b2) (k := 0) (As := []) hx hb hml hts hown hK (i_Quay (Γ := bs Γ b2) (l := l) (w := fun _ _ => 0) (k := 0) (u := kO wv0 0 10 [2, 2, 2, 2, 2, 2, 2, 2, 0, 0]) (show up wv0.1 0 (some (sO 10 [2, 2, 2, 2, 2, 2, 2, 2, 0, 0])) 0 = _ from up_eq _ _ _) (r := wv1) rfl) rfl rfl kX11_init mL_241 PM.blind (fun U hU hW => ⟨rfl, by rw [hU]; exact hPB, va_K.moved hW.alike hK, by rw [hU]; show H3.size = b2 + (0 + 1); rw [hz3, hb2e]; omega⟩) rfl hl.1 rfl (Nat.le_of_ble_eq_true rfl) ⟨by show 5 + 1 ≤ _; omega, by show 8 + (1 + 11) + 40 * 5 ≤ _; omega⟩ ⟨Nat.le_trans (Nat.add_le_add (show 0 + 2 + 1500 + 1 ≤ 2000 by omega) (show _ ≤ 1000 from Nat.le_of_ble_eq_true rfl)) (by omega), Nat.le_trans (Nat.add_le_add (show 0 + 20 + 3000000 + 10 ≤ 3000100 by omega) (show _ ≤ 20000 from Nat.le_of_ble_eq_true rfl)) (by omega)⟩ dL_law_18) (S_gL hS3 hAL) (fun q _ h => Nat.le_trans hb2 h) (fun q h => Nat.le_trans hb2 h) (fun _ t H4 locs4 ht hvm _ hB4 hz4 hk4 hS4 => ?_)
  obtain ⟨hP4, -, hz5⟩ := hB4
  rw [ht] at hP4 hz5
  have hz5 : H4.size = Γ.2.1 + (n2 + 149) := by
    have h9 : H4.size = b2 + (0 + 149) := hz5
    rw [h9, hb2e]; omega
  refine W.widen (k := 3000) (n := 3100000) (Nat.le_of_ble_eq_true rfl) (Nat.le_of_ble_eq_true rfl) ?_
  have hD : DW Γ b2 s (fun _ _ => 0) (fun _ _ => 0) wsh sh2 v2 (n2 + 149) wv1.2 H4 locs4 := by
    refine ⟨hz5, fun k e he => (hPA k e he).kept (hk4 _ (hPA.lt he) (fun q => ?_)), hP4, hS4, hLO _, fun k e k' e' he he' q => ?_⟩
    · have h8 := hd2 k e he
      have q9 : b2 + 0 ≤ Γ.2.1 + k := q
      omega
    · have h8 := hd2 k e he
      omega
  refine lv_astore_n (lv' := [(3, .ref (b2 + 0)), (2, .ref (Γ.2.1 + r)), (1, .ref (Γ.2.1 + 0)), (0, .ref b0)]) hx hb dL_law_21 rfl hl (by decide) rfl fun ls hl => ?_
  refine lv_aload_n hx hb dL_law_22 rfl (lv_at hl 0 rfl) ?_
  refine lv_aload_n hx hb dL_law_23 rfl (lv_at hl 2 rfl) ?_
  refine d_gr (post := fun r u => r = n2 + 149 ∧ STR sh2 v2 (n2 + 149) (liX L0 xs) u) (Bs := [.ref (Γ.2.1 + 0)]) hE0 hD (w_rV (k := 0) (As := []) hx hb hml hts hown hK (c_SB_toString (S9 := 2600) (hF _).2.2.1 hBT hTr (by omega) (by omega) (by omega)) rfl rfl kJ4_toString_0e30d mL_44 (w_recv hK hD.2.1 hBT.1 rfl) PN.blind (d_pnA hE0 hK hD) rfl hl.1 rfl (Nat.le_of_ble_eq_true rfl) ⟨by show 5 + 1 ≤ _; omega, by show 8 + (1 + 11) + 40 * 5 ≤ _; omega⟩ ⟨by omega, by omega⟩ dL_law_24) fun r5 u5 H5 locs5 hp5 hD5 => ?_
  obtain ⟨rfl, hG5, hn5, hq5, hST⟩ := hp5
  obtain ⟨sh5, v5, n5⟩ := u5
  dsimp only at hG5 hn5 hq5 hST hD5
  have hD := hD5 hG5
  obtain ⟨vt, hTPE, hTE⟩ := tape_ok (v := wv1.2) (T := liX L0 xs) hTr (by omega) w_val.1
  have hLAY : LAY vt 0 (liX L0 xs) := fun i hi => by
    rw [Nat.zero_add, hTPE.2.1 i hi]; exact if_pos hi
  have hvt : ∀ q, q ≠ 0 → q ≠ 2 → vt q = wv1.2 q := hTPE.2.2.1
  obtain ⟨w9, hte, hTC⟩ := li_teach hLAY (by omega) hTPE.1 (by rw [hvt 49 (by omega) (by omega), hvt 52 (by omega) (by omega), hvt 55 (by omega) (by omega), hvt 58 (by omega) (by omega)]; exact w_val.2.1)
  have hTEA := hTE (0, w9) hte
  have hd5 : DM sh5 n5 := hD.dm
  have hTAX : TAX Γ sh5 sh5 v5 n5 (n2 + 149) (n2 + 149 + 1) d1 d2 (liX L0 xs) := ⟨hST, hd5, (hF _).2.2.1, fun sh _ => (hF sh).1⟩
  refine d_2i (post := fun r t => r = 0 ∧ ∃ sh1 v1 n1, t = (sh1, v1, n1, w9) ∧ GR sh5 n5 sh1 n1 ∧ ∀ q, q < n5 → v1 q = v5 q) (Bs := [.ref (b2 + 0), .ref (Γ.2.1 + (n2 + 149))]) hD (w_rS hx hb hml hts hown hK (c_L_taught hTAX hTEA w_quay (hFB _).2.1 (hFB _).1 hlt hb2) rfl rfl kL_taught mL_242 P2.blind (d_p2 hE0 hK hD) rfl hl.1 rfl (Nat.le_of_ble_eq_true rfl) ⟨by show 60 + 1 ≤ _; omega, by show 8 + (5 + 11) + 40 * 60 ≤ _; omega⟩ ⟨by omega, by omega⟩ dL_law_27) fun r6 u6 H6 locs6 hp6 hD => ?_
  obtain ⟨rfl, sh6, v6, n6, rfl, hG6, hq6⟩ := hp6
  dsimp only at hD
  have hX : XM Γ b2 p l s m args c cL_law 31 RL wsh := ⟨hx, hb, hml, hts, hown, hK, hE0, hb2, w_quay, (hFB _).2.1, hlt⟩
  have hd6 : DM sh6 n6 := hD.dm
  have hn52 : n2 ≤ n5 := by omega
  have hGL : GR sh2 n2 sh6 n6 := ⟨by have := hG6.1; omega, fun q hq => by rw [hG6.2 q (by omega)]; exact hG5.2 q (by omega)⟩
  have hv62 : ∀ q, q < n2 → v6 q = v2 q := fun q hq => by rw [hq6 q (by omega), hq5 q (by omega)]
  have hik6 := hik.gr hd2 hGL
  have hSR : SR v6 (uX L0 xs w9) r pA pB (liL L0 xs) (liG L0 xs) (liM L0 xs) (liT L0 xs) (liO L0 xs) := fun j i f hv => by
    rw [hv62 _ (smQ_lt hik hd2 hv)]; exact uX_SR hSM j i f hv
  have hL : DL Γ b2 s (fun _ _ => 0) (fun _ _ => 0) wsh sh6 n6 r pA pB (liL L0 xs) (liG L0 xs) (liM L0 xs) (liT L0 xs) (liO L0 xs) (uX L0 xs w9) (uX L0 xs w9) (fun _ => none) sh6 v6 n6 w9 H6 locs6 := ⟨hD, hik6, hSR, uX_QI hTC (by rw [hvt 97 (by omega) (by omega)]; exact w_val.2.2.1) (by rw [hvt 97 (by omega) (by omega)]; exact w_val.2.2.2), fun q e g hq => (by cases hq), fun j i f hv => smQ_lt hik6 hd6 hv, GR.rf⟩
  obtain ⟨c1, c2, c3, c4, c5⟩ := li_le (L0 := L0) (xs := xs)
  refine lw_open (shC := sh6) (c0 := 3000 + 2 + 500) (s0 := 3100000 + 2600 + 2000) hX ⟨by omega, by omega⟩ hAP (uX_LI hTC) (uX_IS (w := w9)).2.2.2.1.2 rfl (by omega) (by omega) (hF _).2.2.1 (hF _).2.2.2.2 ⟨by omega, by omega⟩ (fun sh v n vb H1 locs1 ls hD9 => ?_) hl hL
  exact W.widen (k := 40000) (n := 3400000) (by omega) (by omega) (hend H1 locs1 ls hD9.2.2.2.1)
end LB9
