/-! THE LAW: its loop, and its body -/
theorem lp_more {L t : Nat} (hL : L ≤ 3072) (ht : t ≤ 600) (h : ¬ Int32.ofNat L - 6 < nI (6 * t)) : 6 * t + 6 ≤ L := by
  have e1 : (Int32.ofNat L).toInt = (L : Int) := Int32.toInt_ofNat_of_lt (by omega)
  have e2 : (Int32.ofNat L - 6).toInt = (L : Int) - 6 := by
    rw [Int32.toInt_sub, e1]
    have : (6 : Int32).toInt = 6 := rfl
    rw [this, Int.bmod_eq_of_le (by omega) (by omega)]
  have h2 : ¬ (Int32.ofNat L - 6).toInt < (nI (6 * t)).toInt := fun q => h (Int32.lt_iff_toInt_lt.mpr q)
  rw [e2, ni_t (by omega)] at h2
  omega
section LP
variable {p : Program} {l : Launch} {e : Env} {s : State} {m : MethodId} {args : Array Value} {below : List Frame} {meth : Method} {c : Code} {Q : State → Prop} {Γ : Cx} {b L : Nat} {xs : Nat → Int32}
theorem law_loop (hc : LC Γ p s m args c b L xs) (hlt : l.stackTraces = false)
    (hend : ∀ (d0 : Drawn) (cells slots : Nat) (H : Heap) (locs : List Loc) (ls : Array Slot), s.drawn.sameBut d0 lw_cs → cells ≤ 601024 → slots ≤ 7293034 → va_S (gA Γ) s.heap H locs → W p l e room_1 (s.setDrawn d0) m args below meth c H locs cells slots Q (F0 m 1480 ls [.int 1])) :
    ∀ (j t : Nat), t + j = 600 → ∀ d0 : Drawn, s.drawn.sameBut d0 lw_cs → 6 * t ≤ 3078 → LK l Γ p e (s.setDrawn d0) m args below meth c b (nI (6 * t)) (800 + 30 * t) (40000 + 2000 * t) Q 23 := by
  intro j
  have hL := hc.2.2.2.2.2.2.2.2.2.2.2.2.2
  have hr1 : room_1.cells = 601024 := rfl
  have hr2 : room_1.slots = 7293034 := rfl
  induction j with
  | zero => intro t ht d0 _ h6; omega
  | succ j ih =>
    intro t ht d0 hd0 h6
    have hcd := hc.dr d0
    have h73 : 6 * t + 6 ≤ L → ∀ d1 : Drawn, s.drawn.sameBut d1 lw_cs → LK l Γ p e (s.setDrawn d1) m args below meth c b (nI (6 * t)) (800 + 30 * t + 30) (40000 + 2000 * t + 2000) Q 1473 := by
      intro hm6 d1 hd1 sh v w n sp H locs ls hd hP hS hz hl
      obtain ⟨hx, hb, -⟩ := id hc
      refine lv_iinc (k := 0) (v := nI (6 * (t + 1))) (lv' := LL Γ b (nI (6 * (t + 1)))) hx hb dL_law_1473 hl rfl (ni_add (6 * t) 6) (by decide) rfl fun ls hl => ?_
      refine lv_goto (tgt := 23) hx hb dL_law_1476 rfl ?_
      refine W.widen (k := 800 + 30 * (t + 1)) (n := 40000 + 2000 * (t + 1)) (by omega) (by omega) ?_
      exact ih (t + 1) (by omega) d1 hd1 (by omega) _ _ _ _ _ _ _ _ hd hP hS hz hl
    intro sh v w n sp H locs ls hd hP hS hz hl
    obtain ⟨hx, hb, hml, hts, hown, hK, hE, hF, hX, hN, hsc, hbl, hbA, -⟩ := id hcd
    have hi : (nI (6 * t)).toInt = ((6 * t : Nat) : Int) := ni_t (by omega)
    refine lv_iload hx hb dL_law_23 (lv_at hl 0 rfl) ?_
    refine lv_aload_n hx hb dL_law_25 rfl (lv_at hl 4 rfl) ?_
    refine va_slen hx hb hsc hbl hbA hS dL_law_26 ?_
    refine lv_bipush (v := 6) hx hb dL_law_27 rfl ?_
    refine lv_isub hx hb dL_law_29 ?_
    refine lv_icmp_gt (tgt := 1479) hx hb dL_law_30 rfl (fun _ => ?_) (fun hgt => ?_)
    · refine lv_iconst (v := 1) hx hb dL_law_1479 rfl ?_
      exact hend d0 _ _ H locs ls hd0 (by omega) (by omega) hS
    have hm6 := lp_more hL (by omega) hgt
    have h0 : 0 ≤ (nI (6 * t)).toInt := by omega
    have h1 : (nI (6 * t)).toInt + 6 ≤ (L : Int) := by omega
    have kk := h73 hm6
    have hrc : 800 + 30 * t + 30 ≤ room_1.cells := by omega
    have hrs : 40000 + 2000 * t + 2000 ≤ room_1.slots := by omega
    have hin : vp_in (nI (6 * t)) L := by
      have h := sc_in (a := 0) h0 h1 hL ⟨by decide, by decide⟩
      rwa [Int32.add_zero] at h
    refine lv_aload_n hx hb dL_law_33 rfl (lv_at hl 4 rfl) ?_
    refine lv_iload hx hb dL_law_34 (lv_at hl 0 rfl) ?_
    refine va_sld hx hb hsc hbl hbA hS hin dL_law_36 ?_
    refine lv_bipush (v := 31) hx hb dL_law_37 rfl ?_
    refine lv_iand hx hb dL_law_39 ?_
    by_cases hy0 : xs (nI (6 * t)).toNatClampNeg &&& 31 = 0
    · refine z_tI (y := 0) (tgt := 148) hx hb dL_law_40 hy0 (by decide) (by decide) rfl rfl ?_
      exact turn_feed hcd hlt h0 h1 hrc hrs (kk d0 hd0) _ _ _ _ _ _ _ _ hd hP hS hz hl
    by_cases hy1 : xs (nI (6 * t)).toNatClampNeg &&& 31 = 1
    · refine z_tI (y := 1) (tgt := 252) hx hb dL_law_40 hy1 (by decide) (by decide) rfl rfl ?_
      exact turn_trim hcd hlt h0 h1 hrc hrs (kk d0 hd0) _ _ _ _ _ _ _ _ hd hP hS hz hl
    by_cases hy2 : xs (nI (6 * t)).toNatClampNeg &&& 31 = 2
    · refine z_tI (y := 2) (tgt := 308) hx hb dL_law_40 hy2 (by decide) (by decide) rfl rfl ?_
      exact turn_teach hcd hrc hrs (kk d0 hd0) _ _ _ _ _ _ _ _ hd hP hS hz hl
    by_cases hy3 : xs (nI (6 * t)).toNatClampNeg &&& 31 = 3
    · refine z_tI (y := 3) (tgt := 321) hx hb dL_law_40 hy3 (by decide) (by decide) rfl rfl ?_
      exact turn_errorAt hcd hrc hrs (kk d0 hd0) _ _ _ _ _ _ _ _ hd hP hS hz hl
    by_cases hy4 : xs (nI (6 * t)).toNatClampNeg &&& 31 = 4
    · refine z_tI (y := 4) (tgt := 334) hx hb dL_law_40 hy4 (by decide) (by decide) rfl rfl ?_
      exact turn_count hcd hlt h0 h1 hrc hrs (kk d0 hd0) _ _ _ _ _ _ _ _ hd hP hS hz hl
    by_cases hy5 : xs (nI (6 * t)).toNatClampNeg &&& 31 = 5
    · refine z_tI (y := 5) (tgt := 390) hx hb dL_law_40 hy5 (by decide) (by decide) rfl rfl ?_
      exact turn_lot hcd hlt h0 h1 hrc hrs (kk d0 hd0) _ _ _ _ _ _ _ _ hd hP hS hz hl
    by_cases hy6 : xs (nI (6 * t)).toNatClampNeg &&& 31 = 6
    · refine z_tI (y := 6) (tgt := 458) hx hb dL_law_40 hy6 (by decide) (by decide) rfl rfl ?_
      exact turn_merchant hcd hlt h0 h1 hrc hrs (kk d0 hd0) _ _ _ _ _ _ _ _ hd hP hS hz hl
    by_cases hy7 : xs (nI (6 * t)).toNatClampNeg &&& 31 = 7
    · refine z_tI (y := 7) (tgt := 526) hx hb dL_law_40 hy7 (by decide) (by decide) rfl rfl ?_
      exact turn_guild hcd hlt h0 h1 hrc hrs (kk d0 hd0) _ _ _ _ _ _ _ _ hd hP hS hz hl
    by_cases hy8 : xs (nI (6 * t)).toNatClampNeg &&& 31 = 8
    · refine z_tI (y := 8) (tgt := 594) hx hb dL_law_40 hy8 (by decide) (by decide) rfl rfl ?_
      exact turn_order hcd hlt h0 h1 hrc hrs (kk d0 hd0) _ _ _ _ _ _ _ _ hd hP hS hz hl
    by_cases hy9 : xs (nI (6 * t)).toNatClampNeg &&& 31 = 9
    · refine z_tI (y := 9) (tgt := 662) hx hb dL_law_40 hy9 (by decide) (by decide) rfl rfl ?_
      exact turn_owes hcd hlt h0 h1 hrc hrs (kk d0 hd0) _ _ _ _ _ _ _ _ hd hP hS hz hl
    by_cases hy10 : xs (nI (6 * t)).toNatClampNeg &&& 31 = 10
    · refine z_tI (y := 10) (tgt := 730) hx hb dL_law_40 hy10 (by decide) (by decide) rfl rfl ?_
      exact turn_chain hcd hlt h0 h1 hrc hrs (kk d0 hd0) _ _ _ _ _ _ _ _ hd hP hS hz hl
    by_cases hy11 : xs (nI (6 * t)).toNatClampNeg &&& 31 = 11
    · refine z_tI (y := 11) (tgt := 798) hx hb dL_law_40 hy11 (by decide) (by decide) rfl rfl ?_
      exact turn_ring hcd hlt h0 h1 hrc hrs (kk d0 hd0) _ _ _ _ _ _ _ _ hd hP hS hz hl
    by_cases hy12 : xs (nI (6 * t)).toNatClampNeg &&& 31 = 12
    · refine z_tI (y := 12) (tgt := 854) hx hb dL_law_40 hy12 (by decide) (by decide) rfl rfl ?_
      exact turn_setDamp hcd hlt h0 h1 hrc hrs (kk d0 hd0) _ _ _ _ _ _ _ _ hd hP hS hz hl
    by_cases hy13 : xs (nI (6 * t)).toNatClampNeg &&& 31 = 13
    · refine z_tI (y := 13) (tgt := 910) hx hb dL_law_40 hy13 (by decide) (by decide) rfl rfl ?_
      exact turn_lend hcd hlt h0 h1 hrc hrs (kk d0 hd0) _ _ _ _ _ _ _ _ hd hP hS hz hl
    by_cases hy14 : xs (nI (6 * t)).toNatClampNeg &&& 31 = 14
    · refine z_tI (y := 14) (tgt := 990) hx hb dL_law_40 hy14 (by decide) (by decide) rfl rfl ?_
      exact turn_offset hcd hlt h0 h1 hrc hrs (kk d0 hd0) _ _ _ _ _ _ _ _ hd hP hS hz hl
    by_cases hy15 : xs (nI (6 * t)).toNatClampNeg &&& 31 = 15
    · refine z_tI (y := 15) (tgt := 1058) hx hb dL_law_40 hy15 (by decide) (by decide) rfl rfl ?_
      exact turn_dry hcd hlt h0 h1 hrc hrs (kk d0 hd0) _ _ _ _ _ _ _ _ hd hP hS hz hl
    by_cases hy16 : xs (nI (6 * t)).toNatClampNeg &&& 31 = 16
    · refine z_tI (y := 16) (tgt := 1114) hx hb dL_law_40 hy16 (by decide) (by decide) rfl rfl ?_
      exact turn_pass hcd hlt h0 h1 hrc hrs (kk d0 hd0) _ _ _ _ _ _ _ _ hd hP hS hz hl
    by_cases hy17 : xs (nI (6 * t)).toNatClampNeg &&& 31 = 17
    · refine z_tI (y := 17) (tgt := 1170) hx hb dL_law_40 hy17 (by decide) (by decide) rfl rfl ?_
      exact turn_foresee hcd hlt h0 h1 hrc hrs (kk d0 hd0) _ _ _ _ _ _ _ _ hd hP hS hz hl
    by_cases hy18 : xs (nI (6 * t)).toNatClampNeg &&& 31 = 18
    · refine z_tI (y := 18) (tgt := 1238) hx hb dL_law_40 hy18 (by decide) (by decide) rfl rfl ?_
      exact turn_costs hcd hlt h0 h1 hrc hrs (kk d0 hd0) _ _ _ _ _ _ _ _ hd hP hS hz hl
    by_cases hy19 : xs (nI (6 * t)).toNatClampNeg &&& 31 = 19
    · refine z_tI (y := 19) (tgt := 1306) hx hb dL_law_40 hy19 (by decide) (by decide) rfl rfl ?_
      exact turn_richest hcd hlt h0 h1 hrc hrs (kk d0 hd0) _ _ _ _ _ _ _ _ hd hP hS hz hl
    by_cases hy20 : xs (nI (6 * t)).toNatClampNeg &&& 31 = 20
    · refine z_tI (y := 20) (tgt := 1362) hx hb dL_law_40 hy20 (by decide) (by decide) rfl rfl ?_
      exact turn_until hcd hlt h0 h1 hrc hrs (kk d0 hd0) _ _ _ _ _ _ _ _ hd hP hS hz hl
    by_cases hy21 : xs (nI (6 * t)).toNatClampNeg &&& 31 = 21
    · refine z_tI (y := 21) (tgt := 1418) hx hb dL_law_40 hy21 (by decide) (by decide) rfl rfl ?_
      exact turn_mean hd0 hc hrc hrs kk _ _ _ _ _ _ _ _ hd hP hS hz hl
    by_cases hy22 : xs (nI (6 * t)).toNatClampNeg &&& 31 = 22
    · refine z_tI (y := 22) (tgt := 1459) hx hb dL_law_40 hy22 (by decide) (by decide) rfl rfl ?_
      exact turn_digest hcd hrc hrs (kk d0 hd0) _ _ _ _ _ _ _ _ hd hP hS hz hl
    refine z_tD (tgt := 1473) hx hb [0, 1, 2, 3, 4, 5, 6, 7, 8, 9, 10, 11, 12, 13, 14, 15, 16, 17, 18, 19, 20, 21, 22] dL_law_40 (fun q hq => ?_) rfl (by decide) rfl ?_
    · simp only [List.mem_cons, List.not_mem_nil, or_false] at hq
      rcases hq with rfl | rfl | rfl | rfl | rfl | rfl | rfl | rfl | rfl | rfl | rfl | rfl | rfl | rfl | rfl | rfl | rfl | rfl | rfl | rfl | rfl | rfl | rfl <;> assumption
    refine W.widen (k := 800 + 30 * t + 30) (n := 40000 + 2000 * t + 2000) (by omega) (by omega) ?_
    exact kk d0 hd0 _ _ _ _ _ _ _ _ hd hP hS hz hl
theorem law_body (hc : LC Γ p s m args c b L xs) (hlt : l.stackTraces = false) (hz0 : Γ.2.1 = s.heap.size) {ls : Array Slot} (hl : lv_has ls 9 [(0, .ref b)])
    (hend : ∀ (d0 : Drawn) (cells slots : Nat) (H : Heap) (locs : List Loc) (ls : Array Slot), s.drawn.sameBut d0 lw_cs → cells ≤ 601024 → slots ≤ 7293034 → va_S (gA Γ) s.heap H locs → W p l e room_1 (s.setDrawn d0) m args below meth c H locs cells slots Q (F0 m 1480 ls [.int 1])) :
    W p l e room_1 s m args below meth c s.heap [] 0 0 Q (F0 m 0 ls []) := by
  refine W.base ?_
  have hd0 : s.drawn.sameBut s.drawn lw_cs := Drawn.sameBut.refl s.drawn lw_cs
  obtain ⟨hx, hb, hml, hts, hown, hK, hE, hF, hX, hN, hsc, hbl, hbA, hL⟩ := hc.dr s.drawn
  have hP : Wd Γ wv0.1 wv0.2 (fun _ _ => 0) (s.setDrawn s.drawn).heap := fun k e h => by cases h
  have hS : va_S (gA Γ) (s.setDrawn s.drawn).heap (s.setDrawn s.drawn).heap [] := va_S.rf
  have hz : (s.setDrawn s.drawn).heap.size = Γ.2.1 + 0 := hz0.symm
  show W p l e room_1 (s.setDrawn s.drawn) m args below meth c (s.setDrawn s.drawn).heap [] 0 0 Q (F0 m 0 ls [])
  refine w_new (n := 0) hx hb hts hown hK hP hS hE.2.1 nL_8 (Nat.le_of_ble_eq_true rfl) (Nat.le_of_ble_eq_true rfl) hz dL_law_0 fun H1 hz hP hS => ?_
  have hP : Wd Γ (kO wv0 0 10 [2, 2, 2, 2, 2, 2, 2, 2, 0, 0]).1 (kO wv0 0 10 [2, 2, 2, 2, 2, 2, 2, 2, 0, 0]).2 (fun _ _ => 0) H1 := hP
  refine lv_dup hx hb dL_law_3 rfl ?_
  refine w_cK (u := kO wv0 0 10 [2, 2, 2, 2, 2, 2, 2, 2, 0, 0]) (q := wv1) (k := 0) hx hb hml hts hown hK hP hS hz hE (i_Quay (k := 0) (show up wv0.1 0 (some (sO 10 [2, 2, 2, 2, 2, 2, 2, 2, 0, 0])) 0 = _ from up_eq _ _ _) rfl) kX11_init mL_76 rfl rfl hl.1 (Nat.le_of_ble_eq_true rfl) ⟨Nat.le_of_ble_eq_true rfl, Nat.le_of_ble_eq_true rfl⟩ ⟨Nat.le_of_ble_eq_true rfl, Nat.le_of_ble_eq_true rfl⟩ dL_law_4 fun H1 locs1 hz hP hS => ?_
  refine lv_astore_n (lv' := [(1, .ref (Γ.2.1 + 0)), (0, .ref b)]) hx hb dL_law_7 rfl hl (by decide) rfl fun ls hl => ?_
  have hz : H1.size = Γ.2.1 + 149 := hz
  refine w_new (n := 149) hx hb hts hown hK hP hS hE.2.1 nL_77 (Nat.le_of_ble_eq_true rfl) (Nat.le_of_ble_eq_true rfl) hz dL_law_8 fun H1 hz hP hS => ?_
  have hP : Wd Γ (kO wv1 149 13 [0, 2, 0, 0, 0, 0, 2, 2, 2, 2, 0, 2]).1 (kO wv1 149 13 [0, 2, 0, 0, 0, 0, 2, 2, 2, 2, 0, 2]).2 (fun _ _ => 0) H1 := hP
  refine lv_dup hx hb dL_law_11 rfl ?_
  refine w_cK (u := kO wv1 149 13 [0, 2, 0, 0, 0, 0, 2, 2, 2, 2, 0, 2]) (q := wv2) (k := 149) hx hb hml hts hown hK hP hS hz hE (i_Model (k := 149) (show up wv1.1 149 (some (sO 13 [0, 2, 0, 0, 0, 0, 2, 2, 2, 2, 0, 2])) 149 = _ from up_eq _ _ _) (by decide) rfl) kX14_init mL_79 rfl rfl hl.1 (Nat.le_of_ble_eq_true rfl) ⟨Nat.le_of_ble_eq_true rfl, Nat.le_of_ble_eq_true rfl⟩ ⟨Nat.le_of_ble_eq_true rfl, Nat.le_of_ble_eq_true rfl⟩ dL_law_12 fun H1 locs1 hz hP hS => ?_
  refine lv_astore_n (lv' := [(2, .ref (Γ.2.1 + 149)), (1, .ref (Γ.2.1 + 0)), (0, .ref b)]) hx hb dL_law_15 rfl hl (by decide) rfl fun ls hl => ?_
  have hz : H1.size = Γ.2.1 + 194 := hz
  refine lv_iconst (v := 1) hx hb dL_law_16 rfl ?_
  refine w_newl (n := 194) (N := 1) hx hb hts hK hP hS ac_long (by decide) rfl (by decide) (Nat.le_of_ble_eq_true rfl) (Nat.le_of_ble_eq_true rfl) hz dL_law_17 fun H1 hz hP hS => ?_
  refine lv_astore_n (lv' := [(3, .ref (Γ.2.1 + 194)), (2, .ref (Γ.2.1 + 149)), (1, .ref (Γ.2.1 + 0)), (0, .ref b)]) hx hb dL_law_19 rfl hl (by decide) rfl fun ls hl => ?_
  refine lv_iconst (v := nI (6 * 0)) hx hb dL_law_20 rfl ?_
  refine lv_istore (lv' := LL Γ b (nI (6 * 0))) hx hb dL_law_21 hl (by decide) rfl fun ls hl => ?_
  refine W.widen (k := 800 + 30 * 0) (n := 40000 + 2000 * 0) (Nat.le_of_ble_eq_true rfl) (Nat.le_of_ble_eq_true rfl) ?_
  have hd : LD wsh wv2.2 195 151 := ⟨w_quay, w_model, up_eq _ _ _, w_inv, Nat.le_refl _, by decide⟩
  exact law_loop hc hlt hend 600 0 rfl s.drawn hd0 (by decide) _ _ _ _ _ _ _ _ hd hP hS hz hl
end LP
