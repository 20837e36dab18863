/-! SIM: its constructor -/
section JE
variable {l : Launch} {Γ : Cx} {sh : Sh} {v : Va} {w : Vl} {n : Nat}
/-- what the entry says of arrays of arrays -/
def ER (Γ : Cx) : Prop := (Cond.arrayOver (.array .int)).before #[] (cx0 Γ) = true
theorem ER.at {s : State} {args : Array Value} (h : ER Γ) (hE : EN Γ sh n s) : (Cond.arrayOver (.array .int)).before args s = true := by
  have h1 : (Cond.arrayOver (.array .int)).before #[] ((cx0 Γ).setVm s.vm) = true := by rw [Cond.arrayOver_setVmC hE.1.alike]; exact h
  exact h1
abbrev oSim (n : Nat) : Sp := sO 11 [0, 0, n + 3, n + 1 + 3, n + 2 + 3, n + 3 + 3, n + 4 + 3, n + 5 + 3, n + 6 + 3]
def SMI (sh : Sh) (v : Va) (n t : Nat) (u : Wt) : Prop := u.2.2 = n + 7 ∧ (∀ q, q ≠ t → q < n → u.1 q = sh q ∧ u.2.1 q = v q) ∧ u.1 t = some (oSim n) ∧ u.2.1 t 0 = v t 0 ∧ u.2.1 t 1 = 3 ∧ u.1 n = some (sA 0) ∧ (∀ i, i < 5 → u.1 (n + 1 + i) = some (sR 0 (fun _ => none))) ∧ u.1 (n + 6) = some (sA 3) ∧ u.2.1 (n + 6) = fun _ => 0
theorem c_Sim_init {t : Nat} (ht : sh t = some (sO 11 [0, 0, 2, 2, 2, 2, 2, 2, 2])) (hR : ER Γ) (hnb : n ≤ 1500000) : MetTV l yX12_init cX12_init 1 none 1 7 3 Γ sh v w n [.ref (Γ.2.1 + t)] (SMI sh v n t) := by
  refine w_start pn_X12 (Nat.le_of_ble_eq_true rfl) fun p e s m args below meth c hx hb hml hret hlk hnm hts hown hK hP hz hE hS ls hl => ?_
  have hd : DM sh n := hP.dm hz
  have hG : GR sh n sh n := GR.rf
  have htn : t < n := hd _ _ ht
  refine lv_aload_n hx hb dX12_init_0 rfl (lv_at hl 0 rfl) ?_
  refine W.objInit hx hb hown (hts _ xoX12_1) (hts _ xoi) (hts _ xoc) rfl (by rw [hml]; exact hl.1) rfl dX12_init_1 (Nat.le_of_ble_eq_true rfl) (Nat.le_of_ble_eq_true rfl) ?_
  refine lv_aload_n hx hb dX12_init_4 rfl (lv_at hl 0 rfl) ?_
  refine lv_iconst (v := 3) hx hb dX12_init_5 rfl ?_
  refine t_pi (k := t) hx hb hts hown hK hP hS (gA_in ht) hz fX12_7 ht rfl rfl dX12_init_6 fun H1 locs1 hz hP hS => ?_
  refine lv_aload_n hx hb dX12_init_9 rfl (lv_at hl 0 rfl) ?_
  refine lv_iconst (v := 0) hx hb dX12_init_10 rfl ?_
  refine w_newa (n := n) (N := 0) hx hb hts hK hP hS ac_int (by decide) rfl (by omega) (show 0 + 1 ≤ 7 by omega) (Nat.le_of_ble_eq_true rfl) hz dX12_init_11 fun H1 hz hP hS => ?_
  refine w_put (k := t) hx hb hts hown hK hP hS (gA_in (sh := sh) ht) fX12_13 ((up_ne (show t ≠ n by omega)).trans ht) rfl (cd := n + 3) (y := 0) rfl rfl rfl dX12_init_13 fun H1 locs1 hz1 hP hS => ?_
  replace hz := hz1.trans hz
  clear hz1
  refine lv_aload_n hx hb dX12_init_16 rfl (lv_at hl 0 rfl) ?_
  refine lv_iconst (v := 0) hx hb dX12_init_17 rfl ?_
  refine w_newR (n := n + 1) (N := 0) hx hb hts hown hK hP hS clX12_17 (hR.at hE) (by decide) rfl (by omega) (show 0 + 1 + 1 ≤ 7 by omega) (Nat.le_of_ble_eq_true rfl) hz dX12_init_18 fun H1 hz hP hS => ?_
  refine w_put (k := t) hx hb hts hown hK hP hS (gA_in (sh := sh) ht) fX12_18 ((up_ne (show t ≠ n + 1 by omega)).trans (up_eq _ _ _)) rfl (cd := n + 1 + 3) (y := 0) rfl rfl rfl dX12_init_21 fun H1 locs1 hz1 hP hS => ?_
  replace hz := hz1.trans hz
  clear hz1
  refine lv_aload_n hx hb dX12_init_24 rfl (lv_at hl 0 rfl) ?_
  refine lv_iconst (v := 0) hx hb dX12_init_25 rfl ?_
  refine w_newR (n := n + 2) (N := 0) hx hb hts hown hK hP hS clX12_17 (hR.at hE) (by decide) rfl (by omega) (show 0 + 1 + 1 + 1 ≤ 7 by omega) (Nat.le_of_ble_eq_true rfl) hz dX12_init_26 fun H1 hz hP hS => ?_
  refine w_put (k := t) hx hb hts hown hK hP hS (gA_in (sh := sh) ht) fX12_22 ((up_ne (show t ≠ n + 2 by omega)).trans (up_eq _ _ _)) rfl (cd := n + 2 + 3) (y := 0) rfl rfl rfl dX12_init_29 fun H1 locs1 hz1 hP hS => ?_
  replace hz := hz1.trans hz
  clear hz1
  refine lv_aload_n hx hb dX12_init_32 rfl (lv_at hl 0 rfl) ?_
  refine lv_iconst (v := 0) hx hb dX12_init_33 rfl ?_
  refine w_newR (n := n + 3) (N := 0) hx hb hts hown hK hP hS clX12_17 (hR.at hE) (by decide) rfl (by omega) (show 0 + 1 + 1 + 1 + 1 ≤ 7 by omega) (Nat.le_of_ble_eq_true rfl) hz dX12_init_34 fun H1 hz hP hS => ?_
  refine w_put (k := t) hx hb hts hown hK hP hS (gA_in (sh := sh) ht) fX12_25 ((up_ne (show t ≠ n + 3 by omega)).trans (up_eq _ _ _)) rfl (cd := n + 3 + 3) (y := 0) rfl rfl rfl dX12_init_37 fun H1 locs1 hz1 hP hS => ?_
  replace hz := hz1.trans hz
  clear hz1
  refine lv_aload_n hx hb dX12_init_40 rfl (lv_at hl 0 rfl) ?_
  refine lv_iconst (v := 0) hx hb dX12_init_41 rfl ?_
  refine w_newR (n := n + 4) (N := 0) hx hb hts hown hK hP hS clX12_17 (hR.at hE) (by decide) rfl (by omega) (show 0 + 1 + 1 + 1 + 1 + 1 ≤ 7 by omega) (Nat.le_of_ble_eq_true rfl) hz dX12_init_42 fun H1 hz hP hS => ?_
  refine w_put (k := t) hx hb hts hown hK hP hS (gA_in (sh := sh) ht) fX12_28 ((up_ne (show t ≠ n + 4 by omega)).trans (up_eq _ _ _)) rfl (cd := n + 4 + 3) (y := 0) rfl rfl rfl dX12_init_45 fun H1 locs1 hz1 hP hS => ?_
  replace hz := hz1.trans hz
  clear hz1
  refine lv_aload_n hx hb dX12_init_48 rfl (lv_at hl 0 rfl) ?_
  refine lv_iconst (v := 0) hx hb dX12_init_49 rfl ?_
  refine w_newR (n := n + 5) (N := 0) hx hb hts hown hK hP hS clX12_17 (hR.at hE) (by decide) rfl (by omega) (show 0 + 1 + 1 + 1 + 1 + 1 + 1 ≤ 7 by omega) (Nat.le_of_ble_eq_true rfl) hz dX12_init_50 fun H1 hz hP hS => ?_
  refine w_put (k := t) hx hb hts hown hK hP hS (gA_in (sh := sh) ht) fX12_31 ((up_ne (show t ≠ n + 5 by omega)).trans (up_eq _ _ _)) rfl (cd := n + 5 + 3) (y := 0) rfl rfl rfl dX12_init_53 fun H1 locs1 hz1 hP hS => ?_
  replace hz := hz1.trans hz
  clear hz1
  refine lv_aload_n hx hb dX12_init_56 rfl (lv_at hl 0 rfl) ?_
  refine lv_iconst (v := 3) hx hb dX12_init_57 rfl ?_
  refine w_newa (n := n + 6) (N := 3) hx hb hts hK hP hS ac_int (by decide) rfl (by omega) (show 0 + 1 + 1 + 1 + 1 + 1 + 1 + 1 ≤ 7 by omega) (Nat.le_of_ble_eq_true rfl) hz dX12_init_58 fun H1 hz hP hS => ?_
  refine w_put (k := t) hx hb hts hown hK hP hS (gA_in (sh := sh) ht) fX12_34 ((up_ne (show t ≠ n + 6 by omega)).trans (up_eq _ _ _)) rfl (cd := n + 6 + 3) (y := 0) rfl rfl rfl dX12_init_60 fun H1 locs1 hz1 hP hS => ?_
  replace hz := hz1.trans hz
  clear hz1
  refine W.widen (k := 7) (n := 3) (Nat.le_of_ble_eq_true rfl) (Nat.le_of_ble_eq_true rfl) ?_
  refine t_vretW (post := SMI sh v n t) hx hb hret hlk hK hP hS hz hE (by omega) (fun k e hk hw => ?_) ⟨rfl, fun q hq hqn => ⟨?_, ?_⟩, ?_, ?_, ?_, ?_, fun i hi => ?_, ?_, ?_⟩ dX12_init_63
  all_goals (try dsimp only)
  · have hkn := hd _ _ hk
    by_cases h1 : k = t
    · subst h1; exact ⟨_, up_eq _ _ _, trivial⟩
    · refine ⟨e, ?_, hw⟩
      repeat rw [up_ne (by omega)]
      exact hk
  · repeat rw [up_ne (by omega)]
  · repeat rw [up_ne (by omega)]
    exact up_ne hq
  · exact up_eq _ _ _
  · repeat (first | rw [up_eq] | rw [upd_ne (by decide)] | rw [up_ne (by omega)])
    unfold pu
    rw [up_eq, upd_ne (by decide)]
  · repeat (first | rw [up_eq] | rw [upd_ne (by decide)] | rw [up_ne (by omega)])
    unfold pu
    rw [up_eq, upd_eq]
  · repeat (first | rw [up_ne (by omega)] | rw [up_eq])
  · have h5 : i = 0 ∨ i = 1 ∨ i = 2 ∨ i = 3 ∨ i = 4 := by omega
    rcases h5 with rfl | rfl | rfl | rfl | rfl
    all_goals (repeat (first | rw [up_ne (by omega)] | rw [up_eq]))
  · repeat (first | rw [up_ne (by omega)] | rw [up_eq])
  · repeat (first | rw [up_ne (by omega)] | rw [up_eq])
end JE
