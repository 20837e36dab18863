/-! LIST, whole -/
section JE
variable {l : Launch} {Γ : Cx} {sh : Sh} {v : Va} {w : Vl} {n : Nat}
/-- how many there are -/
def liL (L0 : Nat) (xs : Nat → Int32) : Nat := 1 + bel (cel L0 xs 0) 3
def liG (L0 : Nat) (xs : Nat → Int32) : Nat := 1 + bel (cel L0 xs 1) 3
def liM (L0 : Nat) (xs : Nat → Int32) : Nat := 2 + bel (cel L0 xs 2) 4
def liT (L0 : Nat) (xs : Nat → Int32) : Nat := 1 + bel (cel L0 xs 4) 5
def liO (L0 : Nat) (xs : Nat → Int32) : Nat := bel (cel L0 xs 6) 8
def liX (L0 : Nat) (xs : Nat → Int32) : List Int32 := orT (liG L0 xs) (liM L0 xs) (liT L0 xs) (ltT (liL L0 xs) (liM L0 xs) (meT (guT (spT L0 xs (liL L0 xs)) L0 xs (liG L0 xs)) L0 xs (liM L0 xs)) L0 xs (liT L0 xs)) L0 xs (liO L0 xs)
theorem li_le {L0 : Nat} {xs : Nat → Int32} : (1 ≤ liL L0 xs ∧ liL L0 xs ≤ 3) ∧ (1 ≤ liG L0 xs ∧ liG L0 xs ≤ 3) ∧ (2 ≤ liM L0 xs ∧ liM L0 xs ≤ 5) ∧ (1 ≤ liT L0 xs ∧ liT L0 xs ≤ 5) ∧ liO L0 xs ≤ 7 := by
  have h1 := bel_lt (x := cel L0 xs 0) (n := 3) (by decide)
  have h2 := bel_lt (x := cel L0 xs 1) (n := 3) (by decide)
  have h3 := bel_lt (x := cel L0 xs 2) (n := 4) (by decide)
  have h4 := bel_lt (x := cel L0 xs 4) (n := 5) (by decide)
  have h5 := bel_lt (x := cel L0 xs 6) (n := 8) (by decide)
  unfold liL liG liM liT liO
  omega
/-- the object that list makes -/
def LIS (L0 : Nat) (xs : Nat → Int32) (r : Nat) (P : Pfn) : Prop := ∃ (pl pg pm po pt pr pd : Nat) (gb mb tb rb : Nat → Nat) (gk gg gm gt gr : Nat → Int32),
  P r = some (sO 11 [0, 0, pl + 3, pg + 3, pm + 3, po + 3, pt + 3, pr + 3, pd + 3], gk) ∧ gk 0 = 0 ∧ gk 1 = 3 ∧ P pl = some (sA (liL L0 xs), loG L0 xs (liL L0 xs)) ∧ P pd = some (sA 3, fun _ => 0) ∧
  P pg = some (sR (liG L0 xs) (rfs (liG L0 xs) gb), gg) ∧ P pm = some (sR (liM L0 xs) (rfs (liM L0 xs) mb), gm) ∧ P po = some (sR (liM L0 xs) (rfs (liM L0 xs) fun i => po + 1 + i), fun _ => 0) ∧ P pt = some (sR (liT L0 xs) (rfs (liT L0 xs) tb), gt) ∧ P pr = some (sR (liO L0 xs) (rfs (liO L0 xs) rb), gr) ∧
  (∀ i, i < liG L0 xs → P (gb i) = some (sA 3, guG L0 xs i) ∧ pg < gb i ∧ gb i < pm ∧ ∀ j, j < i → gb j < gb i) ∧
  (∀ i, i < liM L0 xs → P (mb i) = some (sA 2, meG L0 xs i) ∧ pm < mb i ∧ mb i < pt ∧ (∀ j, j < i → mb j < mb i) ∧ mb i ≠ po ∧ ∀ j, j < liM L0 xs → mb i ≠ po + 1 + j) ∧
  (∀ i, i < liM L0 xs → P (po + 1 + i) = some (sA (liM L0 xs), fun _ => 0)) ∧
  (∀ i, i < liT L0 xs → P (tb i) = some (sA 6, ltG (liL L0 xs) (liM L0 xs) L0 xs i) ∧ pt < tb i ∧ tb i < pr ∧ ∀ j, j < i → tb j < tb i) ∧
  (∀ i, i < liO L0 xs → P (rb i) = some (sA 12, orG (liG L0 xs) (liM L0 xs) (liT L0 xs) L0 xs i) ∧ pr < rb i ∧ ∀ j, j < i → rb j < rb i) ∧
  r < pd ∧ pd < pl ∧ pl < pg ∧ pg < pm ∧ pm < po ∧ po + liM L0 xs < pt ∧ pt < pr
def LIP (sh : Sh) (v : Va) (n kt p0 L0 : Nat) (xs : Nat → Int32) (r : Nat) (u : Wt) : Prop := GR sh n u.1 u.2.2 ∧ u.2.2 ≤ n + 1200 ∧ (∀ q, q < n → q ≠ kt → q ≠ p0 → u.2.1 q = v q) ∧ TXT n kt p0 (liX L0 xs) 1504 u.1 u.2.1 ∧ ∃ P, SN n u.1 u.2.1 P ∧ LIS L0 xs r P
theorem c_L_list {kt p0 cap0 b0 L0 d1 d2 : Nat} {xs : Nat → Int32} (hCE : EC Γ sh d1 d2) (hELE : EL Γ sh) (hER : ER Γ) (hB : SCR Γ sh b0 L0 xs) (hT0 : SBc sh v kt p0 cap0 []) (hnb : n ≤ 880000) : MetTR l yL_list cL_list 11 (some (FieldType.object "SpiceQuayLaw$Sim")) 9 1500 3000000 Γ sh v w n [.ref b0, .ref (Γ.2.1 + kt)] (fun r u => LIP sh v n kt p0 L0 xs r u) := by
  refine w_start pn_L (Nat.le_of_ble_eq_true rfl) fun p e s m args below meth c hx hb hml hret hlk hnm hts hown hK hP hz hE hS ls hl => ?_
  have hd : DM sh n := hP.dm hz
  have hG : GR sh n sh n := GR.rf
  have hM : MC Γ p s m args c cL_list 11 d1 d2 sh n := ⟨hx, hb, hml, hts, hown, hK, hE, hd, hCE, hELE⟩
  have hkt : kt < n := hd _ _ hT0.1
  have hp0 : p0 < n := hd _ _ hT0.2.2.2.2.1
  have hR8 : 8 ≤ (rmc 9 1500 3000000).frames ∧ 310 ≤ (rmc 9 1500 3000000).locals := ⟨Nat.le_of_ble_eq_true rfl, Nat.le_of_ble_eq_true rfl⟩
  have hR6 : 6 ≤ (rmc 9 1500 3000000).frames ∧ 230 ≤ (rmc 9 1500 3000000).locals := ⟨Nat.le_of_ble_eq_true rfl, Nat.le_of_ble_eq_true rfl⟩
  have hR1 : 1 ≤ (rmc 9 1500 3000000).frames ∧ 21 ≤ (rmc 9 1500 3000000).locals := ⟨Nat.le_of_ble_eq_true rfl, Nat.le_of_ble_eq_true rfl⟩
  have hRc : (rmc 9 1500 3000000).cells = 1500 := rfl
  have hRs : (rmc 9 1500 3000000).slots = 3000000 := rfl
  generalize rmc 9 1500 3000000 = R at hR8 hR6 hR1 hRc hRs ⊢
  obtain ⟨hl1, hl2, hl3, hl4, hl5⟩ := li_le (L0 := L0) (xs := xs)
  have hL : LST Γ s sh v n w kt p0 0 [] 0 (fun _ => none) sh v n s.heap [] := ⟨⟨hG, hz, hP, hS⟩, Nat.le_refl _, fun _ _ _ _ => rfl, ⟨Nat.le_refl _, fun b hb => absurd hb List.not_mem_nil, p0, cap0, hT0, Or.inl rfl⟩, fun q e g hq => by cases hq⟩
  refine w_new (n := n) hx hb hts hown hK hP hS nL_114 (by omega) (by omega) hz dL_list_0 fun H1 hz hP hS => ?_
  have hL := hL.new (e0 := sO 11 [0, 0, 2, 2, 2, 2, 2, 2, 2]) rfl hkt hp0 hz hP hS
  refine lv_dup hx hb dL_list_3 rfl ?_
  refine t_callv (Bs := []) (w_rI (k := n) hx hb hml hts hown hK (c_Sim_init (up_eq _ _ _) hER (by omega)) rfl rfl kX12_init mL_116 PN.blind (t_pn hK hd hL.1.1 hE hS hP hz) rfl hl.1 rfl (Nat.le_of_ble_eq_true rfl) ⟨by have h9 := hR6.1; show 1 + 1 ≤ _; omega, by have h9 := hR6.2; show 8 + (1 + 11) + 40 * 1 ≤ _; omega⟩ ⟨by omega, by omega⟩ dL_list_4) hL.1.1 hS fun u H1 locs1 hp1 hz hP hS => ?_
  have hL := hL.sim hkt hp0 (up_eq _ _ _) hp1 hz hP hS
  rw [up_up] at hL
  obtain ⟨sh1, v1, n1⟩ := u
  dsimp only at hL
  have hg0 : v1 n 0 = 0 ∧ v1 n 1 = 3 := ⟨hp1.2.2.2.1.trans (by rw [up_eq]), hp1.2.2.2.2.1⟩
  generalize v1 n = gk at hL hg0
  generalize hP0 : up (up (fun _ => none) n (some (oSim (n + 1), gk))) (n + 1 + 6) (some (sA 3, fun _ => 0)) = P at hL
  have hks : P n = some (sO 11 [0, 0, n + 1 + 3, n + 1 + 1 + 3, n + 1 + 2 + 3, n + 1 + 3 + 3, n + 1 + 4 + 3, n + 1 + 5 + 3, n + 1 + 6 + 3], gk) := by rw [← hP0, up_ne (by omega), up_eq]
  have hpd : P (n + 1 + 6) = some (sA 3, fun _ => 0) := by rw [← hP0, up_eq]
  have hf0 : 8 ≤ R.cells ∧ 12 ≤ R.slots := ⟨by omega, by omega⟩
  refine W.widen (k := 8) (n := 12) (by omega) (by omega) ?_
  refine lv_astore_n (lv' := [(2, .ref (Γ.2.1 + n)), (0, .ref b0), (1, .ref (Γ.2.1 + kt))]) hx hb dL_list_7 rfl hl (by decide) rfl fun ls hl => ?_
  refine lv_aload_n hx hb dL_list_8 rfl (lv_at hl 0 rfl) ?_
  refine lv_iconst (v := 1) hx hb dL_list_9 rfl ?_
  refine lv_aload_n hx hb dL_list_10 rfl (lv_at hl 1 rfl) ?_
  refine lv_iconst (v := 0) hx hb dL_list_11 rfl ?_
  refine l_cell (q := 0) hM hL hl.1 hB (by omega) hR1 (Nat.le_of_ble_eq_true rfl) hf0 dL_list_12 fun H1 locs1 hL => ?_
  refine lv_iconst (v := 3) hx hb dL_list_15 rfl ?_
  refine l_below (b9 := 3) hM hL hl.1 (by omega) (by omega) hR1 (Nat.le_of_ble_eq_true rfl) hf0 dL_list_16 fun H1 locs1 hL => ?_
  refine lv_iadd hx hb dL_list_19 ?_
  refine t_top (x' := nI (liL L0 xs)) (nI_add 1 _) ?_
  refine l_new (M := liL L0 xs) hM hL hkt hp0 (nI_pos (by omega)) (nI_clamp (by omega)) (by omega) ⟨by omega, by omega⟩ dL_list_20 fun sh1 v1 pl H1 locs1 hk0 hPk hL hkn => ?_
  have hlpl : n + 1 + 6 < pl := by omega
  have hnpl : n ≠ pl := fun q => by rw [← q, hks] at hPk; cases hPk
  refine l_put (k := n) (r := pl) (j := 2) hM hL ((up_ne hnpl).trans hks) fL_127 rfl rfl rfl dL_list_22 fun sh1 v1 H1 locs1 hL => ?_
  obtain ⟨P1, hP1⟩ : ∃ Pz : Pfn, Pz = up (up P pl (some (sA (liL L0 xs), fun _ => 0))) n (some (sO 11 (List.set [0, 0, n + 1 + 3, n + 1 + 1 + 3, n + 1 + 2 + 3, n + 1 + 3 + 3, n + 1 + 4 + 3, n + 1 + 5 + 3, n + 1 + 6 + 3] 2 (pl + 3)), upd gk 2 0)) := ⟨_, rfl⟩
  rw [← hP1] at hL
  have hks9 : P1 n = some (sO 11 [0, 0, pl + 3, n + 1 + 1 + 3, n + 1 + 2 + 3, n + 1 + 3 + 3, n + 1 + 4 + 3, n + 1 + 5 + 3, n + 1 + 6 + 3], upd gk 2 0) := by rw [hP1]; exact up_eq _ _ _
  have hpl : P1 pl = some (sA (liL L0 xs), fun _ => 0) := by rw [hP1, up_ne (Ne.symm hnpl), up_eq]
  have hold1 : ∀ q e, P q = some e → q ≠ n → P1 q = some e := fun q e h1 h2 => by rw [hP1, up_ne h2, up_ne (fun q9 => by rw [q9, hPk] at h1; cases h1)]; exact h1
  have hgn1 : upd gk 2 0 0 = 0 ∧ upd gk 2 0 1 = 3 := ⟨(upd_ne (by decide)).trans hg0.1, (upd_ne (by decide)).trans hg0.2⟩
  clear hks hg0
  generalize upd gk 2 0 = gk1 at hks9 hgn1
  have hks := hks9
  have hg0 := hgn1
  clear hks9
  refine lv_iconst (v := 0) hx hb dL_list_25 rfl ?_
  refine lv_istore_n (lv' := [(3, .int 0), (2, .ref (Γ.2.1 + n)), (0, .ref b0), (1, .ref (Γ.2.1 + kt))]) hx hb dL_list_26 rfl hl (by decide) rfl fun ls hl => ?_
  have e0 : loG L0 xs 0 = fun _ => 0 := funext fun j => if_neg (Nat.not_lt_zero _)
  have e1 : up P1 pl (some (sA (liL L0 xs), loG L0 xs 0)) = P1 := by rw [e0, ← hpl]; exact up_id P1 pl
  have hpd1 : P1 (n + 1 + 6) = some (sA 3, fun _ => 0) := hold1 _ _ hpd (by omega)
  refine W.widen (k := 9 + 5 * 0) (n := 20 + 30000 * 0) (by omega) (by omega) ?_
  refine li_1 (C := 9) (cells := 9) (slots := 20) (ks := n) (pl := pl) (P := P1) hM hB hkt hp0 (by omega) (by omega) hR6 hR1 (by omega) (by omega) hks rfl hnpl (fun sh1 v1 n1 H1 locs1 ls hl hL => ?_) (liL L0 xs) 0 (Nat.zero_add _) _ _ _ _ _ _ (lv_sub hl [0, 2, 3, 1] rfl) (by rw [e1]; exact hL.on (by omega) (by omega))
  obtain ⟨P2, hP2⟩ : ∃ Pz : Pfn, Pz = up P1 pl (some (sA (liL L0 xs), loG L0 xs (liL L0 xs))) := ⟨_, rfl⟩
  rw [← hP2] at hL
  have hks2 : P2 n = P1 n := by rw [hP2, up_ne hnpl]
  rw [← hks2] at hks
  have hpl2 : P2 pl = some (sA (liL L0 xs), loG L0 xs (liL L0 xs)) := by rw [hP2, up_eq]
  have hpd2 : P2 (n + 1 + 6) = some (sA 3, fun _ => 0) := by rw [hP2, up_ne (by omega)]; exact hpd1
  refine W.widen (k := 24) (n := 90020) (by omega) (by omega) ?_
  have hL := hL.on (C1 := 24) (N1 := 66) (by omega) (by omega)
  have hf0 : 24 ≤ R.cells ∧ 90020 ≤ R.slots := ⟨by omega, by omega⟩
  refine lv_aload_n hx hb dL_list_94 rfl (lv_at hl 2 rfl) ?_
  refine lv_iconst (v := 1) hx hb dL_list_95 rfl ?_
  refine lv_aload_n hx hb dL_list_96 rfl (lv_at hl 0 rfl) ?_
  refine lv_iconst (v := 1) hx hb dL_list_97 rfl ?_
  refine l_cell (q := 1) hM hL hl.1 hB (by omega) hR1 (Nat.le_of_ble_eq_true rfl) hf0 dL_list_98 fun H1 locs1 hL => ?_
  refine lv_iconst (v := 3) hx hb dL_list_101 rfl ?_
  refine l_below (b9 := 3) hM hL hl.1 (by omega) (by omega) hR1 (Nat.le_of_ble_eq_true rfl) hf0 dL_list_102 fun H1 locs1 hL => ?_
  refine lv_iadd hx hb dL_list_105 ?_
  refine t_top (x' := nI (liG L0 xs)) (nI_add 1 _) ?_
  have hlt9 : pl < n1 := (hL.lo hpl2).2
  refine l_newR (M := liG L0 xs) hM hER hL hkt hp0 clL_137 (nI_pos (by omega)) (nI_clamp (by omega)) (by omega) ⟨by omega, by omega⟩ dL_list_106 fun sh1 v1 pg H1 locs1 hk0 hPk hL hkn => ?_
  have hplpg : pl < pg := by omega
  have hnpg : n ≠ pg := fun q => by rw [← q, hks] at hPk; cases hPk
  refine l_put (k := n) (r := pg) (j := 3) hM hL ((up_ne hnpg).trans hks) fL_138 rfl rfl rfl dL_list_109 fun sh1 v1 H1 locs1 hL => ?_
  obtain ⟨P3, hP3⟩ : ∃ Pz : Pfn, Pz = up (up P2 pg (some (sR (liG L0 xs) (fun _ => none), fun _ => 0))) n (some (sO 11 (List.set [0, 0, pl + 3, n + 1 + 1 + 3, n + 1 + 2 + 3, n + 1 + 3 + 3, n + 1 + 4 + 3, n + 1 + 5 + 3, n + 1 + 6 + 3] 3 (pg + 3)), upd gk1 3 0)) := ⟨_, rfl⟩
  rw [← hP3] at hL
  have hks9 : P3 n = some (sO 11 [0, 0, pl + 3, pg + 3, n + 1 + 2 + 3, n + 1 + 3 + 3, n + 1 + 4 + 3, n + 1 + 5 + 3, n + 1 + 6 + 3], upd gk1 3 0) := by rw [hP3]; exact up_eq _ _ _
  have hpg : P3 pg = some (sR (liG L0 xs) (fun _ => none), fun _ => 0) := by rw [hP3, up_ne (Ne.symm hnpg), up_eq]
  have hold3 : ∀ q e, P2 q = some e → q ≠ n → P3 q = some e := fun q e h1 h2 => by rw [hP3, up_ne h2, up_ne (fun q9 => by rw [q9, hPk] at h1; cases h1)]; exact h1
  have hgn3 : upd gk1 3 0 0 = 0 ∧ upd gk1 3 0 1 = 3 := ⟨(upd_ne (by decide)).trans hg0.1, (upd_ne (by decide)).trans hg0.2⟩
  clear hks hg0
  generalize upd gk1 3 0 = gk3 at hks9 hgn3
  have hks := hks9
  have hg0 := hgn3
  clear hks9
  have hpl3 : P3 pl = some (sA (liL L0 xs), loG L0 xs (liL L0 xs)) := hold3 _ _ hpl2 (by omega)
  have hpd3 : P3 (n + 1 + 6) = some (sA 3, fun _ => 0) := hold3 _ _ hpd2 (by omega)
  refine lv_iconst (v := 0) hx hb dL_list_112 rfl ?_
  refine lv_istore_n (lv' := [(3, .int 0), (0, .ref b0), (1, .ref (Γ.2.1 + kt)), (2, .ref (Γ.2.1 + n))]) hx hb dL_list_113 rfl hl (by decide) rfl fun ls hl => ?_
  have er : ∀ b : Nat → Nat, rfs 0 b = fun _ => none := fun b => funext fun j => if_neg (Nat.not_lt_zero _)
  refine W.widen (k := 30 + 8 * 0) (n := 90100 + 50000 * 0) (by omega) (by omega) ?_
  refine li_2 (C := 30) (cells := 30) (slots := 90100) (N := 66) (T := spT L0 xs (liL L0 xs)) (ks := n) (pg := pg) (P0 := P3) hM hER hB hkt hp0 (by omega) (by omega) (by omega) hR6 hR1 (by omega) (by omega) rfl hnpg (fun P4 gb sh1 v1 n1 H1 locs1 ls hks hpg hgw hgo hl hL => ?_) (liG L0 xs) 0 (Nat.zero_add _) _ (fun _ => 0) _ _ _ _ _ _ hks (by rw [er]; exact hpg) (fun i hi => absurd hi (Nat.not_lt_zero _)) (fun q e h _ => h) (lv_sub hl [0, 1, 2, 3] rfl) (hL.on (by omega) (by omega))
  have hpl4 := hgo _ _ hpl3 (by omega)
  have hpd4 := hgo _ _ hpd3 (by omega)
  refine W.widen (k := 54) (n := 240100) (by omega) (by omega) ?_
  have hL := hL.on (C1 := 54) (N1 := 159) (by omega) (by omega)
  have hf0 : 54 ≤ R.cells ∧ 240100 ≤ R.slots := ⟨by omega, by omega⟩
  refine lv_iconst (v := 2) hx hb dL_list_242 rfl ?_
  refine lv_aload_n hx hb dL_list_243 rfl (lv_at hl 0 rfl) ?_
  refine lv_iconst (v := 2) hx hb dL_list_244 rfl ?_
  refine l_cell (q := 2) hM hL hl.1 hB (by omega) hR1 (Nat.le_of_ble_eq_true rfl) hf0 dL_list_245 fun H1 locs1 hL => ?_
  refine lv_iconst (v := 4) hx hb dL_list_248 rfl ?_
  refine l_below (b9 := 4) hM hL hl.1 (by omega) (by omega) hR1 (Nat.le_of_ble_eq_true rfl) hf0 dL_list_249 fun H1 locs1 hL => ?_
  refine lv_iadd hx hb dL_list_252 ?_
  refine t_top (x' := nI (liM L0 xs)) (nI_add 2 _) ?_
  refine lv_istore_n (lv' := [(3, .int (nI (liM L0 xs))), (0, .ref b0), (1, .ref (Γ.2.1 + kt)), (2, .ref (Γ.2.1 + n))]) hx hb dL_list_253 rfl hl (by decide) rfl fun ls hl => ?_
  refine lv_aload_n hx hb dL_list_254 rfl (lv_at hl 3 rfl) ?_
  refine lv_iload_n hx hb dL_list_255 rfl (lv_at hl 0 rfl) ?_
  have hltg : ∀ i, i < liG L0 xs → gb i < n1 := fun i hi => (hL.lo (hgw i hi).2.1).2
  have hlt9 : pg < n1 := (hL.lo hpg).2
  refine l_newR (M := liM L0 xs) hM hER hL hkt hp0 clL_137 (nI_pos (by omega)) (nI_clamp (by omega)) (by omega) ⟨by omega, by omega⟩ dL_list_256 fun sh1 v1 pm H1 locs1 hk0 hPk hL hkn => ?_
  have hpgpm : pg < pm := by omega
  have hgbm : ∀ i, i < liG L0 xs → gb i < pm := fun i hi => by rw [hkn]; exact hltg i hi
  have hnpm : n ≠ pm := fun q => by rw [← q, hks] at hPk; cases hPk
  refine l_put (k := n) (r := pm) (j := 4) hM hL ((up_ne hnpm).trans hks) fL_148 rfl rfl rfl dL_list_259 fun sh1 v1 H1 locs1 hL => ?_
  obtain ⟨P5, hP5⟩ : ∃ Pz : Pfn, Pz = up (up P4 pm (some (sR (liM L0 xs) (fun _ => none), fun _ => 0))) n (some (sO 11 (List.set [0, 0, pl + 3, pg + 3, n + 1 + 2 + 3, n + 1 + 3 + 3, n + 1 + 4 + 3, n + 1 + 5 + 3, n + 1 + 6 + 3] 4 (pm + 3)), upd gk3 4 0)) := ⟨_, rfl⟩
  rw [← hP5] at hL
  have hks9 : P5 n = some (sO 11 [0, 0, pl + 3, pg + 3, pm + 3, n + 1 + 3 + 3, n + 1 + 4 + 3, n + 1 + 5 + 3, n + 1 + 6 + 3], upd gk3 4 0) := by rw [hP5]; exact up_eq _ _ _
  have hpm : P5 pm = some (sR (liM L0 xs) (fun _ => none), fun _ => 0) := by rw [hP5, up_ne (Ne.symm hnpm), up_eq]
  have hold5 : ∀ q e, P4 q = some e → q ≠ n → P5 q = some e := fun q e h1 h2 => by rw [hP5, up_ne h2, up_ne (fun q9 => by rw [q9, hPk] at h1; cases h1)]; exact h1
  have hgn5 : upd gk3 4 0 0 = 0 ∧ upd gk3 4 0 1 = 3 := ⟨(upd_ne (by decide)).trans hg0.1, (upd_ne (by decide)).trans hg0.2⟩
  clear hks hg0
  generalize upd gk3 4 0 = gk5 at hks9 hgn5
  have hks := hks9
  have hg0 := hgn5
  clear hks9
  have hpg4 := hpg
  have hpl5 := hold5 _ _ hpl4 (by omega)
  have hpd5 := hold5 _ _ hpd4 (by omega)
  have hpg5 := hold5 _ _ hpg4 (by omega)
  have hgw5 : ∀ i, i < liG L0 xs → P5 (gb i) = some (sA 3, guG L0 xs i) := fun i hi => hold5 _ _ (hgw i hi).2.1 (by have := (hgw i hi).1; omega)
  refine lv_aload_n hx hb dL_list_262 rfl (lv_at hl 3 rfl) ?_
  refine lv_iload_n hx hb dL_list_263 rfl (lv_at hl 0 rfl) ?_
  refine lv_iload_n hx hb dL_list_264 rfl (lv_at hl 0 rfl) ?_
  refine l_multi (M := liM L0 xs) hM hER hL hkt hp0 clL_151 (by omega) (by omega) ⟨by omega, by have : liM L0 xs * liM L0 xs ≤ 5 * 5 := Nat.mul_le_mul hl3.2 hl3.2; omega⟩ dL_list_265 fun sh1 v1 po H1 locs1 hk0 hlt hL => ?_
  have hpmpo : pm < po := hlt _ _ hpm
  have hnpo : n < po := hlt _ _ hks
  have hrr : ∀ q e, P5 q = some e → rrP P5 po (liM L0 xs) q = some e := fun q e h => by have h9 := hlt q e h; unfold rrP; rw [if_neg (by omega), if_neg (by omega)]; exact h
  refine l_put (k := n) (r := po) (j := 5) hM hL (hrr _ _ hks) fL_152 rfl rfl rfl dL_list_269 fun sh1 v1 H1 locs1 hL => ?_
  obtain ⟨P6, hP6⟩ : ∃ Pz : Pfn, Pz = up (rrP P5 po (liM L0 xs)) n (some (sO 11 (List.set [0, 0, pl + 3, pg + 3, pm + 3, n + 1 + 3 + 3, n + 1 + 4 + 3, n + 1 + 5 + 3, n + 1 + 6 + 3] 5 (po + 3)), upd gk5 5 0)) := ⟨_, rfl⟩
  rw [← hP6] at hL
  have hks9 : P6 n = some (sO 11 [0, 0, pl + 3, pg + 3, pm + 3, po + 3, n + 1 + 4 + 3, n + 1 + 5 + 3, n + 1 + 6 + 3], upd gk5 5 0) := by rw [hP6]; exact up_eq _ _ _
  have hold6 : ∀ q e, P5 q = some e → q ≠ n → P6 q = some e := fun q e h1 h2 => by rw [hP6, up_ne h2]; exact hrr q e h1
  have hpo : P6 po = some (sR (liM L0 xs) (rfs (liM L0 xs) fun i => po + 1 + i), fun _ => 0) := by rw [hP6, up_ne (by omega)]; exact if_pos rfl
  have hob : ∀ i, i < liM L0 xs → P6 (po + 1 + i) = some (sA (liM L0 xs), fun _ => 0) := fun i hi => by rw [hP6, up_ne (by omega)]; unfold rrP; rw [if_neg (by omega), if_pos (by omega)]
  have hgn6 : upd gk5 5 0 0 = 0 ∧ upd gk5 5 0 1 = 3 := ⟨(upd_ne (by decide)).trans hg0.1, (upd_ne (by decide)).trans hg0.2⟩
  clear hks hg0
  generalize upd gk5 5 0 = gk6 at hks9 hgn6
  have hks := hks9
  have hg0 := hgn6
  clear hks9
  have hpl6 := hold6 _ _ hpl5 (by omega)
  have hpd6 := hold6 _ _ hpd5 (by omega)
  have hpg6 := hold6 _ _ hpg5 (by omega)
  have hpm6 := hold6 _ _ hpm (by omega)
  have hgw6 : ∀ i, i < liG L0 xs → P6 (gb i) = some (sA 3, guG L0 xs i) := fun i hi => hold6 _ _ (hgw5 i hi) (by have := (hgw i hi).1; omega)
  refine lv_iconst (v := 0) hx hb dL_list_272 rfl ?_
  refine lv_istore (lv' := [(4, .int 0), (3, .int (nI (liM L0 xs))), (0, .ref b0), (1, .ref (Γ.2.1 + kt)), (2, .ref (Γ.2.1 + n))]) hx hb dL_list_273 hl (by decide) rfl fun ls hl => ?_
  have hmm : liM L0 xs * liM L0 xs ≤ 25 := Nat.mul_le_mul hl3.2 hl3.2
  refine W.widen (k := 70 + 8 * 0) (n := 250000 + 50000 * 0) (by omega) (by omega) ?_
  refine li_3 (C := 70) (cells := 70) (slots := 250000) (N := 159) (T := guT (spT L0 xs (liL L0 xs)) L0 xs (liG L0 xs)) (ks := n) (pm := pm) (P0 := P6) hM hER hB hkt hp0 (by omega) (by omega) (by omega) hR6 hR1 (by omega) (by omega) rfl hnpm (fun P7 mb sh1 v1 n1 H1 locs1 ls hks hpm hmw hmo hl hL => ?_) (liM L0 xs) 0 (Nat.zero_add _) _ (fun _ => 0) _ _ _ _ _ _ hks (by rw [er]; exact hpm6) (fun i hi => absurd hi (Nat.not_lt_zero _)) (fun q e h _ => h) (lv_sub hl [0, 1, 2, 3, 4] rfl) (hL.on (by omega) (by omega))
  have hpl7 := hmo _ _ hpl6 (by omega)
  have hpd7 := hmo _ _ hpd6 (by omega)
  have hpg7 := hmo _ _ hpg6 (by omega)
  have hpo7 := hmo _ _ hpo (by omega)
  have hob7 := fun i hi => hmo _ _ (hob i hi) (by omega)
  have hgw7 := fun i hi => hmo _ _ (hgw6 i hi) (by have := hgbm i hi; omega)
  have hmn : ∀ i, i < liM L0 xs → mb i ≠ po ∧ ∀ j, j < liM L0 xs → mb i ≠ po + 1 + j := fun i hi => ⟨fun q => (by have h9 := (hmw i hi).2.2.2; rw [q, hpo] at h9; cases h9), fun j hj q => (by have h9 := (hmw i hi).2.2.2; rw [q, hob j hj] at h9; cases h9)⟩
  refine W.widen (k := 110) (n := 500000) (by omega) (by omega) ?_
  have hL := hL.on (C1 := 110) (N1 := 359) (by omega) (by omega)
  have hf0 : 110 ≤ R.cells ∧ 500000 ≤ R.slots := ⟨by omega, by omega⟩
  refine lv_aload_n hx hb dL_list_430 rfl (lv_at hl 3 rfl) ?_
  refine lv_iconst (v := 1) hx hb dL_list_431 rfl ?_
  refine lv_aload_n hx hb dL_list_432 rfl (lv_at hl 1 rfl) ?_
  refine lv_iconst (v := 4) hx hb dL_list_433 rfl ?_
  refine l_cell (q := 4) hM hL hl.1 hB (by omega) hR1 (Nat.le_of_ble_eq_true rfl) hf0 dL_list_434 fun H1 locs1 hL => ?_
  refine lv_iconst (v := 5) hx hb dL_list_437 rfl ?_
  refine l_below (b9 := 5) hM hL hl.1 (by omega) (by omega) hR1 (Nat.le_of_ble_eq_true rfl) hf0 dL_list_438 fun H1 locs1 hL => ?_
  refine lv_iadd hx hb dL_list_441 ?_
  refine t_top (x' := nI (liT L0 xs)) (nI_add 1 _) ?_
  have hltm : ∀ i, i < liM L0 xs → mb i < n1 := fun i hi => (hL.lo (hmw i hi).2.1).2
  have hlto : ∀ i, i < liM L0 xs → po + 1 + i < n1 := fun i hi => (hL.lo (hob7 i hi)).2
  have hlt9 : pm < n1 := (hL.lo hpm).2
  refine l_newR (M := liT L0 xs) hM hER hL hkt hp0 clL_137 (nI_pos (by omega)) (nI_clamp (by omega)) (by omega) ⟨by omega, by omega⟩ dL_list_442 fun sh1 v1 pt H1 locs1 hk0 hPk hL hkn => ?_
  have hpmpt : pm < pt := by omega
  have hmbt : ∀ i, i < liM L0 xs → mb i < pt := fun i hi => by rw [hkn]; exact hltm i hi
  have hpopt : po + liM L0 xs < pt := by have := hlto (liM L0 xs - 1) (by omega); omega
  have hnpt : n ≠ pt := fun q => by rw [← q, hks] at hPk; cases hPk
  refine l_put (k := n) (r := pt) (j := 6) hM hL ((up_ne hnpt).trans hks) fL_163 rfl rfl rfl dL_list_445 fun sh1 v1 H1 locs1 hL => ?_
  obtain ⟨P8, hP8⟩ : ∃ Pz : Pfn, Pz = up (up P7 pt (some (sR (liT L0 xs) (fun _ => none), fun _ => 0))) n (some (sO 11 (List.set [0, 0, pl + 3, pg + 3, pm + 3, po + 3, n + 1 + 4 + 3, n + 1 + 5 + 3, n + 1 + 6 + 3] 6 (pt + 3)), upd gk6 6 0)) := ⟨_, rfl⟩
  rw [← hP8] at hL
  have hks9 : P8 n = some (sO 11 [0, 0, pl + 3, pg + 3, pm + 3, po + 3, pt + 3, n + 1 + 5 + 3, n + 1 + 6 + 3], upd gk6 6 0) := by rw [hP8]; exact up_eq _ _ _
  have hpt : P8 pt = some (sR (liT L0 xs) (fun _ => none), fun _ => 0) := by rw [hP8, up_ne (Ne.symm hnpt), up_eq]
  have hold8 : ∀ q e, P7 q = some e → q ≠ n → P8 q = some e := fun q e h1 h2 => by rw [hP8, up_ne h2, up_ne (fun q9 => by rw [q9, hPk] at h1; cases h1)]; exact h1
  have hgn8 : upd gk6 6 0 0 = 0 ∧ upd gk6 6 0 1 = 3 := ⟨(upd_ne (by decide)).trans hg0.1, (upd_ne (by decide)).trans hg0.2⟩
  clear hks hg0
  generalize upd gk6 6 0 = gk8 at hks9 hgn8
  have hks := hks9
  have hg0 := hgn8
  clear hks9
  have hpl8 := hold8 _ _ hpl7 (by omega)
  have hpd8 := hold8 _ _ hpd7 (by omega)
  have hpg8 := hold8 _ _ hpg7 (by omega)
  have hpo8 := hold8 _ _ hpo7 (by omega)
  have hpm8 := hold8 _ _ hpm (by omega)
  have hob8 := fun i hi => hold8 _ _ (hob7 i hi) (by omega)
  have hgw8 := fun i hi => hold8 _ _ (hgw7 i hi) (by have := (hgw i hi).1; omega)
  have hmw8 := fun i hi => hold8 _ _ (hmw i hi).2.1 (by have := (hmw i hi).1; omega)
  refine lv_iconst (v := 0) hx hb dL_list_448 rfl ?_
  refine lv_istore (lv' := [(4, .int 0), (3, .int (nI (liM L0 xs))), (0, .ref b0), (1, .ref (Γ.2.1 + kt)), (2, .ref (Γ.2.1 + n))]) hx hb dL_list_449 hl (by decide) rfl fun ls hl => ?_
  refine W.widen (k := 120 + 10 * 0) (n := 510000 + 60000 * 0) (by omega) (by omega) ?_
  refine li_4 (C := 120) (cells := 120) (slots := 510000) (N := 359) (T := meT (guT (spT L0 xs (liL L0 xs)) L0 xs (liG L0 xs)) L0 xs (liM L0 xs)) (ks := n) (pt := pt) (pl := pl) (P0 := P8) hM hER hB hkt hp0 (by omega) (by omega) (by omega) hR6 hR1 (by omega) (by omega) rfl rfl hnpt hl1 (by omega) hpl8 (by omega) (fun P9 tb sh1 v1 n1 H1 locs1 ls hks hpt htw hto hl hL => ?_) (liT L0 xs) 0 (Nat.zero_add _) _ (fun _ => 0) _ _ _ _ _ _ hks (by rw [er]; exact hpt) (fun i hi => absurd hi (Nat.not_lt_zero _)) (fun q e h _ => h) (lv_sub hl [0, 1, 2, 3, 4] rfl) (hL.on (by omega) (by omega))
  have hpl9 := hto _ _ hpl8 (by omega)
  have hpd9 := hto _ _ hpd8 (by omega)
  have hpg9 := hto _ _ hpg8 (by omega)
  have hpo9 := hto _ _ hpo8 (by omega)
  have hpm9 := hto _ _ hpm8 (by omega)
  have hob9 := fun i hi => hto _ _ (hob8 i hi) (by omega)
  have hgw9 := fun i hi => hto _ _ (hgw8 i hi) (by have := hgbm i hi; omega)
  have hmw9 := fun i hi => hto _ _ (hmw8 i hi) (by have := hmbt i hi; omega)
  refine W.widen (k := 170) (n := 810000) (by omega) (by omega) ?_
  have hL := hL.on (C1 := 170) (N1 := 559) (by omega) (by omega)
  have hf0 : 170 ≤ R.cells ∧ 810000 ≤ R.slots := ⟨by omega, by omega⟩
  refine lv_aload_n hx hb dL_list_608 rfl (lv_at hl 3 rfl) ?_
  refine lv_aload_n hx hb dL_list_609 rfl (lv_at hl 1 rfl) ?_
  refine lv_bipush (v := 6) hx hb dL_list_610 rfl ?_
  refine l_cell (q := 6) hM hL hl.1 hB (by omega) hR1 (Nat.le_of_ble_eq_true rfl) hf0 dL_list_612 fun H1 locs1 hL => ?_
  refine lv_bipush (v := 8) hx hb dL_list_615 rfl ?_
  refine l_below (b9 := 8) hM hL hl.1 (by omega) (by omega) hR1 (Nat.le_of_ble_eq_true rfl) hf0 dL_list_617 fun H1 locs1 hL => ?_
  rw [show bel (cel L0 xs 6) 8 = liO L0 xs from rfl]
  have hltt : ∀ i, i < liT L0 xs → tb i < n1 := fun i hi => (hL.lo (htw i hi).2.1).2
  have hlt9 : pt < n1 := (hL.lo hpt).2
  refine l_newR (M := liO L0 xs) hM hER hL hkt hp0 clL_137 (nI_pos (by omega)) (nI_clamp (by omega)) (by omega) ⟨by omega, by omega⟩ dL_list_620 fun sh1 v1 pr H1 locs1 hk0 hPk hL hkn => ?_
  have hptpr : pt < pr := by omega
  have htbr : ∀ i, i < liT L0 xs → tb i < pr := fun i hi => by rw [hkn]; exact hltt i hi
  have hnpr : n ≠ pr := fun q => by rw [← q, hks] at hPk; cases hPk
  refine l_put (k := n) (r := pr) (j := 7) hM hL ((up_ne hnpr).trans hks) fL_174 rfl rfl rfl dL_list_623 fun sh1 v1 H1 locs1 hL => ?_
  obtain ⟨P10, hP10⟩ : ∃ Pz : Pfn, Pz = up (up P9 pr (some (sR (liO L0 xs) (fun _ => none), fun _ => 0))) n (some (sO 11 (List.set [0, 0, pl + 3, pg + 3, pm + 3, po + 3, pt + 3, n + 1 + 5 + 3, n + 1 + 6 + 3] 7 (pr + 3)), upd gk8 7 0)) := ⟨_, rfl⟩
  rw [← hP10] at hL
  have hks9 : P10 n = some (sO 11 [0, 0, pl + 3, pg + 3, pm + 3, po + 3, pt + 3, pr + 3, n + 1 + 6 + 3], upd gk8 7 0) := by rw [hP10]; exact up_eq _ _ _
  have hpr : P10 pr = some (sR (liO L0 xs) (fun _ => none), fun _ => 0) := by rw [hP10, up_ne (Ne.symm hnpr), up_eq]
  have hold10 : ∀ q e, P9 q = some e → q ≠ n → P10 q = some e := fun q e h1 h2 => by rw [hP10, up_ne h2, up_ne (fun q9 => by rw [q9, hPk] at h1; cases h1)]; exact h1
  have hgn10 : upd gk8 7 0 0 = 0 ∧ upd gk8 7 0 1 = 3 := ⟨(upd_ne (by decide)).trans hg0.1, (upd_ne (by decide)).trans hg0.2⟩
  clear hks hg0
  generalize upd gk8 7 0 = gk10 at hks9 hgn10
  have hks := hks9
  have hg0 := hgn10
  clear hks9
  have hpl10 := hold10 _ _ hpl9 (by omega)
  have hpd10 := hold10 _ _ hpd9 (by omega)
  have hpg10 := hold10 _ _ hpg9 (by omega)
  have hpo10 := hold10 _ _ hpo9 (by omega)
  have hpm10 := hold10 _ _ hpm9 (by omega)
  have hpt10 := hold10 _ _ hpt (by omega)
  have hob10 := fun i hi => hold10 _ _ (hob9 i hi) (by omega)
  have hgw10 := fun i hi => hold10 _ _ (hgw9 i hi) (by have := (hgw i hi).1; omega)
  have hmw10 := fun i hi => hold10 _ _ (hmw9 i hi) (by have := (hmw i hi).1; omega)
  have htw10 := fun i hi => hold10 _ _ (htw i hi).2.1 (by have := (htw i hi).1; omega)
  refine lv_iconst (v := 0) hx hb dL_list_626 rfl ?_
  refine lv_istore (lv' := [(4, .int 0), (3, .int (nI (liM L0 xs))), (0, .ref b0), (1, .ref (Γ.2.1 + kt)), (2, .ref (Γ.2.1 + n))]) hx hb dL_list_627 hl (by decide) rfl fun ls hl => ?_
  refine W.widen (k := 200 + 134 * 0) (n := 811000 + 260000 * 0) (by omega) (by omega) ?_
  refine li_5 (C := 200) (cells := 200) (slots := 811000) (N := 559) (T := ltT (liL L0 xs) (liM L0 xs) (meT (guT (spT L0 xs (liL L0 xs)) L0 xs (liG L0 xs)) L0 xs (liM L0 xs)) L0 xs (liT L0 xs)) (ks := n) (po := pr) (pt := pt) (pg := pg) (P0 := P10) hM hER hB hkt hp0 (by omega) (by omega) (by omega) hR8 (by omega) (by omega) rfl rfl rfl hnpr hl2 (by omega) hl4 hpg10 (by omega) hpt10 (by omega) (fun P11 rb sh1 v1 n1 H1 locs1 ls hks hpr hrw hro hl hL => ?_) (liO L0 xs) 0 (Nat.zero_add _) _ (fun _ => 0) _ _ _ _ _ _ hks (by rw [er]; exact hpr) (fun i hi => absurd hi (Nat.not_lt_zero _)) (fun q e h _ => h) (lv_sub hl [0, 1, 2, 3, 4] rfl) (hL.on (by omega) (by omega))
  refine W.widen (k := 1500) (n := 3000000) (by omega) (by omega) ?_
  have hL := hL.on (C1 := 1200) (N1 := 1504) (by omega) (by omega)
  refine lv_aload_n hx hb dL_list_1084 rfl (lv_at hl 3 rfl) ?_
  refine t_rret (post := (fun r u => LIP sh v n kt p0 L0 xs r u)) hx hb hret (Or.inl ⟨_, rfl⟩) hlk hK hL.hP hL.hS hL.1.2.1 hE hd hL.1.1 ⟨hL.1.1, hL.2.1, hL.2.2.1, hL.2.2.2.1, P11, hL.2.2.2.2, pl, pg, pm, po, pt, pr, n + 1 + 6, gb, mb, tb, rb, gk10, _, _, _, _, hks, hg0.1, hg0.2, hro _ _ hpl10 (by omega), hro _ _ hpd10 (by omega), hro _ _ hpg10 (by omega), hro _ _ hpm10 (by omega), hro _ _ hpo10 (by omega), hro _ _ hpt10 (by omega), hpr, fun i hi => ?_, fun i hi => ?_, fun i hi => ?_, fun i hi => ?_, fun i hi => ?_, by omega, by omega, by omega, by omega, by omega, by omega, by omega⟩ dL_list_1085
  · exact ⟨hro _ _ (hgw10 i hi) (by have := hgbm i hi; omega), (hgw i hi).1, hgbm i hi, (hgw i hi).2.2.1⟩
  · exact ⟨hro _ _ (hmw10 i hi) (by have := hmbt i hi; omega), (hmw i hi).1, hmbt i hi, (hmw i hi).2.2.1, (hmn i hi).1, (hmn i hi).2⟩
  · exact hro _ _ (hob10 i hi) (by omega)
  · exact ⟨hro _ _ (htw10 i hi) (by have := htbr i hi; omega), (htw i hi).1, htbr i hi, (htw i hi).2.2.1⟩
  · exact ⟨(hrw i hi).2.1, (hrw i hi).1, (hrw i hi).2.2.1⟩
end JE
