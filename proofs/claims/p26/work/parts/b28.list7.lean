/-! LIST, whole -/
section JE
variable {l : Launch} {Γ : Cx} {sh : Sh} {v : Va} {w : Vl} {n : Nat}
/-- how many there are -/
def liL (L0 : Nat) (xs : Nat → Int32) : Nat := 1 + bel (cel L0 xs 0) 3
def liG (L0 : Nat) (xs : Nat → Int32) : Nat := 1 + bel (cel L0 xs 1) 3
def liM (L0 : Nat) (xs : Nat → Int32) : Nat := 2 + bel (cel L0 xs 2) 4
def liT (L0 : Nat) (xs : Nat → Int32) : Nat := 1 + bel (cel L0 xs 4) 5
def liO (L0 : Nat) (xs : Nat → Int32) : Nat := bel (cel L0 xs 6) 8
def liX (L0 : Nat) (xs : Nat → Int32) : List Int32 := orT (liG L0 xs) (liM L0 xs) (liT L0 xs) (ltT (liL L0 xs) (liM L0 xs) (meT (guT (spT L0 xs (liL L0 xs)) L0 xs (liG L0 xs)) L0 xs (liM L0 xs)) L0 xs (liT L0 xs)) L0 xs (liO L0 xs)
theorem li_le {L0 : Nat} {xs : Nat → Int32} : (1 ≤ liL L0 xs ∧ liL L0 xs ≤ 3) ∧ (1 ≤ liG L0 xs ∧ liG L0 xs ≤ 3) ∧ (2 ≤ liM L0 xs ∧ liM L0 xs ≤ 5) ∧ (1 ≤ liT L0 xs ∧ liT L0 xs ≤ 5) ∧ liO L0 xs ≤ 7 := by
  have h1 := bel_lt (x := cel L0 xs 0) (n := 3) (by decide)
  have h2 := bel_lt (x := cel L0 xs 1) (n := 3) (by decide)
  have h3 := bel_lt (x := cel L0 xs 2) (n := 4) (by decide)
  have h4 := bel_lt (x := cel L0 xs 4) (n := 5) (by decide)
  have h5 := bel_lt (x := cel L0 xs 6) (n := 8) (by decide)
  unfold liL liG liM liT liO
  omega
/-- the object that list makes -/
def LIS (L0 : Nat) (xs : Nat → Int32) (r : Nat) (P : Pfn) : Prop := ∃ (pl pg pm po pt pr pd : Nat) (gb mb tb rb : Nat → Nat) (gk gg gm gt gr : Nat → Int32),
  P r = some (sO 11 [0, 0, pl + 3, pg + 3, pm + 3, po + 3, pt + 3, pr + 3, pd + 3], gk) ∧ gk 0 = 0 ∧ gk 1 = 3 ∧ P pl = some (sA (liL L0 xs), loG L0 xs (liL L0 xs)) ∧ P pd = some (sA 3, fun _ => 0) ∧
  P pg = some (sR (liG L0 xs) (rfs (liG L0 xs) gb), gg) ∧ P pm = some (sR (liM L0 xs) (rfs (liM L0 xs) mb), gm) ∧ P po = some (sR (liM L0 xs) (rfs (liM L0 xs) fun i => po + 1 + i), fun _ => 0) ∧ P pt = some (sR (liT L0 xs) (rfs (liT L0 xs) tb), gt) ∧ P pr = some (sR (liO L0 xs) (rfs (liO L0 xs) rb), gr) ∧
  (∀ i, i < liG L0 xs → P (gb i) = some (sA 3, guG L0 xs i) ∧ pg < gb i ∧ gb i < pm ∧ ∀ j, j < i → gb j < gb i) ∧
  (∀ i, i < liM L0 xs → P (mb i) = some (sA 2, meG L0 xs i) ∧ pm < mb i ∧ mb i < pt ∧ (∀ j, j < i → mb j < mb i) ∧ mb i ≠ po ∧ ∀ j, j < liM L0 xs → mb i ≠ po + 1 + j) ∧
  (∀ i, i < liM L0 xs → P (po + 1 + i) = some (sA (liM L0 xs), fun _ => 0)) ∧
  (∀ i, i < liT L0 xs → P (tb i) = some (sA 6, ltG (liL L0 xs) (liM L0 xs) L0 xs i) ∧ pt < tb i ∧ tb i < pr ∧ ∀ j, j < i → tb j < tb i) ∧
  (∀ i, i < liO L0 xs → P (rb i) = some (sA 12, orG (liG L0 xs) (liM L0 xs) (liT L0 xs) L0 xs i) ∧ pr < rb i ∧ ∀ j, j < i → rb j < rb i) ∧
  r < pd ∧ pd < pl ∧ pl < pg ∧ pg < pm ∧ pm < po ∧ po + liM L0 xs < pt ∧ pt < pr
def LIP (sh : Sh) (v : Va) (n kt p0 L0 : Nat) (xs : Nat → Int32) (r : Nat) (u : Wt) : Prop := GR sh n u.1 u.2.2 ∧ u.2.2 ≤ n + 1200 ∧ (∀ q, q < n → q ≠ kt → q ≠ p0 → u.2.1 q = v q) ∧ TXT n kt p0 (liX L0 xs) 1504 u.1 u.2.1 ∧ ∃ P, SN n u.1 u.2.1 P ∧ LIS L0 xs r P
theorem c_L_list {kt p0 cap0 b0 L0 d1 d2 : Nat} {xs : Nat → Int32} (h0 : Γ.2.1 = 0) (hCE : EC Γ sh d1 d2) (hELE : EL Γ sh) (hER : ER Γ) (hB : SCR Γ sh b0 L0 xs) (hT0 : SBc sh v kt p0 cap0 []) (hnb : n ≤ 880000) : MetTR l yL_list cL_list 11 (some (FieldType.object "SpiceQuayLaw$Sim")) 9 1200 2700000 Γ sh v w n [.ref b0, .ref (Γ.2.1 + kt)] (fun r u => LIP sh v n kt p0 L0 xs r u) := by
  refine w_start pn_L (Nat.le_of_ble_eq_true rfl) fun p e s m args below meth c hx hb hml hret hlk hnm hts hown hK hP hz hE hS ls hl => ?_
  have hd : DM sh n := hP.dm hz
  have hG : GR sh n sh n := GR.rf
  have hM : MC Γ p s m args c cL_list 11 d1 d2 sh n := ⟨hx, hb, hml, hts, hown, hK, hE, hd, hCE, hELE⟩
  have hkt : kt < n := hd _ _ hT0.1
  have hp0 : p0 < n := hd _ _ hT0.2.2.2.2.1
  have hR8 : 8 ≤ (rmc 9 1200 2700000).frames ∧ 310 ≤ (rmc 9 1200 2700000).locals := ⟨Nat.le_of_ble_eq_true rfl, Nat.le_of_ble_eq_true rfl⟩
  have hR6 : 6 ≤ (rmc 9 1200 2700000).frames ∧ 230 ≤ (rmc 9 1200 2700000).locals := ⟨Nat.le_of_ble_eq_true rfl, Nat.le_of_ble_eq_true rfl⟩
  have hR1 : 1 ≤ (rmc 9 1200 2700000).frames ∧ 21 ≤ (rmc 9 1200 2700000).locals := ⟨Nat.le_of_ble_eq_true rfl, Nat.le_of_ble_eq_true rfl⟩
  have hRc : (rmc 9 1200 2700000).cells = 1200 := rfl
  have hRs : (rmc 9 1200 2700000).slots = 2700000 := rfl
  generalize rmc 9 1200 2700000 = R at hR8 hR6 hR1 hRc hRs ⊢
  obtain ⟨hl1, hl2, hl3, hl4, hl5⟩ := li_le (L0 := L0) (xs := xs)
  have hL : LST Γ s sh v n w kt p0 0 [] 0 (fun _ => none) sh v n s.heap [] := ⟨⟨hG, hz, hP, hS⟩, Nat.le_refl _, fun _ _ _ _ => rfl, ⟨Nat.le_refl _, fun b hb => absurd hb List.not_mem_nil, p0, cap0, hT0, Or.inl rfl⟩, fun q e g hq => by cases hq⟩
  refine w_new (n := n) hx hb hts hown hK hP hS nL_114 (by omega) (by omega) hz dL_list_0 fun H1 hz hP hS => ?_
  have hL := hL.new (e0 := sO 11 [0, 0, 2, 2, 2, 2, 2, 2, 2]) rfl hkt hp0 hz hP hS
  refine lv_dup hx hb dL_list_3 rfl ?_
  refine t_callv (Bs := []) (w_rI (k := n) hx hb hml hts hown hK (c_Sim_init (up_eq _ _ _) hER (by omega)) rfl rfl kX12_init mL_116 PN.blind (t_pn hK hd hL.1.1 hE hS hP hz) rfl hl.1 rfl (Nat.le_of_ble_eq_true rfl) ⟨by have h9 := hR6.1; show 1 + 1 ≤ _; omega, by have h9 := hR6.2; show 8 + (1 + 11) + 40 * 1 ≤ _; omega⟩ ⟨by omega, by omega⟩ dL_list_4) hL.1.1 hS fun u H1 locs1 hp1 hz hP hS => ?_
  have hL := hL.sim hkt hp0 (up_eq _ _ _) hp1 hz hP hS
  rw [up_up] at hL
  obtain ⟨sh1, v1, n1⟩ := u
  dsimp only at hL
  have hg0 : v1 n 0 = 0 ∧ v1 n 1 = 3 := ⟨hp1.2.2.2.1.trans (by rw [up_eq]), hp1.2.2.2.2.1⟩
  generalize v1 n = gk at hL hg0
  generalize hP0 : up (up (fun _ => none) n (some (oSim (n + 1), gk))) (n + 1 + 6) (some (sA 3, fun _ => 0)) = P at hL
  have hks : P n = some (sO 11 [0, 0, n + 1 + 3, n + 1 + 1 + 3, n + 1 + 2 + 3, n + 1 + 3 + 3, n + 1 + 4 + 3, n + 1 + 5 + 3, n + 1 + 6 + 3], gk) := by rw [← hP0, up_ne (by omega), up_eq]
  have hpd : P (n + 1 + 6) = some (sA 3, fun _ => 0) := by rw [← hP0, up_eq]
  have hf0 : 8 ≤ R.cells ∧ 12 ≤ R.slots := ⟨by omega, by omega⟩
  refine W.widen (k := 8) (n := 12) (by omega) (by omega) ?_
  refine lv_astore_n (lv' := [(2, .ref (Γ.2.1 + n)), (0, .ref b0), (1, .ref (Γ.2.1 + kt))]) hx hb dL_list_7 rfl hl (by decide) rfl fun ls hl => ?_
  refine lv_aload_n hx hb dL_list_8 rfl (lv_at hl 0 rfl) ?_
  refine lv_iconst (v := 1) hx hb dL_list_9 rfl ?_
  refine lv_aload_n hx hb dL_list_10 rfl (lv_at hl 1 rfl) ?_
  refine lv_iconst (v := 0) hx hb dL_list_11 rfl ?_
  refine l_cell (q := 0) hM hL hl.1 hB (by omega) hR1 (Nat.le_of_ble_eq_true rfl) hf0 dL_list_12 fun H1 locs1 hL => ?_
  refine lv_iconst (v := 3) hx hb dL_list_15 rfl ?_
  refine l_below (b9 := 3) hM hL hl.1 (by omega) (by omega) hR1 (Nat.le_of_ble_eq_true rfl) hf0 dL_list_16 fun H1 locs1 hL => ?_
  refine lv_iadd hx hb dL_list_19 ?_
  refine t_top (x' := nI (liL L0 xs)) (nI_add 1 _) ?_
  refine l_new (M := liL L0 xs) hM hL hkt hp0 (nI_pos (by omega)) (nI_clamp (by omega)) (by omega) ⟨by omega, by omega⟩ dL_list_20 fun sh1 v1 pl H1 locs1 hk0 hPk hL hkn => ?_
  have hlpl : n + 1 + 6 < pl := by omega
  have hnpl : n ≠ pl := fun q => by rw [← q, hks] at hPk; cases hPk
  refine l_put (k := n) (r := pl) (j := 2) hM hL ((up_ne hnpl).trans hks) fL_127 rfl rfl rfl dL_list_22 fun sh1 v1 H1 locs1 hL => ?_
  obtain ⟨P1, hP1⟩ : ∃ P9 : Pfn, P9 = up (up P pl (some (sA (liL L0 xs), fun _ => 0))) n (some (sO 11 (List.set [0, 0, n + 1 + 3, n + 1 + 1 + 3, n + 1 + 2 + 3, n + 1 + 3 + 3, n + 1 + 4 + 3, n + 1 + 5 + 3, n + 1 + 6 + 3] 2 (pl + 3)), upd gk 2 0)) := ⟨_, rfl⟩
  rw [← hP1] at hL
  have hks9 : P1 n = some (sO 11 [0, 0, pl + 3, n + 1 + 1 + 3, n + 1 + 2 + 3, n + 1 + 3 + 3, n + 1 + 4 + 3, n + 1 + 5 + 3, n + 1 + 6 + 3], upd gk 2 0) := by rw [hP1]; exact up_eq _ _ _
  have hpl : P1 pl = some (sA (liL L0 xs), fun _ => 0) := by rw [hP1, up_ne (Ne.symm hnpl), up_eq]
  have hold1 : ∀ q e, P q = some e → q ≠ n → P1 q = some e := fun q e h1 h2 => by rw [hP1, up_ne h2, up_ne (fun q9 => by rw [q9, hPk] at h1; cases h1)]; exact h1
  have hgn1 : upd gk 2 0 0 = 0 ∧ upd gk 2 0 1 = 3 := ⟨(upd_ne (by decide)).trans hg0.1, (upd_ne (by decide)).trans hg0.2⟩
  clear hks hg0
  generalize upd gk 2 0 = gk1 at hks9 hgn1
  have hks := hks9
  have hg0 := hgn1
  clear hks9
  refine lv_iconst (v := 0) hx hb dL_list_25 rfl ?_
  refine lv_istore_n (lv' := [(3, .int 0), (2, .ref (Γ.2.1 + n)), (0, .ref b0), (1, .ref (Γ.2.1 + kt))]) hx hb dL_list_26 rfl hl (by decide) rfl fun ls hl => ?_
  have e0 : loG L0 xs 0 = fun _ => 0 := funext fun j => if_neg (Nat.not_lt_zero _)
  have e1 : up P1 pl (some (sA (liL L0 xs), loG L0 xs 0)) = P1 := by rw [e0, ← hpl]; exact up_id P1 pl
  have hpd1 : P1 (n + 1 + 6) = some (sA 3, fun _ => 0) := hold1 _ _ hpd (by omega)
  refine W.widen (k := 9 + 5 * 0) (n := 20 + 30000 * 0) (by omega) (by omega) ?_
  refine li_1 (C := 9) (cells := 9) (slots := 20) (ks := n) (pl := pl) (P := P1) hM hB hkt hp0 (by omega) (by omega) hR6 hR1 (by omega) (by omega) hks rfl hnpl (fun sh1 v1 n1 H1 locs1 ls hl hL => ?_) (liL L0 xs) 0 (Nat.zero_add _) _ _ _ _ _ _ (lv_sub hl [0, 2, 3, 1] rfl) (by rw [e1]; exact hL.on (by omega) (by omega))
  obtain ⟨P2, hP2⟩ : ∃ P9 : Pfn, P9 = up P1 pl (some (sA (liL L0 xs), loG L0 xs (liL L0 xs))) := ⟨_, rfl⟩
  rw [← hP2] at hL
  have hks2 : P2 n = P1 n := by rw [hP2, up_ne hnpl]
  rw [← hks2] at hks
  have hpl2 : P2 pl = some (sA (liL L0 xs), loG L0 xs (liL L0 xs)) := by rw [hP2, up_eq]
  have hpd2 : P2 (n + 1 + 6) = some (sA 3, fun _ => 0) := by rw [hP2, up_ne (by omega)]; exact hpd1
  refine W.widen (k := 24) (n := 90020) (by omega) (by omega) ?_
  have hL := hL.on (C1 := 24) (N1 := 66) (by omega) (by omega)
  have hf0 : 24 ≤ R.cells ∧ 90020 ≤ R.slots := ⟨by omega, by omega⟩
  refine lv_aload_n hx hb dL_list_94 rfl (lv_at hl 2 rfl) ?_
  refine lv_iconst (v := 1) hx hb dL_list_95 rfl ?_
  refine lv_aload_n hx hb dL_list_96 rfl (lv_at hl 0 rfl) ?_
  refine lv_iconst (v := 1) hx hb dL_list_97 rfl ?_
  refine l_cell (q := 1) hM hL hl.1 hB (by omega) hR1 (Nat.le_of_ble_eq_true rfl) hf0 dL_list_98 fun H1 locs1 hL => ?_
  refine lv_iconst (v := 3) hx hb dL_list_101 rfl ?_
  refine l_below (b9 := 3) hM hL hl.1 (by omega) (by omega) hR1 (Nat.le_of_ble_eq_true rfl) hf0 dL_list_102 fun H1 locs1 hL => ?_
  refine lv_iadd hx hb dL_list_105 ?_
  refine t_top (x' := nI (liG L0 xs)) (nI_add 1 _) ?_
  have hlt9 : pl < n1 := (hL.lo hpl2).2
  refine l_newR (M := liG L0 xs) hM hER hL hkt hp0 clL_137 (nI_pos (by omega)) (nI_clamp (by omega)) (by omega) ⟨by omega, by omega⟩ dL_list_106 fun sh1 v1 pg H1 locs1 hk0 hPk hL hkn => ?_
  have hplpg : pl < pg := by omega
  have hnpg : n ≠ pg := fun q => by rw [← q, hks] at hPk; cases hPk
  refine l_put (k := n) (r := pg) (j := 3) hM hL ((up_ne hnpg).trans hks) fL_138 rfl rfl rfl dL_list_109 fun sh1 v1 H1 locs1 hL => ?_
  obtain ⟨P3, hP3⟩ : ∃ P9 : Pfn, P9 = up (up P2 pg (some (sR (liG L0 xs) (fun _ => none), fun _ => 0))) n (some (sO 11 (List.set [0, 0, pl + 3, n + 1 + 1 + 3, n + 1 + 2 + 3, n + 1 + 3 + 3, n + 1 + 4 + 3, n + 1 + 5 + 3, n + 1 + 6 + 3] 3 (pg + 3)), upd gk1 3 0)) := ⟨_, rfl⟩
  rw [← hP3] at hL
  have hks9 : P3 n = some (sO 11 [0, 0, pl + 3, pg + 3, n + 1 + 2 + 3, n + 1 + 3 + 3, n + 1 + 4 + 3, n + 1 + 5 + 3, n + 1 + 6 + 3], upd gk1 3 0) := by rw [hP3]; exact up_eq _ _ _
  have hpg : P3 pg = some (sR (liG L0 xs) (fun _ => none), fun _ => 0) := by rw [hP3, up_ne (Ne.symm hnpg), up_eq]
  have hold3 : ∀ q e, P2 q = some e → q ≠ n → P3 q = some e := fun q e h1 h2 => by rw [hP3, up_ne h2, up_ne (fun q9 => by rw [q9, hPk] at h1; cases h1)]; exact h1
  have hgn3 : upd gk1 3 0 0 = 0 ∧ upd gk1 3 0 1 = 3 := ⟨(upd_ne (by decide)).trans hg0.1, (upd_ne (by decide)).trans hg0.2⟩
  clear hks hg0
  generalize upd gk1 3 0 = gk3 at hks9 hgn3
  have hks := hks9
  have hg0 := hgn3
  clear hks9
  have hpl3 : P3 pl = some (sA (liL L0 xs), loG L0 xs (liL L0 xs)) := hold3 _ _ hpl2 (by omega)
  have hpd3 : P3 (n + 1 + 6) = some (sA 3, fun _ => 0) := hold3 _ _ hpd2 (by omega)
  refine lv_iconst (v := 0) hx hb dL_list_112 rfl ?_
  refine lv_istore_n (lv' := [(3, .int 0), (0, .ref b0), (1, .ref (Γ.2.1 + kt)), (2, .ref (Γ.2.1 + n))]) hx hb dL_list_113 rfl hl (by decide) rfl fun ls hl => ?_
  have er : ∀ b : Nat → Nat, rfs 0 b = fun _ => none := fun b => funext fun j => if_neg (Nat.not_lt_zero _)
  refine W.widen (k := 30 + 8 * 0) (n := 90100 + 50000 * 0) (by omega) (by omega) ?_
  refine li_2 (C := 30) (cells := 30) (slots := 90100) (N := 66) (T := spT L0 xs (liL L0 xs)) (ks := n) (pg := pg) (P0 := P3) hM hER hB hkt hp0 (by omega) (by omega) (by omega) hR6 hR1 (by omega) (by omega) rfl hnpg (fun P4 gb sh1 v1 n1 H1 locs1 ls hks hpg hgw hgo hl hL => ?_) (liG L0 xs) 0 (Nat.zero_add _) _ (fun _ => 0) _ _ _ _ _ _ hks (by rw [er]; exact hpg) (fun i hi => absurd hi (Nat.not_lt_zero _)) (fun q e h _ => h) (lv_sub hl [0, 1, 2, 3] rfl) (hL.on (by omega) (by omega))
  have hpl4 := hgo _ _ hpl3 (by omega)
  have hpd4 := hgo _ _ hpd3 (by omega)
  refine W.widen (k := 54) (n := 240100) (by omega) (by omega) ?_
  have hL := hL.on (C1 := 54) (N1 := 159) (by omega) (by omega)
  have hf0 : 54 ≤ R.cells ∧ 240100 ≤ R.slots := ⟨by omega, by omega⟩
  refine lv_iconst (v := 2) hx hb dL_list_242 rfl ?_
  refine lv_aload_n hx hb dL_list_243 rfl (lv_at hl 0 rfl) ?_
  refine lv_iconst (v := 2) hx hb dL_list_244 rfl ?_
  refine l_cell (q := 2) hM hL hl.1 hB (by omega) hR1 (Nat.le_of_ble_eq_true rfl) hf0 dL_list_245 fun H1 locs1 hL => ?_
  refine lv_iconst (v := 4) hx hb dL_list_248 rfl ?_
  refine l_below (b9 := 4) hM hL hl.1 (by omega) (by omega) hR1 (Nat.le_of_ble_eq_true rfl) hf0 dL_list_249 fun H1 locs1 hL => ?_
  refine lv_iadd hx hb dL_list_252 ?_
  refine t_top (x' := nI (liM L0 xs)) (nI_add 2 _) ?_
  refine lv_istore_n (lv' := [(3, .int (nI (liM L0 xs))), (0, .ref b0), (1, .ref (Γ.2.1 + kt)), (2, .ref (Γ.2.1 + n))]) hx hb dL_list_253 rfl hl (by decide) rfl fun ls hl => ?_
  refine lv_aload_n hx hb dL_list_254 rfl (lv_at hl 3 rfl) ?_
  refine lv_iload_n hx hb dL_list_255 rfl (lv_at hl 0 rfl) ?_
  have hltg : ∀ i, i < liG L0 xs → gb i < n1 := fun i hi => (hL.lo (hgw i hi).2.1).2
  have hlt9 : pg < n1 := (hL.lo hpg).2
  refine l_newR (M := liM L0 xs) hM hER hL hkt hp0 clL_137 (nI_pos (by omega)) (nI_clamp (by omega)) (by omega) ⟨by omega, by omega⟩ dL_list_256 fun sh1 v1 pm H1 locs1 hk0 hPk hL hkn => ?_
  have hpgpm : pg < pm := by omega
  have hgbm : ∀ i, i < liG L0 xs → gb i < pm := fun i hi => by rw [hkn]; exact hltg i hi
  have hnpm : n ≠ pm := fun q => by rw [← q, hks] at hPk; cases hPk
  refine l_put (k := n) (r := pm) (j := 4) hM hL ((up_ne hnpm).trans hks) fL_148 rfl rfl rfl dL_list_259 fun sh1 v1 H1 locs1 hL => ?_
  obtain ⟨P5, hP5⟩ : ∃ P9 : Pfn, P9 = up (up P4 pm (some (sR (liM L0 xs) (fun _ => none), fun _ => 0))) n (some (sO 11 (List.set [0, 0, pl + 3, pg + 3, n + 1 + 2 + 3, n + 1 + 3 + 3, n + 1 + 4 + 3, n + 1 + 5 + 3, n + 1 + 6 + 3] 4 (pm + 3)), upd gk3 4 0)) := ⟨_, rfl⟩
  rw [← hP5] at hL
  have hks9 : P5 n = some (sO 11 [0, 0, pl + 3, pg + 3, pm + 3, n + 1 + 3 + 3, n + 1 + 4 + 3, n + 1 + 5 + 3, n + 1 + 6 + 3], upd gk3 4 0) := by rw [hP5]; exact up_eq _ _ _
  have hpm : P5 pm = some (sR (liM L0 xs) (fun _ => none), fun _ => 0) := by rw [hP5, up_ne (Ne.symm hnpm), up_eq]
  have hold5 : ∀ q e, P4 q = some e → q ≠ n → P5 q = some e := fun q e h1 h2 => by rw [hP5, up_ne h2, up_ne (fun q9 => by rw [q9, hPk] at h1; cases h1)]; exact h1
  have hgn5 : upd gk3 4 0 0 = 0 ∧ upd gk3 4 0 1 = 3 := ⟨(upd_ne (by decide)).trans hg0.1, (upd_ne (by decide)).trans hg0.2⟩
  clear hks hg0
  generalize upd gk3 4 0 = gk5 at hks9 hgn5
  have hks := hks9
  have hg0 := hgn5
  clear hks9
  have hpg4 := hpg
  have hpl5 := hold5 _ _ hpl4 (by omega)
  have hpd5 := hold5 _ _ hpd4 (by omega)
  have hpg5 := hold5 _ _ hpg4 (by omega)
  have hgw5 : ∀ i, i < liG L0 xs → P5 (gb i) = some (sA 3, guG L0 xs i) := fun i hi => hold5 _ _ (hgw i hi).2.1 (by have := (hgw i hi).1; omega)
  refine lv_aload_n hx hb dL_list_262 rfl (lv_at hl 3 rfl) ?_
  refine lv_iload_n hx hb dL_list_263 rfl (lv_at hl 0 rfl) ?_
  refine lv_iload_n hx hb dL_list_264 rfl (lv_at hl 0 rfl) ?_
  refine l_multi (M := liM L0 xs) hM hER hL hkt hp0 clL_151 (by omega) (by omega) ⟨by omega, by have : liM L0 xs * liM L0 xs ≤ 5 * 5 := Nat.mul_le_mul hl3.2 hl3.2; omega⟩ dL_list_265 fun sh1 v1 po H1 locs1 hk0 hlt hL => ?_
  have hpmpo : pm < po := hlt _ _ hpm
  have hnpo : n < po := hlt _ _ hks
  have hrr : ∀ q e, P5 q = some e → rrP P5 po (liM L0 xs) q = some e := fun q e h => by have h9 := hlt q e h; unfold rrP; rw [if_neg (by omega), if_neg (by omega)]; exact h
  refine l_put (k := n) (r := po) (j := 5) hM hL (hrr _ _ hks) fL_152 rfl rfl rfl dL_list_269 fun sh1 v1 H1 locs1 hL => ?_
  obtain ⟨P6, hP6⟩ : ∃ P9 : Pfn, P9 = up (rrP P5 po (liM L0 xs)) n (some (sO 11 (List.set [0, 0, pl + 3, pg + 3, pm + 3, n + 1 + 3 + 3, n + 1 + 4 + 3, n + 1 + 5 + 3, n + 1 + 6 + 3] 5 (po + 3)), upd gk5 5 0)) := ⟨_, rfl⟩
  rw [← hP6] at hL
  have hks9 : P6 n = some (sO 11 [0, 0, pl + 3, pg + 3, pm + 3, po + 3, n + 1 + 4 + 3, n + 1 + 5 + 3, n + 1 + 6 + 3], upd gk5 5 0) := by rw [hP6]; exact up_eq _ _ _
  have hold6 : ∀ q e, P5 q = some e → q ≠ n → P6 q = some e := fun q e h1 h2 => by rw [hP6, up_ne h2]; exact hrr q e h1
  have hpo : P6 po = some (sR (liM L0 xs) (rfs (liM L0 xs) fun i => po + 1 + i), fun _ => 0) := by rw [hP6, up_ne (by omega)]; exact if_pos rfl
  have hob : ∀ i, i < liM L0 xs → P6 (po + 1 + i) = some (sA (liM L0 xs), fun _ => 0) := fun i hi => by rw [hP6, up_ne (by omega)]; unfold rrP; rw [if_neg (by omega), if_pos (by omega)]
  have hgn6 : upd gk5 5 0 0 = 0 ∧ upd gk5 5 0 1 = 3 := ⟨(upd_ne (by decide)).trans hg0.1, (upd_ne (by decide)).trans hg0.2⟩
  clear hks hg0
  generalize upd gk5 5 0 = gk6 at hks9 hgn6
  have hks := hks9
  have hg0 := hgn6
  clear hks9
  have hpl6 := hold6 _ _ hpl5 (by omega)
  have hpd6 := hold6 _ _ hpd5 (by omega)
  have hpg6 := hold6 _ _ hpg5 (by omega)
  have hpm6 := hold6 _ _ hpm (by omega)
  have hgw6 : ∀ i, i < liG L0 xs → P6 (gb i) = some (sA 3, guG L0 xs i) := fun i hi => hold6 _ _ (hgw5 i hi) (by have := (hgw i hi).1; omega)
  refine lv_iconst (v := 0) hx hb dL_list_272 rfl ?_
  refine lv_istore (lv' := [(4, .int 0), (3, .int (nI (liM L0 xs))), (0, .ref b0), (1, .ref (Γ.2.1 + kt)), (2, .ref (Γ.2.1 + n))]) hx hb dL_list_273 hl (by decide) rfl fun ls hl => ?_
  sorry
end JE
