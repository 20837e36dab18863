/-! SIM: counts -/
section
variable {x u : Va} {ks S G M L O z i j a b : Nat} {pA : Nat → Nat} {pB : Nat → Nat → Nat}
theorem sim_weight (hS : SR x u ks pA pB S G M L O) (hL : L ≤ 10) (hW : IW (u 174) L) (hz : 4000 < z) : f_Sim_weight z x ks pA pB (pn_ S G M L O) = some (row_t (u 174) 10) := by
  have e0 : row_t (u 174) 10 = row_t (u 174) L := row_t_0 10 hL (fun i h1 h2 => hW.2 i h2 h1)
  have p4 : pn_ S G M L O 4 = L := rfl
  unfold f_Sim_weight
  rw [e0]
  refine rp_go (fun i => (row_t (u 174) i, nI i)) L (fun K => ?_) (fun K i hi => ?_) (by omega)
  · unfold b_Sim_weight_13
    simp only [p4]
    rw [if_pos (by rw [le_n (by omega) (by omega)]; exact Nat.le_refl _)]
  · unfold b_Sim_weight_13
    simp (disch := omega) only [p4, gn, ni_c, if_false, lc_1, ln_1, false_or, Nat.reduceLeDiff, hS.weight hi, ni_s]
    rw [if_neg (by rw [le_n (by omega) (by omega)]; omega)]
    rfl
theorem row_six {f : Nat → Int32} (a : Nat) : row_t f (6 * a) + row_t (fun b => f (6 * a + b)) 6 = row_t f (6 * (a + 1)) := by
  show row_t f (6 * a) + ((((((0 + f (6 * a + 0)) + f (6 * a + 1)) + f (6 * a + 2)) + f (6 * a + 3)) + f (6 * a + 4)) + f (6 * a + 5)) = ((((((row_t f (6 * a) + f (6 * a)) + f (6 * a + 1)) + f (6 * a + 2)) + f (6 * a + 3)) + f (6 * a + 4)) + f (6 * a + 5))
  rw [Int32.zero_add]
  simp only [Int32.add_assoc, Nat.add_zero]
theorem debts_all (hM : M ≤ 6) (hD : ID (u 180) M) : row_t (u 180) (6 * M) = row_t (u 180) 36 := (row_t_0 36 (by omega) (fun i h1 h2 => by
  have := (hD (i / 6) (i % 6) (by omega) (by omega)).2.2 (Or.inr (Or.inl (by omega)))
  rwa [show 6 * (i / 6) + i % 6 = i by omega] at this)).symm
theorem coins_all (hM : M ≤ 6) (h : ∀ a, a < 6 → M ≤ a → u 179 a = 0) : row_t (u 179) M = row_t (u 179) 6 := (row_t_0 6 hM (fun i h1 h2 => h i h2 h1)).symm
theorem pu_up {v : Va} {n i : Nat} {g : Nat → Int32} {y : Int32} : pu (up v n g) n i y = up v n (upd g i y) := by unfold pu; rw [up_up, up_eq]
/-- what is counted: nothing on the tape -/
def cS (u : Va) (w : Nat) : Int32 := if w = 13 then 0 else cU u w
end
section JE
variable {l : Launch} {Γ : Cx} {sh : Sh} {v : Va} {w : Vl} {n : Nat}
theorem smQ_lt {ks S G M L O : Nat} {pA : Nat → Nat} {pB : Nat → Nat → Nat} (hk : isSim sh ks pA pB (pn_ S G M L O)) (hd : DM sh n) {j i f : Nat} (hv : vQ S G M L O j i f) : smQ ks pA pB j i < n := by
  rcases hv with ⟨rfl, rfl, h⟩ | ⟨rfl, h1, h⟩ | ⟨rfl, h1, h⟩ | ⟨rfl, h1, h⟩ | ⟨rfl, h1, h⟩ | ⟨rfl, h1, h⟩ | ⟨rfl, rfl, h⟩ | ⟨rfl, rfl, h⟩
  · exact hd _ _ hk.2.1
  · exact hd _ _ (hk.2.2.1.2 i h1)
  · exact hd _ _ (hk.2.2.2.1.2 i h1)
  · exact hd _ _ (hk.2.2.2.2.1.2 i h1)
  · exact hd _ _ (hk.2.2.2.2.2.1.2 i h1)
  · exact hd _ _ (hk.2.2.2.2.2.2.1.2 i h1)
  · exact hd _ _ hk.2.2.2.2.2.2.2
  · exact hd _ _ hk.1
theorem c_Sim_counts {ks S G M L O : Nat} {u : Va} {pA : Nat → Nat} {pB : Nat → Nat → Nat} (hk : isSim sh ks pA pB (pn_ S G M L O)) (hS0 : SR v u ks pA pB S G M L O) (hPm : PMo u S G M L O) (hI : IS u 173 L G M) (hco : ∀ a, a < 6 → M ≤ a → u 179 a = 0) : MetTR l yX12_counts cX12_counts 3 (some (FieldType.array FieldType.int)) 2 1 14 Γ sh v w n [.ref (Γ.2.1 + ks)] (fun r u2 => r = n ∧ ∃ g, u2 = (up sh n (some (sA 14)), up v n g, n + 1) ∧ ∀ w9, w9 ≤ 13 → g w9 = cS u w9) := by
  refine w_start pn_X12 (Nat.le_of_ble_eq_true rfl) fun p e s m args below meth c hx hb hml hret hlk hnm hts hown hK hP hz hE hS ls hl => ?_
  have hd : DM sh n := hP.dm hz
  have hG : GR sh n sh n := GR.rf
  refine lv_bipush (v := 14) hx hb dX12_counts_0 rfl ?_
  refine w_newa (n := n) (N := 14) hx hb hts hK hP hS ac_int (by decide) (by decide) (by decide) (Nat.le_refl _) (Nat.le_refl _) hz dX12_counts_2 fun H1 hz hP hS => ?_
  have hG1 : GR sh n (up sh n (some (sA 14))) (n + 1) := hG.nw
  have hk1 := hk.gr hd hG1
  have hlow : ∀ j i f, vQ S G M L O j i f → smQ ks pA pB j i < n := fun j i f hv => smQ_lt hk hd hv
  have key : ∀ g, SR (up v n g) u ks pA pB S G M L O := fun g => hS0.off fun j i f hv q => absurd (hlow j i f hv) (by omega)
  obtain ⟨⟨hS4, hG4, hM6, hL10, hO24⟩, ⟨hq1, hq2, hq3, hq4, hq5⟩, -⟩ := id hPm
  generalize hg0 : (fun _ => 0 : Nat → Int32) = g at hP
  refine lv_dup hx hb dX12_counts_4 rfl ?_
  refine lv_iconst (v := 0) hx hb dX12_counts_5 rfl ?_
  refine lv_aload_n hx hb dX12_counts_6 rfl (lv_at hl 0 rfl) ?_
  refine w_gi hx hb hts hown hK hP fX12_37 hk1.1 rfl dX12_counts_7 ?_
  rw [(key _).day]
  refine w_iaA (k := n) (n := n + 1) hx hb hK hP hS (gA_new (Nat.le_refl _)) hz (up_eq _ _ _) (vin (i := 0) (by omega) (by omega)) (v1 := up v n (upd g 0 (u 173 0))) (pu_up (i := 0)) dX12_counts_10 fun H1 locs1 hz hP hS => ?_
  generalize hg1 : upd g 0 (u 173 0) = g1 at hP
  refine lv_dup hx hb dX12_counts_11 rfl ?_
  refine lv_iconst (v := 1) hx hb dX12_counts_12 rfl ?_
  refine lv_aload_n hx hb dX12_counts_13 rfl (lv_at hl 0 rfl) ?_
  refine w_gi hx hb hts hown hK hP fX12_7 hk1.1 rfl dX12_counts_14 ?_
  rw [(key _).damp]
  refine w_iaA (k := n) (n := n + 1) hx hb hK hP hS (gA_new (Nat.le_refl _)) hz (up_eq _ _ _) (vin (i := 1) (by omega) (by omega)) (v1 := up v n (upd g1 1 (u 173 1))) (pu_up (i := 1)) dX12_counts_17 fun H1 locs1 hz hP hS => ?_
  generalize hg2 : upd g1 1 (u 173 1) = g2 at hP
  refine lv_dup hx hb dX12_counts_18 rfl ?_
  refine lv_iconst (v := 2) hx hb dX12_counts_19 rfl ?_
  refine lv_aload_n hx hb dX12_counts_20 rfl (lv_at hl 0 rfl) ?_
  refine w_gr hx hb hts hown hK hP fX12_13 hk1.1 rfl dX12_counts_21 ?_
  refine w_alen hx hb hK hP hk1.2.1 dX12_counts_24 ?_
  try rw [show pn_ S G M L O 0 = S from rfl]
  refine w_iaA (k := n) (n := n + 1) hx hb hK hP hS (gA_new (Nat.le_refl _)) hz (up_eq _ _ _) (vin (i := 2) (by omega) (by omega)) (v1 := up v n (upd g2 2 (nI S))) (pu_up (i := 2)) dX12_counts_25 fun H1 locs1 hz hP hS => ?_
  generalize hg3 : upd g2 2 (nI S) = g3 at hP
  refine lv_dup hx hb dX12_counts_26 rfl ?_
  refine lv_iconst (v := 3) hx hb dX12_counts_27 rfl ?_
  refine lv_aload_n hx hb dX12_counts_28 rfl (lv_at hl 0 rfl) ?_
  refine w_gr hx hb hts hown hK hP fX12_18 hk1.1 rfl dX12_counts_29 ?_
  refine w_alenR hx hb hK hP hk1.2.2.1.1 dX12_counts_32 ?_
  try rw [show pn_ S G M L O 1 = G from rfl]
  refine w_iaA (k := n) (n := n + 1) hx hb hK hP hS (gA_new (Nat.le_refl _)) hz (up_eq _ _ _) (vin (i := 3) (by omega) (by omega)) (v1 := up v n (upd g3 3 (nI G))) (pu_up (i := 3)) dX12_counts_33 fun H1 locs1 hz hP hS => ?_
  generalize hg4 : upd g3 3 (nI G) = g4 at hP
  refine lv_dup hx hb dX12_counts_34 rfl ?_
  refine lv_iconst (v := 4) hx hb dX12_counts_35 rfl ?_
  refine lv_aload_n hx hb dX12_counts_36 rfl (lv_at hl 0 rfl) ?_
  refine w_gr hx hb hts hown hK hP fX12_22 hk1.1 rfl dX12_counts_37 ?_
  refine w_alenR hx hb hK hP hk1.2.2.2.1.1 dX12_counts_40 ?_
  try rw [show pn_ S G M L O 2 = M from rfl]
  refine w_iaA (k := n) (n := n + 1) hx hb hK hP hS (gA_new (Nat.le_refl _)) hz (up_eq _ _ _) (vin (i := 4) (by omega) (by omega)) (v1 := up v n (upd g4 4 (nI M))) (pu_up (i := 4)) dX12_counts_41 fun H1 locs1 hz hP hS => ?_
  generalize hg5 : upd g4 4 (nI M) = g5 at hP
  refine lv_dup hx hb dX12_counts_42 rfl ?_
  refine lv_iconst (v := 5) hx hb dX12_counts_43 rfl ?_
  refine lv_aload_n hx hb dX12_counts_44 rfl (lv_at hl 0 rfl) ?_
  refine w_gr hx hb hts hown hK hP fX12_28 hk1.1 rfl dX12_counts_45 ?_
  refine w_alenR hx hb hK hP hk1.2.2.2.2.2.1.1 dX12_counts_48 ?_
  try rw [show pn_ S G M L O 4 = L from rfl]
  refine w_iaA (k := n) (n := n + 1) hx hb hK hP hS (gA_new (Nat.le_refl _)) hz (up_eq _ _ _) (vin (i := 5) (by omega) (by omega)) (v1 := up v n (upd g5 5 (nI L))) (pu_up (i := 5)) dX12_counts_49 fun H1 locs1 hz hP hS => ?_
  generalize hg6 : upd g5 5 (nI L) = g6 at hP
  refine lv_dup hx hb dX12_counts_50 rfl ?_
  refine lv_bipush (v := 6) hx hb dX12_counts_51 rfl ?_
  refine lv_aload_n hx hb dX12_counts_53 rfl (lv_at hl 0 rfl) ?_
  refine w_gr hx hb hts hown hK hP fX12_31 hk1.1 rfl dX12_counts_54 ?_
  refine w_alenR hx hb hK hP hk1.2.2.2.2.2.2.1.1 dX12_counts_57 ?_
  try rw [show pn_ S G M L O 5 = O from rfl]
  refine w_iaA (k := n) (n := n + 1) hx hb hK hP hS (gA_new (Nat.le_refl _)) hz (up_eq _ _ _) (vin (i := 6) (by omega) (by omega)) (v1 := up v n (upd g6 6 (nI O))) (pu_up (i := 6)) dX12_counts_58 fun H1 locs1 hz hP hS => ?_
  generalize hg7 : upd g6 6 (nI O) = g7 at hP
  refine lv_dup hx hb dX12_counts_59 rfl ?_
  refine lv_bipush (v := 7) hx hb dX12_counts_60 rfl ?_
  refine lv_aload_n hx hb dX12_counts_62 rfl (lv_at hl 0 rfl) ?_
  refine u_calli (Bs := []) (w_rV (k := ks) hx hb hml hts hown hK (c_Sim_weight hk1 (sim_weight (key _) hL10 hI.1 (z := 4001) (by omega))) rfl rfl kX12_weight mX12_88 (w_recv hK hP hk1.1 rfl) PN.blind (t_pn hK hd hG1 hE hS hP hz) rfl hl.1 rfl (Nat.le_of_ble_eq_true rfl) ⟨Nat.le_of_ble_eq_true rfl, Nat.le_of_ble_eq_true rfl⟩ ⟨Nat.le_refl _, Nat.le_refl _⟩ dX12_counts_63) hG1 hS fun r u9 H1 locs1 hp1 hz hP hS => ?_
  obtain ⟨hr1, hu1⟩ := hp1
  rw [hu1] at hP
  rw [hr1]
  refine w_iaA (k := n) (n := n + 1) hx hb hK hP hS (gA_new (Nat.le_refl _)) hz (up_eq _ _ _) (vin (i := 7) (by omega) (by omega)) (v1 := up v n (upd g7 7 (row_t (u 174) 10))) (pu_up (i := 7)) dX12_counts_66 fun H1 locs1 hz hP hS => ?_
  generalize hg8 : upd g7 7 (row_t (u 174) 10) = g8 at hP
  refine lv_dup hx hb dX12_counts_67 rfl ?_
  refine lv_bipush (v := 8) hx hb dX12_counts_68 rfl ?_
  refine lv_iconst (v := 0) hx hb dX12_counts_70 rfl ?_
  refine w_iaA (k := n) (n := n + 1) hx hb hK hP hS (gA_new (Nat.le_refl _)) hz (up_eq _ _ _) (vin (i := 8) (by omega) (by omega)) (v1 := up v n (upd g8 8 0)) (pu_up (i := 8)) dX12_counts_71 fun H1 locs1 hz hP hS => ?_
  generalize hg9 : upd g8 8 0 = g9 at hP
  refine lv_dup hx hb dX12_counts_72 rfl ?_
  refine lv_bipush (v := 9) hx hb dX12_counts_73 rfl ?_
  refine lv_iconst (v := 0) hx hb dX12_counts_75 rfl ?_
  refine w_iaA (k := n) (n := n + 1) hx hb hK hP hS (gA_new (Nat.le_refl _)) hz (up_eq _ _ _) (vin (i := 9) (by omega) (by omega)) (v1 := up v n (upd g9 9 0)) (pu_up (i := 9)) dX12_counts_76 fun H1 locs1 hz hP hS => ?_
  generalize hg10 : upd g9 9 0 = g10 at hP
  refine lv_dup hx hb dX12_counts_77 rfl ?_
  refine lv_bipush (v := 10) hx hb dX12_counts_78 rfl ?_
  refine lv_aload_n hx hb dX12_counts_80 rfl (lv_at hl 0 rfl) ?_
  refine w_gr hx hb hts hown hK hP fX12_34 hk1.1 rfl dX12_counts_81 ?_
  refine lv_iconst (v := 1) hx hb dX12_counts_84 rfl ?_
  refine w_iald hx hb hK hP hk1.2.2.2.2.2.2.2 (i := 1) (vin (i := 1) (by omega) (by omega)) dX12_counts_85 ?_
  rw [show (up v n g10) (pA 6) (1 : Int32).toNatClampNeg = u 173 2 from (key _) 6 0 1 (by unfold vQ; omega)]
  refine w_iaA (k := n) (n := n + 1) hx hb hK hP hS (gA_new (Nat.le_refl _)) hz (up_eq _ _ _) (vin (i := 10) (by omega) (by omega)) (v1 := up v n (upd g10 10 (u 173 2))) (pu_up (i := 10)) dX12_counts_86 fun H1 locs1 hz hP hS => ?_
  generalize hg11 : upd g10 10 (u 173 2) = g11 at hP
  refine lv_dup hx hb dX12_counts_87 rfl ?_
  refine lv_bipush (v := 11) hx hb dX12_counts_88 rfl ?_
  refine lv_aload_n hx hb dX12_counts_90 rfl (lv_at hl 0 rfl) ?_
  refine w_gr hx hb hts hown hK hP fX12_34 hk1.1 rfl dX12_counts_91 ?_
  refine lv_iconst (v := 0) hx hb dX12_counts_94 rfl ?_
  refine w_iald hx hb hK hP hk1.2.2.2.2.2.2.2 (i := 0) (vin (i := 0) (by omega) (by omega)) dX12_counts_95 ?_
  rw [show (up v n g11) (pA 6) (0 : Int32).toNatClampNeg = u 173 3 from (key _) 6 0 0 (by unfold vQ; omega)]
  refine w_iaA (k := n) (n := n + 1) hx hb hK hP hS (gA_new (Nat.le_refl _)) hz (up_eq _ _ _) (vin (i := 11) (by omega) (by omega)) (v1 := up v n (upd g11 11 (u 173 3))) (pu_up (i := 11)) dX12_counts_96 fun H1 locs1 hz hP hS => ?_
  generalize hg12 : upd g11 11 (u 173 3) = g12 at hP
  refine lv_dup hx hb dX12_counts_97 rfl ?_
  refine lv_bipush (v := 12) hx hb dX12_counts_98 rfl ?_
  refine lv_aload_n hx hb dX12_counts_100 rfl (lv_at hl 0 rfl) ?_
  refine w_gr hx hb hts hown hK hP fX12_34 hk1.1 rfl dX12_counts_101 ?_
  refine lv_iconst (v := 2) hx hb dX12_counts_104 rfl ?_
  refine w_iald hx hb hK hP hk1.2.2.2.2.2.2.2 (i := 2) (vin (i := 2) (by omega) (by omega)) dX12_counts_105 ?_
  rw [show (up v n g12) (pA 6) (2 : Int32).toNatClampNeg = u 173 4 from (key _) 6 0 2 (by unfold vQ; omega)]
  refine w_iaA (k := n) (n := n + 1) hx hb hK hP hS (gA_new (Nat.le_refl _)) hz (up_eq _ _ _) (vin (i := 12) (by omega) (by omega)) (v1 := up v n (upd g12 12 (u 173 4))) (pu_up (i := 12)) dX12_counts_106 fun H1 locs1 hz hP hS => ?_
  generalize hg13 : upd g12 12 (u 173 4) = g13 at hP
  refine lv_dup hx hb dX12_counts_107 rfl ?_
  refine lv_bipush (v := 13) hx hb dX12_counts_108 rfl ?_
  refine lv_iconst (v := 0) hx hb dX12_counts_110 rfl ?_
  refine w_iaA (k := n) (n := n + 1) hx hb hK hP hS (gA_new (Nat.le_refl _)) hz (up_eq _ _ _) (vin (i := 13) (by omega) (by omega)) (v1 := up v n (upd g13 13 0)) (pu_up (i := 13)) dX12_counts_111 fun H1 locs1 hz hP hS => ?_
  generalize hg14 : upd g13 13 0 = g14 at hP
  refine lv_astore_n (lv' := [(1, .ref (Γ.2.1 + n)), (0, .ref (Γ.2.1 + ks))]) hx hb dX12_counts_112 rfl hl (by decide) rfl fun ls hl => ?_
  refine lv_iconst (v := 0) hx hb dX12_counts_113 rfl ?_
  refine lv_istore_n (lv' := [(2, .int 0), (1, .ref (Γ.2.1 + n)), (0, .ref (Γ.2.1 + ks))]) hx hb dX12_counts_114 rfl hl (by decide) rfl fun ls hl => ?_
  have fin : ∀ w9, w9 ≤ 13 → w9 ≠ 8 → w9 ≠ 9 → g14 w9 = cS u w9 := by
    intro w9 h1 h2 h3
    rcases (by omega : w9 = 0 ∨ w9 = 1 ∨ w9 = 2 ∨ w9 = 3 ∨ w9 = 4 ∨ w9 = 5 ∨ w9 = 6 ∨ w9 = 7 ∨ w9 = 10 ∨ w9 = 11 ∨ w9 = 12 ∨ w9 = 13) with rfl | rfl | rfl | rfl | rfl | rfl | rfl | rfl | rfl | rfl | rfl | rfl
    all_goals
      simp (disch := omega) only [← hg14, ← hg13, ← hg12, ← hg11, ← hg10, ← hg9, ← hg8, ← hg7, ← hg6, ← hg5, ← hg4, ← hg3, ← hg2, ← hg1, upd_ne, upd_eq]
      first | rfl | exact hq1.symm | exact hq2.symm | exact hq3.symm | exact hq4.symm | exact hq5.symm
  have f8 : g14 8 = 0 := by simp (disch := omega) only [← hg14, ← hg13, ← hg12, ← hg11, ← hg10, ← hg9, ← hg8, ← hg7, ← hg6, ← hg5, ← hg4, ← hg3, ← hg2, ← hg1, upd_ne, upd_eq]
  have f9 : g14 9 = 0 := by simp (disch := omega) only [← hg14, ← hg13, ← hg12, ← hg11, ← hg10, ← hg9, ← hg8, ← hg7, ← hg6, ← hg5, ← hg4, ← hg3, ← hg2, ← hg1, upd_ne, upd_eq]
  have lp : ∀ (j a : Nat), a + j = M → ∀ (g : Nat → Int32) (H1 : Heap) (locs1 : List Loc) (ls : Array Slot), lv_has ls 3 [(2, .int (nI a)), (1, .ref (Γ.2.1 + n)), (0, .ref (Γ.2.1 + ks))] → (∀ w9, w9 ≤ 13 → w9 ≠ 8 → w9 ≠ 9 → g w9 = cS u w9) → g 8 = row_t (u 180) (6 * a) → g 9 = row_t (u 179) a → H1.size = Γ.2.1 + (n + 1) → Wd Γ (up sh n (some (sA 14))) (up v n g) w H1 → va_S (gA Γ sh n) s.heap H1 locs1 → W p l e (rmc 2 1 14) s m args below meth c H1 locs1 1 14 (MQ below (va_Qr (fun u1 : Nat × Wt => (fun r u2 => r = n ∧ ∃ g, u2 = (up sh n (some (sA 14)), up v n g, n + 1) ∧ ∀ w9, w9 ≤ 13 → g w9 = cS u w9) u1.1 u1.2) (fun u a t => a = Γ.2.1 + u.1 ∧ PN Γ u.2.1 u.2.2.1 w u.2.2.2 t) (gA Γ sh n)) args s 1 14 (gA Γ sh n)) (F0 m 115 ls []) := by
    intro j
    induction j with
    | zero =>
      intro a hij g H1 locs1 ls hl f1 f2 f3 hz hP hS
      have ha : a = M := by omega
      subst ha
      refine lv_iload_n hx hb dX12_counts_115 rfl (lv_at hl 0 rfl) ?_
      refine lv_aload_n hx hb dX12_counts_116 rfl (lv_at hl 2 rfl) ?_
      refine w_gr hx hb hts hown hK hP fX12_22 hk1.1 rfl dX12_counts_117 ?_
      refine w_alenR hx hb hK hP hk1.2.2.2.1.1 dX12_counts_120 ?_
      refine lv_icmp_ge (tgt := 157) hx hb dX12_counts_121 rfl (fun _ => ?_) (fun q => absurd (Int32.le_refl _) q)
      refine lv_aload_n hx hb dX12_counts_157 rfl (lv_at hl 1 rfl) ?_
      exact t_rret (post := (fun r u2 => r = n ∧ ∃ g, u2 = (up sh n (some (sA 14)), up v n g, n + 1) ∧ ∀ w9, w9 ≤ 13 → g w9 = cS u w9)) hx hb hret (Or.inr ⟨_, rfl⟩) hlk hK hP hS hz hE hd hG1 ⟨rfl, g, rfl, fun w9 hw => by
        by_cases h8 : w9 = 8
        · subst h8; rw [f2]; exact debts_all hM6 hI.2.2.2.2.1
        · by_cases h9 : w9 = 9
          · subst h9; rw [f3]; exact coins_all hM6 hco
          · exact f1 w9 hw h8 h9⟩ dX12_counts_158
    | succ j ih =>
      intro a hij g H1 locs1 ls hl f1 f2 f3 hz hP hS
      have ha : a < M := by omega
      refine lv_iload_n hx hb dX12_counts_115 rfl (lv_at hl 0 rfl) ?_
      refine lv_aload_n hx hb dX12_counts_116 rfl (lv_at hl 2 rfl) ?_
      refine w_gr hx hb hts hown hK hP fX12_22 hk1.1 rfl dX12_counts_117 ?_
      refine w_alenR hx hb hK hP hk1.2.2.2.1.1 dX12_counts_120 ?_
      refine lv_icmp_ge (tgt := 157) hx hb dX12_counts_121 rfl (fun q => absurd ((ni_le (show M ≤ 4000 by omega) (by omega)).mp q) (by omega)) (fun _ => ?_)
      refine lv_aload_n hx hb dX12_counts_124 rfl (lv_at hl 1 rfl) ?_
      refine lv_bipush (v := 8) hx hb dX12_counts_125 rfl ?_
      refine lv_dup2_11 hx hb dX12_counts_127 rfl rfl ?_
      refine w_iald (k := n) hx hb hK hP (up_eq _ _ _) (i := 8) (vin (i := 8) (by omega) (by omega)) dX12_counts_128 ?_
      rw [up_eq, lc_8]
      refine lv_aload_n hx hb dX12_counts_129 rfl (lv_at hl 2 rfl) ?_
      refine lv_iload_n hx hb dX12_counts_130 rfl (lv_at hl 0 rfl) ?_
      refine u_calli (Bs := [.int (nI a)]) (w_rV (k := ks) hx hb hml hts hown hK (c_Sim_debts hk1 (sim_debts (key _) hM6 hI.2.2.2.2.1 (z := 4001) (by omega) ha)) rfl rfl kX12_debts mX12_49 (w_recv hK hP hk1.1 rfl) PN.blind (t_pn hK hd hG1 hE hS hP hz) rfl hl.1 rfl (Nat.le_of_ble_eq_true rfl) ⟨Nat.le_of_ble_eq_true rfl, Nat.le_of_ble_eq_true rfl⟩ ⟨Nat.le_refl _, Nat.le_refl _⟩ dX12_counts_131) hG1 hS fun r u9 H1 locs1 hp1 hz hP hS => ?_
      obtain ⟨hr1, hu1⟩ := hp1
      rw [hu1] at hP
      rw [hr1]
      refine lv_iadd hx hb dX12_counts_134 ?_
      refine w_iaA (k := n) (n := n + 1) hx hb hK hP hS (gA_new (Nat.le_refl _)) hz (up_eq _ _ _) (vin (i := 8) (by omega) (by omega)) (v1 := up v n (upd g 8 (g 8 + row_t (fun b => u 180 (6 * a + b)) 6))) (pu_up (i := 8)) dX12_counts_135 fun H1 locs1 hz hP hS => ?_
      refine lv_aload_n hx hb dX12_counts_136 rfl (lv_at hl 1 rfl) ?_
      refine lv_bipush (v := 9) hx hb dX12_counts_137 rfl ?_
      refine lv_dup2_11 hx hb dX12_counts_139 rfl rfl ?_
      refine w_iald (k := n) hx hb hK hP (up_eq _ _ _) (i := 9) (vin (i := 9) (by omega) (by omega)) dX12_counts_140 ?_
      rw [up_eq, lc_9, upd_ne (show 9 ≠ 8 by decide)]
      refine lv_aload_n hx hb dX12_counts_141 rfl (lv_at hl 2 rfl) ?_
      refine w_gr hx hb hts hown hK hP fX12_22 hk1.1 rfl dX12_counts_142 ?_
      refine lv_iload_n hx hb dX12_counts_145 rfl (lv_at hl 0 rfl) ?_
      refine z_aald hx hb hK hP hk1.2.2.2.1.1 (i := nI a) (vin ha (show M ≤ 1000000 by omega)) dX12_counts_146 ?_
      rw [nI_clamp (by omega)]
      refine lv_iconst (v := 0) hx hb dX12_counts_147 rfl ?_
      refine w_iald hx hb hK hP (hk1.2.2.2.1.2 a ha) (i := 0) (vin (i := 0) (by omega) (by omega)) dX12_counts_148 ?_
      rw [lc_0, (key _).coins ha]
      refine lv_iadd hx hb dX12_counts_149 ?_
      refine w_iaA (k := n) (n := n + 1) hx hb hK hP hS (gA_new (Nat.le_refl _)) hz (up_eq _ _ _) (vin (i := 9) (by omega) (by omega)) (v1 := up v n (upd (upd g 8 (g 8 + row_t (fun b => u 180 (6 * a + b)) 6)) 9 (g 9 + u 179 a))) (pu_up (i := 9)) dX12_counts_150 fun H1 locs1 hz hP hS => ?_
      refine lv_iinc (k := 0) (v := ((nI a) + 1)) (lv' := [(2, .int ((nI a) + 1)), (1, .ref (Γ.2.1 + n)), (0, .ref (Γ.2.1 + ks))]) hx hb dX12_counts_151 hl rfl rfl (by decide) rfl fun ls hl => ?_
      refine lv_goto (tgt := 115) hx hb dX12_counts_154 rfl ?_
      rw [ni_s] at hl
      refine ih (a + 1) (by omega) _ _ _ _ hl (fun w9 h1 h2 h3 => by rw [upd_ne h3, upd_ne h2]; exact f1 w9 h1 h2 h3) ?_ ?_ hz hP hS
      · rw [upd_ne (by decide), upd_eq, f2, row_six]
      · rw [upd_eq, f3]; rfl
  exact lp M 0 (by omega) g14 _ _ _ (lv_sub hl [0, 1, 2] rfl) fin f8 f9 hz hP hS
end JE
