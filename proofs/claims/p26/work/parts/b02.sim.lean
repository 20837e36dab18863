/-! THE SIM, its methods that make nothing -/
def isSim (sh : Sh) (ks : Nat) (pA : Nat → Nat) (pB : Nat → Nat → Nat) (pN : Nat → Nat) : Prop := sh ks = some (sO 11 [0, 0, ((pA 0) + 3), ((pA 1) + 3), ((pA 2) + 3), ((pA 3) + 3), ((pA 4) + 3), ((pA 5) + 3), ((pA 6) + 3)]) ∧ sh (pA 0) = some (sA (pN 0)) ∧ isRR sh (pA 1) (pN 1) (pB 1) 3 ∧ isRR sh (pA 2) (pN 2) (pB 2) 2 ∧ isRR sh (pA 3) (pN 3) (pB 3) (pN 2) ∧ isRR sh (pA 4) (pN 4) (pB 4) 6 ∧ isRR sh (pA 5) (pN 5) (pB 5) 12 ∧ sh (pA 6) = some (sA 3)

section GE
variable {l : Launch} {Γ : Cx} {sh : Sh} {v : Va} {w : Vl} {n z : Nat}
def b_Sim_debts_16 (v : Va) (pB : Nat → Nat → Nat) (pN : Nat → Nat) (a1 : Int32) (K16 : (Int32 × Int32) → Option Int32) (t16 : Int32 × Int32) : Option Int32 := if (nI (pN 2)) ≤ t16.2 then (some t16.1) else (if t16.2 < 0 ∨ (pN 2) ≤ t16.2.toNatClampNeg then none else K16 ((t16.1 + (v (pB 3 a1.toNatClampNeg) t16.2.toNatClampNeg)), (t16.2 + 1)))
def f_Sim_debts (z : Nat) (v : Va) (ks : Nat) (pA : Nat → Nat) (pB : Nat → Nat → Nat) (pN : Nat → Nat) (a1 : Int32) : Option Int32 := if a1 < 0 ∨ (pN 3) ≤ a1.toNatClampNeg then none else rp (b_Sim_debts_16 v pB pN a1) z (0, 0)
theorem c_Sim_debts {ks : Nat} {pA : Nat → Nat} {pB : Nat → Nat → Nat} {pN : Nat → Nat} {a1 : Int32} (hk : isSim sh ks pA pB pN) {q : Int32} (h : f_Sim_debts z v ks pA pB pN a1 = some q) : MetI l yX12_debts cX12_debts 7 (some .int) 0 Γ sh v w n [.ref (Γ.2.1 + ks), .int a1] (fun x u => x = q ∧ u = v) := by
  unfold f_Sim_debts at h
  refine w_start pn_X12 (Nat.le_of_ble_eq_true rfl) fun p e s m args below meth c hx hb hml hret hlk hnm hts hown hK hP hz hE hS ls hl => ?_
  refine lv_iconst (v := 0) hx hb dX12_debts_0 rfl ?_
  refine lv_istore_n (lv' := [(2, .int 0), (0, .ref (Γ.2.1 + ks)), (1, .int a1)]) hx hb dX12_debts_1 rfl hl (by decide) rfl fun ls hl => ?_
  refine lv_aload_n hx hb dX12_debts_2 rfl (lv_at hl 1 rfl) ?_
  refine w_gr (k := ks) (r := (pA 3)) hx hb hts hown hK hP fX12_25 hk.1 rfl dX12_debts_3 ?_
  refine lv_iload_n hx hb dX12_debts_6 rfl (lv_at hl 2 rfl) ?_
  obtain ⟨hn7, h⟩ := itn_e h
  refine z_aald (k := (pA 3)) hx hb hK hP hk.2.2.2.2.1.1 hn7 dX12_debts_7 ?_
  refine lv_astore_n (lv' := [(3, .ref (Γ.2.1 + (pB 3 a1.toNatClampNeg))), (2, .int 0), (0, .ref (Γ.2.1 + ks)), (1, .int a1)]) hx hb dX12_debts_8 rfl hl (by decide) rfl fun ls hl => ?_
  refine lv_aload_n hx hb dX12_debts_9 rfl (lv_at hl 0 rfl) ?_
  refine w_alen (k := (pB 3 a1.toNatClampNeg)) hx hb hK hP (hk.2.2.2.2.1.2 _ (Nat.lt_of_not_le fun q => hn7 (Or.inr q))) dX12_debts_10 ?_
  refine lv_istore (lv' := [(4, .int (nI (pN 2))), (3, .ref (Γ.2.1 + (pB 3 a1.toNatClampNeg))), (2, .int 0), (0, .ref (Γ.2.1 + ks)), (1, .int a1)]) hx hb dX12_debts_11 hl (by decide) rfl fun ls hl => ?_
  refine lv_iconst (v := 0) hx hb dX12_debts_13 rfl ?_
  refine lv_istore (lv' := [(5, .int 0), (4, .int (nI (pN 2))), (3, .ref (Γ.2.1 + (pB 3 a1.toNatClampNeg))), (2, .int 0), (0, .ref (Γ.2.1 + ks)), (1, .int a1)]) hx hb dX12_debts_14 hl (by decide) rfl fun ls hl => ?_
  have L16 : ∀ (fu : Nat) (t16 : Int32 × Int32), rp (b_Sim_debts_16 v pB pN a1) fu t16 = some q → ∀ (H1 : Heap) (locs1 : List Loc) (ls1 : Array Slot), lv_has ls1 7 [(2, .int t16.1), (3, .ref (Γ.2.1 + (pB 3 a1.toNatClampNeg))), (4, .int (nI (pN 2))), (5, .int t16.2)] → Wd Γ sh v w H1 → va_S (gA Γ sh n) s.heap H1 locs1 → H1.size = Γ.2.1 + n → wpI Γ sh w n 0 (fun x u => x = q ∧ u = v) p l e s m args below meth c H1 locs1 (F0 m 16 ls1 []) := by
    refine q_loop (fun K16 ih16 t16 h H1 locs1 ls hl hP hS hz => ?_)
    unfold b_Sim_debts_16 at h
    refine lv_iload hx hb dX12_debts_16 (lv_at hl 3 rfl) ?_
    refine lv_iload hx hb dX12_debts_18 (lv_at hl 2 rfl) ?_
    refine lv_icmp_ge (tgt := 40) hx hb dX12_debts_20 rfl (fun hc20 => ?_) (fun hc20 => ?_)
    · have h := itt_e h hc20
      refine lv_iload_n hx hb dX12_debts_40 rfl (lv_at hl 0 rfl) ?_
      exact w_iret hx hb hret rfl hlk hK hP hS hz hE (q_p1 h) dX12_debts_41
    · have h := itf_e h hc20
      refine lv_aload_n hx hb dX12_debts_23 rfl (lv_at hl 1 rfl) ?_
      refine lv_iload hx hb dX12_debts_24 (lv_at hl 3 rfl) ?_
      obtain ⟨hn26, h⟩ := itn_e h
      refine w_iald (k := (pB 3 a1.toNatClampNeg)) hx hb hK hP (hk.2.2.2.2.1.2 _ (Nat.lt_of_not_le fun q => hn7 (Or.inr q))) hn26 dX12_debts_26 ?_
      refine lv_istore (lv' := [(6, .int (v (pB 3 a1.toNatClampNeg) t16.2.toNatClampNeg)), (2, .int t16.1), (3, .ref (Γ.2.1 + (pB 3 a1.toNatClampNeg))), (4, .int (nI (pN 2))), (5, .int t16.2)]) hx hb dX12_debts_27 hl (by decide) rfl fun ls hl => ?_
      refine lv_iload_n hx hb dX12_debts_29 rfl (lv_at hl 1 rfl) ?_
      refine lv_iload hx hb dX12_debts_30 (lv_at hl 0 rfl) ?_
      refine lv_iadd hx hb dX12_debts_32 ?_
      refine lv_istore_n (lv' := [(2, .int (t16.1 + (v (pB 3 a1.toNatClampNeg) t16.2.toNatClampNeg))), (6, .int (v (pB 3 a1.toNatClampNeg) t16.2.toNatClampNeg)), (3, .ref (Γ.2.1 + (pB 3 a1.toNatClampNeg))), (4, .int (nI (pN 2))), (5, .int t16.2)]) hx hb dX12_debts_33 rfl hl (by decide) rfl fun ls hl => ?_
      refine lv_iinc (k := 4) (v := (t16.2 + 1)) (lv' := [(5, .int (t16.2 + 1)), (2, .int (t16.1 + (v (pB 3 a1.toNatClampNeg) t16.2.toNatClampNeg))), (6, .int (v (pB 3 a1.toNatClampNeg) t16.2.toNatClampNeg)), (3, .ref (Γ.2.1 + (pB 3 a1.toNatClampNeg))), (4, .int (nI (pN 2)))]) hx hb dX12_debts_34 hl rfl rfl (by decide) rfl fun ls hl => ?_
      refine lv_goto (tgt := 16) hx hb dX12_debts_37 rfl ?_
      exact ih16 ((t16.1 + (v (pB 3 a1.toNatClampNeg) t16.2.toNatClampNeg)), (t16.2 + 1)) h _ _ _ (lv_sub hl [1, 3, 4, 0] rfl) hP hS hz
  exact L16 z (0, 0) h _ _ _ (lv_sub hl [3, 2, 1, 0] rfl) hP hS hz
def b_Sim_owed_14 (v : Va) (pB : Nat → Nat → Nat) (pN : Nat → Nat) (a1 : Int32) (K14 : (Int32 × Int32) → Option Int32) (t14 : Int32 × Int32) : Option Int32 := if (nI (pN 3)) ≤ t14.2 then (some t14.1) else (if t14.2 < 0 ∨ (pN 3) ≤ t14.2.toNatClampNeg then none else if a1 < 0 ∨ (pN 2) ≤ a1.toNatClampNeg then none else K14 ((t14.1 + (v (pB 3 t14.2.toNatClampNeg) a1.toNatClampNeg)), (t14.2 + 1)))
def f_Sim_owed (z : Nat) (v : Va) (ks : Nat) (pA : Nat → Nat) (pB : Nat → Nat → Nat) (pN : Nat → Nat) (a1 : Int32) : Option Int32 := rp (b_Sim_owed_14 v pB pN a1) z (0, 0)
theorem c_Sim_owed {ks : Nat} {pA : Nat → Nat} {pB : Nat → Nat → Nat} {pN : Nat → Nat} {a1 : Int32} (hk : isSim sh ks pA pB pN) {q : Int32} (h : f_Sim_owed z v ks pA pB pN a1 = some q) : MetI l yX12_owed cX12_owed 7 (some .int) 0 Γ sh v w n [.ref (Γ.2.1 + ks), .int a1] (fun x u => x = q ∧ u = v) := by
  unfold f_Sim_owed at h
  refine w_start pn_X12 (Nat.le_of_ble_eq_true rfl) fun p e s m args below meth c hx hb hml hret hlk hnm hts hown hK hP hz hE hS ls hl => ?_
  refine lv_iconst (v := 0) hx hb dX12_owed_0 rfl ?_
  refine lv_istore_n (lv' := [(2, .int 0), (0, .ref (Γ.2.1 + ks)), (1, .int a1)]) hx hb dX12_owed_1 rfl hl (by decide) rfl fun ls hl => ?_
  refine lv_aload_n hx hb dX12_owed_2 rfl (lv_at hl 1 rfl) ?_
  refine w_gr (k := ks) (r := (pA 3)) hx hb hts hown hK hP fX12_25 hk.1 rfl dX12_owed_3 ?_
  refine lv_astore_n (lv' := [(3, .ref (Γ.2.1 + (pA 3))), (2, .int 0), (0, .ref (Γ.2.1 + ks)), (1, .int a1)]) hx hb dX12_owed_6 rfl hl (by decide) rfl fun ls hl => ?_
  refine lv_aload_n hx hb dX12_owed_7 rfl (lv_at hl 0 rfl) ?_
  refine w_alenR (k := (pA 3)) hx hb hK hP hk.2.2.2.2.1.1 dX12_owed_8 ?_
  refine lv_istore (lv' := [(4, .int (nI (pN 3))), (3, .ref (Γ.2.1 + (pA 3))), (2, .int 0), (0, .ref (Γ.2.1 + ks)), (1, .int a1)]) hx hb dX12_owed_9 hl (by decide) rfl fun ls hl => ?_
  refine lv_iconst (v := 0) hx hb dX12_owed_11 rfl ?_
  refine lv_istore (lv' := [(5, .int 0), (4, .int (nI (pN 3))), (3, .ref (Γ.2.1 + (pA 3))), (2, .int 0), (0, .ref (Γ.2.1 + ks)), (1, .int a1)]) hx hb dX12_owed_12 hl (by decide) rfl fun ls hl => ?_
  have L14 : ∀ (fu : Nat) (t14 : Int32 × Int32), rp (b_Sim_owed_14 v pB pN a1) fu t14 = some q → ∀ (H1 : Heap) (locs1 : List Loc) (ls1 : Array Slot), lv_has ls1 7 [(1, .int a1), (2, .int t14.1), (3, .ref (Γ.2.1 + (pA 3))), (4, .int (nI (pN 3))), (5, .int t14.2)] → Wd Γ sh v w H1 → va_S (gA Γ sh n) s.heap H1 locs1 → H1.size = Γ.2.1 + n → wpI Γ sh w n 0 (fun x u => x = q ∧ u = v) p l e s m args below meth c H1 locs1 (F0 m 14 ls1 []) := by
    refine q_loop (fun K14 ih14 t14 h H1 locs1 ls hl hP hS hz => ?_)
    unfold b_Sim_owed_14 at h
    refine lv_iload hx hb dX12_owed_14 (lv_at hl 4 rfl) ?_
    refine lv_iload hx hb dX12_owed_16 (lv_at hl 3 rfl) ?_
    refine lv_icmp_ge (tgt := 40) hx hb dX12_owed_18 rfl (fun hc18 => ?_) (fun hc18 => ?_)
    · have h := itt_e h hc18
      refine lv_iload_n hx hb dX12_owed_40 rfl (lv_at hl 1 rfl) ?_
      exact w_iret hx hb hret rfl hlk hK hP hS hz hE (q_p1 h) dX12_owed_41
    · have h := itf_e h hc18
      refine lv_aload_n hx hb dX12_owed_21 rfl (lv_at hl 2 rfl) ?_
      refine lv_iload hx hb dX12_owed_22 (lv_at hl 4 rfl) ?_
      obtain ⟨hn24, h⟩ := itn_e h
      refine z_aald (k := (pA 3)) hx hb hK hP hk.2.2.2.2.1.1 hn24 dX12_owed_24 ?_
      refine lv_astore (lv' := [(6, .ref (Γ.2.1 + (pB 3 t14.2.toNatClampNeg))), (1, .int a1), (2, .int t14.1), (3, .ref (Γ.2.1 + (pA 3))), (4, .int (nI (pN 3))), (5, .int t14.2)]) hx hb dX12_owed_25 hl (by decide) rfl fun ls hl => ?_
      refine lv_iload_n hx hb dX12_owed_27 rfl (lv_at hl 2 rfl) ?_
      refine lv_aload hx hb dX12_owed_28 (lv_at hl 0 rfl) ?_
      refine lv_iload_n hx hb dX12_owed_30 rfl (lv_at hl 1 rfl) ?_
      obtain ⟨hn31, h⟩ := itn_e h
      refine w_iald (k := (pB 3 t14.2.toNatClampNeg)) hx hb hK hP (hk.2.2.2.2.1.2 _ (Nat.lt_of_not_le fun q => hn24 (Or.inr q))) hn31 dX12_owed_31 ?_
      refine lv_iadd hx hb dX12_owed_32 ?_
      refine lv_istore_n (lv' := [(2, .int (t14.1 + (v (pB 3 t14.2.toNatClampNeg) a1.toNatClampNeg))), (6, .ref (Γ.2.1 + (pB 3 t14.2.toNatClampNeg))), (1, .int a1), (3, .ref (Γ.2.1 + (pA 3))), (4, .int (nI (pN 3))), (5, .int t14.2)]) hx hb dX12_owed_33 rfl hl (by decide) rfl fun ls hl => ?_
      refine lv_iinc (k := 5) (v := (t14.2 + 1)) (lv' := [(5, .int (t14.2 + 1)), (2, .int (t14.1 + (v (pB 3 t14.2.toNatClampNeg) a1.toNatClampNeg))), (6, .ref (Γ.2.1 + (pB 3 t14.2.toNatClampNeg))), (1, .int a1), (3, .ref (Γ.2.1 + (pA 3))), (4, .int (nI (pN 3)))]) hx hb dX12_owed_34 hl rfl rfl (by decide) rfl fun ls hl => ?_
      refine lv_goto (tgt := 14) hx hb dX12_owed_37 rfl ?_
      exact ih14 ((t14.1 + (v (pB 3 t14.2.toNatClampNeg) a1.toNatClampNeg)), (t14.2 + 1)) h _ _ _ (lv_sub hl [3, 1, 4, 5, 0] rfl) hP hS hz
  exact L14 z (0, 0) h _ _ _ (lv_sub hl [5, 3, 2, 1, 0] rfl) hP hS hz
def f_Sim_age (v : Va) (ks : Nat) (pA : Nat → Nat) (pB : Nat → Nat → Nat) (pN : Nat → Nat) (ka1 : Nat) (Na1 : Nat) : Option Int32 := if (3 : Int32) < 0 ∨ Na1 ≤ (3 : Int32).toNatClampNeg then none else if 0 ≤ (v ka1 (3 : Int32).toNatClampNeg) then (if (5 : Int32) < 0 ∨ Na1 ≤ (5 : Int32).toNatClampNeg then none else some ((v ks 0) - (v ka1 (5 : Int32).toNatClampNeg))) else (some 0)
theorem c_Sim_age {ks : Nat} {pA : Nat → Nat} {pB : Nat → Nat → Nat} {pN : Nat → Nat} {ka1 : Nat} {Na1 : Nat} (hk : isSim sh ks pA pB pN) (ha1 : sh ka1 = some (sA Na1)) {q : Int32} (h : f_Sim_age v ks pA pB pN ka1 Na1 = some q) : MetI l yX12_age cX12_age 2 (some .int) 0 Γ sh v w n [.ref (Γ.2.1 + ks), .ref (Γ.2.1 + ka1)] (fun x u => x = q ∧ u = v) := by
  unfold f_Sim_age at h
  refine w_start pn_X12 (Nat.le_of_ble_eq_true rfl) fun p e s m args below meth c hx hb hml hret hlk hnm hts hown hK hP hz hE hS ls hl => ?_
  refine lv_aload_n hx hb dX12_age_0 rfl (lv_at hl 1 rfl) ?_
  refine lv_iconst (v := 3) hx hb dX12_age_1 rfl ?_
  obtain ⟨hn2, h⟩ := itn_e h
  refine w_iald (k := ka1) hx hb hK hP ha1 hn2 dX12_age_2 ?_
  refine lv_if_ge (tgt := 10) hx hb dX12_age_3 rfl (fun hc3 => ?_) (fun hc3 => ?_)
  · have h := itt_e h hc3
    refine lv_aload_n hx hb dX12_age_10 rfl (lv_at hl 0 rfl) ?_
    refine w_gi (k := ks) hx hb hts hown hK hP fX12_37 hk.1 rfl dX12_age_11 ?_
    refine lv_aload_n hx hb dX12_age_14 rfl (lv_at hl 1 rfl) ?_
    refine lv_iconst (v := 5) hx hb dX12_age_15 rfl ?_
    obtain ⟨hn16, h⟩ := itn_e h
    refine w_iald (k := ka1) hx hb hK hP ha1 hn16 dX12_age_16 ?_
    refine lv_isub hx hb dX12_age_17 ?_
    exact w_iret hx hb hret rfl hlk hK hP hS hz hE (q_p1 h) dX12_age_18
  · have h := itf_e h hc3
    refine lv_iconst (v := 0) hx hb dX12_age_6 rfl ?_
    refine lv_goto (tgt := 18) hx hb dX12_age_7 rfl ?_
    exact w_iret hx hb hret rfl hlk hK hP hS hz hE (q_p1 h) dX12_age_18
def j_Sim_sum_128 (v : Va) (ks : Nat) (ka1 : Nat) (s128_0 : Int32) : Option Int32 := some ((q_max s128_0 (v ka1 (4 : Int32).toNatClampNeg)) - (v ks 0))
def f_Sim_sum (z : Nat) (v : Va) (ks : Nat) (pA : Nat → Nat) (pB : Nat → Nat → Nat) (pN : Nat → Nat) (ka1 : Nat) (Na1 : Nat) : Option Int32 := if (4 : Int32) < 0 ∨ Na1 ≤ (4 : Int32).toNatClampNeg then none else if (7 : Int32) < 0 ∨ Na1 ≤ (7 : Int32).toNatClampNeg then none else if (8 : Int32) < 0 ∨ Na1 ≤ (8 : Int32).toNatClampNeg then none else if (9 : Int32) < 0 ∨ Na1 ≤ (9 : Int32).toNatClampNeg then none else if (v ka1 (9 : Int32).toNatClampNeg) < 0 ∨ (pN 4) ≤ (v ka1 (9 : Int32).toNatClampNeg).toNatClampNeg then none else if (3 : Int32) < 0 ∨ Na1 ≤ (3 : Int32).toNatClampNeg then none else if (v ka1 (3 : Int32).toNatClampNeg) = 0 then (some (v ka1 (4 : Int32).toNatClampNeg)) else (if (v ka1 (3 : Int32).toNatClampNeg) = 1 then (if (v ka1 (7 : Int32).toNatClampNeg) < 0 ∨ (pN 2) ≤ (v ka1 (7 : Int32).toNatClampNeg).toNatClampNeg then none else if (0 : Int32) < 0 ∨ 2 ≤ (0 : Int32).toNatClampNeg then none else some (((v (pB 2 (v ka1 (7 : Int32).toNatClampNeg).toNatClampNeg) (0 : Int32).toNatClampNeg) / 2) + (v ka1 (4 : Int32).toNatClampNeg))) else (if (v ka1 (3 : Int32).toNatClampNeg) = 2 then (if (1 : Int32) < 0 ∨ 6 ≤ (1 : Int32).toNatClampNeg then none else some (((v (pB 4 (v ka1 (9 : Int32).toNatClampNeg).toNatClampNeg) (1 : Int32).toNatClampNeg) / 100) - (v ka1 (4 : Int32).toNatClampNeg))) else (if (v ka1 (3 : Int32).toNatClampNeg) = 3 then (if (v ka1 (7 : Int32).toNatClampNeg) < 0 ∨ (pN 3) ≤ (v ka1 (7 : Int32).toNatClampNeg).toNatClampNeg then none else if (v ka1 (8 : Int32).toNatClampNeg) < 0 ∨ (pN 2) ≤ (v ka1 (8 : Int32).toNatClampNeg).toNatClampNeg then none else some (2 * (q_min (v (pB 3 (v ka1 (7 : Int32).toNatClampNeg).toNatClampNeg) (v ka1 (8 : Int32).toNatClampNeg).toNatClampNeg) (v ka1 (4 : Int32).toNatClampNeg)))) else (if (v ka1 (3 : Int32).toNatClampNeg) = 4 then (if (3 : Int32) < 0 ∨ 6 ≤ (3 : Int32).toNatClampNeg then none else if 0 ≤ (v (pB 4 (v ka1 (9 : Int32).toNatClampNeg).toNatClampNeg) (3 : Int32).toNatClampNeg) then (if (4 : Int32) < 0 ∨ 6 ≤ (4 : Int32).toNatClampNeg then none else j_Sim_sum_128 v ks ka1 (v (pB 4 (v ka1 (9 : Int32).toNatClampNeg).toNatClampNeg) (4 : Int32).toNatClampNeg)) else (j_Sim_sum_128 v ks ka1 0)) else (if (v ka1 (3 : Int32).toNatClampNeg) = 5 then ((f_Sim_debts z v ks pA pB pN (v ka1 (7 : Int32).toNatClampNeg)).bind fun q140 => some (q140 - (v ka1 (4 : Int32).toNatClampNeg))) else (if (v ka1 (3 : Int32).toNatClampNeg) = 6 then ((f_Sim_age v ks pA pB pN (pB 4 (v ka1 (9 : Int32).toNatClampNeg).toNatClampNeg) 6).bind fun q149 => some (q149 * (v ka1 (4 : Int32).toNatClampNeg))) else (some (-729379967))))))))
theorem c_Sim_sum {ks : Nat} {pA : Nat → Nat} {pB : Nat → Nat → Nat} {pN : Nat → Nat} {ka1 : Nat} {Na1 : Nat} (hk : isSim sh ks pA pB pN) (ha1 : sh ka1 = some (sA Na1)) {q : Int32} (h : f_Sim_sum z v ks pA pB pN ka1 Na1 = some q) : MetI l yX12_sum cX12_sum 6 (some .int) 1 Γ sh v w n [.ref (Γ.2.1 + ks), .ref (Γ.2.1 + ka1)] (fun x u => x = q ∧ u = v) := by
  unfold f_Sim_sum at h
  refine w_start pn_X12 (Nat.le_of_ble_eq_true rfl) fun p e s m args below meth c hx hb hml hret hlk hnm hts hown hK hP hz hE hS ls hl => ?_
  refine lv_aload_n hx hb dX12_sum_0 rfl (lv_at hl 1 rfl) ?_
  refine lv_iconst (v := 4) hx hb dX12_sum_1 rfl ?_
  obtain ⟨hn2, h⟩ := itn_e h
  refine w_iald (k := ka1) hx hb hK hP ha1 hn2 dX12_sum_2 ?_
  refine lv_istore_n (lv' := [(2, .int (v ka1 (4 : Int32).toNatClampNeg)), (0, .ref (Γ.2.1 + ks)), (1, .ref (Γ.2.1 + ka1))]) hx hb dX12_sum_3 rfl hl (by decide) rfl fun ls hl => ?_
  refine lv_aload_n hx hb dX12_sum_4 rfl (lv_at hl 2 rfl) ?_
  refine lv_bipush (v := 7) hx hb dX12_sum_5 rfl ?_
  obtain ⟨hn7, h⟩ := itn_e h
  refine w_iald (k := ka1) hx hb hK hP ha1 hn7 dX12_sum_7 ?_
  refine lv_istore_n (lv' := [(3, .int (v ka1 (7 : Int32).toNatClampNeg)), (2, .int (v ka1 (4 : Int32).toNatClampNeg)), (0, .ref (Γ.2.1 + ks)), (1, .ref (Γ.2.1 + ka1))]) hx hb dX12_sum_8 rfl hl (by decide) rfl fun ls hl => ?_
  refine lv_aload_n hx hb dX12_sum_9 rfl (lv_at hl 3 rfl) ?_
  refine lv_bipush (v := 8) hx hb dX12_sum_10 rfl ?_
  obtain ⟨hn12, h⟩ := itn_e h
  refine w_iald (k := ka1) hx hb hK hP ha1 hn12 dX12_sum_12 ?_
  refine lv_istore (lv' := [(4, .int (v ka1 (8 : Int32).toNatClampNeg)), (3, .int (v ka1 (7 : Int32).toNatClampNeg)), (2, .int (v ka1 (4 : Int32).toNatClampNeg)), (0, .ref (Γ.2.1 + ks)), (1, .ref (Γ.2.1 + ka1))]) hx hb dX12_sum_13 hl (by decide) rfl fun ls hl => ?_
  refine lv_aload_n hx hb dX12_sum_15 rfl (lv_at hl 3 rfl) ?_
  refine w_gr (k := ks) (r := (pA 4)) hx hb hts hown hK hP fX12_28 hk.1 rfl dX12_sum_16 ?_
  refine lv_aload_n hx hb dX12_sum_19 rfl (lv_at hl 4 rfl) ?_
  refine lv_bipush (v := 9) hx hb dX12_sum_20 rfl ?_
  obtain ⟨hn22, h⟩ := itn_e h
  refine w_iald (k := ka1) hx hb hK hP ha1 hn22 dX12_sum_22 ?_
  obtain ⟨hn23, h⟩ := itn_e h
  refine z_aald (k := (pA 4)) hx hb hK hP hk.2.2.2.2.2.1.1 hn23 dX12_sum_23 ?_
  refine lv_astore (lv' := [(5, .ref (Γ.2.1 + (pB 4 (v ka1 (9 : Int32).toNatClampNeg).toNatClampNeg))), (4, .int (v ka1 (8 : Int32).toNatClampNeg)), (3, .int (v ka1 (7 : Int32).toNatClampNeg)), (2, .int (v ka1 (4 : Int32).toNatClampNeg)), (0, .ref (Γ.2.1 + ks)), (1, .ref (Γ.2.1 + ka1))]) hx hb dX12_sum_24 hl (by decide) rfl fun ls hl => ?_
  refine lv_aload_n hx hb dX12_sum_26 rfl (lv_at hl 5 rfl) ?_
  refine lv_iconst (v := 3) hx hb dX12_sum_27 rfl ?_
  obtain ⟨hn28, h⟩ := itn_e h
  refine w_iald (k := ka1) hx hb hK hP ha1 hn28 dX12_sum_28 ?_
  by_cases hc29_0 : (v ka1 (3 : Int32).toNatClampNeg) = 0
  · have h := itt_e h hc29_0
    refine z_tI (y := 0) (tgt := 72) hx hb dX12_sum_29 hc29_0 (by decide) (by decide) rfl rfl ?_
    refine lv_iload_n hx hb dX12_sum_72 rfl (lv_at hl 3 rfl) ?_
    exact w_iret hx hb hret rfl hlk hK hP hS hz hE (q_p1 h) dX12_sum_73
  have h := itf_e h hc29_0
  by_cases hc29_1 : (v ka1 (3 : Int32).toNatClampNeg) = 1
  · have h := itt_e h hc29_1
    refine z_tI (y := 1) (tgt := 74) hx hb dX12_sum_29 hc29_1 (by decide) (by decide) rfl rfl ?_
    refine lv_aload_n hx hb dX12_sum_74 rfl (lv_at hl 4 rfl) ?_
    refine w_gr (k := ks) (r := (pA 2)) hx hb hts hown hK hP fX12_22 hk.1 rfl dX12_sum_75 ?_
    refine lv_iload_n hx hb dX12_sum_78 rfl (lv_at hl 2 rfl) ?_
    obtain ⟨hn79, h⟩ := itn_e h
    refine z_aald (k := (pA 2)) hx hb hK hP hk.2.2.2.1.1 hn79 dX12_sum_79 ?_
    refine lv_iconst (v := 0) hx hb dX12_sum_80 rfl ?_
    obtain ⟨hn81, h⟩ := itn_e h
    refine w_iald (k := (pB 2 (v ka1 (7 : Int32).toNatClampNeg).toNatClampNeg)) hx hb hK hP (hk.2.2.2.1.2 _ (Nat.lt_of_not_le fun q => hn79 (Or.inr q))) hn81 dX12_sum_81 ?_
    refine lv_iconst (v := 2) hx hb dX12_sum_82 rfl ?_
    refine lv_idiv hx hb dX12_sum_83 (by decide) ?_
    refine lv_iload_n hx hb dX12_sum_84 rfl (lv_at hl 3 rfl) ?_
    refine lv_iadd hx hb dX12_sum_85 ?_
    exact w_iret hx hb hret rfl hlk hK hP hS hz hE (q_p1 h) dX12_sum_86
  have h := itf_e h hc29_1
  by_cases hc29_2 : (v ka1 (3 : Int32).toNatClampNeg) = 2
  · have h := itt_e h hc29_2
    refine z_tI (y := 2) (tgt := 87) hx hb dX12_sum_29 hc29_2 (by decide) (by decide) rfl rfl ?_
    refine lv_aload hx hb dX12_sum_87 (lv_at hl 0 rfl) ?_
    refine lv_iconst (v := 1) hx hb dX12_sum_89 rfl ?_
    obtain ⟨hn90, h⟩ := itn_e h
    refine w_iald (k := (pB 4 (v ka1 (9 : Int32).toNatClampNeg).toNatClampNeg)) hx hb hK hP (hk.2.2.2.2.2.1.2 _ (Nat.lt_of_not_le fun q => hn23 (Or.inr q))) hn90 dX12_sum_90 ?_
    refine lv_bipush (v := 100) hx hb dX12_sum_91 rfl ?_
    refine lv_idiv hx hb dX12_sum_93 (by decide) ?_
    refine lv_iload_n hx hb dX12_sum_94 rfl (lv_at hl 3 rfl) ?_
    refine lv_isub hx hb dX12_sum_95 ?_
    exact w_iret hx hb hret rfl hlk hK hP hS hz hE (q_p1 h) dX12_sum_96
  have h := itf_e h hc29_2
  by_cases hc29_3 : (v ka1 (3 : Int32).toNatClampNeg) = 3
  · have h := itt_e h hc29_3
    refine z_tI (y := 3) (tgt := 97) hx hb dX12_sum_29 hc29_3 (by decide) (by decide) rfl rfl ?_
    refine lv_iconst (v := 2) hx hb dX12_sum_97 rfl ?_
    refine lv_aload_n hx hb dX12_sum_98 rfl (lv_at hl 4 rfl) ?_
    refine w_gr (k := ks) (r := (pA 3)) hx hb hts hown hK hP fX12_25 hk.1 rfl dX12_sum_99 ?_
    refine lv_iload_n hx hb dX12_sum_102 rfl (lv_at hl 2 rfl) ?_
    obtain ⟨hn103, h⟩ := itn_e h
    refine z_aald (k := (pA 3)) hx hb hK hP hk.2.2.2.2.1.1 hn103 dX12_sum_103 ?_
    refine lv_iload hx hb dX12_sum_104 (lv_at hl 1 rfl) ?_
    obtain ⟨hn106, h⟩ := itn_e h
    refine w_iald (k := (pB 3 (v ka1 (7 : Int32).toNatClampNeg).toNatClampNeg)) hx hb hK hP (hk.2.2.2.2.1.2 _ (Nat.lt_of_not_le fun q => hn103 (Or.inr q))) hn106 dX12_sum_106 ?_
    refine lv_iload_n hx hb dX12_sum_107 rfl (lv_at hl 3 rfl) ?_
    refine z_mmin hx hb hml hl.1 hts hown xX12_40 ⟨Nat.le_of_ble_eq_true rfl, Nat.le_of_ble_eq_true rfl⟩ (Nat.le_of_ble_eq_true rfl) ⟨Nat.zero_le _, Nat.zero_le _⟩ dX12_sum_108 ?_
    refine lv_imul hx hb dX12_sum_111 ?_
    exact w_iret hx hb hret rfl hlk hK hP hS hz hE (q_p1 h) dX12_sum_112
  have h := itf_e h hc29_3
  by_cases hc29_4 : (v ka1 (3 : Int32).toNatClampNeg) = 4
  · have h := itt_e h hc29_4
    refine z_tI (y := 4) (tgt := 113) hx hb dX12_sum_29 hc29_4 (by decide) (by decide) rfl rfl ?_
    refine lv_aload hx hb dX12_sum_113 (lv_at hl 0 rfl) ?_
    refine lv_iconst (v := 3) hx hb dX12_sum_115 rfl ?_
    obtain ⟨hn116, h⟩ := itn_e h
    refine w_iald (k := (pB 4 (v ka1 (9 : Int32).toNatClampNeg).toNatClampNeg)) hx hb hK hP (hk.2.2.2.2.2.1.2 _ (Nat.lt_of_not_le fun q => hn23 (Or.inr q))) hn116 dX12_sum_116 ?_
    have J128 : ∀ (s128_0 : Int32), (j_Sim_sum_128 v ks ka1) s128_0 = some q → ∀ (H1 : Heap) (locs1 : List Loc) (ls1 : Array Slot), lv_has ls1 6 [(0, .ref (Γ.2.1 + ks)), (2, .int (v ka1 (4 : Int32).toNatClampNeg))] → Wd Γ sh v w H1 → va_S (gA Γ sh n) s.heap H1 locs1 → H1.size = Γ.2.1 + n → wpI Γ sh w n 1 (fun x u => x = q ∧ u = v) p l e s m args below meth c H1 locs1 (F0 m 128 ls1 [.int s128_0]) := by
      intro s128_0 h H1 locs1 ls hl hP hS hz
      unfold j_Sim_sum_128 at h
      refine lv_iload_n hx hb dX12_sum_128 rfl (lv_at hl 1 rfl) ?_
      refine z_mmax hx hb hml hl.1 hts hown xX12_46 ⟨Nat.le_of_ble_eq_true rfl, Nat.le_of_ble_eq_true rfl⟩ (Nat.le_of_ble_eq_true rfl) ⟨Nat.zero_le _, Nat.zero_le _⟩ dX12_sum_129 ?_
      refine lv_aload_n hx hb dX12_sum_132 rfl (lv_at hl 0 rfl) ?_
      refine w_gi (k := ks) hx hb hts hown hK hP fX12_37 hk.1 rfl dX12_sum_133 ?_
      refine lv_isub hx hb dX12_sum_136 ?_
      exact w_iret hx hb hret rfl hlk hK hP hS hz hE (q_p1 h) dX12_sum_137
    refine lv_if_ge (tgt := 124) hx hb dX12_sum_117 rfl (fun hc117 => ?_) (fun hc117 => ?_)
    · have h := itt_e h hc117
      refine lv_aload hx hb dX12_sum_124 (lv_at hl 0 rfl) ?_
      refine lv_iconst (v := 4) hx hb dX12_sum_126 rfl ?_
      obtain ⟨hn127, h⟩ := itn_e h
      refine w_iald (k := (pB 4 (v ka1 (9 : Int32).toNatClampNeg).toNatClampNeg)) hx hb hK hP (hk.2.2.2.2.2.1.2 _ (Nat.lt_of_not_le fun q => hn23 (Or.inr q))) hn127 dX12_sum_127 ?_
      exact J128 (v (pB 4 (v ka1 (9 : Int32).toNatClampNeg).toNatClampNeg) (4 : Int32).toNatClampNeg) h _ _ _ (lv_sub hl [4, 3] rfl) hP hS hz
    · have h := itf_e h hc117
      refine lv_iconst (v := 0) hx hb dX12_sum_120 rfl ?_
      refine lv_goto (tgt := 128) hx hb dX12_sum_121 rfl ?_
      exact J128 0 h _ _ _ (lv_sub hl [4, 3] rfl) hP hS hz
  have h := itf_e h hc29_4
  by_cases hc29_5 : (v ka1 (3 : Int32).toNatClampNeg) = 5
  · have h := itt_e h hc29_5
    refine z_tI (y := 5) (tgt := 138) hx hb dX12_sum_29 hc29_5 (by decide) (by decide) rfl rfl ?_
    refine lv_aload_n hx hb dX12_sum_138 rfl (lv_at hl 4 rfl) ?_
    refine lv_iload_n hx hb dX12_sum_139 rfl (lv_at hl 2 rfl) ?_
    obtain ⟨q140, e140, h⟩ := obn_e h
    refine z_Vi (k := ks) (r1 := q140) (v1 := v) hx hb hml hts hown hK hP hS hz hE (c_Sim_debts hk e140) kX12_debts mX12_49 hk.1 rfl rfl rfl hl.1 (Nat.le_of_ble_eq_true rfl) ⟨Nat.le_of_ble_eq_true rfl, Nat.le_of_ble_eq_true rfl⟩ ⟨Nat.zero_le _, Nat.zero_le _⟩ dX12_sum_140 fun H1 locs1 hz hP hS => ?_
    refine lv_iload_n hx hb dX12_sum_143 rfl (lv_at hl 3 rfl) ?_
    refine lv_isub hx hb dX12_sum_144 ?_
    exact w_iret hx hb hret rfl hlk hK hP hS hz hE (q_p1 h) dX12_sum_145
  have h := itf_e h hc29_5
  by_cases hc29_6 : (v ka1 (3 : Int32).toNatClampNeg) = 6
  · have h := itt_e h hc29_6
    refine z_tI (y := 6) (tgt := 146) hx hb dX12_sum_29 hc29_6 (by decide) (by decide) rfl rfl ?_
    refine lv_aload_n hx hb dX12_sum_146 rfl (lv_at hl 4 rfl) ?_
    refine lv_aload hx hb dX12_sum_147 (lv_at hl 0 rfl) ?_
    obtain ⟨q149, e149, h⟩ := obn_e h
    refine z_Vi (k := ks) (r1 := q149) (v1 := v) hx hb hml hts hown hK hP hS hz hE (c_Sim_age hk (hk.2.2.2.2.2.1.2 _ (Nat.lt_of_not_le fun q => hn23 (Or.inr q))) e149) kX12_age mX12_53 hk.1 rfl rfl rfl hl.1 (Nat.le_of_ble_eq_true rfl) ⟨Nat.le_of_ble_eq_true rfl, Nat.le_of_ble_eq_true rfl⟩ ⟨Nat.zero_le _, Nat.zero_le _⟩ dX12_sum_149 fun H1 locs1 hz hP hS => ?_
    refine lv_iload_n hx hb dX12_sum_152 rfl (lv_at hl 3 rfl) ?_
    refine lv_imul hx hb dX12_sum_153 ?_
    exact w_iret hx hb hret rfl hlk hK hP hS hz hE (q_p1 h) dX12_sum_154
  have h := itf_e h hc29_6
  refine z_tD (tgt := 155) hx hb [0, 1, 2, 3, 4, 5, 6] dX12_sum_29 (q_nc hc29_0 (q_nc hc29_1 (q_nc hc29_2 (q_nc hc29_3 (q_nc hc29_4 (q_nc hc29_5 (q_nc hc29_6 q_nn))))))) (by decide) (by decide) rfl ?_
  refine lv_ldc hx hb hown (hts _ qX12_57) dX12_sum_155 ?_
  exact w_iret hx hb hret rfl hlk hK hP hS hz hE (q_p1 h) dX12_sum_157
def j_Sim_holds_158 (v : Va) (ks : Nat) (pA : Nat → Nat) (pB : Nat → Nat → Nat) (pN : Nat → Nat) (ka1 : Nat) : Option Bool := (f_Sim_age v ks pA pB pN (pB 4 (v ka1 (10 : Int32).toNatClampNeg).toNatClampNeg) 6).bind fun q161 => if ((v ka1 (6 : Int32).toNatClampNeg) / 9) < q161 then (some false) else (some true)
def j_Sim_holds_222 (v : Va) (ka1 : Nat) (s222_0 : Int32) : Option Bool := if (9 * (v ka1 (6 : Int32).toNatClampNeg)) < s222_0 then (some false) else (some true)
def f_Sim_holds (z : Nat) (v : Va) (ks : Nat) (pA : Nat → Nat) (pB : Nat → Nat → Nat) (pN : Nat → Nat) (ka1 : Nat) (Na1 : Nat) : Option Bool := if (6 : Int32) < 0 ∨ Na1 ≤ (6 : Int32).toNatClampNeg then none else if (7 : Int32) < 0 ∨ Na1 ≤ (7 : Int32).toNatClampNeg then none else if (9 : Int32) < 0 ∨ Na1 ≤ (9 : Int32).toNatClampNeg then none else if (v ka1 (9 : Int32).toNatClampNeg) < 0 ∨ (pN 4) ≤ (v ka1 (9 : Int32).toNatClampNeg).toNatClampNeg then none else if (10 : Int32) < 0 ∨ Na1 ≤ (10 : Int32).toNatClampNeg then none else if (v ka1 (10 : Int32).toNatClampNeg) < 0 ∨ (pN 4) ≤ (v ka1 (10 : Int32).toNatClampNeg).toNatClampNeg then none else if (5 : Int32) < 0 ∨ Na1 ≤ (5 : Int32).toNatClampNeg then none else if (v ka1 (5 : Int32).toNatClampNeg) = (-1) then (some true) else (if (v ka1 (5 : Int32).toNatClampNeg) = 0 then (if (v ks 0) ≤ ((v ka1 (6 : Int32).toNatClampNeg) / 4) then (some false) else (some true)) else (if (v ka1 (5 : Int32).toNatClampNeg) = 1 then (if (2 : Int32) < 0 ∨ 6 ≤ (2 : Int32).toNatClampNeg then none else if (v (pB 4 (v ka1 (9 : Int32).toNatClampNeg).toNatClampNeg) (2 : Int32).toNatClampNeg) = (v ka1 (7 : Int32).toNatClampNeg) then (some true) else (some false)) else (if (v ka1 (5 : Int32).toNatClampNeg) = 2 then (if (2 : Int32) < 0 ∨ 6 ≤ (2 : Int32).toNatClampNeg then none else if (v (pB 4 (v ka1 (9 : Int32).toNatClampNeg).toNatClampNeg) (2 : Int32).toNatClampNeg) = (v ka1 (7 : Int32).toNatClampNeg) then (if (8 : Int32) < 0 ∨ Na1 ≤ (8 : Int32).toNatClampNeg then none else if (v ka1 (8 : Int32).toNatClampNeg) < 0 ∨ (pN 2) ≤ (v ka1 (8 : Int32).toNatClampNeg).toNatClampNeg then none else if (0 : Int32) < 0 ∨ 2 ≤ (0 : Int32).toNatClampNeg then none else if (v (pB 2 (v ka1 (8 : Int32).toNatClampNeg).toNatClampNeg) (0 : Int32).toNatClampNeg) ≤ (v ka1 (6 : Int32).toNatClampNeg) then (some false) else (some true)) else (some true)) else (if (v ka1 (5 : Int32).toNatClampNeg) = 3 then (if (1 : Int32) < 0 ∨ 6 ≤ (1 : Int32).toNatClampNeg then none else if (v (pB 4 (v ka1 (9 : Int32).toNatClampNeg).toNatClampNeg) (1 : Int32).toNatClampNeg) ≤ (10 * (v ka1 (6 : Int32).toNatClampNeg)) then (j_Sim_holds_158 v ks pA pB pN ka1) else (if (v ks 1) < ((v ka1 (6 : Int32).toNatClampNeg) / 3) then (some true) else (j_Sim_holds_158 v ks pA pB pN ka1))) else (if (v ka1 (5 : Int32).toNatClampNeg) = 4 then ((f_Sim_debts z v ks pA pB pN (v ka1 (7 : Int32).toNatClampNeg)).bind fun q179 => if (v ka1 (6 : Int32).toNatClampNeg) < q179 then (some false) else (some true)) else (if (v ka1 (5 : Int32).toNatClampNeg) = 5 then (if ((v ks 0) - (v ks 0) / 2 * 2) = 0 then (some true) else (some false)) else (if (3 : Int32) < 0 ∨ 6 ≤ (3 : Int32).toNatClampNeg then none else if 0 ≤ (v (pB 4 (v ka1 (9 : Int32).toNatClampNeg).toNatClampNeg) (3 : Int32).toNatClampNeg) then (if (4 : Int32) < 0 ∨ 6 ≤ (4 : Int32).toNatClampNeg then none else j_Sim_holds_222 v ka1 (v (pB 4 (v ka1 (9 : Int32).toNatClampNeg).toNatClampNeg) (4 : Int32).toNatClampNeg)) else (j_Sim_holds_222 v ka1 0))))))))
theorem c_Sim_holds {ks : Nat} {pA : Nat → Nat} {pB : Nat → Nat → Nat} {pN : Nat → Nat} {ka1 : Nat} {Na1 : Nat} (hk : isSim sh ks pA pB pN) (ha1 : sh ka1 = some (sA Na1)) {q : Bool} (h : f_Sim_holds z v ks pA pB pN ka1 Na1 = some q) : MetI l yX12_holds cX12_holds 6 (some .boolean) 1 Γ sh v w n [.ref (Γ.2.1 + ks), .ref (Γ.2.1 + ka1)] (fun x u => x = q_b q ∧ u = v) := by
  unfold f_Sim_holds at h
  refine w_start pn_X12 (Nat.le_of_ble_eq_true rfl) fun p e s m args below meth c hx hb hml hret hlk hnm hts hown hK hP hz hE hS ls hl => ?_
  refine lv_aload_n hx hb dX12_holds_0 rfl (lv_at hl 1 rfl) ?_
  refine lv_bipush (v := 6) hx hb dX12_holds_1 rfl ?_
  obtain ⟨hn3, h⟩ := itn_e h
  refine w_iald (k := ka1) hx hb hK hP ha1 hn3 dX12_holds_3 ?_
  refine lv_istore_n (lv' := [(2, .int (v ka1 (6 : Int32).toNatClampNeg)), (0, .ref (Γ.2.1 + ks)), (1, .ref (Γ.2.1 + ka1))]) hx hb dX12_holds_4 rfl hl (by decide) rfl fun ls hl => ?_
  refine lv_aload_n hx hb dX12_holds_5 rfl (lv_at hl 2 rfl) ?_
  refine lv_bipush (v := 7) hx hb dX12_holds_6 rfl ?_
  obtain ⟨hn8, h⟩ := itn_e h
  refine w_iald (k := ka1) hx hb hK hP ha1 hn8 dX12_holds_8 ?_
  refine lv_istore_n (lv' := [(3, .int (v ka1 (7 : Int32).toNatClampNeg)), (2, .int (v ka1 (6 : Int32).toNatClampNeg)), (0, .ref (Γ.2.1 + ks)), (1, .ref (Γ.2.1 + ka1))]) hx hb dX12_holds_9 rfl hl (by decide) rfl fun ls hl => ?_
  refine lv_aload_n hx hb dX12_holds_10 rfl (lv_at hl 2 rfl) ?_
  refine w_gr (k := ks) (r := (pA 4)) hx hb hts hown hK hP fX12_28 hk.1 rfl dX12_holds_11 ?_
  refine lv_aload_n hx hb dX12_holds_14 rfl (lv_at hl 3 rfl) ?_
  refine lv_bipush (v := 9) hx hb dX12_holds_15 rfl ?_
  obtain ⟨hn17, h⟩ := itn_e h
  refine w_iald (k := ka1) hx hb hK hP ha1 hn17 dX12_holds_17 ?_
  obtain ⟨hn18, h⟩ := itn_e h
  refine z_aald (k := (pA 4)) hx hb hK hP hk.2.2.2.2.2.1.1 hn18 dX12_holds_18 ?_
  refine lv_astore (lv' := [(4, .ref (Γ.2.1 + (pB 4 (v ka1 (9 : Int32).toNatClampNeg).toNatClampNeg))), (3, .int (v ka1 (7 : Int32).toNatClampNeg)), (2, .int (v ka1 (6 : Int32).toNatClampNeg)), (0, .ref (Γ.2.1 + ks)), (1, .ref (Γ.2.1 + ka1))]) hx hb dX12_holds_19 hl (by decide) rfl fun ls hl => ?_
  refine lv_aload_n hx hb dX12_holds_21 rfl (lv_at hl 3 rfl) ?_
  refine w_gr (k := ks) (r := (pA 4)) hx hb hts hown hK hP fX12_28 hk.1 rfl dX12_holds_22 ?_
  refine lv_aload_n hx hb dX12_holds_25 rfl (lv_at hl 4 rfl) ?_
  refine lv_bipush (v := 10) hx hb dX12_holds_26 rfl ?_
  obtain ⟨hn28, h⟩ := itn_e h
  refine w_iald (k := ka1) hx hb hK hP ha1 hn28 dX12_holds_28 ?_
  obtain ⟨hn29, h⟩ := itn_e h
  refine z_aald (k := (pA 4)) hx hb hK hP hk.2.2.2.2.2.1.1 hn29 dX12_holds_29 ?_
  refine lv_astore (lv' := [(5, .ref (Γ.2.1 + (pB 4 (v ka1 (10 : Int32).toNatClampNeg).toNatClampNeg))), (4, .ref (Γ.2.1 + (pB 4 (v ka1 (9 : Int32).toNatClampNeg).toNatClampNeg))), (3, .int (v ka1 (7 : Int32).toNatClampNeg)), (2, .int (v ka1 (6 : Int32).toNatClampNeg)), (0, .ref (Γ.2.1 + ks)), (1, .ref (Γ.2.1 + ka1))]) hx hb dX12_holds_30 hl (by decide) rfl fun ls hl => ?_
  refine lv_aload_n hx hb dX12_holds_32 rfl (lv_at hl 5 rfl) ?_
  refine lv_iconst (v := 5) hx hb dX12_holds_33 rfl ?_
  obtain ⟨hn34, h⟩ := itn_e h
  refine w_iald (k := ka1) hx hb hK hP ha1 hn34 dX12_holds_34 ?_
  by_cases hc35_m1 : (v ka1 (5 : Int32).toNatClampNeg) = (-1)
  · have h := itt_e h hc35_m1
    refine z_tI (y := (-1)) (tgt := 76) hx hb dX12_holds_35 hc35_m1 (by decide) (by decide) rfl rfl ?_
    refine lv_iconst (v := 1) hx hb dX12_holds_76 rfl ?_
    exact w_iret hx hb hret rfl hlk hK hP hS hz hE (q_p1b h) dX12_holds_77
  have h := itf_e h hc35_m1
  by_cases hc35_0 : (v ka1 (5 : Int32).toNatClampNeg) = 0
  · have h := itt_e h hc35_0
    refine z_tI (y := 0) (tgt := 78) hx hb dX12_holds_35 hc35_0 (by decide) (by decide) rfl rfl ?_
    refine lv_aload_n hx hb dX12_holds_78 rfl (lv_at hl 4 rfl) ?_
    refine w_gi (k := ks) hx hb hts hown hK hP fX12_37 hk.1 rfl dX12_holds_79 ?_
    refine lv_iload_n hx hb dX12_holds_82 rfl (lv_at hl 3 rfl) ?_
    refine lv_iconst (v := 4) hx hb dX12_holds_83 rfl ?_
    refine lv_idiv hx hb dX12_holds_84 (by decide) ?_
    refine lv_icmp_le (tgt := 92) hx hb dX12_holds_85 rfl (fun hc85 => ?_) (fun hc85 => ?_)
    · have h := itt_e h hc85
      refine lv_iconst (v := 0) hx hb dX12_holds_92 rfl ?_
      exact w_iret hx hb hret rfl hlk hK hP hS hz hE (q_p1b h) dX12_holds_93
    · have h := itf_e h hc85
      refine lv_iconst (v := 1) hx hb dX12_holds_88 rfl ?_
      refine lv_goto (tgt := 93) hx hb dX12_holds_89 rfl ?_
      exact w_iret hx hb hret rfl hlk hK hP hS hz hE (q_p1b h) dX12_holds_93
  have h := itf_e h hc35_0
  by_cases hc35_1 : (v ka1 (5 : Int32).toNatClampNeg) = 1
  · have h := itt_e h hc35_1
    refine z_tI (y := 1) (tgt := 94) hx hb dX12_holds_35 hc35_1 (by decide) (by decide) rfl rfl ?_
    refine lv_aload hx hb dX12_holds_94 (lv_at hl 1 rfl) ?_
    refine lv_iconst (v := 2) hx hb dX12_holds_96 rfl ?_
    obtain ⟨hn97, h⟩ := itn_e h
    refine w_iald (k := (pB 4 (v ka1 (9 : Int32).toNatClampNeg).toNatClampNeg)) hx hb hK hP (hk.2.2.2.2.2.1.2 _ (Nat.lt_of_not_le fun q => hn18 (Or.inr q))) hn97 dX12_holds_97 ?_
    refine lv_iload_n hx hb dX12_holds_98 rfl (lv_at hl 2 rfl) ?_
    refine lv_icmp_ne (tgt := 106) hx hb dX12_holds_99 rfl (fun hc99 => ?_) (fun hc99 => ?_)
    · have h := itf_e h hc99
      refine lv_iconst (v := 0) hx hb dX12_holds_106 rfl ?_
      exact w_iret hx hb hret rfl hlk hK hP hS hz hE (q_p1b h) dX12_holds_107
    · have h := itt_e h hc99
      refine lv_iconst (v := 1) hx hb dX12_holds_102 rfl ?_
      refine lv_goto (tgt := 107) hx hb dX12_holds_103 rfl ?_
      exact w_iret hx hb hret rfl hlk hK hP hS hz hE (q_p1b h) dX12_holds_107
  have h := itf_e h hc35_1
  by_cases hc35_2 : (v ka1 (5 : Int32).toNatClampNeg) = 2
  · have h := itt_e h hc35_2
    refine z_tI (y := 2) (tgt := 108) hx hb dX12_holds_35 hc35_2 (by decide) (by decide) rfl rfl ?_
    refine lv_aload hx hb dX12_holds_108 (lv_at hl 1 rfl) ?_
    refine lv_iconst (v := 2) hx hb dX12_holds_110 rfl ?_
    obtain ⟨hn111, h⟩ := itn_e h
    refine w_iald (k := (pB 4 (v ka1 (9 : Int32).toNatClampNeg).toNatClampNeg)) hx hb hK hP (hk.2.2.2.2.2.1.2 _ (Nat.lt_of_not_le fun q => hn18 (Or.inr q))) hn111 dX12_holds_111 ?_
    refine lv_iload_n hx hb dX12_holds_112 rfl (lv_at hl 2 rfl) ?_
    refine lv_icmp_ne (tgt := 131) hx hb dX12_holds_113 rfl (fun hc113 => ?_) (fun hc113 => ?_)
    · have h := itf_e h hc113
      refine lv_iconst (v := 1) hx hb dX12_holds_131 rfl ?_
      refine lv_goto (tgt := 136) hx hb dX12_holds_132 rfl ?_
      exact w_iret hx hb hret rfl hlk hK hP hS hz hE (q_p1b h) dX12_holds_136
    · have h := itt_e h hc113
      refine lv_aload_n hx hb dX12_holds_116 rfl (lv_at hl 4 rfl) ?_
      refine w_gr (k := ks) (r := (pA 2)) hx hb hts hown hK hP fX12_22 hk.1 rfl dX12_holds_117 ?_
      refine lv_aload_n hx hb dX12_holds_120 rfl (lv_at hl 5 rfl) ?_
      refine lv_bipush (v := 8) hx hb dX12_holds_121 rfl ?_
      obtain ⟨hn123, h⟩ := itn_e h
      refine w_iald (k := ka1) hx hb hK hP ha1 hn123 dX12_holds_123 ?_
      obtain ⟨hn124, h⟩ := itn_e h
      refine z_aald (k := (pA 2)) hx hb hK hP hk.2.2.2.1.1 hn124 dX12_holds_124 ?_
      refine lv_iconst (v := 0) hx hb dX12_holds_125 rfl ?_
      obtain ⟨hn126, h⟩ := itn_e h
      refine w_iald (k := (pB 2 (v ka1 (8 : Int32).toNatClampNeg).toNatClampNeg)) hx hb hK hP (hk.2.2.2.1.2 _ (Nat.lt_of_not_le fun q => hn124 (Or.inr q))) hn126 dX12_holds_126 ?_
      refine lv_iload_n hx hb dX12_holds_127 rfl (lv_at hl 3 rfl) ?_
      refine lv_icmp_le (tgt := 135) hx hb dX12_holds_128 rfl (fun hc128 => ?_) (fun hc128 => ?_)
      · have h := itt_e h hc128
        refine lv_iconst (v := 0) hx hb dX12_holds_135 rfl ?_
        exact w_iret hx hb hret rfl hlk hK hP hS hz hE (q_p1b h) dX12_holds_136
      · have h := itf_e h hc128
        refine lv_iconst (v := 1) hx hb dX12_holds_131 rfl ?_
        refine lv_goto (tgt := 136) hx hb dX12_holds_132 rfl ?_
        exact w_iret hx hb hret rfl hlk hK hP hS hz hE (q_p1b h) dX12_holds_136
  have h := itf_e h hc35_2
  by_cases hc35_3 : (v ka1 (5 : Int32).toNatClampNeg) = 3
  · have h := itt_e h hc35_3
    refine z_tI (y := 3) (tgt := 137) hx hb dX12_holds_35 hc35_3 (by decide) (by decide) rfl rfl ?_
    refine lv_aload hx hb dX12_holds_137 (lv_at hl 1 rfl) ?_
    refine lv_iconst (v := 1) hx hb dX12_holds_139 rfl ?_
    obtain ⟨hn140, h⟩ := itn_e h
    refine w_iald (k := (pB 4 (v ka1 (9 : Int32).toNatClampNeg).toNatClampNeg)) hx hb hK hP (hk.2.2.2.2.2.1.2 _ (Nat.lt_of_not_le fun q => hn18 (Or.inr q))) hn140 dX12_holds_140 ?_
    refine lv_bipush (v := 10) hx hb dX12_holds_141 rfl ?_
    refine lv_iload_n hx hb dX12_holds_143 rfl (lv_at hl 3 rfl) ?_
    refine lv_imul hx hb dX12_holds_144 ?_
    have J158 : (j_Sim_holds_158 v ks pA pB pN ka1) = some q → ∀ (H1 : Heap) (locs1 : List Loc) (ls1 : Array Slot), lv_has ls1 6 [(0, .ref (Γ.2.1 + ks)), (2, .int (v ka1 (6 : Int32).toNatClampNeg)), (5, .ref (Γ.2.1 + (pB 4 (v ka1 (10 : Int32).toNatClampNeg).toNatClampNeg)))] → Wd Γ sh v w H1 → va_S (gA Γ sh n) s.heap H1 locs1 → H1.size = Γ.2.1 + n → wpI Γ sh w n 1 (fun x u => x = q_b q ∧ u = v) p l e s m args below meth c H1 locs1 (F0 m 158 ls1 []) := by
      intro  h H1 locs1 ls hl hP hS hz
      unfold j_Sim_holds_158 at h
      refine lv_aload_n hx hb dX12_holds_158 rfl (lv_at hl 0 rfl) ?_
      refine lv_aload hx hb dX12_holds_159 (lv_at hl 2 rfl) ?_
      obtain ⟨q161, e161, h⟩ := obn_e h
      refine z_Vi (k := ks) (r1 := q161) (v1 := v) hx hb hml hts hown hK hP hS hz hE (c_Sim_age hk (hk.2.2.2.2.2.1.2 _ (Nat.lt_of_not_le fun q => hn29 (Or.inr q))) e161) kX12_age mX12_53 hk.1 rfl rfl rfl hl.1 (Nat.le_of_ble_eq_true rfl) ⟨Nat.le_of_ble_eq_true rfl, Nat.le_of_ble_eq_true rfl⟩ ⟨Nat.zero_le _, Nat.zero_le _⟩ dX12_holds_161 fun H1 locs1 hz hP hS => ?_
      refine lv_iload_n hx hb dX12_holds_164 rfl (lv_at hl 1 rfl) ?_
      refine lv_bipush (v := 9) hx hb dX12_holds_165 rfl ?_
      refine lv_idiv hx hb dX12_holds_167 (by decide) ?_
      refine lv_icmp_gt (tgt := 175) hx hb dX12_holds_168 rfl (fun hc168 => ?_) (fun hc168 => ?_)
      · have h := itt_e h hc168
        refine lv_iconst (v := 0) hx hb dX12_holds_175 rfl ?_
        exact w_iret hx hb hret rfl hlk hK hP hS hz hE (q_p1b h) dX12_holds_176
      · have h := itf_e h hc168
        refine lv_iconst (v := 1) hx hb dX12_holds_171 rfl ?_
        refine lv_goto (tgt := 176) hx hb dX12_holds_172 rfl ?_
        exact w_iret hx hb hret rfl hlk hK hP hS hz hE (q_p1b h) dX12_holds_176
    refine lv_icmp_le (tgt := 158) hx hb dX12_holds_145 rfl (fun hc145 => ?_) (fun hc145 => ?_)
    · have h := itt_e h hc145
      exact J158 h _ _ _ (lv_sub hl [4, 3, 0] rfl) hP hS hz
    · have h := itf_e h hc145
      refine lv_aload_n hx hb dX12_holds_148 rfl (lv_at hl 4 rfl) ?_
      refine w_gi (k := ks) hx hb hts hown hK hP fX12_7 hk.1 rfl dX12_holds_149 ?_
      refine lv_iload_n hx hb dX12_holds_152 rfl (lv_at hl 3 rfl) ?_
      refine lv_iconst (v := 3) hx hb dX12_holds_153 rfl ?_
      refine lv_idiv hx hb dX12_holds_154 (by decide) ?_
      refine lv_icmp_lt (tgt := 171) hx hb dX12_holds_155 rfl (fun hc155 => ?_) (fun hc155 => ?_)
      · have h := itt_e h hc155
        refine lv_iconst (v := 1) hx hb dX12_holds_171 rfl ?_
        refine lv_goto (tgt := 176) hx hb dX12_holds_172 rfl ?_
        exact w_iret hx hb hret rfl hlk hK hP hS hz hE (q_p1b h) dX12_holds_176
      · have h := itf_e h hc155
        exact J158 h _ _ _ (lv_sub hl [4, 3, 0] rfl) hP hS hz
  have h := itf_e h hc35_3
  by_cases hc35_4 : (v ka1 (5 : Int32).toNatClampNeg) = 4
  · have h := itt_e h hc35_4
    refine z_tI (y := 4) (tgt := 177) hx hb dX12_holds_35 hc35_4 (by decide) (by decide) rfl rfl ?_
    refine lv_aload_n hx hb dX12_holds_177 rfl (lv_at hl 4 rfl) ?_
    refine lv_iload_n hx hb dX12_holds_178 rfl (lv_at hl 2 rfl) ?_
    obtain ⟨q179, e179, h⟩ := obn_e h
    refine z_Vi (k := ks) (r1 := q179) (v1 := v) hx hb hml hts hown hK hP hS hz hE (c_Sim_debts hk e179) kX12_debts mX12_49 hk.1 rfl rfl rfl hl.1 (Nat.le_of_ble_eq_true rfl) ⟨Nat.le_of_ble_eq_true rfl, Nat.le_of_ble_eq_true rfl⟩ ⟨Nat.zero_le _, Nat.zero_le _⟩ dX12_holds_179 fun H1 locs1 hz hP hS => ?_
    refine lv_iload_n hx hb dX12_holds_182 rfl (lv_at hl 3 rfl) ?_
    refine lv_icmp_gt (tgt := 190) hx hb dX12_holds_183 rfl (fun hc183 => ?_) (fun hc183 => ?_)
    · have h := itt_e h hc183
      refine lv_iconst (v := 0) hx hb dX12_holds_190 rfl ?_
      exact w_iret hx hb hret rfl hlk hK hP hS hz hE (q_p1b h) dX12_holds_191
    · have h := itf_e h hc183
      refine lv_iconst (v := 1) hx hb dX12_holds_186 rfl ?_
      refine lv_goto (tgt := 191) hx hb dX12_holds_187 rfl ?_
      exact w_iret hx hb hret rfl hlk hK hP hS hz hE (q_p1b h) dX12_holds_191
  have h := itf_e h hc35_4
  by_cases hc35_5 : (v ka1 (5 : Int32).toNatClampNeg) = 5
  · have h := itt_e h hc35_5
    refine z_tI (y := 5) (tgt := 192) hx hb dX12_holds_35 hc35_5 (by decide) (by decide) rfl rfl ?_
    refine lv_aload_n hx hb dX12_holds_192 rfl (lv_at hl 4 rfl) ?_
    refine w_gi (k := ks) hx hb hts hown hK hP fX12_37 hk.1 rfl dX12_holds_193 ?_
    refine lv_iconst (v := 2) hx hb dX12_holds_196 rfl ?_
    refine lv_irem hx hb dX12_holds_197 (by decide) ?_
    refine lv_if_ne (tgt := 205) hx hb dX12_holds_198 rfl (fun hc198 => ?_) (fun hc198 => ?_)
    · have h := itf_e h hc198
      refine lv_iconst (v := 0) hx hb dX12_holds_205 rfl ?_
      exact w_iret hx hb hret rfl hlk hK hP hS hz hE (q_p1b h) dX12_holds_206
    · have h := itt_e h hc198
      refine lv_iconst (v := 1) hx hb dX12_holds_201 rfl ?_
      refine lv_goto (tgt := 206) hx hb dX12_holds_202 rfl ?_
      exact w_iret hx hb hret rfl hlk hK hP hS hz hE (q_p1b h) dX12_holds_206
  have h := itf_e h hc35_5
  refine z_tD (tgt := 207) hx hb [(-1), 0, 1, 2, 3, 4, 5] dX12_holds_35 (q_nc hc35_m1 (q_nc hc35_0 (q_nc hc35_1 (q_nc hc35_2 (q_nc hc35_3 (q_nc hc35_4 (q_nc hc35_5 q_nn))))))) (by decide) (by decide) rfl ?_
  refine lv_aload hx hb dX12_holds_207 (lv_at hl 1 rfl) ?_
  refine lv_iconst (v := 3) hx hb dX12_holds_209 rfl ?_
  obtain ⟨hn210, h⟩ := itn_e h
  refine w_iald (k := (pB 4 (v ka1 (9 : Int32).toNatClampNeg).toNatClampNeg)) hx hb hK hP (hk.2.2.2.2.2.1.2 _ (Nat.lt_of_not_le fun q => hn18 (Or.inr q))) hn210 dX12_holds_210 ?_
  have J222 : ∀ (s222_0 : Int32), (j_Sim_holds_222 v ka1) s222_0 = some q → ∀ (H1 : Heap) (locs1 : List Loc) (ls1 : Array Slot), lv_has ls1 6 [(2, .int (v ka1 (6 : Int32).toNatClampNeg))] → Wd Γ sh v w H1 → va_S (gA Γ sh n) s.heap H1 locs1 → H1.size = Γ.2.1 + n → wpI Γ sh w n 1 (fun x u => x = q_b q ∧ u = v) p l e s m args below meth c H1 locs1 (F0 m 222 ls1 [.int s222_0]) := by
    intro s222_0 h H1 locs1 ls hl hP hS hz
    unfold j_Sim_holds_222 at h
    refine lv_bipush (v := 9) hx hb dX12_holds_222 rfl ?_
    refine lv_iload_n hx hb dX12_holds_224 rfl (lv_at hl 0 rfl) ?_
    refine lv_imul hx hb dX12_holds_225 ?_
    refine lv_icmp_gt (tgt := 233) hx hb dX12_holds_226 rfl (fun hc226 => ?_) (fun hc226 => ?_)
    · have h := itt_e h hc226
      refine lv_iconst (v := 0) hx hb dX12_holds_233 rfl ?_
      exact w_iret hx hb hret rfl hlk hK hP hS hz hE (q_p1b h) dX12_holds_234
    · have h := itf_e h hc226
      refine lv_iconst (v := 1) hx hb dX12_holds_229 rfl ?_
      refine lv_goto (tgt := 234) hx hb dX12_holds_230 rfl ?_
      exact w_iret hx hb hret rfl hlk hK hP hS hz hE (q_p1b h) dX12_holds_234
  refine lv_if_ge (tgt := 218) hx hb dX12_holds_211 rfl (fun hc211 => ?_) (fun hc211 => ?_)
  · have h := itt_e h hc211
    refine lv_aload hx hb dX12_holds_218 (lv_at hl 1 rfl) ?_
    refine lv_iconst (v := 4) hx hb dX12_holds_220 rfl ?_
    obtain ⟨hn221, h⟩ := itn_e h
    refine w_iald (k := (pB 4 (v ka1 (9 : Int32).toNatClampNeg).toNatClampNeg)) hx hb hK hP (hk.2.2.2.2.2.1.2 _ (Nat.lt_of_not_le fun q => hn18 (Or.inr q))) hn221 dX12_holds_221 ?_
    exact J222 (v (pB 4 (v ka1 (9 : Int32).toNatClampNeg).toNatClampNeg) (4 : Int32).toNatClampNeg) h _ _ _ (lv_sub hl [3] rfl) hP hS hz
  · have h := itf_e h hc211
    refine lv_iconst (v := 0) hx hb dX12_holds_214 rfl ?_
    refine lv_goto (tgt := 222) hx hb dX12_holds_215 rfl ?_
    exact J222 0 h _ _ _ (lv_sub hl [3] rfl) hP hS hz
def j_Sim_does_114 (s114_0 : Int32) : Option Int32 := if 1 ≤ s114_0 then (some s114_0) else (some (-1))
def j_Sim_does_228 (v : Va) (pB : Nat → Nat → Nat) (pN : Nat → Nat) (ka1 : Nat) (Na1 : Nat) (s186_0 : Int32) (q214 : Int32) (s228_0 : Int32) : Option Int32 := if (2 : Int32) < 0 ∨ Na1 ≤ (2 : Int32).toNatClampNeg then none else if (v ka1 (2 : Int32).toNatClampNeg) < 0 ∨ (pN 2) ≤ (v ka1 (2 : Int32).toNatClampNeg).toNatClampNeg then none else if (1 : Int32) < 0 ∨ 2 ≤ (1 : Int32).toNatClampNeg then none else if (q214 + s228_0) ≤ (v (pB 2 (v ka1 (2 : Int32).toNatClampNeg).toNatClampNeg) (1 : Int32).toNatClampNeg) then (some ((s186_0 * (v (pB 4 (v ka1 (1 : Int32).toNatClampNeg).toNatClampNeg) (4 : Int32).toNatClampNeg)) / 100)) else (some (-1))
def j_Sim_does_186 (z : Nat) (v : Va) (ks : Nat) (pA : Nat → Nat) (pB : Nat → Nat → Nat) (pN : Nat → Nat) (ka1 : Nat) (Na1 : Nat) (s186_0 : Int32) : Option Int32 := if (4 : Int32) < 0 ∨ 6 ≤ (4 : Int32).toNatClampNeg then none else if (2 : Int32) < 0 ∨ Na1 ≤ (2 : Int32).toNatClampNeg then none else if (v ka1 (2 : Int32).toNatClampNeg) < 0 ∨ (pN 2) ≤ (v ka1 (2 : Int32).toNatClampNeg).toNatClampNeg then none else if (0 : Int32) < 0 ∨ 2 ≤ (0 : Int32).toNatClampNeg then none else if (2 : Int32) < 0 ∨ Na1 ≤ (2 : Int32).toNatClampNeg then none else (f_Sim_debts z v ks pA pB pN (v ka1 (2 : Int32).toNatClampNeg)).bind fun q214 => if 0 ≤ (((s186_0 * (v (pB 4 (v ka1 (1 : Int32).toNatClampNeg).toNatClampNeg) (4 : Int32).toNatClampNeg)) / 100) - (v (pB 2 (v ka1 (2 : Int32).toNatClampNeg).toNatClampNeg) (0 : Int32).toNatClampNeg)) then (j_Sim_does_228 v pB pN ka1 Na1 s186_0 q214 (((s186_0 * (v (pB 4 (v ka1 (1 : Int32).toNatClampNeg).toNatClampNeg) (4 : Int32).toNatClampNeg)) / 100) - (v (pB 2 (v ka1 (2 : Int32).toNatClampNeg).toNatClampNeg) (0 : Int32).toNatClampNeg))) else (j_Sim_does_228 v pB pN ka1 Na1 s186_0 q214 0)
def f_Sim_does (z : Nat) (v : Va) (ks : Nat) (pA : Nat → Nat) (pB : Nat → Nat → Nat) (pN : Nat → Nat) (ka1 : Nat) (Na1 : Nat) : Option Int32 := (f_Sim_holds z v ks pA pB pN ka1 Na1).bind fun q2 => if (q_b q2) = 0 then (some (-1)) else (if (0 : Int32) < 0 ∨ Na1 ≤ (0 : Int32).toNatClampNeg then none else if (v ka1 (0 : Int32).toNatClampNeg) = 0 then (if (2 : Int32) < 0 ∨ Na1 ≤ (2 : Int32).toNatClampNeg then none else if (v ka1 (2 : Int32).toNatClampNeg) < 0 ∨ (pN 1) ≤ (v ka1 (2 : Int32).toNatClampNeg).toNatClampNeg then none else if (0 : Int32) < 0 ∨ 3 ≤ (0 : Int32).toNatClampNeg then none else if (1 : Int32) < 0 ∨ Na1 ≤ (1 : Int32).toNatClampNeg then none else if (v ka1 (1 : Int32).toNatClampNeg) < 0 ∨ (pN 4) ≤ (v ka1 (1 : Int32).toNatClampNeg).toNatClampNeg then none else if (2 : Int32) < 0 ∨ 6 ≤ (2 : Int32).toNatClampNeg then none else if (v (pB 4 (v ka1 (1 : Int32).toNatClampNeg).toNatClampNeg) (2 : Int32).toNatClampNeg) < 0 ∨ (pN 2) ≤ (v (pB 4 (v ka1 (1 : Int32).toNatClampNeg).toNatClampNeg) (2 : Int32).toNatClampNeg).toNatClampNeg then none else if (0 : Int32) < 0 ∨ 2 ≤ (0 : Int32).toNatClampNeg then none else if (v (pB 1 (v ka1 (2 : Int32).toNatClampNeg).toNatClampNeg) (0 : Int32).toNatClampNeg) ≤ (v (pB 2 (v (pB 4 (v ka1 (1 : Int32).toNatClampNeg).toNatClampNeg) (2 : Int32).toNatClampNeg).toNatClampNeg) (0 : Int32).toNatClampNeg) then (some (v (pB 1 (v ka1 (2 : Int32).toNatClampNeg).toNatClampNeg) (0 : Int32).toNatClampNeg)) else (some (-1))) else ((f_Sim_sum z v ks pA pB pN ka1 Na1).bind fun q56 => if (0 : Int32) < 0 ∨ Na1 ≤ (0 : Int32).toNatClampNeg then none else if (v ka1 (0 : Int32).toNatClampNeg) = 2 then (if (1 : Int32) < 0 ∨ Na1 ≤ (1 : Int32).toNatClampNeg then none else if (2 : Int32) < 0 ∨ Na1 ≤ (2 : Int32).toNatClampNeg then none else if (v ka1 (1 : Int32).toNatClampNeg) = (v ka1 (2 : Int32).toNatClampNeg) then (some (-1)) else (if (1 : Int32) < 0 ∨ Na1 ≤ (1 : Int32).toNatClampNeg then none else if (v ka1 (1 : Int32).toNatClampNeg) < 0 ∨ (pN 3) ≤ (v ka1 (1 : Int32).toNatClampNeg).toNatClampNeg then none else if (2 : Int32) < 0 ∨ Na1 ≤ (2 : Int32).toNatClampNeg then none else if (v ka1 (2 : Int32).toNatClampNeg) < 0 ∨ (pN 2) ≤ (v ka1 (2 : Int32).toNatClampNeg).toNatClampNeg then none else if (1 : Int32) < 0 ∨ Na1 ≤ (1 : Int32).toNatClampNeg then none else if (v ka1 (1 : Int32).toNatClampNeg) < 0 ∨ (pN 2) ≤ (v ka1 (1 : Int32).toNatClampNeg).toNatClampNeg then none else if (0 : Int32) < 0 ∨ 2 ≤ (0 : Int32).toNatClampNeg then none else if (q_min (v (pB 3 (v ka1 (1 : Int32).toNatClampNeg).toNatClampNeg) (v ka1 (2 : Int32).toNatClampNeg).toNatClampNeg) (v (pB 2 (v ka1 (1 : Int32).toNatClampNeg).toNatClampNeg) (0 : Int32).toNatClampNeg)) ≤ q56 then (j_Sim_does_114 (q_min (v (pB 3 (v ka1 (1 : Int32).toNatClampNeg).toNatClampNeg) (v ka1 (2 : Int32).toNatClampNeg).toNatClampNeg) (v (pB 2 (v ka1 (1 : Int32).toNatClampNeg).toNatClampNeg) (0 : Int32).toNatClampNeg))) else (j_Sim_does_114 q56))) else (if (1 : Int32) < 0 ∨ Na1 ≤ (1 : Int32).toNatClampNeg then none else if (v ka1 (1 : Int32).toNatClampNeg) < 0 ∨ (pN 4) ≤ (v ka1 (1 : Int32).toNatClampNeg).toNatClampNeg then none else if (3 : Int32) < 0 ∨ 6 ≤ (3 : Int32).toNatClampNeg then none else if (v (pB 4 (v ka1 (1 : Int32).toNatClampNeg).toNatClampNeg) (3 : Int32).toNatClampNeg) < 0 then (some (-1)) else ((f_Sim_age v ks pA pB pN (pB 4 (v ka1 (1 : Int32).toNatClampNeg).toNatClampNeg) 6).bind fun q146 => if 5 < q146 then (some (-1)) else (if (2 : Int32) < 0 ∨ 6 ≤ (2 : Int32).toNatClampNeg then none else if (2 : Int32) < 0 ∨ Na1 ≤ (2 : Int32).toNatClampNeg then none else if (v (pB 4 (v ka1 (1 : Int32).toNatClampNeg).toNatClampNeg) (2 : Int32).toNatClampNeg) = (v ka1 (2 : Int32).toNatClampNeg) then (some (-1)) else (if 0 ≤ q56 then (if q56 ≤ 999 then (j_Sim_does_186 z v ks pA pB pN ka1 Na1 q56) else (j_Sim_does_186 z v ks pA pB pN ka1 Na1 999)) else (j_Sim_does_186 z v ks pA pB pN ka1 Na1 0)))))))
theorem c_Sim_does {ks : Nat} {pA : Nat → Nat} {pB : Nat → Nat → Nat} {pN : Nat → Nat} {ka1 : Nat} {Na1 : Nat} (hk : isSim sh ks pA pB pN) (ha1 : sh ka1 = some (sA Na1)) {q : Int32} (h : f_Sim_does z v ks pA pB pN ka1 Na1 = some q) : MetI l yX12_does cX12_does 6 (some .int) 2 Γ sh v w n [.ref (Γ.2.1 + ks), .ref (Γ.2.1 + ka1)] (fun x u => x = q ∧ u = v) := by
  unfold f_Sim_does at h
  refine w_start pn_X12 (Nat.le_of_ble_eq_true rfl) fun p e s m args below meth c hx hb hml hret hlk hnm hts hown hK hP hz hE hS ls hl => ?_
  refine lv_aload_n hx hb dX12_does_0 rfl (lv_at hl 0 rfl) ?_
  refine lv_aload_n hx hb dX12_does_1 rfl (lv_at hl 1 rfl) ?_
  obtain ⟨q2, e2, h⟩ := obn_e h
  refine z_Vi (k := ks) (r1 := (q_b q2)) (v1 := v) hx hb hml hts hown hK hP hS hz hE (c_Sim_holds hk ha1 e2) kX12_holds mX12_58 hk.1 rfl rfl rfl hl.1 (Nat.le_of_ble_eq_true rfl) ⟨Nat.le_of_ble_eq_true rfl, Nat.le_of_ble_eq_true rfl⟩ ⟨Nat.zero_le _, Nat.zero_le _⟩ dX12_does_2 fun H1 locs1 hz hP hS => ?_
  refine lv_if_ne (tgt := 10) hx hb dX12_does_5 rfl (fun hc5 => ?_) (fun hc5 => ?_)
  · have h := itf_e h hc5
    refine lv_aload_n hx hb dX12_does_10 rfl (lv_at hl 1 rfl) ?_
    refine lv_iconst (v := 0) hx hb dX12_does_11 rfl ?_
    obtain ⟨hn12, h⟩ := itn_e h
    refine w_iald (k := ka1) hx hb hK hP ha1 hn12 dX12_does_12 ?_
    refine lv_if_ne (tgt := 54) hx hb dX12_does_13 rfl (fun hc13 => ?_) (fun hc13 => ?_)
    · have h := itf_e h hc13
      refine lv_aload_n hx hb dX12_does_54 rfl (lv_at hl 0 rfl) ?_
      refine lv_aload_n hx hb dX12_does_55 rfl (lv_at hl 1 rfl) ?_
      obtain ⟨q56, e56, h⟩ := obn_e h
      refine z_Vi (k := ks) (r1 := q56) (v1 := v) hx hb hml hts hown hK hP hS hz hE (c_Sim_sum hk ha1 e56) kX12_sum mX12_62 hk.1 rfl rfl rfl hl.1 (Nat.le_of_ble_eq_true rfl) ⟨Nat.le_of_ble_eq_true rfl, Nat.le_of_ble_eq_true rfl⟩ ⟨Nat.zero_le _, Nat.zero_le _⟩ dX12_does_56 fun H1 locs1 hz hP hS => ?_
      refine lv_istore_n (lv' := [(2, .int q56), (0, .ref (Γ.2.1 + ks)), (1, .ref (Γ.2.1 + ka1))]) hx hb dX12_does_59 rfl hl (by decide) rfl fun ls hl => ?_
      refine lv_aload_n hx hb dX12_does_60 rfl (lv_at hl 2 rfl) ?_
      refine lv_iconst (v := 0) hx hb dX12_does_61 rfl ?_
      obtain ⟨hn62, h⟩ := itn_e h
      refine w_iald (k := ka1) hx hb hK hP ha1 hn62 dX12_does_62 ?_
      refine lv_iconst (v := 2) hx hb dX12_does_63 rfl ?_
      refine lv_icmp_ne (tgt := 129) hx hb dX12_does_64 rfl (fun hc64 => ?_) (fun hc64 => ?_)
      · have h := itf_e h hc64
        refine lv_aload_n hx hb dX12_does_129 rfl (lv_at hl 1 rfl) ?_
        refine w_gr (k := ks) (r := (pA 4)) hx hb hts hown hK hP fX12_28 hk.1 rfl dX12_does_130 ?_
        refine lv_aload_n hx hb dX12_does_133 rfl (lv_at hl 2 rfl) ?_
        refine lv_iconst (v := 1) hx hb dX12_does_134 rfl ?_
        obtain ⟨hn135, h⟩ := itn_e h
        refine w_iald (k := ka1) hx hb hK hP ha1 hn135 dX12_does_135 ?_
        obtain ⟨hn136, h⟩ := itn_e h
        refine z_aald (k := (pA 4)) hx hb hK hP hk.2.2.2.2.2.1.1 hn136 dX12_does_136 ?_
        refine lv_astore_n (lv' := [(3, .ref (Γ.2.1 + (pB 4 (v ka1 (1 : Int32).toNatClampNeg).toNatClampNeg))), (2, .int q56), (0, .ref (Γ.2.1 + ks)), (1, .ref (Γ.2.1 + ka1))]) hx hb dX12_does_137 rfl hl (by decide) rfl fun ls hl => ?_
        refine lv_aload_n hx hb dX12_does_138 rfl (lv_at hl 0 rfl) ?_
        refine lv_iconst (v := 3) hx hb dX12_does_139 rfl ?_
        obtain ⟨hn140, h⟩ := itn_e h
        refine w_iald (k := (pB 4 (v ka1 (1 : Int32).toNatClampNeg).toNatClampNeg)) hx hb hK hP (hk.2.2.2.2.2.1.2 _ (Nat.lt_of_not_le fun q => hn136 (Or.inr q))) hn140 dX12_does_140 ?_
        refine lv_if_lt (tgt := 162) hx hb dX12_does_141 rfl (fun hc141 => ?_) (fun hc141 => ?_)
        · have h := itt_e h hc141
          refine lv_iconst (v := (-1)) hx hb dX12_does_162 rfl ?_
          exact w_iret hx hb hret rfl hlk hK hP hS hz hE (q_p1 h) dX12_does_163
        · have h := itf_e h hc141
          refine lv_aload_n hx hb dX12_does_144 rfl (lv_at hl 2 rfl) ?_
          refine lv_aload_n hx hb dX12_does_145 rfl (lv_at hl 0 rfl) ?_
          obtain ⟨q146, e146, h⟩ := obn_e h
          refine z_Vi (k := ks) (r1 := q146) (v1 := v) hx hb hml hts hown hK hP hS hz hE (c_Sim_age hk (hk.2.2.2.2.2.1.2 _ (Nat.lt_of_not_le fun q => hn136 (Or.inr q))) e146) kX12_age mX12_53 hk.1 rfl rfl rfl hl.1 (Nat.le_of_ble_eq_true rfl) ⟨Nat.le_of_ble_eq_true rfl, Nat.le_of_ble_eq_true rfl⟩ ⟨Nat.zero_le _, Nat.zero_le _⟩ dX12_does_146 fun H1 locs1 hz hP hS => ?_
          refine lv_iconst (v := 5) hx hb dX12_does_149 rfl ?_
          refine lv_icmp_gt (tgt := 162) hx hb dX12_does_150 rfl (fun hc150 => ?_) (fun hc150 => ?_)
          · have h := itt_e h hc150
            refine lv_iconst (v := (-1)) hx hb dX12_does_162 rfl ?_
            exact w_iret hx hb hret rfl hlk hK hP hS hz hE (q_p1 h) dX12_does_163
          · have h := itf_e h hc150
            refine lv_aload_n hx hb dX12_does_153 rfl (lv_at hl 0 rfl) ?_
            refine lv_iconst (v := 2) hx hb dX12_does_154 rfl ?_
            obtain ⟨hn155, h⟩ := itn_e h
            refine w_iald (k := (pB 4 (v ka1 (1 : Int32).toNatClampNeg).toNatClampNeg)) hx hb hK hP (hk.2.2.2.2.2.1.2 _ (Nat.lt_of_not_le fun q => hn136 (Or.inr q))) hn155 dX12_does_155 ?_
            refine lv_aload_n hx hb dX12_does_156 rfl (lv_at hl 3 rfl) ?_
            refine lv_iconst (v := 2) hx hb dX12_does_157 rfl ?_
            obtain ⟨hn158, h⟩ := itn_e h
            refine w_iald (k := ka1) hx hb hK hP ha1 hn158 dX12_does_158 ?_
            refine lv_icmp_ne (tgt := 164) hx hb dX12_does_159 rfl (fun hc159 => ?_) (fun hc159 => ?_)
            · have h := itf_e h hc159
              refine lv_iload_n hx hb dX12_does_164 rfl (lv_at hl 1 rfl) ?_
              have J186 : ∀ (s186_0 : Int32), (j_Sim_does_186 z v ks pA pB pN ka1 Na1) s186_0 = some q → ∀ (H1 : Heap) (locs1 : List Loc) (ls1 : Array Slot), lv_has ls1 6 [(0, .ref (Γ.2.1 + ks)), (1, .ref (Γ.2.1 + ka1)), (3, .ref (Γ.2.1 + (pB 4 (v ka1 (1 : Int32).toNatClampNeg).toNatClampNeg)))] → Wd Γ sh v w H1 → va_S (gA Γ sh n) s.heap H1 locs1 → H1.size = Γ.2.1 + n → wpI Γ sh w n 2 (fun x u => x = q ∧ u = v) p l e s m args below meth c H1 locs1 (F0 m 186 ls1 [.int s186_0]) := by
                intro s186_0 h H1 locs1 ls hl hP hS hz
                unfold j_Sim_does_186 at h
                refine lv_aload_n hx hb dX12_does_186 rfl (lv_at hl 2 rfl) ?_
                refine lv_iconst (v := 4) hx hb dX12_does_187 rfl ?_
                obtain ⟨hn188, h⟩ := itn_e h
                refine w_iald (k := (pB 4 (v ka1 (1 : Int32).toNatClampNeg).toNatClampNeg)) hx hb hK hP (hk.2.2.2.2.2.1.2 _ (Nat.lt_of_not_le fun q => hn136 (Or.inr q))) hn188 dX12_does_188 ?_
                refine lv_imul hx hb dX12_does_189 ?_
                refine lv_bipush (v := 100) hx hb dX12_does_190 rfl ?_
                refine lv_idiv hx hb dX12_does_192 (by decide) ?_
                refine lv_istore (lv' := [(4, .int ((s186_0 * (v (pB 4 (v ka1 (1 : Int32).toNatClampNeg).toNatClampNeg) (4 : Int32).toNatClampNeg)) / 100)), (0, .ref (Γ.2.1 + ks)), (1, .ref (Γ.2.1 + ka1)), (3, .ref (Γ.2.1 + (pB 4 (v ka1 (1 : Int32).toNatClampNeg).toNatClampNeg)))]) hx hb dX12_does_193 hl (by decide) rfl fun ls hl => ?_
                refine lv_iload hx hb dX12_does_195 (lv_at hl 0 rfl) ?_
                refine lv_aload_n hx hb dX12_does_197 rfl (lv_at hl 1 rfl) ?_
                refine w_gr (k := ks) (r := (pA 2)) hx hb hts hown hK hP fX12_22 hk.1 rfl dX12_does_198 ?_
                refine lv_aload_n hx hb dX12_does_201 rfl (lv_at hl 2 rfl) ?_
                refine lv_iconst (v := 2) hx hb dX12_does_202 rfl ?_
                obtain ⟨hn203, h⟩ := itn_e h
                refine w_iald (k := ka1) hx hb hK hP ha1 hn203 dX12_does_203 ?_
                obtain ⟨hn204, h⟩ := itn_e h
                refine z_aald (k := (pA 2)) hx hb hK hP hk.2.2.2.1.1 hn204 dX12_does_204 ?_
                refine lv_iconst (v := 0) hx hb dX12_does_205 rfl ?_
                obtain ⟨hn206, h⟩ := itn_e h
                refine w_iald (k := (pB 2 (v ka1 (2 : Int32).toNatClampNeg).toNatClampNeg)) hx hb hK hP (hk.2.2.2.1.2 _ (Nat.lt_of_not_le fun q => hn204 (Or.inr q))) hn206 dX12_does_206 ?_
                refine lv_isub hx hb dX12_does_207 ?_
                refine lv_istore (lv' := [(5, .int (((s186_0 * (v (pB 4 (v ka1 (1 : Int32).toNatClampNeg).toNatClampNeg) (4 : Int32).toNatClampNeg)) / 100) - (v (pB 2 (v ka1 (2 : Int32).toNatClampNeg).toNatClampNeg) (0 : Int32).toNatClampNeg))), (4, .int ((s186_0 * (v (pB 4 (v ka1 (1 : Int32).toNatClampNeg).toNatClampNeg) (4 : Int32).toNatClampNeg)) / 100)), (0, .ref (Γ.2.1 + ks)), (1, .ref (Γ.2.1 + ka1)), (3, .ref (Γ.2.1 + (pB 4 (v ka1 (1 : Int32).toNatClampNeg).toNatClampNeg)))]) hx hb dX12_does_208 hl (by decide) rfl fun ls hl => ?_
                refine lv_aload_n hx hb dX12_does_210 rfl (lv_at hl 2 rfl) ?_
                refine lv_aload_n hx hb dX12_does_211 rfl (lv_at hl 3 rfl) ?_
                refine lv_iconst (v := 2) hx hb dX12_does_212 rfl ?_
                obtain ⟨hn213, h⟩ := itn_e h
                refine w_iald (k := ka1) hx hb hK hP ha1 hn213 dX12_does_213 ?_
                obtain ⟨q214, e214, h⟩ := obn_e h
                refine z_Vi (k := ks) (r1 := q214) (v1 := v) hx hb hml hts hown hK hP hS hz hE (c_Sim_debts hk e214) kX12_debts mX12_49 hk.1 rfl rfl rfl hl.1 (Nat.le_of_ble_eq_true rfl) ⟨Nat.le_of_ble_eq_true rfl, Nat.le_of_ble_eq_true rfl⟩ ⟨Nat.zero_le _, Nat.zero_le _⟩ dX12_does_214 fun H1 locs1 hz hP hS => ?_
                refine lv_iload hx hb dX12_does_217 (lv_at hl 0 rfl) ?_
                have J228 : ∀ (s228_0 : Int32), (j_Sim_does_228 v pB pN ka1 Na1 s186_0 q214) s228_0 = some q → ∀ (H1 : Heap) (locs1 : List Loc) (ls1 : Array Slot), lv_has ls1 6 [(0, .ref (Γ.2.1 + ks)), (1, .ref (Γ.2.1 + ka1)), (4, .int ((s186_0 * (v (pB 4 (v ka1 (1 : Int32).toNatClampNeg).toNatClampNeg) (4 : Int32).toNatClampNeg)) / 100))] → Wd Γ sh v w H1 → va_S (gA Γ sh n) s.heap H1 locs1 → H1.size = Γ.2.1 + n → wpI Γ sh w n 2 (fun x u => x = q ∧ u = v) p l e s m args below meth c H1 locs1 (F0 m 228 ls1 [.int s228_0, .int q214]) := by
                  intro s228_0 h H1 locs1 ls hl hP hS hz
                  unfold j_Sim_does_228 at h
                  refine lv_iadd hx hb dX12_does_228 ?_
                  refine lv_aload_n hx hb dX12_does_229 rfl (lv_at hl 0 rfl) ?_
                  refine w_gr (k := ks) (r := (pA 2)) hx hb hts hown hK hP fX12_22 hk.1 rfl dX12_does_230 ?_
                  refine lv_aload_n hx hb dX12_does_233 rfl (lv_at hl 1 rfl) ?_
                  refine lv_iconst (v := 2) hx hb dX12_does_234 rfl ?_
                  obtain ⟨hn235, h⟩ := itn_e h
                  refine w_iald (k := ka1) hx hb hK hP ha1 hn235 dX12_does_235 ?_
                  obtain ⟨hn236, h⟩ := itn_e h
                  refine z_aald (k := (pA 2)) hx hb hK hP hk.2.2.2.1.1 hn236 dX12_does_236 ?_
                  refine lv_iconst (v := 1) hx hb dX12_does_237 rfl ?_
                  obtain ⟨hn238, h⟩ := itn_e h
                  refine w_iald (k := (pB 2 (v ka1 (2 : Int32).toNatClampNeg).toNatClampNeg)) hx hb hK hP (hk.2.2.2.1.2 _ (Nat.lt_of_not_le fun q => hn236 (Or.inr q))) hn238 dX12_does_238 ?_
                  refine lv_icmp_le (tgt := 246) hx hb dX12_does_239 rfl (fun hc239 => ?_) (fun hc239 => ?_)
                  · have h := itt_e h hc239
                    refine lv_iload hx hb dX12_does_246 (lv_at hl 2 rfl) ?_
                    exact w_iret hx hb hret rfl hlk hK hP hS hz hE (q_p1 h) dX12_does_248
                  · have h := itf_e h hc239
                    refine lv_iconst (v := (-1)) hx hb dX12_does_242 rfl ?_
                    refine lv_goto (tgt := 248) hx hb dX12_does_243 rfl ?_
                    exact w_iret hx hb hret rfl hlk hK hP hS hz hE (q_p1 h) dX12_does_248
                refine lv_if_ge (tgt := 226) hx hb dX12_does_219 rfl (fun hc219 => ?_) (fun hc219 => ?_)
                · have h := itt_e h hc219
                  refine lv_iload hx hb dX12_does_226 (lv_at hl 0 rfl) ?_
                  exact J228 (((s186_0 * (v (pB 4 (v ka1 (1 : Int32).toNatClampNeg).toNatClampNeg) (4 : Int32).toNatClampNeg)) / 100) - (v (pB 2 (v ka1 (2 : Int32).toNatClampNeg).toNatClampNeg) (0 : Int32).toNatClampNeg)) h _ _ _ (lv_sub hl [2, 3, 1] rfl) hP hS hz
                · have h := itf_e h hc219
                  refine lv_iconst (v := 0) hx hb dX12_does_222 rfl ?_
                  refine lv_goto (tgt := 228) hx hb dX12_does_223 rfl ?_
                  exact J228 0 h _ _ _ (lv_sub hl [2, 3, 1] rfl) hP hS hz
              refine lv_if_ge (tgt := 172) hx hb dX12_does_165 rfl (fun hc165 => ?_) (fun hc165 => ?_)
              · have h := itt_e h hc165
                refine lv_iload_n hx hb dX12_does_172 rfl (lv_at hl 1 rfl) ?_
                refine lv_sipush (v := 999) hx hb dX12_does_173 rfl ?_
                refine lv_icmp_le (tgt := 185) hx hb dX12_does_176 rfl (fun hc176 => ?_) (fun hc176 => ?_)
                · have h := itt_e h hc176
                  refine lv_iload_n hx hb dX12_does_185 rfl (lv_at hl 1 rfl) ?_
                  exact J186 q56 h _ _ _ (lv_sub hl [2, 3, 0] rfl) hP hS hz
                · have h := itf_e h hc176
                  refine lv_sipush (v := 999) hx hb dX12_does_179 rfl ?_
                  refine lv_goto (tgt := 186) hx hb dX12_does_182 rfl ?_
                  exact J186 999 h _ _ _ (lv_sub hl [2, 3, 0] rfl) hP hS hz
              · have h := itf_e h hc165
                refine lv_iconst (v := 0) hx hb dX12_does_168 rfl ?_
                refine lv_goto (tgt := 186) hx hb dX12_does_169 rfl ?_
                exact J186 0 h _ _ _ (lv_sub hl [2, 3, 0] rfl) hP hS hz
            · have h := itt_e h hc159
              refine lv_iconst (v := (-1)) hx hb dX12_does_162 rfl ?_
              exact w_iret hx hb hret rfl hlk hK hP hS hz hE (q_p1 h) dX12_does_163
      · have h := itt_e h hc64
        refine lv_aload_n hx hb dX12_does_67 rfl (lv_at hl 2 rfl) ?_
        refine lv_iconst (v := 1) hx hb dX12_does_68 rfl ?_
        obtain ⟨hn69, h⟩ := itn_e h
        refine w_iald (k := ka1) hx hb hK hP ha1 hn69 dX12_does_69 ?_
        refine lv_aload_n hx hb dX12_does_70 rfl (lv_at hl 2 rfl) ?_
        refine lv_iconst (v := 2) hx hb dX12_does_71 rfl ?_
        obtain ⟨hn72, h⟩ := itn_e h
        refine w_iald (k := ka1) hx hb hK hP ha1 hn72 dX12_does_72 ?_
        refine lv_icmp_ne (tgt := 78) hx hb dX12_does_73 rfl (fun hc73 => ?_) (fun hc73 => ?_)
        · have h := itf_e h hc73
          refine lv_aload_n hx hb dX12_does_78 rfl (lv_at hl 1 rfl) ?_
          refine w_gr (k := ks) (r := (pA 3)) hx hb hts hown hK hP fX12_25 hk.1 rfl dX12_does_79 ?_
          refine lv_aload_n hx hb dX12_does_82 rfl (lv_at hl 2 rfl) ?_
          refine lv_iconst (v := 1) hx hb dX12_does_83 rfl ?_
          obtain ⟨hn84, h⟩ := itn_e h
          refine w_iald (k := ka1) hx hb hK hP ha1 hn84 dX12_does_84 ?_
          obtain ⟨hn85, h⟩ := itn_e h
          refine z_aald (k := (pA 3)) hx hb hK hP hk.2.2.2.2.1.1 hn85 dX12_does_85 ?_
          refine lv_aload_n hx hb dX12_does_86 rfl (lv_at hl 2 rfl) ?_
          refine lv_iconst (v := 2) hx hb dX12_does_87 rfl ?_
          obtain ⟨hn88, h⟩ := itn_e h
          refine w_iald (k := ka1) hx hb hK hP ha1 hn88 dX12_does_88 ?_
          obtain ⟨hn89, h⟩ := itn_e h
          refine w_iald (k := (pB 3 (v ka1 (1 : Int32).toNatClampNeg).toNatClampNeg)) hx hb hK hP (hk.2.2.2.2.1.2 _ (Nat.lt_of_not_le fun q => hn85 (Or.inr q))) hn89 dX12_does_89 ?_
          refine lv_aload_n hx hb dX12_does_90 rfl (lv_at hl 1 rfl) ?_
          refine w_gr (k := ks) (r := (pA 2)) hx hb hts hown hK hP fX12_22 hk.1 rfl dX12_does_91 ?_
          refine lv_aload_n hx hb dX12_does_94 rfl (lv_at hl 2 rfl) ?_
          refine lv_iconst (v := 1) hx hb dX12_does_95 rfl ?_
          obtain ⟨hn96, h⟩ := itn_e h
          refine w_iald (k := ka1) hx hb hK hP ha1 hn96 dX12_does_96 ?_
          obtain ⟨hn97, h⟩ := itn_e h
          refine z_aald (k := (pA 2)) hx hb hK hP hk.2.2.2.1.1 hn97 dX12_does_97 ?_
          refine lv_iconst (v := 0) hx hb dX12_does_98 rfl ?_
          obtain ⟨hn99, h⟩ := itn_e h
          refine w_iald (k := (pB 2 (v ka1 (1 : Int32).toNatClampNeg).toNatClampNeg)) hx hb hK hP (hk.2.2.2.1.2 _ (Nat.lt_of_not_le fun q => hn97 (Or.inr q))) hn99 dX12_does_99 ?_
          refine z_mmin hx hb hml hl.1 hts hown xX12_40 ⟨Nat.le_of_ble_eq_true rfl, Nat.le_of_ble_eq_true rfl⟩ (Nat.le_of_ble_eq_true rfl) ⟨Nat.zero_le _, Nat.zero_le _⟩ dX12_does_100 ?_
          refine lv_istore_n (lv' := [(3, .int (q_min (v (pB 3 (v ka1 (1 : Int32).toNatClampNeg).toNatClampNeg) (v ka1 (2 : Int32).toNatClampNeg).toNatClampNeg) (v (pB 2 (v ka1 (1 : Int32).toNatClampNeg).toNatClampNeg) (0 : Int32).toNatClampNeg))), (2, .int q56), (0, .ref (Γ.2.1 + ks)), (1, .ref (Γ.2.1 + ka1))]) hx hb dX12_does_103 rfl hl (by decide) rfl fun ls hl => ?_
          refine lv_iload_n hx hb dX12_does_104 rfl (lv_at hl 1 rfl) ?_
          refine lv_iload_n hx hb dX12_does_105 rfl (lv_at hl 0 rfl) ?_
          have J114 : ∀ (s114_0 : Int32), j_Sim_does_114 s114_0 = some q → ∀ (H1 : Heap) (locs1 : List Loc) (ls1 : Array Slot), lv_has ls1 6 [] → Wd Γ sh v w H1 → va_S (gA Γ sh n) s.heap H1 locs1 → H1.size = Γ.2.1 + n → wpI Γ sh w n 2 (fun x u => x = q ∧ u = v) p l e s m args below meth c H1 locs1 (F0 m 114 ls1 [.int s114_0]) := by
            intro s114_0 h H1 locs1 ls hl hP hS hz
            unfold j_Sim_does_114 at h
            refine lv_istore (lv' := [(4, .int s114_0)]) hx hb dX12_does_114 hl (by decide) rfl fun ls hl => ?_
            refine lv_iload hx hb dX12_does_116 (lv_at hl 0 rfl) ?_
            refine lv_iconst (v := 1) hx hb dX12_does_118 rfl ?_
            refine lv_icmp_ge (tgt := 126) hx hb dX12_does_119 rfl (fun hc119 => ?_) (fun hc119 => ?_)
            · have h := itt_e h hc119
              refine lv_iload hx hb dX12_does_126 (lv_at hl 0 rfl) ?_
              exact w_iret hx hb hret rfl hlk hK hP hS hz hE (q_p1 h) dX12_does_128
            · have h := itf_e h hc119
              refine lv_iconst (v := (-1)) hx hb dX12_does_122 rfl ?_
              refine lv_goto (tgt := 128) hx hb dX12_does_123 rfl ?_
              exact w_iret hx hb hret rfl hlk hK hP hS hz hE (q_p1 h) dX12_does_128
          refine lv_icmp_ge (tgt := 113) hx hb dX12_does_106 rfl (fun hc106 => ?_) (fun hc106 => ?_)
          · have h := itt_e h hc106
            refine lv_iload_n hx hb dX12_does_113 rfl (lv_at hl 0 rfl) ?_
            exact J114 (q_min (v (pB 3 (v ka1 (1 : Int32).toNatClampNeg).toNatClampNeg) (v ka1 (2 : Int32).toNatClampNeg).toNatClampNeg) (v (pB 2 (v ka1 (1 : Int32).toNatClampNeg).toNatClampNeg) (0 : Int32).toNatClampNeg)) h _ _ _ (lv_sub hl [] rfl) hP hS hz
          · have h := itf_e h hc106
            refine lv_iload_n hx hb dX12_does_109 rfl (lv_at hl 1 rfl) ?_
            refine lv_goto (tgt := 114) hx hb dX12_does_110 rfl ?_
            exact J114 q56 h _ _ _ (lv_sub hl [] rfl) hP hS hz
        · have h := itt_e h hc73
          refine lv_iconst (v := (-1)) hx hb dX12_does_76 rfl ?_
          exact w_iret hx hb hret rfl hlk hK hP hS hz hE (q_p1 h) dX12_does_77
    · have h := itt_e h hc13
      refine lv_aload_n hx hb dX12_does_16 rfl (lv_at hl 0 rfl) ?_
      refine w_gr (k := ks) (r := (pA 1)) hx hb hts hown hK hP fX12_18 hk.1 rfl dX12_does_17 ?_
      refine lv_aload_n hx hb dX12_does_20 rfl (lv_at hl 1 rfl) ?_
      refine lv_iconst (v := 2) hx hb dX12_does_21 rfl ?_
      obtain ⟨hn22, h⟩ := itn_e h
      refine w_iald (k := ka1) hx hb hK hP ha1 hn22 dX12_does_22 ?_
      obtain ⟨hn23, h⟩ := itn_e h
      refine z_aald (k := (pA 1)) hx hb hK hP hk.2.2.1.1 hn23 dX12_does_23 ?_
      refine lv_iconst (v := 0) hx hb dX12_does_24 rfl ?_
      obtain ⟨hn25, h⟩ := itn_e h
      refine w_iald (k := (pB 1 (v ka1 (2 : Int32).toNatClampNeg).toNatClampNeg)) hx hb hK hP (hk.2.2.1.2 _ (Nat.lt_of_not_le fun q => hn23 (Or.inr q))) hn25 dX12_does_25 ?_
      refine lv_istore_n (lv' := [(2, .int (v (pB 1 (v ka1 (2 : Int32).toNatClampNeg).toNatClampNeg) (0 : Int32).toNatClampNeg)), (0, .ref (Γ.2.1 + ks)), (1, .ref (Γ.2.1 + ka1))]) hx hb dX12_does_26 rfl hl (by decide) rfl fun ls hl => ?_
      refine lv_aload_n hx hb dX12_does_27 rfl (lv_at hl 1 rfl) ?_
      refine w_gr (k := ks) (r := (pA 2)) hx hb hts hown hK hP fX12_22 hk.1 rfl dX12_does_28 ?_
      refine lv_aload_n hx hb dX12_does_31 rfl (lv_at hl 1 rfl) ?_
      refine w_gr (k := ks) (r := (pA 4)) hx hb hts hown hK hP fX12_28 hk.1 rfl dX12_does_32 ?_
      refine lv_aload_n hx hb dX12_does_35 rfl (lv_at hl 2 rfl) ?_
      refine lv_iconst (v := 1) hx hb dX12_does_36 rfl ?_
      obtain ⟨hn37, h⟩ := itn_e h
      refine w_iald (k := ka1) hx hb hK hP ha1 hn37 dX12_does_37 ?_
      obtain ⟨hn38, h⟩ := itn_e h
      refine z_aald (k := (pA 4)) hx hb hK hP hk.2.2.2.2.2.1.1 hn38 dX12_does_38 ?_
      refine lv_iconst (v := 2) hx hb dX12_does_39 rfl ?_
      obtain ⟨hn40, h⟩ := itn_e h
      refine w_iald (k := (pB 4 (v ka1 (1 : Int32).toNatClampNeg).toNatClampNeg)) hx hb hK hP (hk.2.2.2.2.2.1.2 _ (Nat.lt_of_not_le fun q => hn38 (Or.inr q))) hn40 dX12_does_40 ?_
      obtain ⟨hn41, h⟩ := itn_e h
      refine z_aald (k := (pA 2)) hx hb hK hP hk.2.2.2.1.1 hn41 dX12_does_41 ?_
      refine lv_iconst (v := 0) hx hb dX12_does_42 rfl ?_
      obtain ⟨hn43, h⟩ := itn_e h
      refine w_iald (k := (pB 2 (v (pB 4 (v ka1 (1 : Int32).toNatClampNeg).toNatClampNeg) (2 : Int32).toNatClampNeg).toNatClampNeg)) hx hb hK hP (hk.2.2.2.1.2 _ (Nat.lt_of_not_le fun q => hn41 (Or.inr q))) hn43 dX12_does_43 ?_
      refine lv_iload_n hx hb dX12_does_44 rfl (lv_at hl 0 rfl) ?_
      refine lv_icmp_ge (tgt := 52) hx hb dX12_does_45 rfl (fun hc45 => ?_) (fun hc45 => ?_)
      · have h := itt_e h hc45
        refine lv_iload_n hx hb dX12_does_52 rfl (lv_at hl 0 rfl) ?_
        exact w_iret hx hb hret rfl hlk hK hP hS hz hE (q_p1 h) dX12_does_53
      · have h := itf_e h hc45
        refine lv_iconst (v := (-1)) hx hb dX12_does_48 rfl ?_
        refine lv_goto (tgt := 53) hx hb dX12_does_49 rfl ?_
        exact w_iret hx hb hret rfl hlk hK hP hS hz hE (q_p1 h) dX12_does_53
  · have h := itt_e h hc5
    refine lv_iconst (v := (-1)) hx hb dX12_does_8 rfl ?_
    exact w_iret hx hb hret rfl hlk hK hP hS hz hE (q_p1 h) dX12_does_9
def j_Sim_carry_197 (pB : Nat → Nat → Nat) (pN : Nat → Nat) (ka1 : Nat) (Na1 : Nat) (q2 : Int32) (v31 : Va) (s197_0 : Int32) : Option (Bool × Va) := if (0 : Int32) < 0 ∨ 2 ≤ (0 : Int32).toNatClampNeg then none else if (0 : Int32) < 0 ∨ 2 ≤ (0 : Int32).toNatClampNeg then none else bnd (pu v31 (pB 2 (v31 ka1 (2 : Int32).toNatClampNeg).toNatClampNeg) (0 : Int32).toNatClampNeg ((v31 (pB 2 (v31 ka1 (2 : Int32).toNatClampNeg).toNatClampNeg) (0 : Int32).toNatClampNeg) - s197_0)) fun v207 => if (0 : Int32) < 0 ∨ 2 ≤ (0 : Int32).toNatClampNeg then none else if (0 : Int32) < 0 ∨ 2 ≤ (0 : Int32).toNatClampNeg then none else bnd (pu v207 (pB 2 (v31 (pB 4 (v31 ka1 (1 : Int32).toNatClampNeg).toNatClampNeg) (2 : Int32).toNatClampNeg).toNatClampNeg) (0 : Int32).toNatClampNeg ((v207 (pB 2 (v31 (pB 4 (v31 ka1 (1 : Int32).toNatClampNeg).toNatClampNeg) (2 : Int32).toNatClampNeg).toNatClampNeg) (0 : Int32).toNatClampNeg) + s197_0)) fun v216 => if (2 : Int32) < 0 ∨ Na1 ≤ (2 : Int32).toNatClampNeg then none else if (v216 ka1 (2 : Int32).toNatClampNeg) < 0 ∨ (pN 3) ≤ (v216 ka1 (2 : Int32).toNatClampNeg).toNatClampNeg then none else if (2 : Int32) < 0 ∨ 6 ≤ (2 : Int32).toNatClampNeg then none else if (v216 (pB 4 (v31 ka1 (1 : Int32).toNatClampNeg).toNatClampNeg) (2 : Int32).toNatClampNeg) < 0 ∨ (pN 2) ≤ (v216 (pB 4 (v31 ka1 (1 : Int32).toNatClampNeg).toNatClampNeg) (2 : Int32).toNatClampNeg).toNatClampNeg then none else if (v216 (pB 4 (v31 ka1 (1 : Int32).toNatClampNeg).toNatClampNeg) (2 : Int32).toNatClampNeg) < 0 ∨ (pN 2) ≤ (v216 (pB 4 (v31 ka1 (1 : Int32).toNatClampNeg).toNatClampNeg) (2 : Int32).toNatClampNeg).toNatClampNeg then none else bnd (pu v216 (pB 3 (v216 ka1 (2 : Int32).toNatClampNeg).toNatClampNeg) (v216 (pB 4 (v31 ka1 (1 : Int32).toNatClampNeg).toNatClampNeg) (2 : Int32).toNatClampNeg).toNatClampNeg ((v216 (pB 3 (v216 ka1 (2 : Int32).toNatClampNeg).toNatClampNeg) (v216 (pB 4 (v31 ka1 (1 : Int32).toNatClampNeg).toNatClampNeg) (2 : Int32).toNatClampNeg).toNatClampNeg) + (q2 - s197_0))) fun v235 => if (2 : Int32) < 0 ∨ Na1 ≤ (2 : Int32).toNatClampNeg then none else if (2 : Int32) < 0 ∨ 6 ≤ (2 : Int32).toNatClampNeg then none else bnd (pu v235 (pB 4 (v31 ka1 (1 : Int32).toNatClampNeg).toNatClampNeg) (2 : Int32).toNatClampNeg (v235 ka1 (2 : Int32).toNatClampNeg)) fun v241 => some (true, v241)
def f_Sim_carry (z : Nat) (v : Va) (ks : Nat) (pA : Nat → Nat) (pB : Nat → Nat → Nat) (pN : Nat → Nat) (ka1 : Nat) (Na1 : Nat) : Option (Bool × Va) := (f_Sim_does z v ks pA pB pN ka1 Na1).bind fun q2 => if 0 ≤ q2 then (if (11 : Int32) < 0 ∨ Na1 ≤ (11 : Int32).toNatClampNeg then none else if (11 : Int32) < 0 ∨ Na1 ≤ (11 : Int32).toNatClampNeg then none else bnd (pu v ka1 (11 : Int32).toNatClampNeg ((v ka1 (11 : Int32).toNatClampNeg) + 1)) fun v19 => if (0 : Int32) < 0 ∨ Na1 ≤ (0 : Int32).toNatClampNeg then none else if (v19 ka1 (0 : Int32).toNatClampNeg) < 0 ∨ 3 ≤ (v19 ka1 (0 : Int32).toNatClampNeg).toNatClampNeg then none else if (v19 ka1 (0 : Int32).toNatClampNeg) < 0 ∨ 3 ≤ (v19 ka1 (0 : Int32).toNatClampNeg).toNatClampNeg then none else bnd (pu v19 (pA 6) (v19 ka1 (0 : Int32).toNatClampNeg).toNatClampNeg ((v19 (pA 6) (v19 ka1 (0 : Int32).toNatClampNeg).toNatClampNeg) + 1)) fun v31 => if (0 : Int32) < 0 ∨ Na1 ≤ (0 : Int32).toNatClampNeg then none else if (v31 ka1 (0 : Int32).toNatClampNeg) = 2 then (if (1 : Int32) < 0 ∨ Na1 ≤ (1 : Int32).toNatClampNeg then none else if (v31 ka1 (1 : Int32).toNatClampNeg) < 0 ∨ (pN 2) ≤ (v31 ka1 (1 : Int32).toNatClampNeg).toNatClampNeg then none else if (0 : Int32) < 0 ∨ 2 ≤ (0 : Int32).toNatClampNeg then none else if (0 : Int32) < 0 ∨ 2 ≤ (0 : Int32).toNatClampNeg then none else bnd (pu v31 (pB 2 (v31 ka1 (1 : Int32).toNatClampNeg).toNatClampNeg) (0 : Int32).toNatClampNeg ((v31 (pB 2 (v31 ka1 (1 : Int32).toNatClampNeg).toNatClampNeg) (0 : Int32).toNatClampNeg) - q2)) fun v52 => if (2 : Int32) < 0 ∨ Na1 ≤ (2 : Int32).toNatClampNeg then none else if (v52 ka1 (2 : Int32).toNatClampNeg) < 0 ∨ (pN 2) ≤ (v52 ka1 (2 : Int32).toNatClampNeg).toNatClampNeg then none else if (0 : Int32) < 0 ∨ 2 ≤ (0 : Int32).toNatClampNeg then none else if (0 : Int32) < 0 ∨ 2 ≤ (0 : Int32).toNatClampNeg then none else bnd (pu v52 (pB 2 (v52 ka1 (2 : Int32).toNatClampNeg).toNatClampNeg) (0 : Int32).toNatClampNeg ((v52 (pB 2 (v52 ka1 (2 : Int32).toNatClampNeg).toNatClampNeg) (0 : Int32).toNatClampNeg) + q2)) fun v66 => if (1 : Int32) < 0 ∨ Na1 ≤ (1 : Int32).toNatClampNeg then none else if (v66 ka1 (1 : Int32).toNatClampNeg) < 0 ∨ (pN 3) ≤ (v66 ka1 (1 : Int32).toNatClampNeg).toNatClampNeg then none else if (2 : Int32) < 0 ∨ Na1 ≤ (2 : Int32).toNatClampNeg then none else if (v66 ka1 (2 : Int32).toNatClampNeg) < 0 ∨ (pN 2) ≤ (v66 ka1 (2 : Int32).toNatClampNeg).toNatClampNeg then none else if (v66 ka1 (2 : Int32).toNatClampNeg) < 0 ∨ (pN 2) ≤ (v66 ka1 (2 : Int32).toNatClampNeg).toNatClampNeg then none else bnd (pu v66 (pB 3 (v66 ka1 (1 : Int32).toNatClampNeg).toNatClampNeg) (v66 ka1 (2 : Int32).toNatClampNeg).toNatClampNeg ((v66 (pB 3 (v66 ka1 (1 : Int32).toNatClampNeg).toNatClampNeg) (v66 ka1 (2 : Int32).toNatClampNeg).toNatClampNeg) - q2)) fun v82 => some (true, v82)) else (if (1 : Int32) < 0 ∨ Na1 ≤ (1 : Int32).toNatClampNeg then none else if (v31 ka1 (1 : Int32).toNatClampNeg) < 0 ∨ (pN 4) ≤ (v31 ka1 (1 : Int32).toNatClampNeg).toNatClampNeg then none else if (2 : Int32) < 0 ∨ 6 ≤ (2 : Int32).toNatClampNeg then none else if (v31 (pB 4 (v31 ka1 (1 : Int32).toNatClampNeg).toNatClampNeg) (2 : Int32).toNatClampNeg) < 0 ∨ (pN 2) ≤ (v31 (pB 4 (v31 ka1 (1 : Int32).toNatClampNeg).toNatClampNeg) (2 : Int32).toNatClampNeg).toNatClampNeg then none else if (0 : Int32) < 0 ∨ Na1 ≤ (0 : Int32).toNatClampNeg then none else if (v31 ka1 (0 : Int32).toNatClampNeg) = 0 then (if (0 : Int32) < 0 ∨ 2 ≤ (0 : Int32).toNatClampNeg then none else if (0 : Int32) < 0 ∨ 2 ≤ (0 : Int32).toNatClampNeg then none else bnd (pu v31 (pB 2 (v31 (pB 4 (v31 ka1 (1 : Int32).toNatClampNeg).toNatClampNeg) (2 : Int32).toNatClampNeg).toNatClampNeg) (0 : Int32).toNatClampNeg ((v31 (pB 2 (v31 (pB 4 (v31 ka1 (1 : Int32).toNatClampNeg).toNatClampNeg) (2 : Int32).toNatClampNeg).toNatClampNeg) (0 : Int32).toNatClampNeg) - q2)) fun v117 => if (2 : Int32) < 0 ∨ Na1 ≤ (2 : Int32).toNatClampNeg then none else if (v117 ka1 (2 : Int32).toNatClampNeg) < 0 ∨ (pN 1) ≤ (v117 ka1 (2 : Int32).toNatClampNeg).toNatClampNeg then none else if (2 : Int32) < 0 ∨ 3 ≤ (2 : Int32).toNatClampNeg then none else if (2 : Int32) < 0 ∨ 3 ≤ (2 : Int32).toNatClampNeg then none else bnd (pu v117 (pB 1 (v117 ka1 (2 : Int32).toNatClampNeg).toNatClampNeg) (2 : Int32).toNatClampNeg ((v117 (pB 1 (v117 ka1 (2 : Int32).toNatClampNeg).toNatClampNeg) (2 : Int32).toNatClampNeg) + q2)) fun v131 => if (2 : Int32) < 0 ∨ Na1 ≤ (2 : Int32).toNatClampNeg then none else if (3 : Int32) < 0 ∨ 6 ≤ (3 : Int32).toNatClampNeg then none else bnd (pu v131 (pB 4 (v31 ka1 (1 : Int32).toNatClampNeg).toNatClampNeg) (3 : Int32).toNatClampNeg (v131 ka1 (2 : Int32).toNatClampNeg)) fun v137 => if (1 : Int32) < 0 ∨ 6 ≤ (1 : Int32).toNatClampNeg then none else if (1 : Int32) < 0 ∨ 6 ≤ (1 : Int32).toNatClampNeg then none else if (2 : Int32) < 0 ∨ Na1 ≤ (2 : Int32).toNatClampNeg then none else if (v137 ka1 (2 : Int32).toNatClampNeg) < 0 ∨ (pN 1) ≤ (v137 ka1 (2 : Int32).toNatClampNeg).toNatClampNeg then none else if (1 : Int32) < 0 ∨ 3 ≤ (1 : Int32).toNatClampNeg then none else if (4 : Int32) < 0 ∨ 6 ≤ (4 : Int32).toNatClampNeg then none else bnd (pu v137 (pB 4 (v31 ka1 (1 : Int32).toNatClampNeg).toNatClampNeg) (4 : Int32).toNatClampNeg ((v137 (pB 4 (v31 ka1 (1 : Int32).toNatClampNeg).toNatClampNeg) (1 : Int32).toNatClampNeg) - (((v137 (pB 4 (v31 ka1 (1 : Int32).toNatClampNeg).toNatClampNeg) (1 : Int32).toNatClampNeg) * (v137 (pB 1 (v137 ka1 (2 : Int32).toNatClampNeg).toNatClampNeg) (1 : Int32).toNatClampNeg)) / 100))) fun v161 => if (5 : Int32) < 0 ∨ 6 ≤ (5 : Int32).toNatClampNeg then none else bnd (pu v161 (pB 4 (v31 ka1 (1 : Int32).toNatClampNeg).toNatClampNeg) (5 : Int32).toNatClampNeg (v161 ks 0)) fun v168 => some (true, v168)) else (if (2 : Int32) < 0 ∨ Na1 ≤ (2 : Int32).toNatClampNeg then none else if (v31 ka1 (2 : Int32).toNatClampNeg) < 0 ∨ (pN 2) ≤ (v31 ka1 (2 : Int32).toNatClampNeg).toNatClampNeg then none else if (0 : Int32) < 0 ∨ 2 ≤ (0 : Int32).toNatClampNeg then none else if (v31 (pB 2 (v31 ka1 (2 : Int32).toNatClampNeg).toNatClampNeg) (0 : Int32).toNatClampNeg) ≤ q2 then (if (0 : Int32) < 0 ∨ 2 ≤ (0 : Int32).toNatClampNeg then none else j_Sim_carry_197 pB pN ka1 Na1 q2 v31 (v31 (pB 2 (v31 ka1 (2 : Int32).toNatClampNeg).toNatClampNeg) (0 : Int32).toNatClampNeg)) else (j_Sim_carry_197 pB pN ka1 Na1 q2 v31 q2)))) else (some (false, v))
theorem c_Sim_carry {ks : Nat} {pA : Nat → Nat} {pB : Nat → Nat → Nat} {pN : Nat → Nat} {ka1 : Nat} {Na1 : Nat} (hk : isSim sh ks pA pB pN) (ha1 : sh ka1 = some (sA Na1)) {q : Bool × Va} (h : f_Sim_carry z v ks pA pB pN ka1 Na1 = some q) : MetI l yX12_carry cX12_carry 7 (some .boolean) 3 Γ sh v w n [.ref (Γ.2.1 + ks), .ref (Γ.2.1 + ka1)] (fun x u => x = q_b q.1 ∧ u = q.2) := by
  unfold f_Sim_carry at h
  refine w_start pn_X12 (Nat.le_of_ble_eq_true rfl) fun p e s m args below meth c hx hb hml hret hlk hnm hts hown hK hP hz hE hS ls hl => ?_
  refine lv_aload_n hx hb dX12_carry_0 rfl (lv_at hl 0 rfl) ?_
  refine lv_aload_n hx hb dX12_carry_1 rfl (lv_at hl 1 rfl) ?_
  obtain ⟨q2, e2, h⟩ := obn_e h
  refine z_Vi (k := ks) (r1 := q2) (v1 := v) hx hb hml hts hown hK hP hS hz hE (c_Sim_does hk ha1 e2) kX12_does mX12_65 hk.1 rfl rfl rfl hl.1 (Nat.le_of_ble_eq_true rfl) ⟨Nat.le_of_ble_eq_true rfl, Nat.le_of_ble_eq_true rfl⟩ ⟨Nat.zero_le _, Nat.zero_le _⟩ dX12_carry_2 fun H1 locs1 hz hP hS => ?_
  refine lv_istore_n (lv' := [(2, .int q2), (0, .ref (Γ.2.1 + ks)), (1, .ref (Γ.2.1 + ka1))]) hx hb dX12_carry_5 rfl hl (by decide) rfl fun ls hl => ?_
  refine lv_iload_n hx hb dX12_carry_6 rfl (lv_at hl 0 rfl) ?_
  refine lv_if_ge (tgt := 12) hx hb dX12_carry_7 rfl (fun hc7 => ?_) (fun hc7 => ?_)
  · have h := itt_e h hc7
    refine lv_aload_n hx hb dX12_carry_12 rfl (lv_at hl 2 rfl) ?_
    refine lv_bipush (v := 11) hx hb dX12_carry_13 rfl ?_
    refine lv_dup2_11 hx hb dX12_carry_15 rfl rfl ?_
    obtain ⟨hn16, h⟩ := itn_e h
    refine w_iald (k := ka1) hx hb hK hP ha1 hn16 dX12_carry_16 ?_
    refine lv_iconst (v := 1) hx hb dX12_carry_17 rfl ?_
    refine lv_iadd hx hb dX12_carry_18 ?_
    obtain ⟨hn19, h⟩ := itn_e h
    obtain ⟨v19, e19, h⟩ := bnd_e h
    refine w_ia2 (k := ka1) hx hb hK hP hS hz ha1 hn19 e19 dX12_carry_19 fun H1 locs1 hz hP hS => ?_
    refine lv_aload_n hx hb dX12_carry_20 rfl (lv_at hl 1 rfl) ?_
    refine w_gr (k := ks) (r := (pA 6)) hx hb hts hown hK hP fX12_34 hk.1 rfl dX12_carry_21 ?_
    refine lv_aload_n hx hb dX12_carry_24 rfl (lv_at hl 2 rfl) ?_
    refine lv_iconst (v := 0) hx hb dX12_carry_25 rfl ?_
    obtain ⟨hn26, h⟩ := itn_e h
    refine w_iald (k := ka1) hx hb hK hP ha1 hn26 dX12_carry_26 ?_
    refine lv_dup2_11 hx hb dX12_carry_27 rfl rfl ?_
    obtain ⟨hn28, h⟩ := itn_e h
    refine w_iald (k := (pA 6)) hx hb hK hP hk.2.2.2.2.2.2.2 hn28 dX12_carry_28 ?_
    refine lv_iconst (v := 1) hx hb dX12_carry_29 rfl ?_
    refine lv_iadd hx hb dX12_carry_30 ?_
    obtain ⟨hn31, h⟩ := itn_e h
    obtain ⟨v31, e31, h⟩ := bnd_e h
    refine w_ia2 (k := (pA 6)) hx hb hK hP hS hz hk.2.2.2.2.2.2.2 hn31 e31 dX12_carry_31 fun H1 locs1 hz hP hS => ?_
    refine lv_aload_n hx hb dX12_carry_32 rfl (lv_at hl 2 rfl) ?_
    refine lv_iconst (v := 0) hx hb dX12_carry_33 rfl ?_
    obtain ⟨hn34, h⟩ := itn_e h
    refine w_iald (k := ka1) hx hb hK hP ha1 hn34 dX12_carry_34 ?_
    refine lv_iconst (v := 2) hx hb dX12_carry_35 rfl ?_
    refine lv_icmp_ne (tgt := 85) hx hb dX12_carry_36 rfl (fun hc36 => ?_) (fun hc36 => ?_)
    · have h := itf_e h hc36
      refine lv_aload_n hx hb dX12_carry_85 rfl (lv_at hl 1 rfl) ?_
      refine w_gr (k := ks) (r := (pA 4)) hx hb hts hown hK hP fX12_28 hk.1 rfl dX12_carry_86 ?_
      refine lv_aload_n hx hb dX12_carry_89 rfl (lv_at hl 2 rfl) ?_
      refine lv_iconst (v := 1) hx hb dX12_carry_90 rfl ?_
      obtain ⟨hn91, h⟩ := itn_e h
      refine w_iald (k := ka1) hx hb hK hP ha1 hn91 dX12_carry_91 ?_
      obtain ⟨hn92, h⟩ := itn_e h
      refine z_aald (k := (pA 4)) hx hb hK hP hk.2.2.2.2.2.1.1 hn92 dX12_carry_92 ?_
      refine lv_astore_n (lv' := [(3, .ref (Γ.2.1 + (pB 4 (v31 ka1 (1 : Int32).toNatClampNeg).toNatClampNeg))), (2, .int q2), (0, .ref (Γ.2.1 + ks)), (1, .ref (Γ.2.1 + ka1))]) hx hb dX12_carry_93 rfl hl (by decide) rfl fun ls hl => ?_
      refine lv_aload_n hx hb dX12_carry_94 rfl (lv_at hl 2 rfl) ?_
      refine w_gr (k := ks) (r := (pA 2)) hx hb hts hown hK hP fX12_22 hk.1 rfl dX12_carry_95 ?_
      refine lv_aload_n hx hb dX12_carry_98 rfl (lv_at hl 0 rfl) ?_
      refine lv_iconst (v := 2) hx hb dX12_carry_99 rfl ?_
      obtain ⟨hn100, h⟩ := itn_e h
      refine w_iald (k := (pB 4 (v31 ka1 (1 : Int32).toNatClampNeg).toNatClampNeg)) hx hb hK hP (hk.2.2.2.2.2.1.2 _ (Nat.lt_of_not_le fun q => hn92 (Or.inr q))) hn100 dX12_carry_100 ?_
      obtain ⟨hn101, h⟩ := itn_e h
      refine z_aald (k := (pA 2)) hx hb hK hP hk.2.2.2.1.1 hn101 dX12_carry_101 ?_
      refine lv_astore (lv' := [(4, .ref (Γ.2.1 + (pB 2 (v31 (pB 4 (v31 ka1 (1 : Int32).toNatClampNeg).toNatClampNeg) (2 : Int32).toNatClampNeg).toNatClampNeg))), (3, .ref (Γ.2.1 + (pB 4 (v31 ka1 (1 : Int32).toNatClampNeg).toNatClampNeg))), (2, .int q2), (0, .ref (Γ.2.1 + ks)), (1, .ref (Γ.2.1 + ka1))]) hx hb dX12_carry_102 hl (by decide) rfl fun ls hl => ?_
      refine lv_aload_n hx hb dX12_carry_104 rfl (lv_at hl 4 rfl) ?_
      refine lv_iconst (v := 0) hx hb dX12_carry_105 rfl ?_
      obtain ⟨hn106, h⟩ := itn_e h
      refine w_iald (k := ka1) hx hb hK hP ha1 hn106 dX12_carry_106 ?_
      refine lv_if_ne (tgt := 171) hx hb dX12_carry_107 rfl (fun hc107 => ?_) (fun hc107 => ?_)
      · have h := itf_e h hc107
        refine lv_aload_n hx hb dX12_carry_171 rfl (lv_at hl 3 rfl) ?_
        refine w_gr (k := ks) (r := (pA 2)) hx hb hts hown hK hP fX12_22 hk.1 rfl dX12_carry_172 ?_
        refine lv_aload_n hx hb dX12_carry_175 rfl (lv_at hl 4 rfl) ?_
        refine lv_iconst (v := 2) hx hb dX12_carry_176 rfl ?_
        obtain ⟨hn177, h⟩ := itn_e h
        refine w_iald (k := ka1) hx hb hK hP ha1 hn177 dX12_carry_177 ?_
        obtain ⟨hn178, h⟩ := itn_e h
        refine z_aald (k := (pA 2)) hx hb hK hP hk.2.2.2.1.1 hn178 dX12_carry_178 ?_
        refine lv_astore (lv' := [(5, .ref (Γ.2.1 + (pB 2 (v31 ka1 (2 : Int32).toNatClampNeg).toNatClampNeg))), (4, .ref (Γ.2.1 + (pB 2 (v31 (pB 4 (v31 ka1 (1 : Int32).toNatClampNeg).toNatClampNeg) (2 : Int32).toNatClampNeg).toNatClampNeg))), (3, .ref (Γ.2.1 + (pB 4 (v31 ka1 (1 : Int32).toNatClampNeg).toNatClampNeg))), (2, .int q2), (0, .ref (Γ.2.1 + ks)), (1, .ref (Γ.2.1 + ka1))]) hx hb dX12_carry_179 hl (by decide) rfl fun ls hl => ?_
        refine lv_iload_n hx hb dX12_carry_181 rfl (lv_at hl 3 rfl) ?_
        refine lv_aload hx hb dX12_carry_182 (lv_at hl 0 rfl) ?_
        refine lv_iconst (v := 0) hx hb dX12_carry_184 rfl ?_
        obtain ⟨hn185, h⟩ := itn_e h
        refine w_iald (k := (pB 2 (v31 ka1 (2 : Int32).toNatClampNeg).toNatClampNeg)) hx hb hK hP (hk.2.2.2.1.2 _ (Nat.lt_of_not_le fun q => hn178 (Or.inr q))) hn185 dX12_carry_185 ?_
        have J197 : ∀ (s197_0 : Int32), (j_Sim_carry_197 pB pN ka1 Na1 q2 v31) s197_0 = some q → ∀ (H1 : Heap) (locs1 : List Loc) (ls1 : Array Slot), lv_has ls1 7 [(0, .ref (Γ.2.1 + ks)), (1, .ref (Γ.2.1 + ka1)), (2, .int q2), (3, .ref (Γ.2.1 + (pB 4 (v31 ka1 (1 : Int32).toNatClampNeg).toNatClampNeg))), (4, .ref (Γ.2.1 + (pB 2 (v31 (pB 4 (v31 ka1 (1 : Int32).toNatClampNeg).toNatClampNeg) (2 : Int32).toNatClampNeg).toNatClampNeg))), (5, .ref (Γ.2.1 + (pB 2 (v31 ka1 (2 : Int32).toNatClampNeg).toNatClampNeg)))] → Wd Γ sh v31 w H1 → va_S (gA Γ sh n) s.heap H1 locs1 → H1.size = Γ.2.1 + n → wpI Γ sh w n 3 (fun x u => x = q_b q.1 ∧ u = q.2) p l e s m args below meth c H1 locs1 (F0 m 197 ls1 [.int s197_0]) := by
          intro s197_0 h H1 locs1 ls hl hP hS hz
          unfold j_Sim_carry_197 at h
          refine lv_istore (lv' := [(6, .int s197_0), (0, .ref (Γ.2.1 + ks)), (1, .ref (Γ.2.1 + ka1)), (2, .int q2), (3, .ref (Γ.2.1 + (pB 4 (v31 ka1 (1 : Int32).toNatClampNeg).toNatClampNeg))), (4, .ref (Γ.2.1 + (pB 2 (v31 (pB 4 (v31 ka1 (1 : Int32).toNatClampNeg).toNatClampNeg) (2 : Int32).toNatClampNeg).toNatClampNeg))), (5, .ref (Γ.2.1 + (pB 2 (v31 ka1 (2 : Int32).toNatClampNeg).toNatClampNeg)))]) hx hb dX12_carry_197 hl (by decide) rfl fun ls hl => ?_
          refine lv_aload hx hb dX12_carry_199 (lv_at hl 6 rfl) ?_
          refine lv_iconst (v := 0) hx hb dX12_carry_201 rfl ?_
          refine lv_dup2_11 hx hb dX12_carry_202 rfl rfl ?_
          obtain ⟨hn203, h⟩ := itn_e h
          refine w_iald (k := (pB 2 (v31 ka1 (2 : Int32).toNatClampNeg).toNatClampNeg)) hx hb hK hP (hk.2.2.2.1.2 _ (Nat.lt_of_not_le fun q => hn178 (Or.inr q))) hn203 dX12_carry_203 ?_
          refine lv_iload hx hb dX12_carry_204 (lv_at hl 0 rfl) ?_
          refine lv_isub hx hb dX12_carry_206 ?_
          obtain ⟨hn207, h⟩ := itn_e h
          obtain ⟨v207, e207, h⟩ := bnd_e h
          refine w_ia2 (k := (pB 2 (v31 ka1 (2 : Int32).toNatClampNeg).toNatClampNeg)) hx hb hK hP hS hz (hk.2.2.2.1.2 _ (Nat.lt_of_not_le fun q => hn178 (Or.inr q))) hn207 e207 dX12_carry_207 fun H1 locs1 hz hP hS => ?_
          refine lv_aload hx hb dX12_carry_208 (lv_at hl 5 rfl) ?_
          refine lv_iconst (v := 0) hx hb dX12_carry_210 rfl ?_
          refine lv_dup2_11 hx hb dX12_carry_211 rfl rfl ?_
          obtain ⟨hn212, h⟩ := itn_e h
          refine w_iald (k := (pB 2 (v31 (pB 4 (v31 ka1 (1 : Int32).toNatClampNeg).toNatClampNeg) (2 : Int32).toNatClampNeg).toNatClampNeg)) hx hb hK hP (hk.2.2.2.1.2 _ (Nat.lt_of_not_le fun q => hn101 (Or.inr q))) hn212 dX12_carry_212 ?_
          refine lv_iload hx hb dX12_carry_213 (lv_at hl 0 rfl) ?_
          refine lv_iadd hx hb dX12_carry_215 ?_
          obtain ⟨hn216, h⟩ := itn_e h
          obtain ⟨v216, e216, h⟩ := bnd_e h
          refine w_ia2 (k := (pB 2 (v31 (pB 4 (v31 ka1 (1 : Int32).toNatClampNeg).toNatClampNeg) (2 : Int32).toNatClampNeg).toNatClampNeg)) hx hb hK hP hS hz (hk.2.2.2.1.2 _ (Nat.lt_of_not_le fun q => hn101 (Or.inr q))) hn216 e216 dX12_carry_216 fun H1 locs1 hz hP hS => ?_
          refine lv_aload_n hx hb dX12_carry_217 rfl (lv_at hl 1 rfl) ?_
          refine w_gr (k := ks) (r := (pA 3)) hx hb hts hown hK hP fX12_25 hk.1 rfl dX12_carry_218 ?_
          refine lv_aload_n hx hb dX12_carry_221 rfl (lv_at hl 2 rfl) ?_
          refine lv_iconst (v := 2) hx hb dX12_carry_222 rfl ?_
          obtain ⟨hn223, h⟩ := itn_e h
          refine w_iald (k := ka1) hx hb hK hP ha1 hn223 dX12_carry_223 ?_
          obtain ⟨hn224, h⟩ := itn_e h
          refine z_aald (k := (pA 3)) hx hb hK hP hk.2.2.2.2.1.1 hn224 dX12_carry_224 ?_
          refine lv_aload_n hx hb dX12_carry_225 rfl (lv_at hl 4 rfl) ?_
          refine lv_iconst (v := 2) hx hb dX12_carry_226 rfl ?_
          obtain ⟨hn227, h⟩ := itn_e h
          refine w_iald (k := (pB 4 (v31 ka1 (1 : Int32).toNatClampNeg).toNatClampNeg)) hx hb hK hP (hk.2.2.2.2.2.1.2 _ (Nat.lt_of_not_le fun q => hn92 (Or.inr q))) hn227 dX12_carry_227 ?_
          refine lv_dup2_11 hx hb dX12_carry_228 rfl rfl ?_
          obtain ⟨hn229, h⟩ := itn_e h
          refine w_iald (k := (pB 3 (v216 ka1 (2 : Int32).toNatClampNeg).toNatClampNeg)) hx hb hK hP (hk.2.2.2.2.1.2 _ (Nat.lt_of_not_le fun q => hn224 (Or.inr q))) hn229 dX12_carry_229 ?_
          refine lv_iload_n hx hb dX12_carry_230 rfl (lv_at hl 3 rfl) ?_
          refine lv_iload hx hb dX12_carry_231 (lv_at hl 0 rfl) ?_
          refine lv_isub hx hb dX12_carry_233 ?_
          refine lv_iadd hx hb dX12_carry_234 ?_
          obtain ⟨hn235, h⟩ := itn_e h
          obtain ⟨v235, e235, h⟩ := bnd_e h
          refine w_ia2 (k := (pB 3 (v216 ka1 (2 : Int32).toNatClampNeg).toNatClampNeg)) hx hb hK hP hS hz (hk.2.2.2.2.1.2 _ (Nat.lt_of_not_le fun q => hn224 (Or.inr q))) hn235 e235 dX12_carry_235 fun H1 locs1 hz hP hS => ?_
          refine lv_aload_n hx hb dX12_carry_236 rfl (lv_at hl 4 rfl) ?_
          refine lv_iconst (v := 2) hx hb dX12_carry_237 rfl ?_
          refine lv_aload_n hx hb dX12_carry_238 rfl (lv_at hl 2 rfl) ?_
          refine lv_iconst (v := 2) hx hb dX12_carry_239 rfl ?_
          obtain ⟨hn240, h⟩ := itn_e h
          refine w_iald (k := ka1) hx hb hK hP ha1 hn240 dX12_carry_240 ?_
          obtain ⟨hn241, h⟩ := itn_e h
          obtain ⟨v241, e241, h⟩ := bnd_e h
          refine w_ia2 (k := (pB 4 (v31 ka1 (1 : Int32).toNatClampNeg).toNatClampNeg)) hx hb hK hP hS hz (hk.2.2.2.2.2.1.2 _ (Nat.lt_of_not_le fun q => hn92 (Or.inr q))) hn241 e241 dX12_carry_241 fun H1 locs1 hz hP hS => ?_
          refine lv_iconst (v := 1) hx hb dX12_carry_242 rfl ?_
          exact w_iret hx hb hret rfl hlk hK hP hS hz hE (q_p2b h) dX12_carry_243
        refine lv_icmp_ge (tgt := 193) hx hb dX12_carry_186 rfl (fun hc186 => ?_) (fun hc186 => ?_)
        · have h := itt_e h hc186
          refine lv_aload hx hb dX12_carry_193 (lv_at hl 0 rfl) ?_
          refine lv_iconst (v := 0) hx hb dX12_carry_195 rfl ?_
          obtain ⟨hn196, h⟩ := itn_e h
          refine w_iald (k := (pB 2 (v31 ka1 (2 : Int32).toNatClampNeg).toNatClampNeg)) hx hb hK hP (hk.2.2.2.1.2 _ (Nat.lt_of_not_le fun q => hn178 (Or.inr q))) hn196 dX12_carry_196 ?_
          exact J197 (v31 (pB 2 (v31 ka1 (2 : Int32).toNatClampNeg).toNatClampNeg) (0 : Int32).toNatClampNeg) h _ _ _ (lv_sub hl [4, 5, 3, 2, 1, 0] rfl) hP hS hz
        · have h := itf_e h hc186
          refine lv_iload_n hx hb dX12_carry_189 rfl (lv_at hl 3 rfl) ?_
          refine lv_goto (tgt := 197) hx hb dX12_carry_190 rfl ?_
          exact J197 q2 h _ _ _ (lv_sub hl [4, 5, 3, 2, 1, 0] rfl) hP hS hz
      · have h := itt_e h hc107
        refine lv_aload hx hb dX12_carry_110 (lv_at hl 0 rfl) ?_
        refine lv_iconst (v := 0) hx hb dX12_carry_112 rfl ?_
        refine lv_dup2_11 hx hb dX12_carry_113 rfl rfl ?_
        obtain ⟨hn114, h⟩ := itn_e h
        refine w_iald (k := (pB 2 (v31 (pB 4 (v31 ka1 (1 : Int32).toNatClampNeg).toNatClampNeg) (2 : Int32).toNatClampNeg).toNatClampNeg)) hx hb hK hP (hk.2.2.2.1.2 _ (Nat.lt_of_not_le fun q => hn101 (Or.inr q))) hn114 dX12_carry_114 ?_
        refine lv_iload_n hx hb dX12_carry_115 rfl (lv_at hl 2 rfl) ?_
        refine lv_isub hx hb dX12_carry_116 ?_
        obtain ⟨hn117, h⟩ := itn_e h
        obtain ⟨v117, e117, h⟩ := bnd_e h
        refine w_ia2 (k := (pB 2 (v31 (pB 4 (v31 ka1 (1 : Int32).toNatClampNeg).toNatClampNeg) (2 : Int32).toNatClampNeg).toNatClampNeg)) hx hb hK hP hS hz (hk.2.2.2.1.2 _ (Nat.lt_of_not_le fun q => hn101 (Or.inr q))) hn117 e117 dX12_carry_117 fun H1 locs1 hz hP hS => ?_
        refine lv_aload_n hx hb dX12_carry_118 rfl (lv_at hl 3 rfl) ?_
        refine w_gr (k := ks) (r := (pA 1)) hx hb hts hown hK hP fX12_18 hk.1 rfl dX12_carry_119 ?_
        refine lv_aload_n hx hb dX12_carry_122 rfl (lv_at hl 4 rfl) ?_
        refine lv_iconst (v := 2) hx hb dX12_carry_123 rfl ?_
        obtain ⟨hn124, h⟩ := itn_e h
        refine w_iald (k := ka1) hx hb hK hP ha1 hn124 dX12_carry_124 ?_
        obtain ⟨hn125, h⟩ := itn_e h
        refine z_aald (k := (pA 1)) hx hb hK hP hk.2.2.1.1 hn125 dX12_carry_125 ?_
        refine lv_iconst (v := 2) hx hb dX12_carry_126 rfl ?_
        refine lv_dup2_11 hx hb dX12_carry_127 rfl rfl ?_
        obtain ⟨hn128, h⟩ := itn_e h
        refine w_iald (k := (pB 1 (v117 ka1 (2 : Int32).toNatClampNeg).toNatClampNeg)) hx hb hK hP (hk.2.2.1.2 _ (Nat.lt_of_not_le fun q => hn125 (Or.inr q))) hn128 dX12_carry_128 ?_
        refine lv_iload_n hx hb dX12_carry_129 rfl (lv_at hl 2 rfl) ?_
        refine lv_iadd hx hb dX12_carry_130 ?_
        obtain ⟨hn131, h⟩ := itn_e h
        obtain ⟨v131, e131, h⟩ := bnd_e h
        refine w_ia2 (k := (pB 1 (v117 ka1 (2 : Int32).toNatClampNeg).toNatClampNeg)) hx hb hK hP hS hz (hk.2.2.1.2 _ (Nat.lt_of_not_le fun q => hn125 (Or.inr q))) hn131 e131 dX12_carry_131 fun H1 locs1 hz hP hS => ?_
        refine lv_aload_n hx hb dX12_carry_132 rfl (lv_at hl 1 rfl) ?_
        refine lv_iconst (v := 3) hx hb dX12_carry_133 rfl ?_
        refine lv_aload_n hx hb dX12_carry_134 rfl (lv_at hl 4 rfl) ?_
        refine lv_iconst (v := 2) hx hb dX12_carry_135 rfl ?_
        obtain ⟨hn136, h⟩ := itn_e h
        refine w_iald (k := ka1) hx hb hK hP ha1 hn136 dX12_carry_136 ?_
        obtain ⟨hn137, h⟩ := itn_e h
        obtain ⟨v137, e137, h⟩ := bnd_e h
        refine w_ia2 (k := (pB 4 (v31 ka1 (1 : Int32).toNatClampNeg).toNatClampNeg)) hx hb hK hP hS hz (hk.2.2.2.2.2.1.2 _ (Nat.lt_of_not_le fun q => hn92 (Or.inr q))) hn137 e137 dX12_carry_137 fun H1 locs1 hz hP hS => ?_
        refine lv_aload_n hx hb dX12_carry_138 rfl (lv_at hl 1 rfl) ?_
        refine lv_iconst (v := 4) hx hb dX12_carry_139 rfl ?_
        refine lv_aload_n hx hb dX12_carry_140 rfl (lv_at hl 1 rfl) ?_
        refine lv_iconst (v := 1) hx hb dX12_carry_141 rfl ?_
        obtain ⟨hn142, h⟩ := itn_e h
        refine w_iald (k := (pB 4 (v31 ka1 (1 : Int32).toNatClampNeg).toNatClampNeg)) hx hb hK hP (hk.2.2.2.2.2.1.2 _ (Nat.lt_of_not_le fun q => hn92 (Or.inr q))) hn142 dX12_carry_142 ?_
        refine lv_aload_n hx hb dX12_carry_143 rfl (lv_at hl 1 rfl) ?_
        refine lv_iconst (v := 1) hx hb dX12_carry_144 rfl ?_
        obtain ⟨hn145, h⟩ := itn_e h
        refine w_iald (k := (pB 4 (v31 ka1 (1 : Int32).toNatClampNeg).toNatClampNeg)) hx hb hK hP (hk.2.2.2.2.2.1.2 _ (Nat.lt_of_not_le fun q => hn92 (Or.inr q))) hn145 dX12_carry_145 ?_
        refine lv_aload_n hx hb dX12_carry_146 rfl (lv_at hl 3 rfl) ?_
        refine w_gr (k := ks) (r := (pA 1)) hx hb hts hown hK hP fX12_18 hk.1 rfl dX12_carry_147 ?_
        refine lv_aload_n hx hb dX12_carry_150 rfl (lv_at hl 4 rfl) ?_
        refine lv_iconst (v := 2) hx hb dX12_carry_151 rfl ?_
        obtain ⟨hn152, h⟩ := itn_e h
        refine w_iald (k := ka1) hx hb hK hP ha1 hn152 dX12_carry_152 ?_
        obtain ⟨hn153, h⟩ := itn_e h
        refine z_aald (k := (pA 1)) hx hb hK hP hk.2.2.1.1 hn153 dX12_carry_153 ?_
        refine lv_iconst (v := 1) hx hb dX12_carry_154 rfl ?_
        obtain ⟨hn155, h⟩ := itn_e h
        refine w_iald (k := (pB 1 (v137 ka1 (2 : Int32).toNatClampNeg).toNatClampNeg)) hx hb hK hP (hk.2.2.1.2 _ (Nat.lt_of_not_le fun q => hn153 (Or.inr q))) hn155 dX12_carry_155 ?_
        refine lv_imul hx hb dX12_carry_156 ?_
        refine lv_bipush (v := 100) hx hb dX12_carry_157 rfl ?_
        refine lv_idiv hx hb dX12_carry_159 (by decide) ?_
        refine lv_isub hx hb dX12_carry_160 ?_
        obtain ⟨hn161, h⟩ := itn_e h
        obtain ⟨v161, e161, h⟩ := bnd_e h
        refine w_ia2 (k := (pB 4 (v31 ka1 (1 : Int32).toNatClampNeg).toNatClampNeg)) hx hb hK hP hS hz (hk.2.2.2.2.2.1.2 _ (Nat.lt_of_not_le fun q => hn92 (Or.inr q))) hn161 e161 dX12_carry_161 fun H1 locs1 hz hP hS => ?_
        refine lv_aload_n hx hb dX12_carry_162 rfl (lv_at hl 1 rfl) ?_
        refine lv_iconst (v := 5) hx hb dX12_carry_163 rfl ?_
        refine lv_aload_n hx hb dX12_carry_164 rfl (lv_at hl 3 rfl) ?_
        refine w_gi (k := ks) hx hb hts hown hK hP fX12_37 hk.1 rfl dX12_carry_165 ?_
        obtain ⟨hn168, h⟩ := itn_e h
        obtain ⟨v168, e168, h⟩ := bnd_e h
        refine w_ia2 (k := (pB 4 (v31 ka1 (1 : Int32).toNatClampNeg).toNatClampNeg)) hx hb hK hP hS hz (hk.2.2.2.2.2.1.2 _ (Nat.lt_of_not_le fun q => hn92 (Or.inr q))) hn168 e168 dX12_carry_168 fun H1 locs1 hz hP hS => ?_
        refine lv_iconst (v := 1) hx hb dX12_carry_169 rfl ?_
        exact w_iret hx hb hret rfl hlk hK hP hS hz hE (q_p2b h) dX12_carry_170
    · have h := itt_e h hc36
      refine lv_aload_n hx hb dX12_carry_39 rfl (lv_at hl 1 rfl) ?_
      refine w_gr (k := ks) (r := (pA 2)) hx hb hts hown hK hP fX12_22 hk.1 rfl dX12_carry_40 ?_
      refine lv_aload_n hx hb dX12_carry_43 rfl (lv_at hl 2 rfl) ?_
      refine lv_iconst (v := 1) hx hb dX12_carry_44 rfl ?_
      obtain ⟨hn45, h⟩ := itn_e h
      refine w_iald (k := ka1) hx hb hK hP ha1 hn45 dX12_carry_45 ?_
      obtain ⟨hn46, h⟩ := itn_e h
      refine z_aald (k := (pA 2)) hx hb hK hP hk.2.2.2.1.1 hn46 dX12_carry_46 ?_
      refine lv_iconst (v := 0) hx hb dX12_carry_47 rfl ?_
      refine lv_dup2_11 hx hb dX12_carry_48 rfl rfl ?_
      obtain ⟨hn49, h⟩ := itn_e h
      refine w_iald (k := (pB 2 (v31 ka1 (1 : Int32).toNatClampNeg).toNatClampNeg)) hx hb hK hP (hk.2.2.2.1.2 _ (Nat.lt_of_not_le fun q => hn46 (Or.inr q))) hn49 dX12_carry_49 ?_
      refine lv_iload_n hx hb dX12_carry_50 rfl (lv_at hl 0 rfl) ?_
      refine lv_isub hx hb dX12_carry_51 ?_
      obtain ⟨hn52, h⟩ := itn_e h
      obtain ⟨v52, e52, h⟩ := bnd_e h
      refine w_ia2 (k := (pB 2 (v31 ka1 (1 : Int32).toNatClampNeg).toNatClampNeg)) hx hb hK hP hS hz (hk.2.2.2.1.2 _ (Nat.lt_of_not_le fun q => hn46 (Or.inr q))) hn52 e52 dX12_carry_52 fun H1 locs1 hz hP hS => ?_
      refine lv_aload_n hx hb dX12_carry_53 rfl (lv_at hl 1 rfl) ?_
      refine w_gr (k := ks) (r := (pA 2)) hx hb hts hown hK hP fX12_22 hk.1 rfl dX12_carry_54 ?_
      refine lv_aload_n hx hb dX12_carry_57 rfl (lv_at hl 2 rfl) ?_
      refine lv_iconst (v := 2) hx hb dX12_carry_58 rfl ?_
      obtain ⟨hn59, h⟩ := itn_e h
      refine w_iald (k := ka1) hx hb hK hP ha1 hn59 dX12_carry_59 ?_
      obtain ⟨hn60, h⟩ := itn_e h
      refine z_aald (k := (pA 2)) hx hb hK hP hk.2.2.2.1.1 hn60 dX12_carry_60 ?_
      refine lv_iconst (v := 0) hx hb dX12_carry_61 rfl ?_
      refine lv_dup2_11 hx hb dX12_carry_62 rfl rfl ?_
      obtain ⟨hn63, h⟩ := itn_e h
      refine w_iald (k := (pB 2 (v52 ka1 (2 : Int32).toNatClampNeg).toNatClampNeg)) hx hb hK hP (hk.2.2.2.1.2 _ (Nat.lt_of_not_le fun q => hn60 (Or.inr q))) hn63 dX12_carry_63 ?_
      refine lv_iload_n hx hb dX12_carry_64 rfl (lv_at hl 0 rfl) ?_
      refine lv_iadd hx hb dX12_carry_65 ?_
      obtain ⟨hn66, h⟩ := itn_e h
      obtain ⟨v66, e66, h⟩ := bnd_e h
      refine w_ia2 (k := (pB 2 (v52 ka1 (2 : Int32).toNatClampNeg).toNatClampNeg)) hx hb hK hP hS hz (hk.2.2.2.1.2 _ (Nat.lt_of_not_le fun q => hn60 (Or.inr q))) hn66 e66 dX12_carry_66 fun H1 locs1 hz hP hS => ?_
      refine lv_aload_n hx hb dX12_carry_67 rfl (lv_at hl 1 rfl) ?_
      refine w_gr (k := ks) (r := (pA 3)) hx hb hts hown hK hP fX12_25 hk.1 rfl dX12_carry_68 ?_
      refine lv_aload_n hx hb dX12_carry_71 rfl (lv_at hl 2 rfl) ?_
      refine lv_iconst (v := 1) hx hb dX12_carry_72 rfl ?_
      obtain ⟨hn73, h⟩ := itn_e h
      refine w_iald (k := ka1) hx hb hK hP ha1 hn73 dX12_carry_73 ?_
      obtain ⟨hn74, h⟩ := itn_e h
      refine z_aald (k := (pA 3)) hx hb hK hP hk.2.2.2.2.1.1 hn74 dX12_carry_74 ?_
      refine lv_aload_n hx hb dX12_carry_75 rfl (lv_at hl 2 rfl) ?_
      refine lv_iconst (v := 2) hx hb dX12_carry_76 rfl ?_
      obtain ⟨hn77, h⟩ := itn_e h
      refine w_iald (k := ka1) hx hb hK hP ha1 hn77 dX12_carry_77 ?_
      refine lv_dup2_11 hx hb dX12_carry_78 rfl rfl ?_
      obtain ⟨hn79, h⟩ := itn_e h
      refine w_iald (k := (pB 3 (v66 ka1 (1 : Int32).toNatClampNeg).toNatClampNeg)) hx hb hK hP (hk.2.2.2.2.1.2 _ (Nat.lt_of_not_le fun q => hn74 (Or.inr q))) hn79 dX12_carry_79 ?_
      refine lv_iload_n hx hb dX12_carry_80 rfl (lv_at hl 0 rfl) ?_
      refine lv_isub hx hb dX12_carry_81 ?_
      obtain ⟨hn82, h⟩ := itn_e h
      obtain ⟨v82, e82, h⟩ := bnd_e h
      refine w_ia2 (k := (pB 3 (v66 ka1 (1 : Int32).toNatClampNeg).toNatClampNeg)) hx hb hK hP hS hz (hk.2.2.2.2.1.2 _ (Nat.lt_of_not_le fun q => hn74 (Or.inr q))) hn82 e82 dX12_carry_82 fun H1 locs1 hz hP hS => ?_
      refine lv_iconst (v := 1) hx hb dX12_carry_83 rfl ?_
      exact w_iret hx hb hret rfl hlk hK hP hS hz hE (q_p2b h) dX12_carry_84
  · have h := itf_e h hc7
    refine lv_iconst (v := 0) hx hb dX12_carry_10 rfl ?_
    exact w_iret hx hb hret rfl hlk hK hP hS hz hE (q_p2b h) dX12_carry_11
def b_Sim_lose_10 (ks : Nat) (pA : Nat → Nat) (pB : Nat → Nat → Nat) (pN : Nat → Nat) (K10 : (Int32 × Va) → Option Va) (t10 : Int32 × Va) : Option Va := if (nI (pN 4)) ≤ t10.1 then (some t10.2) else (if t10.1 < 0 ∨ (pN 4) ≤ t10.1.toNatClampNeg then none else if (1 : Int32) < 0 ∨ 6 ≤ (1 : Int32).toNatClampNeg then none else if (1 : Int32) < 0 ∨ 6 ≤ (1 : Int32).toNatClampNeg then none else if (0 : Int32) < 0 ∨ 6 ≤ (0 : Int32).toNatClampNeg then none else if (t10.2 (pB 4 t10.1.toNatClampNeg) (0 : Int32).toNatClampNeg) < 0 ∨ (pN 0) ≤ (t10.2 (pB 4 t10.1.toNatClampNeg) (0 : Int32).toNatClampNeg).toNatClampNeg then none else if (1 : Int32) < 0 ∨ 6 ≤ (1 : Int32).toNatClampNeg then none else bnd (pu t10.2 (pB 4 t10.1.toNatClampNeg) (1 : Int32).toNatClampNeg ((t10.2 (pB 4 t10.1.toNatClampNeg) (1 : Int32).toNatClampNeg) - ((((t10.2 (pB 4 t10.1.toNatClampNeg) (1 : Int32).toNatClampNeg) * (t10.2 (pA 0) (t10.2 (pB 4 t10.1.toNatClampNeg) (0 : Int32).toNatClampNeg).toNatClampNeg)) * (t10.2 ks 1)) / 1000))) fun v49 => K10 ((t10.1 + 1), v49))
def f_Sim_lose (z : Nat) (v : Va) (ks : Nat) (pA : Nat → Nat) (pB : Nat → Nat → Nat) (pN : Nat → Nat) : Option Va := rp (b_Sim_lose_10 ks pA pB pN) z (0, v)
theorem c_Sim_lose {ks : Nat} {pA : Nat → Nat} {pB : Nat → Nat → Nat} {pN : Nat → Nat} (hk : isSim sh ks pA pB pN) {q : Va} (h : f_Sim_lose z v ks pA pB pN = some q) : MetV l yX12_lose cX12_lose 5 none 0 Γ sh v w n [.ref (Γ.2.1 + ks)] (fun u => u = q) := by
  unfold f_Sim_lose at h
  refine w_start pn_X12 (Nat.le_of_ble_eq_true rfl) fun p e s m args below meth c hx hb hml hret hlk hnm hts hown hK hP hz hE hS ls hl => ?_
  refine lv_aload_n hx hb dX12_lose_0 rfl (lv_at hl 0 rfl) ?_
  refine w_gr (k := ks) (r := (pA 4)) hx hb hts hown hK hP fX12_28 hk.1 rfl dX12_lose_1 ?_
  refine lv_astore_n (lv' := [(1, .ref (Γ.2.1 + (pA 4))), (0, .ref (Γ.2.1 + ks))]) hx hb dX12_lose_4 rfl hl (by decide) rfl fun ls hl => ?_
  refine lv_aload_n hx hb dX12_lose_5 rfl (lv_at hl 0 rfl) ?_
  refine w_alenR (k := (pA 4)) hx hb hK hP hk.2.2.2.2.2.1.1 dX12_lose_6 ?_
  refine lv_istore_n (lv' := [(2, .int (nI (pN 4))), (1, .ref (Γ.2.1 + (pA 4))), (0, .ref (Γ.2.1 + ks))]) hx hb dX12_lose_7 rfl hl (by decide) rfl fun ls hl => ?_
  refine lv_iconst (v := 0) hx hb dX12_lose_8 rfl ?_
  refine lv_istore_n (lv' := [(3, .int 0), (2, .int (nI (pN 4))), (1, .ref (Γ.2.1 + (pA 4))), (0, .ref (Γ.2.1 + ks))]) hx hb dX12_lose_9 rfl hl (by decide) rfl fun ls hl => ?_
  have L10 : ∀ (fu : Nat) (t10 : Int32 × Va), rp (b_Sim_lose_10 ks pA pB pN) fu t10 = some q → ∀ (H1 : Heap) (locs1 : List Loc) (ls1 : Array Slot), lv_has ls1 5 [(0, .ref (Γ.2.1 + ks)), (1, .ref (Γ.2.1 + (pA 4))), (2, .int (nI (pN 4))), (3, .int t10.1)] → Wd Γ sh t10.2 w H1 → va_S (gA Γ sh n) s.heap H1 locs1 → H1.size = Γ.2.1 + n → wpV Γ sh w n 0 (fun u => u = q) p l e s m args below meth c H1 locs1 (F0 m 10 ls1 []) := by
    refine q_loop (fun K10 ih10 t10 h H1 locs1 ls hl hP hS hz => ?_)
    unfold b_Sim_lose_10 at h
    refine lv_iload_n hx hb dX12_lose_10 rfl (lv_at hl 3 rfl) ?_
    refine lv_iload_n hx hb dX12_lose_11 rfl (lv_at hl 2 rfl) ?_
    refine lv_icmp_ge (tgt := 56) hx hb dX12_lose_12 rfl (fun hc12 => ?_) (fun hc12 => ?_)
    · have h := itt_e h hc12
      exact w_vret hx hb hret hlk hK hP hS hz hE (Option.some.inj h) dX12_lose_56
    · have h := itf_e h hc12
      refine lv_aload_n hx hb dX12_lose_15 rfl (lv_at hl 1 rfl) ?_
      refine lv_iload_n hx hb dX12_lose_16 rfl (lv_at hl 3 rfl) ?_
      obtain ⟨hn17, h⟩ := itn_e h
      refine z_aald (k := (pA 4)) hx hb hK hP hk.2.2.2.2.2.1.1 hn17 dX12_lose_17 ?_
      refine lv_astore (lv' := [(4, .ref (Γ.2.1 + (pB 4 t10.1.toNatClampNeg))), (0, .ref (Γ.2.1 + ks)), (1, .ref (Γ.2.1 + (pA 4))), (2, .int (nI (pN 4))), (3, .int t10.1)]) hx hb dX12_lose_18 hl (by decide) rfl fun ls hl => ?_
      refine lv_aload hx hb dX12_lose_20 (lv_at hl 0 rfl) ?_
      refine lv_iconst (v := 1) hx hb dX12_lose_22 rfl ?_
      refine lv_dup2_11 hx hb dX12_lose_23 rfl rfl ?_
      obtain ⟨hn24, h⟩ := itn_e h
      refine w_iald (k := (pB 4 t10.1.toNatClampNeg)) hx hb hK hP (hk.2.2.2.2.2.1.2 _ (Nat.lt_of_not_le fun q => hn17 (Or.inr q))) hn24 dX12_lose_24 ?_
      refine lv_aload hx hb dX12_lose_25 (lv_at hl 0 rfl) ?_
      refine lv_iconst (v := 1) hx hb dX12_lose_27 rfl ?_
      obtain ⟨hn28, h⟩ := itn_e h
      refine w_iald (k := (pB 4 t10.1.toNatClampNeg)) hx hb hK hP (hk.2.2.2.2.2.1.2 _ (Nat.lt_of_not_le fun q => hn17 (Or.inr q))) hn28 dX12_lose_28 ?_
      refine lv_aload_n hx hb dX12_lose_29 rfl (lv_at hl 1 rfl) ?_
      refine w_gr (k := ks) (r := (pA 0)) hx hb hts hown hK hP fX12_13 hk.1 rfl dX12_lose_30 ?_
      refine lv_aload hx hb dX12_lose_33 (lv_at hl 0 rfl) ?_
      refine lv_iconst (v := 0) hx hb dX12_lose_35 rfl ?_
      obtain ⟨hn36, h⟩ := itn_e h
      refine w_iald (k := (pB 4 t10.1.toNatClampNeg)) hx hb hK hP (hk.2.2.2.2.2.1.2 _ (Nat.lt_of_not_le fun q => hn17 (Or.inr q))) hn36 dX12_lose_36 ?_
      obtain ⟨hn37, h⟩ := itn_e h
      refine w_iald (k := (pA 0)) hx hb hK hP hk.2.1 hn37 dX12_lose_37 ?_
      refine lv_imul hx hb dX12_lose_38 ?_
      refine lv_aload_n hx hb dX12_lose_39 rfl (lv_at hl 1 rfl) ?_
      refine w_gi (k := ks) hx hb hts hown hK hP fX12_7 hk.1 rfl dX12_lose_40 ?_
      refine lv_imul hx hb dX12_lose_43 ?_
      refine lv_sipush (v := 1000) hx hb dX12_lose_44 rfl ?_
      refine lv_idiv hx hb dX12_lose_47 (by decide) ?_
      refine lv_isub hx hb dX12_lose_48 ?_
      obtain ⟨hn49, h⟩ := itn_e h
      obtain ⟨v49, e49, h⟩ := bnd_e h
      refine w_ia2 (k := (pB 4 t10.1.toNatClampNeg)) hx hb hK hP hS hz (hk.2.2.2.2.2.1.2 _ (Nat.lt_of_not_le fun q => hn17 (Or.inr q))) hn49 e49 dX12_lose_49 fun H1 locs1 hz hP hS => ?_
      refine lv_iinc (k := 4) (v := (t10.1 + 1)) (lv' := [(3, .int (t10.1 + 1)), (4, .ref (Γ.2.1 + (pB 4 t10.1.toNatClampNeg))), (0, .ref (Γ.2.1 + ks)), (1, .ref (Γ.2.1 + (pA 4))), (2, .int (nI (pN 4)))]) hx hb dX12_lose_50 hl rfl rfl (by decide) rfl fun ls hl => ?_
      refine lv_goto (tgt := 10) hx hb dX12_lose_53 rfl ?_
      exact ih10 ((t10.1 + 1), v49) h _ _ _ (lv_sub hl [2, 3, 4, 0] rfl) hP hS hz
  exact L10 z (0, v) h _ _ _ (lv_sub hl [3, 2, 1, 0] rfl) hP hS hz
def j_Sim_pass_139 (K73 : (Int32 × Va) → Option (Int32 × Va)) (t73 : Int32 × Va) (v139 : Va) : Option (Int32 × Va) := K73 ((t73.1 + 1), v139)
def b_Sim_pass_73 (ks : Nat) (pB : Nat → Nat → Nat) (pN : Nat → Nat) (K58 : (Int32 × Va) → Option (Int32 × Va)) (t58 : Int32 × Va) (K73 : (Int32 × Va) → Option (Int32 × Va)) (t73 : Int32 × Va) : Option (Int32 × Va) := if (nI (pN 2)) ≤ t73.1 then (K58 ((t58.1 + 1), t73.2)) else (if t73.1 < 0 ∨ (pN 2) ≤ t73.1.toNatClampNeg then none else if (t73.2 (pB 3 t58.1.toNatClampNeg) t73.1.toNatClampNeg) = 0 then (j_Sim_pass_139 K73 t73 t73.2) else (if 6 ≤ ((t73.2 ks 0) - (t73.2 ks 0) / 7 * 7) then (if t73.1 < 0 ∨ (pN 2) ≤ t73.1.toNatClampNeg then none else if t73.1 < 0 ∨ (pN 2) ≤ t73.1.toNatClampNeg then none else if t73.1 < 0 ∨ (pN 2) ≤ t73.1.toNatClampNeg then none else bnd (pu t73.2 (pB 3 t58.1.toNatClampNeg) t73.1.toNatClampNeg ((t73.2 (pB 3 t58.1.toNatClampNeg) t73.1.toNatClampNeg) + (((t73.2 (pB 3 t58.1.toNatClampNeg) t73.1.toNatClampNeg) / 20) + 1))) fun v121 => if t73.1 < 0 ∨ (pN 2) ≤ t73.1.toNatClampNeg then none else if (v121 (pB 3 t58.1.toNatClampNeg) t73.1.toNatClampNeg) ≤ 99999 then (j_Sim_pass_139 K73 t73 v121) else (if t73.1 < 0 ∨ (pN 2) ≤ t73.1.toNatClampNeg then none else bnd (pu v121 (pB 3 t58.1.toNatClampNeg) t73.1.toNatClampNeg 99999) fun v138 => j_Sim_pass_139 K73 t73 v138)) else (j_Sim_pass_139 K73 t73 t73.2)))
def b_Sim_pass_58 (z : Nat) (ks : Nat) (pB : Nat → Nat → Nat) (pN : Nat → Nat) (t17 : Int32 × Int32 × Va) (K58 : (Int32 × Va) → Option (Int32 × Va)) (t58 : Int32 × Va) : Option (Int32 × Va) := if (nI (pN 3)) ≤ t58.1 then (bnd (pu t58.2 ks 0 ((t58.2 ks 0) + 1)) fun v158 => some (t17.1, v158)) else (if t58.1 < 0 ∨ (pN 3) ≤ t58.1.toNatClampNeg then none else rp (b_Sim_pass_73 ks pB pN K58 t58) z (0, t58.2))
def j_Sim_pass_41 (K17 : (Int32 × Int32 × Va) → Option (Int32 × Va)) (t17 : Int32 × Int32 × Va) (q32 : Bool × Va) (x41_1 : Int32) : Option (Int32 × Va) := K17 (x41_1, (t17.2.1 + 1), q32.2)
def b_Sim_pass_17 (z : Nat) (ks : Nat) (pA : Nat → Nat) (pB : Nat → Nat → Nat) (pN : Nat → Nat) (K17 : (Int32 × Int32 × Va) → Option (Int32 × Va)) (t17 : Int32 × Int32 × Va) : Option (Int32 × Va) := if (nI (pN 5)) ≤ t17.2.1 then (rp (b_Sim_pass_58 z ks pB pN t17) z (0, t17.2.2)) else (if t17.2.1 < 0 ∨ (pN 5) ≤ t17.2.1.toNatClampNeg then none else (f_Sim_carry z t17.2.2 ks pA pB pN (pB 5 t17.2.1.toNatClampNeg) 12).bind fun q32 => if (q_b q32.1) = 0 then (j_Sim_pass_41 K17 t17 q32 t17.1) else (j_Sim_pass_41 K17 t17 q32 (t17.1 + 1)))
def f_Sim_pass (z : Nat) (v : Va) (ks : Nat) (pA : Nat → Nat) (pB : Nat → Nat → Nat) (pN : Nat → Nat) : Option (Int32 × Va) := (f_Sim_lose z v ks pA pB pN).bind fun q1 => rp (b_Sim_pass_17 z ks pA pB pN) z (0, 0, q1)
theorem c_Sim_pass {ks : Nat} {pA : Nat → Nat} {pB : Nat → Nat → Nat} {pN : Nat → Nat} (hk : isSim sh ks pA pB pN) {q : Int32 × Va} (h : f_Sim_pass z v ks pA pB pN = some q) : MetI l yX12_pass cX12_pass 7 (some .int) 4 Γ sh v w n [.ref (Γ.2.1 + ks)] (fun x u => x = q.1 ∧ u = q.2) := by
  unfold f_Sim_pass at h
  refine w_start pn_X12 (Nat.le_of_ble_eq_true rfl) fun p e s m args below meth c hx hb hml hret hlk hnm hts hown hK hP hz hE hS ls hl => ?_
  refine lv_aload_n hx hb dX12_pass_0 rfl (lv_at hl 0 rfl) ?_
  obtain ⟨q1, e1, h⟩ := obn_e h
  refine z_Vv (k := ks) (v1 := q1) hx hb hml hts hown hK hP hS hz hE (c_Sim_lose hk e1) kX12_lose mX12_68 hk.1 rfl rfl rfl hl.1 (Nat.le_of_ble_eq_true rfl) ⟨Nat.le_of_ble_eq_true rfl, Nat.le_of_ble_eq_true rfl⟩ ⟨Nat.zero_le _, Nat.zero_le _⟩ dX12_pass_1 fun H1 locs1 hz hP hS => ?_
  refine lv_iconst (v := 0) hx hb dX12_pass_4 rfl ?_
  refine lv_istore_n (lv' := [(1, .int 0), (0, .ref (Γ.2.1 + ks))]) hx hb dX12_pass_5 rfl hl (by decide) rfl fun ls hl => ?_
  refine lv_aload_n hx hb dX12_pass_6 rfl (lv_at hl 1 rfl) ?_
  refine w_gr (k := ks) (r := (pA 5)) hx hb hts hown hK hP fX12_31 hk.1 rfl dX12_pass_7 ?_
  refine lv_astore_n (lv' := [(2, .ref (Γ.2.1 + (pA 5))), (1, .int 0), (0, .ref (Γ.2.1 + ks))]) hx hb dX12_pass_10 rfl hl (by decide) rfl fun ls hl => ?_
  refine lv_aload_n hx hb dX12_pass_11 rfl (lv_at hl 0 rfl) ?_
  refine w_alenR (k := (pA 5)) hx hb hK hP hk.2.2.2.2.2.2.1.1 dX12_pass_12 ?_
  refine lv_istore_n (lv' := [(3, .int (nI (pN 5))), (2, .ref (Γ.2.1 + (pA 5))), (1, .int 0), (0, .ref (Γ.2.1 + ks))]) hx hb dX12_pass_13 rfl hl (by decide) rfl fun ls hl => ?_
  refine lv_iconst (v := 0) hx hb dX12_pass_14 rfl ?_
  refine lv_istore (lv' := [(4, .int 0), (3, .int (nI (pN 5))), (2, .ref (Γ.2.1 + (pA 5))), (1, .int 0), (0, .ref (Γ.2.1 + ks))]) hx hb dX12_pass_15 hl (by decide) rfl fun ls hl => ?_
  have L17 : ∀ (fu : Nat) (t17 : Int32 × Int32 × Va), rp (b_Sim_pass_17 z ks pA pB pN) fu t17 = some q → ∀ (H1 : Heap) (locs1 : List Loc) (ls1 : Array Slot), lv_has ls1 7 [(0, .ref (Γ.2.1 + ks)), (1, .int t17.1), (2, .ref (Γ.2.1 + (pA 5))), (3, .int (nI (pN 5))), (4, .int t17.2.1)] → Wd Γ sh t17.2.2 w H1 → va_S (gA Γ sh n) s.heap H1 locs1 → H1.size = Γ.2.1 + n → wpI Γ sh w n 4 (fun x u => x = q.1 ∧ u = q.2) p l e s m args below meth c H1 locs1 (F0 m 17 ls1 []) := by
    refine q_loop (fun K17 ih17 t17 h H1 locs1 ls hl hP hS hz => ?_)
    unfold b_Sim_pass_17 at h
    refine lv_iload hx hb dX12_pass_17 (lv_at hl 4 rfl) ?_
    refine lv_iload_n hx hb dX12_pass_19 rfl (lv_at hl 3 rfl) ?_
    refine lv_icmp_ge (tgt := 47) hx hb dX12_pass_20 rfl (fun hc20 => ?_) (fun hc20 => ?_)
    · have h := itt_e h hc20
      refine lv_aload_n hx hb dX12_pass_47 rfl (lv_at hl 0 rfl) ?_
      refine w_gr (k := ks) (r := (pA 3)) hx hb hts hown hK hP fX12_25 hk.1 rfl dX12_pass_48 ?_
      refine lv_astore_n (lv' := [(2, .ref (Γ.2.1 + (pA 3))), (0, .ref (Γ.2.1 + ks)), (1, .int t17.1), (3, .int (nI (pN 5))), (4, .int t17.2.1)]) hx hb dX12_pass_51 rfl hl (by decide) rfl fun ls hl => ?_
      refine lv_aload_n hx hb dX12_pass_52 rfl (lv_at hl 0 rfl) ?_
      refine w_alenR (k := (pA 3)) hx hb hK hP hk.2.2.2.2.1.1 dX12_pass_53 ?_
      refine lv_istore_n (lv' := [(3, .int (nI (pN 3))), (2, .ref (Γ.2.1 + (pA 3))), (0, .ref (Γ.2.1 + ks)), (1, .int t17.1), (4, .int t17.2.1)]) hx hb dX12_pass_54 rfl hl (by decide) rfl fun ls hl => ?_
      refine lv_iconst (v := 0) hx hb dX12_pass_55 rfl ?_
      refine lv_istore (lv' := [(4, .int 0), (3, .int (nI (pN 3))), (2, .ref (Γ.2.1 + (pA 3))), (0, .ref (Γ.2.1 + ks)), (1, .int t17.1)]) hx hb dX12_pass_56 hl (by decide) rfl fun ls hl => ?_
      have L58 : ∀ (fu : Nat) (t58 : Int32 × Va), rp (b_Sim_pass_58 z ks pB pN t17) fu t58 = some q → ∀ (H1 : Heap) (locs1 : List Loc) (ls1 : Array Slot), lv_has ls1 7 [(0, .ref (Γ.2.1 + ks)), (1, .int t17.1), (2, .ref (Γ.2.1 + (pA 3))), (3, .int (nI (pN 3))), (4, .int t58.1)] → Wd Γ sh t58.2 w H1 → va_S (gA Γ sh n) s.heap H1 locs1 → H1.size = Γ.2.1 + n → wpI Γ sh w n 4 (fun x u => x = q.1 ∧ u = q.2) p l e s m args below meth c H1 locs1 (F0 m 58 ls1 []) := by
        refine q_loop (fun K58 ih58 t58 h H1 locs1 ls hl hP hS hz => ?_)
        unfold b_Sim_pass_58 at h
        refine lv_iload hx hb dX12_pass_58 (lv_at hl 4 rfl) ?_
        refine lv_iload_n hx hb dX12_pass_60 rfl (lv_at hl 3 rfl) ?_
        refine lv_icmp_ge (tgt := 151) hx hb dX12_pass_61 rfl (fun hc61 => ?_) (fun hc61 => ?_)
        · have h := itt_e h hc61
          refine lv_aload_n hx hb dX12_pass_151 rfl (lv_at hl 0 rfl) ?_
          refine lv_dup hx hb dX12_pass_152 rfl ?_
          refine w_gi (k := ks) hx hb hts hown hK hP fX12_37 hk.1 rfl dX12_pass_153 ?_
          refine lv_iconst (v := 1) hx hb dX12_pass_156 rfl ?_
          refine lv_iadd hx hb dX12_pass_157 ?_
          obtain ⟨v158, e158, h⟩ := bnd_e h
          refine w_pi2 (k := ks) hx hb hts hown hK hP hS hz fX12_37 hk.1 rfl e158 dX12_pass_158 fun H1 locs1 hz hP hS => ?_
          refine lv_iload_n hx hb dX12_pass_161 rfl (lv_at hl 1 rfl) ?_
          exact w_iret hx hb hret rfl hlk hK hP hS hz hE (q_p2 h) dX12_pass_162
        · have h := itf_e h hc61
          refine lv_aload_n hx hb dX12_pass_64 rfl (lv_at hl 2 rfl) ?_
          refine lv_iload hx hb dX12_pass_65 (lv_at hl 4 rfl) ?_
          obtain ⟨hn67, h⟩ := itn_e h
          refine z_aald (k := (pA 3)) hx hb hK hP hk.2.2.2.2.1.1 hn67 dX12_pass_67 ?_
          refine lv_astore (lv' := [(5, .ref (Γ.2.1 + (pB 3 t58.1.toNatClampNeg))), (0, .ref (Γ.2.1 + ks)), (1, .int t17.1), (2, .ref (Γ.2.1 + (pA 3))), (3, .int (nI (pN 3))), (4, .int t58.1)]) hx hb dX12_pass_68 hl (by decide) rfl fun ls hl => ?_
          refine lv_iconst (v := 0) hx hb dX12_pass_70 rfl ?_
          refine lv_istore (lv' := [(6, .int 0), (5, .ref (Γ.2.1 + (pB 3 t58.1.toNatClampNeg))), (0, .ref (Γ.2.1 + ks)), (1, .int t17.1), (2, .ref (Γ.2.1 + (pA 3))), (3, .int (nI (pN 3))), (4, .int t58.1)]) hx hb dX12_pass_71 hl (by decide) rfl fun ls hl => ?_
          have L73 : ∀ (fu : Nat) (t73 : Int32 × Va), rp (b_Sim_pass_73 ks pB pN K58 t58) fu t73 = some q → ∀ (H1 : Heap) (locs1 : List Loc) (ls1 : Array Slot), lv_has ls1 7 [(0, .ref (Γ.2.1 + ks)), (1, .int t17.1), (2, .ref (Γ.2.1 + (pA 3))), (3, .int (nI (pN 3))), (4, .int t58.1), (5, .ref (Γ.2.1 + (pB 3 t58.1.toNatClampNeg))), (6, .int t73.1)] → Wd Γ sh t73.2 w H1 → va_S (gA Γ sh n) s.heap H1 locs1 → H1.size = Γ.2.1 + n → wpI Γ sh w n 4 (fun x u => x = q.1 ∧ u = q.2) p l e s m args below meth c H1 locs1 (F0 m 73 ls1 []) := by
            refine q_loop (fun K73 ih73 t73 h H1 locs1 ls hl hP hS hz => ?_)
            unfold b_Sim_pass_73 at h
            refine lv_iload hx hb dX12_pass_73 (lv_at hl 6 rfl) ?_
            refine lv_aload hx hb dX12_pass_75 (lv_at hl 5 rfl) ?_
            refine w_alen (k := (pB 3 t58.1.toNatClampNeg)) hx hb hK hP (hk.2.2.2.2.1.2 _ (Nat.lt_of_not_le fun q => hn67 (Or.inr q))) dX12_pass_77 ?_
            refine lv_icmp_ge (tgt := 145) hx hb dX12_pass_78 rfl (fun hc78 => ?_) (fun hc78 => ?_)
            · have h := itt_e h hc78
              refine lv_iinc (k := 4) (v := (t58.1 + 1)) (lv' := [(4, .int (t58.1 + 1)), (0, .ref (Γ.2.1 + ks)), (1, .int t17.1), (2, .ref (Γ.2.1 + (pA 3))), (3, .int (nI (pN 3))), (5, .ref (Γ.2.1 + (pB 3 t58.1.toNatClampNeg))), (6, .int t73.1)]) hx hb dX12_pass_145 hl rfl rfl (by decide) rfl fun ls hl => ?_
              refine lv_goto (tgt := 58) hx hb dX12_pass_148 rfl ?_
              exact ih58 ((t58.1 + 1), t73.2) h _ _ _ (lv_sub hl [1, 2, 3, 4, 0] rfl) hP hS hz
            · have h := itf_e h hc78
              refine lv_aload hx hb dX12_pass_81 (lv_at hl 5 rfl) ?_
              refine lv_iload hx hb dX12_pass_83 (lv_at hl 6 rfl) ?_
              obtain ⟨hn85, h⟩ := itn_e h
              refine w_iald (k := (pB 3 t58.1.toNatClampNeg)) hx hb hK hP (hk.2.2.2.2.1.2 _ (Nat.lt_of_not_le fun q => hn67 (Or.inr q))) hn85 dX12_pass_85 ?_
              have J139 : ∀ (v139 : Va), (j_Sim_pass_139 K73 t73) v139 = some q → ∀ (H1 : Heap) (locs1 : List Loc) (ls1 : Array Slot), lv_has ls1 7 [(0, .ref (Γ.2.1 + ks)), (1, .int t17.1), (2, .ref (Γ.2.1 + (pA 3))), (3, .int (nI (pN 3))), (4, .int t58.1), (5, .ref (Γ.2.1 + (pB 3 t58.1.toNatClampNeg))), (6, .int t73.1)] → Wd Γ sh v139 w H1 → va_S (gA Γ sh n) s.heap H1 locs1 → H1.size = Γ.2.1 + n → wpI Γ sh w n 4 (fun x u => x = q.1 ∧ u = q.2) p l e s m args below meth c H1 locs1 (F0 m 139 ls1 []) := by
                intro v139 h H1 locs1 ls hl hP hS hz
                unfold j_Sim_pass_139 at h
                refine lv_iinc (k := 6) (v := (t73.1 + 1)) (lv' := [(6, .int (t73.1 + 1)), (0, .ref (Γ.2.1 + ks)), (1, .int t17.1), (2, .ref (Γ.2.1 + (pA 3))), (3, .int (nI (pN 3))), (4, .int t58.1), (5, .ref (Γ.2.1 + (pB 3 t58.1.toNatClampNeg)))]) hx hb dX12_pass_139 hl rfl rfl (by decide) rfl fun ls hl => ?_
                refine lv_goto (tgt := 73) hx hb dX12_pass_142 rfl ?_
                exact ih73 ((t73.1 + 1), v139) h _ _ _ (lv_sub hl [1, 2, 3, 4, 5, 6, 0] rfl) hP hS hz
              refine lv_if_eq (tgt := 139) hx hb dX12_pass_86 rfl (fun hc86 => ?_) (fun hc86 => ?_)
              · have h := itt_e h hc86
                exact J139 t73.2 h _ _ _ (lv_sub hl [0, 1, 2, 3, 4, 5, 6] rfl) hP hS hz
              · have h := itf_e h hc86
                refine lv_aload_n hx hb dX12_pass_89 rfl (lv_at hl 0 rfl) ?_
                refine w_gi (k := ks) hx hb hts hown hK hP fX12_37 hk.1 rfl dX12_pass_90 ?_
                refine lv_bipush (v := 7) hx hb dX12_pass_93 rfl ?_
                refine lv_irem hx hb dX12_pass_95 (by decide) ?_
                refine lv_bipush (v := 6) hx hb dX12_pass_96 rfl ?_
                refine lv_icmp_ge (tgt := 104) hx hb dX12_pass_98 rfl (fun hc98 => ?_) (fun hc98 => ?_)
                · have h := itt_e h hc98
                  refine lv_aload hx hb dX12_pass_104 (lv_at hl 5 rfl) ?_
                  refine lv_iload hx hb dX12_pass_106 (lv_at hl 6 rfl) ?_
                  refine lv_dup2_11 hx hb dX12_pass_108 rfl rfl ?_
                  obtain ⟨hn109, h⟩ := itn_e h
                  refine w_iald (k := (pB 3 t58.1.toNatClampNeg)) hx hb hK hP (hk.2.2.2.2.1.2 _ (Nat.lt_of_not_le fun q => hn67 (Or.inr q))) hn109 dX12_pass_109 ?_
                  refine lv_aload hx hb dX12_pass_110 (lv_at hl 5 rfl) ?_
                  refine lv_iload hx hb dX12_pass_112 (lv_at hl 6 rfl) ?_
                  obtain ⟨hn114, h⟩ := itn_e h
                  refine w_iald (k := (pB 3 t58.1.toNatClampNeg)) hx hb hK hP (hk.2.2.2.2.1.2 _ (Nat.lt_of_not_le fun q => hn67 (Or.inr q))) hn114 dX12_pass_114 ?_
                  refine lv_bipush (v := 20) hx hb dX12_pass_115 rfl ?_
                  refine lv_idiv hx hb dX12_pass_117 (by decide) ?_
                  refine lv_iconst (v := 1) hx hb dX12_pass_118 rfl ?_
                  refine lv_iadd hx hb dX12_pass_119 ?_
                  refine lv_iadd hx hb dX12_pass_120 ?_
                  obtain ⟨hn121, h⟩ := itn_e h
                  obtain ⟨v121, e121, h⟩ := bnd_e h
                  refine w_ia2 (k := (pB 3 t58.1.toNatClampNeg)) hx hb hK hP hS hz (hk.2.2.2.2.1.2 _ (Nat.lt_of_not_le fun q => hn67 (Or.inr q))) hn121 e121 dX12_pass_121 fun H1 locs1 hz hP hS => ?_
                  refine lv_aload hx hb dX12_pass_122 (lv_at hl 5 rfl) ?_
                  refine lv_iload hx hb dX12_pass_124 (lv_at hl 6 rfl) ?_
                  obtain ⟨hn126, h⟩ := itn_e h
                  refine w_iald (k := (pB 3 t58.1.toNatClampNeg)) hx hb hK hP (hk.2.2.2.2.1.2 _ (Nat.lt_of_not_le fun q => hn67 (Or.inr q))) hn126 dX12_pass_126 ?_
                  refine lv_ldc hx hb hown (hts _ qX12_74) dX12_pass_127 ?_
                  refine lv_icmp_le (tgt := 139) hx hb dX12_pass_129 rfl (fun hc129 => ?_) (fun hc129 => ?_)
                  · have h := itt_e h hc129
                    exact J139 v121 h _ _ _ (lv_sub hl [0, 1, 2, 3, 4, 5, 6] rfl) hP hS hz
                  · have h := itf_e h hc129
                    refine lv_aload hx hb dX12_pass_132 (lv_at hl 5 rfl) ?_
                    refine lv_iload hx hb dX12_pass_134 (lv_at hl 6 rfl) ?_
                    refine lv_ldc hx hb hown (hts _ qX12_74) dX12_pass_136 ?_
                    obtain ⟨hn138, h⟩ := itn_e h
                    obtain ⟨v138, e138, h⟩ := bnd_e h
                    refine w_ia2 (k := (pB 3 t58.1.toNatClampNeg)) hx hb hK hP hS hz (hk.2.2.2.2.1.2 _ (Nat.lt_of_not_le fun q => hn67 (Or.inr q))) hn138 e138 dX12_pass_138 fun H1 locs1 hz hP hS => ?_
                    exact J139 v138 h _ _ _ (lv_sub hl [0, 1, 2, 3, 4, 5, 6] rfl) hP hS hz
                · have h := itf_e h hc98
                  refine lv_goto (tgt := 139) hx hb dX12_pass_101 rfl ?_
                  exact J139 t73.2 h _ _ _ (lv_sub hl [0, 1, 2, 3, 4, 5, 6] rfl) hP hS hz
          exact L73 z (0, t58.2) h _ _ _ (lv_sub hl [2, 3, 4, 5, 6, 1, 0] rfl) hP hS hz
      exact L58 z (0, t17.2.2) h _ _ _ (lv_sub hl [3, 4, 2, 1, 0] rfl) hP hS hz
    · have h := itf_e h hc20
      refine lv_aload_n hx hb dX12_pass_23 rfl (lv_at hl 2 rfl) ?_
      refine lv_iload hx hb dX12_pass_24 (lv_at hl 4 rfl) ?_
      obtain ⟨hn26, h⟩ := itn_e h
      refine z_aald (k := (pA 5)) hx hb hK hP hk.2.2.2.2.2.2.1.1 hn26 dX12_pass_26 ?_
      refine lv_astore (lv' := [(5, .ref (Γ.2.1 + (pB 5 t17.2.1.toNatClampNeg))), (0, .ref (Γ.2.1 + ks)), (1, .int t17.1), (2, .ref (Γ.2.1 + (pA 5))), (3, .int (nI (pN 5))), (4, .int t17.2.1)]) hx hb dX12_pass_27 hl (by decide) rfl fun ls hl => ?_
      refine lv_aload_n hx hb dX12_pass_29 rfl (lv_at hl 1 rfl) ?_
      refine lv_aload hx hb dX12_pass_30 (lv_at hl 0 rfl) ?_
      obtain ⟨q32, e32, h⟩ := obn_e h
      refine z_Vi (k := ks) (r1 := (q_b q32.1)) (v1 := q32.2) hx hb hml hts hown hK hP hS hz hE (c_Sim_carry hk (hk.2.2.2.2.2.2.1.2 _ (Nat.lt_of_not_le fun q => hn26 (Or.inr q))) e32) kX12_carry mX12_71 hk.1 rfl rfl rfl hl.1 (Nat.le_of_ble_eq_true rfl) ⟨Nat.le_of_ble_eq_true rfl, Nat.le_of_ble_eq_true rfl⟩ ⟨Nat.zero_le _, Nat.zero_le _⟩ dX12_pass_32 fun H1 locs1 hz hP hS => ?_
      have J41 : ∀ (x41_1 : Int32), (j_Sim_pass_41 K17 t17 q32) x41_1 = some q → ∀ (H1 : Heap) (locs1 : List Loc) (ls1 : Array Slot), lv_has ls1 7 [(0, .ref (Γ.2.1 + ks)), (1, .int x41_1), (2, .ref (Γ.2.1 + (pA 5))), (3, .int (nI (pN 5))), (4, .int t17.2.1)] → Wd Γ sh q32.2 w H1 → va_S (gA Γ sh n) s.heap H1 locs1 → H1.size = Γ.2.1 + n → wpI Γ sh w n 4 (fun x u => x = q.1 ∧ u = q.2) p l e s m args below meth c H1 locs1 (F0 m 41 ls1 []) := by
        intro x41_1 h H1 locs1 ls hl hP hS hz
        unfold j_Sim_pass_41 at h
        refine lv_iinc (k := 4) (v := (t17.2.1 + 1)) (lv' := [(4, .int (t17.2.1 + 1)), (0, .ref (Γ.2.1 + ks)), (1, .int x41_1), (2, .ref (Γ.2.1 + (pA 5))), (3, .int (nI (pN 5)))]) hx hb dX12_pass_41 hl rfl rfl (by decide) rfl fun ls hl => ?_
        refine lv_goto (tgt := 17) hx hb dX12_pass_44 rfl ?_
        exact ih17 (x41_1, (t17.2.1 + 1), q32.2) h _ _ _ (lv_sub hl [1, 2, 3, 4, 0] rfl) hP hS hz
      refine lv_if_eq (tgt := 41) hx hb dX12_pass_35 rfl (fun hc35 => ?_) (fun hc35 => ?_)
      · have h := itt_e h hc35
        exact J41 t17.1 h _ _ _ (lv_sub hl [1, 2, 3, 4, 5] rfl) hP hS hz
      · have h := itf_e h hc35
        refine lv_iinc (k := 2) (v := (t17.1 + 1)) (lv' := [(1, .int (t17.1 + 1)), (5, .ref (Γ.2.1 + (pB 5 t17.2.1.toNatClampNeg))), (0, .ref (Γ.2.1 + ks)), (2, .ref (Γ.2.1 + (pA 5))), (3, .int (nI (pN 5))), (4, .int t17.2.1)]) hx hb dX12_pass_38 hl rfl rfl (by decide) rfl fun ls hl => ?_
        exact J41 (t17.1 + 1) h _ _ _ (lv_sub hl [2, 0, 3, 4, 5] rfl) hP hS hz
  exact L17 z (0, 0, q1) h _ _ _ (lv_sub hl [4, 3, 2, 1, 0] rfl) hP hS hz
def b_Sim_weight_13 (v : Va) (pB : Nat → Nat → Nat) (pN : Nat → Nat) (K13 : (Int32 × Int32) → Option Int32) (t13 : Int32 × Int32) : Option Int32 := if (nI (pN 4)) ≤ t13.2 then (some t13.1) else (if t13.2 < 0 ∨ (pN 4) ≤ t13.2.toNatClampNeg then none else if (1 : Int32) < 0 ∨ 6 ≤ (1 : Int32).toNatClampNeg then none else K13 ((t13.1 + (v (pB 4 t13.2.toNatClampNeg) (1 : Int32).toNatClampNeg)), (t13.2 + 1)))
def f_Sim_weight (z : Nat) (v : Va) (ks : Nat) (pA : Nat → Nat) (pB : Nat → Nat → Nat) (pN : Nat → Nat) : Option Int32 := rp (b_Sim_weight_13 v pB pN) z (0, 0)
theorem c_Sim_weight {ks : Nat} {pA : Nat → Nat} {pB : Nat → Nat → Nat} {pN : Nat → Nat} (hk : isSim sh ks pA pB pN) {q : Int32} (h : f_Sim_weight z v ks pA pB pN = some q) : MetI l yX12_weight cX12_weight 6 (some .int) 0 Γ sh v w n [.ref (Γ.2.1 + ks)] (fun x u => x = q ∧ u = v) := by
  unfold f_Sim_weight at h
  refine w_start pn_X12 (Nat.le_of_ble_eq_true rfl) fun p e s m args below meth c hx hb hml hret hlk hnm hts hown hK hP hz hE hS ls hl => ?_
  refine lv_iconst (v := 0) hx hb dX12_weight_0 rfl ?_
  refine lv_istore_n (lv' := [(1, .int 0), (0, .ref (Γ.2.1 + ks))]) hx hb dX12_weight_1 rfl hl (by decide) rfl fun ls hl => ?_
  refine lv_aload_n hx hb dX12_weight_2 rfl (lv_at hl 1 rfl) ?_
  refine w_gr (k := ks) (r := (pA 4)) hx hb hts hown hK hP fX12_28 hk.1 rfl dX12_weight_3 ?_
  refine lv_astore_n (lv' := [(2, .ref (Γ.2.1 + (pA 4))), (1, .int 0), (0, .ref (Γ.2.1 + ks))]) hx hb dX12_weight_6 rfl hl (by decide) rfl fun ls hl => ?_
  refine lv_aload_n hx hb dX12_weight_7 rfl (lv_at hl 0 rfl) ?_
  refine w_alenR (k := (pA 4)) hx hb hK hP hk.2.2.2.2.2.1.1 dX12_weight_8 ?_
  refine lv_istore_n (lv' := [(3, .int (nI (pN 4))), (2, .ref (Γ.2.1 + (pA 4))), (1, .int 0), (0, .ref (Γ.2.1 + ks))]) hx hb dX12_weight_9 rfl hl (by decide) rfl fun ls hl => ?_
  refine lv_iconst (v := 0) hx hb dX12_weight_10 rfl ?_
  refine lv_istore (lv' := [(4, .int 0), (3, .int (nI (pN 4))), (2, .ref (Γ.2.1 + (pA 4))), (1, .int 0), (0, .ref (Γ.2.1 + ks))]) hx hb dX12_weight_11 hl (by decide) rfl fun ls hl => ?_
  have L13 : ∀ (fu : Nat) (t13 : Int32 × Int32), rp (b_Sim_weight_13 v pB pN) fu t13 = some q → ∀ (H1 : Heap) (locs1 : List Loc) (ls1 : Array Slot), lv_has ls1 6 [(1, .int t13.1), (2, .ref (Γ.2.1 + (pA 4))), (3, .int (nI (pN 4))), (4, .int t13.2)] → Wd Γ sh v w H1 → va_S (gA Γ sh n) s.heap H1 locs1 → H1.size = Γ.2.1 + n → wpI Γ sh w n 0 (fun x u => x = q ∧ u = v) p l e s m args below meth c H1 locs1 (F0 m 13 ls1 []) := by
    refine q_loop (fun K13 ih13 t13 h H1 locs1 ls hl hP hS hz => ?_)
    unfold b_Sim_weight_13 at h
    refine lv_iload hx hb dX12_weight_13 (lv_at hl 3 rfl) ?_
    refine lv_iload_n hx hb dX12_weight_15 rfl (lv_at hl 2 rfl) ?_
    refine lv_icmp_ge (tgt := 38) hx hb dX12_weight_16 rfl (fun hc16 => ?_) (fun hc16 => ?_)
    · have h := itt_e h hc16
      refine lv_iload_n hx hb dX12_weight_38 rfl (lv_at hl 0 rfl) ?_
      exact w_iret hx hb hret rfl hlk hK hP hS hz hE (q_p1 h) dX12_weight_39
    · have h := itf_e h hc16
      refine lv_aload_n hx hb dX12_weight_19 rfl (lv_at hl 1 rfl) ?_
      refine lv_iload hx hb dX12_weight_20 (lv_at hl 3 rfl) ?_
      obtain ⟨hn22, h⟩ := itn_e h
      refine z_aald (k := (pA 4)) hx hb hK hP hk.2.2.2.2.2.1.1 hn22 dX12_weight_22 ?_
      refine lv_astore (lv' := [(5, .ref (Γ.2.1 + (pB 4 t13.2.toNatClampNeg))), (1, .int t13.1), (2, .ref (Γ.2.1 + (pA 4))), (3, .int (nI (pN 4))), (4, .int t13.2)]) hx hb dX12_weight_23 hl (by decide) rfl fun ls hl => ?_
      refine lv_iload_n hx hb dX12_weight_25 rfl (lv_at hl 1 rfl) ?_
      refine lv_aload hx hb dX12_weight_26 (lv_at hl 0 rfl) ?_
      refine lv_iconst (v := 1) hx hb dX12_weight_28 rfl ?_
      obtain ⟨hn29, h⟩ := itn_e h
      refine w_iald (k := (pB 4 t13.2.toNatClampNeg)) hx hb hK hP (hk.2.2.2.2.2.1.2 _ (Nat.lt_of_not_le fun q => hn22 (Or.inr q))) hn29 dX12_weight_29 ?_
      refine lv_iadd hx hb dX12_weight_30 ?_
      refine lv_istore_n (lv' := [(1, .int (t13.1 + (v (pB 4 t13.2.toNatClampNeg) (1 : Int32).toNatClampNeg))), (5, .ref (Γ.2.1 + (pB 4 t13.2.toNatClampNeg))), (2, .ref (Γ.2.1 + (pA 4))), (3, .int (nI (pN 4))), (4, .int t13.2)]) hx hb dX12_weight_31 rfl hl (by decide) rfl fun ls hl => ?_
      refine lv_iinc (k := 4) (v := (t13.2 + 1)) (lv' := [(4, .int (t13.2 + 1)), (1, .int (t13.1 + (v (pB 4 t13.2.toNatClampNeg) (1 : Int32).toNatClampNeg))), (5, .ref (Γ.2.1 + (pB 4 t13.2.toNatClampNeg))), (2, .ref (Γ.2.1 + (pA 4))), (3, .int (nI (pN 4)))]) hx hb dX12_weight_32 hl rfl rfl (by decide) rfl fun ls hl => ?_
      refine lv_goto (tgt := 13) hx hb dX12_weight_35 rfl ?_
      exact ih13 ((t13.1 + (v (pB 4 t13.2.toNatClampNeg) (1 : Int32).toNatClampNeg)), (t13.2 + 1)) h _ _ _ (lv_sub hl [1, 3, 4, 0] rfl) hP hS hz
  exact L13 z (0, 0) h _ _ _ (lv_sub hl [3, 2, 1, 0] rfl) hP hS hz
def j_Sim_back_101 (K6 : (Int32 × Int32 × Va) → Option (Int32 × Va)) (t6 : Int32 × Int32 × Va) (x101_5 : Int32) (v101 : Va) : Option (Int32 × Va) := K6 (x101_5, (t6.2.1 + 1), v101)
def j_Sim_back_53 (GI : Nat → List Int32 → Va → Option (Int32 × Va)) (pB : Nat → Nat → Nat) (a1 : Int32) (a2 : Int32) (a3 : Int32) (kz4 : Nat) (Nz4 : Nat) (K6 : (Int32 × Int32 × Va) → Option (Int32 × Va)) (t6 : Int32 × Int32 × Va) : Option (Int32 × Va) := if t6.2.1 = a1 then (j_Sim_back_101 K6 t6 (q_max t6.1 (q_min a3 (t6.2.2 (pB 3 a2.toNatClampNeg) t6.2.1.toNatClampNeg))) t6.2.2) else (if t6.2.1 < 0 ∨ Nz4 ≤ t6.2.1.toNatClampNeg then none else bnd (pu t6.2.2 kz4 t6.2.1.toNatClampNeg (vp_nar .boolean 1)) fun v76 => (GI 0 [a1, t6.2.1, (q_min a3 (t6.2.2 (pB 3 a2.toNatClampNeg) t6.2.1.toNatClampNeg))] v76).bind fun q87 => if t6.2.1 < 0 ∨ Nz4 ≤ t6.2.1.toNatClampNeg then none else bnd (pu q87.2 kz4 t6.2.1.toNatClampNeg (vp_nar .boolean 0)) fun v100 => j_Sim_back_101 K6 t6 (q_max t6.1 q87.1) v100)
def b_Sim_back_6 (GI : Nat → List Int32 → Va → Option (Int32 × Va)) (pB : Nat → Nat → Nat) (pN : Nat → Nat) (a1 : Int32) (a2 : Int32) (a3 : Int32) (kz4 : Nat) (Nz4 : Nat) (K6 : (Int32 × Int32 × Va) → Option (Int32 × Va)) (t6 : Int32 × Int32 × Va) : Option (Int32 × Va) := if (nI (pN 2)) ≤ t6.2.1 then (some (t6.1, t6.2.2)) else (if a2 < 0 ∨ (pN 3) ≤ a2.toNatClampNeg then none else if t6.2.1 < 0 ∨ (pN 2) ≤ t6.2.1.toNatClampNeg then none else if (q_min a3 (t6.2.2 (pB 3 a2.toNatClampNeg) t6.2.1.toNatClampNeg)) = 0 then (j_Sim_back_101 K6 t6 t6.1 t6.2.2) else (if t6.2.1 = a1 then (j_Sim_back_53 GI pB a1 a2 a3 kz4 Nz4 K6 t6) else (if t6.2.1 < 0 ∨ Nz4 ≤ t6.2.1.toNatClampNeg then none else if (t6.2.2 kz4 t6.2.1.toNatClampNeg) = 0 then (j_Sim_back_53 GI pB a1 a2 a3 kz4 Nz4 K6 t6) else (j_Sim_back_101 K6 t6 t6.1 t6.2.2))))
def f_Sim_back (z : Nat) (GI : Nat → List Int32 → Va → Option (Int32 × Va)) (v : Va) (ks : Nat) (pA : Nat → Nat) (pB : Nat → Nat → Nat) (pN : Nat → Nat) (a1 : Int32) (a2 : Int32) (a3 : Int32) (kz4 : Nat) (Nz4 : Nat) : Option (Int32 × Va) := rp (b_Sim_back_6 GI pB pN a1 a2 a3 kz4 Nz4) z (0, 0, v)
theorem c_Sim_back {ks : Nat} {pA : Nat → Nat} {pB : Nat → Nat → Nat} {pN : Nat → Nat} {a1 : Int32} {a2 : Int32} {a3 : Int32} {kz4 : Nat} {Nz4 : Nat} {GI : Nat → List Int32 → Va → Option (Int32 × Va)} {hh : Nat} (hk : isSim sh ks pA pB pN) (hz4 : sh kz4 = some (sB 2 Nz4)) (hc : 1 ≤ hh) (ig0 : ∀ (a1 : Int32) (a2 : Int32) (a3 : Int32) (v : Va) (q : Int32 × Va), GI 0 [a1, a2, a3] v = some q → MetI l yX12_back cX12_back 8 (some .int) hh Γ sh v w n [.ref (Γ.2.1 + ks), .int a1, .int a2, .int a3, .ref (Γ.2.1 + kz4)] (fun x u => x = q.1 ∧ u = q.2)) {q : Int32 × Va} (h : f_Sim_back z GI v ks pA pB pN a1 a2 a3 kz4 Nz4 = some q) : MetI l yX12_back cX12_back 8 (some .int) (hh + 1) Γ sh v w n [.ref (Γ.2.1 + ks), .int a1, .int a2, .int a3, .ref (Γ.2.1 + kz4)] (fun x u => x = q.1 ∧ u = q.2) := by
  unfold f_Sim_back at h
  refine w_start pn_X12 (Nat.le_of_ble_eq_true rfl) fun p e s m args below meth c hx hb hml hret hlk hnm hts hown hK hP hz hE hS ls hl => ?_
  refine lv_iconst (v := 0) hx hb dX12_back_0 rfl ?_
  refine lv_istore (lv' := [(5, .int 0), (0, .ref (Γ.2.1 + ks)), (1, .int a1), (2, .int a2), (3, .int a3), (4, .ref (Γ.2.1 + kz4))]) hx hb dX12_back_1 hl (by decide) rfl fun ls hl => ?_
  refine lv_iconst (v := 0) hx hb dX12_back_3 rfl ?_
  refine lv_istore (lv' := [(6, .int 0), (5, .int 0), (0, .ref (Γ.2.1 + ks)), (1, .int a1), (2, .int a2), (3, .int a3), (4, .ref (Γ.2.1 + kz4))]) hx hb dX12_back_4 hl (by decide) rfl fun ls hl => ?_
  have L6 : ∀ (fu : Nat) (t6 : Int32 × Int32 × Va), rp (b_Sim_back_6 GI pB pN a1 a2 a3 kz4 Nz4) fu t6 = some q → ∀ (H1 : Heap) (locs1 : List Loc) (ls1 : Array Slot), lv_has ls1 8 [(0, .ref (Γ.2.1 + ks)), (1, .int a1), (2, .int a2), (3, .int a3), (4, .ref (Γ.2.1 + kz4)), (5, .int t6.1), (6, .int t6.2.1)] → Wd Γ sh t6.2.2 w H1 → va_S (gA Γ sh n) s.heap H1 locs1 → H1.size = Γ.2.1 + n → wpI Γ sh w n (hh + 1) (fun x u => x = q.1 ∧ u = q.2) p l e s m args below meth c H1 locs1 (F0 m 6 ls1 []) := by
    refine q_loop (fun K6 ih6 t6 h H1 locs1 ls hl hP hS hz => ?_)
    unfold b_Sim_back_6 at h
    refine lv_iload hx hb dX12_back_6 (lv_at hl 6 rfl) ?_
    refine lv_aload_n hx hb dX12_back_8 rfl (lv_at hl 0 rfl) ?_
    refine w_gr (k := ks) (r := (pA 2)) hx hb hts hown hK hP fX12_22 hk.1 rfl dX12_back_9 ?_
    refine w_alenR (k := (pA 2)) hx hb hK hP hk.2.2.2.1.1 dX12_back_12 ?_
    refine lv_icmp_ge (tgt := 107) hx hb dX12_back_13 rfl (fun hc13 => ?_) (fun hc13 => ?_)
    · have h := itt_e h hc13
      refine lv_iload hx hb dX12_back_107 (lv_at hl 5 rfl) ?_
      exact w_iret hx hb hret rfl hlk hK hP hS hz hE (q_p2 h) dX12_back_109
    · have h := itf_e h hc13
      refine lv_iload_n hx hb dX12_back_16 rfl (lv_at hl 3 rfl) ?_
      refine lv_aload_n hx hb dX12_back_17 rfl (lv_at hl 0 rfl) ?_
      refine w_gr (k := ks) (r := (pA 3)) hx hb hts hown hK hP fX12_25 hk.1 rfl dX12_back_18 ?_
      refine lv_iload_n hx hb dX12_back_21 rfl (lv_at hl 2 rfl) ?_
      obtain ⟨hn22, h⟩ := itn_e h
      refine z_aald (k := (pA 3)) hx hb hK hP hk.2.2.2.2.1.1 hn22 dX12_back_22 ?_
      refine lv_iload hx hb dX12_back_23 (lv_at hl 6 rfl) ?_
      obtain ⟨hn25, h⟩ := itn_e h
      refine w_iald (k := (pB 3 a2.toNatClampNeg)) hx hb hK hP (hk.2.2.2.2.1.2 _ (Nat.lt_of_not_le fun q => hn22 (Or.inr q))) hn25 dX12_back_25 ?_
      refine z_mmin hx hb hml hl.1 hts hown xX12_40 q_roomM (Nat.le_of_ble_eq_true rfl) ⟨Nat.zero_le _, Nat.zero_le _⟩ dX12_back_26 ?_
      refine lv_istore (lv' := [(7, .int (q_min a3 (t6.2.2 (pB 3 a2.toNatClampNeg) t6.2.1.toNatClampNeg))), (0, .ref (Γ.2.1 + ks)), (1, .int a1), (2, .int a2), (3, .int a3), (4, .ref (Γ.2.1 + kz4)), (5, .int t6.1), (6, .int t6.2.1)]) hx hb dX12_back_29 hl (by decide) rfl fun ls hl => ?_
      refine lv_iload hx hb dX12_back_31 (lv_at hl 0 rfl) ?_
      have J101 : ∀ (x101_5 : Int32) (v101 : Va), (j_Sim_back_101 K6 t6) x101_5 v101 = some q → ∀ (H1 : Heap) (locs1 : List Loc) (ls1 : Array Slot), lv_has ls1 8 [(0, .ref (Γ.2.1 + ks)), (1, .int a1), (2, .int a2), (3, .int a3), (4, .ref (Γ.2.1 + kz4)), (5, .int x101_5), (6, .int t6.2.1)] → Wd Γ sh v101 w H1 → va_S (gA Γ sh n) s.heap H1 locs1 → H1.size = Γ.2.1 + n → wpI Γ sh w n (hh + 1) (fun x u => x = q.1 ∧ u = q.2) p l e s m args below meth c H1 locs1 (F0 m 101 ls1 []) := by
        intro x101_5 v101 h H1 locs1 ls hl hP hS hz
        unfold j_Sim_back_101 at h
        refine lv_iinc (k := 6) (v := (t6.2.1 + 1)) (lv' := [(6, .int (t6.2.1 + 1)), (0, .ref (Γ.2.1 + ks)), (1, .int a1), (2, .int a2), (3, .int a3), (4, .ref (Γ.2.1 + kz4)), (5, .int x101_5)]) hx hb dX12_back_101 hl rfl rfl (by decide) rfl fun ls hl => ?_
        refine lv_goto (tgt := 6) hx hb dX12_back_104 rfl ?_
        exact ih6 (x101_5, (t6.2.1 + 1), v101) h _ _ _ (lv_sub hl [1, 2, 3, 4, 5, 6, 0] rfl) hP hS hz
      refine lv_if_eq (tgt := 101) hx hb dX12_back_33 rfl (fun hc33 => ?_) (fun hc33 => ?_)
      · have h := itt_e h hc33
        exact J101 t6.1 t6.2.2 h _ _ _ (lv_sub hl [1, 2, 3, 4, 5, 6, 7] rfl) hP hS hz
      · have h := itf_e h hc33
        refine lv_iload hx hb dX12_back_36 (lv_at hl 7 rfl) ?_
        refine lv_iload_n hx hb dX12_back_38 rfl (lv_at hl 2 rfl) ?_
        have J53 : (j_Sim_back_53 GI pB a1 a2 a3 kz4 Nz4 K6 t6) = some q → ∀ (H1 : Heap) (locs1 : List Loc) (ls1 : Array Slot), lv_has ls1 8 [(0, .ref (Γ.2.1 + ks)), (1, .int a1), (2, .int a2), (3, .int a3), (4, .ref (Γ.2.1 + kz4)), (5, .int t6.1), (6, .int t6.2.1), (7, .int (q_min a3 (t6.2.2 (pB 3 a2.toNatClampNeg) t6.2.1.toNatClampNeg)))] → Wd Γ sh t6.2.2 w H1 → va_S (gA Γ sh n) s.heap H1 locs1 → H1.size = Γ.2.1 + n → wpI Γ sh w n (hh + 1) (fun x u => x = q.1 ∧ u = q.2) p l e s m args below meth c H1 locs1 (F0 m 53 ls1 []) := by
          intro  h H1 locs1 ls hl hP hS hz
          unfold j_Sim_back_53 at h
          refine lv_iload hx hb dX12_back_53 (lv_at hl 6 rfl) ?_
          refine lv_iload_n hx hb dX12_back_55 rfl (lv_at hl 1 rfl) ?_
          refine lv_icmp_ne (tgt := 71) hx hb dX12_back_56 rfl (fun hc56 => ?_) (fun hc56 => ?_)
          · have h := itf_e h hc56
            refine lv_aload hx hb dX12_back_71 (lv_at hl 4 rfl) ?_
            refine lv_iload hx hb dX12_back_73 (lv_at hl 6 rfl) ?_
            refine lv_iconst (v := 1) hx hb dX12_back_75 rfl ?_
            obtain ⟨hn76, h⟩ := itn_e h
            obtain ⟨v76, e76, h⟩ := bnd_e h
            refine w_za2 (k := kz4) hx hb hK hP hS hz hz4 hn76 e76 dX12_back_76 fun H1 locs1 hz hP hS => ?_
            refine lv_iload hx hb dX12_back_77 (lv_at hl 5 rfl) ?_
            refine lv_aload_n hx hb dX12_back_79 rfl (lv_at hl 0 rfl) ?_
            refine lv_iload_n hx hb dX12_back_80 rfl (lv_at hl 1 rfl) ?_
            refine lv_iload hx hb dX12_back_81 (lv_at hl 6 rfl) ?_
            refine lv_iload hx hb dX12_back_83 (lv_at hl 7 rfl) ?_
            refine lv_aload hx hb dX12_back_85 (lv_at hl 4 rfl) ?_
            obtain ⟨q87, e87, h⟩ := obn_e h
            refine z_Vi (k := ks) (r1 := q87.1) (v1 := q87.2) hx hb hml hts hown hK hP hS hz hE (ig0 _ _ _ _ _ e87) kX12_back mX12_81 hk.1 rfl rfl rfl hl.1 (Nat.le_of_ble_eq_true rfl) (q_room (Nat.le_refl _) (Nat.le_refl _) (Nat.le_of_ble_eq_true rfl)) ⟨Nat.zero_le _, Nat.zero_le _⟩ dX12_back_87 fun H1 locs1 hz hP hS => ?_
            refine z_mmax hx hb hml hl.1 hts hown xX12_46 q_roomM (Nat.le_of_ble_eq_true rfl) ⟨Nat.zero_le _, Nat.zero_le _⟩ dX12_back_90 ?_
            refine lv_istore (lv' := [(5, .int (q_max t6.1 q87.1)), (0, .ref (Γ.2.1 + ks)), (1, .int a1), (2, .int a2), (3, .int a3), (4, .ref (Γ.2.1 + kz4)), (6, .int t6.2.1), (7, .int (q_min a3 (t6.2.2 (pB 3 a2.toNatClampNeg) t6.2.1.toNatClampNeg)))]) hx hb dX12_back_93 hl (by decide) rfl fun ls hl => ?_
            refine lv_aload hx hb dX12_back_95 (lv_at hl 5 rfl) ?_
            refine lv_iload hx hb dX12_back_97 (lv_at hl 6 rfl) ?_
            refine lv_iconst (v := 0) hx hb dX12_back_99 rfl ?_
            obtain ⟨hn100, h⟩ := itn_e h
            obtain ⟨v100, e100, h⟩ := bnd_e h
            refine w_za2 (k := kz4) hx hb hK hP hS hz hz4 hn100 e100 dX12_back_100 fun H1 locs1 hz hP hS => ?_
            exact J101 (q_max t6.1 q87.1) v100 h _ _ _ (lv_sub hl [1, 2, 3, 4, 5, 0, 6] rfl) hP hS hz
          · have h := itt_e h hc56
            refine lv_iload hx hb dX12_back_59 (lv_at hl 5 rfl) ?_
            refine lv_iload hx hb dX12_back_61 (lv_at hl 7 rfl) ?_
            refine z_mmax hx hb hml hl.1 hts hown xX12_46 q_roomM (Nat.le_of_ble_eq_true rfl) ⟨Nat.zero_le _, Nat.zero_le _⟩ dX12_back_63 ?_
            refine lv_istore (lv' := [(5, .int (q_max t6.1 (q_min a3 (t6.2.2 (pB 3 a2.toNatClampNeg) t6.2.1.toNatClampNeg)))), (0, .ref (Γ.2.1 + ks)), (1, .int a1), (2, .int a2), (3, .int a3), (4, .ref (Γ.2.1 + kz4)), (6, .int t6.2.1), (7, .int (q_min a3 (t6.2.2 (pB 3 a2.toNatClampNeg) t6.2.1.toNatClampNeg)))]) hx hb dX12_back_66 hl (by decide) rfl fun ls hl => ?_
            refine lv_goto (tgt := 101) hx hb dX12_back_68 rfl ?_
            exact J101 (q_max t6.1 (q_min a3 (t6.2.2 (pB 3 a2.toNatClampNeg) t6.2.1.toNatClampNeg))) t6.2.2 h _ _ _ (lv_sub hl [1, 2, 3, 4, 5, 0, 6] rfl) hP hS hz
        refine lv_icmp_eq (tgt := 53) hx hb dX12_back_39 rfl (fun hc39 => ?_) (fun hc39 => ?_)
        · have h := itt_e h hc39
          exact J53 h _ _ _ (lv_sub hl [1, 2, 3, 4, 5, 6, 7, 0] rfl) hP hS hz
        · have h := itf_e h hc39
          refine lv_aload hx hb dX12_back_42 (lv_at hl 5 rfl) ?_
          refine lv_iload hx hb dX12_back_44 (lv_at hl 7 rfl) ?_
          obtain ⟨hn46, h⟩ := itn_e h
          refine w_zald (k := kz4) hx hb hK hP hz4 hn46 dX12_back_46 ?_
          refine lv_if_eq (tgt := 53) hx hb dX12_back_47 rfl (fun hc47 => ?_) (fun hc47 => ?_)
          · have h := itt_e h hc47
            exact J53 h _ _ _ (lv_sub hl [1, 2, 3, 4, 5, 6, 7, 0] rfl) hP hS hz
          · have h := itf_e h hc47
            refine lv_goto (tgt := 101) hx hb dX12_back_50 rfl ?_
            exact J101 t6.1 t6.2.2 h _ _ _ (lv_sub hl [1, 2, 3, 4, 5, 6, 7] rfl) hP hS hz
  exact L6 z (0, 0, v) h _ _ _ (lv_sub hl [2, 3, 4, 5, 6, 1, 0] rfl) hP hS hz
def g_Back (z : Nat) (ks : Nat) (pA : Nat → Nat) (pB : Nat → Nat → Nat) (pN : Nat → Nat) (kz4 : Nat) (Nz4 : Nat) : Nat → (Nat → List Int32 → Va → Option (Int32 × Va))
  | 0 => fun _ _ _ => none
  | d + 1 => fun i a v => if i = 0 then f_Sim_back z (g_Back z ks pA pB pN kz4 Nz4 d) v ks pA pB pN (a.getD 0 0) (a.getD 1 0) (a.getD 2 0) kz4 Nz4 else none
theorem cg_Back {ks : Nat} {pA : Nat → Nat} {pB : Nat → Nat → Nat} {pN : Nat → Nat} {kz4 : Nat} {Nz4 : Nat} (hk : isSim sh ks pA pB pN) (hz4 : sh kz4 = some (sB 2 Nz4)) : ∀ d : Nat, (∀ (a1 : Int32) (a2 : Int32) (a3 : Int32) (v : Va) (q : Int32 × Va), (g_Back z ks pA pB pN kz4 Nz4 d) 0 [a1, a2, a3] v = some q → MetI l yX12_back cX12_back 8 (some .int) (1 + d) Γ sh v w n [.ref (Γ.2.1 + ks), .int a1, .int a2, .int a3, .ref (Γ.2.1 + kz4)] (fun x u => x = q.1 ∧ u = q.2)) := by
  intro d
  induction d with
  | zero => exact (fun _ _ _ _ _ h => (by cases h))
  | succ d ih => exact (fun _ _ _ _ _ h => c_Sim_back hk hz4 (z := z) (GI := g_Back z ks pA pB pN kz4 Nz4 d) (hh := 1 + d) (Nat.le_add_right _ _) ih h)
end GE
