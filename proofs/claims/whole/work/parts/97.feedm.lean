/-! THE REFERENCE FEEDS: five in a row of their own, then byte by byte -/
section GE
variable {l : Launch} {Γ : Cx} {sh : Sh} {v : Va} {w : Vl} {n z : Nat}
def b_Model_feed_54 (kf : Nat) (K54 : (Int32 × Va) → Option (Int32 × Va)) (t54 : Int32 × Va) : Option (Int32 × Va) := if 20 ≤ t54.1 then (bnd (pu t54.2 149 2 ((t54.2 149 2) + 20)) fun v109 => some ((v109 149 2), v109)) else (if (t54.1 / 4) < 0 ∨ 5 ≤ (t54.1 / 4).toNatClampNeg then none else if ((t54.2 149 2) + t54.1) < 0 ∨ 2000 ≤ ((t54.2 149 2) + t54.1).toNatClampNeg then none else bnd (pu t54.2 150 ((t54.2 149 2) + t54.1).toNatClampNeg ((((t54.2 kf (t54.1 / 4).toNatClampNeg).toUInt32 >>> ((24 - ((t54.1 - t54.1 / 4 * 4) * 8)).toUInt32 &&& Int32.toUInt32 31)).toInt32) &&& 255)) fun v94 => K54 ((t54.1 + 1), v94))
def f_Model_feedB (z : Nat) (v : Va) (sp kf : Nat) : Option (Int32 × Va) := rp (b_Model_feed_54 kf) z (0, v)
def FV (v : Va) (n : Nat) (a1 a2 a3 a4 a5 : Int32) : Va := pu (pu (pu (pu (pu (up v n (fun _ => 0)) n 0 a1) n 1 a2) n 2 a3) n 3 a4) n 4 a5
def f_Model_feed (z : Nat) (sh : Sh) (v : Va) (sp n : Nat) (a1 a2 a3 a4 a5 : Int32) : Option (Int32 × Sh × Va × Nat) := bnd (pu v 149 0 0) fun v2 => if ((v2 149 2) + 20) ≤ 2000 then ((f_Model_feedB z (FV v2 n a1 a2 a3 a4 a5) sp n).bind fun q => some (q.1, up sh n (some (sA 5)), q.2, n + 1)) else ((f_Model_no v2 sp 1).bind fun q20 => some (q20.1, sh, q20.2, n))
theorem c_Model_feed {sp : Nat} {a1 a2 a3 a4 a5 : Int32} (hk : isModel sh sp) (hn : 194 ≤ n) (hsp : sp + 22 ≤ n) {q : Int32 × Sh × Va × Nat} (h : f_Model_feed z sh v sp n a1 a2 a3 a4 a5 = some q) : MetT l yX14_feed cX14_feed 8 (some .int) 1 1 5 Γ sh v w n [.ref (Γ.2.1 + 149), .int a1, .int a2, .int a3, .int a4, .int a5] (fun x u => x = q.1 ∧ u = q.2) := by
  unfold f_Model_feed at h
  refine w_start pn_X14 (Nat.le_of_ble_eq_true rfl) fun p e s m args below meth c hx hb hml hret hlk hnm hts hown hK hP hz hE hS ls hl => ?_
  have B : ∀ (sh : Sh) (n : Nat) (v : Va) (sp kf : Nat) (q : Int32 × Va) (post : Int32 → (Sh × Va × Nat) → Prop), isModel sh sp → sh kf = some (sA 5) → f_Model_feedB z v sp kf = some q → (∀ x u, some (x, u) = some q → post x (sh, u, n)) → ∀ (H1 : Heap) (locs1 : List Loc) (ls1 : Array Slot), lv_has ls1 8 [(0, .ref (Γ.2.1 + 149)), (6, .ref (Γ.2.1 + kf))] → Wd Γ sh v w H1 → va_S (gA Γ) s.heap H1 locs1 → H1.size = Γ.2.1 + n → wpT Γ w 1 1 5 post p l e s m args below meth c H1 locs1 (F0 m 51 ls1 []) := by
    intro sh n v sp kf q post hk hf h hpost H1 locs1 ls hl hP hS hz
    unfold f_Model_feedB at h
    refine lv_iconst (v := 0) hx hb dX14_feed_51 rfl ?_
    refine lv_istore (lv' := [(7, .int 0), (0, .ref (Γ.2.1 + 149)), (6, .ref (Γ.2.1 + kf))]) hx hb dX14_feed_52 hl (by decide) rfl fun ls hl => ?_
    have L54 : ∀ (fu : Nat) (t54 : Int32 × Va), rp (b_Model_feed_54 kf) fu t54 = some q → ∀ (H1 : Heap) (locs1 : List Loc) (ls1 : Array Slot), lv_has ls1 8 [(0, .ref (Γ.2.1 + 149)), (6, .ref (Γ.2.1 + kf)), (7, .int t54.1)] → Wd Γ sh t54.2 w H1 → va_S (gA Γ) s.heap H1 locs1 → H1.size = Γ.2.1 + n → wpT Γ w 1 1 5 post p l e s m args below meth c H1 locs1 (F0 m 54 ls1 []) := by
      refine q_loop (fun K54 ih54 t54 h H1 locs1 ls hl hP hS hz => ?_)
      unfold b_Model_feed_54 at h
      refine lv_iload hx hb dX14_feed_54 (lv_at hl 2 rfl) ?_
      refine lv_bipush (v := 20) hx hb dX14_feed_56 rfl ?_
      refine lv_icmp_ge (tgt := 101) hx hb dX14_feed_58 rfl (fun hc58 => ?_) (fun hc58 => ?_)
      · have h := itt_e h hc58
        refine lv_aload_n hx hb dX14_feed_101 rfl (lv_at hl 0 rfl) ?_
        refine lv_dup hx hb dX14_feed_102 rfl ?_
        refine w_gi (k := 149) hx hb hts hown hK hP fX14_57 hk.1 rfl dX14_feed_103 ?_
        refine lv_bipush (v := 20) hx hb dX14_feed_106 rfl ?_
        refine lv_iadd hx hb dX14_feed_108 ?_
        obtain ⟨v109, e109, h⟩ := bnd_e h
        refine w_pi2 (k := 149) hx hb hts hown hK hP hS hz fX14_57 hk.1 rfl e109 dX14_feed_109 fun H1 locs1 hz hP hS => ?_
        refine lv_aload_n hx hb dX14_feed_112 rfl (lv_at hl 0 rfl) ?_
        refine w_gi (k := 149) hx hb hts hown hK hP fX14_57 hk.1 rfl dX14_feed_113 ?_
        exact w_tret hx hb hret rfl hlk hK hP hS hz hE (hpost _ _ h) dX14_feed_116
      · have h := itf_e h hc58
        refine lv_aload_n hx hb dX14_feed_61 rfl (lv_at hl 0 rfl) ?_
        refine w_gr (k := 149) (r := 150) hx hb hts hown hK hP fX14_9 hk.1 rfl dX14_feed_62 ?_
        refine lv_aload_n hx hb dX14_feed_65 rfl (lv_at hl 0 rfl) ?_
        refine w_gi (k := 149) hx hb hts hown hK hP fX14_57 hk.1 rfl dX14_feed_66 ?_
        refine lv_iload hx hb dX14_feed_69 (lv_at hl 2 rfl) ?_
        refine lv_iadd hx hb dX14_feed_71 ?_
        refine lv_aload hx hb dX14_feed_72 (lv_at hl 1 rfl) ?_
        refine lv_iload hx hb dX14_feed_74 (lv_at hl 2 rfl) ?_
        refine lv_iconst (v := 4) hx hb dX14_feed_76 rfl ?_
        refine lv_idiv hx hb dX14_feed_77 (by decide) ?_
        obtain ⟨hn78, h⟩ := itn_e h
        refine w_iald (k := kf) hx hb hK hP hf hn78 dX14_feed_78 ?_
        refine lv_bipush (v := 24) hx hb dX14_feed_79 rfl ?_
        refine lv_iload hx hb dX14_feed_81 (lv_at hl 2 rfl) ?_
        refine lv_iconst (v := 4) hx hb dX14_feed_83 rfl ?_
        refine lv_irem hx hb dX14_feed_84 (by decide) ?_
        refine lv_bipush (v := 8) hx hb dX14_feed_85 rfl ?_
        refine lv_imul hx hb dX14_feed_87 ?_
        refine lv_isub hx hb dX14_feed_88 ?_
        refine lv_iushr (v := ((t54.2 kf (t54.1 / 4).toNatClampNeg).toUInt32 >>> ((24 - ((t54.1 - t54.1 / 4 * 4) * 8)).toUInt32 &&& Int32.toUInt32 31)).toInt32) hx hb dX14_feed_89 rfl ?_
        refine lv_sipush (v := 255) hx hb dX14_feed_90 rfl ?_
        refine lv_iand hx hb dX14_feed_93 ?_
        obtain ⟨hn94, h⟩ := itn_e h
        obtain ⟨v94, e94, h⟩ := bnd_e h
        refine w_ia2 (k := 150) hx hb hK hP hS hz hk.2.1 hn94 e94 dX14_feed_94 fun H1 locs1 hz hP hS => ?_
        refine lv_iinc (k := 2) (v := (t54.1 + 1)) (lv' := [(7, .int (t54.1 + 1)), (0, .ref (Γ.2.1 + 149)), (6, .ref (Γ.2.1 + kf))]) hx hb dX14_feed_95 hl rfl rfl (by decide) rfl fun ls hl => ?_
        refine lv_goto (tgt := 54) hx hb dX14_feed_98 rfl ?_
        exact ih54 ((t54.1 + 1), v94) h _ _ _ (lv_sub hl [1, 2, 0] rfl) hP hS hz
    exact L54 z (0, v) h _ _ _ (lv_sub hl [1, 2, 0] rfl) hP hS hz
  refine lv_aload_n hx hb dX14_feed_0 rfl (lv_at hl 0 rfl) ?_
  refine lv_iconst (v := 0) hx hb dX14_feed_1 rfl ?_
  obtain ⟨v2, e2, h⟩ := bnd_e h
  refine w_pi2 (k := 149) hx hb hts hown hK hP hS hz fX14_40 hk.1 rfl e2 dX14_feed_2 fun H1 locs1 hz hP hS => ?_
  refine lv_aload_n hx hb dX14_feed_5 rfl (lv_at hl 0 rfl) ?_
  refine w_gi (k := 149) hx hb hts hown hK hP fX14_57 hk.1 rfl dX14_feed_6 ?_
  refine lv_bipush (v := 20) hx hb dX14_feed_9 rfl ?_
  refine lv_iadd hx hb dX14_feed_11 ?_
  refine lv_sipush (v := 2000) hx hb dX14_feed_12 rfl ?_
  refine lv_icmp_le (tgt := 24) hx hb dX14_feed_15 rfl (fun hc15 => ?_) (fun hc15 => ?_)
  · have h := itt_e h hc15
    refine lv_iconst (v := 5) hx hb dX14_feed_24 rfl ?_
    obtain ⟨u0, e25⟩ : ∃ u, kA (sh, v2) n 5 = u := ⟨_, rfl⟩
    refine w_newa (n := n) (N := 5) hx hb hts hK hP hS ac_int (by decide) (by decide) (Nat.le_of_ble_eq_true rfl) (show 0 + 1 ≤ 1 from Nat.le_refl _) (show 0 + 5 ≤ 5 from Nat.le_refl _) hz dX14_feed_25 fun H1 hz hP hS => ?_
    have hf : up sh n (some (sA 5)) n = some (sA 5) := up_eq _ _ _
    have hk2 : isModel (up sh n (some (sA 5))) sp := hk.low (fun q hq => up_ne (by omega)) hn hsp
    refine lv_dup hx hb dX14_feed_27 rfl ?_
    refine lv_iconst (v := 0) hx hb dX14_feed_28 rfl ?_
    refine lv_iload_n hx hb dX14_feed_29 rfl (lv_at hl 1 rfl) ?_
    refine w_ia2 (k := n) hx hb hK hP hS hz hf (show ¬ ((0 : Int32) < 0 ∨ 5 ≤ (0 : Int32).toNatClampNeg) by decide) rfl dX14_feed_30 fun H1 locs1 hz hP hS => ?_
    refine lv_dup hx hb dX14_feed_31 rfl ?_
    refine lv_iconst (v := 1) hx hb dX14_feed_32 rfl ?_
    refine lv_iload_n hx hb dX14_feed_33 rfl (lv_at hl 2 rfl) ?_
    refine w_ia2 (k := n) hx hb hK hP hS hz hf (show ¬ ((1 : Int32) < 0 ∨ 5 ≤ (1 : Int32).toNatClampNeg) by decide) rfl dX14_feed_34 fun H1 locs1 hz hP hS => ?_
    refine lv_dup hx hb dX14_feed_35 rfl ?_
    refine lv_iconst (v := 2) hx hb dX14_feed_36 rfl ?_
    refine lv_iload_n hx hb dX14_feed_37 rfl (lv_at hl 3 rfl) ?_
    refine w_ia2 (k := n) hx hb hK hP hS hz hf (show ¬ ((2 : Int32) < 0 ∨ 5 ≤ (2 : Int32).toNatClampNeg) by decide) rfl dX14_feed_38 fun H1 locs1 hz hP hS => ?_
    refine lv_dup hx hb dX14_feed_39 rfl ?_
    refine lv_iconst (v := 3) hx hb dX14_feed_40 rfl ?_
    refine lv_iload hx hb dX14_feed_41 (lv_at hl 4 rfl) ?_
    refine w_ia2 (k := n) hx hb hK hP hS hz hf (show ¬ ((3 : Int32) < 0 ∨ 5 ≤ (3 : Int32).toNatClampNeg) by decide) rfl dX14_feed_43 fun H1 locs1 hz hP hS => ?_
    refine lv_dup hx hb dX14_feed_44 rfl ?_
    refine lv_iconst (v := 4) hx hb dX14_feed_45 rfl ?_
    refine lv_iload hx hb dX14_feed_46 (lv_at hl 5 rfl) ?_
    refine w_ia2 (k := n) hx hb hK hP hS hz hf (show ¬ ((4 : Int32) < 0 ∨ 5 ≤ (4 : Int32).toNatClampNeg) by decide) rfl dX14_feed_48 fun H1 locs1 hz hP hS => ?_
    refine lv_astore (lv' := [(6, .ref (Γ.2.1 + n)), (0, .ref (Γ.2.1 + 149)), (1, .int a1), (2, .int a2), (3, .int a3), (4, .int a4), (5, .int a5)]) hx hb dX14_feed_49 hl (by decide) rfl fun ls hl => ?_
    obtain ⟨q40, e40, h⟩ := obn_e h
    exact B (up sh n (some (sA 5))) (n + 1) (FV v2 n a1 a2 a3 a4 a5) sp n q40 _ hk2 hf e40 (fun x u hq => by cases hq; cases h; exact ⟨rfl, rfl⟩) _ _ _ (lv_sub hl [1, 0] rfl) hP hS hz
  · have h := itf_e h hc15
    refine lv_aload_n hx hb dX14_feed_18 rfl (lv_at hl 0 rfl) ?_
    refine lv_iconst (v := 1) hx hb dX14_feed_19 rfl ?_
    obtain ⟨q20, e20, h⟩ := obn_e h
    refine z_Vi (k := 149) (r1 := q20.1) (v1 := q20.2) hx hb hml hts hown hK hP hS hz hE (c_Model_no hk e20) kX14_no mX14_403 hk.1 rfl rfl rfl hl.1 (Nat.le_of_ble_eq_true rfl) ⟨Nat.le_of_ble_eq_true rfl, Nat.le_of_ble_eq_true rfl⟩ ⟨Nat.zero_le _, Nat.zero_le _⟩ dX14_feed_20 fun H1 locs1 hz hP hS => ?_
    exact W.widen (k := 1) (n := 5) (Nat.zero_le _) (Nat.zero_le _) (w_tret hx hb hret rfl hlk hK hP hS hz hE (by cases h; exact ⟨rfl, rfl⟩) dX14_feed_23)
end GE
