/-! SIM: isSame, the loop over the lots -/
section IA
variable {p : Program} {l : Launch} {e : Env} {R : Room} {s : State} {m : MethodId} {args : Array Value} {below : List Frame} {meth : Method} {c : Code} {H H0 : Heap} {locs : List Loc} {cells slots : Nat} {Q : State → Prop}
variable {cc : ByteArray} {pc nL : Nat} {ls : Array Slot} {st0 rest As Bs : List Value} {Γ : Cx} {sh sh0 shb : Sh} {v v0 v1 vb vb1 : Va} {w wb : Vl} {own : String} {idx ci j k n n0 nb nn hh mL mc ms a b2 ks S G M L O d1 d2 c0 s0 : Nat} {cs : List Nat} {y : MethodName} {b : ByteArray} {ret : Option FieldType} {pA : Nat → Nat} {pB : Nat → Nat → Nat} {u ua ub ua1 ub1 : Va} {P : Pfn}
theorem is_lots (hX : XM Γ b2 p l s m args c cX12_isSame 10 RX12 shb) (hFR : 12 ≤ R.frames ∧ 480 ≤ R.locals) {pb : Nat} (hroom : c0 + 8 * L ≤ R.cells ∧ s0 + 49 * L ≤ R.slots)
    (kk : ∀ (P : Pfn) (sh : Sh) (v : Va) (n : Nat) (vb : Va) (H1 : Heap) (locs1 : List Loc) (ls : Array Slot) (g : Nat → Int32), lv_has ls 10 [(2, .ref (Γ.2.1 + pb)), (1, .ref (b2 + 0)), (0, .ref (Γ.2.1 + ks))] → DL Γ b2 s w wb shb sh0 n0 ks pA pB S G M L O u u P sh v n vb H1 locs1 → P pb = some (sA G, g) → (∀ q, q < G → g q = row_t (fun k => if u 176 k = nI q then 1 else 0) L) → W p l e R s m args below meth c H1 locs1 (c0 + 8 * L) (s0 + 49 * L) Q (F0 m 170 ls [])) :
    ∀ (j i : Nat), i + j = L → ∀ (P : Pfn) (sh : Sh) (v : Va) (n : Nat) (vb : Va) (H1 : Heap) (locs1 : List Loc) (ls : Array Slot) (g : Nat → Int32), lv_has ls 10 [(3, .int (nI i)), (2, .ref (Γ.2.1 + pb)), (1, .ref (b2 + 0)), (0, .ref (Γ.2.1 + ks))] → DL Γ b2 s w wb shb sh0 n0 ks pA pB S G M L O u u P sh v n vb H1 locs1 → P pb = some (sA G, g) → (∀ q, q < G → g q = row_t (fun k => if u 176 k = nI q then 1 else 0) i) → W p l e R s m args below meth c H1 locs1 (c0 + 8 * i) (s0 + 49 * i) Q (F0 m 10 ls []) := by
  obtain ⟨hx, hb, hml, hts, hown, hK, hE, hb2, hkq, hEX, hlt, -⟩ := (⟨hX.1, hX.2.1, hX.2.2.1, hX.2.2.2.1, hX.2.2.2.2.1, hX.2.2.2.2.2.1, hX.2.2.2.2.2.2.1, hX.2.2.2.2.2.2.2.1, hX.2.2.2.2.2.2.2.2.1, hX.2.2.2.2.2.2.2.2.2.1, hX.2.2.2.2.2.2.2.2.2.2, trivial⟩ : _ ∧ _ ∧ _ ∧ _ ∧ _ ∧ _ ∧ _ ∧ _ ∧ _ ∧ _ ∧ _ ∧ True)
  intro j
  induction j with
  | zero =>
    intro i hij P sh v n vb H1 locs1 ls g hl hL hPb hgb
    have hi : i = L := by omega
    subst hi
    have hB := hL.qi.2.2.2.2.2.1
    refine lv_iload_n hx hb dX12_isSame_10 rfl (lv_at hl 0 rfl) ?_
    refine lv_aload_n hx hb dX12_isSame_11 rfl (lv_at hl 3 rfl) ?_
    refine w_gr hx hb hts hown hK hL.hP fX12_28 hL.ik.1 rfl dX12_isSame_12 ?_
    refine w_alenR hx hb hK hL.hP hL.ik.2.2.2.2.2.1.1 dX12_isSame_15 ?_
    rw [show pn_ S G M i O 4 = i from rfl]
    refine lv_icmp_ge (tgt := 170) hx hb dX12_isSame_16 rfl (fun _ => ?_) (fun q => absurd (Int32.le_refl _) q)
    exact kk P sh v n vb H1 locs1 ls g (lv_sub hl [1, 2, 3] rfl) hL hPb hgb
  | succ j ih =>
    intro i hij P sh v n vb H1 locs1 ls g hl hL hPb hgb
    have hi : i < L := by omega
    have hB := hL.qi.2.2.2.2.2.1
    have hIS := hL.qi.2.2.2.1
    have hG : IG (u 176) (u 177) L G := hIS.2.2.1
    have hG4 : G ≤ 4 := hB.2.1
    have hn0 : P n = none := hL.nope
    have hne : pb ≠ n := fun h => by rw [h, hn0] at hPb; cases hPb
    have hge := hG.lt hG4 hi
    rcases hG i hi with hg | ⟨⟨mm, hmm, hg⟩, -⟩
    · refine lv_iload_n hx hb dX12_isSame_10 rfl (lv_at hl 0 rfl) ?_
      refine lv_aload_n hx hb dX12_isSame_11 rfl (lv_at hl 3 rfl) ?_
      refine w_gr hx hb hts hown hK hL.hP fX12_28 hL.ik.1 rfl dX12_isSame_12 ?_
      refine w_alenR hx hb hK hL.hP hL.ik.2.2.2.2.2.1.1 dX12_isSame_15 ?_
      rw [show pn_ S G M L O 4 = L from rfl]
      refine lv_icmp_ge (tgt := 170) hx hb dX12_isSame_16 rfl (fun q => absurd ((le_n (i := L) (j := i) (by omega) (by omega)).mp q) (by omega)) (fun _ => ?_)
      refine lv_aload_n hx hb dX12_isSame_19 rfl (lv_at hl 3 rfl) ?_
      refine w_gr hx hb hts hown hK hL.hP fX12_28 hL.ik.1 rfl dX12_isSame_20 ?_
      refine lv_iload_n hx hb dX12_isSame_23 rfl (lv_at hl 0 rfl) ?_
      refine z_aald hx hb hK hL.hP hL.ik.2.2.2.2.2.1.1 (i := nI i) (vin hi (show L ≤ 1000000 by omega)) dX12_isSame_24 ?_
      rw [nI_clamp (by omega)]
      refine lv_astore (lv' := [(4, .ref (Γ.2.1 + (pB 4 i))), (3, .int (nI i)), (2, .ref (Γ.2.1 + pb)), (1, .ref (b2 + 0)), (0, .ref (Γ.2.1 + ks))]) hx hb dX12_isSame_25 hl (by decide) rfl fun ls hl => ?_
      refine lv_bipush (v := 7) hx hb dX12_isSame_27 rfl ?_
      refine y_new (x := nI 7) (N := 7) hX hL (nI_pos (by omega)) (nI_clamp (by omega)) (by omega) (by omega) (by omega) dX12_isSame_29 fun H1 hL => ?_
      refine lv_dup hx hb dX12_isSame_31 rfl ?_
      refine lv_iconst (v := 0) hx hb dX12_isSame_32 rfl ?_
      refine lv_aload hx hb dX12_isSame_33 (lv_at hl 0 rfl) ?_
      refine lv_iconst (v := 0) hx hb dX12_isSame_35 rfl ?_
      refine w_iald hx hb hK hL.hP (hL.ik.2.2.2.2.2.1.2 i hi) (i := 0) (vin (i := 0) (by omega) (by omega)) dX12_isSame_36 ?_
      rw [lc_0, hL.sr.spice hi]
      refine y_ia (k := n) hX hL (up_eq _ _ _) (j := 0) lc_0 (vin (i := 0) (by omega) (by omega)) dX12_isSame_37 fun v1 H1 locs1 hL => ?_
      rw [up_up] at hL
      refine lv_dup hx hb dX12_isSame_38 rfl ?_
      refine lv_iconst (v := 1) hx hb dX12_isSame_39 rfl ?_
      refine lv_aload hx hb dX12_isSame_40 (lv_at hl 0 rfl) ?_
      refine lv_iconst (v := 1) hx hb dX12_isSame_42 rfl ?_
      refine w_iald hx hb hK hL.hP (hL.ik.2.2.2.2.2.1.2 i hi) (i := 1) (vin (i := 1) (by omega) (by omega)) dX12_isSame_43 ?_
      rw [lc_1, hL.sr.weight hi]
      refine y_ia (k := n) hX hL (up_eq _ _ _) (j := 1) lc_1 (vin (i := 1) (by omega) (by omega)) dX12_isSame_44 fun v1 H1 locs1 hL => ?_
      rw [up_up] at hL
      refine lv_dup hx hb dX12_isSame_45 rfl ?_
      refine lv_iconst (v := 2) hx hb dX12_isSame_46 rfl ?_
      refine lv_aload hx hb dX12_isSame_47 (lv_at hl 0 rfl) ?_
      refine lv_iconst (v := 2) hx hb dX12_isSame_49 rfl ?_
      refine w_iald hx hb hK hL.hP (hL.ik.2.2.2.2.2.1.2 i hi) (i := 2) (vin (i := 2) (by omega) (by omega)) dX12_isSame_50 ?_
      rw [lc_2, hL.sr.owner hi]
      refine y_ia (k := n) hX hL (up_eq _ _ _) (j := 2) lc_2 (vin (i := 2) (by omega) (by omega)) dX12_isSame_51 fun v1 H1 locs1 hL => ?_
      rw [up_up] at hL
      refine lv_dup hx hb dX12_isSame_52 rfl ?_
      refine lv_iconst (v := 3) hx hb dX12_isSame_53 rfl ?_
      refine lv_aload hx hb dX12_isSame_54 (lv_at hl 0 rfl) ?_
      refine lv_iconst (v := 3) hx hb dX12_isSame_56 rfl ?_
      refine w_iald hx hb hK hL.hP (hL.ik.2.2.2.2.2.1.2 i hi) (i := 3) (vin (i := 3) (by omega) (by omega)) dX12_isSame_57 ?_
      rw [lc_3, hL.sr.guild hi]
      refine y_ia (k := n) hX hL (up_eq _ _ _) (j := 3) lc_3 (vin (i := 3) (by omega) (by omega)) dX12_isSame_58 fun v1 H1 locs1 hL => ?_
      rw [up_up] at hL
      refine lv_dup hx hb dX12_isSame_59 rfl ?_
      refine lv_iconst (v := 4) hx hb dX12_isSame_60 rfl ?_
      refine lv_aload hx hb dX12_isSame_61 (lv_at hl 0 rfl) ?_
      refine lv_iconst (v := 3) hx hb dX12_isSame_63 rfl ?_
      refine w_iald hx hb hK hL.hP (hL.ik.2.2.2.2.2.1.2 i hi) (i := 3) (vin (i := 3) (by omega) (by omega)) dX12_isSame_64 ?_
      rw [lc_3, hL.sr.guild hi]
      refine lv_if_ge (tgt := 72) hx hb dX12_isSame_65 rfl (fun q => absurd hg (hge.mp q)) (fun _ => ?_)
      refine lv_iconst (v := 0) hx hb dX12_isSame_68 rfl ?_
      refine lv_goto (tgt := 76) hx hb dX12_isSame_69 rfl ?_
      refine y_ia (k := n) hX hL (up_eq _ _ _) (j := 4) lc_4 (vin (i := 4) (by omega) (by omega)) dX12_isSame_76 fun v1 H1 locs1 hL => ?_
      rw [up_up] at hL
      refine lv_dup hx hb dX12_isSame_77 rfl ?_
      refine lv_iconst (v := 5) hx hb dX12_isSame_78 rfl ?_
      refine lv_aload_n hx hb dX12_isSame_79 rfl (lv_at hl 4 rfl) ?_
      refine lv_aload hx hb dX12_isSame_80 (lv_at hl 0 rfl) ?_
      refine y_s0 hX hL (c_Sim_age hL.ik (hL.ik.2.2.2.2.2.1.2 i hi) (sim_age hL.sr hG hG4 hi)) kX12_age mX12_53 rfl rfl rfl hl.1 (Nat.le_of_ble_eq_true rfl) ⟨by omega, by omega⟩ ⟨by omega, by omega⟩ dX12_isSame_82 fun H1 locs1 hL => ?_
      refine y_ia (k := n) hX hL (up_eq _ _ _) (j := 5) lc_5 (vin (i := 5) (by omega) (by omega)) dX12_isSame_85 fun v1 H1 locs1 hL => ?_
      rw [up_up] at hL
      refine lv_dup hx hb dX12_isSame_86 rfl ?_
      refine lv_bipush (v := 6) hx hb dX12_isSame_87 rfl ?_
      refine lv_aload hx hb dX12_isSame_89 (lv_at hl 0 rfl) ?_
      refine lv_iconst (v := 3) hx hb dX12_isSame_91 rfl ?_
      refine w_iald hx hb hK hL.hP (hL.ik.2.2.2.2.2.1.2 i hi) (i := 3) (vin (i := 3) (by omega) (by omega)) dX12_isSame_92 ?_
      rw [lc_3, hL.sr.guild hi]
      refine lv_if_lt (tgt := 110) hx hb dX12_isSame_93 rfl (fun _ => ?_) (fun q => absurd (by rw [hg]; decide) q)
      refine lv_iconst (v := 0) hx hb dX12_isSame_110 rfl ?_
      refine y_ia (k := n) hX hL (up_eq _ _ _) (j := 6) lc_6 (vin (i := 6) (by omega) (by omega)) dX12_isSame_111 fun v1 H1 locs1 hL => ?_
      rw [up_up] at hL
      refine lv_astore (lv' := [(5, .ref (Γ.2.1 + n)), (4, .ref (Γ.2.1 + (pB 4 i))), (3, .int (nI i)), (2, .ref (Γ.2.1 + pb)), (1, .ref (b2 + 0)), (0, .ref (Γ.2.1 + ks))]) hx hb dX12_isSame_112 hl (by decide) rfl fun ls hl => ?_
      refine lv_iconst (v := 0) hx hb dX12_isSame_114 rfl ?_
      refine lv_istore (lv' := [(6, .int 0), (5, .ref (Γ.2.1 + n)), (4, .ref (Γ.2.1 + (pB 4 i))), (3, .int (nI i)), (2, .ref (Γ.2.1 + pb)), (1, .ref (b2 + 0)), (0, .ref (Γ.2.1 + ks))]) hx hb dX12_isSame_115 hl (by decide) rfl fun ls hl => ?_
      refine W.widen (k := c0 + 8 * i + 1) (n := s0 + 49 * i + 7) (by omega) (by omega) ?_
      refine is_lot hX hFR hi (up_eq _ _ _) (fun q hq => ?_) ⟨by omega, by omega⟩ (fun vb H1 locs1 ls hl hL => ?_) 7 0 rfl vb H1 locs1 ls hl hL
      · rcases (by omega : q = 0 ∨ q = 1 ∨ q = 2 ∨ q = 3 ∨ q = 4 ∨ q = 5 ∨ q = 6) with rfl | rfl | rfl | rfl | rfl | rfl | rfl
        · rfl
        · rfl
        · rfl
        · rfl
        · exact (if_pos hg).symm
        · rfl
        · exact (show (0 : Int32) = q_b (decide (u 176 i ≠ -1 ∧ u 173 0 - u 178 i ≤ 5)) by rw [decide_eq_false (fun h => h.1 hg)]; rfl)
      · refine lv_aload hx hb dX12_isSame_147 (lv_at hl 1 rfl) ?_
        refine lv_iconst (v := 3) hx hb dX12_isSame_149 rfl ?_
        refine w_iald hx hb hK hL.hP (hL.ik.2.2.2.2.2.1.2 i hi) (i := 3) (vin (i := 3) (by omega) (by omega)) dX12_isSame_150 ?_
        rw [lc_3, hL.sr.guild hi]
        refine lv_if_lt (tgt := 164) hx hb dX12_isSame_151 rfl (fun _ => ?_) (fun q => absurd (by rw [hg]; decide) q)
        refine lv_iinc (k := 2) (v := ((nI i) + 1)) (lv' := [(3, .int ((nI i) + 1)), (5, .ref (Γ.2.1 + n)), (4, .ref (Γ.2.1 + (pB 4 i))), (2, .ref (Γ.2.1 + pb)), (1, .ref (b2 + 0)), (0, .ref (Γ.2.1 + ks))]) hx hb dX12_isSame_164 hl rfl rfl (by decide) rfl fun ls hl => ?_
        refine lv_goto (tgt := 10) hx hb dX12_isSame_167 rfl ?_
        rw [ni_s] at hl
        refine W.widen (k := c0 + 8 * (i + 1)) (n := s0 + 49 * (i + 1)) (by omega) (by omega) ?_
        refine ih (i + 1) (by omega) _ _ _ _ _ _ _ _ g (lv_sub hl [0, 3, 4, 5] rfl) hL ((up_ne hne).trans hPb) (fun q hq => ?_)
        rw [hgb q hq]
        show _ = row_t _ i + (if u 176 i = nI q then 1 else 0)
        rw [if_neg (by rw [hg]; intro hh; rw [eq_comm, eq_m1 (by omega)] at hh; exact hh), Int32.add_zero]
    · have hm1 : ¬ u 176 i = -1 := by rw [hg, eq_m1 (by omega)]; exact id
      by_cases h5 : (5 : Int32) < (if u 176 i = -1 then 0 else u 173 0 - u 178 i)
      · refine lv_iload_n hx hb dX12_isSame_10 rfl (lv_at hl 0 rfl) ?_
        refine lv_aload_n hx hb dX12_isSame_11 rfl (lv_at hl 3 rfl) ?_
        refine w_gr hx hb hts hown hK hL.hP fX12_28 hL.ik.1 rfl dX12_isSame_12 ?_
        refine w_alenR hx hb hK hL.hP hL.ik.2.2.2.2.2.1.1 dX12_isSame_15 ?_
        rw [show pn_ S G M L O 4 = L from rfl]
        refine lv_icmp_ge (tgt := 170) hx hb dX12_isSame_16 rfl (fun q => absurd ((le_n (i := L) (j := i) (by omega) (by omega)).mp q) (by omega)) (fun _ => ?_)
        refine lv_aload_n hx hb dX12_isSame_19 rfl (lv_at hl 3 rfl) ?_
        refine w_gr hx hb hts hown hK hL.hP fX12_28 hL.ik.1 rfl dX12_isSame_20 ?_
        refine lv_iload_n hx hb dX12_isSame_23 rfl (lv_at hl 0 rfl) ?_
        refine z_aald hx hb hK hL.hP hL.ik.2.2.2.2.2.1.1 (i := nI i) (vin hi (show L ≤ 1000000 by omega)) dX12_isSame_24 ?_
        rw [nI_clamp (by omega)]
        refine lv_astore (lv' := [(4, .ref (Γ.2.1 + (pB 4 i))), (3, .int (nI i)), (2, .ref (Γ.2.1 + pb)), (1, .ref (b2 + 0)), (0, .ref (Γ.2.1 + ks))]) hx hb dX12_isSame_25 hl (by decide) rfl fun ls hl => ?_
        refine lv_bipush (v := 7) hx hb dX12_isSame_27 rfl ?_
        refine y_new (x := nI 7) (N := 7) hX hL (nI_pos (by omega)) (nI_clamp (by omega)) (by omega) (by omega) (by omega) dX12_isSame_29 fun H1 hL => ?_
        refine lv_dup hx hb dX12_isSame_31 rfl ?_
        refine lv_iconst (v := 0) hx hb dX12_isSame_32 rfl ?_
        refine lv_aload hx hb dX12_isSame_33 (lv_at hl 0 rfl) ?_
        refine lv_iconst (v := 0) hx hb dX12_isSame_35 rfl ?_
        refine w_iald hx hb hK hL.hP (hL.ik.2.2.2.2.2.1.2 i hi) (i := 0) (vin (i := 0) (by omega) (by omega)) dX12_isSame_36 ?_
        rw [lc_0, hL.sr.spice hi]
        refine y_ia (k := n) hX hL (up_eq _ _ _) (j := 0) lc_0 (vin (i := 0) (by omega) (by omega)) dX12_isSame_37 fun v1 H1 locs1 hL => ?_
        rw [up_up] at hL
        refine lv_dup hx hb dX12_isSame_38 rfl ?_
        refine lv_iconst (v := 1) hx hb dX12_isSame_39 rfl ?_
        refine lv_aload hx hb dX12_isSame_40 (lv_at hl 0 rfl) ?_
        refine lv_iconst (v := 1) hx hb dX12_isSame_42 rfl ?_
        refine w_iald hx hb hK hL.hP (hL.ik.2.2.2.2.2.1.2 i hi) (i := 1) (vin (i := 1) (by omega) (by omega)) dX12_isSame_43 ?_
        rw [lc_1, hL.sr.weight hi]
        refine y_ia (k := n) hX hL (up_eq _ _ _) (j := 1) lc_1 (vin (i := 1) (by omega) (by omega)) dX12_isSame_44 fun v1 H1 locs1 hL => ?_
        rw [up_up] at hL
        refine lv_dup hx hb dX12_isSame_45 rfl ?_
        refine lv_iconst (v := 2) hx hb dX12_isSame_46 rfl ?_
        refine lv_aload hx hb dX12_isSame_47 (lv_at hl 0 rfl) ?_
        refine lv_iconst (v := 2) hx hb dX12_isSame_49 rfl ?_
        refine w_iald hx hb hK hL.hP (hL.ik.2.2.2.2.2.1.2 i hi) (i := 2) (vin (i := 2) (by omega) (by omega)) dX12_isSame_50 ?_
        rw [lc_2, hL.sr.owner hi]
        refine y_ia (k := n) hX hL (up_eq _ _ _) (j := 2) lc_2 (vin (i := 2) (by omega) (by omega)) dX12_isSame_51 fun v1 H1 locs1 hL => ?_
        rw [up_up] at hL
        refine lv_dup hx hb dX12_isSame_52 rfl ?_
        refine lv_iconst (v := 3) hx hb dX12_isSame_53 rfl ?_
        refine lv_aload hx hb dX12_isSame_54 (lv_at hl 0 rfl) ?_
        refine lv_iconst (v := 3) hx hb dX12_isSame_56 rfl ?_
        refine w_iald hx hb hK hL.hP (hL.ik.2.2.2.2.2.1.2 i hi) (i := 3) (vin (i := 3) (by omega) (by omega)) dX12_isSame_57 ?_
        rw [lc_3, hL.sr.guild hi]
        refine y_ia (k := n) hX hL (up_eq _ _ _) (j := 3) lc_3 (vin (i := 3) (by omega) (by omega)) dX12_isSame_58 fun v1 H1 locs1 hL => ?_
        rw [up_up] at hL
        refine lv_dup hx hb dX12_isSame_59 rfl ?_
        refine lv_iconst (v := 4) hx hb dX12_isSame_60 rfl ?_
        refine lv_aload hx hb dX12_isSame_61 (lv_at hl 0 rfl) ?_
        refine lv_iconst (v := 3) hx hb dX12_isSame_63 rfl ?_
        refine w_iald hx hb hK hL.hP (hL.ik.2.2.2.2.2.1.2 i hi) (i := 3) (vin (i := 3) (by omega) (by omega)) dX12_isSame_64 ?_
        rw [lc_3, hL.sr.guild hi]
        refine lv_if_ge (tgt := 72) hx hb dX12_isSame_65 rfl (fun _ => ?_) (fun q => absurd (hge.mpr hm1) q)
        refine lv_aload hx hb dX12_isSame_72 (lv_at hl 0 rfl) ?_
        refine lv_iconst (v := 4) hx hb dX12_isSame_74 rfl ?_
        refine w_iald hx hb hK hL.hP (hL.ik.2.2.2.2.2.1.2 i hi) (i := 4) (vin (i := 4) (by omega) (by omega)) dX12_isSame_75 ?_
        rw [lc_4, hL.sr.chop hi]
        refine y_ia (k := n) hX hL (up_eq _ _ _) (j := 4) lc_4 (vin (i := 4) (by omega) (by omega)) dX12_isSame_76 fun v1 H1 locs1 hL => ?_
        rw [up_up] at hL
        refine lv_dup hx hb dX12_isSame_77 rfl ?_
        refine lv_iconst (v := 5) hx hb dX12_isSame_78 rfl ?_
        refine lv_aload_n hx hb dX12_isSame_79 rfl (lv_at hl 4 rfl) ?_
        refine lv_aload hx hb dX12_isSame_80 (lv_at hl 0 rfl) ?_
        refine y_s0 hX hL (c_Sim_age hL.ik (hL.ik.2.2.2.2.2.1.2 i hi) (sim_age hL.sr hG hG4 hi)) kX12_age mX12_53 rfl rfl rfl hl.1 (Nat.le_of_ble_eq_true rfl) ⟨by omega, by omega⟩ ⟨by omega, by omega⟩ dX12_isSame_82 fun H1 locs1 hL => ?_
        refine y_ia (k := n) hX hL (up_eq _ _ _) (j := 5) lc_5 (vin (i := 5) (by omega) (by omega)) dX12_isSame_85 fun v1 H1 locs1 hL => ?_
        rw [up_up] at hL
        refine lv_dup hx hb dX12_isSame_86 rfl ?_
        refine lv_bipush (v := 6) hx hb dX12_isSame_87 rfl ?_
        refine lv_aload hx hb dX12_isSame_89 (lv_at hl 0 rfl) ?_
        refine lv_iconst (v := 3) hx hb dX12_isSame_91 rfl ?_
        refine w_iald hx hb hK hL.hP (hL.ik.2.2.2.2.2.1.2 i hi) (i := 3) (vin (i := 3) (by omega) (by omega)) dX12_isSame_92 ?_
        rw [lc_3, hL.sr.guild hi]
        refine lv_if_lt (tgt := 110) hx hb dX12_isSame_93 rfl (fun q => absurd q (by rw [hg]; exact ni_0 (by omega))) (fun _ => ?_)
        refine lv_aload_n hx hb dX12_isSame_96 rfl (lv_at hl 4 rfl) ?_
        refine lv_aload hx hb dX12_isSame_97 (lv_at hl 0 rfl) ?_
        refine y_s0 hX hL (c_Sim_age hL.ik (hL.ik.2.2.2.2.2.1.2 i hi) (sim_age hL.sr hG hG4 hi)) kX12_age mX12_53 rfl rfl rfl hl.1 (Nat.le_of_ble_eq_true rfl) ⟨by omega, by omega⟩ ⟨by omega, by omega⟩ dX12_isSame_99 fun H1 locs1 hL => ?_
        refine lv_iconst (v := 5) hx hb dX12_isSame_102 rfl ?_
        refine lv_icmp_gt (tgt := 110) hx hb dX12_isSame_103 rfl (fun _ => ?_) (fun q => absurd h5 q)
        refine lv_iconst (v := 0) hx hb dX12_isSame_110 rfl ?_
        refine y_ia (k := n) hX hL (up_eq _ _ _) (j := 6) lc_6 (vin (i := 6) (by omega) (by omega)) dX12_isSame_111 fun v1 H1 locs1 hL => ?_
        rw [up_up] at hL
        refine lv_astore (lv' := [(5, .ref (Γ.2.1 + n)), (4, .ref (Γ.2.1 + (pB 4 i))), (3, .int (nI i)), (2, .ref (Γ.2.1 + pb)), (1, .ref (b2 + 0)), (0, .ref (Γ.2.1 + ks))]) hx hb dX12_isSame_112 hl (by decide) rfl fun ls hl => ?_
        refine lv_iconst (v := 0) hx hb dX12_isSame_114 rfl ?_
        refine lv_istore (lv' := [(6, .int 0), (5, .ref (Γ.2.1 + n)), (4, .ref (Γ.2.1 + (pB 4 i))), (3, .int (nI i)), (2, .ref (Γ.2.1 + pb)), (1, .ref (b2 + 0)), (0, .ref (Γ.2.1 + ks))]) hx hb dX12_isSame_115 hl (by decide) rfl fun ls hl => ?_
        refine W.widen (k := c0 + 8 * i + 1) (n := s0 + 49 * i + 7) (by omega) (by omega) ?_
        refine is_lot hX hFR hi (up_eq _ _ _) (fun q hq => ?_) ⟨by omega, by omega⟩ (fun vb H1 locs1 ls hl hL => ?_) 7 0 rfl vb H1 locs1 ls hl hL
        · rcases (by omega : q = 0 ∨ q = 1 ∨ q = 2 ∨ q = 3 ∨ q = 4 ∨ q = 5 ∨ q = 6) with rfl | rfl | rfl | rfl | rfl | rfl | rfl
          · rfl
          · rfl
          · rfl
          · rfl
          · exact (if_neg hm1).symm
          · rfl
          · exact (show (0 : Int32) = q_b (decide (u 176 i ≠ -1 ∧ u 173 0 - u 178 i ≤ 5)) by rw [if_neg hm1] at h5; rw [decide_eq_false (fun h => Int32.not_lt.mpr h.2 h5)]; rfl)
        · refine lv_aload hx hb dX12_isSame_147 (lv_at hl 1 rfl) ?_
          refine lv_iconst (v := 3) hx hb dX12_isSame_149 rfl ?_
          refine w_iald hx hb hK hL.hP (hL.ik.2.2.2.2.2.1.2 i hi) (i := 3) (vin (i := 3) (by omega) (by omega)) dX12_isSame_150 ?_
          rw [lc_3, hL.sr.guild hi]
          refine lv_if_lt (tgt := 164) hx hb dX12_isSame_151 rfl (fun q => absurd q (by rw [hg]; exact ni_0 (by omega))) (fun _ => ?_)
          refine lv_aload_n hx hb dX12_isSame_154 rfl (lv_at hl 3 rfl) ?_
          refine lv_aload hx hb dX12_isSame_155 (lv_at hl 1 rfl) ?_
          refine lv_iconst (v := 3) hx hb dX12_isSame_157 rfl ?_
          refine w_iald hx hb hK hL.hP (hL.ik.2.2.2.2.2.1.2 i hi) (i := 3) (vin (i := 3) (by omega) (by omega)) dX12_isSame_158 ?_
          rw [lc_3, hL.sr.guild hi]
          refine lv_dup2_11 hx hb dX12_isSame_159 rfl rfl ?_
          refine y_el (k := pb) hX hL ((up_ne hne).trans hPb) (j := mm) (by rw [hg]; exact ni_c (by omega)) (by rw [hg]; exact vin hmm (by omega)) rfl dX12_isSame_160 ?_
          refine lv_iconst (v := 1) hx hb dX12_isSame_161 rfl ?_
          refine lv_iadd hx hb dX12_isSame_162 ?_
          refine y_ia (k := pb) hX hL ((up_ne hne).trans hPb) (j := mm) (by rw [hg]; exact ni_c (by omega)) (by rw [hg]; exact vin hmm (by omega)) dX12_isSame_163 fun v1 H1 locs1 hL => ?_
          refine lv_iinc (k := 2) (v := ((nI i) + 1)) (lv' := [(3, .int ((nI i) + 1)), (5, .ref (Γ.2.1 + n)), (4, .ref (Γ.2.1 + (pB 4 i))), (2, .ref (Γ.2.1 + pb)), (1, .ref (b2 + 0)), (0, .ref (Γ.2.1 + ks))]) hx hb dX12_isSame_164 hl rfl rfl (by decide) rfl fun ls hl => ?_
          refine lv_goto (tgt := 10) hx hb dX12_isSame_167 rfl ?_
          rw [ni_s] at hl
          refine W.widen (k := c0 + 8 * (i + 1)) (n := s0 + 49 * (i + 1)) (by omega) (by omega) ?_
          refine ih (i + 1) (by omega) _ _ _ _ _ _ _ _ (upd g mm (g mm + 1)) (lv_sub hl [0, 3, 4, 5] rfl) hL (up_eq _ _ _) (fun q hq => ?_)
          show _ = row_t _ i + (if u 176 i = nI q then 1 else 0)
          rw [hg]
          by_cases h9 : q = mm
          · subst h9
            rw [upd_eq, if_pos rfl, hgb q hq]
          · rw [upd_ne h9, if_neg (by rw [eq_n (by omega) (by omega)]; exact fun h => h9 h.symm), hgb q hq, Int32.add_zero]
      · refine lv_iload_n hx hb dX12_isSame_10 rfl (lv_at hl 0 rfl) ?_
        refine lv_aload_n hx hb dX12_isSame_11 rfl (lv_at hl 3 rfl) ?_
        refine w_gr hx hb hts hown hK hL.hP fX12_28 hL.ik.1 rfl dX12_isSame_12 ?_
        refine w_alenR hx hb hK hL.hP hL.ik.2.2.2.2.2.1.1 dX12_isSame_15 ?_
        rw [show pn_ S G M L O 4 = L from rfl]
        refine lv_icmp_ge (tgt := 170) hx hb dX12_isSame_16 rfl (fun q => absurd ((le_n (i := L) (j := i) (by omega) (by omega)).mp q) (by omega)) (fun _ => ?_)
        refine lv_aload_n hx hb dX12_isSame_19 rfl (lv_at hl 3 rfl) ?_
        refine w_gr hx hb hts hown hK hL.hP fX12_28 hL.ik.1 rfl dX12_isSame_20 ?_
        refine lv_iload_n hx hb dX12_isSame_23 rfl (lv_at hl 0 rfl) ?_
        refine z_aald hx hb hK hL.hP hL.ik.2.2.2.2.2.1.1 (i := nI i) (vin hi (show L ≤ 1000000 by omega)) dX12_isSame_24 ?_
        rw [nI_clamp (by omega)]
        refine lv_astore (lv' := [(4, .ref (Γ.2.1 + (pB 4 i))), (3, .int (nI i)), (2, .ref (Γ.2.1 + pb)), (1, .ref (b2 + 0)), (0, .ref (Γ.2.1 + ks))]) hx hb dX12_isSame_25 hl (by decide) rfl fun ls hl => ?_
        refine lv_bipush (v := 7) hx hb dX12_isSame_27 rfl ?_
        refine y_new (x := nI 7) (N := 7) hX hL (nI_pos (by omega)) (nI_clamp (by omega)) (by omega) (by omega) (by omega) dX12_isSame_29 fun H1 hL => ?_
        refine lv_dup hx hb dX12_isSame_31 rfl ?_
        refine lv_iconst (v := 0) hx hb dX12_isSame_32 rfl ?_
        refine lv_aload hx hb dX12_isSame_33 (lv_at hl 0 rfl) ?_
        refine lv_iconst (v := 0) hx hb dX12_isSame_35 rfl ?_
        refine w_iald hx hb hK hL.hP (hL.ik.2.2.2.2.2.1.2 i hi) (i := 0) (vin (i := 0) (by omega) (by omega)) dX12_isSame_36 ?_
        rw [lc_0, hL.sr.spice hi]
        refine y_ia (k := n) hX hL (up_eq _ _ _) (j := 0) lc_0 (vin (i := 0) (by omega) (by omega)) dX12_isSame_37 fun v1 H1 locs1 hL => ?_
        rw [up_up] at hL
        refine lv_dup hx hb dX12_isSame_38 rfl ?_
        refine lv_iconst (v := 1) hx hb dX12_isSame_39 rfl ?_
        refine lv_aload hx hb dX12_isSame_40 (lv_at hl 0 rfl) ?_
        refine lv_iconst (v := 1) hx hb dX12_isSame_42 rfl ?_
        refine w_iald hx hb hK hL.hP (hL.ik.2.2.2.2.2.1.2 i hi) (i := 1) (vin (i := 1) (by omega) (by omega)) dX12_isSame_43 ?_
        rw [lc_1, hL.sr.weight hi]
        refine y_ia (k := n) hX hL (up_eq _ _ _) (j := 1) lc_1 (vin (i := 1) (by omega) (by omega)) dX12_isSame_44 fun v1 H1 locs1 hL => ?_
        rw [up_up] at hL
        refine lv_dup hx hb dX12_isSame_45 rfl ?_
        refine lv_iconst (v := 2) hx hb dX12_isSame_46 rfl ?_
        refine lv_aload hx hb dX12_isSame_47 (lv_at hl 0 rfl) ?_
        refine lv_iconst (v := 2) hx hb dX12_isSame_49 rfl ?_
        refine w_iald hx hb hK hL.hP (hL.ik.2.2.2.2.2.1.2 i hi) (i := 2) (vin (i := 2) (by omega) (by omega)) dX12_isSame_50 ?_
        rw [lc_2, hL.sr.owner hi]
        refine y_ia (k := n) hX hL (up_eq _ _ _) (j := 2) lc_2 (vin (i := 2) (by omega) (by omega)) dX12_isSame_51 fun v1 H1 locs1 hL => ?_
        rw [up_up] at hL
        refine lv_dup hx hb dX12_isSame_52 rfl ?_
        refine lv_iconst (v := 3) hx hb dX12_isSame_53 rfl ?_
        refine lv_aload hx hb dX12_isSame_54 (lv_at hl 0 rfl) ?_
        refine lv_iconst (v := 3) hx hb dX12_isSame_56 rfl ?_
        refine w_iald hx hb hK hL.hP (hL.ik.2.2.2.2.2.1.2 i hi) (i := 3) (vin (i := 3) (by omega) (by omega)) dX12_isSame_57 ?_
        rw [lc_3, hL.sr.guild hi]
        refine y_ia (k := n) hX hL (up_eq _ _ _) (j := 3) lc_3 (vin (i := 3) (by omega) (by omega)) dX12_isSame_58 fun v1 H1 locs1 hL => ?_
        rw [up_up] at hL
        refine lv_dup hx hb dX12_isSame_59 rfl ?_
        refine lv_iconst (v := 4) hx hb dX12_isSame_60 rfl ?_
        refine lv_aload hx hb dX12_isSame_61 (lv_at hl 0 rfl) ?_
        refine lv_iconst (v := 3) hx hb dX12_isSame_63 rfl ?_
        refine w_iald hx hb hK hL.hP (hL.ik.2.2.2.2.2.1.2 i hi) (i := 3) (vin (i := 3) (by omega) (by omega)) dX12_isSame_64 ?_
        rw [lc_3, hL.sr.guild hi]
        refine lv_if_ge (tgt := 72) hx hb dX12_isSame_65 rfl (fun _ => ?_) (fun q => absurd (hge.mpr hm1) q)
        refine lv_aload hx hb dX12_isSame_72 (lv_at hl 0 rfl) ?_
        refine lv_iconst (v := 4) hx hb dX12_isSame_74 rfl ?_
        refine w_iald hx hb hK hL.hP (hL.ik.2.2.2.2.2.1.2 i hi) (i := 4) (vin (i := 4) (by omega) (by omega)) dX12_isSame_75 ?_
        rw [lc_4, hL.sr.chop hi]
        refine y_ia (k := n) hX hL (up_eq _ _ _) (j := 4) lc_4 (vin (i := 4) (by omega) (by omega)) dX12_isSame_76 fun v1 H1 locs1 hL => ?_
        rw [up_up] at hL
        refine lv_dup hx hb dX12_isSame_77 rfl ?_
        refine lv_iconst (v := 5) hx hb dX12_isSame_78 rfl ?_
        refine lv_aload_n hx hb dX12_isSame_79 rfl (lv_at hl 4 rfl) ?_
        refine lv_aload hx hb dX12_isSame_80 (lv_at hl 0 rfl) ?_
        refine y_s0 hX hL (c_Sim_age hL.ik (hL.ik.2.2.2.2.2.1.2 i hi) (sim_age hL.sr hG hG4 hi)) kX12_age mX12_53 rfl rfl rfl hl.1 (Nat.le_of_ble_eq_true rfl) ⟨by omega, by omega⟩ ⟨by omega, by omega⟩ dX12_isSame_82 fun H1 locs1 hL => ?_
        refine y_ia (k := n) hX hL (up_eq _ _ _) (j := 5) lc_5 (vin (i := 5) (by omega) (by omega)) dX12_isSame_85 fun v1 H1 locs1 hL => ?_
        rw [up_up] at hL
        refine lv_dup hx hb dX12_isSame_86 rfl ?_
        refine lv_bipush (v := 6) hx hb dX12_isSame_87 rfl ?_
        refine lv_aload hx hb dX12_isSame_89 (lv_at hl 0 rfl) ?_
        refine lv_iconst (v := 3) hx hb dX12_isSame_91 rfl ?_
        refine w_iald hx hb hK hL.hP (hL.ik.2.2.2.2.2.1.2 i hi) (i := 3) (vin (i := 3) (by omega) (by omega)) dX12_isSame_92 ?_
        rw [lc_3, hL.sr.guild hi]
        refine lv_if_lt (tgt := 110) hx hb dX12_isSame_93 rfl (fun q => absurd q (by rw [hg]; exact ni_0 (by omega))) (fun _ => ?_)
        refine lv_aload_n hx hb dX12_isSame_96 rfl (lv_at hl 4 rfl) ?_
        refine lv_aload hx hb dX12_isSame_97 (lv_at hl 0 rfl) ?_
        refine y_s0 hX hL (c_Sim_age hL.ik (hL.ik.2.2.2.2.2.1.2 i hi) (sim_age hL.sr hG hG4 hi)) kX12_age mX12_53 rfl rfl rfl hl.1 (Nat.le_of_ble_eq_true rfl) ⟨by omega, by omega⟩ ⟨by omega, by omega⟩ dX12_isSame_99 fun H1 locs1 hL => ?_
        refine lv_iconst (v := 5) hx hb dX12_isSame_102 rfl ?_
        refine lv_icmp_gt (tgt := 110) hx hb dX12_isSame_103 rfl (fun q => absurd q h5) (fun _ => ?_)
        refine lv_iconst (v := 1) hx hb dX12_isSame_106 rfl ?_
        refine lv_goto (tgt := 111) hx hb dX12_isSame_107 rfl ?_
        refine y_ia (k := n) hX hL (up_eq _ _ _) (j := 6) lc_6 (vin (i := 6) (by omega) (by omega)) dX12_isSame_111 fun v1 H1 locs1 hL => ?_
        rw [up_up] at hL
        refine lv_astore (lv' := [(5, .ref (Γ.2.1 + n)), (4, .ref (Γ.2.1 + (pB 4 i))), (3, .int (nI i)), (2, .ref (Γ.2.1 + pb)), (1, .ref (b2 + 0)), (0, .ref (Γ.2.1 + ks))]) hx hb dX12_isSame_112 hl (by decide) rfl fun ls hl => ?_
        refine lv_iconst (v := 0) hx hb dX12_isSame_114 rfl ?_
        refine lv_istore (lv' := [(6, .int 0), (5, .ref (Γ.2.1 + n)), (4, .ref (Γ.2.1 + (pB 4 i))), (3, .int (nI i)), (2, .ref (Γ.2.1 + pb)), (1, .ref (b2 + 0)), (0, .ref (Γ.2.1 + ks))]) hx hb dX12_isSame_115 hl (by decide) rfl fun ls hl => ?_
        refine W.widen (k := c0 + 8 * i + 1) (n := s0 + 49 * i + 7) (by omega) (by omega) ?_
        refine is_lot hX hFR hi (up_eq _ _ _) (fun q hq => ?_) ⟨by omega, by omega⟩ (fun vb H1 locs1 ls hl hL => ?_) 7 0 rfl vb H1 locs1 ls hl hL
        · rcases (by omega : q = 0 ∨ q = 1 ∨ q = 2 ∨ q = 3 ∨ q = 4 ∨ q = 5 ∨ q = 6) with rfl | rfl | rfl | rfl | rfl | rfl | rfl
          · rfl
          · rfl
          · rfl
          · rfl
          · exact (if_neg hm1).symm
          · rfl
          · exact (show (1 : Int32) = q_b (decide (u 176 i ≠ -1 ∧ u 173 0 - u 178 i ≤ 5)) by rw [if_neg hm1] at h5; rw [decide_eq_true ⟨hm1, Int32.not_lt.mp h5⟩]; rfl)
        · refine lv_aload hx hb dX12_isSame_147 (lv_at hl 1 rfl) ?_
          refine lv_iconst (v := 3) hx hb dX12_isSame_149 rfl ?_
          refine w_iald hx hb hK hL.hP (hL.ik.2.2.2.2.2.1.2 i hi) (i := 3) (vin (i := 3) (by omega) (by omega)) dX12_isSame_150 ?_
          rw [lc_3, hL.sr.guild hi]
          refine lv_if_lt (tgt := 164) hx hb dX12_isSame_151 rfl (fun q => absurd q (by rw [hg]; exact ni_0 (by omega))) (fun _ => ?_)
          refine lv_aload_n hx hb dX12_isSame_154 rfl (lv_at hl 3 rfl) ?_
          refine lv_aload hx hb dX12_isSame_155 (lv_at hl 1 rfl) ?_
          refine lv_iconst (v := 3) hx hb dX12_isSame_157 rfl ?_
          refine w_iald hx hb hK hL.hP (hL.ik.2.2.2.2.2.1.2 i hi) (i := 3) (vin (i := 3) (by omega) (by omega)) dX12_isSame_158 ?_
          rw [lc_3, hL.sr.guild hi]
          refine lv_dup2_11 hx hb dX12_isSame_159 rfl rfl ?_
          refine y_el (k := pb) hX hL ((up_ne hne).trans hPb) (j := mm) (by rw [hg]; exact ni_c (by omega)) (by rw [hg]; exact vin hmm (by omega)) rfl dX12_isSame_160 ?_
          refine lv_iconst (v := 1) hx hb dX12_isSame_161 rfl ?_
          refine lv_iadd hx hb dX12_isSame_162 ?_
          refine y_ia (k := pb) hX hL ((up_ne hne).trans hPb) (j := mm) (by rw [hg]; exact ni_c (by omega)) (by rw [hg]; exact vin hmm (by omega)) dX12_isSame_163 fun v1 H1 locs1 hL => ?_
          refine lv_iinc (k := 2) (v := ((nI i) + 1)) (lv' := [(3, .int ((nI i) + 1)), (5, .ref (Γ.2.1 + n)), (4, .ref (Γ.2.1 + (pB 4 i))), (2, .ref (Γ.2.1 + pb)), (1, .ref (b2 + 0)), (0, .ref (Γ.2.1 + ks))]) hx hb dX12_isSame_164 hl rfl rfl (by decide) rfl fun ls hl => ?_
          refine lv_goto (tgt := 10) hx hb dX12_isSame_167 rfl ?_
          rw [ni_s] at hl
          refine W.widen (k := c0 + 8 * (i + 1)) (n := s0 + 49 * (i + 1)) (by omega) (by omega) ?_
          refine ih (i + 1) (by omega) _ _ _ _ _ _ _ _ (upd g mm (g mm + 1)) (lv_sub hl [0, 3, 4, 5] rfl) hL (up_eq _ _ _) (fun q hq => ?_)
          show _ = row_t _ i + (if u 176 i = nI q then 1 else 0)
          rw [hg]
          by_cases h9 : q = mm
          · subst h9
            rw [upd_eq, if_pos rfl, hgb q hq]
          · rw [upd_ne h9, if_neg (by rw [eq_n (by omega) (by omega)]; exact fun h => h9 h.symm), hgb q hq, Int32.add_zero]
end IA
