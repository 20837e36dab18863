/-! LIST, five: orders -/
section LX
variable {p : Program} {l : Launch} {e : Env} {R : Room} {s : State} {m : MethodId} {args : Array Value} {below : List Frame} {meth : Method} {c : Code} {H H0 : Heap} {locs : List Loc} {cells slots : Nat} {Q : State → Prop}
variable {cc : ByteArray} {pc nL : Nat} {ls : Array Slot} {st0 rest As Bs : List Value} {Γ : Cx} {sh sh0 shb : Sh} {v v0 v1 : Va} {w : Vl} {own : String} {idx ci j k n n0 nb nn hh mL mc ms a d1 d2 : Nat} {cs : List Nat} {y : MethodName} {b : ByteArray} {ret : Option FieldType} {A : Nat → Prop}
variable {kt p0 C N b0 L0 ks pl nl pg ng pm nm pt nt po no : Nat} {T : List Int32} {P P0 : Pfn} {xs : Nat → Int32}
theorem li_5 (hM : MC Γ p s m args c cL_list 11 d1 d2 sh0 n0) (hER : ER Γ) (hB : SCR Γ sh0 b0 L0 xs) (hkt : kt < n0) (hp0 : p0 < n0) (hn0 : n0 + C + 2000 ≤ 900000) (hno : no ≤ 7) (hN : N ≤ 1000) (hR8 : 8 ≤ R.frames ∧ 310 ≤ R.locals) (hcell : cells + 1200 ≤ R.cells) (hslot : slots + 2100000 ≤ R.slots) {g gg gz gt : Nat → Int32} {fz ft : Nat → Option Nat} (hc3 : cs[3]? = some (pg + 3)) (hc6 : cs[6]? = some (pt + 3)) (hc7 : cs[7]? = some (po + 3)) (hne : ks ≠ po) (hng : 1 ≤ ng ∧ ng ≤ 3) (hnm : 1 ≤ nm ∧ nm ≤ 5) (hnt : 1 ≤ nt ∧ nt ≤ 5) (hpg0 : P0 pg = some (sR ng fz, gz)) (hpgo : pg ≠ po) (hpt0 : P0 pt = some (sR nt ft, gt)) (hpto : pt ≠ po)
    (kk : ∀ (P : Pfn) (b : Nat → Nat) (sh1 : Sh) (v1 : Va) (n1 : Nat) (H1 : Heap) (locs1 : List Loc) (ls : Array Slot), P ks = some (sO 11 cs, g) → P po = some (sR no (rfs no b), gg) → RWS P0 P po no 12 (orG ng nm nt L0 xs) b → OLD P0 P po → lv_has ls 11 [(3, .int (nI nm)), (0, .ref b0), (1, .ref (Γ.2.1 + kt)), (2, .ref (Γ.2.1 + ks))] → LST Γ s sh0 v0 n0 w kt p0 (C + 134 * no) (orT ng nm nt T L0 xs no) (N + 135 * no) P sh1 v1 n1 H1 locs1 → W p l e R s m args below meth c H1 locs1 (cells + 134 * no) (slots + 260000 * no) Q (F0 m 1084 ls [])) :
    ∀ (j i : Nat), i + j = no → ∀ (P : Pfn) (b : Nat → Nat) (sh1 : Sh) (v1 : Va) (n1 : Nat) (H1 : Heap) (locs1 : List Loc) (ls : Array Slot), P ks = some (sO 11 cs, g) → P po = some (sR no (rfs i b), gg) → RWS P0 P po i 12 (orG ng nm nt L0 xs) b → OLD P0 P po → lv_has ls 11 [(4, .int (nI i)), (3, .int (nI nm)), (0, .ref b0), (1, .ref (Γ.2.1 + kt)), (2, .ref (Γ.2.1 + ks))] → LST Γ s sh0 v0 n0 w kt p0 (C + 134 * i) (orT ng nm nt T L0 xs i) (N + 135 * i) P sh1 v1 n1 H1 locs1 → W p l e R s m args below meth c H1 locs1 (cells + 134 * i) (slots + 260000 * i) Q (F0 m 629 ls []) := by
  obtain ⟨hx, hb, hml, hts, hown, hK, hE, hd, hC, hEL⟩ := id hM
  have hR6 : 6 ≤ R.frames ∧ 230 ≤ R.locals := ⟨by omega, by omega⟩
  have hR1 : 1 ≤ R.frames ∧ 21 ≤ R.locals := ⟨by omega, by omega⟩
  have hR3 : 3 ≤ R.frames ∧ 100 ≤ R.locals := ⟨by omega, by omega⟩
  intro j
  induction j with
  | zero =>
    intro i hij P b sh1 v1 n1 H1 locs1 ls hks hpo hrw hold hl hL
    have hi : i = no := by omega
    subst hi
    refine lv_iload hx hb dL_list_629 (lv_at hl 0 rfl) ?_
    refine lv_aload_n hx hb dL_list_631 rfl (lv_at hl 4 rfl) ?_
    refine l_get hM hL hks fL_174 hc7 dL_list_632 ?_
    refine l_lenR hM hL hpo dL_list_635 ?_
    refine lv_icmp_ge (tgt := 1084) hx hb dL_list_636 rfl (fun hc33 => ?_) (fun hc33 => absurd ((ni_le (by omega) (by omega)).mpr (Nat.le_refl _)) hc33)
    exact kk _ _ _ _ _ _ _ _ hks hpo hrw hold (lv_sub hl [1, 2, 3, 4] rfl) hL
  | succ j ih =>
    intro i hij P b sh1 v1 n1 H1 locs1 ls hks hpo hrw hold hl hL
    have hlt : i < no := by omega
    have hpg : P pg = some (sR ng fz, gz) := hold _ _ hpg0 hpgo
    have hpt : P pt = some (sR nt ft, gt) := hold _ _ hpt0 hpto
    have hle := or_le (L0 := L0) (xs := xs) (i := i) hng hnm hnt
    obtain ⟨ho1, ho2, ho3, ho4, ho5, ho6, ho7, ho8, ho9, ho10, ho11, ho12, ho13⟩ := hle
    have hf0 : cells + 134 * i ≤ R.cells ∧ slots + 260000 * i ≤ R.slots := ⟨by omega, by omega⟩
    refine lv_iload hx hb dL_list_629 (lv_at hl 0 rfl) ?_
    refine lv_aload_n hx hb dL_list_631 rfl (lv_at hl 4 rfl) ?_
    refine l_get hM hL hks fL_174 hc7 dL_list_632 ?_
    refine l_lenR hM hL hpo dL_list_635 ?_
    refine lv_icmp_ge (tgt := 1084) hx hb dL_list_636 rfl (fun hc33 => absurd ((ni_le (by omega) (by omega)).mp hc33) (by omega)) (fun hc33 => ?_)
    refine lv_aload_n hx hb dL_list_639 rfl (lv_at hl 2 rfl) ?_
    refine lv_bipush (v := 7) hx hb dL_list_640 rfl ?_
    refine lv_iload hx hb dL_list_642 (lv_at hl 0 rfl) ?_
    refine lv_iconst (v := 4) hx hb dL_list_644 rfl ?_
    refine lv_irem hx hb dL_list_645 (by decide) ?_
    refine t_top (x' := nI (i % 4)) (nn_rem (a := i) (b := 4) (by omega) (by omega)) ?_
    refine lv_iadd hx hb dL_list_646 ?_
    refine t_top (x' := nI (7 + i % 4)) (nI_add 7 _) ?_
    refine l_cell (q := (7 + i % 4)) hM hL hl.1 hB (by omega) hR1 (Nat.le_of_ble_eq_true rfl) hf0 dL_list_647 fun H1 locs1 hL => ?_
    refine lv_iload hx hb dL_list_650 (lv_at hl 0 rfl) ?_
    refine lv_iconst (v := 4) hx hb dL_list_652 rfl ?_
    refine lv_idiv hx hb dL_list_653 (by decide) ?_
    refine t_top (x' := nI (i / 4)) (nn_div (a := i) (b := 4) (by omega) (by omega)) ?_
    refine lv_bipush (v := 9) hx hb dL_list_654 rfl ?_
    refine lv_imul hx hb dL_list_656 ?_
    refine t_top (x' := nI (i / 4 * 9)) (Int32.ofNat_mul _ 9).symm ?_
    refine lv_ishr hx hb dL_list_657 ?_
    rw [show cel L0 xs (7 + i % 4) >>> (nI (i / 4 * 9) &&& 31) = (orX L0 xs i) from rfl]
    refine lv_istore (lv' := [(5, .int (orX L0 xs i)), (4, .int (nI i)), (3, .int (nI nm)), (0, .ref b0), (1, .ref (Γ.2.1 + kt)), (2, .ref (Γ.2.1 + ks))]) hx hb dL_list_658 hl (by decide) rfl fun ls hl => ?_
    refine lv_aload_n hx hb dL_list_660 rfl (lv_at hl 3 rfl) ?_
    refine lv_bipush (v := 11) hx hb dL_list_661 rfl ?_
    refine lv_iload hx hb dL_list_663 (lv_at hl 1 rfl) ?_
    refine lv_iconst (v := 4) hx hb dL_list_665 rfl ?_
    refine lv_irem hx hb dL_list_666 (by decide) ?_
    refine t_top (x' := nI (i % 4)) (nn_rem (a := i) (b := 4) (by omega) (by omega)) ?_
    refine lv_iadd hx hb dL_list_667 ?_
    refine t_top (x' := nI (11 + i % 4)) (nI_add 11 _) ?_
    refine l_cell (q := (11 + i % 4)) hM hL hl.1 hB (by omega) hR1 (Nat.le_of_ble_eq_true rfl) hf0 dL_list_668 fun H1 locs1 hL => ?_
    refine lv_iload hx hb dL_list_671 (lv_at hl 1 rfl) ?_
    refine lv_iconst (v := 4) hx hb dL_list_673 rfl ?_
    refine lv_idiv hx hb dL_list_674 (by decide) ?_
    refine t_top (x' := nI (i / 4)) (nn_div (a := i) (b := 4) (by omega) (by omega)) ?_
    refine lv_bipush (v := 9) hx hb dL_list_675 rfl ?_
    refine lv_imul hx hb dL_list_677 ?_
    refine t_top (x' := nI (i / 4 * 9)) (Int32.ofNat_mul _ 9).symm ?_
    refine lv_ishr hx hb dL_list_678 ?_
    rw [show cel L0 xs (11 + i % 4) >>> (nI (i / 4 * 9) &&& 31) = (orY L0 xs i) from rfl]
    refine lv_istore (lv' := [(6, .int (orY L0 xs i)), (5, .int (orX L0 xs i)), (4, .int (nI i)), (3, .int (nI nm)), (0, .ref b0), (1, .ref (Γ.2.1 + kt)), (2, .ref (Γ.2.1 + ks))]) hx hb dL_list_679 hl (by decide) rfl fun ls hl => ?_
    refine lv_iload hx hb dL_list_681 (lv_at hl 2 rfl) ?_
    refine lv_iconst (v := 2) hx hb dL_list_683 rfl ?_
    suffices J9 : ∀ (H1 : Heap) (locs1 : List Loc), LST Γ s sh0 v0 n0 w kt p0 (C + 134 * i) (orT ng nm nt T L0 xs i) (N + 135 * i) P sh1 v1 n1 H1 locs1 → W p l e R s m args below meth c H1 locs1 (cells + 134 * i) (slots + 260000 * i) Q (F0 m 700 ls (.int (nI (orS L0 xs i)) :: [])) by
      refine lv_icmp_ge (tgt := 692) hx hb dL_list_684 rfl (fun hc9 => ?_) (fun hc9 => ?_)
      · have h9 : ¬ i < 2 := fun h => by have := (ni_le (i := 2) (j := i) (by omega) (by omega)).mp hc9; omega
        refine lv_iload hx hb dL_list_692 (lv_at hl 1 rfl) ?_
        refine lv_iconst (v := 4) hx hb dL_list_694 rfl ?_
        refine l_below (b9 := 4) hM hL hl.1 (by omega) (by omega) hR1 (Nat.le_of_ble_eq_true rfl) hf0 dL_list_695 fun H1 locs1 hL => ?_
        refine lv_iconst (v := 3) hx hb dL_list_698 rfl ?_
        refine lv_irem hx hb dL_list_699 (by decide) ?_
        rw [show nI (bel (orX L0 xs i) 4) - nI (bel (orX L0 xs i) 4) / 3 * 3 = nI (orS L0 xs i) from (nn_rem (b := 3) (by have := bel_lt (x := (orX L0 xs i)) (n := 4) (by decide); omega) (by omega)).trans (congrArg nI (if_neg h9).symm)]
        exact J9 H1 locs1 hL
      · have h9 : i < 2 := by
          by_cases h : i < 2
          · exact h
          · exact absurd ((ni_le (i := 2) (j := i) (by omega) (by omega)).mpr (by omega)) hc9
        refine lv_iload hx hb dL_list_687 (lv_at hl 2 rfl) ?_
        refine lv_goto (tgt := 700) hx hb dL_list_689 rfl ?_
        rw [show nI i = nI (orS L0 xs i) from congrArg nI (if_pos h9).symm]
        exact J9 H1 locs1 hL
    intro H1 locs1 hL
    refine lv_istore (lv' := [(7, .int (nI (orS L0 xs i))), (6, .int (orY L0 xs i)), (5, .int (orX L0 xs i)), (4, .int (nI i)), (3, .int (nI nm)), (0, .ref b0), (1, .ref (Γ.2.1 + kt)), (2, .ref (Γ.2.1 + ks))]) hx hb dL_list_700 hl (by decide) rfl fun ls hl => ?_
    refine lv_iload hx hb dL_list_702 (lv_at hl 0 rfl) ?_
    refine lv_iconst (v := 2) hx hb dL_list_704 rfl ?_
    suffices J9 : ∀ (H1 : Heap) (locs1 : List Loc), LST Γ s sh0 v0 n0 w kt p0 (C + 134 * i) (orT ng nm nt T L0 xs i) (N + 135 * i) P sh1 v1 n1 H1 locs1 → W p l e R s m args below meth c H1 locs1 (cells + 134 * i) (slots + 260000 * i) Q (F0 m 731 ls (.int (nI (orO nm nt L0 xs i)) :: [])) by
      refine lv_icmp_ne (tgt := 719) hx hb dL_list_705 rfl (fun hc9 => ?_) (fun hc9 => ?_)
      · have h9 : bel ((orX L0 xs i) >>> (2 &&& 31)) nt = orO nm nt L0 xs i := by unfold orO; rw [if_neg (fun h => hc9 (by rw [h]; rfl))]
        refine lv_iload hx hb dL_list_719 (lv_at hl 2 rfl) ?_
        refine lv_iconst (v := 2) hx hb dL_list_721 rfl ?_
        refine lv_ishr hx hb dL_list_722 ?_
        refine lv_aload_n hx hb dL_list_723 rfl (lv_at hl 7 rfl) ?_
        refine l_get hM hL hks fL_163 hc6 dL_list_724 ?_
        refine l_lenR hM hL hpt dL_list_727 ?_
        refine l_below (b9 := nt) hM hL hl.1 (by omega) (by omega) hR1 (Nat.le_of_ble_eq_true rfl) hf0 dL_list_728 fun H1 locs1 hL => ?_
        rw [h9]
        exact J9 H1 locs1 hL
      · have h9 : bel ((orX L0 xs i) >>> (2 &&& 31)) nm = orO nm nt L0 xs i := by unfold orO; rw [if_pos ((nI_eq (a := (orS L0 xs i)) (b := 2) (by omega) (by omega)).mp (Decidable.not_not.mp (fun h => h (hc9))))]
        refine lv_iload hx hb dL_list_708 (lv_at hl 2 rfl) ?_
        refine lv_iconst (v := 2) hx hb dL_list_710 rfl ?_
        refine lv_ishr hx hb dL_list_711 ?_
        refine lv_iload_n hx hb dL_list_712 rfl (lv_at hl 4 rfl) ?_
        refine l_below (b9 := nm) hM hL hl.1 (by omega) (by omega) hR1 (Nat.le_of_ble_eq_true rfl) hf0 dL_list_713 fun H1 locs1 hL => ?_
        rw [h9]
        exact lv_goto (tgt := 731) hx hb dL_list_716 rfl (J9 H1 locs1 hL)
    intro H1 locs1 hL
    refine lv_istore (lv' := [(8, .int (nI (orO nm nt L0 xs i))), (7, .int (nI (orS L0 xs i))), (6, .int (orY L0 xs i)), (5, .int (orX L0 xs i)), (4, .int (nI i)), (3, .int (nI nm)), (0, .ref b0), (1, .ref (Γ.2.1 + kt)), (2, .ref (Γ.2.1 + ks))]) hx hb dL_list_731 hl (by decide) rfl fun ls hl => ?_
    refine lv_iload hx hb dL_list_733 (lv_at hl 1 rfl) ?_
    suffices J9 : ∀ (H1 : Heap) (locs1 : List Loc), LST Γ s sh0 v0 n0 w kt p0 (C + 134 * i) (orT ng nm nt T L0 xs i) (N + 135 * i) P sh1 v1 n1 H1 locs1 → W p l e R s m args below meth c H1 locs1 (cells + 134 * i) (slots + 260000 * i) Q (F0 m 761 ls (.int (nI (orW ng nm L0 xs i)) :: [])) by
      refine lv_if_ne (tgt := 753) hx hb dL_list_735 rfl (fun hc9 => ?_) (fun hc9 => ?_)
      · have h9 : bel ((orX L0 xs i) >>> (4 &&& 31)) nm = orW ng nm L0 xs i := by unfold orW; rw [if_neg (fun h => hc9 (by rw [h]; rfl))]
        refine lv_iload hx hb dL_list_753 (lv_at hl 3 rfl) ?_
        refine lv_iconst (v := 4) hx hb dL_list_755 rfl ?_
        refine lv_ishr hx hb dL_list_756 ?_
        refine lv_iload_n hx hb dL_list_757 rfl (lv_at hl 5 rfl) ?_
        refine l_below (b9 := nm) hM hL hl.1 (by omega) (by omega) hR1 (Nat.le_of_ble_eq_true rfl) hf0 dL_list_758 fun H1 locs1 hL => ?_
        rw [h9]
        exact J9 H1 locs1 hL
      · have h9 : bel ((orX L0 xs i) >>> (4 &&& 31)) ng = orW ng nm L0 xs i := by unfold orW; rw [if_pos ((nI_z9 (by omega)).mp hc9)]
        refine lv_iload hx hb dL_list_738 (lv_at hl 3 rfl) ?_
        refine lv_iconst (v := 4) hx hb dL_list_740 rfl ?_
        refine lv_ishr hx hb dL_list_741 ?_
        refine lv_aload_n hx hb dL_list_742 rfl (lv_at hl 8 rfl) ?_
        refine l_get hM hL hks fL_138 hc3 dL_list_743 ?_
        refine l_lenR hM hL hpg dL_list_746 ?_
        refine l_below (b9 := ng) hM hL hl.1 (by omega) (by omega) hR1 (Nat.le_of_ble_eq_true rfl) hf0 dL_list_747 fun H1 locs1 hL => ?_
        rw [h9]
        exact lv_goto (tgt := 761) hx hb dL_list_750 rfl (J9 H1 locs1 hL)
    intro H1 locs1 hL
    refine lv_istore (lv' := [(9, .int (nI (orW ng nm L0 xs i))), (8, .int (nI (orO nm nt L0 xs i))), (7, .int (nI (orS L0 xs i))), (6, .int (orY L0 xs i)), (5, .int (orX L0 xs i)), (4, .int (nI i)), (3, .int (nI nm)), (0, .ref b0), (1, .ref (Γ.2.1 + kt)), (2, .ref (Γ.2.1 + ks))]) hx hb dL_list_761 hl (by decide) rfl fun ls hl => ?_
    refine lv_bipush (v := 12) hx hb dL_list_763 rfl ?_
    have hbk0 : ∀ j, j < i → b j < n1 := fun j hj => (hL.lo (hrw j hj).2.1).2
    have hpk2 : po < n1 := (hL.lo hpo).2
    refine l_new (M := 12) hM hL hkt hp0 (by decide) rfl (by decide) ⟨by omega, by omega⟩ dL_list_765 fun sh1 v1 k1 H1 locs1 hk0 hPk hL hkn => ?_
    replace hf0 : cells + 134 * i + 1 ≤ R.cells ∧ slots + 260000 * i + 12 ≤ R.slots := ⟨by omega, by omega⟩
    rw [← hkn] at hbk0 hpk2
    have hksk : ks ≠ k1 := fun q => by rw [q, hPk] at hks; cases hks
    have hpk : po ≠ k1 := fun q => by rw [q, hPk] at hpo; cases hpo
    have hptk : pt ≠ k1 := fun q => by rw [q, hPk] at hpt; cases hpt
    refine lv_dup hx hb dL_list_767 rfl ?_
    refine lv_iconst (v := 0) hx hb dL_list_768 rfl ?_
    refine lv_iload hx hb dL_list_769 (lv_at hl 2 rfl) ?_
    refine l_ia (k := k1) hM hL (up_eq _ _ _) (j := 0) rfl (vin (i := 0) (by decide) (by decide)) dL_list_771 fun v1 H1 locs1 hL => ?_
    rw [up_up] at hL
    refine lv_dup hx hb dL_list_772 rfl ?_
    refine lv_iconst (v := 1) hx hb dL_list_773 rfl ?_
    refine lv_iload hx hb dL_list_774 (lv_at hl 1 rfl) ?_
    refine l_ia (k := k1) hM hL (up_eq _ _ _) (j := 1) rfl (vin (i := 1) (by decide) (by decide)) dL_list_776 fun v1 H1 locs1 hL => ?_
    rw [up_up] at hL
    refine lv_dup hx hb dL_list_777 rfl ?_
    refine lv_iconst (v := 2) hx hb dL_list_778 rfl ?_
    refine lv_iload hx hb dL_list_779 (lv_at hl 0 rfl) ?_
    refine l_ia (k := k1) hM hL (up_eq _ _ _) (j := 2) rfl (vin (i := 2) (by decide) (by decide)) dL_list_781 fun v1 H1 locs1 hL => ?_
    rw [up_up] at hL
    refine lv_dup hx hb dL_list_782 rfl ?_
    refine lv_iconst (v := 3) hx hb dL_list_783 rfl ?_
    refine lv_iload hx hb dL_list_784 (lv_at hl 3 rfl) ?_
    refine lv_bipush (v := 8) hx hb dL_list_786 rfl ?_
    refine l_below (b9 := 8) hM hL hl.1 (by omega) (by omega) hR1 (Nat.le_of_ble_eq_true rfl) hf0 dL_list_788 fun H1 locs1 hL => ?_
    rw [show bel (orY L0 xs i) 8 = orF L0 xs i from rfl]
    refine l_ia (k := k1) hM hL (up_eq _ _ _) (j := 3) rfl (vin (i := 3) (by decide) (by decide)) dL_list_791 fun v1 H1 locs1 hL => ?_
    rw [up_up] at hL
    refine lv_dup hx hb dL_list_792 rfl ?_
    refine lv_iconst (v := 4) hx hb dL_list_793 rfl ?_
    refine lv_iload hx hb dL_list_794 (lv_at hl 3 rfl) ?_
    refine lv_iconst (v := 2) hx hb dL_list_796 rfl ?_
    refine lv_ishr hx hb dL_list_797 ?_
    refine lv_iload hx hb dL_list_798 (lv_at hl 3 rfl) ?_
    refine lv_bipush (v := 6) hx hb dL_list_800 rfl ?_
    refine lv_ishr hx hb dL_list_802 ?_
    refine lv_iconst (v := 2) hx hb dL_list_803 rfl ?_
    refine l_below (b9 := 2) hM hL hl.1 (by omega) (by omega) hR1 (Nat.le_of_ble_eq_true rfl) hf0 dL_list_804 fun H1 locs1 hL => ?_
    suffices J9 : W p l e R s m args below meth c H1 locs1 (cells + 134 * i + 1) (slots + 260000 * i + 12) Q (F0 m 818 ls (.int (nI (orNM L0 xs i)) :: .int ((orY L0 xs i) >>> ((2 : Int32) &&& 31)) :: .int 4 :: .ref (Γ.2.1 + k1) :: .ref (Γ.2.1 + k1) :: [])) by
      refine lv_if_ne (tgt := 816) hx hb dL_list_807 rfl (fun hc9 => ?_) (fun hc9 => ?_)
      · have h9 : (orNM L0 xs i) = 40 := if_neg (fun q => hc9 ((nI_z9 (by have := bel_lt (x := ((orY L0 xs i) >>> (6 &&& 31))) (n := 2) (by decide); omega)).mpr q))
        rw [h9] at J9
        exact lv_bipush (v := 40) hx hb dL_list_816 rfl J9
      · have h9 : (orNM L0 xs i) = 999 := if_pos ((nI_z9 (by have := bel_lt (x := ((orY L0 xs i) >>> (6 &&& 31))) (n := 2) (by decide); omega)).mp hc9)
        rw [h9] at J9
        exact lv_sipush (v := 999) hx hb dL_list_810 rfl (lv_goto (tgt := 818) hx hb dL_list_813 rfl J9)
    refine l_below (b9 := (orNM L0 xs i)) hM hL hl.1 (by omega) (by omega) hR1 (Nat.le_of_ble_eq_true rfl) hf0 dL_list_818 fun H1 locs1 hL => ?_
    rw [show bel ((orY L0 xs i) >>> (2 &&& 31)) (orNM L0 xs i) = orN L0 xs i from rfl]
    refine l_ia (k := k1) hM hL (up_eq _ _ _) (j := 4) rfl (vin (i := 4) (by decide) (by decide)) dL_list_821 fun v1 H1 locs1 hL => ?_
    rw [up_up] at hL
    refine lv_dup hx hb dL_list_822 rfl ?_
    refine lv_iconst (v := 5) hx hb dL_list_823 rfl ?_
    refine lv_iconst (v := (-1)) hx hb dL_list_824 rfl ?_
    refine lv_iload hx hb dL_list_825 (lv_at hl 3 rfl) ?_
    refine lv_iconst (v := 3) hx hb dL_list_827 rfl ?_
    refine lv_ishr hx hb dL_list_828 ?_
    refine lv_bipush (v := 10) hx hb dL_list_829 rfl ?_
    refine l_below (b9 := 10) hM hL hl.1 (by omega) (by omega) hR1 (Nat.le_of_ble_eq_true rfl) hf0 dL_list_831 fun H1 locs1 hL => ?_
    refine lv_iconst (v := 3) hx hb dL_list_834 rfl ?_
    refine lv_isub hx hb dL_list_835 ?_
    refine z_mmax hx hb hml hl.1 hts hown xL_177 hR1 (Nat.le_of_ble_eq_true rfl) hf0 dL_list_836 ?_
    rw [q_max_h (bel_lt (by decide)), show bel ((orY L0 xs i) >>> (3 &&& 31)) 10 - 2 = orH L0 xs i from rfl]
    refine l_ia (k := k1) hM hL (up_eq _ _ _) (j := 5) rfl (vin (i := 5) (by decide) (by decide)) dL_list_839 fun v1 H1 locs1 hL => ?_
    rw [up_up] at hL
    refine lv_dup hx hb dL_list_840 rfl ?_
    refine lv_bipush (v := 6) hx hb dL_list_841 rfl ?_
    refine lv_iload hx hb dL_list_843 (lv_at hl 3 rfl) ?_
    refine lv_iconst (v := 4) hx hb dL_list_845 rfl ?_
    refine lv_ishr hx hb dL_list_846 ?_
    refine lv_bipush (v := 99) hx hb dL_list_847 rfl ?_
    refine l_below (b9 := 99) hM hL hl.1 (by omega) (by omega) hR1 (Nat.le_of_ble_eq_true rfl) hf0 dL_list_849 fun H1 locs1 hL => ?_
    rw [show bel ((orY L0 xs i) >>> (4 &&& 31)) 99 = orI L0 xs i from rfl]
    refine l_ia (k := k1) hM hL (up_eq _ _ _) (j := 6) rfl (vin (i := 6) (by decide) (by decide)) dL_list_852 fun v1 H1 locs1 hL => ?_
    rw [up_up] at hL
    refine lv_dup hx hb dL_list_853 rfl ?_
    refine lv_bipush (v := 7) hx hb dL_list_854 rfl ?_
    refine lv_iload hx hb dL_list_856 (lv_at hl 4 rfl) ?_
    refine lv_iconst (v := 5) hx hb dL_list_858 rfl ?_
    refine lv_ishr hx hb dL_list_859 ?_
    refine lv_iload_n hx hb dL_list_860 rfl (lv_at hl 6 rfl) ?_
    refine l_below (b9 := nm) hM hL hl.1 (by omega) (by omega) hR1 (Nat.le_of_ble_eq_true rfl) hf0 dL_list_861 fun H1 locs1 hL => ?_
    rw [show bel ((orX L0 xs i) >>> (5 &&& 31)) nm = orA nm L0 xs i from rfl]
    refine l_ia (k := k1) hM hL (up_eq _ _ _) (j := 7) rfl (vin (i := 7) (by decide) (by decide)) dL_list_864 fun v1 H1 locs1 hL => ?_
    rw [up_up] at hL
    refine lv_dup hx hb dL_list_865 rfl ?_
    refine lv_bipush (v := 8) hx hb dL_list_866 rfl ?_
    refine lv_iload hx hb dL_list_868 (lv_at hl 3 rfl) ?_
    refine lv_iconst (v := 5) hx hb dL_list_870 rfl ?_
    refine lv_ishr hx hb dL_list_871 ?_
    refine lv_iload_n hx hb dL_list_872 rfl (lv_at hl 6 rfl) ?_
    refine l_below (b9 := nm) hM hL hl.1 (by omega) (by omega) hR1 (Nat.le_of_ble_eq_true rfl) hf0 dL_list_873 fun H1 locs1 hL => ?_
    rw [show bel ((orY L0 xs i) >>> (5 &&& 31)) nm = orB nm L0 xs i from rfl]
    refine l_ia (k := k1) hM hL (up_eq _ _ _) (j := 8) rfl (vin (i := 8) (by decide) (by decide)) dL_list_876 fun v1 H1 locs1 hL => ?_
    rw [up_up] at hL
    refine lv_dup hx hb dL_list_877 rfl ?_
    refine lv_bipush (v := 9) hx hb dL_list_878 rfl ?_
    refine lv_iload hx hb dL_list_880 (lv_at hl 4 rfl) ?_
    refine lv_bipush (v := 6) hx hb dL_list_882 rfl ?_
    refine lv_ishr hx hb dL_list_884 ?_
    refine lv_aload_n hx hb dL_list_885 rfl (lv_at hl 9 rfl) ?_
    refine l_get hM hL ((up_ne hksk).trans hks) fL_163 hc6 dL_list_886 ?_
    refine l_lenR hM hL ((up_ne hptk).trans hpt) dL_list_889 ?_
    refine l_below (b9 := nt) hM hL hl.1 (by omega) (by omega) hR1 (Nat.le_of_ble_eq_true rfl) hf0 dL_list_890 fun H1 locs1 hL => ?_
    rw [show bel ((orX L0 xs i) >>> (6 &&& 31)) nt = orL nt L0 xs i from rfl]
    refine l_ia (k := k1) hM hL (up_eq _ _ _) (j := 9) rfl (vin (i := 9) (by decide) (by decide)) dL_list_893 fun v1 H1 locs1 hL => ?_
    rw [up_up] at hL
    refine lv_dup hx hb dL_list_894 rfl ?_
    refine lv_bipush (v := 10) hx hb dL_list_895 rfl ?_
    refine lv_iload hx hb dL_list_897 (lv_at hl 3 rfl) ?_
    refine lv_bipush (v := 7) hx hb dL_list_899 rfl ?_
    refine lv_ishr hx hb dL_list_901 ?_
    refine lv_aload_n hx hb dL_list_902 rfl (lv_at hl 9 rfl) ?_
    refine l_get hM hL ((up_ne hksk).trans hks) fL_163 hc6 dL_list_903 ?_
    refine l_lenR hM hL ((up_ne hptk).trans hpt) dL_list_906 ?_
    refine l_below (b9 := nt) hM hL hl.1 (by omega) (by omega) hR1 (Nat.le_of_ble_eq_true rfl) hf0 dL_list_907 fun H1 locs1 hL => ?_
    rw [show bel ((orY L0 xs i) >>> (7 &&& 31)) nt = orM nt L0 xs i from rfl]
    refine l_ia (k := k1) hM hL (up_eq _ _ _) (j := 10) rfl (vin (i := 10) (by decide) (by decide)) dL_list_910 fun v1 H1 locs1 hL => ?_
    rw [up_up] at hL
    refine lv_dup hx hb dL_list_911 rfl ?_
    refine lv_bipush (v := 11) hx hb dL_list_912 rfl ?_
    refine lv_iconst (v := 0) hx hb dL_list_914 rfl ?_
    refine l_ia (k := k1) hM hL (up_eq _ _ _) (j := 11) rfl (vin (i := 11) (by decide) (by decide)) dL_list_915 fun v1 H1 locs1 hL => ?_
    rw [up_up] at hL
    rw [show upd (upd (upd (upd (upd (upd (upd (upd (upd (upd (upd (upd (fun _ => 0) 0 (nI (orS L0 xs i))) 1 (nI (orO nm nt L0 xs i))) 2 (nI (orW ng nm L0 xs i))) 3 (nI (orF L0 xs i))) 4 (nI (orN L0 xs i))) 5 (nI (orH L0 xs i) + -1)) 6 (nI (orI L0 xs i))) 7 (nI (orA nm L0 xs i))) 8 (nI (orB nm L0 xs i))) 9 (nI (orL nt L0 xs i))) 10 (nI (orM nt L0 xs i))) 11 0 = orG ng nm nt L0 xs i from rfl] at hL
    refine lv_astore (lv' := [(10, .ref (Γ.2.1 + k1)), (9, .int (nI (orW ng nm L0 xs i))), (8, .int (nI (orO nm nt L0 xs i))), (7, .int (nI (orS L0 xs i))), (6, .int (orY L0 xs i)), (5, .int (orX L0 xs i)), (4, .int (nI i)), (3, .int (nI nm)), (0, .ref b0), (1, .ref (Γ.2.1 + kt)), (2, .ref (Γ.2.1 + ks))]) hx hb dL_list_916 hl (by decide) rfl fun ls hl => ?_
    refine lv_aload_n hx hb dL_list_918 rfl (lv_at hl 10 rfl) ?_
    refine l_get hM hL ((up_ne hksk).trans hks) fL_174 hc7 dL_list_919 ?_
    refine lv_iload hx hb dL_list_922 (lv_at hl 6 rfl) ?_
    refine lv_aload hx hb dL_list_924 (lv_at hl 0 rfl) ?_
    refine l_aa (k := po) (r := k1) (j := i) hM hER hL ((up_ne hpk).trans hpo) (up_eq _ _ _) (nI_clamp (by omega)) (vin hlt (by omega)) dL_list_926 fun sh1 H1 locs1 hL => ?_
    rw [rfs_s] at hL
    generalize hP9 : up (up P k1 (some (sA 12, orG ng nm nt L0 xs i))) po (some (sR no (rfs (i + 1) (up b i k1)), gg)) = P9 at hL
    have hks9 : P9 ks = some (sO 11 cs, g) := by rw [← hP9, up_ne hne, up_ne hksk]; exact hks
    have hpg9 : P9 po = some (sR no (rfs (i + 1) (up b i k1)), gg) := by rw [← hP9, up_eq]
    have hk9 : P9 k1 = some (sA 12, orG ng nm nt L0 xs i) := by rw [← hP9, up_ne (Ne.symm hpk), up_eq]
    have hbk : ∀ j, j < i → b j < k1 ∧ b j ≠ po := fun j hj => ⟨hbk0 j hj, fun q => by have h9 := (hrw j hj).2.1; rw [q, hpo] at h9; cases h9⟩
    have hz0 : P0 k1 = none := by
      cases h9 : P0 k1 with
      | none => rfl
      | some e9 => exact absurd (hold k1 e9 h9 (Ne.symm hpk)) (by rw [hPk]; exact fun q => by cases q)
    have hrw9 : RWS P0 P9 po (i + 1) 12 (orG ng nm nt L0 xs) (up b i k1) := hrw.more (fun j hj => by rw [← hP9, up_ne (hbk j hj).2, up_ne (Nat.ne_of_lt (hbk j hj).1)]) hk9 hpk2 hz0 fun j hj => (hbk j hj).1
    have hold9 : OLD P0 P9 po := fun q e h1 h2 => by rw [← hP9, up_ne h2, up_ne (fun q9 => by have h9 := hold q e h1 h2; rw [q9, hPk] at h9; cases h9)]; exact hold q e h1 h2
    refine lv_aload_n hx hb dL_list_927 rfl (lv_at hl 9 rfl) ?_
    refine lv_iload hx hb dL_list_928 (lv_at hl 3 rfl) ?_
    suffices J9 : ∀ (sh1 : Sh) (v1 : Va) (n1 : Nat) (H1 : Heap) (locs1 : List Loc) (t9 : Nat), LST Γ s sh0 v0 n0 w kt p0 (C + 134 * i + 1 + 70) (orT ng nm nt T L0 xs i) (N + 135 * i) P9 sh1 v1 n1 H1 locs1 → SV Γ sh1 v1 t9 (orZ ng nm nt L0 xs i) ∧ (orZ ng nm nt L0 xs i).length ≤ 63 → W p l e R s m args below meth c H1 locs1 (cells + 134 * i + 1 + 70) (slots + 260000 * i + 12 + 140000) Q (F0 m 1061 ls (.ref t9 :: .ref (Γ.2.1 + kt) :: [])) by
      refine lv_if_ne (tgt := 966) hx hb dL_list_930 rfl (fun hc9 => ?_) (fun hc9 => ?_)
      · have hs0 : ¬ orS L0 xs i = 0 := fun h => hc9 (by rw [h]; rfl)
        refine lv_iload hx hb dL_list_966 (lv_at hl 3 rfl) ?_
        refine lv_iconst (v := 1) hx hb dL_list_968 rfl ?_
        refine lv_icmp_ne (tgt := 1018) hx hb dL_list_969 rfl (fun hc8 => ?_) (fun hc8 => ?_)
        · have hs1 : ¬ orS L0 xs i = 1 := fun h => hc8 (by rw [h]; rfl)
          have hX : SX Γ sh1 v1 (k1 + 1) 0 [] sh1 v1 (k1 + 1) := ⟨fun _ _ => rfl, Nat.le_refl _, fun t ht => absurd ht List.not_mem_nil, GR.rf⟩
          have hL9 := hL
          have hWc := hL.1
          have hnb := hL.2.1
          have hk9n := (hL.lo hk9).2
          refine s_sb hM hWc hX hl.1 (by omega) hR3 (Nat.le_of_ble_eq_true rfl) ⟨by omega, by omega⟩ dL_list_1018 dL_list_1021 dL_list_1022 fun sh1 v1 n1 kb1 H1 locs1 hWc hX hB9 => ?_
          refine s_lit (i := 53) (B := tx196) (M := 5) hM hWc rfl (by decide) dL_list_1025 fun ad196 hT196 => ?_
          refine s_apS hM hWc hX hl.1 (B := tx196) (M := 5) hT196 hB9 (by decide) (by omega) hR6 (Nat.le_of_ble_eq_true rfl) ⟨by omega, by omega⟩ dL_list_1027 fun sh1 v1 n1 H1 locs1 hWc hX hB9 => ?_
          refine lv_iload hx hb dL_list_1030 (lv_at hl 2 rfl) ?_
          refine s_apI hM hWc hX hl.1 (z0 := (orO nm nt L0 xs i)) (by omega) hB9 (by decide) (by omega) hR6 (Nat.le_of_ble_eq_true rfl) ⟨by omega, by omega⟩ dL_list_1032 fun sh1 v1 n1 H1 locs1 hWc hX hB9 => ?_
          refine s_lit (i := 51) (B := tx188) (M := 5) hM hWc rfl (by decide) dL_list_1035 fun ad188 hT188 => ?_
          refine s_apS hM hWc hX hl.1 (B := tx188) (M := 5) hT188 hB9 (by decide) (by omega) hR6 (Nat.le_of_ble_eq_true rfl) ⟨by omega, by omega⟩ dL_list_1037 fun sh1 v1 n1 H1 locs1 hWc hX hB9 => ?_
          refine lv_iload hx hb dL_list_1040 (lv_at hl 1 rfl) ?_
          refine s_apI hM hWc hX hl.1 (z0 := (orW ng nm L0 xs i)) (by omega) hB9 (by decide) (by omega) hR6 (Nat.le_of_ble_eq_true rfl) ⟨by omega, by omega⟩ dL_list_1042 fun sh1 v1 n1 H1 locs1 hWc hX hB9 => ?_
          refine s_lit (i := 52) (B := tx190) (M := 4) hM hWc rfl (by decide) dL_list_1045 fun ad190 hT190 => ?_
          refine s_apS hM hWc hX hl.1 (B := tx190) (M := 4) hT190 hB9 (by decide) (by omega) hR6 (Nat.le_of_ble_eq_true rfl) ⟨by omega, by omega⟩ dL_list_1047 fun sh1 v1 n1 H1 locs1 hWc hX hB9 => ?_
          refine lv_aload hx hb dL_list_1050 (lv_at hl 0 rfl) ?_
          have hMS := c_L_sum (Γ := Γ) (sh := sh1) (v := v1) (w := w) (n := n1) (l := l) (k := k1) (d1 := d1) (d2 := d2) (f := orF L0 xs i) (n4 := orN L0 xs i) (g := 0) (n6 := orI L0 xs i) (a9 := orA nm L0 xs i) (b9 := orB nm L0 xs i) (l9 := orL nt L0 xs i) (o9 := orM nt L0 xs i) ((hX.2.2.2.2 k1 hk9n).trans (hL9.shp hk9)) (by omega) (by omega) (by omega) (by omega) (by omega) (by omega) ((congrFun (hX.1 k1 hk9n) 4).trans (congrFun (hL9.val hk9) 4)) ((congrFun (hX.1 k1 hk9n) 6).trans (congrFun (hL9.val hk9) 6)) ((congrFun (hX.1 k1 hk9n) 7).trans (congrFun (hL9.val hk9) 7)) ((congrFun (hX.1 k1 hk9n) 8).trans (congrFun (hL9.val hk9) 8)) ((congrFun (hX.1 k1 hk9n) 9).trans (congrFun (hL9.val hk9) 9)) ((congrFun (hX.1 k1 hk9n) 10).trans (congrFun (hL9.val hk9) 10)) ho4 ((congrFun (hX.1 k1 hk9n) 3).trans (congrFun (hL9.val hk9) 3)) (hC.gr hWc.1 hE) (hEL.gr hWc.1 hE) (by have := hX.2.1; omega)
          refine s_sum hM hWc hX hl.1 hB9 hMS hR8 (Nat.le_of_ble_eq_true rfl) ⟨by omega, by omega⟩ dL_list_1052 fun sh1 v1 n1 r9 H1 locs1 hWc hX hB9 => ?_
          refine s_apS hM hWc hX hl.1 (B := (orU nm nt L0 xs i)) (M := 40) (hX.2.2.1 _ (List.mem_of_getElem? (i := 0) rfl)) hB9 (by decide) (by omega) hR6 (Nat.le_of_ble_eq_true rfl) ⟨by omega, by omega⟩ dL_list_1055 fun sh1 v1 n1 H1 locs1 hWc hX hB9 => ?_
          refine s_toS hM hWc hX hl.1 hB9 (by decide) (by omega) hR6 (Nat.le_of_ble_eq_true rfl) ⟨by omega, by omega⟩ dL_list_1058 fun sh1 v1 n1 t9 H1 locs1 hWc hX => ?_
          have hT9 := hX.2.2.1 _ (List.mem_of_getElem? (i := 0) rfl)
          have hL := (hL9.more hkt hp0 (K := 70) hWc hX.2.2.2 hX.1 (by have := hX.2.1; omega))
          have hz9 : orZ ng nm nt L0 xs i = (((((([] ++ tx196) ++ decL (orO nm nt L0 xs i)) ++ tx188) ++ decL (orW ng nm L0 xs i)) ++ tx190) ++ (orU nm nt L0 xs i)) := (if_neg hs0).trans (if_neg hs1)
          refine W.widen (k := cells + 134 * i + 1 + 70) (n := slots + 260000 * i + 12 + 140000) (by omega) (by omega) ?_
          exact J9 sh1 v1 n1 H1 locs1 t9 hL ⟨by rw [hz9]; exact hT9.1, by rw [hz9]; exact Nat.le_trans hT9.2 (Nat.le_of_ble_eq_true rfl)⟩
        · have hs1 : orS L0 xs i = 1 := (nI_eq (a := orS L0 xs i) (b := 1) (by omega) (by omega)).mp (hc8)
          have hX : SX Γ sh1 v1 (k1 + 1) 0 [] sh1 v1 (k1 + 1) := ⟨fun _ _ => rfl, Nat.le_refl _, fun t ht => absurd ht List.not_mem_nil, GR.rf⟩
          have hL9 := hL
          have hWc := hL.1
          have hnb := hL.2.1
          have hk9n := (hL.lo hk9).2
          refine s_sb hM hWc hX hl.1 (by omega) hR3 (Nat.le_of_ble_eq_true rfl) ⟨by omega, by omega⟩ dL_list_972 dL_list_975 dL_list_976 fun sh1 v1 n1 kb1 H1 locs1 hWc hX hB9 => ?_
          refine s_lit (i := 50) (B := tx186) (M := 6) hM hWc rfl (by decide) dL_list_979 fun ad186 hT186 => ?_
          refine s_apS hM hWc hX hl.1 (B := tx186) (M := 6) hT186 hB9 (by decide) (by omega) hR6 (Nat.le_of_ble_eq_true rfl) ⟨by omega, by omega⟩ dL_list_981 fun sh1 v1 n1 H1 locs1 hWc hX hB9 => ?_
          refine lv_iload hx hb dL_list_984 (lv_at hl 2 rfl) ?_
          refine s_apI hM hWc hX hl.1 (z0 := (orO nm nt L0 xs i)) (by omega) hB9 (by decide) (by omega) hR6 (Nat.le_of_ble_eq_true rfl) ⟨by omega, by omega⟩ dL_list_986 fun sh1 v1 n1 H1 locs1 hWc hX hB9 => ?_
          refine s_lit (i := 51) (B := tx188) (M := 5) hM hWc rfl (by decide) dL_list_989 fun ad188 hT188 => ?_
          refine s_apS hM hWc hX hl.1 (B := tx188) (M := 5) hT188 hB9 (by decide) (by omega) hR6 (Nat.le_of_ble_eq_true rfl) ⟨by omega, by omega⟩ dL_list_991 fun sh1 v1 n1 H1 locs1 hWc hX hB9 => ?_
          refine lv_iload hx hb dL_list_994 (lv_at hl 1 rfl) ?_
          refine s_apI hM hWc hX hl.1 (z0 := (orW ng nm L0 xs i)) (by omega) hB9 (by decide) (by omega) hR6 (Nat.le_of_ble_eq_true rfl) ⟨by omega, by omega⟩ dL_list_996 fun sh1 v1 n1 H1 locs1 hWc hX hB9 => ?_
          refine s_lit (i := 52) (B := tx190) (M := 4) hM hWc rfl (by decide) dL_list_999 fun ad190 hT190 => ?_
          refine s_apS hM hWc hX hl.1 (B := tx190) (M := 4) hT190 hB9 (by decide) (by omega) hR6 (Nat.le_of_ble_eq_true rfl) ⟨by omega, by omega⟩ dL_list_1001 fun sh1 v1 n1 H1 locs1 hWc hX hB9 => ?_
          refine lv_aload hx hb dL_list_1004 (lv_at hl 0 rfl) ?_
          have hMS := c_L_sum (Γ := Γ) (sh := sh1) (v := v1) (w := w) (n := n1) (l := l) (k := k1) (d1 := d1) (d2 := d2) (f := orF L0 xs i) (n4 := orN L0 xs i) (g := 0) (n6 := orI L0 xs i) (a9 := orA nm L0 xs i) (b9 := orB nm L0 xs i) (l9 := orL nt L0 xs i) (o9 := orM nt L0 xs i) ((hX.2.2.2.2 k1 hk9n).trans (hL9.shp hk9)) (by omega) (by omega) (by omega) (by omega) (by omega) (by omega) ((congrFun (hX.1 k1 hk9n) 4).trans (congrFun (hL9.val hk9) 4)) ((congrFun (hX.1 k1 hk9n) 6).trans (congrFun (hL9.val hk9) 6)) ((congrFun (hX.1 k1 hk9n) 7).trans (congrFun (hL9.val hk9) 7)) ((congrFun (hX.1 k1 hk9n) 8).trans (congrFun (hL9.val hk9) 8)) ((congrFun (hX.1 k1 hk9n) 9).trans (congrFun (hL9.val hk9) 9)) ((congrFun (hX.1 k1 hk9n) 10).trans (congrFun (hL9.val hk9) 10)) ho4 ((congrFun (hX.1 k1 hk9n) 3).trans (congrFun (hL9.val hk9) 3)) (hC.gr hWc.1 hE) (hEL.gr hWc.1 hE) (by have := hX.2.1; omega)
          refine s_sum hM hWc hX hl.1 hB9 hMS hR8 (Nat.le_of_ble_eq_true rfl) ⟨by omega, by omega⟩ dL_list_1006 fun sh1 v1 n1 r9 H1 locs1 hWc hX hB9 => ?_
          refine s_apS hM hWc hX hl.1 (B := (orU nm nt L0 xs i)) (M := 40) (hX.2.2.1 _ (List.mem_of_getElem? (i := 0) rfl)) hB9 (by decide) (by omega) hR6 (Nat.le_of_ble_eq_true rfl) ⟨by omega, by omega⟩ dL_list_1009 fun sh1 v1 n1 H1 locs1 hWc hX hB9 => ?_
          refine s_toS hM hWc hX hl.1 hB9 (by decide) (by omega) hR6 (Nat.le_of_ble_eq_true rfl) ⟨by omega, by omega⟩ dL_list_1012 fun sh1 v1 n1 t9 H1 locs1 hWc hX => ?_
          have hT9 := hX.2.2.1 _ (List.mem_of_getElem? (i := 0) rfl)
          have hL := (hL9.more hkt hp0 (K := 70) hWc hX.2.2.2 hX.1 (by have := hX.2.1; omega))
          have hz9 : orZ ng nm nt L0 xs i = (((((([] ++ tx186) ++ decL (orO nm nt L0 xs i)) ++ tx188) ++ decL (orW ng nm L0 xs i)) ++ tx190) ++ (orU nm nt L0 xs i)) := (if_neg hs0).trans (if_pos hs1)
          refine lv_goto (tgt := 1061) hx hb dL_list_1015 rfl ?_
          refine W.widen (k := cells + 134 * i + 1 + 70) (n := slots + 260000 * i + 12 + 140000) (by omega) (by omega) ?_
          exact J9 sh1 v1 n1 H1 locs1 t9 hL ⟨by rw [hz9]; exact hT9.1, by rw [hz9]; exact Nat.le_trans hT9.2 (Nat.le_of_ble_eq_true rfl)⟩
      · have hs0 : orS L0 xs i = 0 := (nI_z9 (by omega)).mp hc9
        have hX : SX Γ sh1 v1 (k1 + 1) 0 [] sh1 v1 (k1 + 1) := ⟨fun _ _ => rfl, Nat.le_refl _, fun t ht => absurd ht List.not_mem_nil, GR.rf⟩
        have hL9 := hL
        have hWc := hL.1
        have hnb := hL.2.1
        have hk9n := (hL.lo hk9).2
        refine s_sb hM hWc hX hl.1 (by omega) hR3 (Nat.le_of_ble_eq_true rfl) ⟨by omega, by omega⟩ dL_list_933 dL_list_936 dL_list_937 fun sh1 v1 n1 kb1 H1 locs1 hWc hX hB9 => ?_
        refine s_lit (i := 48) (B := tx182) (M := 7) hM hWc rfl (by decide) dL_list_940 fun ad182 hT182 => ?_
        refine s_apS hM hWc hX hl.1 (B := tx182) (M := 7) hT182 hB9 (by decide) (by omega) hR6 (Nat.le_of_ble_eq_true rfl) ⟨by omega, by omega⟩ dL_list_942 fun sh1 v1 n1 H1 locs1 hWc hX hB9 => ?_
        refine lv_iload hx hb dL_list_945 (lv_at hl 2 rfl) ?_
        refine s_apI hM hWc hX hl.1 (z0 := (orO nm nt L0 xs i)) (by omega) hB9 (by decide) (by omega) hR6 (Nat.le_of_ble_eq_true rfl) ⟨by omega, by omega⟩ dL_list_947 fun sh1 v1 n1 H1 locs1 hWc hX hB9 => ?_
        refine s_lit (i := 49) (B := tx184) (M := 5) hM hWc rfl (by decide) dL_list_950 fun ad184 hT184 => ?_
        refine s_apS hM hWc hX hl.1 (B := tx184) (M := 5) hT184 hB9 (by decide) (by omega) hR6 (Nat.le_of_ble_eq_true rfl) ⟨by omega, by omega⟩ dL_list_952 fun sh1 v1 n1 H1 locs1 hWc hX hB9 => ?_
        refine lv_iload hx hb dL_list_955 (lv_at hl 1 rfl) ?_
        refine s_apI hM hWc hX hl.1 (z0 := (orW ng nm L0 xs i)) (by omega) hB9 (by decide) (by omega) hR6 (Nat.le_of_ble_eq_true rfl) ⟨by omega, by omega⟩ dL_list_957 fun sh1 v1 n1 H1 locs1 hWc hX hB9 => ?_
        refine s_toS hM hWc hX hl.1 hB9 (by decide) (by omega) hR6 (Nat.le_of_ble_eq_true rfl) ⟨by omega, by omega⟩ dL_list_960 fun sh1 v1 n1 t9 H1 locs1 hWc hX => ?_
        have hT9 := hX.2.2.1 _ (List.mem_of_getElem? (i := 0) rfl)
        have hL := (hL9.more hkt hp0 (K := 70) hWc hX.2.2.2 hX.1 (by have := hX.2.1; omega))
        have hz9 : orZ ng nm nt L0 xs i = (((([] ++ tx182) ++ decL (orO nm nt L0 xs i)) ++ tx184) ++ decL (orW ng nm L0 xs i)) := if_pos hs0
        refine lv_goto (tgt := 1061) hx hb dL_list_963 rfl ?_
        refine W.widen (k := cells + 134 * i + 1 + 70) (n := slots + 260000 * i + 12 + 140000) (by omega) (by omega) ?_
        exact J9 sh1 v1 n1 H1 locs1 t9 hL ⟨by rw [hz9]; exact hT9.1, by rw [hz9]; exact Nat.le_trans hT9.2 (Nat.le_of_ble_eq_true rfl)⟩
    intro sh1 v1 n1 H1 locs1 t9 hL hT9
    replace hf0 : cells + 134 * i + 1 + 70 ≤ R.cells ∧ slots + 260000 * i + 12 + 140000 ≤ R.slots := ⟨by omega, by omega⟩
    refine l_apS hM hL hkt hp0 hl.1 (B := (orZ ng nm nt L0 xs i)) (M := 63) hT9 (by omega) (by omega) hR6 (Nat.le_of_ble_eq_true rfl) ⟨by omega, by omega⟩ dL_list_1061 fun sh1 v1 n1 H1 locs1 hL => ?_
    replace hf0 : cells + 134 * i + 1 + 70 + 1 ≤ R.cells ∧ slots + 260000 * i + 12 + 140000 + 6000 ≤ R.slots := ⟨by omega, by omega⟩
    refine lv_aload hx hb dL_list_1064 (lv_at hl 0 rfl) ?_
    have hMW := c_L_when (Γ := Γ) (sh := sh1) (v := v1) (w := w) (n := n1) (l := l) (k := k1) (d1 := d1) (d2 := d2) (f := 0) (n4 := orN L0 xs i) (g := orH L0 xs i) (n6 := orI L0 xs i) (a9 := orA nm L0 xs i) (b9 := orB nm L0 xs i) (l9 := orL nt L0 xs i) (o9 := orM nt L0 xs i) (hL.shp hk9) (by omega) (by omega) (by omega) (by omega) (by omega) (by omega) (congrFun (hL.val hk9) 4) (congrFun (hL.val hk9) 6) (congrFun (hL.val hk9) 7) (congrFun (hL.val hk9) 8) (congrFun (hL.val hk9) 9) (congrFun (hL.val hk9) 10) ho6 (congrFun (hL.val hk9) 5) (hC.gr hL.1.1 hE) (hEL.gr hL.1.1 hE) (by have := hL.2.1; omega)
    refine l_when hM hL hkt hp0 hl.1 hMW hR8 (Nat.le_of_ble_eq_true rfl) ⟨by omega, by omega⟩ dL_list_1066 fun sh1 v1 n1 r8 H1 locs1 hL hT8 => ?_
    replace hf0 : cells + 134 * i + 1 + 70 + 1 + 60 ≤ R.cells ∧ slots + 260000 * i + 12 + 140000 + 6000 + 100000 ≤ R.slots := ⟨by omega, by omega⟩
    refine l_apS hM hL hkt hp0 hl.1 (B := (orV nm nt L0 xs i)) (M := 70) hT8 (by omega) (by omega) hR6 (Nat.le_of_ble_eq_true rfl) ⟨by omega, by omega⟩ dL_list_1069 fun sh1 v1 n1 H1 locs1 hL => ?_
    replace hf0 : cells + 134 * i + 1 + 70 + 1 + 60 + 1 ≤ R.cells ∧ slots + 260000 * i + 12 + 140000 + 6000 + 100000 + 6000 ≤ R.slots := ⟨by omega, by omega⟩
    refine s_lit (i := 54) (B := tx201) (M := 2) hM hL.1 rfl (by decide) dL_list_1072 fun ad201 hT201 => ?_
    refine l_apS hM hL hkt hp0 hl.1 (B := tx201) (M := 2) hT201 (by omega) (by omega) hR6 (Nat.le_of_ble_eq_true rfl) ⟨by omega, by omega⟩ dL_list_1074 fun sh1 v1 n1 H1 locs1 hL => ?_
    replace hf0 : cells + 134 * i + 1 + 70 + 1 + 60 + 1 + 1 ≤ R.cells ∧ slots + 260000 * i + 12 + 140000 + 6000 + 100000 + 6000 + 6000 ≤ R.slots := ⟨by omega, by omega⟩
    refine lv_pop hx hb dL_list_1077 rfl ?_
    refine lv_iinc (k := 6) (v := ((nI i) + 1)) (lv' := [(4, .int ((nI i) + 1)), (10, .ref (Γ.2.1 + k1)), (9, .int (nI (orW ng nm L0 xs i))), (8, .int (nI (orO nm nt L0 xs i))), (7, .int (nI (orS L0 xs i))), (6, .int (orY L0 xs i)), (5, .int (orX L0 xs i)), (3, .int (nI nm)), (0, .ref b0), (1, .ref (Γ.2.1 + kt)), (2, .ref (Γ.2.1 + ks))]) hx hb dL_list_1078 hl rfl rfl (by decide) rfl fun ls hl => ?_
    refine lv_goto (tgt := 629) hx hb dL_list_1081 rfl ?_
    rw [ni_s] at hl
    refine W.widen (k := cells + 134 * (i + 1)) (n := slots + 260000 * (i + 1)) (by omega) (by omega) ?_
    exact ih (i + 1) (by omega) P9 _ _ _ _ _ _ _ hks9 hpg9 hrw9 hold9 (lv_sub hl [0, 7, 8, 9, 10] rfl) (hL.on (C1 := C + 134 * (i + 1)) (N1 := N + 135 * (i + 1)) (by omega) (by omega))
end LX
