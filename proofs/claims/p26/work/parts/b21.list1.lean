/-! LIST, one: spices -/
section LX
variable {p : Program} {l : Launch} {e : Env} {R : Room} {s : State} {m : MethodId} {args : Array Value} {below : List Frame} {meth : Method} {c : Code} {H H0 : Heap} {locs : List Loc} {cells slots : Nat} {Q : State → Prop}
variable {cc : ByteArray} {pc nL : Nat} {ls : Array Slot} {st0 rest As Bs : List Value} {Γ : Cx} {sh sh0 shb : Sh} {v v0 v1 : Va} {w : Vl} {own : String} {idx ci j k n n0 nb nn hh mL mc ms a d1 d2 : Nat} {cs : List Nat} {y : MethodName} {b : ByteArray} {ret : Option FieldType} {A : Nat → Prop}
variable {kt p0 C N b0 L0 ks pl nl : Nat} {T : List Int32} {P : Pfn} {xs : Nat → Int32}
theorem LST.on (h : LST Γ s sh0 v0 n0 w kt p0 C T N P sh v n H locs) {C1 N1 : Nat} (hC : C ≤ C1) (hN : N ≤ N1) : LST Γ s sh0 v0 n0 w kt p0 C1 T N1 P sh v n H locs := ⟨h.1, Nat.le_trans h.2.1 (Nat.add_le_add_left hC _), h.2.2.1, ⟨Nat.le_trans h.2.2.2.1.1 hN, h.2.2.2.1.2⟩, h.2.2.2.2⟩
/-- a spice's loss; the lines of spices -/
def loX (L0 : Nat) (xs : Nat → Int32) (i : Nat) : Nat := bel (cel L0 xs 0 >>> ((3 + 4 * nI i) &&& 31)) 10
def spT (L0 : Nat) (xs : Nat → Int32) : Nat → List Int32
  | 0 => []
  | i + 1 => ((((spT L0 xs i ++ tx131) ++ decL i) ++ tx133) ++ decL (loX L0 xs i)) ++ tx135
def loG (L0 : Nat) (xs : Nat → Int32) (i : Nat) : Nat → Int32 := fun j => if j < i then nI (loX L0 xs j) else 0
theorem loG_s {i : Nat} : upd (loG L0 xs i) i (nI (loX L0 xs i)) = loG L0 xs (i + 1) := funext fun j => by
  show (if j = i then _ else if j < i then _ else _) = if j < i + 1 then _ else _
  by_cases h : j = i
  · subst h; rw [if_pos rfl, if_pos (by omega)]
  · rw [if_neg h]
    by_cases h2 : j < i
    · rw [if_pos h2, if_pos (by omega)]
    · rw [if_neg h2, if_neg (by omega)]
theorem loX_le {i : Nat} : loX L0 xs i < 10 := bel_lt (by decide)
theorem li_1 (hM : MC Γ p s m args c cL_list 11 d1 d2 sh0 n0) (hB : SCR Γ sh0 b0 L0 xs) (hkt : kt < n0) (hp0 : p0 < n0) (hn0 : n0 + C + 100 ≤ 1000000) (hnl : nl ≤ 3) (hR6 : 6 ≤ R.frames ∧ 230 ≤ R.locals) (hR1 : 1 ≤ R.frames ∧ 21 ≤ R.locals) (hcell : cells + 100 ≤ R.cells) (hslot : slots + 200000 ≤ R.slots) {g : Nat → Int32} (hks : P ks = some (sO 11 cs, g)) (hc2 : cs[2]? = some (pl + 3)) (hne : ks ≠ pl)
    (kk : ∀ (sh1 : Sh) (v1 : Va) (n1 : Nat) (H1 : Heap) (locs1 : List Loc) (ls : Array Slot), lv_has ls 11 [(0, .ref b0), (1, .ref (Γ.2.1 + kt)), (2, .ref (Γ.2.1 + ks))] → LST Γ s sh0 v0 n0 w kt p0 (C + 5 * nl) (spT L0 xs nl) (22 * nl) (up P pl (some (sA nl, loG L0 xs nl))) sh1 v1 n1 H1 locs1 → W p l e R s m args below meth c H1 locs1 (cells + 5 * nl) (slots + 30000 * nl) Q (F0 m 94 ls [])) :
    ∀ (j i : Nat), i + j = nl → ∀ (sh1 : Sh) (v1 : Va) (n1 : Nat) (H1 : Heap) (locs1 : List Loc) (ls : Array Slot), lv_has ls 11 [(3, .int (nI i)), (0, .ref b0), (1, .ref (Γ.2.1 + kt)), (2, .ref (Γ.2.1 + ks))] → LST Γ s sh0 v0 n0 w kt p0 (C + 5 * i) (spT L0 xs i) (22 * i) (up P pl (some (sA nl, loG L0 xs i))) sh1 v1 n1 H1 locs1 → W p l e R s m args below meth c H1 locs1 (cells + 5 * i) (slots + 30000 * i) Q (F0 m 27 ls []) := by
  obtain ⟨hx, hb, hml, hts, hown, hK, hE, hd, hC, hEL⟩ := id hM
  intro j
  induction j with
  | zero =>
    intro i hij sh1 v1 n1 H1 locs1 ls hl hL
    have hi : i = nl := by omega
    subst hi
    refine lv_iload_n hx hb dL_list_27 rfl (lv_at hl 0 rfl) ?_
    refine lv_aload_n hx hb dL_list_28 rfl (lv_at hl 3 rfl) ?_
    refine l_get hM hL ((up_ne hne).trans hks) fL_127 hc2 dL_list_29 ?_
    refine l_len hM hL (up_eq _ _ _) dL_list_32 ?_
    refine lv_icmp_ge (tgt := 94) hx hb dL_list_33 rfl (fun hc33 => ?_) (fun hc33 => absurd ((ni_le (by omega) (by omega)).mpr (Nat.le_refl _)) hc33)
    exact kk _ _ _ _ _ _ (lv_sub hl [1, 2, 3] rfl) hL
  | succ j ih =>
    intro i hij sh1 v1 n1 H1 locs1 ls hl hL
    have hlt : i < nl := by omega
    have hf0 : cells + 5 * i ≤ R.cells ∧ slots + 30000 * i ≤ R.slots := ⟨by omega, by omega⟩
    refine lv_iload_n hx hb dL_list_27 rfl (lv_at hl 0 rfl) ?_
    refine lv_aload_n hx hb dL_list_28 rfl (lv_at hl 3 rfl) ?_
    refine l_get hM hL ((up_ne hne).trans hks) fL_127 hc2 dL_list_29 ?_
    refine l_len hM hL (up_eq _ _ _) dL_list_32 ?_
    refine lv_icmp_ge (tgt := 94) hx hb dL_list_33 rfl (fun hc33 => absurd ((ni_le (by omega) (by omega)).mp hc33) (by omega)) (fun hc33 => ?_)
    refine lv_aload_n hx hb dL_list_36 rfl (lv_at hl 3 rfl) ?_
    refine l_get hM hL ((up_ne hne).trans hks) fL_127 hc2 dL_list_37 ?_
    refine lv_iload_n hx hb dL_list_40 rfl (lv_at hl 0 rfl) ?_
    refine lv_aload_n hx hb dL_list_41 rfl (lv_at hl 1 rfl) ?_
    refine lv_iconst (v := 0) hx hb dL_list_42 rfl ?_
    refine l_cell (q := 0) hM hL hl.1 hB (by omega) hR1 (Nat.le_of_ble_eq_true rfl) hf0 dL_list_43 fun H1 locs1 hL => ?_
    refine lv_iconst (v := 3) hx hb dL_list_46 rfl ?_
    refine lv_iconst (v := 4) hx hb dL_list_47 rfl ?_
    refine lv_iload_n hx hb dL_list_48 rfl (lv_at hl 0 rfl) ?_
    refine lv_imul hx hb dL_list_49 ?_
    refine lv_iadd hx hb dL_list_50 ?_
    refine lv_ishr hx hb dL_list_51 ?_
    refine lv_bipush (v := 10) hx hb dL_list_52 rfl ?_
    refine l_below (b9 := 10) hM hL hl.1 (by omega) (by omega) hR1 (Nat.le_of_ble_eq_true rfl) hf0 dL_list_54 fun H1 locs1 hL => ?_
    rw [show bel (cel L0 xs 0 >>> ((3 + 4 * nI i) &&& 31)) 10 = loX L0 xs i from rfl]
    refine l_ia (k := pl) hM hL (up_eq _ _ _) (j := i) (nI_clamp (by omega)) (vin hlt (by omega)) dL_list_57 fun v1 H1 locs1 hL => ?_
    rw [up_up, loG_s] at hL
    refine lv_aload_n hx hb dL_list_58 rfl (lv_at hl 2 rfl) ?_
    refine s_lit (i := 34) (B := tx131) (M := 7) hM hL.1 rfl (by decide) dL_list_59 fun ad131 hT131 => ?_
    refine l_apS hM hL hkt hp0 hl.1 (B := tx131) (M := 7) hT131 (by omega) (by omega) hR6 (Nat.le_of_ble_eq_true rfl) ⟨by omega, by omega⟩ dL_list_61 fun sh1 v1 n1 H1 locs1 hL => ?_
    replace hf0 : cells + 5 * i + 1 ≤ R.cells ∧ slots + 30000 * i + 6000 ≤ R.slots := ⟨by omega, by omega⟩
    refine lv_iload_n hx hb dL_list_64 rfl (lv_at hl 0 rfl) ?_
    refine l_apI (z0 := i) hM hL hkt hp0 hl.1 (by omega) (by omega) (by omega) hR6 (Nat.le_of_ble_eq_true rfl) ⟨by omega, by omega⟩ dL_list_65 fun sh1 v1 n1 H1 locs1 hL => ?_
    replace hf0 : cells + 5 * i + 1 + 1 ≤ R.cells ∧ slots + 30000 * i + 6000 + 6000 ≤ R.slots := ⟨by omega, by omega⟩
    refine s_lit (i := 35) (B := tx133) (M := 6) hM hL.1 rfl (by decide) dL_list_68 fun ad133 hT133 => ?_
    refine l_apS hM hL hkt hp0 hl.1 (B := tx133) (M := 6) hT133 (by omega) (by omega) hR6 (Nat.le_of_ble_eq_true rfl) ⟨by omega, by omega⟩ dL_list_70 fun sh1 v1 n1 H1 locs1 hL => ?_
    replace hf0 : cells + 5 * i + 1 + 1 + 1 ≤ R.cells ∧ slots + 30000 * i + 6000 + 6000 + 6000 ≤ R.slots := ⟨by omega, by omega⟩
    refine lv_aload_n hx hb dL_list_73 rfl (lv_at hl 3 rfl) ?_
    refine l_get hM hL ((up_ne hne).trans hks) fL_127 hc2 dL_list_74 ?_
    refine lv_iload_n hx hb dL_list_77 rfl (lv_at hl 0 rfl) ?_
    refine l_el (k := pl) hM hL (up_eq _ _ _) (j := i) (nI_clamp (by omega)) (vin hlt (by omega)) (if_pos (Nat.lt_succ_self i)) dL_list_78 ?_
    have hlo : loX L0 xs i < 10 := loX_le
    refine l_apI (z0 := (loX L0 xs i)) hM hL hkt hp0 hl.1 (by omega) (by omega) (by omega) hR6 (Nat.le_of_ble_eq_true rfl) ⟨by omega, by omega⟩ dL_list_79 fun sh1 v1 n1 H1 locs1 hL => ?_
    replace hf0 : cells + 5 * i + 1 + 1 + 1 + 1 ≤ R.cells ∧ slots + 30000 * i + 6000 + 6000 + 6000 + 6000 ≤ R.slots := ⟨by omega, by omega⟩
    refine s_lit (i := 36) (B := tx135) (M := 1) hM hL.1 rfl (by decide) dL_list_82 fun ad135 hT135 => ?_
    refine l_apS hM hL hkt hp0 hl.1 (B := tx135) (M := 1) hT135 (by omega) (by omega) hR6 (Nat.le_of_ble_eq_true rfl) ⟨by omega, by omega⟩ dL_list_84 fun sh1 v1 n1 H1 locs1 hL => ?_
    replace hf0 : cells + 5 * i + 1 + 1 + 1 + 1 + 1 ≤ R.cells ∧ slots + 30000 * i + 6000 + 6000 + 6000 + 6000 + 6000 ≤ R.slots := ⟨by omega, by omega⟩
    refine lv_pop hx hb dL_list_87 rfl ?_
    refine lv_iinc (k := 0) (v := ((nI i) + 1)) (lv' := [(3, .int ((nI i) + 1)), (0, .ref b0), (1, .ref (Γ.2.1 + kt)), (2, .ref (Γ.2.1 + ks))]) hx hb dL_list_88 hl rfl rfl (by decide) rfl fun ls hl => ?_
    refine lv_goto (tgt := 27) hx hb dL_list_91 rfl ?_
    rw [ni_s] at hl
    refine W.widen (k := cells + 5 * (i + 1)) (n := slots + 30000 * (i + 1)) (by omega) (by omega) ?_
    exact ih (i + 1) (by omega) _ _ _ _ _ _ hl (hL.on (C1 := C + 5 * (i + 1)) (N1 := 22 * (i + 1)) (by omega) (by omega))
end LX
