/-! LIST, four: lots -/
section LX
variable {p : Program} {l : Launch} {e : Env} {R : Room} {s : State} {m : MethodId} {args : Array Value} {below : List Frame} {meth : Method} {c : Code} {H H0 : Heap} {locs : List Loc} {cells slots : Nat} {Q : State → Prop}
variable {cc : ByteArray} {pc nL : Nat} {ls : Array Slot} {st0 rest As Bs : List Value} {Γ : Cx} {sh sh0 shb : Sh} {v v0 v1 : Va} {w : Vl} {own : String} {idx ci j k n n0 nb nn hh mL mc ms a d1 d2 : Nat} {cs : List Nat} {y : MethodName} {b : ByteArray} {ret : Option FieldType} {A : Nat → Prop}
variable {kt p0 C N b0 L0 ks pl nl pg ng pm nm pt nt : Nat} {T : List Int32} {P P0 : Pfn} {xs : Nat → Int32}
/-- a lot's spice, sacks and merchant, its row, the lines of lots -/
def ltX (L0 : Nat) (xs : Nat → Int32) (i : Nat) : Int32 := cel L0 xs 5 >>> ((4 * nI i) &&& 31)
def ltK (L0 : Nat) (xs : Nat → Int32) (i : Nat) : Nat := 1 + bel (ltX L0 xs i >>> (3 &&& 31)) 90
def ltS (nl L0 : Nat) (xs : Nat → Int32) (i : Nat) : Nat := bel (ltX L0 xs i) nl
def ltM (nm L0 : Nat) (xs : Nat → Int32) (i : Nat) : Nat := bel (ltX L0 xs i >>> (5 &&& 31)) nm
def ltG (nl nm L0 : Nat) (xs : Nat → Int32) (i : Nat) : Nat → Int32 := upd (upd (upd (upd (upd (upd (fun _ => 0) 0 (nI (ltS nl L0 xs i))) 1 (nI (100 * ltK L0 xs i))) 2 (nI (ltM nm L0 xs i))) 3 (-1)) 4 0) 5 0
def ltT (nl nm : Nat) (T : List Int32) (L0 : Nat) (xs : Nat → Int32) : Nat → List Int32
  | 0 => T
  | i + 1 => ((((((((ltT nl nm T L0 xs i ++ tx166) ++ decL i) ++ tx168) ++ decL (ltS nl L0 xs i)) ++ tx170) ++ decL (ltK L0 xs i)) ++ tx172) ++ decL (ltM nm L0 xs i)) ++ tx135
theorem ltK_le {i : Nat} : 1 ≤ ltK L0 xs i ∧ ltK L0 xs i ≤ 90 := by
  have := bel_lt (x := ltX L0 xs i >>> (3 &&& 31)) (n := 90) (by decide)
  unfold ltK
  omega
theorem ltS_le {i : Nat} (h : 1 ≤ nl) : ltS nl L0 xs i < nl := bel_lt h
theorem ltM_le {i : Nat} (h : 1 ≤ nm) : ltM nm L0 xs i < nm := bel_lt h
theorem li_4 (hM : MC Γ p s m args c cL_list 11 d1 d2 sh0 n0) (hER : ER Γ) (hB : SCR Γ sh0 b0 L0 xs) (hkt : kt < n0) (hp0 : p0 < n0) (hn0 : n0 + C + 100 ≤ 1000000) (hnt : nt ≤ 5) (hN : N ≤ 1000) (hR6 : 6 ≤ R.frames ∧ 230 ≤ R.locals) (hR1 : 1 ≤ R.frames ∧ 21 ≤ R.locals) (hcell : cells + 100 ≤ R.cells) (hslot : slots + 400000 ≤ R.slots) {g gg gl : Nat → Int32} (hc2 : cs[2]? = some (pl + 3)) (hc6 : cs[6]? = some (pt + 3)) (hne : ks ≠ pt) (hnl : 1 ≤ nl ∧ nl ≤ 3) (hnm : 1 ≤ nm ∧ nm ≤ 5) (hpl0 : P0 pl = some (sA nl, gl)) (hplt : pl ≠ pt)
    (kk : ∀ (P : Pfn) (b : Nat → Nat) (sh1 : Sh) (v1 : Va) (n1 : Nat) (H1 : Heap) (locs1 : List Loc) (ls : Array Slot), P ks = some (sO 11 cs, g) → P pt = some (sR nt (rfs nt b), gg) → RWS P0 P pt nt 6 (ltG nl nm L0 xs) b → OLD P0 P pt → lv_has ls 11 [(3, .int (nI nm)), (0, .ref b0), (1, .ref (Γ.2.1 + kt)), (2, .ref (Γ.2.1 + ks))] → LST Γ s sh0 v0 n0 w kt p0 (C + 10 * nt) (ltT nl nm T L0 xs nt) (N + 40 * nt) P sh1 v1 n1 H1 locs1 → W p l e R s m args below meth c H1 locs1 (cells + 10 * nt) (slots + 60000 * nt) Q (F0 m 608 ls [])) :
    ∀ (j i : Nat), i + j = nt → ∀ (P : Pfn) (b : Nat → Nat) (sh1 : Sh) (v1 : Va) (n1 : Nat) (H1 : Heap) (locs1 : List Loc) (ls : Array Slot), P ks = some (sO 11 cs, g) → P pt = some (sR nt (rfs i b), gg) → RWS P0 P pt i 6 (ltG nl nm L0 xs) b → OLD P0 P pt → lv_has ls 11 [(4, .int (nI i)), (3, .int (nI nm)), (0, .ref b0), (1, .ref (Γ.2.1 + kt)), (2, .ref (Γ.2.1 + ks))] → LST Γ s sh0 v0 n0 w kt p0 (C + 10 * i) (ltT nl nm T L0 xs i) (N + 40 * i) P sh1 v1 n1 H1 locs1 → W p l e R s m args below meth c H1 locs1 (cells + 10 * i) (slots + 60000 * i) Q (F0 m 451 ls []) := by
  obtain ⟨hx, hb, hml, hts, hown, hK, hE, hd, hC, hEL⟩ := id hM
  intro j
  induction j with
  | zero =>
    intro i hij P b sh1 v1 n1 H1 locs1 ls hks hpt hrw hold hl hL
    have hi : i = nt := by omega
    subst hi
    refine lv_iload hx hb dL_list_451 (lv_at hl 0 rfl) ?_
    refine lv_aload_n hx hb dL_list_453 rfl (lv_at hl 4 rfl) ?_
    refine l_get hM hL hks fL_163 hc6 dL_list_454 ?_
    refine l_lenR hM hL hpt dL_list_457 ?_
    refine lv_icmp_ge (tgt := 608) hx hb dL_list_458 rfl (fun hc33 => ?_) (fun hc33 => absurd ((ni_le (by omega) (by omega)).mpr (Nat.le_refl _)) hc33)
    exact kk _ _ _ _ _ _ _ _ hks hpt hrw hold (lv_sub hl [1, 2, 3, 4] rfl) hL
  | succ j ih =>
    intro i hij P b sh1 v1 n1 H1 locs1 ls hks hpt hrw hold hl hL
    have hlt : i < nt := by omega
    have hpl : P pl = some (sA nl, gl) := hold _ _ hpl0 hplt
    have hf0 : cells + 10 * i ≤ R.cells ∧ slots + 60000 * i ≤ R.slots := ⟨by omega, by omega⟩
    refine lv_iload hx hb dL_list_451 (lv_at hl 0 rfl) ?_
    refine lv_aload_n hx hb dL_list_453 rfl (lv_at hl 4 rfl) ?_
    refine l_get hM hL hks fL_163 hc6 dL_list_454 ?_
    refine l_lenR hM hL hpt dL_list_457 ?_
    refine lv_icmp_ge (tgt := 608) hx hb dL_list_458 rfl (fun hc33 => absurd ((ni_le (by omega) (by omega)).mp hc33) (by omega)) (fun hc33 => ?_)
    refine lv_aload_n hx hb dL_list_461 rfl (lv_at hl 2 rfl) ?_
    refine lv_iconst (v := 5) hx hb dL_list_462 rfl ?_
    refine l_cell (q := 5) hM hL hl.1 hB (by omega) hR1 (Nat.le_of_ble_eq_true rfl) hf0 dL_list_463 fun H1 locs1 hL => ?_
    refine lv_iconst (v := 4) hx hb dL_list_466 rfl ?_
    refine lv_iload hx hb dL_list_467 (lv_at hl 0 rfl) ?_
    refine lv_imul hx hb dL_list_469 ?_
    refine lv_ishr hx hb dL_list_470 ?_
    rw [show cel L0 xs 5 >>> ((4 * nI i) &&& 31) = ltX L0 xs i from rfl]
    refine lv_istore (lv' := [(5, .int (ltX L0 xs i)), (4, .int (nI i)), (3, .int (nI nm)), (0, .ref b0), (1, .ref (Γ.2.1 + kt)), (2, .ref (Γ.2.1 + ks))]) hx hb dL_list_471 hl (by decide) rfl fun ls hl => ?_
    refine lv_iconst (v := 1) hx hb dL_list_473 rfl ?_
    refine lv_iload hx hb dL_list_474 (lv_at hl 0 rfl) ?_
    refine lv_iconst (v := 3) hx hb dL_list_476 rfl ?_
    refine lv_ishr hx hb dL_list_477 ?_
    refine lv_bipush (v := 90) hx hb dL_list_478 rfl ?_
    refine l_below (b9 := 90) hM hL hl.1 (by omega) (by omega) hR1 (Nat.le_of_ble_eq_true rfl) hf0 dL_list_480 fun H1 locs1 hL => ?_
    refine lv_iadd hx hb dL_list_483 ?_
    refine t_top (x' := nI (ltK L0 xs i)) (nI_add 1 _) ?_
    refine lv_istore (lv' := [(6, .int (nI (ltK L0 xs i))), (5, .int (ltX L0 xs i)), (4, .int (nI i)), (3, .int (nI nm)), (0, .ref b0), (1, .ref (Γ.2.1 + kt)), (2, .ref (Γ.2.1 + ks))]) hx hb dL_list_484 hl (by decide) rfl fun ls hl => ?_
    refine lv_aload_n hx hb dL_list_486 rfl (lv_at hl 6 rfl) ?_
    refine l_get hM hL hks fL_163 hc6 dL_list_487 ?_
    refine lv_iload hx hb dL_list_490 (lv_at hl 2 rfl) ?_
    refine lv_bipush (v := 6) hx hb dL_list_492 rfl ?_
    have hbk0 : ∀ j, j < i → b j < n1 := fun j hj => (hL.lo (hrw j hj).2.1).2
    have hpk2 : pt < n1 := (hL.lo hpt).2
    refine l_new (M := 6) hM hL hkt hp0 (by decide) rfl (by decide) ⟨by omega, by omega⟩ dL_list_494 fun sh1 v1 k1 H1 locs1 hk0 hPk hL hkn => ?_
    replace hf0 : cells + 10 * i + 1 ≤ R.cells ∧ slots + 60000 * i + 6 ≤ R.slots := ⟨by omega, by omega⟩
    rw [← hkn] at hbk0 hpk2
    have hksk : ks ≠ k1 := fun q => by rw [q, hPk] at hks; cases hks
    have hpk : pt ≠ k1 := fun q => by rw [q, hPk] at hpt; cases hpt
    have hplk : pl ≠ k1 := fun q => by rw [q, hPk] at hpl; cases hpl
    refine lv_dup hx hb dL_list_496 rfl ?_
    refine lv_iconst (v := 0) hx hb dL_list_497 rfl ?_
    refine lv_iload hx hb dL_list_498 (lv_at hl 1 rfl) ?_
    refine lv_aload_n hx hb dL_list_500 rfl (lv_at hl 6 rfl) ?_
    refine l_get hM hL ((up_ne hksk).trans hks) fL_127 hc2 dL_list_501 ?_
    refine l_len hM hL ((up_ne hplk).trans hpl) dL_list_504 ?_
    refine l_below (b9 := nl) hM hL hl.1 (by omega) (by omega) hR1 (Nat.le_of_ble_eq_true rfl) hf0 dL_list_505 fun H1 locs1 hL => ?_
    rw [show bel (ltX L0 xs i) nl = ltS nl L0 xs i from rfl]
    refine l_ia (k := k1) hM hL (up_eq _ _ _) (j := 0) rfl (vin (i := 0) (by decide) (by decide)) dL_list_508 fun v1 H1 locs1 hL => ?_
    rw [up_up] at hL
    refine lv_dup hx hb dL_list_509 rfl ?_
    refine lv_iconst (v := 1) hx hb dL_list_510 rfl ?_
    refine lv_bipush (v := 100) hx hb dL_list_511 rfl ?_
    refine lv_iload hx hb dL_list_513 (lv_at hl 0 rfl) ?_
    refine lv_imul hx hb dL_list_515 ?_
    refine t_top (x' := nI (100 * ltK L0 xs i)) (Int32.ofNat_mul 100 _).symm ?_
    refine l_ia (k := k1) hM hL (up_eq _ _ _) (j := 1) rfl (vin (i := 1) (by decide) (by decide)) dL_list_516 fun v1 H1 locs1 hL => ?_
    rw [up_up] at hL
    refine lv_dup hx hb dL_list_517 rfl ?_
    refine lv_iconst (v := 2) hx hb dL_list_518 rfl ?_
    refine lv_iload hx hb dL_list_519 (lv_at hl 1 rfl) ?_
    refine lv_iconst (v := 5) hx hb dL_list_521 rfl ?_
    refine lv_ishr hx hb dL_list_522 ?_
    refine lv_iload_n hx hb dL_list_523 rfl (lv_at hl 3 rfl) ?_
    refine l_below (b9 := nm) hM hL hl.1 (by omega) (by omega) hR1 (Nat.le_of_ble_eq_true rfl) hf0 dL_list_524 fun H1 locs1 hL => ?_
    rw [show bel (ltX L0 xs i >>> (5 &&& 31)) nm = ltM nm L0 xs i from rfl]
    refine l_ia (k := k1) hM hL (up_eq _ _ _) (j := 2) rfl (vin (i := 2) (by decide) (by decide)) dL_list_527 fun v1 H1 locs1 hL => ?_
    rw [up_up] at hL
    refine lv_dup hx hb dL_list_528 rfl ?_
    refine lv_iconst (v := 3) hx hb dL_list_529 rfl ?_
    refine lv_iconst (v := (-1)) hx hb dL_list_530 rfl ?_
    refine l_ia (k := k1) hM hL (up_eq _ _ _) (j := 3) rfl (vin (i := 3) (by decide) (by decide)) dL_list_531 fun v1 H1 locs1 hL => ?_
    rw [up_up] at hL
    refine lv_dup hx hb dL_list_532 rfl ?_
    refine lv_iconst (v := 4) hx hb dL_list_533 rfl ?_
    refine lv_iconst (v := 0) hx hb dL_list_534 rfl ?_
    refine l_ia (k := k1) hM hL (up_eq _ _ _) (j := 4) rfl (vin (i := 4) (by decide) (by decide)) dL_list_535 fun v1 H1 locs1 hL => ?_
    rw [up_up] at hL
    refine lv_dup hx hb dL_list_536 rfl ?_
    refine lv_iconst (v := 5) hx hb dL_list_537 rfl ?_
    refine lv_iconst (v := 0) hx hb dL_list_538 rfl ?_
    refine l_ia (k := k1) hM hL (up_eq _ _ _) (j := 5) rfl (vin (i := 5) (by decide) (by decide)) dL_list_539 fun v1 H1 locs1 hL => ?_
    rw [up_up] at hL
    rw [show upd (upd (upd (upd (upd (upd (fun _ => 0) 0 (nI (ltS nl L0 xs i))) 1 (nI (100 * ltK L0 xs i))) 2 (nI (ltM nm L0 xs i))) 3 (-1)) 4 0) 5 0 = ltG nl nm L0 xs i from rfl] at hL
    refine l_aa (k := pt) (r := k1) (j := i) hM hER hL ((up_ne hpk).trans hpt) (up_eq _ _ _) (nI_clamp (by omega)) (vin hlt (by omega)) dL_list_540 fun sh1 H1 locs1 hL => ?_
    rw [rfs_s] at hL
    generalize hP9 : up (up P k1 (some (sA 6, ltG nl nm L0 xs i))) pt (some (sR nt (rfs (i + 1) (up b i k1)), gg)) = P9 at hL
    have hks9 : P9 ks = some (sO 11 cs, g) := by rw [← hP9, up_ne hne, up_ne hksk]; exact hks
    have hpg9 : P9 pt = some (sR nt (rfs (i + 1) (up b i k1)), gg) := by rw [← hP9, up_eq]
    have hk9 : P9 k1 = some (sA 6, ltG nl nm L0 xs i) := by rw [← hP9, up_ne (Ne.symm hpk), up_eq]
    have hbk : ∀ j, j < i → b j < k1 ∧ b j ≠ pt := fun j hj => ⟨hbk0 j hj, fun q => by have h9 := (hrw j hj).2.1; rw [q, hpt] at h9; cases h9⟩
    have hz0 : P0 k1 = none := by
      cases h9 : P0 k1 with
      | none => rfl
      | some e9 => exact absurd (hold k1 e9 h9 (Ne.symm hpk)) (by rw [hPk]; exact fun q => by cases q)
    have hrw9 : RWS P0 P9 pt (i + 1) 6 (ltG nl nm L0 xs) (up b i k1) := hrw.more (fun j hj => by rw [← hP9, up_ne (hbk j hj).2, up_ne (Nat.ne_of_lt (hbk j hj).1)]) hk9 hpk2 hz0 fun j hj => (hbk j hj).1
    have hold9 : OLD P0 P9 pt := fun q e h1 h2 => by rw [← hP9, up_ne h2, up_ne (fun q9 => by have h9 := hold q e h1 h2; rw [q9, hPk] at h9; cases h9)]; exact hold q e h1 h2
    have hg1 := ltS_le (L0 := L0) (xs := xs) (i := i) hnl.1
    have hg2 := ltK_le (L0 := L0) (xs := xs) (i := i)
    have hg3 := ltM_le (L0 := L0) (xs := xs) (i := i) hnm.1
    refine lv_aload_n hx hb dL_list_541 rfl (lv_at hl 5 rfl) ?_
    refine s_lit (i := 44) (B := tx166) (M := 5) hM hL.1 rfl (by decide) dL_list_542 fun ad166 hT166 => ?_
    refine l_apS hM hL hkt hp0 hl.1 (B := tx166) (M := 5) hT166 (by omega) (by omega) hR6 (Nat.le_of_ble_eq_true rfl) ⟨by omega, by omega⟩ dL_list_544 fun sh1 v1 n1 H1 locs1 hL => ?_
    replace hf0 : cells + 10 * i + 1 + 1 ≤ R.cells ∧ slots + 60000 * i + 6 + 6000 ≤ R.slots := ⟨by omega, by omega⟩
    refine lv_iload hx hb dL_list_547 (lv_at hl 2 rfl) ?_
    refine l_apI (z0 := i) hM hL hkt hp0 hl.1 (by omega) (by omega) (by omega) hR6 (Nat.le_of_ble_eq_true rfl) ⟨by omega, by omega⟩ dL_list_549 fun sh1 v1 n1 H1 locs1 hL => ?_
    replace hf0 : cells + 10 * i + 1 + 1 + 1 ≤ R.cells ∧ slots + 60000 * i + 6 + 6000 + 6000 ≤ R.slots := ⟨by omega, by omega⟩
    refine s_lit (i := 45) (B := tx168) (M := 5) hM hL.1 rfl (by decide) dL_list_552 fun ad168 hT168 => ?_
    refine l_apS hM hL hkt hp0 hl.1 (B := tx168) (M := 5) hT168 (by omega) (by omega) hR6 (Nat.le_of_ble_eq_true rfl) ⟨by omega, by omega⟩ dL_list_554 fun sh1 v1 n1 H1 locs1 hL => ?_
    replace hf0 : cells + 10 * i + 1 + 1 + 1 + 1 ≤ R.cells ∧ slots + 60000 * i + 6 + 6000 + 6000 + 6000 ≤ R.slots := ⟨by omega, by omega⟩
    refine lv_aload_n hx hb dL_list_557 rfl (lv_at hl 6 rfl) ?_
    refine l_get hM hL hks9 fL_163 hc6 dL_list_558 ?_
    refine lv_iload hx hb dL_list_561 (lv_at hl 2 rfl) ?_
    refine l_aald hM hL hpg9 (j := i) (r := k1) (nI_clamp (by omega)) (vin hlt (by omega)) ((if_pos (Nat.lt_succ_self i)).trans (congrArg some (up_eq b i k1))) dL_list_563 ?_
    refine lv_iconst (v := 0) hx hb dL_list_564 rfl ?_
    refine l_el (k := k1) hM hL hk9 (j := 0) rfl (vin (i := 0) (by decide) (by decide)) (x := nI (ltS nl L0 xs i)) rfl dL_list_565 ?_
    refine l_apI (z0 := (ltS nl L0 xs i)) hM hL hkt hp0 hl.1 (by omega) (by omega) (by omega) hR6 (Nat.le_of_ble_eq_true rfl) ⟨by omega, by omega⟩ dL_list_566 fun sh1 v1 n1 H1 locs1 hL => ?_
    replace hf0 : cells + 10 * i + 1 + 1 + 1 + 1 + 1 ≤ R.cells ∧ slots + 60000 * i + 6 + 6000 + 6000 + 6000 + 6000 ≤ R.slots := ⟨by omega, by omega⟩
    refine s_lit (i := 46) (B := tx170) (M := 7) hM hL.1 rfl (by decide) dL_list_569 fun ad170 hT170 => ?_
    refine l_apS hM hL hkt hp0 hl.1 (B := tx170) (M := 7) hT170 (by omega) (by omega) hR6 (Nat.le_of_ble_eq_true rfl) ⟨by omega, by omega⟩ dL_list_571 fun sh1 v1 n1 H1 locs1 hL => ?_
    replace hf0 : cells + 10 * i + 1 + 1 + 1 + 1 + 1 + 1 ≤ R.cells ∧ slots + 60000 * i + 6 + 6000 + 6000 + 6000 + 6000 + 6000 ≤ R.slots := ⟨by omega, by omega⟩
    refine lv_iload hx hb dL_list_574 (lv_at hl 0 rfl) ?_
    refine l_apI (z0 := (ltK L0 xs i)) hM hL hkt hp0 hl.1 (by omega) (by omega) (by omega) hR6 (Nat.le_of_ble_eq_true rfl) ⟨by omega, by omega⟩ dL_list_576 fun sh1 v1 n1 H1 locs1 hL => ?_
    replace hf0 : cells + 10 * i + 1 + 1 + 1 + 1 + 1 + 1 + 1 ≤ R.cells ∧ slots + 60000 * i + 6 + 6000 + 6000 + 6000 + 6000 + 6000 + 6000 ≤ R.slots := ⟨by omega, by omega⟩
    refine s_lit (i := 47) (B := tx172) (M := 6) hM hL.1 rfl (by decide) dL_list_579 fun ad172 hT172 => ?_
    refine l_apS hM hL hkt hp0 hl.1 (B := tx172) (M := 6) hT172 (by omega) (by omega) hR6 (Nat.le_of_ble_eq_true rfl) ⟨by omega, by omega⟩ dL_list_581 fun sh1 v1 n1 H1 locs1 hL => ?_
    replace hf0 : cells + 10 * i + 1 + 1 + 1 + 1 + 1 + 1 + 1 + 1 ≤ R.cells ∧ slots + 60000 * i + 6 + 6000 + 6000 + 6000 + 6000 + 6000 + 6000 + 6000 ≤ R.slots := ⟨by omega, by omega⟩
    refine lv_aload_n hx hb dL_list_584 rfl (lv_at hl 6 rfl) ?_
    refine l_get hM hL hks9 fL_163 hc6 dL_list_585 ?_
    refine lv_iload hx hb dL_list_588 (lv_at hl 2 rfl) ?_
    refine l_aald hM hL hpg9 (j := i) (r := k1) (nI_clamp (by omega)) (vin hlt (by omega)) ((if_pos (Nat.lt_succ_self i)).trans (congrArg some (up_eq b i k1))) dL_list_590 ?_
    refine lv_iconst (v := 2) hx hb dL_list_591 rfl ?_
    refine l_el (k := k1) hM hL hk9 (j := 2) rfl (vin (i := 2) (by decide) (by decide)) (x := nI (ltM nm L0 xs i)) rfl dL_list_592 ?_
    refine l_apI (z0 := (ltM nm L0 xs i)) hM hL hkt hp0 hl.1 (by omega) (by omega) (by omega) hR6 (Nat.le_of_ble_eq_true rfl) ⟨by omega, by omega⟩ dL_list_593 fun sh1 v1 n1 H1 locs1 hL => ?_
    replace hf0 : cells + 10 * i + 1 + 1 + 1 + 1 + 1 + 1 + 1 + 1 + 1 ≤ R.cells ∧ slots + 60000 * i + 6 + 6000 + 6000 + 6000 + 6000 + 6000 + 6000 + 6000 + 6000 ≤ R.slots := ⟨by omega, by omega⟩
    refine s_lit (i := 36) (B := tx135) (M := 1) hM hL.1 rfl (by decide) dL_list_596 fun ad135 hT135 => ?_
    refine l_apS hM hL hkt hp0 hl.1 (B := tx135) (M := 1) hT135 (by omega) (by omega) hR6 (Nat.le_of_ble_eq_true rfl) ⟨by omega, by omega⟩ dL_list_598 fun sh1 v1 n1 H1 locs1 hL => ?_
    replace hf0 : cells + 10 * i + 1 + 1 + 1 + 1 + 1 + 1 + 1 + 1 + 1 + 1 ≤ R.cells ∧ slots + 60000 * i + 6 + 6000 + 6000 + 6000 + 6000 + 6000 + 6000 + 6000 + 6000 + 6000 ≤ R.slots := ⟨by omega, by omega⟩
    refine lv_pop hx hb dL_list_601 rfl ?_
    refine lv_iinc (k := 2) (v := ((nI i) + 1)) (lv' := [(4, .int ((nI i) + 1)), (6, .int (nI (ltK L0 xs i))), (5, .int (ltX L0 xs i)), (3, .int (nI nm)), (0, .ref b0), (1, .ref (Γ.2.1 + kt)), (2, .ref (Γ.2.1 + ks))]) hx hb dL_list_602 hl rfl rfl (by decide) rfl fun ls hl => ?_
    refine lv_goto (tgt := 451) hx hb dL_list_605 rfl ?_
    rw [ni_s] at hl
    refine W.widen (k := cells + 10 * (i + 1)) (n := slots + 60000 * (i + 1)) (by omega) (by omega) ?_
    exact ih (i + 1) (by omega) P9 _ _ _ _ _ _ _ hks9 hpg9 hrw9 hold9 (lv_sub hl [0, 3, 4, 5, 6] rfl) (hL.on (C1 := C + 10 * (i + 1)) (N1 := N + 40 * (i + 1)) (by omega) (by omega))
end LX
