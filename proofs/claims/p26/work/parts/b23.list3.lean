/-! LIST, three: merchants -/
section LX
variable {p : Program} {l : Launch} {e : Env} {R : Room} {s : State} {m : MethodId} {args : Array Value} {below : List Frame} {meth : Method} {c : Code} {H H0 : Heap} {locs : List Loc} {cells slots : Nat} {Q : State → Prop}
variable {cc : ByteArray} {pc nL : Nat} {ls : Array Slot} {st0 rest As Bs : List Value} {Γ : Cx} {sh sh0 shb : Sh} {v v0 v1 : Va} {w : Vl} {own : String} {idx ci j k n n0 nb nn hh mL mc ms a d1 d2 : Nat} {cs : List Nat} {y : MethodName} {b : ByteArray} {ret : Option FieldType} {A : Nat → Prop}
variable {kt p0 C N b0 L0 ks pl nl pg ng pm nm : Nat} {T : List Int32} {P P0 : Pfn} {xs : Nat → Int32}
/-- a merchant's coins and credit, its row, the lines of merchants -/
def meX (L0 : Nat) (xs : Nat → Int32) (i : Nat) : Int32 := cel L0 xs 3 >>> ((4 * nI i) &&& 31)
def meM (L0 : Nat) (xs : Nat → Int32) (i : Nat) : Nat := if bel (meX L0 xs i >>> (4 &&& 31)) 2 = 0 then 10000 else 900
def meK (L0 : Nat) (xs : Nat → Int32) (i : Nat) : Nat := if bel (meX L0 xs i >>> (5 &&& 31)) 2 = 0 then 10000 else 1500
def meC (L0 : Nat) (xs : Nat → Int32) (i : Nat) : Nat := bel (meX L0 xs i) (meM L0 xs i)
def meD (L0 : Nat) (xs : Nat → Int32) (i : Nat) : Nat := bel (meX L0 xs i >>> (2 &&& 31)) (meK L0 xs i)
def meG (L0 : Nat) (xs : Nat → Int32) (i : Nat) : Nat → Int32 := upd (upd (fun _ => 0) 0 (nI (meC L0 xs i))) 1 (nI (meD L0 xs i))
def meE (i : Nat) : List Int32 := if i % 2 = 0 then tx135 else tx161
def meT (T : List Int32) (L0 : Nat) (xs : Nat → Int32) : Nat → List Int32
  | 0 => T
  | i + 1 => ((((((meT T L0 xs i ++ tx155) ++ decL i) ++ tx157) ++ decL (meC L0 xs i)) ++ tx159) ++ decL (meD L0 xs i)) ++ meE i
theorem meM_le {i : Nat} : 1 ≤ meM L0 xs i ∧ meM L0 xs i ≤ 10000 := by unfold meM; split <;> omega
theorem meK_le {i : Nat} : 1 ≤ meK L0 xs i ∧ meK L0 xs i ≤ 10000 := by unfold meK; split <;> omega
theorem meC_le {i : Nat} : meC L0 xs i < 10000 := Nat.lt_of_lt_of_le (bel_lt meM_le.1) meM_le.2
theorem meD_le {i : Nat} : meD L0 xs i < 10000 := Nat.lt_of_lt_of_le (bel_lt meK_le.1) meK_le.2
theorem li_3 (hM : MC Γ p s m args c cL_list 11 d1 d2 sh0 n0) (hER : ER Γ) (hB : SCR Γ sh0 b0 L0 xs) (hkt : kt < n0) (hp0 : p0 < n0) (hn0 : n0 + C + 100 ≤ 1000000) (hnm : nm ≤ 5) (hN : N ≤ 1000) (hR6 : 6 ≤ R.frames ∧ 230 ≤ R.locals) (hR1 : 1 ≤ R.frames ∧ 21 ≤ R.locals) (hcell : cells + 100 ≤ R.cells) (hslot : slots + 300000 ≤ R.slots) {g gg : Nat → Int32} (hc4 : cs[4]? = some (pm + 3)) (hne : ks ≠ pm)
    (kk : ∀ (P : Pfn) (b : Nat → Nat) (sh1 : Sh) (v1 : Va) (n1 : Nat) (H1 : Heap) (locs1 : List Loc) (ls : Array Slot), P ks = some (sO 11 cs, g) → P pm = some (sR nm (rfs nm b), gg) → RWS P0 P pm nm 2 (meG L0 xs) b → OLD P0 P pm → lv_has ls 11 [(3, .int (nI nm)), (0, .ref b0), (1, .ref (Γ.2.1 + kt)), (2, .ref (Γ.2.1 + ks))] → LST Γ s sh0 v0 n0 w kt p0 (C + 8 * nm) (meT T L0 xs nm) (N + 40 * nm) P sh1 v1 n1 H1 locs1 → W p l e R s m args below meth c H1 locs1 (cells + 8 * nm) (slots + 50000 * nm) Q (F0 m 430 ls [])) :
    ∀ (j i : Nat), i + j = nm → ∀ (P : Pfn) (b : Nat → Nat) (sh1 : Sh) (v1 : Va) (n1 : Nat) (H1 : Heap) (locs1 : List Loc) (ls : Array Slot), P ks = some (sO 11 cs, g) → P pm = some (sR nm (rfs i b), gg) → RWS P0 P pm i 2 (meG L0 xs) b → OLD P0 P pm → lv_has ls 11 [(4, .int (nI i)), (3, .int (nI nm)), (0, .ref b0), (1, .ref (Γ.2.1 + kt)), (2, .ref (Γ.2.1 + ks))] → LST Γ s sh0 v0 n0 w kt p0 (C + 8 * i) (meT T L0 xs i) (N + 40 * i) P sh1 v1 n1 H1 locs1 → W p l e R s m args below meth c H1 locs1 (cells + 8 * i) (slots + 50000 * i) Q (F0 m 275 ls []) := by
  obtain ⟨hx, hb, hml, hts, hown, hK, hE, hd, hC, hEL⟩ := id hM
  intro j
  induction j with
  | zero =>
    intro i hij P b sh1 v1 n1 H1 locs1 ls hks hpm hrw hold hl hL
    have hi : i = nm := by omega
    subst hi
    refine lv_iload hx hb dL_list_275 (lv_at hl 0 rfl) ?_
    refine lv_iload_n hx hb dL_list_277 rfl (lv_at hl 1 rfl) ?_
    refine lv_icmp_ge (tgt := 430) hx hb dL_list_278 rfl (fun hc33 => ?_) (fun hc33 => absurd ((ni_le (by omega) (by omega)).mpr (Nat.le_refl _)) hc33)
    exact kk _ _ _ _ _ _ _ _ hks hpm hrw hold (lv_sub hl [1, 2, 3, 4] rfl) hL
  | succ j ih =>
    intro i hij P b sh1 v1 n1 H1 locs1 ls hks hpm hrw hold hl hL
    have hlt : i < nm := by omega
    have hf0 : cells + 8 * i ≤ R.cells ∧ slots + 50000 * i ≤ R.slots := ⟨by omega, by omega⟩
    refine lv_iload hx hb dL_list_275 (lv_at hl 0 rfl) ?_
    refine lv_iload_n hx hb dL_list_277 rfl (lv_at hl 1 rfl) ?_
    refine lv_icmp_ge (tgt := 430) hx hb dL_list_278 rfl (fun hc33 => absurd ((ni_le (by omega) (by omega)).mp hc33) (by omega)) (fun hc33 => ?_)
    refine lv_aload_n hx hb dL_list_281 rfl (lv_at hl 2 rfl) ?_
    refine lv_iconst (v := 3) hx hb dL_list_282 rfl ?_
    refine l_cell (q := 3) hM hL hl.1 hB (by omega) hR1 (Nat.le_of_ble_eq_true rfl) hf0 dL_list_283 fun H1 locs1 hL => ?_
    refine lv_iconst (v := 4) hx hb dL_list_286 rfl ?_
    refine lv_iload hx hb dL_list_287 (lv_at hl 0 rfl) ?_
    refine lv_imul hx hb dL_list_289 ?_
    refine lv_ishr hx hb dL_list_290 ?_
    rw [show cel L0 xs 3 >>> ((4 * nI i) &&& 31) = meX L0 xs i from rfl]
    refine lv_istore (lv' := [(5, .int (meX L0 xs i)), (4, .int (nI i)), (3, .int (nI nm)), (0, .ref b0), (1, .ref (Γ.2.1 + kt)), (2, .ref (Γ.2.1 + ks))]) hx hb dL_list_291 hl (by decide) rfl fun ls hl => ?_
    refine lv_aload_n hx hb dL_list_293 rfl (lv_at hl 5 rfl) ?_
    refine l_get hM hL hks fL_148 hc4 dL_list_294 ?_
    refine lv_iload hx hb dL_list_297 (lv_at hl 1 rfl) ?_
    refine lv_iconst (v := 2) hx hb dL_list_299 rfl ?_
    have hbk0 : ∀ j, j < i → b j < n1 := fun j hj => (hL.lo (hrw j hj).2.1).2
    have hpk2 : pm < n1 := (hL.lo hpm).2
    refine l_new (M := 2) hM hL hkt hp0 (by decide) rfl (by decide) ⟨by omega, by omega⟩ dL_list_300 fun sh1 v1 k1 H1 locs1 hk0 hPk hL hkn => ?_
    replace hf0 : cells + 8 * i + 1 ≤ R.cells ∧ slots + 50000 * i + 2 ≤ R.slots := ⟨by omega, by omega⟩
    rw [← hkn] at hbk0 hpk2
    have hksk : ks ≠ k1 := fun q => by rw [q, hPk] at hks; cases hks
    have hpk : pm ≠ k1 := fun q => by rw [q, hPk] at hpm; cases hpm
    refine lv_dup hx hb dL_list_302 rfl ?_
    refine lv_iconst (v := 0) hx hb dL_list_303 rfl ?_
    refine lv_iload hx hb dL_list_304 (lv_at hl 0 rfl) ?_
    refine lv_iload hx hb dL_list_306 (lv_at hl 0 rfl) ?_
    refine lv_iconst (v := 4) hx hb dL_list_308 rfl ?_
    refine lv_ishr hx hb dL_list_309 ?_
    refine lv_iconst (v := 2) hx hb dL_list_310 rfl ?_
    refine l_below (b9 := 2) hM hL hl.1 (by omega) (by omega) hR1 (Nat.le_of_ble_eq_true rfl) hf0 dL_list_311 fun H1 locs1 hL => ?_
    suffices J9 : W p l e R s m args below meth c H1 locs1 (cells + 8 * i + 1) (slots + 50000 * i + 2) Q (F0 m 326 ls (.int (nI (meM L0 xs i)) :: .int (meX L0 xs i) :: .int 0 :: .ref (Γ.2.1 + k1) :: .ref (Γ.2.1 + k1) :: .int (nI i) :: .ref (Γ.2.1 + pm) :: [])) by
      refine lv_if_ne (tgt := 323) hx hb dL_list_314 rfl (fun hc9 => ?_) (fun hc9 => ?_)
      · have h9 : (meM L0 xs i) = 900 := if_neg (fun q => hc9 ((nI_z9 (by have := bel_lt (x := (meX L0 xs i >>> (4 &&& 31))) (n := 2) (by decide); omega)).mpr q))
        rw [h9] at J9
        exact lv_sipush (v := 900) hx hb dL_list_323 rfl J9
      · have h9 : (meM L0 xs i) = 10000 := if_pos ((nI_z9 (by have := bel_lt (x := (meX L0 xs i >>> (4 &&& 31))) (n := 2) (by decide); omega)).mp hc9)
        rw [h9] at J9
        exact lv_sipush (v := 10000) hx hb dL_list_317 rfl (lv_goto (tgt := 326) hx hb dL_list_320 rfl J9)
    have hgm := meM_le (L0 := L0) (xs := xs) (i := i)
    have hgk := meK_le (L0 := L0) (xs := xs) (i := i)
    refine l_below (b9 := (meM L0 xs i)) hM hL hl.1 (by omega) (by omega) hR1 (Nat.le_of_ble_eq_true rfl) hf0 dL_list_326 fun H1 locs1 hL => ?_
    rw [show bel (meX L0 xs i) (meM L0 xs i) = meC L0 xs i from rfl]
    refine l_ia (k := k1) hM hL (up_eq _ _ _) (j := 0) rfl (vin (i := 0) (by decide) (by decide)) dL_list_329 fun v1 H1 locs1 hL => ?_
    rw [up_up] at hL
    refine lv_dup hx hb dL_list_330 rfl ?_
    refine lv_iconst (v := 1) hx hb dL_list_331 rfl ?_
    refine lv_iload hx hb dL_list_332 (lv_at hl 0 rfl) ?_
    refine lv_iconst (v := 2) hx hb dL_list_334 rfl ?_
    refine lv_ishr hx hb dL_list_335 ?_
    refine lv_iload hx hb dL_list_336 (lv_at hl 0 rfl) ?_
    refine lv_iconst (v := 5) hx hb dL_list_338 rfl ?_
    refine lv_ishr hx hb dL_list_339 ?_
    refine lv_iconst (v := 2) hx hb dL_list_340 rfl ?_
    refine l_below (b9 := 2) hM hL hl.1 (by omega) (by omega) hR1 (Nat.le_of_ble_eq_true rfl) hf0 dL_list_341 fun H1 locs1 hL => ?_
    suffices J9 : W p l e R s m args below meth c H1 locs1 (cells + 8 * i + 1) (slots + 50000 * i + 2) Q (F0 m 356 ls (.int (nI (meK L0 xs i)) :: .int ((meX L0 xs i) >>> ((2 : Int32) &&& 31)) :: .int 1 :: .ref (Γ.2.1 + k1) :: .ref (Γ.2.1 + k1) :: .int (nI i) :: .ref (Γ.2.1 + pm) :: [])) by
      refine lv_if_ne (tgt := 353) hx hb dL_list_344 rfl (fun hc9 => ?_) (fun hc9 => ?_)
      · have h9 : (meK L0 xs i) = 1500 := if_neg (fun q => hc9 ((nI_z9 (by have := bel_lt (x := (meX L0 xs i >>> (5 &&& 31))) (n := 2) (by decide); omega)).mpr q))
        rw [h9] at J9
        exact lv_sipush (v := 1500) hx hb dL_list_353 rfl J9
      · have h9 : (meK L0 xs i) = 10000 := if_pos ((nI_z9 (by have := bel_lt (x := (meX L0 xs i >>> (5 &&& 31))) (n := 2) (by decide); omega)).mp hc9)
        rw [h9] at J9
        exact lv_sipush (v := 10000) hx hb dL_list_347 rfl (lv_goto (tgt := 356) hx hb dL_list_350 rfl J9)
    refine l_below (b9 := (meK L0 xs i)) hM hL hl.1 (by omega) (by omega) hR1 (Nat.le_of_ble_eq_true rfl) hf0 dL_list_356 fun H1 locs1 hL => ?_
    rw [show bel (meX L0 xs i >>> (2 &&& 31)) (meK L0 xs i) = meD L0 xs i from rfl]
    refine l_ia (k := k1) hM hL (up_eq _ _ _) (j := 1) rfl (vin (i := 1) (by decide) (by decide)) dL_list_359 fun v1 H1 locs1 hL => ?_
    rw [up_up] at hL
    rw [show upd (upd (fun _ => 0) 0 (nI (meC L0 xs i))) 1 (nI (meD L0 xs i)) = meG L0 xs i from rfl] at hL
    refine l_aa (k := pm) (r := k1) (j := i) hM hER hL ((up_ne hpk).trans hpm) (up_eq _ _ _) (nI_clamp (by omega)) (vin hlt (by omega)) dL_list_360 fun sh1 H1 locs1 hL => ?_
    rw [rfs_s] at hL
    generalize hP9 : up (up P k1 (some (sA 2, meG L0 xs i))) pm (some (sR nm (rfs (i + 1) (up b i k1)), gg)) = P9 at hL
    have hks9 : P9 ks = some (sO 11 cs, g) := by rw [← hP9, up_ne hne, up_ne hksk]; exact hks
    have hpg9 : P9 pm = some (sR nm (rfs (i + 1) (up b i k1)), gg) := by rw [← hP9, up_eq]
    have hk9 : P9 k1 = some (sA 2, meG L0 xs i) := by rw [← hP9, up_ne (Ne.symm hpk), up_eq]
    have hbk : ∀ j, j < i → b j < k1 ∧ b j ≠ pm := fun j hj => ⟨hbk0 j hj, fun q => by have h9 := (hrw j hj).2.1; rw [q, hpm] at h9; cases h9⟩
    have hz0 : P0 k1 = none := by
      cases h9 : P0 k1 with
      | none => rfl
      | some e9 => exact absurd (hold k1 e9 h9 (Ne.symm hpk)) (by rw [hPk]; exact fun q => by cases q)
    have hrw9 : RWS P0 P9 pm (i + 1) 2 (meG L0 xs) (up b i k1) := hrw.more (fun j hj => by rw [← hP9, up_ne (hbk j hj).2, up_ne (Nat.ne_of_lt (hbk j hj).1)]) hk9 hpk2 hz0 fun j hj => (hbk j hj).1
    have hold9 : OLD P0 P9 pm := fun q e h1 h2 => by rw [← hP9, up_ne h2, up_ne (fun q9 => by have h9 := hold q e h1 h2; rw [q9, hPk] at h9; cases h9)]; exact hold q e h1 h2
    refine lv_aload_n hx hb dL_list_361 rfl (lv_at hl 4 rfl) ?_
    refine s_lit (i := 40) (B := tx155) (M := 10) hM hL.1 rfl (by decide) dL_list_362 fun ad155 hT155 => ?_
    refine l_apS hM hL hkt hp0 hl.1 (B := tx155) (M := 10) hT155 (by omega) (by omega) hR6 (Nat.le_of_ble_eq_true rfl) ⟨by omega, by omega⟩ dL_list_364 fun sh1 v1 n1 H1 locs1 hL => ?_
    replace hf0 : cells + 8 * i + 1 + 1 ≤ R.cells ∧ slots + 50000 * i + 2 + 6000 ≤ R.slots := ⟨by omega, by omega⟩
    refine lv_iload hx hb dL_list_367 (lv_at hl 1 rfl) ?_
    refine l_apI (z0 := i) hM hL hkt hp0 hl.1 (by omega) (by omega) (by omega) hR6 (Nat.le_of_ble_eq_true rfl) ⟨by omega, by omega⟩ dL_list_369 fun sh1 v1 n1 H1 locs1 hL => ?_
    replace hf0 : cells + 8 * i + 1 + 1 + 1 ≤ R.cells ∧ slots + 50000 * i + 2 + 6000 + 6000 ≤ R.slots := ⟨by omega, by omega⟩
    refine s_lit (i := 41) (B := tx157) (M := 7) hM hL.1 rfl (by decide) dL_list_372 fun ad157 hT157 => ?_
    refine l_apS hM hL hkt hp0 hl.1 (B := tx157) (M := 7) hT157 (by omega) (by omega) hR6 (Nat.le_of_ble_eq_true rfl) ⟨by omega, by omega⟩ dL_list_374 fun sh1 v1 n1 H1 locs1 hL => ?_
    replace hf0 : cells + 8 * i + 1 + 1 + 1 + 1 ≤ R.cells ∧ slots + 50000 * i + 2 + 6000 + 6000 + 6000 ≤ R.slots := ⟨by omega, by omega⟩
    have hg1 := meC_le (L0 := L0) (xs := xs) (i := i)
    have hg2 := meD_le (L0 := L0) (xs := xs) (i := i)
    refine lv_aload_n hx hb dL_list_377 rfl (lv_at hl 5 rfl) ?_
    refine l_get hM hL hks9 fL_148 hc4 dL_list_378 ?_
    refine lv_iload hx hb dL_list_381 (lv_at hl 1 rfl) ?_
    refine l_aald hM hL hpg9 (j := i) (r := k1) (nI_clamp (by omega)) (vin hlt (by omega)) ((if_pos (Nat.lt_succ_self i)).trans (congrArg some (up_eq b i k1))) dL_list_383 ?_
    refine lv_iconst (v := 0) hx hb dL_list_384 rfl ?_
    refine l_el (k := k1) hM hL hk9 (j := 0) rfl (vin (i := 0) (by decide) (by decide)) (x := nI (meC L0 xs i)) rfl dL_list_385 ?_
    refine l_apI (z0 := (meC L0 xs i)) hM hL hkt hp0 hl.1 (by omega) (by omega) (by omega) hR6 (Nat.le_of_ble_eq_true rfl) ⟨by omega, by omega⟩ dL_list_386 fun sh1 v1 n1 H1 locs1 hL => ?_
    replace hf0 : cells + 8 * i + 1 + 1 + 1 + 1 + 1 ≤ R.cells ∧ slots + 50000 * i + 2 + 6000 + 6000 + 6000 + 6000 ≤ R.slots := ⟨by omega, by omega⟩
    refine s_lit (i := 42) (B := tx159) (M := 8) hM hL.1 rfl (by decide) dL_list_389 fun ad159 hT159 => ?_
    refine l_apS hM hL hkt hp0 hl.1 (B := tx159) (M := 8) hT159 (by omega) (by omega) hR6 (Nat.le_of_ble_eq_true rfl) ⟨by omega, by omega⟩ dL_list_391 fun sh1 v1 n1 H1 locs1 hL => ?_
    replace hf0 : cells + 8 * i + 1 + 1 + 1 + 1 + 1 + 1 ≤ R.cells ∧ slots + 50000 * i + 2 + 6000 + 6000 + 6000 + 6000 + 6000 ≤ R.slots := ⟨by omega, by omega⟩
    refine lv_aload_n hx hb dL_list_394 rfl (lv_at hl 5 rfl) ?_
    refine l_get hM hL hks9 fL_148 hc4 dL_list_395 ?_
    refine lv_iload hx hb dL_list_398 (lv_at hl 1 rfl) ?_
    refine l_aald hM hL hpg9 (j := i) (r := k1) (nI_clamp (by omega)) (vin hlt (by omega)) ((if_pos (Nat.lt_succ_self i)).trans (congrArg some (up_eq b i k1))) dL_list_400 ?_
    refine lv_iconst (v := 1) hx hb dL_list_401 rfl ?_
    refine l_el (k := k1) hM hL hk9 (j := 1) rfl (vin (i := 1) (by decide) (by decide)) (x := nI (meD L0 xs i)) rfl dL_list_402 ?_
    refine l_apI (z0 := (meD L0 xs i)) hM hL hkt hp0 hl.1 (by omega) (by omega) (by omega) hR6 (Nat.le_of_ble_eq_true rfl) ⟨by omega, by omega⟩ dL_list_403 fun sh1 v1 n1 H1 locs1 hL => ?_
    replace hf0 : cells + 8 * i + 1 + 1 + 1 + 1 + 1 + 1 + 1 ≤ R.cells ∧ slots + 50000 * i + 2 + 6000 + 6000 + 6000 + 6000 + 6000 + 6000 ≤ R.slots := ⟨by omega, by omega⟩
    refine lv_iload hx hb dL_list_406 (lv_at hl 1 rfl) ?_
    refine lv_iconst (v := 2) hx hb dL_list_408 rfl ?_
    refine lv_irem hx hb dL_list_409 (by decide) ?_
    refine t_top (x' := nI (i % 2)) (nn_rem (a := i) (b := 2) (by omega) (by omega)) ?_
    suffices J9 : ∀ ad : Nat, SV Γ sh1 v1 ad (meE i) ∧ (meE i).length ≤ 3 → W p l e R s m args below meth c H1 locs1 (cells + 8 * i + 1 + 1 + 1 + 1 + 1 + 1 + 1) (slots + 50000 * i + 2 + 6000 + 6000 + 6000 + 6000 + 6000 + 6000) Q (F0 m 420 ls (.ref ad :: .ref (Γ.2.1 + kt) :: [])) by
      refine lv_if_ne (tgt := 418) hx hb dL_list_410 rfl (fun hc9 => ?_) (fun hc9 => ?_)
      · have h9 : meE i = tx161 := if_neg (fun q => hc9 ((nI_z9 (by omega)).mpr q))
        refine s_lit (i := 43) (B := tx161) (M := 3) hM hL.1 rfl (by decide) dL_list_418 fun ad9 hT9 => ?_
        exact J9 ad9 (by rw [h9]; exact hT9)
      · have h9 : meE i = tx135 := if_pos ((nI_z9 (by omega)).mp hc9)
        refine s_lit (i := 36) (B := tx135) (M := 3) hM hL.1 rfl (by decide) dL_list_413 fun ad9 hT9 => ?_
        exact lv_goto (tgt := 420) hx hb dL_list_415 rfl (J9 ad9 (by rw [h9]; exact hT9))
    intro ad9 hT9
    refine l_apS hM hL hkt hp0 hl.1 (B := (meE i)) (M := 3) hT9 (by omega) (by omega) hR6 (Nat.le_of_ble_eq_true rfl) ⟨by omega, by omega⟩ dL_list_420 fun sh1 v1 n1 H1 locs1 hL => ?_
    replace hf0 : cells + 8 * i + 1 + 1 + 1 + 1 + 1 + 1 + 1 + 1 ≤ R.cells ∧ slots + 50000 * i + 2 + 6000 + 6000 + 6000 + 6000 + 6000 + 6000 + 6000 ≤ R.slots := ⟨by omega, by omega⟩
    refine lv_pop hx hb dL_list_423 rfl ?_
    refine lv_iinc (k := 1) (v := ((nI i) + 1)) (lv' := [(4, .int ((nI i) + 1)), (5, .int (meX L0 xs i)), (3, .int (nI nm)), (0, .ref b0), (1, .ref (Γ.2.1 + kt)), (2, .ref (Γ.2.1 + ks))]) hx hb dL_list_424 hl rfl rfl (by decide) rfl fun ls hl => ?_
    refine lv_goto (tgt := 275) hx hb dL_list_427 rfl ?_
    rw [ni_s] at hl
    refine W.widen (k := cells + 8 * (i + 1)) (n := slots + 50000 * (i + 1)) (by omega) (by omega) ?_
    exact ih (i + 1) (by omega) P9 _ _ _ _ _ _ _ hks9 hpg9 hrw9 hold9 (lv_sub hl [0, 2, 3, 4, 5] rfl) (hL.on (C1 := C + 8 * (i + 1)) (N1 := N + 40 * (i + 1)) (by omega) (by omega))
end LX
