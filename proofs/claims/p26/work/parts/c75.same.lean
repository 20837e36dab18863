/-! SIM: isSame, the loops that compare -/
section IZ
variable {p : Program} {l : Launch} {e : Env} {R : Room} {s : State} {m : MethodId} {args : Array Value} {below : List Frame} {meth : Method} {c : Code} {H H0 : Heap} {locs : List Loc} {cells slots : Nat} {Q : State → Prop}
variable {cc : ByteArray} {pc nL : Nat} {ls : Array Slot} {st0 rest As Bs : List Value} {Γ : Cx} {sh sh0 shb : Sh} {v v0 v1 vb vb1 : Va} {w wb : Vl} {own : String} {idx ci j k n n0 nb nn hh mL mc ms a b2 ks S G M L O d1 d2 c0 s0 : Nat} {cs : List Nat} {y : MethodName} {b : ByteArray} {ret : Option FieldType} {pA : Nat → Nat} {pB : Nat → Nat → Nat} {u ua ub ua1 ub1 : Va} {P : Pfn}
theorem is_lot (hX : XM Γ b2 p l s m args c cX12_isSame 10 RX12 shb) (hFR : 12 ≤ R.frames ∧ 480 ≤ R.locals) (hk : k < L) {r pb : Nat} {g : Nat → Int32} (hP : P r = some (sA 7, g)) (hg : ∀ i, i < 7 → g i = lU u k i) (hroom : c0 + 7 ≤ R.cells ∧ s0 + 6 * 7 ≤ R.slots) 
    (kk : ∀ (vb : Va) (H1 : Heap) (locs1 : List Loc) (ls : Array Slot), lv_has ls 10 [(5, .ref (Γ.2.1 + r)), (4, .ref (Γ.2.1 + (pB 4 k))), (3, .int (nI k)), (2, .ref (Γ.2.1 + pb)), (1, .ref (b2 + 0)), (0, .ref (Γ.2.1 + ks))] → DL Γ b2 s w wb shb sh0 n0 ks pA pB S G M L O u u P sh v n vb H1 locs1 → W p l e R s m args below meth c H1 locs1 (c0 + 7) (s0 + 6 * 7) Q (F0 m 147 ls [])) :
    ∀ (j i : Nat), i + j = 7 → ∀ (vb : Va) (H1 : Heap) (locs1 : List Loc) (ls : Array Slot), lv_has ls 10 [(6, .int (nI i)), (5, .ref (Γ.2.1 + r)), (4, .ref (Γ.2.1 + (pB 4 k))), (3, .int (nI k)), (2, .ref (Γ.2.1 + pb)), (1, .ref (b2 + 0)), (0, .ref (Γ.2.1 + ks))] → DL Γ b2 s w wb shb sh0 n0 ks pA pB S G M L O u u P sh v n vb H1 locs1 → W p l e R s m args below meth c H1 locs1 (c0 + i) (s0 + 6 * i) Q (F0 m 117 ls []) := by
  obtain ⟨hx, hb, hml, hts, hown, hK, hE, hb2, hkq, hEX, hlt, -⟩ := (⟨hX.1, hX.2.1, hX.2.2.1, hX.2.2.2.1, hX.2.2.2.2.1, hX.2.2.2.2.2.1, hX.2.2.2.2.2.2.1, hX.2.2.2.2.2.2.2.1, hX.2.2.2.2.2.2.2.2.1, hX.2.2.2.2.2.2.2.2.2.1, hX.2.2.2.2.2.2.2.2.2.2, trivial⟩ : _ ∧ _ ∧ _ ∧ _ ∧ _ ∧ _ ∧ _ ∧ _ ∧ _ ∧ _ ∧ _ ∧ True)
  intro j
  induction j with
  | zero =>
    intro i hij vb H1 locs1 ls hl hL
    have hi : i = 7 := by omega
    subst hi
    refine lv_iload hx hb dX12_isSame_117 (lv_at hl 0 rfl) ?_
    refine lv_bipush (v := 7) hx hb dX12_isSame_119 rfl ?_
    refine lv_icmp_ge (tgt := 147) hx hb dX12_isSame_121 rfl (fun _ => ?_) (fun q => absurd (Int32.le_refl _) q)
    exact kk vb H1 locs1 ls (lv_sub hl [1, 2, 3, 4, 5, 6] rfl) hL
  | succ j ih =>
    intro i hij vb H1 locs1 ls hl hL
    have hi : i < 7 := by omega
    refine lv_iload hx hb dX12_isSame_117 (lv_at hl 0 rfl) ?_
    refine lv_bipush (v := 7) hx hb dX12_isSame_119 rfl ?_
    refine lv_icmp_ge (tgt := 147) hx hb dX12_isSame_121 rfl (fun q => absurd ((le_n (i := 7) (j := i) (by omega) (by omega)).mp q) (by omega)) (fun _ => ?_)
    refine lv_aload_n hx hb dX12_isSame_124 rfl (lv_at hl 5 rfl) ?_
    refine lv_iload_n hx hb dX12_isSame_125 rfl (lv_at hl 3 rfl) ?_
    refine lv_iload hx hb dX12_isSame_126 (lv_at hl 0 rfl) ?_
    refine y_c0 hX hL (fun nb => c_Quay_lot hkq hEX hlt (q_lot hL.qi hk (w := i) (by omega))) kX11_lot xlX12_98 rfl rfl rfl hl.1 (Nat.le_of_ble_eq_true rfl) ⟨by omega, by omega⟩ ⟨by omega, by omega⟩ dX12_isSame_128 fun H1 locs1 hL => ?_
    refine lv_aload hx hb dX12_isSame_131 (lv_at hl 1 rfl) ?_
    refine lv_iload hx hb dX12_isSame_133 (lv_at hl 0 rfl) ?_
    refine y_el (k := r) hX hL hP (j := i) (nI_clamp (by omega)) (vin hi (by omega)) (hg i hi) dX12_isSame_135 ?_
    refine lv_icmp_eq (tgt := 141) hx hb dX12_isSame_136 rfl (fun _ => ?_) (fun q => absurd rfl q)
    refine lv_iinc (k := 0) (v := ((nI i) + 1)) (lv' := [(6, .int ((nI i) + 1)), (5, .ref (Γ.2.1 + r)), (4, .ref (Γ.2.1 + (pB 4 k))), (3, .int (nI k)), (2, .ref (Γ.2.1 + pb)), (1, .ref (b2 + 0)), (0, .ref (Γ.2.1 + ks))]) hx hb dX12_isSame_141 hl rfl rfl (by decide) rfl fun ls hl => ?_
    refine lv_goto (tgt := 117) hx hb dX12_isSame_144 rfl ?_
    rw [ni_s] at hl
    refine W.widen (k := c0 + (i + 1)) (n := s0 + 6 * (i + 1)) (by omega) (by omega) ?_
    exact ih (i + 1) (by omega) _ _ _ _ hl hL
theorem is_mer (hX : XM Γ b2 p l s m args c cX12_isSame 10 RX12 shb) (hFR : 12 ≤ R.frames ∧ 480 ≤ R.locals) (hk : k < M) {r pb : Nat} {g : Nat → Int32} (hP : P r = some (sA 6, g)) (hg : ∀ i, i < 6 → g i = mU u L k i) (hroom : c0 + 6 ≤ R.cells ∧ s0 + 6 * 6 ≤ R.slots) 
    (kk : ∀ (vb : Va) (H1 : Heap) (locs1 : List Loc) (ls : Array Slot), lv_has ls 10 [(6, .ref (Γ.2.1 + r)), (3, .int (nI k)), (2, .ref (Γ.2.1 + pb)), (1, .ref (b2 + 0)), (0, .ref (Γ.2.1 + ks))] → DL Γ b2 s w wb shb sh0 n0 ks pA pB S G M L O u u P sh v n vb H1 locs1 → W p l e R s m args below meth c H1 locs1 (c0 + 6) (s0 + 6 * 6) Q (F0 m 347 ls [])) :
    ∀ (j i : Nat), i + j = 6 → ∀ (vb : Va) (H1 : Heap) (locs1 : List Loc) (ls : Array Slot), lv_has ls 10 [(7, .int (nI i)), (6, .ref (Γ.2.1 + r)), (3, .int (nI k)), (2, .ref (Γ.2.1 + pb)), (1, .ref (b2 + 0)), (0, .ref (Γ.2.1 + ks))] → DL Γ b2 s w wb shb sh0 n0 ks pA pB S G M L O u u P sh v n vb H1 locs1 → W p l e R s m args below meth c H1 locs1 (c0 + i) (s0 + 6 * i) Q (F0 m 317 ls []) := by
  obtain ⟨hx, hb, hml, hts, hown, hK, hE, hb2, hkq, hEX, hlt, -⟩ := (⟨hX.1, hX.2.1, hX.2.2.1, hX.2.2.2.1, hX.2.2.2.2.1, hX.2.2.2.2.2.1, hX.2.2.2.2.2.2.1, hX.2.2.2.2.2.2.2.1, hX.2.2.2.2.2.2.2.2.1, hX.2.2.2.2.2.2.2.2.2.1, hX.2.2.2.2.2.2.2.2.2.2, trivial⟩ : _ ∧ _ ∧ _ ∧ _ ∧ _ ∧ _ ∧ _ ∧ _ ∧ _ ∧ _ ∧ _ ∧ True)
  intro j
  induction j with
  | zero =>
    intro i hij vb H1 locs1 ls hl hL
    have hi : i = 6 := by omega
    subst hi
    refine lv_iload hx hb dX12_isSame_317 (lv_at hl 0 rfl) ?_
    refine lv_bipush (v := 6) hx hb dX12_isSame_319 rfl ?_
    refine lv_icmp_ge (tgt := 347) hx hb dX12_isSame_321 rfl (fun _ => ?_) (fun q => absurd (Int32.le_refl _) q)
    exact kk vb H1 locs1 ls (lv_sub hl [1, 2, 3, 4, 5] rfl) hL
  | succ j ih =>
    intro i hij vb H1 locs1 ls hl hL
    have hi : i < 6 := by omega
    refine lv_iload hx hb dX12_isSame_317 (lv_at hl 0 rfl) ?_
    refine lv_bipush (v := 6) hx hb dX12_isSame_319 rfl ?_
    refine lv_icmp_ge (tgt := 347) hx hb dX12_isSame_321 rfl (fun q => absurd ((le_n (i := 6) (j := i) (by omega) (by omega)).mp q) (by omega)) (fun _ => ?_)
    refine lv_aload_n hx hb dX12_isSame_324 rfl (lv_at hl 4 rfl) ?_
    refine lv_iload_n hx hb dX12_isSame_325 rfl (lv_at hl 2 rfl) ?_
    refine lv_iload hx hb dX12_isSame_326 (lv_at hl 0 rfl) ?_
    refine y_c0 hX hL (fun nb => c_Quay_merchant hkq hEX hlt (q_mer hL.qi (by omega) hk (w := i) (by omega))) kX11_merchant xlX12_106 rfl rfl rfl hl.1 (Nat.le_of_ble_eq_true rfl) ⟨by omega, by omega⟩ ⟨by omega, by omega⟩ dX12_isSame_328 fun H1 locs1 hL => ?_
    refine lv_aload hx hb dX12_isSame_331 (lv_at hl 1 rfl) ?_
    refine lv_iload hx hb dX12_isSame_333 (lv_at hl 0 rfl) ?_
    refine y_el (k := r) hX hL hP (j := i) (nI_clamp (by omega)) (vin hi (by omega)) (hg i hi) dX12_isSame_335 ?_
    refine lv_icmp_eq (tgt := 341) hx hb dX12_isSame_336 rfl (fun _ => ?_) (fun q => absurd rfl q)
    refine lv_iinc (k := 0) (v := ((nI i) + 1)) (lv' := [(7, .int ((nI i) + 1)), (6, .ref (Γ.2.1 + r)), (3, .int (nI k)), (2, .ref (Γ.2.1 + pb)), (1, .ref (b2 + 0)), (0, .ref (Γ.2.1 + ks))]) hx hb dX12_isSame_341 hl rfl rfl (by decide) rfl fun ls hl => ?_
    refine lv_goto (tgt := 317) hx hb dX12_isSame_344 rfl ?_
    rw [ni_s] at hl
    refine W.widen (k := c0 + (i + 1)) (n := s0 + 6 * (i + 1)) (by omega) (by omega) ?_
    exact ih (i + 1) (by omega) _ _ _ _ hl hL
theorem is_gui (hX : XM Γ b2 p l s m args c cX12_isSame 10 RX12 shb) (hFR : 12 ≤ R.frames ∧ 480 ≤ R.locals) (hG4 : G ≤ 4) (hk : k < G) {pb : Nat} (hroom : c0 + 3 ≤ R.cells ∧ s0 + 6 * 3 ≤ R.slots) 
    (kk : ∀ (vb : Va) (H1 : Heap) (locs1 : List Loc) (ls : Array Slot), lv_has ls 10 [(3, .int (nI k)), (2, .ref (Γ.2.1 + pb)), (1, .ref (b2 + 0)), (0, .ref (Γ.2.1 + ks))] → DL Γ b2 s w wb shb sh0 n0 ks pA pB S G M L O u u P sh v n vb H1 locs1 → W p l e R s m args below meth c H1 locs1 (c0 + 3) (s0 + 6 * 3) Q (F0 m 472 ls [])) :
    ∀ (j i : Nat), i + j = 3 → ∀ (vb : Va) (H1 : Heap) (locs1 : List Loc) (ls : Array Slot), lv_has ls 10 [(4, .int (nI i)), (3, .int (nI k)), (2, .ref (Γ.2.1 + pb)), (1, .ref (b2 + 0)), (0, .ref (Γ.2.1 + ks))] → DL Γ b2 s w wb shb sh0 n0 ks pA pB S G M L O u u P sh v n vb H1 locs1 → W p l e R s m args below meth c H1 locs1 (c0 + i) (s0 + 6 * i) Q (F0 m 439 ls []) := by
  obtain ⟨hx, hb, hml, hts, hown, hK, hE, hb2, hkq, hEX, hlt, -⟩ := (⟨hX.1, hX.2.1, hX.2.2.1, hX.2.2.2.1, hX.2.2.2.2.1, hX.2.2.2.2.2.1, hX.2.2.2.2.2.2.1, hX.2.2.2.2.2.2.2.1, hX.2.2.2.2.2.2.2.2.1, hX.2.2.2.2.2.2.2.2.2.1, hX.2.2.2.2.2.2.2.2.2.2, trivial⟩ : _ ∧ _ ∧ _ ∧ _ ∧ _ ∧ _ ∧ _ ∧ _ ∧ _ ∧ _ ∧ _ ∧ True)
  intro j
  induction j with
  | zero =>
    intro i hij vb H1 locs1 ls hl hL
    have hi : i = 3 := by omega
    subst hi
    refine lv_iload hx hb dX12_isSame_439 (lv_at hl 0 rfl) ?_
    refine lv_iconst (v := 3) hx hb dX12_isSame_441 rfl ?_
    refine lv_icmp_ge (tgt := 472) hx hb dX12_isSame_442 rfl (fun _ => ?_) (fun q => absurd (Int32.le_refl _) q)
    exact kk vb H1 locs1 ls (lv_sub hl [1, 2, 3, 4] rfl) hL
  | succ j ih =>
    intro i hij vb H1 locs1 ls hl hL
    have hi : i < 3 := by omega
    refine lv_iload hx hb dX12_isSame_439 (lv_at hl 0 rfl) ?_
    refine lv_iconst (v := 3) hx hb dX12_isSame_441 rfl ?_
    refine lv_icmp_ge (tgt := 472) hx hb dX12_isSame_442 rfl (fun q => absurd ((le_n (i := 3) (j := i) (by omega) (by omega)).mp q) (by omega)) (fun _ => ?_)
    refine lv_aload_n hx hb dX12_isSame_445 rfl (lv_at hl 3 rfl) ?_
    refine lv_iload_n hx hb dX12_isSame_446 rfl (lv_at hl 1 rfl) ?_
    refine lv_iload hx hb dX12_isSame_447 (lv_at hl 0 rfl) ?_
    refine y_c0 hX hL (fun nb => c_Quay_guild hkq hEX hlt (q_gui hL.qi (by omega) hk (w := i) (by omega))) kX11_guild xlX12_119 rfl rfl rfl hl.1 (Nat.le_of_ble_eq_true rfl) ⟨by omega, by omega⟩ ⟨by omega, by omega⟩ dX12_isSame_449 fun H1 locs1 hL => ?_
    refine lv_aload_n hx hb dX12_isSame_452 rfl (lv_at hl 4 rfl) ?_
    refine w_gr hx hb hts hown hK hL.hP fX12_18 hL.ik.1 rfl dX12_isSame_453 ?_
    refine lv_iload_n hx hb dX12_isSame_456 rfl (lv_at hl 1 rfl) ?_
    refine z_aald hx hb hK hL.hP hL.ik.2.2.1.1 (i := nI k) (vin hk (show G ≤ 1000000 by omega)) dX12_isSame_457 ?_
    rw [nI_clamp (by omega)]
    refine lv_iload hx hb dX12_isSame_458 (lv_at hl 0 rfl) ?_
    refine w_iald hx hb hK hL.hP (hL.ik.2.2.1.2 k hk) (i := nI i) (vin hi (by omega)) dX12_isSame_460 ?_
    rw [nI_clamp (by omega), show v (pB 1 k) i = gU u L k i from by
      rcases (by omega : i = 0 ∨ i = 1 ∨ i = 2) with rfl | rfl | rfl
      · exact hL.sr.fee hk
      · exact hL.sr.bias hk
      · exact hL.sr.earned hk]
    refine lv_icmp_eq (tgt := 466) hx hb dX12_isSame_461 rfl (fun _ => ?_) (fun q => absurd rfl q)
    refine lv_iinc (k := 0) (v := ((nI i) + 1)) (lv' := [(4, .int ((nI i) + 1)), (3, .int (nI k)), (2, .ref (Γ.2.1 + pb)), (1, .ref (b2 + 0)), (0, .ref (Γ.2.1 + ks))]) hx hb dX12_isSame_466 hl rfl rfl (by decide) rfl fun ls hl => ?_
    refine lv_goto (tgt := 439) hx hb dX12_isSame_469 rfl ?_
    rw [ni_s] at hl
    refine W.widen (k := c0 + (i + 1)) (n := s0 + 6 * (i + 1)) (by omega) (by omega) ?_
    exact ih (i + 1) (by omega) _ _ _ _ hl hL
theorem is_cnt (hX : XM Γ b2 p l s m args c cX12_isSame 10 RX12 shb) (hFR : 12 ≤ R.frames ∧ 480 ≤ R.locals) {r : Nat} {g : Nat → Int32} (hP : P r = some (sA 14, g)) (hg : ∀ i, i < 14 → g i = cU u i) (hroom : c0 + 14 ≤ R.cells ∧ s0 + 6 * 14 ≤ R.slots) 
    (kk : ∀ (vb : Va) (H1 : Heap) (locs1 : List Loc) (ls : Array Slot), lv_has ls 10 [(3, .ref (Γ.2.1 + r)), (1, .ref (b2 + 0)), (0, .ref (Γ.2.1 + ks))] → DL Γ b2 s w wb shb sh0 n0 ks pA pB S G M L O u u P sh v n vb H1 locs1 → W p l e R s m args below meth c H1 locs1 (c0 + 14) (s0 + 6 * 14) Q (F0 m 648 ls [])) :
    ∀ (j i : Nat), i + j = 14 → ∀ (vb : Va) (H1 : Heap) (locs1 : List Loc) (ls : Array Slot), lv_has ls 10 [(4, .int (nI i)), (3, .ref (Γ.2.1 + r)), (1, .ref (b2 + 0)), (0, .ref (Γ.2.1 + ks))] → DL Γ b2 s w wb shb sh0 n0 ks pA pB S G M L O u u P sh v n vb H1 locs1 → W p l e R s m args below meth c H1 locs1 (c0 + i) (s0 + 6 * i) Q (F0 m 620 ls []) := by
  obtain ⟨hx, hb, hml, hts, hown, hK, hE, hb2, hkq, hEX, hlt, -⟩ := (⟨hX.1, hX.2.1, hX.2.2.1, hX.2.2.2.1, hX.2.2.2.2.1, hX.2.2.2.2.2.1, hX.2.2.2.2.2.2.1, hX.2.2.2.2.2.2.2.1, hX.2.2.2.2.2.2.2.2.1, hX.2.2.2.2.2.2.2.2.2.1, hX.2.2.2.2.2.2.2.2.2.2, trivial⟩ : _ ∧ _ ∧ _ ∧ _ ∧ _ ∧ _ ∧ _ ∧ _ ∧ _ ∧ _ ∧ _ ∧ True)
  intro j
  induction j with
  | zero =>
    intro i hij vb H1 locs1 ls hl hL
    have hi : i = 14 := by omega
    subst hi
    refine lv_iload hx hb dX12_isSame_620 (lv_at hl 0 rfl) ?_
    refine lv_bipush (v := 14) hx hb dX12_isSame_622 rfl ?_
    refine lv_icmp_ge (tgt := 648) hx hb dX12_isSame_624 rfl (fun _ => ?_) (fun q => absurd (Int32.le_refl _) q)
    exact kk vb H1 locs1 ls (lv_sub hl [1, 2, 3] rfl) hL
  | succ j ih =>
    intro i hij vb H1 locs1 ls hl hL
    have hi : i < 14 := by omega
    refine lv_iload hx hb dX12_isSame_620 (lv_at hl 0 rfl) ?_
    refine lv_bipush (v := 14) hx hb dX12_isSame_622 rfl ?_
    refine lv_icmp_ge (tgt := 648) hx hb dX12_isSame_624 rfl (fun q => absurd ((le_n (i := 14) (j := i) (by omega) (by omega)).mp q) (by omega)) (fun _ => ?_)
    refine lv_aload_n hx hb dX12_isSame_627 rfl (lv_at hl 2 rfl) ?_
    refine lv_iload hx hb dX12_isSame_628 (lv_at hl 0 rfl) ?_
    refine y_c0 hX hL (fun nb => c_Quay_count hkq hEX hlt (q_count hL.qi (by omega) (w := i) (by omega))) kX11_count xlX12_129 rfl rfl rfl hl.1 (Nat.le_of_ble_eq_true rfl) ⟨by omega, by omega⟩ ⟨by omega, by omega⟩ dX12_isSame_630 fun H1 locs1 hL => ?_
    refine lv_aload_n hx hb dX12_isSame_633 rfl (lv_at hl 1 rfl) ?_
    refine lv_iload hx hb dX12_isSame_634 (lv_at hl 0 rfl) ?_
    refine y_el (k := r) hX hL hP (j := i) (nI_clamp (by omega)) (vin hi (by omega)) (hg i hi) dX12_isSame_636 ?_
    refine lv_icmp_eq (tgt := 642) hx hb dX12_isSame_637 rfl (fun _ => ?_) (fun q => absurd rfl q)
    refine lv_iinc (k := 0) (v := ((nI i) + 1)) (lv' := [(4, .int ((nI i) + 1)), (3, .ref (Γ.2.1 + r)), (1, .ref (b2 + 0)), (0, .ref (Γ.2.1 + ks))]) hx hb dX12_isSame_642 hl rfl rfl (by decide) rfl fun ls hl => ?_
    refine lv_goto (tgt := 620) hx hb dX12_isSame_645 rfl ?_
    rw [ni_s] at hl
    refine W.widen (k := c0 + (i + 1)) (n := s0 + 6 * (i + 1)) (by omega) (by omega) ?_
    exact ih (i + 1) (by omega) _ _ _ _ hl hL
theorem is_ord (hX : XM Γ b2 p l s m args c cX12_isSame 10 RX12 shb) (hFR : 12 ≤ R.frames ∧ 480 ≤ R.locals) (hk : k < O) {r : Nat} {g : Nat → Int32} (hP : P r = some (sA 5, g)) (hg : ∀ i, i < 5 → i ≠ 3 → g i = oU u k i) (hg3 : ∀ t u1, f_Model_can 4001 u 151 173 (nI k) = some (t, u1) → g 3 = q_b t) (hroom : c0 + 5 ≤ R.cells ∧ s0 + 6 * 5 ≤ R.slots) 
    (kk : ∀ (vb : Va) (H1 : Heap) (locs1 : List Loc) (ls : Array Slot), lv_has ls 10 [(4, .ref (Γ.2.1 + r)), (3, .int (nI k)), (1, .ref (b2 + 0)), (0, .ref (Γ.2.1 + ks))] → DL Γ b2 s w wb shb sh0 n0 ks pA pB S G M L O u u P sh v n vb H1 locs1 → W p l e R s m args below meth c H1 locs1 (c0 + 5) (s0 + 6 * 5) Q (F0 m 606 ls [])) :
    ∀ (j i : Nat), i + j = 5 → ∀ (vb : Va) (H1 : Heap) (locs1 : List Loc) (ls : Array Slot), lv_has ls 10 [(5, .int (nI i)), (4, .ref (Γ.2.1 + r)), (3, .int (nI k)), (1, .ref (b2 + 0)), (0, .ref (Γ.2.1 + ks))] → DL Γ b2 s w wb shb sh0 n0 ks pA pB S G M L O u u P sh v n vb H1 locs1 → W p l e R s m args below meth c H1 locs1 (c0 + i) (s0 + 6 * i) Q (F0 m 577 ls []) := by
  obtain ⟨hx, hb, hml, hts, hown, hK, hE, hb2, hkq, hEX, hlt, -⟩ := (⟨hX.1, hX.2.1, hX.2.2.1, hX.2.2.2.1, hX.2.2.2.2.1, hX.2.2.2.2.2.1, hX.2.2.2.2.2.2.1, hX.2.2.2.2.2.2.2.1, hX.2.2.2.2.2.2.2.2.1, hX.2.2.2.2.2.2.2.2.2.1, hX.2.2.2.2.2.2.2.2.2.2, trivial⟩ : _ ∧ _ ∧ _ ∧ _ ∧ _ ∧ _ ∧ _ ∧ _ ∧ _ ∧ _ ∧ _ ∧ True)
  intro j
  induction j with
  | zero =>
    intro i hij vb H1 locs1 ls hl hL
    have hi : i = 5 := by omega
    subst hi
    refine lv_iload hx hb dX12_isSame_577 (lv_at hl 0 rfl) ?_
    refine lv_iconst (v := 5) hx hb dX12_isSame_579 rfl ?_
    refine lv_icmp_ge (tgt := 606) hx hb dX12_isSame_580 rfl (fun _ => ?_) (fun q => absurd (Int32.le_refl _) q)
    exact kk vb H1 locs1 ls (lv_sub hl [1, 2, 3, 4] rfl) hL
  | succ j ih =>
    intro i hij vb H1 locs1 ls hl hL
    have hi : i < 5 := by omega
    refine lv_iload hx hb dX12_isSame_577 (lv_at hl 0 rfl) ?_
    refine lv_iconst (v := 5) hx hb dX12_isSame_579 rfl ?_
    refine lv_icmp_ge (tgt := 606) hx hb dX12_isSame_580 rfl (fun q => absurd ((le_n (i := 5) (j := i) (by omega) (by omega)).mp q) (by omega)) (fun _ => ?_)
    refine lv_aload_n hx hb dX12_isSame_583 rfl (lv_at hl 3 rfl) ?_
    refine lv_iload_n hx hb dX12_isSame_584 rfl (lv_at hl 2 rfl) ?_
    refine lv_iload hx hb dX12_isSame_585 (lv_at hl 0 rfl) ?_
    have hq : ∃ v2, f_Quay_order 4001 vb (nI k) (nI i) = some (.inl (g i, v2)) ∧ QI 4001 v2 u S G M L O := by
      by_cases h3 : i = 3
      · subst h3
        obtain ⟨t, v2, u1, e1, e2, e3, -⟩ := q_ord3 hL.qi (by omega) hk
        refine ⟨v2, ?_, e3⟩
        rw [hg3 t u1 e2]; exact e1
      · obtain ⟨v2, e1, e2, -⟩ := q_ord hL.qi (by omega) hk (w := i) (by omega) h3
        refine ⟨v2, ?_, e2⟩
        rw [hg i hi h3]; exact e1
    obtain ⟨v2, hq1, hq2⟩ := hq
    refine y_c1 hX hL hq2 (fun nb => c_Quay_order hkq hEX hlt hq1) kX11_order xlX12_122 rfl rfl rfl hl.1 (Nat.le_of_ble_eq_true rfl) ⟨by omega, by omega⟩ ⟨by omega, by omega⟩ dX12_isSame_587 fun H1 locs1 hL => ?_
    refine lv_aload hx hb dX12_isSame_590 (lv_at hl 1 rfl) ?_
    refine lv_iload hx hb dX12_isSame_592 (lv_at hl 0 rfl) ?_
    refine y_el (k := r) hX hL hP (j := i) (nI_clamp (by omega)) (vin hi (by omega)) rfl dX12_isSame_594 ?_
    refine lv_icmp_eq (tgt := 600) hx hb dX12_isSame_595 rfl (fun _ => ?_) (fun q => absurd rfl q)
    refine lv_iinc (k := 0) (v := ((nI i) + 1)) (lv' := [(5, .int ((nI i) + 1)), (4, .ref (Γ.2.1 + r)), (3, .int (nI k)), (1, .ref (b2 + 0)), (0, .ref (Γ.2.1 + ks))]) hx hb dX12_isSame_600 hl rfl rfl (by decide) rfl fun ls hl => ?_
    refine lv_goto (tgt := 577) hx hb dX12_isSame_603 rfl ?_
    rw [ni_s] at hl
    refine W.widen (k := c0 + (i + 1)) (n := s0 + 6 * (i + 1)) (by omega) (by omega) ?_
    exact ih (i + 1) (by omega) _ _ _ _ hl hL
end IZ
