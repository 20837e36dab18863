/-! SIM: isSame, the guilds, the orders, the end -/
section IC
variable {p : Program} {l : Launch} {e : Env} {R : Room} {s : State} {m : MethodId} {args : Array Value} {below : List Frame} {meth : Method} {c : Code} {H H0 : Heap} {locs : List Loc} {cells slots : Nat} {Q : State → Prop}
variable {cc : ByteArray} {pc nL : Nat} {ls : Array Slot} {st0 rest As Bs : List Value} {Γ : Cx} {sh sh0 shb : Sh} {v v0 v1 vb vb1 : Va} {w wb : Vl} {own : String} {idx ci j k n n0 nb nn hh mL mc ms a b2 ks S G M L O d1 d2 c0 s0 : Nat} {cs : List Nat} {y : MethodName} {b : ByteArray} {ret : Option FieldType} {pA : Nat → Nat} {pB : Nat → Nat → Nat} {u ua ub ua1 ub1 : Va} {P : Pfn}
variable {shC : Sh}
theorem is_guis (hX : XM Γ b2 p l s m args c cX12_isSame 10 RX12 shb) (hFR : 12 ≤ R.frames ∧ 480 ≤ R.locals) {pb : Nat} {g : Nat → Int32} (hroom : c0 + 4 * G ≤ R.cells ∧ s0 + 24 * G ≤ R.slots) (hgb : ∀ q, q < G → g q = row_t (fun k => if u 176 k = nI q then 1 else 0) L) (hPb : P pb = some (sA G, g))
    (kk : ∀ (vb : Va) (H1 : Heap) (locs1 : List Loc) (ls : Array Slot), lv_has ls 10 [(1, .ref (b2 + 0)), (0, .ref (Γ.2.1 + ks))] → DL Γ b2 s w wb shb sh0 n0 ks pA pB S G M L O u u P sh v n vb H1 locs1 → W p l e R s m args below meth c H1 locs1 (c0 + 4 * G) (s0 + 24 * G) Q (F0 m 492 ls [])) :
    ∀ (j k : Nat), k + j = G → ∀ (vb : Va) (H1 : Heap) (locs1 : List Loc) (ls : Array Slot), lv_has ls 10 [(3, .int (nI k)), (2, .ref (Γ.2.1 + pb)), (1, .ref (b2 + 0)), (0, .ref (Γ.2.1 + ks))] → DL Γ b2 s w wb shb sh0 n0 ks pA pB S G M L O u u P sh v n vb H1 locs1 → W p l e R s m args below meth c H1 locs1 (c0 + 4 * k) (s0 + 24 * k) Q (F0 m 427 ls []) := by
  obtain ⟨hx, hb, hml, hts, hown, hK, hE, hb2, hkq, hEX, hlt, -⟩ := (⟨hX.1, hX.2.1, hX.2.2.1, hX.2.2.2.1, hX.2.2.2.2.1, hX.2.2.2.2.2.1, hX.2.2.2.2.2.2.1, hX.2.2.2.2.2.2.2.1, hX.2.2.2.2.2.2.2.2.1, hX.2.2.2.2.2.2.2.2.2.1, hX.2.2.2.2.2.2.2.2.2.2, trivial⟩ : _ ∧ _ ∧ _ ∧ _ ∧ _ ∧ _ ∧ _ ∧ _ ∧ _ ∧ _ ∧ _ ∧ True)
  intro j
  induction j with
  | zero =>
    intro k hij vb H1 locs1 ls hl hL
    have hi : k = G := by omega
    have hB := hL.qi.2.2.2.2.2.1
    refine lv_iload_n hx hb dX12_isSame_427 rfl (lv_at hl 0 rfl) ?_
    refine lv_aload_n hx hb dX12_isSame_428 rfl (lv_at hl 3 rfl) ?_
    refine w_gr hx hb hts hown hK hL.hP fX12_18 hL.ik.1 rfl dX12_isSame_429 ?_
    refine w_alenR hx hb hK hL.hP hL.ik.2.2.1.1 dX12_isSame_432 ?_
    rw [show pn_ S G M L O 1 = G from rfl]
    refine lv_icmp_ge (tgt := 492) hx hb dX12_isSame_433 rfl (fun _ => ?_) (fun q => absurd (by rw [hi]; exact Int32.le_refl _) q)
    rw [hi]
    exact kk vb H1 locs1 ls (lv_sub hl [2, 3] rfl) hL
  | succ j ih =>
    intro k hij vb H1 locs1 ls hl hL
    have hk : k < G := by omega
    have hB := hL.qi.2.2.2.2.2.1
    have hG4 : G ≤ 4 := hB.2.1
    refine lv_iload_n hx hb dX12_isSame_427 rfl (lv_at hl 0 rfl) ?_
    refine lv_aload_n hx hb dX12_isSame_428 rfl (lv_at hl 3 rfl) ?_
    refine w_gr hx hb hts hown hK hL.hP fX12_18 hL.ik.1 rfl dX12_isSame_429 ?_
    refine w_alenR hx hb hK hL.hP hL.ik.2.2.1.1 dX12_isSame_432 ?_
    rw [show pn_ S G M L O 1 = G from rfl]
    refine lv_icmp_ge (tgt := 492) hx hb dX12_isSame_433 rfl (fun q => absurd ((le_n (i := G) (j := k) (by omega) (by omega)).mp q) (by omega)) (fun _ => ?_)
    refine lv_iconst (v := 0) hx hb dX12_isSame_436 rfl ?_
    refine lv_istore (lv' := [(4, .int 0), (3, .int (nI k)), (2, .ref (Γ.2.1 + pb)), (1, .ref (b2 + 0)), (0, .ref (Γ.2.1 + ks))]) hx hb dX12_isSame_437 hl (by decide) rfl fun ls hl => ?_
    refine is_gui (c0 := c0 + 4 * k) (s0 := s0 + 24 * k) hX hFR hG4 hk ⟨by omega, by omega⟩ (fun vb H1 locs1 ls hl hL => ?_) 3 0 rfl _ _ _ ls hl hL
    refine lv_aload_n hx hb dX12_isSame_472 rfl (lv_at hl 2 rfl) ?_
    refine lv_iload_n hx hb dX12_isSame_473 rfl (lv_at hl 0 rfl) ?_
    refine lv_iconst (v := 3) hx hb dX12_isSame_474 rfl ?_
    refine y_c0 hX hL (fun nb => c_Quay_guild hkq hEX hlt (q_gui (w := 3) hL.qi (by omega) hk (by omega))) kX11_guild xlX12_119 rfl rfl rfl hl.1 (Nat.le_of_ble_eq_true rfl) ⟨by omega, by omega⟩ ⟨by omega, by omega⟩ dX12_isSame_475 fun H1 locs1 hL => ?_
    refine lv_aload_n hx hb dX12_isSame_478 rfl (lv_at hl 1 rfl) ?_
    refine lv_iload_n hx hb dX12_isSame_479 rfl (lv_at hl 0 rfl) ?_
    refine y_el (k := pb) hX hL hPb (j := k) (nI_clamp (by omega)) (vin hk (by omega)) rfl dX12_isSame_480 ?_
    refine lv_icmp_eq (tgt := 486) hx hb dX12_isSame_481 rfl (fun _ => ?_) (fun q => absurd ((hgb k hk).symm : gU u L k 3 = g k) q)
    refine lv_iinc (k := 0) (v := ((nI k) + 1)) (lv' := [(3, .int ((nI k) + 1)), (2, .ref (Γ.2.1 + pb)), (1, .ref (b2 + 0)), (0, .ref (Γ.2.1 + ks))]) hx hb dX12_isSame_486 hl rfl rfl (by decide) rfl fun ls hl => ?_
    refine lv_goto (tgt := 427) hx hb dX12_isSame_489 rfl ?_
    rw [ni_s] at hl
    refine W.widen (k := c0 + 4 * (k + 1)) (n := s0 + 24 * (k + 1)) (by omega) (by omega) ?_
    exact ih (k + 1) (by omega) _ _ _ _ hl hL
theorem is_ords (hX : XM Γ b2 p l s m args c cX12_isSame 10 RX12 shb) (hFR : 12 ≤ R.frames ∧ 480 ≤ R.locals) (hroom : c0 + 6 * O ≤ R.cells ∧ s0 + 35 * O ≤ R.slots)
    (kk : ∀ (P : Pfn) (sh : Sh) (v : Va) (n : Nat) (vb : Va) (H1 : Heap) (locs1 : List Loc) (ls : Array Slot), lv_has ls 10 [(1, .ref (b2 + 0)), (0, .ref (Γ.2.1 + ks))] → DL Γ b2 s w wb shb sh0 n0 ks pA pB S G M L O u u P sh v n vb H1 locs1 → W p l e R s m args below meth c H1 locs1 (c0 + 6 * O) (s0 + 35 * O) Q (F0 m 612 ls [])) :
    ∀ (j k : Nat), k + j = O → ∀ (P : Pfn) (sh : Sh) (v : Va) (n : Nat) (vb : Va) (H1 : Heap) (locs1 : List Loc) (ls : Array Slot), lv_has ls 10 [(3, .int (nI k)), (1, .ref (b2 + 0)), (0, .ref (Γ.2.1 + ks))] → DL Γ b2 s w wb shb sh0 n0 ks pA pB S G M L O u u P sh v n vb H1 locs1 → W p l e R s m args below meth c H1 locs1 (c0 + 6 * k) (s0 + 35 * k) Q (F0 m 494 ls []) := by
  obtain ⟨hx, hb, hml, hts, hown, hK, hE, hb2, hkq, hEX, hlt, -⟩ := (⟨hX.1, hX.2.1, hX.2.2.1, hX.2.2.2.1, hX.2.2.2.2.1, hX.2.2.2.2.2.1, hX.2.2.2.2.2.2.1, hX.2.2.2.2.2.2.2.1, hX.2.2.2.2.2.2.2.2.1, hX.2.2.2.2.2.2.2.2.2.1, hX.2.2.2.2.2.2.2.2.2.2, trivial⟩ : _ ∧ _ ∧ _ ∧ _ ∧ _ ∧ _ ∧ _ ∧ _ ∧ _ ∧ _ ∧ _ ∧ True)
  intro j
  induction j with
  | zero =>
    intro k hij P sh v n vb H1 locs1 ls hl hL
    have hi : k = O := by omega
    have hB := hL.qi.2.2.2.2.2.1
    refine lv_iload_n hx hb dX12_isSame_494 rfl (lv_at hl 0 rfl) ?_
    refine lv_aload_n hx hb dX12_isSame_495 rfl (lv_at hl 2 rfl) ?_
    refine w_gr hx hb hts hown hK hL.hP fX12_31 hL.ik.1 rfl dX12_isSame_496 ?_
    refine w_alenR hx hb hK hL.hP hL.ik.2.2.2.2.2.2.1.1 dX12_isSame_499 ?_
    rw [show pn_ S G M L O 5 = O from rfl]
    refine lv_icmp_ge (tgt := 612) hx hb dX12_isSame_500 rfl (fun _ => ?_) (fun q => absurd (by rw [hi]; exact Int32.le_refl _) q)
    rw [hi]
    exact kk P sh v n vb H1 locs1 ls (lv_sub hl [1, 2] rfl) hL
  | succ j ih =>
    intro k hij P sh v n vb H1 locs1 ls hl hL
    have hk : k < O := by omega
    have hB := hL.qi.2.2.2.2.2.1
    refine lv_iload_n hx hb dX12_isSame_494 rfl (lv_at hl 0 rfl) ?_
    refine lv_aload_n hx hb dX12_isSame_495 rfl (lv_at hl 2 rfl) ?_
    refine w_gr hx hb hts hown hK hL.hP fX12_31 hL.ik.1 rfl dX12_isSame_496 ?_
    refine w_alenR hx hb hK hL.hP hL.ik.2.2.2.2.2.2.1.1 dX12_isSame_499 ?_
    rw [show pn_ S G M L O 5 = O from rfl]
    refine lv_icmp_ge (tgt := 612) hx hb dX12_isSame_500 rfl (fun q => absurd ((le_n (i := O) (j := k) (by omega) (by omega)).mp q) (by omega)) (fun _ => ?_)
    refine lv_iconst (v := 5) hx hb dX12_isSame_503 rfl ?_
    refine y_new (x := nI 5) (N := 5) hX hL (nI_pos (by omega)) (nI_clamp (by omega)) (by omega) (by omega) (by omega) dX12_isSame_504 fun H1 hL => ?_
    refine lv_dup hx hb dX12_isSame_506 rfl ?_
    refine lv_iconst (v := 0) hx hb dX12_isSame_507 rfl ?_
    refine lv_aload_n hx hb dX12_isSame_508 rfl (lv_at hl 2 rfl) ?_
    refine w_gr hx hb hts hown hK hL.hP fX12_31 hL.ik.1 rfl dX12_isSame_509 ?_
    refine lv_iload_n hx hb dX12_isSame_512 rfl (lv_at hl 0 rfl) ?_
    refine z_aald hx hb hK hL.hP hL.ik.2.2.2.2.2.2.1.1 (i := nI k) (vin hk (show O ≤ 1000000 by omega)) dX12_isSame_513 ?_
    rw [nI_clamp (by omega)]
    refine lv_iconst (v := 0) hx hb dX12_isSame_514 rfl ?_
    refine w_iald hx hb hK hL.hP (hL.ik.2.2.2.2.2.2.1.2 k hk) (i := 0) (vin (i := 0) (by omega) (by omega)) dX12_isSame_515 ?_
    rw [lc_0, hL.sr.sort hk]
    refine y_ia (k := n) hX hL (up_eq _ _ _) (j := 0) lc_0 (vin (i := 0) (by omega) (by omega)) dX12_isSame_516 fun v1 H1 locs1 hL => ?_
    rw [up_up] at hL
    refine lv_dup hx hb dX12_isSame_517 rfl ?_
    refine lv_iconst (v := 1) hx hb dX12_isSame_518 rfl ?_
    refine lv_aload_n hx hb dX12_isSame_519 rfl (lv_at hl 2 rfl) ?_
    refine w_gr hx hb hts hown hK hL.hP fX12_31 hL.ik.1 rfl dX12_isSame_520 ?_
    refine lv_iload_n hx hb dX12_isSame_523 rfl (lv_at hl 0 rfl) ?_
    refine z_aald hx hb hK hL.hP hL.ik.2.2.2.2.2.2.1.1 (i := nI k) (vin hk (show O ≤ 1000000 by omega)) dX12_isSame_524 ?_
    rw [nI_clamp (by omega)]
    refine lv_iconst (v := 1) hx hb dX12_isSame_525 rfl ?_
    refine w_iald hx hb hK hL.hP (hL.ik.2.2.2.2.2.2.1.2 k hk) (i := 1) (vin (i := 1) (by omega) (by omega)) dX12_isSame_526 ?_
    rw [lc_1, hL.sr.one hk]
    refine y_ia (k := n) hX hL (up_eq _ _ _) (j := 1) lc_1 (vin (i := 1) (by omega) (by omega)) dX12_isSame_527 fun v1 H1 locs1 hL => ?_
    rw [up_up] at hL
    refine lv_dup hx hb dX12_isSame_528 rfl ?_
    refine lv_iconst (v := 2) hx hb dX12_isSame_529 rfl ?_
    refine lv_aload_n hx hb dX12_isSame_530 rfl (lv_at hl 2 rfl) ?_
    refine w_gr hx hb hts hown hK hL.hP fX12_31 hL.ik.1 rfl dX12_isSame_531 ?_
    refine lv_iload_n hx hb dX12_isSame_534 rfl (lv_at hl 0 rfl) ?_
    refine z_aald hx hb hK hL.hP hL.ik.2.2.2.2.2.2.1.1 (i := nI k) (vin hk (show O ≤ 1000000 by omega)) dX12_isSame_535 ?_
    rw [nI_clamp (by omega)]
    refine lv_iconst (v := 2) hx hb dX12_isSame_536 rfl ?_
    refine w_iald hx hb hK hL.hP (hL.ik.2.2.2.2.2.2.1.2 k hk) (i := 2) (vin (i := 2) (by omega) (by omega)) dX12_isSame_537 ?_
    rw [lc_2, hL.sr.other hk]
    refine y_ia (k := n) hX hL (up_eq _ _ _) (j := 2) lc_2 (vin (i := 2) (by omega) (by omega)) dX12_isSame_538 fun v1 H1 locs1 hL => ?_
    rw [up_up] at hL
    refine lv_dup hx hb dX12_isSame_539 rfl ?_
    refine lv_iconst (v := 3) hx hb dX12_isSame_540 rfl ?_
    refine lv_aload_n hx hb dX12_isSame_541 rfl (lv_at hl 2 rfl) ?_
    refine lv_aload_n hx hb dX12_isSame_542 rfl (lv_at hl 2 rfl) ?_
    refine w_gr hx hb hts hown hK hL.hP fX12_31 hL.ik.1 rfl dX12_isSame_543 ?_
    refine lv_iload_n hx hb dX12_isSame_546 rfl (lv_at hl 0 rfl) ?_
    refine z_aald hx hb hK hL.hP hL.ik.2.2.2.2.2.2.1.1 (i := nI k) (vin hk (show O ≤ 1000000 by omega)) dX12_isSame_547 ?_
    rw [nI_clamp (by omega)]
    obtain ⟨b9, d9, u9, hd1, hd2, -, hd3, hd4⟩ := does_two (z := 4001) hL.sr hL.qi.2.2.2.2.2 hL.qi.2.2.2.1 (by omega) hk
    refine y_s0 hX hL (c_Sim_does (z := 4001) hL.ik (hL.ik.2.2.2.2.2.2.1.2 k hk) hd1) kX12_does mX12_65 rfl rfl rfl hl.1 (Nat.le_of_ble_eq_true rfl) ⟨by omega, by omega⟩ ⟨by omega, by omega⟩ dX12_isSame_548 fun H1 locs1 hL => ?_
    cases b9 with
    | false =>
      refine lv_if_ge (tgt := 558) hx hb dX12_isSame_551 rfl (fun q => absurd q (by rw [hd3 rfl]; decide)) (fun _ => ?_)
      refine lv_iconst (v := 0) hx hb dX12_isSame_554 rfl ?_
      refine lv_goto (tgt := 559) hx hb dX12_isSame_555 rfl ?_
      refine y_ia (k := n) hX hL (up_eq _ _ _) (j := 3) lc_3 (vin (i := 3) (by omega) (by omega)) dX12_isSame_559 fun v1 H1 locs1 hL => ?_
      rw [up_up] at hL
      refine lv_dup hx hb dX12_isSame_560 rfl ?_
      refine lv_iconst (v := 4) hx hb dX12_isSame_561 rfl ?_
      refine lv_aload_n hx hb dX12_isSame_562 rfl (lv_at hl 2 rfl) ?_
      refine w_gr hx hb hts hown hK hL.hP fX12_31 hL.ik.1 rfl dX12_isSame_563 ?_
      refine lv_iload_n hx hb dX12_isSame_566 rfl (lv_at hl 0 rfl) ?_
      refine z_aald hx hb hK hL.hP hL.ik.2.2.2.2.2.2.1.1 (i := nI k) (vin hk (show O ≤ 1000000 by omega)) dX12_isSame_567 ?_
      rw [nI_clamp (by omega)]
      refine lv_bipush (v := 11) hx hb dX12_isSame_568 rfl ?_
      refine w_iald hx hb hK hL.hP (hL.ik.2.2.2.2.2.2.1.2 k hk) (i := 11) (vin (i := 11) (by omega) (by omega)) dX12_isSame_570 ?_
      rw [lc_11, hL.sr.often hk]
      refine y_ia (k := n) hX hL (up_eq _ _ _) (j := 4) lc_4 (vin (i := 4) (by omega) (by omega)) dX12_isSame_571 fun v1 H1 locs1 hL => ?_
      rw [up_up] at hL
      refine lv_astore (lv' := [(4, .ref (Γ.2.1 + n)), (3, .int (nI k)), (1, .ref (b2 + 0)), (0, .ref (Γ.2.1 + ks))]) hx hb dX12_isSame_572 hl (by decide) rfl fun ls hl => ?_
      refine lv_iconst (v := 0) hx hb dX12_isSame_574 rfl ?_
      refine lv_istore (lv' := [(5, .int 0), (4, .ref (Γ.2.1 + n)), (3, .int (nI k)), (1, .ref (b2 + 0)), (0, .ref (Γ.2.1 + ks))]) hx hb dX12_isSame_575 hl (by decide) rfl fun ls hl => ?_
      refine W.widen (k := c0 + 6 * k + 1) (n := s0 + 35 * k + 5) (by omega) (by omega) ?_
      refine is_ord hX hFR hk (up_eq _ _ _) (fun q hq hq3 => ?_) (fun t u1 h => ?_) ⟨by omega, by omega⟩ (fun vb H1 locs1 ls hl hL => ?_) 5 0 rfl _ _ _ ls hl hL
      · rcases (by omega : q = 0 ∨ q = 1 ∨ q = 2 ∨ q = 4) with rfl | rfl | rfl | rfl <;> rfl
      · rw [hd2] at h; cases h; rfl
      refine lv_iinc (k := 1) (v := ((nI k) + 1)) (lv' := [(3, .int ((nI k) + 1)), (4, .ref (Γ.2.1 + n)), (1, .ref (b2 + 0)), (0, .ref (Γ.2.1 + ks))]) hx hb dX12_isSame_606 hl rfl rfl (by decide) rfl fun ls hl => ?_
      refine lv_goto (tgt := 494) hx hb dX12_isSame_609 rfl ?_
      rw [ni_s] at hl
      refine W.widen (k := c0 + 6 * (k + 1)) (n := s0 + 35 * (k + 1)) (by omega) (by omega) ?_
      exact ih (k + 1) (by omega) _ _ _ _ _ _ _ _ (lv_sub hl [0, 2, 3] rfl) hL
    | true =>
      refine lv_if_ge (tgt := 558) hx hb dX12_isSame_551 rfl (fun _ => ?_) (fun q => absurd (hd4 rfl).1 q)
      refine lv_iconst (v := 1) hx hb dX12_isSame_558 rfl ?_
      refine y_ia (k := n) hX hL (up_eq _ _ _) (j := 3) lc_3 (vin (i := 3) (by omega) (by omega)) dX12_isSame_559 fun v1 H1 locs1 hL => ?_
      rw [up_up] at hL
      refine lv_dup hx hb dX12_isSame_560 rfl ?_
      refine lv_iconst (v := 4) hx hb dX12_isSame_561 rfl ?_
      refine lv_aload_n hx hb dX12_isSame_562 rfl (lv_at hl 2 rfl) ?_
      refine w_gr hx hb hts hown hK hL.hP fX12_31 hL.ik.1 rfl dX12_isSame_563 ?_
      refine lv_iload_n hx hb dX12_isSame_566 rfl (lv_at hl 0 rfl) ?_
      refine z_aald hx hb hK hL.hP hL.ik.2.2.2.2.2.2.1.1 (i := nI k) (vin hk (show O ≤ 1000000 by omega)) dX12_isSame_567 ?_
      rw [nI_clamp (by omega)]
      refine lv_bipush (v := 11) hx hb dX12_isSame_568 rfl ?_
      refine w_iald hx hb hK hL.hP (hL.ik.2.2.2.2.2.2.1.2 k hk) (i := 11) (vin (i := 11) (by omega) (by omega)) dX12_isSame_570 ?_
      rw [lc_11, hL.sr.often hk]
      refine y_ia (k := n) hX hL (up_eq _ _ _) (j := 4) lc_4 (vin (i := 4) (by omega) (by omega)) dX12_isSame_571 fun v1 H1 locs1 hL => ?_
      rw [up_up] at hL
      refine lv_astore (lv' := [(4, .ref (Γ.2.1 + n)), (3, .int (nI k)), (1, .ref (b2 + 0)), (0, .ref (Γ.2.1 + ks))]) hx hb dX12_isSame_572 hl (by decide) rfl fun ls hl => ?_
      refine lv_iconst (v := 0) hx hb dX12_isSame_574 rfl ?_
      refine lv_istore (lv' := [(5, .int 0), (4, .ref (Γ.2.1 + n)), (3, .int (nI k)), (1, .ref (b2 + 0)), (0, .ref (Γ.2.1 + ks))]) hx hb dX12_isSame_575 hl (by decide) rfl fun ls hl => ?_
      refine W.widen (k := c0 + 6 * k + 1) (n := s0 + 35 * k + 5) (by omega) (by omega) ?_
      refine is_ord hX hFR hk (up_eq _ _ _) (fun q hq hq3 => ?_) (fun t u1 h => ?_) ⟨by omega, by omega⟩ (fun vb H1 locs1 ls hl hL => ?_) 5 0 rfl _ _ _ ls hl hL
      · rcases (by omega : q = 0 ∨ q = 1 ∨ q = 2 ∨ q = 4) with rfl | rfl | rfl | rfl <;> rfl
      · rw [hd2] at h; cases h; rfl
      refine lv_iinc (k := 1) (v := ((nI k) + 1)) (lv' := [(3, .int ((nI k) + 1)), (4, .ref (Γ.2.1 + n)), (1, .ref (b2 + 0)), (0, .ref (Γ.2.1 + ks))]) hx hb dX12_isSame_606 hl rfl rfl (by decide) rfl fun ls hl => ?_
      refine lv_goto (tgt := 494) hx hb dX12_isSame_609 rfl ?_
      rw [ni_s] at hl
      refine W.widen (k := c0 + 6 * (k + 1)) (n := s0 + 35 * (k + 1)) (by omega) (by omega) ?_
      exact ih (k + 1) (by omega) _ _ _ _ _ _ _ _ (lv_sub hl [0, 2, 3] rfl) hL
/-- the class answers a double -/
theorem d_bd {post : UInt64 → Va → Prop} (hD : DW Γ b2 s w wb shb sh v n vb H locs) (hb2 : (cx0 Γ).heap.size ≤ b2) (hnb : b2 + nb = Γ.2.1 + n) (hr : va_Run p l e R s m args below meth c H locs cells slots mc ms (F0 m pc ls st0) rest (va_Qd post (fun u => PN (bs Γ b2) shb u wb nb) (gA (bs Γ b2) shb nb) Bs.toArray) (gA (bs Γ b2) shb nb))
    (kk : ∀ (r : UInt64) (u : Va) (H1 : Heap) (locs1 : List Loc), post r u → DW Γ b2 s w wb shb sh v n u H1 locs1 → W p l e R s m args below meth c H1 locs1 (cells + mc) (slots + ms) Q (F0 m (pc + 3) ls (.double r :: rest))) : W p l e R s m args below meth c H locs cells slots Q (F0 m pc ls st0) := by
  refine va_calld hr hD.2.2.2.1 (fun q _ h => hD.subB hb2 q h) (fun q h => hD.subB hb2 q h) (fun r u t H1 locs1 ht hvm hp hB hz1 hk1 hS1 => ?_)
  obtain ⟨hP1, -, hz2, -⟩ := hB
  rw [ht] at hP1 hz2
  exact kk r u H1 locs1 hp ⟨hz2.trans hnb, hD.keepA hnb hk1, hP1, hS1, hD.2.2.2.2⟩
end IC
