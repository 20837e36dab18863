/-! THE LAW: from what was taught to the end -/
section LF9
variable {p : Program} {l : Launch} {e : Env} {R : Room} {s : State} {m : MethodId} {args : Array Value} {below : List Frame} {meth : Method} {c : Code} {H H0 : Heap} {locs : List Loc} {cells slots : Nat} {Q : State → Prop}
variable {cc : ByteArray} {pc nL : Nat} {ls : Array Slot} {st0 rest As Bs : List Value} {Γ : Cx} {sh sh0 shb : Sh} {v v0 v1 vb vb1 : Va} {w wb : Vl} {own : String} {idx ci j k n n0 nb nn hh mL mc ms a b2 ks S G M L O d1 d2 c0 s0 : Nat} {cs : List Nat} {y : MethodName} {b : ByteArray} {ret : Option FieldType} {pA : Nat → Nat} {pB : Nat → Nat → Nat} {u ua ub ua1 ub1 : Va} {P : Pfn}
variable {x9 A9 : Int32} {t9 kw kb b0 : Nat} {T : Int} {B : Nat}
variable {d1 d2 L0 : Nat} {shC : Sh} {xs : Nat → Int32}
theorem lw_wts (hX : XM Γ b2 p l s m args c cL_law 31 RL shb) (hFR : 14 ≤ R.frames ∧ 560 ≤ R.locals) (hroom : c0 + 1 * L ≤ R.cells ∧ s0 + 6 * L ≤ R.slots)
    (kk : ∀ (v : Va) (vb : Va) (H1 : Heap) (locs1 : List Loc) (ls : Array Slot) (g : Nat → Int32), lv_has ls 31 [(9, .ref (Γ.2.1 + kw)), (8, .int A9), (7, .int (nI O)), (6, .int (nI G)), (5, .int (nI L)), (4, .int (nI M)), (3, .ref (b2 + 0)), (2, .ref (Γ.2.1 + ks)), (1, .ref (Γ.2.1 + kb)), (0, .ref b0)] → DL Γ b2 s w wb shb sh0 n0 ks pA pB S G M L O u u (up P kw (some (sA L, g))) sh v n vb H1 locs1 → (∀ k, k < L → g k = u 174 k) → W p l e R s m args below meth c H1 locs1 (c0 + 1 * L) (s0 + 6 * L) Q (F0 m 106 ls [])) :
    ∀ (j i : Nat), i + j = L → ∀ (v : Va) (vb : Va) (H1 : Heap) (locs1 : List Loc) (ls : Array Slot) (g : Nat → Int32), lv_has ls 31 [(10, .int (nI i)), (9, .ref (Γ.2.1 + kw)), (8, .int A9), (7, .int (nI O)), (6, .int (nI G)), (5, .int (nI L)), (4, .int (nI M)), (3, .ref (b2 + 0)), (2, .ref (Γ.2.1 + ks)), (1, .ref (Γ.2.1 + kb)), (0, .ref b0)] → DL Γ b2 s w wb shb sh0 n0 ks pA pB S G M L O u u (up P kw (some (sA L, g))) sh v n vb H1 locs1 → (∀ k, k < i → g k = u 174 k) → W p l e R s m args below meth c H1 locs1 (c0 + 1 * i) (s0 + 6 * i) Q (F0 m 81 ls []) := by
  obtain ⟨hx, hb, hml, hts, hown, hK, hE, hb2, hkq, hEX, hlt, -⟩ := (⟨hX.1, hX.2.1, hX.2.2.1, hX.2.2.2.1, hX.2.2.2.2.1, hX.2.2.2.2.2.1, hX.2.2.2.2.2.2.1, hX.2.2.2.2.2.2.2.1, hX.2.2.2.2.2.2.2.2.1, hX.2.2.2.2.2.2.2.2.2.1, hX.2.2.2.2.2.2.2.2.2.2, trivial⟩ : _ ∧ _ ∧ _ ∧ _ ∧ _ ∧ _ ∧ _ ∧ _ ∧ _ ∧ _ ∧ _ ∧ True)
  intro j
  induction j with
  | zero =>
    intro i hij v vb H1 locs1 ls g hl hL hg
    have hi : i = L := by omega
    rw [hi] at hl hg ⊢
    refine lv_iload hx hb dL_law_81 (lv_at hl 0 rfl) ?_
    refine lv_iload hx hb dL_law_83 (lv_at hl 5 rfl) ?_
    refine lv_icmp_ge (tgt := 106) hx hb dL_law_85 rfl (fun _ => ?_) (fun q => absurd (Int32.le_refl _) q)
    exact kk v vb H1 locs1 ls g (lv_sub hl [1, 2, 3, 4, 5, 6, 7, 8, 9, 10] rfl) hL hg
  | succ j ih =>
    intro i hij v vb H1 locs1 ls g hl hL hg
    have hi : i < L := by omega
    have hB := hL.qi.2.2.2.2.2.1
    refine lv_iload hx hb dL_law_81 (lv_at hl 0 rfl) ?_
    refine lv_iload hx hb dL_law_83 (lv_at hl 5 rfl) ?_
    refine lv_icmp_ge (tgt := 106) hx hb dL_law_85 rfl (fun q => absurd ((le_n (i := L) (j := i) (by omega) (by omega)).mp q) (by omega)) (fun _ => ?_)
    refine lv_aload hx hb dL_law_88 (lv_at hl 1 rfl) ?_
    refine lv_iload hx hb dL_law_90 (lv_at hl 0 rfl) ?_
    refine lv_aload_n hx hb dL_law_92 rfl (lv_at hl 7 rfl) ?_
    refine lv_iload hx hb dL_law_93 (lv_at hl 0 rfl) ?_
    refine lv_iconst (v := 1) hx hb dL_law_95 rfl ?_
    refine y_c0 hX hL (fun nb => c_Quay_lot hkq hEX hlt (q_lot hL.qi hi (w := 1) (by omega))) kX11_lot xlL_249 rfl rfl rfl hl.1 (Nat.le_of_ble_eq_true rfl) ⟨by omega, by omega⟩ ⟨by omega, by omega⟩ dL_law_96 fun H1 locs1 hL => ?_
    refine y_ia (k := kw) hX hL (up_eq _ _ _) (j := i) (nI_clamp (by omega)) (vin hi (by omega)) dL_law_99 fun v1 H1 locs1 hL => ?_
    rw [up_up] at hL
    refine lv_iinc (k := 0) (v := ((nI i) + 1)) (lv' := [(10, .int ((nI i) + 1)), (9, .ref (Γ.2.1 + kw)), (8, .int A9), (7, .int (nI O)), (6, .int (nI G)), (5, .int (nI L)), (4, .int (nI M)), (3, .ref (b2 + 0)), (2, .ref (Γ.2.1 + ks)), (1, .ref (Γ.2.1 + kb)), (0, .ref b0)]) hx hb dL_law_100 hl rfl rfl (by decide) rfl fun ls hl => ?_
    refine lv_goto (tgt := 81) hx hb dL_law_103 rfl ?_
    rw [ni_s] at hl
    refine W.widen (k := c0 + 1 * (i + 1)) (n := s0 + 6 * (i + 1)) (by omega) (by omega) ?_
    refine ih (i + 1) (by omega) _ _ _ _ ls (upd g i (u 174 i)) (lv_sub hl [0, 1, 2, 3, 4, 5, 6, 7, 8, 9, 10] rfl) hL (fun k hk => ?_)
    by_cases h9 : k = i
    · rw [h9, upd_eq]
    · rw [upd_ne h9]; exact hg k (by omega)
theorem lw_open (hX : XM Γ b2 p l s m args c cL_law 31 RL shb) (hFR : 14 ≤ R.frames ∧ 560 ≤ R.locals) (hA : APT pA pB (pn_ S G M L O) ks) (hLI : LI u S G M L O T 0) (hT : T ≤ 59994) (hTc : isum (u 179) 6 = T) (hM1 : 1 ≤ M) (hL1 : 1 ≤ L) (hEC : EC Γ shC d1 d2) (hSC : SCR Γ shC b0 L0 xs) (hroom : c0 + 26100 ≤ R.cells ∧ s0 + 150200 ≤ R.slots)
    (kk : ∀ (sh : Sh) (v : Va) (n : Nat) (vb : Va) (H1 : Heap) (locs1 : List Loc) (ls : Array Slot), DW Γ b2 s w wb shb sh v n vb H1 locs1 → W p l e R s m args below meth c H1 locs1 (c0 + 26100) (s0 + 150200) Q (F0 m 1206 ls [.int 1]))
    (hl : lv_has ls 31 [(3, .ref (b2 + 0)), (2, .ref (Γ.2.1 + ks)), (1, .ref (Γ.2.1 + kb)), (0, .ref b0)]) (hL : DL Γ b2 s w wb shb sh0 n0 ks pA pB S G M L O u u P sh v n vb H locs) : W p l e R s m args below meth c H locs c0 s0 Q (F0 m 30 ls [.int 0]) := by
  obtain ⟨hx, hb, hml, hts, hown, hK, hE, hb2, hkq, hEX, hlt, -⟩ := (⟨hX.1, hX.2.1, hX.2.2.1, hX.2.2.2.1, hX.2.2.2.2.1, hX.2.2.2.2.2.1, hX.2.2.2.2.2.2.1, hX.2.2.2.2.2.2.2.1, hX.2.2.2.2.2.2.2.2.1, hX.2.2.2.2.2.2.2.2.2.1, hX.2.2.2.2.2.2.2.2.2.2, trivial⟩ : _ ∧ _ ∧ _ ∧ _ ∧ _ ∧ _ ∧ _ ∧ _ ∧ _ ∧ _ ∧ _ ∧ True)
  have hB := hL.qi.2.2.2.2.2.1
  have hB2 := hL.qi.2.2.2.2.2.2.1
  have hIC : IC (u 179) := hL.qi.2.2.2.1.2.2.2.1
  have hnk : P n = none := hL.nope
  refine lv_if_eq (tgt := 35) hx hb dL_law_30 rfl (fun _ => ?_) (fun q => absurd rfl q)
  refine lv_aload_n hx hb dL_law_35 rfl (lv_at hl 0 rfl) ?_
  refine lv_iconst (v := 4) hx hb dL_law_36 rfl ?_
  refine y_c0 hX hL (fun nb => c_Quay_count hkq hEX hlt (q_count hL.qi (by omega) (w := 4) (by omega))) kX11_count xlL_246 rfl rfl rfl hl.1 (Nat.le_of_ble_eq_true rfl) ⟨by omega, by omega⟩ ⟨by omega, by omega⟩ dL_law_37 fun H1 locs1 hL => ?_
  rw [show cU u 4 = nI M from hB2.2.2.1]
  refine lv_istore (lv' := [(4, .int (nI M)), (3, .ref (b2 + 0)), (2, .ref (Γ.2.1 + ks)), (1, .ref (Γ.2.1 + kb)), (0, .ref b0)]) hx hb dL_law_40 hl (by decide) rfl fun ls hl => ?_
  refine lv_aload_n hx hb dL_law_42 rfl (lv_at hl 1 rfl) ?_
  refine lv_iconst (v := 5) hx hb dL_law_43 rfl ?_
  refine y_c0 hX hL (fun nb => c_Quay_count hkq hEX hlt (q_count hL.qi (by omega) (w := 5) (by omega))) kX11_count xlL_246 rfl rfl rfl hl.1 (Nat.le_of_ble_eq_true rfl) ⟨by omega, by omega⟩ ⟨by omega, by omega⟩ dL_law_44 fun H1 locs1 hL => ?_
  rw [show cU u 5 = nI L from hB2.2.2.2.1]
  refine lv_istore (lv' := [(5, .int (nI L)), (4, .int (nI M)), (3, .ref (b2 + 0)), (2, .ref (Γ.2.1 + ks)), (1, .ref (Γ.2.1 + kb)), (0, .ref b0)]) hx hb dL_law_47 hl (by decide) rfl fun ls hl => ?_
  refine lv_aload_n hx hb dL_law_49 rfl (lv_at hl 2 rfl) ?_
  refine lv_iconst (v := 3) hx hb dL_law_50 rfl ?_
  refine y_c0 hX hL (fun nb => c_Quay_count hkq hEX hlt (q_count hL.qi (by omega) (w := 3) (by omega))) kX11_count xlL_246 rfl rfl rfl hl.1 (Nat.le_of_ble_eq_true rfl) ⟨by omega, by omega⟩ ⟨by omega, by omega⟩ dL_law_51 fun H1 locs1 hL => ?_
  rw [show cU u 3 = nI G from hB2.2.1]
  refine lv_istore (lv' := [(6, .int (nI G)), (5, .int (nI L)), (4, .int (nI M)), (3, .ref (b2 + 0)), (2, .ref (Γ.2.1 + ks)), (1, .ref (Γ.2.1 + kb)), (0, .ref b0)]) hx hb dL_law_54 hl (by decide) rfl fun ls hl => ?_
  refine lv_aload_n hx hb dL_law_56 rfl (lv_at hl 3 rfl) ?_
  refine lv_bipush (v := 6) hx hb dL_law_57 rfl ?_
  refine y_c0 hX hL (fun nb => c_Quay_count hkq hEX hlt (q_count hL.qi (by omega) (w := 6) (by omega))) kX11_count xlL_246 rfl rfl rfl hl.1 (Nat.le_of_ble_eq_true rfl) ⟨by omega, by omega⟩ ⟨by omega, by omega⟩ dL_law_59 fun H1 locs1 hL => ?_
  rw [show cU u 6 = nI O from hB2.2.2.2.2]
  refine lv_istore (lv' := [(7, .int (nI O)), (6, .int (nI G)), (5, .int (nI L)), (4, .int (nI M)), (3, .ref (b2 + 0)), (2, .ref (Γ.2.1 + ks)), (1, .ref (Γ.2.1 + kb)), (0, .ref b0)]) hx hb dL_law_62 hl (by decide) rfl fun ls hl => ?_
  refine lv_aload_n hx hb dL_law_64 rfl (lv_at hl 4 rfl) ?_
  refine lv_bipush (v := 9) hx hb dL_law_65 rfl ?_
  refine y_c0 hX hL (fun nb => c_Quay_count hkq hEX hlt (q_count hL.qi (by omega) (w := 9) (by omega))) kX11_count xlL_246 rfl rfl rfl hl.1 (Nat.le_of_ble_eq_true rfl) ⟨by omega, by omega⟩ ⟨by omega, by omega⟩ dL_law_67 fun H1 locs1 hL => ?_
  refine lv_istore (lv' := [(8, .int (row_t (u 179) 6)), (7, .int (nI O)), (6, .int (nI G)), (5, .int (nI L)), (4, .int (nI M)), (3, .ref (b2 + 0)), (2, .ref (Γ.2.1 + ks)), (1, .ref (Γ.2.1 + kb)), (0, .ref b0)]) hx hb dL_law_70 hl (by decide) rfl fun ls hl => ?_
  refine lv_iload hx hb dL_law_72 (lv_at hl 3 rfl) ?_
  refine y_new (x := nI L) (N := L) hX hL (nI_pos (by omega)) (nI_clamp (by omega)) (by omega) (by omega) (by omega) dL_law_74 fun H1 hL => ?_
  refine lv_astore (lv' := [(9, .ref (Γ.2.1 + n)), (8, .int (row_t (u 179) 6)), (7, .int (nI O)), (6, .int (nI G)), (5, .int (nI L)), (4, .int (nI M)), (3, .ref (b2 + 0)), (2, .ref (Γ.2.1 + ks)), (1, .ref (Γ.2.1 + kb)), (0, .ref b0)]) hx hb dL_law_76 hl (by decide) rfl fun ls hl => ?_
  refine lv_iconst (v := 0) hx hb dL_law_78 rfl ?_
  refine lv_istore (lv' := [(10, .int 0), (9, .ref (Γ.2.1 + n)), (8, .int (row_t (u 179) 6)), (7, .int (nI O)), (6, .int (nI G)), (5, .int (nI L)), (4, .int (nI M)), (3, .ref (b2 + 0)), (2, .ref (Γ.2.1 + ks)), (1, .ref (Γ.2.1 + kb)), (0, .ref b0)]) hx hb dL_law_79 hl (by decide) rfl fun ls hl => ?_
  refine W.widen (k := c0 + 10 + 1 * 0) (n := s0 + 50 + 6 * 0) (by omega) (by omega) ?_
  refine lw_wts (c0 := c0 + 10) (s0 := s0 + 50) hX hFR ⟨by omega, by omega⟩ (fun v vb H1 locs1 ls g hl hL hg => ?_) L 0 (by omega) _ _ _ _ ls (fun _ => 0) (lv_sub hl [0, 1, 2, 3, 4, 5, 6, 7, 8, 9, 10] rfl) hL (fun k hk => absurd hk (Nat.not_lt_zero _))
  refine lv_iconst (v := 0) hx hb dL_law_106 rfl ?_
  refine lv_istore (lv' := [(10, .int 0), (9, .ref (Γ.2.1 + n)), (8, .int (row_t (u 179) 6)), (7, .int (nI O)), (6, .int (nI G)), (5, .int (nI L)), (4, .int (nI M)), (3, .ref (b2 + 0)), (2, .ref (Γ.2.1 + ks)), (1, .ref (Γ.2.1 + kb)), (0, .ref b0)]) hx hb dL_law_107 hl (by decide) rfl fun ls hl => ?_
  have hA9 : (row_t (u 179) 6).toInt = T := by
    rw [← hTc]
    exact (row_t_int (f := u 179) 6 (by omega) (fun i hi => ⟨hIC.1 i hi, by have := isum_le (f := u 179) (i := i) 6 hIC.1 hi; have := hIC.2; omega⟩)).1
  refine W.widen (k := c0 + 100 + 600 * 0) (n := s0 + 200 + 3000 * 0) (by omega) (by omega) ?_
  exact lw_turns (c0 := c0 + 100) (s0 := s0 + 200) hX hFR hA hT hA9 hM1 hL1 hEC hSC ⟨by omega, by omega⟩ (fun sh v n vb H1 locs1 ls hD => W.widen (k := c0 + 26100) (n := s0 + 150200) (by omega) (by omega) (kk sh v n vb H1 locs1 ls hD)) 40 0 (by omega) u _ _ _ _ _ _ _ ls g (lv_sub hl [0, 1, 2, 3, 4, 5, 6, 7, 8, 9, 10] rfl) hL hLI (up_eq _ _ _) (fun k hk => by rw [hg k hk]; exact Int.le_refl _)
end LF9
