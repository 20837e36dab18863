/-! THE LAW: what is told before a day -/
section LC9
variable {p : Program} {l : Launch} {e : Env} {R : Room} {s : State} {m : MethodId} {args : Array Value} {below : List Frame} {meth : Method} {c : Code} {H H0 : Heap} {locs : List Loc} {cells slots : Nat} {Q : State → Prop}
variable {cc : ByteArray} {pc nL : Nat} {ls : Array Slot} {st0 rest As Bs : List Value} {Γ : Cx} {sh sh0 shb : Sh} {v v0 v1 vb vb1 : Va} {w wb : Vl} {own : String} {idx ci j k n n0 nb nn hh mL mc ms a b2 ks S G M L O d1 d2 c0 s0 : Nat} {cs : List Nat} {y : MethodName} {b : ByteArray} {ret : Option FieldType} {pA : Nat → Nat} {pB : Nat → Nat → Nat} {u ua ub ua1 ub1 : Va} {P : Pfn}
variable {x9 A9 : Int32} {t9 kw kb b0 : Nat} {T : Int} {B : Nat}
variable {ko kh kt : Nat} {u2 : Va} {n2 : Nat}
theorem lcm_self {x : Int64} : lg_cmp x x = 0 := by simp [lg_cmp]
/-- the class answers a long, and keeps its state -/
theorem y_l1 (hX : XM Γ b2 p l s m args c cc nL own shb) (hL : DL Γ b2 s w wb shb sh0 n0 ks pA pB S G M L O ua ub P sh v n vb H locs) {x0 : Int64} (hQ : QI 4001 vb1 ub1 S G M L O) (hM : ∀ nb, MetL l y b mL ret hh (bs Γ b2) shb vb wb nb (.ref (b2 + 0) :: As) (fun x u => x = x0 ∧ u = vb1)) (hC : CAV y b mL ret nn) (hML : ML own idx y) (hcl : y.cls = RX11) (hst : st0 = As.reverse ++ .ref (b2 + 0) :: rest) (hn : As.length = nn) (hls : ls.size = nL) (hW : (rest.map fun v => v.category).sum ≤ 8) (hR : hh + 1 ≤ R.frames ∧ 8 + (mL + 11) + 40 * hh ≤ R.locals) (hf : cells ≤ R.cells ∧ slots ≤ R.slots) (hdg : decode cc pc = .ok (.invokevirtual idx, 3))
    (kk : ∀ (H1 : Heap) (locs1 : List Loc), DL Γ b2 s w wb shb sh0 n0 ks pA pB S G M L O ua ub1 P sh v n vb1 H1 locs1 → W p l e R s m args below meth c H1 locs1 cells slots Q (F0 m (pc + 3) ls (.long x0 :: rest))) : W p l e R s m args below meth c H locs cells slots Q (F0 m pc ls st0) := by
  obtain ⟨hx, hb, hml, hts, hown, hK, hE, hb2, hk, hEX, hlt⟩ := id hX
  have hql := hL.1.blt hk.1
  have hnb : b2 + (Γ.2.1 + n - b2) = Γ.2.1 + n := by omega
  refine d_bl (nb := Γ.2.1 + n - b2) (Bs := .ref (b2 + 0) :: As) hL.1 hb2 hnb (w_rV (Γ := bs Γ b2) (k := 0) hx hb hml hts hown hK (hM _) rfl rfl hC hML (by rw [hcl]; exact w_recv (Γ := bs Γ b2) hK hL.1.2.2.1 hk.1 rfl) PN.blind (d_pnB hE hK hL.1 hnb) hst hls hn hW hR hf hdg) fun r u H1 locs1 hp hD => ?_
  obtain ⟨rfl, rfl⟩ := hp
  exact kk H1 locs1 (hL.fb hD hQ)
theorem lw_often (hX : XM Γ b2 p l s m args c cL_law 31 RL shb) (hFR : 14 ≤ R.frames ∧ 560 ≤ R.locals)  (hroom : c0 + 1 * O ≤ R.cells ∧ s0 + 6 * O ≤ R.slots)
    (kk : ∀ (v : Va) (vb : Va) (H1 : Heap) (locs1 : List Loc) (ls : Array Slot) (g : Nat → Int32), lv_has ls 31 [(19, .ref (Γ.2.1 + ko)), (11, .int x9), (10, .int (nI t9)), (9, .ref (Γ.2.1 + kw)), (8, .int A9), (7, .int (nI O)), (6, .int (nI G)), (5, .int (nI L)), (4, .int (nI M)), (3, .ref (b2 + 0)), (2, .ref (Γ.2.1 + ks)), (1, .ref (Γ.2.1 + kb)), (0, .ref b0)] → DL Γ b2 s w wb shb sh0 n0 ks pA pB S G M L O u u (up P ko (some (sA O, g))) sh v n vb H1 locs1 → (∀ k, k < O → g k = u 182 k) → W p l e R s m args below meth c H1 locs1 (c0 + 1 * O) (s0 + 6 * O) Q (F0 m 747 ls [])) :
    ∀ (j i : Nat), i + j = O → ∀ (v : Va) (vb : Va) (H1 : Heap) (locs1 : List Loc) (ls : Array Slot) (g : Nat → Int32), lv_has ls 31 [(20, .int (nI i)), (19, .ref (Γ.2.1 + ko)), (11, .int x9), (10, .int (nI t9)), (9, .ref (Γ.2.1 + kw)), (8, .int A9), (7, .int (nI O)), (6, .int (nI G)), (5, .int (nI L)), (4, .int (nI M)), (3, .ref (b2 + 0)), (2, .ref (Γ.2.1 + ks)), (1, .ref (Γ.2.1 + kb)), (0, .ref b0)] → DL Γ b2 s w wb shb sh0 n0 ks pA pB S G M L O u u (up P ko (some (sA O, g))) sh v n vb H1 locs1 → (∀ k, k < i → g k = u 182 k) → W p l e R s m args below meth c H1 locs1 (c0 + 1 * i) (s0 + 6 * i) Q (F0 m 722 ls []) := by
  obtain ⟨hx, hb, hml, hts, hown, hK, hE, hb2, hkq, hEX, hlt, -⟩ := (⟨hX.1, hX.2.1, hX.2.2.1, hX.2.2.2.1, hX.2.2.2.2.1, hX.2.2.2.2.2.1, hX.2.2.2.2.2.2.1, hX.2.2.2.2.2.2.2.1, hX.2.2.2.2.2.2.2.2.1, hX.2.2.2.2.2.2.2.2.2.1, hX.2.2.2.2.2.2.2.2.2.2, trivial⟩ : _ ∧ _ ∧ _ ∧ _ ∧ _ ∧ _ ∧ _ ∧ _ ∧ _ ∧ _ ∧ _ ∧ True)
  intro j
  induction j with
  | zero =>
    intro i hij v vb H1 locs1 ls g hl hL hg
    have hi : i = O := by omega
    rw [hi] at hl hg ⊢
    refine lv_iload hx hb dL_law_722 (lv_at hl 0 rfl) ?_
    refine lv_iload hx hb dL_law_724 (lv_at hl 6 rfl) ?_
    refine lv_icmp_ge (tgt := 747) hx hb dL_law_726 rfl (fun _ => ?_) (fun q => absurd (Int32.le_refl _) q)
    exact kk v vb H1 locs1 ls g (lv_sub hl [1, 2, 3, 4, 5, 6, 7, 8, 9, 10, 11, 12, 13] rfl) hL hg
  | succ j ih =>
    intro i hij v vb H1 locs1 ls g hl hL hg
    have hi : i < O := by omega
    have hB := hL.qi.2.2.2.2.2.1
    refine lv_iload hx hb dL_law_722 (lv_at hl 0 rfl) ?_
    refine lv_iload hx hb dL_law_724 (lv_at hl 6 rfl) ?_
    refine lv_icmp_ge (tgt := 747) hx hb dL_law_726 rfl (fun q => absurd ((le_n (i := O) (j := i) (by omega) (by omega)).mp q) (by omega)) (fun _ => ?_)
    refine lv_aload hx hb dL_law_729 (lv_at hl 1 rfl) ?_
    refine lv_iload hx hb dL_law_731 (lv_at hl 0 rfl) ?_
    refine lv_aload_n hx hb dL_law_733 rfl (lv_at hl 10 rfl) ?_
    refine lv_iload hx hb dL_law_734 (lv_at hl 0 rfl) ?_
    refine lv_iconst (v := 4) hx hb dL_law_736 rfl ?_
    obtain ⟨v2, e1, e2, -⟩ := q_ord hL.qi (by omega) hi (w := 4) (by omega) (by omega)
    refine y_c1 hX hL e2 (fun nb => c_Quay_order hkq hEX hlt e1) kX11_order xlL_270 rfl rfl rfl hl.1 (Nat.le_of_ble_eq_true rfl) ⟨by omega, by omega⟩ ⟨by omega, by omega⟩ dL_law_737 fun H1 locs1 hL => ?_
    refine y_ia (k := ko) hX hL (up_eq _ _ _) (j := i) (nI_clamp (by omega)) (vin hi (by omega)) dL_law_740 fun v1 H1 locs1 hL => ?_
    rw [up_up] at hL
    refine lv_iinc (k := 0) (v := ((nI i) + 1)) (lv' := [(20, .int ((nI i) + 1)), (19, .ref (Γ.2.1 + ko)), (11, .int x9), (10, .int (nI t9)), (9, .ref (Γ.2.1 + kw)), (8, .int A9), (7, .int (nI O)), (6, .int (nI G)), (5, .int (nI L)), (4, .int (nI M)), (3, .ref (b2 + 0)), (2, .ref (Γ.2.1 + ks)), (1, .ref (Γ.2.1 + kb)), (0, .ref b0)]) hx hb dL_law_741 hl rfl rfl (by decide) rfl fun ls hl => ?_
    refine lv_goto (tgt := 722) hx hb dL_law_744 rfl ?_
    rw [ni_s] at hl
    refine W.widen (k := c0 + 1 * (i + 1)) (n := s0 + 6 * (i + 1)) (by omega) (by omega) ?_
    refine ih (i + 1) (by omega) _ _ _ _ ls (upd g i (u 182 i)) (lv_sub hl [0, 1, 2, 3, 4, 5, 6, 7, 8, 9, 10, 11, 12, 13] rfl) hL (fun k hk => ?_)
    by_cases h9 : k = i
    · rw [h9, upd_eq]
    · rw [upd_ne h9]; exact hg k (by omega)
theorem lw_had (hX : XM Γ b2 p l s m args c cL_law 31 RL shb) (hFR : 14 ≤ R.frames ∧ 560 ≤ R.locals)  (hroom : c0 + 1 * 13 ≤ R.cells ∧ s0 + 6 * 13 ≤ R.slots)
    (kk : ∀ (v : Va) (vb : Va) (H1 : Heap) (locs1 : List Loc) (ls : Array Slot) (g : Nat → Int32), lv_has ls 31 [(20, .ref (Γ.2.1 + kh)), (19, .ref (Γ.2.1 + ko)), (11, .int x9), (10, .int (nI t9)), (9, .ref (Γ.2.1 + kw)), (8, .int A9), (7, .int (nI O)), (6, .int (nI G)), (5, .int (nI L)), (4, .int (nI M)), (3, .ref (b2 + 0)), (2, .ref (Γ.2.1 + ks)), (1, .ref (Γ.2.1 + kb)), (0, .ref b0)] → DL Γ b2 s w wb shb sh0 n0 ks pA pB S G M L O u u (up P kh (some (sA 13, g))) sh v n vb H1 locs1 → (∀ k, k < 13 → g k = cU u k) → W p l e R s m args below meth c H1 locs1 (c0 + 1 * 13) (s0 + 6 * 13) Q (F0 m 780 ls [])) :
    ∀ (j i : Nat), i + j = 13 → ∀ (v : Va) (vb : Va) (H1 : Heap) (locs1 : List Loc) (ls : Array Slot) (g : Nat → Int32), lv_has ls 31 [(21, .int (nI i)), (20, .ref (Γ.2.1 + kh)), (19, .ref (Γ.2.1 + ko)), (11, .int x9), (10, .int (nI t9)), (9, .ref (Γ.2.1 + kw)), (8, .int A9), (7, .int (nI O)), (6, .int (nI G)), (5, .int (nI L)), (4, .int (nI M)), (3, .ref (b2 + 0)), (2, .ref (Γ.2.1 + ks)), (1, .ref (Γ.2.1 + kb)), (0, .ref b0)] → DL Γ b2 s w wb shb sh0 n0 ks pA pB S G M L O u u (up P kh (some (sA 13, g))) sh v n vb H1 locs1 → (∀ k, k < i → g k = cU u k) → W p l e R s m args below meth c H1 locs1 (c0 + 1 * i) (s0 + 6 * i) Q (F0 m 756 ls []) := by
  obtain ⟨hx, hb, hml, hts, hown, hK, hE, hb2, hkq, hEX, hlt, -⟩ := (⟨hX.1, hX.2.1, hX.2.2.1, hX.2.2.2.1, hX.2.2.2.2.1, hX.2.2.2.2.2.1, hX.2.2.2.2.2.2.1, hX.2.2.2.2.2.2.2.1, hX.2.2.2.2.2.2.2.2.1, hX.2.2.2.2.2.2.2.2.2.1, hX.2.2.2.2.2.2.2.2.2.2, trivial⟩ : _ ∧ _ ∧ _ ∧ _ ∧ _ ∧ _ ∧ _ ∧ _ ∧ _ ∧ _ ∧ _ ∧ True)
  intro j
  induction j with
  | zero =>
    intro i hij v vb H1 locs1 ls g hl hL hg
    have hi : i = 13 := by omega
    rw [hi] at hl hg ⊢
    refine lv_iload hx hb dL_law_756 (lv_at hl 0 rfl) ?_
    refine lv_bipush (v := 13) hx hb dL_law_758 rfl ?_
    refine lv_icmp_ge (tgt := 780) hx hb dL_law_760 rfl (fun _ => ?_) (fun q => absurd (Int32.le_refl _) q)
    exact kk v vb H1 locs1 ls g (lv_sub hl [1, 2, 3, 4, 5, 6, 7, 8, 9, 10, 11, 12, 13, 14] rfl) hL hg
  | succ j ih =>
    intro i hij v vb H1 locs1 ls g hl hL hg
    have hi : i < 13 := by omega
    have hB := hL.qi.2.2.2.2.2.1
    refine lv_iload hx hb dL_law_756 (lv_at hl 0 rfl) ?_
    refine lv_bipush (v := 13) hx hb dL_law_758 rfl ?_
    refine lv_icmp_ge (tgt := 780) hx hb dL_law_760 rfl (fun q => absurd ((le_n (i := 13) (j := i) (by omega) (by omega)).mp q) (by omega)) (fun _ => ?_)
    refine lv_aload hx hb dL_law_763 (lv_at hl 1 rfl) ?_
    refine lv_iload hx hb dL_law_765 (lv_at hl 0 rfl) ?_
    refine lv_aload_n hx hb dL_law_767 rfl (lv_at hl 11 rfl) ?_
    refine lv_iload hx hb dL_law_768 (lv_at hl 0 rfl) ?_
    refine y_c0 hX hL (fun nb => c_Quay_count hkq hEX hlt (q_count hL.qi (by omega) (w := i) (by omega))) kX11_count xlL_246 rfl rfl rfl hl.1 (Nat.le_of_ble_eq_true rfl) ⟨by omega, by omega⟩ ⟨by omega, by omega⟩ dL_law_770 fun H1 locs1 hL => ?_
    refine y_ia (k := kh) hX hL (up_eq _ _ _) (j := i) (nI_clamp (by omega)) (vin hi (by omega)) dL_law_773 fun v1 H1 locs1 hL => ?_
    rw [up_up] at hL
    refine lv_iinc (k := 0) (v := ((nI i) + 1)) (lv' := [(21, .int ((nI i) + 1)), (20, .ref (Γ.2.1 + kh)), (19, .ref (Γ.2.1 + ko)), (11, .int x9), (10, .int (nI t9)), (9, .ref (Γ.2.1 + kw)), (8, .int A9), (7, .int (nI O)), (6, .int (nI G)), (5, .int (nI L)), (4, .int (nI M)), (3, .ref (b2 + 0)), (2, .ref (Γ.2.1 + ks)), (1, .ref (Γ.2.1 + kb)), (0, .ref b0)]) hx hb dL_law_774 hl rfl rfl (by decide) rfl fun ls hl => ?_
    refine lv_goto (tgt := 756) hx hb dL_law_777 rfl ?_
    rw [ni_s] at hl
    refine W.widen (k := c0 + 1 * (i + 1)) (n := s0 + 6 * (i + 1)) (by omega) (by omega) ?_
    refine ih (i + 1) (by omega) _ _ _ _ ls (upd g i (cU u i)) (lv_sub hl [0, 1, 2, 3, 4, 5, 6, 7, 8, 9, 10, 11, 12, 13, 14] rfl) hL (fun k hk => ?_)
    by_cases h9 : k = i
    · rw [h9, upd_eq]
    · rw [upd_ne h9]; exact hg k (by omega)
theorem lw_then (hX : XM Γ b2 p l s m args c cL_law 31 RL shb) (hFR : 14 ≤ R.frames ∧ 560 ≤ R.locals) {D9 : Int64} (hday : f_Model_daysOn 4001 u 151 173 (nI 1) = some (nI n2, u2)) (hroom : c0 + 1 * 7 ≤ R.cells ∧ s0 + 6 * 7 ≤ R.slots)
    (kk : ∀ (v : Va) (vb : Va) (H1 : Heap) (locs1 : List Loc) (ls : Array Slot) (g : Nat → Int32), lv_has ls 31 [(23, .ref (Γ.2.1 + kt)), (21, .long D9), (20, .ref (Γ.2.1 + kh)), (19, .ref (Γ.2.1 + ko)), (11, .int x9), (10, .int (nI t9)), (9, .ref (Γ.2.1 + kw)), (8, .int A9), (7, .int (nI O)), (6, .int (nI G)), (5, .int (nI L)), (4, .int (nI M)), (3, .ref (b2 + 0)), (2, .ref (Γ.2.1 + ks)), (1, .ref (Γ.2.1 + kb)), (0, .ref b0)] → DL Γ b2 s w wb shb sh0 n0 ks pA pB S G M L O u u (up P kt (some (sA 7, g))) sh v n vb H1 locs1 → (∀ k, k < 7 → g k = (if k = 0 then nI n2 else cU u2 (6 + k))) → W p l e R s m args below meth c H1 locs1 (c0 + 1 * 7) (s0 + 6 * 7) Q (F0 m 832 ls [])) :
    ∀ (j i : Nat), i + j = 7 → ∀ (v : Va) (vb : Va) (H1 : Heap) (locs1 : List Loc) (ls : Array Slot) (g : Nat → Int32), lv_has ls 31 [(24, .int (nI i)), (23, .ref (Γ.2.1 + kt)), (21, .long D9), (20, .ref (Γ.2.1 + kh)), (19, .ref (Γ.2.1 + ko)), (11, .int x9), (10, .int (nI t9)), (9, .ref (Γ.2.1 + kw)), (8, .int A9), (7, .int (nI O)), (6, .int (nI G)), (5, .int (nI L)), (4, .int (nI M)), (3, .ref (b2 + 0)), (2, .ref (Γ.2.1 + ks)), (1, .ref (Γ.2.1 + kb)), (0, .ref b0)] → DL Γ b2 s w wb shb sh0 n0 ks pA pB S G M L O u u (up P kt (some (sA 7, g))) sh v n vb H1 locs1 → (∀ k, k < i → g k = (if k = 0 then nI n2 else cU u2 (6 + k))) → W p l e R s m args below meth c H1 locs1 (c0 + 1 * i) (s0 + 6 * i) Q (F0 m 795 ls []) := by
  obtain ⟨hx, hb, hml, hts, hown, hK, hE, hb2, hkq, hEX, hlt, -⟩ := (⟨hX.1, hX.2.1, hX.2.2.1, hX.2.2.2.1, hX.2.2.2.2.1, hX.2.2.2.2.2.1, hX.2.2.2.2.2.2.1, hX.2.2.2.2.2.2.2.1, hX.2.2.2.2.2.2.2.2.1, hX.2.2.2.2.2.2.2.2.2.1, hX.2.2.2.2.2.2.2.2.2.2, trivial⟩ : _ ∧ _ ∧ _ ∧ _ ∧ _ ∧ _ ∧ _ ∧ _ ∧ _ ∧ _ ∧ _ ∧ True)
  intro j
  induction j with
  | zero =>
    intro i hij v vb H1 locs1 ls g hl hL hg
    have hi : i = 7 := by omega
    rw [hi] at hl hg ⊢
    refine lv_iload hx hb dL_law_795 (lv_at hl 0 rfl) ?_
    refine lv_bipush (v := 7) hx hb dL_law_797 rfl ?_
    refine lv_icmp_ge (tgt := 832) hx hb dL_law_799 rfl (fun _ => ?_) (fun q => absurd (Int32.le_refl _) q)
    exact kk v vb H1 locs1 ls g (lv_sub hl [1, 2, 3, 4, 5, 6, 7, 8, 9, 10, 11, 12, 13, 14, 15, 16] rfl) hL hg
  | succ j ih =>
    intro i hij v vb H1 locs1 ls g hl hL hg
    have hi : i < 7 := by omega
    have hB := hL.qi.2.2.2.2.2.1
    refine lv_iload hx hb dL_law_795 (lv_at hl 0 rfl) ?_
    refine lv_bipush (v := 7) hx hb dL_law_797 rfl ?_
    refine lv_icmp_ge (tgt := 832) hx hb dL_law_799 rfl (fun q => absurd ((le_n (i := 7) (j := i) (by omega) (by omega)).mp q) (by omega)) (fun _ => ?_)
    refine lv_aload hx hb dL_law_802 (lv_at hl 1 rfl) ?_
    refine lv_iload hx hb dL_law_804 (lv_at hl 0 rfl) ?_
    refine lv_aload_n hx hb dL_law_806 rfl (lv_at hl 13 rfl) ?_
    refine lv_iconst (v := 1) hx hb dL_law_807 rfl ?_
    refine lv_iload hx hb dL_law_808 (lv_at hl 0 rfl) ?_
    by_cases h0 : i = 0
    · refine lv_if_ne (tgt := 817) hx hb dL_law_810 rfl (fun q => absurd (show nI i = 0 by rw [h0]; rfl) q) (fun _ => ?_)
      refine lv_iconst (v := 0) hx hb dL_law_813 rfl ?_
      refine lv_goto (tgt := 822) hx hb dL_law_814 rfl ?_
      obtain ⟨r9, v2, e1, e2, e3⟩ := q_foresee hL.qi (by omega) (w := 0) (Or.inl rfl)
      rw [hday] at e1
      cases e1
      refine y_c1 hX hL e3 (fun nb => c_Quay_foresee hkq hEX hlt e2) kX11_foresee xlL_277 rfl rfl rfl hl.1 (Nat.le_of_ble_eq_true rfl) ⟨by omega, by omega⟩ ⟨by omega, by omega⟩ dL_law_822 fun H1 locs1 hL => ?_
      refine y_ia (k := kt) hX hL (up_eq _ _ _) (j := i) (nI_clamp (by omega)) (vin hi (by omega)) dL_law_825 fun v1 H1 locs1 hL => ?_
      rw [up_up] at hL
      refine lv_iinc (k := 0) (v := ((nI i) + 1)) (lv' := [(24, .int ((nI i) + 1)), (23, .ref (Γ.2.1 + kt)), (21, .long D9), (20, .ref (Γ.2.1 + kh)), (19, .ref (Γ.2.1 + ko)), (11, .int x9), (10, .int (nI t9)), (9, .ref (Γ.2.1 + kw)), (8, .int A9), (7, .int (nI O)), (6, .int (nI G)), (5, .int (nI L)), (4, .int (nI M)), (3, .ref (b2 + 0)), (2, .ref (Γ.2.1 + ks)), (1, .ref (Γ.2.1 + kb)), (0, .ref b0)]) hx hb dL_law_826 hl rfl rfl (by decide) rfl fun ls hl => ?_
      refine lv_goto (tgt := 795) hx hb dL_law_829 rfl ?_
      rw [ni_s] at hl
      refine W.widen (k := c0 + 1 * (i + 1)) (n := s0 + 6 * (i + 1)) (by omega) (by omega) ?_
      refine ih (i + 1) (by omega) _ _ _ _ ls (upd g i (nI n2)) (lv_sub hl [0, 1, 2, 3, 4, 5, 6, 7, 8, 9, 10, 11, 12, 13, 14, 15, 16] rfl) hL (fun k hk => ?_)
      by_cases h9 : k = i
      · rw [h9, upd_eq]; exact (if_pos h0).symm
      · rw [upd_ne h9]; exact hg k (by omega)
    · refine lv_if_ne (tgt := 817) hx hb dL_law_810 rfl (fun _ => ?_) (fun q => absurd q (by rw [show (0 : Int32) = nI 0 from rfl, eq_n (by omega) (by omega)]; exact h0))
      refine lv_bipush (v := 6) hx hb dL_law_817 rfl ?_
      refine lv_iload hx hb dL_law_819 (lv_at hl 0 rfl) ?_
      refine lv_iadd hx hb dL_law_821 ?_
      rw [show (6 : Int32) + nI i = nI (6 + i) from ni_add 6 i]
      obtain ⟨r9, v2, e1, e2, e3⟩ := q_foresee hL.qi (by omega) (w := 6 + i) (Or.inr ⟨by omega, by omega⟩)
      rw [hday] at e1
      cases e1
      rw [if_neg (show ¬ 6 + i = 0 by omega)] at e2
      refine y_c1 hX hL e3 (fun nb => c_Quay_foresee hkq hEX hlt e2) kX11_foresee xlL_277 rfl rfl rfl hl.1 (Nat.le_of_ble_eq_true rfl) ⟨by omega, by omega⟩ ⟨by omega, by omega⟩ dL_law_822 fun H1 locs1 hL => ?_
      refine y_ia (k := kt) hX hL (up_eq _ _ _) (j := i) (nI_clamp (by omega)) (vin hi (by omega)) dL_law_825 fun v1 H1 locs1 hL => ?_
      rw [up_up] at hL
      refine lv_iinc (k := 0) (v := ((nI i) + 1)) (lv' := [(24, .int ((nI i) + 1)), (23, .ref (Γ.2.1 + kt)), (21, .long D9), (20, .ref (Γ.2.1 + kh)), (19, .ref (Γ.2.1 + ko)), (11, .int x9), (10, .int (nI t9)), (9, .ref (Γ.2.1 + kw)), (8, .int A9), (7, .int (nI O)), (6, .int (nI G)), (5, .int (nI L)), (4, .int (nI M)), (3, .ref (b2 + 0)), (2, .ref (Γ.2.1 + ks)), (1, .ref (Γ.2.1 + kb)), (0, .ref b0)]) hx hb dL_law_826 hl rfl rfl (by decide) rfl fun ls hl => ?_
      refine lv_goto (tgt := 795) hx hb dL_law_829 rfl ?_
      rw [ni_s] at hl
      refine W.widen (k := c0 + 1 * (i + 1)) (n := s0 + 6 * (i + 1)) (by omega) (by omega) ?_
      refine ih (i + 1) (by omega) _ _ _ _ ls (upd g i (cU u2 (6 + i))) (lv_sub hl [0, 1, 2, 3, 4, 5, 6, 7, 8, 9, 10, 11, 12, 13, 14, 15, 16] rfl) hL (fun k hk => ?_)
      by_cases h9 : k = i
      · rw [h9, upd_eq]; exact (if_neg h0).symm
      · rw [upd_ne h9]; exact hg k (by omega)
theorem lw_before (hX : XM Γ b2 p l s m args c cL_law 31 RL shb) (hFR : 14 ≤ R.frames ∧ 560 ≤ R.locals) (hM1 : 1 ≤ M) (hday : f_Model_daysOn 4001 u 151 173 (nI 1) = some (nI n2, u2)) (hroom : c0 + 100 ≤ R.cells ∧ s0 + 500 ≤ R.slots)
    (kk : ∀ (P1 : Pfn) (sh : Sh) (v : Va) (n : Nat) (vb : Va) (H1 : Heap) (locs1 : List Loc) (ls : Array Slot) (ko kh kt k7 : Nat) (r9 : Int32) (go gh gt : Nat → Int32), lv_has ls 31 [(25, .int r9), (24, .int (nI k7)), (23, .ref (Γ.2.1 + kt)), (20, .ref (Γ.2.1 + kh)), (19, .ref (Γ.2.1 + ko)), (11, .int x9), (10, .int (nI t9)), (9, .ref (Γ.2.1 + kw)), (8, .int A9), (7, .int (nI O)), (6, .int (nI G)), (5, .int (nI L)), (4, .int (nI M)), (3, .ref (b2 + 0)), (2, .ref (Γ.2.1 + ks)), (1, .ref (Γ.2.1 + kb)), (0, .ref b0)] → DL Γ b2 s w wb shb sh0 n0 ks pA pB S G M L O u u P1 sh v n vb H1 locs1 → (∀ q, P q ≠ none → P1 q = P q) → P1 ko = some (sA O, go) → (∀ k, k < O → go k = u 182 k) → P1 kh = some (sA 13, gh) → (∀ k, k < 13 → gh k = cU u k) → P1 kt = some (sA 7, gt) → (∀ k, k < 7 → gt k = if k = 0 then nI n2 else cU u2 (6 + k)) → k7 < M → UNT 4001 u k7 r9 → W p l e R s m args below meth c H1 locs1 (c0 + 100) (s0 + 500) Q (F0 m 937 ls []))
    (hl : lv_has ls 31 [(11, .int x9), (10, .int (nI t9)), (9, .ref (Γ.2.1 + kw)), (8, .int A9), (7, .int (nI O)), (6, .int (nI G)), (5, .int (nI L)), (4, .int (nI M)), (3, .ref (b2 + 0)), (2, .ref (Γ.2.1 + ks)), (1, .ref (Γ.2.1 + kb)), (0, .ref b0)]) (hL : DL Γ b2 s w wb shb sh0 n0 ks pA pB S G M L O u u P sh v n vb H locs) : W p l e R s m args below meth c H locs c0 s0 Q (F0 m 713 ls []) := by
  obtain ⟨hx, hb, hml, hts, hown, hK, hE, hb2, hkq, hEX, hlt, -⟩ := (⟨hX.1, hX.2.1, hX.2.2.1, hX.2.2.2.1, hX.2.2.2.2.1, hX.2.2.2.2.2.1, hX.2.2.2.2.2.2.1, hX.2.2.2.2.2.2.2.1, hX.2.2.2.2.2.2.2.2.1, hX.2.2.2.2.2.2.2.2.2.1, hX.2.2.2.2.2.2.2.2.2.2, trivial⟩ : _ ∧ _ ∧ _ ∧ _ ∧ _ ∧ _ ∧ _ ∧ _ ∧ _ ∧ _ ∧ _ ∧ True)
  have hB := hL.qi.2.2.2.2.2.1
  have hPn : ∀ q, n ≤ q → P q = none := fun q hq => by
    cases h9 : P q with
    | none => rfl
    | some t =>
      have := hL.ddm _ _ (hL.N q t.1 t.2 h9).1
      omega
  refine lv_iload hx hb dL_law_713 (lv_at hl 4 rfl) ?_
  refine y_new (x := nI O) (N := O) hX hL (nI_pos (by omega)) (nI_clamp (by omega)) (by omega) (by omega) (by omega) dL_law_715 fun H1 hL => ?_
  refine lv_astore (lv' := [(19, .ref (Γ.2.1 + n)), (11, .int x9), (10, .int (nI t9)), (9, .ref (Γ.2.1 + kw)), (8, .int A9), (7, .int (nI O)), (6, .int (nI G)), (5, .int (nI L)), (4, .int (nI M)), (3, .ref (b2 + 0)), (2, .ref (Γ.2.1 + ks)), (1, .ref (Γ.2.1 + kb)), (0, .ref b0)]) hx hb dL_law_717 hl (by decide) rfl fun ls hl => ?_
  refine lv_iconst (v := 0) hx hb dL_law_719 rfl ?_
  refine lv_istore (lv' := [(20, .int 0), (19, .ref (Γ.2.1 + n)), (11, .int x9), (10, .int (nI t9)), (9, .ref (Γ.2.1 + kw)), (8, .int A9), (7, .int (nI O)), (6, .int (nI G)), (5, .int (nI L)), (4, .int (nI M)), (3, .ref (b2 + 0)), (2, .ref (Γ.2.1 + ks)), (1, .ref (Γ.2.1 + kb)), (0, .ref b0)]) hx hb dL_law_720 hl (by decide) rfl fun ls hl => ?_
  refine W.widen (k := c0 + 1 + 1 * 0) (n := s0 + 30 + 6 * 0) (by omega) (by omega) ?_
  refine lw_often hX hFR ⟨by omega, by omega⟩ (fun v vb H1 locs1 ls go hl hL hgo => ?_) O 0 (by omega) _ _ _ _ ls (fun _ => 0) (lv_sub hl [0, 1, 2, 3, 4, 5, 6, 7, 8, 9, 10, 11, 12, 13] rfl) hL (fun k hk => absurd hk (Nat.not_lt_zero _))
  refine lv_bipush (v := 13) hx hb dL_law_747 rfl ?_
  refine y_new (x := nI 13) (N := 13) hX hL (nI_pos (by omega)) (nI_clamp (by omega)) (by omega) (by omega) (by omega) dL_law_749 fun H1 hL => ?_
  refine lv_astore (lv' := [(20, .ref (Γ.2.1 + (n + 1))), (19, .ref (Γ.2.1 + n)), (11, .int x9), (10, .int (nI t9)), (9, .ref (Γ.2.1 + kw)), (8, .int A9), (7, .int (nI O)), (6, .int (nI G)), (5, .int (nI L)), (4, .int (nI M)), (3, .ref (b2 + 0)), (2, .ref (Γ.2.1 + ks)), (1, .ref (Γ.2.1 + kb)), (0, .ref b0)]) hx hb dL_law_751 hl (by decide) rfl fun ls hl => ?_
  refine lv_iconst (v := 0) hx hb dL_law_753 rfl ?_
  refine lv_istore (lv' := [(21, .int 0), (20, .ref (Γ.2.1 + (n + 1))), (19, .ref (Γ.2.1 + n)), (11, .int x9), (10, .int (nI t9)), (9, .ref (Γ.2.1 + kw)), (8, .int A9), (7, .int (nI O)), (6, .int (nI G)), (5, .int (nI L)), (4, .int (nI M)), (3, .ref (b2 + 0)), (2, .ref (Γ.2.1 + ks)), (1, .ref (Γ.2.1 + kb)), (0, .ref b0)]) hx hb dL_law_754 hl (by decide) rfl fun ls hl => ?_
  refine W.widen (k := c0 + 30 + 1 * 0) (n := s0 + 200 + 6 * 0) (by omega) (by omega) ?_
  refine lw_had (kh := n + 1) hX hFR ⟨by omega, by omega⟩ (fun v vb H1 locs1 ls gh hl hL hgh => ?_) 13 0 (by omega) _ _ _ _ ls (fun _ => 0) (lv_sub hl [0, 1, 2, 3, 4, 5, 6, 7, 8, 9, 10, 11, 12, 13, 14] rfl) hL (fun k hk => absurd hk (Nat.not_lt_zero _))
  refine lv_aload_n hx hb dL_law_780 rfl (lv_at hl 10 rfl) ?_
  obtain ⟨rd, v2, hd0, hd1, hd2, -⟩ := q_digest hL.qi (by omega)
  refine y_l1 hX hL hd2 (fun nb => c_Quay_digest hkq hd1) kX11_digest mL_273 rfl rfl rfl hl.1 (Nat.le_of_ble_eq_true rfl) ⟨by omega, by omega⟩ ⟨by omega, by omega⟩ dL_law_781 fun H1 locs1 hL => ?_
  refine lv_lstore (lv' := [(21, .long rd.1), (20, .ref (Γ.2.1 + (n + 1))), (19, .ref (Γ.2.1 + n)), (11, .int x9), (10, .int (nI t9)), (9, .ref (Γ.2.1 + kw)), (8, .int A9), (7, .int (nI O)), (6, .int (nI G)), (5, .int (nI L)), (4, .int (nI M)), (3, .ref (b2 + 0)), (2, .ref (Γ.2.1 + ks)), (1, .ref (Γ.2.1 + kb)), (0, .ref b0)]) hx hb dL_law_784 hl (by decide) rfl fun ls hl => ?_
  refine lv_bipush (v := 7) hx hb dL_law_786 rfl ?_
  refine y_new (x := nI 7) (N := 7) hX hL (nI_pos (by omega)) (nI_clamp (by omega)) (by omega) (by omega) (by omega) dL_law_788 fun H1 hL => ?_
  refine lv_astore (lv' := [(23, .ref (Γ.2.1 + (n + 1 + 1))), (21, .long rd.1), (20, .ref (Γ.2.1 + (n + 1))), (19, .ref (Γ.2.1 + n)), (11, .int x9), (10, .int (nI t9)), (9, .ref (Γ.2.1 + kw)), (8, .int A9), (7, .int (nI O)), (6, .int (nI G)), (5, .int (nI L)), (4, .int (nI M)), (3, .ref (b2 + 0)), (2, .ref (Γ.2.1 + ks)), (1, .ref (Γ.2.1 + kb)), (0, .ref b0)]) hx hb dL_law_790 hl (by decide) rfl fun ls hl => ?_
  refine lv_iconst (v := 0) hx hb dL_law_792 rfl ?_
  refine lv_istore (lv' := [(24, .int 0), (23, .ref (Γ.2.1 + (n + 1 + 1))), (21, .long rd.1), (20, .ref (Γ.2.1 + (n + 1))), (19, .ref (Γ.2.1 + n)), (11, .int x9), (10, .int (nI t9)), (9, .ref (Γ.2.1 + kw)), (8, .int A9), (7, .int (nI O)), (6, .int (nI G)), (5, .int (nI L)), (4, .int (nI M)), (3, .ref (b2 + 0)), (2, .ref (Γ.2.1 + ks)), (1, .ref (Γ.2.1 + kb)), (0, .ref b0)]) hx hb dL_law_793 hl (by decide) rfl fun ls hl => ?_
  refine W.widen (k := c0 + 60 + 1 * 0) (n := s0 + 330 + 6 * 0) (by omega) (by omega) ?_
  refine lw_then (kt := n + 1 + 1) hX hFR hday ⟨by omega, by omega⟩ (fun v vb H1 locs1 ls gt hl hL hgt => ?_) 7 0 (by omega) _ _ _ _ ls (fun _ => 0) (lv_sub hl [0, 1, 2, 3, 4, 5, 6, 7, 8, 9, 10, 11, 12, 13, 14, 15, 16] rfl) hL (fun k hk => absurd hk (Nat.not_lt_zero _))
  refine lv_iload hx hb dL_law_832 (lv_at hl 4 rfl) ?_
  refine lv_iconst (v := 4) hx hb dL_law_834 rfl ?_
  refine lv_ishr hx hb dL_law_835 ?_
  refine lv_iload hx hb dL_law_836 (lv_at hl 11 rfl) ?_
  refine y_t0 hX hL (c_L_below (x := (x9 >>> ((4 : Int32) &&& 31))) (b := M) (by omega) (by omega)) kL_below mL_123 rfl rfl hl.1 (Nat.le_of_ble_eq_true rfl) ⟨by omega, by omega⟩ ⟨by omega, by omega⟩ dL_law_838 fun H1 locs1 hL => ?_
  have hk7 : bel (x9 >>> ((4 : Int32) &&& 31)) M < M := bel_lt (by omega)
  generalize bel (x9 >>> ((4 : Int32) &&& 31)) M = k7 at hk7 ⊢
  refine lv_istore (lv' := [(24, .int (nI k7)), (23, .ref (Γ.2.1 + (n + 1 + 1))), (21, .long rd.1), (20, .ref (Γ.2.1 + (n + 1))), (19, .ref (Γ.2.1 + n)), (11, .int x9), (10, .int (nI t9)), (9, .ref (Γ.2.1 + kw)), (8, .int A9), (7, .int (nI O)), (6, .int (nI G)), (5, .int (nI L)), (4, .int (nI M)), (3, .ref (b2 + 0)), (2, .ref (Γ.2.1 + ks)), (1, .ref (Γ.2.1 + kb)), (0, .ref b0)]) hx hb dL_law_841 hl (by decide) rfl fun ls hl => ?_
  refine lv_aload_n hx hb dL_law_843 rfl (lv_at hl 13 rfl) ?_
  refine lv_iload hx hb dL_law_844 (lv_at hl 0 rfl) ?_
  obtain ⟨r9, v3, eu1, eu2, eu3⟩ := q_until hL.qi (by omega) hk7
  refine y_c1 hX hL eu3 (fun nb => c_Quay_until hkq hEX hlt eu1) kX11_until xlL_280 rfl rfl rfl hl.1 (Nat.le_of_ble_eq_true rfl) ⟨by omega, by omega⟩ ⟨by omega, by omega⟩ dL_law_846 fun H1 locs1 hL => ?_
  refine lv_istore (lv' := [(25, .int r9), (24, .int (nI k7)), (23, .ref (Γ.2.1 + (n + 1 + 1))), (21, .long rd.1), (20, .ref (Γ.2.1 + (n + 1))), (19, .ref (Γ.2.1 + n)), (11, .int x9), (10, .int (nI t9)), (9, .ref (Γ.2.1 + kw)), (8, .int A9), (7, .int (nI O)), (6, .int (nI G)), (5, .int (nI L)), (4, .int (nI M)), (3, .ref (b2 + 0)), (2, .ref (Γ.2.1 + ks)), (1, .ref (Γ.2.1 + kb)), (0, .ref b0)]) hx hb dL_law_849 hl (by decide) rfl fun ls hl => ?_
  refine lv_aload_n hx hb dL_law_851 rfl (lv_at hl 14 rfl) ?_
  refine lv_iconst (v := 1) hx hb dL_law_852 rfl ?_
  refine lv_iload hx hb dL_law_853 (lv_at hl 6 rfl) ?_
  refine lv_bipush (v := 6) hx hb dL_law_855 rfl ?_
  refine lv_ishr hx hb dL_law_857 ?_
  refine lv_bipush (v := 20) hx hb dL_law_858 rfl ?_
  refine y_t0 hX hL (c_L_below (x := (x9 >>> ((6 : Int32) &&& 31))) (b := 20) (by omega) (by omega)) kL_below mL_123 rfl rfl hl.1 (Nat.le_of_ble_eq_true rfl) ⟨by omega, by omega⟩ ⟨by omega, by omega⟩ dL_law_860 fun H1 locs1 hL => ?_
  have hd7 : bel (x9 >>> ((6 : Int32) &&& 31)) 20 < 20 := bel_lt (by omega)
  generalize bel (x9 >>> ((6 : Int32) &&& 31)) 20 = d7 at hd7 ⊢
  refine lv_iadd hx hb dL_law_863 ?_
  rw [one_ni]
  obtain ⟨rr, v4, er1, er2, er3⟩ := q_rich hL.qi (by omega) hM1 (d := d7 + 1) (by omega) (by omega)
  refine y_c1 hX hL er3 (fun nb => c_Quay_richest hkq hEX hlt er2) kX11_richest xlL_283 rfl rfl rfl hl.1 (Nat.le_of_ble_eq_true rfl) ⟨by omega, by omega⟩ ⟨by omega, by omega⟩ dL_law_864 fun H1 locs1 hL => ?_
  refine lv_istore (lv' := [(26, .int (nI rr)), (25, .int r9), (24, .int (nI k7)), (23, .ref (Γ.2.1 + (n + 1 + 1))), (21, .long rd.1), (20, .ref (Γ.2.1 + (n + 1))), (19, .ref (Γ.2.1 + n)), (11, .int x9), (10, .int (nI t9)), (9, .ref (Γ.2.1 + kw)), (8, .int A9), (7, .int (nI O)), (6, .int (nI G)), (5, .int (nI L)), (4, .int (nI M)), (3, .ref (b2 + 0)), (2, .ref (Γ.2.1 + ks)), (1, .ref (Γ.2.1 + kb)), (0, .ref b0)]) hx hb dL_law_867 hl (by decide) rfl fun ls hl => ?_
  refine lv_iload hx hb dL_law_869 (lv_at hl 0 rfl) ?_
  refine lv_if_lt (tgt := 935) hx hb dL_law_871 rfl (fun q => absurd q (ni_0 (by omega))) (fun _ => ?_)
  refine lv_iload hx hb dL_law_874 (lv_at hl 0 rfl) ?_
  refine lv_iload hx hb dL_law_876 (lv_at hl 14 rfl) ?_
  refine lv_icmp_ge (tgt := 935) hx hb dL_law_878 rfl (fun q => absurd q (by rw [le_n (by omega) (by omega)]; omega)) (fun _ => ?_)
  refine lv_aload_n hx hb dL_law_881 rfl (lv_at hl 15 rfl) ?_
  refine lv_iconst (v := 5) hx hb dL_law_882 rfl ?_
  refine lv_iconst (v := 0) hx hb dL_law_883 rfl ?_
  obtain ⟨v5, ec1, ec2⟩ := q_costs hL.qi (by omega)
  refine y_c1 hX hL ec2 (fun nb => c_Quay_costs hkq hEX hlt ec1) kX11_costs xlL_286 rfl rfl rfl hl.1 (Nat.le_of_ble_eq_true rfl) ⟨by omega, by omega⟩ ⟨by omega, by omega⟩ dL_law_884 fun H1 locs1 hL => ?_
  refine lv_if_ne (tgt := 935) hx hb dL_law_887 rfl (fun q => absurd rfl q) (fun _ => ?_)
  refine lv_iload hx hb dL_law_890 (lv_at hl 1 rfl) ?_
  have hov := eu2.zero
  by_cases hz9 : r9 = 0
  · refine lv_if_ne (tgt := 899) hx hb dL_law_892 rfl (fun q => absurd hz9 q) (fun _ => ?_)
    refine lv_iconst (v := 1) hx hb dL_law_895 rfl ?_
    refine lv_goto (tgt := 900) hx hb dL_law_896 rfl ?_
    refine lv_aload_n hx hb dL_law_900 rfl (lv_at hl 15 rfl) ?_
    refine lv_iload hx hb dL_law_901 (lv_at hl 2 rfl) ?_
    refine lv_iconst (v := 2) hx hb dL_law_903 rfl ?_
    refine y_c0 hX hL (fun nb => c_Quay_merchant hkq hEX hlt (q_mer hL.qi (by omega) hk7 (w := 2) (by omega))) kX11_merchant xlL_267 rfl rfl rfl hl.1 (Nat.le_of_ble_eq_true rfl) ⟨by omega, by omega⟩ ⟨by omega, by omega⟩ dL_law_904 fun H1 locs1 hL => ?_
    refine lv_aload_n hx hb dL_law_907 rfl (lv_at hl 15 rfl) ?_
    refine lv_iload hx hb dL_law_908 (lv_at hl 2 rfl) ?_
    refine lv_iconst (v := 1) hx hb dL_law_910 rfl ?_
    refine y_c0 hX hL (fun nb => c_Quay_merchant hkq hEX hlt (q_mer hL.qi (by omega) hk7 (w := 1) (by omega))) kX11_merchant xlL_267 rfl rfl rfl hl.1 (Nat.le_of_ble_eq_true rfl) ⟨by omega, by omega⟩ ⟨by omega, by omega⟩ dL_law_911 fun H1 locs1 hL => ?_
    refine lv_icmp_le (tgt := 921) hx hb dL_law_914 rfl (fun q => absurd q (show ¬ row_t (fun b => u 180 (6 * k7 + b)) 6 ≤ u 163 k7 from hov.mp hz9)) (fun _ => ?_)
    refine lv_iconst (v := 1) hx hb dL_law_917 rfl ?_
    refine lv_goto (tgt := 922) hx hb dL_law_918 rfl ?_
    refine lv_icmp_ne (tgt := 935) hx hb dL_law_922 rfl (fun q => absurd rfl q) (fun _ => ?_)
    refine lv_aload_n hx hb dL_law_925 rfl (lv_at hl 15 rfl) ?_
    obtain ⟨re, v6, hf0, hf1, hf2, -⟩ := q_digest hL.qi (by omega)
    rw [hd0] at hf0
    cases hf0
    refine y_l1 hX hL hf2 (fun nb => c_Quay_digest hkq hf1) kX11_digest mL_273 rfl rfl rfl hl.1 (Nat.le_of_ble_eq_true rfl) ⟨by omega, by omega⟩ ⟨by omega, by omega⟩ dL_law_926 fun H1 locs1 hL => ?_
    refine lv_lload hx hb dL_law_929 (lv_at hl 4 rfl) ?_
    refine W.lcmp hx hb dL_law_931 ?_
    rw [lcm_self]
    refine lv_if_eq (tgt := 937) hx hb dL_law_932 rfl (fun _ => ?_) (fun q => absurd rfl q)
    refine W.widen (k := c0 + 100) (n := s0 + 500) (by omega) (by omega) ?_
    refine kk _ _ _ _ _ _ _ ls n (n + 1) (n + 1 + 1) k7 r9 go gh gt (lv_sub hl [1, 2, 3, 5, 6, 7, 8, 9, 10, 11, 12, 13, 14, 15, 16, 17, 18] rfl) hL (fun q hq => ?_) ?_ hgo ?_ hgh (up_eq _ _ _) hgt hk7 eu2
    · have hqn : q < n := Nat.lt_of_not_le fun h => hq (hPn q h)
      rw [up_ne (by omega), up_ne (by omega), up_ne (by omega)]
    · rw [up_ne (by omega), up_ne (by omega), up_eq]
    · rw [up_ne (by omega), up_eq]
  · refine lv_if_ne (tgt := 899) hx hb dL_law_892 rfl (fun _ => ?_) (fun q => absurd q hz9)
    refine lv_iconst (v := 0) hx hb dL_law_899 rfl ?_
    refine lv_aload_n hx hb dL_law_900 rfl (lv_at hl 15 rfl) ?_
    refine lv_iload hx hb dL_law_901 (lv_at hl 2 rfl) ?_
    refine lv_iconst (v := 2) hx hb dL_law_903 rfl ?_
    refine y_c0 hX hL (fun nb => c_Quay_merchant hkq hEX hlt (q_mer hL.qi (by omega) hk7 (w := 2) (by omega))) kX11_merchant xlL_267 rfl rfl rfl hl.1 (Nat.le_of_ble_eq_true rfl) ⟨by omega, by omega⟩ ⟨by omega, by omega⟩ dL_law_904 fun H1 locs1 hL => ?_
    refine lv_aload_n hx hb dL_law_907 rfl (lv_at hl 15 rfl) ?_
    refine lv_iload hx hb dL_law_908 (lv_at hl 2 rfl) ?_
    refine lv_iconst (v := 1) hx hb dL_law_910 rfl ?_
    refine y_c0 hX hL (fun nb => c_Quay_merchant hkq hEX hlt (q_mer hL.qi (by omega) hk7 (w := 1) (by omega))) kX11_merchant xlL_267 rfl rfl rfl hl.1 (Nat.le_of_ble_eq_true rfl) ⟨by omega, by omega⟩ ⟨by omega, by omega⟩ dL_law_911 fun H1 locs1 hL => ?_
    refine lv_icmp_le (tgt := 921) hx hb dL_law_914 rfl (fun _ => ?_) (fun q => absurd (show row_t (fun b => u 180 (6 * k7 + b)) 6 ≤ u 163 k7 from Decidable.byContradiction fun h => hz9 (hov.mpr h)) q)
    refine lv_iconst (v := 0) hx hb dL_law_921 rfl ?_
    refine lv_icmp_ne (tgt := 935) hx hb dL_law_922 rfl (fun q => absurd rfl q) (fun _ => ?_)
    refine lv_aload_n hx hb dL_law_925 rfl (lv_at hl 15 rfl) ?_
    obtain ⟨re, v6, hf0, hf1, hf2, -⟩ := q_digest hL.qi (by omega)
    rw [hd0] at hf0
    cases hf0
    refine y_l1 hX hL hf2 (fun nb => c_Quay_digest hkq hf1) kX11_digest mL_273 rfl rfl rfl hl.1 (Nat.le_of_ble_eq_true rfl) ⟨by omega, by omega⟩ ⟨by omega, by omega⟩ dL_law_926 fun H1 locs1 hL => ?_
    refine lv_lload hx hb dL_law_929 (lv_at hl 4 rfl) ?_
    refine W.lcmp hx hb dL_law_931 ?_
    rw [lcm_self]
    refine lv_if_eq (tgt := 937) hx hb dL_law_932 rfl (fun _ => ?_) (fun q => absurd rfl q)
    refine W.widen (k := c0 + 100) (n := s0 + 500) (by omega) (by omega) ?_
    refine kk _ _ _ _ _ _ _ ls n (n + 1) (n + 1 + 1) k7 r9 go gh gt (lv_sub hl [1, 2, 3, 5, 6, 7, 8, 9, 10, 11, 12, 13, 14, 15, 16, 17, 18] rfl) hL (fun q hq => ?_) ?_ hgo ?_ hgh (up_eq _ _ _) hgt hk7 eu2
    · have hqn : q < n := Nat.lt_of_not_le fun h => hq (hPn q h)
      rw [up_ne (by omega), up_ne (by omega), up_ne (by omega)]
    · rw [up_ne (by omega), up_ne (by omega), up_eq]
    · rw [up_ne (by omega), up_eq]
end LC9
