/-! THE LAW: a day, and what came -/
theorem six_cnt {a b c a' b' c' n : Int32} (h : a' + b' + c' = a + b + c + n) : a' - a + b' - b + c' - c = n := by grind
theorem add_sub9 {a b : Int32} : a + b - a = b := by grind
theorem day_1 {u u2 : Va} {q : Int32} (h : f_Model_dayOn 4001 u 151 173 = some (q, u2)) : f_Model_daysOn 4001 u 151 173 (nI 1) = some (q, u2) ∧ trj 4001 u 1 = u2 := by
  have e1 : trj 4001 u 1 = u2 := by
    show ((f_Model_dayOn 4001 u 151 173).getD (0, u)).2 = u2
    rw [h]; rfl
  have e2 : dct 4001 u 1 = q := by
    show 0 + ((f_Model_dayOn 4001 u 151 173).getD (0, u)).1 = q
    rw [h]; exact Int32.zero_add _
  have := days_m (z := 4001) (u := u) (d := 1) (by omega) (by omega) (fun i hi => ⟨(q, u2), by rw [show i = 0 by omega]; exact h⟩)
  rw [e1, e2] at this
  exact ⟨this, e1⟩
section LD9
variable {p : Program} {l : Launch} {e : Env} {R : Room} {s : State} {m : MethodId} {args : Array Value} {below : List Frame} {meth : Method} {c : Code} {H H0 : Heap} {locs : List Loc} {cells slots : Nat} {Q : State → Prop}
variable {cc : ByteArray} {pc nL : Nat} {ls : Array Slot} {st0 rest As Bs : List Value} {Γ : Cx} {sh sh0 shb : Sh} {v v0 v1 vb vb1 : Va} {w wb : Vl} {own : String} {idx ci j k n n0 nb nn hh mL mc ms a b2 ks S G M L O d1 d2 c0 s0 : Nat} {cs : List Nat} {y : MethodName} {b : ByteArray} {ret : Option FieldType} {pA : Nat → Nat} {pB : Nat → Nat → Nat} {u ua ub ua1 ub1 : Va} {P : Pfn}
variable {x9 A9 : Int32} {t9 kw kb b0 : Nat} {T : Int} {B : Nat}
variable {ko kh kt k7 : Nat} {u2 : Va} {n2 : Nat} {r9 : Int32} {go gh gt : Nat → Int32}
theorem lw_chk (hX : XM Γ b2 p l s m args c cL_law 31 RL shb) (hFR : 14 ≤ R.frames ∧ 560 ≤ R.locals) (hPt : P kt = some (sA 7, gt)) (hgt : ∀ k, k < 7 → gt k = if k = 0 then nI n2 else cU u2 (6 + k)) (hroom : c0 + 7 ≤ R.cells ∧ s0 + 42 ≤ R.slots)
    (kk : ∀ (vb : Va) (H1 : Heap) (locs1 : List Loc) (ls : Array Slot), lv_has ls 31 [(27, .int (nI n2)), (25, .int r9), (24, .int (nI k7)), (23, .ref (Γ.2.1 + kt)), (20, .ref (Γ.2.1 + kh)), (19, .ref (Γ.2.1 + ko)), (11, .int x9), (10, .int (nI t9)), (9, .ref (Γ.2.1 + kw)), (8, .int A9), (7, .int (nI O)), (6, .int (nI G)), (5, .int (nI L)), (4, .int (nI M)), (3, .ref (b2 + 0)), (2, .ref (Γ.2.1 + ks)), (1, .ref (Γ.2.1 + kb)), (0, .ref b0)] → DL Γ b2 s w wb shb sh0 n0 ks pA pB S G M L O u2 u2 P sh v n vb H1 locs1 → W p l e R s m args below meth c H1 locs1 (c0 + 7) (s0 + 42) Q (F0 m 1013 ls [])) :
    ∀ (j i : Nat), i + j = 7 → 1 ≤ i → ∀ (vb : Va) (H1 : Heap) (locs1 : List Loc) (ls : Array Slot), lv_has ls 31 [(28, .int (nI i)), (27, .int (nI n2)), (25, .int r9), (24, .int (nI k7)), (23, .ref (Γ.2.1 + kt)), (20, .ref (Γ.2.1 + kh)), (19, .ref (Γ.2.1 + ko)), (11, .int x9), (10, .int (nI t9)), (9, .ref (Γ.2.1 + kw)), (8, .int A9), (7, .int (nI O)), (6, .int (nI G)), (5, .int (nI L)), (4, .int (nI M)), (3, .ref (b2 + 0)), (2, .ref (Γ.2.1 + ks)), (1, .ref (Γ.2.1 + kb)), (0, .ref b0)] → DL Γ b2 s w wb shb sh0 n0 ks pA pB S G M L O u2 u2 P sh v n vb H1 locs1 → W p l e R s m args below meth c H1 locs1 (c0 + 1 * i) (s0 + 6 * i) Q (F0 m 981 ls []) := by
  obtain ⟨hx, hb, hml, hts, hown, hK, hE, hb2, hkq, hEX, hlt, -⟩ := (⟨hX.1, hX.2.1, hX.2.2.1, hX.2.2.2.1, hX.2.2.2.2.1, hX.2.2.2.2.2.1, hX.2.2.2.2.2.2.1, hX.2.2.2.2.2.2.2.1, hX.2.2.2.2.2.2.2.2.1, hX.2.2.2.2.2.2.2.2.2.1, hX.2.2.2.2.2.2.2.2.2.2, trivial⟩ : _ ∧ _ ∧ _ ∧ _ ∧ _ ∧ _ ∧ _ ∧ _ ∧ _ ∧ _ ∧ _ ∧ True)
  intro j
  induction j with
  | zero =>
    intro i hij hi1 vb H1 locs1 ls hl hL
    have hi : i = 7 := by omega
    rw [hi] at hl ⊢
    refine lv_iload hx hb dL_law_981 (lv_at hl 0 rfl) ?_
    refine lv_bipush (v := 7) hx hb dL_law_983 rfl ?_
    refine lv_icmp_ge (tgt := 1013) hx hb dL_law_985 rfl (fun _ => ?_) (fun q => absurd (Int32.le_refl _) q)
    exact kk vb H1 locs1 ls (lv_sub hl [1, 2, 3, 4, 5, 6, 7, 8, 9, 10, 11, 12, 13, 14, 15, 16, 17, 18] rfl) hL
  | succ j ih =>
    intro i hij hi1 vb H1 locs1 ls hl hL
    have hi : i < 7 := by omega
    refine lv_iload hx hb dL_law_981 (lv_at hl 0 rfl) ?_
    refine lv_bipush (v := 7) hx hb dL_law_983 rfl ?_
    refine lv_icmp_ge (tgt := 1013) hx hb dL_law_985 rfl (fun q => absurd ((le_n (i := 7) (j := i) (by omega) (by omega)).mp q) (by omega)) (fun _ => ?_)
    refine lv_aload_n hx hb dL_law_988 rfl (lv_at hl 15 rfl) ?_
    refine lv_bipush (v := 6) hx hb dL_law_989 rfl ?_
    refine lv_iload hx hb dL_law_991 (lv_at hl 0 rfl) ?_
    refine lv_iadd hx hb dL_law_993 ?_
    rw [show (6 : Int32) + nI i = nI (6 + i) from ni_add 6 i]
    refine y_c0 hX hL (fun nb => c_Quay_count hkq hEX hlt (q_count hL.qi (by omega) (w := 6 + i) (by omega))) kX11_count xlL_246 rfl rfl rfl hl.1 (Nat.le_of_ble_eq_true rfl) ⟨by omega, by omega⟩ ⟨by omega, by omega⟩ dL_law_994 fun H1 locs1 hL => ?_
    refine lv_aload hx hb dL_law_997 (lv_at hl 4 rfl) ?_
    refine lv_iload hx hb dL_law_999 (lv_at hl 0 rfl) ?_
    refine y_el (k := kt) hX hL hPt (j := i) (nI_clamp (by omega)) (vin hi (by omega)) rfl dL_law_1001 ?_
    refine lv_icmp_eq (tgt := 1007) hx hb dL_law_1002 rfl (fun _ => ?_) (fun q => absurd ((hgt i hi).trans (if_neg (by omega))).symm q)
    refine lv_iinc (k := 0) (v := ((nI i) + 1)) (lv' := [(28, .int ((nI i) + 1)), (27, .int (nI n2)), (25, .int r9), (24, .int (nI k7)), (23, .ref (Γ.2.1 + kt)), (20, .ref (Γ.2.1 + kh)), (19, .ref (Γ.2.1 + ko)), (11, .int x9), (10, .int (nI t9)), (9, .ref (Γ.2.1 + kw)), (8, .int A9), (7, .int (nI O)), (6, .int (nI G)), (5, .int (nI L)), (4, .int (nI M)), (3, .ref (b2 + 0)), (2, .ref (Γ.2.1 + ks)), (1, .ref (Γ.2.1 + kb)), (0, .ref b0)]) hx hb dL_law_1007 hl rfl rfl (by decide) rfl fun ls hl => ?_
    refine lv_goto (tgt := 981) hx hb dL_law_1010 rfl ?_
    rw [ni_s] at hl
    refine W.widen (k := c0 + 1 * (i + 1)) (n := s0 + 6 * (i + 1)) (by omega) (by omega) ?_
    exact ih (i + 1) (by omega) (by omega) _ _ _ ls (lv_sub hl [0, 1, 2, 3, 4, 5, 6, 7, 8, 9, 10, 11, 12, 13, 14, 15, 16, 17, 18] rfl) hL
theorem lw_more (hX : XM Γ b2 p l s m args c cL_law 31 RL shb) (hFR : 14 ≤ R.frames ∧ 560 ≤ R.locals) {inc : Nat → Nat} (hinc : ∀ o, o < O → inc o ≤ 1 ∧ u2 182 o = u 182 o + nI (inc o)) (hPo : P ko = some (sA O, go)) (hgo : ∀ k, k < O → go k = u 182 k) (hroom : c0 + 1 * O ≤ R.cells ∧ s0 + 6 * O ≤ R.slots)
    (kk : ∀ (vb : Va) (H1 : Heap) (locs1 : List Loc) (ls : Array Slot), lv_has ls 31 [(28, .int (nI (nsm inc O))), (27, .int (nI n2)), (25, .int r9), (24, .int (nI k7)), (23, .ref (Γ.2.1 + kt)), (20, .ref (Γ.2.1 + kh)), (19, .ref (Γ.2.1 + ko)), (11, .int x9), (10, .int (nI t9)), (9, .ref (Γ.2.1 + kw)), (8, .int A9), (7, .int (nI O)), (6, .int (nI G)), (5, .int (nI L)), (4, .int (nI M)), (3, .ref (b2 + 0)), (2, .ref (Γ.2.1 + ks)), (1, .ref (Γ.2.1 + kb)), (0, .ref b0)] → DL Γ b2 s w wb shb sh0 n0 ks pA pB S G M L O u2 u2 P sh v n vb H1 locs1 → W p l e R s m args below meth c H1 locs1 (c0 + 1 * O) (s0 + 6 * O) Q (F0 m 1067 ls [])) :
    ∀ (j i : Nat), i + j = O → ∀ (vb : Va) (H1 : Heap) (locs1 : List Loc) (ls : Array Slot), lv_has ls 31 [(29, .int (nI i)), (28, .int (nI (nsm inc i))), (27, .int (nI n2)), (25, .int r9), (24, .int (nI k7)), (23, .ref (Γ.2.1 + kt)), (20, .ref (Γ.2.1 + kh)), (19, .ref (Γ.2.1 + ko)), (11, .int x9), (10, .int (nI t9)), (9, .ref (Γ.2.1 + kw)), (8, .int A9), (7, .int (nI O)), (6, .int (nI G)), (5, .int (nI L)), (4, .int (nI M)), (3, .ref (b2 + 0)), (2, .ref (Γ.2.1 + ks)), (1, .ref (Γ.2.1 + kb)), (0, .ref b0)] → DL Γ b2 s w wb shb sh0 n0 ks pA pB S G M L O u2 u2 P sh v n vb H1 locs1 → W p l e R s m args below meth c H1 locs1 (c0 + 1 * i) (s0 + 6 * i) Q (F0 m 1019 ls []) := by
  obtain ⟨hx, hb, hml, hts, hown, hK, hE, hb2, hkq, hEX, hlt, -⟩ := (⟨hX.1, hX.2.1, hX.2.2.1, hX.2.2.2.1, hX.2.2.2.2.1, hX.2.2.2.2.2.1, hX.2.2.2.2.2.2.1, hX.2.2.2.2.2.2.2.1, hX.2.2.2.2.2.2.2.2.1, hX.2.2.2.2.2.2.2.2.2.1, hX.2.2.2.2.2.2.2.2.2.2, trivial⟩ : _ ∧ _ ∧ _ ∧ _ ∧ _ ∧ _ ∧ _ ∧ _ ∧ _ ∧ _ ∧ _ ∧ True)
  intro j
  induction j with
  | zero =>
    intro i hij vb H1 locs1 ls hl hL
    have hi : i = O := by omega
    rw [hi] at hl ⊢
    refine lv_iload hx hb dL_law_1019 (lv_at hl 0 rfl) ?_
    refine lv_iload hx hb dL_law_1021 (lv_at hl 12 rfl) ?_
    refine lv_icmp_ge (tgt := 1067) hx hb dL_law_1023 rfl (fun _ => ?_) (fun q => absurd (Int32.le_refl _) q)
    exact kk vb H1 locs1 ls (lv_sub hl [1, 2, 3, 4, 5, 6, 7, 8, 9, 10, 11, 12, 13, 14, 15, 16, 17, 18, 19] rfl) hL
  | succ j ih =>
    intro i hij vb H1 locs1 ls hl hL
    have hi : i < O := by omega
    have hB := hL.qi.2.2.2.2.2.1
    obtain ⟨hi1, hi2⟩ := hinc i hi
    refine lv_iload hx hb dL_law_1019 (lv_at hl 0 rfl) ?_
    refine lv_iload hx hb dL_law_1021 (lv_at hl 12 rfl) ?_
    refine lv_icmp_ge (tgt := 1067) hx hb dL_law_1023 rfl (fun q => absurd ((le_n (i := O) (j := i) (by omega) (by omega)).mp q) (by omega)) (fun _ => ?_)
    refine lv_aload_n hx hb dL_law_1026 rfl (lv_at hl 16 rfl) ?_
    refine lv_iload hx hb dL_law_1027 (lv_at hl 0 rfl) ?_
    refine lv_iconst (v := 4) hx hb dL_law_1029 rfl ?_
    obtain ⟨v2, e1, e2, -⟩ := q_ord hL.qi (by omega) hi (w := 4) (by omega) (by omega)
    refine y_c1 hX hL e2 (fun nb => c_Quay_order hkq hEX hlt e1) kX11_order xlL_270 rfl rfl rfl hl.1 (Nat.le_of_ble_eq_true rfl) ⟨by omega, by omega⟩ ⟨by omega, by omega⟩ dL_law_1030 fun H1 locs1 hL => ?_
    refine lv_aload hx hb dL_law_1033 (lv_at hl 7 rfl) ?_
    refine lv_iload hx hb dL_law_1035 (lv_at hl 0 rfl) ?_
    refine y_el (k := ko) hX hL hPo (j := i) (nI_clamp (by omega)) (vin hi (by omega)) rfl dL_law_1037 ?_
    refine lv_isub hx hb dL_law_1038 ?_
    rw [show oU u2 i 4 - go i = nI (inc i) from by rw [hgo i hi, show oU u2 i 4 = u2 182 i from rfl, hi2]; exact add_sub9]
    refine lv_istore (lv' := [(30, .int (nI (inc i))), (29, .int (nI i)), (28, .int (nI (nsm inc i))), (27, .int (nI n2)), (25, .int r9), (24, .int (nI k7)), (23, .ref (Γ.2.1 + kt)), (20, .ref (Γ.2.1 + kh)), (19, .ref (Γ.2.1 + ko)), (11, .int x9), (10, .int (nI t9)), (9, .ref (Γ.2.1 + kw)), (8, .int A9), (7, .int (nI O)), (6, .int (nI G)), (5, .int (nI L)), (4, .int (nI M)), (3, .ref (b2 + 0)), (2, .ref (Γ.2.1 + ks)), (1, .ref (Γ.2.1 + kb)), (0, .ref b0)]) hx hb dL_law_1039 hl (by decide) rfl fun ls hl => ?_
    refine lv_iload hx hb dL_law_1041 (lv_at hl 0 rfl) ?_
    refine lv_if_lt (tgt := 1052) hx hb dL_law_1043 rfl (fun q => absurd q (ni_0 (by omega))) (fun _ => ?_)
    refine lv_iload hx hb dL_law_1046 (lv_at hl 0 rfl) ?_
    refine lv_iconst (v := 1) hx hb dL_law_1048 rfl ?_
    refine lv_icmp_le (tgt := 1054) hx hb dL_law_1049 rfl (fun _ => ?_) (fun q => absurd (show nI (inc i) ≤ (1 : Int32) by rw [show (1 : Int32) = nI 1 from rfl, le_n (by omega) (by omega)]; exact hi1) q)
    refine lv_iload hx hb dL_law_1054 (lv_at hl 2 rfl) ?_
    refine lv_iload hx hb dL_law_1056 (lv_at hl 0 rfl) ?_
    refine lv_iadd hx hb dL_law_1058 ?_
    refine lv_istore (lv' := [(28, .int ((nI (nsm inc i)) + (nI (inc i)))), (30, .int (nI (inc i))), (29, .int (nI i)), (27, .int (nI n2)), (25, .int r9), (24, .int (nI k7)), (23, .ref (Γ.2.1 + kt)), (20, .ref (Γ.2.1 + kh)), (19, .ref (Γ.2.1 + ko)), (11, .int x9), (10, .int (nI t9)), (9, .ref (Γ.2.1 + kw)), (8, .int A9), (7, .int (nI O)), (6, .int (nI G)), (5, .int (nI L)), (4, .int (nI M)), (3, .ref (b2 + 0)), (2, .ref (Γ.2.1 + ks)), (1, .ref (Γ.2.1 + kb)), (0, .ref b0)]) hx hb dL_law_1059 hl (by decide) rfl fun ls hl => ?_
    refine lv_iinc (k := 2) (v := ((nI i) + 1)) (lv' := [(29, .int ((nI i) + 1)), (28, .int ((nI (nsm inc i)) + (nI (inc i)))), (30, .int (nI (inc i))), (27, .int (nI n2)), (25, .int r9), (24, .int (nI k7)), (23, .ref (Γ.2.1 + kt)), (20, .ref (Γ.2.1 + kh)), (19, .ref (Γ.2.1 + ko)), (11, .int x9), (10, .int (nI t9)), (9, .ref (Γ.2.1 + kw)), (8, .int A9), (7, .int (nI O)), (6, .int (nI G)), (5, .int (nI L)), (4, .int (nI M)), (3, .ref (b2 + 0)), (2, .ref (Γ.2.1 + ks)), (1, .ref (Γ.2.1 + kb)), (0, .ref b0)]) hx hb dL_law_1061 hl rfl rfl (by decide) rfl fun ls hl => ?_
    refine lv_goto (tgt := 1019) hx hb dL_law_1064 rfl ?_
    rw [ni_s, ni_add] at hl
    refine W.widen (k := c0 + 1 * (i + 1)) (n := s0 + 6 * (i + 1)) (by omega) (by omega) ?_
    exact ih (i + 1) (by omega) _ _ _ ls (lv_sub hl [0, 1, 3, 4, 5, 6, 7, 8, 9, 10, 11, 12, 13, 14, 15, 16, 17, 18, 19, 20] rfl) hL
theorem lw_after (hX : XM Γ b2 p l s m args c cL_law 31 RL shb) (hFR : 14 ≤ R.frames ∧ 560 ≤ R.locals) (hA : APT pA pB (pn_ S G M L O) ks) (hLI : LI u S G M L O T B) (hT : T ≤ 59994) (hB4 : B ≤ 4000) (ht9 : t9 ≤ 40) (hday : f_Model_dayOn 4001 u 151 173 = some (nI n2, u2)) (hDA : DA u u2 S G M L O n2) (hPo : P ko = some (sA O, go)) (hgo : ∀ k, k < O → go k = u 182 k) (hPh : P kh = some (sA 13, gh)) (hgh : ∀ k, k < 13 → gh k = cU u k) (hPt : P kt = some (sA 7, gt)) (hgt : ∀ k, k < 7 → gt k = if k = 0 then nI n2 else cU u2 (6 + k)) (hk7 : k7 < M) (hU : UNT 4001 u k7 r9) (hroom : c0 + 100 ≤ R.cells ∧ s0 + 600 ≤ R.slots)
    (kk : ∀ (v : Va) (vb : Va) (H1 : Heap) (locs1 : List Loc) (ls : Array Slot), lv_has ls 31 [(10, .int (nI (t9 + 1))), (9, .ref (Γ.2.1 + kw)), (8, .int A9), (7, .int (nI O)), (6, .int (nI G)), (5, .int (nI L)), (4, .int (nI M)), (3, .ref (b2 + 0)), (2, .ref (Γ.2.1 + ks)), (1, .ref (Γ.2.1 + kb)), (0, .ref b0)] → DL Γ b2 s w wb shb sh0 n0 ks pA pB S G M L O u2 u2 P sh v n vb H1 locs1 → W p l e R s m args below meth c H1 locs1 (c0 + 100) (s0 + 600) Q (F0 m 109 ls []))
    (hl : lv_has ls 31 [(25, .int r9), (24, .int (nI k7)), (23, .ref (Γ.2.1 + kt)), (20, .ref (Γ.2.1 + kh)), (19, .ref (Γ.2.1 + ko)), (11, .int x9), (10, .int (nI t9)), (9, .ref (Γ.2.1 + kw)), (8, .int A9), (7, .int (nI O)), (6, .int (nI G)), (5, .int (nI L)), (4, .int (nI M)), (3, .ref (b2 + 0)), (2, .ref (Γ.2.1 + ks)), (1, .ref (Γ.2.1 + kb)), (0, .ref b0)]) (hL : DL Γ b2 s w wb shb sh0 n0 ks pA pB S G M L O u u P sh v n vb H locs) : W p l e R s m args below meth c H locs c0 s0 Q (F0 m 937 ls []) := by
  obtain ⟨hx, hb, hml, hts, hown, hK, hE, hb2, hkq, hEX, hlt, -⟩ := (⟨hX.1, hX.2.1, hX.2.2.1, hX.2.2.2.1, hX.2.2.2.2.1, hX.2.2.2.2.2.1, hX.2.2.2.2.2.2.1, hX.2.2.2.2.2.2.2.1, hX.2.2.2.2.2.2.2.2.1, hX.2.2.2.2.2.2.2.2.2.1, hX.2.2.2.2.2.2.2.2.2.2, trivial⟩ : _ ∧ _ ∧ _ ∧ _ ∧ _ ∧ _ ∧ _ ∧ _ ∧ _ ∧ _ ∧ _ ∧ True)
  have hB := hL.qi.2.2.2.2.2.1
  have hM6 : M ≤ 6 := hB.2.2.1
  obtain ⟨hday1, htr⟩ := day_1 hday
  obtain ⟨a1, a2, a3, a4, ⟨n9, a5, a6⟩, a7, a8⟩ := id hLI
  obtain ⟨b1, b2', b3, ⟨inc, b4, b5⟩, ⟨sn, c1, c2, c3, c4⟩, b6, b7, b8, b9, b10, b11⟩ := id hDA
  have hn2 : n2 ≤ 24 := by omega
  refine lv_aload_n hx hb dL_law_937 rfl (lv_at hl 13 rfl) ?_
  refine lv_iconst (v := 1) hx hb dL_law_938 rfl ?_
  obtain ⟨rq, v2, e1, e2, e3, -⟩ := q_pass hL.qi (by omega) (d := 1) (by omega) (by omega)
  rw [hday1] at e1
  cases e1
  refine y_c1 hX hL e3 (fun nb => c_Quay_pass hkq hEX hlt e2) kX11_pass xlL_235 rfl rfl rfl hl.1 (Nat.le_of_ble_eq_true rfl) ⟨by omega, by omega⟩ ⟨by omega, by omega⟩ dL_law_939 fun H1 locs1 hL => ?_
  refine lv_istore (lv' := [(27, .int (nI n2)), (25, .int r9), (24, .int (nI k7)), (23, .ref (Γ.2.1 + kt)), (20, .ref (Γ.2.1 + kh)), (19, .ref (Γ.2.1 + ko)), (11, .int x9), (10, .int (nI t9)), (9, .ref (Γ.2.1 + kw)), (8, .int A9), (7, .int (nI O)), (6, .int (nI G)), (5, .int (nI L)), (4, .int (nI M)), (3, .ref (b2 + 0)), (2, .ref (Γ.2.1 + ks)), (1, .ref (Γ.2.1 + kb)), (0, .ref b0)]) hx hb dL_law_942 hl (by decide) rfl fun ls hl => ?_
  refine lv_iload hx hb dL_law_944 (lv_at hl 0 rfl) ?_
  refine lv_aload_n hx hb dL_law_946 rfl (lv_at hl 15 rfl) ?_
  obtain ⟨n3, x3, u3, d1, d2, d3, -, d5⟩ := pass_sm (z := 4001) hL.sr hA a1 a2 a3 (by omega) (n0 := n9) (by omega) a6 (by omega)
  have heq := Option.some.inj (hday.symm.trans d2)
  rw [Prod.mk.injEq] at heq
  obtain ⟨heq1, heq2⟩ := heq
  subst heq2
  rw [← heq1] at d1
  refine y_s1 hX hL d3 (fun q hq => d5 q (hL.nsm hq)) (c_Sim_pass hL.ik d1) kX12_pass mL_232 rfl rfl rfl hl.1 (Nat.le_of_ble_eq_true rfl) ⟨by omega, by omega⟩ ⟨by omega, by omega⟩ dL_law_947 fun H1 locs1 hL => ?_
  refine lv_icmp_ne (tgt := 976) hx hb dL_law_950 rfl (fun q => absurd rfl q) (fun _ => ?_)
  refine lv_iload hx hb dL_law_953 (lv_at hl 0 rfl) ?_
  refine lv_aload hx hb dL_law_955 (lv_at hl 3 rfl) ?_
  refine lv_iconst (v := 0) hx hb dL_law_957 rfl ?_
  refine y_el (k := kt) hX hL hPt (j := 0) lc_0 (vin (i := 0) (by omega) (by omega)) rfl dL_law_958 ?_
  refine lv_icmp_ne (tgt := 976) hx hb dL_law_959 rfl (fun q => absurd ((hgt 0 (by omega)).trans (if_pos rfl)).symm q) (fun _ => ?_)
  refine lv_aload_n hx hb dL_law_962 rfl (lv_at hl 14 rfl) ?_
  refine lv_iconst (v := 0) hx hb dL_law_963 rfl ?_
  refine y_c0 hX hL (fun nb => c_Quay_count hkq hEX hlt (q_count hL.qi (by omega) (w := 0) (by omega))) kX11_count xlL_246 rfl rfl rfl hl.1 (Nat.le_of_ble_eq_true rfl) ⟨by omega, by omega⟩ ⟨by omega, by omega⟩ dL_law_964 fun H1 locs1 hL => ?_
  refine lv_aload hx hb dL_law_967 (lv_at hl 4 rfl) ?_
  refine lv_iconst (v := 0) hx hb dL_law_969 rfl ?_
  refine y_el (k := kh) hX hL hPh (j := 0) lc_0 (vin (i := 0) (by omega) (by omega)) rfl dL_law_970 ?_
  refine lv_iconst (v := 1) hx hb dL_law_971 rfl ?_
  refine lv_iadd hx hb dL_law_972 ?_
  refine lv_icmp_eq (tgt := 978) hx hb dL_law_973 rfl (fun _ => ?_) (fun q => absurd (show cU u2 0 = gh 0 + 1 from by rw [hgh 0 (by omega)]; exact b9) q)
  refine lv_iconst (v := 1) hx hb dL_law_978 rfl ?_
  refine lv_istore (lv' := [(28, .int 1), (27, .int (nI n2)), (25, .int r9), (24, .int (nI k7)), (23, .ref (Γ.2.1 + kt)), (20, .ref (Γ.2.1 + kh)), (19, .ref (Γ.2.1 + ko)), (11, .int x9), (10, .int (nI t9)), (9, .ref (Γ.2.1 + kw)), (8, .int A9), (7, .int (nI O)), (6, .int (nI G)), (5, .int (nI L)), (4, .int (nI M)), (3, .ref (b2 + 0)), (2, .ref (Γ.2.1 + ks)), (1, .ref (Γ.2.1 + kb)), (0, .ref b0)]) hx hb dL_law_979 hl (by decide) rfl fun ls hl => ?_
  refine W.widen (k := c0 + 3 + 1 * 1) (n := s0 + 18 + 6 * 1) (by omega) (by omega) ?_
  refine lw_chk (c0 := c0 + 3) (s0 := s0 + 18) hX hFR hPt hgt ⟨by omega, by omega⟩ (fun vb H1 locs1 ls hl hL => ?_) 6 1 (by omega) (by omega) _ _ _ ls (lv_sub hl [0, 1, 2, 3, 4, 5, 6, 7, 8, 9, 10, 11, 12, 13, 14, 15, 16, 17, 18] rfl) hL
  refine lv_iconst (v := 0) hx hb dL_law_1013 rfl ?_
  refine lv_istore (lv' := [(28, .int 0), (27, .int (nI n2)), (25, .int r9), (24, .int (nI k7)), (23, .ref (Γ.2.1 + kt)), (20, .ref (Γ.2.1 + kh)), (19, .ref (Γ.2.1 + ko)), (11, .int x9), (10, .int (nI t9)), (9, .ref (Γ.2.1 + kw)), (8, .int A9), (7, .int (nI O)), (6, .int (nI G)), (5, .int (nI L)), (4, .int (nI M)), (3, .ref (b2 + 0)), (2, .ref (Γ.2.1 + ks)), (1, .ref (Γ.2.1 + kb)), (0, .ref b0)]) hx hb dL_law_1014 hl (by decide) rfl fun ls hl => ?_
  refine lv_iconst (v := 0) hx hb dL_law_1016 rfl ?_
  refine lv_istore (lv' := [(29, .int 0), (28, .int 0), (27, .int (nI n2)), (25, .int r9), (24, .int (nI k7)), (23, .ref (Γ.2.1 + kt)), (20, .ref (Γ.2.1 + kh)), (19, .ref (Γ.2.1 + ko)), (11, .int x9), (10, .int (nI t9)), (9, .ref (Γ.2.1 + kw)), (8, .int A9), (7, .int (nI O)), (6, .int (nI G)), (5, .int (nI L)), (4, .int (nI M)), (3, .ref (b2 + 0)), (2, .ref (Γ.2.1 + ks)), (1, .ref (Γ.2.1 + kb)), (0, .ref b0)]) hx hb dL_law_1017 hl (by decide) rfl fun ls hl => ?_
  refine W.widen (k := c0 + 10 + 1 * 0) (n := s0 + 60 + 6 * 0) (by omega) (by omega) ?_
  refine lw_more (inc := inc) (c0 := c0 + 10) (s0 := s0 + 60) hX hFR b4 hPo hgo ⟨by omega, by omega⟩ (fun vb H1 locs1 ls hl hL => ?_) O 0 (by omega) _ _ _ ls (lv_sub hl [0, 1, 2, 3, 4, 5, 6, 7, 8, 9, 10, 11, 12, 13, 14, 15, 16, 17, 18, 19] rfl) hL
  refine W.widen (k := c0 + 34) (n := s0 + 204) (by omega) (by omega) ?_
  refine lv_aload_n hx hb dL_law_1067 rfl (lv_at hl 15 rfl) ?_
  refine lv_bipush (v := 10) hx hb dL_law_1068 rfl ?_
  refine y_c0 hX hL (fun nb => c_Quay_count hkq hEX hlt (q_count hL.qi (by omega) (w := 10) (by omega))) kX11_count xlL_246 rfl rfl rfl hl.1 (Nat.le_of_ble_eq_true rfl) ⟨by omega, by omega⟩ ⟨by omega, by omega⟩ dL_law_1070 fun H1 locs1 hL => ?_
  refine lv_aload hx hb dL_law_1073 (lv_at hl 5 rfl) ?_
  refine lv_bipush (v := 10) hx hb dL_law_1075 rfl ?_
  refine y_el (k := kh) hX hL hPh (j := 10) lc_10 (vin (i := 10) (by omega) (by omega)) rfl dL_law_1077 ?_
  refine lv_isub hx hb dL_law_1078 ?_
  refine lv_aload_n hx hb dL_law_1079 rfl (lv_at hl 15 rfl) ?_
  refine lv_bipush (v := 11) hx hb dL_law_1080 rfl ?_
  refine y_c0 hX hL (fun nb => c_Quay_count hkq hEX hlt (q_count hL.qi (by omega) (w := 11) (by omega))) kX11_count xlL_246 rfl rfl rfl hl.1 (Nat.le_of_ble_eq_true rfl) ⟨by omega, by omega⟩ ⟨by omega, by omega⟩ dL_law_1082 fun H1 locs1 hL => ?_
  refine lv_iadd hx hb dL_law_1085 ?_
  refine lv_aload hx hb dL_law_1086 (lv_at hl 5 rfl) ?_
  refine lv_bipush (v := 11) hx hb dL_law_1088 rfl ?_
  refine y_el (k := kh) hX hL hPh (j := 11) lc_11 (vin (i := 11) (by omega) (by omega)) rfl dL_law_1090 ?_
  refine lv_isub hx hb dL_law_1091 ?_
  refine lv_aload_n hx hb dL_law_1092 rfl (lv_at hl 15 rfl) ?_
  refine lv_bipush (v := 12) hx hb dL_law_1093 rfl ?_
  refine y_c0 hX hL (fun nb => c_Quay_count hkq hEX hlt (q_count hL.qi (by omega) (w := 12) (by omega))) kX11_count xlL_246 rfl rfl rfl hl.1 (Nat.le_of_ble_eq_true rfl) ⟨by omega, by omega⟩ ⟨by omega, by omega⟩ dL_law_1095 fun H1 locs1 hL => ?_
  refine lv_iadd hx hb dL_law_1098 ?_
  refine lv_aload hx hb dL_law_1099 (lv_at hl 5 rfl) ?_
  refine lv_bipush (v := 12) hx hb dL_law_1101 rfl ?_
  refine y_el (k := kh) hX hL hPh (j := 12) rfl (vin (i := 12) (by omega) (by omega)) rfl dL_law_1103 ?_
  refine lv_isub hx hb dL_law_1104 ?_
  rw [show ((((((cU u2 10) - (gh 10)) + (cU u2 11)) - (gh 11)) + (cU u2 12)) - (gh 12)) = nI n2 from by rw [hgh 10 (by omega), hgh 11 (by omega), hgh 12 (by omega)]; exact six_cnt c3]
  refine lv_istore (lv' := [(29, .int (nI n2)), (28, .int (nI (nsm inc O))), (27, .int (nI n2)), (25, .int r9), (24, .int (nI k7)), (23, .ref (Γ.2.1 + kt)), (20, .ref (Γ.2.1 + kh)), (19, .ref (Γ.2.1 + ko)), (11, .int x9), (10, .int (nI t9)), (9, .ref (Γ.2.1 + kw)), (8, .int A9), (7, .int (nI O)), (6, .int (nI G)), (5, .int (nI L)), (4, .int (nI M)), (3, .ref (b2 + 0)), (2, .ref (Γ.2.1 + ks)), (1, .ref (Γ.2.1 + kb)), (0, .ref b0)]) hx hb dL_law_1105 hl (by decide) rfl fun ls hl => ?_
  refine lv_iload hx hb dL_law_1107 (lv_at hl 1 rfl) ?_
  refine lv_iload hx hb dL_law_1109 (lv_at hl 2 rfl) ?_
  refine lv_icmp_ne (tgt := 1193) hx hb dL_law_1111 rfl (fun q => absurd (by rw [b5]) q) (fun _ => ?_)
  refine lv_iload hx hb dL_law_1114 (lv_at hl 0 rfl) ?_
  refine lv_iload hx hb dL_law_1116 (lv_at hl 2 rfl) ?_
  refine lv_icmp_ne (tgt := 1193) hx hb dL_law_1118 rfl (fun q => absurd rfl q) (fun _ => ?_)
  have J1195 : ∀ (vb : Va) (H1 : Heap) (locs1 : List Loc), DL Γ b2 s w wb shb sh0 n0 ks pA pB S G M L O u2 u2 P sh x3 n vb H1 locs1 → W p l e R s m args below meth c H1 locs1 (c0 + 100) (s0 + 600) Q (F0 m 1195 ls []) := by
    intro vb H1 locs1 hL
    refine lv_iinc (k := 9) (v := ((nI t9) + 1)) (lv' := [(10, .int ((nI t9) + 1)), (29, .int (nI n2)), (28, .int (nI (nsm inc O))), (27, .int (nI n2)), (25, .int r9), (24, .int (nI k7)), (23, .ref (Γ.2.1 + kt)), (20, .ref (Γ.2.1 + kh)), (19, .ref (Γ.2.1 + ko)), (11, .int x9), (9, .ref (Γ.2.1 + kw)), (8, .int A9), (7, .int (nI O)), (6, .int (nI G)), (5, .int (nI L)), (4, .int (nI M)), (3, .ref (b2 + 0)), (2, .ref (Γ.2.1 + ks)), (1, .ref (Γ.2.1 + kb)), (0, .ref b0)]) hx hb dL_law_1195 hl rfl rfl (by decide) rfl fun ls hl => ?_
    refine lv_goto (tgt := 109) hx hb dL_law_1198 rfl ?_
    rw [ni_s] at hl
    exact kk _ _ _ _ ls (lv_sub hl [0, 10, 11, 12, 13, 14, 15, 16, 17, 18, 19] rfl) hL
  have J1161 : ∀ (vb : Va) (H1 : Heap) (locs1 : List Loc), DL Γ b2 s w wb shb sh0 n0 ks pA pB S G M L O u2 u2 P sh x3 n vb H1 locs1 → W p l e R s m args below meth c H1 locs1 (c0 + 50) (s0 + 300) Q (F0 m 1161 ls []) := by
    intro vb H1 locs1 hL
    refine lv_aload_n hx hb dL_law_1161 rfl (lv_at hl 16 rfl) ?_
    refine lv_bipush (v := 9) hx hb dL_law_1162 rfl ?_
    refine y_c0 hX hL (fun nb => c_Quay_count hkq hEX hlt (q_count hL.qi (by omega) (w := 9) (by omega))) kX11_count xlL_246 rfl rfl rfl hl.1 (Nat.le_of_ble_eq_true rfl) ⟨by omega, by omega⟩ ⟨by omega, by omega⟩ dL_law_1164 fun H1 locs1 hL => ?_
    refine lv_aload hx hb dL_law_1167 (lv_at hl 6 rfl) ?_
    refine lv_bipush (v := 9) hx hb dL_law_1169 rfl ?_
    refine y_el (k := kh) hX hL hPh (j := 9) lc_9 (vin (i := 9) (by omega) (by omega)) rfl dL_law_1171 ?_
    have hIC : IC (u 179) := a2.2.2.2.1
    have hIC2 : IC (u2 179) := b2'.2.2.2.1
    obtain ⟨k1, -, -⟩ := row_t_int (f := u 179) 6 (by omega) (fun i hi => ⟨hIC.1 i hi, by have := isum_le (f := u 179) (i := i) 6 hIC.1 hi; have := hIC.2; omega⟩)
    obtain ⟨k2, -, -⟩ := row_t_int (f := u2 179) 6 (by omega) (fun i hi => ⟨hIC2.1 i hi, by have := isum_le (f := u2 179) (i := i) 6 hIC2.1 hi; have := hIC2.2; omega⟩)
    refine lv_icmp_gt (tgt := 1193) hx hb dL_law_1172 rfl (fun q => absurd (Int32.lt_iff_toInt_lt.mp q) (by rw [hgh 9 (by omega), show cU u 9 = row_t (u 179) 6 from rfl, show cU u2 9 = row_t (u2 179) 6 from rfl, k1, k2]; omega)) (fun _ => ?_)
    refine lv_iload hx hb dL_law_1175 (lv_at hl 3 rfl) ?_
    by_cases hr0 : 0 < r9
    · refine lv_if_le (tgt := 1195) hx hb dL_law_1177 rfl (fun q => absurd hr0 (Int32.not_lt.mpr q)) (fun _ => ?_)
      refine lv_aload_n hx hb dL_law_1180 rfl (lv_at hl 16 rfl) ?_
      refine lv_iload hx hb dL_law_1181 (lv_at hl 4 rfl) ?_
      obtain ⟨r8, v8, eu1, eu2, eu3⟩ := q_until hL.qi (by omega) hk7
      refine y_c1 hX hL eu3 (fun nb => c_Quay_until hkq hEX hlt eu1) kX11_until xlL_280 rfl rfl rfl hl.1 (Nat.le_of_ble_eq_true rfl) ⟨by omega, by omega⟩ ⟨by omega, by omega⟩ dL_law_1183 fun H1 locs1 hL => ?_
      have hnx := hU.next (by rw [htr]; exact eu2) (by have := Int32.lt_iff_toInt_lt.mp hr0; rw [show (0 : Int32).toInt = 0 from rfl] at this; exact this)
      refine lv_iload hx hb dL_law_1186 (lv_at hl 3 rfl) ?_
      refine lv_iconst (v := 1) hx hb dL_law_1188 rfl ?_
      refine lv_isub hx hb dL_law_1189 ?_
      refine lv_icmp_eq (tgt := 1195) hx hb dL_law_1190 rfl (fun _ => ?_) (fun q => absurd hnx q)
      refine W.widen (k := c0 + 100) (n := s0 + 600) (by omega) (by omega) ?_
      exact J1195 _ _ _ hL
    · refine lv_if_le (tgt := 1195) hx hb dL_law_1177 rfl (fun _ => ?_) (fun q => absurd (Int32.not_lt.mp hr0) q)
      refine W.widen (k := c0 + 100) (n := s0 + 600) (by omega) (by omega) ?_
      exact J1195 _ _ _ hL
  refine lv_aload_n hx hb dL_law_1121 rfl (lv_at hl 16 rfl) ?_
  refine lv_bipush (v := 8) hx hb dL_law_1122 rfl ?_
  refine y_c0 hX hL (fun nb => c_Quay_count hkq hEX hlt (q_count hL.qi (by omega) (w := 8) (by omega))) kX11_count xlL_246 rfl rfl rfl hl.1 (Nat.le_of_ble_eq_true rfl) ⟨by omega, by omega⟩ ⟨by omega, by omega⟩ dL_law_1124 fun H1 locs1 hL => ?_
  refine lv_aload hx hb dL_law_1127 (lv_at hl 6 rfl) ?_
  refine lv_bipush (v := 8) hx hb dL_law_1129 rfl ?_
  refine y_el (k := kh) hX hL hPh (j := 8) lc_8 (vin (i := 8) (by omega) (by omega)) rfl dL_law_1131 ?_
  by_cases hc8 : cU u2 8 ≤ gh 8
  · refine lv_icmp_le (tgt := 1161) hx hb dL_law_1132 rfl (fun _ => ?_) (fun q => absurd hc8 q)
    refine W.widen (k := c0 + 50) (n := s0 + 300) (by omega) (by omega) ?_
    exact J1161 _ _ _ hL
  · refine lv_icmp_le (tgt := 1161) hx hb dL_law_1132 rfl (fun q => absurd q hc8) (fun _ => ?_)
    refine lv_aload_n hx hb dL_law_1135 rfl (lv_at hl 16 rfl) ?_
    refine lv_bipush (v := 10) hx hb dL_law_1136 rfl ?_
    refine y_c0 hX hL (fun nb => c_Quay_count hkq hEX hlt (q_count hL.qi (by omega) (w := 10) (by omega))) kX11_count xlL_246 rfl rfl rfl hl.1 (Nat.le_of_ble_eq_true rfl) ⟨by omega, by omega⟩ ⟨by omega, by omega⟩ dL_law_1138 fun H1 locs1 hL => ?_
    refine lv_aload hx hb dL_law_1141 (lv_at hl 6 rfl) ?_
    refine lv_bipush (v := 10) hx hb dL_law_1143 rfl ?_
    refine y_el (k := kh) hX hL hPh (j := 10) lc_10 (vin (i := 10) (by omega) (by omega)) rfl dL_law_1145 ?_
    by_cases hc10 : cU u2 10 = gh 10
    · refine lv_icmp_ne (tgt := 1161) hx hb dL_law_1146 rfl (fun q => absurd hc10 q) (fun _ => ?_)
      refine lv_aload hx hb dL_law_1149 (lv_at hl 6 rfl) ?_
      refine lv_iconst (v := 0) hx hb dL_law_1151 rfl ?_
      refine y_el (k := kh) hX hL hPh (j := 0) lc_0 (vin (i := 0) (by omega) (by omega)) rfl dL_law_1152 ?_
      refine lv_bipush (v := 7) hx hb dL_law_1153 rfl ?_
      refine lv_irem hx hb dL_law_1155 (by decide) ?_
      refine lv_bipush (v := 6) hx hb dL_law_1156 rfl ?_
      have hs0 : sn = 0 := by
        rw [hgh 10 (by omega)] at hc10
        have h1 : u2 173 2 = u 173 2 := hc10
        rw [c2] at h1
        have h2 : nI sn = nI 0 := by
          have h3 := congrArg (fun t => t - u 173 2) h1
          simp only [add_sub9] at h3
          rw [h3]; exact Int32.sub_self _
        exact (eq_n (by omega) (by omega)).mp h2
      have hrem : gh 0 - gh 0 / 7 * 7 = 6 := Decidable.byContradiction fun h => by
        rw [hgh 0 (by omega)] at h
        have hle := c4 hs0 h
        have hID := a2.2.2.2.2.1
        have hID2 := b2'.2.2.2.2.1
        have hb36 : ∀ (w9 : Va), ID (w9 180) M → (row_t (w9 180) 36).toInt = isum (w9 180) 36 := fun w9 h9 => (row_t_int (f := w9 180) 36 (by omega) (fun i hi => by
          have := h9 (i / 6) (i % 6) (by omega) (by omega)
          rw [show 6 * (i / 6) + i % 6 = i by omega] at this
          exact ⟨this.1, by omega⟩)).1
        refine hc8 (Int32.le_iff_toInt_le.mpr ?_)
        rw [hgh 8 (by omega), show cU u2 8 = row_t (u2 180) 36 from rfl, show cU u 8 = row_t (u 180) 36 from rfl, hb36 u2 hID2, hb36 u hID]
        exact hle
      refine lv_icmp_ne (tgt := 1193) hx hb dL_law_1158 rfl (fun q => absurd hrem q) (fun _ => ?_)
      refine W.widen (k := c0 + 50) (n := s0 + 300) (by omega) (by omega) ?_
      exact J1161 _ _ _ hL
    · refine lv_icmp_ne (tgt := 1161) hx hb dL_law_1146 rfl (fun _ => ?_) (fun q => absurd q hc10)
      refine W.widen (k := c0 + 50) (n := s0 + 300) (by omega) (by omega) ?_
      exact J1161 _ _ _ hL
end LD9
