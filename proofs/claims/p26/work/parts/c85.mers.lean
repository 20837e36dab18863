/-! THE LAW: sums counted two ways; merchants -/
section
variable {u : Va} {S G M L O m : Nat} {y : Int32} {T : Int} {B : Nat}
theorem row_plus {f g : Nat → Int32} : ∀ n, row_t (fun k => f k + g k) n = row_t f n + row_t g n
  | 0 => rfl
  | n + 1 => by
    show row_t (fun k => f k + g k) n + (f n + g n) = (row_t f n + f n) + (row_t g n + g n)
    rw [row_plus n, Int32.add_assoc, Int32.add_assoc, ← Int32.add_assoc (row_t g n), Int32.add_comm (row_t g n) (f n), Int32.add_assoc]
theorem row_zero : ∀ n, row_t (fun _ => 0) n = 0
  | 0 => rfl
  | n + 1 => by
    show row_t (fun _ => 0) n + 0 = 0
    rw [row_zero n]; rfl
theorem row_ext {f g : Nat → Int32} (n : Nat) (h : ∀ i, i < n → f i = g i) : row_t f n = row_t g n := row_t_eq n h
theorem row_two {F : Nat → Nat → Int32} (L : Nat) : ∀ M, row_t (fun a => row_t (F a) L) M = row_t (fun k => row_t (fun a => F a k) M) L
  | 0 => (row_zero L).symm
  | M + 1 => by
    show row_t (fun a => row_t (F a) L) M + row_t (F M) L = row_t (fun k => row_t (fun a => F a k) M + F M k) L
    rw [row_two L M, row_plus]
theorem row_pick (hm : m ≤ 4000) : ∀ M, M ≤ 4000 → row_t (fun a => if nI m = nI a then y else 0) M = if m < M then y else 0
  | 0, _ => rfl
  | M + 1, h => by
    show row_t _ M + (if nI m = nI M then y else 0) = _
    rw [row_pick hm M (by omega)]
    by_cases h1 : m = M
    · subst h1
      rw [if_neg (by omega), if_pos rfl, if_pos (by omega)]; exact Int32.zero_add _
    · rw [if_neg (c := nI m = nI M) (by rw [eq_n (by omega) (by omega)]; exact h1), Int32.add_zero]
      by_cases h2 : m < M
      · rw [if_pos h2, if_pos (by omega)]
      · rw [if_neg h2, if_neg (by omega)]
theorem row_none : ∀ M, M ≤ 4000 → row_t (fun a => if (-1 : Int32) = nI a then y else 0) M = 0
  | 0, _ => rfl
  | M + 1, h => by
    show row_t _ M + (if (-1 : Int32) = nI M then y else 0) = _
    rw [row_none M (by omega), if_neg (by intro hh; rw [eq_comm, eq_m1 (by omega)] at hh; exact hh)]; rfl
/-- debts by merchants are all debts -/
theorem sum_debts (hD : ID (u 180) M) (hM : M ≤ 6) : row_t (fun a => row_t (fun b => u 180 (6 * a + b)) M) M = row_t (u 180) 36 := by
  rw [← debts_all hM hD, row_ext (g := fun a => row_t (fun b => u 180 (6 * a + b)) 6) M (fun a ha => (row_t_0 6 hM (fun b h1 h2 => (hD a b (by omega) h2).2.2 (Or.inr (Or.inr h1)))).symm)]
  have : ∀ n, row_t (fun a => row_t (fun b => u 180 (6 * a + b)) 6) n = row_t (u 180) (6 * n) := by
    intro n
    induction n with
    | zero => rfl
    | succ n ih => rw [← row_six, ← ih]; rfl
  exact this M
theorem sum_own (hQ : IQ (u 175) L M) (hM : M ≤ 6) {f : Nat → Int32} : row_t (fun a => row_t (fun k => if u 175 k = nI a then f k else 0) L) M = row_t f L := by
  rw [row_two (F := fun a k => if u 175 k = nI a then f k else 0)]
  refine row_ext L fun k hk => ?_
  obtain ⟨m, hm, em⟩ : ∃ m9, m9 < M ∧ u 175 k = nI m9 := hQ k hk
  show row_t (fun a => if u 175 k = nI a then f k else 0) M = f k
  rw [em, row_pick (by omega) M (by omega), if_pos hm]
theorem row_ones : ∀ n, row_t (fun _ => 1) n = nI n
  | 0 => rfl
  | n + 1 => by
    show row_t (fun _ => 1) n + 1 = _
    rw [row_ones n, ni_s]
theorem sum_bear (hG : IG (u 176) (u 177) L G) (hG4 : G ≤ 4) : row_t (fun g => gU u L g 3) G = row_t (fun k => if u 176 k = -1 then 0 else 1) L := by
  show row_t (fun g => row_t (fun k => if u 176 k = nI g then 1 else 0) L) G = _
  rw [row_two (F := fun g k => if u 176 k = nI g then (1 : Int32) else 0)]
  refine row_ext L fun k hk => ?_
  show row_t (fun g => if u 176 k = nI g then (1 : Int32) else 0) G = if u 176 k = -1 then 0 else 1
  rcases hG k hk with hg | ⟨⟨m, hm, em⟩, -⟩
  · rw [hg, row_none G (by omega), if_pos rfl]
  · rw [em, row_pick (by omega) G (by omega), if_pos hm, if_neg (by rw [eq_m1 (by omega)]; exact id)]
theorem sum_coins (h : LI u S G M L O T B) (hT : T ≤ 59994) {A9 : Int32} (hA : A9.toInt = T) : row_t (u 179) M + row_t (u 181) G = A9 := by
  obtain ⟨⟨⟨h1, h2, h3, h4, h5⟩, -⟩, l2, l3, l4, l5, l6, l7, l8⟩ := h
  have hc : IC (u 179) := l2.2.2.2.1
  have e1 : row_t (u 179) M = row_t (u 179) 6 := coins_all h3 l7
  have e2 : row_t (u 181) 4 = row_t (u 181) G := row_t_0 4 h2 (fun i a b => l8 i a)
  have n1 := isum_nn (f := u 179) 6 hc.1
  have n2 := isum_nn (f := u 181) 4 l3
  have hct : isum (u 179) 6 ≤ 59994 := hc.2
  obtain ⟨k1, -, -⟩ := row_t_int (f := u 179) 6 (by omega) (fun i hi => ⟨hc.1 i hi, by have := isum_le (f := u 179) (i := i) 6 hc.1 hi; omega⟩)
  obtain ⟨k2, -, -⟩ := row_t_int (f := u 181) 4 (by omega) (fun i hi => ⟨l3 i hi, by have := isum_le (f := u 181) (i := i) 4 l3 hi; omega⟩)
  rw [e1, ← e2]
  apply t_inj
  rw [t_add (by omega) (by omega), k1, k2, hA]; omega
theorem row_z6 (hD : ID (u 180) M) (hM : M ≤ 6) {a : Nat} (ha : a < M) : row_t (fun b => u 180 (6 * a + b)) 6 = row_t (fun b => u 180 (6 * a + b)) M := row_t_0 6 hM (fun b h1 h2 => (hD a b (by omega) h2).2.2 (Or.inr (Or.inr h1)))
theorem col_z6 (hD : ID (u 180) M) (hM : M ≤ 6) {a : Nat} (ha : a < M) : row_t (fun b => u 180 (6 * b + a)) 6 = row_t (fun b => u 180 (6 * b + a)) M := row_t_0 6 hM (fun b h1 h2 => (hD b a h2 (by omega)).2.2 (Or.inr (Or.inl h1)))
/-- the first debt away, and nobody else -/
theorem CHS.self {E : Nat → Nat → Int32} {a b : Nat} {x : Int32} (h : CHS E M a b x) (ha : a < M) (e : a = b) : x = 0 := by
  subst e
  rcases h with ⟨n, h1, h2, h3, h4⟩ | ⟨-, h4⟩
  · by_cases hn : n = 0
    · rw [h2, hn]; rfl
    · exact absurd rfl (h4 0 (by omega))
  · exact absurd rfl (h4 0 (by omega))
theorem CHS.step1 {E : Nat → Nat → Int32} {a b : Nat} {x : Int32} (h : CHS E M a b x) (hM : M ≤ 6) (ha : a < M) (hb0 : b < M) (e : a ≠ b) : x = 1 ↔ 0 < E a b := by
  have l1 : lvl E M a 1 b ↔ 0 < E a b := ⟨fun q => by
    rcases q with q | ⟨c, hc, q1, q2⟩
    · exact absurd (show b = a from q).symm e
    · have : c = a := q1
      rw [← this]; exact q2, fun q => Or.inr ⟨a, ha, rfl, q⟩⟩
  have l0 : ¬ lvl E M a 0 b := fun q => e (show b = a from q).symm
  constructor
  · intro hx
    rcases h with ⟨n, h1, h2, h3, h4⟩ | ⟨h2, h4⟩
    · have : n = 1 := by
        rw [hx] at h2
        have := eq_n (i := 1) (j := n) (by omega) (by omega)
        rw [show (1 : Int32) = nI 1 from rfl] at h2
        rw [h2] at this
        exact (this.mp rfl).symm
      subst this
      exact l1.mp h3
    · rw [hx] at h2; exact absurd h2 (by decide)
  · intro hp
    have h1' := l1.mpr hp
    rcases h with ⟨n, h1, h2, h3, h4⟩ | ⟨h2, h4⟩
    · have hn0 : n ≠ 0 := fun q => by rw [q] at h3; exact l0 h3
      have hn1 : ¬ 1 < n := fun q => h4 1 q h1'
      have : n = 1 := by omega
      rw [h2, this]; rfl
    · exact absurd h1' (h4 1 (by omega))
theorem CHS.rng {E : Nat → Nat → Int32} {a b : Nat} {x : Int32} (h : CHS E M a b x) (hM : M ≤ 6) : ¬ x < -1 ∧ x < nI M := by
  rcases h with ⟨n, h1, h2, -, -⟩ | ⟨h2, -⟩
  · rw [h2]
    exact ⟨fun q => by have := Int32.lt_iff_toInt_lt.mp q; rw [ni_t (by omega), show (-1 : Int32).toInt = -1 from rfl] at this; omega, by rw [lt_n (by omega) (by omega)]; omega⟩
  · rw [h2]
    exact ⟨by decide, Int32.lt_iff_toInt_lt.mpr (by rw [ni_t (by omega), show (-1 : Int32).toInt = -1 from rfl]; omega)⟩
end
section LB9
variable {p : Program} {l : Launch} {e : Env} {R : Room} {s : State} {m : MethodId} {args : Array Value} {below : List Frame} {meth : Method} {c : Code} {H H0 : Heap} {locs : List Loc} {cells slots : Nat} {Q : State → Prop}
variable {cc : ByteArray} {pc nL : Nat} {ls : Array Slot} {st0 rest As Bs : List Value} {Γ : Cx} {sh sh0 shb : Sh} {v v0 v1 vb vb1 : Va} {w wb : Vl} {own : String} {idx ci j k n n0 nb nn hh mL mc ms a b2 ks S G M L O d1 d2 c0 s0 : Nat} {cs : List Nat} {y : MethodName} {b : ByteArray} {ret : Option FieldType} {pA : Nat → Nat} {pB : Nat → Nat → Nat} {u ua ub ua1 ub1 : Va} {P : Pfn}
variable {x9 A9 : Int32} {t9 kw kb b0 : Nat} {T : Int} {B : Nat}
variable {e12 e13 e14 e15 e16 e17 e18 : Int32}
theorem lw_own (hX : XM Γ b2 p l s m args c cL_law 31 RL shb) (hFR : 14 ≤ R.frames ∧ 560 ≤ R.locals) (ha : a < M) (hroom : c0 + 3 * M ≤ R.cells ∧ s0 + 18 * M ≤ R.slots)
    (kk : ∀ (vb : Va) (H1 : Heap) (locs1 : List Loc) (ls : Array Slot), lv_has ls 31 [(21, .int (row_t (fun k => u 180 (6 * k + a)) M)), (20, .int (row_t (fun k => u 180 (6 * a + k)) M)), (19, .int (nI a)), (18, .int e18), (17, .int e17), (16, .int e16), (15, .int e15), (14, .int e14), (13, .int e13), (12, .int e12), (11, .int x9), (10, .int (nI t9)), (9, .ref (Γ.2.1 + kw)), (8, .int A9), (7, .int (nI O)), (6, .int (nI G)), (5, .int (nI L)), (4, .int (nI M)), (3, .ref (b2 + 0)), (2, .ref (Γ.2.1 + ks)), (1, .ref (Γ.2.1 + kb)), (0, .ref b0)] → DL Γ b2 s w wb shb sh0 n0 ks pA pB S G M L O u u P sh v n vb H1 locs1 → W p l e R s m args below meth c H1 locs1 (c0 + 3 * M) (s0 + 18 * M) Q (F0 m 544 ls [])) :
    ∀ (j i : Nat), i + j = M → ∀ (vb : Va) (H1 : Heap) (locs1 : List Loc) (ls : Array Slot), lv_has ls 31 [(22, .int (nI i)), (21, .int (row_t (fun k => u 180 (6 * k + a)) i)), (20, .int (row_t (fun k => u 180 (6 * a + k)) i)), (19, .int (nI a)), (18, .int e18), (17, .int e17), (16, .int e16), (15, .int e15), (14, .int e14), (13, .int e13), (12, .int e12), (11, .int x9), (10, .int (nI t9)), (9, .ref (Γ.2.1 + kw)), (8, .int A9), (7, .int (nI O)), (6, .int (nI G)), (5, .int (nI L)), (4, .int (nI M)), (3, .ref (b2 + 0)), (2, .ref (Γ.2.1 + ks)), (1, .ref (Γ.2.1 + kb)), (0, .ref b0)] → DL Γ b2 s w wb shb sh0 n0 ks pA pB S G M L O u u P sh v n vb H1 locs1 → W p l e R s m args below meth c H1 locs1 (c0 + 3 * i) (s0 + 18 * i) Q (F0 m 415 ls []) := by
  obtain ⟨hx, hb, hml, hts, hown, hK, hE, hb2, hkq, hEX, hlt, -⟩ := (⟨hX.1, hX.2.1, hX.2.2.1, hX.2.2.2.1, hX.2.2.2.2.1, hX.2.2.2.2.2.1, hX.2.2.2.2.2.2.1, hX.2.2.2.2.2.2.2.1, hX.2.2.2.2.2.2.2.2.1, hX.2.2.2.2.2.2.2.2.2.1, hX.2.2.2.2.2.2.2.2.2.2, trivial⟩ : _ ∧ _ ∧ _ ∧ _ ∧ _ ∧ _ ∧ _ ∧ _ ∧ _ ∧ _ ∧ _ ∧ True)
  intro j
  induction j with
  | zero =>
    intro i hij vb H1 locs1 ls hl hL
    have hi : i = M := by omega
    rw [hi] at hl ⊢
    refine lv_iload hx hb dL_law_415 (lv_at hl 0 rfl) ?_
    refine lv_iload hx hb dL_law_417 (lv_at hl 18 rfl) ?_
    refine lv_icmp_ge (tgt := 544) hx hb dL_law_419 rfl (fun _ => ?_) (fun q => absurd (Int32.le_refl _) q)
    exact kk vb H1 locs1 ls (lv_sub hl [1, 2, 3, 4, 5, 6, 7, 8, 9, 10, 11, 12, 13, 14, 15, 16, 17, 18, 19, 20, 21, 22] rfl) hL
  | succ j ih =>
    intro i hij vb H1 locs1 ls hl hL
    have hi : i < M := by omega
    have hB := hL.qi.2.2.2.2.2.1
    have hM6 : M ≤ 6 := hB.2.2.1
    have hID : ID (u 180) M := hL.qi.2.2.2.1.2.2.2.2.1
    have hd9 := hID a i (by omega) (by omega)
    refine lv_iload hx hb dL_law_415 (lv_at hl 0 rfl) ?_
    refine lv_iload hx hb dL_law_417 (lv_at hl 18 rfl) ?_
    refine lv_icmp_ge (tgt := 544) hx hb dL_law_419 rfl (fun q => absurd ((le_n (i := M) (j := i) (by omega) (by omega)).mp q) (by omega)) (fun _ => ?_)
    refine lv_aload_n hx hb dL_law_422 rfl (lv_at hl 19 rfl) ?_
    refine lv_iload hx hb dL_law_423 (lv_at hl 3 rfl) ?_
    refine lv_iload hx hb dL_law_425 (lv_at hl 0 rfl) ?_
    refine y_c0 hX hL (fun nb => c_Quay_owes hkq hEX hlt (q_owes hL.qi ha hi)) kX11_owes xlL_258 rfl rfl rfl hl.1 (Nat.le_of_ble_eq_true rfl) ⟨by omega, by omega⟩ ⟨by omega, by omega⟩ dL_law_427 fun H1 locs1 hL => ?_
    refine lv_istore (lv' := [(23, .int (u 180 (6 * a + i))), (22, .int (nI i)), (21, .int (row_t (fun k => u 180 (6 * k + a)) i)), (20, .int (row_t (fun k => u 180 (6 * a + k)) i)), (19, .int (nI a)), (18, .int e18), (17, .int e17), (16, .int e16), (15, .int e15), (14, .int e14), (13, .int e13), (12, .int e12), (11, .int x9), (10, .int (nI t9)), (9, .ref (Γ.2.1 + kw)), (8, .int A9), (7, .int (nI O)), (6, .int (nI G)), (5, .int (nI L)), (4, .int (nI M)), (3, .ref (b2 + 0)), (2, .ref (Γ.2.1 + ks)), (1, .ref (Γ.2.1 + kb)), (0, .ref b0)]) hx hb dL_law_430 hl (by decide) rfl fun ls hl => ?_
    refine lv_aload_n hx hb dL_law_432 rfl (lv_at hl 20 rfl) ?_
    refine lv_iload hx hb dL_law_433 (lv_at hl 4 rfl) ?_
    refine lv_iload hx hb dL_law_435 (lv_at hl 1 rfl) ?_
    obtain ⟨x, v2, hc1, hc2, hc3⟩ := q_chain hL.qi (by omega) ha hi
    refine y_c1 hX hL hc2 (fun nb => c_Quay_chain hkq hEX hlt hc1) kX11_chain xlL_260 rfl rfl rfl hl.1 (Nat.le_of_ble_eq_true rfl) ⟨by omega, by omega⟩ ⟨by omega, by omega⟩ dL_law_437 fun H1 locs1 hL => ?_
    obtain ⟨hr1, hr2⟩ := hc3.rng hM6
    refine lv_istore (lv' := [(24, .int x), (23, .int (u 180 (6 * a + i))), (22, .int (nI i)), (21, .int (row_t (fun k => u 180 (6 * k + a)) i)), (20, .int (row_t (fun k => u 180 (6 * a + k)) i)), (19, .int (nI a)), (18, .int e18), (17, .int e17), (16, .int e16), (15, .int e15), (14, .int e14), (13, .int e13), (12, .int e12), (11, .int x9), (10, .int (nI t9)), (9, .ref (Γ.2.1 + kw)), (8, .int A9), (7, .int (nI O)), (6, .int (nI G)), (5, .int (nI L)), (4, .int (nI M)), (3, .ref (b2 + 0)), (2, .ref (Γ.2.1 + ks)), (1, .ref (Γ.2.1 + kb)), (0, .ref b0)]) hx hb dL_law_440 hl (by decide) rfl fun ls hl => ?_
    refine lv_iload hx hb dL_law_442 (lv_at hl 1 rfl) ?_
    refine lv_if_lt (tgt := 516) hx hb dL_law_444 rfl (fun q => absurd (Int32.lt_iff_toInt_lt.mp q) (by rw [show (0 : Int32).toInt = 0 from rfl]; omega)) (fun _ => ?_)
    refine lv_iload hx hb dL_law_447 (lv_at hl 1 rfl) ?_
    refine lv_ldcw hx hb hown (hts _ qL_263) dL_law_449 ?_
    refine lv_icmp_gt (tgt := 516) hx hb dL_law_452 rfl (fun q => absurd (Int32.lt_iff_toInt_lt.mp q) (by rw [show (99999 : Int32).toInt = 99999 from rfl]; omega)) (fun _ => ?_)
    refine lv_iload hx hb dL_law_455 (lv_at hl 5 rfl) ?_
    refine lv_iload hx hb dL_law_457 (lv_at hl 2 rfl) ?_
    by_cases hai : a = i
    · refine lv_icmp_ne (tgt := 472) hx hb dL_law_459 rfl (fun q => absurd (by rw [hai]) q) (fun _ => ?_)
      refine lv_iload hx hb dL_law_462 (lv_at hl 1 rfl) ?_
      refine lv_if_ne (tgt := 516) hx hb dL_law_464 rfl (fun q => absurd (hd9.2.2 (Or.inl hai)) q) (fun _ => ?_)
      refine lv_iload hx hb dL_law_467 (lv_at hl 0 rfl) ?_
      refine lv_if_ne (tgt := 516) hx hb dL_law_469 rfl (fun q => absurd (hc3.self ha hai) q) (fun _ => ?_)
      refine lv_iload hx hb dL_law_472 (lv_at hl 5 rfl) ?_
      refine lv_iload hx hb dL_law_474 (lv_at hl 2 rfl) ?_
      refine lv_icmp_eq (tgt := 503) hx hb dL_law_476 rfl (fun _ => ?_) (fun q => absurd (by rw [hai]) q)
      refine lv_iload hx hb dL_law_503 (lv_at hl 0 rfl) ?_
      refine lv_iconst (v := (-1)) hx hb dL_law_505 rfl ?_
      refine lv_icmp_lt (tgt := 516) hx hb dL_law_506 rfl (fun q => absurd q hr1) (fun _ => ?_)
      refine lv_iload hx hb dL_law_509 (lv_at hl 0 rfl) ?_
      refine lv_iload hx hb dL_law_511 (lv_at hl 20 rfl) ?_
      refine lv_icmp_lt (tgt := 518) hx hb dL_law_513 rfl (fun _ => ?_) (fun q => absurd hr2 q)
      refine lv_iload hx hb dL_law_518 (lv_at hl 4 rfl) ?_
      refine lv_iload hx hb dL_law_520 (lv_at hl 1 rfl) ?_
      refine lv_iadd hx hb dL_law_522 ?_
      refine lv_istore (lv' := [(20, .int ((row_t (fun k => u 180 (6 * a + k)) i) + (u 180 (6 * a + i)))), (24, .int x), (23, .int (u 180 (6 * a + i))), (22, .int (nI i)), (21, .int (row_t (fun k => u 180 (6 * k + a)) i)), (19, .int (nI a)), (18, .int e18), (17, .int e17), (16, .int e16), (15, .int e15), (14, .int e14), (13, .int e13), (12, .int e12), (11, .int x9), (10, .int (nI t9)), (9, .ref (Γ.2.1 + kw)), (8, .int A9), (7, .int (nI O)), (6, .int (nI G)), (5, .int (nI L)), (4, .int (nI M)), (3, .ref (b2 + 0)), (2, .ref (Γ.2.1 + ks)), (1, .ref (Γ.2.1 + kb)), (0, .ref b0)]) hx hb dL_law_523 hl (by decide) rfl fun ls hl => ?_
      refine lv_iload hx hb dL_law_525 (lv_at hl 4 rfl) ?_
      refine lv_aload_n hx hb dL_law_527 rfl (lv_at hl 21 rfl) ?_
      refine lv_iload hx hb dL_law_528 (lv_at hl 3 rfl) ?_
      refine lv_iload hx hb dL_law_530 (lv_at hl 5 rfl) ?_
      refine y_c0 hX hL (fun nb => c_Quay_owes hkq hEX hlt (q_owes hL.qi hi ha)) kX11_owes xlL_258 rfl rfl rfl hl.1 (Nat.le_of_ble_eq_true rfl) ⟨by omega, by omega⟩ ⟨by omega, by omega⟩ dL_law_532 fun H1 locs1 hL => ?_
      refine lv_iadd hx hb dL_law_535 ?_
      refine lv_istore (lv' := [(21, .int ((row_t (fun k => u 180 (6 * k + a)) i) + (u 180 (6 * i + a)))), (20, .int ((row_t (fun k => u 180 (6 * a + k)) i) + (u 180 (6 * a + i)))), (24, .int x), (23, .int (u 180 (6 * a + i))), (22, .int (nI i)), (19, .int (nI a)), (18, .int e18), (17, .int e17), (16, .int e16), (15, .int e15), (14, .int e14), (13, .int e13), (12, .int e12), (11, .int x9), (10, .int (nI t9)), (9, .ref (Γ.2.1 + kw)), (8, .int A9), (7, .int (nI O)), (6, .int (nI G)), (5, .int (nI L)), (4, .int (nI M)), (3, .ref (b2 + 0)), (2, .ref (Γ.2.1 + ks)), (1, .ref (Γ.2.1 + kb)), (0, .ref b0)]) hx hb dL_law_536 hl (by decide) rfl fun ls hl => ?_
      refine lv_iinc (k := 4) (v := ((nI i) + 1)) (lv' := [(22, .int ((nI i) + 1)), (21, .int ((row_t (fun k => u 180 (6 * k + a)) i) + (u 180 (6 * i + a)))), (20, .int ((row_t (fun k => u 180 (6 * a + k)) i) + (u 180 (6 * a + i)))), (24, .int x), (23, .int (u 180 (6 * a + i))), (19, .int (nI a)), (18, .int e18), (17, .int e17), (16, .int e16), (15, .int e15), (14, .int e14), (13, .int e13), (12, .int e12), (11, .int x9), (10, .int (nI t9)), (9, .ref (Γ.2.1 + kw)), (8, .int A9), (7, .int (nI O)), (6, .int (nI G)), (5, .int (nI L)), (4, .int (nI M)), (3, .ref (b2 + 0)), (2, .ref (Γ.2.1 + ks)), (1, .ref (Γ.2.1 + kb)), (0, .ref b0)]) hx hb dL_law_538 hl rfl rfl (by decide) rfl fun ls hl => ?_
      refine lv_goto (tgt := 415) hx hb dL_law_541 rfl ?_
      rw [ni_s] at hl
      refine W.widen (k := c0 + 3 * (i + 1)) (n := s0 + 18 * (i + 1)) (by omega) (by omega) ?_
      exact ih (i + 1) (by omega) _ _ _ ls (lv_sub hl [0, 1, 2, 5, 6, 7, 8, 9, 10, 11, 12, 13, 14, 15, 16, 17, 18, 19, 20, 21, 22, 23, 24] rfl) hL
    · refine lv_icmp_ne (tgt := 472) hx hb dL_law_459 rfl (fun _ => ?_) (fun q => absurd q (by rw [eq_n (by omega) (by omega)]; exact hai))
      refine lv_iload hx hb dL_law_472 (lv_at hl 5 rfl) ?_
      refine lv_iload hx hb dL_law_474 (lv_at hl 2 rfl) ?_
      refine lv_icmp_eq (tgt := 503) hx hb dL_law_476 rfl (fun q => absurd q (by rw [eq_n (by omega) (by omega)]; exact hai)) (fun _ => ?_)
      have hone := hc3.step1 hM6 ha hi hai
      refine lv_iload hx hb dL_law_479 (lv_at hl 1 rfl) ?_
      by_cases hpo : 0 < u 180 (6 * a + i)
      · refine lv_if_le (tgt := 488) hx hb dL_law_481 rfl (fun q => absurd hpo (Int32.not_lt.mpr q)) (fun _ => ?_)
        refine lv_iconst (v := 1) hx hb dL_law_484 rfl ?_
        refine lv_goto (tgt := 489) hx hb dL_law_485 rfl ?_
        refine lv_iload hx hb dL_law_489 (lv_at hl 0 rfl) ?_
        refine lv_iconst (v := 1) hx hb dL_law_491 rfl ?_
        refine lv_icmp_ne (tgt := 499) hx hb dL_law_492 rfl (fun q => absurd (hone.mpr hpo) q) (fun _ => ?_)
        refine lv_iconst (v := 1) hx hb dL_law_495 rfl ?_
        refine lv_goto (tgt := 500) hx hb dL_law_496 rfl ?_
        refine lv_icmp_ne (tgt := 516) hx hb dL_law_500 rfl (fun q => absurd rfl q) (fun _ => ?_)
        refine lv_iload hx hb dL_law_503 (lv_at hl 0 rfl) ?_
        refine lv_iconst (v := (-1)) hx hb dL_law_505 rfl ?_
        refine lv_icmp_lt (tgt := 516) hx hb dL_law_506 rfl (fun q => absurd q hr1) (fun _ => ?_)
        refine lv_iload hx hb dL_law_509 (lv_at hl 0 rfl) ?_
        refine lv_iload hx hb dL_law_511 (lv_at hl 20 rfl) ?_
        refine lv_icmp_lt (tgt := 518) hx hb dL_law_513 rfl (fun _ => ?_) (fun q => absurd hr2 q)
        refine lv_iload hx hb dL_law_518 (lv_at hl 4 rfl) ?_
        refine lv_iload hx hb dL_law_520 (lv_at hl 1 rfl) ?_
        refine lv_iadd hx hb dL_law_522 ?_
        refine lv_istore (lv' := [(20, .int ((row_t (fun k => u 180 (6 * a + k)) i) + (u 180 (6 * a + i)))), (24, .int x), (23, .int (u 180 (6 * a + i))), (22, .int (nI i)), (21, .int (row_t (fun k => u 180 (6 * k + a)) i)), (19, .int (nI a)), (18, .int e18), (17, .int e17), (16, .int e16), (15, .int e15), (14, .int e14), (13, .int e13), (12, .int e12), (11, .int x9), (10, .int (nI t9)), (9, .ref (Γ.2.1 + kw)), (8, .int A9), (7, .int (nI O)), (6, .int (nI G)), (5, .int (nI L)), (4, .int (nI M)), (3, .ref (b2 + 0)), (2, .ref (Γ.2.1 + ks)), (1, .ref (Γ.2.1 + kb)), (0, .ref b0)]) hx hb dL_law_523 hl (by decide) rfl fun ls hl => ?_
        refine lv_iload hx hb dL_law_525 (lv_at hl 4 rfl) ?_
        refine lv_aload_n hx hb dL_law_527 rfl (lv_at hl 21 rfl) ?_
        refine lv_iload hx hb dL_law_528 (lv_at hl 3 rfl) ?_
        refine lv_iload hx hb dL_law_530 (lv_at hl 5 rfl) ?_
        refine y_c0 hX hL (fun nb => c_Quay_owes hkq hEX hlt (q_owes hL.qi hi ha)) kX11_owes xlL_258 rfl rfl rfl hl.1 (Nat.le_of_ble_eq_true rfl) ⟨by omega, by omega⟩ ⟨by omega, by omega⟩ dL_law_532 fun H1 locs1 hL => ?_
        refine lv_iadd hx hb dL_law_535 ?_
        refine lv_istore (lv' := [(21, .int ((row_t (fun k => u 180 (6 * k + a)) i) + (u 180 (6 * i + a)))), (20, .int ((row_t (fun k => u 180 (6 * a + k)) i) + (u 180 (6 * a + i)))), (24, .int x), (23, .int (u 180 (6 * a + i))), (22, .int (nI i)), (19, .int (nI a)), (18, .int e18), (17, .int e17), (16, .int e16), (15, .int e15), (14, .int e14), (13, .int e13), (12, .int e12), (11, .int x9), (10, .int (nI t9)), (9, .ref (Γ.2.1 + kw)), (8, .int A9), (7, .int (nI O)), (6, .int (nI G)), (5, .int (nI L)), (4, .int (nI M)), (3, .ref (b2 + 0)), (2, .ref (Γ.2.1 + ks)), (1, .ref (Γ.2.1 + kb)), (0, .ref b0)]) hx hb dL_law_536 hl (by decide) rfl fun ls hl => ?_
        refine lv_iinc (k := 4) (v := ((nI i) + 1)) (lv' := [(22, .int ((nI i) + 1)), (21, .int ((row_t (fun k => u 180 (6 * k + a)) i) + (u 180 (6 * i + a)))), (20, .int ((row_t (fun k => u 180 (6 * a + k)) i) + (u 180 (6 * a + i)))), (24, .int x), (23, .int (u 180 (6 * a + i))), (19, .int (nI a)), (18, .int e18), (17, .int e17), (16, .int e16), (15, .int e15), (14, .int e14), (13, .int e13), (12, .int e12), (11, .int x9), (10, .int (nI t9)), (9, .ref (Γ.2.1 + kw)), (8, .int A9), (7, .int (nI O)), (6, .int (nI G)), (5, .int (nI L)), (4, .int (nI M)), (3, .ref (b2 + 0)), (2, .ref (Γ.2.1 + ks)), (1, .ref (Γ.2.1 + kb)), (0, .ref b0)]) hx hb dL_law_538 hl rfl rfl (by decide) rfl fun ls hl => ?_
        refine lv_goto (tgt := 415) hx hb dL_law_541 rfl ?_
        rw [ni_s] at hl
        refine W.widen (k := c0 + 3 * (i + 1)) (n := s0 + 18 * (i + 1)) (by omega) (by omega) ?_
        exact ih (i + 1) (by omega) _ _ _ ls (lv_sub hl [0, 1, 2, 5, 6, 7, 8, 9, 10, 11, 12, 13, 14, 15, 16, 17, 18, 19, 20, 21, 22, 23, 24] rfl) hL
      · refine lv_if_le (tgt := 488) hx hb dL_law_481 rfl (fun _ => ?_) (fun q => absurd (Int32.not_lt.mp hpo) q)
        refine lv_iconst (v := 0) hx hb dL_law_488 rfl ?_
        refine lv_iload hx hb dL_law_489 (lv_at hl 0 rfl) ?_
        refine lv_iconst (v := 1) hx hb dL_law_491 rfl ?_
        refine lv_icmp_ne (tgt := 499) hx hb dL_law_492 rfl (fun _ => ?_) (fun q => absurd q (fun h => hpo (hone.mp h)))
        refine lv_iconst (v := 0) hx hb dL_law_499 rfl ?_
        refine lv_icmp_ne (tgt := 516) hx hb dL_law_500 rfl (fun q => absurd rfl q) (fun _ => ?_)
        refine lv_iload hx hb dL_law_503 (lv_at hl 0 rfl) ?_
        refine lv_iconst (v := (-1)) hx hb dL_law_505 rfl ?_
        refine lv_icmp_lt (tgt := 516) hx hb dL_law_506 rfl (fun q => absurd q hr1) (fun _ => ?_)
        refine lv_iload hx hb dL_law_509 (lv_at hl 0 rfl) ?_
        refine lv_iload hx hb dL_law_511 (lv_at hl 20 rfl) ?_
        refine lv_icmp_lt (tgt := 518) hx hb dL_law_513 rfl (fun _ => ?_) (fun q => absurd hr2 q)
        refine lv_iload hx hb dL_law_518 (lv_at hl 4 rfl) ?_
        refine lv_iload hx hb dL_law_520 (lv_at hl 1 rfl) ?_
        refine lv_iadd hx hb dL_law_522 ?_
        refine lv_istore (lv' := [(20, .int ((row_t (fun k => u 180 (6 * a + k)) i) + (u 180 (6 * a + i)))), (24, .int x), (23, .int (u 180 (6 * a + i))), (22, .int (nI i)), (21, .int (row_t (fun k => u 180 (6 * k + a)) i)), (19, .int (nI a)), (18, .int e18), (17, .int e17), (16, .int e16), (15, .int e15), (14, .int e14), (13, .int e13), (12, .int e12), (11, .int x9), (10, .int (nI t9)), (9, .ref (Γ.2.1 + kw)), (8, .int A9), (7, .int (nI O)), (6, .int (nI G)), (5, .int (nI L)), (4, .int (nI M)), (3, .ref (b2 + 0)), (2, .ref (Γ.2.1 + ks)), (1, .ref (Γ.2.1 + kb)), (0, .ref b0)]) hx hb dL_law_523 hl (by decide) rfl fun ls hl => ?_
        refine lv_iload hx hb dL_law_525 (lv_at hl 4 rfl) ?_
        refine lv_aload_n hx hb dL_law_527 rfl (lv_at hl 21 rfl) ?_
        refine lv_iload hx hb dL_law_528 (lv_at hl 3 rfl) ?_
        refine lv_iload hx hb dL_law_530 (lv_at hl 5 rfl) ?_
        refine y_c0 hX hL (fun nb => c_Quay_owes hkq hEX hlt (q_owes hL.qi hi ha)) kX11_owes xlL_258 rfl rfl rfl hl.1 (Nat.le_of_ble_eq_true rfl) ⟨by omega, by omega⟩ ⟨by omega, by omega⟩ dL_law_532 fun H1 locs1 hL => ?_
        refine lv_iadd hx hb dL_law_535 ?_
        refine lv_istore (lv' := [(21, .int ((row_t (fun k => u 180 (6 * k + a)) i) + (u 180 (6 * i + a)))), (20, .int ((row_t (fun k => u 180 (6 * a + k)) i) + (u 180 (6 * a + i)))), (24, .int x), (23, .int (u 180 (6 * a + i))), (22, .int (nI i)), (19, .int (nI a)), (18, .int e18), (17, .int e17), (16, .int e16), (15, .int e15), (14, .int e14), (13, .int e13), (12, .int e12), (11, .int x9), (10, .int (nI t9)), (9, .ref (Γ.2.1 + kw)), (8, .int A9), (7, .int (nI O)), (6, .int (nI G)), (5, .int (nI L)), (4, .int (nI M)), (3, .ref (b2 + 0)), (2, .ref (Γ.2.1 + ks)), (1, .ref (Γ.2.1 + kb)), (0, .ref b0)]) hx hb dL_law_536 hl (by decide) rfl fun ls hl => ?_
        refine lv_iinc (k := 4) (v := ((nI i) + 1)) (lv' := [(22, .int ((nI i) + 1)), (21, .int ((row_t (fun k => u 180 (6 * k + a)) i) + (u 180 (6 * i + a)))), (20, .int ((row_t (fun k => u 180 (6 * a + k)) i) + (u 180 (6 * a + i)))), (24, .int x), (23, .int (u 180 (6 * a + i))), (19, .int (nI a)), (18, .int e18), (17, .int e17), (16, .int e16), (15, .int e15), (14, .int e14), (13, .int e13), (12, .int e12), (11, .int x9), (10, .int (nI t9)), (9, .ref (Γ.2.1 + kw)), (8, .int A9), (7, .int (nI O)), (6, .int (nI G)), (5, .int (nI L)), (4, .int (nI M)), (3, .ref (b2 + 0)), (2, .ref (Γ.2.1 + ks)), (1, .ref (Γ.2.1 + kb)), (0, .ref b0)]) hx hb dL_law_538 hl rfl rfl (by decide) rfl fun ls hl => ?_
        refine lv_goto (tgt := 415) hx hb dL_law_541 rfl ?_
        rw [ni_s] at hl
        refine W.widen (k := c0 + 3 * (i + 1)) (n := s0 + 18 * (i + 1)) (by omega) (by omega) ?_
        exact ih (i + 1) (by omega) _ _ _ ls (lv_sub hl [0, 1, 2, 5, 6, 7, 8, 9, 10, 11, 12, 13, 14, 15, 16, 17, 18, 19, 20, 21, 22, 23, 24] rfl) hL
theorem lw_mers (hX : XM Γ b2 p l s m args c cL_law 31 RL shb) (hFR : 14 ≤ R.frames ∧ 560 ≤ R.locals) (hroom : c0 + 30 * M ≤ R.cells ∧ s0 + 180 * M ≤ R.slots)
    (kk : ∀ (vb : Va) (H1 : Heap) (locs1 : List Loc) (ls : Array Slot), lv_has ls 31 [(18, .int (row_t (u 179) M)), (17, .int (row_t (fun z => mU u L z 5) M)), (16, .int (row_t (fun z => mU u L z 4) M)), (15, .int (row_t (fun z => row_t (fun k => u 180 (6 * z + k)) M) M)), (14, .int e14), (13, .int e13), (12, .int e12), (11, .int x9), (10, .int (nI t9)), (9, .ref (Γ.2.1 + kw)), (8, .int A9), (7, .int (nI O)), (6, .int (nI G)), (5, .int (nI L)), (4, .int (nI M)), (3, .ref (b2 + 0)), (2, .ref (Γ.2.1 + ks)), (1, .ref (Γ.2.1 + kb)), (0, .ref b0)] → DL Γ b2 s w wb shb sh0 n0 ks pA pB S G M L O u u P sh v n vb H1 locs1 → W p l e R s m args below meth c H1 locs1 (c0 + 30 * M) (s0 + 180 * M) Q (F0 m 654 ls [])) :
    ∀ (j a : Nat), a + j = M → ∀ (vb : Va) (H1 : Heap) (locs1 : List Loc) (ls : Array Slot), lv_has ls 31 [(19, .int (nI a)), (18, .int (row_t (u 179) a)), (17, .int (row_t (fun z => mU u L z 5) a)), (16, .int (row_t (fun z => mU u L z 4) a)), (15, .int (row_t (fun z => row_t (fun k => u 180 (6 * z + k)) M) a)), (14, .int e14), (13, .int e13), (12, .int e12), (11, .int x9), (10, .int (nI t9)), (9, .ref (Γ.2.1 + kw)), (8, .int A9), (7, .int (nI O)), (6, .int (nI G)), (5, .int (nI L)), (4, .int (nI M)), (3, .ref (b2 + 0)), (2, .ref (Γ.2.1 + ks)), (1, .ref (Γ.2.1 + kb)), (0, .ref b0)] → DL Γ b2 s w wb shb sh0 n0 ks pA pB S G M L O u u P sh v n vb H1 locs1 → W p l e R s m args below meth c H1 locs1 (c0 + 30 * a) (s0 + 180 * a) Q (F0 m 399 ls []) := by
  obtain ⟨hx, hb, hml, hts, hown, hK, hE, hb2, hkq, hEX, hlt, -⟩ := (⟨hX.1, hX.2.1, hX.2.2.1, hX.2.2.2.1, hX.2.2.2.2.1, hX.2.2.2.2.2.1, hX.2.2.2.2.2.2.1, hX.2.2.2.2.2.2.2.1, hX.2.2.2.2.2.2.2.2.1, hX.2.2.2.2.2.2.2.2.2.1, hX.2.2.2.2.2.2.2.2.2.2, trivial⟩ : _ ∧ _ ∧ _ ∧ _ ∧ _ ∧ _ ∧ _ ∧ _ ∧ _ ∧ _ ∧ _ ∧ True)
  intro j
  induction j with
  | zero =>
    intro a hij vb H1 locs1 ls hl hL
    have hi : a = M := by omega
    rw [hi] at hl ⊢
    refine lv_iload hx hb dL_law_399 (lv_at hl 0 rfl) ?_
    refine lv_iload hx hb dL_law_401 (lv_at hl 15 rfl) ?_
    refine lv_icmp_ge (tgt := 654) hx hb dL_law_403 rfl (fun _ => ?_) (fun q => absurd (Int32.le_refl _) q)
    exact kk vb H1 locs1 ls (lv_sub hl [1, 2, 3, 4, 5, 6, 7, 8, 9, 10, 11, 12, 13, 14, 15, 16, 17, 18, 19] rfl) hL
  | succ j ih =>
    intro a hij vb H1 locs1 ls hl hL
    have ha : a < M := by omega
    have hB := hL.qi.2.2.2.2.2.1
    have hM6 : M ≤ 6 := hB.2.2.1
    have hID : ID (u 180) M := hL.qi.2.2.2.1.2.2.2.2.1
    have hIC : IC (u 179) := hL.qi.2.2.2.1.2.2.2.1
    obtain ⟨d1, d2, d3⟩ := row_t_int (f := fun b => u 180 (6 * a + b)) 6 (by omega) (fun b hb => ⟨(hID a b (by omega) hb).1, by have := (hID a b (by omega) hb).2.1; omega⟩)
    obtain ⟨d4, d5, d6⟩ := row_t_int (f := fun b => u 180 (6 * b + a)) 6 (by omega) (fun b hb => ⟨(hID b a hb (by omega)).1, by have := (hID b a hb (by omega)).2.1; omega⟩)
    have z1 := row_z6 hID hM6 ha
    have z2 := col_z6 hID hM6 ha
    refine lv_iload hx hb dL_law_399 (lv_at hl 0 rfl) ?_
    refine lv_iload hx hb dL_law_401 (lv_at hl 15 rfl) ?_
    refine lv_icmp_ge (tgt := 654) hx hb dL_law_403 rfl (fun q => absurd ((le_n (i := M) (j := a) (by omega) (by omega)).mp q) (by omega)) (fun _ => ?_)
    refine lv_iconst (v := 0) hx hb dL_law_406 rfl ?_
    refine lv_istore (lv' := [(20, .int 0), (19, .int (nI a)), (18, .int (row_t (u 179) a)), (17, .int (row_t (fun z => mU u L z 5) a)), (16, .int (row_t (fun z => mU u L z 4) a)), (15, .int (row_t (fun z => row_t (fun k => u 180 (6 * z + k)) M) a)), (14, .int e14), (13, .int e13), (12, .int e12), (11, .int x9), (10, .int (nI t9)), (9, .ref (Γ.2.1 + kw)), (8, .int A9), (7, .int (nI O)), (6, .int (nI G)), (5, .int (nI L)), (4, .int (nI M)), (3, .ref (b2 + 0)), (2, .ref (Γ.2.1 + ks)), (1, .ref (Γ.2.1 + kb)), (0, .ref b0)]) hx hb dL_law_407 hl (by decide) rfl fun ls hl => ?_
    refine lv_iconst (v := 0) hx hb dL_law_409 rfl ?_
    refine lv_istore (lv' := [(21, .int 0), (20, .int 0), (19, .int (nI a)), (18, .int (row_t (u 179) a)), (17, .int (row_t (fun z => mU u L z 5) a)), (16, .int (row_t (fun z => mU u L z 4) a)), (15, .int (row_t (fun z => row_t (fun k => u 180 (6 * z + k)) M) a)), (14, .int e14), (13, .int e13), (12, .int e12), (11, .int x9), (10, .int (nI t9)), (9, .ref (Γ.2.1 + kw)), (8, .int A9), (7, .int (nI O)), (6, .int (nI G)), (5, .int (nI L)), (4, .int (nI M)), (3, .ref (b2 + 0)), (2, .ref (Γ.2.1 + ks)), (1, .ref (Γ.2.1 + kb)), (0, .ref b0)]) hx hb dL_law_410 hl (by decide) rfl fun ls hl => ?_
    refine lv_iconst (v := 0) hx hb dL_law_412 rfl ?_
    refine lv_istore (lv' := [(22, .int 0), (21, .int 0), (20, .int 0), (19, .int (nI a)), (18, .int (row_t (u 179) a)), (17, .int (row_t (fun z => mU u L z 5) a)), (16, .int (row_t (fun z => mU u L z 4) a)), (15, .int (row_t (fun z => row_t (fun k => u 180 (6 * z + k)) M) a)), (14, .int e14), (13, .int e13), (12, .int e12), (11, .int x9), (10, .int (nI t9)), (9, .ref (Γ.2.1 + kw)), (8, .int A9), (7, .int (nI O)), (6, .int (nI G)), (5, .int (nI L)), (4, .int (nI M)), (3, .ref (b2 + 0)), (2, .ref (Γ.2.1 + ks)), (1, .ref (Γ.2.1 + kb)), (0, .ref b0)]) hx hb dL_law_413 hl (by decide) rfl fun ls hl => ?_
    refine lw_own (c0 := c0 + 30 * a) (s0 := s0 + 180 * a) hX hFR ha ⟨by omega, by omega⟩ (fun vb H1 locs1 ls hl hL => ?_) M 0 (by omega) _ _ _ ls (lv_sub hl [0, 1, 2, 3, 4, 5, 6, 7, 8, 9, 10, 11, 12, 13, 14, 15, 16, 17, 18, 19, 20, 21, 22] rfl) hL
    obtain ⟨x, v2, hr1, hr2, hr3⟩ := q_ring hL.qi (by omega) ha
    refine lv_aload_n hx hb dL_law_544 rfl (lv_at hl 18 rfl) ?_
    refine lv_iload hx hb dL_law_545 (lv_at hl 2 rfl) ?_
    refine y_c1 hX hL hr2 (fun nb => c_Quay_ring hkq hEX hlt hr1) kX11_ring xlL_264 rfl rfl rfl hl.1 (Nat.le_of_ble_eq_true rfl) ⟨by omega, by omega⟩ ⟨by omega, by omega⟩ dL_law_547 fun H1 locs1 hL => ?_
    obtain ⟨x1, -, -, x2, x3⟩ := hr3
    refine lv_istore (lv' := [(22, .int x), (21, .int (row_t (fun k => u 180 (6 * k + a)) M)), (20, .int (row_t (fun k => u 180 (6 * a + k)) M)), (19, .int (nI a)), (18, .int (row_t (u 179) a)), (17, .int (row_t (fun z => mU u L z 5) a)), (16, .int (row_t (fun z => mU u L z 4) a)), (15, .int (row_t (fun z => row_t (fun k => u 180 (6 * z + k)) M) a)), (14, .int e14), (13, .int e13), (12, .int e12), (11, .int x9), (10, .int (nI t9)), (9, .ref (Γ.2.1 + kw)), (8, .int A9), (7, .int (nI O)), (6, .int (nI G)), (5, .int (nI L)), (4, .int (nI M)), (3, .ref (b2 + 0)), (2, .ref (Γ.2.1 + ks)), (1, .ref (Γ.2.1 + kb)), (0, .ref b0)]) hx hb dL_law_550 hl (by decide) rfl fun ls hl => ?_
    refine lv_aload_n hx hb dL_law_552 rfl (lv_at hl 19 rfl) ?_
    refine lv_iload hx hb dL_law_553 (lv_at hl 3 rfl) ?_
    refine lv_iconst (v := 0) hx hb dL_law_555 rfl ?_
    refine y_c0 hX hL (fun nb => c_Quay_merchant hkq hEX hlt (q_mer hL.qi (by omega) ha (w := 0) (by omega))) kX11_merchant xlL_267 rfl rfl rfl hl.1 (Nat.le_of_ble_eq_true rfl) ⟨by omega, by omega⟩ ⟨by omega, by omega⟩ dL_law_556 fun H1 locs1 hL => ?_
    refine lv_if_lt (tgt := 603) hx hb dL_law_559 rfl (fun q => absurd (Int32.lt_iff_toInt_lt.mp q) (by rw [show (0 : Int32).toInt = 0 from rfl, show mU u L a 0 = u 179 a from rfl]; have := hIC.1 a (by omega); omega)) (fun _ => ?_)
    refine lv_aload_n hx hb dL_law_562 rfl (lv_at hl 19 rfl) ?_
    refine lv_iload hx hb dL_law_563 (lv_at hl 3 rfl) ?_
    refine lv_iconst (v := 2) hx hb dL_law_565 rfl ?_
    refine y_c0 hX hL (fun nb => c_Quay_merchant hkq hEX hlt (q_mer hL.qi (by omega) ha (w := 2) (by omega))) kX11_merchant xlL_267 rfl rfl rfl hl.1 (Nat.le_of_ble_eq_true rfl) ⟨by omega, by omega⟩ ⟨by omega, by omega⟩ dL_law_566 fun H1 locs1 hL => ?_
    refine lv_iload hx hb dL_law_569 (lv_at hl 2 rfl) ?_
    refine lv_icmp_ne (tgt := 603) hx hb dL_law_571 rfl (fun q => absurd ((show mU u L a 2 = row_t (fun b => u 180 (6 * a + b)) 6 from rfl).trans z1) q) (fun _ => ?_)
    refine lv_aload_n hx hb dL_law_574 rfl (lv_at hl 19 rfl) ?_
    refine lv_iload hx hb dL_law_575 (lv_at hl 3 rfl) ?_
    refine lv_iconst (v := 3) hx hb dL_law_577 rfl ?_
    refine y_c0 hX hL (fun nb => c_Quay_merchant hkq hEX hlt (q_mer hL.qi (by omega) ha (w := 3) (by omega))) kX11_merchant xlL_267 rfl rfl rfl hl.1 (Nat.le_of_ble_eq_true rfl) ⟨by omega, by omega⟩ ⟨by omega, by omega⟩ dL_law_578 fun H1 locs1 hL => ?_
    refine lv_iload hx hb dL_law_581 (lv_at hl 1 rfl) ?_
    refine lv_icmp_ne (tgt := 603) hx hb dL_law_583 rfl (fun q => absurd ((show mU u L a 3 = row_t (fun b => u 180 (6 * b + a)) 6 from rfl).trans z2) q) (fun _ => ?_)
    refine lv_iload hx hb dL_law_586 (lv_at hl 0 rfl) ?_
    refine lv_if_lt (tgt := 603) hx hb dL_law_588 rfl (fun q => absurd (Int32.lt_iff_toInt_lt.mp q) (by rw [show (0 : Int32).toInt = 0 from rfl]; omega)) (fun _ => ?_)
    refine lv_iload hx hb dL_law_591 (lv_at hl 0 rfl) ?_
    refine lv_iload hx hb dL_law_593 (lv_at hl 2 rfl) ?_
    refine lv_iload hx hb dL_law_595 (lv_at hl 1 rfl) ?_
    refine z_mmin hx hb hml hl.1 hts hown xL_219 ⟨by omega, by omega⟩ (Nat.le_of_ble_eq_true rfl) ⟨by omega, by omega⟩ dL_law_597 ?_
    refine lv_icmp_le (tgt := 605) hx hb dL_law_600 rfl (fun _ => ?_) (fun q => absurd (show x ≤ q_min (row_t (fun k => u 180 (6 * a + k)) M) (row_t (fun k => u 180 (6 * k + a)) M) from t_le.mpr (by rw [t_min, ← z1, ← z2, d1, d4]; omega)) q)
    refine lv_iload hx hb dL_law_605 (lv_at hl 7 rfl) ?_
    refine lv_iload hx hb dL_law_607 (lv_at hl 2 rfl) ?_
    refine lv_iadd hx hb dL_law_609 ?_
    refine lv_istore (lv' := [(15, .int ((row_t (fun z => row_t (fun k => u 180 (6 * z + k)) M) a) + (row_t (fun k => u 180 (6 * a + k)) M))), (22, .int x), (21, .int (row_t (fun k => u 180 (6 * k + a)) M)), (20, .int (row_t (fun k => u 180 (6 * a + k)) M)), (19, .int (nI a)), (18, .int (row_t (u 179) a)), (17, .int (row_t (fun z => mU u L z 5) a)), (16, .int (row_t (fun z => mU u L z 4) a)), (14, .int e14), (13, .int e13), (12, .int e12), (11, .int x9), (10, .int (nI t9)), (9, .ref (Γ.2.1 + kw)), (8, .int A9), (7, .int (nI O)), (6, .int (nI G)), (5, .int (nI L)), (4, .int (nI M)), (3, .ref (b2 + 0)), (2, .ref (Γ.2.1 + ks)), (1, .ref (Γ.2.1 + kb)), (0, .ref b0)]) hx hb dL_law_610 hl (by decide) rfl fun ls hl => ?_
    refine lv_iload hx hb dL_law_612 (lv_at hl 7 rfl) ?_
    refine lv_aload_n hx hb dL_law_614 rfl (lv_at hl 19 rfl) ?_
    refine lv_iload hx hb dL_law_615 (lv_at hl 4 rfl) ?_
    refine lv_iconst (v := 4) hx hb dL_law_617 rfl ?_
    refine y_c0 hX hL (fun nb => c_Quay_merchant hkq hEX hlt (q_mer hL.qi (by omega) ha (w := 4) (by omega))) kX11_merchant xlL_267 rfl rfl rfl hl.1 (Nat.le_of_ble_eq_true rfl) ⟨by omega, by omega⟩ ⟨by omega, by omega⟩ dL_law_618 fun H1 locs1 hL => ?_
    refine lv_iadd hx hb dL_law_621 ?_
    refine lv_istore (lv' := [(16, .int ((row_t (fun z => mU u L z 4) a) + (mU u L a 4))), (15, .int ((row_t (fun z => row_t (fun k => u 180 (6 * z + k)) M) a) + (row_t (fun k => u 180 (6 * a + k)) M))), (22, .int x), (21, .int (row_t (fun k => u 180 (6 * k + a)) M)), (20, .int (row_t (fun k => u 180 (6 * a + k)) M)), (19, .int (nI a)), (18, .int (row_t (u 179) a)), (17, .int (row_t (fun z => mU u L z 5) a)), (14, .int e14), (13, .int e13), (12, .int e12), (11, .int x9), (10, .int (nI t9)), (9, .ref (Γ.2.1 + kw)), (8, .int A9), (7, .int (nI O)), (6, .int (nI G)), (5, .int (nI L)), (4, .int (nI M)), (3, .ref (b2 + 0)), (2, .ref (Γ.2.1 + ks)), (1, .ref (Γ.2.1 + kb)), (0, .ref b0)]) hx hb dL_law_622 hl (by decide) rfl fun ls hl => ?_
    refine lv_iload hx hb dL_law_624 (lv_at hl 7 rfl) ?_
    refine lv_aload_n hx hb dL_law_626 rfl (lv_at hl 19 rfl) ?_
    refine lv_iload hx hb dL_law_627 (lv_at hl 5 rfl) ?_
    refine lv_iconst (v := 5) hx hb dL_law_629 rfl ?_
    refine y_c0 hX hL (fun nb => c_Quay_merchant hkq hEX hlt (q_mer hL.qi (by omega) ha (w := 5) (by omega))) kX11_merchant xlL_267 rfl rfl rfl hl.1 (Nat.le_of_ble_eq_true rfl) ⟨by omega, by omega⟩ ⟨by omega, by omega⟩ dL_law_630 fun H1 locs1 hL => ?_
    refine lv_iadd hx hb dL_law_633 ?_
    refine lv_istore (lv' := [(17, .int ((row_t (fun z => mU u L z 5) a) + (mU u L a 5))), (16, .int ((row_t (fun z => mU u L z 4) a) + (mU u L a 4))), (15, .int ((row_t (fun z => row_t (fun k => u 180 (6 * z + k)) M) a) + (row_t (fun k => u 180 (6 * a + k)) M))), (22, .int x), (21, .int (row_t (fun k => u 180 (6 * k + a)) M)), (20, .int (row_t (fun k => u 180 (6 * a + k)) M)), (19, .int (nI a)), (18, .int (row_t (u 179) a)), (14, .int e14), (13, .int e13), (12, .int e12), (11, .int x9), (10, .int (nI t9)), (9, .ref (Γ.2.1 + kw)), (8, .int A9), (7, .int (nI O)), (6, .int (nI G)), (5, .int (nI L)), (4, .int (nI M)), (3, .ref (b2 + 0)), (2, .ref (Γ.2.1 + ks)), (1, .ref (Γ.2.1 + kb)), (0, .ref b0)]) hx hb dL_law_634 hl (by decide) rfl fun ls hl => ?_
    refine lv_iload hx hb dL_law_636 (lv_at hl 7 rfl) ?_
    refine lv_aload_n hx hb dL_law_638 rfl (lv_at hl 19 rfl) ?_
    refine lv_iload hx hb dL_law_639 (lv_at hl 6 rfl) ?_
    refine lv_iconst (v := 0) hx hb dL_law_641 rfl ?_
    refine y_c0 hX hL (fun nb => c_Quay_merchant hkq hEX hlt (q_mer hL.qi (by omega) ha (w := 0) (by omega))) kX11_merchant xlL_267 rfl rfl rfl hl.1 (Nat.le_of_ble_eq_true rfl) ⟨by omega, by omega⟩ ⟨by omega, by omega⟩ dL_law_642 fun H1 locs1 hL => ?_
    refine lv_iadd hx hb dL_law_645 ?_
    refine lv_istore (lv' := [(18, .int ((row_t (u 179) a) + (u 179 a))), (17, .int ((row_t (fun z => mU u L z 5) a) + (mU u L a 5))), (16, .int ((row_t (fun z => mU u L z 4) a) + (mU u L a 4))), (15, .int ((row_t (fun z => row_t (fun k => u 180 (6 * z + k)) M) a) + (row_t (fun k => u 180 (6 * a + k)) M))), (22, .int x), (21, .int (row_t (fun k => u 180 (6 * k + a)) M)), (20, .int (row_t (fun k => u 180 (6 * a + k)) M)), (19, .int (nI a)), (14, .int e14), (13, .int e13), (12, .int e12), (11, .int x9), (10, .int (nI t9)), (9, .ref (Γ.2.1 + kw)), (8, .int A9), (7, .int (nI O)), (6, .int (nI G)), (5, .int (nI L)), (4, .int (nI M)), (3, .ref (b2 + 0)), (2, .ref (Γ.2.1 + ks)), (1, .ref (Γ.2.1 + kb)), (0, .ref b0)]) hx hb dL_law_646 hl (by decide) rfl fun ls hl => ?_
    refine lv_iinc (k := 7) (v := ((nI a) + 1)) (lv' := [(19, .int ((nI a) + 1)), (18, .int ((row_t (u 179) a) + (u 179 a))), (17, .int ((row_t (fun z => mU u L z 5) a) + (mU u L a 5))), (16, .int ((row_t (fun z => mU u L z 4) a) + (mU u L a 4))), (15, .int ((row_t (fun z => row_t (fun k => u 180 (6 * z + k)) M) a) + (row_t (fun k => u 180 (6 * a + k)) M))), (22, .int x), (21, .int (row_t (fun k => u 180 (6 * k + a)) M)), (20, .int (row_t (fun k => u 180 (6 * a + k)) M)), (14, .int e14), (13, .int e13), (12, .int e12), (11, .int x9), (10, .int (nI t9)), (9, .ref (Γ.2.1 + kw)), (8, .int A9), (7, .int (nI O)), (6, .int (nI G)), (5, .int (nI L)), (4, .int (nI M)), (3, .ref (b2 + 0)), (2, .ref (Γ.2.1 + ks)), (1, .ref (Γ.2.1 + kb)), (0, .ref b0)]) hx hb dL_law_648 hl rfl rfl (by decide) rfl fun ls hl => ?_
    refine lv_goto (tgt := 399) hx hb dL_law_651 rfl ?_
    rw [ni_s] at hl
    refine W.widen (k := c0 + 30 * (a + 1)) (n := s0 + 180 * (a + 1)) (by omega) (by omega) ?_
    exact ih (a + 1) (by omega) _ _ _ ls (lv_sub hl [0, 1, 2, 3, 4, 8, 9, 10, 11, 12, 13, 14, 15, 16, 17, 18, 19, 20, 21, 22] rfl) hL
theorem lw_mer (hX : XM Γ b2 p l s m args c cL_law 31 RL shb) (hFR : 14 ≤ R.frames ∧ 560 ≤ R.locals) (hLI : LI u S G M L O T B) (hT : T ≤ 59994) (hA9 : A9.toInt = T) (hroom : c0 + 200 ≤ R.cells ∧ s0 + 1200 ≤ R.slots)
    (kk : ∀ (vb : Va) (H1 : Heap) (locs1 : List Loc) (ls : Array Slot), lv_has ls 31 [(11, .int x9), (10, .int (nI t9)), (9, .ref (Γ.2.1 + kw)), (8, .int A9), (7, .int (nI O)), (6, .int (nI G)), (5, .int (nI L)), (4, .int (nI M)), (3, .ref (b2 + 0)), (2, .ref (Γ.2.1 + ks)), (1, .ref (Γ.2.1 + kb)), (0, .ref b0)] → DL Γ b2 s w wb shb sh0 n0 ks pA pB S G M L O u u P sh v n vb H1 locs1 → W p l e R s m args below meth c H1 locs1 (c0 + 200) (s0 + 1200) Q (F0 m 713 ls []))
    (hl : lv_has ls 31 [(14, .int (row_t (fun k => if u 176 k = -1 then 0 else 1) L)), (13, .int (row_t (fun g => gU u L g 3) G)), (12, .int (row_t (u 181) G)), (11, .int x9), (10, .int (nI t9)), (9, .ref (Γ.2.1 + kw)), (8, .int A9), (7, .int (nI O)), (6, .int (nI G)), (5, .int (nI L)), (4, .int (nI M)), (3, .ref (b2 + 0)), (2, .ref (Γ.2.1 + ks)), (1, .ref (Γ.2.1 + kb)), (0, .ref b0)]) (hL : DL Γ b2 s w wb shb sh0 n0 ks pA pB S G M L O u u P sh v n vb H locs) : W p l e R s m args below meth c H locs c0 s0 Q (F0 m 384 ls []) := by
  obtain ⟨hx, hb, hml, hts, hown, hK, hE, hb2, hkq, hEX, hlt, -⟩ := (⟨hX.1, hX.2.1, hX.2.2.1, hX.2.2.2.1, hX.2.2.2.2.1, hX.2.2.2.2.2.1, hX.2.2.2.2.2.2.1, hX.2.2.2.2.2.2.2.1, hX.2.2.2.2.2.2.2.2.1, hX.2.2.2.2.2.2.2.2.2.1, hX.2.2.2.2.2.2.2.2.2.2, trivial⟩ : _ ∧ _ ∧ _ ∧ _ ∧ _ ∧ _ ∧ _ ∧ _ ∧ _ ∧ _ ∧ _ ∧ True)
  have hB := hL.qi.2.2.2.2.2.1
  have hM6 : M ≤ 6 := hB.2.2.1
  have hIS := hL.qi.2.2.2.1
  have hID : ID (u 180) M := hIS.2.2.2.2.1
  have hIQ : IQ (u 175) L M := hIS.2.1
  refine lv_iconst (v := 0) hx hb dL_law_384 rfl ?_
  refine lv_istore (lv' := [(15, .int 0), (14, .int (row_t (fun k => if u 176 k = -1 then 0 else 1) L)), (13, .int (row_t (fun g => gU u L g 3) G)), (12, .int (row_t (u 181) G)), (11, .int x9), (10, .int (nI t9)), (9, .ref (Γ.2.1 + kw)), (8, .int A9), (7, .int (nI O)), (6, .int (nI G)), (5, .int (nI L)), (4, .int (nI M)), (3, .ref (b2 + 0)), (2, .ref (Γ.2.1 + ks)), (1, .ref (Γ.2.1 + kb)), (0, .ref b0)]) hx hb dL_law_385 hl (by decide) rfl fun ls hl => ?_
  refine lv_iconst (v := 0) hx hb dL_law_387 rfl ?_
  refine lv_istore (lv' := [(16, .int 0), (15, .int 0), (14, .int (row_t (fun k => if u 176 k = -1 then 0 else 1) L)), (13, .int (row_t (fun g => gU u L g 3) G)), (12, .int (row_t (u 181) G)), (11, .int x9), (10, .int (nI t9)), (9, .ref (Γ.2.1 + kw)), (8, .int A9), (7, .int (nI O)), (6, .int (nI G)), (5, .int (nI L)), (4, .int (nI M)), (3, .ref (b2 + 0)), (2, .ref (Γ.2.1 + ks)), (1, .ref (Γ.2.1 + kb)), (0, .ref b0)]) hx hb dL_law_388 hl (by decide) rfl fun ls hl => ?_
  refine lv_iconst (v := 0) hx hb dL_law_390 rfl ?_
  refine lv_istore (lv' := [(17, .int 0), (16, .int 0), (15, .int 0), (14, .int (row_t (fun k => if u 176 k = -1 then 0 else 1) L)), (13, .int (row_t (fun g => gU u L g 3) G)), (12, .int (row_t (u 181) G)), (11, .int x9), (10, .int (nI t9)), (9, .ref (Γ.2.1 + kw)), (8, .int A9), (7, .int (nI O)), (6, .int (nI G)), (5, .int (nI L)), (4, .int (nI M)), (3, .ref (b2 + 0)), (2, .ref (Γ.2.1 + ks)), (1, .ref (Γ.2.1 + kb)), (0, .ref b0)]) hx hb dL_law_391 hl (by decide) rfl fun ls hl => ?_
  refine lv_iconst (v := 0) hx hb dL_law_393 rfl ?_
  refine lv_istore (lv' := [(18, .int 0), (17, .int 0), (16, .int 0), (15, .int 0), (14, .int (row_t (fun k => if u 176 k = -1 then 0 else 1) L)), (13, .int (row_t (fun g => gU u L g 3) G)), (12, .int (row_t (u 181) G)), (11, .int x9), (10, .int (nI t9)), (9, .ref (Γ.2.1 + kw)), (8, .int A9), (7, .int (nI O)), (6, .int (nI G)), (5, .int (nI L)), (4, .int (nI M)), (3, .ref (b2 + 0)), (2, .ref (Γ.2.1 + ks)), (1, .ref (Γ.2.1 + kb)), (0, .ref b0)]) hx hb dL_law_394 hl (by decide) rfl fun ls hl => ?_
  refine lv_iconst (v := 0) hx hb dL_law_396 rfl ?_
  refine lv_istore (lv' := [(19, .int 0), (18, .int 0), (17, .int 0), (16, .int 0), (15, .int 0), (14, .int (row_t (fun k => if u 176 k = -1 then 0 else 1) L)), (13, .int (row_t (fun g => gU u L g 3) G)), (12, .int (row_t (u 181) G)), (11, .int x9), (10, .int (nI t9)), (9, .ref (Γ.2.1 + kw)), (8, .int A9), (7, .int (nI O)), (6, .int (nI G)), (5, .int (nI L)), (4, .int (nI M)), (3, .ref (b2 + 0)), (2, .ref (Γ.2.1 + ks)), (1, .ref (Γ.2.1 + kb)), (0, .ref b0)]) hx hb dL_law_397 hl (by decide) rfl fun ls hl => ?_
  refine W.widen (k := c0 + 30 * 0) (n := s0 + 180 * 0) (by omega) (by omega) ?_
  refine lw_mers hX hFR ⟨by omega, by omega⟩ (fun vb H1 locs1 ls hl hL => ?_) M 0 (by omega) _ _ _ ls (lv_sub hl [0, 1, 2, 3, 4, 5, 6, 7, 8, 9, 10, 11, 12, 13, 14, 15, 16, 17, 18, 19] rfl) hL
  refine lv_iload hx hb dL_law_654 (lv_at hl 3 rfl) ?_
  refine lv_aload_n hx hb dL_law_656 rfl (lv_at hl 15 rfl) ?_
  refine lv_bipush (v := 8) hx hb dL_law_657 rfl ?_
  refine y_c0 hX hL (fun nb => c_Quay_count hkq hEX hlt (q_count hL.qi (by omega) (w := 8) (by omega))) kX11_count xlL_246 rfl rfl rfl hl.1 (Nat.le_of_ble_eq_true rfl) ⟨by omega, by omega⟩ ⟨by omega, by omega⟩ dL_law_659 fun H1 locs1 hL => ?_
  refine lv_icmp_ne (tgt := 711) hx hb dL_law_662 rfl (fun q => absurd ((sum_debts hID hM6).trans (show row_t (u 180) 36 = cU u 8 from rfl)) q) (fun _ => ?_)
  refine lv_iload hx hb dL_law_665 (lv_at hl 2 rfl) ?_
  refine lv_iload hx hb dL_law_667 (lv_at hl 13 rfl) ?_
  refine lv_icmp_ne (tgt := 711) hx hb dL_law_669 rfl (fun q => absurd ((show row_t (fun z => mU u L z 4) M = row_t (fun a => row_t (fun k => if u 175 k = nI a then (1 : Int32) else 0) L) M from rfl).trans ((sum_own hIQ hM6 (f := fun _ => 1)).trans (row_ones L))) q) (fun _ => ?_)
  refine lv_iload hx hb dL_law_672 (lv_at hl 1 rfl) ?_
  refine lv_aload_n hx hb dL_law_674 rfl (lv_at hl 15 rfl) ?_
  refine lv_bipush (v := 7) hx hb dL_law_675 rfl ?_
  refine y_c0 hX hL (fun nb => c_Quay_count hkq hEX hlt (q_count hL.qi (by omega) (w := 7) (by omega))) kX11_count xlL_246 rfl rfl rfl hl.1 (Nat.le_of_ble_eq_true rfl) ⟨by omega, by omega⟩ ⟨by omega, by omega⟩ dL_law_677 fun H1 locs1 hL => ?_
  refine lv_icmp_ne (tgt := 711) hx hb dL_law_680 rfl (fun q => absurd ((show row_t (fun z => mU u L z 5) M = row_t (fun a => row_t (fun k => if u 175 k = nI a then u 174 k else 0) L) M from rfl).trans ((sum_own hIQ hM6 (f := u 174)).trans (row_t_0 10 (by omega) (fun i h1 h2 => hIS.1.2 i h2 h1)).symm)) q) (fun _ => ?_)
  refine lv_iload hx hb dL_law_683 (lv_at hl 0 rfl) ?_
  refine lv_aload_n hx hb dL_law_685 rfl (lv_at hl 15 rfl) ?_
  refine lv_bipush (v := 9) hx hb dL_law_686 rfl ?_
  refine y_c0 hX hL (fun nb => c_Quay_count hkq hEX hlt (q_count hL.qi (by omega) (w := 9) (by omega))) kX11_count xlL_246 rfl rfl rfl hl.1 (Nat.le_of_ble_eq_true rfl) ⟨by omega, by omega⟩ ⟨by omega, by omega⟩ dL_law_688 fun H1 locs1 hL => ?_
  refine lv_icmp_ne (tgt := 711) hx hb dL_law_691 rfl (fun q => absurd (coins_all hM6 hLI.2.2.2.2.2.2.1) q) (fun _ => ?_)
  refine lv_iload hx hb dL_law_694 (lv_at hl 0 rfl) ?_
  refine lv_iload hx hb dL_law_696 (lv_at hl 6 rfl) ?_
  refine lv_iadd hx hb dL_law_698 ?_
  refine lv_iload hx hb dL_law_699 (lv_at hl 10 rfl) ?_
  refine lv_icmp_ne (tgt := 711) hx hb dL_law_701 rfl (fun q => absurd (sum_coins hLI hT hA9) q) (fun _ => ?_)
  refine lv_iload hx hb dL_law_704 (lv_at hl 4 rfl) ?_
  refine lv_iload hx hb dL_law_706 (lv_at hl 5 rfl) ?_
  refine lv_icmp_eq (tgt := 713) hx hb dL_law_708 rfl (fun _ => ?_) (fun q => absurd (sum_bear hIS.2.2.1 hB.2.1).symm q)
  refine W.widen (k := c0 + 200) (n := s0 + 1200) (by omega) (by omega) ?_
  exact kk vb H1 locs1 ls (lv_sub hl [7, 8, 9, 10, 11, 12, 13, 14, 15, 16, 17, 18] rfl) hL
end LB9
