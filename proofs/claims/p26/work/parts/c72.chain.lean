/-! SIM: chain -/
section CZ
variable {p : Program} {l : Launch} {e : Env} {R : Room} {s : State} {m : MethodId} {args : Array Value} {below : List Frame} {meth : Method} {c : Code} {H H0 : Heap} {locs : List Loc} {cells slots : Nat} {Q : State → Prop}
variable {cc : ByteArray} {pc nL : Nat} {ls : Array Slot} {st0 rest As Bs : List Value} {Γ : Cx} {sh sh0 shb : Sh} {v v0 v1 : Va} {w : Vl} {own : String} {idx ci j k n n0 nb nn hh mL mc ms a d1 d2 : Nat} {cs : List Nat} {y : MethodName} {b : ByteArray} {ret : Option FieldType} {A : Nat → Prop}
/-- a row of truths -/
def PRw (M : Nat) (f : Nat → Int32) (P : Nat → Prop) : Prop := ∀ t, t < M → (f t = 1 ∧ P t) ∨ (f t = 0 ∧ ¬ P t)
def pvl (E : Nat → Nat → Int32) (M a n A B t : Nat) : Prop := lvl E M a n t ∨ ∃ b, b < M ∧ (b < A ∨ (b = A ∧ t < B)) ∧ lvl E M a n b ∧ 0 < E b t
theorem PRw.eq {M : Nat} {f : Nat → Int32} {P P' : Nat → Prop} (h : PRw M f P) (e : ∀ t, t < M → (P t ↔ P' t)) : PRw M f P' := fun t ht => (h t ht).elim (fun q => Or.inl ⟨q.1, (e t ht).mp q.2⟩) (fun q => Or.inr ⟨q.1, fun r => q.2 ((e t ht).mpr r)⟩)
theorem PRw.fit {M : Nat} {f : Nat → Int32} {P : Nat → Prop} (h : PRw M f P) : ∀ i, i < M → fits .boolean (.int (f i)) = true := fun i hi => by
  rcases h i hi with ⟨q, -⟩ | ⟨q, -⟩ <;> rw [q] <;> decide
/-- the world of a method that makes arrays: what stood is kept -/
def GWd (Γ : Cx) (s : State) (sh : Sh) (v : Va) (w : Vl) (n : Nat) (sh1 : Sh) (v1 : Va) (n1 : Nat) (H : Heap) (locs : List Loc) : Prop := H.size = Γ.2.1 + n1 ∧ Wd Γ sh1 v1 w H ∧ va_S (gA Γ sh n) s.heap H locs ∧ GR sh n sh1 n1 ∧ ∀ q, q < n → v1 q = v q
def SMX (Γ : Cx) (p : Program) (s : State) (m : MethodId) (args : Array Value) (c : Code) (cc : ByteArray) (nL d1 d2 : Nat) (sh0 : Sh) (n0 : Nat) : Prop := p.tables.exec = Jvm.exec ∧ c.code = cc ∧ c.maxLocals = nL ∧ (∀ w ∈ lw_all, w.before args s = true) ∧ s.vm.findClass RX12 = some m.cls ∧ wK Γ s ∧ EN Γ sh0 n0 s ∧ DM sh0 n0 ∧ EC Γ sh0 d1 d2
variable {ks M r r2 a b : Nat} {pA : Nat → Nat} {pB : Nat → Nat → Nat} {pN : Nat → Nat}
theorem ch_to (hM : SMX Γ p s m args c cX12_chain 8 d1 d2 sh n) (hk : isSim sh ks pA pB pN) (h2 : pN 2 = M) (h3 : pN 3 = M) (hM6 : M ≤ 6) {sh1 : Sh} {n1 : Nat} (hr : n ≤ r) (hr2 : n ≤ r2) (hne : r2 ≠ r) (her : sh1 r = some (sB 2 M)) (her2 : sh1 r2 = some (sB 2 M)) {A : Nat} (hA : A < M) {n9 : Nat}
    (kk : ∀ (v1 : Va) (H1 : Heap) (locs1 : List Loc) (ls : Array Slot), lv_has ls 8 [(6, .int (nI A)), (5, .ref (Γ.2.1 + r2)), (4, .int (nI k)), (3, .ref (Γ.2.1 + r)), (0, .ref (Γ.2.1 + ks)), (1, .int (nI a)), (2, .int (nI b))] → GWd Γ s sh v w n sh1 v1 n1 H1 locs1 → PRw M (v1 r) (lvl (fun b c => v (pB 3 b) c) M a n9) → PRw M (v1 r2) (pvl (fun b c => v (pB 3 b) c) M a n9 (A + 1) 0) → W p l e R s m args below meth c H1 locs1 cells slots Q (F0 m 100 ls [])) :
    ∀ (j B : Nat), B + j = M → ∀ (v1 : Va) (H1 : Heap) (locs1 : List Loc) (ls : Array Slot), lv_has ls 8 [(7, .int (nI B)), (6, .int (nI A)), (5, .ref (Γ.2.1 + r2)), (4, .int (nI k)), (3, .ref (Γ.2.1 + r)), (0, .ref (Γ.2.1 + ks)), (1, .int (nI a)), (2, .int (nI b))] → GWd Γ s sh v w n sh1 v1 n1 H1 locs1 → PRw M (v1 r) (lvl (fun b c => v (pB 3 b) c) M a n9) → PRw M (v1 r2) (pvl (fun b c => v (pB 3 b) c) M a n9 A B) → W p l e R s m args below meth c H1 locs1 cells slots Q (F0 m 54 ls []) := by
  obtain ⟨hx, hb, hml, hts, hown, hK, hE, hd, hC⟩ := id hM
  subst h2
  intro j
  induction j with
  | zero =>
    intro B hij v1 H1 locs1 ls hl hG h1 h2
    have hB : B = pN 2 := by omega
    subst hB
    refine lv_iload hx hb dX12_chain_54 (lv_at hl 0 rfl) ?_
    refine lv_aload_n hx hb dX12_chain_56 rfl (lv_at hl 4 rfl) ?_
    refine w_alenZ hx hb hK hG.2.1 her dX12_chain_57 ?_
    refine lv_icmp_ge (tgt := 100) hx hb dX12_chain_58 rfl (fun _ => ?_) (fun q => absurd (Int32.le_refl _) q)
    refine kk v1 H1 locs1 ls (lv_sub hl [1, 2, 3, 4, 5, 6, 7] rfl) hG h1 (h2.eq fun t ht => ?_)
    constructor
    · rintro (q | ⟨b', q1, q2, q3⟩)
      · exact Or.inl q
      · exact Or.inr ⟨b', q1, Or.inl (by omega), q3⟩
    · rintro (q | ⟨b', q1, q2, q3⟩)
      · exact Or.inl q
      · exact Or.inr ⟨b', q1, by omega, q3⟩
  | succ j ih =>
    intro B hij v1 H1 locs1 ls hl hG h1 h2
    have hB : B < pN 2 := by omega
    obtain ⟨hz, hP, hS, hgr, hkeep⟩ := id hG
    have hk1 := hk.gr hd hgr
    refine lv_iload hx hb dX12_chain_54 (lv_at hl 0 rfl) ?_
    refine lv_aload_n hx hb dX12_chain_56 rfl (lv_at hl 4 rfl) ?_
    refine w_alenZ hx hb hK hP her dX12_chain_57 ?_
    refine lv_icmp_ge (tgt := 100) hx hb dX12_chain_58 rfl (fun q => absurd ((ni_le (by omega) (by omega)).mp q) (by omega)) (fun _ => ?_)
    refine lv_aload hx hb dX12_chain_61 (lv_at hl 2 rfl) ?_
    refine lv_iload hx hb dX12_chain_63 (lv_at hl 0 rfl) ?_
    refine lv_dup2_11 hx hb dX12_chain_65 rfl rfl ?_
    refine w_zald (k := r2) hx hb hK hP her2 (i := nI B) (vin hB (by omega)) dX12_chain_66 ?_
    rw [nI_clamp (by omega)]
    refine lv_aload_n hx hb dX12_chain_67 rfl (lv_at hl 4 rfl) ?_
    refine lv_iload hx hb dX12_chain_68 (lv_at hl 1 rfl) ?_
    refine w_zald (k := r) hx hb hK hP her (i := nI A) (vin hA (by omega)) dX12_chain_70 ?_
    rw [nI_clamp (by omega)]
    have J : ∀ (y : Int32) (ls : Array Slot), lv_has ls 8 [(7, .int (nI B)), (6, .int (nI A)), (5, .ref (Γ.2.1 + r2)), (4, .int (nI k)), (3, .ref (Γ.2.1 + r)), (0, .ref (Γ.2.1 + ks)), (1, .int (nI a)), (2, .int (nI b))] → ((y = 1 ∧ v1 r A ≠ 0 ∧ 0 < v (pB 3 A) B) ∨ (y = 0 ∧ ¬ (v1 r A ≠ 0 ∧ 0 < v (pB 3 A) B))) → W p l e R s m args below meth c H1 locs1 cells slots Q (F0 m 92 ls [.int y, .int (v1 r2 B), .int (nI B), .ref (Γ.2.1 + r2)]) := by
      intro y ls hl hy
      refine lv_ior hx hb dX12_chain_92 ?_
      have hor : vp_nar .boolean (v1 r2 B ||| y) = v1 r2 B ||| y := by
        rcases h2 B hB with ⟨q, -⟩ | ⟨q, -⟩ <;> rcases hy with ⟨q2, -⟩ | ⟨q2, -⟩ <;> rw [q, q2] <;> decide
      refine w_zaA (k := r2) (n := n1) hx hb hK hP hS (hgr.A (gA_in her2)) hz her2 (i := nI B) (vin hB (by omega)) (v1 := pu v1 r2 B (v1 r2 B ||| y)) (by rw [nI_clamp (by omega), hor]) dX12_chain_93 fun H1 locs1 hz hP hS => ?_
      refine lv_iinc (k := 0) (v := ((nI B) + 1)) (lv' := [(7, .int ((nI B) + 1)), (6, .int (nI A)), (5, .ref (Γ.2.1 + r2)), (4, .int (nI k)), (3, .ref (Γ.2.1 + r)), (0, .ref (Γ.2.1 + ks)), (1, .int (nI a)), (2, .int (nI b))]) hx hb dX12_chain_94 hl rfl rfl (by decide) rfl fun ls hl => ?_
      refine lv_goto (tgt := 54) hx hb dX12_chain_97 rfl ?_
      rw [ni_s] at hl
      refine ih (B + 1) (by omega) _ _ _ _ hl ⟨hz, hP, hS, hgr, fun q hq => ?_⟩ ?_ ?_
      · show pu v1 r2 B _ q = v q
        rw [pu_p (by omega)]; exact hkeep q hq
      · rw [pu_p (Ne.symm hne)]; exact h1
      · rw [pu_e]
        intro t ht
        by_cases hq : t = B
        · subst hq
          rw [upd_eq]
          have hA1 := h1 A hA
          rcases h2 t hB with ⟨q, q1⟩ | ⟨q, q1⟩
          · refine Or.inl ⟨?_, q1.elim Or.inl (fun ⟨b', g1, g2, g3⟩ => Or.inr ⟨b', g1, by omega, g3⟩)⟩
            rcases hy with ⟨q2, -⟩ | ⟨q2, -⟩ <;> rw [q, q2] <;> decide
          · rcases hy with ⟨q2, q3, q4⟩ | ⟨q2, q3⟩
            · refine Or.inl ⟨by rw [q, q2]; decide, Or.inr ⟨A, hA, Or.inr ⟨rfl, by omega⟩, ?_, q4⟩⟩
              rcases hA1 with ⟨-, g⟩ | ⟨g, -⟩
              · exact g
              · exact absurd g q3
            · refine Or.inr ⟨by rw [q, q2]; decide, ?_⟩
              rintro (g | ⟨b', g1, g2, g3, g4⟩)
              · exact q1 (Or.inl g)
              · by_cases hb' : b' = A
                · subst hb'
                  refine q3 ⟨?_, g4⟩
                  rcases hA1 with ⟨g, -⟩ | ⟨-, g⟩
                  · rw [g]; decide
                  · exact absurd g3 g
                · exact q1 (Or.inr ⟨b', g1, by omega, g3, g4⟩)
        · rw [upd_ne hq]
          have e : pvl (fun b c => v (pB 3 b) c) (pN 2) a n9 A (B + 1) t ↔ pvl (fun b c => v (pB 3 b) c) (pN 2) a n9 A B t := by
            constructor
            · rintro (g | ⟨b', g1, g2, g3⟩)
              · exact Or.inl g
              · exact Or.inr ⟨b', g1, by omega, g3⟩
            · rintro (g | ⟨b', g1, g2, g3⟩)
              · exact Or.inl g
              · exact Or.inr ⟨b', g1, by omega, g3⟩
          rcases h2 t ht with ⟨q, q1⟩ | ⟨q, q1⟩
          · exact Or.inl ⟨q, e.mpr q1⟩
          · exact Or.inr ⟨q, fun g => q1 (e.mp g)⟩
    refine lv_if_eq (tgt := 91) hx hb dX12_chain_71 rfl (fun q71 => ?_) (fun q71 => ?_)
    · refine lv_iconst (v := 0) hx hb dX12_chain_91 rfl ?_
      exact J 0 ls hl (Or.inr ⟨rfl, fun g => g.1 q71⟩)
    · skip
      refine lv_aload_n hx hb dX12_chain_74 rfl (lv_at hl 5 rfl) ?_
      refine w_gr hx hb hts hown hK hP fX12_25 hk1.1 rfl dX12_chain_75 ?_
      refine lv_iload hx hb dX12_chain_78 (lv_at hl 1 rfl) ?_
      refine z_aald hx hb hK hP hk1.2.2.2.2.1.1 (i := nI A) (vin (by omega) (by omega)) dX12_chain_80 ?_
      rw [nI_clamp (by omega)]
      refine lv_iload hx hb dX12_chain_81 (lv_at hl 0 rfl) ?_
      refine w_iald hx hb hK hP (hk1.2.2.2.2.1.2 A (by omega)) (i := nI B) (vin (by omega) (by omega)) dX12_chain_83 ?_
      rw [nI_clamp (by omega), hkeep _ (hd _ _ (hk.2.2.2.2.1.2 A (by omega)))]
      refine lv_if_le (tgt := 91) hx hb dX12_chain_84 rfl (fun q84 => ?_) (fun q84 => ?_)
      · refine lv_iconst (v := 0) hx hb dX12_chain_91 rfl ?_
        exact J 0 ls hl (Or.inr ⟨rfl, fun g => Int32.not_lt.mpr q84 g.2⟩)
      · refine lv_iconst (v := 1) hx hb dX12_chain_87 rfl ?_
        refine lv_goto (tgt := 92) hx hb dX12_chain_88 rfl ?_
        exact J 1 ls hl (Or.inl ⟨rfl, q71, Int32.not_le.mp q84⟩)
theorem ch_from (hM : SMX Γ p s m args c cX12_chain 8 d1 d2 sh n) (hk : isSim sh ks pA pB pN) (h2 : pN 2 = M) (h3 : pN 3 = M) (hM6 : M ≤ 6) {sh1 : Sh} {n1 : Nat} (hr : n ≤ r) (hr2 : n ≤ r2) (hne : r2 ≠ r) (her : sh1 r = some (sB 2 M)) (her2 : sh1 r2 = some (sB 2 M)) {n9 : Nat}
    (kk : ∀ (v1 : Va) (H1 : Heap) (locs1 : List Loc) (ls : Array Slot), lv_has ls 8 [(5, .ref (Γ.2.1 + r2)), (4, .int (nI k)), (3, .ref (Γ.2.1 + r)), (0, .ref (Γ.2.1 + ks)), (1, .int (nI a)), (2, .int (nI b))] → GWd Γ s sh v w n sh1 v1 n1 H1 locs1 → PRw M (v1 r2) (lvl (fun b c => v (pB 3 b) c) M a (n9 + 1)) → W p l e R s m args below meth c H1 locs1 cells slots Q (F0 m 106 ls [])) :
    ∀ (j A : Nat), A + j = M → ∀ (v1 : Va) (H1 : Heap) (locs1 : List Loc) (ls : Array Slot), lv_has ls 8 [(6, .int (nI A)), (5, .ref (Γ.2.1 + r2)), (4, .int (nI k)), (3, .ref (Γ.2.1 + r)), (0, .ref (Γ.2.1 + ks)), (1, .int (nI a)), (2, .int (nI b))] → GWd Γ s sh v w n sh1 v1 n1 H1 locs1 → PRw M (v1 r) (lvl (fun b c => v (pB 3 b) c) M a n9) → PRw M (v1 r2) (pvl (fun b c => v (pB 3 b) c) M a n9 A 0) → W p l e R s m args below meth c H1 locs1 cells slots Q (F0 m 44 ls []) := by
  obtain ⟨hx, hb, hml, hts, hown, hK, hE, hd, hC⟩ := id hM
  intro j
  induction j with
  | zero =>
    intro A hij v1 H1 locs1 ls hl hG h1 h4
    have hA : A = M := by omega
    subst hA
    refine lv_iload hx hb dX12_chain_44 (lv_at hl 0 rfl) ?_
    refine lv_aload_n hx hb dX12_chain_46 rfl (lv_at hl 3 rfl) ?_
    refine w_alenZ hx hb hK hG.2.1 her dX12_chain_47 ?_
    refine lv_icmp_ge (tgt := 106) hx hb dX12_chain_48 rfl (fun _ => ?_) (fun q => absurd (Int32.le_refl _) q)
    refine kk v1 H1 locs1 ls (lv_sub hl [1, 2, 3, 4, 5, 6] rfl) hG (h4.eq fun t ht => ?_)
    constructor
    · rintro (q | ⟨b', q1, q2, q3⟩)
      · exact Or.inl q
      · exact Or.inr ⟨b', q1, q3⟩
    · rintro (q | ⟨b', q1, q3⟩)
      · exact Or.inl q
      · exact Or.inr ⟨b', q1, Or.inl q1, q3⟩
  | succ j ih =>
    intro A hij v1 H1 locs1 ls hl hG h1 h4
    have hA : A < M := by omega
    refine lv_iload hx hb dX12_chain_44 (lv_at hl 0 rfl) ?_
    refine lv_aload_n hx hb dX12_chain_46 rfl (lv_at hl 3 rfl) ?_
    refine w_alenZ hx hb hK hG.2.1 her dX12_chain_47 ?_
    refine lv_icmp_ge (tgt := 106) hx hb dX12_chain_48 rfl (fun q => absurd ((ni_le (by omega) (by omega)).mp q) (by omega)) (fun _ => ?_)
    refine lv_iconst (v := 0) hx hb dX12_chain_51 rfl ?_
    refine lv_istore (lv' := [(7, .int 0), (6, .int (nI A)), (5, .ref (Γ.2.1 + r2)), (4, .int (nI k)), (3, .ref (Γ.2.1 + r)), (0, .ref (Γ.2.1 + ks)), (1, .int (nI a)), (2, .int (nI b))]) hx hb dX12_chain_52 hl (by decide) rfl fun ls hl => ?_
    refine ch_to (v := v) (a := a) (b := b) (k := k) hM hk h2 h3 hM6 hr hr2 hne her her2 hA (fun v1 H1 locs1 ls hl hG h1 h4 => ?_) M 0 (by omega) v1 H1 locs1 ls hl hG h1 h4
    refine lv_iinc (k := 0) (v := ((nI A) + 1)) (lv' := [(6, .int ((nI A) + 1)), (5, .ref (Γ.2.1 + r2)), (4, .int (nI k)), (3, .ref (Γ.2.1 + r)), (0, .ref (Γ.2.1 + ks)), (1, .int (nI a)), (2, .int (nI b))]) hx hb dX12_chain_100 hl rfl rfl (by decide) rfl fun ls hl => ?_
    refine lv_goto (tgt := 44) hx hb dX12_chain_103 rfl ?_
    rw [ni_s] at hl
    exact ih (A + 1) (by omega) v1 H1 locs1 ls hl hG h1 h4
theorem ch_out (hM : SMX Γ p s m args c cX12_chain 8 d1 d2 sh n) (hk : isSim sh ks pA pB pN) (h2 : pN 2 = M) (h3 : pN 3 = M) (hM6 : M ≤ 6) (ha : a < M) (hb0 : b < M) (hab : a ≠ b) (hfr : 1 ≤ R.frames ∧ 26 ≤ R.locals)
    (hroom : 6 ≤ R.cells ∧ 36 ≤ R.slots)
    (k1 : ∀ (x : Int32) (sh1 : Sh) (v1 : Va) (n1 : Nat) (H1 : Heap) (locs1 : List Loc) (ls : Array Slot), CHS (fun b c => v (pB 3 b) c) M a b x → n1 ≤ n + 6 → GWd Γ s sh v w n sh1 v1 n1 H1 locs1 → W p l e R s m args below meth c H1 locs1 6 36 Q (F0 m 115 ls [.int x]))
    (k2 : ∀ (x : Int32) (sh1 : Sh) (v1 : Va) (n1 : Nat) (H1 : Heap) (locs1 : List Loc) (ls : Array Slot), CHS (fun b c => v (pB 3 b) c) M a b x → n1 ≤ n + 6 → GWd Γ s sh v w n sh1 v1 n1 H1 locs1 → W p l e R s m args below meth c H1 locs1 6 36 Q (F0 m 126 ls [.int x])) :
    ∀ (j k : Nat), k + j = M → 1 ≤ k → ∀ (sh1 : Sh) (v1 : Va) (n1 r : Nat) (H1 : Heap) (locs1 : List Loc) (ls : Array Slot), lv_has ls 8 [(4, .int (nI k)), (3, .ref (Γ.2.1 + r)), (0, .ref (Γ.2.1 + ks)), (1, .int (nI a)), (2, .int (nI b))] → GWd Γ s sh v w n sh1 v1 n1 H1 locs1 → n1 ≤ n + k → n ≤ r → sh1 r = some (sB 2 M) → PRw M (v1 r) (lvl (fun b c => v (pB 3 b) c) M a (k - 1)) → (∀ j, j < k → ¬ lvl (fun b c => v (pB 3 b) c) M a j b) → W p l e R s m args below meth c H1 locs1 k (6 * k) Q (F0 m 22 ls []) := by
  obtain ⟨hx, hb, hml, hts, hown, hK, hE, hd, hC⟩ := id hM
  intro j
  induction j with
  | zero =>
    intro k hij hk1 sh1 v1 n1 r H1 locs1 ls hl hG hn1 hr her h1 hno
    have hkM : k = M := by omega
    subst hkM
    obtain ⟨hz, hP, hS, hgr, hkeep⟩ := id hG
    have hks := hk.gr hd hgr
    refine lv_iload hx hb dX12_chain_22 (lv_at hl 0 rfl) ?_
    refine lv_aload_n hx hb dX12_chain_24 rfl (lv_at hl 2 rfl) ?_
    refine w_gr hx hb hts hown hK hP fX12_22 hks.1 rfl dX12_chain_25 ?_
    refine w_alenR hx hb hK hP hks.2.2.2.1.1 dX12_chain_28 ?_
    rw [h2]
    refine lv_icmp_ge (tgt := 125) hx hb dX12_chain_29 rfl (fun _ => ?_) (fun q => absurd (Int32.le_refl _) q)
    refine lv_iconst (v := (-1)) hx hb dX12_chain_125 rfl ?_
    refine W.widen (k := 6) (n := 36) (by omega) (by omega) ?_
    exact k2 _ _ _ _ _ _ _ (Or.inr ⟨rfl, fun j hj => hno j (by omega)⟩) (by omega) hG
  | succ j ih =>
    intro k hij hk1 sh1 v1 n1 r H1 locs1 ls hl hG hn1 hr her h1 hno
    obtain ⟨hz, hP, hS, hgr, hkeep⟩ := id hG
    have hks := hk.gr hd hgr
    refine lv_iload hx hb dX12_chain_22 (lv_at hl 0 rfl) ?_
    refine lv_aload_n hx hb dX12_chain_24 rfl (lv_at hl 2 rfl) ?_
    refine w_gr hx hb hts hown hK hP fX12_22 hks.1 rfl dX12_chain_25 ?_
    refine w_alenR hx hb hK hP hks.2.2.2.1.1 dX12_chain_28 ?_
    rw [h2]
    refine lv_icmp_ge (tgt := 125) hx hb dX12_chain_29 rfl (fun q => absurd ((ni_le (by omega) (by omega)).mp q) (by omega)) (fun _ => ?_)
    refine lv_aload_n hx hb dX12_chain_32 rfl (lv_at hl 1 rfl) ?_
    refine w_clone (n := n1) (t := 2) (N := M) (ty := .boolean) (ad := "[Z") hx hb hml hl.1 hts hown hK hP hS rfl rfl (fun cA h => h) her h1.fit xcX12_75 xcs_Z xcx_Z (hE.word rfl rfl (hC.2.2.2.1 _ (List.mem_cons_of_mem _ List.mem_cons_self))) hfr (Nat.le_of_ble_eq_true rfl) (by omega) (by omega) hz dX12_chain_33 fun H1 hz hP hS => ?_
    refine w_cast (k := n1) (t := 2) (N := M) (ty := .boolean) (ad := "[Z") hx hb hts hown hK hP rfl rfl (fun cA h => h) (up_eq _ _ _) clX12_76 dX12_chain_36 ?_
    refine lv_astore (lv' := [(5, .ref (Γ.2.1 + n1)), (4, .int (nI k)), (3, .ref (Γ.2.1 + r)), (0, .ref (Γ.2.1 + ks)), (1, .int (nI a)), (2, .int (nI b))]) hx hb dX12_chain_39 hl (by decide) rfl fun ls hl => ?_
    refine lv_iconst (v := 0) hx hb dX12_chain_41 rfl ?_
    refine lv_istore (lv' := [(6, .int 0), (5, .ref (Γ.2.1 + n1)), (4, .int (nI k)), (3, .ref (Γ.2.1 + r)), (0, .ref (Γ.2.1 + ks)), (1, .int (nI a)), (2, .int (nI b))]) hx hb dX12_chain_42 hl (by decide) rfl fun ls hl => ?_
    have hlt : r < n1 := (Wd.dm hG.2.1 hG.1) _ _ her
    have hG2 : GWd Γ s sh v w n (up sh1 n1 (some (sB 2 M))) (up v1 n1 (v1 r)) (n1 + 1) H1 locs1 := ⟨hz, hP, hS, hgr.nw, fun q hq => by have := hgr.1; rw [up_ne (by omega)]; exact hkeep q hq⟩
    refine W.widen (k := k + 1) (n := 6 * (k + 1)) (by omega) (by omega) ?_
    refine ch_from (v := v) (a := a) (b := b) (k := k) (r := r) (r2 := n1) (n9 := k - 1) hM hk h2 h3 hM6 hr hgr.1 (by omega) (by rw [up_ne (by omega)]; exact her) (up_eq _ _ _) (fun v2 H1 locs1 ls hl hG h4 => ?_) M 0 (by omega) _ _ _ _ hl hG2 (by rw [up_ne (by omega)]; exact h1) (by
      rw [up_eq]
      refine h1.eq fun t ht => ⟨Or.inl, ?_⟩
      rintro (q | ⟨b', q1, q2, q3⟩)
      · exact q
      · omega)
    obtain ⟨hz, hP, hS, hgr2, hkeep2⟩ := id hG
    rw [show k - 1 + 1 = k by omega] at h4
    refine lv_aload hx hb dX12_chain_106 (lv_at hl 0 rfl) ?_
    refine lv_iload_n hx hb dX12_chain_108 rfl (lv_at hl 5 rfl) ?_
    refine w_zald (k := n1) hx hb hK hP (up_eq _ _ _) (i := nI b) (vin hb0 (by omega)) dX12_chain_109 ?_
    rw [nI_clamp (by omega)]
    refine lv_if_eq (tgt := 116) hx hb dX12_chain_110 rfl (fun q110 => ?_) (fun q110 => ?_)
    · have hnb : ¬ lvl (fun b c => v (pB 3 b) c) M a k b := by
        rcases h4 b hb0 with ⟨q, -⟩ | ⟨-, q⟩
        · rw [q110] at q; exact absurd q (by decide)
        · exact q
      refine lv_aload hx hb dX12_chain_116 (lv_at hl 0 rfl) ?_
      refine lv_astore_n (lv' := [(3, .ref (Γ.2.1 + n1)), (5, .ref (Γ.2.1 + n1)), (4, .int (nI k)), (0, .ref (Γ.2.1 + ks)), (1, .int (nI a)), (2, .int (nI b))]) hx hb dX12_chain_118 rfl hl (by decide) rfl fun ls hl => ?_
      refine lv_iinc (k := 2) (v := ((nI k) + 1)) (lv' := [(4, .int ((nI k) + 1)), (3, .ref (Γ.2.1 + n1)), (5, .ref (Γ.2.1 + n1)), (0, .ref (Γ.2.1 + ks)), (1, .int (nI a)), (2, .int (nI b))]) hx hb dX12_chain_119 hl rfl rfl (by decide) rfl fun ls hl => ?_
      refine lv_goto (tgt := 22) hx hb dX12_chain_122 rfl ?_
      rw [ni_s] at hl
      refine ih (k + 1) (by omega) (by omega) _ _ _ n1 _ _ _ (lv_sub hl [0, 1, 3, 4, 5] rfl) hG (by omega) (by have := hgr.1; omega) (up_eq _ _ _) h4 (fun j hj => ?_)
      by_cases hq : j = k
      · subst hq; exact hnb
      · exact hno j (by omega)
    · have hyb : lvl (fun b c => v (pB 3 b) c) M a k b := by
        rcases h4 b hb0 with ⟨-, q⟩ | ⟨q, -⟩
        · exact q
        · exact absurd q q110
      refine lv_iload hx hb dX12_chain_113 (lv_at hl 1 rfl) ?_
      refine W.widen (k := 6) (n := 36) (by omega) (by omega) ?_
      exact k1 _ _ _ _ _ _ _ (Or.inl ⟨k, by omega, rfl, hyb, hno⟩) (by omega) hG
end CZ
section JE
variable {l : Launch} {Γ : Cx} {sh : Sh} {v : Va} {w : Vl} {n : Nat}
theorem c_Sim_chain {ks d1 d2 a b M : Nat} {pA : Nat → Nat} {pB : Nat → Nat → Nat} {pN : Nat → Nat} (hk : isSim sh ks pA pB pN) (hC : EC Γ sh d1 d2) (h2 : pN 2 = M) (h3 : pN 3 = M) (hM6 : M ≤ 6) (ha : a < M) (hb0 : b < M) : MetTI l yX12_chain cX12_chain 8 (some .int) 1 6 36 Γ sh v w n [.ref (Γ.2.1 + ks), .int (nI a), .int (nI b)] (fun r u => CHS (fun b c => v (pB 3 b) c) M a b r ∧ GR sh n u.1 u.2.2 ∧ (∀ q, q < n → u.2.1 q = v q) ∧ u.2.2 ≤ n + 6) := by
  refine w_start pn_X12 (Nat.le_of_ble_eq_true rfl) fun p e s m args below meth c hx hb hml hret hlk hnm hts hown hK hP hz hE hS ls hl => ?_
  have hd : DM sh n := hP.dm hz
  have hG : GR sh n sh n := GR.rf
  refine lv_iload_n hx hb dX12_chain_0 rfl (lv_at hl 1 rfl) ?_
  refine lv_iload_n hx hb dX12_chain_1 rfl (lv_at hl 2 rfl) ?_
  refine lv_icmp_ne (tgt := 7) hx hb dX12_chain_2 rfl (fun q2 => ?_) (fun q2 => ?_)
  · have hab : a ≠ b := fun q => q2 (by rw [q])
    refine lv_aload_n hx hb dX12_chain_7 rfl (lv_at hl 0 rfl) ?_
    refine w_gr hx hb hts hown hK hP fX12_22 hk.1 rfl dX12_chain_8 ?_
    refine w_alenR hx hb hK hP hk.2.2.2.1.1 dX12_chain_11 ?_
    rw [h2]
    refine w_newZ (n := n) (N := M) hx hb hts hK hP hS (nI_pos (by omega)) (nI_clamp (by omega)) (by omega) (show 0 + 1 ≤ 6 by omega) (show 0 + M ≤ 36 by omega) hz dX12_chain_12 fun H1 hz hP hS => ?_
    refine lv_astore_n (lv' := [(3, .ref (Γ.2.1 + n)), (0, .ref (Γ.2.1 + ks)), (1, .int (nI a)), (2, .int (nI b))]) hx hb dX12_chain_14 rfl hl (by decide) rfl fun ls hl => ?_
    refine lv_aload_n hx hb dX12_chain_15 rfl (lv_at hl 0 rfl) ?_
    refine lv_iload_n hx hb dX12_chain_16 rfl (lv_at hl 2 rfl) ?_
    refine lv_iconst (v := 1) hx hb dX12_chain_17 rfl ?_
    refine w_zaA (k := n) (n := n + 1) hx hb hK hP hS (gA_new (Nat.le_refl _)) hz (up_eq _ _ _) (i := nI a) (vin ha (by omega)) (v1 := pu (up v n (fun _ => 0)) n a 1) (by rw [nI_clamp (by omega), vn1]) dX12_chain_18 fun H1 locs1 hz hP hS => ?_
    refine lv_iconst (v := 1) hx hb dX12_chain_19 rfl ?_
    refine lv_istore (lv' := [(4, .int 1), (3, .ref (Γ.2.1 + n)), (0, .ref (Γ.2.1 + ks)), (1, .int (nI a)), (2, .int (nI b))]) hx hb dX12_chain_20 hl (by decide) rfl fun ls hl => ?_
    refine W.widen (k := 1) (n := 6 * 1) (by omega) (by omega) ?_
    refine ch_out (v := v) (a := a) (b := b) ⟨hx, hb, hml, hts, hown, hK, hE, hd, hC⟩ hk h2 h3 hM6 ha hb0 hab ⟨Nat.le_of_ble_eq_true rfl, Nat.le_of_ble_eq_true rfl⟩ ⟨Nat.le_refl _, Nat.le_refl _⟩ (fun x sh1 v1 n1 H1 locs1 ls h1 h4 hG1 => ?_) (fun x sh1 v1 n1 H1 locs1 ls h1 h4 hG1 => ?_) (M - 1) 1 (by omega) (Nat.le_refl _) _ _ _ _ _ _ _ hl ⟨hz, hP, hS, hG.nw, fun q hq => by rw [pu_p (by omega), up_ne (by omega)]⟩ (by omega) (Nat.le_refl _) (up_eq _ _ _) ?_ (fun j hj => ?_)
    · exact t_iret (post := (fun r u => CHS (fun b c => v (pB 3 b) c) M a b r ∧ GR sh n u.1 u.2.2 ∧ (∀ q, q < n → u.2.1 q = v q) ∧ u.2.2 ≤ n + 6)) hx hb hret rfl hlk hK hG1.2.1 hG1.2.2.1 hG1.1 hE hd hG1.2.2.2.1 ⟨h1, hG1.2.2.2.1, hG1.2.2.2.2, h4⟩ dX12_chain_115
    · exact t_iret (post := (fun r u => CHS (fun b c => v (pB 3 b) c) M a b r ∧ GR sh n u.1 u.2.2 ∧ (∀ q, q < n → u.2.1 q = v q) ∧ u.2.2 ≤ n + 6)) hx hb hret rfl hlk hK hG1.2.1 hG1.2.2.1 hG1.1 hE hd hG1.2.2.2.1 ⟨h1, hG1.2.2.2.1, hG1.2.2.2.2, h4⟩ dX12_chain_126
    · rw [pu_e, up_eq]
      intro t ht
      by_cases hq : t = a
      · subst hq; rw [upd_eq]; exact Or.inl ⟨rfl, rfl⟩
      · rw [upd_ne hq]; exact Or.inr ⟨rfl, hq⟩
    · have : j = 0 := by omega
      subst this
      exact fun q => hab q.symm
  · have hab : a = b := by
      have := q2
      rwa [eq_n (by omega) (by omega)] at this
    refine lv_iconst (v := 0) hx hb dX12_chain_5 rfl ?_
    refine W.widen (k := 6) (n := 36) (by omega) (by omega) ?_
    exact t_iret (post := (fun r u => CHS (fun b c => v (pB 3 b) c) M a b r ∧ GR sh n u.1 u.2.2 ∧ (∀ q, q < n → u.2.1 q = v q) ∧ u.2.2 ≤ n + 6)) hx hb hret rfl hlk hK hP hS hz hE hd hG ⟨Or.inl ⟨0, by omega, rfl, hab.symm, fun j hj => absurd hj (Nat.not_lt_zero _)⟩, hG, fun q _ => rfl, Nat.le_add_right n 6⟩ dX12_chain_6
end JE
