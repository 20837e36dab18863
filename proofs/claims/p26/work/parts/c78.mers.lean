/-! SIM: isSame, the loop over the merchants -/
theorem LO.ec {Γ : Cx} {sh sh0 : Sh} {d1 d2 : Nat} (h : LO Γ sh) (hC : EC Γ sh0 d1 d2) : EC Γ sh d1 d2 := by
  have hq : ∀ q, gF Γ sh q → gF Γ sh0 q := fun q hg => Or.inr (hg.elim (fun ⟨k, e, hk, _, e1⟩ => by rw [e1]; exact h k e hk) id)
  obtain ⟨h1, h2, h3, h4, h5, h6⟩ := hC
  exact ⟨h1.gr (fun q _ => hq q), h2.gr (fun q _ => hq q), h3.gr (fun q _ => hq q), h4, h5.gr hq, h6.gr hq⟩
section IB
variable {p : Program} {l : Launch} {e : Env} {R : Room} {s : State} {m : MethodId} {args : Array Value} {below : List Frame} {meth : Method} {c : Code} {H H0 : Heap} {locs : List Loc} {cells slots : Nat} {Q : State → Prop}
variable {cc : ByteArray} {pc nL : Nat} {ls : Array Slot} {st0 rest As Bs : List Value} {Γ : Cx} {sh sh0 shb : Sh} {v v0 v1 vb vb1 : Va} {w wb : Vl} {own : String} {idx ci j k n n0 nb nn hh mL mc ms a b2 ks S G M L O d1 d2 c0 s0 : Nat} {cs : List Nat} {y : MethodName} {b : ByteArray} {ret : Option FieldType} {pA : Nat → Nat} {pB : Nat → Nat → Nat} {u ua ub ua1 ub1 : Va} {P : Pfn}
variable {shC : Sh}
theorem is_sum (hX : XM Γ b2 p l s m args c cX12_isSame 10 RX12 shb) (hFR : 12 ≤ R.frames ∧ 480 ≤ R.locals) {pb : Nat} (hL : DL Γ b2 s w wb shb sh0 n0 ks pA pB S G M L O u u P sh v n vb H locs)
    (kk : ∀ (ls : Array Slot), lv_has ls 10 [(5, .int (row_t (fun k => if u 175 k = nI a then u 174 k else 0) L)), (4, .int (row_t (fun k => if u 175 k = nI a then 1 else 0) L)), (3, .int (nI a)), (2, .ref (Γ.2.1 + pb)), (1, .ref (b2 + 0)), (0, .ref (Γ.2.1 + ks))] → W p l e R s m args below meth c H locs cells slots Q (F0 m 260 ls [])) :
    ∀ (j i : Nat), i + j = L → ∀ (ls : Array Slot), lv_has ls 10 [(8, .int (nI i)), (7, .int (nI L)), (6, .ref (Γ.2.1 + (pA 4))), (5, .int (row_t (fun k => if u 175 k = nI a then u 174 k else 0) i)), (4, .int (row_t (fun k => if u 175 k = nI a then 1 else 0) i)), (3, .int (nI a)), (2, .ref (Γ.2.1 + pb)), (1, .ref (b2 + 0)), (0, .ref (Γ.2.1 + ks))] → W p l e R s m args below meth c H locs cells slots Q (F0 m 201 ls []) := by
  obtain ⟨hx, hb, hml, hts, hown, hK, hE, hb2, hkq, hEX, hlt, -⟩ := (⟨hX.1, hX.2.1, hX.2.2.1, hX.2.2.2.1, hX.2.2.2.2.1, hX.2.2.2.2.2.1, hX.2.2.2.2.2.2.1, hX.2.2.2.2.2.2.2.1, hX.2.2.2.2.2.2.2.2.1, hX.2.2.2.2.2.2.2.2.2.1, hX.2.2.2.2.2.2.2.2.2.2, trivial⟩ : _ ∧ _ ∧ _ ∧ _ ∧ _ ∧ _ ∧ _ ∧ _ ∧ _ ∧ _ ∧ _ ∧ True)
  have hB := hL.qi.2.2.2.2.2.1
  intro j
  induction j with
  | zero =>
    intro i hij ls hl
    have hi : i = L := by omega
    refine lv_iload hx hb dX12_isSame_201 (lv_at hl 0 rfl) ?_
    refine lv_iload hx hb dX12_isSame_203 (lv_at hl 1 rfl) ?_
    refine lv_icmp_ge (tgt := 260) hx hb dX12_isSame_205 rfl (fun _ => ?_) (fun q => absurd (by rw [hi]; exact Int32.le_refl _) q)
    rw [hi] at hl
    exact kk ls (lv_sub hl [3, 4, 5, 6, 7, 8] rfl)
  | succ j ih =>
    intro i hij ls hl
    have hi : i < L := by omega
    by_cases ho : u 175 i = nI a
    · refine lv_iload hx hb dX12_isSame_201 (lv_at hl 0 rfl) ?_
      refine lv_iload hx hb dX12_isSame_203 (lv_at hl 1 rfl) ?_
      refine lv_icmp_ge (tgt := 260) hx hb dX12_isSame_205 rfl (fun q => absurd ((le_n (i := L) (j := i) (by omega) (by omega)).mp q) (by omega)) (fun _ => ?_)
      refine lv_aload hx hb dX12_isSame_208 (lv_at hl 2 rfl) ?_
      refine lv_iload hx hb dX12_isSame_210 (lv_at hl 0 rfl) ?_
      refine z_aald hx hb hK hL.hP hL.ik.2.2.2.2.2.1.1 (i := nI i) (vin hi (show L ≤ 1000000 by omega)) dX12_isSame_212 ?_
      rw [nI_clamp (by omega)]
      refine lv_astore (lv' := [(9, .ref (Γ.2.1 + (pB 4 i))), (8, .int (nI i)), (7, .int (nI L)), (6, .ref (Γ.2.1 + (pA 4))), (5, .int (row_t (fun k => if u 175 k = nI a then u 174 k else 0) i)), (4, .int (row_t (fun k => if u 175 k = nI a then 1 else 0) i)), (3, .int (nI a)), (2, .ref (Γ.2.1 + pb)), (1, .ref (b2 + 0)), (0, .ref (Γ.2.1 + ks))]) hx hb dX12_isSame_213 hl (by decide) rfl fun ls hl => ?_
      refine lv_iload hx hb dX12_isSame_215 (lv_at hl 5 rfl) ?_
      refine lv_aload hx hb dX12_isSame_217 (lv_at hl 0 rfl) ?_
      refine lv_iconst (v := 2) hx hb dX12_isSame_219 rfl ?_
      refine w_iald hx hb hK hL.hP (hL.ik.2.2.2.2.2.1.2 i hi) (i := 2) (vin (i := 2) (by omega) (by omega)) dX12_isSame_220 ?_
      rw [lc_2, hL.sr.owner hi]
      refine lv_iload_n hx hb dX12_isSame_221 rfl (lv_at hl 6 rfl) ?_
      refine lv_icmp_ne (tgt := 229) hx hb dX12_isSame_222 rfl (fun q => absurd ho q) (fun _ => ?_)
      refine lv_iconst (v := 1) hx hb dX12_isSame_225 rfl ?_
      refine lv_goto (tgt := 230) hx hb dX12_isSame_226 rfl ?_
      refine lv_iadd hx hb dX12_isSame_230 ?_
      refine lv_istore (lv' := [(4, .int ((row_t (fun k => if u 175 k = nI a then 1 else 0) i) + (1 : Int32))), (9, .ref (Γ.2.1 + (pB 4 i))), (8, .int (nI i)), (7, .int (nI L)), (6, .ref (Γ.2.1 + (pA 4))), (5, .int (row_t (fun k => if u 175 k = nI a then u 174 k else 0) i)), (3, .int (nI a)), (2, .ref (Γ.2.1 + pb)), (1, .ref (b2 + 0)), (0, .ref (Γ.2.1 + ks))]) hx hb dX12_isSame_231 hl (by decide) rfl fun ls hl => ?_
      refine lv_iload hx hb dX12_isSame_233 (lv_at hl 5 rfl) ?_
      refine lv_aload hx hb dX12_isSame_235 (lv_at hl 1 rfl) ?_
      refine lv_iconst (v := 2) hx hb dX12_isSame_237 rfl ?_
      refine w_iald hx hb hK hL.hP (hL.ik.2.2.2.2.2.1.2 i hi) (i := 2) (vin (i := 2) (by omega) (by omega)) dX12_isSame_238 ?_
      rw [lc_2, hL.sr.owner hi]
      refine lv_iload_n hx hb dX12_isSame_239 rfl (lv_at hl 6 rfl) ?_
      refine lv_icmp_ne (tgt := 250) hx hb dX12_isSame_240 rfl (fun q => absurd ho q) (fun _ => ?_)
      refine lv_aload hx hb dX12_isSame_243 (lv_at hl 1 rfl) ?_
      refine lv_iconst (v := 1) hx hb dX12_isSame_245 rfl ?_
      refine w_iald hx hb hK hL.hP (hL.ik.2.2.2.2.2.1.2 i hi) (i := 1) (vin (i := 1) (by omega) (by omega)) dX12_isSame_246 ?_
      rw [lc_1, hL.sr.weight hi]
      refine lv_goto (tgt := 251) hx hb dX12_isSame_247 rfl ?_
      refine lv_iadd hx hb dX12_isSame_251 ?_
      refine lv_istore (lv' := [(5, .int ((row_t (fun k => if u 175 k = nI a then u 174 k else 0) i) + (u 174 i))), (4, .int ((row_t (fun k => if u 175 k = nI a then 1 else 0) i) + (1 : Int32))), (9, .ref (Γ.2.1 + (pB 4 i))), (8, .int (nI i)), (7, .int (nI L)), (6, .ref (Γ.2.1 + (pA 4))), (3, .int (nI a)), (2, .ref (Γ.2.1 + pb)), (1, .ref (b2 + 0)), (0, .ref (Γ.2.1 + ks))]) hx hb dX12_isSame_252 hl (by decide) rfl fun ls hl => ?_
      refine lv_iinc (k := 3) (v := ((nI i) + 1)) (lv' := [(8, .int ((nI i) + 1)), (5, .int ((row_t (fun k => if u 175 k = nI a then u 174 k else 0) i) + (u 174 i))), (4, .int ((row_t (fun k => if u 175 k = nI a then 1 else 0) i) + (1 : Int32))), (9, .ref (Γ.2.1 + (pB 4 i))), (7, .int (nI L)), (6, .ref (Γ.2.1 + (pA 4))), (3, .int (nI a)), (2, .ref (Γ.2.1 + pb)), (1, .ref (b2 + 0)), (0, .ref (Γ.2.1 + ks))]) hx hb dX12_isSame_254 hl rfl rfl (by decide) rfl fun ls hl => ?_
      refine lv_goto (tgt := 201) hx hb dX12_isSame_257 rfl ?_
      have e4 : (row_t (fun k => if u 175 k = nI a then 1 else 0) i) + 1 = (row_t (fun k => if u 175 k = nI a then 1 else 0) (i + 1)) := by show _ = row_t _ i + (if u 175 i = nI a then 1 else 0); rw [if_pos ho]
      have e5 : (row_t (fun k => if u 175 k = nI a then u 174 k else 0) i) + u 174 i = (row_t (fun k => if u 175 k = nI a then u 174 k else 0) (i + 1)) := by show _ = row_t _ i + (if u 175 i = nI a then u 174 i else 0); rw [if_pos ho]
      rw [ni_s, e4, e5] at hl
      have hl := lv_sub hl [0, 4, 5, 1, 2, 6, 7, 8, 9] rfl
      exact ih (i + 1) (by omega) _ hl
    · refine lv_iload hx hb dX12_isSame_201 (lv_at hl 0 rfl) ?_
      refine lv_iload hx hb dX12_isSame_203 (lv_at hl 1 rfl) ?_
      refine lv_icmp_ge (tgt := 260) hx hb dX12_isSame_205 rfl (fun q => absurd ((le_n (i := L) (j := i) (by omega) (by omega)).mp q) (by omega)) (fun _ => ?_)
      refine lv_aload hx hb dX12_isSame_208 (lv_at hl 2 rfl) ?_
      refine lv_iload hx hb dX12_isSame_210 (lv_at hl 0 rfl) ?_
      refine z_aald hx hb hK hL.hP hL.ik.2.2.2.2.2.1.1 (i := nI i) (vin hi (show L ≤ 1000000 by omega)) dX12_isSame_212 ?_
      rw [nI_clamp (by omega)]
      refine lv_astore (lv' := [(9, .ref (Γ.2.1 + (pB 4 i))), (8, .int (nI i)), (7, .int (nI L)), (6, .ref (Γ.2.1 + (pA 4))), (5, .int (row_t (fun k => if u 175 k = nI a then u 174 k else 0) i)), (4, .int (row_t (fun k => if u 175 k = nI a then 1 else 0) i)), (3, .int (nI a)), (2, .ref (Γ.2.1 + pb)), (1, .ref (b2 + 0)), (0, .ref (Γ.2.1 + ks))]) hx hb dX12_isSame_213 hl (by decide) rfl fun ls hl => ?_
      refine lv_iload hx hb dX12_isSame_215 (lv_at hl 5 rfl) ?_
      refine lv_aload hx hb dX12_isSame_217 (lv_at hl 0 rfl) ?_
      refine lv_iconst (v := 2) hx hb dX12_isSame_219 rfl ?_
      refine w_iald hx hb hK hL.hP (hL.ik.2.2.2.2.2.1.2 i hi) (i := 2) (vin (i := 2) (by omega) (by omega)) dX12_isSame_220 ?_
      rw [lc_2, hL.sr.owner hi]
      refine lv_iload_n hx hb dX12_isSame_221 rfl (lv_at hl 6 rfl) ?_
      refine lv_icmp_ne (tgt := 229) hx hb dX12_isSame_222 rfl (fun _ => ?_) (fun q => absurd q ho)
      refine lv_iconst (v := 0) hx hb dX12_isSame_229 rfl ?_
      refine lv_iadd hx hb dX12_isSame_230 ?_
      refine lv_istore (lv' := [(4, .int ((row_t (fun k => if u 175 k = nI a then 1 else 0) i) + (0 : Int32))), (9, .ref (Γ.2.1 + (pB 4 i))), (8, .int (nI i)), (7, .int (nI L)), (6, .ref (Γ.2.1 + (pA 4))), (5, .int (row_t (fun k => if u 175 k = nI a then u 174 k else 0) i)), (3, .int (nI a)), (2, .ref (Γ.2.1 + pb)), (1, .ref (b2 + 0)), (0, .ref (Γ.2.1 + ks))]) hx hb dX12_isSame_231 hl (by decide) rfl fun ls hl => ?_
      refine lv_iload hx hb dX12_isSame_233 (lv_at hl 5 rfl) ?_
      refine lv_aload hx hb dX12_isSame_235 (lv_at hl 1 rfl) ?_
      refine lv_iconst (v := 2) hx hb dX12_isSame_237 rfl ?_
      refine w_iald hx hb hK hL.hP (hL.ik.2.2.2.2.2.1.2 i hi) (i := 2) (vin (i := 2) (by omega) (by omega)) dX12_isSame_238 ?_
      rw [lc_2, hL.sr.owner hi]
      refine lv_iload_n hx hb dX12_isSame_239 rfl (lv_at hl 6 rfl) ?_
      refine lv_icmp_ne (tgt := 250) hx hb dX12_isSame_240 rfl (fun _ => ?_) (fun q => absurd q ho)
      refine lv_iconst (v := 0) hx hb dX12_isSame_250 rfl ?_
      refine lv_iadd hx hb dX12_isSame_251 ?_
      refine lv_istore (lv' := [(5, .int ((row_t (fun k => if u 175 k = nI a then u 174 k else 0) i) + (0 : Int32))), (4, .int ((row_t (fun k => if u 175 k = nI a then 1 else 0) i) + (0 : Int32))), (9, .ref (Γ.2.1 + (pB 4 i))), (8, .int (nI i)), (7, .int (nI L)), (6, .ref (Γ.2.1 + (pA 4))), (3, .int (nI a)), (2, .ref (Γ.2.1 + pb)), (1, .ref (b2 + 0)), (0, .ref (Γ.2.1 + ks))]) hx hb dX12_isSame_252 hl (by decide) rfl fun ls hl => ?_
      refine lv_iinc (k := 3) (v := ((nI i) + 1)) (lv' := [(8, .int ((nI i) + 1)), (5, .int ((row_t (fun k => if u 175 k = nI a then u 174 k else 0) i) + (0 : Int32))), (4, .int ((row_t (fun k => if u 175 k = nI a then 1 else 0) i) + (0 : Int32))), (9, .ref (Γ.2.1 + (pB 4 i))), (7, .int (nI L)), (6, .ref (Γ.2.1 + (pA 4))), (3, .int (nI a)), (2, .ref (Γ.2.1 + pb)), (1, .ref (b2 + 0)), (0, .ref (Γ.2.1 + ks))]) hx hb dX12_isSame_254 hl rfl rfl (by decide) rfl fun ls hl => ?_
      refine lv_goto (tgt := 201) hx hb dX12_isSame_257 rfl ?_
      have e4 : (row_t (fun k => if u 175 k = nI a then 1 else 0) i) + 0 = (row_t (fun k => if u 175 k = nI a then 1 else 0) (i + 1)) := by show _ = row_t _ i + (if u 175 i = nI a then 1 else 0); rw [if_neg ho]
      have e5 : (row_t (fun k => if u 175 k = nI a then u 174 k else 0) i) + 0 = (row_t (fun k => if u 175 k = nI a then u 174 k else 0) (i + 1)) := by show _ = row_t _ i + (if u 175 i = nI a then u 174 i else 0); rw [if_neg ho]
      rw [ni_s, e4, e5] at hl
      have hl := lv_sub hl [0, 4, 5, 1, 2, 6, 7, 8, 9] rfl
      exact ih (i + 1) (by omega) _ hl
theorem is_own (hX : XM Γ b2 p l s m args c cX12_isSame 10 RX12 shb) (hFR : 12 ≤ R.frames ∧ 480 ≤ R.locals) {pb d1 d2 : Nat} (hEC : EC Γ shC d1 d2) (ha : a < M) (hroom : c0 + 8 * M ≤ R.cells ∧ s0 + 48 * M ≤ R.slots)
    (kk : ∀ (sh : Sh) (v : Va) (n : Nat) (vb : Va) (H1 : Heap) (locs1 : List Loc) (ls : Array Slot), lv_has ls 10 [(3, .int (nI a)), (2, .ref (Γ.2.1 + pb)), (1, .ref (b2 + 0)), (0, .ref (Γ.2.1 + ks))] → DL Γ b2 s w wb shb sh0 n0 ks pA pB S G M L O u u P sh v n vb H1 locs1 → W p l e R s m args below meth c H1 locs1 (c0 + 8 * M) (s0 + 48 * M) Q (F0 m 404 ls [])) :
    ∀ (j i : Nat), i + j = M → ∀ (sh : Sh) (v : Va) (n : Nat) (vb : Va) (H1 : Heap) (locs1 : List Loc) (ls : Array Slot), lv_has ls 10 [(7, .int (nI i)), (3, .int (nI a)), (2, .ref (Γ.2.1 + pb)), (1, .ref (b2 + 0)), (0, .ref (Γ.2.1 + ks))] → DL Γ b2 s w wb shb sh0 n0 ks pA pB S G M L O u u P sh v n vb H1 locs1 → W p l e R s m args below meth c H1 locs1 (c0 + 8 * i) (s0 + 48 * i) Q (F0 m 350 ls []) := by
  obtain ⟨hx, hb, hml, hts, hown, hK, hE, hb2, hkq, hEX, hlt, -⟩ := (⟨hX.1, hX.2.1, hX.2.2.1, hX.2.2.2.1, hX.2.2.2.2.1, hX.2.2.2.2.2.1, hX.2.2.2.2.2.2.1, hX.2.2.2.2.2.2.2.1, hX.2.2.2.2.2.2.2.2.1, hX.2.2.2.2.2.2.2.2.2.1, hX.2.2.2.2.2.2.2.2.2.2, trivial⟩ : _ ∧ _ ∧ _ ∧ _ ∧ _ ∧ _ ∧ _ ∧ _ ∧ _ ∧ _ ∧ _ ∧ True)
  intro j
  induction j with
  | zero =>
    intro i hij sh v n vb H1 locs1 ls hl hL
    have hi : i = M := by omega
    have hB := hL.qi.2.2.2.2.2.1
    refine lv_iload hx hb dX12_isSame_350 (lv_at hl 0 rfl) ?_
    refine lv_aload_n hx hb dX12_isSame_352 rfl (lv_at hl 4 rfl) ?_
    refine w_gr hx hb hts hown hK hL.hP fX12_22 hL.ik.1 rfl dX12_isSame_353 ?_
    refine w_alenR hx hb hK hL.hP hL.ik.2.2.2.1.1 dX12_isSame_356 ?_
    rw [show pn_ S G M L O 2 = M from rfl]
    refine lv_icmp_ge (tgt := 404) hx hb dX12_isSame_357 rfl (fun _ => ?_) (fun q => absurd (by rw [hi]; exact Int32.le_refl _) q)
    rw [hi]
    exact kk sh v n vb H1 locs1 ls (lv_sub hl [1, 2, 3, 4] rfl) hL
  | succ j ih =>
    intro i hij sh v n vb H1 locs1 ls hl hL
    have hi : i < M := by omega
    have hB := hL.qi.2.2.2.2.2.1
    have hM6 : M ≤ 6 := hB.2.2.1
    refine lv_iload hx hb dX12_isSame_350 (lv_at hl 0 rfl) ?_
    refine lv_aload_n hx hb dX12_isSame_352 rfl (lv_at hl 4 rfl) ?_
    refine w_gr hx hb hts hown hK hL.hP fX12_22 hL.ik.1 rfl dX12_isSame_353 ?_
    refine w_alenR hx hb hK hL.hP hL.ik.2.2.2.1.1 dX12_isSame_356 ?_
    rw [show pn_ S G M L O 2 = M from rfl]
    refine lv_icmp_ge (tgt := 404) hx hb dX12_isSame_357 rfl (fun q => absurd ((le_n (i := M) (j := i) (by omega) (by omega)).mp q) (by omega)) (fun _ => ?_)
    refine lv_aload_n hx hb dX12_isSame_360 rfl (lv_at hl 3 rfl) ?_
    refine lv_iload_n hx hb dX12_isSame_361 rfl (lv_at hl 1 rfl) ?_
    refine lv_iload hx hb dX12_isSame_362 (lv_at hl 0 rfl) ?_
    refine y_c0 hX hL (fun nb => c_Quay_owes hkq hEX hlt (q_owes hL.qi ha hi)) kX11_owes xlX12_109 rfl rfl rfl hl.1 (Nat.le_of_ble_eq_true rfl) ⟨by omega, by omega⟩ ⟨by omega, by omega⟩ dX12_isSame_364 fun H1 locs1 hL => ?_
    refine lv_aload_n hx hb dX12_isSame_367 rfl (lv_at hl 4 rfl) ?_
    refine w_gr hx hb hts hown hK hL.hP fX12_25 hL.ik.1 rfl dX12_isSame_368 ?_
    refine lv_iload_n hx hb dX12_isSame_371 rfl (lv_at hl 1 rfl) ?_
    refine z_aald hx hb hK hL.hP hL.ik.2.2.2.2.1.1 (i := nI a) (vin ha (show M ≤ 1000000 by omega)) dX12_isSame_372 ?_
    rw [nI_clamp (by omega)]
    refine lv_iload hx hb dX12_isSame_373 (lv_at hl 0 rfl) ?_
    refine w_iald hx hb hK hL.hP (hL.ik.2.2.2.2.1.2 a ha) (i := nI i) (vin hi (show M ≤ 1000000 by omega)) dX12_isSame_375 ?_
    rw [nI_clamp (by omega), hL.sr.owes ha hi]
    refine lv_icmp_ne (tgt := 396) hx hb dX12_isSame_376 rfl (fun q => absurd rfl q) (fun _ => ?_)
    obtain ⟨x, v2, hc1, hc2, hc3⟩ := q_chain hL.qi (by omega) ha hi
    refine lv_aload_n hx hb dX12_isSame_379 rfl (lv_at hl 3 rfl) ?_
    refine lv_iload_n hx hb dX12_isSame_380 rfl (lv_at hl 1 rfl) ?_
    refine lv_iload hx hb dX12_isSame_381 (lv_at hl 0 rfl) ?_
    refine y_c1 hX hL hc2 (fun nb => c_Quay_chain hkq hEX hlt hc1) kX11_chain xlX12_111 rfl rfl rfl hl.1 (Nat.le_of_ble_eq_true rfl) ⟨by omega, by omega⟩ ⟨by omega, by omega⟩ dX12_isSame_383 fun H1 locs1 hL => ?_
    refine lv_aload_n hx hb dX12_isSame_386 rfl (lv_at hl 4 rfl) ?_
    refine lv_iload_n hx hb dX12_isSame_387 rfl (lv_at hl 1 rfl) ?_
    refine lv_iload hx hb dX12_isSame_388 (lv_at hl 0 rfl) ?_
    have hso : ∀ b c, b < M → c < M → v (pB 3 b) c = u 180 (6 * b + c) := fun b c hb hc => hL.sr.owes hb hc
    refine y_sg hX hL (c_Sim_chain hL.ik (hL.1.2.2.2.2.1.ec hEC) rfl rfl hM6 ha hi) (fun r u h => ⟨h.2.1, h.2.2.1⟩) kX12_chain mX12_114 rfl rfl rfl hl.1 (Nat.le_of_ble_eq_true rfl) ⟨by omega, by omega⟩ ⟨by omega, by omega⟩ dX12_isSame_390 fun r u9 H1 locs1 hp hL => ?_
    have hrx : r = x := CHS.one (by omega) (CHS.eq ha hi hso hp.1) hc3
    rw [hrx]
    refine lv_icmp_eq (tgt := 398) hx hb dX12_isSame_393 rfl (fun _ => ?_) (fun q => absurd rfl q)
    refine lv_iinc (k := 0) (v := ((nI i) + 1)) (lv' := [(7, .int ((nI i) + 1)), (3, .int (nI a)), (2, .ref (Γ.2.1 + pb)), (1, .ref (b2 + 0)), (0, .ref (Γ.2.1 + ks))]) hx hb dX12_isSame_398 hl rfl rfl (by decide) rfl fun ls hl => ?_
    refine lv_goto (tgt := 350) hx hb dX12_isSame_401 rfl ?_
    rw [ni_s] at hl
    refine W.widen (k := c0 + 8 * (i + 1)) (n := s0 + 48 * (i + 1)) (by omega) (by omega) ?_
    exact ih (i + 1) (by omega) _ _ _ _ _ _ _ hl hL
theorem is_mers (hX : XM Γ b2 p l s m args c cX12_isSame 10 RX12 shb) (hFR : 12 ≤ R.frames ∧ 480 ≤ R.locals) {pb d1 d2 : Nat} {g : Nat → Int32} (hEC : EC Γ shC d1 d2) (hroom : c0 + 60 * M ≤ R.cells ∧ s0 + 1400 * M ≤ R.slots)
    (kk : ∀ (P : Pfn) (sh : Sh) (v : Va) (n : Nat) (vb : Va) (H1 : Heap) (locs1 : List Loc) (ls : Array Slot), lv_has ls 10 [(2, .ref (Γ.2.1 + pb)), (1, .ref (b2 + 0)), (0, .ref (Γ.2.1 + ks))] → DL Γ b2 s w wb shb sh0 n0 ks pA pB S G M L O u u P sh v n vb H1 locs1 → P pb = some (sA G, g) → W p l e R s m args below meth c H1 locs1 (c0 + 60 * M) (s0 + 1400 * M) Q (F0 m 425 ls [])) :
    ∀ (j a : Nat), a + j = M → ∀ (P : Pfn) (sh : Sh) (v : Va) (n : Nat) (vb : Va) (H1 : Heap) (locs1 : List Loc) (ls : Array Slot), lv_has ls 10 [(3, .int (nI a)), (2, .ref (Γ.2.1 + pb)), (1, .ref (b2 + 0)), (0, .ref (Γ.2.1 + ks))] → DL Γ b2 s w wb shb sh0 n0 ks pA pB S G M L O u u P sh v n vb H1 locs1 → P pb = some (sA G, g) → W p l e R s m args below meth c H1 locs1 (c0 + 60 * a) (s0 + 1400 * a) Q (F0 m 172 ls []) := by
  obtain ⟨hx, hb, hml, hts, hown, hK, hE, hb2, hkq, hEX, hlt, -⟩ := (⟨hX.1, hX.2.1, hX.2.2.1, hX.2.2.2.1, hX.2.2.2.2.1, hX.2.2.2.2.2.1, hX.2.2.2.2.2.2.1, hX.2.2.2.2.2.2.2.1, hX.2.2.2.2.2.2.2.2.1, hX.2.2.2.2.2.2.2.2.2.1, hX.2.2.2.2.2.2.2.2.2.2, trivial⟩ : _ ∧ _ ∧ _ ∧ _ ∧ _ ∧ _ ∧ _ ∧ _ ∧ _ ∧ _ ∧ _ ∧ True)
  intro j
  induction j with
  | zero =>
    intro a hij P sh v n vb H1 locs1 ls hl hL hPb
    have hi : a = M := by omega
    have hB := hL.qi.2.2.2.2.2.1
    refine lv_iload_n hx hb dX12_isSame_172 rfl (lv_at hl 0 rfl) ?_
    refine lv_aload_n hx hb dX12_isSame_173 rfl (lv_at hl 3 rfl) ?_
    refine w_gr hx hb hts hown hK hL.hP fX12_22 hL.ik.1 rfl dX12_isSame_174 ?_
    refine w_alenR hx hb hK hL.hP hL.ik.2.2.2.1.1 dX12_isSame_177 ?_
    rw [show pn_ S G M L O 2 = M from rfl]
    refine lv_icmp_ge (tgt := 425) hx hb dX12_isSame_178 rfl (fun _ => ?_) (fun q => absurd (by rw [hi]; exact Int32.le_refl _) q)
    rw [hi]
    exact kk P sh v n vb H1 locs1 ls (lv_sub hl [1, 2, 3] rfl) hL hPb
  | succ j ih =>
    intro a hij P sh v n vb H1 locs1 ls hl hL hPb
    have ha : a < M := by omega
    have hB := hL.qi.2.2.2.2.2.1
    have hM6 : M ≤ 6 := hB.2.2.1
    have hID : ID (u 180) M := hL.qi.2.2.2.1.2.2.2.2.1
    have hn0 : P n = none := hL.nope
    have hne : pb ≠ n := fun h => by rw [h, hn0] at hPb; cases hPb
    refine lv_iload_n hx hb dX12_isSame_172 rfl (lv_at hl 0 rfl) ?_
    refine lv_aload_n hx hb dX12_isSame_173 rfl (lv_at hl 3 rfl) ?_
    refine w_gr hx hb hts hown hK hL.hP fX12_22 hL.ik.1 rfl dX12_isSame_174 ?_
    refine w_alenR hx hb hK hL.hP hL.ik.2.2.2.1.1 dX12_isSame_177 ?_
    rw [show pn_ S G M L O 2 = M from rfl]
    refine lv_icmp_ge (tgt := 425) hx hb dX12_isSame_178 rfl (fun q => absurd ((le_n (i := M) (j := a) (by omega) (by omega)).mp q) (by omega)) (fun _ => ?_)
    refine lv_iconst (v := 0) hx hb dX12_isSame_181 rfl ?_
    refine lv_istore (lv' := [(4, .int 0), (3, .int (nI a)), (2, .ref (Γ.2.1 + pb)), (1, .ref (b2 + 0)), (0, .ref (Γ.2.1 + ks))]) hx hb dX12_isSame_182 hl (by decide) rfl fun ls hl => ?_
    refine lv_iconst (v := 0) hx hb dX12_isSame_184 rfl ?_
    refine lv_istore (lv' := [(5, .int 0), (4, .int 0), (3, .int (nI a)), (2, .ref (Γ.2.1 + pb)), (1, .ref (b2 + 0)), (0, .ref (Γ.2.1 + ks))]) hx hb dX12_isSame_185 hl (by decide) rfl fun ls hl => ?_
    refine lv_aload_n hx hb dX12_isSame_187 rfl (lv_at hl 5 rfl) ?_
    refine w_gr hx hb hts hown hK hL.hP fX12_28 hL.ik.1 rfl dX12_isSame_188 ?_
    refine lv_astore (lv' := [(6, .ref (Γ.2.1 + (pA 4))), (5, .int 0), (4, .int 0), (3, .int (nI a)), (2, .ref (Γ.2.1 + pb)), (1, .ref (b2 + 0)), (0, .ref (Γ.2.1 + ks))]) hx hb dX12_isSame_191 hl (by decide) rfl fun ls hl => ?_
    refine lv_aload hx hb dX12_isSame_193 (lv_at hl 0 rfl) ?_
    refine w_alenR hx hb hK hL.hP hL.ik.2.2.2.2.2.1.1 dX12_isSame_195 ?_
    rw [show pn_ S G M L O 4 = L from rfl]
    refine lv_istore (lv' := [(7, .int (nI L)), (6, .ref (Γ.2.1 + (pA 4))), (5, .int 0), (4, .int 0), (3, .int (nI a)), (2, .ref (Γ.2.1 + pb)), (1, .ref (b2 + 0)), (0, .ref (Γ.2.1 + ks))]) hx hb dX12_isSame_196 hl (by decide) rfl fun ls hl => ?_
    refine lv_iconst (v := 0) hx hb dX12_isSame_198 rfl ?_
    refine lv_istore (lv' := [(8, .int 0), (7, .int (nI L)), (6, .ref (Γ.2.1 + (pA 4))), (5, .int 0), (4, .int 0), (3, .int (nI a)), (2, .ref (Γ.2.1 + pb)), (1, .ref (b2 + 0)), (0, .ref (Γ.2.1 + ks))]) hx hb dX12_isSame_199 hl (by decide) rfl fun ls hl => ?_
    refine is_sum (a := a) hX hFR hL (fun ls hl => ?_) L 0 (by omega) ls hl
    refine lv_bipush (v := 6) hx hb dX12_isSame_260 rfl ?_
    refine y_new (x := nI 6) (N := 6) hX hL (nI_pos (by omega)) (nI_clamp (by omega)) (by omega) (by omega) (by omega) dX12_isSame_262 fun H1 hL => ?_
    refine lv_dup hx hb dX12_isSame_264 rfl ?_
    refine lv_iconst (v := 0) hx hb dX12_isSame_265 rfl ?_
    refine lv_aload_n hx hb dX12_isSame_266 rfl (lv_at hl 5 rfl) ?_
    refine w_gr hx hb hts hown hK hL.hP fX12_22 hL.ik.1 rfl dX12_isSame_267 ?_
    refine lv_iload_n hx hb dX12_isSame_270 rfl (lv_at hl 2 rfl) ?_
    refine z_aald hx hb hK hL.hP hL.ik.2.2.2.1.1 (i := nI a) (vin ha (show M ≤ 1000000 by omega)) dX12_isSame_271 ?_
    rw [nI_clamp (by omega)]
    refine lv_iconst (v := 0) hx hb dX12_isSame_272 rfl ?_
    refine w_iald hx hb hK hL.hP (hL.ik.2.2.2.1.2 a ha) (i := 0) (vin (i := 0) (by omega) (by omega)) dX12_isSame_273 ?_
    rw [lc_0, hL.sr.coins ha]
    refine y_ia (k := n) hX hL (up_eq _ _ _) (j := 0) lc_0 (vin (i := 0) (by omega) (by omega)) dX12_isSame_274 fun v1 H1 locs1 hL => ?_
    rw [up_up] at hL
    refine lv_dup hx hb dX12_isSame_275 rfl ?_
    refine lv_iconst (v := 1) hx hb dX12_isSame_276 rfl ?_
    refine lv_aload_n hx hb dX12_isSame_277 rfl (lv_at hl 5 rfl) ?_
    refine w_gr hx hb hts hown hK hL.hP fX12_22 hL.ik.1 rfl dX12_isSame_278 ?_
    refine lv_iload_n hx hb dX12_isSame_281 rfl (lv_at hl 2 rfl) ?_
    refine z_aald hx hb hK hL.hP hL.ik.2.2.2.1.1 (i := nI a) (vin ha (show M ≤ 1000000 by omega)) dX12_isSame_282 ?_
    rw [nI_clamp (by omega)]
    refine lv_iconst (v := 1) hx hb dX12_isSame_283 rfl ?_
    refine w_iald hx hb hK hL.hP (hL.ik.2.2.2.1.2 a ha) (i := 1) (vin (i := 1) (by omega) (by omega)) dX12_isSame_284 ?_
    rw [lc_1, hL.sr.credit ha]
    refine y_ia (k := n) hX hL (up_eq _ _ _) (j := 1) lc_1 (vin (i := 1) (by omega) (by omega)) dX12_isSame_285 fun v1 H1 locs1 hL => ?_
    rw [up_up] at hL
    refine lv_dup hx hb dX12_isSame_286 rfl ?_
    refine lv_iconst (v := 2) hx hb dX12_isSame_287 rfl ?_
    refine lv_aload_n hx hb dX12_isSame_288 rfl (lv_at hl 5 rfl) ?_
    refine lv_iload_n hx hb dX12_isSame_289 rfl (lv_at hl 2 rfl) ?_
    refine y_s0 hX hL (c_Sim_debts hL.ik (sim_debts (z := 4001) hL.sr hM6 hID (by omega) ha)) kX12_debts mX12_49 rfl rfl rfl hl.1 (Nat.le_of_ble_eq_true rfl) ⟨by omega, by omega⟩ ⟨by omega, by omega⟩ dX12_isSame_290 fun H1 locs1 hL => ?_
    refine y_ia (k := n) hX hL (up_eq _ _ _) (j := 2) lc_2 (vin (i := 2) (by omega) (by omega)) dX12_isSame_293 fun v1 H1 locs1 hL => ?_
    rw [up_up] at hL
    refine lv_dup hx hb dX12_isSame_294 rfl ?_
    refine lv_iconst (v := 3) hx hb dX12_isSame_295 rfl ?_
    refine lv_aload_n hx hb dX12_isSame_296 rfl (lv_at hl 5 rfl) ?_
    refine lv_iload_n hx hb dX12_isSame_297 rfl (lv_at hl 2 rfl) ?_
    refine y_s0 hX hL (c_Sim_owed hL.ik (sim_owed (z := 4001) hL.sr hM6 hID (by omega) ha)) kX12_owed mX12_103 rfl rfl rfl hl.1 (Nat.le_of_ble_eq_true rfl) ⟨by omega, by omega⟩ ⟨by omega, by omega⟩ dX12_isSame_298 fun H1 locs1 hL => ?_
    refine y_ia (k := n) hX hL (up_eq _ _ _) (j := 3) lc_3 (vin (i := 3) (by omega) (by omega)) dX12_isSame_301 fun v1 H1 locs1 hL => ?_
    rw [up_up] at hL
    refine lv_dup hx hb dX12_isSame_302 rfl ?_
    refine lv_iconst (v := 4) hx hb dX12_isSame_303 rfl ?_
    refine lv_iload hx hb dX12_isSame_304 (lv_at hl 1 rfl) ?_
    refine y_ia (k := n) hX hL (up_eq _ _ _) (j := 4) lc_4 (vin (i := 4) (by omega) (by omega)) dX12_isSame_306 fun v1 H1 locs1 hL => ?_
    rw [up_up] at hL
    refine lv_dup hx hb dX12_isSame_307 rfl ?_
    refine lv_iconst (v := 5) hx hb dX12_isSame_308 rfl ?_
    refine lv_iload hx hb dX12_isSame_309 (lv_at hl 0 rfl) ?_
    refine y_ia (k := n) hX hL (up_eq _ _ _) (j := 5) lc_5 (vin (i := 5) (by omega) (by omega)) dX12_isSame_311 fun v1 H1 locs1 hL => ?_
    rw [up_up] at hL
    refine lv_astore (lv' := [(6, .ref (Γ.2.1 + n)), (5, .int (row_t (fun k => if u 175 k = nI a then u 174 k else 0) L)), (4, .int (row_t (fun k => if u 175 k = nI a then 1 else 0) L)), (3, .int (nI a)), (2, .ref (Γ.2.1 + pb)), (1, .ref (b2 + 0)), (0, .ref (Γ.2.1 + ks))]) hx hb dX12_isSame_312 hl (by decide) rfl fun ls hl => ?_
    refine lv_iconst (v := 0) hx hb dX12_isSame_314 rfl ?_
    refine lv_istore (lv' := [(7, .int 0), (6, .ref (Γ.2.1 + n)), (5, .int (row_t (fun k => if u 175 k = nI a then u 174 k else 0) L)), (4, .int (row_t (fun k => if u 175 k = nI a then 1 else 0) L)), (3, .int (nI a)), (2, .ref (Γ.2.1 + pb)), (1, .ref (b2 + 0)), (0, .ref (Γ.2.1 + ks))]) hx hb dX12_isSame_315 hl (by decide) rfl fun ls hl => ?_
    refine W.widen (k := c0 + 60 * a + 1) (n := s0 + 1400 * a + 6) (by omega) (by omega) ?_
    refine is_mer hX hFR ha (up_eq _ _ _) (fun q hq => ?_) ⟨by omega, by omega⟩ (fun vb H1 locs1 ls hl hL => ?_) 6 0 rfl _ _ _ ls (lv_sub hl [0, 1, 4, 5, 6, 7] rfl) hL
    · rcases (by omega : q = 0 ∨ q = 1 ∨ q = 2 ∨ q = 3 ∨ q = 4 ∨ q = 5) with rfl | rfl | rfl | rfl | rfl | rfl <;> rfl
    refine lv_iconst (v := 0) hx hb dX12_isSame_347 rfl ?_
    refine lv_istore (lv' := [(7, .int 0), (6, .ref (Γ.2.1 + n)), (3, .int (nI a)), (2, .ref (Γ.2.1 + pb)), (1, .ref (b2 + 0)), (0, .ref (Γ.2.1 + ks))]) hx hb dX12_isSame_348 hl (by decide) rfl fun ls hl => ?_
    refine W.widen (k := c0 + 60 * a + 7) (n := s0 + 1400 * a + 42) (by omega) (by omega) ?_
    refine is_own (c0 := c0 + 60 * a + 7) (s0 := s0 + 1400 * a + 42) hX hFR hEC ha ⟨by omega, by omega⟩ (fun sh v n vb H1 locs1 ls hl hL => ?_) M 0 (by omega) _ _ _ _ _ _ ls (lv_sub hl [0, 2, 3, 4, 5] rfl) hL
    refine W.widen (k := c0 + 60 * a + 55) (n := s0 + 1400 * a + 330) (by omega) (by omega) ?_
    obtain ⟨x, v2, hr1, hr2, hr3⟩ := q_ring hL.qi (by omega) ha
    refine lv_aload_n hx hb dX12_isSame_404 rfl (lv_at hl 2 rfl) ?_
    refine lv_iload_n hx hb dX12_isSame_405 rfl (lv_at hl 0 rfl) ?_
    refine y_c1 hX hL hr2 (fun nb => c_Quay_ring hkq hEX hlt hr1) kX11_ring xlX12_115 rfl rfl rfl hl.1 (Nat.le_of_ble_eq_true rfl) ⟨by omega, by omega⟩ ⟨by omega, by omega⟩ dX12_isSame_406 fun H1 locs1 hL => ?_
    refine lv_aload_n hx hb dX12_isSame_409 rfl (lv_at hl 3 rfl) ?_
    refine lv_iload_n hx hb dX12_isSame_410 rfl (lv_at hl 0 rfl) ?_
    have hoff : ∀ j i f, vQ S G M L O j i f → smQ ks pA pB j i ≠ n := fun j i f hq => by have := smQ_lt hL.ik hL.ddm hq; omega
    have eX : pu (up v n (fun _ => 0)) n (nI a).toNatClampNeg 1 = up v n (upd (fun _ => 0) a 1) := by rw [nI_clamp (by omega)]; exact pu_up
    obtain ⟨y9, hq1, hq2, hq3, hq4⟩ := dfs (z := 4001) hM6 ha hID hoff (by omega) 7 (up v n (upd (fun _ => 0) a 1)) a 2147483647 (hL.sr.off hoff) (Nat.lt_of_le_of_lt (uns_le M) (by omega)) ha (by decide)
    rw [← eX] at hq1
    have hyx : y9 = x := by
      refine RG.one hr3 hq2 (fun g X h1 h2 h3 => hq3 g X h1 h2 h3 (Or.inl rfl)) (fun t k h1 h2 h3 => hq4 t k h1 (by show t ≤ 2147483647; exact h2) (RW_congr (fun y hy => ?_) k a h3))
      show y = a ↔ up v n (upd (fun _ => 0) a 1) n y ≠ 0
      rw [up_eq]
      by_cases h9 : y = a
      · subst h9; rw [upd_eq]; exact ⟨fun _ => by decide, fun _ => rfl⟩
      · rw [upd_ne h9]; exact ⟨fun h => absurd h h9, fun h => absurd rfl h⟩
    refine y_sg hX hL (c_Sim_ring (d := 7) (z := 4001) hL.ik (vin ha (show M ≤ 1000000 by omega)) (show M ≤ 1000 by omega) hq1) (fun r u h => ⟨by rw [h.2]; exact GR.rf.nw, fun q hq => by rw [h.2]; show pu (up v n (fun _ => 0)) n (nI a).toNatClampNeg 1 q = v q; rw [eX]; exact up_ne (by omega)⟩) kX12_ring mX12_118 rfl rfl rfl hl.1 (Nat.le_of_ble_eq_true rfl) ⟨by omega, by omega⟩ ⟨by omega, by omega⟩ dX12_isSame_411 fun r u9 H1 locs1 hp hL => ?_
    rw [hp.1, hyx]
    refine lv_icmp_eq (tgt := 419) hx hb dX12_isSame_414 rfl (fun _ => ?_) (fun q => absurd rfl q)
    refine lv_iinc (k := 0) (v := ((nI a) + 1)) (lv' := [(3, .int ((nI a) + 1)), (2, .ref (Γ.2.1 + pb)), (1, .ref (b2 + 0)), (0, .ref (Γ.2.1 + ks))]) hx hb dX12_isSame_419 hl rfl rfl (by decide) rfl fun ls hl => ?_
    refine lv_goto (tgt := 172) hx hb dX12_isSame_422 rfl ?_
    rw [ni_s] at hl
    refine W.widen (k := c0 + 60 * (a + 1)) (n := s0 + 1400 * (a + 1)) (by omega) (by omega) ?_
    exact ih (a + 1) (by omega) _ _ _ _ _ _ _ _ hl hL ((up_ne hne).trans hPb)
end IB
