/-! THE LAW: guilds and lots -/
section LA9
variable {p : Program} {l : Launch} {e : Env} {R : Room} {s : State} {m : MethodId} {args : Array Value} {below : List Frame} {meth : Method} {c : Code} {H H0 : Heap} {locs : List Loc} {cells slots : Nat} {Q : State → Prop}
variable {cc : ByteArray} {pc nL : Nat} {ls : Array Slot} {st0 rest As Bs : List Value} {Γ : Cx} {sh sh0 shb : Sh} {v v0 v1 vb vb1 : Va} {w wb : Vl} {own : String} {idx ci j k n n0 nb nn hh mL mc ms a b2 ks S G M L O d1 d2 c0 s0 : Nat} {cs : List Nat} {y : MethodName} {b : ByteArray} {ret : Option FieldType} {pA : Nat → Nat} {pB : Nat → Nat → Nat} {u ua ub ua1 ub1 : Va} {P : Pfn}
variable {x9 A9 : Int32} {t9 kw kb b0 : Nat} {T : Int} {B : Nat}
theorem lw_gui (hX : XM Γ b2 p l s m args c cL_law 31 RL shb) (hFR : 14 ≤ R.frames ∧ 560 ≤ R.locals) (hroom : c0 + 2 * G ≤ R.cells ∧ s0 + 12 * G ≤ R.slots)
    (kk : ∀ (vb : Va) (H1 : Heap) (locs1 : List Loc) (ls : Array Slot), lv_has ls 31 [(13, .int (row_t (fun g => gU u L g 3) G)), (12, .int (row_t (u 181) G)), (11, .int x9), (10, .int (nI t9)), (9, .ref (Γ.2.1 + kw)), (8, .int A9), (7, .int (nI O)), (6, .int (nI G)), (5, .int (nI L)), (4, .int (nI M)), (3, .ref (b2 + 0)), (2, .ref (Γ.2.1 + ks)), (1, .ref (Γ.2.1 + kb)), (0, .ref b0)] → DL Γ b2 s w wb shb sh0 n0 ks pA pB S G M L O u u P sh v n vb H1 locs1 → W p l e R s m args below meth c H1 locs1 (c0 + 2 * G) (s0 + 12 * G) Q (F0 m 200 ls [])) :
    ∀ (j i : Nat), i + j = G → ∀ (vb : Va) (H1 : Heap) (locs1 : List Loc) (ls : Array Slot), lv_has ls 31 [(14, .int (nI i)), (13, .int (row_t (fun g => gU u L g 3) i)), (12, .int (row_t (u 181) i)), (11, .int x9), (10, .int (nI t9)), (9, .ref (Γ.2.1 + kw)), (8, .int A9), (7, .int (nI O)), (6, .int (nI G)), (5, .int (nI L)), (4, .int (nI M)), (3, .ref (b2 + 0)), (2, .ref (Γ.2.1 + ks)), (1, .ref (Γ.2.1 + kb)), (0, .ref b0)] → DL Γ b2 s w wb shb sh0 n0 ks pA pB S G M L O u u P sh v n vb H1 locs1 → W p l e R s m args below meth c H1 locs1 (c0 + 2 * i) (s0 + 12 * i) Q (F0 m 163 ls []) := by
  obtain ⟨hx, hb, hml, hts, hown, hK, hE, hb2, hkq, hEX, hlt, -⟩ := (⟨hX.1, hX.2.1, hX.2.2.1, hX.2.2.2.1, hX.2.2.2.2.1, hX.2.2.2.2.2.1, hX.2.2.2.2.2.2.1, hX.2.2.2.2.2.2.2.1, hX.2.2.2.2.2.2.2.2.1, hX.2.2.2.2.2.2.2.2.2.1, hX.2.2.2.2.2.2.2.2.2.2, trivial⟩ : _ ∧ _ ∧ _ ∧ _ ∧ _ ∧ _ ∧ _ ∧ _ ∧ _ ∧ _ ∧ _ ∧ True)
  intro j
  induction j with
  | zero =>
    intro i hij vb H1 locs1 ls hl hL
    have hi : i = G := by omega
    rw [hi] at hl ⊢
    refine lv_iload hx hb dL_law_163 (lv_at hl 0 rfl) ?_
    refine lv_iload hx hb dL_law_165 (lv_at hl 8 rfl) ?_
    refine lv_icmp_ge (tgt := 200) hx hb dL_law_167 rfl (fun _ => ?_) (fun q => absurd (Int32.le_refl _) q)
    exact kk vb H1 locs1 ls (lv_sub hl [1, 2, 3, 4, 5, 6, 7, 8, 9, 10, 11, 12, 13, 14] rfl) hL
  | succ j ih =>
    intro i hij vb H1 locs1 ls hl hL
    have hi : i < G := by omega
    have hB := hL.qi.2.2.2.2.2.1
    refine lv_iload hx hb dL_law_163 (lv_at hl 0 rfl) ?_
    refine lv_iload hx hb dL_law_165 (lv_at hl 8 rfl) ?_
    refine lv_icmp_ge (tgt := 200) hx hb dL_law_167 rfl (fun q => absurd ((le_n (i := G) (j := i) (by omega) (by omega)).mp q) (by omega)) (fun _ => ?_)
    refine lv_iload hx hb dL_law_170 (lv_at hl 2 rfl) ?_
    refine lv_aload_n hx hb dL_law_172 rfl (lv_at hl 11 rfl) ?_
    refine lv_iload hx hb dL_law_173 (lv_at hl 0 rfl) ?_
    refine lv_iconst (v := 2) hx hb dL_law_175 rfl ?_
    refine y_c0 hX hL (fun nb => c_Quay_guild hkq hEX hlt (q_gui hL.qi (by omega) hi (w := 2) (by omega))) kX11_guild xlL_255 rfl rfl rfl hl.1 (Nat.le_of_ble_eq_true rfl) ⟨by omega, by omega⟩ ⟨by omega, by omega⟩ dL_law_176 fun H1 locs1 hL => ?_
    refine lv_iadd hx hb dL_law_179 ?_
    refine lv_istore (lv' := [(12, .int ((row_t (u 181) i) + (u 181 i))), (14, .int (nI i)), (13, .int (row_t (fun g => gU u L g 3) i)), (11, .int x9), (10, .int (nI t9)), (9, .ref (Γ.2.1 + kw)), (8, .int A9), (7, .int (nI O)), (6, .int (nI G)), (5, .int (nI L)), (4, .int (nI M)), (3, .ref (b2 + 0)), (2, .ref (Γ.2.1 + ks)), (1, .ref (Γ.2.1 + kb)), (0, .ref b0)]) hx hb dL_law_180 hl (by decide) rfl fun ls hl => ?_
    refine lv_iload hx hb dL_law_182 (lv_at hl 2 rfl) ?_
    refine lv_aload_n hx hb dL_law_184 rfl (lv_at hl 11 rfl) ?_
    refine lv_iload hx hb dL_law_185 (lv_at hl 1 rfl) ?_
    refine lv_iconst (v := 3) hx hb dL_law_187 rfl ?_
    refine y_c0 hX hL (fun nb => c_Quay_guild hkq hEX hlt (q_gui hL.qi (by omega) hi (w := 3) (by omega))) kX11_guild xlL_255 rfl rfl rfl hl.1 (Nat.le_of_ble_eq_true rfl) ⟨by omega, by omega⟩ ⟨by omega, by omega⟩ dL_law_188 fun H1 locs1 hL => ?_
    refine lv_iadd hx hb dL_law_191 ?_
    refine lv_istore (lv' := [(13, .int ((row_t (fun g => gU u L g 3) i) + (gU u L i 3))), (12, .int ((row_t (u 181) i) + (u 181 i))), (14, .int (nI i)), (11, .int x9), (10, .int (nI t9)), (9, .ref (Γ.2.1 + kw)), (8, .int A9), (7, .int (nI O)), (6, .int (nI G)), (5, .int (nI L)), (4, .int (nI M)), (3, .ref (b2 + 0)), (2, .ref (Γ.2.1 + ks)), (1, .ref (Γ.2.1 + kb)), (0, .ref b0)]) hx hb dL_law_192 hl (by decide) rfl fun ls hl => ?_
    refine lv_iinc (k := 2) (v := ((nI i) + 1)) (lv' := [(14, .int ((nI i) + 1)), (13, .int ((row_t (fun g => gU u L g 3) i) + (gU u L i 3))), (12, .int ((row_t (u 181) i) + (u 181 i))), (11, .int x9), (10, .int (nI t9)), (9, .ref (Γ.2.1 + kw)), (8, .int A9), (7, .int (nI O)), (6, .int (nI G)), (5, .int (nI L)), (4, .int (nI M)), (3, .ref (b2 + 0)), (2, .ref (Γ.2.1 + ks)), (1, .ref (Γ.2.1 + kb)), (0, .ref b0)]) hx hb dL_law_194 hl rfl rfl (by decide) rfl fun ls hl => ?_
    refine lv_goto (tgt := 163) hx hb dL_law_197 rfl ?_
    rw [ni_s] at hl
    refine W.widen (k := c0 + 2 * (i + 1)) (n := s0 + 12 * (i + 1)) (by omega) (by omega) ?_
    exact ih (i + 1) (by omega) _ _ _ ls (lv_sub hl [0, 1, 2, 3, 4, 5, 6, 7, 8, 9, 10, 11, 12, 13, 14] rfl) hL
theorem lw_lots (hX : XM Γ b2 p l s m args c cL_law 31 RL shb) (hFR : 14 ≤ R.frames ∧ 560 ≤ R.locals) {e12 e13 : Int32} (hn0 : n0 ≤ kw) (hroom : c0 + 10 * L ≤ R.cells ∧ s0 + 60 * L ≤ R.slots)
    (kk : ∀ (P : Pfn) (v : Va) (vb : Va) (H1 : Heap) (locs1 : List Loc) (ls : Array Slot) (g : Nat → Int32), lv_has ls 31 [(14, .int (row_t (fun k => if u 176 k = -1 then 0 else 1) L)), (13, .int e13), (12, .int e12), (11, .int x9), (10, .int (nI t9)), (9, .ref (Γ.2.1 + kw)), (8, .int A9), (7, .int (nI O)), (6, .int (nI G)), (5, .int (nI L)), (4, .int (nI M)), (3, .ref (b2 + 0)), (2, .ref (Γ.2.1 + ks)), (1, .ref (Γ.2.1 + kb)), (0, .ref b0)] → DL Γ b2 s w wb shb sh0 n0 ks pA pB S G M L O u u P sh v n vb H1 locs1 → P kw = some (sA L, g) → (∀ k, k < L → (u 174 k).toInt ≤ (g k).toInt) → W p l e R s m args below meth c H1 locs1 (c0 + 10 * L) (s0 + 60 * L) Q (F0 m 384 ls [])) :
    ∀ (j i : Nat), i + j = L → ∀ (P : Pfn) (v : Va) (vb : Va) (H1 : Heap) (locs1 : List Loc) (ls : Array Slot) (g : Nat → Int32), lv_has ls 31 [(15, .int (nI i)), (14, .int (row_t (fun k => if u 176 k = -1 then 0 else 1) i)), (13, .int e13), (12, .int e12), (11, .int x9), (10, .int (nI t9)), (9, .ref (Γ.2.1 + kw)), (8, .int A9), (7, .int (nI O)), (6, .int (nI G)), (5, .int (nI L)), (4, .int (nI M)), (3, .ref (b2 + 0)), (2, .ref (Γ.2.1 + ks)), (1, .ref (Γ.2.1 + kb)), (0, .ref b0)] → DL Γ b2 s w wb shb sh0 n0 ks pA pB S G M L O u u P sh v n vb H1 locs1 → P kw = some (sA L, g) → (∀ k, k < L → (u 174 k).toInt ≤ (g k).toInt) → W p l e R s m args below meth c H1 locs1 (c0 + 10 * i) (s0 + 60 * i) Q (F0 m 206 ls []) := by
  obtain ⟨hx, hb, hml, hts, hown, hK, hE, hb2, hkq, hEX, hlt, -⟩ := (⟨hX.1, hX.2.1, hX.2.2.1, hX.2.2.2.1, hX.2.2.2.2.1, hX.2.2.2.2.2.1, hX.2.2.2.2.2.2.1, hX.2.2.2.2.2.2.2.1, hX.2.2.2.2.2.2.2.2.1, hX.2.2.2.2.2.2.2.2.2.1, hX.2.2.2.2.2.2.2.2.2.2, trivial⟩ : _ ∧ _ ∧ _ ∧ _ ∧ _ ∧ _ ∧ _ ∧ _ ∧ _ ∧ _ ∧ _ ∧ True)
  intro j
  induction j with
  | zero =>
    intro i hij P v vb H1 locs1 ls g hl hL hPw hgw
    have hi : i = L := by omega
    rw [hi] at hl ⊢
    refine lv_iload hx hb dL_law_206 (lv_at hl 0 rfl) ?_
    refine lv_iload hx hb dL_law_208 (lv_at hl 10 rfl) ?_
    refine lv_icmp_ge (tgt := 384) hx hb dL_law_210 rfl (fun _ => ?_) (fun q => absurd (Int32.le_refl _) q)
    exact kk P v vb H1 locs1 ls g (lv_sub hl [1, 2, 3, 4, 5, 6, 7, 8, 9, 10, 11, 12, 13, 14, 15] rfl) hL hPw hgw
  | succ j ih =>
    intro i hij P v vb H1 locs1 ls g hl hL hPw hgw
    have hi : i < L := by omega
    have hB := hL.qi.2.2.2.2.2.1
    have hIS := hL.qi.2.2.2.1
    have hG : IG (u 176) (u 177) L G := hIS.2.2.1
    have hge := hG.lt hB.2.1 hi
    have hw9 : 0 ≤ (u 174 i).toInt ∧ (u 174 i).toInt ≤ 9000 := hIS.1.1 i hi
    have hwg := hgw i hi
    obtain ⟨mo, hmo, emo⟩ : ∃ m9, m9 < M ∧ u 175 i = nI m9 := hIS.2.1 i hi
    refine lv_iload hx hb dL_law_206 (lv_at hl 0 rfl) ?_
    refine lv_iload hx hb dL_law_208 (lv_at hl 10 rfl) ?_
    refine lv_icmp_ge (tgt := 384) hx hb dL_law_210 rfl (fun q => absurd ((le_n (i := L) (j := i) (by omega) (by omega)).mp q) (by omega)) (fun _ => ?_)
    refine lv_aload_n hx hb dL_law_213 rfl (lv_at hl 12 rfl) ?_
    refine lv_iload hx hb dL_law_214 (lv_at hl 0 rfl) ?_
    refine lv_iconst (v := 1) hx hb dL_law_216 rfl ?_
    refine y_c0 hX hL (fun nb => c_Quay_lot hkq hEX hlt (q_lot hL.qi hi (w := 1) (by omega))) kX11_lot xlL_249 rfl rfl rfl hl.1 (Nat.le_of_ble_eq_true rfl) ⟨by omega, by omega⟩ ⟨by omega, by omega⟩ dL_law_217 fun H1 locs1 hL => ?_
    refine lv_istore (lv' := [(16, .int (u 174 i)), (15, .int (nI i)), (14, .int (row_t (fun k => if u 176 k = -1 then 0 else 1) i)), (13, .int e13), (12, .int e12), (11, .int x9), (10, .int (nI t9)), (9, .ref (Γ.2.1 + kw)), (8, .int A9), (7, .int (nI O)), (6, .int (nI G)), (5, .int (nI L)), (4, .int (nI M)), (3, .ref (b2 + 0)), (2, .ref (Γ.2.1 + ks)), (1, .ref (Γ.2.1 + kb)), (0, .ref b0)]) hx hb dL_law_220 hl (by decide) rfl fun ls hl => ?_
    refine lv_aload_n hx hb dL_law_222 rfl (lv_at hl 13 rfl) ?_
    refine lv_iload hx hb dL_law_223 (lv_at hl 1 rfl) ?_
    refine lv_iconst (v := 3) hx hb dL_law_225 rfl ?_
    refine y_c0 hX hL (fun nb => c_Quay_lot hkq hEX hlt (q_lot hL.qi hi (w := 3) (by omega))) kX11_lot xlL_249 rfl rfl rfl hl.1 (Nat.le_of_ble_eq_true rfl) ⟨by omega, by omega⟩ ⟨by omega, by omega⟩ dL_law_226 fun H1 locs1 hL => ?_
    refine lv_istore (lv' := [(17, .int (u 176 i)), (16, .int (u 174 i)), (15, .int (nI i)), (14, .int (row_t (fun k => if u 176 k = -1 then 0 else 1) i)), (13, .int e13), (12, .int e12), (11, .int x9), (10, .int (nI t9)), (9, .ref (Γ.2.1 + kw)), (8, .int A9), (7, .int (nI O)), (6, .int (nI G)), (5, .int (nI L)), (4, .int (nI M)), (3, .ref (b2 + 0)), (2, .ref (Γ.2.1 + ks)), (1, .ref (Γ.2.1 + kb)), (0, .ref b0)]) hx hb dL_law_229 hl (by decide) rfl fun ls hl => ?_
    refine lv_iload hx hb dL_law_231 (lv_at hl 1 rfl) ?_
    refine lv_aload hx hb dL_law_233 (lv_at hl 8 rfl) ?_
    refine lv_iload hx hb dL_law_235 (lv_at hl 2 rfl) ?_
    refine y_el (k := kw) hX hL hPw (j := i) (nI_clamp (by omega)) (vin hi (by omega)) rfl dL_law_237 ?_
    refine lv_icmp_gt (tgt := 354) hx hb dL_law_238 rfl (fun q => absurd (Int32.lt_iff_toInt_lt.mp q) (by omega)) (fun _ => ?_)
    refine lv_iload hx hb dL_law_241 (lv_at hl 1 rfl) ?_
    refine lv_if_lt (tgt := 354) hx hb dL_law_243 rfl (fun q => absurd (Int32.lt_iff_toInt_lt.mp q) (by rw [show (0 : Int32).toInt = 0 from rfl]; omega)) (fun _ => ?_)
    refine lv_aload_n hx hb dL_law_246 rfl (lv_at hl 14 rfl) ?_
    refine lv_iload hx hb dL_law_247 (lv_at hl 2 rfl) ?_
    refine lv_iconst (v := 2) hx hb dL_law_249 rfl ?_
    refine y_c0 hX hL (fun nb => c_Quay_lot hkq hEX hlt (q_lot hL.qi hi (w := 2) (by omega))) kX11_lot xlL_249 rfl rfl rfl hl.1 (Nat.le_of_ble_eq_true rfl) ⟨by omega, by omega⟩ ⟨by omega, by omega⟩ dL_law_250 fun H1 locs1 hL => ?_
    refine lv_if_lt (tgt := 354) hx hb dL_law_253 rfl (fun q => absurd q (by rw [show lU u i 2 = nI mo from emo]; exact ni_0 (by omega))) (fun _ => ?_)
    refine lv_aload_n hx hb dL_law_256 rfl (lv_at hl 14 rfl) ?_
    refine lv_iload hx hb dL_law_257 (lv_at hl 2 rfl) ?_
    refine lv_iconst (v := 2) hx hb dL_law_259 rfl ?_
    refine y_c0 hX hL (fun nb => c_Quay_lot hkq hEX hlt (q_lot hL.qi hi (w := 2) (by omega))) kX11_lot xlL_249 rfl rfl rfl hl.1 (Nat.le_of_ble_eq_true rfl) ⟨by omega, by omega⟩ ⟨by omega, by omega⟩ dL_law_260 fun H1 locs1 hL => ?_
    refine lv_iload hx hb dL_law_263 (lv_at hl 13 rfl) ?_
    refine lv_icmp_ge (tgt := 354) hx hb dL_law_265 rfl (fun q => absurd q (by rw [show lU u i 2 = nI mo from emo, le_n (by omega) (by omega)]; omega)) (fun _ => ?_)
    rcases hG i hi with hg | ⟨⟨mm, hmm, hg⟩, -⟩
    · refine lv_iload hx hb dL_law_268 (lv_at hl 0 rfl) ?_
      refine lv_iconst (v := (-1)) hx hb dL_law_270 rfl ?_
      refine lv_icmp_lt (tgt := 354) hx hb dL_law_271 rfl (fun q => absurd q (by rw [hg]; decide)) (fun _ => ?_)
      refine lv_iload hx hb dL_law_274 (lv_at hl 0 rfl) ?_
      refine lv_iload hx hb dL_law_276 (lv_at hl 11 rfl) ?_
      refine lv_icmp_ge (tgt := 354) hx hb dL_law_278 rfl (fun q => absurd q (by rw [hg]; intro hh; have := Int32.le_iff_toInt_le.mp hh; rw [ni_t (by omega), show (-1 : Int32).toInt = -1 from rfl] at this; omega)) (fun _ => ?_)
      refine lv_iload hx hb dL_law_281 (lv_at hl 0 rfl) ?_
      refine lv_if_ge (tgt := 313) hx hb dL_law_283 rfl (fun q => absurd hg (hge.mp q)) (fun _ => ?_)
      refine lv_aload_n hx hb dL_law_286 rfl (lv_at hl 14 rfl) ?_
      refine lv_iload hx hb dL_law_287 (lv_at hl 2 rfl) ?_
      refine lv_iconst (v := 4) hx hb dL_law_289 rfl ?_
      refine y_c0 hX hL (fun nb => c_Quay_lot hkq hEX hlt (q_lot hL.qi hi (w := 4) (by omega))) kX11_lot xlL_249 rfl rfl rfl hl.1 (Nat.le_of_ble_eq_true rfl) ⟨by omega, by omega⟩ ⟨by omega, by omega⟩ dL_law_290 fun H1 locs1 hL => ?_
      refine lv_aload_n hx hb dL_law_293 rfl (lv_at hl 14 rfl) ?_
      refine lv_iload hx hb dL_law_294 (lv_at hl 2 rfl) ?_
      refine lv_iconst (v := 5) hx hb dL_law_296 rfl ?_
      refine y_c0 hX hL (fun nb => c_Quay_lot hkq hEX hlt (q_lot hL.qi hi (w := 5) (by omega))) kX11_lot xlL_249 rfl rfl rfl hl.1 (Nat.le_of_ble_eq_true rfl) ⟨by omega, by omega⟩ ⟨by omega, by omega⟩ dL_law_297 fun H1 locs1 hL => ?_
      refine lv_iadd hx hb dL_law_300 ?_
      refine lv_aload_n hx hb dL_law_301 rfl (lv_at hl 14 rfl) ?_
      refine lv_iload hx hb dL_law_302 (lv_at hl 2 rfl) ?_
      refine lv_bipush (v := 6) hx hb dL_law_304 rfl ?_
      refine y_c0 hX hL (fun nb => c_Quay_lot hkq hEX hlt (q_lot hL.qi hi (w := 6) (by omega))) kX11_lot xlL_249 rfl rfl rfl hl.1 (Nat.le_of_ble_eq_true rfl) ⟨by omega, by omega⟩ ⟨by omega, by omega⟩ dL_law_306 fun H1 locs1 hL => ?_
      refine lv_iadd hx hb dL_law_309 ?_
      refine lv_if_ne (tgt := 354) hx hb dL_law_310 rfl (fun q => absurd (show lU u i 4 + lU u i 5 + lU u i 6 = 0 from by rw [show lU u i 4 = 0 from if_pos hg, show lU u i 5 = 0 from if_pos hg, show lU u i 6 = 0 from by show q_b (decide (u 176 i ≠ -1 ∧ u 173 0 - u 178 i ≤ 5)) = 0; rw [decide_eq_false (fun h => h.1 hg)]; rfl]; rfl) q) (fun _ => ?_)
      refine lv_iload hx hb dL_law_313 (lv_at hl 0 rfl) ?_
      refine lv_if_lt (tgt := 356) hx hb dL_law_315 rfl (fun _ => ?_) (fun q => absurd (by rw [hg]; decide) q)
      refine lv_aload hx hb dL_law_356 (lv_at hl 8 rfl) ?_
      refine lv_iload hx hb dL_law_358 (lv_at hl 2 rfl) ?_
      refine lv_iload hx hb dL_law_360 (lv_at hl 1 rfl) ?_
      refine y_ia (k := kw) hX hL hPw (j := i) (nI_clamp (by omega)) (vin hi (by omega)) dL_law_362 fun v1 H1 locs1 hL => ?_
      refine lv_iload hx hb dL_law_363 (lv_at hl 3 rfl) ?_
      refine lv_iload hx hb dL_law_365 (lv_at hl 0 rfl) ?_
      refine lv_if_lt (tgt := 374) hx hb dL_law_367 rfl (fun _ => ?_) (fun q => absurd (by rw [hg]; decide) q)
      refine lv_iconst (v := 0) hx hb dL_law_374 rfl ?_
      refine lv_iadd hx hb dL_law_375 ?_
      refine lv_istore (lv' := [(14, .int ((row_t (fun k => if u 176 k = -1 then 0 else 1) i) + (0 : Int32))), (17, .int (u 176 i)), (16, .int (u 174 i)), (15, .int (nI i)), (13, .int e13), (12, .int e12), (11, .int x9), (10, .int (nI t9)), (9, .ref (Γ.2.1 + kw)), (8, .int A9), (7, .int (nI O)), (6, .int (nI G)), (5, .int (nI L)), (4, .int (nI M)), (3, .ref (b2 + 0)), (2, .ref (Γ.2.1 + ks)), (1, .ref (Γ.2.1 + kb)), (0, .ref b0)]) hx hb dL_law_376 hl (by decide) rfl fun ls hl => ?_
      refine lv_iinc (k := 3) (v := ((nI i) + 1)) (lv' := [(15, .int ((nI i) + 1)), (14, .int ((row_t (fun k => if u 176 k = -1 then 0 else 1) i) + (0 : Int32))), (17, .int (u 176 i)), (16, .int (u 174 i)), (13, .int e13), (12, .int e12), (11, .int x9), (10, .int (nI t9)), (9, .ref (Γ.2.1 + kw)), (8, .int A9), (7, .int (nI O)), (6, .int (nI G)), (5, .int (nI L)), (4, .int (nI M)), (3, .ref (b2 + 0)), (2, .ref (Γ.2.1 + ks)), (1, .ref (Γ.2.1 + kb)), (0, .ref b0)]) hx hb dL_law_378 hl rfl rfl (by decide) rfl fun ls hl => ?_
      refine lv_goto (tgt := 206) hx hb dL_law_381 rfl ?_
      rw [ni_s, show (row_t (fun k => if u 176 k = -1 then 0 else 1) i) + 0 = (row_t (fun k => if u 176 k = -1 then 0 else 1) (i + 1)) from by show _ = row_t _ i + (if u 176 i = -1 then 0 else 1); rw [if_pos hg]] at hl
      refine W.widen (k := c0 + 10 * (i + 1)) (n := s0 + 60 * (i + 1)) (by omega) (by omega) ?_
      refine ih (i + 1) (by omega) _ _ _ _ _ ls (upd g i (u 174 i)) (lv_sub hl [0, 1, 4, 5, 6, 7, 8, 9, 10, 11, 12, 13, 14, 15, 16, 17] rfl) hL (up_eq _ _ _) (fun k hk => ?_)
      by_cases h9 : k = i
      · rw [h9, upd_eq]; exact Int.le_refl _
      · rw [upd_ne h9]; exact hgw k hk
    · have hm1 : ¬ u 176 i = -1 := by rw [hg, eq_m1 (by omega)]; exact id
      refine lv_iload hx hb dL_law_268 (lv_at hl 0 rfl) ?_
      refine lv_iconst (v := (-1)) hx hb dL_law_270 rfl ?_
      refine lv_icmp_lt (tgt := 354) hx hb dL_law_271 rfl (fun q => absurd q (by rw [hg]; intro hh; have := Int32.lt_iff_toInt_lt.mp hh; rw [ni_t (by omega), show (-1 : Int32).toInt = -1 from rfl] at this; omega)) (fun _ => ?_)
      refine lv_iload hx hb dL_law_274 (lv_at hl 0 rfl) ?_
      refine lv_iload hx hb dL_law_276 (lv_at hl 11 rfl) ?_
      refine lv_icmp_ge (tgt := 354) hx hb dL_law_278 rfl (fun q => absurd q (by rw [hg, le_n (by omega) (by omega)]; omega)) (fun _ => ?_)
      refine lv_iload hx hb dL_law_281 (lv_at hl 0 rfl) ?_
      refine lv_if_ge (tgt := 313) hx hb dL_law_283 rfl (fun _ => ?_) (fun q => absurd (hge.mpr hm1) q)
      refine lv_iload hx hb dL_law_313 (lv_at hl 0 rfl) ?_
      refine lv_if_lt (tgt := 356) hx hb dL_law_315 rfl (fun q => absurd q (by rw [hg]; exact ni_0 (by omega))) (fun _ => ?_)
      refine lv_aload_n hx hb dL_law_318 rfl (lv_at hl 14 rfl) ?_
      refine lv_iload hx hb dL_law_319 (lv_at hl 2 rfl) ?_
      refine lv_bipush (v := 6) hx hb dL_law_321 rfl ?_
      refine y_c0 hX hL (fun nb => c_Quay_lot hkq hEX hlt (q_lot hL.qi hi (w := 6) (by omega))) kX11_lot xlL_249 rfl rfl rfl hl.1 (Nat.le_of_ble_eq_true rfl) ⟨by omega, by omega⟩ ⟨by omega, by omega⟩ dL_law_323 fun H1 locs1 hL => ?_
      by_cases h5 : u 173 0 - u 178 i ≤ 5
      · rw [show lU u i 6 = 1 from by show q_b (decide (u 176 i ≠ -1 ∧ u 173 0 - u 178 i ≤ 5)) = 1; rw [decide_eq_true ⟨hm1, h5⟩]; rfl]
        refine lv_iconst (v := 1) hx hb dL_law_326 rfl ?_
        refine lv_icmp_ne (tgt := 334) hx hb dL_law_327 rfl (fun q => absurd rfl q) (fun _ => ?_)
        refine lv_iconst (v := 1) hx hb dL_law_330 rfl ?_
        refine lv_goto (tgt := 335) hx hb dL_law_331 rfl ?_
        refine lv_aload_n hx hb dL_law_335 rfl (lv_at hl 14 rfl) ?_
        refine lv_iload hx hb dL_law_336 (lv_at hl 2 rfl) ?_
        refine lv_iconst (v := 5) hx hb dL_law_338 rfl ?_
        refine y_c0 hX hL (fun nb => c_Quay_lot hkq hEX hlt (q_lot hL.qi hi (w := 5) (by omega))) kX11_lot xlL_249 rfl rfl rfl hl.1 (Nat.le_of_ble_eq_true rfl) ⟨by omega, by omega⟩ ⟨by omega, by omega⟩ dL_law_339 fun H1 locs1 hL => ?_
        rw [show lU u i 5 = u 173 0 - u 178 i from if_neg hm1]
        refine lv_iconst (v := 5) hx hb dL_law_342 rfl ?_
        refine lv_icmp_gt (tgt := 350) hx hb dL_law_343 rfl (fun q => absurd h5 (Int32.not_le.mpr q)) (fun _ => ?_)
        refine lv_iconst (v := 1) hx hb dL_law_346 rfl ?_
        refine lv_goto (tgt := 351) hx hb dL_law_347 rfl ?_
        refine lv_icmp_eq (tgt := 356) hx hb dL_law_351 rfl (fun _ => ?_) (fun q => absurd rfl q)
        refine lv_aload hx hb dL_law_356 (lv_at hl 8 rfl) ?_
        refine lv_iload hx hb dL_law_358 (lv_at hl 2 rfl) ?_
        refine lv_iload hx hb dL_law_360 (lv_at hl 1 rfl) ?_
        refine y_ia (k := kw) hX hL hPw (j := i) (nI_clamp (by omega)) (vin hi (by omega)) dL_law_362 fun v1 H1 locs1 hL => ?_
        refine lv_iload hx hb dL_law_363 (lv_at hl 3 rfl) ?_
        refine lv_iload hx hb dL_law_365 (lv_at hl 0 rfl) ?_
        refine lv_if_lt (tgt := 374) hx hb dL_law_367 rfl (fun q => absurd q (by rw [hg]; exact ni_0 (by omega))) (fun _ => ?_)
        refine lv_iconst (v := 1) hx hb dL_law_370 rfl ?_
        refine lv_goto (tgt := 375) hx hb dL_law_371 rfl ?_
        refine lv_iadd hx hb dL_law_375 ?_
        refine lv_istore (lv' := [(14, .int ((row_t (fun k => if u 176 k = -1 then 0 else 1) i) + (1 : Int32))), (17, .int (u 176 i)), (16, .int (u 174 i)), (15, .int (nI i)), (13, .int e13), (12, .int e12), (11, .int x9), (10, .int (nI t9)), (9, .ref (Γ.2.1 + kw)), (8, .int A9), (7, .int (nI O)), (6, .int (nI G)), (5, .int (nI L)), (4, .int (nI M)), (3, .ref (b2 + 0)), (2, .ref (Γ.2.1 + ks)), (1, .ref (Γ.2.1 + kb)), (0, .ref b0)]) hx hb dL_law_376 hl (by decide) rfl fun ls hl => ?_
        refine lv_iinc (k := 3) (v := ((nI i) + 1)) (lv' := [(15, .int ((nI i) + 1)), (14, .int ((row_t (fun k => if u 176 k = -1 then 0 else 1) i) + (1 : Int32))), (17, .int (u 176 i)), (16, .int (u 174 i)), (13, .int e13), (12, .int e12), (11, .int x9), (10, .int (nI t9)), (9, .ref (Γ.2.1 + kw)), (8, .int A9), (7, .int (nI O)), (6, .int (nI G)), (5, .int (nI L)), (4, .int (nI M)), (3, .ref (b2 + 0)), (2, .ref (Γ.2.1 + ks)), (1, .ref (Γ.2.1 + kb)), (0, .ref b0)]) hx hb dL_law_378 hl rfl rfl (by decide) rfl fun ls hl => ?_
        refine lv_goto (tgt := 206) hx hb dL_law_381 rfl ?_
        rw [ni_s, show (row_t (fun k => if u 176 k = -1 then 0 else 1) i) + 1 = (row_t (fun k => if u 176 k = -1 then 0 else 1) (i + 1)) from by show _ = row_t _ i + (if u 176 i = -1 then 0 else 1); rw [if_neg hm1]] at hl
        refine W.widen (k := c0 + 10 * (i + 1)) (n := s0 + 60 * (i + 1)) (by omega) (by omega) ?_
        refine ih (i + 1) (by omega) _ _ _ _ _ ls (upd g i (u 174 i)) (lv_sub hl [0, 1, 4, 5, 6, 7, 8, 9, 10, 11, 12, 13, 14, 15, 16, 17] rfl) hL (up_eq _ _ _) (fun k hk => ?_)
        by_cases h9 : k = i
        · rw [h9, upd_eq]; exact Int.le_refl _
        · rw [upd_ne h9]; exact hgw k hk
      · rw [show lU u i 6 = 0 from by show q_b (decide (u 176 i ≠ -1 ∧ u 173 0 - u 178 i ≤ 5)) = 0; rw [decide_eq_false (fun h => h5 h.2)]; rfl]
        refine lv_iconst (v := 1) hx hb dL_law_326 rfl ?_
        refine lv_icmp_ne (tgt := 334) hx hb dL_law_327 rfl (fun _ => ?_) (fun q => absurd q (by decide))
        refine lv_iconst (v := 0) hx hb dL_law_334 rfl ?_
        refine lv_aload_n hx hb dL_law_335 rfl (lv_at hl 14 rfl) ?_
        refine lv_iload hx hb dL_law_336 (lv_at hl 2 rfl) ?_
        refine lv_iconst (v := 5) hx hb dL_law_338 rfl ?_
        refine y_c0 hX hL (fun nb => c_Quay_lot hkq hEX hlt (q_lot hL.qi hi (w := 5) (by omega))) kX11_lot xlL_249 rfl rfl rfl hl.1 (Nat.le_of_ble_eq_true rfl) ⟨by omega, by omega⟩ ⟨by omega, by omega⟩ dL_law_339 fun H1 locs1 hL => ?_
        rw [show lU u i 5 = u 173 0 - u 178 i from if_neg hm1]
        refine lv_iconst (v := 5) hx hb dL_law_342 rfl ?_
        refine lv_icmp_gt (tgt := 350) hx hb dL_law_343 rfl (fun _ => ?_) (fun q => absurd (Int32.not_le.mp h5) q)
        refine lv_iconst (v := 0) hx hb dL_law_350 rfl ?_
        refine lv_icmp_eq (tgt := 356) hx hb dL_law_351 rfl (fun _ => ?_) (fun q => absurd rfl q)
        refine lv_aload hx hb dL_law_356 (lv_at hl 8 rfl) ?_
        refine lv_iload hx hb dL_law_358 (lv_at hl 2 rfl) ?_
        refine lv_iload hx hb dL_law_360 (lv_at hl 1 rfl) ?_
        refine y_ia (k := kw) hX hL hPw (j := i) (nI_clamp (by omega)) (vin hi (by omega)) dL_law_362 fun v1 H1 locs1 hL => ?_
        refine lv_iload hx hb dL_law_363 (lv_at hl 3 rfl) ?_
        refine lv_iload hx hb dL_law_365 (lv_at hl 0 rfl) ?_
        refine lv_if_lt (tgt := 374) hx hb dL_law_367 rfl (fun q => absurd q (by rw [hg]; exact ni_0 (by omega))) (fun _ => ?_)
        refine lv_iconst (v := 1) hx hb dL_law_370 rfl ?_
        refine lv_goto (tgt := 375) hx hb dL_law_371 rfl ?_
        refine lv_iadd hx hb dL_law_375 ?_
        refine lv_istore (lv' := [(14, .int ((row_t (fun k => if u 176 k = -1 then 0 else 1) i) + (1 : Int32))), (17, .int (u 176 i)), (16, .int (u 174 i)), (15, .int (nI i)), (13, .int e13), (12, .int e12), (11, .int x9), (10, .int (nI t9)), (9, .ref (Γ.2.1 + kw)), (8, .int A9), (7, .int (nI O)), (6, .int (nI G)), (5, .int (nI L)), (4, .int (nI M)), (3, .ref (b2 + 0)), (2, .ref (Γ.2.1 + ks)), (1, .ref (Γ.2.1 + kb)), (0, .ref b0)]) hx hb dL_law_376 hl (by decide) rfl fun ls hl => ?_
        refine lv_iinc (k := 3) (v := ((nI i) + 1)) (lv' := [(15, .int ((nI i) + 1)), (14, .int ((row_t (fun k => if u 176 k = -1 then 0 else 1) i) + (1 : Int32))), (17, .int (u 176 i)), (16, .int (u 174 i)), (13, .int e13), (12, .int e12), (11, .int x9), (10, .int (nI t9)), (9, .ref (Γ.2.1 + kw)), (8, .int A9), (7, .int (nI O)), (6, .int (nI G)), (5, .int (nI L)), (4, .int (nI M)), (3, .ref (b2 + 0)), (2, .ref (Γ.2.1 + ks)), (1, .ref (Γ.2.1 + kb)), (0, .ref b0)]) hx hb dL_law_378 hl rfl rfl (by decide) rfl fun ls hl => ?_
        refine lv_goto (tgt := 206) hx hb dL_law_381 rfl ?_
        rw [ni_s, show (row_t (fun k => if u 176 k = -1 then 0 else 1) i) + 1 = (row_t (fun k => if u 176 k = -1 then 0 else 1) (i + 1)) from by show _ = row_t _ i + (if u 176 i = -1 then 0 else 1); rw [if_neg hm1]] at hl
        refine W.widen (k := c0 + 10 * (i + 1)) (n := s0 + 60 * (i + 1)) (by omega) (by omega) ?_
        refine ih (i + 1) (by omega) _ _ _ _ _ ls (upd g i (u 174 i)) (lv_sub hl [0, 1, 4, 5, 6, 7, 8, 9, 10, 11, 12, 13, 14, 15, 16, 17] rfl) hL (up_eq _ _ _) (fun k hk => ?_)
        by_cases h9 : k = i
        · rw [h9, upd_eq]; exact Int.le_refl _
        · rw [upd_ne h9]; exact hgw k hk
end LA9
