/-! TAUGHT: the text goes to the class, twenty bytes a time -/
/-- the first c bytes of word q -/
def acs (f : Nat → Int32) (q : Nat) : Nat → Int32
  | 0 => 0
  | c + 1 => (acs f q c <<< 8) ||| f (4 * q + c)
/-- byte k of a text, blanks behind -/
def txb (T : List Int32) (k : Nat) : Int32 := if k < T.length then T.getD k 0 else 32
/-- word q of the c-th twenty bytes -/
def txw (T : List Int32) (c q : Nat) : Int32 := acs (fun j => txb T (20 * c + j)) q 4
theorem STc.tb {sh sh0 : Sh} {v v0 : Va} {n0 n ad av : Nat} {T : List Int32} (h : STc sh0 v0 ad av T) (hd : DM sh0 n0) (hG : GR sh0 n0 sh n) (hv : ∀ q, q < n0 → v q = v0 q) : STc sh v ad av T := by
  obtain ⟨h1, h2, h3, h4, h5⟩ := h
  have e1 := hv ad (hd _ _ h1)
  have e2 := hv av (hd _ _ h2)
  exact ⟨(hG.2 ad (hd _ _ h1)).trans h1, (hG.2 av (hd _ _ h2)).trans h2, by rw [e1]; exact h3, fun i hi => by rw [e2]; exact h4 i hi, h5⟩
section TA9
variable {p : Program} {l : Launch} {e : Env} {R : Room} {s : State} {m : MethodId} {args : Array Value} {below : List Frame} {meth : Method} {c : Code} {H H0 : Heap} {locs : List Loc} {cells slots : Nat} {Q : State → Prop}
variable {cc : ByteArray} {pc nL : Nat} {ls : Array Slot} {st0 rest As Bs : List Value} {Γ : Cx} {sh sh0 shb : Sh} {v v0 v1 vb vb1 : Va} {w wb : Vl} {own : String} {idx ci j k n n0 nb nn hh mL mc ms a b2 ks S G M L O d1 d2 c0 s0 : Nat} {cs : List Nat} {y : MethodName} {b : ByteArray} {ret : Option FieldType} {pA : Nat → Nat} {pB : Nat → Nat → Nat} {u ua ub ua1 ub1 : Va} {P : Pfn}
variable {ad av kr d1 d2 N : Nat} {T : List Int32} {shC : Sh} {fd : Nat → Va}
def TB (Γ : Cx) (b2 : Nat) (s : State) (w wb : Vl) (shb sh0 : Sh) (v0 : Va) (n0 : Nat) (sh : Sh) (v : Va) (n : Nat) (vb : Va) (H : Heap) (locs : List Loc) : Prop := DW Γ b2 s w wb shb sh v n vb H locs ∧ GR sh0 n0 sh n ∧ ∀ q, q < n0 → v q = v0 q
/-- what taught needs -/
def TAX (Γ : Cx) (shC : Sh) (sh0 : Sh) (v0 : Va) (n0 ad av d1 d2 : Nat) (T : List Int32) : Prop := STc sh0 v0 ad av T ∧ DM sh0 n0 ∧ EC Γ shC d1 d2 ∧ ∀ sh, LO Γ sh → EF Γ sh
theorem t_len (hX : XM Γ b2 p l s m args c cc nL RL shb) (hA : TAX Γ shC sh0 v0 n0 ad av d1 d2 T) (hT : TB Γ b2 s w wb shb sh0 v0 n0 sh v n vb H locs) (hst : st0 = .ref (Γ.2.1 + ad) :: rest) (hls : ls.size = nL) (hW : (rest.map fun v => v.category).sum ≤ 8) (hR : 6 ≤ R.frames ∧ 240 ≤ R.locals) (hf : cells ≤ R.cells ∧ slots ≤ R.slots) (hdg : decode cc pc = .ok (.invokevirtual 15, 3))
    (kk : ∀ (H1 : Heap) (locs1 : List Loc), TB Γ b2 s w wb shb sh0 v0 n0 sh v n vb H1 locs1 → W p l e R s m args below meth c H1 locs1 cells slots Q (F0 m (pc + 3) ls (.int (nI T.length) :: rest))) : W p l e R s m args below meth c H locs cells slots Q (F0 m pc ls st0) := by
  obtain ⟨hx, hb, hml, hts, hown, hK, hE, hb2, hk, hEX, hlt⟩ := id hX
  have hS := hA.1.tb hA.2.1 hT.2.1 hT.2.2
  refine d_ai (Bs := [.ref (Γ.2.1 + ad)]) hE hT.1 (w_rV (k := ad) (As := []) hx hb hml hts hown hK (c_S_length hS (hT.1.2.2.2.2.1.ec hA.2.2.1)) rfl rfl kJ0_length_8abf5 mL_15 (w_recvQ hK hT.1.2.1 hS.1 rfl) PN.blind (d_pnA hE hK hT.1) (by rw [hst]; rfl) hls rfl hW ⟨by show 1 + 1 ≤ _; omega, by show 8 + (1 + 11) + 40 * 1 ≤ _; omega⟩ hf hdg) fun r u H1 locs1 hp hD => ?_
  obtain ⟨rfl, rfl⟩ := hp
  exact kk H1 locs1 ⟨hD, hT.2⟩
theorem t_at (hX : XM Γ b2 p l s m args c cc nL RL shb) (hA : TAX Γ shC sh0 v0 n0 ad av d1 d2 T) (hT : TB Γ b2 s w wb shb sh0 v0 n0 sh v n vb H locs) {i : Nat} (hi : i < T.length) (hst : st0 = .int (nI i) :: .ref (Γ.2.1 + ad) :: rest) (hls : ls.size = nL) (hW : (rest.map fun v => v.category).sum ≤ 8) (hR : 6 ≤ R.frames ∧ 240 ≤ R.locals) (hf : cells ≤ R.cells ∧ slots ≤ R.slots) (hdg : decode cc pc = .ok (.invokevirtual 21, 3))
    (kk : ∀ (H1 : Heap) (locs1 : List Loc), TB Γ b2 s w wb shb sh0 v0 n0 sh v n vb H1 locs1 → W p l e R s m args below meth c H1 locs1 cells slots Q (F0 m (pc + 3) ls (.int (T.getD i 0) :: rest))) : W p l e R s m args below meth c H locs cells slots Q (F0 m pc ls st0) := by
  obtain ⟨hx, hb, hml, hts, hown, hK, hE, hb2, hk, hEX, hlt⟩ := id hX
  have hS := hA.1.tb hA.2.1 hT.2.1 hT.2.2
  refine d_ai (Bs := [.ref (Γ.2.1 + ad), .int (nI i)]) hE hT.1 (w_rV (k := ad) (As := [.int (nI i)]) hx hb hml hts hown hK (c_S_charAt hS (hT.1.2.2.2.2.1.ec hA.2.2.1) (hA.2.2.2 _ hT.1.2.2.2.2.1) hi) rfl rfl kJ0_charAt_5068e mL_21 (w_recvQ hK hT.1.2.1 hS.1 rfl) PN.blind (d_pnA hE hK hT.1) (by rw [hst]; rfl) hls rfl hW ⟨by show 4 + 1 ≤ _; omega, by show 8 + (2 + 11) + 40 * 4 ≤ _; omega⟩ hf hdg) fun r u H1 locs1 hp hD => ?_
  obtain ⟨rfl, rfl⟩ := hp
  exact kk H1 locs1 ⟨hD, hT.2⟩
/-- the class is asked something that changes it -/
theorem t_c1 (hX : XM Γ b2 p l s m args c cc nL own shb) (hT : TB Γ b2 s w wb shb sh0 v0 n0 sh v n vb H locs) {x0 : Int32} (hM : ∀ nb, MetX l y b mL ret hh (bs Γ b2) shb vb wb nb (.ref (b2 + 0) :: As) (fun x u => (Sum.inl (x0, vb1) : (Int32 × Va) ⊕ Nat) = .inl (x, u)) (fun E => ∃ c, (Sum.inl (x0, vb1) : (Int32 × Va) ⊕ Nat) = .inr c ∧ E = xn c)) (hC : CAV y b mL ret nn) (hML : Cond.methodLink own idx y ∈ lw_all) (hcl : y.cls = RX11) (hst : st0 = As.reverse ++ .ref (b2 + 0) :: rest) (hn : As.length = nn) (hls : ls.size = nL) (hW : (rest.map fun v => v.category).sum ≤ 8) (hR : hh + 1 ≤ R.frames ∧ 8 + (mL + 11) + 40 * hh ≤ R.locals) (hf : cells + 1 ≤ R.cells ∧ slots + 6 ≤ R.slots) (hdg : decode cc pc = .ok (.invokevirtual idx, 3))
    (kk : ∀ (H1 : Heap) (locs1 : List Loc), TB Γ b2 s w wb shb sh0 v0 n0 sh v n vb1 H1 locs1 → W p l e R s m args below meth c H1 locs1 (cells + 1) (slots + 6) Q (F0 m (pc + 3) ls (.int x0 :: rest))) : W p l e R s m args below meth c H locs cells slots Q (F0 m pc ls st0) := by
  obtain ⟨hx, hb, hml, hts, hown, hK, hE, hb2, hk, hEX, hlt⟩ := id hX
  refine d_bn (k := 0) hx hb hml hts hown hK hE hT.1 hb2 hk.1 hM (fun E ⟨c, h, _⟩ => by cases h) hC hML (by rw [hcl]; rfl) hst hn hls hW hR hf hdg fun r u H1 locs1 hp hD => ?_
  cases hp
  exact kk H1 locs1 ⟨hD, hT.2⟩
theorem min4 {i : Nat} : (∀ q, q ≠ i / 4 → min (i + 1 - 4 * q) 4 = min (i - 4 * q) 4) ∧ min (i + 1 - 4 * (i / 4)) 4 = min (i - 4 * (i / 4)) 4 + 1 ∧ 4 * (i / 4) + min (i - 4 * (i / 4)) 4 = i := by
  refine ⟨fun q hq => ?_, by omega, by omega⟩
  rcases Nat.lt_or_gt_of_ne hq with h | h <;> omega
theorem ta_in (hX : XM Γ b2 p l s m args c cL_taught 5 RL shb) (hA : TAX Γ shC sh0 v0 n0 ad av d1 d2 T) (hFR : 60 ≤ R.frames ∧ 2400 ≤ R.locals) (hkr : n0 ≤ kr) (her : sh kr = some (sA 5)) (hk8 : 20 * k ≤ 2500) (hroom : cells ≤ R.cells ∧ slots ≤ R.slots)
    (kk : ∀ (v : Va) (H1 : Heap) (locs1 : List Loc) (ls : Array Slot), lv_has ls 5 [(3, .ref (Γ.2.1 + kr)), (2, .int (nI (20 * k))), (1, .ref (Γ.2.1 + ad)), (0, .ref (b2 + 0))] → TB Γ b2 s w wb shb sh0 v0 n0 sh v n vb H1 locs1 → (∀ q, q < 5 → v kr q = txw T k q) → W p l e R s m args below meth c H1 locs1 cells slots Q (F0 m 76 ls [])) :
    ∀ (j i : Nat), i + j = 20 → ∀ (v : Va) (H1 : Heap) (locs1 : List Loc) (ls : Array Slot), lv_has ls 5 [(4, .int (nI i)), (3, .ref (Γ.2.1 + kr)), (2, .int (nI (20 * k))), (1, .ref (Γ.2.1 + ad)), (0, .ref (b2 + 0))] → TB Γ b2 s w wb shb sh0 v0 n0 sh v n vb H1 locs1 → (∀ q, q < 5 → v kr q = acs (fun j => txb T (20 * k + j)) q (min (i - 4 * q) 4)) → W p l e R s m args below meth c H1 locs1 cells slots Q (F0 m 23 ls []) := by
  obtain ⟨hx, hb, hml, hts, hown, hK, hE, hb2, hkq, hEX, hlt⟩ := id hX
  intro j
  induction j with
  | zero =>
    intro i hij v H1 locs1 ls hl hT hg
    have hi : i = 20 := by omega
    rw [hi] at hl
    refine lv_iload hx hb dL_taught_23 (lv_at hl 0 rfl) ?_
    refine lv_bipush (v := 20) hx hb dL_taught_25 rfl ?_
    refine lv_icmp_ge (tgt := 76) hx hb dL_taught_27 rfl (fun _ => ?_) (fun q => absurd (Int32.le_refl _) q)
    exact kk v H1 locs1 ls (lv_sub hl [1, 2, 3, 4] rfl) hT (fun q hq => by rw [hg q hq, show min (i - 4 * q) 4 = 4 by omega]; rfl)
  | succ j ih =>
    intro i hij v H1 locs1 ls hl hT hg
    have hi : i < 20 := by omega
    have h4 : i / 4 < 5 := by omega
    obtain ⟨m1, m2, m3⟩ := min4 (i := i)
    have hlen : T.length ≤ 2500 := hA.1.2.2.2.2.2
    have hstep : ∀ (y : Int32), y = txb T (20 * k + i) → ∀ q, q < 5 → pu v kr (i / 4) ((v kr (i / 4) <<< (8 : Int32)) ||| y) kr q = acs (fun j => txb T (20 * k + j)) q (min (i + 1 - 4 * q) 4) := fun y hy q hq => by
      by_cases h9 : q = i / 4
      · rw [h9, pu_s, m2, hg _ h4, hy]
        show _ = (acs _ (i / 4) (min (i - 4 * (i / 4)) 4) <<< 8) ||| txb T (20 * k + (4 * (i / 4) + min (i - 4 * (i / 4)) 4))
        rw [m3]
      · rw [pu_d h9, hg q hq, m1 q h9]
    refine lv_iload hx hb dL_taught_23 (lv_at hl 0 rfl) ?_
    refine lv_bipush (v := 20) hx hb dL_taught_25 rfl ?_
    refine lv_icmp_ge (tgt := 76) hx hb dL_taught_27 rfl (fun q => absurd ((le_n (i := 20) (j := i) (by omega) (by omega)).mp q) (by omega)) (fun _ => ?_)
    refine lv_aload_n hx hb dL_taught_30 rfl (lv_at hl 1 rfl) ?_
    refine lv_iload hx hb dL_taught_31 (lv_at hl 0 rfl) ?_
    refine lv_iconst (v := 4) hx hb dL_taught_33 rfl ?_
    refine lv_idiv hx hb dL_taught_34 (by decide) ?_
    rw [show nI i / 4 = nI (i / 4) from nn_div (b := 4) (by omega) (by omega)]
    refine lv_aload_n hx hb dL_taught_35 rfl (lv_at hl 1 rfl) ?_
    refine lv_iload hx hb dL_taught_36 (lv_at hl 0 rfl) ?_
    refine lv_iconst (v := 4) hx hb dL_taught_38 rfl ?_
    refine lv_idiv hx hb dL_taught_39 (by decide) ?_
    rw [show nI i / 4 = nI (i / 4) from nn_div (b := 4) (by omega) (by omega)]
    refine w_iald hx hb hK hT.1.2.1 her (i := nI (i / 4)) (vin h4 (by omega)) dL_taught_40 ?_
    rw [nI_clamp (by omega)]
    refine lv_bipush (v := 8) hx hb dL_taught_41 rfl ?_
    refine lv_ishl hx hb dL_taught_43 ?_
    refine lv_iload_n hx hb dL_taught_44 rfl (lv_at hl 2 rfl) ?_
    refine lv_iload hx hb dL_taught_45 (lv_at hl 0 rfl) ?_
    refine lv_iadd hx hb dL_taught_47 ?_
    rw [show nI (20 * k) + nI i = nI (20 * k + i) from ni_add _ _]
    refine lv_aload_n hx hb dL_taught_48 rfl (lv_at hl 3 rfl) ?_
    refine t_len hX hA hT rfl hl.1 (Nat.le_of_ble_eq_true rfl) ⟨by omega, by omega⟩ ⟨by omega, by omega⟩ dL_taught_49 fun H1 locs1 hT => ?_
    by_cases hin : 20 * k + i < T.length
    · refine lv_icmp_ge (tgt := 66) hx hb dL_taught_52 rfl (fun q => absurd q (show ¬ nI T.length ≤ nI (20 * k + i) by rw [le_n (by omega) (by omega)]; omega)) (fun _ => ?_)
      refine lv_aload_n hx hb dL_taught_55 rfl (lv_at hl 3 rfl) ?_
      refine lv_iload_n hx hb dL_taught_56 rfl (lv_at hl 2 rfl) ?_
      refine lv_iload hx hb dL_taught_57 (lv_at hl 0 rfl) ?_
      refine lv_iadd hx hb dL_taught_59 ?_
      rw [show nI (20 * k) + nI i = nI (20 * k + i) from ni_add _ _]
      refine t_at hX hA hT hin rfl hl.1 (Nat.le_of_ble_eq_true rfl) ⟨by omega, by omega⟩ ⟨by omega, by omega⟩ dL_taught_60 fun H1 locs1 hT => ?_
      refine lv_goto (tgt := 68) hx hb dL_taught_63 rfl ?_
      refine lv_ior hx hb dL_taught_68 ?_
      refine d_ia (k := kr) hx hb hK hE hT.1 her (vin h4 (by omega)) dL_taught_69 fun H1 locs1 hD => ?_
      rw [nI_clamp (by omega), show (8 : Int32) &&& 31 = 8 from by decide] at hD
      refine lv_iinc (k := 0) (v := ((nI i) + 1)) (lv' := [(4, .int ((nI i) + 1)), (3, .ref (Γ.2.1 + kr)), (2, .int (nI (20 * k))), (1, .ref (Γ.2.1 + ad)), (0, .ref (b2 + 0))]) hx hb dL_taught_70 hl rfl rfl (by decide) rfl fun ls hl => ?_
      refine lv_goto (tgt := 23) hx hb dL_taught_73 rfl ?_
      rw [ni_s] at hl
      exact ih (i + 1) (by omega) _ _ _ ls (lv_sub hl [0, 1, 2, 3, 4] rfl) ⟨hD, hT.2.1, fun q hq => (pu_p (by omega)).trans (hT.2.2 q hq)⟩ (hstep _ (by unfold txb; rw [if_pos hin]))
    · refine lv_icmp_ge (tgt := 66) hx hb dL_taught_52 rfl (fun _ => ?_) (fun q => absurd (show  nI T.length ≤ nI (20 * k + i) by rw [le_n (by omega) (by omega)]; omega) q)
      refine lv_bipush (v := 32) hx hb dL_taught_66 rfl ?_
      refine lv_ior hx hb dL_taught_68 ?_
      refine d_ia (k := kr) hx hb hK hE hT.1 her (vin h4 (by omega)) dL_taught_69 fun H1 locs1 hD => ?_
      rw [nI_clamp (by omega), show (8 : Int32) &&& 31 = 8 from by decide] at hD
      refine lv_iinc (k := 0) (v := ((nI i) + 1)) (lv' := [(4, .int ((nI i) + 1)), (3, .ref (Γ.2.1 + kr)), (2, .int (nI (20 * k))), (1, .ref (Γ.2.1 + ad)), (0, .ref (b2 + 0))]) hx hb dL_taught_70 hl rfl rfl (by decide) rfl fun ls hl => ?_
      refine lv_goto (tgt := 23) hx hb dL_taught_73 rfl ?_
      rw [ni_s] at hl
      exact ih (i + 1) (by omega) _ _ _ ls (lv_sub hl [0, 1, 2, 3, 4] rfl) ⟨hD, hT.2.1, fun q hq => (pu_p (by omega)).trans (hT.2.2 q hq)⟩ (hstep _ (by unfold txb; rw [if_neg hin]))
end TA9
