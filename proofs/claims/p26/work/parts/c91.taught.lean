/-! TAUGHT -/
section TC9
variable {p : Program} {l : Launch} {e : Env} {R : Room} {s : State} {m : MethodId} {args : Array Value} {below : List Frame} {meth : Method} {c : Code} {H H0 : Heap} {locs : List Loc} {cells slots : Nat} {Q : State → Prop}
variable {cc : ByteArray} {pc nL : Nat} {ls : Array Slot} {st0 rest As Bs : List Value} {Γ : Cx} {sh sh0 shb : Sh} {v v0 v1 vb vb1 : Va} {w wb : Vl} {own : String} {idx ci j k n n0 nb nn hh mL mc ms a b2 ks S G M L O d1 d2 c0 s0 : Nat} {cs : List Nat} {y : MethodName} {b : ByteArray} {ret : Option FieldType} {pA : Nat → Nat} {pB : Nat → Nat → Nat} {u ua ub ua1 ub1 : Va} {P : Pfn}
variable {ad av kr d1 d2 N : Nat} {T : List Int32} {shC : Sh} {fd : Nat → Va} {vt : Va} {qt : Int32 × Va}
/-- what the class makes of a text -/
def TEA (T : List Int32) (N : Nat) (vb0 : Va) (fd : Nat → Va) (vt : Va) (qt : Int32 × Va) : Prop := (∃ x, f_Quay_trim vb0 0 = some (.inl (x, fd 0))) ∧ (∀ k, k < N → 20 * k < T.length ∧ ∃ x, f_Quay_feed 4001 (fd k) (txw T k 0) (txw T k 1) (txw T k 2) (txw T k 3) (txw T k 4) = some (.inl (x, fd (k + 1)))) ∧ T.length ≤ 20 * N ∧ (∃ x, f_Quay_trim (fd N) (nI T.length) = some (.inl (x, vt))) ∧ f_Quay_teach 4001 vt = some qt
theorem t_te (hX : XM Γ b2 p l s m args c cc nL own shb) (hT : TB Γ b2 s w wb shb sh0 v0 n0 sh v n vb H locs) {x0 : Int32} (hM : ∀ nb, MetI l y b mL ret hh (bs Γ b2) shb vb wb nb (.ref (b2 + 0) :: As) (fun x u => x = x0 ∧ u = vb1)) (hC : CAV y b mL ret nn) (hML : ML own idx y) (hcl : y.cls = RX11) (hst : st0 = As.reverse ++ .ref (b2 + 0) :: rest) (hn : As.length = nn) (hls : ls.size = nL) (hW : (rest.map fun v => v.category).sum ≤ 8) (hR : hh + 1 ≤ R.frames ∧ 8 + (mL + 11) + 40 * hh ≤ R.locals) (hf : cells ≤ R.cells ∧ slots ≤ R.slots) (hdg : decode cc pc = .ok (.invokevirtual idx, 3))
    (kk : ∀ (H1 : Heap) (locs1 : List Loc), TB Γ b2 s w wb shb sh0 v0 n0 sh v n vb1 H1 locs1 → W p l e R s m args below meth c H1 locs1 cells slots Q (F0 m (pc + 3) ls (.int x0 :: rest))) : W p l e R s m args below meth c H locs cells slots Q (F0 m pc ls st0) := by
  obtain ⟨hx, hb, hml, hts, hown, hK, hE, hb2, hk, hEX, hlt⟩ := id hX
  have hql := hT.1.blt hk.1
  have hnb : b2 + (Γ.2.1 + n - b2) = Γ.2.1 + n := by omega
  refine d_bi (nb := Γ.2.1 + n - b2) (Bs := .ref (b2 + 0) :: As) hT.1 hb2 hnb (w_rV (Γ := bs Γ b2) (k := 0) hx hb hml hts hown hK (hM _) rfl rfl hC hML (by rw [hcl]; exact w_recv (Γ := bs Γ b2) hK hT.1.2.2.1 hk.1 rfl) PN.blind (d_pnB hE hK hT.1 hnb) hst hls hn hW hR hf hdg) fun r u H1 locs1 hp hD => ?_
  obtain ⟨rfl, rfl⟩ := hp
  exact kk H1 locs1 ⟨hD, hT.2⟩
theorem ta_out (hX : XM Γ b2 p l s m args c cL_taught 5 RL shb) (hA : TAX Γ shC sh0 v0 n0 ad av d1 d2 T) (hFR : 60 ≤ R.frames ∧ 2400 ≤ R.locals) {vb0 : Va} (hTE : TEA T N vb0 fd vt qt) (hroom : c0 + 2 * N ≤ R.cells ∧ s0 + 11 * N ≤ R.slots)
    (kk : ∀ (sh : Sh) (v : Va) (n : Nat) (H1 : Heap) (locs1 : List Loc) (ls : Array Slot), lv_has ls 5 [(1, .ref (Γ.2.1 + ad)), (0, .ref (b2 + 0))] → TB Γ b2 s w wb shb sh0 v0 n0 sh v n (fd N) H1 locs1 → W p l e R s m args below meth c H1 locs1 (c0 + 2 * N) (s0 + 11 * N) Q (F0 m 102 ls [])) :
    ∀ (j k : Nat), k + j = N → ∀ (sh : Sh) (v : Va) (n : Nat) (H1 : Heap) (locs1 : List Loc) (ls : Array Slot), lv_has ls 5 [(2, .int (nI (20 * k))), (1, .ref (Γ.2.1 + ad)), (0, .ref (b2 + 0))] → TB Γ b2 s w wb shb sh0 v0 n0 sh v n (fd k) H1 locs1 → W p l e R s m args below meth c H1 locs1 (c0 + 2 * k) (s0 + 11 * k) Q (F0 m 8 ls []) := by
  obtain ⟨hx, hb, hml, hts, hown, hK, hE, hb2, hkq, hEX, hlt⟩ := id hX
  have hlen : T.length ≤ 2500 := hA.1.2.2.2.2.2
  have hN1 : 20 * N ≤ 2520 := by
    cases N with
    | zero => omega
    | succ N =>
      have := (hTE.2.1 N (by omega)).1
      omega
  intro j
  induction j with
  | zero =>
    intro k hij sh v n H1 locs1 ls hl hT
    have hi : k = N := by omega
    rw [hi] at hl hT ⊢
    have hle := hTE.2.2.1
    refine lv_iload_n hx hb dL_taught_8 rfl (lv_at hl 0 rfl) ?_
    refine lv_aload_n hx hb dL_taught_9 rfl (lv_at hl 1 rfl) ?_
    refine t_len hX hA hT rfl hl.1 (Nat.le_of_ble_eq_true rfl) ⟨by omega, by omega⟩ ⟨by omega, by omega⟩ dL_taught_10 fun H1 locs1 hT => ?_
    refine lv_icmp_ge (tgt := 102) hx hb dL_taught_13 rfl (fun _ => ?_) (fun q => absurd (show nI T.length ≤ nI (20 * N) by rw [le_n (by omega) (by omega)]; omega) q)
    exact kk sh v n H1 locs1 ls (lv_sub hl [1, 2] rfl) hT
  | succ j ih =>
    intro k hij sh v n H1 locs1 ls hl hT
    have hi : k < N := by omega
    obtain ⟨hlt9, xf, hfe⟩ := hTE.2.1 k hi
    have hn0n : n0 ≤ n := hT.2.1.1
    refine lv_iload_n hx hb dL_taught_8 rfl (lv_at hl 0 rfl) ?_
    refine lv_aload_n hx hb dL_taught_9 rfl (lv_at hl 1 rfl) ?_
    refine t_len hX hA hT rfl hl.1 (Nat.le_of_ble_eq_true rfl) ⟨by omega, by omega⟩ ⟨by omega, by omega⟩ dL_taught_10 fun H1 locs1 hT => ?_
    refine lv_icmp_ge (tgt := 102) hx hb dL_taught_13 rfl (fun q => absurd q (show ¬ nI T.length ≤ nI (20 * k) by rw [le_n (by omega) (by omega)]; omega)) (fun _ => ?_)
    refine lv_iconst (v := 5) hx hb dL_taught_16 rfl ?_
    refine d_new (x := nI 5) (N := 5) hx hb hts hK hE hT.1 (nI_pos (by omega)) (nI_clamp (by omega)) (by omega) (by omega) (by omega) dL_taught_17 fun H1 hD => ?_
    have hT : TB Γ b2 s w wb shb sh0 v0 n0 (up sh n (some (sA 5))) (up v n (fun _ => 0)) (n + 1) (fd k) H1 locs1 := ⟨hD, hT.2.1.nw, fun q hq => (up_ne (by have := hT.2.1.1; omega)).trans (hT.2.2 q hq)⟩
    refine lv_astore_n (lv' := [(3, .ref (Γ.2.1 + n)), (2, .int (nI (20 * k))), (1, .ref (Γ.2.1 + ad)), (0, .ref (b2 + 0))]) hx hb dL_taught_19 rfl hl (by decide) rfl fun ls hl => ?_
    refine lv_iconst (v := 0) hx hb dL_taught_20 rfl ?_
    refine lv_istore (lv' := [(4, .int 0), (3, .ref (Γ.2.1 + n)), (2, .int (nI (20 * k))), (1, .ref (Γ.2.1 + ad)), (0, .ref (b2 + 0))]) hx hb dL_taught_21 hl (by decide) rfl fun ls hl => ?_
    refine ta_in (kr := n) (k := k) hX hA hFR hn0n (up_eq _ _ _) (by omega) ⟨by omega, by omega⟩ (fun v H1 locs1 ls hl hT hg => ?_) 20 0 rfl _ _ _ ls (lv_sub hl [0, 1, 2, 3, 4] rfl) hT (fun q hq => by rw [up_eq, show min (0 - 4 * q) 4 = 0 by omega]; rfl)
    refine lv_aload_n hx hb dL_taught_76 rfl (lv_at hl 3 rfl) ?_
    refine lv_aload_n hx hb dL_taught_77 rfl (lv_at hl 0 rfl) ?_
    refine lv_iconst (v := 0) hx hb dL_taught_78 rfl ?_
    refine w_iald hx hb hK hT.1.2.1 (k := n) (N := 5) (up_eq _ _ _) (i := nI 0) (vin (by omega) (by omega)) dL_taught_79 ?_
    rw [nI_clamp (by omega), hg 0 (by omega)]
    refine lv_aload_n hx hb dL_taught_80 rfl (lv_at hl 0 rfl) ?_
    refine lv_iconst (v := 1) hx hb dL_taught_81 rfl ?_
    refine w_iald hx hb hK hT.1.2.1 (k := n) (N := 5) (up_eq _ _ _) (i := nI 1) (vin (by omega) (by omega)) dL_taught_82 ?_
    rw [nI_clamp (by omega), hg 1 (by omega)]
    refine lv_aload_n hx hb dL_taught_83 rfl (lv_at hl 0 rfl) ?_
    refine lv_iconst (v := 2) hx hb dL_taught_84 rfl ?_
    refine w_iald hx hb hK hT.1.2.1 (k := n) (N := 5) (up_eq _ _ _) (i := nI 2) (vin (by omega) (by omega)) dL_taught_85 ?_
    rw [nI_clamp (by omega), hg 2 (by omega)]
    refine lv_aload_n hx hb dL_taught_86 rfl (lv_at hl 0 rfl) ?_
    refine lv_iconst (v := 3) hx hb dL_taught_87 rfl ?_
    refine w_iald hx hb hK hT.1.2.1 (k := n) (N := 5) (up_eq _ _ _) (i := nI 3) (vin (by omega) (by omega)) dL_taught_88 ?_
    rw [nI_clamp (by omega), hg 3 (by omega)]
    refine lv_aload_n hx hb dL_taught_89 rfl (lv_at hl 0 rfl) ?_
    refine lv_iconst (v := 4) hx hb dL_taught_90 rfl ?_
    refine w_iald hx hb hK hT.1.2.1 (k := n) (N := 5) (up_eq _ _ _) (i := nI 4) (vin (by omega) (by omega)) dL_taught_91 ?_
    rw [nI_clamp (by omega), hg 4 (by omega)]
    refine t_c1 hX hT (fun nb => c_Quay_feed hkq hEX hlt hfe) kX11_feed xlL_25 rfl rfl rfl hl.1 (Nat.le_of_ble_eq_true rfl) ⟨by omega, by omega⟩ ⟨by omega, by omega⟩ dL_taught_92 fun H1 locs1 hT => ?_
    refine lv_pop hx hb dL_taught_95 rfl ?_
    refine lv_iinc (k := 1) (v := ((nI (20 * k)) + 20)) (lv' := [(2, .int ((nI (20 * k)) + 20)), (3, .ref (Γ.2.1 + n)), (1, .ref (Γ.2.1 + ad)), (0, .ref (b2 + 0))]) hx hb dL_taught_96 hl rfl rfl (by decide) rfl fun ls hl => ?_
    refine lv_goto (tgt := 8) hx hb dL_taught_99 rfl ?_
    rw [show nI (20 * k) + 20 = nI (20 * (k + 1)) from ni_add (20 * k) 20] at hl
    refine W.widen (k := c0 + 2 * (k + 1)) (n := s0 + 11 * (k + 1)) (by omega) (by omega) ?_
    exact ih (k + 1) (by omega) _ _ _ _ _ ls (lv_sub hl [0, 2, 3] rfl) hT
end TC9
section TD9
variable {l : Launch} {Γ : Cx} {sh0 shb shC : Sh} {v0 vb0 vt : Va} {w wb : Vl} {n0 b2 ad av d1 d2 N : Nat} {T : List Int32} {fd : Nat → Va} {qt : Int32 × Va}
theorem c_L_taught (hA : TAX Γ shC sh0 v0 n0 ad av d1 d2 T) (hTE : TEA T N vb0 fd vt qt) (hkq : isQuay shb) (hEX : EX (bs Γ b2) shb) (hEF : EF (bs Γ b2) shb) (hlt : l.stackTraces = false) (hb2 : (cx0 Γ).heap.size ≤ b2) : MetB l yL_taught cL_taught 5 (some .int) 60 500 2000 Γ b2 w wb shb (sh0, v0, n0, vb0) [.ref (b2 + 0), .ref (Γ.2.1 + ad)] (fun r t => r = qt.1 ∧ ∃ sh1 v1 n1, t = (sh1, v1, n1, qt.2) ∧ GR sh0 n0 sh1 n1 ∧ ∀ q, q < n0 → v1 q = v0 q) := by
  refine d_start pn_L (Nat.le_of_ble_eq_true rfl) fun p e s m args below meth c hx hb hml hret hlk hts hown hK hE hD ls hl => ?_
  have hX : XM Γ b2 p l s m args c cL_taught 5 RL shb := ⟨hx, hb, hml, hts, hown, hK, hE, hb2, hkq, hEX, hlt⟩
  have hFR : 60 ≤ (rmc 60 500 2000).frames ∧ 2400 ≤ (rmc 60 500 2000).locals := ⟨Nat.le_refl _, Nat.le_refl _⟩
  have hRC : (rmc 60 500 2000).cells = 500 := rfl
  have hRS : (rmc 60 500 2000).slots = 2000 := rfl
  have hlen : T.length ≤ 2500 := hA.1.2.2.2.2.2
  have hN1 : 20 * N ≤ 2520 := by
    cases N with
    | zero => omega
    | succ N =>
      have := (hTE.2.1 N (by omega)).1
      omega
  obtain ⟨⟨x0, hf0⟩, -, -, ⟨x9, hf9⟩, hte⟩ := id hTE
  have hT : TB Γ b2 s w wb shb sh0 v0 n0 sh0 v0 n0 vb0 s.heap [] := ⟨hD, GR.rf, fun _ _ => rfl⟩
  refine lv_aload_n hx hb dL_taught_0 rfl (lv_at hl 0 rfl) ?_
  refine lv_iconst (v := 0) hx hb dL_taught_1 rfl ?_
  refine t_c1 hX hT (fun nb => c_Quay_trim hkq hEX hlt hf0) kX11_trim xlL_9 rfl rfl rfl hl.1 (Nat.le_of_ble_eq_true rfl) ⟨by omega, by omega⟩ ⟨by omega, by omega⟩ dL_taught_2 fun H1 locs1 hT => ?_
  refine lv_pop hx hb dL_taught_5 rfl ?_
  refine lv_iconst (v := 0) hx hb dL_taught_6 rfl ?_
  refine lv_istore_n (lv' := [(2, .int 0), (0, .ref (b2 + 0)), (1, .ref (Γ.2.1 + ad))]) hx hb dL_taught_7 rfl hl (by decide) rfl fun ls hl => ?_
  refine W.widen (k := 1 + 2 * 0) (n := 6 + 11 * 0) (by omega) (by omega) ?_
  refine ta_out hX hA hFR hTE ⟨by omega, by omega⟩ (fun sh v n H1 locs1 ls hl hT => ?_) N 0 (by omega) _ _ _ _ _ ls (lv_sub hl [0, 2, 1] rfl) hT
  refine lv_aload_n hx hb dL_taught_102 rfl (lv_at hl 1 rfl) ?_
  refine lv_aload_n hx hb dL_taught_103 rfl (lv_at hl 0 rfl) ?_
  refine t_len hX hA hT rfl hl.1 (Nat.le_of_ble_eq_true rfl) ⟨by omega, by omega⟩ ⟨by omega, by omega⟩ dL_taught_104 fun H1 locs1 hT => ?_
  refine t_c1 hX hT (fun nb => c_Quay_trim hkq hEX hlt hf9) kX11_trim xlL_9 rfl rfl rfl hl.1 (Nat.le_of_ble_eq_true rfl) ⟨by omega, by omega⟩ ⟨by omega, by omega⟩ dL_taught_107 fun H1 locs1 hT => ?_
  refine lv_pop hx hb dL_taught_110 rfl ?_
  refine lv_aload_n hx hb dL_taught_111 rfl (lv_at hl 1 rfl) ?_
  refine t_te hX hT (fun nb => c_Quay_teach hkq hEF hte) kX11_teach mL_29 rfl rfl rfl hl.1 (Nat.le_of_ble_eq_true rfl) ⟨by omega, by omega⟩ ⟨by omega, by omega⟩ dL_taught_112 fun H1 locs1 hT => ?_
  refine W.widen (k := 500) (n := 2000) (by omega) (by omega) ?_
  exact d_iret (post := fun r t => r = qt.1 ∧ ∃ sh1 v1 n1, t = (sh1, v1, n1, qt.2) ∧ GR sh0 n0 sh1 n1 ∧ ∀ q, q < n0 → v1 q = v0 q) hx hb hret rfl hlk hK hE hT.1 ⟨rfl, sh, v, n, rfl, hT.2.1, hT.2.2⟩ dL_taught_115
end TD9
