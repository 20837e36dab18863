/-! WHAT HOLDS AT EVERY TIME; DAYS IN A ROW; passed -/
section
variable {u u1 v v1 : Va} {S G M L O n d B z ks : Nat} {T : Int} {pA : Nat → Nat} {pB : Nat → Nat → Nat}
/-- what holds of the model at every time: T coins in all, day at most B -/
def LI (u : Va) (S G M L O : Nat) (T : Int) (B : Nat) : Prop := PMo u S G M L O ∧ IS u 173 L G M ∧ (∀ g, g < 4 → 0 ≤ (u 181 g).toInt) ∧ isum (u 179) 6 + isum (u 181) 4 = T ∧ (∃ n, n ≤ B ∧ u 173 0 = nI n) ∧ u 149 2 = 0 ∧ (∀ a, a < 6 → M ≤ a → u 179 a = 0) ∧ ∀ g, G ≤ g → u 181 g = 0
/-- what a deed leaves: no lot is heavier -/
def AK (u u1 : Va) (S G M L O : Nat) (T : Int) (B : Nat) : Prop := LI u1 S G M L O T B ∧ (∀ k, (u1 174 k).toInt ≤ (u 174 k).toInt) ∧ FM 173 u u1
theorem LI.le {B1 : Nat} (h : LI u S G M L O T B) (hB : B ≤ B1) : LI u S G M L O T B1 := by
  obtain ⟨h1, h2, h3, h4, ⟨n, h5, h6⟩, h7⟩ := h
  exact ⟨h1, h2, h3, h4, ⟨n, by omega, h6⟩, h7⟩
theorem AK.rf (h : LI u S G M L O T B) : AK u u S G M L O T B := ⟨h, fun _ => Int.le_refl _, FM.rfl'⟩
theorem AK.tr {u2 : Va} {B1 : Nat} (h : AK u u1 S G M L O T B) (h1 : AK u1 u2 S G M L O T B1) : AK u u2 S G M L O T B1 := ⟨h1.1, fun k => Int.le_trans (h1.2.1 k) (h.2.1 k), h.2.2.tr h1.2.2⟩
theorem DA.li (h : DA u u1 S G M L O n) (hL : LI u S G M L O T B) : AK u u1 S G M L O T (B + 1) := by
  obtain ⟨-, h2, h3, -, -, h6, h7, h8, h9, h10, h11, h12, h13⟩ := h
  obtain ⟨l1, l2, l3, l4, ⟨m, l5, l6⟩, l7, l8, l9⟩ := hL
  exact ⟨⟨l1.fm h3, h2, h11, h7.trans l4, ⟨m + 1, by omega, by rw [h9, l6, ni_s]⟩, by rw [h3.2 2 (by omega) (by omega)]; exact l7, (fun a ha hM => by rw [h12 a hM]; exact l8 a ha hM), fun g hg => by rw [h13 g hg]; exact l9 g hg⟩, h8, h3⟩
/-- a day of the model's -/
def dct (z : Nat) (u : Va) : Nat → Int32
  | 0 => 0
  | n + 1 => dct z u n + ((f_Model_dayOn z (trj z u n) 151 173).getD (0, trj z u n)).1
theorem days_m (hz : 4000 < z) (hd : d ≤ 1000) (h : ∀ i, i < d → ∃ q, f_Model_dayOn z (trj z u i) 151 173 = some q) : f_Model_daysOn z u 151 173 (nI d) = some (dct z u d, trj z u d) := by
  unfold f_Model_daysOn
  refine rp_go (fun i => (dct z u i, nI i, trj z u i)) d (fun K => ?_) (fun K i hi => ?_) (by omega)
  · unfold b_Model_daysOn_5
    simp only
    rw [if_pos (by rw [le_n (by omega) (by omega)]; exact Nat.le_refl _)]
  · obtain ⟨q, hq⟩ := h i hi
    unfold b_Model_daysOn_5
    simp only
    rw [if_neg (by rw [le_n (by omega) (by omega)]; omega), hq, ob, ni_s]
    show K (dct z u i + q.1, nI (i + 1), q.2) = K (dct z u i + ((f_Model_dayOn z (trj z u i) 151 173).getD (0, trj z u i)).1, nI (i + 1), ((f_Model_dayOn z (trj z u i) 151 173).getD (0, trj z u i)).2)
    rw [hq]; rfl
/-- what a deed of both sides leaves -/
def PT (ks : Nat) (pA : Nat → Nat) (pB : Nat → Nat → Nat) (S G M L O : Nat) (u : Va) (T : Int) (B : Nat) (sh : Sh) (v : Va) (n : Nat) : Int32 → Wu → Prop := fun r t => r = 1 ∧ ∃ (v1 : Va) (n1 : Nat) (vb1 u1 : Va), t = (sh, v1, n1, vb1) ∧ n ≤ n1 ∧ SR v1 u1 ks pA pB S G M L O ∧ QI 4001 vb1 u1 S G M L O ∧ (∀ q, NSm ks pA pB S G M L O q → v1 q = v q) ∧ AK u u1 S G M L O T B
end
section IE
variable {p : Program} {l : Launch} {e : Env} {R : Room} {s : State} {m : MethodId} {args : Array Value} {below : List Frame} {meth : Method} {c : Code} {H H0 : Heap} {locs : List Loc} {cells slots : Nat} {Q : State → Prop}
variable {cc : ByteArray} {pc nL : Nat} {ls : Array Slot} {st0 rest As Bs : List Value} {Γ : Cx} {sh sh0 shb : Sh} {v v0 v1 vb vb1 : Va} {w wb : Vl} {own : String} {idx ci j k n n0 nb nn hh mL mc ms a b2 ks S G M L O d1 d2 c0 s0 : Nat} {cs : List Nat} {y : MethodName} {b : ByteArray} {ret : Option FieldType} {pA : Nat → Nat} {pB : Nat → Nat → Nat} {u ua ub ua1 ub1 : Va} {P : Pfn}
variable {T : Int} {B d : Nat}
/-- Sim does something -/
theorem y_s1 (hX : XM Γ b2 p l s m args c cc nL own shb) (hL : DL Γ b2 s w wb shb sh0 n0 ks pA pB S G M L O ua ub P sh v n vb H locs) {x0 : Int32} (hS : SR v1 ua1 ks pA pB S G M L O) (hv : ∀ q, n0 ≤ q → v1 q = v q) (hM : MetI l y b mL ret hh Γ sh v w n (.ref (Γ.2.1 + ks) :: As) (fun x u => x = x0 ∧ u = v1)) (hC : CAV y b mL ret nn) (hML : ML own idx y) (hcl : y.cls = RX12) (hst : st0 = As.reverse ++ .ref (Γ.2.1 + ks) :: rest) (hn : As.length = nn) (hls : ls.size = nL) (hW : (rest.map fun v => v.category).sum ≤ 8) (hR : hh + 1 ≤ R.frames ∧ 8 + (mL + 11) + 40 * hh ≤ R.locals) (hf : cells ≤ R.cells ∧ slots ≤ R.slots) (hdg : decode cc pc = .ok (.invokevirtual idx, 3))
    (kk : ∀ (H1 : Heap) (locs1 : List Loc), DL Γ b2 s w wb shb sh0 n0 ks pA pB S G M L O ua1 ub P sh v1 n vb H1 locs1 → W p l e R s m args below meth c H1 locs1 cells slots Q (F0 m (pc + 3) ls (.int x0 :: rest))) : W p l e R s m args below meth c H locs cells slots Q (F0 m pc ls st0) := by
  obtain ⟨hx, hb, hml, hts, hown, hK, hE, hb2, hk, hEX, hlt⟩ := id hX
  refine d_ai (Bs := .ref (Γ.2.1 + ks) :: As) hE hL.1 (w_rV (k := ks) hx hb hml hts hown hK hM rfl rfl hC hML (by rw [hcl]; exact w_recv hK hL.hP hL.ik.1 rfl) PN.blind (d_pnA hE hK hL.1) hst hls hn hW hR hf hdg) fun r u H1 locs1 hp hD => ?_
  obtain ⟨rfl, rfl⟩ := hp
  exact kk H1 locs1 (hL.fc hD hS hv)
theorem DL.nsm (hL : DL Γ b2 s w wb shb sh0 n0 ks pA pB S G M L O ua ub P sh v n vb H locs) (hq : n0 ≤ k) : NSm ks pA pB S G M L O k := fun j i f h e => by
  have := hL.2.2.2.2.2.1 j i f h
  omega
theorem ps_loop (hX : XM Γ b2 p l s m args c cL_passed 5 RL shb) (hFR : 8 ≤ R.frames ∧ 320 ≤ R.locals) (hA : APT pA pB (pn_ S G M L O) ks) (hT : T ≤ 59994) (hB : B + d ≤ 4000) (hroom : c0 ≤ R.cells ∧ s0 ≤ R.slots)
    (kk : ∀ (v1 : Va) (H1 : Heap) (locs1 : List Loc) (ls : Array Slot), lv_has ls 5 [(3, .int (dct 4001 u d)), (2, .int (nI d)), (1, .ref (Γ.2.1 + ks)), (0, .ref (b2 + 0))] → DL Γ b2 s w wb shb sh n ks pA pB S G M L O (trj 4001 u d) u (fun _ => none) sh v1 n vb H1 locs1 → (∀ q, NSm ks pA pB S G M L O q → v1 q = v q) → AK u (trj 4001 u d) S G M L O T (B + d) → (∀ j, j < d → ∃ q, f_Model_dayOn 4001 (trj 4001 u j) 151 173 = some q) →  W p l e R s m args below meth c H1 locs1 c0 s0 Q (F0 m 24 ls [])) :
    ∀ (j i : Nat), i + j = d → ∀ (v1 : Va) (H1 : Heap) (locs1 : List Loc) (ls : Array Slot), lv_has ls 5 [(4, .int (nI i)), (3, .int (dct 4001 u i)), (2, .int (nI d)), (1, .ref (Γ.2.1 + ks)), (0, .ref (b2 + 0))] → DL Γ b2 s w wb shb sh n ks pA pB S G M L O (trj 4001 u i) u (fun _ => none) sh v1 n vb H1 locs1 → (∀ q, NSm ks pA pB S G M L O q → v1 q = v q) → AK u (trj 4001 u i) S G M L O T (B + i) → (∀ j, j < i → ∃ q, f_Model_dayOn 4001 (trj 4001 u j) 151 173 = some q) →  W p l e R s m args below meth c H1 locs1 c0 s0 Q (F0 m 5 ls []) := by
  obtain ⟨hx, hb, hml, hts, hown, hK, hE, hb2, hkq, hEX, hlt, -⟩ := (⟨hX.1, hX.2.1, hX.2.2.1, hX.2.2.2.1, hX.2.2.2.2.1, hX.2.2.2.2.2.1, hX.2.2.2.2.2.2.1, hX.2.2.2.2.2.2.2.1, hX.2.2.2.2.2.2.2.2.1, hX.2.2.2.2.2.2.2.2.2.1, hX.2.2.2.2.2.2.2.2.2.2, trivial⟩ : _ ∧ _ ∧ _ ∧ _ ∧ _ ∧ _ ∧ _ ∧ _ ∧ _ ∧ _ ∧ _ ∧ True)
  intro j
  induction j with
  | zero =>
    intro i hij v1 H1 locs1 ls hl hL hN hAK hD
    have hi : i = d := by omega
    subst hi
    refine lv_iload hx hb dL_passed_5 (lv_at hl 0 rfl) ?_
    refine lv_iload_n hx hb dL_passed_7 rfl (lv_at hl 2 rfl) ?_
    refine lv_icmp_ge (tgt := 24) hx hb dL_passed_8 rfl (fun _ => ?_) (fun q => absurd (Int32.le_refl _) q)
    exact kk v1 H1 locs1 ls (lv_sub hl [1, 2, 3, 4] rfl) hL hN hAK hD
  | succ j ih =>
    intro i hij v1 H1 locs1 ls hl hL hN hAK hD
    have hi : i < d := by omega
    obtain ⟨a1, a2, a3, a4, ⟨n9, a5, a6⟩, a7, a8⟩ := hAK.1
    obtain ⟨n2, x2, u2, d1, d2, d3, d4, d5⟩ := pass_sm (z := 4001) hL.sr hA a1 a2 a3 (by omega) (n0 := n9) (by omega) a6 (by omega)
    have et : trj 4001 u (i + 1) = u2 := by
      show ((f_Model_dayOn 4001 (trj 4001 u i) 151 173).getD (0, trj 4001 u i)).2 = u2
      rw [d2]; rfl
    have ec : dct 4001 u i + nI n2 = dct 4001 u (i + 1) := by
      show _ = dct 4001 u i + ((f_Model_dayOn 4001 (trj 4001 u i) 151 173).getD (0, trj 4001 u i)).1
      rw [d2]; rfl
    refine lv_iload hx hb dL_passed_5 (lv_at hl 0 rfl) ?_
    refine lv_iload_n hx hb dL_passed_7 rfl (lv_at hl 2 rfl) ?_
    refine lv_icmp_ge (tgt := 24) hx hb dL_passed_8 rfl (fun q => absurd ((le_n (i := d) (j := i) (by omega) (by omega)).mp q) (by omega)) (fun _ => ?_)
    refine lv_iload_n hx hb dL_passed_11 rfl (lv_at hl 1 rfl) ?_
    refine lv_aload_n hx hb dL_passed_12 rfl (lv_at hl 3 rfl) ?_
    refine y_s1 hX hL (by rw [← et] at d3; exact d3) (fun q hq => d5 q (hL.nsm hq)) (c_Sim_pass hL.ik d1) kX12_pass mL_232 rfl rfl rfl hl.1 (Nat.le_of_ble_eq_true rfl) ⟨by omega, by omega⟩ ⟨by omega, by omega⟩ dL_passed_13 fun H1 locs1 hL => ?_
    refine lv_iadd hx hb dL_passed_16 ?_
    refine lv_istore_n (lv' := [(3, .int ((dct 4001 u i) + (nI n2))), (4, .int (nI i)), (2, .int (nI d)), (1, .ref (Γ.2.1 + ks)), (0, .ref (b2 + 0))]) hx hb dL_passed_17 rfl hl (by decide) rfl fun ls hl => ?_
    refine lv_iinc (k := 1) (v := ((nI i) + 1)) (lv' := [(4, .int ((nI i) + 1)), (3, .int ((dct 4001 u i) + (nI n2))), (2, .int (nI d)), (1, .ref (Γ.2.1 + ks)), (0, .ref (b2 + 0))]) hx hb dL_passed_18 hl rfl rfl (by decide) rfl fun ls hl => ?_
    refine lv_goto (tgt := 5) hx hb dL_passed_21 rfl ?_
    rw [ni_s, ec] at hl
    refine ih (i + 1) (by omega) x2 H1 locs1 ls (lv_sub hl [0, 1, 2, 3, 4] rfl) hL (fun q hq => (d5 q hq).trans (hN q hq)) (by rw [et]; exact hAK.tr (d4.li hAK.1)) (fun j hj => ?_)
    by_cases h9 : j = i
    · subst h9; exact ⟨_, d2⟩
    · exact hD j (by omega)
end IE
section IF9
variable {l : Launch} {Γ : Cx} {sh0 shb shC : Sh} {v0 vb0 u : Va} {w wb : Vl} {n0 b2 ks S G M L O B d : Nat} {T : Int} {pA : Nat → Nat} {pB : Nat → Nat → Nat}
theorem c_L_passed (hk : isSim sh0 ks pA pB (pn_ S G M L O)) (hS : SR v0 u ks pA pB S G M L O) (hQ : QI 4001 vb0 u S G M L O) (hA : APT pA pB (pn_ S G M L O) ks) (hLI : LI u S G M L O T B) (hT : T ≤ 59994) (hB : B + d ≤ 4000) (hd1 : 1 ≤ d) (hd2 : d ≤ 20) (hkq : isQuay shb) (hEX : EX (bs Γ b2) shb) (hlt : l.stackTraces = false) (hb2 : (cx0 Γ).heap.size ≤ b2) : MetB l yL_passed cL_passed 5 (some .boolean) 8 1 6 Γ b2 w wb shb (sh0, v0, n0, vb0) [.ref (b2 + 0), .ref (Γ.2.1 + ks), .int (nI d)] (PT ks pA pB S G M L O u T (B + d) sh0 v0 n0) := by
  refine d_start pn_L (Nat.le_of_ble_eq_true rfl) fun p e s m args below meth c hx hb hml hret hlk hts hown hK hE hD ls hl => ?_
  have hX : XM Γ b2 p l s m args c cL_passed 5 RL shb := ⟨hx, hb, hml, hts, hown, hK, hE, hb2, hkq, hEX, hlt⟩
  have hFR : 8 ≤ (rmc 8 1 6).frames ∧ 320 ≤ (rmc 8 1 6).locals := ⟨Nat.le_refl _, Nat.le_refl _⟩
  have hRC : (rmc 8 1 6).cells = 1 := rfl
  have hRS : (rmc 8 1 6).slots = 6 := rfl
  have hL : DL Γ b2 s w wb shb sh0 n0 ks pA pB S G M L O u u (fun _ => none) sh0 v0 n0 vb0 s.heap [] := ⟨hD, hk, hS, hQ, (fun q e g h => nomatch h), fun j i f hq => smQ_lt hk hD.dm hq, GR.rf⟩
  refine lv_iconst (v := 0) hx hb dL_passed_0 rfl ?_
  refine lv_istore_n (lv' := [(3, .int 0), (0, .ref (b2 + 0)), (1, .ref (Γ.2.1 + ks)), (2, .int (nI d))]) hx hb dL_passed_1 rfl hl (by decide) rfl fun ls hl => ?_
  refine lv_iconst (v := 0) hx hb dL_passed_2 rfl ?_
  refine lv_istore (lv' := [(4, .int 0), (3, .int 0), (0, .ref (b2 + 0)), (1, .ref (Γ.2.1 + ks)), (2, .int (nI d))]) hx hb dL_passed_3 hl (by decide) rfl fun ls hl => ?_
  refine ps_loop hX hFR hA hT hB ⟨by omega, by omega⟩ (fun v1 H1 locs1 ls hl hL hN hAK hDs => ?_) d 0 (by omega) v0 _ _ ls (lv_sub hl [0, 1, 4, 3, 2] rfl) hL (fun _ _ => rfl) (AK.rf hLI) (fun j hj => absurd hj (Nat.not_lt_zero _))
  obtain ⟨r9, vb1, e1, e2, e3, -⟩ := q_pass hL.qi (by omega) hd1 (by omega)
  rw [days_m (by omega) (by omega) hDs] at e1
  cases e1
  refine lv_aload_n hx hb dL_passed_24 rfl (lv_at hl 3 rfl) ?_
  refine lv_iload_n hx hb dL_passed_25 rfl (lv_at hl 1 rfl) ?_
  refine y_c1 hX hL e3 (fun nb => c_Quay_pass hkq hEX hlt e2) kX11_pass xlL_235 rfl rfl rfl hl.1 (Nat.le_of_ble_eq_true rfl) ⟨by omega, by omega⟩ ⟨by omega, by omega⟩ dL_passed_26 fun H1 locs1 hL => ?_
  refine lv_iload_n hx hb dL_passed_29 rfl (lv_at hl 0 rfl) ?_
  refine lv_icmp_ne (tgt := 37) hx hb dL_passed_30 rfl (fun q => absurd rfl q) (fun _ => ?_)
  refine lv_iconst (v := 1) hx hb dL_passed_33 rfl ?_
  refine lv_goto (tgt := 38) hx hb dL_passed_34 rfl ?_
  exact d_iret (post := PT ks pA pB S G M L O u T (B + d) sh0 v0 n0) hx hb hret rfl hlk hK hE hL.1 ⟨rfl, v1, n0, vb1, _, rfl, Nat.le_refl _, hL.sr, hL.qi, hN, hAK⟩ dL_passed_38
end IF9
