/-! THE LAW: forty turns -/
section LE9
variable {p : Program} {l : Launch} {e : Env} {R : Room} {s : State} {m : MethodId} {args : Array Value} {below : List Frame} {meth : Method} {c : Code} {H H0 : Heap} {locs : List Loc} {cells slots : Nat} {Q : State → Prop}
variable {cc : ByteArray} {pc nL : Nat} {ls : Array Slot} {st0 rest As Bs : List Value} {Γ : Cx} {sh sh0 shb : Sh} {v v0 v1 vb vb1 : Va} {w wb : Vl} {own : String} {idx ci j k n n0 nb nn hh mL mc ms a b2 ks S G M L O d1 d2 c0 s0 : Nat} {cs : List Nat} {y : MethodName} {b : ByteArray} {ret : Option FieldType} {pA : Nat → Nat} {pB : Nat → Nat → Nat} {u ua ub ua1 ub1 : Va} {P : Pfn}
variable {x9 A9 : Int32} {t9 kw kb b0 : Nat} {T : Int} {B : Nat}
variable {d1 d2 L0 : Nat} {shC : Sh} {xs : Nat → Int32} {hh9 : List (Nat × Nat × Nat × Nat)} {C1 S1 : Nat}
theorem LO.scr (h : LO Γ sh) (hC : SCR Γ shC b0 L0 xs) : SCR Γ sh b0 L0 xs := hC.gr fun q hg => Or.inr (hg.elim (fun ⟨k, e, hk, _, e1⟩ => by rw [e1]; exact h k e hk) id)
theorem y_SS (hX : XM Γ b2 p l s m args c cc nL own shb) (hL : DL Γ b2 s w wb shb sh0 n0 ks pA pB S G M L O ua ub P sh v n vb H locs) {post : Int32 → Wu → Prop} (hM : MetBW l y b mL ret hh9 hh C1 S1 Γ b2 w wb shb (sh, v, n, vb) As post) (hC : CASW y b mL ret hh9 nn) (hML : Cond.methodLink own idx y ∈ lw_all) (hst : st0 = As.reverse ++ rest) (hn : As.length = nn) (hls : ls.size = nL) (hW : (rest.map fun v => v.category).sum ≤ 8) (hR : hh + 1 ≤ R.frames ∧ 8 + (mL + 11) + 40 * hh ≤ R.locals) (hf : cells + C1 ≤ R.cells ∧ slots + S1 ≤ R.slots) (hdg : decode cc pc = .ok (.invokestatic idx, 3))
    (kk : ∀ (r : Int32) (u : Wu) (H1 : Heap) (locs1 : List Loc), post r u → DW Γ b2 s w wb shb u.1 u.2.1 u.2.2.1 u.2.2.2 H1 locs1 → W p l e R s m args below meth c H1 locs1 (cells + C1) (slots + S1) Q (F0 m (pc + 3) ls (.int r :: rest))) : W p l e R s m args below meth c H locs cells slots Q (F0 m pc ls st0) := by
  obtain ⟨hx, hb, hml, hts, hown, hK, hE, hb2, hk, hEX, hlt⟩ := id hX
  obtain ⟨hc, hi, hsx, hax⟩ := hC
  have hws : ∀ w ∈ wsC y b mL ret hh9, ∀ (a' : Array Value) (U : State), s.WarmedH U.vm → w.before a' U = true := by
    intro w hw a' U hW
    have h1 : w ∈ lw_all := by
      rcases List.mem_cons.mp hw with h | h
      · rw [h]; exact hc
      · exact h
    exact lw_steady (List.mem_filter.mp h1).2 hW (hts _ h1)
  exact d_2i (Bs := As) hL.1 (vx_runSW (n := nn) ⟨hx, hb, hml, hown, hts⟩ hM ⟨⟨rfl, rfl, hR.1, hR.2, hws, List.mem_cons_self⟩, hts _ hc, hts _ hi, ⟨hax.1, hax.2.1⟩, w_len hax, hts _ hML, hts _ hsx⟩ ⟨P2.blind, d_p2 hE hK hL.1⟩ rfl hn hls hst (by simpa [JFrame.monitorRoom] using hW) hdg hf) kk
theorem DL.pt {u1 : Va} {n1 : Nat} (h : DL Γ b2 s w wb shb sh0 n0 ks pA pB S G M L O ua ub P sh v n vb H locs) {H1 : Heap} {locs1 : List Loc} (hD : DW Γ b2 s w wb shb sh v1 n1 vb1 H1 locs1) (hn : n ≤ n1) (hS : SR v1 u1 ks pA pB S G M L O) (hQ : QI 4001 vb1 u1 S G M L O) (hN : ∀ q, NSm ks pA pB S G M L O q → v1 q = v q) : DL Γ b2 s w wb shb sh0 n0 ks pA pB S G M L O u1 u1 P sh v1 n1 vb1 H1 locs1 :=
  ⟨hD, h.ik, hS, hQ, fun q e g hq => by
    obtain ⟨h1, h2, h3, h4⟩ := h.N q e g hq
    exact ⟨h1, (hN q (h.nsm h4)).trans h2, h3, h4⟩, h.2.2.2.2.2.1, ⟨Nat.le_trans h.2.2.2.2.2.2.1 hn, h.2.2.2.2.2.2.2⟩⟩
theorem lw_turns (hX : XM Γ b2 p l s m args c cL_law 31 RL shb) (hFR : 14 ≤ R.frames ∧ 560 ≤ R.locals) (hA : APT pA pB (pn_ S G M L O) ks) (hT : T ≤ 59994) (hA9 : A9.toInt = T) (hM1 : 1 ≤ M) (hL1 : 1 ≤ L) (hEC : EC Γ shC d1 d2) (hSC : SCR Γ shC b0 L0 xs) (hroom : c0 + 26000 ≤ R.cells ∧ s0 + 150000 ≤ R.slots)
    (kk : ∀ (sh : Sh) (v : Va) (n : Nat) (vb : Va) (H1 : Heap) (locs1 : List Loc) (ls : Array Slot), DW Γ b2 s w wb shb sh v n vb H1 locs1 → W p l e R s m args below meth c H1 locs1 (c0 + 26000) (s0 + 150000) Q (F0 m 1206 ls [.int 1])) :
    ∀ (j t : Nat), t + j = 40 → ∀ (u : Va) (P : Pfn) (sh : Sh) (v : Va) (n : Nat) (vb : Va) (H1 : Heap) (locs1 : List Loc) (ls : Array Slot) (g : Nat → Int32), lv_has ls 31 [(10, .int (nI t)), (9, .ref (Γ.2.1 + kw)), (8, .int A9), (7, .int (nI O)), (6, .int (nI G)), (5, .int (nI L)), (4, .int (nI M)), (3, .ref (b2 + 0)), (2, .ref (Γ.2.1 + ks)), (1, .ref (Γ.2.1 + kb)), (0, .ref b0)] → DL Γ b2 s w wb shb sh0 n0 ks pA pB S G M L O u u P sh v n vb H1 locs1 → LI u S G M L O T (21 * t) → P kw = some (sA L, g) → (∀ k, k < L → (u 174 k).toInt ≤ (g k).toInt) → W p l e R s m args below meth c H1 locs1 (c0 + 600 * t) (s0 + 3000 * t) Q (F0 m 109 ls []) := by
  obtain ⟨hx, hb, hml, hts, hown, hK, hE, hb2, hkq, hEX, hlt, -⟩ := (⟨hX.1, hX.2.1, hX.2.2.1, hX.2.2.2.1, hX.2.2.2.2.1, hX.2.2.2.2.2.1, hX.2.2.2.2.2.2.1, hX.2.2.2.2.2.2.2.1, hX.2.2.2.2.2.2.2.2.1, hX.2.2.2.2.2.2.2.2.2.1, hX.2.2.2.2.2.2.2.2.2.2, trivial⟩ : _ ∧ _ ∧ _ ∧ _ ∧ _ ∧ _ ∧ _ ∧ _ ∧ _ ∧ _ ∧ _ ∧ True)
  intro j
  induction j with
  | zero =>
    intro t hij u P sh v n vb H1 locs1 ls g hl hL hLI hPw hgw
    have hi : t = 40 := by omega
    refine lv_iload hx hb dL_law_109 (lv_at hl 0 rfl) ?_
    refine lv_bipush (v := 40) hx hb dL_law_111 rfl ?_
    refine lv_icmp_ge (tgt := 1201) hx hb dL_law_113 rfl (fun _ => ?_) (fun q => absurd (by rw [hi]; exact Int32.le_refl _) q)
    refine lv_aload_n hx hb dL_law_1201 rfl (lv_at hl 8 rfl) ?_
    refine lv_aload_n hx hb dL_law_1202 rfl (lv_at hl 7 rfl) ?_
    refine W.widen (k := c0 + 25000) (n := s0 + 130000) (by omega) (by omega) ?_
    refine d_2i (Bs := [.ref (Γ.2.1 + ks), .ref (b2 + 0)]) hL.1 (w_rV (k := ks) hx hb hml hts hown hK (c_Sim_isSame hL.ik hL.sr hL.qi hEC hL1 hLI.2.2.2.2.2.1 hLI.2.2.2.2.2.2.1 hkq hEX hlt hb2) rfl rfl kX12_isSame mL_289 (w_recv hK hL.hP hL.ik.1 rfl) P2.blind (d_p2 hE hK hL.1) rfl hl.1 rfl (Nat.le_of_ble_eq_true rfl) ⟨by show 12 + 1 ≤ R.frames; omega, by show 8 + (10 + 11) + 40 * 12 ≤ R.locals; omega⟩ ⟨by omega, by omega⟩ dL_law_1203) fun r u9 H1 locs1 hp hD => ?_
    rw [show r = 1 from hp]
    refine W.widen (k := c0 + 26000) (n := s0 + 150000) (by omega) (by omega) ?_
    exact kk _ _ _ _ _ _ ls hD
  | succ j ih =>
    intro t hij u P sh v n vb H1 locs1 ls g hl hL hLI hPw hgw
    have hi : t < 40 := by omega
    have hB := hL.qi.2.2.2.2.2.1
    refine lv_iload hx hb dL_law_109 (lv_at hl 0 rfl) ?_
    refine lv_bipush (v := 40) hx hb dL_law_111 rfl ?_
    refine lv_icmp_ge (tgt := 1201) hx hb dL_law_113 rfl (fun q => absurd ((le_n (i := 40) (j := t) (by omega) (by omega)).mp q) (by omega)) (fun _ => ?_)
    refine lv_aload_n hx hb dL_law_116 rfl (lv_at hl 10 rfl) ?_
    refine lv_iload hx hb dL_law_117 (lv_at hl 0 rfl) ?_
    refine lv_bipush (v := 16) hx hb dL_law_119 rfl ?_
    refine lv_irem hx hb dL_law_121 (by decide) ?_
    rw [show nI t - nI t / 16 * 16 = nI (t % 16) from nn_rem (b := 16) (by omega) (by omega)]
    refine y_t0 hX hL (c_L_cell (hL.1.2.2.2.2.1.scr hSC) (show t % 16 ≤ 2000 by omega)) kL_cell mL_117 rfl rfl hl.1 (Nat.le_of_ble_eq_true rfl) ⟨by omega, by omega⟩ ⟨by omega, by omega⟩ dL_law_122 fun H1 locs1 hL => ?_
    refine lv_iload hx hb dL_law_125 (lv_at hl 0 rfl) ?_
    refine lv_bipush (v := 16) hx hb dL_law_127 rfl ?_
    refine lv_idiv hx hb dL_law_129 (by decide) ?_
    refine lv_bipush (v := 6) hx hb dL_law_130 rfl ?_
    refine lv_imul hx hb dL_law_132 ?_
    refine lv_ishr hx hb dL_law_133 ?_
    refine lv_bipush (v := 47) hx hb dL_law_134 rfl ?_
    refine lv_iload hx hb dL_law_136 (lv_at hl 0 rfl) ?_
    refine lv_imul hx hb dL_law_138 ?_
    refine lv_iadd hx hb dL_law_139 ?_
    generalize (((cel L0 xs (t % 16)) >>> (((nI t / 16) * (6 : Int32)) &&& 31)) + ((47 : Int32) * (nI t))) = x9
    refine lv_istore (lv' := [(11, .int x9), (10, .int (nI t)), (9, .ref (Γ.2.1 + kw)), (8, .int A9), (7, .int (nI O)), (6, .int (nI G)), (5, .int (nI L)), (4, .int (nI M)), (3, .ref (b2 + 0)), (2, .ref (Γ.2.1 + ks)), (1, .ref (Γ.2.1 + kb)), (0, .ref b0)]) hx hb dL_law_140 hl (by decide) rfl fun ls hl => ?_
    refine lv_aload_n hx hb dL_law_142 rfl (lv_at hl 8 rfl) ?_
    refine lv_aload_n hx hb dL_law_143 rfl (lv_at hl 9 rfl) ?_
    refine lv_iload hx hb dL_law_144 (lv_at hl 0 rfl) ?_
    refine y_SS hX hL (c_L_act (x := x9) hL.ik hL.sr hL.qi hA hLI hT (by omega) hM1 hL1 hkq hEX hlt hb2) kL_act (tk7 (i := 188) (by decide +kernel) rfl) rfl rfl hl.1 (Nat.le_of_ble_eq_true rfl) ⟨by omega, by omega⟩ ⟨by omega, by omega⟩ dL_law_146 fun r9 z9 H1 locs1 hp hD => ?_
    obtain ⟨rfl, v1, n1, vb1, u1, rfl, hn1, hS1, hQ1, hN1, hAK⟩ := hp
    have hL := hL.pt hD hn1 hS1 hQ1 hN1
    have hLI1 := hAK.1
    clear hS1 hQ1 hN1 hD
    refine lv_if_ne (tgt := 154) hx hb dL_law_149 rfl (fun _ => ?_) (fun q => absurd q (by decide))
    refine lv_iconst (v := 0) hx hb dL_law_154 rfl ?_
    refine lv_istore (lv' := [(12, .int 0), (11, .int x9), (10, .int (nI t)), (9, .ref (Γ.2.1 + kw)), (8, .int A9), (7, .int (nI O)), (6, .int (nI G)), (5, .int (nI L)), (4, .int (nI M)), (3, .ref (b2 + 0)), (2, .ref (Γ.2.1 + ks)), (1, .ref (Γ.2.1 + kb)), (0, .ref b0)]) hx hb dL_law_155 hl (by decide) rfl fun ls hl => ?_
    refine lv_iconst (v := 0) hx hb dL_law_157 rfl ?_
    refine lv_istore (lv' := [(13, .int 0), (12, .int 0), (11, .int x9), (10, .int (nI t)), (9, .ref (Γ.2.1 + kw)), (8, .int A9), (7, .int (nI O)), (6, .int (nI G)), (5, .int (nI L)), (4, .int (nI M)), (3, .ref (b2 + 0)), (2, .ref (Γ.2.1 + ks)), (1, .ref (Γ.2.1 + kb)), (0, .ref b0)]) hx hb dL_law_158 hl (by decide) rfl fun ls hl => ?_
    refine lv_iconst (v := 0) hx hb dL_law_160 rfl ?_
    refine lv_istore (lv' := [(14, .int 0), (13, .int 0), (12, .int 0), (11, .int x9), (10, .int (nI t)), (9, .ref (Γ.2.1 + kw)), (8, .int A9), (7, .int (nI O)), (6, .int (nI G)), (5, .int (nI L)), (4, .int (nI M)), (3, .ref (b2 + 0)), (2, .ref (Γ.2.1 + ks)), (1, .ref (Γ.2.1 + kb)), (0, .ref b0)]) hx hb dL_law_161 hl (by decide) rfl fun ls hl => ?_
    refine W.widen (k := c0 + 600 * t + 1 + 2 * 0) (n := s0 + 3000 * t + 6 + 12 * 0) (by omega) (by omega) ?_
    refine lw_gui (t9 := t) (c0 := c0 + 600 * t + 1) (s0 := s0 + 3000 * t + 6) hX hFR ⟨by omega, by omega⟩ (fun vb H1 locs1 ls hl hL => ?_) G 0 (by omega) _ _ _ ls (lv_sub hl [0, 1, 2, 3, 4, 5, 6, 7, 8, 9, 10, 11, 12, 13, 14] rfl) hL
    refine lv_iconst (v := 0) hx hb dL_law_200 rfl ?_
    refine lv_istore (lv' := [(14, .int 0), (13, .int (row_t (fun g => gU u1 L g 3) G)), (12, .int (row_t (u1 181) G)), (11, .int x9), (10, .int (nI t)), (9, .ref (Γ.2.1 + kw)), (8, .int A9), (7, .int (nI O)), (6, .int (nI G)), (5, .int (nI L)), (4, .int (nI M)), (3, .ref (b2 + 0)), (2, .ref (Γ.2.1 + ks)), (1, .ref (Γ.2.1 + kb)), (0, .ref b0)]) hx hb dL_law_201 hl (by decide) rfl fun ls hl => ?_
    refine lv_iconst (v := 0) hx hb dL_law_203 rfl ?_
    refine lv_istore (lv' := [(15, .int 0), (14, .int 0), (13, .int (row_t (fun g => gU u1 L g 3) G)), (12, .int (row_t (u1 181) G)), (11, .int x9), (10, .int (nI t)), (9, .ref (Γ.2.1 + kw)), (8, .int A9), (7, .int (nI O)), (6, .int (nI G)), (5, .int (nI L)), (4, .int (nI M)), (3, .ref (b2 + 0)), (2, .ref (Γ.2.1 + ks)), (1, .ref (Γ.2.1 + kb)), (0, .ref b0)]) hx hb dL_law_204 hl (by decide) rfl fun ls hl => ?_
    refine W.widen (k := c0 + 600 * t + 10 + 10 * 0) (n := s0 + 3000 * t + 60 + 60 * 0) (by omega) (by omega) ?_
    refine lw_lots (t9 := t) (c0 := c0 + 600 * t + 10) (s0 := s0 + 3000 * t + 60) hX hFR (hL.N kw _ _ hPw).2.2.2 ⟨by omega, by omega⟩ (fun P v vb H1 locs1 ls g hl hL hPw hgw => ?_) L 0 (by omega) _ _ _ _ _ ls g (lv_sub hl [0, 1, 2, 3, 4, 5, 6, 7, 8, 9, 10, 11, 12, 13, 14, 15] rfl) hL hPw (fun k hk => Int.le_trans (hAK.2.1 k) (hgw k hk))
    refine W.widen (k := c0 + 600 * t + 120) (n := s0 + 3000 * t + 700) (by omega) (by omega) ?_
    refine lw_mer (t9 := t) (c0 := c0 + 600 * t + 120) (s0 := s0 + 3000 * t + 700) hX hFR hLI1 hT hA9 ⟨by omega, by omega⟩ (fun vb H1 locs1 ls hl hL => ?_) hl hL
    obtain ⟨a1, a2, a3, a4, ⟨n9, a5, a6⟩, a7, a8⟩ := id hLI1
    obtain ⟨n2, x3, u2, e1, e2, e3, e4, e5⟩ := pass_sm (z := 4001) hL.sr hA a1 a2 a3 (by omega) (n0 := n9) (by omega) a6 (by omega)
    refine lw_before (t9 := t) (c0 := c0 + 600 * t + 120 + 200) (s0 := s0 + 3000 * t + 700 + 1200) hX hFR hM1 (day_1 e2).1 ⟨by omega, by omega⟩ (fun P1 sh v n vb H1 locs1 ls ko kh kt k7 r9 go gh gt hl hL hPP hPo hgo hPh hgh hPt hgt hk7 hU => ?_) hl hL
    refine lw_after (t9 := t) (c0 := c0 + 600 * t + 120 + 200 + 100) (s0 := s0 + 3000 * t + 700 + 1200 + 500) hX hFR hA hLI1 hT (by omega) (by omega) e2 e4 hPo hgo hPh hgh hPt hgt hk7 hU ⟨by omega, by omega⟩ (fun v vb H1 locs1 ls hl hL => ?_) hl hL
    refine W.widen (k := c0 + 600 * (t + 1)) (n := s0 + 3000 * (t + 1)) (by omega) (by omega) ?_
    exact ih (t + 1) (by omega) u2 P1 _ _ _ _ _ _ ls g hl hL ((e4.li hLI1).1.le (by omega)) ((hPP kw (by rw [hPw]; exact fun h => nomatch h)).trans hPw) (fun k hk => Int.le_trans ((e4.li hLI1).2.1 k) (hgw k hk))
end LE9
