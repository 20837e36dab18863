/-! ACT: one deed of both sides -/
theorem one_ni {k : Nat} : (1 : Int32) + nI k = nI (k + 1) := by rw [Int32.add_comm]; exact ni_s k
section IH9
variable {l : Launch} {Γ : Cx} {sh0 shb shC : Sh} {v0 vb0 u : Va} {w wb : Vl} {n0 b2 ks S G M L O B : Nat} {T : Int} {pA : Nat → Nat} {pB : Nat → Nat → Nat}
theorem c_L_act {x : Int32} (hk : isSim sh0 ks pA pB (pn_ S G M L O)) (hS : SR v0 u ks pA pB S G M L O) (hQ : QI 4001 vb0 u S G M L O) (hA : APT pA pB (pn_ S G M L O) ks) (hLI : LI u S G M L O T B) (hT : T ≤ 59994) (hB : B + 20 ≤ 4000) (hM1 : 1 ≤ M) (hL1 : 1 ≤ L) (hkq : isQuay shb) (hEX : EX (bs Γ b2) shb) (hlt : l.stackTraces = false) (hb2 : (cx0 Γ).heap.size ≤ b2) : MetBW l yL_act cL_act 10 (some .boolean) [(233, 245, 248, 217)] 10 1 6 Γ b2 w wb shb (sh0, v0, n0, vb0) [.ref (b2 + 0), .ref (Γ.2.1 + ks), .int x] (PT ks pA pB S G M L O u T (B + 20) sh0 v0 n0) := by
  refine d_startS pn_L (Nat.le_of_ble_eq_true rfl) fun p e s m args below meth c hx hb hml hret hlk htab hts hown hK hE hD ls hl => ?_
  have hX : XM Γ b2 p l s m args c cL_act 10 RL shb := ⟨hx, hb, hml, hts, hown, hK, hE, hb2, hkq, hEX, hlt⟩
  have hFR : 10 ≤ (rmc 10 1 6).frames ∧ 400 ≤ (rmc 10 1 6).locals := ⟨Nat.le_refl _, Nat.le_refl _⟩
  have hRC : (rmc 10 1 6).cells = 1 := rfl
  have hRS : (rmc 10 1 6).slots = 6 := rfl
  have hL : DL Γ b2 s w wb shb sh0 n0 ks pA pB S G M L O u u (fun _ => none) sh0 v0 n0 vb0 s.heap [] := ⟨hD, hk, hS, hQ, (fun q e g h => nomatch h), fun j i f hq => smQ_lt hk hD.dm hq, GR.rf⟩
  clear hD hk hS hQ
  have hB := hL.qi.2.2.2.2.2.1
  have hM6 : M ≤ 6 := hB.2.2.1
  have hIS := hL.qi.2.2.2.1
  have hID : ID (u 180) M := hIS.2.2.2.2.1
  have hN0 : ∀ q, NSm ks pA pB S G M L O q → v0 q = v0 q := fun _ _ => rfl
  refine lv_aload_n hx hb dL_act_0 rfl (lv_at hl 1 rfl) ?_
  refine w_gr hx hb hts hown hK hL.hP fL_148 hL.ik.1 rfl dL_act_1 ?_
  refine w_alenR hx hb hK hL.hP hL.ik.2.2.2.1.1 dL_act_4 ?_
  rw [show pn_ S G M L O 2 = M from rfl]
  refine lv_istore_n (lv' := [(3, .int (nI M)), (0, .ref (b2 + 0)), (1, .ref (Γ.2.1 + ks)), (2, .int x)]) hx hb dL_act_5 rfl hl (by decide) rfl fun ls hl => ?_
  refine lv_iload_n hx hb dL_act_6 rfl (lv_at hl 3 rfl) ?_
  refine lv_iconst (v := 3) hx hb dL_act_7 rfl ?_
  refine lv_ishr hx hb dL_act_8 ?_
  refine lv_iload_n hx hb dL_act_9 rfl (lv_at hl 0 rfl) ?_
  refine y_t0 hX hL (c_L_below (x := (x >>> ((3 : Int32) &&& 31))) (b := M) (by omega) (by omega)) kL_below mL_123 rfl rfl hl.1 (Nat.le_of_ble_eq_true rfl) ⟨by omega, by omega⟩ ⟨by omega, by omega⟩ dL_act_10 fun H1 locs1 hL => ?_
  have haM : bel (x >>> ((3 : Int32) &&& 31)) M < M := bel_lt (by omega)
  generalize bel (x >>> ((3 : Int32) &&& 31)) M = a at haM ⊢
  refine lv_istore (lv' := [(4, .int (nI a)), (3, .int (nI M)), (0, .ref (b2 + 0)), (1, .ref (Γ.2.1 + ks)), (2, .int x)]) hx hb dL_act_13 hl (by decide) rfl fun ls hl => ?_
  refine lv_iload_n hx hb dL_act_15 rfl (lv_at hl 4 rfl) ?_
  refine lv_iconst (v := 5) hx hb dL_act_16 rfl ?_
  refine lv_ishr hx hb dL_act_17 ?_
  refine lv_iload_n hx hb dL_act_18 rfl (lv_at hl 1 rfl) ?_
  refine y_t0 hX hL (c_L_below (x := (x >>> ((5 : Int32) &&& 31))) (b := M) (by omega) (by omega)) kL_below mL_123 rfl rfl hl.1 (Nat.le_of_ble_eq_true rfl) ⟨by omega, by omega⟩ ⟨by omega, by omega⟩ dL_act_19 fun H1 locs1 hL => ?_
  have hbM : bel (x >>> ((5 : Int32) &&& 31)) M < M := bel_lt (by omega)
  generalize bel (x >>> ((5 : Int32) &&& 31)) M = b at hbM ⊢
  refine lv_istore (lv' := [(5, .int (nI b)), (4, .int (nI a)), (3, .int (nI M)), (0, .ref (b2 + 0)), (1, .ref (Γ.2.1 + ks)), (2, .int x)]) hx hb dL_act_22 hl (by decide) rfl fun ls hl => ?_
  refine lv_iload_n hx hb dL_act_24 rfl (lv_at hl 5 rfl) ?_
  refine lv_bipush (v := 10) hx hb dL_act_25 rfl ?_
  refine y_t0 hX hL (c_L_below (x := x) (b := 10) (by omega) (by omega)) kL_below mL_123 rfl rfl hl.1 (Nat.le_of_ble_eq_true rfl) ⟨by omega, by omega⟩ ⟨by omega, by omega⟩ dL_act_27 fun H1 locs1 hL => ?_
  have hg : bel x 10 < 10 := bel_lt (by omega)
  generalize bel x 10 = g at hg ⊢
  rcases (by omega : g = 0 ∨ (g = 1 ∨ g = 2 ∨ g = 3) ∨ g = 4 ∨ g = 5 ∨ 6 ≤ g) with hg | hg | hg | hg | hg
  · subst hg
    refine z_tI (y := 0) (tgt := 68) hx hb dL_act_30 rfl (by decide) (by decide) rfl rfl ?_
    refine lv_aload_n hx hb dL_act_68 rfl (lv_at hl 4 rfl) ?_
    refine w_gi hx hb hts hown hK hL.hP fL_203 hL.ik.1 rfl dL_act_69 ?_
    rw [hL.sr.damp]
    refine lv_istore (lv' := [(7, .int (u 173 1)), (5, .int (nI b)), (4, .int (nI a)), (3, .int (nI M)), (0, .ref (b2 + 0)), (1, .ref (Γ.2.1 + ks)), (2, .int x)]) hx hb dL_act_72 hl (by decide) rfl fun ls hl => ?_
    refine lv_aload_n hx hb dL_act_74 rfl (lv_at hl 5 rfl) ?_
    refine lv_iload_n hx hb dL_act_75 rfl (lv_at hl 6 rfl) ?_
    refine lv_iconst (v := 4) hx hb dL_act_76 rfl ?_
    refine lv_ishr hx hb dL_act_77 ?_
    refine lv_bipush (v := 10) hx hb dL_act_78 rfl ?_
    refine y_t0 hX hL (c_L_below (x := (x >>> ((4 : Int32) &&& 31))) (b := 10) (by omega) (by omega)) kL_below mL_123 rfl rfl hl.1 (Nat.le_of_ble_eq_true rfl) ⟨by omega, by omega⟩ ⟨by omega, by omega⟩ dL_act_80 fun H1 locs1 hL => ?_
    have hd : bel (x >>> ((4 : Int32) &&& 31)) 10 < 10 := bel_lt (by omega)
    generalize bel (x >>> ((4 : Int32) &&& 31)) 10 = d at hd ⊢
    obtain ⟨vb1, e1, e2⟩ := q_setDamp hL.qi hd
    refine y_pi hX hL hA hM6 (j9 := 1) (by omega) fL_203 dL_act_83 fun H1 locs1 hL => ?_
    refine lv_aload_n hx hb dL_act_86 rfl (lv_at hl 4 rfl) ?_
    refine lv_aload_n hx hb dL_act_87 rfl (lv_at hl 5 rfl) ?_
    refine w_gi hx hb hts hown hK hL.hP fL_203 hL.ik.1 rfl dL_act_88 ?_
    rw [hL.sr.damp, pu_s]
    refine y_c1 hX hL e2 (fun nb => c_Quay_setDamp hkq hEX hlt e1) kX11_setDamp xlL_207 rfl rfl rfl hl.1 (Nat.le_of_ble_eq_true rfl) ⟨by omega, by omega⟩ ⟨by omega, by omega⟩ dL_act_91 fun H1 locs1 hL => ?_
    refine lv_iload hx hb dL_act_94 (lv_at hl 0 rfl) ?_
    refine lv_icmp_ne (tgt := 103) hx hb dL_act_96 rfl (fun q => absurd rfl q) (fun _ => ?_)
    refine lv_iconst (v := 1) hx hb dL_act_99 rfl ?_
    refine lv_goto (tgt := 104) hx hb dL_act_100 rfl ?_
    refine W.widen (k := 1) (n := 6) (by omega) (by omega) ?_
    exact d_iret (post := PT ks pA pB S G M L O u T (B + 20) sh0 v0 n0) hx hb hret rfl hlk hK hE hL.1 ⟨rfl, _, _, _, _, rfl, Nat.le_refl _, hL.sr, hL.qi, ns_pu (j := 7) (i9 := 0) hN0 (by unfold vQ; omega) rfl, AK.of (hLI.le (by omega)) hL.qi (fm_p (by omega) (by omega)) (pu_p (by omega)) (by rw [pu_p (by omega)]) (pu_d (by omega)) (fun a9 _ => by rw [pu_p (by omega)]) (fun k9 => by rw [pu_p (by omega)]; exact Int.le_refl _)⟩ dL_act_104
  · have J105 : W p l e (rmc 10 1 6) s m args below meth c H1 locs1 0 0 (MQ below (va_Qi (PT ks pA pB S G M L O u T (B + 20) sh0 v0 n0) (fun u => P2 Γ b2 w wb shb u) (gL Γ)) args s 1 6 (gL Γ)) (F0 m 105 ls []) := by
      by_cases hab : a = b
      · refine lv_iload hx hb dL_act_105 (lv_at hl 1 rfl) ?_
        refine lv_iload hx hb dL_act_107 (lv_at hl 0 rfl) ?_
        refine lv_icmp_ne (tgt := 114) hx hb dL_act_109 rfl (fun q => absurd (by rw [hab]) q) (fun _ => ?_)
        refine lv_iconst (v := 1) hx hb dL_act_112 rfl ?_
        refine W.widen (k := 1) (n := 6) (by omega) (by omega) ?_
        exact d_iret (post := PT ks pA pB S G M L O u T (B + 20) sh0 v0 n0) hx hb hret rfl hlk hK hE hL.1 ⟨rfl, _, _, _, _, rfl, Nat.le_refl _, hL.sr, hL.qi, hN0, AK.rf (hLI.le (by omega))⟩ dL_act_113
      · refine lv_iload hx hb dL_act_105 (lv_at hl 1 rfl) ?_
        refine lv_iload hx hb dL_act_107 (lv_at hl 0 rfl) ?_
        refine lv_icmp_ne (tgt := 114) hx hb dL_act_109 rfl (fun _ => ?_) (fun q => absurd q (by rw [eq_n (by omega) (by omega)]; exact hab))
        have J141 : ∀ (c9 : Nat) (H1 : Heap) (locs1 : List Loc), 1 ≤ c9 → c9 ≤ 999 → DL Γ b2 s w wb shb sh0 n0 ks pA pB S G M L O u u (fun _ => none) sh0 v0 n0 vb0 H1 locs1 → W p l e (rmc 10 1 6) s m args below meth c H1 locs1 0 0 (MQ below (va_Qi (PT ks pA pB S G M L O u T (B + 20) sh0 v0 n0) (fun u => P2 Γ b2 w wb shb u) (gL Γ)) args s 1 6 (gL Γ)) (F0 m 141 ls [.int (nI c9)]) := by
          intro c9 H1 locs1 hc1 hc9 hL
          refine lv_istore (lv' := [(7, .int (nI c9)), (5, .int (nI b)), (4, .int (nI a)), (3, .int (nI M)), (0, .ref (b2 + 0)), (1, .ref (Γ.2.1 + ks)), (2, .int x)]) hx hb dL_act_141 hl (by decide) rfl fun ls hl => ?_
          have J182 : ∀ (H1 : Heap) (locs1 : List Loc), DL Γ b2 s w wb shb sh0 n0 ks pA pB S G M L O u u (fun _ => none) sh0 v0 n0 vb0 H1 locs1 → ¬ (¬ u 179 a < nI c9 ∧ row_t (fun k => u 180 (6 * b + k)) 6 + nI c9 ≤ u 163 b) → W p l e (rmc 10 1 6) s m args below meth c H1 locs1 0 0 (MQ below (va_Qi (PT ks pA pB S G M L O u T (B + 20) sh0 v0 n0) (fun u => P2 Γ b2 w wb shb u) (gL Γ)) args s 1 6 (gL Γ)) (F0 m 182 ls []) := by
            intro H1 locs1 hL hno
            refine lv_iconst (v := 0) hx hb dL_act_182 rfl ?_
            refine lv_istore (lv' := [(8, .int 0), (7, .int (nI c9)), (5, .int (nI b)), (4, .int (nI a)), (3, .int (nI M)), (0, .ref (b2 + 0)), (1, .ref (Γ.2.1 + ks)), (2, .int x)]) hx hb dL_act_183 hl (by decide) rfl fun ls hl => ?_
            refine lv_iload hx hb dL_act_185 (lv_at hl 0 rfl) ?_
            refine lv_if_eq (tgt := 233) hx hb dL_act_187 rfl (fun _ => ?_) (fun q => absurd rfl q)
            refine lv_aload_n hx hb dL_act_233 rfl (lv_at hl 5 rfl) ?_
            refine lv_iload hx hb dL_act_234 (lv_at hl 3 rfl) ?_
            refine lv_iload hx hb dL_act_236 (lv_at hl 2 rfl) ?_
            refine lv_iload hx hb dL_act_238 (lv_at hl 1 rfl) ?_
            have hq9 := q_lend hL.qi (by omega) haM hbM (c := nI c9) hab (by rw [show (1 : Int32) = nI 1 from rfl, lt_n (by omega) (by omega)]; omega) (by intro hh; have := Int32.lt_iff_toInt_lt.mp hh; rw [ni_t (by omega), show (9999 : Int32).toInt = 9999 from rfl] at this; omega)
            rw [if_neg hno] at hq9
            have hql := hL.1.blt hkq.1
            refine d_bx (nb := Γ.2.1 + n0 - b2) (k := 0) hx hb hml hts hown hK hE hL.1 hb2 (by omega) (c_Quay_lend hkq hEX hlt hq9) kX11_lend xlL_213 hkq.1 rfl rfl rfl hl.1 (Nat.le_of_ble_eq_true rfl) ⟨by omega, by omega⟩ ⟨by omega, by omega⟩ dL_act_240 (fun E ce q9 n1 H1 locs1 hex hn1 hD hce hcv hcl => ?_) (fun r9 u9 H1 locs1 hp hD => by cases hp)
            obtain ⟨c0, hc0, rfl⟩ := hex
            cases hc0
            have hL := hL.fn hn1 hD
            refine vx_catch hown [] ⟨233, 245, 248, 217⟩ [] (htab.trans rfl) (fun z hz => absurd hz List.not_mem_nil) rfl (by decide) (hts _ cl_217) (hE.cs hEX) hce hcv hcl ?_
            refine lv_astore (lv' := [(9, .ref q9), (8, .int 0), (7, .int (nI c9)), (5, .int (nI b)), (4, .int (nI a)), (3, .int (nI M)), (0, .ref (b2 + 0)), (1, .ref (Γ.2.1 + ks)), (2, .int x)]) hx hb dL_act_248 hl (by decide) rfl fun ls hl => ?_
            refine lv_iconst (v := (-1)) hx hb dL_act_250 rfl ?_
            refine lv_istore (lv' := [(6, .int (-1)), (9, .ref q9), (8, .int 0), (7, .int (nI c9)), (5, .int (nI b)), (4, .int (nI a)), (3, .int (nI M)), (0, .ref (b2 + 0)), (1, .ref (Γ.2.1 + ks)), (2, .int x)]) hx hb dL_act_251 hl (by decide) rfl fun ls hl => ?_
            refine lv_iload hx hb dL_act_253 (lv_at hl 0 rfl) ?_
            refine lv_iload hx hb dL_act_255 (lv_at hl 2 rfl) ?_
            refine lv_if_eq (tgt := 273) hx hb dL_act_257 rfl (fun _ => ?_) (fun q => absurd rfl q)
            refine lv_iconst (v := (-1)) hx hb dL_act_273 rfl ?_
            refine lv_icmp_ne (tgt := 281) hx hb dL_act_274 rfl (fun q => absurd rfl q) (fun _ => ?_)
            refine lv_iconst (v := 1) hx hb dL_act_277 rfl ?_
            refine lv_goto (tgt := 282) hx hb dL_act_278 rfl ?_
            refine W.widen (k := 1) (n := 6) (by omega) (by omega) ?_
            exact d_iret (post := PT ks pA pB S G M L O u T (B + 20) sh0 v0 n0) hx hb hret rfl hlk hK hE hL.1 ⟨rfl, _, _, _, _, rfl, hn1, hL.sr, hL.qi, hN0, AK.rf (hLI.le (by omega))⟩ dL_act_282
          refine lv_aload_n hx hb dL_act_143 rfl (lv_at hl 5 rfl) ?_
          refine w_gr hx hb hts hown hK hL.hP fL_148 hL.ik.1 rfl dL_act_144 ?_
          refine lv_iload hx hb dL_act_147 (lv_at hl 2 rfl) ?_
          refine z_aald hx hb hK hL.hP hL.ik.2.2.2.1.1 (i := nI a) (vin haM (show M ≤ 1000000 by omega)) dL_act_149 ?_
          rw [nI_clamp (by omega)]
          refine lv_iconst (v := 0) hx hb dL_act_150 rfl ?_
          refine w_iald hx hb hK hL.hP (hL.ik.2.2.2.1.2 a haM) (i := 0) (vin (i := 0) (by omega) (by omega)) dL_act_151 ?_
          rw [lc_0, hL.sr.coins haM]
          refine lv_iload hx hb dL_act_152 (lv_at hl 0 rfl) ?_
          by_cases hlt9 : u 179 a < nI c9
          · refine lv_icmp_lt (tgt := 182) hx hb dL_act_154 rfl (fun _ => ?_) (fun q => absurd hlt9 q)
            exact J182 _ _ hL (fun h => h.1 hlt9)
          · refine lv_icmp_lt (tgt := 182) hx hb dL_act_154 rfl (fun q => absurd q hlt9) (fun _ => ?_)
            refine lv_aload_n hx hb dL_act_157 rfl (lv_at hl 5 rfl) ?_
            refine lv_iload hx hb dL_act_158 (lv_at hl 1 rfl) ?_
            refine y_s0 hX hL (c_Sim_debts hL.ik (sim_debts (z := 4001) hL.sr hM6 hID (by omega) hbM)) kX12_debts mL_210 rfl rfl rfl hl.1 (Nat.le_of_ble_eq_true rfl) ⟨by omega, by omega⟩ ⟨by omega, by omega⟩ dL_act_160 fun H1 locs1 hL => ?_
            refine lv_iload hx hb dL_act_163 (lv_at hl 0 rfl) ?_
            refine lv_iadd hx hb dL_act_165 ?_
            refine lv_aload_n hx hb dL_act_166 rfl (lv_at hl 5 rfl) ?_
            refine w_gr hx hb hts hown hK hL.hP fL_148 hL.ik.1 rfl dL_act_167 ?_
            refine lv_iload hx hb dL_act_170 (lv_at hl 1 rfl) ?_
            refine z_aald hx hb hK hL.hP hL.ik.2.2.2.1.1 (i := nI b) (vin hbM (show M ≤ 1000000 by omega)) dL_act_172 ?_
            rw [nI_clamp (by omega)]
            refine lv_iconst (v := 1) hx hb dL_act_173 rfl ?_
            refine w_iald hx hb hK hL.hP (hL.ik.2.2.2.1.2 b hbM) (i := 1) (vin (i := 1) (by omega) (by omega)) dL_act_174 ?_
            rw [lc_1, hL.sr.credit hbM]
            by_cases hle9 : row_t (fun k => u 180 (6 * b + k)) 6 + nI c9 ≤ u 163 b
            · refine lv_icmp_gt (tgt := 182) hx hb dL_act_175 rfl (fun q => absurd hle9 (Int32.not_le.mpr q)) (fun _ => ?_)
              refine lv_iconst (v := 1) hx hb dL_act_178 rfl ?_
              refine lv_goto (tgt := 183) hx hb dL_act_179 rfl ?_
              refine lv_istore (lv' := [(8, .int 1), (7, .int (nI c9)), (5, .int (nI b)), (4, .int (nI a)), (3, .int (nI M)), (0, .ref (b2 + 0)), (1, .ref (Γ.2.1 + ks)), (2, .int x)]) hx hb dL_act_183 hl (by decide) rfl fun ls hl => ?_
              refine lv_iload hx hb dL_act_185 (lv_at hl 0 rfl) ?_
              refine lv_if_eq (tgt := 233) hx hb dL_act_187 rfl (fun q => absurd q (by decide)) (fun _ => ?_)
              refine lv_aload_n hx hb dL_act_190 rfl (lv_at hl 6 rfl) ?_
              refine w_gr hx hb hts hown hK hL.hP fL_148 hL.ik.1 rfl dL_act_191 ?_
              refine lv_iload hx hb dL_act_194 (lv_at hl 3 rfl) ?_
              refine z_aald hx hb hK hL.hP hL.ik.2.2.2.1.1 (i := nI a) (vin haM (show M ≤ 1000000 by omega)) dL_act_196 ?_
              rw [nI_clamp (by omega)]
              refine lv_iconst (v := 0) hx hb dL_act_197 rfl ?_
              refine lv_dup2_11 hx hb dL_act_198 rfl rfl ?_
              refine w_iald hx hb hK hL.hP (hL.ik.2.2.2.1.2 a haM) (i := 0) (vin (i := 0) (by omega) (by omega)) dL_act_199 ?_
              rw [lc_0, hL.sr.coins haM]
              refine lv_iload hx hb dL_act_200 (lv_at hl 1 rfl) ?_
              refine lv_isub hx hb dL_act_202 ?_
              refine y_ist (j := 2) (i9 := a) (f := 0) hX hL hA hM6 (hL.ik.2.2.2.1.2 a haM) (by unfold vQ; omega) rfl lc_0 (vin (i := 0) (by omega) (by omega)) (a := 179) (b' := a) rfl rfl dL_act_203 fun H1 locs1 hL => ?_
              refine lv_aload_n hx hb dL_act_204 rfl (lv_at hl 6 rfl) ?_
              refine w_gr hx hb hts hown hK hL.hP fL_148 hL.ik.1 rfl dL_act_205 ?_
              refine lv_iload hx hb dL_act_208 (lv_at hl 2 rfl) ?_
              refine z_aald hx hb hK hL.hP hL.ik.2.2.2.1.1 (i := nI b) (vin hbM (show M ≤ 1000000 by omega)) dL_act_210 ?_
              rw [nI_clamp (by omega)]
              refine lv_iconst (v := 0) hx hb dL_act_211 rfl ?_
              refine lv_dup2_11 hx hb dL_act_212 rfl rfl ?_
              refine w_iald hx hb hK hL.hP (hL.ik.2.2.2.1.2 b hbM) (i := 0) (vin (i := 0) (by omega) (by omega)) dL_act_213 ?_
              rw [lc_0, hL.sr.coins hbM]
              refine lv_iload hx hb dL_act_214 (lv_at hl 1 rfl) ?_
              refine lv_iadd hx hb dL_act_216 ?_
              refine y_ist (j := 2) (i9 := b) (f := 0) hX hL hA hM6 (hL.ik.2.2.2.1.2 b hbM) (by unfold vQ; omega) rfl lc_0 (vin (i := 0) (by omega) (by omega)) (a := 179) (b' := b) rfl rfl dL_act_217 fun H1 locs1 hL => ?_
              refine lv_aload_n hx hb dL_act_218 rfl (lv_at hl 6 rfl) ?_
              refine w_gr hx hb hts hown hK hL.hP fL_152 hL.ik.1 rfl dL_act_219 ?_
              refine lv_iload hx hb dL_act_222 (lv_at hl 2 rfl) ?_
              refine z_aald hx hb hK hL.hP hL.ik.2.2.2.2.1.1 (i := nI b) (vin hbM (show M ≤ 1000000 by omega)) dL_act_224 ?_
              rw [nI_clamp (by omega)]
              refine lv_iload hx hb dL_act_225 (lv_at hl 3 rfl) ?_
              refine lv_dup2_11 hx hb dL_act_227 rfl rfl ?_
              refine w_iald hx hb hK hL.hP (hL.ik.2.2.2.2.1.2 b hbM) (i := nI a) (vin haM (show M ≤ 1000000 by omega)) dL_act_228 ?_
              rw [nI_clamp (by omega), hL.sr.owes hbM haM, pu_p (by omega), pu_p (by omega)]
              refine lv_iload hx hb dL_act_229 (lv_at hl 1 rfl) ?_
              refine lv_iadd hx hb dL_act_231 ?_
              refine y_ist (j := 3) (i9 := b) (f := a) hX hL hA hM6 (hL.ik.2.2.2.2.1.2 b hbM) (by unfold vQ; omega) rfl (nI_clamp (by omega)) (vin haM (show M ≤ 1000000 by omega)) (a := 180) (b' := (6 * b + a)) rfl rfl dL_act_232 fun H1 locs1 hL => ?_
              refine lv_aload_n hx hb dL_act_233 rfl (lv_at hl 5 rfl) ?_
              refine lv_iload hx hb dL_act_234 (lv_at hl 3 rfl) ?_
              refine lv_iload hx hb dL_act_236 (lv_at hl 2 rfl) ?_
              refine lv_iload hx hb dL_act_238 (lv_at hl 1 rfl) ?_
              have hq9 := q_lend hL.qi (by omega) haM hbM (c := nI c9) hab (by rw [show (1 : Int32) = nI 1 from rfl, lt_n (by omega) (by omega)]; omega) (by intro hh; have := Int32.lt_iff_toInt_lt.mp hh; rw [ni_t (by omega), show (9999 : Int32).toInt = 9999 from rfl] at this; omega)
              rw [if_pos ⟨hlt9, hle9⟩] at hq9
              obtain ⟨vb1, e1, e2, e3⟩ := hq9
              refine y_c1 hX hL e2 (fun nb => c_Quay_lend hkq hEX hlt e1) kX11_lend xlL_213 rfl rfl rfl hl.1 (Nat.le_of_ble_eq_true rfl) ⟨by omega, by omega⟩ ⟨by omega, by omega⟩ dL_act_240 fun H1 locs1 hL => ?_
              refine lv_istore (lv' := [(6, .int (u 180 (6 * b + a) + nI c9)), (8, .int 1), (7, .int (nI c9)), (5, .int (nI b)), (4, .int (nI a)), (3, .int (nI M)), (0, .ref (b2 + 0)), (1, .ref (Γ.2.1 + ks)), (2, .int x)]) hx hb dL_act_243 hl (by decide) rfl fun ls hl => ?_
              refine lv_goto (tgt := 253) hx hb dL_act_245 rfl ?_
              refine lv_iload hx hb dL_act_253 (lv_at hl 0 rfl) ?_
              refine lv_iload hx hb dL_act_255 (lv_at hl 1 rfl) ?_
              refine lv_if_eq (tgt := 273) hx hb dL_act_257 rfl (fun q => absurd q (by decide)) (fun _ => ?_)
              refine lv_aload_n hx hb dL_act_260 rfl (lv_at hl 7 rfl) ?_
              refine w_gr hx hb hts hown hK hL.hP fL_152 hL.ik.1 rfl dL_act_261 ?_
              refine lv_iload hx hb dL_act_264 (lv_at hl 3 rfl) ?_
              refine z_aald hx hb hK hL.hP hL.ik.2.2.2.2.1.1 (i := nI b) (vin hbM (show M ≤ 1000000 by omega)) dL_act_266 ?_
              rw [nI_clamp (by omega)]
              refine lv_iload hx hb dL_act_267 (lv_at hl 4 rfl) ?_
              refine w_iald hx hb hK hL.hP (hL.ik.2.2.2.2.1.2 b hbM) (i := nI a) (vin haM (show M ≤ 1000000 by omega)) dL_act_269 ?_
              rw [nI_clamp (by omega), hL.sr.owes hbM haM, pu_s]
              refine lv_goto (tgt := 274) hx hb dL_act_270 rfl ?_
              refine lv_icmp_ne (tgt := 281) hx hb dL_act_274 rfl (fun q => absurd rfl q) (fun _ => ?_)
              refine lv_iconst (v := 1) hx hb dL_act_277 rfl ?_
              refine lv_goto (tgt := 282) hx hb dL_act_278 rfl ?_
              have hc0 : (nI c9).toInt = c9 := ni_t (by omega)
              have hc2 := t_le.mp (Int32.not_lt.mp hlt9)
              refine W.widen (k := 1) (n := 6) (by omega) (by omega) ?_
              exact d_iret (post := PT ks pA pB S G M L O u T (B + 20) sh0 v0 n0) hx hb hret rfl hlk hK hE hL.1 ⟨rfl, _, _, _, _, rfl, Nat.le_refl _, hL.sr, hL.qi, ns_pu (j := 3) (i9 := b) (ns_pu (j := 2) (i9 := b) (ns_pu (j := 2) (i9 := a) hN0 (by unfold vQ; omega) rfl) (by unfold vQ; omega) rfl) (by unfold vQ; omega) rfl, AK.of (hLI.le (by omega)) hL.qi e3 (by rw [pu_p (by omega), pu_p (by omega), pu_p (by omega)]) (by rw [pu_p (by omega), pu_e, pu_e, upd_ne (Ne.symm hab)]; exact move_sum hIS.2.2.2.1 (by omega) (by omega) hab (by omega) (by show _ ≤ (u 179 a).toInt; omega)) (by rw [pu_p (by omega), pu_p (by omega), pu_p (by omega)]) (fun a9 ha9 => by rw [pu_p (by omega), pu_e, pu_e, upd_ne (by omega), upd_ne (by omega)]) (fun k9 => by rw [pu_p (by omega), pu_p (by omega), pu_p (by omega)]; exact Int.le_refl _)⟩ dL_act_282
            · refine lv_icmp_gt (tgt := 182) hx hb dL_act_175 rfl (fun _ => ?_) (fun q => absurd (Int32.not_le.mp hle9) q)
              exact J182 _ _ hL (fun h => hle9 h.2)
        refine lv_iconst (v := 1) hx hb dL_act_114 rfl ?_
        refine lv_iload_n hx hb dL_act_115 rfl (lv_at hl 5 rfl) ?_
        refine lv_bipush (v := 7) hx hb dL_act_116 rfl ?_
        refine lv_ishr hx hb dL_act_118 ?_
        refine lv_iload_n hx hb dL_act_119 rfl (lv_at hl 5 rfl) ?_
        refine lv_iconst (v := 4) hx hb dL_act_120 rfl ?_
        refine lv_ishr hx hb dL_act_121 ?_
        refine lv_iconst (v := 2) hx hb dL_act_122 rfl ?_
        refine y_t0 hX hL (c_L_below (x := (x >>> ((4 : Int32) &&& 31))) (b := 2) (by omega) (by omega)) kL_below mL_123 rfl rfl hl.1 (Nat.le_of_ble_eq_true rfl) ⟨by omega, by omega⟩ ⟨by omega, by omega⟩ dL_act_123 fun H1 locs1 hL => ?_
        have hf : bel (x >>> ((4 : Int32) &&& 31)) 2 < 2 := bel_lt (by omega)
        generalize bel (x >>> ((4 : Int32) &&& 31)) 2 = f at hf ⊢
        by_cases hf0 : f = 0
        · refine lv_if_ne (tgt := 135) hx hb dL_act_126 rfl (fun q => absurd (show nI f = 0 by rw [hf0]; rfl) q) (fun _ => ?_)
          refine lv_sipush (v := 999) hx hb dL_act_129 rfl ?_
          refine lv_goto (tgt := 137) hx hb dL_act_132 rfl ?_
          refine y_t0 hX hL (c_L_below (x := (x >>> ((7 : Int32) &&& 31))) (b := 999) (by omega) (by omega)) kL_below mL_123 rfl rfl hl.1 (Nat.le_of_ble_eq_true rfl) ⟨by omega, by omega⟩ ⟨by omega, by omega⟩ dL_act_137 fun H1 locs1 hL => ?_
          have hc8 : bel (x >>> ((7 : Int32) &&& 31)) 999 < 999 := bel_lt (by omega)
          generalize bel (x >>> ((7 : Int32) &&& 31)) 999 = c8 at hc8 ⊢
          refine lv_iadd hx hb dL_act_140 ?_
          rw [one_ni]
          exact J141 (c8 + 1) _ _ (by omega) (by omega) hL
        · refine lv_if_ne (tgt := 135) hx hb dL_act_126 rfl (fun _ => ?_) (fun q => absurd q (by rw [show (0 : Int32) = nI 0 from rfl, eq_n (by omega) (by omega)]; exact hf0))
          refine lv_bipush (v := 60) hx hb dL_act_135 rfl ?_
          refine y_t0 hX hL (c_L_below (x := (x >>> ((7 : Int32) &&& 31))) (b := 60) (by omega) (by omega)) kL_below mL_123 rfl rfl hl.1 (Nat.le_of_ble_eq_true rfl) ⟨by omega, by omega⟩ ⟨by omega, by omega⟩ dL_act_137 fun H1 locs1 hL => ?_
          have hc8 : bel (x >>> ((7 : Int32) &&& 31)) 60 < 60 := bel_lt (by omega)
          generalize bel (x >>> ((7 : Int32) &&& 31)) 60 = c8 at hc8 ⊢
          refine lv_iadd hx hb dL_act_140 ?_
          rw [one_ni]
          exact J141 (c8 + 1) _ _ (by omega) (by omega) hL
    rcases hg with rfl | rfl | rfl
    · exact z_tI (y := 1) (tgt := 105) hx hb dL_act_30 rfl (by decide) (by decide) rfl rfl J105
    · exact z_tI (y := 2) (tgt := 105) hx hb dL_act_30 rfl (by decide) (by decide) rfl rfl J105
    · exact z_tI (y := 3) (tgt := 105) hx hb dL_act_30 rfl (by decide) (by decide) rfl rfl J105
  · subst hg
    refine z_tI (y := 4) (tgt := 283) hx hb dL_act_30 rfl (by decide) (by decide) rfl rfl ?_
    by_cases hab : a = b
    · refine lv_iload hx hb dL_act_283 (lv_at hl 1 rfl) ?_
      refine lv_iload hx hb dL_act_285 (lv_at hl 0 rfl) ?_
      refine lv_icmp_ne (tgt := 292) hx hb dL_act_287 rfl (fun q => absurd (by rw [hab]) q) (fun _ => ?_)
      refine lv_iconst (v := 1) hx hb dL_act_290 rfl ?_
      refine W.widen (k := 1) (n := 6) (by omega) (by omega) ?_
      exact d_iret (post := PT ks pA pB S G M L O u T (B + 20) sh0 v0 n0) hx hb hret rfl hlk hK hE hL.1 ⟨rfl, _, _, _, _, rfl, Nat.le_refl _, hL.sr, hL.qi, hN0, AK.rf (hLI.le (by omega))⟩ dL_act_291
    · refine lv_iload hx hb dL_act_283 (lv_at hl 1 rfl) ?_
      refine lv_iload hx hb dL_act_285 (lv_at hl 0 rfl) ?_
      refine lv_icmp_ne (tgt := 292) hx hb dL_act_287 rfl (fun _ => ?_) (fun q => absurd q (by rw [eq_n (by omega) (by omega)]; exact hab))
      refine lv_aload_n hx hb dL_act_292 rfl (lv_at hl 4 rfl) ?_
      refine w_gr hx hb hts hown hK hL.hP fL_152 hL.ik.1 rfl dL_act_293 ?_
      refine lv_iload hx hb dL_act_296 (lv_at hl 1 rfl) ?_
      refine z_aald hx hb hK hL.hP hL.ik.2.2.2.2.1.1 (i := nI a) (vin haM (show M ≤ 1000000 by omega)) dL_act_298 ?_
      rw [nI_clamp (by omega)]
      refine lv_iload hx hb dL_act_299 (lv_at hl 0 rfl) ?_
      refine w_iald hx hb hK hL.hP (hL.ik.2.2.2.2.1.2 a haM) (i := nI b) (vin hbM (show M ≤ 1000000 by omega)) dL_act_301 ?_
      rw [nI_clamp (by omega), hL.sr.owes haM hbM]
      refine lv_aload_n hx hb dL_act_302 rfl (lv_at hl 4 rfl) ?_
      refine w_gr hx hb hts hown hK hL.hP fL_152 hL.ik.1 rfl dL_act_303 ?_
      refine lv_iload hx hb dL_act_306 (lv_at hl 0 rfl) ?_
      refine z_aald hx hb hK hL.hP hL.ik.2.2.2.2.1.1 (i := nI b) (vin hbM (show M ≤ 1000000 by omega)) dL_act_308 ?_
      rw [nI_clamp (by omega)]
      refine lv_iload hx hb dL_act_309 (lv_at hl 1 rfl) ?_
      refine w_iald hx hb hK hL.hP (hL.ik.2.2.2.2.1.2 b hbM) (i := nI a) (vin haM (show M ≤ 1000000 by omega)) dL_act_311 ?_
      rw [nI_clamp (by omega), hL.sr.owes hbM haM]
      refine z_mmin hx hb hml hl.1 hts hown xL_219 ⟨by omega, by omega⟩ (Nat.le_of_ble_eq_true rfl) ⟨Nat.zero_le _, Nat.zero_le _⟩ dL_act_312 ?_
      obtain ⟨vb1, e1, e2, e3⟩ := q_offset hL.qi haM hbM hab
      generalize q_min (u 180 (6 * a + b)) (u 180 (6 * b + a)) = mm at e1 e2 e3 ⊢
      refine lv_istore (lv' := [(7, .int mm), (5, .int (nI b)), (4, .int (nI a)), (3, .int (nI M)), (0, .ref (b2 + 0)), (1, .ref (Γ.2.1 + ks)), (2, .int x)]) hx hb dL_act_315 hl (by decide) rfl fun ls hl => ?_
      refine lv_aload_n hx hb dL_act_317 rfl (lv_at hl 5 rfl) ?_
      refine w_gr hx hb hts hown hK hL.hP fL_152 hL.ik.1 rfl dL_act_318 ?_
      refine lv_iload hx hb dL_act_321 (lv_at hl 2 rfl) ?_
      refine z_aald hx hb hK hL.hP hL.ik.2.2.2.2.1.1 (i := nI a) (vin haM (show M ≤ 1000000 by omega)) dL_act_323 ?_
      rw [nI_clamp (by omega)]
      refine lv_iload hx hb dL_act_324 (lv_at hl 1 rfl) ?_
      refine lv_dup2_11 hx hb dL_act_326 rfl rfl ?_
      refine w_iald hx hb hK hL.hP (hL.ik.2.2.2.2.1.2 a haM) (i := nI b) (vin hbM (show M ≤ 1000000 by omega)) dL_act_327 ?_
      rw [nI_clamp (by omega), hL.sr.owes haM hbM]
      refine lv_iload hx hb dL_act_328 (lv_at hl 0 rfl) ?_
      refine lv_isub hx hb dL_act_330 ?_
      refine y_ist (j := 3) (i9 := a) (f := b) hX hL hA hM6 (hL.ik.2.2.2.2.1.2 a haM) (by unfold vQ; omega) rfl (nI_clamp (by omega)) (vin hbM (show M ≤ 1000000 by omega)) (a := 180) (b' := (6 * a + b)) rfl rfl dL_act_331 fun H1 locs1 hL => ?_
      refine lv_aload_n hx hb dL_act_332 rfl (lv_at hl 5 rfl) ?_
      refine w_gr hx hb hts hown hK hL.hP fL_152 hL.ik.1 rfl dL_act_333 ?_
      refine lv_iload hx hb dL_act_336 (lv_at hl 1 rfl) ?_
      refine z_aald hx hb hK hL.hP hL.ik.2.2.2.2.1.1 (i := nI b) (vin hbM (show M ≤ 1000000 by omega)) dL_act_338 ?_
      rw [nI_clamp (by omega)]
      refine lv_iload hx hb dL_act_339 (lv_at hl 2 rfl) ?_
      refine lv_dup2_11 hx hb dL_act_341 rfl rfl ?_
      refine w_iald hx hb hK hL.hP (hL.ik.2.2.2.2.1.2 b hbM) (i := nI a) (vin haM (show M ≤ 1000000 by omega)) dL_act_342 ?_
      rw [nI_clamp (by omega), hL.sr.owes hbM haM, pu_d (by omega)]
      refine lv_iload hx hb dL_act_343 (lv_at hl 0 rfl) ?_
      refine lv_isub hx hb dL_act_345 ?_
      refine y_ist (j := 3) (i9 := b) (f := a) hX hL hA hM6 (hL.ik.2.2.2.2.1.2 b hbM) (by unfold vQ; omega) rfl (nI_clamp (by omega)) (vin haM (show M ≤ 1000000 by omega)) (a := 180) (b' := (6 * b + a)) rfl rfl dL_act_346 fun H1 locs1 hL => ?_
      refine lv_aload_n hx hb dL_act_347 rfl (lv_at hl 4 rfl) ?_
      refine lv_iload hx hb dL_act_348 (lv_at hl 2 rfl) ?_
      refine lv_iload hx hb dL_act_350 (lv_at hl 1 rfl) ?_
      refine y_c1 hX hL e2 (fun nb => c_Quay_offset hkq hEX hlt e1) kX11_offset xlL_222 rfl rfl rfl hl.1 (Nat.le_of_ble_eq_true rfl) ⟨by omega, by omega⟩ ⟨by omega, by omega⟩ dL_act_352 fun H1 locs1 hL => ?_
      refine lv_iload hx hb dL_act_355 (lv_at hl 0 rfl) ?_
      refine lv_icmp_ne (tgt := 364) hx hb dL_act_357 rfl (fun q => absurd rfl q) (fun _ => ?_)
      refine lv_iconst (v := 1) hx hb dL_act_360 rfl ?_
      refine lv_goto (tgt := 365) hx hb dL_act_361 rfl ?_
      refine W.widen (k := 1) (n := 6) (by omega) (by omega) ?_
      exact d_iret (post := PT ks pA pB S G M L O u T (B + 20) sh0 v0 n0) hx hb hret rfl hlk hK hE hL.1 ⟨rfl, _, _, _, _, rfl, Nat.le_refl _, hL.sr, hL.qi, ns_pu (j := 3) (i9 := b) (ns_pu (j := 3) (i9 := a) hN0 (by unfold vQ; omega) rfl) (by unfold vQ; omega) rfl, AK.of (hLI.le (by omega)) hL.qi e3 (by rw [pu_p (by omega), pu_p (by omega)]) (by rw [pu_p (by omega), pu_p (by omega)]) (by rw [pu_p (by omega), pu_p (by omega)]) (fun a9 ha9 => by rw [pu_p (by omega), pu_p (by omega)]) (fun k9 => by rw [pu_p (by omega), pu_p (by omega)]; exact Int.le_refl _)⟩ dL_act_365
  · subst hg
    refine z_tI (y := 5) (tgt := 366) hx hb dL_act_30 rfl (by decide) (by decide) rfl rfl ?_
    refine lv_iload_n hx hb dL_act_366 rfl (lv_at hl 5 rfl) ?_
    refine lv_iconst (v := 4) hx hb dL_act_367 rfl ?_
    refine lv_ishr hx hb dL_act_368 ?_
    refine lv_aload_n hx hb dL_act_369 rfl (lv_at hl 4 rfl) ?_
    refine w_gr hx hb hts hown hK hL.hP fL_163 hL.ik.1 rfl dL_act_370 ?_
    refine w_alenR hx hb hK hL.hP hL.ik.2.2.2.2.2.1.1 dL_act_373 ?_
    rw [show pn_ S G M L O 4 = L from rfl]
    refine y_t0 hX hL (c_L_below (x := (x >>> ((4 : Int32) &&& 31))) (b := L) (by omega) (by omega)) kL_below mL_123 rfl rfl hl.1 (Nat.le_of_ble_eq_true rfl) ⟨by omega, by omega⟩ ⟨by omega, by omega⟩ dL_act_374 fun H1 locs1 hL => ?_
    have hk9 : bel (x >>> ((4 : Int32) &&& 31)) L < L := bel_lt (by omega)
    generalize bel (x >>> ((4 : Int32) &&& 31)) L = k9 at hk9 ⊢
    obtain ⟨vb1, e1, e2, e3⟩ := q_dry hL.qi hk9
    refine lv_istore (lv' := [(7, .int (nI k9)), (5, .int (nI b)), (4, .int (nI a)), (3, .int (nI M)), (0, .ref (b2 + 0)), (1, .ref (Γ.2.1 + ks)), (2, .int x)]) hx hb dL_act_377 hl (by decide) rfl fun ls hl => ?_
    refine lv_aload_n hx hb dL_act_379 rfl (lv_at hl 5 rfl) ?_
    refine w_gr hx hb hts hown hK hL.hP fL_163 hL.ik.1 rfl dL_act_380 ?_
    refine lv_iload hx hb dL_act_383 (lv_at hl 0 rfl) ?_
    refine z_aald hx hb hK hL.hP hL.ik.2.2.2.2.2.1.1 (i := nI k9) (vin hk9 (show L ≤ 1000000 by omega)) dL_act_385 ?_
    rw [nI_clamp (by omega)]
    refine lv_iconst (v := 1) hx hb dL_act_386 rfl ?_
    refine lv_dup2_11 hx hb dL_act_387 rfl rfl ?_
    refine w_iald hx hb hK hL.hP (hL.ik.2.2.2.2.2.1.2 k9 hk9) (i := 1) (vin (i := 1) (by omega) (by omega)) dL_act_388 ?_
    rw [lc_1, hL.sr.weight hk9]
    refine lv_aload_n hx hb dL_act_389 rfl (lv_at hl 5 rfl) ?_
    refine w_gr hx hb hts hown hK hL.hP fL_163 hL.ik.1 rfl dL_act_390 ?_
    refine lv_iload hx hb dL_act_393 (lv_at hl 0 rfl) ?_
    refine z_aald hx hb hK hL.hP hL.ik.2.2.2.2.2.1.1 (i := nI k9) (vin hk9 (show L ≤ 1000000 by omega)) dL_act_395 ?_
    rw [nI_clamp (by omega)]
    refine lv_iconst (v := 1) hx hb dL_act_396 rfl ?_
    refine w_iald hx hb hK hL.hP (hL.ik.2.2.2.2.2.1.2 k9 hk9) (i := 1) (vin (i := 1) (by omega) (by omega)) dL_act_397 ?_
    rw [lc_1, hL.sr.weight hk9]
    refine lv_bipush (v := 10) hx hb dL_act_398 rfl ?_
    refine lv_idiv hx hb dL_act_400 (by decide) ?_
    refine lv_isub hx hb dL_act_401 ?_
    refine y_ist (j := 4) (i9 := k9) (f := 1) hX hL hA hM6 (hL.ik.2.2.2.2.2.1.2 k9 hk9) (by unfold vQ; omega) rfl lc_1 (vin (i := 1) (by omega) (by omega)) (a := 174) (b' := k9) rfl rfl dL_act_402 fun H1 locs1 hL => ?_
    refine lv_aload_n hx hb dL_act_403 rfl (lv_at hl 5 rfl) ?_
    refine w_gr hx hb hts hown hK hL.hP fL_163 hL.ik.1 rfl dL_act_404 ?_
    refine lv_iload hx hb dL_act_407 (lv_at hl 0 rfl) ?_
    refine z_aald hx hb hK hL.hP hL.ik.2.2.2.2.2.1.1 (i := nI k9) (vin hk9 (show L ≤ 1000000 by omega)) dL_act_409 ?_
    rw [nI_clamp (by omega)]
    refine lv_iconst (v := 3) hx hb dL_act_410 rfl ?_
    refine lv_iconst (v := (-1)) hx hb dL_act_411 rfl ?_
    refine y_ist (j := 4) (i9 := k9) (f := 3) hX hL hA hM6 (hL.ik.2.2.2.2.2.1.2 k9 hk9) (by unfold vQ; omega) rfl lc_3 (vin (i := 3) (by omega) (by omega)) (a := 176) (b' := k9) rfl rfl dL_act_412 fun H1 locs1 hL => ?_
    refine lv_aload_n hx hb dL_act_413 rfl (lv_at hl 4 rfl) ?_
    refine lv_iload hx hb dL_act_414 (lv_at hl 0 rfl) ?_
    refine y_c1 hX hL e2 (fun nb => c_Quay_dry hkq hEX hlt e1) kX11_dry xlL_225 rfl rfl rfl hl.1 (Nat.le_of_ble_eq_true rfl) ⟨by omega, by omega⟩ ⟨by omega, by omega⟩ dL_act_416 fun H1 locs1 hL => ?_
    refine lv_aload_n hx hb dL_act_419 rfl (lv_at hl 5 rfl) ?_
    refine w_gr hx hb hts hown hK hL.hP fL_163 hL.ik.1 rfl dL_act_420 ?_
    refine lv_iload hx hb dL_act_423 (lv_at hl 0 rfl) ?_
    refine z_aald hx hb hK hL.hP hL.ik.2.2.2.2.2.1.1 (i := nI k9) (vin hk9 (show L ≤ 1000000 by omega)) dL_act_425 ?_
    rw [nI_clamp (by omega)]
    refine lv_iconst (v := 1) hx hb dL_act_426 rfl ?_
    refine w_iald hx hb hK hL.hP (hL.ik.2.2.2.2.2.1.2 k9 hk9) (i := 1) (vin (i := 1) (by omega) (by omega)) dL_act_427 ?_
    rw [lc_1, hL.sr.weight hk9]
    rw [pu_p (by omega), pu_s]
    refine lv_icmp_ne (tgt := 435) hx hb dL_act_428 rfl (fun q => absurd rfl q) (fun _ => ?_)
    refine lv_iconst (v := 1) hx hb dL_act_431 rfl ?_
    refine lv_goto (tgt := 436) hx hb dL_act_432 rfl ?_
    have hw9 : 0 ≤ (u 174 k9).toInt ∧ (u 174 k9).toInt ≤ 9000 := hIS.1.1 k9 hk9
    have hd9 : (u 174 k9 / 10).toInt = (u 174 k9).toInt / 10 := t_div rfl (by omega) hw9.1
    have hs9 : (u 174 k9 - u 174 k9 / 10).toInt = (u 174 k9).toInt - (u 174 k9 / 10).toInt := t_sub (by omega) (by omega)
    refine W.widen (k := 1) (n := 6) (by omega) (by omega) ?_
    exact d_iret (post := PT ks pA pB S G M L O u T (B + 20) sh0 v0 n0) hx hb hret rfl hlk hK hE hL.1 ⟨rfl, _, _, _, _, rfl, Nat.le_refl _, hL.sr, hL.qi, ns_pu (j := 4) (i9 := k9) (ns_pu (j := 4) (i9 := k9) hN0 (by unfold vQ; omega) rfl) (by unfold vQ; omega) rfl, AK.of (hLI.le (by omega)) hL.qi e3 (by rw [pu_p (by omega), pu_p (by omega)]) (by rw [pu_p (by omega), pu_p (by omega)]) (by rw [pu_p (by omega), pu_p (by omega)]) (fun a9 ha9 => by rw [pu_p (by omega), pu_p (by omega)]) (fun i8 => by
      rw [pu_p (by omega), pu_e]
      by_cases h8 : i8 = k9
      · rw [h8, upd_eq]; omega
      · rw [upd_ne h8]; exact Int.le_refl _)⟩ dL_act_436
  · refine lv_tableOut (tgt := 437) hx hb dL_act_30 (Or.inr (by rw [ni_t (by omega)]; omega)) rfl ?_
    have J464 : ∀ (c9 : Nat) (H1 : Heap) (locs1 : List Loc), 1 ≤ c9 → c9 ≤ 20 → DL Γ b2 s w wb shb sh0 n0 ks pA pB S G M L O u u (fun _ => none) sh0 v0 n0 vb0 H1 locs1 → W p l e (rmc 10 1 6) s m args below meth c H1 locs1 0 0 (MQ below (va_Qi (PT ks pA pB S G M L O u T (B + 20) sh0 v0 n0) (fun u => P2 Γ b2 w wb shb u) (gL Γ)) args s 1 6 (gL Γ)) (F0 m 464 ls [.int (nI c9), .ref (Γ.2.1 + ks), .ref (b2 + 0)]) := by
      intro c9 H1 locs1 hc1 hc9 hL
      refine d_2i (post := PT ks pA pB S G M L O u T (B + c9) sh0 v0 n0) (Bs := [.ref (b2 + 0), .ref (Γ.2.1 + ks), .int (nI c9)]) hL.1 (w_rS hx hb hml hts hown hK (c_L_passed hL.ik hL.sr hL.qi hA hLI hT (by omega) hc1 hc9 hkq hEX hlt hb2) rfl rfl kL_passed mL_228 P2.blind (d_p2 hE hK hL.1) rfl hl.1 rfl (Nat.le_of_ble_eq_true rfl) ⟨Nat.le_of_ble_eq_true rfl, Nat.le_of_ble_eq_true rfl⟩ ⟨by omega, by omega⟩ dL_act_464) fun r9 u9 H1 locs1 hp hD => ?_
      obtain ⟨rfl, v1, n1, vb1, u1, rfl, hn, h1, h2, h3, h4⟩ := hp
      refine W.widen (k := 1) (n := 6) (by omega) (by omega) ?_
      exact d_iret (post := PT ks pA pB S G M L O u T (B + 20) sh0 v0 n0) hx hb hret rfl hlk hK hE hD ⟨rfl, _, _, _, _, rfl, hn, h1, h2, h3, h4.1.le (by omega), h4.2⟩ dL_act_467
    refine lv_aload_n hx hb dL_act_437 rfl (lv_at hl 3 rfl) ?_
    refine lv_aload_n hx hb dL_act_438 rfl (lv_at hl 4 rfl) ?_
    refine lv_iconst (v := 1) hx hb dL_act_439 rfl ?_
    refine lv_iload_n hx hb dL_act_440 rfl (lv_at hl 5 rfl) ?_
    refine lv_iconst (v := 4) hx hb dL_act_441 rfl ?_
    refine lv_ishr hx hb dL_act_442 ?_
    refine lv_iload_n hx hb dL_act_443 rfl (lv_at hl 5 rfl) ?_
    refine lv_bipush (v := 8) hx hb dL_act_444 rfl ?_
    refine lv_ishr hx hb dL_act_446 ?_
    refine lv_iconst (v := 4) hx hb dL_act_447 rfl ?_
    refine y_t0 hX hL (c_L_below (x := (x >>> ((8 : Int32) &&& 31))) (b := 4) (by omega) (by omega)) kL_below mL_123 rfl rfl hl.1 (Nat.le_of_ble_eq_true rfl) ⟨by omega, by omega⟩ ⟨by omega, by omega⟩ dL_act_448 fun H1 locs1 hL => ?_
    have hf : bel (x >>> ((8 : Int32) &&& 31)) 4 < 4 := bel_lt (by omega)
    generalize bel (x >>> ((8 : Int32) &&& 31)) 4 = f at hf ⊢
    by_cases hf0 : f = 0
    · refine lv_if_ne (tgt := 459) hx hb dL_act_451 rfl (fun q => absurd (show nI f = 0 by rw [hf0]; rfl) q) (fun _ => ?_)
      refine lv_bipush (v := 20) hx hb dL_act_454 rfl ?_
      refine lv_goto (tgt := 460) hx hb dL_act_456 rfl ?_
      refine y_t0 hX hL (c_L_below (x := (x >>> ((4 : Int32) &&& 31))) (b := 20) (by omega) (by omega)) kL_below mL_123 rfl rfl hl.1 (Nat.le_of_ble_eq_true rfl) ⟨by omega, by omega⟩ ⟨by omega, by omega⟩ dL_act_460 fun H1 locs1 hL => ?_
      have hc8 : bel (x >>> ((4 : Int32) &&& 31)) 20 < 20 := bel_lt (by omega)
      generalize bel (x >>> ((4 : Int32) &&& 31)) 20 = c8 at hc8 ⊢
      refine lv_iadd hx hb dL_act_463 ?_
      rw [one_ni]
      exact J464 (c8 + 1) _ _ (by omega) (by omega) hL
    · refine lv_if_ne (tgt := 459) hx hb dL_act_451 rfl (fun _ => ?_) (fun q => absurd q (by rw [show (0 : Int32) = nI 0 from rfl, eq_n (by omega) (by omega)]; exact hf0))
      refine lv_iconst (v := 3) hx hb dL_act_459 rfl ?_
      refine y_t0 hX hL (c_L_below (x := (x >>> ((4 : Int32) &&& 31))) (b := 3) (by omega) (by omega)) kL_below mL_123 rfl rfl hl.1 (Nat.le_of_ble_eq_true rfl) ⟨by omega, by omega⟩ ⟨by omega, by omega⟩ dL_act_460 fun H1 locs1 hL => ?_
      have hc8 : bel (x >>> ((4 : Int32) &&& 31)) 3 < 3 := bel_lt (by omega)
      generalize bel (x >>> ((4 : Int32) &&& 31)) 3 = c8 at hc8 ⊢
      refine lv_iadd hx hb dL_act_463 ?_
      rw [one_ni]
      exact J464 (c8 + 1) _ _ (by omega) (by omega) hL
end IH9
