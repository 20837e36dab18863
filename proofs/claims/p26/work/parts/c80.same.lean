/-! SIM: isSame -/
section ID9
variable {l : Launch} {Γ : Cx} {sh0 shb shC : Sh} {v0 vb0 u : Va} {w wb : Vl} {n0 b2 ks S G M L O d1 d2 : Nat} {pA : Nat → Nat} {pB : Nat → Nat → Nat}
theorem c_Sim_isSame (hk : isSim sh0 ks pA pB (pn_ S G M L O)) (hS : SR v0 u ks pA pB S G M L O) (hQ : QI 4001 vb0 u S G M L O) (hEC : EC Γ shC d1 d2) (hL1 : 1 ≤ L) (hw0 : u 149 2 = 0) (hco : ∀ a, a < 6 → M ≤ a → u 179 a = 0) (hkq : isQuay shb) (hEX : EX (bs Γ b2) shb) (hlt : l.stackTraces = false) (hb2 : (cx0 Γ).heap.size ≤ b2) : MetB l yX12_isSame cX12_isSame 10 (some .boolean) 12 1000 20000 Γ b2 w wb shb (sh0, v0, n0, vb0) [.ref (Γ.2.1 + ks), .ref (b2 + 0)] (fun r _ => r = 1) := by
  refine d_start pn_X12 (Nat.le_of_ble_eq_true rfl) fun p e s m args below meth c hx hb hml hret hlk hts hown hK hE hD ls hl => ?_
  have hX : XM Γ b2 p l s m args c cX12_isSame 10 RX12 shb := ⟨hx, hb, hml, hts, hown, hK, hE, hb2, hkq, hEX, hlt⟩
  have hFR : 12 ≤ (rmc 12 1000 20000).frames ∧ 480 ≤ (rmc 12 1000 20000).locals := ⟨Nat.le_refl _, Nat.le_refl _⟩
  have hRC : (rmc 12 1000 20000).cells = 1000 := rfl
  have hRS : (rmc 12 1000 20000).slots = 20000 := rfl
  have hL : DL Γ b2 s w wb shb sh0 n0 ks pA pB S G M L O u u (fun _ => none) sh0 v0 n0 vb0 s.heap [] := ⟨hD, hk, hS, hQ, (fun q e g h => nomatch h), fun j i f hq => smQ_lt hk hD.dm hq, GR.rf⟩
  have hB := hQ.2.2.2.2.2.1
  refine lv_aload_n hx hb dX12_isSame_0 rfl (lv_at hl 0 rfl) ?_
  refine w_gr hx hb hts hown hK hL.hP fX12_18 hL.ik.1 rfl dX12_isSame_1 ?_
  refine w_alenR hx hb hK hL.hP hL.ik.2.2.1.1 dX12_isSame_4 ?_
  rw [show pn_ S G M L O 1 = G from rfl]
  refine y_new (x := nI G) (N := G) hX hL (nI_pos (by omega)) (nI_clamp (by omega)) (by omega) (by omega) (by omega) dX12_isSame_5 fun H1 hL => ?_
  refine lv_astore_n (lv' := [(2, .ref (Γ.2.1 + n0)), (0, .ref (Γ.2.1 + ks)), (1, .ref (b2 + 0))]) hx hb dX12_isSame_7 rfl hl (by decide) rfl fun ls hl => ?_
  refine lv_iconst (v := 0) hx hb dX12_isSame_8 rfl ?_
  refine lv_istore_n (lv' := [(3, .int 0), (2, .ref (Γ.2.1 + n0)), (0, .ref (Γ.2.1 + ks)), (1, .ref (b2 + 0))]) hx hb dX12_isSame_9 rfl hl (by decide) rfl fun ls hl => ?_
  refine W.widen (k := 1 + 8 * 0) (n := 4 + 49 * 0) (by omega) (by omega) ?_
  refine is_lots hX hFR (pb := n0) ⟨by omega, by omega⟩ (fun P sh v n vb H1 locs1 ls g hl hL hPb hgb => ?_) L 0 (by omega) _ _ _ _ _ _ _ ls (fun _ => 0) (lv_sub hl [0, 1, 3, 2] rfl) hL (up_eq _ _ _) (fun q hq => rfl)
  refine lv_iconst (v := 0) hx hb dX12_isSame_170 rfl ?_
  refine lv_istore_n (lv' := [(3, .int 0), (2, .ref (Γ.2.1 + n0)), (1, .ref (b2 + 0)), (0, .ref (Γ.2.1 + ks))]) hx hb dX12_isSame_171 rfl hl (by decide) rfl fun ls hl => ?_
  refine W.widen (k := 100 + 60 * 0) (n := 600 + 1400 * 0) (by omega) (by omega) ?_
  refine is_mers hX hFR (pb := n0) hEC ⟨by omega, by omega⟩ (fun P sh v n vb H1 locs1 ls hl hL hPb => ?_) M 0 (by omega) _ _ _ _ _ _ _ ls (lv_sub hl [0, 1, 2, 3] rfl) hL hPb
  refine lv_iconst (v := 0) hx hb dX12_isSame_425 rfl ?_
  refine lv_istore_n (lv' := [(3, .int 0), (2, .ref (Γ.2.1 + n0)), (1, .ref (b2 + 0)), (0, .ref (Γ.2.1 + ks))]) hx hb dX12_isSame_426 rfl hl (by decide) rfl fun ls hl => ?_
  refine W.widen (k := 500 + 4 * 0) (n := 9100 + 24 * 0) (by omega) (by omega) ?_
  refine is_guis hX hFR (pb := n0) ⟨by omega, by omega⟩ hgb hPb (fun vb H1 locs1 ls hl hL => ?_) G 0 (by omega) _ _ _ ls (lv_sub hl [0, 1, 2, 3] rfl) hL
  refine lv_iconst (v := 0) hx hb dX12_isSame_492 rfl ?_
  refine lv_istore_n (lv' := [(3, .int 0), (1, .ref (b2 + 0)), (0, .ref (Γ.2.1 + ks))]) hx hb dX12_isSame_493 rfl hl (by decide) rfl fun ls hl => ?_
  refine W.widen (k := 520 + 6 * 0) (n := 9200 + 35 * 0) (by omega) (by omega) ?_
  refine is_ords hX hFR ⟨by omega, by omega⟩ (fun P sh v n vb H1 locs1 ls hl hL => ?_) O 0 (by omega) _ _ _ _ _ _ _ ls (lv_sub hl [0, 1, 2] rfl) hL
  refine lv_aload_n hx hb dX12_isSame_612 rfl (lv_at hl 1 rfl) ?_
  refine W.widen (k := 700) (n := 10100) (by omega) (by omega) ?_
  refine y_sr hX hL (c_Sim_counts hL.ik hL.sr hL.qi.2.2.2.2.2 hL.qi.2.2.2.1 hco) (fun r u9 h => by obtain ⟨-, g9, h1, -⟩ := h; rw [h1]; exact ⟨GR.rf.nw, fun q hq => up_ne (by omega)⟩) kX12_counts mX12_125 rfl rfl rfl hl.1 (Nat.le_of_ble_eq_true rfl) ⟨by omega, by omega⟩ ⟨by omega, by omega⟩ dX12_isSame_613 fun r u9 H1 locs1 hp hL9 => ?_
  obtain ⟨hr, g9, hu, hg9⟩ := hp
  rw [hr]
  rw [hu] at hL9
  dsimp only at hL9
  have hL := hL9.fput (q0 := n) (e0 := sA 14) (g0 := g9) hL9.1 (up_eq _ _ _) (up_eq _ _ _) trivial hL.2.2.2.2.2.2.1 (fun q hq => ⟨rfl, rfl⟩) hL9.ik hL9.2.2.2.2.2.2
  refine lv_astore_n (lv' := [(3, .ref (Γ.2.1 + n)), (1, .ref (b2 + 0)), (0, .ref (Γ.2.1 + ks))]) hx hb dX12_isSame_616 rfl hl (by decide) rfl fun ls hl => ?_
  refine lv_iconst (v := 0) hx hb dX12_isSame_617 rfl ?_
  refine lv_istore (lv' := [(4, .int 0), (3, .ref (Γ.2.1 + n)), (1, .ref (b2 + 0)), (0, .ref (Γ.2.1 + ks))]) hx hb dX12_isSame_618 hl (by decide) rfl fun ls hl => ?_
  refine is_cnt (c0 := 701) (s0 := 10114) hX hFR (up_eq _ _ _) (fun i hi => ?_) ⟨by omega, by omega⟩ (fun vb H1 locs1 ls hl hL => ?_) 14 0 rfl _ _ _ ls (lv_sub hl [0, 1, 2, 3] rfl) hL
  · rw [hg9 i (by omega)]
    unfold cS
    by_cases h13 : i = 13
    · rw [if_pos h13, h13]
      exact hw0.symm
    · rw [if_neg h13]
  refine lv_aload_n hx hb dX12_isSame_648 rfl (lv_at hl 1 rfl) ?_
  have hql := hL.1.blt hkq.1
  have hnb : b2 + (Γ.2.1 + (n + 1) - b2) = Γ.2.1 + (n + 1) := by omega
  have hdv : DVs (nI L) = true := dv_ok L (by omega) hL1
  refine d_bd (nb := Γ.2.1 + (n + 1) - b2) hL.1 hb2 hnb (w_rV (Γ := bs Γ b2) (k := 0) hx hb hml hts hown hK (c_Quay_mean hkq (weight_c hL.qi.2.2.1) hL.qi.1.2.1.2.2.2.1 (by rw [show (0 : Int32) = nI 0 from rfl, le_n (by omega) (by omega)]; omega) hdv) rfl rfl kX11_mean mX12_132 (w_recv (Γ := bs Γ b2) hK hL.1.2.2.1 hkq.1 rfl) PN.blind (d_pnB hE hK hL.1 hnb) rfl hl.1 rfl (Nat.le_of_ble_eq_true rfl) ⟨Nat.le_of_ble_eq_true rfl, Nat.le_of_ble_eq_true rfl⟩ ⟨by omega, by omega⟩ dX12_isSame_649) fun r9 u9 H1 locs1 hp hD9 => ?_
  obtain ⟨hr9, hu9⟩ := hp
  subst hu9
  have hL := hL.fb hD9 hL.qi
  rw [hr9]
  refine lv_aload_n hx hb dX12_isSame_652 rfl (lv_at hl 2 rfl) ?_
  refine w_gr hx hb hts hown hK hL.hP fX12_28 hL.ik.1 rfl dX12_isSame_653 ?_
  refine w_alenR hx hb hK hL.hP hL.ik.2.2.2.2.2.1.1 dX12_isSame_656 ?_
  rw [show pn_ S G M L O 4 = L from rfl]
  refine lv_if_ne (tgt := 664) hx hb dX12_isSame_657 rfl (fun _ => ?_) (fun q => absurd q (by rw [show (0 : Int32) = nI 0 from rfl, eq_n (by omega) (by omega)]; omega))
  refine lv_aload_n hx hb dX12_isSame_664 rfl (lv_at hl 2 rfl) ?_
  refine y_s0 hX hL (c_Sim_weight hL.ik (sim_weight (z := 4001) hL.sr (by omega) hL.qi.2.2.2.1.1 (by omega))) kX12_weight mX12_88 rfl rfl rfl hl.1 (Nat.le_of_ble_eq_true rfl) ⟨by omega, by omega⟩ ⟨by omega, by omega⟩ dX12_isSame_665 fun H1 locs1 hL => ?_
  refine lv_i2d hx hb dX12_isSame_668 ?_
  refine lv_aload_n hx hb dX12_isSame_669 rfl (lv_at hl 2 rfl) ?_
  refine w_gr hx hb hts hown hK hL.hP fX12_28 hL.ik.1 rfl dX12_isSame_670 ?_
  refine w_alenR hx hb hK hL.hP hL.ik.2.2.2.2.2.1.1 dX12_isSame_673 ?_
  rw [show pn_ S G M L O 4 = L from rfl]
  refine lv_i2d hx hb dX12_isSame_674 ?_
  refine lv_ddiv hx hb dX12_isSame_675 (dd_n64 hdv) ?_
  refine lv_dcmp hx hb dX12_isSame_676 ?_
  rw [dd_cmp hdv]
  refine lv_if_ne (tgt := 684) hx hb dX12_isSame_677 rfl (fun q => absurd rfl q) (fun _ => ?_)
  refine lv_iconst (v := 1) hx hb dX12_isSame_680 rfl ?_
  refine lv_goto (tgt := 685) hx hb dX12_isSame_681 rfl ?_
  refine W.widen (k := 1000) (n := 20000) (by omega) (by omega) ?_
  exact d_iret (post := fun r _ => r = 1) hx hb hret rfl hlk hK hE hL.1 rfl dX12_isSame_685
end ID9
