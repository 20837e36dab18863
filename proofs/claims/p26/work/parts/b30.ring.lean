/-! SIM: ring -/
section ZX
variable {p : Program} {l : Launch} {e : Env} {R : Room} {s : State} {m : MethodId} {args : Array Value} {below : List Frame} {meth : Method} {c : Code} {H H0 : Heap} {locs : List Loc} {cells slots : Nat} {Q : State → Prop}
variable {cc : ByteArray} {pc nL : Nat} {ls : Array Slot} {st0 rest As Bs : List Value} {Γ : Cx} {sh sh0 shb : Sh} {v v0 v1 : Va} {w : Vl} {own : String} {idx ci j k n n0 nb nn hh mL mc ms a d1 d2 : Nat} {cs : List Nat} {y : MethodName} {b : ByteArray} {ret : Option FieldType}
theorem w_zaA (hx : p.tables.exec = Jvm.exec) (hb : c.code = cc) (hK : wK Γ s) (hP : Wd Γ sh v w H) {A : Nat → Prop} (hS : va_S A H0 H locs) (hA : A (Γ.2.1 + k)) (hz : H.size = Γ.2.1 + n) {N : Nat} (he : sh k = some (sB 2 N)) {i x : Int32} (hin : vp_in i N) {v1 : Va} (hv1 : pu v k i.toNatClampNeg (vp_nar .boolean x) = v1) (hdg : decode cc pc = .ok (.bastore, 1))
    (kk : ∀ (H1 : Heap) (locs1 : List Loc), H1.size = Γ.2.1 + n → Wd Γ sh v1 w H1 → va_S A H0 H1 locs1 → W p l e R s m args below meth c H1 locs1 cells slots Q (F0 m (pc + 1) ls rest)) : W p l e R s m args below meth c H locs cells slots Q (F0 m pc ls (.int x :: .int i :: .ref (Γ.2.1 + k) :: rest)) := by
  have hcell : H[Γ.2.1 + k]? = some (vp_cell (Γ.2.2.2.1 2) (N, .inl (v k))) := hP k _ he
  refine W.zast hx hb hcell ((hK.2 3 _ rfl).1 N (fun j => .int (v k j))) (fun q => by cases q) (by show ¬ (i < 0 ∨ (arrV _ _ _).slots.size ≤ _); rw [arrV_size]; exact hin) rfl rfl hdg fun H1 e z oq => ?_
  refine kk H1 _ (z.trans hz) (hP.set k (fun e0 h0 => ?_) (fun q h => rfl) (fun q h => by rw [← hv1]; exact up_ne h) (fun q h => rfl) (fun q _ h _ => oq _ (fun hh => h (Nat.add_left_cancel hh)))) (hS.put z oq hA)
  rw [he] at h0
  cases h0
  rw [← hv1, pu, up_eq]
  show H1[Γ.2.1 + k]? = some (vp_cell _ _)
  rw [e, vp_cell_i]
  show some ((arrV _ _ _).setSlot _ _) = some (arrV (Γ.2.2.2.1 2) N (fun j => .int (upd (v k) i.toNatClampNeg (vp_nar .boolean x) j)))
  rw [arrV_store]
  congr 2
  funext q
  by_cases hq : q = i.toNatClampNeg
  · subst hq
    simp [updV, upd, vp_nar]
    try rfl
  · simp [updV, upd, hq]
end ZX
section JE
variable {l : Launch} {Γ : Cx} {sh : Sh} {v : Va} {w : Vl} {n : Nat}
theorem isRR.gr {sh1 : Sh} {n1 a N c0 : Nat} {b : Nat → Nat} (h : isRR sh a N b c0) (hd : DM sh n) (hG : GR sh n sh1 n1) : isRR sh1 a N b c0 := ⟨(hG.2 _ (hd _ _ h.1)).trans h.1, fun i hi => (hG.2 _ (hd _ _ (h.2 i hi))).trans (h.2 i hi)⟩
theorem isSim.gr {sh1 : Sh} {n1 ks : Nat} {pA : Nat → Nat} {pB : Nat → Nat → Nat} {pN : Nat → Nat} (h : isSim sh ks pA pB pN) (hd : DM sh n) (hG : GR sh n sh1 n1) : isSim sh1 ks pA pB pN := by
  obtain ⟨a1, a2, a3, a4, a5, a6, a7, a8⟩ := h
  exact ⟨(hG.2 _ (hd _ _ a1)).trans a1, (hG.2 _ (hd _ _ a2)).trans a2, a3.gr hd hG, a4.gr hd hG, a5.gr hd hG, a6.gr hd hG, a7.gr hd hG, (hG.2 _ (hd _ _ a8)).trans a8⟩
theorem c_Sim_ring {ks d z : Nat} {pA : Nat → Nat} {pB : Nat → Nat → Nat} {pN : Nat → Nat} {a1 : Int32} (hk : isSim sh ks pA pB pN) (ha : vp_in a1 (pN 2)) (hN : pN 2 ≤ 1000) {q : Int32 × Va} (h : g_Back z ks pA pB pN n (pN 2) d 0 [a1, a1, 2147483647] (pu (up v n (fun _ => 0)) n a1.toNatClampNeg 1) = some q) : MetTI l yX12_ring cX12_ring 3 (some .int) (2 + d) 1 1000 Γ sh v w n [.ref (Γ.2.1 + ks), .int a1] (fun r u => r = q.1 ∧ u = (up sh n (some (sB 2 (pN 2))), q.2, n + 1)) := by
  refine w_start pn_X12 (Nat.le_of_ble_eq_true rfl) fun p e s m args below meth c hx hb hml hret hlk hnm hts hown hK hP hz hE hS ls hl => ?_
  have hd : DM sh n := hP.dm hz
  have hG : GR sh n sh n := GR.rf
  refine lv_aload_n hx hb dX12_ring_0 rfl (lv_at hl 0 rfl) ?_
  refine w_gr hx hb hts hown hK hP fX12_22 hk.1 rfl dX12_ring_1 ?_
  refine w_alenR hx hb hK hP hk.2.2.2.1.1 dX12_ring_4 ?_
  refine w_newZ (n := n) (N := pN 2) hx hb hts hK hP hS (nI_pos (by omega)) (nI_clamp (by omega)) (by omega) (show 0 + 1 ≤ 1 by omega) (show 0 + pN 2 ≤ 1000 by omega) hz dX12_ring_5 fun H1 hz hP hS => ?_
  have hG1 : GR sh n (up sh n (some (sB 2 (pN 2)))) (n + 1) := hG.nw
  have hk1 := hk.gr hd hG1
  refine lv_astore_n (lv' := [(2, .ref (Γ.2.1 + n)), (0, .ref (Γ.2.1 + ks)), (1, .int a1)]) hx hb dX12_ring_7 rfl hl (by decide) rfl fun ls hl => ?_
  refine lv_aload_n hx hb dX12_ring_8 rfl (lv_at hl 0 rfl) ?_
  refine lv_iload_n hx hb dX12_ring_9 rfl (lv_at hl 2 rfl) ?_
  refine lv_iconst (v := 1) hx hb dX12_ring_10 rfl ?_
  refine w_zaA (k := n) (n := n + 1) hx hb hK hP hS (gA_new (Nat.le_refl _)) hz (up_eq _ _ _) ha (v1 := pu (up v n (fun _ => 0)) n a1.toNatClampNeg 1) rfl dX12_ring_11 fun H1 locs1 hz hP hS => ?_
  refine lv_aload_n hx hb dX12_ring_12 rfl (lv_at hl 1 rfl) ?_
  refine lv_iload_n hx hb dX12_ring_13 rfl (lv_at hl 2 rfl) ?_
  refine lv_iload_n hx hb dX12_ring_14 rfl (lv_at hl 2 rfl) ?_
  refine lv_ldc hx hb hown (hts _ qX12_87) dX12_ring_15 ?_
  refine lv_aload_n hx hb dX12_ring_17 rfl (lv_at hl 0 rfl) ?_
  refine W.widen (k := 1) (n := 1000) (by omega) (by omega) ?_
  refine u_calli (Bs := []) (w_rV (k := ks) hx hb hml hts hown hK (cg_Back hk1 (up_eq _ _ _) d _ _ _ _ _ h) rfl rfl kX12_back mX12_81 (w_recv hK hP hk1.1 rfl) PN.blind (t_pn hK hd hG1 hE hS hP hz) rfl hl.1 rfl (Nat.le_of_ble_eq_true rfl) ⟨by show 1 + d + 1 ≤ 2 + d; omega, by show 8 + (8 + 11) + 40 * (1 + d) ≤ 40 * (2 + d); omega⟩ ⟨Nat.le_refl _, Nat.le_refl _⟩ dX12_ring_18) hG1 hS fun r u H1 locs1 hp1 hz hP hS => ?_
  obtain ⟨hr1, hu1⟩ := hp1
  rw [hu1] at hP
  exact t_iret (post := (fun r u => r = q.1 ∧ u = (up sh n (some (sB 2 (pN 2))), q.2, n + 1))) hx hb hret rfl hlk hK hP hS hz hE hd hG1 ⟨hr1, rfl⟩ dX12_ring_21
end JE
