
section GE
variable {l : Launch} {Γ : Cx} {sh : Sh} {v : Va} {w : Vl} {n z : Nat}
def b_Row_copyFrom_2 (k : Nat) (N : Nat) (k1 : Nat) (N1 : Nat) (K2 : (Int32 × Va) → Option Va) (t2 : Int32 × Va) : Option Va := if (nI N) ≤ t2.1 then (some t2.2) else (bnd (row_g N1 (t2.2 (k1 + 1)) t2.1) fun q18 => if t2.1 < 0 ∨ N ≤ t2.1.toNatClampNeg then none else bnd (pu t2.2 (k + 1) t2.1.toNatClampNeg q18) fun v21 => K2 ((t2.1 + 1), v21))
def f_Row_copyFrom (z : Nat) (v : Va) (k : Nat) (N : Nat) (k1 : Nat) (N1 : Nat) : Option Va := rp (b_Row_copyFrom_2 k N k1 N1) z (0, v)
theorem c_Row_copyFrom {k : Nat} {N : Nat} {k1 : Nat} {N1 : Nat} (hk : isRow sh k N) (hk1 : isRow sh k1 N1) {q : Va} (h : f_Row_copyFrom z v k N k1 N1 = some q) : MetV l yX7_copyFrom cX7_copyFrom 3 none 1 Γ sh v w n [.ref (Γ.2.1 + k), .ref (Γ.2.1 + k1)] (fun u => u = q) := by
  unfold f_Row_copyFrom at h
  refine w_start pn_X7 (Nat.le_of_ble_eq_true rfl) fun p e s m args below meth c hx hb hml hret hlk hnm hts hown hK hP hz hE hS ls hl => ?_
  refine lv_iconst (v := 0) hx hb dX7_copyFrom_0 rfl ?_
  refine lv_istore_n (lv' := [(2, .int 0), (0, .ref (Γ.2.1 + k)), (1, .ref (Γ.2.1 + k1))]) hx hb dX7_copyFrom_1 rfl hl (by decide) rfl fun ls hl => ?_
  have L2 : ∀ (fu : Nat) (t2 : Int32 × Va), rp (b_Row_copyFrom_2 k N k1 N1) fu t2 = some q → ∀ (H1 : Heap) (locs1 : List Loc) (ls1 : Array Slot), lv_has ls1 3 [(0, .ref (Γ.2.1 + k)), (1, .ref (Γ.2.1 + k1)), (2, .int t2.1)] → Wd Γ sh t2.2 w H1 → va_S (gA Γ sh n) s.heap H1 locs1 → H1.size = Γ.2.1 + n → wpV Γ sh w n 1 (fun u => u = q) p l e s m args below meth c H1 locs1 (F0 m 2 ls1 []) := by
    refine q_loop (fun K2 ih2 t2 h H1 locs1 ls hl hP hS hz => ?_)
    unfold b_Row_copyFrom_2 at h
    refine lv_iload_n hx hb dX7_copyFrom_2 rfl (lv_at hl 2 rfl) ?_
    refine lv_aload_n hx hb dX7_copyFrom_3 rfl (lv_at hl 0 rfl) ?_
    refine w_gr (k := k) (r := (k + 1)) hx hb hts hown hK hP fX7_7 hk.1 rfl dX7_copyFrom_4 ?_
    refine w_alen (k := (k + 1)) hx hb hK hP hk.2.1 dX7_copyFrom_7 ?_
    refine lv_icmp_ge (tgt := 28) hx hb dX7_copyFrom_8 rfl (fun hc8 => ?_) (fun hc8 => ?_)
    · have h := itt_e h hc8
      exact w_vret hx hb hret hlk hK hP hS hz hE (Option.some.inj h) dX7_copyFrom_28
    · have h := itf_e h hc8
      refine lv_aload_n hx hb dX7_copyFrom_11 rfl (lv_at hl 0 rfl) ?_
      refine w_gr (k := k) (r := (k + 1)) hx hb hts hown hK hP fX7_7 hk.1 rfl dX7_copyFrom_12 ?_
      refine lv_iload_n hx hb dX7_copyFrom_15 rfl (lv_at hl 2 rfl) ?_
      refine lv_aload_n hx hb dX7_copyFrom_16 rfl (lv_at hl 1 rfl) ?_
      refine lv_iload_n hx hb dX7_copyFrom_17 rfl (lv_at hl 2 rfl) ?_
      obtain ⟨q18, e18, h⟩ := bnd_e h
      refine z_Vi (k := k1) (r1 := q18) (v1 := t2.2) hx hb hml hts hown hK hP hS hz hE (C_Row_get hk1 e18) kX7_get mX7_13 hk1.1 rfl rfl rfl hl.1 (Nat.le_of_ble_eq_true rfl) ⟨Nat.le_of_ble_eq_true rfl, Nat.le_of_ble_eq_true rfl⟩ ⟨Nat.le_refl _, Nat.le_refl _⟩ dX7_copyFrom_18 fun H1 locs1 hz hP hS => ?_
      obtain ⟨hn21, h⟩ := itn_e h
      obtain ⟨v21, e21, h⟩ := bnd_e h
      refine w_ia2 (k := (k + 1)) hx hb hK hP hS hz hk.2.1 hn21 e21 dX7_copyFrom_21 fun H1 locs1 hz hP hS => ?_
      refine lv_iinc (k := 2) (v := (t2.1 + 1)) (lv' := [(2, .int (t2.1 + 1)), (0, .ref (Γ.2.1 + k)), (1, .ref (Γ.2.1 + k1))]) hx hb dX7_copyFrom_22 hl rfl rfl (by decide) rfl fun ls hl => ?_
      refine lv_goto (tgt := 2) hx hb dX7_copyFrom_25 rfl ?_
      exact ih2 ((t2.1 + 1), v21) h _ _ _ (lv_sub hl [1, 2, 0] rfl) hP hS hz
  exact L2 z (0, v) h _ _ _ (lv_sub hl [1, 2, 0] rfl) hP hS hz
end GE
