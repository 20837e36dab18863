/-! THE MEAN: a FP.Core.quotient of whole numbers, which is no NaN -/
section
theorem en_ok {d : FP.Core.Datum} (h : (∃ t, d = .inf t) ∨ ∃ t c q, d = .fin t c q ∧ c < 9007199254740992 ∧ q ≤ 971) : FP.Core.encode FP.Core.b64 d % 9223372036854775808 ≤ 9218868437227405312 ∧ FP.Core.encode FP.Core.b64 d < 18446744073709551616 := by
  have e1 : FP.Core.b64.tails = 4503599627370496 := by decide +kernel
  have e2 : FP.Core.b64.exps = 2048 := by decide +kernel
  have e3 : FP.Core.b64.qmin = -1074 := by decide +kernel
  rcases h with ⟨t, rfl⟩ | ⟨t, c, q, rfl, h1, h2⟩
  · have : FP.Core.encode FP.Core.b64 (.inf t) = (t.toNat * 2048 + 2047) * 4503599627370496 := by
      show FP.Core.assemble FP.Core.b64 t (FP.Core.b64.exps - 1) 0 = _
      unfold FP.Core.assemble
      rw [e1, e2, Nat.add_zero]
    rw [this]
    have := Bool.toNat_lt t
    omega
  · have hb := Bool.toNat_lt t
    by_cases hc : c < 4503599627370496
    · have : FP.Core.encode FP.Core.b64 (.fin t c q) = (t.toNat * 2048 + 0) * 4503599627370496 + c := by
        show (if c < FP.Core.b64.tails then FP.Core.assemble FP.Core.b64 t 0 c else _) = _
        rw [e1, if_pos hc]
        unfold FP.Core.assemble
        rw [e1, e2]
      rw [this]
      omega
    · have : FP.Core.encode FP.Core.b64 (.fin t c q) = (t.toNat * 2048 + ((q + 1074).toNat + 1)) * 4503599627370496 + (c - 4503599627370496) := by
        show (if c < FP.Core.b64.tails then FP.Core.assemble FP.Core.b64 t 0 c else FP.Core.assemble FP.Core.b64 t ((q - FP.Core.b64.qmin).toNat + 1) (c - FP.Core.b64.tails)) = _
        rw [e1, if_neg hc]
        unfold FP.Core.assemble
        rw [e1, e2, e3, Int.sub_neg]
      rw [this]
      have : (q + 1074).toNat ≤ 2045 := by omega
      generalize (q + 1074).toNat = z at *
      omega
theorem rr_ok {t : Bool} {x y : Nat} {e : Int} : (∃ r, FP.Core.roundRatio FP.Core.b64 t x y e = .inf r) ∨ ∃ r c q, FP.Core.roundRatio FP.Core.b64 t x y e = .fin r c q ∧ c < 9007199254740992 ∧ q ≤ 971 := by
  have e4 : FP.Core.b64.qmax = 971 := by decide +kernel
  have bd : ∀ (c : Nat) (q : Int), c < 9007199254740992 → (∃ r, FP.Core.bound FP.Core.b64 t c q = .inf r) ∨ ∃ r c1 q1, FP.Core.bound FP.Core.b64 t c q = .fin r c1 q1 ∧ c1 < 9007199254740992 ∧ q1 ≤ 971 := fun c q hc => by
    unfold FP.Core.bound
    rw [e4]
    by_cases hq : q ≤ 971
    · rw [if_pos hq]; exact Or.inr ⟨t, c, q, rfl, hc, hq⟩
    · rw [if_neg hq]; exact Or.inl ⟨t, rfl⟩
  unfold FP.Core.roundRatio
  by_cases hx : x = 0
  · rw [if_pos hx]
    exact Or.inr ⟨t, 0, FP.Core.b64.qmin, rfl, by omega, by decide +kernel⟩
  · rw [if_neg hx]
    unfold FP.Core.roundAt FP.Core.settle
    have e5 : 2 ^ FP.Core.b64.p = 9007199254740992 := by decide +kernel
    rw [e5]
    split
    · exact bd _ _ (by assumption)
    · exact bd _ _ (by decide +kernel)
theorem nn_bits {q : Nat} (h : q % 9223372036854775808 ≤ 9218868437227405312) : FP.Core.decode FP.Core.b64 q ≠ .nan := by
  have e1 : FP.Core.b64.tails = 4503599627370496 := by decide +kernel
  have e2 : FP.Core.b64.exps = 2048 := by decide +kernel
  unfold FP.Core.decode FP.Core.fieldE FP.Core.fieldT
  rw [e1, e2]
  by_cases h1 : q / 4503599627370496 % 2048 = 2048 - 1
  · rw [if_pos h1, if_pos (by omega)]
    intro hh
    cases hh
  · rw [if_neg h1]
    split <;> (intro hh; cases hh)
theorem or_eq {d : FP.Core.Datum} (h : d ≠ .nan) : FP.Core.order d d = some .eq := by
  cases d with
  | nan => exact absurd rfl h
  | inf t => show some (compare (FP.Core.signed t 1) (FP.Core.signed t 1)) = _; exact congrArg some Std.ReflCmp.compare_self
  | fin t c q => show some (compare (FP.Core.signed t (FP.Core.inUnits c q (min q q))) (FP.Core.signed t (FP.Core.inUnits c q (min q q)))) = _; exact congrArg some Std.ReflCmp.compare_self
theorem i2_dec {x : Int32} : FP.Core.decode FP.Core.b64 (FP.i2d x).toNat ≠ .nan := by
  have h : (FP.i2d x).toNat = FP.Core.encode FP.Core.b64 (FP.Core.roundRatio FP.Core.b64 (decide (x.toInt < 0)) x.toInt.natAbs 1 0) % 2 ^ 64 := rfl
  obtain ⟨h1, h2⟩ := en_ok (rr_ok (t := decide (x.toInt < 0)) (x := x.toInt.natAbs) (y := 1) (e := 0))
  rw [h]
  exact nn_bits (by omega)
/-- a divisor -/
def DVs (x : Int32) : Bool := match FP.Core.decode FP.Core.b64 (FP.i2d x).toNat with | .fin _ d _ => d != 0 | _ => false
theorem dv_ok : ∀ k, k < 11 → 1 ≤ k → DVs (nI k) = true := by decide +kernel
theorem dd_bits {x y : Int32} (h : DVs y = true) : (FP.ddiv (FP.i2d x) (FP.i2d y)).toNat % 9223372036854775808 ≤ 9218868437227405312 := by
  have e : (FP.ddiv (FP.i2d x) (FP.i2d y)).toNat = FP.Core.encode FP.Core.b64 (FP.Core.quotient FP.Core.b64 (FP.Core.decode FP.Core.b64 (FP.i2d x).toNat) (FP.Core.decode FP.Core.b64 (FP.i2d y).toNat)) % 2 ^ 64 := rfl
  have hx := i2_dec (x := x)
  unfold DVs at h
  have key : (∃ r, FP.Core.quotient FP.Core.b64 (FP.Core.decode FP.Core.b64 (FP.i2d x).toNat) (FP.Core.decode FP.Core.b64 (FP.i2d y).toNat) = .inf r) ∨ ∃ r c q, FP.Core.quotient FP.Core.b64 (FP.Core.decode FP.Core.b64 (FP.i2d x).toNat) (FP.Core.decode FP.Core.b64 (FP.i2d y).toNat) = .fin r c q ∧ c < 9007199254740992 ∧ q ≤ 971 := by
    generalize FP.Core.decode FP.Core.b64 (FP.i2d x).toNat = d1 at hx
    generalize FP.Core.decode FP.Core.b64 (FP.i2d y).toNat = d2 at h
    cases d2 with
    | nan => cases h
    | inf t => cases h
    | fin t d r =>
      have hd : ¬ d = 0 := by simpa using h
      cases d1 with
      | nan => exact absurd rfl hx
      | inf t1 => exact Or.inl ⟨_, rfl⟩
      | fin t1 c1 q1 =>
        show (∃ r1, (if d = 0 then _ else FP.Core.roundRatio FP.Core.b64 (t1 != t) c1 d (q1 - r)) = .inf r1) ∨ ∃ r1 c q, (if d = 0 then _ else FP.Core.roundRatio FP.Core.b64 (t1 != t) c1 d (q1 - r)) = .fin r1 c q ∧ c < 9007199254740992 ∧ q ≤ 971
        rw [if_neg hd]
        exact rr_ok
  obtain ⟨h1, h2⟩ := en_ok key
  rw [e]
  omega
theorem dd_n64 {x y : Int32} (h : DVs y = true) : vf_n64 (FP.ddiv (FP.i2d x) (FP.i2d y)) := by
  unfold vf_n64
  rw [UInt64.le_iff_toNat_le, UInt64.toNat_and]
  have := dd_bits (x := x) h
  rw [show (0x7fffffffffffffff : UInt64).toNat = 2 ^ 63 - 1 from rfl, Nat.and_two_pow_sub_one_eq_mod]
  exact this
theorem dd_cmp {x y : Int32} (h : DVs y = true) : FP.dcmp (FP.ddiv (FP.i2d x) (FP.i2d y)) (FP.ddiv (FP.i2d x) (FP.i2d y)) = some .eq := or_eq (nn_bits (dd_bits h))
end
section JE
variable {l : Launch} {Γ : Cx} {sh : Sh} {v : Va} {w : Vl} {n : Nat}
def MetF (l : Launch) (y : MethodName) (b : ByteArray) (mL : Nat) (h : Nat) (Γ : Cx) (sh : Sh) (v : Va) (w : Vl) (n : Nat) (As : List Value) (post : UInt64 → Va → Prop) : Prop := Met l y (ws_ y b mL (some .double)) (rmh h) (va_Pc As (PN Γ sh v w n)) (va_Qd post (fun u => PN Γ sh u w n) (gA Γ sh n)) 0 0 (gA Γ sh n)
theorem c_Quay_mean (hk : isQuay sh) {q y : Int32} (h : f_Stand_weightOfAll v 97 = some q) (hy : v 61 3 = y) (hy0 : ¬ y ≤ 0) (hd : DVs y = true) : MetF l yX11_mean cX11_mean 1 2 Γ sh v w n [.ref (Γ.2.1 + 0)] (fun r u => r = FP.ddiv (FP.i2d q) (FP.i2d y) ∧ u = v) := by
  refine w_start pn_X11 (Nat.le_of_ble_eq_true rfl) fun p e s m args below meth c hx hb hml hret hlk hnm hts hown hK hP hz hE hS ls hl => ?_
  refine lv_aload_n hx hb dX11_mean_0 rfl (lv_at hl 0 rfl) ?_
  refine w_gr (k := 0) (r := 61) hx hb hts hown hK hP fX11_39 hk.1 rfl dX11_mean_1 ?_
  refine w_gi (k := 61) hx hb hts hown hK hP fX11_247 hk.2.2.2.2.1.1 rfl dX11_mean_4 ?_
  refine lv_if_le (tgt := 30) hx hb dX11_mean_7 rfl (fun hc7 => absurd hc7 (by rw [hy]; exact hy0)) (fun hc7 => ?_)
  refine lv_aload_n hx hb dX11_mean_10 rfl (lv_at hl 0 rfl) ?_
  refine w_gr (k := 0) (r := 97) hx hb hts hown hK hP fX11_48 hk.1 rfl dX11_mean_11 ?_
  refine z_Vi (k := 97) (r1 := q) (v1 := v) hx hb hml hts hown hK hP hS hz hE (c_Stand_weightOfAll hk.2.2.2.2.2.1 h) kX8_weightOfAll mX11_233 hk.2.2.2.2.2.1.1 rfl rfl rfl hl.1 (Nat.le_of_ble_eq_true rfl) ⟨Nat.le_of_ble_eq_true rfl, Nat.le_of_ble_eq_true rfl⟩ ⟨Nat.zero_le _, Nat.zero_le _⟩ dX11_mean_14 fun H1 locs1 hz hP hS => ?_
  refine lv_i2d hx hb dX11_mean_17 ?_
  refine lv_aload_n hx hb dX11_mean_18 rfl (lv_at hl 0 rfl) ?_
  refine w_gr (k := 0) (r := 61) hx hb hts hown hK hP fX11_39 hk.1 rfl dX11_mean_19 ?_
  refine w_gi (k := 61) hx hb hts hown hK hP fX11_247 hk.2.2.2.2.1.1 rfl dX11_mean_22 ?_
  rw [hy]
  refine lv_i2d hx hb dX11_mean_25 ?_
  refine lv_ddiv hx hb dX11_mean_26 (dd_n64 hd) ?_
  refine lv_goto (tgt := 31) hx hb dX11_mean_27 rfl ?_
  exact W.dret hx hb hret (fun t ht hW => ⟨⟨_, v, rfl, ⟨rfl, rfl⟩, ⟨by rw [ht]; exact hP, va_K.moved hW.alike hK, by rw [ht]; exact hz, hE.go hS ht hW⟩⟩, hS.F ht⟩) hS.2.2 dX11_mean_31 hlk
end JE

