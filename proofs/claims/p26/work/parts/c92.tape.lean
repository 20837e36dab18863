/-! THE CLASS'S TAPE: what is fed lies there byte by byte -/
def bt (a s : Int32) : Int32 := ((a.toUInt32 >>> (s.toUInt32 &&& Int32.toUInt32 31)).toInt32) &&& 255
def sh4 (i : Nat) : Int32 := 24 - nI (8 * i)
def A5 (a1 a2 a3 a4 a5 : Int32) (i : Nat) : Int32 := if i = 0 then a1 else if i = 1 then a2 else if i = 2 then a3 else if i = 3 then a4 else a5
/-- four bytes more at p -/
def AP (v w : Va) (p : Nat) (a : Int32) : Prop := (∀ q, q ≠ 0 → q ≠ 2 → w q = v q) ∧ w 0 8 = nI (p + 4) ∧ (∀ j, j ≠ 8 → w 0 j = v 0 j) ∧ (∀ i, i < p → w 2 i = v 2 i) ∧ ∀ j, j < 4 → w 2 (p + j) = bt a (sh4 j)
section
variable {v w v1 u : Va} {p n z sp nb : Nat} {sh : Sh} {a a1 a2 a3 a4 a5 : Int32} {T : List Int32}
theorem bt_b {a s : Int32} : ∃ b, b < 256 ∧ bt a s = nI b := by
  unfold bt
  generalize ((a.toUInt32 >>> (s.toUInt32 &&& Int32.toUInt32 31)).toInt32) = y
  refine ⟨(y &&& 255).toBitVec.toNat, ?_, ?_⟩
  · have h : (y &&& 255).toBitVec.toNat = y.toBitVec.toNat &&& 255 := rfl
    rw [h]
    have := Nat.and_le_right (n := y.toBitVec.toNat) (m := 255)
    omega
  · apply Int32.toBitVec_inj.mp
    show (y &&& 255).toBitVec = BitVec.ofNat 32 (y &&& 255).toBitVec.toNat
    rw [BitVec.ofNat_toNat, BitVec.setWidth_eq]
theorem sh4_f : ∀ i : Fin 4, (¬ sh4 i.val < 0) ∧ sh4 i.val + (-8) = sh4 (i.val + 1) := by decide +kernel
theorem sh4_4 : sh4 4 < 0 := by decide +kernel
theorem sh4_k : ∀ k : Fin 20, nI k.val / 4 = nI (k.val / 4) ∧ 24 - ((nI k.val - nI k.val / 4 * 4) * 8) = sh4 (k.val % 4) := by decide +kernel
theorem app_c (h8 : v 0 8 = nI p) (hp : p + 4 ≤ 2000) (hz : 4000 < z) : ∃ w, f_Quay_append z v a = some w ∧ AP v w p a := by
  obtain ⟨w, h1, h2⟩ := rp_inv (f := b_Quay_append_3 a) (fun i t => t.1 = sh4 i ∧ (∀ q, q ≠ 0 → q ≠ 2 → t.2 q = v q) ∧ t.2 0 8 = nI (p + i) ∧ (∀ j, j ≠ 8 → t.2 0 j = v 0 j) ∧ (∀ i, i < p → t.2 2 i = v 2 i) ∧ ∀ j, j < i → t.2 2 (p + j) = bt a (sh4 j)) (fun w => AP v w p a) 4 (fun K t ht => by
    obtain ⟨t1, t2, t3, t4, t5, t6⟩ := ht
    refine ⟨t.2, ?_, t2, t3, t4, t5, t6⟩
    unfold b_Quay_append_3
    rw [t1, if_pos sh4_4]) (fun K i t hi ht => by
    obtain ⟨s, t⟩ := t
    obtain ⟨t1, t2, t3, t4, t5, t6⟩ := ht
    simp only at t1 t2 t3 t4 t5 t6
    subst t1
    obtain ⟨f1, f2⟩ := sh4_f ⟨i, hi⟩
    simp only at f1 f2
    have e2 : (up t 2 (upd (t 2) (p + i) (bt a (sh4 i)))) 0 = t 0 := up_ne (by omega)
    refine Or.inl ⟨(sh4 (i + 1), pu (up t 2 (upd (t 2) (p + i) (bt a (sh4 i)))) 0 8 (nI (p + (i + 1)))), ?_, rfl, fun q h0 h2 => ?_, ?_, fun j hj => ?_, fun j hj => ?_, fun j hj => ?_⟩
    · unfold b_Quay_append_3
      simp only
      rw [if_neg f1, t3, bd, rs (by omega) (by omega), f2, bd]
      show K (sh4 (i + 1), pu (up t 2 (upd (t 2) (p + i) (bt a (sh4 i)))) 0 8 ((up t 2 (upd (t 2) (p + i) (bt a (sh4 i)))) 0 8 + 1)) = _
      rw [e2, t3, ni_s]
      rfl
    · show (pu (up t 2 (upd (t 2) (p + i) (bt a (sh4 i)))) 0 8 (nI (p + (i + 1)))) q = v q
      unfold pu
      rw [up_ne h0, up_ne h2]; exact t2 q h0 h2
    · show (pu (up t 2 (upd (t 2) (p + i) (bt a (sh4 i)))) 0 8 (nI (p + (i + 1)))) 0 8 = _
      unfold pu; rw [up_eq, upd_eq]
    · show (pu (up t 2 (upd (t 2) (p + i) (bt a (sh4 i)))) 0 8 (nI (p + (i + 1)))) 0 j = _
      unfold pu; rw [up_eq, upd_ne hj, up_ne (by omega)]; exact t4 j hj
    · show (pu (up t 2 (upd (t 2) (p + i) (bt a (sh4 i)))) 0 8 (nI (p + (i + 1)))) 2 j = _
      unfold pu; rw [up_ne (by omega), up_eq, upd_ne (by omega)]; exact t5 j hj
    · show (pu (up t 2 (upd (t 2) (p + i) (bt a (sh4 i)))) 0 8 (nI (p + (i + 1)))) 2 (p + j) = _
      unfold pu; rw [up_ne (by omega), up_eq]
      by_cases h : j = i
      · rw [h, upd_eq]
      · rw [upd_ne (by omega)]; exact t6 j (by omega)) z 0 (24, v) ⟨show (24 : Int32) = sh4 0 by decide, fun _ _ _ => rfl, h8, fun _ _ => rfl, fun _ _ => rfl, fun j hj => by omega⟩ (by omega) (by omega)
  exact ⟨w, h1, h2⟩
/-- the class feeds: twenty bytes more at p -/
def F20 (v w : Va) (p : Nat) (A : Nat → Int32) : Prop := (∀ q, q ≠ 0 → q ≠ 2 → w q = v q) ∧ w 0 8 = nI (p + 20) ∧ (∀ j, j ≠ 8 → w 0 j = v 0 j) ∧ (∀ i, i < p → w 2 i = v 2 i) ∧ ∀ k, k < 20 → w 2 (p + k) = bt (A (k / 4)) (sh4 (k % 4))
theorem feed_c (h8 : v 0 8 = nI p) (hp : p ≤ 1980) (hz : 4000 < z) : ∃ w, f_Quay_feed z v a1 a2 a3 a4 a5 = some (.inl (nI (p + 20), w)) ∧ F20 v w p (A5 a1 a2 a3 a4 a5) := by
  obtain ⟨w1, e1, x1, y1, z1, s1, b1⟩ := app_c (a := a1) h8 (by omega) hz
  obtain ⟨w2, e2, x2, y2, z2, s2, b2⟩ := app_c (a := a2) y1 (by omega) hz
  obtain ⟨w3, e3, x3, y3, z3, s3, b3⟩ := app_c (a := a3) y2 (by omega) hz
  obtain ⟨w4, e4, x4, y4, z4, s4, b4⟩ := app_c (a := a4) y3 (by omega) hz
  obtain ⟨w5, e5, x5, y5, z5, s5, b5⟩ := app_c (a := a5) y4 (by omega) hz
  refine ⟨w5, ?_, fun q h0 h2 => ?_, ?_, fun j hj => ?_, fun i hi => ?_, fun k hk => ?_⟩
  · unfold f_Quay_feed
    rw [h8, show (1980 : Int32) = nI 1980 from rfl, if_pos (by rw [le_n (by omega) (by omega)]; exact hp), e1, ob, e2, ob, e3, ob, e4, ob, e5, ob, y5]
  · rw [x5 q h0 h2, x4 q h0 h2, x3 q h0 h2, x2 q h0 h2, x1 q h0 h2]
  · rw [y5]
  · rw [z5 j hj, z4 j hj, z3 j hj, z2 j hj, z1 j hj]
  · rw [s5 i (by omega), s4 i (by omega), s3 i (by omega), s2 i (by omega), s1 i hi]
  · have hq : k / 4 = 0 ∨ k / 4 = 1 ∨ k / 4 = 2 ∨ k / 4 = 3 ∨ k / 4 = 4 := by omega
    rcases hq with q | q | q | q | q
    · have hk2 : p + k = p + k % 4 := by omega
      rw [q, hk2, s5 _ (by omega), s4 _ (by omega), s3 _ (by omega), s2 _ (by omega), b1 _ (by omega)]; rfl
    · have hk2 : p + k = p + 4 + k % 4 := by omega
      rw [q, hk2, s5 _ (by omega), s4 _ (by omega), s3 _ (by omega), b2 _ (by omega)]; rfl
    · have hk2 : p + k = p + 4 + 4 + k % 4 := by omega
      rw [q, hk2, s5 _ (by omega), s4 _ (by omega), b3 _ (by omega)]; rfl
    · have hk2 : p + k = p + 4 + 4 + 4 + k % 4 := by omega
      rw [q, hk2, s5 _ (by omega), b4 _ (by omega)]; rfl
    · have hk2 : p + k = p + 4 + 4 + 4 + 4 + k % 4 := by omega
      rw [q, hk2, b5 _ (by omega)]; rfl
/-- a word of bytes -/
theorem or_byte {x b : Int32} (hx : x.toBitVec.toNat < 16777216) (hb0 : b.toBitVec.toNat < 256) : ((x <<< 8) ||| b).toBitVec.toNat = x.toBitVec.toNat * 256 + b.toBitVec.toNat := by
  have e1 : (x <<< (8 : Int32)).toBitVec.toNat = x.toBitVec.toNat * 256 := by
    show (x.toBitVec <<< (8 : Nat)).toNat = _
    rw [BitVec.toNat_shiftLeft, Nat.shiftLeft_eq, Nat.mod_eq_of_lt (by omega)]
  rw [show ((x <<< 8) ||| b).toBitVec = (x <<< (8 : Int32)).toBitVec ||| b.toBitVec from rfl, BitVec.toNat_or, e1]
  have := Nat.shiftLeft_add_eq_or_of_lt (a := x.toBitVec.toNat) (b := b.toBitVec.toNat) (i := 8) hb0
  rw [Nat.shiftLeft_eq] at this
  exact this.symm
theorem acs_nat {f : Nat → Int32} {q : Nat} (h : ∀ j, j < 4 → (f (4 * q + j)).toBitVec.toNat < 256) : (acs f q 4).toBitVec.toNat = (((f (4 * q)).toBitVec.toNat * 256 + (f (4 * q + 1)).toBitVec.toNat) * 256 + (f (4 * q + 2)).toBitVec.toNat) * 256 + (f (4 * q + 3)).toBitVec.toNat := by
  have h0 := h 0 (by omega)
  have h1 := h 1 (by omega)
  have h2 := h 2 (by omega)
  have h3 := h 3 (by omega)
  have a1 : (acs f q 1).toBitVec.toNat = (f (4 * q)).toBitVec.toNat := by
    show ((acs f q 0 <<< 8) ||| f (4 * q + 0)).toBitVec.toNat = _
    rw [or_byte (by show (0 : Int32).toBitVec.toNat < _; decide) h0]
    show 0 * 256 + _ = _
    rw [Nat.zero_mul, Nat.zero_add]; rfl
  have a2 : (acs f q 2).toBitVec.toNat = (f (4 * q)).toBitVec.toNat * 256 + (f (4 * q + 1)).toBitVec.toNat := by
    show ((acs f q 1 <<< 8) ||| f (4 * q + 1)).toBitVec.toNat = _
    rw [or_byte (by rw [a1]; have : (f (4 * q)).toBitVec.toNat < 256 := h0; omega) h1, a1]
  have a3 : (acs f q 3).toBitVec.toNat = ((f (4 * q)).toBitVec.toNat * 256 + (f (4 * q + 1)).toBitVec.toNat) * 256 + (f (4 * q + 2)).toBitVec.toNat := by
    show ((acs f q 2 <<< 8) ||| f (4 * q + 2)).toBitVec.toNat = _
    have : (f (4 * q)).toBitVec.toNat < 256 := h0
    rw [or_byte (by rw [a2]; omega) h2, a2]
  show ((acs f q 3 <<< 8) ||| f (4 * q + 3)).toBitVec.toNat = _
  have : (f (4 * q)).toBitVec.toNat < 256 := h0
  rw [or_byte (by rw [a3]; omega) h3, a3]
theorem bt_nat {x : Int32} {j : Nat} (hj : j < 4) : (bt x (sh4 j)).toBitVec.toNat = x.toBitVec.toNat / 2 ^ (24 - 8 * j) % 256 := by
  have e : ∀ k, k < 4 → ((sh4 k).toUInt32 &&& Int32.toUInt32 31).toNat % 32 = 24 - 8 * k := by decide +kernel
  have e1 : (bt x (sh4 j)).toBitVec.toNat = (x.toBitVec.toNat >>> (((sh4 j).toUInt32 &&& Int32.toUInt32 31).toNat % 32)) &&& 255 := rfl
  rw [e1, e j hj, Nat.shiftRight_eq_div_pow, show (255 : Nat) = 2 ^ 8 - 1 from rfl, Nat.and_two_pow_sub_one_eq_mod]
theorem bt_acs {f : Nat → Int32} {q j : Nat} (h : ∀ j, j < 4 → (f (4 * q + j)).toBitVec.toNat < 256) (hj : j < 4) : bt (acs f q 4) (sh4 j) = f (4 * q + j) := by
  apply Int32.toBitVec_inj.mp
  apply BitVec.eq_of_toNat_eq
  have h0 : (f (4 * q)).toBitVec.toNat < 256 := h 0 (by omega)
  have h1 := h 1 (by omega)
  have h2 := h 2 (by omega)
  have h3 := h 3 (by omega)
  rw [bt_nat hj, acs_nat h]
  rcases (by omega : j = 0 ∨ j = 1 ∨ j = 2 ∨ j = 3) with rfl | rfl | rfl | rfl
  · show _ / 16777216 % 256 = (f (4 * q)).toBitVec.toNat
    omega
  · show _ / 65536 % 256 = _
    omega
  · show _ / 256 % 256 = _
    omega
  · show _ / 1 % 256 = _
    omega
end
