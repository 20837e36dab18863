/-! FEED AND TRIM, on both sides -/
def bt (a s : Int32) : Int32 := ((a.toUInt32 >>> (s.toUInt32 &&& Int32.toUInt32 31)).toInt32) &&& 255
def sh4 (i : Nat) : Int32 := 24 - nI (8 * i)
def A5 (a1 a2 a3 a4 a5 : Int32) (i : Nat) : Int32 := if i = 0 then a1 else if i = 1 then a2 else if i = 2 then a3 else if i = 3 then a4 else a5
/-- four bytes more at p -/
def AP (v w : Va) (p : Nat) (a : Int32) : Prop := (∀ q, q ≠ 0 → q ≠ 2 → w q = v q) ∧ w 0 8 = nI (p + 4) ∧ (∀ j, j ≠ 8 → w 0 j = v 0 j) ∧ (∀ i, i < p → w 2 i = v 2 i) ∧ ∀ j, j < 4 → w 2 (p + j) = bt a (sh4 j)
section
variable {v w v1 u : Va} {p n z sp nb : Nat} {sh : Sh} {a a1 a2 a3 a4 a5 : Int32}
theorem bt_b {a s : Int32} : ∃ b, b < 256 ∧ bt a s = nI b := by
  unfold bt
  generalize ((a.toUInt32 >>> (s.toUInt32 &&& Int32.toUInt32 31)).toInt32) = y
  refine ⟨(y &&& 255).toBitVec.toNat, ?_, ?_⟩
  · have h : (y &&& 255).toBitVec.toNat = y.toBitVec.toNat &&& 255 := rfl
    rw [h]
    have := Nat.and_le_right (n := y.toBitVec.toNat) (m := 255)
    omega
  · apply Int32.toBitVec_inj.mp
    show (y &&& 255).toBitVec = BitVec.ofNat 32 (y &&& 255).toBitVec.toNat
    rw [BitVec.ofNat_toNat, BitVec.setWidth_eq]
theorem sh4_f : ∀ i : Fin 4, (¬ sh4 i.val < 0) ∧ sh4 i.val + (-8) = sh4 (i.val + 1) := by decide +kernel
theorem sh4_4 : sh4 4 < 0 := by decide +kernel
theorem sh4_k : ∀ k : Fin 20, nI k.val / 4 = nI (k.val / 4) ∧ 24 - ((nI k.val - nI k.val / 4 * 4) * 8) = sh4 (k.val % 4) := by decide +kernel
theorem app_c (h8 : v 0 8 = nI p) (hp : p + 4 ≤ 2000) (hz : 4000 < z) : ∃ w, f_Quay_append z v a = some w ∧ AP v w p a := by
  obtain ⟨w, h1, h2⟩ := rp_inv (f := b_Quay_append_3 a) (fun i t => t.1 = sh4 i ∧ (∀ q, q ≠ 0 → q ≠ 2 → t.2 q = v q) ∧ t.2 0 8 = nI (p + i) ∧ (∀ j, j ≠ 8 → t.2 0 j = v 0 j) ∧ (∀ i, i < p → t.2 2 i = v 2 i) ∧ ∀ j, j < i → t.2 2 (p + j) = bt a (sh4 j)) (fun w => AP v w p a) 4 (fun K t ht => by
    obtain ⟨t1, t2, t3, t4, t5, t6⟩ := ht
    refine ⟨t.2, ?_, t2, t3, t4, t5, t6⟩
    unfold b_Quay_append_3
    rw [t1, if_pos sh4_4]) (fun K i t hi ht => by
    obtain ⟨s, t⟩ := t
    obtain ⟨t1, t2, t3, t4, t5, t6⟩ := ht
    simp only at t1 t2 t3 t4 t5 t6
    subst t1
    obtain ⟨f1, f2⟩ := sh4_f ⟨i, hi⟩
    simp only at f1 f2
    have e2 : (up t 2 (upd (t 2) (p + i) (bt a (sh4 i)))) 0 = t 0 := up_ne (by omega)
    refine Or.inl ⟨(sh4 (i + 1), pu (up t 2 (upd (t 2) (p + i) (bt a (sh4 i)))) 0 8 (nI (p + (i + 1)))), ?_, rfl, fun q h0 h2 => ?_, ?_, fun j hj => ?_, fun j hj => ?_, fun j hj => ?_⟩
    · unfold b_Quay_append_3
      simp only
      rw [if_neg f1, t3, bd, rs (by omega) (by omega), f2, bd]
      show K (sh4 (i + 1), pu (up t 2 (upd (t 2) (p + i) (bt a (sh4 i)))) 0 8 ((up t 2 (upd (t 2) (p + i) (bt a (sh4 i)))) 0 8 + 1)) = _
      rw [e2, t3, ni_s]
      rfl
    · show (pu (up t 2 (upd (t 2) (p + i) (bt a (sh4 i)))) 0 8 (nI (p + (i + 1)))) q = v q
      unfold pu
      rw [up_ne h0, up_ne h2]; exact t2 q h0 h2
    · show (pu (up t 2 (upd (t 2) (p + i) (bt a (sh4 i)))) 0 8 (nI (p + (i + 1)))) 0 8 = _
      unfold pu; rw [up_eq, upd_eq]
    · show (pu (up t 2 (upd (t 2) (p + i) (bt a (sh4 i)))) 0 8 (nI (p + (i + 1)))) 0 j = _
      unfold pu; rw [up_eq, upd_ne hj, up_ne (by omega)]; exact t4 j hj
    · show (pu (up t 2 (upd (t 2) (p + i) (bt a (sh4 i)))) 0 8 (nI (p + (i + 1)))) 2 j = _
      unfold pu; rw [up_ne (by omega), up_eq, upd_ne (by omega)]; exact t5 j hj
    · show (pu (up t 2 (upd (t 2) (p + i) (bt a (sh4 i)))) 0 8 (nI (p + (i + 1)))) 2 (p + j) = _
      unfold pu; rw [up_ne (by omega), up_eq]
      by_cases h : j = i
      · rw [h, upd_eq]
      · rw [upd_ne (by omega)]; exact t6 j (by omega)) z 0 (24, v) ⟨show (24 : Int32) = sh4 0 by decide, fun _ _ _ => rfl, h8, fun _ _ => rfl, fun _ _ => rfl, fun j hj => by omega⟩ (by omega) (by omega)
  exact ⟨w, h1, h2⟩
/-- the class feeds: twenty bytes more at p -/
def F20 (v w : Va) (p : Nat) (A : Nat → Int32) : Prop := (∀ q, q ≠ 0 → q ≠ 2 → w q = v q) ∧ w 0 8 = nI (p + 20) ∧ (∀ j, j ≠ 8 → w 0 j = v 0 j) ∧ (∀ i, i < p → w 2 i = v 2 i) ∧ ∀ k, k < 20 → w 2 (p + k) = bt (A (k / 4)) (sh4 (k % 4))
theorem feed_c (h8 : v 0 8 = nI p) (hp : p ≤ 1980) (hz : 4000 < z) : ∃ w, f_Quay_feed z v a1 a2 a3 a4 a5 = some (.inl (nI (p + 20), w)) ∧ F20 v w p (A5 a1 a2 a3 a4 a5) := by
  obtain ⟨w1, e1, x1, y1, z1, s1, b1⟩ := app_c (a := a1) h8 (by omega) hz
  obtain ⟨w2, e2, x2, y2, z2, s2, b2⟩ := app_c (a := a2) y1 (by omega) hz
  obtain ⟨w3, e3, x3, y3, z3, s3, b3⟩ := app_c (a := a3) y2 (by omega) hz
  obtain ⟨w4, e4, x4, y4, z4, s4, b4⟩ := app_c (a := a4) y3 (by omega) hz
  obtain ⟨w5, e5, x5, y5, z5, s5, b5⟩ := app_c (a := a5) y4 (by omega) hz
  refine ⟨w5, ?_, fun q h0 h2 => ?_, ?_, fun j hj => ?_, fun i hi => ?_, fun k hk => ?_⟩
  · unfold f_Quay_feed
    rw [h8, show (1980 : Int32) = nI 1980 from rfl, if_pos (by rw [le_n (by omega) (by omega)]; exact hp), e1, ob, e2, ob, e3, ob, e4, ob, e5, ob, y5]
  · rw [x5 q h0 h2, x4 q h0 h2, x3 q h0 h2, x2 q h0 h2, x1 q h0 h2]
  · rw [y5]
  · rw [z5 j hj, z4 j hj, z3 j hj, z2 j hj, z1 j hj]
  · rw [s5 i (by omega), s4 i (by omega), s3 i (by omega), s2 i (by omega), s1 i hi]
  · have hq : k / 4 = 0 ∨ k / 4 = 1 ∨ k / 4 = 2 ∨ k / 4 = 3 ∨ k / 4 = 4 := by omega
    rcases hq with q | q | q | q | q
    · have hk2 : p + k = p + k % 4 := by omega
      rw [q, hk2, s5 _ (by omega), s4 _ (by omega), s3 _ (by omega), s2 _ (by omega), b1 _ (by omega)]; rfl
    · have hk2 : p + k = p + 4 + k % 4 := by omega
      rw [q, hk2, s5 _ (by omega), s4 _ (by omega), s3 _ (by omega), b2 _ (by omega)]; rfl
    · have hk2 : p + k = p + 4 + 4 + k % 4 := by omega
      rw [q, hk2, s5 _ (by omega), s4 _ (by omega), b3 _ (by omega)]; rfl
    · have hk2 : p + k = p + 4 + 4 + 4 + k % 4 := by omega
      rw [q, hk2, s5 _ (by omega), b4 _ (by omega)]; rfl
    · have hk2 : p + k = p + 4 + 4 + 4 + 4 + k % 4 := by omega
      rw [q, hk2, b5 _ (by omega)]; rfl
/-- the reference feeds -/
theorem feedB_m {A : Nat → Int32} (hk : 194 ≤ n) (h2 : u 149 2 = nI p) (hp : p ≤ 1980) (hA : ∀ i, i < 5 → u n i = A i) (hz : 4000 < z) : ∃ w, f_Model_feedB z u sp n = some (nI (p + 20), w) ∧ (∀ q, q ≠ 149 → q ≠ 150 → w q = u q) ∧ w 149 2 = nI (p + 20) ∧ (∀ j, j ≠ 2 → w 149 j = u 149 j) ∧ (∀ i, i < p → w 150 i = u 150 i) ∧ ∀ k, k < 20 → w 150 (p + k) = bt (A (k / 4)) (sh4 (k % 4)) := by
  obtain ⟨⟨x, w⟩, h1, hx, hw⟩ := rp_inv (f := b_Model_feed_54 n) (fun i t => t.1 = nI i ∧ (∀ q, q ≠ 150 → t.2 q = u q) ∧ (∀ i, i < p → t.2 150 i = u 150 i) ∧ ∀ k, k < i → t.2 150 (p + k) = bt (A (k / 4)) (sh4 (k % 4))) (fun r => r.1 = nI (p + 20) ∧ (∀ q, q ≠ 149 → q ≠ 150 → r.2 q = u q) ∧ r.2 149 2 = nI (p + 20) ∧ (∀ j, j ≠ 2 → r.2 149 j = u 149 j) ∧ (∀ i, i < p → r.2 150 i = u 150 i) ∧ ∀ k, k < 20 → r.2 150 (p + k) = bt (A (k / 4)) (sh4 (k % 4))) 20 (fun K t ht => by
    obtain ⟨i, t⟩ := t
    obtain ⟨t1, t2, t3, t4⟩ := ht
    simp only at t1 t2 t3 t4
    subst t1
    have e9 : (pu t 149 2 (nI (p + 20))) 149 2 = nI (p + 20) := by unfold pu; rw [up_eq, upd_eq]
    refine ⟨(nI (p + 20), pu t 149 2 (nI (p + 20))), ?_, rfl, fun q h9 h0 => ?_, e9, fun j hj => ?_, fun i hi => ?_, fun k hk => ?_⟩
    · unfold b_Model_feed_54
      simp only
      rw [show (20 : Int32) = nI 20 from rfl, if_pos (by rw [le_n (by omega) (by omega)]; exact Nat.le_refl _), t2 149 (by omega), h2, ni_add, bd, e9]
    · show (pu t 149 2 (nI (p + 20))) q = u q
      unfold pu; rw [up_ne h9]; exact t2 q h0
    · show (pu t 149 2 (nI (p + 20))) 149 j = u 149 j
      unfold pu; rw [up_eq, upd_ne hj, t2 149 (by omega)]
    · show (pu t 149 2 (nI (p + 20))) 150 i = u 150 i
      unfold pu; rw [up_ne (by omega)]; exact t3 i hi
    · show (pu t 149 2 (nI (p + 20))) 150 (p + k) = _
      unfold pu; rw [up_ne (by omega)]; exact t4 k hk) (fun K i t hi ht => by
    obtain ⟨i', t⟩ := t
    obtain ⟨t1, t2, t3, t4⟩ := ht
    simp only at t1 t2 t3 t4
    subst t1
    obtain ⟨k1, k2⟩ := sh4_k ⟨i, hi⟩
    simp only at k1 k2
    refine Or.inl ⟨(nI (i + 1), pu t 150 (p + i) (bt (A (i / 4)) (sh4 (i % 4)))), ?_, rfl, fun q hq => ?_, fun j hj => ?_, fun k hk => ?_⟩
    · unfold b_Model_feed_54
      simp only
      rw [k2, k1, show (20 : Int32) = nI 20 from rfl, if_neg (by rw [le_n (by omega) (by omega)]; omega), if_neg (gd2 (by omega) (by omega)), t2 149 (by omega), h2, ni_add, if_neg (gd2 (by omega) (by omega)), ni_c (by omega), ni_c (by omega), t2 n (by omega), hA _ (by omega), bd, ni_s]
      rfl
    · show (pu t 150 (p + i) (bt (A (i / 4)) (sh4 (i % 4)))) q = u q
      unfold pu; rw [up_ne hq]; exact t2 q hq
    · show (pu t 150 (p + i) (bt (A (i / 4)) (sh4 (i % 4)))) 150 j = u 150 j
      unfold pu; rw [up_eq, upd_ne (by omega)]; exact t3 j hj
    · show (pu t 150 (p + i) (bt (A (i / 4)) (sh4 (i % 4)))) 150 (p + k) = _
      unfold pu; rw [up_eq]
      by_cases h : k = i
      · rw [h, upd_eq]
      · rw [upd_ne (by omega)]; exact t4 k (by omega)) z 0 (0, u) ⟨rfl, fun _ _ => rfl, fun _ _ => rfl, fun k hk => by omega⟩ (by omega) (by omega)
  simp only at hx hw
  subst hx
  exact ⟨w, h1, hw⟩
theorem Inv.tape {v2 : Va} (h : Inv z v sp) (hn : 194 ≤ n) (hsp : sp + 22 ≤ n) (hp : ∀ p, p < n → p ≠ 0 → p ≠ 2 → p ≠ 149 → p ≠ 150 → v2 p = v p) (hT : TP v2) : Inv z v2 sp := by
  obtain ⟨S, G, M, L, O, cs, ct, hs, hP, hX, hR, hI, -⟩ := h
  have e : ∀ p, 61 ≤ p → p < n → p ≠ 149 → p ≠ 150 → v2 p = v p := fun p a b c d => hp p b (by omega) (by omega) c d
  exact ⟨S, G, M, L, O, cs, ct, hs, hP.cong (fun p a b => e p (by omega) (by omega) (by omega) (by omega)) (fun p a b => e p (by omega) (by omega) (by omega) (by omega)), hX.cong (fun p a b => e p (by omega) (by omega) (by omega) (by omega)) (fun p a b => e p (by omega) (by omega) (by omega) (by omega)), hR.cong (fun p a b => e p (by omega) (by omega) (by omega) (by omega)) (fun p a b => e p (by omega) (by omega) (by omega) (by omega)), hI.cong (fun p a b => e p (by omega) (by omega) (by omega) (by omega)), hT⟩
theorem s_feed (hz : 4000 < z) (h : Inv z v sp) (hn : 194 ≤ n) (hsp : sp + 22 ≤ n) :
    (∃ x v1 v2, f_Quay_feed z v a1 a2 a3 a4 a5 = some (.inl (x, v1)) ∧ f_Model_feed z sh v1 sp n a1 a2 a3 a4 a5 = some (x, up sh n (some (sA 5)), v2, n + 1) ∧ v2 149 0 = 0 ∧ Inv z v2 sp) ∨
      ∃ y v2, f_Quay_feed z v a1 a2 a3 a4 a5 = some (.inr 0) ∧ f_Model_feed z sh v sp n a1 a2 a3 a4 a5 = some (y, sh, v2, n) ∧ v2 149 0 = 1 ∧ Inv z v2 sp := by
  have hI := h
  obtain ⟨S, G, M, L, O, cs, ct, hs, hP, hX, hR, hI', ⟨nb, n1, n2, n3, n4⟩, t9, t49, t52, t55, t58⟩ := h
  by_cases hb : nb ≤ 1980
  · obtain ⟨w, c1, c2, c3, c4, c5, c6⟩ := feed_c (a1 := a1) (a2 := a2) (a3 := a3) (a4 := a4) (a5 := a5) n2 hb hz
    obtain ⟨f, ef⟩ : ∃ f, FV (pu w 149 0 0) n a1 a2 a3 a4 a5 = f := ⟨_, rfl⟩
    have fp : ∀ p, p ≠ n → f p = (pu w 149 0 0) p := fun p hp => by
      rw [← ef]; unfold FV
      show (up _ n _) p = _
      rw [up_ne hp]; show (up _ n _) p = _
      rw [up_ne hp]; show (up _ n _) p = _
      rw [up_ne hp]; show (up _ n _) p = _
      rw [up_ne hp]; show (up _ n _) p = _
      rw [up_ne hp, up_ne hp]
    have fn : ∀ i, i < 5 → f n i = A5 a1 a2 a3 a4 a5 i := fun i hi => by
      rw [← ef]
      have hc : i = 0 ∨ i = 1 ∨ i = 2 ∨ i = 3 ∨ i = 4 := by omega
      unfold FV
      generalize pu w 149 0 0 = w0
      unfold pu
      rcases hc with rfl | rfl | rfl | rfl | rfl <;> simp (disch := omega) only [up_eq, upd_ne, upd_eq] <;> rfl
    have hw9 : w 149 = v 149 := c2 149 (by omega) (by omega)
    have q2 : (pu w 149 0 0) 149 2 = nI nb := by unfold pu; rw [up_eq, upd_ne (by omega), hw9]; exact n3
    have f2 : f 149 2 = nI nb := by rw [fp 149 (by omega)]; exact q2
    obtain ⟨u, b1, b2, b3, b4, b5, b6⟩ := feedB_m (sp := sp) hn f2 hb fn hz
    have e9 : ∀ j, j ≠ 0 → j ≠ 2 → u 149 j = v 149 j := fun j j0 j2 => by
      rw [b4 j j2, fp 149 (by omega)]; unfold pu; rw [up_eq, upd_ne j0, hw9]
    have ep : ∀ p, p < n → p ≠ 149 → p ≠ 150 → u p = w p := fun p a b c => by
      rw [b2 p b c, fp p (by omega)]; unfold pu; rw [up_ne b]
    refine Or.inl ⟨nI (nb + 20), w, u, c1, ?_, ?_, Inv.tape hI hn hsp (fun p a b c d e => (ep p a d e).trans (c2 p b c)) ⟨⟨nb + 20, by omega, ?_, b3, fun i hi => ?_⟩, ?_, ?_, ?_, ?_, ?_⟩⟩
    · unfold f_Model_feed
      rw [bd, q2, show (20 : Int32) = nI 20 from rfl, ni_add, show (2000 : Int32) = nI 2000 from rfl, if_pos (by rw [le_n (by omega) (by omega)]; omega), ef, b1, ob]
    · rw [b4 0 (by omega), fp 149 (by omega)]; unfold pu; rw [up_eq, upd_eq]
    · rw [ep 0 (by omega) (by omega) (by omega)]; exact c3
    · have h150 : ∀ i, f 150 i = v 150 i := fun i => by rw [fp 150 (by omega)]; unfold pu; rw [up_ne (by omega), c2 150 (by omega) (by omega)]
      rw [ep 2 (by omega) (by omega) (by omega)]
      by_cases hi2 : i < nb
      · rw [c5 i hi2, b5 i hi2, h150]; exact n4 i hi2
      · obtain ⟨k, hk⟩ : ∃ k, i = nb + k := ⟨i - nb, by omega⟩
        subst hk
        rw [c6 k (by omega), b6 k (by omega)]
        exact ⟨rfl, bt_b⟩
    · rw [ep 0 (by omega) (by omega) (by omega), c4 9 (by omega), e9 3 (by omega) (by omega)]; exact t9
    · rw [ep 49 (by omega) (by omega) (by omega), c2 49 (by omega) (by omega)]; exact t49
    · rw [ep 52 (by omega) (by omega) (by omega), c2 52 (by omega) (by omega)]; exact t52
    · rw [ep 55 (by omega) (by omega) (by omega), c2 55 (by omega) (by omega)]; exact t55
    · rw [ep 58 (by omega) (by omega) (by omega), c2 58 (by omega) (by omega)]; exact t58
  · have q2 : (pu v 149 0 0) 149 2 = nI nb := by unfold pu; rw [up_eq, upd_ne (by omega)]; exact n3
    refine Or.inr ⟨0, pu (pu v 149 0 0) 149 0 1, ?_, ?_, th0, InvP.no (x := 1) ⟨hs, hP, hX, hR, hI', ⟨nb, n1, n2, n3, n4⟩, t9, t49, t52, t55, t58⟩⟩
    · unfold f_Quay_feed
      rw [n2, show (1980 : Int32) = nI 1980 from rfl, if_neg (by rw [le_n (by omega) (by omega)]; exact hb)]
    · unfold f_Model_feed f_Model_no
      rw [bd, q2, show (20 : Int32) = nI 20 from rfl, ni_add, show (2000 : Int32) = nI 2000 from rfl, if_neg (by rw [le_n (by omega) (by omega)]; omega), bd, ob]
theorem s_trim (h : Inv z v sp) (hs : sp + 22 ≤ n) (hn : 194 ≤ n) (a : Int32) : Same z v sp (f_Quay_trim v a) (fun v => f_Model_trim v sp a) [(1, 1)] := by
  have hI := h
  obtain ⟨S, G, M, L, O, cs, ct, hs', hP, hX, hR, hI', ⟨nb, n1, n2, n3, n4⟩, t9, t49, t52, t55, t58⟩ := h
  have q2 : ∀ v : Va, (pu v 149 0 0) 149 2 = v 149 2 := fun v => by unfold pu; rw [up_eq, upd_ne (by omega)]
  unfold Same f_Quay_trim f_Model_trim
  by_cases h1 : ¬ a < 0 ∧ ¬ nI nb < a
  · obtain ⟨d, -, hd, rfl⟩ := in_rng (a := a) (lo := 0) (hi := nb) (by omega) (by omega) h1.1 h1.2
    have w9 : ∀ p, p ≠ 0 → (pu v 0 8 (nI d)) p = v p := fun p hp => by unfold pu; rw [up_ne hp]
    refine Or.inl ⟨nI d, pu v 0 8 (nI d), pu (pu (pu v 0 8 (nI d)) 149 0 0) 149 2 (nI d), ?_, ?_, ?_, Inv.tape hI hn hs (fun p _ a0 a2 a9 a5 => ?_) ⟨⟨d, by omega, ?_, ?_, fun i hi => ?_⟩, ?_, ?_, ?_, ?_, ?_⟩⟩
    · rw [if_neg h1.1, n2, if_pos (by rw [le_n (by omega) (by omega)]; exact hd), bd]
    · simp only [bd, isIn_e, ob, qb]
      rw [q2, w9 149 (by omega), n3, if_neg (by rw [decide_eq_true h1]; decide)]
    · unfold pu; rw [up_eq, upd_ne (by omega), up_eq, upd_eq]
    · unfold pu; rw [up_ne a9, up_ne a9, up_ne a0]
    · unfold pu; rw [up_ne (by omega), up_ne (by omega), up_eq, upd_eq]
    · unfold pu; rw [up_eq, upd_eq]
    · have := n4 i (by omega)
      unfold pu
      rw [up_ne (by omega), up_ne (by omega), up_ne (by omega), up_ne (by omega), up_ne (by omega), up_ne (by omega)]
      exact this
    · unfold pu
      rw [up_ne (by omega), up_ne (by omega), up_eq, upd_ne (by omega), up_eq, upd_ne (by omega), up_eq, upd_ne (by omega), up_ne (by omega)]
      exact t9
    · unfold pu; rw [up_ne (by omega), up_ne (by omega), up_ne (by omega)]; exact t49
    · unfold pu; rw [up_ne (by omega), up_ne (by omega), up_ne (by omega)]; exact t52
    · unfold pu; rw [up_ne (by omega), up_ne (by omega), up_ne (by omega)]; exact t55
    · unfold pu; rw [up_ne (by omega), up_ne (by omega), up_ne (by omega)]; exact t58
  · refine Or.inr ⟨1, 1, 0, _, List.mem_cons_self, ?_, ?_, th0, InvP.no (x := 1) ⟨hs', hP, hX, hR, hI', ⟨nb, n1, n2, n3, n4⟩, t9, t49, t52, t55, t58⟩⟩
    · by_cases h3 : a < 0
      · rw [if_pos h3]
      · rw [if_neg h3, n2, if_neg (fun q => h1 ⟨h3, Int32.not_lt.mpr q⟩)]
    · simp only [bd, isIn_e, ob, qb]
      rw [q2, n3, if_pos (decide_eq_false h1)]
      unfold f_Model_no
      rw [bd, ob]
end
