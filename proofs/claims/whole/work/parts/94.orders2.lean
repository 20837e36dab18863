/-! WHAT WAS READ, AS THE ORDERS OF A PLAN: sums and tests come out alike -/
section
variable {kn : Nat → Nat} {nt n z s O Om : Nat} {u0 w u v : Va} {N : Nat → Nat}
theorem seg_D : ∀ (m a : Nat), a + m ≤ 400 → (∀ i, i < 400 → v 92 i = w 44 i ∧ v 94 i = w 46 i ∧ v 96 i = w 48 i) → seg v a m = segD w a m
  | 0, _, _, _ => rfl
  | m + 1, a, h, e => by
    obtain ⟨e1, e2, e3⟩ := e a (by omega)
    show (v 92 a, v 94 a, v 96 a) :: seg v (a + 1) m = (w 44 a, w 46 a, w 48 a) :: segD w (a + 1) m
    rw [e1, e2, e3, seg_D m (a + 1) (by omega) e]
theorem okc_ne {M L a b : Nat} {c : List Ste} (h : OKc M L a b c) : c ≠ [] := fun q => by
  have := h.2.2.2.1 0
  rw [q] at this
  exact absurd (show some 0 = some 1 from this) (by decide)
theorem segD_nil {a m : Nat} (h : segD w a m ≠ []) : 0 < m := by
  cases m with
  | zero => exact absurd rfl h
  | succ m => omega
theorem eu_got {sn a b : Nat} {u' : Va} (hn : 194 ≤ n) (hsn : sn = 173 ∨ sn = 183) (h1 : ∀ i, i < 401 → u' (n + 1) i = u0 (n + 1) i) (h4 : u' (n + 4) = u (n + 4)) : EU (u0 (n + 1)) (u (n + 4)) n sn a a b (pu (pu u' 149 11 (nI sn)) 149 10 (nI a)) := by
  refine ⟨?_, ?_, fun i hi => ?_, fun i _ _ => ?_, Or.inr hn, hsn⟩
  · unfold pu; rw [up_eq, upd_eq]
  · unfold pu; rw [up_eq, upd_ne (by omega), up_eq, upd_eq]; exact ni_c (by omega)
  · unfold pu; rw [up_ne (by omega), up_ne (by omega)]; exact h1 i hi
  · unfold pu; rw [up_ne (by omega), up_ne (by omega), h4]
theorem mval_2 {sn a : Nat} {u' : Va} (hsn : sn = 173 ∨ sn = 183) : mval (pu (pu u' 149 11 (nI sn)) 149 10 (nI a)) sn = mval u' sn := mval_eq fun p h1 h2 => by
  unfold pu; rw [up_ne (by omega), up_ne (by omega)]
theorem fw_2 {sn a b : Nat} {u' : Va} : FW u' (Wk (pu (pu u' 149 11 (nI sn)) 149 10 (nI a)) b) := by
  refine ⟨fun p hp => ?_, fun j h1 h2 => ?_⟩
  · unfold Wk pu; rw [up_ne hp, up_ne hp, up_ne hp]
  · unfold Wk pu; rw [up_eq, upd_ne h1, up_eq, upd_ne h1, up_eq, upd_ne h2]
theorem px_got (hz : 4000 < z) (hn : 194 ≤ n) (hnt : nt ≤ 400) (hS : Shx kn nt n u0 w u nt N (rbd N) O Om s) (hZ : ZR n u0 u) (c1 : ∀ i, i < 400 → v 92 i = w 44 i ∧ v 94 i = w 46 i ∧ v 96 i = w 48 i) (c2 : ∀ o, o < 24 → v 85 o = w 37 o ∧ v 87 o = w 39 o ∧ v 89 o = w 41 o) (c3 : ∀ p, n ≤ p → p < n + 22 → v p = u p) :
    PX z v v n (N 3) (N 1) (N 2) O (fun o => segD w (w 37 o).toNatClampNeg ((w 39 o).toNatClampNeg - (w 37 o).toNatClampNeg)) (fun o => segD w (w 39 o).toNatClampNeg ((w 41 o).toNatClampNeg - (w 39 o).toNatClampNeg)) := by
  intro v' u' k sn o ho hk hsn e1 e2 hR hI
  obtain ⟨⟨s1, s2⟩, hN, hE, ⟨o1, o2, o3⟩, hrow, hord⟩ := hS
  obtain ⟨-, hM, -, -⟩ := hN 2 (by omega)
  obtain ⟨-, hG, -, -⟩ := hN 1 (by omega)
  obtain ⟨-, hL, -, -⟩ := hN 3 (by omega)
  have hM : N 2 ≤ 6 := hM
  have hG : N 1 ≤ 4 := hG
  have hL : N 3 ≤ 10 := hL
  obtain ⟨q1, q2, q3, q4, f, g, h, f1, f2, f3, f4, f5, f6, hsum, htest⟩ := hord o ho
  obtain ⟨c85, c87, c89⟩ := c2 o (by omega)
  have hv : ∀ i, i < 400 → v' 92 i = w 44 i ∧ v' 94 i = w 46 i ∧ v' 96 i = w 48 i := fun i hi => by
    rw [e1 92 (by omega) (by omega), e1 94 (by omega) (by omega), e1 96 (by omega) (by omega)]; exact c1 i hi
  have v85 : v' 85 o = nI f := by rw [e1 85 (by omega) (by omega), c85, f4]
  have v87 : v' 87 o = nI g := by rw [e1 87 (by omega) (by omega), c87, f5]
  have v89 : v' 89 o = nI h := by rw [e1 89 (by omega) (by omega), c89, f6]
  have hu : ∀ p, n ≤ p → p < n + 22 → u' p = u p := fun p a b => (e2 p a b).trans (c3 p a b)
  have hK : ∀ i, i < 401 → u' (n + 1) i = u0 (n + 1) i := fun i _ => by rw [hu _ (by omega) (by omega), hZ.1.2]
  have hMn : u' (n + 4) = u (n + 4) := hu _ (by omega) (by omega)
  have t37 : (w 37 o).toNatClampNeg = f := by rw [f4, ni_c (by omega)]
  have t39 : (w 39 o).toNatClampNeg = g := by rw [f5, ni_c (by omega)]
  have t41 : (w 41 o).toNatClampNeg = h := by rw [f6, ni_c (by omega)]
  refine ⟨?_, ?_⟩
  · simp only [t39, t41]
    unfold EVT
    rw [v89, v87, hu _ (by omega) (by omega)]
    rcases htest with ⟨x1, x2⟩ | ⟨a, b, x1, x2, x3⟩
    · exact Or.inl ⟨by rw [x2]; exact Int32.le_refl _, x1⟩
    · have hlt : 0 < h - g := segD_nil (okc_ne x3.1)
      have hsg := seg_D (v := v') (w := w) (h - g) g (by omega) hv
      obtain ⟨bb, y1, y2⟩ := x3.2 z n sn 48 _ hz (by omega) (eu_got (u' := u') (a := a) (b := b) hn hsn hK hMn)
      have hra := x3.1.2.1
      obtain ⟨v1, r1, r2⟩ := reckon_c (k := k) hR hI.2.2.1 hk hL hG hM hz (a := g) (n := h - g) (by omega) (by rw [hsg]; exact x3.1.2.2.1) (by rw [hsg]; exact x3.1.2.2.2.1 0)
      have hw : worth u' sn (segD w g (h - g)) = q_b bb := by
        have := y2 []
        rw [mval_2 hsn] at this
        unfold worth
        rw [this]; rfl
      rw [hsg, hw, show g + (h - g) = h by omega] at r1
      refine Or.inr ⟨by rw [le_n (by omega) (by omega)]; omega, ?_, bb, v1, _, hw, r1, r2, by rw [x2]; exact y1, fw_2⟩
      rw [x2]
      intro q
      rw [eq_m1 (by have := x3.1.1; omega)] at q
      exact q
  · simp only [t37, t39]
    unfold EVS
    rw [v85, v87, hu _ (by omega) (by omega), hu (n + 20) (by omega) (by omega)]
    rcases hsum with x0 | ⟨a, b, x1, x2, x3⟩
    · obtain ⟨x, v1, r1, r2⟩ := reckon_any (v := v') (k := k) hz (f := f) (n := g - f) (by omega)
      rw [show f + (g - f) = g by omega] at r1
      exact ⟨x, v1, r1, r2, fun q => absurd x0 q⟩
    · have hsg := seg_D (v := v') (w := w) (g - f) f (by omega) hv
      obtain ⟨x, y1, y2⟩ := x3.2 z n sn 48 _ hz (by omega) (eu_got (u' := u') (a := a) (b := b) hn hsn hK hMn)
      obtain ⟨v1, r1, r2⟩ := reckon_c (k := k) hR hI.2.2.1 hk hL hG hM hz (a := f) (n := g - f) (by omega) (by rw [hsg]; exact x3.1.2.2.1) (by rw [hsg]; exact x3.1.2.2.2.1 0)
      have hw : worth u' sn (segD w f (g - f)) = x := by
        have := y2 []
        rw [mval_2 hsn] at this
        unfold worth
        rw [this]; rfl
      rw [hsg, hw, show f + (g - f) = g by omega] at r1
      exact ⟨x, v1, r1, r2, fun _ => ⟨hw.symm, _, by rw [x2]; exact y1, fw_2⟩⟩
end
