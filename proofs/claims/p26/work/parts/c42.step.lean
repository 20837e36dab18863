/-! ONE STEP OF BOTH SIDES -/
section
variable {v u v1 u1 : Va} {k sn sp L G M S O z : Nat}
theorem PL.fr (h : PL v u sp S G M L O) (hC : FC k v v1) (hM : FM sn u u1) (hk : k = 97 ∨ k = 123) (hn : sn = 173 ∨ sn = 183) (hs : sp = 151 ∨ 194 ≤ sp) : PL v1 u1 sp S G M L O :=
  h.cong (fun p h1 h2 => hC p (by omega)) (fun p h1 h2 => hM.1 p (by omega) (by omega))
/-! one thing of both is put anew -/
theorem RS.w (h : RS v u k sn L) {f g : Nat → Int32} (e : eqN 10 f g) : RS (up v (k + 2) f) (up u (sn + 1) g) k sn L := by
  unfold RS at h ⊢
  simp (disch := omega) only [up_eq, up_ne]
  exact ⟨h.1, e, h.2.2⟩
theorem RS.o (h : RS v u k sn L) {f g : Nat → Int32} (e : eqN L f g) : RS (up v (k + 4) f) (up u (sn + 2) g) k sn L := by
  unfold RS at h ⊢
  simp (disch := omega) only [up_eq, up_ne]
  exact ⟨h.1, h.2.1, e, h.2.2.2⟩
theorem RS.c (h : RS v u k sn L) {f g : Nat → Int32} (e : eqN 6 f g) : RS (up v (k + 12) f) (up u (sn + 6) g) k sn L := by
  unfold RS at h ⊢
  simp (disch := omega) only [up_eq, up_ne]
  exact ⟨h.1, h.2.1, h.2.2.1, h.2.2.2.1, h.2.2.2.2.1, h.2.2.2.2.2.1, e, h.2.2.2.2.2.2.2⟩
theorem RS.d (h : RS v u k sn L) {f g : Nat → Int32} (e : eqN 36 f g) : RS (up v (k + 15) f) (up u (sn + 7) g) k sn L := by
  unfold RS at h ⊢
  simp (disch := omega) only [up_eq, up_ne]
  exact ⟨h.1, h.2.1, h.2.2.1, h.2.2.2.1, h.2.2.2.2.1, h.2.2.2.2.2.1, h.2.2.2.2.2.2.1, e, h.2.2.2.2.2.2.2.2⟩
theorem RS.e (h : RS v u k sn L) {f g : Nat → Int32} (e : eqN 4 f g) : RS (up v (k + 19) f) (up u (sn + 8) g) k sn L := by
  unfold RS at h ⊢
  simp (disch := omega) only [up_eq, up_ne]
  exact ⟨h.1, h.2.1, h.2.2.1, h.2.2.2.1, h.2.2.2.2.1, h.2.2.2.2.2.1, h.2.2.2.2.2.2.1, h.2.2.2.2.2.2.2.1, e, h.2.2.2.2.2.2.2.2.2⟩
theorem RS.n (h : RS v u k sn L) {f g : Nat → Int32} (e : eqN 24 f g) : RS (up v (k + 21) f) (up u (sn + 9) g) k sn L := by
  unfold RS at h ⊢
  simp (disch := omega) only [up_eq, up_ne]
  exact ⟨h.1, h.2.1, h.2.2.1, h.2.2.2.1, h.2.2.2.2.1, h.2.2.2.2.2.1, h.2.2.2.2.2.2.1, h.2.2.2.2.2.2.2.1, h.2.2.2.2.2.2.2.2.1, e⟩
theorem RS.x (h : RS v u k sn L) {f g : Nat → Int32} (e : f 1 = g 0 ∧ f 2 = g 1 ∧ f 3 = g 2 ∧ f 4 = g 3 ∧ f 5 = g 4) : RS (up v k f) (up u sn g) k sn L := by
  unfold RS at h ⊢
  simp (disch := omega) only [up_eq, up_ne]
  exact ⟨e, h.2⟩
/-- a chop of a guild -/
theorem RS.chop (h : RS v u k sn L) {i : Nat} {g x d : Int32} (hg : g ≠ -1) : RS (up (up (up v (k + 6) (upd (v (k + 6)) i g)) (k + 8) (upd (v (k + 8)) i x)) (k + 10) (upd (v (k + 10)) i d)) (up (up (up u (sn + 3) (upd (u (sn + 3)) i g)) (sn + 4) (upd (u (sn + 4)) i x)) (sn + 5) (upd (u (sn + 5)) i d)) k sn L := by
  unfold RS at h ⊢
  simp (disch := omega) only [up_eq, up_ne]
  refine ⟨h.1, h.2.1, h.2.2.1, eqN_upd h.2.2.2.1 i rfl, fun j hj => ?_, fun j hj hne => ?_, h.2.2.2.2.2.2⟩
  · by_cases hq : j = i
    · subst hq; rw [upd_eq, upd_eq, upd_eq, if_neg hg]
    · rw [upd_ne hq, upd_ne hq, upd_ne hq]; exact h.2.2.2.2.1 j hj
  · by_cases hq : j = i
    · subst hq; rw [upd_eq, upd_eq]
    · rw [upd_ne hq] at hne
      rw [upd_ne hq, upd_ne hq]; exact h.2.2.2.2.2.1 j hj hne
/-- none any more: the reference leaves its weight and day -/
theorem RS.bare (h : RS v u k sn L) {i : Nat} : RS (up (up (up v (k + 6) (upd (v (k + 6)) i (-1))) (k + 8) (upd (v (k + 8)) i 0)) (k + 10) (upd (v (k + 10)) i 0)) (up u (sn + 3) (upd (u (sn + 3)) i (-1))) k sn L := by
  unfold RS at h ⊢
  simp (disch := omega) only [up_eq, up_ne]
  refine ⟨h.1, h.2.1, h.2.2.1, eqN_upd h.2.2.2.1 i rfl, fun j hj => ?_, fun j hj hne => ?_, h.2.2.2.2.2.2⟩
  · by_cases hq : j = i
    · subst hq; rw [upd_eq, upd_eq, if_pos rfl]
    · rw [upd_ne hq, upd_ne hq]; exact h.2.2.2.2.1 j hj
  · by_cases hq : j = i
    · subst hq; rw [upd_eq] at hne; exact absurd rfl hne
    · rw [upd_ne hq] at hne
      rw [upd_ne hq]; exact h.2.2.2.2.2.1 j hj hne
theorem IW.set {f : Nat → Int32} (h : IW f L) {i : Nat} {x : Int32} (hi : i < L) (hx : 0 ≤ x.toInt ∧ x.toInt ≤ 9000) : IW (upd f i x) L := ⟨fun j hj => by
    by_cases hq : j = i
    · subst hq; rw [upd_eq]; exact hx
    · rw [upd_ne hq]; exact h.1 j hj, fun j h1 h2 => by rw [upd_ne (by omega)]; exact h.2 j h1 h2⟩
theorem IQ.set {f : Nat → Int32} (h : IQ f L M) {i m : Nat} (hm : m < M) : IQ (upd f i (nI m)) L M := fun j hj => by
  by_cases hq : j = i
  · subst hq; exact ⟨m, hm, upd_eq⟩
  · rw [upd_ne hq]; exact h j hj
theorem IG.set {f g : Nat → Int32} (h : IG f g L G) {i m : Nat} {x : Int32} (hm : m < G) (hx : 0 ≤ x.toInt ∧ x.toInt ≤ 9000) : IG (upd f i (nI m)) (upd g i x) L G := fun j hj => by
  by_cases hq : j = i
  · subst hq; rw [upd_eq, upd_eq]; exact Or.inr ⟨⟨m, hm, rfl⟩, hx⟩
  · rw [upd_ne hq, upd_ne hq]; exact h j hj
theorem IG.bare {f g : Nat → Int32} (h : IG f g L G) {i : Nat} : IG (upd f i (-1)) g L G := fun j hj => by
  by_cases hq : j = i
  · subst hq; rw [upd_eq]; exact Or.inl rfl
  · rw [upd_ne hq]; exact h j hj
theorem IC.pays {f : Nat → Int32} (h : IC f) {a : Nat} {x : Int32} (ha : a < 6) (h0 : 0 ≤ x.toInt) (h1 : x.toInt ≤ (f a).toInt) : IC (upd f a (f a - x)) ∧ isum (upd f a (f a - x)) 6 = isum f 6 - x.toInt := by
  have h2 := isum_le (f := f) (i := a) 6 h.1 ha
  have h3 := h.2
  have e1 : (f a - x).toInt = (f a).toInt - x.toInt := t_sub (by omega) (by omega)
  have e2 : isum (upd f a (f a - x)) 6 = isum f 6 - x.toInt := by rw [isum_upd 6 ha, e1]; omega
  refine ⟨⟨fun j hj => ?_, by rw [e2]; omega⟩, e2⟩
  by_cases hq : j = a
  · subst hq; rw [upd_eq, e1]; omega
  · rw [upd_ne hq]; exact h.1 j hj
theorem IC.gets {f : Nat → Int32} (h : IC f) {a : Nat} {x : Int32} (ha : a < 6) (h0 : 0 ≤ x.toInt) (h1 : isum f 6 + x.toInt ≤ 59994) : IC (upd f a (f a + x)) := by
  have h2 := isum_le (f := f) (i := a) 6 h.1 ha
  have h3 := h.1 a ha
  have e1 : (f a + x).toInt = (f a).toInt + x.toInt := t_add (by omega) (by omega)
  refine ⟨fun j hj => ?_, by rw [isum_upd 6 ha, e1]; omega⟩
  by_cases hq : j = a
  · subst hq; rw [upd_eq, e1]; omega
  · rw [upd_ne hq]; exact h.1 j hj
theorem IC.moves {f : Nat → Int32} (h : IC f) {a b : Nat} {x : Int32} (ha : a < 6) (hb : b < 6) (h0 : 0 ≤ x.toInt) (h1 : x.toInt ≤ (f a).toInt) : IC (upd (upd f a (f a - x)) b (upd f a (f a - x) b + x)) := by
  obtain ⟨h2, h3⟩ := h.pays ha h0 h1
  exact h2.gets hb h0 (by have := h.2; omega)
theorem ID.set {f : Nat → Int32} (h : ID f M) {a b : Nat} {x : Int32} (ha : a < M) (hb : b < M) (hM : M ≤ 6) (hab : a ≠ b) (h0 : 0 ≤ x.toInt) (h1 : x.toInt ≤ 99999) : ID (upd f (6 * a + b) x) M := fun c d hc hd => by
  by_cases hq : 6 * c + d = 6 * a + b
  · have e1 : c = a := by omega
    have e2 : d = b := by omega
    rw [hq, upd_eq]
    exact ⟨h0, h1, fun q => by omega⟩
  · rw [upd_ne hq]; exact h c d hc hd
theorem IS.w (h : IS u sn L G M) {f : Nat → Int32} (e : IW f L) : IS (up u (sn + 1) f) sn L G M := by
  unfold IS at h ⊢
  simp (disch := omega) only [up_eq, up_ne]
  exact ⟨e, h.2⟩
theorem IS.o (h : IS u sn L G M) {f : Nat → Int32} (e : IQ f L M) : IS (up u (sn + 2) f) sn L G M := by
  unfold IS at h ⊢
  simp (disch := omega) only [up_eq, up_ne]
  exact ⟨h.1, e, h.2.2⟩
theorem IS.chop (h : IS u sn L G M) {f g d : Nat → Int32} (e : IG f g L G) : IS (up (up (up u (sn + 3) f) (sn + 4) g) (sn + 5) d) sn L G M := by
  unfold IS at h ⊢
  simp (disch := omega) only [up_eq, up_ne]
  exact ⟨h.1, h.2.1, e, h.2.2.2⟩
theorem IS.bare (h : IS u sn L G M) {f : Nat → Int32} (e : IG f (u (sn + 4)) L G) : IS (up u (sn + 3) f) sn L G M := by
  unfold IS at h ⊢
  simp (disch := omega) only [up_eq, up_ne]
  exact ⟨h.1, h.2.1, e, h.2.2.2⟩
theorem IS.c (h : IS u sn L G M) {f : Nat → Int32} (e : IC f) : IS (up u (sn + 6) f) sn L G M := by
  unfold IS at h ⊢
  simp (disch := omega) only [up_eq, up_ne]
  exact ⟨h.1, h.2.1, h.2.2.1, e, h.2.2.2.2⟩
theorem IS.d (h : IS u sn L G M) {f : Nat → Int32} (e : ID f M) : IS (up u (sn + 7) f) sn L G M := by
  unfold IS at h ⊢
  simp (disch := omega) only [up_eq, up_ne]
  exact ⟨h.1, h.2.1, h.2.2.1, h.2.2.2.1, e, h.2.2.2.2.2⟩
theorem IS.e (h : IS u sn L G M) {f : Nat → Int32} : IS (up u (sn + 8) f) sn L G M := by
  unfold IS at h ⊢
  simp (disch := omega) only [up_eq, up_ne]
  exact h
theorem IS.n (h : IS u sn L G M) {f : Nat → Int32} : IS (up u (sn + 9) f) sn L G M := by
  unfold IS at h ⊢
  simp (disch := omega) only [up_eq, up_ne]
  exact h
theorem IS.x (h : IS u sn L G M) {f : Nat → Int32} (e : ∃ d, d < 10 ∧ f 1 = nI d) : IS (up u sn f) sn L G M := by
  unfold IS at h ⊢
  simp (disch := omega) only [up_eq, up_ne]
  exact ⟨h.1, h.2.1, h.2.2.1, h.2.2.2.1, h.2.2.2.2.1, e⟩
/-- each lot loses weight -/
theorem lose_two (hP : PL v u sp S G M L O) (hR : RS v u k sn L) (hI : IS u sn L G M) (hk : k = 97 ∨ k = 123) (hn : sn = 173 ∨ sn = 183) (hs : sp = 151 ∨ 194 ≤ sp) (hz : 4000 < z) :
    ∃ v1 u1, f_Stand_loseWeight z v k = some v1 ∧ f_Model_lose z u sp sn = some u1 ∧ RS v1 u1 k sn L ∧ IS u1 sn L G M ∧ FC k v v1 ∧ FM sn u u1 := by
  have hL : L ≤ 10 := hP.1.2.2.2.1
  have hS : S ≤ 4 := hP.1.1
  refine rp_two (f := b_Stand_loseWeight_2 k) (g := b_Model_lose_2 sp sn) (fun i s t => s.1 = nI i ∧ t.1 = nI i ∧ RS s.2 t.2 k sn L ∧ IS t.2 sn L G M ∧ FC k v s.2 ∧ FM sn u t.2) (fun v1 u1 => RS v1 u1 k sn L ∧ IS u1 sn L G M ∧ FC k v v1 ∧ FM sn u u1) L ?_ ?_ z z 0 (0, v) (0, u) ⟨rfl, rfl, hR, hI, FC.rfl', FM.rfl'⟩ (by omega) (by omega) (by omega)
  · intro K K' s t ⟨e1, e2, hR, hI, hC, hM⟩
    have hP := hP.fr hC hM hk hn hs
    refine ⟨s.2, t.2, ?_, ?_, hR, hI, hC, hM⟩
    · unfold b_Stand_loseWeight_2
      rw [e1, hP.2.1.2.2.2.1, if_pos (by rw [le_n (by omega) (by omega)]; exact Nat.le_refl _)]
    · unfold b_Model_lose_2
      rw [e2, hP.2.2.1.2.2.2.1, if_pos (by rw [le_n (by omega) (by omega)]; exact Nat.le_refl _)]
  · intro K K' i s t hi ⟨e1, e2, hR, hI, hC, hM⟩
    have hP := hP.fr hC hM hk hn hs
    obtain ⟨i1, v1⟩ := s
    obtain ⟨i2, u1⟩ := t
    simp only at e1 e2 hR hI hC hM hP
    subst e1 e2
    obtain ⟨es, x, hx, ex⟩ := hP.2.2.2.2.2.2.1 i hi
    obtain ⟨el, y, hy, ey⟩ := hP.2.2.2.1 x hx
    obtain ⟨d, hd, ed⟩ := hI.2.2.2.2.2
    have hw := hR.2.1 i (by omega)
    have hW := hI.1.1 i hi
    refine Or.inl ⟨(nI (i + 1), up v1 (k + 2) (upd (v1 (k + 2)) i (v1 (k + 2) i - v1 (k + 2) i * v1 63 x * v1 k 2 / 1000))), (nI (i + 1), up u1 (sn + 1) (upd (u1 (sn + 1)) i (u1 (sn + 1) i - u1 (sn + 1) i * u1 (sp + 6) x * u1 sn 1 / 1000))), ?_, ?_, rfl, rfl, hR.w (eqN_upd hR.2.1 i (by rw [hw, el, hR.1.2.1])), hI.w (hI.1.set hi ?_), hC.tr (FC.up (by omega) (by omega)), hM.tr (FM.up (by omega) (by omega) (by omega))⟩
    · unfold b_Stand_loseWeight_2
      show (if v1 61 3 ≤ nI i then _ else bnd (row_g 10 (v1 (k + 2)) (nI i)) fun q18 => bnd (row_g 10 (v1 73) (nI i)) fun q37 => bnd (row_g 4 (v1 63) q37) fun q40 => bnd (up v1 (k + 2) (row_s 10 (v1 (k + 2)) (nI i) (q18 - q18 * q40 * v1 k 2 / 1000))) fun q63 => K (nI i + 1, q63)) = _
      rw [hP.2.1.2.2.2.1, if_neg (by rw [le_n (by omega) (by omega)]; omega), bd, rg (by omega) (by omega), bd, rg (by omega) (by omega), es, ex, bd, rg (by omega) (by omega), bd, rs (by omega) (by omega), ni_s]
    · unfold b_Model_lose_2 f_Model_lossOf
      show (if u1 sp 15 ≤ nI i then _ else if nI i < 0 ∨ 10 ≤ (nI i).toNatClampNeg then none else (if nI i < 0 ∨ 10 ≤ (nI i).toNatClampNeg then none else if nI i < 0 ∨ 10 ≤ (nI i).toNatClampNeg then none else if u1 (sp + 14) (nI i).toNatClampNeg < 0 ∨ 4 ≤ (u1 (sp + 14) (nI i).toNatClampNeg).toNatClampNeg then none else some (u1 (sn + 1) (nI i).toNatClampNeg * u1 (sp + 6) (u1 (sp + 14) (nI i).toNatClampNeg).toNatClampNeg * u1 sn 1 / 1000)).bind fun q23 => if nI i < 0 ∨ 10 ≤ (nI i).toNatClampNeg then none else bnd (pu u1 (sn + 1) (nI i).toNatClampNeg (u1 (sn + 1) (nI i).toNatClampNeg - q23)) fun v27 => K' (nI i + 1, v27)) = _
      rw [hP.2.2.1.2.2.2.1, if_neg (by rw [le_n (by omega) (by omega)]; omega)]
      simp (disch := omega) only [gn, ni_c, if_false, ex, ob, bd, ni_s]
      rfl
    · rw [ey, ed]
      exact lose_w hW hy hd
end
