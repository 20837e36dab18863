/-! THE TWO STATES SIDE BY SIDE: the class's stand at k, the reference's state at sn; what is read off them -/
/-- alike: v holds the class's side, u the reference's; L lots -/
def RS (v u : Va) (k sn L : Nat) : Prop :=
  (v k 1 = u sn 0 ∧ v k 2 = u sn 1 ∧ v k 3 = u sn 2 ∧ v k 4 = u sn 3 ∧ v k 5 = u sn 4) ∧
  eqN 10 (v (k + 2)) (u (sn + 1)) ∧ eqN L (v (k + 4)) (u (sn + 2)) ∧ eqN L (v (k + 6)) (u (sn + 3)) ∧
  (∀ i, i < L → v (k + 8) i = if u (sn + 3) i = -1 then 0 else u (sn + 4) i) ∧
  (∀ i, i < L → u (sn + 3) i ≠ -1 → v (k + 10) i = u (sn + 5) i) ∧
  eqN 6 (v (k + 12)) (u (sn + 6)) ∧ eqN 36 (v (k + 15)) (u (sn + 7)) ∧ eqN 4 (v (k + 19)) (u (sn + 8)) ∧ eqN 24 (v (k + 21)) (u (sn + 9))
/-- the reference's state is one of a quay: L lots, G guilds, M merchants -/
def IW (f : Nat → Int32) (L : Nat) : Prop := (∀ i, i < L → 0 ≤ (f i).toInt ∧ (f i).toInt ≤ 9000) ∧ ∀ i, i < 10 → L ≤ i → f i = 0
def IQ (f : Nat → Int32) (L M : Nat) : Prop := ∀ i, i < L → ∃ m, m < M ∧ f i = nI m
def IG (f g : Nat → Int32) (L G : Nat) : Prop := ∀ i, i < L → f i = -1 ∨ ((∃ m, m < G ∧ f i = nI m) ∧ 0 ≤ (g i).toInt ∧ (g i).toInt ≤ 9000)
def IC (f : Nat → Int32) : Prop := (∀ i, i < 6 → 0 ≤ (f i).toInt) ∧ isum f 6 ≤ 59994
def ID (f : Nat → Int32) (M : Nat) : Prop := ∀ a b, a < 6 → b < 6 → 0 ≤ (f (6 * a + b)).toInt ∧ (f (6 * a + b)).toInt ≤ 99999 ∧ ((a = b ∨ M ≤ a ∨ M ≤ b) → f (6 * a + b) = 0)
def IS (u : Va) (sn L G M : Nat) : Prop := IW (u (sn + 1)) L ∧ IQ (u (sn + 2)) L M ∧ IG (u (sn + 3)) (u (sn + 4)) L G ∧ IC (u (sn + 6)) ∧ ID (u (sn + 7)) M ∧ ∃ d, d < 10 ∧ u sn 1 = nI d
/-- an order's sort and places -/
def PO (s a b : Int32) (G M L : Nat) : Prop :=
  (s = 0 ∧ (∃ i, i < L ∧ a = nI i) ∧ ∃ j, j < G ∧ b = nI j) ∨ (s = 1 ∧ (∃ i, i < L ∧ a = nI i) ∧ ∃ j, j < M ∧ b = nI j) ∨ (s = 2 ∧ (∃ i, i < M ∧ a = nI i) ∧ ∃ j, j < M ∧ b = nI j)
/-- the plan, the sheet: alike, and in their bounds -/
def PL (v u : Va) (sp S G M L O : Nat) : Prop :=
  (S ≤ 4 ∧ G ≤ 4 ∧ M ≤ 6 ∧ L ≤ 10 ∧ O ≤ 24) ∧
  (v 61 0 = nI S ∧ v 61 1 = nI G ∧ v 61 2 = nI M ∧ v 61 3 = nI L ∧ v 61 4 = nI O) ∧
  (u sp 4 = nI S ∧ u sp 7 = nI G ∧ u sp 11 = nI M ∧ u sp 15 = nI L ∧ u sp 20 = nI O) ∧
  (∀ i, i < S → v 63 i = u (sp + 6) i ∧ ∃ x, x < 10 ∧ u (sp + 6) i = nI x) ∧
  (∀ i, i < G → v 65 i = u (sp + 8) i ∧ v 67 i = u (sp + 9) i ∧ (∃ x, x < 100 ∧ u (sp + 8) i = nI x) ∧ ∃ x, x < 21 ∧ u (sp + 9) i = nI x) ∧
  (∀ i, i < M → v 71 i = u (sp + 12) i ∧ 0 ≤ (u (sp + 12) i).toInt ∧ (u (sp + 12) i).toInt ≤ 9999) ∧
  (∀ i, i < L → v 73 i = u (sp + 14) i ∧ ∃ x, x < S ∧ u (sp + 14) i = nI x) ∧
  (∀ o, o < O → v 79 o = u (sp + 17) o ∧ v 81 o = u (sp + 18) o ∧ v 83 o = u (sp + 19) o ∧ PO (u (sp + 17) o) (u (sp + 18) o) (u (sp + 19) o) G M L)
theorem RS.cong {v u v' u' : Va} {k sn L : Nat} (h : RS v u k sn L) (hv : ∀ p, k ≤ p → p < k + 22 → v' p = v p) (hu : ∀ p, sn ≤ p → p < sn + 10 → u' p = u p) : RS v' u' k sn L := by
  unfold RS at h ⊢
  rw [hv k (by omega) (by omega), hv (k + 2) (by omega) (by omega), hv (k + 4) (by omega) (by omega), hv (k + 6) (by omega) (by omega), hv (k + 8) (by omega) (by omega), hv (k + 10) (by omega) (by omega), hv (k + 12) (by omega) (by omega), hv (k + 15) (by omega) (by omega), hv (k + 19) (by omega) (by omega), hv (k + 21) (by omega) (by omega),
    hu sn (by omega) (by omega), hu (sn + 1) (by omega) (by omega), hu (sn + 2) (by omega) (by omega), hu (sn + 3) (by omega) (by omega), hu (sn + 4) (by omega) (by omega), hu (sn + 5) (by omega) (by omega), hu (sn + 6) (by omega) (by omega), hu (sn + 7) (by omega) (by omega), hu (sn + 8) (by omega) (by omega), hu (sn + 9) (by omega) (by omega)]
  exact h
theorem IS.cong {u u' : Va} {sn L G M : Nat} (h : IS u sn L G M) (hu : ∀ p, sn ≤ p → p < sn + 10 → u' p = u p) : IS u' sn L G M := by
  unfold IS at h ⊢
  rw [hu sn (by omega) (by omega), hu (sn + 1) (by omega) (by omega), hu (sn + 2) (by omega) (by omega), hu (sn + 3) (by omega) (by omega), hu (sn + 4) (by omega) (by omega), hu (sn + 6) (by omega) (by omega), hu (sn + 7) (by omega) (by omega)]
  exact h
theorem PL.cong {v u v' u' : Va} {sp S G M L O : Nat} (h : PL v u sp S G M L O) (hv : ∀ p, 61 ≤ p → p < 97 → v' p = v p) (hu : ∀ p, sp ≤ p → p < sp + 22 → u' p = u p) : PL v' u' sp S G M L O := by
  unfold PL at h ⊢
  rw [hv 61 (by omega) (by omega), hv 63 (by omega) (by omega), hv 65 (by omega) (by omega), hv 67 (by omega) (by omega), hv 71 (by omega) (by omega), hv 73 (by omega) (by omega), hv 79 (by omega) (by omega), hv 81 (by omega) (by omega), hv 83 (by omega) (by omega),
    hu sp (by omega) (by omega), hu (sp + 6) (by omega) (by omega), hu (sp + 8) (by omega) (by omega), hu (sp + 9) (by omega) (by omega), hu (sp + 12) (by omega) (by omega), hu (sp + 14) (by omega) (by omega), hu (sp + 17) (by omega) (by omega), hu (sp + 18) (by omega) (by omega), hu (sp + 19) (by omega) (by omega)]
  exact h
/-- what a stand's own calls leave alone -/
def FC (k : Nat) (v v1 : Va) : Prop := ∀ p, p < k ∨ k + 26 ≤ p → v1 p = v p
def FM (sn : Nat) (u u1 : Va) : Prop := (∀ p, p ≠ 149 → p < sn ∨ sn + 10 ≤ p → u1 p = u p) ∧ ∀ j, j ≠ 10 → j ≠ 11 → u1 149 j = u 149 j
theorem FC.rfl' {k : Nat} {v : Va} : FC k v v := fun _ _ => rfl
theorem FM.rfl' {sn : Nat} {u : Va} : FM sn u u := ⟨fun _ _ _ => rfl, fun _ _ _ => rfl⟩
theorem FC.tr {k : Nat} {v v1 v2 : Va} (h : FC k v v1) (h2 : FC k v1 v2) : FC k v v2 := fun p hp => (h2 p hp).trans (h p hp)
theorem FM.tr {sn : Nat} {u u1 u2 : Va} (h : FM sn u u1) (h2 : FM sn u1 u2) : FM sn u u2 := ⟨fun p a b => (h2.1 p a b).trans (h.1 p a b), fun j a b => (h2.2 j a b).trans (h.2 j a b)⟩
theorem FC.up {k q : Nat} {v : Va} {f : Nat → Int32} (h1 : k ≤ q) (h2 : q < k + 26) : FC k v (up v q f) := fun p hp => up_ne (by omega)
theorem FM.up {sn q : Nat} {u : Va} {f : Nat → Int32} (h0 : 150 ≤ sn) (h1 : sn ≤ q) (h2 : q < sn + 10) : FM sn u (up u q f) := ⟨fun p a hp => up_ne (by omega), fun j _ _ => by rw [up_ne (by omega)]⟩
/-! debts -/
theorem deb_c {v : Va} {k a z : Nat} (ha : a < 6) (hz : 6 < z) : f_Debts_sumOf z v k (nI a) = some (row_t (fun b => v (k + 2) (6 * a + b)) 6) :=
  rp_go (f := b_Debts_sumOf_4 v k (nI a)) (fun i => (row_t (fun b => v (k + 2) (6 * a + b)) i, nI i)) 6 (fun K => rfl) (fun K i hi => by
    unfold b_Debts_sumOf_4
    show (if (6 : Int32) ≤ nI i then _ else bnd (row_g 36 (v (k + 2)) (nI a * 6 + nI i)) fun q => K (row_t (fun b => v (k + 2) (6 * a + b)) i + q, nI i + 1)) = _
    rw [show (6 : Int32) = nI 6 from rfl, if_neg (by rw [le_n (by omega) (by omega)]; omega), show nI a * nI 6 + nI i = nI (6 * a + i) from six_l a i, bd, rg (by omega) (by omega), ni_s]
    rfl) hz
theorem owd_c {v : Va} {k a z : Nat} (ha : a < 6) (hz : 6 < z) : f_Debts_sumOwedTo z v k (nI a) = some (row_t (fun b => v (k + 2) (6 * b + a)) 6) :=
  rp_go (f := b_Debts_sumOwedTo_4 v k (nI a)) (fun i => (row_t (fun b => v (k + 2) (6 * b + a)) i, nI i)) 6 (fun K => rfl) (fun K i hi => by
    unfold b_Debts_sumOwedTo_4
    show (if (6 : Int32) ≤ nI i then _ else bnd (row_g 36 (v (k + 2)) (nI i * 6 + nI a)) fun q => K (row_t (fun b => v (k + 2) (6 * b + a)) i + q, nI i + 1)) = _
    rw [show (6 : Int32) = nI 6 from rfl, if_neg (by rw [le_n (by omega) (by omega)]; omega), show nI i * nI 6 + nI a = nI (6 * i + a) from six_l i a, bd, rg (by omega) (by omega), ni_s]
    rfl) hz
theorem owes_m {u : Va} {sn a b : Nat} (ha : a < 6) (hb : b < 6) : f_State_owes u sn (nI a) (nI b) = some (u (sn + 7) (6 * a + b)) := by
  unfold f_State_owes
  rw [six_r, if_neg (gd2 (by omega) (by omega)), ni_c (by omega)]
theorem bet_c {v : Va} {k a b : Nat} (ha : a < 6) (hb : b < 6) : f_Debts_between v k (nI a) (nI b) = some (v (k + 2) (6 * a + b)) := by
  unfold f_Debts_between
  rw [six_l, bd, rg (by omega) (by omega)]
theorem deb_m {u : Va} {sn a z : Nat} (ha : a < 6) (hz : 6 < z) : f_State_debts z u sn (nI a) = some (row_t (fun b => u (sn + 7) (6 * a + b)) 6) :=
  rp_go (f := b_State_debts_4 u sn (nI a)) (fun i => (row_t (fun b => u (sn + 7) (6 * a + b)) i, nI i)) 6 (fun K => rfl) (fun K i hi => by
    unfold b_State_debts_4
    show (if (6 : Int32) ≤ nI i then _ else (f_State_owes u sn (nI a) (nI i)).bind fun q => K (row_t (fun b => u (sn + 7) (6 * a + b)) i + q, nI i + 1)) = _
    rw [show (6 : Int32) = nI 6 from rfl, if_neg (by rw [le_n (by omega) (by omega)]; omega), owes_m ha hi, ob, ni_s]
    rfl) hz
theorem owd_m {u : Va} {sn a z : Nat} (ha : a < 6) (hz : 6 < z) : f_State_owed z u sn (nI a) = some (row_t (fun b => u (sn + 7) (6 * b + a)) 6) :=
  rp_go (f := b_State_owed_4 u sn (nI a)) (fun i => (row_t (fun b => u (sn + 7) (6 * b + a)) i, nI i)) 6 (fun K => rfl) (fun K i hi => by
    unfold b_State_owed_4
    show (if (6 : Int32) ≤ nI i then _ else (f_State_owes u sn (nI i) (nI a)).bind fun q => K (row_t (fun b => u (sn + 7) (6 * b + a)) i + q, nI i + 1)) = _
    rw [show (6 : Int32) = nI 6 from rfl, if_neg (by rw [le_n (by omega) (by omega)]; omega), owes_m hi ha, ob, ni_s]
    rfl) hz
section
variable {v u : Va} {k sn sp L G M S O z : Nat}
theorem RS.deb (h : RS v u k sn L) {a : Nat} (ha : a < 6) : row_t (fun b => v (k + 15) (6 * a + b)) 6 = row_t (fun b => u (sn + 7) (6 * a + b)) 6 :=
  row_t_eq 6 fun i hi => h.2.2.2.2.2.2.2.1 _ (by omega)
theorem RS.owd (h : RS v u k sn L) {a : Nat} (ha : a < 6) : row_t (fun b => v (k + 15) (6 * b + a)) 6 = row_t (fun b => u (sn + 7) (6 * b + a)) 6 :=
  row_t_eq 6 fun i hi => h.2.2.2.2.2.2.2.1 _ (by omega)
theorem RS.sumOf (h : RS v u k sn L) {a : Nat} (ha : a < 6) (hz : 6 < z) : f_Debts_sumOf z v (k + 13) (nI a) = some (row_t (fun b => u (sn + 7) (6 * a + b)) 6) := by
  rw [deb_c ha hz, show k + 13 + 2 = k + 15 from rfl, h.deb ha]
theorem RS.sumTo (h : RS v u k sn L) {a : Nat} (ha : a < 6) (hz : 6 < z) : f_Debts_sumOwedTo z v (k + 13) (nI a) = some (row_t (fun b => u (sn + 7) (6 * b + a)) 6) := by
  rw [owd_c ha hz, show k + 13 + 2 = k + 15 from rfl, h.owd ha]
theorem RS.bet (h : RS v u k sn L) {a b : Nat} (ha : a < 6) (hb : b < 6) : f_Debts_between v (k + 13) (nI a) (nI b) = some (u (sn + 7) (6 * a + b)) := by
  rw [bet_c ha hb, show k + 13 + 2 = k + 15 from rfl, h.2.2.2.2.2.2.2.1 _ (by omega)]
/-! chops -/
theorem RS.age (h : RS v u k sn L) (hI : IG (u (sn + 3)) (u (sn + 4)) L G) (hL : L ≤ 10) (hG : G ≤ 4) {i : Nat} (hi : i < L) :
    ∃ x, f_Stand_ageOfChop v k (nI i) = some x ∧ f_State_age u sn (nI i) = some x := by
  unfold f_Stand_ageOfChop f_State_age
  rw [if_neg (gd2 (by omega) (by omega)), if_neg (gd2 (by omega) (by omega)), ni_c (by omega), bd, rg (by omega) (by omega), bd, rg (by omega) (by omega), h.2.2.2.1 i hi, h.1.1]
  rcases hI i hi with e | ⟨⟨g, hg, e⟩, -⟩
  · rw [e, if_pos rfl, if_neg (by decide)]
    exact ⟨0, rfl, rfl⟩
  · have hne : u (sn + 3) i ≠ -1 := by rw [e]; intro q; rw [eq_m1 (by omega)] at q; exact q
    rw [h.2.2.2.2.2.1 i hi hne, if_neg hne, e, if_pos (by rw [n_ge0 (by omega)]; trivial)]
    exact ⟨_, rfl, rfl⟩
theorem RS.fresh (h : RS v u k sn L) (hI : IG (u (sn + 3)) (u (sn + 4)) L G) (hL : L ≤ 10) (hG : G ≤ 4) {i : Nat} (hi : i < L) :
    ∃ x, f_Stand_canBeSold v k (nI i) = some x ∧ f_State_isFresh u sn (nI i) = some x ∧ (x = true → u (sn + 3) i ≠ -1) := by
  unfold f_Stand_canBeSold f_State_isFresh
  rw [if_neg (gd2 (by omega) (by omega)), if_neg (gd2 (by omega) (by omega)), ni_c (by omega), bd, rg (by omega) (by omega), bd, rg (by omega) (by omega), h.2.2.2.1 i hi, h.1.1]
  rcases hI i hi with e | ⟨⟨g, hg, e⟩, -⟩
  · rw [e, if_pos rfl, if_pos (by decide)]
    exact ⟨false, rfl, rfl, fun q => by cases q⟩
  · have hne : u (sn + 3) i ≠ -1 := by rw [e]; intro q; rw [eq_m1 (by omega)] at q; exact q
    rw [h.2.2.2.2.2.1 i hi hne, if_neg hne, if_neg (by rw [e]; exact ni_0 (by omega))]
    by_cases hc : 5 < u sn 0 - u (sn + 5) i
    · rw [if_pos hc]
      exact ⟨false, rfl, rfl, fun q => by cases q⟩
    · rw [if_neg hc]
      exact ⟨true, rfl, rfl, fun _ => hne⟩
/-! weights go down -/
theorem lose_w {w : Int32} {x d : Nat} (hw : 0 ≤ w.toInt ∧ w.toInt ≤ 9000) (hx : x < 10) (hd : d < 10) : 0 ≤ (w - w * nI x * nI d / 1000).toInt ∧ (w - w * nI x * nI d / 1000).toInt ≤ 9000 := by
  have h1 : (0 : Int) ≤ w.toInt * x := Int.mul_nonneg hw.1 (by omega)
  have h2 : w.toInt * x ≤ w.toInt * 9 := Int.mul_le_mul_of_nonneg_left (by omega) hw.1
  have e1 : (w * nI x).toInt = w.toInt * x := by rw [t_mul, ni_t (by omega)] <;> rw [ni_t (by omega)] <;> omega
  have h3 : (0 : Int) ≤ w.toInt * x * d := Int.mul_nonneg h1 (by omega)
  have h4 : w.toInt * x * d ≤ w.toInt * x * 9 := Int.mul_le_mul_of_nonneg_left (by omega) h1
  have e2 : (w * nI x * nI d).toInt = w.toInt * x * d := by rw [t_mul, e1, ni_t (by omega)] <;> rw [e1, ni_t (by omega)] <;> omega
  have e3 : (w * nI x * nI d / 1000).toInt = w.toInt * x * d / 1000 := by rw [t_div (n := 1000) rfl (by omega) (by rw [e2]; omega), e2]
  have e4 : (w - w * nI x * nI d / 1000).toInt = w.toInt - w.toInt * x * d / 1000 := by rw [t_sub, e3] <;> rw [e3] <;> omega
  rw [e4]; omega
end
