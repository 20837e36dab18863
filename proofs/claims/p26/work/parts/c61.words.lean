/-! AN ORDER'S OWN WORDS: its steps; what Sim reckons of them -/
section
theorem lc_0 : (0 : Int32).toNatClampNeg = 0 := by decide
theorem ln_0 : ((0 : Int32) < 0) = False := by decide
theorem lc_1 : (1 : Int32).toNatClampNeg = 1 := by decide
theorem ln_1 : ((1 : Int32) < 0) = False := by decide
theorem lc_2 : (2 : Int32).toNatClampNeg = 2 := by decide
theorem ln_2 : ((2 : Int32) < 0) = False := by decide
theorem lc_3 : (3 : Int32).toNatClampNeg = 3 := by decide
theorem ln_3 : ((3 : Int32) < 0) = False := by decide
theorem lc_4 : (4 : Int32).toNatClampNeg = 4 := by decide
theorem ln_4 : ((4 : Int32) < 0) = False := by decide
theorem lc_5 : (5 : Int32).toNatClampNeg = 5 := by decide
theorem ln_5 : ((5 : Int32) < 0) = False := by decide
theorem lc_6 : (6 : Int32).toNatClampNeg = 6 := by decide
theorem ln_6 : ((6 : Int32) < 0) = False := by decide
theorem lc_7 : (7 : Int32).toNatClampNeg = 7 := by decide
theorem ln_7 : ((7 : Int32) < 0) = False := by decide
theorem lc_8 : (8 : Int32).toNatClampNeg = 8 := by decide
theorem ln_8 : ((8 : Int32) < 0) = False := by decide
theorem lc_9 : (9 : Int32).toNatClampNeg = 9 := by decide
theorem ln_9 : ((9 : Int32) < 0) = False := by decide
theorem lc_10 : (10 : Int32).toNatClampNeg = 10 := by decide
theorem ln_10 : ((10 : Int32) < 0) = False := by decide
theorem lc_11 : (11 : Int32).toNatClampNeg = 11 := by decide
theorem ln_11 : ((11 : Int32) < 0) = False := by decide
/-- an order's words, as the model keeps them -/
def rO (u : Va) (o : Nat) : Nat → Int32 := fun f => u (200 + f) o
def stS (r : Nat → Int32) : List Ste :=
  if r 3 = 0 then [(48, r 4, 0)]
  else if r 3 = 1 then [(6, r 7, 0), (48, 2, 0), (41, 0, 0), (48, r 4, 0), (38, 0, 0)]
  else if r 3 = 2 then [(21, r 9, 0), (48, 100, 0), (41, 0, 0), (48, r 4, 0), (39, 0, 0)]
  else if r 3 = 3 then [(25, r 7, r 8), (48, r 4, 0), (30, 0, 0), (48, 2, 0), (40, 0, 0)]
  else if r 3 = 4 then [(22, r 9, 0), (48, r 4, 0), (31, 0, 0), (19, 0, 0), (39, 0, 0)]
  else if r 3 = 5 then [(48, r 4, 0), (51, 0, 0), (24, r 7, 0), (38, 0, 0)]
  else if r 3 = 6 then [(23, r 9, 0), (48, r 4, 0), (40, 0, 0)]
  else [(48, 999999, 0), (48, 999999, 0), (40, 0, 0)]
def stT (r : Nat → Int32) : List Ste :=
  if r 5 = -1 then []
  else if r 5 = 0 then [(19, 0, 0), (48, r 6, 0), (48, 4, 0), (41, 0, 0), (43, 0, 0)]
  else if r 5 = 1 then [(26, r 7, r 9)]
  else if r 5 = 2 then [(26, r 7, r 9), (27, 0, 0), (6, r 8, 0), (48, r 6, 0), (43, 0, 0), (29, 0, 0)]
  else if r 5 = 3 then [(21, r 9, 0), (48, r 6, 0), (48, 10, 0), (40, 0, 0), (43, 0, 0), (20, 0, 0), (48, r 6, 0), (48, 3, 0), (41, 0, 0), (42, 0, 0), (28, 0, 0), (23, r 10, 0), (48, r 6, 0), (48, 9, 0), (41, 0, 0), (45, 0, 0), (29, 0, 0)]
  else if r 5 = 4 then [(24, r 7, 0), (48, r 6, 0), (45, 0, 0)]
  else if r 5 = 5 then [(19, 0, 0), (48, 2, 0), (41, 0, 0), (48, 2, 0), (40, 0, 0), (19, 0, 0), (44, 0, 0)]
  else [(22, r 9, 0), (48, r 6, 0), (48, 9, 0), (40, 0, 0), (43, 0, 0), (27, 0, 0)]
/-- the words are places -/
def OB (u : Va) (M L o : Nat) : Prop := (∃ a, a < M ∧ u 207 o = nI a) ∧ (∃ a, a < M ∧ u 208 o = nI a) ∧ (∃ a, a < L ∧ u 209 o = nI a) ∧ (∃ a, a < L ∧ u 210 o = nI a) ∧ (∃ f, f < 8 ∧ u 203 o = nI f) ∧ (u 205 o = -1 ∨ ∃ f, f < 7 ∧ u 205 o = nI f)
theorem isC_l {a : Int32} : isC a = decide (a = 42 ∨ a = 43 ∨ a = 44 ∨ a = 45 ∨ a = 46) := by unfold isC; simp
theorem isJ_l {a : Int32} : isJ a = decide (a = 38 ∨ a = 39 ∨ a = 40 ∨ a = 41 ∨ a = 30 ∨ a = 31) := by unfold isJ; simp
variable {x u : Va} {ks S G M L O o z i a : Nat} {pA : Nat → Nat} {pB : Nat → Nat → Nat}
variable {val : Int32 → Int32 → Int32 → Int32} {st : List Int32} {p q y w : Int32}
theorem rs_6 : rstep val (6, p, q) st = val 6 p q :: st := by unfold rstep; rw [isJ_l, isC_l]; rfl
theorem rs_19 : rstep val (19, p, q) st = val 19 p q :: st := by unfold rstep; rw [isJ_l, isC_l]; rfl
theorem rs_20 : rstep val (20, p, q) st = val 20 p q :: st := by unfold rstep; rw [isJ_l, isC_l]; rfl
theorem rs_21 : rstep val (21, p, q) st = val 21 p q :: st := by unfold rstep; rw [isJ_l, isC_l]; rfl
theorem rs_22 : rstep val (22, p, q) st = val 22 p q :: st := by unfold rstep; rw [isJ_l, isC_l]; rfl
theorem rs_23 : rstep val (23, p, q) st = val 23 p q :: st := by unfold rstep; rw [isJ_l, isC_l]; rfl
theorem rs_24 : rstep val (24, p, q) st = val 24 p q :: st := by unfold rstep; rw [isJ_l, isC_l]; rfl
theorem rs_25 : rstep val (25, p, q) st = val 25 p q :: st := by unfold rstep; rw [isJ_l, isC_l]; rfl
theorem rs_26 : rstep val (26, p, q) st = val 26 p q :: st := by unfold rstep; rw [isJ_l, isC_l]; rfl
theorem rs_48 : rstep val (48, p, q) st = val 48 p q :: st := by unfold rstep; rw [isJ_l, isC_l]; rfl
theorem rs_38 : rstep val (38, p, q) (w :: y :: st) = (y + w) :: st := by unfold rstep; rw [isJ_l, isC_l]; rfl
theorem rs_39 : rstep val (39, p, q) (w :: y :: st) = (y - w) :: st := by unfold rstep; rw [isJ_l, isC_l]; rfl
theorem rs_40 : rstep val (40, p, q) (w :: y :: st) = (y * w) :: st := by unfold rstep; rw [isJ_l, isC_l]; rfl
theorem rs_41 : rstep val (41, p, q) (w :: y :: st) = ((if w = 0 then 0 else y / w)) :: st := by unfold rstep; rw [isJ_l, isC_l]; rfl
theorem rs_30 : rstep val (30, p, q) (w :: y :: st) = (q_min y w) :: st := by unfold rstep; rw [isJ_l, isC_l]; rfl
theorem rs_31 : rstep val (31, p, q) (w :: y :: st) = (q_max y w) :: st := by unfold rstep; rw [isJ_l, isC_l]; rfl
theorem rs_42 : rstep val (42, p, q) (w :: y :: st) = q_b (decide (y < w)) :: st := by unfold rstep; rw [isJ_l, isC_l]; rfl
theorem rs_43 : rstep val (43, p, q) (w :: y :: st) = q_b (decide (w < y)) :: st := by unfold rstep; rw [isJ_l, isC_l]; rfl
theorem rs_44 : rstep val (44, p, q) (w :: y :: st) = q_b (decide (y = w)) :: st := by unfold rstep; rw [isJ_l, isC_l]; rfl
theorem rs_45 : rstep val (45, p, q) (w :: y :: st) = q_b (decide (y ≤ w)) :: st := by unfold rstep; rw [isJ_l, isC_l]; rfl
theorem rs_46 : rstep val (46, p, q) (w :: y :: st) = q_b (decide (w ≤ y)) :: st := by unfold rstep; rw [isJ_l, isC_l]; rfl
theorem rs_28 : rstep val (28, p, q) (w :: y :: st) = (y &&& w) :: st := by unfold rstep; rw [isJ_l, isC_l]; rfl
theorem rs_29 : rstep val (29, p, q) (w :: y :: st) = (y ||| w) :: st := by unfold rstep; rw [isJ_l, isC_l]; rfl
theorem rs_51 : rstep val (51, p, q) (w :: st) = (- w) :: st := by unfold rstep; rfl
theorem rs_27 : rstep val (27, p, q) (w :: st) = (1 - w) :: st := by unfold rstep; rfl
theorem mv_6 {one other : Int32} : mval u 173 6 one other = u 179 one.toNatClampNeg := by unfold mval; rfl
theorem mv_19 {one other : Int32} : mval u 173 19 one other = u 173 0 := by unfold mval; rfl
theorem mv_20 {one other : Int32} : mval u 173 20 one other = u 173 1 := by unfold mval; rfl
theorem mv_21 {one other : Int32} : mval u 173 21 one other = u 174 one.toNatClampNeg := by unfold mval; rfl
theorem mv_22 {one other : Int32} : mval u 173 22 one other = (if u 176 one.toNatClampNeg = -1 then 0 else u 177 one.toNatClampNeg) := by unfold mval; rfl
theorem mv_23 {one other : Int32} : mval u 173 23 one other = (if u 176 one.toNatClampNeg = -1 then 0 else u 173 0 - u 178 one.toNatClampNeg) := by unfold mval; rfl
theorem mv_24 {one other : Int32} : mval u 173 24 one other = row_t (fun b => u 180 (6 * one.toNatClampNeg + b)) 6 := by unfold mval; rfl
theorem mv_25 {one other : Int32} : mval u 173 25 one other = u 180 (6 * one.toNatClampNeg + other.toNatClampNeg) := by unfold mval; rfl
theorem mv_26 {one other : Int32} : mval u 173 26 one other = (if u 175 other.toNatClampNeg = one then 1 else 0) := by unfold mval; rfl
theorem mv_48 {one other : Int32} : mval u 173 48 one other = one := by unfold mval; rfl
theorem ru_c {s : Ste} {c : List Ste} : run val (s :: c) st = run val c (rstep val s st) := rfl
theorem ru_0 : run val [] st = st := rfl
theorem q_bt {b : Bool} : q_b b = if b = true then 1 else 0 := by cases b <;> rfl
/-- debts of one, age of a lot -/
theorem sim_debts (hS : SR x u ks pA pB S G M L O) (hM : M ≤ 6) (hD : ID (u 180) M) (hz : 4000 < z) (ha : a < M) : f_Sim_debts z x ks pA pB (pn_ S G M L O) (nI a) = some (row_t (fun b => u 180 (6 * a + b)) 6) := by
  have e0 : row_t (fun b => u 180 (6 * a + b)) 6 = row_t (fun b => u 180 (6 * a + b)) M := row_t_0 6 hM (fun i h1 h2 => (hD a i (by omega) h2).2.2 (Or.inr (Or.inr h1)))
  unfold f_Sim_debts
  rw [if_neg (by show ¬ (nI a < 0 ∨ M ≤ (nI a).toNatClampNeg); rw [gd ha (by omega)]; exact id), e0]
  refine rp_go (fun i => (row_t (fun b => u 180 (6 * a + b)) i, nI i)) M (fun K => ?_) (fun K i hi => ?_) (by omega)
  · show (if nI M ≤ nI M then _ else _) = _
    rw [if_pos (Int32.le_refl _)]
  · show (if nI M ≤ nI i then _ else if nI i < 0 ∨ M ≤ (nI i).toNatClampNeg then none else K (row_t (fun b => u 180 (6 * a + b)) i + x (pB 3 (nI a).toNatClampNeg) (nI i).toNatClampNeg, nI i + 1)) = _
    rw [if_neg (by rw [le_n (by omega) (by omega)]; omega), if_neg (gd2 hi (by omega)), ni_c (by omega), ni_c (by omega), hS.owes ha hi, ni_s]
    rfl
theorem sim_owed (hS : SR x u ks pA pB S G M L O) (hM : M ≤ 6) (hD : ID (u 180) M) (hz : 4000 < z) (ha : a < M) : f_Sim_owed z x ks pA pB (pn_ S G M L O) (nI a) = some (row_t (fun b => u 180 (6 * b + a)) 6) := by
  have e0 : row_t (fun b => u 180 (6 * b + a)) 6 = row_t (fun b => u 180 (6 * b + a)) M := row_t_0 6 hM (fun i h1 h2 => (hD i a h2 (by omega)).2.2 (Or.inr (Or.inl h1)))
  unfold f_Sim_owed
  rw [e0]
  refine rp_go (fun i => (row_t (fun b => u 180 (6 * b + a)) i, nI i)) M (fun K => ?_) (fun K i hi => ?_) (by omega)
  · show (if nI M ≤ nI M then _ else _) = _
    rw [if_pos (Int32.le_refl _)]
  · show (if nI M ≤ nI i then _ else if nI i < 0 ∨ M ≤ (nI i).toNatClampNeg then none else if nI a < 0 ∨ M ≤ (nI a).toNatClampNeg then none else K (row_t (fun b => u 180 (6 * b + a)) i + x (pB 3 (nI i).toNatClampNeg) (nI a).toNatClampNeg, nI i + 1)) = _
    rw [if_neg (by rw [le_n (by omega) (by omega)]; omega), if_neg (gd2 hi (by omega)), if_neg (gd2 ha (by omega)), ni_c (by omega), ni_c (by omega), hS.owes hi ha, ni_s]
    rfl
theorem IG.lt {f g : Nat → Int32} (hG : IG f g L G) (hG4 : G ≤ 4) (hi : i < L) : ((0 : Int32) ≤ f i) = (¬ f i = -1) := by
  rcases hG i hi with e | ⟨⟨m, hm, e⟩, -⟩
  · rw [e]; decide
  · rw [e, n_ge0 (by omega), eq_m1 (by omega)]; simp
theorem sim_age (hS : SR x u ks pA pB S G M L O) (hG : IG (u 176) (u 177) L G) (hG4 : G ≤ 4) (hi : i < L) : f_Sim_age x ks pA pB (pn_ S G M L O) (pB 4 i) 6 = some (if u 176 i = -1 then 0 else u 173 0 - u 178 i) := by
  unfold f_Sim_age
  simp only [lc_0, ln_0, lc_1, ln_1, lc_2, ln_2, lc_3, ln_3, lc_4, ln_4, lc_5, ln_5, lc_6, ln_6, lc_7, ln_7, lc_8, ln_8, lc_9, ln_9, lc_10, ln_10, lc_11, ln_11, false_or, Nat.reduceLeDiff, if_false, hS.guild hi, hS.made hi, hS.day, hG.lt hG4 hi]
  by_cases h : u 176 i = -1
  · rw [if_neg (fun q => q h), if_pos h]
  · rw [if_pos h, if_neg h]
theorem sim_ch (hG : IG (u 176) (u 177) L G) (hG4 : G ≤ 4) (hi : i < L) {f : Int32 → Option Int32} : (if 0 ≤ u 176 i then f (u 177 i) else f 0) = f (if u 176 i = -1 then 0 else u 177 i) := by
  simp only [hG.lt hG4 hi]
  by_cases h : u 176 i = -1
  · rw [if_neg (fun q => q h), if_pos h]
  · rw [if_pos h, if_neg h]
theorem sim_chb (hG : IG (u 176) (u 177) L G) (hG4 : G ≤ 4) (hi : i < L) {f : Int32 → Option Bool} : (if 0 ≤ u 176 i then f (u 177 i) else f 0) = f (if u 176 i = -1 then 0 else u 177 i) := by
  simp only [hG.lt hG4 hi]
  by_cases h : u 176 i = -1
  · rw [if_neg (fun q => q h), if_pos h]
  · rw [if_pos h, if_neg h]
theorem sim_sum (hS : SR x u ks pA pB S G M L O) (hM : M ≤ 6) (hL : L ≤ 10) (hG4 : G ≤ 4) (hI : IS u 173 L G M) (hz : 4000 < z) (ho : o < O) (hB : OB u M L o) : f_Sim_sum z x ks pA pB (pn_ S G M L O) (pB 5 o) 12 = some (worth u 173 (stS (rO u o))) := by
  obtain ⟨⟨a, ha, ea⟩, ⟨b, hb, eb⟩, ⟨c, hc, ec⟩, ⟨d, hd, ed⟩, ⟨f, hf, ef⟩, -⟩ := hB
  have p2 : pn_ S G M L O 2 = M := rfl
  have p3 : pn_ S G M L O 3 = M := rfl
  have p4 : pn_ S G M L O 4 = L := rfl
  unfold f_Sim_sum
  simp (maxSteps := 2000000) (disch := omega) only [lc_0, ln_0, lc_1, ln_1, lc_2, ln_2, lc_3, ln_3, lc_4, ln_4, lc_5, ln_5, lc_6, ln_6, lc_7, ln_7, lc_8, ln_8, lc_9, ln_9, lc_10, ln_10, lc_11, ln_11, false_or, Nat.reduceLeDiff, if_false, hS.own3 ho, hS.own4 ho, hS.own7 ho, hS.own8 ho, hS.own9 ho, ea, eb, ec, p2, p3, p4, gn, ni_c, hS.coins ha, hS.weight hc, hS.owes ha hb, hS.guild hc, hS.chop hc, sim_debts hS hM hI.2.2.2.2.1 hz ha, sim_age hS hI.2.2.1 hG4 hc, hS.day, ob]
  unfold worth stS
  have r3 : rO u o 3 = u 203 o := rfl
  have r4 : rO u o 4 = u 204 o := rfl
  have r7 : rO u o 7 = nI a := ea
  have r8 : rO u o 8 = nI b := eb
  have r9 : rO u o 9 = nI c := ec
  rw [r3, r4, r7, r8, r9]
  rcases (by omega : f = 0 ∨ f = 1 ∨ f = 2 ∨ f = 3 ∨ f = 4 ∨ f = 5 ∨ f = 6 ∨ f = 7) with rfl | rfl | rfl | rfl | rfl | rfl | rfl | rfl
  · simp (disch := omega) only [ef, show (nI 0 = (0 : Int32)) = True from by decide, if_false, if_true, ru_c, ru_0, rs_6, rs_19, rs_20, rs_21, rs_22, rs_23, rs_24, rs_25, rs_26, rs_48, rs_38, rs_39, rs_40, rs_41, rs_30, rs_31, rs_42, rs_43, rs_44, rs_45, rs_46, rs_28, rs_29, rs_51, rs_27, mv_6, mv_19, mv_20, mv_21, mv_22, mv_23, mv_24, mv_25, mv_26, mv_48, ni_c, List.headD_cons]
  · simp (disch := omega) only [ef, show ((nI 1) = (0 : Int32)) = False from by decide, show (nI 1 = (1 : Int32)) = True from by decide, if_false, if_true, ru_c, ru_0, rs_6, rs_19, rs_20, rs_21, rs_22, rs_23, rs_24, rs_25, rs_26, rs_48, rs_38, rs_39, rs_40, rs_41, rs_30, rs_31, rs_42, rs_43, rs_44, rs_45, rs_46, rs_28, rs_29, rs_51, rs_27, mv_6, mv_19, mv_20, mv_21, mv_22, mv_23, mv_24, mv_25, mv_26, mv_48, ni_c, List.headD_cons]
    rw [if_neg (by decide)]
  · simp (disch := omega) only [ef, show ((nI 2) = (0 : Int32)) = False from by decide, show ((nI 2) = (1 : Int32)) = False from by decide, show (nI 2 = (2 : Int32)) = True from by decide, if_false, if_true, ru_c, ru_0, rs_6, rs_19, rs_20, rs_21, rs_22, rs_23, rs_24, rs_25, rs_26, rs_48, rs_38, rs_39, rs_40, rs_41, rs_30, rs_31, rs_42, rs_43, rs_44, rs_45, rs_46, rs_28, rs_29, rs_51, rs_27, mv_6, mv_19, mv_20, mv_21, mv_22, mv_23, mv_24, mv_25, mv_26, mv_48, ni_c, List.headD_cons]
    rw [if_neg (by decide)]
  · simp (disch := omega) only [ef, show ((nI 3) = (0 : Int32)) = False from by decide, show ((nI 3) = (1 : Int32)) = False from by decide, show ((nI 3) = (2 : Int32)) = False from by decide, show (nI 3 = (3 : Int32)) = True from by decide, if_false, if_true, ru_c, ru_0, rs_6, rs_19, rs_20, rs_21, rs_22, rs_23, rs_24, rs_25, rs_26, rs_48, rs_38, rs_39, rs_40, rs_41, rs_30, rs_31, rs_42, rs_43, rs_44, rs_45, rs_46, rs_28, rs_29, rs_51, rs_27, mv_6, mv_19, mv_20, mv_21, mv_22, mv_23, mv_24, mv_25, mv_26, mv_48, ni_c, List.headD_cons]
    rw [Int32.mul_comm]
  · simp (disch := omega) only [ef, show ((nI 4) = (0 : Int32)) = False from by decide, show ((nI 4) = (1 : Int32)) = False from by decide, show ((nI 4) = (2 : Int32)) = False from by decide, show ((nI 4) = (3 : Int32)) = False from by decide, show (nI 4 = (4 : Int32)) = True from by decide, if_false, if_true, ru_c, ru_0, rs_6, rs_19, rs_20, rs_21, rs_22, rs_23, rs_24, rs_25, rs_26, rs_48, rs_38, rs_39, rs_40, rs_41, rs_30, rs_31, rs_42, rs_43, rs_44, rs_45, rs_46, rs_28, rs_29, rs_51, rs_27, mv_6, mv_19, mv_20, mv_21, mv_22, mv_23, mv_24, mv_25, mv_26, mv_48, ni_c, List.headD_cons]
    rw [sim_ch hI.2.2.1 hG4 hc (f := fun y => j_Sim_sum_128 x ks (pB 5 o) y)]
    unfold j_Sim_sum_128
    simp only [lc_4, hS.own4 ho, hS.day]
  · simp (disch := omega) only [ef, show ((nI 5) = (0 : Int32)) = False from by decide, show ((nI 5) = (1 : Int32)) = False from by decide, show ((nI 5) = (2 : Int32)) = False from by decide, show ((nI 5) = (3 : Int32)) = False from by decide, show ((nI 5) = (4 : Int32)) = False from by decide, show (nI 5 = (5 : Int32)) = True from by decide, if_false, if_true, ru_c, ru_0, rs_6, rs_19, rs_20, rs_21, rs_22, rs_23, rs_24, rs_25, rs_26, rs_48, rs_38, rs_39, rs_40, rs_41, rs_30, rs_31, rs_42, rs_43, rs_44, rs_45, rs_46, rs_28, rs_29, rs_51, rs_27, mv_6, mv_19, mv_20, mv_21, mv_22, mv_23, mv_24, mv_25, mv_26, mv_48, ni_c, List.headD_cons]
    rw [Int32.sub_eq_add_neg, Int32.add_comm]
  · simp (disch := omega) only [ef, show ((nI 6) = (0 : Int32)) = False from by decide, show ((nI 6) = (1 : Int32)) = False from by decide, show ((nI 6) = (2 : Int32)) = False from by decide, show ((nI 6) = (3 : Int32)) = False from by decide, show ((nI 6) = (4 : Int32)) = False from by decide, show ((nI 6) = (5 : Int32)) = False from by decide, show (nI 6 = (6 : Int32)) = True from by decide, if_false, if_true, ru_c, ru_0, rs_6, rs_19, rs_20, rs_21, rs_22, rs_23, rs_24, rs_25, rs_26, rs_48, rs_38, rs_39, rs_40, rs_41, rs_30, rs_31, rs_42, rs_43, rs_44, rs_45, rs_46, rs_28, rs_29, rs_51, rs_27, mv_6, mv_19, mv_20, mv_21, mv_22, mv_23, mv_24, mv_25, mv_26, mv_48, ni_c, List.headD_cons]
  · simp (disch := omega) only [ef, show ((nI 7) = (0 : Int32)) = False from by decide, show ((nI 7) = (1 : Int32)) = False from by decide, show ((nI 7) = (2 : Int32)) = False from by decide, show ((nI 7) = (3 : Int32)) = False from by decide, show ((nI 7) = (4 : Int32)) = False from by decide, show ((nI 7) = (5 : Int32)) = False from by decide, show ((nI 7) = (6 : Int32)) = False from by decide, if_false, if_true, ru_c, ru_0, rs_6, rs_19, rs_20, rs_21, rs_22, rs_23, rs_24, rs_25, rs_26, rs_48, rs_38, rs_39, rs_40, rs_41, rs_30, rs_31, rs_42, rs_43, rs_44, rs_45, rs_46, rs_28, rs_29, rs_51, rs_27, mv_6, mv_19, mv_20, mv_21, mv_22, mv_23, mv_24, mv_25, mv_26, mv_48, ni_c, List.headD_cons]
    decide
theorem sim_holds (hS : SR x u ks pA pB S G M L O) (hM : M ≤ 6) (hL : L ≤ 10) (hG4 : G ≤ 4) (hI : IS u 173 L G M) (hz : 4000 < z) (ho : o < O) (hB : OB u M L o) : ∃ t, f_Sim_holds z x ks pA pB (pn_ S G M L O) (pB 5 o) 12 = some t ∧ (u 205 o = -1 → t = true) ∧ (u 205 o ≠ -1 → worth u 173 (stT (rO u o)) = q_b t) := by
  obtain ⟨⟨a, ha, ea⟩, ⟨b, hb, eb⟩, ⟨c, hc, ec⟩, ⟨d, hd, ed⟩, -, hw⟩ := hB
  have p2 : pn_ S G M L O 2 = M := rfl
  have p3 : pn_ S G M L O 3 = M := rfl
  have p4 : pn_ S G M L O 4 = L := rfl
  unfold f_Sim_holds j_Sim_holds_158
  simp (maxSteps := 2000000) (disch := omega) only [lc_0, ln_0, lc_1, ln_1, lc_2, ln_2, lc_3, ln_3, lc_4, ln_4, lc_5, ln_5, lc_6, ln_6, lc_7, ln_7, lc_8, ln_8, lc_9, ln_9, lc_10, ln_10, lc_11, ln_11, false_or, Nat.reduceLeDiff, if_false, hS.own5 ho, hS.own6 ho, hS.own7 ho, hS.own8 ho, hS.own9 ho, hS.own10 ho, ea, eb, ec, ed, p2, p3, p4, gn, ni_c, hS.coins hb, hS.weight hc, hS.owner hc, hS.guild hc, hS.chop hc, sim_debts hS hM hI.2.2.2.2.1 hz ha, sim_age hS hI.2.2.1 hG4 hd, hS.day, hS.damp, ob]
  rcases hw with e5 | ⟨f, hf, ef⟩
  · rw [e5, if_pos rfl]
    exact ⟨true, rfl, fun _ => rfl, fun q => absurd rfl q⟩
  have e0 : u 205 o ≠ -1 := by rw [ef]; intro q; rw [eq_m1 (by omega)] at q; exact q
  unfold worth stT
  have r5 : rO u o 5 = u 205 o := rfl
  have r6 : rO u o 6 = u 206 o := rfl
  have r7 : rO u o 7 = nI a := ea
  have r8 : rO u o 8 = nI b := eb
  have r9 : rO u o 9 = nI c := ec
  have r10 : rO u o 10 = nI d := ed
  rw [r5, r6, r7, r8, r9, r10, if_neg e0, if_neg e0]
  rcases (by omega : f = 0 ∨ f = 1 ∨ f = 2 ∨ f = 3 ∨ f = 4 ∨ f = 5 ∨ f = 6) with rfl | rfl | rfl | rfl | rfl | rfl | rfl
  · simp (disch := omega) only [ef, show (nI 0 = (0 : Int32)) = True from by decide, show ((2 : Int32) = 0) = False from by decide, show ((3 : Int32) = 0) = False from by decide, show ((4 : Int32) = 0) = False from by decide, show ((9 : Int32) = 0) = False from by decide, if_false, if_true, ru_c, ru_0, rs_6, rs_19, rs_20, rs_21, rs_22, rs_23, rs_24, rs_25, rs_26, rs_48, rs_38, rs_39, rs_40, rs_41, rs_30, rs_31, rs_42, rs_43, rs_44, rs_45, rs_46, rs_28, rs_29, rs_51, rs_27, mv_6, mv_19, mv_20, mv_21, mv_22, mv_23, mv_24, mv_25, mv_26, mv_48, ni_c, List.headD_cons]
    by_cases h : u 173 0 ≤ u 206 o / 4
    · rw [if_pos h]; exact ⟨false, rfl, fun q => absurd q (by decide), fun _ => by rw [decide_eq_false (Int32.not_lt.mpr h)]⟩
    · rw [if_neg h]; exact ⟨true, rfl, fun _ => rfl, fun _ => by rw [decide_eq_true (Int32.not_le.mp h)]⟩
  · simp (disch := omega) only [ef, show ((nI 1) = (0 : Int32)) = False from by decide, show (nI 1 = (1 : Int32)) = True from by decide, show ((2 : Int32) = 0) = False from by decide, show ((3 : Int32) = 0) = False from by decide, show ((4 : Int32) = 0) = False from by decide, show ((9 : Int32) = 0) = False from by decide, if_false, if_true, ru_c, ru_0, rs_6, rs_19, rs_20, rs_21, rs_22, rs_23, rs_24, rs_25, rs_26, rs_48, rs_38, rs_39, rs_40, rs_41, rs_30, rs_31, rs_42, rs_43, rs_44, rs_45, rs_46, rs_28, rs_29, rs_51, rs_27, mv_6, mv_19, mv_20, mv_21, mv_22, mv_23, mv_24, mv_25, mv_26, mv_48, ni_c, List.headD_cons]
    by_cases h : u 175 c = nI a
    · rw [if_pos h, if_pos h]; exact ⟨true, rfl, fun _ => rfl, fun _ => rfl⟩
    · rw [if_neg h, if_neg h]; exact ⟨false, rfl, fun q => absurd q (by decide), fun _ => rfl⟩
  · simp (disch := omega) only [ef, show ((nI 2) = (0 : Int32)) = False from by decide, show ((nI 2) = (1 : Int32)) = False from by decide, show (nI 2 = (2 : Int32)) = True from by decide, show ((2 : Int32) = 0) = False from by decide, show ((3 : Int32) = 0) = False from by decide, show ((4 : Int32) = 0) = False from by decide, show ((9 : Int32) = 0) = False from by decide, if_false, if_true, ru_c, ru_0, rs_6, rs_19, rs_20, rs_21, rs_22, rs_23, rs_24, rs_25, rs_26, rs_48, rs_38, rs_39, rs_40, rs_41, rs_30, rs_31, rs_42, rs_43, rs_44, rs_45, rs_46, rs_28, rs_29, rs_51, rs_27, mv_6, mv_19, mv_20, mv_21, mv_22, mv_23, mv_24, mv_25, mv_26, mv_48, ni_c, List.headD_cons]
    by_cases h : u 175 c = nI a
    · rw [if_pos h, if_pos h]
      by_cases h2 : u 179 b ≤ u 206 o
      · rw [if_pos h2]; exact ⟨false, rfl, fun q => absurd q (by decide), fun _ => by rw [decide_eq_false (Int32.not_lt.mpr h2)]; decide⟩
      · rw [if_neg h2]; exact ⟨true, rfl, fun _ => rfl, fun _ => by rw [decide_eq_true (Int32.not_le.mp h2)]; decide⟩
    · rw [if_neg h, if_neg h]
      refine ⟨true, rfl, fun _ => rfl, fun _ => ?_⟩
      cases decide (u 206 o < u 179 b) <;> decide
  · simp (disch := omega) only [ef, show ((nI 3) = (0 : Int32)) = False from by decide, show ((nI 3) = (1 : Int32)) = False from by decide, show ((nI 3) = (2 : Int32)) = False from by decide, show (nI 3 = (3 : Int32)) = True from by decide, show ((2 : Int32) = 0) = False from by decide, show ((3 : Int32) = 0) = False from by decide, show ((4 : Int32) = 0) = False from by decide, show ((9 : Int32) = 0) = False from by decide, if_false, if_true, ru_c, ru_0, rs_6, rs_19, rs_20, rs_21, rs_22, rs_23, rs_24, rs_25, rs_26, rs_48, rs_38, rs_39, rs_40, rs_41, rs_30, rs_31, rs_42, rs_43, rs_44, rs_45, rs_46, rs_28, rs_29, rs_51, rs_27, mv_6, mv_19, mv_20, mv_21, mv_22, mv_23, mv_24, mv_25, mv_26, mv_48, ni_c, List.headD_cons]
    generalize (if u 176 d = -1 then 0 else u 173 0 - u 178 d) = g0
    rw [Int32.mul_comm 10 (u 206 o)]
    by_cases h3 : u 206 o / 9 < g0
    · rw [if_pos h3, decide_eq_false (Int32.not_le.mpr h3)]
      by_cases h1 : u 174 c ≤ u 206 o * 10
      · rw [if_pos h1, decide_eq_false (Int32.not_lt.mpr h1)]
        refine ⟨false, rfl, fun q => absurd q (by decide), fun _ => ?_⟩
        cases decide (u 173 1 < u 206 o / 3) <;> decide
      · rw [if_neg h1, decide_eq_true (Int32.not_le.mp h1)]
        by_cases h2 : u 173 1 < u 206 o / 3
        · rw [if_pos h2, decide_eq_true h2]; exact ⟨true, rfl, fun _ => rfl, fun _ => by decide⟩
        · rw [if_neg h2, decide_eq_false h2]; exact ⟨false, rfl, fun q => absurd q (by decide), fun _ => by decide⟩
    · rw [if_neg h3, decide_eq_true (Int32.not_lt.mp h3)]
      refine ⟨true, ?_, fun _ => rfl, fun _ => ?_⟩
      · split
        · rfl
        · split <;> rfl
      · cases decide (u 173 1 < u 206 o / 3) <;> cases decide (u 206 o * 10 < u 174 c) <;> decide
  · simp (disch := omega) only [ef, show ((nI 4) = (0 : Int32)) = False from by decide, show ((nI 4) = (1 : Int32)) = False from by decide, show ((nI 4) = (2 : Int32)) = False from by decide, show ((nI 4) = (3 : Int32)) = False from by decide, show (nI 4 = (4 : Int32)) = True from by decide, show ((2 : Int32) = 0) = False from by decide, show ((3 : Int32) = 0) = False from by decide, show ((4 : Int32) = 0) = False from by decide, show ((9 : Int32) = 0) = False from by decide, if_false, if_true, ru_c, ru_0, rs_6, rs_19, rs_20, rs_21, rs_22, rs_23, rs_24, rs_25, rs_26, rs_48, rs_38, rs_39, rs_40, rs_41, rs_30, rs_31, rs_42, rs_43, rs_44, rs_45, rs_46, rs_28, rs_29, rs_51, rs_27, mv_6, mv_19, mv_20, mv_21, mv_22, mv_23, mv_24, mv_25, mv_26, mv_48, ni_c, List.headD_cons]
    by_cases h : u 206 o < row_t (fun b => u 180 (6 * a + b)) 6
    · rw [if_pos h]; exact ⟨false, rfl, fun q => absurd q (by decide), fun _ => by rw [decide_eq_false (Int32.not_le.mpr h)]⟩
    · rw [if_neg h]; exact ⟨true, rfl, fun _ => rfl, fun _ => by rw [decide_eq_true (Int32.not_lt.mp h)]⟩
  · simp (disch := omega) only [ef, show ((nI 5) = (0 : Int32)) = False from by decide, show ((nI 5) = (1 : Int32)) = False from by decide, show ((nI 5) = (2 : Int32)) = False from by decide, show ((nI 5) = (3 : Int32)) = False from by decide, show ((nI 5) = (4 : Int32)) = False from by decide, show (nI 5 = (5 : Int32)) = True from by decide, show ((2 : Int32) = 0) = False from by decide, show ((3 : Int32) = 0) = False from by decide, show ((4 : Int32) = 0) = False from by decide, show ((9 : Int32) = 0) = False from by decide, if_false, if_true, ru_c, ru_0, rs_6, rs_19, rs_20, rs_21, rs_22, rs_23, rs_24, rs_25, rs_26, rs_48, rs_38, rs_39, rs_40, rs_41, rs_30, rs_31, rs_42, rs_43, rs_44, rs_45, rs_46, rs_28, rs_29, rs_51, rs_27, mv_6, mv_19, mv_20, mv_21, mv_22, mv_23, mv_24, mv_25, mv_26, mv_48, ni_c, List.headD_cons]
    have ee : (u 173 0 - u 173 0 / 2 * 2 = 0) ↔ (u 173 0 / 2 * 2 = u 173 0) := by rw [Int32.sub_eq_iff_eq_add, Int32.zero_add]; exact eq_comm
    by_cases h : u 173 0 - u 173 0 / 2 * 2 = 0
    · rw [if_pos h]; exact ⟨true, rfl, fun _ => rfl, fun _ => by rw [decide_eq_true (ee.mp h)]⟩
    · rw [if_neg h]; exact ⟨false, rfl, fun q => absurd q (by decide), fun _ => by rw [decide_eq_false (fun q => h (ee.mpr q))]⟩
  · simp (disch := omega) only [ef, show ((nI 6) = (0 : Int32)) = False from by decide, show ((nI 6) = (1 : Int32)) = False from by decide, show ((nI 6) = (2 : Int32)) = False from by decide, show ((nI 6) = (3 : Int32)) = False from by decide, show ((nI 6) = (4 : Int32)) = False from by decide, show ((nI 6) = (5 : Int32)) = False from by decide, show ((2 : Int32) = 0) = False from by decide, show ((3 : Int32) = 0) = False from by decide, show ((4 : Int32) = 0) = False from by decide, show ((9 : Int32) = 0) = False from by decide, if_false, if_true, ru_c, ru_0, rs_6, rs_19, rs_20, rs_21, rs_22, rs_23, rs_24, rs_25, rs_26, rs_48, rs_38, rs_39, rs_40, rs_41, rs_30, rs_31, rs_42, rs_43, rs_44, rs_45, rs_46, rs_28, rs_29, rs_51, rs_27, mv_6, mv_19, mv_20, mv_21, mv_22, mv_23, mv_24, mv_25, mv_26, mv_48, ni_c, List.headD_cons]
    rw [sim_chb hI.2.2.1 hG4 hc (f := fun y => j_Sim_holds_222 x (pB 5 o) y)]
    unfold j_Sim_holds_222
    simp only [lc_6, hS.own6 ho]
    generalize (if u 176 c = -1 then 0 else u 177 c) = g0
    rw [Int32.mul_comm 9 (u 206 o)]
    by_cases h : u 206 o * 9 < g0
    · rw [if_pos h]; exact ⟨false, rfl, fun q => absurd q (by decide), fun _ => by rw [decide_eq_true h]; decide⟩
    · rw [if_neg h]; exact ⟨true, rfl, fun _ => rfl, fun _ => by rw [decide_eq_false h]; decide⟩
end
