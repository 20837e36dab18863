/-! AN ORDER IS CARRIED OUT, in Sim and in the model -/
section
theorem pu_p {v : Va} {p a q : Nat} {y : Int32} (h : q ≠ p) : pu v p a y q = v q := up_ne h
theorem pu_s {v : Va} {p a : Nat} {y : Int32} : pu v p a y p a = y := by unfold pu; rw [up_eq, upd_eq]
theorem pu_d {v : Va} {p a b : Nat} {y : Int32} (h : b ≠ a) : pu v p a y p b = v p b := by unfold pu; rw [up_eq, upd_ne h]
theorem pu_c {v : Va} {p q a b : Nat} {y w : Int32} (h : p ≠ q) : pu (pu v p a y) q b w = pu (pu v q b w) p a y := by
  funext r
  unfold pu
  by_cases h1 : r = q
  · subst h1; rw [up_eq, up_ne (Ne.symm h), up_ne (Ne.symm h), up_eq]
  · by_cases h2 : r = p
    · subst h2; rw [up_ne h1, up_eq, up_eq, up_ne h]
    · rw [up_ne h1, up_ne h2, up_ne h2, up_ne h1]
theorem cm_182 {v : Va} {p a b : Nat} {y w : Int32} (h : p ≠ 182) : pu (pu v p a y) 182 b w = pu (pu v 182 b w) p a y := pu_c h
theorem cm_173 {v : Va} {p a b : Nat} {y w : Int32} (h : p ≠ 173 ∧ p ≠ 182) : pu (pu v p a y) 173 b w = pu (pu v 173 b w) p a y := pu_c h.1
theorem gn_l {i N : Nat} (h : i < N) (hN : N ≤ 4000) : (nI i < 0 ∨ N ≤ i) = False := gn h hN
def sc_P (pB : Nat → Nat → Nat) (pN : Nat → Nat) (ka1 : Nat) (Na1 : Nat) (q2 : Int32) (v31 : Va) : Option (Bool × Va) := if (1 : Int32) < 0 ∨ Na1 ≤ (1 : Int32).toNatClampNeg then none else if (v31 ka1 (1 : Int32).toNatClampNeg) < 0 ∨ (pN 2) ≤ (v31 ka1 (1 : Int32).toNatClampNeg).toNatClampNeg then none else if (0 : Int32) < 0 ∨ 2 ≤ (0 : Int32).toNatClampNeg then none else if (0 : Int32) < 0 ∨ 2 ≤ (0 : Int32).toNatClampNeg then none else bnd (pu v31 (pB 2 (v31 ka1 (1 : Int32).toNatClampNeg).toNatClampNeg) (0 : Int32).toNatClampNeg ((v31 (pB 2 (v31 ka1 (1 : Int32).toNatClampNeg).toNatClampNeg) (0 : Int32).toNatClampNeg) - q2)) fun v52 => if (2 : Int32) < 0 ∨ Na1 ≤ (2 : Int32).toNatClampNeg then none else if (v52 ka1 (2 : Int32).toNatClampNeg) < 0 ∨ (pN 2) ≤ (v52 ka1 (2 : Int32).toNatClampNeg).toNatClampNeg then none else if (0 : Int32) < 0 ∨ 2 ≤ (0 : Int32).toNatClampNeg then none else if (0 : Int32) < 0 ∨ 2 ≤ (0 : Int32).toNatClampNeg then none else bnd (pu v52 (pB 2 (v52 ka1 (2 : Int32).toNatClampNeg).toNatClampNeg) (0 : Int32).toNatClampNeg ((v52 (pB 2 (v52 ka1 (2 : Int32).toNatClampNeg).toNatClampNeg) (0 : Int32).toNatClampNeg) + q2)) fun v66 => if (1 : Int32) < 0 ∨ Na1 ≤ (1 : Int32).toNatClampNeg then none else if (v66 ka1 (1 : Int32).toNatClampNeg) < 0 ∨ (pN 3) ≤ (v66 ka1 (1 : Int32).toNatClampNeg).toNatClampNeg then none else if (2 : Int32) < 0 ∨ Na1 ≤ (2 : Int32).toNatClampNeg then none else if (v66 ka1 (2 : Int32).toNatClampNeg) < 0 ∨ (pN 2) ≤ (v66 ka1 (2 : Int32).toNatClampNeg).toNatClampNeg then none else if (v66 ka1 (2 : Int32).toNatClampNeg) < 0 ∨ (pN 2) ≤ (v66 ka1 (2 : Int32).toNatClampNeg).toNatClampNeg then none else bnd (pu v66 (pB 3 (v66 ka1 (1 : Int32).toNatClampNeg).toNatClampNeg) (v66 ka1 (2 : Int32).toNatClampNeg).toNatClampNeg ((v66 (pB 3 (v66 ka1 (1 : Int32).toNatClampNeg).toNatClampNeg) (v66 ka1 (2 : Int32).toNatClampNeg).toNatClampNeg) - q2)) fun v82 => some (true, v82)
def sc_W (ks : Nat) (pB : Nat → Nat → Nat) (pN : Nat → Nat) (ka1 : Nat) (Na1 : Nat) (q2 : Int32) (v31 : Va) : Option (Bool × Va) := if (0 : Int32) < 0 ∨ 2 ≤ (0 : Int32).toNatClampNeg then none else if (0 : Int32) < 0 ∨ 2 ≤ (0 : Int32).toNatClampNeg then none else bnd (pu v31 (pB 2 (v31 (pB 4 (v31 ka1 (1 : Int32).toNatClampNeg).toNatClampNeg) (2 : Int32).toNatClampNeg).toNatClampNeg) (0 : Int32).toNatClampNeg ((v31 (pB 2 (v31 (pB 4 (v31 ka1 (1 : Int32).toNatClampNeg).toNatClampNeg) (2 : Int32).toNatClampNeg).toNatClampNeg) (0 : Int32).toNatClampNeg) - q2)) fun v117 => if (2 : Int32) < 0 ∨ Na1 ≤ (2 : Int32).toNatClampNeg then none else if (v117 ka1 (2 : Int32).toNatClampNeg) < 0 ∨ (pN 1) ≤ (v117 ka1 (2 : Int32).toNatClampNeg).toNatClampNeg then none else if (2 : Int32) < 0 ∨ 3 ≤ (2 : Int32).toNatClampNeg then none else if (2 : Int32) < 0 ∨ 3 ≤ (2 : Int32).toNatClampNeg then none else bnd (pu v117 (pB 1 (v117 ka1 (2 : Int32).toNatClampNeg).toNatClampNeg) (2 : Int32).toNatClampNeg ((v117 (pB 1 (v117 ka1 (2 : Int32).toNatClampNeg).toNatClampNeg) (2 : Int32).toNatClampNeg) + q2)) fun v131 => if (2 : Int32) < 0 ∨ Na1 ≤ (2 : Int32).toNatClampNeg then none else if (3 : Int32) < 0 ∨ 6 ≤ (3 : Int32).toNatClampNeg then none else bnd (pu v131 (pB 4 (v31 ka1 (1 : Int32).toNatClampNeg).toNatClampNeg) (3 : Int32).toNatClampNeg (v131 ka1 (2 : Int32).toNatClampNeg)) fun v137 => if (1 : Int32) < 0 ∨ 6 ≤ (1 : Int32).toNatClampNeg then none else if (1 : Int32) < 0 ∨ 6 ≤ (1 : Int32).toNatClampNeg then none else if (2 : Int32) < 0 ∨ Na1 ≤ (2 : Int32).toNatClampNeg then none else if (v137 ka1 (2 : Int32).toNatClampNeg) < 0 ∨ (pN 1) ≤ (v137 ka1 (2 : Int32).toNatClampNeg).toNatClampNeg then none else if (1 : Int32) < 0 ∨ 3 ≤ (1 : Int32).toNatClampNeg then none else if (4 : Int32) < 0 ∨ 6 ≤ (4 : Int32).toNatClampNeg then none else bnd (pu v137 (pB 4 (v31 ka1 (1 : Int32).toNatClampNeg).toNatClampNeg) (4 : Int32).toNatClampNeg ((v137 (pB 4 (v31 ka1 (1 : Int32).toNatClampNeg).toNatClampNeg) (1 : Int32).toNatClampNeg) - (((v137 (pB 4 (v31 ka1 (1 : Int32).toNatClampNeg).toNatClampNeg) (1 : Int32).toNatClampNeg) * (v137 (pB 1 (v137 ka1 (2 : Int32).toNatClampNeg).toNatClampNeg) (1 : Int32).toNatClampNeg)) / 100))) fun v161 => if (5 : Int32) < 0 ∨ 6 ≤ (5 : Int32).toNatClampNeg then none else bnd (pu v161 (pB 4 (v31 ka1 (1 : Int32).toNatClampNeg).toNatClampNeg) (5 : Int32).toNatClampNeg (v161 ks 0)) fun v168 => some (true, v168)
def sc_S (pB : Nat → Nat → Nat) (pN : Nat → Nat) (ka1 : Nat) (Na1 : Nat) (q2 : Int32) (v31 : Va) : Option (Bool × Va) := if (2 : Int32) < 0 ∨ Na1 ≤ (2 : Int32).toNatClampNeg then none else if (v31 ka1 (2 : Int32).toNatClampNeg) < 0 ∨ (pN 2) ≤ (v31 ka1 (2 : Int32).toNatClampNeg).toNatClampNeg then none else if (0 : Int32) < 0 ∨ 2 ≤ (0 : Int32).toNatClampNeg then none else if (v31 (pB 2 (v31 ka1 (2 : Int32).toNatClampNeg).toNatClampNeg) (0 : Int32).toNatClampNeg) ≤ q2 then (if (0 : Int32) < 0 ∨ 2 ≤ (0 : Int32).toNatClampNeg then none else j_Sim_carry_197 pB pN ka1 Na1 q2 v31 (v31 (pB 2 (v31 ka1 (2 : Int32).toNatClampNeg).toNatClampNeg) (0 : Int32).toNatClampNeg)) else (j_Sim_carry_197 pB pN ka1 Na1 q2 v31 q2)
def sc_R (ks : Nat) (pB : Nat → Nat → Nat) (pN : Nat → Nat) (ka1 : Nat) (Na1 : Nat) (q2 : Int32) (v31 : Va) : Option (Bool × Va) := if (1 : Int32) < 0 ∨ Na1 ≤ (1 : Int32).toNatClampNeg then none else if (v31 ka1 (1 : Int32).toNatClampNeg) < 0 ∨ (pN 4) ≤ (v31 ka1 (1 : Int32).toNatClampNeg).toNatClampNeg then none else if (2 : Int32) < 0 ∨ 6 ≤ (2 : Int32).toNatClampNeg then none else if (v31 (pB 4 (v31 ka1 (1 : Int32).toNatClampNeg).toNatClampNeg) (2 : Int32).toNatClampNeg) < 0 ∨ (pN 2) ≤ (v31 (pB 4 (v31 ka1 (1 : Int32).toNatClampNeg).toNatClampNeg) (2 : Int32).toNatClampNeg).toNatClampNeg then none else if (0 : Int32) < 0 ∨ Na1 ≤ (0 : Int32).toNatClampNeg then none else if (v31 ka1 (0 : Int32).toNatClampNeg) = 0 then sc_W ks pB pN ka1 Na1 q2 v31 else sc_S pB pN ka1 Na1 q2 v31
theorem scar_eq {z : Nat} {v : Va} {ks : Nat} {pA : Nat → Nat} {pB : Nat → Nat → Nat} {pN : Nat → Nat} {ka1 Na1 : Nat} : f_Sim_carry z v ks pA pB pN ka1 Na1 = (f_Sim_does z v ks pA pB pN ka1 Na1).bind fun q2 => if 0 ≤ q2 then (if (11 : Int32) < 0 ∨ Na1 ≤ (11 : Int32).toNatClampNeg then none else if (11 : Int32) < 0 ∨ Na1 ≤ (11 : Int32).toNatClampNeg then none else bnd (pu v ka1 (11 : Int32).toNatClampNeg ((v ka1 (11 : Int32).toNatClampNeg) + 1)) fun v19 => if (0 : Int32) < 0 ∨ Na1 ≤ (0 : Int32).toNatClampNeg then none else if (v19 ka1 (0 : Int32).toNatClampNeg) < 0 ∨ 3 ≤ (v19 ka1 (0 : Int32).toNatClampNeg).toNatClampNeg then none else if (v19 ka1 (0 : Int32).toNatClampNeg) < 0 ∨ 3 ≤ (v19 ka1 (0 : Int32).toNatClampNeg).toNatClampNeg then none else bnd (pu v19 (pA 6) (v19 ka1 (0 : Int32).toNatClampNeg).toNatClampNeg ((v19 (pA 6) (v19 ka1 (0 : Int32).toNatClampNeg).toNatClampNeg) + 1)) fun v31 => if (0 : Int32) < 0 ∨ Na1 ≤ (0 : Int32).toNatClampNeg then none else if (v31 ka1 (0 : Int32).toNatClampNeg) = 2 then sc_P pB pN ka1 Na1 q2 v31 else sc_R ks pB pN ka1 Na1 q2 v31) else (some (false, v)) := rfl
def wgU (u : Va) (o i j m : Nat) : Va := pu (pu (pu (pu (pu (pu (pu u 182 o (u 182 o + 1)) 173 3 (u 173 3 + 1)) 179 m (u 179 m - u 159 j)) 181 j (u 181 j + u 159 j)) 176 i (nI j)) 177 i (u 174 i - u 174 i * u 160 j / 100)) 178 i (u 173 0)
def slU (u : Va) (o i j m : Nat) (d : Int32) : Va := pu (pu (pu (pu (pu (pu u 182 o (u 182 o + 1)) 173 2 (u 173 2 + 1)) 179 j (u 179 j - q_min d (u 179 j))) 179 m (u 179 m + q_min d (u 179 j))) 180 (6 * j + m) (u 180 (6 * j + m) + (d - q_min d (u 179 j)))) 175 i (nI j)
def pyU (u : Va) (o i j : Nat) (d : Int32) : Va := pu (pu (pu (pu (pu u 182 o (u 182 o + 1)) 173 4 (u 173 4 + 1)) 179 i (u 179 i - d)) 179 j (u 179 j + d)) 180 (6 * i + j) (u 180 (6 * i + j) - d)
/-- a place that is none of Sim's -/
def NSm (ks : Nat) (pA : Nat → Nat) (pB : Nat → Nat → Nat) (S G M L O q : Nat) : Prop := ∀ j i f, vQ S G M L O j i f → smQ ks pA pB j i ≠ q
/-- carried out -/
def CR (u u1 : Va) (S G M L O o : Nat) : Prop := ∃ w i j, FW u w ∧ w 169 o = nI i ∧ w 170 o = nI j ∧
  ((w 168 o = 0 ∧ i < L ∧ j < G ∧ ∃ m, m < M ∧ w 175 i = nI m ∧ w 159 j ≤ w 179 m ∧ u1 = wgU w o i j m) ∨
   (w 168 o = 1 ∧ i < L ∧ j < M ∧ w 176 i ≠ -1 ∧ ∃ m d, m < M ∧ m ≠ j ∧ w 175 i = nI m ∧ 0 ≤ d.toInt ∧ d.toInt ≤ 89910 ∧ row_t (fun b => w 180 (6 * j + b)) 6 + q_max 0 (d - w 179 j) ≤ w 163 j ∧ u1 = slU w o i j m d) ∨
   (w 168 o = 2 ∧ i < M ∧ j < M ∧ i ≠ j ∧ ∃ d, 1 ≤ d ∧ d ≤ w 180 (6 * i + j) ∧ d ≤ w 179 i ∧ u1 = pyU w o i j d))
variable {x x1 u u1 : Va} {ks S G M L O o z i j m : Nat} {d : Int32} {pA : Nat → Nat} {pB : Nat → Nat → Nat}
theorem m_weigh (hL : L ≤ 10) (hG : G ≤ 4) (ho : o < 24) (hi : i < L) (hj : j < G) (hm : m < 6) (em : u 175 i = nI m) : (f_Model_weigh u 151 173 (nI i) (nI j)).bind (fun q => j_Model_carry_99 173 (nI o) q) = some (true, wgU u o i j m) := by
  unfold f_Model_weigh j_Model_carry_99 wgU
  simp (disch := omega) only [bd, gn, ni_c, if_false, em, pu_p, pu_d, pu_s, ob, Nat.reduceAdd, cm_182, cm_173]
theorem m_sell (hL : L ≤ 10) (hM : M ≤ 6) (ho : o < 24) (hi : i < L) (hj : j < M) (hm : m < M) (hmj : m ≠ j) (em : u 175 i = nI m) : (f_Model_sell u 151 173 (nI i) (nI j) d).bind (fun q => j_Model_carry_99 173 (nI o) q) = some (true, slU u o i j m d) := by
  unfold f_Model_sell j_Model_carry_99 slU
  simp (disch := omega) only [bd, gn, ni_c, if_false, em, pu_p, pu_d, pu_s, ob, Nat.reduceAdd, six_r, cm_182, cm_173]
theorem m_pay (hM : M ≤ 6) (ho : o < 24) (hi : i < M) (hj : j < M) (hij : i ≠ j) : (f_Model_pay u 151 173 (nI i) (nI j) d).bind (fun q => j_Model_carry_99 173 (nI o) q) = some (true, pyU u o i j d) := by
  unfold f_Model_pay j_Model_carry_99 pyU
  simp (disch := omega) only [bd, gn, ni_c, if_false, pu_p, pu_d, pu_s, ob, Nat.reduceAdd, six_r, cm_182, cm_173]
theorem qmin_le {y w v : Int32} (h : v = q_min y w) : v ≤ y ∧ v ≤ w := by
  have e := congrArg Int32.toInt h
  rw [t_min] at e
  exact ⟨t_le.mpr (by omega), t_le.mpr (by omega)⟩
theorem carry_sm (hS : SR x u ks pA pB S G M L O) (hA : APT pA pB (pn_ S G M L O) ks) (hP : PMo u S G M L O) (hI : IS u 173 L G M) (hz : 4000 < z) (ho : o < O) :
    ∃ (b : Bool) (x1 u1 : Va), f_Sim_carry z x ks pA pB (pn_ S G M L O) (pB 5 o) 12 = some (b, x1) ∧ f_Model_carry z u 151 173 (nI o) = some (b, u1) ∧ SR x1 u1 ks pA pB S G M L O ∧ (b = false → FW u u1 ∧ x1 = x) ∧ (b = true → CR u u1 S G M L O o) ∧ ∀ q, NSm ks pA pB S G M L O q → x1 q = x q := by
  obtain ⟨⟨hS4, hG4, hM6, hL10, hO24⟩, -, hp3, hp4, hp5, hp6, hPO, hT, hO⟩ := id hP
  obtain ⟨b, d, w, hd, hc, hF, hb0, hb1⟩ := does_two hS hP hI hz ho
  rw [carry_eq, hc, ob]
  rw [scar_eq, hd, ob]
  simp only [qb]
  cases b
  · rw [hb0 rfl, if_neg (by decide), if_pos rfl]
    exact ⟨false, x, w, rfl, rfl, hS.fw hF.1, fun _ => ⟨hF, rfl⟩, fun q => (by cases q), fun _ _ => rfl⟩
  obtain ⟨h0, i, j, ei, ej, hij⟩ := hb1 rfl
  rw [if_pos h0, if_neg (by decide)]
  have hU : ∀ p, p ≠ 149 → w p = u p := hF.1
  have p1 : pn_ S G M L O 1 = G := rfl
  have p2 : pn_ S G M L O 2 = M := rfl
  have p3 : pn_ S G M L O 3 = M := rfl
  have p4 : pn_ S G M L O 4 = L := rfl
  have eq02 : ((0 : Int32) = 2) = False := by decide
  have eq12 : ((1 : Int32) = 2) = False := by decide
  have eq10 : ((1 : Int32) = 0) = False := by decide
  have eq22 : ((2 : Int32) = 2) = True := by decide
  have eq00 : ((0 : Int32) = 0) = True := by decide
  have eq20 : ((2 : Int32) = 0) = False := by decide
  have eq21 : ((2 : Int32) = 1) = False := by decide
  have eq11 : ((1 : Int32) = 1) = True := by decide
  have hTw : TX w O := hT.cong fun p hp => hU p (by omega)
  have ew : worth w 173 (stS (rO w o)) = worth u 173 (stS (rO u o)) := by rw [rO_cong (fun p a => hU p (by omega)), worth_eq (fun p a b => hU p (by omega))]
  unfold mcarry
  simp (maxSteps := 4000000) (disch := omega) only [gn, ni_c, if_false, hU, ei, ej]
  have hS0 : SR x w ks pA pB S G M L O := hS.fw hF.1
  have hN0 : ∀ q, NSm ks pA pB S G M L O q → x q = x q := fun _ _ => rfl
  rcases hij with ⟨es, hi, hj, ed, m, hm, em, hc⟩ | ⟨es, hi, hj, hg, how, ed, hc⟩ | ⟨es, hi, hj, hq, ed, h1⟩
  · simp only [es, eq00, if_true]
    rw [m_weigh hL10 hG4 (by omega) hi hj (by omega) ((congrFun (hU 175 (by omega)) i).trans em)]
    have es : w 168 o = 0 := (congrFun (hU 168 (by omega)) o).trans es
    have ei : w 169 o = nI i := (congrFun (hU 169 (by omega)) o).trans ei
    have ej : w 170 o = nI j := (congrFun (hU 170 (by omega)) o).trans ej
    have em : w 175 i = nI m := (congrFun (hU 175 (by omega)) i).trans em
    have hc : w 159 j ≤ w 179 m := by rw [hU 159 (by omega), hU 179 (by omega)]; exact hc
    have ed : d = w 159 j := by rw [hU 159 (by omega)]; exact ed
    subst ed
    simp (maxSteps := 4000000) (disch := omega) only [lc_0, ln_0, lc_1, ln_1, lc_2, ln_2, lc_3, ln_3, lc_4, ln_4, lc_5, ln_5, lc_6, ln_6, lc_7, ln_7, lc_8, ln_8, lc_9, ln_9, lc_10, ln_10, lc_11, ln_11, false_or, Nat.reduceLeDiff, if_false, if_true, hS0.sort ho, hS0.one ho, hS0.other ho, hS0.often ho, hS0.owner hi, hS0.coins hm, hS0.fee hj, hS0.bias hj, hS0.earned hj, hS0.weight hi, hS0.day, pu_p, pu_d, pu_s, gn, ni_c, p1, p2, p3, p4, es, ei, ej, eq02, eq12, eq10, eq22, eq00, em]
    rw [bd]
    have hS1 := hS0.set hA hM6 (j := 5) (i := o) (f := 11) (y := w 182 o + 1) (y' := w 182 o + 1) (by unfold vQ; omega) (show smQ ks pA pB 5 o = pB 5 o from rfl) (show tPl 5 11 = 182 from rfl) (show tIx 5 o 11 = o from rfl) rfl
    have hN1 : ∀ q9, NSm ks pA pB S G M L O q9 → pu x (pB 5 o) 11 (w 182 o + 1) q9 = x q9 := fun q9 hq9 => (pu_p (fun e => hq9 5 o 11 (by unfold vQ; omega) e.symm)).trans (hN0 q9 hq9)
    generalize pu x (pB 5 o) 11 (w 182 o + 1) = x1 at hS1 hN1 ⊢
    have hd1 : x1 (pA 6) 0 = pu w 182 o (w 182 o + 1) 173 3 := hS1 6 0 0 (by unfold vQ; omega)
    simp (maxSteps := 4000000) (disch := omega) only [lc_0, ln_0, lc_1, ln_1, lc_2, ln_2, lc_3, ln_3, lc_4, ln_4, lc_5, ln_5, lc_6, ln_6, lc_7, ln_7, lc_8, ln_8, lc_9, ln_9, lc_10, ln_10, lc_11, ln_11, false_or, Nat.reduceLeDiff, if_false, if_true, hS1.sort ho, hS1.one ho, hS1.other ho, hS1.often ho, hS1.owner hi, hS1.coins hm, hS1.fee hj, hS1.bias hj, hS1.earned hj, hS1.weight hi, hS1.day, pu_p, pu_d, pu_s, gn, ni_c, p1, p2, p3, p4, es, ei, ej, eq02, eq12, eq10, eq22, eq00, em, hd1]
    rw [bd]
    have hS2 := hS1.set hA hM6 (j := 6) (i := 0) (f := 0) (y := w 173 3 + 1) (y' := w 173 3 + 1) (by unfold vQ; omega) (show smQ ks pA pB 6 0 = pA 6 from rfl) (show tPl 6 0 = 173 from rfl) (show tIx 6 0 0 = 3 from rfl) rfl
    have hN2 : ∀ q9, NSm ks pA pB S G M L O q9 → pu x1 (pA 6) 0 (w 173 3 + 1) q9 = x q9 := fun q9 hq9 => (pu_p (fun e => hq9 6 0 0 (by unfold vQ; omega) e.symm)).trans (hN1 q9 hq9)
    generalize pu x1 (pA 6) 0 (w 173 3 + 1) = x2 at hS2 hN2 ⊢
    simp (maxSteps := 4000000) (disch := omega) only [lc_0, ln_0, lc_1, ln_1, lc_2, ln_2, lc_3, ln_3, lc_4, ln_4, lc_5, ln_5, lc_6, ln_6, lc_7, ln_7, lc_8, ln_8, lc_9, ln_9, lc_10, ln_10, lc_11, ln_11, false_or, Nat.reduceLeDiff, if_false, if_true, hS2.sort ho, hS2.one ho, hS2.other ho, hS2.often ho, hS2.owner hi, hS2.coins hm, hS2.fee hj, hS2.bias hj, hS2.earned hj, hS2.weight hi, hS2.day, pu_p, pu_d, pu_s, gn, ni_c, p1, p2, p3, p4, es, ei, ej, eq02, eq12, eq10, eq22, eq00, em]
    unfold sc_R
    simp (maxSteps := 4000000) (disch := omega) only [lc_0, ln_0, lc_1, ln_1, lc_2, ln_2, lc_3, ln_3, lc_4, ln_4, lc_5, ln_5, lc_6, ln_6, lc_7, ln_7, lc_8, ln_8, lc_9, ln_9, lc_10, ln_10, lc_11, ln_11, false_or, Nat.reduceLeDiff, if_false, if_true, hS2.sort ho, hS2.one ho, hS2.other ho, hS2.often ho, hS2.owner hi, hS2.coins hm, hS2.fee hj, hS2.bias hj, hS2.earned hj, hS2.weight hi, hS2.day, pu_p, pu_d, pu_s, gn, ni_c, p1, p2, p3, p4, es, ei, ej, eq02, eq12, eq10, eq22, eq00, em]
    unfold sc_W
    simp (maxSteps := 4000000) (disch := omega) only [lc_0, ln_0, lc_1, ln_1, lc_2, ln_2, lc_3, ln_3, lc_4, ln_4, lc_5, ln_5, lc_6, ln_6, lc_7, ln_7, lc_8, ln_8, lc_9, ln_9, lc_10, ln_10, lc_11, ln_11, false_or, Nat.reduceLeDiff, if_false, if_true, hS2.sort ho, hS2.one ho, hS2.other ho, hS2.often ho, hS2.owner hi, hS2.coins hm, hS2.fee hj, hS2.bias hj, hS2.earned hj, hS2.weight hi, hS2.day, pu_p, pu_d, pu_s, gn, ni_c, p1, p2, p3, p4, es, ei, ej, eq02, eq12, eq10, eq22, eq00, em]
    rw [bd]
    have hS3 := hS2.set hA hM6 (j := 2) (i := m) (f := 0) (y := w 179 m - w 159 j) (y' := w 179 m - w 159 j) (by unfold vQ; omega) (show smQ ks pA pB 2 m = pB 2 m from rfl) (show tPl 2 0 = 179 from rfl) (show tIx 2 m 0 = m from rfl) rfl
    have hN3 : ∀ q9, NSm ks pA pB S G M L O q9 → pu x2 (pB 2 m) 0 (w 179 m - w 159 j) q9 = x q9 := fun q9 hq9 => (pu_p (fun e => hq9 2 m 0 (by unfold vQ; omega) e.symm)).trans (hN2 q9 hq9)
    generalize pu x2 (pB 2 m) 0 (w 179 m - w 159 j) = x3 at hS3 hN3 ⊢
    simp (maxSteps := 4000000) (disch := omega) only [lc_0, ln_0, lc_1, ln_1, lc_2, ln_2, lc_3, ln_3, lc_4, ln_4, lc_5, ln_5, lc_6, ln_6, lc_7, ln_7, lc_8, ln_8, lc_9, ln_9, lc_10, ln_10, lc_11, ln_11, false_or, Nat.reduceLeDiff, if_false, if_true, hS3.sort ho, hS3.one ho, hS3.other ho, hS3.often ho, hS3.owner hi, hS3.coins hm, hS3.fee hj, hS3.bias hj, hS3.earned hj, hS3.weight hi, hS3.day, pu_p, pu_d, pu_s, gn, ni_c, p1, p2, p3, p4, es, ei, ej, eq02, eq12, eq10, eq22, eq00, em]
    rw [bd]
    have hS4 := hS3.set hA hM6 (j := 1) (i := j) (f := 2) (y := w 181 j + w 159 j) (y' := w 181 j + w 159 j) (by unfold vQ; omega) (show smQ ks pA pB 1 j = pB 1 j from rfl) (show tPl 1 2 = 181 from rfl) (show tIx 1 j 2 = j from rfl) rfl
    have hN4 : ∀ q9, NSm ks pA pB S G M L O q9 → pu x3 (pB 1 j) 2 (w 181 j + w 159 j) q9 = x q9 := fun q9 hq9 => (pu_p (fun e => hq9 1 j 2 (by unfold vQ; omega) e.symm)).trans (hN3 q9 hq9)
    generalize pu x3 (pB 1 j) 2 (w 181 j + w 159 j) = x4 at hS4 hN4 ⊢
    simp (maxSteps := 4000000) (disch := omega) only [lc_0, ln_0, lc_1, ln_1, lc_2, ln_2, lc_3, ln_3, lc_4, ln_4, lc_5, ln_5, lc_6, ln_6, lc_7, ln_7, lc_8, ln_8, lc_9, ln_9, lc_10, ln_10, lc_11, ln_11, false_or, Nat.reduceLeDiff, if_false, if_true, hS4.sort ho, hS4.one ho, hS4.other ho, hS4.often ho, hS4.owner hi, hS4.coins hm, hS4.fee hj, hS4.bias hj, hS4.earned hj, hS4.weight hi, hS4.day, pu_p, pu_d, pu_s, gn, ni_c, p1, p2, p3, p4, es, ei, ej, eq02, eq12, eq10, eq22, eq00, em]
    rw [bd]
    have hS5 := hS4.set hA hM6 (j := 4) (i := i) (f := 3) (y := nI j) (y' := nI j) (by unfold vQ; omega) (show smQ ks pA pB 4 i = pB 4 i from rfl) (show tPl 4 3 = 176 from rfl) (show tIx 4 i 3 = i from rfl) rfl
    have hN5 : ∀ q9, NSm ks pA pB S G M L O q9 → pu x4 (pB 4 i) 3 (nI j) q9 = x q9 := fun q9 hq9 => (pu_p (fun e => hq9 4 i 3 (by unfold vQ; omega) e.symm)).trans (hN4 q9 hq9)
    generalize pu x4 (pB 4 i) 3 (nI j) = x5 at hS5 hN5 ⊢
    simp (maxSteps := 4000000) (disch := omega) only [lc_0, ln_0, lc_1, ln_1, lc_2, ln_2, lc_3, ln_3, lc_4, ln_4, lc_5, ln_5, lc_6, ln_6, lc_7, ln_7, lc_8, ln_8, lc_9, ln_9, lc_10, ln_10, lc_11, ln_11, false_or, Nat.reduceLeDiff, if_false, if_true, hS5.sort ho, hS5.one ho, hS5.other ho, hS5.often ho, hS5.owner hi, hS5.coins hm, hS5.fee hj, hS5.bias hj, hS5.earned hj, hS5.weight hi, hS5.day, pu_p, pu_d, pu_s, gn, ni_c, p1, p2, p3, p4, es, ei, ej, eq02, eq12, eq10, eq22, eq00, em]
    rw [bd]
    have hS6 := hS5.set hA hM6 (j := 4) (i := i) (f := 4) (y := w 174 i - w 174 i * w 160 j / 100) (y' := w 174 i - w 174 i * w 160 j / 100) (by unfold vQ; omega) (show smQ ks pA pB 4 i = pB 4 i from rfl) (show tPl 4 4 = 177 from rfl) (show tIx 4 i 4 = i from rfl) rfl
    have hN6 : ∀ q9, NSm ks pA pB S G M L O q9 → pu x5 (pB 4 i) 4 (w 174 i - w 174 i * w 160 j / 100) q9 = x q9 := fun q9 hq9 => (pu_p (fun e => hq9 4 i 4 (by unfold vQ; omega) e.symm)).trans (hN5 q9 hq9)
    generalize pu x5 (pB 4 i) 4 (w 174 i - w 174 i * w 160 j / 100) = x6 at hS6 hN6 ⊢
    simp (maxSteps := 4000000) (disch := omega) only [lc_0, ln_0, lc_1, ln_1, lc_2, ln_2, lc_3, ln_3, lc_4, ln_4, lc_5, ln_5, lc_6, ln_6, lc_7, ln_7, lc_8, ln_8, lc_9, ln_9, lc_10, ln_10, lc_11, ln_11, false_or, Nat.reduceLeDiff, if_false, if_true, hS6.sort ho, hS6.one ho, hS6.other ho, hS6.often ho, hS6.owner hi, hS6.coins hm, hS6.fee hj, hS6.bias hj, hS6.earned hj, hS6.weight hi, hS6.day, pu_p, pu_d, pu_s, gn, ni_c, p1, p2, p3, p4, es, ei, ej, eq02, eq12, eq10, eq22, eq00, em]
    rw [bd]
    have hS7 := hS6.set hA hM6 (j := 4) (i := i) (f := 5) (y := w 173 0) (y' := w 173 0) (by unfold vQ; omega) (show smQ ks pA pB 4 i = pB 4 i from rfl) (show tPl 4 5 = 178 from rfl) (show tIx 4 i 5 = i from rfl) rfl
    have hN7 : ∀ q9, NSm ks pA pB S G M L O q9 → pu x6 (pB 4 i) 5 (w 173 0) q9 = x q9 := fun q9 hq9 => (pu_p (fun e => hq9 4 i 5 (by unfold vQ; omega) e.symm)).trans (hN6 q9 hq9)
    generalize pu x6 (pB 4 i) 5 (w 173 0) = x7 at hS7 hN7 ⊢
    exact ⟨true, x7, _, rfl, rfl, hS7, fun q => (by cases q), fun _ => ⟨w, i, j, hF, ei, ej, Or.inl ⟨es, hi, hj, m, hm, em, hc, rfl⟩⟩, hN7⟩
  · obtain ⟨m, hm, em⟩ := hI.2.1 i hi
    have em : u 175 i = nI m := em
    have hmj : m ≠ j := fun q => how (by rw [em, q])
    have h10 : ¬ u 168 o = 0 := by rw [es]; decide
    obtain ⟨w1, hm1, hF1⟩ := m_sumOf (z := z) hTw ho hO24 (by rw [hU _ (by omega)]; exact h10)
    rw [ew] at hm1
    have hU1 : ∀ p, p ≠ 149 → w1 p = u p := fun p hp => (hF1.1 p hp).trans (hU p hp)
    have hpo : f_Model_priceOf z w 151 173 (nI o) = some (d, w1) := by
      unfold f_Model_priceOf
      rw [hm1]
      simp (disch := omega) only [gn, ni_c, if_false, ob, hU1, ei]
      rw [ed]
    simp only [es, eq10, eq11, if_true, if_false]
    rw [hpo, ob]
    try simp only []
    rw [m_sell hL10 hM6 (by omega) hi hj hm hmj ((congrFun (hU1 175 (by omega)) i).trans em)]
    have hgc : 0 ≤ (u 177 i).toInt ∧ (u 177 i).toInt ≤ 9000 := by
      rcases hI.2.2.1 i hi with e | ⟨-, e⟩
      · exact absurd e hg
      · exact e
    have hpb := price_b (x := worth u 173 (stS (rO u o))) hgc.1 hgc.2
    rw [← ed] at hpb
    have hS0 : SR x w1 ks pA pB S G M L O := hS.fw hU1
    have es : w1 168 o = 1 := (congrFun (hU1 168 (by omega)) o).trans es
    have ei : w1 169 o = nI i := (congrFun (hU1 169 (by omega)) o).trans ei
    have ej : w1 170 o = nI j := (congrFun (hU1 170 (by omega)) o).trans ej
    have em : w1 175 i = nI m := (congrFun (hU1 175 (by omega)) i).trans em
    have hg : w1 176 i ≠ -1 := by rw [hU1 176 (by omega)]; exact hg
    have hc : row_t (fun b => w1 180 (6 * j + b)) 6 + q_max 0 (d - w1 179 j) ≤ w1 163 j := by
      simp (disch := omega) only [hU1]
      exact hc
    simp (maxSteps := 4000000) (disch := omega) only [lc_0, ln_0, lc_1, ln_1, lc_2, ln_2, lc_3, ln_3, lc_4, ln_4, lc_5, ln_5, lc_6, ln_6, lc_7, ln_7, lc_8, ln_8, lc_9, ln_9, lc_10, ln_10, lc_11, ln_11, false_or, Nat.reduceLeDiff, if_false, if_true, hS0.sort ho, hS0.one ho, hS0.other ho, hS0.often ho, hS0.owner hi, hS0.coins hj, hS0.coins hm, hS0.day, hS0.owes hj hm, pu_p, pu_d, pu_s, gn, ni_c, p1, p2, p3, p4, es, ei, ej, eq02, eq12, eq10, eq22, eq00, em]
    rw [bd]
    have hS1 := hS0.set hA hM6 (j := 5) (i := o) (f := 11) (y := w1 182 o + 1) (y' := w1 182 o + 1) (by unfold vQ; omega) (show smQ ks pA pB 5 o = pB 5 o from rfl) (show tPl 5 11 = 182 from rfl) (show tIx 5 o 11 = o from rfl) rfl
    have hN1 : ∀ q9, NSm ks pA pB S G M L O q9 → pu x (pB 5 o) 11 (w1 182 o + 1) q9 = x q9 := fun q9 hq9 => (pu_p (fun e => hq9 5 o 11 (by unfold vQ; omega) e.symm)).trans (hN0 q9 hq9)
    generalize pu x (pB 5 o) 11 (w1 182 o + 1) = x1 at hS1 hN1 ⊢
    have hd1 : x1 (pA 6) 1 = pu w1 182 o (w1 182 o + 1) 173 2 := hS1 6 0 1 (by unfold vQ; omega)
    simp (maxSteps := 4000000) (disch := omega) only [lc_0, ln_0, lc_1, ln_1, lc_2, ln_2, lc_3, ln_3, lc_4, ln_4, lc_5, ln_5, lc_6, ln_6, lc_7, ln_7, lc_8, ln_8, lc_9, ln_9, lc_10, ln_10, lc_11, ln_11, false_or, Nat.reduceLeDiff, if_false, if_true, hS1.sort ho, hS1.one ho, hS1.other ho, hS1.often ho, hS1.owner hi, hS1.coins hj, hS1.coins hm, hS1.day, hS1.owes hj hm, pu_p, pu_d, pu_s, gn, ni_c, p1, p2, p3, p4, es, ei, ej, eq02, eq12, eq10, eq22, eq00, em, hd1]
    rw [bd]
    have hS2 := hS1.set hA hM6 (j := 6) (i := 0) (f := 1) (y := w1 173 2 + 1) (y' := w1 173 2 + 1) (by unfold vQ; omega) (show smQ ks pA pB 6 0 = pA 6 from rfl) (show tPl 6 1 = 173 from rfl) (show tIx 6 0 1 = 2 from rfl) rfl
    have hN2 : ∀ q9, NSm ks pA pB S G M L O q9 → pu x1 (pA 6) 1 (w1 173 2 + 1) q9 = x q9 := fun q9 hq9 => (pu_p (fun e => hq9 6 0 1 (by unfold vQ; omega) e.symm)).trans (hN1 q9 hq9)
    generalize pu x1 (pA 6) 1 (w1 173 2 + 1) = x2 at hS2 hN2 ⊢
    simp (maxSteps := 4000000) (disch := omega) only [lc_0, ln_0, lc_1, ln_1, lc_2, ln_2, lc_3, ln_3, lc_4, ln_4, lc_5, ln_5, lc_6, ln_6, lc_7, ln_7, lc_8, ln_8, lc_9, ln_9, lc_10, ln_10, lc_11, ln_11, false_or, Nat.reduceLeDiff, if_false, if_true, hS2.sort ho, hS2.one ho, hS2.other ho, hS2.often ho, hS2.owner hi, hS2.coins hj, hS2.coins hm, hS2.day, hS2.owes hj hm, pu_p, pu_d, pu_s, gn, ni_c, p1, p2, p3, p4, es, ei, ej, eq02, eq12, eq10, eq22, eq00, em]
    unfold sc_R
    simp (maxSteps := 4000000) (disch := omega) only [lc_0, ln_0, lc_1, ln_1, lc_2, ln_2, lc_3, ln_3, lc_4, ln_4, lc_5, ln_5, lc_6, ln_6, lc_7, ln_7, lc_8, ln_8, lc_9, ln_9, lc_10, ln_10, lc_11, ln_11, false_or, Nat.reduceLeDiff, if_false, if_true, hS2.sort ho, hS2.one ho, hS2.other ho, hS2.often ho, hS2.owner hi, hS2.coins hj, hS2.coins hm, hS2.day, hS2.owes hj hm, pu_p, pu_d, pu_s, gn, ni_c, p1, p2, p3, p4, es, ei, ej, eq02, eq12, eq10, eq22, eq00, em]
    unfold sc_S
    simp (maxSteps := 4000000) (disch := omega) only [lc_0, ln_0, lc_1, ln_1, lc_2, ln_2, lc_3, ln_3, lc_4, ln_4, lc_5, ln_5, lc_6, ln_6, lc_7, ln_7, lc_8, ln_8, lc_9, ln_9, lc_10, ln_10, lc_11, ln_11, false_or, Nat.reduceLeDiff, if_false, if_true, hS2.sort ho, hS2.one ho, hS2.other ho, hS2.often ho, hS2.owner hi, hS2.coins hj, hS2.coins hm, hS2.day, hS2.owes hj hm, pu_p, pu_d, pu_s, gn, ni_c, p1, p2, p3, p4, es, ei, ej, eq02, eq12, eq10, eq22, eq00, em]
    have e197 : ∀ (f : Int32 → Option (Bool × Va)), (if w1 179 j ≤ d then f (w1 179 j) else f d) = f (q_min d (w1 179 j)) := by
      intro f
      by_cases h : w1 179 j ≤ d
      · rw [if_pos h]; congr 1; apply t_inj; rw [t_min]; have := t_le.mp h; omega
      · rw [if_neg h]; congr 1; apply t_inj; rw [t_min]; have := t_lt.mp (Int32.not_le.mp h); omega
    rw [e197 (fun y => j_Sim_carry_197 pB (pn_ S G M L O) (pB 5 o) 12 d x2 y)]
    generalize hq : q_min d (w1 179 j) = q
    unfold j_Sim_carry_197
    simp (maxSteps := 4000000) (disch := omega) only [lc_0, ln_0, lc_1, ln_1, lc_2, ln_2, lc_3, ln_3, lc_4, ln_4, lc_5, ln_5, lc_6, ln_6, lc_7, ln_7, lc_8, ln_8, lc_9, ln_9, lc_10, ln_10, lc_11, ln_11, false_or, Nat.reduceLeDiff, if_false, if_true, hS2.sort ho, hS2.one ho, hS2.other ho, hS2.often ho, hS2.owner hi, hS2.coins hj, hS2.coins hm, hS2.day, hS2.owes hj hm, pu_p, pu_d, pu_s, gn, ni_c, p1, p2, p3, p4, es, ei, ej, eq02, eq12, eq10, eq22, eq00, em]
    rw [bd]
    have hS3 := hS2.set hA hM6 (j := 2) (i := j) (f := 0) (y := w1 179 j - q) (y' := w1 179 j - q) (by unfold vQ; omega) (show smQ ks pA pB 2 j = pB 2 j from rfl) (show tPl 2 0 = 179 from rfl) (show tIx 2 j 0 = j from rfl) rfl
    have hN3 : ∀ q9, NSm ks pA pB S G M L O q9 → pu x2 (pB 2 j) 0 (w1 179 j - q) q9 = x q9 := fun q9 hq9 => (pu_p (fun e => hq9 2 j 0 (by unfold vQ; omega) e.symm)).trans (hN2 q9 hq9)
    generalize pu x2 (pB 2 j) 0 (w1 179 j - q) = x3 at hS3 hN3 ⊢
    simp (maxSteps := 4000000) (disch := omega) only [lc_0, ln_0, lc_1, ln_1, lc_2, ln_2, lc_3, ln_3, lc_4, ln_4, lc_5, ln_5, lc_6, ln_6, lc_7, ln_7, lc_8, ln_8, lc_9, ln_9, lc_10, ln_10, lc_11, ln_11, false_or, Nat.reduceLeDiff, if_false, if_true, hS3.sort ho, hS3.one ho, hS3.other ho, hS3.often ho, hS3.owner hi, hS3.coins hj, hS3.coins hm, hS3.day, hS3.owes hj hm, pu_p, pu_d, pu_s, gn, ni_c, p1, p2, p3, p4, es, ei, ej, eq02, eq12, eq10, eq22, eq00, em]
    rw [bd]
    have hS4 := hS3.set hA hM6 (j := 2) (i := m) (f := 0) (y := w1 179 m + q) (y' := w1 179 m + q) (by unfold vQ; omega) (show smQ ks pA pB 2 m = pB 2 m from rfl) (show tPl 2 0 = 179 from rfl) (show tIx 2 m 0 = m from rfl) rfl
    have hN4 : ∀ q9, NSm ks pA pB S G M L O q9 → pu x3 (pB 2 m) 0 (w1 179 m + q) q9 = x q9 := fun q9 hq9 => (pu_p (fun e => hq9 2 m 0 (by unfold vQ; omega) e.symm)).trans (hN3 q9 hq9)
    generalize pu x3 (pB 2 m) 0 (w1 179 m + q) = x4 at hS4 hN4 ⊢
    simp (maxSteps := 4000000) (disch := omega) only [lc_0, ln_0, lc_1, ln_1, lc_2, ln_2, lc_3, ln_3, lc_4, ln_4, lc_5, ln_5, lc_6, ln_6, lc_7, ln_7, lc_8, ln_8, lc_9, ln_9, lc_10, ln_10, lc_11, ln_11, false_or, Nat.reduceLeDiff, if_false, if_true, hS4.sort ho, hS4.one ho, hS4.other ho, hS4.often ho, hS4.owner hi, hS4.coins hj, hS4.coins hm, hS4.day, hS4.owes hj hm, pu_p, pu_d, pu_s, gn, ni_c, p1, p2, p3, p4, es, ei, ej, eq02, eq12, eq10, eq22, eq00, em]
    rw [bd]
    have hS5 := hS4.set hA hM6 (j := 3) (i := j) (f := m) (y := w1 180 (6 * j + m) + (d - q)) (y' := w1 180 (6 * j + m) + (d - q)) (by unfold vQ; omega) (show smQ ks pA pB 3 j = pB 3 j from rfl) (show tPl 3 m = 180 from rfl) (show tIx 3 j m = 6 * j + m from rfl) rfl
    have hN5 : ∀ q9, NSm ks pA pB S G M L O q9 → pu x4 (pB 3 j) m (w1 180 (6 * j + m) + (d - q)) q9 = x q9 := fun q9 hq9 => (pu_p (fun e => hq9 3 j m (by unfold vQ; omega) e.symm)).trans (hN4 q9 hq9)
    generalize pu x4 (pB 3 j) m (w1 180 (6 * j + m) + (d - q)) = x5 at hS5 hN5 ⊢
    simp (maxSteps := 4000000) (disch := omega) only [lc_0, ln_0, lc_1, ln_1, lc_2, ln_2, lc_3, ln_3, lc_4, ln_4, lc_5, ln_5, lc_6, ln_6, lc_7, ln_7, lc_8, ln_8, lc_9, ln_9, lc_10, ln_10, lc_11, ln_11, false_or, Nat.reduceLeDiff, if_false, if_true, hS5.sort ho, hS5.one ho, hS5.other ho, hS5.often ho, hS5.owner hi, hS5.coins hj, hS5.coins hm, hS5.day, hS5.owes hj hm, pu_p, pu_d, pu_s, gn, ni_c, p1, p2, p3, p4, es, ei, ej, eq02, eq12, eq10, eq22, eq00, em]
    rw [bd]
    have hS6 := hS5.set hA hM6 (j := 4) (i := i) (f := 2) (y := nI j) (y' := nI j) (by unfold vQ; omega) (show smQ ks pA pB 4 i = pB 4 i from rfl) (show tPl 4 2 = 175 from rfl) (show tIx 4 i 2 = i from rfl) rfl
    have hN6 : ∀ q9, NSm ks pA pB S G M L O q9 → pu x5 (pB 4 i) 2 (nI j) q9 = x q9 := fun q9 hq9 => (pu_p (fun e => hq9 4 i 2 (by unfold vQ; omega) e.symm)).trans (hN5 q9 hq9)
    generalize pu x5 (pB 4 i) 2 (nI j) = x6 at hS6 hN6 ⊢
    subst hq
    exact ⟨true, x6, _, rfl, rfl, hS6, fun q => (by cases q), fun _ => ⟨w1, i, j, hF.tr hF1, ei, ej, Or.inr (Or.inl ⟨es, hi, hj, hg, m, d, hm, hmj, em, hpb.1, hpb.2, hc, rfl⟩)⟩, hN6⟩
  · have h10 : ¬ u 168 o = 0 := by rw [es]; decide
    obtain ⟨w1, hm1, hF1⟩ := m_sumOf (z := z) hTw ho hO24 (by rw [hU _ (by omega)]; exact h10)
    rw [ew] at hm1
    have hU1 : ∀ p, p ≠ 149 → w1 p = u p := fun p hp => (hF1.1 p hp).trans (hU p hp)
    have hpo : f_Model_payOf z w 151 173 (nI o) = some (d, w1) := by
      unfold f_Model_payOf
      simp (disch := omega) only [gn, ni_c, if_false, hU, ei, ej, eq_n]
      rw [if_neg hq, hm1, ob]
      try simp only []
      rw [owes_m (by omega) (by omega), ob]
      simp (disch := omega) only [hU1]
      rw [min3, ← ed]
    simp only [es, eq20, eq21, if_false]
    rw [hpo, ob]
    try simp only []
    rw [m_pay hM6 (by omega) hi hj hq]
    have hl1 := qmin_le ed
    have hl2 := qmin_le (y := u 180 (6 * i + j)) (w := u 179 i) (v := q_min (u 180 (6 * i + j)) (u 179 i)) rfl
    have hS0 : SR x w1 ks pA pB S G M L O := hS.fw hU1
    have es : w1 168 o = 2 := (congrFun (hU1 168 (by omega)) o).trans es
    have ei : w1 169 o = nI i := (congrFun (hU1 169 (by omega)) o).trans ei
    have ej : w1 170 o = nI j := (congrFun (hU1 170 (by omega)) o).trans ej
    have hw1 : d ≤ w1 180 (6 * i + j) := by rw [hU1 180 (by omega)]; exact Int32.le_trans hl1.2 hl2.1
    have hw2 : d ≤ w1 179 i := by rw [hU1 179 (by omega)]; exact Int32.le_trans hl1.2 hl2.2
    have hji : j ≠ i := Ne.symm hq
    simp (maxSteps := 4000000) (disch := omega) only [lc_0, ln_0, lc_1, ln_1, lc_2, ln_2, lc_3, ln_3, lc_4, ln_4, lc_5, ln_5, lc_6, ln_6, lc_7, ln_7, lc_8, ln_8, lc_9, ln_9, lc_10, ln_10, lc_11, ln_11, false_or, Nat.reduceLeDiff, if_false, if_true, hS0.sort ho, hS0.one ho, hS0.other ho, hS0.often ho, hS0.coins hi, hS0.coins hj, hS0.day, hS0.owes hi hj, pu_p, pu_d, pu_s, gn, ni_c, p1, p2, p3, p4, es, ei, ej, eq02, eq12, eq10, eq22, eq00]
    rw [bd]
    have hS1 := hS0.set hA hM6 (j := 5) (i := o) (f := 11) (y := w1 182 o + 1) (y' := w1 182 o + 1) (by unfold vQ; omega) (show smQ ks pA pB 5 o = pB 5 o from rfl) (show tPl 5 11 = 182 from rfl) (show tIx 5 o 11 = o from rfl) rfl
    have hN1 : ∀ q9, NSm ks pA pB S G M L O q9 → pu x (pB 5 o) 11 (w1 182 o + 1) q9 = x q9 := fun q9 hq9 => (pu_p (fun e => hq9 5 o 11 (by unfold vQ; omega) e.symm)).trans (hN0 q9 hq9)
    generalize pu x (pB 5 o) 11 (w1 182 o + 1) = x1 at hS1 hN1 ⊢
    have hd1 : x1 (pA 6) 2 = pu w1 182 o (w1 182 o + 1) 173 4 := hS1 6 0 2 (by unfold vQ; omega)
    simp (maxSteps := 4000000) (disch := omega) only [lc_0, ln_0, lc_1, ln_1, lc_2, ln_2, lc_3, ln_3, lc_4, ln_4, lc_5, ln_5, lc_6, ln_6, lc_7, ln_7, lc_8, ln_8, lc_9, ln_9, lc_10, ln_10, lc_11, ln_11, false_or, Nat.reduceLeDiff, if_false, if_true, hS1.sort ho, hS1.one ho, hS1.other ho, hS1.often ho, hS1.coins hi, hS1.coins hj, hS1.day, hS1.owes hi hj, pu_p, pu_d, pu_s, gn, ni_c, p1, p2, p3, p4, es, ei, ej, eq02, eq12, eq10, eq22, eq00, hd1]
    rw [bd]
    have hS2 := hS1.set hA hM6 (j := 6) (i := 0) (f := 2) (y := w1 173 4 + 1) (y' := w1 173 4 + 1) (by unfold vQ; omega) (show smQ ks pA pB 6 0 = pA 6 from rfl) (show tPl 6 2 = 173 from rfl) (show tIx 6 0 2 = 4 from rfl) rfl
    have hN2 : ∀ q9, NSm ks pA pB S G M L O q9 → pu x1 (pA 6) 2 (w1 173 4 + 1) q9 = x q9 := fun q9 hq9 => (pu_p (fun e => hq9 6 0 2 (by unfold vQ; omega) e.symm)).trans (hN1 q9 hq9)
    generalize pu x1 (pA 6) 2 (w1 173 4 + 1) = x2 at hS2 hN2 ⊢
    simp (maxSteps := 4000000) (disch := omega) only [lc_0, ln_0, lc_1, ln_1, lc_2, ln_2, lc_3, ln_3, lc_4, ln_4, lc_5, ln_5, lc_6, ln_6, lc_7, ln_7, lc_8, ln_8, lc_9, ln_9, lc_10, ln_10, lc_11, ln_11, false_or, Nat.reduceLeDiff, if_false, if_true, hS2.sort ho, hS2.one ho, hS2.other ho, hS2.often ho, hS2.coins hi, hS2.coins hj, hS2.day, hS2.owes hi hj, pu_p, pu_d, pu_s, gn, ni_c, p1, p2, p3, p4, es, ei, ej, eq02, eq12, eq10, eq22, eq00]
    unfold sc_P
    simp (maxSteps := 4000000) (disch := omega) only [lc_0, ln_0, lc_1, ln_1, lc_2, ln_2, lc_3, ln_3, lc_4, ln_4, lc_5, ln_5, lc_6, ln_6, lc_7, ln_7, lc_8, ln_8, lc_9, ln_9, lc_10, ln_10, lc_11, ln_11, false_or, Nat.reduceLeDiff, if_false, if_true, hS2.sort ho, hS2.one ho, hS2.other ho, hS2.often ho, hS2.coins hi, hS2.coins hj, hS2.day, hS2.owes hi hj, pu_p, pu_d, pu_s, gn, ni_c, p1, p2, p3, p4, es, ei, ej, eq02, eq12, eq10, eq22, eq00]
    rw [bd]
    have hS3 := hS2.set hA hM6 (j := 2) (i := i) (f := 0) (y := w1 179 i - d) (y' := w1 179 i - d) (by unfold vQ; omega) (show smQ ks pA pB 2 i = pB 2 i from rfl) (show tPl 2 0 = 179 from rfl) (show tIx 2 i 0 = i from rfl) rfl
    have hN3 : ∀ q9, NSm ks pA pB S G M L O q9 → pu x2 (pB 2 i) 0 (w1 179 i - d) q9 = x q9 := fun q9 hq9 => (pu_p (fun e => hq9 2 i 0 (by unfold vQ; omega) e.symm)).trans (hN2 q9 hq9)
    generalize pu x2 (pB 2 i) 0 (w1 179 i - d) = x3 at hS3 hN3 ⊢
    simp (maxSteps := 4000000) (disch := omega) only [lc_0, ln_0, lc_1, ln_1, lc_2, ln_2, lc_3, ln_3, lc_4, ln_4, lc_5, ln_5, lc_6, ln_6, lc_7, ln_7, lc_8, ln_8, lc_9, ln_9, lc_10, ln_10, lc_11, ln_11, false_or, Nat.reduceLeDiff, if_false, if_true, hS3.sort ho, hS3.one ho, hS3.other ho, hS3.often ho, hS3.coins hi, hS3.coins hj, hS3.day, hS3.owes hi hj, pu_p, pu_d, pu_s, gn, ni_c, p1, p2, p3, p4, es, ei, ej, eq02, eq12, eq10, eq22, eq00]
    rw [bd]
    have hS4 := hS3.set hA hM6 (j := 2) (i := j) (f := 0) (y := w1 179 j + d) (y' := w1 179 j + d) (by unfold vQ; omega) (show smQ ks pA pB 2 j = pB 2 j from rfl) (show tPl 2 0 = 179 from rfl) (show tIx 2 j 0 = j from rfl) rfl
    have hN4 : ∀ q9, NSm ks pA pB S G M L O q9 → pu x3 (pB 2 j) 0 (w1 179 j + d) q9 = x q9 := fun q9 hq9 => (pu_p (fun e => hq9 2 j 0 (by unfold vQ; omega) e.symm)).trans (hN3 q9 hq9)
    generalize pu x3 (pB 2 j) 0 (w1 179 j + d) = x4 at hS4 hN4 ⊢
    simp (maxSteps := 4000000) (disch := omega) only [lc_0, ln_0, lc_1, ln_1, lc_2, ln_2, lc_3, ln_3, lc_4, ln_4, lc_5, ln_5, lc_6, ln_6, lc_7, ln_7, lc_8, ln_8, lc_9, ln_9, lc_10, ln_10, lc_11, ln_11, false_or, Nat.reduceLeDiff, if_false, if_true, hS4.sort ho, hS4.one ho, hS4.other ho, hS4.often ho, hS4.coins hi, hS4.coins hj, hS4.day, hS4.owes hi hj, pu_p, pu_d, pu_s, gn, ni_c, p1, p2, p3, p4, es, ei, ej, eq02, eq12, eq10, eq22, eq00]
    rw [bd]
    have hS5 := hS4.set hA hM6 (j := 3) (i := i) (f := j) (y := w1 180 (6 * i + j) - d) (y' := w1 180 (6 * i + j) - d) (by unfold vQ; omega) (show smQ ks pA pB 3 i = pB 3 i from rfl) (show tPl 3 j = 180 from rfl) (show tIx 3 i j = 6 * i + j from rfl) rfl
    have hN5 : ∀ q9, NSm ks pA pB S G M L O q9 → pu x4 (pB 3 i) j (w1 180 (6 * i + j) - d) q9 = x q9 := fun q9 hq9 => (pu_p (fun e => hq9 3 i j (by unfold vQ; omega) e.symm)).trans (hN4 q9 hq9)
    generalize pu x4 (pB 3 i) j (w1 180 (6 * i + j) - d) = x5 at hS5 hN5 ⊢
    exact ⟨true, x5, _, rfl, rfl, hS5, fun q => (by cases q), fun _ => ⟨w1, i, j, hF.tr hF1, ei, ej, Or.inr (Or.inr ⟨es, hi, hj, hq, d, h1, hw1, hw2, rfl⟩)⟩, hN5⟩
end
