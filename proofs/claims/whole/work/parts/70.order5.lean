/-! LINES: orders, whole -/
section
variable {α β : Type} {pa : α → Va} {kn : Nat → Nat} {nt k1 sp z : Nat} {u0 v v1 u u1 us us1 vo : Va} {t t1 O Om Om' s a1 : Nat} {N n : Nat → Nat} {P : Va → Prop} {D : Nat → Prop} {Q : Va → Va → Nat → Prop} {c : List Ste} {oi a : Int32}
def W39 (oi : Int32) (v : Va) : Va := up v 39 (row_s 24 (v 39) oi (v 42 0))
theorem j157 {w : Va} : j_Reader_orderLine_157 z v w = Tl z (v 13 4) (W39 (v 13 4) w) := by
  unfold j_Reader_orderLine_157 Tl
  simp only [j202 rfl]
  rfl
theorem ol_head (h6 : v 12 6 = nI t) : f_Reader_orderLine z v a = if a = 2 then j_Reader_orderLine_70 z v a (KW v t a) 55 6 else j_Reader_orderLine_70 z v a (KW v t a) 58 10 := by
  have key : ∀ v23 : Va, pu v23 12 6 (v23 12 6 + 1) = KB v t → j_Reader_orderLine_23 z v a v23 = if a = 2 then j_Reader_orderLine_70 z v a (KW v t a) 55 6 else j_Reader_orderLine_70 z v a (KW v t a) 58 10 := fun v23 h => by
    unfold j_Reader_orderLine_23 KW
    rw [bnd, h, bnd, KB_ne (p := 31) (by omega)]
  unfold f_Reader_orderLine
  by_cases hf : v 13 4 < 24
  · rw [if_pos hf]
    exact key v (by rw [next_c h6]; unfold KB; rw [if_pos hf])
  · rw [if_neg hf]
    unfold f_Reader_blame
    by_cases h0 : v 12 7 = 0
    · rw [if_pos h0, bnd, bnd, ob]
      refine key _ ?_
      have e : pu (pu v 12 7 4) 12 8 (v 12 6) = Bl v 4 t := by rw [h6]; rfl
      rw [e, next_c (by rw [Bl_6]; exact h6)]
      unfold KB
      rw [if_neg hf, if_pos h0]
    · rw [if_neg h0, ob]
      exact key _ (by rw [next_c h6]; unfold KB; rw [if_neg hf, if_neg h0])
theorem OutL.tail2 (G : GH kn nt k1 z) (hK : KD kn nt k1 u0) (hA : ALL kn nt k1 sp z u0 v us t) (ha : a1 < 3) :
    OutL id kn nt k1 sp z v us t (Tl z oi (W39 oi v)) (f_Model_mayTest z us sp k1) (fun u => OA kn nt k1 u0 v u t oi (Y4a k1 a1 u0)) (fun _ => True) (fun a u t' => SX kn nt k1 u0 a u t' X0) := by
  have hk1 := G.2.2.2.2.1
  obtain ⟨w1, w2, w3⟩ := wr_ok (v := v) (p := 39) (f := row_s 24 (v 39) oi (v 42 0)) (by omega)
  have hA' := hA
  obtain ⟨⟨l1, l2, l3, l4, l5, -⟩, hc⟩ := hA
  have hA1 : ALL kn nt k1 sp z u0 (W39 oi v) us t := hA'.to hk1 w2 FS.refl' (by show (W39 oi v) 12 6 = _; rw [show (W39 oi v) 12 = v 12 from w1]; exact l1) (by rw [show (W39 oi v) 12 = v 12 from w1]; exact l2) l3 l4 l5 (w3 hc)
  refine OutL.wr (OutL.tail (oi := oi) G hK hA1 ha) w2 w1 (fun u h => ?_)
  obtain ⟨N, O, s, h1, hO24, hoi, hY, f, hf, h37, hs⟩ := h
  have ene : ∀ p, p ≠ 39 → (W39 oi v) p = v p := fun p q => by unfold W39; rw [up_ne q]
  have e39 : (W39 oi v) 39 = upd (v 39) O (nI s) := by unfold W39; rw [up_eq, hoi, rs hO24 (by omega), h1.1.1]
  refine ⟨N, O, s, h1.cur (fun p _ q => ene p (by omega)) (fun p q1 q2 o ho => ?_) (fun _ _ _ _ => rfl) (fun _ _ _ _ _ => rfl) (fun _ _ => rfl) h1.2.2.2.1.2.2 (fun _ _ => rfl) (Nat.le_refl _) hk1, hO24, hoi, hY.fr ⟨by rw [ene 31 (by omega)], by rw [ene 33 (by omega)], by rw [ene 35 (by omega)]⟩ ⟨rfl, rfl, rfl, rfl⟩, f, hf, by rw [ene 37 (by omega)]; exact h37, by rw [e39, upd_eq], ?_⟩
  · by_cases q : p = 39
    · subst q; rw [e39, upd_ne (by omega)]
    · rw [ene p q]
  · refine hs.imp id (fun ⟨a, b, b1, b2, b3⟩ => ⟨a, b, b1, b2, ?_⟩)
    rw [segD_eq (v := v) (s - f) f (fun i _ _ => by rw [ene 44 (by omega), ene 46 (by omega), ene 48 (by omega)]; exact ⟨rfl, rfl, rfl⟩)]
    exact b3
theorem DeadL.tail (hz : 4000 < z) : DeadL id id (fun v => Tl z oi (W39 oi v)) := fun v hv => by
  obtain ⟨w1, w2, w3⟩ := wr_ok (v := v) (p := 39) (f := row_s 24 (v 39) oi (v 42 0)) (by omega)
  have h7 : (W39 oi v) 12 7 = 1 := by rw [show (W39 oi v) 12 = v 12 from w1]; exact hv
  refine ⟨fin oi (W39 oi v), ?_, fin_ok.1.trans w1, w2.tr fin_ok.2.1⟩
  show Tl z oi (W39 oi v) = _
  unfold Tl
  rw [seen_d h7, ob, if_neg (by decide)]
theorem DeadL.sum (hz : 4000 < z) : DeadL id id (fun v => g_Reader z 48 5 [0] v) := fun v hv => by
  obtain ⟨w, q1, q2, q3⟩ := (dead_S (n := 45) (d := 0) hz) v hv
  exact ⟨w, q1, q2, FRl.re q3⟩
theorem DeadL.wr33 {f : Va → Int32 → Nat → Int32} {k N' : Nat} : DeadL id id (fun w => (f_Reader_takeName z w k N').bind fun q => some (up q.2 33 (f q.2 q.1))) := DeadL.post (pb := Prod.snd) (DeadL.name (pa := id)) (fun _ _ => ⟨(wr_ok (by omega)).1, (wr_ok (by omega)).2.1⟩)
theorem wr2_ok {w : Va} {y : Int32} : (wr2 w oi y) 12 = w 12 ∧ FRl w (wr2 w oi y) := by
  obtain ⟨w1, w2, w3⟩ := wr_ok (v := w) (p := 35) (f := row_s 24 (w 35) oi y) (by omega)
  obtain ⟨x1, x2, x3⟩ := wr_ok (v := up w 35 (row_s 24 (w 35) oi y)) (p := 37) (f := row_s 24 (w 37) oi (w 42 0)) (by omega)
  exact ⟨x1.trans w1, w2.tr x2⟩
theorem DeadL.wr2 {k N' : Nat} : DeadL id id (fun w => (f_Reader_takeName z w k N').bind fun q => some (wr2 q.2 oi q.1)) := DeadL.post (pb := Prod.snd) (DeadL.name (pa := id)) (fun _ _ => wr2_ok)
/-- the class's order line, one behind the other -/
theorem oc_0 (h6 : v 12 6 = nI t) : f_Reader_orderLine z v 0 = (some (KW v t 0)).bind fun q42 => ((f_Reader_takeName z q42 58 10).bind fun q => some (up q.2 33 (row_s 24 (q.2 33) (v 13 4) q.1))).bind fun q73 => (f_Reader_take q73 13).bind fun q88 => ((f_Reader_takeName z q88 52 4).bind fun q => some (wr2 q.2 (v 13 4) q.1)).bind fun q139 => Tl z (v 13 4) (W39 (v 13 4) q139) := by
  rw [ol_head h6, if_neg (by decide)]
  unfold j_Reader_orderLine_70 j_Reader_orderLine_88 j_Reader_orderLine_115
  simp only [j157, if_true, bnd, ob, Option.bind_assoc]
  rfl
theorem oc_12 (h6 : v 12 6 = nI t) (k N' : Nat) (ha : a = 1 ∧ k = 58 ∧ N' = 10 ∨ a = 2 ∧ k = 55 ∧ N' = 6) : f_Reader_orderLine z v a = (some (KW v t a)).bind fun q42 => ((f_Reader_takeName z q42 k N').bind fun q => some (up q.2 33 (row_s 24 (q.2 33) (v 13 4) q.1))).bind fun q73 => (f_Reader_take q73 15).bind fun q88 => ((f_Reader_takeName z q88 55 6).bind fun q => some (wr2 q.2 (v 13 4) q.1)).bind fun q139 => (f_Reader_take q139 17).bind fun q149 => (g_Reader z 48 5 [0] q149).bind fun q154 => Tl z (v 13 4) (W39 (v 13 4) q154) := by
  have h10 : ((1 : Int32) = 0) = False := eq_false (by decide)
  have h20 : ((2 : Int32) = 0) = False := eq_false (by decide)
  rcases ha with ⟨rfl, rfl, rfl⟩ | ⟨rfl, rfl, rfl⟩
  · rw [ol_head h6, if_neg (by decide)]
    unfold j_Reader_orderLine_70 j_Reader_orderLine_88 j_Reader_orderLine_115
    simp only [j157, h10, if_false, bnd, ob, Option.bind_assoc]
    rfl
  · rw [ol_head h6, if_pos rfl]
    unfold j_Reader_orderLine_70 j_Reader_orderLine_88 j_Reader_orderLine_115
    simp only [j157, h20, if_false, bnd, ob, Option.bind_assoc]
    rfl
end
