/-! THE MODEL BEHIND TEACH: the steps -/
section
variable {u v w : Va} {sn f n4 n6 a9 b9 l9 o9 g M L a n sp k : Nat} {r : Nat → Int32} {ss : List S3}
theorem ok_pl {x b c : Int32} (h : x ≠ 6 ∧ x ≠ 24 ∧ x ≠ 21 ∧ x ≠ 22 ∧ x ≠ 23 ∧ x ≠ 25 ∧ x ≠ 26) : ok_S M L (x, b, c) := ⟨fun q => q.elim (fun e => absurd e h.1) (fun e => absurd e h.2.1), fun q => q.elim (fun e => absurd e h.2.2.1) (fun q => q.elim (fun e => absurd e h.2.2.2.1) (fun e => absurd e h.2.2.2.2.1)), fun e => absurd e h.2.2.2.2.2.1, fun e => absurd e h.2.2.2.2.2.2⟩
theorem ok_6 {c : Int32} (h : a < M) : ok_S M L (6, nI a, c) := ⟨fun _ => ⟨a, h, rfl⟩, fun q => absurd (show ((6 : Int32) = 21 ∨ (6 : Int32) = 22 ∨ (6 : Int32) = 23) from q) (by decide), fun q => absurd (show (6 : Int32) = 25 from q) (by decide), fun q => absurd (show (6 : Int32) = 26 from q) (by decide)⟩
theorem ok_24 {c : Int32} (h : a < M) : ok_S M L (24, nI a, c) := ⟨fun _ => ⟨a, h, rfl⟩, fun q => absurd (show ((24 : Int32) = 21 ∨ (24 : Int32) = 22 ∨ (24 : Int32) = 23) from q) (by decide), fun q => absurd (show (24 : Int32) = 25 from q) (by decide), fun q => absurd (show (24 : Int32) = 26 from q) (by decide)⟩
theorem ok_21 {c : Int32} (h : a < L) : ok_S M L (21, nI a, c) := ⟨fun q => absurd (show ((21 : Int32) = 6 ∨ (21 : Int32) = 24) from q) (by decide), fun _ => ⟨a, h, rfl⟩, fun q => absurd (show (21 : Int32) = 25 from q) (by decide), fun q => absurd (show (21 : Int32) = 26 from q) (by decide)⟩
theorem ok_22 {c : Int32} (h : a < L) : ok_S M L (22, nI a, c) := ⟨fun q => absurd (show ((22 : Int32) = 6 ∨ (22 : Int32) = 24) from q) (by decide), fun _ => ⟨a, h, rfl⟩, fun q => absurd (show (22 : Int32) = 25 from q) (by decide), fun q => absurd (show (22 : Int32) = 26 from q) (by decide)⟩
theorem ok_23 {c : Int32} (h : a < L) : ok_S M L (23, nI a, c) := ⟨fun q => absurd (show ((23 : Int32) = 6 ∨ (23 : Int32) = 24) from q) (by decide), fun _ => ⟨a, h, rfl⟩, fun q => absurd (show (23 : Int32) = 25 from q) (by decide), fun q => absurd (show (23 : Int32) = 26 from q) (by decide)⟩
theorem ok_25 (h : a < M) (h2 : n < M) : ok_S M L (25, nI a, nI n) := ⟨fun q => absurd (show ((25 : Int32) = 6 ∨ (25 : Int32) = 24) from q) (by decide), fun q => absurd (show ((25 : Int32) = 21 ∨ (25 : Int32) = 22 ∨ (25 : Int32) = 23) from q) (by decide), fun _ => ⟨⟨a, h, rfl⟩, n, h2, rfl⟩, fun q => absurd (show (25 : Int32) = 26 from q) (by decide)⟩
theorem ok_26 (h : a < M) (h2 : n < L) : ok_S M L (26, nI a, nI n) := ⟨fun q => absurd (show ((26 : Int32) = 6 ∨ (26 : Int32) = 24) from q) (by decide), fun q => absurd (show ((26 : Int32) = 21 ∨ (26 : Int32) = 22 ∨ (26 : Int32) = 23) from q) (by decide), fun q => absurd (show (26 : Int32) = 25 from q) (by decide), fun _ => ⟨⟨a, h, rfl⟩, n, h2, rfl⟩⟩
theorem sS_okS (hf : f ≤ 7) (ha : a9 < M) (hb : b9 < M) (hl : l9 < L) : ∀ s ∈ sS_ f n4 a9 b9 l9, ok_S M L s := by
  rcases (by omega : f = 0 ∨ f = 1 ∨ f = 2 ∨ f = 3 ∨ f = 4 ∨ f = 5 ∨ f = 6 ∨ f = 7) with rfl | rfl | rfl | rfl | rfl | rfl | rfl | rfl
  · exact List.forall_mem_cons.mpr ⟨(ok_pl (x := 48) (by decide)), fun s h => absurd h List.not_mem_nil⟩
  · exact List.forall_mem_cons.mpr ⟨(ok_6 ha), List.forall_mem_cons.mpr ⟨(ok_pl (x := 48) (by decide)), List.forall_mem_cons.mpr ⟨(ok_pl (x := 41) (by decide)), List.forall_mem_cons.mpr ⟨(ok_pl (x := 48) (by decide)), List.forall_mem_cons.mpr ⟨(ok_pl (x := 38) (by decide)), fun s h => absurd h List.not_mem_nil⟩⟩⟩⟩⟩
  · exact List.forall_mem_cons.mpr ⟨(ok_21 hl), List.forall_mem_cons.mpr ⟨(ok_pl (x := 48) (by decide)), List.forall_mem_cons.mpr ⟨(ok_pl (x := 41) (by decide)), List.forall_mem_cons.mpr ⟨(ok_pl (x := 48) (by decide)), List.forall_mem_cons.mpr ⟨(ok_pl (x := 39) (by decide)), fun s h => absurd h List.not_mem_nil⟩⟩⟩⟩⟩
  · exact List.forall_mem_cons.mpr ⟨(ok_25 ha hb), List.forall_mem_cons.mpr ⟨(ok_pl (x := 48) (by decide)), List.forall_mem_cons.mpr ⟨(ok_pl (x := 30) (by decide)), List.forall_mem_cons.mpr ⟨(ok_pl (x := 48) (by decide)), List.forall_mem_cons.mpr ⟨(ok_pl (x := 40) (by decide)), fun s h => absurd h List.not_mem_nil⟩⟩⟩⟩⟩
  · exact List.forall_mem_cons.mpr ⟨(ok_22 hl), List.forall_mem_cons.mpr ⟨(ok_pl (x := 48) (by decide)), List.forall_mem_cons.mpr ⟨(ok_pl (x := 31) (by decide)), List.forall_mem_cons.mpr ⟨(ok_pl (x := 19) (by decide)), List.forall_mem_cons.mpr ⟨(ok_pl (x := 39) (by decide)), fun s h => absurd h List.not_mem_nil⟩⟩⟩⟩⟩
  · exact List.forall_mem_cons.mpr ⟨(ok_pl (x := 48) (by decide)), List.forall_mem_cons.mpr ⟨(ok_pl (x := 51) (by decide)), List.forall_mem_cons.mpr ⟨(ok_24 ha), List.forall_mem_cons.mpr ⟨(ok_pl (x := 38) (by decide)), fun s h => absurd h List.not_mem_nil⟩⟩⟩⟩
  · exact List.forall_mem_cons.mpr ⟨(ok_23 hl), List.forall_mem_cons.mpr ⟨(ok_pl (x := 48) (by decide)), List.forall_mem_cons.mpr ⟨(ok_pl (x := 40) (by decide)), fun s h => absurd h List.not_mem_nil⟩⟩⟩
  · exact List.forall_mem_cons.mpr ⟨(ok_pl (x := 48) (by decide)), List.forall_mem_cons.mpr ⟨(ok_pl (x := 48) (by decide)), List.forall_mem_cons.mpr ⟨(ok_pl (x := 40) (by decide)), fun s h => absurd h List.not_mem_nil⟩⟩⟩
theorem sT_okS (hg : g ≤ 7) (ha : a9 < M) (hb : b9 < M) (hl : l9 < L) (ho : o9 < L) : ∀ s ∈ sT_ g n6 a9 b9 l9 o9, ok_S M L s := by
  rcases (by omega : g = 0 ∨ g = 1 ∨ g = 2 ∨ g = 3 ∨ g = 4 ∨ g = 5 ∨ g = 6 ∨ g = 7) with rfl | rfl | rfl | rfl | rfl | rfl | rfl | rfl
  · exact fun s h => absurd h List.not_mem_nil
  · exact List.forall_mem_cons.mpr ⟨(ok_pl (x := 19) (by decide)), List.forall_mem_cons.mpr ⟨(ok_pl (x := 48) (by decide)), List.forall_mem_cons.mpr ⟨(ok_pl (x := 48) (by decide)), List.forall_mem_cons.mpr ⟨(ok_pl (x := 41) (by decide)), List.forall_mem_cons.mpr ⟨(ok_pl (x := 43) (by decide)), fun s h => absurd h List.not_mem_nil⟩⟩⟩⟩⟩
  · exact List.forall_mem_cons.mpr ⟨(ok_26 ha hl), fun s h => absurd h List.not_mem_nil⟩
  · exact List.forall_mem_cons.mpr ⟨(ok_26 ha hl), List.forall_mem_cons.mpr ⟨(ok_pl (x := 27) (by decide)), List.forall_mem_cons.mpr ⟨(ok_6 hb), List.forall_mem_cons.mpr ⟨(ok_pl (x := 48) (by decide)), List.forall_mem_cons.mpr ⟨(ok_pl (x := 43) (by decide)), List.forall_mem_cons.mpr ⟨(ok_pl (x := 29) (by decide)), fun s h => absurd h List.not_mem_nil⟩⟩⟩⟩⟩⟩
  · exact List.forall_mem_cons.mpr ⟨(ok_21 hl), List.forall_mem_cons.mpr ⟨(ok_pl (x := 48) (by decide)), List.forall_mem_cons.mpr ⟨(ok_pl (x := 48) (by decide)), List.forall_mem_cons.mpr ⟨(ok_pl (x := 40) (by decide)), List.forall_mem_cons.mpr ⟨(ok_pl (x := 43) (by decide)), List.forall_mem_cons.mpr ⟨(ok_pl (x := 20) (by decide)), List.forall_mem_cons.mpr ⟨(ok_pl (x := 48) (by decide)), List.forall_mem_cons.mpr ⟨(ok_pl (x := 48) (by decide)), List.forall_mem_cons.mpr ⟨(ok_pl (x := 41) (by decide)), List.forall_mem_cons.mpr ⟨(ok_pl (x := 42) (by decide)), List.forall_mem_cons.mpr ⟨(ok_pl (x := 28) (by decide)), List.forall_mem_cons.mpr ⟨(ok_23 ho), List.forall_mem_cons.mpr ⟨(ok_pl (x := 48) (by decide)), List.forall_mem_cons.mpr ⟨(ok_pl (x := 48) (by decide)), List.forall_mem_cons.mpr ⟨(ok_pl (x := 41) (by decide)), List.forall_mem_cons.mpr ⟨(ok_pl (x := 45) (by decide)), List.forall_mem_cons.mpr ⟨(ok_pl (x := 29) (by decide)), fun s h => absurd h List.not_mem_nil⟩⟩⟩⟩⟩⟩⟩⟩⟩⟩⟩⟩⟩⟩⟩⟩⟩
  · exact List.forall_mem_cons.mpr ⟨(ok_24 ha), List.forall_mem_cons.mpr ⟨(ok_pl (x := 48) (by decide)), List.forall_mem_cons.mpr ⟨(ok_pl (x := 45) (by decide)), fun s h => absurd h List.not_mem_nil⟩⟩⟩
  · exact List.forall_mem_cons.mpr ⟨(ok_pl (x := 19) (by decide)), List.forall_mem_cons.mpr ⟨(ok_pl (x := 48) (by decide)), List.forall_mem_cons.mpr ⟨(ok_pl (x := 41) (by decide)), List.forall_mem_cons.mpr ⟨(ok_pl (x := 48) (by decide)), List.forall_mem_cons.mpr ⟨(ok_pl (x := 40) (by decide)), List.forall_mem_cons.mpr ⟨(ok_pl (x := 19) (by decide)), List.forall_mem_cons.mpr ⟨(ok_pl (x := 44) (by decide)), fun s h => absurd h List.not_mem_nil⟩⟩⟩⟩⟩⟩⟩
  · exact List.forall_mem_cons.mpr ⟨(ok_22 hl), List.forall_mem_cons.mpr ⟨(ok_pl (x := 48) (by decide)), List.forall_mem_cons.mpr ⟨(ok_pl (x := 48) (by decide)), List.forall_mem_cons.mpr ⟨(ok_pl (x := 40) (by decide)), List.forall_mem_cons.mpr ⟨(ok_pl (x := 43) (by decide)), List.forall_mem_cons.mpr ⟨(ok_pl (x := 27) (by decide)), fun s h => absurd h List.not_mem_nil⟩⟩⟩⟩⟩⟩
theorem sS_dep (hf : f ≤ 7) : dep (sS_ f n4 a9 b9 l9) 0 = some 1 := by
  rcases (by omega : f = 0 ∨ f = 1 ∨ f = 2 ∨ f = 3 ∨ f = 4 ∨ f = 5 ∨ f = 6 ∨ f = 7) with rfl | rfl | rfl | rfl | rfl | rfl | rfl | rfl <;> rfl
theorem sT_dep (h1 : 1 ≤ g) (hg : g ≤ 7) : dep (sT_ g n6 a9 b9 l9 o9) 0 = some 1 := by
  rcases (by omega : g = 1 ∨ g = 2 ∨ g = 3 ∨ g = 4 ∨ g = 5 ∨ g = 6 ∨ g = 7) with rfl | rfl | rfl | rfl | rfl | rfl | rfl <;> rfl
theorem sT_pos (h1 : 1 ≤ g) (hg : g ≤ 7) : 1 ≤ (sT_ g n6 a9 b9 l9 o9).length := by
  rcases (by omega : g = 1 ∨ g = 2 ∨ g = 3 ∨ g = 4 ∨ g = 5 ∨ g = 6 ∨ g = 7) with rfl | rfl | rfl | rfl | rfl | rfl | rfl <;> exact Nat.le_of_ble_eq_true rfl
theorem nb_1 {x : Bool} : (1 : Int32) - q_b x = q_b (!x) := by cases x <;> decide
theorem ob_2 {x y : Bool} : q_b x ||| q_b y = q_b (x || y) := by cases x <;> cases y <;> decide
theorem ab_2 {x y : Bool} : q_b x &&& q_b y = q_b (x && y) := by cases x <;> cases y <;> decide
theorem mb_26 {p q : Int32} : mval u sn 26 p q = q_b (decide (u (sn + 2) q.toNatClampNeg = p)) := by
  have e : mval u sn 26 p q = if u (sn + 2) q.toNatClampNeg = p then 1 else 0 := by unfold mval; rfl
  rw [e]
  by_cases h : u (sn + 2) q.toNatClampNeg = p
  · rw [if_pos h, decide_eq_true h]; rfl
  · rw [if_neg h, decide_eq_false h]; rfl
theorem wt_b (h1 : 1 ≤ g) (hg : g ≤ 7) : ∃ b, worth u sn (sT_ g n6 a9 b9 l9 o9) = q_b b := by
  unfold worth
  rcases (by omega : g = 1 ∨ g = 2 ∨ g = 3 ∨ g = 4 ∨ g = 5 ∨ g = 6 ∨ g = 7) with rfl | rfl | rfl | rfl | rfl | rfl | rfl
  · rw [show sT_ 1 n6 a9 b9 l9 o9 = [(19, 0, 0), (48, nI n6, 0), (48, 4, 0), (41, 0, 0), (43, 0, 0)] from rfl]
    simp only [ru_c, ru_0, rs_6, rs_19, rs_20, rs_21, rs_22, rs_23, rs_24, rs_25, rs_26, rs_48, rs_38, rs_39, rs_40, rs_41, rs_30, rs_31, rs_42, rs_43, rs_44, rs_45, rs_46, rs_28, rs_29, rs_51, rs_27, List.headD_cons]
    exact ⟨_, rfl⟩
  · rw [show sT_ 2 n6 a9 b9 l9 o9 = [(26, nI a9, nI l9)] from rfl]
    simp only [ru_c, ru_0, rs_6, rs_19, rs_20, rs_21, rs_22, rs_23, rs_24, rs_25, rs_26, rs_48, rs_38, rs_39, rs_40, rs_41, rs_30, rs_31, rs_42, rs_43, rs_44, rs_45, rs_46, rs_28, rs_29, rs_51, rs_27, List.headD_cons]
    exact ⟨_, mb_26⟩
  · rw [show sT_ 3 n6 a9 b9 l9 o9 = [(26, nI a9, nI l9), (27, 0, 0), (6, nI b9, 0), (48, nI n6, 0), (43, 0, 0), (29, 0, 0)] from rfl]
    simp only [ru_c, ru_0, rs_6, rs_19, rs_20, rs_21, rs_22, rs_23, rs_24, rs_25, rs_26, rs_48, rs_38, rs_39, rs_40, rs_41, rs_30, rs_31, rs_42, rs_43, rs_44, rs_45, rs_46, rs_28, rs_29, rs_51, rs_27, List.headD_cons]
    rw [mb_26, nb_1, ob_2]
    exact ⟨_, rfl⟩
  · rw [show sT_ 4 n6 a9 b9 l9 o9 = [(21, nI l9, 0), (48, nI n6, 0), (48, 10, 0), (40, 0, 0), (43, 0, 0), (20, 0, 0), (48, nI n6, 0), (48, 3, 0), (41, 0, 0), (42, 0, 0), (28, 0, 0), (23, nI o9, 0), (48, nI n6, 0), (48, 9, 0), (41, 0, 0), (45, 0, 0), (29, 0, 0)] from rfl]
    simp only [ru_c, ru_0, rs_6, rs_19, rs_20, rs_21, rs_22, rs_23, rs_24, rs_25, rs_26, rs_48, rs_38, rs_39, rs_40, rs_41, rs_30, rs_31, rs_42, rs_43, rs_44, rs_45, rs_46, rs_28, rs_29, rs_51, rs_27, List.headD_cons]
    rw [ab_2, ob_2]
    exact ⟨_, rfl⟩
  · rw [show sT_ 5 n6 a9 b9 l9 o9 = [(24, nI a9, 0), (48, nI n6, 0), (45, 0, 0)] from rfl]
    simp only [ru_c, ru_0, rs_6, rs_19, rs_20, rs_21, rs_22, rs_23, rs_24, rs_25, rs_26, rs_48, rs_38, rs_39, rs_40, rs_41, rs_30, rs_31, rs_42, rs_43, rs_44, rs_45, rs_46, rs_28, rs_29, rs_51, rs_27, List.headD_cons]
    exact ⟨_, rfl⟩
  · rw [show sT_ 6 n6 a9 b9 l9 o9 = [(19, 0, 0), (48, 2, 0), (41, 0, 0), (48, 2, 0), (40, 0, 0), (19, 0, 0), (44, 0, 0)] from rfl]
    simp only [ru_c, ru_0, rs_6, rs_19, rs_20, rs_21, rs_22, rs_23, rs_24, rs_25, rs_26, rs_48, rs_38, rs_39, rs_40, rs_41, rs_30, rs_31, rs_42, rs_43, rs_44, rs_45, rs_46, rs_28, rs_29, rs_51, rs_27, List.headD_cons]
    exact ⟨_, rfl⟩
  · rw [show sT_ 7 n6 a9 b9 l9 o9 = [(22, nI l9, 0), (48, nI n6, 0), (48, 9, 0), (40, 0, 0), (43, 0, 0), (27, 0, 0)] from rfl]
    simp only [ru_c, ru_0, rs_6, rs_19, rs_20, rs_21, rs_22, rs_23, rs_24, rs_25, rs_26, rs_48, rs_38, rs_39, rs_40, rs_41, rs_30, rs_31, rs_42, rs_43, rs_44, rs_45, rs_46, rs_28, rs_29, rs_51, rs_27, List.headD_cons]
    rw [nb_1]
    exact ⟨_, rfl⟩
theorem stS_eq (h3 : r 3 = nI f) (h4 : r 4 = nI n4) (h7 : r 7 = nI a9) (h8 : r 8 = nI b9) (h9 : r 9 = nI l9) (hf : f ≤ 7) : stS r = sS_ f n4 a9 b9 l9 := by
  unfold stS
  rw [h3, h4, h7, h8, h9]
  rcases (by omega : f = 0 ∨ f = 1 ∨ f = 2 ∨ f = 3 ∨ f = 4 ∨ f = 5 ∨ f = 6 ∨ f = 7) with rfl | rfl | rfl | rfl | rfl | rfl | rfl | rfl
  · rw [if_pos (by decide)]; rfl
  · rw [if_neg (by decide), if_pos (by decide)]; rfl
  · rw [if_neg (by decide), if_neg (by decide), if_pos (by decide)]; rfl
  · rw [if_neg (by decide), if_neg (by decide), if_neg (by decide), if_pos (by decide)]; rfl
  · rw [if_neg (by decide), if_neg (by decide), if_neg (by decide), if_neg (by decide), if_pos (by decide)]; rfl
  · rw [if_neg (by decide), if_neg (by decide), if_neg (by decide), if_neg (by decide), if_neg (by decide), if_pos (by decide)]; rfl
  · rw [if_neg (by decide), if_neg (by decide), if_neg (by decide), if_neg (by decide), if_neg (by decide), if_neg (by decide), if_pos (by decide)]; rfl
  · rw [if_neg (by decide), if_neg (by decide), if_neg (by decide), if_neg (by decide), if_neg (by decide), if_neg (by decide), if_neg (by decide)]; rfl
theorem stT_eq (h5 : r 5 = nI g + -1) (h6 : r 6 = nI n6) (h7 : r 7 = nI a9) (h8 : r 8 = nI b9) (h9 : r 9 = nI l9) (h10 : r 10 = nI o9) (hg : g ≤ 7) : stT r = sT_ g n6 a9 b9 l9 o9 := by
  unfold stT
  rw [h5, h6, h7, h8, h9, h10]
  rcases (by omega : g = 0 ∨ g = 1 ∨ g = 2 ∨ g = 3 ∨ g = 4 ∨ g = 5 ∨ g = 6 ∨ g = 7) with rfl | rfl | rfl | rfl | rfl | rfl | rfl | rfl
  · rw [if_pos (by decide)]; rfl
  · rw [if_neg (by decide), if_pos (by decide)]; rfl
  · rw [if_neg (by decide), if_neg (by decide), if_pos (by decide)]; rfl
  · rw [if_neg (by decide), if_neg (by decide), if_neg (by decide), if_pos (by decide)]; rfl
  · rw [if_neg (by decide), if_neg (by decide), if_neg (by decide), if_neg (by decide), if_pos (by decide)]; rfl
  · rw [if_neg (by decide), if_neg (by decide), if_neg (by decide), if_neg (by decide), if_neg (by decide), if_pos (by decide)]; rfl
  · rw [if_neg (by decide), if_neg (by decide), if_neg (by decide), if_neg (by decide), if_neg (by decide), if_neg (by decide), if_pos (by decide)]; rfl
  · rw [if_neg (by decide), if_neg (by decide), if_neg (by decide), if_neg (by decide), if_neg (by decide), if_neg (by decide), if_neg (by decide)]; rfl
theorem sgU_of : ∀ (ss : List S3) (a : Nat), (∀ i (s : S3), ss[i]? = some s → u (sp + 1) (a + i) = s.1 ∧ u (sp + 2) (a + i) = s.2.1 ∧ u (sp + 3) (a + i) = s.2.2) → sgU u sp a ss.length = ss
  | [], _, _ => rfl
  | s :: ss, a, h => by
    obtain ⟨h1, h2, h3⟩ := h 0 s rfl
    rw [Nat.add_zero a] at h1 h2 h3
    show (u (sp + 1) a, u (sp + 2) a, u (sp + 3) a) :: sgU u sp (a + 1) ss.length = s :: ss
    rw [h1, h2, h3, sgU_of ss (a + 1) fun i t ht => by rw [show a + 1 + i = a + (i + 1) by omega]; exact h (i + 1) t ht]
theorem seg_of : ∀ (ss : List S3) (a : Nat), (∀ i (s : S3), ss[i]? = some s → v 92 (a + i) = s.1 ∧ v 94 (a + i) = s.2.1 ∧ v 96 (a + i) = s.2.2) → seg v a ss.length = ss
  | [], _, _ => rfl
  | s :: ss, a, h => by
    obtain ⟨h1, h2, h3⟩ := h 0 s rfl
    rw [Nat.add_zero a] at h1 h2 h3
    show (v 92 a, v 94 a, v 96 a) :: seg v (a + 1) ss.length = s :: ss
    rw [h1, h2, h3, seg_of ss (a + 1) fun i t ht => by rw [show a + 1 + i = a + (i + 1) by omega]; exact h (i + 1) t ht]
end
