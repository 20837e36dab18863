/-! THE READER READS LIST'S TEXT, TO ITS END -/
section
variable {v v0 w w1 : Va} {F : List Int32 → Int32} {L0 s g m l o n t i p c k : Nat} {xs : Nat → Int32}
theorem oSS_len {j : Nat} : (oSS L0 xs j).length ≤ 5 := by
  unfold oSS sH_
  split
  · exact Nat.zero_le _
  · exact sS_len
theorem st_or (hF : FIx F L0 xs) (ho : o < liO L0 xs) (hi : i < 400) (hn : n + (orA_ (liG L0 xs) (liM L0 xs) (liT L0 xs) L0 xs o).length < 400) (hT : TA v0 F n (orA_ (liG L0 xs) (liM L0 xs) (liT L0 xs) L0 xs o)) (ht : t ≤ 22 * o) (h : RIx L0 xs v0 F w (liL L0 xs) (liG L0 xs) (liM L0 xs) (liT L0 xs) o n t) : ∃ w1 t1, RUNx i w = RUNx (i + 1) w1 ∧ t1 ≤ 22 * (o + 1) ∧ RIx L0 xs v0 F w1 (liL L0 xs) (liG L0 xs) (liM L0 xs) (liT L0 xs) (o + 1) (n + (orA_ (liG L0 xs) (liM L0 xs) (liT L0 xs) L0 xs o).length) t1 := by
  obtain ⟨⟨h7, h6, h13, h42⟩, ⟨d1, d2, d3, d4⟩, ⟨e1, e2, e3, e4⟩, r1, r2, r3, r4, r5, fr⟩ := h
  have hT := TA.cg (w := w) (fr 5 (by omega)) (fr 11 (by omega)) hT
  obtain ⟨b1, b2, b3, b4, b5⟩ := li_le (L0 := L0) (xs := xs)
  obtain ⟨a1, a2, a3, a4, a5, a6, a7, a8, a9, a10, a11, -⟩ := or_le (ng := liG L0 xs) (nm := liM L0 xs) (nt := liT L0 xs) (L0 := L0) (xs := xs) (i := o) b2 ⟨by omega, b3.2⟩ b4
  have hM : ∀ j, j < liM L0 xs → NMs w 55 6 j (F [109, nI (48 + j)]) := fun j hj => ⟨_, e3, by omega, hj, (r3 j hj).1, fun i hi => by rw [(r3 i (by omega)).1]; exact fun q => by have := hF.2.2.1 i j (by omega) hj q; omega⟩
  have hL : ∀ j, j < liT L0 xs → NMs w 58 10 j (F [108, nI (48 + j)]) := fun j hj => ⟨_, e4, by omega, hj, (r4 j hj).1, fun i hi => by rw [(r4 i (by omega)).1]; exact fun q => by have := hF.2.2.2 i j (by omega) hj q; omega⟩
  have hG : ∀ j, j < liG L0 xs → NMs w 52 4 j (F [103, nI (48 + j)]) := fun j hj => ⟨_, e2, by omega, hj, (r2 j hj).1, fun i hi => by rw [(r2 i (by omega)).1]; exact fun q => by have := hF.2.1 i j (by omega) hj q; omega⟩
  have hA := hM (orA (liM L0 xs) L0 xs o) (bel_lt (by omega))
  have hB := hM (orB (liM L0 xs) L0 xs o) (bel_lt (by omega))
  have hO1 := hL (orL (liT L0 xs) L0 xs o) (bel_lt (by omega))
  have hO2 := hL (orM (liT L0 xs) L0 xs o) (bel_lt (by omega))
  have key : ∃ w1, RUNx i w = RUNx (i + 1) w1 ∧ w1 12 7 = 0 ∧ w1 12 6 = nI (n + (orA_ (liG L0 xs) (liM L0 xs) (liT L0 xs) L0 xs o).length) ∧ OLx w w1 o (orS L0 xs o) (orO (liM L0 xs) (liT L0 xs) L0 xs o) (orW (liG L0 xs) (liM L0 xs) L0 xs o) t (oSS L0 xs o) (oST L0 xs o) := by
    unfold orA_ at hT hn ⊢
    unfold oSS oST
    have q3 : orS L0 xs o = 0 ∨ orS L0 xs o = 1 ∨ orS L0 xs o = 2 := by omega
    rcases q3 with hs | hs | hs
    · have q1 : orO (liM L0 xs) (liT L0 xs) L0 xs o < liT L0 xs := by
        unfold orO; rw [if_neg (by rw [hs]; decide)]; exact bel_lt (by omega)
      have q2 : orW (liG L0 xs) (liM L0 xs) L0 xs o < liG L0 xs := by
        unfold orW; rw [if_pos hs]; exact bel_lt (by omega)
      rw [hs] at hT hn ⊢
      obtain ⟨hk, w1, e, c1, c2, c3⟩ := or_l0 h7 h6 h13 (by omega) h42 hT hn a4 a6 (by omega) (by omega) (hL _ q1) (hG _ q2) hA hB hO1 hO2 (by omega)
      exact ⟨w1, run_or0 hi h7 h6 (by omega) hk e, c1, c2, c3⟩
    · have q1 : orO (liM L0 xs) (liT L0 xs) L0 xs o < liT L0 xs := by
        unfold orO; rw [if_neg (by rw [hs]; decide)]; exact bel_lt (by omega)
      have q2 : orW (liG L0 xs) (liM L0 xs) L0 xs o < liM L0 xs := by
        unfold orW; rw [if_neg (by rw [hs]; decide)]; exact bel_lt (by omega)
      rw [hs] at hT hn ⊢
      obtain ⟨hk, w1, e, c1, c2, c3⟩ := or_l1 h7 h6 h13 (by omega) h42 hT hn a4 a6 (by omega) (by omega) (hL _ q1) (hM _ q2) hA hB hO1 hO2 (by omega)
      exact ⟨w1, run_or1 hi h7 h6 (by omega) hk e, c1, c2, c3⟩
    · have q1 : orO (liM L0 xs) (liT L0 xs) L0 xs o < liM L0 xs := by
        unfold orO; rw [if_pos hs]; exact bel_lt (by omega)
      have q2 : orW (liG L0 xs) (liM L0 xs) L0 xs o < liM L0 xs := by
        unfold orW; rw [if_neg (by rw [hs]; decide)]; exact bel_lt (by omega)
      rw [hs] at hT hn ⊢
      obtain ⟨hk, w1, e, c1, c2, c3⟩ := or_l2 h7 h6 h13 (by omega) h42 hT hn a4 a6 (by omega) (by omega) (hM _ q1) (hM _ q2) hA hB hO1 hO2 (by omega)
      exact ⟨w1, run_or2 hi h7 h6 (by omega) hk e, c1, c2, c3⟩
  obtain ⟨w1, eq, c1, c2, c3, c4, c5, c6, c7, c8, c9, c10, c11, c12, c13, c14⟩ := key
  have fq : ∀ q, q ≠ 12 → q ≠ 13 → q ≠ 31 → q ≠ 33 → q ≠ 35 → q ≠ 37 → q ≠ 39 → q ≠ 41 → q ≠ 42 → q ≠ 44 → q ≠ 46 → q ≠ 48 → w1 q = w q := c14
  have hl1 := oSS_len (L0 := L0) (xs := xs) (j := o)
  have hl2 : (oST L0 xs o).length ≤ 17 := sT_len
  refine ⟨w1, t + (oSS L0 xs o).length + (oST L0 xs o).length, eq, by omega, ⟨c1, c2, by rw [c3, upd_eq], c10⟩, ⟨by rw [fq 49 (by omega) (by omega) (by omega) (by omega) (by omega) (by omega) (by omega) (by omega) (by omega) (by omega) (by omega) (by omega)]; exact d1, by rw [fq 52 (by omega) (by omega) (by omega) (by omega) (by omega) (by omega) (by omega) (by omega) (by omega) (by omega) (by omega) (by omega)]; exact d2, by rw [fq 55 (by omega) (by omega) (by omega) (by omega) (by omega) (by omega) (by omega) (by omega) (by omega) (by omega) (by omega) (by omega)]; exact d3, by rw [fq 58 (by omega) (by omega) (by omega) (by omega) (by omega) (by omega) (by omega) (by omega) (by omega) (by omega) (by omega) (by omega)]; exact d4⟩, ⟨by rw [fq 49 (by omega) (by omega) (by omega) (by omega) (by omega) (by omega) (by omega) (by omega) (by omega) (by omega) (by omega) (by omega)]; exact e1, by rw [fq 52 (by omega) (by omega) (by omega) (by omega) (by omega) (by omega) (by omega) (by omega) (by omega) (by omega) (by omega) (by omega)]; exact e2, by rw [fq 55 (by omega) (by omega) (by omega) (by omega) (by omega) (by omega) (by omega) (by omega) (by omega) (by omega) (by omega) (by omega)]; exact e3, by rw [fq 58 (by omega) (by omega) (by omega) (by omega) (by omega) (by omega) (by omega) (by omega) (by omega) (by omega) (by omega) (by omega)]; exact e4⟩, fun j hj => ?_, fun j hj => ?_, fun j hj => ?_, fun j hj => ?_, fun j hj => ?_, fun q hq => by rw [fq q (by omega) (by omega) (by omega) (by omega) (by omega) (by omega) (by omega) (by omega) (by omega) (by omega) (by omega) (by omega)]; exact fr q hq⟩
  · rw [fq 51 (by omega) (by omega) (by omega) (by omega) (by omega) (by omega) (by omega) (by omega) (by omega) (by omega) (by omega) (by omega), fq 15 (by omega) (by omega) (by omega) (by omega) (by omega) (by omega) (by omega) (by omega) (by omega) (by omega) (by omega) (by omega)]; exact r1 j hj
  · rw [fq 54 (by omega) (by omega) (by omega) (by omega) (by omega) (by omega) (by omega) (by omega) (by omega) (by omega) (by omega) (by omega), fq 17 (by omega) (by omega) (by omega) (by omega) (by omega) (by omega) (by omega) (by omega) (by omega) (by omega) (by omega) (by omega), fq 19 (by omega) (by omega) (by omega) (by omega) (by omega) (by omega) (by omega) (by omega) (by omega) (by omega) (by omega) (by omega)]; exact r2 j hj
  · rw [fq 57 (by omega) (by omega) (by omega) (by omega) (by omega) (by omega) (by omega) (by omega) (by omega) (by omega) (by omega) (by omega), fq 21 (by omega) (by omega) (by omega) (by omega) (by omega) (by omega) (by omega) (by omega) (by omega) (by omega) (by omega) (by omega), fq 23 (by omega) (by omega) (by omega) (by omega) (by omega) (by omega) (by omega) (by omega) (by omega) (by omega) (by omega) (by omega)]; exact r3 j hj
  · rw [fq 60 (by omega) (by omega) (by omega) (by omega) (by omega) (by omega) (by omega) (by omega) (by omega) (by omega) (by omega) (by omega), fq 25 (by omega) (by omega) (by omega) (by omega) (by omega) (by omega) (by omega) (by omega) (by omega) (by omega) (by omega) (by omega), fq 27 (by omega) (by omega) (by omega) (by omega) (by omega) (by omega) (by omega) (by omega) (by omega) (by omega) (by omega) (by omega), fq 29 (by omega) (by omega) (by omega) (by omega) (by omega) (by omega) (by omega) (by omega) (by omega) (by omega) (by omega) (by omega)]; exact r4 j hj
  · by_cases e : j = o
    · subst e
      exact ⟨t, by rw [c4, upd_eq], by rw [c5, upd_eq], by rw [c6, upd_eq], by rw [c7, upd_eq], by rw [c8, upd_eq], by rw [c9, upd_eq], Nat.le_refl _, c11, c12⟩
    · refine (r5 j (by omega)).keep (by omega) (fun q hq => ?_) c13
      rcases hq with rfl | rfl | rfl | rfl | rfl | rfl
      · rw [c4, upd_ne e]
      · rw [c5, upd_ne e]
      · rw [c6, upd_ne e]
      · rw [c7, upd_ne e]
      · rw [c8, upd_ne e]
      · rw [c9, upd_ne e]
theorem TA_cat {h : Nat → List Pz} : ∀ {S : Nat} {i : Nat}, TA v F p (cat_ h S) → i < S → TA v F (p + (cat_ h i).length) (h i)
  | 0, _, _, hi => absurd hi (Nat.not_lt_zero _)
  | S + 1, i, hT, hi => by
    have hT2 : TA v F p (cat_ h S ++ h S) := hT
    by_cases e : i = S
    · rw [e]; exact hT2.right
    · exact TA_cat hT2.left (by omega)
theorem cat_s {h : Nat → List Pz} : (cat_ h (k + 1)).length = (cat_ h k).length + (h k).length := List.length_append
theorem lp_spice (hF : FIx F L0 xs) (hc : c ≤ 30) (hp : p ≤ 120) (hT : TA v0 F p (cat_ (spA L0 xs) (liL L0 xs))) (h : RIx L0 xs v0 F w 0 0 0 0 0 p 0) : ∀ k, k ≤ liL L0 xs → ∃ w1, RUNx c w = RUNx (c + k) w1 ∧ RIx L0 xs v0 F w1 k 0 0 0 0 (p + (cat_ (spA L0 xs) k).length) 0
  | 0, _ => ⟨w, rfl, h⟩
  | k + 1, hk => by
    obtain ⟨w1, e1, h1⟩ := lp_spice hF hc hp hT h k (by omega)
    obtain ⟨b1, b2, b3, b4, b5⟩ := li_le (L0 := L0) (xs := xs)
    have hl := cat_len (h := spA L0 xs) (c := 5) (fun i => Nat.le_refl _) k
    obtain ⟨w2, e2, h2⟩ := st_spice hF (by omega) (i := c + k) (by omega) (by omega) (TA_cat hT (by omega)) h1
    refine ⟨w2, e1.trans e2, ?_⟩
    rw [cat_s, ← Nat.add_assoc]
    exact h2
theorem lp_guild (hF : FIx F L0 xs) (hc : c ≤ 30) (hp : p ≤ 120) (hT : TA v0 F p (cat_ (guA L0 xs) (liG L0 xs))) (h : RIx L0 xs v0 F w s 0 0 0 0 p 0) : ∀ k, k ≤ liG L0 xs → ∃ w1, RUNx c w = RUNx (c + k) w1 ∧ RIx L0 xs v0 F w1 s k 0 0 0 (p + (cat_ (guA L0 xs) k).length) 0
  | 0, _ => ⟨w, rfl, h⟩
  | k + 1, hk => by
    obtain ⟨w1, e1, h1⟩ := lp_guild hF hc hp hT h k (by omega)
    obtain ⟨b1, b2, b3, b4, b5⟩ := li_le (L0 := L0) (xs := xs)
    have hl := cat_len (h := guA L0 xs) (c := 7) (fun i => Nat.le_refl _) k
    obtain ⟨w2, e2, h2⟩ := st_guild hF (by omega) (i := c + k) (by omega) (by omega) (TA_cat hT (by omega)) h1
    refine ⟨w2, e1.trans e2, ?_⟩
    rw [cat_s, ← Nat.add_assoc]
    exact h2
theorem lp_merchant (hF : FIx F L0 xs) (hc : c ≤ 30) (hp : p ≤ 120) (hT : TA v0 F p (cat_ (meA L0 xs) (liM L0 xs))) (h : RIx L0 xs v0 F w s g 0 0 0 p 0) : ∀ k, k ≤ liM L0 xs → ∃ w1, RUNx c w = RUNx (c + k) w1 ∧ RIx L0 xs v0 F w1 s g k 0 0 (p + (cat_ (meA L0 xs) k).length) 0
  | 0, _ => ⟨w, rfl, h⟩
  | k + 1, hk => by
    obtain ⟨w1, e1, h1⟩ := lp_merchant hF hc hp hT h k (by omega)
    obtain ⟨b1, b2, b3, b4, b5⟩ := li_le (L0 := L0) (xs := xs)
    have hl := cat_len (h := meA L0 xs) (c := 7) (fun i => Nat.le_refl _) k
    obtain ⟨w2, e2, h2⟩ := st_merchant hF (by omega) (i := c + k) (by omega) (by omega) (TA_cat hT (by omega)) h1
    refine ⟨w2, e1.trans e2, ?_⟩
    rw [cat_s, ← Nat.add_assoc]
    exact h2
theorem lp_lot (hF : FIx F L0 xs) (hc : c ≤ 30) (hp : p ≤ 120) (hT : TA v0 F p (cat_ (ltA (liL L0 xs) (liM L0 xs) L0 xs) (liT L0 xs))) (h : RIx L0 xs v0 F w (liL L0 xs) g (liM L0 xs) 0 0 p 0) : ∀ k, k ≤ liT L0 xs → ∃ w1, RUNx c w = RUNx (c + k) w1 ∧ RIx L0 xs v0 F w1 (liL L0 xs) g (liM L0 xs) k 0 (p + (cat_ (ltA (liL L0 xs) (liM L0 xs) L0 xs) k).length) 0
  | 0, _ => ⟨w, rfl, h⟩
  | k + 1, hk => by
    obtain ⟨w1, e1, h1⟩ := lp_lot hF hc hp hT h k (by omega)
    obtain ⟨b1, b2, b3, b4, b5⟩ := li_le (L0 := L0) (xs := xs)
    have hl := cat_len (h := ltA (liL L0 xs) (liM L0 xs) L0 xs) (c := 9) (fun i => Nat.le_refl _) k
    obtain ⟨w2, e2, h2⟩ := st_lot hF (by omega) (i := c + k) (by omega) (by omega) (TA_cat hT (by omega)) h1
    refine ⟨w2, e1.trans e2, ?_⟩
    rw [cat_s, ← Nat.add_assoc]
    exact h2
theorem lp_order (hF : FIx F L0 xs) (hc : c ≤ 30) (hp : p ≤ 120) (hT : TA v0 F p (cat_ (orA_ (liG L0 xs) (liM L0 xs) (liT L0 xs) L0 xs) (liO L0 xs))) (h : RIx L0 xs v0 F w (liL L0 xs) (liG L0 xs) (liM L0 xs) (liT L0 xs) 0 p 0) : ∀ k, k ≤ liO L0 xs → ∃ w1 t1, RUNx c w = RUNx (c + k) w1 ∧ t1 ≤ 22 * k ∧ RIx L0 xs v0 F w1 (liL L0 xs) (liG L0 xs) (liM L0 xs) (liT L0 xs) k (p + (cat_ (orA_ (liG L0 xs) (liM L0 xs) (liT L0 xs) L0 xs) k).length) t1
  | 0, _ => ⟨w, 0, rfl, Nat.le_refl _, h⟩
  | k + 1, hk => by
    obtain ⟨w1, t1, e1, ht, h1⟩ := lp_order hF hc hp hT h k (by omega)
    obtain ⟨b1, b2, b3, b4, b5⟩ := li_le (L0 := L0) (xs := xs)
    have hl := cat_len (h := orA_ (liG L0 xs) (liM L0 xs) (liT L0 xs) L0 xs) (c := 38) (fun i => or_len) k
    have hl2 : (orA_ (liG L0 xs) (liM L0 xs) (liT L0 xs) L0 xs k).length ≤ 38 := or_len
    obtain ⟨w2, t2, e2, ht2, h2⟩ := st_or hF (by omega) (i := c + k) (by omega) (by omega) (TA_cat hT (by omega)) ht h1
    refine ⟨w2, t2, e1.trans e2, ht2, ?_⟩
    rw [cat_s, ← Nat.add_assoc]
    exact h2
/-- what the reader has read -/
def RDx (L0 : Nat) (xs : Nat → Int32) (v w : Va) : Prop :=
  w 12 7 = 0 ∧ (w 13 0 = nI (liL L0 xs) ∧ w 13 1 = nI (liG L0 xs) ∧ w 13 2 = nI (liM L0 xs) ∧ w 13 3 = nI (liT L0 xs) ∧ w 13 4 = nI (liO L0 xs)) ∧
  (∀ j, j < liL L0 xs → w 15 j = nI (loX L0 xs j)) ∧ (∀ j, j < liG L0 xs → w 17 j = nI (guF L0 xs j) ∧ w 19 j = nI (guB L0 xs j)) ∧
  (∀ j, j < liM L0 xs → w 21 j = nI (meC L0 xs j) ∧ w 23 j = nI (meD L0 xs j)) ∧
  (∀ j, j < liT L0 xs → w 25 j = nI (ltS (liL L0 xs) L0 xs j) ∧ w 27 j = nI (ltK L0 xs j) ∧ w 29 j = nI (ltM (liM L0 xs) L0 xs j)) ∧
  (∀ j, j < liO L0 xs → OSt L0 xs w j 160) ∧ ∀ q, q < 12 ∨ 60 < q → w q = v q
theorem rd_begin (h : v 49 1 = 4 ∧ v 52 1 = 4 ∧ v 55 1 = 6 ∧ v 58 1 = 10) : ∃ w, f_Reader_begin v = some w ∧ RIx L0 xs v F w 0 0 0 0 0 0 0 := by
  refine ⟨pu (pu (pu (pu (pu (pu (pu (pu (pu v 12 6 0) 12 7 0) 12 8 0) 49 2 0) 52 2 0) 55 2 0) 58 2 0) 13 4 0) 42 0 0, rfl, ⟨?_, ?_, ?_, ?_⟩, ⟨?_, ?_, ?_, ?_⟩, ⟨?_, ?_, ?_, ?_⟩, fun j hj => absurd hj (Nat.not_lt_zero _), fun j hj => absurd hj (Nat.not_lt_zero _), fun j hj => absurd hj (Nat.not_lt_zero _), fun j hj => absurd hj (Nat.not_lt_zero _), fun j hj => absurd hj (Nat.not_lt_zero _), fun q hq => ?_⟩
  · simp (disch := omega) only [pu_p, pu_d, pu_s]
  · simp (disch := omega) only [pu_p, pu_d, pu_s]; rfl
  · simp (disch := omega) only [pu_p, pu_d, pu_s]; rfl
  · simp (disch := omega) only [pu_p, pu_d, pu_s]; rfl
  · simp (disch := omega) only [pu_p, pu_d, pu_s]; exact h.1
  · simp (disch := omega) only [pu_p, pu_d, pu_s]; exact h.2.1
  · simp (disch := omega) only [pu_p, pu_d, pu_s]; exact h.2.2.1
  · simp (disch := omega) only [pu_p, pu_d, pu_s]; exact h.2.2.2
  · simp (disch := omega) only [pu_p, pu_d, pu_s]; rfl
  · simp (disch := omega) only [pu_p, pu_d, pu_s]; rfl
  · simp (disch := omega) only [pu_p, pu_d, pu_s]; rfl
  · simp (disch := omega) only [pu_p, pu_d, pu_s]; rfl
  · simp (disch := omega) only [pu_p]
theorem li_read (hF : FIx F L0 xs) (hT : TA v F 0 (liP L0 xs)) (hend : v 5 (liP L0 xs).length = 49) (h : v 49 1 = 4 ∧ v 52 1 = 4 ∧ v 55 1 = 6 ∧ v 58 1 = 10) : ∃ w, f_Reader_read 4001 v = some (0, w) ∧ RDx L0 xs v w := by
  obtain ⟨b1, b2, b3, b4, b5⟩ := li_le (L0 := L0) (xs := xs)
  have a1 := cat_len (h := spA L0 xs) (c := 5) (fun i => Nat.le_refl _) (liL L0 xs)
  have a2 := cat_len (h := guA L0 xs) (c := 7) (fun i => Nat.le_refl _) (liG L0 xs)
  have a3 := cat_len (h := meA L0 xs) (c := 7) (fun i => Nat.le_refl _) (liM L0 xs)
  have a4 := cat_len (h := ltA (liL L0 xs) (liM L0 xs) L0 xs) (c := 9) (fun i => Nat.le_refl _) (liT L0 xs)
  have hlen := li_len (L0 := L0) (xs := xs)
  have hlenE : (liP L0 xs).length = (cat_ (spA L0 xs) (liL L0 xs)).length + ((cat_ (guA L0 xs) (liG L0 xs)).length + ((cat_ (meA L0 xs) (liM L0 xs)).length + ((cat_ (ltA (liL L0 xs) (liM L0 xs) L0 xs) (liT L0 xs)).length + (cat_ (orA_ (liG L0 xs) (liM L0 xs) (liT L0 xs) L0 xs) (liO L0 xs)).length))) := by
    unfold liP; simp only [List.length_append]
  unfold liP at hT
  have t1 := hT.left
  have t2 := hT.right.left
  have t3 := hT.right.right.left
  have t4 := hT.right.right.right.left
  have t5 := hT.right.right.right.right
  obtain ⟨w0, e0, h0⟩ := rd_begin (F := F) (L0 := L0) (xs := xs) h
  obtain ⟨w1, e1, h1⟩ := lp_spice (c := 0) hF (by omega) (by omega) t1 h0 _ (Nat.le_refl _)
  obtain ⟨w2, e2, h2⟩ := lp_guild (c := 0 + liL L0 xs) hF (by omega) (by omega) t2 h1 _ (Nat.le_refl _)
  obtain ⟨w3, e3, h3⟩ := lp_merchant (c := 0 + liL L0 xs + liG L0 xs) hF (by omega) (by omega) t3 h2 _ (Nat.le_refl _)
  obtain ⟨w4, e4, h4⟩ := lp_lot (c := 0 + liL L0 xs + liG L0 xs + liM L0 xs) hF (by omega) (by omega) t4 h3 _ (Nat.le_refl _)
  obtain ⟨w5, tt, e5, ht, h5⟩ := lp_order (c := 0 + liL L0 xs + liG L0 xs + liM L0 xs + liT L0 xs) hF (by omega) (by omega) t5 h4 _ (Nat.le_refl _)
  obtain ⟨⟨h7, h6, h13, h42⟩, -, ⟨g1, g2, g3, g4⟩, r1, r2, r3, r4, r5, fr⟩ := h5
  have hn9 : 0 + (cat_ (spA L0 xs) (liL L0 xs)).length + (cat_ (guA L0 xs) (liG L0 xs)).length + (cat_ (meA L0 xs) (liM L0 xs)).length + (cat_ (ltA (liL L0 xs) (liM L0 xs) L0 xs) (liT L0 xs)).length + (cat_ (orA_ (liG L0 xs) (liM L0 xs) (liT L0 xs) L0 xs) (liO L0 xs)).length = (liP L0 xs).length := by omega
  rw [hn9] at h6
  have e6 := run_end (i := 0 + liL L0 xs + liG L0 xs + liM L0 xs + liT L0 xs + liO L0 xs) (by omega) h7 h6 (by omega) (by rw [fr 5 (by omega)]; exact hend)
  have hrun : f_Reader_read 4001 v = j_Reader_read_184 (nI (0 + liL L0 xs + liG L0 xs + liM L0 xs + liT L0 xs + liO L0 xs), w5) := by
    unfold f_Reader_read
    rw [e0, ob]
    show RUNx 0 w0 = _
    rw [e1, e2, e3, e4, e5, e6]
  refine ⟨pu (pu (pu (pu w5 13 0 (nI (liL L0 xs))) 13 1 (nI (liG L0 xs))) 13 2 (nI (liM L0 xs))) 13 3 (nI (liT L0 xs)), ?_, ?_, ⟨?_, ?_, ?_, ?_, ?_⟩, fun j hj => ?_, fun j hj => ?_, fun j hj => ?_, fun j hj => ?_, fun j hj => ?_, fun q hq => ?_⟩
  · rw [hrun]
    unfold j_Reader_read_184 f_Names_told
    simp (disch := omega) only [ob, bd, pu_p, g1, g2, g3, g4, h7]
  · simp (disch := omega) only [pu_p]; exact h7
  · simp (disch := omega) only [pu_d, pu_s]
  · simp (disch := omega) only [pu_d, pu_s]
  · simp (disch := omega) only [pu_d, pu_s]
  · simp (disch := omega) only [pu_s]
  · simp (disch := omega) only [pu_d]; exact h13
  · simp (disch := omega) only [pu_p]; exact (r1 j hj).2
  · simp (disch := omega) only [pu_p]; exact (r2 j hj).2
  · simp (disch := omega) only [pu_p]; exact (r3 j hj).2
  · simp (disch := omega) only [pu_p]; exact (r4 j hj).2
  · refine (r5 j hj).keep (by omega) (fun q hq => ?_) (fun i _ => ?_)
    · simp (disch := omega) only [pu_p]
    · simp (disch := omega) only [pu_p]; exact ⟨trivial, trivial, trivial⟩
  · simp (disch := omega) only [pu_p]; exact fr q hq
end
