/-! THE READER READS LIST'S TEXT -/
def oSS (L0 : Nat) (xs : Nat → Int32) (j : Nat) : List S3 := sH_ (orS L0 xs j) (orF L0 xs j) (orN L0 xs j) (orA (liM L0 xs) L0 xs j) (orB (liM L0 xs) L0 xs j) (orL (liT L0 xs) L0 xs j)
def oST (L0 : Nat) (xs : Nat → Int32) (j : Nat) : List S3 := sT_ (orH L0 xs j) (orI L0 xs j) (orA (liM L0 xs) L0 xs j) (orB (liM L0 xs) L0 xs j) (orL (liT L0 xs) L0 xs j) (orM (liT L0 xs) L0 xs j)
/-- an order that was read -/
def OSt (L0 : Nat) (xs : Nat → Int32) (w : Va) (j t : Nat) : Prop := ∃ a, w 31 j = nI (orS L0 xs j) ∧ w 33 j = nI (orO (liM L0 xs) (liT L0 xs) L0 xs j) ∧ w 35 j = nI (orW (liG L0 xs) (liM L0 xs) L0 xs j) ∧ w 37 j = nI a ∧ w 39 j = nI (a + (oSS L0 xs j).length) ∧ w 41 j = nI (a + (oSS L0 xs j).length + (oST L0 xs j).length) ∧ a + (oSS L0 xs j).length + (oST L0 xs j).length ≤ t ∧ GSt w a (oSS L0 xs j) ∧ GSt w (a + (oSS L0 xs j).length) (oST L0 xs j)
/-- names that differ are told apart -/
def FIx (F : List Int32 → Int32) (L0 : Nat) (xs : Nat → Int32) : Prop := (∀ i j, i < liL L0 xs → j < liL L0 xs → F [115, nI (48 + i)] = F [115, nI (48 + j)] → i = j) ∧ (∀ i j, i < liG L0 xs → j < liG L0 xs → F [103, nI (48 + i)] = F [103, nI (48 + j)] → i = j) ∧ (∀ i j, i < liM L0 xs → j < liM L0 xs → F [109, nI (48 + i)] = F [109, nI (48 + j)] → i = j) ∧ ∀ i j, i < liT L0 xs → j < liT L0 xs → F [108, nI (48 + i)] = F [108, nI (48 + j)] → i = j
/-- the reader behind so many lines -/
def RIx (L0 : Nat) (xs : Nat → Int32) (v0 : Va) (F : List Int32 → Int32) (w : Va) (s g m l o n t : Nat) : Prop :=
  (w 12 7 = 0 ∧ w 12 6 = nI n ∧ w 13 4 = nI o ∧ w 42 0 = nI t) ∧
  (w 49 1 = 4 ∧ w 52 1 = 4 ∧ w 55 1 = 6 ∧ w 58 1 = 10) ∧ (w 49 2 = nI s ∧ w 52 2 = nI g ∧ w 55 2 = nI m ∧ w 58 2 = nI l) ∧
  (∀ j, j < s → w 51 j = F [115, nI (48 + j)] ∧ w 15 j = nI (loX L0 xs j)) ∧
  (∀ j, j < g → w 54 j = F [103, nI (48 + j)] ∧ w 17 j = nI (guF L0 xs j) ∧ w 19 j = nI (guB L0 xs j)) ∧
  (∀ j, j < m → w 57 j = F [109, nI (48 + j)] ∧ w 21 j = nI (meC L0 xs j) ∧ w 23 j = nI (meD L0 xs j)) ∧
  (∀ j, j < l → w 60 j = F [108, nI (48 + j)] ∧ w 25 j = nI (ltS (liL L0 xs) L0 xs j) ∧ w 27 j = nI (ltK L0 xs j) ∧ w 29 j = nI (ltM (liM L0 xs) L0 xs j)) ∧
  (∀ j, j < o → OSt L0 xs w j t) ∧ ∀ q, q < 12 ∨ 60 < q → w q = v0 q
/-- the loop, behind i lines -/
def RUNx (i : Nat) (w : Va) : Option (Int32 × Va) := rp (b_Reader_read_6 4001) (4001 - i) (nI i, w)
section
variable {v v0 w w1 : Va} {F : List Int32 → Int32} {L0 s g m l o n t i p : Nat} {xs : Nat → Int32}
theorem run_spice (hi : i < 400) (h7 : w 12 7 = 0) (h6 : w 12 6 = nI n) (hn : n < 401) (hk : w 5 n = 0) (h : ((f_Reader_spiceLine 4001 w).bind fun q => f_Reader_take q 36) = some w1) : RUNx i w = RUNx (i + 1) w1 := by
  unfold RUNx
  rw [show 4001 - i = (4001 - (i + 1)) + 1 by omega]
  show b_Reader_read_6 4001 (rp (b_Reader_read_6 4001) (4001 - (i + 1))) (nI i, w) = _
  generalize rp (b_Reader_read_6 4001) (4001 - (i + 1)) = K
  have hj : ((f_Reader_spiceLine 4001 w).bind fun q => j_Reader_read_172 K (nI i, w) q) = K (nI (i + 1), w1) := by
    have : ((f_Reader_spiceLine 4001 w).bind fun q => j_Reader_read_172 K (nI i, w) q) = ((f_Reader_spiceLine 4001 w).bind fun q => f_Reader_take q 36).bind fun q175 => K (nI i + 1, q175) := by
      rw [Option.bind_assoc]; rfl
    rw [this, h, ob, ni_s]
  unfold b_Reader_read_6
  simp only
  rw [if_neg (by rw [show (400 : Int32) = nI 400 from rfl, le_n (by omega) (by omega)]; omega), if_neg (by rw [h7]; decide), r_seen h7 h6 hn, hk, ob, if_neg (by decide), ob, if_pos rfl, hj]
theorem run_guild (hi : i < 400) (h7 : w 12 7 = 0) (h6 : w 12 6 = nI n) (hn : n < 401) (hk : w 5 n = 2) (h : ((f_Reader_guildLine 4001 w).bind fun q => f_Reader_take q 36) = some w1) : RUNx i w = RUNx (i + 1) w1 := by
  unfold RUNx
  rw [show 4001 - i = (4001 - (i + 1)) + 1 by omega]
  show b_Reader_read_6 4001 (rp (b_Reader_read_6 4001) (4001 - (i + 1))) (nI i, w) = _
  generalize rp (b_Reader_read_6 4001) (4001 - (i + 1)) = K
  have hj : ((f_Reader_guildLine 4001 w).bind fun q => j_Reader_read_172 K (nI i, w) q) = K (nI (i + 1), w1) := by
    have : ((f_Reader_guildLine 4001 w).bind fun q => j_Reader_read_172 K (nI i, w) q) = ((f_Reader_guildLine 4001 w).bind fun q => f_Reader_take q 36).bind fun q175 => K (nI i + 1, q175) := by
      rw [Option.bind_assoc]; rfl
    rw [this, h, ob, ni_s]
  unfold b_Reader_read_6
  simp only
  rw [if_neg (by rw [show (400 : Int32) = nI 400 from rfl, le_n (by omega) (by omega)]; omega), if_neg (by rw [h7]; decide), r_seen h7 h6 hn, hk, ob, if_neg (by decide), ob, if_neg (by decide), if_pos rfl, hj]
theorem run_merchant (hi : i < 400) (h7 : w 12 7 = 0) (h6 : w 12 6 = nI n) (hn : n < 401) (hk : w 5 n = 5) (h : ((f_Reader_merchantLine 4001 w).bind fun q => f_Reader_take q 36) = some w1) : RUNx i w = RUNx (i + 1) w1 := by
  unfold RUNx
  rw [show 4001 - i = (4001 - (i + 1)) + 1 by omega]
  show b_Reader_read_6 4001 (rp (b_Reader_read_6 4001) (4001 - (i + 1))) (nI i, w) = _
  generalize rp (b_Reader_read_6 4001) (4001 - (i + 1)) = K
  have hj : ((f_Reader_merchantLine 4001 w).bind fun q => j_Reader_read_172 K (nI i, w) q) = K (nI (i + 1), w1) := by
    have : ((f_Reader_merchantLine 4001 w).bind fun q => j_Reader_read_172 K (nI i, w) q) = ((f_Reader_merchantLine 4001 w).bind fun q => f_Reader_take q 36).bind fun q175 => K (nI i + 1, q175) := by
      rw [Option.bind_assoc]; rfl
    rw [this, h, ob, ni_s]
  unfold b_Reader_read_6
  simp only
  rw [if_neg (by rw [show (400 : Int32) = nI 400 from rfl, le_n (by omega) (by omega)]; omega), if_neg (by rw [h7]; decide), r_seen h7 h6 hn, hk, ob, if_neg (by decide), ob, if_neg (by decide), if_neg (by decide), if_pos rfl, hj]
theorem run_lot (hi : i < 400) (h7 : w 12 7 = 0) (h6 : w 12 6 = nI n) (hn : n < 401) (hk : w 5 n = 8) (h : ((f_Reader_lotLine 4001 w).bind fun q => f_Reader_take q 36) = some w1) : RUNx i w = RUNx (i + 1) w1 := by
  unfold RUNx
  rw [show 4001 - i = (4001 - (i + 1)) + 1 by omega]
  show b_Reader_read_6 4001 (rp (b_Reader_read_6 4001) (4001 - (i + 1))) (nI i, w) = _
  generalize rp (b_Reader_read_6 4001) (4001 - (i + 1)) = K
  have hj : ((f_Reader_lotLine 4001 w).bind fun q => j_Reader_read_172 K (nI i, w) q) = K (nI (i + 1), w1) := by
    have : ((f_Reader_lotLine 4001 w).bind fun q => j_Reader_read_172 K (nI i, w) q) = ((f_Reader_lotLine 4001 w).bind fun q => f_Reader_take q 36).bind fun q175 => K (nI i + 1, q175) := by
      rw [Option.bind_assoc]; rfl
    rw [this, h, ob, ni_s]
  unfold b_Reader_read_6
  simp only
  rw [if_neg (by rw [show (400 : Int32) = nI 400 from rfl, le_n (by omega) (by omega)]; omega), if_neg (by rw [h7]; decide), r_seen h7 h6 hn, hk, ob, if_neg (by decide), ob, if_neg (by decide), if_neg (by decide), if_neg (by decide), if_pos rfl, hj]
theorem run_or0 (hi : i < 400) (h7 : w 12 7 = 0) (h6 : w 12 6 = nI n) (hn : n < 401) (hk : w 5 n = 12) (h : ((f_Reader_orderLine 4001 w 0).bind fun q => f_Reader_take q 36) = some w1) : RUNx i w = RUNx (i + 1) w1 := by
  unfold RUNx
  rw [show 4001 - i = (4001 - (i + 1)) + 1 by omega]
  show b_Reader_read_6 4001 (rp (b_Reader_read_6 4001) (4001 - (i + 1))) (nI i, w) = _
  generalize rp (b_Reader_read_6 4001) (4001 - (i + 1)) = K
  have hj : ((f_Reader_orderLine 4001 w 0).bind fun q => j_Reader_read_172 K (nI i, w) q) = K (nI (i + 1), w1) := by
    have : ((f_Reader_orderLine 4001 w 0).bind fun q => j_Reader_read_172 K (nI i, w) q) = ((f_Reader_orderLine 4001 w 0).bind fun q => f_Reader_take q 36).bind fun q175 => K (nI i + 1, q175) := by
      rw [Option.bind_assoc]; rfl
    rw [this, h, ob, ni_s]
  unfold b_Reader_read_6
  simp only
  rw [if_neg (by rw [show (400 : Int32) = nI 400 from rfl, le_n (by omega) (by omega)]; omega), if_neg (by rw [h7]; decide), r_seen h7 h6 hn, hk, ob, if_neg (by decide), ob, if_neg (by decide), if_neg (by decide), if_neg (by decide), if_neg (by decide), if_pos rfl, hj]
theorem run_or1 (hi : i < 400) (h7 : w 12 7 = 0) (h6 : w 12 6 = nI n) (hn : n < 401) (hk : w 5 n = 14) (h : ((f_Reader_orderLine 4001 w 1).bind fun q => f_Reader_take q 36) = some w1) : RUNx i w = RUNx (i + 1) w1 := by
  unfold RUNx
  rw [show 4001 - i = (4001 - (i + 1)) + 1 by omega]
  show b_Reader_read_6 4001 (rp (b_Reader_read_6 4001) (4001 - (i + 1))) (nI i, w) = _
  generalize rp (b_Reader_read_6 4001) (4001 - (i + 1)) = K
  have hj : ((f_Reader_orderLine 4001 w 1).bind fun q => j_Reader_read_172 K (nI i, w) q) = K (nI (i + 1), w1) := by
    have : ((f_Reader_orderLine 4001 w 1).bind fun q => j_Reader_read_172 K (nI i, w) q) = ((f_Reader_orderLine 4001 w 1).bind fun q => f_Reader_take q 36).bind fun q175 => K (nI i + 1, q175) := by
      rw [Option.bind_assoc]; rfl
    rw [this, h, ob, ni_s]
  unfold b_Reader_read_6
  simp only
  rw [if_neg (by rw [show (400 : Int32) = nI 400 from rfl, le_n (by omega) (by omega)]; omega), if_neg (by rw [h7]; decide), r_seen h7 h6 hn, hk, ob, if_neg (by decide), ob, if_neg (by decide), if_neg (by decide), if_neg (by decide), if_neg (by decide), if_neg (by decide), if_pos rfl, hj]
theorem run_or2 (hi : i < 400) (h7 : w 12 7 = 0) (h6 : w 12 6 = nI n) (hn : n < 401) (hk : w 5 n = 16) (h : ((f_Reader_orderLine 4001 w 2).bind fun q => f_Reader_take q 36) = some w1) : RUNx i w = RUNx (i + 1) w1 := by
  unfold RUNx
  rw [show 4001 - i = (4001 - (i + 1)) + 1 by omega]
  show b_Reader_read_6 4001 (rp (b_Reader_read_6 4001) (4001 - (i + 1))) (nI i, w) = _
  generalize rp (b_Reader_read_6 4001) (4001 - (i + 1)) = K
  have hj : ((f_Reader_orderLine 4001 w 2).bind fun q => j_Reader_read_172 K (nI i, w) q) = K (nI (i + 1), w1) := by
    have : ((f_Reader_orderLine 4001 w 2).bind fun q => j_Reader_read_172 K (nI i, w) q) = ((f_Reader_orderLine 4001 w 2).bind fun q => f_Reader_take q 36).bind fun q175 => K (nI i + 1, q175) := by
      rw [Option.bind_assoc]; rfl
    rw [this, h, ob, ni_s]
  unfold b_Reader_read_6
  simp only
  rw [if_neg (by rw [show (400 : Int32) = nI 400 from rfl, le_n (by omega) (by omega)]; omega), if_neg (by rw [h7]; decide), r_seen h7 h6 hn, hk, ob, if_neg (by decide), ob, if_neg (by decide), if_neg (by decide), if_neg (by decide), if_neg (by decide), if_neg (by decide), if_neg (by decide), if_pos rfl, hj]
theorem run_end (hi : i < 400) (h7 : w 12 7 = 0) (h6 : w 12 6 = nI n) (hn : n < 401) (hk : w 5 n = 49) : RUNx i w = j_Reader_read_184 (nI i, w) := by
  unfold RUNx
  rw [show 4001 - i = (4001 - (i + 1)) + 1 by omega]
  show b_Reader_read_6 4001 (rp (b_Reader_read_6 4001) (4001 - (i + 1))) (nI i, w) = _
  generalize rp (b_Reader_read_6 4001) (4001 - (i + 1)) = K
  unfold b_Reader_read_6
  simp only
  rw [if_neg (by rw [show (400 : Int32) = nI 400 from rfl, le_n (by omega) (by omega)]; omega), if_neg (by rw [h7]; decide), r_seen h7 h6 hn, hk, ob, if_pos rfl]
/-- one row grows by one -/
theorem row1 {P : Nat → Prop} {f f1 : Nat → Int32} {x : Int32} {E : Nat → Int32} (hf : f1 = upd f t x) (hx : x = E t) (h : ∀ j, j < t → f j = E j) : ∀ j, j < t + 1 → f1 j = E j := fun j hj => by
  rw [hf]
  by_cases e : j = t
  · rw [e, upd_eq, hx]
  · rw [upd_ne e]; exact h j (by omega)
theorem OSt.keep {j t1 : Nat} (h : OSt L0 xs w j t) (ht : t ≤ t1) (hr : ∀ q, q = 31 ∨ q = 33 ∨ q = 35 ∨ q = 37 ∨ q = 39 ∨ q = 41 → w1 q j = w q j) (hs : ∀ i, i < t → w1 44 i = w 44 i ∧ w1 46 i = w 46 i ∧ w1 48 i = w 48 i) : OSt L0 xs w1 j t1 := by
  obtain ⟨a, a1, a2, a3, a4, a5, a6, a7, a8, a9⟩ := h
  refine ⟨a, by rw [hr 31 (by omega)]; exact a1, by rw [hr 33 (by omega)]; exact a2, by rw [hr 35 (by omega)]; exact a3, by rw [hr 37 (by omega)]; exact a4, by rw [hr 39 (by omega)]; exact a5, by rw [hr 41 (by omega)]; exact a6, by omega, fun i x hx => ?_, fun i x hx => ?_⟩
  · have hi := (List.getElem?_eq_some_iff.mp hx).1
    obtain ⟨b1, b2, b3⟩ := hs (a + i) (by omega)
    rw [b1, b2, b3]; exact a8 i x hx
  · have hi := (List.getElem?_eq_some_iff.mp hx).1
    obtain ⟨b1, b2, b3⟩ := hs (a + (oSS L0 xs j).length + i) (by omega)
    rw [b1, b2, b3]; exact a9 i x hx
theorem st_spice (hF : FIx F L0 xs) (hs : s < liL L0 xs) (hi : i < 400) (hn : n + 5 < 401) (hT : TA v0 F n (spA L0 xs s)) (h : RIx L0 xs v0 F w s g m l o n t) : ∃ w1, RUNx i w = RUNx (i + 1) w1 ∧ RIx L0 xs v0 F w1 (s + 1) g m l o (n + 5) t := by
  obtain ⟨⟨h7, h6, h13, h42⟩, ⟨d1, d2, d3, d4⟩, ⟨e1, e2, e3, e4⟩, r1, r2, r3, r4, r5, fr⟩ := h
  have hT := TA.cg (w := w) (fr 5 (by omega)) (fr 11 (by omega)) hT
  obtain ⟨b1, b2, b3, b4, b5⟩ := li_le (L0 := L0) (xs := xs)
  have hx := loX_le (L0 := L0) (xs := xs) (i := s)
  have hk0 : w 5 n = 0 := hT.1
  obtain ⟨w1, eq, c1, c2, c3, c4, c5, c6⟩ := l_spice (y := F [115, nI (48 + s)]) (x1 := nI (loX L0 xs s)) (t := s) h7 h6 (by omega) hk0 hT.2.2.1 (hT.2.2.2.1.trans tvN) hT.2.2.2.2.1 hT.2.2.2.2.2.2.1 (hT.2.2.2.2.2.2.2.1.trans tvD) (ni_0 (by omega)) (by rw [show (9 : Int32) = nI 9 from rfl, le_n (by omega) (by omega)]; omega) hT.2.2.2.2.2.2.2.2.1 d1 e1 (by omega) (fun j hj => by rw [(r1 j hj).1]; exact fun q => by have := hF.1 j s (by omega) (by omega) q; omega)
  have fq : ∀ q, q ≠ 12 → q ≠ 49 → q ≠ 51 → q ≠ 15 → w1 q = w q := c6
  refine ⟨w1, run_spice hi h7 h6 (by omega) hk0 eq, ⟨c1, c2, by rw [fq 13 (by omega) (by omega) (by omega) (by omega)]; exact h13, by rw [fq 42 (by omega) (by omega) (by omega) (by omega)]; exact h42⟩, ⟨by rw [c3, upd_ne (by omega)]; exact d1, by rw [fq 52 (by omega) (by omega) (by omega) (by omega)]; exact d2, by rw [fq 55 (by omega) (by omega) (by omega) (by omega)]; exact d3, by rw [fq 58 (by omega) (by omega) (by omega) (by omega)]; exact d4⟩, ⟨by rw [c3, upd_eq], by rw [fq 52 (by omega) (by omega) (by omega) (by omega)]; exact e2, by rw [fq 55 (by omega) (by omega) (by omega) (by omega)]; exact e3, by rw [fq 58 (by omega) (by omega) (by omega) (by omega)]; exact e4⟩, fun j hj => ?_, fun j hj => ?_, fun j hj => ?_, fun j hj => ?_, fun j hj => ?_, fun q hq => by rw [fq q (by omega) (by omega) (by omega) (by omega)]; exact fr q hq⟩
  · rw [c4, c5]
    by_cases e : j = s
    · rw [e, upd_eq, upd_eq]; exact ⟨rfl, rfl⟩
    · rw [upd_ne e, upd_ne e]; exact r1 j (by omega)
  · rw [fq 54 (by omega) (by omega) (by omega) (by omega), fq 17 (by omega) (by omega) (by omega) (by omega), fq 19 (by omega) (by omega) (by omega) (by omega)]; exact r2 j hj
  · rw [fq 57 (by omega) (by omega) (by omega) (by omega), fq 21 (by omega) (by omega) (by omega) (by omega), fq 23 (by omega) (by omega) (by omega) (by omega)]; exact r3 j hj
  · rw [fq 60 (by omega) (by omega) (by omega) (by omega), fq 25 (by omega) (by omega) (by omega) (by omega), fq 27 (by omega) (by omega) (by omega) (by omega), fq 29 (by omega) (by omega) (by omega) (by omega)]; exact r4 j hj
  · exact (r5 j hj).keep (Nat.le_refl _) (fun q hq => by rw [fq q (by omega) (by omega) (by omega) (by omega)]) (fun i _ => by rw [fq 44 (by omega) (by omega) (by omega) (by omega), fq 46 (by omega) (by omega) (by omega) (by omega), fq 48 (by omega) (by omega) (by omega) (by omega)]; exact ⟨rfl, rfl, rfl⟩)
theorem st_guild (hF : FIx F L0 xs) (hs : g < liG L0 xs) (hi : i < 400) (hn : n + 7 < 401) (hT : TA v0 F n (guA L0 xs g)) (h : RIx L0 xs v0 F w s g m l o n t) : ∃ w1, RUNx i w = RUNx (i + 1) w1 ∧ RIx L0 xs v0 F w1 s (g + 1) m l o (n + 7) t := by
  obtain ⟨⟨h7, h6, h13, h42⟩, ⟨d1, d2, d3, d4⟩, ⟨e1, e2, e3, e4⟩, r1, r2, r3, r4, r5, fr⟩ := h
  have hT := TA.cg (w := w) (fr 5 (by omega)) (fr 11 (by omega)) hT
  obtain ⟨b1, b2, b3, b4, b5⟩ := li_le (L0 := L0) (xs := xs)
  have hx := guF_le (L0 := L0) (xs := xs) (i := g)
  have hy := guB_le (L0 := L0) (xs := xs) (i := g)
  have hk0 : w 5 n = 2 := hT.1
  obtain ⟨w1, eq, c1, c2, c3, c4, c5, c6, c7⟩ := l_guild (y := F [103, nI (48 + g)]) (x1 := nI (guF L0 xs g)) (x2 := nI (guB L0 xs g)) (t := g) h7 h6 (by omega) hk0 (hT.at (q := zN 103 g [32]) 1 rfl).1 ((hT.at (q := zN 103 g [32]) 1 rfl).2.trans tvN) hT.2.2.2.2.1 (hT.at (q := zD _ [32]) 3 rfl).1 ((hT.at (q := zD _ [32]) 3 rfl).2.trans tvD) (ni_0 (by omega)) (by rw [show (99 : Int32) = nI 99 from rfl, le_n (by omega) (by omega)]; omega) hT.2.2.2.2.2.2.2.2.1 hT.2.2.2.2.2.2.2.2.2.2.1 (hT.2.2.2.2.2.2.2.2.2.2.2.1.trans tvD) (ni_0 (by omega)) (by rw [show (20 : Int32) = nI 20 from rfl, le_n (by omega) (by omega)]; omega) hT.2.2.2.2.2.2.2.2.2.2.2.2.1 d2 e2 (by omega) (fun j hj => by rw [(r2 j hj).1]; exact fun q => by have := hF.2.1 j g (by omega) (by omega) q; omega)
  have fq : ∀ q, q ≠ 12 → q ≠ 52 → q ≠ 54 → q ≠ 17 → q ≠ 19 → w1 q = w q := c7
  refine ⟨w1, run_guild hi h7 h6 (by omega) hk0 eq, ⟨c1, c2, by rw [fq 13 (by omega) (by omega) (by omega) (by omega) (by omega)]; exact h13, by rw [fq 42 (by omega) (by omega) (by omega) (by omega) (by omega)]; exact h42⟩, ⟨by rw [fq 49 (by omega) (by omega) (by omega) (by omega) (by omega)]; exact d1, by rw [c3, upd_ne (by omega)]; exact d2, by rw [fq 55 (by omega) (by omega) (by omega) (by omega) (by omega)]; exact d3, by rw [fq 58 (by omega) (by omega) (by omega) (by omega) (by omega)]; exact d4⟩, ⟨by rw [fq 49 (by omega) (by omega) (by omega) (by omega) (by omega)]; exact e1, by rw [c3, upd_eq], by rw [fq 55 (by omega) (by omega) (by omega) (by omega) (by omega)]; exact e3, by rw [fq 58 (by omega) (by omega) (by omega) (by omega) (by omega)]; exact e4⟩, fun j hj => ?_, fun j hj => ?_, fun j hj => ?_, fun j hj => ?_, fun j hj => ?_, fun q hq => by rw [fq q (by omega) (by omega) (by omega) (by omega) (by omega)]; exact fr q hq⟩
  · rw [fq 51 (by omega) (by omega) (by omega) (by omega) (by omega), fq 15 (by omega) (by omega) (by omega) (by omega) (by omega)]; exact r1 j hj
  · rw [c4, c5, c6]
    by_cases e : j = g
    · rw [e, upd_eq, upd_eq, upd_eq]; exact ⟨rfl, rfl, rfl⟩
    · rw [upd_ne e, upd_ne e, upd_ne e]; exact r2 j (by omega)
  · rw [fq 57 (by omega) (by omega) (by omega) (by omega) (by omega), fq 21 (by omega) (by omega) (by omega) (by omega) (by omega), fq 23 (by omega) (by omega) (by omega) (by omega) (by omega)]; exact r3 j hj
  · rw [fq 60 (by omega) (by omega) (by omega) (by omega) (by omega), fq 25 (by omega) (by omega) (by omega) (by omega) (by omega), fq 27 (by omega) (by omega) (by omega) (by omega) (by omega), fq 29 (by omega) (by omega) (by omega) (by omega) (by omega)]; exact r4 j hj
  · exact (r5 j hj).keep (Nat.le_refl _) (fun q hq => by rw [fq q (by omega) (by omega) (by omega) (by omega) (by omega)]) (fun i _ => by rw [fq 44 (by omega) (by omega) (by omega) (by omega) (by omega), fq 46 (by omega) (by omega) (by omega) (by omega) (by omega), fq 48 (by omega) (by omega) (by omega) (by omega) (by omega)]; exact ⟨rfl, rfl, rfl⟩)
theorem st_merchant (hF : FIx F L0 xs) (hs : m < liM L0 xs) (hi : i < 400) (hn : n + 7 < 401) (hT : TA v0 F n (meA L0 xs m)) (h : RIx L0 xs v0 F w s g m l o n t) : ∃ w1, RUNx i w = RUNx (i + 1) w1 ∧ RIx L0 xs v0 F w1 s g (m + 1) l o (n + 7) t := by
  obtain ⟨⟨h7, h6, h13, h42⟩, ⟨d1, d2, d3, d4⟩, ⟨e1, e2, e3, e4⟩, r1, r2, r3, r4, r5, fr⟩ := h
  have hT := TA.cg (w := w) (fr 5 (by omega)) (fr 11 (by omega)) hT
  obtain ⟨b1, b2, b3, b4, b5⟩ := li_le (L0 := L0) (xs := xs)
  have hx := meC_le (L0 := L0) (xs := xs) (i := m)
  have hy := meD_le (L0 := L0) (xs := xs) (i := m)
  have hk0 : w 5 n = 5 := hT.1
  obtain ⟨w1, eq, c1, c2, c3, c4, c5, c6, c7⟩ := l_merchant (y := F [109, nI (48 + m)]) (x1 := nI (meC L0 xs m)) (x2 := nI (meD L0 xs m)) (t := m) h7 h6 (by omega) hk0 (hT.at (q := zN 109 m [32]) 1 rfl).1 ((hT.at (q := zN 109 m [32]) 1 rfl).2.trans tvN) hT.2.2.2.2.1 (hT.at (q := zD _ [32]) 3 rfl).1 ((hT.at (q := zD _ [32]) 3 rfl).2.trans tvD) (fun q => absurd (Int32.lt_iff_toInt_lt.mp q) (by rw [toInt_nI (by omega)]; show ¬ _ < (0 : Int); omega)) (Int32.le_iff_toInt_le.mpr (by rw [toInt_nI (by omega)]; show _ ≤ (9999 : Int); omega)) hT.2.2.2.2.2.2.2.2.1 hT.2.2.2.2.2.2.2.2.2.2.1 (hT.2.2.2.2.2.2.2.2.2.2.2.1.trans tvD) (fun q => absurd (Int32.lt_iff_toInt_lt.mp q) (by rw [toInt_nI (by omega)]; show ¬ _ < (0 : Int); omega)) (Int32.le_iff_toInt_le.mpr (by rw [toInt_nI (by omega)]; show _ ≤ (9999 : Int); omega)) hT.2.2.2.2.2.2.2.2.2.2.2.2.1 d3 e3 (by omega) (fun j hj => by rw [(r3 j hj).1]; exact fun q => by have := hF.2.2.1 j m (by omega) (by omega) q; omega)
  have fq : ∀ q, q ≠ 12 → q ≠ 55 → q ≠ 57 → q ≠ 21 → q ≠ 23 → w1 q = w q := c7
  refine ⟨w1, run_merchant hi h7 h6 (by omega) hk0 eq, ⟨c1, c2, by rw [fq 13 (by omega) (by omega) (by omega) (by omega) (by omega)]; exact h13, by rw [fq 42 (by omega) (by omega) (by omega) (by omega) (by omega)]; exact h42⟩, ⟨by rw [fq 49 (by omega) (by omega) (by omega) (by omega) (by omega)]; exact d1, by rw [fq 52 (by omega) (by omega) (by omega) (by omega) (by omega)]; exact d2, by rw [c3, upd_ne (by omega)]; exact d3, by rw [fq 58 (by omega) (by omega) (by omega) (by omega) (by omega)]; exact d4⟩, ⟨by rw [fq 49 (by omega) (by omega) (by omega) (by omega) (by omega)]; exact e1, by rw [fq 52 (by omega) (by omega) (by omega) (by omega) (by omega)]; exact e2, by rw [c3, upd_eq], by rw [fq 58 (by omega) (by omega) (by omega) (by omega) (by omega)]; exact e4⟩, fun j hj => ?_, fun j hj => ?_, fun j hj => ?_, fun j hj => ?_, fun j hj => ?_, fun q hq => by rw [fq q (by omega) (by omega) (by omega) (by omega) (by omega)]; exact fr q hq⟩
  · rw [fq 51 (by omega) (by omega) (by omega) (by omega) (by omega), fq 15 (by omega) (by omega) (by omega) (by omega) (by omega)]; exact r1 j hj
  · rw [fq 54 (by omega) (by omega) (by omega) (by omega) (by omega), fq 17 (by omega) (by omega) (by omega) (by omega) (by omega), fq 19 (by omega) (by omega) (by omega) (by omega) (by omega)]; exact r2 j hj
  · rw [c4, c5, c6]
    by_cases e : j = m
    · rw [e, upd_eq, upd_eq, upd_eq]; exact ⟨rfl, rfl, rfl⟩
    · rw [upd_ne e, upd_ne e, upd_ne e]; exact r3 j (by omega)
  · rw [fq 60 (by omega) (by omega) (by omega) (by omega) (by omega), fq 25 (by omega) (by omega) (by omega) (by omega) (by omega), fq 27 (by omega) (by omega) (by omega) (by omega) (by omega), fq 29 (by omega) (by omega) (by omega) (by omega) (by omega)]; exact r4 j hj
  · exact (r5 j hj).keep (Nat.le_refl _) (fun q hq => by rw [fq q (by omega) (by omega) (by omega) (by omega) (by omega)]) (fun i _ => by rw [fq 44 (by omega) (by omega) (by omega) (by omega) (by omega), fq 46 (by omega) (by omega) (by omega) (by omega) (by omega), fq 48 (by omega) (by omega) (by omega) (by omega) (by omega)]; exact ⟨rfl, rfl, rfl⟩)
theorem st_lot (hF : FIx F L0 xs) (hs : l < liT L0 xs) (hi : i < 400) (hn : n + 9 < 401) (hT : TA v0 F n (ltA (liL L0 xs) (liM L0 xs) L0 xs l)) (h : RIx L0 xs v0 F w (liL L0 xs) g (liM L0 xs) l o n t) : ∃ w1, RUNx i w = RUNx (i + 1) w1 ∧ RIx L0 xs v0 F w1 (liL L0 xs) g (liM L0 xs) (l + 1) o (n + 9) t := by
  obtain ⟨⟨h7, h6, h13, h42⟩, ⟨d1, d2, d3, d4⟩, ⟨e1, e2, e3, e4⟩, r1, r2, r3, r4, r5, fr⟩ := h
  have hT := TA.cg (w := w) (fr 5 (by omega)) (fr 11 (by omega)) hT
  obtain ⟨b1, b2, b3, b4, b5⟩ := li_le (L0 := L0) (xs := xs)
  have hx := ltS_le (nl := liL L0 xs) (L0 := L0) (xs := xs) (i := l) b1.1
  have hy := ltM_le (nm := liM L0 xs) (L0 := L0) (xs := xs) (i := l) (by omega)
  have hz := ltK_le (L0 := L0) (xs := xs) (i := l)
  have hk0 : w 5 n = 8 := hT.1
  have k1 : w 5 (n + 1) = 47 ∧ w 11 (n + 1) = F [108, nI (48 + l)] := ⟨(hT.at (q := zN 108 l [32]) 1 rfl).1, (hT.at (q := zN 108 l [32]) 1 rfl).2.trans tvN⟩
  have k3 : w 5 (n + 3) = 47 ∧ w 11 (n + 3) = F [115, nI (48 + ltS (liL L0 xs) L0 xs l)] := ⟨(hT.at (q := zN 115 _ [32]) 3 rfl).1, (hT.at (q := zN 115 _ [32]) 3 rfl).2.trans tvN⟩
  have k5 : w 5 (n + 5) = 48 ∧ w 11 (n + 5) = nI (ltK L0 xs l) := ⟨(hT.at (q := zD _ [32]) 5 rfl).1, (hT.at (q := zD _ [32]) 5 rfl).2.trans tvD⟩
  have k7 : w 5 (n + 7) = 47 ∧ w 11 (n + 7) = F [109, nI (48 + ltM (liM L0 xs) L0 xs l)] := ⟨(hT.at (q := zN 109 _ []) 7 rfl).1, (hT.at (q := zN 109 _ []) 7 rfl).2.trans tvN⟩
  have k2 : w 5 (n + 2) = 9 := (hT.at (q := zK 9 [32]) 2 rfl).1
  have k4 : w 5 (n + 4) = 10 := (hT.at (q := zK 10 [32]) 4 rfl).1
  have k6 : w 5 (n + 6) = 11 := (hT.at (q := zK 11 [32]) 6 rfl).1
  have k8 : w 5 (n + 8) = 36 := (hT.at (q := zG 4 []) 8 rfl).1
  obtain ⟨w1, eq, c1, c2, c3, c4, c5, c6, c7, c8⟩ := l_lot (t := l) (t1 := liL L0 xs) (t2 := liM L0 xs) h7 h6 (by omega) hk0 k1.1 k1.2 k2 k3.1 k3.2 e1 (by omega) hx (r1 _ hx).1 (fun j hj => by rw [(r1 j (by omega)).1]; exact fun q => by have := hF.1 j _ (by omega) hx q; omega) k4 k5.1 k5.2 (by rw [show (1 : Int32) = nI 1 from rfl, lt_n (by omega) (by omega)]; omega) (by rw [show (90 : Int32) = nI 90 from rfl, le_n (by omega) (by omega)]; omega) k6 k7.1 k7.2 e3 (by omega) hy (r3 _ hy).1 (fun j hj => by rw [(r3 j (by omega)).1]; exact fun q => by have := hF.2.2.1 j _ (by omega) hy q; omega) k8 d4 e4 (by omega) (fun j hj => by rw [(r4 j hj).1]; exact fun q => by have := hF.2.2.2 j l (by omega) (by omega) q; omega)
  have fq : ∀ q, q ≠ 12 → q ≠ 58 → q ≠ 60 → q ≠ 25 → q ≠ 27 → q ≠ 29 → w1 q = w q := c8
  refine ⟨w1, run_lot hi h7 h6 (by omega) hk0 eq, ⟨c1, c2, by rw [fq 13 (by omega) (by omega) (by omega) (by omega) (by omega) (by omega)]; exact h13, by rw [fq 42 (by omega) (by omega) (by omega) (by omega) (by omega) (by omega)]; exact h42⟩, ⟨by rw [fq 49 (by omega) (by omega) (by omega) (by omega) (by omega) (by omega)]; exact d1, by rw [fq 52 (by omega) (by omega) (by omega) (by omega) (by omega) (by omega)]; exact d2, by rw [fq 55 (by omega) (by omega) (by omega) (by omega) (by omega) (by omega)]; exact d3, by rw [c3, upd_ne (by omega)]; exact d4⟩, ⟨by rw [fq 49 (by omega) (by omega) (by omega) (by omega) (by omega) (by omega)]; exact e1, by rw [fq 52 (by omega) (by omega) (by omega) (by omega) (by omega) (by omega)]; exact e2, by rw [fq 55 (by omega) (by omega) (by omega) (by omega) (by omega) (by omega)]; exact e3, by rw [c3, upd_eq]⟩, fun j hj => ?_, fun j hj => ?_, fun j hj => ?_, fun j hj => ?_, fun j hj => ?_, fun q hq => by rw [fq q (by omega) (by omega) (by omega) (by omega) (by omega) (by omega)]; exact fr q hq⟩
  · rw [fq 51 (by omega) (by omega) (by omega) (by omega) (by omega) (by omega), fq 15 (by omega) (by omega) (by omega) (by omega) (by omega) (by omega)]; exact r1 j hj
  · rw [fq 54 (by omega) (by omega) (by omega) (by omega) (by omega) (by omega), fq 17 (by omega) (by omega) (by omega) (by omega) (by omega) (by omega), fq 19 (by omega) (by omega) (by omega) (by omega) (by omega) (by omega)]; exact r2 j hj
  · rw [fq 57 (by omega) (by omega) (by omega) (by omega) (by omega) (by omega), fq 21 (by omega) (by omega) (by omega) (by omega) (by omega) (by omega), fq 23 (by omega) (by omega) (by omega) (by omega) (by omega) (by omega)]; exact r3 j hj
  · rw [c4, c5, c6, c7]
    by_cases e : j = l
    · rw [e, upd_eq, upd_eq, upd_eq, upd_eq]; exact ⟨rfl, rfl, rfl, rfl⟩
    · rw [upd_ne e, upd_ne e, upd_ne e, upd_ne e]; exact r4 j (by omega)
  · exact (r5 j hj).keep (Nat.le_refl _) (fun q hq => by rw [fq q (by omega) (by omega) (by omega) (by omega) (by omega) (by omega)]) (fun i _ => by rw [fq 44 (by omega) (by omega) (by omega) (by omega) (by omega) (by omega), fq 46 (by omega) (by omega) (by omega) (by omega) (by omega) (by omega), fq 48 (by omega) (by omega) (by omega) (by omega) (by omega) (by omega)]; exact ⟨rfl, rfl, rfl⟩)
end
