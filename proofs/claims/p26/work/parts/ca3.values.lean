/-! THE READER'S VALUES -/
section
variable {v w u : Va} {n m t d k N i j a : Nat} {y x b c : Int32} {st : List (Int32 × Int32 × Int32)} {ar : Int32}
abbrev S3 : Type := Int32 × Int32 × Int32
/-- from v, the reader stands at token n, and told these steps behind t -/
def RSx (v w : Va) (n t : Nat) (st : List S3) : Prop := w 12 7 = 0 ∧ w 12 6 = nI n ∧ w 42 0 = nI (t + st.length) ∧ (∀ (i : Nat) (s : S3), st[i]? = some s → w 44 (t + i) = s.1 ∧ w 46 (t + i) = s.2.1 ∧ w 48 (t + i) = s.2.2) ∧ (∀ i, i < t → w 44 i = v 44 i ∧ w 46 i = v 46 i ∧ w 48 i = v 48 i) ∧ (∀ q, q ≠ 12 → q ≠ 42 → q ≠ 44 → q ≠ 46 → q ≠ 48 → w q = v q) ∧ ∀ j, j ≠ 0 → w 42 j = v 42 j
theorem RSx.rf (h7 : v 12 7 = 0) (h6 : v 12 6 = nI n) (ht : v 42 0 = nI t) : RSx v v n t [] := ⟨h7, h6, ht, fun i s h => (by cases h), fun _ _ => ⟨rfl, rfl, rfl⟩, fun _ _ _ _ _ _ => rfl, fun _ _ => rfl⟩
theorem RSx.mv (h : RSx v w n t st) : RSx v (pu w 12 6 (nI m)) m t st := by
  obtain ⟨h1, h2, h3, h4, h5, h6, h7⟩ := h
  refine ⟨by rw [pu_d (by omega)]; exact h1, pu_s, by rw [pu_p (by omega)]; exact h3, fun i s hs => ?_, fun i hi => ?_, fun q q1 q2 q3 q4 q5 => by rw [pu_p q1]; exact h6 q q1 q2 q3 q4 q5, fun j hj => by rw [pu_p (by omega)]; exact h7 j hj⟩
  · rw [pu_p (by omega), pu_p (by omega), pu_p (by omega)]; exact h4 i s hs
  · rw [pu_p (by omega), pu_p (by omega), pu_p (by omega)]; exact h5 i hi
theorem RSx.add (h : RSx v w n t st) (hl : t + st.length < 400) : ∃ w1, f_Steps_add w 42 x b c = some w1 ∧ RSx v w1 n t (st ++ [(x, b, c)]) := by
  obtain ⟨h1, h2, h3, h4, h5, h6, h7⟩ := h
  refine ⟨_, r_step h3 hl, ?_, ?_, ?_, fun i s hs => ?_, fun i hi => ?_, fun q q1 q2 q3 q4 q5 => ?_, fun j hj => ?_⟩
  · simp (disch := omega) only [pu_p, up_ne]; exact h1
  · simp (disch := omega) only [pu_p, up_ne]; exact h2
  · rw [pu_s, List.length_append]; rfl
  · simp (disch := omega) only [pu_p, up_ne, up_eq]
    by_cases hq : i = st.length
    · subst hq
      rw [List.getElem?_append_right (Nat.le_refl _), Nat.sub_self] at hs
      cases hs
      rw [upd_eq, upd_eq, upd_eq]; exact ⟨rfl, rfl, rfl⟩
    · have hi : i < st.length := by
        have h9 := (List.getElem?_eq_some_iff.mp hs).1
        rw [List.length_append] at h9
        have : i < st.length + 1 := h9
        omega
      rw [List.getElem?_append_left hi] at hs
      rw [upd_ne (by omega), upd_ne (by omega), upd_ne (by omega)]
      exact h4 i s hs
  · simp (disch := omega) only [pu_p, up_ne, up_eq]
    rw [upd_ne (by omega), upd_ne (by omega), upd_ne (by omega)]; exact h5 i hi
  · rw [pu_p q2, up_ne q5, up_ne q4, up_ne q3]; exact h6 q q1 q2 q3 q4 q5
  · rw [pu_d hj, up_ne (by omega), up_ne (by omega), up_ne (by omega)]; exact h7 j hj
theorem RSx.see (h : RSx v w n t st) (hn : n < 401) (hk : v 5 n = x) : f_Reader_seen w = some x := by
  rw [r_seen h.1 h.2.1 hn, h.2.2.2.2.2.1 5 (by omega) (by omega) (by omega) (by omega) (by omega), hk]
theorem RSx.at (h : RSx v w n t st) {q : Nat} (hq : q < 12 ∨ (12 < q ∧ q < 42) ∨ 48 < q) : w q = v q := h.2.2.2.2.2.1 q (by omega) (by omega) (by omega) (by omega) (by omega)
/-- the next token is taken -/
theorem RSx.take (h : RSx v w n t st) (hn : n < 401) (hk : v 5 n = x) : ∃ w1, f_Reader_take w x = some w1 ∧ RSx v w1 (n + 1) t st := ⟨_, r_take h.1 h.2.1 hn (by rw [h.at (by omega)]; exact hk), h.mv⟩
theorem RSx.go (h : RSx v w n t st) : pu w 12 6 (w 12 6 + 1) = pu w 12 6 (nI (n + 1)) := by rw [h.2.1, ni_s]
theorem RSx.num (h : RSx v w n t st) {lo hi : Int32} (hn : n < 401) (hk : v 5 n = 48) (hy : v 11 n = y) (h1 : ¬ y < lo) (h2 : y ≤ hi) : ∃ w1, f_Reader_takeNumber w lo hi = some (y, w1) ∧ RSx v w1 (n + 1) t st := ⟨_, r_num h.1 h.2.1 hn (by rw [h.at (by omega)]; exact hk) (by rw [h.at (by omega)]; exact hy) h1 h2, h.mv⟩
/-- names that were told: the j-th is y -/
def NMs (v : Va) (k N j : Nat) (y : Int32) : Prop := ∃ tt, v k 2 = nI tt ∧ tt ≤ N ∧ j < tt ∧ v (k + 2) j = y ∧ ∀ i, i < j → v (k + 2) i ≠ y
theorem RSx.name (h : RSx v w n t st) (hn : n < 401) (hk : v 5 n = 47) (hy : v 11 n = y) (hkk : 48 < k) (hN : N ≤ 400) (hj : NMs v k N j y) : ∃ w1, f_Reader_takeName 4001 w k N = some (nI j, w1) ∧ RSx v w1 (n + 1) t st := by
  obtain ⟨tt, j1, j2, j3, j4, j5⟩ := hj
  exact ⟨_, r_name (y := y) h.1 h.2.1 hn (by rw [h.at (by omega)]; exact hk) (by rw [h.at (by omega)]; exact hy) (by omega) (by rw [h.at (by omega)]; exact j1) j2 hN (by omega) j3 (by rw [h.at (by omega)]; exact j4) (fun i hi => by rw [h.at (by omega)]; exact j5 i hi), h.mv⟩
theorem v_num {GV : Nat → List Int32 → Va → Option Va} (h : RSx v w n t st) (hn : n < 401) (hl : t + st.length < 400) (hk : v 5 n = 48) (hy : v 11 n = y) (h1 : ¬ y < 0) : ∃ w1, f_Reader_value 4001 GV w ar = some w1 ∧ RSx v w1 (n + 1) t (st ++ [(48, y, 0)]) := by
  obtain ⟨w2, e1, e2⟩ := h.num (lo := 0) (hi := 2147483647) hn hk hy h1 (Int32.le_iff_toInt_le.mpr (by have := Int32.toInt_lt y; show y.toInt ≤ 2147483647; omega))
  obtain ⟨w3, e3, e4⟩ := e2.add (x := 48) (b := y) (c := 0) hl
  refine ⟨w3, ?_, e4⟩
  unfold f_Reader_value
  rw [h.see hn hk, ob]
  simp only [show ((48 : Int32) = 6) = False by decide, show ((48 : Int32) = 19) = False by decide, show ((48 : Int32) = 20) = False by decide, show ((48 : Int32) = 21) = False by decide, show ((48 : Int32) = 22) = False by decide, show ((48 : Int32) = 23) = False by decide, show ((48 : Int32) = 24) = False by decide, show ((48 : Int32) = 25) = False by decide, show ((48 : Int32) = 30) = False by decide, show ((48 : Int32) = 31) = False by decide, show ((48 : Int32) = 32) = False by decide, show ((48 : Int32) = 39) = False by decide, if_false, if_true, e1, ob, e3]
end
