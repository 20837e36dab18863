/-! THE TAPE HOLDS THE TEXT -/
section
variable {v w u : Va} {T : List Int32} {k : Nat}
/-- the class behind k feeds -/
def fdn (v : Va) (T : List Int32) : Nat → Va
  | 0 => pu v 0 8 0
  | k + 1 => match f_Quay_feed 4001 (fdn v T k) (txw T k 0) (txw T k 1) (txw T k 2) (txw T k 3) (txw T k 4) with
    | some (.inl (_, w)) => w
    | _ => fdn v T k
/-- a tape of m bytes -/
def TPE (v w : Va) (T : List Int32) (m : Nat) : Prop := w 0 8 = nI m ∧ (∀ i, i < m → w 2 i = txb T i) ∧ (∀ q, q ≠ 0 → q ≠ 2 → w q = v q) ∧ ∀ j, j ≠ 8 → w 0 j = v 0 j
theorem txb_byte (hT : ∀ b ∈ T, 0 ≤ b.toInt ∧ b.toInt < 128) (k : Nat) : (txb T k).toBitVec.toNat < 256 := by
  unfold txb
  by_cases h : k < T.length
  · rw [if_pos h]
    have hm : T.getD k 0 ∈ T := by
      rw [List.getD_eq_getElem?_getD, List.getElem?_eq_getElem h]
      exact List.getElem_mem h
    obtain ⟨h1, h2⟩ := hT _ hm
    have e : (T.getD k 0).toInt = (T.getD k 0).toBitVec.toInt := rfl
    rw [e, BitVec.toInt_eq_toNat_cond] at h1 h2
    have := (T.getD k 0).toBitVec.isLt
    split at h1 <;> omega
  · rw [if_neg h]; decide
theorem fdn_ok (hT : ∀ b ∈ T, 0 ≤ b.toInt ∧ b.toInt < 128) : ∀ k, 20 * k ≤ 1980 + 20 → TPE v (fdn v T k) T (20 * k) ∧ (∀ j, j < k → ∃ x, f_Quay_feed 4001 (fdn v T j) (txw T j 0) (txw T j 1) (txw T j 2) (txw T j 3) (txw T j 4) = some (.inl (x, fdn v T (j + 1))))
  | 0, _ => ⟨⟨by show pu v 0 8 0 0 8 = _; rw [pu_s]; rfl, fun i hi => by omega, fun q h0 h2 => pu_p h0, fun j hj => pu_d hj⟩, fun j hj => absurd hj (Nat.not_lt_zero _)⟩
  | k + 1, hk => by
    obtain ⟨⟨h1, h2, h3, h4⟩, h5⟩ := fdn_ok hT k (by omega)
    obtain ⟨w, e1, f1, f2, f3, f4, f5⟩ := feed_c (z := 4001) (a1 := txw T k 0) (a2 := txw T k 1) (a3 := txw T k 2) (a4 := txw T k 3) (a5 := txw T k 4) h1 (by omega) (by omega)
    have ew : fdn v T (k + 1) = w := by
      show (match f_Quay_feed 4001 (fdn v T k) (txw T k 0) (txw T k 1) (txw T k 2) (txw T k 3) (txw T k 4) with
        | some (.inl (_, w)) => w
        | _ => fdn v T k) = w
      rw [e1]
    rw [ew]
    refine ⟨⟨f2, fun i hi => ?_, fun q h0 h2 => (f1 q h0 h2).trans (h3 q h0 h2), fun j hj => (f3 j hj).trans (h4 j hj)⟩, fun j hj => ?_⟩
    · by_cases hlt : i < 20 * k
      · rw [f4 i hlt]; exact h2 i hlt
      · have hr : i - 20 * k < 20 := by omega
        have := f5 (i - 20 * k) hr
        rw [show 20 * k + (i - 20 * k) = i by omega] at this
        rw [this]
        have hA : A5 (txw T k 0) (txw T k 1) (txw T k 2) (txw T k 3) (txw T k 4) ((i - 20 * k) / 4) = txw T k ((i - 20 * k) / 4) := by
          rcases (by omega : (i - 20 * k) / 4 = 0 ∨ (i - 20 * k) / 4 = 1 ∨ (i - 20 * k) / 4 = 2 ∨ (i - 20 * k) / 4 = 3 ∨ (i - 20 * k) / 4 = 4) with q | q | q | q | q <;> rw [q] <;> rfl
        rw [hA]
        unfold txw
        rw [bt_acs (f := fun j => txb T (20 * k + j)) (q := (i - 20 * k) / 4) (j := (i - 20 * k) % 4) (fun j _ => txb_byte hT _) (by omega)]
        show txb T (20 * k + (4 * ((i - 20 * k) / 4) + (i - 20 * k) % 4)) = txb T i
        congr 1
        omega
    · by_cases hj2 : j = k
      · subst hj2
        exact ⟨_, by rw [e1, ew]⟩
      · exact h5 j (by omega)
/-- what the class makes of a text, when it can be taught it -/
theorem tape_ok (hT : ∀ b ∈ T, 0 ≤ b.toInt ∧ b.toInt < 128) (hlen : T.length ≤ 1980) (h8 : v 0 8 = 0) : ∃ vt, TPE v vt T T.length ∧ ∀ qt, f_Quay_teach 4001 vt = some qt → TEA T ((T.length + 19) / 20) v (fdn v T) vt qt := by
  obtain ⟨⟨h1, h2, h3, h4⟩, h5⟩ := fdn_ok (v := v) hT ((T.length + 19) / 20) (by omega)
  refine ⟨pu (fdn v T ((T.length + 19) / 20)) 0 8 (nI T.length), ⟨pu_s, fun i hi => ?_, fun q h0 h2 => (pu_p h0).trans (h3 q h0 h2), fun j hj => (pu_d hj).trans (h4 j hj)⟩, fun qt hq => ⟨⟨0, ?_⟩, fun k hk => ⟨by omega, h5 k hk⟩, by omega, ⟨nI T.length, ?_⟩, hq⟩⟩
  · rw [pu_p (by omega)]; exact h2 i (by omega)
  · unfold f_Quay_trim
    rw [if_neg (by decide), if_pos (by rw [h8]; decide)]
    rfl
  · unfold f_Quay_trim
    rw [h1, if_neg (ni_0 (by omega)), if_pos (by rw [le_n (by omega) (by omega)]; omega)]
    rfl
end
