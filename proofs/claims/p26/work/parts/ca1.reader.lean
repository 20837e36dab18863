/-! THE READER'S SMALL STEPS: no fault, the next token as it should be -/
section
variable {v v0 v1 w u : Va} {m p l n z i k a b s t N j : Nat} {y c x lo hi : Int32}
theorem r_seen (h7 : v 12 7 = 0) (h6 : v 12 6 = nI n) (hn : n < 401) : f_Reader_seen v = some (v 5 n) := by
  unfold f_Reader_seen
  rw [h7, if_neg (by decide), bd, h6, rg hn (by omega)]
theorem r_take (h7 : v 12 7 = 0) (h6 : v 12 6 = nI n) (hn : n < 401) (hk : v 5 n = x) : f_Reader_take v x = some (pu v 12 6 (nI (n + 1))) := by
  unfold f_Reader_take
  rw [r_seen h7 h6 hn, ob, if_pos hk, bd, h6, ni_s]
theorem r_num (h7 : v 12 7 = 0) (h6 : v 12 6 = nI n) (hn : n < 401) (hk : v 5 n = 48) (hy : v 11 n = y) (hlo : ¬ y < lo) (hhi : y ≤ hi) : f_Reader_takeNumber v lo hi = some (y, pu v 12 6 (nI (n + 1))) := by
  unfold f_Reader_takeNumber
  rw [r_seen h7 h6 hn, ob, if_pos hk, bd, bd, h6, rg hn (by omega), pu_p (by omega), hy, if_neg hlo, if_pos hhi, ni_s]
theorem r_find (ht : v k 2 = nI t) (htN : t ≤ N) (hN : N ≤ 400) (hz : 4000 < z) (hj : j < t) (he : v (k + 2) j = y) (hb : ∀ i, i < j → v (k + 2) i ≠ y) : f_Names_find z v k N y = some (nI j) := by
  unfold f_Names_find
  refine rp_go (f := b_Names_find_2 v k N y) (fun i => nI i) j (fun K => ?_) (fun K i hi => ?_) (by omega)
  · unfold b_Names_find_2
    rw [ht, if_neg (by rw [le_n (by omega) (by omega)]; omega), bd, rg (by omega) (by omega), if_pos he]
  · unfold b_Names_find_2
    rw [ht, if_neg (by rw [le_n (by omega) (by omega)]; omega), bd, rg (by omega) (by omega), if_neg (hb i hi), ni_s]
theorem r_none (ht : v k 2 = nI t) (htN : t ≤ N) (hN : N ≤ 400) (hz : 4000 < z) (hb : ∀ i, i < t → v (k + 2) i ≠ y) : f_Names_find z v k N y = some (-1) := by
  unfold f_Names_find
  refine rp_go (f := b_Names_find_2 v k N y) (fun i => nI i) t (fun K => ?_) (fun K i hi => ?_) (by omega)
  · unfold b_Names_find_2
    rw [ht, if_pos (Int32.le_refl _)]
  · unfold b_Names_find_2
    rw [ht, if_neg (by rw [le_n (by omega) (by omega)]; omega), bd, rg (by omega) (by omega), if_neg (hb i hi), ni_s]
theorem r_name (h7 : v 12 7 = 0) (h6 : v 12 6 = nI n) (hn : n < 401) (hk : v 5 n = 47) (hy : v 11 n = y) (hk12 : k + 2 < 12 ∨ 12 < k) (ht : v k 2 = nI t) (htN : t ≤ N) (hN : N ≤ 400) (hz : 4000 < z) (hj : j < t) (he : v (k + 2) j = y) (hb : ∀ i, i < j → v (k + 2) i ≠ y) : f_Reader_takeName z v k N = some (nI j, pu v 12 6 (nI (n + 1))) := by
  unfold f_Reader_takeName
  have hf : f_Names_find z (pu v 12 6 (nI (n + 1))) k N y = some (nI j) := r_find (by rw [pu_p (by omega)]; exact ht) htN hN hz hj (by rw [pu_p (by omega)]; exact he) (fun i hi => by rw [pu_p (by omega)]; exact hb i hi)
  rw [r_seen h7 h6 hn, ob, if_pos hk, bd, bd, h6, rg hn (by omega), pu_p (by omega), hy, ni_s, hf, ob, if_pos (Int32.not_lt.mp (ni_0 (by omega)))]
theorem r_new (h7 : v 12 7 = 0) (h6 : v 12 6 = nI n) (hn : n < 401) (hk : v 5 n = 47) (hy : v 11 n = y) (hk12 : k + 2 < 12 ∨ 12 < k) (h1 : v k 1 = nI N) (ht : v k 2 = nI t) (htN : t < N) (hN : N ≤ 400) (hz : 4000 < z) (hb : ∀ i, i < t → v (k + 2) i ≠ y) : f_Reader_takeNewName z v k N = some (nI t, pu (up (pu v 12 6 (nI (n + 1))) (k + 2) (upd (v (k + 2)) t y)) k 2 (nI (t + 1))) := by
  have e0 : ∀ q, q ≠ 12 → (pu v 12 6 (nI (n + 1))) q = v q := fun q hq => pu_p hq
  have hf : f_Names_find z (pu v 12 6 (nI (n + 1))) k N y = some (-1) := r_none (by rw [e0 k (by omega)]; exact ht) (by omega) hN hz (fun i hi => by rw [e0 (k + 2) (by omega)]; exact hb i hi)
  have hF : f_Names_isFull (pu v 12 6 (nI (n + 1))) k N = some false := by
    unfold f_Names_isFull
    rw [e0 k (by omega), ht, h1, if_pos (by rw [lt_n (by omega) (by omega)]; exact htN)]
  have hA : f_Names_add (pu v 12 6 (nI (n + 1))) k N y = some (nI t, pu (up (pu v 12 6 (nI (n + 1))) (k + 2) (upd (v (k + 2)) t y)) k 2 (nI (t + 1))) := by
    unfold f_Names_add
    rw [bd, e0 k (by omega), e0 (k + 2) (by omega), ht, rs htN (by omega), bd, up_ne (show k ≠ k + 2 by omega), e0 k (by omega), ht, ni_s, pu_s, ni_sub1]
  unfold f_Reader_takeNewName
  rw [r_seen h7 h6 hn, ob, if_pos hk, bd, bd, h6, rg hn (by omega), pu_p (by omega), hy, ni_s, hf, ob, if_pos (by decide), hF, ob, if_pos (show q_b false = 0 from rfl), hA, ob]
theorem r_step (ht : v 42 0 = nI t) (ht4 : t < 400) : f_Steps_add v 42 x y c = some (pu (up (up (up v 44 (upd (v 44) t x)) 46 (upd (v 46) t y)) 48 (upd (v 48) t c)) 42 0 (nI (t + 1))) := by
  unfold f_Steps_add
  simp (disch := omega) only [bd, ht, rs, up_ne, ni_s]
end
