/-! THE SCANNER OVER RIGHT PIECES -/
section
variable {v v0 v1 w u : Va} {m p l n z i k a b s : Nat} {y c : Int32} {ts : List Tk}
/-- the tokens of pieces that are done, and where their bytes are -/
theorem done_tok {fx : List Int32 → Nat} {dn : List Pz} (hD : LAY v 0 (txO dn)) {i : Nat} {t : Tk} (h : (tks 0 (pcs fx dn))[i]? = some t) : ∃ r : Pz, dn[i]? = some r ∧ t.1 = r.1 ∧ t.2.2.1 = r.2.1.length ∧ t.2.1 + t.2.2.1 ≤ (txO dn).length ∧ ∀ q, q < r.2.1.length → v 2 (t.2.1 + q) = r.2.1.getD q 0 := by
  rw [tks_get] at h
  cases hr : dn[i]? with
  | none => rw [hr] at h; cases h
  | some r =>
    rw [hr] at h
    cases h
    have hi : i < dn.length := (List.getElem?_eq_some_iff.mp hr).1
    have e : dn = dn.take i ++ (r :: dn.drop (i + 1)) := by
      have h9 := List.getElem?_eq_some_iff.mp hr
      obtain ⟨h8, h7⟩ := h9
      rw [← h7, ← List.drop_eq_getElem_cons h8, List.take_append_drop]
    have e2 : txO dn = txO (dn.take i) ++ (r.2.1 ++ (r.2.2.1 ++ txO (dn.drop (i + 1)))) := by
      conv => lhs; rw [e]
      rw [txO_app]; rfl
    have hL : LAY v (0 + (txO (dn.take i)).length) r.2.1 := by
      rw [e2] at hD
      exact hD.right.left
    refine ⟨r, rfl, rfl, rfl, ?_, fun q hq => hL q hq⟩
    show 0 + (txO (dn.take i)).length + r.2.1.length ≤ _
    rw [e2, List.length_append, List.length_append]
    omega
theorem getD0_some {L : List Int32} {x : Int32} (h : L[0]? = some x) : L.getD 0 0 = x := by rw [List.getD_eq_getElem?_getD, h]; rfl
/-- one piece -/
theorem piece_rd {full dn qs : List Pz} {q : Pz} (hf : full = dn ++ q :: qs) (hT : LAY v 0 (txO full)) (hm : (txO full).length ≤ 1990) (hn : full.length < 400) (hq : OKz q ((q.2.2.1 ++ txO qs)[0]?)) (hk : ∀ (i : Nat) (r : Pz), dn[i]? = some r → r.1 ≤ 48) : RDs v (txO full).length (txO dn).length (tks 0 (pcs (fxi full) dn)) (q.1, (txO dn).length, q.2.1.length, if q.1 = 47 then nI (fxi full q.2.1) else q.2.2.2) := by
  intro v' hS
  have h2 : v' 2 = v 2 := hS.2.2.2.1 2 (by omega) (by omega) (by omega) (by omega) (by omega)
  have e2 : txO full = txO dn ++ (q.2.1 ++ (q.2.2.1 ++ txO qs)) := by rw [hf, txO_app]; rfl
  have hLd : LAY v 0 (txO dn) := by rw [e2] at hT; exact hT.left
  have hLw : LAY v (txO dn).length q.2.1 := by rw [e2] at hT; have := hT.right.left; rwa [Nat.zero_add] at this
  have hLr : LAY v ((txO dn).length + q.2.1.length) (q.2.2.1 ++ txO qs) := by rw [e2] at hT; have := hT.right.right; rwa [Nat.zero_add] at this
  have hlen : (txO full).length = (txO dn).length + (q.2.1.length + (q.2.2.1 ++ txO qs).length) := by rw [e2, List.length_append, List.length_append]
  have htl : (tks 0 (pcs (fxi full) dn)).length = dn.length := by
    have : ∀ (d : List Pz) (p : Nat), (tks p (pcs (fxi full) d)).length = d.length := by
      intro d
      induction d with
      | nil => intro p; rfl
      | cons x d ih => intro p; show (tks _ (pcs (fxi full) d)).length + 1 = _; rw [ih]; rfl
    exact this dn 0
  have hdn : dn.length + (qs.length + 1) < 400 := by rw [hf, List.length_append] at hn; exact hn
  have hnx : ∀ (R : Int32 → Prop), (∀ x, (q.2.2.1 ++ txO qs)[0]? = some x → R x) → (txO dn).length + q.2.1.length = (txO full).length ∨ R (v' 2 ((txO dn).length + q.2.1.length)) := fun R hR => by
    by_cases h0 : (q.2.2.1 ++ txO qs).length = 0
    · exact Or.inl (by omega)
    · have h1 := hLr 0 (by omega)
      rw [Nat.add_zero] at h1
      rw [h2, h1]
      obtain ⟨x, hx⟩ : ∃ x, (q.2.2.1 ++ txO qs)[0]? = some x := ⟨_, List.getElem?_eq_getElem (by omega)⟩
      rw [getD0_some hx]
      exact Or.inr (hR x hx)
  obtain ⟨hl1, -, -, -, hl10⟩ := hq.first
  have hw : ∀ i, i < q.2.1.length → v' 2 ((txO dn).length + i) = q.2.1.getD i 0 := fun i hi => by rw [h2]; exact hLw i hi
  have hc0 := hw 0 (by omega)
  rw [Nat.add_zero] at hc0
  have hmem : ∀ (L : List Int32) (R : Int32 → Prop), (∀ x ∈ L, R x) → ∀ i, i < L.length → R (L.getD i 0) := fun L R h i hi => by
    rw [List.getD_eq_getElem?_getD, List.getElem?_eq_getElem hi]; exact h _ (List.getElem_mem hi)
  rcases hq with ⟨i, h1, h3, h4, h5, h6⟩ | ⟨l, d, h1, h3, h4, h5, h6⟩ | ⟨f, l, h1, h3, h4, h5, h6, h7, h8⟩ | ⟨i, h1, h3, h4, h5, h6⟩ | ⟨h1, h3, h4⟩
  · obtain ⟨a1, a2, a3, a4⟩ := kw_good ⟨i, h1⟩
    have hkw : f_Tokens_keyword 4001 v' (nI (txO dn).length) (nI q.2.1.length) = some (nI q.1) := by
      rw [kw_move hw (by omega) (by omega), h4, h3]; exact kw_tab ⟨i, h1⟩
    rw [if_neg (by omega), h5]
    refine rd_word (by omega) (by rw [hc0, h4]; exact a4) (sk_kw hS (by omega) hm hl1 hl10 (by omega) (fun j hj => by rw [hw j hj, h4]; exact hmem _ (fun x => wch x = true) a3 j (by rw [← h4]; exact hj)) (hnx (fun x => wch x = false) h6) (by omega) hkw (by omega))
  · obtain ⟨a1, a2⟩ := nm_good l h1
    have hkw : f_Tokens_keyword 4001 v' (nI (txO dn).length) (nI q.2.1.length) = some 47 := by
      rw [kw_move hw (by omega) (by omega), h5]; exact kw_name l h1 ⟨d, h3⟩
    have hwc : ∀ j, j < q.2.1.length → wch (v' 2 ((txO dn).length + j)) = true := fun j hj => by
      rw [hw j hj, h5]
      refine hmem _ (fun x => wch x = true) (fun x hx => ?_) j (by rw [← h5]; exact hj)
      rcases List.mem_cons.mp hx with h | h
      · rw [h]; exact a2
      · rw [List.mem_singleton.mp h]; exact (dg_good ⟨d, h3⟩).1
    have hat : full[dn.length]? = some q := by rw [hf, List.getElem?_append_right (Nat.le_refl _), Nat.sub_self]; rfl
    have hle : fxi full q.2.1 ≤ dn.length := fxi_le full dn.length q hat h4 rfl
    have hdf : ∀ j, j < dn.length → full[j]? = dn[j]? := fun j hj => by rw [hf, List.getElem?_append_left hj]
    have hTB : TkB (tks 0 (pcs (fxi full) dn)) := fun j t ht => by
      obtain ⟨r, r1, r2, r3, r4, r5⟩ := done_tok hLd ht
      exact ⟨by rw [r2]; have := hk j r r1; omega, by omega⟩
    have hfi : f_Tokens_firstWithName 4001 v' (nI (txO dn).length) (nI q.2.1.length) = some (nI (fxi full q.2.1)) := by
      refine sk_first hS (by omega) hTB (by omega) (by omega) (by omega) (fun j t hj ht => ?_) ?_
      · obtain ⟨r, r1, r2, r3, r4, r5⟩ := done_tok hLd ht
        have hjl : j < dn.length := (List.getElem?_eq_some_iff.mp r1).1
        intro ⟨t1, t2, t3⟩
        refine fxi_lt full j r hj ((hdf j hjl).trans r1) ⟨by rw [← r2]; exact t1, ?_⟩
        have hll : r.2.1.length = q.2.1.length := by rw [← r3]; exact t2
        refine List.ext_getElem hll fun k hk1 hk2 => ?_
        have h9 := t3 k hk2
        rw [h2, r5 k hk1, hLw k hk2] at h9
        rw [List.getD_eq_getElem?_getD, List.getD_eq_getElem?_getD, List.getElem?_eq_getElem hk1, List.getElem?_eq_getElem hk2] at h9
        exact h9
      · by_cases he : fxi full q.2.1 = dn.length
        · exact Or.inl (by omega)
        · have hlt : fxi full q.2.1 < dn.length := by omega
          have hfl : full.length = dn.length + (qs.length + 1) := by rw [hf, List.length_append]; rfl
          obtain ⟨r, r1, r2, r3⟩ := fxi_at full (ww := q.2.1) (by omega)
          rw [hdf _ hlt] at r1
          obtain ⟨t, ht⟩ : ∃ t, (tks 0 (pcs (fxi full) dn))[fxi full q.2.1]? = some t := ⟨_, List.getElem?_eq_getElem (by omega)⟩
          obtain ⟨r', s1, s2, s3, s4, s5⟩ := done_tok hLd ht
          rw [r1] at s1
          cases s1
          exact Or.inr ⟨t, ht, by rw [s2]; exact r2, by rw [s3, r3], fun k hk9 => by rw [h2, s5 k (by rw [r3]; exact hk9), hLw k hk9, r3]⟩
    rw [if_pos h4, h4]
    refine rd_word (by omega) (by rw [hc0, h5]; exact a1) (sk_name hS (by omega) hm hl1 hl10 (by omega) hwc (hnx (fun x => wch x = false) h6) (by omega) hkw hfi)
  · have hll : q.2.1.length = l := by rw [h6, List.length_map, List.length_range]
    have hdg : ∀ j, j < l → q.2.1.getD j 0 = nI (48 + f j) := fun j hj => by
      rw [h6, List.getD_eq_getElem?_getD, List.getElem?_map, List.getElem?_range hj]; rfl
    rw [if_neg (by omega), h5, h7]
    refine rd_num (by omega) (by rw [hc0, hdg 0 (by omega)]; exact (dg_good ⟨f 0, h1 0⟩).2.1) (by rw [hc0, hdg 0 (by omega)]; exact dig_yes (h1 0)) ?_
    rw [hll]
    refine sk_number hS (by omega) hm (by omega) h4 h1 (fun j hj => by rw [hw j (by omega)]; exact hdg j hj) ?_ (by omega)
    have := hnx (fun x => f_Tokens_isDigit x = some false) h8
    rw [hll] at this
    exact this
  · obtain ⟨a1, a2, -, -⟩ := sg_good ⟨i, h1⟩
    have hll : q.2.1.length = 1 := by rw [h4]; rfl
    rw [if_neg (by omega), h5, h3, hll]
    refine rd_sign (c := sgB.getD i 0) (by omega) (by rw [hc0, h4]; rfl) a1 a2 (sk_sign hS (by omega) hm (by omega) h1 ?_)
    rcases h6 with h6 | ⟨x, hx, hx2⟩
    · exact Or.inl h6
    · have h0 : 0 < (q.2.2.1 ++ txO qs).length := (List.getElem?_eq_some_iff.mp hx).1
      refine Or.inr ⟨by omega, ?_⟩
      have h9 := hLr 0 h0
      rw [hll, Nat.add_zero, getD0_some hx] at h9
      rw [h2, h9]; exact hx2
  · have hll : q.2.1.length = 2 := by rw [h3]; rfl
    rw [if_neg (by omega), h4, h1, hll]
    refine rd_sign (c := 60) (by omega) (by rw [hc0, h3]; rfl) (by decide) (by decide) (sk_atmost hS (by omega) hm (by omega) ?_)
    rw [hw 1 (by omega), h3]; rfl
end
