/-! THE ERROR PASS LEAVES ZERO what no merchant and no lot has told -/
def ZR (k1 : Nat) (cp : Va) (u : Va) : Prop := (u (k1 + 2) = cp (k1 + 2) ∧ u (k1 + 1) = cp (k1 + 1)) ∧ (∃ M, M ≤ 6 ∧ u k1 11 = nI M ∧ ∀ i, M ≤ i → u (k1 + 11) i = 0) ∧ ∃ L, L ≤ 10 ∧ u k1 15 = nI L ∧ ∀ i, L ≤ i → u (k1 + 15) i = 0
def ZRr (k1 : Nat) (cp : Va) (X : Option (Int32 × Va)) : Prop := ∀ e w, X = some (e, w) → ZR k1 cp w ∧ (0 : Int32) ≤ e
section
variable {cp : Va} {k1 sp z j : Nat} {u w : Va} {X Y : Option (Int32 × Va)} {a e x : Int32}
theorem ZR.eq (h : ZR k1 cp u) (e0 : w k1 11 = u k1 11 ∧ w k1 15 = u k1 15) (e1 : w (k1 + 11) = u (k1 + 11)) (e2 : w (k1 + 15) = u (k1 + 15)) (e3 : w (k1 + 2) = u (k1 + 2)) (e4 : w (k1 + 1) = u (k1 + 1)) : ZR k1 cp w := by
  unfold ZR at h ⊢
  rw [e0.1, e0.2, e1, e2, e3, e4]; exact h
theorem zr_none : ZRr k1 cp none := fun e w h => by cases h
theorem zr_some (h : ZR k1 cp w) (he : (0 : Int32) ≤ e := by decide) : ZRr k1 cp (some (e, w)) := fun e' w' q => by cases q; exact ⟨h, he⟩
theorem zr_ite {c : Prop} [Decidable c] (h1 : ZRr k1 cp X) (h2 : ZRr k1 cp Y) : ZRr k1 cp (if c then X else Y) := by
  by_cases h : c
  · rw [if_pos h]; exact h1
  · rw [if_neg h]; exact h2
theorem zr_itd {c : Prop} [Decidable c] (h1 : c → ZRr k1 cp X) (h2 : ¬ c → ZRr k1 cp Y) : ZRr k1 cp (if c then X else Y) := by
  by_cases h : c
  · rw [if_pos h]; exact h1 h
  · rw [if_neg h]; exact h2 h
theorem zr_bind {β : Type} {B : Option β} {f : β → Option (Int32 × Va)} (h : ∀ b, B = some b → ZRr k1 cp (f b)) : ZRr k1 cp (B.bind f) := by
  cases B with
  | none => exact zr_none
  | some b => rw [ob]; exact h b rfl
theorem zr_pu {p i : Nat} (h : ZR k1 cp w) (hp : p ≠ k1) (h11 : p ≠ k1 + 11) (h15 : p ≠ k1 + 15 ∧ p ≠ k1 + 2 ∧ p ≠ k1 + 1) : ZR k1 cp (pu w p i x) := by
  unfold pu
  exact h.eq ⟨by rw [up_ne (Ne.symm hp)], by rw [up_ne (Ne.symm hp)]⟩ (by rw [up_ne (Ne.symm h11)]) (by rw [up_ne (Ne.symm h15.1)]) (by rw [up_ne (Ne.symm h15.2.1)]) (by rw [up_ne (Ne.symm h15.2.2)])
theorem zr_pk {i : Nat} (h : ZR k1 cp w) (h11 : i ≠ 11) (h15 : i ≠ 15) : ZR k1 cp (pu w k1 i x) := by
  unfold pu
  exact h.eq ⟨by rw [up_eq, upd_ne (Ne.symm h11)], by rw [up_eq, upd_ne (Ne.symm h15)]⟩ (by rw [up_ne (by omega)]) (by rw [up_ne (by omega)]) (by rw [up_ne (by omega)]) (by rw [up_ne (by omega)])
theorem zr_pair (h : ZRr k1 cp X) : ZRr k1 cp (X.bind fun q => some (q.1, q.2)) := zr_bind fun b hb => zr_some (h b.1 b.2 hb).1 (h b.1 b.2 hb).2
theorem zr_ix {M N : Nat} (hM : M ≤ 4000) (hg : ¬ (nI M - 1 < 0 ∨ N ≤ (nI M - 1).toNatClampNeg)) : (nI M - 1).toNatClampNeg < M := by
  cases M with
  | zero => exact absurd (Or.inl (by decide)) hg
  | succ M => rw [ni_sub1, ni_c (by omega)]; omega
theorem zr_11 (h : ZR k1 cp u) (hg : ¬ ((u k1 11) - 1 < 0 ∨ 6 ≤ ((u k1 11) - 1).toNatClampNeg)) : ZR k1 cp (pu u (k1 + 11) ((u k1 11) - 1).toNatClampNeg x) := by
  obtain ⟨h9, ⟨M, h1, h2, h3⟩, h4⟩ := h
  rw [h2] at hg ⊢
  have hi := zr_ix (by omega) hg
  refine ⟨⟨by unfold pu; rw [up_ne (by omega)]; exact h9.1, by unfold pu; rw [up_ne (by omega)]; exact h9.2⟩, ⟨M, h1, ?_, fun i hi2 => ?_⟩, ?_⟩
  · unfold pu; rw [up_ne (by omega)]; exact h2
  · unfold pu; rw [up_eq, upd_ne (by omega)]; exact h3 i hi2
  · unfold pu; rw [up_ne (by omega), up_ne (by omega)]; exact h4
theorem zr_15 (h : ZR k1 cp u) (hg : ¬ ((u k1 15) - 1 < 0 ∨ 10 ≤ ((u k1 15) - 1).toNatClampNeg)) : ZR k1 cp (pu u (k1 + 15) ((u k1 15) - 1).toNatClampNeg x) := by
  obtain ⟨h9, h4, M, h1, h2, h3⟩ := h
  rw [h2] at hg ⊢
  have hi := zr_ix (by omega) hg
  refine ⟨⟨by unfold pu; rw [up_ne (by omega)]; exact h9.1, by unfold pu; rw [up_ne (by omega)]; exact h9.2⟩, ?_, M, h1, ?_, fun i hi2 => ?_⟩
  · unfold pu; rw [up_ne (by omega), up_ne (by omega)]; exact h4
  · unfold pu; rw [up_ne (by omega)]; exact h2
  · unfold pu; rw [up_eq, upd_ne (by omega)]; exact h3 i hi2
theorem zr_new (h : ZR k1 cp u) : ZRr k1 cp (f_Model_errorOfNew z u sp k1 a x) := by
  unfold f_Model_errorOfNew
  refine zr_bind fun q3 h3 => zr_bind fun q11 hq => zr_bind fun q23 _ => ?_
  refine zr_ite (zr_itd (fun _ => zr_some h) (fun hf => zr_ite zr_none ?_)) (zr_some h)
  simp only [bd]
  by_cases h0 : x = 0
  · subst h0
    unfold f_Model_namesOf at hq
    rw [if_pos rfl] at hq
    cases hq
    rw [if_pos rfl]
    exact zr_some (zr_pk (zr_pu h (by omega) (by omega) (by omega)) (by omega) (by omega))
  by_cases h2 : x = 2
  · subst h2
    unfold f_Model_namesOf at hq
    rw [if_neg (by decide), if_pos rfl] at hq
    cases hq
    rw [if_neg (by decide), if_pos rfl]
    exact zr_some (zr_pk (zr_pu h (by omega) (by omega) (by omega)) (by omega) (by omega))
  by_cases h5 : x = 5
  · subst h5
    unfold f_Model_namesOf at hq
    rw [if_neg (by decide), if_neg (by decide), if_pos rfl] at hq
    cases hq
    unfold f_Model_manyOf at h3
    rw [if_neg (by decide), if_neg (by decide), if_pos rfl] at h3
    cases h3
    rw [if_neg (by decide), if_neg (by decide), if_pos rfl]
    refine zr_some ?_
    obtain ⟨h9, ⟨M, h1, h2, h3⟩, h4⟩ := zr_pu (x := a) (p := k1 + 10) (i := (u k1 11).toNatClampNeg) h (by omega) (by omega) (by omega)
    have hu : u k1 11 = nI M := by rw [← h2]; unfold pu; rw [up_ne (by omega)]
    have hM : M ≠ 6 := fun q => hf (by rw [hu, q])
    refine ⟨?_, ⟨M + 1, by omega, ?_, fun i hi => ?_⟩, ?_⟩
    · refine ⟨?_, ?_⟩
      · show (up _ k1 _) (k1 + 2) = cp (k1 + 2)
        rw [up_ne (by omega)]; exact h9.1
      · show (up _ k1 _) (k1 + 1) = cp (k1 + 1)
        rw [up_ne (by omega)]; exact h9.2
    · rw [h2, ni_s]
      show (up _ k1 (upd _ 11 _)) k1 11 = _
      rw [up_eq, upd_eq]
    · show (up (α := Nat → Int32) _ k1 _) (k1 + 11) i = 0
      rw [up_ne (by omega)]; exact h3 i (by omega)
    · obtain ⟨L, l1, l2, l3⟩ := h4
      refine ⟨L, l1, ?_, fun i hi => ?_⟩
      · show (up _ k1 (upd _ 11 _)) k1 15 = _
        rw [up_eq, upd_ne (by omega)]; exact l2
      · show (up (α := Nat → Int32) _ k1 _) (k1 + 15) i = 0
        rw [up_ne (by omega)]; exact l3 i hi
  · unfold f_Model_namesOf at hq
    rw [if_neg h0, if_neg h2, if_neg h5] at hq
    cases hq
    unfold f_Model_manyOf at h3
    rw [if_neg h0, if_neg h2, if_neg h5] at h3
    cases h3
    rw [if_neg h0, if_neg h2, if_neg h5]
    refine zr_some ?_
    obtain ⟨h9, h4, L, h1, h2, h3⟩ := zr_pu (x := a) (p := k1 + 13) (i := (u k1 15).toNatClampNeg) h (by omega) (by omega) (by omega)
    have hu : u k1 15 = nI L := by rw [← h2]; unfold pu; rw [up_ne (by omega)]
    have hM : L ≠ 10 := fun q => hf (by rw [hu, q])
    refine ⟨?_, ?_, L + 1, by omega, ?_, fun i hi => ?_⟩
    · refine ⟨?_, ?_⟩
      · show (up _ k1 _) (k1 + 2) = cp (k1 + 2)
        rw [up_ne (by omega)]; exact h9.1
      · show (up _ k1 _) (k1 + 1) = cp (k1 + 1)
        rw [up_ne (by omega)]; exact h9.2
    · obtain ⟨M, l1, l2, l3⟩ := h4
      refine ⟨M, l1, ?_, fun i hi => ?_⟩
      · show (up _ k1 (upd _ 15 _)) k1 11 = _
        rw [up_eq, upd_ne (by omega)]; exact l2
      · show (up (α := Nat → Int32) _ k1 _) (k1 + 11) i = 0
        rw [up_ne (by omega)]; exact l3 i hi
    · rw [h2, ni_s]
      show (up _ k1 (upd _ 15 _)) k1 15 = _
      rw [up_eq, upd_eq]
    · show (up (α := Nat → Int32) _ k1 _) (k1 + 15) i = 0
      rw [up_ne (by omega)]; exact h3 i (by omega)
theorem zr_151 {q : Int32} (h : ZR k1 cp w) {v0 : Va} : ZRr k1 cp (j_Model_errorOfName_151 v0 k1 a q w) := by
  have h163 : ZRr k1 cp (j_Model_errorOfName_163 k1 q w) := by
    unfold j_Model_errorOfName_163
    exact zr_ite zr_none (zr_some (zr_pu h (by omega) (by omega) (by omega)))
  unfold j_Model_errorOfName_151
  exact zr_ite h163 (zr_ite h163 (zr_some h))
theorem zr_120 {q : Int32} (h : ZR k1 cp w) {v0 : Va} : ZRr k1 cp (j_Model_errorOfName_120 v0 k1 a q w) := by
  have h138 : ZRr k1 cp (j_Model_errorOfName_138 v0 k1 a q w) := by
    unfold j_Model_errorOfName_138
    exact zr_ite zr_none (zr_151 (zr_pu h (by omega) (by omega) (by omega)))
  unfold j_Model_errorOfName_120
  exact zr_ite h138 (zr_ite h138 (zr_ite h138 (zr_151 h)))
theorem zr_101 {q : Int32} (h : ZR k1 cp w) {v0 : Va} : ZRr k1 cp (j_Model_errorOfName_101 v0 k1 a q w) := by
  unfold j_Model_errorOfName_101
  exact zr_ite (zr_ite zr_none (zr_120 (zr_pu h (by omega) (by omega) (by omega)))) (zr_120 h)
theorem zr_name (h : ZR k1 cp u) : ZRr k1 cp (f_Model_errorOfName z u sp k1 a) := by
  have h29 : ZRr k1 cp (j_Model_errorOfName_29 z u sp k1 a) := by
    unfold j_Model_errorOfName_29
    exact zr_pair (zr_new h)
  unfold f_Model_errorOfName
  refine zr_ite zr_none (zr_ite h29 (zr_ite h29 (zr_ite h29 (zr_ite h29 (zr_bind fun q39 _ => zr_bind fun q50 _ => zr_bind fun q57 _ => zr_bind fun q61 _ => zr_ite (zr_some h) (zr_ite zr_none ?_))))))
  have h4 : ZR k1 cp (pu u (k1 + 4) a.toNatClampNeg q61) := zr_pu h (by omega) (by omega) (by omega)
  exact zr_ite (zr_ite zr_none (zr_101 (zr_pu h4 (by omega) (by omega) (by omega)))) (zr_101 h4)
theorem zr_num (h : ZR k1 cp u) : ZRr k1 cp (f_Model_errorOfNumber z u sp k1 a) := by
  unfold f_Model_errorOfNumber
  refine zr_bind fun q3 _ => zr_ite zr_none ?_
  have h4 : ZR k1 cp (pu u (k1 + 4) a.toNatClampNeg q3) := zr_pu h (by omega) (by omega) (by omega)
  have hr : ∀ (w : Va) (lo hi : Int32), ZR k1 cp w → ZRr k1 cp ((f_Model_errorOfRange q3 lo hi).bind fun q => some (q, w)) := fun w lo hi hw => zr_bind fun b hb => zr_some hw (by
    unfold f_Model_errorOfRange at hb
    rw [isIn_e, ob] at hb
    by_cases hq : q_b (decide (¬ q3 < lo ∧ ¬ hi < q3)) = 0
    · rw [if_pos hq] at hb; cases hb; decide
    · rw [if_neg hq] at hb; cases hb; decide)
  exact zr_ite zr_none (zr_ite (zr_ite zr_none (hr _ _ _ (zr_pu h4 (by omega) (by omega) (by omega)))) (zr_ite (zr_ite zr_none (hr _ _ _ (zr_pu h4 (by omega) (by omega) (by omega)))) (zr_ite (zr_ite zr_none (hr _ _ _ (zr_pu h4 (by omega) (by omega) (by omega)))) (zr_ite (zr_itd (fun _ => zr_none) (fun hg => hr _ _ _ (zr_11 h4 hg))) (zr_ite (zr_ite zr_none (hr _ _ _ (zr_pu h4 (by omega) (by omega) (by omega)))) (zr_ite (zr_itd (fun _ => zr_none) (fun hg => hr _ _ _ (zr_15 h4 hg))) (zr_some h4)))))))
theorem zr_ord (h : ZR k1 cp u) : ZRr k1 cp (f_Model_errorOfOrder u sp k1 a) := by
  have h40 : ∀ y, ZRr k1 cp (j_Model_errorOfOrder_40 u k1 y) := fun y => by
    unfold j_Model_errorOfOrder_40
    exact zr_ite zr_none (zr_ite zr_none (zr_ite zr_none (zr_some (zr_pk (zr_pu (zr_pu (zr_pu h (by omega) (by omega) (by omega)) (by omega) (by omega) (by omega)) (by omega) (by omega) (by omega)) (by omega) (by omega)))))
  unfold f_Model_errorOfOrder
  exact zr_ite (zr_some h) (zr_ite (h40 _) (zr_ite (h40 _) (h40 _)))
theorem zr_err (h : ZR k1 cp u) : ZRr k1 cp (f_Model_errorOf z u sp k1 a) := by
  unfold f_Model_errorOf
  exact zr_ite zr_none (zr_ite (zr_pair (zr_ord h)) (zr_ite (zr_pair (zr_ord h)) (zr_ite (zr_pair (zr_ord h)) (zr_ite (zr_ite zr_none (zr_some (zr_pu h (by omega) (by omega) (by omega)))) (zr_ite (zr_ite zr_none (zr_some (zr_pu h (by omega) (by omega) (by omega)))) (zr_ite (zr_pair (zr_name h)) (zr_ite (zr_pair (zr_num h)) (zr_some h))))))))
/-- the whole pass: zeros, what lies below, how far it comes -/
theorem fold2_ok : ∀ (n i : Nat) (u : Va), ZR k1 cp u → ∀ e k w, fold2 z sp k1 n i u = some (e, k, w) → ZR k1 cp w ∧ (∀ p, p < k1 → w p = u p) ∧ ((¬ e = 0) → k < i + n) ∧ (0 : Int32) ≤ e
  | 0, i, u, h, e, k, w, q => by
    cases q
    exact ⟨h, fun _ _ => rfl, fun q => absurd rfl q, by decide⟩
  | n + 1, i, u, h, e, k, w, q => by
    have q : ((f_Model_errorOf z u sp k1 (nI i)).bind fun q => if q.1 = 0 then fold2 z sp k1 n (i + 1) q.2 else some (q.1, i, q.2)) = some (e, k, w) := q
    cases hE : f_Model_errorOf z u sp k1 (nI i) with
    | none => rw [hE] at q; cases q
    | some r =>
      have hz := zr_err h r.1 r.2 hE
      have hf := fk_err (k1 := k1) r.1 r.2 hE
      rw [hE, ob] at q
      by_cases h0 : r.1 = 0
      · rw [if_pos h0] at q
        obtain ⟨a1, a2, a3, a4⟩ := fold2_ok n (i + 1) r.2 hz.1 e k w q
        exact ⟨a1, fun p hp => (a2 p hp).trans (hf p hp), fun q => by have := a3 q; omega, a4⟩
      · rw [if_neg h0] at q
        cases q
        exact ⟨hz.1, hf, fun _ => by omega, hz.2⟩
end
