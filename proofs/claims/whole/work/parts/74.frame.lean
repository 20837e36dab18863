/-! THE ERROR PASS WRITES ITS SHEET ALONE -/
def FKr (k1 : Nat) (u : Va) (X : Option (Int32 × Va)) : Prop := ∀ e w, X = some (e, w) → ∀ p, p < k1 → w p = u p
section
variable {k1 sp z j : Nat} {u w : Va} {X Y : Option (Int32 × Va)} {a e x : Int32}
theorem fk_none : FKr k1 u none := fun e w h => by cases h
theorem fk_some (h : ∀ p, p < k1 → w p = u p) : FKr k1 u (some (e, w)) := fun e' w' q p hp => by
  cases q; exact h p hp
theorem fk_ite {c : Prop} [Decidable c] (h1 : FKr k1 u X) (h2 : FKr k1 u Y) : FKr k1 u (if c then X else Y) := by
  by_cases h : c
  · rw [if_pos h]; exact h1
  · rw [if_neg h]; exact h2
theorem fk_bind {β : Type} {B : Option β} {f : β → Option (Int32 × Va)} (h : ∀ b, B = some b → FKr k1 u (f b)) : FKr k1 u (B.bind f) := by
  cases B with
  | none => exact fk_none
  | some b => rw [ob]; exact h b rfl
theorem fk_pu {p i : Nat} (h : ∀ p, p < k1 → w p = u p) (hp : k1 ≤ p) : ∀ q, q < k1 → (pu w p i x) q = u q := fun q hq => by
  unfold pu; rw [up_ne (by omega)]; exact h q hq
theorem fk_id : ∀ p, p < k1 → u p = u p := fun _ _ => rfl
theorem fk_pair (h : FKr k1 u X) : FKr k1 u (X.bind fun q => some (q.1, q.2)) := fk_bind fun b hb => fk_some fun p hp => h b.1 b.2 hb p hp
theorem fk_new : FKr k1 u (f_Model_errorOfNew z u sp k1 a x) := by
  unfold f_Model_errorOfNew
  refine fk_bind fun q3 _ => fk_bind fun q11 hq => fk_bind fun q23 _ => ?_
  have hge : k1 ≤ q11.1 := by
    unfold f_Model_namesOf at hq
    by_cases h0 : x = 0
    · rw [if_pos h0] at hq; cases hq; exact Nat.le_add_right _ _
    rw [if_neg h0] at hq
    by_cases h2 : x = 2
    · rw [if_pos h2] at hq; cases hq; exact Nat.le_add_right _ _
    rw [if_neg h2] at hq
    by_cases h5 : x = 5
    · rw [if_pos h5] at hq; cases hq; exact Nat.le_add_right _ _
    rw [if_neg h5] at hq; cases hq; exact Nat.le_add_right _ _
  have h1 : ∀ i y, ∀ p, p < k1 → (pu u q11.1 i y) p = u p := fun i y => fk_pu fk_id hge
  refine fk_ite (fk_ite (fk_some fk_id) (fk_ite fk_none ?_)) (fk_some fk_id)
  exact fk_ite (fk_some (fk_pu (h1 _ _) (Nat.le_refl _))) (fk_ite (fk_some (fk_pu (h1 _ _) (Nat.le_refl _))) (fk_ite (fk_some (fk_pu (h1 _ _) (Nat.le_refl _))) (fk_some (fk_pu (h1 _ _) (Nat.le_refl _)))))
theorem fk_151 {q : Int32} (h : ∀ p, p < k1 → w p = u p) {v0 : Va} : FKr k1 u (j_Model_errorOfName_151 v0 k1 a q w) := by
  have h163 : FKr k1 u (j_Model_errorOfName_163 k1 q w) := by
    unfold j_Model_errorOfName_163
    exact fk_ite fk_none (fk_some (fk_pu h (Nat.le_add_right _ _)))
  unfold j_Model_errorOfName_151
  exact fk_ite h163 (fk_ite h163 (fk_some h))
theorem fk_120 {q : Int32} (h : ∀ p, p < k1 → w p = u p) {v0 : Va} : FKr k1 u (j_Model_errorOfName_120 v0 k1 a q w) := by
  have h138 : FKr k1 u (j_Model_errorOfName_138 v0 k1 a q w) := by
    unfold j_Model_errorOfName_138
    exact fk_ite fk_none (fk_151 (fk_pu h (Nat.le_add_right _ _)))
  unfold j_Model_errorOfName_120
  exact fk_ite h138 (fk_ite h138 (fk_ite h138 (fk_151 h)))
theorem fk_101 {q : Int32} (h : ∀ p, p < k1 → w p = u p) {v0 : Va} : FKr k1 u (j_Model_errorOfName_101 v0 k1 a q w) := by
  unfold j_Model_errorOfName_101
  exact fk_ite (fk_ite fk_none (fk_120 (fk_pu h (Nat.le_add_right _ _)))) (fk_120 h)
theorem fk_name : FKr k1 u (f_Model_errorOfName z u sp k1 a) := by
  have h29 : FKr k1 u (j_Model_errorOfName_29 z u sp k1 a) := by
    unfold j_Model_errorOfName_29
    exact fk_pair fk_new
  unfold f_Model_errorOfName
  refine fk_ite fk_none (fk_ite h29 (fk_ite h29 (fk_ite h29 (fk_ite h29 (fk_bind fun q39 _ => fk_bind fun q50 _ => fk_bind fun q57 _ => fk_bind fun q61 _ => fk_ite (fk_some fk_id) (fk_ite fk_none ?_))))))
  have h4 : ∀ p, p < k1 → (pu u (k1 + 4) a.toNatClampNeg q61) p = u p := fk_pu fk_id (Nat.le_add_right _ _)
  exact fk_ite (fk_ite fk_none (fk_101 (fk_pu h4 (Nat.le_add_right _ _)))) (fk_101 h4)
theorem fk_num : FKr k1 u (f_Model_errorOfNumber z u sp k1 a) := by
  unfold f_Model_errorOfNumber
  refine fk_bind fun q3 _ => fk_ite fk_none ?_
  have h4 : ∀ p, p < k1 → (pu u (k1 + 4) a.toNatClampNeg q3) p = u p := fk_pu fk_id (Nat.le_add_right _ _)
  have hr : ∀ (i r : Nat) (lo hi : Int32), FKr k1 u ((f_Model_errorOfRange q3 lo hi).bind fun q => some (q, pu (pu u (k1 + 4) a.toNatClampNeg q3) (k1 + r) i q3)) := fun i r lo hi => fk_bind fun b _ => fk_some (fk_pu h4 (Nat.le_add_right _ _))
  exact fk_ite fk_none (fk_ite (fk_ite fk_none (hr _ _ _ _)) (fk_ite (fk_ite fk_none (hr _ _ _ _)) (fk_ite (fk_ite fk_none (hr _ _ _ _)) (fk_ite (fk_ite fk_none (hr _ _ _ _)) (fk_ite (fk_ite fk_none (hr _ _ _ _)) (fk_ite (fk_ite fk_none (hr _ _ _ _)) (fk_some h4)))))))
theorem fk_ord : FKr k1 u (f_Model_errorOfOrder u sp k1 a) := by
  have h40 : ∀ y, FKr k1 u (j_Model_errorOfOrder_40 u k1 y) := fun y => by
    unfold j_Model_errorOfOrder_40
    exact fk_ite fk_none (fk_ite fk_none (fk_ite fk_none (fk_some (fk_pu (fk_pu (fk_pu (fk_pu fk_id (Nat.le_add_right _ _)) (Nat.le_add_right _ _)) (Nat.le_add_right _ _)) (Nat.le_refl _)))))
  unfold f_Model_errorOfOrder
  exact fk_ite (fk_some fk_id) (fk_ite (h40 _) (fk_ite (h40 _) (h40 _)))
theorem fk_err : FKr k1 u (f_Model_errorOf z u sp k1 a) := by
  unfold f_Model_errorOf
  exact fk_ite fk_none (fk_ite (fk_pair fk_ord) (fk_ite (fk_pair fk_ord) (fk_ite (fk_pair fk_ord) (fk_ite (fk_ite fk_none (fk_some (fk_pu fk_id (Nat.le_add_right _ _)))) (fk_ite (fk_ite fk_none (fk_some (fk_pu fk_id (Nat.le_add_right _ _)))) (fk_ite (fk_pair fk_name) (fk_ite (fk_pair fk_num) (fk_some fk_id))))))))
end
