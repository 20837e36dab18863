/-! THE CLASS RECKONS TO AN END whatever the steps are -/
def TO {α : Type} (X : Option α) : Prop := ∃ b, X = some b
def STo (v : Va) (k j : Nat) (K : (Int32 × Va) → Option (Int32 × Va)) (X : Option (Int32 × Va)) : Prop := ∃ w, X = K (nI (j + 1), w) ∧ FR k v w
section
variable {v w : Va} {k j z : Nat} {K : (Int32 × Va) → Option (Int32 × Va)} {X Y : Option (Int32 × Va)} {x a b c : Int32}
theorem to_some {α : Type} {y : α} : TO (some y) := ⟨y, rfl⟩
theorem to_ite {α : Type} {c : Prop} [Decidable c] {X Y : Option α} (h1 : TO X) (h2 : TO Y) : TO (if c then X else Y) := by
  by_cases h : c
  · rw [if_pos h]; exact h1
  · rw [if_neg h]; exact h2
theorem to_bind {α β : Type} {B : Option β} {f : β → Option α} (h1 : TO B) (h : ∀ b, TO (f b)) : TO (B.bind f) := by
  obtain ⟨b, rfl⟩ := h1
  exact h b
theorem to_sum (hz : 4000 < z) : TO (f_Debts_sumOf z v k a) := by
  obtain ⟨r, h, -⟩ := rp_inv (f := b_Debts_sumOf_4 v k a) (fun i t => t.2 = nI i) (fun _ => True) 6 (fun K t ht => ⟨t.1, by
    unfold b_Debts_sumOf_4
    rw [ht, if_pos (by decide)], trivial⟩) (fun K i t hi ht => Or.inl ⟨_, by
    unfold b_Debts_sumOf_4
    rw [ht, show (6 : Int32) = nI 6 from rfl, if_neg (by rw [le_n (by omega) (by omega)]; omega), bd], by simp only; rw [ni_s]⟩) z 0 (0, 0) rfl (by omega) (by omega)
  exact ⟨r, h⟩
theorem to_val (hz : 4000 < z) : TO (f_Reckoner_value z v k a b c) := by
  unfold f_Reckoner_value f_Stand_ageOfChop f_Debts_between
  exact to_ite to_some (to_ite to_some (to_ite to_some (to_ite to_some (to_ite to_some (to_ite (to_bind (to_ite to_some to_some) fun _ => to_some) (to_ite (to_bind (to_sum hz) fun _ => to_some) (to_ite (to_bind to_some fun _ => to_some) (to_ite (to_ite to_some to_some) to_some))))))))
theorem to_joined : TO (f_Reckoner_joined a b c) := by
  unfold f_Reckoner_joined
  exact to_ite to_some (to_ite to_some (to_ite to_some (to_ite to_some (to_ite (to_ite to_some to_some) to_some))))
theorem to_holds : TO (f_Reckoner_holds a b c) := by
  unfold f_Reckoner_holds
  exact to_ite (to_ite to_some to_some) (to_ite (to_ite to_some to_some) (to_ite (to_ite to_some to_some) (to_ite (to_ite to_some to_some) (to_ite to_some to_some))))
theorem to_jt : TO (f_Kind_joinsTests a) := by
  unfold f_Kind_joinsTests
  exact to_ite to_some (to_ite to_some to_some)
theorem to_cm : TO (f_Kind_compares a) := by
  unfold f_Kind_compares
  exact to_ite to_some (to_ite to_some to_some)
theorem to_js : TO (f_Kind_joinsSums a) := by
  unfold f_Kind_joinsSums j_Kind_joinsSums_12
  exact to_ite (to_ite to_some (to_ite to_some to_some)) (to_ite to_some (to_ite to_some (to_ite to_some to_some)))
theorem sto_ite {c : Prop} [Decidable c] (h1 : STo v k j K X) (h2 : STo v k j K Y) : STo v k j K (if c then X else Y) := by
  by_cases h : c
  · rw [if_pos h]; exact h1
  · rw [if_neg h]; exact h2
theorem sto_bind {β : Type} {B : Option β} {f : β → Option (Int32 × Va)} (h1 : TO B) (h : ∀ b, STo v k j K (f b)) : STo v k j K (B.bind f) := by
  obtain ⟨b, rfl⟩ := h1
  exact h b
theorem fr_pu {q i : Nat} (h : FR k v w) (hq : q = k + 23 ∨ q = k + 25) : FR k v (pu w q i x) := fun p h1 h2 => by
  unfold pu; rw [up_ne (by omega)]; exact h p h1 h2
theorem fr_up {q : Nat} {f : Nat → Int32} (h : FR k v w) (hq : q = k + 23 ∨ q = k + 25) : FR k v (up w q f) := fun p h1 h2 => by
  rw [up_ne (by omega)]; exact h p h1 h2
theorem sto_take {f : Int32 × Va → Option (Int32 × Va)} (h : FR k v w) (hf : ∀ x w', FR k v w' → STo v k j K (f (x, w'))) : STo v k j K ((f_Reckoner_take w k).bind f) := by
  unfold f_Reckoner_take
  rw [bd, bd, ob]
  exact hf _ _ (fr_pu h (Or.inl rfl))
theorem sto_put {f : Va → Option (Int32 × Va)} (h : FR k v w) (hf : ∀ w', FR k v w' → STo v k j K (f w')) : STo v k j K ((f_Reckoner_put w k x).bind f) := by
  unfold f_Reckoner_put
  rw [bd, bd, ob]
  exact hf _ (fr_pu (fr_up h (Or.inr rfl)) (Or.inl rfl))
theorem sto_end {t : Int32 × Va} (h : FR k v w) (ht : t.1 = nI j) : STo v k j K (j_Reckoner_reckon_213 K t w) := by
  unfold j_Reckoner_reckon_213
  rw [ht, ni_s]
  exact ⟨w, rfl, h⟩
theorem reckon_any (hz : 4000 < z) {f n : Nat} (h1 : f + n ≤ 400) : ∃ x v1, f_Reckoner_reckon z v k (nI f) (nI (f + n)) = some (x, v1) ∧ FR k v v1 := by
  obtain ⟨⟨x, v1⟩, q1, q2⟩ := rp_inv (f := b_Reckoner_reckon_7 z k (nI (f + n))) (fun i t => t.1 = nI (f + i) ∧ FR k v t.2) (fun r => FR k v r.2) n (fun K t ht => by
    unfold b_Reckoner_reckon_7 f_Reckoner_take
    rw [ht.1, if_pos (by rw [le_n (by omega) (by omega)]; omega), bd, bd, ob]
    exact ⟨_, rfl, fr_pu ht.2 (Or.inl rfl)⟩) (fun K i t hi ht => by
    obtain ⟨i', w⟩ := t
    obtain ⟨e, hw⟩ := ht
    simp only at e hw
    subst e
    have key : STo v k (f + i) K (b_Reckoner_reckon_7 z k (nI (f + n)) K (nI (f + i), w)) := by
      unfold b_Reckoner_reckon_7
      rw [if_neg (by rw [le_n (by omega) (by omega)]; omega), bd]
      refine sto_ite (sto_take hw fun _ _ h => sto_put h fun _ h => sto_end h rfl) (sto_ite (sto_take hw fun _ _ h => sto_put h fun _ h => sto_end h rfl) (sto_bind to_js fun _ => sto_ite (sto_bind to_cm fun _ => sto_ite (sto_bind to_jt fun _ => sto_ite ?_ ?_) ?_) (sto_take hw fun _ _ h => sto_take h fun _ _ h => sto_bind to_joined fun _ => sto_put h fun _ h => sto_end h rfl)))
      · rw [bd, bd]
        exact sto_bind (to_val hz) fun _ => sto_put hw fun _ h => sto_end h rfl
      · unfold j_Reckoner_reckon_175
        exact sto_take hw fun _ _ h => sto_ite (sto_take h fun _ _ h => sto_put h fun _ h => sto_end h rfl) (sto_take h fun _ _ h => sto_put h fun _ h => sto_end h rfl)
      · unfold j_Reckoner_reckon_130
        exact sto_take hw fun _ _ h => sto_take h fun _ _ h => sto_bind to_holds fun _ => sto_ite (sto_put h fun _ h => sto_end h rfl) (sto_put h fun _ h => sto_end h rfl)
    obtain ⟨w', k1, k2⟩ := key
    exact Or.inl ⟨_, k1, rfl, k2⟩) z 0 (nI f, pu v (k + 23) 3 0) ⟨rfl, fr_pu (fun _ _ _ => rfl) (Or.inl rfl)⟩ (by omega) (by omega)
  exact ⟨x, v1, q1, q2⟩
end
