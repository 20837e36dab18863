/-! THE WORLD AT THE BEGINNING: a quay at 0, a model at 149, the law's row at 194 -/
def wv0 : Sh × Va := (fun _ => none, fun _ _ => 0)
def wv1 : Sh × Va := K_Quay (kO wv0 0 10 [2, 2, 2, 2, 2, 2, 2, 2, 0, 0]) 0
def wv2 : Sh × Va := K_Model (kO wv1 149 13 [0, 2, 0, 0, 0, 0, 2, 2, 2, 2, 0, 2]) 149
def wsh : Sh := up wv2.1 194 (some (sL 1))
theorem w_row {k N : Nat} (h1 : wsh k = some (sO 6 [k + 4])) (h2 : wsh (k + 1) = some (sA N)) (h3 : N ≤ 4000) : isRow wsh k N := ⟨h1, h2, h3⟩
theorem w_sheet : isSheet wsh 151 := by
  unfold isSheet
  repeat' apply And.intro
  all_goals decide +kernel
theorem w_state : isState wsh 173 ∧ isState wsh 183 := by
  unfold isState
  repeat' apply And.intro
  all_goals decide +kernel
theorem w_model : isModel wsh 151 := ⟨by decide +kernel, by decide +kernel, w_sheet, w_state.1, w_state.2, by decide +kernel⟩
theorem w_rows1 : isRow wsh 1 2000 ∧ isRow wsh 4 401 ∧ isRow wsh 6 401 ∧ isRow wsh 8 401 ∧ isRow wsh 10 401 := by
  unfold isRow
  repeat' apply And.intro
  all_goals decide +kernel
theorem w_steps : isSteps wsh 42 ∧ isSteps wsh 90 := by
  unfold isSteps isRow
  repeat' apply And.intro
  all_goals decide +kernel
theorem w_names : isNames wsh 49 4 ∧ isNames wsh 52 4 ∧ isNames wsh 55 6 ∧ isNames wsh 58 10 := by
  unfold isNames isRow
  repeat' apply And.intro
  all_goals decide +kernel
theorem w_plan1 : isPlan wsh 13 := by
  unfold isPlan
  refine ⟨by decide +kernel, ?_, ?_, ?_, ?_, ?_, ?_, ?_, ?_, ?_, ?_, ?_, ?_, ?_, ?_, w_steps.1⟩ <;> exact w_row (by decide +kernel) (by decide +kernel) (by decide +kernel)
theorem w_plan2 : isPlan wsh 61 := by
  unfold isPlan
  refine ⟨by decide +kernel, ?_, ?_, ?_, ?_, ?_, ?_, ?_, ?_, ?_, ?_, ?_, ?_, ?_, ?_, w_steps.2⟩ <;> exact w_row (by decide +kernel) (by decide +kernel) (by decide +kernel)
theorem w_stand1 : isStand wsh 97 := by
  unfold isStand isDebts
  refine ⟨by decide +kernel, w_plan2, ?_, ?_, ?_, ?_, ?_, ?_, ⟨by decide +kernel, ?_, ?_⟩, ?_, ?_⟩ <;> exact w_row (by decide +kernel) (by decide +kernel) (by decide +kernel)
theorem w_stand2 : isStand wsh 123 := by
  unfold isStand isDebts
  refine ⟨by decide +kernel, w_plan2, ?_, ?_, ?_, ?_, ?_, ?_, ⟨by decide +kernel, ?_, ?_⟩, ?_, ?_⟩ <;> exact w_row (by decide +kernel) (by decide +kernel) (by decide +kernel)
theorem w_days1 : isDays wsh 97 := ⟨by decide +kernel, w_plan2, w_stand1, by decide +kernel, w_steps.2, w_stand1, w_row (by decide +kernel) (by decide +kernel) (by decide +kernel)⟩
theorem w_days2 : isDays wsh 123 := ⟨by decide +kernel, w_plan2, w_stand2, by decide +kernel, w_steps.2, w_stand2, w_row (by decide +kernel) (by decide +kernel) (by decide +kernel)⟩
theorem w_tokens : isTokens wsh := ⟨by decide +kernel, w_rows1⟩
theorem w_quay : isQuay wsh := ⟨by decide +kernel, w_rows1.1, w_tokens, ⟨by decide +kernel, w_plan1, w_tokens, w_names⟩, w_plan2, w_stand1, w_days1, w_stand2, w_days2⟩
theorem w_inv {z : Nat} : Inv z wv2.2 151 := by
  have e180 : ∀ i, i < 36 → wv2.2 180 i = 0 := by decide +kernel
  refine ⟨0, 0, 0, 0, 0, fun _ => [], fun _ => [], Or.inl rfl, ⟨by decide, by decide +kernel, by decide +kernel, fun i hi => by omega, fun i hi => by omega, fun i hi => by omega, fun i hi => by omega, fun i hi => by omega⟩, fun v' u' k sn o ho => by omega, ⟨by decide +kernel, by unfold eqN; decide +kernel, fun i hi => by omega, fun i hi => by omega, fun i hi => by omega, fun i hi => by omega, by unfold eqN; decide +kernel, by unfold eqN; decide +kernel, by unfold eqN; decide +kernel, by unfold eqN; decide +kernel⟩, ⟨⟨fun i hi => by omega, ?_⟩, fun i hi => by omega, fun i hi => by omega, ⟨by decide +kernel, by decide +kernel⟩, fun a b ha hb => ?_, 3, by omega, by decide +kernel⟩, ⟨0, by omega, by decide +kernel, by decide +kernel, fun i hi => by omega⟩, by decide +kernel⟩
  · have e174 : ∀ i, i < 10 → wv2.2 174 i = 0 := by decide +kernel
    exact fun i hi _ => e174 i hi
  · show 0 ≤ (wv2.2 180 (6 * a + b)).toInt ∧ (wv2.2 180 (6 * a + b)).toInt ≤ 99999 ∧ (_ → wv2.2 180 (6 * a + b) = 0)
    rw [e180 _ (by omega)]
    exact ⟨Int.le_refl 0, by decide, fun _ => rfl⟩
