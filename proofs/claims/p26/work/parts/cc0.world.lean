/-! THE CLASS'S WORLD AT ITS BEGINNING: a quay at 0 -/
def wv0 : Sh × Va := (fun _ => none, fun _ _ => 0)
def wv1 : Sh × Va := K_Quay (kO wv0 0 10 [2, 2, 2, 2, 2, 2, 2, 2, 0, 0]) 0
abbrev wsh : Sh := wv1.1
def chO (x : Option Sp) (ci : Nat) (cs : List Nat) : Bool := match x with
  | some (.inr (.inr (.inl (a, b)))) => a == ci && b == cs
  | _ => false
def chA (x : Option Sp) (N : Nat) : Bool := match x with
  | some (.inl M) => M == N
  | _ => false
theorem chO_ok {x : Option Sp} {ci : Nat} {cs : List Nat} (h : chO x ci cs = true) : x = some (sO ci cs) := by
  unfold chO at h
  split at h
  · obtain ⟨h1, h2⟩ := Bool.and_eq_true_iff.mp h
    rw [eq_of_beq h1, eq_of_beq h2]
  · cases h
theorem chA_ok {x : Option Sp} {N : Nat} (h : chA x N = true) : x = some (sA N) := by
  unfold chA at h
  split at h
  · rw [eq_of_beq h]
  · cases h
theorem w_row {k N : Nat} (h1 : wsh k = some (sO 6 [k + 4])) (h2 : wsh (k + 1) = some (sA N)) (h3 : N ≤ 4000) : isRow wsh k N := ⟨h1, h2, h3⟩
theorem w_rows1 : isRow wsh 1 2000 ∧ isRow wsh 4 401 ∧ isRow wsh 6 401 ∧ isRow wsh 8 401 ∧ isRow wsh 10 401 := by
  unfold isRow
  repeat' apply And.intro
  all_goals first | exact chO_ok (by decide +kernel) | exact chA_ok (by decide +kernel) | decide +kernel
theorem w_steps : isSteps wsh 42 ∧ isSteps wsh 90 := by
  unfold isSteps isRow
  repeat' apply And.intro
  all_goals first | exact chO_ok (by decide +kernel) | exact chA_ok (by decide +kernel) | decide +kernel
theorem w_names : isNames wsh 49 4 ∧ isNames wsh 52 4 ∧ isNames wsh 55 6 ∧ isNames wsh 58 10 := by
  unfold isNames isRow
  repeat' apply And.intro
  all_goals first | exact chO_ok (by decide +kernel) | exact chA_ok (by decide +kernel) | decide +kernel
theorem w_plan1 : isPlan wsh 13 := by
  unfold isPlan
  refine ⟨chO_ok (by decide +kernel), ?_, ?_, ?_, ?_, ?_, ?_, ?_, ?_, ?_, ?_, ?_, ?_, ?_, ?_, w_steps.1⟩ <;> exact w_row (chO_ok (by decide +kernel)) (chA_ok (by decide +kernel)) (by decide +kernel)
theorem w_plan2 : isPlan wsh 61 := by
  unfold isPlan
  refine ⟨chO_ok (by decide +kernel), ?_, ?_, ?_, ?_, ?_, ?_, ?_, ?_, ?_, ?_, ?_, ?_, ?_, ?_, w_steps.2⟩ <;> exact w_row (chO_ok (by decide +kernel)) (chA_ok (by decide +kernel)) (by decide +kernel)
theorem w_stand1 : isStand wsh 97 := by
  unfold isStand isDebts
  refine ⟨chO_ok (by decide +kernel), w_plan2, ?_, ?_, ?_, ?_, ?_, ?_, ⟨chO_ok (by decide +kernel), ?_, ?_⟩, ?_, ?_⟩ <;> exact w_row (chO_ok (by decide +kernel)) (chA_ok (by decide +kernel)) (by decide +kernel)
theorem w_stand2 : isStand wsh 123 := by
  unfold isStand isDebts
  refine ⟨chO_ok (by decide +kernel), w_plan2, ?_, ?_, ?_, ?_, ?_, ?_, ⟨chO_ok (by decide +kernel), ?_, ?_⟩, ?_, ?_⟩ <;> exact w_row (chO_ok (by decide +kernel)) (chA_ok (by decide +kernel)) (by decide +kernel)
theorem w_days1 : isDays wsh 97 := ⟨chO_ok (by decide +kernel), w_plan2, w_stand1, chO_ok (by decide +kernel), w_steps.2, w_stand1, w_row (chO_ok (by decide +kernel)) (chA_ok (by decide +kernel)) (by decide +kernel)⟩
theorem w_days2 : isDays wsh 123 := ⟨chO_ok (by decide +kernel), w_plan2, w_stand2, chO_ok (by decide +kernel), w_steps.2, w_stand2, w_row (chO_ok (by decide +kernel)) (chA_ok (by decide +kernel)) (by decide +kernel)⟩
theorem w_tokens : isTokens wsh := ⟨chO_ok (by decide +kernel), w_rows1⟩
theorem w_quay : isQuay wsh := ⟨chO_ok (by decide +kernel), w_rows1.1, w_tokens, ⟨chO_ok (by decide +kernel), w_plan1, w_tokens, w_names⟩, w_plan2, w_stand1, w_days1, w_stand2, w_days2⟩
theorem w_val : wv1.2 0 8 = 0 ∧ (wv1.2 49 1 = 4 ∧ wv1.2 52 1 = 4 ∧ wv1.2 55 1 = 6 ∧ wv1.2 58 1 = 10) ∧ wv1.2 97 1 = 0 ∧ wv1.2 97 2 = 3 := by decide +kernel
