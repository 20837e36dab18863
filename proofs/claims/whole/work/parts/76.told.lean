/-! WHAT THE CLASS'S READING RETURNS is its fault -/
def RK (X : Option (Int32 × Va)) : Prop := ∀ a, X = some a → a.1 = a.2 12 7
section
variable {z : Nat} {X Y : Option (Int32 × Va)}
theorem rk_ite {c : Prop} [Decidable c] (h1 : RK X) (h2 : RK Y) : RK (if c then X else Y) := by
  by_cases h : c
  · rw [if_pos h]; exact h1
  · rw [if_neg h]; exact h2
theorem rk_bind {β : Type} {B : Option β} {f : β → Option (Int32 × Va)} (h : ∀ b, RK (f b)) : RK (B.bind f) := by
  cases B with
  | none => intro a h; cases h
  | some b => rw [ob]; exact h b
theorem rk_184 {t : Int32 × Va} : RK (j_Reader_read_184 t) := fun a h => by
  obtain ⟨i, w⟩ := t
  rw [j184] at h
  cases h
  show w 12 7 = (E4 w) 12 7
  rw [E4_ne (by omega)]
theorem rk_read : ∀ (fu : Nat) (t : Int32 × Va), RK (rp (b_Reader_read_6 z) fu t)
  | 0, _ => fun a h => by cases h
  | fu + 1, t => by
    show RK (b_Reader_read_6 z (rp (b_Reader_read_6 z) fu) t)
    have h172 : ∀ w, RK (j_Reader_read_172 (rp (b_Reader_read_6 z) fu) t w) := fun w => by
      unfold j_Reader_read_172
      exact rk_bind fun q => rk_read fu _
    unfold b_Reader_read_6
    exact rk_ite rk_184 (rk_ite rk_184 (rk_bind fun _ => rk_ite rk_184 (rk_bind fun _ => rk_ite (rk_bind h172) (rk_ite (rk_bind h172) (rk_ite (rk_bind h172) (rk_ite (rk_bind h172) (rk_ite (rk_bind h172) (rk_ite (rk_bind h172) (rk_ite (rk_bind h172) (rk_bind h172))))))))))
end
