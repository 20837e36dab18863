/-! LINES: what reading a stretch of tokens comes to, with names, rows and orders -/
/-- what a line's reading leaves alone in the class -/
def NM1 (v v1 : Va) : Prop := v1 49 1 = v 49 1 ∧ v1 52 1 = v 52 1 ∧ v1 55 1 = v 55 1 ∧ v1 58 1 = v 58 1
def FRl (v v1 : Va) : Prop := (∀ p, p < 12 ∨ 61 ≤ p → v1 p = v p) ∧ NM1 v v1
theorem FRl.of {v v1 : Va} (h : ∀ p, p < 12 ∨ 49 ≤ p → v1 p = v p) : FRl v v1 := ⟨fun p a => h p (by omega), by rw [h 49 (by omega)], by rw [h 52 (by omega)], by rw [h 55 (by omega)], by rw [h 58 (by omega)]⟩
theorem FRl.tr {v v1 v2 : Va} (h : FRl v v1) (h2 : FRl v1 v2) : FRl v v2 := ⟨fun p a => (h2.1 p a).trans (h.1 p a), h2.2.1.trans h.2.1, h2.2.2.1.trans h.2.2.1, h2.2.2.2.1.trans h.2.2.2.1, h2.2.2.2.2.trans h.2.2.2.2⟩
theorem FRl.re {v v1 : Va} (h : FRe v v1) : FRl v v1 := FRl.of fun p a => h p (by omega) (by omega) (by omega) (by omega) (by omega)
theorem FRl.refl' {v : Va} : FRl v v := FRl.of fun _ _ => rfl
/-- the draft's counts are in their bounds -/
def CB (v : Va) : Prop := (∃ n, n ≤ 4 ∧ v 49 2 = nI n) ∧ (∃ n, n ≤ 4 ∧ v 52 2 = nI n) ∧ (∃ n, n ≤ 6 ∧ v 55 2 = nI n) ∧ (∃ n, n ≤ 10 ∧ v 58 2 = nI n) ∧ (∃ n : Int32, v 13 4 = n) ∧ v 49 1 = 4 ∧ v 52 1 = 4 ∧ v 55 1 = 6 ∧ v 58 1 = 10
theorem CB.fr {v v1 : Va} (h : CB v) (e : v1 13 = v 13 ∧ v1 49 = v 49 ∧ v1 52 = v 52 ∧ v1 55 = v 55 ∧ v1 58 = v 58) : CB v1 := by
  obtain ⟨e1, e2, e3, e4, e5⟩ := e
  unfold CB at h ⊢
  rw [e1, e2, e3, e4, e5]
  exact h
def ALL (kn : Nat → Nat) (nt k1 sp z : Nat) (u0 v us : Va) (t : Nat) : Prop := AL kn nt k1 sp z u0 v us t 0 ∧ CB v
def OutL {α : Type} (pa : α → Va) (kn : Nat → Nat) (nt k1 sp z : Nat) (v us : Va) (t : Nat) (A : Option α) (B : Option (Bool × Va)) (P : Va → Prop) (D : Nat → Prop) (Q : α → Va → Nat → Prop) : Prop :=
  ∃ (a : α) (b : Bool) (us' : Va) (t' : Nat), A = some a ∧ B = some (b, us') ∧ FRl v (pa a) ∧ FS us us' ∧ us' 149 4 = nI t' ∧ t ≤ t' ∧ t' ≤ nt ∧
    (b = false → (pa a) 12 7 = 1 ∧ (pa a) 12 8 = nI t') ∧
    (b = true → D t' ∧ us' 149 5 = nI 0 ∧ (pa a) 12 6 = nI t' ∧ (¬ (pa a) 12 7 = 1) ∧ CB (pa a) ∧ ((¬ v 12 7 = 0) → (pa a) 12 7 = v 12 7 ∧ (pa a) 12 8 = v 12 8) ∧
      (v 12 7 = 0 → ∀ u2 : Va, P u2 → ∃ (e : Int32) (k : Nat) (u3 : Va), fold2 z sp k1 (t' - t) t u2 = some (e, k, u3) ∧ ((¬ e = 0) → (pa a) 12 7 = e ∧ (pa a) 12 8 = nI k) ∧ (e = 0 → (pa a) 12 7 = 0 ∧ Q a u3 t')))
/-- a call that has failed already comes to its end -/
def DeadL {α β : Type} (pa : α → Va) (pb : β → Va) (A : α → Option β) : Prop := ∀ a, (pa a) 12 7 = 1 → ∃ b, A a = some b ∧ (pb b) 12 = (pa a) 12 ∧ FRl (pa a) (pb b)
section
variable {α β γ : Type} {pa : α → Va} {pb : β → Va} {pc : γ → Va} {kn : Nat → Nat} {nt k1 sp z : Nat} {u0 v v1 us us1 : Va} {t t1 : Nat} {P P' : Va → Prop} {D D' D1 D2 : Nat → Prop}
theorem ALL.to (h : ALL kn nt k1 sp z u0 v us t) (hk : 194 ≤ k1) (hF : FRl v v1) (hS : FS us us1) (h6 : v1 12 6 = nI t1) (h7 : ¬ v1 12 7 = 1) (ht : t1 ≤ nt) (h4 : us1 149 4 = nI t1) (h5 : us1 149 5 = nI 0) (hc : CB v1) : ALL kn nt k1 sp z u0 v1 us1 t1 := by
  obtain ⟨⟨-, -, -, -, -, a1, a2, -, -, a5⟩, -⟩ := h
  refine ⟨⟨h6, h7, ht, h4, h5, ?_, ?_, ?_, ?_, a5.fr (hF.1 11 (by omega))⟩, hc⟩
  · rw [hF.1 5 (by omega)]; exact a1
  · rw [hS.1 _ (by omega)]; exact a2
  · obtain ⟨-, -, ⟨n, h1, h2⟩, -⟩ := hc; exact ⟨n, h1, h2⟩
  · obtain ⟨-, -, -, ⟨n, h1, h2⟩, -⟩ := hc; exact ⟨n, h1, h2⟩
theorem OutL.seq {A : Option α} {B : Option (Bool × Va)} {A' : α → Option β} {B' : Va → Option (Bool × Va)} {Q : α → Va → Nat → Prop} {Q' : β → Va → Nat → Prop}
    (hk : 194 ≤ k1) (hA : ALL kn nt k1 sp z u0 v us t) (h1 : OutL pa kn nt k1 sp z v us t A B P D1 Q)
    (h2 : ∀ a us1 t1, ALL kn nt k1 sp z u0 (pa a) us1 t1 → t ≤ t1 → D1 t1 → OutL pb kn nt k1 sp z (pa a) us1 t1 (A' a) (B' us1) (fun u => Q a u t1) D2 Q') (hD : DeadL pa pb A') :
    OutL pb kn nt k1 sp z v us t (A.bind A') (sq B B') P (fun t' => D2 t' ∧ ∃ t1, D1 t1 ∧ t ≤ t1 ∧ t1 ≤ t') Q' := by
  obtain ⟨a, b, us1, t1, a1, a2, a3, a4, a5, a6, a7, a8, a9⟩ := h1
  rw [a1, a2, ob]
  cases b
  · obtain ⟨x1, x2⟩ := a8 rfl
    obtain ⟨c, y1, y2, y3⟩ := hD a x1
    exact ⟨c, false, us1, t1, y1, sq_f, a3.tr y3, a4, a5, a6, a7, fun _ => by rw [y2]; exact ⟨x1, x2⟩, fun q => by cases q⟩
  · obtain ⟨x0, x1, x2, x3, xc, x4, x5⟩ := a9 rfl
    obtain ⟨c, b2, us2, t2, b1, b2', b3, b4, b5, b6, b7, b8, b9⟩ := h2 a us1 t1 (hA.to hk a3 a4 x2 x3 a7 a5 x1 xc) a6 x0
    refine ⟨c, b2, us2, t2, b1, by rw [sq_t]; exact b2', a3.tr b3, a4.tr b4, b5, by omega, b7, b8, fun hb => ?_⟩
    obtain ⟨y0, y1, y2, y3, yc, y4, y5⟩ := b9 hb
    refine ⟨⟨y0, t1, x0, a6, b6⟩, y1, y2, y3, yc, fun h0 => ?_, fun h0 u2 hP => ?_⟩
    · obtain ⟨p1, p2⟩ := x4 h0
      obtain ⟨p3, p4⟩ := y4 (by rw [p1]; exact h0)
      exact ⟨p3.trans p1, p4.trans p2⟩
    · obtain ⟨e, k, u3, q1, q2, q3⟩ := x5 h0 u2 hP
      have hf : fold2 z sp k1 (t2 - t) t u2 = (some (e, k, u3)).bind fun q => if q.1 = 0 then fold2 z sp k1 (t2 - t1) (t + (t1 - t)) q.2.2 else some q := by
        rw [show t2 - t = (t1 - t) + (t2 - t1) by omega, fold2_app, q1]
      rw [ob, show t + (t1 - t) = t1 by omega] at hf
      by_cases he : e = 0
      · rw [if_pos he] at hf
        obtain ⟨p1, p2⟩ := q3 he
        obtain ⟨e', k', u4, r1, r2, r3⟩ := y5 p1 u3 p2
        exact ⟨e', k', u4, hf.trans r1, r2, r3⟩
      · rw [if_neg he] at hf
        obtain ⟨p1, p2⟩ := q2 he
        obtain ⟨p3, p4⟩ := y4 (by rw [p1]; exact he)
        exact ⟨e, k, u3, hf, fun _ => ⟨p3.trans p1, p4.trans p2⟩, fun q => absurd q he⟩
theorem OutL.map {A : Option α} {B : Option (Bool × Va)} {Q Q' : α → Va → Nat → Prop} (h : OutL pa kn nt k1 sp z v us t A B P D Q) (h1 : ∀ t', D t' → D' t') (h2 : ∀ u, P' u → P u) (h3 : ∀ a u t', t ≤ t' → t' ≤ nt → D t' → Q a u t' → Q' a u t') : OutL pa kn nt k1 sp z v us t A B P' D' Q' := by
  obtain ⟨a, b, us1, t1, a1, a2, a3, a4, a5, a6, a7, a8, a9⟩ := h
  refine ⟨a, b, us1, t1, a1, a2, a3, a4, a5, a6, a7, a8, fun hb => ?_⟩
  obtain ⟨x0, x1, x2, x3, xc, x4, x5⟩ := a9 hb
  refine ⟨h1 _ x0, x1, x2, x3, xc, x4, fun h0 u2 hP => ?_⟩
  obtain ⟨e, k, u3, q1, q2, q3⟩ := x5 h0 u2 (h2 _ hP)
  exact ⟨e, k, u3, q1, q2, fun he => ⟨(q3 he).1, h3 _ _ _ a6 a7 x0 (q3 he).2⟩⟩
/-- the class writes rows of its draft alone -/
theorem OutL.wr {A : Option α} {B : Option (Bool × Va)} {Q : α → Va → Nat → Prop} (h : OutL pa kn nt k1 sp z v1 us t A B P' D Q) (hF : FRl v v1) (h12 : v1 12 = v 12) (hP : ∀ u, P u → P' u) : OutL pa kn nt k1 sp z v us t A B P D Q := by
  obtain ⟨a, b, us1, t1, a1, a2, a3, a4, a5, a6, a7, a8, a9⟩ := h
  refine ⟨a, b, us1, t1, a1, a2, hF.tr a3, a4, a5, a6, a7, a8, fun hb => ?_⟩
  obtain ⟨x0, x1, x2, x3, xc, x4, x5⟩ := a9 hb
  rw [h12] at x4 x5
  exact ⟨x0, x1, x2, x3, xc, x4, fun h0 u2 hp => x5 h0 u2 (hP u2 hp)⟩
/-- nothing more is read -/
theorem OutL.ret {a : α} {Q : α → Va → Nat → Prop} (hA : ALL kn nt k1 sp z u0 v us t) (ha : pa a = v) (hD : D t) (hQ : ∀ u, P u → Q a u t) : OutL pa kn nt k1 sp z v us t (some a) (some (true, us)) P D Q := by
  subst ha
  obtain ⟨⟨l1, l2, l3, l4, l5, -⟩, hc⟩ := hA
  exact ⟨a, true, us, t, rfl, rfl, FRl.refl', FS.refl', l4, Nat.le_refl _, l3, fun q => (by cases q), fun _ => ⟨hD, l5, l1, l2, hc, fun _ => ⟨rfl, rfl⟩, fun h0 u2 hP => ⟨0, t, u2, by rw [Nat.sub_self]; rfl, fun q => absurd rfl q, fun _ => ⟨h0, hQ u2 hP⟩⟩⟩⟩
/-- the token that was due isn't there -/
theorem OutL.bad {a : α} {A : Option α} {B : Option (Bool × Va)} {Q : α → Va → Nat → Prop} (hA : ALL kn nt k1 sp z u0 v us t) (a1 : A = some a) (a2 : pa a = Fl v t) (b : B = some (false, us)) : OutL pa kn nt k1 sp z v us t A B P D Q :=
  ⟨a, false, us, t, a1, b, by rw [a2]; exact FRl.re FRe.fl, FS.refl', hA.1.2.2.2.1, Nat.le_refl _, hA.1.2.2.1, fun _ => by rw [a2]; exact ⟨Fl_7, Fl_8⟩, fun q => by cases q⟩
/-- one token is read, and both sides look at it -/
theorem OutL.one {a : α} {A : Option α} {B : Option (Bool × Va)} {Q : α → Va → Nat → Prop} (hA : ALL kn nt k1 sp z u0 v us t) (ht : t + 1 ≤ nt) (a1 : A = some a) (b1 : B = some (true, Tk us (t + 1))) (hF : FRl v (pa a)) (h6 : (pa a) 12 6 = nI (t + 1)) (hc : CB (pa a)) (hD : D (t + 1))
    (h : ((pa a) 12 7 = v 12 7 ∧ (pa a) 12 8 = v 12 8 ∧ (v 12 7 = 0 → ∀ u, P u → ∃ u3, f_Model_errorOf z u sp k1 (nI t) = some (0, u3) ∧ Q a u3 (t + 1))) ∨ ∃ e : Int32, (¬ e = 0) ∧ (¬ e = 1) ∧ (v 12 7 = 0 → (pa a) 12 7 = e ∧ (pa a) 12 8 = nI t) ∧ ((¬ v 12 7 = 0) → (pa a) 12 7 = v 12 7 ∧ (pa a) 12 8 = v 12 8) ∧ (v 12 7 = 0 → ∀ u, P u → ∃ u3, f_Model_errorOf z u sp k1 (nI t) = some (e, u3))) : OutL pa kn nt k1 sp z v us t A B P D Q := by
  obtain ⟨⟨l1, l2, l3, l4, l5, -⟩, -⟩ := hA
  rcases h with ⟨h7, h8, h⟩ | ⟨e, e0, e1, h7, h7', h⟩
  · exact ⟨a, true, Tk us (t + 1), t + 1, a1, b1, hF, FS.tk, Tk_4, by omega, ht, fun q => (by cases q), fun _ => ⟨hD, by rw [Tk_5]; exact l5, h6, by rw [h7]; exact l2, hc, fun _ => ⟨h7, h8⟩, fun h0 u2 hP => by
      obtain ⟨u3, q1, q2⟩ := h h0 u2 hP
      exact ⟨0, _, u3, by rw [show t + 1 - t = 1 by omega]; exact fold2_1 q1, fun q => absurd rfl q, fun _ => ⟨by rw [h7]; exact h0, q2⟩⟩⟩⟩
  · refine ⟨a, true, Tk us (t + 1), t + 1, a1, b1, hF, FS.tk, Tk_4, by omega, ht, fun q => (by cases q), fun _ => ⟨hD, by rw [Tk_5]; exact l5, h6, ?_, hc, h7', fun h0 u2 hP => ?_⟩⟩
    · by_cases h0 : v 12 7 = 0
      · rw [(h7 h0).1]; exact e1
      · rw [(h7' h0).1]; exact l2
    · obtain ⟨u3, q1⟩ := h h0 u2 hP
      refine ⟨e, _, u3, by rw [show t + 1 - t = 1 by omega]; exact fold2_1 q1, fun _ => ?_, fun q => absurd q e0⟩
      rw [if_neg e0]; exact h7 h0
theorem DeadL.seq {A : α → Option β} {A' : β → Option γ} (h : DeadL pa pb A) (h' : DeadL pb pc A') : DeadL pa pc (fun a => (A a).bind A') := fun a ha => by
  obtain ⟨b, x1, x2, x3⟩ := h a ha
  obtain ⟨c, y1, y2, y3⟩ := h' b (by rw [x2]; exact ha)
  exact ⟨c, by show (A a).bind A' = _; rw [x1, ob, y1], y2.trans x2, x3.tr y3⟩
theorem DeadL.ret {f : α → β} (h : ∀ a, pb (f a) 12 = pa a 12 ∧ FRl (pa a) (pb (f a))) : DeadL pa pb (fun a => some (f a)) := fun a _ => ⟨f a, rfl, (h a).1, (h a).2⟩
end
