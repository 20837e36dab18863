/-! THE TEXT'S PIECES -/
def zK (i : Nat) (bl : List Int32) : Pz := (i, kwB.getD i [], bl, 0)
def zN (c : Int32) (d : Nat) (bl : List Int32) : Pz := (47, [c, nI (48 + d)], bl, 0)
def zD (m : Nat) (bl : List Int32) : Pz := (48, decL m, bl, nI m)
def zG (i : Nat) (bl : List Int32) : Pz := (32 + i, [sgB.getD i 0], bl, 0)
def zE (bl : List Int32) : Pz := (45, [60, 61], bl, 0)
def z9 (bl : List Int32) : Pz := (48, [57, 57, 57, 57, 57, 57], bl, 999999)
/-- a token's value -/
def tv_ (F : List Int32 → Int32) (q : Pz) : Int32 := if q.1 = 47 then F q.2.1 else q.2.2.2
/-- the tokens from n on are these -/
def TA (v : Va) (F : List Int32 → Int32) : Nat → List Pz → Prop
  | _, [] => True
  | n, q :: qs => v 5 n = nI q.1 ∧ v 11 n = tv_ F q ∧ TA v F (n + 1) qs
def suP (f n4 a9 b9 l9 : Nat) (bl : List Int32) : List Pz := match f with
  | 0 => [zD n4 bl]
  | 1 => [zK 6 [32], zN 109 a9 [], zG 9 [], zD 2 [], zG 6 [], zD n4 bl]
  | 2 => [zK 21 [32], zN 108 l9 [], zG 9 [], zD 100 [32], zG 7 [32], zD n4 bl]
  | 3 => [zK 30 [], zG 0 [], zK 25 [32], zN 109 a9 [32], zN 109 b9 [], zG 5 [], zD n4 [], zG 1 [], zG 8 [], zD 2 bl]
  | 4 => [zK 31 [], zG 0 [], zK 22 [32], zN 108 l9 [], zG 5 [], zD n4 [], zG 1 [], zG 7 [], zK 19 bl]
  | 5 => [zG 7 [], zD n4 [], zG 6 [], zK 24 [32], zN 109 a9 bl]
  | 6 => [zK 23 [32], zN 108 l9 [], zG 8 [], zD n4 bl]
  | _ => [z9 [], zG 8 [], z9 bl]
def whP (g n6 a9 b9 l9 o9 : Nat) : List Pz := match g with
  | 0 => []
  | 1 => [zK 18 [32], zK 19 [], zG 11 [], zD n6 [], zG 9 [], zD 4 []]
  | 2 => [zK 18 [32], zK 26 [32], zN 109 a9 [32], zN 108 l9 []]
  | 3 => [zK 18 [32], zK 27 [32], zK 26 [32], zN 109 a9 [32], zN 108 l9 [32], zK 29 [32], zK 6 [32], zN 109 b9 [32], zG 11 [32], zD n6 []]
  | 4 => [zK 18 [32], zG 2 [], zK 21 [32], zN 108 l9 [], zG 11 [], zD n6 [], zG 8 [], zD 10 [32], zK 28 [32], zK 20 [], zG 10 [], zD n6 [], zG 9 [], zD 3 [], zG 3 [], zK 29 [32], zK 23 [32], zN 108 o9 [], zE [], zD n6 [], zG 9 [], zD 9 []]
  | 5 => [zK 18 [32], zK 24 [32], zN 109 a9 [], zE [], zD n6 []]
  | 6 => [zK 18 [32], zK 19 [], zG 9 [], zD 2 [], zG 8 [], zD 2 [], zG 12 [], zK 19 []]
  | _ => [zK 18 [32], zK 27 [32], zK 22 [32], zN 108 l9 [], zG 11 [], zD n6 [], zG 8 [], zD 9 []]
def sS_ (f n4 a9 b9 l9 : Nat) : List S3 := match f with
  | 0 => [(48, nI n4, 0)]
  | 1 => [(6, nI a9, 0), (48, 2, 0), (41, 0, 0), (48, nI n4, 0), (38, 0, 0)]
  | 2 => [(21, nI l9, 0), (48, 100, 0), (41, 0, 0), (48, nI n4, 0), (39, 0, 0)]
  | 3 => [(25, nI a9, nI b9), (48, nI n4, 0), (30, 0, 0), (48, 2, 0), (40, 0, 0)]
  | 4 => [(22, nI l9, 0), (48, nI n4, 0), (31, 0, 0), (19, 0, 0), (39, 0, 0)]
  | 5 => [(48, nI n4, 0), (51, 0, 0), (24, nI a9, 0), (38, 0, 0)]
  | 6 => [(23, nI l9, 0), (48, nI n4, 0), (40, 0, 0)]
  | _ => [(48, 999999, 0), (48, 999999, 0), (40, 0, 0)]
def sT_ (g n6 a9 b9 l9 o9 : Nat) : List S3 := match g with
  | 0 => []
  | 1 => [(19, 0, 0), (48, nI n6, 0), (48, 4, 0), (41, 0, 0), (43, 0, 0)]
  | 2 => [(26, nI a9, nI l9)]
  | 3 => [(26, nI a9, nI l9), (27, 0, 0), (6, nI b9, 0), (48, nI n6, 0), (43, 0, 0), (29, 0, 0)]
  | 4 => [(21, nI l9, 0), (48, nI n6, 0), (48, 10, 0), (40, 0, 0), (43, 0, 0), (20, 0, 0), (48, nI n6, 0), (48, 3, 0), (41, 0, 0), (42, 0, 0), (28, 0, 0), (23, nI o9, 0), (48, nI n6, 0), (48, 9, 0), (41, 0, 0), (45, 0, 0), (29, 0, 0)]
  | 5 => [(24, nI a9, 0), (48, nI n6, 0), (45, 0, 0)]
  | 6 => [(19, 0, 0), (48, 2, 0), (41, 0, 0), (48, 2, 0), (40, 0, 0), (19, 0, 0), (44, 0, 0)]
  | _ => [(22, nI l9, 0), (48, nI n6, 0), (48, 9, 0), (40, 0, 0), (43, 0, 0), (27, 0, 0)]
section
variable {v w : Va} {F : List Int32 → Int32} {n : Nat} {x : Int32}
theorem TA.at : ∀ {ps : List Pz} {n : Nat} (i : Nat) {q : Pz}, TA v F n ps → ps[i]? = some q → v 5 (n + i) = nI q.1 ∧ v 11 (n + i) = tv_ F q
  | [], n, i, q, _, h => by cases h
  | r :: ps, n, 0, q, h, e => by cases e; exact ⟨h.1, h.2.1⟩
  | r :: ps, n, i + 1, q, h, e => by
    have := TA.at i h.2.2 (q := q) e
    rwa [show n + 1 + i = n + (i + 1) by omega] at this
theorem TA.left : ∀ {a b : List Pz} {n : Nat}, TA v F n (a ++ b) → TA v F n a
  | [], _, _, _ => trivial
  | q :: a, b, n, h => ⟨h.1, h.2.1, TA.left h.2.2⟩
theorem TA.right : ∀ {a b : List Pz} {n : Nat}, TA v F n (a ++ b) → TA v F (n + a.length) b
  | [], _, _, h => h
  | q :: a, b, n, h => by
    have := TA.right (a := a) (b := b) h.2.2
    rwa [show n + 1 + a.length = n + (q :: a).length by rw [List.length_cons]; omega] at this
theorem TA.cg (h5 : w 5 = v 5) (h11 : w 11 = v 11) : ∀ {ps : List Pz} {n : Nat}, TA v F n ps → TA w F n ps
  | [], _, _ => trivial
  | q :: ps, n, h => ⟨by rw [h5]; exact h.1, by rw [h11]; exact h.2.1, TA.cg h5 h11 h.2.2⟩
theorem tvN {c : Int32} {d : Nat} {bl : List Int32} : tv_ F (zN c d bl) = F [c, nI (48 + d)] := if_pos rfl
theorem tvD {m : Nat} {bl : List Int32} : tv_ F (zD m bl) = nI m := if_neg (show ¬ (48 : Nat) = 47 by decide)
theorem tv9 {bl : List Int32} : tv_ F (z9 bl) = 999999 := if_neg (show ¬ (48 : Nat) = 47 by decide)
theorem tks_l : ∀ (ps : List Tk) (p : Nat), (tks p ps).length = ps.length
  | [], _ => rfl
  | t :: ps, p => congrArg (· + 1) (tks_l ps (p + t.2.1 + t.2.2.1))
theorem tks_pl {fx : List Int32 → Nat} {qs : List Pz} {p : Nat} : (tks p (pcs fx qs)).length = qs.length := by rw [tks_l]; unfold pcs; rw [List.length_map]
theorem sk_ta {v0 : Va} {m : Nat} {full : List Pz} (h : SK v0 v m (tks 0 (pcs (fxi full) full) ++ [(49, m, 0, 0)])) : ∀ (zs dn : List Pz), full = dn ++ zs → TA v (fun b => nI (fxi full b)) dn.length zs
  | [], _, _ => trivial
  | q :: zs, dn, hf => by
    have hr := sk_ta h zs (dn ++ [q]) (by rw [hf, List.append_assoc]; rfl)
    rw [List.length_append] at hr
    have hg : (tks 0 (pcs (fxi full) full) ++ [((49, m, 0, 0) : Tk)])[dn.length]? = some ((q.1, 0 + (txO (full.take dn.length)).length, q.2.1.length, if q.1 = 47 then nI (fxi full q.2.1) else q.2.2.2) : Tk) := by
      rw [List.getElem?_append_left (by rw [tks_pl, hf, List.length_append, List.length_cons]; omega), tks_get]
      have : full[dn.length]? = some q := by rw [hf, List.getElem?_append_right (Nat.le_refl _), Nat.sub_self]; rfl
      rw [this]; rfl
    obtain ⟨a1, -, -, a4⟩ := h.2.2.1 _ _ hg
    exact ⟨a1, a4, hr⟩
theorem sk_end {v0 : Va} {m : Nat} {full : List Pz} (h : SK v0 v m (tks 0 (pcs (fxi full) full) ++ [(49, m, 0, 0)])) : v 5 full.length = 49 := by
  have hg : (tks 0 (pcs (fxi full) full) ++ [((49, m, 0, 0) : Tk)])[full.length]? = some (49, m, 0, 0) := by
    rw [List.getElem?_append_right (by rw [tks_pl]; exact Nat.le_refl _), tks_pl, Nat.sub_self]; rfl
  exact (h.2.2.1 _ _ hg).1
theorem ne_k {a c : Int32} (h : x = a) (hc : a ≠ c) : x ≠ c := by rw [h]; exact hc
/-- a line's end, or its test, is next -/
def EN36 (x : Int32) : Prop := x = 36 ∨ x = 18
theorem EN36.ne {c : Int32} (h : EN36 x) (h1 : (36 : Int32) ≠ c) (h2 : (18 : Int32) ≠ c) : x ≠ c := by
  rcases h with h | h
  · rw [h]; exact h1
  · rw [h]; exact h2
end
