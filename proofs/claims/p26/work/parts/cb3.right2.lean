/-! LIST'S TEXT IS A ROW OF PIECES -/
def ldB (f : Nat) : List Int32 := if f = 5 then [] else [32]
def wbB (g : Nat) : List Int32 := if g = 0 then [] else [32]
def meb (i : Nat) : List Int32 := if i % 2 = 0 then [] else [32]
def mec (i : Nat) : List Int32 := if i % 2 = 0 then [] else [10]
def spL (i x : Nat) : List Pz := [zK 0 [32], zN 115 i [32], zK 1 [32], zD x [], zG 4 []]
def guL (i x y : Nat) : List Pz := [zK 2 [32], zN 103 i [32], zK 3 [32], zD x [32], zK 4 [32], zD y [], zG 4 []]
def meL (i x y : Nat) : List Pz := [zK 5 [32], zN 109 i [32], zK 6 [32], zD x [32], zK 7 [32], zD y (meb i), zG 4 (mec i)]
def ltL (i x y z : Nat) : List Pz := [zK 8 [32], zN 108 i [32], zK 9 [32], zN 115 x [32], zK 10 [32], zD y [32], zK 11 [32], zN 109 z [], zG 4 []]
/-- an order's head and sum -/
def orHd (s one oth f n4 a9 b9 l9 g : Nat) : List Pz := if s = 0 then [zK 12 [32], zN 108 one [32], zK 13 [32], zN 103 oth (wbB g)] else if s = 1 then [zK 14 [32], zN 108 one [32], zK 15 [32], zN 109 oth [32], zK 17 (ldB f)] ++ suP f n4 a9 b9 l9 (wbB g) else [zK 16 [32], zN 109 one [32], zK 15 [32], zN 109 oth [32], zK 17 (ldB f)] ++ suP f n4 a9 b9 l9 (wbB g)
def orL_ (s one oth f n4 a9 b9 l9 g n6 o9 : Nat) : List Pz := orHd s one oth f n4 a9 b9 l9 g ++ (whP g n6 a9 b9 l9 o9 ++ [zG 4 [10]])
def cat_ (h : Nat → List Pz) : Nat → List Pz
  | 0 => []
  | n + 1 => cat_ h n ++ h n
/-- right pieces with a text behind -/
def OKt : List Pz → List Int32 → Prop
  | [], _ => True
  | q :: qs, R => OKz q ((q.2.2.1 ++ (txO qs ++ R))[0]?) ∧ (∀ x ∈ q.2.2.1, x = 32 ∨ x = 10) ∧ OKt qs R
/-- no letter and no digit behind -/
def NW (c : Option Int32) : Prop := ∀ x, c = some x → wch x = false ∧ f_Tokens_isDigit x = some false
section
variable {c : Option Int32} {y : Int32} {bl R : List Int32} {f n4 n6 a9 b9 l9 o9 g s one oth i x z k m d : Nat}
theorem OKt_app : ∀ {a b : List Pz} {R : List Int32}, OKt a (txO b ++ R) → OKt b R → OKt (a ++ b) R
  | [], _, _, _, h => h
  | q :: a, b, R, h, h2 => ⟨by
      have := h.1
      rwa [← List.append_assoc (txO a), ← txO_app] at this, h.2.1, OKt_app h.2.2 h2⟩
theorem OKs_of : ∀ {a : List Pz}, OKt a [] → OKs a
  | [], _ => trivial
  | q :: a, h => ⟨by
      have := h.1
      rwa [List.append_nil] at this, h.2.1, OKs_of h.2.2⟩
theorem nw_y (h : wch y = false) (h2 : f_Tokens_isDigit y = some false) (e : c = some y) : NW c := fun x hx => by
  rw [e] at hx; cases hx; exact ⟨h, h2⟩
theorem nw_32 (e : c = some 32) : NW c := nw_y (by decide) (by decide) e
theorem nw_59 (e : c = some 59) : NW c := nw_y (by decide) (by decide) e
theorem ok_zK (hi : i < 32) (h : NW c) : OKz (zK i bl) c := Or.inl ⟨i, hi, rfl, rfl, rfl, fun x hx => (h x hx).1⟩
theorem ok_zN (hl : y ∈ ([115, 103, 109, 108] : List Int32)) (hd : d < 10) (h : NW c) : OKz (zN y d bl) c := Or.inr (Or.inl ⟨y, d, hl, hd, rfl, rfl, fun x hx => (h x hx).1⟩)
/-- a number's digits -/
theorem decL_dig (hm : m ≤ 9999) : ∃ (f : Nat → Nat) (l : Nat), (∀ i, f i < 10) ∧ 1 ≤ l ∧ l ≤ 4 ∧ decL m = (List.range l).map (fun i => nI (48 + f i)) ∧ dval f l = m := by
  unfold decL
  by_cases h1 : m < 10
  · refine ⟨fun _ => m % 10, 1, fun i => Nat.mod_lt _ (by omega), by omega, by omega, ?_, ?_⟩
    · rw [if_pos h1]; show _ = [nI (48 + m % 10)]; rw [Nat.mod_eq_of_lt h1]
    · show (0 * 10 + m % 10) = m; omega
  · rw [if_neg h1]
    by_cases h2 : m < 100
    · refine ⟨fun i => if i = 0 then m / 10 % 10 else m % 10, 2, fun i => by dsimp only; split <;> exact Nat.mod_lt _ (by omega), by omega, by omega, ?_, ?_⟩
      · rw [if_pos h2]; show _ = [nI (48 + m / 10 % 10), nI (48 + m % 10)]; rw [Nat.mod_eq_of_lt (show m / 10 < 10 by omega)]
      · show ((0 * 10 + m / 10 % 10) * 10 + m % 10) = m; omega
    · rw [if_neg h2]
      by_cases h3 : m < 1000
      · refine ⟨fun i => if i = 0 then m / 100 % 10 else if i = 1 then m % 100 / 10 % 10 else m % 100 % 10 % 10, 3, fun i => by dsimp only; split; exact Nat.mod_lt _ (by omega); split <;> exact Nat.mod_lt _ (by omega), by omega, by omega, ?_, ?_⟩
        · rw [if_pos h3]; show _ = [nI (48 + m / 100 % 10), nI (48 + m % 100 / 10 % 10), nI (48 + m % 100 % 10 % 10)]; rw [Nat.mod_eq_of_lt (show m / 100 < 10 by omega), Nat.mod_eq_of_lt (show m % 100 / 10 < 10 by omega), Nat.mod_eq_of_lt (show m % 100 % 10 < 10 by omega)]
        · show (((0 * 10 + m / 100 % 10) * 10 + m % 100 / 10 % 10) * 10 + m % 100 % 10 % 10) = m; omega
      · rw [if_neg h3]
        refine ⟨fun i => if i = 0 then m / 100 / 10 % 10 else if i = 1 then m / 100 % 10 else if i = 2 then m % 100 / 10 % 10 else m % 100 % 10 % 10, 4, fun i => by dsimp only; split; exact Nat.mod_lt _ (by omega); split; exact Nat.mod_lt _ (by omega); split <;> exact Nat.mod_lt _ (by omega), by omega, by omega, ?_, ?_⟩
        · show _ = [nI (48 + m / 100 / 10 % 10), nI (48 + m / 100 % 10), nI (48 + m % 100 / 10 % 10), nI (48 + m % 100 % 10 % 10)]; rw [Nat.mod_eq_of_lt (show m / 100 / 10 < 10 by omega), Nat.mod_eq_of_lt (show m % 100 / 10 < 10 by omega), Nat.mod_eq_of_lt (show m % 100 % 10 < 10 by omega)]
        · show ((((0 * 10 + m / 100 / 10 % 10) * 10 + m / 100 % 10) * 10 + m % 100 / 10 % 10) * 10 + m % 100 % 10 % 10) = m; omega
theorem ok_zD (hm : m ≤ 9999) (h : NW c) : OKz (zD m bl) c := by
  obtain ⟨f, l, h1, h2, h3, h4, h5⟩ := decL_dig hm
  exact Or.inr (Or.inr (Or.inl ⟨f, l, h1, h2, by omega, rfl, h4, by show nI m = _; rw [h5], fun x hx => (h x hx).2⟩))
theorem ok_z9 (h : NW c) : OKz (z9 bl) c := Or.inr (Or.inr (Or.inl ⟨fun _ => 9, 6, fun _ => show 9 < 10 by omega, by omega, by omega, rfl, rfl, rfl, fun x hx => (h x hx).2⟩))
theorem ok_zG (hi : i < 13) (h : sgB.getD i 0 ≠ 60 ∧ sgB.getD i 0 ≠ 62) : OKz (zG i bl) c := Or.inr (Or.inr (Or.inr (Or.inl ⟨i, hi, rfl, rfl, rfl, Or.inl h⟩)))
theorem ok_zX (hi : i < 13) (h : ∃ x, c = some x ∧ x ≠ 61) : OKz (zG i bl) c := Or.inr (Or.inr (Or.inr (Or.inl ⟨i, hi, rfl, rfl, rfl, Or.inr h⟩)))
theorem ok_zE : OKz (zE bl) c := Or.inr (Or.inr (Or.inr (Or.inr ⟨rfl, rfl, rfl⟩)))
theorem decL_61 (hm : m ≤ 9999) {X : List Int32} : ∃ x, (decL m ++ X)[0]? = some x ∧ x ≠ 61 := by
  obtain ⟨f, l, h1, h2, -, h4, -⟩ := decL_dig hm
  refine ⟨nI (48 + f 0), ?_, ?_⟩
  · rw [h4, List.getElem?_append_left (by rw [List.length_map, List.length_range]; omega), List.getElem?_map, List.getElem?_range (by omega)]; rfl
  · have := h1 0
    generalize f 0 = q at this
    have h9 : ∀ q : Fin 10, nI (48 + q.val) ≠ 61 := by decide
    exact h9 ⟨q, this⟩
theorem decL_6 (hm : m ≤ 9999) {b X : List Int32} {qs : List Pz} : ∃ x, (([] : List Int32) ++ (txO (zD m b :: qs) ++ X))[0]? = some x ∧ x ≠ 61 := by
  show ∃ x, ((decL m ++ (b ++ txO qs)) ++ X)[0]? = some x ∧ x ≠ 61
  rw [List.append_assoc]
  exact decL_61 hm
theorem nb_0 : ∀ x ∈ ([] : List Int32), x = 32 ∨ x = 10 := fun x h => absurd h List.not_mem_nil
theorem nb_32 : ∀ x ∈ ([32] : List Int32), x = 32 ∨ x = 10 := fun x h => Or.inl (List.mem_singleton.mp h)
theorem nb_10 : ∀ x ∈ ([10] : List Int32), x = 32 ∨ x = 10 := fun x h => Or.inr (List.mem_singleton.mp h)
theorem nb_ld : ∀ x ∈ ldB f, x = 32 ∨ x = 10 := by unfold ldB; split; exact nb_0; exact nb_32
theorem nb_wb : ∀ x ∈ wbB g, x = 32 ∨ x = 10 := by unfold wbB; split; exact nb_0; exact nb_32
theorem nb_mb : ∀ x ∈ meb i, x = 32 ∨ x = 10 := by unfold meb; split; exact nb_0; exact nb_32
theorem nb_mc : ∀ x ∈ mec i, x = 32 ∨ x = 10 := by unfold mec; split; exact nb_0; exact nb_10
theorem ok_sp (hi : i ≤ 9) (hx : x ≤ 9999) : OKt (spL i x) R := ⟨ok_zK (by decide) (nw_32 rfl), nb_32, ok_zN (by decide) (by omega) (nw_32 rfl), nb_32, ok_zK (by decide) (nw_32 rfl), nb_32, ok_zD (by omega) (nw_y (y := 59) (by decide) (by decide) rfl), nb_0, ok_zG (by decide) (by decide), nb_0, trivial⟩
theorem ok_gu {y : Nat} (hi : i ≤ 9) (hx : x ≤ 9999) (hy : y ≤ 9999) : OKt (guL i x y) R := ⟨ok_zK (by decide) (nw_32 rfl), nb_32, ok_zN (by decide) (by omega) (nw_32 rfl), nb_32, ok_zK (by decide) (nw_32 rfl), nb_32, ok_zD (by omega) (nw_32 rfl), nb_32, ok_zK (by decide) (nw_32 rfl), nb_32, ok_zD (by omega) (nw_y (y := 59) (by decide) (by decide) rfl), nb_0, ok_zG (by decide) (by decide), nb_0, trivial⟩
theorem nw_me {X : List Int32} : NW ((meb i ++ (59 :: X))[0]?) := by
  unfold meb
  split
  · exact nw_59 rfl
  · exact nw_32 rfl
theorem ok_me {y : Nat} (hi : i ≤ 9) (hx : x ≤ 9999) (hy : y ≤ 9999) : OKt (meL i x y) R := ⟨ok_zK (by decide) (nw_32 rfl), nb_32, ok_zN (by decide) (by omega) (nw_32 rfl), nb_32, ok_zK (by decide) (nw_32 rfl), nb_32, ok_zD (by omega) (nw_32 rfl), nb_32, ok_zK (by decide) (nw_32 rfl), nb_32, ok_zD (by omega) nw_me, nb_mb, ok_zG (by decide) (by decide), nb_mc, trivial⟩
theorem ok_lt {y : Nat} (hi : i ≤ 9) (hx : x ≤ 9) (hy : y ≤ 9999) (hz : z ≤ 9) : OKt (ltL i x y z) R := ⟨ok_zK (by decide) (nw_32 rfl), nb_32, ok_zN (by decide) (by omega) (nw_32 rfl), nb_32, ok_zK (by decide) (nw_32 rfl), nb_32, ok_zN (by decide) (by omega) (nw_32 rfl), nb_32, ok_zK (by decide) (nw_32 rfl), nb_32, ok_zD (by omega) (nw_32 rfl), nb_32, ok_zK (by decide) (nw_32 rfl), nb_32, ok_zN (by decide) (by omega) (nw_y (y := 59) (by decide) (by decide) rfl), nb_0, ok_zG (by decide) (by decide), nb_0, trivial⟩
theorem ok_su0 (hbl : ∀ x ∈ bl, x = 32 ∨ x = 10) (h4 : n4 ≤ 999) (ha : a9 ≤ 9) (hb : b9 ≤ 9) (hl : l9 ≤ 9) (hE : NW ((bl ++ R)[0]?)) : OKt (suP 0 n4 a9 b9 l9 bl) R := ⟨ok_zD (by omega) hE, hbl, trivial⟩
theorem ok_su1 (hbl : ∀ x ∈ bl, x = 32 ∨ x = 10) (h4 : n4 ≤ 999) (ha : a9 ≤ 9) (hb : b9 ≤ 9) (hl : l9 ≤ 9) (hE : NW ((bl ++ R)[0]?)) : OKt (suP 1 n4 a9 b9 l9 bl) R := ⟨ok_zK (by decide) (nw_32 rfl), nb_32, ok_zN (by decide) (by omega) (nw_y (y := 47) (by decide) (by decide) rfl), nb_0, ok_zG (by decide) (by decide), nb_0, ok_zD (by omega) (nw_y (y := 43) (by decide) (by decide) rfl), nb_0, ok_zG (by decide) (by decide), nb_0, ok_zD (by omega) hE, hbl, trivial⟩
theorem ok_su2 (hbl : ∀ x ∈ bl, x = 32 ∨ x = 10) (h4 : n4 ≤ 999) (ha : a9 ≤ 9) (hb : b9 ≤ 9) (hl : l9 ≤ 9) (hE : NW ((bl ++ R)[0]?)) : OKt (suP 2 n4 a9 b9 l9 bl) R := ⟨ok_zK (by decide) (nw_32 rfl), nb_32, ok_zN (by decide) (by omega) (nw_y (y := 47) (by decide) (by decide) rfl), nb_0, ok_zG (by decide) (by decide), nb_0, ok_zD (by omega) (nw_32 rfl), nb_32, ok_zG (by decide) (by decide), nb_32, ok_zD (by omega) hE, hbl, trivial⟩
theorem ok_su3 (hbl : ∀ x ∈ bl, x = 32 ∨ x = 10) (h4 : n4 ≤ 999) (ha : a9 ≤ 9) (hb : b9 ≤ 9) (hl : l9 ≤ 9) (hE : NW ((bl ++ R)[0]?)) : OKt (suP 3 n4 a9 b9 l9 bl) R := ⟨ok_zK (by decide) (nw_y (y := 40) (by decide) (by decide) rfl), nb_0, ok_zG (by decide) (by decide), nb_0, ok_zK (by decide) (nw_32 rfl), nb_32, ok_zN (by decide) (by omega) (nw_32 rfl), nb_32, ok_zN (by decide) (by omega) (nw_y (y := 44) (by decide) (by decide) rfl), nb_0, ok_zG (by decide) (by decide), nb_0, ok_zD (by omega) (nw_y (y := 41) (by decide) (by decide) rfl), nb_0, ok_zG (by decide) (by decide), nb_0, ok_zG (by decide) (by decide), nb_0, ok_zD (by omega) hE, hbl, trivial⟩
theorem ok_su4 (hbl : ∀ x ∈ bl, x = 32 ∨ x = 10) (h4 : n4 ≤ 999) (ha : a9 ≤ 9) (hb : b9 ≤ 9) (hl : l9 ≤ 9) (hE : NW ((bl ++ R)[0]?)) : OKt (suP 4 n4 a9 b9 l9 bl) R := ⟨ok_zK (by decide) (nw_y (y := 40) (by decide) (by decide) rfl), nb_0, ok_zG (by decide) (by decide), nb_0, ok_zK (by decide) (nw_32 rfl), nb_32, ok_zN (by decide) (by omega) (nw_y (y := 44) (by decide) (by decide) rfl), nb_0, ok_zG (by decide) (by decide), nb_0, ok_zD (by omega) (nw_y (y := 41) (by decide) (by decide) rfl), nb_0, ok_zG (by decide) (by decide), nb_0, ok_zG (by decide) (by decide), nb_0, ok_zK (by decide) hE, hbl, trivial⟩
theorem ok_su5 (hbl : ∀ x ∈ bl, x = 32 ∨ x = 10) (h4 : n4 ≤ 999) (ha : a9 ≤ 9) (hb : b9 ≤ 9) (hl : l9 ≤ 9) (hE : NW ((bl ++ R)[0]?)) : OKt (suP 5 n4 a9 b9 l9 bl) R := ⟨ok_zG (by decide) (by decide), nb_0, ok_zD (by omega) (nw_y (y := 43) (by decide) (by decide) rfl), nb_0, ok_zG (by decide) (by decide), nb_0, ok_zK (by decide) (nw_32 rfl), nb_32, ok_zN (by decide) (by omega) hE, hbl, trivial⟩
theorem ok_su6 (hbl : ∀ x ∈ bl, x = 32 ∨ x = 10) (h4 : n4 ≤ 999) (ha : a9 ≤ 9) (hb : b9 ≤ 9) (hl : l9 ≤ 9) (hE : NW ((bl ++ R)[0]?)) : OKt (suP 6 n4 a9 b9 l9 bl) R := ⟨ok_zK (by decide) (nw_32 rfl), nb_32, ok_zN (by decide) (by omega) (nw_y (y := 42) (by decide) (by decide) rfl), nb_0, ok_zG (by decide) (by decide), nb_0, ok_zD (by omega) hE, hbl, trivial⟩
theorem ok_su7 (hbl : ∀ x ∈ bl, x = 32 ∨ x = 10) (h4 : n4 ≤ 999) (ha : a9 ≤ 9) (hb : b9 ≤ 9) (hl : l9 ≤ 9) (hE : NW ((bl ++ R)[0]?)) : OKt (suP 7 n4 a9 b9 l9 bl) R := ⟨ok_z9 (nw_y (y := 42) (by decide) (by decide) rfl), nb_0, ok_zG (by decide) (by decide), nb_0, ok_z9 hE, hbl, trivial⟩
theorem ok_wh0 (h6 : n6 ≤ 999) (ha : a9 ≤ 9) (hb : b9 ≤ 9) (hl : l9 ≤ 9) (ho : o9 ≤ 9) (hE : NW (R[0]?)) : OKt (whP 0 n6 a9 b9 l9 o9) R := trivial
theorem ok_wh1 (h6 : n6 ≤ 999) (ha : a9 ≤ 9) (hb : b9 ≤ 9) (hl : l9 ≤ 9) (ho : o9 ≤ 9) (hE : NW (R[0]?)) : OKt (whP 1 n6 a9 b9 l9 o9) R := ⟨ok_zK (by decide) (nw_32 rfl), nb_32, ok_zK (by decide) (nw_y (y := 62) (by decide) (by decide) rfl), nb_0, ok_zX (by decide) (decL_6 (m := n6) (by omega)), nb_0, ok_zD (by omega) (nw_y (y := 47) (by decide) (by decide) rfl), nb_0, ok_zG (by decide) (by decide), nb_0, ok_zD (by omega) hE, nb_0, trivial⟩
theorem ok_wh2 (h6 : n6 ≤ 999) (ha : a9 ≤ 9) (hb : b9 ≤ 9) (hl : l9 ≤ 9) (ho : o9 ≤ 9) (hE : NW (R[0]?)) : OKt (whP 2 n6 a9 b9 l9 o9) R := ⟨ok_zK (by decide) (nw_32 rfl), nb_32, ok_zK (by decide) (nw_32 rfl), nb_32, ok_zN (by decide) (by omega) (nw_32 rfl), nb_32, ok_zN (by decide) (by omega) hE, nb_0, trivial⟩
theorem ok_wh3 (h6 : n6 ≤ 999) (ha : a9 ≤ 9) (hb : b9 ≤ 9) (hl : l9 ≤ 9) (ho : o9 ≤ 9) (hE : NW (R[0]?)) : OKt (whP 3 n6 a9 b9 l9 o9) R := ⟨ok_zK (by decide) (nw_32 rfl), nb_32, ok_zK (by decide) (nw_32 rfl), nb_32, ok_zK (by decide) (nw_32 rfl), nb_32, ok_zN (by decide) (by omega) (nw_32 rfl), nb_32, ok_zN (by decide) (by omega) (nw_32 rfl), nb_32, ok_zK (by decide) (nw_32 rfl), nb_32, ok_zK (by decide) (nw_32 rfl), nb_32, ok_zN (by decide) (by omega) (nw_32 rfl), nb_32, ok_zX (by decide) ⟨32, rfl, by decide⟩, nb_32, ok_zD (by omega) hE, nb_0, trivial⟩
theorem ok_wh4 (h6 : n6 ≤ 999) (ha : a9 ≤ 9) (hb : b9 ≤ 9) (hl : l9 ≤ 9) (ho : o9 ≤ 9) (hE : NW (R[0]?)) : OKt (whP 4 n6 a9 b9 l9 o9) R := ⟨ok_zK (by decide) (nw_32 rfl), nb_32, ok_zG (by decide) (by decide), nb_0, ok_zK (by decide) (nw_32 rfl), nb_32, ok_zN (by decide) (by omega) (nw_y (y := 62) (by decide) (by decide) rfl), nb_0, ok_zX (by decide) (decL_6 (m := n6) (by omega)), nb_0, ok_zD (by omega) (nw_y (y := 42) (by decide) (by decide) rfl), nb_0, ok_zG (by decide) (by decide), nb_0, ok_zD (by omega) (nw_32 rfl), nb_32, ok_zK (by decide) (nw_32 rfl), nb_32, ok_zK (by decide) (nw_y (y := 60) (by decide) (by decide) rfl), nb_0, ok_zX (by decide) (decL_6 (m := n6) (by omega)), nb_0, ok_zD (by omega) (nw_y (y := 47) (by decide) (by decide) rfl), nb_0, ok_zG (by decide) (by decide), nb_0, ok_zD (by omega) (nw_y (y := 93) (by decide) (by decide) rfl), nb_0, ok_zG (by decide) (by decide), nb_0, ok_zK (by decide) (nw_32 rfl), nb_32, ok_zK (by decide) (nw_32 rfl), nb_32, ok_zN (by decide) (by omega) (nw_y (y := 60) (by decide) (by decide) rfl), nb_0, ok_zE, nb_0, ok_zD (by omega) (nw_y (y := 47) (by decide) (by decide) rfl), nb_0, ok_zG (by decide) (by decide), nb_0, ok_zD (by omega) hE, nb_0, trivial⟩
theorem ok_wh5 (h6 : n6 ≤ 999) (ha : a9 ≤ 9) (hb : b9 ≤ 9) (hl : l9 ≤ 9) (ho : o9 ≤ 9) (hE : NW (R[0]?)) : OKt (whP 5 n6 a9 b9 l9 o9) R := ⟨ok_zK (by decide) (nw_32 rfl), nb_32, ok_zK (by decide) (nw_32 rfl), nb_32, ok_zN (by decide) (by omega) (nw_y (y := 60) (by decide) (by decide) rfl), nb_0, ok_zE, nb_0, ok_zD (by omega) hE, nb_0, trivial⟩
theorem ok_wh6 (h6 : n6 ≤ 999) (ha : a9 ≤ 9) (hb : b9 ≤ 9) (hl : l9 ≤ 9) (ho : o9 ≤ 9) (hE : NW (R[0]?)) : OKt (whP 6 n6 a9 b9 l9 o9) R := ⟨ok_zK (by decide) (nw_32 rfl), nb_32, ok_zK (by decide) (nw_y (y := 47) (by decide) (by decide) rfl), nb_0, ok_zG (by decide) (by decide), nb_0, ok_zD (by omega) (nw_y (y := 42) (by decide) (by decide) rfl), nb_0, ok_zG (by decide) (by decide), nb_0, ok_zD (by omega) (nw_y (y := 61) (by decide) (by decide) rfl), nb_0, ok_zG (by decide) (by decide), nb_0, ok_zK (by decide) hE, nb_0, trivial⟩
theorem ok_wh7 (h6 : n6 ≤ 999) (ha : a9 ≤ 9) (hb : b9 ≤ 9) (hl : l9 ≤ 9) (ho : o9 ≤ 9) (hE : NW (R[0]?)) : OKt (whP 7 n6 a9 b9 l9 o9) R := ⟨ok_zK (by decide) (nw_32 rfl), nb_32, ok_zK (by decide) (nw_32 rfl), nb_32, ok_zK (by decide) (nw_32 rfl), nb_32, ok_zN (by decide) (by omega) (nw_y (y := 62) (by decide) (by decide) rfl), nb_0, ok_zX (by decide) (decL_6 (m := n6) (by omega)), nb_0, ok_zD (by omega) (nw_y (y := 42) (by decide) (by decide) rfl), nb_0, ok_zG (by decide) (by decide), nb_0, ok_zD (by omega) hE, nb_0, trivial⟩
theorem ok_su (hf : f ≤ 7) (hbl : ∀ x ∈ bl, x = 32 ∨ x = 10) (h4 : n4 ≤ 999) (ha : a9 ≤ 9) (hb : b9 ≤ 9) (hl : l9 ≤ 9) (hE : NW ((bl ++ R)[0]?)) : OKt (suP f n4 a9 b9 l9 bl) R := by
  rcases (by omega : f = 0 ∨ f = 1 ∨ f = 2 ∨ f = 3 ∨ f = 4 ∨ f = 5 ∨ f = 6 ∨ f = 7) with rfl | rfl | rfl | rfl | rfl | rfl | rfl | rfl
  · exact ok_su0 hbl h4 ha hb hl hE
  · exact ok_su1 hbl h4 ha hb hl hE
  · exact ok_su2 hbl h4 ha hb hl hE
  · exact ok_su3 hbl h4 ha hb hl hE
  · exact ok_su4 hbl h4 ha hb hl hE
  · exact ok_su5 hbl h4 ha hb hl hE
  · exact ok_su6 hbl h4 ha hb hl hE
  · exact ok_su7 hbl h4 ha hb hl hE
theorem ok_wh (hg : g ≤ 7) (h6 : n6 ≤ 999) (ha : a9 ≤ 9) (hb : b9 ≤ 9) (hl : l9 ≤ 9) (ho : o9 ≤ 9) (hE : NW (R[0]?)) : OKt (whP g n6 a9 b9 l9 o9) R := by
  rcases (by omega : g = 0 ∨ g = 1 ∨ g = 2 ∨ g = 3 ∨ g = 4 ∨ g = 5 ∨ g = 6 ∨ g = 7) with rfl | rfl | rfl | rfl | rfl | rfl | rfl | rfl
  · exact ok_wh0 h6 ha hb hl ho hE
  · exact ok_wh1 h6 ha hb hl ho hE
  · exact ok_wh2 h6 ha hb hl ho hE
  · exact ok_wh3 h6 ha hb hl ho hE
  · exact ok_wh4 h6 ha hb hl ho hE
  · exact ok_wh5 h6 ha hb hl ho hE
  · exact ok_wh6 h6 ha hb hl ho hE
  · exact ok_wh7 h6 ha hb hl ho hE
/-- behind an order's sum -/
theorem nw_wb (hg : g ≤ 7) : NW ((wbB g ++ (txO (whP g n6 a9 b9 l9 o9 ++ [zG 4 [10]]) ++ R))[0]?) := by
  rcases (by omega : g = 0 ∨ g = 1 ∨ g = 2 ∨ g = 3 ∨ g = 4 ∨ g = 5 ∨ g = 6 ∨ g = 7) with rfl | rfl | rfl | rfl | rfl | rfl | rfl | rfl
  · exact nw_59 rfl
  · exact nw_32 rfl
  · exact nw_32 rfl
  · exact nw_32 rfl
  · exact nw_32 rfl
  · exact nw_32 rfl
  · exact nw_32 rfl
  · exact nw_32 rfl
/-- behind the word sum -/
theorem nw_ld (hf : f ≤ 7) : NW ((ldB f ++ (txO (suP f n4 a9 b9 l9 bl) ++ R))[0]?) := by
  rcases (by omega : f = 0 ∨ f = 1 ∨ f = 2 ∨ f = 3 ∨ f = 4 ∨ f = 5 ∨ f = 6 ∨ f = 7) with rfl | rfl | rfl | rfl | rfl | rfl | rfl | rfl
  · exact nw_32 rfl
  · exact nw_32 rfl
  · exact nw_32 rfl
  · exact nw_32 rfl
  · exact nw_32 rfl
  · exact nw_y (y := 45) (by decide) (by decide) rfl
  · exact nw_32 rfl
  · exact nw_32 rfl
theorem ok_or (hs : one ≤ 9) (ht : oth ≤ 9) (hf : f ≤ 7) (hg : g ≤ 7) (h4 : n4 ≤ 999) (h6 : n6 ≤ 999) (ha : a9 ≤ 9) (hb : b9 ≤ 9) (hl : l9 ≤ 9) (ho : o9 ≤ 9) : OKt (orL_ s one oth f n4 a9 b9 l9 g n6 o9) R := by
  unfold orL_
  refine OKt_app ?_ (OKt_app (ok_wh hg h6 ha hb hl ho (nw_59 rfl)) ⟨ok_zG (by decide) (by decide), nb_10, trivial⟩)
  unfold orHd
  split
  · exact ⟨ok_zK (by decide) (nw_32 rfl), nb_32, ok_zN (by decide) (by omega) (nw_32 rfl), nb_32, ok_zK (by decide) (nw_32 rfl), nb_32, ok_zN (by decide) (by omega) (nw_wb hg), nb_wb, trivial⟩
  split
  · exact OKt_app ⟨ok_zK (by decide) (nw_32 rfl), nb_32, ok_zN (by decide) (by omega) (nw_32 rfl), nb_32, ok_zK (by decide) (nw_32 rfl), nb_32, ok_zN (by decide) (by omega) (nw_32 rfl), nb_32, ok_zK (by decide) (nw_ld hf), nb_ld, trivial⟩ (ok_su hf nb_wb h4 ha hb hl (nw_wb hg))
  · exact OKt_app ⟨ok_zK (by decide) (nw_32 rfl), nb_32, ok_zN (by decide) (by omega) (nw_32 rfl), nb_32, ok_zK (by decide) (nw_32 rfl), nb_32, ok_zN (by decide) (by omega) (nw_32 rfl), nb_32, ok_zK (by decide) (nw_ld hf), nb_ld, trivial⟩ (ok_su hf nb_wb h4 ha hb hl (nw_wb hg))
theorem ok_cat {h : Nat → List Pz} : ∀ (n : Nat), (∀ i, i < n → ∀ R, OKt (h i) R) → ∀ R, OKt (cat_ h n) R
  | 0, _, _ => trivial
  | n + 1, hh, R => OKt_app (ok_cat n (fun i hi => hh i (by omega)) _) (hh n (by omega) R)
end
