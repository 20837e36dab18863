/-! READING: the kinds of both sides, single tokens, names -/
def kmap (n : Nat) : Nat := if n < 32 then n else if n ≤ 46 then n + 8 else if n = 47 then 35 else if n = 48 then 36 else if n = 49 then 70 else 71
theorem kq {n b : Nat} (hn : n ≤ 50) (hb : b ≤ 50) : (nI (kmap n) = nI (kmap b)) = (n = b) := by
  have h1 : kmap n ≤ 4000 := by unfold kmap; split <;> (try split) <;> (try split) <;> (try split) <;> (try split) <;> omega
  have h2 : kmap b ≤ 4000 := by unfold kmap; split <;> (try split) <;> (try split) <;> (try split) <;> (try split) <;> omega
  rw [eq_n h1 h2]
  refine propext ⟨fun q => ?_, fun q => by rw [q]⟩
  have key : ∀ n : Fin 51, ∀ b : Fin 51, kmap n.val = kmap b.val → n.val = b.val := by decide +kernel
  exact key ⟨n, by omega⟩ ⟨b, by omega⟩ q
/-- what a list's reading leaves alone in the class: of an expression, of a line -/
def FRe (v v1 : Va) : Prop := ∀ p, p ≠ 12 → p ≠ 42 → p ≠ 44 → p ≠ 46 → p ≠ 48 → v1 p = v p
/-- the syntax pass changes token and depth alone -/
def FS (u u1 : Va) : Prop := (∀ p, p ≠ 149 → u1 p = u p) ∧ ∀ j, j ≠ 4 → j ≠ 5 → u1 149 j = u 149 j
theorem FRe.tr {v v1 v2 : Va} (h : FRe v v1) (h2 : FRe v1 v2) : FRe v v2 := fun p a b c d e => (h2 p a b c d e).trans (h p a b c d e)
theorem FS.tr {v v1 v2 : Va} (h : FS v v1) (h2 : FS v1 v2) : FS v v2 := ⟨fun p a => (h2.1 p a).trans (h.1 p a), fun j a b => (h2.2 j a b).trans (h.2 j a b)⟩
/-- the class goes on, and fails -/
abbrev Nx (v : Va) (t : Nat) : Va := pu v 12 6 (nI t)
abbrev Fl (v : Va) (t : Nat) : Va := pu (pu v 12 7 1) 12 8 (nI t)
section
variable {v u : Va} {kn : Nat → Nat} {nt t k1 sp z : Nat}
theorem FRe.nx : FRe v (Nx v t) := fun p a _ _ _ _ => by unfold Nx pu; rw [up_ne a]
theorem FRe.fl : FRe v (Fl v t) := fun p a _ _ _ _ => by unfold Fl pu; rw [up_ne a, up_ne a]
theorem Nx_6 : (Nx v t) 12 6 = nI t := by unfold Nx pu; rw [up_eq, upd_eq]
theorem Nx_7 : (Nx v t) 12 7 = v 12 7 := by unfold Nx pu; rw [up_eq, upd_ne (by omega)]
theorem Nx_8 : (Nx v t) 12 8 = v 12 8 := by unfold Nx pu; rw [up_eq, upd_ne (by omega)]
theorem Fl_7 : (Fl v t) 12 7 = 1 := by unfold Fl pu; rw [up_eq, upd_ne (by omega), up_eq, upd_eq]
theorem Fl_8 : (Fl v t) 12 8 = nI t := by unfold Fl pu; rw [up_eq, upd_eq]
theorem seen_c (h6 : v 12 6 = nI t) (h7 : ¬ v 12 7 = 1) (ht : t ≤ 400) (hk : v 5 t = nI (kn t)) : f_Reader_seen v = some (nI (kn t)) := by
  unfold f_Reader_seen
  rw [if_neg h7, h6, bd, rg (by omega) (by omega), hk]
theorem seen_d (h7 : v 12 7 = 1) : f_Reader_seen v = some 50 := by
  unfold f_Reader_seen
  rw [if_pos h7]
theorem fail_c (h6 : v 12 6 = nI t) (h7 : ¬ v 12 7 = 1) : f_Reader_fail v = some (Fl v t) := by
  unfold f_Reader_fail
  rw [if_neg h7, bd, bd]
  have : (pu v 12 7 1) 12 6 = nI t := by unfold pu; rw [up_eq, upd_ne (by omega)]; exact h6
  rw [this]
theorem fail_d (h7 : v 12 7 = 1) : f_Reader_fail v = some v := by
  unfold f_Reader_fail
  rw [if_pos h7]
theorem next_c (h6 : v 12 6 = nI t) : pu v 12 6 (v 12 6 + 1) = Nx v (t + 1) := by rw [h6, ni_s]
theorem take_y (h6 : v 12 6 = nI t) (h7 : ¬ v 12 7 = 1) (ht : t ≤ 400) (hk : v 5 t = nI (kn t)) : f_Reader_take v (nI (kn t)) = some (Nx v (t + 1)) := by
  unfold f_Reader_take
  rw [seen_c h6 h7 ht hk, ob, if_pos rfl, bd, next_c h6]
theorem take_n {a : Int32} (h6 : v 12 6 = nI t) (h7 : ¬ v 12 7 = 1) (ht : t ≤ 400) (hk : v 5 t = nI (kn t)) (hne : ¬ nI (kn t) = a) : f_Reader_take v a = some (Fl v t) := by
  unfold f_Reader_take
  rw [seen_c h6 h7 ht hk, ob, if_neg hne, fail_c h6 h7, ob]
theorem take_d {a : Int32} (h7 : v 12 7 = 1) (hne : ¬ (50 : Int32) = a) : f_Reader_take v a = some v := by
  unfold f_Reader_take
  rw [seen_d h7, ob, if_neg hne, fail_d h7, ob]
/-! the syntax pass's single tokens -/
abbrev Tk (u : Va) (t : Nat) : Va := pu u 149 4 (nI t)
abbrev Dp (u : Va) (d : Nat) : Va := pu u 149 5 (nI d)
theorem FS.tk : FS u (Tk u t) := ⟨fun p a => by unfold Tk pu; rw [up_ne a], fun j a b => by unfold Tk pu; rw [up_eq, upd_ne a]⟩
theorem FS.dp {d : Nat} : FS u (Dp u d) := ⟨fun p a => by unfold Dp pu; rw [up_ne a], fun j a b => by unfold Dp pu; rw [up_eq, upd_ne b]⟩
theorem FS.refl' : FS u u := ⟨fun _ _ => rfl, fun _ _ _ => rfl⟩
theorem Tk_4 : (Tk u t) 149 4 = nI t := by unfold Tk pu; rw [up_eq, upd_eq]
theorem Tk_5 : (Tk u t) 149 5 = u 149 5 := by unfold Tk pu; rw [up_eq, upd_ne (by omega)]
theorem Dp_4 {d : Nat} : (Dp u d) 149 4 = u 149 4 := by unfold Dp pu; rw [up_eq, upd_ne (by omega)]
theorem Dp_5 {d : Nat} : (Dp u d) 149 5 = nI d := by unfold Dp pu; rw [up_eq, upd_eq]
theorem eat_y {a : Int32} (h4 : u 149 4 = nI t) (ht : t ≤ 400) (hk : u (k1 + 1) t = a) : f_Model_eat u sp k1 a = some (true, Tk u (t + 1)) := by
  unfold f_Model_eat
  rw [h4, if_neg (gd2 (by omega) (by omega)), ni_c (by omega), if_pos hk, bd, ni_s]
theorem eat_n {a : Int32} (h4 : u 149 4 = nI t) (ht : t ≤ 400) (hk : ¬ u (k1 + 1) t = a) : f_Model_eat u sp k1 a = some (false, u) := by
  unfold f_Model_eat
  rw [h4, if_neg (gd2 (by omega) (by omega)), ni_c (by omega), if_neg hk]
theorem eatIn_y {a b : Int32} (h4 : u 149 4 = nI t) (ht : t ≤ 400) (hk : ¬ u (k1 + 1) t < a ∧ ¬ b < u (k1 + 1) t) : f_Model_eatIn u sp k1 a b = some (true, Tk u (t + 1)) := by
  unfold f_Model_eatIn
  rw [h4, if_neg (gd2 (by omega) (by omega)), ni_c (by omega), isIn_e, ob, decide_eq_true hk, if_neg (show ¬ q_b true = 0 by decide), bd, ni_s]
theorem eatIn_n {a b : Int32} (h4 : u 149 4 = nI t) (ht : t ≤ 400) (hk : ¬ (¬ u (k1 + 1) t < a ∧ ¬ b < u (k1 + 1) t)) : f_Model_eatIn u sp k1 a b = some (false, u) := by
  unfold f_Model_eatIn
  rw [h4, if_neg (gd2 (by omega) (by omega)), ni_c (by omega), isIn_e, ob, decide_eq_false hk, if_pos (show q_b false = 0 by decide)]
theorem down_y {a : Int32} {d : Nat} (h4 : u 149 4 = nI t) (h5 : u 149 5 = nI d) (ht : t ≤ 400) (hd : d < 8) (hk : u (k1 + 1) t = a) : f_Model_goDown u sp k1 a = some (true, Tk (Dp u (d + 1)) (t + 1)) := by
  unfold f_Model_goDown
  rw [h4, if_neg (gd2 (by omega) (by omega)), ni_c (by omega), if_pos hk, h5, if_neg (by rw [show (8 : Int32) = nI 8 from rfl, eq_n (by omega) (by omega)]; omega), bd, bd, ni_s]
  show some (true, pu (Dp u (d + 1)) 149 4 ((Dp u (d + 1)) 149 4 + 1)) = _
  rw [Dp_4, h4, ni_s]
theorem down_n {a : Int32} {d : Nat} (h4 : u 149 4 = nI t) (h5 : u 149 5 = nI d) (ht : t ≤ 400) (hd : d ≤ 8) (hk : ¬ (u (k1 + 1) t = a ∧ d < 8)) : f_Model_goDown u sp k1 a = some (false, u) := by
  unfold f_Model_goDown
  rw [h4, if_neg (gd2 (by omega) (by omega)), ni_c (by omega)]
  by_cases h : u (k1 + 1) t = a
  · rw [if_pos h, h5, if_pos (by rw [show (8 : Int32) = nI 8 from rfl, eq_n (by omega) (by omega)]; exact Classical.byContradiction fun q => hk ⟨h, by omega⟩)]
  · rw [if_neg h]
theorem deeper_y {d : Nat} (h6 : v 12 6 = nI t) (h7 : ¬ v 12 7 = 1) (ht : t ≤ 400) (hk : v 5 t = nI (kn t)) (hd : d < 8) : f_Reader_goesDeeper v (nI (kn t)) (nI d) = some (true, Nx v (t + 1)) := by
  unfold f_Reader_goesDeeper
  rw [show (8 : Int32) = nI 8 from rfl, if_neg (by rw [le_n (by omega) (by omega)]; omega), seen_c h6 h7 ht hk, ob, if_pos rfl, bd, next_c h6]
theorem deeper_n {a : Int32} {d : Nat} (h6 : v 12 6 = nI t) (h7 : ¬ v 12 7 = 1) (ht : t ≤ 400) (hk : v 5 t = nI (kn t)) (hd : d ≤ 8) (hne : ¬ (nI (kn t) = a ∧ d < 8)) : f_Reader_goesDeeper v a (nI d) = some (false, Fl v t) := by
  unfold f_Reader_goesDeeper j_Reader_goesDeeper_14
  by_cases h8 : d = 8
  · subst h8
    rw [if_pos (by decide), fail_c h6 h7, ob]
  · rw [show (8 : Int32) = nI 8 from rfl, if_neg (by rw [le_n (by omega) (by omega)]; omega), seen_c h6 h7 ht hk, ob, if_neg (fun q => hne ⟨q, by omega⟩), fail_c h6 h7, ob]
/-! the error pass -/
def fold2 (z sp k1 : Nat) : Nat → Nat → Va → Option (Int32 × Nat × Va)
  | 0, a, u => some (0, a, u)
  | n + 1, a, u => (f_Model_errorOf z u sp k1 (nI a)).bind fun q => if q.1 = 0 then fold2 z sp k1 n (a + 1) q.2 else some (q.1, a, q.2)
theorem fold2_app : ∀ (n m a : Nat) (u : Va), fold2 z sp k1 (n + m) a u = (fold2 z sp k1 n a u).bind fun q => if q.1 = 0 then fold2 z sp k1 m (a + n) q.2.2 else some q
  | 0, m, a, u => by
    rw [Nat.zero_add]
    show _ = (some ((0 : Int32), a, u)).bind _
    rw [ob, if_pos rfl]; rfl
  | n + 1, m, a, u => by
    rw [show n + 1 + m = n + m + 1 by omega]
    show (f_Model_errorOf z u sp k1 (nI a)).bind _ = ((f_Model_errorOf z u sp k1 (nI a)).bind _).bind _
    cases f_Model_errorOf z u sp k1 (nI a) with
    | none => rfl
    | some q =>
      rw [ob, ob]
      by_cases h : q.1 = 0
      · rw [if_pos h, if_pos h, fold2_app n m (a + 1) q.2, show a + 1 + n = a + (n + 1) by omega]
      · rw [if_neg h, if_neg h, ob, if_neg h]
theorem fold2_1 {a : Nat} {e : Int32} {u1 : Va} (h : f_Model_errorOf z u sp k1 (nI a) = some (e, u1)) : fold2 z sp k1 1 a u = some (e, (if e = 0 then a + 1 else a), u1) := by
  show (f_Model_errorOf z u sp k1 (nI a)).bind _ = _
  rw [h, ob]
  by_cases q : e = 0
  · subst q
    rw [if_pos rfl, if_pos rfl]; rfl
  · rw [if_neg q, if_neg q]
/-- a token of which nothing is asked -/
theorem err_no {n : Nat} (ht : t ≤ 400) (hk : u (k1 + 1) t = nI (kmap n)) (hn : n ≤ 50) (hne : n ≠ 12 ∧ n ≠ 14 ∧ n ≠ 16 ∧ n ≠ 17 ∧ n ≠ 18 ∧ n ≠ 47 ∧ n ≠ 48) : f_Model_errorOf z u sp k1 (nI t) = some (0, u) := by
  unfold f_Model_errorOf
  rw [if_neg (gd2 (by omega) (by omega)), ni_c (by omega), hk,
    if_neg (by rw [show (12 : Int32) = nI (kmap 12) from rfl, kq hn (by omega)]; omega), if_neg (by rw [show (14 : Int32) = nI (kmap 14) from rfl, kq hn (by omega)]; omega),
    if_neg (by rw [show (16 : Int32) = nI (kmap 16) from rfl, kq hn (by omega)]; omega), if_neg (by rw [show (17 : Int32) = nI (kmap 17) from rfl, kq hn (by omega)]; omega),
    if_neg (by rw [show (18 : Int32) = nI (kmap 18) from rfl, kq hn (by omega)]; omega), if_neg (by rw [show (35 : Int32) = nI (kmap 47) from rfl, kq hn (by omega)]; omega),
    if_neg (by rw [show (36 : Int32) = nI (kmap 48) from rfl, kq hn (by omega)]; omega)]
/-- names of a sort: the class keeps values, the reference keeps tokens -/
def NR (v u : Va) (kn : Nat → Nat) (nt k ka c n N : Nat) (u1 : Va) (k1 : Nat) : Prop := v k 2 = nI n ∧ n ≤ N ∧ u1 k1 c = nI n ∧ ∀ i, i < n → ∃ a, a < nt ∧ kn a = 47 ∧ u1 ka i = nI a ∧ v (k + 2) i = v 11 a
/-- of names and numbers the tokens say the same on both sides, whatever else there is -/
def TKN (v u0 : Va) (kn : Nat → Nat) (nt k1 z sp : Nat) : Prop := ∀ u : Va, u 150 = u0 150 → u (k1 + 2) = u0 (k1 + 2) → u (k1 + 3) = u0 (k1 + 3) →
  (∀ a b, a < nt → b < nt → kn a = 47 → kn b = 47 → f_Model_areSame z u sp k1 (nI a) (nI b) = some (decide (v 11 a = v 11 b))) ∧ ∀ a, a < nt → kn a = 48 → f_Model_number z u sp k1 (nI a) = some (v 11 a) ∧ ¬ v 11 a < 0
theorem find_two {u0 : Va} {k ka c n N : Nat} (hN : N ≤ 10) (hz : 4000 < z) (hT : TKN v u0 kn nt k1 z sp) (h0 : u 150 = u0 150 ∧ u (k1 + 2) = u0 (k1 + 2) ∧ u (k1 + 3) = u0 (k1 + 3)) (hR : NR v u kn nt k ka c n N u k1) (ht : t < nt) (hk : kn t = 47) :
    ∃ r, f_Names_find z v k N (v 11 t) = some r ∧ f_Model_find z u sp k1 ka N (nI n) (nI t) = some r ∧ (r = -1 ∨ ∃ i, i < n ∧ r = nI i) := by
  obtain ⟨r1, r2, r3, r4⟩ := hR
  have hS := (hT u h0.1 h0.2.1 h0.2.2).1
  obtain ⟨a, b, h1, h2, h3, h4⟩ := rp_two (f := b_Names_find_2 v k N (v 11 t)) (g := b_Model_find_3 z u sp k1 ka N (nI n) (nI t)) (fun i s t => s = nI i ∧ t = nI i) (fun a b => a = b ∧ (a = -1 ∨ ∃ i, i < n ∧ a = nI i)) n (by
    intro K K' s s' ⟨e1, e2⟩
    refine ⟨-1, -1, ?_, ?_, rfl, Or.inl rfl⟩
    · unfold b_Names_find_2
      rw [e1, r1, if_pos (by rw [le_n (by omega) (by omega)]; exact Nat.le_refl _)]
    · unfold b_Model_find_3
      rw [e2, if_pos (by rw [le_n (by omega) (by omega)]; exact Nat.le_refl _)]) (by
    intro K K' i s s' hi ⟨e1, e2⟩
    obtain ⟨a, a1, a2, a3, a4⟩ := r4 i hi
    subst e1 e2
    have c1 : b_Names_find_2 v k N (v 11 t) K (nI i) = if v 11 a = v 11 t then some (nI i) else K (nI (i + 1)) := by
      unfold b_Names_find_2
      rw [r1, if_neg (by rw [le_n (by omega) (by omega)]; omega), bd, rg (by omega) (by omega), a4, ni_s]
    have c2 : b_Model_find_3 z u sp k1 ka N (nI n) (nI t) K' (nI i) = if v 11 a = v 11 t then some (nI i) else K' (nI (i + 1)) := by
      unfold b_Model_find_3
      rw [if_neg (by rw [le_n (by omega) (by omega)]; omega), if_neg (gd2 (by omega) (by omega)), ni_c (by omega), a3, hS a t a1 ht a2 hk, ob, ni_s]
      by_cases q : v 11 a = v 11 t
      · rw [if_pos q, decide_eq_true q, if_neg (show ¬ q_b true = 0 by decide)]
      · rw [if_neg q, decide_eq_false q, if_pos (show q_b false = 0 by decide)]
    rw [c1, c2]
    by_cases q : v 11 a = v 11 t
    · rw [if_pos q, if_pos q]
      exact Or.inr ⟨_, _, rfl, rfl, rfl, Or.inr ⟨i, hi, rfl⟩⟩
    · rw [if_neg q, if_neg q]
      exact Or.inl ⟨_, _, rfl, rfl, rfl, rfl⟩) z z 0 0 0 ⟨rfl, rfl⟩ (by omega) (by omega) (by omega)
  subst h3
  exact ⟨a, h1, h2, h4⟩
/-- the class's look for a name ends -/
theorem find_any {k n N : Nat} (hN : N ≤ 10) (hz : 4000 < z) (h2 : v k 2 = nI n) (hn : n ≤ N) (x : Int32) : ∃ r, f_Names_find z v k N x = some r ∧ (r = -1 ∨ ∃ i, i < n ∧ r = nI i) := by
  exact rp_inv (f := b_Names_find_2 v k N x) (fun i s => s = nI i) (fun r => r = -1 ∨ ∃ i, i < n ∧ r = nI i) n (fun K s e => ⟨-1, by
    unfold b_Names_find_2
    rw [e, h2, if_pos (by rw [le_n (by omega) (by omega)]; exact Nat.le_refl _), ], Or.inl rfl⟩) (fun K i s hi e => by
    subst e
    unfold b_Names_find_2
    rw [h2, if_neg (by rw [le_n (by omega) (by omega)]; omega), bd, rg (by omega) (by omega), ni_s]
    by_cases q : v (k + 2) i = x
    · rw [if_pos q]; exact Or.inr ⟨_, rfl, Or.inr ⟨i, hi, rfl⟩⟩
    · rw [if_neg q]; exact Or.inl ⟨_, rfl, rfl⟩) z 0 0 rfl (by omega) (by omega)
/-- a name is taken: the class's side -/
def Bl (v : Va) (e : Int32) (t : Nat) : Va := pu (pu v 12 7 e) 12 8 (nI t)
theorem takeName_c {k n N : Nat} (hN : N ≤ 10) (hz : 4000 < z) (h6 : v 12 6 = nI t) (h7 : ¬ v 12 7 = 1) (ht : t ≤ 400) (hk : v 5 t = nI 47) (hk12 : k ≠ 12) (hkk : k + 2 ≠ 12) {r : Int32} (hf : f_Names_find z v k N (v 11 t) = some r) :
    f_Reader_takeName z v k N = some (r, if 0 ≤ r then Nx v (t + 1) else if v 12 7 = 0 then Bl (Nx v (t + 1)) 3 t else Nx v (t + 1)) := by
  unfold f_Reader_takeName
  have e1 : f_Names_find z (Nx v (t + 1)) k N (v 11 t) = f_Names_find z v k N (v 11 t) := by
    unfold f_Names_find
    have : b_Names_find_2 (Nx v (t + 1)) k N (v 11 t) = b_Names_find_2 v k N (v 11 t) := by
      funext K s
      unfold b_Names_find_2
      have a1 : (Nx v (t + 1)) k = v k := by unfold Nx pu; rw [up_ne hk12]
      have a2 : (Nx v (t + 1)) (k + 2) = v (k + 2) := by unfold Nx pu; rw [up_ne hkk]
      rw [a1, a2]
    rw [this]
  have e2 : (Nx v (t + 1)) 11 = v 11 := by unfold Nx pu; rw [up_ne (by omega)]
  rw [seen_c (kn := fun _ => 47) h6 h7 ht hk, ob, if_pos (show nI 47 = (47 : Int32) from rfl), bd, next_c h6, bd, h6, rg (by omega) (by omega), e2, e1, hf, ob]
  by_cases h0 : 0 ≤ r
  · rw [if_pos h0, if_pos h0]
  · rw [if_neg h0, if_neg h0]
    unfold f_Reader_blame
    rw [Nx_7]
    by_cases hz0 : v 12 7 = 0
    · rw [if_pos hz0, if_pos hz0, bd, bd, ob]; rfl
    · rw [if_neg hz0, if_neg hz0, ob]
theorem takeName_n {k N : Nat} (h6 : v 12 6 = nI t) (h7 : ¬ v 12 7 = 1) (ht : t ≤ 400) (hk : v 5 t = nI (kn t)) (hne : ¬ nI (kn t) = 47) : f_Reader_takeName z v k N = some (-1, Fl v t) := by
  unfold f_Reader_takeName
  rw [seen_c h6 h7 ht hk, ob, if_neg hne, fail_c h6 h7, ob]
theorem takeName_d {k N : Nat} (h7 : v 12 7 = 1) : f_Reader_takeName z v k N = some (-1, v) := by
  unfold f_Reader_takeName
  rw [seen_d h7, ob, if_neg (by decide), fail_d h7, ob]
end
