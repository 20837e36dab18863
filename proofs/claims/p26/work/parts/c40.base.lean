/-! NUMBERS, ROWS, LOOPS: the words in which both sides are compared -/
theorem bd {α β : Type} (a : α) (f : α → β) : bnd a f = f a := rfl
theorem ob {α β : Type} (a : α) (f : α → Option β) : (some a).bind f = f a := rfl
theorem qb (b : Bool) : (q_b b = 0) = (b = false) := by cases b <;> decide
theorem i_nat {a : Int32} {N : Nat} (hN : N ≤ 4000) (h0 : ¬ a < 0) (h1 : ¬ nI N ≤ a) : ∃ i, i < N ∧ a = nI i := by
  have e0 : (0 : Int32).toInt = 0 := rfl
  have h2 : ¬ a.toInt < 0 := fun q => h0 (Int32.lt_iff_toInt_lt.mpr (by rw [e0]; exact q))
  have h3 : ¬ (N : Int) ≤ a.toInt := fun q => h1 (Int32.le_iff_toInt_le.mpr (by rw [ni_t hN]; exact q))
  refine ⟨a.toInt.toNat, by omega, Int32.toInt_inj.mp ?_⟩
  rw [ni_t (by omega)]; omega
theorem gd {i N : Nat} (h : i < N) (hN : N ≤ 4000) : (nI i < 0 ∨ N ≤ (nI i).toNatClampNeg) = False := by
  rw [ni_c (by omega)]
  exact eq_false fun q => q.elim (ni_0 (by omega)) (by omega)
theorem gn {i N : Nat} (h : i < N) (hN : N ≤ 4000) : (nI i < 0 ∨ N ≤ i) = False := eq_false fun q => q.elim (ni_0 (by omega)) (by omega)
theorem gd2 {i N : Nat} (h : i < N) (hN : N ≤ 4000) : ¬ (nI i < 0 ∨ N ≤ (nI i).toNatClampNeg) := by rw [gd h hN]; exact id
theorem eq_n {i j : Nat} (hi : i ≤ 4000) (hj : j ≤ 4000) : (nI i = nI j) = (i = j) := by
  refine propext ⟨fun q => ?_, fun q => by rw [q]⟩
  have := congrArg Int32.toInt q
  rw [ni_t hi, ni_t hj] at this; omega
theorem le_n {i j : Nat} (hi : i ≤ 4000) (hj : j ≤ 4000) : (nI i ≤ nI j) = (i ≤ j) := propext (ni_le hi hj)
theorem lt_n {i j : Nat} (hi : i ≤ 4000) (hj : j ≤ 4000) : (nI i < nI j) = (i < j) := propext (ni_lt hi hj)
theorem n_lt0 {i : Nat} (hi : i ≤ 4000) : (nI i < 0) = False := eq_false (ni_0 hi)
theorem n_ge0 {i : Nat} (hi : i ≤ 4000) : ((0 : Int32) ≤ nI i) = True := eq_true (Int32.not_lt.mp (ni_0 hi))
theorem eq_m1 {i : Nat} (hi : i ≤ 4000) : (nI i = -1) = False := by
  refine eq_false fun q => ?_
  have := congrArg Int32.toInt q
  rw [ni_t hi, show (-1 : Int32).toInt = -1 from rfl] at this; omega
theorem rg {i N : Nat} {f : Nat → Int32} (h : i < N) (hN : N ≤ 4000) : row_g N f (nI i) = f i := by
  unfold row_g
  rw [ni_c (by omega), if_pos ⟨h, ni_0 (by omega)⟩]
theorem rs {i N : Nat} {f : Nat → Int32} {x : Int32} (h : i < N) (hN : N ≤ 4000) : row_s N f (nI i) x = upd f i x := by
  unfold row_s
  rw [ni_c (by omega), if_pos ⟨h, ni_0 (by omega)⟩]
theorem ra {i N : Nat} {f : Nat → Int32} {x : Int32} (h : i < N) (hN : N ≤ 4000) : row_a N f (nI i) x = upd f i (f i + x) := by
  unfold row_a
  rw [rs h hN, rg h hN]
theorem ni_mul (a b : Nat) : nI a * nI b = nI (a * b) := (Int32.ofNat_mul a b).symm
theorem ni_add (a b : Nat) : nI a + nI b = nI (a + b) := (Int32.ofNat_add a b).symm
theorem ni_sub1 {a : Nat} : nI (a + 1) - 1 = nI a := by
  have : nI (a + 1) = nI a + 1 := (ni_s a).symm
  rw [this]
  exact Int32.add_sub_cancel _ _
theorem six_l (a b : Nat) : nI a * 6 + nI b = nI (6 * a + b) := by rw [show (6 : Int32) = nI 6 from rfl, ni_mul, ni_add, Nat.mul_comm]
theorem six_r (a b : Nat) : 6 * nI a + nI b = nI (6 * a + b) := by rw [show (6 : Int32) = nI 6 from rfl, ni_mul, ni_add]
theorem upd_upd {f : Nat → Int32} {k : Nat} {x y : Int32} : upd (upd f k x) k y = upd f k y := funext fun q => by unfold upd; split <;> rfl
/-- two rows that are alike on their first places -/
def eqN (N : Nat) (f g : Nat → Int32) : Prop := ∀ i, i < N → f i = g i
theorem eqN_upd {N : Nat} {f g : Nat → Int32} (h : eqN N f g) (i : Nat) {x y : Int32} (e : x = y) : eqN N (upd f i x) (upd g i y) := fun j hj => by
  subst e
  by_cases hq : j = i
  · subst hq; rw [upd_eq, upd_eq]
  · rw [upd_ne hq, upd_ne hq]; exact h j hj
theorem eqN_le {N M : Nat} {f g : Nat → Int32} (h : eqN N f g) (hM : M ≤ N) : eqN M f g := fun j hj => h j (by omega)
theorem eqN_off {N i : Nat} {f g : Nat → Int32} {x : Int32} (h : eqN N f g) (hi : N ≤ i) : eqN N (upd f i x) g := fun j hj => by
  rw [upd_ne (by omega)]; exact h j hj
theorem row_t_eq {f g : Nat → Int32} : ∀ n : Nat, eqN n f g → row_t f n = row_t g n
  | 0, _ => rfl
  | n + 1, h => by
    show row_t f n + f n = row_t g n + g n
    rw [row_t_eq n (eqN_le h (by omega)), h n (by omega)]
/-- a loop of N turns at most, its invariant, its end -/
theorem rp_inv {σ ρ : Type} {f : (σ → Option ρ) → σ → Option ρ} (I : Nat → σ → Prop) (Q : ρ → Prop) (N : Nat)
    (stop : ∀ K s, I N s → ∃ r, f K s = some r ∧ Q r)
    (step : ∀ K i s, i < N → I i s → (∃ s', f K s = K s' ∧ I (i + 1) s') ∨ ∃ r, f K s = some r ∧ Q r) :
    ∀ (fu i : Nat) (s : σ), I i s → i ≤ N → N - i < fu → ∃ r, rp f fu s = some r ∧ Q r
  | 0, _, _, _, _, h => by omega
  | fu + 1, i, s, hI, h1, h2 => by
    show ∃ r, f (rp f fu) s = some r ∧ Q r
    by_cases hc : i = N
    · subst hc; exact stop _ _ hI
    · rcases step (rp f fu) i s (by omega) hI with ⟨s', e, hI'⟩ | h
      · rw [e]
        exact rp_inv I Q N stop step fu (i + 1) s' hI' (by omega) (by omega)
      · exact h
/-- two loops side by side -/
theorem rp_two {σ ρ τ π : Type} {f : (σ → Option ρ) → σ → Option ρ} {g : (τ → Option π) → τ → Option π} (I : Nat → σ → τ → Prop) (Q : ρ → π → Prop) (N : Nat)
    (stop : ∀ K L s t, I N s t → ∃ r q, f K s = some r ∧ g L t = some q ∧ Q r q)
    (step : ∀ K L i s t, i < N → I i s t → (∃ s' t', f K s = K s' ∧ g L t = L t' ∧ I (i + 1) s' t') ∨ ∃ r q, f K s = some r ∧ g L t = some q ∧ Q r q) :
    ∀ (fu fv i : Nat) (s : σ) (t : τ), I i s t → i ≤ N → N - i < fu → N - i < fv → ∃ r q, rp f fu s = some r ∧ rp g fv t = some q ∧ Q r q
  | 0, _, _, _, _, _, _, h, _ => by omega
  | fu + 1, 0, _, _, _, _, _, _, h => by omega
  | fu + 1, fv + 1, i, s, t, hI, h1, h2, h3 => by
    show ∃ r q, f (rp f fu) s = some r ∧ g (rp g fv) t = some q ∧ Q r q
    by_cases hc : i = N
    · subst hc; exact stop _ _ _ _ hI
    · rcases step (rp f fu) (rp g fv) i s t (by omega) hI with ⟨s', t', e, e', hI'⟩ | h
      · rw [e, e']
        exact rp_two I Q N stop step fu fv (i + 1) s' t' hI' (by omega) (by omega) (by omega)
      · exact h
/-- a loop that only reckons, run N times -/
theorem rp_go {σ ρ : Type} {f : (σ → Option ρ) → σ → Option ρ} {E : Option ρ} (st : Nat → σ) (N : Nat) (stop : ∀ K, f K (st N) = E) (step : ∀ K i, i < N → f K (st i) = K (st (i + 1))) {z : Nat} (hz : N < z) : rp f z (st 0) = E := rp_cnt st N stop step z 0 (by omega) (by omega)
/-! whole numbers behind the Int32 -/
theorem t_add {a b : Int32} (h1 : -2147483648 ≤ a.toInt + b.toInt) (h2 : a.toInt + b.toInt < 2147483648) : (a + b).toInt = a.toInt + b.toInt := by
  rw [Int32.toInt_add]
  have e : ((2 ^ 32 : Nat) : Int) = 4294967296 := rfl
  exact Int.bmod_eq_of_le (by omega) (by omega)
theorem t_sub {a b : Int32} (h1 : -2147483648 ≤ a.toInt - b.toInt) (h2 : a.toInt - b.toInt < 2147483648) : (a - b).toInt = a.toInt - b.toInt := by
  rw [Int32.toInt_sub]
  have e : ((2 ^ 32 : Nat) : Int) = 4294967296 := rfl
  exact Int.bmod_eq_of_le (by omega) (by omega)
theorem t_mul {a b : Int32} (h1 : -2147483648 ≤ a.toInt * b.toInt) (h2 : a.toInt * b.toInt < 2147483648) : (a * b).toInt = a.toInt * b.toInt := by
  rw [Int32.toInt_mul]
  have e : ((2 ^ 32 : Nat) : Int) = 4294967296 := rfl
  exact Int.bmod_eq_of_le (by omega) (by omega)
theorem t_div {a : Int32} {c : Int32} {n : Int} (hc : c.toInt = n) (h0 : 0 < n) (h : 0 ≤ a.toInt) : (a / c).toInt = a.toInt / n := by
  have hne : c ≠ -1 := fun q => by
    rw [q, show (-1 : Int32).toInt = -1 from rfl] at hc; omega
  rw [Int32.toInt_div_of_ne_right a c hne, hc]
  exact Int.tdiv_eq_ediv_of_nonneg h
theorem t_le {a b : Int32} : a ≤ b ↔ a.toInt ≤ b.toInt := Int32.le_iff_toInt_le
theorem t_lt {a b : Int32} : a < b ↔ a.toInt < b.toInt := Int32.lt_iff_toInt_lt
theorem t_min {a b : Int32} : (q_min a b).toInt = min a.toInt b.toInt := by
  unfold q_min
  by_cases h : b < a
  · rw [if_pos h]; have := t_lt.mp h; omega
  · rw [if_neg h]; have : ¬ b.toInt < a.toInt := fun q => h (t_lt.mpr q); omega
theorem t_max {a b : Int32} : (q_max a b).toInt = max a.toInt b.toInt := by
  unfold q_max
  by_cases h : a < b
  · rw [if_pos h]; have := t_lt.mp h; omega
  · rw [if_neg h]; have : ¬ a.toInt < b.toInt := fun q => h (t_lt.mpr q); omega
theorem t_inj {a b : Int32} (h : a.toInt = b.toInt) : a = b := Int32.toInt_inj.mp h
/-- the sum of a row's first places, as a whole number -/
def isum (f : Nat → Int32) : Nat → Int
  | 0 => 0
  | n + 1 => isum f n + (f n).toInt
theorem isum_eq {f g : Nat → Int32} : ∀ n : Nat, eqN n f g → isum f n = isum g n
  | 0, _ => rfl
  | n + 1, h => by
    show isum f n + (f n).toInt = isum g n + (g n).toInt
    rw [isum_eq n (eqN_le h (by omega)), h n (by omega)]
theorem isum_upd {f : Nat → Int32} {i : Nat} {x : Int32} : ∀ n : Nat, i < n → isum (upd f i x) n = isum f n - (f i).toInt + x.toInt
  | 0, h => by omega
  | n + 1, h => by
    show isum (upd f i x) n + (upd f i x n).toInt = isum f n + (f n).toInt - (f i).toInt + x.toInt
    by_cases hq : i = n
    · subst hq
      rw [upd_eq, isum_eq (g := f) i (fun j hj => upd_ne (by omega))]
      omega
    · rw [upd_ne (by omega), isum_upd n (by omega)]
      omega
theorem isum_nn {f : Nat → Int32} : ∀ n : Nat, (∀ j, j < n → 0 ≤ (f j).toInt) → 0 ≤ isum f n
  | 0, _ => Int.le_refl 0
  | n + 1, h => by
    show 0 ≤ isum f n + (f n).toInt
    have := isum_nn n (fun j hj => h j (by omega))
    have := h n (by omega)
    omega
theorem isum_le {f : Nat → Int32} {i : Nat} : ∀ n : Nat, (∀ j, j < n → 0 ≤ (f j).toInt) → i < n → (f i).toInt ≤ isum f n
  | 0, _, h => by omega
  | n + 1, h0, h => by
    show (f i).toInt ≤ isum f n + (f n).toInt
    by_cases hq : i = n
    · subst hq
      have : 0 ≤ isum f i := isum_nn i (fun j hj => h0 j (by omega))
      omega
    · have := isum_le n (fun j hj => h0 j (by omega)) (show i < n by omega)
      have := h0 n (by omega)
      omega
theorem row_t_int {f : Nat → Int32} : ∀ n : Nat, n ≤ 1000 → (∀ j, j < n → 0 ≤ (f j).toInt ∧ (f j).toInt ≤ 1000000) → (row_t f n).toInt = isum f n ∧ 0 ≤ isum f n ∧ isum f n ≤ 1000000 * n
  | 0, _, _ => ⟨rfl, Int.le_refl 0, Int.le_refl 0⟩
  | n + 1, hn, h => by
    obtain ⟨h1, h2, h3⟩ := row_t_int n (by omega) (fun j hj => h j (by omega))
    have h4 := h n (by omega)
    have e : (row_t f n + f n).toInt = (row_t f n).toInt + (f n).toInt := t_add (by omega) (by omega)
    refine ⟨?_, ?_, ?_⟩
    · show (row_t f n + f n).toInt = isum f n + (f n).toInt
      rw [e, h1]
    · show 0 ≤ isum f n + (f n).toInt
      omega
    · show isum f n + (f n).toInt ≤ 1000000 * ((n + 1 : Nat) : Int)
      omega
