/-! WHAT READING ONE STRETCH OF TOKENS COMES TO, on all sides -/
section
variable (kn : Nat → Nat) (nt k1 sp z : Nat) (u0 : Va)
def GH : Prop := nt ≤ 400 ∧ (∀ i, i ≤ nt → kn i ≤ 50) ∧ (∀ i, i < nt → kn i ≤ 48) ∧ 49 ≤ kn nt ∧ 194 ≤ k1 ∧ 4000 < z
/-- both sides stand at the token t, and have seen no error 1 -/
def AL (v us : Va) (t d : Nat) : Prop := v 12 6 = nI t ∧ (¬ v 12 7 = 1) ∧ t ≤ nt ∧ us 149 4 = nI t ∧ us 149 5 = nI d ∧ (∀ i, i ≤ nt → v 5 i = nI (kn i)) ∧ (∀ i, i ≤ nt → us (k1 + 1) i = nI (kmap (kn i))) ∧ (∃ M, M ≤ 6 ∧ v 55 2 = nI M) ∧ (∃ L, L ≤ 10 ∧ v 58 2 = nI L) ∧ TKN v u0 kn nt k1 z sp
/-- the error pass has come to t without an error; s steps stand -/
def SE (v u2 : Va) (M L t s : Nat) : Prop := v 42 0 = nI s ∧ s ≤ t ∧ NR v u0 kn nt 55 (k1 + 10) 11 M 6 u2 k1 ∧ NR v u0 kn nt 58 (k1 + 13) 15 L 10 u2 k1 ∧ (u2 150 = u0 150 ∧ u2 (k1 + 2) = u0 (k1 + 2) ∧ u2 (k1 + 3) = u0 (k1 + 3)) ∧ ∀ i, i ≤ nt → u2 (k1 + 1) i = nI (kmap (kn i))
def FNm (u2 u3 : Va) (t t' : Nat) : Prop := (∀ p, p ≠ k1 + 4 → u3 p = u2 p) ∧ ∀ i, i < t ∨ t' ≤ i → u3 (k1 + 4) i = u2 (k1 + 4) i
end
/-- the draft's steps -/
def segD (v : Va) (a : Nat) : Nat → List Ste
  | 0 => []
  | n + 1 => (v 44 a, v 46 a, v 48 a) :: segD v (a + 1) n
def SStp (v v' : Va) (s : Nat) (c : List Ste) : Prop := v' 42 0 = nI (s + c.length) ∧ (∀ i, i < s → v' 44 i = v 44 i ∧ v' 46 i = v 46 i ∧ v' 48 i = v 48 i) ∧ segD v' s c.length = c
def Out (kn : Nat → Nat) (nt k1 sp z : Nat) (u0 v us : Va) (t d : Nat) (cls : Option Va) (syn : Option (Bool × Va)) (D : Nat → Prop) (C : (Nat → Int32) → Nat → Nat → Nat → List Ste → Prop) : Prop :=
  ∃ (v' : Va) (b : Bool) (us' : Va) (t' : Nat), cls = some v' ∧ syn = some (b, us') ∧ FRe v v' ∧ FS us us' ∧ us' 149 4 = nI t' ∧ t ≤ t' ∧ t' ≤ nt ∧
    (b = false → v' 12 7 = 1 ∧ v' 12 8 = nI t') ∧
    (b = true → D t' ∧ us' 149 5 = nI d ∧ v' 12 6 = nI t' ∧ (¬ v' 12 7 = 1) ∧ ((¬ v 12 7 = 0) → v' 12 7 = v 12 7 ∧ v' 12 8 = v 12 8) ∧
      (v 12 7 = 0 → ∀ (M L s : Nat) (u2 : Va), SE kn nt k1 u0 v u2 M L t s → ∃ (e : Int32) (k : Nat) (u3 : Va), fold2 z sp k1 (t' - t) t u2 = some (e, k, u3) ∧ ((¬ e = 0) → v' 12 7 = e ∧ v' 12 8 = nI k) ∧
        (e = 0 → v' 12 7 = 0 ∧ FNm k1 u2 u3 t t' ∧ ∃ c, SStp v v' s c ∧ c.length ≤ t' - t ∧ ∀ mn : Nat → Int32, (∀ i, i < t' → mn i = u3 (k1 + 4) i) → C mn M L t' c)))
/-- a call of the class that has failed already -/
def Dead (A : Va → Option Va) : Prop := ∀ v, v 12 7 = 1 → ∃ v', A v = some v' ∧ v' 12 = v 12 ∧ FRe v v'
def sq (X : Option (Bool × Va)) (Y : Va → Option (Bool × Va)) : Option (Bool × Va) := X.bind fun q => if (q_b q.1) = 0 then some (false, q.2) else Y q.2
def up1 (u : Va) : Option (Bool × Va) := bnd (pu u 149 5 ((u 149 5) - 1)) fun w => some (true, w)
theorem sq_t {u : Va} {Y : Va → Option (Bool × Va)} : sq (some (true, u)) Y = Y u := by
  unfold sq; rw [ob, q_tt]
theorem sq_f {u : Va} {Y : Va → Option (Bool × Va)} : sq (some (false, u)) Y = some (false, u) := by
  unfold sq; rw [ob, q_ff]
theorem sq_assoc {X : Option (Bool × Va)} {Y Z : Va → Option (Bool × Va)} : sq (sq X Y) Z = sq X (fun u => sq (Y u) Z) := by
  cases X with
  | none => rfl
  | some q =>
    obtain ⟨b, u⟩ := q
    cases b
    · rw [sq_f, sq_f, sq_f]
    · rw [sq_t, sq_t]
theorem sq_id {X : Option (Bool × Va)} : sq X (fun u => some (true, u)) = X := by
  cases X with
  | none => rfl
  | some q =>
    obtain ⟨b, u⟩ := q
    cases b
    · rw [sq_f]
    · rw [sq_t]
section
variable {kn : Nat → Nat} {nt k1 sp z : Nat} {u0 v v1 v2 us us1 u2 u3 u4 : Va} {t t1 t2 d M L s s1 : Nat} {c c1 c2 : List Ste}
theorem segD_len : ∀ n a, (segD v a n).length = n
  | 0, _ => rfl
  | n + 1, a => by show (segD v (a + 1) n).length + 1 = n + 1; rw [segD_len n (a + 1)]
theorem segD_eq : ∀ n a, (∀ i, a ≤ i → i < a + n → v1 44 i = v 44 i ∧ v1 46 i = v 46 i ∧ v1 48 i = v 48 i) → segD v1 a n = segD v a n
  | 0, _, _ => rfl
  | n + 1, a, h => by
    show (v1 44 a, v1 46 a, v1 48 a) :: segD v1 (a + 1) n = (v 44 a, v 46 a, v 48 a) :: segD v (a + 1) n
    obtain ⟨h1, h2, h3⟩ := h a (by omega) (by omega)
    rw [h1, h2, h3, segD_eq n (a + 1) (fun i a b => h i (by omega) (by omega))]
theorem segD_app : ∀ n m a, segD v a (n + m) = segD v a n ++ segD v (a + n) m
  | 0, m, a => by rw [Nat.zero_add]; rfl
  | n + 1, m, a => by
    rw [show n + 1 + m = n + m + 1 by omega]
    show (v 44 a, v 46 a, v 48 a) :: segD v (a + 1) (n + m) = (v 44 a, v 46 a, v 48 a) :: (segD v (a + 1) n ++ segD v (a + (n + 1)) m)
    rw [segD_app n m (a + 1), show a + 1 + n = a + (n + 1) by omega]
theorem SStp.refl' (h : v 42 0 = nI s) : SStp v v s [] := ⟨h, fun _ _ => ⟨rfl, rfl, rfl⟩, rfl⟩
theorem SStp.tr (h : SStp v v1 s c1) (h2 : SStp v1 v2 (s + c1.length) c2) : SStp v v2 s (c1 ++ c2) := by
  obtain ⟨a1, a2, a3⟩ := h
  obtain ⟨b1, b2, b3⟩ := h2
  refine ⟨by rw [b1, List.length_append, Nat.add_assoc], fun i hi => ?_, ?_⟩
  · obtain ⟨x1, x2, x3⟩ := b2 i (by omega)
    obtain ⟨y1, y2, y3⟩ := a2 i hi
    exact ⟨x1.trans y1, x2.trans y2, x3.trans y3⟩
  · rw [List.length_append, segD_app, b3, segD_eq c1.length s (fun i _ h => b2 i h), a3]
/-- where the steps were not touched -/
theorem SStp.same (h : SStp v v1 s c) (e : v2 42 = v1 42 ∧ v2 44 = v1 44 ∧ v2 46 = v1 46 ∧ v2 48 = v1 48) : SStp v v2 s c := by
  obtain ⟨a1, a2, a3⟩ := h
  refine ⟨by rw [e.1]; exact a1, fun i hi => by rw [e.2.1, e.2.2.1, e.2.2.2]; exact a2 i hi, ?_⟩
  rw [segD_eq (v := v1) c.length s (fun i _ _ => by rw [e.2.1, e.2.2.1, e.2.2.2]; exact ⟨rfl, rfl, rfl⟩)]
  exact a3
theorem SStp.from (h : SStp v1 v2 s c) (e : v1 42 = v 42 ∧ v1 44 = v 44 ∧ v1 46 = v 46 ∧ v1 48 = v 48) : SStp v v2 s c := by
  obtain ⟨a1, a2, a3⟩ := h
  exact ⟨a1, fun i hi => by rw [← e.2.1, ← e.2.2.1, ← e.2.2.2]; exact a2 i hi, a3⟩
theorem TKN.fr (h : TKN v u0 kn nt k1 z sp) (e : v1 11 = v 11) : TKN v1 u0 kn nt k1 z sp := fun u a b c => by
  rw [e]; exact h u a b c
theorem NR.fr {k ka cc n N : Nat} (h : NR v u0 kn nt k ka cc n N u2 k1) (e1 : v1 k = v k) (e2 : v1 (k + 2) = v (k + 2)) (e3 : v1 11 = v 11) (e4 : u3 k1 = u2 k1) (e5 : u3 ka = u2 ka) : NR v1 u0 kn nt k ka cc n N u3 k1 := by
  obtain ⟨h1, h2, h3, h4⟩ := h
  refine ⟨by rw [e1]; exact h1, h2, by rw [e4]; exact h3, fun i hi => ?_⟩
  rw [e5, e2, e3]; exact h4 i hi
theorem SE.go (h : SE kn nt k1 u0 v u2 M L t s) (hk : 194 ≤ k1) (hF : FRe v v1) (hN : FNm k1 u2 u3 t t1) (hS : SStp v v1 s c) (hl : c.length ≤ t1 - t) (ht : t ≤ t1) : SE kn nt k1 u0 v1 u3 M L t1 (s + c.length) := by
  obtain ⟨h1, h2, h3, h4, ⟨h5, h6, h7⟩, h8⟩ := h
  have f : ∀ p, p ≠ k1 + 4 → u3 p = u2 p := hN.1
  refine ⟨hS.1, by omega, h3.fr (hF 55 (by omega) (by omega) (by omega) (by omega) (by omega)) (hF 57 (by omega) (by omega) (by omega) (by omega) (by omega)) (hF 11 (by omega) (by omega) (by omega) (by omega) (by omega)) (f _ (by omega)) (f _ (by omega)),
    h4.fr (hF 58 (by omega) (by omega) (by omega) (by omega) (by omega)) (hF 60 (by omega) (by omega) (by omega) (by omega) (by omega)) (hF 11 (by omega) (by omega) (by omega) (by omega) (by omega)) (f _ (by omega)) (f _ (by omega)),
    ⟨by rw [f _ (by omega)]; exact h5, by rw [f _ (by omega)]; exact h6, by rw [f _ (by omega)]; exact h7⟩, fun i hi => by rw [f _ (by omega)]; exact h8 i hi⟩
theorem FNm.tr (h : FNm k1 u2 u3 t t1) (h2 : FNm k1 u3 u4 t1 t2) (h3 : t ≤ t1) (h4 : t1 ≤ t2) : FNm k1 u2 u4 t t2 := ⟨fun p a => (h2.1 p a).trans (h.1 p a), fun i hi => (h2.2 i (by omega)).trans (h.2 i (by omega))⟩
theorem FNm.refl' : FNm k1 u2 u2 t t1 := ⟨fun _ _ => rfl, fun _ _ => rfl⟩
theorem AL.to (h : AL kn nt k1 sp z u0 v us t d) (hk : 194 ≤ k1) (hF : FRe v v1) (hS : FS us us1) (h6 : v1 12 6 = nI t1) (h7 : ¬ v1 12 7 = 1) (ht : t1 ≤ nt) (h4 : us1 149 4 = nI t1) {d1 : Nat} (h5 : us1 149 5 = nI d1) : AL kn nt k1 sp z u0 v1 us1 t1 d1 := by
  obtain ⟨-, -, -, -, -, a1, a2, a3, a4, a5⟩ := h
  refine ⟨h6, h7, ht, h4, h5, ?_, ?_, ?_, ?_, a5.fr (hF 11 (by omega) (by omega) (by omega) (by omega) (by omega))⟩
  · rw [hF 5 (by omega) (by omega) (by omega) (by omega) (by omega)]; exact a1
  · rw [hS.1 _ (by omega)]; exact a2
  · rw [hF 55 (by omega) (by omega) (by omega) (by omega) (by omega)]; exact a3
  · rw [hF 58 (by omega) (by omega) (by omega) (by omega) (by omega)]; exact a4
/-- one behind the other -/
theorem Out.seq {A : Option Va} {B : Option (Bool × Va)} {A' : Va → Option Va} {B' : Va → Option (Bool × Va)} {D1 D2 : Nat → Prop} {C1 : (Nat → Int32) → Nat → Nat → Nat → List Ste → Prop} {C2 : Nat → (Nat → Int32) → Nat → Nat → Nat → List Ste → Prop}
    (G : GH kn nt k1 z) (hA : AL kn nt k1 sp z u0 v us t d) (h1 : Out kn nt k1 sp z u0 v us t d A B D1 C1)
    (h2 : ∀ v1 us1 t1, AL kn nt k1 sp z u0 v1 us1 t1 d → t ≤ t1 → D1 t1 → Out kn nt k1 sp z u0 v1 us1 t1 d (A' v1) (B' us1) D2 (C2 t1)) (hD : Dead A') :
    Out kn nt k1 sp z u0 v us t d (A.bind A') (sq B B') (fun t' => D2 t' ∧ ∃ t1, D1 t1 ∧ t ≤ t1 ∧ t1 ≤ t') (fun mn M L t' c => ∃ t1 c1 c2, t ≤ t1 ∧ t1 ≤ t' ∧ D1 t1 ∧ c = c1 ++ c2 ∧ C1 mn M L t1 c1 ∧ C2 t1 mn M L t' c2) := by
  obtain ⟨v1, b, us1, t1, a1, a2, a3, a4, a5, a6, a7, a8, a9⟩ := h1
  rw [a1, a2, ob]
  cases b
  · obtain ⟨x1, x2⟩ := a8 rfl
    obtain ⟨v2, y1, y2, y3⟩ := hD v1 x1
    exact ⟨v2, false, us1, t1, y1, sq_f, a3.tr y3, a4, a5, a6, a7, fun _ => by rw [y2]; exact ⟨x1, x2⟩, fun q => by cases q⟩
  · obtain ⟨x0, x1, x2, x3, x4, x5⟩ := a9 rfl
    obtain ⟨v2, b2, us2, t2, b1, b2', b3, b4, b5, b6, b7, b8, b9⟩ := h2 v1 us1 t1 (hA.to G.2.2.2.2.1 a3 a4 x2 x3 a7 a5 x1) a6 x0
    refine ⟨v2, b2, us2, t2, b1, by rw [sq_t]; exact b2', a3.tr b3, a4.tr b4, b5, by omega, b7, b8, fun hb => ?_⟩
    obtain ⟨y0, y1, y2, y3, y4, y5⟩ := b9 hb
    refine ⟨⟨y0, t1, x0, a6, b6⟩, y1, y2, y3, fun h0 => ?_, fun h0 M L s u2 hS => ?_⟩
    · obtain ⟨p1, p2⟩ := x4 h0
      obtain ⟨p3, p4⟩ := y4 (by rw [p1]; exact h0)
      exact ⟨p3.trans p1, p4.trans p2⟩
    · obtain ⟨e, k, u3, q1, q2, q3⟩ := x5 h0 M L s u2 hS
      have hf : fold2 z sp k1 (t2 - t) t u2 = (some (e, k, u3)).bind fun q => if q.1 = 0 then fold2 z sp k1 (t2 - t1) (t + (t1 - t)) q.2.2 else some q := by
        rw [show t2 - t = (t1 - t) + (t2 - t1) by omega, fold2_app, q1]
      rw [ob, show t + (t1 - t) = t1 by omega] at hf
      by_cases he : e = 0
      · rw [if_pos he] at hf
        obtain ⟨p1, p2, c1, p3, p4, p5⟩ := q3 he
        obtain ⟨e', k', u4, r1, r2, r3⟩ := y5 p1 M L (s + c1.length) u3 (hS.go G.2.2.2.2.1 a3 p2 p3 p4 a6)
        refine ⟨e', k', u4, hf.trans r1, r2, fun he' => ?_⟩
        obtain ⟨w1, w2, c2, w3, w4, w5⟩ := r3 he'
        refine ⟨w1, p2.tr w2 a6 b6, c1 ++ c2, p3.tr w3, by rw [List.length_append]; omega, fun mn hmn => ⟨t1, c1, c2, a6, b6, x0, rfl, p5 mn fun i hi => ?_, w5 mn hmn⟩⟩
        rw [hmn i (by omega)]
        exact w2.2 i (Or.inl hi)
      · rw [if_neg he] at hf
        obtain ⟨p1, p2⟩ := q2 he
        obtain ⟨p3, p4⟩ := y4 (by rw [p1]; exact he)
        exact ⟨e, k, u3, hf, fun _ => ⟨p3.trans p1, p4.trans p2⟩, fun q => absurd q he⟩
theorem Out.map {A : Option Va} {B : Option (Bool × Va)} {D D' : Nat → Prop} {C C' : (Nat → Int32) → Nat → Nat → Nat → List Ste → Prop} (h : Out kn nt k1 sp z u0 v us t d A B D C) (h1 : ∀ t', D t' → D' t') (h2 : ∀ mn M L t' c, M ≤ 6 → L ≤ 10 → t ≤ t' → t' ≤ nt → D t' → C mn M L t' c → C' mn M L t' c) : Out kn nt k1 sp z u0 v us t d A B D' C' := by
  obtain ⟨v1, b, us1, t1, a1, a2, a3, a4, a5, a6, a7, a8, a9⟩ := h
  refine ⟨v1, b, us1, t1, a1, a2, a3, a4, a5, a6, a7, a8, fun hb => ?_⟩
  obtain ⟨x0, x1, x2, x3, x4, x5⟩ := a9 hb
  refine ⟨h1 _ x0, x1, x2, x3, x4, fun h0 M L s u2 hS => ?_⟩
  obtain ⟨e, k, u3, q1, q2, q3⟩ := x5 h0 M L s u2 hS
  refine ⟨e, k, u3, q1, q2, fun he => ?_⟩
  obtain ⟨p1, p2, c, p3, p4, p5⟩ := q3 he
  exact ⟨p1, p2, c, p3, p4, fun mn hmn => h2 mn M L t1 c hS.2.2.1.2.1 hS.2.2.2.1.2.1 a6 a7 x0 (p5 mn hmn)⟩
/-- a token of which nothing is asked is passed -/
def plain (n : Nat) : Prop := n ≤ 46 ∧ n ≠ 12 ∧ n ≠ 14 ∧ n ≠ 16 ∧ n ≠ 17 ∧ n ≠ 18
theorem Out.tok (G : GH kn nt k1 z) (hA : AL kn nt k1 sp z u0 v us t d) (hp : plain (kn t)) : t + 1 ≤ nt ∧ AL kn nt k1 sp z u0 (Nx v (t + 1)) (Tk us (t + 1)) (t + 1) d ∧ ∀ {A : Option Va} {B : Option (Bool × Va)} {D : Nat → Prop} {C : (Nat → Int32) → Nat → Nat → Nat → List Ste → Prop}, Out kn nt k1 sp z u0 (Nx v (t + 1)) (Tk us (t + 1)) (t + 1) d A B D C → Out kn nt k1 sp z u0 v us t d A B D C := by
  obtain ⟨g1, g2, g3, g4, g5, g6⟩ := G
  have hA' := hA
  obtain ⟨l1, l2, l3, l4, l5, l6, l7, l8, l9, l10⟩ := hA
  have ht : t < nt := by
    rcases Nat.lt_or_ge t nt with h | h
    · exact h
    · have : t = nt := by omega
      subst this
      have := hp.1; omega
  refine ⟨ht, hA'.to g5 FRe.nx FS.tk Nx_6 (by rw [Nx_7]; exact l2) ht Tk_4 (by rw [Tk_5]; exact l5), fun {A B D C} h => ?_⟩
  obtain ⟨v1, b, us1, t1, a1, a2, a3, a4, a5, a6, a7, a8, a9⟩ := h
  refine ⟨v1, b, us1, t1, a1, a2, FRe.nx.tr a3, FS.tk.tr a4, a5, by omega, a7, a8, fun hb => ?_⟩
  obtain ⟨x0, x1, x2, x3, x4, x5⟩ := a9 hb
  rw [Nx_7, Nx_8] at x4
  rw [Nx_7] at x5
  refine ⟨x0, x1, x2, x3, x4, fun h0 M L s u2 hS => ?_⟩
  have hne : ∀ p, p ≠ 12 → (Nx v (t + 1)) p = v p := fun p hp => by unfold Nx pu; rw [up_ne hp]
  obtain ⟨s1, s2, s3, s4, s5, s6⟩ := hS
  have hS' : SE kn nt k1 u0 (Nx v (t + 1)) u2 M L (t + 1) s := ⟨by rw [hne 42 (by omega)]; exact s1, by omega, s3.fr (hne 55 (by omega)) (hne 57 (by omega)) (hne 11 (by omega)) rfl rfl, s4.fr (hne 58 (by omega)) (hne 60 (by omega)) (hne 11 (by omega)) rfl rfl, s5, s6⟩
  obtain ⟨e, k, u3, q1, q2, q3⟩ := x5 h0 M L s u2 hS'
  have he1 := err_no (z := z) (sp := sp) (u := u2) (k1 := k1) (n := kn t) (by omega) (s6 t l3) (g2 t l3) ⟨hp.2.1, hp.2.2.1, hp.2.2.2.1, hp.2.2.2.2.1, hp.2.2.2.2.2, by have := hp.1; omega, by have := hp.1; omega⟩
  refine ⟨e, k, u3, ?_, q2, fun he => ?_⟩
  · rw [show t1 - t = 1 + (t1 - (t + 1)) by omega, fold2_app, fold2_1 he1, ob, if_pos rfl]
    exact q1
  · obtain ⟨p1, p2, c, p3, p4, p5⟩ := q3 he
    refine ⟨p1, ⟨p2.1, fun i hi => p2.2 i (by omega)⟩, c, p3.from ⟨hne _ (by omega), hne _ (by omega), hne _ (by omega), hne _ (by omega)⟩, by omega, p5⟩
/-- a level down, and up again -/
theorem Out.wrap (G : GH kn nt k1 z) (hA : AL kn nt k1 sp z u0 v us t d) (hp : plain (kn t)) : t + 1 ≤ nt ∧ AL kn nt k1 sp z u0 (Nx v (t + 1)) (Tk (Dp us (d + 1)) (t + 1)) (t + 1) (d + 1) ∧ ∀ {A : Option Va} {B : Option (Bool × Va)} {D : Nat → Prop} {C : (Nat → Int32) → Nat → Nat → Nat → List Ste → Prop}, Out kn nt k1 sp z u0 (Nx v (t + 1)) (Tk (Dp us (d + 1)) (t + 1)) (t + 1) (d + 1) A B D C → Out kn nt k1 sp z u0 v us t d A (sq B up1) D C := by
  have hA' := hA
  obtain ⟨l1, l2, l3, l4, l5, l6, l7, l8, l9, l10⟩ := hA
  obtain ⟨ht, hAL, hT⟩ := Out.tok G hA' hp
  refine ⟨ht, hA'.to G.2.2.2.2.1 FRe.nx (FS.dp.tr FS.tk) Nx_6 (by rw [Nx_7]; exact l2) ht Tk_4 (by rw [Tk_5, Dp_5]), fun {A B D C} h => hT ?_⟩
  obtain ⟨v1, b, us1, t1, a1, a2, a3, a4, a5, a6, a7, a8, a9⟩ := h
  have hFS : FS (Tk us (t + 1)) us1 := by
    refine ⟨fun p hp => ?_, fun j h4 h5 => ?_⟩
    · rw [a4.1 p hp]; unfold Tk Dp pu; rw [up_ne hp, up_ne hp, up_ne hp]
    · rw [a4.2 j h4 h5]; unfold Tk Dp pu; rw [up_eq, up_eq, upd_ne h4, up_eq, upd_ne h4, upd_ne h5]
  cases b
  · rw [a2]
    exact ⟨v1, false, us1, t1, a1, sq_f, a3, hFS, a5, a6, a7, a8, fun q => by cases q⟩
  · obtain ⟨x0, x1, x2, x3, x4, x5⟩ := a9 rfl
    rw [a2]
    have e1 : us1 149 5 - 1 = nI d := by rw [x1]; exact ni_sub1
    refine ⟨v1, true, Dp us1 d, t1, a1, by rw [sq_t]; unfold up1; rw [bd, e1], a3, hFS.tr FS.dp, by rw [Dp_4]; exact a5, a6, a7, fun q => (by cases q), fun _ => ⟨x0, Dp_5, x2, x3, x4, x5⟩⟩
/-- the token that was due isn't there -/
theorem Out.bad {A : Option Va} {B : Option (Bool × Va)} {D : Nat → Prop} {C : (Nat → Int32) → Nat → Nat → Nat → List Ste → Prop} (hA : AL kn nt k1 sp z u0 v us t d) (a : A = some (Fl v t)) (b : B = some (false, us)) : Out kn nt k1 sp z u0 v us t d A B D C :=
  ⟨Fl v t, false, us, t, a, b, FRe.fl, FS.refl', hA.2.2.2.1, Nat.le_refl _, hA.2.2.1, fun _ => ⟨Fl_7, Fl_8⟩, fun q => by cases q⟩
/-- nothing is read -/
theorem Out.nil {D : Nat → Prop} {C : (Nat → Int32) → Nat → Nat → Nat → List Ste → Prop} (hA : AL kn nt k1 sp z u0 v us t d) (hD : D t) (hC : ∀ mn M L, C mn M L t []) : Out kn nt k1 sp z u0 v us t d (some v) (some (true, us)) D C :=
  ⟨v, true, us, t, rfl, rfl, fun _ _ _ _ _ _ => rfl, FS.refl', hA.2.2.2.1, Nat.le_refl _, hA.2.2.1, fun q => (by cases q), fun _ => ⟨hD, hA.2.2.2.2.1, hA.1, hA.2.1, fun _ => ⟨rfl, rfl⟩, fun h0 M L s u2 hS => ⟨0, t, u2, by rw [Nat.sub_self]; rfl, fun q => absurd rfl q, fun _ => ⟨h0, FNm.refl', [], SStp.refl' hS.1, Nat.zero_le _, fun mn _ => hC mn M L⟩⟩⟩⟩
theorem add_any (a b e : Int32) : ∃ v1, f_Steps_add v 42 a b e = some v1 ∧ FRe v v1 ∧ v1 12 = v 12 ∧ ∀ s, v 42 0 = nI s → s < 400 → SStp v v1 s [(a, b, e)] := by
  unfold f_Steps_add
  simp only [bd, Nat.reduceAdd]
  refine ⟨_, rfl, fun p h1 h2 h3 h4 h5 => ?_, ?_, fun s hs hl => ?_⟩
  · unfold pu
    rw [up_ne h2, up_ne h5, up_ne h4, up_ne h3]
  · unfold pu
    simp (disch := omega) only [up_ne]
  · have q : ∀ f : Nat → Int32, ∀ x : Int32, row_s 400 f (nI s) x = upd f s x := fun f x => rs hl (by omega)
    simp (disch := omega) only [up_ne, hs, q, ni_s]
    refine ⟨?_, fun i hi => ?_, ?_⟩
    · unfold pu
      rw [up_eq, upd_eq]; rfl
    · unfold pu
      simp (disch := omega) only [up_ne, up_eq, upd_ne]
      exact ⟨trivial, trivial, trivial⟩
    · show [(_, _, _)] = _
      unfold pu
      simp (disch := omega) only [up_ne, up_eq, upd_eq]
/-- a step is added behind what was read -/
theorem Out.add {D : Nat → Prop} {C : (Nat → Int32) → Nat → Nat → Nat → List Ste → Prop} {A : Option Va} {B : Option (Bool × Va)} {a b e : Int32} (G : GH kn nt k1 z) (h : Out kn nt k1 sp z u0 v us t d A B D C) (hlt : ∀ mn M L t' c, M ≤ 6 → L ≤ 10 → D t' → C mn M L t' c → c.length + 1 ≤ t' - t) :
    Out kn nt k1 sp z u0 v us t d (A.bind fun q => (f_Steps_add q 42 a b e).bind fun q' => some q') B D (fun mn M L t' c => ∃ c1, c = c1 ++ [(a, b, e)] ∧ C mn M L t' c1) := by
  obtain ⟨v1, b', us1, t1, a1, a2, a3, a4, a5, a6, a7, a8, a9⟩ := h
  obtain ⟨v2, b1, b2, b3, b4⟩ := add_any (v := v1) a b e
  refine ⟨v2, b', us1, t1, by rw [a1, ob, b1, ob], a2, a3.tr b2, a4, a5, a6, a7, fun q => by rw [b3]; exact a8 q, fun hb => ?_⟩
  obtain ⟨x0, x1, x2, x3, x4, x5⟩ := a9 hb
  rw [b3]
  refine ⟨x0, x1, x2, x3, x4, fun h0 M L s u2 hS => ?_⟩
  obtain ⟨e', k, u3, q1, q2, q3⟩ := x5 h0 M L s u2 hS
  refine ⟨e', k, u3, q1, q2, fun he => ?_⟩
  obtain ⟨p1, p2, c, p3, p4, p5⟩ := q3 he
  have hc := hlt (u3 (k1 + 4)) M L t1 c hS.2.2.1.2.1 hS.2.2.2.1.2.1 x0 (p5 _ (fun _ _ => rfl))
  have g1 := G.1
  have hs := hS.2.1
  refine ⟨p1, p2, c ++ [(a, b, e)], p3.tr (b4 _ p3.1 (by omega)), by rw [List.length_append]; exact hc, fun mn hmn => ⟨c, rfl, p5 mn hmn⟩⟩
theorem Dead.add {a b e : Int32} : Dead (fun q => (f_Steps_add q 42 a b e).bind fun q' => some q') := fun v h => by
  obtain ⟨v1, b1, b2, b3, -⟩ := add_any (v := v) a b e
  exact ⟨v1, by show (f_Steps_add v 42 a b e).bind _ = _; rw [b1, ob], b3, b2⟩
theorem Dead.seq {A A' : Va → Option Va} (h : Dead A) (h' : Dead A') : Dead (fun v => (A v).bind A') := fun v hv => by
  obtain ⟨v1, a1, a2, a3⟩ := h v hv
  obtain ⟨v2, b1, b2, b3⟩ := h' v1 (by rw [a2]; exact hv)
  exact ⟨v2, by show (A v).bind A' = _; rw [a1, ob, b1], b2.trans a2, a3.tr b3⟩
theorem Dead.take {a : Int32} (h : ¬ (50 : Int32) = a) : Dead (fun v => f_Reader_take v a) := fun v hv => ⟨v, take_d hv h, rfl, fun _ _ _ _ _ _ => rfl⟩
/-- a token that is due -/
theorem Out.take (G : GH kn nt k1 z) (hA : AL kn nt k1 sp z u0 v us t d) {n : Nat} (hn : plain n) : Out kn nt k1 sp z u0 v us t d (f_Reader_take v (nI n)) (f_Model_eat us sp k1 (nI (kmap n))) (fun t' => t' = t + 1 ∧ kn t = n) (fun _ _ _ _ c => c = []) := by
  have hA' := hA
  obtain ⟨l1, l2, l3, l4, l5, l6, l7, l8, l9, l10⟩ := hA
  have g1 := G.1
  have hkn := G.2.1 t l3
  have hn46 := hn.1
  by_cases h : kn t = n
  · obtain ⟨ht, hAL, hT⟩ := Out.tok G hA' (by rw [h]; exact hn)
    rw [← h, take_y l1 l2 (by omega) (l6 t l3), eat_y l4 (by omega) (l7 t l3)]
    exact hT (Out.nil hAL ⟨rfl, rfl⟩ (fun _ _ _ => rfl))
  · exact Out.bad hA' (take_n l1 l2 (by omega) (l6 t l3) (by rw [eq_n (by omega) (by omega)]; exact h)) (eat_n l4 (by omega) (by rw [l7 t l3, kq hkn (by omega)]; exact h))
end
