/-! LINES: spices, guilds, merchants, lots -/
def rbd (N : Nat → Nat) : Nat → Nat := fun q => if q = 0 then N 0 else if q ≤ 2 then N 1 else if q ≤ 4 then N 2 else if q ≤ 7 then N 3 else 0
theorem rbd_8 {N : Nat → Nat} {x : Nat} (h : 8 ≤ x) : rbd N x = 0 := by
  unfold rbd
  rw [if_neg (by omega), if_neg (by omega), if_neg (by omega), if_neg (by omega)]
theorem to_8 (x : Nat) : x = 0 ∨ x = 1 ∨ x = 2 ∨ x = 3 ∨ x = 4 ∨ x = 5 ∨ x = 6 ∨ x = 7 ∨ 8 ≤ x := by omega
theorem rbd_0 (N : Nat → Nat) : upn (rbd N) 0 ((rbd N) 0 + 1) = rbd (upn N 0 (N 0 + 1)) := by
  funext x
  rcases to_8 x with rfl | rfl | rfl | rfl | rfl | rfl | rfl | rfl | h
  · rfl
  · rfl
  · rfl
  · rfl
  · rfl
  · rfl
  · rfl
  · rfl
  · rw [upn_ne (by omega), rbd_8 h, rbd_8 h]
theorem rbd_1 (N : Nat → Nat) : upn (upn (rbd N) 1 ((rbd N) 1 + 1)) 2 ((upn (rbd N) 1 ((rbd N) 1 + 1)) 2 + 1) = rbd (upn N 1 (N 1 + 1)) := by
  funext x
  rcases to_8 x with rfl | rfl | rfl | rfl | rfl | rfl | rfl | rfl | h
  · rfl
  · rfl
  · rfl
  · rfl
  · rfl
  · rfl
  · rfl
  · rfl
  · rw [upn_ne (by omega), upn_ne (by omega), rbd_8 h, rbd_8 h]
theorem rbd_2 (N : Nat → Nat) : upn (upn (rbd N) 3 ((rbd N) 3 + 1)) 4 ((upn (rbd N) 3 ((rbd N) 3 + 1)) 4 + 1) = rbd (upn N 2 (N 2 + 1)) := by
  funext x
  rcases to_8 x with rfl | rfl | rfl | rfl | rfl | rfl | rfl | rfl | h
  · rfl
  · rfl
  · rfl
  · rfl
  · rfl
  · rfl
  · rfl
  · rfl
  · rw [upn_ne (by omega), upn_ne (by omega), rbd_8 h, rbd_8 h]
theorem rbd_3 (N : Nat → Nat) : upn (upn (upn (rbd N) 5 ((rbd N) 5 + 1)) 6 ((upn (rbd N) 5 ((rbd N) 5 + 1)) 6 + 1)) 7 ((upn (upn (rbd N) 5 ((rbd N) 5 + 1)) 6 ((upn (rbd N) 5 ((rbd N) 5 + 1)) 6 + 1)) 7 + 1) = rbd (upn N 3 (N 3 + 1)) := by
  funext x
  rcases to_8 x with rfl | rfl | rfl | rfl | rfl | rfl | rfl | rfl | h
  · rfl
  · rfl
  · rfl
  · rfl
  · rfl
  · rfl
  · rfl
  · rfl
  · rw [upn_ne (by omega), upn_ne (by omega), upn_ne (by omega), rbd_8 h, rbd_8 h]
def SX (kn : Nat → Nat) (nt k1 : Nat) (u0 v u : Va) (t : Nat) (X : (Nat → Nat) → (Nat → Nat) → Nat → Nat → Nat → Prop) : Prop := ∃ N n O Om s, Shx kn nt k1 u0 v u t N n O Om s ∧ X N n O Om s
def X0 (N n : Nat → Nat) (O Om _s : Nat) : Prop := n = rbd N ∧ O = Om
section
variable {α β γ : Type} {pa : α → Va} {pb : β → Va} {pc : γ → Va} {kn : Nat → Nat} {nt k1 sp z : Nat} {u0 v v1 u us us1 : Va} {t t1 : Nat} {P P' : Va → Prop} {D D' D1 D2 : Nat → Prop} {X : (Nat → Nat) → (Nat → Nat) → Nat → Nat → Nat → Prop}
theorem DeadL.seq2 {A : α → Option β} {A' : α → β → Option γ} (h : DeadL pa pb A) (h' : ∀ a, DeadL pb pc (A' a)) : DeadL pa pc (fun a => (A a).bind (A' a)) := fun a ha => by
  obtain ⟨b, x1, x2, x3⟩ := h a ha
  obtain ⟨c, y1, y2, y3⟩ := h' a b (by rw [x2]; exact ha)
  exact ⟨c, by show (A a).bind (A' a) = _; rw [x1, ob, y1], y2.trans x2, x3.tr y3⟩
theorem OutL.post {A : Option α} {B : Option (Bool × Va)} {f : α → β} {Q : α → Va → Nat → Prop} {Q' : β → Va → Nat → Prop} (h : OutL pa kn nt k1 sp z v us t A B P D Q) (hf : ∀ a, pb (f a) 12 = pa a 12 ∧ FRl (pa a) (pb (f a)) ∧ (CB (pa a) → CB (pb (f a)))) (hQ : ∀ a u t', t ≤ t' → t' ≤ nt → D t' → Q a u t' → Q' (f a) u t') : OutL pb kn nt k1 sp z v us t (A.bind fun a => some (f a)) B P D Q' := by
  obtain ⟨a, b, us1, t1, a1, a2, a3, a4, a5, a6, a7, a8, a9⟩ := h
  obtain ⟨f1, f2, f3⟩ := hf a
  refine ⟨f a, b, us1, t1, by rw [a1, ob], a2, a3.tr f2, a4, a5, a6, a7, fun q => by rw [f1]; exact a8 q, fun hb => ?_⟩
  obtain ⟨x0, x1, x2, x3, xc, x4, x5⟩ := a9 hb
  rw [f1]
  refine ⟨x0, x1, x2, x3, f3 xc, x4, fun h0 u2 hP => ?_⟩
  obtain ⟨e, k, u3, q1, q2, q3⟩ := x5 h0 u2 hP
  exact ⟨e, k, u3, q1, q2, fun he => ⟨(q3 he).1, hQ _ _ _ a6 a7 x0 (q3 he).2⟩⟩
theorem DeadL.post {A : α → Option β} {f : α → β → γ} (h : DeadL pa pb A) (hf : ∀ x a, pc (f x a) 12 = pb a 12 ∧ FRl (pb a) (pc (f x a))) : DeadL pa pc (fun a => (A a).bind fun b => some (f a b)) := fun a ha => by
  obtain ⟨b, x1, x2, x3⟩ := h a ha
  exact ⟨f a b, by show (A a).bind _ = _; rw [x1, ob], (hf a b).1.trans x2, x3.tr (hf a b).2⟩
/-- a row is written -/
theorem wr_ok {p : Nat} {f : Nat → Int32} (h : 15 ≤ p ∧ p ≤ 41) : (up v p f) 12 = v 12 ∧ FRl v (up v p f) ∧ (CB v → CB (up v p f)) :=
  ⟨up_ne (by omega), FRl.of fun q hq => up_ne (by omega), fun hc => hc.fr ⟨up_ne (by omega), up_ne (by omega), up_ne (by omega), up_ne (by omega), up_ne (by omega)⟩⟩
theorem SX.map {Y : (Nat → Nat) → (Nat → Nat) → Nat → Nat → Nat → Prop} (h : SX kn nt k1 u0 v u t X) (hY : ∀ N n O Om s, X N n O Om s → Y N n O Om s) : SX kn nt k1 u0 v u t Y := by
  obtain ⟨N, n, O, Om, s, h1, h2⟩ := h
  exact ⟨N, n, O, Om, s, h1, hY _ _ _ _ _ h2⟩
theorem SX.ek (h : SX kn nt k1 u0 v u t X) : EK kn nt k1 u0 u := by
  obtain ⟨N, n, O, Om, s, h1, h2⟩ := h
  exact h1.2.2.1
/-- a token -/
theorem OutL.tk (G : GH kn nt k1 z) (hA : ALL kn nt k1 sp z u0 v us t) {n : Nat} (hn : plain n) : OutL id kn nt k1 sp z v us t (f_Reader_take v (nI n)) (f_Model_eat us sp k1 (nI (kmap n))) (fun u => SX kn nt k1 u0 v u t X) (fun t' => t' = t + 1 ∧ kn t = n) (fun a u t' => SX kn nt k1 u0 a u t' X) :=
  (OutL.take G hA hn (fun u h => h.ek)).map (fun _ h => h) (fun _ h => h) (fun a u t' h1 _ _ hQ => by
    obtain ⟨⟨N, n, O, Om, s, h1', h2⟩, rfl⟩ := hQ
    exact ⟨N, n, O, Om, s, h1'.nx (fun p hp => by unfold Nx pu; rw [up_ne hp]) h1, h2⟩)
/-- a new name -/
theorem OutL.nw {i x k N' : Nat} (G : GH kn nt k1 z) (hA : ALL kn nt k1 sp z u0 v us (t + 1)) (hp : kn t = x) (hx : i = 0 ∧ x = 0 ∧ k = 49 ∧ N' = 4 ∨ i = 1 ∧ x = 2 ∧ k = 52 ∧ N' = 4 ∨ i = 2 ∧ x = 5 ∧ k = 55 ∧ N' = 6 ∨ i = 3 ∧ x = 8 ∧ k = 58 ∧ N' = 10) :
    OutL Prod.snd kn nt k1 sp z v us (t + 1) (f_Reader_takeNewName z v k N') (f_Model_eat us sp k1 35) (fun u => SX kn nt k1 u0 v u (t + 1) X) (fun t' => t' = t + 2 ∧ kn (t + 1) = 47) (fun a u t' => SX kn nt k1 u0 a.2 u t' (fun N n O Om s => ∃ N0, a.1 = nI (N0 i) ∧ N0 i < N' ∧ X N0 n O Om s ∧ N = upn N0 i (N0 i + 1))) := by
  have hi : i < 4 ∧ k = 49 + 3 * i ∧ N' = nmN i := by rcases hx with ⟨rfl, -, rfl, rfl⟩ | ⟨rfl, -, rfl, rfl⟩ | ⟨rfl, -, rfl, rfl⟩ | ⟨rfl, -, rfl, rfl⟩ <;> exact ⟨by omega, rfl, rfl⟩
  obtain ⟨hi, hk, hN⟩ := hi
  refine (OutL.new (ka := k1 + nmK i) (cc := nmC i) G hA hp ?_ (fun u h => ?_)).map (fun _ h => h) (fun _ h => h) (fun a u t' h1 hnt hD hQ => ?_)
  · rcases hx with ⟨rfl, rfl, rfl, rfl⟩ | ⟨rfl, rfl, rfl, rfl⟩ | ⟨rfl, rfl, rfl, rfl⟩ | ⟨rfl, rfl, rfl, rfl⟩
    · exact Or.inl ⟨rfl, rfl, rfl, rfl, rfl⟩
    · exact Or.inr (Or.inl ⟨rfl, rfl, rfl, rfl, rfl⟩)
    · exact Or.inr (Or.inr (Or.inl ⟨rfl, rfl, rfl, rfl, rfl⟩))
    · exact Or.inr (Or.inr (Or.inr ⟨rfl, rfl, rfl, rfl, rfl⟩))
  · obtain ⟨N, n, O, Om, s, h1, h2⟩ := h
    refine ⟨h1.2.2.1, N i, ?_⟩
    rw [hk, hN]
    exact h1.2.1 i hi
  · obtain ⟨u2, m, ⟨N, n, O, Om, s, h1', h2⟩, hm, hmN, rfl, rfl⟩ := hQ
    have nk := nm_lt hi
    have hmm : m = N i := by
      have r := h1'.2.1 i hi
      have := r.1
      rw [← hk, hm, eq_n (by omega) (by have := r.2.1; omega)] at this
      exact this
    subst hmm
    obtain ⟨rfl, h47⟩ := hD
    rw [hk]
    exact ⟨_, n, O, Om, s, h1'.new hi (by omega) h47 (by omega) G.2.2.2.2.1, N, rfl, hmN, h2, rfl⟩
/-- a number, and its row -/
theorem OutL.nmw {i j x cap p : Nat} {lo hi r : Int32} (G : GH kn nt k1 z) (hA : ALL kn nt k1 sp z u0 v us (t + 1)) (hp : kn t = x) (hx : x = 1 ∧ j = 0 ∧ i = 0 ∧ cap = 4 ∧ lo = 0 ∧ hi = 9 ∨ x = 3 ∧ j = 1 ∧ i = 1 ∧ cap = 4 ∧ lo = 0 ∧ hi = 99 ∨ x = 4 ∧ j = 2 ∧ i = 1 ∧ cap = 4 ∧ lo = 0 ∧ hi = 20 ∨ x = 6 ∧ j = 3 ∧ i = 2 ∧ cap = 6 ∧ lo = 0 ∧ hi = 9999 ∨ x = 7 ∧ j = 4 ∧ i = 2 ∧ cap = 6 ∧ lo = 0 ∧ hi = 9999 ∨ x = 10 ∧ j = 6 ∧ i = 3 ∧ cap = 10 ∧ lo = 1 ∧ hi = 90) (hpj : p = 15 + 2 * j)
    (hX : ∀ N n O Om s, X N n O Om s → ∃ c, r = nI c ∧ n j = c ∧ N i = c + 1 ∧ c < cap) :
    OutL id kn nt k1 sp z v us (t + 1) ((f_Reader_takeNumber v lo hi).bind fun q => some (up q.2 p (row_s cap (q.2 p) r q.1))) (f_Model_eat us sp k1 36) (fun u => SX kn nt k1 u0 v u (t + 1) X) (fun t' => t' = t + 2 ∧ kn (t + 1) = 48) (fun a u t' => SX kn nt k1 u0 a u t' (fun N n O Om s => ∃ n0, X N n0 O Om s ∧ n = upn n0 j (n0 j + 1))) := by
  have hj : i < 4 ∧ j < 8 ∧ cap ≤ 10 ∧ ∀ N y, (¬ y < lo) → (¬ hi < y) → rB j N y := by
    rcases hx with ⟨-, rfl, rfl, rfl, rfl, rfl⟩ | ⟨-, rfl, rfl, rfl, rfl, rfl⟩ | ⟨-, rfl, rfl, rfl, rfl, rfl⟩ | ⟨-, rfl, rfl, rfl, rfl, rfl⟩ | ⟨-, rfl, rfl, rfl, rfl, rfl⟩ | ⟨-, rfl, rfl, rfl, rfl, rfl⟩ <;> exact ⟨by omega, by omega, by omega, fun N y a b => ⟨a, b⟩⟩
  obtain ⟨hi4, hj, hcap, hB⟩ := hj
  refine (OutL.num (rw' := rm j) (cc := nmC i) (N := cap) (P := fun u => SX kn nt k1 u0 v u (t + 1) X) G hA hp ?_ (fun u h => ?_)).post (fun a => wr_ok (by omega)) (fun a u t' h1 hnt hD hQ => ?_)
  · rcases hx with ⟨rfl, rfl, rfl, rfl, rfl, rfl⟩ | ⟨rfl, rfl, rfl, rfl, rfl, rfl⟩ | ⟨rfl, rfl, rfl, rfl, rfl, rfl⟩ | ⟨rfl, rfl, rfl, rfl, rfl, rfl⟩ | ⟨rfl, rfl, rfl, rfl, rfl, rfl⟩ | ⟨rfl, rfl, rfl, rfl, rfl, rfl⟩
    · exact Or.inl ⟨rfl, rfl, rfl, rfl, rfl, rfl⟩
    · exact Or.inr (Or.inl ⟨rfl, rfl, rfl, rfl, rfl, rfl⟩)
    · exact Or.inr (Or.inr (Or.inl ⟨rfl, rfl, rfl, rfl, rfl, rfl⟩))
    · exact Or.inr (Or.inr (Or.inr (Or.inl ⟨rfl, rfl, rfl, rfl, rfl, rfl⟩)))
    · exact Or.inr (Or.inr (Or.inr (Or.inr (Or.inl ⟨rfl, rfl, rfl, rfl, rfl, rfl⟩))))
    · exact Or.inr (Or.inr (Or.inr (Or.inr (Or.inr ⟨rfl, rfl, rfl, rfl, rfl, rfl⟩))))
  · obtain ⟨N, n, O, Om, s, h1, h2⟩ := h
    obtain ⟨c, -, -, e3, e4⟩ := hX _ _ _ _ _ h2
    exact ⟨h1.2.2.1, c, e4, by rw [← e3]; exact (h1.2.1 i hi4).2.2.1⟩
  · obtain ⟨u2, c, y, ⟨N, n, O, Om, s, h1', h2⟩, hc, hcc, q1, q2, rfl, rfl⟩ := hQ
    obtain ⟨c', e1, e2, e3, e4⟩ := hX _ _ _ _ _ h2
    have hcc' : c = c' := by
      have := (h1'.2.1 i hi4).2.2.1
      rw [hcc, e3, eq_n (by omega) (by omega)] at this
      omega
    subst hcc'
    obtain ⟨rfl, h48⟩ := hD
    subst hpj
    refine ⟨N, _, O, Om, s, h1'.row hj e2 (hB N y q1 q2) (fun p h1 h2 => ?_) ?_ G.2.2.2.2.1, n, h2, by rw [e2]⟩
    · simp only [id]
      rw [up_ne h2]; unfold Nx pu; rw [up_ne h1]
    · simp only [id]
      rw [up_eq, e1, rs e4 (by omega)]
      unfold Nx pu; rw [up_ne (by omega)]
/-- a name told ahead, and its row -/
theorem OutL.nnw {i j x k N' p : Nat} {r : Int32} (G : GH kn nt k1 z) (hA : ALL kn nt k1 sp z u0 v us (t + 1)) (hp : kn t = x) (hx : x = 9 ∧ j = 5 ∧ i = 0 ∧ k = 49 ∧ N' = 4 ∨ x = 11 ∧ j = 7 ∧ i = 2 ∧ k = 55 ∧ N' = 6) (hpj : p = 15 + 2 * j)
    (hX : ∀ N n O Om s, X N n O Om s → ∃ c, r = nI c ∧ n j = c ∧ N 3 = c + 1 ∧ c < 10) :
    OutL id kn nt k1 sp z v us (t + 1) ((f_Reader_takeName z v k N').bind fun q => some (up q.2 p (row_s 10 (q.2 p) r q.1))) (f_Model_eat us sp k1 35) (fun u => SX kn nt k1 u0 v u (t + 1) X) (fun t' => t' = t + 2 ∧ kn (t + 1) = 47) (fun a u t' => SX kn nt k1 u0 a u t' (fun N n O Om s => ∃ n0, X N n0 O Om s ∧ n = upn n0 j (n0 j + 1))) := by
  have hj : i < 4 ∧ j < 8 ∧ k = 49 + 3 * i ∧ N' = nmN i ∧ ∀ N y, (∃ m, m < N i ∧ y = nI m) → rB j N y := by
    rcases hx with ⟨-, rfl, rfl, rfl, rfl⟩ | ⟨-, rfl, rfl, rfl, rfl⟩ <;> exact ⟨by omega, by omega, rfl, rfl, fun N y a => a⟩
  obtain ⟨hi4, hj, hk, hN', hB⟩ := hj
  refine (OutL.name (rw' := rm j) (ka := k1 + nmK i) (cc := nmC i) (cw := 15) (N' := 10) (P := fun u => SX kn nt k1 u0 v u (t + 1) X) G hA hp ?_ (fun u h => ?_)).post (fun a => wr_ok (by omega)) (fun a u t' h1 hnt hD hQ => ?_)
  · rcases hx with ⟨rfl, rfl, rfl, rfl, rfl⟩ | ⟨rfl, rfl, rfl, rfl, rfl⟩
    · exact Or.inl ⟨rfl, rfl, rfl, rfl, rfl, rfl, rfl, rfl⟩
    · exact Or.inr (Or.inl ⟨rfl, rfl, rfl, rfl, rfl, rfl, rfl, rfl⟩)
  · obtain ⟨N, n, O, Om, s, h1, h2⟩ := h
    obtain ⟨c, -, -, e3, e4⟩ := hX _ _ _ _ _ h2
    refine ⟨h1.2.2.1, ⟨N i, ?_⟩, c, e4, by rw [← e3]; exact (h1.2.1 3 (by omega)).2.2.1⟩
    rw [hk, hN']; exact h1.2.1 i hi4
  · obtain ⟨u2, m0, m, c, ⟨N, n, O, Om, s, h1', h2⟩, hv2, hm0, hmm, hmN, hc, hcc, rfl, rfl⟩ := hQ
    obtain ⟨c', e1, e2, e3, e4⟩ := hX _ _ _ _ _ h2
    have hcc' : c = c' := by
      have := (h1'.2.1 3 (by omega)).2.2.1
      have h15 : nmC 3 = 15 := rfl
      rw [h15, hcc, e3, eq_n (by omega) (by omega)] at this
      omega
    subst hcc'
    have nk := nm_lt hi4
    have hmi : m0 = N i := by
      have r := h1'.2.1 i hi4
      have := r.2.2.1
      rw [hm0, eq_n (by omega) (by have := r.2.1; omega)] at this
      exact this
    obtain ⟨rfl, h48⟩ := hD
    subst hpj
    refine ⟨N, _, O, Om, s, h1'.row hj e2 (hB N _ ⟨m, by omega, rfl⟩) (fun p h1 h2 => ?_) ?_ G.2.2.2.2.1, n, h2, by rw [e2]⟩
    · simp only [id]
      rw [up_ne h2]; unfold Nx pu; rw [up_ne h1]
    · simp only [id]
      rw [up_eq, e1, rs e4 (by omega)]
      unfold Nx pu; rw [up_ne (by omega)]
end
section
variable {kn : Nat → Nat} {nt k1 sp z : Nat} {u0 v us : Va} {t : Nat}
theorem li_spice (G : GH kn nt k1 z) (hA : ALL kn nt k1 sp z u0 v us t) : OutL id kn nt k1 sp z v us t (f_Reader_spiceLine z v) (sq (f_Model_eat us sp k1 0) fun u => sq (f_Model_eat u sp k1 35) fun u => sq (f_Model_eat u sp k1 1) fun u => f_Model_eat u sp k1 36) (fun u => SX kn nt k1 u0 v u t X0) (fun t' => t < t') (fun a u t' => SX kn nt k1 u0 a u t' X0) := by
  have hk1 := G.2.2.2.2.1
  have hc : f_Reader_spiceLine z v = (f_Reader_take v 0).bind fun q2 => (f_Reader_takeNewName z q2 49 4).bind fun q10 => (f_Reader_take q10.2 1).bind fun w0 => ((f_Reader_takeNumber w0 0 9).bind fun q => some (up q.2 15 (row_s 4 (q.2 15) q10.1 q.1))) := by
    unfold f_Reader_spiceLine
    simp only [bnd, Option.bind_assoc, ob]
  rw [hc]
  refine (OutL.seq (D2 := fun _ => True) hk1 hA (OutL.tk (X := X0) G hA (n := 0) ⟨by omega, by omega, by omega, by omega, by omega, by omega⟩) (fun a1 us1 t1 hA1 _ hD1 => ?_) (DeadL.seq2 (pa := id) (pb := Prod.snd) (DeadL.new (pa := id)) fun _ => (DeadL.seq2 (DeadL.take (by decide)) fun _ => (DeadL.post (pb := Prod.snd) DeadL.num (fun _ _ => ⟨(wr_ok (by omega)).1, (wr_ok (by omega)).2.1⟩))))).map (fun t' hD => by obtain ⟨_, t1, ⟨h1, _⟩, _, h2⟩ := hD; omega) (fun _ h => h) (fun _ _ _ _ _ _ h => h)
  obtain ⟨rfl, hp1⟩ := hD1
  refine (OutL.seq (D2 := fun _ => True) hk1 hA1 (OutL.nw (i := 0) (X := X0) G hA1 hp1 (Or.inl ⟨rfl, rfl, rfl, rfl⟩)) (fun q us2 t2 hA2 _ hD2 => ?_) (DeadL.seq2 (DeadL.take (by decide)) fun _ => (DeadL.post (pb := Prod.snd) DeadL.num (fun _ _ => ⟨(wr_ok (by omega)).1, (wr_ok (by omega)).2.1⟩)))).map (fun _ _ => trivial) (fun _ h => h) (fun _ _ _ _ _ _ h => h)
  obtain ⟨rfl, hp2⟩ := hD2
  refine (OutL.seq (D2 := fun _ => True) hk1 hA2 (OutL.tk (X := (fun N n O Om s => ∃ N0 : Nat → Nat, q.1 = nI (N0 0) ∧ N0 0 < 4 ∧ X0 N0 n O Om s ∧ N = upn N0 0 (N0 0 + 1))) G hA2 (n := 1) ⟨by omega, by omega, by omega, by omega, by omega, by omega⟩) (fun b0 vs0 s0 hB0 _ hE0 => ?_) (DeadL.post (pb := Prod.snd) DeadL.num (fun _ _ => ⟨(wr_ok (by omega)).1, (wr_ok (by omega)).2.1⟩))).map (fun _ _ => trivial) (fun _ h => h) (fun _ _ _ _ _ _ h => h)
  obtain ⟨rfl, he0⟩ := hE0
  refine (OutL.nmw (i := 0) (j := 0) (r := q.1) (X := (fun N n O Om s => ∃ N0 : Nat → Nat, q.1 = nI (N0 0) ∧ N0 0 < 4 ∧ X0 N0 n O Om s ∧ N = upn N0 0 (N0 0 + 1))) G hB0 he0 (Or.inl ⟨rfl, rfl, rfl, rfl, rfl, rfl⟩) rfl (fun N n O Om s h => by
      obtain ⟨N0, e1, e2, ⟨rfl, rfl⟩, rfl⟩ := h
      exact ⟨N0 0, e1, rfl, upn_eq, e2⟩)).map (fun _ _ => trivial) (fun _ h => h) (fun _ _ _ _ _ _ h => h.map fun N n O Om s h => ?_)
  obtain ⟨n0, ⟨N0, e1, e2, ⟨rfl, rfl⟩, rfl⟩, rfl⟩ := h
  refine ⟨?_, rfl⟩
  exact rbd_0 N0
theorem li_guild (G : GH kn nt k1 z) (hA : ALL kn nt k1 sp z u0 v us t) : OutL id kn nt k1 sp z v us t (f_Reader_guildLine z v) (sq (f_Model_eat us sp k1 2) fun u => sq (f_Model_eat u sp k1 35) fun u => sq (f_Model_eat u sp k1 3) fun u => sq (f_Model_eat u sp k1 36) fun u => sq (f_Model_eat u sp k1 4) fun u => f_Model_eat u sp k1 36) (fun u => SX kn nt k1 u0 v u t X0) (fun t' => t < t') (fun a u t' => SX kn nt k1 u0 a u t' X0) := by
  have hk1 := G.2.2.2.2.1
  have hc : f_Reader_guildLine z v = (f_Reader_take v 2).bind fun q2 => (f_Reader_takeNewName z q2 52 4).bind fun q10 => (f_Reader_take q10.2 3).bind fun w0 => ((f_Reader_takeNumber w0 0 99).bind fun q => some (up q.2 17 (row_s 4 (q.2 17) q10.1 q.1))).bind fun x0 => (f_Reader_take x0 4).bind fun w1 => ((f_Reader_takeNumber w1 0 20).bind fun q => some (up q.2 19 (row_s 4 (q.2 19) q10.1 q.1))) := by
    unfold f_Reader_guildLine
    simp only [bnd, Option.bind_assoc, ob]
  rw [hc]
  refine (OutL.seq (D2 := fun _ => True) hk1 hA (OutL.tk (X := X0) G hA (n := 2) ⟨by omega, by omega, by omega, by omega, by omega, by omega⟩) (fun a1 us1 t1 hA1 _ hD1 => ?_) (DeadL.seq2 (pa := id) (pb := Prod.snd) (DeadL.new (pa := id)) fun _ => (DeadL.seq2 (DeadL.take (by decide)) fun _ => DeadL.seq2 (DeadL.post (pb := Prod.snd) DeadL.num (fun _ _ => ⟨(wr_ok (by omega)).1, (wr_ok (by omega)).2.1⟩)) fun _ => (DeadL.seq2 (DeadL.take (by decide)) fun _ => (DeadL.post (pb := Prod.snd) DeadL.num (fun _ _ => ⟨(wr_ok (by omega)).1, (wr_ok (by omega)).2.1⟩)))))).map (fun t' hD => by obtain ⟨_, t1, ⟨h1, _⟩, _, h2⟩ := hD; omega) (fun _ h => h) (fun _ _ _ _ _ _ h => h)
  obtain ⟨rfl, hp1⟩ := hD1
  refine (OutL.seq (D2 := fun _ => True) hk1 hA1 (OutL.nw (i := 1) (X := X0) G hA1 hp1 (Or.inr (Or.inl ⟨rfl, rfl, rfl, rfl⟩))) (fun q us2 t2 hA2 _ hD2 => ?_) (DeadL.seq2 (DeadL.take (by decide)) fun _ => DeadL.seq2 (DeadL.post (pb := Prod.snd) DeadL.num (fun _ _ => ⟨(wr_ok (by omega)).1, (wr_ok (by omega)).2.1⟩)) fun _ => (DeadL.seq2 (DeadL.take (by decide)) fun _ => (DeadL.post (pb := Prod.snd) DeadL.num (fun _ _ => ⟨(wr_ok (by omega)).1, (wr_ok (by omega)).2.1⟩))))).map (fun _ _ => trivial) (fun _ h => h) (fun _ _ _ _ _ _ h => h)
  obtain ⟨rfl, hp2⟩ := hD2
  refine (OutL.seq (D2 := fun _ => True) hk1 hA2 (OutL.tk (X := (fun N n O Om s => ∃ N0 : Nat → Nat, q.1 = nI (N0 1) ∧ N0 1 < 4 ∧ X0 N0 n O Om s ∧ N = upn N0 1 (N0 1 + 1))) G hA2 (n := 3) ⟨by omega, by omega, by omega, by omega, by omega, by omega⟩) (fun b0 vs0 s0 hB0 _ hE0 => ?_) (DeadL.seq2 (DeadL.post (pb := Prod.snd) DeadL.num (fun _ _ => ⟨(wr_ok (by omega)).1, (wr_ok (by omega)).2.1⟩)) fun _ => (DeadL.seq2 (DeadL.take (by decide)) fun _ => (DeadL.post (pb := Prod.snd) DeadL.num (fun _ _ => ⟨(wr_ok (by omega)).1, (wr_ok (by omega)).2.1⟩))))).map (fun _ _ => trivial) (fun _ h => h) (fun _ _ _ _ _ _ h => h)
  obtain ⟨rfl, he0⟩ := hE0
  refine (OutL.seq (D2 := fun _ => True) hk1 hB0 (OutL.nmw (i := 1) (j := 1) (r := q.1) (X := (fun N n O Om s => ∃ N0 : Nat → Nat, q.1 = nI (N0 1) ∧ N0 1 < 4 ∧ X0 N0 n O Om s ∧ N = upn N0 1 (N0 1 + 1))) G hB0 he0 (Or.inr (Or.inl ⟨rfl, rfl, rfl, rfl, rfl, rfl⟩)) rfl (fun N n O Om s h => by
      obtain ⟨N0, e1, e2, ⟨rfl, rfl⟩, rfl⟩ := h
      exact ⟨N0 1, e1, rfl, upn_eq, e2⟩)) (fun c0 ws0 r0 hC0 _ hF0 => ?_) (DeadL.seq2 (DeadL.take (by decide)) fun _ => (DeadL.post (pb := Prod.snd) DeadL.num (fun _ _ => ⟨(wr_ok (by omega)).1, (wr_ok (by omega)).2.1⟩)))).map (fun _ _ => trivial) (fun _ h => h) (fun _ _ _ _ _ _ h => h)
  obtain ⟨rfl, hf0⟩ := hF0
  refine (OutL.seq (D2 := fun _ => True) hk1 hC0 (OutL.tk (X := (fun N n O Om s => ∃ n0 : Nat → Nat, ((fun N n O Om s => ∃ N0 : Nat → Nat, q.1 = nI (N0 1) ∧ N0 1 < 4 ∧ X0 N0 n O Om s ∧ N = upn N0 1 (N0 1 + 1))) N n0 O Om s ∧ n = upn n0 1 (n0 1 + 1))) G hC0 (n := 4) ⟨by omega, by omega, by omega, by omega, by omega, by omega⟩) (fun b1 vs1 s1 hB1 _ hE1 => ?_) (DeadL.post (pb := Prod.snd) DeadL.num (fun _ _ => ⟨(wr_ok (by omega)).1, (wr_ok (by omega)).2.1⟩))).map (fun _ _ => trivial) (fun _ h => h) (fun _ _ _ _ _ _ h => h)
  obtain ⟨rfl, he1⟩ := hE1
  refine (OutL.nmw (i := 1) (j := 2) (r := q.1) (X := (fun N n O Om s => ∃ n0 : Nat → Nat, ((fun N n O Om s => ∃ N0 : Nat → Nat, q.1 = nI (N0 1) ∧ N0 1 < 4 ∧ X0 N0 n O Om s ∧ N = upn N0 1 (N0 1 + 1))) N n0 O Om s ∧ n = upn n0 1 (n0 1 + 1))) G hB1 he1 (Or.inr (Or.inr (Or.inl ⟨rfl, rfl, rfl, rfl, rfl, rfl⟩))) rfl (fun N n O Om s h => by
      obtain ⟨n0, ⟨N0, e1, e2, ⟨rfl, rfl⟩, rfl⟩, rfl⟩ := h
      exact ⟨N0 1, e1, rfl, upn_eq, e2⟩)).map (fun _ _ => trivial) (fun _ h => h) (fun _ _ _ _ _ _ h => h.map fun N n O Om s h => ?_)
  obtain ⟨n1, ⟨n0, ⟨N0, e1, e2, ⟨rfl, rfl⟩, rfl⟩, rfl⟩, rfl⟩ := h
  refine ⟨?_, rfl⟩
  exact rbd_1 N0
theorem li_merchant (G : GH kn nt k1 z) (hA : ALL kn nt k1 sp z u0 v us t) : OutL id kn nt k1 sp z v us t (f_Reader_merchantLine z v) (sq (f_Model_eat us sp k1 5) fun u => sq (f_Model_eat u sp k1 35) fun u => sq (f_Model_eat u sp k1 6) fun u => sq (f_Model_eat u sp k1 36) fun u => sq (f_Model_eat u sp k1 7) fun u => f_Model_eat u sp k1 36) (fun u => SX kn nt k1 u0 v u t X0) (fun t' => t < t') (fun a u t' => SX kn nt k1 u0 a u t' X0) := by
  have hk1 := G.2.2.2.2.1
  have hc : f_Reader_merchantLine z v = (f_Reader_take v 5).bind fun q2 => (f_Reader_takeNewName z q2 55 6).bind fun q10 => (f_Reader_take q10.2 6).bind fun w0 => ((f_Reader_takeNumber w0 0 9999).bind fun q => some (up q.2 21 (row_s 6 (q.2 21) q10.1 q.1))).bind fun x0 => (f_Reader_take x0 7).bind fun w1 => ((f_Reader_takeNumber w1 0 9999).bind fun q => some (up q.2 23 (row_s 6 (q.2 23) q10.1 q.1))) := by
    unfold f_Reader_merchantLine
    simp only [bnd, Option.bind_assoc, ob]
  rw [hc]
  refine (OutL.seq (D2 := fun _ => True) hk1 hA (OutL.tk (X := X0) G hA (n := 5) ⟨by omega, by omega, by omega, by omega, by omega, by omega⟩) (fun a1 us1 t1 hA1 _ hD1 => ?_) (DeadL.seq2 (pa := id) (pb := Prod.snd) (DeadL.new (pa := id)) fun _ => (DeadL.seq2 (DeadL.take (by decide)) fun _ => DeadL.seq2 (DeadL.post (pb := Prod.snd) DeadL.num (fun _ _ => ⟨(wr_ok (by omega)).1, (wr_ok (by omega)).2.1⟩)) fun _ => (DeadL.seq2 (DeadL.take (by decide)) fun _ => (DeadL.post (pb := Prod.snd) DeadL.num (fun _ _ => ⟨(wr_ok (by omega)).1, (wr_ok (by omega)).2.1⟩)))))).map (fun t' hD => by obtain ⟨_, t1, ⟨h1, _⟩, _, h2⟩ := hD; omega) (fun _ h => h) (fun _ _ _ _ _ _ h => h)
  obtain ⟨rfl, hp1⟩ := hD1
  refine (OutL.seq (D2 := fun _ => True) hk1 hA1 (OutL.nw (i := 2) (X := X0) G hA1 hp1 (Or.inr (Or.inr (Or.inl ⟨rfl, rfl, rfl, rfl⟩)))) (fun q us2 t2 hA2 _ hD2 => ?_) (DeadL.seq2 (DeadL.take (by decide)) fun _ => DeadL.seq2 (DeadL.post (pb := Prod.snd) DeadL.num (fun _ _ => ⟨(wr_ok (by omega)).1, (wr_ok (by omega)).2.1⟩)) fun _ => (DeadL.seq2 (DeadL.take (by decide)) fun _ => (DeadL.post (pb := Prod.snd) DeadL.num (fun _ _ => ⟨(wr_ok (by omega)).1, (wr_ok (by omega)).2.1⟩))))).map (fun _ _ => trivial) (fun _ h => h) (fun _ _ _ _ _ _ h => h)
  obtain ⟨rfl, hp2⟩ := hD2
  refine (OutL.seq (D2 := fun _ => True) hk1 hA2 (OutL.tk (X := (fun N n O Om s => ∃ N0 : Nat → Nat, q.1 = nI (N0 2) ∧ N0 2 < 6 ∧ X0 N0 n O Om s ∧ N = upn N0 2 (N0 2 + 1))) G hA2 (n := 6) ⟨by omega, by omega, by omega, by omega, by omega, by omega⟩) (fun b0 vs0 s0 hB0 _ hE0 => ?_) (DeadL.seq2 (DeadL.post (pb := Prod.snd) DeadL.num (fun _ _ => ⟨(wr_ok (by omega)).1, (wr_ok (by omega)).2.1⟩)) fun _ => (DeadL.seq2 (DeadL.take (by decide)) fun _ => (DeadL.post (pb := Prod.snd) DeadL.num (fun _ _ => ⟨(wr_ok (by omega)).1, (wr_ok (by omega)).2.1⟩))))).map (fun _ _ => trivial) (fun _ h => h) (fun _ _ _ _ _ _ h => h)
  obtain ⟨rfl, he0⟩ := hE0
  refine (OutL.seq (D2 := fun _ => True) hk1 hB0 (OutL.nmw (i := 2) (j := 3) (r := q.1) (X := (fun N n O Om s => ∃ N0 : Nat → Nat, q.1 = nI (N0 2) ∧ N0 2 < 6 ∧ X0 N0 n O Om s ∧ N = upn N0 2 (N0 2 + 1))) G hB0 he0 (Or.inr (Or.inr (Or.inr (Or.inl ⟨rfl, rfl, rfl, rfl, rfl, rfl⟩)))) rfl (fun N n O Om s h => by
      obtain ⟨N0, e1, e2, ⟨rfl, rfl⟩, rfl⟩ := h
      exact ⟨N0 2, e1, rfl, upn_eq, e2⟩)) (fun c0 ws0 r0 hC0 _ hF0 => ?_) (DeadL.seq2 (DeadL.take (by decide)) fun _ => (DeadL.post (pb := Prod.snd) DeadL.num (fun _ _ => ⟨(wr_ok (by omega)).1, (wr_ok (by omega)).2.1⟩)))).map (fun _ _ => trivial) (fun _ h => h) (fun _ _ _ _ _ _ h => h)
  obtain ⟨rfl, hf0⟩ := hF0
  refine (OutL.seq (D2 := fun _ => True) hk1 hC0 (OutL.tk (X := (fun N n O Om s => ∃ n0 : Nat → Nat, ((fun N n O Om s => ∃ N0 : Nat → Nat, q.1 = nI (N0 2) ∧ N0 2 < 6 ∧ X0 N0 n O Om s ∧ N = upn N0 2 (N0 2 + 1))) N n0 O Om s ∧ n = upn n0 3 (n0 3 + 1))) G hC0 (n := 7) ⟨by omega, by omega, by omega, by omega, by omega, by omega⟩) (fun b1 vs1 s1 hB1 _ hE1 => ?_) (DeadL.post (pb := Prod.snd) DeadL.num (fun _ _ => ⟨(wr_ok (by omega)).1, (wr_ok (by omega)).2.1⟩))).map (fun _ _ => trivial) (fun _ h => h) (fun _ _ _ _ _ _ h => h)
  obtain ⟨rfl, he1⟩ := hE1
  refine (OutL.nmw (i := 2) (j := 4) (r := q.1) (X := (fun N n O Om s => ∃ n0 : Nat → Nat, ((fun N n O Om s => ∃ N0 : Nat → Nat, q.1 = nI (N0 2) ∧ N0 2 < 6 ∧ X0 N0 n O Om s ∧ N = upn N0 2 (N0 2 + 1))) N n0 O Om s ∧ n = upn n0 3 (n0 3 + 1))) G hB1 he1 (Or.inr (Or.inr (Or.inr (Or.inr (Or.inl ⟨rfl, rfl, rfl, rfl, rfl, rfl⟩))))) rfl (fun N n O Om s h => by
      obtain ⟨n0, ⟨N0, e1, e2, ⟨rfl, rfl⟩, rfl⟩, rfl⟩ := h
      exact ⟨N0 2, e1, rfl, upn_eq, e2⟩)).map (fun _ _ => trivial) (fun _ h => h) (fun _ _ _ _ _ _ h => h.map fun N n O Om s h => ?_)
  obtain ⟨n1, ⟨n0, ⟨N0, e1, e2, ⟨rfl, rfl⟩, rfl⟩, rfl⟩, rfl⟩ := h
  refine ⟨?_, rfl⟩
  exact rbd_2 N0
theorem li_lot (G : GH kn nt k1 z) (hA : ALL kn nt k1 sp z u0 v us t) : OutL id kn nt k1 sp z v us t (f_Reader_lotLine z v) (sq (f_Model_eat us sp k1 8) fun u => sq (f_Model_eat u sp k1 35) fun u => sq (f_Model_eat u sp k1 9) fun u => sq (f_Model_eat u sp k1 35) fun u => sq (f_Model_eat u sp k1 10) fun u => sq (f_Model_eat u sp k1 36) fun u => sq (f_Model_eat u sp k1 11) fun u => f_Model_eat u sp k1 35) (fun u => SX kn nt k1 u0 v u t X0) (fun t' => t < t') (fun a u t' => SX kn nt k1 u0 a u t' X0) := by
  have hk1 := G.2.2.2.2.1
  have hc : f_Reader_lotLine z v = (f_Reader_take v 8).bind fun q2 => (f_Reader_takeNewName z q2 58 10).bind fun q10 => (f_Reader_take q10.2 9).bind fun w0 => ((f_Reader_takeName z w0 49 4).bind fun q => some (up q.2 25 (row_s 10 (q.2 25) q10.1 q.1))).bind fun x0 => (f_Reader_take x0 10).bind fun w1 => ((f_Reader_takeNumber w1 1 90).bind fun q => some (up q.2 27 (row_s 10 (q.2 27) q10.1 q.1))).bind fun x1 => (f_Reader_take x1 11).bind fun w2 => ((f_Reader_takeName z w2 55 6).bind fun q => some (up q.2 29 (row_s 10 (q.2 29) q10.1 q.1))) := by
    unfold f_Reader_lotLine
    simp only [bnd, Option.bind_assoc, ob]
  rw [hc]
  refine (OutL.seq (D2 := fun _ => True) hk1 hA (OutL.tk (X := X0) G hA (n := 8) ⟨by omega, by omega, by omega, by omega, by omega, by omega⟩) (fun a1 us1 t1 hA1 _ hD1 => ?_) (DeadL.seq2 (pa := id) (pb := Prod.snd) (DeadL.new (pa := id)) fun _ => (DeadL.seq2 (DeadL.take (by decide)) fun _ => DeadL.seq2 (DeadL.post (pb := Prod.snd) DeadL.name (fun _ _ => ⟨(wr_ok (by omega)).1, (wr_ok (by omega)).2.1⟩)) fun _ => (DeadL.seq2 (DeadL.take (by decide)) fun _ => DeadL.seq2 (DeadL.post (pb := Prod.snd) DeadL.num (fun _ _ => ⟨(wr_ok (by omega)).1, (wr_ok (by omega)).2.1⟩)) fun _ => (DeadL.seq2 (DeadL.take (by decide)) fun _ => (DeadL.post (pb := Prod.snd) DeadL.name (fun _ _ => ⟨(wr_ok (by omega)).1, (wr_ok (by omega)).2.1⟩))))))).map (fun t' hD => by obtain ⟨_, t1, ⟨h1, _⟩, _, h2⟩ := hD; omega) (fun _ h => h) (fun _ _ _ _ _ _ h => h)
  obtain ⟨rfl, hp1⟩ := hD1
  refine (OutL.seq (D2 := fun _ => True) hk1 hA1 (OutL.nw (i := 3) (X := X0) G hA1 hp1 (Or.inr (Or.inr (Or.inr ⟨rfl, rfl, rfl, rfl⟩)))) (fun q us2 t2 hA2 _ hD2 => ?_) (DeadL.seq2 (DeadL.take (by decide)) fun _ => DeadL.seq2 (DeadL.post (pb := Prod.snd) DeadL.name (fun _ _ => ⟨(wr_ok (by omega)).1, (wr_ok (by omega)).2.1⟩)) fun _ => (DeadL.seq2 (DeadL.take (by decide)) fun _ => DeadL.seq2 (DeadL.post (pb := Prod.snd) DeadL.num (fun _ _ => ⟨(wr_ok (by omega)).1, (wr_ok (by omega)).2.1⟩)) fun _ => (DeadL.seq2 (DeadL.take (by decide)) fun _ => (DeadL.post (pb := Prod.snd) DeadL.name (fun _ _ => ⟨(wr_ok (by omega)).1, (wr_ok (by omega)).2.1⟩)))))).map (fun _ _ => trivial) (fun _ h => h) (fun _ _ _ _ _ _ h => h)
  obtain ⟨rfl, hp2⟩ := hD2
  refine (OutL.seq (D2 := fun _ => True) hk1 hA2 (OutL.tk (X := (fun N n O Om s => ∃ N0 : Nat → Nat, q.1 = nI (N0 3) ∧ N0 3 < 10 ∧ X0 N0 n O Om s ∧ N = upn N0 3 (N0 3 + 1))) G hA2 (n := 9) ⟨by omega, by omega, by omega, by omega, by omega, by omega⟩) (fun b0 vs0 s0 hB0 _ hE0 => ?_) (DeadL.seq2 (DeadL.post (pb := Prod.snd) DeadL.name (fun _ _ => ⟨(wr_ok (by omega)).1, (wr_ok (by omega)).2.1⟩)) fun _ => (DeadL.seq2 (DeadL.take (by decide)) fun _ => DeadL.seq2 (DeadL.post (pb := Prod.snd) DeadL.num (fun _ _ => ⟨(wr_ok (by omega)).1, (wr_ok (by omega)).2.1⟩)) fun _ => (DeadL.seq2 (DeadL.take (by decide)) fun _ => (DeadL.post (pb := Prod.snd) DeadL.name (fun _ _ => ⟨(wr_ok (by omega)).1, (wr_ok (by omega)).2.1⟩)))))).map (fun _ _ => trivial) (fun _ h => h) (fun _ _ _ _ _ _ h => h)
  obtain ⟨rfl, he0⟩ := hE0
  refine (OutL.seq (D2 := fun _ => True) hk1 hB0 (OutL.nnw (i := 0) (j := 5) (r := q.1) (X := (fun N n O Om s => ∃ N0 : Nat → Nat, q.1 = nI (N0 3) ∧ N0 3 < 10 ∧ X0 N0 n O Om s ∧ N = upn N0 3 (N0 3 + 1))) G hB0 he0 (Or.inl ⟨rfl, rfl, rfl, rfl, rfl⟩) rfl (fun N n O Om s h => by
      obtain ⟨N0, e1, e2, ⟨rfl, rfl⟩, rfl⟩ := h
      exact ⟨N0 3, e1, rfl, upn_eq, e2⟩)) (fun c0 ws0 r0 hC0 _ hF0 => ?_) (DeadL.seq2 (DeadL.take (by decide)) fun _ => DeadL.seq2 (DeadL.post (pb := Prod.snd) DeadL.num (fun _ _ => ⟨(wr_ok (by omega)).1, (wr_ok (by omega)).2.1⟩)) fun _ => (DeadL.seq2 (DeadL.take (by decide)) fun _ => (DeadL.post (pb := Prod.snd) DeadL.name (fun _ _ => ⟨(wr_ok (by omega)).1, (wr_ok (by omega)).2.1⟩))))).map (fun _ _ => trivial) (fun _ h => h) (fun _ _ _ _ _ _ h => h)
  obtain ⟨rfl, hf0⟩ := hF0
  refine (OutL.seq (D2 := fun _ => True) hk1 hC0 (OutL.tk (X := (fun N n O Om s => ∃ n0 : Nat → Nat, ((fun N n O Om s => ∃ N0 : Nat → Nat, q.1 = nI (N0 3) ∧ N0 3 < 10 ∧ X0 N0 n O Om s ∧ N = upn N0 3 (N0 3 + 1))) N n0 O Om s ∧ n = upn n0 5 (n0 5 + 1))) G hC0 (n := 10) ⟨by omega, by omega, by omega, by omega, by omega, by omega⟩) (fun b1 vs1 s1 hB1 _ hE1 => ?_) (DeadL.seq2 (DeadL.post (pb := Prod.snd) DeadL.num (fun _ _ => ⟨(wr_ok (by omega)).1, (wr_ok (by omega)).2.1⟩)) fun _ => (DeadL.seq2 (DeadL.take (by decide)) fun _ => (DeadL.post (pb := Prod.snd) DeadL.name (fun _ _ => ⟨(wr_ok (by omega)).1, (wr_ok (by omega)).2.1⟩))))).map (fun _ _ => trivial) (fun _ h => h) (fun _ _ _ _ _ _ h => h)
  obtain ⟨rfl, he1⟩ := hE1
  refine (OutL.seq (D2 := fun _ => True) hk1 hB1 (OutL.nmw (i := 3) (j := 6) (r := q.1) (X := (fun N n O Om s => ∃ n0 : Nat → Nat, ((fun N n O Om s => ∃ N0 : Nat → Nat, q.1 = nI (N0 3) ∧ N0 3 < 10 ∧ X0 N0 n O Om s ∧ N = upn N0 3 (N0 3 + 1))) N n0 O Om s ∧ n = upn n0 5 (n0 5 + 1))) G hB1 he1 (Or.inr (Or.inr (Or.inr (Or.inr (Or.inr (⟨rfl, rfl, rfl, rfl, rfl, rfl⟩)))))) rfl (fun N n O Om s h => by
      obtain ⟨n0, ⟨N0, e1, e2, ⟨rfl, rfl⟩, rfl⟩, rfl⟩ := h
      exact ⟨N0 3, e1, rfl, upn_eq, e2⟩)) (fun c1 ws1 r1 hC1 _ hF1 => ?_) (DeadL.seq2 (DeadL.take (by decide)) fun _ => (DeadL.post (pb := Prod.snd) DeadL.name (fun _ _ => ⟨(wr_ok (by omega)).1, (wr_ok (by omega)).2.1⟩)))).map (fun _ _ => trivial) (fun _ h => h) (fun _ _ _ _ _ _ h => h)
  obtain ⟨rfl, hf1⟩ := hF1
  refine (OutL.seq (D2 := fun _ => True) hk1 hC1 (OutL.tk (X := (fun N n O Om s => ∃ n0 : Nat → Nat, ((fun N n O Om s => ∃ n0 : Nat → Nat, ((fun N n O Om s => ∃ N0 : Nat → Nat, q.1 = nI (N0 3) ∧ N0 3 < 10 ∧ X0 N0 n O Om s ∧ N = upn N0 3 (N0 3 + 1))) N n0 O Om s ∧ n = upn n0 5 (n0 5 + 1))) N n0 O Om s ∧ n = upn n0 6 (n0 6 + 1))) G hC1 (n := 11) ⟨by omega, by omega, by omega, by omega, by omega, by omega⟩) (fun b2 vs2 s2 hB2 _ hE2 => ?_) (DeadL.post (pb := Prod.snd) DeadL.name (fun _ _ => ⟨(wr_ok (by omega)).1, (wr_ok (by omega)).2.1⟩))).map (fun _ _ => trivial) (fun _ h => h) (fun _ _ _ _ _ _ h => h)
  obtain ⟨rfl, he2⟩ := hE2
  refine (OutL.nnw (i := 2) (j := 7) (r := q.1) (X := (fun N n O Om s => ∃ n0 : Nat → Nat, ((fun N n O Om s => ∃ n0 : Nat → Nat, ((fun N n O Om s => ∃ N0 : Nat → Nat, q.1 = nI (N0 3) ∧ N0 3 < 10 ∧ X0 N0 n O Om s ∧ N = upn N0 3 (N0 3 + 1))) N n0 O Om s ∧ n = upn n0 5 (n0 5 + 1))) N n0 O Om s ∧ n = upn n0 6 (n0 6 + 1))) G hB2 he2 (Or.inr ⟨rfl, rfl, rfl, rfl, rfl⟩) rfl (fun N n O Om s h => by
      obtain ⟨n1, ⟨n0, ⟨N0, e1, e2, ⟨rfl, rfl⟩, rfl⟩, rfl⟩, rfl⟩ := h
      exact ⟨N0 3, e1, rfl, upn_eq, e2⟩)).map (fun _ _ => trivial) (fun _ h => h) (fun _ _ _ _ _ _ h => h.map fun N n O Om s h => ?_)
  obtain ⟨n2, ⟨n1, ⟨n0, ⟨N0, e1, e2, ⟨rfl, rfl⟩, rfl⟩, rfl⟩, rfl⟩, rfl⟩ := h
  refine ⟨?_, rfl⟩
  exact rbd_3 N0
end
