/-! LINES: the draft beside the sheet -/
def bI (lo hi y : Int32) : Prop := (¬ y < lo) ∧ ¬ hi < y
def rm (j : Nat) : Nat := if j = 0 then 6 else if j = 1 then 8 else if j = 2 then 9 else if j = 3 then 11 else if j = 4 then 12 else if j = 5 then 14 else if j = 6 then 15 else 16
def rB (j : Nat) (N : Nat → Nat) (y : Int32) : Prop := if j = 0 then bI 0 9 y else if j = 1 then bI 0 99 y else if j = 2 then bI 0 20 y else if j = 3 then bI 0 9999 y else if j = 4 then bI 0 9999 y else if j = 5 then ∃ x, x < N 0 ∧ y = nI x else if j = 6 then bI 1 90 y else ∃ x, x < N 2 ∧ y = nI x
def nmK (i : Nat) : Nat := if i = 0 then 5 else if i = 1 then 7 else if i = 2 then 10 else 13
def nmC (i : Nat) : Nat := if i = 0 then 4 else if i = 1 then 7 else if i = 2 then 11 else 15
def nmN (i : Nat) : Nat := if i = 0 then 4 else if i = 1 then 4 else if i = 2 then 6 else 10
def upn (f : Nat → Nat) (j x : Nat) : Nat → Nat := fun q => if q = j then x else f q
/-- an order, told by both sides -/
def ORD (k1 : Nat) (u0 v u : Va) (G M L s t o : Nat) : Prop :=
  v 31 o = u (k1 + 17) o ∧ v 33 o = u (k1 + 18) o ∧ v 35 o = u (k1 + 19) o ∧ PO (u (k1 + 17) o) (u (k1 + 18) o) (u (k1 + 19) o) G M L ∧ ∃ f g h, f ≤ g ∧ g ≤ h ∧ h ≤ s ∧ v 37 o = nI f ∧ v 39 o = nI g ∧ v 41 o = nI h ∧
    (u (k1 + 17) o = 0 ∨ ∃ a b, b ≤ t ∧ u (k1 + 20) o = nI a ∧ EvI 3 35 (u0 (k1 + 1)) (u (k1 + 4)) M L a b (segD v f (g - f))) ∧
    ((u (k1 + 21) o = -1 ∧ g = h) ∨ ∃ a b, b ≤ t ∧ u (k1 + 21) o = nI a ∧ EvB 0 38 (u0 (k1 + 1)) (u (k1 + 4)) M L a b (segD v g (h - g)))
def Shx (kn : Nat → Nat) (nt k1 : Nat) (u0 v u : Va) (t : Nat) (N n : Nat → Nat) (O Om s : Nat) : Prop :=
  (v 42 0 = nI s ∧ s ≤ t) ∧ (∀ i, i < 4 → NR v u0 kn nt (49 + 3 * i) (k1 + nmK i) (nmC i) (N i) (nmN i) u k1) ∧ EK kn nt k1 u0 u ∧ (v 13 4 = nI O ∧ O ≤ 24 ∧ u k1 20 = nI Om) ∧
    (∀ j, j < 8 → ∀ i, i < n j → v (15 + 2 * j) i = u (k1 + rm j) i ∧ rB j N (u (k1 + rm j) i)) ∧ ∀ o, o < O → ORD k1 u0 v u (N 1) (N 2) (N 3) s t o
section
variable {kn : Nat → Nat} {nt k1 : Nat} {u0 v v1 u u1 : Va} {t t1 O Om s G M L G' M' L' s1 o ix nd a b : Nat} {N n : Nat → Nat} {Kd Mn Mn' : Nat → Int32} {c : List Ste}
theorem okS.le {x : Ste} (h : okS M L x) (hM : M ≤ M') (hL : L ≤ L') : okS M' L' x := by
  obtain ⟨h1, h2, h3, h4⟩ := h
  refine ⟨fun q => ?_, fun q => ?_, fun q => ?_, fun q => ?_⟩
  · obtain ⟨m, a, b⟩ := h1 q; exact ⟨m, by omega, b⟩
  · obtain ⟨m, a, b⟩ := h2 q; exact ⟨m, by omega, b⟩
  · obtain ⟨⟨m, a, b⟩, m', a', b'⟩ := h3 q; exact ⟨⟨m, by omega, b⟩, m', by omega, b'⟩
  · obtain ⟨⟨m, a, b⟩, m', a', b'⟩ := h4 q; exact ⟨⟨m, by omega, b⟩, m', by omega, b'⟩
theorem OKc.le (h : OKc M L a b c) (hM : M ≤ M') (hL : L ≤ L') : OKc M' L' a b c := ⟨h.1, h.2.1, fun x hx => (h.2.2.1 x hx).le hM hL, h.2.2.2⟩
theorem EU.mn {sp sn : Nat} (h : EU Kd Mn' sp sn a a b u) (e : ∀ i, i < b → Mn' i = Mn i) : EU Kd Mn sp sn a a b u := by
  obtain ⟨h1, h2, h3, h4, h5⟩ := h
  exact ⟨h1, h2, h3, fun i hi hj => (h4 i hi hj).trans (e i hj), h5⟩
theorem EvI.le (h : EvI ix nd Kd Mn M L a b c) (e : ∀ i, i < b → Mn' i = Mn i) (hM : M ≤ M') (hL : L ≤ L') : EvI ix nd Kd Mn' M' L' a b c := ⟨h.1.le hM hL, fun z sp sn d u hz hd hE => h.2 z sp sn d u hz hd (hE.mn e)⟩
theorem EvB.le (h : EvB ix nd Kd Mn M L a b c) (e : ∀ i, i < b → Mn' i = Mn i) (hM : M ≤ M') (hL : L ≤ L') : EvB ix nd Kd Mn' M' L' a b c := ⟨h.1.le hM hL, fun z sp sn d u hz hd hE => h.2 z sp sn d u hz hd (hE.mn e)⟩
theorem PO.le {x y w : Int32} (h : PO x y w G M L) (hG : G ≤ G') (hM : M ≤ M') (hL : L ≤ L') : PO x y w G' M' L' := by
  rcases h with ⟨e, ⟨i, hi, ei⟩, j, hj, ej⟩ | ⟨e, ⟨i, hi, ei⟩, j, hj, ej⟩ | ⟨e, ⟨i, hi, ei⟩, j, hj, ej⟩
  · exact Or.inl ⟨e, ⟨i, by omega, ei⟩, j, by omega, ej⟩
  · exact Or.inr (Or.inl ⟨e, ⟨i, by omega, ei⟩, j, by omega, ej⟩)
  · exact Or.inr (Or.inr ⟨e, ⟨i, by omega, ei⟩, j, by omega, ej⟩)
theorem ORD.fr (h : ORD k1 u0 v u G M L s t o) (hv : ∀ p, p = 31 ∨ p = 33 ∨ p = 35 ∨ p = 37 ∨ p = 39 ∨ p = 41 → v1 p o = v p o) (hs : ∀ i, i < s → v1 44 i = v 44 i ∧ v1 46 i = v 46 i ∧ v1 48 i = v 48 i) (hu : ∀ p, 17 ≤ p → p ≤ 21 → u1 (k1 + p) o = u (k1 + p) o) (hm : ∀ i, i < t → u1 (k1 + 4) i = u (k1 + 4) i) (hG : G ≤ G') (hM : M ≤ M') (hL : L ≤ L') (hss : s ≤ s1) (ht : t ≤ t1) : ORD k1 u0 v1 u1 G' M' L' s1 t1 o := by
  obtain ⟨h1, h2, h3, h4, f, g, h, a1, a2, a3, a4, a5, a6, a7, a8⟩ := h
  unfold ORD
  rw [hv 31 (by omega), hv 33 (by omega), hv 35 (by omega), hv 37 (by omega), hv 39 (by omega), hv 41 (by omega), hu 17 (by omega) (by omega), hu 18 (by omega) (by omega), hu 19 (by omega) (by omega), hu 20 (by omega) (by omega), hu 21 (by omega) (by omega)]
  refine ⟨h1, h2, h3, h4.le hG hM hL, f, g, h, a1, a2, by omega, a4, a5, a6, ?_, ?_⟩
  · refine a7.imp id fun ⟨a, b, b1, b2, b3⟩ => ⟨a, b, by omega, b2, ?_⟩
    rw [segD_eq (v := v) (g - f) f (fun i _ hi => hs i (by omega))]
    exact b3.le (fun i hi => hm i (by omega)) hM hL
  · refine a8.imp id fun ⟨a, b, b1, b2, b3⟩ => ⟨a, b, by omega, b2, ?_⟩
    rw [segD_eq (v := v) (h - g) g (fun i _ hi => hs i (by omega))]
    exact b3.le (fun i hi => hm i (by omega)) hM hL
theorem Shx.nx (h : Shx kn nt k1 u0 v u t N n O Om s) (hv : ∀ p, p ≠ 12 → v1 p = v p) (ht : t ≤ t1) : Shx kn nt k1 u0 v1 u t1 N n O Om s := by
  obtain ⟨h1, h2, h3, h4, h5, h6⟩ := h
  refine ⟨by rw [hv 42 (by omega)]; exact ⟨h1.1, by omega⟩, fun i hi => (h2 i hi).fr (hv _ (by omega)) (hv _ (by omega)) (hv _ (by omega)) rfl rfl, h3, by rw [hv 13 (by omega)]; exact h4, fun j hj i hi => by rw [hv _ (by omega)]; exact h5 j hj i hi, fun o ho => (h6 o ho).fr (fun p hp => by rw [hv p (by omega)]) (fun i hi => by rw [hv 44 (by omega), hv 46 (by omega), hv 48 (by omega)]; exact ⟨rfl, rfl, rfl⟩) (fun _ _ _ => rfl) (fun _ _ => rfl) (Nat.le_refl _) (Nat.le_refl _) (Nat.le_refl _) (Nat.le_refl _) ht⟩
theorem nm_lt {i : Nat} (hi : i < 4) : 4 < nmK i ∧ nmK i ≤ 13 ∧ nmN i ≤ 10 ∧ nmK i ≠ 6 ∧ nmK i ≠ 8 ∧ nmK i ≠ 9 ∧ nmK i ≠ 11 ∧ nmK i ≠ 12 := by
  have : i = 0 ∨ i = 1 ∨ i = 2 ∨ i = 3 := by omega
  rcases this with rfl | rfl | rfl | rfl <;> decide
theorem nm_ne {i j : Nat} (hi : i < 4) (hj : j < 4) (h : i ≠ j) : nmK i ≠ nmK j ∧ nmC i ≠ nmC j := by
  have key : ∀ i : Fin 4, ∀ j : Fin 4, i ≠ j → nmK i.val ≠ nmK j.val ∧ nmC i.val ≠ nmC j.val := by decide
  exact key ⟨i, hi⟩ ⟨j, hj⟩ (fun q => h (Fin.mk.inj_iff.mp q))
theorem rm_ne {i j : Nat} (hi : i < 8) (hj : j < 8) (h : i ≠ j) : rm i ≠ rm j := by
  have key : ∀ i : Fin 8, ∀ j : Fin 8, i ≠ j → rm i.val ≠ rm j.val := by decide
  exact key ⟨i, hi⟩ ⟨j, hj⟩ (fun q => h (Fin.mk.inj_iff.mp q))
theorem rm_lt {j : Nat} (hj : j < 8) : 5 < rm j ∧ rm j ≤ 16 ∧ rm j ≠ 7 ∧ rm j ≠ 10 ∧ rm j ≠ 13 := by
  have key : ∀ j : Fin 8, 5 < rm j.val ∧ rm j.val ≤ 16 ∧ rm j.val ≠ 7 ∧ rm j.val ≠ 10 ∧ rm j.val ≠ 13 := by decide
  exact key ⟨j, hj⟩
theorem nmC_lt {i : Nat} (hi : i < 4) : nmC i ≤ 15 := by
  have key : ∀ i : Fin 4, nmC i.val ≤ 15 := by decide
  exact key ⟨i, hi⟩
theorem upn_eq {f : Nat → Nat} {j x : Nat} : upn f j x j = x := if_pos rfl
theorem upn_ne {f : Nat → Nat} {j x q : Nat} (h : q ≠ j) : upn f j x q = f q := if_neg h
theorem upn_le {i x : Nat} (h : N i ≤ x) (q : Nat) : N q ≤ upn N i x q := by
  unfold upn
  split
  · subst_vars; exact h
  · exact Nat.le_refl _
theorem rB.le {N' : Nat → Nat} {j : Nat} {y : Int32} (h : rB j N y) (h0 : N 0 ≤ N' 0) (h2 : N 2 ≤ N' 2) : rB j N' y := by
  unfold rB at h ⊢
  by_cases q0 : j = 0
  · rw [if_pos q0] at h ⊢; exact h
  rw [if_neg q0] at h ⊢
  by_cases q1 : j = 1
  · rw [if_pos q1] at h ⊢; exact h
  rw [if_neg q1] at h ⊢
  by_cases q2 : j = 2
  · rw [if_pos q2] at h ⊢; exact h
  rw [if_neg q2] at h ⊢
  by_cases q3 : j = 3
  · rw [if_pos q3] at h ⊢; exact h
  rw [if_neg q3] at h ⊢
  by_cases q4 : j = 4
  · rw [if_pos q4] at h ⊢; exact h
  rw [if_neg q4] at h ⊢
  by_cases q5 : j = 5
  · rw [if_pos q5] at h ⊢
    obtain ⟨x, a, b⟩ := h; exact ⟨x, by omega, b⟩
  rw [if_neg q5] at h ⊢
  by_cases q6 : j = 6
  · rw [if_pos q6] at h ⊢; exact h
  rw [if_neg q6] at h ⊢
  obtain ⟨x, a, b⟩ := h; exact ⟨x, by omega, b⟩
/-- a new name -/
theorem Shx.new {i : Nat} (h : Shx kn nt k1 u0 v u t N n O Om s) (hi : i < 4) (hN : N i < nmN i) (hk : kn t = 47) (ht : t < nt) (hk1 : 194 ≤ k1) : Shx kn nt k1 u0 (Nw v t (49 + 3 * i) (N i)) (Mw u k1 (k1 + nmK i) (nmC i) (N i) t) (t + 1) (upn N i (N i + 1)) n O Om s := by
  obtain ⟨h1, h2, h3, h4, h5, h6⟩ := h
  have nk := nm_lt hi
  have nc := nmC_lt hi
  have hv : ∀ p, p ≠ 12 → p ≠ 49 + 3 * i → p ≠ 51 + 3 * i → (Nw v t (49 + 3 * i) (N i)) p = v p := fun p q1 q2 q3 => by unfold Nw Nx pu; rw [up_ne q2, up_ne (by omega), up_ne q1]
  have hu : ∀ p, p ≠ k1 → p ≠ k1 + nmK i → (Mw u k1 (k1 + nmK i) (nmC i) (N i) t) p = u p := fun p q1 q2 => by unfold Mw pu; rw [up_ne q1, up_ne q2]
  have hu1 : ∀ q, q ≠ nmC i → (Mw u k1 (k1 + nmK i) (nmC i) (N i) t) k1 q = u k1 q := fun q hq => by unfold Mw pu; rw [up_eq, upd_ne hq, up_ne (by omega)]
  have hNle := upn_le (N := N) (i := i) (x := N i + 1) (by omega)
  refine ⟨by rw [hv 42 (by omega) (by omega) (by omega)]; exact ⟨h1.1, by omega⟩, fun j hj => ?_, ⟨?_, ?_⟩, ?_, fun j hj q hq => ?_, fun o ho => ?_⟩
  · by_cases hij : j = i
    · subst hij
      obtain ⟨r1, r2, r3, r4⟩ := h2 j hj
      rw [upn_eq]
      refine ⟨by unfold Nw pu; rw [up_eq, upd_eq], by omega, by unfold Mw pu; rw [up_eq, upd_eq], fun q hq => ?_⟩
      have e2 : (Nw v t (49 + 3 * j) (N j)) (49 + 3 * j + 2) = upd (v (49 + 3 * j + 2)) (N j) (v 11 t) := by unfold Nw pu; rw [up_ne (by omega), up_eq]
      have e3 : (Mw u k1 (k1 + nmK j) (nmC j) (N j) t) (k1 + nmK j) = upd (u (k1 + nmK j)) (N j) (nI t) := by unfold Mw pu; rw [up_ne (by omega), up_eq]
      rw [e2, e3, hv 11 (by omega) (by omega) (by omega)]
      by_cases hqn : q = N j
      · subst hqn
        exact ⟨t, ht, hk, upd_eq, upd_eq⟩
      · rw [upd_ne hqn, upd_ne hqn]
        exact r4 q (by omega)
    · obtain ⟨ne1, ne2⟩ := nm_ne hj hi hij
      rw [upn_ne hij]
      obtain ⟨r1, r2, r3, r4⟩ := h2 j hj
      have nk' := nm_lt hj
      refine ⟨by rw [hv _ (by omega) (by omega) (by omega)]; exact r1, r2, by rw [hu1 _ ne2]; exact r3, fun q hq => ?_⟩
      rw [hu _ (by omega) (by omega), hv (49 + 3 * j + 2) (by omega) (by omega) (by omega), hv 11 (by omega) (by omega) (by omega)]
      exact r4 q hq
  · rw [hu _ (by omega) (by omega), hu _ (by omega) (by omega), hu _ (by omega) (by omega)]; exact h3.1
  · rw [hu _ (by omega) (by omega)]; exact h3.2
  · rw [hv 13 (by omega) (by omega) (by omega), hu1 20 (by omega)]; exact h4
  · have nr := rm_lt hj
    have hne : rm j ≠ nmK i := fun q => by
      have key : ∀ j : Fin 8, ∀ i : Fin 4, rm j.val ≠ nmK i.val := by decide
      exact key ⟨j, hj⟩ ⟨i, hi⟩ q
    rw [hv _ (by omega) (by omega) (by omega), hu _ (by omega) (by omega)]
    obtain ⟨q1, q2⟩ := h5 j hj q hq
    exact ⟨q1, q2.le (hNle 0) (hNle 2)⟩
  · exact (h6 o ho).fr (fun p hp => by rw [hv p (by omega) (by omega) (by omega)]) (fun i hi => by rw [hv 44 (by omega) (by omega) (by omega), hv 46 (by omega) (by omega) (by omega), hv 48 (by omega) (by omega) (by omega)]; exact ⟨rfl, rfl, rfl⟩) (fun p q1 q2 => by rw [hu _ (by omega) (by omega)]) (fun p q => by rw [hu _ (by omega) (by omega)]) (hNle 1) (hNle 2) (hNle 3) (Nat.le_refl _) (by omega)
/-- a row's next entry -/
theorem Shx.row {j c : Nat} {y : Int32} (h : Shx kn nt k1 u0 v u t N n O Om s) (hj : j < 8) (hc : n j = c) (hB : rB j N y) (hv : ∀ p, p ≠ 12 → p ≠ 15 + 2 * j → v1 p = v p) (hv1 : v1 (15 + 2 * j) = upd (v (15 + 2 * j)) c y) (hk1 : 194 ≤ k1) : Shx kn nt k1 u0 v1 (pu (pu u (k1 + 4) t y) (k1 + rm j) c y) (t + 1) N (upn n j (c + 1)) O Om s := by
  obtain ⟨h1, h2, h3, h4, h5, h6⟩ := h
  have nr := rm_lt hj
  have hu : ∀ p, p ≠ k1 + 4 → p ≠ k1 + rm j → (pu (pu u (k1 + 4) t y) (k1 + rm j) c y) p = u p := fun p q1 q2 => by unfold pu; rw [up_ne q2, up_ne q1]
  have hu4 : ∀ q, q < t → (pu (pu u (k1 + 4) t y) (k1 + rm j) c y) (k1 + 4) q = u (k1 + 4) q := fun q hq => by unfold pu; rw [up_ne (by omega), up_eq, upd_ne (by omega)]
  have hur : (pu (pu u (k1 + 4) t y) (k1 + rm j) c y) (k1 + rm j) = upd (u (k1 + rm j)) c y := by unfold pu; rw [up_eq, up_ne (by omega)]
  refine ⟨by rw [hv 42 (by omega) (by omega)]; exact ⟨h1.1, by omega⟩, fun i hi => ?_, ⟨?_, ?_⟩, ?_, fun i hi q hq => ?_, fun o ho => ?_⟩
  · have nk := nm_lt hi
    have hne : rm j ≠ nmK i := fun q => by
      have key : ∀ j : Fin 8, ∀ i : Fin 4, rm j.val ≠ nmK i.val := by decide
      exact key ⟨j, hj⟩ ⟨i, hi⟩ q
    exact (h2 i hi).fr (hv _ (by omega) (by omega)) (hv _ (by omega) (by omega)) (hv _ (by omega) (by omega)) (hu _ (by omega) (by omega)) (hu _ (by omega) (by omega))
  · rw [hu _ (by omega) (by omega), hu _ (by omega) (by omega), hu _ (by omega) (by omega)]; exact h3.1
  · rw [hu _ (by omega) (by omega)]; exact h3.2
  · rw [hv 13 (by omega) (by omega), hu _ (by omega) (by omega)]; exact h4
  · by_cases hij : i = j
    · subst hij
      rw [upn_eq] at hq
      rw [hv1, hur]
      by_cases hqc : q = c
      · subst hqc; rw [upd_eq, upd_eq]; exact ⟨rfl, hB⟩
      · rw [upd_ne hqc, upd_ne hqc]; exact h5 i hi q (by omega)
    · rw [upn_ne hij] at hq
      have := rm_ne hi hj hij
      have nr' := rm_lt hi
      rw [hv _ (by omega) (by omega), hu _ (by omega) (by omega)]
      exact h5 i hi q hq
  · exact (h6 o ho).fr (fun p hp => by rw [hv p (by omega) (by omega)]) (fun i hi => by rw [hv 44 (by omega) (by omega), hv 46 (by omega) (by omega), hv 48 (by omega) (by omega)]; exact ⟨rfl, rfl, rfl⟩) (fun p q1 q2 => by rw [hu _ (by omega) (by omega)]) hu4 (Nat.le_refl _) (Nat.le_refl _) (Nat.le_refl _) (Nat.le_refl _) (by omega)
end
