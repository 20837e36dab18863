/-! TOKENS: the whole tape is cut alike -/
def FT (v v' : Va) : Prop := (∀ p, p ≠ 3 → p ≠ 5 → p ≠ 7 → p ≠ 9 → p ≠ 11 → v' p = v p) ∧ v' 3 1 = v 3 1
def FU (k1 : Nat) (u u' : Va) : Prop := ∀ p, p ≠ k1 + 1 → p ≠ k1 + 2 → p ≠ k1 + 3 → u' p = u p
section
variable {v v1 u u1 : Va} {B : Nat → Nat} {nb a b l k k1 s z sp i p q n : Nat} {x1 x2 x3 x4 : Int32}
theorem FT.tr {v2 : Va} (h : FT v v1) (h2 : FT v1 v2) : FT v v2 := ⟨fun p a b c d e => (h2.1 p a b c d e).trans (h.1 p a b c d e), h2.2.trans h.2⟩
theorem FU.tr {u2 : Va} (h : FU k1 u u1) (h2 : FU k1 u1 u2) : FU k1 u u2 := fun p a b c => (h2 p a b c).trans (h p a b c)
theorem FT.ad : FT v (AD v k x1 x2 x3 x4) := by
  refine ⟨fun p a b c d e => ?_, ?_⟩
  · unfold AD pu
    rw [up_ne a, up_ne e, up_ne d, up_ne c, up_ne b]
  · unfold AD pu
    rw [up_eq, upd_ne (by omega), up_ne (by omega), up_ne (by omega), up_ne (by omega), up_ne (by omega)]
theorem FU.mu : FU k1 u (MU u k1 k x1 x2 x3) := fun p a b c => by
  unfold MU pu
  rw [up_ne a, up_ne c, up_ne b]
theorem AD_5 : (AD v k x1 x2 x3 x4) 5 = upd (v 5) k x1 ∧ (AD v k x1 x2 x3 x4) 7 = upd (v 7) k x2 ∧ (AD v k x1 x2 x3 x4) 9 = upd (v 9) k x3 ∧ (AD v k x1 x2 x3 x4) 11 = upd (v 11) k x4 ∧ (AD v k x1 x2 x3 x4) 3 2 = nI (k + 1) := by
  unfold AD pu
  simp (disch := omega) only [up_ne, up_eq, upd_eq]
  exact ⟨trivial, trivial, trivial, trivial, trivial⟩
theorem MU_1 : (MU u k1 k x1 x2 x3) (k1 + 1) = upd (u (k1 + 1)) k x3 ∧ (MU u k1 k x1 x2 x3) (k1 + 2) = upd (u (k1 + 2)) k x1 ∧ (MU u k1 k x1 x2 x3) (k1 + 3) = upd (u (k1 + 3)) k x2 := by
  unfold MU pu
  simp (disch := omega) only [up_ne, up_eq]
  exact ⟨trivial, trivial, trivial⟩
theorem pu_pu {j : Nat} {x y : Int32} : pu (pu v p j x) p j y = pu v p j y := by
  unfold pu
  rw [up_eq, upd_upd]
  exact funext fun q => by
    by_cases h : q = p
    · rw [h, up_eq, up_eq]
    · rw [up_ne h, up_ne h, up_ne h]
theorem cutS {K4 : (Int32 × Int32 × Va) → Option Va} (hT : TBm u B nb) (hk1 : 194 ≤ k1) (hk : k ≤ 400) (hp : p ≤ nb) (hz : 4000 < z) (hl4 : l ≤ 2000) (hn : n ≤ 50)
    (hs : ∀ u', TBm u' B nb → f_Model_lengthAt z u' sp (nI (bkE B nb p)) = some (nI l) ∧ f_Model_kindAt z u' sp (nI (bkE B nb p)) (nI l) = some (nI (kmap n))) :
    b_Model_cut_4 z sp k1 K4 (nI p, nI k, u) = if k = 400 ∧ n ≠ 49 then some (MU u k1 k (nI (bkE B nb p)) (nI l) 71) else if n ≤ 48 then K4 (nI (bkE B nb p + l), nI (k + 1), MU u k1 k (nI (bkE B nb p)) (nI l) (nI (kmap n))) else some (MU u k1 k (nI (bkE B nb p)) (nI l) (nI (kmap n))) := by
  have h0 := hT.1
  have hq := bk_le (B := B) hp
  have hkn := km_l hn
  unfold b_Model_cut_4
  simp only
  rw [show (400 : Int32) = nI 400 from rfl, if_neg (by rw [lt_n (by omega) (by omega)]; omega)]
  have hb := bk_m (sp := sp) (k1 := k1) (K4 := K4) (c := (nI p, nI k)) hT hp hz
  simp only at hb
  rw [hb]
  have t1 : TBm (pu u (k1 + 2) k (nI (bkE B nb p))) B nb := hT.cong (by unfold pu; rw [up_ne (by omega)]) (by unfold pu; rw [up_ne (by omega)])
  have t2 : TBm (pu (pu u (k1 + 2) k (nI (bkE B nb p))) (k1 + 3) k (nI l)) B nb := t1.cong (by unfold pu; rw [up_ne (by omega)]) (by unfold pu; rw [up_ne (by omega)])
  have hnb : (f_Model_byteAt u sp (nI (bkE B nb p)) = some (-1)) ∨ ∃ b, b < 256 ∧ b ≠ 32 ∧ b ≠ 10 ∧ f_Model_byteAt u sp (nI (bkE B nb p)) = some (nI b) := by
    by_cases hx : nb ≤ bkE B nb p
    · exact Or.inl (by_x hT hx (by omega))
    · obtain ⟨r1, r2, r3, r4⟩ := rn_spec (P := fun i => Bk (B i)) (nb - p) p
      have hbk : bkE B nb p = rn (fun i => Bk (B i)) (nb - p) p := rfl
      rw [← hbk] at r1 r2 r3 r4
      have r5 : ¬ (B (bkE B nb p) = 32 ∨ B (bkE B nb p) = 10) := of_decide_eq_false (r4 (by omega))
      exact Or.inr ⟨_, (hT.2.2 _ (by omega)).1, by omega, by omega, by_m hT (by omega)⟩
  have n32 : ∃ y, f_Model_byteAt u sp (nI (bkE B nb p)) = some y ∧ (¬ y = 32) ∧ ¬ y = 10 := by
    rcases hnb with h | ⟨b, b1, b2, b3, h⟩
    · exact ⟨_, h, by decide, by decide⟩
    · refine ⟨_, h, ?_, ?_⟩
      · rw [show (32 : Int32) = nI 32 from rfl, eq_n (by omega) (by omega)]; exact b2
      · rw [show (10 : Int32) = nI 10 from rfl, eq_n (by omega) (by omega)]; exact b3
  obtain ⟨y, y1, y2, y3⟩ := n32
  have hgd : ¬ (nI k < 0 ∨ 401 ≤ (nI k).toNatClampNeg) := gd2 (by omega) (by omega)
  have hgn : ¬ (nI k < 0 ∨ 401 ≤ k) := by rw [gn (by omega) (by omega)]; exact id
  have hc : (nI k).toNatClampNeg = k := ni_c (by omega)
  have e3 : (pu (pu u (k1 + 2) k (nI (bkE B nb p))) (k1 + 3) k (nI l)) (k1 + 3) k = nI l := by unfold pu; rw [up_eq, upd_eq]
  have e71 : ∀ x, (pu (pu (pu u (k1 + 2) k (nI (bkE B nb p))) (k1 + 3) k (nI l)) (k1 + 1) k x) (k1 + 1) k = x := fun x => by unfold pu; rw [up_eq, upd_eq]
  have e73 : ∀ x, (pu (pu (pu u (k1 + 2) k (nI (bkE B nb p))) (k1 + 3) k (nI l)) (k1 + 1) k x) (k1 + 3) k = nI l := fun x => by unfold pu; rw [up_ne (by omega), up_eq, upd_eq]
  have h98 : ∀ (x : Int32), j_Model_cut_98 k1 K4 (nI p, nI k, u) (nI (bkE B nb p)) (pu (pu (pu u (k1 + 2) k (nI (bkE B nb p))) (k1 + 3) k (nI l)) (k1 + 1) k x) = if x < 70 then K4 (nI (bkE B nb p + l), nI (k + 1), MU u k1 k (nI (bkE B nb p)) (nI l) x) else some (MU u k1 k (nI (bkE B nb p)) (nI l) x) := fun x => by
    unfold j_Model_cut_98
    simp only
    rw [if_neg hgd, hc, e71, e73, if_neg hgn, ni_add, ni_s]
    rfl
  unfold b_Model_cut_11
  simp only
  rw [y1, ob, ob, if_neg y2, if_neg y3, if_neg hgd, hc, bd, (hs _ t1).1, ob, if_neg hgn, bd, if_neg hgn, e3, (hs _ t2).2, ob, if_neg hgn, bd, bd, if_neg hgn, if_neg hgn, e71, h98, pu_pu, h98, if_neg (show ¬ (71 : Int32) < 70 by decide), show (400 : Int32) = nI 400 from rfl]
  have hlt : (nI (kmap n) < 70) = (n ≤ 48) := by
    rw [show (70 : Int32) = nI 70 from rfl, lt_n (by omega) (by omega)]
    have key : ∀ n : Fin 51, (kmap n.val < 70) = (n.val ≤ 48) := fun n => propext (by revert n; decide +kernel)
    exact key ⟨n, by omega⟩
  have h70 : (nI (kmap n) = 70) = (n = 49) := by
    rw [show (70 : Int32) = nI (kmap 49) from rfl, kq hn (by omega)]
  simp only [hlt, h70]
  by_cases h4 : k = 400
  · rw [if_pos (by rw [h4])]
    by_cases h49 : n = 49
    · rw [if_pos h49, if_neg (show ¬ (k = 400 ∧ n ≠ 49) from fun q => q.2 h49)]
    · rw [if_neg h49, if_pos ⟨h4, h49⟩]
  · rw [if_neg (by rw [eq_n (by omega) (by omega)]; exact h4), if_neg (show ¬ (k = 400 ∧ n ≠ 49) from fun q => h4 q.1)]
/-- what stands behind the last token -/
theorem end_m (hT : TBm u B nb) : f_Model_lengthAt z u sp (nI nb) = some (nI 1) ∧ f_Model_kindAt z u sp (nI nb) (nI 1) = some (nI (kmap 49)) := by
  have h0 := hT.1
  have hb := by_x (sp := sp) hT (Nat.le_refl nb) (by omega)
  refine ⟨?_, ?_⟩
  · unfold f_Model_lengthAt
    rw [hb, ob, let_x, ob, if_pos (by decide), dig_x, ob, if_pos (by decide), if_neg (by decide), if_neg (by decide), ni_s, ni_sbl]
  · unfold f_Model_kindAt
    rw [hb, ob, if_pos rfl]; rfl
def SCAN (v u v' u' : Va) (k1 nb : Nat) (B : Nat → Nat) (k : Nat) : Prop := ∃ nt, k ≤ nt ∧ nt ≤ 400 ∧ (∀ i, i < nt → TOK v' u' k1 nb B i) ∧ (∃ n, (n = 49 ∨ n = 50) ∧ v' 5 nt = nI n ∧ u' (k1 + 1) nt = nI (kmap n)) ∧ v' 7 nt = u' (k1 + 2) nt ∧ FT v v' ∧ FU k1 u u'
theorem tok_keep (h : TOK v u k1 nb B i) (hi : i < k) : TOK (AD v k x1 x2 x3 x4) (MU u k1 k (nI p) (nI l) (nI q)) k1 nb B i := by
  obtain ⟨a1, a2, a3, a4, -⟩ := AD_5 (v := v) (k := k) (x1 := x1) (x2 := x2) (x3 := x3) (x4 := x4)
  obtain ⟨b1, b2, b3⟩ := MU_1 (u := u) (k1 := k1) (k := k) (x1 := nI p) (x2 := nI l) (x3 := nI q)
  refine h.fr (fun j hj => ?_) ?_
  · rw [a1, a2, a3, a4, upd_ne (by omega), upd_ne (by omega), upd_ne (by omega), upd_ne (by omega)]
    exact ⟨rfl, rfl, rfl, rfl⟩
  · rw [b1, b2, b3, upd_ne (by omega), upd_ne (by omega), upd_ne (by omega)]
    exact ⟨rfl, rfl, rfl⟩
theorem j64 {t : Int32 × Int32 × Va} (ha : a ≤ nb) (hnb : nb ≤ 2000) (ht : t.1 = nI a) (hk : v 3 2 = nI k) (hk4 : k ≤ 400) : j_Tokens_scan_64 (nI nb) t v = some (AD v k (nI (if a = nb then 49 else 50)) (nI a) 0 0) := by
  unfold j_Tokens_scan_64 j_Tokens_scan_77
  rw [ht, add_c hk hk4, add_c hk hk4, ob, ob]
  by_cases h : a = nb
  · rw [if_pos h, if_pos (by rw [le_n (by omega) (by omega)]; omega)]; rfl
  · rw [if_neg h, if_neg (by rw [le_n (by omega) (by omega)]; omega)]; rfl
theorem sc_two (hk1 : 194 ≤ k1) (hz : 4000 < z) : ∀ m k, k + m = 400 → ∀ (fu fv p : Nat) (v u : Va), m < fu → m < fv → TBc v B nb → TBm u B nb → v 3 2 = nI k → p ≤ nb → (∀ i, i < k → TOK v u k1 nb B i) →
    ∃ v' u', rp (b_Tokens_scan_18 z (nI nb)) fu (nI (bkE B nb p), nI k, v) = some v' ∧ rp (b_Model_cut_4 z sp k1) fv (nI p, nI k, u) = some u' ∧ SCAN v u v' u' k1 nb B k := by
  intro m
  induction m with
  | zero =>
    intro k hk fu fv p v u hfu hfv hTc hTm h32 hp hA
    have h0 := hTc.1
    have hq := bk_le (B := B) hp
    obtain ⟨fu, rfl⟩ : ∃ f, fu = f + 1 := ⟨fu - 1, by omega⟩
    obtain ⟨fv, rfl⟩ : ∃ f, fv = f + 1 := ⟨fv - 1, by omega⟩
    have hcl : rp (b_Tokens_scan_18 z (nI nb)) (fu + 1) (nI (bkE B nb p), nI k, v) = some (AD v k (nI (if bkE B nb p = nb then 49 else 50)) (nI (bkE B nb p)) 0 0) := by
      show b_Tokens_scan_18 z (nI nb) _ (nI (bkE B nb p), nI k, v) = _
      unfold b_Tokens_scan_18
      simp only
      rw [show (400 : Int32) = nI 400 from rfl, if_pos (by rw [le_n (by omega) (by omega)]; omega), j64 (a := bkE B nb p) (k := k) (by omega) h0 rfl h32 (by omega)]
    obtain ⟨a1, a2, a3, a4, a5⟩ := AD_5 (v := v) (k := k) (x1 := nI (if bkE B nb p = nb then 49 else 50)) (x2 := nI (bkE B nb p)) (x3 := 0) (x4 := 0)
    by_cases hx : bkE B nb p = nb
    · have hst := cutS (sp := sp) (K4 := rp (b_Model_cut_4 z sp k1) fv) (l := 1) (n := 49) hTm hk1 (show k ≤ 400 by omega) hp hz (by omega) (by omega) (fun u' hu => by rw [hx]; exact end_m hu)
      rw [if_neg (fun q => q.2 rfl), if_neg (by omega)] at hst
      obtain ⟨b1, b2, b3⟩ := MU_1 (u := u) (k1 := k1) (k := k) (x1 := nI (bkE B nb p)) (x2 := nI 1) (x3 := nI (kmap 49))
      refine ⟨_, _, hcl, hst, k, Nat.le_refl _, by omega, fun i hi => tok_keep (hA i hi) hi, ⟨49, Or.inl rfl, ?_, ?_⟩, ?_, FT.ad, FU.mu⟩
      · rw [a1, upd_eq, if_pos hx]
      · rw [b1, upd_eq]
      · rw [a2, b2, upd_eq, upd_eq]
    · obtain ⟨l, n, o1, o2, o3, o4, o5, -, -⟩ := one_any (sp := sp) hTc (show bkE B nb p < nb by omega) h32 (by omega) hA hz
      have hst := cutS (sp := sp) (K4 := rp (b_Model_cut_4 z sp k1) fv) (l := l) (n := n) hTm hk1 (show k ≤ 400 by omega) hp hz (by omega) o3 o5
      rw [if_pos ⟨by omega, o4⟩] at hst
      obtain ⟨b1, b2, b3⟩ := MU_1 (u := u) (k1 := k1) (k := k) (x1 := nI (bkE B nb p)) (x2 := nI l) (x3 := 71)
      refine ⟨_, _, hcl, hst, k, Nat.le_refl _, by omega, fun i hi => tok_keep (q := 71) (hA i hi) hi, ⟨50, Or.inr rfl, ?_, ?_⟩, ?_, FT.ad, FU.mu⟩
      · rw [a1, upd_eq, if_neg hx]
      · rw [b1, upd_eq]; rfl
      · rw [a2, b2, upd_eq, upd_eq]
  | succ m ih =>
    intro k hk fu fv p v u hfu hfv hTc hTm h32 hp hA
    have h0 := hTc.1
    have hq := bk_le (B := B) hp
    obtain ⟨fu, rfl⟩ : ∃ f, fu = f + 1 := ⟨fu - 1, by omega⟩
    obtain ⟨fv, rfl⟩ : ∃ f, fv = f + 1 := ⟨fv - 1, by omega⟩
    show ∃ v' u', b_Tokens_scan_18 z (nI nb) (rp (b_Tokens_scan_18 z (nI nb)) fu) (nI (bkE B nb p), nI k, v) = some v' ∧ b_Model_cut_4 z sp k1 (rp (b_Model_cut_4 z sp k1) fv) (nI p, nI k, u) = some u' ∧ SCAN v u v' u' k1 nb B k
    by_cases hx : bkE B nb p = nb
    · have hst := cutS (sp := sp) (K4 := rp (b_Model_cut_4 z sp k1) fv) (l := 1) (n := 49) hTm hk1 (show k ≤ 400 by omega) hp hz (by omega) (by omega) (fun u' hu => by rw [hx]; exact end_m hu)
      rw [if_neg (fun q => q.2 rfl), if_neg (by omega)] at hst
      have hcl : b_Tokens_scan_18 z (nI nb) (rp (b_Tokens_scan_18 z (nI nb)) fu) (nI (bkE B nb p), nI k, v) = some (AD v k (nI 49) (nI (bkE B nb p)) 0 0) := by
        unfold b_Tokens_scan_18
        simp only
        rw [show (400 : Int32) = nI 400 from rfl, if_neg (by rw [le_n (by omega) (by omega)]; omega), if_pos (by rw [le_n (by omega) (by omega)]; omega), j64 (a := bkE B nb p) (k := k) (by omega) h0 rfl h32 (by omega), if_pos hx]
      obtain ⟨a1, a2, a3, a4, a5⟩ := AD_5 (v := v) (k := k) (x1 := nI 49) (x2 := nI (bkE B nb p)) (x3 := 0) (x4 := 0)
      obtain ⟨b1, b2, b3⟩ := MU_1 (u := u) (k1 := k1) (k := k) (x1 := nI (bkE B nb p)) (x2 := nI 1) (x3 := nI (kmap 49))
      refine ⟨_, _, hcl, hst, k, Nat.le_refl _, by omega, fun i hi => tok_keep (hA i hi) hi, ⟨49, Or.inl rfl, ?_, ?_⟩, ?_, FT.ad, FU.mu⟩
      · rw [a1, upd_eq]
      · rw [b1, upd_eq]
      · rw [a2, b2, upd_eq, upd_eq]
    · obtain ⟨l, n, o1, o2, o3, o4, o5, o6, o7⟩ := one_any (sp := sp) hTc (show bkE B nb p < nb by omega) h32 (by omega) hA hz
      have hst := cutS (sp := sp) (K4 := rp (b_Model_cut_4 z sp k1) fv) (l := l) (n := n) hTm hk1 (show k ≤ 400 by omega) hp hz (by omega) o3 o5
      rw [if_neg (fun q => by omega)] at hst
      have hcl : b_Tokens_scan_18 z (nI nb) (rp (b_Tokens_scan_18 z (nI nb)) fu) (nI (bkE B nb p), nI k, v) = ((f_Tokens_reads z v (nI (bkE B nb p))).bind fun q32 => if (q_b q32.1) = 0 then (j_Tokens_scan_64 (nI nb) (nI (bkE B nb p), nI k, v) q32.2) else (bnd (row_g 401 (q32.2 9) ((q32.2 3 2) - 1)) fun q50 => (f_Tokens_behindBlanks z q32.2 (nI (bkE B nb p) + q50)).bind fun q54 => rp (b_Tokens_scan_18 z (nI nb)) fu (q54, (nI k + 1), q32.2))) := by
        rw [b_Tokens_scan_18]
        simp only
        rw [show (400 : Int32) = nI 400 from rfl, if_neg (by rw [le_n (by omega) (by omega)]; omega), if_neg (by rw [le_n (by omega) (by omega)]; omega)]
      by_cases h50 : n = 50
      · rw [if_neg (by omega)] at hst
        rw [o6 h50, ob, if_pos (show q_b false = 0 by decide), j64 (a := bkE B nb p) (k := k) (by omega) h0 rfl h32 (by omega), if_neg hx] at hcl
        obtain ⟨a1, a2, a3, a4, a5⟩ := AD_5 (v := v) (k := k) (x1 := nI 50) (x2 := nI (bkE B nb p)) (x3 := 0) (x4 := 0)
        obtain ⟨b1, b2, b3⟩ := MU_1 (u := u) (k1 := k1) (k := k) (x1 := nI (bkE B nb p)) (x2 := nI l) (x3 := nI (kmap n))
        refine ⟨_, _, hcl, hst, k, Nat.le_refl _, by omega, fun i hi => tok_keep (hA i hi) hi, ⟨50, Or.inr rfl, ?_, ?_⟩, ?_, FT.ad, FU.mu⟩
        · rw [a1, upd_eq]
        · rw [b1, upd_eq, h50]
        · rw [a2, b2, upd_eq, upd_eq]
      · obtain ⟨y, y1, y2, y3⟩ := o7 h50
        rw [if_pos (by omega)] at hst
        obtain ⟨a1, a2, a3, a4, a5⟩ := AD_5 (v := v) (k := k) (x1 := nI n) (x2 := nI (bkE B nb p)) (x3 := nI l) (x4 := y)
        obtain ⟨b1, b2, b3⟩ := MU_1 (u := u) (k1 := k1) (k := k) (x1 := nI (bkE B nb p)) (x2 := nI l) (x3 := nI (kmap n))
        have fa : FT v (AD v k (nI n) (nI (bkE B nb p)) (nI l) y) := FT.ad
        have fb : FU k1 u (MU u k1 k (nI (bkE B nb p)) (nI l) (nI (kmap n))) := FU.mu
        have tc : TBc (AD v k (nI n) (nI (bkE B nb p)) (nI l) y) B nb := hTc.cong fa.2 (fa.1 2 (by omega) (by omega) (by omega) (by omega) (by omega))
        have tm : TBm (MU u k1 k (nI (bkE B nb p)) (nI l) (nI (kmap n))) B nb := hTm.cong (by rw [fb 149 (by omega) (by omega) (by omega)]) (fb 150 (by omega) (by omega) (by omega))
        have hnew : TOK (AD v k (nI n) (nI (bkE B nb p)) (nI l) y) (MU u k1 k (nI (bkE B nb p)) (nI l) (nI (kmap n))) k1 nb B k := by
          refine ⟨n, bkE B nb p, l, ?_, by omega, ?_, ?_, ?_, ?_, ?_, o2, fun h47 => ?_, fun h48 => ?_⟩
          · rw [a1, upd_eq]
          · rw [b1, upd_eq]
          · rw [a2, upd_eq]
          · rw [b2, upd_eq]
          · rw [a3, upd_eq]
          · rw [b3, upd_eq]
          · obtain ⟨f, f1, f2, f3, f4⟩ := y2 h47
            have hself : SNm (AD v k (nI n) (nI (bkE B nb p)) (nI l) y) B k (bkE B nb p) l := ⟨by rw [a3, upd_eq], bkE B nb p, by omega, by rw [a2, upd_eq], fun _ _ => rfl⟩
            refine ⟨f, f1, ?_, ?_, ?_, fun j hj hj5 => ?_⟩
            · rw [a4, upd_eq]; exact f2
            · by_cases hf : f = k
              · rw [hf, a1, upd_eq, h47]; rfl
              · rw [a1, upd_ne hf]; exact (f3 (by omega)).1
            · by_cases hf : f = k
              · rw [hf]; exact hself
              · rw [SNm.fr (v := v) (by rw [a3, a2, upd_ne hf, upd_ne hf]; exact ⟨rfl, rfl⟩)]; exact (f3 (by omega)).2
            · rw [a1, upd_ne (by omega)] at hj5
              rw [SNm.fr (v := v) (by rw [a3, a2, upd_ne (by omega), upd_ne (by omega)]; exact ⟨rfl, rfl⟩)]; exact f4 j hj hj5
          · rw [a4, upd_eq]; exact y3 h48
        rw [y1, ob, if_neg (show ¬ q_b true = 0 by decide), bd] at hcl
        simp only at hcl
        rw [a5, ni_sub1, rg (by omega) (by omega), a3, upd_eq, ni_add, bk_c tc (by omega) hz, ob, ni_s] at hcl
        obtain ⟨v', u', c1, c2, nt, d1, d2, d3, d4, d5, d6, d7⟩ := ih (k + 1) (by omega) fu fv (bkE B nb p + l) _ _ (by omega) (by omega) tc tm a5 o2 (fun i hi => by
          by_cases hik : i = k
          · rw [hik]; exact hnew
          · exact tok_keep (hA i (by omega)) (by omega))
        exact ⟨v', u', hcl.trans c1, hst.trans c2, nt, by omega, d2, d3, d4, d5, fa.tr d6, fb.tr d7⟩
end
