/-! THE SCANNER: names, signs, a whole text -/
section
variable {v v0 v1 w u : Va} {m p l n z i k a b s : Nat} {y c : Int32} {ts : List Tk}
def TkB (ts : List Tk) : Prop := ∀ (i : Nat) (t : Tk), ts[i]? = some t → t.1 ≤ 50 ∧ t.2.1 + t.2.2.1 ≤ 1990
theorem sk_first {ts : List Tk} {j : Nat} (h : SK v0 v m ts) (hn : ts.length ≤ 400) (hT : TkB ts) (hpl : p + l ≤ 1990) (hz : 4000 < z) (hj : j ≤ ts.length) (hbe : ∀ i (t : Tk), i < j → ts[i]? = some t → ¬ (t.1 = 47 ∧ t.2.2.1 = l ∧ ∀ q, q < l → v 2 (t.2.1 + q) = v 2 (p + q)))
    (hat : j = ts.length ∨ ∃ t : Tk, ts[j]? = some t ∧ t.1 = 47 ∧ t.2.2.1 = l ∧ ∀ q, q < l → v 2 (t.2.1 + q) = v 2 (p + q)) : f_Tokens_firstWithName z v (nI p) (nI l) = some (nI j) := by
  unfold f_Tokens_firstWithName
  refine rp_go (f := b_Tokens_firstWithName_2 z v (nI p) (nI l)) (fun i => nI i) j (fun K => ?_) (fun K i hi => ?_) (by omega)
  · unfold b_Tokens_firstWithName_2
    rw [h.2.1]
    rcases hat with he | ⟨t, t1, t2, t3, t4⟩
    · rw [if_pos (by rw [he]; exact Int32.le_refl _), he]
    · have hlt : j < ts.length := (List.getElem?_eq_some_iff.mp t1).1
      obtain ⟨k1, k2, k3, -⟩ := h.2.2.1 j t t1
      obtain ⟨b1, b2⟩ := hT j t t1
      obtain ⟨x, x1, x2⟩ := sk_same (v := v) (a := t.2.1) (b := p) (l := l) (by omega) hpl hz
      have hx : x = true := x2.mpr t4
      rw [if_neg (by rw [le_n (by omega) (by omega)]; omega), bd, rg (by omega) (by omega), k1, t2, if_pos (show nI 47 = 47 from rfl), bd, rg (by omega) (by omega), k3, t3, if_pos rfl, bd, rg (by omega) (by omega), k2, x1, ob, hx, if_neg (by decide)]
  · have hlt : i < ts.length := by omega
    obtain ⟨t, ht⟩ : ∃ t, ts[i]? = some t := ⟨ts[i], List.getElem?_eq_getElem hlt⟩
    obtain ⟨k1, k2, k3, -⟩ := h.2.2.1 i t ht
    obtain ⟨b1, b2⟩ := hT i t ht
    have hno := hbe i t hi ht
    unfold b_Tokens_firstWithName_2 j_Tokens_firstWithName_54
    rw [h.2.1, if_neg (by rw [le_n (by omega) (by omega)]; omega), bd, rg (by omega) (by omega), k1, ni_s]
    by_cases q1 : t.1 = 47
    · rw [if_pos (by rw [q1]; rfl), bd, rg (by omega) (by omega), k3]
      by_cases q2 : t.2.2.1 = l
      · obtain ⟨x, x1, x2⟩ := sk_same (v := v) (a := t.2.1) (b := p) (l := l) (by omega) hpl hz
        have hx : x = false := by
          cases x
          · rfl
          · exact absurd ⟨q1, q2, x2.mp rfl⟩ hno
        rw [if_pos (by rw [q2]), bd, rg (by omega) (by omega), k2, x1, ob, hx, if_pos (by decide)]
      · rw [if_neg (by rw [eq_n (by omega) (by omega)]; exact q2)]
    · rw [if_neg (by rw [show (47 : Int32) = nI 47 from rfl, eq_n (by omega) (by omega)]; exact q1)]
theorem sk_name {ts : List Tk} {j : Nat} (h : SK v0 v m ts) (hn : ts.length ≤ 400) (hm : m ≤ 1990) (hl1 : 1 ≤ l) (hl10 : l ≤ 10) (hl : p + l ≤ m) (hc : ∀ i, i < l → wch (v 2 (p + i)) = true) (he : p + l = m ∨ wch (v 2 (p + l)) = false) (hz : 4000 < z) (hk : f_Tokens_keyword z v (nI p) (nI l) = some 47) (hf : f_Tokens_firstWithName z v (nI p) (nI l) = some (nI j)) : ∃ w, f_Tokens_readsWord z v (nI p) = some (true, w) ∧ SK v0 w m (ts ++ [(47, p, l, nI j)]) := by
  obtain ⟨w, e1, e2⟩ := sk_add (k := 47) (p := p) (l := l) (y := nI j) h hn
  refine ⟨w, ?_, e2⟩
  rw [sk_wloop h.1 hm hl1 hl hc he hz]
  unfold j_Tokens_readsWord_46 j_Tokens_readsWord_89
  rw [ni_subn, if_pos (by rw [show (10 : Int32) = nI 10 from rfl, le_n (by omega) (by omega)]; exact hl10), hk, ob, if_pos rfl, hf, ob, show (47 : Int32) = nI 47 from rfl, e1, ob]
/-- signs -/
def sgB : List Int32 := [40, 41, 91, 93, 59, 44, 43, 45, 42, 47, 60, 62, 61]
theorem sg_tab : ∀ i : Fin 13, f_Str_indexOf_0f7a4 4001 (fun _ _ => 0) litX10_77 (((sgB.getD i.val 0).toUInt32 % 65536).toInt32) = some (nI i.val) := by decide +kernel
theorem sg_ix (hi : i < 13) : f_Str_indexOf_0f7a4 4001 v litX10_77 (((sgB.getD i 0).toUInt32 % 65536).toInt32) = some (nI i) := sg_tab ⟨i, hi⟩
theorem sk_sign {ts : List Tk} (h : SK v0 v m ts) (hn : ts.length ≤ 400) (hm : m ≤ 1990) (hp : p < m) (hi : i < 13) (hne : (sgB.getD i 0 ≠ 60 ∧ sgB.getD i 0 ≠ 62) ∨ (p + 1 < m ∧ v 2 (p + 1) ≠ 61)) : ∃ w, f_Tokens_readsSign 4001 v (nI p) (sgB.getD i 0) = some (true, w) ∧ SK v0 w m (ts ++ [(32 + i, p, 1, 0)]) := by
  obtain ⟨w, e1, e2⟩ := sk_add (k := 32 + i) (p := p) (l := 1) (y := 0) h hn
  refine ⟨w, ?_, e2⟩
  have h92 : j_Tokens_readsSign_92 v (nI p) (nI i) = some (true, w) := by
    unfold j_Tokens_readsSign_92
    rw [show (32 : Int32) + nI i = nI (32 + i) from ni_add 32 i, show (1 : Int32) = nI 1 from rfl, e1, ob]
  have h44f : j_Tokens_readsSign_44 v (nI p) (sgB.getD i 0) (nI i) false = some (true, w) := by
    unfold j_Tokens_readsSign_44 j_Tokens_readsSign_69
    rw [if_pos (show q_b false = 0 from rfl), if_pos (show q_b false = 0 from rfl), h92]
    simp
  have h44t : sgB.getD i 0 ≠ 60 ∧ sgB.getD i 0 ≠ 62 → j_Tokens_readsSign_44 v (nI p) (sgB.getD i 0) (nI i) true = some (true, w) := fun ⟨a, b⟩ => by
    unfold j_Tokens_readsSign_44 j_Tokens_readsSign_69
    rw [if_neg a, if_neg b, h92]
  unfold f_Tokens_readsSign j_Tokens_readsSign_43
  rw [sg_ix hi, ob, if_pos (Int32.not_lt.mp (ni_0 (by omega))), h.1, ni_s]
  by_cases hq : p + 1 = m
  · rw [if_pos (by rw [hq]; exact Int32.le_refl _)]; exact h44f
  · rw [if_neg (by rw [le_n (by omega) (by omega)]; omega), bd, rg (by omega) (by omega)]
    rcases hne with hne | ⟨-, hne⟩
    · split
      · exact h44t hne
      · exact h44f
    · rw [if_neg hne]; exact h44f
theorem sk_atmost {ts : List Tk} (h : SK v0 v m ts) (hn : ts.length ≤ 400) (hm : m ≤ 1990) (hp : p + 1 < m) (hq : v 2 (p + 1) = 61) : ∃ w, f_Tokens_readsSign 4001 v (nI p) 60 = some (true, w) ∧ SK v0 w m (ts ++ [(45, p, 2, 0)]) := by
  obtain ⟨w, e1, e2⟩ := sk_add (k := 45) (p := p) (l := 2) (y := 0) h hn
  refine ⟨w, ?_, e2⟩
  unfold f_Tokens_readsSign j_Tokens_readsSign_44
  rw [show (60 : Int32) = sgB.getD 10 0 from rfl, sg_ix (by omega), ob, if_pos (Int32.not_lt.mp (ni_0 (by omega))), h.1, ni_s, if_neg (by rw [le_n (by omega) (by omega)]; omega), bd, rg (by omega) (by omega), if_pos hq, if_pos (by decide), if_neg (by decide), show (45 : Int32) = nI 45 from rfl, show (2 : Int32) = nI 2 from rfl, e1, ob]
/-- a piece is read -/
def RDs (v0 : Va) (m p : Nat) (ts : List Tk) (t : Tk) : Prop := ∀ v, SK v0 v m ts → ∃ w, f_Tokens_reads 4001 v (nI p) = some (true, w) ∧ SK v0 w m (ts ++ [t])
theorem rd_word (hp : p < 2000) (h1 : f_Tokens_isLetter (v 2 p) = some true) (h : ∃ w, f_Tokens_readsWord z v (nI p) = some (true, w) ∧ SK v0 w m ts) : ∃ w, f_Tokens_reads z v (nI p) = some (true, w) ∧ SK v0 w m ts := by
  obtain ⟨w, e1, e2⟩ := h
  refine ⟨w, ?_, e2⟩
  unfold f_Tokens_reads
  rw [bd, rg (by omega) (by omega), h1, ob, if_neg (by decide), e1, ob]
theorem rd_num (hp : p < 2000) (h1 : f_Tokens_isLetter (v 2 p) = some false) (h2 : f_Tokens_isDigit (v 2 p) = some true) (h : ∃ w, f_Tokens_readsNumber z v (nI p) = some (true, w) ∧ SK v0 w m ts) : ∃ w, f_Tokens_reads z v (nI p) = some (true, w) ∧ SK v0 w m ts := by
  obtain ⟨w, e1, e2⟩ := h
  refine ⟨w, ?_, e2⟩
  unfold f_Tokens_reads
  rw [bd, rg (by omega) (by omega), h1, ob, if_pos (by decide), h2, ob, if_neg (by decide), e1, ob]
theorem rd_sign (hp : p < 2000) (h0 : v 2 p = c) (h1 : f_Tokens_isLetter c = some false) (h2 : f_Tokens_isDigit c = some false) (h : ∃ w, f_Tokens_readsSign z v (nI p) c = some (true, w) ∧ SK v0 w m ts) : ∃ w, f_Tokens_reads z v (nI p) = some (true, w) ∧ SK v0 w m ts := by
  obtain ⟨w, e1, e2⟩ := h
  refine ⟨w, ?_, e2⟩
  unfold f_Tokens_reads
  rw [bd, rg (by omega) (by omega), h0, h1, ob, if_pos (by decide), h2, ob, if_pos (by decide), e1, ob]
/-- pieces: kind, length, blanks behind, value -/
def tks : Nat → List Tk → List Tk
  | _, [] => []
  | p, t :: ps => (t.1, p, t.2.1, t.2.2.2) :: tks (p + t.2.1 + t.2.2.1) ps
def RDA (v0 : Va) (m : Nat) : Nat → List Tk → List Tk → Prop
  | p, _, [] => p = m
  | p, ts, t :: ps => p < m ∧ RDs v0 m p ts (t.1, p, t.2.1, t.2.2.2) ∧ (∀ i, i < t.2.2.1 → v0 2 (p + t.2.1 + i) = 32 ∨ v0 2 (p + t.2.1 + i) = 10) ∧ (p + t.2.1 + t.2.2.1 = m ∨ (v0 2 (p + t.2.1 + t.2.2.1) ≠ 32 ∧ v0 2 (p + t.2.1 + t.2.2.1) ≠ 10)) ∧ p + t.2.1 + t.2.2.1 ≤ m ∧ RDA v0 m (p + t.2.1 + t.2.2.1) (ts ++ [(t.1, p, t.2.1, t.2.2.2)]) ps
theorem scan_all (hm : m ≤ 1990) : ∀ (ps : List Tk) (p : Nat) (ts : List Tk) (v : Va) (fu : Nat), SK v0 v m ts → ts.length + ps.length < 400 → ps.length < fu → RDA v0 m p ts ps → ∃ w, rp (b_Tokens_scan_18 4001 (nI m)) fu (nI p, nI ts.length, v) = some w ∧ SK v0 w m (ts ++ tks p ps ++ [(49, m, 0, 0)])
  | [], p, ts, v, 0, _, _, hf, _ => absurd hf (Nat.not_lt_zero _)
  | [], p, ts, v, fu + 1, h, hn, _, hr => by
    have hr : p = m := hr
    subst hr
    have hn : ts.length < 400 := hn
    obtain ⟨w, e1, e2⟩ := sk_add (k := 49) (p := p) (l := 0) (y := 0) h (by omega)
    refine ⟨w, ?_, by rw [show tks p [] = [] from rfl, List.append_nil]; exact e2⟩
    show b_Tokens_scan_18 4001 (nI p) (rp _ fu) (nI p, nI ts.length, v) = some w
    unfold b_Tokens_scan_18 j_Tokens_scan_64 j_Tokens_scan_77
    simp only
    rw [if_neg (by rw [show (400 : Int32) = nI 400 from rfl, le_n (by omega) (by omega)]; omega), if_pos (Int32.le_refl _), if_pos (Int32.le_refl _), show (49 : Int32) = nI 49 from rfl, show (0 : Int32) = nI 0 from rfl]
    rw [show (nI 0 : Int32) = 0 from rfl] at e1 ⊢
    rw [e1, ob]
  | t :: ps, p, ts, v, 0, _, _, hf, _ => absurd hf (Nat.not_lt_zero _)
  | t :: ps, p, ts, v, fu + 1, h, hn, hf, hr => by
    obtain ⟨r0, r1, r2, r3, r4, r5⟩ := hr
    have hn' : ts.length + (ps.length + 1) < 400 := hn
    have hf' : ps.length + 1 < fu + 1 := hf
    obtain ⟨w, e1, e2⟩ := r1 v h
    have h2 : w 2 = v0 2 := e2.2.2.2.1 2 (by omega) (by omega) (by omega) (by omega) (by omega)
    have hlen : (ts ++ [((t.1, p, t.2.1, t.2.2.2) : Tk)]).length = ts.length + 1 := by rw [List.length_append]; rfl
    have hlast := e2.2.2.1 ts.length (t.1, p, t.2.1, t.2.2.2) (by rw [List.getElem?_append_right (Nat.le_refl _), Nat.sub_self]; rfl)
    obtain ⟨x, x1, x2⟩ := scan_all hm ps (p + t.2.1 + t.2.2.1) (ts ++ [(t.1, p, t.2.1, t.2.2.2)]) w fu e2 (by rw [hlen]; omega) (by omega) r5
    have hb : f_Tokens_behindBlanks 4001 w (nI (p + t.2.1)) = some (nI (p + t.2.1 + t.2.2.1)) := sk_blank e2.1 hm r4 (fun i hi => by rw [h2]; exact r2 i hi) (by rw [h2]; exact r3) (by omega)
    have step : ∀ K : (Int32 × Int32 × Va) → Option Va, b_Tokens_scan_18 4001 (nI m) K (nI p, nI ts.length, v) = K (nI (p + t.2.1 + t.2.2.1), nI (ts.length + 1), w) := fun K => by
      unfold b_Tokens_scan_18
      simp only [e1, e2.2.1, hlen, ob, bd, ni_sub1]
      rw [if_neg (by rw [show (400 : Int32) = nI 400 from rfl, le_n (by omega) (by omega)]; omega), if_neg (by rw [le_n (by omega) (by omega)]; omega), if_neg (show ¬ q_b true = 0 by decide), rg (by omega) (by omega), hlast.2.2.1, ni_add, hb, ob, ni_s]
    refine ⟨x, ?_, ?_⟩
    · show b_Tokens_scan_18 4001 (nI m) (rp _ fu) (nI p, nI ts.length, v) = some x
      rw [step, ← hlen]
      exact x1
    · have e9 : ts ++ tks p (t :: ps) = ts ++ [((t.1, p, t.2.1, t.2.2.2) : Tk)] ++ tks (p + t.2.1 + t.2.2.1) ps := by rw [List.append_assoc]; rfl
      rw [e9]
      exact x2
end
