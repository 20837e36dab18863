/-! THE MODEL BEHIND TEACH -/
def uX (L0 : Nat) (xs : Nat → Int32) (w : Va) : Va := fun p j => if p = 151 then (if j = 4 then nI (liL L0 xs) else if j = 7 then nI (liG L0 xs) else if j = 11 then nI (liM L0 xs) else if j = 15 then nI (liT L0 xs) else if j = 20 then nI (liO L0 xs) else 0) else if p = 152 then (w 92 j) else if p = 153 then (w 94 j) else if p = 154 then (w 96 j) else if p = 155 then (w 85 j) else if p = 156 then (w 87 j) else if p = 157 then (nI (loX L0 xs j)) else if p = 158 then (w 89 j) else if p = 159 then (nI (guF L0 xs j)) else if p = 160 then (nI (guB L0 xs j)) else if p = 163 then (nI (meD L0 xs j)) else if p = 165 then (nI (ltS (liL L0 xs) L0 xs j)) else if p = 168 then (nI (orS L0 xs j)) else if p = 169 then (nI (orO (liM L0 xs) (liT L0 xs) L0 xs j)) else if p = 170 then (nI (orW (liG L0 xs) (liM L0 xs) L0 xs j)) else if p = 171 then (nI j) else if p = 172 then (if orH L0 xs j = 0 then -1 else nI j) else if p = 173 then (if j = 1 then 3 else 0) else if p = 174 then (if j < liT L0 xs then nI (100 * ltK L0 xs j) else 0) else if p = 175 then (nI (ltM (liM L0 xs) L0 xs j)) else if p = 176 then (-1) else if p = 179 then (if j < liM L0 xs then nI (meC L0 xs j) else 0) else if p = 203 then (nI (orF L0 xs j)) else if p = 204 then (nI (orN L0 xs j)) else if p = 205 then (nI (orH L0 xs j) + -1) else if p = 206 then (nI (orI L0 xs j)) else if p = 207 then (nI (orA (liM L0 xs) L0 xs j)) else if p = 208 then (nI (orB (liM L0 xs) L0 xs j)) else if p = 209 then (nI (orL (liT L0 xs) L0 xs j)) else if p = 210 then (nI (orM (liT L0 xs) L0 xs j)) else 0
section
variable {u v w v0 : Va} {L0 o j a n k sn : Nat} {xs : Nat → Int32}
theorem uX_151 : uX L0 xs w 151 j = (if j = 4 then nI (liL L0 xs) else if j = 7 then nI (liG L0 xs) else if j = 11 then nI (liM L0 xs) else if j = 15 then nI (liT L0 xs) else if j = 20 then nI (liO L0 xs) else 0) := rfl
theorem uX_152 : uX L0 xs w 152 j = (w 92 j) := rfl
theorem uX_153 : uX L0 xs w 153 j = (w 94 j) := rfl
theorem uX_154 : uX L0 xs w 154 j = (w 96 j) := rfl
theorem uX_155 : uX L0 xs w 155 j = (w 85 j) := rfl
theorem uX_156 : uX L0 xs w 156 j = (w 87 j) := rfl
theorem uX_157 : uX L0 xs w 157 j = (nI (loX L0 xs j)) := rfl
theorem uX_158 : uX L0 xs w 158 j = (w 89 j) := rfl
theorem uX_159 : uX L0 xs w 159 j = (nI (guF L0 xs j)) := rfl
theorem uX_160 : uX L0 xs w 160 j = (nI (guB L0 xs j)) := rfl
theorem uX_163 : uX L0 xs w 163 j = (nI (meD L0 xs j)) := rfl
theorem uX_165 : uX L0 xs w 165 j = (nI (ltS (liL L0 xs) L0 xs j)) := rfl
theorem uX_168 : uX L0 xs w 168 j = (nI (orS L0 xs j)) := rfl
theorem uX_169 : uX L0 xs w 169 j = (nI (orO (liM L0 xs) (liT L0 xs) L0 xs j)) := rfl
theorem uX_170 : uX L0 xs w 170 j = (nI (orW (liG L0 xs) (liM L0 xs) L0 xs j)) := rfl
theorem uX_171 : uX L0 xs w 171 j = (nI j) := rfl
theorem uX_172 : uX L0 xs w 172 j = (if orH L0 xs j = 0 then -1 else nI j) := rfl
theorem uX_173 : uX L0 xs w 173 j = (if j = 1 then 3 else 0) := rfl
theorem uX_174 : uX L0 xs w 174 j = (if j < liT L0 xs then nI (100 * ltK L0 xs j) else 0) := rfl
theorem uX_175 : uX L0 xs w 175 j = (nI (ltM (liM L0 xs) L0 xs j)) := rfl
theorem uX_176 : uX L0 xs w 176 j = (-1) := rfl
theorem uX_179 : uX L0 xs w 179 j = (if j < liM L0 xs then nI (meC L0 xs j) else 0) := rfl
theorem uX_203 : uX L0 xs w 203 j = (nI (orF L0 xs j)) := rfl
theorem uX_204 : uX L0 xs w 204 j = (nI (orN L0 xs j)) := rfl
theorem uX_205 : uX L0 xs w 205 j = (nI (orH L0 xs j) + -1) := rfl
theorem uX_206 : uX L0 xs w 206 j = (nI (orI L0 xs j)) := rfl
theorem uX_207 : uX L0 xs w 207 j = (nI (orA (liM L0 xs) L0 xs j)) := rfl
theorem uX_208 : uX L0 xs w 208 j = (nI (orB (liM L0 xs) L0 xs j)) := rfl
theorem uX_209 : uX L0 xs w 209 j = (nI (orL (liT L0 xs) L0 xs j)) := rfl
theorem uX_210 : uX L0 xs w 210 j = (nI (orM (liT L0 xs) L0 xs j)) := rfl
theorem uX_149 : uX L0 xs w 149 j = 0 := rfl
theorem uX_177 : uX L0 xs w 177 j = 0 := rfl
theorem uX_178 : uX L0 xs w 178 j = 0 := rfl
theorem uX_180 : uX L0 xs w 180 j = 0 := rfl
theorem uX_181 : uX L0 xs w 181 j = 0 := rfl
theorem uX_182 : uX L0 xs w 182 j = 0 := rfl
/-- bounds of an order's words -/
theorem or_bd (ho : o < liO L0 xs) : orF L0 xs o ≤ 7 ∧ orH L0 xs o ≤ 7 ∧ orA (liM L0 xs) L0 xs o < liM L0 xs ∧ orB (liM L0 xs) L0 xs o < liM L0 xs ∧ orL (liT L0 xs) L0 xs o < liT L0 xs ∧ orM (liT L0 xs) L0 xs o < liT L0 xs := by
  obtain ⟨b1, b2, b3, b4, b5⟩ := li_le (L0 := L0) (xs := xs)
  obtain ⟨a1, a2, a3, a4, a5, a6, a7, a8, a9, a10, a11, -⟩ := or_le (ng := liG L0 xs) (nm := liM L0 xs) (nt := liT L0 xs) (L0 := L0) (xs := xs) (i := o) b2 ⟨by omega, b3.2⟩ b4
  exact ⟨a4, a6, bel_lt (by omega), bel_lt (by omega), bel_lt (by omega), bel_lt (by omega)⟩
theorem uX_sm (h : OPx L0 xs w o) : smU (uX L0 xs w) 151 o = oSS L0 xs o := by
  obtain ⟨a, h1, h2, h3, h4, h5, h6, h7, h8, h9⟩ := h
  unfold smU
  have e5 : (uX L0 xs w) (151 + 4) o = nI a := h4
  have e6 : (uX L0 xs w) (151 + 5) o = nI (a + (oSS L0 xs o).length) := h5
  rw [e5, e6, ni_c (by omega), ni_c (by omega), Nat.add_sub_cancel_left]
  exact sgU_of _ _ h8
theorem uX_ts (h : OPx L0 xs w o) : tsU (uX L0 xs w) 151 o = oST L0 xs o := by
  obtain ⟨a, h1, h2, h3, h4, h5, h6, h7, h8, h9⟩ := h
  unfold tsU
  have e5 : (uX L0 xs w) (151 + 5) o = nI (a + (oSS L0 xs o).length) := h5
  have e6 : (uX L0 xs w) (151 + 7) o = nI (a + (oSS L0 xs o).length + (oST L0 xs o).length) := h6
  rw [e5, e6, ni_c (by omega), ni_c (by omega), Nat.add_sub_cancel_left]
  exact sgU_of _ _ h9
theorem OPx.cg (h : OPx L0 xs w o) (hv : ∀ p, 61 ≤ p → p < 97 → v p = w p) : OPx L0 xs v o := by
  unfold OPx at h ⊢
  rw [hv 79 (by omega) (by omega), hv 81 (by omega) (by omega), hv 83 (by omega) (by omega), hv 85 (by omega) (by omega), hv 87 (by omega) (by omega), hv 89 (by omega) (by omega), hv 92 (by omega) (by omega), hv 94 (by omega) (by omega), hv 96 (by omega) (by omega)]
  exact h
theorem px_li (hT : TCx L0 xs v0 w) : PX 4001 w (uX L0 xs w) 151 (liT L0 xs) (liG L0 xs) (liM L0 xs) (liO L0 xs) (smU (uX L0 xs w) 151) (tsU (uX L0 xs w) 151) := by
  intro v' u' k sn o ho hk hn hv hu hR hI
  obtain ⟨b1, b2, b3, b4, b5⟩ := li_le (L0 := L0) (xs := xs)
  obtain ⟨f1, f2, f3, f4, f5, f6⟩ := or_bd ho
  have hO0 : OPx L0 xs w o := hT.2.2.2.2.2.2.2.2.1 o ho
  rw [uX_ts hO0, uX_sm hO0]
  obtain ⟨a, h1, h2, h3, h4, h5, h6, h7, h8, h9⟩ := hO0.cg hv
  have hsn : 149 < sn := by omega
  have hts : tsU u' 151 o = oST L0 xs o := (tsU_cong (fun p a b => hu p a b)).trans (uX_ts hO0)
  have hsm : smU u' 151 o = oSS L0 xs o := (smU_cong (fun p a b => hu p a b)).trans (uX_sm hO0)
  have hqq : ∀ x, ∀ p, p ≠ 149 → (pu (pu u' 149 11 (nI sn)) 149 10 x) p = u' p := fun x p hp => by rw [pu_p hp, pu_p hp]
  have hFW : ∀ x, FW u' (pu (pu u' 149 11 (nI sn)) 149 10 x) := fun x => ⟨fun p hp => hqq x p hp, fun j hj hj2 => by rw [pu_d hj, pu_d hj2]⟩
  constructor
  · by_cases hg : orH L0 xs o = 0
    · refine Or.inl ⟨?_, ?_⟩
      · rw [h6, h5]
        have : oST L0 xs o = [] := by unfold oST; rw [hg]; rfl
        rw [this]
        exact Int32.le_refl _
      · rw [hu 172 (by omega) (by omega), uX_172, if_pos hg]
    · have hlen : 1 ≤ (oST L0 xs o).length := sT_pos (by omega) f2
      obtain ⟨b, hb⟩ := wt_b (u := u') (sn := sn) (g := orH L0 xs o) (n6 := orI L0 xs o) (a9 := orA (liM L0 xs) L0 xs o) (b9 := orB (liM L0 xs) L0 xs o) (l9 := orL (liT L0 xs) L0 xs o) (o9 := orM (liT L0 xs) L0 xs o) (by omega) f2
      have hb2 : worth u' sn (oST L0 xs o) = q_b b := hb
      have hsg : seg v' (a + (oSS L0 xs o).length) (oST L0 xs o).length = oST L0 xs o := seg_of _ _ h9
      obtain ⟨v1, e1, e2⟩ := reckon_c (z := 4001) (L := liT L0 xs) (G := liG L0 xs) (M := liM L0 xs) (a := a + (oSS L0 xs o).length) (n := (oST L0 xs o).length) hR hI.2.2.1 hk (by omega) (by omega) (by omega) (by omega) (by omega) (by rw [hsg]; exact sT_okS f2 f3 f4 f5 f6) (by rw [hsg]; exact sT_dep (by omega) f2)
      rw [hsg, hb2] at e1
      have e172 : u' 172 o = nI o := by rw [hu 172 (by omega) (by omega), uX_172, if_neg hg]
      refine Or.inr ⟨?_, ?_, b, v1, pu (pu u' 149 11 (nI sn)) 149 10 (nI o), hb2, ?_, e2, ?_, hFW _⟩
      · rw [h5, h6, le_n (by omega) (by omega)]; omega
      · show u' 172 o ≠ -1
        rw [e172]; intro q
        have := congrArg Int32.toInt q
        rw [ni_t (by omega)] at this
        have h9 : (-1 : Int32).toInt = -1 := by decide
        omega
      · rw [h5, h6]; exact e1
      · show some (decide (worth (pu (pu u' 149 11 (nI sn)) 149 10 (u' 172 o)) sn (tsU (pu (pu u' 149 11 (nI sn)) 149 10 (u' 172 o)) 151 ((pu (pu u' 149 11 (nI sn)) 149 10 (u' 172 o)) 149 10).toNatClampNeg) ≠ 0), pu (pu u' 149 11 (nI sn)) 149 10 (u' 172 o)) = _
        rw [e172, pu_s, ni_c (by omega), tsU_cong (v := u') (fun p a b => hqq _ p (by omega)), hts, worth_eq (u := u') (fun p a b => hqq _ p (by omega)), hb2]
        cases b <;> rfl
  · by_cases hs : orS L0 xs o = 0
    · have hz : (oSS L0 xs o).length = 0 := by unfold oSS sH_; rw [if_pos hs]; rfl
      obtain ⟨x, v1, e1, e2⟩ := reckon_0 (v := v') (z := 4001) (a := a) (b := a + (oSS L0 xs o).length) hk (by omega) (by omega) (by omega)
      refine ⟨x, v1, by rw [h4, h5]; exact e1, e2, fun q => absurd ?_ q⟩
      show u' 168 o = 0
      rw [hu 168 (by omega) (by omega), uX_168, hs]; rfl
    · have hss : oSS L0 xs o = sS_ (orF L0 xs o) (orN L0 xs o) (orA (liM L0 xs) L0 xs o) (orB (liM L0 xs) L0 xs o) (orL (liT L0 xs) L0 xs o) := if_neg hs
      have hsg : seg v' a (oSS L0 xs o).length = oSS L0 xs o := seg_of _ _ h8
      obtain ⟨v1, e1, e2⟩ := reckon_c (z := 4001) (L := liT L0 xs) (G := liG L0 xs) (M := liM L0 xs) (a := a) (n := (oSS L0 xs o).length) hR hI.2.2.1 hk (by omega) (by omega) (by omega) (by omega) (by omega) (by rw [hsg, hss]; exact sS_okS f1 f3 f4 f5) (by rw [hsg, hss]; exact sS_dep f1)
      rw [hsg] at e1
      have e171 : u' 171 o = nI o := by rw [hu 171 (by omega) (by omega), uX_171]
      refine ⟨_, v1, by rw [h4, h5]; exact e1, e2, fun _ => ⟨rfl, pu (pu u' 149 11 (nI sn)) 149 10 (nI o), ?_, hFW _⟩⟩
      show some (worth (pu (pu u' 149 11 (nI sn)) 149 10 (u' 171 o)) sn (smU (pu (pu u' 149 11 (nI sn)) 149 10 (u' 171 o)) 151 ((pu (pu u' 149 11 (nI sn)) 149 10 (u' 171 o)) 149 10).toNatClampNeg), pu (pu u' 149 11 (nI sn)) 149 10 (u' 171 o)) = _
      rw [e171, pu_s, ni_c (by omega), smU_cong (v := u') (fun p a b => hqq _ p (by omega)), hsm, worth_eq (u := u') (fun p a b => hqq _ p (by omega))]
theorem isum_ub {f : Nat → Int32} {B : Int} : ∀ n, (∀ i, i < n → (f i).toInt ≤ B) → isum f n ≤ n * B
  | 0, _ => by show (0 : Int) ≤ ((0 : Nat) : Int) * B; simp
  | n + 1, h => by
    have h1 := isum_ub (f := f) (B := B) n (fun i hi => h i (by omega))
    have h2 := h n (by omega)
    show isum f n + (f n).toInt ≤ ((n + 1 : Nat) : Int) * B
    rw [Int.natCast_add, Int.add_mul]
    simp only [Int.natCast_one, Int.one_mul]
    omega
theorem isum_z {f : Nat → Int32} : ∀ n, (∀ i, i < n → f i = 0) → isum f n = 0
  | 0, _ => rfl
  | n + 1, h => by
    show isum f n + (f n).toInt = 0
    rw [isum_z n (fun i hi => h i (by omega)), h n (by omega)]; rfl
theorem uX_IS : IS (uX L0 xs w) 173 (liT L0 xs) (liG L0 xs) (liM L0 xs) := by
  obtain ⟨b1, b2, b3, b4, b5⟩ := li_le (L0 := L0) (xs := xs)
  refine ⟨⟨fun i hi => ?_, fun i hi h => ?_⟩, fun i hi => ⟨_, ltM_le (by omega), rfl⟩, fun i hi => Or.inl rfl, ⟨fun i hi => ?_, ?_⟩, fun a b ha hb => ⟨Int.le_refl _, by show (0 : Int) ≤ 99999; omega, fun _ => rfl⟩, 3, by omega, rfl⟩
  · show 0 ≤ (uX L0 xs w 174 i).toInt ∧ (uX L0 xs w 174 i).toInt ≤ 9000
    have := ltK_le (L0 := L0) (xs := xs) (i := i)
    rw [uX_174, if_pos hi, toInt_nI (by omega)]
    omega
  · show uX L0 xs w 174 i = 0
    rw [uX_174, if_neg (by omega)]
  · show 0 ≤ (uX L0 xs w 179 i).toInt
    rw [uX_179]
    split
    · rw [toInt_nI (by have := meC_le (L0 := L0) (xs := xs) (i := i); omega)]; omega
    · exact Int.le_refl _
  · have := isum_ub (f := uX L0 xs w 179) (B := 9999) 6 (fun i hi => by
      rw [uX_179]
      split
      · have := meC_le (L0 := L0) (xs := xs) (i := i)
        rw [toInt_nI (by omega)]; omega
      · show (0 : Int) ≤ 9999; omega)
    show isum (uX L0 xs w 179) 6 ≤ 59994
    omega
theorem uX_PM (hT : TCx L0 xs v0 w) : PMo (uX L0 xs w) (liL L0 xs) (liG L0 xs) (liM L0 xs) (liT L0 xs) (liO L0 xs) := by
  obtain ⟨b1, b2, b3, b4, b5⟩ := li_le (L0 := L0) (xs := xs)
  refine ⟨⟨by omega, by omega, by omega, by omega, by omega⟩, ⟨rfl, rfl, rfl, rfl, rfl⟩, fun i hi => ⟨_, loX_le, rfl⟩, fun i hi => ⟨⟨_, guF_le, rfl⟩, _, guB_le, rfl⟩, fun i hi => ?_, fun i hi => ⟨_, ltS_le (by omega), rfl⟩, fun o ho => ?_, fun o ho => ?_, fun o ho => ?_⟩
  · have := meD_le (L0 := L0) (xs := xs) (i := i)
    rw [uX_163, toInt_nI (by omega)]; omega
  · rw [uX_168, uX_169, uX_170]
    have hs : orS L0 xs o ≤ 2 := (or_le (ng := liG L0 xs) (nm := liM L0 xs) (nt := liT L0 xs) (L0 := L0) (xs := xs) (i := o) b2 ⟨by omega, b3.2⟩ b4).1
    rcases (by omega : orS L0 xs o = 0 ∨ orS L0 xs o = 1 ∨ orS L0 xs o = 2) with e | e | e
    · refine Or.inl ⟨by rw [e]; rfl, ⟨_, ?_, rfl⟩, _, ?_, rfl⟩
      · unfold orO; rw [if_neg (by rw [e]; decide)]; exact bel_lt (by omega)
      · unfold orW; rw [if_pos e]; exact bel_lt (by omega)
    · refine Or.inr (Or.inl ⟨by rw [e]; rfl, ⟨_, ?_, rfl⟩, _, ?_, rfl⟩)
      · unfold orO; rw [if_neg (by rw [e]; decide)]; exact bel_lt (by omega)
      · unfold orW; rw [if_neg (by rw [e]; decide)]; exact bel_lt (by omega)
    · refine Or.inr (Or.inr ⟨by rw [e]; rfl, ⟨_, ?_, rfl⟩, _, ?_, rfl⟩)
      · unfold orO; rw [if_pos e]; exact bel_lt (by omega)
      · unfold orW; rw [if_neg (by rw [e]; decide)]; exact bel_lt (by omega)
  · have hO : OPx L0 xs w o := hT.2.2.2.2.2.2.2.2.1 o ho
    obtain ⟨f1, f2, f3, f4, f5, f6⟩ := or_bd ho
    refine ⟨rfl, fun hs => ?_, ?_⟩
    · rw [uX_sm hO]
      have hs2 : orS L0 xs o ≠ 0 := fun e => hs (by rw [uX_168, e]; rfl)
      exact (if_neg hs2).trans (stS_eq (r := rO (uX L0 xs w) o) rfl rfl rfl rfl rfl f1).symm
    · by_cases hg : orH L0 xs o = 0
      · refine Or.inl ⟨?_, ?_⟩
        · rw [uX_205, hg]; decide
        · rw [uX_172, if_pos hg]
      · refine Or.inr ⟨?_, ?_, ?_⟩
        · rw [uX_205]
          rcases (by omega : orH L0 xs o = 1 ∨ orH L0 xs o = 2 ∨ orH L0 xs o = 3 ∨ orH L0 xs o = 4 ∨ orH L0 xs o = 5 ∨ orH L0 xs o = 6 ∨ orH L0 xs o = 7) with e | e | e | e | e | e | e <;> rw [e] <;> decide
        · rw [uX_172, if_neg hg]
        · rw [uX_ts hO]
          exact (stT_eq (r := rO (uX L0 xs w) o) rfl rfl rfl rfl rfl rfl f2).symm
  · obtain ⟨f1, f2, f3, f4, f5, f6⟩ := or_bd ho
    refine ⟨⟨_, f3, rfl⟩, ⟨_, f4, rfl⟩, ⟨_, f5, rfl⟩, ⟨_, f6, rfl⟩, ⟨_, by omega, rfl⟩, ?_⟩
    rw [uX_205]
    rcases (by omega : orH L0 xs o = 0 ∨ orH L0 xs o = 1 ∨ orH L0 xs o = 2 ∨ orH L0 xs o = 3 ∨ orH L0 xs o = 4 ∨ orH L0 xs o = 5 ∨ orH L0 xs o = 6 ∨ orH L0 xs o = 7) with e | e | e | e | e | e | e | e <;> rw [e]
    · exact Or.inl (by decide)
    · exact Or.inr ⟨0, by omega, by decide⟩
    · exact Or.inr ⟨1, by omega, by decide⟩
    · exact Or.inr ⟨2, by omega, by decide⟩
    · exact Or.inr ⟨3, by omega, by decide⟩
    · exact Or.inr ⟨4, by omega, by decide⟩
    · exact Or.inr ⟨5, by omega, by decide⟩
    · exact Or.inr ⟨6, by omega, by decide⟩
theorem uX_QI (hT : TCx L0 xs v0 w) (h1 : v0 97 1 = 0) (h2 : v0 97 2 = 3) : QI 4001 w (uX L0 xs w) (liL L0 xs) (liG L0 xs) (liM L0 xs) (liT L0 xs) (liO L0 xs) := by
  have hP := uX_PM hT
  obtain ⟨b1, b2, b3, b4, b5⟩ := li_le (L0 := L0) (xs := xs)
  refine ⟨⟨hP.1, ?_, hP.2.1, fun i hi => ?_, fun i hi => ?_, fun i hi => ?_, fun i hi => ?_, fun o ho => ?_⟩, px_li hT, ?_, uX_IS, ?_, hP⟩
  · exact hT.2.1
  · exact ⟨hT.2.2.1 i hi, hP.2.2.1 i hi⟩
  · have := hT.2.2.2.1 i hi
    exact ⟨this.1, this.2, hP.2.2.2.1 i hi⟩
  · exact ⟨(hT.2.2.2.2.1 i hi).2, hP.2.2.2.2.1 i hi⟩
  · exact ⟨(hT.2.2.2.2.2.2.1 i hi).1, hP.2.2.2.2.2.1 i hi⟩
  · obtain ⟨a, k1, k2, k3, -⟩ := hT.2.2.2.2.2.2.2.2.1 o ho
    exact ⟨k1, k2, k3, hP.2.2.2.2.2.2.1 o ho⟩
  · obtain ⟨-, -, -, -, c1, c2, c3, c4, -, c5, c6, c7, c8, c9, c10, c11, c12⟩ := hT
    refine ⟨⟨by rw [c8, h1]; rfl, by rw [c9, h2]; rfl, c10, c11, c12⟩, fun i hi => ?_, fun i hi => (c3 i hi).2.2.1, fun i hi => (c3 i hi).2.2.2.1, fun i hi => ?_, fun i hi q => absurd rfl q, fun i hi => ?_, fun i hi => c5 i hi, fun i hi => c6 i hi, fun i hi => c7 i hi⟩
    · show w 99 i = uX L0 xs w 174 i
      rw [uX_174]
      by_cases h : i < liT L0 xs
      · rw [if_pos h]; exact (c3 i h).2.1
      · rw [if_neg h]; exact c4 i hi (by omega)
    · rw [show (uX L0 xs w) (173 + 3) i = -1 from rfl, if_pos rfl]
      exact (c3 i hi).2.2.2.2.1
    · show w 109 i = uX L0 xs w 179 i
      rw [uX_179]
      by_cases h : i < liM L0 xs
      · rw [if_pos h]; exact (c1 i h).1
      · rw [if_neg h]; exact c2 i hi (by omega)
  · rw [hT.1]; rfl
theorem uX_LI (hT : TCx L0 xs v0 w) : LI (uX L0 xs w) (liL L0 xs) (liG L0 xs) (liM L0 xs) (liT L0 xs) (liO L0 xs) (isum (uX L0 xs w 179) 6) 0 := by
  refine ⟨uX_PM hT, uX_IS, fun g _ => Int.le_refl _, ?_, ⟨0, Nat.le_refl _, rfl⟩, rfl, fun a ha h => ?_, fun g _ => rfl⟩
  · rw [isum_z (f := uX L0 xs w 181) 4 (fun i _ => rfl), Int.add_zero]
  · rw [uX_179, if_neg (by omega)]
theorem lo_at {i : Nat} : guG L0 xs i 0 = nI (guF L0 xs i) ∧ guG L0 xs i 1 = nI (guB L0 xs i) ∧ guG L0 xs i 2 = 0 := by
  unfold guG
  refine ⟨?_, ?_, ?_⟩ <;> simp (disch := decide) only [upd_ne, upd_eq]
theorem me_at {i : Nat} : meG L0 xs i 0 = nI (meC L0 xs i) ∧ meG L0 xs i 1 = nI (meD L0 xs i) := by
  unfold meG
  refine ⟨?_, ?_⟩ <;> simp (disch := decide) only [upd_ne, upd_eq]
theorem lt_at {i nl nm : Nat} : ltG nl nm L0 xs i 0 = nI (ltS nl L0 xs i) ∧ ltG nl nm L0 xs i 1 = nI (100 * ltK L0 xs i) ∧ ltG nl nm L0 xs i 2 = nI (ltM nm L0 xs i) ∧ ltG nl nm L0 xs i 3 = -1 ∧ ltG nl nm L0 xs i 4 = 0 ∧ ltG nl nm L0 xs i 5 = 0 := by
  unfold ltG
  refine ⟨?_, ?_, ?_, ?_, ?_, ?_⟩ <;> simp (disch := decide) only [upd_ne, upd_eq]
theorem or_at {i ng nm nt : Nat} : (orG ng nm nt L0 xs i 0 = nI (orS L0 xs i) ∧ orG ng nm nt L0 xs i 1 = nI (orO nm nt L0 xs i) ∧ orG ng nm nt L0 xs i 2 = nI (orW ng nm L0 xs i) ∧ orG ng nm nt L0 xs i 3 = nI (orF L0 xs i)) ∧ (orG ng nm nt L0 xs i 4 = nI (orN L0 xs i) ∧ orG ng nm nt L0 xs i 5 = nI (orH L0 xs i) + -1 ∧ orG ng nm nt L0 xs i 6 = nI (orI L0 xs i) ∧ orG ng nm nt L0 xs i 7 = nI (orA nm L0 xs i)) ∧ orG ng nm nt L0 xs i 8 = nI (orB nm L0 xs i) ∧ orG ng nm nt L0 xs i 9 = nI (orL nt L0 xs i) ∧ orG ng nm nt L0 xs i 10 = nI (orM nt L0 xs i) ∧ orG ng nm nt L0 xs i 11 = 0 := by
  unfold orG
  refine ⟨⟨?_, ?_, ?_, ?_⟩, ⟨?_, ?_, ?_, ?_⟩, ?_, ?_, ?_, ?_⟩ <;> simp (disch := decide) only [upd_ne, upd_eq]
theorem uX_SR {x : Va} {r : Nat} {pA : Nat → Nat} {pB : Nat → Nat → Nat} (h : SMV x r pA pB L0 xs) : SR x (uX L0 xs w) r pA pB (liL L0 xs) (liG L0 xs) (liM L0 xs) (liT L0 xs) (liO L0 xs) := by
  obtain ⟨h1, h2, h3, h4, h5, h6, h7, h8, h9⟩ := h
  intro j i f hv
  rcases hv with ⟨rfl, rfl, hf⟩ | ⟨rfl, hi, hf⟩ | ⟨rfl, hi, hf⟩ | ⟨rfl, hi, hf⟩ | ⟨rfl, hi, hf⟩ | ⟨rfl, hi, hf⟩ | ⟨rfl, rfl, hf⟩ | ⟨rfl, rfl, hf⟩
  · show x (pA 0) f = uX L0 xs w 157 f
    rw [h3, uX_157]; unfold loG; exact if_pos hf
  · rcases (by omega : f = 0 ∨ f = 1 ∨ f = 2) with rfl | rfl | rfl
    · show x (pB 1 i) 0 = uX L0 xs w 159 i
      rw [h5 i hi, lo_at.1, uX_159]
    · show x (pB 1 i) 1 = uX L0 xs w 160 i
      rw [h5 i hi, lo_at.2.1, uX_160]
    · show x (pB 1 i) 2 = uX L0 xs w 181 i
      rw [h5 i hi, lo_at.2.2, uX_181]
  · rcases (by omega : f = 0 ∨ f = 1) with rfl | rfl
    · show x (pB 2 i) 0 = uX L0 xs w 179 i
      rw [h6 i hi, me_at.1, uX_179, if_pos hi]
    · show x (pB 2 i) 1 = uX L0 xs w 163 i
      rw [h6 i hi, me_at.2, uX_163]
  · show x (pB 3 i) f = uX L0 xs w 180 (6 * i + f)
    rw [h7 i hi, uX_180]
  · rcases (by omega : f = 0 ∨ f = 1 ∨ f = 2 ∨ f = 3 ∨ f = 4 ∨ f = 5) with rfl | rfl | rfl | rfl | rfl | rfl
    · show x (pB 4 i) 0 = uX L0 xs w 165 i
      rw [h8 i hi, lt_at.1, uX_165]
    · show x (pB 4 i) 1 = uX L0 xs w 174 i
      rw [h8 i hi, lt_at.2.1, uX_174, if_pos hi]
    · show x (pB 4 i) 2 = uX L0 xs w 175 i
      rw [h8 i hi, lt_at.2.2.1, uX_175]
    · show x (pB 4 i) 3 = uX L0 xs w 176 i
      rw [h8 i hi, lt_at.2.2.2.1, uX_176]
    · show x (pB 4 i) 4 = uX L0 xs w 177 i
      rw [h8 i hi, lt_at.2.2.2.2.1, uX_177]
    · show x (pB 4 i) 5 = uX L0 xs w 178 i
      rw [h8 i hi, lt_at.2.2.2.2.2, uX_178]
  · rcases (by omega : f = 0 ∨ f = 1 ∨ f = 2 ∨ f = 3 ∨ f = 4 ∨ f = 5 ∨ f = 6 ∨ f = 7 ∨ f = 8 ∨ f = 9 ∨ f = 10 ∨ f = 11) with rfl | rfl | rfl | rfl | rfl | rfl | rfl | rfl | rfl | rfl | rfl | rfl
    · show x (pB 5 i) 0 = uX L0 xs w 168 i
      rw [h9 i hi, or_at.1.1, uX_168]
    · show x (pB 5 i) 1 = uX L0 xs w 169 i
      rw [h9 i hi, or_at.1.2.1, uX_169]
    · show x (pB 5 i) 2 = uX L0 xs w 170 i
      rw [h9 i hi, or_at.1.2.2.1, uX_170]
    · show x (pB 5 i) 3 = uX L0 xs w 203 i
      rw [h9 i hi, or_at.1.2.2.2, uX_203]
    · show x (pB 5 i) 4 = uX L0 xs w 204 i
      rw [h9 i hi, or_at.2.1.1, uX_204]
    · show x (pB 5 i) 5 = uX L0 xs w 205 i
      rw [h9 i hi, or_at.2.1.2.1, uX_205]
    · show x (pB 5 i) 6 = uX L0 xs w 206 i
      rw [h9 i hi, or_at.2.1.2.2.1, uX_206]
    · show x (pB 5 i) 7 = uX L0 xs w 207 i
      rw [h9 i hi, or_at.2.1.2.2.2, uX_207]
    · show x (pB 5 i) 8 = uX L0 xs w 208 i
      rw [h9 i hi, or_at.2.2.1, uX_208]
    · show x (pB 5 i) 9 = uX L0 xs w 209 i
      rw [h9 i hi, or_at.2.2.2.1, uX_209]
    · show x (pB 5 i) 10 = uX L0 xs w 210 i
      rw [h9 i hi, or_at.2.2.2.2.1, uX_210]
    · show x (pB 5 i) 11 = uX L0 xs w 182 i
      rw [h9 i hi, or_at.2.2.2.2.2, uX_182]
  · rcases (by omega : f = 0 ∨ f = 1 ∨ f = 2) with rfl | rfl | rfl
    · show x (pA 6) 0 = uX L0 xs w 173 3
      rw [h4, uX_173, if_neg (by decide)]
    · show x (pA 6) 1 = uX L0 xs w 173 2
      rw [h4, uX_173, if_neg (by decide)]
    · show x (pA 6) 2 = uX L0 xs w 173 4
      rw [h4, uX_173, if_neg (by decide)]
  · rcases (by omega : f = 0 ∨ f = 1) with rfl | rfl
    · show x r 0 = uX L0 xs w 173 0
      rw [h1, uX_173, if_neg (by decide)]
    · show x r 1 = uX L0 xs w 173 1
      rw [h2, uX_173, if_pos rfl]
end
