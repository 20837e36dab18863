/-! WHAT IS KEPT WHEN AN ORDER IS CARRIED OUT -/
section
theorem pu_e {v : Va} {p a : Nat} {y : Int32} : pu v p a y p = upd (v p) a y := up_eq _ _ _
variable {u u1 w : Va} {S G M L O o i j m a q : Nat} {d y : Int32}
theorem IS.pc (h : IS u 173 L G M) (hc : IC (upd (u 179) a y)) : IS (pu u 179 a y) 173 L G M := h.c hc
theorem IS.pd (h : IS u 173 L G M) (hc : ID (upd (u 180) q y) M) : IS (pu u 180 q y) 173 L G M := h.d hc
theorem IS.po (h : IS u 173 L G M) (hc : IQ (upd (u 175) i y) L M) : IS (pu u 175 i y) 173 L G M := h.o hc
theorem IS.pe (h : IS u 173 L G M) : IS (pu u 181 q y) 173 L G M := h.e
theorem IS.pn (h : IS u 173 L G M) : IS (pu u 182 q y) 173 L G M := h.n
theorem IS.px (h : IS u 173 L G M) (hj : j ≠ 1) : IS (pu u 173 j y) 173 L G M := h.f hj
theorem IS.pg (h : IS u 173 L G M) {y1 y2 y3 : Int32} (hc : IG (upd (u 176) i y1) (upd (u 177) i y2) L G) : IS (pu (pu (pu u 176 i y1) 177 i y2) 178 i y3) 173 L G M := by
  unfold pu
  rw [up_ne (by omega), up_ne (by omega), up_ne (by omega)]
  exact h.chop hc
/-- what an order that was carried out leaves behind -/
def KE (u u1 : Va) (L G M o : Nat) : Prop :=
  IS u1 173 L G M ∧ FM 173 u u1 ∧ u1 182 = upd (u 182) o (u 182 o + 1) ∧ (∃ s : Nat, s ≤ 1 ∧ u1 173 2 = u 173 2 + nI s ∧ u1 173 2 + u1 173 3 + u1 173 4 = u 173 2 + u 173 3 + u 173 4 + 1 ∧ (s = 0 → isum (u1 180) 36 ≤ isum (u 180) 36)) ∧
  isum (u1 179) 6 ≤ isum (u 179) 6 ∧ isum (u1 179) 6 + isum (u1 181) 4 = isum (u 179) 6 + isum (u 181) 4 ∧ u1 174 = u 174 ∧ u1 173 0 = u 173 0 ∧ u1 173 1 = u 173 1 ∧ (∀ g, g < 4 → 0 ≤ (u1 181 g).toInt) ∧ (∀ a, M ≤ a → u1 179 a = u 179 a) ∧ ∀ g, G ≤ g → u1 181 g = u 181 g
theorem KE.of (hU : ∀ p, p ≠ 149 → w p = u p) (hF : FW u w) (h : KE w u1 L G M o) : KE u u1 L G M o := by
  unfold KE at h ⊢
  simp (disch := omega) only [hU] at h
  obtain ⟨h1, h2, h3⟩ := h
  exact ⟨h1, hF.fm.tr h2, h3⟩
theorem fm_p {p : Nat} (h1 : 173 ≤ p) (h2 : p < 183) : FM 173 u (pu u p q y) := FM.pu (by omega) h1 (by omega)
theorem wg_ke (hP : PMo w S G M L O) (hI : IS w 173 L G M) (he : ∀ g, g < 4 → 0 ≤ (w 181 g).toInt) (ht : isum (w 179) 6 + isum (w 181) 4 ≤ 59994) (hi : i < L) (hj : j < G) (hm : m < M) (hc : w 159 j ≤ w 179 m) : KE w (wgU w o i j m) L G M o := by
  obtain ⟨⟨hS4, hG4, hM6, hL10, hO24⟩, -, -, hp4, -⟩ := hP
  obtain ⟨⟨f, hf, ef⟩, b, hb, eb⟩ := hp4 j hj
  have hc1 := t_le.mp hc
  have hf1 : (w 159 j).toInt = f := by rw [ef, ni_t (by omega)]
  obtain ⟨k1, k2⟩ := hI.2.2.2.1.pays (a := m) (x := w 159 j) (by omega) (by omega) hc1
  have hW := hI.1.1 i hi
  have hnn := isum_nn (f := w 179) 6 hI.2.2.2.1.1
  have hle := isum_le (f := w 181) (i := j) 4 he (by omega)
  have hlc := isum_le (f := w 179) (i := m) 6 hI.2.2.2.1.1 (by omega)
  have hen := he j (by omega)
  have hadd : (w 181 j + w 159 j).toInt = (w 181 j).toInt + (w 159 j).toInt := t_add (by omega) (by omega)
  have hsE : isum (upd (w 181) j (w 181 j + w 159 j)) 4 = isum (w 181) 4 + (w 159 j).toInt := by rw [isum_upd 4 (by omega), hadd]; omega
  have hwb : 0 ≤ (w 174 i - w 174 i * w 160 j / 100).toInt ∧ (w 174 i - w 174 i * w 160 j / 100).toInt ≤ 9000 := by
    have hW0 : 0 ≤ (w 174 i).toInt := hW.1
    have hW1 : (w 174 i).toInt ≤ 9000 := hW.2
    have h1 : (0 : Int) ≤ (w 174 i).toInt * b := Int.mul_nonneg hW0 (by omega)
    have h2 : (w 174 i).toInt * b ≤ (w 174 i).toInt * 20 := Int.mul_le_mul_of_nonneg_left (by omega) hW0
    have e1 : (w 174 i * w 160 j).toInt = (w 174 i).toInt * b := by rw [eb, t_mul, ni_t (by omega)] <;> rw [ni_t (by omega)] <;> omega
    have e3 : (w 174 i * w 160 j / 100).toInt = (w 174 i).toInt * b / 100 := by rw [t_div (n := 100) rfl (by omega) (by rw [e1]; omega), e1]
    have e4 : (w 174 i - w 174 i * w 160 j / 100).toInt = (w 174 i).toInt - (w 174 i).toInt * b / 100 := by rw [t_sub, e3] <;> rw [e3] <;> omega
    rw [e4]; omega
  have k3 : IG (upd (w 176) i (nI j)) (upd (w 177) i (w 174 i - w 174 i * w 160 j / 100)) L G := hI.2.2.1.set (i := i) hj hwb
  refine ⟨?_, ?_, ?_, ⟨0, by omega, ?_, ?_, fun _ => ?_⟩, ?_, ?_, ?_, ?_, ?_, ?_, ?_, ?_⟩
  · have h1 := (hI.pn (q := o) (y := w 182 o + 1)).px (j := 3) (y := w 173 3 + 1) (by omega)
    have h2 := h1.pc (a := m) (y := w 179 m - w 159 j) (by simp (disch := omega) only [pu_p]; exact k1)
    have h3 := h2.pe (q := j) (y := w 181 j + w 159 j)
    exact h3.pg (i := i) (by simp (disch := omega) only [pu_p]; exact k3)
  · unfold wgU
    exact (((((((fm_p (by omega) (by omega)).tr (fm_p (by omega) (by omega))).tr (fm_p (by omega) (by omega))).tr (fm_p (by omega) (by omega))).tr (fm_p (by omega) (by omega))).tr (fm_p (by omega) (by omega))).tr (fm_p (by omega) (by omega)))
  · unfold wgU; simp (disch := omega) only [pu_p, pu_e]
  · unfold wgU; simp (disch := omega) only [pu_p, pu_e, pu_d]; exact (Int32.add_zero _).symm
  · unfold wgU; simp (disch := omega) only [pu_p, pu_s, pu_d]; simp only [Int32.add_assoc]; rw [Int32.add_comm 1 (w 173 4)]
  · unfold wgU; simp (disch := omega) only [pu_p, pu_e]; exact Int.le_refl _
  · unfold wgU; simp (disch := omega) only [pu_p, pu_e]; rw [show isum (upd (w 179) m (w 179 m - w 159 j)) 6 = isum (w 179) 6 - (w 159 j).toInt from k2]; omega
  · unfold wgU; simp (disch := omega) only [pu_p, pu_e]; rw [hsE, show isum (upd (w 179) m (w 179 m - w 159 j)) 6 = isum (w 179) 6 - (w 159 j).toInt from k2]; omega
  · unfold wgU; simp (disch := omega) only [pu_p, pu_e]
  · unfold wgU; simp (disch := omega) only [pu_p, pu_d]
  · unfold wgU; simp (disch := omega) only [pu_p, pu_d]
  · intro g hg
    unfold wgU; simp (disch := omega) only [pu_p, pu_e]
    by_cases hq : g = j
    · subst hq; rw [upd_eq, hadd]; omega
    · rw [upd_ne hq]; exact he g hg
  · intro a ha
    unfold wgU; simp (disch := omega) only [pu_p, pu_e]
    rw [upd_ne (by omega)]
  · intro g hg
    unfold wgU; simp (disch := omega) only [pu_p, pu_e]
    rw [upd_ne (by omega)]
theorem sl_ke (hP : PMo w S G M L O) (hI : IS w 173 L G M) (he : ∀ g, g < 4 → 0 ≤ (w 181 g).toInt) (hi : i < L) (hj : j < M) (hm : m < M) (hmj : m ≠ j) (hd0 : 0 ≤ d.toInt) (hd1 : d.toInt ≤ 89910)
    (hc : row_t (fun b => w 180 (6 * j + b)) 6 + q_max 0 (d - w 179 j) ≤ w 163 j) : KE w (slU w o i j m d) L G M o := by
  obtain ⟨⟨hS4, hG4, hM6, hL10, hO24⟩, -, -, hp4, hp5, -⟩ := hP
  have hcj := hI.2.2.2.1.1 j (by omega)
  have hcr := hp5 j hj
  have hcm := isum_le (f := w 179) (i := j) 6 hI.2.2.2.1.1 (by omega)
  have hct : isum (w 179) 6 ≤ 59994 := hI.2.2.2.1.2
  have hcj : 0 ≤ (w 179 j).toInt := hcj
  have hd : ∀ b, b < 6 → 0 ≤ (w 180 (6 * j + b)).toInt ∧ (w 180 (6 * j + b)).toInt ≤ 99999 := fun b hb => ⟨(hI.2.2.2.2.1 j b (by omega) hb).1, (hI.2.2.2.2.1 j b (by omega) hb).2.1⟩
  obtain ⟨d1, d2, d3⟩ := row_t_int (f := fun b => w 180 (6 * j + b)) 6 (by omega) (fun b hb => ⟨(hd b hb).1, by have := (hd b hb).2; omega⟩)
  have d4 : (w 180 (6 * j + m)).toInt ≤ isum (fun b => w 180 (6 * j + b)) 6 := isum_le (f := fun b => w 180 (6 * j + b)) (i := m) 6 (fun b hb => (hd b hb).1) (by omega)
  have d5 := hd m (by omega)
  have e1 : (d - w 179 j).toInt = d.toInt - (w 179 j).toInt := t_sub (by omega) (by omega)
  have e2 : (q_max 0 (d - w 179 j)).toInt = max 0 (d.toInt - (w 179 j).toInt) := by rw [t_max, e1]; rfl
  have e3 := t_le.mp hc
  have e4 : (row_t (fun b => w 180 (6 * j + b)) 6 + q_max 0 (d - w 179 j)).toInt = (row_t (fun b => w 180 (6 * j + b)) 6).toInt + max 0 (d.toInt - (w 179 j).toInt) := by rw [t_add, e2] <;> rw [e2, d1] <;> omega
  have e5 : (q_min d (w 179 j)).toInt = min d.toInt (w 179 j).toInt := t_min
  have e6 : (d - q_min d (w 179 j)).toInt = d.toInt - min d.toInt (w 179 j).toInt := by rw [t_sub, e5] <;> rw [e5] <;> omega
  have e7 : (w 180 (6 * j + m) + (d - q_min d (w 179 j))).toInt = (w 180 (6 * j + m)).toInt + (d.toInt - min d.toInt (w 179 j).toInt) := by rw [t_add, e6] <;> rw [e6] <;> omega
  have e8 : 0 ≤ (w 180 (6 * j + m) + (d - q_min d (w 179 j))).toInt ∧ (w 180 (6 * j + m) + (d - q_min d (w 179 j))).toInt ≤ 9999 := by
    rw [e7]; omega
  have k1 : IC (upd (upd (w 179) j (w 179 j - q_min d (w 179 j))) m (upd (w 179) j (w 179 j - q_min d (w 179 j)) m + q_min d (w 179 j))) := hI.2.2.2.1.moves (a := j) (b := m) (x := q_min d (w 179 j)) (by omega) (by omega) (by rw [e5]; omega) (by show _ ≤ (w 179 j).toInt; rw [e5]; omega)
  rw [upd_ne hmj] at k1
  obtain ⟨k0, k2⟩ := hI.2.2.2.1.pays (a := j) (x := q_min d (w 179 j)) (by omega) (by rw [e5]; omega) (by show _ ≤ (w 179 j).toInt; rw [e5]; omega)
  have hsC : isum (upd (upd (w 179) j (w 179 j - q_min d (w 179 j))) m (w 179 m + q_min d (w 179 j))) 6 = isum (w 179) 6 := by
    have ha : (w 179 m + q_min d (w 179 j)).toInt = (w 179 m).toInt + (q_min d (w 179 j)).toInt := by
      have h0 : 0 ≤ (w 179 m).toInt := hI.2.2.2.1.1 m (by omega)
      have h1 := isum_le (f := w 179) (i := m) 6 hI.2.2.2.1.1 (by omega)
      exact t_add (by rw [e5]; omega) (by rw [e5]; omega)
    have k2' : isum (upd (w 179) j (w 179 j - q_min d (w 179 j))) 6 = isum (w 179) 6 - (q_min d (w 179 j)).toInt := k2
    rw [isum_upd 6 (by omega), k2', upd_ne hmj, ha]; omega
  have k3 : ID (upd (w 180) (6 * j + m) (w 180 (6 * j + m) + (d - q_min d (w 179 j)))) M := hI.2.2.2.2.1.set (a := j) (b := m) hj hm (by omega) (Ne.symm hmj) (by omega) (by omega)
  have k4 : IQ (upd (w 175) i (nI j)) L M := hI.2.1.set (i := i) hj
  refine ⟨?_, ?_, ?_, ⟨1, by omega, ?_, ?_, fun q => by omega⟩, ?_, ?_, ?_, ?_, ?_, ?_, ?_, ?_⟩
  · have h1 := (hI.pn (q := o) (y := w 182 o + 1)).px (j := 2) (y := w 173 2 + 1) (by omega)
    have h2 := h1.c (f := upd (upd (w 179) j (w 179 j - q_min d (w 179 j))) m (w 179 m + q_min d (w 179 j))) k1
    have h3 : IS (pu (pu (pu (pu w 182 o (w 182 o + 1)) 173 2 (w 173 2 + 1)) 179 j (w 179 j - q_min d (w 179 j))) 179 m (w 179 m + q_min d (w 179 j))) 173 L G M := by
      have e : pu (pu (pu (pu w 182 o (w 182 o + 1)) 173 2 (w 173 2 + 1)) 179 j (w 179 j - q_min d (w 179 j))) 179 m (w 179 m + q_min d (w 179 j)) = up (pu (pu w 182 o (w 182 o + 1)) 173 2 (w 173 2 + 1)) 179 (upd (upd (w 179) j (w 179 j - q_min d (w 179 j))) m (w 179 m + q_min d (w 179 j))) := by
        rw [pu, pu_e, pu, up_up]
        simp (disch := omega) only [pu_p]
      rw [e]; exact h2
    have h4 := h3.pd (q := 6 * j + m) (y := w 180 (6 * j + m) + (d - q_min d (w 179 j))) (by simp (disch := omega) only [pu_p]; exact k3)
    exact h4.po (by simp (disch := omega) only [pu_p]; exact k4)
  · unfold slU
    exact ((((((fm_p (by omega) (by omega)).tr (fm_p (by omega) (by omega))).tr (fm_p (by omega) (by omega))).tr (fm_p (by omega) (by omega))).tr (fm_p (by omega) (by omega))).tr (fm_p (by omega) (by omega)))
  · unfold slU; simp (disch := omega) only [pu_p, pu_e]
  · unfold slU; simp (disch := omega) only [pu_p, pu_s]; rfl
  · unfold slU; simp (disch := omega) only [pu_p, pu_s, pu_d]; simp only [Int32.add_assoc]; rw [Int32.add_comm 1 (w 173 3 + w 173 4), Int32.add_assoc]
  · unfold slU; simp (disch := omega) only [pu_p, pu_e]; rw [hsC]; exact Int.le_refl _
  · unfold slU; simp (disch := omega) only [pu_p, pu_e]; rw [hsC]
  · unfold slU; simp (disch := omega) only [pu_p, pu_e]
  · unfold slU; simp (disch := omega) only [pu_p, pu_d]
  · unfold slU; simp (disch := omega) only [pu_p, pu_d]
  · intro g hg
    unfold slU; simp (disch := omega) only [pu_p, pu_e]
    exact he g hg
  · intro a ha
    unfold slU; simp (disch := omega) only [pu_p, pu_e]
    rw [upd_ne (by omega), upd_ne (by omega)]
  · intro g hg
    unfold slU; simp (disch := omega) only [pu_p, pu_e]
theorem py_ke (hP : PMo w S G M L O) (hI : IS w 173 L G M) (he : ∀ g, g < 4 → 0 ≤ (w 181 g).toInt) (hi : i < M) (hj : j < M) (hij : i ≠ j) (hd : 1 ≤ d) (h1 : d ≤ w 180 (6 * i + j)) (h2 : d ≤ w 179 i) : KE w (pyU w o i j d) L G M o := by
  obtain ⟨⟨hS4, hG4, hM6, hL10, hO24⟩, -, -, hp4, hp5, -⟩ := hP
  have e1 := t_le.mp hd
  rw [show (1 : Int32).toInt = 1 from rfl] at e1
  have e2 := t_le.mp h1
  have e3 := t_le.mp h2
  have hD := hI.2.2.2.2.1 i j (by omega) (by omega)
  have hD0 : 0 ≤ (w 180 (6 * i + j)).toInt := hD.1
  have hD1 : (w 180 (6 * i + j)).toInt ≤ 99999 := hD.2.1
  have e4 : (w 180 (6 * i + j) - d).toInt = (w 180 (6 * i + j)).toInt - d.toInt := t_sub (by omega) (by omega)
  have k1 : IC (upd (upd (w 179) i (w 179 i - d)) j (upd (w 179) i (w 179 i - d) j + d)) := hI.2.2.2.1.moves (a := i) (b := j) (x := d) (by omega) (by omega) (by omega) e3
  rw [upd_ne (Ne.symm hij)] at k1
  obtain ⟨k0, k2⟩ := hI.2.2.2.1.pays (a := i) (x := d) (by omega) (by omega) e3
  have hct : isum (w 179) 6 ≤ 59994 := hI.2.2.2.1.2
  have hsC : isum (upd (upd (w 179) i (w 179 i - d)) j (w 179 j + d)) 6 = isum (w 179) 6 := by
    have ha : (w 179 j + d).toInt = (w 179 j).toInt + d.toInt := by
      have h0 : 0 ≤ (w 179 j).toInt := hI.2.2.2.1.1 j (by omega)
      have h1 := isum_le (f := w 179) (i := j) 6 hI.2.2.2.1.1 (by omega)
      exact t_add (by omega) (by omega)
    have k2' : isum (upd (w 179) i (w 179 i - d)) 6 = isum (w 179) 6 - d.toInt := k2
    rw [isum_upd 6 (by omega), k2', upd_ne (Ne.symm hij), ha]; omega
  have k3 : ID (upd (w 180) (6 * i + j) (w 180 (6 * i + j) - d)) M := hI.2.2.2.2.1.set (a := i) (b := j) hi hj (by omega) hij (by omega) (by omega)
  refine ⟨?_, ?_, ?_, ⟨0, by omega, ?_, ?_, fun _ => ?_⟩, ?_, ?_, ?_, ?_, ?_, ?_, ?_, ?_⟩
  · have h1 := (hI.pn (q := o) (y := w 182 o + 1)).px (j := 4) (y := w 173 4 + 1) (by omega)
    have h2 := h1.c (f := upd (upd (w 179) i (w 179 i - d)) j (w 179 j + d)) k1
    have h3 : IS (pu (pu (pu (pu w 182 o (w 182 o + 1)) 173 4 (w 173 4 + 1)) 179 i (w 179 i - d)) 179 j (w 179 j + d)) 173 L G M := by
      have e : pu (pu (pu (pu w 182 o (w 182 o + 1)) 173 4 (w 173 4 + 1)) 179 i (w 179 i - d)) 179 j (w 179 j + d) = up (pu (pu w 182 o (w 182 o + 1)) 173 4 (w 173 4 + 1)) 179 (upd (upd (w 179) i (w 179 i - d)) j (w 179 j + d)) := by
        rw [pu, pu_e, pu, up_up]
        simp (disch := omega) only [pu_p]
      rw [e]; exact h2
    exact h3.pd (q := 6 * i + j) (y := w 180 (6 * i + j) - d) (by simp (disch := omega) only [pu_p]; exact k3)
  · unfold pyU
    exact (((((fm_p (by omega) (by omega)).tr (fm_p (by omega) (by omega))).tr (fm_p (by omega) (by omega))).tr (fm_p (by omega) (by omega))).tr (fm_p (by omega) (by omega)))
  · unfold pyU; simp (disch := omega) only [pu_p, pu_e]
  · unfold pyU; simp (disch := omega) only [pu_p, pu_d]; exact (Int32.add_zero _).symm
  · unfold pyU; simp (disch := omega) only [pu_p, pu_s, pu_d]; simp only [Int32.add_assoc]
  · unfold pyU; simp (disch := omega) only [pu_p, pu_e]
    rw [isum_upd 36 (by omega), e4]; omega
  · unfold pyU; simp (disch := omega) only [pu_p, pu_e]; rw [hsC]; exact Int.le_refl _
  · unfold pyU; simp (disch := omega) only [pu_p, pu_e]; rw [hsC]
  · unfold pyU; simp (disch := omega) only [pu_p, pu_e]
  · unfold pyU; simp (disch := omega) only [pu_p, pu_d]
  · unfold pyU; simp (disch := omega) only [pu_p, pu_d]
  · intro g hg
    unfold pyU; simp (disch := omega) only [pu_p, pu_e]
    exact he g hg
  · intro a ha
    unfold pyU; simp (disch := omega) only [pu_p, pu_e]
    rw [upd_ne (by omega), upd_ne (by omega)]
  · intro g hg
    unfold pyU; simp (disch := omega) only [pu_p, pu_e]
theorem CR.ke (h : CR u u1 S G M L O o) (hP : PMo u S G M L O) (hI : IS u 173 L G M) (he : ∀ g, g < 4 → 0 ≤ (u 181 g).toInt) (ht : isum (u 179) 6 + isum (u 181) 4 ≤ 59994) : KE u u1 L G M o := by
  obtain ⟨w, i, j, hF, ei, ej, h⟩ := h
  have hU : ∀ p, p ≠ 149 → w p = u p := hF.1
  have hPw := hP.fw hF
  have hIw := hI.fr hF (by omega)
  have hew : ∀ g, g < 4 → 0 ≤ (w 181 g).toInt := by rw [hU 181 (by omega)]; exact he
  have htw : isum (w 179) 6 + isum (w 181) 4 ≤ 59994 := by rw [hU 181 (by omega), hU 179 (by omega)]; exact ht
  refine KE.of hU hF ?_
  rcases h with ⟨-, hi, hj, m, hm, -, hc, rfl⟩ | ⟨-, hi, hj, -, m, d, hm, hmj, -, h0, h1, hc, rfl⟩ | ⟨-, hi, hj, hij, d, h1, h2, h3, rfl⟩
  · exact wg_ke hPw hIw hew htw hi hj hm hc
  · exact sl_ke hPw hIw hew hi hj hm hmj h0 h1 hc
  · exact py_ke hPw hIw hew hi hj hij h1 h2 h3
end
