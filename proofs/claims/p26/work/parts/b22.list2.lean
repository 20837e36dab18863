/-! LIST, two: guilds -/
section LX
variable {p : Program} {l : Launch} {e : Env} {R : Room} {s : State} {m : MethodId} {args : Array Value} {below : List Frame} {meth : Method} {c : Code} {H H0 : Heap} {locs : List Loc} {cells slots : Nat} {Q : State → Prop}
variable {cc : ByteArray} {pc nL : Nat} {ls : Array Slot} {st0 rest As Bs : List Value} {Γ : Cx} {sh sh0 shb : Sh} {v v0 v1 : Va} {w : Vl} {own : String} {idx ci j k n n0 nb nn hh mL mc ms a d1 d2 : Nat} {cs : List Nat} {y : MethodName} {b : ByteArray} {ret : Option FieldType} {A : Nat → Prop}
variable {kt p0 C N b0 L0 ks pl nl pg ng : Nat} {T : List Int32} {P P0 : Pfn} {xs : Nat → Int32}
theorem nI_z9 {b : Nat} (h : b < 2147483648) : nI b = 0 ↔ b = 0 := ⟨fun q => Decidable.byContradiction fun h1 => ni_ne0 (by omega) h q, fun q => by rw [q]; rfl⟩
/-- rows that were made, of an array of arrays -/
def RWS (P0 P : Pfn) (lo N c : Nat) (g : Nat → Nat → Int32) (b : Nat → Nat) : Prop := ∀ i, i < N → lo < b i ∧ P (b i) = some (sA c, g i) ∧ (∀ j, j < i → b j < b i) ∧ P0 (b i) = none
/-- what was there, but for one cell -/
def OLD (P0 P : Pfn) (pc : Nat) : Prop := ∀ q e, P0 q = some e → q ≠ pc → P q = some e
theorem RWS.more {P0 P P1 : Pfn} {lo i c k1 : Nat} {g : Nat → Nat → Int32} {b : Nat → Nat} (h : RWS P0 P lo i c g b) (hP : ∀ j, j < i → P1 (b j) = P (b j)) (hk : P1 k1 = some (sA c, g i)) (hlo : lo < k1) (h0 : P0 k1 = none) (hb : ∀ j, j < i → b j < k1) : RWS P0 P1 lo (i + 1) c g (up b i k1) := fun q hq => by
  by_cases h1 : q = i
  · subst h1
    rw [up_eq]
    exact ⟨hlo, hk, fun j hj => by rw [up_ne (by omega)]; exact hb j hj, h0⟩
  · rw [up_ne h1]
    obtain ⟨a1, a2, a3, a4⟩ := h q (by omega)
    exact ⟨a1, (hP q (by omega)).trans a2, fun j hj => by rw [up_ne (by omega)]; exact a3 j hj, a4⟩
theorem rfs_s {i k1 : Nat} {b : Nat → Nat} : va_up (rfs i b) i (some k1) = rfs (i + 1) (up b i k1) := funext fun j => by
  show (if j = i then _ else if j < i then _ else _) = if j < i + 1 then some (up b i k1 j) else none
  by_cases h : j = i
  · subst h; rw [if_pos rfl, if_pos (by omega), up_eq]
  · rw [if_neg h]
    by_cases h2 : j < i
    · rw [if_pos h2, if_pos (by omega), up_ne h]
    · rw [if_neg h2, if_neg (by omega)]
/-- a guild's fee and bias, its row, the lines of guilds -/
def guX (L0 : Nat) (xs : Nat → Int32) (i : Nat) : Int32 := cel L0 xs 1 >>> ((3 + 6 * nI i) &&& 31)
def guM (L0 : Nat) (xs : Nat → Int32) (i : Nat) : Nat := if bel (guX L0 xs i >>> (3 &&& 31)) 2 = 0 then 100 else 12
def guF (L0 : Nat) (xs : Nat → Int32) (i : Nat) : Nat := bel (guX L0 xs i) (guM L0 xs i)
def guB (L0 : Nat) (xs : Nat → Int32) (i : Nat) : Nat := bel (guX L0 xs i >>> (2 &&& 31)) 21
def guG (L0 : Nat) (xs : Nat → Int32) (i : Nat) : Nat → Int32 := upd (upd (upd (fun _ => 0) 0 (nI (guF L0 xs i))) 1 (nI (guB L0 xs i))) 2 0
def guT (T : List Int32) (L0 : Nat) (xs : Nat → Int32) : Nat → List Int32
  | 0 => T
  | i + 1 => ((((((guT T L0 xs i ++ tx142) ++ decL i) ++ tx144) ++ decL (guF L0 xs i)) ++ tx146) ++ decL (guB L0 xs i)) ++ tx135
theorem guM_le {i : Nat} : 1 ≤ guM L0 xs i ∧ guM L0 xs i ≤ 100 := by unfold guM; split <;> omega
theorem guF_le {i : Nat} : guF L0 xs i < 100 := Nat.lt_of_lt_of_le (bel_lt guM_le.1) guM_le.2
theorem guB_le {i : Nat} : guB L0 xs i < 21 := bel_lt (by decide)
theorem li_2 (hM : MC Γ p s m args c cL_list 11 d1 d2 sh0 n0) (hER : ER Γ) (hB : SCR Γ sh0 b0 L0 xs) (hkt : kt < n0) (hp0 : p0 < n0) (hn0 : n0 + C + 100 ≤ 1000000) (hng : ng ≤ 3) (hN : N ≤ 1000) (hR6 : 6 ≤ R.frames ∧ 230 ≤ R.locals) (hR1 : 1 ≤ R.frames ∧ 21 ≤ R.locals) (hcell : cells + 100 ≤ R.cells) (hslot : slots + 200000 ≤ R.slots) {g gg : Nat → Int32} (hc3 : cs[3]? = some (pg + 3)) (hne : ks ≠ pg)
    (kk : ∀ (P : Pfn) (b : Nat → Nat) (sh1 : Sh) (v1 : Va) (n1 : Nat) (H1 : Heap) (locs1 : List Loc) (ls : Array Slot), P ks = some (sO 11 cs, g) → P pg = some (sR ng (rfs ng b), gg) → RWS P0 P pg ng 3 (guG L0 xs) b → OLD P0 P pg → lv_has ls 11 [(0, .ref b0), (1, .ref (Γ.2.1 + kt)), (2, .ref (Γ.2.1 + ks))] → LST Γ s sh0 v0 n0 w kt p0 (C + 8 * ng) (guT T L0 xs ng) (N + 31 * ng) P sh1 v1 n1 H1 locs1 → W p l e R s m args below meth c H1 locs1 (cells + 8 * ng) (slots + 50000 * ng) Q (F0 m 242 ls [])) :
    ∀ (j i : Nat), i + j = ng → ∀ (P : Pfn) (b : Nat → Nat) (sh1 : Sh) (v1 : Va) (n1 : Nat) (H1 : Heap) (locs1 : List Loc) (ls : Array Slot), P ks = some (sO 11 cs, g) → P pg = some (sR ng (rfs i b), gg) → RWS P0 P pg i 3 (guG L0 xs) b → OLD P0 P pg → lv_has ls 11 [(3, .int (nI i)), (0, .ref b0), (1, .ref (Γ.2.1 + kt)), (2, .ref (Γ.2.1 + ks))] → LST Γ s sh0 v0 n0 w kt p0 (C + 8 * i) (guT T L0 xs i) (N + 31 * i) P sh1 v1 n1 H1 locs1 → W p l e R s m args below meth c H1 locs1 (cells + 8 * i) (slots + 50000 * i) Q (F0 m 114 ls []) := by
  obtain ⟨hx, hb, hml, hts, hown, hK, hE, hd, hC, hEL⟩ := id hM
  intro j
  induction j with
  | zero =>
    intro i hij P b sh1 v1 n1 H1 locs1 ls hks hpg hrw hold hl hL
    have hi : i = ng := by omega
    subst hi
    refine lv_iload_n hx hb dL_list_114 rfl (lv_at hl 0 rfl) ?_
    refine lv_aload_n hx hb dL_list_115 rfl (lv_at hl 3 rfl) ?_
    refine l_get hM hL hks fL_138 hc3 dL_list_116 ?_
    refine l_lenR hM hL hpg dL_list_119 ?_
    refine lv_icmp_ge (tgt := 242) hx hb dL_list_120 rfl (fun hc33 => ?_) (fun hc33 => absurd ((ni_le (by omega) (by omega)).mpr (Nat.le_refl _)) hc33)
    exact kk _ _ _ _ _ _ _ _ hks hpg hrw hold (lv_sub hl [1, 2, 3] rfl) hL
  | succ j ih =>
    intro i hij P b sh1 v1 n1 H1 locs1 ls hks hpg hrw hold hl hL
    have hlt : i < ng := by omega
    have hf0 : cells + 8 * i ≤ R.cells ∧ slots + 50000 * i ≤ R.slots := ⟨by omega, by omega⟩
    refine lv_iload_n hx hb dL_list_114 rfl (lv_at hl 0 rfl) ?_
    refine lv_aload_n hx hb dL_list_115 rfl (lv_at hl 3 rfl) ?_
    refine l_get hM hL hks fL_138 hc3 dL_list_116 ?_
    refine l_lenR hM hL hpg dL_list_119 ?_
    refine lv_icmp_ge (tgt := 242) hx hb dL_list_120 rfl (fun hc33 => absurd ((ni_le (by omega) (by omega)).mp hc33) (by omega)) (fun hc33 => ?_)
    refine lv_aload_n hx hb dL_list_123 rfl (lv_at hl 1 rfl) ?_
    refine lv_iconst (v := 1) hx hb dL_list_124 rfl ?_
    refine l_cell (q := 1) hM hL hl.1 hB (by omega) hR1 (Nat.le_of_ble_eq_true rfl) hf0 dL_list_125 fun H1 locs1 hL => ?_
    refine lv_iconst (v := 3) hx hb dL_list_128 rfl ?_
    refine lv_bipush (v := 6) hx hb dL_list_129 rfl ?_
    refine lv_iload_n hx hb dL_list_131 rfl (lv_at hl 0 rfl) ?_
    refine lv_imul hx hb dL_list_132 ?_
    refine lv_iadd hx hb dL_list_133 ?_
    refine lv_ishr hx hb dL_list_134 ?_
    rw [show cel L0 xs 1 >>> ((3 + 6 * nI i) &&& 31) = guX L0 xs i from rfl]
    refine lv_istore (lv' := [(4, .int (guX L0 xs i)), (3, .int (nI i)), (0, .ref b0), (1, .ref (Γ.2.1 + kt)), (2, .ref (Γ.2.1 + ks))]) hx hb dL_list_135 hl (by decide) rfl fun ls hl => ?_
    refine lv_aload_n hx hb dL_list_137 rfl (lv_at hl 4 rfl) ?_
    refine l_get hM hL hks fL_138 hc3 dL_list_138 ?_
    refine lv_iload_n hx hb dL_list_141 rfl (lv_at hl 1 rfl) ?_
    refine lv_iconst (v := 3) hx hb dL_list_142 rfl ?_
    have hbk0 : ∀ j, j < i → b j < n1 := fun j hj => (hL.lo (hrw j hj).2.1).2
    have hpgk2 : pg < n1 := (hL.lo hpg).2
    refine l_new (M := 3) hM hL hkt hp0 (by decide) rfl (by decide) ⟨by omega, by omega⟩ dL_list_143 fun sh1 v1 k1 H1 locs1 hk0 hPk hL hkn => ?_
    rw [← hkn] at hbk0 hpgk2
    replace hf0 : cells + 8 * i + 1 ≤ R.cells ∧ slots + 50000 * i + 3 ≤ R.slots := ⟨by omega, by omega⟩
    have hksk : ks ≠ k1 := fun q => by rw [q, hPk] at hks; cases hks
    have hpgk : pg ≠ k1 := fun q => by rw [q, hPk] at hpg; cases hpg
    have hpg9 := hpg
    refine lv_dup hx hb dL_list_145 rfl ?_
    refine lv_iconst (v := 0) hx hb dL_list_146 rfl ?_
    refine lv_iload hx hb dL_list_147 (lv_at hl 0 rfl) ?_
    refine lv_iload hx hb dL_list_149 (lv_at hl 0 rfl) ?_
    refine lv_iconst (v := 3) hx hb dL_list_151 rfl ?_
    refine lv_ishr hx hb dL_list_152 ?_
    refine lv_iconst (v := 2) hx hb dL_list_153 rfl ?_
    refine l_below (b9 := 2) hM hL hl.1 (by omega) (by omega) hR1 (Nat.le_of_ble_eq_true rfl) hf0 dL_list_154 fun H1 locs1 hL => ?_
    suffices J9 : W p l e R s m args below meth c H1 locs1 (cells + 8 * i + 1) (slots + 50000 * i + 3) Q (F0 m 167 ls (.int (nI (guM L0 xs i)) :: .int (guX L0 xs i) :: .int 0 :: .ref (Γ.2.1 + k1) :: .ref (Γ.2.1 + k1) :: .int (nI i) :: .ref (Γ.2.1 + pg) :: [])) by
      refine lv_if_ne (tgt := 165) hx hb dL_list_157 rfl (fun hc9 => ?_) (fun hc9 => ?_)
      · have h9 : (guM L0 xs i) = 12 := if_neg (fun q => hc9 ((nI_z9 (by have := bel_lt (x := (guX L0 xs i >>> (3 &&& 31))) (n := 2) (by decide); omega)).mpr q))
        rw [h9] at J9
        exact lv_bipush (v := 12) hx hb dL_list_165 rfl J9
      · have h9 : (guM L0 xs i) = 100 := if_pos ((nI_z9 (by have := bel_lt (x := (guX L0 xs i >>> (3 &&& 31))) (n := 2) (by decide); omega)).mp hc9)
        rw [h9] at J9
        exact lv_bipush (v := 100) hx hb dL_list_160 rfl (lv_goto (tgt := 167) hx hb dL_list_162 rfl J9)
    have hgm := guM_le (L0 := L0) (xs := xs) (i := i)
    refine l_below (b9 := (guM L0 xs i)) hM hL hl.1 (by omega) (by omega) hR1 (Nat.le_of_ble_eq_true rfl) hf0 dL_list_167 fun H1 locs1 hL => ?_
    rw [show bel (guX L0 xs i) (guM L0 xs i) = guF L0 xs i from rfl]
    refine l_ia (k := k1) hM hL (up_eq _ _ _) (j := 0) rfl (vin (i := 0) (by decide) (by decide)) dL_list_170 fun v1 H1 locs1 hL => ?_
    rw [up_up] at hL
    refine lv_dup hx hb dL_list_171 rfl ?_
    refine lv_iconst (v := 1) hx hb dL_list_172 rfl ?_
    refine lv_iload hx hb dL_list_173 (lv_at hl 0 rfl) ?_
    refine lv_iconst (v := 2) hx hb dL_list_175 rfl ?_
    refine lv_ishr hx hb dL_list_176 ?_
    refine lv_bipush (v := 21) hx hb dL_list_177 rfl ?_
    refine l_below (b9 := 21) hM hL hl.1 (by omega) (by omega) hR1 (Nat.le_of_ble_eq_true rfl) hf0 dL_list_179 fun H1 locs1 hL => ?_
    rw [show bel (guX L0 xs i >>> (2 &&& 31)) 21 = guB L0 xs i from rfl]
    refine l_ia (k := k1) hM hL (up_eq _ _ _) (j := 1) rfl (vin (i := 1) (by decide) (by decide)) dL_list_182 fun v1 H1 locs1 hL => ?_
    rw [up_up] at hL
    refine lv_dup hx hb dL_list_183 rfl ?_
    refine lv_iconst (v := 2) hx hb dL_list_184 rfl ?_
    refine lv_iconst (v := 0) hx hb dL_list_185 rfl ?_
    refine l_ia (k := k1) hM hL (up_eq _ _ _) (j := 2) rfl (vin (i := 2) (by decide) (by decide)) dL_list_186 fun v1 H1 locs1 hL => ?_
    rw [up_up] at hL
    rw [show upd (upd (upd (fun _ => 0) 0 (nI (guF L0 xs i))) 1 (nI (guB L0 xs i))) 2 0 = guG L0 xs i from rfl] at hL
    refine l_aa (k := pg) (r := k1) (j := i) hM hER hL ((up_ne hpgk).trans hpg) (up_eq _ _ _) (nI_clamp (by omega)) (vin hlt (by omega)) dL_list_187 fun sh1 H1 locs1 hL => ?_
    rw [rfs_s] at hL
    generalize hP9 : up (up P k1 (some (sA 3, guG L0 xs i))) pg (some (sR ng (rfs (i + 1) (up b i k1)), gg)) = P9 at hL
    have hks9 : P9 ks = some (sO 11 cs, g) := by rw [← hP9, up_ne hne, up_ne hksk]; exact hks
    have hpg9 : P9 pg = some (sR ng (rfs (i + 1) (up b i k1)), gg) := by rw [← hP9, up_eq]
    have hk9 : P9 k1 = some (sA 3, guG L0 xs i) := by rw [← hP9, up_ne (Ne.symm hpgk), up_eq]
    have hbk : ∀ j, j < i → b j < k1 ∧ b j ≠ pg := fun j hj => ⟨hbk0 j hj, fun q => by have h9 := (hrw j hj).2.1; rw [q, hpg] at h9; cases h9⟩
    have hz0 : P0 k1 = none := by
      cases h9 : P0 k1 with
      | none => rfl
      | some e9 => exact absurd (hold k1 e9 h9 (Ne.symm hpgk)) (by rw [hPk]; exact fun q => by cases q)
    have hrw9 : RWS P0 P9 pg (i + 1) 3 (guG L0 xs) (up b i k1) := hrw.more (fun j hj => by rw [← hP9, up_ne (hbk j hj).2, up_ne (Nat.ne_of_lt (hbk j hj).1)]) hk9 hpgk2 hz0 fun j hj => (hbk j hj).1
    have hold9 : OLD P0 P9 pg := fun q e h1 h2 => by rw [← hP9, up_ne h2, up_ne (fun q9 => by have h9 := hold q e h1 h2; rw [q9, hPk] at h9; cases h9)]; exact hold q e h1 h2
    refine lv_aload_n hx hb dL_list_188 rfl (lv_at hl 3 rfl) ?_
    refine s_lit (i := 37) (B := tx142) (M := 7) hM hL.1 rfl (by decide) dL_list_189 fun ad142 hT142 => ?_
    refine l_apS hM hL hkt hp0 hl.1 (B := tx142) (M := 7) hT142 (by omega) (by omega) hR6 (Nat.le_of_ble_eq_true rfl) ⟨by omega, by omega⟩ dL_list_191 fun sh1 v1 n1 H1 locs1 hL => ?_
    replace hf0 : cells + 8 * i + 1 + 1 ≤ R.cells ∧ slots + 50000 * i + 3 + 6000 ≤ R.slots := ⟨by omega, by omega⟩
    refine lv_iload_n hx hb dL_list_194 rfl (lv_at hl 1 rfl) ?_
    refine l_apI (z0 := i) hM hL hkt hp0 hl.1 (by omega) (by omega) (by omega) hR6 (Nat.le_of_ble_eq_true rfl) ⟨by omega, by omega⟩ dL_list_195 fun sh1 v1 n1 H1 locs1 hL => ?_
    replace hf0 : cells + 8 * i + 1 + 1 + 1 ≤ R.cells ∧ slots + 50000 * i + 3 + 6000 + 6000 ≤ R.slots := ⟨by omega, by omega⟩
    refine s_lit (i := 38) (B := tx144) (M := 5) hM hL.1 rfl (by decide) dL_list_198 fun ad144 hT144 => ?_
    refine l_apS hM hL hkt hp0 hl.1 (B := tx144) (M := 5) hT144 (by omega) (by omega) hR6 (Nat.le_of_ble_eq_true rfl) ⟨by omega, by omega⟩ dL_list_200 fun sh1 v1 n1 H1 locs1 hL => ?_
    replace hf0 : cells + 8 * i + 1 + 1 + 1 + 1 ≤ R.cells ∧ slots + 50000 * i + 3 + 6000 + 6000 + 6000 ≤ R.slots := ⟨by omega, by omega⟩
    have hg1 := guF_le (L0 := L0) (xs := xs) (i := i)
    have hg2 := guB_le (L0 := L0) (xs := xs) (i := i)
    refine lv_aload_n hx hb dL_list_203 rfl (lv_at hl 4 rfl) ?_
    refine l_get hM hL hks9 fL_138 hc3 dL_list_204 ?_
    refine lv_iload_n hx hb dL_list_207 rfl (lv_at hl 1 rfl) ?_
    refine l_aald hM hL hpg9 (j := i) (r := k1) (nI_clamp (by omega)) (vin hlt (by omega)) ((if_pos (Nat.lt_succ_self i)).trans (congrArg some (up_eq b i k1))) dL_list_208 ?_
    refine lv_iconst (v := 0) hx hb dL_list_209 rfl ?_
    refine l_el (k := k1) hM hL hk9 (j := 0) rfl (vin (i := 0) (by decide) (by decide)) (x := nI (guF L0 xs i)) rfl dL_list_210 ?_
    refine l_apI (z0 := (guF L0 xs i)) hM hL hkt hp0 hl.1 (by omega) (by omega) (by omega) hR6 (Nat.le_of_ble_eq_true rfl) ⟨by omega, by omega⟩ dL_list_211 fun sh1 v1 n1 H1 locs1 hL => ?_
    replace hf0 : cells + 8 * i + 1 + 1 + 1 + 1 + 1 ≤ R.cells ∧ slots + 50000 * i + 3 + 6000 + 6000 + 6000 + 6000 ≤ R.slots := ⟨by omega, by omega⟩
    refine s_lit (i := 39) (B := tx146) (M := 6) hM hL.1 rfl (by decide) dL_list_214 fun ad146 hT146 => ?_
    refine l_apS hM hL hkt hp0 hl.1 (B := tx146) (M := 6) hT146 (by omega) (by omega) hR6 (Nat.le_of_ble_eq_true rfl) ⟨by omega, by omega⟩ dL_list_216 fun sh1 v1 n1 H1 locs1 hL => ?_
    replace hf0 : cells + 8 * i + 1 + 1 + 1 + 1 + 1 + 1 ≤ R.cells ∧ slots + 50000 * i + 3 + 6000 + 6000 + 6000 + 6000 + 6000 ≤ R.slots := ⟨by omega, by omega⟩
    refine lv_aload_n hx hb dL_list_219 rfl (lv_at hl 4 rfl) ?_
    refine l_get hM hL hks9 fL_138 hc3 dL_list_220 ?_
    refine lv_iload_n hx hb dL_list_223 rfl (lv_at hl 1 rfl) ?_
    refine l_aald hM hL hpg9 (j := i) (r := k1) (nI_clamp (by omega)) (vin hlt (by omega)) ((if_pos (Nat.lt_succ_self i)).trans (congrArg some (up_eq b i k1))) dL_list_224 ?_
    refine lv_iconst (v := 1) hx hb dL_list_225 rfl ?_
    refine l_el (k := k1) hM hL hk9 (j := 1) rfl (vin (i := 1) (by decide) (by decide)) (x := nI (guB L0 xs i)) rfl dL_list_226 ?_
    refine l_apI (z0 := (guB L0 xs i)) hM hL hkt hp0 hl.1 (by omega) (by omega) (by omega) hR6 (Nat.le_of_ble_eq_true rfl) ⟨by omega, by omega⟩ dL_list_227 fun sh1 v1 n1 H1 locs1 hL => ?_
    replace hf0 : cells + 8 * i + 1 + 1 + 1 + 1 + 1 + 1 + 1 ≤ R.cells ∧ slots + 50000 * i + 3 + 6000 + 6000 + 6000 + 6000 + 6000 + 6000 ≤ R.slots := ⟨by omega, by omega⟩
    refine s_lit (i := 36) (B := tx135) (M := 1) hM hL.1 rfl (by decide) dL_list_230 fun ad135 hT135 => ?_
    refine l_apS hM hL hkt hp0 hl.1 (B := tx135) (M := 1) hT135 (by omega) (by omega) hR6 (Nat.le_of_ble_eq_true rfl) ⟨by omega, by omega⟩ dL_list_232 fun sh1 v1 n1 H1 locs1 hL => ?_
    replace hf0 : cells + 8 * i + 1 + 1 + 1 + 1 + 1 + 1 + 1 + 1 ≤ R.cells ∧ slots + 50000 * i + 3 + 6000 + 6000 + 6000 + 6000 + 6000 + 6000 + 6000 ≤ R.slots := ⟨by omega, by omega⟩
    refine lv_pop hx hb dL_list_235 rfl ?_
    refine lv_iinc (k := 1) (v := ((nI i) + 1)) (lv' := [(3, .int ((nI i) + 1)), (4, .int (guX L0 xs i)), (0, .ref b0), (1, .ref (Γ.2.1 + kt)), (2, .ref (Γ.2.1 + ks))]) hx hb dL_list_236 hl rfl rfl (by decide) rfl fun ls hl => ?_
    refine lv_goto (tgt := 114) hx hb dL_list_239 rfl ?_
    rw [ni_s] at hl
    refine W.widen (k := cells + 8 * (i + 1)) (n := slots + 50000 * (i + 1)) (by omega) (by omega) ?_
    exact ih (i + 1) (by omega) P9 _ _ _ _ _ _ _ hks9 hpg9 hrw9 hold9 (lv_sub hl [0, 2, 3, 4] rfl) (hL.on (C1 := C + 8 * (i + 1)) (N1 := N + 31 * (i + 1)) (by omega) (by omega))
end LX
