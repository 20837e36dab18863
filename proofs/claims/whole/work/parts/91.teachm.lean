/-! THE REFERENCE TEACHES: a new sheet, read; the state anew -/
def shL (k : Nat) : List Nat := [(k + 4), (k + 5), (k + 6), (k + 7), 0, (k + 8), (k + 9), 0, (k + 10), (k + 11), (k + 12), 0, (k + 13), (k + 14), (k + 15), 0, (k + 16), (k + 17), (k + 18), (k + 19), 0, (k + 20), (k + 21), (k + 22), (k + 23), (k + 24)]
abbrev sh0 : List Nat := [2, 2, 2, 2, 0, 2, 2, 0, 2, 2, 2, 0, 2, 2, 2, 0, 2, 2, 2, 2, 0, 2, 2, 2, 2, 2]
def MetT (l : Launch) (y : MethodName) (b : ByteArray) (mL : Nat) (r : Option FieldType) (h C S : Nat) (Γ : Cx) (sh : Sh) (v : Va) (w : Vl) (n : Nat) (As : List Value) (post : Int32 → (Sh × Va × Nat) → Prop) : Prop := Met l y (ws_ y b mL r) (rmc h C S) (va_Pc As (PN Γ sh v w n)) (va_Qi post (fun u => PN Γ u.1 u.2.1 w u.2.2) (gA Γ)) C S (gA Γ)
abbrev wpT (Γ : Cx) (w : Vl) (hh C S : Nat) (post : Int32 → (Sh × Va × Nat) → Prop) (p : Program) (l : Launch) (e : Env) (s : State) (m : MethodId) (args : Array Value) (below : List Frame) (meth : Method) (c : Code) (H : Heap) (locs : List Loc) (fr : JFrame) : Prop := W p l e (rmc hh C S) s m args below meth c H locs C S (MQ below (va_Qi post (fun u => PN Γ u.1 u.2.1 w u.2.2) (gA Γ)) args s C S (gA Γ)) fr
section WT
variable {p : Program} {l : Launch} {e : Env} {R : Room} {s : State} {m : MethodId} {args : Array Value} {below : List Frame} {meth : Method} {c : Code} {H H0 : Heap} {locs : List Loc} {cells slots : Nat}
variable {cc : ByteArray} {pc : Nat} {ls : Array Slot} {Γ : Cx} {sh sh' : Sh} {v : Va} {w : Vl} {n sp k : Nat}
theorem w_tret (hx : p.tables.exec = Jvm.exec) (hb : c.code = cc) {r : Int32} {ty : FieldType} (hr : meth.sig.returnType = some ty) (hnr : narrow ty (.int r) = .int r) (hlocks : meth.locks = false) (hK : wK Γ s) (hP : Wd Γ sh v w H) (hS : va_S (gA Γ) s.heap H locs) (hz : H.size = Γ.2.1 + n) (hE : EN Γ s) {post : Int32 → (Sh × Va × Nat) → Prop} (hp : post r (sh, v, n)) (hdg : decode cc pc = .ok (.ireturn, 1)) : W p l e R s m args below meth c H locs cells slots (MQ below (va_Qi post (fun u => PN Γ u.1 u.2.1 w u.2.2) (gA Γ)) args s cells slots (gA Γ)) (F0 m pc ls [.int r]) :=
  W.zret hx hb hr hnr (fun t ht hW => ⟨⟨r, (sh, v, n), rfl, hp, ⟨by rw [ht]; exact hP, va_K.moved hW.alike hK, by rw [ht]; exact hz, hE.go hS ht hW⟩⟩, hS.F ht⟩) hS.2.2 hdg hlocks
theorem isSheet.low (h : isSheet sh k) (hq : ∀ q, q < n → sh' q = sh q) (hk : k + 22 ≤ n) : isSheet sh' k := by
  unfold isSheet at h ⊢
  rw [hq k (by omega), hq (k + 1) (by omega), hq (k + 2) (by omega), hq (k + 3) (by omega), hq (k + 4) (by omega), hq (k + 5) (by omega), hq (k + 6) (by omega), hq (k + 7) (by omega), hq (k + 8) (by omega), hq (k + 9) (by omega), hq (k + 10) (by omega), hq (k + 11) (by omega), hq (k + 12) (by omega), hq (k + 13) (by omega), hq (k + 14) (by omega), hq (k + 15) (by omega), hq (k + 16) (by omega), hq (k + 17) (by omega), hq (k + 18) (by omega), hq (k + 19) (by omega), hq (k + 20) (by omega), hq (k + 21) (by omega)]
  exact h
theorem isState.low (h : isState sh k) (hq : ∀ q, q < n → sh' q = sh q) (hk : k + 10 ≤ n) : isState sh' k := by
  unfold isState at h ⊢
  rw [hq k (by omega), hq (k + 1) (by omega), hq (k + 2) (by omega), hq (k + 3) (by omega), hq (k + 4) (by omega), hq (k + 5) (by omega), hq (k + 6) (by omega), hq (k + 7) (by omega), hq (k + 8) (by omega), hq (k + 9) (by omega)]
  exact h
theorem isModel.low (h : isModel sh sp) (hq : ∀ q, q < n → sh' q = sh q) (hk : 194 ≤ n) (hs : sp + 22 ≤ n) : isModel sh' sp := by
  obtain ⟨h1, h2, h3, h4, h5, h6⟩ := h
  exact ⟨(hq _ (by omega)).trans h1, (hq _ (by omega)).trans h2, h3.low hq hs, h4.low hq (by omega), h5.low hq (by omega), (hq _ (by omega)).trans h6⟩
theorem isModel.link (h : isModel sh sp) (hs : isSheet sh k) (hk : 194 ≤ k) : isModel (up sh 149 (some (sO 13 [0, 153, 0, 0, 0, 0, (k + 3), 176, 186, 196, 0, 1]))) k := by
  obtain ⟨h1, h2, h3, h4, h5, h6⟩ := h
  refine ⟨up_eq _ _ _, (up_ne (by omega)).trans h2, ?_, ?_, ?_, (up_ne (by omega)).trans h6⟩
  · unfold isSheet at hs ⊢
    rw [up_ne (q := k) (by omega), up_ne (q := k + 1) (by omega), up_ne (q := k + 2) (by omega), up_ne (q := k + 3) (by omega), up_ne (q := k + 4) (by omega), up_ne (q := k + 5) (by omega), up_ne (q := k + 6) (by omega), up_ne (q := k + 7) (by omega), up_ne (q := k + 8) (by omega), up_ne (q := k + 9) (by omega), up_ne (q := k + 10) (by omega), up_ne (q := k + 11) (by omega), up_ne (q := k + 12) (by omega), up_ne (q := k + 13) (by omega), up_ne (q := k + 14) (by omega), up_ne (q := k + 15) (by omega), up_ne (q := k + 16) (by omega), up_ne (q := k + 17) (by omega), up_ne (q := k + 18) (by omega), up_ne (q := k + 19) (by omega), up_ne (q := k + 20) (by omega), up_ne (q := k + 21) (by omega)]
    exact hs
  · unfold isState at h4 ⊢
    simp (disch := omega) only [up_ne]
    exact h4
  · unfold isState at h5 ⊢
    simp (disch := omega) only [up_ne]
    exact h5
theorem isSheet.link (hs : isSheet sh k) (hk : 194 ≤ k) {x : Option Sp} : isSheet (up sh 149 x) k := by
  unfold isSheet at hs ⊢
  rw [up_ne (q := k) (by omega), up_ne (q := k + 1) (by omega), up_ne (q := k + 2) (by omega), up_ne (q := k + 3) (by omega), up_ne (q := k + 4) (by omega), up_ne (q := k + 5) (by omega), up_ne (q := k + 6) (by omega), up_ne (q := k + 7) (by omega), up_ne (q := k + 8) (by omega), up_ne (q := k + 9) (by omega), up_ne (q := k + 10) (by omega), up_ne (q := k + 11) (by omega), up_ne (q := k + 12) (by omega), up_ne (q := k + 13) (by omega), up_ne (q := k + 14) (by omega), up_ne (q := k + 15) (by omega), up_ne (q := k + 16) (by omega), up_ne (q := k + 17) (by omega), up_ne (q := k + 18) (by omega), up_ne (q := k + 19) (by omega), up_ne (q := k + 20) (by omega), up_ne (q := k + 21) (by omega)]
  exact hs
end WT
section GE
variable {l : Launch} {Γ : Cx} {sh : Sh} {v : Va} {w : Vl} {n z : Nat}
def b_Model_teach_42 (z : Nat) (k1 : Nat) (K42 : (Int32 × Va) → Option (Int32 × Va)) (t42 : Int32 × Va) : Option (Int32 × Va) := if 10 ≤ t42.1 then (if (0 : Int32) < 0 ∨ (0 : Int32) < 0 ∨ (6 : Int32) < 0 ∨ 6 < (0 : Int32).toNatClampNeg + (6 : Int32).toNatClampNeg ∨ 6 < (0 : Int32).toNatClampNeg + (6 : Int32).toNatClampNeg ∨ (k1 + 11) = 179 then none else bnd (q_cpy t42.2 (k1 + 11) (0 : Int32) 179 (0 : Int32) (6 : Int32)) fun v102 => (f_Model_fill z v102 176 10 (-1)).bind fun q113 => (f_Model_fill z q113 177 10 0).bind fun q124 => (f_Model_fill z q124 178 10 0).bind fun q135 => (f_Model_fill z q135 180 36 0).bind fun q146 => (f_Model_fill z q146 181 4 0).bind fun q157 => (f_Model_fill z q157 182 24 0).bind fun q168 => bnd (pu q168 173 2 0) fun v176 => bnd (pu v176 173 3 0) fun v184 => bnd (pu v184 173 4 0) fun v192 => some (0, v192)) else (if t42.1 < 0 ∨ 10 ≤ t42.1.toNatClampNeg then none else if t42.1 < 0 ∨ 10 ≤ t42.1.toNatClampNeg then none else bnd (pu t42.2 174 t42.1.toNatClampNeg (100 * (t42.2 (k1 + 15) t42.1.toNatClampNeg))) fun v65 => if t42.1 < 0 ∨ 10 ≤ t42.1.toNatClampNeg then none else if t42.1 < 0 ∨ 10 ≤ t42.1.toNatClampNeg then none else bnd (pu v65 175 t42.1.toNatClampNeg (v65 (k1 + 16) t42.1.toNatClampNeg)) fun v80 => K42 ((t42.1 + 1), v80))
def f_Model_teachB (z : Nat) (v : Va) (k1 : Nat) : Option (Int32 × Va) := rp (b_Model_teach_42 z k1) z (0, v)
abbrev tC : Nat := (0 + 1 + (0 + 1 + 1 + 1 + 1 + 1 + 1 + 1 + 1 + 1 + 1 + 1 + 1 + 1 + 1 + 1 + 1 + 1 + 1 + 1 + 1 + 1))
abbrev tS : Nat := (0 + 26 + (0 + 401 + 401 + 401 + 401 + 4 + 4 + 4 + 4 + 4 + 6 + 6 + 6 + 10 + 10 + 10 + 10 + 24 + 24 + 24 + 24 + 24))
def f_Model_teach (z : Nat) (sh : Sh) (v : Va) (sp n : Nat) : Option (Int32 × Sh × Va × Nat) := bnd (pu v 149 0 0) fun v2 => bnd (pu v2 149 3 (-1)) fun v7 => bnd (kO (sh, v7) n 11 sh0) fun u10 => bnd (K_Sheet u10 n) fun u14 => (f_Model_read z u14.2 sp n).bind fun q20 => bnd (pu q20.2 149 2 0) fun v26 => if q20.1 ≤ 0 then (bnd (kR (u14.1, v26) 149 13 [0, 153, 0, 0, 0, 0, (n + 3), 176, 186, 196, 0, 1] 6 0) fun u37 => (f_Model_teachB z u37.2 n).bind fun q40 => some (q40.1, u37.1, q40.2, n + 22)) else some (q20.1, u14.1, v26, n + 22)
theorem c_Model_teach {sp : Nat} (hk : isModel sh sp) (hn : 194 ≤ n) (hsp : sp + 22 ≤ n) (hF : EF Γ) {q : Int32 × Sh × Va × Nat} (h : f_Model_teach z sh v sp n = some q) : MetT l yX14_teach cX14_teach 4 (some .int) 55 tC tS Γ sh v w n [.ref (Γ.2.1 + 149)] (fun x u => x = q.1 ∧ u = q.2) := by
  unfold f_Model_teach at h
  refine w_start pn_X14 (Nat.le_of_ble_eq_true rfl) fun p e s m args below meth c hx hb hml hret hlk hnm hts hown hK hP hz hE hS ls hl => ?_
  have B : ∀ (C S : Nat) (sh : Sh) (n : Nat) (v : Va) (k1 : Nat) (q : Int32 × Va) (post : Int32 → (Sh × Va × Nat) → Prop), isModel sh k1 → isSheet sh k1 → f_Model_teachB z v k1 = some q → (∀ x u, some (x, u) = some q → post x (sh, u, n)) → ∀ (H1 : Heap) (locs1 : List Loc) (ls1 : Array Slot), lv_has ls1 4 [(0, .ref (Γ.2.1 + 149)), (1, .ref (Γ.2.1 + k1))] → Wd Γ sh v w H1 → va_S (gA Γ) s.heap H1 locs1 → H1.size = Γ.2.1 + n → wpT Γ w 55 C S post p l e s m args below meth c H1 locs1 (F0 m 40 ls1 []) := by
    intro C S sh n v k1 q post hk hk1 h hpost H1 locs1 ls hl hP hS hz
    unfold f_Model_teachB at h
    refine lv_iconst (v := 0) hx hb dX14_teach_40 rfl ?_
    refine lv_istore_n (lv' := [(3, .int 0), (0, .ref (Γ.2.1 + 149)), (1, .ref (Γ.2.1 + k1))]) hx hb dX14_teach_41 rfl hl (by decide) rfl fun ls hl => ?_
    have L42 : ∀ (fu : Nat) (t42 : Int32 × Va), rp (b_Model_teach_42 z k1) fu t42 = some q → ∀ (H1 : Heap) (locs1 : List Loc) (ls1 : Array Slot), lv_has ls1 4 [(0, .ref (Γ.2.1 + 149)), (1, .ref (Γ.2.1 + k1)), (3, .int t42.1)] → Wd Γ sh t42.2 w H1 → va_S (gA Γ) s.heap H1 locs1 → H1.size = Γ.2.1 + n → wpT Γ w 55 C S post p l e s m args below meth c H1 locs1 (F0 m 42 ls1 []) := by
      refine q_loop (fun K42 ih42 t42 h H1 locs1 ls hl hP hS hz => ?_)
      unfold b_Model_teach_42 at h
      refine lv_iload_n hx hb dX14_teach_42 rfl (lv_at hl 2 rfl) ?_
      refine lv_bipush (v := 10) hx hb dX14_teach_43 rfl ?_
      refine lv_icmp_ge (tgt := 87) hx hb dX14_teach_45 rfl (fun hc45 => ?_) (fun hc45 => ?_)
      · have h := itt_e h hc45
        refine lv_aload_n hx hb dX14_teach_87 rfl (lv_at hl 1 rfl) ?_
        refine w_gr (k := k1) (r := (k1 + 11)) hx hb hts hown hK hP fX14_230 hk1.1 rfl dX14_teach_88 ?_
        refine lv_iconst (v := 0) hx hb dX14_teach_91 rfl ?_
        refine lv_aload_n hx hb dX14_teach_92 rfl (lv_at hl 0 rfl) ?_
        refine w_gr (k := 149) (r := 173) hx hb hts hown hK hP fX14_27 hk.1 rfl dX14_teach_93 ?_
        refine w_gr (k := 173) (r := 179) hx hb hts hown hK hP fX14_304 hk.2.2.2.1.1 rfl dX14_teach_96 ?_
        refine lv_iconst (v := 0) hx hb dX14_teach_99 rfl ?_
        refine lv_bipush (v := 6) hx hb dX14_teach_100 rfl ?_
        obtain ⟨hn102, h⟩ := itn_e h
        obtain ⟨v102, e102, h⟩ := bnd_e h
        refine z_cpy hx hb hml hl.1 hts hown hK hP hS hz hk1.2.2.2.2.2.2.2.2.2.2.2.1 hk.2.2.2.1.2.2.2.2.2.2.1 xX14_410 hn102 ⟨Nat.le_of_ble_eq_true rfl, Nat.le_of_ble_eq_true rfl⟩ (Nat.le_of_ble_eq_true rfl) ⟨Nat.le_refl _, Nat.le_refl _⟩ e102 dX14_teach_102 fun H1 locs1 hz hP hS => ?_
        refine lv_aload_n hx hb dX14_teach_105 rfl (lv_at hl 0 rfl) ?_
        refine w_gr (k := 149) (r := 173) hx hb hts hown hK hP fX14_27 hk.1 rfl dX14_teach_106 ?_
        refine w_gr (k := 173) (r := 176) hx hb hts hown hK hP fX14_295 hk.2.2.2.1.1 rfl dX14_teach_109 ?_
        refine lv_iconst (v := (-1)) hx hb dX14_teach_112 rfl ?_
        obtain ⟨q113, e113, h⟩ := obn_e h
        refine z_Sv (v1 := q113) hx hb hml hts hown hK hP hS hz hE (c_Model_fill hk.2.2.2.1.2.2.2.1 e113) kX14_fill mX14_416 rfl rfl hl.1 (Nat.le_of_ble_eq_true rfl) ⟨Nat.le_of_ble_eq_true rfl, Nat.le_of_ble_eq_true rfl⟩ ⟨Nat.le_refl _, Nat.le_refl _⟩ dX14_teach_113 fun H1 locs1 hz hP hS => ?_
        refine lv_aload_n hx hb dX14_teach_116 rfl (lv_at hl 0 rfl) ?_
        refine w_gr (k := 149) (r := 173) hx hb hts hown hK hP fX14_27 hk.1 rfl dX14_teach_117 ?_
        refine w_gr (k := 173) (r := 177) hx hb hts hown hK hP fX14_298 hk.2.2.2.1.1 rfl dX14_teach_120 ?_
        refine lv_iconst (v := 0) hx hb dX14_teach_123 rfl ?_
        obtain ⟨q124, e124, h⟩ := obn_e h
        refine z_Sv (v1 := q124) hx hb hml hts hown hK hP hS hz hE (c_Model_fill hk.2.2.2.1.2.2.2.2.1 e124) kX14_fill mX14_416 rfl rfl hl.1 (Nat.le_of_ble_eq_true rfl) ⟨Nat.le_of_ble_eq_true rfl, Nat.le_of_ble_eq_true rfl⟩ ⟨Nat.le_refl _, Nat.le_refl _⟩ dX14_teach_124 fun H1 locs1 hz hP hS => ?_
        refine lv_aload_n hx hb dX14_teach_127 rfl (lv_at hl 0 rfl) ?_
        refine w_gr (k := 149) (r := 173) hx hb hts hown hK hP fX14_27 hk.1 rfl dX14_teach_128 ?_
        refine w_gr (k := 173) (r := 178) hx hb hts hown hK hP fX14_351 hk.2.2.2.1.1 rfl dX14_teach_131 ?_
        refine lv_iconst (v := 0) hx hb dX14_teach_134 rfl ?_
        obtain ⟨q135, e135, h⟩ := obn_e h
        refine z_Sv (v1 := q135) hx hb hml hts hown hK hP hS hz hE (c_Model_fill hk.2.2.2.1.2.2.2.2.2.1 e135) kX14_fill mX14_416 rfl rfl hl.1 (Nat.le_of_ble_eq_true rfl) ⟨Nat.le_of_ble_eq_true rfl, Nat.le_of_ble_eq_true rfl⟩ ⟨Nat.le_refl _, Nat.le_refl _⟩ dX14_teach_135 fun H1 locs1 hz hP hS => ?_
        refine lv_aload_n hx hb dX14_teach_138 rfl (lv_at hl 0 rfl) ?_
        refine w_gr (k := 149) (r := 173) hx hb hts hown hK hP fX14_27 hk.1 rfl dX14_teach_139 ?_
        refine w_gr (k := 173) (r := 180) hx hb hts hown hK hP fX14_357 hk.2.2.2.1.1 rfl dX14_teach_142 ?_
        refine lv_iconst (v := 0) hx hb dX14_teach_145 rfl ?_
        obtain ⟨q146, e146, h⟩ := obn_e h
        refine z_Sv (v1 := q146) hx hb hml hts hown hK hP hS hz hE (c_Model_fill hk.2.2.2.1.2.2.2.2.2.2.2.1 e146) kX14_fill mX14_416 rfl rfl hl.1 (Nat.le_of_ble_eq_true rfl) ⟨Nat.le_of_ble_eq_true rfl, Nat.le_of_ble_eq_true rfl⟩ ⟨Nat.le_refl _, Nat.le_refl _⟩ dX14_teach_146 fun H1 locs1 hz hP hS => ?_
        refine lv_aload_n hx hb dX14_teach_149 rfl (lv_at hl 0 rfl) ?_
        refine w_gr (k := 149) (r := 173) hx hb hts hown hK hP fX14_27 hk.1 rfl dX14_teach_150 ?_
        refine w_gr (k := 173) (r := 181) hx hb hts hown hK hP fX14_348 hk.2.2.2.1.1 rfl dX14_teach_153 ?_
        refine lv_iconst (v := 0) hx hb dX14_teach_156 rfl ?_
        obtain ⟨q157, e157, h⟩ := obn_e h
        refine z_Sv (v1 := q157) hx hb hml hts hown hK hP hS hz hE (c_Model_fill hk.2.2.2.1.2.2.2.2.2.2.2.2.1 e157) kX14_fill mX14_416 rfl rfl hl.1 (Nat.le_of_ble_eq_true rfl) ⟨Nat.le_of_ble_eq_true rfl, Nat.le_of_ble_eq_true rfl⟩ ⟨Nat.le_refl _, Nat.le_refl _⟩ dX14_teach_157 fun H1 locs1 hz hP hS => ?_
        refine lv_aload_n hx hb dX14_teach_160 rfl (lv_at hl 0 rfl) ?_
        refine w_gr (k := 149) (r := 173) hx hb hts hown hK hP fX14_27 hk.1 rfl dX14_teach_161 ?_
        refine w_gr (k := 173) (r := 182) hx hb hts hown hK hP fX14_379 hk.2.2.2.1.1 rfl dX14_teach_164 ?_
        refine lv_iconst (v := 0) hx hb dX14_teach_167 rfl ?_
        obtain ⟨q168, e168, h⟩ := obn_e h
        refine z_Sv (v1 := q168) hx hb hml hts hown hK hP hS hz hE (c_Model_fill hk.2.2.2.1.2.2.2.2.2.2.2.2.2.1 e168) kX14_fill mX14_416 rfl rfl hl.1 (Nat.le_of_ble_eq_true rfl) ⟨Nat.le_of_ble_eq_true rfl, Nat.le_of_ble_eq_true rfl⟩ ⟨Nat.le_refl _, Nat.le_refl _⟩ dX14_teach_168 fun H1 locs1 hz hP hS => ?_
        refine lv_aload_n hx hb dX14_teach_171 rfl (lv_at hl 0 rfl) ?_
        refine w_gr (k := 149) (r := 173) hx hb hts hown hK hP fX14_27 hk.1 rfl dX14_teach_172 ?_
        refine lv_iconst (v := 0) hx hb dX14_teach_175 rfl ?_
        obtain ⟨v176, e176, h⟩ := bnd_e h
        refine w_pi2 (k := 173) hx hb hts hown hK hP hS hz fX14_359 hk.2.2.2.1.1 rfl e176 dX14_teach_176 fun H1 locs1 hz hP hS => ?_
        refine lv_aload_n hx hb dX14_teach_179 rfl (lv_at hl 0 rfl) ?_
        refine w_gr (k := 149) (r := 173) hx hb hts hown hK hP fX14_27 hk.1 rfl dX14_teach_180 ?_
        refine lv_iconst (v := 0) hx hb dX14_teach_183 rfl ?_
        obtain ⟨v184, e184, h⟩ := bnd_e h
        refine w_pi2 (k := 173) hx hb hts hown hK hP hS hz fX14_354 hk.2.2.2.1.1 rfl e184 dX14_teach_184 fun H1 locs1 hz hP hS => ?_
        refine lv_aload_n hx hb dX14_teach_187 rfl (lv_at hl 0 rfl) ?_
        refine w_gr (k := 149) (r := 173) hx hb hts hown hK hP fX14_27 hk.1 rfl dX14_teach_188 ?_
        refine lv_iconst (v := 0) hx hb dX14_teach_191 rfl ?_
        obtain ⟨v192, e192, h⟩ := bnd_e h
        refine w_pi2 (k := 173) hx hb hts hown hK hP hS hz fX14_362 hk.2.2.2.1.1 rfl e192 dX14_teach_192 fun H1 locs1 hz hP hS => ?_
        refine lv_iconst (v := 0) hx hb dX14_teach_195 rfl ?_
        exact w_tret hx hb hret rfl hlk hK hP hS hz hE (hpost _ _ h) dX14_teach_196
      · have h := itf_e h hc45
        refine lv_aload_n hx hb dX14_teach_48 rfl (lv_at hl 0 rfl) ?_
        refine w_gr (k := 149) (r := 173) hx hb hts hown hK hP fX14_27 hk.1 rfl dX14_teach_49 ?_
        refine w_gr (k := 173) (r := 174) hx hb hts hown hK hP fX14_292 hk.2.2.2.1.1 rfl dX14_teach_52 ?_
        refine lv_iload_n hx hb dX14_teach_55 rfl (lv_at hl 2 rfl) ?_
        refine lv_bipush (v := 100) hx hb dX14_teach_56 rfl ?_
        refine lv_aload_n hx hb dX14_teach_58 rfl (lv_at hl 1 rfl) ?_
        refine w_gr (k := k1) (r := (k1 + 15)) hx hb hts hown hK hP fX14_236 hk1.1 rfl dX14_teach_59 ?_
        refine lv_iload_n hx hb dX14_teach_62 rfl (lv_at hl 2 rfl) ?_
        obtain ⟨hn63, h⟩ := itn_e h
        refine w_iald (k := (k1 + 15)) hx hb hK hP hk1.2.2.2.2.2.2.2.2.2.2.2.2.2.2.2.1 hn63 dX14_teach_63 ?_
        refine lv_imul hx hb dX14_teach_64 ?_
        obtain ⟨hn65, h⟩ := itn_e h
        obtain ⟨v65, e65, h⟩ := bnd_e h
        refine w_ia2 (k := 174) hx hb hK hP hS hz hk.2.2.2.1.2.1 hn65 e65 dX14_teach_65 fun H1 locs1 hz hP hS => ?_
        refine lv_aload_n hx hb dX14_teach_66 rfl (lv_at hl 0 rfl) ?_
        refine w_gr (k := 149) (r := 173) hx hb hts hown hK hP fX14_27 hk.1 rfl dX14_teach_67 ?_
        refine w_gr (k := 173) (r := 175) hx hb hts hown hK hP fX14_283 hk.2.2.2.1.1 rfl dX14_teach_70 ?_
        refine lv_iload_n hx hb dX14_teach_73 rfl (lv_at hl 2 rfl) ?_
        refine lv_aload_n hx hb dX14_teach_74 rfl (lv_at hl 1 rfl) ?_
        refine w_gr (k := k1) (r := (k1 + 16)) hx hb hts hown hK hP fX14_202 hk1.1 rfl dX14_teach_75 ?_
        refine lv_iload_n hx hb dX14_teach_78 rfl (lv_at hl 2 rfl) ?_
        obtain ⟨hn79, h⟩ := itn_e h
        refine w_iald (k := (k1 + 16)) hx hb hK hP hk1.2.2.2.2.2.2.2.2.2.2.2.2.2.2.2.2.1 hn79 dX14_teach_79 ?_
        obtain ⟨hn80, h⟩ := itn_e h
        obtain ⟨v80, e80, h⟩ := bnd_e h
        refine w_ia2 (k := 175) hx hb hK hP hS hz hk.2.2.2.1.2.2.1 hn80 e80 dX14_teach_80 fun H1 locs1 hz hP hS => ?_
        refine lv_iinc (k := 2) (v := (t42.1 + 1)) (lv' := [(3, .int (t42.1 + 1)), (0, .ref (Γ.2.1 + 149)), (1, .ref (Γ.2.1 + k1))]) hx hb dX14_teach_81 hl rfl rfl (by decide) rfl fun ls hl => ?_
        refine lv_goto (tgt := 42) hx hb dX14_teach_84 rfl ?_
        exact ih42 ((t42.1 + 1), v80) h _ _ _ (lv_sub hl [1, 2, 0] rfl) hP hS hz
    exact L42 z (0, v) h _ _ _ (lv_sub hl [1, 2, 0] rfl) hP hS hz
  refine lv_aload_n hx hb dX14_teach_0 rfl (lv_at hl 0 rfl) ?_
  refine lv_iconst (v := 0) hx hb dX14_teach_1 rfl ?_
  obtain ⟨v2, e2, h⟩ := bnd_e h
  refine w_pi2 (k := 149) hx hb hts hown hK hP hS hz fX14_40 hk.1 rfl e2 dX14_teach_2 fun H1 locs1 hz hP hS => ?_
  refine lv_aload_n hx hb dX14_teach_5 rfl (lv_at hl 0 rfl) ?_
  refine lv_iconst (v := (-1)) hx hb dX14_teach_6 rfl ?_
  obtain ⟨v7, e7, h⟩ := bnd_e h
  refine w_pi2 (k := 149) hx hb hts hown hK hP hS hz fX14_13 hk.1 rfl e7 dX14_teach_7 fun H1 locs1 hz hP hS => ?_
  obtain ⟨u10, e10, h⟩ := bnd_e h
  refine w_new (n := n) hx hb hts hown hK hP hS hE.2.1 nX14_17 (show 0 + 1 ≤ tC from Nat.le_of_ble_eq_true rfl) (show 0 + 26 ≤ tS from Nat.le_of_ble_eq_true rfl) hz dX14_teach_10 fun H1 hz hP hS => ?_
  have hP : Wd Γ u10.1 u10.2 w H1 := by rw [← e10]; exact hP
  have t2 : u10.1 n = some (sO 11 sh0) := by rw [← e10]; exact up_eq _ _ _
  have z0 : u10.2 n = fun _ => 0 := by rw [← e10]; exact up_eq _ _ _
  have hq10 : ∀ q, q < n → u10.1 q = sh q := fun q hq => (low_kO e10 (by omega)).1
  refine lv_dup hx hb dX14_teach_13 rfl ?_
  obtain ⟨u14, e14, h⟩ := bnd_e h
  refine w_cK (u := u10) (q := u14) (k := n) hx hb hml hts hown hK hP hS hz hE (i_Sheet t2 e14) kX12_init mX14_19 rfl rfl hl.1 (Nat.le_of_ble_eq_true rfl) ⟨Nat.le_of_ble_eq_true rfl, Nat.le_of_ble_eq_true rfl⟩ ⟨Nat.le_refl _, Nat.le_refl _⟩ dX14_teach_14 fun H1 locs1 hz hP hS => ?_
  obtain ⟨hk1, hzz, hlo⟩ := sheet_k z0 e14
  have hk2 : isModel u14.1 sp := hk.low (fun q hq => (hlo q hq).1.trans (hq10 q hq)) hn hsp
  refine lv_astore_n (lv' := [(1, .ref (Γ.2.1 + n)), (0, .ref (Γ.2.1 + 149))]) hx hb dX14_teach_17 rfl hl (by decide) rfl fun ls hl => ?_
  refine lv_aload_n hx hb dX14_teach_18 rfl (lv_at hl 1 rfl) ?_
  refine lv_aload_n hx hb dX14_teach_19 rfl (lv_at hl 0 rfl) ?_
  obtain ⟨q20, e20, h⟩ := obn_e h
  refine z_Vi (k := 149) (r1 := q20.1) (v1 := q20.2) hx hb hml hts hown hK hP hS hz hE (c_Model_read hk2 hk1 hF e20) kX14_read mX14_406 hk2.1 rfl rfl rfl hl.1 (Nat.le_of_ble_eq_true rfl) ⟨Nat.le_of_ble_eq_true rfl, Nat.le_of_ble_eq_true rfl⟩ ⟨Nat.le_refl _, Nat.le_refl _⟩ dX14_teach_20 fun H1 locs1 hz hP hS => ?_
  refine lv_istore_n (lv' := [(2, .int q20.1), (1, .ref (Γ.2.1 + n)), (0, .ref (Γ.2.1 + 149))]) hx hb dX14_teach_23 rfl hl (by decide) rfl fun ls hl => ?_
  refine lv_aload_n hx hb dX14_teach_24 rfl (lv_at hl 2 rfl) ?_
  refine lv_iconst (v := 0) hx hb dX14_teach_25 rfl ?_
  obtain ⟨v26, e26, h⟩ := bnd_e h
  refine w_pi2 (k := 149) hx hb hts hown hK hP hS hz fX14_57 hk2.1 rfl e26 dX14_teach_26 fun H1 locs1 hz hP hS => ?_
  refine lv_iload_n hx hb dX14_teach_29 rfl (lv_at hl 0 rfl) ?_
  refine lv_if_le (tgt := 35) hx hb dX14_teach_30 rfl (fun hc30 => ?_) (fun hc30 => ?_)
  · have h := itt_e h hc30
    refine lv_aload_n hx hb dX14_teach_35 rfl (lv_at hl 2 rfl) ?_
    refine lv_aload_n hx hb dX14_teach_36 rfl (lv_at hl 1 rfl) ?_
    obtain ⟨u37, e37, h⟩ := bnd_e h
    refine w_put (cd := (n + 3)) (y := 0) hx hb hts hown hK hP hS fX14_20 hk2.1 rfl rfl rfl rfl dX14_teach_37 fun H1 locs1 hq hP hS => ?_
    have hz := hq.trans hz
    have hP : Wd Γ u37.1 u37.2 w H1 := by rw [← e37]; exact hP
    have es : u37.1 = up u14.1 149 (some (sO 13 [0, 153, 0, 0, 0, 0, (n + 3), 176, 186, 196, 0, 1])) := by rw [← e37]; rfl
    obtain ⟨q40, e40, h⟩ := obn_e h
    have hk3 : isModel u37.1 n := by rw [es]; exact hk2.link hk1 hn
    have hk4 : isSheet u37.1 n := by rw [es]; exact hk1.link hn
    exact B _ _ u37.1 (n + 22) u37.2 n q40 _ hk3 hk4 e40 (fun x u hq => by cases hq; cases h; exact ⟨rfl, rfl⟩) _ _ _ (lv_sub hl [2, 1] rfl) hP hS hz
  · have h := itf_e h hc30
    refine lv_iload_n hx hb dX14_teach_33 rfl (lv_at hl 0 rfl) ?_
    exact w_tret hx hb hret rfl hlk hK hP hS hz hE (by cases h; exact ⟨rfl, rfl⟩) dX14_teach_34
end GE
