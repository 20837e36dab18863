/-! BYTES: copies and clones of arrays in growing worlds -/
theorem xcX12_75 : Cond.methodLink RX12 75 ⟨"[Z", "clone", "()Ljava/lang/Object;"⟩ ∈ lw_all := tk4 (i := 198) (by decide +kernel) rfl
theorem xcs_Z : Cond.sameMethod "[Z" "java/lang/Object" "clone" "()Ljava/lang/Object;" ∈ lw_all := tk4 (i := 199) (by decide +kernel) rfl
theorem xc_nat : Cond.native ⟨"java/lang/Object", "clone", "()Ljava/lang/Object;"⟩ ∈ lw_all := tk4 (i := 200) (by decide +kernel) rfl
theorem xc_ins : Cond.instanceMethod ⟨"java/lang/Object", "clone", "()Ljava/lang/Object;"⟩ ∈ lw_all := tk4 (i := 201) (by decide +kernel) rfl
theorem xcx_Z : Cond.selects "[Z" ⟨"[Z", "clone", "()Ljava/lang/Object;"⟩ ⟨"java/lang/Object", "clone", "()Ljava/lang/Object;"⟩ ∈ lw_all := tk4 (i := 202) (by decide +kernel) rfl
theorem xcJ7_310 : Cond.methodLink RJ7 310 ⟨"[B", "clone", "()Ljava/lang/Object;"⟩ ∈ lw_all := tk6 (i := 199) (by decide +kernel) rfl
theorem xcs_B : Cond.sameMethod "[B" "java/lang/Object" "clone" "()Ljava/lang/Object;" ∈ lw_all := tk6 (i := 200) (by decide +kernel) rfl
theorem xcx_B : Cond.selects "[B" ⟨"[B", "clone", "()Ljava/lang/Object;"⟩ ⟨"java/lang/Object", "clone", "()Ljava/lang/Object;"⟩ ∈ lw_all := tk6 (i := 201) (by decide +kernel) rfl
theorem xoJ5_3 : Cond.methodLink RJ5 3 objectInit ∈ lw_all := tk7 (i := 71) (by decide +kernel) rfl
theorem xoJ0_1 : Cond.methodLink RJ0 1 objectInit ∈ lw_all := tk7 (i := 98) (by decide +kernel) rfl
/-- what the JDK's methods take from the entry: their statics, the tables of digits at d1 and d2, what may be cloned -/
def clB : List Cond := [.castable "[B" "java/lang/Cloneable", .castable "[Z" "java/lang/Cloneable"]
def digO : List Int32 := (List.range 100).map fun i => nI (48 + i % 10)
def digT : List Int32 := (List.range 100).map fun i => nI (48 + i / 10)
def EC (Γ : Cx) (sh : Sh) (d1 d2 : Nat) : Prop := va_Z "java/lang/String" "COMPACT_STRINGS" "Z" (.int 1) (gF Γ sh) (cx0 Γ) (cx0 Γ).heap ∧ va_Z "java/lang/Integer" "DigitOnes" "[B" (.ref d1) (gF Γ sh) (cx0 Γ) (cx0 Γ).heap ∧ va_Z "java/lang/Integer" "DigitTens" "[B" (.ref d2) (gF Γ sh) (cx0 Γ) (cx0 Γ).heap ∧ (∀ w ∈ clB, w.before #[] (cx0 Γ) = true) ∧ sb_ok Γ sh d1 digO ∧ sb_ok Γ sh d2 digT
theorem dig_at {i : Nat} (h : i < 100) : digO.getD i 0 = nI (48 + i % 10) ∧ digT.getD i 0 = nI (48 + i / 10) := by
  unfold digO digT
  rw [List.getD_eq_getElem?_getD, List.getD_eq_getElem?_getD, List.getElem?_map, List.getElem?_map, List.getElem?_range h]
  exact ⟨rfl, rfl⟩
theorem GR.F {Γ : Cx} {sh0 sh : Sh} {n0 n : Nat} {s : State} (h : GR sh0 n0 sh n) (hE : EN Γ sh0 n0 s) : ∀ q, q < (cx0 Γ).heap.size → gF Γ sh q → gF Γ sh0 q := fun q hq hg => by
  rcases hg with ⟨k, e, hk, hw, e1⟩ | h1
  · by_cases hlt : k < n0
    · exact Or.inl ⟨k, e, (h.2 k hlt).symm.trans hk, hw, e1⟩
    · exact absurd hq (by have h3 : (cx0 Γ).heap.size ≤ Γ.2.1 + n0 := hE.2.2.1
                          omega)
  · exact Or.inr h1
theorem va_Z.gr {C a d : String} {x : Value} {A B : Nat → Prop} {U : State} {H : Heap} (h : va_Z C a d x A U H) (hq : ∀ q, q < H.size → B q → A q) : va_Z C a d x B U H := by
  obtain ⟨cf, kf, fi, f, t, cell, h1, h2, h3, h4, h5, h6, h7, h8⟩ := h
  exact ⟨cf, kf, fi, f, t, cell, h1, h2, h3, h4, h5, h6, h7, fun hb => h8 (hq t (Array.getElem?_eq_some_iff.mp h5).1 hb)⟩
theorem GR.F2 {Γ : Cx} {sh0 sh : Sh} {n0 n : Nat} {s : State} (h : GR sh0 n0 sh n) (hE : EN Γ sh0 n0 s) : ∀ q, gF Γ sh q → gF Γ sh0 q := fun q hg => by
  by_cases hq : q < (cx0 Γ).heap.size
  · exact h.F hE q hq hg
  · exact Or.inr (Nat.not_lt.mp hq)
theorem sb_ok.gr {Γ : Cx} {sh0 sh : Sh} {av : Nat} {bs : List Int32} (h : sb_ok Γ sh0 av bs) (hq : ∀ q, gF Γ sh q → gF Γ sh0 q) : sb_ok Γ sh av bs := ⟨h.1.narrow hq, h.2⟩
theorem va_OF.gr9 {o n d : String} {x : Value} {t : Nat} {A B : Nat → Prop} {U : State} {H : Heap} (h : va_OF o n d x t A U H) (hAB : ∀ q, B q → A q) : va_OF o n d x t B U H := h.narrow hAB
theorem sl_ok.gr {Γ : Cx} {sh0 sh : Sh} {ad av : Nat} {bs : List Int32} (h : sl_ok Γ sh0 ad av bs) (hq : ∀ q, gF Γ sh q → gF Γ sh0 q) : sl_ok Γ sh ad av bs := ⟨h.1.narrow hq, h.2.1.narrow hq, h.2.2.1.narrow hq, h.2.2.2.gr hq⟩
theorem EC.gr {Γ : Cx} {sh0 sh : Sh} {n0 n d1 d2 : Nat} {s : State} (hC : EC Γ sh0 d1 d2) (h : GR sh0 n0 sh n) (hE : EN Γ sh0 n0 s) : EC Γ sh d1 d2 := by
  obtain ⟨h1, h2, h3, h4, h5, h6⟩ := hC
  exact ⟨h1.gr (h.F hE), h2.gr (h.F hE), h3.gr (h.F hE), h4, h5.gr (h.F2 hE), h6.gr (h.F2 hE)⟩
section WBY
variable {p : Program} {l : Launch} {e : Env} {R : Room} {s : State} {m : MethodId} {args : Array Value} {below : List Frame} {meth : Method} {c : Code} {H H0 : Heap} {locs : List Loc} {cells slots : Nat} {Q : State → Prop}
variable {cc : ByteArray} {pc nL : Nat} {ls : Array Slot} {st0 rest As Bs : List Value} {Γ : Cx} {sh sh0 : Sh} {v v1 : Va} {w : Vl} {own : String} {idx ci j k n n0 nn hh mL mc ms a : Nat} {cs : List Nat} {y : MethodName} {b : ByteArray} {ret : Option FieldType} {A : Nat → Prop}
theorem fit_b {x : Int32} (h : x.toInt8.toInt32 = x) : fits .byte (.int x) = true := by rw [← h]; exact pk_fb x
theorem z_cpyB (hx : p.tables.exec = Jvm.exec) (hb : c.code = cc) (hml : c.maxLocals = nL) (hls : ls.size = nL) (hts : ∀ w ∈ lw_all, w.before args s = true) (hown : s.vm.findClass own = some m.cls) (hK : wK Γ s) (hP : Wd Γ sh v w H) (hS : va_S A H0 H locs) (hz : H.size = Γ.2.1 + n) {k0 k1 n0 n1 : Nat} (he0 : sh k0 = some (sB 1 n0) ∨ sh k0 = some (sX 1 n0)) (he1 : sh k1 = some (sB 1 n1)) (hA : A (Γ.2.1 + k1)) (hbt : ∀ i, i < n0 → (v k0 i).toInt8.toInt32 = v k0 i) (hl : Cond.methodLink own idx arraycopyName ∈ lw_all) {a b d : Int32}
    (hn : ¬ (a < 0 ∨ d < 0 ∨ b < 0 ∨ n0 < a.toNatClampNeg + b.toNatClampNeg ∨ n1 < d.toNatClampNeg + b.toNatClampNeg ∨ k0 = k1)) (hR : 1 ≤ R.frames ∧ 26 ≤ R.locals) (hW : (rest.map fun v => v.category).sum ≤ 8) (hf : cells ≤ R.cells ∧ slots ≤ R.slots) {v1 : Va} (hv1 : q_cpy v k0 a k1 d b = v1) (hdg : decode cc pc = .ok (.invokestatic idx, 3))
    (kk : ∀ (H1 : Heap) (locs1 : List Loc), H1.size = Γ.2.1 + n → Wd Γ sh v1 w H1 → va_S A H0 H1 locs1 → W p l e R s m args below meth c H1 locs1 cells slots Q (F0 m (pc + 3) ls rest)) : W p l e R s m args below meth c H locs cells slots Q (F0 m pc ls (.int b :: .int d :: .ref (Γ.2.1 + k1) :: .int a :: .ref (Γ.2.1 + k0) :: rest)) := by
  have h1 : ¬ a < 0 := fun q => hn (Or.inl q)
  have h2 : ¬ d < 0 := fun q => hn (Or.inr (Or.inl q))
  have h3 : ¬ b < 0 := fun q => hn (Or.inr (Or.inr (Or.inl q)))
  have h4 : a.toNatClampNeg + b.toNatClampNeg ≤ n0 := Nat.le_of_not_lt fun q => hn (Or.inr (Or.inr (Or.inr (Or.inl q))))
  have h5 : d.toNatClampNeg + b.toNatClampNeg ≤ n1 := Nat.le_of_not_lt fun q => hn (Or.inr (Or.inr (Or.inr (Or.inr (Or.inl q)))))
  have h6 : k0 ≠ k1 := fun q => hn (Or.inr (Or.inr (Or.inr (Or.inr (Or.inr q)))))
  have nn : ∀ z : Int32, ¬ z < 0 → z.toInt = (z.toNatClampNeg : Int) := fun z hz => Int32.toInt_eq_toNatClampNeg (Int32.not_lt.mp hz)
  have hc0 : H[Γ.2.1 + k0]? = some (vp_cell (Γ.2.2.2.1 1) (n0, .inl (v k0))) := he0.elim (fun h => hP k0 _ h) (fun h => hP k0 _ h)
  have hc1 : H[Γ.2.1 + k1]? = some (vp_cell (Γ.2.2.2.1 1) (n1, .inl (v k1))) := hP k1 _ he1
  obtain ⟨-, kA, hkA, cmA, hkkA⟩ := (hK.2 2 _ rfl).1 n0 (fun j => .int (v k0 j))
  obtain ⟨-, kB, hkB, cmB, hkkB⟩ := (hK.2 2 _ rfl).1 n1 (fun j => .int (v k1 j))
  intro T hT X
  obtain ⟨vm1, X1, step⟩ := X.arraycopy hx hown (hts _ hl) (hts _ xn_copy) (hts _ xs_copy) (hts _ xi_system) (src := Γ.2.1 + k0) (dst := Γ.2.1 + k1) (cs := vp_cell (Γ.2.2.2.1 1) (n0, .inl (v k0))) (cd := vp_cell (Γ.2.2.2.1 1) (n1, .inl (v k1))) (srcPos := a) (destPos := d) (n := b) (by rw [hT]; exact hc0) (by rw [hT]; exact hc1)
    (fun _ q => by cases q) (fun _ q => by cases q) (fun q => by cases q) (fun q => by cases q) hkA hkB hkkA hkkB (by simp [refKind]) h1 h2 h3
    (by rw [nn a h1, nn b h3]; show ¬ _ > ((arrV (Γ.2.2.2.1 1) n0 (fun j => .int (v k0 j))).slots.size : Int); rw [arrV_size]; omega)
    (by rw [nn d h2, nn b h3]; show ¬ _ > ((arrV (Γ.2.2.2.1 1) n1 (fun j => .int (v k1 j))).slots.size : Int); rw [arrV_size]; omega)
    (fun _ _ i hi => by
      have e : (vp_cell (Γ.2.2.2.1 1) (n0, .inl (v k0))).slots.getD (a.toNatClampNeg + i) .null = .int (v k0 (a.toNatClampNeg + i)) := by
        show (arrV (Γ.2.2.2.1 1) n0 (fun j => .int (v k0 j))).slots.getD _ _ = _
        rw [Array.getD_eq_getD_getElem?, arrV_read _ _ (by omega)]
        rfl
      rw [e]
      exact ⟨fit_b (hbt _ (by omega)), trivial⟩)
    (g := F0 m pc ls (.int b :: .int d :: .ref (Γ.2.1 + k1) :: .int a :: .ref (Γ.2.1 + k0) :: rest)) rfl (by rw [hml, hls]) (rest := rest) rfl (by rw [hb]; exact hdg) hR.1 (by show 2 * 0 + _ + (7 + 11) ≤ _; omega)
  have e1 : copied (vp_cell (Γ.2.2.2.1 1) (n0, .inl (v k0))) (vp_cell (Γ.2.2.2.1 1) (n1, .inl (v k1))) a d b = vp_cell (Γ.2.2.2.1 1) (n1, .inl (v1 k1)) := by
    rw [← hv1, q_cpy, up_eq]
    exact va_copied (fun z => .int z) (Γ.2.2.2.1 1) (Γ.2.2.2.1 1) (v k0) (v k1) h4
  rw [e1] at X1 step
  have hlt : Γ.2.1 + k1 < H.size := (Array.getElem?_eq_some_iff.mp hc1).1
  have hheap : ((T.setVm vm1).setCell (Γ.2.1 + k1) (vp_cell (Γ.2.2.2.1 1) (n1, .inl (v1 k1)))).heap = H.setIfInBounds (Γ.2.1 + k1) (vp_cell (Γ.2.2.2.1 1) (n1, .inl (v1 k1))) := by rw [← hT]; rfl
  have oq : ∀ q : Nat, q ≠ Γ.2.1 + k1 → (H.setIfInBounds (Γ.2.1 + k1) (vp_cell (Γ.2.2.2.1 1) (n1, .inl (v1 k1))))[q]? = H[q]? := fun q hq => by simp [Array.getElem?_setIfInBounds, Ne.symm hq]
  have hW1 : Wd Γ sh v1 w (H.setIfInBounds (Γ.2.1 + k1) (vp_cell (Γ.2.2.2.1 1) (n1, .inl (v1 k1)))) := hP.set k1 (fun e0 h0 => by
      rw [he1] at h0
      cases h0
      show (H.setIfInBounds (Γ.2.1 + k1) _)[Γ.2.1 + k1]? = some (vp_cell (Γ.2.2.2.1 1) (n1, .inl (v1 k1)))
      simp [Array.getElem?_setIfInBounds, hlt]) (fun q _ => rfl) (fun q hq => by rw [← hv1, q_cpy]; exact up_ne hq) (fun q _ => rfl) (fun q _ hq _ => oq _ (fun z => hq (Nat.add_left_cancel z)))
  obtain ⟨t, a1, b1⟩ := kk _ _ (by simpa using hz) hW1 ⟨by simp; exact hS.1, fun q g1 g2 => by
      rw [oq q (fun z => g2 (by rw [z]; exact hA))]
      exact hS.2.1 q g1 g2, fun q hq => by
      rcases List.mem_append.mp hq with h | h
      · exact hS.2.2 q h
      · obtain ⟨z, -, hz'⟩ := List.mem_map.mp h
        rw [← hz']
        exact hA⟩ _ hheap X1
  exact ⟨t, step t a1, b1⟩
theorem z_cpyL (hx : p.tables.exec = Jvm.exec) (hb : c.code = cc) (hml : c.maxLocals = nL) (hls : ls.size = nL) (hts : ∀ w ∈ lw_all, w.before args s = true) (hown : s.vm.findClass own = some m.cls) (hK : wK Γ s) (hP : Wd Γ sh v w H) (hS : va_S A s.heap H locs) (hz : H.size = Γ.2.1 + n) {k0 k1 n0 n1 : Nat} {f0 : Nat → Int32} (hT0 : va_T .byte k0 n0 (fun j => .int (f0 j)) A s s.heap) (he1 : sh k1 = some (sB 1 n1)) (hA : A (Γ.2.1 + k1)) (hbt : ∀ i, i < n0 → (f0 i).toInt8.toInt32 = f0 i) (hl : Cond.methodLink own idx arraycopyName ∈ lw_all) {a b d : Int32}
    (hn : ¬ (a < 0 ∨ d < 0 ∨ b < 0 ∨ n0 < a.toNatClampNeg + b.toNatClampNeg ∨ n1 < d.toNatClampNeg + b.toNatClampNeg)) (hR : 1 ≤ R.frames ∧ 26 ≤ R.locals) (hW : (rest.map fun v => v.category).sum ≤ 8) (hf : cells ≤ R.cells ∧ slots ≤ R.slots) {v1 : Va} (hv1 : up v k1 (va_cpy f0 (v k1) a.toNatClampNeg d.toNatClampNeg b.toNatClampNeg) = v1) (hdg : decode cc pc = .ok (.invokestatic idx, 3))
    (kk : ∀ (H1 : Heap) (locs1 : List Loc), H1.size = Γ.2.1 + n → Wd Γ sh v1 w H1 → va_S A s.heap H1 locs1 → W p l e R s m args below meth c H1 locs1 cells slots Q (F0 m (pc + 3) ls rest)) : W p l e R s m args below meth c H locs cells slots Q (F0 m pc ls (.int b :: .int d :: .ref (Γ.2.1 + k1) :: .int a :: .ref k0 :: rest)) := by
  have h1 : ¬ a < 0 := fun q => hn (Or.inl q)
  have h2 : ¬ d < 0 := fun q => hn (Or.inr (Or.inl q))
  have h3 : ¬ b < 0 := fun q => hn (Or.inr (Or.inr (Or.inl q)))
  have h4 : a.toNatClampNeg + b.toNatClampNeg ≤ n0 := Nat.le_of_not_lt fun q => hn (Or.inr (Or.inr (Or.inr (Or.inl q))))
  have h5 : d.toNatClampNeg + b.toNatClampNeg ≤ n1 := Nat.le_of_not_lt fun q => hn (Or.inr (Or.inr (Or.inr (Or.inr q))))
  have nn : ∀ z : Int32, ¬ z < 0 → z.toInt = (z.toNatClampNeg : Int) := fun z hz => Int32.toInt_eq_toNatClampNeg (Int32.not_lt.mp hz)
  obtain ⟨scr, hs1, hs2, hs3, hs4, hs5, hs6, hs7⟩ := hT0
  have hc0 : H[k0]? = some scr := by rw [hS.2.1 k0 (Array.getElem?_eq_some_iff.mp hs1).1 hs7]; exact hs1
  have hc1 : H[Γ.2.1 + k1]? = some (vp_cell (Γ.2.2.2.1 1) (n1, .inl (v k1))) := hP k1 _ he1
  obtain ⟨hs8, kA, hkA, cmA, hkkA⟩ := hs2
  obtain ⟨-, kB, hkB, cmB, hkkB⟩ := (hK.2 2 _ rfl).1 n1 (fun j => .int (v k1 j))
  intro T hT X
  obtain ⟨vm1, X1, step⟩ := X.arraycopy hx hown (hts _ hl) (hts _ xn_copy) (hts _ xs_copy) (hts _ xi_system) (src := k0) (dst := Γ.2.1 + k1) (cs := scr) (cd := vp_cell (Γ.2.2.2.1 1) (n1, .inl (v k1))) (srcPos := a) (destPos := d) (n := b) (by rw [hT]; exact hc0) (by rw [hT]; exact hc1)
    hs8 (fun _ q => by cases q) hs3 (fun q => by cases q) hkA hkB hkkA hkkB (by simp [refKind]) h1 h2 h3
    (by rw [nn a h1, nn b h3]; omega)
    (by rw [nn d h2, nn b h3]; show ¬ _ > ((arrV (Γ.2.2.2.1 1) n1 (fun j => .int (v k1 j))).slots.size : Int); rw [arrV_size]; omega)
    (fun _ _ i hi => by
      have e : scr.slots.getD (a.toNatClampNeg + i) .null = .int (f0 (a.toNatClampNeg + i)) := by
        rw [Array.getD_eq_getD_getElem?, hs6 _ (by omega)]
        rfl
      rw [e]
      exact ⟨fit_b (hbt _ (by omega)), trivial⟩)
    (g := F0 m pc ls (.int b :: .int d :: .ref (Γ.2.1 + k1) :: .int a :: .ref k0 :: rest)) rfl (by rw [hml, hls]) (rest := rest) rfl (by rw [hb]; exact hdg) hR.1 (by show 2 * 0 + _ + (7 + 11) ≤ _; omega)
  have e1 : copied scr (vp_cell (Γ.2.2.2.1 1) (n1, .inl (v k1))) a d b = vp_cell (Γ.2.2.2.1 1) (n1, .inl (v1 k1)) := by
    rw [← hv1, up_eq]
    exact va_copiedX (fun z => .int z) scr (Γ.2.2.2.1 1) f0 (v k1) hs6 h4
  rw [e1] at X1 step
  have hlt : Γ.2.1 + k1 < H.size := (Array.getElem?_eq_some_iff.mp hc1).1
  have hheap : ((T.setVm vm1).setCell (Γ.2.1 + k1) (vp_cell (Γ.2.2.2.1 1) (n1, .inl (v1 k1)))).heap = H.setIfInBounds (Γ.2.1 + k1) (vp_cell (Γ.2.2.2.1 1) (n1, .inl (v1 k1))) := by rw [← hT]; rfl
  have oq : ∀ q : Nat, q ≠ Γ.2.1 + k1 → (H.setIfInBounds (Γ.2.1 + k1) (vp_cell (Γ.2.2.2.1 1) (n1, .inl (v1 k1))))[q]? = H[q]? := fun q hq => by simp [Array.getElem?_setIfInBounds, Ne.symm hq]
  have hW1 : Wd Γ sh v1 w (H.setIfInBounds (Γ.2.1 + k1) (vp_cell (Γ.2.2.2.1 1) (n1, .inl (v1 k1)))) := hP.set k1 (fun e0 h0 => by
      rw [he1] at h0
      cases h0
      show (H.setIfInBounds (Γ.2.1 + k1) _)[Γ.2.1 + k1]? = some (vp_cell (Γ.2.2.2.1 1) (n1, .inl (v1 k1)))
      simp [Array.getElem?_setIfInBounds, hlt]) (fun q _ => rfl) (fun q hq => by rw [← hv1]; exact up_ne hq) (fun q _ => rfl) (fun q _ hq _ => oq _ (fun z => hq (Nat.add_left_cancel z)))
  obtain ⟨t, a1, b1⟩ := kk _ _ (by simpa using hz) hW1 ⟨by simp; exact hS.1, fun q g1 g2 => by
      rw [oq q (fun z => g2 (by rw [z]; exact hA))]
      exact hS.2.1 q g1 g2, fun q hq => by
      rcases List.mem_append.mp hq with h | h
      · exact hS.2.2 q h
      · obtain ⟨z, -, hz'⟩ := List.mem_map.mp h
        rw [← hz']
        exact hA⟩ _ hheap X1
  exact ⟨t, step t a1, b1⟩
/-- an array's clone: bytes (1), booleans (2) -/
theorem w_clone (hx : p.tables.exec = Jvm.exec) (hb : c.code = cc) (hml : c.maxLocals = nL) (hls : ls.size = nL) (hts : ∀ w ∈ lw_all, w.before args s = true) (hown : s.vm.findClass own = some m.cls) (hK : wK Γ s) (hP : Wd Γ sh v w H) (hS : va_S A H0 H locs) {t N : Nat} {ty : FieldType} {ad : String} (hty : (wKt Γ)[t + 1]? = some (Γ.2.2.2.1 t, ty)) (had : "[" ++ ty.toString = ad) (hra : ∀ cA, va_RA s cA ty → s.vm.findClass ("[" ++ ty.toString) = some cA) (he : sh k = some (sB t N)) (hfit : ∀ i, i < N → fits ty (.int (v k i)) = true)
    (hl : Cond.methodLink own idx ⟨ad, "clone", "()Ljava/lang/Object;"⟩ ∈ lw_all) (hsame : Cond.sameMethod ad "java/lang/Object" "clone" "()Ljava/lang/Object;" ∈ lw_all) (hsel : Cond.selects ad ⟨ad, "clone", "()Ljava/lang/Object;"⟩ ⟨"java/lang/Object", "clone", "()Ljava/lang/Object;"⟩ ∈ lw_all) (hcl : (Cond.castable ad "java/lang/Cloneable").before args s = true)
    (hR : 1 ≤ R.frames ∧ 26 ≤ R.locals) (hW : (rest.map fun v => v.category).sum ≤ 8) (hcells : cells + 1 ≤ R.cells) (hslots : slots + N ≤ R.slots) (hz : H.size = Γ.2.1 + n) (hdg : decode cc pc = .ok (.invokevirtual idx, 3))
    (kk : ∀ H1 : Heap, H1.size = Γ.2.1 + (n + 1) → Wd Γ (up sh n (some (sB t N))) (up v n (v k)) w H1 → va_S A H0 H1 locs → W p l e R s m args below meth c H1 locs (cells + 1) (slots + N) Q (F0 m (pc + 3) ls (.ref (Γ.2.1 + n) :: rest))) : W p l e R s m args below meth c H locs cells slots Q (F0 m pc ls (.ref (Γ.2.1 + k) :: rest)) := by
  have hKt := hK.2 _ _ hty
  have hnm : s.vm.findClass ad = some (Γ.2.2.2.1 t) := by rw [← had]; exact hra _ hKt.2
  have hc0 : H[Γ.2.1 + k]? = some (vp_cell (Γ.2.2.2.1 t) (N, .inl (v k))) := hP k _ he
  have hsz : (vp_cell (Γ.2.2.2.1 t) (N, .inl (v k))).slots.size = N := arrV_size _ _ _
  obtain ⟨c0, t0', f1, f2, f3⟩ := Cond.castable_spec hcl
  cases hnm.symm.trans f1
  intro T hT X
  have hcellT : T.heap[Γ.2.1 + k]? = some (vp_cell (Γ.2.2.2.1 t) (N, .inl (v k))) := by rw [hT]; exact hc0
  obtain ⟨-, kA, hkA, comp, hkind⟩ := State.isArrayOf_alike X.warmed.alike (hKt.1 0 (fun _ => .null))
  obtain ⟨-, kS, hkS, compS, hkindS⟩ := hKt.1 0 (fun _ => .null)
  obtain ⟨vm', X', st⟩ := X.cloneArray hx hown (hts _ hl) (hts _ hsame) (hts _ xc_nat) (hts _ xc_ins) (hts _ hsel) (a := Γ.2.1 + k) (cell := vp_cell (Γ.2.2.2.1 t) (N, .inl (v k))) hcellT (fun k h => by cases h) (fun h => by cases h) hnm f2 f3
    (fun i x hv => by
      have hk' : T.vm.classes[Γ.2.2.2.1 t]? = some kA := hkA
      have hi : i < N := by rw [← hsz]; exact (Array.getElem?_eq_some_iff.mp hv).1
      have hv2 : (arrV (Γ.2.2.2.1 t) N (fun j => .int (v k j))).slots[i]? = some x := hv
      rw [arrV_read _ _ hi] at hv2
      cases hv2
      show State.fitsSlot T (Γ.2.2.2.1 t) _ i _ = true
      simpa [State.fitsSlot, State.slotType?, hk', hkind] using hfit i hi)
    (g := F0 m pc ls (.ref (Γ.2.1 + k) :: rest)) rfl (by rw [hml, hls]) rfl (by rw [hb]; exact hdg) hR.1 (by show 2 * 0 + _ + 14 ≤ _; omega) hcells (by rw [hsz]; exact hslots) (hloader := Vm.clonesLoader_of_array hkS hkindS)
  have hcellE : ({ cls := (vp_cell (Γ.2.2.2.1 t) (N, .inl (v k))).cls, slots := (vp_cell (Γ.2.2.2.1 t) (N, .inl (v k))).slots } : Cell) = vp_cell (Γ.2.2.2.1 t) (N, .inl (v k)) := rfl
  rw [hcellE, hsz] at X'
  generalize hH1 : H.push (vp_cell (Γ.2.2.2.1 t) (N, .inl (v k))) = H1
  have z1 : H1.size = H.size + 1 := by rw [← hH1, Array.size_push]
  have e1 : H1[H.size]? = some (vp_cell (Γ.2.2.2.1 t) (N, .inl (v k))) := by rw [← hH1, Array.getElem?_push_size]
  have o1 : ∀ q : Nat, q < H.size → H1[q]? = H[q]? := fun q hq => by rw [← hH1, Array.getElem?_push, if_neg (Nat.ne_of_lt hq)]
  obtain ⟨u, b1, b2⟩ := kk H1 (by omega) (hP.set n (fun e0 h0 => by
      rw [up_eq] at h0
      cases h0
      rw [up_eq]
      show H1[Γ.2.1 + n]? = _
      rw [← hz]; exact e1) (fun q h => up_ne h) (fun q h => up_ne h) (fun q h => rfl) (fun q e0 h h0 => o1 _ (by have := hP.lt h0; omega))) ⟨Nat.le_trans hS.1 (by omega), fun y h1 h2 => (o1 y (Nat.lt_of_lt_of_le h1 hS.1)).trans (hS.2.1 y h1 h2), hS.2.2⟩
    ((T.setVm vm').pushCell (vp_cell (Γ.2.2.2.1 t) (N, .inl (v k)))) (by rw [← hH1, ← hT]; rfl) X'
  refine ⟨u, st u ?_, b2⟩
  rw [hcellE, hT, hz]
  exact b1
theorem w_cast (hx : p.tables.exec = Jvm.exec) (hb : c.code = cc) (hts : ∀ w ∈ lw_all, w.before args s = true) (hown : s.vm.findClass own = some m.cls) (hK : wK Γ s) (hP : Wd Γ sh v w H) {t N : Nat} {ty : FieldType} {ad : String} (hty : (wKt Γ)[t + 1]? = some (Γ.2.2.2.1 t, ty)) (had : "[" ++ ty.toString = ad) (hra : ∀ cA, va_RA s cA ty → s.vm.findClass ("[" ++ ty.toString) = some cA) (he : sh k = some (sB t N)) (hl : Cond.classLink own idx ad ∈ lw_all) (hdg : decode cc pc = .ok (.checkcast idx, 3))
    (kk : W p l e R s m args below meth c H locs cells slots Q (F0 m (pc + 3) ls (.ref (Γ.2.1 + k) :: rest))) : W p l e R s m args below meth c H locs cells slots Q (F0 m pc ls (.ref (Γ.2.1 + k) :: rest)) :=
  va_castA hx hb hown (hts _ hl) (hP.one he) 0 rfl (by rw [← had]; exact hra _ (hK.2 _ _ hty).2) hdg kk
end WBY
