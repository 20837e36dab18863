/-! TWO WORLDS IN ONE HEAP: the law's own, and the class's behind the place b2 -/
abbrev bs (Γ : Cx) (b2 : Nat) : Cx := (Γ.1, b2, Γ.2.2.1, Γ.2.2.2.1, Γ.2.2.2.2)
def gL (Γ : Cx) : Nat → Prop := fun q => (cx0 Γ).heap.size ≤ q
def E0 (Γ : Cx) (U : State) : Prop := (cx0 Γ).WarmedH U.vm ∧ (cx0 Γ).heap.size ≤ U.heap.size ∧ ∀ a : Nat, a < (cx0 Γ).heap.size → U.heap[a]? = (cx0 Γ).heap[a]?
def LO (Γ : Cx) (sh : Sh) : Prop := ∀ k e, sh k = some e → (cx0 Γ).heap.size ≤ Γ.2.1 + k
def DJ (Γ : Cx) (b2 : Nat) (sh shb : Sh) : Prop := ∀ k e k' e', sh k = some e → shb k' = some e' → Γ.2.1 + k ≠ b2 + k'
abbrev Wu : Type := Sh × Va × Nat × Va
def P2 (Γ : Cx) (b2 : Nat) (w wb : Vl) (shb : Sh) (u : Wu) (U : State) : Prop := Wd Γ u.1 u.2.1 w U.heap ∧ Wd (bs Γ b2) shb u.2.2.2 wb U.heap ∧ wK Γ U ∧ U.heap.size = Γ.2.1 + u.2.2.1 ∧ E0 Γ U ∧ LO Γ u.1 ∧ DJ Γ b2 u.1 shb
def DW (Γ : Cx) (b2 : Nat) (s : State) (w wb : Vl) (shb : Sh) (sh : Sh) (v : Va) (n : Nat) (vb : Va) (H : Heap) (locs : List Loc) : Prop := H.size = Γ.2.1 + n ∧ Wd Γ sh v w H ∧ Wd (bs Γ b2) shb vb wb H ∧ va_S (gL Γ) s.heap H locs ∧ LO Γ sh ∧ DJ Γ b2 sh shb
def MetB (l : Launch) (y : MethodName) (b : ByteArray) (mL : Nat) (r : Option FieldType) (h C S : Nat) (Γ : Cx) (b2 : Nat) (w wb : Vl) (shb : Sh) (u : Wu) (As : List Value) (post : Int32 → Wu → Prop) : Prop := Met l y (ws_ y b mL r) (rmc h C S) (va_Pc As (P2 Γ b2 w wb shb u)) (va_Qi post (fun u => P2 Γ b2 w wb shb u) (gL Γ)) C S (gL Γ)
theorem P2.blind {Γ : Cx} {b2 : Nat} {w wb : Vl} {shb : Sh} {u : Wu} {As : List Value} : FrameBlind (va_Pc As (P2 Γ b2 w wb shb u)) := fun a U g mk h => ⟨h.1, h.2.1, h.2.2.1, va_K.moved (u := U) (U := U.calling g mk a) (Vm.Alike.refl U.vm) h.2.2.2.1, h.2.2.2.2.1, h.2.2.2.2.2⟩
section DZ
variable {p : Program} {l : Launch} {e : Env} {R : Room} {s : State} {m : MethodId} {args : Array Value} {below : List Frame} {meth : Method} {c : Code} {H H0 : Heap} {locs : List Loc} {cells slots : Nat} {Q : State → Prop}
variable {cc : ByteArray} {pc nL : Nat} {ls : Array Slot} {st0 rest As Bs : List Value} {Γ : Cx} {sh sh0 shb : Sh} {v v0 v1 vb : Va} {w wb : Vl} {own : String} {idx ci j k n n0 nb nn hh mL mc ms a b2 : Nat} {cs : List Nat} {y : MethodName} {b : ByteArray} {ret : Option FieldType}
theorem E0.go {U : State} (hE : E0 Γ s) (hS : va_S (gL Γ) s.heap H locs) (hU : U.heap = H) (hW : s.WarmedH U.vm) : E0 Γ U :=
  ⟨State.WarmedH.trans hE.1 hW, by rw [hU]; exact Nat.le_trans hE.2.1 hS.1, fun a ha => by rw [hU]; exact (hS.2.1 a (Nat.lt_of_lt_of_le ha hE.2.1) (fun q => absurd ha (Nat.not_lt.mpr q))).trans (hE.2.2 a ha)⟩
theorem E0.en {U : State} (h : E0 Γ U) (hz : U.heap.size = Γ.2.1 + n) : EN Γ sh n U := ⟨h.1, h.2.1, by rw [← hz]; exact h.2.1, fun a ha _ => h.2.2 a ha⟩
theorem E0.enb {U : State} (h : E0 Γ U) (hz : U.heap.size = b2 + nb) : EN (bs Γ b2) shb nb U := ⟨h.1, h.2.1, by show _ ≤ b2 + nb; rw [← hz]; exact h.2.1, fun a ha _ => h.2.2 a ha⟩
theorem d_pnA (hE : E0 Γ s) (hK : wK Γ s) (hD : DW Γ b2 s w wb shb sh v n vb H locs) : ∀ U : State, U.heap = H → s.WarmedH U.vm → va_Pc Bs (PN Γ sh v w n) Bs.toArray U := fun U hU hW =>
  ⟨rfl, by rw [hU]; exact hD.2.1, va_K.moved hW.alike hK, by rw [hU]; exact hD.1, (hE.go hD.2.2.2.1 hU hW).en (by rw [hU]; exact hD.1)⟩
theorem d_pnB (hE : E0 Γ s) (hK : wK Γ s) (hD : DW Γ b2 s w wb shb sh v n vb H locs) (hnb : b2 + nb = Γ.2.1 + n) : ∀ U : State, U.heap = H → s.WarmedH U.vm → va_Pc Bs (PN (bs Γ b2) shb vb wb nb) Bs.toArray U := fun U hU hW =>
  ⟨rfl, by rw [hU]; exact hD.2.2.1, va_K.moved hW.alike hK, by rw [hU, hD.1]; exact hnb.symm, (hE.go hD.2.2.2.1 hU hW).enb (by rw [hU, hD.1]; exact hnb.symm)⟩
theorem d_p2 (hE : E0 Γ s) (hK : wK Γ s) (hD : DW Γ b2 s w wb shb sh v n vb H locs) : ∀ U : State, U.heap = H → s.WarmedH U.vm → va_Pc Bs (P2 Γ b2 w wb shb (sh, v, n, vb)) Bs.toArray U := fun U hU hW =>
  ⟨rfl, by rw [hU]; exact hD.2.1, by rw [hU]; exact hD.2.2.1, va_K.moved hW.alike hK, by rw [hU]; exact hD.1, hE.go hD.2.2.2.1 hU hW, hD.2.2.2.2.1, hD.2.2.2.2.2⟩
theorem DW.dm (hD : DW Γ b2 s w wb shb sh v n vb H locs) : DM sh n := hD.2.1.dm hD.1
theorem DW.blt (hD : DW Γ b2 s w wb shb sh v n vb H locs) {e0 : Sp} (h : shb k = some e0) : b2 + k < Γ.2.1 + n := by
  have := hD.2.2.1.lt h
  rw [hD.1] at this
  exact this
/-- the law's world behind what the class did -/
theorem DW.keepA (hD : DW Γ b2 s w wb shb sh v n vb H locs) (hnb : b2 + nb = Γ.2.1 + n) {H1 : Heap} (hk : ∀ q : Nat, q < H.size → ¬ gA (bs Γ b2) shb nb q → H1[q]? = H[q]?) : Wd Γ sh v w H1 := fun k e he => by
  have hlt := hD.2.1.lt he
  refine (hD.2.1 k e he).kept (hk _ hlt ?_)
  rintro (⟨k', e', he', -, q⟩ | q)
  · exact hD.2.2.2.2.2 k e k' e' he he' q
  · have h1 := hD.1
    have q1 : b2 + nb ≤ Γ.2.1 + k := q
    omega
/-- the class's world behind what was done in the law's -/
theorem DW.keepB (hD : DW Γ b2 s w wb shb sh v n vb H locs) {H1 : Heap} (hk : ∀ q : Nat, q < H.size → ¬ gA Γ sh n q → H1[q]? = H[q]?) : Wd (bs Γ b2) shb vb wb H1 := fun k e he => by
  have hlt := hD.2.2.1.lt he
  refine (hD.2.2.1 k e he).kept (hk _ hlt ?_)
  rintro (⟨k', e', he', -, q⟩ | q)
  · exact hD.2.2.2.2.2 k' e' k e he' he q.symm
  · have h1 := hD.1
    have q1 : Γ.2.1 + n ≤ b2 + k := q
    have q2 : b2 + k < H.size := hlt
    omega
theorem DW.subB (hD : DW Γ b2 s w wb shb sh v n vb H locs) (hb2 : (cx0 Γ).heap.size ≤ b2) : ∀ q, gA (bs Γ b2) shb nb q → gL Γ q := fun q h => by
  have : b2 ≤ q := gA_lo h
  exact Nat.le_trans hb2 this
theorem DW.subA (hD : DW Γ b2 s w wb shb sh v n vb H locs) (h0 : (cx0 Γ).heap.size ≤ s.heap.size) : ∀ q, gA Γ sh n q → gL Γ q := fun q h => by
  rcases h with ⟨k, e, he, -, rfl⟩ | h
  · exact hD.2.2.2.2.1 k e he
  · have h1 := hD.1
    have h2 := hD.2.2.2.1.1
    show _ ≤ q
    omega
/-- grown: what is new stands behind the heap -/
theorem DW.grow (hD : DW Γ b2 s w wb shb sh v n vb H locs) (h0 : (cx0 Γ).heap.size ≤ s.heap.size) {sh1 : Sh} {n1 : Nat} (hG : GR sh n sh1 n1) : LO Γ sh1 ∧ DJ Γ b2 sh1 shb := by
  have h1 := hD.1
  have h2 := hD.2.2.2.1.1
  refine ⟨fun k e he => ?_, fun k e k' e' he he' q => ?_⟩
  · by_cases hk : k < n
    · exact hD.2.2.2.2.1 k e ((hG.2 k hk).symm.trans he)
    · omega
  · by_cases hk : k < n
    · exact hD.2.2.2.2.2 k e k' e' ((hG.2 k hk).symm.trans he) he' q
    · have := hD.blt he'
      omega
/-- a call of the class that answers an int -/
theorem d_bi {post : Int32 → Va → Prop} (hD : DW Γ b2 s w wb shb sh v n vb H locs) (hb2 : (cx0 Γ).heap.size ≤ b2) (hnb : b2 + nb = Γ.2.1 + n) (hr : va_Run p l e R s m args below meth c H locs cells slots mc ms (F0 m pc ls st0) rest (va_Qi post (fun u => PN (bs Γ b2) shb u wb nb) (gA (bs Γ b2) shb nb) Bs.toArray) (gA (bs Γ b2) shb nb))
    (kk : ∀ (r : Int32) (u : Va) (H1 : Heap) (locs1 : List Loc), post r u → DW Γ b2 s w wb shb sh v n u H1 locs1 → W p l e R s m args below meth c H1 locs1 (cells + mc) (slots + ms) Q (F0 m (pc + 3) ls (.int r :: rest))) : W p l e R s m args below meth c H locs cells slots Q (F0 m pc ls st0) := by
  refine va_calli hr hD.2.2.2.1 (fun q _ h => hD.subB hb2 q h) (fun q h => hD.subB hb2 q h) (fun r u t H1 locs1 ht hvm hp hB hz1 hk1 hS1 => ?_)
  obtain ⟨hP1, -, hz2, -⟩ := hB
  rw [ht] at hP1 hz2
  exact kk r u H1 locs1 hp ⟨hz2.trans hnb, hD.keepA hnb hk1, hP1, hS1, hD.2.2.2.2⟩
theorem d_bl {post : Int64 → Va → Prop} (hD : DW Γ b2 s w wb shb sh v n vb H locs) (hb2 : (cx0 Γ).heap.size ≤ b2) (hnb : b2 + nb = Γ.2.1 + n) (hr : va_Run p l e R s m args below meth c H locs cells slots mc ms (F0 m pc ls st0) rest (va_Ql post (fun u => PN (bs Γ b2) shb u wb nb) (gA (bs Γ b2) shb nb) Bs.toArray) (gA (bs Γ b2) shb nb))
    (kk : ∀ (r : Int64) (u : Va) (H1 : Heap) (locs1 : List Loc), post r u → DW Γ b2 s w wb shb sh v n u H1 locs1 → W p l e R s m args below meth c H1 locs1 (cells + mc) (slots + ms) Q (F0 m (pc + 3) ls (.long r :: rest))) : W p l e R s m args below meth c H locs cells slots Q (F0 m pc ls st0) := by
  refine va_calll hr hD.2.2.2.1 (fun q _ h => hD.subB hb2 q h) (fun q h => hD.subB hb2 q h) (fun r u t H1 locs1 ht hvm hp hB hz1 hk1 hS1 => ?_)
  obtain ⟨hP1, -, hz2, -⟩ := hB
  rw [ht] at hP1 hz2
  exact kk r u H1 locs1 hp ⟨hz2.trans hnb, hD.keepA hnb hk1, hP1, hS1, hD.2.2.2.2⟩
/-- a call of the class that may throw -/
theorem d_bx (hx : p.tables.exec = Jvm.exec) (hb : c.code = cc) (hml : c.maxLocals = nL) (hts : ∀ w ∈ lw_all, w.before args s = true) (hown : s.vm.findClass own = some m.cls) (hK : wK Γ s) (hE : E0 Γ s) (hD : DW Γ b2 s w wb shb sh v n vb H locs) (hb2 : (cx0 Γ).heap.size ≤ b2) (hnb : b2 + nb = Γ.2.1 + n) {post : Int32 → Va → Prop} {ex : String → Prop} (hM : MetX l y b mL ret hh (bs Γ b2) shb vb wb nb (.ref (b2 + k) :: As) post ex) (hC : CAV y b mL ret nn) (hL : Cond.methodLink own idx y ∈ lw_all) (he : shb k = some (sO ci cs)) (hcl : (vwCl[ci]?).map (fun q => q.1) = some y.cls) (hst : st0 = As.reverse ++ .ref (b2 + k) :: rest) (hn : As.length = nn) (hls : ls.size = nL) (hW : (rest.map fun v => v.category).sum ≤ 8) (hR : hh + 1 ≤ R.frames ∧ 8 + (mL + 11) + 40 * hh ≤ R.locals) (hf : cells + 1 ≤ R.cells ∧ slots + 6 ≤ R.slots) (hdg : decode cc pc = .ok (.invokevirtual idx, 3))
    (kx : ∀ (E : String) (ce : Cell) (q9 : Addr) (n1 : Nat) (H1 : Heap) (locs1 : List Loc), ex E → n ≤ n1 → DW Γ b2 s w wb shb sh v n1 vb H1 locs1 → H1[q9]? = some ce → ce.vm = .none → s.vm.findClass E = some ce.cls → vx_W p l e R s m args below meth c H1 locs1 (cells + 1) (slots + 6) Q (F0 m pc ls rest) q9)
    (kk : ∀ (r : Int32) (u : Va) (H1 : Heap) (locs1 : List Loc), post r u → DW Γ b2 s w wb shb sh v n u H1 locs1 → W p l e R s m args below meth c H1 locs1 (cells + 1) (slots + 6) Q (F0 m (pc + 3) ls (.int r :: rest))) : W p l e R s m args below meth c H locs cells slots Q (F0 m pc ls st0) := by
  obtain ⟨-, -, h1, h2, hax⟩ := id hC
  refine vx_calli (vx_runV (C := y.cls) (n := nn) ⟨hx, hb, hml, hown, hts⟩ hM ⟨⟨rfl, rfl, hR.1, hR.2, w_hws hts hC.1, List.mem_cons_self, hts _ hC.1, hts _ hC.2.1, ⟨hax.1, hax.2.1⟩, w_len hax, hts _ hL⟩, hts _ h1, hts _ h2⟩ ⟨PN.blind, w_recv (Γ := bs Γ b2) hK hD.2.2.1 he hcl, d_pnB hE hK hD hnb⟩ rfl hn hls hst (by simpa [JFrame.monitorRoom] using hW) hdg hf) hD.2.2.2.1 (fun q _ h => hD.subB hb2 q h) (fun q h => hD.subB hb2 q h) (fun q _ h => hD.subB hb2 q h)
    (fun E ce q9 n1 t H1 locs1 ht hvm _ hB hz1 hk1 hS1 hce hcv hcl => ?_) (fun r u t H1 locs1 ht hvm hp hB hz1 hk1 hS1 => ?_)
  · obtain ⟨b1, b2', b3⟩ := hB
    rw [ht] at b2' b3
    have hsz : H.size = Γ.2.1 + n := hD.1
    have hs3 : H1.size = b2 + n1 := b3
    refine kx E ce q9 (n + (n1 - nb)) H1 locs1 b1 (by omega) ⟨by omega, hD.keepA hnb hk1, b2', hS1, hD.2.2.2.2⟩ hce hcv hcl
  · obtain ⟨hP1, -, hz2, -⟩ := hB
    rw [ht] at hP1 hz2
    exact kk r u H1 locs1 hp ⟨hz2.trans hnb, hD.keepA hnb hk1, hP1, hS1, hD.2.2.2.2⟩
/-- that doesn't throw -/
theorem d_bn (hx : p.tables.exec = Jvm.exec) (hb : c.code = cc) (hml : c.maxLocals = nL) (hts : ∀ w ∈ lw_all, w.before args s = true) (hown : s.vm.findClass own = some m.cls) (hK : wK Γ s) (hE : E0 Γ s) (hD : DW Γ b2 s w wb shb sh v n vb H locs) (hb2 : (cx0 Γ).heap.size ≤ b2) (he : shb k = some (sO ci cs)) {post : Int32 → Va → Prop} {ex : String → Prop} (hM : ∀ nb, MetX l y b mL ret hh (bs Γ b2) shb vb wb nb (.ref (b2 + k) :: As) post ex) (hno : ∀ E, ¬ ex E) (hC : CAV y b mL ret nn) (hL : Cond.methodLink own idx y ∈ lw_all) (hcl : (vwCl[ci]?).map (fun q => q.1) = some y.cls) (hst : st0 = As.reverse ++ .ref (b2 + k) :: rest) (hn : As.length = nn) (hls : ls.size = nL) (hW : (rest.map fun v => v.category).sum ≤ 8) (hR : hh + 1 ≤ R.frames ∧ 8 + (mL + 11) + 40 * hh ≤ R.locals) (hf : cells + 1 ≤ R.cells ∧ slots + 6 ≤ R.slots) (hdg : decode cc pc = .ok (.invokevirtual idx, 3))
    (kk : ∀ (r : Int32) (u : Va) (H1 : Heap) (locs1 : List Loc), post r u → DW Γ b2 s w wb shb sh v n u H1 locs1 → W p l e R s m args below meth c H1 locs1 (cells + 1) (slots + 6) Q (F0 m (pc + 3) ls (.int r :: rest))) : W p l e R s m args below meth c H locs cells slots Q (F0 m pc ls st0) := by
  have hlt := hD.blt he
  exact d_bx (nb := Γ.2.1 + n - b2) hx hb hml hts hown hK hE hD hb2 (by omega) (hM _) hC hL he hcl hst hn hls hW hR hf hdg (fun E _ _ _ _ _ h => absurd h (hno E)) kk
/-- a call in the law's own world, that makes nothing -/
theorem d_ai {post : Int32 → Va → Prop} (hE : E0 Γ s) (hD : DW Γ b2 s w wb shb sh v n vb H locs) (hr : va_Run p l e R s m args below meth c H locs cells slots 0 0 (F0 m pc ls st0) rest (va_Qi post (fun u => PN Γ sh u w n) (gA Γ sh n) Bs.toArray) (gA Γ sh n))
    (kk : ∀ (r : Int32) (u : Va) (H1 : Heap) (locs1 : List Loc), post r u → DW Γ b2 s w wb shb sh u n vb H1 locs1 → W p l e R s m args below meth c H1 locs1 cells slots Q (F0 m (pc + 3) ls (.int r :: rest))) : W p l e R s m args below meth c H locs cells slots Q (F0 m pc ls st0) := by
  refine va_calli hr hD.2.2.2.1 (fun q _ h => hD.subA hE.2.1 q h) (fun q h => hD.subA hE.2.1 q h) (fun r u t H1 locs1 ht hvm hp hB hz1 hk1 hS1 => ?_)
  obtain ⟨hP1, -, hz2, -⟩ := hB
  rw [ht] at hP1 hz2
  exact kk r u H1 locs1 hp ⟨hz2, hP1, hD.keepB hk1, hS1, hD.2.2.2.2⟩
/-- and one that makes cells -/
theorem d_gi {post : Int32 → Wt → Prop} (hE : E0 Γ s) (hD : DW Γ b2 s w wb shb sh v n vb H locs) (hr : va_Run p l e R s m args below meth c H locs cells slots mc ms (F0 m pc ls st0) rest (va_Qi post (fun u => PN Γ u.1 u.2.1 w u.2.2) (gA Γ sh n) Bs.toArray) (gA Γ sh n))
    (kk : ∀ (r : Int32) (u : Wt) (H1 : Heap) (locs1 : List Loc), post r u → (GR sh n u.1 u.2.2 → DW Γ b2 s w wb shb u.1 u.2.1 u.2.2 vb H1 locs1) → W p l e R s m args below meth c H1 locs1 (cells + mc) (slots + ms) Q (F0 m (pc + 3) ls (.int r :: rest))) : W p l e R s m args below meth c H locs cells slots Q (F0 m pc ls st0) := by
  refine va_calli hr hD.2.2.2.1 (fun q _ h => hD.subA hE.2.1 q h) (fun q h => hD.subA hE.2.1 q h) (fun r u t H1 locs1 ht hvm hp hB hz1 hk1 hS1 => ?_)
  obtain ⟨hP1, -, hz2, -⟩ := hB
  rw [ht] at hP1 hz2
  exact kk r u H1 locs1 hp fun hG => ⟨hz2, hP1, hD.keepB hk1, hS1, hD.grow hE.2.1 hG⟩
theorem d_gr {post : Nat → Wt → Prop} (hE : E0 Γ s) (hD : DW Γ b2 s w wb shb sh v n vb H locs) (hr : va_Run p l e R s m args below meth c H locs cells slots mc ms (F0 m pc ls st0) rest (va_Qr (fun u : Nat × Wt => post u.1 u.2) (fun u a t => a = Γ.2.1 + u.1 ∧ PN Γ u.2.1 u.2.2.1 w u.2.2.2 t) (gA Γ sh n) Bs.toArray) (gA Γ sh n))
    (kk : ∀ (r : Nat) (u : Wt) (H1 : Heap) (locs1 : List Loc), post r u → (GR sh n u.1 u.2.2 → DW Γ b2 s w wb shb u.1 u.2.1 u.2.2 vb H1 locs1) → W p l e R s m args below meth c H1 locs1 (cells + mc) (slots + ms) Q (F0 m (pc + 3) ls (.ref (Γ.2.1 + r) :: rest))) : W p l e R s m args below meth c H locs cells slots Q (F0 m pc ls st0) := by
  refine va_callr hr hD.2.2.2.1 (fun q _ h => hD.subA hE.2.1 q h) (fun q h => hD.subA hE.2.1 q h) (fun u a t H1 locs1 ht hvm hp hB hz1 hk1 hS1 => ?_)
  obtain ⟨ha, hP1, -, hz2, -⟩ := hB
  rw [ht] at hP1 hz2
  subst ha
  exact kk u.1 u.2 H1 locs1 hp fun hG => ⟨hz2, hP1, hD.keepB hk1, hS1, hD.grow hE.2.1 hG⟩
/-- a call of a method over both worlds -/
theorem d_2i {post : Int32 → Wu → Prop} (hD : DW Γ b2 s w wb shb sh v n vb H locs) (hr : va_Run p l e R s m args below meth c H locs cells slots mc ms (F0 m pc ls st0) rest (va_Qi post (fun u => P2 Γ b2 w wb shb u) (gL Γ) Bs.toArray) (gL Γ))
    (kk : ∀ (r : Int32) (u : Wu) (H1 : Heap) (locs1 : List Loc), post r u → DW Γ b2 s w wb shb u.1 u.2.1 u.2.2.1 u.2.2.2 H1 locs1 → W p l e R s m args below meth c H1 locs1 (cells + mc) (slots + ms) Q (F0 m (pc + 3) ls (.int r :: rest))) : W p l e R s m args below meth c H locs cells slots Q (F0 m pc ls st0) := by
  refine va_calli hr hD.2.2.2.1 (fun q _ h => h) (fun q h => h) (fun r u t H1 locs1 ht hvm hp hB hz1 hk1 hS1 => ?_)
  obtain ⟨hP1, hP2, -, hz2, -, h5, h6⟩ := hB
  rw [ht] at hP1 hP2 hz2
  exact kk r u H1 locs1 hp ⟨hz2, hP1, hP2, hS1, h5, h6⟩
/-- the end of such a method -/
theorem d_iret (hx : p.tables.exec = Jvm.exec) (hb : c.code = cc) {r : Int32} {ty : FieldType} (hr : meth.sig.returnType = some ty) (hnr : narrow ty (.int r) = .int r) (hlocks : meth.locks = false) (hK : wK Γ s) (hE : E0 Γ s) (hD : DW Γ b2 s w wb shb sh v n vb H locs) {post : Int32 → Wu → Prop} (hp : post r (sh, v, n, vb)) (hdg : decode cc pc = .ok (.ireturn, 1)) : W p l e R s m args below meth c H locs cells slots (MQ below (va_Qi post (fun u => P2 Γ b2 w wb shb u) (gL Γ)) args s cells slots (gL Γ)) (F0 m pc ls [.int r]) :=
  W.zret hx hb hr hnr (fun t ht hW => ⟨⟨r, (sh, v, n, vb), rfl, hp, ⟨by rw [ht]; exact hD.2.1, by rw [ht]; exact hD.2.2.1, va_K.moved hW.alike hK, by rw [ht]; exact hD.1, hE.go hD.2.2.2.1 ht hW, hD.2.2.2.2⟩⟩, hD.2.2.2.1.F ht⟩) hD.2.2.2.1.2.2 hdg hlocks
/-- what changes the law's own world alone -/
theorem DW.onA (hD : DW Γ b2 s w wb shb sh v n vb H locs) {H1 : Heap} {locs1 : List Loc} (hz : H1.size = Γ.2.1 + n) (hP : Wd Γ sh v1 w H1) (hS : va_S (gL Γ) s.heap H1 locs1) (ho : Wd (bs Γ b2) shb vb wb H1) : DW Γ b2 s w wb shb sh v1 n vb H1 locs1 := ⟨hz, hP, ho, hS, hD.2.2.2.2⟩
/-- the law's own writes -/
theorem d_ia (hx : p.tables.exec = Jvm.exec) (hb : c.code = cc) (hK : wK Γ s) (hE : E0 Γ s) (hD : DW Γ b2 s w wb shb sh v n vb H locs) {N : Nat} (he : sh k = some (sA N)) {i x : Int32} (hin : vp_in i N) (hdg : decode cc pc = .ok (.iastore, 1))
    (kk : ∀ (H1 : Heap) (locs1 : List Loc), DW Γ b2 s w wb shb sh (pu v k i.toNatClampNeg x) n vb H1 locs1 → W p l e R s m args below meth c H1 locs1 cells slots Q (F0 m (pc + 1) ls rest)) : W p l e R s m args below meth c H locs cells slots Q (F0 m pc ls (.int x :: .int i :: .ref (Γ.2.1 + k) :: rest)) := by
  have hP := hD.2.1
  have hcell : H[Γ.2.1 + k]? = some (vp_cell Γ.2.2.1 (N, .inl (v k))) := hP k _ he
  refine W.iast hx hb hcell ((hK.2 0 _ rfl).1 N (fun j => .int (v k j))) (fun q => by cases q) (by show ¬ (i < 0 ∨ (arrV _ _ _).slots.size ≤ _); rw [arrV_size]; exact hin) rfl rfl hdg fun H1 e z oq => ?_
  refine kk H1 _ (hD.onA (z.trans hD.1) (hP.set k (fun e0 h0 => ?_) (fun q h => rfl) (fun q h => up_ne h) (fun q h => rfl) (fun q _ h _ => oq _ (fun hh => h (Nat.add_left_cancel hh)))) (hD.2.2.2.1.put z oq (hD.2.2.2.2.1 k _ he)) (fun k' e' he' => (hD.2.2.1 k' e' he').kept (oq _ (fun q => hD.2.2.2.2.2 k _ k' e' he he' q.symm))))
  rw [he] at h0
  cases h0
  rw [pu, up_eq]
  show H1[Γ.2.1 + k]? = some (vp_cell _ _)
  rw [e, vp_cell_i]
  show some ((arrV _ _ _).setSlot _ _) = some (arrV Γ.2.2.1 N (fun j => .int (upd (v k) i.toNatClampNeg x j)))
  rw [arrV_store]
  congr 2
  funext q
  by_cases hq : q = i.toNatClampNeg
  · subst hq
    simp [updV, upd]
  · simp [updV, upd, hq]
theorem d_new (hx : p.tables.exec = Jvm.exec) (hb : c.code = cc) (hts : ∀ w ∈ lw_all, w.before args s = true) (hK : wK Γ s) (hE : E0 Γ s) (hD : DW Γ b2 s w wb shb sh v n vb H locs) {x : Int32} {N : Nat} (hx0 : ¬ x < 0) (hN : x.toNatClampNeg = N) (hbig : N * 4 ≤ 536870912) (hcells : cells + 1 ≤ R.cells) (hslots : slots + N ≤ R.slots) (hdg : decode cc pc = .ok (.newarray .int, 2))
    (kk : ∀ H1 : Heap, DW Γ b2 s w wb shb (up sh n (some (sA N))) (up v n (fun _ => 0)) (n + 1) vb H1 locs → W p l e R s m args below meth c H1 locs (cells + 1) (slots + N) Q (F0 m (pc + 2) ls (.ref (Γ.2.1 + n) :: rest))) : W p l e R s m args below meth c H locs cells slots Q (F0 m pc ls (.int x :: rest)) := by
  have hP := hD.2.1
  have hS := hD.2.2.2.1
  have hn := hD.1
  refine va_newaK (atype := .int) hx hb (hts _ ac_int) rfl hdg rfl hx0 hN hbig hcells hslots hn fun H1 cA e1 z1 o1 _ hNm => ?_
  have hcA : cA = Γ.2.2.1 := by
    have h2 : s.vm.findClass ("[" ++ (FieldType.int).toString) = some Γ.2.2.1 := (hK.2 0 _ rfl).2
    exact Option.some.inj (hNm.symm.trans h2)
  subst hcA
  refine kk H1 ⟨by omega, hP.set n (fun e0 h0 => ?_) (fun q h => up_ne h) (fun q h => up_ne h) (fun q h => rfl) (fun q e0 h h0 => ?_), fun k' e' he' => (hD.2.2.1 k' e' he').kept (o1 _ (by rw [← hn]; exact hD.2.2.1.lt he')), ⟨by have := hS.1; omega, fun x h1 h2 => (o1 x (by have := hS.1; omega)).trans (hS.2.1 x h1 h2), hS.2.2⟩, hD.grow hE.2.1 (GR.nw GR.rf)⟩
  · rw [up_eq] at h0
    cases h0
    rw [up_eq]
    exact e1
  · exact o1 _ (by have := hP.lt h0; omega)
theorem d_pi (hx : p.tables.exec = Jvm.exec) (hb : c.code = cc) (hts : ∀ w ∈ lw_all, w.before args s = true) (hown : s.vm.findClass own = some m.cls) (hK : wK Γ s) (hD : DW Γ b2 s w wb shb sh v n vb H locs) (hf : FL own idx ci j false .int) (he : sh k = some (sO ci cs)) (hc : cs[j]? = some 0) {x : Int32} (hdg : decode cc pc = .ok (.putfield idx, 3))
    (kk : ∀ (H1 : Heap) (locs1 : List Loc), DW Γ b2 s w wb shb sh (pu v k j x) n vb H1 locs1 → W p l e R s m args below meth c H1 locs1 cells slots Q (F0 m (pc + 3) ls rest)) : W p l e R s m args below meth c H locs cells slots Q (F0 m pc ls (.int x :: .ref (Γ.2.1 + k) :: rest)) := by
  have hP := hD.2.1
  have hS := hD.2.2.2.1
  obtain ⟨C, T, N, tyf, hcl, hj, hin, hty, hnm, hfi, htj, hl⟩ := hf
  have hap := va_apart (own := own) (cl := vwCl) (D := Γ.1) hts hin tyf hty hnm hK hcl
  obtain ⟨r, h1, cell, q1, q2, q3, q4⟩ := hP k _ he
  have hr : r = (C, T, N) := Option.some.inj (h1.symm.trans hcl)
  subst hr
  obtain ⟨hSl, hfc, kC, hkC, hkind⟩ := hK.1 ci _ hcl
  obtain ⟨cf, kf, fi, f, hi, hsl⟩ := hSl j hj
  have hlay := hts _ (hin _ (u_in_lay hj))
  have hst := (u_facts hfc hkC (u_lays hts hin hj) hi).1
  have hd : parseFieldDescriptor (T j).2.2.1 = some .int := by rw [← htj]; exact hty j hj
  have K : ∀ H' : Heap, H'[Γ.2.1 + k]? = some (cell.setSlot f.slot (.int x)) → H'.size = H.size → (∀ q, q ≠ Γ.2.1 + k → H'[q]? = H[q]?) → W p l e R s m args below meth c H' (locs ++ [⟨Γ.2.1 + k, f.slot⟩]) cells slots Q (F0 m (pc + 3) ls rest) := by
    intro H' e1 e2 e3
    rw [hsl] at e1 ⊢
    have h9 := hP.put (cd := 0) (y := x) he hcl hc rfl ⟨_, e1, q2, q3, t_set q4 hap hj (.int x)⟩ e3
    have e4 : cs.set j 0 = cs := by
      apply List.ext_getElem? ; intro i
      rw [List.getElem?_set]
      split
      · subst_vars
        split
        · exact hc.symm
        · next h => rw [List.getElem?_eq_none (by omega)]
      · rfl
    rw [e4, ← he, up_id] at h9
    exact kk H' _ (hD.onA (e2.trans hD.1) h9 (hS.put e2 e3 (hD.2.2.2.2.1 k _ he)) (fun k' e' he' => (hD.2.2.1 k' e' he').kept (e3 _ (fun q => hD.2.2.2.2.2 k _ k' e' he he' q.symm))))
  have hslot : f.slot < cell.slots.size := by rw [hsl]; exact k2_hasslot (q4 j hj)
  have hi' : s.fieldFound? (T j).1 (T j).2.1 (T j).2.2.1 = some (cf, kf, fi, f) := hi
  unfold u_lay at hlay
  rw [if_neg (by rw [hfi]; decide)] at hlay
  have h6 := u_store hfc hkC hkind hlay hi hd (v := .int x) rfl rfl
  rcases hl with hl | ⟨host, hl⟩
  · exact W.putK hx hb (f := f) ⟨hown, hts _ hl, ⟨_, _, _, hi'⟩, hst⟩ (by rw [q2]; exact h6) q1 q3 hslot rfl rfl hdg K
  · exact va_WputK hx hb (f := f) hown (hts _ hl) hi' hst (by rw [q2]; exact h6) q1 q3 hslot rfl rfl hdg K
end DZ
section DS
variable {l : Launch} {Γ : Cx} {sh shb : Sh} {v vb : Va} {w wb : Vl} {n b2 : Nat}
theorem d_start {y : MethodName} {cc : ByteArray} {mL : Nat} {ret : Option FieldType} {rm : Room} {As : List Value} {Qc : Array Value → State → Outcome → State → Prop} {mc ms : Nat} (hy : plainName y.cls = true) (hlen : (lg_sl As).length ≤ mL)
    (body : ∀ (p : Program) (e : Env) (s : State) (m : MethodId) (args : Array Value) (below : List Frame) (meth : Method) (c : Code), p.tables.exec = Jvm.exec → c.code = cc → c.maxLocals = mL → meth.sig.returnType = ret → meth.locks = false → (∀ w ∈ lw_all, w.before args s = true) → s.vm.findClass y.cls = some m.cls → wK Γ s → E0 Γ s → DW Γ b2 s w wb shb sh v n vb s.heap [] → ∀ ls, lv_has ls mL (lv_args 0 As) →
      W p l e rm s m args below meth c s.heap [] 0 0 (MQ below Qc args s mc ms (gL Γ)) (F0 m 0 ls [])) : Met l y (ws_ y cc mL ret) rm (va_Pc As (P2 Γ b2 w wb shb (sh, v, n, vb))) Qc mc ms (gL Γ) := by
  refine Met.ofW (cc := cc) (maxL := mL) (ret := ret) hy rfl ?_
  intro p e s m args below meth c s₁ B hml hv
  obtain ⟨rfl, hP, hPb, hK, hz, hE, hL, hJ⟩ := hv
  have hts := atoms_spec (ws := ws_ y cc mL ret) B.pre
  have hl := lv_entry As (n := mL) hlen
  rw [lg_entry_eq]
  exact body p e s m _ below meth c B.exec B.bytes hml B.returns B.notSynchronized (fun w hw => hts w (List.mem_cons_of_mem _ hw)) (findClass_of_methodNamed B.named) hK hE ⟨hz, hP, hPb, va_S.rf, hL, hJ⟩ _ hl
end DS
theorem xlL_241 : Cond.methodLink RL 241 yX11_init ∈ lw_all := tk1 (i := 34) (by decide +kernel) rfl
theorem xlL_246 : Cond.methodLink RL 246 yX11_count ∈ lw_all := tk2 (i := 204) (by decide +kernel) rfl
theorem xlL_249 : Cond.methodLink RL 249 yX11_lot ∈ lw_all := tk3 (i := 57) (by decide +kernel) rfl
theorem xlL_267 : Cond.methodLink RL 267 yX11_merchant ∈ lw_all := tk3 (i := 82) (by decide +kernel) rfl
theorem xlL_255 : Cond.methodLink RL 255 yX11_guild ∈ lw_all := tk3 (i := 112) (by decide +kernel) rfl
theorem xlL_270 : Cond.methodLink RL 270 yX11_order ∈ lw_all := tk3 (i := 125) (by decide +kernel) rfl
theorem xlL_258 : Cond.methodLink RL 258 yX11_owes ∈ lw_all := tk3 (i := 209) (by decide +kernel) rfl
theorem xlL_260 : Cond.methodLink RL 260 yX11_chain ∈ lw_all := tk3 (i := 215) (by decide +kernel) rfl
theorem xlL_264 : Cond.methodLink RL 264 yX11_ring ∈ lw_all := tk3 (i := 233) (by decide +kernel) rfl
theorem xlL_235 : Cond.methodLink RL 235 yX11_pass ∈ lw_all := tk4 (i := 7) (by decide +kernel) rfl
theorem xlL_277 : Cond.methodLink RL 277 yX11_foresee ∈ lw_all := tk4 (i := 80) (by decide +kernel) rfl
theorem xlL_286 : Cond.methodLink RL 286 yX11_costs ∈ lw_all := tk4 (i := 99) (by decide +kernel) rfl
theorem xlL_283 : Cond.methodLink RL 283 yX11_richest ∈ lw_all := tk4 (i := 106) (by decide +kernel) rfl
theorem xlL_280 : Cond.methodLink RL 280 yX11_until ∈ lw_all := tk4 (i := 115) (by decide +kernel) rfl
theorem xlL_273 : Cond.methodLink RL 273 yX11_digest ∈ lw_all := tk4 (i := 123) (by decide +kernel) rfl
theorem xlX12_98 : Cond.methodLink RX12 98 yX11_lot ∈ lw_all := tk4 (i := 186) (by decide +kernel) rfl
theorem xlX12_106 : Cond.methodLink RX12 106 yX11_merchant ∈ lw_all := tk4 (i := 191) (by decide +kernel) rfl
theorem xlX12_109 : Cond.methodLink RX12 109 yX11_owes ∈ lw_all := tk4 (i := 192) (by decide +kernel) rfl
theorem xlX12_111 : Cond.methodLink RX12 111 yX11_chain ∈ lw_all := tk4 (i := 193) (by decide +kernel) rfl
theorem xlX12_115 : Cond.methodLink RX12 115 yX11_ring ∈ lw_all := tk4 (i := 205) (by decide +kernel) rfl
theorem xlX12_119 : Cond.methodLink RX12 119 yX11_guild ∈ lw_all := tk4 (i := 215) (by decide +kernel) rfl
theorem xlX12_122 : Cond.methodLink RX12 122 yX11_order ∈ lw_all := tk4 (i := 216) (by decide +kernel) rfl
theorem xlX12_129 : Cond.methodLink RX12 129 yX11_count ∈ lw_all := tk4 (i := 225) (by decide +kernel) rfl
theorem xlX12_132 : Cond.methodLink RX12 132 yX11_mean ∈ lw_all := tk4 (i := 226) (by decide +kernel) rfl
theorem xlL_9 : Cond.methodLink RL 9 yX11_trim ∈ lw_all := tk5 (i := 2) (by decide +kernel) rfl
theorem xlL_25 : Cond.methodLink RL 25 yX11_feed ∈ lw_all := tk5 (i := 55) (by decide +kernel) rfl
theorem xlL_29 : Cond.methodLink RL 29 yX11_teach ∈ lw_all := tk5 (i := 80) (by decide +kernel) rfl
theorem xlL_207 : Cond.methodLink RL 207 yX11_setDamp ∈ lw_all := tk7 (i := 192) (by decide +kernel) rfl
theorem xlL_213 : Cond.methodLink RL 213 yX11_lend ∈ lw_all := tk7 (i := 198) (by decide +kernel) rfl
theorem xlL_222 : Cond.methodLink RL 222 yX11_offset ∈ lw_all := tk7 (i := 208) (by decide +kernel) rfl
theorem xlL_225 : Cond.methodLink RL 225 yX11_dry ∈ lw_all := tk7 (i := 214) (by decide +kernel) rfl
