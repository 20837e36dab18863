/-! A REFERENCE THAT MAY LIE BELOW THE BASE -/
section TY
variable {p : Program} {l : Launch} {e : Env} {R : Room} {s : State} {m : MethodId} {args : Array Value} {below : List Frame} {meth : Method} {c : Code} {H H0 : Heap} {locs : List Loc} {cells slots : Nat} {Q : State → Prop}
variable {cc : ByteArray} {pc nL : Nat} {ls : Array Slot} {st0 rest As Bs : List Value} {Γ : Cx} {sh sh0 shb : Sh} {v v0 v1 : Va} {w : Vl} {own : String} {idx ci j k n n0 nb nn hh mL mc ms a d1 d2 : Nat} {cs : List Nat} {y : MethodName} {b : ByteArray} {ret : Option FieldType} {A : Nat → Prop}
def MetTA (l : Launch) (y : MethodName) (b : ByteArray) (mL : Nat) (r : Option FieldType) (h C S : Nat) (Γ : Cx) (sh : Sh) (v : Va) (w : Vl) (n : Nat) (As : List Value) (post : Nat → Wt → Prop) : Prop := Met l y (ws_ y b mL r) (rmc h C S) (va_Pc As (PN Γ sh v w n)) (va_Qr (fun u : Nat × Wt => post u.1 u.2) (fun u a t => a = u.1 ∧ PN Γ u.2.1 u.2.2.1 w u.2.2.2 t) (gA Γ sh n)) C S (gA Γ sh n)
theorem t_callA {post : Nat → Wt → Prop} (hr : va_Run p l e R s m args below meth c H locs cells slots mc ms (F0 m pc ls st0) rest (va_Qr (fun u : Nat × Wt => post u.1 u.2) (fun u a t => a = u.1 ∧ PN Γ u.2.1 u.2.2.1 w u.2.2.2 t) (gA Γ sh n) Bs.toArray) (gA Γ sh n)) (hG : GR sh0 n0 sh n) (hS : va_S (gA Γ sh0 n0) s.heap H locs)
    (kk : ∀ (r : Nat) (u : Wt) (H1 : Heap) (locs1 : List Loc), post r u → H1.size = Γ.2.1 + u.2.2 → Wd Γ u.1 u.2.1 w H1 → va_S (gA Γ sh0 n0) s.heap H1 locs1 → W p l e R s m args below meth c H1 locs1 (cells + mc) (slots + ms) Q (F0 m (pc + 3) ls (.ref r :: rest))) : W p l e R s m args below meth c H locs cells slots Q (F0 m pc ls st0) := by
  refine va_callr hr hS (fun q _ h => hG.A h) (fun q h => hG.A h) (fun u a t H1 locs1 ht hvm hp hB hz1 hk1 hS1 => ?_)
  obtain ⟨ha, hP1, -, hz2, -⟩ := hB
  rw [ht] at hP1 hz2
  subst ha
  exact kk u.1 u.2 H1 locs1 hp hz2 hP1 hS1
theorem t_rretA (hx : p.tables.exec = Jvm.exec) (hb : c.code = cc) {r : Nat} {ty : FieldType} (hr : meth.sig.returnType = some ty) (hrt : (∃ n, ty = .object n) ∨ ∃ t, ty = .array t) (hlocks : meth.locks = false) (hK : wK Γ s) (hP : Wd Γ sh v w H) (hS : va_S (gA Γ sh0 n0) s.heap H locs) (hz : H.size = Γ.2.1 + n) (hE : EN Γ sh0 n0 s) (hd : DM sh0 n0) (hG : GR sh0 n0 sh n) {post : Nat → Wt → Prop} (hp : post r (sh, v, n)) (hdg : decode cc pc = .ok (.areturn, 1)) : W p l e R s m args below meth c H locs cells slots (MQ below (va_Qr (fun u : Nat × Wt => post u.1 u.2) (fun u a t => a = u.1 ∧ PN Γ u.2.1 u.2.2.1 w u.2.2.2 t) (gA Γ sh0 n0)) args s cells slots (gA Γ sh0 n0)) (F0 m pc ls [.ref r]) :=
  W.aret hx hb hr hrt (Or.inr ⟨_, rfl⟩) (fun t ht hW => ⟨⟨(r, sh, v, n), _, rfl, hp, rfl, ⟨by rw [ht]; exact hP, va_K.moved hW.alike hK, by rw [ht]; exact hz, hG.E hd hE hS ht hW⟩⟩, hS.F ht⟩) hS.2.2 hdg hlocks
end TY
