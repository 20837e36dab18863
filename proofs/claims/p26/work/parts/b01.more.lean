/-! ARRAYS OF ARRAYS, and of booleans: shapes and rows -/
def rfs (n : Nat) (b : Nat → Nat) : Nat → Option Nat := fun i => if i < n then some (b i) else none
def isRR (sh : Sh) (a n : Nat) (b : Nat → Nat) (c : Nat) : Prop := sh a = some (sR n (rfs n b)) ∧ ∀ i, i < n → sh (b i) = some (sA c)
section WM
variable {p : Program} {l : Launch} {e : Env} {R : Room} {s : State} {m : MethodId} {args : Array Value} {below : List Frame} {meth : Method} {c : Code} {H H0 : Heap} {locs : List Loc} {cells slots : Nat} {Q : State → Prop}
variable {cc : ByteArray} {pc nL : Nat} {ls : Array Slot} {st0 rest As : List Value} {Γ : Cx} {sh : Sh} {v v1 : Va} {w : Vl} {own : String} {idx ci j k n nn hh mL mc ms : Nat} {cs : List Nat} {y : MethodName} {b : ByteArray} {ret : Option FieldType}
theorem z_aald (hx : p.tables.exec = Jvm.exec) (hb : c.code = cc) (hK : wK Γ s) (hP : Wd Γ sh v w H) {N : Nat} {f : Nat → Nat} (he : sh k = some (sR N (rfs N f))) {i : Int32} (hin : vp_in i N) (hdg : decode cc pc = .ok (.aaload, 1))
    (kk : W p l e R s m args below meth c H locs cells slots Q (F0 m (pc + 1) ls (.ref (Γ.2.1 + f i.toNatClampNeg) :: rest))) : W p l e R s m args below meth c H locs cells slots Q (F0 m pc ls (.int i :: .ref (Γ.2.1 + k) :: rest)) :=
  w_aald hx hb hK hP he hin (if_pos (Nat.lt_of_not_le fun q => hin (Or.inr q))) hdg kk
theorem w_za2 (hx : p.tables.exec = Jvm.exec) (hb : c.code = cc) (hK : wK Γ s) (hP : Wd Γ sh v w H) (hS : va_S (gA Γ sh n) H0 H locs) (hz : H.size = Γ.2.1 + n) {N : Nat} (he : sh k = some (sB 2 N)) {i x : Int32} (hin : vp_in i N) {v1 : Va} (hv1 : pu v k i.toNatClampNeg (vp_nar .boolean x) = v1) (hdg : decode cc pc = .ok (.bastore, 1))
    (kk : ∀ (H1 : Heap) (locs1 : List Loc), H1.size = Γ.2.1 + n → Wd Γ sh v1 w H1 → va_S (gA Γ sh n) H0 H1 locs1 → W p l e R s m args below meth c H1 locs1 cells slots Q (F0 m (pc + 1) ls rest)) : W p l e R s m args below meth c H locs cells slots Q (F0 m pc ls (.int x :: .int i :: .ref (Γ.2.1 + k) :: rest)) := by
  have hcell : H[Γ.2.1 + k]? = some (vp_cell (Γ.2.2.2.1 2) (N, .inl (v k))) := hP k _ he
  refine W.zast hx hb hcell ((hK.2 3 _ rfl).1 N (fun j => .int (v k j))) (fun q => by cases q) (by show ¬ (i < 0 ∨ (arrV _ _ _).slots.size ≤ _); rw [arrV_size]; exact hin) rfl rfl hdg fun H1 e z oq => ?_
  refine kk H1 _ (z.trans hz) (hP.set k (fun e0 h0 => ?_) (fun q h => rfl) (fun q h => by rw [← hv1]; exact up_ne h) (fun q h => rfl) (fun q _ h _ => oq _ (fun hh => h (Nat.add_left_cancel hh)))) (hS.put z oq (gA_in he))
  rw [he] at h0
  cases h0
  rw [← hv1, pu, up_eq]
  show H1[Γ.2.1 + k]? = some (vp_cell _ _)
  rw [e, vp_cell_i]
  show some ((arrV _ _ _).setSlot _ _) = some (arrV (Γ.2.2.2.1 2) N (fun j => .int (upd (v k) i.toNatClampNeg (vp_nar .boolean x) j)))
  rw [arrV_store]
  congr 2
  funext q
  by_cases hq : q = i.toNatClampNeg
  · subst hq
    simp [updV, upd, vp_nar]
    try rfl
  · simp [updV, upd, hq]
end WM
