/-! MORE LINKS AND ROWS -/
theorem kX2_joinsSums : CAS yX2_joinsSums cX2_joinsSums 1 (some .boolean) 1 := ⟨tk3 (i := 159) (by decide +kernel) rfl, tk1 (i := 30) (by decide +kernel) rfl, tk3 (i := 158) (by decide +kernel) rfl, by decide +kernel, by decide +kernel, by decide +kernel⟩
theorem kX2_compares : CAS yX2_compares cX2_compares 1 (some .boolean) 1 := ⟨tk3 (i := 171) (by decide +kernel) rfl, tk1 (i := 30) (by decide +kernel) rfl, tk3 (i := 170) (by decide +kernel) rfl, by decide +kernel, by decide +kernel, by decide +kernel⟩
theorem kX2_joinsTests : CAS yX2_joinsTests cX2_joinsTests 1 (some .boolean) 1 := ⟨tk3 (i := 177) (by decide +kernel) rfl, tk1 (i := 30) (by decide +kernel) rfl, tk3 (i := 176) (by decide +kernel) rfl, by decide +kernel, by decide +kernel, by decide +kernel⟩
theorem xJ7_150 : Cond.methodLink RJ7 150 arraycopyName ∈ lw_all := tk6 (i := 205) (by decide +kernel) rfl
theorem xn_copy : Cond.native arraycopyName ∈ lw_all := tk6 (i := 207) (by decide +kernel) rfl
theorem xJ0_212 : Cond.methodLink RJ0 212 arraycopyName ∈ lw_all := tk7 (i := 20) (by decide +kernel) rfl
theorem xs_copy : Cond.static arraycopyName ∈ lw_all := tk6 (i := 206) (by decide +kernel) rfl
theorem xi_system : Cond.initialized "java/lang/System" ∈ lw_all := tk1 (i := 9) (by decide +kernel) rfl
theorem xi_math : Cond.initialized "java/lang/Math" ∈ lw_all := tk1 (i := 7) (by decide +kernel) rfl
theorem xs_mmin : Cond.static Lib.Math.min.name ∈ lw_all := tk3 (i := 164) (by decide +kernel) rfl
theorem xc_mmin : Cond.code Lib.Math.min.name Lib.Math.min.code 2 (some .int) ∈ lw_all := tk3 (i := 165) (by decide +kernel) rfl
theorem xs_mmax : Cond.static Lib.Math.max.name ∈ lw_all := tk3 (i := 167) (by decide +kernel) rfl
theorem xc_mmax : Cond.code Lib.Math.max.name Lib.Math.max.code 2 (some .int) ∈ lw_all := tk3 (i := 168) (by decide +kernel) rfl
theorem xX6_115 : Cond.methodLink RX6 115 Lib.Math.min.name ∈ lw_all := tk3 (i := 163) (by decide +kernel) rfl
theorem xX6_120 : Cond.methodLink RX6 120 Lib.Math.max.name ∈ lw_all := tk3 (i := 166) (by decide +kernel) rfl
theorem xX0_164 : Cond.methodLink RX0 164 Lib.Math.min.name ∈ lw_all := tk3 (i := 201) (by decide +kernel) rfl
theorem xX0_153 : Cond.methodLink RX0 153 Lib.Math.max.name ∈ lw_all := tk3 (i := 202) (by decide +kernel) rfl
theorem xX1_35 : Cond.methodLink RX1 35 Lib.Math.min.name ∈ lw_all := tk4 (i := 5) (by decide +kernel) rfl
theorem xX1_58 : Cond.methodLink RX1 58 Lib.Math.max.name ∈ lw_all := tk4 (i := 6) (by decide +kernel) rfl
theorem qX1_34 : Cond.constant RX1 34 (99999 : Int32) ∈ lw_all := tk4 (i := 70) (by decide +kernel) rfl
theorem qX11_250 : Cond.constantLong RX11 250 (829 : Int64) ∈ lw_all := tk4 (i := 127) (by decide +kernel) rfl
theorem qX11_252 : Cond.constantLong RX11 252 (31 : Int64) ∈ lw_all := tk4 (i := 128) (by decide +kernel) rfl
theorem xX12_40 : Cond.methodLink RX12 40 Lib.Math.min.name ∈ lw_all := tk4 (i := 178) (by decide +kernel) rfl
theorem xX12_46 : Cond.methodLink RX12 46 Lib.Math.max.name ∈ lw_all := tk4 (i := 179) (by decide +kernel) rfl
theorem qX12_57 : Cond.constant RX12 57 (-729379967 : Int32) ∈ lw_all := tk4 (i := 180) (by decide +kernel) rfl
theorem qX12_74 : Cond.constant RX12 74 (99999 : Int32) ∈ lw_all := tk4 (i := 181) (by decide +kernel) rfl
theorem qX12_87 : Cond.constant RX12 87 (2147483647 : Int32) ∈ lw_all := tk4 (i := 210) (by decide +kernel) rfl
theorem qL_7 : Cond.constant RL 7 (2147483647 : Int32) ∈ lw_all := tk4 (i := 234) (by decide +kernel) rfl
theorem qL_8 : Cond.constant RL 8 (790386105 : Int32) ∈ lw_all := tk4 (i := 238) (by decide +kernel) rfl
theorem qX5_212 : Cond.constant RX5 212 (2147483647 : Int32) ∈ lw_all := tk6 (i := 43) (by decide +kernel) rfl
theorem xL_177 : Cond.methodLink RL 177 Lib.Math.max.name ∈ lw_all := tk7 (i := 62) (by decide +kernel) rfl
theorem xL_219 : Cond.methodLink RL 219 Lib.Math.min.name ∈ lw_all := tk7 (i := 207) (by decide +kernel) rfl
theorem xX11_198 : Cond.methodLink RX11 198 Lib.Math.min.name ∈ lw_all := tk7 (i := 213) (by decide +kernel) rfl
theorem qL_263 : Cond.constant RL 263 (99999 : Int32) ∈ lw_all := tk7 (i := 223) (by decide +kernel) rfl
def q_min (x y : Int32) : Int32 := if y < x then y else x
def q_max (x y : Int32) : Int32 := if x < y then y else x
def q_b (b : Bool) : Int32 := if b then 1 else 0
theorem q_b0 (b : Bool) : (q_b b = 0) = (b = false) := by cases b <;> simp [q_b]
theorem q_bn (b : Bool) : narrow .boolean (.int (q_b b)) = .int (q_b b) := by cases b <;> rfl
theorem q_in (x : Int32) : narrow .int (.int x) = .int x := rfl
theorem q_nc {x y : Int32} {L : List Int32} (h : ¬ x = y) (hL : ∀ q ∈ L, ¬ x = q) : ∀ q ∈ y :: L, ¬ x = q := fun q hq => by
  rcases List.mem_cons.mp hq with e | e
  · rw [e]; exact h
  · exact hL q e
theorem q_nn {x : Int32} : ∀ q ∈ ([] : List Int32), ¬ x = q := fun q hq => by cases hq
theorem q_p1 {α : Type} {a : α} {v : Va} {q : α} (h : some a = some q) : a = q ∧ v = v := ⟨Option.some.inj h, rfl⟩
theorem q_p1r {v : Va} {a : Nat × Nat} {q : Nat × Nat} (h : some a = some q) : a.1 = q.1 ∧ v = v := by cases h; exact ⟨rfl, rfl⟩
theorem q_p2 {α : Type} {a : α} {v : Va} {q : α × Va} (h : some (a, v) = some q) : a = q.1 ∧ v = q.2 := by cases h; exact ⟨rfl, rfl⟩
theorem q_p1b {a : Bool} {v : Va} {q : Bool} (h : some a = some q) : q_b a = q_b q ∧ v = v := by cases h; exact ⟨rfl, rfl⟩
theorem q_p2b {a : Bool} {v : Va} {q : Bool × Va} (h : some (a, v) = some q) : q_b a = q_b q.1 ∧ v = q.2 := by cases h; exact ⟨rfl, rfl⟩
theorem q_rp0 {σ ρ : Type} {f : (σ → Option ρ) → σ → Option ρ} {x : σ} {r : ρ} {P : Prop} (h : rp f 0 x = some r) : P := by cases h
theorem q_rp1 {σ ρ : Type} {f : (σ → Option ρ) → σ → Option ρ} {n : Nat} {x : σ} {r : Option ρ} (h : rp f (n + 1) x = r) : f (rp f n) x = r := h
abbrev wpI (Γ : Cx) (sh : Sh) (w : Vl) (n hh : Nat) (post : Int32 → Va → Prop) (p : Program) (l : Launch) (e : Env) (s : State) (m : MethodId) (args : Array Value) (below : List Frame) (meth : Method) (c : Code) (H : Heap) (locs : List Loc) (fr : JFrame) : Prop := W p l e (rmh hh) s m args below meth c H locs 0 0 (MQ below (va_Qi post (fun u => PN Γ sh u w n) (gA Γ sh n)) args s 0 0 (gA Γ sh n)) fr
abbrev wpL (Γ : Cx) (sh : Sh) (w : Vl) (n hh : Nat) (post : Int64 → Va → Prop) (p : Program) (l : Launch) (e : Env) (s : State) (m : MethodId) (args : Array Value) (below : List Frame) (meth : Method) (c : Code) (H : Heap) (locs : List Loc) (fr : JFrame) : Prop := W p l e (rmh hh) s m args below meth c H locs 0 0 (MQ below (va_Ql post (fun u => PN Γ sh u w n) (gA Γ sh n)) args s 0 0 (gA Γ sh n)) fr
abbrev wpV (Γ : Cx) (sh : Sh) (w : Vl) (n hh : Nat) (post : Va → Prop) (p : Program) (l : Launch) (e : Env) (s : State) (m : MethodId) (args : Array Value) (below : List Frame) (meth : Method) (c : Code) (H : Heap) (locs : List Loc) (fr : JFrame) : Prop := W p l e (rmh hh) s m args below meth c H locs 0 0 (MQ below (va_Qv post (fun u => PN Γ sh u w n) (gA Γ sh n)) args s 0 0 (gA Γ sh n)) fr
abbrev wpR (Γ : Cx) (sh : Sh) (w : Vl) (n hh : Nat) (post : Nat → Va → Prop) (p : Program) (l : Launch) (e : Env) (s : State) (m : MethodId) (args : Array Value) (below : List Frame) (meth : Method) (c : Code) (H : Heap) (locs : List Loc) (fr : JFrame) : Prop := W p l e (rmh hh) s m args below meth c H locs 0 0 (MQ below (va_Qr (fun u : Nat × Va => post u.1 u.2) (fun u a t => a = Γ.2.1 + u.1 ∧ PN Γ sh u.2 w n t) (gA Γ sh n)) args s 0 0 (gA Γ sh n)) fr
section WC2
variable {p : Program} {l : Launch} {e : Env} {R : Room} {s : State} {m : MethodId} {args : Array Value} {below : List Frame} {meth : Method} {c : Code} {H H0 : Heap} {locs : List Loc} {cells slots : Nat} {Q : State → Prop}
variable {cc : ByteArray} {pc nL : Nat} {ls : Array Slot} {st0 rest As : List Value} {Γ : Cx} {sh : Sh} {v v1 : Va} {w : Vl} {own : String} {idx ci j k n nn hh mL mc ms : Nat} {cs : List Nat} {y : MethodName} {b : ByteArray} {ret : Option FieldType}
theorem z_mmin (hx : p.tables.exec = Jvm.exec) (hb : c.code = cc) (hml : c.maxLocals = nL) (hls : ls.size = nL) (hts : ∀ w ∈ lw_all, w.before args s = true) (hown : s.vm.findClass own = some m.cls) (hl : Cond.methodLink own idx Lib.Math.min.name ∈ lw_all) (hR : 1 ≤ R.frames ∧ 21 ≤ R.locals) (hW : (rest.map fun v => v.category).sum ≤ 8) (hf : cells ≤ R.cells ∧ slots ≤ R.slots) {x y : Int32} (hdg : decode cc pc = .ok (.invokestatic idx, 3))
    (kk : W p l e R s m args below meth c H locs cells slots Q (F0 m (pc + 3) ls (.int (q_min x y) :: rest))) : W p l e R s m args below meth c H locs cells slots Q (F0 m pc ls (.int y :: .int x :: rest)) :=
  va_mmin hx hb (hml.trans hls.symm) hown (hts _ hl) (hts _ xs_mmin) (hts _ xi_math) (hts _ xc_mmin) hR.1 (by omega) hf.1 hf.2 hdg kk
theorem z_mmax (hx : p.tables.exec = Jvm.exec) (hb : c.code = cc) (hml : c.maxLocals = nL) (hls : ls.size = nL) (hts : ∀ w ∈ lw_all, w.before args s = true) (hown : s.vm.findClass own = some m.cls) (hl : Cond.methodLink own idx Lib.Math.max.name ∈ lw_all) (hR : 1 ≤ R.frames ∧ 21 ≤ R.locals) (hW : (rest.map fun v => v.category).sum ≤ 8) (hf : cells ≤ R.cells ∧ slots ≤ R.slots) {x y : Int32} (hdg : decode cc pc = .ok (.invokestatic idx, 3))
    (kk : W p l e R s m args below meth c H locs cells slots Q (F0 m (pc + 3) ls (.int (q_max x y) :: rest))) : W p l e R s m args below meth c H locs cells slots Q (F0 m pc ls (.int y :: .int x :: rest)) :=
  va_mmax hx hb (hml.trans hls.symm) hown (hts _ hl) (hts _ xs_mmax) (hts _ xi_math) (hts _ xc_mmax) hR.1 (by omega) hf.1 hf.2 hdg kk
theorem z_tI (hx : p.tables.exec = Jvm.exec) (hb : c.code = cc) {dflt lo hi : Int} {offs : Array Int} {len : Nat} {x y : Int32} {off : Int} {tgt : Nat} (hdg : decode cc pc = .ok (.tableswitch dflt lo hi offs, len)) (hxy : x = y) (h1 : ¬ y.toInt < lo) (h2 : ¬ hi < y.toInt) (ho : offs[(y.toInt - lo).toNat]? = some off) (ht : (pc : Int) + off = (tgt : Int))
    (k : W p l e R s m args below meth c H locs cells slots Q (F0 m tgt ls rest)) : W p l e R s m args below meth c H locs cells slots Q (F0 m pc ls (.int x :: rest)) := by
  subst hxy
  exact lv_tableIn hx hb hdg h1 h2 ho ht k
theorem z_tD (hx : p.tables.exec = Jvm.exec) (hb : c.code = cc) {dflt lo hi : Int} {offs : Array Int} {len : Nat} {x : Int32} {tgt : Nat} (L : List Int32) (hdg : decode cc pc = .ok (.tableswitch dflt lo hi offs, len)) (hn : ∀ q ∈ L, ¬ x = q) (hs : (offs.size : Int) = hi - lo + 1) (hL : (List.range offs.size).all (fun i => offs[i]? == some dflt || L.any (fun q => q.toInt == lo + (i : Int))) = true) (ht : (pc : Int) + dflt = (tgt : Int))
    (k : W p l e R s m args below meth c H locs cells slots Q (F0 m tgt ls rest)) : W p l e R s m args below meth c H locs cells slots Q (F0 m pc ls (.int x :: rest)) := by
  by_cases h : x.toInt < lo ∨ hi < x.toInt
  · exact lv_tableOut hx hb hdg h ht k
  · have h1 : ¬ x.toInt < lo := fun q => h (Or.inl q)
    have h2 : ¬ hi < x.toInt := fun q => h (Or.inr q)
    have hi' : (x.toInt - lo).toNat < offs.size := by omega
    have h3 := List.all_eq_true.mp hL _ (List.mem_range.mpr hi')
    rcases Bool.or_eq_true _ _ |>.mp h3 with h4 | h4
    · exact lv_tableIn hx hb hdg h1 h2 (by simpa using h4) ht k
    · exfalso
      obtain ⟨q, hq, hq2⟩ := List.any_eq_true.mp h4
      have e1 : q.toInt = x.toInt := by
        have := eq_of_beq hq2
        omega
      exact hn q hq (Int32.toInt_inj.mp e1).symm
theorem z_lI (hx : p.tables.exec = Jvm.exec) (hb : c.code = cc) {dflt : Int} {ps : Array (Int × Int)} {len : Nat} {x y : Int32} {off : Int} {tgt : Nat} (hdg : decode cc pc = .ok (.lookupswitch dflt ps, len)) (hxy : x = y) (hp : (ps.toList.zip (ps.toList.drop 1)).all (fun (a, next) => a.1 < next.1) = true) (ho : Op.lookupswitch.offset ps.toList dflt y.toInt = off) (ht : (pc : Int) + off = (tgt : Int))
    (k : W p l e R s m args below meth c H locs cells slots Q (F0 m tgt ls rest)) : W p l e R s m args below meth c H locs cells slots Q (F0 m pc ls (.int x :: rest)) := by
  subst hxy
  exact lv_lookup hx hb hdg hp ho ht k
theorem z_lDo {dflt : Int} {x : Int32} (L : List Int32) (hn : ∀ q ∈ L, ¬ x = q) : ∀ (ps : List (Int × Int)), ps.all (fun a => L.any (fun q => q.toInt == a.1)) = true → Op.lookupswitch.offset ps dflt x.toInt = dflt
  | [], _ => rfl
  | (a, o) :: ps, h => by
    rw [List.all_cons, Bool.and_eq_true] at h
    show (if a = x.toInt then o else Op.lookupswitch.offset ps dflt x.toInt) = dflt
    obtain ⟨q, hq, hq2⟩ := List.any_eq_true.mp h.1
    have hne : ¬ a = x.toInt := fun e => hn q hq (Int32.toInt_inj.mp ((eq_of_beq hq2).trans e)).symm
    rw [if_neg hne]
    exact z_lDo L hn ps h.2
theorem z_lD (hx : p.tables.exec = Jvm.exec) (hb : c.code = cc) {dflt : Int} {ps : Array (Int × Int)} {len : Nat} {x : Int32} {tgt : Nat} (L : List Int32) (hdg : decode cc pc = .ok (.lookupswitch dflt ps, len)) (hn : ∀ q ∈ L, ¬ x = q) (hp : (ps.toList.zip (ps.toList.drop 1)).all (fun (a, next) => a.1 < next.1) = true) (hL : ps.toList.all (fun a => L.any (fun q => q.toInt == a.1)) = true) (ht : (pc : Int) + dflt = (tgt : Int))
    (k : W p l e R s m args below meth c H locs cells slots Q (F0 m tgt ls rest)) : W p l e R s m args below meth c H locs cells slots Q (F0 m pc ls (.int x :: rest)) :=
  lv_lookup hx hb hdg hp (z_lDo L hn _ hL) ht k
theorem z_bor (hx : p.tables.exec = Jvm.exec) (hb : c.code = cc) {x y : Bool} (hdg : decode cc pc = .ok (.ior, 1)) (k : W p l e R s m args below meth c H locs cells slots Q (F0 m (pc + 1) ls (.int (q_b (x || y)) :: rest))) : W p l e R s m args below meth c H locs cells slots Q (F0 m pc ls (.int (q_b y) :: .int (q_b x) :: rest)) := by
  have e : q_b (x || y) = q_b x ||| q_b y := by cases x <;> cases y <;> rfl
  rw [e] at k
  exact lv_ior hx hb hdg k
theorem z_band (hx : p.tables.exec = Jvm.exec) (hb : c.code = cc) {x y : Bool} (hdg : decode cc pc = .ok (.iand, 1)) (k : W p l e R s m args below meth c H locs cells slots Q (F0 m (pc + 1) ls (.int (q_b (x && y)) :: rest))) : W p l e R s m args below meth c H locs cells slots Q (F0 m pc ls (.int (q_b y) :: .int (q_b x) :: rest)) := by
  have e : q_b (x && y) = q_b x &&& q_b y := by cases x <;> cases y <;> rfl
  rw [e] at k
  exact lv_iand hx hb hdg k
theorem w_gd2 (hx : p.tables.exec = Jvm.exec) (hb : c.code = cc) (hts : ∀ w ∈ lw_all, w.before args s = true) (hown : s.vm.findClass own = some m.cls) (hK : wK Γ s) (hP : Wd Γ sh v w H) {fin : Bool} {ty : FieldType} (hf : FL own idx ci j fin ty) (he : sh k = some (sO ci cs)) {r : Nat} (hc : cs[j]? = some 1) (hr : (v k j).toNatClampNeg = r) (hdg : decode cc pc = .ok (.getfield idx, 3))
    (kk : W p l e R s m args below meth c H locs cells slots Q (F0 m (pc + 3) ls (.ref (Γ.2.1 + r) :: rest))) : W p l e R s m args below meth c H locs cells slots Q (F0 m pc ls (.ref (Γ.2.1 + k) :: rest)) := by
  subst hr
  exact w_gd hx hb hts hown hK hP hf he hc hdg kk
theorem w_pd2 (hx : p.tables.exec = Jvm.exec) (hb : c.code = cc) (hts : ∀ w ∈ lw_all, w.before args s = true) (hown : s.vm.findClass own = some m.cls) (hK : wK Γ s) (hP : Wd Γ sh v w H) (hS : va_S (gA Γ sh n) H0 H locs) (hz : H.size = Γ.2.1 + n) {ty_n : String} (hf : FL own idx ci j false (.object ty_n)) (he : sh k = some (sO ci cs)) {r : Nat} (hc : cs[j]? = some 1) (hr : r ≤ 4000) {v1 : Va} (hv1 : pu v k j (nI r) = v1) (hdg : decode cc pc = .ok (.putfield idx, 3))
    (kk : ∀ (H1 : Heap) (locs1 : List Loc), H1.size = Γ.2.1 + n → Wd Γ sh v1 w H1 → va_S (gA Γ sh n) H0 H1 locs1 → W p l e R s m args below meth c H1 locs1 cells slots Q (F0 m (pc + 3) ls rest)) : W p l e R s m args below meth c H locs cells slots Q (F0 m pc ls (.ref (Γ.2.1 + r) :: .ref (Γ.2.1 + k) :: rest)) := by
  have e0 : (nI r).toNatClampNeg = r := Int32.toNatClampNeg_ofNat_of_lt (by omega)
  refine w_put hx hb hts hown hK hP hS (gA_in he) hf he hc (cd := 1) (y := nI r) (by show Value.ref (Γ.2.1 + (nI r).toNatClampNeg) = _; rw [e0]) rfl rfl hdg fun H1 locs1 h0 h1 h2 => kk H1 locs1 (h0.trans hz) ?_ h2
  have e1 : cs.set j 1 = cs := by
    apply List.ext_getElem? ; intro i
    rw [List.getElem?_set]
    split
    · subst_vars
      split
      · exact hc.symm
      · next h => rw [List.getElem?_eq_none (by omega)]
    · rfl
  rw [e1, ← he, up_id] at h1
  rw [← hv1]
  exact h1
def q_cpy (v : Va) (k0 : Nat) (sp : Int32) (k1 : Nat) (dp : Int32) (nn : Int32) : Va := up v k1 (va_cpy (v k0) (v k1) sp.toNatClampNeg dp.toNatClampNeg nn.toNatClampNeg)
theorem z_cpy (hx : p.tables.exec = Jvm.exec) (hb : c.code = cc) (hml : c.maxLocals = nL) (hls : ls.size = nL) (hts : ∀ w ∈ lw_all, w.before args s = true) (hown : s.vm.findClass own = some m.cls) (hK : wK Γ s) (hP : Wd Γ sh v w H) (hS : va_S (gA Γ sh n) H0 H locs) (hz : H.size = Γ.2.1 + n) {k0 k1 n0 n1 : Nat} (he0 : sh k0 = some (sA n0)) (he1 : sh k1 = some (sA n1)) (hl : Cond.methodLink own idx arraycopyName ∈ lw_all) {a b d : Int32}
    (hn : ¬ (a < 0 ∨ d < 0 ∨ b < 0 ∨ n0 < a.toNatClampNeg + b.toNatClampNeg ∨ n1 < d.toNatClampNeg + b.toNatClampNeg ∨ k0 = k1)) (hR : 1 ≤ R.frames ∧ 26 ≤ R.locals) (hW : (rest.map fun v => v.category).sum ≤ 8) (hf : cells ≤ R.cells ∧ slots ≤ R.slots) {v1 : Va} (hv1 : q_cpy v k0 a k1 d b = v1) (hdg : decode cc pc = .ok (.invokestatic idx, 3))
    (kk : ∀ (H1 : Heap) (locs1 : List Loc), H1.size = Γ.2.1 + n → Wd Γ sh v1 w H1 → va_S (gA Γ sh n) H0 H1 locs1 → W p l e R s m args below meth c H1 locs1 cells slots Q (F0 m (pc + 3) ls rest)) : W p l e R s m args below meth c H locs cells slots Q (F0 m pc ls (.int b :: .int d :: .ref (Γ.2.1 + k1) :: .int a :: .ref (Γ.2.1 + k0) :: rest)) := by
  have h1 : ¬ a < 0 := fun q => hn (Or.inl q)
  have h2 : ¬ d < 0 := fun q => hn (Or.inr (Or.inl q))
  have h3 : ¬ b < 0 := fun q => hn (Or.inr (Or.inr (Or.inl q)))
  have h4 : a.toNatClampNeg + b.toNatClampNeg ≤ n0 := Nat.le_of_not_lt fun q => hn (Or.inr (Or.inr (Or.inr (Or.inl q))))
  have h5 : d.toNatClampNeg + b.toNatClampNeg ≤ n1 := Nat.le_of_not_lt fun q => hn (Or.inr (Or.inr (Or.inr (Or.inr (Or.inl q)))))
  have h6 : k0 ≠ k1 := fun q => hn (Or.inr (Or.inr (Or.inr (Or.inr (Or.inr q)))))
  have nn : ∀ z : Int32, ¬ z < 0 → z.toInt = (z.toNatClampNeg : Int) := fun z hz => Int32.toInt_eq_toNatClampNeg (Int32.not_lt.mp hz)
  have hc0 : H[Γ.2.1 + k0]? = some (vp_cell Γ.2.2.1 (n0, .inl (v k0))) := hP k0 _ he0
  have hc1 : H[Γ.2.1 + k1]? = some (vp_cell Γ.2.2.1 (n1, .inl (v k1))) := hP k1 _ he1
  obtain ⟨-, kA, hkA, cmA, hkkA⟩ := (hK.2 0 _ rfl).1 n0 (fun j => .int (v k0 j))
  obtain ⟨-, kB, hkB, cmB, hkkB⟩ := (hK.2 0 _ rfl).1 n1 (fun j => .int (v k1 j))
  intro T hT X
  obtain ⟨vm1, X1, step⟩ := X.arraycopy hx hown (hts _ hl) (hts _ xn_copy) (hts _ xs_copy) (hts _ xi_system) (src := Γ.2.1 + k0) (dst := Γ.2.1 + k1) (cs := vp_cell Γ.2.2.1 (n0, .inl (v k0))) (cd := vp_cell Γ.2.2.1 (n1, .inl (v k1))) (srcPos := a) (destPos := d) (n := b) (by rw [hT]; exact hc0) (by rw [hT]; exact hc1)
    (fun _ q => by cases q) (fun _ q => by cases q) (fun q => by cases q) (fun q => by cases q) hkA hkB hkkA hkkB (by simp [refKind]) h1 h2 h3
    (by rw [nn a h1, nn b h3]; show ¬ _ > ((arrV Γ.2.2.1 n0 (fun j => .int (v k0 j))).slots.size : Int); rw [arrV_size]; omega)
    (by rw [nn d h2, nn b h3]; show ¬ _ > ((arrV Γ.2.2.1 n1 (fun j => .int (v k1 j))).slots.size : Int); rw [arrV_size]; omega)
    (fun _ _ i hi => by
      have e : (vp_cell Γ.2.2.1 (n0, .inl (v k0))).slots.getD (a.toNatClampNeg + i) .null = .int (v k0 (a.toNatClampNeg + i)) := by
        show (arrV Γ.2.2.1 n0 (fun j => .int (v k0 j))).slots.getD _ _ = _
        rw [Array.getD_eq_getD_getElem?, arrV_read _ _ (by omega)]
        rfl
      rw [e]
      exact ⟨rfl, trivial⟩)
    (g := F0 m pc ls (.int b :: .int d :: .ref (Γ.2.1 + k1) :: .int a :: .ref (Γ.2.1 + k0) :: rest)) rfl (by rw [hml, hls]) (rest := rest) rfl (by rw [hb]; exact hdg) hR.1 (by show 2 * 0 + _ + (7 + 11) ≤ _; omega)
  have e1 : copied (vp_cell Γ.2.2.1 (n0, .inl (v k0))) (vp_cell Γ.2.2.1 (n1, .inl (v k1))) a d b = vp_cell Γ.2.2.1 (n1, .inl (v1 k1)) := by
    rw [← hv1, q_cpy, up_eq]
    exact va_copied (fun z => .int z) Γ.2.2.1 Γ.2.2.1 (v k0) (v k1) h4
  rw [e1] at X1 step
  have hlt : Γ.2.1 + k1 < H.size := (Array.getElem?_eq_some_iff.mp hc1).1
  have hheap : ((T.setVm vm1).setCell (Γ.2.1 + k1) (vp_cell Γ.2.2.1 (n1, .inl (v1 k1)))).heap = H.setIfInBounds (Γ.2.1 + k1) (vp_cell Γ.2.2.1 (n1, .inl (v1 k1))) := by rw [← hT]; rfl
  have oq : ∀ q : Nat, q ≠ Γ.2.1 + k1 → (H.setIfInBounds (Γ.2.1 + k1) (vp_cell Γ.2.2.1 (n1, .inl (v1 k1))))[q]? = H[q]? := fun q hq => by simp [Array.getElem?_setIfInBounds, Ne.symm hq]
  have hW1 : Wd Γ sh v1 w (H.setIfInBounds (Γ.2.1 + k1) (vp_cell Γ.2.2.1 (n1, .inl (v1 k1)))) := hP.set k1 (fun e0 h0 => by
      rw [he1] at h0
      cases h0
      show (H.setIfInBounds (Γ.2.1 + k1) _)[Γ.2.1 + k1]? = some (vp_cell Γ.2.2.1 (n1, .inl (v1 k1)))
      simp [Array.getElem?_setIfInBounds, hlt]) (fun q _ => rfl) (fun q hq => by rw [← hv1, q_cpy]; exact up_ne hq) (fun q _ => rfl) (fun q _ hq _ => oq _ (fun z => hq (Nat.add_left_cancel z)))
  obtain ⟨t, a1, b1⟩ := kk _ _ (by simpa using hz) hW1 ⟨by simp; exact hS.1, fun q g1 g2 => by
      rw [oq q (fun z => g2 (by rw [z]; exact gA_in he1))]
      exact hS.2.1 q g1 g2, fun q hq => by
      rcases List.mem_append.mp hq with h | h
      · exact hS.2.2 q h
      · obtain ⟨z, -, hz'⟩ := List.mem_map.mp h
        rw [← hz']
        exact gA_in he1⟩ _ hheap X1
  exact ⟨t, step t a1, b1⟩
theorem z_Vi (hx : p.tables.exec = Jvm.exec) (hb : c.code = cc) (hml : c.maxLocals = nL) (hts : ∀ w ∈ lw_all, w.before args s = true) (hown : s.vm.findClass own = some m.cls) (hK : wK Γ s) (hP : Wd Γ sh v w H) (hS : va_S (gA Γ sh n) s.heap H locs) (hz : H.size = Γ.2.1 + n) (hE : EN Γ sh n s) {r1 : Int32} (hM : MetI l y b mL ret hh Γ sh v w n (.ref (Γ.2.1 + k) :: As) (fun x u => x = r1 ∧ u = v1)) (hC : CAV y b mL ret nn) (hL : ML own idx y) (he : sh k = some (sO ci cs)) (hcl : (vwCl[ci]?).map (fun q => q.1) = some y.cls) (hst : st0 = As.reverse ++ .ref (Γ.2.1 + k) :: rest) (hn : As.length = nn) (hls : ls.size = nL) (hW : (rest.map fun v => v.category).sum ≤ 8) (hR : hh + 1 ≤ R.frames ∧ 8 + (mL + 11) + 40 * hh ≤ R.locals) (hf : cells ≤ R.cells ∧ slots ≤ R.slots) (hdg : decode cc pc = .ok (.invokevirtual idx, 3)) (kk : ∀ (H1 : Heap) (locs1 : List Loc), H1.size = Γ.2.1 + n → Wd Γ sh v1 w H1 → va_S (gA Γ sh n) s.heap H1 locs1 → W p l e R s m args below meth c H1 locs1 cells slots Q (F0 m (pc + 3) ls (.int r1 :: rest))) : W p l e R s m args below meth c H locs cells slots Q (F0 m pc ls st0) := by
  refine w_cVi hx hb hml hts hown hK hP hS hz hE hM hC hL he hcl hst hn hls hW hR hf hdg fun r u H1 locs1 hp h1 h2 h3 => ?_
  obtain ⟨rfl, rfl⟩ := hp
  exact kk H1 locs1 h1 h2 h3
theorem z_Si (hx : p.tables.exec = Jvm.exec) (hb : c.code = cc) (hml : c.maxLocals = nL) (hts : ∀ w ∈ lw_all, w.before args s = true) (hown : s.vm.findClass own = some m.cls) (hK : wK Γ s) (hP : Wd Γ sh v w H) (hS : va_S (gA Γ sh n) s.heap H locs) (hz : H.size = Γ.2.1 + n) (hE : EN Γ sh n s) {r1 : Int32} (hM : MetI l y b mL ret hh Γ sh v w n (As) (fun x u => x = r1 ∧ u = v1)) (hC : CAS y b mL ret nn) (hL : ML own idx y) (hst : st0 = As.reverse ++ rest) (hn : As.length = nn) (hls : ls.size = nL) (hW : (rest.map fun v => v.category).sum ≤ 8) (hR : hh + 1 ≤ R.frames ∧ 8 + (mL + 11) + 40 * hh ≤ R.locals) (hf : cells ≤ R.cells ∧ slots ≤ R.slots) (hdg : decode cc pc = .ok (.invokestatic idx, 3)) (kk : ∀ (H1 : Heap) (locs1 : List Loc), H1.size = Γ.2.1 + n → Wd Γ sh v1 w H1 → va_S (gA Γ sh n) s.heap H1 locs1 → W p l e R s m args below meth c H1 locs1 cells slots Q (F0 m (pc + 3) ls (.int r1 :: rest))) : W p l e R s m args below meth c H locs cells slots Q (F0 m pc ls st0) := by
  refine w_cSi hx hb hml hts hown hK hP hS hz hE hM hC hL hst hn hls hW hR hf hdg fun r u H1 locs1 hp h1 h2 h3 => ?_
  obtain ⟨rfl, rfl⟩ := hp
  exact kk H1 locs1 h1 h2 h3
theorem z_Vl (hx : p.tables.exec = Jvm.exec) (hb : c.code = cc) (hml : c.maxLocals = nL) (hts : ∀ w ∈ lw_all, w.before args s = true) (hown : s.vm.findClass own = some m.cls) (hK : wK Γ s) (hP : Wd Γ sh v w H) (hS : va_S (gA Γ sh n) s.heap H locs) (hz : H.size = Γ.2.1 + n) (hE : EN Γ sh n s) {r1 : Int64} (hM : MetL l y b mL ret hh Γ sh v w n (.ref (Γ.2.1 + k) :: As) (fun x u => x = r1 ∧ u = v1)) (hC : CAV y b mL ret nn) (hL : ML own idx y) (he : sh k = some (sO ci cs)) (hcl : (vwCl[ci]?).map (fun q => q.1) = some y.cls) (hst : st0 = As.reverse ++ .ref (Γ.2.1 + k) :: rest) (hn : As.length = nn) (hls : ls.size = nL) (hW : (rest.map fun v => v.category).sum ≤ 8) (hR : hh + 1 ≤ R.frames ∧ 8 + (mL + 11) + 40 * hh ≤ R.locals) (hf : cells ≤ R.cells ∧ slots ≤ R.slots) (hdg : decode cc pc = .ok (.invokevirtual idx, 3)) (kk : ∀ (H1 : Heap) (locs1 : List Loc), H1.size = Γ.2.1 + n → Wd Γ sh v1 w H1 → va_S (gA Γ sh n) s.heap H1 locs1 → W p l e R s m args below meth c H1 locs1 cells slots Q (F0 m (pc + 3) ls (.long r1 :: rest))) : W p l e R s m args below meth c H locs cells slots Q (F0 m pc ls st0) := by
  refine w_cVl hx hb hml hts hown hK hP hS hz hE hM hC hL he hcl hst hn hls hW hR hf hdg fun r u H1 locs1 hp h1 h2 h3 => ?_
  obtain ⟨rfl, rfl⟩ := hp
  exact kk H1 locs1 h1 h2 h3
theorem z_Sl (hx : p.tables.exec = Jvm.exec) (hb : c.code = cc) (hml : c.maxLocals = nL) (hts : ∀ w ∈ lw_all, w.before args s = true) (hown : s.vm.findClass own = some m.cls) (hK : wK Γ s) (hP : Wd Γ sh v w H) (hS : va_S (gA Γ sh n) s.heap H locs) (hz : H.size = Γ.2.1 + n) (hE : EN Γ sh n s) {r1 : Int64} (hM : MetL l y b mL ret hh Γ sh v w n (As) (fun x u => x = r1 ∧ u = v1)) (hC : CAS y b mL ret nn) (hL : ML own idx y) (hst : st0 = As.reverse ++ rest) (hn : As.length = nn) (hls : ls.size = nL) (hW : (rest.map fun v => v.category).sum ≤ 8) (hR : hh + 1 ≤ R.frames ∧ 8 + (mL + 11) + 40 * hh ≤ R.locals) (hf : cells ≤ R.cells ∧ slots ≤ R.slots) (hdg : decode cc pc = .ok (.invokestatic idx, 3)) (kk : ∀ (H1 : Heap) (locs1 : List Loc), H1.size = Γ.2.1 + n → Wd Γ sh v1 w H1 → va_S (gA Γ sh n) s.heap H1 locs1 → W p l e R s m args below meth c H1 locs1 cells slots Q (F0 m (pc + 3) ls (.long r1 :: rest))) : W p l e R s m args below meth c H locs cells slots Q (F0 m pc ls st0) := by
  refine w_cSl hx hb hml hts hown hK hP hS hz hE hM hC hL hst hn hls hW hR hf hdg fun r u H1 locs1 hp h1 h2 h3 => ?_
  obtain ⟨rfl, rfl⟩ := hp
  exact kk H1 locs1 h1 h2 h3
theorem z_Vv (hx : p.tables.exec = Jvm.exec) (hb : c.code = cc) (hml : c.maxLocals = nL) (hts : ∀ w ∈ lw_all, w.before args s = true) (hown : s.vm.findClass own = some m.cls) (hK : wK Γ s) (hP : Wd Γ sh v w H) (hS : va_S (gA Γ sh n) s.heap H locs) (hz : H.size = Γ.2.1 + n) (hE : EN Γ sh n s)  (hM : MetV l y b mL ret hh Γ sh v w n (.ref (Γ.2.1 + k) :: As) (fun u => u = v1)) (hC : CAV y b mL ret nn) (hL : ML own idx y) (he : sh k = some (sO ci cs)) (hcl : (vwCl[ci]?).map (fun q => q.1) = some y.cls) (hst : st0 = As.reverse ++ .ref (Γ.2.1 + k) :: rest) (hn : As.length = nn) (hls : ls.size = nL) (hW : (rest.map fun v => v.category).sum ≤ 8) (hR : hh + 1 ≤ R.frames ∧ 8 + (mL + 11) + 40 * hh ≤ R.locals) (hf : cells ≤ R.cells ∧ slots ≤ R.slots) (hdg : decode cc pc = .ok (.invokevirtual idx, 3)) (kk : ∀ (H1 : Heap) (locs1 : List Loc), H1.size = Γ.2.1 + n → Wd Γ sh v1 w H1 → va_S (gA Γ sh n) s.heap H1 locs1 → W p l e R s m args below meth c H1 locs1 cells slots Q (F0 m (pc + 3) ls (rest))) : W p l e R s m args below meth c H locs cells slots Q (F0 m pc ls st0) := by
  refine w_cVv hx hb hml hts hown hK hP hS hz hE hM hC hL he hcl hst hn hls hW hR hf hdg fun u H1 locs1 hp h1 h2 h3 => ?_
  subst hp
  exact kk H1 locs1 h1 h2 h3
theorem z_Sv (hx : p.tables.exec = Jvm.exec) (hb : c.code = cc) (hml : c.maxLocals = nL) (hts : ∀ w ∈ lw_all, w.before args s = true) (hown : s.vm.findClass own = some m.cls) (hK : wK Γ s) (hP : Wd Γ sh v w H) (hS : va_S (gA Γ sh n) s.heap H locs) (hz : H.size = Γ.2.1 + n) (hE : EN Γ sh n s)  (hM : MetV l y b mL ret hh Γ sh v w n (As) (fun u => u = v1)) (hC : CAS y b mL ret nn) (hL : ML own idx y) (hst : st0 = As.reverse ++ rest) (hn : As.length = nn) (hls : ls.size = nL) (hW : (rest.map fun v => v.category).sum ≤ 8) (hR : hh + 1 ≤ R.frames ∧ 8 + (mL + 11) + 40 * hh ≤ R.locals) (hf : cells ≤ R.cells ∧ slots ≤ R.slots) (hdg : decode cc pc = .ok (.invokestatic idx, 3)) (kk : ∀ (H1 : Heap) (locs1 : List Loc), H1.size = Γ.2.1 + n → Wd Γ sh v1 w H1 → va_S (gA Γ sh n) s.heap H1 locs1 → W p l e R s m args below meth c H1 locs1 cells slots Q (F0 m (pc + 3) ls (rest))) : W p l e R s m args below meth c H locs cells slots Q (F0 m pc ls st0) := by
  refine w_cSv hx hb hml hts hown hK hP hS hz hE hM hC hL hst hn hls hW hR hf hdg fun u H1 locs1 hp h1 h2 h3 => ?_
  subst hp
  exact kk H1 locs1 h1 h2 h3
theorem z_Iv (hx : p.tables.exec = Jvm.exec) (hb : c.code = cc) (hml : c.maxLocals = nL) (hts : ∀ w ∈ lw_all, w.before args s = true) (hown : s.vm.findClass own = some m.cls) (hK : wK Γ s) (hP : Wd Γ sh v w H) (hS : va_S (gA Γ sh n) s.heap H locs) (hz : H.size = Γ.2.1 + n) (hE : EN Γ sh n s)  (hM : MetV l y b mL none hh Γ sh v w n (.ref (Γ.2.1 + k) :: As) (fun u => u = v1)) (hC : CAI y b mL none nn) (hL : ML own idx y) (hst : st0 = As.reverse ++ .ref (Γ.2.1 + k) :: rest) (hn : As.length = nn) (hls : ls.size = nL) (hW : (rest.map fun v => v.category).sum ≤ 8) (hR : hh + 1 ≤ R.frames ∧ 8 + (mL + 11) + 40 * hh ≤ R.locals) (hf : cells ≤ R.cells ∧ slots ≤ R.slots) (hdg : decode cc pc = .ok (.invokespecial idx, 3)) (kk : ∀ (H1 : Heap) (locs1 : List Loc), H1.size = Γ.2.1 + n → Wd Γ sh v1 w H1 → va_S (gA Γ sh n) s.heap H1 locs1 → W p l e R s m args below meth c H1 locs1 cells slots Q (F0 m (pc + 3) ls (rest))) : W p l e R s m args below meth c H locs cells slots Q (F0 m pc ls st0) := by
  refine w_cIv hx hb hml hts hown hK hP hS hz hE hM hC hL hst hn hls hW hR hf hdg fun u H1 locs1 hp h1 h2 h3 => ?_
  subst hp
  exact kk H1 locs1 h1 h2 h3
theorem z_Vr (hx : p.tables.exec = Jvm.exec) (hb : c.code = cc) (hml : c.maxLocals = nL) (hts : ∀ w ∈ lw_all, w.before args s = true) (hown : s.vm.findClass own = some m.cls) (hK : wK Γ s) (hP : Wd Γ sh v w H) (hS : va_S (gA Γ sh n) s.heap H locs) (hz : H.size = Γ.2.1 + n) (hE : EN Γ sh n s) {r1 : Nat} (hM : MetR l y b mL ret hh Γ sh v w n (.ref (Γ.2.1 + k) :: As) (fun x u => x = r1 ∧ u = v1)) (hC : CAV y b mL ret nn) (hL : ML own idx y) (he : sh k = some (sO ci cs)) (hcl : (vwCl[ci]?).map (fun q => q.1) = some y.cls) (hst : st0 = As.reverse ++ .ref (Γ.2.1 + k) :: rest) (hn : As.length = nn) (hls : ls.size = nL) (hW : (rest.map fun v => v.category).sum ≤ 8) (hR : hh + 1 ≤ R.frames ∧ 8 + (mL + 11) + 40 * hh ≤ R.locals) (hf : cells ≤ R.cells ∧ slots ≤ R.slots) (hdg : decode cc pc = .ok (.invokevirtual idx, 3)) (kk : ∀ (H1 : Heap) (locs1 : List Loc), H1.size = Γ.2.1 + n → Wd Γ sh v1 w H1 → va_S (gA Γ sh n) s.heap H1 locs1 → W p l e R s m args below meth c H1 locs1 cells slots Q (F0 m (pc + 3) ls (.ref (Γ.2.1 + r1) :: rest))) : W p l e R s m args below meth c H locs cells slots Q (F0 m pc ls st0) := by
  refine w_cVr hx hb hml hts hown hK hP hS hz hE hM hC hL he hcl hst hn hls hW hR hf hdg fun r u H1 locs1 hp h1 h2 h3 => ?_
  obtain ⟨rfl, rfl⟩ := hp
  exact kk H1 locs1 h1 h2 h3
theorem z_Sr (hx : p.tables.exec = Jvm.exec) (hb : c.code = cc) (hml : c.maxLocals = nL) (hts : ∀ w ∈ lw_all, w.before args s = true) (hown : s.vm.findClass own = some m.cls) (hK : wK Γ s) (hP : Wd Γ sh v w H) (hS : va_S (gA Γ sh n) s.heap H locs) (hz : H.size = Γ.2.1 + n) (hE : EN Γ sh n s) {r1 : Nat} (hM : MetR l y b mL ret hh Γ sh v w n (As) (fun x u => x = r1 ∧ u = v1)) (hC : CAS y b mL ret nn) (hL : ML own idx y) (hst : st0 = As.reverse ++ rest) (hn : As.length = nn) (hls : ls.size = nL) (hW : (rest.map fun v => v.category).sum ≤ 8) (hR : hh + 1 ≤ R.frames ∧ 8 + (mL + 11) + 40 * hh ≤ R.locals) (hf : cells ≤ R.cells ∧ slots ≤ R.slots) (hdg : decode cc pc = .ok (.invokestatic idx, 3)) (kk : ∀ (H1 : Heap) (locs1 : List Loc), H1.size = Γ.2.1 + n → Wd Γ sh v1 w H1 → va_S (gA Γ sh n) s.heap H1 locs1 → W p l e R s m args below meth c H1 locs1 cells slots Q (F0 m (pc + 3) ls (.ref (Γ.2.1 + r1) :: rest))) : W p l e R s m args below meth c H locs cells slots Q (F0 m pc ls st0) := by
  refine w_cSr hx hb hml hts hown hK hP hS hz hE hM hC hL hst hn hls hW hR hf hdg fun r u H1 locs1 hp h1 h2 h3 => ?_
  obtain ⟨rfl, rfl⟩ := hp
  exact kk H1 locs1 h1 h2 h3
end WC2
