/-! THE WORLD: all objects and arrays of the system by their places ahead of a base; a map of shapes, a map of numbers -/
def lw_ok : Cond → Bool
  | .fieldLinkNest .. => true
  | .methodLinkNest .. => true
  | w => goodWord w
/-- the private methods of the class above StringBuilder, as a StringBuilder selects them -/
def lw_xs : List Cond := [.selects RJ4 yJ5_ensureCapacityInternal_d00df yJ5_ensureCapacityInternal_d00df, .selects RJ4 yJ5_newCapacity_0f7a4 yJ5_newCapacity_0f7a4, .selects RJ4 yJ5_putStringAt_47b60 yJ5_putStringAt_47b60, .selects RJ4 yJ5_inflateIfNeededFor_a7421 yJ5_inflateIfNeededFor_a7421]
def lw_all : List Cond := (lw_xs ++ lw_tbl).filter lw_ok
theorem lw_steady {w : Cond} (h : lw_ok w = true) {args a' : Array Value} {s U : State} (hW : s.WarmedH U.vm) (hb : w.before args s = true) : w.before a' U = true := by
  cases w
  case fieldLinkNest a i b n d h0 => exact va_Nw.use rfl (va_Nw.warmF hW (va_Nw.of rfl hb))
  case methodLinkNest a i y h0 => exact va_Nw.use rfl (va_Nw.warmM hW (va_Nw.of rfl hb))
  all_goals exact word_at hW (good_of_word h) hb
theorem lw_all_of {w : Cond} (h : w ∈ lw_tbl) (hk : lw_ok w = true) : w ∈ lw_all := List.mem_filter.mpr ⟨List.mem_append_right _ h, hk⟩
theorem ts_of {w : Cond} (h : w ∈ lw_xs) (hk : lw_ok w = true := by rfl) : w ∈ lw_all := List.mem_filter.mpr ⟨List.mem_append_left _ h, hk⟩
theorem lw_in_all {ws : List Cond} (h : ∀ w ∈ ws, w ∈ lw_tbl) (hk : ws.all lw_ok = true) : ∀ w ∈ ws, w ∈ lw_all := fun w hw => lw_all_of (h w hw) (List.all_eq_true.mp hk w hw)
theorem tk1 {w : Cond} {i : Nat} (h : tables_1_1[i]? = some w) (hk : lw_ok w = true) : w ∈ lw_all := lw_all_of (by unfold lw_tbl tables_1; simp [List.mem_of_getElem? h]) hk
theorem tk2 {w : Cond} {i : Nat} (h : tables_1_2[i]? = some w) (hk : lw_ok w = true) : w ∈ lw_all := lw_all_of (by unfold lw_tbl tables_1; simp [List.mem_of_getElem? h]) hk
theorem tk3 {w : Cond} {i : Nat} (h : tables_1_3[i]? = some w) (hk : lw_ok w = true) : w ∈ lw_all := lw_all_of (by unfold lw_tbl tables_1; simp [List.mem_of_getElem? h]) hk
theorem tk4 {w : Cond} {i : Nat} (h : tables_1_4[i]? = some w) (hk : lw_ok w = true) : w ∈ lw_all := lw_all_of (by unfold lw_tbl tables_1; simp [List.mem_of_getElem? h]) hk
theorem tk5 {w : Cond} {i : Nat} (h : tables_1_5[i]? = some w) (hk : lw_ok w = true) : w ∈ lw_all := lw_all_of (by unfold lw_tbl tables_1; simp [List.mem_of_getElem? h]) hk
theorem tk6 {w : Cond} {i : Nat} (h : tables_1_6[i]? = some w) (hk : lw_ok w = true) : w ∈ lw_all := lw_all_of (by unfold lw_tbl tables_1; simp [List.mem_of_getElem? h]) hk
theorem tk7 {w : Cond} {i : Nat} (h : tables_1_7[i]? = some w) (hk : lw_ok w = true) : w ∈ lw_all := lw_all_of (by unfold lw_tbl tables_1; simp [List.mem_of_getElem? h]) hk
theorem tp_of {ps : List (MethodName × Nat)} {y : MethodName} {i n : Nat} (h : ps[i]? = some (y, n)) (hs : ∀ q ∈ ps, q ∈ lw_privs) : Cond.selects y.cls y y ∈ lw_all :=
  lw_all_of (List.mem_append_left _ (List.mem_map.mpr ⟨(y, n), hs _ (List.mem_of_getElem? h), rfl⟩)) rfl
theorem tp1 {y : MethodName} {i n : Nat} (h : lw_privs_1[i]? = some (y, n)) : Cond.selects y.cls y y ∈ lw_all := tp_of h (fun q hq => by unfold lw_privs; simp [hq])
theorem tp2 {y : MethodName} {i n : Nat} (h : lw_privs_2[i]? = some (y, n)) : Cond.selects y.cls y y ∈ lw_all := tp_of h (fun q hq => by unfold lw_privs; simp [hq])
theorem tp3 {y : MethodName} {i n : Nat} (h : lw_privs_3[i]? = some (y, n)) : Cond.selects y.cls y y ∈ lw_all := tp_of h (fun q hq => by unfold lw_privs; simp [hq])
theorem tp4 {y : MethodName} {i n : Nat} (h : lw_privs_4[i]? = some (y, n)) : Cond.selects y.cls y y ∈ lw_all := tp_of h (fun q hq => by unfold lw_privs; simp [hq])
theorem tp5 {y : MethodName} {i n : Nat} (h : lw_privs_5[i]? = some (y, n)) : Cond.selects y.cls y y ∈ lw_all := tp_of h (fun q hq => by unfold lw_privs; simp [hq])
abbrev ws_ (y : MethodName) (c : ByteArray) (n : Nat) (r : Option FieldType) : List Cond := .code y c n r :: lw_all
/-- what the tables say of a field's place in a class file, of a method's, of a callee -/
def FL (own : String) (idx ci j : Nat) (fin : Bool) (ty : FieldType) : Prop := ∃ (C : String) (T : u_T) (N : Nat) (tyf : Nat → FieldType), vwCl[ci]? = some (C, T, N) ∧ j < N ∧ (∀ w ∈ u_ws C T N, w ∈ lw_all) ∧ (∀ k, k < N → parseFieldDescriptor (T k).2.2.1 = some (tyf k)) ∧ (∀ a, a < N → ∀ b, b < N → a ≠ b → (T a).2.1 ≠ (T b).2.1) ∧ (T j).2.2.2 = fin ∧ tyf j = ty ∧
  (Cond.fieldLink own idx (T j).1 (T j).2.1 (T j).2.2.1 ∈ lw_all ∨ ∃ host, Cond.fieldLinkNest own idx (T j).1 (T j).2.1 (T j).2.2.1 host ∈ lw_all)
def FLF (own : String) (idx ci j : Nat) (ty : FieldType) : Prop := ∃ (T : u_T) (N : Nat) (tyf : Nat → FieldType), vwCl[ci]? = some (own, T, N) ∧ j < N ∧ (∀ w ∈ u_ws own T N, w ∈ lw_all) ∧ (∀ k, k < N → parseFieldDescriptor (T k).2.2.1 = some (tyf k)) ∧ (∀ a, a < N → ∀ b, b < N → a ≠ b → (T a).2.1 ≠ (T b).2.1) ∧ (T j).2.2.2 = true ∧ tyf j = ty ∧ (T j).1 = own ∧
  Cond.fieldLink own idx own (T j).2.1 (T j).2.2.1 ∈ lw_all
def ML (own : String) (idx : Nat) (y : MethodName) : Prop := Cond.methodLink own idx y ∈ lw_all ∨ ∃ host, Cond.methodLinkNest own idx y host ∈ lw_all
def CAx (y : MethodName) (n : Nat) : Prop := y.cls ≠ "java/lang/invoke/MethodHandle" ∧ y.cls ≠ "java/lang/invoke/VarHandle" ∧ (parseMethodDescriptor y.desc).map (fun d => d.parameters.length) = some n
def CAV (y : MethodName) (b : ByteArray) (mL : Nat) (r : Option FieldType) (n : Nat) : Prop := Cond.code y b mL r ∈ lw_all ∧ Cond.initialized y.cls ∈ lw_all ∧ Cond.instanceMethod y ∈ lw_all ∧ Cond.selects y.cls y y ∈ lw_all ∧ CAx y n
def CAS (y : MethodName) (b : ByteArray) (mL : Nat) (r : Option FieldType) (n : Nat) : Prop := Cond.code y b mL r ∈ lw_all ∧ Cond.initialized y.cls ∈ lw_all ∧ Cond.static y ∈ lw_all ∧ CAx y n
/-- a method of a class above: the receiver's class C -/
def CAU (y : MethodName) (b : ByteArray) (mL : Nat) (r : Option FieldType) (n : Nat) : Prop := Cond.code y b mL r ∈ lw_all ∧ Cond.initialized y.cls ∈ lw_all ∧ Cond.instanceMethod y ∈ lw_all ∧ Cond.sameMethod y.cls y.cls y.name y.desc ∈ lw_all ∧ CAx y n
def CAI (y : MethodName) (b : ByteArray) (mL : Nat) (r : Option FieldType) (n : Nat) : Prop := Cond.code y b mL r ∈ lw_all ∧ Cond.initialized y.cls ∈ lw_all ∧ Cond.instanceMethod y ∈ lw_all ∧ y.name = "<init>" ∧ CAx y n
/-- shapes: an array of ints, one of longs, an object (its class's place, of each field: 0 a number, 1 a place that changes, 2 null, r + 3 the place r) -/
abbrev Sp : Type := Nat ⊕ Nat ⊕ (Nat × List Nat) ⊕ (Nat × Nat) ⊕ (Nat × (Nat → Option Nat)) ⊕ (Nat × List Nat) ⊕ (Nat × Nat)
abbrev Sh : Type := Nat → Option Sp
abbrev Va : Type := Nat → Nat → Int32
abbrev Vl : Type := Nat → Nat → Int64
abbrev Cx : Type := va_G × Nat × ClassId × (Nat → ClassId) × State
abbrev sA (N : Nat) : Sp := .inl N
abbrev sL (N : Nat) : Sp := .inr (.inl N)
abbrev sO (ci : Nat) (cs : List Nat) : Sp := .inr (.inr (.inl (ci, cs)))
/-- an array of bytes (1) or booleans (2); one of arrays of ints -/
abbrev sB (t N : Nat) : Sp := .inr (.inr (.inr (.inl (t, N))))
abbrev sR (N : Nat) (f : Nat → Option Nat) : Sp := .inr (.inr (.inr (.inr (.inl (N, f)))))
/-- what is only read: an object, an array (0 ints, 1 bytes) -/
abbrev sQ (ci : Nat) (cs : List Nat) : Sp := .inr (.inr (.inr (.inr (.inr (.inl (ci, cs))))))
abbrev sX (t N : Nat) : Sp := .inr (.inr (.inr (.inr (.inr (.inr (t, N))))))
/-- what may be written -/
def wr : Sp → Prop
  | .inr (.inr (.inr (.inr (.inr _)))) => False
  | _ => True
def up {α : Type} (v : Nat → α) (k : Nat) (f : α) : Nat → α := fun q => if q = k then f else v q
theorem up_eq {α : Type} (v : Nat → α) (k : Nat) (f : α) : up v k f k = f := if_pos rfl
theorem up_ne {α : Type} {v : Nat → α} {k q : Nat} {f : α} (h : q ≠ k) : up v k f q = v q := if_neg h
theorem up_id {α : Type} (v : Nat → α) (k : Nat) : up v k (v k) = v := funext fun q => by unfold up; split <;> simp_all
def wvl (b : Nat) (x : Int32) : Nat → Value
  | 0 => .int x
  | 1 => .ref (b + x.toNatClampNeg)
  | 2 => .null
  | r + 3 => .ref (b + r)
def wfs (b : Nat) (f : Nat → Int32) : Nat → List Nat → List Value
  | _, [] => []
  | j, c :: cs => wvl b (f j) c :: wfs b f (j + 1) cs
def wen (Γ : Cx) (f : Nat → Int32) (g : Nat → Int64) : Sp → va_E
  | .inl N => .inl (Γ.2.2.1, N, .inl f)
  | .inr (.inl N) => .inl (Γ.2.2.2.1 0, N, .inr (.inl g))
  | .inr (.inr (.inl (ci, cs))) => .inr (ci, wfs Γ.2.1 f 0 cs)
  | .inr (.inr (.inr (.inl (t, N)))) => .inl (Γ.2.2.2.1 t, N, .inl f)
  | .inr (.inr (.inr (.inr (.inl (N, p))))) => .inl (Γ.2.2.2.1 3, N, .inr (.inr (.inr (.inr fun j => (p j).map (Γ.2.1 + ·)))))
  | .inr (.inr (.inr (.inr (.inr (.inl (ci, cs)))))) => .inr (ci, wfs Γ.2.1 f 0 cs)
  | .inr (.inr (.inr (.inr (.inr (.inr (t, N)))))) => .inl (if t = 0 then Γ.2.2.1 else Γ.2.2.2.1 t, N, .inl f)
def Wd (Γ : Cx) (sh : Sh) (v : Va) (w : Vl) (H : Heap) : Prop := ∀ (k : Nat) (e : Sp), sh k = some e → va_at Γ.1 vwCl (Γ.2.1 + k, wen Γ (v k) (w k) e) H
abbrev wKt (Γ : Cx) : List (ClassId × FieldType) := [(Γ.2.2.1, .int), (Γ.2.2.1, .int), (Γ.2.2.2.1 1, .byte), (Γ.2.2.2.1 2, .boolean), (Γ.2.2.2.1 3, .array .int)]
def wK (Γ : Cx) (U : State) : Prop := va_K Γ.1 vwCl (wKt Γ) U
/-- what a method may change: the cells of its world, and what is new -/
def gA (Γ : Cx) (sh : Sh) (n : Nat) : Nat → Prop := fun q => (∃ k e, sh k = some e ∧ wr e ∧ q = Γ.2.1 + k) ∨ Γ.2.1 + n ≤ q
def gB (Γ : Cx) : Nat → Prop := fun q => Γ.2.1 ≤ q
def gK (Γ : Cx) (k : Nat) : Nat → Prop := fun q => Γ.2.1 + k ≤ q
theorem gA_in {Γ : Cx} {sh : Sh} {n k : Nat} {e : Sp} (he : sh k = some e) (hw : wr e := by trivial) : gA Γ sh n (Γ.2.1 + k) := Or.inl ⟨k, e, he, hw, rfl⟩
theorem gA_lo {Γ : Cx} {sh : Sh} {n q : Nat} (h : gA Γ sh n q) : gB Γ q := h.elim (fun ⟨k, _, _, _, e⟩ => by rw [e]; exact Nat.le_add_right _ _) (fun h => Nat.le_trans (Nat.le_add_right _ _) h)
theorem gA_new {Γ : Cx} {sh : Sh} {n q : Nat} (h : Γ.2.1 + n ≤ q) : gA Γ sh n q := Or.inr h
def PW (Γ : Cx) (sh : Sh) (v : Va) (w : Vl) (U : State) : Prop := Wd Γ sh v w U.heap ∧ wK Γ U ∧ Γ.2.1 ≤ U.heap.size
abbrev rmh (h : Nat) : Room := { frames := h, cells := 0, slots := 0, locals := 40 * h }
abbrev rmc (h c s : Nat) : Room := { frames := h, cells := c, slots := s, locals := 40 * h }
theorem wfs_len (b : Nat) (f : Nat → Int32) : ∀ (cs : List Nat) (j0 : Nat), (wfs b f j0 cs).length = cs.length
  | [], _ => rfl
  | _ :: cs, j0 => congrArg (· + 1) (wfs_len b f cs (j0 + 1))
theorem wfs_get (b : Nat) (f : Nat → Int32) : ∀ (cs : List Nat) (j0 j c : Nat), cs[j]? = some c → (wfs b f j0 cs)[j]? = some (wvl b (f (j0 + j)) c)
  | [], _, _, _, h => by simp at h
  | a :: cs, j0, 0, c, h => by simp at h; subst h; rfl
  | a :: cs, j0, j + 1, c, h => by
    have := wfs_get b f cs (j0 + 1) j c (by simpa using h)
    show (wfs b f (j0 + 1) cs)[j]? = _
    rw [this, Nat.add_assoc, Nat.add_comm 1 j]
theorem wfs_cong (b : Nat) (f g : Nat → Int32) : ∀ (cs : List Nat) (j0 : Nat), (∀ j, j0 ≤ j → f j = g j) → wfs b f j0 cs = wfs b g j0 cs
  | [], _, _ => rfl
  | c :: cs, j0, h => by
    show wvl b (f j0) c :: wfs b f (j0 + 1) cs = wvl b (g j0) c :: wfs b g (j0 + 1) cs
    rw [h j0 (Nat.le_refl _), wfs_cong b f g cs (j0 + 1) (fun j hj => h j (by omega))]
theorem wfs_set (b : Nat) (f : Nat → Int32) (x : Int32) (c : Nat) : ∀ (cs : List Nat) (j0 j : Nat), (wfs b f j0 cs).set j (wvl b x c) = wfs b (upd f (j0 + j) x) j0 (cs.set j c)
  | [], _, _ => rfl
  | a :: cs, j0, 0 => by
    show wvl b x c :: wfs b f (j0 + 1) cs = wvl b (upd f (j0 + 0) x j0) c :: wfs b (upd f (j0 + 0) x) (j0 + 1) cs
    rw [wfs_cong b (upd f (j0 + 0) x) f cs (j0 + 1) (fun j hj => by simp [upd]; omega)]
    simp [upd]
  | a :: cs, j0, j + 1 => by
    show wvl b (f j0) a :: (wfs b f (j0 + 1) cs).set j (wvl b x c) = wvl b (upd f (j0 + (j + 1)) x j0) a :: wfs b (upd f (j0 + (j + 1)) x) (j0 + 1) (cs.set j c)
    rw [wfs_set b f x c cs (j0 + 1) j, show j0 + 1 + j = j0 + (j + 1) by omega, show upd f (j0 + (j + 1)) x j0 = f j0 by simp [upd]]
theorem Wd.one {Γ : Cx} {sh : Sh} {v : Va} {w : Vl} {H : Heap} (hP : Wd Γ sh v w H) {k : Nat} {e : Sp} (he : sh k = some e) : va_P Γ.1 vwCl [(Γ.2.1 + k, wen Γ (v k) (w k) e)] H := by
  intro k' q hq
  have hz : k' < 1 := (List.getElem?_eq_some_iff.mp hq).1
  rw [show k' = 0 by omega] at hq
  cases hq
  exact hP k e he
theorem Wd.lt {Γ : Cx} {sh : Sh} {v : Va} {w : Vl} {H : Heap} (hP : Wd Γ sh v w H) {k : Nat} {e : Sp} (he : sh k = some e) : Γ.2.1 + k < H.size := (hP k e he).lt
theorem Wd.fresh {Γ : Cx} {sh : Sh} {v : Va} {w : Vl} {H : Heap} (hP : Wd Γ sh v w H) {n : Nat} (h : H.size = Γ.2.1 + n) : sh n = none := by
  cases he : sh n with
  | none => rfl
  | some e => have := hP.lt he; omega
/-- one cell anew, the others as they were -/
theorem Wd.set {Γ : Cx} {sh sh' : Sh} {v v' : Va} {w w' : Vl} {H H1 : Heap} (hP : Wd Γ sh v w H) (k : Nat) (h1 : ∀ e, sh' k = some e → va_at Γ.1 vwCl (Γ.2.1 + k, wen Γ (v' k) (w' k) e) H1)
    (hs : ∀ q, q ≠ k → sh' q = sh q) (hv : ∀ q, q ≠ k → v' q = v q) (hw : ∀ q, q ≠ k → w' q = w q) (ho : ∀ q e, q ≠ k → sh q = some e → H1[Γ.2.1 + q]? = H[Γ.2.1 + q]?) : Wd Γ sh' v' w' H1 := by
  intro q e he
  by_cases hq : q = k
  · subst hq
    exact h1 e he
  · rw [hv q hq, hw q hq]
    have he' : sh q = some e := (hs q hq).symm.trans he
    exact (hP q e he').kept (ho q e hq he')
theorem Wd.put {Γ : Cx} {sh : Sh} {v : Va} {w : Vl} {H H1 : Heap} (hP : Wd Γ sh v w H) {k ci j cd0 cd : Nat} {cs : List Nat} {C : String} {T : u_T} {N : Nat} {x : Value} {y : Int32} (he : sh k = some (sO ci cs)) (hcl : vwCl[ci]? = some (C, T, N)) (hc : cs[j]? = some cd0) (hv : wvl Γ.2.1 y cd = x)
    (h1 : t_OB (Γ.2.1 + k) (Γ.1.1 ci) N (Γ.1.2 ci) H1 (updV (vp_V (wfs Γ.2.1 (v k) 0 cs)) j x)) (h2 : ∀ q, q ≠ Γ.2.1 + k → H1[q]? = H[q]?) : Wd Γ (up sh k (some (sO ci (cs.set j cd)))) (up v k (upd (v k) j y)) w H1 := by
  have hlen : j < (wfs Γ.2.1 (v k) 0 cs).length := by rw [wfs_len]; exact (List.getElem?_eq_some_iff.mp hc).1
  refine hP.set k (fun e0 h0 => ?_) (fun q h => up_ne h) (fun q h => up_ne h) (fun q h => rfl) (fun q _ h _ => h2 _ (by omega))
  rw [up_eq] at h0
  cases h0
  rw [up_eq]
  show va_at Γ.1 vwCl (Γ.2.1 + k, .inr (ci, wfs Γ.2.1 (upd (v k) j y) 0 (cs.set j cd))) H1
  have e4 := wfs_set Γ.2.1 (v k) y cd cs 0 j
  rw [Nat.zero_add] at e4
  rw [← e4, hv]
  exact ⟨_, hcl, t_OB.to h1 (fun i _ => vp_updV_set hlen x i)⟩
theorem PW.blind {Γ : Cx} {sh : Sh} {v : Va} {w : Vl} {As : List Value} : FrameBlind (va_Pc As (PW Γ sh v w)) := fun a U g mk h => ⟨h.1, h.2.1, va_K.moved (u := U) (U := U.calling g mk a) (Vm.Alike.refl U.vm) h.2.2.1, h.2.2.2⟩
def FN (own : String) (idx ci N : Nat) (cs : List Nat) : Prop := ∃ (C : String) (T : u_T) (tyf : Nat → FieldType), vwCl[ci]? = some (C, T, N) ∧ (∀ w ∈ u_ws C T N, w ∈ lw_all) ∧ (∀ k, k < N → parseFieldDescriptor (T k).2.2.1 = some (tyf k)) ∧ Cond.classLink own idx C ∈ lw_all ∧ Cond.instantiable C N ∈ lw_all ∧ Cond.initialized C ∈ lw_all ∧ ∀ j, j < N → ∀ b : Nat, defaultValue (tyf j) = vp_V (wfs b (fun _ => 0) 0 cs) j
section WR
variable {p : Program} {l : Launch} {e : Env} {R : Room} {s : State} {m : MethodId} {args : Array Value} {below : List Frame} {meth : Method} {c : Code} {H H0 : Heap} {locs : List Loc} {cells slots : Nat} {Q : State → Prop}
variable {A : Nat → Prop} {cc : ByteArray} {pc : Nat} {ls : Array Slot} {rest : List Value} {Γ : Cx} {sh : Sh} {v : Va} {w : Vl} {own : String} {idx ci j k : Nat} {cs : List Nat}
theorem w_get (hx : p.tables.exec = Jvm.exec) (hb : c.code = cc) (hts : ∀ w ∈ lw_all, w.before args s = true) (hown : s.vm.findClass own = some m.cls) (hK : wK Γ s) (hP : Wd Γ sh v w H) {fin : Bool} {ty : FieldType} (hf : FL own idx ci j fin ty) (he : sh k = some (sO ci cs)) {cd : Nat} (hc : cs[j]? = some cd) {x : Value} (hv : wvl Γ.2.1 (v k j) cd = x) (hdg : decode cc pc = .ok (.getfield idx, 3))
    (kk : W p l e R s m args below meth c H locs cells slots Q (F0 m (pc + 3) ls (x :: rest))) : W p l e R s m args below meth c H locs cells slots Q (F0 m pc ls (.ref (Γ.2.1 + k) :: rest)) := by
  obtain ⟨C, T, N, tyf, hcl, hj, hin, -, -, -, -, hl⟩ := hf
  have hg : (wfs Γ.2.1 (v k) 0 cs)[j]? = some x := by rw [wfs_get _ _ _ _ _ _ hc, Nat.zero_add, hv]
  rcases hl with hl | ⟨host, hl⟩
  · exact va_get hx hb hts hin hown hK (hP.one he) 0 rfl hcl j hj (hts _ hl) (fun _ h => h) hg hdg kk
  · exact va_getN hx hb hts hin hown hK (hP.one he) 0 rfl hcl j hj (hts _ hl) (fun _ h => h) hg hdg kk
theorem w_gi (hx : p.tables.exec = Jvm.exec) (hb : c.code = cc) (hts : ∀ w ∈ lw_all, w.before args s = true) (hown : s.vm.findClass own = some m.cls) (hK : wK Γ s) (hP : Wd Γ sh v w H) {fin : Bool} {ty : FieldType} (hf : FL own idx ci j fin ty) (he : sh k = some (sO ci cs)) (hc : cs[j]? = some 0) (hdg : decode cc pc = .ok (.getfield idx, 3))
    (kk : W p l e R s m args below meth c H locs cells slots Q (F0 m (pc + 3) ls (.int (v k j) :: rest))) : W p l e R s m args below meth c H locs cells slots Q (F0 m pc ls (.ref (Γ.2.1 + k) :: rest)) := w_get hx hb hts hown hK hP hf he hc rfl hdg kk
theorem w_gr (hx : p.tables.exec = Jvm.exec) (hb : c.code = cc) (hts : ∀ w ∈ lw_all, w.before args s = true) (hown : s.vm.findClass own = some m.cls) (hK : wK Γ s) (hP : Wd Γ sh v w H) {fin : Bool} {ty : FieldType} (hf : FL own idx ci j fin ty) (he : sh k = some (sO ci cs)) {r : Nat} (hc : cs[j]? = some (r + 3)) (hdg : decode cc pc = .ok (.getfield idx, 3))
    (kk : W p l e R s m args below meth c H locs cells slots Q (F0 m (pc + 3) ls (.ref (Γ.2.1 + r) :: rest))) : W p l e R s m args below meth c H locs cells slots Q (F0 m pc ls (.ref (Γ.2.1 + k) :: rest)) := w_get hx hb hts hown hK hP hf he hc rfl hdg kk
theorem w_gd (hx : p.tables.exec = Jvm.exec) (hb : c.code = cc) (hts : ∀ w ∈ lw_all, w.before args s = true) (hown : s.vm.findClass own = some m.cls) (hK : wK Γ s) (hP : Wd Γ sh v w H) {fin : Bool} {ty : FieldType} (hf : FL own idx ci j fin ty) (he : sh k = some (sO ci cs)) (hc : cs[j]? = some 1) (hdg : decode cc pc = .ok (.getfield idx, 3))
    (kk : W p l e R s m args below meth c H locs cells slots Q (F0 m (pc + 3) ls (.ref (Γ.2.1 + (v k j).toNatClampNeg) :: rest))) : W p l e R s m args below meth c H locs cells slots Q (F0 m pc ls (.ref (Γ.2.1 + k) :: rest)) := w_get hx hb hts hown hK hP hf he hc rfl hdg kk
theorem w_put (hx : p.tables.exec = Jvm.exec) (hb : c.code = cc) (hts : ∀ w ∈ lw_all, w.before args s = true) (hown : s.vm.findClass own = some m.cls) (hK : wK Γ s) (hP : Wd Γ sh v w H) (hS : va_S A H0 H locs) (hA : A (Γ.2.1 + k)) {ty : FieldType} (hf : FL own idx ci j false ty) (he : sh k = some (sO ci cs)) {cd0 cd : Nat} (hc : cs[j]? = some cd0) {x : Value} {y : Int32} (hv : wvl Γ.2.1 y cd = x) (hn : narrow ty x = x) (hfit : fits ty x = true) (hdg : decode cc pc = .ok (.putfield idx, 3))
    (kk : ∀ (H1 : Heap) (locs1 : List Loc), H1.size = H.size → Wd Γ (up sh k (some (sO ci (cs.set j cd)))) (up v k (upd (v k) j y)) w H1 → va_S A H0 H1 locs1 → W p l e R s m args below meth c H1 locs1 cells slots Q (F0 m (pc + 3) ls rest)) : W p l e R s m args below meth c H locs cells slots Q (F0 m pc ls (x :: .ref (Γ.2.1 + k) :: rest)) := by
  obtain ⟨C, T, N, tyf, hcl, hj, hin, hty, hnm, hfi, htj, hl⟩ := hf
  have hap := va_apart (own := own) (cl := vwCl) (D := Γ.1) hts hin tyf hty hnm hK hcl
  obtain ⟨r, h1, cell, q1, q2, q3, q4⟩ := hP k _ he
  have hr : r = (C, T, N) := Option.some.inj (h1.symm.trans hcl)
  subst hr
  obtain ⟨hSl, hfc, kC, hkC, hkind⟩ := hK.1 ci _ hcl
  obtain ⟨cf, kf, fi, f, hi, hsl⟩ := hSl j hj
  have hlay := hts _ (hin _ (u_in_lay hj))
  have hst := (u_facts hfc hkC (u_lays hts hin hj) hi).1
  have hlen : j < (wfs Γ.2.1 (v k) 0 cs).length := by rw [wfs_len]; exact (List.getElem?_eq_some_iff.mp hc).1
  have hd : parseFieldDescriptor (T j).2.2.1 = some ty := by rw [← htj]; exact hty j hj
  have K : ∀ H' : Heap, H'[Γ.2.1 + k]? = some (cell.setSlot f.slot x) → H'.size = H.size → (∀ q, q ≠ Γ.2.1 + k → H'[q]? = H[q]?) → W p l e R s m args below meth c H' (locs ++ [⟨Γ.2.1 + k, f.slot⟩]) cells slots Q (F0 m (pc + 3) ls rest) := by
    intro H' e1 e2 e3
    rw [hsl] at e1 ⊢
    exact kk H' _ e2 (hP.put he hcl hc hv ⟨_, e1, q2, q3, t_set q4 hap hj x⟩ e3) (hS.put e2 e3 hA)
  have hslot : f.slot < cell.slots.size := by rw [hsl]; exact k2_hasslot (q4 j hj)
  have hi' : s.fieldFound? (T j).1 (T j).2.1 (T j).2.2.1 = some (cf, kf, fi, f) := hi
  unfold u_lay at hlay
  rw [if_neg (by rw [hfi]; decide)] at hlay
  have h6 := u_store hfc hkC hkind hlay hi hd hn hfit
  rcases hl with hl | ⟨host, hl⟩
  · exact W.putK hx hb (f := f) ⟨hown, hts _ hl, ⟨_, _, _, hi'⟩, hst⟩ (by rw [q2]; exact h6) q1 q3 hslot rfl rfl hdg K
  · exact va_WputK hx hb (f := f) hown (hts _ hl) hi' hst (by rw [q2]; exact h6) q1 q3 hslot rfl rfl hdg K
theorem w_putF (hx : p.tables.exec = Jvm.exec) (hb : c.code = cc) (hts : ∀ w ∈ lw_all, w.before args s = true) (hown : s.vm.findClass own = some m.cls) (hK : wK Γ s) (hP : Wd Γ sh v w H) (hS : va_S A H0 H locs) (hA : A (Γ.2.1 + k)) {ty : FieldType} (hf : FLF own idx ci j ty) (hin2 : meth.name = "<init>") (he : sh k = some (sO ci cs)) {cd0 cd : Nat} (hc : cs[j]? = some cd0) {x : Value} {y : Int32} (hv : wvl Γ.2.1 y cd = x) (hn : narrow ty x = x) (hfit : fits ty x = true) (hdg : decode cc pc = .ok (.putfield idx, 3))
    (kk : ∀ (H1 : Heap) (locs1 : List Loc), H1.size = H.size → Wd Γ (up sh k (some (sO ci (cs.set j cd)))) (up v k (upd (v k) j y)) w H1 → va_S A H0 H1 locs1 → W p l e R s m args below meth c H1 locs1 cells slots Q (F0 m (pc + 3) ls rest)) : W p l e R s m args below meth c H locs cells slots Q (F0 m pc ls (x :: .ref (Γ.2.1 + k) :: rest)) := by
  obtain ⟨T, N, tyf, hcl, hj, hin, hty, hnm, hfi, htj, hC, hl⟩ := hf
  have hap := va_apart (own := own) (cl := vwCl) (D := Γ.1) hts hin tyf hty hnm hK hcl
  obtain ⟨r, h1, cell, q1, q2, q3, q4⟩ := hP k _ he
  have hr : r = (own, T, N) := Option.some.inj (h1.symm.trans hcl)
  subst hr
  obtain ⟨hSl, hfc, kC, hkC, hkind⟩ := hK.1 ci _ hcl
  obtain ⟨cf, kf, fi, f, hi, hsl⟩ := hSl j hj
  have hlay := hts _ (hin _ (u_in_lay hj))
  have hst := (u_facts hfc hkC (u_lays hts hin hj) hi).1
  have hlen : j < (wfs Γ.2.1 (v k) 0 cs).length := by rw [wfs_len]; exact (List.getElem?_eq_some_iff.mp hc).1
  have hd : parseFieldDescriptor (T j).2.2.1 = some ty := by rw [← htj]; exact hty j hj
  have K : ∀ H' : Heap, H'[Γ.2.1 + k]? = some (cell.setSlot f.slot x) → H'.size = H.size → (∀ q, q ≠ Γ.2.1 + k → H'[q]? = H[q]?) → W p l e R s m args below meth c H' (locs ++ [⟨Γ.2.1 + k, f.slot⟩]) cells slots Q (F0 m (pc + 3) ls rest) := by
    intro H' e1 e2 e3
    rw [hsl] at e1 ⊢
    exact kk H' _ e2 (hP.put he hcl hc hv ⟨_, e1, q2, q3, t_set q4 hap hj x⟩ e3) (hS.put e2 e3 hA)
  have hslot : f.slot < cell.slots.size := by rw [hsl]; exact k2_hasslot (q4 j hj)
  have hi' : s.fieldFound? own (T j).2.1 (T j).2.2.1 = some (cf, kf, fi, f) := by rw [← hC]; exact hi
  unfold u_lay at hlay
  rw [if_pos hfi] at hlay
  have hcf : m.cls = cf := by
    obtain ⟨_, _, c', _, _, _, -, -, hf', -, -, -, hown2, -⟩ := Cond.laysFinal_spec hlay
    have e1 : c' = cf := by have := hi.symm.trans hf'; simp at this; exact this.1.symm
    rw [hC] at hown2
    rw [← e1]; exact Option.some.inj (hown.symm.trans hown2)
  have h6 := u_fits hfc hkC hkind (Or.inr hlay) hi hd hn hfit
  exact W.putFinK hx hb hown (hts _ hl) hi' hst hcf hin2 (by rw [q2]; exact h6) q1 q3 hslot rfl rfl hdg K
theorem w_alen (hx : p.tables.exec = Jvm.exec) (hb : c.code = cc) (hK : wK Γ s) (hP : Wd Γ sh v w H) {N : Nat} (he : sh k = some (sA N)) (hdg : decode cc pc = .ok (.arraylength, 1))
    (kk : W p l e R s m args below meth c H locs cells slots Q (F0 m (pc + 1) ls (.int (nI N) :: rest))) : W p l e R s m args below meth c H locs cells slots Q (F0 m pc ls (.ref (Γ.2.1 + k) :: rest)) :=
  va_alen hx hb hK (hP.one he) 0 0 (cA := Γ.2.2.1) rfl rfl rfl hdg kk
theorem w_iald (hx : p.tables.exec = Jvm.exec) (hb : c.code = cc) (hK : wK Γ s) (hP : Wd Γ sh v w H) {N : Nat} (he : sh k = some (sA N)) {i : Int32} (hin : vp_in i N) (hdg : decode cc pc = .ok (.iaload, 1))
    (kk : W p l e R s m args below meth c H locs cells slots Q (F0 m (pc + 1) ls (.int (v k i.toNatClampNeg) :: rest))) : W p l e R s m args below meth c H locs cells slots Q (F0 m pc ls (.int i :: .ref (Γ.2.1 + k) :: rest)) :=
  va_iald hx hb hK (hP.one he) 0 0 (cA := Γ.2.2.1) rfl rfl hin hdg kk
theorem w_getQ (hx : p.tables.exec = Jvm.exec) (hb : c.code = cc) (hts : ∀ w ∈ lw_all, w.before args s = true) (hown : s.vm.findClass own = some m.cls) (hK : wK Γ s) (hP : Wd Γ sh v w H) {fin : Bool} {ty : FieldType} (hf : FL own idx ci j fin ty) (he : sh k = some (sQ ci cs)) {cd : Nat} (hc : cs[j]? = some cd) {x : Value} (hv : wvl Γ.2.1 (v k j) cd = x) (hdg : decode cc pc = .ok (.getfield idx, 3))
    (kk : W p l e R s m args below meth c H locs cells slots Q (F0 m (pc + 3) ls (x :: rest))) : W p l e R s m args below meth c H locs cells slots Q (F0 m pc ls (.ref (Γ.2.1 + k) :: rest)) := by
  obtain ⟨C, T, N, tyf, hcl, hj, hin, -, -, -, -, hl⟩ := hf
  have hg : (wfs Γ.2.1 (v k) 0 cs)[j]? = some x := by rw [wfs_get _ _ _ _ _ _ hc, Nat.zero_add, hv]
  rcases hl with hl | ⟨host, hl⟩
  · exact va_get hx hb hts hin hown hK (hP.one he) 0 rfl hcl j hj (hts _ hl) (fun _ h => h) hg hdg kk
  · exact va_getN hx hb hts hin hown hK (hP.one he) 0 rfl hcl j hj (hts _ hl) (fun _ h => h) hg hdg kk
theorem w_alenX (hx : p.tables.exec = Jvm.exec) (hb : c.code = cc) (hK : wK Γ s) (hP : Wd Γ sh v w H) {t N : Nat} (ht : t < 2) (he : sh k = some (sX t N)) (hdg : decode cc pc = .ok (.arraylength, 1))
    (kk : W p l e R s m args below meth c H locs cells slots Q (F0 m (pc + 1) ls (.int (nI N) :: rest))) : W p l e R s m args below meth c H locs cells slots Q (F0 m pc ls (.ref (Γ.2.1 + k) :: rest)) := by
  rcases (show t = 0 ∨ t = 1 by omega) with rfl | rfl
  · exact va_alen hx hb hK (hP.one he) 0 0 (cA := Γ.2.2.1) rfl rfl rfl hdg kk
  · exact va_alen hx hb hK (hP.one he) 0 2 (cA := Γ.2.2.2.1 1) rfl rfl rfl hdg kk
theorem w_ialdX (hx : p.tables.exec = Jvm.exec) (hb : c.code = cc) (hK : wK Γ s) (hP : Wd Γ sh v w H) {N : Nat} (he : sh k = some (sX 0 N)) {i : Int32} (hin : vp_in i N) (hdg : decode cc pc = .ok (.iaload, 1))
    (kk : W p l e R s m args below meth c H locs cells slots Q (F0 m (pc + 1) ls (.int (v k i.toNatClampNeg) :: rest))) : W p l e R s m args below meth c H locs cells slots Q (F0 m pc ls (.int i :: .ref (Γ.2.1 + k) :: rest)) :=
  va_iald hx hb hK (hP.one he) 0 0 (cA := Γ.2.2.1) rfl rfl hin hdg kk
theorem w_baldX (hx : p.tables.exec = Jvm.exec) (hb : c.code = cc) (hK : wK Γ s) (hP : Wd Γ sh v w H) {N : Nat} (he : sh k = some (sX 1 N)) {i : Int32} (hin : vp_in i N) (hdg : decode cc pc = .ok (.baload, 1))
    (kk : W p l e R s m args below meth c H locs cells slots Q (F0 m (pc + 1) ls (.int (v k i.toNatClampNeg) :: rest))) : W p l e R s m args below meth c H locs cells slots Q (F0 m pc ls (.int i :: .ref (Γ.2.1 + k) :: rest)) :=
  va_bald hx hb hK (hP.one he) 0 2 (cA := Γ.2.2.2.1 1) rfl rfl hin hdg kk
theorem w_alenR (hx : p.tables.exec = Jvm.exec) (hb : c.code = cc) (hK : wK Γ s) (hP : Wd Γ sh v w H) {N : Nat} {f : Nat → Option Nat} (he : sh k = some (sR N f)) (hdg : decode cc pc = .ok (.arraylength, 1))
    (kk : W p l e R s m args below meth c H locs cells slots Q (F0 m (pc + 1) ls (.int (nI N) :: rest))) : W p l e R s m args below meth c H locs cells slots Q (F0 m pc ls (.ref (Γ.2.1 + k) :: rest)) :=
  va_alen hx hb hK (hP.one he) 0 4 (cA := Γ.2.2.2.1 3) rfl rfl rfl hdg kk
theorem w_alenB (hx : p.tables.exec = Jvm.exec) (hb : c.code = cc) (hK : wK Γ s) (hP : Wd Γ sh v w H) {N : Nat} (he : sh k = some (sB 1 N)) (hdg : decode cc pc = .ok (.arraylength, 1))
    (kk : W p l e R s m args below meth c H locs cells slots Q (F0 m (pc + 1) ls (.int (nI N) :: rest))) : W p l e R s m args below meth c H locs cells slots Q (F0 m pc ls (.ref (Γ.2.1 + k) :: rest)) :=
  va_alen hx hb hK (hP.one he) 0 2 (cA := Γ.2.2.2.1 1) rfl rfl rfl hdg kk
theorem w_alenZ (hx : p.tables.exec = Jvm.exec) (hb : c.code = cc) (hK : wK Γ s) (hP : Wd Γ sh v w H) {N : Nat} (he : sh k = some (sB 2 N)) (hdg : decode cc pc = .ok (.arraylength, 1))
    (kk : W p l e R s m args below meth c H locs cells slots Q (F0 m (pc + 1) ls (.int (nI N) :: rest))) : W p l e R s m args below meth c H locs cells slots Q (F0 m pc ls (.ref (Γ.2.1 + k) :: rest)) :=
  va_alen hx hb hK (hP.one he) 0 3 (cA := Γ.2.2.2.1 2) rfl rfl rfl hdg kk
theorem w_aald (hx : p.tables.exec = Jvm.exec) (hb : c.code = cc) (hK : wK Γ s) (hP : Wd Γ sh v w H) {N r : Nat} {f : Nat → Option Nat} (he : sh k = some (sR N f)) {i : Int32} (hin : vp_in i N) (hr : f i.toNatClampNeg = some r) (hdg : decode cc pc = .ok (.aaload, 1))
    (kk : W p l e R s m args below meth c H locs cells slots Q (F0 m (pc + 1) ls (.ref (Γ.2.1 + r) :: rest))) : W p l e R s m args below meth c H locs cells slots Q (F0 m pc ls (.int i :: .ref (Γ.2.1 + k) :: rest)) := by
  have hlt : i.toNatClampNeg < N := Nat.not_le.mp fun q => hin (Or.inr q)
  have hc := hP k _ he
  refine W.aald (v := .ref (Γ.2.1 + r)) (ty := .array .int) hx hb hc ((hK.2 4 _ rfl).1 N (fun j => va_rf ((f j).map (Γ.2.1 + ·)))) rfl (fun q => by cases q) (by show ¬ (i < 0 ∨ (arrV _ _ _).slots.size ≤ _); rw [arrV_size]; exact hin) (by show (arrV _ _ _).slots[_]? = _; rw [arrV_read _ _ hlt]; show some (va_rf ((f i.toNatClampNeg).map _)) = _; rw [hr]; rfl) rfl rfl hdg kk
theorem w_bald (hx : p.tables.exec = Jvm.exec) (hb : c.code = cc) (hK : wK Γ s) (hP : Wd Γ sh v w H) {N : Nat} (he : sh k = some (sB 1 N)) {i : Int32} (hin : vp_in i N) (hdg : decode cc pc = .ok (.baload, 1))
    (kk : W p l e R s m args below meth c H locs cells slots Q (F0 m (pc + 1) ls (.int (v k i.toNatClampNeg) :: rest))) : W p l e R s m args below meth c H locs cells slots Q (F0 m pc ls (.int i :: .ref (Γ.2.1 + k) :: rest)) :=
  va_bald hx hb hK (hP.one he) 0 2 (cA := Γ.2.2.2.1 1) rfl rfl hin hdg kk
theorem w_zald (hx : p.tables.exec = Jvm.exec) (hb : c.code = cc) (hK : wK Γ s) (hP : Wd Γ sh v w H) {N : Nat} (he : sh k = some (sB 2 N)) {i : Int32} (hin : vp_in i N) (hdg : decode cc pc = .ok (.baload, 1))
    (kk : W p l e R s m args below meth c H locs cells slots Q (F0 m (pc + 1) ls (.int (v k i.toNatClampNeg) :: rest))) : W p l e R s m args below meth c H locs cells slots Q (F0 m pc ls (.int i :: .ref (Γ.2.1 + k) :: rest)) :=
  va_zald hx hb hK (hP.one he) 0 3 (cA := Γ.2.2.2.1 2) rfl rfl hin hdg kk
/-- a new object; n: how many cells there are from the base on -/
theorem w_new (hx : p.tables.exec = Jvm.exec) (hb : c.code = cc) (hts : ∀ w ∈ lw_all, w.before args s = true) (hown : s.vm.findClass own = some m.cls) (hK : wK Γ s) (hP : Wd Γ sh v w H) (hS : va_S A H0 H locs) {N : Nat} (hf : FN own idx ci N cs) (hcells : cells + 1 ≤ R.cells) (hslots : slots + N ≤ R.slots) {n : Nat} (hn : H.size = Γ.2.1 + n) (hdg : decode cc pc = .ok (.new idx, 3))
    (kk : ∀ H1 : Heap, H1.size = Γ.2.1 + (n + 1) → Wd Γ (up sh n (some (sO ci cs))) (up v n (fun _ => 0)) w H1 → va_S A H0 H1 locs → W p l e R s m args below meth c H1 locs (cells + 1) (slots + N) Q (F0 m (pc + 3) ls (.ref (Γ.2.1 + n) :: rest))) : W p l e R s m args below meth c H locs cells slots Q (F0 m pc ls rest) := by
  obtain ⟨C, T, tyf, hcl, hin, hty, hlk, hins, hini, hdf⟩ := hf
  have hKn := hK.1 ci _ hcl
  refine W.newcK hx hb hown (hts _ hlk) (hts _ hins) (hts _ hini) rfl hdg hcells hslots hKn.2.1 hn fun H1 kC hkC e1 z1 o1 => ?_
  refine kk H1 (by omega) (hP.set n (fun e0 h0 => ?_) (fun q h => up_ne h) (fun q h => up_ne h) (fun q h => rfl) (fun q e0 h h0 => ?_)) ⟨by have := hS.1; omega, fun x h1 h2 => (o1 x (by have := hS.1; omega)).trans (hS.2.1 x h1 h2), hS.2.2⟩
  · rw [up_eq] at h0
    cases h0
    rw [up_eq]
    exact ⟨_, hcl, (u_born tyf hts hin hKn hkC e1 hty).to (fun j hj => hdf j hj Γ.2.1)⟩
  · exact o1 _ (by have := hP.lt h0; omega)
theorem w_newa (hx : p.tables.exec = Jvm.exec) (hb : c.code = cc) (hts : ∀ w ∈ lw_all, w.before args s = true) (hK : wK Γ s) (hP : Wd Γ sh v w H) (hS : va_S A H0 H locs) (har : Cond.arrayClass .int ∈ lw_all) {x : Int32} {N : Nat} (hx0 : ¬ x < 0) (hN : x.toNatClampNeg = N) (hbig : N * 4 ≤ 536870912) (hcells : cells + 1 ≤ R.cells) (hslots : slots + N ≤ R.slots) {n : Nat} (hn : H.size = Γ.2.1 + n) (hdg : decode cc pc = .ok (.newarray .int, 2))
    (kk : ∀ H1 : Heap, H1.size = Γ.2.1 + (n + 1) → Wd Γ (up sh n (some (sA N))) (up v n (fun _ => 0)) w H1 → va_S A H0 H1 locs → W p l e R s m args below meth c H1 locs (cells + 1) (slots + N) Q (F0 m (pc + 2) ls (.ref (Γ.2.1 + n) :: rest))) : W p l e R s m args below meth c H locs cells slots Q (F0 m pc ls (.int x :: rest)) := by
  refine va_newaK (atype := .int) hx hb (hts _ har) rfl hdg rfl hx0 hN hbig hcells hslots hn fun H1 cA e1 z1 o1 _ hNm => ?_
  have hcA : cA = Γ.2.2.1 := by
    have h2 : s.vm.findClass ("[" ++ (FieldType.int).toString) = some Γ.2.2.1 := (hK.2 0 _ rfl).2
    exact Option.some.inj (hNm.symm.trans h2)
  subst hcA
  refine kk H1 (by omega) (hP.set n (fun e0 h0 => ?_) (fun q h => up_ne h) (fun q h => up_ne h) (fun q h => rfl) (fun q e0 h h0 => ?_)) ⟨by have := hS.1; omega, fun x h1 h2 => (o1 x (by have := hS.1; omega)).trans (hS.2.1 x h1 h2), hS.2.2⟩
  · rw [up_eq] at h0
    cases h0
    rw [up_eq]
    exact e1
  · exact o1 _ (by have := hP.lt h0; omega)
end WR
