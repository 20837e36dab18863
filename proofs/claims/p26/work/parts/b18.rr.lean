/-! ARRAYS OF ARRAYS are made, and written -/
theorem multi_cold {index c : Nat} {vm' : Vm} {Q : Unit → Pre} {E : CtlPost} {e : Env} {d : Bool} {acts : List Action} {s : State} {f : JFrame} (hs : s.topJava?.isSome) (hg : (Jvm.resolveClass f.method.cls index).Gives e.toSetting s.vm (.ok c) vm') (hr : vm'.classReady f.method.cls index c) (hsz : vm'.classes.size ≤ s.vm.classes.size := by no_record) :
    wp (Jvm.Op.multianewarray.sem index 2) Q E e d acts (s.setTop f) ↔ wp (Jvm.Op.multianewarray.sem index 2) Q E e d acts ((s.setVm vm').setTop f) := by
  simp only [Jvm.Op.multianewarray.sem, wp_bind']
  exact W.resolveClassAt_transfer (s := s.setTop f) (State.method?_setTop f hs) hg hr
/-- an array of arrays at a, its cell; the rows' cells -/
def mk_run (B : Cell) (a : Nat) : List Nat → State → Cell → State
  | [], s, _ => s
  | i :: r, s, C => mk_run B a r ((s.pushCell B).setCell a (C.setSlot i (.ref s.heap.size))) (C.setSlot i (.ref s.heap.size))
theorem mk_one {c comp : ClassId} {k : Class} {n : Int32} {Q : Addr → Pre} {E : CtlPost} {e : Env} {d : Bool} {acts : List Action} {s : State} (hk : s.vm.classes[c]? = some k) (hkind : k.kind = .array comp .int) (hn : ¬ n < 0) (hlimit : ¬ n.toNatClampNeg > e.platform.arrayLengthLimit) (hheap : ¬ n.toNatClampNeg * componentBytes .int > e.platform.maxHeapBytes) (hcells : s.heap.size < e.platform.maxCells) (hslots : s.slotsUsed + n.toNatClampNeg ≤ e.platform.maxSlots)
    (hq : ∀ acts', Q s.heap.size d acts' (s.pushCell { cls := c, slots := Array.replicate n.toNatClampNeg (.int 0) })) : wp (Jvm.Op.multianewarray.make c [n]) Q E e d acts s := by
  unfold Jvm.Op.multianewarray.make
  simp only [hn, if_false, wp_bind', wp_pure', W.theClass, hk, Option.some.injEq, exists_eq_left', hkind]
  exact W.newArray_of hk hkind hlimit hheap hcells hslots rfl hq
theorem mk_loop {cI comp comp2 : ClassId} {kI kA : Class} {n : Int32} {a : Nat} {Q : PUnit → Pre} {E : CtlPost} {e : Env} {f : Nat → PUnit → Sem (ForInStep PUnit)} (hf : ∀ i u, f i u = (do let x ← Jvm.Op.multianewarray.make cI [n]; Jvm.writeLoc a i (.ref x); Pure.pure (ForInStep.yield PUnit.unit))) (hn : ¬ n < 0) (hkind : kI.kind = .array comp .int) (hkindA : kA.kind = .array comp2 (.array .int)) (hlimit : ¬ n.toNatClampNeg > e.platform.arrayLengthLimit) (hheap : ¬ n.toNatClampNeg * componentBytes .int > e.platform.maxHeapBytes) :
    ∀ (l : List Nat) (s : State) (C : Cell) (d : Bool) (acts : List Action), s.vm.classes[cI]? = some kI → s.vm.classes[C.cls]? = some kA → s.heap[a]? = some C → C.vm = .none → (∀ i ∈ l, i < C.slots.size) → s.heap.size + l.length ≤ e.platform.maxCells → s.slotsUsed + l.length * n.toNatClampNeg ≤ e.platform.maxSlots →
      (∀ d' acts', Q PUnit.unit d' acts' (mk_run { cls := cI, slots := Array.replicate n.toNatClampNeg (.int 0) } a l s C)) → wp (forIn l PUnit.unit f) Q E e d acts s := by
  intro l
  induction l with
  | nil =>
    intro s C d acts hk hkA hC hv hl h1 h2 hq
    simp only [List.forIn_nil, wp_pure']
    exact hq d acts
  | cons i r ih =>
    intro s C d acts hk hkA hC hv hl h1 h2 hq
    have hm : (r.length + 1) * n.toNatClampNeg = r.length * n.toNatClampNeg + n.toNatClampNeg := Nat.succ_mul _ _
    rw [List.length_cons] at h1 h2
    rw [hm] at h2
    have hlt : a < s.heap.size := (Array.getElem?_eq_some_iff.mp hC).1
    simp only [List.forIn_cons, hf, wp_bind']
    refine mk_one hk hkind hn hlimit hheap (by omega) (by omega) fun acts' => ?_
    have hC1 : (s.pushCell { cls := cI, slots := Array.replicate n.toNatClampNeg (.int 0) }).heap[a]? = some C := by
      show (s.heap.push _)[a]? = some C
      rw [Array.getElem?_push, if_neg (Nat.ne_of_lt hlt)]
      exact hC
    simp only [wp_bind', W.writeLoc, wp_pure']
    refine ⟨C, hC1, by rw [hv]; exact fun q => (by cases q), hl i List.mem_cons_self, ?_, ?_⟩
    · rw [hv]
      show State.fitsSlot (s.pushCell _) C.cls .none i _ = true
      simp [State.fitsSlot, State.slotType?, hkA, hkindA]
      rfl
    · refine ih _ (C.setSlot i (.ref s.heap.size)) _ _ hk hkA ?_ hv (fun j hj => ?_) ?_ ?_ hq
      · show ((s.heap.push _).setIfInBounds a _)[a]? = _
        rw [Array.getElem?_setIfInBounds, if_pos rfl, if_pos (by rw [Array.size_push]; omega)]
      · have := hl j (List.mem_cons_of_mem _ hj)
        simpa [Cell.setSlot] using this
      · show ((s.heap.push _).setIfInBounds a _).size + _ ≤ _
        rw [Array.size_setIfInBounds, Array.size_push]; omega
      · show s.slotsUsed + (Array.replicate n.toNatClampNeg (Value.int 0)).size + _ ≤ _
        rw [Array.size_replicate]; omega
theorem mk_top (B : Cell) (a : Nat) (f : JFrame) : ∀ (l : List Nat) (s : State) (C : Cell), mk_run B a l (s.setTop f) C = (mk_run B a l s C).setTop f
  | [], s, C => rfl
  | i :: r, s, C => by
    show mk_run B a r (((s.setTop f).pushCell B).setCell a _) _ = _
    rw [State.pushCell_setTop, State.setCell_setTop]
    exact mk_top B a f r _ _
theorem multi_ready {index cA cI comp : ClassId} {kA kI : Class} {n : Int32} {rest : List Value} {Q : Unit → Pre} {E : CtlPost} {e : Env} {d : Bool} {acts : List Action} {s : State} {f : JFrame} (hs : s.topJava?.isSome) (hr : s.vm.classReady f.method.cls index cA) (hkA : s.vm.classes[cA]? = some kA) (hkindA : kA.kind = .array cI (.array .int)) (hkI : s.vm.classes[cI]? = some kI) (hkindI : kI.kind = .array comp .int)
    (hstack : f.stack = .int n :: .int n :: rest) (hn : ¬ n < 0) (hn0 : ¬ n = 0) (hlimit : ¬ n.toNatClampNeg > e.platform.arrayLengthLimit) (hheap : ¬ n.toNatClampNeg * 4 > e.platform.maxHeapBytes) (hcells : s.heap.size + 1 + n.toNatClampNeg ≤ e.platform.maxCells) (hslots : s.slotsUsed + n.toNatClampNeg + n.toNatClampNeg * n.toNatClampNeg ≤ e.platform.maxSlots)
    (hq : ∀ d' acts', Q () d' acts' ((mk_run { cls := cI, slots := Array.replicate n.toNatClampNeg (.int 0) } s.heap.size (List.range' 0 n.toNatClampNeg) (s.pushCell { cls := cA, slots := Array.replicate n.toNatClampNeg .null, vm := .none }) { cls := cA, slots := Array.replicate n.toNatClampNeg .null, vm := .none }).setTop { f with stack := .ref s.heap.size :: rest })) : wp (Jvm.Op.multianewarray.sem index 2) Q E e d acts (s.setTop f) := by
  simp only [Jvm.Op.multianewarray.sem, wp_bind', W.resolveClassAt_ready (State.method?_setTop f hs) hr]
  simp only [Jvm.popN, wp_bind', wp_pure', Jvm.pop]
  rw [wp_pop_of (h := State.topJava?_setTop' f hs) (hs := hstack)]
  simp only [wp_pure, wp_bind', wp_pure', State.setTop_setTop]
  rw [wp_pop_of (h := State.topJava?_setTop' _ hs) (hs := rfl)]
  simp only [wp_pure, wp_bind', wp_pure', State.setTop_setTop, List.nil_append, List.cons_append, List.mapM_cons, List.mapM_nil]
  have hfind : ([n].find? (· < 0)) = none := by simp [hn]
  rw [Jvm.Op.multianewarray.make]
  simp only [wp_bind', W.ite, hn, if_false, wp_pure', W.theClass, State.vm_setTop, hkA, hkindA, Option.some.injEq, exists_eq_left']
  refine W.newArray_of hkA hkindA hlimit hheap (by show s.heap.size < _; omega) (by show s.slotsUsed + _ ≤ _; omega) rfl fun acts' => ?_
  simp only [hfind]
  rw [ite_self, wp_bind', Std.Legacy.Range.forIn_eq_forIn_range']
  have hsz : ([:n.toNatClampNeg] : Std.Legacy.Range).size = n.toNatClampNeg := by simp [Std.Legacy.Range.size]
  rw [hsz]
  show wp (forIn (List.range' 0 n.toNatClampNeg 1) PUnit.unit _) _ E e true acts' _
  refine mk_loop (fun i u => rfl) hn hkindI hkindA hlimit hheap (List.range' 0 n.toNatClampNeg 1) _ { cls := cA, slots := Array.replicate n.toNatClampNeg .null } _ _ hkI hkA (State.heap_pushCell_size _ _) rfl (fun i hi => ?_) ?_ ?_ fun d' acts2 => ?_
  · have := List.mem_range'_1.mp hi
    rw [Array.size_replicate]; omega
  · show (s.heap.push _).size + _ ≤ _
    rw [Array.size_push, List.length_range']; omega
  · show s.slotsUsed + (Array.replicate n.toNatClampNeg Value.null).size + _ ≤ _
    rw [Array.size_replicate, List.length_range']; omega
  · simp only [wp_pure', wp_bind', W.mark]
    rw [State.pushCell_setTop, mk_top]
    have ht : ∀ (l : List Nat) (s0 : State) (C : Cell), s0.topJava?.isSome → (mk_run { cls := cI, slots := Array.replicate n.toNatClampNeg (.int 0) } s.heap.size l s0 C).topJava?.isSome := fun l => by
      induction l with
      | nil => exact fun s0 C h => h
      | cons i r ih => exact fun s0 C h => ih _ _ h
    rw [State.heap_setTop, W.pushRef]
    refine ⟨_, State.topJava?_setTop' _ (ht _ _ _ hs), ?_⟩
    rw [State.setTop_setTop]
    exact hq _ _
theorem st_mk {p : Program} {l : Launch} {e : Env} {R : Room} {s : State} {m : MethodId} {args : Array Value} {below : List Frame} {meth : Method} {c : Code} {B : Cell} {a : Nat} : ∀ (L : List Nat) (T : State) (C : Cell) (locs : List Loc) (cells slots : Nat), Stand p l e R s m args below meth c T locs cells slots → T.heap[a]? = some C → Stand p l e R s m args below meth c (mk_run B a L T C) (locs ++ L.map fun i => ⟨a, i⟩) (cells + L.length) (slots + L.length * B.slots.size)
  | [], T, C, locs, cells, slots, X, hC => by simpa [mk_run] using X
  | i :: r, T, C, locs, cells, slots, X, hC => by
    have hlt : a < T.heap.size := (Array.getElem?_eq_some_iff.mp hC).1
    have hC1 : (T.pushCell B).heap[a]? = some C := by rw [State.heap_pushCell_of_lt (h := hlt)]; exact hC
    have h := (X.pushed B).stored hC1 i (.ref T.heap.size)
    have h2 := st_mk (B := B) r _ (C.setSlot i (.ref T.heap.size)) _ _ _ h (State.heap_setCell_self hC1)
    have e3 : cells + 1 + r.length = cells + (r.length + 1) := by omega
    have e4 : slots + B.slots.size + r.length * B.slots.size = slots + (r.length + 1) * B.slots.size := by rw [Nat.succ_mul]; omega
    rw [e3, e4, List.append_assoc] at h2
    exact h2
theorem mk_heap {B : Cell} {a N : Nat} {cA : ClassId} : ∀ (k i : Nat) (s : State) (f : Nat → Option Nat), s.heap[a]? = some (arrV cA N (fun j => va_rf (f j))) → i + k ≤ N →
    (mk_run B a (List.range' i k) s (arrV cA N (fun j => va_rf (f j)))).heap.size = s.heap.size + k ∧ (∀ q : Nat, q < s.heap.size → q ≠ a → (mk_run B a (List.range' i k) s (arrV cA N (fun j => va_rf (f j)))).heap[q]? = s.heap[q]?) ∧
    (mk_run B a (List.range' i k) s (arrV cA N (fun j => va_rf (f j)))).heap[a]? = some (arrV cA N (fun j => va_rf (if i ≤ j ∧ j < i + k then some (s.heap.size + (j - i)) else f j))) ∧ ∀ j, j < k → (mk_run B a (List.range' i k) s (arrV cA N (fun j => va_rf (f j)))).heap[s.heap.size + j]? = some B
  | 0, i, s, f, hC, hi => by
    refine ⟨rfl, fun q _ _ => rfl, ?_, fun j hj => absurd hj (Nat.not_lt_zero _)⟩
    have e : (fun j => va_rf (if i ≤ j ∧ j < i + 0 then some (s.heap.size + (j - i)) else f j)) = fun j => va_rf (f j) := funext fun j => by rw [if_neg (by omega)]
    rw [e]; exact hC
  | k + 1, i, s, f, hC, hi => by
    have hlt : a < s.heap.size := (Array.getElem?_eq_some_iff.mp hC).1
    have hC1 : (s.pushCell B).heap[a]? = some (arrV cA N (fun j => va_rf (f j))) := by rw [State.heap_pushCell_of_lt (h := hlt)]; exact hC
    have e0 : (arrV cA N (fun j => va_rf (f j))).setSlot i (.ref s.heap.size) = arrV cA N (fun j => va_rf (va_up f i (some s.heap.size) j)) := by
      rw [arrV_store]
      congr 1
      funext q
      by_cases hq : q = i
      · subst hq
        simp [updV, va_up, va_rf]
      · simp [updV, va_up, hq]
    have h2 := State.heap_setCell_self (x := arrV cA N (fun j => va_rf (va_up f i (some s.heap.size) j))) hC1
    have hz : ((s.pushCell B).setCell a (arrV cA N (fun j => va_rf (va_up f i (some s.heap.size) j)))).heap.size = s.heap.size + 1 := by
      show ((s.heap.push _).setIfInBounds a _).size = _
      rw [Array.size_setIfInBounds, Array.size_push]
    obtain ⟨i1, i2, i3, i4⟩ := mk_heap (B := B) k (i + 1) ((s.pushCell B).setCell a (arrV cA N (fun j => va_rf (va_up f i (some s.heap.size) j)))) (va_up f i (some s.heap.size)) h2 (by omega)
    have e1 : mk_run B a (List.range' i (k + 1)) s (arrV cA N (fun j => va_rf (f j))) = mk_run B a (List.range' (i + 1) k) ((s.pushCell B).setCell a (arrV cA N (fun j => va_rf (va_up f i (some s.heap.size) j)))) (arrV cA N (fun j => va_rf (va_up f i (some s.heap.size) j))) := by
      rw [List.range'_succ]
      show mk_run B a (List.range' (i + 1) k) ((s.pushCell B).setCell a ((arrV cA N (fun j => va_rf (f j))).setSlot i (.ref s.heap.size))) ((arrV cA N (fun j => va_rf (f j))).setSlot i (.ref s.heap.size)) = _
      rw [e0]
    rw [e1]
    rw [hz] at i1 i2 i3 i4
    refine ⟨by omega, fun q hq hqa => ?_, ?_, fun j hj => ?_⟩
    · rw [i2 q (by omega) hqa, State.heap_setCell_other (Ne.symm hqa), State.heap_pushCell_of_lt (h := hq)]
    · rw [i3]
      congr 2
      funext j
      by_cases h1 : j = i
      · subst h1
        rw [if_neg (by omega), if_pos (by omega)]
        simp [va_up]
      · by_cases h3 : i ≤ j ∧ j < i + (k + 1)
        · rw [if_pos (by omega), if_pos h3]
          congr 2
          omega
        · rw [if_neg (by omega), if_neg h3]
          simp [va_up, h1]
    · by_cases h1 : j = 0
      · subst h1
        have hq := i2 s.heap.size (by omega) (by omega)
        refine Eq.trans hq ?_
        rw [State.heap_setCell_other (show a ≠ s.heap.size by omega)]
        exact State.heap_pushCell_size _ _
      · have h3 := i4 (j - 1) (by omega)
        rw [show s.heap.size + 1 + (j - 1) = s.heap.size + j by omega] at h3
        exact h3
section RRW
variable {p : Program} {l : Launch} {e : Env} {R : Room} {s : State} {m : MethodId} {args : Array Value} {below : List Frame} {meth : Method} {c : Code} {H H0 : Heap} {locs : List Loc} {cells slots : Nat} {Q : State → Prop}
variable {cc : ByteArray} {pc nL : Nat} {ls : Array Slot} {st0 rest As Bs : List Value} {Γ : Cx} {sh sh0 : Sh} {v v0 v1 : Va} {w : Vl} {own : String} {idx ci j k n n0 nn hh mL mc ms a : Nat} {cs : List Nat} {y : MethodName} {b : ByteArray} {ret : Option FieldType} {A : Nat → Prop}
/-- rows of n numbers: a new array of new arrays -/
def rr_sh (sh : Sh) (n N : Nat) : Sh := fun q => if q = n then some (sR N (rfs N fun i => n + 1 + i)) else if n < q ∧ q ≤ n + N then some (sA N) else sh q
def rr_v (v : Va) (n N : Nat) : Va := fun q => if n ≤ q ∧ q ≤ n + N then fun _ => 0 else v q
theorem w_multi (hx : p.tables.exec = Jvm.exec) (hb : c.code = cc) (hts : ∀ w ∈ lw_all, w.before args s = true) (hown : s.vm.findClass own = some m.cls) (hK : wK Γ s) (hP : Wd Γ sh v w H) (hS : va_S A H0 H locs) (hA : ∀ q, Γ.2.1 + n ≤ q → A q) (hlk : Cond.classLink own idx "[[I" ∈ lw_all) (hov : (Cond.arrayOver (.array .int)).before args s = true) {N : Nat} (hN0 : 1 ≤ N) (hN : N ≤ 1000) (hcells : cells + (1 + N) ≤ R.cells) (hslots : slots + (N + N * N) ≤ R.slots) (hn : H.size = Γ.2.1 + n) (hdg : decode cc pc = .ok (.multianewarray idx 2, 4))
    (kk : ∀ (H1 : Heap) (locs1 : List Loc), H1.size = Γ.2.1 + (n + 1 + N) → Wd Γ (rr_sh sh n N) (rr_v v n N) w H1 → va_S A H0 H1 locs1 → W p l e R s m args below meth c H1 locs1 (cells + 1 + N) (slots + N + N * N) Q (F0 m (pc + 4) ls (.ref (Γ.2.1 + n) :: rest))) : W p l e R s m args below meth c H locs cells slots Q (F0 m pc ls (.int (nI N) :: .int (nI N) :: rest)) := by
  intro T hT X
  have eN : (nI N).toNatClampNeg = N := nI_clamp (by omega)
  obtain ⟨comp, cA, kA, hcomp, -, hkA, hkindA, hnameA⟩ := arrayOverA_spec hov
  have e1 : cA = Γ.2.2.2.1 3 := Option.some.inj (hnameA.symm.trans (hK.2 4 _ rfl).2)
  have e2 : comp = Γ.2.2.1 := Option.some.inj (hcomp.symm.trans (hK.2 0 _ rfl).2)
  subst e1
  subst e2
  obtain ⟨-, kI, hkI, cm0, hkindI⟩ := (hK.2 0 _ rfl).1 0 (fun _ => .null)
  have hpl : e.platform.magicAccessors = ({} : Platform).magicAccessors := by rw [X.admits.platform]
  obtain ⟨cc', hfcc, hcl⟩ := Cond.classLink_spec hown (hts _ hlk) e.platform hpl
  cases hnameA.symm.trans hfcc
  obtain ⟨hg₁, hwarm₁, hready₁⟩ := State.classEntry (e := e) X.warmed hcl
  generalize T.vm.noted m.cls idx (.cls (Γ.2.2.2.1 3)) = vm₁ at hg₁ hwarm₁ hready₁
  have hal : s.vm.Alike vm₁ := hwarm₁.alike
  obtain ⟨kA₁, hkA₁, heA⟩ := hal.2.2 _ _ hkA
  obtain ⟨kI₁, hkI₁, heI⟩ := hal.2.2 _ _ hkI
  have hkindA₁ : kA₁.kind = .array Γ.2.2.1 (.array .int) := by rw [heA]; exact hkindA
  have hkindI₁ : kI₁.kind = .array cm0 .int := by rw [heI]; exact hkindI
  have hlimit : ¬ (nI N).toNatClampNeg > e.platform.arrayLengthLimit := by rw [Launch.admits_arrayLengthLimit X.admits, eN]; omega
  have hheap : ¬ (nI N).toNatClampNeg * 4 > e.platform.maxHeapBytes := by rw [Launch.admits_maxHeapBytes X.admits, eN]; omega
  have eA : ({ cls := Γ.2.2.2.1 3, slots := Array.replicate (nI N).toNatClampNeg .null, vm := .none } : Cell) = arrV (Γ.2.2.2.1 3) N (fun _ => va_rf none) := by rw [eN]; exact arrV_new _ _ _
  have eB : ({ cls := Γ.2.2.1, slots := Array.replicate (nI N).toNatClampNeg (.int 0), vm := .none } : Cell) = arrV Γ.2.2.1 N (fun _ => .int 0) := by rw [eN]; exact arrV_new _ _ _
  have hz0 : (T.setVm vm₁).heap.size = Γ.2.1 + n := by rw [← hn, ← hT]; rfl
  have hzT : T.heap.size = Γ.2.1 + n := hz0
  have X₂ := (X.noted hwarm₁).pushed (arrV (Γ.2.2.2.1 3) N (fun _ => va_rf none))
  have hC : ((T.setVm vm₁).pushCell (arrV (Γ.2.2.2.1 3) N (fun _ => va_rf none))).heap[T.heap.size]? = some (arrV (Γ.2.2.2.1 3) N (fun _ => va_rf none)) := State.heap_pushCell_size _ _
  have X₃ := st_mk (B := arrV Γ.2.2.1 N (fun _ => .int 0)) (List.range' 0 N) _ _ _ _ _ X₂ hC
  obtain ⟨m1, m2, m3, m4⟩ := mk_heap (B := arrV Γ.2.2.1 N (fun _ => .int 0)) N 0 _ (fun _ => none) hC (by omega)
  have hz1 : ((T.setVm vm₁).pushCell (arrV (Γ.2.2.2.1 3) N (fun _ => va_rf none))).heap.size = Γ.2.1 + n + 1 := by
    show (T.heap.push _).size = _
    rw [Array.size_push, hzT]
  rw [hz1] at m1 m2 m3 m4
  rw [hzT] at m1 m2 m3 m4 X₃
  rw [List.length_range', arrV_size, arrV_size] at X₃
  generalize hF : mk_run (arrV Γ.2.2.1 N (fun _ => .int 0)) (Γ.2.1 + n) (List.range' 0 N) ((T.setVm vm₁).pushCell (arrV (Γ.2.2.2.1 3) N (fun _ => va_rf none))) (arrV (Γ.2.2.2.1 3) N (fun _ => va_rf none)) = F at m1 m2 m3 m4 X₃
  have mo : ∀ q : Nat, q < H.size → F.heap[q]? = H[q]? := fun q hq => by
    rw [m2 q (by omega) (by omega)]
    show (T.heap.push _)[q]? = _
    rw [hT, Array.getElem?_push, if_neg (Nat.ne_of_lt hq)]
  have hW1 : Wd Γ (rr_sh sh n N) (rr_v v n N) w F.heap := fun q e0 he => by
    unfold rr_sh at he
    unfold rr_v
    by_cases h1 : q = n
    · subst h1
      rw [if_pos rfl] at he
      cases he
      rw [if_pos (by omega)]
      show F.heap[Γ.2.1 + q]? = some (arrV (Γ.2.2.2.1 3) N fun j => va_rf ((rfs N (fun i => q + 1 + i) j).map (Γ.2.1 + ·)))
      rw [m3]
      congr 2
      funext j
      unfold rfs
      by_cases h2 : j < N
      · rw [if_pos (by omega), if_pos h2]
        show va_rf (some (Γ.2.1 + q + 1 + (j - 0))) = va_rf (some (Γ.2.1 + (q + 1 + j)))
        rw [show Γ.2.1 + q + 1 + (j - 0) = Γ.2.1 + (q + 1 + j) by omega]
      · rw [if_neg (by omega), if_neg h2]; rfl
    · rw [if_neg h1] at he
      by_cases h2 : n < q ∧ q ≤ n + N
      · rw [if_pos h2] at he
        cases he
        rw [if_pos (by omega)]
        show F.heap[Γ.2.1 + q]? = some (arrV Γ.2.2.1 N fun _ => .int 0)
        have h3 := m4 (q - n - 1) (by omega)
        rw [show Γ.2.1 + n + 1 + (q - n - 1) = Γ.2.1 + q by omega] at h3
        exact h3
      · rw [if_neg h2] at he
        have hlt := hP.lt he
        rw [if_neg (by omega)]
        exact (hP q e0 he).kept (mo _ hlt)
  have hS1 : va_S A H0 F.heap (locs ++ (List.range' 0 N).map fun i => ⟨Γ.2.1 + n, i⟩) := ⟨Nat.le_trans hS.1 (by omega), fun q h1 h2 => (mo q (Nat.lt_of_lt_of_le h1 hS.1)).trans (hS.2.1 q h1 h2), fun q hq => by
    rcases List.mem_append.mp hq with h | h
    · exact hS.2.2 q h
    · obtain ⟨z, -, hz⟩ := List.mem_map.mp h
      rw [← hz]
      exact hA _ (Nat.le_refl _)⟩
  obtain ⟨t, a1, b1⟩ := kk F.heap _ (by omega) hW1 hS1 F rfl X₃
  refine ⟨t, ?_, b1⟩
  obtain ⟨hr1, hr2⟩ := X.roomAbove (cells := cells) (slots := slots) hcells hslots
  have hr2' : T.slotsUsed + N + N * N ≤ e.platform.maxSlots := by rw [Nat.add_assoc]; exact hr2
  jvm_step X.here [hx, hb, hdg, multi_cold (e := e) (s := T) (f := F0 m pc ls (.int (nI N) :: .int (nI N) :: rest)) X.here.top hg₁ hready₁]
  refine multi_ready (s := T.setVm vm₁) (f := F0 m pc ls (.int (nI N) :: .int (nI N) :: rest)) (n := nI N) (rest := rest) X.here.top hready₁ hkA₁ hkindA₁ hkI₁ hkindI₁ rfl (nI_pos (by omega)) (ni_ne0 hN0 (by omega)) hlimit hheap (by rw [eN]; show T.heap.size + 1 + N ≤ _; omega) (by rw [eN]; exact hr2') fun d' acts' acts => ?_
  rw [eA, eB, eN, hz0, hF]
  have htop := X₃.here.top
  simp [jvm, htop]
  exact a1
/-- a new array of arrays, nothing in it -/
theorem w_newR (hx : p.tables.exec = Jvm.exec) (hb : c.code = cc) (hts : ∀ w ∈ lw_all, w.before args s = true) (hown : s.vm.findClass own = some m.cls) (hK : wK Γ s) (hP : Wd Γ sh v w H) (hS : va_S A H0 H locs) (hlk : Cond.classLink own idx "[I" ∈ lw_all) (hov : (Cond.arrayOver (.array .int)).before args s = true) {x : Int32} {N : Nat} (hx0 : ¬ x < 0) (hN : x.toNatClampNeg = N) (hbig : N * 4 ≤ 536870912) (hcells : cells + 1 ≤ R.cells) (hslots : slots + N ≤ R.slots) (hn : H.size = Γ.2.1 + n) (hdg : decode cc pc = .ok (.anewarray idx, 3))
    (kk : ∀ H1 : Heap, H1.size = Γ.2.1 + (n + 1) → Wd Γ (up sh n (some (sR N (fun _ => none)))) (up v n (fun _ => 0)) w H1 → va_S A H0 H1 locs → W p l e R s m args below meth c H1 locs (cells + 1) (slots + N) Q (F0 m (pc + 3) ls (.ref (Γ.2.1 + n) :: rest))) : W p l e R s m args below meth c H locs cells slots Q (F0 m pc ls (.int x :: rest)) := by
  subst hN
  refine W.anewA (t := .int) hx hb hown (hts _ hlk) hov rfl hdg rfl hx0 hbig hcells hslots fun cA kA comp f1 f2 f3 f4 => ?_
  have e1 : cA = Γ.2.2.2.1 3 := Option.some.inj (f1.symm.trans (hK.2 4 _ rfl).2)
  subst e1
  have eC : ({ cls := Γ.2.2.2.1 3, slots := Array.replicate x.toNatClampNeg .null, vm := .none } : Cell) = arrV (Γ.2.2.2.1 3) x.toNatClampNeg (fun _ => .null) := arrV_new _ _ _
  rw [eC, hn]
  have o1 : ∀ q : Nat, q < H.size → (H.push (arrV (Γ.2.2.2.1 3) x.toNatClampNeg (fun _ => .null)))[q]? = H[q]? := fun q hq => by rw [Array.getElem?_push, if_neg (Nat.ne_of_lt hq)]
  refine kk _ (by rw [Array.size_push]; omega) (hP.set n (fun e0 h0 => ?_) (fun q h => up_ne h) (fun q h => up_ne h) (fun q h => rfl) (fun q e0 h h0 => o1 _ (by have := hP.lt h0; omega))) ⟨by have := hS.1; rw [Array.size_push]; omega, fun q h1 h2 => (o1 q (by have := hS.1; omega)).trans (hS.2.1 q h1 h2), hS.2.2⟩
  rw [up_eq] at h0
  cases h0
  show (H.push _)[Γ.2.1 + n]? = _
  rw [← hn, Array.getElem?_push_size]
  rfl
/-- an array of ints is put into an array of arrays -/
theorem w_aast (hx : p.tables.exec = Jvm.exec) (hb : c.code = cc) (hK : wK Γ s) (hP : Wd Γ sh v w H) (hS : va_S A H0 H locs) (hA : A (Γ.2.1 + k)) (hov : (Cond.arrayOver (.array .int)).before args s = true) {N M r : Nat} {f : Nat → Option Nat} (he : sh k = some (sR N f)) (hr : sh r = some (sA M)) {i : Int32} (hin : vp_in i N) (hn : H.size = Γ.2.1 + n) (hdg : decode cc pc = .ok (.aastore, 1))
    (kk : ∀ (H1 : Heap) (locs1 : List Loc), H1.size = Γ.2.1 + n → Wd Γ (up sh k (some (sR N (va_up f i.toNatClampNeg (some r))))) v w H1 → va_S A H0 H1 locs1 → W p l e R s m args below meth c H1 locs1 cells slots Q (F0 m (pc + 1) ls rest)) : W p l e R s m args below meth c H locs cells slots Q (F0 m pc ls (.ref (Γ.2.1 + r) :: .int i :: .ref (Γ.2.1 + k) :: rest)) := by
  obtain ⟨comp, cA, kA, hcomp, -, hkA, hkindA, hnameA⟩ := arrayOverA_spec hov
  have e1 : cA = Γ.2.2.2.1 3 := Option.some.inj (hnameA.symm.trans (hK.2 4 _ rfl).2)
  have e2 : comp = Γ.2.2.1 := Option.some.inj (hcomp.symm.trans (hK.2 0 _ rfl).2)
  subst e1
  subst e2
  obtain ⟨-, kI, hkI, cm0, hkindI⟩ := (hK.2 0 _ rfl).1 0 (fun _ => .null)
  have hlt : i.toNatClampNeg < N := Nat.not_le.mp fun q => hin (Or.inr q)
  have hcell : H[Γ.2.1 + k]? = some (vp_cell (Γ.2.2.2.1 3) (N, .inr (.inr (.inr (.inr fun j => (f j).map (Γ.2.1 + ·)))))) := hP k _ he
  have hcv : H[Γ.2.1 + r]? = some (vp_cell Γ.2.2.1 (M, .inl (v r))) := hP r _ hr
  refine W.aast hx hb hcell (fun _ q => by cases q) (fun q => by cases q) hkA hkindA rfl hkI ⟨fun q => hin (Or.inl q), by show _ < (arrV _ _ _).slots.size; rw [arrV_size]; exact hlt⟩ hcv (fun _ q => by cases q) hkI (va_asg _ _) rfl rfl hdg fun H1 h1 z oq => ?_
  refine kk H1 _ (z.trans hn) (hP.set k (fun e0 h0 => ?_) (fun q h => up_ne h) (fun q _ => rfl) (fun q _ => rfl) (fun q _ hq _ => oq _ (fun z => hq (Nat.add_left_cancel z)))) (hS.put z oq hA)
  rw [up_eq] at h0
  cases h0
  show H1[Γ.2.1 + k]? = some (vp_cell _ _)
  rw [h1]
  show some ((vp_cell (Γ.2.2.2.1 3) (N, .inr (.inr (.inr (.inr fun j => (f j).map (Γ.2.1 + ·)))))).setSlot _ _) = some (vp_cell (Γ.2.2.2.1 3) (N, .inr (.inr (.inr (.inr fun j => (va_up f i.toNatClampNeg (some r) j).map (Γ.2.1 + ·))))))
  rw [vp_cell_q, vp_cell_q, arrV_store]
  congr 2
  funext q
  by_cases hq : q = i.toNatClampNeg
  · subst hq
    simp [updV, va_up, va_rf]
  · simp [updV, va_up, hq]
end RRW
