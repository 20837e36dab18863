/-! ARRAYS OF ARRAYS are made, and written -/
theorem multi_cold {index c : Nat} {vm' : Vm} {Q : Unit → Pre} {E : CtlPost} {e : Env} {d : Bool} {acts : List Action} {s : State} {f : JFrame} (hs : s.topJava?.isSome) (hg : (Jvm.resolveClass f.method.cls index).Gives e.toSetting s.vm (.ok c) vm') (hr : vm'.classReady f.method.cls index c) (hsz : vm'.classes.size ≤ s.vm.classes.size := by no_record) :
    wp (Jvm.Op.multianewarray.sem index 2) Q E e d acts (s.setTop f) ↔ wp (Jvm.Op.multianewarray.sem index 2) Q E e d acts ((s.setVm vm').setTop f) := by
  simp only [Jvm.Op.multianewarray.sem, wp_bind']
  exact W.resolveClassAt_transfer (s := s.setTop f) (State.method?_setTop f hs) hg hr
/-- an array of arrays at a, its cell; the rows' cells -/
def mk_run (B : Cell) (a : Nat) : List Nat → State → Cell → State
  | [], s, _ => s
  | i :: r, s, C => mk_run B a r ((s.pushCell B).setCell a (C.setSlot i (.ref s.heap.size))) (C.setSlot i (.ref s.heap.size))
theorem mk_one {c comp : ClassId} {k : Class} {n : Int32} {Q : Addr → Pre} {E : CtlPost} {e : Env} {d : Bool} {acts : List Action} {s : State} (hk : s.vm.classes[c]? = some k) (hkind : k.kind = .array comp .int) (hn : ¬ n < 0) (hlimit : ¬ n.toNatClampNeg > e.platform.arrayLengthLimit) (hheap : ¬ n.toNatClampNeg * componentBytes .int > e.platform.maxHeapBytes) (hcells : s.heap.size < e.platform.maxCells) (hslots : s.slotsUsed + n.toNatClampNeg ≤ e.platform.maxSlots)
    (hq : ∀ acts', Q s.heap.size d acts' (s.pushCell { cls := c, slots := Array.replicate n.toNatClampNeg (.int 0) })) : wp (Jvm.Op.multianewarray.make c [n]) Q E e d acts s := by
  unfold Jvm.Op.multianewarray.make
  simp only [hn, if_false, wp_bind', wp_pure', W.theClass, hk, Option.some.injEq, exists_eq_left', hkind]
  exact W.newArray_of hk hkind hlimit hheap hcells hslots rfl hq
theorem mk_loop {cI comp comp2 : ClassId} {kI kA : Class} {n : Int32} {a : Nat} {Q : PUnit → Pre} {E : CtlPost} {e : Env} {f : Nat → PUnit → Sem (ForInStep PUnit)} (hf : ∀ i u, f i u = (do let x ← Jvm.Op.multianewarray.make cI [n]; Jvm.writeLoc a i (.ref x); Pure.pure (ForInStep.yield PUnit.unit))) (hn : ¬ n < 0) (hkind : kI.kind = .array comp .int) (hkindA : kA.kind = .array comp2 (.array .int)) (hlimit : ¬ n.toNatClampNeg > e.platform.arrayLengthLimit) (hheap : ¬ n.toNatClampNeg * componentBytes .int > e.platform.maxHeapBytes) :
    ∀ (l : List Nat) (s : State) (C : Cell) (d : Bool) (acts : List Action), s.vm.classes[cI]? = some kI → s.vm.classes[C.cls]? = some kA → s.heap[a]? = some C → C.vm = .none → (∀ i ∈ l, i < C.slots.size) → s.heap.size + l.length ≤ e.platform.maxCells → s.slotsUsed + l.length * n.toNatClampNeg ≤ e.platform.maxSlots →
      (∀ d' acts', Q PUnit.unit d' acts' (mk_run { cls := cI, slots := Array.replicate n.toNatClampNeg (.int 0) } a l s C)) → wp (forIn l PUnit.unit f) Q E e d acts s := by
  intro l
  induction l with
  | nil =>
    intro s C d acts hk hkA hC hv hl h1 h2 hq
    simp only [List.forIn_nil, wp_pure']
    exact hq d acts
  | cons i r ih =>
    intro s C d acts hk hkA hC hv hl h1 h2 hq
    have hm : (r.length + 1) * n.toNatClampNeg = r.length * n.toNatClampNeg + n.toNatClampNeg := Nat.succ_mul _ _
    rw [List.length_cons] at h1 h2
    rw [hm] at h2
    have hlt : a < s.heap.size := (Array.getElem?_eq_some_iff.mp hC).1
    simp only [List.forIn_cons, hf, wp_bind']
    refine mk_one hk hkind hn hlimit hheap (by omega) (by omega) fun acts' => ?_
    have hC1 : (s.pushCell { cls := cI, slots := Array.replicate n.toNatClampNeg (.int 0) }).heap[a]? = some C := by
      show (s.heap.push _)[a]? = some C
      rw [Array.getElem?_push, if_neg (Nat.ne_of_lt hlt)]
      exact hC
    simp only [wp_bind', W.writeLoc, wp_pure']
    refine ⟨C, hC1, by rw [hv]; exact fun q => (by cases q), hl i List.mem_cons_self, ?_, ?_⟩
    · rw [hv]
      show State.fitsSlot (s.pushCell _) C.cls .none i _ = true
      simp [State.fitsSlot, State.slotType?, hkA, hkindA]
      rfl
    · refine ih _ (C.setSlot i (.ref s.heap.size)) _ _ hk hkA ?_ hv (fun j hj => ?_) ?_ ?_ hq
      · show ((s.heap.push _).setIfInBounds a _)[a]? = _
        rw [Array.getElem?_setIfInBounds, if_pos rfl, if_pos (by rw [Array.size_push]; omega)]
      · have := hl j (List.mem_cons_of_mem _ hj)
        simpa [Cell.setSlot] using this
      · show ((s.heap.push _).setIfInBounds a _).size + _ ≤ _
        rw [Array.size_setIfInBounds, Array.size_push]; omega
      · show s.slotsUsed + (Array.replicate n.toNatClampNeg (Value.int 0)).size + _ ≤ _
        rw [Array.size_replicate]; omega
theorem mk_top (B : Cell) (a : Nat) (f : JFrame) : ∀ (l : List Nat) (s : State) (C : Cell), mk_run B a l (s.setTop f) C = (mk_run B a l s C).setTop f
  | [], s, C => rfl
  | i :: r, s, C => by
    show mk_run B a r (((s.setTop f).pushCell B).setCell a _) _ = _
    rw [State.pushCell_setTop, State.setCell_setTop]
    exact mk_top B a f r _ _
theorem multi_ready {index cA cI comp : ClassId} {kA kI : Class} {n : Int32} {rest : List Value} {Q : Unit → Pre} {E : CtlPost} {e : Env} {d : Bool} {acts : List Action} {s : State} {f : JFrame} (hs : s.topJava?.isSome) (hr : s.vm.classReady f.method.cls index cA) (hkA : s.vm.classes[cA]? = some kA) (hkindA : kA.kind = .array cI (.array .int)) (hkI : s.vm.classes[cI]? = some kI) (hkindI : kI.kind = .array comp .int)
    (hstack : f.stack = .int n :: .int n :: rest) (hn : ¬ n < 0) (hn0 : ¬ n = 0) (hlimit : ¬ n.toNatClampNeg > e.platform.arrayLengthLimit) (hheap : ¬ n.toNatClampNeg * 4 > e.platform.maxHeapBytes) (hcells : s.heap.size + 1 + n.toNatClampNeg ≤ e.platform.maxCells) (hslots : s.slotsUsed + n.toNatClampNeg + n.toNatClampNeg * n.toNatClampNeg ≤ e.platform.maxSlots)
    (hq : ∀ d' acts', Q () d' acts' ((mk_run { cls := cI, slots := Array.replicate n.toNatClampNeg (.int 0) } s.heap.size (List.range' 0 n.toNatClampNeg) (s.pushCell { cls := cA, slots := Array.replicate n.toNatClampNeg .null, vm := .none }) { cls := cA, slots := Array.replicate n.toNatClampNeg .null, vm := .none }).setTop { f with stack := .ref s.heap.size :: rest })) : wp (Jvm.Op.multianewarray.sem index 2) Q E e d acts (s.setTop f) := by
  simp only [Jvm.Op.multianewarray.sem, wp_bind', W.resolveClassAt_ready (State.method?_setTop f hs) hr]
  simp only [Jvm.popN, wp_bind', wp_pure', Jvm.pop]
  rw [wp_pop_of (h := State.topJava?_setTop' f hs) (hs := hstack)]
  simp only [wp_pure, wp_bind', wp_pure', State.setTop_setTop]
  rw [wp_pop_of (h := State.topJava?_setTop' _ hs) (hs := rfl)]
  simp only [wp_pure, wp_bind', wp_pure', State.setTop_setTop, List.nil_append, List.cons_append, List.mapM_cons, List.mapM_nil]
  have hfind : ([n].find? (· < 0)) = none := by simp [hn]
  rw [Jvm.Op.multianewarray.make]
  simp only [wp_bind', W.ite, hn, if_false, wp_pure', W.theClass, State.vm_setTop, hkA, hkindA, Option.some.injEq, exists_eq_left']
  refine W.newArray_of hkA hkindA hlimit hheap (by show s.heap.size < _; omega) (by show s.slotsUsed + _ ≤ _; omega) rfl fun acts' => ?_
  simp only [hfind]
  rw [ite_self, wp_bind', Std.Legacy.Range.forIn_eq_forIn_range']
  have hsz : ([:n.toNatClampNeg] : Std.Legacy.Range).size = n.toNatClampNeg := by simp [Std.Legacy.Range.size]
  rw [hsz]
  show wp (forIn (List.range' 0 n.toNatClampNeg 1) PUnit.unit _) _ E e true acts' _
  refine mk_loop (fun i u => rfl) hn hkindI hkindA hlimit hheap (List.range' 0 n.toNatClampNeg 1) _ { cls := cA, slots := Array.replicate n.toNatClampNeg .null } _ _ hkI hkA (State.heap_pushCell_size _ _) rfl (fun i hi => ?_) ?_ ?_ fun d' acts2 => ?_
  · have := List.mem_range'_1.mp hi
    rw [Array.size_replicate]; omega
  · show (s.heap.push _).size + _ ≤ _
    rw [Array.size_push, List.length_range']; omega
  · show s.slotsUsed + (Array.replicate n.toNatClampNeg Value.null).size + _ ≤ _
    rw [Array.size_replicate, List.length_range']; omega
  · simp only [wp_pure', wp_bind', W.mark]
    rw [State.pushCell_setTop, mk_top]
    have ht : ∀ (l : List Nat) (s0 : State) (C : Cell), s0.topJava?.isSome → (mk_run { cls := cI, slots := Array.replicate n.toNatClampNeg (.int 0) } s.heap.size l s0 C).topJava?.isSome := fun l => by
      induction l with
      | nil => exact fun s0 C h => h
      | cons i r ih => exact fun s0 C h => ih _ _ h
    rw [State.heap_setTop, W.pushRef]
    refine ⟨_, State.topJava?_setTop' _ (ht _ _ _ hs), ?_⟩
    rw [State.setTop_setTop]
    exact hq _ _
