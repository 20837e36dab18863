/-! WHAT THE START GIVES: classes, array classes, strings, statics, what exceptions want -/
theorem tq1 {w : Cond} {i : Nat} (h : tables_1_1[i]? = some w) : w ∈ lw_tbl := by unfold lw_tbl tables_1; simp [List.mem_of_getElem? h]
theorem tq2 {w : Cond} {i : Nat} (h : tables_1_2[i]? = some w) : w ∈ lw_tbl := by unfold lw_tbl tables_1; simp [List.mem_of_getElem? h]
theorem tq3 {w : Cond} {i : Nat} (h : tables_1_3[i]? = some w) : w ∈ lw_tbl := by unfold lw_tbl tables_1; simp [List.mem_of_getElem? h]
theorem tq4 {w : Cond} {i : Nat} (h : tables_1_4[i]? = some w) : w ∈ lw_tbl := by unfold lw_tbl tables_1; simp [List.mem_of_getElem? h]
theorem tq5 {w : Cond} {i : Nat} (h : tables_1_5[i]? = some w) : w ∈ lw_tbl := by unfold lw_tbl tables_1; simp [List.mem_of_getElem? h]
theorem tq6 {w : Cond} {i : Nat} (h : tables_1_6[i]? = some w) : w ∈ lw_tbl := by unfold lw_tbl tables_1; simp [List.mem_of_getElem? h]
theorem tq7 {w : Cond} {i : Nat} (h : tables_1_7[i]? = some w) : w ∈ lw_tbl := by unfold lw_tbl tables_1; simp [List.mem_of_getElem? h]
theorem tq8 {w : Cond} {i : Nat} (h : tables_1_8[i]? = some w) : w ∈ lw_tbl := by unfold lw_tbl tables_1; simp [List.mem_of_getElem? h]
theorem tq9 {w : Cond} {i : Nat} (h : tables_1_9[i]? = some w) : w ∈ lw_tbl := by unfold lw_tbl tables_1; simp [List.mem_of_getElem? h]
abbrev NW : List Cond := flatC (Jvm.Cond.and given_1 narrow_1)
/-- what the start says of a string: its class, its coder, its bytes -/
def strC (own : String) (k : Nat) (bs : List Int32) : List Cond := [.exactly (.string own k) "java/lang/String", .eq (.field (.string own k) "java/lang/String" "coder" "B") (.int 0), .arrayOf (.field (.string own k) "java/lang/String" "value" "[B") .byte, .eq (.length (.field (.string own k) "java/lang/String" "value" "[B")) (.int (Int32.ofNat bs.length))] ++ (List.range bs.length).map (fun j => .eq (.elem (.field (.string own k) "java/lang/String" "value" "[B") (.int (Int32.ofNat j))) (.int (bs.getD j 0)))
section PR
variable {b : Nat} {s : State} {Γ : Cx}
theorem nw_seg {L : List Cond} (i n : Nat) (e : (NW.drop i).take n = L) (h : ∀ c ∈ NW, c.before #[Value.ref b] s = true) : ∀ c ∈ L, c.before #[Value.ref b] s = true := fun c hc => by
  rw [← e] at hc
  exact h c (List.mem_of_mem_drop (List.mem_of_mem_take hc))
theorem nw_1 {c : Cond} (i : Nat) (e : NW[i]? = some c) (h : ∀ c ∈ NW, c.before #[Value.ref b] s = true) : c.before #[Value.ref b] s = true := h c (List.mem_of_getElem? e)
theorem str_ok {own : String} {k : Nat} {bs : List Int32} {A : Nat → Prop} (hl : bs.length ≤ 4000) (h : ∀ c ∈ strC own k bs, c.before #[Value.ref b] s = true) (hA : ∀ a : Nat, a < s.heap.size → ¬ A a) :
    ∃ ad av, (Term.string own k).eval #[Value.ref b] s none [] s = some (.ref ad) ∧ va_O "java/lang/String" ad A s s.heap ∧ va_OF "java/lang/String" "coder" "B" (.int 0) ad A s s.heap ∧ va_OF "java/lang/String" "value" "[B" (.ref av) ad A s s.heap ∧ va_T .byte av bs.length (fun j => .int (bs.getD j 0)) A s s.heap := by
  have h0 := h _ (List.mem_append_left _ (List.mem_cons_self))
  have h1 := h _ (List.mem_append_left _ (List.mem_cons_of_mem _ List.mem_cons_self))
  have h2 := h _ (List.mem_append_left _ (List.mem_cons_of_mem _ (List.mem_cons_of_mem _ List.mem_cons_self)))
  have h3 := h _ (List.mem_append_left _ (List.mem_cons_of_mem _ (List.mem_cons_of_mem _ (List.mem_cons_of_mem _ List.mem_cons_self))))
  have h4 : ∀ j : Nat, j < bs.length → (Cond.eq (.elem (.field (.string own k) "java/lang/String" "value" "[B") (.int (Int32.ofNat j))) (.int (bs.getD j 0))).before #[Value.ref b] s = true := fun j hj => h _ (List.mem_append_right _ (List.mem_map.mpr ⟨j, List.mem_range.mpr hj, rfl⟩))
  obtain ⟨a, c, cA, kA, q1, q2, q3, q4, q5, q6, -⟩ := Cond.exactly_spec (args := #[Value.ref b]) (first := s) (o := none) (s := s) (idx := []) (t := .string own k) (cls := "java/lang/String") h0
  obtain ⟨t, ht, hT⟩ := va_Tof (f := fun j => .int (bs.getD j 0)) (A := A) (N := bs.length) (by omega) h2 (va_eqt h3) (fun j hj => va_eqt (h4 j hj)) hA
  exact ⟨a, t, q1, ⟨cA, q3, q5, by rw [q6]; exact q2, hA a (Array.getElem?_eq_some_iff.mp q3).1⟩, vk_OFof q1 (va_eqt h1) hA, vk_OFof q1 ht hA, hT⟩
theorem str_sl {own : String} {k : Nat} {bs : List Int32} (hc : cx0 Γ = s) (hl : bs.length ≤ 4000) (hb : ∀ x ∈ bs, x.toInt8.toInt32 = x) (h : ∀ c ∈ strC own k bs, c.before #[Value.ref b] s = true) (hA : ∀ a : Nat, a < s.heap.size → ¬ gA Γ a) : ∃ ad av, (Term.string own k).eval #[Value.ref b] s none [] s = some (.ref ad) ∧ sl_ok Γ ad av bs := by
  obtain ⟨ad, av, h1, h2, h3, h4, h5⟩ := str_ok hl h hA
  refine ⟨ad, av, h1, ?_⟩
  unfold sl_ok sb_ok
  rw [hc]
  exact ⟨h2, h3, h4, h5, hl, hb⟩
theorem str_R {own tx : String} {k : Nat} (hc : cx0 Γ = s) (h0 : (Cond.exactly (.string own k) "java/lang/String").before #[Value.ref b] s = true) (h1 : (Cond.stringRef own k tx).before #[Value.ref b] s = true) : ∃ sa : Nat, vk_R own k tx sa (cx0 Γ) := by
  obtain ⟨a, c, cA, kA, q1, -⟩ := Cond.exactly_spec (args := #[Value.ref b]) (first := s) (o := none) (s := s) (idx := []) (t := .string own k) (cls := "java/lang/String") h0
  rw [hc]
  exact ⟨a, vk_R.of h1 q1⟩
theorem arr_ok {ty : FieldType} (h : (Cond.arrayClass ty).before #[Value.ref b] s = true) : ∃ cA : ClassId, ArrOfT s cA ty ∧ s.vm.findClass ("[" ++ ty.toString) = some cA := by
  obtain ⟨cA, kA, comp, h1, h2, h3⟩ := Cond.arrayClass_spec h
  exact ⟨cA, fun n z => ⟨fun k h => (by cases h), kA, h2, comp, h3⟩, h1⟩
theorem sc_litX10_84 : (NW.drop 94).take 159 = strC "SpiceQuay$Tokens" 84 litX10_84 := by decide +kernel
theorem sc_litX10_77 : (NW.drop 253).take 17 = strC "SpiceQuay$Tokens" 77 litX10_77 := by decide +kernel
theorem sc_litX14_74 : (NW.drop 833).take 17 = strC "SpiceQuayModel" 74 litX14_74 := by decide +kernel
def kW : List Nat := [465, 466, 467, 468, 469, 470, 472, 473, 474, 476, 478, 479, 481, 482, 484, 485, 487, 488, 489, 490, 491, 492, 493, 494, 495, 496, 497, 499, 501, 503, 505, 506]
def oW : List Nat := [851, 860, 868, 877, 884, 892, 904, 913, 923, 930, 936, 945, 952, 961, 967, 975, 981, 988, 995, 1003, 1010, 1018, 1028, 1036, 1043, 1052, 1060, 1068, 1075, 1082, 1088, 1095]
theorem sc_W : ∀ j : Fin 32, (NW.drop (oW.getD j.val 0)).take ((litW.getD j.val []).length + 4) = strC "SpiceQuayModel" (kW.getD j.val 0) (litW.getD j.val []) := by decide +kernel
theorem sc_E : ∀ j : Fin 32, NW[14 + j.val]? = some (.eq (.elem (.static "SpiceQuayModel" "WORDS" "[Ljava/lang/String;") (.int (Int32.ofNat j.val))) (.string "SpiceQuayModel" (kW.getD j.val 0))) := by decide +kernel
theorem bw_W : ∀ j : Fin 32, (litW.getD j.val []).length ≤ 4000 ∧ ∀ x ∈ litW.getD j.val [], x.toInt8.toInt32 = x := by decide +kernel
theorem bw_1 : litX10_84.length ≤ 4000 ∧ (∀ x ∈ litX10_84, x.toInt8.toInt32 = x) ∧ litX10_77.length ≤ 4000 ∧ ∀ x ∈ litX10_77, x.toInt8.toInt32 = x := by decide +kernel
theorem ef_ok (hc : cx0 Γ = s) (hts : ∀ w ∈ lw_tbl, w.before #[Value.ref b] s = true) (h : ∀ c ∈ NW, c.before #[Value.ref b] s = true) (hA : ∀ a : Nat, a < s.heap.size → ¬ gA Γ a) : EF Γ := by
  have z1 : va_Z "java/lang/String" "COMPACT_STRINGS" "Z" (.int 1) (gA Γ) s s.heap := va_Zof (hts _ (tq3 (i := 5) (by decide +kernel))) (hts _ (tq1 (i := 20) (by decide +kernel))) (va_eqt (nw_1 4 (by decide +kernel) h)) hA
  have z2 : va_Zq "jdk/internal/util/Preconditions" "SIOOBE_FORMATTER" "Ljava/util/function/BiFunction;" (gA Γ) s s.heap := va_Zqof (hts _ (tq3 (i := 21) (by decide +kernel))) (hts _ (tq1 (i := 22) (by decide +kernel))) (nw_1 5 (by decide +kernel) h) hA
  have s_litX10_84 : LT Γ RX10 84 txX10_84 litX10_84 := by
    obtain ⟨ad, av, h1, h2⟩ := str_sl hc bw_1.1 bw_1.2.1 (nw_seg 94 159 sc_litX10_84 h) hA
    refine ⟨ad, av, ?_, h2⟩
    rw [hc]
    exact vk_R.of (hts _ (tq2 (i := 235) (by decide +kernel))) h1
  have s_litX10_77 : LT Γ RX10 77 txX10_77 litX10_77 := by
    obtain ⟨ad, av, h1, h2⟩ := str_sl hc bw_1.2.2.1 bw_1.2.2.2 (nw_seg 253 17 sc_litX10_77 h) hA
    refine ⟨ad, av, ?_, h2⟩
    rw [hc]
    exact vk_R.of (hts _ (tq3 (i := 72) (by decide +kernel))) h1
  have s_litX14_74 : LT Γ RX14 74 txX14_74 litX14_74 := by
    obtain ⟨ad, av, h1, h2⟩ := str_sl hc bw_1.2.2.1 bw_1.2.2.2 (nw_seg 833 17 sc_litX14_74 h) hA
    refine ⟨ad, av, ?_, h2⟩
    rw [hc]
    exact vk_R.of (hts _ (tq7 (i := 142) (by decide +kernel))) h1
  have hW : LW Γ := by
    have hs : ∀ j : Nat, ∃ q : Nat × Nat, j < 32 → (Term.string "SpiceQuayModel" (kW.getD j 0)).eval #[Value.ref b] s none [] s = some (.ref q.1) ∧ sl_ok Γ q.1 q.2 (litW.getD j []) := fun j => by
      by_cases hj : j < 32
      · obtain ⟨ad, av, h1, h2⟩ := str_sl hc (bw_W ⟨j, hj⟩).1 (bw_W ⟨j, hj⟩).2 (nw_seg _ _ (sc_W ⟨j, hj⟩) h) hA
        exact ⟨(ad, av), fun _ => ⟨h1, h2⟩⟩
      · exact ⟨(0, 0), fun q => absurd q hj⟩
    obtain ⟨ad, had⟩ := Classical.axiomOfChoice hs
    obtain ⟨t, ht, hT⟩ := va_Tof (tm := .static "SpiceQuayModel" "WORDS" "[Ljava/lang/String;") (ty := .object "java/lang/String") (f := fun j => .ref (ad j).1) (A := gA Γ) (N := 32) (by decide) (nw_1 12 (by decide +kernel) h) (va_eqt (nw_1 13 (by decide +kernel) h)) (fun j hj => Cond.eq_refs (nw_1 (14 + j) (sc_E ⟨j, hj⟩) h) (had j hj).1 rfl) hA
    refine ⟨t, fun j => (ad j).1, fun j => (ad j).2, ?_, ?_, fun j hj => (had j hj).2⟩
    · rw [hc]
      exact va_Zof (hts _ (tq7 (i := 139) (by decide +kernel))) (hts _ (tq1 (i := 12) (by decide +kernel))) ht hA
    · rw [hc]; exact hT
  unfold EF
  rw [hc]
  exact ⟨z1, z2, s_litX10_84, s_litX10_77, s_litX14_74, hW⟩
theorem ex_strs (hc : cx0 Γ = s) (hts : ∀ w ∈ lw_tbl, w.before #[Value.ref b] s = true) (h : ∀ c ∈ NW, c.before #[Value.ref b] s = true) : ∀ q ∈ exS, ∃ sa : Nat, vk_R RX11 q.1 q.2 sa (cx0 Γ) := by
  unfold exS
  exact List.forall_mem_cons.mpr ⟨str_R hc (nw_1 270 (by decide +kernel) h) (hts _ (tq5 (i := 44) (by decide +kernel))), List.forall_mem_cons.mpr ⟨str_R hc (nw_1 314 (by decide +kernel) h) (hts _ (tq5 (i := 92) (by decide +kernel))), List.forall_mem_cons.mpr ⟨str_R hc (nw_1 363 (by decide +kernel) h) (hts _ (tq5 (i := 116) (by decide +kernel))), List.forall_mem_cons.mpr ⟨str_R hc (nw_1 386 (by decide +kernel) h) (hts _ (tq5 (i := 134) (by decide +kernel))), List.forall_mem_cons.mpr ⟨str_R hc (nw_1 424 (by decide +kernel) h) (hts _ (tq5 (i := 146) (by decide +kernel))), List.forall_mem_cons.mpr ⟨str_R hc (nw_1 467 (by decide +kernel) h) (hts _ (tq5 (i := 154) (by decide +kernel))), List.forall_mem_cons.mpr ⟨str_R hc (nw_1 507 (by decide +kernel) h) (hts _ (tq5 (i := 162) (by decide +kernel))), List.forall_mem_cons.mpr ⟨str_R hc (nw_1 547 (by decide +kernel) h) (hts _ (tq5 (i := 170) (by decide +kernel))), List.forall_mem_cons.mpr ⟨str_R hc (nw_1 567 (by decide +kernel) h) (hts _ (tq5 (i := 212) (by decide +kernel))), List.forall_mem_cons.mpr ⟨str_R hc (nw_1 589 (by decide +kernel) h) (hts _ (tq5 (i := 220) (by decide +kernel))), List.forall_mem_cons.mpr ⟨str_R hc (nw_1 637 (by decide +kernel) h) (hts _ (tq5 (i := 222) (by decide +kernel))), List.forall_mem_cons.mpr ⟨str_R hc (nw_1 676 (by decide +kernel) h) (hts _ (tq6 (i := 3) (by decide +kernel))), List.forall_mem_cons.mpr ⟨str_R hc (nw_1 697 (by decide +kernel) h) (hts _ (tq6 (i := 12) (by decide +kernel))), List.forall_mem_cons.mpr ⟨str_R hc (nw_1 712 (by decide +kernel) h) (hts _ (tq6 (i := 21) (by decide +kernel))), List.forall_mem_cons.mpr ⟨str_R hc (nw_1 736 (by decide +kernel) h) (hts _ (tq6 (i := 70) (by decide +kernel))), List.forall_mem_cons.mpr ⟨str_R hc (nw_1 764 (by decide +kernel) h) (hts _ (tq6 (i := 88) (by decide +kernel))), List.forall_mem_cons.mpr ⟨str_R hc (nw_1 810 (by decide +kernel) h) (hts _ (tq6 (i := 97) (by decide +kernel))), fun _ hq => absurd hq List.not_mem_nil⟩⟩⟩⟩⟩⟩⟩⟩⟩⟩⟩⟩⟩⟩⟩⟩⟩
theorem ex_ok (hc : cx0 Γ = s) (hts : ∀ w ∈ lw_tbl, w.before #[Value.ref b] s = true) (h : ∀ c ∈ NW, c.before #[Value.ref b] s = true) (hA : ∀ a : Nat, a < s.heap.size → ¬ gA Γ a) : EX Γ := by
  have e := ex_strs hc hts h
  have z1 : vx_Zq Bundle.tN "UNASSIGNED_STACK" Bundle.steD (gA Γ) s s.heap := vx_Zqof (hts _ (tq5 (i := 30) (by decide +kernel))) (hts _ (tq1 (i := 15) (by decide +kernel))) (nw_1 9 (by decide +kernel) h) hA
  have z2 : vx_Zq Bundle.tN "SUPPRESSED_SENTINEL" Bundle.listD (gA Γ) s s.heap := vx_Zqof (hts _ (tq5 (i := 32) (by decide +kernel))) (hts _ (tq1 (i := 15) (by decide +kernel))) (nw_1 10 (by decide +kernel) h) hA
  have hb : ∀ w ∈ exB, w.before #[] s = true := by
    unfold exB
    refine List.forall_mem_cons.mpr ⟨?_, List.forall_mem_cons.mpr ⟨?_, List.forall_mem_cons.mpr ⟨?_, List.forall_mem_cons.mpr ⟨?_, List.forall_mem_cons.mpr ⟨?_, List.forall_mem_cons.mpr ⟨?_, fun _ hq => absurd hq List.not_mem_nil⟩⟩⟩⟩⟩⟩
    · exact hts (.declares ⟨"java/lang/Exception", "<init>", "(Ljava/lang/String;)V"⟩) (tq5 (i := 9) (by decide +kernel))
    · exact hts (.declares ⟨"java/lang/Throwable", "<init>", "(Ljava/lang/String;)V"⟩) (tq5 (i := 11) (by decide +kernel))
    · exact hts (.declares ⟨"java/lang/RuntimeException", "<init>", "(Ljava/lang/String;)V"⟩) (tq5 (i := 7) (by decide +kernel))
    · exact hts (.castable "java/lang/IllegalStateException" "java/lang/IllegalStateException") (tq5 (i := 5) (by decide +kernel))
    · exact hts (.castable "java/lang/IllegalArgumentException" "java/lang/IllegalArgumentException") (tq5 (i := 85) (by decide +kernel))
    · exact hts (.castable "java/lang/IndexOutOfBoundsException" "java/lang/IndexOutOfBoundsException") (tq5 (i := 109) (by decide +kernel))
  unfold EX
  rw [hc] at e ⊢
  exact ⟨z1, z2, e, hb⟩
theorem nc_ok (hc : cx0 Γ = s) (h : ∀ c ∈ NW, c.before #[Value.ref b] s = true) : NCs Γ := by
  intro x y hx hy hxy
  rw [hc]
  have hxc : x = 0 ∨ x = 1 ∨ x = 2 := by omega
  have hyc : y = 0 ∨ y = 1 ∨ y = 2 := by omega
  rcases hxc with rfl | rfl | rfl <;> rcases hyc with rfl | rfl | rfl
  · exact absurd rfl hxy
  · exact va_Nc.of (nw_1 76 (by decide +kernel) h)
  · exact va_Nc.of (nw_1 92 (by decide +kernel) h)
  · exact va_Nc.of (nw_1 60 (by decide +kernel) h)
  · exact absurd rfl hxy
  · exact va_Nc.of (nw_1 93 (by decide +kernel) h)
  · exact va_Nc.of (nw_1 61 (by decide +kernel) h)
  · exact va_Nc.of (nw_1 77 (by decide +kernel) h)
  · exact absurd rfl hxy
theorem start_ok (hts : ∀ w ∈ lw_tbl, w.before #[Value.ref b] s = true) (hgv : (Jvm.Cond.and given_1 narrow_1).before #[Value.ref b] s = true) : ∃ Γ : Cx, Γ.2.1 = s.heap.size ∧ cx0 Γ = s ∧ wK Γ s ∧ EN Γ s ∧ EF Γ ∧ EX Γ ∧ NCs Γ := by
  have hn := flat_of_before _ hgv
  have hal : ∀ w ∈ lw_all, w.before #[Value.ref b] s = true := fun w hw => hts w (List.mem_filter.mp hw).1
  obtain ⟨c0, i0, k0⟩ := u_known (C := RX0) (T := TX0) (N := 3) (n := 3) hal in_X0 (hts _ (tq2 (i := 134) (by decide +kernel)))
  obtain ⟨c1, i1, k1⟩ := u_known (C := RX1) (T := TX1) (N := 2) (n := 2) hal in_X1 (hts _ (tq2 (i := 49) (by decide +kernel)))
  obtain ⟨c2, i2, k2⟩ := u_known (C := RX3) (T := TX3) (N := 3) (n := 3) hal in_X3 (hts _ (tq1 (i := 232) (by decide +kernel)))
  obtain ⟨c3, i3, k3⟩ := u_known (C := RX4) (T := TX4) (N := 20) (n := 20) hal in_X4 (hts _ (tq1 (i := 88) (by decide +kernel)))
  obtain ⟨c4, i4, k4⟩ := u_known (C := RX5) (T := TX5) (N := 9) (n := 9) hal in_X5 (hts _ (tq1 (i := 82) (by decide +kernel)))
  obtain ⟨c5, i5, k5⟩ := u_known (C := RX6) (T := TX6) (N := 4) (n := 4) hal in_X6 (hts _ (tq2 (i := 140) (by decide +kernel)))
  obtain ⟨c6, i6, k6⟩ := u_known (C := RX7) (T := TX7) (N := 1) (n := 1) hal in_X7 (hts _ (tq1 (i := 38) (by decide +kernel)))
  obtain ⟨c7, i7, k7⟩ := u_known (C := RX8) (T := TX8) (N := 15) (n := 15) hal in_X8 (hts _ (tq2 (i := 41) (by decide +kernel)))
  obtain ⟨c8, i8, k8⟩ := u_known (C := RX9) (T := TX9) (N := 4) (n := 4) hal in_X9 (hts _ (tq1 (i := 96) (by decide +kernel)))
  obtain ⟨c9, i9, k9⟩ := u_known (C := RX10) (T := TX10) (N := 7) (n := 7) hal in_X10 (hts _ (tq1 (i := 49) (by decide +kernel)))
  obtain ⟨c10, i10, k10⟩ := u_known (C := RX11) (T := TX11) (N := 10) (n := 10) hal in_X11 (hts _ (tq1 (i := 30) (by decide +kernel)))
  obtain ⟨c11, i11, k11⟩ := u_known (C := RX12) (T := TX12) (N := 26) (n := 26) hal in_X12 (hts _ (tq6 (i := 120) (by decide +kernel)))
  obtain ⟨c12, i12, k12⟩ := u_known (C := RX13) (T := TX13) (N := 14) (n := 14) hal in_X13 (hts _ (tq6 (i := 226) (by decide +kernel)))
  obtain ⟨c13, i13, k13⟩ := u_known (C := RX14) (T := TX14) (N := 12) (n := 12) hal in_X14 (hts _ (tq6 (i := 114) (by decide +kernel)))
  obtain ⟨cI, a1, a2⟩ := arr_ok (ty := .int) (hts _ (tq1 (i := 47) (by decide +kernel)))
  obtain ⟨cJ, a3, a4⟩ := arr_ok (ty := .long) (hts _ (tq9 (i := 22) (by decide +kernel)))
  have hcl : ∀ (k : Nat) (q : vw_C), vwCl[k]? = some q → u_Kn s q.1 q.2.1 q.2.2 ((fun k => if k = 0 then c0 else if k = 1 then c1 else if k = 2 then c2 else if k = 3 then c3 else if k = 4 then c4 else if k = 5 then c5 else if k = 6 then c6 else if k = 7 then c7 else if k = 8 then c8 else if k = 9 then c9 else if k = 10 then c10 else if k = 11 then c11 else if k = 12 then c12 else c13 : Nat → ClassId) k) ((fun k => if k = 0 then i0 else if k = 1 then i1 else if k = 2 then i2 else if k = 3 then i3 else if k = 4 then i4 else if k = 5 then i5 else if k = 6 then i6 else if k = 7 then i7 else if k = 8 then i8 else if k = 9 then i9 else if k = 10 then i10 else if k = 11 then i11 else if k = 12 then i12 else i13 : Nat → Nat → Nat) k) := by
    intro k q hq
    match k, hq with
    | 0, hq => cases hq; exact k0
    | 1, hq => cases hq; exact k1
    | 2, hq => cases hq; exact k2
    | 3, hq => cases hq; exact k3
    | 4, hq => cases hq; exact k4
    | 5, hq => cases hq; exact k5
    | 6, hq => cases hq; exact k6
    | 7, hq => cases hq; exact k7
    | 8, hq => cases hq; exact k8
    | 9, hq => cases hq; exact k9
    | 10, hq => cases hq; exact k10
    | 11, hq => cases hq; exact k11
    | 12, hq => cases hq; exact k12
    | 13, hq => cases hq; exact k13
    | k + 14, hq => simp [vwCl] at hq
  refine ⟨(((fun k => if k = 0 then c0 else if k = 1 then c1 else if k = 2 then c2 else if k = 3 then c3 else if k = 4 then c4 else if k = 5 then c5 else if k = 6 then c6 else if k = 7 then c7 else if k = 8 then c8 else if k = 9 then c9 else if k = 10 then c10 else if k = 11 then c11 else if k = 12 then c12 else c13 : Nat → ClassId), (fun k => if k = 0 then i0 else if k = 1 then i1 else if k = 2 then i2 else if k = 3 then i3 else if k = 4 then i4 else if k = 5 then i5 else if k = 6 then i6 else if k = 7 then i7 else if k = 8 then i8 else if k = 9 then i9 else if k = 10 then i10 else if k = 11 then i11 else if k = 12 then i12 else i13 : Nat → Nat → Nat)), s.heap.size, cI, cJ, s), rfl, rfl, ⟨hcl, fun k q hq => ?_⟩, ⟨State.WarmedH.refl s, Nat.le_refl _, fun _ _ => rfl⟩, ?_, ?_, ?_⟩
  · match k, hq with
    | 0, hq => cases hq; exact ⟨a1, a2⟩
    | 1, hq => cases hq; exact ⟨a3, a4⟩
    | k + 2, hq => simp [wKt] at hq
  · exact ef_ok rfl hts hn (fun a ha q => absurd (show s.heap.size ≤ a from q) (Nat.not_le.mpr ha))
  · exact ex_ok rfl hts hn (fun a ha q => absurd (show s.heap.size ≤ a from q) (Nat.not_le.mpr ha))
  · exact nc_ok rfl hn
end PR
