/-! WHAT THE START GIVES: classes, array classes, strings, statics, what exceptions want -/
theorem tq1 {w : Cond} {i : Nat} (h : tables_1_1[i]? = some w) : w ∈ lw_tbl := by unfold lw_tbl tables_1; simp [List.mem_of_getElem? h]
theorem tq2 {w : Cond} {i : Nat} (h : tables_1_2[i]? = some w) : w ∈ lw_tbl := by unfold lw_tbl tables_1; simp [List.mem_of_getElem? h]
theorem tq3 {w : Cond} {i : Nat} (h : tables_1_3[i]? = some w) : w ∈ lw_tbl := by unfold lw_tbl tables_1; simp [List.mem_of_getElem? h]
theorem tq4 {w : Cond} {i : Nat} (h : tables_1_4[i]? = some w) : w ∈ lw_tbl := by unfold lw_tbl tables_1; simp [List.mem_of_getElem? h]
theorem tq5 {w : Cond} {i : Nat} (h : tables_1_5[i]? = some w) : w ∈ lw_tbl := by unfold lw_tbl tables_1; simp [List.mem_of_getElem? h]
theorem tq6 {w : Cond} {i : Nat} (h : tables_1_6[i]? = some w) : w ∈ lw_tbl := by unfold lw_tbl tables_1; simp [List.mem_of_getElem? h]
theorem tq7 {w : Cond} {i : Nat} (h : tables_1_7[i]? = some w) : w ∈ lw_tbl := by unfold lw_tbl tables_1; simp [List.mem_of_getElem? h]
abbrev NWc : List Cond := flatC (Jvm.Cond.and given_1 narrow_1)
/-- what the start says of a string: its class, its coder, its bytes -/
def strC (own : String) (k : Nat) (bs : List Int32) : List Cond := [.exactly (.string own k) "java/lang/String", .eq (.field (.string own k) "java/lang/String" "coder" "B") (.int 0), .arrayOf (.field (.string own k) "java/lang/String" "value" "[B") .byte, .eq (.length (.field (.string own k) "java/lang/String" "value" "[B")) (.int (Int32.ofNat bs.length))] ++ (List.range bs.length).map (fun j => .eq (.elem (.field (.string own k) "java/lang/String" "value" "[B") (.int (Int32.ofNat j))) (.int (bs.getD j 0)))
section PR
variable {b : Nat} {s : State} {Γ : Cx} {sh : Sh}
theorem nw_seg {L : List Cond} (i n : Nat) (e : (NWc.drop i).take n = L) (h : ∀ c ∈ NWc, c.before #[Value.ref b] s = true) : ∀ c ∈ L, c.before #[Value.ref b] s = true := fun c hc => by
  rw [← e] at hc
  exact h c (List.mem_of_mem_drop (List.mem_of_mem_take hc))
theorem nw_1 {c : Cond} (i : Nat) (e : NWc[i]? = some c) (h : ∀ c ∈ NWc, c.before #[Value.ref b] s = true) : c.before #[Value.ref b] s = true := h c (List.mem_of_getElem? e)
theorem str_ok {own : String} {k : Nat} {bs : List Int32} {A : Nat → Prop} (hl : bs.length ≤ 4000) (h : ∀ c ∈ strC own k bs, c.before #[Value.ref b] s = true) (hA : ∀ a : Nat, a < s.heap.size → ¬ A a) :
    ∃ ad av, (Term.string own k).eval #[Value.ref b] s none [] s = some (.ref ad) ∧ va_O "java/lang/String" ad A s s.heap ∧ va_OF "java/lang/String" "coder" "B" (.int 0) ad A s s.heap ∧ va_OF "java/lang/String" "value" "[B" (.ref av) ad A s s.heap ∧ va_T .byte av bs.length (fun j => .int (bs.getD j 0)) A s s.heap := by
  have h0 := h _ (List.mem_append_left _ (List.mem_cons_self))
  have h1 := h _ (List.mem_append_left _ (List.mem_cons_of_mem _ List.mem_cons_self))
  have h2 := h _ (List.mem_append_left _ (List.mem_cons_of_mem _ (List.mem_cons_of_mem _ List.mem_cons_self)))
  have h3 := h _ (List.mem_append_left _ (List.mem_cons_of_mem _ (List.mem_cons_of_mem _ (List.mem_cons_of_mem _ List.mem_cons_self))))
  have h4 : ∀ j : Nat, j < bs.length → (Cond.eq (.elem (.field (.string own k) "java/lang/String" "value" "[B") (.int (Int32.ofNat j))) (.int (bs.getD j 0))).before #[Value.ref b] s = true := fun j hj => h _ (List.mem_append_right _ (List.mem_map.mpr ⟨j, List.mem_range.mpr hj, rfl⟩))
  obtain ⟨a, c, cA, kA, q1, q2, q3, q4, q5, q6, -⟩ := Cond.exactly_spec (args := #[Value.ref b]) (first := s) (o := none) (s := s) (idx := []) (t := .string own k) (cls := "java/lang/String") h0
  obtain ⟨t, ht, hT⟩ := va_Tof (f := fun j => .int (bs.getD j 0)) (A := A) (N := bs.length) (by omega) h2 (va_eqt h3) (fun j hj => va_eqt (h4 j hj)) hA
  exact ⟨a, t, q1, ⟨cA, q3, q5, by rw [q6]; exact q2, hA a (Array.getElem?_eq_some_iff.mp q3).1⟩, vk_OFof q1 (va_eqt h1) hA, vk_OFof q1 ht hA, hT⟩
theorem str_sl {own : String} {k : Nat} {bs : List Int32} (hc : cx0 Γ = s) (hl : bs.length ≤ 4000) (hb : ∀ x ∈ bs, x.toInt8.toInt32 = x) (h : ∀ c ∈ strC own k bs, c.before #[Value.ref b] s = true) (hA : ∀ a : Nat, a < s.heap.size → ¬ gF Γ sh a) : ∃ ad av, (Term.string own k).eval #[Value.ref b] s none [] s = some (.ref ad) ∧ sl_ok Γ sh ad av bs := by
  obtain ⟨ad, av, h1, h2, h3, h4, h5⟩ := str_ok hl h hA
  refine ⟨ad, av, h1, ?_⟩
  unfold sl_ok sb_ok
  rw [hc]
  exact ⟨h2, h3, h4, h5, hl, hb⟩
theorem lt_ok {own tx : String} {k : Nat} {bs : List Int32} (hc : cx0 Γ = s) (hl : bs.length ≤ 4000 ∧ ∀ x ∈ bs, x.toInt8.toInt32 = x) (h : ∀ c ∈ strC own k bs, c.before #[Value.ref b] s = true) (hA : ∀ a : Nat, a < s.heap.size → ¬ gF Γ sh a) (h1 : (Cond.stringRef own k tx).before #[Value.ref b] s = true) : LT Γ sh own k tx bs := by
  obtain ⟨ad, av, h2, h3⟩ := str_sl hc hl.1 hl.2 h hA
  refine ⟨ad, av, ?_, h3⟩
  rw [hc]
  exact vk_R.of h1 h2
theorem str_R {own tx : String} {k : Nat} (hc : cx0 Γ = s) (h0 : (Cond.exactly (.string own k) "java/lang/String").before #[Value.ref b] s = true) (h1 : (Cond.stringRef own k tx).before #[Value.ref b] s = true) : ∃ sa : Nat, vk_R own k tx sa (cx0 Γ) := by
  obtain ⟨a, c, cA, kA, q1, -⟩ := Cond.exactly_spec (args := #[Value.ref b]) (first := s) (o := none) (s := s) (idx := []) (t := .string own k) (cls := "java/lang/String") h0
  rw [hc]
  exact ⟨a, vk_R.of h1 q1⟩
theorem arr_ok {ty : FieldType} (h : (Cond.arrayClass ty).before #[Value.ref b] s = true) : ∃ cA : ClassId, ArrOfT s cA ty ∧ s.vm.findClass ("[" ++ ty.toString) = some cA := by
  obtain ⟨cA, kA, comp, h1, h2, h3⟩ := Cond.arrayClass_spec h
  exact ⟨cA, fun n z => ⟨fun k h => (by cases h), kA, h2, comp, h3⟩, h1⟩
theorem sc_litX10_84 : (NWc.drop 651).take 159 = strC "SpiceQuay$Tokens" 84 litX10_84 := by decide +kernel
theorem sc_litX10_77 : (NWc.drop 810).take 17 = strC "SpiceQuay$Tokens" 77 litX10_77 := by decide +kernel
theorem bw_1 : (litX10_84.length ≤ 4000 ∧ ∀ x ∈ litX10_84, x.toInt8.toInt32 = x) ∧ litX10_77.length ≤ 4000 ∧ ∀ x ∈ litX10_77, x.toInt8.toInt32 = x := by decide +kernel
theorem sc_L35 : (NWc.drop 1013).take 6 = strC "SpiceQuayLaw" 35 [32, 109] := by decide +kernel
theorem sc_L48 : (NWc.drop 1019).take 6 = strC "SpiceQuayLaw" 48 [32, 108] := by decide +kernel
theorem sc_L50 : (NWc.drop 1025).take 5 = strC "SpiceQuayLaw" 50 [32] := by decide +kernel
theorem sc_L52 : (NWc.drop 1030).take 10 = strC "SpiceQuayLaw" 52 [32, 99, 111, 105, 110, 115] := by decide +kernel
theorem sc_L54 : (NWc.drop 1040).take 7 = strC "SpiceQuayLaw" 54 [47, 50, 43] := by decide +kernel
theorem sc_L56 : (NWc.drop 1047).take 11 = strC "SpiceQuayLaw" 56 [32, 119, 101, 105, 103, 104, 116] := by decide +kernel
theorem sc_L58 : (NWc.drop 1058).take 11 = strC "SpiceQuayLaw" 58 [47, 49, 48, 48, 32, 45, 32] := by decide +kernel
theorem sc_L60 : (NWc.drop 1069).take 13 = strC "SpiceQuayLaw" 60 [32, 109, 105, 110, 40, 111, 119, 101, 115] := by decide +kernel
theorem sc_L62 : (NWc.drop 1082).take 5 = strC "SpiceQuayLaw" 62 [44] := by decide +kernel
theorem sc_L64 : (NWc.drop 1087).take 7 = strC "SpiceQuayLaw" 64 [41, 42, 50] := by decide +kernel
theorem sc_L66 : (NWc.drop 1094).take 13 = strC "SpiceQuayLaw" 66 [32, 109, 97, 120, 40, 99, 104, 111, 112] := by decide +kernel
theorem sc_L68 : (NWc.drop 1107).take 9 = strC "SpiceQuayLaw" 68 [41, 45, 100, 97, 121] := by decide +kernel
theorem sc_L70 : (NWc.drop 1116).take 5 = strC "SpiceQuayLaw" 70 [45] := by decide +kernel
theorem sc_L72 : (NWc.drop 1121).take 10 = strC "SpiceQuayLaw" 72 [43, 100, 101, 98, 116, 115] := by decide +kernel
theorem sc_L74 : (NWc.drop 1131).take 8 = strC "SpiceQuayLaw" 74 [32, 97, 103, 101] := by decide +kernel
theorem sc_L76 : (NWc.drop 1139).take 5 = strC "SpiceQuayLaw" 76 [42] := by decide +kernel
theorem sc_L78 : (NWc.drop 1144).take 18 = strC "SpiceQuayLaw" 78 [32, 57, 57, 57, 57, 57, 57, 42, 57, 57, 57, 57, 57, 57] := by decide +kernel
theorem sc_L80 : (NWc.drop 1171).take 4 = strC "SpiceQuayLaw" 80 [] := by decide +kernel
theorem sc_L82 : (NWc.drop 1175).take 14 = strC "SpiceQuayLaw" 82 [32, 119, 104, 101, 110, 32, 100, 97, 121, 62] := by decide +kernel
theorem sc_L84 : (NWc.drop 1189).take 6 = strC "SpiceQuayLaw" 84 [47, 52] := by decide +kernel
theorem sc_L86 : (NWc.drop 1195).take 14 = strC "SpiceQuayLaw" 86 [32, 119, 104, 101, 110, 32, 111, 119, 110, 115] := by decide +kernel
theorem sc_L88 : (NWc.drop 1209).take 18 = strC "SpiceQuayLaw" 88 [32, 119, 104, 101, 110, 32, 110, 111, 116, 32, 111, 119, 110, 115] := by decide +kernel
theorem sc_L90 : (NWc.drop 1227).take 15 = strC "SpiceQuayLaw" 90 [32, 111, 114, 32, 99, 111, 105, 110, 115, 32, 109] := by decide +kernel
theorem sc_L92 : (NWc.drop 1242).take 7 = strC "SpiceQuayLaw" 92 [32, 62, 32] := by decide +kernel
theorem sc_L94 : (NWc.drop 1249).take 17 = strC "SpiceQuayLaw" 94 [32, 119, 104, 101, 110, 32, 91, 119, 101, 105, 103, 104, 116] := by decide +kernel
theorem sc_L96 : (NWc.drop 1266).take 5 = strC "SpiceQuayLaw" 96 [62] := by decide +kernel
theorem sc_L98 : (NWc.drop 1271).take 17 = strC "SpiceQuayLaw" 98 [42, 49, 48, 32, 97, 110, 100, 32, 100, 97, 109, 112, 60] := by decide +kernel
theorem sc_L100 : (NWc.drop 1288).take 15 = strC "SpiceQuayLaw" 100 [47, 51, 93, 111, 114, 32, 97, 103, 101, 32, 108] := by decide +kernel
theorem sc_L102 : (NWc.drop 1303).take 6 = strC "SpiceQuayLaw" 102 [60, 61] := by decide +kernel
theorem sc_L104 : (NWc.drop 1309).take 6 = strC "SpiceQuayLaw" 104 [47, 57] := by decide +kernel
theorem sc_L106 : (NWc.drop 1315).take 15 = strC "SpiceQuayLaw" 106 [32, 119, 104, 101, 110, 32, 100, 101, 98, 116, 115] := by decide +kernel
theorem sc_L108 : (NWc.drop 1330).take 21 = strC "SpiceQuayLaw" 108 [32, 119, 104, 101, 110, 32, 100, 97, 121, 47, 50, 42, 50, 61, 100, 97, 121] := by decide +kernel
theorem sc_L110 : (NWc.drop 1351).take 18 = strC "SpiceQuayLaw" 110 [32, 119, 104, 101, 110, 32, 110, 111, 116, 32, 99, 104, 111, 112] := by decide +kernel
theorem sc_L112 : (NWc.drop 1369).take 6 = strC "SpiceQuayLaw" 112 [42, 57] := by decide +kernel
theorem sc_L131 : (NWc.drop 827).take 11 = strC "SpiceQuayLaw" 131 [115, 112, 105, 99, 101, 32, 115] := by decide +kernel
theorem sc_L133 : (NWc.drop 838).take 10 = strC "SpiceQuayLaw" 133 [32, 108, 111, 115, 115, 32] := by decide +kernel
theorem sc_L135 : (NWc.drop 848).take 5 = strC "SpiceQuayLaw" 135 [59] := by decide +kernel
theorem sc_L142 : (NWc.drop 853).take 11 = strC "SpiceQuayLaw" 142 [103, 117, 105, 108, 100, 32, 103] := by decide +kernel
theorem sc_L144 : (NWc.drop 864).take 9 = strC "SpiceQuayLaw" 144 [32, 102, 101, 101, 32] := by decide +kernel
theorem sc_L146 : (NWc.drop 873).take 10 = strC "SpiceQuayLaw" 146 [32, 98, 105, 97, 115, 32] := by decide +kernel
theorem sc_L155 : (NWc.drop 883).take 14 = strC "SpiceQuayLaw" 155 [109, 101, 114, 99, 104, 97, 110, 116, 32, 109] := by decide +kernel
theorem sc_L157 : (NWc.drop 897).take 11 = strC "SpiceQuayLaw" 157 [32, 99, 111, 105, 110, 115, 32] := by decide +kernel
theorem sc_L159 : (NWc.drop 908).take 12 = strC "SpiceQuayLaw" 159 [32, 99, 114, 101, 100, 105, 116, 32] := by decide +kernel
theorem sc_L161 : (NWc.drop 920).take 7 = strC "SpiceQuayLaw" 161 [32, 59, 10] := by decide +kernel
theorem sc_L166 : (NWc.drop 927).take 9 = strC "SpiceQuayLaw" 166 [108, 111, 116, 32, 108] := by decide +kernel
theorem sc_L168 : (NWc.drop 936).take 9 = strC "SpiceQuayLaw" 168 [32, 111, 102, 32, 115] := by decide +kernel
theorem sc_L170 : (NWc.drop 945).take 11 = strC "SpiceQuayLaw" 170 [32, 115, 97, 99, 107, 115, 32] := by decide +kernel
theorem sc_L172 : (NWc.drop 956).take 10 = strC "SpiceQuayLaw" 172 [32, 102, 111, 114, 32, 109] := by decide +kernel
theorem sc_L182 : (NWc.drop 966).take 11 = strC "SpiceQuayLaw" 182 [119, 101, 105, 103, 104, 32, 108] := by decide +kernel
theorem sc_L184 : (NWc.drop 977).take 9 = strC "SpiceQuayLaw" 184 [32, 98, 121, 32, 103] := by decide +kernel
theorem sc_L186 : (NWc.drop 986).take 10 = strC "SpiceQuayLaw" 186 [115, 101, 108, 108, 32, 108] := by decide +kernel
theorem sc_L188 : (NWc.drop 996).take 9 = strC "SpiceQuayLaw" 188 [32, 116, 111, 32, 109] := by decide +kernel
theorem sc_L190 : (NWc.drop 1005).take 8 = strC "SpiceQuayLaw" 190 [32, 115, 117, 109] := by decide +kernel
theorem sc_L196 : (NWc.drop 1162).take 9 = strC "SpiceQuayLaw" 196 [112, 97, 121, 32, 109] := by decide +kernel
theorem sc_L201 : (NWc.drop 1375).take 6 = strC "SpiceQuayLaw" 201 [59, 10] := by decide +kernel
theorem bw_L : ∀ t ∈ lawS, t.2.2.length ≤ 4000 ∧ ∀ x ∈ t.2.2, x.toInt8.toInt32 = x := by decide +kernel
theorem el_ok (hc : cx0 Γ = s) (hts : ∀ w ∈ lw_tbl, w.before #[Value.ref b] s = true) (h : ∀ c ∈ NWc, c.before #[Value.ref b] s = true) (hA : ∀ a : Nat, a < s.heap.size → ¬ gF Γ sh a) : EL Γ sh := by
  have hbw := bw_L
  unfold EL
  unfold lawS at hbw ⊢
  exact List.forall_mem_cons.mpr ⟨lt_ok (own := "SpiceQuayLaw") (k := 35) (bs := [32, 109]) hc (hbw _ (List.mem_of_getElem? (i := 0) rfl)) (nw_seg 1013 6 sc_L35 h) hA (hts _ (tq7 (i := 149) (by decide +kernel))), List.forall_mem_cons.mpr ⟨lt_ok (own := "SpiceQuayLaw") (k := 48) (bs := [32, 108]) hc (hbw _ (List.mem_of_getElem? (i := 1) rfl)) (nw_seg 1019 6 sc_L48 h) hA (hts _ (tq7 (i := 150) (by decide +kernel))), List.forall_mem_cons.mpr ⟨lt_ok (own := "SpiceQuayLaw") (k := 50) (bs := [32]) hc (hbw _ (List.mem_of_getElem? (i := 2) rfl)) (nw_seg 1025 5 sc_L50 h) hA (hts _ (tq7 (i := 151) (by decide +kernel))), List.forall_mem_cons.mpr ⟨lt_ok (own := "SpiceQuayLaw") (k := 52) (bs := [32, 99, 111, 105, 110, 115]) hc (hbw _ (List.mem_of_getElem? (i := 3) rfl)) (nw_seg 1030 10 sc_L52 h) hA (hts _ (tq7 (i := 152) (by decide +kernel))), List.forall_mem_cons.mpr ⟨lt_ok (own := "SpiceQuayLaw") (k := 54) (bs := [47, 50, 43]) hc (hbw _ (List.mem_of_getElem? (i := 4) rfl)) (nw_seg 1040 7 sc_L54 h) hA (hts _ (tq7 (i := 153) (by decide +kernel))), List.forall_mem_cons.mpr ⟨lt_ok (own := "SpiceQuayLaw") (k := 56) (bs := [32, 119, 101, 105, 103, 104, 116]) hc (hbw _ (List.mem_of_getElem? (i := 5) rfl)) (nw_seg 1047 11 sc_L56 h) hA (hts _ (tq7 (i := 154) (by decide +kernel))), List.forall_mem_cons.mpr ⟨lt_ok (own := "SpiceQuayLaw") (k := 58) (bs := [47, 49, 48, 48, 32, 45, 32]) hc (hbw _ (List.mem_of_getElem? (i := 6) rfl)) (nw_seg 1058 11 sc_L58 h) hA (hts _ (tq7 (i := 155) (by decide +kernel))), List.forall_mem_cons.mpr ⟨lt_ok (own := "SpiceQuayLaw") (k := 60) (bs := [32, 109, 105, 110, 40, 111, 119, 101, 115]) hc (hbw _ (List.mem_of_getElem? (i := 7) rfl)) (nw_seg 1069 13 sc_L60 h) hA (hts _ (tq7 (i := 156) (by decide +kernel))), List.forall_mem_cons.mpr ⟨lt_ok (own := "SpiceQuayLaw") (k := 62) (bs := [44]) hc (hbw _ (List.mem_of_getElem? (i := 8) rfl)) (nw_seg 1082 5 sc_L62 h) hA (hts _ (tq7 (i := 157) (by decide +kernel))), List.forall_mem_cons.mpr ⟨lt_ok (own := "SpiceQuayLaw") (k := 64) (bs := [41, 42, 50]) hc (hbw _ (List.mem_of_getElem? (i := 9) rfl)) (nw_seg 1087 7 sc_L64 h) hA (hts _ (tq7 (i := 158) (by decide +kernel))), List.forall_mem_cons.mpr ⟨lt_ok (own := "SpiceQuayLaw") (k := 66) (bs := [32, 109, 97, 120, 40, 99, 104, 111, 112]) hc (hbw _ (List.mem_of_getElem? (i := 10) rfl)) (nw_seg 1094 13 sc_L66 h) hA (hts _ (tq7 (i := 159) (by decide +kernel))), List.forall_mem_cons.mpr ⟨lt_ok (own := "SpiceQuayLaw") (k := 68) (bs := [41, 45, 100, 97, 121]) hc (hbw _ (List.mem_of_getElem? (i := 11) rfl)) (nw_seg 1107 9 sc_L68 h) hA (hts _ (tq7 (i := 160) (by decide +kernel))), List.forall_mem_cons.mpr ⟨lt_ok (own := "SpiceQuayLaw") (k := 70) (bs := [45]) hc (hbw _ (List.mem_of_getElem? (i := 12) rfl)) (nw_seg 1116 5 sc_L70 h) hA (hts _ (tq7 (i := 161) (by decide +kernel))), List.forall_mem_cons.mpr ⟨lt_ok (own := "SpiceQuayLaw") (k := 72) (bs := [43, 100, 101, 98, 116, 115]) hc (hbw _ (List.mem_of_getElem? (i := 13) rfl)) (nw_seg 1121 10 sc_L72 h) hA (hts _ (tq7 (i := 162) (by decide +kernel))), List.forall_mem_cons.mpr ⟨lt_ok (own := "SpiceQuayLaw") (k := 74) (bs := [32, 97, 103, 101]) hc (hbw _ (List.mem_of_getElem? (i := 14) rfl)) (nw_seg 1131 8 sc_L74 h) hA (hts _ (tq7 (i := 163) (by decide +kernel))), List.forall_mem_cons.mpr ⟨lt_ok (own := "SpiceQuayLaw") (k := 76) (bs := [42]) hc (hbw _ (List.mem_of_getElem? (i := 15) rfl)) (nw_seg 1139 5 sc_L76 h) hA (hts _ (tq7 (i := 164) (by decide +kernel))), List.forall_mem_cons.mpr ⟨lt_ok (own := "SpiceQuayLaw") (k := 78) (bs := [32, 57, 57, 57, 57, 57, 57, 42, 57, 57, 57, 57, 57, 57]) hc (hbw _ (List.mem_of_getElem? (i := 16) rfl)) (nw_seg 1144 18 sc_L78 h) hA (hts _ (tq7 (i := 165) (by decide +kernel))), List.forall_mem_cons.mpr ⟨lt_ok (own := "SpiceQuayLaw") (k := 80) (bs := []) hc (hbw _ (List.mem_of_getElem? (i := 17) rfl)) (nw_seg 1171 4 sc_L80 h) hA (hts _ (tq7 (i := 170) (by decide +kernel))), List.forall_mem_cons.mpr ⟨lt_ok (own := "SpiceQuayLaw") (k := 82) (bs := [32, 119, 104, 101, 110, 32, 100, 97, 121, 62]) hc (hbw _ (List.mem_of_getElem? (i := 18) rfl)) (nw_seg 1175 14 sc_L82 h) hA (hts _ (tq7 (i := 171) (by decide +kernel))), List.forall_mem_cons.mpr ⟨lt_ok (own := "SpiceQuayLaw") (k := 84) (bs := [47, 52]) hc (hbw _ (List.mem_of_getElem? (i := 19) rfl)) (nw_seg 1189 6 sc_L84 h) hA (hts _ (tq7 (i := 172) (by decide +kernel))), List.forall_mem_cons.mpr ⟨lt_ok (own := "SpiceQuayLaw") (k := 86) (bs := [32, 119, 104, 101, 110, 32, 111, 119, 110, 115]) hc (hbw _ (List.mem_of_getElem? (i := 20) rfl)) (nw_seg 1195 14 sc_L86 h) hA (hts _ (tq7 (i := 173) (by decide +kernel))), List.forall_mem_cons.mpr ⟨lt_ok (own := "SpiceQuayLaw") (k := 88) (bs := [32, 119, 104, 101, 110, 32, 110, 111, 116, 32, 111, 119, 110, 115]) hc (hbw _ (List.mem_of_getElem? (i := 21) rfl)) (nw_seg 1209 18 sc_L88 h) hA (hts _ (tq7 (i := 174) (by decide +kernel))), List.forall_mem_cons.mpr ⟨lt_ok (own := "SpiceQuayLaw") (k := 90) (bs := [32, 111, 114, 32, 99, 111, 105, 110, 115, 32, 109]) hc (hbw _ (List.mem_of_getElem? (i := 22) rfl)) (nw_seg 1227 15 sc_L90 h) hA (hts _ (tq7 (i := 175) (by decide +kernel))), List.forall_mem_cons.mpr ⟨lt_ok (own := "SpiceQuayLaw") (k := 92) (bs := [32, 62, 32]) hc (hbw _ (List.mem_of_getElem? (i := 23) rfl)) (nw_seg 1242 7 sc_L92 h) hA (hts _ (tq7 (i := 176) (by decide +kernel))), List.forall_mem_cons.mpr ⟨lt_ok (own := "SpiceQuayLaw") (k := 94) (bs := [32, 119, 104, 101, 110, 32, 91, 119, 101, 105, 103, 104, 116]) hc (hbw _ (List.mem_of_getElem? (i := 24) rfl)) (nw_seg 1249 17 sc_L94 h) hA (hts _ (tq7 (i := 177) (by decide +kernel))), List.forall_mem_cons.mpr ⟨lt_ok (own := "SpiceQuayLaw") (k := 96) (bs := [62]) hc (hbw _ (List.mem_of_getElem? (i := 25) rfl)) (nw_seg 1266 5 sc_L96 h) hA (hts _ (tq7 (i := 178) (by decide +kernel))), List.forall_mem_cons.mpr ⟨lt_ok (own := "SpiceQuayLaw") (k := 98) (bs := [42, 49, 48, 32, 97, 110, 100, 32, 100, 97, 109, 112, 60]) hc (hbw _ (List.mem_of_getElem? (i := 26) rfl)) (nw_seg 1271 17 sc_L98 h) hA (hts _ (tq7 (i := 179) (by decide +kernel))), List.forall_mem_cons.mpr ⟨lt_ok (own := "SpiceQuayLaw") (k := 100) (bs := [47, 51, 93, 111, 114, 32, 97, 103, 101, 32, 108]) hc (hbw _ (List.mem_of_getElem? (i := 27) rfl)) (nw_seg 1288 15 sc_L100 h) hA (hts _ (tq7 (i := 180) (by decide +kernel))), List.forall_mem_cons.mpr ⟨lt_ok (own := "SpiceQuayLaw") (k := 102) (bs := [60, 61]) hc (hbw _ (List.mem_of_getElem? (i := 28) rfl)) (nw_seg 1303 6 sc_L102 h) hA (hts _ (tq7 (i := 181) (by decide +kernel))), List.forall_mem_cons.mpr ⟨lt_ok (own := "SpiceQuayLaw") (k := 104) (bs := [47, 57]) hc (hbw _ (List.mem_of_getElem? (i := 29) rfl)) (nw_seg 1309 6 sc_L104 h) hA (hts _ (tq7 (i := 182) (by decide +kernel))), List.forall_mem_cons.mpr ⟨lt_ok (own := "SpiceQuayLaw") (k := 106) (bs := [32, 119, 104, 101, 110, 32, 100, 101, 98, 116, 115]) hc (hbw _ (List.mem_of_getElem? (i := 30) rfl)) (nw_seg 1315 15 sc_L106 h) hA (hts _ (tq7 (i := 183) (by decide +kernel))), List.forall_mem_cons.mpr ⟨lt_ok (own := "SpiceQuayLaw") (k := 108) (bs := [32, 119, 104, 101, 110, 32, 100, 97, 121, 47, 50, 42, 50, 61, 100, 97, 121]) hc (hbw _ (List.mem_of_getElem? (i := 31) rfl)) (nw_seg 1330 21 sc_L108 h) hA (hts _ (tq7 (i := 184) (by decide +kernel))), List.forall_mem_cons.mpr ⟨lt_ok (own := "SpiceQuayLaw") (k := 110) (bs := [32, 119, 104, 101, 110, 32, 110, 111, 116, 32, 99, 104, 111, 112]) hc (hbw _ (List.mem_of_getElem? (i := 32) rfl)) (nw_seg 1351 18 sc_L110 h) hA (hts _ (tq7 (i := 185) (by decide +kernel))), List.forall_mem_cons.mpr ⟨lt_ok (own := "SpiceQuayLaw") (k := 112) (bs := [42, 57]) hc (hbw _ (List.mem_of_getElem? (i := 33) rfl)) (nw_seg 1369 6 sc_L112 h) hA (hts _ (tq7 (i := 186) (by decide +kernel))), List.forall_mem_cons.mpr ⟨lt_ok (own := "SpiceQuayLaw") (k := 131) (bs := [115, 112, 105, 99, 101, 32, 115]) hc (hbw _ (List.mem_of_getElem? (i := 34) rfl)) (nw_seg 827 11 sc_L131 h) hA (hts _ (tq6 (i := 166) (by decide +kernel))), List.forall_mem_cons.mpr ⟨lt_ok (own := "SpiceQuayLaw") (k := 133) (bs := [32, 108, 111, 115, 115, 32]) hc (hbw _ (List.mem_of_getElem? (i := 35) rfl)) (nw_seg 838 10 sc_L133 h) hA (hts _ (tq7 (i := 47) (by decide +kernel))), List.forall_mem_cons.mpr ⟨lt_ok (own := "SpiceQuayLaw") (k := 135) (bs := [59]) hc (hbw _ (List.mem_of_getElem? (i := 36) rfl)) (nw_seg 848 5 sc_L135 h) hA (hts _ (tq7 (i := 48) (by decide +kernel))), List.forall_mem_cons.mpr ⟨lt_ok (own := "SpiceQuayLaw") (k := 142) (bs := [103, 117, 105, 108, 100, 32, 103]) hc (hbw _ (List.mem_of_getElem? (i := 37) rfl)) (nw_seg 853 11 sc_L142 h) hA (hts _ (tq7 (i := 50) (by decide +kernel))), List.forall_mem_cons.mpr ⟨lt_ok (own := "SpiceQuayLaw") (k := 144) (bs := [32, 102, 101, 101, 32]) hc (hbw _ (List.mem_of_getElem? (i := 38) rfl)) (nw_seg 864 9 sc_L144 h) hA (hts _ (tq7 (i := 51) (by decide +kernel))), List.forall_mem_cons.mpr ⟨lt_ok (own := "SpiceQuayLaw") (k := 146) (bs := [32, 98, 105, 97, 115, 32]) hc (hbw _ (List.mem_of_getElem? (i := 39) rfl)) (nw_seg 873 10 sc_L146 h) hA (hts _ (tq7 (i := 52) (by decide +kernel))), List.forall_mem_cons.mpr ⟨lt_ok (own := "SpiceQuayLaw") (k := 155) (bs := [109, 101, 114, 99, 104, 97, 110, 116, 32, 109]) hc (hbw _ (List.mem_of_getElem? (i := 40) rfl)) (nw_seg 883 14 sc_L155 h) hA (hts _ (tq7 (i := 54) (by decide +kernel))), List.forall_mem_cons.mpr ⟨lt_ok (own := "SpiceQuayLaw") (k := 157) (bs := [32, 99, 111, 105, 110, 115, 32]) hc (hbw _ (List.mem_of_getElem? (i := 41) rfl)) (nw_seg 897 11 sc_L157 h) hA (hts _ (tq7 (i := 55) (by decide +kernel))), List.forall_mem_cons.mpr ⟨lt_ok (own := "SpiceQuayLaw") (k := 159) (bs := [32, 99, 114, 101, 100, 105, 116, 32]) hc (hbw _ (List.mem_of_getElem? (i := 42) rfl)) (nw_seg 908 12 sc_L159 h) hA (hts _ (tq7 (i := 56) (by decide +kernel))), List.forall_mem_cons.mpr ⟨lt_ok (own := "SpiceQuayLaw") (k := 161) (bs := [32, 59, 10]) hc (hbw _ (List.mem_of_getElem? (i := 43) rfl)) (nw_seg 920 7 sc_L161 h) hA (hts _ (tq7 (i := 57) (by decide +kernel))), List.forall_mem_cons.mpr ⟨lt_ok (own := "SpiceQuayLaw") (k := 166) (bs := [108, 111, 116, 32, 108]) hc (hbw _ (List.mem_of_getElem? (i := 44) rfl)) (nw_seg 927 9 sc_L166 h) hA (hts _ (tq7 (i := 58) (by decide +kernel))), List.forall_mem_cons.mpr ⟨lt_ok (own := "SpiceQuayLaw") (k := 168) (bs := [32, 111, 102, 32, 115]) hc (hbw _ (List.mem_of_getElem? (i := 45) rfl)) (nw_seg 936 9 sc_L168 h) hA (hts _ (tq7 (i := 59) (by decide +kernel))), List.forall_mem_cons.mpr ⟨lt_ok (own := "SpiceQuayLaw") (k := 170) (bs := [32, 115, 97, 99, 107, 115, 32]) hc (hbw _ (List.mem_of_getElem? (i := 46) rfl)) (nw_seg 945 11 sc_L170 h) hA (hts _ (tq7 (i := 60) (by decide +kernel))), List.forall_mem_cons.mpr ⟨lt_ok (own := "SpiceQuayLaw") (k := 172) (bs := [32, 102, 111, 114, 32, 109]) hc (hbw _ (List.mem_of_getElem? (i := 47) rfl)) (nw_seg 956 10 sc_L172 h) hA (hts _ (tq7 (i := 61) (by decide +kernel))), List.forall_mem_cons.mpr ⟨lt_ok (own := "SpiceQuayLaw") (k := 182) (bs := [119, 101, 105, 103, 104, 32, 108]) hc (hbw _ (List.mem_of_getElem? (i := 48) rfl)) (nw_seg 966 11 sc_L182 h) hA (hts _ (tq7 (i := 84) (by decide +kernel))), List.forall_mem_cons.mpr ⟨lt_ok (own := "SpiceQuayLaw") (k := 184) (bs := [32, 98, 121, 32, 103]) hc (hbw _ (List.mem_of_getElem? (i := 49) rfl)) (nw_seg 977 9 sc_L184 h) hA (hts _ (tq7 (i := 85) (by decide +kernel))), List.forall_mem_cons.mpr ⟨lt_ok (own := "SpiceQuayLaw") (k := 186) (bs := [115, 101, 108, 108, 32, 108]) hc (hbw _ (List.mem_of_getElem? (i := 50) rfl)) (nw_seg 986 10 sc_L186 h) hA (hts _ (tq7 (i := 143) (by decide +kernel))), List.forall_mem_cons.mpr ⟨lt_ok (own := "SpiceQuayLaw") (k := 188) (bs := [32, 116, 111, 32, 109]) hc (hbw _ (List.mem_of_getElem? (i := 51) rfl)) (nw_seg 996 9 sc_L188 h) hA (hts _ (tq7 (i := 144) (by decide +kernel))), List.forall_mem_cons.mpr ⟨lt_ok (own := "SpiceQuayLaw") (k := 190) (bs := [32, 115, 117, 109]) hc (hbw _ (List.mem_of_getElem? (i := 52) rfl)) (nw_seg 1005 8 sc_L190 h) hA (hts _ (tq7 (i := 145) (by decide +kernel))), List.forall_mem_cons.mpr ⟨lt_ok (own := "SpiceQuayLaw") (k := 196) (bs := [112, 97, 121, 32, 109]) hc (hbw _ (List.mem_of_getElem? (i := 53) rfl)) (nw_seg 1162 9 sc_L196 h) hA (hts _ (tq7 (i := 166) (by decide +kernel))), List.forall_mem_cons.mpr ⟨lt_ok (own := "SpiceQuayLaw") (k := 201) (bs := [59, 10]) hc (hbw _ (List.mem_of_getElem? (i := 54) rfl)) (nw_seg 1375 6 sc_L201 h) hA (hts _ (tq7 (i := 187) (by decide +kernel))), fun _ hq => absurd hq List.not_mem_nil⟩⟩⟩⟩⟩⟩⟩⟩⟩⟩⟩⟩⟩⟩⟩⟩⟩⟩⟩⟩⟩⟩⟩⟩⟩⟩⟩⟩⟩⟩⟩⟩⟩⟩⟩⟩⟩⟩⟩⟩⟩⟩⟩⟩⟩⟩⟩⟩⟩⟩⟩⟩⟩⟩⟩
theorem ef_ok (hc : cx0 Γ = s) (hts : ∀ w ∈ lw_tbl, w.before #[Value.ref b] s = true) (h : ∀ c ∈ NWc, c.before #[Value.ref b] s = true) (hA : ∀ a : Nat, a < s.heap.size → ¬ gF Γ sh a) : EF Γ sh := by
  have z1 : va_Z "java/lang/String" "COMPACT_STRINGS" "Z" (.int 1) (gF Γ sh) s s.heap := va_Zof (hts _ (tq5 (i := 16) (by decide +kernel))) (hts _ (tq1 (i := 3) (by decide +kernel))) (va_eqt (nw_1 6 (by decide +kernel) h)) hA
  have z2 : va_Zq "jdk/internal/util/Preconditions" "SIOOBE_FORMATTER" "Ljava/util/function/BiFunction;" (gF Γ sh) s s.heap := va_Zqof (hts _ (tq5 (i := 32) (by decide +kernel))) (hts _ (tq1 (i := 10) (by decide +kernel))) (nw_1 7 (by decide +kernel) h) hA
  have s_litX10_84 : LT Γ sh RX10 84 txX10_84 litX10_84 := lt_ok hc bw_1.1 (nw_seg 651 159 sc_litX10_84 h) hA (hts _ (tq5 (i := 111) (by decide +kernel)))
  have s_litX10_77 : LT Γ sh RX10 77 txX10_77 litX10_77 := lt_ok hc bw_1.2 (nw_seg 810 17 sc_litX10_77 h) hA (hts _ (tq5 (i := 139) (by decide +kernel)))
  unfold EF
  rw [hc]
  exact ⟨z1, z2, s_litX10_84, s_litX10_77⟩
theorem ex_strs (hc : cx0 Γ = s) (hts : ∀ w ∈ lw_tbl, w.before #[Value.ref b] s = true) (h : ∀ c ∈ NWc, c.before #[Value.ref b] s = true) : ∀ q ∈ exS, ∃ sa : Nat, vk_R RX11 q.1 q.2 sa (cx0 Γ) := by
  unfold exS
  exact List.forall_mem_cons.mpr ⟨str_R hc (nw_1 607 (by decide +kernel) h) (hts _ (tq5 (i := 68) (by decide +kernel))), List.forall_mem_cons.mpr ⟨str_R hc (nw_1 558 (by decide +kernel) h) (hts _ (tq5 (i := 6) (by decide +kernel))), List.forall_mem_cons.mpr ⟨str_R hc (nw_1 233 (by decide +kernel) h) (hts _ (tq3 (i := 9) (by decide +kernel))), List.forall_mem_cons.mpr ⟨str_R hc (nw_1 256 (by decide +kernel) h) (hts _ (tq3 (i := 65) (by decide +kernel))), List.forall_mem_cons.mpr ⟨str_R hc (nw_1 294 (by decide +kernel) h) (hts _ (tq3 (i := 90) (by decide +kernel))), List.forall_mem_cons.mpr ⟨str_R hc (nw_1 337 (by decide +kernel) h) (hts _ (tq3 (i := 116) (by decide +kernel))), List.forall_mem_cons.mpr ⟨str_R hc (nw_1 377 (by decide +kernel) h) (hts _ (tq3 (i := 129) (by decide +kernel))), List.forall_mem_cons.mpr ⟨str_R hc (nw_1 417 (by decide +kernel) h) (hts _ (tq3 (i := 213) (by decide +kernel))), List.forall_mem_cons.mpr ⟨str_R hc (nw_1 1381 (by decide +kernel) h) (hts _ (tq7 (i := 196) (by decide +kernel))), List.forall_mem_cons.mpr ⟨str_R hc (nw_1 1403 (by decide +kernel) h) (hts _ (tq7 (i := 202) (by decide +kernel))), List.forall_mem_cons.mpr ⟨str_R hc (nw_1 1451 (by decide +kernel) h) (hts _ (tq7 (i := 204) (by decide +kernel))), List.forall_mem_cons.mpr ⟨str_R hc (nw_1 1490 (by decide +kernel) h) (hts _ (tq7 (i := 212) (by decide +kernel))), List.forall_mem_cons.mpr ⟨str_R hc (nw_1 1511 (by decide +kernel) h) (hts _ (tq7 (i := 218) (by decide +kernel))), List.forall_mem_cons.mpr ⟨str_R hc (nw_1 437 (by decide +kernel) h) (hts _ (tq4 (i := 20) (by decide +kernel))), List.forall_mem_cons.mpr ⟨str_R hc (nw_1 461 (by decide +kernel) h) (hts _ (tq4 (i := 84) (by decide +kernel))), List.forall_mem_cons.mpr ⟨str_R hc (nw_1 489 (by decide +kernel) h) (hts _ (tq4 (i := 103) (by decide +kernel))), List.forall_mem_cons.mpr ⟨str_R hc (nw_1 535 (by decide +kernel) h) (hts _ (tq4 (i := 110) (by decide +kernel))), fun _ hq => absurd hq List.not_mem_nil⟩⟩⟩⟩⟩⟩⟩⟩⟩⟩⟩⟩⟩⟩⟩⟩⟩
theorem ex_ok (hc : cx0 Γ = s) (hts : ∀ w ∈ lw_tbl, w.before #[Value.ref b] s = true) (h : ∀ c ∈ NWc, c.before #[Value.ref b] s = true) (hA : ∀ a : Nat, a < s.heap.size → ¬ gF Γ sh a) : EX Γ sh := by
  have e := ex_strs hc hts h
  have z1 : vx_Zq Bundle.tN "UNASSIGNED_STACK" Bundle.steD (gF Γ sh) s s.heap := vx_Zqof (hts _ (tq2 (i := 235) (by decide +kernel))) (hts _ (tq1 (i := 24) (by decide +kernel))) (nw_1 4 (by decide +kernel) h) hA
  have z2 : vx_Zq Bundle.tN "SUPPRESSED_SENTINEL" Bundle.listD (gF Γ sh) s s.heap := vx_Zqof (hts _ (tq2 (i := 237) (by decide +kernel))) (hts _ (tq1 (i := 24) (by decide +kernel))) (nw_1 5 (by decide +kernel) h) hA
  have hb : ∀ w ∈ exB, w.before #[] s = true := by
    unfold exB
    refine List.forall_mem_cons.mpr ⟨?_, List.forall_mem_cons.mpr ⟨?_, List.forall_mem_cons.mpr ⟨?_, List.forall_mem_cons.mpr ⟨?_, List.forall_mem_cons.mpr ⟨?_, List.forall_mem_cons.mpr ⟨?_, fun _ hq => absurd hq List.not_mem_nil⟩⟩⟩⟩⟩⟩
    · exact hts (.declares ⟨"java/lang/Exception", "<init>", "(Ljava/lang/String;)V"⟩) (tq2 (i := 214) (by decide +kernel))
    · exact hts (.declares ⟨"java/lang/Throwable", "<init>", "(Ljava/lang/String;)V"⟩) (tq2 (i := 216) (by decide +kernel))
    · exact hts (.declares ⟨"java/lang/RuntimeException", "<init>", "(Ljava/lang/String;)V"⟩) (tq2 (i := 212) (by decide +kernel))
    · exact hts (.castable "java/lang/IllegalStateException" "java/lang/IllegalStateException") (tq5 (i := 61) (by decide +kernel))
    · exact hts (.castable "java/lang/IllegalArgumentException" "java/lang/IllegalArgumentException") (tq4 (i := 13) (by decide +kernel))
    · exact hts (.castable "java/lang/IndexOutOfBoundsException" "java/lang/IndexOutOfBoundsException") (tq2 (i := 210) (by decide +kernel))
  unfold EX
  rw [hc] at e ⊢
  exact ⟨z1, z2, e, hb⟩
theorem sc_digO : ∀ j : Fin 100, NWc[14 + j.val]? = some (.eq (.elem (.static "java/lang/Integer" "DigitOnes" "[B") (.int (Int32.ofNat j.val))) (.int (digO.getD j.val 0))) := by decide +kernel
theorem ok_digO {A : Nat → Prop} (h : ∀ c ∈ NWc, c.before #[Value.ref b] s = true) (hA : ∀ a : Nat, a < s.heap.size → ¬ A a) : ∃ t : Nat, (Term.static "java/lang/Integer" "DigitOnes" "[B").eval #[Value.ref b] s none [] s = some (.ref t) ∧ va_T .byte t 100 (fun j => .int (digO.getD j 0)) A s s.heap :=
  va_Tof (tm := .static "java/lang/Integer" "DigitOnes" "[B") (ty := .byte) (f := fun j => .int (digO.getD j 0)) (A := A) (N := 100) (by decide) (nw_1 12 (by decide +kernel) h) (va_eqt (nw_1 13 (by decide +kernel) h)) (fun j hj => va_eqt (nw_1 (14 + j) (sc_digO ⟨j, hj⟩) h)) hA
theorem sc_digT : ∀ j : Fin 100, NWc[117 + j.val]? = some (.eq (.elem (.static "java/lang/Integer" "DigitTens" "[B") (.int (Int32.ofNat j.val))) (.int (digT.getD j.val 0))) := by decide +kernel
theorem ok_digT {A : Nat → Prop} (h : ∀ c ∈ NWc, c.before #[Value.ref b] s = true) (hA : ∀ a : Nat, a < s.heap.size → ¬ A a) : ∃ t : Nat, (Term.static "java/lang/Integer" "DigitTens" "[B").eval #[Value.ref b] s none [] s = some (.ref t) ∧ va_T .byte t 100 (fun j => .int (digT.getD j 0)) A s s.heap :=
  va_Tof (tm := .static "java/lang/Integer" "DigitTens" "[B") (ty := .byte) (f := fun j => .int (digT.getD j 0)) (A := A) (N := 100) (by decide) (nw_1 115 (by decide +kernel) h) (va_eqt (nw_1 116 (by decide +kernel) h)) (fun j hj => va_eqt (nw_1 (117 + j) (sc_digT ⟨j, hj⟩) h)) hA
theorem bw_D : (digO.length = 100 ∧ ∀ x ∈ digO, x.toInt8.toInt32 = x) ∧ digT.length = 100 ∧ ∀ x ∈ digT, x.toInt8.toInt32 = x := by decide +kernel
theorem ec_ok {d1 d2 : Nat} (hc : cx0 Γ = s) (hts : ∀ w ∈ lw_tbl, w.before #[Value.ref b] s = true) (h : ∀ c ∈ NWc, c.before #[Value.ref b] s = true) (e1 : (Term.static "java/lang/Integer" "DigitOnes" "[B").eval #[Value.ref b] s none [] s = some (.ref d1)) (e2 : (Term.static "java/lang/Integer" "DigitTens" "[B").eval #[Value.ref b] s none [] s = some (.ref d2)) (hA : ∀ a : Nat, a < s.heap.size → ¬ gF Γ sh a) : EC Γ sh d1 d2 := by
  have z1 : va_Z "java/lang/String" "COMPACT_STRINGS" "Z" (.int 1) (gF Γ sh) s s.heap := va_Zof (hts _ (tq5 (i := 16) (by decide +kernel))) (hts _ (tq1 (i := 3) (by decide +kernel))) (va_eqt (nw_1 6 (by decide +kernel) h)) hA
  have z2 : va_Z "java/lang/Integer" "DigitOnes" "[B" (.ref d1) (gF Γ sh) s s.heap := va_Zof (hts _ (tq7 (i := 36) (by decide +kernel))) (hts _ (tq1 (i := 12) (by decide +kernel))) e1 hA
  have z3 : va_Z "java/lang/Integer" "DigitTens" "[B" (.ref d2) (gF Γ sh) s s.heap := va_Zof (hts _ (tq7 (i := 38) (by decide +kernel))) (hts _ (tq1 (i := 12) (by decide +kernel))) e2 hA
  obtain ⟨t1, f1, g1⟩ := ok_digO (A := gF Γ sh) h hA
  obtain ⟨t2, f2, g2⟩ := ok_digT (A := gF Γ sh) h hA
  rw [e1] at f1
  rw [e2] at f2
  cases f1
  cases f2
  have hb : ∀ w ∈ clB, w.before #[] s = true := by
    unfold clB
    refine List.forall_mem_cons.mpr ⟨?_, List.forall_mem_cons.mpr ⟨?_, fun _ hq => absurd hq List.not_mem_nil⟩⟩
    · exact hts (.castable "[B" "java/lang/Cloneable") (tq6 (i := 202) (by decide +kernel))
    · exact hts (.castable "[Z" "java/lang/Cloneable") (tq4 (i := 203) (by decide +kernel))
  unfold EC sb_ok
  rw [hc, bw_D.1.1, bw_D.2.1]
  exact ⟨z1, z2, z3, hb, ⟨g1, by decide, bw_D.1.2⟩, g2, by decide, bw_D.2.2⟩
theorem sel_up {C : String} {y y0 : MethodName} {args : Array Value} (hy : y.cls ≠ "java/lang/invoke/MethodHandle" ∧ y.cls ≠ "java/lang/invoke/VarHandle") (h0 : (Cond.selects C y0 y0).before args s = true) (hc : y0.cls = y.cls) (hpriv : (Cond.privateMethod y).before args s = true) (hinst : (Cond.instanceMethod y).before args s = true) : (Cond.selects C y y).before args s = true := by
  obtain ⟨c, r, m0, h1, h2, h3, h4, mk, h5, h6⟩ := Cond.selects_spec h0
  obtain ⟨m, methM, hnamed, hmethM, -, -⟩ := Cond.instanceMethod_spec hinst
  have hfound : s.methodFound? y.cls y.name y.desc = some m := State.methodFound?_of_named hnamed hy
  have e1 := findClass_of_methodNamed hnamed
  have e2 := findClass_of_methodNamed h3
  rw [hc] at e2
  have hcls : m.cls = m0.cls := Option.some.inj (e1.symm.trans e2)
  have hsel : selectMethod {} s.vm c m = .method m := selectMethod_private hmethM (Cond.privateMethod_at hpriv m methM hnamed hmethM)
  simp only [Cond.before, Cond.holds, Cond.value, h1, hfound, hnamed, hsel, hcls, h5]
  simp; exact h6
theorem xs_ok (hts : ∀ w ∈ lw_tbl, w.before #[Value.ref b] s = true) : ∀ w ∈ lw_all, w.before #[Value.ref b] s = true := by
  have h0 : (Cond.selects RJ4 yJ5_isLatin1_aae02 yJ5_isLatin1_aae02).before #[Value.ref b] s = true := hts _ (tq6 (i := 211) (by decide +kernel))
  have h_yJ5_ensureCapacityInternal_d00df : (Cond.selects RJ4 yJ5_ensureCapacityInternal_d00df yJ5_ensureCapacityInternal_d00df).before #[Value.ref b] s = true := sel_up ⟨by decide +kernel, by decide +kernel⟩ h0 rfl (hts _ (tq6 (i := 180) (by decide +kernel))) (hts _ (tq6 (i := 181) (by decide +kernel)))
  have h_yJ5_newCapacity_0f7a4 : (Cond.selects RJ4 yJ5_newCapacity_0f7a4 yJ5_newCapacity_0f7a4).before #[Value.ref b] s = true := sel_up ⟨by decide +kernel, by decide +kernel⟩ h0 rfl (hts _ (tq6 (i := 184) (by decide +kernel))) (hts _ (tq6 (i := 185) (by decide +kernel)))
  have h_yJ5_putStringAt_47b60 : (Cond.selects RJ4 yJ5_putStringAt_47b60 yJ5_putStringAt_47b60).before #[Value.ref b] s = true := sel_up ⟨by decide +kernel, by decide +kernel⟩ h0 rfl (hts _ (tq6 (i := 222) (by decide +kernel))) (hts _ (tq6 (i := 223) (by decide +kernel)))
  have h_yJ5_inflateIfNeededFor_a7421 : (Cond.selects RJ4 yJ5_inflateIfNeededFor_a7421 yJ5_inflateIfNeededFor_a7421).before #[Value.ref b] s = true := sel_up ⟨by decide +kernel, by decide +kernel⟩ h0 rfl (hts _ (tq6 (i := 226) (by decide +kernel))) (hts _ (tq6 (i := 227) (by decide +kernel)))
  intro w hw
  rcases List.mem_append.mp (List.mem_filter.mp hw).1 with h | h
  · have h9 : ∀ w ∈ lw_xs, w.before #[Value.ref b] s = true := by
      unfold lw_xs
      exact List.forall_mem_cons.mpr ⟨h_yJ5_ensureCapacityInternal_d00df, List.forall_mem_cons.mpr ⟨h_yJ5_newCapacity_0f7a4, List.forall_mem_cons.mpr ⟨h_yJ5_putStringAt_47b60, List.forall_mem_cons.mpr ⟨h_yJ5_inflateIfNeededFor_a7421, fun _ hq => absurd hq List.not_mem_nil⟩⟩⟩⟩
    exact h9 w h
  · exact hts w h
theorem over_ok {t : FieldType} {args : Array Value} (h : (Cond.arrayOver (.array t)).before args s = true) : ∃ cA : ClassId, ArrOfT s cA (.array t) ∧ s.vm.findClass ("[" ++ (FieldType.array t).toString) = some cA := by
  simp only [Cond.before, Cond.holds, Cond.value, beq_iff_eq] at h
  cases hc : s.vm.findClass (FieldType.array t).toString with
  | none => simp [hc] at h
  | some comp =>
    simp only [hc, Option.bind_some, Option.bind_eq_some_iff, Option.map_eq_some_iff] at h
    obtain ⟨c, hi, k, hk, hb⟩ := h
    cases hkind : k.kind with
    | array component ty =>
      rw [hkind] at hb
      simp at hb
      exact ⟨c, fun n z => ⟨fun k h => (by cases h), k, hk, component, by rw [hkind, hb.1]⟩, hb.2⟩
    | _ => rw [hkind] at hb; simp at hb
theorem start_ok {L : Nat} {xs : Nat → Int32} (hts : ∀ w ∈ lw_tbl, w.before #[Value.ref b] s = true) (hgv : (Jvm.Cond.and given_1 narrow_1).before #[Value.ref b] s = true) (hX : va_X b L xs s s.heap) (hbl : b < s.heap.size) (hL : L ≤ 260) : ∃ (Γ : Cx) (d1 d2 : Nat), Γ.2.1 = s.heap.size ∧ cx0 Γ = s ∧ wK Γ s ∧ ER Γ ∧ STF Γ b L d1 d2 xs := by
  have hn := flat_of_before _ hgv
  have hal : ∀ w ∈ lw_all, w.before #[Value.ref b] s = true := xs_ok hts
  obtain ⟨c0, i0, k0⟩ := u_known (C := RX0) (T := TX0) (N := 3) (n := 3) hal in_X0 (hts _ (tq2 (i := 137) (by decide +kernel)))
  obtain ⟨c1, i1, k1⟩ := u_known (C := RX1) (T := TX1) (N := 2) (n := 2) hal in_X1 (hts _ (tq2 (i := 52) (by decide +kernel)))
  obtain ⟨c2, i2, k2⟩ := u_known (C := RX3) (T := TX3) (N := 3) (n := 3) hal in_X3 (hts _ (tq1 (i := 235) (by decide +kernel)))
  obtain ⟨c3, i3, k3⟩ := u_known (C := RX4) (T := TX4) (N := 20) (n := 20) hal in_X4 (hts _ (tq1 (i := 91) (by decide +kernel)))
  obtain ⟨c4, i4, k4⟩ := u_known (C := RX5) (T := TX5) (N := 9) (n := 9) hal in_X5 (hts _ (tq1 (i := 85) (by decide +kernel)))
  obtain ⟨c5, i5, k5⟩ := u_known (C := RX6) (T := TX6) (N := 4) (n := 4) hal in_X6 (hts _ (tq2 (i := 143) (by decide +kernel)))
  obtain ⟨c6, i6, k6⟩ := u_known (C := RX7) (T := TX7) (N := 1) (n := 1) hal in_X7 (hts _ (tq1 (i := 41) (by decide +kernel)))
  obtain ⟨c7, i7, k7⟩ := u_known (C := RX8) (T := TX8) (N := 15) (n := 15) hal in_X8 (hts _ (tq2 (i := 44) (by decide +kernel)))
  obtain ⟨c8, i8, k8⟩ := u_known (C := RX9) (T := TX9) (N := 4) (n := 4) hal in_X9 (hts _ (tq1 (i := 99) (by decide +kernel)))
  obtain ⟨c9, i9, k9⟩ := u_known (C := RX10) (T := TX10) (N := 7) (n := 7) hal in_X10 (hts _ (tq1 (i := 52) (by decide +kernel)))
  obtain ⟨c10, i10, k10⟩ := u_known (C := RX11) (T := TX11) (N := 10) (n := 10) hal in_X11 (hts _ (tq1 (i := 33) (by decide +kernel)))
  obtain ⟨c11, i11, k11⟩ := u_known (C := RX12) (T := TX12) (N := 9) (n := 9) hal in_X12 (hts _ (tq4 (i := 152) (by decide +kernel)))
  obtain ⟨c12, i12, k12⟩ := u_known (C := RJ0) (T := TJ0) (N := 4) (n := 4) hal in_J0 (hts _ (tq7 (i := 91) (by decide +kernel)))
  obtain ⟨c13, i13, k13⟩ := u_known (C := RJ4) (T := TJ4) (N := 4) (n := 4) hal in_J4 (hts _ (tq7 (i := 64) (by decide +kernel)))
  obtain ⟨cI, a1, a2⟩ := arr_ok (ty := .int) (hts _ (tq1 (i := 50) (by decide +kernel)))
  obtain ⟨cB, a3, a4⟩ := arr_ok (ty := .byte) (hts _ (tq3 (i := 35) (by decide +kernel)))
  obtain ⟨cZ, a5, a6⟩ := arr_ok (ty := .boolean) (hts _ (tq4 (i := 230) (by decide +kernel)))
  obtain ⟨cR, a7, a8⟩ := over_ok (t := .int) (hts _ (tq6 (i := 130) (by decide +kernel)))
  obtain ⟨d1, e1, -⟩ := ok_digO (A := fun _ => False) hn (fun _ _ q => q)
  obtain ⟨d2, e2, -⟩ := ok_digT (A := fun _ => False) hn (fun _ _ q => q)
  have hcl : ∀ (k : Nat) (q : vw_C), vwCl[k]? = some q → u_Kn s q.1 q.2.1 q.2.2 ((fun k => if k = 0 then c0 else if k = 1 then c1 else if k = 2 then c2 else if k = 3 then c3 else if k = 4 then c4 else if k = 5 then c5 else if k = 6 then c6 else if k = 7 then c7 else if k = 8 then c8 else if k = 9 then c9 else if k = 10 then c10 else if k = 11 then c11 else if k = 12 then c12 else c13 : Nat → ClassId) k) ((fun k => if k = 0 then i0 else if k = 1 then i1 else if k = 2 then i2 else if k = 3 then i3 else if k = 4 then i4 else if k = 5 then i5 else if k = 6 then i6 else if k = 7 then i7 else if k = 8 then i8 else if k = 9 then i9 else if k = 10 then i10 else if k = 11 then i11 else if k = 12 then i12 else i13 : Nat → Nat → Nat) k) := by
    intro k q hq
    match k, hq with
    | 0, hq => cases hq; exact k0
    | 1, hq => cases hq; exact k1
    | 2, hq => cases hq; exact k2
    | 3, hq => cases hq; exact k3
    | 4, hq => cases hq; exact k4
    | 5, hq => cases hq; exact k5
    | 6, hq => cases hq; exact k6
    | 7, hq => cases hq; exact k7
    | 8, hq => cases hq; exact k8
    | 9, hq => cases hq; exact k9
    | 10, hq => cases hq; exact k10
    | 11, hq => cases hq; exact k11
    | 12, hq => cases hq; exact k12
    | 13, hq => cases hq; exact k13
    | k + 14, hq => simp [vwCl] at hq
  refine ⟨(((fun k => if k = 0 then c0 else if k = 1 then c1 else if k = 2 then c2 else if k = 3 then c3 else if k = 4 then c4 else if k = 5 then c5 else if k = 6 then c6 else if k = 7 then c7 else if k = 8 then c8 else if k = 9 then c9 else if k = 10 then c10 else if k = 11 then c11 else if k = 12 then c12 else c13 : Nat → ClassId), (fun k => if k = 0 then i0 else if k = 1 then i1 else if k = 2 then i2 else if k = 3 then i3 else if k = 4 then i4 else if k = 5 then i5 else if k = 6 then i6 else if k = 7 then i7 else if k = 8 then i8 else if k = 9 then i9 else if k = 10 then i10 else if k = 11 then i11 else if k = 12 then i12 else i13 : Nat → Nat → Nat)), s.heap.size, cI, (fun k => if k = 1 then cB else if k = 2 then cZ else cR), s), d1, d2, rfl, rfl, ⟨hcl, fun k q hq => ?_⟩, ?_, fun Γ' sh hc hA => ?_⟩
  · match k, hq with
    | 0, hq => cases hq; exact ⟨a1, a2⟩
    | 1, hq => cases hq; exact ⟨a1, a2⟩
    | 2, hq => cases hq; exact ⟨a3, a4⟩
    | 3, hq => cases hq; exact ⟨a5, a6⟩
    | 4, hq => cases hq; exact ⟨a7, a8⟩
    | k + 5, hq => simp [wKt] at hq
  · exact hts (.arrayOver (.array .int)) (tq6 (i := 130) (by decide +kernel))
  · have hc : cx0 Γ' = s := hc
    have hA : ∀ a : Nat, a < s.heap.size → ¬ gF Γ' sh a := hA
    refine ⟨ef_ok hc hts hn hA, ex_ok hc hts hn hA, ec_ok hc hts hn e1 e2 hA, el_ok hc hts hn hA, ?_, hL⟩
    rw [hc]
    obtain ⟨scr, h1, h2, h3, h4, h5⟩ := hX
    exact ⟨scr, h1, h2, h3, Nat.le_of_eq h4.symm, by rw [h4], h5, hA b hbl⟩
end PR
