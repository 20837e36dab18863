/-! THE LAW'S TURNS, part 1 -/
theorem turn_feed {p : Program} {l : Launch} {e : Env} {s : State} {m : MethodId} {args : Array Value} {below : List Frame} {meth : Method} {c : Code} {Q : State → Prop} {Γ : Cx} {b L cells slots : Nat} {xs : Nat → Int32} {i : Int32} (hc : LC Γ p s m args c b L xs) (hlt : l.stackTraces = false) (h0 : 0 ≤ i.toInt) (h1 : i.toInt + 6 ≤ L) (hrc : cells + 30 ≤ room_1.cells) (hrs : slots + 2000 ≤ room_1.slots) (kk : LK l Γ p e s m args below meth c b i (cells + 30) (slots + 2000) Q 1473) : LK l Γ p e s m args below meth c b i cells slots Q 148 := by
  intro sh v w n sp H locs ls hd hP hS hz hl
  obtain ⟨hx, hb, hml, hts, hown, hK, hE, hF, hX, hN, hsc, hbl, hbA, hL⟩ := hc
  have hq := hd.1
  have hm := hd.2.1
  have h4 := hd.2.2.1
  have hI := hd.2.2.2.1
  have hn := hd.2.2.2.2.1
  have hsp := hd.2.2.2.2.2

  refine lv_aload_n hx hb dL_law_148 rfl (lv_at hl 3 rfl) ?_
  refine lv_aload_n hx hb dL_law_149 rfl (lv_at hl 4 rfl) ?_
  refine lv_iload hx hb dL_law_150 (lv_at hl 0 rfl) ?_
  refine lv_iconst (v := 1) hx hb dL_law_152 rfl ?_
  refine lv_iadd hx hb dL_law_153 ?_
  refine va_sld hx hb hsc hbl hbA hS (sc_in h0 h1 hL (a := 1) ⟨by decide, by decide⟩) dL_law_154 ?_
  refine lv_aload_n hx hb dL_law_155 rfl (lv_at hl 4 rfl) ?_
  refine lv_iload hx hb dL_law_156 (lv_at hl 0 rfl) ?_
  refine lv_iconst (v := 2) hx hb dL_law_158 rfl ?_
  refine lv_iadd hx hb dL_law_159 ?_
  refine va_sld hx hb hsc hbl hbA hS (sc_in h0 h1 hL (a := 2) ⟨by decide, by decide⟩) dL_law_160 ?_
  refine lv_aload_n hx hb dL_law_161 rfl (lv_at hl 4 rfl) ?_
  refine lv_iload hx hb dL_law_162 (lv_at hl 0 rfl) ?_
  refine lv_iconst (v := 3) hx hb dL_law_164 rfl ?_
  refine lv_iadd hx hb dL_law_165 ?_
  refine va_sld hx hb hsc hbl hbA hS (sc_in h0 h1 hL (a := 3) ⟨by decide, by decide⟩) dL_law_166 ?_
  refine lv_aload_n hx hb dL_law_167 rfl (lv_at hl 4 rfl) ?_
  refine lv_iload hx hb dL_law_168 (lv_at hl 0 rfl) ?_
  refine lv_iconst (v := 4) hx hb dL_law_170 rfl ?_
  refine lv_iadd hx hb dL_law_171 ?_
  refine va_sld hx hb hsc hbl hbA hS (sc_in h0 h1 hL (a := 4) ⟨by decide, by decide⟩) dL_law_172 ?_
  refine lv_aload_n hx hb dL_law_173 rfl (lv_at hl 4 rfl) ?_
  refine lv_iload hx hb dL_law_174 (lv_at hl 0 rfl) ?_
  refine lv_iconst (v := 5) hx hb dL_law_176 rfl ?_
  refine lv_iadd hx hb dL_law_177 ?_
  refine va_sld hx hb hsc hbl hbA hS (sc_in h0 h1 hL (a := 5) ⟨by decide, by decide⟩) dL_law_178 ?_
  refine lv_aload_n hx hb dL_law_179 rfl (lv_at hl 1 rfl) ?_
  rcases s_feed (sh := sh) (n := n) (z := 5000) (a1 := xs (i + 1).toNatClampNeg) (a2 := xs (i + 2).toNatClampNeg) (a3 := xs (i + 3).toNatClampNeg) (a4 := xs (i + 4).toNatClampNeg) (a5 := xs (i + 5).toNatClampNeg) (by omega) hI (by omega) hsp with ⟨x, v1, v2, e1, e2, e3, hI2⟩ | ⟨y, v2, e1, e2, e3, hI2⟩
  · refine z_SS (own := RL) hx hb hml hts hown hK hP hS hz hE (c_L_feed hq h4 hX hN hlt e1 (fun c h => by cases h)) kL_feed (tk4 (i := 235) (by decide +kernel) rfl) rfl rfl hl.1 (Nat.le_of_ble_eq_true rfl) ⟨Nat.le_of_ble_eq_true rfl, Nat.le_of_ble_eq_true rfl⟩ ⟨by omega, by omega⟩ dL_law_180 fun r u H1 locs1 hp hz hP hS => ?_
    rcases Or.symm hp with ⟨c9, hq9, -⟩ | ⟨a9, v9, hq9, rfl, rfl⟩
    · cases hq9
    cases hq9
    have hz : H1.size = Γ.2.1 + n := hz
    have hP : Wd Γ sh v1 (up w 194 (lu (w 194) 0 x.toInt64)) H1 := hP
    refine lv_istore (lv' := (5, .int 0) :: LL Γ b i) hx hb dL_law_183 hl (by decide) rfl fun ls hl => ?_
    refine lv_aload_n hx hb dL_law_185 rfl (lv_at hl 3 rfl) ?_
    refine lv_aload_n hx hb dL_law_186 rfl (lv_at hl 5 rfl) ?_
    refine lv_iload hx hb dL_law_187 (lv_at hl 1 rfl) ?_
    refine lv_iconst (v := 1) hx hb dL_law_189 rfl ?_
    refine lv_iadd hx hb dL_law_190 ?_
    refine va_sld hx hb hsc hbl hbA hS (sc_in h0 h1 hL (a := 1) ⟨by decide, by decide⟩) dL_law_191 ?_
    refine lv_aload_n hx hb dL_law_192 rfl (lv_at hl 5 rfl) ?_
    refine lv_iload hx hb dL_law_193 (lv_at hl 1 rfl) ?_
    refine lv_iconst (v := 2) hx hb dL_law_195 rfl ?_
    refine lv_iadd hx hb dL_law_196 ?_
    refine va_sld hx hb hsc hbl hbA hS (sc_in h0 h1 hL (a := 2) ⟨by decide, by decide⟩) dL_law_197 ?_
    refine lv_aload_n hx hb dL_law_198 rfl (lv_at hl 5 rfl) ?_
    refine lv_iload hx hb dL_law_199 (lv_at hl 1 rfl) ?_
    refine lv_iconst (v := 3) hx hb dL_law_201 rfl ?_
    refine lv_iadd hx hb dL_law_202 ?_
    refine va_sld hx hb hsc hbl hbA hS (sc_in h0 h1 hL (a := 3) ⟨by decide, by decide⟩) dL_law_203 ?_
    refine lv_aload_n hx hb dL_law_204 rfl (lv_at hl 5 rfl) ?_
    refine lv_iload hx hb dL_law_205 (lv_at hl 1 rfl) ?_
    refine lv_iconst (v := 4) hx hb dL_law_207 rfl ?_
    refine lv_iadd hx hb dL_law_208 ?_
    refine va_sld hx hb hsc hbl hbA hS (sc_in h0 h1 hL (a := 4) ⟨by decide, by decide⟩) dL_law_209 ?_
    refine lv_aload_n hx hb dL_law_210 rfl (lv_at hl 5 rfl) ?_
    refine lv_iload hx hb dL_law_211 (lv_at hl 1 rfl) ?_
    refine lv_iconst (v := 5) hx hb dL_law_213 rfl ?_
    refine lv_iadd hx hb dL_law_214 ?_
    refine va_sld hx hb hsc hbl hbA hS (sc_in h0 h1 hL (a := 5) ⟨by decide, by decide⟩) dL_law_215 ?_
    refine z_VT (k := 149) (r1 := x) (u1 := (up sh n (some (sA 5)), v2, n + 1)) hx hb hml hts hown hK hP hS hz hE (c_Model_feed hm (by omega) hsp e2) kX14_feed mL_85 hm.1 rfl rfl rfl hl.1 (Nat.le_of_ble_eq_true rfl) ⟨Nat.le_of_ble_eq_true rfl, Nat.le_of_ble_eq_true rfl⟩ ⟨by omega, by omega⟩ dL_law_216 fun H1 locs1 hz hP hS => ?_
    have hz : H1.size = Γ.2.1 + (n + 1) := hz
    have hP : Wd Γ (up sh n (some (sA 5))) v2 (up w 194 (lu (w 194) 0 x.toInt64)) H1 := hP
    have hm : isModel (up sh n (some (sA 5))) sp := hm.low (n := n) (fun q h => up_ne (by omega)) (by omega) hsp
    have h4 : up sh n (some (sA 5)) 194 = some (sL 1) := (up_ne (by omega)).trans h4
    have hd2 : LD (up sh n (some (sA 5))) v2 (n + 1) sp := hd.far (fun q h _ => up_ne (by omega)) hm hI2 (by omega) (by omega)
    refine lv_istore (lv' := (6, .int x) :: (5, .int 0) :: LL Γ b i) hx hb dL_law_219 hl (by decide) rfl fun ls hl => ?_
    refine lv_aload_n hx hb dL_law_221 rfl (lv_at hl 4 rfl) ?_
    refine z_Vi (k := 149) (r1 := v2 149 0) (v1 := v2) hx hb hml hts hown hK hP hS hz hE (c_Model_thrown (q := v2 149 0) hm rfl) kX14_thrown mL_86 hm.1 rfl rfl rfl hl.1 (Nat.le_of_ble_eq_true rfl) ⟨Nat.le_of_ble_eq_true rfl, Nat.le_of_ble_eq_true rfl⟩ ⟨by omega, by omega⟩ dL_law_222 fun H1 locs1 hz hP hS => ?_
    refine lv_iload hx hb dL_law_225 (lv_at hl 1 rfl) ?_
    refine lv_icmp_eq (tgt := 232) hx hb dL_law_227 rfl (fun _ => ?_) (fun hne => absurd e3 hne)
    refine lv_iload hx hb dL_law_232 (lv_at hl 1 rfl) ?_
    refine lv_if_ne (tgt := 249) hx hb dL_law_234 rfl (fun h => absurd rfl h) (fun _ => ?_)
    refine lv_aload_n hx hb dL_law_237 rfl (lv_at hl 3 rfl) ?_
    refine lv_iconst (v := 0) hx hb dL_law_238 rfl ?_
    refine w_lald (k := 194) (N := 1) hx hb hK hP h4 pin_1 dL_law_239 ?_
    rw [lu_0]
    refine lv_iload hx hb dL_law_240 (lv_at hl 0 rfl) ?_
    refine lv_i2l (v := x.toInt64) hx hb dL_law_242 rfl ?_
    refine lv_lcmpE hx hb dL_law_243 ?_
    refine lv_if_eq (tgt := 249) hx hb dL_law_244 rfl (fun _ => ?_) (fun h => absurd rfl h)
    refine lv_goto (tgt := 1473) hx hb dL_law_249 rfl ?_
    refine W.widen (k := cells + 30) (n := slots + 2000) (by omega) (by omega) ?_
    exact kk _ _ _ _ _ _ _ _ hd2 hP hS hz hl.two
  · refine z_SS (own := RL) hx hb hml hts hown hK hP hS hz hE (c_L_feed hq h4 hX hN hlt e1 (fun c h => by cases h; rfl)) kL_feed (tk4 (i := 235) (by decide +kernel) rfl) rfl rfl hl.1 (Nat.le_of_ble_eq_true rfl) ⟨Nat.le_of_ble_eq_true rfl, Nat.le_of_ble_eq_true rfl⟩ ⟨by omega, by omega⟩ dL_law_180 fun r u H1 locs1 hp hz hP hS => ?_
    rcases hp with ⟨a9, v9, hq9, -⟩ | ⟨c9, hq9, hr, hu1, hu2, hn2⟩
    · cases hq9
    cases hq9
    rw [hu1, hu2] at hP
    have hrt : r = 1 := hr.2
    have hr0 : ¬ r = 0 := by rw [hrt]; decide
    have hfd := s_feed (sh := sh) (n := u.2.2) (z := 5000) (a1 := xs (i + 1).toNatClampNeg) (a2 := xs (i + 2).toNatClampNeg) (a3 := xs (i + 3).toNatClampNeg) (a4 := xs (i + 4).toNatClampNeg) (a5 := xs (i + 5).toNatClampNeg) (by omega) hI (by omega) (by omega)
    rw [e1] at hfd
    obtain ⟨x, v1, v2, e1, -⟩ | ⟨y, v2, -, e2, e3, hI2⟩ := hfd
    · cases e1
    refine lv_istore (lv' := (5, .int r) :: LL Γ b i) hx hb dL_law_183 hl (by decide) rfl fun ls hl => ?_
    refine lv_aload_n hx hb dL_law_185 rfl (lv_at hl 3 rfl) ?_
    refine lv_aload_n hx hb dL_law_186 rfl (lv_at hl 5 rfl) ?_
    refine lv_iload hx hb dL_law_187 (lv_at hl 1 rfl) ?_
    refine lv_iconst (v := 1) hx hb dL_law_189 rfl ?_
    refine lv_iadd hx hb dL_law_190 ?_
    refine va_sld hx hb hsc hbl hbA hS (sc_in h0 h1 hL (a := 1) ⟨by decide, by decide⟩) dL_law_191 ?_
    refine lv_aload_n hx hb dL_law_192 rfl (lv_at hl 5 rfl) ?_
    refine lv_iload hx hb dL_law_193 (lv_at hl 1 rfl) ?_
    refine lv_iconst (v := 2) hx hb dL_law_195 rfl ?_
    refine lv_iadd hx hb dL_law_196 ?_
    refine va_sld hx hb hsc hbl hbA hS (sc_in h0 h1 hL (a := 2) ⟨by decide, by decide⟩) dL_law_197 ?_
    refine lv_aload_n hx hb dL_law_198 rfl (lv_at hl 5 rfl) ?_
    refine lv_iload hx hb dL_law_199 (lv_at hl 1 rfl) ?_
    refine lv_iconst (v := 3) hx hb dL_law_201 rfl ?_
    refine lv_iadd hx hb dL_law_202 ?_
    refine va_sld hx hb hsc hbl hbA hS (sc_in h0 h1 hL (a := 3) ⟨by decide, by decide⟩) dL_law_203 ?_
    refine lv_aload_n hx hb dL_law_204 rfl (lv_at hl 5 rfl) ?_
    refine lv_iload hx hb dL_law_205 (lv_at hl 1 rfl) ?_
    refine lv_iconst (v := 4) hx hb dL_law_207 rfl ?_
    refine lv_iadd hx hb dL_law_208 ?_
    refine va_sld hx hb hsc hbl hbA hS (sc_in h0 h1 hL (a := 4) ⟨by decide, by decide⟩) dL_law_209 ?_
    refine lv_aload_n hx hb dL_law_210 rfl (lv_at hl 5 rfl) ?_
    refine lv_iload hx hb dL_law_211 (lv_at hl 1 rfl) ?_
    refine lv_iconst (v := 5) hx hb dL_law_213 rfl ?_
    refine lv_iadd hx hb dL_law_214 ?_
    refine va_sld hx hb hsc hbl hbA hS (sc_in h0 h1 hL (a := 5) ⟨by decide, by decide⟩) dL_law_215 ?_
    refine z_VT (k := 149) (r1 := y) (u1 := (sh, v2, u.2.2)) hx hb hml hts hown hK hP hS hz hE (c_Model_feed hm (by omega) (by omega) e2) kX14_feed mL_85 hm.1 rfl rfl rfl hl.1 (Nat.le_of_ble_eq_true rfl) ⟨Nat.le_of_ble_eq_true rfl, Nat.le_of_ble_eq_true rfl⟩ ⟨by omega, by omega⟩ dL_law_216 fun H1 locs1 hz hP hS => ?_
    have hz : H1.size = Γ.2.1 + u.2.2 := hz
    have hP : Wd Γ sh v2 w H1 := hP
    have hd2 : LD sh v2 u.2.2 sp := hd.go hI2 hn2
    refine lv_istore (lv' := (6, .int y) :: (5, .int r) :: LL Γ b i) hx hb dL_law_219 hl (by decide) rfl fun ls hl => ?_
    refine lv_aload_n hx hb dL_law_221 rfl (lv_at hl 4 rfl) ?_
    refine z_Vi (k := 149) (r1 := v2 149 0) (v1 := v2) hx hb hml hts hown hK hP hS hz hE (c_Model_thrown (q := v2 149 0) hm rfl) kX14_thrown mL_86 hm.1 rfl rfl rfl hl.1 (Nat.le_of_ble_eq_true rfl) ⟨Nat.le_of_ble_eq_true rfl, Nat.le_of_ble_eq_true rfl⟩ ⟨by omega, by omega⟩ dL_law_222 fun H1 locs1 hz hP hS => ?_
    refine lv_iload hx hb dL_law_225 (lv_at hl 1 rfl) ?_
    refine lv_icmp_eq (tgt := 232) hx hb dL_law_227 rfl (fun _ => ?_) (fun hne => absurd (e3.trans hrt.symm) hne)
    refine lv_iload hx hb dL_law_232 (lv_at hl 1 rfl) ?_
    refine lv_if_ne (tgt := 249) hx hb dL_law_234 rfl (fun _ => ?_) (fun h => absurd h hr0)
    refine lv_goto (tgt := 1473) hx hb dL_law_249 rfl ?_
    refine W.widen (k := cells + 30) (n := slots + 2000) (by omega) (by omega) ?_
    exact kk _ _ _ _ _ _ _ _ hd2 hP hS hz hl.two
theorem turn_trim {p : Program} {l : Launch} {e : Env} {s : State} {m : MethodId} {args : Array Value} {below : List Frame} {meth : Method} {c : Code} {Q : State → Prop} {Γ : Cx} {b L cells slots : Nat} {xs : Nat → Int32} {i : Int32} (hc : LC Γ p s m args c b L xs) (hlt : l.stackTraces = false) (h0 : 0 ≤ i.toInt) (h1 : i.toInt + 6 ≤ L) (hrc : cells + 30 ≤ room_1.cells) (hrs : slots + 2000 ≤ room_1.slots) (kk : LK l Γ p e s m args below meth c b i (cells + 30) (slots + 2000) Q 1473) : LK l Γ p e s m args below meth c b i cells slots Q 252 := by
  intro sh v w n sp H locs ls hd hP hS hz hl
  obtain ⟨hx, hb, hml, hts, hown, hK, hE, hF, hX, hN, hsc, hbl, hbA, hL⟩ := hc
  have hq := hd.1
  have hm := hd.2.1
  have h4 := hd.2.2.1
  have hI := hd.2.2.2.1
  have hn := hd.2.2.2.2.1
  have hsp := hd.2.2.2.2.2

  refine lv_aload_n hx hb dL_law_252 rfl (lv_at hl 3 rfl) ?_
  refine lv_aload_n hx hb dL_law_253 rfl (lv_at hl 4 rfl) ?_
  refine lv_iload hx hb dL_law_254 (lv_at hl 0 rfl) ?_
  refine lv_iconst (v := 1) hx hb dL_law_256 rfl ?_
  refine lv_iadd hx hb dL_law_257 ?_
  refine va_sld hx hb hsc hbl hbA hS (sc_in h0 h1 hL (a := 1) ⟨by decide, by decide⟩) dL_law_258 ?_
  refine lv_aload_n hx hb dL_law_259 rfl (lv_at hl 1 rfl) ?_
  rcases s_trim (z := 5000) hI hsp (by omega) (xs (i + 1).toNatClampNeg) with ⟨x, v1, v2, e1, e2, e3, hI2⟩ | ⟨k, t, y, v2, hkt, e1, e2, e3, hI2⟩
  · refine z_SS (own := RL) hx hb hml hts hown hK hP hS hz hE (c_L_trim hq h4 hX hN hlt e1 (fun c h => by cases h)) kL_trim (tk5 (i := 75) (by decide +kernel) rfl) rfl rfl hl.1 (Nat.le_of_ble_eq_true rfl) ⟨Nat.le_of_ble_eq_true rfl, Nat.le_of_ble_eq_true rfl⟩ ⟨by omega, by omega⟩ dL_law_260 fun r u H1 locs1 hp hz hP hS => ?_
    rcases Or.symm hp with ⟨c9, hq9, -⟩ | ⟨a9, v9, hq9, rfl, rfl⟩
    · cases hq9
    cases hq9
    have hz : H1.size = Γ.2.1 + n := hz
    have hP : Wd Γ sh v1 (up w 194 (lu (w 194) 0 x.toInt64)) H1 := hP
    refine lv_istore (lv' := (5, .int 0) :: LL Γ b i) hx hb dL_law_263 hl (by decide) rfl fun ls hl => ?_
    refine lv_aload_n hx hb dL_law_265 rfl (lv_at hl 3 rfl) ?_
    refine lv_aload_n hx hb dL_law_266 rfl (lv_at hl 5 rfl) ?_
    refine lv_iload hx hb dL_law_267 (lv_at hl 1 rfl) ?_
    refine lv_iconst (v := 1) hx hb dL_law_269 rfl ?_
    refine lv_iadd hx hb dL_law_270 ?_
    refine va_sld hx hb hsc hbl hbA hS (sc_in h0 h1 hL (a := 1) ⟨by decide, by decide⟩) dL_law_271 ?_
    refine z_Vi (k := 149) (r1 := x) (v1 := v2) hx hb hml hts hown hK hP hS hz hE (c_Model_trim hm e2) kX14_trim mL_93 hm.1 rfl rfl rfl hl.1 (Nat.le_of_ble_eq_true rfl) ⟨Nat.le_of_ble_eq_true rfl, Nat.le_of_ble_eq_true rfl⟩ ⟨by omega, by omega⟩ dL_law_272 fun H1 locs1 hz hP hS => ?_
    have hd2 : LD sh v2 n sp := hd.go hI2 (Nat.le_refl _)
    refine lv_istore (lv' := (6, .int x) :: (5, .int 0) :: LL Γ b i) hx hb dL_law_275 hl (by decide) rfl fun ls hl => ?_
    refine lv_aload_n hx hb dL_law_277 rfl (lv_at hl 4 rfl) ?_
    refine z_Vi (k := 149) (r1 := v2 149 0) (v1 := v2) hx hb hml hts hown hK hP hS hz hE (c_Model_thrown (q := v2 149 0) hm rfl) kX14_thrown mL_86 hm.1 rfl rfl rfl hl.1 (Nat.le_of_ble_eq_true rfl) ⟨Nat.le_of_ble_eq_true rfl, Nat.le_of_ble_eq_true rfl⟩ ⟨by omega, by omega⟩ dL_law_278 fun H1 locs1 hz hP hS => ?_
    refine lv_iload hx hb dL_law_281 (lv_at hl 1 rfl) ?_
    refine lv_icmp_eq (tgt := 288) hx hb dL_law_283 rfl (fun _ => ?_) (fun hne => absurd e3 hne)
    refine lv_iload hx hb dL_law_288 (lv_at hl 1 rfl) ?_
    refine lv_if_ne (tgt := 305) hx hb dL_law_290 rfl (fun h => absurd rfl h) (fun _ => ?_)
    refine lv_aload_n hx hb dL_law_293 rfl (lv_at hl 3 rfl) ?_
    refine lv_iconst (v := 0) hx hb dL_law_294 rfl ?_
    refine w_lald (k := 194) (N := 1) hx hb hK hP h4 pin_1 dL_law_295 ?_
    rw [lu_0]
    refine lv_iload hx hb dL_law_296 (lv_at hl 0 rfl) ?_
    refine lv_i2l (v := x.toInt64) hx hb dL_law_298 rfl ?_
    refine lv_lcmpE hx hb dL_law_299 ?_
    refine lv_if_eq (tgt := 305) hx hb dL_law_300 rfl (fun _ => ?_) (fun h => absurd rfl h)
    refine lv_goto (tgt := 1473) hx hb dL_law_305 rfl ?_
    refine W.widen (k := cells + 30) (n := slots + 2000) (by omega) (by omega) ?_
    exact kk _ _ _ _ _ _ _ _ hd2 hP hS hz hl.two
  · simp only [List.mem_cons, Prod.mk.injEq, List.not_mem_nil, or_false] at hkt
    have hk9 : k = 1 := hkt.1
    refine z_SS (own := RL) hx hb hml hts hown hK hP hS hz hE (c_L_trim hq h4 hX hN hlt e1 (fun c h => by cases h; exact hk9)) kL_trim (tk5 (i := 75) (by decide +kernel) rfl) rfl rfl hl.1 (Nat.le_of_ble_eq_true rfl) ⟨Nat.le_of_ble_eq_true rfl, Nat.le_of_ble_eq_true rfl⟩ ⟨by omega, by omega⟩ dL_law_260 fun r u H1 locs1 hp hz hP hS => ?_
    rcases hp with ⟨a9, v9, hq9, -⟩ | ⟨c9, hq9, hr, hu1, hu2, hn2⟩
    · cases hq9
    cases hq9
    rw [hu1, hu2] at hP
    have hrt : r = t := hr.2.trans hkt.2.symm
    have hr0 : ¬ r = 0 := by rw [hr.2]; decide
    refine lv_istore (lv' := (5, .int r) :: LL Γ b i) hx hb dL_law_263 hl (by decide) rfl fun ls hl => ?_
    refine lv_aload_n hx hb dL_law_265 rfl (lv_at hl 3 rfl) ?_
    refine lv_aload_n hx hb dL_law_266 rfl (lv_at hl 5 rfl) ?_
    refine lv_iload hx hb dL_law_267 (lv_at hl 1 rfl) ?_
    refine lv_iconst (v := 1) hx hb dL_law_269 rfl ?_
    refine lv_iadd hx hb dL_law_270 ?_
    refine va_sld hx hb hsc hbl hbA hS (sc_in h0 h1 hL (a := 1) ⟨by decide, by decide⟩) dL_law_271 ?_
    refine z_Vi (k := 149) (r1 := y) (v1 := v2) hx hb hml hts hown hK hP hS hz hE (c_Model_trim hm e2) kX14_trim mL_93 hm.1 rfl rfl rfl hl.1 (Nat.le_of_ble_eq_true rfl) ⟨Nat.le_of_ble_eq_true rfl, Nat.le_of_ble_eq_true rfl⟩ ⟨by omega, by omega⟩ dL_law_272 fun H1 locs1 hz hP hS => ?_
    have hd2 : LD sh v2 u.2.2 sp := hd.go hI2 hn2
    refine lv_istore (lv' := (6, .int y) :: (5, .int r) :: LL Γ b i) hx hb dL_law_275 hl (by decide) rfl fun ls hl => ?_
    refine lv_aload_n hx hb dL_law_277 rfl (lv_at hl 4 rfl) ?_
    refine z_Vi (k := 149) (r1 := v2 149 0) (v1 := v2) hx hb hml hts hown hK hP hS hz hE (c_Model_thrown (q := v2 149 0) hm rfl) kX14_thrown mL_86 hm.1 rfl rfl rfl hl.1 (Nat.le_of_ble_eq_true rfl) ⟨Nat.le_of_ble_eq_true rfl, Nat.le_of_ble_eq_true rfl⟩ ⟨by omega, by omega⟩ dL_law_278 fun H1 locs1 hz hP hS => ?_
    refine lv_iload hx hb dL_law_281 (lv_at hl 1 rfl) ?_
    refine lv_icmp_eq (tgt := 288) hx hb dL_law_283 rfl (fun _ => ?_) (fun hne => absurd (e3.trans hrt.symm) hne)
    refine lv_iload hx hb dL_law_288 (lv_at hl 1 rfl) ?_
    refine lv_if_ne (tgt := 305) hx hb dL_law_290 rfl (fun _ => ?_) (fun h => absurd h hr0)
    refine lv_goto (tgt := 1473) hx hb dL_law_305 rfl ?_
    refine W.widen (k := cells + 30) (n := slots + 2000) (by omega) (by omega) ?_
    exact kk _ _ _ _ _ _ _ _ hd2 hP hS hz hl.two
theorem turn_count {p : Program} {l : Launch} {e : Env} {s : State} {m : MethodId} {args : Array Value} {below : List Frame} {meth : Method} {c : Code} {Q : State → Prop} {Γ : Cx} {b L cells slots : Nat} {xs : Nat → Int32} {i : Int32} (hc : LC Γ p s m args c b L xs) (hlt : l.stackTraces = false) (h0 : 0 ≤ i.toInt) (h1 : i.toInt + 6 ≤ L) (hrc : cells + 30 ≤ room_1.cells) (hrs : slots + 2000 ≤ room_1.slots) (kk : LK l Γ p e s m args below meth c b i (cells + 30) (slots + 2000) Q 1473) : LK l Γ p e s m args below meth c b i cells slots Q 334 := by
  intro sh v w n sp H locs ls hd hP hS hz hl
  obtain ⟨hx, hb, hml, hts, hown, hK, hE, hF, hX, hN, hsc, hbl, hbA, hL⟩ := hc
  have hq := hd.1
  have hm := hd.2.1
  have h4 := hd.2.2.1
  have hI := hd.2.2.2.1
  have hn := hd.2.2.2.2.1
  have hsp := hd.2.2.2.2.2

  refine lv_aload_n hx hb dL_law_334 rfl (lv_at hl 3 rfl) ?_
  refine lv_aload_n hx hb dL_law_335 rfl (lv_at hl 4 rfl) ?_
  refine lv_iload hx hb dL_law_336 (lv_at hl 0 rfl) ?_
  refine lv_iconst (v := 1) hx hb dL_law_338 rfl ?_
  refine lv_iadd hx hb dL_law_339 ?_
  refine va_sld hx hb hsc hbl hbA hS (sc_in h0 h1 hL (a := 1) ⟨by decide, by decide⟩) dL_law_340 ?_
  refine lv_aload_n hx hb dL_law_341 rfl (lv_at hl 1 rfl) ?_
  rcases s_count (z := 5000) (by omega) hI (xs (i + 1).toNatClampNeg) with ⟨x, v2, e1, e2, e3, hI2⟩ | ⟨k, t, y, v2, hkt, e1, e2, e3, hI2⟩
  · refine z_SS (own := RL) hx hb hml hts hown hK hP hS hz hE (c_L_count hq h4 hX hN hlt e1 (fun c h => by cases h)) kL_count (tk5 (i := 99) (by decide +kernel) rfl) rfl rfl hl.1 (Nat.le_of_ble_eq_true rfl) ⟨Nat.le_of_ble_eq_true rfl, Nat.le_of_ble_eq_true rfl⟩ ⟨by omega, by omega⟩ dL_law_342 fun r u H1 locs1 hp hz hP hS => ?_
    rcases Or.symm hp with ⟨c9, hq9, -⟩ | ⟨a9, hq9, rfl, rfl⟩
    · cases hq9
    cases hq9
    have hz : H1.size = Γ.2.1 + n := hz
    have hP : Wd Γ sh v (up w 194 (lu (w 194) 0 x.toInt64)) H1 := hP
    refine lv_istore (lv' := (5, .int 0) :: LL Γ b i) hx hb dL_law_345 hl (by decide) rfl fun ls hl => ?_
    refine lv_aload_n hx hb dL_law_347 rfl (lv_at hl 3 rfl) ?_
    refine lv_aload_n hx hb dL_law_348 rfl (lv_at hl 5 rfl) ?_
    refine lv_iload hx hb dL_law_349 (lv_at hl 1 rfl) ?_
    refine lv_iconst (v := 1) hx hb dL_law_351 rfl ?_
    refine lv_iadd hx hb dL_law_352 ?_
    refine va_sld hx hb hsc hbl hbA hS (sc_in h0 h1 hL (a := 1) ⟨by decide, by decide⟩) dL_law_353 ?_
    refine z_Vi (k := 149) (r1 := x) (v1 := v2) hx hb hml hts hown hK hP hS hz hE (c_Model_count hm e2) kX14_count mL_104 hm.1 rfl rfl rfl hl.1 (Nat.le_of_ble_eq_true rfl) ⟨Nat.le_of_ble_eq_true rfl, Nat.le_of_ble_eq_true rfl⟩ ⟨by omega, by omega⟩ dL_law_354 fun H1 locs1 hz hP hS => ?_
    have hd2 : LD sh v2 n sp := hd.go hI2 (Nat.le_refl _)
    refine lv_istore (lv' := (6, .int x) :: (5, .int 0) :: LL Γ b i) hx hb dL_law_357 hl (by decide) rfl fun ls hl => ?_
    refine lv_aload_n hx hb dL_law_359 rfl (lv_at hl 4 rfl) ?_
    refine z_Vi (k := 149) (r1 := v2 149 0) (v1 := v2) hx hb hml hts hown hK hP hS hz hE (c_Model_thrown (q := v2 149 0) hm rfl) kX14_thrown mL_86 hm.1 rfl rfl rfl hl.1 (Nat.le_of_ble_eq_true rfl) ⟨Nat.le_of_ble_eq_true rfl, Nat.le_of_ble_eq_true rfl⟩ ⟨by omega, by omega⟩ dL_law_360 fun H1 locs1 hz hP hS => ?_
    refine lv_iload hx hb dL_law_363 (lv_at hl 1 rfl) ?_
    refine lv_icmp_eq (tgt := 370) hx hb dL_law_365 rfl (fun _ => ?_) (fun hne => absurd e3 hne)
    refine lv_iload hx hb dL_law_370 (lv_at hl 1 rfl) ?_
    refine lv_if_ne (tgt := 387) hx hb dL_law_372 rfl (fun h => absurd rfl h) (fun _ => ?_)
    refine lv_aload_n hx hb dL_law_375 rfl (lv_at hl 3 rfl) ?_
    refine lv_iconst (v := 0) hx hb dL_law_376 rfl ?_
    refine w_lald (k := 194) (N := 1) hx hb hK hP h4 pin_1 dL_law_377 ?_
    rw [lu_0]
    refine lv_iload hx hb dL_law_378 (lv_at hl 0 rfl) ?_
    refine lv_i2l (v := x.toInt64) hx hb dL_law_380 rfl ?_
    refine lv_lcmpE hx hb dL_law_381 ?_
    refine lv_if_eq (tgt := 387) hx hb dL_law_382 rfl (fun _ => ?_) (fun h => absurd rfl h)
    refine lv_goto (tgt := 1473) hx hb dL_law_387 rfl ?_
    refine W.widen (k := cells + 30) (n := slots + 2000) (by omega) (by omega) ?_
    exact kk _ _ _ _ _ _ _ _ hd2 hP hS hz hl.two
  · simp only [List.mem_cons, Prod.mk.injEq, List.not_mem_nil, or_false] at hkt
    have hk9 : k = 2 := hkt.1
    refine z_SS (own := RL) hx hb hml hts hown hK hP hS hz hE (c_L_count hq h4 hX hN hlt e1 (fun c h => by cases h; exact hk9)) kL_count (tk5 (i := 99) (by decide +kernel) rfl) rfl rfl hl.1 (Nat.le_of_ble_eq_true rfl) ⟨Nat.le_of_ble_eq_true rfl, Nat.le_of_ble_eq_true rfl⟩ ⟨by omega, by omega⟩ dL_law_342 fun r u H1 locs1 hp hz hP hS => ?_
    rcases hp with ⟨a9, hq9, -⟩ | ⟨c9, hq9, hr, hu1, hu2, hn2⟩
    · cases hq9
    cases hq9
    rw [hu1, hu2] at hP
    have hrt : r = t := hr.2.trans hkt.2.symm
    have hr0 : ¬ r = 0 := by rw [hr.2]; decide
    refine lv_istore (lv' := (5, .int r) :: LL Γ b i) hx hb dL_law_345 hl (by decide) rfl fun ls hl => ?_
    refine lv_aload_n hx hb dL_law_347 rfl (lv_at hl 3 rfl) ?_
    refine lv_aload_n hx hb dL_law_348 rfl (lv_at hl 5 rfl) ?_
    refine lv_iload hx hb dL_law_349 (lv_at hl 1 rfl) ?_
    refine lv_iconst (v := 1) hx hb dL_law_351 rfl ?_
    refine lv_iadd hx hb dL_law_352 ?_
    refine va_sld hx hb hsc hbl hbA hS (sc_in h0 h1 hL (a := 1) ⟨by decide, by decide⟩) dL_law_353 ?_
    refine z_Vi (k := 149) (r1 := y) (v1 := v2) hx hb hml hts hown hK hP hS hz hE (c_Model_count hm e2) kX14_count mL_104 hm.1 rfl rfl rfl hl.1 (Nat.le_of_ble_eq_true rfl) ⟨Nat.le_of_ble_eq_true rfl, Nat.le_of_ble_eq_true rfl⟩ ⟨by omega, by omega⟩ dL_law_354 fun H1 locs1 hz hP hS => ?_
    have hd2 : LD sh v2 u.2.2 sp := hd.go hI2 hn2
    refine lv_istore (lv' := (6, .int y) :: (5, .int r) :: LL Γ b i) hx hb dL_law_357 hl (by decide) rfl fun ls hl => ?_
    refine lv_aload_n hx hb dL_law_359 rfl (lv_at hl 4 rfl) ?_
    refine z_Vi (k := 149) (r1 := v2 149 0) (v1 := v2) hx hb hml hts hown hK hP hS hz hE (c_Model_thrown (q := v2 149 0) hm rfl) kX14_thrown mL_86 hm.1 rfl rfl rfl hl.1 (Nat.le_of_ble_eq_true rfl) ⟨Nat.le_of_ble_eq_true rfl, Nat.le_of_ble_eq_true rfl⟩ ⟨by omega, by omega⟩ dL_law_360 fun H1 locs1 hz hP hS => ?_
    refine lv_iload hx hb dL_law_363 (lv_at hl 1 rfl) ?_
    refine lv_icmp_eq (tgt := 370) hx hb dL_law_365 rfl (fun _ => ?_) (fun hne => absurd (e3.trans hrt.symm) hne)
    refine lv_iload hx hb dL_law_370 (lv_at hl 1 rfl) ?_
    refine lv_if_ne (tgt := 387) hx hb dL_law_372 rfl (fun _ => ?_) (fun h => absurd h hr0)
    refine lv_goto (tgt := 1473) hx hb dL_law_387 rfl ?_
    refine W.widen (k := cells + 30) (n := slots + 2000) (by omega) (by omega) ?_
    exact kk _ _ _ _ _ _ _ _ hd2 hP hS hz hl.two
theorem turn_lot {p : Program} {l : Launch} {e : Env} {s : State} {m : MethodId} {args : Array Value} {below : List Frame} {meth : Method} {c : Code} {Q : State → Prop} {Γ : Cx} {b L cells slots : Nat} {xs : Nat → Int32} {i : Int32} (hc : LC Γ p s m args c b L xs) (hlt : l.stackTraces = false) (h0 : 0 ≤ i.toInt) (h1 : i.toInt + 6 ≤ L) (hrc : cells + 30 ≤ room_1.cells) (hrs : slots + 2000 ≤ room_1.slots) (kk : LK l Γ p e s m args below meth c b i (cells + 30) (slots + 2000) Q 1473) : LK l Γ p e s m args below meth c b i cells slots Q 390 := by
  intro sh v w n sp H locs ls hd hP hS hz hl
  obtain ⟨hx, hb, hml, hts, hown, hK, hE, hF, hX, hN, hsc, hbl, hbA, hL⟩ := hc
  have hq := hd.1
  have hm := hd.2.1
  have h4 := hd.2.2.1
  have hI := hd.2.2.2.1
  have hn := hd.2.2.2.2.1
  have hsp := hd.2.2.2.2.2

  refine lv_aload_n hx hb dL_law_390 rfl (lv_at hl 3 rfl) ?_
  refine lv_aload_n hx hb dL_law_391 rfl (lv_at hl 4 rfl) ?_
  refine lv_iload hx hb dL_law_392 (lv_at hl 0 rfl) ?_
  refine lv_iconst (v := 1) hx hb dL_law_394 rfl ?_
  refine lv_iadd hx hb dL_law_395 ?_
  refine va_sld hx hb hsc hbl hbA hS (sc_in h0 h1 hL (a := 1) ⟨by decide, by decide⟩) dL_law_396 ?_
  refine lv_aload_n hx hb dL_law_397 rfl (lv_at hl 4 rfl) ?_
  refine lv_iload hx hb dL_law_398 (lv_at hl 0 rfl) ?_
  refine lv_iconst (v := 2) hx hb dL_law_400 rfl ?_
  refine lv_iadd hx hb dL_law_401 ?_
  refine va_sld hx hb hsc hbl hbA hS (sc_in h0 h1 hL (a := 2) ⟨by decide, by decide⟩) dL_law_402 ?_
  refine lv_aload_n hx hb dL_law_403 rfl (lv_at hl 1 rfl) ?_
  rcases s_lot (z := 5000) hI (xs (i + 1).toNatClampNeg) (xs (i + 2).toNatClampNeg) with ⟨x, v2, e1, e2, e3, hI2⟩ | ⟨k, t, y, v2, hkt, e1, e2, e3, hI2⟩
  · refine z_SS (own := RL) hx hb hml hts hown hK hP hS hz hE (c_L_lot hq h4 hX hN hlt e1 (fun c h => by cases h)) kL_lot (tk5 (i := 123) (by decide +kernel) rfl) rfl rfl hl.1 (Nat.le_of_ble_eq_true rfl) ⟨Nat.le_of_ble_eq_true rfl, Nat.le_of_ble_eq_true rfl⟩ ⟨by omega, by omega⟩ dL_law_404 fun r u H1 locs1 hp hz hP hS => ?_
    rcases Or.symm hp with ⟨c9, hq9, -⟩ | ⟨a9, hq9, rfl, rfl⟩
    · cases hq9
    cases hq9
    have hz : H1.size = Γ.2.1 + n := hz
    have hP : Wd Γ sh v (up w 194 (lu (w 194) 0 x.toInt64)) H1 := hP
    refine lv_istore (lv' := (5, .int 0) :: LL Γ b i) hx hb dL_law_407 hl (by decide) rfl fun ls hl => ?_
    refine lv_aload_n hx hb dL_law_409 rfl (lv_at hl 3 rfl) ?_
    refine lv_aload_n hx hb dL_law_410 rfl (lv_at hl 5 rfl) ?_
    refine lv_iload hx hb dL_law_411 (lv_at hl 1 rfl) ?_
    refine lv_iconst (v := 1) hx hb dL_law_413 rfl ?_
    refine lv_iadd hx hb dL_law_414 ?_
    refine va_sld hx hb hsc hbl hbA hS (sc_in h0 h1 hL (a := 1) ⟨by decide, by decide⟩) dL_law_415 ?_
    refine lv_aload_n hx hb dL_law_416 rfl (lv_at hl 5 rfl) ?_
    refine lv_iload hx hb dL_law_417 (lv_at hl 1 rfl) ?_
    refine lv_iconst (v := 2) hx hb dL_law_419 rfl ?_
    refine lv_iadd hx hb dL_law_420 ?_
    refine va_sld hx hb hsc hbl hbA hS (sc_in h0 h1 hL (a := 2) ⟨by decide, by decide⟩) dL_law_421 ?_
    refine z_Vi (k := 149) (r1 := x) (v1 := v2) hx hb hml hts hown hK hP hS hz hE (c_Model_lot hm e2) kX14_lot mL_108 hm.1 rfl rfl rfl hl.1 (Nat.le_of_ble_eq_true rfl) ⟨Nat.le_of_ble_eq_true rfl, Nat.le_of_ble_eq_true rfl⟩ ⟨by omega, by omega⟩ dL_law_422 fun H1 locs1 hz hP hS => ?_
    have hd2 : LD sh v2 n sp := hd.go hI2 (Nat.le_refl _)
    refine lv_istore (lv' := (6, .int x) :: (5, .int 0) :: LL Γ b i) hx hb dL_law_425 hl (by decide) rfl fun ls hl => ?_
    refine lv_aload_n hx hb dL_law_427 rfl (lv_at hl 4 rfl) ?_
    refine z_Vi (k := 149) (r1 := v2 149 0) (v1 := v2) hx hb hml hts hown hK hP hS hz hE (c_Model_thrown (q := v2 149 0) hm rfl) kX14_thrown mL_86 hm.1 rfl rfl rfl hl.1 (Nat.le_of_ble_eq_true rfl) ⟨Nat.le_of_ble_eq_true rfl, Nat.le_of_ble_eq_true rfl⟩ ⟨by omega, by omega⟩ dL_law_428 fun H1 locs1 hz hP hS => ?_
    refine lv_iload hx hb dL_law_431 (lv_at hl 1 rfl) ?_
    refine lv_icmp_eq (tgt := 438) hx hb dL_law_433 rfl (fun _ => ?_) (fun hne => absurd e3 hne)
    refine lv_iload hx hb dL_law_438 (lv_at hl 1 rfl) ?_
    refine lv_if_ne (tgt := 455) hx hb dL_law_440 rfl (fun h => absurd rfl h) (fun _ => ?_)
    refine lv_aload_n hx hb dL_law_443 rfl (lv_at hl 3 rfl) ?_
    refine lv_iconst (v := 0) hx hb dL_law_444 rfl ?_
    refine w_lald (k := 194) (N := 1) hx hb hK hP h4 pin_1 dL_law_445 ?_
    rw [lu_0]
    refine lv_iload hx hb dL_law_446 (lv_at hl 0 rfl) ?_
    refine lv_i2l (v := x.toInt64) hx hb dL_law_448 rfl ?_
    refine lv_lcmpE hx hb dL_law_449 ?_
    refine lv_if_eq (tgt := 455) hx hb dL_law_450 rfl (fun _ => ?_) (fun h => absurd rfl h)
    refine lv_goto (tgt := 1473) hx hb dL_law_455 rfl ?_
    refine W.widen (k := cells + 30) (n := slots + 2000) (by omega) (by omega) ?_
    exact kk _ _ _ _ _ _ _ _ hd2 hP hS hz hl.two
  · simp only [List.mem_cons, Prod.mk.injEq, List.not_mem_nil, or_false] at hkt
    have hk9 : k = 2 := hkt.1
    refine z_SS (own := RL) hx hb hml hts hown hK hP hS hz hE (c_L_lot hq h4 hX hN hlt e1 (fun c h => by cases h; exact hk9)) kL_lot (tk5 (i := 123) (by decide +kernel) rfl) rfl rfl hl.1 (Nat.le_of_ble_eq_true rfl) ⟨Nat.le_of_ble_eq_true rfl, Nat.le_of_ble_eq_true rfl⟩ ⟨by omega, by omega⟩ dL_law_404 fun r u H1 locs1 hp hz hP hS => ?_
    rcases hp with ⟨a9, hq9, -⟩ | ⟨c9, hq9, hr, hu1, hu2, hn2⟩
    · cases hq9
    cases hq9
    rw [hu1, hu2] at hP
    have hrt : r = t := hr.2.trans hkt.2.symm
    have hr0 : ¬ r = 0 := by rw [hr.2]; decide
    refine lv_istore (lv' := (5, .int r) :: LL Γ b i) hx hb dL_law_407 hl (by decide) rfl fun ls hl => ?_
    refine lv_aload_n hx hb dL_law_409 rfl (lv_at hl 3 rfl) ?_
    refine lv_aload_n hx hb dL_law_410 rfl (lv_at hl 5 rfl) ?_
    refine lv_iload hx hb dL_law_411 (lv_at hl 1 rfl) ?_
    refine lv_iconst (v := 1) hx hb dL_law_413 rfl ?_
    refine lv_iadd hx hb dL_law_414 ?_
    refine va_sld hx hb hsc hbl hbA hS (sc_in h0 h1 hL (a := 1) ⟨by decide, by decide⟩) dL_law_415 ?_
    refine lv_aload_n hx hb dL_law_416 rfl (lv_at hl 5 rfl) ?_
    refine lv_iload hx hb dL_law_417 (lv_at hl 1 rfl) ?_
    refine lv_iconst (v := 2) hx hb dL_law_419 rfl ?_
    refine lv_iadd hx hb dL_law_420 ?_
    refine va_sld hx hb hsc hbl hbA hS (sc_in h0 h1 hL (a := 2) ⟨by decide, by decide⟩) dL_law_421 ?_
    refine z_Vi (k := 149) (r1 := y) (v1 := v2) hx hb hml hts hown hK hP hS hz hE (c_Model_lot hm e2) kX14_lot mL_108 hm.1 rfl rfl rfl hl.1 (Nat.le_of_ble_eq_true rfl) ⟨Nat.le_of_ble_eq_true rfl, Nat.le_of_ble_eq_true rfl⟩ ⟨by omega, by omega⟩ dL_law_422 fun H1 locs1 hz hP hS => ?_
    have hd2 : LD sh v2 u.2.2 sp := hd.go hI2 hn2
    refine lv_istore (lv' := (6, .int y) :: (5, .int r) :: LL Γ b i) hx hb dL_law_425 hl (by decide) rfl fun ls hl => ?_
    refine lv_aload_n hx hb dL_law_427 rfl (lv_at hl 4 rfl) ?_
    refine z_Vi (k := 149) (r1 := v2 149 0) (v1 := v2) hx hb hml hts hown hK hP hS hz hE (c_Model_thrown (q := v2 149 0) hm rfl) kX14_thrown mL_86 hm.1 rfl rfl rfl hl.1 (Nat.le_of_ble_eq_true rfl) ⟨Nat.le_of_ble_eq_true rfl, Nat.le_of_ble_eq_true rfl⟩ ⟨by omega, by omega⟩ dL_law_428 fun H1 locs1 hz hP hS => ?_
    refine lv_iload hx hb dL_law_431 (lv_at hl 1 rfl) ?_
    refine lv_icmp_eq (tgt := 438) hx hb dL_law_433 rfl (fun _ => ?_) (fun hne => absurd (e3.trans hrt.symm) hne)
    refine lv_iload hx hb dL_law_438 (lv_at hl 1 rfl) ?_
    refine lv_if_ne (tgt := 455) hx hb dL_law_440 rfl (fun _ => ?_) (fun h => absurd h hr0)
    refine lv_goto (tgt := 1473) hx hb dL_law_455 rfl ?_
    refine W.widen (k := cells + 30) (n := slots + 2000) (by omega) (by omega) ?_
    exact kk _ _ _ _ _ _ _ _ hd2 hP hS hz hl.two
theorem turn_merchant {p : Program} {l : Launch} {e : Env} {s : State} {m : MethodId} {args : Array Value} {below : List Frame} {meth : Method} {c : Code} {Q : State → Prop} {Γ : Cx} {b L cells slots : Nat} {xs : Nat → Int32} {i : Int32} (hc : LC Γ p s m args c b L xs) (hlt : l.stackTraces = false) (h0 : 0 ≤ i.toInt) (h1 : i.toInt + 6 ≤ L) (hrc : cells + 30 ≤ room_1.cells) (hrs : slots + 2000 ≤ room_1.slots) (kk : LK l Γ p e s m args below meth c b i (cells + 30) (slots + 2000) Q 1473) : LK l Γ p e s m args below meth c b i cells slots Q 458 := by
  intro sh v w n sp H locs ls hd hP hS hz hl
  obtain ⟨hx, hb, hml, hts, hown, hK, hE, hF, hX, hN, hsc, hbl, hbA, hL⟩ := hc
  have hq := hd.1
  have hm := hd.2.1
  have h4 := hd.2.2.1
  have hI := hd.2.2.2.1
  have hn := hd.2.2.2.2.1
  have hsp := hd.2.2.2.2.2

  refine lv_aload_n hx hb dL_law_458 rfl (lv_at hl 3 rfl) ?_
  refine lv_aload_n hx hb dL_law_459 rfl (lv_at hl 4 rfl) ?_
  refine lv_iload hx hb dL_law_460 (lv_at hl 0 rfl) ?_
  refine lv_iconst (v := 1) hx hb dL_law_462 rfl ?_
  refine lv_iadd hx hb dL_law_463 ?_
  refine va_sld hx hb hsc hbl hbA hS (sc_in h0 h1 hL (a := 1) ⟨by decide, by decide⟩) dL_law_464 ?_
  refine lv_aload_n hx hb dL_law_465 rfl (lv_at hl 4 rfl) ?_
  refine lv_iload hx hb dL_law_466 (lv_at hl 0 rfl) ?_
  refine lv_iconst (v := 2) hx hb dL_law_468 rfl ?_
  refine lv_iadd hx hb dL_law_469 ?_
  refine va_sld hx hb hsc hbl hbA hS (sc_in h0 h1 hL (a := 2) ⟨by decide, by decide⟩) dL_law_470 ?_
  refine lv_aload_n hx hb dL_law_471 rfl (lv_at hl 1 rfl) ?_
  rcases s_merchant (z := 5000) (by omega) hI (xs (i + 1).toNatClampNeg) (xs (i + 2).toNatClampNeg) with ⟨x, v2, e1, e2, e3, hI2⟩ | ⟨k, t, y, v2, hkt, e1, e2, e3, hI2⟩
  · refine z_SS (own := RL) hx hb hml hts hown hK hP hS hz hE (c_L_merchant hq h4 hX hN hlt e1 (fun c h => by cases h)) kL_merchant (tk5 (i := 135) (by decide +kernel) rfl) rfl rfl hl.1 (Nat.le_of_ble_eq_true rfl) ⟨Nat.le_of_ble_eq_true rfl, Nat.le_of_ble_eq_true rfl⟩ ⟨by omega, by omega⟩ dL_law_472 fun r u H1 locs1 hp hz hP hS => ?_
    rcases Or.symm hp with ⟨c9, hq9, -⟩ | ⟨a9, hq9, rfl, rfl⟩
    · cases hq9
    cases hq9
    have hz : H1.size = Γ.2.1 + n := hz
    have hP : Wd Γ sh v (up w 194 (lu (w 194) 0 x.toInt64)) H1 := hP
    refine lv_istore (lv' := (5, .int 0) :: LL Γ b i) hx hb dL_law_475 hl (by decide) rfl fun ls hl => ?_
    refine lv_aload_n hx hb dL_law_477 rfl (lv_at hl 3 rfl) ?_
    refine lv_aload_n hx hb dL_law_478 rfl (lv_at hl 5 rfl) ?_
    refine lv_iload hx hb dL_law_479 (lv_at hl 1 rfl) ?_
    refine lv_iconst (v := 1) hx hb dL_law_481 rfl ?_
    refine lv_iadd hx hb dL_law_482 ?_
    refine va_sld hx hb hsc hbl hbA hS (sc_in h0 h1 hL (a := 1) ⟨by decide, by decide⟩) dL_law_483 ?_
    refine lv_aload_n hx hb dL_law_484 rfl (lv_at hl 5 rfl) ?_
    refine lv_iload hx hb dL_law_485 (lv_at hl 1 rfl) ?_
    refine lv_iconst (v := 2) hx hb dL_law_487 rfl ?_
    refine lv_iadd hx hb dL_law_488 ?_
    refine va_sld hx hb hsc hbl hbA hS (sc_in h0 h1 hL (a := 2) ⟨by decide, by decide⟩) dL_law_489 ?_
    refine z_Vi (k := 149) (r1 := x) (v1 := v2) hx hb hml hts hown hK hP hS hz hE (c_Model_merchant hm e2) kX14_merchant mL_111 hm.1 rfl rfl rfl hl.1 (Nat.le_of_ble_eq_true rfl) ⟨Nat.le_of_ble_eq_true rfl, Nat.le_of_ble_eq_true rfl⟩ ⟨by omega, by omega⟩ dL_law_490 fun H1 locs1 hz hP hS => ?_
    have hd2 : LD sh v2 n sp := hd.go hI2 (Nat.le_refl _)
    refine lv_istore (lv' := (6, .int x) :: (5, .int 0) :: LL Γ b i) hx hb dL_law_493 hl (by decide) rfl fun ls hl => ?_
    refine lv_aload_n hx hb dL_law_495 rfl (lv_at hl 4 rfl) ?_
    refine z_Vi (k := 149) (r1 := v2 149 0) (v1 := v2) hx hb hml hts hown hK hP hS hz hE (c_Model_thrown (q := v2 149 0) hm rfl) kX14_thrown mL_86 hm.1 rfl rfl rfl hl.1 (Nat.le_of_ble_eq_true rfl) ⟨Nat.le_of_ble_eq_true rfl, Nat.le_of_ble_eq_true rfl⟩ ⟨by omega, by omega⟩ dL_law_496 fun H1 locs1 hz hP hS => ?_
    refine lv_iload hx hb dL_law_499 (lv_at hl 1 rfl) ?_
    refine lv_icmp_eq (tgt := 506) hx hb dL_law_501 rfl (fun _ => ?_) (fun hne => absurd e3 hne)
    refine lv_iload hx hb dL_law_506 (lv_at hl 1 rfl) ?_
    refine lv_if_ne (tgt := 523) hx hb dL_law_508 rfl (fun h => absurd rfl h) (fun _ => ?_)
    refine lv_aload_n hx hb dL_law_511 rfl (lv_at hl 3 rfl) ?_
    refine lv_iconst (v := 0) hx hb dL_law_512 rfl ?_
    refine w_lald (k := 194) (N := 1) hx hb hK hP h4 pin_1 dL_law_513 ?_
    rw [lu_0]
    refine lv_iload hx hb dL_law_514 (lv_at hl 0 rfl) ?_
    refine lv_i2l (v := x.toInt64) hx hb dL_law_516 rfl ?_
    refine lv_lcmpE hx hb dL_law_517 ?_
    refine lv_if_eq (tgt := 523) hx hb dL_law_518 rfl (fun _ => ?_) (fun h => absurd rfl h)
    refine lv_goto (tgt := 1473) hx hb dL_law_523 rfl ?_
    refine W.widen (k := cells + 30) (n := slots + 2000) (by omega) (by omega) ?_
    exact kk _ _ _ _ _ _ _ _ hd2 hP hS hz hl.two
  · simp only [List.mem_cons, Prod.mk.injEq, List.not_mem_nil, or_false] at hkt
    have hk9 : k = 2 := hkt.1
    refine z_SS (own := RL) hx hb hml hts hown hK hP hS hz hE (c_L_merchant hq h4 hX hN hlt e1 (fun c h => by cases h; exact hk9)) kL_merchant (tk5 (i := 135) (by decide +kernel) rfl) rfl rfl hl.1 (Nat.le_of_ble_eq_true rfl) ⟨Nat.le_of_ble_eq_true rfl, Nat.le_of_ble_eq_true rfl⟩ ⟨by omega, by omega⟩ dL_law_472 fun r u H1 locs1 hp hz hP hS => ?_
    rcases hp with ⟨a9, hq9, -⟩ | ⟨c9, hq9, hr, hu1, hu2, hn2⟩
    · cases hq9
    cases hq9
    rw [hu1, hu2] at hP
    have hrt : r = t := hr.2.trans hkt.2.symm
    have hr0 : ¬ r = 0 := by rw [hr.2]; decide
    refine lv_istore (lv' := (5, .int r) :: LL Γ b i) hx hb dL_law_475 hl (by decide) rfl fun ls hl => ?_
    refine lv_aload_n hx hb dL_law_477 rfl (lv_at hl 3 rfl) ?_
    refine lv_aload_n hx hb dL_law_478 rfl (lv_at hl 5 rfl) ?_
    refine lv_iload hx hb dL_law_479 (lv_at hl 1 rfl) ?_
    refine lv_iconst (v := 1) hx hb dL_law_481 rfl ?_
    refine lv_iadd hx hb dL_law_482 ?_
    refine va_sld hx hb hsc hbl hbA hS (sc_in h0 h1 hL (a := 1) ⟨by decide, by decide⟩) dL_law_483 ?_
    refine lv_aload_n hx hb dL_law_484 rfl (lv_at hl 5 rfl) ?_
    refine lv_iload hx hb dL_law_485 (lv_at hl 1 rfl) ?_
    refine lv_iconst (v := 2) hx hb dL_law_487 rfl ?_
    refine lv_iadd hx hb dL_law_488 ?_
    refine va_sld hx hb hsc hbl hbA hS (sc_in h0 h1 hL (a := 2) ⟨by decide, by decide⟩) dL_law_489 ?_
    refine z_Vi (k := 149) (r1 := y) (v1 := v2) hx hb hml hts hown hK hP hS hz hE (c_Model_merchant hm e2) kX14_merchant mL_111 hm.1 rfl rfl rfl hl.1 (Nat.le_of_ble_eq_true rfl) ⟨Nat.le_of_ble_eq_true rfl, Nat.le_of_ble_eq_true rfl⟩ ⟨by omega, by omega⟩ dL_law_490 fun H1 locs1 hz hP hS => ?_
    have hd2 : LD sh v2 u.2.2 sp := hd.go hI2 hn2
    refine lv_istore (lv' := (6, .int y) :: (5, .int r) :: LL Γ b i) hx hb dL_law_493 hl (by decide) rfl fun ls hl => ?_
    refine lv_aload_n hx hb dL_law_495 rfl (lv_at hl 4 rfl) ?_
    refine z_Vi (k := 149) (r1 := v2 149 0) (v1 := v2) hx hb hml hts hown hK hP hS hz hE (c_Model_thrown (q := v2 149 0) hm rfl) kX14_thrown mL_86 hm.1 rfl rfl rfl hl.1 (Nat.le_of_ble_eq_true rfl) ⟨Nat.le_of_ble_eq_true rfl, Nat.le_of_ble_eq_true rfl⟩ ⟨by omega, by omega⟩ dL_law_496 fun H1 locs1 hz hP hS => ?_
    refine lv_iload hx hb dL_law_499 (lv_at hl 1 rfl) ?_
    refine lv_icmp_eq (tgt := 506) hx hb dL_law_501 rfl (fun _ => ?_) (fun hne => absurd (e3.trans hrt.symm) hne)
    refine lv_iload hx hb dL_law_506 (lv_at hl 1 rfl) ?_
    refine lv_if_ne (tgt := 523) hx hb dL_law_508 rfl (fun _ => ?_) (fun h => absurd h hr0)
    refine lv_goto (tgt := 1473) hx hb dL_law_523 rfl ?_
    refine W.widen (k := cells + 30) (n := slots + 2000) (by omega) (by omega) ?_
    exact kk _ _ _ _ _ _ _ _ hd2 hP hS hz hl.two
theorem turn_guild {p : Program} {l : Launch} {e : Env} {s : State} {m : MethodId} {args : Array Value} {below : List Frame} {meth : Method} {c : Code} {Q : State → Prop} {Γ : Cx} {b L cells slots : Nat} {xs : Nat → Int32} {i : Int32} (hc : LC Γ p s m args c b L xs) (hlt : l.stackTraces = false) (h0 : 0 ≤ i.toInt) (h1 : i.toInt + 6 ≤ L) (hrc : cells + 30 ≤ room_1.cells) (hrs : slots + 2000 ≤ room_1.slots) (kk : LK l Γ p e s m args below meth c b i (cells + 30) (slots + 2000) Q 1473) : LK l Γ p e s m args below meth c b i cells slots Q 526 := by
  intro sh v w n sp H locs ls hd hP hS hz hl
  obtain ⟨hx, hb, hml, hts, hown, hK, hE, hF, hX, hN, hsc, hbl, hbA, hL⟩ := hc
  have hq := hd.1
  have hm := hd.2.1
  have h4 := hd.2.2.1
  have hI := hd.2.2.2.1
  have hn := hd.2.2.2.2.1
  have hsp := hd.2.2.2.2.2

  refine lv_aload_n hx hb dL_law_526 rfl (lv_at hl 3 rfl) ?_
  refine lv_aload_n hx hb dL_law_527 rfl (lv_at hl 4 rfl) ?_
  refine lv_iload hx hb dL_law_528 (lv_at hl 0 rfl) ?_
  refine lv_iconst (v := 1) hx hb dL_law_530 rfl ?_
  refine lv_iadd hx hb dL_law_531 ?_
  refine va_sld hx hb hsc hbl hbA hS (sc_in h0 h1 hL (a := 1) ⟨by decide, by decide⟩) dL_law_532 ?_
  refine lv_aload_n hx hb dL_law_533 rfl (lv_at hl 4 rfl) ?_
  refine lv_iload hx hb dL_law_534 (lv_at hl 0 rfl) ?_
  refine lv_iconst (v := 2) hx hb dL_law_536 rfl ?_
  refine lv_iadd hx hb dL_law_537 ?_
  refine va_sld hx hb hsc hbl hbA hS (sc_in h0 h1 hL (a := 2) ⟨by decide, by decide⟩) dL_law_538 ?_
  refine lv_aload_n hx hb dL_law_539 rfl (lv_at hl 1 rfl) ?_
  rcases s_guild (z := 5000) (by omega) hI (xs (i + 1).toNatClampNeg) (xs (i + 2).toNatClampNeg) with ⟨x, v2, e1, e2, e3, hI2⟩ | ⟨k, t, y, v2, hkt, e1, e2, e3, hI2⟩
  · refine z_SS (own := RL) hx hb hml hts hown hK hP hS hz hE (c_L_guild hq h4 hX hN hlt e1 (fun c h => by cases h)) kL_guild (tk5 (i := 147) (by decide +kernel) rfl) rfl rfl hl.1 (Nat.le_of_ble_eq_true rfl) ⟨Nat.le_of_ble_eq_true rfl, Nat.le_of_ble_eq_true rfl⟩ ⟨by omega, by omega⟩ dL_law_540 fun r u H1 locs1 hp hz hP hS => ?_
    rcases Or.symm hp with ⟨c9, hq9, -⟩ | ⟨a9, hq9, rfl, rfl⟩
    · cases hq9
    cases hq9
    have hz : H1.size = Γ.2.1 + n := hz
    have hP : Wd Γ sh v (up w 194 (lu (w 194) 0 x.toInt64)) H1 := hP
    refine lv_istore (lv' := (5, .int 0) :: LL Γ b i) hx hb dL_law_543 hl (by decide) rfl fun ls hl => ?_
    refine lv_aload_n hx hb dL_law_545 rfl (lv_at hl 3 rfl) ?_
    refine lv_aload_n hx hb dL_law_546 rfl (lv_at hl 5 rfl) ?_
    refine lv_iload hx hb dL_law_547 (lv_at hl 1 rfl) ?_
    refine lv_iconst (v := 1) hx hb dL_law_549 rfl ?_
    refine lv_iadd hx hb dL_law_550 ?_
    refine va_sld hx hb hsc hbl hbA hS (sc_in h0 h1 hL (a := 1) ⟨by decide, by decide⟩) dL_law_551 ?_
    refine lv_aload_n hx hb dL_law_552 rfl (lv_at hl 5 rfl) ?_
    refine lv_iload hx hb dL_law_553 (lv_at hl 1 rfl) ?_
    refine lv_iconst (v := 2) hx hb dL_law_555 rfl ?_
    refine lv_iadd hx hb dL_law_556 ?_
    refine va_sld hx hb hsc hbl hbA hS (sc_in h0 h1 hL (a := 2) ⟨by decide, by decide⟩) dL_law_557 ?_
    refine z_Vi (k := 149) (r1 := x) (v1 := v2) hx hb hml hts hown hK hP hS hz hE (c_Model_guild hm e2) kX14_guild mL_114 hm.1 rfl rfl rfl hl.1 (Nat.le_of_ble_eq_true rfl) ⟨Nat.le_of_ble_eq_true rfl, Nat.le_of_ble_eq_true rfl⟩ ⟨by omega, by omega⟩ dL_law_558 fun H1 locs1 hz hP hS => ?_
    have hd2 : LD sh v2 n sp := hd.go hI2 (Nat.le_refl _)
    refine lv_istore (lv' := (6, .int x) :: (5, .int 0) :: LL Γ b i) hx hb dL_law_561 hl (by decide) rfl fun ls hl => ?_
    refine lv_aload_n hx hb dL_law_563 rfl (lv_at hl 4 rfl) ?_
    refine z_Vi (k := 149) (r1 := v2 149 0) (v1 := v2) hx hb hml hts hown hK hP hS hz hE (c_Model_thrown (q := v2 149 0) hm rfl) kX14_thrown mL_86 hm.1 rfl rfl rfl hl.1 (Nat.le_of_ble_eq_true rfl) ⟨Nat.le_of_ble_eq_true rfl, Nat.le_of_ble_eq_true rfl⟩ ⟨by omega, by omega⟩ dL_law_564 fun H1 locs1 hz hP hS => ?_
    refine lv_iload hx hb dL_law_567 (lv_at hl 1 rfl) ?_
    refine lv_icmp_eq (tgt := 574) hx hb dL_law_569 rfl (fun _ => ?_) (fun hne => absurd e3 hne)
    refine lv_iload hx hb dL_law_574 (lv_at hl 1 rfl) ?_
    refine lv_if_ne (tgt := 591) hx hb dL_law_576 rfl (fun h => absurd rfl h) (fun _ => ?_)
    refine lv_aload_n hx hb dL_law_579 rfl (lv_at hl 3 rfl) ?_
    refine lv_iconst (v := 0) hx hb dL_law_580 rfl ?_
    refine w_lald (k := 194) (N := 1) hx hb hK hP h4 pin_1 dL_law_581 ?_
    rw [lu_0]
    refine lv_iload hx hb dL_law_582 (lv_at hl 0 rfl) ?_
    refine lv_i2l (v := x.toInt64) hx hb dL_law_584 rfl ?_
    refine lv_lcmpE hx hb dL_law_585 ?_
    refine lv_if_eq (tgt := 591) hx hb dL_law_586 rfl (fun _ => ?_) (fun h => absurd rfl h)
    refine lv_goto (tgt := 1473) hx hb dL_law_591 rfl ?_
    refine W.widen (k := cells + 30) (n := slots + 2000) (by omega) (by omega) ?_
    exact kk _ _ _ _ _ _ _ _ hd2 hP hS hz hl.two
  · simp only [List.mem_cons, Prod.mk.injEq, List.not_mem_nil, or_false] at hkt
    have hk9 : k = 2 := hkt.1
    refine z_SS (own := RL) hx hb hml hts hown hK hP hS hz hE (c_L_guild hq h4 hX hN hlt e1 (fun c h => by cases h; exact hk9)) kL_guild (tk5 (i := 147) (by decide +kernel) rfl) rfl rfl hl.1 (Nat.le_of_ble_eq_true rfl) ⟨Nat.le_of_ble_eq_true rfl, Nat.le_of_ble_eq_true rfl⟩ ⟨by omega, by omega⟩ dL_law_540 fun r u H1 locs1 hp hz hP hS => ?_
    rcases hp with ⟨a9, hq9, -⟩ | ⟨c9, hq9, hr, hu1, hu2, hn2⟩
    · cases hq9
    cases hq9
    rw [hu1, hu2] at hP
    have hrt : r = t := hr.2.trans hkt.2.symm
    have hr0 : ¬ r = 0 := by rw [hr.2]; decide
    refine lv_istore (lv' := (5, .int r) :: LL Γ b i) hx hb dL_law_543 hl (by decide) rfl fun ls hl => ?_
    refine lv_aload_n hx hb dL_law_545 rfl (lv_at hl 3 rfl) ?_
    refine lv_aload_n hx hb dL_law_546 rfl (lv_at hl 5 rfl) ?_
    refine lv_iload hx hb dL_law_547 (lv_at hl 1 rfl) ?_
    refine lv_iconst (v := 1) hx hb dL_law_549 rfl ?_
    refine lv_iadd hx hb dL_law_550 ?_
    refine va_sld hx hb hsc hbl hbA hS (sc_in h0 h1 hL (a := 1) ⟨by decide, by decide⟩) dL_law_551 ?_
    refine lv_aload_n hx hb dL_law_552 rfl (lv_at hl 5 rfl) ?_
    refine lv_iload hx hb dL_law_553 (lv_at hl 1 rfl) ?_
    refine lv_iconst (v := 2) hx hb dL_law_555 rfl ?_
    refine lv_iadd hx hb dL_law_556 ?_
    refine va_sld hx hb hsc hbl hbA hS (sc_in h0 h1 hL (a := 2) ⟨by decide, by decide⟩) dL_law_557 ?_
    refine z_Vi (k := 149) (r1 := y) (v1 := v2) hx hb hml hts hown hK hP hS hz hE (c_Model_guild hm e2) kX14_guild mL_114 hm.1 rfl rfl rfl hl.1 (Nat.le_of_ble_eq_true rfl) ⟨Nat.le_of_ble_eq_true rfl, Nat.le_of_ble_eq_true rfl⟩ ⟨by omega, by omega⟩ dL_law_558 fun H1 locs1 hz hP hS => ?_
    have hd2 : LD sh v2 u.2.2 sp := hd.go hI2 hn2
    refine lv_istore (lv' := (6, .int y) :: (5, .int r) :: LL Γ b i) hx hb dL_law_561 hl (by decide) rfl fun ls hl => ?_
    refine lv_aload_n hx hb dL_law_563 rfl (lv_at hl 4 rfl) ?_
    refine z_Vi (k := 149) (r1 := v2 149 0) (v1 := v2) hx hb hml hts hown hK hP hS hz hE (c_Model_thrown (q := v2 149 0) hm rfl) kX14_thrown mL_86 hm.1 rfl rfl rfl hl.1 (Nat.le_of_ble_eq_true rfl) ⟨Nat.le_of_ble_eq_true rfl, Nat.le_of_ble_eq_true rfl⟩ ⟨by omega, by omega⟩ dL_law_564 fun H1 locs1 hz hP hS => ?_
    refine lv_iload hx hb dL_law_567 (lv_at hl 1 rfl) ?_
    refine lv_icmp_eq (tgt := 574) hx hb dL_law_569 rfl (fun _ => ?_) (fun hne => absurd (e3.trans hrt.symm) hne)
    refine lv_iload hx hb dL_law_574 (lv_at hl 1 rfl) ?_
    refine lv_if_ne (tgt := 591) hx hb dL_law_576 rfl (fun _ => ?_) (fun h => absurd h hr0)
    refine lv_goto (tgt := 1473) hx hb dL_law_591 rfl ?_
    refine W.widen (k := cells + 30) (n := slots + 2000) (by omega) (by omega) ?_
    exact kk _ _ _ _ _ _ _ _ hd2 hP hS hz hl.two
theorem turn_order {p : Program} {l : Launch} {e : Env} {s : State} {m : MethodId} {args : Array Value} {below : List Frame} {meth : Method} {c : Code} {Q : State → Prop} {Γ : Cx} {b L cells slots : Nat} {xs : Nat → Int32} {i : Int32} (hc : LC Γ p s m args c b L xs) (hlt : l.stackTraces = false) (h0 : 0 ≤ i.toInt) (h1 : i.toInt + 6 ≤ L) (hrc : cells + 30 ≤ room_1.cells) (hrs : slots + 2000 ≤ room_1.slots) (kk : LK l Γ p e s m args below meth c b i (cells + 30) (slots + 2000) Q 1473) : LK l Γ p e s m args below meth c b i cells slots Q 594 := by
  intro sh v w n sp H locs ls hd hP hS hz hl
  obtain ⟨hx, hb, hml, hts, hown, hK, hE, hF, hX, hN, hsc, hbl, hbA, hL⟩ := hc
  have hq := hd.1
  have hm := hd.2.1
  have h4 := hd.2.2.1
  have hI := hd.2.2.2.1
  have hn := hd.2.2.2.2.1
  have hsp := hd.2.2.2.2.2

  refine lv_aload_n hx hb dL_law_594 rfl (lv_at hl 3 rfl) ?_
  refine lv_aload_n hx hb dL_law_595 rfl (lv_at hl 4 rfl) ?_
  refine lv_iload hx hb dL_law_596 (lv_at hl 0 rfl) ?_
  refine lv_iconst (v := 1) hx hb dL_law_598 rfl ?_
  refine lv_iadd hx hb dL_law_599 ?_
  refine va_sld hx hb hsc hbl hbA hS (sc_in h0 h1 hL (a := 1) ⟨by decide, by decide⟩) dL_law_600 ?_
  refine lv_aload_n hx hb dL_law_601 rfl (lv_at hl 4 rfl) ?_
  refine lv_iload hx hb dL_law_602 (lv_at hl 0 rfl) ?_
  refine lv_iconst (v := 2) hx hb dL_law_604 rfl ?_
  refine lv_iadd hx hb dL_law_605 ?_
  refine va_sld hx hb hsc hbl hbA hS (sc_in h0 h1 hL (a := 2) ⟨by decide, by decide⟩) dL_law_606 ?_
  refine lv_aload_n hx hb dL_law_607 rfl (lv_at hl 1 rfl) ?_
  rcases s_order (z := 5000) (by omega) hI (xs (i + 1).toNatClampNeg) (xs (i + 2).toNatClampNeg) with ⟨x, v1, v2, e1, e2, e3, hI2⟩ | ⟨k, t, y, v2, hkt, e1, e2, e3, hI2⟩
  · refine z_SS (own := RL) hx hb hml hts hown hK hP hS hz hE (c_L_order hq h4 hX hN hlt e1 (fun c h => by cases h)) kL_order (tk5 (i := 155) (by decide +kernel) rfl) rfl rfl hl.1 (Nat.le_of_ble_eq_true rfl) ⟨Nat.le_of_ble_eq_true rfl, Nat.le_of_ble_eq_true rfl⟩ ⟨by omega, by omega⟩ dL_law_608 fun r u H1 locs1 hp hz hP hS => ?_
    rcases Or.symm hp with ⟨c9, hq9, -⟩ | ⟨a9, v9, hq9, rfl, rfl⟩
    · cases hq9
    cases hq9
    have hz : H1.size = Γ.2.1 + n := hz
    have hP : Wd Γ sh v1 (up w 194 (lu (w 194) 0 x.toInt64)) H1 := hP
    refine lv_istore (lv' := (5, .int 0) :: LL Γ b i) hx hb dL_law_611 hl (by decide) rfl fun ls hl => ?_
    refine lv_aload_n hx hb dL_law_613 rfl (lv_at hl 3 rfl) ?_
    refine lv_aload_n hx hb dL_law_614 rfl (lv_at hl 5 rfl) ?_
    refine lv_iload hx hb dL_law_615 (lv_at hl 1 rfl) ?_
    refine lv_iconst (v := 1) hx hb dL_law_617 rfl ?_
    refine lv_iadd hx hb dL_law_618 ?_
    refine va_sld hx hb hsc hbl hbA hS (sc_in h0 h1 hL (a := 1) ⟨by decide, by decide⟩) dL_law_619 ?_
    refine lv_aload_n hx hb dL_law_620 rfl (lv_at hl 5 rfl) ?_
    refine lv_iload hx hb dL_law_621 (lv_at hl 1 rfl) ?_
    refine lv_iconst (v := 2) hx hb dL_law_623 rfl ?_
    refine lv_iadd hx hb dL_law_624 ?_
    refine va_sld hx hb hsc hbl hbA hS (sc_in h0 h1 hL (a := 2) ⟨by decide, by decide⟩) dL_law_625 ?_
    refine z_Vi (k := 149) (r1 := x) (v1 := v2) hx hb hml hts hown hK hP hS hz hE (c_Model_order hm e2) kX14_order mL_117 hm.1 rfl rfl rfl hl.1 (Nat.le_of_ble_eq_true rfl) ⟨Nat.le_of_ble_eq_true rfl, Nat.le_of_ble_eq_true rfl⟩ ⟨by omega, by omega⟩ dL_law_626 fun H1 locs1 hz hP hS => ?_
    have hd2 : LD sh v2 n sp := hd.go hI2 (Nat.le_refl _)
    refine lv_istore (lv' := (6, .int x) :: (5, .int 0) :: LL Γ b i) hx hb dL_law_629 hl (by decide) rfl fun ls hl => ?_
    refine lv_aload_n hx hb dL_law_631 rfl (lv_at hl 4 rfl) ?_
    refine z_Vi (k := 149) (r1 := v2 149 0) (v1 := v2) hx hb hml hts hown hK hP hS hz hE (c_Model_thrown (q := v2 149 0) hm rfl) kX14_thrown mL_86 hm.1 rfl rfl rfl hl.1 (Nat.le_of_ble_eq_true rfl) ⟨Nat.le_of_ble_eq_true rfl, Nat.le_of_ble_eq_true rfl⟩ ⟨by omega, by omega⟩ dL_law_632 fun H1 locs1 hz hP hS => ?_
    refine lv_iload hx hb dL_law_635 (lv_at hl 1 rfl) ?_
    refine lv_icmp_eq (tgt := 642) hx hb dL_law_637 rfl (fun _ => ?_) (fun hne => absurd e3 hne)
    refine lv_iload hx hb dL_law_642 (lv_at hl 1 rfl) ?_
    refine lv_if_ne (tgt := 659) hx hb dL_law_644 rfl (fun h => absurd rfl h) (fun _ => ?_)
    refine lv_aload_n hx hb dL_law_647 rfl (lv_at hl 3 rfl) ?_
    refine lv_iconst (v := 0) hx hb dL_law_648 rfl ?_
    refine w_lald (k := 194) (N := 1) hx hb hK hP h4 pin_1 dL_law_649 ?_
    rw [lu_0]
    refine lv_iload hx hb dL_law_650 (lv_at hl 0 rfl) ?_
    refine lv_i2l (v := x.toInt64) hx hb dL_law_652 rfl ?_
    refine lv_lcmpE hx hb dL_law_653 ?_
    refine lv_if_eq (tgt := 659) hx hb dL_law_654 rfl (fun _ => ?_) (fun h => absurd rfl h)
    refine lv_goto (tgt := 1473) hx hb dL_law_659 rfl ?_
    refine W.widen (k := cells + 30) (n := slots + 2000) (by omega) (by omega) ?_
    exact kk _ _ _ _ _ _ _ _ hd2 hP hS hz hl.two
  · simp only [List.mem_cons, Prod.mk.injEq, List.not_mem_nil, or_false] at hkt
    have hk9 : k = 2 := hkt.1
    refine z_SS (own := RL) hx hb hml hts hown hK hP hS hz hE (c_L_order hq h4 hX hN hlt e1 (fun c h => by cases h; exact hk9)) kL_order (tk5 (i := 155) (by decide +kernel) rfl) rfl rfl hl.1 (Nat.le_of_ble_eq_true rfl) ⟨Nat.le_of_ble_eq_true rfl, Nat.le_of_ble_eq_true rfl⟩ ⟨by omega, by omega⟩ dL_law_608 fun r u H1 locs1 hp hz hP hS => ?_
    rcases hp with ⟨a9, v9, hq9, -⟩ | ⟨c9, hq9, hr, hu1, hu2, hn2⟩
    · cases hq9
    cases hq9
    rw [hu1, hu2] at hP
    have hrt : r = t := hr.2.trans hkt.2.symm
    have hr0 : ¬ r = 0 := by rw [hr.2]; decide
    refine lv_istore (lv' := (5, .int r) :: LL Γ b i) hx hb dL_law_611 hl (by decide) rfl fun ls hl => ?_
    refine lv_aload_n hx hb dL_law_613 rfl (lv_at hl 3 rfl) ?_
    refine lv_aload_n hx hb dL_law_614 rfl (lv_at hl 5 rfl) ?_
    refine lv_iload hx hb dL_law_615 (lv_at hl 1 rfl) ?_
    refine lv_iconst (v := 1) hx hb dL_law_617 rfl ?_
    refine lv_iadd hx hb dL_law_618 ?_
    refine va_sld hx hb hsc hbl hbA hS (sc_in h0 h1 hL (a := 1) ⟨by decide, by decide⟩) dL_law_619 ?_
    refine lv_aload_n hx hb dL_law_620 rfl (lv_at hl 5 rfl) ?_
    refine lv_iload hx hb dL_law_621 (lv_at hl 1 rfl) ?_
    refine lv_iconst (v := 2) hx hb dL_law_623 rfl ?_
    refine lv_iadd hx hb dL_law_624 ?_
    refine va_sld hx hb hsc hbl hbA hS (sc_in h0 h1 hL (a := 2) ⟨by decide, by decide⟩) dL_law_625 ?_
    refine z_Vi (k := 149) (r1 := y) (v1 := v2) hx hb hml hts hown hK hP hS hz hE (c_Model_order hm e2) kX14_order mL_117 hm.1 rfl rfl rfl hl.1 (Nat.le_of_ble_eq_true rfl) ⟨Nat.le_of_ble_eq_true rfl, Nat.le_of_ble_eq_true rfl⟩ ⟨by omega, by omega⟩ dL_law_626 fun H1 locs1 hz hP hS => ?_
    have hd2 : LD sh v2 u.2.2 sp := hd.go hI2 hn2
    refine lv_istore (lv' := (6, .int y) :: (5, .int r) :: LL Γ b i) hx hb dL_law_629 hl (by decide) rfl fun ls hl => ?_
    refine lv_aload_n hx hb dL_law_631 rfl (lv_at hl 4 rfl) ?_
    refine z_Vi (k := 149) (r1 := v2 149 0) (v1 := v2) hx hb hml hts hown hK hP hS hz hE (c_Model_thrown (q := v2 149 0) hm rfl) kX14_thrown mL_86 hm.1 rfl rfl rfl hl.1 (Nat.le_of_ble_eq_true rfl) ⟨Nat.le_of_ble_eq_true rfl, Nat.le_of_ble_eq_true rfl⟩ ⟨by omega, by omega⟩ dL_law_632 fun H1 locs1 hz hP hS => ?_
    refine lv_iload hx hb dL_law_635 (lv_at hl 1 rfl) ?_
    refine lv_icmp_eq (tgt := 642) hx hb dL_law_637 rfl (fun _ => ?_) (fun hne => absurd (e3.trans hrt.symm) hne)
    refine lv_iload hx hb dL_law_642 (lv_at hl 1 rfl) ?_
    refine lv_if_ne (tgt := 659) hx hb dL_law_644 rfl (fun _ => ?_) (fun h => absurd h hr0)
    refine lv_goto (tgt := 1473) hx hb dL_law_659 rfl ?_
    refine W.widen (k := cells + 30) (n := slots + 2000) (by omega) (by omega) ?_
    exact kk _ _ _ _ _ _ _ _ hd2 hP hS hz hl.two
theorem turn_owes {p : Program} {l : Launch} {e : Env} {s : State} {m : MethodId} {args : Array Value} {below : List Frame} {meth : Method} {c : Code} {Q : State → Prop} {Γ : Cx} {b L cells slots : Nat} {xs : Nat → Int32} {i : Int32} (hc : LC Γ p s m args c b L xs) (hlt : l.stackTraces = false) (h0 : 0 ≤ i.toInt) (h1 : i.toInt + 6 ≤ L) (hrc : cells + 30 ≤ room_1.cells) (hrs : slots + 2000 ≤ room_1.slots) (kk : LK l Γ p e s m args below meth c b i (cells + 30) (slots + 2000) Q 1473) : LK l Γ p e s m args below meth c b i cells slots Q 662 := by
  intro sh v w n sp H locs ls hd hP hS hz hl
  obtain ⟨hx, hb, hml, hts, hown, hK, hE, hF, hX, hN, hsc, hbl, hbA, hL⟩ := hc
  have hq := hd.1
  have hm := hd.2.1
  have h4 := hd.2.2.1
  have hI := hd.2.2.2.1
  have hn := hd.2.2.2.2.1
  have hsp := hd.2.2.2.2.2

  refine lv_aload_n hx hb dL_law_662 rfl (lv_at hl 3 rfl) ?_
  refine lv_aload_n hx hb dL_law_663 rfl (lv_at hl 4 rfl) ?_
  refine lv_iload hx hb dL_law_664 (lv_at hl 0 rfl) ?_
  refine lv_iconst (v := 1) hx hb dL_law_666 rfl ?_
  refine lv_iadd hx hb dL_law_667 ?_
  refine va_sld hx hb hsc hbl hbA hS (sc_in h0 h1 hL (a := 1) ⟨by decide, by decide⟩) dL_law_668 ?_
  refine lv_aload_n hx hb dL_law_669 rfl (lv_at hl 4 rfl) ?_
  refine lv_iload hx hb dL_law_670 (lv_at hl 0 rfl) ?_
  refine lv_iconst (v := 2) hx hb dL_law_672 rfl ?_
  refine lv_iadd hx hb dL_law_673 ?_
  refine va_sld hx hb hsc hbl hbA hS (sc_in h0 h1 hL (a := 2) ⟨by decide, by decide⟩) dL_law_674 ?_
  refine lv_aload_n hx hb dL_law_675 rfl (lv_at hl 1 rfl) ?_
  rcases s_owes (z := 5000) hI (xs (i + 1).toNatClampNeg) (xs (i + 2).toNatClampNeg) with ⟨x, v2, e1, e2, e3, hI2⟩ | ⟨k, t, y, v2, hkt, e1, e2, e3, hI2⟩
  · refine z_SS (own := RL) hx hb hml hts hown hK hP hS hz hE (c_L_owes hq h4 hX hN hlt e1 (fun c h => by cases h)) kL_owes (tk5 (i := 163) (by decide +kernel) rfl) rfl rfl hl.1 (Nat.le_of_ble_eq_true rfl) ⟨Nat.le_of_ble_eq_true rfl, Nat.le_of_ble_eq_true rfl⟩ ⟨by omega, by omega⟩ dL_law_676 fun r u H1 locs1 hp hz hP hS => ?_
    rcases Or.symm hp with ⟨c9, hq9, -⟩ | ⟨a9, hq9, rfl, rfl⟩
    · cases hq9
    cases hq9
    have hz : H1.size = Γ.2.1 + n := hz
    have hP : Wd Γ sh v (up w 194 (lu (w 194) 0 x.toInt64)) H1 := hP
    refine lv_istore (lv' := (5, .int 0) :: LL Γ b i) hx hb dL_law_679 hl (by decide) rfl fun ls hl => ?_
    refine lv_aload_n hx hb dL_law_681 rfl (lv_at hl 3 rfl) ?_
    refine lv_aload_n hx hb dL_law_682 rfl (lv_at hl 5 rfl) ?_
    refine lv_iload hx hb dL_law_683 (lv_at hl 1 rfl) ?_
    refine lv_iconst (v := 1) hx hb dL_law_685 rfl ?_
    refine lv_iadd hx hb dL_law_686 ?_
    refine va_sld hx hb hsc hbl hbA hS (sc_in h0 h1 hL (a := 1) ⟨by decide, by decide⟩) dL_law_687 ?_
    refine lv_aload_n hx hb dL_law_688 rfl (lv_at hl 5 rfl) ?_
    refine lv_iload hx hb dL_law_689 (lv_at hl 1 rfl) ?_
    refine lv_iconst (v := 2) hx hb dL_law_691 rfl ?_
    refine lv_iadd hx hb dL_law_692 ?_
    refine va_sld hx hb hsc hbl hbA hS (sc_in h0 h1 hL (a := 2) ⟨by decide, by decide⟩) dL_law_693 ?_
    refine z_Vi (k := 149) (r1 := x) (v1 := v2) hx hb hml hts hown hK hP hS hz hE (c_Model_owes hm e2) kX14_owes mL_120 hm.1 rfl rfl rfl hl.1 (Nat.le_of_ble_eq_true rfl) ⟨Nat.le_of_ble_eq_true rfl, Nat.le_of_ble_eq_true rfl⟩ ⟨by omega, by omega⟩ dL_law_694 fun H1 locs1 hz hP hS => ?_
    have hd2 : LD sh v2 n sp := hd.go hI2 (Nat.le_refl _)
    refine lv_istore (lv' := (6, .int x) :: (5, .int 0) :: LL Γ b i) hx hb dL_law_697 hl (by decide) rfl fun ls hl => ?_
    refine lv_aload_n hx hb dL_law_699 rfl (lv_at hl 4 rfl) ?_
    refine z_Vi (k := 149) (r1 := v2 149 0) (v1 := v2) hx hb hml hts hown hK hP hS hz hE (c_Model_thrown (q := v2 149 0) hm rfl) kX14_thrown mL_86 hm.1 rfl rfl rfl hl.1 (Nat.le_of_ble_eq_true rfl) ⟨Nat.le_of_ble_eq_true rfl, Nat.le_of_ble_eq_true rfl⟩ ⟨by omega, by omega⟩ dL_law_700 fun H1 locs1 hz hP hS => ?_
    refine lv_iload hx hb dL_law_703 (lv_at hl 1 rfl) ?_
    refine lv_icmp_eq (tgt := 710) hx hb dL_law_705 rfl (fun _ => ?_) (fun hne => absurd e3 hne)
    refine lv_iload hx hb dL_law_710 (lv_at hl 1 rfl) ?_
    refine lv_if_ne (tgt := 727) hx hb dL_law_712 rfl (fun h => absurd rfl h) (fun _ => ?_)
    refine lv_aload_n hx hb dL_law_715 rfl (lv_at hl 3 rfl) ?_
    refine lv_iconst (v := 0) hx hb dL_law_716 rfl ?_
    refine w_lald (k := 194) (N := 1) hx hb hK hP h4 pin_1 dL_law_717 ?_
    rw [lu_0]
    refine lv_iload hx hb dL_law_718 (lv_at hl 0 rfl) ?_
    refine lv_i2l (v := x.toInt64) hx hb dL_law_720 rfl ?_
    refine lv_lcmpE hx hb dL_law_721 ?_
    refine lv_if_eq (tgt := 727) hx hb dL_law_722 rfl (fun _ => ?_) (fun h => absurd rfl h)
    refine lv_goto (tgt := 1473) hx hb dL_law_727 rfl ?_
    refine W.widen (k := cells + 30) (n := slots + 2000) (by omega) (by omega) ?_
    exact kk _ _ _ _ _ _ _ _ hd2 hP hS hz hl.two
  · simp only [List.mem_cons, Prod.mk.injEq, List.not_mem_nil, or_false] at hkt
    have hk9 : k = 2 := hkt.1
    refine z_SS (own := RL) hx hb hml hts hown hK hP hS hz hE (c_L_owes hq h4 hX hN hlt e1 (fun c h => by cases h; exact hk9)) kL_owes (tk5 (i := 163) (by decide +kernel) rfl) rfl rfl hl.1 (Nat.le_of_ble_eq_true rfl) ⟨Nat.le_of_ble_eq_true rfl, Nat.le_of_ble_eq_true rfl⟩ ⟨by omega, by omega⟩ dL_law_676 fun r u H1 locs1 hp hz hP hS => ?_
    rcases hp with ⟨a9, hq9, -⟩ | ⟨c9, hq9, hr, hu1, hu2, hn2⟩
    · cases hq9
    cases hq9
    rw [hu1, hu2] at hP
    have hrt : r = t := hr.2.trans hkt.2.symm
    have hr0 : ¬ r = 0 := by rw [hr.2]; decide
    refine lv_istore (lv' := (5, .int r) :: LL Γ b i) hx hb dL_law_679 hl (by decide) rfl fun ls hl => ?_
    refine lv_aload_n hx hb dL_law_681 rfl (lv_at hl 3 rfl) ?_
    refine lv_aload_n hx hb dL_law_682 rfl (lv_at hl 5 rfl) ?_
    refine lv_iload hx hb dL_law_683 (lv_at hl 1 rfl) ?_
    refine lv_iconst (v := 1) hx hb dL_law_685 rfl ?_
    refine lv_iadd hx hb dL_law_686 ?_
    refine va_sld hx hb hsc hbl hbA hS (sc_in h0 h1 hL (a := 1) ⟨by decide, by decide⟩) dL_law_687 ?_
    refine lv_aload_n hx hb dL_law_688 rfl (lv_at hl 5 rfl) ?_
    refine lv_iload hx hb dL_law_689 (lv_at hl 1 rfl) ?_
    refine lv_iconst (v := 2) hx hb dL_law_691 rfl ?_
    refine lv_iadd hx hb dL_law_692 ?_
    refine va_sld hx hb hsc hbl hbA hS (sc_in h0 h1 hL (a := 2) ⟨by decide, by decide⟩) dL_law_693 ?_
    refine z_Vi (k := 149) (r1 := y) (v1 := v2) hx hb hml hts hown hK hP hS hz hE (c_Model_owes hm e2) kX14_owes mL_120 hm.1 rfl rfl rfl hl.1 (Nat.le_of_ble_eq_true rfl) ⟨Nat.le_of_ble_eq_true rfl, Nat.le_of_ble_eq_true rfl⟩ ⟨by omega, by omega⟩ dL_law_694 fun H1 locs1 hz hP hS => ?_
    have hd2 : LD sh v2 u.2.2 sp := hd.go hI2 hn2
    refine lv_istore (lv' := (6, .int y) :: (5, .int r) :: LL Γ b i) hx hb dL_law_697 hl (by decide) rfl fun ls hl => ?_
    refine lv_aload_n hx hb dL_law_699 rfl (lv_at hl 4 rfl) ?_
    refine z_Vi (k := 149) (r1 := v2 149 0) (v1 := v2) hx hb hml hts hown hK hP hS hz hE (c_Model_thrown (q := v2 149 0) hm rfl) kX14_thrown mL_86 hm.1 rfl rfl rfl hl.1 (Nat.le_of_ble_eq_true rfl) ⟨Nat.le_of_ble_eq_true rfl, Nat.le_of_ble_eq_true rfl⟩ ⟨by omega, by omega⟩ dL_law_700 fun H1 locs1 hz hP hS => ?_
    refine lv_iload hx hb dL_law_703 (lv_at hl 1 rfl) ?_
    refine lv_icmp_eq (tgt := 710) hx hb dL_law_705 rfl (fun _ => ?_) (fun hne => absurd (e3.trans hrt.symm) hne)
    refine lv_iload hx hb dL_law_710 (lv_at hl 1 rfl) ?_
    refine lv_if_ne (tgt := 727) hx hb dL_law_712 rfl (fun _ => ?_) (fun h => absurd h hr0)
    refine lv_goto (tgt := 1473) hx hb dL_law_727 rfl ?_
    refine W.widen (k := cells + 30) (n := slots + 2000) (by omega) (by omega) ?_
    exact kk _ _ _ _ _ _ _ _ hd2 hP hS hz hl.two
theorem turn_chain {p : Program} {l : Launch} {e : Env} {s : State} {m : MethodId} {args : Array Value} {below : List Frame} {meth : Method} {c : Code} {Q : State → Prop} {Γ : Cx} {b L cells slots : Nat} {xs : Nat → Int32} {i : Int32} (hc : LC Γ p s m args c b L xs) (hlt : l.stackTraces = false) (h0 : 0 ≤ i.toInt) (h1 : i.toInt + 6 ≤ L) (hrc : cells + 30 ≤ room_1.cells) (hrs : slots + 2000 ≤ room_1.slots) (kk : LK l Γ p e s m args below meth c b i (cells + 30) (slots + 2000) Q 1473) : LK l Γ p e s m args below meth c b i cells slots Q 730 := by
  intro sh v w n sp H locs ls hd hP hS hz hl
  obtain ⟨hx, hb, hml, hts, hown, hK, hE, hF, hX, hN, hsc, hbl, hbA, hL⟩ := hc
  have hq := hd.1
  have hm := hd.2.1
  have h4 := hd.2.2.1
  have hI := hd.2.2.2.1
  have hn := hd.2.2.2.2.1
  have hsp := hd.2.2.2.2.2

  refine lv_aload_n hx hb dL_law_730 rfl (lv_at hl 3 rfl) ?_
  refine lv_aload_n hx hb dL_law_731 rfl (lv_at hl 4 rfl) ?_
  refine lv_iload hx hb dL_law_732 (lv_at hl 0 rfl) ?_
  refine lv_iconst (v := 1) hx hb dL_law_734 rfl ?_
  refine lv_iadd hx hb dL_law_735 ?_
  refine va_sld hx hb hsc hbl hbA hS (sc_in h0 h1 hL (a := 1) ⟨by decide, by decide⟩) dL_law_736 ?_
  refine lv_aload_n hx hb dL_law_737 rfl (lv_at hl 4 rfl) ?_
  refine lv_iload hx hb dL_law_738 (lv_at hl 0 rfl) ?_
  refine lv_iconst (v := 2) hx hb dL_law_740 rfl ?_
  refine lv_iadd hx hb dL_law_741 ?_
  refine va_sld hx hb hsc hbl hbA hS (sc_in h0 h1 hL (a := 2) ⟨by decide, by decide⟩) dL_law_742 ?_
  refine lv_aload_n hx hb dL_law_743 rfl (lv_at hl 1 rfl) ?_
  rcases s_chain (z := 5000) (by omega) hI (xs (i + 1).toNatClampNeg) (xs (i + 2).toNatClampNeg) with ⟨x, v1, v2, e1, e2, e3, hI2⟩ | ⟨k, t, y, v2, hkt, e1, e2, e3, hI2⟩
  · refine z_SS (own := RL) hx hb hml hts hown hK hP hS hz hE (c_L_chain hq h4 hX hN hlt e1 (fun c h => by cases h)) kL_chain (tk5 (i := 171) (by decide +kernel) rfl) rfl rfl hl.1 (Nat.le_of_ble_eq_true rfl) ⟨Nat.le_of_ble_eq_true rfl, Nat.le_of_ble_eq_true rfl⟩ ⟨by omega, by omega⟩ dL_law_744 fun r u H1 locs1 hp hz hP hS => ?_
    rcases Or.symm hp with ⟨c9, hq9, -⟩ | ⟨a9, v9, hq9, rfl, rfl⟩
    · cases hq9
    cases hq9
    have hz : H1.size = Γ.2.1 + n := hz
    have hP : Wd Γ sh v1 (up w 194 (lu (w 194) 0 x.toInt64)) H1 := hP
    refine lv_istore (lv' := (5, .int 0) :: LL Γ b i) hx hb dL_law_747 hl (by decide) rfl fun ls hl => ?_
    refine lv_aload_n hx hb dL_law_749 rfl (lv_at hl 3 rfl) ?_
    refine lv_aload_n hx hb dL_law_750 rfl (lv_at hl 5 rfl) ?_
    refine lv_iload hx hb dL_law_751 (lv_at hl 1 rfl) ?_
    refine lv_iconst (v := 1) hx hb dL_law_753 rfl ?_
    refine lv_iadd hx hb dL_law_754 ?_
    refine va_sld hx hb hsc hbl hbA hS (sc_in h0 h1 hL (a := 1) ⟨by decide, by decide⟩) dL_law_755 ?_
    refine lv_aload_n hx hb dL_law_756 rfl (lv_at hl 5 rfl) ?_
    refine lv_iload hx hb dL_law_757 (lv_at hl 1 rfl) ?_
    refine lv_iconst (v := 2) hx hb dL_law_759 rfl ?_
    refine lv_iadd hx hb dL_law_760 ?_
    refine va_sld hx hb hsc hbl hbA hS (sc_in h0 h1 hL (a := 2) ⟨by decide, by decide⟩) dL_law_761 ?_
    refine z_Vi (k := 149) (r1 := x) (v1 := v2) hx hb hml hts hown hK hP hS hz hE (c_Model_chain hm e2) kX14_chain mL_123 hm.1 rfl rfl rfl hl.1 (Nat.le_of_ble_eq_true rfl) ⟨Nat.le_of_ble_eq_true rfl, Nat.le_of_ble_eq_true rfl⟩ ⟨by omega, by omega⟩ dL_law_762 fun H1 locs1 hz hP hS => ?_
    have hd2 : LD sh v2 n sp := hd.go hI2 (Nat.le_refl _)
    refine lv_istore (lv' := (6, .int x) :: (5, .int 0) :: LL Γ b i) hx hb dL_law_765 hl (by decide) rfl fun ls hl => ?_
    refine lv_aload_n hx hb dL_law_767 rfl (lv_at hl 4 rfl) ?_
    refine z_Vi (k := 149) (r1 := v2 149 0) (v1 := v2) hx hb hml hts hown hK hP hS hz hE (c_Model_thrown (q := v2 149 0) hm rfl) kX14_thrown mL_86 hm.1 rfl rfl rfl hl.1 (Nat.le_of_ble_eq_true rfl) ⟨Nat.le_of_ble_eq_true rfl, Nat.le_of_ble_eq_true rfl⟩ ⟨by omega, by omega⟩ dL_law_768 fun H1 locs1 hz hP hS => ?_
    refine lv_iload hx hb dL_law_771 (lv_at hl 1 rfl) ?_
    refine lv_icmp_eq (tgt := 778) hx hb dL_law_773 rfl (fun _ => ?_) (fun hne => absurd e3 hne)
    refine lv_iload hx hb dL_law_778 (lv_at hl 1 rfl) ?_
    refine lv_if_ne (tgt := 795) hx hb dL_law_780 rfl (fun h => absurd rfl h) (fun _ => ?_)
    refine lv_aload_n hx hb dL_law_783 rfl (lv_at hl 3 rfl) ?_
    refine lv_iconst (v := 0) hx hb dL_law_784 rfl ?_
    refine w_lald (k := 194) (N := 1) hx hb hK hP h4 pin_1 dL_law_785 ?_
    rw [lu_0]
    refine lv_iload hx hb dL_law_786 (lv_at hl 0 rfl) ?_
    refine lv_i2l (v := x.toInt64) hx hb dL_law_788 rfl ?_
    refine lv_lcmpE hx hb dL_law_789 ?_
    refine lv_if_eq (tgt := 795) hx hb dL_law_790 rfl (fun _ => ?_) (fun h => absurd rfl h)
    refine lv_goto (tgt := 1473) hx hb dL_law_795 rfl ?_
    refine W.widen (k := cells + 30) (n := slots + 2000) (by omega) (by omega) ?_
    exact kk _ _ _ _ _ _ _ _ hd2 hP hS hz hl.two
  · simp only [List.mem_cons, Prod.mk.injEq, List.not_mem_nil, or_false] at hkt
    have hk9 : k = 2 := hkt.1
    refine z_SS (own := RL) hx hb hml hts hown hK hP hS hz hE (c_L_chain hq h4 hX hN hlt e1 (fun c h => by cases h; exact hk9)) kL_chain (tk5 (i := 171) (by decide +kernel) rfl) rfl rfl hl.1 (Nat.le_of_ble_eq_true rfl) ⟨Nat.le_of_ble_eq_true rfl, Nat.le_of_ble_eq_true rfl⟩ ⟨by omega, by omega⟩ dL_law_744 fun r u H1 locs1 hp hz hP hS => ?_
    rcases hp with ⟨a9, v9, hq9, -⟩ | ⟨c9, hq9, hr, hu1, hu2, hn2⟩
    · cases hq9
    cases hq9
    rw [hu1, hu2] at hP
    have hrt : r = t := hr.2.trans hkt.2.symm
    have hr0 : ¬ r = 0 := by rw [hr.2]; decide
    refine lv_istore (lv' := (5, .int r) :: LL Γ b i) hx hb dL_law_747 hl (by decide) rfl fun ls hl => ?_
    refine lv_aload_n hx hb dL_law_749 rfl (lv_at hl 3 rfl) ?_
    refine lv_aload_n hx hb dL_law_750 rfl (lv_at hl 5 rfl) ?_
    refine lv_iload hx hb dL_law_751 (lv_at hl 1 rfl) ?_
    refine lv_iconst (v := 1) hx hb dL_law_753 rfl ?_
    refine lv_iadd hx hb dL_law_754 ?_
    refine va_sld hx hb hsc hbl hbA hS (sc_in h0 h1 hL (a := 1) ⟨by decide, by decide⟩) dL_law_755 ?_
    refine lv_aload_n hx hb dL_law_756 rfl (lv_at hl 5 rfl) ?_
    refine lv_iload hx hb dL_law_757 (lv_at hl 1 rfl) ?_
    refine lv_iconst (v := 2) hx hb dL_law_759 rfl ?_
    refine lv_iadd hx hb dL_law_760 ?_
    refine va_sld hx hb hsc hbl hbA hS (sc_in h0 h1 hL (a := 2) ⟨by decide, by decide⟩) dL_law_761 ?_
    refine z_Vi (k := 149) (r1 := y) (v1 := v2) hx hb hml hts hown hK hP hS hz hE (c_Model_chain hm e2) kX14_chain mL_123 hm.1 rfl rfl rfl hl.1 (Nat.le_of_ble_eq_true rfl) ⟨Nat.le_of_ble_eq_true rfl, Nat.le_of_ble_eq_true rfl⟩ ⟨by omega, by omega⟩ dL_law_762 fun H1 locs1 hz hP hS => ?_
    have hd2 : LD sh v2 u.2.2 sp := hd.go hI2 hn2
    refine lv_istore (lv' := (6, .int y) :: (5, .int r) :: LL Γ b i) hx hb dL_law_765 hl (by decide) rfl fun ls hl => ?_
    refine lv_aload_n hx hb dL_law_767 rfl (lv_at hl 4 rfl) ?_
    refine z_Vi (k := 149) (r1 := v2 149 0) (v1 := v2) hx hb hml hts hown hK hP hS hz hE (c_Model_thrown (q := v2 149 0) hm rfl) kX14_thrown mL_86 hm.1 rfl rfl rfl hl.1 (Nat.le_of_ble_eq_true rfl) ⟨Nat.le_of_ble_eq_true rfl, Nat.le_of_ble_eq_true rfl⟩ ⟨by omega, by omega⟩ dL_law_768 fun H1 locs1 hz hP hS => ?_
    refine lv_iload hx hb dL_law_771 (lv_at hl 1 rfl) ?_
    refine lv_icmp_eq (tgt := 778) hx hb dL_law_773 rfl (fun _ => ?_) (fun hne => absurd (e3.trans hrt.symm) hne)
    refine lv_iload hx hb dL_law_778 (lv_at hl 1 rfl) ?_
    refine lv_if_ne (tgt := 795) hx hb dL_law_780 rfl (fun _ => ?_) (fun h => absurd h hr0)
    refine lv_goto (tgt := 1473) hx hb dL_law_795 rfl ?_
    refine W.widen (k := cells + 30) (n := slots + 2000) (by omega) (by omega) ?_
    exact kk _ _ _ _ _ _ _ _ hd2 hP hS hz hl.two
theorem turn_ring {p : Program} {l : Launch} {e : Env} {s : State} {m : MethodId} {args : Array Value} {below : List Frame} {meth : Method} {c : Code} {Q : State → Prop} {Γ : Cx} {b L cells slots : Nat} {xs : Nat → Int32} {i : Int32} (hc : LC Γ p s m args c b L xs) (hlt : l.stackTraces = false) (h0 : 0 ≤ i.toInt) (h1 : i.toInt + 6 ≤ L) (hrc : cells + 30 ≤ room_1.cells) (hrs : slots + 2000 ≤ room_1.slots) (kk : LK l Γ p e s m args below meth c b i (cells + 30) (slots + 2000) Q 1473) : LK l Γ p e s m args below meth c b i cells slots Q 798 := by
  intro sh v w n sp H locs ls hd hP hS hz hl
  obtain ⟨hx, hb, hml, hts, hown, hK, hE, hF, hX, hN, hsc, hbl, hbA, hL⟩ := hc
  have hq := hd.1
  have hm := hd.2.1
  have h4 := hd.2.2.1
  have hI := hd.2.2.2.1
  have hn := hd.2.2.2.2.1
  have hsp := hd.2.2.2.2.2

  refine lv_aload_n hx hb dL_law_798 rfl (lv_at hl 3 rfl) ?_
  refine lv_aload_n hx hb dL_law_799 rfl (lv_at hl 4 rfl) ?_
  refine lv_iload hx hb dL_law_800 (lv_at hl 0 rfl) ?_
  refine lv_iconst (v := 1) hx hb dL_law_802 rfl ?_
  refine lv_iadd hx hb dL_law_803 ?_
  refine va_sld hx hb hsc hbl hbA hS (sc_in h0 h1 hL (a := 1) ⟨by decide, by decide⟩) dL_law_804 ?_
  refine lv_aload_n hx hb dL_law_805 rfl (lv_at hl 1 rfl) ?_
  rcases s_ring (z := 5000) (by omega) hI (xs (i + 1).toNatClampNeg) with ⟨x, v1, v2, e1, e2, e3, hI2⟩ | ⟨k, t, y, v2, hkt, e1, e2, e3, hI2⟩
  · refine z_SS (own := RL) hx hb hml hts hown hK hP hS hz hE (c_L_ring hq h4 hX hN hlt e1 (fun c h => by cases h)) kL_ring (tk5 (i := 188) (by decide +kernel) rfl) rfl rfl hl.1 (Nat.le_of_ble_eq_true rfl) ⟨Nat.le_of_ble_eq_true rfl, Nat.le_of_ble_eq_true rfl⟩ ⟨by omega, by omega⟩ dL_law_806 fun r u H1 locs1 hp hz hP hS => ?_
    rcases Or.symm hp with ⟨c9, hq9, -⟩ | ⟨a9, v9, hq9, rfl, rfl⟩
    · cases hq9
    cases hq9
    have hz : H1.size = Γ.2.1 + n := hz
    have hP : Wd Γ sh v1 (up w 194 (lu (w 194) 0 x.toInt64)) H1 := hP
    refine lv_istore (lv' := (5, .int 0) :: LL Γ b i) hx hb dL_law_809 hl (by decide) rfl fun ls hl => ?_
    refine lv_aload_n hx hb dL_law_811 rfl (lv_at hl 3 rfl) ?_
    refine lv_aload_n hx hb dL_law_812 rfl (lv_at hl 5 rfl) ?_
    refine lv_iload hx hb dL_law_813 (lv_at hl 1 rfl) ?_
    refine lv_iconst (v := 1) hx hb dL_law_815 rfl ?_
    refine lv_iadd hx hb dL_law_816 ?_
    refine va_sld hx hb hsc hbl hbA hS (sc_in h0 h1 hL (a := 1) ⟨by decide, by decide⟩) dL_law_817 ?_
    refine z_Vi (k := 149) (r1 := x) (v1 := v2) hx hb hml hts hown hK hP hS hz hE (c_Model_ring hm e2) kX14_ring mL_126 hm.1 rfl rfl rfl hl.1 (Nat.le_of_ble_eq_true rfl) ⟨Nat.le_of_ble_eq_true rfl, Nat.le_of_ble_eq_true rfl⟩ ⟨by omega, by omega⟩ dL_law_818 fun H1 locs1 hz hP hS => ?_
    have hd2 : LD sh v2 n sp := hd.go hI2 (Nat.le_refl _)
    refine lv_istore (lv' := (6, .int x) :: (5, .int 0) :: LL Γ b i) hx hb dL_law_821 hl (by decide) rfl fun ls hl => ?_
    refine lv_aload_n hx hb dL_law_823 rfl (lv_at hl 4 rfl) ?_
    refine z_Vi (k := 149) (r1 := v2 149 0) (v1 := v2) hx hb hml hts hown hK hP hS hz hE (c_Model_thrown (q := v2 149 0) hm rfl) kX14_thrown mL_86 hm.1 rfl rfl rfl hl.1 (Nat.le_of_ble_eq_true rfl) ⟨Nat.le_of_ble_eq_true rfl, Nat.le_of_ble_eq_true rfl⟩ ⟨by omega, by omega⟩ dL_law_824 fun H1 locs1 hz hP hS => ?_
    refine lv_iload hx hb dL_law_827 (lv_at hl 1 rfl) ?_
    refine lv_icmp_eq (tgt := 834) hx hb dL_law_829 rfl (fun _ => ?_) (fun hne => absurd e3 hne)
    refine lv_iload hx hb dL_law_834 (lv_at hl 1 rfl) ?_
    refine lv_if_ne (tgt := 851) hx hb dL_law_836 rfl (fun h => absurd rfl h) (fun _ => ?_)
    refine lv_aload_n hx hb dL_law_839 rfl (lv_at hl 3 rfl) ?_
    refine lv_iconst (v := 0) hx hb dL_law_840 rfl ?_
    refine w_lald (k := 194) (N := 1) hx hb hK hP h4 pin_1 dL_law_841 ?_
    rw [lu_0]
    refine lv_iload hx hb dL_law_842 (lv_at hl 0 rfl) ?_
    refine lv_i2l (v := x.toInt64) hx hb dL_law_844 rfl ?_
    refine lv_lcmpE hx hb dL_law_845 ?_
    refine lv_if_eq (tgt := 851) hx hb dL_law_846 rfl (fun _ => ?_) (fun h => absurd rfl h)
    refine lv_goto (tgt := 1473) hx hb dL_law_851 rfl ?_
    refine W.widen (k := cells + 30) (n := slots + 2000) (by omega) (by omega) ?_
    exact kk _ _ _ _ _ _ _ _ hd2 hP hS hz hl.two
  · simp only [List.mem_cons, Prod.mk.injEq, List.not_mem_nil, or_false] at hkt
    have hk9 : k = 2 := hkt.1
    refine z_SS (own := RL) hx hb hml hts hown hK hP hS hz hE (c_L_ring hq h4 hX hN hlt e1 (fun c h => by cases h; exact hk9)) kL_ring (tk5 (i := 188) (by decide +kernel) rfl) rfl rfl hl.1 (Nat.le_of_ble_eq_true rfl) ⟨Nat.le_of_ble_eq_true rfl, Nat.le_of_ble_eq_true rfl⟩ ⟨by omega, by omega⟩ dL_law_806 fun r u H1 locs1 hp hz hP hS => ?_
    rcases hp with ⟨a9, v9, hq9, -⟩ | ⟨c9, hq9, hr, hu1, hu2, hn2⟩
    · cases hq9
    cases hq9
    rw [hu1, hu2] at hP
    have hrt : r = t := hr.2.trans hkt.2.symm
    have hr0 : ¬ r = 0 := by rw [hr.2]; decide
    refine lv_istore (lv' := (5, .int r) :: LL Γ b i) hx hb dL_law_809 hl (by decide) rfl fun ls hl => ?_
    refine lv_aload_n hx hb dL_law_811 rfl (lv_at hl 3 rfl) ?_
    refine lv_aload_n hx hb dL_law_812 rfl (lv_at hl 5 rfl) ?_
    refine lv_iload hx hb dL_law_813 (lv_at hl 1 rfl) ?_
    refine lv_iconst (v := 1) hx hb dL_law_815 rfl ?_
    refine lv_iadd hx hb dL_law_816 ?_
    refine va_sld hx hb hsc hbl hbA hS (sc_in h0 h1 hL (a := 1) ⟨by decide, by decide⟩) dL_law_817 ?_
    refine z_Vi (k := 149) (r1 := y) (v1 := v2) hx hb hml hts hown hK hP hS hz hE (c_Model_ring hm e2) kX14_ring mL_126 hm.1 rfl rfl rfl hl.1 (Nat.le_of_ble_eq_true rfl) ⟨Nat.le_of_ble_eq_true rfl, Nat.le_of_ble_eq_true rfl⟩ ⟨by omega, by omega⟩ dL_law_818 fun H1 locs1 hz hP hS => ?_
    have hd2 : LD sh v2 u.2.2 sp := hd.go hI2 hn2
    refine lv_istore (lv' := (6, .int y) :: (5, .int r) :: LL Γ b i) hx hb dL_law_821 hl (by decide) rfl fun ls hl => ?_
    refine lv_aload_n hx hb dL_law_823 rfl (lv_at hl 4 rfl) ?_
    refine z_Vi (k := 149) (r1 := v2 149 0) (v1 := v2) hx hb hml hts hown hK hP hS hz hE (c_Model_thrown (q := v2 149 0) hm rfl) kX14_thrown mL_86 hm.1 rfl rfl rfl hl.1 (Nat.le_of_ble_eq_true rfl) ⟨Nat.le_of_ble_eq_true rfl, Nat.le_of_ble_eq_true rfl⟩ ⟨by omega, by omega⟩ dL_law_824 fun H1 locs1 hz hP hS => ?_
    refine lv_iload hx hb dL_law_827 (lv_at hl 1 rfl) ?_
    refine lv_icmp_eq (tgt := 834) hx hb dL_law_829 rfl (fun _ => ?_) (fun hne => absurd (e3.trans hrt.symm) hne)
    refine lv_iload hx hb dL_law_834 (lv_at hl 1 rfl) ?_
    refine lv_if_ne (tgt := 851) hx hb dL_law_836 rfl (fun _ => ?_) (fun h => absurd h hr0)
    refine lv_goto (tgt := 1473) hx hb dL_law_851 rfl ?_
    refine W.widen (k := cells + 30) (n := slots + 2000) (by omega) (by omega) ?_
    exact kk _ _ _ _ _ _ _ _ hd2 hP hS hz hl.two
