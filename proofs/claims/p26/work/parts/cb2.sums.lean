/-! THE TEXT'S SUMS AND TESTS ARE READ -/
section
variable {v w : Va} {F : List Int32 → Int32} {n n4 n6 a9 b9 l9 o9 : Nat} {bl : List Int32}
theorem x_su0 (h : TA v F n (suP 0 n4 a9 b9 l9 bl)) (hn : n + 1 < 401) (h4 : n4 ≤ 999) (hA : NMs v 55 6 a9 (F [109, nI (48 + a9)])) (hB : NMs v 55 6 b9 (F [109, nI (48 + b9)])) (hL : NMs v 58 10 l9 (F [108, nI (48 + l9)])) (hE : EN36 (v 5 (n + 1))) : XR v 48 5 0 n (n + 1) (sS_ 0 n4 a9 b9 l9) := by
  have k0 : v 5 (n + 0) = 48 := (h.at (q := zD n4 bl) 0 rfl).1
  have e0 : v 11 (n + 0) = nI n4 := (h.at (q := zD n4 bl) 0 rfl).2.trans tvD
  have hh : XR v 48 5 0 (n + 0) (n + 1) _ := (XR.sum (XR.prod (XR.n48 (by omega) k0 e0 (ni_0 (by omega))) (by omega) (hE.ne (by decide) (by decide)) (hE.ne (by decide) (by decide))) (by omega) (hE.ne (by decide) (by decide)) (hE.ne (by decide) (by decide)))
  exact hh
theorem x_su1 (h : TA v F n (suP 1 n4 a9 b9 l9 bl)) (hn : n + 6 < 401) (h4 : n4 ≤ 999) (hA : NMs v 55 6 a9 (F [109, nI (48 + a9)])) (hB : NMs v 55 6 b9 (F [109, nI (48 + b9)])) (hL : NMs v 58 10 l9 (F [108, nI (48 + l9)])) (hE : EN36 (v 5 (n + 6))) : XR v 48 5 0 n (n + 6) (sS_ 1 n4 a9 b9 l9) := by
  have k0 : v 5 (n + 0) = 6 := (h.at (q := zK 6 [32]) 0 rfl).1
  have k1 : v 5 (n + 1) = 47 := (h.at (q := zN 109 a9 []) 1 rfl).1
  have e1 : v 11 (n + 1) = F [109, nI (48 + a9)] := (h.at (q := zN 109 a9 []) 1 rfl).2.trans tvN
  have k2 : v 5 (n + 2) = 41 := (h.at (q := zG 9 []) 2 rfl).1
  have k3 : v 5 (n + 3) = 48 := (h.at (q := zD 2 []) 3 rfl).1
  have e3 : v 11 (n + 3) = 2 := (h.at (q := zD 2 []) 3 rfl).2.trans tvD
  have k4 : v 5 (n + 4) = 38 := (h.at (q := zG 6 []) 4 rfl).1
  have k5 : v 5 (n + 5) = 48 := (h.at (q := zD n4 bl) 5 rfl).1
  have e5 : v 11 (n + 5) = nI n4 := (h.at (q := zD n4 bl) 5 rfl).2.trans tvD
  have hh : XR v 48 5 0 (n + 0) (n + 6) _ := (XR.sum2 (XR.prod2 (XR.n6 (by omega) k0 k1 e1 hA) (by omega) (Or.inr rfl) k2 (XR.n48 (by omega) k3 e3 (by decide)) (by omega) (ne_k k4 (by decide)) (ne_k k4 (by decide))) (by omega) (Or.inl rfl) k4 (XR.prod (XR.n48 (by omega) k5 e5 (ni_0 (by omega))) (by omega) (hE.ne (by decide) (by decide)) (hE.ne (by decide) (by decide))) (by omega) (hE.ne (by decide) (by decide)) (hE.ne (by decide) (by decide)))
  exact hh
theorem x_su2 (h : TA v F n (suP 2 n4 a9 b9 l9 bl)) (hn : n + 6 < 401) (h4 : n4 ≤ 999) (hA : NMs v 55 6 a9 (F [109, nI (48 + a9)])) (hB : NMs v 55 6 b9 (F [109, nI (48 + b9)])) (hL : NMs v 58 10 l9 (F [108, nI (48 + l9)])) (hE : EN36 (v 5 (n + 6))) : XR v 48 5 0 n (n + 6) (sS_ 2 n4 a9 b9 l9) := by
  have k0 : v 5 (n + 0) = 21 := (h.at (q := zK 21 [32]) 0 rfl).1
  have k1 : v 5 (n + 1) = 47 := (h.at (q := zN 108 l9 []) 1 rfl).1
  have e1 : v 11 (n + 1) = F [108, nI (48 + l9)] := (h.at (q := zN 108 l9 []) 1 rfl).2.trans tvN
  have k2 : v 5 (n + 2) = 41 := (h.at (q := zG 9 []) 2 rfl).1
  have k3 : v 5 (n + 3) = 48 := (h.at (q := zD 100 [32]) 3 rfl).1
  have e3 : v 11 (n + 3) = 100 := (h.at (q := zD 100 [32]) 3 rfl).2.trans tvD
  have k4 : v 5 (n + 4) = 39 := (h.at (q := zG 7 [32]) 4 rfl).1
  have k5 : v 5 (n + 5) = 48 := (h.at (q := zD n4 bl) 5 rfl).1
  have e5 : v 11 (n + 5) = nI n4 := (h.at (q := zD n4 bl) 5 rfl).2.trans tvD
  have hh : XR v 48 5 0 (n + 0) (n + 6) _ := (XR.sum2 (XR.prod2 (XR.n21 (by omega) k0 k1 e1 hL) (by omega) (Or.inr rfl) k2 (XR.n48 (by omega) k3 e3 (by decide)) (by omega) (ne_k k4 (by decide)) (ne_k k4 (by decide))) (by omega) (Or.inr rfl) k4 (XR.prod (XR.n48 (by omega) k5 e5 (ni_0 (by omega))) (by omega) (hE.ne (by decide) (by decide)) (hE.ne (by decide) (by decide))) (by omega) (hE.ne (by decide) (by decide)) (hE.ne (by decide) (by decide)))
  exact hh
theorem x_su3 (h : TA v F n (suP 3 n4 a9 b9 l9 bl)) (hn : n + 10 < 401) (h4 : n4 ≤ 999) (hA : NMs v 55 6 a9 (F [109, nI (48 + a9)])) (hB : NMs v 55 6 b9 (F [109, nI (48 + b9)])) (hL : NMs v 58 10 l9 (F [108, nI (48 + l9)])) (hE : EN36 (v 5 (n + 10))) : XR v 48 5 0 n (n + 10) (sS_ 3 n4 a9 b9 l9) := by
  have k0 : v 5 (n + 0) = 30 := (h.at (q := zK 30 []) 0 rfl).1
  have k1 : v 5 (n + 1) = 32 := (h.at (q := zG 0 []) 1 rfl).1
  have k2 : v 5 (n + 2) = 25 := (h.at (q := zK 25 [32]) 2 rfl).1
  have k3 : v 5 (n + 3) = 47 := (h.at (q := zN 109 a9 [32]) 3 rfl).1
  have e3 : v 11 (n + 3) = F [109, nI (48 + a9)] := (h.at (q := zN 109 a9 [32]) 3 rfl).2.trans tvN
  have k4 : v 5 (n + 4) = 47 := (h.at (q := zN 109 b9 []) 4 rfl).1
  have e4 : v 11 (n + 4) = F [109, nI (48 + b9)] := (h.at (q := zN 109 b9 []) 4 rfl).2.trans tvN
  have k5 : v 5 (n + 5) = 37 := (h.at (q := zG 5 []) 5 rfl).1
  have k6 : v 5 (n + 6) = 48 := (h.at (q := zD n4 []) 6 rfl).1
  have e6 : v 11 (n + 6) = nI n4 := (h.at (q := zD n4 []) 6 rfl).2.trans tvD
  have k7 : v 5 (n + 7) = 33 := (h.at (q := zG 1 []) 7 rfl).1
  have k8 : v 5 (n + 8) = 40 := (h.at (q := zG 8 []) 8 rfl).1
  have k9 : v 5 (n + 9) = 48 := (h.at (q := zD 2 bl) 9 rfl).1
  have e9 : v 11 (n + 9) = 2 := (h.at (q := zD 2 bl) 9 rfl).2.trans tvD
  have hh : XR v 48 5 0 (n + 0) (n + 10) _ := (XR.sum (XR.prod2 (XR.mm (Or.inl rfl) (by omega) k0 k1 (by decide) (XR.sum (XR.prod (XR.n25 (by omega) k2 k3 e3 hA k4 e4 hB) (by omega) (ne_k k5 (by decide)) (ne_k k5 (by decide))) (by omega) (ne_k k5 (by decide)) (ne_k k5 (by decide))) (by omega) k5 (XR.sum (XR.prod (XR.n48 (by omega) k6 e6 (ni_0 (by omega))) (by omega) (ne_k k7 (by decide)) (ne_k k7 (by decide))) (by omega) (ne_k k7 (by decide)) (ne_k k7 (by decide))) (by omega) k7) (by omega) (Or.inl rfl) k8 (XR.n48 (by omega) k9 e9 (by decide)) (by omega) (hE.ne (by decide) (by decide)) (hE.ne (by decide) (by decide))) (by omega) (hE.ne (by decide) (by decide)) (hE.ne (by decide) (by decide)))
  exact hh
theorem x_su4 (h : TA v F n (suP 4 n4 a9 b9 l9 bl)) (hn : n + 9 < 401) (h4 : n4 ≤ 999) (hA : NMs v 55 6 a9 (F [109, nI (48 + a9)])) (hB : NMs v 55 6 b9 (F [109, nI (48 + b9)])) (hL : NMs v 58 10 l9 (F [108, nI (48 + l9)])) (hE : EN36 (v 5 (n + 9))) : XR v 48 5 0 n (n + 9) (sS_ 4 n4 a9 b9 l9) := by
  have k0 : v 5 (n + 0) = 31 := (h.at (q := zK 31 []) 0 rfl).1
  have k1 : v 5 (n + 1) = 32 := (h.at (q := zG 0 []) 1 rfl).1
  have k2 : v 5 (n + 2) = 22 := (h.at (q := zK 22 [32]) 2 rfl).1
  have k3 : v 5 (n + 3) = 47 := (h.at (q := zN 108 l9 []) 3 rfl).1
  have e3 : v 11 (n + 3) = F [108, nI (48 + l9)] := (h.at (q := zN 108 l9 []) 3 rfl).2.trans tvN
  have k4 : v 5 (n + 4) = 37 := (h.at (q := zG 5 []) 4 rfl).1
  have k5 : v 5 (n + 5) = 48 := (h.at (q := zD n4 []) 5 rfl).1
  have e5 : v 11 (n + 5) = nI n4 := (h.at (q := zD n4 []) 5 rfl).2.trans tvD
  have k6 : v 5 (n + 6) = 33 := (h.at (q := zG 1 []) 6 rfl).1
  have k7 : v 5 (n + 7) = 39 := (h.at (q := zG 7 []) 7 rfl).1
  have k8 : v 5 (n + 8) = 19 := (h.at (q := zK 19 bl) 8 rfl).1
  have hh : XR v 48 5 0 (n + 0) (n + 9) _ := (XR.sum2 (XR.prod (XR.mm (Or.inr rfl) (by omega) k0 k1 (by decide) (XR.sum (XR.prod (XR.n22 (by omega) k2 k3 e3 hL) (by omega) (ne_k k4 (by decide)) (ne_k k4 (by decide))) (by omega) (ne_k k4 (by decide)) (ne_k k4 (by decide))) (by omega) k4 (XR.sum (XR.prod (XR.n48 (by omega) k5 e5 (ni_0 (by omega))) (by omega) (ne_k k6 (by decide)) (ne_k k6 (by decide))) (by omega) (ne_k k6 (by decide)) (ne_k k6 (by decide))) (by omega) k6) (by omega) (ne_k k7 (by decide)) (ne_k k7 (by decide))) (by omega) (Or.inr rfl) k7 (XR.prod (XR.n19 (by omega) k8) (by omega) (hE.ne (by decide) (by decide)) (hE.ne (by decide) (by decide))) (by omega) (hE.ne (by decide) (by decide)) (hE.ne (by decide) (by decide)))
  exact hh
theorem x_su5 (h : TA v F n (suP 5 n4 a9 b9 l9 bl)) (hn : n + 5 < 401) (h4 : n4 ≤ 999) (hA : NMs v 55 6 a9 (F [109, nI (48 + a9)])) (hB : NMs v 55 6 b9 (F [109, nI (48 + b9)])) (hL : NMs v 58 10 l9 (F [108, nI (48 + l9)])) (hE : EN36 (v 5 (n + 5))) : XR v 48 5 0 n (n + 5) (sS_ 5 n4 a9 b9 l9) := by
  have k0 : v 5 (n + 0) = 39 := (h.at (q := zG 7 []) 0 rfl).1
  have k1 : v 5 (n + 1) = 48 := (h.at (q := zD n4 []) 1 rfl).1
  have e1 : v 11 (n + 1) = nI n4 := (h.at (q := zD n4 []) 1 rfl).2.trans tvD
  have k2 : v 5 (n + 2) = 38 := (h.at (q := zG 6 []) 2 rfl).1
  have k3 : v 5 (n + 3) = 24 := (h.at (q := zK 24 [32]) 3 rfl).1
  have k4 : v 5 (n + 4) = 47 := (h.at (q := zN 109 a9 bl) 4 rfl).1
  have e4 : v 11 (n + 4) = F [109, nI (48 + a9)] := (h.at (q := zN 109 a9 bl) 4 rfl).2.trans tvN
  have hh : XR v 48 5 0 (n + 0) (n + 5) _ := (XR.sum2 (XR.prod (XR.neg (by omega) k0 (by decide) (XR.n48 (by omega) k1 e1 (ni_0 (by omega)))) (by omega) (ne_k k2 (by decide)) (ne_k k2 (by decide))) (by omega) (Or.inl rfl) k2 (XR.prod (XR.n24 (by omega) k3 k4 e4 hA) (by omega) (hE.ne (by decide) (by decide)) (hE.ne (by decide) (by decide))) (by omega) (hE.ne (by decide) (by decide)) (hE.ne (by decide) (by decide)))
  exact hh
theorem x_su6 (h : TA v F n (suP 6 n4 a9 b9 l9 bl)) (hn : n + 4 < 401) (h4 : n4 ≤ 999) (hA : NMs v 55 6 a9 (F [109, nI (48 + a9)])) (hB : NMs v 55 6 b9 (F [109, nI (48 + b9)])) (hL : NMs v 58 10 l9 (F [108, nI (48 + l9)])) (hE : EN36 (v 5 (n + 4))) : XR v 48 5 0 n (n + 4) (sS_ 6 n4 a9 b9 l9) := by
  have k0 : v 5 (n + 0) = 23 := (h.at (q := zK 23 [32]) 0 rfl).1
  have k1 : v 5 (n + 1) = 47 := (h.at (q := zN 108 l9 []) 1 rfl).1
  have e1 : v 11 (n + 1) = F [108, nI (48 + l9)] := (h.at (q := zN 108 l9 []) 1 rfl).2.trans tvN
  have k2 : v 5 (n + 2) = 40 := (h.at (q := zG 8 []) 2 rfl).1
  have k3 : v 5 (n + 3) = 48 := (h.at (q := zD n4 bl) 3 rfl).1
  have e3 : v 11 (n + 3) = nI n4 := (h.at (q := zD n4 bl) 3 rfl).2.trans tvD
  have hh : XR v 48 5 0 (n + 0) (n + 4) _ := (XR.sum (XR.prod2 (XR.n23 (by omega) k0 k1 e1 hL) (by omega) (Or.inl rfl) k2 (XR.n48 (by omega) k3 e3 (ni_0 (by omega))) (by omega) (hE.ne (by decide) (by decide)) (hE.ne (by decide) (by decide))) (by omega) (hE.ne (by decide) (by decide)) (hE.ne (by decide) (by decide)))
  exact hh
theorem x_su7 (h : TA v F n (suP 7 n4 a9 b9 l9 bl)) (hn : n + 3 < 401) (h4 : n4 ≤ 999) (hA : NMs v 55 6 a9 (F [109, nI (48 + a9)])) (hB : NMs v 55 6 b9 (F [109, nI (48 + b9)])) (hL : NMs v 58 10 l9 (F [108, nI (48 + l9)])) (hE : EN36 (v 5 (n + 3))) : XR v 48 5 0 n (n + 3) (sS_ 7 n4 a9 b9 l9) := by
  have k0 : v 5 (n + 0) = 48 := (h.at (q := z9 []) 0 rfl).1
  have e0 : v 11 (n + 0) = 999999 := (h.at (q := z9 []) 0 rfl).2.trans tv9
  have k1 : v 5 (n + 1) = 40 := (h.at (q := zG 8 []) 1 rfl).1
  have k2 : v 5 (n + 2) = 48 := (h.at (q := z9 bl) 2 rfl).1
  have e2 : v 11 (n + 2) = 999999 := (h.at (q := z9 bl) 2 rfl).2.trans tv9
  have hh : XR v 48 5 0 (n + 0) (n + 3) _ := (XR.sum (XR.prod2 (XR.n48 (by omega) k0 e0 (by decide)) (by omega) (Or.inl rfl) k1 (XR.n48 (by omega) k2 e2 (by decide)) (by omega) (hE.ne (by decide) (by decide)) (hE.ne (by decide) (by decide))) (by omega) (hE.ne (by decide) (by decide)) (hE.ne (by decide) (by decide)))
  exact hh
theorem x_wh1 (h : TA v F n (whP 1 n6 a9 b9 l9 o9)) (hn : n + 6 < 401) (h6 : n6 ≤ 999) (hA : NMs v 55 6 a9 (F [109, nI (48 + a9)])) (hB : NMs v 55 6 b9 (F [109, nI (48 + b9)])) (hL : NMs v 58 10 l9 (F [108, nI (48 + l9)])) (hO : NMs v 58 10 o9 (F [108, nI (48 + o9)])) (hE : EN36 (v 5 (n + 6))) : v 5 n = 18 ∧ XR v 48 0 0 (n + 1) (n + 6) (sT_ 1 n6 a9 b9 l9 o9) := by
  have k0 : v 5 (n + 0) = 18 := (h.at (q := zK 18 [32]) 0 rfl).1
  have k1 : v 5 (n + 1) = 19 := (h.at (q := zK 19 []) 1 rfl).1
  have k2 : v 5 (n + 2) = 43 := (h.at (q := zG 11 []) 2 rfl).1
  have k3 : v 5 (n + 3) = 48 := (h.at (q := zD n6 []) 3 rfl).1
  have e3 : v 11 (n + 3) = nI n6 := (h.at (q := zD n6 []) 3 rfl).2.trans tvD
  have k4 : v 5 (n + 4) = 41 := (h.at (q := zG 9 []) 4 rfl).1
  have k5 : v 5 (n + 5) = 48 := (h.at (q := zD 4 []) 5 rfl).1
  have e5 : v 11 (n + 5) = 4 := (h.at (q := zD 4 []) 5 rfl).2.trans tvD
  have hh : XR v 48 0 0 (n + 1) (n + 6) _ := (XR.test (XR.both (XR.cmp (x := 43) (XR.sum (XR.prod (XR.n19 (by omega) k1) (by omega) (ne_k k2 (by decide)) (ne_k k2 (by decide))) (by omega) (ne_k k2 (by decide)) (ne_k k2 (by decide))) (by omega) (ne_k k1 (by decide)) (ne_k k1 (by decide)) (ne_k k1 (by decide)) (by omega) k2 ⟨by decide, by decide⟩ (XR.sum (XR.prod2 (XR.n48 (by omega) k3 e3 (ni_0 (by omega))) (by omega) (Or.inr rfl) k4 (XR.n48 (by omega) k5 e5 (by decide)) (by omega) (hE.ne (by decide) (by decide)) (hE.ne (by decide) (by decide))) (by omega) (hE.ne (by decide) (by decide)) (hE.ne (by decide) (by decide)))) (by omega) (hE.ne (by decide) (by decide))) (by omega) (hE.ne (by decide) (by decide)))
  exact ⟨k0, hh⟩
theorem x_wh2 (h : TA v F n (whP 2 n6 a9 b9 l9 o9)) (hn : n + 4 < 401) (h6 : n6 ≤ 999) (hA : NMs v 55 6 a9 (F [109, nI (48 + a9)])) (hB : NMs v 55 6 b9 (F [109, nI (48 + b9)])) (hL : NMs v 58 10 l9 (F [108, nI (48 + l9)])) (hO : NMs v 58 10 o9 (F [108, nI (48 + o9)])) (hE : EN36 (v 5 (n + 4))) : v 5 n = 18 ∧ XR v 48 0 0 (n + 1) (n + 4) (sT_ 2 n6 a9 b9 l9 o9) := by
  have k0 : v 5 (n + 0) = 18 := (h.at (q := zK 18 [32]) 0 rfl).1
  have k1 : v 5 (n + 1) = 26 := (h.at (q := zK 26 [32]) 1 rfl).1
  have k2 : v 5 (n + 2) = 47 := (h.at (q := zN 109 a9 [32]) 2 rfl).1
  have e2 : v 11 (n + 2) = F [109, nI (48 + a9)] := (h.at (q := zN 109 a9 [32]) 2 rfl).2.trans tvN
  have k3 : v 5 (n + 3) = 47 := (h.at (q := zN 108 l9 []) 3 rfl).1
  have e3 : v 11 (n + 3) = F [108, nI (48 + l9)] := (h.at (q := zN 108 l9 []) 3 rfl).2.trans tvN
  have hh : XR v 48 0 0 (n + 1) (n + 4) _ := (XR.test (XR.both (XR.owns (by omega) k1 k2 e2 hA k3 e3 hL) (by omega) (hE.ne (by decide) (by decide))) (by omega) (hE.ne (by decide) (by decide)))
  exact ⟨k0, hh⟩
theorem x_wh3 (h : TA v F n (whP 3 n6 a9 b9 l9 o9)) (hn : n + 10 < 401) (h6 : n6 ≤ 999) (hA : NMs v 55 6 a9 (F [109, nI (48 + a9)])) (hB : NMs v 55 6 b9 (F [109, nI (48 + b9)])) (hL : NMs v 58 10 l9 (F [108, nI (48 + l9)])) (hO : NMs v 58 10 o9 (F [108, nI (48 + o9)])) (hE : EN36 (v 5 (n + 10))) : v 5 n = 18 ∧ XR v 48 0 0 (n + 1) (n + 10) (sT_ 3 n6 a9 b9 l9 o9) := by
  have k0 : v 5 (n + 0) = 18 := (h.at (q := zK 18 [32]) 0 rfl).1
  have k1 : v 5 (n + 1) = 27 := (h.at (q := zK 27 [32]) 1 rfl).1
  have k2 : v 5 (n + 2) = 26 := (h.at (q := zK 26 [32]) 2 rfl).1
  have k3 : v 5 (n + 3) = 47 := (h.at (q := zN 109 a9 [32]) 3 rfl).1
  have e3 : v 11 (n + 3) = F [109, nI (48 + a9)] := (h.at (q := zN 109 a9 [32]) 3 rfl).2.trans tvN
  have k4 : v 5 (n + 4) = 47 := (h.at (q := zN 108 l9 [32]) 4 rfl).1
  have e4 : v 11 (n + 4) = F [108, nI (48 + l9)] := (h.at (q := zN 108 l9 [32]) 4 rfl).2.trans tvN
  have k5 : v 5 (n + 5) = 29 := (h.at (q := zK 29 [32]) 5 rfl).1
  have k6 : v 5 (n + 6) = 6 := (h.at (q := zK 6 [32]) 6 rfl).1
  have k7 : v 5 (n + 7) = 47 := (h.at (q := zN 109 b9 [32]) 7 rfl).1
  have e7 : v 11 (n + 7) = F [109, nI (48 + b9)] := (h.at (q := zN 109 b9 [32]) 7 rfl).2.trans tvN
  have k8 : v 5 (n + 8) = 43 := (h.at (q := zG 11 [32]) 8 rfl).1
  have k9 : v 5 (n + 9) = 48 := (h.at (q := zD n6 []) 9 rfl).1
  have e9 : v 11 (n + 9) = nI n6 := (h.at (q := zD n6 []) 9 rfl).2.trans tvD
  have hh : XR v 48 0 0 (n + 1) (n + 10) _ := (XR.test2 (XR.both (XR.not (by omega) k1 (by decide) (XR.owns (by omega) k2 k3 e3 hA k4 e4 hL)) (by omega) (ne_k k5 (by decide))) (by omega) k5 (XR.both (XR.cmp (x := 43) (XR.sum (XR.prod (XR.n6 (by omega) k6 k7 e7 hB) (by omega) (ne_k k8 (by decide)) (ne_k k8 (by decide))) (by omega) (ne_k k8 (by decide)) (ne_k k8 (by decide))) (by omega) (ne_k k6 (by decide)) (ne_k k6 (by decide)) (ne_k k6 (by decide)) (by omega) k8 ⟨by decide, by decide⟩ (XR.sum (XR.prod (XR.n48 (by omega) k9 e9 (ni_0 (by omega))) (by omega) (hE.ne (by decide) (by decide)) (hE.ne (by decide) (by decide))) (by omega) (hE.ne (by decide) (by decide)) (hE.ne (by decide) (by decide)))) (by omega) (hE.ne (by decide) (by decide))) (by omega) (hE.ne (by decide) (by decide)))
  exact ⟨k0, hh⟩
theorem x_wh4 (h : TA v F n (whP 4 n6 a9 b9 l9 o9)) (hn : n + 22 < 401) (h6 : n6 ≤ 999) (hA : NMs v 55 6 a9 (F [109, nI (48 + a9)])) (hB : NMs v 55 6 b9 (F [109, nI (48 + b9)])) (hL : NMs v 58 10 l9 (F [108, nI (48 + l9)])) (hO : NMs v 58 10 o9 (F [108, nI (48 + o9)])) (hE : EN36 (v 5 (n + 22))) : v 5 n = 18 ∧ XR v 48 0 0 (n + 1) (n + 22) (sT_ 4 n6 a9 b9 l9 o9) := by
  have k0 : v 5 (n + 0) = 18 := (h.at (q := zK 18 [32]) 0 rfl).1
  have k1 : v 5 (n + 1) = 34 := (h.at (q := zG 2 []) 1 rfl).1
  have k2 : v 5 (n + 2) = 21 := (h.at (q := zK 21 [32]) 2 rfl).1
  have k3 : v 5 (n + 3) = 47 := (h.at (q := zN 108 l9 []) 3 rfl).1
  have e3 : v 11 (n + 3) = F [108, nI (48 + l9)] := (h.at (q := zN 108 l9 []) 3 rfl).2.trans tvN
  have k4 : v 5 (n + 4) = 43 := (h.at (q := zG 11 []) 4 rfl).1
  have k5 : v 5 (n + 5) = 48 := (h.at (q := zD n6 []) 5 rfl).1
  have e5 : v 11 (n + 5) = nI n6 := (h.at (q := zD n6 []) 5 rfl).2.trans tvD
  have k6 : v 5 (n + 6) = 40 := (h.at (q := zG 8 []) 6 rfl).1
  have k7 : v 5 (n + 7) = 48 := (h.at (q := zD 10 [32]) 7 rfl).1
  have e7 : v 11 (n + 7) = 10 := (h.at (q := zD 10 [32]) 7 rfl).2.trans tvD
  have k8 : v 5 (n + 8) = 28 := (h.at (q := zK 28 [32]) 8 rfl).1
  have k9 : v 5 (n + 9) = 20 := (h.at (q := zK 20 []) 9 rfl).1
  have k10 : v 5 (n + 10) = 42 := (h.at (q := zG 10 []) 10 rfl).1
  have k11 : v 5 (n + 11) = 48 := (h.at (q := zD n6 []) 11 rfl).1
  have e11 : v 11 (n + 11) = nI n6 := (h.at (q := zD n6 []) 11 rfl).2.trans tvD
  have k12 : v 5 (n + 12) = 41 := (h.at (q := zG 9 []) 12 rfl).1
  have k13 : v 5 (n + 13) = 48 := (h.at (q := zD 3 []) 13 rfl).1
  have e13 : v 11 (n + 13) = 3 := (h.at (q := zD 3 []) 13 rfl).2.trans tvD
  have k14 : v 5 (n + 14) = 35 := (h.at (q := zG 3 []) 14 rfl).1
  have k15 : v 5 (n + 15) = 29 := (h.at (q := zK 29 [32]) 15 rfl).1
  have k16 : v 5 (n + 16) = 23 := (h.at (q := zK 23 [32]) 16 rfl).1
  have k17 : v 5 (n + 17) = 47 := (h.at (q := zN 108 o9 []) 17 rfl).1
  have e17 : v 11 (n + 17) = F [108, nI (48 + o9)] := (h.at (q := zN 108 o9 []) 17 rfl).2.trans tvN
  have k18 : v 5 (n + 18) = 45 := (h.at (q := zE []) 18 rfl).1
  have k19 : v 5 (n + 19) = 48 := (h.at (q := zD n6 []) 19 rfl).1
  have e19 : v 11 (n + 19) = nI n6 := (h.at (q := zD n6 []) 19 rfl).2.trans tvD
  have k20 : v 5 (n + 20) = 41 := (h.at (q := zG 9 []) 20 rfl).1
  have k21 : v 5 (n + 21) = 48 := (h.at (q := zD 9 []) 21 rfl).1
  have e21 : v 11 (n + 21) = 9 := (h.at (q := zD 9 []) 21 rfl).2.trans tvD
  have hh : XR v 48 0 0 (n + 1) (n + 22) _ := (XR.test2 (XR.both (XR.box (by omega) k1 (by decide) (XR.test (XR.both2 (XR.cmp (x := 43) (XR.sum (XR.prod (XR.n21 (by omega) k2 k3 e3 hL) (by omega) (ne_k k4 (by decide)) (ne_k k4 (by decide))) (by omega) (ne_k k4 (by decide)) (ne_k k4 (by decide))) (by omega) (ne_k k2 (by decide)) (ne_k k2 (by decide)) (ne_k k2 (by decide)) (by omega) k4 ⟨by decide, by decide⟩ (XR.sum (XR.prod2 (XR.n48 (by omega) k5 e5 (ni_0 (by omega))) (by omega) (Or.inl rfl) k6 (XR.n48 (by omega) k7 e7 (by decide)) (by omega) (ne_k k8 (by decide)) (ne_k k8 (by decide))) (by omega) (ne_k k8 (by decide)) (ne_k k8 (by decide)))) (by omega) k8 (XR.cmp (x := 42) (XR.sum (XR.prod (XR.n20 (by omega) k9) (by omega) (ne_k k10 (by decide)) (ne_k k10 (by decide))) (by omega) (ne_k k10 (by decide)) (ne_k k10 (by decide))) (by omega) (ne_k k9 (by decide)) (ne_k k9 (by decide)) (ne_k k9 (by decide)) (by omega) k10 ⟨by decide, by decide⟩ (XR.sum (XR.prod2 (XR.n48 (by omega) k11 e11 (ni_0 (by omega))) (by omega) (Or.inr rfl) k12 (XR.n48 (by omega) k13 e13 (by decide)) (by omega) (ne_k k14 (by decide)) (ne_k k14 (by decide))) (by omega) (ne_k k14 (by decide)) (ne_k k14 (by decide)))) (by omega) (ne_k k14 (by decide))) (by omega) (ne_k k14 (by decide))) (by omega) k14) (by omega) (ne_k k15 (by decide))) (by omega) k15 (XR.both (XR.cmp (x := 45) (XR.sum (XR.prod (XR.n23 (by omega) k16 k17 e17 hO) (by omega) (ne_k k18 (by decide)) (ne_k k18 (by decide))) (by omega) (ne_k k18 (by decide)) (ne_k k18 (by decide))) (by omega) (ne_k k16 (by decide)) (ne_k k16 (by decide)) (ne_k k16 (by decide)) (by omega) k18 ⟨by decide, by decide⟩ (XR.sum (XR.prod2 (XR.n48 (by omega) k19 e19 (ni_0 (by omega))) (by omega) (Or.inr rfl) k20 (XR.n48 (by omega) k21 e21 (by decide)) (by omega) (hE.ne (by decide) (by decide)) (hE.ne (by decide) (by decide))) (by omega) (hE.ne (by decide) (by decide)) (hE.ne (by decide) (by decide)))) (by omega) (hE.ne (by decide) (by decide))) (by omega) (hE.ne (by decide) (by decide)))
  exact ⟨k0, hh⟩
theorem x_wh5 (h : TA v F n (whP 5 n6 a9 b9 l9 o9)) (hn : n + 5 < 401) (h6 : n6 ≤ 999) (hA : NMs v 55 6 a9 (F [109, nI (48 + a9)])) (hB : NMs v 55 6 b9 (F [109, nI (48 + b9)])) (hL : NMs v 58 10 l9 (F [108, nI (48 + l9)])) (hO : NMs v 58 10 o9 (F [108, nI (48 + o9)])) (hE : EN36 (v 5 (n + 5))) : v 5 n = 18 ∧ XR v 48 0 0 (n + 1) (n + 5) (sT_ 5 n6 a9 b9 l9 o9) := by
  have k0 : v 5 (n + 0) = 18 := (h.at (q := zK 18 [32]) 0 rfl).1
  have k1 : v 5 (n + 1) = 24 := (h.at (q := zK 24 [32]) 1 rfl).1
  have k2 : v 5 (n + 2) = 47 := (h.at (q := zN 109 a9 []) 2 rfl).1
  have e2 : v 11 (n + 2) = F [109, nI (48 + a9)] := (h.at (q := zN 109 a9 []) 2 rfl).2.trans tvN
  have k3 : v 5 (n + 3) = 45 := (h.at (q := zE []) 3 rfl).1
  have k4 : v 5 (n + 4) = 48 := (h.at (q := zD n6 []) 4 rfl).1
  have e4 : v 11 (n + 4) = nI n6 := (h.at (q := zD n6 []) 4 rfl).2.trans tvD
  have hh : XR v 48 0 0 (n + 1) (n + 5) _ := (XR.test (XR.both (XR.cmp (x := 45) (XR.sum (XR.prod (XR.n24 (by omega) k1 k2 e2 hA) (by omega) (ne_k k3 (by decide)) (ne_k k3 (by decide))) (by omega) (ne_k k3 (by decide)) (ne_k k3 (by decide))) (by omega) (ne_k k1 (by decide)) (ne_k k1 (by decide)) (ne_k k1 (by decide)) (by omega) k3 ⟨by decide, by decide⟩ (XR.sum (XR.prod (XR.n48 (by omega) k4 e4 (ni_0 (by omega))) (by omega) (hE.ne (by decide) (by decide)) (hE.ne (by decide) (by decide))) (by omega) (hE.ne (by decide) (by decide)) (hE.ne (by decide) (by decide)))) (by omega) (hE.ne (by decide) (by decide))) (by omega) (hE.ne (by decide) (by decide)))
  exact ⟨k0, hh⟩
theorem x_wh6 (h : TA v F n (whP 6 n6 a9 b9 l9 o9)) (hn : n + 8 < 401) (h6 : n6 ≤ 999) (hA : NMs v 55 6 a9 (F [109, nI (48 + a9)])) (hB : NMs v 55 6 b9 (F [109, nI (48 + b9)])) (hL : NMs v 58 10 l9 (F [108, nI (48 + l9)])) (hO : NMs v 58 10 o9 (F [108, nI (48 + o9)])) (hE : EN36 (v 5 (n + 8))) : v 5 n = 18 ∧ XR v 48 0 0 (n + 1) (n + 8) (sT_ 6 n6 a9 b9 l9 o9) := by
  have k0 : v 5 (n + 0) = 18 := (h.at (q := zK 18 [32]) 0 rfl).1
  have k1 : v 5 (n + 1) = 19 := (h.at (q := zK 19 []) 1 rfl).1
  have k2 : v 5 (n + 2) = 41 := (h.at (q := zG 9 []) 2 rfl).1
  have k3 : v 5 (n + 3) = 48 := (h.at (q := zD 2 []) 3 rfl).1
  have e3 : v 11 (n + 3) = 2 := (h.at (q := zD 2 []) 3 rfl).2.trans tvD
  have k4 : v 5 (n + 4) = 40 := (h.at (q := zG 8 []) 4 rfl).1
  have k5 : v 5 (n + 5) = 48 := (h.at (q := zD 2 []) 5 rfl).1
  have e5 : v 11 (n + 5) = 2 := (h.at (q := zD 2 []) 5 rfl).2.trans tvD
  have k6 : v 5 (n + 6) = 44 := (h.at (q := zG 12 []) 6 rfl).1
  have k7 : v 5 (n + 7) = 19 := (h.at (q := zK 19 []) 7 rfl).1
  have hh : XR v 48 0 0 (n + 1) (n + 8) _ := (XR.test (XR.both (XR.cmp (x := 44) (XR.sum (XR.prod3 (XR.n19 (by omega) k1) (by omega) (Or.inr rfl) k2 (XR.n48 (by omega) k3 e3 (by decide)) (by omega) (Or.inl rfl) k4 (XR.n48 (by omega) k5 e5 (by decide)) (by omega) (ne_k k6 (by decide)) (ne_k k6 (by decide))) (by omega) (ne_k k6 (by decide)) (ne_k k6 (by decide))) (by omega) (ne_k k1 (by decide)) (ne_k k1 (by decide)) (ne_k k1 (by decide)) (by omega) k6 ⟨by decide, by decide⟩ (XR.sum (XR.prod (XR.n19 (by omega) k7) (by omega) (hE.ne (by decide) (by decide)) (hE.ne (by decide) (by decide))) (by omega) (hE.ne (by decide) (by decide)) (hE.ne (by decide) (by decide)))) (by omega) (hE.ne (by decide) (by decide))) (by omega) (hE.ne (by decide) (by decide)))
  exact ⟨k0, hh⟩
theorem x_wh7 (h : TA v F n (whP 7 n6 a9 b9 l9 o9)) (hn : n + 8 < 401) (h6 : n6 ≤ 999) (hA : NMs v 55 6 a9 (F [109, nI (48 + a9)])) (hB : NMs v 55 6 b9 (F [109, nI (48 + b9)])) (hL : NMs v 58 10 l9 (F [108, nI (48 + l9)])) (hO : NMs v 58 10 o9 (F [108, nI (48 + o9)])) (hE : EN36 (v 5 (n + 8))) : v 5 n = 18 ∧ XR v 48 0 0 (n + 1) (n + 8) (sT_ 7 n6 a9 b9 l9 o9) := by
  have k0 : v 5 (n + 0) = 18 := (h.at (q := zK 18 [32]) 0 rfl).1
  have k1 : v 5 (n + 1) = 27 := (h.at (q := zK 27 [32]) 1 rfl).1
  have k2 : v 5 (n + 2) = 22 := (h.at (q := zK 22 [32]) 2 rfl).1
  have k3 : v 5 (n + 3) = 47 := (h.at (q := zN 108 l9 []) 3 rfl).1
  have e3 : v 11 (n + 3) = F [108, nI (48 + l9)] := (h.at (q := zN 108 l9 []) 3 rfl).2.trans tvN
  have k4 : v 5 (n + 4) = 43 := (h.at (q := zG 11 []) 4 rfl).1
  have k5 : v 5 (n + 5) = 48 := (h.at (q := zD n6 []) 5 rfl).1
  have e5 : v 11 (n + 5) = nI n6 := (h.at (q := zD n6 []) 5 rfl).2.trans tvD
  have k6 : v 5 (n + 6) = 40 := (h.at (q := zG 8 []) 6 rfl).1
  have k7 : v 5 (n + 7) = 48 := (h.at (q := zD 9 []) 7 rfl).1
  have e7 : v 11 (n + 7) = 9 := (h.at (q := zD 9 []) 7 rfl).2.trans tvD
  have hh : XR v 48 0 0 (n + 1) (n + 8) _ := (XR.test (XR.both (XR.not (by omega) k1 (by decide) (XR.cmp (x := 43) (XR.sum (XR.prod (XR.n22 (by omega) k2 k3 e3 hL) (by omega) (ne_k k4 (by decide)) (ne_k k4 (by decide))) (by omega) (ne_k k4 (by decide)) (ne_k k4 (by decide))) (by omega) (ne_k k2 (by decide)) (ne_k k2 (by decide)) (ne_k k2 (by decide)) (by omega) k4 ⟨by decide, by decide⟩ (XR.sum (XR.prod2 (XR.n48 (by omega) k5 e5 (ni_0 (by omega))) (by omega) (Or.inl rfl) k6 (XR.n48 (by omega) k7 e7 (by decide)) (by omega) (hE.ne (by decide) (by decide)) (hE.ne (by decide) (by decide))) (by omega) (hE.ne (by decide) (by decide)) (hE.ne (by decide) (by decide))))) (by omega) (hE.ne (by decide) (by decide))) (by omega) (hE.ne (by decide) (by decide)))
  exact ⟨k0, hh⟩
theorem x_su {f : Nat} (hf : f ≤ 7) (h : TA v F n (suP f n4 a9 b9 l9 bl)) (hn : n + (suP f n4 a9 b9 l9 bl).length < 401) (h4 : n4 ≤ 999) (hA : NMs v 55 6 a9 (F [109, nI (48 + a9)])) (hB : NMs v 55 6 b9 (F [109, nI (48 + b9)])) (hL : NMs v 58 10 l9 (F [108, nI (48 + l9)])) (hE : EN36 (v 5 (n + (suP f n4 a9 b9 l9 bl).length))) : XR v 48 5 0 n (n + (suP f n4 a9 b9 l9 bl).length) (sS_ f n4 a9 b9 l9) := by
  rcases (by omega : f = 0 ∨ f = 1 ∨ f = 2 ∨ f = 3 ∨ f = 4 ∨ f = 5 ∨ f = 6 ∨ f = 7) with rfl | rfl | rfl | rfl | rfl | rfl | rfl | rfl
  · exact x_su0 h hn h4 hA hB hL hE
  · exact x_su1 h hn h4 hA hB hL hE
  · exact x_su2 h hn h4 hA hB hL hE
  · exact x_su3 h hn h4 hA hB hL hE
  · exact x_su4 h hn h4 hA hB hL hE
  · exact x_su5 h hn h4 hA hB hL hE
  · exact x_su6 h hn h4 hA hB hL hE
  · exact x_su7 h hn h4 hA hB hL hE
theorem x_wh {g : Nat} (h0 : 1 ≤ g) (hg : g ≤ 7) (h : TA v F n (whP g n6 a9 b9 l9 o9)) (hn : n + (whP g n6 a9 b9 l9 o9).length < 401) (h6 : n6 ≤ 999) (hA : NMs v 55 6 a9 (F [109, nI (48 + a9)])) (hB : NMs v 55 6 b9 (F [109, nI (48 + b9)])) (hL : NMs v 58 10 l9 (F [108, nI (48 + l9)])) (hO : NMs v 58 10 o9 (F [108, nI (48 + o9)])) (hE : EN36 (v 5 (n + (whP g n6 a9 b9 l9 o9).length))) : v 5 n = 18 ∧ XR v 48 0 0 (n + 1) (n + (whP g n6 a9 b9 l9 o9).length) (sT_ g n6 a9 b9 l9 o9) := by
  rcases (by omega : g = 1 ∨ g = 2 ∨ g = 3 ∨ g = 4 ∨ g = 5 ∨ g = 6 ∨ g = 7) with rfl | rfl | rfl | rfl | rfl | rfl | rfl
  · exact x_wh1 h hn h6 hA hB hL hO hE
  · exact x_wh2 h hn h6 hA hB hL hO hE
  · exact x_wh3 h hn h6 hA hB hL hO hE
  · exact x_wh4 h hn h6 hA hB hL hO hE
  · exact x_wh5 h hn h6 hA hB hL hO hE
  · exact x_wh6 h hn h6 hA hB hL hO hE
  · exact x_wh7 h hn h6 hA hB hL hO hE
end
