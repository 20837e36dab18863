/-! LIST'S TEXT, AS ITS PIECES SAY IT -/
section
variable {bl R T : List Int32} {rest : List Pz} {f n4 n6 a9 b9 l9 o9 g s one oth i x y z k m d ng nm nt nl L0 : Nat} {xs : Nat → Int32}
theorem dl1 (h : m ≤ 9) : decL m = [nI (48 + m)] := if_pos (by omega)
theorem su_tx0 (ha : a9 ≤ 9) (hb : b9 ≤ 9) (hl : l9 ≤ 9) : sumT 0 n4 a9 b9 l9 ++ (bl ++ txO rest) = ldB 0 ++ txO (suP 0 n4 a9 b9 l9 bl ++ rest) := by
  rw [show sumT 0 n4 a9 b9 l9 = (([] ++ tx50) ++ decL n4) from rfl]
  simp only [List.append_assoc, List.nil_append]
  rfl
theorem su_tx1 (ha : a9 ≤ 9) (hb : b9 ≤ 9) (hl : l9 ≤ 9) : sumT 1 n4 a9 b9 l9 ++ (bl ++ txO rest) = ldB 1 ++ txO (suP 1 n4 a9 b9 l9 bl ++ rest) := by
  rw [show sumT 1 n4 a9 b9 l9 = (((([] ++ tx52) ++ (([] ++ tx35) ++ decL a9)) ++ tx54) ++ decL n4) from rfl]
  rw [dl1 ha]
  simp only [List.append_assoc, List.nil_append]
  rfl
theorem su_tx2 (ha : a9 ≤ 9) (hb : b9 ≤ 9) (hl : l9 ≤ 9) : sumT 2 n4 a9 b9 l9 ++ (bl ++ txO rest) = ldB 2 ++ txO (suP 2 n4 a9 b9 l9 bl ++ rest) := by
  rw [show sumT 2 n4 a9 b9 l9 = (((([] ++ tx56) ++ (([] ++ tx48) ++ decL l9)) ++ tx58) ++ decL n4) from rfl]
  rw [dl1 hl]
  simp only [List.append_assoc, List.nil_append]
  rfl
theorem su_tx3 (ha : a9 ≤ 9) (hb : b9 ≤ 9) (hl : l9 ≤ 9) : sumT 3 n4 a9 b9 l9 ++ (bl ++ txO rest) = ldB 3 ++ txO (suP 3 n4 a9 b9 l9 bl ++ rest) := by
  rw [show sumT 3 n4 a9 b9 l9 = ((((((([] ++ tx60) ++ (([] ++ tx35) ++ decL a9)) ++ tx35) ++ decL b9) ++ tx62) ++ decL n4) ++ tx64) from rfl]
  rw [dl1 ha]
  rw [dl1 hb]
  simp only [List.append_assoc, List.nil_append]
  rfl
theorem su_tx4 (ha : a9 ≤ 9) (hb : b9 ≤ 9) (hl : l9 ≤ 9) : sumT 4 n4 a9 b9 l9 ++ (bl ++ txO rest) = ldB 4 ++ txO (suP 4 n4 a9 b9 l9 bl ++ rest) := by
  rw [show sumT 4 n4 a9 b9 l9 = ((((([] ++ tx66) ++ (([] ++ tx48) ++ decL l9)) ++ tx62) ++ decL n4) ++ tx68) from rfl]
  rw [dl1 hl]
  simp only [List.append_assoc, List.nil_append]
  rfl
theorem su_tx5 (ha : a9 ≤ 9) (hb : b9 ≤ 9) (hl : l9 ≤ 9) : sumT 5 n4 a9 b9 l9 ++ (bl ++ txO rest) = ldB 5 ++ txO (suP 5 n4 a9 b9 l9 bl ++ rest) := by
  rw [show sumT 5 n4 a9 b9 l9 = (((([] ++ tx70) ++ decL n4) ++ tx72) ++ (([] ++ tx35) ++ decL a9)) from rfl]
  rw [dl1 ha]
  simp only [List.append_assoc, List.nil_append]
  rfl
theorem su_tx6 (ha : a9 ≤ 9) (hb : b9 ≤ 9) (hl : l9 ≤ 9) : sumT 6 n4 a9 b9 l9 ++ (bl ++ txO rest) = ldB 6 ++ txO (suP 6 n4 a9 b9 l9 bl ++ rest) := by
  rw [show sumT 6 n4 a9 b9 l9 = (((([] ++ tx74) ++ (([] ++ tx48) ++ decL l9)) ++ tx76) ++ decL n4) from rfl]
  rw [dl1 hl]
  simp only [List.append_assoc, List.nil_append]
  rfl
theorem su_tx7 (ha : a9 ≤ 9) (hb : b9 ≤ 9) (hl : l9 ≤ 9) : sumT 7 n4 a9 b9 l9 ++ (bl ++ txO rest) = ldB 7 ++ txO (suP 7 n4 a9 b9 l9 bl ++ rest) := by
  rw [show sumT 7 n4 a9 b9 l9 = tx78 from rfl]
  rfl
theorem wh_tx0 (ha : a9 ≤ 9) (hb : b9 ≤ 9) (hl : l9 ≤ 9) (ho : o9 ≤ 9) : whenT 0 n6 a9 b9 l9 o9 ++ txO rest = wbB 0 ++ txO (whP 0 n6 a9 b9 l9 o9 ++ rest) := by
  rfl
theorem wh_tx1 (ha : a9 ≤ 9) (hb : b9 ≤ 9) (hl : l9 ≤ 9) (ho : o9 ≤ 9) : whenT 1 n6 a9 b9 l9 o9 ++ txO rest = wbB 1 ++ txO (whP 1 n6 a9 b9 l9 o9 ++ rest) := by
  rw [show whenT 1 n6 a9 b9 l9 o9 = ((([] ++ tx82) ++ decL n6) ++ tx84) from rfl]
  simp only [List.append_assoc, List.nil_append]
  rfl
theorem wh_tx2 (ha : a9 ≤ 9) (hb : b9 ≤ 9) (hl : l9 ≤ 9) (ho : o9 ≤ 9) : whenT 2 n6 a9 b9 l9 o9 ++ txO rest = wbB 2 ++ txO (whP 2 n6 a9 b9 l9 o9 ++ rest) := by
  rw [show whenT 2 n6 a9 b9 l9 o9 = ((([] ++ tx86) ++ (([] ++ tx35) ++ decL a9)) ++ (([] ++ tx48) ++ decL l9)) from rfl]
  rw [dl1 ha]
  rw [dl1 hl]
  simp only [List.append_assoc, List.nil_append]
  rfl
theorem wh_tx3 (ha : a9 ≤ 9) (hb : b9 ≤ 9) (hl : l9 ≤ 9) (ho : o9 ≤ 9) : whenT 3 n6 a9 b9 l9 o9 ++ txO rest = wbB 3 ++ txO (whP 3 n6 a9 b9 l9 o9 ++ rest) := by
  rw [show whenT 3 n6 a9 b9 l9 o9 = ((((((([] ++ tx88) ++ (([] ++ tx35) ++ decL a9)) ++ (([] ++ tx48) ++ decL l9)) ++ tx90) ++ decL b9) ++ tx92) ++ decL n6) from rfl]
  rw [dl1 ha]
  rw [dl1 hb]
  rw [dl1 hl]
  simp only [List.append_assoc, List.nil_append]
  rfl
theorem wh_tx4 (ha : a9 ≤ 9) (hb : b9 ≤ 9) (hl : l9 ≤ 9) (ho : o9 ≤ 9) : whenT 4 n6 a9 b9 l9 o9 ++ txO rest = wbB 4 ++ txO (whP 4 n6 a9 b9 l9 o9 ++ rest) := by
  rw [show whenT 4 n6 a9 b9 l9 o9 = ((((((((((([] ++ tx94) ++ (([] ++ tx48) ++ decL l9)) ++ tx96) ++ decL n6) ++ tx98) ++ decL n6) ++ tx100) ++ decL o9) ++ tx102) ++ decL n6) ++ tx104) from rfl]
  rw [dl1 hl]
  rw [dl1 ho]
  simp only [List.append_assoc, List.nil_append]
  rfl
theorem wh_tx5 (ha : a9 ≤ 9) (hb : b9 ≤ 9) (hl : l9 ≤ 9) (ho : o9 ≤ 9) : whenT 5 n6 a9 b9 l9 o9 ++ txO rest = wbB 5 ++ txO (whP 5 n6 a9 b9 l9 o9 ++ rest) := by
  rw [show whenT 5 n6 a9 b9 l9 o9 = (((([] ++ tx106) ++ (([] ++ tx35) ++ decL a9)) ++ tx102) ++ decL n6) from rfl]
  rw [dl1 ha]
  simp only [List.append_assoc, List.nil_append]
  rfl
theorem wh_tx6 (ha : a9 ≤ 9) (hb : b9 ≤ 9) (hl : l9 ≤ 9) (ho : o9 ≤ 9) : whenT 6 n6 a9 b9 l9 o9 ++ txO rest = wbB 6 ++ txO (whP 6 n6 a9 b9 l9 o9 ++ rest) := by
  rw [show whenT 6 n6 a9 b9 l9 o9 = tx108 from rfl]
  rfl
theorem wh_tx7 (ha : a9 ≤ 9) (hb : b9 ≤ 9) (hl : l9 ≤ 9) (ho : o9 ≤ 9) : whenT 7 n6 a9 b9 l9 o9 ++ txO rest = wbB 7 ++ txO (whP 7 n6 a9 b9 l9 o9 ++ rest) := by
  rw [show whenT 7 n6 a9 b9 l9 o9 = ((((([] ++ tx110) ++ (([] ++ tx48) ++ decL l9)) ++ tx96) ++ decL n6) ++ tx112) from rfl]
  rw [dl1 hl]
  simp only [List.append_assoc, List.nil_append]
  rfl
theorem su_tx (hf : f ≤ 7) (ha : a9 ≤ 9) (hb : b9 ≤ 9) (hl : l9 ≤ 9) : sumT f n4 a9 b9 l9 ++ (bl ++ txO rest) = ldB f ++ txO (suP f n4 a9 b9 l9 bl ++ rest) := by
  rcases (by omega : f = 0 ∨ f = 1 ∨ f = 2 ∨ f = 3 ∨ f = 4 ∨ f = 5 ∨ f = 6 ∨ f = 7) with rfl | rfl | rfl | rfl | rfl | rfl | rfl | rfl
  · exact su_tx0 ha hb hl
  · exact su_tx1 ha hb hl
  · exact su_tx2 ha hb hl
  · exact su_tx3 ha hb hl
  · exact su_tx4 ha hb hl
  · exact su_tx5 ha hb hl
  · exact su_tx6 ha hb hl
  · exact su_tx7 ha hb hl
theorem wh_tx (hg : g ≤ 7) (ha : a9 ≤ 9) (hb : b9 ≤ 9) (hl : l9 ≤ 9) (ho : o9 ≤ 9) : whenT g n6 a9 b9 l9 o9 ++ txO rest = wbB g ++ txO (whP g n6 a9 b9 l9 o9 ++ rest) := by
  rcases (by omega : g = 0 ∨ g = 1 ∨ g = 2 ∨ g = 3 ∨ g = 4 ∨ g = 5 ∨ g = 6 ∨ g = 7) with rfl | rfl | rfl | rfl | rfl | rfl | rfl | rfl
  · exact wh_tx0 ha hb hl ho
  · exact wh_tx1 ha hb hl ho
  · exact wh_tx2 ha hb hl ho
  · exact wh_tx3 ha hb hl ho
  · exact wh_tx4 ha hb hl ho
  · exact wh_tx5 ha hb hl ho
  · exact wh_tx6 ha hb hl ho
  · exact wh_tx7 ha hb hl ho
theorem sp_tx (hi : i ≤ 9) : ((((T ++ tx131) ++ decL i) ++ tx133) ++ decL x) ++ tx135 = T ++ txO (spL i x) := by
  rw [dl1 hi]; simp only [List.append_assoc]; rfl
theorem gu_tx (hi : i ≤ 9) : ((((((T ++ tx142) ++ decL i) ++ tx144) ++ decL x) ++ tx146) ++ decL y) ++ tx135 = T ++ txO (guL i x y) := by
  rw [dl1 hi]; simp only [List.append_assoc]; rfl
theorem me_tx (hi : i ≤ 9) : ((((((T ++ tx155) ++ decL i) ++ tx157) ++ decL x) ++ tx159) ++ decL y) ++ meE i = T ++ txO (meL i x y) := by
  rw [dl1 hi]; simp only [List.append_assoc]
  unfold meE meL meb mec
  by_cases h : i % 2 = 0
  · rw [if_pos h, if_pos h, if_pos h]; rfl
  · rw [if_neg h, if_neg h, if_neg h]; rfl
theorem lt_tx (hi : i ≤ 9) (hx : x ≤ 9) (hz : z ≤ 9) : ((((((((T ++ tx166) ++ decL i) ++ tx168) ++ decL x) ++ tx170) ++ decL y) ++ tx172) ++ decL z) ++ tx135 = T ++ txO (ltL i x y z) := by
  rw [dl1 hi, dl1 hx, dl1 hz]; simp only [List.append_assoc]; rfl
theorem or_tx (hs : one ≤ 9) (ht : oth ≤ 9) (hf : f ≤ 7) (hg : g ≤ 7) (ha : a9 ≤ 9) (hb : b9 ≤ 9) (hl : l9 ≤ 9) (ho : o9 ≤ 9) : ((T ++ (if s = 0 then (((([] ++ tx182) ++ decL one) ++ tx184) ++ decL oth) else if s = 1 then (((((([] ++ tx186) ++ decL one) ++ tx188) ++ decL oth) ++ tx190) ++ sumT f n4 a9 b9 l9) else (((((([] ++ tx196) ++ decL one) ++ tx188) ++ decL oth) ++ tx190) ++ sumT f n4 a9 b9 l9))) ++ whenT g n6 a9 b9 l9 o9) ++ tx201 = T ++ txO (orL_ s one oth f n4 a9 b9 l9 g n6 o9) := by
  rw [dl1 hs, dl1 ht, show tx201 = txO [zG 4 [10]] from rfl]
  unfold orL_ orHd
  by_cases h0 : s = 0
  · rw [if_pos h0, if_pos h0]
    simp only [List.append_assoc, List.nil_append]
    rw [wh_tx hg ha hb hl ho]
    rfl
  rw [if_neg h0, if_neg h0]
  by_cases h1 : s = 1
  · rw [if_pos h1, if_pos h1]
    simp only [List.append_assoc, List.nil_append]
    rw [wh_tx hg ha hb hl ho, su_tx hf ha hb hl]
    rfl
  · rw [if_neg h1, if_neg h1]
    simp only [List.append_assoc, List.nil_append]
    rw [wh_tx hg ha hb hl ho, su_tx hf ha hb hl]
    rfl
def spA (L0 : Nat) (xs : Nat → Int32) (i : Nat) : List Pz := spL i (loX L0 xs i)
def guA (L0 : Nat) (xs : Nat → Int32) (i : Nat) : List Pz := guL i (guF L0 xs i) (guB L0 xs i)
def meA (L0 : Nat) (xs : Nat → Int32) (i : Nat) : List Pz := meL i (meC L0 xs i) (meD L0 xs i)
def ltA (nl nm L0 : Nat) (xs : Nat → Int32) (i : Nat) : List Pz := ltL i (ltS nl L0 xs i) (ltK L0 xs i) (ltM nm L0 xs i)
def orA_ (ng nm nt L0 : Nat) (xs : Nat → Int32) (i : Nat) : List Pz := orL_ (orS L0 xs i) (orO nm nt L0 xs i) (orW ng nm L0 xs i) (orF L0 xs i) (orN L0 xs i) (orA nm L0 xs i) (orB nm L0 xs i) (orL nt L0 xs i) (orH L0 xs i) (orI L0 xs i) (orM nt L0 xs i)
/-- the pieces of the whole text -/
def liP (L0 : Nat) (xs : Nat → Int32) : List Pz := cat_ (spA L0 xs) (liL L0 xs) ++ (cat_ (guA L0 xs) (liG L0 xs) ++ (cat_ (meA L0 xs) (liM L0 xs) ++ (cat_ (ltA (liL L0 xs) (liM L0 xs) L0 xs) (liT L0 xs) ++ cat_ (orA_ (liG L0 xs) (liM L0 xs) (liT L0 xs) L0 xs) (liO L0 xs))))
theorem sp_all : ∀ n, n ≤ 10 → spT L0 xs n = txO (cat_ (spA L0 xs) n)
  | 0, _ => rfl
  | n + 1, h => by
    show ((((spT L0 xs n ++ tx131) ++ decL n) ++ tx133) ++ decL (loX L0 xs n)) ++ tx135 = txO (cat_ (spA L0 xs) n ++ spA L0 xs n)
    rw [sp_tx (by omega), sp_all n (by omega), txO_app]; rfl
theorem gu_all : ∀ n, n ≤ 10 → guT T L0 xs n = T ++ txO (cat_ (guA L0 xs) n)
  | 0, _ => (List.append_nil T).symm
  | n + 1, h => by
    show ((((((guT T L0 xs n ++ tx142) ++ decL n) ++ tx144) ++ decL (guF L0 xs n)) ++ tx146) ++ decL (guB L0 xs n)) ++ tx135 = T ++ txO (cat_ (guA L0 xs) n ++ guA L0 xs n)
    rw [gu_tx (by omega), gu_all n (by omega), txO_app, List.append_assoc]; rfl
theorem me_all : ∀ n, n ≤ 10 → meT T L0 xs n = T ++ txO (cat_ (meA L0 xs) n)
  | 0, _ => (List.append_nil T).symm
  | n + 1, h => by
    show ((((((meT T L0 xs n ++ tx155) ++ decL n) ++ tx157) ++ decL (meC L0 xs n)) ++ tx159) ++ decL (meD L0 xs n)) ++ meE n = T ++ txO (cat_ (meA L0 xs) n ++ meA L0 xs n)
    rw [me_tx (by omega), me_all n (by omega), txO_app, List.append_assoc]; rfl
theorem lt_all (h1 : 1 ≤ nl ∧ nl ≤ 3) (h2 : 2 ≤ nm ∧ nm ≤ 5) : ∀ n, n ≤ 10 → ltT nl nm T L0 xs n = T ++ txO (cat_ (ltA nl nm L0 xs) n)
  | 0, _ => (List.append_nil T).symm
  | n + 1, h => by
    have a1 := ltS_le (nl := nl) (L0 := L0) (xs := xs) (i := n) h1.1
    have a2 := ltM_le (nm := nm) (L0 := L0) (xs := xs) (i := n) (by omega)
    show ((((((((ltT nl nm T L0 xs n ++ tx166) ++ decL n) ++ tx168) ++ decL (ltS nl L0 xs n)) ++ tx170) ++ decL (ltK L0 xs n)) ++ tx172) ++ decL (ltM nm L0 xs n)) ++ tx135 = T ++ txO (cat_ (ltA nl nm L0 xs) n ++ ltA nl nm L0 xs n)
    rw [lt_tx (by omega) (by omega) (by omega), lt_all h1 h2 n (by omega), txO_app, List.append_assoc]; rfl
theorem or_all (h1 : 1 ≤ ng ∧ ng ≤ 3) (h2 : 1 ≤ nm ∧ nm ≤ 5) (h3 : 1 ≤ nt ∧ nt ≤ 5) : ∀ n, orT ng nm nt T L0 xs n = T ++ txO (cat_ (orA_ ng nm nt L0 xs) n)
  | 0 => (List.append_nil T).symm
  | n + 1 => by
    obtain ⟨b1, b2, b3, b4, b5, b6, b7, b8, b9, c1, c2, -⟩ := or_le (ng := ng) (nm := nm) (nt := nt) (L0 := L0) (xs := xs) (i := n) h1 h2 h3
    show ((orT ng nm nt T L0 xs n ++ orZ ng nm nt L0 xs n) ++ orV nm nt L0 xs n) ++ tx201 = T ++ txO (cat_ (orA_ ng nm nt L0 xs) n ++ orA_ ng nm nt L0 xs n)
    unfold orZ orU orV
    rw [or_tx (by omega) (by omega) (by omega) (by omega) (by omega) (by omega) (by omega) (by omega), or_all h1 h2 h3 n, txO_app, List.append_assoc]; rfl
theorem li_tx : liX L0 xs = txO (liP L0 xs) := by
  obtain ⟨h1, h2, h3, h4, h5⟩ := li_le (L0 := L0) (xs := xs)
  unfold liX liP
  rw [or_all h2 ⟨by omega, h3.2⟩ h4, lt_all h1 h3 _ (by omega), me_all _ (by omega), gu_all _ (by omega), sp_all _ (by omega)]
  simp only [txO_app, List.append_assoc]
theorem li_ok : OKs (liP L0 xs) := by
  obtain ⟨h1, h2, h3, h4, h5⟩ := li_le (L0 := L0) (xs := xs)
  refine OKs_of (OKt_app (ok_cat _ (fun i hi R => ?_) _) (OKt_app (ok_cat _ (fun i hi R => ?_) _) (OKt_app (ok_cat _ (fun i hi R => ?_) _) (OKt_app (ok_cat _ (fun i hi R => ?_) _) (ok_cat _ (fun i hi R => ?_) _)))))
  · exact ok_sp (by omega) (by have := loX_le (L0 := L0) (xs := xs) (i := i); omega)
  · exact ok_gu (by omega) (by have := guF_le (L0 := L0) (xs := xs) (i := i); omega) (by have := guB_le (L0 := L0) (xs := xs) (i := i); omega)
  · exact ok_me (by omega) (by have := meC_le (L0 := L0) (xs := xs) (i := i); omega) (by have := meD_le (L0 := L0) (xs := xs) (i := i); omega)
  · exact ok_lt (by omega) (by have := ltS_le (nl := liL L0 xs) (L0 := L0) (xs := xs) (i := i) h1.1; omega) (by have := ltK_le (L0 := L0) (xs := xs) (i := i); omega) (by have := ltM_le (nm := liM L0 xs) (L0 := L0) (xs := xs) (i := i) (by omega); omega)
  · obtain ⟨b1, b2, b3, b4, b5, b6, b7, b8, b9, c1, c2, -⟩ := or_le (ng := liG L0 xs) (nm := liM L0 xs) (nt := liT L0 xs) (L0 := L0) (xs := xs) (i := i) h2 ⟨by omega, h3.2⟩ h4
    exact ok_or (by omega) (by omega) (by omega) (by omega) (by omega) (by omega) (by omega) (by omega) (by omega) (by omega)
theorem su_len : (suP f n4 a9 b9 l9 bl).length ≤ 10 := by
  unfold suP
  split <;> exact Nat.le_of_ble_eq_true rfl
theorem wh_len : (whP g n6 a9 b9 l9 o9).length ≤ 22 := by
  unfold whP
  split <;> exact Nat.le_of_ble_eq_true rfl
theorem or_len : (orL_ s one oth f n4 a9 b9 l9 g n6 o9).length ≤ 38 := by
  have h1 := su_len (f := f) (n4 := n4) (a9 := a9) (b9 := b9) (l9 := l9) (bl := wbB g)
  have h2 := wh_len (g := g) (n6 := n6) (a9 := a9) (b9 := b9) (l9 := l9) (o9 := o9)
  unfold orL_ orHd
  split
  · simp only [List.length_append, List.length_cons, List.length_nil]; omega
  split
  · simp only [List.length_append, List.length_cons, List.length_nil]; omega
  · simp only [List.length_append, List.length_cons, List.length_nil]; omega
theorem cat_len {h : Nat → List Pz} {c : Nat} (hc : ∀ i, (h i).length ≤ c) : ∀ n, (cat_ h n).length ≤ n * c
  | 0 => Nat.zero_le _
  | n + 1 => by
    have h1 := cat_len hc n
    have h2 := hc n
    show (cat_ h n ++ h n).length ≤ _
    rw [List.length_append, Nat.succ_mul]; omega
theorem li_len : (liP L0 xs).length ≤ 382 := by
  obtain ⟨h1, h2, h3, h4, h5⟩ := li_le (L0 := L0) (xs := xs)
  have a1 := cat_len (h := spA L0 xs) (c := 5) (fun i => Nat.le_refl _) (liL L0 xs)
  have a2 := cat_len (h := guA L0 xs) (c := 7) (fun i => Nat.le_refl _) (liG L0 xs)
  have a3 := cat_len (h := meA L0 xs) (c := 7) (fun i => Nat.le_refl _) (liM L0 xs)
  have a4 := cat_len (h := ltA (liL L0 xs) (liM L0 xs) L0 xs) (c := 9) (fun i => Nat.le_refl _) (liT L0 xs)
  have a5 := cat_len (h := orA_ (liG L0 xs) (liM L0 xs) (liT L0 xs) L0 xs) (c := 38) (fun i => or_len) (liO L0 xs)
  unfold liP
  simp only [List.length_append]
  omega
end
