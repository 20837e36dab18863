/-! A RIGHT TEXT IS SCANNED -/
section
variable {v v0 v1 w u : Va} {m p l n z i k a b s : Nat} {y c : Int32} {ts : List Tk}
theorem tks_snoc {fx : List Int32 → Nat} {q : Pz} : ∀ (dn : List Pz) (p : Nat), tks p (pcs fx (dn ++ [q])) = tks p (pcs fx dn) ++ [((q.1, p + (txO dn).length, q.2.1.length, if q.1 = 47 then nI (fx q.2.1) else q.2.2.2) : Tk)]
  | [], p => rfl
  | r :: dn, p => by
    have := tks_snoc (fx := fx) (q := q) dn (p + r.2.1.length + r.2.2.1.length)
    show _ :: tks (p + r.2.1.length + r.2.2.1.length) (pcs fx (dn ++ [q])) = _ :: (tks (p + r.2.1.length + r.2.2.1.length) (pcs fx dn) ++ _)
    rw [this]
    congr 3
    show (q.1, p + r.2.1.length + r.2.2.1.length + (txO dn).length, q.2.1.length, _) = (q.1, p + (r.2.1 ++ (r.2.2.1 ++ txO dn)).length, q.2.1.length, _)
    rw [List.length_append, List.length_append]
    congr 2
    omega
theorem text_rda {full : List Pz} (hT : LAY v 0 (txO full)) (hm : (txO full).length ≤ 1990) (hn : full.length < 400) : ∀ (zs dn : List Pz), full = dn ++ zs → OKs zs → (∀ (i : Nat) (r : Pz), dn[i]? = some r → r.1 ≤ 48) → RDA v (txO full).length (txO dn).length (tks 0 (pcs (fxi full) dn)) (pcs (fxi full) zs)
  | [], dn, hf, _, _ => by
    rw [List.append_nil] at hf
    show (txO dn).length = (txO full).length
    rw [hf]
  | q :: qs, dn, hf, ⟨h1, h2, h3⟩, hk => by
    have e2 : txO full = txO dn ++ (q.2.1 ++ (q.2.2.1 ++ txO qs)) := by rw [hf, txO_app]; rfl
    have hlen : (txO full).length = (txO dn).length + (q.2.1.length + (q.2.2.1.length + (txO qs).length)) := by rw [e2, List.length_append, List.length_append, List.length_append]
    have hLb : LAY v ((txO dn).length + q.2.1.length) (q.2.2.1 ++ txO qs) := by rw [e2] at hT; have := hT.right.right; rwa [Nat.zero_add] at this
    obtain ⟨f1, -, -, f4, -⟩ := h1.first
    have e3 : (txO (dn ++ [q])).length = (txO dn).length + q.2.1.length + q.2.2.1.length := by
      rw [txO_app]
      show (txO dn ++ (q.2.1 ++ (q.2.2.1 ++ []))).length = _
      rw [List.append_nil, List.length_append, List.length_append]; omega
    have hrec := text_rda hT hm hn qs (dn ++ [q]) (by rw [hf, List.append_assoc]; rfl) h3 (fun i r hr => by
      by_cases hi : i < dn.length
      · rw [List.getElem?_append_left hi] at hr; exact hk i r hr
      · rw [List.getElem?_append_right (by omega)] at hr
        cases hj : i - dn.length with
        | zero => rw [hj] at hr; cases hr; exact f4
        | succ j => rw [hj] at hr; cases hr)
    rw [e3, tks_snoc, Nat.zero_add] at hrec
    refine ⟨by omega, piece_rd hf hT hm hn h1 hk, fun i hi => ?_, ?_, ?_, hrec⟩
    · show v 2 ((txO dn).length + q.2.1.length + i) = 32 ∨ v 2 ((txO dn).length + q.2.1.length + i) = 10
      rw [hLb.left i hi, List.getD_eq_getElem?_getD, List.getElem?_eq_getElem hi]
      exact h2 _ (List.getElem_mem hi)
    · show (txO dn).length + q.2.1.length + q.2.2.1.length = (txO full).length ∨ _
      cases qs with
      | nil => exact Or.inl (by rw [hlen]; show _ = (txO dn).length + (q.2.1.length + (q.2.2.1.length + 0)); omega)
      | cons r rs =>
        obtain ⟨g1, g2, g3, -⟩ := h3.1.first
        have hr : LAY v ((txO dn).length + q.2.1.length + q.2.2.1.length) r.2.1 := hLb.right.left
        have := hr 0 (by omega)
        rw [Nat.add_zero] at this
        refine Or.inr ?_
        show v 2 ((txO dn).length + q.2.1.length + q.2.2.1.length) ≠ 32 ∧ v 2 ((txO dn).length + q.2.1.length + q.2.2.1.length) ≠ 10
        rw [this]; exact ⟨g2, g3⟩
    · show (txO dn).length + q.2.1.length + q.2.2.1.length ≤ _
      omega
/-- the scanner's tokens of a right text: names have their first piece's number -/
theorem text_scan {full : List Pz} (hT : LAY v 0 (txO full)) (hm : (txO full).length ≤ 1990) (hn : full.length < 400) (hO : OKs full) : ∃ w, f_Tokens_scan 4001 v (nI (txO full).length) = some w ∧ SK v w (txO full).length (tks 0 (pcs (fxi full) full) ++ [(49, (txO full).length, 0, 0)]) := by
  refine scan_ok hm (by unfold pcs; rw [List.length_map]; exact hn) ?_ (text_rda hT hm hn full [] rfl hO (fun i r h => by cases h))
  cases full with
  | nil => exact Or.inl rfl
  | cons q qs =>
    obtain ⟨g1, g2, g3, -⟩ := hO.1.first
    have : LAY v 0 q.2.1 := hT.left
    have h0 := this 0 (by omega)
    rw [Nat.add_zero] at h0
    rw [h0]; exact Or.inr ⟨g2, g3⟩
end
