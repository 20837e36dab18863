/-! A TEXT OF PIECES IS SCANNED -/
section
variable {v v0 v1 w u : Va} {m p l n z i k a b s : Nat} {y c : Int32} {ts : List Tk}
theorem scan_ok {ps : List Tk} (hm : m ≤ 1990) (hps : ps.length < 400) (h0 : m = 0 ∨ (v 2 0 ≠ 32 ∧ v 2 0 ≠ 10)) (hr : RDA v m 0 [] ps) : ∃ w, f_Tokens_scan 4001 v (nI m) = some w ∧ SK v w m (tks 0 ps ++ [(49, m, 0, 0)]) := by
  have hS : SK v (pu (pu v 3 1 (nI m)) 3 2 0) m [] := by
    refine ⟨by rw [pu_d (by omega)]; exact pu_s, pu_s, fun i t h => (by cases h), fun q a b c d e => by rw [pu_p a, pu_p a], fun j a b => by rw [pu_d b, pu_d a]⟩
  obtain ⟨w, e1, e2⟩ := scan_all hm ps 0 [] _ 4001 hS (by simpa using hps) (by omega) hr
  refine ⟨w, ?_, by simpa using e2⟩
  unfold f_Tokens_scan
  have hb : f_Tokens_behindBlanks 4001 (pu (pu v 3 1 (nI m)) 3 2 0) (nI 0) = some (nI (0 + 0)) := sk_blank hS.1 hm (by omega) (fun i hi => absurd hi (Nat.not_lt_zero _)) (by
    rw [pu_p (by omega), pu_p (by omega)]
    rcases h0 with h | h
    · exact Or.inl (by omega)
    · exact Or.inr h) (by omega)
  rw [bd, bd, show (0 : Int32) = nI 0 from rfl]
  rw [show (nI 0 : Int32) = 0 from rfl] at hb ⊢
  rw [hb, ob]
  exact e1
/-- pieces: kind, bytes, blanks behind, value -/
abbrev Pz : Type := Nat × List Int32 × List Int32 × Int32
def txO : List Pz → List Int32
  | [] => []
  | q :: qs => q.2.1 ++ (q.2.2.1 ++ txO qs)
def pcs (fx : List Int32 → Nat) (qs : List Pz) : List Tk := qs.map fun q => (q.1, q.2.1.length, q.2.2.1.length, if q.1 = 47 then nI (fx q.2.1) else q.2.2.2)
theorem txO_app : ∀ (a b : List Pz), txO (a ++ b) = txO a ++ txO b
  | [], _ => rfl
  | q :: a, b => by
    show q.2.1 ++ (q.2.2.1 ++ txO (a ++ b)) = (q.2.1 ++ (q.2.2.1 ++ txO a)) ++ txO b
    rw [txO_app a b]; simp [List.append_assoc]
/-- tokens of pieces, token by token -/
theorem tks_get {fx : List Int32 → Nat} : ∀ (qs : List Pz) (p i : Nat), (tks p (pcs fx qs))[i]? = (qs[i]?).map fun q => (q.1, p + (txO (qs.take i)).length, q.2.1.length, if q.1 = 47 then nI (fx q.2.1) else q.2.2.2)
  | [], p, i => by simp [pcs, tks]
  | q :: qs, p, 0 => by simp [pcs, tks, txO]
  | q :: qs, p, i + 1 => by
    have := tks_get (fx := fx) qs (p + q.2.1.length + q.2.2.1.length) i
    show (tks (p + q.2.1.length + q.2.2.1.length) (pcs fx qs))[i]? = _
    rw [this]
    simp only [List.getElem?_cons_succ, List.take_succ_cons]
    congr 1
    funext r
    show (r.1, p + q.2.1.length + q.2.2.1.length + (txO (qs.take i)).length, r.2.1.length, _) = (r.1, p + (q.2.1 ++ (q.2.2.1 ++ txO (qs.take i))).length, r.2.1.length, _)
    rw [List.length_append, List.length_append]
    congr 2
    omega
end
