/-! THE LEAVES AS RULES -/
section
variable {v : Va} {n d j j2 : Nat} {y y2 : Int32} {ar : Int32}
theorem XR.n48 (hn : n < 401) (hk : v 5 n = 48) (hy : v 11 n = y) (h1 : ¬ y < 0) : XR v (d + 1) 7 ar n (n + 1) [(48, y, 0)] := XR.val (fun _ _ _ _ hw hl => v_num hw hn hl hk hy h1) (Nat.le_refl _)
theorem XR.n19 (hn : n < 401) (hk : v 5 n = 19) : XR v (d + 1) 7 ar n (n + 1) [(19, 0, 0)] := XR.val (fun _ _ _ _ hw hl => v_19 hw hn hl hk) (Nat.le_refl _)
theorem XR.n20 (hn : n < 401) (hk : v 5 n = 20) : XR v (d + 1) 7 ar n (n + 1) [(20, 0, 0)] := XR.val (fun _ _ _ _ hw hl => v_20 hw hn hl hk) (Nat.le_refl _)
theorem XR.n21 (hn : n + 1 < 401) (hk : v 5 n = 21) (hk2 : v 5 (n + 1) = 47) (hy : v 11 (n + 1) = y) (hj : NMs v 58 10 j y) : XR v (d + 1) 7 ar n (n + 2) [(21, nI j, 0)] := XR.val (fun _ _ _ _ hw hl => v_21 hw hn hl hk hk2 hy hj) (Nat.le_refl _)
theorem XR.n22 (hn : n + 1 < 401) (hk : v 5 n = 22) (hk2 : v 5 (n + 1) = 47) (hy : v 11 (n + 1) = y) (hj : NMs v 58 10 j y) : XR v (d + 1) 7 ar n (n + 2) [(22, nI j, 0)] := XR.val (fun _ _ _ _ hw hl => v_22 hw hn hl hk hk2 hy hj) (Nat.le_refl _)
theorem XR.n23 (hn : n + 1 < 401) (hk : v 5 n = 23) (hk2 : v 5 (n + 1) = 47) (hy : v 11 (n + 1) = y) (hj : NMs v 58 10 j y) : XR v (d + 1) 7 ar n (n + 2) [(23, nI j, 0)] := XR.val (fun _ _ _ _ hw hl => v_23 hw hn hl hk hk2 hy hj) (Nat.le_refl _)
theorem XR.n24 (hn : n + 1 < 401) (hk : v 5 n = 24) (hk2 : v 5 (n + 1) = 47) (hy : v 11 (n + 1) = y) (hj : NMs v 55 6 j y) : XR v (d + 1) 7 ar n (n + 2) [(24, nI j, 0)] := XR.val (fun _ _ _ _ hw hl => v_24 hw hn hl hk hk2 hy hj) (Nat.le_refl _)
theorem XR.n6 (hn : n + 1 < 401) (hk : v 5 n = 6) (hk2 : v 5 (n + 1) = 47) (hy : v 11 (n + 1) = y) (hj : NMs v 55 6 j y) : XR v (d + 1) 7 ar n (n + 2) [(6, nI j, 0)] := XR.val (fun _ _ _ _ hw hl => v_6 hw hn hl hk hk2 hy hj) (Nat.le_refl _)
theorem XR.n25 (hn : n + 2 < 401) (hk : v 5 n = 25) (hk2 : v 5 (n + 1) = 47) (hy : v 11 (n + 1) = y) (hj : NMs v 55 6 j y) (hk3 : v 5 (n + 2) = 47) (hy2 : v 11 (n + 2) = y2) (hj2 : NMs v 55 6 j2 y2) : XR v (d + 1) 7 ar n (n + 3) [(25, nI j, nI j2)] := XR.val (fun _ _ _ _ hw hl => v_25 hw hn hl hk hk2 hy hj hk3 hy2 hj2) (Nat.le_refl _)
end
