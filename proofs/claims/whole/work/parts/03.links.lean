theorem in_X0 : ∀ w ∈ u_ws RX0 TX0 3, w ∈ lw_all := lw_in_all (by decide +kernel) (by decide +kernel)
theorem in_X1 : ∀ w ∈ u_ws RX1 TX1 2, w ∈ lw_all := lw_in_all (by decide +kernel) (by decide +kernel)
theorem in_X3 : ∀ w ∈ u_ws RX3 TX3 3, w ∈ lw_all := lw_in_all (by decide +kernel) (by decide +kernel)
theorem in_X4 : ∀ w ∈ u_ws RX4 TX4 20, w ∈ lw_all := lw_in_all (by decide +kernel) (by decide +kernel)
theorem in_X5 : ∀ w ∈ u_ws RX5 TX5 9, w ∈ lw_all := lw_in_all (by decide +kernel) (by decide +kernel)
theorem in_X6 : ∀ w ∈ u_ws RX6 TX6 4, w ∈ lw_all := lw_in_all (by decide +kernel) (by decide +kernel)
theorem in_X7 : ∀ w ∈ u_ws RX7 TX7 1, w ∈ lw_all := lw_in_all (by decide +kernel) (by decide +kernel)
theorem in_X8 : ∀ w ∈ u_ws RX8 TX8 15, w ∈ lw_all := lw_in_all (by decide +kernel) (by decide +kernel)
theorem in_X9 : ∀ w ∈ u_ws RX9 TX9 4, w ∈ lw_all := lw_in_all (by decide +kernel) (by decide +kernel)
theorem in_X10 : ∀ w ∈ u_ws RX10 TX10 7, w ∈ lw_all := lw_in_all (by decide +kernel) (by decide +kernel)
theorem in_X11 : ∀ w ∈ u_ws RX11 TX11 10, w ∈ lw_all := lw_in_all (by decide +kernel) (by decide +kernel)
theorem in_X12 : ∀ w ∈ u_ws RX12 TX12 26, w ∈ lw_all := lw_in_all (by decide +kernel) (by decide +kernel)
theorem in_X13 : ∀ w ∈ u_ws RX13 TX13 14, w ∈ lw_all := lw_in_all (by decide +kernel) (by decide +kernel)
theorem in_X14 : ∀ w ∈ u_ws RX14 TX14 12, w ∈ lw_all := lw_in_all (by decide +kernel) (by decide +kernel)
theorem nL_8 : FN RL 8 10 10 [2, 2, 2, 2, 2, 2, 2, 2, 0, 0] := ⟨RX11, TX11, tyX11, rfl, in_X11, tyX11_ok, tk1 (i := 29) (by decide +kernel) rfl, tk1 (i := 30) (by decide +kernel) rfl, tk1 (i := 1) (by decide +kernel) rfl, fun j hj b => by rcases j with _ | j; rfl; skip; all_goals (repeat (first | (exact absurd hj (by omega)) | (rcases j with _ | j; rfl; skip)))⟩
theorem mL_76 : ML RL 76 yX11_init := Or.inl (tk1 (i := 31) (by decide +kernel) rfl)
theorem nX11_7 : FN RX11 7 6 1 [2] := ⟨RX7, TX7, tyX7, rfl, in_X7, tyX7_ok, tk1 (i := 37) (by decide +kernel) rfl, tk1 (i := 38) (by decide +kernel) rfl, tk1 (i := 2) (by decide +kernel) rfl, fun j hj b => by rcases j with _ | j; rfl; skip; all_goals (repeat (first | (exact absurd hj (by omega)) | (rcases j with _ | j; rfl; skip)))⟩
theorem mX11_11 : ML RX11 11 yX7_init := Or.inl (tk1 (i := 39) (by decide +kernel) rfl)
theorem fX7_7 : FL RX7 7 6 0 true (.array .int) := ⟨RX7, TX7, 1, tyX7, rfl, by decide, in_X7, tyX7_ok, nmX7, rfl, rfl, rfl, Or.inl (tk1 (i := 43) (by decide +kernel) rfl)⟩
theorem FX7_7 : FLF RX7 7 6 0 (.array .int) := ⟨TX7, 1, tyX7, rfl, by decide, in_X7, tyX7_ok, nmX7, rfl, rfl, rfl, tk1 (i := 43) (by decide +kernel) rfl⟩
theorem nX11_18 : FN RX11 18 9 7 [2, 0, 0, 2, 2, 2, 2] := ⟨RX10, TX10, tyX10, rfl, in_X10, tyX10_ok, tk1 (i := 48) (by decide +kernel) rfl, tk1 (i := 49) (by decide +kernel) rfl, tk1 (i := 3) (by decide +kernel) rfl, fun j hj b => by rcases j with _ | j; rfl; skip; all_goals (repeat (first | (exact absurd hj (by omega)) | (rcases j with _ | j; rfl; skip)))⟩
theorem mX11_20 : ML RX11 20 yX10_init := Or.inl (tk1 (i := 50) (by decide +kernel) rfl)
theorem nX10_13 : FN RX10 13 6 1 [2] := ⟨RX7, TX7, tyX7, rfl, in_X7, tyX7_ok, tk1 (i := 54) (by decide +kernel) rfl, tk1 (i := 38) (by decide +kernel) rfl, tk1 (i := 2) (by decide +kernel) rfl, fun j hj b => by rcases j with _ | j; rfl; skip; all_goals (repeat (first | (exact absurd hj (by omega)) | (rcases j with _ | j; rfl; skip)))⟩
theorem mX10_15 : ML RX10 15 yX7_init := Or.inl (tk1 (i := 55) (by decide +kernel) rfl)
theorem fX10_7 : FL RX10 7 9 0 true (.object "SpiceQuay$Row") := ⟨RX10, TX10, 7, tyX10, rfl, by decide, in_X10, tyX10_ok, nmX10, rfl, rfl, rfl, Or.inl (tk1 (i := 56) (by decide +kernel) rfl)⟩
theorem FX10_7 : FLF RX10 7 9 0 (.object "SpiceQuay$Row") := ⟨TX10, 7, tyX10, rfl, by decide, in_X10, tyX10_ok, nmX10, rfl, rfl, rfl, tk1 (i := 56) (by decide +kernel) rfl⟩
theorem fX10_30 : FL RX10 30 9 1 false .int := ⟨RX10, TX10, 7, tyX10, rfl, by decide, in_X10, tyX10_ok, nmX10, rfl, rfl, rfl, Or.inl (tk1 (i := 57) (by decide +kernel) rfl)⟩
theorem fX10_34 : FL RX10 34 9 2 false .int := ⟨RX10, TX10, 7, tyX10, rfl, by decide, in_X10, tyX10_ok, nmX10, rfl, rfl, rfl, Or.inl (tk1 (i := 58) (by decide +kernel) rfl)⟩
theorem fX10_18 : FL RX10 18 9 3 true (.object "SpiceQuay$Row") := ⟨RX10, TX10, 7, tyX10, rfl, by decide, in_X10, tyX10_ok, nmX10, rfl, rfl, rfl, Or.inl (tk1 (i := 59) (by decide +kernel) rfl)⟩
theorem FX10_18 : FLF RX10 18 9 3 (.object "SpiceQuay$Row") := ⟨TX10, 7, tyX10, rfl, by decide, in_X10, tyX10_ok, nmX10, rfl, rfl, rfl, tk1 (i := 59) (by decide +kernel) rfl⟩
theorem fX5_222 : FL RX5 222 9 3 true (.object "SpiceQuay$Row") := ⟨RX10, TX10, 7, tyX10, rfl, by decide, in_X10, tyX10_ok, nmX10, rfl, rfl, rfl, Or.inl (tk1 (i := 60) (by decide +kernel) rfl)⟩
theorem fX10_21 : FL RX10 21 9 4 true (.object "SpiceQuay$Row") := ⟨RX10, TX10, 7, tyX10, rfl, by decide, in_X10, tyX10_ok, nmX10, rfl, rfl, rfl, Or.inl (tk1 (i := 61) (by decide +kernel) rfl)⟩
theorem FX10_21 : FLF RX10 21 9 4 (.object "SpiceQuay$Row") := ⟨TX10, 7, tyX10, rfl, by decide, in_X10, tyX10_ok, nmX10, rfl, rfl, rfl, tk1 (i := 61) (by decide +kernel) rfl⟩
theorem fX5_48 : FL RX5 48 9 4 true (.object "SpiceQuay$Row") := ⟨RX10, TX10, 7, tyX10, rfl, by decide, in_X10, tyX10_ok, nmX10, rfl, rfl, rfl, Or.inl (tk1 (i := 62) (by decide +kernel) rfl)⟩
theorem fX10_24 : FL RX10 24 9 5 true (.object "SpiceQuay$Row") := ⟨RX10, TX10, 7, tyX10, rfl, by decide, in_X10, tyX10_ok, nmX10, rfl, rfl, rfl, Or.inl (tk1 (i := 63) (by decide +kernel) rfl)⟩
theorem FX10_24 : FLF RX10 24 9 5 (.object "SpiceQuay$Row") := ⟨TX10, 7, tyX10, rfl, by decide, in_X10, tyX10_ok, nmX10, rfl, rfl, rfl, tk1 (i := 63) (by decide +kernel) rfl⟩
theorem fX10_27 : FL RX10 27 9 6 true (.object "SpiceQuay$Row") := ⟨RX10, TX10, 7, tyX10, rfl, by decide, in_X10, tyX10_ok, nmX10, rfl, rfl, rfl, Or.inl (tk1 (i := 64) (by decide +kernel) rfl)⟩
theorem FX10_27 : FLF RX10 27 9 6 (.object "SpiceQuay$Row") := ⟨TX10, 7, tyX10, rfl, by decide, in_X10, tyX10_ok, nmX10, rfl, rfl, rfl, tk1 (i := 64) (by decide +kernel) rfl⟩
theorem fX5_229 : FL RX5 229 9 6 true (.object "SpiceQuay$Row") := ⟨RX10, TX10, 7, tyX10, rfl, by decide, in_X10, tyX10_ok, nmX10, rfl, rfl, rfl, Or.inl (tk1 (i := 65) (by decide +kernel) rfl)⟩
theorem nX11_27 : FN RX11 27 4 9 [2, 2, 2, 2, 2, 2, 0, 0, 0] := ⟨RX5, TX5, tyX5, rfl, in_X5, tyX5_ok, tk1 (i := 81) (by decide +kernel) rfl, tk1 (i := 82) (by decide +kernel) rfl, tk1 (i := 4) (by decide +kernel) rfl, fun j hj b => by rcases j with _ | j; rfl; skip; all_goals (repeat (first | (exact absurd hj (by omega)) | (rcases j with _ | j; rfl; skip)))⟩
theorem mX11_29 : ML RX11 29 yX5_init := Or.inl (tk1 (i := 83) (by decide +kernel) rfl)
theorem nX5_13 : FN RX5 13 3 20 [0, 0, 0, 0, 0, 2, 2, 2, 2, 2, 2, 2, 2, 2, 2, 2, 2, 2, 2, 2] := ⟨RX4, TX4, tyX4, rfl, in_X4, tyX4_ok, tk1 (i := 87) (by decide +kernel) rfl, tk1 (i := 88) (by decide +kernel) rfl, tk1 (i := 5) (by decide +kernel) rfl, fun j hj b => by rcases j with _ | j; rfl; skip; all_goals (repeat (first | (exact absurd hj (by omega)) | (rcases j with _ | j; rfl; skip)))⟩
theorem mX5_15 : ML RX5 15 yX4_init := Or.inl (tk1 (i := 89) (by decide +kernel) rfl)
theorem nX4_7 : FN RX4 7 6 1 [2] := ⟨RX7, TX7, tyX7, rfl, in_X7, tyX7_ok, tk1 (i := 93) (by decide +kernel) rfl, tk1 (i := 38) (by decide +kernel) rfl, tk1 (i := 2) (by decide +kernel) rfl, fun j hj b => by rcases j with _ | j; rfl; skip; all_goals (repeat (first | (exact absurd hj (by omega)) | (rcases j with _ | j; rfl; skip)))⟩
theorem mX4_11 : ML RX4 11 yX7_init := Or.inl (tk1 (i := 94) (by decide +kernel) rfl)
theorem nX4_57 : FN RX4 57 8 4 [0, 2, 2, 2] := ⟨RX9, TX9, tyX9, rfl, in_X9, tyX9_ok, tk1 (i := 95) (by decide +kernel) rfl, tk1 (i := 96) (by decide +kernel) rfl, tk1 (i := 6) (by decide +kernel) rfl, fun j hj b => by rcases j with _ | j; rfl; skip; all_goals (repeat (first | (exact absurd hj (by omega)) | (rcases j with _ | j; rfl; skip)))⟩
theorem mX4_59 : ML RX4 59 yX9_init := Or.inl (tk1 (i := 97) (by decide +kernel) rfl)
theorem nX9_15 : FN RX9 15 6 1 [2] := ⟨RX7, TX7, tyX7, rfl, in_X7, tyX7_ok, tk1 (i := 101) (by decide +kernel) rfl, tk1 (i := 38) (by decide +kernel) rfl, tk1 (i := 2) (by decide +kernel) rfl, fun j hj b => by rcases j with _ | j; rfl; skip; all_goals (repeat (first | (exact absurd hj (by omega)) | (rcases j with _ | j; rfl; skip)))⟩
theorem mX9_17 : ML RX9 17 yX7_init := Or.inl (tk1 (i := 102) (by decide +kernel) rfl)
theorem fX9_9 : FL RX9 9 8 0 false .int := ⟨RX9, TX9, 4, tyX9, rfl, by decide, in_X9, tyX9_ok, nmX9, rfl, rfl, rfl, Or.inl (tk1 (i := 103) (by decide +kernel) rfl)⟩
theorem fX5_111 : FL RX5 111 8 0 false .int := ⟨RX9, TX9, 4, tyX9, rfl, by decide, in_X9, tyX9_ok, nmX9, rfl, rfl, rfl, Or.inl (tk1 (i := 104) (by decide +kernel) rfl)⟩
theorem fX9_20 : FL RX9 20 8 1 true (.object "SpiceQuay$Row") := ⟨RX9, TX9, 4, tyX9, rfl, by decide, in_X9, tyX9_ok, nmX9, rfl, rfl, rfl, Or.inl (tk1 (i := 105) (by decide +kernel) rfl)⟩
theorem FX9_20 : FLF RX9 20 8 1 (.object "SpiceQuay$Row") := ⟨TX9, 4, tyX9, rfl, by decide, in_X9, tyX9_ok, nmX9, rfl, rfl, rfl, tk1 (i := 105) (by decide +kernel) rfl⟩
theorem fX6_32 : FL RX6 32 8 1 true (.object "SpiceQuay$Row") := ⟨RX9, TX9, 4, tyX9, rfl, by decide, in_X9, tyX9_ok, nmX9, rfl, rfl, rfl, Or.inl (tk1 (i := 106) (by decide +kernel) rfl)⟩
theorem fX9_24 : FL RX9 24 8 2 true (.object "SpiceQuay$Row") := ⟨RX9, TX9, 4, tyX9, rfl, by decide, in_X9, tyX9_ok, nmX9, rfl, rfl, rfl, Or.inl (tk1 (i := 107) (by decide +kernel) rfl)⟩
theorem FX9_24 : FLF RX9 24 8 2 (.object "SpiceQuay$Row") := ⟨TX9, 4, tyX9, rfl, by decide, in_X9, tyX9_ok, nmX9, rfl, rfl, rfl, tk1 (i := 107) (by decide +kernel) rfl⟩
theorem fX6_66 : FL RX6 66 8 2 true (.object "SpiceQuay$Row") := ⟨RX9, TX9, 4, tyX9, rfl, by decide, in_X9, tyX9_ok, nmX9, rfl, rfl, rfl, Or.inl (tk1 (i := 108) (by decide +kernel) rfl)⟩
theorem fX9_27 : FL RX9 27 8 3 true (.object "SpiceQuay$Row") := ⟨RX9, TX9, 4, tyX9, rfl, by decide, in_X9, tyX9_ok, nmX9, rfl, rfl, rfl, Or.inl (tk1 (i := 109) (by decide +kernel) rfl)⟩
theorem FX9_27 : FLF RX9 27 8 3 (.object "SpiceQuay$Row") := ⟨TX9, 4, tyX9, rfl, by decide, in_X9, tyX9_ok, nmX9, rfl, rfl, rfl, tk1 (i := 109) (by decide +kernel) rfl⟩
theorem fX6_69 : FL RX6 69 8 3 true (.object "SpiceQuay$Row") := ⟨RX9, TX9, 4, tyX9, rfl, by decide, in_X9, tyX9_ok, nmX9, rfl, rfl, rfl, Or.inl (tk1 (i := 110) (by decide +kernel) rfl)⟩
theorem fX4_64 : FL RX4 64 3 0 false .int := ⟨RX4, TX4, 20, tyX4, rfl, by decide, in_X4, tyX4_ok, nmX4, rfl, rfl, rfl, Or.inl (tk1 (i := 120) (by decide +kernel) rfl)⟩
theorem fX5_93 : FL RX5 93 3 0 false .int := ⟨RX4, TX4, 20, tyX4, rfl, by decide, in_X4, tyX4_ok, nmX4, rfl, rfl, rfl, Or.inl (tk1 (i := 121) (by decide +kernel) rfl)⟩
theorem fX11_270 : FL RX11 270 3 0 false .int := ⟨RX4, TX4, 20, tyX4, rfl, by decide, in_X4, tyX4_ok, nmX4, rfl, rfl, rfl, Or.inl (tk1 (i := 122) (by decide +kernel) rfl)⟩
theorem fX4_68 : FL RX4 68 3 1 false .int := ⟨RX4, TX4, 20, tyX4, rfl, by decide, in_X4, tyX4_ok, nmX4, rfl, rfl, rfl, Or.inl (tk1 (i := 123) (by decide +kernel) rfl)⟩
theorem fX5_95 : FL RX5 95 3 1 false .int := ⟨RX4, TX4, 20, tyX4, rfl, by decide, in_X4, tyX4_ok, nmX4, rfl, rfl, rfl, Or.inl (tk1 (i := 124) (by decide +kernel) rfl)⟩
theorem fX11_135 : FL RX11 135 3 1 false .int := ⟨RX4, TX4, 20, tyX4, rfl, by decide, in_X4, tyX4_ok, nmX4, rfl, rfl, rfl, Or.inl (tk1 (i := 125) (by decide +kernel) rfl)⟩
theorem fX4_71 : FL RX4 71 3 2 false .int := ⟨RX4, TX4, 20, tyX4, rfl, by decide, in_X4, tyX4_ok, nmX4, rfl, rfl, rfl, Or.inl (tk1 (i := 126) (by decide +kernel) rfl)⟩
theorem fX8_89 : FL RX8 89 3 2 false .int := ⟨RX4, TX4, 20, tyX4, rfl, by decide, in_X4, tyX4_ok, nmX4, rfl, rfl, rfl, Or.inl (tk1 (i := 127) (by decide +kernel) rfl)⟩
theorem fX5_97 : FL RX5 97 3 2 false .int := ⟨RX4, TX4, 20, tyX4, rfl, by decide, in_X4, tyX4_ok, nmX4, rfl, rfl, rfl, Or.inl (tk1 (i := 128) (by decide +kernel) rfl)⟩
theorem fX11_238 : FL RX11 238 3 2 false .int := ⟨RX4, TX4, 20, tyX4, rfl, by decide, in_X4, tyX4_ok, nmX4, rfl, rfl, rfl, Or.inl (tk1 (i := 129) (by decide +kernel) rfl)⟩
theorem fX4_74 : FL RX4 74 3 3 false .int := ⟨RX4, TX4, 20, tyX4, rfl, by decide, in_X4, tyX4_ok, nmX4, rfl, rfl, rfl, Or.inl (tk1 (i := 130) (by decide +kernel) rfl)⟩
theorem fX8_71 : FL RX8 71 3 3 false .int := ⟨RX4, TX4, 20, tyX4, rfl, by decide, in_X4, tyX4_ok, nmX4, rfl, rfl, rfl, Or.inl (tk1 (i := 131) (by decide +kernel) rfl)⟩
theorem fX5_99 : FL RX5 99 3 3 false .int := ⟨RX4, TX4, 20, tyX4, rfl, by decide, in_X4, tyX4_ok, nmX4, rfl, rfl, rfl, Or.inl (tk1 (i := 132) (by decide +kernel) rfl)⟩
theorem fX11_247 : FL RX11 247 3 3 false .int := ⟨RX4, TX4, 20, tyX4, rfl, by decide, in_X4, tyX4_ok, nmX4, rfl, rfl, rfl, Or.inl (tk1 (i := 133) (by decide +kernel) rfl)⟩
theorem fX4_77 : FL RX4 77 3 4 false .int := ⟨RX4, TX4, 20, tyX4, rfl, by decide, in_X4, tyX4_ok, nmX4, rfl, rfl, rfl, Or.inl (tk1 (i := 134) (by decide +kernel) rfl)⟩
theorem fX0_54 : FL RX0 54 3 4 false .int := ⟨RX4, TX4, 20, tyX4, rfl, by decide, in_X4, tyX4_ok, nmX4, rfl, rfl, rfl, Or.inl (tk1 (i := 135) (by decide +kernel) rfl)⟩
theorem fX5_104 : FL RX5 104 3 4 false .int := ⟨RX4, TX4, 20, tyX4, rfl, by decide, in_X4, tyX4_ok, nmX4, rfl, rfl, rfl, Or.inl (tk1 (i := 136) (by decide +kernel) rfl)⟩
theorem fX11_143 : FL RX11 143 3 4 false .int := ⟨RX4, TX4, 20, tyX4, rfl, by decide, in_X4, tyX4_ok, nmX4, rfl, rfl, rfl, Or.inl (tk1 (i := 137) (by decide +kernel) rfl)⟩
theorem fX4_14 : FL RX4 14 3 5 true (.object "SpiceQuay$Row") := ⟨RX4, TX4, 20, tyX4, rfl, by decide, in_X4, tyX4_ok, nmX4, rfl, rfl, rfl, Or.inl (tk1 (i := 138) (by decide +kernel) rfl)⟩
theorem FX4_14 : FLF RX4 14 3 5 (.object "SpiceQuay$Row") := ⟨TX4, 20, tyX4, rfl, by decide, in_X4, tyX4_ok, nmX4, rfl, rfl, rfl, tk1 (i := 138) (by decide +kernel) rfl⟩
theorem fX8_103 : FL RX8 103 3 5 true (.object "SpiceQuay$Row") := ⟨RX4, TX4, 20, tyX4, rfl, by decide, in_X4, tyX4_ok, nmX4, rfl, rfl, rfl, Or.inl (tk1 (i := 139) (by decide +kernel) rfl)⟩
theorem fX5_119 : FL RX5 119 3 5 true (.object "SpiceQuay$Row") := ⟨RX4, TX4, 20, tyX4, rfl, by decide, in_X4, tyX4_ok, nmX4, rfl, rfl, rfl, Or.inl (tk1 (i := 140) (by decide +kernel) rfl)⟩
theorem fX4_18 : FL RX4 18 3 6 true (.object "SpiceQuay$Row") := ⟨RX4, TX4, 20, tyX4, rfl, by decide, in_X4, tyX4_ok, nmX4, rfl, rfl, rfl, Or.inl (tk1 (i := 141) (by decide +kernel) rfl)⟩
theorem FX4_18 : FLF RX4 18 3 6 (.object "SpiceQuay$Row") := ⟨TX4, 20, tyX4, rfl, by decide, in_X4, tyX4_ok, nmX4, rfl, rfl, rfl, tk1 (i := 141) (by decide +kernel) rfl⟩
theorem fX5_130 : FL RX5 130 3 6 true (.object "SpiceQuay$Row") := ⟨RX4, TX4, 20, tyX4, rfl, by decide, in_X4, tyX4_ok, nmX4, rfl, rfl, rfl, Or.inl (tk1 (i := 142) (by decide +kernel) rfl)⟩
theorem fX0_129 : FL RX0 129 3 6 true (.object "SpiceQuay$Row") := ⟨RX4, TX4, 20, tyX4, rfl, by decide, in_X4, tyX4_ok, nmX4, rfl, rfl, rfl, Or.inl (tk1 (i := 143) (by decide +kernel) rfl)⟩
theorem fX8_144 : FL RX8 144 3 6 true (.object "SpiceQuay$Row") := ⟨RX4, TX4, 20, tyX4, rfl, by decide, in_X4, tyX4_ok, nmX4, rfl, rfl, rfl, Or.inl (tk1 (i := 144) (by decide +kernel) rfl)⟩
theorem fX4_21 : FL RX4 21 3 7 true (.object "SpiceQuay$Row") := ⟨RX4, TX4, 20, tyX4, rfl, by decide, in_X4, tyX4_ok, nmX4, rfl, rfl, rfl, Or.inl (tk1 (i := 145) (by decide +kernel) rfl)⟩
theorem FX4_21 : FLF RX4 21 3 7 (.object "SpiceQuay$Row") := ⟨TX4, 20, tyX4, rfl, by decide, in_X4, tyX4_ok, nmX4, rfl, rfl, rfl, tk1 (i := 145) (by decide +kernel) rfl⟩
theorem fX5_133 : FL RX5 133 3 7 true (.object "SpiceQuay$Row") := ⟨RX4, TX4, 20, tyX4, rfl, by decide, in_X4, tyX4_ok, nmX4, rfl, rfl, rfl, Or.inl (tk1 (i := 146) (by decide +kernel) rfl)⟩
theorem fX0_138 : FL RX0 138 3 7 true (.object "SpiceQuay$Row") := ⟨RX4, TX4, 20, tyX4, rfl, by decide, in_X4, tyX4_ok, nmX4, rfl, rfl, rfl, Or.inl (tk1 (i := 147) (by decide +kernel) rfl)⟩
theorem fX8_147 : FL RX8 147 3 7 true (.object "SpiceQuay$Row") := ⟨RX4, TX4, 20, tyX4, rfl, by decide, in_X4, tyX4_ok, nmX4, rfl, rfl, rfl, Or.inl (tk1 (i := 148) (by decide +kernel) rfl)⟩
theorem fX4_24 : FL RX4 24 3 8 true (.object "SpiceQuay$Row") := ⟨RX4, TX4, 20, tyX4, rfl, by decide, in_X4, tyX4_ok, nmX4, rfl, rfl, rfl, Or.inl (tk1 (i := 149) (by decide +kernel) rfl)⟩
theorem FX4_24 : FLF RX4 24 3 8 (.object "SpiceQuay$Row") := ⟨TX4, 20, tyX4, rfl, by decide, in_X4, tyX4_ok, nmX4, rfl, rfl, rfl, tk1 (i := 149) (by decide +kernel) rfl⟩
theorem fX8_92 : FL RX8 92 3 8 true (.object "SpiceQuay$Row") := ⟨RX4, TX4, 20, tyX4, rfl, by decide, in_X4, tyX4_ok, nmX4, rfl, rfl, rfl, Or.inl (tk1 (i := 150) (by decide +kernel) rfl)⟩
theorem fX5_136 : FL RX5 136 3 8 true (.object "SpiceQuay$Row") := ⟨RX4, TX4, 20, tyX4, rfl, by decide, in_X4, tyX4_ok, nmX4, rfl, rfl, rfl, Or.inl (tk1 (i := 151) (by decide +kernel) rfl)⟩
theorem fX4_27 : FL RX4 27 3 9 true (.object "SpiceQuay$Row") := ⟨RX4, TX4, 20, tyX4, rfl, by decide, in_X4, tyX4_ok, nmX4, rfl, rfl, rfl, Or.inl (tk1 (i := 152) (by decide +kernel) rfl)⟩
theorem FX4_27 : FLF RX4 27 3 9 (.object "SpiceQuay$Row") := ⟨TX4, 20, tyX4, rfl, by decide, in_X4, tyX4_ok, nmX4, rfl, rfl, rfl, tk1 (i := 152) (by decide +kernel) rfl⟩
theorem fX5_139 : FL RX5 139 3 9 true (.object "SpiceQuay$Row") := ⟨RX4, TX4, 20, tyX4, rfl, by decide, in_X4, tyX4_ok, nmX4, rfl, rfl, rfl, Or.inl (tk1 (i := 153) (by decide +kernel) rfl)⟩
theorem fX0_161 : FL RX0 161 3 9 true (.object "SpiceQuay$Row") := ⟨RX4, TX4, 20, tyX4, rfl, by decide, in_X4, tyX4_ok, nmX4, rfl, rfl, rfl, Or.inl (tk1 (i := 154) (by decide +kernel) rfl)⟩
theorem fX8_115 : FL RX8 115 3 9 true (.object "SpiceQuay$Row") := ⟨RX4, TX4, 20, tyX4, rfl, by decide, in_X4, tyX4_ok, nmX4, rfl, rfl, rfl, Or.inl (tk1 (i := 155) (by decide +kernel) rfl)⟩
theorem fX11_184 : FL RX11 184 3 9 true (.object "SpiceQuay$Row") := ⟨RX4, TX4, 20, tyX4, rfl, by decide, in_X4, tyX4_ok, nmX4, rfl, rfl, rfl, Or.inl (tk1 (i := 156) (by decide +kernel) rfl)⟩
theorem fX4_30 : FL RX4 30 3 10 true (.object "SpiceQuay$Row") := ⟨RX4, TX4, 20, tyX4, rfl, by decide, in_X4, tyX4_ok, nmX4, rfl, rfl, rfl, Or.inl (tk1 (i := 157) (by decide +kernel) rfl)⟩
theorem FX4_30 : FLF RX4 30 3 10 (.object "SpiceQuay$Row") := ⟨TX4, 20, tyX4, rfl, by decide, in_X4, tyX4_ok, nmX4, rfl, rfl, rfl, tk1 (i := 157) (by decide +kernel) rfl⟩
theorem fX8_106 : FL RX8 106 3 10 true (.object "SpiceQuay$Row") := ⟨RX4, TX4, 20, tyX4, rfl, by decide, in_X4, tyX4_ok, nmX4, rfl, rfl, rfl, Or.inl (tk1 (i := 158) (by decide +kernel) rfl)⟩
theorem fX5_142 : FL RX5 142 3 10 true (.object "SpiceQuay$Row") := ⟨RX4, TX4, 20, tyX4, rfl, by decide, in_X4, tyX4_ok, nmX4, rfl, rfl, rfl, Or.inl (tk1 (i := 159) (by decide +kernel) rfl)⟩
theorem fX4_33 : FL RX4 33 3 11 true (.object "SpiceQuay$Row") := ⟨RX4, TX4, 20, tyX4, rfl, by decide, in_X4, tyX4_ok, nmX4, rfl, rfl, rfl, Or.inl (tk1 (i := 160) (by decide +kernel) rfl)⟩
theorem FX4_33 : FLF RX4 33 3 11 (.object "SpiceQuay$Row") := ⟨TX4, 20, tyX4, rfl, by decide, in_X4, tyX4_ok, nmX4, rfl, rfl, rfl, tk1 (i := 160) (by decide +kernel) rfl⟩
theorem fX8_74 : FL RX8 74 3 11 true (.object "SpiceQuay$Row") := ⟨RX4, TX4, 20, tyX4, rfl, by decide, in_X4, tyX4_ok, nmX4, rfl, rfl, rfl, Or.inl (tk1 (i := 161) (by decide +kernel) rfl)⟩
theorem fX5_148 : FL RX5 148 3 11 true (.object "SpiceQuay$Row") := ⟨RX4, TX4, 20, tyX4, rfl, by decide, in_X4, tyX4_ok, nmX4, rfl, rfl, rfl, Or.inl (tk1 (i := 162) (by decide +kernel) rfl)⟩
theorem fX4_36 : FL RX4 36 3 12 true (.object "SpiceQuay$Row") := ⟨RX4, TX4, 20, tyX4, rfl, by decide, in_X4, tyX4_ok, nmX4, rfl, rfl, rfl, Or.inl (tk1 (i := 163) (by decide +kernel) rfl)⟩
theorem FX4_36 : FLF RX4 36 3 12 (.object "SpiceQuay$Row") := ⟨TX4, 20, tyX4, rfl, by decide, in_X4, tyX4_ok, nmX4, rfl, rfl, rfl, tk1 (i := 163) (by decide +kernel) rfl⟩
theorem fX8_85 : FL RX8 85 3 12 true (.object "SpiceQuay$Row") := ⟨RX4, TX4, 20, tyX4, rfl, by decide, in_X4, tyX4_ok, nmX4, rfl, rfl, rfl, Or.inl (tk1 (i := 164) (by decide +kernel) rfl)⟩
theorem fX5_151 : FL RX5 151 3 12 true (.object "SpiceQuay$Row") := ⟨RX4, TX4, 20, tyX4, rfl, by decide, in_X4, tyX4_ok, nmX4, rfl, rfl, rfl, Or.inl (tk1 (i := 165) (by decide +kernel) rfl)⟩
theorem fX4_39 : FL RX4 39 3 13 true (.object "SpiceQuay$Row") := ⟨RX4, TX4, 20, tyX4, rfl, by decide, in_X4, tyX4_ok, nmX4, rfl, rfl, rfl, Or.inl (tk1 (i := 166) (by decide +kernel) rfl)⟩
theorem FX4_39 : FLF RX4 39 3 13 (.object "SpiceQuay$Row") := ⟨TX4, 20, tyX4, rfl, by decide, in_X4, tyX4_ok, nmX4, rfl, rfl, rfl, tk1 (i := 166) (by decide +kernel) rfl⟩
theorem fX0_91 : FL RX0 91 3 13 true (.object "SpiceQuay$Row") := ⟨RX4, TX4, 20, tyX4, rfl, by decide, in_X4, tyX4_ok, nmX4, rfl, rfl, rfl, Or.inl (tk1 (i := 167) (by decide +kernel) rfl)⟩
theorem fX5_157 : FL RX5 157 3 13 true (.object "SpiceQuay$Row") := ⟨RX4, TX4, 20, tyX4, rfl, by decide, in_X4, tyX4_ok, nmX4, rfl, rfl, rfl, Or.inl (tk1 (i := 168) (by decide +kernel) rfl)⟩
theorem fX11_273 : FL RX11 273 3 13 true (.object "SpiceQuay$Row") := ⟨RX4, TX4, 20, tyX4, rfl, by decide, in_X4, tyX4_ok, nmX4, rfl, rfl, rfl, Or.inl (tk1 (i := 169) (by decide +kernel) rfl)⟩
theorem fX4_42 : FL RX4 42 3 14 true (.object "SpiceQuay$Row") := ⟨RX4, TX4, 20, tyX4, rfl, by decide, in_X4, tyX4_ok, nmX4, rfl, rfl, rfl, Or.inl (tk1 (i := 170) (by decide +kernel) rfl)⟩
theorem FX4_42 : FLF RX4 42 3 14 (.object "SpiceQuay$Row") := ⟨TX4, 20, tyX4, rfl, by decide, in_X4, tyX4_ok, nmX4, rfl, rfl, rfl, tk1 (i := 170) (by decide +kernel) rfl⟩
theorem fX0_85 : FL RX0 85 3 14 true (.object "SpiceQuay$Row") := ⟨RX4, TX4, 20, tyX4, rfl, by decide, in_X4, tyX4_ok, nmX4, rfl, rfl, rfl, Or.inl (tk1 (i := 171) (by decide +kernel) rfl)⟩
theorem fX5_160 : FL RX5 160 3 14 true (.object "SpiceQuay$Row") := ⟨RX4, TX4, 20, tyX4, rfl, by decide, in_X4, tyX4_ok, nmX4, rfl, rfl, rfl, Or.inl (tk1 (i := 172) (by decide +kernel) rfl)⟩
theorem fX11_276 : FL RX11 276 3 14 true (.object "SpiceQuay$Row") := ⟨RX4, TX4, 20, tyX4, rfl, by decide, in_X4, tyX4_ok, nmX4, rfl, rfl, rfl, Or.inl (tk1 (i := 173) (by decide +kernel) rfl)⟩
theorem fX4_45 : FL RX4 45 3 15 true (.object "SpiceQuay$Row") := ⟨RX4, TX4, 20, tyX4, rfl, by decide, in_X4, tyX4_ok, nmX4, rfl, rfl, rfl, Or.inl (tk1 (i := 174) (by decide +kernel) rfl)⟩
theorem FX4_45 : FLF RX4 45 3 15 (.object "SpiceQuay$Row") := ⟨TX4, 20, tyX4, rfl, by decide, in_X4, tyX4_ok, nmX4, rfl, rfl, rfl, tk1 (i := 174) (by decide +kernel) rfl⟩
theorem fX0_88 : FL RX0 88 3 15 true (.object "SpiceQuay$Row") := ⟨RX4, TX4, 20, tyX4, rfl, by decide, in_X4, tyX4_ok, nmX4, rfl, rfl, rfl, Or.inl (tk1 (i := 175) (by decide +kernel) rfl)⟩
theorem fX5_163 : FL RX5 163 3 15 true (.object "SpiceQuay$Row") := ⟨RX4, TX4, 20, tyX4, rfl, by decide, in_X4, tyX4_ok, nmX4, rfl, rfl, rfl, Or.inl (tk1 (i := 176) (by decide +kernel) rfl)⟩
theorem fX11_279 : FL RX11 279 3 15 true (.object "SpiceQuay$Row") := ⟨RX4, TX4, 20, tyX4, rfl, by decide, in_X4, tyX4_ok, nmX4, rfl, rfl, rfl, Or.inl (tk1 (i := 177) (by decide +kernel) rfl)⟩
theorem fX4_48 : FL RX4 48 3 16 true (.object "SpiceQuay$Row") := ⟨RX4, TX4, 20, tyX4, rfl, by decide, in_X4, tyX4_ok, nmX4, rfl, rfl, rfl, Or.inl (tk1 (i := 178) (by decide +kernel) rfl)⟩
theorem FX4_48 : FLF RX4 48 3 16 (.object "SpiceQuay$Row") := ⟨TX4, 20, tyX4, rfl, by decide, in_X4, tyX4_ok, nmX4, rfl, rfl, rfl, tk1 (i := 178) (by decide +kernel) rfl⟩
theorem fX0_82 : FL RX0 82 3 16 true (.object "SpiceQuay$Row") := ⟨RX4, TX4, 20, tyX4, rfl, by decide, in_X4, tyX4_ok, nmX4, rfl, rfl, rfl, Or.inl (tk1 (i := 179) (by decide +kernel) rfl)⟩
theorem fX5_166 : FL RX5 166 3 16 true (.object "SpiceQuay$Row") := ⟨RX4, TX4, 20, tyX4, rfl, by decide, in_X4, tyX4_ok, nmX4, rfl, rfl, rfl, Or.inl (tk1 (i := 180) (by decide +kernel) rfl)⟩
theorem fX4_51 : FL RX4 51 3 17 true (.object "SpiceQuay$Row") := ⟨RX4, TX4, 20, tyX4, rfl, by decide, in_X4, tyX4_ok, nmX4, rfl, rfl, rfl, Or.inl (tk1 (i := 181) (by decide +kernel) rfl)⟩
theorem FX4_51 : FLF RX4 51 3 17 (.object "SpiceQuay$Row") := ⟨TX4, 20, tyX4, rfl, by decide, in_X4, tyX4_ok, nmX4, rfl, rfl, rfl, tk1 (i := 181) (by decide +kernel) rfl⟩
theorem fX0_65 : FL RX0 65 3 17 true (.object "SpiceQuay$Row") := ⟨RX4, TX4, 20, tyX4, rfl, by decide, in_X4, tyX4_ok, nmX4, rfl, rfl, rfl, Or.inl (tk1 (i := 182) (by decide +kernel) rfl)⟩
theorem fX5_172 : FL RX5 172 3 17 true (.object "SpiceQuay$Row") := ⟨RX4, TX4, 20, tyX4, rfl, by decide, in_X4, tyX4_ok, nmX4, rfl, rfl, rfl, Or.inl (tk1 (i := 183) (by decide +kernel) rfl)⟩
theorem fX4_54 : FL RX4 54 3 18 true (.object "SpiceQuay$Row") := ⟨RX4, TX4, 20, tyX4, rfl, by decide, in_X4, tyX4_ok, nmX4, rfl, rfl, rfl, Or.inl (tk1 (i := 184) (by decide +kernel) rfl)⟩
theorem FX4_54 : FLF RX4 54 3 18 (.object "SpiceQuay$Row") := ⟨TX4, 20, tyX4, rfl, by decide, in_X4, tyX4_ok, nmX4, rfl, rfl, rfl, tk1 (i := 184) (by decide +kernel) rfl⟩
theorem fX0_75 : FL RX0 75 3 18 true (.object "SpiceQuay$Row") := ⟨RX4, TX4, 20, tyX4, rfl, by decide, in_X4, tyX4_ok, nmX4, rfl, rfl, rfl, Or.inl (tk1 (i := 185) (by decide +kernel) rfl)⟩
theorem fX5_178 : FL RX5 178 3 18 true (.object "SpiceQuay$Row") := ⟨RX4, TX4, 20, tyX4, rfl, by decide, in_X4, tyX4_ok, nmX4, rfl, rfl, rfl, Or.inl (tk1 (i := 186) (by decide +kernel) rfl)⟩
theorem fX0_19 : FL RX0 19 3 19 true (.object "SpiceQuay$Steps") := ⟨RX4, TX4, 20, tyX4, rfl, by decide, in_X4, tyX4_ok, nmX4, rfl, rfl, rfl, Or.inl (tk1 (i := 187) (by decide +kernel) rfl)⟩
theorem fX4_60 : FL RX4 60 3 19 true (.object "SpiceQuay$Steps") := ⟨RX4, TX4, 20, tyX4, rfl, by decide, in_X4, tyX4_ok, nmX4, rfl, rfl, rfl, Or.inl (tk1 (i := 188) (by decide +kernel) rfl)⟩
theorem FX4_60 : FLF RX4 60 3 19 (.object "SpiceQuay$Steps") := ⟨TX4, 20, tyX4, rfl, by decide, in_X4, tyX4_ok, nmX4, rfl, rfl, rfl, tk1 (i := 188) (by decide +kernel) rfl⟩
theorem fX5_107 : FL RX5 107 3 19 true (.object "SpiceQuay$Steps") := ⟨RX4, TX4, 20, tyX4, rfl, by decide, in_X4, tyX4_ok, nmX4, rfl, rfl, rfl, Or.inl (tk1 (i := 189) (by decide +kernel) rfl)⟩
theorem nX5_20 : FN RX5 20 2 3 [2, 0, 0] := ⟨RX3, TX3, tyX3, rfl, in_X3, tyX3_ok, tk1 (i := 231) (by decide +kernel) rfl, tk1 (i := 232) (by decide +kernel) rfl, tk1 (i := 7) (by decide +kernel) rfl, fun j hj b => by rcases j with _ | j; rfl; skip; all_goals (repeat (first | (exact absurd hj (by omega)) | (rcases j with _ | j; rfl; skip)))⟩
theorem mX5_22 : ML RX5 22 yX3_init := Or.inl (tk1 (i := 233) (by decide +kernel) rfl)
theorem nX3_13 : FN RX3 13 6 1 [2] := ⟨RX7, TX7, tyX7, rfl, in_X7, tyX7_ok, tk1 (i := 237) (by decide +kernel) rfl, tk1 (i := 38) (by decide +kernel) rfl, tk1 (i := 2) (by decide +kernel) rfl, fun j hj b => by rcases j with _ | j; rfl; skip; all_goals (repeat (first | (exact absurd hj (by omega)) | (rcases j with _ | j; rfl; skip)))⟩
theorem mX3_15 : ML RX3 15 yX7_init := Or.inl (tk1 (i := 238) (by decide +kernel) rfl)
theorem fX3_18 : FL RX3 18 2 0 true (.object "SpiceQuay$Row") := ⟨RX3, TX3, 3, tyX3, rfl, by decide, in_X3, tyX3_ok, nmX3, rfl, rfl, rfl, Or.inl (tk1 (i := 239) (by decide +kernel) rfl)⟩
theorem FX3_18 : FLF RX3 18 2 0 (.object "SpiceQuay$Row") := ⟨TX3, 3, tyX3, rfl, by decide, in_X3, tyX3_ok, nmX3, rfl, rfl, rfl, tk1 (i := 239) (by decide +kernel) rfl⟩
theorem fX3_7 : FL RX3 7 2 1 true .int := ⟨RX3, TX3, 3, tyX3, rfl, by decide, in_X3, tyX3_ok, nmX3, rfl, rfl, rfl, Or.inl (tk2 (i := 0) (by decide +kernel) rfl)⟩
theorem FX3_7 : FLF RX3 7 2 1 .int := ⟨TX3, 3, tyX3, rfl, by decide, in_X3, tyX3_ok, nmX3, rfl, rfl, rfl, tk2 (i := 0) (by decide +kernel) rfl⟩
theorem fX3_22 : FL RX3 22 2 2 false .int := ⟨RX3, TX3, 3, tyX3, rfl, by decide, in_X3, tyX3_ok, nmX3, rfl, rfl, rfl, Or.inl (tk2 (i := 1) (by decide +kernel) rfl)⟩
theorem fX5_16 : FL RX5 16 4 0 true (.object "SpiceQuay$Plan") := ⟨RX5, TX5, 9, tyX5, rfl, by decide, in_X5, tyX5_ok, nmX5, rfl, rfl, rfl, Or.inl (tk2 (i := 9) (by decide +kernel) rfl)⟩
theorem FX5_16 : FLF RX5 16 4 0 (.object "SpiceQuay$Plan") := ⟨TX5, 9, tyX5, rfl, by decide, in_X5, tyX5_ok, nmX5, rfl, rfl, rfl, tk2 (i := 9) (by decide +kernel) rfl⟩
theorem fX11_99 : FL RX11 99 4 0 true (.object "SpiceQuay$Plan") := ⟨RX5, TX5, 9, tyX5, rfl, by decide, in_X5, tyX5_ok, nmX5, rfl, rfl, rfl, Or.inl (tk2 (i := 10) (by decide +kernel) rfl)⟩
theorem fX5_7 : FL RX5 7 4 1 true (.object "SpiceQuay$Tokens") := ⟨RX5, TX5, 9, tyX5, rfl, by decide, in_X5, tyX5_ok, nmX5, rfl, rfl, rfl, Or.inl (tk2 (i := 11) (by decide +kernel) rfl)⟩
theorem FX5_7 : FLF RX5 7 4 1 (.object "SpiceQuay$Tokens") := ⟨TX5, 9, tyX5, rfl, by decide, in_X5, tyX5_ok, nmX5, rfl, rfl, rfl, tk2 (i := 11) (by decide +kernel) rfl⟩
theorem fX5_25 : FL RX5 25 4 2 true (.object "SpiceQuay$Names") := ⟨RX5, TX5, 9, tyX5, rfl, by decide, in_X5, tyX5_ok, nmX5, rfl, rfl, rfl, Or.inl (tk2 (i := 12) (by decide +kernel) rfl)⟩
theorem FX5_25 : FLF RX5 25 4 2 (.object "SpiceQuay$Names") := ⟨TX5, 9, tyX5, rfl, by decide, in_X5, tyX5_ok, nmX5, rfl, rfl, rfl, tk2 (i := 12) (by decide +kernel) rfl⟩
theorem fX5_29 : FL RX5 29 4 3 true (.object "SpiceQuay$Names") := ⟨RX5, TX5, 9, tyX5, rfl, by decide, in_X5, tyX5_ok, nmX5, rfl, rfl, rfl, Or.inl (tk2 (i := 13) (by decide +kernel) rfl)⟩
theorem FX5_29 : FLF RX5 29 4 3 (.object "SpiceQuay$Names") := ⟨TX5, 9, tyX5, rfl, by decide, in_X5, tyX5_ok, nmX5, rfl, rfl, rfl, tk2 (i := 13) (by decide +kernel) rfl⟩
theorem fX5_32 : FL RX5 32 4 4 true (.object "SpiceQuay$Names") := ⟨RX5, TX5, 9, tyX5, rfl, by decide, in_X5, tyX5_ok, nmX5, rfl, rfl, rfl, Or.inl (tk2 (i := 14) (by decide +kernel) rfl)⟩
theorem FX5_32 : FLF RX5 32 4 4 (.object "SpiceQuay$Names") := ⟨TX5, 9, tyX5, rfl, by decide, in_X5, tyX5_ok, nmX5, rfl, rfl, rfl, tk2 (i := 14) (by decide +kernel) rfl⟩
theorem fX5_35 : FL RX5 35 4 5 true (.object "SpiceQuay$Names") := ⟨RX5, TX5, 9, tyX5, rfl, by decide, in_X5, tyX5_ok, nmX5, rfl, rfl, rfl, Or.inl (tk2 (i := 15) (by decide +kernel) rfl)⟩
theorem FX5_35 : FLF RX5 35 4 5 (.object "SpiceQuay$Names") := ⟨TX5, 9, tyX5, rfl, by decide, in_X5, tyX5_ok, nmX5, rfl, rfl, rfl, tk2 (i := 15) (by decide +kernel) rfl⟩
theorem fX5_38 : FL RX5 38 4 6 false .int := ⟨RX5, TX5, 9, tyX5, rfl, by decide, in_X5, tyX5_ok, nmX5, rfl, rfl, rfl, Or.inl (tk2 (i := 16) (by decide +kernel) rfl)⟩
theorem fX5_42 : FL RX5 42 4 7 false .int := ⟨RX5, TX5, 9, tyX5, rfl, by decide, in_X5, tyX5_ok, nmX5, rfl, rfl, rfl, Or.inl (tk2 (i := 17) (by decide +kernel) rfl)⟩
theorem fX5_45 : FL RX5 45 4 8 false .int := ⟨RX5, TX5, 9, tyX5, rfl, by decide, in_X5, tyX5_ok, nmX5, rfl, rfl, rfl, Or.inl (tk2 (i := 18) (by decide +kernel) rfl)⟩
theorem nX11_36 : FN RX11 36 3 20 [0, 0, 0, 0, 0, 2, 2, 2, 2, 2, 2, 2, 2, 2, 2, 2, 2, 2, 2, 2] := ⟨RX4, TX4, tyX4, rfl, in_X4, tyX4_ok, tk2 (i := 38) (by decide +kernel) rfl, tk1 (i := 88) (by decide +kernel) rfl, tk1 (i := 5) (by decide +kernel) rfl, fun j hj b => by rcases j with _ | j; rfl; skip; all_goals (repeat (first | (exact absurd hj (by omega)) | (rcases j with _ | j; rfl; skip)))⟩
theorem mX11_38 : ML RX11 38 yX4_init := Or.inl (tk2 (i := 39) (by decide +kernel) rfl)
theorem nX11_43 : FN RX11 43 7 15 [2, 0, 0, 0, 0, 0, 2, 2, 2, 2, 2, 2, 2, 2, 2] := ⟨RX8, TX8, tyX8, rfl, in_X8, tyX8_ok, tk2 (i := 40) (by decide +kernel) rfl, tk2 (i := 41) (by decide +kernel) rfl, tk1 (i := 8) (by decide +kernel) rfl, fun j hj b => by rcases j with _ | j; rfl; skip; all_goals (repeat (first | (exact absurd hj (by omega)) | (rcases j with _ | j; rfl; skip)))⟩
theorem mX11_45 : ML RX11 45 yX8_init := Or.inl (tk2 (i := 42) (by decide +kernel) rfl)
theorem nX8_20 : FN RX8 20 6 1 [2] := ⟨RX7, TX7, tyX7, rfl, in_X7, tyX7_ok, tk2 (i := 46) (by decide +kernel) rfl, tk1 (i := 38) (by decide +kernel) rfl, tk1 (i := 2) (by decide +kernel) rfl, fun j hj b => by rcases j with _ | j; rfl; skip; all_goals (repeat (first | (exact absurd hj (by omega)) | (rcases j with _ | j; rfl; skip)))⟩
theorem mX8_24 : ML RX8 24 yX7_init := Or.inl (tk2 (i := 47) (by decide +kernel) rfl)
theorem nX8_46 : FN RX8 46 1 2 [2, 2] := ⟨RX1, TX1, tyX1, rfl, in_X1, tyX1_ok, tk2 (i := 48) (by decide +kernel) rfl, tk2 (i := 49) (by decide +kernel) rfl, tk1 (i := 9) (by decide +kernel) rfl, fun j hj b => by rcases j with _ | j; rfl; skip; all_goals (repeat (first | (exact absurd hj (by omega)) | (rcases j with _ | j; rfl; skip)))⟩
theorem mX8_48 : ML RX8 48 yX1_init := Or.inl (tk2 (i := 50) (by decide +kernel) rfl)
theorem nX1_9 : FN RX1 9 6 1 [2] := ⟨RX7, TX7, tyX7, rfl, in_X7, tyX7_ok, tk2 (i := 54) (by decide +kernel) rfl, tk1 (i := 38) (by decide +kernel) rfl, tk1 (i := 2) (by decide +kernel) rfl, fun j hj b => by rcases j with _ | j; rfl; skip; all_goals (repeat (first | (exact absurd hj (by omega)) | (rcases j with _ | j; rfl; skip)))⟩
theorem mX1_13 : ML RX1 13 yX7_init := Or.inl (tk2 (i := 55) (by decide +kernel) rfl)
theorem fX1_16 : FL RX1 16 1 0 true (.object "SpiceQuay$Row") := ⟨RX1, TX1, 2, tyX1, rfl, by decide, in_X1, tyX1_ok, nmX1, rfl, rfl, rfl, Or.inl (tk2 (i := 56) (by decide +kernel) rfl)⟩
theorem FX1_16 : FLF RX1 16 1 0 (.object "SpiceQuay$Row") := ⟨TX1, 2, tyX1, rfl, by decide, in_X1, tyX1_ok, nmX1, rfl, rfl, rfl, tk2 (i := 56) (by decide +kernel) rfl⟩
theorem fX1_20 : FL RX1 20 1 1 true (.object "SpiceQuay$Row") := ⟨RX1, TX1, 2, tyX1, rfl, by decide, in_X1, tyX1_ok, nmX1, rfl, rfl, rfl, Or.inl (tk2 (i := 57) (by decide +kernel) rfl)⟩
theorem FX1_20 : FLF RX1 20 1 1 (.object "SpiceQuay$Row") := ⟨TX1, 2, tyX1, rfl, by decide, in_X1, tyX1_ok, nmX1, rfl, rfl, rfl, tk2 (i := 57) (by decide +kernel) rfl⟩
theorem fX8_7 : FL RX8 7 7 0 true (.object "SpiceQuay$Plan") := ⟨RX8, TX8, 15, tyX8, rfl, by decide, in_X8, tyX8_ok, nmX8, rfl, rfl, rfl, Or.inl (tk2 (i := 63) (by decide +kernel) rfl)⟩
theorem FX8_7 : FLF RX8 7 7 0 (.object "SpiceQuay$Plan") := ⟨TX8, 15, tyX8, rfl, by decide, in_X8, tyX8_ok, nmX8, rfl, rfl, rfl, tk2 (i := 63) (by decide +kernel) rfl⟩
theorem fX8_13 : FL RX8 13 7 1 false .int := ⟨RX8, TX8, 15, tyX8, rfl, by decide, in_X8, tyX8_ok, nmX8, rfl, rfl, rfl, Or.inl (tk2 (i := 64) (by decide +kernel) rfl)⟩
theorem fX0_41 : FL RX0 41 7 1 false .int := ⟨RX8, TX8, 15, tyX8, rfl, by decide, in_X8, tyX8_ok, nmX8, rfl, rfl, rfl, Or.inl (tk2 (i := 65) (by decide +kernel) rfl)⟩
theorem fX6_79 : FL RX6 79 7 1 false .int := ⟨RX8, TX8, 15, tyX8, rfl, by decide, in_X8, tyX8_ok, nmX8, rfl, rfl, rfl, Or.inl (tk2 (i := 66) (by decide +kernel) rfl)⟩
theorem fX11_267 : FL RX11 267 7 1 false .int := ⟨RX8, TX8, 15, tyX8, rfl, by decide, in_X8, tyX8_ok, nmX8, rfl, rfl, rfl, Or.inl (tk2 (i := 67) (by decide +kernel) rfl)⟩
theorem fX8_17 : FL RX8 17 7 2 false .int := ⟨RX8, TX8, 15, tyX8, rfl, by decide, in_X8, tyX8_ok, nmX8, rfl, rfl, rfl, Or.inl (tk2 (i := 68) (by decide +kernel) rfl)⟩
theorem fX6_84 : FL RX6 84 7 2 false .int := ⟨RX8, TX8, 15, tyX8, rfl, by decide, in_X8, tyX8_ok, nmX8, rfl, rfl, rfl, Or.inl (tk2 (i := 69) (by decide +kernel) rfl)⟩
theorem fX11_170 : FL RX11 170 7 2 false .int := ⟨RX8, TX8, 15, tyX8, rfl, by decide, in_X8, tyX8_ok, nmX8, rfl, rfl, rfl, Or.inl (tk2 (i := 70) (by decide +kernel) rfl)⟩
theorem fX8_59 : FL RX8 59 7 3 false .int := ⟨RX8, TX8, 15, tyX8, rfl, by decide, in_X8, tyX8_ok, nmX8, rfl, rfl, rfl, Or.inl (tk2 (i := 71) (by decide +kernel) rfl)⟩
theorem fX0_176 : FL RX0 176 7 3 false .int := ⟨RX8, TX8, 15, tyX8, rfl, by decide, in_X8, tyX8_ok, nmX8, rfl, rfl, rfl, Or.inl (tk2 (i := 72) (by decide +kernel) rfl)⟩
theorem fX8_62 : FL RX8 62 7 4 false .int := ⟨RX8, TX8, 15, tyX8, rfl, by decide, in_X8, tyX8_ok, nmX8, rfl, rfl, rfl, Or.inl (tk2 (i := 73) (by decide +kernel) rfl)⟩
theorem fX0_144 : FL RX0 144 7 4 false .int := ⟨RX8, TX8, 15, tyX8, rfl, by decide, in_X8, tyX8_ok, nmX8, rfl, rfl, rfl, Or.inl (tk2 (i := 74) (by decide +kernel) rfl)⟩
theorem fX8_65 : FL RX8 65 7 5 false .int := ⟨RX8, TX8, 15, tyX8, rfl, by decide, in_X8, tyX8_ok, nmX8, rfl, rfl, rfl, Or.inl (tk2 (i := 75) (by decide +kernel) rfl)⟩
theorem fX0_185 : FL RX0 185 7 5 false .int := ⟨RX8, TX8, 15, tyX8, rfl, by decide, in_X8, tyX8_ok, nmX8, rfl, rfl, rfl, Or.inl (tk2 (i := 76) (by decide +kernel) rfl)⟩
theorem fX8_27 : FL RX8 27 7 6 true (.object "SpiceQuay$Row") := ⟨RX8, TX8, 15, tyX8, rfl, by decide, in_X8, tyX8_ok, nmX8, rfl, rfl, rfl, Or.inl (tk2 (i := 77) (by decide +kernel) rfl)⟩
theorem FX8_27 : FLF RX8 27 7 6 (.object "SpiceQuay$Row") := ⟨TX8, 15, tyX8, rfl, by decide, in_X8, tyX8_ok, nmX8, rfl, rfl, rfl, tk2 (i := 77) (by decide +kernel) rfl⟩
theorem fX6_87 : FL RX6 87 7 6 true (.object "SpiceQuay$Row") := ⟨RX8, TX8, 15, tyX8, rfl, by decide, in_X8, tyX8_ok, nmX8, rfl, rfl, rfl, Or.inl (tk2 (i := 78) (by decide +kernel) rfl)⟩
theorem fX0_132 : FL RX0 132 7 6 true (.object "SpiceQuay$Row") := ⟨RX8, TX8, 15, tyX8, rfl, by decide, in_X8, tyX8_ok, nmX8, rfl, rfl, rfl, Or.inl (tk2 (i := 79) (by decide +kernel) rfl)⟩
theorem fX11_205 : FL RX11 205 7 6 true (.object "SpiceQuay$Row") := ⟨RX8, TX8, 15, tyX8, rfl, by decide, in_X8, tyX8_ok, nmX8, rfl, rfl, rfl, Or.inl (tk2 (i := 80) (by decide +kernel) rfl)⟩
theorem fX8_31 : FL RX8 31 7 7 true (.object "SpiceQuay$Row") := ⟨RX8, TX8, 15, tyX8, rfl, by decide, in_X8, tyX8_ok, nmX8, rfl, rfl, rfl, Or.inl (tk2 (i := 81) (by decide +kernel) rfl)⟩
theorem FX8_31 : FLF RX8 31 7 7 (.object "SpiceQuay$Row") := ⟨TX8, 15, tyX8, rfl, by decide, in_X8, tyX8_ok, nmX8, rfl, rfl, rfl, tk2 (i := 81) (by decide +kernel) rfl⟩
theorem fX6_112 : FL RX6 112 7 7 true (.object "SpiceQuay$Row") := ⟨RX8, TX8, 15, tyX8, rfl, by decide, in_X8, tyX8_ok, nmX8, rfl, rfl, rfl, Or.inl (tk2 (i := 82) (by decide +kernel) rfl)⟩
theorem fX0_126 : FL RX0 126 7 7 true (.object "SpiceQuay$Row") := ⟨RX8, TX8, 15, tyX8, rfl, by decide, in_X8, tyX8_ok, nmX8, rfl, rfl, rfl, Or.inl (tk2 (i := 83) (by decide +kernel) rfl)⟩
theorem fX8_34 : FL RX8 34 7 8 true (.object "SpiceQuay$Row") := ⟨RX8, TX8, 15, tyX8, rfl, by decide, in_X8, tyX8_ok, nmX8, rfl, rfl, rfl, Or.inl (tk2 (i := 84) (by decide +kernel) rfl)⟩
theorem FX8_34 : FLF RX8 34 7 8 (.object "SpiceQuay$Row") := ⟨TX8, 15, tyX8, rfl, by decide, in_X8, tyX8_ok, nmX8, rfl, rfl, rfl, tk2 (i := 84) (by decide +kernel) rfl⟩
theorem fX8_37 : FL RX8 37 7 9 true (.object "SpiceQuay$Row") := ⟨RX8, TX8, 15, tyX8, rfl, by decide, in_X8, tyX8_ok, nmX8, rfl, rfl, rfl, Or.inl (tk2 (i := 85) (by decide +kernel) rfl)⟩
theorem FX8_37 : FLF RX8 37 7 9 (.object "SpiceQuay$Row") := ⟨TX8, 15, tyX8, rfl, by decide, in_X8, tyX8_ok, nmX8, rfl, rfl, rfl, tk2 (i := 85) (by decide +kernel) rfl⟩
theorem fX6_90 : FL RX6 90 7 9 true (.object "SpiceQuay$Row") := ⟨RX8, TX8, 15, tyX8, rfl, by decide, in_X8, tyX8_ok, nmX8, rfl, rfl, rfl, Or.inl (tk2 (i := 86) (by decide +kernel) rfl)⟩
theorem fX0_179 : FL RX0 179 7 9 true (.object "SpiceQuay$Row") := ⟨RX8, TX8, 15, tyX8, rfl, by decide, in_X8, tyX8_ok, nmX8, rfl, rfl, rfl, Or.inl (tk2 (i := 87) (by decide +kernel) rfl)⟩
theorem fX8_40 : FL RX8 40 7 10 true (.object "SpiceQuay$Row") := ⟨RX8, TX8, 15, tyX8, rfl, by decide, in_X8, tyX8_ok, nmX8, rfl, rfl, rfl, Or.inl (tk2 (i := 88) (by decide +kernel) rfl)⟩
theorem FX8_40 : FLF RX8 40 7 10 (.object "SpiceQuay$Row") := ⟨TX8, 15, tyX8, rfl, by decide, in_X8, tyX8_ok, nmX8, rfl, rfl, rfl, tk2 (i := 88) (by decide +kernel) rfl⟩
theorem fX8_43 : FL RX8 43 7 11 true (.object "SpiceQuay$Row") := ⟨RX8, TX8, 15, tyX8, rfl, by decide, in_X8, tyX8_ok, nmX8, rfl, rfl, rfl, Or.inl (tk2 (i := 89) (by decide +kernel) rfl)⟩
theorem FX8_43 : FLF RX8 43 7 11 (.object "SpiceQuay$Row") := ⟨TX8, 15, tyX8, rfl, by decide, in_X8, tyX8_ok, nmX8, rfl, rfl, rfl, tk2 (i := 89) (by decide +kernel) rfl⟩
theorem fX6_96 : FL RX6 96 7 11 true (.object "SpiceQuay$Row") := ⟨RX8, TX8, 15, tyX8, rfl, by decide, in_X8, tyX8_ok, nmX8, rfl, rfl, rfl, Or.inl (tk2 (i := 90) (by decide +kernel) rfl)⟩
theorem fX0_123 : FL RX0 123 7 11 true (.object "SpiceQuay$Row") := ⟨RX8, TX8, 15, tyX8, rfl, by decide, in_X8, tyX8_ok, nmX8, rfl, rfl, rfl, Or.inl (tk2 (i := 91) (by decide +kernel) rfl)⟩
theorem fX11_175 : FL RX11 175 7 11 true (.object "SpiceQuay$Row") := ⟨RX8, TX8, 15, tyX8, rfl, by decide, in_X8, tyX8_ok, nmX8, rfl, rfl, rfl, Or.inl (tk2 (i := 92) (by decide +kernel) rfl)⟩
theorem fX8_49 : FL RX8 49 7 12 true (.object "SpiceQuay$Debts") := ⟨RX8, TX8, 15, tyX8, rfl, by decide, in_X8, tyX8_ok, nmX8, rfl, rfl, rfl, Or.inl (tk2 (i := 93) (by decide +kernel) rfl)⟩
theorem FX8_49 : FLF RX8 49 7 12 (.object "SpiceQuay$Debts") := ⟨TX8, 15, tyX8, rfl, by decide, in_X8, tyX8_ok, nmX8, rfl, rfl, rfl, tk2 (i := 93) (by decide +kernel) rfl⟩
theorem fX0_45 : FL RX0 45 7 12 true (.object "SpiceQuay$Debts") := ⟨RX8, TX8, 15, tyX8, rfl, by decide, in_X8, tyX8_ok, nmX8, rfl, rfl, rfl, Or.inl (tk2 (i := 94) (by decide +kernel) rfl)⟩
theorem fX6_99 : FL RX6 99 7 12 true (.object "SpiceQuay$Debts") := ⟨RX8, TX8, 15, tyX8, rfl, by decide, in_X8, tyX8_ok, nmX8, rfl, rfl, rfl, Or.inl (tk2 (i := 95) (by decide +kernel) rfl)⟩
theorem fX11_153 : FL RX11 153 7 12 true (.object "SpiceQuay$Debts") := ⟨RX8, TX8, 15, tyX8, rfl, by decide, in_X8, tyX8_ok, nmX8, rfl, rfl, rfl, Or.inl (tk2 (i := 96) (by decide +kernel) rfl)⟩
theorem fX8_53 : FL RX8 53 7 13 true (.object "SpiceQuay$Row") := ⟨RX8, TX8, 15, tyX8, rfl, by decide, in_X8, tyX8_ok, nmX8, rfl, rfl, rfl, Or.inl (tk2 (i := 97) (by decide +kernel) rfl)⟩
theorem FX8_53 : FLF RX8 53 7 13 (.object "SpiceQuay$Row") := ⟨TX8, 15, tyX8, rfl, by decide, in_X8, tyX8_ok, nmX8, rfl, rfl, rfl, tk2 (i := 97) (by decide +kernel) rfl⟩
theorem fX0_135 : FL RX0 135 7 13 true (.object "SpiceQuay$Row") := ⟨RX8, TX8, 15, tyX8, rfl, by decide, in_X8, tyX8_ok, nmX8, rfl, rfl, rfl, Or.inl (tk2 (i := 98) (by decide +kernel) rfl)⟩
theorem fX8_56 : FL RX8 56 7 14 true (.object "SpiceQuay$Row") := ⟨RX8, TX8, 15, tyX8, rfl, by decide, in_X8, tyX8_ok, nmX8, rfl, rfl, rfl, Or.inl (tk2 (i := 99) (by decide +kernel) rfl)⟩
theorem FX8_56 : FLF RX8 56 7 14 (.object "SpiceQuay$Row") := ⟨TX8, 15, tyX8, rfl, by decide, in_X8, tyX8_ok, nmX8, rfl, rfl, rfl, tk2 (i := 99) (by decide +kernel) rfl⟩
theorem fX0_117 : FL RX0 117 7 14 true (.object "SpiceQuay$Row") := ⟨RX8, TX8, 15, tyX8, rfl, by decide, in_X8, tyX8_ok, nmX8, rfl, rfl, rfl, Or.inl (tk2 (i := 100) (by decide +kernel) rfl)⟩
theorem fX11_285 : FL RX11 285 7 14 true (.object "SpiceQuay$Row") := ⟨RX8, TX8, 15, tyX8, rfl, by decide, in_X8, tyX8_ok, nmX8, rfl, rfl, rfl, Or.inl (tk2 (i := 101) (by decide +kernel) rfl)⟩
theorem nX11_52 : FN RX11 52 0 3 [2, 2, 2] := ⟨RX0, TX0, tyX0, rfl, in_X0, tyX0_ok, tk2 (i := 133) (by decide +kernel) rfl, tk2 (i := 134) (by decide +kernel) rfl, tk1 (i := 10) (by decide +kernel) rfl, fun j hj b => by rcases j with _ | j; rfl; skip; all_goals (repeat (first | (exact absurd hj (by omega)) | (rcases j with _ | j; rfl; skip)))⟩
theorem mX11_54 : ML RX11 54 yX0_init := Or.inl (tk2 (i := 135) (by decide +kernel) rfl)
theorem nX0_17 : FN RX0 17 5 4 [2, 2, 2, 0] := ⟨RX6, TX6, tyX6, rfl, in_X6, tyX6_ok, tk2 (i := 139) (by decide +kernel) rfl, tk2 (i := 140) (by decide +kernel) rfl, tk1 (i := 11) (by decide +kernel) rfl, fun j hj b => by rcases j with _ | j; rfl; skip; all_goals (repeat (first | (exact absurd hj (by omega)) | (rcases j with _ | j; rfl; skip)))⟩
theorem mX0_25 : ML RX0 25 yX6_init := Or.inl (tk2 (i := 141) (by decide +kernel) rfl)
theorem nX6_17 : FN RX6 17 6 1 [2] := ⟨RX7, TX7, tyX7, rfl, in_X7, tyX7_ok, tk2 (i := 145) (by decide +kernel) rfl, tk1 (i := 38) (by decide +kernel) rfl, tk1 (i := 2) (by decide +kernel) rfl, fun j hj b => by rcases j with _ | j; rfl; skip; all_goals (repeat (first | (exact absurd hj (by omega)) | (rcases j with _ | j; rfl; skip)))⟩
theorem mX6_21 : ML RX6 21 yX7_init := Or.inl (tk2 (i := 146) (by decide +kernel) rfl)
theorem fX6_7 : FL RX6 7 5 0 true (.object "SpiceQuay$Steps") := ⟨RX6, TX6, 4, tyX6, rfl, by decide, in_X6, tyX6_ok, nmX6, rfl, rfl, rfl, Or.inl (tk2 (i := 147) (by decide +kernel) rfl)⟩
theorem FX6_7 : FLF RX6 7 5 0 (.object "SpiceQuay$Steps") := ⟨TX6, 4, tyX6, rfl, by decide, in_X6, tyX6_ok, nmX6, rfl, rfl, rfl, tk2 (i := 147) (by decide +kernel) rfl⟩
theorem fX6_13 : FL RX6 13 5 1 true (.object "SpiceQuay$Stand") := ⟨RX6, TX6, 4, tyX6, rfl, by decide, in_X6, tyX6_ok, nmX6, rfl, rfl, rfl, Or.inl (tk2 (i := 148) (by decide +kernel) rfl)⟩
theorem FX6_13 : FLF RX6 13 5 1 (.object "SpiceQuay$Stand") := ⟨TX6, 4, tyX6, rfl, by decide, in_X6, tyX6_ok, nmX6, rfl, rfl, rfl, tk2 (i := 148) (by decide +kernel) rfl⟩
theorem fX6_24 : FL RX6 24 5 2 true (.object "SpiceQuay$Row") := ⟨RX6, TX6, 4, tyX6, rfl, by decide, in_X6, tyX6_ok, nmX6, rfl, rfl, rfl, Or.inl (tk2 (i := 149) (by decide +kernel) rfl)⟩
theorem FX6_24 : FLF RX6 24 5 2 (.object "SpiceQuay$Row") := ⟨TX6, 4, tyX6, rfl, by decide, in_X6, tyX6_ok, nmX6, rfl, rfl, rfl, tk2 (i := 149) (by decide +kernel) rfl⟩
theorem fX6_28 : FL RX6 28 5 3 false .int := ⟨RX6, TX6, 4, tyX6, rfl, by decide, in_X6, tyX6_ok, nmX6, rfl, rfl, rfl, Or.inl (tk2 (i := 150) (by decide +kernel) rfl)⟩
theorem fX0_7 : FL RX0 7 0 0 true (.object "SpiceQuay$Plan") := ⟨RX0, TX0, 3, tyX0, rfl, by decide, in_X0, tyX0_ok, nmX0, rfl, rfl, rfl, Or.inl (tk2 (i := 160) (by decide +kernel) rfl)⟩
theorem FX0_7 : FLF RX0 7 0 0 (.object "SpiceQuay$Plan") := ⟨TX0, 3, tyX0, rfl, by decide, in_X0, tyX0_ok, nmX0, rfl, rfl, rfl, tk2 (i := 160) (by decide +kernel) rfl⟩
theorem fX0_13 : FL RX0 13 0 1 true (.object "SpiceQuay$Stand") := ⟨RX0, TX0, 3, tyX0, rfl, by decide, in_X0, tyX0_ok, nmX0, rfl, rfl, rfl, Or.inl (tk2 (i := 161) (by decide +kernel) rfl)⟩
theorem FX0_13 : FLF RX0 13 0 1 (.object "SpiceQuay$Stand") := ⟨TX0, 3, tyX0, rfl, by decide, in_X0, tyX0_ok, nmX0, rfl, rfl, rfl, tk2 (i := 161) (by decide +kernel) rfl⟩
theorem fX0_28 : FL RX0 28 0 2 true (.object "SpiceQuay$Reckoner") := ⟨RX0, TX0, 3, tyX0, rfl, by decide, in_X0, tyX0_ok, nmX0, rfl, rfl, rfl, Or.inl (tk2 (i := 162) (by decide +kernel) rfl)⟩
theorem FX0_28 : FLF RX0 28 0 2 (.object "SpiceQuay$Reckoner") := ⟨TX0, 3, tyX0, rfl, by decide, in_X0, tyX0_ok, nmX0, rfl, rfl, rfl, tk2 (i := 162) (by decide +kernel) rfl⟩
theorem fX11_14 : FL RX11 14 10 0 true (.object "SpiceQuay$Row") := ⟨RX11, TX11, 10, tyX11, rfl, by decide, in_X11, tyX11_ok, nmX11, rfl, rfl, rfl, Or.inl (tk2 (i := 170) (by decide +kernel) rfl)⟩
theorem FX11_14 : FLF RX11 14 10 0 (.object "SpiceQuay$Row") := ⟨TX11, 10, tyX11, rfl, by decide, in_X11, tyX11_ok, nmX11, rfl, rfl, rfl, tk2 (i := 170) (by decide +kernel) rfl⟩
theorem fX11_23 : FL RX11 23 10 1 true (.object "SpiceQuay$Tokens") := ⟨RX11, TX11, 10, tyX11, rfl, by decide, in_X11, tyX11_ok, nmX11, rfl, rfl, rfl, Or.inl (tk2 (i := 171) (by decide +kernel) rfl)⟩
theorem FX11_23 : FLF RX11 23 10 1 (.object "SpiceQuay$Tokens") := ⟨TX11, 10, tyX11, rfl, by decide, in_X11, tyX11_ok, nmX11, rfl, rfl, rfl, tk2 (i := 171) (by decide +kernel) rfl⟩
theorem fX11_32 : FL RX11 32 10 2 true (.object "SpiceQuay$Reader") := ⟨RX11, TX11, 10, tyX11, rfl, by decide, in_X11, tyX11_ok, nmX11, rfl, rfl, rfl, Or.inl (tk2 (i := 172) (by decide +kernel) rfl)⟩
theorem FX11_32 : FLF RX11 32 10 2 (.object "SpiceQuay$Reader") := ⟨TX11, 10, tyX11, rfl, by decide, in_X11, tyX11_ok, nmX11, rfl, rfl, rfl, tk2 (i := 172) (by decide +kernel) rfl⟩
theorem fX11_39 : FL RX11 39 10 3 true (.object "SpiceQuay$Plan") := ⟨RX11, TX11, 10, tyX11, rfl, by decide, in_X11, tyX11_ok, nmX11, rfl, rfl, rfl, Or.inl (tk2 (i := 173) (by decide +kernel) rfl)⟩
theorem FX11_39 : FLF RX11 39 10 3 (.object "SpiceQuay$Plan") := ⟨TX11, 10, tyX11, rfl, by decide, in_X11, tyX11_ok, nmX11, rfl, rfl, rfl, tk2 (i := 173) (by decide +kernel) rfl⟩
theorem fX11_48 : FL RX11 48 10 4 true (.object "SpiceQuay$Stand") := ⟨RX11, TX11, 10, tyX11, rfl, by decide, in_X11, tyX11_ok, nmX11, rfl, rfl, rfl, Or.inl (tk2 (i := 174) (by decide +kernel) rfl)⟩
theorem FX11_48 : FLF RX11 48 10 4 (.object "SpiceQuay$Stand") := ⟨TX11, 10, tyX11, rfl, by decide, in_X11, tyX11_ok, nmX11, rfl, rfl, rfl, tk2 (i := 174) (by decide +kernel) rfl⟩
theorem fX11_57 : FL RX11 57 10 5 true (.object "SpiceQuay$Days") := ⟨RX11, TX11, 10, tyX11, rfl, by decide, in_X11, tyX11_ok, nmX11, rfl, rfl, rfl, Or.inl (tk2 (i := 175) (by decide +kernel) rfl)⟩
theorem FX11_57 : FLF RX11 57 10 5 (.object "SpiceQuay$Days") := ⟨TX11, 10, tyX11, rfl, by decide, in_X11, tyX11_ok, nmX11, rfl, rfl, rfl, tk2 (i := 175) (by decide +kernel) rfl⟩
theorem fX11_61 : FL RX11 61 10 6 true (.object "SpiceQuay$Stand") := ⟨RX11, TX11, 10, tyX11, rfl, by decide, in_X11, tyX11_ok, nmX11, rfl, rfl, rfl, Or.inl (tk2 (i := 176) (by decide +kernel) rfl)⟩
theorem FX11_61 : FLF RX11 61 10 6 (.object "SpiceQuay$Stand") := ⟨TX11, 10, tyX11, rfl, by decide, in_X11, tyX11_ok, nmX11, rfl, rfl, rfl, tk2 (i := 176) (by decide +kernel) rfl⟩
theorem fX11_64 : FL RX11 64 10 7 true (.object "SpiceQuay$Days") := ⟨RX11, TX11, 10, tyX11, rfl, by decide, in_X11, tyX11_ok, nmX11, rfl, rfl, rfl, Or.inl (tk2 (i := 177) (by decide +kernel) rfl)⟩
theorem FX11_64 : FLF RX11 64 10 7 (.object "SpiceQuay$Days") := ⟨TX11, 10, tyX11, rfl, by decide, in_X11, tyX11_ok, nmX11, rfl, rfl, rfl, tk2 (i := 177) (by decide +kernel) rfl⟩
theorem fX11_67 : FL RX11 67 10 8 false .int := ⟨RX11, TX11, 10, tyX11, rfl, by decide, in_X11, tyX11_ok, nmX11, rfl, rfl, rfl, Or.inl (tk2 (i := 178) (by decide +kernel) rfl)⟩
theorem fX11_71 : FL RX11 71 10 9 false .int := ⟨RX11, TX11, 10, tyX11, rfl, by decide, in_X11, tyX11_ok, nmX11, rfl, rfl, rfl, Or.inl (tk2 (i := 179) (by decide +kernel) rfl)⟩
theorem mL_94 : ML RL 94 yX11_teach := Or.inl (tk2 (i := 201) (by decide +kernel) rfl)
theorem mX11_89 : ML RX11 89 yX10_scan := Or.inl (tk2 (i := 205) (by decide +kernel) rfl)
theorem mX10_37 : ML RX10 37 yX10_behindBlanks := Or.inl (tk2 (i := 209) (by decide +kernel) rfl)
theorem mX10_45 : ML RX10 45 yX7_get := Or.inl (tk2 (i := 213) (by decide +kernel) rfl)
theorem mX10_41 : ML RX10 41 yX10_reads := Or.inl (tk2 (i := 217) (by decide +kernel) rfl)
theorem mX10_54 : ML RX10 54 yX10_isLetter := Or.inl (tk2 (i := 221) (by decide +kernel) rfl)
theorem mX10_57 : ML RX10 57 yX10_readsWord := Or.inl (tk2 (i := 224) (by decide +kernel) rfl)
theorem mX10_60 : ML RX10 60 yX10_isDigit := Or.inl (tk2 (i := 228) (by decide +kernel) rfl)
theorem mX10_70 : ML RX10 70 yX10_keyword := Or.inl (tk2 (i := 231) (by decide +kernel) rfl)
theorem mX10_86 : ML RX10 86 yJ0_length_8abf5 := Or.inl (tk2 (i := 236) (by decide +kernel) rfl)
theorem mJ0_335 : ML RJ0 335 yJ0_coder_7d493 := Or.inl (tk3 (i := 0) (by decide +kernel) rfl)
theorem mX10_89 : ML RX10 89 yJ0_charAt_5068e := Or.inl (tk3 (i := 6) (by decide +kernel) rfl)
theorem mJ0_492 : ML RJ0 492 yJ0_isLatin1_aae02 := Or.inl (tk3 (i := 10) (by decide +kernel) rfl)
theorem mJ0_495 : ML RJ0 495 yJ1_charAt_3b067 := Or.inl (tk3 (i := 14) (by decide +kernel) rfl)
theorem mJ1_9 : ML RJ1 9 yJ0_checkIndex_df160 := Or.inl (tk3 (i := 17) (by decide +kernel) rfl)
theorem mJ0_1059 : ML RJ0 1059 yJ3_checkIndex_8e157 := Or.inl (tk3 (i := 22) (by decide +kernel) rfl)
theorem mJ0_498 : ML RJ0 498 yJ2_charAt_3b067 := Or.inl (tk3 (i := 25) (by decide +kernel) rfl)
theorem mJ2_67 : ML RJ2 67 yJ2_checkIndex_2214a := Or.inl (tk3 (i := 28) (by decide +kernel) rfl)
theorem mJ2_48 : ML RJ2 48 yJ2_length_9d52b := Or.inl (tk3 (i := 31) (by decide +kernel) rfl)
theorem mJ2_414 : ML RJ2 414 yJ0_checkIndex_df160 := Or.inl (tk3 (i := 34) (by decide +kernel) rfl)
theorem mJ2_71 : ML RJ2 71 yJ2_getChar_3b067 := Or.inl (tk3 (i := 35) (by decide +kernel) rfl)
theorem mX10_93 : ML RX10 93 yX10_spells := Or.inl (tk3 (i := 44) (by decide +kernel) rfl)
theorem mX10_74 : ML RX10 74 yX10_firstWithName := Or.inl (tk3 (i := 48) (by decide +kernel) rfl)
theorem mX10_97 : ML RX10 97 yX10_isSame := Or.inl (tk3 (i := 52) (by decide +kernel) rfl)
theorem mX10_50 : ML RX10 50 yX10_add := Or.inl (tk3 (i := 56) (by decide +kernel) rfl)
theorem mX10_100 : ML RX10 100 yX7_set := Or.inl (tk3 (i := 60) (by decide +kernel) rfl)
theorem mX10_63 : ML RX10 63 yX10_readsNumber := Or.inl (tk3 (i := 64) (by decide +kernel) rfl)
theorem mX10_66 : ML RX10 66 yX10_readsSign := Or.inl (tk3 (i := 68) (by decide +kernel) rfl)
theorem mX10_79 : ML RX10 79 yJ0_indexOf_0f7a4 := Or.inl (tk3 (i := 73) (by decide +kernel) rfl)
theorem mJ0_633 : ML RJ0 633 yJ0_indexOf_7cf53 := Or.inl (tk3 (i := 77) (by decide +kernel) rfl)
theorem mJ0_505 : ML RJ0 505 yJ0_length_8abf5 := Or.inl (tk3 (i := 81) (by decide +kernel) rfl)
theorem mJ0_637 : ML RJ0 637 yJ1_indexOf_4cfef := Or.inl (tk3 (i := 82) (by decide +kernel) rfl)
theorem mJ1_88 : ML RJ1 88 yJ1_canEncode_9a6ad := Or.inl (tk3 (i := 85) (by decide +kernel) rfl)
theorem mJ1_92 : ML RJ1 92 yJ9_max_7cf53 := Or.inl (tk3 (i := 88) (by decide +kernel) rfl)
theorem mJ1_38 : ML RJ1 38 yJ9_min_7cf53 := Or.inl (tk3 (i := 91) (by decide +kernel) rfl)
theorem mJ1_95 : ML RJ1 95 yJ1_indexOfChar_4cfef := Or.inl (tk3 (i := 94) (by decide +kernel) rfl)
theorem mJ0_640 : ML RJ0 640 yJ2_indexOf_4cfef := Or.inl (tk3 (i := 97) (by decide +kernel) rfl)
theorem mJ2_224 : ML RJ2 224 yJ9_max_7cf53 := Or.inl (tk3 (i := 100) (by decide +kernel) rfl)
theorem mJ2_183 : ML RJ2 183 yJ9_min_7cf53 := Or.inl (tk3 (i := 101) (by decide +kernel) rfl)
theorem mJ2_228 : ML RJ2 228 yJ2_indexOfChar_4cfef := Or.inl (tk3 (i := 103) (by decide +kernel) rfl)
theorem mJ2_96 : ML RJ2 96 yJ2_checkBoundsBeginEnd_d044e := Or.inl (tk3 (i := 106) (by decide +kernel) rfl)
theorem mJ2_241 : ML RJ2 241 yJ0_checkBoundsBeginEnd_23922 := Or.inl (tk3 (i := 109) (by decide +kernel) rfl)
theorem mJ0_1062 : ML RJ0 1062 yJ3_checkFromToIndex_8c36e := Or.inl (tk3 (i := 112) (by decide +kernel) rfl)
theorem mJ2_244 : ML RJ2 244 yJ2_indexOfCharUnsafe_4cfef := Or.inl (tk3 (i := 115) (by decide +kernel) rfl)
theorem mJ2_232 : ML RJ2 232 yJ2_indexOfSupplementary_4cfef := Or.inl (tk3 (i := 118) (by decide +kernel) rfl)
theorem mJ2_164 : ML RJ2 164 yJ11_isValidCodePoint_9a6ad := Or.inl (tk3 (i := 121) (by decide +kernel) rfl)
theorem mJ2_157 : ML RJ2 157 yJ11_highSurrogate_5068e := Or.inl (tk3 (i := 124) (by decide +kernel) rfl)
theorem mJ2_161 : ML RJ2 161 yJ11_lowSurrogate_5068e := Or.inl (tk3 (i := 128) (by decide +kernel) rfl)
theorem mX11_92 : ML RX11 92 yX5_read := Or.inl (tk3 (i := 132) (by decide +kernel) rfl)
theorem mX5_60 : ML RX5 60 yX5_begin := Or.inl (tk3 (i := 136) (by decide +kernel) rfl)
theorem mX5_101 : ML RX5 101 yX3_forget := Or.inl (tk3 (i := 140) (by decide +kernel) rfl)
theorem mX5_63 : ML RX5 63 yX5_seen := Or.inl (tk3 (i := 144) (by decide +kernel) rfl)
theorem mX5_54 : ML RX5 54 yX7_get := Or.inl (tk3 (i := 148) (by decide +kernel) rfl)
theorem mX5_69 : ML RX5 69 yX5_spiceLine := Or.inl (tk3 (i := 149) (by decide +kernel) rfl)
theorem mX5_87 : ML RX5 87 yX5_take := Or.inl (tk3 (i := 153) (by decide +kernel) rfl)
theorem mX5_84 : ML RX5 84 yX5_fail := Or.inl (tk3 (i := 157) (by decide +kernel) rfl)
theorem mX5_115 : ML RX5 115 yX5_takeNewName := Or.inl (tk3 (i := 161) (by decide +kernel) rfl)
theorem mX5_231 : ML RX5 231 yX3_find := Or.inl (tk3 (i := 165) (by decide +kernel) rfl)
theorem mX3_25 : ML RX3 25 yX7_get := Or.inl (tk3 (i := 169) (by decide +kernel) rfl)
theorem mX5_154 : ML RX5 154 yX5_blame := Or.inl (tk3 (i := 170) (by decide +kernel) rfl)
theorem mX5_234 : ML RX5 234 yX3_isFull := Or.inl (tk3 (i := 174) (by decide +kernel) rfl)
theorem mX5_238 : ML RX5 238 yX3_add := Or.inl (tk3 (i := 178) (by decide +kernel) rfl)
theorem mX3_29 : ML RX3 29 yX7_set := Or.inl (tk3 (i := 182) (by decide +kernel) rfl)
theorem mX5_122 : ML RX5 122 yX5_takeNumber := Or.inl (tk3 (i := 183) (by decide +kernel) rfl)
theorem mX5_126 : ML RX5 126 yX7_set := Or.inl (tk3 (i := 187) (by decide +kernel) rfl)
theorem mX5_72 : ML RX5 72 yX5_guildLine := Or.inl (tk3 (i := 188) (by decide +kernel) rfl)
theorem mX5_75 : ML RX5 75 yX5_merchantLine := Or.inl (tk3 (i := 192) (by decide +kernel) rfl)
theorem mX5_78 : ML RX5 78 yX5_lotLine := Or.inl (tk3 (i := 196) (by decide +kernel) rfl)
theorem mX5_145 : ML RX5 145 yX5_takeName := Or.inl (tk3 (i := 200) (by decide +kernel) rfl)
theorem mX5_81 : ML RX5 81 yX5_orderLine := Or.inl (tk3 (i := 204) (by decide +kernel) rfl)
theorem mX5_169 : ML RX5 169 yX5_sum := Or.inl (tk3 (i := 208) (by decide +kernel) rfl)
theorem mX5_204 : ML RX5 204 yX5_product := Or.inl (tk3 (i := 212) (by decide +kernel) rfl)
theorem mX5_207 : ML RX5 207 yX5_value := Or.inl (tk3 (i := 216) (by decide +kernel) rfl)
theorem mX5_184 : ML RX5 184 yX9_add := Or.inl (tk3 (i := 221) (by decide +kernel) rfl)
theorem mX9_30 : ML RX9 30 yX7_set := Or.inl (tk3 (i := 225) (by decide +kernel) rfl)
theorem mX5_213 : ML RX5 213 yX5_turnedValue := Or.inl (tk3 (i := 226) (by decide +kernel) rfl)
theorem mX5_200 : ML RX5 200 yX5_goesDeeper := Or.inl (tk3 (i := 230) (by decide +kernel) rfl)
theorem mX5_216 : ML RX5 216 yX5_sumInBrackets := Or.inl (tk3 (i := 234) (by decide +kernel) rfl)
theorem mX5_219 : ML RX5 219 yX5_oneOfTwoSums := Or.inl (tk3 (i := 238) (by decide +kernel) rfl)
theorem mX5_175 : ML RX5 175 yX5_test := Or.inl (tk4 (i := 2) (by decide +kernel) rfl)
theorem mX5_181 : ML RX5 181 yX5_both := Or.inl (tk4 (i := 6) (by decide +kernel) rfl)
theorem mX5_188 : ML RX5 188 yX5_single := Or.inl (tk4 (i := 10) (by decide +kernel) rfl)
theorem mX5_191 : ML RX5 191 yX5_turnedTest := Or.inl (tk4 (i := 14) (by decide +kernel) rfl)
theorem mX5_194 : ML RX5 194 yX5_testInBrackets := Or.inl (tk4 (i := 18) (by decide +kernel) rfl)
theorem mX5_197 : ML RX5 197 yX5_takeComparison := Or.inl (tk4 (i := 22) (by decide +kernel) rfl)
theorem mX5_225 : ML RX5 225 yX2_compares := Or.inl (tk4 (i := 26) (by decide +kernel) rfl)
theorem mX5_90 : ML RX5 90 yX3_told := Or.inl (tk4 (i := 29) (by decide +kernel) rfl)
theorem mX11_96 : ML RX11 96 yX5_faultPlace := Or.inl (tk4 (i := 33) (by decide +kernel) rfl)
theorem mX11_102 : ML RX11 102 yX4_copyFrom := Or.inl (tk4 (i := 37) (by decide +kernel) rfl)
theorem mX4_80 : ML RX4 80 yX7_copyFrom := Or.inl (tk4 (i := 41) (by decide +kernel) rfl)
theorem mX7_13 : ML RX7 13 yX7_get := Or.inl (tk4 (i := 45) (by decide +kernel) rfl)
theorem mX4_84 : ML RX4 84 yX9_copyFrom := Or.inl (tk4 (i := 46) (by decide +kernel) rfl)
theorem mX9_34 : ML RX9 34 yX7_copyFrom := Or.inl (tk4 (i := 50) (by decide +kernel) rfl)
theorem mX11_105 : ML RX11 105 yX8_begin := Or.inl (tk4 (i := 51) (by decide +kernel) rfl)
theorem mX8_68 : ML RX8 68 yX7_fill := Or.inl (tk4 (i := 55) (by decide +kernel) rfl)
theorem mX8_77 : ML RX8 77 yX7_get := Or.inl (tk4 (i := 59) (by decide +kernel) rfl)
theorem mX8_81 : ML RX8 81 yX7_set := Or.inl (tk4 (i := 60) (by decide +kernel) rfl)
theorem mX8_86 : ML RX8 86 yX8_takeChop := Or.inl (tk4 (i := 61) (by decide +kernel) rfl)
theorem mX8_93 : ML RX8 93 yX1_forget := Or.inl (tk4 (i := 65) (by decide +kernel) rfl)
theorem mX1_23 : ML RX1 23 yX7_fill := Or.inl (tk4 (i := 69) (by decide +kernel) rfl)
theorem mL_98 : ML RL 98 yX11_errorAt := Or.inl (tk4 (i := 71) (by decide +kernel) rfl)
theorem mL_155 : ML RL 155 yX11_mean := Or.inl (tk4 (i := 75) (by decide +kernel) rfl)
theorem mX11_233 : ML RX11 233 yX8_weightOfAll := Or.inl (tk4 (i := 79) (by decide +kernel) rfl)
theorem mX8_121 : ML RX8 121 yX7_sum := Or.inl (tk4 (i := 83) (by decide +kernel) rfl)
theorem mL_160 : ML RL 160 yX11_digest := Or.inl (tk4 (i := 87) (by decide +kernel) rfl)
theorem mX11_113 : ML RX11 113 yX11_counted := Or.inl (tk4 (i := 93) (by decide +kernel) rfl)
theorem mX11_225 : ML RX11 225 yX8_tellAll := Or.inl (tk4 (i := 97) (by decide +kernel) rfl)
theorem mX8_125 : ML RX8 125 yX8_weightOfAll := Or.inl (tk4 (i := 101) (by decide +kernel) rfl)
theorem mX8_128 : ML RX8 128 yX1_sumOfAll := Or.inl (tk4 (i := 102) (by decide +kernel) rfl)
theorem mX1_45 : ML RX1 45 yX7_sum := Or.inl (tk4 (i := 106) (by decide +kernel) rfl)
theorem mX11_254 : ML RX11 254 yX11_digestOfLots := Or.inl (tk4 (i := 107) (by decide +kernel) rfl)
theorem mX11_123 : ML RX11 123 yX8_tellLot := Or.inl (tk4 (i := 111) (by decide +kernel) rfl)
theorem mX8_131 : ML RX8 131 yX8_ageOfChop := Or.inl (tk4 (i := 115) (by decide +kernel) rfl)
theorem mX8_134 : ML RX8 134 yX8_canBeSold := Or.inl (tk4 (i := 119) (by decide +kernel) rfl)
theorem mX11_258 : ML RX11 258 yX11_digestOfMerchants := Or.inl (tk4 (i := 123) (by decide +kernel) rfl)
theorem mX11_132 : ML RX11 132 yX8_tellMerchant := Or.inl (tk4 (i := 127) (by decide +kernel) rfl)
theorem mX8_112 : ML RX8 112 yX1_sumOf := Or.inl (tk4 (i := 131) (by decide +kernel) rfl)
theorem mX1_30 : ML RX1 30 yX7_get := Or.inl (tk4 (i := 135) (by decide +kernel) rfl)
theorem mX8_118 : ML RX8 118 yX1_sumOwedTo := Or.inl (tk4 (i := 136) (by decide +kernel) rfl)
theorem mX8_138 : ML RX8 138 yX8_lotsOf := Or.inl (tk4 (i := 140) (by decide +kernel) rfl)
theorem mX8_141 : ML RX8 141 yX8_weightOfLotsOf := Or.inl (tk4 (i := 144) (by decide +kernel) rfl)
theorem mX11_157 : ML RX11 157 yX1_between := Or.inl (tk4 (i := 148) (by decide +kernel) rfl)
theorem mX11_261 : ML RX11 261 yX11_digestOfGuilds := Or.inl (tk4 (i := 152) (by decide +kernel) rfl)
theorem mX11_140 : ML RX11 140 yX8_tellGuild := Or.inl (tk4 (i := 156) (by decide +kernel) rfl)
theorem mX8_150 : ML RX8 150 yX8_lotsWithChopOf := Or.inl (tk4 (i := 160) (by decide +kernel) rfl)
theorem mX11_264 : ML RX11 264 yX11_digestOfOrders := Or.inl (tk4 (i := 164) (by decide +kernel) rfl)
theorem mX11_148 : ML RX11 148 yX11_tellOrder := Or.inl (tk4 (i := 168) (by decide +kernel) rfl)
theorem mX11_178 : ML RX11 178 yX7_get := Or.inl (tk4 (i := 172) (by decide +kernel) rfl)
theorem mX11_282 : ML RX11 282 yX0_wouldCarryOut := Or.inl (tk4 (i := 173) (by decide +kernel) rfl)
theorem mX0_69 : ML RX0 69 yX7_get := Or.inl (tk4 (i := 177) (by decide +kernel) rfl)
theorem mX0_78 : ML RX0 78 yX6_reckon := Or.inl (tk4 (i := 178) (by decide +kernel) rfl)
theorem mX6_35 : ML RX6 35 yX7_get := Or.inl (tk4 (i := 182) (by decide +kernel) rfl)
theorem mX6_41 : ML RX6 41 yX6_take := Or.inl (tk4 (i := 183) (by decide +kernel) rfl)
theorem mX6_45 : ML RX6 45 yX6_put := Or.inl (tk4 (i := 187) (by decide +kernel) rfl)
theorem mX6_75 : ML RX6 75 yX7_set := Or.inl (tk4 (i := 191) (by decide +kernel) rfl)
theorem mX6_48 : ML RX6 48 yX2_joinsSums := Or.inl (tk4 (i := 192) (by decide +kernel) rfl)
theorem mX6_52 : ML RX6 52 yX6_joined := Or.inl (tk4 (i := 195) (by decide +kernel) rfl)
theorem mX6_115 : ML RX6 115 yJ9_min_7cf53 := Or.inl (tk4 (i := 198) (by decide +kernel) rfl)
theorem mX6_120 : ML RX6 120 yJ9_max_7cf53 := Or.inl (tk4 (i := 199) (by decide +kernel) rfl)
theorem mX6_56 : ML RX6 56 yX2_compares := Or.inl (tk4 (i := 200) (by decide +kernel) rfl)
theorem mX6_59 : ML RX6 59 yX6_holds := Or.inl (tk4 (i := 201) (by decide +kernel) rfl)
theorem mX6_63 : ML RX6 63 yX2_joinsTests := Or.inl (tk4 (i := 204) (by decide +kernel) rfl)
theorem mX6_72 : ML RX6 72 yX6_value := Or.inl (tk4 (i := 207) (by decide +kernel) rfl)
theorem mX6_93 : ML RX6 93 yX8_ageOfChop := Or.inl (tk4 (i := 211) (by decide +kernel) rfl)
theorem mX6_103 : ML RX6 103 yX1_sumOf := Or.inl (tk4 (i := 212) (by decide +kernel) rfl)
theorem mX6_108 : ML RX6 108 yX1_between := Or.inl (tk4 (i := 213) (by decide +kernel) rfl)
theorem mX0_94 : ML RX0 94 yX0_canWeigh := Or.inl (tk4 (i := 214) (by decide +kernel) rfl)
theorem mX0_98 : ML RX0 98 yX0_canSell := Or.inl (tk4 (i := 218) (by decide +kernel) rfl)
theorem mX0_147 : ML RX0 147 yX8_canBeSold := Or.inl (tk4 (i := 222) (by decide +kernel) rfl)
theorem mX0_150 : ML RX0 150 yX0_price := Or.inl (tk4 (i := 223) (by decide +kernel) rfl)
theorem mX0_164 : ML RX0 164 yJ9_min_7cf53 := Or.inl (tk4 (i := 227) (by decide +kernel) rfl)
theorem mX0_153 : ML RX0 153 yJ9_max_7cf53 := Or.inl (tk4 (i := 228) (by decide +kernel) rfl)
theorem mX0_158 : ML RX0 158 yX1_sumOf := Or.inl (tk4 (i := 229) (by decide +kernel) rfl)
theorem mX0_102 : ML RX0 102 yX0_due := Or.inl (tk4 (i := 230) (by decide +kernel) rfl)
theorem mX0_182 : ML RX0 182 yX1_between := Or.inl (tk4 (i := 234) (by decide +kernel) rfl)
theorem mL_80 : ML RL 80 yL_feed := Or.inl (tk4 (i := 235) (by decide +kernel) rfl)
theorem mL_7 : ML RL 7 yX11_feed := Or.inl (tk4 (i := 239) (by decide +kernel) rfl)
theorem mX11_81 : ML RX11 81 yX11_append := Or.inl (tk5 (i := 70) (by decide +kernel) rfl)
theorem mX11_208 : ML RX11 208 yX7_set := Or.inl (tk5 (i := 74) (by decide +kernel) rfl)
theorem mL_90 : ML RL 90 yL_trim := Or.inl (tk5 (i := 75) (by decide +kernel) rfl)
theorem mL_15 : ML RL 15 yX11_trim := Or.inl (tk5 (i := 79) (by decide +kernel) rfl)
theorem mL_102 : ML RL 102 yL_count := Or.inl (tk5 (i := 99) (by decide +kernel) rfl)
theorem mL_21 : ML RL 21 yX11_count := Or.inl (tk5 (i := 103) (by decide +kernel) rfl)
theorem mL_105 : ML RL 105 yL_lot := Or.inl (tk5 (i := 123) (by decide +kernel) rfl)
theorem mL_26 : ML RL 26 yX11_lot := Or.inl (tk5 (i := 126) (by decide +kernel) rfl)
theorem mX11_117 : ML RX11 117 yX11_isLot := Or.inl (tk5 (i := 130) (by decide +kernel) rfl)
theorem mL_109 : ML RL 109 yL_merchant := Or.inl (tk5 (i := 135) (by decide +kernel) rfl)
theorem mL_30 : ML RL 30 yX11_merchant := Or.inl (tk5 (i := 138) (by decide +kernel) rfl)
theorem mX11_127 : ML RX11 127 yX11_isMerchant := Or.inl (tk5 (i := 142) (by decide +kernel) rfl)
theorem mL_112 : ML RL 112 yL_guild := Or.inl (tk5 (i := 147) (by decide +kernel) rfl)
theorem mL_33 : ML RL 33 yX11_guild := Or.inl (tk5 (i := 150) (by decide +kernel) rfl)
theorem mL_115 : ML RL 115 yL_order := Or.inl (tk5 (i := 155) (by decide +kernel) rfl)
theorem mL_36 : ML RL 36 yX11_order := Or.inl (tk5 (i := 158) (by decide +kernel) rfl)
theorem mL_118 : ML RL 118 yL_owes := Or.inl (tk5 (i := 163) (by decide +kernel) rfl)
theorem mL_39 : ML RL 39 yX11_owes := Or.inl (tk5 (i := 166) (by decide +kernel) rfl)
theorem mL_121 : ML RL 121 yL_chain := Or.inl (tk5 (i := 171) (by decide +kernel) rfl)
theorem mL_42 : ML RL 42 yX11_chain := Or.inl (tk5 (i := 174) (by decide +kernel) rfl)
theorem mX11_162 : ML RX11 162 yX1_fewestFromTo := Or.inl (tk5 (i := 178) (by decide +kernel) rfl)
theorem mX1_41 : ML RX1 41 yX7_set := Or.inl (tk5 (i := 182) (by decide +kernel) rfl)
theorem mX1_49 : ML RX1 49 yX1_reachBy := Or.inl (tk5 (i := 183) (by decide +kernel) rfl)
theorem mX1_52 : ML RX1 52 yX1_between := Or.inl (tk5 (i := 187) (by decide +kernel) rfl)
theorem mL_124 : ML RL 124 yL_ring := Or.inl (tk5 (i := 188) (by decide +kernel) rfl)
theorem mL_45 : ML RL 45 yX11_ring := Or.inl (tk5 (i := 191) (by decide +kernel) rfl)
theorem mX11_165 : ML RX11 165 yX1_widestRing := Or.inl (tk5 (i := 195) (by decide +kernel) rfl)
theorem mX1_55 : ML RX1 55 yX1_widen := Or.inl (tk5 (i := 199) (by decide +kernel) rfl)
theorem mX1_35 : ML RX1 35 yJ9_min_7cf53 := Or.inl (tk5 (i := 203) (by decide +kernel) rfl)
theorem mX1_58 : ML RX1 58 yJ9_max_7cf53 := Or.inl (tk5 (i := 204) (by decide +kernel) rfl)
theorem mL_127 : ML RL 127 yL_setDamp := Or.inl (tk5 (i := 205) (by decide +kernel) rfl)
theorem mL_48 : ML RL 48 yX11_setDamp := Or.inl (tk5 (i := 208) (by decide +kernel) rfl)
theorem mL_130 : ML RL 130 yL_lend := Or.inl (tk5 (i := 213) (by decide +kernel) rfl)
theorem mL_51 : ML RL 51 yX11_lend := Or.inl (tk5 (i := 216) (by decide +kernel) rfl)
theorem mX11_181 : ML RX11 181 yX1_sumOf := Or.inl (tk5 (i := 221) (by decide +kernel) rfl)
theorem mX11_189 : ML RX11 189 yX8_moveCoins := Or.inl (tk5 (i := 223) (by decide +kernel) rfl)
theorem mX8_109 : ML RX8 109 yX7_add := Or.inl (tk5 (i := 227) (by decide +kernel) rfl)
theorem mX11_193 : ML RX11 193 yX1_grow := Or.inl (tk5 (i := 231) (by decide +kernel) rfl)
theorem mL_134 : ML RL 134 yL_offset := Or.inl (tk5 (i := 236) (by decide +kernel) rfl)
theorem mL_55 : ML RL 55 yX11_offset := Or.inl (tk5 (i := 239) (by decide +kernel) rfl)
theorem mX11_198 : ML RX11 198 yJ9_min_7cf53 := Or.inl (tk6 (i := 4) (by decide +kernel) rfl)
theorem mL_137 : ML RL 137 yL_dry := Or.inl (tk6 (i := 5) (by decide +kernel) rfl)
theorem mL_58 : ML RL 58 yX11_dry := Or.inl (tk6 (i := 8) (by decide +kernel) rfl)
theorem mX11_212 : ML RX11 212 yX8_takeChop := Or.inl (tk6 (i := 13) (by decide +kernel) rfl)
theorem mL_140 : ML RL 140 yL_pass := Or.inl (tk6 (i := 14) (by decide +kernel) rfl)
theorem mL_61 : ML RL 61 yX11_pass := Or.inl (tk6 (i := 17) (by decide +kernel) rfl)
theorem mX11_217 : ML RX11 217 yX0_goOn := Or.inl (tk6 (i := 22) (by decide +kernel) rfl)
theorem mX0_32 : ML RX0 32 yX8_loseWeight := Or.inl (tk6 (i := 26) (by decide +kernel) rfl)
theorem mX0_37 : ML RX0 37 yX0_followOrders := Or.inl (tk6 (i := 30) (by decide +kernel) rfl)
theorem mX0_57 : ML RX0 57 yX0_wouldCarryOut := Or.inl (tk6 (i := 34) (by decide +kernel) rfl)
theorem mX0_61 : ML RX0 61 yX0_carryOut := Or.inl (tk6 (i := 35) (by decide +kernel) rfl)
theorem mX0_106 : ML RX0 106 yX0_weigh := Or.inl (tk6 (i := 39) (by decide +kernel) rfl)
theorem mX0_120 : ML RX0 120 yX7_add := Or.inl (tk6 (i := 43) (by decide +kernel) rfl)
theorem mX0_141 : ML RX0 141 yX8_setChop := Or.inl (tk6 (i := 44) (by decide +kernel) rfl)
theorem mX0_110 : ML RX0 110 yX0_sell := Or.inl (tk6 (i := 48) (by decide +kernel) rfl)
theorem mX0_167 : ML RX0 167 yX8_moveCoins := Or.inl (tk6 (i := 52) (by decide +kernel) rfl)
theorem mX0_170 : ML RX0 170 yX1_grow := Or.inl (tk6 (i := 53) (by decide +kernel) rfl)
theorem mX0_173 : ML RX0 173 yX7_set := Or.inl (tk6 (i := 54) (by decide +kernel) rfl)
theorem mX0_114 : ML RX0 114 yX0_payBack := Or.inl (tk6 (i := 55) (by decide +kernel) rfl)
theorem mX0_49 : ML RX0 49 yX1_growAll := Or.inl (tk6 (i := 59) (by decide +kernel) rfl)
theorem mL_143 : ML RL 143 yL_foresee := Or.inl (tk6 (i := 63) (by decide +kernel) rfl)
theorem mL_64 : ML RL 64 yX11_foresee := Or.inl (tk6 (i := 66) (by decide +kernel) rfl)
theorem mX11_222 : ML RX11 222 yX8_copyFrom := Or.inl (tk6 (i := 71) (by decide +kernel) rfl)
theorem mX8_96 : ML RX8 96 yX7_copyFrom := Or.inl (tk6 (i := 75) (by decide +kernel) rfl)
theorem mX8_100 : ML RX8 100 yX1_copyFrom := Or.inl (tk6 (i := 76) (by decide +kernel) rfl)
theorem mX1_26 : ML RX1 26 yX7_copyFrom := Or.inl (tk6 (i := 80) (by decide +kernel) rfl)
theorem mL_146 : ML RL 146 yL_costs := Or.inl (tk6 (i := 81) (by decide +kernel) rfl)
theorem mL_67 : ML RL 67 yX11_costs := Or.inl (tk6 (i := 84) (by decide +kernel) rfl)
theorem mX11_230 : ML RX11 230 yX8_loseWeight := Or.inl (tk6 (i := 89) (by decide +kernel) rfl)
theorem mL_149 : ML RL 149 yL_richest := Or.inl (tk6 (i := 90) (by decide +kernel) rfl)
theorem mL_70 : ML RL 70 yX11_richest := Or.inl (tk6 (i := 93) (by decide +kernel) rfl)
theorem mX11_241 : ML RX11 241 yX8_wealthOf := Or.inl (tk6 (i := 98) (by decide +kernel) rfl)
theorem mL_152 : ML RL 152 yL_until := Or.inl (tk6 (i := 102) (by decide +kernel) rfl)
theorem mL_73 : ML RL 73 yX11_until := Or.inl (tk6 (i := 105) (by decide +kernel) rfl)
theorem mX11_244 : ML RX11 244 yX8_isOverCredit := Or.inl (tk6 (i := 109) (by decide +kernel) rfl)
theorem nL_77 : FN RL 77 13 12 [0, 2, 0, 0, 0, 0, 2, 2, 2, 2, 0, 2] := ⟨RX14, TX14, tyX14, rfl, in_X14, tyX14_ok, tk6 (i := 113) (by decide +kernel) rfl, tk6 (i := 114) (by decide +kernel) rfl, tk1 (i := 12) (by decide +kernel) rfl, fun j hj b => by rcases j with _ | j; rfl; skip; all_goals (repeat (first | (exact absurd hj (by omega)) | (rcases j with _ | j; rfl; skip)))⟩
theorem mL_79 : ML RL 79 yX14_init := Or.inl (tk6 (i := 115) (by decide +kernel) rfl)
theorem nX14_17 : FN RX14 17 11 26 [2, 2, 2, 2, 0, 2, 2, 0, 2, 2, 2, 0, 2, 2, 2, 0, 2, 2, 2, 2, 0, 2, 2, 2, 2, 2] := ⟨RX12, TX12, tyX12, rfl, in_X12, tyX12_ok, tk6 (i := 119) (by decide +kernel) rfl, tk6 (i := 120) (by decide +kernel) rfl, tk1 (i := 13) (by decide +kernel) rfl, fun j hj b => by rcases j with _ | j; rfl; skip; all_goals (repeat (first | (exact absurd hj (by omega)) | (rcases j with _ | j; rfl; skip)))⟩
theorem mX14_19 : ML RX14 19 yX12_init := Or.inr ⟨RX14, tk6 (i := 121) (by decide +kernel) rfl⟩
theorem fX12_9 : FL RX12 9 11 0 true (.array .int) := ⟨RX12, TX12, 26, tyX12, rfl, by decide, in_X12, tyX12_ok, nmX12, rfl, rfl, rfl, Or.inl (tk6 (i := 125) (by decide +kernel) rfl)⟩
theorem FX12_9 : FLF RX12 9 11 0 (.array .int) := ⟨TX12, 26, tyX12, rfl, by decide, in_X12, tyX12_ok, nmX12, rfl, rfl, rfl, tk6 (i := 125) (by decide +kernel) rfl⟩
theorem fX14_102 : FL RX14 102 11 0 true (.array .int) := ⟨RX12, TX12, 26, tyX12, rfl, by decide, in_X12, tyX12_ok, nmX12, rfl, rfl, rfl, Or.inr ⟨RX14, tk6 (i := 126) (by decide +kernel) rfl⟩⟩
theorem fX12_15 : FL RX12 15 11 1 true (.array .int) := ⟨RX12, TX12, 26, tyX12, rfl, by decide, in_X12, tyX12_ok, nmX12, rfl, rfl, rfl, Or.inl (tk6 (i := 127) (by decide +kernel) rfl)⟩
theorem FX12_15 : FLF RX12 15 11 1 (.array .int) := ⟨TX12, 26, tyX12, rfl, by decide, in_X12, tyX12_ok, nmX12, rfl, rfl, rfl, tk6 (i := 127) (by decide +kernel) rfl⟩
theorem fX14_93 : FL RX14 93 11 1 true (.array .int) := ⟨RX12, TX12, 26, tyX12, rfl, by decide, in_X12, tyX12_ok, nmX12, rfl, rfl, rfl, Or.inr ⟨RX14, tk6 (i := 128) (by decide +kernel) rfl⟩⟩
theorem fX12_18 : FL RX12 18 11 2 true (.array .int) := ⟨RX12, TX12, 26, tyX12, rfl, by decide, in_X12, tyX12_ok, nmX12, rfl, rfl, rfl, Or.inl (tk6 (i := 129) (by decide +kernel) rfl)⟩
theorem FX12_18 : FLF RX12 18 11 2 (.array .int) := ⟨TX12, 26, tyX12, rfl, by decide, in_X12, tyX12_ok, nmX12, rfl, rfl, rfl, tk6 (i := 129) (by decide +kernel) rfl⟩
theorem fX14_96 : FL RX14 96 11 2 true (.array .int) := ⟨RX12, TX12, 26, tyX12, rfl, by decide, in_X12, tyX12_ok, nmX12, rfl, rfl, rfl, Or.inr ⟨RX14, tk6 (i := 130) (by decide +kernel) rfl⟩⟩
theorem fX12_21 : FL RX12 21 11 3 true (.array .int) := ⟨RX12, TX12, 26, tyX12, rfl, by decide, in_X12, tyX12_ok, nmX12, rfl, rfl, rfl, Or.inl (tk6 (i := 131) (by decide +kernel) rfl)⟩
theorem FX12_21 : FLF RX12 21 11 3 (.array .int) := ⟨TX12, 26, tyX12, rfl, by decide, in_X12, tyX12_ok, nmX12, rfl, rfl, rfl, tk6 (i := 131) (by decide +kernel) rfl⟩
theorem fX14_196 : FL RX14 196 11 3 true (.array .int) := ⟨RX12, TX12, 26, tyX12, rfl, by decide, in_X12, tyX12_ok, nmX12, rfl, rfl, rfl, Or.inr ⟨RX14, tk6 (i := 132) (by decide +kernel) rfl⟩⟩
theorem fX14_171 : FL RX14 171 11 4 false .int := ⟨RX12, TX12, 26, tyX12, rfl, by decide, in_X12, tyX12_ok, nmX12, rfl, rfl, rfl, Or.inr ⟨RX14, tk6 (i := 133) (by decide +kernel) rfl⟩⟩
theorem fX12_24 : FL RX12 24 11 5 true (.array .int) := ⟨RX12, TX12, 26, tyX12, rfl, by decide, in_X12, tyX12_ok, nmX12, rfl, rfl, rfl, Or.inl (tk6 (i := 134) (by decide +kernel) rfl)⟩
theorem FX12_24 : FLF RX12 24 11 5 (.array .int) := ⟨TX12, 26, tyX12, rfl, by decide, in_X12, tyX12_ok, nmX12, rfl, rfl, rfl, tk6 (i := 134) (by decide +kernel) rfl⟩
theorem fX14_159 : FL RX14 159 11 5 true (.array .int) := ⟨RX12, TX12, 26, tyX12, rfl, by decide, in_X12, tyX12_ok, nmX12, rfl, rfl, rfl, Or.inr ⟨RX14, tk6 (i := 135) (by decide +kernel) rfl⟩⟩
theorem fX12_27 : FL RX12 27 11 6 true (.array .int) := ⟨RX12, TX12, 26, tyX12, rfl, by decide, in_X12, tyX12_ok, nmX12, rfl, rfl, rfl, Or.inl (tk6 (i := 136) (by decide +kernel) rfl)⟩
theorem FX12_27 : FLF RX12 27 11 6 (.array .int) := ⟨TX12, 26, tyX12, rfl, by decide, in_X12, tyX12_ok, nmX12, rfl, rfl, rfl, tk6 (i := 136) (by decide +kernel) rfl⟩
theorem fX14_217 : FL RX14 217 11 6 true (.array .int) := ⟨RX12, TX12, 26, tyX12, rfl, by decide, in_X12, tyX12_ok, nmX12, rfl, rfl, rfl, Or.inr ⟨RX14, tk6 (i := 137) (by decide +kernel) rfl⟩⟩
theorem fX14_174 : FL RX14 174 11 7 false .int := ⟨RX12, TX12, 26, tyX12, rfl, by decide, in_X12, tyX12_ok, nmX12, rfl, rfl, rfl, Or.inr ⟨RX14, tk6 (i := 138) (by decide +kernel) rfl⟩⟩
theorem fX12_30 : FL RX12 30 11 8 true (.array .int) := ⟨RX12, TX12, 26, tyX12, rfl, by decide, in_X12, tyX12_ok, nmX12, rfl, rfl, rfl, Or.inl (tk6 (i := 139) (by decide +kernel) rfl)⟩
theorem FX12_30 : FLF RX12 30 11 8 (.array .int) := ⟨TX12, 26, tyX12, rfl, by decide, in_X12, tyX12_ok, nmX12, rfl, rfl, rfl, tk6 (i := 139) (by decide +kernel) rfl⟩
theorem fX14_162 : FL RX14 162 11 8 true (.array .int) := ⟨RX12, TX12, 26, tyX12, rfl, by decide, in_X12, tyX12_ok, nmX12, rfl, rfl, rfl, Or.inr ⟨RX14, tk6 (i := 140) (by decide +kernel) rfl⟩⟩
theorem fX12_33 : FL RX12 33 11 9 true (.array .int) := ⟨RX12, TX12, 26, tyX12, rfl, by decide, in_X12, tyX12_ok, nmX12, rfl, rfl, rfl, Or.inl (tk6 (i := 141) (by decide +kernel) rfl)⟩
theorem FX12_33 : FLF RX12 33 11 9 (.array .int) := ⟨TX12, 26, tyX12, rfl, by decide, in_X12, tyX12_ok, nmX12, rfl, rfl, rfl, tk6 (i := 141) (by decide +kernel) rfl⟩
theorem fX14_224 : FL RX14 224 11 9 true (.array .int) := ⟨RX12, TX12, 26, tyX12, rfl, by decide, in_X12, tyX12_ok, nmX12, rfl, rfl, rfl, Or.inr ⟨RX14, tk6 (i := 142) (by decide +kernel) rfl⟩⟩
theorem fX12_36 : FL RX12 36 11 10 true (.array .int) := ⟨RX12, TX12, 26, tyX12, rfl, by decide, in_X12, tyX12_ok, nmX12, rfl, rfl, rfl, Or.inl (tk6 (i := 143) (by decide +kernel) rfl)⟩
theorem FX12_36 : FLF RX12 36 11 10 (.array .int) := ⟨TX12, 26, tyX12, rfl, by decide, in_X12, tyX12_ok, nmX12, rfl, rfl, rfl, tk6 (i := 143) (by decide +kernel) rfl⟩
theorem fX14_227 : FL RX14 227 11 10 true (.array .int) := ⟨RX12, TX12, 26, tyX12, rfl, by decide, in_X12, tyX12_ok, nmX12, rfl, rfl, rfl, Or.inr ⟨RX14, tk6 (i := 144) (by decide +kernel) rfl⟩⟩
theorem fX14_43 : FL RX14 43 11 11 false .int := ⟨RX12, TX12, 26, tyX12, rfl, by decide, in_X12, tyX12_ok, nmX12, rfl, rfl, rfl, Or.inr ⟨RX14, tk6 (i := 145) (by decide +kernel) rfl⟩⟩
theorem fX12_39 : FL RX12 39 11 12 true (.array .int) := ⟨RX12, TX12, 26, tyX12, rfl, by decide, in_X12, tyX12_ok, nmX12, rfl, rfl, rfl, Or.inl (tk6 (i := 146) (by decide +kernel) rfl)⟩
theorem FX12_39 : FLF RX12 39 11 12 (.array .int) := ⟨TX12, 26, tyX12, rfl, by decide, in_X12, tyX12_ok, nmX12, rfl, rfl, rfl, tk6 (i := 146) (by decide +kernel) rfl⟩
theorem fX14_165 : FL RX14 165 11 12 true (.array .int) := ⟨RX12, TX12, 26, tyX12, rfl, by decide, in_X12, tyX12_ok, nmX12, rfl, rfl, rfl, Or.inr ⟨RX14, tk6 (i := 147) (by decide +kernel) rfl⟩⟩
theorem fX12_42 : FL RX12 42 11 13 true (.array .int) := ⟨RX12, TX12, 26, tyX12, rfl, by decide, in_X12, tyX12_ok, nmX12, rfl, rfl, rfl, Or.inl (tk6 (i := 148) (by decide +kernel) rfl)⟩
theorem FX12_42 : FLF RX12 42 11 13 (.array .int) := ⟨TX12, 26, tyX12, rfl, by decide, in_X12, tyX12_ok, nmX12, rfl, rfl, rfl, tk6 (i := 148) (by decide +kernel) rfl⟩
theorem fX14_230 : FL RX14 230 11 13 true (.array .int) := ⟨RX12, TX12, 26, tyX12, rfl, by decide, in_X12, tyX12_ok, nmX12, rfl, rfl, rfl, Or.inr ⟨RX14, tk6 (i := 149) (by decide +kernel) rfl⟩⟩
theorem fX12_45 : FL RX12 45 11 14 true (.array .int) := ⟨RX12, TX12, 26, tyX12, rfl, by decide, in_X12, tyX12_ok, nmX12, rfl, rfl, rfl, Or.inl (tk6 (i := 150) (by decide +kernel) rfl)⟩
theorem FX12_45 : FLF RX12 45 11 14 (.array .int) := ⟨TX12, 26, tyX12, rfl, by decide, in_X12, tyX12_ok, nmX12, rfl, rfl, rfl, tk6 (i := 150) (by decide +kernel) rfl⟩
theorem fX14_233 : FL RX14 233 11 14 true (.array .int) := ⟨RX12, TX12, 26, tyX12, rfl, by decide, in_X12, tyX12_ok, nmX12, rfl, rfl, rfl, Or.inr ⟨RX14, tk6 (i := 151) (by decide +kernel) rfl⟩⟩
theorem fX14_54 : FL RX14 54 11 15 false .int := ⟨RX12, TX12, 26, tyX12, rfl, by decide, in_X12, tyX12_ok, nmX12, rfl, rfl, rfl, Or.inr ⟨RX14, tk6 (i := 152) (by decide +kernel) rfl⟩⟩
theorem fX12_48 : FL RX12 48 11 16 true (.array .int) := ⟨RX12, TX12, 26, tyX12, rfl, by decide, in_X12, tyX12_ok, nmX12, rfl, rfl, rfl, Or.inl (tk6 (i := 153) (by decide +kernel) rfl)⟩
theorem FX12_48 : FLF RX12 48 11 16 (.array .int) := ⟨TX12, 26, tyX12, rfl, by decide, in_X12, tyX12_ok, nmX12, rfl, rfl, rfl, tk6 (i := 153) (by decide +kernel) rfl⟩
theorem fX14_168 : FL RX14 168 11 16 true (.array .int) := ⟨RX12, TX12, 26, tyX12, rfl, by decide, in_X12, tyX12_ok, nmX12, rfl, rfl, rfl, Or.inr ⟨RX14, tk6 (i := 154) (by decide +kernel) rfl⟩⟩
theorem fX12_51 : FL RX12 51 11 17 true (.array .int) := ⟨RX12, TX12, 26, tyX12, rfl, by decide, in_X12, tyX12_ok, nmX12, rfl, rfl, rfl, Or.inl (tk6 (i := 155) (by decide +kernel) rfl)⟩
theorem FX12_51 : FLF RX12 51 11 17 (.array .int) := ⟨TX12, 26, tyX12, rfl, by decide, in_X12, tyX12_ok, nmX12, rfl, rfl, rfl, tk6 (i := 155) (by decide +kernel) rfl⟩
theorem fX14_199 : FL RX14 199 11 17 true (.array .int) := ⟨RX12, TX12, 26, tyX12, rfl, by decide, in_X12, tyX12_ok, nmX12, rfl, rfl, rfl, Or.inr ⟨RX14, tk6 (i := 156) (by decide +kernel) rfl⟩⟩
theorem fX12_54 : FL RX12 54 11 18 true (.array .int) := ⟨RX12, TX12, 26, tyX12, rfl, by decide, in_X12, tyX12_ok, nmX12, rfl, rfl, rfl, Or.inl (tk6 (i := 157) (by decide +kernel) rfl)⟩
theorem FX12_54 : FLF RX12 54 11 18 (.array .int) := ⟨TX12, 26, tyX12, rfl, by decide, in_X12, tyX12_ok, nmX12, rfl, rfl, rfl, tk6 (i := 157) (by decide +kernel) rfl⟩
theorem fX14_236 : FL RX14 236 11 18 true (.array .int) := ⟨RX12, TX12, 26, tyX12, rfl, by decide, in_X12, tyX12_ok, nmX12, rfl, rfl, rfl, Or.inr ⟨RX14, tk6 (i := 158) (by decide +kernel) rfl⟩⟩
theorem fX12_57 : FL RX12 57 11 19 true (.array .int) := ⟨RX12, TX12, 26, tyX12, rfl, by decide, in_X12, tyX12_ok, nmX12, rfl, rfl, rfl, Or.inl (tk6 (i := 159) (by decide +kernel) rfl)⟩
theorem FX12_57 : FLF RX12 57 11 19 (.array .int) := ⟨TX12, 26, tyX12, rfl, by decide, in_X12, tyX12_ok, nmX12, rfl, rfl, rfl, tk6 (i := 159) (by decide +kernel) rfl⟩
theorem fX14_202 : FL RX14 202 11 19 true (.array .int) := ⟨RX12, TX12, 26, tyX12, rfl, by decide, in_X12, tyX12_ok, nmX12, rfl, rfl, rfl, Or.inr ⟨RX14, tk6 (i := 160) (by decide +kernel) rfl⟩⟩
theorem fX14_208 : FL RX14 208 11 20 false .int := ⟨RX12, TX12, 26, tyX12, rfl, by decide, in_X12, tyX12_ok, nmX12, rfl, rfl, rfl, Or.inr ⟨RX14, tk6 (i := 161) (by decide +kernel) rfl⟩⟩
theorem fX12_60 : FL RX12 60 11 21 true (.array .int) := ⟨RX12, TX12, 26, tyX12, rfl, by decide, in_X12, tyX12_ok, nmX12, rfl, rfl, rfl, Or.inl (tk6 (i := 162) (by decide +kernel) rfl)⟩
theorem FX12_60 : FLF RX12 60 11 21 (.array .int) := ⟨TX12, 26, tyX12, rfl, by decide, in_X12, tyX12_ok, nmX12, rfl, rfl, rfl, tk6 (i := 162) (by decide +kernel) rfl⟩
theorem fX14_239 : FL RX14 239 11 21 true (.array .int) := ⟨RX12, TX12, 26, tyX12, rfl, by decide, in_X12, tyX12_ok, nmX12, rfl, rfl, rfl, Or.inr ⟨RX14, tk6 (i := 163) (by decide +kernel) rfl⟩⟩
theorem fX12_63 : FL RX12 63 11 22 true (.array .int) := ⟨RX12, TX12, 26, tyX12, rfl, by decide, in_X12, tyX12_ok, nmX12, rfl, rfl, rfl, Or.inl (tk6 (i := 164) (by decide +kernel) rfl)⟩
theorem FX12_63 : FLF RX12 63 11 22 (.array .int) := ⟨TX12, 26, tyX12, rfl, by decide, in_X12, tyX12_ok, nmX12, rfl, rfl, rfl, tk6 (i := 164) (by decide +kernel) rfl⟩
theorem fX14_205 : FL RX14 205 11 22 true (.array .int) := ⟨RX12, TX12, 26, tyX12, rfl, by decide, in_X12, tyX12_ok, nmX12, rfl, rfl, rfl, Or.inr ⟨RX14, tk6 (i := 165) (by decide +kernel) rfl⟩⟩
theorem fX12_66 : FL RX12 66 11 23 true (.array .int) := ⟨RX12, TX12, 26, tyX12, rfl, by decide, in_X12, tyX12_ok, nmX12, rfl, rfl, rfl, Or.inl (tk6 (i := 166) (by decide +kernel) rfl)⟩
theorem FX12_66 : FLF RX12 66 11 23 (.array .int) := ⟨TX12, 26, tyX12, rfl, by decide, in_X12, tyX12_ok, nmX12, rfl, rfl, rfl, tk6 (i := 166) (by decide +kernel) rfl⟩
theorem fX14_211 : FL RX14 211 11 23 true (.array .int) := ⟨RX12, TX12, 26, tyX12, rfl, by decide, in_X12, tyX12_ok, nmX12, rfl, rfl, rfl, Or.inr ⟨RX14, tk6 (i := 167) (by decide +kernel) rfl⟩⟩
theorem fX12_69 : FL RX12 69 11 24 true (.array .int) := ⟨RX12, TX12, 26, tyX12, rfl, by decide, in_X12, tyX12_ok, nmX12, rfl, rfl, rfl, Or.inl (tk6 (i := 168) (by decide +kernel) rfl)⟩
theorem FX12_69 : FLF RX12 69 11 24 (.array .int) := ⟨TX12, 26, tyX12, rfl, by decide, in_X12, tyX12_ok, nmX12, rfl, rfl, rfl, tk6 (i := 168) (by decide +kernel) rfl⟩
theorem fX14_242 : FL RX14 242 11 24 true (.array .int) := ⟨RX12, TX12, 26, tyX12, rfl, by decide, in_X12, tyX12_ok, nmX12, rfl, rfl, rfl, Or.inr ⟨RX14, tk6 (i := 169) (by decide +kernel) rfl⟩⟩
theorem fX12_72 : FL RX12 72 11 25 true (.array .int) := ⟨RX12, TX12, 26, tyX12, rfl, by decide, in_X12, tyX12_ok, nmX12, rfl, rfl, rfl, Or.inl (tk6 (i := 170) (by decide +kernel) rfl)⟩
theorem FX12_72 : FLF RX12 72 11 25 (.array .int) := ⟨TX12, 26, tyX12, rfl, by decide, in_X12, tyX12_ok, nmX12, rfl, rfl, rfl, tk6 (i := 170) (by decide +kernel) rfl⟩
theorem fX14_245 : FL RX14 245 11 25 true (.array .int) := ⟨RX12, TX12, 26, tyX12, rfl, by decide, in_X12, tyX12_ok, nmX12, rfl, rfl, rfl, Or.inr ⟨RX14, tk6 (i := 171) (by decide +kernel) rfl⟩⟩
theorem nX14_24 : FN RX14 24 12 14 [0, 0, 0, 0, 0, 2, 2, 2, 2, 2, 2, 2, 2, 2] := ⟨RX13, TX13, tyX13, rfl, in_X13, tyX13_ok, tk6 (i := 225) (by decide +kernel) rfl, tk6 (i := 226) (by decide +kernel) rfl, tk1 (i := 14) (by decide +kernel) rfl, fun j hj b => by rcases j with _ | j; rfl; skip; all_goals (repeat (first | (exact absurd hj (by omega)) | (rcases j with _ | j; rfl; skip)))⟩
theorem mX14_26 : ML RX14 26 yX13_init := Or.inr ⟨RX14, tk6 (i := 227) (by decide +kernel) rfl⟩
theorem fX13_49 : FL RX13 49 12 0 false .int := ⟨RX13, TX13, 14, tyX13, rfl, by decide, in_X13, tyX13_ok, nmX13, rfl, rfl, rfl, Or.inl (tk6 (i := 231) (by decide +kernel) rfl)⟩
theorem fX14_308 : FL RX14 308 12 0 false .int := ⟨RX13, TX13, 14, tyX13, rfl, by decide, in_X13, tyX13_ok, nmX13, rfl, rfl, rfl, Or.inr ⟨RX14, tk6 (i := 232) (by decide +kernel) rfl⟩⟩
theorem fX13_9 : FL RX13 9 12 1 false .int := ⟨RX13, TX13, 14, tyX13, rfl, by decide, in_X13, tyX13_ok, nmX13, rfl, rfl, rfl, Or.inl (tk6 (i := 233) (by decide +kernel) rfl)⟩
theorem fX14_311 : FL RX14 311 12 1 false .int := ⟨RX13, TX13, 14, tyX13, rfl, by decide, in_X13, tyX13_ok, nmX13, rfl, rfl, rfl, Or.inr ⟨RX14, tk6 (i := 234) (by decide +kernel) rfl⟩⟩
theorem fX13_52 : FL RX13 52 12 2 false .int := ⟨RX13, TX13, 14, tyX13, rfl, by decide, in_X13, tyX13_ok, nmX13, rfl, rfl, rfl, Or.inl (tk6 (i := 235) (by decide +kernel) rfl)⟩
theorem fX14_359 : FL RX14 359 12 2 false .int := ⟨RX13, TX13, 14, tyX13, rfl, by decide, in_X13, tyX13_ok, nmX13, rfl, rfl, rfl, Or.inr ⟨RX14, tk6 (i := 236) (by decide +kernel) rfl⟩⟩
theorem fX13_55 : FL RX13 55 12 3 false .int := ⟨RX13, TX13, 14, tyX13, rfl, by decide, in_X13, tyX13_ok, nmX13, rfl, rfl, rfl, Or.inl (tk6 (i := 237) (by decide +kernel) rfl)⟩
theorem fX14_354 : FL RX14 354 12 3 false .int := ⟨RX13, TX13, 14, tyX13, rfl, by decide, in_X13, tyX13_ok, nmX13, rfl, rfl, rfl, Or.inr ⟨RX14, tk6 (i := 238) (by decide +kernel) rfl⟩⟩
theorem fX13_58 : FL RX13 58 12 4 false .int := ⟨RX13, TX13, 14, tyX13, rfl, by decide, in_X13, tyX13_ok, nmX13, rfl, rfl, rfl, Or.inl (tk6 (i := 239) (by decide +kernel) rfl)⟩
theorem fX14_362 : FL RX14 362 12 4 false .int := ⟨RX13, TX13, 14, tyX13, rfl, by decide, in_X13, tyX13_ok, nmX13, rfl, rfl, rfl, Or.inr ⟨RX14, tk7 (i := 0) (by decide +kernel) rfl⟩⟩
theorem fX13_15 : FL RX13 15 12 5 true (.array .int) := ⟨RX13, TX13, 14, tyX13, rfl, by decide, in_X13, tyX13_ok, nmX13, rfl, rfl, rfl, Or.inl (tk7 (i := 1) (by decide +kernel) rfl)⟩
theorem FX13_15 : FLF RX13 15 12 5 (.array .int) := ⟨TX13, 14, tyX13, rfl, by decide, in_X13, tyX13_ok, nmX13, rfl, rfl, rfl, tk7 (i := 1) (by decide +kernel) rfl⟩
theorem fX14_292 : FL RX14 292 12 5 true (.array .int) := ⟨RX13, TX13, 14, tyX13, rfl, by decide, in_X13, tyX13_ok, nmX13, rfl, rfl, rfl, Or.inr ⟨RX14, tk7 (i := 2) (by decide +kernel) rfl⟩⟩
theorem fX13_19 : FL RX13 19 12 6 true (.array .int) := ⟨RX13, TX13, 14, tyX13, rfl, by decide, in_X13, tyX13_ok, nmX13, rfl, rfl, rfl, Or.inl (tk7 (i := 3) (by decide +kernel) rfl)⟩
theorem FX13_19 : FLF RX13 19 12 6 (.array .int) := ⟨TX13, 14, tyX13, rfl, by decide, in_X13, tyX13_ok, nmX13, rfl, rfl, rfl, tk7 (i := 3) (by decide +kernel) rfl⟩
theorem fX14_283 : FL RX14 283 12 6 true (.array .int) := ⟨RX13, TX13, 14, tyX13, rfl, by decide, in_X13, tyX13_ok, nmX13, rfl, rfl, rfl, Or.inr ⟨RX14, tk7 (i := 4) (by decide +kernel) rfl⟩⟩
theorem fX13_22 : FL RX13 22 12 7 true (.array .int) := ⟨RX13, TX13, 14, tyX13, rfl, by decide, in_X13, tyX13_ok, nmX13, rfl, rfl, rfl, Or.inl (tk7 (i := 5) (by decide +kernel) rfl)⟩
theorem FX13_22 : FLF RX13 22 12 7 (.array .int) := ⟨TX13, 14, tyX13, rfl, by decide, in_X13, tyX13_ok, nmX13, rfl, rfl, rfl, tk7 (i := 5) (by decide +kernel) rfl⟩
theorem fX14_295 : FL RX14 295 12 7 true (.array .int) := ⟨RX13, TX13, 14, tyX13, rfl, by decide, in_X13, tyX13_ok, nmX13, rfl, rfl, rfl, Or.inr ⟨RX14, tk7 (i := 6) (by decide +kernel) rfl⟩⟩
theorem fX13_25 : FL RX13 25 12 8 true (.array .int) := ⟨RX13, TX13, 14, tyX13, rfl, by decide, in_X13, tyX13_ok, nmX13, rfl, rfl, rfl, Or.inl (tk7 (i := 7) (by decide +kernel) rfl)⟩
theorem FX13_25 : FLF RX13 25 12 8 (.array .int) := ⟨TX13, 14, tyX13, rfl, by decide, in_X13, tyX13_ok, nmX13, rfl, rfl, rfl, tk7 (i := 7) (by decide +kernel) rfl⟩
theorem fX14_298 : FL RX14 298 12 8 true (.array .int) := ⟨RX13, TX13, 14, tyX13, rfl, by decide, in_X13, tyX13_ok, nmX13, rfl, rfl, rfl, Or.inr ⟨RX14, tk7 (i := 8) (by decide +kernel) rfl⟩⟩
theorem fX13_28 : FL RX13 28 12 9 true (.array .int) := ⟨RX13, TX13, 14, tyX13, rfl, by decide, in_X13, tyX13_ok, nmX13, rfl, rfl, rfl, Or.inl (tk7 (i := 9) (by decide +kernel) rfl)⟩
theorem FX13_28 : FLF RX13 28 12 9 (.array .int) := ⟨TX13, 14, tyX13, rfl, by decide, in_X13, tyX13_ok, nmX13, rfl, rfl, rfl, tk7 (i := 9) (by decide +kernel) rfl⟩
theorem fX14_351 : FL RX14 351 12 9 true (.array .int) := ⟨RX13, TX13, 14, tyX13, rfl, by decide, in_X13, tyX13_ok, nmX13, rfl, rfl, rfl, Or.inr ⟨RX14, tk7 (i := 10) (by decide +kernel) rfl⟩⟩
theorem fX13_31 : FL RX13 31 12 10 true (.array .int) := ⟨RX13, TX13, 14, tyX13, rfl, by decide, in_X13, tyX13_ok, nmX13, rfl, rfl, rfl, Or.inl (tk7 (i := 11) (by decide +kernel) rfl)⟩
theorem FX13_31 : FLF RX13 31 12 10 (.array .int) := ⟨TX13, 14, tyX13, rfl, by decide, in_X13, tyX13_ok, nmX13, rfl, rfl, rfl, tk7 (i := 11) (by decide +kernel) rfl⟩
theorem fX14_304 : FL RX14 304 12 10 true (.array .int) := ⟨RX13, TX13, 14, tyX13, rfl, by decide, in_X13, tyX13_ok, nmX13, rfl, rfl, rfl, Or.inr ⟨RX14, tk7 (i := 12) (by decide +kernel) rfl⟩⟩
theorem fX13_34 : FL RX13 34 12 11 true (.array .int) := ⟨RX13, TX13, 14, tyX13, rfl, by decide, in_X13, tyX13_ok, nmX13, rfl, rfl, rfl, Or.inl (tk7 (i := 13) (by decide +kernel) rfl)⟩
theorem FX13_34 : FLF RX13 34 12 11 (.array .int) := ⟨TX13, 14, tyX13, rfl, by decide, in_X13, tyX13_ok, nmX13, rfl, rfl, rfl, tk7 (i := 13) (by decide +kernel) rfl⟩
theorem fX14_357 : FL RX14 357 12 11 true (.array .int) := ⟨RX13, TX13, 14, tyX13, rfl, by decide, in_X13, tyX13_ok, nmX13, rfl, rfl, rfl, Or.inr ⟨RX14, tk7 (i := 14) (by decide +kernel) rfl⟩⟩
theorem fX13_37 : FL RX13 37 12 12 true (.array .int) := ⟨RX13, TX13, 14, tyX13, rfl, by decide, in_X13, tyX13_ok, nmX13, rfl, rfl, rfl, Or.inl (tk7 (i := 15) (by decide +kernel) rfl)⟩
theorem FX13_37 : FLF RX13 37 12 12 (.array .int) := ⟨TX13, 14, tyX13, rfl, by decide, in_X13, tyX13_ok, nmX13, rfl, rfl, rfl, tk7 (i := 15) (by decide +kernel) rfl⟩
theorem fX14_348 : FL RX14 348 12 12 true (.array .int) := ⟨RX13, TX13, 14, tyX13, rfl, by decide, in_X13, tyX13_ok, nmX13, rfl, rfl, rfl, Or.inr ⟨RX14, tk7 (i := 16) (by decide +kernel) rfl⟩⟩
theorem fX13_40 : FL RX13 40 12 13 true (.array .int) := ⟨RX13, TX13, 14, tyX13, rfl, by decide, in_X13, tyX13_ok, nmX13, rfl, rfl, rfl, Or.inl (tk7 (i := 17) (by decide +kernel) rfl)⟩
theorem FX13_40 : FLF RX13 40 12 13 (.array .int) := ⟨TX13, 14, tyX13, rfl, by decide, in_X13, tyX13_ok, nmX13, rfl, rfl, rfl, tk7 (i := 17) (by decide +kernel) rfl⟩
theorem fX14_379 : FL RX14 379 12 13 true (.array .int) := ⟨RX13, TX13, 14, tyX13, rfl, by decide, in_X13, tyX13_ok, nmX13, rfl, rfl, rfl, Or.inr ⟨RX14, tk7 (i := 18) (by decide +kernel) rfl⟩⟩
theorem fX14_40 : FL RX14 40 13 0 false .int := ⟨RX14, TX14, 12, tyX14, rfl, by decide, in_X14, tyX14_ok, nmX14, rfl, rfl, rfl, Or.inl (tk7 (i := 48) (by decide +kernel) rfl)⟩
theorem fX14_9 : FL RX14 9 13 1 true (.array .int) := ⟨RX14, TX14, 12, tyX14, rfl, by decide, in_X14, tyX14_ok, nmX14, rfl, rfl, rfl, Or.inl (tk7 (i := 49) (by decide +kernel) rfl)⟩
theorem FX14_9 : FLF RX14 9 13 1 (.array .int) := ⟨TX14, 12, tyX14, rfl, by decide, in_X14, tyX14_ok, nmX14, rfl, rfl, rfl, tk7 (i := 49) (by decide +kernel) rfl⟩
theorem fX14_57 : FL RX14 57 13 2 false .int := ⟨RX14, TX14, 12, tyX14, rfl, by decide, in_X14, tyX14_ok, nmX14, rfl, rfl, rfl, Or.inl (tk7 (i := 50) (by decide +kernel) rfl)⟩
theorem fX14_13 : FL RX14 13 13 3 false .int := ⟨RX14, TX14, 12, tyX14, rfl, by decide, in_X14, tyX14_ok, nmX14, rfl, rfl, rfl, Or.inl (tk7 (i := 51) (by decide +kernel) rfl)⟩
theorem fX14_108 : FL RX14 108 13 4 false .int := ⟨RX14, TX14, 12, tyX14, rfl, by decide, in_X14, tyX14_ok, nmX14, rfl, rfl, rfl, Or.inl (tk7 (i := 52) (by decide +kernel) rfl)⟩
theorem fX14_111 : FL RX14 111 13 5 false .int := ⟨RX14, TX14, 12, tyX14, rfl, by decide, in_X14, tyX14_ok, nmX14, rfl, rfl, rfl, Or.inl (tk7 (i := 53) (by decide +kernel) rfl)⟩
theorem fX14_20 : FL RX14 20 13 6 false (.object "SpiceQuayModel$Sheet") := ⟨RX14, TX14, 12, tyX14, rfl, by decide, in_X14, tyX14_ok, nmX14, rfl, rfl, rfl, Or.inl (tk7 (i := 54) (by decide +kernel) rfl)⟩
theorem fX14_27 : FL RX14 27 13 7 true (.object "SpiceQuayModel$State") := ⟨RX14, TX14, 12, tyX14, rfl, by decide, in_X14, tyX14_ok, nmX14, rfl, rfl, rfl, Or.inl (tk7 (i := 55) (by decide +kernel) rfl)⟩
theorem FX14_27 : FLF RX14 27 13 7 (.object "SpiceQuayModel$State") := ⟨TX14, 12, tyX14, rfl, by decide, in_X14, tyX14_ok, nmX14, rfl, rfl, rfl, tk7 (i := 55) (by decide +kernel) rfl⟩
theorem fX14_31 : FL RX14 31 13 8 true (.object "SpiceQuayModel$State") := ⟨RX14, TX14, 12, tyX14, rfl, by decide, in_X14, tyX14_ok, nmX14, rfl, rfl, rfl, Or.inl (tk7 (i := 56) (by decide +kernel) rfl)⟩
theorem FX14_31 : FLF RX14 31 13 8 (.object "SpiceQuayModel$State") := ⟨TX14, 12, tyX14, rfl, by decide, in_X14, tyX14_ok, nmX14, rfl, rfl, rfl, tk7 (i := 56) (by decide +kernel) rfl⟩
theorem fX14_34 : FL RX14 34 13 9 true (.array .int) := ⟨RX14, TX14, 12, tyX14, rfl, by decide, in_X14, tyX14_ok, nmX14, rfl, rfl, rfl, Or.inl (tk7 (i := 57) (by decide +kernel) rfl)⟩
theorem FX14_34 : FLF RX14 34 13 9 (.array .int) := ⟨TX14, 12, tyX14, rfl, by decide, in_X14, tyX14_ok, nmX14, rfl, rfl, rfl, tk7 (i := 57) (by decide +kernel) rfl⟩
theorem fX14_267 : FL RX14 267 13 10 false .int := ⟨RX14, TX14, 12, tyX14, rfl, by decide, in_X14, tyX14_ok, nmX14, rfl, rfl, rfl, Or.inl (tk7 (i := 58) (by decide +kernel) rfl)⟩
theorem fX14_37 : FL RX14 37 13 11 false (.object "SpiceQuayModel$State") := ⟨RX14, TX14, 12, tyX14, rfl, by decide, in_X14, tyX14_ok, nmX14, rfl, rfl, rfl, Or.inl (tk7 (i := 59) (by decide +kernel) rfl)⟩
theorem mL_86 : ML RL 86 yX14_thrown := Or.inl (tk7 (i := 85) (by decide +kernel) rfl)
theorem mL_85 : ML RL 85 yX14_feed := Or.inl (tk7 (i := 89) (by decide +kernel) rfl)
theorem mX14_403 : ML RX14 403 yX14_no := Or.inl (tk7 (i := 93) (by decide +kernel) rfl)
theorem mL_93 : ML RL 93 yX14_trim := Or.inl (tk7 (i := 97) (by decide +kernel) rfl)
theorem mX14_46 : ML RX14 46 yX14_isIn := Or.inl (tk7 (i := 101) (by decide +kernel) rfl)
theorem mL_97 : ML RL 97 yX14_teach := Or.inl (tk7 (i := 104) (by decide +kernel) rfl)
theorem mX14_406 : ML RX14 406 yX14_read := Or.inl (tk7 (i := 108) (by decide +kernel) rfl)
theorem mX14_257 : ML RX14 257 yX14_cut := Or.inl (tk7 (i := 112) (by decide +kernel) rfl)
theorem mX14_60 : ML RX14 60 yX14_byteAt := Or.inl (tk7 (i := 116) (by decide +kernel) rfl)
theorem mX14_99 : ML RX14 99 yX14_lengthAt := Or.inl (tk7 (i := 120) (by decide +kernel) rfl)
theorem mX14_64 : ML RX14 64 yX14_isLetter := Or.inl (tk7 (i := 124) (by decide +kernel) rfl)
theorem mX14_67 : ML RX14 67 yX14_isDigit := Or.inl (tk7 (i := 127) (by decide +kernel) rfl)
theorem mX14_105 : ML RX14 105 yX14_kindAt := Or.inl (tk7 (i := 130) (by decide +kernel) rfl)
theorem mX14_70 : ML RX14 70 yX14_wordAt := Or.inl (tk7 (i := 134) (by decide +kernel) rfl)
theorem mX14_85 : ML RX14 85 yJ0_length_8abf5 := Or.inl (tk7 (i := 140) (by decide +kernel) rfl)
theorem mX14_89 : ML RX14 89 yJ0_charAt_5068e := Or.inl (tk7 (i := 141) (by decide +kernel) rfl)
theorem mX14_76 : ML RX14 76 yJ0_indexOf_0f7a4 := Or.inl (tk7 (i := 143) (by decide +kernel) rfl)
theorem mX14_261 : ML RX14 261 yX14_isList := Or.inl (tk7 (i := 144) (by decide +kernel) rfl)
theorem mX14_114 : ML RX14 114 yX14_isLine := Or.inl (tk7 (i := 148) (by decide +kernel) rfl)
theorem mX14_125 : ML RX14 125 yX14_isName := Or.inl (tk7 (i := 152) (by decide +kernel) rfl)
theorem mX14_118 : ML RX14 118 yX14_eat := Or.inl (tk7 (i := 156) (by decide +kernel) rfl)
theorem mX14_128 : ML RX14 128 yX14_isNumber := Or.inl (tk7 (i := 160) (by decide +kernel) rfl)
theorem mX14_131 : ML RX14 131 yX14_mayTest := Or.inl (tk7 (i := 164) (by decide +kernel) rfl)
theorem mX14_122 : ML RX14 122 yX14_isTest := Or.inl (tk7 (i := 168) (by decide +kernel) rfl)
theorem mX14_137 : ML RX14 137 yX14_isBoth := Or.inl (tk7 (i := 172) (by decide +kernel) rfl)
theorem mX14_140 : ML RX14 140 yX14_isSingle := Or.inl (tk7 (i := 176) (by decide +kernel) rfl)
theorem mX14_143 : ML RX14 143 yX14_goDown := Or.inl (tk7 (i := 180) (by decide +kernel) rfl)
theorem mX14_134 : ML RX14 134 yX14_isSum := Or.inl (tk7 (i := 184) (by decide +kernel) rfl)
theorem mX14_150 : ML RX14 150 yX14_isProduct := Or.inl (tk7 (i := 188) (by decide +kernel) rfl)
theorem mX14_153 : ML RX14 153 yX14_isValue := Or.inl (tk7 (i := 192) (by decide +kernel) rfl)
theorem mX14_146 : ML RX14 146 yX14_eatIn := Or.inl (tk7 (i := 196) (by decide +kernel) rfl)
theorem mX14_264 : ML RX14 264 yX14_errorOf := Or.inl (tk7 (i := 200) (by decide +kernel) rfl)
theorem mX14_248 : ML RX14 248 yX14_errorOfName := Or.inl (tk7 (i := 204) (by decide +kernel) rfl)
theorem mX14_189 : ML RX14 189 yX14_errorOfNew := Or.inl (tk7 (i := 208) (by decide +kernel) rfl)
theorem mX14_177 : ML RX14 177 yX14_manyOf := Or.inl (tk7 (i := 212) (by decide +kernel) rfl)
theorem mX14_181 : ML RX14 181 yX14_namesOf := Or.inl (tk7 (i := 216) (by decide +kernel) rfl)
theorem mX14_185 : ML RX14 185 yX14_find := Or.inl (tk7 (i := 220) (by decide +kernel) rfl)
theorem mX14_156 : ML RX14 156 yX14_areSame := Or.inl (tk7 (i := 224) (by decide +kernel) rfl)
theorem mX14_193 : ML RX14 193 yX14_sortOf := Or.inl (tk7 (i := 228) (by decide +kernel) rfl)
theorem mX14_251 : ML RX14 251 yX14_errorOfNumber := Or.inl (tk7 (i := 231) (by decide +kernel) rfl)
theorem mX14_214 : ML RX14 214 yX14_number := Or.inl (tk7 (i := 235) (by decide +kernel) rfl)
theorem mX14_220 : ML RX14 220 yX14_errorOfRange := Or.inl (tk7 (i := 239) (by decide +kernel) rfl)
theorem mX14_254 : ML RX14 254 yX14_errorOfOrder := Or.inl (tk8 (i := 2) (by decide +kernel) rfl)
theorem mX14_416 : ML RX14 416 yX14_fill := Or.inl (tk8 (i := 9) (by decide +kernel) rfl)
theorem mL_101 : ML RL 101 yX14_errorAt := Or.inl (tk8 (i := 12) (by decide +kernel) rfl)
theorem mL_104 : ML RL 104 yX14_count := Or.inl (tk8 (i := 16) (by decide +kernel) rfl)
theorem mX14_420 : ML RX14 420 yX14_counted := Or.inl (tk8 (i := 20) (by decide +kernel) rfl)
theorem mX14_397 : ML RX14 397 yX14_weightOf := Or.inl (tk8 (i := 24) (by decide +kernel) rfl)
theorem mX14_400 : ML RX14 400 yX14_sumOf_ := Or.inl (tk8 (i := 28) (by decide +kernel) rfl)
theorem mL_108 : ML RL 108 yX14_lot := Or.inl (tk8 (i := 31) (by decide +kernel) rfl)
theorem mX14_423 : ML RX14 423 yX14_isLot := Or.inl (tk8 (i := 35) (by decide +kernel) rfl)
theorem mX14_426 : ML RX14 426 yX14_lotTold := Or.inl (tk8 (i := 39) (by decide +kernel) rfl)
theorem mX14_301 : ML RX14 301 yX13_age := Or.inl (tk8 (i := 43) (by decide +kernel) rfl)
theorem mX14_332 : ML RX14 332 yX13_isFresh := Or.inl (tk8 (i := 47) (by decide +kernel) rfl)
theorem mL_111 : ML RL 111 yX14_merchant := Or.inl (tk8 (i := 51) (by decide +kernel) rfl)
theorem mX14_50 : ML RX14 50 yX14_isMerchant := Or.inl (tk8 (i := 55) (by decide +kernel) rfl)
theorem mX14_436 : ML RX14 436 yX14_merchantTold := Or.inl (tk8 (i := 59) (by decide +kernel) rfl)
theorem mX14_305 : ML RX14 305 yX13_debts := Or.inl (tk8 (i := 63) (by decide +kernel) rfl)
theorem mX13_65 : ML RX13 65 yX13_owes := Or.inl (tk8 (i := 67) (by decide +kernel) rfl)
theorem mX14_429 : ML RX14 429 yX13_owed := Or.inl (tk8 (i := 71) (by decide +kernel) rfl)
theorem mX14_432 : ML RX14 432 yX14_lotsOf := Or.inl (tk8 (i := 75) (by decide +kernel) rfl)
theorem mL_114 : ML RL 114 yX14_guild := Or.inl (tk8 (i := 79) (by decide +kernel) rfl)
theorem mX14_439 : ML RX14 439 yX14_guildTold := Or.inl (tk8 (i := 83) (by decide +kernel) rfl)
theorem mL_117 : ML RL 117 yX14_order := Or.inl (tk8 (i := 87) (by decide +kernel) rfl)
theorem mX14_442 : ML RX14 442 yX14_orderTold := Or.inl (tk8 (i := 91) (by decide +kernel) rfl)
theorem mX14_365 : ML RX14 365 yX14_can := Or.inl (tk8 (i := 95) (by decide +kernel) rfl)
theorem mX14_338 : ML RX14 338 yX14_holds := Or.inl (tk8 (i := 99) (by decide +kernel) rfl)
theorem mX14_280 : ML RX14 280 yX14_test := Or.inl (tk8 (i := 103) (by decide +kernel) rfl)
theorem mX14_270 : ML RX14 270 yX14_both := Or.inl (tk8 (i := 107) (by decide +kernel) rfl)
theorem mX14_277 : ML RX14 277 yX14_single := Or.inl (tk8 (i := 111) (by decide +kernel) rfl)
theorem mX14_274 : ML RX14 274 yX14_goesBy := Or.inl (tk8 (i := 115) (by decide +kernel) rfl)
theorem mX14_284 : ML RX14 284 yX14_sum := Or.inl (tk8 (i := 119) (by decide +kernel) rfl)
theorem mX14_286 : ML RX14 286 yX14_product := Or.inl (tk8 (i := 123) (by decide +kernel) rfl)
theorem mX14_289 : ML RX14 289 yX14_value := Or.inl (tk8 (i := 127) (by decide +kernel) rfl)
theorem mX14_314 : ML RX14 314 yX14_ofOne := Or.inl (tk8 (i := 131) (by decide +kernel) rfl)
theorem mX14_317 : ML RX14 317 yX13_owes := Or.inl (tk8 (i := 135) (by decide +kernel) rfl)
theorem mX14_320 : ML RX14 320 yJ9_min_7cf53 := Or.inl (tk8 (i := 136) (by decide +kernel) rfl)
theorem mX14_325 : ML RX14 325 yJ9_max_7cf53 := Or.inl (tk8 (i := 137) (by decide +kernel) rfl)
theorem mX14_342 : ML RX14 342 yX14_canSell := Or.inl (tk8 (i := 138) (by decide +kernel) rfl)
theorem mX14_335 : ML RX14 335 yX14_priceOf := Or.inl (tk8 (i := 142) (by decide +kernel) rfl)
theorem mX14_328 : ML RX14 328 yX14_sumOf := Or.inl (tk8 (i := 146) (by decide +kernel) rfl)
theorem mX14_345 : ML RX14 345 yX14_payOf := Or.inl (tk8 (i := 150) (by decide +kernel) rfl)
theorem mL_120 : ML RL 120 yX14_owes := Or.inl (tk8 (i := 154) (by decide +kernel) rfl)
theorem mX14_445 : ML RX14 445 yX14_areMerchants := Or.inl (tk8 (i := 158) (by decide +kernel) rfl)
theorem mL_123 : ML RL 123 yX14_chain := Or.inl (tk8 (i := 162) (by decide +kernel) rfl)
theorem mL_126 : ML RL 126 yX14_ring := Or.inl (tk8 (i := 166) (by decide +kernel) rfl)
theorem mL_129 : ML RL 129 yX14_setDamp := Or.inl (tk8 (i := 171) (by decide +kernel) rfl)
theorem mL_133 : ML RL 133 yX14_lend := Or.inl (tk8 (i := 175) (by decide +kernel) rfl)
theorem mL_136 : ML RL 136 yX14_offset := Or.inl (tk8 (i := 179) (by decide +kernel) rfl)
theorem mL_139 : ML RL 139 yX14_dry := Or.inl (tk8 (i := 183) (by decide +kernel) rfl)
theorem mL_142 : ML RL 142 yX14_pass := Or.inl (tk8 (i := 187) (by decide +kernel) rfl)
theorem mX14_452 : ML RX14 452 yX14_daysOn := Or.inl (tk8 (i := 191) (by decide +kernel) rfl)
theorem mX14_393 : ML RX14 393 yX14_dayOn := Or.inl (tk8 (i := 195) (by decide +kernel) rfl)
theorem mX14_385 : ML RX14 385 yX14_lose := Or.inl (tk8 (i := 199) (by decide +kernel) rfl)
theorem mX14_382 : ML RX14 382 yX14_lossOf := Or.inl (tk8 (i := 203) (by decide +kernel) rfl)
theorem mX14_389 : ML RX14 389 yX14_carry := Or.inl (tk8 (i := 207) (by decide +kernel) rfl)
theorem mX14_368 : ML RX14 368 yX14_weigh := Or.inl (tk8 (i := 211) (by decide +kernel) rfl)
theorem mX14_372 : ML RX14 372 yX14_sell := Or.inl (tk8 (i := 215) (by decide +kernel) rfl)
theorem mX14_376 : ML RX14 376 yX14_pay := Or.inl (tk8 (i := 219) (by decide +kernel) rfl)
theorem mL_145 : ML RL 145 yX14_foresee := Or.inl (tk8 (i := 224) (by decide +kernel) rfl)
theorem mX14_455 : ML RX14 455 yX13_become := Or.inl (tk8 (i := 228) (by decide +kernel) rfl)
theorem mX13_61 : ML RX13 61 yX13_copy := Or.inl (tk8 (i := 232) (by decide +kernel) rfl)
theorem mL_148 : ML RL 148 yX14_costs := Or.inl (tk8 (i := 237) (by decide +kernel) rfl)
theorem mL_151 : ML RL 151 yX14_richest := Or.inl (tk9 (i := 1) (by decide +kernel) rfl)
theorem mX14_458 : ML RX14 458 yX14_wealth := Or.inl (tk9 (i := 5) (by decide +kernel) rfl)
theorem mL_154 : ML RL 154 yX14_until := Or.inl (tk9 (i := 8) (by decide +kernel) rfl)
theorem mL_159 : ML RL 159 yX14_mean := Or.inl (tk9 (i := 12) (by decide +kernel) rfl)
theorem mL_164 : ML RL 164 yX14_digest := Or.inl (tk9 (i := 16) (by decide +kernel) rfl)
theorem kX11_init : CAI yX11_init cX11_init 1 none 0 := ⟨tk1 (i := 33) (by decide +kernel) rfl, tk1 (i := 1) (by decide +kernel) rfl, tk1 (i := 32) (by decide +kernel) rfl, rfl, by decide +kernel, by decide +kernel, by decide +kernel⟩
theorem kX7_init : CAI yX7_init cX7_init 2 none 1 := ⟨tk1 (i := 41) (by decide +kernel) rfl, tk1 (i := 2) (by decide +kernel) rfl, tk1 (i := 40) (by decide +kernel) rfl, rfl, by decide +kernel, by decide +kernel, by decide +kernel⟩
theorem kX10_init : CAI yX10_init cX10_init 2 none 1 := ⟨tk1 (i := 52) (by decide +kernel) rfl, tk1 (i := 3) (by decide +kernel) rfl, tk1 (i := 51) (by decide +kernel) rfl, rfl, by decide +kernel, by decide +kernel, by decide +kernel⟩
theorem kX5_init : CAI yX5_init cX5_init 2 none 1 := ⟨tk1 (i := 85) (by decide +kernel) rfl, tk1 (i := 4) (by decide +kernel) rfl, tk1 (i := 84) (by decide +kernel) rfl, rfl, by decide +kernel, by decide +kernel, by decide +kernel⟩
theorem kX4_init : CAI yX4_init cX4_init 1 none 0 := ⟨tk1 (i := 91) (by decide +kernel) rfl, tk1 (i := 5) (by decide +kernel) rfl, tk1 (i := 90) (by decide +kernel) rfl, rfl, by decide +kernel, by decide +kernel, by decide +kernel⟩
theorem kX9_init : CAI yX9_init cX9_init 1 none 0 := ⟨tk1 (i := 99) (by decide +kernel) rfl, tk1 (i := 6) (by decide +kernel) rfl, tk1 (i := 98) (by decide +kernel) rfl, rfl, by decide +kernel, by decide +kernel, by decide +kernel⟩
theorem kX3_init : CAI yX3_init cX3_init 2 none 1 := ⟨tk1 (i := 235) (by decide +kernel) rfl, tk1 (i := 7) (by decide +kernel) rfl, tk1 (i := 234) (by decide +kernel) rfl, rfl, by decide +kernel, by decide +kernel, by decide +kernel⟩
theorem kX8_init : CAI yX8_init cX8_init 2 none 1 := ⟨tk2 (i := 44) (by decide +kernel) rfl, tk1 (i := 8) (by decide +kernel) rfl, tk2 (i := 43) (by decide +kernel) rfl, rfl, by decide +kernel, by decide +kernel, by decide +kernel⟩
theorem kX1_init : CAI yX1_init cX1_init 1 none 0 := ⟨tk2 (i := 52) (by decide +kernel) rfl, tk1 (i := 9) (by decide +kernel) rfl, tk2 (i := 51) (by decide +kernel) rfl, rfl, by decide +kernel, by decide +kernel, by decide +kernel⟩
theorem kX0_init : CAI yX0_init cX0_init 3 none 2 := ⟨tk2 (i := 137) (by decide +kernel) rfl, tk1 (i := 10) (by decide +kernel) rfl, tk2 (i := 136) (by decide +kernel) rfl, rfl, by decide +kernel, by decide +kernel, by decide +kernel⟩
theorem kX6_init : CAI yX6_init cX6_init 3 none 2 := ⟨tk2 (i := 143) (by decide +kernel) rfl, tk1 (i := 11) (by decide +kernel) rfl, tk2 (i := 142) (by decide +kernel) rfl, rfl, by decide +kernel, by decide +kernel, by decide +kernel⟩
theorem kX11_teach : CAV yX11_teach cX11_teach 2 (some .int) 0 := ⟨tk2 (i := 204) (by decide +kernel) rfl, tk1 (i := 1) (by decide +kernel) rfl, tk2 (i := 202) (by decide +kernel) rfl, tk2 (i := 203) (by decide +kernel) rfl, by decide +kernel, by decide +kernel, by decide +kernel⟩
theorem kX10_scan : CAV yX10_scan cX10_scan 4 none 1 := ⟨tk2 (i := 208) (by decide +kernel) rfl, tk1 (i := 3) (by decide +kernel) rfl, tk2 (i := 206) (by decide +kernel) rfl, tk2 (i := 207) (by decide +kernel) rfl, by decide +kernel, by decide +kernel, by decide +kernel⟩
theorem kX10_behindBlanks : CAV yX10_behindBlanks cX10_behindBlanks 3 (some .int) 1 := ⟨tk2 (i := 212) (by decide +kernel) rfl, tk1 (i := 3) (by decide +kernel) rfl, tk2 (i := 211) (by decide +kernel) rfl, tp1 (i := 0) (n := 7) (by decide +kernel), by decide +kernel, by decide +kernel, by decide +kernel⟩
theorem kX7_get : CAV yX7_get cX7_get 2 (some .int) 1 := ⟨tk2 (i := 216) (by decide +kernel) rfl, tk1 (i := 2) (by decide +kernel) rfl, tk2 (i := 214) (by decide +kernel) rfl, tk2 (i := 215) (by decide +kernel) rfl, by decide +kernel, by decide +kernel, by decide +kernel⟩
theorem kX10_reads : CAV yX10_reads cX10_reads 3 (some .boolean) 1 := ⟨tk2 (i := 220) (by decide +kernel) rfl, tk1 (i := 3) (by decide +kernel) rfl, tk2 (i := 219) (by decide +kernel) rfl, tp1 (i := 1) (n := 7) (by decide +kernel), by decide +kernel, by decide +kernel, by decide +kernel⟩
theorem kX10_isLetter : CAS yX10_isLetter cX10_isLetter 1 (some .boolean) 1 := ⟨tk2 (i := 223) (by decide +kernel) rfl, tk1 (i := 3) (by decide +kernel) rfl, tk2 (i := 222) (by decide +kernel) rfl, by decide +kernel, by decide +kernel, by decide +kernel⟩
theorem kX10_readsWord : CAV yX10_readsWord cX10_readsWord 4 (some .boolean) 1 := ⟨tk2 (i := 227) (by decide +kernel) rfl, tk1 (i := 3) (by decide +kernel) rfl, tk2 (i := 226) (by decide +kernel) rfl, tp1 (i := 2) (n := 7) (by decide +kernel), by decide +kernel, by decide +kernel, by decide +kernel⟩
theorem kX10_isDigit : CAS yX10_isDigit cX10_isDigit 1 (some .boolean) 1 := ⟨tk2 (i := 230) (by decide +kernel) rfl, tk1 (i := 3) (by decide +kernel) rfl, tk2 (i := 229) (by decide +kernel) rfl, by decide +kernel, by decide +kernel, by decide +kernel⟩
theorem kX10_keyword : CAV yX10_keyword cX10_keyword 6 (some .int) 2 := ⟨tk2 (i := 234) (by decide +kernel) rfl, tk1 (i := 3) (by decide +kernel) rfl, tk2 (i := 233) (by decide +kernel) rfl, tp1 (i := 3) (n := 7) (by decide +kernel), by decide +kernel, by decide +kernel, by decide +kernel⟩
theorem kX10_spells : CAV yX10_spells cX10_spells 5 (some .boolean) 3 := ⟨tk3 (i := 47) (by decide +kernel) rfl, tk1 (i := 3) (by decide +kernel) rfl, tk3 (i := 46) (by decide +kernel) rfl, tp1 (i := 4) (n := 7) (by decide +kernel), by decide +kernel, by decide +kernel, by decide +kernel⟩
theorem kX10_firstWithName : CAV yX10_firstWithName cX10_firstWithName 4 (some .int) 2 := ⟨tk3 (i := 51) (by decide +kernel) rfl, tk1 (i := 3) (by decide +kernel) rfl, tk3 (i := 50) (by decide +kernel) rfl, tp1 (i := 5) (n := 7) (by decide +kernel), by decide +kernel, by decide +kernel, by decide +kernel⟩
theorem kX10_isSame : CAV yX10_isSame cX10_isSame 5 (some .boolean) 3 := ⟨tk3 (i := 55) (by decide +kernel) rfl, tk1 (i := 3) (by decide +kernel) rfl, tk3 (i := 54) (by decide +kernel) rfl, tp1 (i := 6) (n := 7) (by decide +kernel), by decide +kernel, by decide +kernel, by decide +kernel⟩
theorem kX10_add : CAV yX10_add cX10_add 5 none 4 := ⟨tk3 (i := 59) (by decide +kernel) rfl, tk1 (i := 3) (by decide +kernel) rfl, tk3 (i := 58) (by decide +kernel) rfl, tp1 (i := 7) (n := 7) (by decide +kernel), by decide +kernel, by decide +kernel, by decide +kernel⟩
theorem kX7_set : CAV yX7_set cX7_set 3 none 2 := ⟨tk3 (i := 63) (by decide +kernel) rfl, tk1 (i := 2) (by decide +kernel) rfl, tk3 (i := 61) (by decide +kernel) rfl, tk3 (i := 62) (by decide +kernel) rfl, by decide +kernel, by decide +kernel, by decide +kernel⟩
theorem kX10_readsNumber : CAV yX10_readsNumber cX10_readsNumber 4 (some .boolean) 1 := ⟨tk3 (i := 67) (by decide +kernel) rfl, tk1 (i := 3) (by decide +kernel) rfl, tk3 (i := 66) (by decide +kernel) rfl, tp1 (i := 8) (n := 7) (by decide +kernel), by decide +kernel, by decide +kernel, by decide +kernel⟩
theorem kX10_readsSign : CAV yX10_readsSign cX10_readsSign 5 (some .boolean) 2 := ⟨tk3 (i := 71) (by decide +kernel) rfl, tk1 (i := 3) (by decide +kernel) rfl, tk3 (i := 70) (by decide +kernel) rfl, tp1 (i := 9) (n := 7) (by decide +kernel), by decide +kernel, by decide +kernel, by decide +kernel⟩
theorem kX5_read : CAV yX5_read cX5_read 2 (some .int) 0 := ⟨tk3 (i := 135) (by decide +kernel) rfl, tk1 (i := 4) (by decide +kernel) rfl, tk3 (i := 133) (by decide +kernel) rfl, tk3 (i := 134) (by decide +kernel) rfl, by decide +kernel, by decide +kernel, by decide +kernel⟩
theorem kX5_begin : CAV yX5_begin cX5_begin 1 none 0 := ⟨tk3 (i := 139) (by decide +kernel) rfl, tk1 (i := 4) (by decide +kernel) rfl, tk3 (i := 138) (by decide +kernel) rfl, tp1 (i := 10) (n := 9) (by decide +kernel), by decide +kernel, by decide +kernel, by decide +kernel⟩
theorem kX3_forget : CAV yX3_forget cX3_forget 1 none 0 := ⟨tk3 (i := 143) (by decide +kernel) rfl, tk1 (i := 7) (by decide +kernel) rfl, tk3 (i := 141) (by decide +kernel) rfl, tk3 (i := 142) (by decide +kernel) rfl, by decide +kernel, by decide +kernel, by decide +kernel⟩
theorem kX5_seen : CAV yX5_seen cX5_seen 1 (some .int) 0 := ⟨tk3 (i := 147) (by decide +kernel) rfl, tk1 (i := 4) (by decide +kernel) rfl, tk3 (i := 146) (by decide +kernel) rfl, tp1 (i := 11) (n := 9) (by decide +kernel), by decide +kernel, by decide +kernel, by decide +kernel⟩
theorem kX5_spiceLine : CAV yX5_spiceLine cX5_spiceLine 2 none 0 := ⟨tk3 (i := 152) (by decide +kernel) rfl, tk1 (i := 4) (by decide +kernel) rfl, tk3 (i := 151) (by decide +kernel) rfl, tp1 (i := 12) (n := 9) (by decide +kernel), by decide +kernel, by decide +kernel, by decide +kernel⟩
theorem kX5_take : CAV yX5_take cX5_take 2 none 1 := ⟨tk3 (i := 156) (by decide +kernel) rfl, tk1 (i := 4) (by decide +kernel) rfl, tk3 (i := 155) (by decide +kernel) rfl, tp1 (i := 13) (n := 9) (by decide +kernel), by decide +kernel, by decide +kernel, by decide +kernel⟩
theorem kX5_fail : CAV yX5_fail cX5_fail 1 none 0 := ⟨tk3 (i := 160) (by decide +kernel) rfl, tk1 (i := 4) (by decide +kernel) rfl, tk3 (i := 159) (by decide +kernel) rfl, tp1 (i := 14) (n := 9) (by decide +kernel), by decide +kernel, by decide +kernel, by decide +kernel⟩
theorem kX5_takeNewName : CAV yX5_takeNewName cX5_takeNewName 4 (some .int) 1 := ⟨tk3 (i := 164) (by decide +kernel) rfl, tk1 (i := 4) (by decide +kernel) rfl, tk3 (i := 163) (by decide +kernel) rfl, tp1 (i := 15) (n := 9) (by decide +kernel), by decide +kernel, by decide +kernel, by decide +kernel⟩
theorem kX3_find : CAV yX3_find cX3_find 3 (some .int) 1 := ⟨tk3 (i := 168) (by decide +kernel) rfl, tk1 (i := 7) (by decide +kernel) rfl, tk3 (i := 166) (by decide +kernel) rfl, tk3 (i := 167) (by decide +kernel) rfl, by decide +kernel, by decide +kernel, by decide +kernel⟩
theorem kX5_blame : CAV yX5_blame cX5_blame 3 none 2 := ⟨tk3 (i := 173) (by decide +kernel) rfl, tk1 (i := 4) (by decide +kernel) rfl, tk3 (i := 172) (by decide +kernel) rfl, tp2 (i := 0) (n := 9) (by decide +kernel), by decide +kernel, by decide +kernel, by decide +kernel⟩
theorem kX3_isFull : CAV yX3_isFull cX3_isFull 1 (some .boolean) 0 := ⟨tk3 (i := 177) (by decide +kernel) rfl, tk1 (i := 7) (by decide +kernel) rfl, tk3 (i := 175) (by decide +kernel) rfl, tk3 (i := 176) (by decide +kernel) rfl, by decide +kernel, by decide +kernel, by decide +kernel⟩
theorem kX3_add : CAV yX3_add cX3_add 2 (some .int) 1 := ⟨tk3 (i := 181) (by decide +kernel) rfl, tk1 (i := 7) (by decide +kernel) rfl, tk3 (i := 179) (by decide +kernel) rfl, tk3 (i := 180) (by decide +kernel) rfl, by decide +kernel, by decide +kernel, by decide +kernel⟩
theorem kX5_takeNumber : CAV yX5_takeNumber cX5_takeNumber 5 (some .int) 2 := ⟨tk3 (i := 186) (by decide +kernel) rfl, tk1 (i := 4) (by decide +kernel) rfl, tk3 (i := 185) (by decide +kernel) rfl, tp2 (i := 1) (n := 9) (by decide +kernel), by decide +kernel, by decide +kernel, by decide +kernel⟩
theorem kX5_guildLine : CAV yX5_guildLine cX5_guildLine 2 none 0 := ⟨tk3 (i := 191) (by decide +kernel) rfl, tk1 (i := 4) (by decide +kernel) rfl, tk3 (i := 190) (by decide +kernel) rfl, tp2 (i := 2) (n := 9) (by decide +kernel), by decide +kernel, by decide +kernel, by decide +kernel⟩
theorem kX5_merchantLine : CAV yX5_merchantLine cX5_merchantLine 2 none 0 := ⟨tk3 (i := 195) (by decide +kernel) rfl, tk1 (i := 4) (by decide +kernel) rfl, tk3 (i := 194) (by decide +kernel) rfl, tp2 (i := 3) (n := 9) (by decide +kernel), by decide +kernel, by decide +kernel, by decide +kernel⟩
theorem kX5_lotLine : CAV yX5_lotLine cX5_lotLine 2 none 0 := ⟨tk3 (i := 199) (by decide +kernel) rfl, tk1 (i := 4) (by decide +kernel) rfl, tk3 (i := 198) (by decide +kernel) rfl, tp2 (i := 4) (n := 9) (by decide +kernel), by decide +kernel, by decide +kernel, by decide +kernel⟩
theorem kX5_takeName : CAV yX5_takeName cX5_takeName 4 (some .int) 1 := ⟨tk3 (i := 203) (by decide +kernel) rfl, tk1 (i := 4) (by decide +kernel) rfl, tk3 (i := 202) (by decide +kernel) rfl, tp2 (i := 5) (n := 9) (by decide +kernel), by decide +kernel, by decide +kernel, by decide +kernel⟩
theorem kX5_orderLine : CAV yX5_orderLine cX5_orderLine 3 none 1 := ⟨tk3 (i := 207) (by decide +kernel) rfl, tk1 (i := 4) (by decide +kernel) rfl, tk3 (i := 206) (by decide +kernel) rfl, tp2 (i := 6) (n := 9) (by decide +kernel), by decide +kernel, by decide +kernel, by decide +kernel⟩
theorem kX5_sum : CAV yX5_sum cX5_sum 4 none 1 := ⟨tk3 (i := 211) (by decide +kernel) rfl, tk1 (i := 4) (by decide +kernel) rfl, tk3 (i := 210) (by decide +kernel) rfl, tp2 (i := 7) (n := 9) (by decide +kernel), by decide +kernel, by decide +kernel, by decide +kernel⟩
theorem kX5_product : CAV yX5_product cX5_product 4 none 1 := ⟨tk3 (i := 215) (by decide +kernel) rfl, tk1 (i := 4) (by decide +kernel) rfl, tk3 (i := 214) (by decide +kernel) rfl, tp2 (i := 8) (n := 9) (by decide +kernel), by decide +kernel, by decide +kernel, by decide +kernel⟩
theorem kX5_value : CAV yX5_value cX5_value 4 none 1 := ⟨tk3 (i := 219) (by decide +kernel) rfl, tk1 (i := 4) (by decide +kernel) rfl, tk3 (i := 218) (by decide +kernel) rfl, tp2 (i := 9) (n := 9) (by decide +kernel), by decide +kernel, by decide +kernel, by decide +kernel⟩
theorem kX9_add : CAV yX9_add cX9_add 4 none 3 := ⟨tk3 (i := 224) (by decide +kernel) rfl, tk1 (i := 6) (by decide +kernel) rfl, tk3 (i := 222) (by decide +kernel) rfl, tk3 (i := 223) (by decide +kernel) rfl, by decide +kernel, by decide +kernel, by decide +kernel⟩
theorem kX5_turnedValue : CAV yX5_turnedValue cX5_turnedValue 2 none 1 := ⟨tk3 (i := 229) (by decide +kernel) rfl, tk1 (i := 4) (by decide +kernel) rfl, tk3 (i := 228) (by decide +kernel) rfl, tp2 (i := 10) (n := 9) (by decide +kernel), by decide +kernel, by decide +kernel, by decide +kernel⟩
theorem kX5_goesDeeper : CAV yX5_goesDeeper cX5_goesDeeper 3 (some .boolean) 2 := ⟨tk3 (i := 233) (by decide +kernel) rfl, tk1 (i := 4) (by decide +kernel) rfl, tk3 (i := 232) (by decide +kernel) rfl, tp2 (i := 11) (n := 9) (by decide +kernel), by decide +kernel, by decide +kernel, by decide +kernel⟩
theorem kX5_sumInBrackets : CAV yX5_sumInBrackets cX5_sumInBrackets 2 none 1 := ⟨tk3 (i := 237) (by decide +kernel) rfl, tk1 (i := 4) (by decide +kernel) rfl, tk3 (i := 236) (by decide +kernel) rfl, tp2 (i := 12) (n := 9) (by decide +kernel), by decide +kernel, by decide +kernel, by decide +kernel⟩
theorem kX5_oneOfTwoSums : CAV yX5_oneOfTwoSums cX5_oneOfTwoSums 3 none 2 := ⟨tk4 (i := 1) (by decide +kernel) rfl, tk1 (i := 4) (by decide +kernel) rfl, tk4 (i := 0) (by decide +kernel) rfl, tp2 (i := 13) (n := 9) (by decide +kernel), by decide +kernel, by decide +kernel, by decide +kernel⟩
theorem kX5_test : CAV yX5_test cX5_test 3 none 1 := ⟨tk4 (i := 5) (by decide +kernel) rfl, tk1 (i := 4) (by decide +kernel) rfl, tk4 (i := 4) (by decide +kernel) rfl, tp2 (i := 14) (n := 9) (by decide +kernel), by decide +kernel, by decide +kernel, by decide +kernel⟩
theorem kX5_both : CAV yX5_both cX5_both 3 none 1 := ⟨tk4 (i := 9) (by decide +kernel) rfl, tk1 (i := 4) (by decide +kernel) rfl, tk4 (i := 8) (by decide +kernel) rfl, tp2 (i := 15) (n := 9) (by decide +kernel), by decide +kernel, by decide +kernel, by decide +kernel⟩
theorem kX5_single : CAV yX5_single cX5_single 4 none 1 := ⟨tk4 (i := 13) (by decide +kernel) rfl, tk1 (i := 4) (by decide +kernel) rfl, tk4 (i := 12) (by decide +kernel) rfl, tp3 (i := 0) (n := 9) (by decide +kernel), by decide +kernel, by decide +kernel, by decide +kernel⟩
theorem kX5_turnedTest : CAV yX5_turnedTest cX5_turnedTest 2 none 1 := ⟨tk4 (i := 17) (by decide +kernel) rfl, tk1 (i := 4) (by decide +kernel) rfl, tk4 (i := 16) (by decide +kernel) rfl, tp3 (i := 1) (n := 9) (by decide +kernel), by decide +kernel, by decide +kernel, by decide +kernel⟩
theorem kX5_testInBrackets : CAV yX5_testInBrackets cX5_testInBrackets 2 none 1 := ⟨tk4 (i := 21) (by decide +kernel) rfl, tk1 (i := 4) (by decide +kernel) rfl, tk4 (i := 20) (by decide +kernel) rfl, tp3 (i := 2) (n := 9) (by decide +kernel), by decide +kernel, by decide +kernel, by decide +kernel⟩
theorem kX5_takeComparison : CAV yX5_takeComparison cX5_takeComparison 2 (some .int) 0 := ⟨tk4 (i := 25) (by decide +kernel) rfl, tk1 (i := 4) (by decide +kernel) rfl, tk4 (i := 24) (by decide +kernel) rfl, tp3 (i := 3) (n := 9) (by decide +kernel), by decide +kernel, by decide +kernel, by decide +kernel⟩
theorem kX3_told : CAV yX3_told cX3_told 1 (some .int) 0 := ⟨tk4 (i := 32) (by decide +kernel) rfl, tk1 (i := 7) (by decide +kernel) rfl, tk4 (i := 30) (by decide +kernel) rfl, tk4 (i := 31) (by decide +kernel) rfl, by decide +kernel, by decide +kernel, by decide +kernel⟩
theorem kX5_faultPlace : CAV yX5_faultPlace cX5_faultPlace 1 (some .int) 0 := ⟨tk4 (i := 36) (by decide +kernel) rfl, tk1 (i := 4) (by decide +kernel) rfl, tk4 (i := 34) (by decide +kernel) rfl, tk4 (i := 35) (by decide +kernel) rfl, by decide +kernel, by decide +kernel, by decide +kernel⟩
theorem kX4_copyFrom : CAV yX4_copyFrom cX4_copyFrom 2 none 1 := ⟨tk4 (i := 40) (by decide +kernel) rfl, tk1 (i := 5) (by decide +kernel) rfl, tk4 (i := 38) (by decide +kernel) rfl, tk4 (i := 39) (by decide +kernel) rfl, by decide +kernel, by decide +kernel, by decide +kernel⟩
theorem kX7_copyFrom : CAV yX7_copyFrom cX7_copyFrom 3 none 1 := ⟨tk4 (i := 44) (by decide +kernel) rfl, tk1 (i := 2) (by decide +kernel) rfl, tk4 (i := 42) (by decide +kernel) rfl, tk4 (i := 43) (by decide +kernel) rfl, by decide +kernel, by decide +kernel, by decide +kernel⟩
theorem kX9_copyFrom : CAV yX9_copyFrom cX9_copyFrom 2 none 1 := ⟨tk4 (i := 49) (by decide +kernel) rfl, tk1 (i := 6) (by decide +kernel) rfl, tk4 (i := 47) (by decide +kernel) rfl, tk4 (i := 48) (by decide +kernel) rfl, by decide +kernel, by decide +kernel, by decide +kernel⟩
theorem kX8_begin : CAV yX8_begin cX8_begin 2 none 0 := ⟨tk4 (i := 54) (by decide +kernel) rfl, tk1 (i := 8) (by decide +kernel) rfl, tk4 (i := 52) (by decide +kernel) rfl, tk4 (i := 53) (by decide +kernel) rfl, by decide +kernel, by decide +kernel, by decide +kernel⟩
theorem kX7_fill : CAV yX7_fill cX7_fill 3 none 1 := ⟨tk4 (i := 58) (by decide +kernel) rfl, tk1 (i := 2) (by decide +kernel) rfl, tk4 (i := 56) (by decide +kernel) rfl, tk4 (i := 57) (by decide +kernel) rfl, by decide +kernel, by decide +kernel, by decide +kernel⟩
theorem kX8_takeChop : CAV yX8_takeChop cX8_takeChop 2 none 1 := ⟨tk4 (i := 64) (by decide +kernel) rfl, tk1 (i := 8) (by decide +kernel) rfl, tk4 (i := 62) (by decide +kernel) rfl, tk4 (i := 63) (by decide +kernel) rfl, by decide +kernel, by decide +kernel, by decide +kernel⟩
theorem kX1_forget : CAV yX1_forget cX1_forget 1 none 0 := ⟨tk4 (i := 68) (by decide +kernel) rfl, tk1 (i := 9) (by decide +kernel) rfl, tk4 (i := 66) (by decide +kernel) rfl, tk4 (i := 67) (by decide +kernel) rfl, by decide +kernel, by decide +kernel, by decide +kernel⟩
theorem kX11_errorAt : CAV yX11_errorAt cX11_errorAt 1 (some .int) 0 := ⟨tk4 (i := 74) (by decide +kernel) rfl, tk1 (i := 1) (by decide +kernel) rfl, tk4 (i := 72) (by decide +kernel) rfl, tk4 (i := 73) (by decide +kernel) rfl, by decide +kernel, by decide +kernel, by decide +kernel⟩
theorem kX11_mean : CAV yX11_mean cX11_mean 1 (some .double) 0 := ⟨tk4 (i := 78) (by decide +kernel) rfl, tk1 (i := 1) (by decide +kernel) rfl, tk4 (i := 76) (by decide +kernel) rfl, tk4 (i := 77) (by decide +kernel) rfl, by decide +kernel, by decide +kernel, by decide +kernel⟩
theorem kX8_weightOfAll : CAV yX8_weightOfAll cX8_weightOfAll 1 (some .int) 0 := ⟨tk4 (i := 82) (by decide +kernel) rfl, tk1 (i := 8) (by decide +kernel) rfl, tk4 (i := 80) (by decide +kernel) rfl, tk4 (i := 81) (by decide +kernel) rfl, by decide +kernel, by decide +kernel, by decide +kernel⟩
theorem kX7_sum : CAV yX7_sum cX7_sum 3 (some .int) 0 := ⟨tk4 (i := 86) (by decide +kernel) rfl, tk1 (i := 2) (by decide +kernel) rfl, tk4 (i := 84) (by decide +kernel) rfl, tk4 (i := 85) (by decide +kernel) rfl, by decide +kernel, by decide +kernel, by decide +kernel⟩
theorem kX11_digest : CAV yX11_digest cX11_digest 4 (some .long) 0 := ⟨tk4 (i := 90) (by decide +kernel) rfl, tk1 (i := 1) (by decide +kernel) rfl, tk4 (i := 88) (by decide +kernel) rfl, tk4 (i := 89) (by decide +kernel) rfl, by decide +kernel, by decide +kernel, by decide +kernel⟩
theorem kX11_counted : CAV yX11_counted cX11_counted 2 (some .int) 1 := ⟨tk4 (i := 96) (by decide +kernel) rfl, tk1 (i := 1) (by decide +kernel) rfl, tk4 (i := 95) (by decide +kernel) rfl, tp3 (i := 4) (n := 10) (by decide +kernel), by decide +kernel, by decide +kernel, by decide +kernel⟩
theorem kX8_tellAll : CAV yX8_tellAll cX8_tellAll 2 (some .int) 1 := ⟨tk4 (i := 100) (by decide +kernel) rfl, tk1 (i := 8) (by decide +kernel) rfl, tk4 (i := 98) (by decide +kernel) rfl, tk4 (i := 99) (by decide +kernel) rfl, by decide +kernel, by decide +kernel, by decide +kernel⟩
theorem kX1_sumOfAll : CAV yX1_sumOfAll cX1_sumOfAll 1 (some .int) 0 := ⟨tk4 (i := 105) (by decide +kernel) rfl, tk1 (i := 9) (by decide +kernel) rfl, tk4 (i := 103) (by decide +kernel) rfl, tk4 (i := 104) (by decide +kernel) rfl, by decide +kernel, by decide +kernel, by decide +kernel⟩
theorem kX11_digestOfLots : CAV yX11_digestOfLots cX11_digestOfLots 7 (some .long) 1 := ⟨tk4 (i := 110) (by decide +kernel) rfl, tk1 (i := 1) (by decide +kernel) rfl, tk4 (i := 109) (by decide +kernel) rfl, tp3 (i := 5) (n := 10) (by decide +kernel), by decide +kernel, by decide +kernel, by decide +kernel⟩
theorem kX8_tellLot : CAV yX8_tellLot cX8_tellLot 3 (some .int) 2 := ⟨tk4 (i := 114) (by decide +kernel) rfl, tk1 (i := 8) (by decide +kernel) rfl, tk4 (i := 112) (by decide +kernel) rfl, tk4 (i := 113) (by decide +kernel) rfl, by decide +kernel, by decide +kernel, by decide +kernel⟩
theorem kX8_ageOfChop : CAV yX8_ageOfChop cX8_ageOfChop 2 (some .int) 1 := ⟨tk4 (i := 118) (by decide +kernel) rfl, tk1 (i := 8) (by decide +kernel) rfl, tk4 (i := 116) (by decide +kernel) rfl, tk4 (i := 117) (by decide +kernel) rfl, by decide +kernel, by decide +kernel, by decide +kernel⟩
theorem kX8_canBeSold : CAV yX8_canBeSold cX8_canBeSold 2 (some .boolean) 1 := ⟨tk4 (i := 122) (by decide +kernel) rfl, tk1 (i := 8) (by decide +kernel) rfl, tk4 (i := 120) (by decide +kernel) rfl, tk4 (i := 121) (by decide +kernel) rfl, by decide +kernel, by decide +kernel, by decide +kernel⟩
theorem kX11_digestOfMerchants : CAV yX11_digestOfMerchants cX11_digestOfMerchants 7 (some .long) 1 := ⟨tk4 (i := 126) (by decide +kernel) rfl, tk1 (i := 1) (by decide +kernel) rfl, tk4 (i := 125) (by decide +kernel) rfl, tp3 (i := 6) (n := 10) (by decide +kernel), by decide +kernel, by decide +kernel, by decide +kernel⟩
theorem kX8_tellMerchant : CAV yX8_tellMerchant cX8_tellMerchant 3 (some .int) 2 := ⟨tk4 (i := 130) (by decide +kernel) rfl, tk1 (i := 8) (by decide +kernel) rfl, tk4 (i := 128) (by decide +kernel) rfl, tk4 (i := 129) (by decide +kernel) rfl, by decide +kernel, by decide +kernel, by decide +kernel⟩
theorem kX1_sumOf : CAV yX1_sumOf cX1_sumOf 4 (some .int) 1 := ⟨tk4 (i := 134) (by decide +kernel) rfl, tk1 (i := 9) (by decide +kernel) rfl, tk4 (i := 132) (by decide +kernel) rfl, tk4 (i := 133) (by decide +kernel) rfl, by decide +kernel, by decide +kernel, by decide +kernel⟩
theorem kX1_sumOwedTo : CAV yX1_sumOwedTo cX1_sumOwedTo 4 (some .int) 1 := ⟨tk4 (i := 139) (by decide +kernel) rfl, tk1 (i := 9) (by decide +kernel) rfl, tk4 (i := 137) (by decide +kernel) rfl, tk4 (i := 138) (by decide +kernel) rfl, by decide +kernel, by decide +kernel, by decide +kernel⟩
theorem kX8_lotsOf : CAV yX8_lotsOf cX8_lotsOf 4 (some .int) 1 := ⟨tk4 (i := 143) (by decide +kernel) rfl, tk1 (i := 8) (by decide +kernel) rfl, tk4 (i := 142) (by decide +kernel) rfl, tp3 (i := 7) (n := 15) (by decide +kernel), by decide +kernel, by decide +kernel, by decide +kernel⟩
theorem kX8_weightOfLotsOf : CAV yX8_weightOfLotsOf cX8_weightOfLotsOf 4 (some .int) 1 := ⟨tk4 (i := 147) (by decide +kernel) rfl, tk1 (i := 8) (by decide +kernel) rfl, tk4 (i := 146) (by decide +kernel) rfl, tp3 (i := 8) (n := 15) (by decide +kernel), by decide +kernel, by decide +kernel, by decide +kernel⟩
theorem kX1_between : CAV yX1_between cX1_between 3 (some .int) 2 := ⟨tk4 (i := 151) (by decide +kernel) rfl, tk1 (i := 9) (by decide +kernel) rfl, tk4 (i := 149) (by decide +kernel) rfl, tk4 (i := 150) (by decide +kernel) rfl, by decide +kernel, by decide +kernel, by decide +kernel⟩
theorem kX11_digestOfGuilds : CAV yX11_digestOfGuilds cX11_digestOfGuilds 7 (some .long) 1 := ⟨tk4 (i := 155) (by decide +kernel) rfl, tk1 (i := 1) (by decide +kernel) rfl, tk4 (i := 154) (by decide +kernel) rfl, tp3 (i := 9) (n := 10) (by decide +kernel), by decide +kernel, by decide +kernel, by decide +kernel⟩
theorem kX8_tellGuild : CAV yX8_tellGuild cX8_tellGuild 3 (some .int) 2 := ⟨tk4 (i := 159) (by decide +kernel) rfl, tk1 (i := 8) (by decide +kernel) rfl, tk4 (i := 157) (by decide +kernel) rfl, tk4 (i := 158) (by decide +kernel) rfl, by decide +kernel, by decide +kernel, by decide +kernel⟩
theorem kX8_lotsWithChopOf : CAV yX8_lotsWithChopOf cX8_lotsWithChopOf 4 (some .int) 1 := ⟨tk4 (i := 163) (by decide +kernel) rfl, tk1 (i := 8) (by decide +kernel) rfl, tk4 (i := 162) (by decide +kernel) rfl, tp3 (i := 10) (n := 15) (by decide +kernel), by decide +kernel, by decide +kernel, by decide +kernel⟩
theorem kX11_digestOfOrders : CAV yX11_digestOfOrders cX11_digestOfOrders 7 (some .long) 1 := ⟨tk4 (i := 167) (by decide +kernel) rfl, tk1 (i := 1) (by decide +kernel) rfl, tk4 (i := 166) (by decide +kernel) rfl, tp3 (i := 11) (n := 10) (by decide +kernel), by decide +kernel, by decide +kernel, by decide +kernel⟩
theorem kX11_tellOrder : CAV yX11_tellOrder cX11_tellOrder 3 (some .int) 2 := ⟨tk4 (i := 171) (by decide +kernel) rfl, tk1 (i := 1) (by decide +kernel) rfl, tk4 (i := 170) (by decide +kernel) rfl, tp3 (i := 12) (n := 10) (by decide +kernel), by decide +kernel, by decide +kernel, by decide +kernel⟩
theorem kX0_wouldCarryOut : CAV yX0_wouldCarryOut cX0_wouldCarryOut 7 (some .boolean) 1 := ⟨tk4 (i := 176) (by decide +kernel) rfl, tk1 (i := 10) (by decide +kernel) rfl, tk4 (i := 174) (by decide +kernel) rfl, tk4 (i := 175) (by decide +kernel) rfl, by decide +kernel, by decide +kernel, by decide +kernel⟩
theorem kX6_reckon : CAV yX6_reckon cX6_reckon 6 (some .int) 2 := ⟨tk4 (i := 181) (by decide +kernel) rfl, tk1 (i := 11) (by decide +kernel) rfl, tk4 (i := 179) (by decide +kernel) rfl, tk4 (i := 180) (by decide +kernel) rfl, by decide +kernel, by decide +kernel, by decide +kernel⟩
theorem kX6_take : CAV yX6_take cX6_take 1 (some .int) 0 := ⟨tk4 (i := 186) (by decide +kernel) rfl, tk1 (i := 11) (by decide +kernel) rfl, tk4 (i := 185) (by decide +kernel) rfl, tp3 (i := 13) (n := 4) (by decide +kernel), by decide +kernel, by decide +kernel, by decide +kernel⟩
theorem kX6_put : CAV yX6_put cX6_put 2 none 1 := ⟨tk4 (i := 190) (by decide +kernel) rfl, tk1 (i := 11) (by decide +kernel) rfl, tk4 (i := 189) (by decide +kernel) rfl, tp3 (i := 14) (n := 4) (by decide +kernel), by decide +kernel, by decide +kernel, by decide +kernel⟩
theorem kX6_joined : CAS yX6_joined cX6_joined 3 (some .int) 3 := ⟨tk4 (i := 197) (by decide +kernel) rfl, tk1 (i := 11) (by decide +kernel) rfl, tk4 (i := 196) (by decide +kernel) rfl, by decide +kernel, by decide +kernel, by decide +kernel⟩
theorem kX6_holds : CAS yX6_holds cX6_holds 3 (some .boolean) 3 := ⟨tk4 (i := 203) (by decide +kernel) rfl, tk1 (i := 11) (by decide +kernel) rfl, tk4 (i := 202) (by decide +kernel) rfl, by decide +kernel, by decide +kernel, by decide +kernel⟩
theorem kX6_value : CAV yX6_value cX6_value 4 (some .int) 3 := ⟨tk4 (i := 210) (by decide +kernel) rfl, tk1 (i := 11) (by decide +kernel) rfl, tk4 (i := 209) (by decide +kernel) rfl, tp3 (i := 15) (n := 4) (by decide +kernel), by decide +kernel, by decide +kernel, by decide +kernel⟩
theorem kX0_canWeigh : CAV yX0_canWeigh cX0_canWeigh 3 (some .boolean) 2 := ⟨tk4 (i := 217) (by decide +kernel) rfl, tk1 (i := 10) (by decide +kernel) rfl, tk4 (i := 216) (by decide +kernel) rfl, tp4 (i := 0) (n := 3) (by decide +kernel), by decide +kernel, by decide +kernel, by decide +kernel⟩
theorem kX0_canSell : CAV yX0_canSell cX0_canSell 5 (some .boolean) 3 := ⟨tk4 (i := 221) (by decide +kernel) rfl, tk1 (i := 10) (by decide +kernel) rfl, tk4 (i := 220) (by decide +kernel) rfl, tp4 (i := 1) (n := 3) (by decide +kernel), by decide +kernel, by decide +kernel, by decide +kernel⟩
theorem kX0_price : CAV yX0_price cX0_price 4 (some .int) 2 := ⟨tk4 (i := 226) (by decide +kernel) rfl, tk1 (i := 10) (by decide +kernel) rfl, tk4 (i := 225) (by decide +kernel) rfl, tp4 (i := 2) (n := 3) (by decide +kernel), by decide +kernel, by decide +kernel, by decide +kernel⟩
theorem kX0_due : CAV yX0_due cX0_due 5 (some .int) 3 := ⟨tk4 (i := 233) (by decide +kernel) rfl, tk1 (i := 10) (by decide +kernel) rfl, tk4 (i := 232) (by decide +kernel) rfl, tp4 (i := 3) (n := 3) (by decide +kernel), by decide +kernel, by decide +kernel, by decide +kernel⟩
theorem kX11_feed : CAV yX11_feed cX11_feed 6 (some .int) 5 := ⟨tk5 (i := 2) (by decide +kernel) rfl, tk1 (i := 1) (by decide +kernel) rfl, tk5 (i := 0) (by decide +kernel) rfl, tk5 (i := 1) (by decide +kernel) rfl, by decide +kernel, by decide +kernel, by decide +kernel⟩
theorem kX11_append : CAV yX11_append cX11_append 3 none 1 := ⟨tk5 (i := 73) (by decide +kernel) rfl, tk1 (i := 1) (by decide +kernel) rfl, tk5 (i := 72) (by decide +kernel) rfl, tp4 (i := 5) (n := 10) (by decide +kernel), by decide +kernel, by decide +kernel, by decide +kernel⟩
theorem kX11_trim : CAV yX11_trim cX11_trim 2 (some .int) 1 := ⟨tk5 (i := 82) (by decide +kernel) rfl, tk1 (i := 1) (by decide +kernel) rfl, tk5 (i := 80) (by decide +kernel) rfl, tk5 (i := 81) (by decide +kernel) rfl, by decide +kernel, by decide +kernel, by decide +kernel⟩
theorem kX11_count : CAV yX11_count cX11_count 2 (some .int) 1 := ⟨tk5 (i := 106) (by decide +kernel) rfl, tk1 (i := 1) (by decide +kernel) rfl, tk5 (i := 104) (by decide +kernel) rfl, tk5 (i := 105) (by decide +kernel) rfl, by decide +kernel, by decide +kernel, by decide +kernel⟩
theorem kX11_lot : CAV yX11_lot cX11_lot 3 (some .int) 2 := ⟨tk5 (i := 129) (by decide +kernel) rfl, tk1 (i := 1) (by decide +kernel) rfl, tk5 (i := 127) (by decide +kernel) rfl, tk5 (i := 128) (by decide +kernel) rfl, by decide +kernel, by decide +kernel, by decide +kernel⟩
theorem kX11_isLot : CAV yX11_isLot cX11_isLot 2 (some .boolean) 1 := ⟨tk5 (i := 133) (by decide +kernel) rfl, tk1 (i := 1) (by decide +kernel) rfl, tk5 (i := 132) (by decide +kernel) rfl, tp4 (i := 6) (n := 10) (by decide +kernel), by decide +kernel, by decide +kernel, by decide +kernel⟩
theorem kX11_merchant : CAV yX11_merchant cX11_merchant 3 (some .int) 2 := ⟨tk5 (i := 141) (by decide +kernel) rfl, tk1 (i := 1) (by decide +kernel) rfl, tk5 (i := 139) (by decide +kernel) rfl, tk5 (i := 140) (by decide +kernel) rfl, by decide +kernel, by decide +kernel, by decide +kernel⟩
theorem kX11_isMerchant : CAV yX11_isMerchant cX11_isMerchant 2 (some .boolean) 1 := ⟨tk5 (i := 145) (by decide +kernel) rfl, tk1 (i := 1) (by decide +kernel) rfl, tk5 (i := 144) (by decide +kernel) rfl, tp4 (i := 7) (n := 10) (by decide +kernel), by decide +kernel, by decide +kernel, by decide +kernel⟩
theorem kX11_guild : CAV yX11_guild cX11_guild 3 (some .int) 2 := ⟨tk5 (i := 153) (by decide +kernel) rfl, tk1 (i := 1) (by decide +kernel) rfl, tk5 (i := 151) (by decide +kernel) rfl, tk5 (i := 152) (by decide +kernel) rfl, by decide +kernel, by decide +kernel, by decide +kernel⟩
theorem kX11_order : CAV yX11_order cX11_order 3 (some .int) 2 := ⟨tk5 (i := 161) (by decide +kernel) rfl, tk1 (i := 1) (by decide +kernel) rfl, tk5 (i := 159) (by decide +kernel) rfl, tk5 (i := 160) (by decide +kernel) rfl, by decide +kernel, by decide +kernel, by decide +kernel⟩
theorem kX11_owes : CAV yX11_owes cX11_owes 3 (some .int) 2 := ⟨tk5 (i := 169) (by decide +kernel) rfl, tk1 (i := 1) (by decide +kernel) rfl, tk5 (i := 167) (by decide +kernel) rfl, tk5 (i := 168) (by decide +kernel) rfl, by decide +kernel, by decide +kernel, by decide +kernel⟩
theorem kX11_chain : CAV yX11_chain cX11_chain 3 (some .int) 2 := ⟨tk5 (i := 177) (by decide +kernel) rfl, tk1 (i := 1) (by decide +kernel) rfl, tk5 (i := 175) (by decide +kernel) rfl, tk5 (i := 176) (by decide +kernel) rfl, by decide +kernel, by decide +kernel, by decide +kernel⟩
theorem kX1_fewestFromTo : CAV yX1_fewestFromTo cX1_fewestFromTo 4 (some .int) 2 := ⟨tk5 (i := 181) (by decide +kernel) rfl, tk1 (i := 9) (by decide +kernel) rfl, tk5 (i := 179) (by decide +kernel) rfl, tk5 (i := 180) (by decide +kernel) rfl, by decide +kernel, by decide +kernel, by decide +kernel⟩
theorem kX1_reachBy : CAV yX1_reachBy cX1_reachBy 4 none 1 := ⟨tk5 (i := 186) (by decide +kernel) rfl, tk1 (i := 9) (by decide +kernel) rfl, tk5 (i := 185) (by decide +kernel) rfl, tp4 (i := 8) (n := 2) (by decide +kernel), by decide +kernel, by decide +kernel, by decide +kernel⟩
theorem kX11_ring : CAV yX11_ring cX11_ring 2 (some .int) 1 := ⟨tk5 (i := 194) (by decide +kernel) rfl, tk1 (i := 1) (by decide +kernel) rfl, tk5 (i := 192) (by decide +kernel) rfl, tk5 (i := 193) (by decide +kernel) rfl, by decide +kernel, by decide +kernel, by decide +kernel⟩
theorem kX1_widestRing : CAV yX1_widestRing cX1_widestRing 4 (some .int) 1 := ⟨tk5 (i := 198) (by decide +kernel) rfl, tk1 (i := 9) (by decide +kernel) rfl, tk5 (i := 196) (by decide +kernel) rfl, tk5 (i := 197) (by decide +kernel) rfl, by decide +kernel, by decide +kernel, by decide +kernel⟩
theorem kX1_widen : CAV yX1_widen cX1_widen 4 none 0 := ⟨tk5 (i := 202) (by decide +kernel) rfl, tk1 (i := 9) (by decide +kernel) rfl, tk5 (i := 201) (by decide +kernel) rfl, tp4 (i := 9) (n := 2) (by decide +kernel), by decide +kernel, by decide +kernel, by decide +kernel⟩
theorem kX11_setDamp : CAV yX11_setDamp cX11_setDamp 3 (some .int) 1 := ⟨tk5 (i := 211) (by decide +kernel) rfl, tk1 (i := 1) (by decide +kernel) rfl, tk5 (i := 209) (by decide +kernel) rfl, tk5 (i := 210) (by decide +kernel) rfl, by decide +kernel, by decide +kernel, by decide +kernel⟩
theorem kX11_lend : CAV yX11_lend cX11_lend 4 (some .int) 3 := ⟨tk5 (i := 219) (by decide +kernel) rfl, tk1 (i := 1) (by decide +kernel) rfl, tk5 (i := 217) (by decide +kernel) rfl, tk5 (i := 218) (by decide +kernel) rfl, by decide +kernel, by decide +kernel, by decide +kernel⟩
theorem kX8_moveCoins : CAV yX8_moveCoins cX8_moveCoins 4 none 3 := ⟨tk5 (i := 226) (by decide +kernel) rfl, tk1 (i := 8) (by decide +kernel) rfl, tk5 (i := 224) (by decide +kernel) rfl, tk5 (i := 225) (by decide +kernel) rfl, by decide +kernel, by decide +kernel, by decide +kernel⟩
theorem kX7_add : CAV yX7_add cX7_add 3 none 2 := ⟨tk5 (i := 230) (by decide +kernel) rfl, tk1 (i := 2) (by decide +kernel) rfl, tk5 (i := 228) (by decide +kernel) rfl, tk5 (i := 229) (by decide +kernel) rfl, by decide +kernel, by decide +kernel, by decide +kernel⟩
theorem kX1_grow : CAV yX1_grow cX1_grow 4 none 3 := ⟨tk5 (i := 234) (by decide +kernel) rfl, tk1 (i := 9) (by decide +kernel) rfl, tk5 (i := 232) (by decide +kernel) rfl, tk5 (i := 233) (by decide +kernel) rfl, by decide +kernel, by decide +kernel, by decide +kernel⟩
theorem kX11_offset : CAV yX11_offset cX11_offset 4 (some .int) 2 := ⟨tk6 (i := 2) (by decide +kernel) rfl, tk1 (i := 1) (by decide +kernel) rfl, tk6 (i := 0) (by decide +kernel) rfl, tk6 (i := 1) (by decide +kernel) rfl, by decide +kernel, by decide +kernel, by decide +kernel⟩
theorem kX11_dry : CAV yX11_dry cX11_dry 3 (some .int) 1 := ⟨tk6 (i := 11) (by decide +kernel) rfl, tk1 (i := 1) (by decide +kernel) rfl, tk6 (i := 9) (by decide +kernel) rfl, tk6 (i := 10) (by decide +kernel) rfl, by decide +kernel, by decide +kernel, by decide +kernel⟩
theorem kX11_pass : CAV yX11_pass cX11_pass 2 (some .int) 1 := ⟨tk6 (i := 20) (by decide +kernel) rfl, tk1 (i := 1) (by decide +kernel) rfl, tk6 (i := 18) (by decide +kernel) rfl, tk6 (i := 19) (by decide +kernel) rfl, by decide +kernel, by decide +kernel, by decide +kernel⟩
theorem kX0_goOn : CAV yX0_goOn cX0_goOn 4 (some .int) 1 := ⟨tk6 (i := 25) (by decide +kernel) rfl, tk1 (i := 10) (by decide +kernel) rfl, tk6 (i := 23) (by decide +kernel) rfl, tk6 (i := 24) (by decide +kernel) rfl, by decide +kernel, by decide +kernel, by decide +kernel⟩
theorem kX8_loseWeight : CAV yX8_loseWeight cX8_loseWeight 4 none 0 := ⟨tk6 (i := 29) (by decide +kernel) rfl, tk1 (i := 8) (by decide +kernel) rfl, tk6 (i := 27) (by decide +kernel) rfl, tk6 (i := 28) (by decide +kernel) rfl, by decide +kernel, by decide +kernel, by decide +kernel⟩
theorem kX0_followOrders : CAV yX0_followOrders cX0_followOrders 3 (some .int) 0 := ⟨tk6 (i := 33) (by decide +kernel) rfl, tk1 (i := 10) (by decide +kernel) rfl, tk6 (i := 32) (by decide +kernel) rfl, tp4 (i := 10) (n := 3) (by decide +kernel), by decide +kernel, by decide +kernel, by decide +kernel⟩
theorem kX0_carryOut : CAV yX0_carryOut cX0_carryOut 5 none 1 := ⟨tk6 (i := 38) (by decide +kernel) rfl, tk1 (i := 10) (by decide +kernel) rfl, tk6 (i := 37) (by decide +kernel) rfl, tp4 (i := 11) (n := 3) (by decide +kernel), by decide +kernel, by decide +kernel, by decide +kernel⟩
theorem kX0_weigh : CAV yX0_weigh cX0_weigh 5 none 2 := ⟨tk6 (i := 42) (by decide +kernel) rfl, tk1 (i := 10) (by decide +kernel) rfl, tk6 (i := 41) (by decide +kernel) rfl, tp4 (i := 12) (n := 3) (by decide +kernel), by decide +kernel, by decide +kernel, by decide +kernel⟩
theorem kX8_setChop : CAV yX8_setChop cX8_setChop 4 none 3 := ⟨tk6 (i := 47) (by decide +kernel) rfl, tk1 (i := 8) (by decide +kernel) rfl, tk6 (i := 45) (by decide +kernel) rfl, tk6 (i := 46) (by decide +kernel) rfl, by decide +kernel, by decide +kernel, by decide +kernel⟩
theorem kX0_sell : CAV yX0_sell cX0_sell 7 none 3 := ⟨tk6 (i := 51) (by decide +kernel) rfl, tk1 (i := 10) (by decide +kernel) rfl, tk6 (i := 50) (by decide +kernel) rfl, tp4 (i := 13) (n := 3) (by decide +kernel), by decide +kernel, by decide +kernel, by decide +kernel⟩
theorem kX0_payBack : CAV yX0_payBack cX0_payBack 5 none 3 := ⟨tk6 (i := 58) (by decide +kernel) rfl, tk1 (i := 10) (by decide +kernel) rfl, tk6 (i := 57) (by decide +kernel) rfl, tp4 (i := 14) (n := 3) (by decide +kernel), by decide +kernel, by decide +kernel, by decide +kernel⟩
theorem kX1_growAll : CAV yX1_growAll cX1_growAll 3 none 0 := ⟨tk6 (i := 62) (by decide +kernel) rfl, tk1 (i := 9) (by decide +kernel) rfl, tk6 (i := 60) (by decide +kernel) rfl, tk6 (i := 61) (by decide +kernel) rfl, by decide +kernel, by decide +kernel, by decide +kernel⟩
theorem kX11_foresee : CAV yX11_foresee cX11_foresee 4 (some .int) 2 := ⟨tk6 (i := 69) (by decide +kernel) rfl, tk1 (i := 1) (by decide +kernel) rfl, tk6 (i := 67) (by decide +kernel) rfl, tk6 (i := 68) (by decide +kernel) rfl, by decide +kernel, by decide +kernel, by decide +kernel⟩
theorem kX8_copyFrom : CAV yX8_copyFrom cX8_copyFrom 2 none 1 := ⟨tk6 (i := 74) (by decide +kernel) rfl, tk1 (i := 8) (by decide +kernel) rfl, tk6 (i := 72) (by decide +kernel) rfl, tk6 (i := 73) (by decide +kernel) rfl, by decide +kernel, by decide +kernel, by decide +kernel⟩
theorem kX1_copyFrom : CAV yX1_copyFrom cX1_copyFrom 2 none 1 := ⟨tk6 (i := 79) (by decide +kernel) rfl, tk1 (i := 9) (by decide +kernel) rfl, tk6 (i := 77) (by decide +kernel) rfl, tk6 (i := 78) (by decide +kernel) rfl, by decide +kernel, by decide +kernel, by decide +kernel⟩
theorem kX11_costs : CAV yX11_costs cX11_costs 4 (some .int) 2 := ⟨tk6 (i := 87) (by decide +kernel) rfl, tk1 (i := 1) (by decide +kernel) rfl, tk6 (i := 85) (by decide +kernel) rfl, tk6 (i := 86) (by decide +kernel) rfl, by decide +kernel, by decide +kernel, by decide +kernel⟩
theorem kX11_richest : CAV yX11_richest cX11_richest 4 (some .int) 1 := ⟨tk6 (i := 96) (by decide +kernel) rfl, tk1 (i := 1) (by decide +kernel) rfl, tk6 (i := 94) (by decide +kernel) rfl, tk6 (i := 95) (by decide +kernel) rfl, by decide +kernel, by decide +kernel, by decide +kernel⟩
theorem kX8_wealthOf : CAV yX8_wealthOf cX8_wealthOf 2 (some .int) 1 := ⟨tk6 (i := 101) (by decide +kernel) rfl, tk1 (i := 8) (by decide +kernel) rfl, tk6 (i := 99) (by decide +kernel) rfl, tk6 (i := 100) (by decide +kernel) rfl, by decide +kernel, by decide +kernel, by decide +kernel⟩
theorem kX11_until : CAV yX11_until cX11_until 3 (some .int) 1 := ⟨tk6 (i := 108) (by decide +kernel) rfl, tk1 (i := 1) (by decide +kernel) rfl, tk6 (i := 106) (by decide +kernel) rfl, tk6 (i := 107) (by decide +kernel) rfl, by decide +kernel, by decide +kernel, by decide +kernel⟩
theorem kX8_isOverCredit : CAV yX8_isOverCredit cX8_isOverCredit 2 (some .boolean) 1 := ⟨tk6 (i := 112) (by decide +kernel) rfl, tk1 (i := 8) (by decide +kernel) rfl, tk6 (i := 110) (by decide +kernel) rfl, tk6 (i := 111) (by decide +kernel) rfl, by decide +kernel, by decide +kernel, by decide +kernel⟩
theorem kX14_init : CAI yX14_init cX14_init 1 none 0 := ⟨tk6 (i := 117) (by decide +kernel) rfl, tk1 (i := 12) (by decide +kernel) rfl, tk6 (i := 116) (by decide +kernel) rfl, rfl, by decide +kernel, by decide +kernel, by decide +kernel⟩
theorem kX12_init : CAI yX12_init cX12_init 1 none 0 := ⟨tk6 (i := 123) (by decide +kernel) rfl, tk1 (i := 13) (by decide +kernel) rfl, tk6 (i := 122) (by decide +kernel) rfl, rfl, by decide +kernel, by decide +kernel, by decide +kernel⟩
theorem kX13_init : CAI yX13_init cX13_init 1 none 0 := ⟨tk6 (i := 229) (by decide +kernel) rfl, tk1 (i := 14) (by decide +kernel) rfl, tk6 (i := 228) (by decide +kernel) rfl, rfl, by decide +kernel, by decide +kernel, by decide +kernel⟩
theorem kX14_thrown : CAV yX14_thrown cX14_thrown 1 (some .int) 0 := ⟨tk7 (i := 88) (by decide +kernel) rfl, tk1 (i := 12) (by decide +kernel) rfl, tk7 (i := 86) (by decide +kernel) rfl, tk7 (i := 87) (by decide +kernel) rfl, by decide +kernel, by decide +kernel, by decide +kernel⟩
theorem kX14_feed : CAV yX14_feed cX14_feed 8 (some .int) 5 := ⟨tk7 (i := 92) (by decide +kernel) rfl, tk1 (i := 12) (by decide +kernel) rfl, tk7 (i := 90) (by decide +kernel) rfl, tk7 (i := 91) (by decide +kernel) rfl, by decide +kernel, by decide +kernel, by decide +kernel⟩
theorem kX14_no : CAV yX14_no cX14_no 2 (some .int) 1 := ⟨tk7 (i := 96) (by decide +kernel) rfl, tk1 (i := 12) (by decide +kernel) rfl, tk7 (i := 95) (by decide +kernel) rfl, tp4 (i := 15) (n := 12) (by decide +kernel), by decide +kernel, by decide +kernel, by decide +kernel⟩
theorem kX14_trim : CAV yX14_trim cX14_trim 2 (some .int) 1 := ⟨tk7 (i := 100) (by decide +kernel) rfl, tk1 (i := 12) (by decide +kernel) rfl, tk7 (i := 98) (by decide +kernel) rfl, tk7 (i := 99) (by decide +kernel) rfl, by decide +kernel, by decide +kernel, by decide +kernel⟩
theorem kX14_isIn : CAS yX14_isIn cX14_isIn 3 (some .boolean) 3 := ⟨tk7 (i := 103) (by decide +kernel) rfl, tk1 (i := 12) (by decide +kernel) rfl, tk7 (i := 102) (by decide +kernel) rfl, by decide +kernel, by decide +kernel, by decide +kernel⟩
theorem kX14_teach : CAV yX14_teach cX14_teach 4 (some .int) 0 := ⟨tk7 (i := 107) (by decide +kernel) rfl, tk1 (i := 12) (by decide +kernel) rfl, tk7 (i := 105) (by decide +kernel) rfl, tk7 (i := 106) (by decide +kernel) rfl, by decide +kernel, by decide +kernel, by decide +kernel⟩
theorem kX14_read : CAV yX14_read cX14_read 4 (some .int) 1 := ⟨tk7 (i := 111) (by decide +kernel) rfl, tk1 (i := 12) (by decide +kernel) rfl, tk7 (i := 110) (by decide +kernel) rfl, tp5 (i := 0) (n := 12) (by decide +kernel), by decide +kernel, by decide +kernel, by decide +kernel⟩
theorem kX14_cut : CAV yX14_cut cX14_cut 4 none 1 := ⟨tk7 (i := 115) (by decide +kernel) rfl, tk1 (i := 12) (by decide +kernel) rfl, tk7 (i := 114) (by decide +kernel) rfl, tp5 (i := 1) (n := 12) (by decide +kernel), by decide +kernel, by decide +kernel, by decide +kernel⟩
theorem kX14_byteAt : CAV yX14_byteAt cX14_byteAt 2 (some .int) 1 := ⟨tk7 (i := 119) (by decide +kernel) rfl, tk1 (i := 12) (by decide +kernel) rfl, tk7 (i := 118) (by decide +kernel) rfl, tp5 (i := 2) (n := 12) (by decide +kernel), by decide +kernel, by decide +kernel, by decide +kernel⟩
theorem kX14_lengthAt : CAV yX14_lengthAt cX14_lengthAt 4 (some .int) 1 := ⟨tk7 (i := 123) (by decide +kernel) rfl, tk1 (i := 12) (by decide +kernel) rfl, tk7 (i := 122) (by decide +kernel) rfl, tp5 (i := 3) (n := 12) (by decide +kernel), by decide +kernel, by decide +kernel, by decide +kernel⟩
theorem kX14_isLetter : CAS yX14_isLetter cX14_isLetter 1 (some .boolean) 1 := ⟨tk7 (i := 126) (by decide +kernel) rfl, tk1 (i := 12) (by decide +kernel) rfl, tk7 (i := 125) (by decide +kernel) rfl, by decide +kernel, by decide +kernel, by decide +kernel⟩
theorem kX14_isDigit : CAS yX14_isDigit cX14_isDigit 1 (some .boolean) 1 := ⟨tk7 (i := 129) (by decide +kernel) rfl, tk1 (i := 12) (by decide +kernel) rfl, tk7 (i := 128) (by decide +kernel) rfl, by decide +kernel, by decide +kernel, by decide +kernel⟩
theorem kX14_kindAt : CAV yX14_kindAt cX14_kindAt 5 (some .int) 2 := ⟨tk7 (i := 133) (by decide +kernel) rfl, tk1 (i := 12) (by decide +kernel) rfl, tk7 (i := 132) (by decide +kernel) rfl, tp5 (i := 4) (n := 12) (by decide +kernel), by decide +kernel, by decide +kernel, by decide +kernel⟩
theorem kX14_wordAt : CAV yX14_wordAt cX14_wordAt 5 (some .int) 2 := ⟨tk7 (i := 137) (by decide +kernel) rfl, tk1 (i := 12) (by decide +kernel) rfl, tk7 (i := 136) (by decide +kernel) rfl, tp5 (i := 5) (n := 12) (by decide +kernel), by decide +kernel, by decide +kernel, by decide +kernel⟩
theorem kX14_isList : CAV yX14_isList cX14_isList 2 (some .boolean) 1 := ⟨tk7 (i := 147) (by decide +kernel) rfl, tk1 (i := 12) (by decide +kernel) rfl, tk7 (i := 146) (by decide +kernel) rfl, tp5 (i := 6) (n := 12) (by decide +kernel), by decide +kernel, by decide +kernel, by decide +kernel⟩
theorem kX14_isLine : CAV yX14_isLine cX14_isLine 2 (some .boolean) 1 := ⟨tk7 (i := 151) (by decide +kernel) rfl, tk1 (i := 12) (by decide +kernel) rfl, tk7 (i := 150) (by decide +kernel) rfl, tp5 (i := 7) (n := 12) (by decide +kernel), by decide +kernel, by decide +kernel, by decide +kernel⟩
theorem kX14_isName : CAV yX14_isName cX14_isName 3 (some .boolean) 2 := ⟨tk7 (i := 155) (by decide +kernel) rfl, tk1 (i := 12) (by decide +kernel) rfl, tk7 (i := 154) (by decide +kernel) rfl, tp5 (i := 8) (n := 12) (by decide +kernel), by decide +kernel, by decide +kernel, by decide +kernel⟩
theorem kX14_eat : CAV yX14_eat cX14_eat 3 (some .boolean) 2 := ⟨tk7 (i := 159) (by decide +kernel) rfl, tk1 (i := 12) (by decide +kernel) rfl, tk7 (i := 158) (by decide +kernel) rfl, tp5 (i := 9) (n := 12) (by decide +kernel), by decide +kernel, by decide +kernel, by decide +kernel⟩
theorem kX14_isNumber : CAV yX14_isNumber cX14_isNumber 3 (some .boolean) 2 := ⟨tk7 (i := 163) (by decide +kernel) rfl, tk1 (i := 12) (by decide +kernel) rfl, tk7 (i := 162) (by decide +kernel) rfl, tp5 (i := 10) (n := 12) (by decide +kernel), by decide +kernel, by decide +kernel, by decide +kernel⟩
theorem kX14_mayTest : CAV yX14_mayTest cX14_mayTest 2 (some .boolean) 1 := ⟨tk7 (i := 167) (by decide +kernel) rfl, tk1 (i := 12) (by decide +kernel) rfl, tk7 (i := 166) (by decide +kernel) rfl, tp5 (i := 11) (n := 12) (by decide +kernel), by decide +kernel, by decide +kernel, by decide +kernel⟩
theorem kX14_isTest : CAV yX14_isTest cX14_isTest 2 (some .boolean) 1 := ⟨tk7 (i := 171) (by decide +kernel) rfl, tk1 (i := 12) (by decide +kernel) rfl, tk7 (i := 170) (by decide +kernel) rfl, tp5 (i := 12) (n := 12) (by decide +kernel), by decide +kernel, by decide +kernel, by decide +kernel⟩
theorem kX14_isBoth : CAV yX14_isBoth cX14_isBoth 2 (some .boolean) 1 := ⟨tk7 (i := 175) (by decide +kernel) rfl, tk1 (i := 12) (by decide +kernel) rfl, tk7 (i := 174) (by decide +kernel) rfl, tp5 (i := 13) (n := 12) (by decide +kernel), by decide +kernel, by decide +kernel, by decide +kernel⟩
theorem kX14_isSingle : CAV yX14_isSingle cX14_isSingle 2 (some .boolean) 1 := ⟨tk7 (i := 179) (by decide +kernel) rfl, tk1 (i := 12) (by decide +kernel) rfl, tk7 (i := 178) (by decide +kernel) rfl, tp5 (i := 14) (n := 12) (by decide +kernel), by decide +kernel, by decide +kernel, by decide +kernel⟩
theorem kX14_goDown : CAV yX14_goDown cX14_goDown 3 (some .boolean) 2 := ⟨tk7 (i := 183) (by decide +kernel) rfl, tk1 (i := 12) (by decide +kernel) rfl, tk7 (i := 182) (by decide +kernel) rfl, tp5 (i := 15) (n := 12) (by decide +kernel), by decide +kernel, by decide +kernel, by decide +kernel⟩
theorem kX14_isSum : CAV yX14_isSum cX14_isSum 2 (some .boolean) 1 := ⟨tk7 (i := 187) (by decide +kernel) rfl, tk1 (i := 12) (by decide +kernel) rfl, tk7 (i := 186) (by decide +kernel) rfl, tp6 (i := 0) (n := 12) (by decide +kernel), by decide +kernel, by decide +kernel, by decide +kernel⟩
theorem kX14_isProduct : CAV yX14_isProduct cX14_isProduct 2 (some .boolean) 1 := ⟨tk7 (i := 191) (by decide +kernel) rfl, tk1 (i := 12) (by decide +kernel) rfl, tk7 (i := 190) (by decide +kernel) rfl, tp6 (i := 1) (n := 12) (by decide +kernel), by decide +kernel, by decide +kernel, by decide +kernel⟩
theorem kX14_isValue : CAV yX14_isValue cX14_isValue 3 (some .boolean) 1 := ⟨tk7 (i := 195) (by decide +kernel) rfl, tk1 (i := 12) (by decide +kernel) rfl, tk7 (i := 194) (by decide +kernel) rfl, tp6 (i := 2) (n := 12) (by decide +kernel), by decide +kernel, by decide +kernel, by decide +kernel⟩
theorem kX14_eatIn : CAV yX14_eatIn cX14_eatIn 4 (some .boolean) 3 := ⟨tk7 (i := 199) (by decide +kernel) rfl, tk1 (i := 12) (by decide +kernel) rfl, tk7 (i := 198) (by decide +kernel) rfl, tp6 (i := 3) (n := 12) (by decide +kernel), by decide +kernel, by decide +kernel, by decide +kernel⟩
theorem kX14_errorOf : CAV yX14_errorOf cX14_errorOf 4 (some .int) 2 := ⟨tk7 (i := 203) (by decide +kernel) rfl, tk1 (i := 12) (by decide +kernel) rfl, tk7 (i := 202) (by decide +kernel) rfl, tp6 (i := 4) (n := 12) (by decide +kernel), by decide +kernel, by decide +kernel, by decide +kernel⟩
theorem kX14_errorOfName : CAV yX14_errorOfName cX14_errorOfName 6 (some .int) 2 := ⟨tk7 (i := 207) (by decide +kernel) rfl, tk1 (i := 12) (by decide +kernel) rfl, tk7 (i := 206) (by decide +kernel) rfl, tp6 (i := 5) (n := 12) (by decide +kernel), by decide +kernel, by decide +kernel, by decide +kernel⟩
theorem kX14_errorOfNew : CAV yX14_errorOfNew cX14_errorOfNew 6 (some .int) 3 := ⟨tk7 (i := 211) (by decide +kernel) rfl, tk1 (i := 12) (by decide +kernel) rfl, tk7 (i := 210) (by decide +kernel) rfl, tp6 (i := 6) (n := 12) (by decide +kernel), by decide +kernel, by decide +kernel, by decide +kernel⟩
theorem kX14_manyOf : CAV yX14_manyOf cX14_manyOf 3 (some .int) 2 := ⟨tk7 (i := 215) (by decide +kernel) rfl, tk1 (i := 12) (by decide +kernel) rfl, tk7 (i := 214) (by decide +kernel) rfl, tp6 (i := 7) (n := 12) (by decide +kernel), by decide +kernel, by decide +kernel, by decide +kernel⟩
theorem kX14_namesOf : CAV yX14_namesOf cX14_namesOf 3 (some (FieldType.array FieldType.int)) 2 := ⟨tk7 (i := 219) (by decide +kernel) rfl, tk1 (i := 12) (by decide +kernel) rfl, tk7 (i := 218) (by decide +kernel) rfl, tp6 (i := 8) (n := 12) (by decide +kernel), by decide +kernel, by decide +kernel, by decide +kernel⟩
theorem kX14_find : CAV yX14_find cX14_find 6 (some .int) 4 := ⟨tk7 (i := 223) (by decide +kernel) rfl, tk1 (i := 12) (by decide +kernel) rfl, tk7 (i := 222) (by decide +kernel) rfl, tp6 (i := 9) (n := 12) (by decide +kernel), by decide +kernel, by decide +kernel, by decide +kernel⟩
theorem kX14_areSame : CAV yX14_areSame cX14_areSame 6 (some .boolean) 3 := ⟨tk7 (i := 227) (by decide +kernel) rfl, tk1 (i := 12) (by decide +kernel) rfl, tk7 (i := 226) (by decide +kernel) rfl, tp6 (i := 10) (n := 12) (by decide +kernel), by decide +kernel, by decide +kernel, by decide +kernel⟩
theorem kX14_sortOf : CAS yX14_sortOf cX14_sortOf 3 (some .int) 2 := ⟨tk7 (i := 230) (by decide +kernel) rfl, tk1 (i := 12) (by decide +kernel) rfl, tk7 (i := 229) (by decide +kernel) rfl, by decide +kernel, by decide +kernel, by decide +kernel⟩
theorem kX14_errorOfNumber : CAV yX14_errorOfNumber cX14_errorOfNumber 4 (some .int) 2 := ⟨tk7 (i := 234) (by decide +kernel) rfl, tk1 (i := 12) (by decide +kernel) rfl, tk7 (i := 233) (by decide +kernel) rfl, tp6 (i := 11) (n := 12) (by decide +kernel), by decide +kernel, by decide +kernel, by decide +kernel⟩
theorem kX14_number : CAV yX14_number cX14_number 5 (some .int) 2 := ⟨tk7 (i := 238) (by decide +kernel) rfl, tk1 (i := 12) (by decide +kernel) rfl, tk7 (i := 237) (by decide +kernel) rfl, tp6 (i := 12) (n := 12) (by decide +kernel), by decide +kernel, by decide +kernel, by decide +kernel⟩
theorem kX14_errorOfRange : CAS yX14_errorOfRange cX14_errorOfRange 3 (some .int) 3 := ⟨tk8 (i := 1) (by decide +kernel) rfl, tk1 (i := 12) (by decide +kernel) rfl, tk8 (i := 0) (by decide +kernel) rfl, by decide +kernel, by decide +kernel, by decide +kernel⟩
theorem kX14_errorOfOrder : CAV yX14_errorOfOrder cX14_errorOfOrder 3 (some .int) 2 := ⟨tk8 (i := 5) (by decide +kernel) rfl, tk1 (i := 12) (by decide +kernel) rfl, tk8 (i := 4) (by decide +kernel) rfl, tp6 (i := 13) (n := 12) (by decide +kernel), by decide +kernel, by decide +kernel, by decide +kernel⟩
theorem kX14_fill : CAS yX14_fill cX14_fill 3 none 2 := ⟨tk8 (i := 11) (by decide +kernel) rfl, tk1 (i := 12) (by decide +kernel) rfl, tk8 (i := 10) (by decide +kernel) rfl, by decide +kernel, by decide +kernel, by decide +kernel⟩
theorem kX14_errorAt : CAV yX14_errorAt cX14_errorAt 1 (some .int) 0 := ⟨tk8 (i := 15) (by decide +kernel) rfl, tk1 (i := 12) (by decide +kernel) rfl, tk8 (i := 13) (by decide +kernel) rfl, tk8 (i := 14) (by decide +kernel) rfl, by decide +kernel, by decide +kernel, by decide +kernel⟩
theorem kX14_count : CAV yX14_count cX14_count 2 (some .int) 1 := ⟨tk8 (i := 19) (by decide +kernel) rfl, tk1 (i := 12) (by decide +kernel) rfl, tk8 (i := 17) (by decide +kernel) rfl, tk8 (i := 18) (by decide +kernel) rfl, by decide +kernel, by decide +kernel, by decide +kernel⟩
theorem kX14_counted : CAV yX14_counted cX14_counted 3 (some .int) 2 := ⟨tk8 (i := 23) (by decide +kernel) rfl, tk1 (i := 12) (by decide +kernel) rfl, tk8 (i := 22) (by decide +kernel) rfl, tp6 (i := 14) (n := 12) (by decide +kernel), by decide +kernel, by decide +kernel, by decide +kernel⟩
theorem kX14_weightOf : CAV yX14_weightOf cX14_weightOf 4 (some .int) 1 := ⟨tk8 (i := 27) (by decide +kernel) rfl, tk1 (i := 12) (by decide +kernel) rfl, tk8 (i := 26) (by decide +kernel) rfl, tp6 (i := 15) (n := 12) (by decide +kernel), by decide +kernel, by decide +kernel, by decide +kernel⟩
theorem kX14_sumOf_ : CAS yX14_sumOf_ cX14_sumOf_ 6 (some .int) 1 := ⟨tk8 (i := 30) (by decide +kernel) rfl, tk1 (i := 12) (by decide +kernel) rfl, tk8 (i := 29) (by decide +kernel) rfl, by decide +kernel, by decide +kernel, by decide +kernel⟩
theorem kX14_lot : CAV yX14_lot cX14_lot 3 (some .int) 2 := ⟨tk8 (i := 34) (by decide +kernel) rfl, tk1 (i := 12) (by decide +kernel) rfl, tk8 (i := 32) (by decide +kernel) rfl, tk8 (i := 33) (by decide +kernel) rfl, by decide +kernel, by decide +kernel, by decide +kernel⟩
theorem kX14_isLot : CAV yX14_isLot cX14_isLot 2 (some .boolean) 1 := ⟨tk8 (i := 38) (by decide +kernel) rfl, tk1 (i := 12) (by decide +kernel) rfl, tk8 (i := 37) (by decide +kernel) rfl, tp7 (i := 0) (n := 12) (by decide +kernel), by decide +kernel, by decide +kernel, by decide +kernel⟩
theorem kX14_lotTold : CAV yX14_lotTold cX14_lotTold 3 (some .int) 2 := ⟨tk8 (i := 42) (by decide +kernel) rfl, tk1 (i := 12) (by decide +kernel) rfl, tk8 (i := 41) (by decide +kernel) rfl, tp7 (i := 1) (n := 12) (by decide +kernel), by decide +kernel, by decide +kernel, by decide +kernel⟩
theorem kX13_age : CAV yX13_age cX13_age 2 (some .int) 1 := ⟨tk8 (i := 46) (by decide +kernel) rfl, tk1 (i := 14) (by decide +kernel) rfl, tk8 (i := 44) (by decide +kernel) rfl, tk8 (i := 45) (by decide +kernel) rfl, by decide +kernel, by decide +kernel, by decide +kernel⟩
theorem kX13_isFresh : CAV yX13_isFresh cX13_isFresh 2 (some .boolean) 1 := ⟨tk8 (i := 50) (by decide +kernel) rfl, tk1 (i := 14) (by decide +kernel) rfl, tk8 (i := 48) (by decide +kernel) rfl, tk8 (i := 49) (by decide +kernel) rfl, by decide +kernel, by decide +kernel, by decide +kernel⟩
theorem kX14_merchant : CAV yX14_merchant cX14_merchant 3 (some .int) 2 := ⟨tk8 (i := 54) (by decide +kernel) rfl, tk1 (i := 12) (by decide +kernel) rfl, tk8 (i := 52) (by decide +kernel) rfl, tk8 (i := 53) (by decide +kernel) rfl, by decide +kernel, by decide +kernel, by decide +kernel⟩
theorem kX14_isMerchant : CAV yX14_isMerchant cX14_isMerchant 2 (some .boolean) 1 := ⟨tk8 (i := 58) (by decide +kernel) rfl, tk1 (i := 12) (by decide +kernel) rfl, tk8 (i := 57) (by decide +kernel) rfl, tp7 (i := 2) (n := 12) (by decide +kernel), by decide +kernel, by decide +kernel, by decide +kernel⟩
theorem kX14_merchantTold : CAV yX14_merchantTold cX14_merchantTold 3 (some .int) 2 := ⟨tk8 (i := 62) (by decide +kernel) rfl, tk1 (i := 12) (by decide +kernel) rfl, tk8 (i := 61) (by decide +kernel) rfl, tp7 (i := 3) (n := 12) (by decide +kernel), by decide +kernel, by decide +kernel, by decide +kernel⟩
theorem kX13_debts : CAV yX13_debts cX13_debts 4 (some .int) 1 := ⟨tk8 (i := 66) (by decide +kernel) rfl, tk1 (i := 14) (by decide +kernel) rfl, tk8 (i := 64) (by decide +kernel) rfl, tk8 (i := 65) (by decide +kernel) rfl, by decide +kernel, by decide +kernel, by decide +kernel⟩
theorem kX13_owes : CAV yX13_owes cX13_owes 3 (some .int) 2 := ⟨tk8 (i := 70) (by decide +kernel) rfl, tk1 (i := 14) (by decide +kernel) rfl, tk8 (i := 68) (by decide +kernel) rfl, tk8 (i := 69) (by decide +kernel) rfl, by decide +kernel, by decide +kernel, by decide +kernel⟩
theorem kX13_owed : CAV yX13_owed cX13_owed 4 (some .int) 1 := ⟨tk8 (i := 74) (by decide +kernel) rfl, tk1 (i := 14) (by decide +kernel) rfl, tk8 (i := 72) (by decide +kernel) rfl, tk8 (i := 73) (by decide +kernel) rfl, by decide +kernel, by decide +kernel, by decide +kernel⟩
theorem kX14_lotsOf : CAV yX14_lotsOf cX14_lotsOf 5 (some .int) 2 := ⟨tk8 (i := 78) (by decide +kernel) rfl, tk1 (i := 12) (by decide +kernel) rfl, tk8 (i := 77) (by decide +kernel) rfl, tp7 (i := 4) (n := 12) (by decide +kernel), by decide +kernel, by decide +kernel, by decide +kernel⟩
theorem kX14_guild : CAV yX14_guild cX14_guild 3 (some .int) 2 := ⟨tk8 (i := 82) (by decide +kernel) rfl, tk1 (i := 12) (by decide +kernel) rfl, tk8 (i := 80) (by decide +kernel) rfl, tk8 (i := 81) (by decide +kernel) rfl, by decide +kernel, by decide +kernel, by decide +kernel⟩
theorem kX14_guildTold : CAV yX14_guildTold cX14_guildTold 5 (some .int) 2 := ⟨tk8 (i := 86) (by decide +kernel) rfl, tk1 (i := 12) (by decide +kernel) rfl, tk8 (i := 85) (by decide +kernel) rfl, tp7 (i := 5) (n := 12) (by decide +kernel), by decide +kernel, by decide +kernel, by decide +kernel⟩
theorem kX14_order : CAV yX14_order cX14_order 3 (some .int) 2 := ⟨tk8 (i := 90) (by decide +kernel) rfl, tk1 (i := 12) (by decide +kernel) rfl, tk8 (i := 88) (by decide +kernel) rfl, tk8 (i := 89) (by decide +kernel) rfl, by decide +kernel, by decide +kernel, by decide +kernel⟩
theorem kX14_orderTold : CAV yX14_orderTold cX14_orderTold 3 (some .int) 2 := ⟨tk8 (i := 94) (by decide +kernel) rfl, tk1 (i := 12) (by decide +kernel) rfl, tk8 (i := 93) (by decide +kernel) rfl, tp7 (i := 6) (n := 12) (by decide +kernel), by decide +kernel, by decide +kernel, by decide +kernel⟩
theorem kX14_can : CAV yX14_can cX14_can 3 (some .boolean) 2 := ⟨tk8 (i := 98) (by decide +kernel) rfl, tk1 (i := 12) (by decide +kernel) rfl, tk8 (i := 97) (by decide +kernel) rfl, tp7 (i := 7) (n := 12) (by decide +kernel), by decide +kernel, by decide +kernel, by decide +kernel⟩
theorem kX14_holds : CAV yX14_holds cX14_holds 3 (some .boolean) 2 := ⟨tk8 (i := 102) (by decide +kernel) rfl, tk1 (i := 12) (by decide +kernel) rfl, tk8 (i := 101) (by decide +kernel) rfl, tp7 (i := 8) (n := 12) (by decide +kernel), by decide +kernel, by decide +kernel, by decide +kernel⟩
theorem kX14_test : CAV yX14_test cX14_test 2 (some .boolean) 0 := ⟨tk8 (i := 106) (by decide +kernel) rfl, tk1 (i := 12) (by decide +kernel) rfl, tk8 (i := 105) (by decide +kernel) rfl, tp7 (i := 9) (n := 12) (by decide +kernel), by decide +kernel, by decide +kernel, by decide +kernel⟩
theorem kX14_both : CAV yX14_both cX14_both 2 (some .boolean) 0 := ⟨tk8 (i := 110) (by decide +kernel) rfl, tk1 (i := 12) (by decide +kernel) rfl, tk8 (i := 109) (by decide +kernel) rfl, tp7 (i := 10) (n := 12) (by decide +kernel), by decide +kernel, by decide +kernel, by decide +kernel⟩
theorem kX14_single : CAV yX14_single cX14_single 4 (some .boolean) 0 := ⟨tk8 (i := 114) (by decide +kernel) rfl, tk1 (i := 12) (by decide +kernel) rfl, tk8 (i := 113) (by decide +kernel) rfl, tp7 (i := 11) (n := 12) (by decide +kernel), by decide +kernel, by decide +kernel, by decide +kernel⟩
theorem kX14_goesBy : CAV yX14_goesBy cX14_goesBy 2 (some .boolean) 1 := ⟨tk8 (i := 118) (by decide +kernel) rfl, tk1 (i := 12) (by decide +kernel) rfl, tk8 (i := 117) (by decide +kernel) rfl, tp7 (i := 12) (n := 12) (by decide +kernel), by decide +kernel, by decide +kernel, by decide +kernel⟩
theorem kX14_sum : CAV yX14_sum cX14_sum 4 (some .int) 0 := ⟨tk8 (i := 122) (by decide +kernel) rfl, tk1 (i := 12) (by decide +kernel) rfl, tk8 (i := 121) (by decide +kernel) rfl, tp7 (i := 13) (n := 12) (by decide +kernel), by decide +kernel, by decide +kernel, by decide +kernel⟩
theorem kX14_product : CAV yX14_product cX14_product 4 (some .int) 0 := ⟨tk8 (i := 126) (by decide +kernel) rfl, tk1 (i := 12) (by decide +kernel) rfl, tk8 (i := 125) (by decide +kernel) rfl, tp7 (i := 14) (n := 12) (by decide +kernel), by decide +kernel, by decide +kernel, by decide +kernel⟩
theorem kX14_value : CAV yX14_value cX14_value 4 (some .int) 0 := ⟨tk8 (i := 130) (by decide +kernel) rfl, tk1 (i := 12) (by decide +kernel) rfl, tk8 (i := 129) (by decide +kernel) rfl, tp7 (i := 15) (n := 12) (by decide +kernel), by decide +kernel, by decide +kernel, by decide +kernel⟩
theorem kX14_ofOne : CAV yX14_ofOne cX14_ofOne 3 (some .int) 2 := ⟨tk8 (i := 134) (by decide +kernel) rfl, tk1 (i := 12) (by decide +kernel) rfl, tk8 (i := 133) (by decide +kernel) rfl, tp8 (i := 0) (n := 12) (by decide +kernel), by decide +kernel, by decide +kernel, by decide +kernel⟩
theorem kX14_canSell : CAV yX14_canSell cX14_canSell 6 (some .boolean) 2 := ⟨tk8 (i := 141) (by decide +kernel) rfl, tk1 (i := 12) (by decide +kernel) rfl, tk8 (i := 140) (by decide +kernel) rfl, tp8 (i := 1) (n := 12) (by decide +kernel), by decide +kernel, by decide +kernel, by decide +kernel⟩
theorem kX14_priceOf : CAV yX14_priceOf cX14_priceOf 3 (some .int) 2 := ⟨tk8 (i := 145) (by decide +kernel) rfl, tk1 (i := 12) (by decide +kernel) rfl, tk8 (i := 144) (by decide +kernel) rfl, tp8 (i := 2) (n := 12) (by decide +kernel), by decide +kernel, by decide +kernel, by decide +kernel⟩
theorem kX14_sumOf : CAV yX14_sumOf cX14_sumOf 3 (some .int) 2 := ⟨tk8 (i := 149) (by decide +kernel) rfl, tk1 (i := 12) (by decide +kernel) rfl, tk8 (i := 148) (by decide +kernel) rfl, tp8 (i := 3) (n := 12) (by decide +kernel), by decide +kernel, by decide +kernel, by decide +kernel⟩
theorem kX14_payOf : CAV yX14_payOf cX14_payOf 5 (some .int) 2 := ⟨tk8 (i := 153) (by decide +kernel) rfl, tk1 (i := 12) (by decide +kernel) rfl, tk8 (i := 152) (by decide +kernel) rfl, tp8 (i := 4) (n := 12) (by decide +kernel), by decide +kernel, by decide +kernel, by decide +kernel⟩
theorem kX14_owes : CAV yX14_owes cX14_owes 3 (some .int) 2 := ⟨tk8 (i := 157) (by decide +kernel) rfl, tk1 (i := 12) (by decide +kernel) rfl, tk8 (i := 155) (by decide +kernel) rfl, tk8 (i := 156) (by decide +kernel) rfl, by decide +kernel, by decide +kernel, by decide +kernel⟩
theorem kX14_areMerchants : CAV yX14_areMerchants cX14_areMerchants 3 (some .boolean) 2 := ⟨tk8 (i := 161) (by decide +kernel) rfl, tk1 (i := 12) (by decide +kernel) rfl, tk8 (i := 160) (by decide +kernel) rfl, tp8 (i := 5) (n := 12) (by decide +kernel), by decide +kernel, by decide +kernel, by decide +kernel⟩
theorem kX14_chain : CAV yX14_chain cX14_chain 6 (some .int) 2 := ⟨tk8 (i := 165) (by decide +kernel) rfl, tk1 (i := 12) (by decide +kernel) rfl, tk8 (i := 163) (by decide +kernel) rfl, tk8 (i := 164) (by decide +kernel) rfl, by decide +kernel, by decide +kernel, by decide +kernel⟩
theorem kX14_ring : CAV yX14_ring cX14_ring 5 (some .int) 1 := ⟨tk8 (i := 169) (by decide +kernel) rfl, tk1 (i := 12) (by decide +kernel) rfl, tk8 (i := 167) (by decide +kernel) rfl, tk8 (i := 168) (by decide +kernel) rfl, by decide +kernel, by decide +kernel, by decide +kernel⟩
theorem kX14_setDamp : CAV yX14_setDamp cX14_setDamp 3 (some .int) 1 := ⟨tk8 (i := 174) (by decide +kernel) rfl, tk1 (i := 12) (by decide +kernel) rfl, tk8 (i := 172) (by decide +kernel) rfl, tk8 (i := 173) (by decide +kernel) rfl, by decide +kernel, by decide +kernel, by decide +kernel⟩
theorem kX14_lend : CAV yX14_lend cX14_lend 4 (some .int) 3 := ⟨tk8 (i := 178) (by decide +kernel) rfl, tk1 (i := 12) (by decide +kernel) rfl, tk8 (i := 176) (by decide +kernel) rfl, tk8 (i := 177) (by decide +kernel) rfl, by decide +kernel, by decide +kernel, by decide +kernel⟩
theorem kX14_offset : CAV yX14_offset cX14_offset 4 (some .int) 2 := ⟨tk8 (i := 182) (by decide +kernel) rfl, tk1 (i := 12) (by decide +kernel) rfl, tk8 (i := 180) (by decide +kernel) rfl, tk8 (i := 181) (by decide +kernel) rfl, by decide +kernel, by decide +kernel, by decide +kernel⟩
theorem kX14_dry : CAV yX14_dry cX14_dry 2 (some .int) 1 := ⟨tk8 (i := 186) (by decide +kernel) rfl, tk1 (i := 12) (by decide +kernel) rfl, tk8 (i := 184) (by decide +kernel) rfl, tk8 (i := 185) (by decide +kernel) rfl, by decide +kernel, by decide +kernel, by decide +kernel⟩
theorem kX14_pass : CAV yX14_pass cX14_pass 2 (some .int) 1 := ⟨tk8 (i := 190) (by decide +kernel) rfl, tk1 (i := 12) (by decide +kernel) rfl, tk8 (i := 188) (by decide +kernel) rfl, tk8 (i := 189) (by decide +kernel) rfl, by decide +kernel, by decide +kernel, by decide +kernel⟩
theorem kX14_daysOn : CAV yX14_daysOn cX14_daysOn 5 (some .int) 2 := ⟨tk8 (i := 194) (by decide +kernel) rfl, tk1 (i := 12) (by decide +kernel) rfl, tk8 (i := 193) (by decide +kernel) rfl, tp8 (i := 6) (n := 12) (by decide +kernel), by decide +kernel, by decide +kernel, by decide +kernel⟩
theorem kX14_dayOn : CAV yX14_dayOn cX14_dayOn 4 (some .int) 1 := ⟨tk8 (i := 198) (by decide +kernel) rfl, tk1 (i := 12) (by decide +kernel) rfl, tk8 (i := 197) (by decide +kernel) rfl, tp8 (i := 7) (n := 12) (by decide +kernel), by decide +kernel, by decide +kernel, by decide +kernel⟩
theorem kX14_lose : CAV yX14_lose cX14_lose 3 none 1 := ⟨tk8 (i := 202) (by decide +kernel) rfl, tk1 (i := 12) (by decide +kernel) rfl, tk8 (i := 201) (by decide +kernel) rfl, tp8 (i := 8) (n := 12) (by decide +kernel), by decide +kernel, by decide +kernel, by decide +kernel⟩
theorem kX14_lossOf : CAV yX14_lossOf cX14_lossOf 3 (some .int) 2 := ⟨tk8 (i := 206) (by decide +kernel) rfl, tk1 (i := 12) (by decide +kernel) rfl, tk8 (i := 205) (by decide +kernel) rfl, tp8 (i := 9) (n := 12) (by decide +kernel), by decide +kernel, by decide +kernel, by decide +kernel⟩
theorem kX14_carry : CAV yX14_carry cX14_carry 5 (some .boolean) 2 := ⟨tk8 (i := 210) (by decide +kernel) rfl, tk1 (i := 12) (by decide +kernel) rfl, tk8 (i := 209) (by decide +kernel) rfl, tp8 (i := 10) (n := 12) (by decide +kernel), by decide +kernel, by decide +kernel, by decide +kernel⟩
theorem kX14_weigh : CAV yX14_weigh cX14_weigh 4 none 3 := ⟨tk8 (i := 214) (by decide +kernel) rfl, tk1 (i := 12) (by decide +kernel) rfl, tk8 (i := 213) (by decide +kernel) rfl, tp8 (i := 11) (n := 12) (by decide +kernel), by decide +kernel, by decide +kernel, by decide +kernel⟩
theorem kX14_sell : CAV yX14_sell cX14_sell 7 none 4 := ⟨tk8 (i := 218) (by decide +kernel) rfl, tk1 (i := 12) (by decide +kernel) rfl, tk8 (i := 217) (by decide +kernel) rfl, tp8 (i := 12) (n := 12) (by decide +kernel), by decide +kernel, by decide +kernel, by decide +kernel⟩
theorem kX14_pay : CAV yX14_pay cX14_pay 5 none 4 := ⟨tk8 (i := 222) (by decide +kernel) rfl, tk1 (i := 12) (by decide +kernel) rfl, tk8 (i := 221) (by decide +kernel) rfl, tp8 (i := 13) (n := 12) (by decide +kernel), by decide +kernel, by decide +kernel, by decide +kernel⟩
theorem kX14_foresee : CAV yX14_foresee cX14_foresee 4 (some .int) 2 := ⟨tk8 (i := 227) (by decide +kernel) rfl, tk1 (i := 12) (by decide +kernel) rfl, tk8 (i := 225) (by decide +kernel) rfl, tk8 (i := 226) (by decide +kernel) rfl, by decide +kernel, by decide +kernel, by decide +kernel⟩
theorem kX13_become : CAV yX13_become cX13_become 2 none 1 := ⟨tk8 (i := 231) (by decide +kernel) rfl, tk1 (i := 14) (by decide +kernel) rfl, tk8 (i := 229) (by decide +kernel) rfl, tk8 (i := 230) (by decide +kernel) rfl, by decide +kernel, by decide +kernel, by decide +kernel⟩
theorem kX13_copy : CAV yX13_copy cX13_copy 3 none 2 := ⟨tk8 (i := 235) (by decide +kernel) rfl, tk1 (i := 14) (by decide +kernel) rfl, tk8 (i := 234) (by decide +kernel) rfl, tp8 (i := 14) (n := 14) (by decide +kernel), by decide +kernel, by decide +kernel, by decide +kernel⟩
theorem kX14_costs : CAV yX14_costs cX14_costs 4 (some .int) 2 := ⟨tk9 (i := 0) (by decide +kernel) rfl, tk1 (i := 12) (by decide +kernel) rfl, tk8 (i := 238) (by decide +kernel) rfl, tk8 (i := 239) (by decide +kernel) rfl, by decide +kernel, by decide +kernel, by decide +kernel⟩
theorem kX14_richest : CAV yX14_richest cX14_richest 4 (some .int) 1 := ⟨tk9 (i := 4) (by decide +kernel) rfl, tk1 (i := 12) (by decide +kernel) rfl, tk9 (i := 2) (by decide +kernel) rfl, tk9 (i := 3) (by decide +kernel) rfl, by decide +kernel, by decide +kernel, by decide +kernel⟩
theorem kX14_wealth : CAS yX14_wealth cX14_wealth 2 (some .int) 2 := ⟨tk9 (i := 7) (by decide +kernel) rfl, tk1 (i := 12) (by decide +kernel) rfl, tk9 (i := 6) (by decide +kernel) rfl, by decide +kernel, by decide +kernel, by decide +kernel⟩
theorem kX14_until : CAV yX14_until cX14_until 3 (some .int) 1 := ⟨tk9 (i := 11) (by decide +kernel) rfl, tk1 (i := 12) (by decide +kernel) rfl, tk9 (i := 9) (by decide +kernel) rfl, tk9 (i := 10) (by decide +kernel) rfl, by decide +kernel, by decide +kernel, by decide +kernel⟩
theorem kX14_mean : CAV yX14_mean cX14_mean 1 (some .double) 0 := ⟨tk9 (i := 15) (by decide +kernel) rfl, tk1 (i := 12) (by decide +kernel) rfl, tk9 (i := 13) (by decide +kernel) rfl, tk9 (i := 14) (by decide +kernel) rfl, by decide +kernel, by decide +kernel, by decide +kernel⟩
theorem kX14_digest : CAV yX14_digest cX14_digest 5 (some .long) 0 := ⟨tk9 (i := 19) (by decide +kernel) rfl, tk1 (i := 12) (by decide +kernel) rfl, tk9 (i := 17) (by decide +kernel) rfl, tk9 (i := 18) (by decide +kernel) rfl, by decide +kernel, by decide +kernel, by decide +kernel⟩
theorem ac_int : Cond.arrayClass .int ∈ lw_all := tk1 (i := 47) (by decide +kernel) rfl
