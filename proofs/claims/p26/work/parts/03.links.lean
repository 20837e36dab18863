theorem in_X0 : ∀ w ∈ u_ws RX0 TX0 3, w ∈ lw_all := lw_in_all (by decide +kernel) (by decide +kernel)
theorem in_X1 : ∀ w ∈ u_ws RX1 TX1 2, w ∈ lw_all := lw_in_all (by decide +kernel) (by decide +kernel)
theorem in_X3 : ∀ w ∈ u_ws RX3 TX3 3, w ∈ lw_all := lw_in_all (by decide +kernel) (by decide +kernel)
theorem in_X4 : ∀ w ∈ u_ws RX4 TX4 20, w ∈ lw_all := lw_in_all (by decide +kernel) (by decide +kernel)
theorem in_X5 : ∀ w ∈ u_ws RX5 TX5 9, w ∈ lw_all := lw_in_all (by decide +kernel) (by decide +kernel)
theorem in_X6 : ∀ w ∈ u_ws RX6 TX6 4, w ∈ lw_all := lw_in_all (by decide +kernel) (by decide +kernel)
theorem in_X7 : ∀ w ∈ u_ws RX7 TX7 1, w ∈ lw_all := lw_in_all (by decide +kernel) (by decide +kernel)
theorem in_X8 : ∀ w ∈ u_ws RX8 TX8 15, w ∈ lw_all := lw_in_all (by decide +kernel) (by decide +kernel)
theorem in_X9 : ∀ w ∈ u_ws RX9 TX9 4, w ∈ lw_all := lw_in_all (by decide +kernel) (by decide +kernel)
theorem in_X10 : ∀ w ∈ u_ws RX10 TX10 7, w ∈ lw_all := lw_in_all (by decide +kernel) (by decide +kernel)
theorem in_X11 : ∀ w ∈ u_ws RX11 TX11 10, w ∈ lw_all := lw_in_all (by decide +kernel) (by decide +kernel)
theorem in_X12 : ∀ w ∈ u_ws RX12 TX12 9, w ∈ lw_all := lw_in_all (by decide +kernel) (by decide +kernel)
theorem in_J0 : ∀ w ∈ u_ws RJ0 TJ0 4, w ∈ lw_all := lw_in_all (by decide +kernel) (by decide +kernel)
theorem in_J4 : ∀ w ∈ u_ws RJ4 TJ4 4, w ∈ lw_all := lw_in_all (by decide +kernel) (by decide +kernel)
theorem nL_10 : FN RL 10 10 10 [2, 2, 2, 2, 2, 2, 2, 2, 0, 0] := ⟨RX11, TX11, tyX11, rfl, in_X11, tyX11_ok, tk1 (i := 32) (by decide +kernel) rfl, tk1 (i := 33) (by decide +kernel) rfl, tk1 (i := 13) (by decide +kernel) rfl, fun j hj b => by rcases j with _ | j; rfl; skip; all_goals (repeat (first | (exact absurd hj (by omega)) | (rcases j with _ | j; rfl; skip)))⟩
theorem mL_241 : ML RL 241 yX11_init := Or.inl (tk1 (i := 34) (by decide +kernel) rfl)
theorem nX11_7 : FN RX11 7 6 1 [2] := ⟨RX7, TX7, tyX7, rfl, in_X7, tyX7_ok, tk1 (i := 40) (by decide +kernel) rfl, tk1 (i := 41) (by decide +kernel) rfl, tk1 (i := 14) (by decide +kernel) rfl, fun j hj b => by rcases j with _ | j; rfl; skip; all_goals (repeat (first | (exact absurd hj (by omega)) | (rcases j with _ | j; rfl; skip)))⟩
theorem mX11_11 : ML RX11 11 yX7_init := Or.inl (tk1 (i := 42) (by decide +kernel) rfl)
theorem fX7_7 : FL RX7 7 6 0 true (.array .int) := ⟨RX7, TX7, 1, tyX7, rfl, by decide, in_X7, tyX7_ok, nmX7, rfl, rfl, Or.inl (tk1 (i := 46) (by decide +kernel) rfl)⟩
theorem FX7_7 : FLF RX7 7 6 0 (.array .int) := ⟨TX7, 1, tyX7, rfl, by decide, in_X7, tyX7_ok, nmX7, rfl, rfl, rfl, tk1 (i := 46) (by decide +kernel) rfl⟩
theorem nX11_18 : FN RX11 18 9 7 [2, 0, 0, 2, 2, 2, 2] := ⟨RX10, TX10, tyX10, rfl, in_X10, tyX10_ok, tk1 (i := 51) (by decide +kernel) rfl, tk1 (i := 52) (by decide +kernel) rfl, tk1 (i := 15) (by decide +kernel) rfl, fun j hj b => by rcases j with _ | j; rfl; skip; all_goals (repeat (first | (exact absurd hj (by omega)) | (rcases j with _ | j; rfl; skip)))⟩
theorem mX11_20 : ML RX11 20 yX10_init := Or.inl (tk1 (i := 53) (by decide +kernel) rfl)
theorem nX10_13 : FN RX10 13 6 1 [2] := ⟨RX7, TX7, tyX7, rfl, in_X7, tyX7_ok, tk1 (i := 57) (by decide +kernel) rfl, tk1 (i := 41) (by decide +kernel) rfl, tk1 (i := 14) (by decide +kernel) rfl, fun j hj b => by rcases j with _ | j; rfl; skip; all_goals (repeat (first | (exact absurd hj (by omega)) | (rcases j with _ | j; rfl; skip)))⟩
theorem mX10_15 : ML RX10 15 yX7_init := Or.inl (tk1 (i := 58) (by decide +kernel) rfl)
theorem fX10_7 : FL RX10 7 9 0 true (.object "SpiceQuay$Row") := ⟨RX10, TX10, 7, tyX10, rfl, by decide, in_X10, tyX10_ok, nmX10, rfl, rfl, Or.inl (tk1 (i := 59) (by decide +kernel) rfl)⟩
theorem FX10_7 : FLF RX10 7 9 0 (.object "SpiceQuay$Row") := ⟨TX10, 7, tyX10, rfl, by decide, in_X10, tyX10_ok, nmX10, rfl, rfl, rfl, tk1 (i := 59) (by decide +kernel) rfl⟩
theorem fX10_30 : FL RX10 30 9 1 false .int := ⟨RX10, TX10, 7, tyX10, rfl, by decide, in_X10, tyX10_ok, nmX10, rfl, rfl, Or.inl (tk1 (i := 60) (by decide +kernel) rfl)⟩
theorem fX10_34 : FL RX10 34 9 2 false .int := ⟨RX10, TX10, 7, tyX10, rfl, by decide, in_X10, tyX10_ok, nmX10, rfl, rfl, Or.inl (tk1 (i := 61) (by decide +kernel) rfl)⟩
theorem fX10_18 : FL RX10 18 9 3 true (.object "SpiceQuay$Row") := ⟨RX10, TX10, 7, tyX10, rfl, by decide, in_X10, tyX10_ok, nmX10, rfl, rfl, Or.inl (tk1 (i := 62) (by decide +kernel) rfl)⟩
theorem FX10_18 : FLF RX10 18 9 3 (.object "SpiceQuay$Row") := ⟨TX10, 7, tyX10, rfl, by decide, in_X10, tyX10_ok, nmX10, rfl, rfl, rfl, tk1 (i := 62) (by decide +kernel) rfl⟩
theorem fX5_222 : FL RX5 222 9 3 true (.object "SpiceQuay$Row") := ⟨RX10, TX10, 7, tyX10, rfl, by decide, in_X10, tyX10_ok, nmX10, rfl, rfl, Or.inl (tk1 (i := 63) (by decide +kernel) rfl)⟩
theorem fX10_21 : FL RX10 21 9 4 true (.object "SpiceQuay$Row") := ⟨RX10, TX10, 7, tyX10, rfl, by decide, in_X10, tyX10_ok, nmX10, rfl, rfl, Or.inl (tk1 (i := 64) (by decide +kernel) rfl)⟩
theorem FX10_21 : FLF RX10 21 9 4 (.object "SpiceQuay$Row") := ⟨TX10, 7, tyX10, rfl, by decide, in_X10, tyX10_ok, nmX10, rfl, rfl, rfl, tk1 (i := 64) (by decide +kernel) rfl⟩
theorem fX5_48 : FL RX5 48 9 4 true (.object "SpiceQuay$Row") := ⟨RX10, TX10, 7, tyX10, rfl, by decide, in_X10, tyX10_ok, nmX10, rfl, rfl, Or.inl (tk1 (i := 65) (by decide +kernel) rfl)⟩
theorem fX10_24 : FL RX10 24 9 5 true (.object "SpiceQuay$Row") := ⟨RX10, TX10, 7, tyX10, rfl, by decide, in_X10, tyX10_ok, nmX10, rfl, rfl, Or.inl (tk1 (i := 66) (by decide +kernel) rfl)⟩
theorem FX10_24 : FLF RX10 24 9 5 (.object "SpiceQuay$Row") := ⟨TX10, 7, tyX10, rfl, by decide, in_X10, tyX10_ok, nmX10, rfl, rfl, rfl, tk1 (i := 66) (by decide +kernel) rfl⟩
theorem fX10_27 : FL RX10 27 9 6 true (.object "SpiceQuay$Row") := ⟨RX10, TX10, 7, tyX10, rfl, by decide, in_X10, tyX10_ok, nmX10, rfl, rfl, Or.inl (tk1 (i := 67) (by decide +kernel) rfl)⟩
theorem FX10_27 : FLF RX10 27 9 6 (.object "SpiceQuay$Row") := ⟨TX10, 7, tyX10, rfl, by decide, in_X10, tyX10_ok, nmX10, rfl, rfl, rfl, tk1 (i := 67) (by decide +kernel) rfl⟩
theorem fX5_229 : FL RX5 229 9 6 true (.object "SpiceQuay$Row") := ⟨RX10, TX10, 7, tyX10, rfl, by decide, in_X10, tyX10_ok, nmX10, rfl, rfl, Or.inl (tk1 (i := 68) (by decide +kernel) rfl)⟩
theorem nX11_27 : FN RX11 27 4 9 [2, 2, 2, 2, 2, 2, 0, 0, 0] := ⟨RX5, TX5, tyX5, rfl, in_X5, tyX5_ok, tk1 (i := 84) (by decide +kernel) rfl, tk1 (i := 85) (by decide +kernel) rfl, tk1 (i := 16) (by decide +kernel) rfl, fun j hj b => by rcases j with _ | j; rfl; skip; all_goals (repeat (first | (exact absurd hj (by omega)) | (rcases j with _ | j; rfl; skip)))⟩
theorem mX11_29 : ML RX11 29 yX5_init := Or.inl (tk1 (i := 86) (by decide +kernel) rfl)
theorem nX5_13 : FN RX5 13 3 20 [0, 0, 0, 0, 0, 2, 2, 2, 2, 2, 2, 2, 2, 2, 2, 2, 2, 2, 2, 2] := ⟨RX4, TX4, tyX4, rfl, in_X4, tyX4_ok, tk1 (i := 90) (by decide +kernel) rfl, tk1 (i := 91) (by decide +kernel) rfl, tk1 (i := 17) (by decide +kernel) rfl, fun j hj b => by rcases j with _ | j; rfl; skip; all_goals (repeat (first | (exact absurd hj (by omega)) | (rcases j with _ | j; rfl; skip)))⟩
theorem mX5_15 : ML RX5 15 yX4_init := Or.inl (tk1 (i := 92) (by decide +kernel) rfl)
theorem nX4_7 : FN RX4 7 6 1 [2] := ⟨RX7, TX7, tyX7, rfl, in_X7, tyX7_ok, tk1 (i := 96) (by decide +kernel) rfl, tk1 (i := 41) (by decide +kernel) rfl, tk1 (i := 14) (by decide +kernel) rfl, fun j hj b => by rcases j with _ | j; rfl; skip; all_goals (repeat (first | (exact absurd hj (by omega)) | (rcases j with _ | j; rfl; skip)))⟩
theorem mX4_11 : ML RX4 11 yX7_init := Or.inl (tk1 (i := 97) (by decide +kernel) rfl)
theorem nX4_57 : FN RX4 57 8 4 [0, 2, 2, 2] := ⟨RX9, TX9, tyX9, rfl, in_X9, tyX9_ok, tk1 (i := 98) (by decide +kernel) rfl, tk1 (i := 99) (by decide +kernel) rfl, tk1 (i := 18) (by decide +kernel) rfl, fun j hj b => by rcases j with _ | j; rfl; skip; all_goals (repeat (first | (exact absurd hj (by omega)) | (rcases j with _ | j; rfl; skip)))⟩
theorem mX4_59 : ML RX4 59 yX9_init := Or.inl (tk1 (i := 100) (by decide +kernel) rfl)
theorem nX9_15 : FN RX9 15 6 1 [2] := ⟨RX7, TX7, tyX7, rfl, in_X7, tyX7_ok, tk1 (i := 104) (by decide +kernel) rfl, tk1 (i := 41) (by decide +kernel) rfl, tk1 (i := 14) (by decide +kernel) rfl, fun j hj b => by rcases j with _ | j; rfl; skip; all_goals (repeat (first | (exact absurd hj (by omega)) | (rcases j with _ | j; rfl; skip)))⟩
theorem mX9_17 : ML RX9 17 yX7_init := Or.inl (tk1 (i := 105) (by decide +kernel) rfl)
theorem fX9_9 : FL RX9 9 8 0 false .int := ⟨RX9, TX9, 4, tyX9, rfl, by decide, in_X9, tyX9_ok, nmX9, rfl, rfl, Or.inl (tk1 (i := 106) (by decide +kernel) rfl)⟩
theorem fX5_111 : FL RX5 111 8 0 false .int := ⟨RX9, TX9, 4, tyX9, rfl, by decide, in_X9, tyX9_ok, nmX9, rfl, rfl, Or.inl (tk1 (i := 107) (by decide +kernel) rfl)⟩
theorem fX9_20 : FL RX9 20 8 1 true (.object "SpiceQuay$Row") := ⟨RX9, TX9, 4, tyX9, rfl, by decide, in_X9, tyX9_ok, nmX9, rfl, rfl, Or.inl (tk1 (i := 108) (by decide +kernel) rfl)⟩
theorem FX9_20 : FLF RX9 20 8 1 (.object "SpiceQuay$Row") := ⟨TX9, 4, tyX9, rfl, by decide, in_X9, tyX9_ok, nmX9, rfl, rfl, rfl, tk1 (i := 108) (by decide +kernel) rfl⟩
theorem fX6_32 : FL RX6 32 8 1 true (.object "SpiceQuay$Row") := ⟨RX9, TX9, 4, tyX9, rfl, by decide, in_X9, tyX9_ok, nmX9, rfl, rfl, Or.inl (tk1 (i := 109) (by decide +kernel) rfl)⟩
theorem fX9_24 : FL RX9 24 8 2 true (.object "SpiceQuay$Row") := ⟨RX9, TX9, 4, tyX9, rfl, by decide, in_X9, tyX9_ok, nmX9, rfl, rfl, Or.inl (tk1 (i := 110) (by decide +kernel) rfl)⟩
theorem FX9_24 : FLF RX9 24 8 2 (.object "SpiceQuay$Row") := ⟨TX9, 4, tyX9, rfl, by decide, in_X9, tyX9_ok, nmX9, rfl, rfl, rfl, tk1 (i := 110) (by decide +kernel) rfl⟩
theorem fX6_66 : FL RX6 66 8 2 true (.object "SpiceQuay$Row") := ⟨RX9, TX9, 4, tyX9, rfl, by decide, in_X9, tyX9_ok, nmX9, rfl, rfl, Or.inl (tk1 (i := 111) (by decide +kernel) rfl)⟩
theorem fX9_27 : FL RX9 27 8 3 true (.object "SpiceQuay$Row") := ⟨RX9, TX9, 4, tyX9, rfl, by decide, in_X9, tyX9_ok, nmX9, rfl, rfl, Or.inl (tk1 (i := 112) (by decide +kernel) rfl)⟩
theorem FX9_27 : FLF RX9 27 8 3 (.object "SpiceQuay$Row") := ⟨TX9, 4, tyX9, rfl, by decide, in_X9, tyX9_ok, nmX9, rfl, rfl, rfl, tk1 (i := 112) (by decide +kernel) rfl⟩
theorem fX6_69 : FL RX6 69 8 3 true (.object "SpiceQuay$Row") := ⟨RX9, TX9, 4, tyX9, rfl, by decide, in_X9, tyX9_ok, nmX9, rfl, rfl, Or.inl (tk1 (i := 113) (by decide +kernel) rfl)⟩
theorem fX4_64 : FL RX4 64 3 0 false .int := ⟨RX4, TX4, 20, tyX4, rfl, by decide, in_X4, tyX4_ok, nmX4, rfl, rfl, Or.inl (tk1 (i := 123) (by decide +kernel) rfl)⟩
theorem fX5_93 : FL RX5 93 3 0 false .int := ⟨RX4, TX4, 20, tyX4, rfl, by decide, in_X4, tyX4_ok, nmX4, rfl, rfl, Or.inl (tk1 (i := 124) (by decide +kernel) rfl)⟩
theorem fX11_270 : FL RX11 270 3 0 false .int := ⟨RX4, TX4, 20, tyX4, rfl, by decide, in_X4, tyX4_ok, nmX4, rfl, rfl, Or.inl (tk1 (i := 125) (by decide +kernel) rfl)⟩
theorem fX4_68 : FL RX4 68 3 1 false .int := ⟨RX4, TX4, 20, tyX4, rfl, by decide, in_X4, tyX4_ok, nmX4, rfl, rfl, Or.inl (tk1 (i := 126) (by decide +kernel) rfl)⟩
theorem fX5_95 : FL RX5 95 3 1 false .int := ⟨RX4, TX4, 20, tyX4, rfl, by decide, in_X4, tyX4_ok, nmX4, rfl, rfl, Or.inl (tk1 (i := 127) (by decide +kernel) rfl)⟩
theorem fX11_135 : FL RX11 135 3 1 false .int := ⟨RX4, TX4, 20, tyX4, rfl, by decide, in_X4, tyX4_ok, nmX4, rfl, rfl, Or.inl (tk1 (i := 128) (by decide +kernel) rfl)⟩
theorem fX4_71 : FL RX4 71 3 2 false .int := ⟨RX4, TX4, 20, tyX4, rfl, by decide, in_X4, tyX4_ok, nmX4, rfl, rfl, Or.inl (tk1 (i := 129) (by decide +kernel) rfl)⟩
theorem fX8_89 : FL RX8 89 3 2 false .int := ⟨RX4, TX4, 20, tyX4, rfl, by decide, in_X4, tyX4_ok, nmX4, rfl, rfl, Or.inl (tk1 (i := 130) (by decide +kernel) rfl)⟩
theorem fX5_97 : FL RX5 97 3 2 false .int := ⟨RX4, TX4, 20, tyX4, rfl, by decide, in_X4, tyX4_ok, nmX4, rfl, rfl, Or.inl (tk1 (i := 131) (by decide +kernel) rfl)⟩
theorem fX11_238 : FL RX11 238 3 2 false .int := ⟨RX4, TX4, 20, tyX4, rfl, by decide, in_X4, tyX4_ok, nmX4, rfl, rfl, Or.inl (tk1 (i := 132) (by decide +kernel) rfl)⟩
theorem fX4_74 : FL RX4 74 3 3 false .int := ⟨RX4, TX4, 20, tyX4, rfl, by decide, in_X4, tyX4_ok, nmX4, rfl, rfl, Or.inl (tk1 (i := 133) (by decide +kernel) rfl)⟩
theorem fX8_71 : FL RX8 71 3 3 false .int := ⟨RX4, TX4, 20, tyX4, rfl, by decide, in_X4, tyX4_ok, nmX4, rfl, rfl, Or.inl (tk1 (i := 134) (by decide +kernel) rfl)⟩
theorem fX5_99 : FL RX5 99 3 3 false .int := ⟨RX4, TX4, 20, tyX4, rfl, by decide, in_X4, tyX4_ok, nmX4, rfl, rfl, Or.inl (tk1 (i := 135) (by decide +kernel) rfl)⟩
theorem fX11_247 : FL RX11 247 3 3 false .int := ⟨RX4, TX4, 20, tyX4, rfl, by decide, in_X4, tyX4_ok, nmX4, rfl, rfl, Or.inl (tk1 (i := 136) (by decide +kernel) rfl)⟩
theorem fX4_77 : FL RX4 77 3 4 false .int := ⟨RX4, TX4, 20, tyX4, rfl, by decide, in_X4, tyX4_ok, nmX4, rfl, rfl, Or.inl (tk1 (i := 137) (by decide +kernel) rfl)⟩
theorem fX0_54 : FL RX0 54 3 4 false .int := ⟨RX4, TX4, 20, tyX4, rfl, by decide, in_X4, tyX4_ok, nmX4, rfl, rfl, Or.inl (tk1 (i := 138) (by decide +kernel) rfl)⟩
theorem fX5_104 : FL RX5 104 3 4 false .int := ⟨RX4, TX4, 20, tyX4, rfl, by decide, in_X4, tyX4_ok, nmX4, rfl, rfl, Or.inl (tk1 (i := 139) (by decide +kernel) rfl)⟩
theorem fX11_143 : FL RX11 143 3 4 false .int := ⟨RX4, TX4, 20, tyX4, rfl, by decide, in_X4, tyX4_ok, nmX4, rfl, rfl, Or.inl (tk1 (i := 140) (by decide +kernel) rfl)⟩
theorem fX4_14 : FL RX4 14 3 5 true (.object "SpiceQuay$Row") := ⟨RX4, TX4, 20, tyX4, rfl, by decide, in_X4, tyX4_ok, nmX4, rfl, rfl, Or.inl (tk1 (i := 141) (by decide +kernel) rfl)⟩
theorem FX4_14 : FLF RX4 14 3 5 (.object "SpiceQuay$Row") := ⟨TX4, 20, tyX4, rfl, by decide, in_X4, tyX4_ok, nmX4, rfl, rfl, rfl, tk1 (i := 141) (by decide +kernel) rfl⟩
theorem fX8_103 : FL RX8 103 3 5 true (.object "SpiceQuay$Row") := ⟨RX4, TX4, 20, tyX4, rfl, by decide, in_X4, tyX4_ok, nmX4, rfl, rfl, Or.inl (tk1 (i := 142) (by decide +kernel) rfl)⟩
theorem fX5_119 : FL RX5 119 3 5 true (.object "SpiceQuay$Row") := ⟨RX4, TX4, 20, tyX4, rfl, by decide, in_X4, tyX4_ok, nmX4, rfl, rfl, Or.inl (tk1 (i := 143) (by decide +kernel) rfl)⟩
theorem fX4_18 : FL RX4 18 3 6 true (.object "SpiceQuay$Row") := ⟨RX4, TX4, 20, tyX4, rfl, by decide, in_X4, tyX4_ok, nmX4, rfl, rfl, Or.inl (tk1 (i := 144) (by decide +kernel) rfl)⟩
theorem FX4_18 : FLF RX4 18 3 6 (.object "SpiceQuay$Row") := ⟨TX4, 20, tyX4, rfl, by decide, in_X4, tyX4_ok, nmX4, rfl, rfl, rfl, tk1 (i := 144) (by decide +kernel) rfl⟩
theorem fX5_130 : FL RX5 130 3 6 true (.object "SpiceQuay$Row") := ⟨RX4, TX4, 20, tyX4, rfl, by decide, in_X4, tyX4_ok, nmX4, rfl, rfl, Or.inl (tk1 (i := 145) (by decide +kernel) rfl)⟩
theorem fX0_129 : FL RX0 129 3 6 true (.object "SpiceQuay$Row") := ⟨RX4, TX4, 20, tyX4, rfl, by decide, in_X4, tyX4_ok, nmX4, rfl, rfl, Or.inl (tk1 (i := 146) (by decide +kernel) rfl)⟩
theorem fX8_144 : FL RX8 144 3 6 true (.object "SpiceQuay$Row") := ⟨RX4, TX4, 20, tyX4, rfl, by decide, in_X4, tyX4_ok, nmX4, rfl, rfl, Or.inl (tk1 (i := 147) (by decide +kernel) rfl)⟩
theorem fX4_21 : FL RX4 21 3 7 true (.object "SpiceQuay$Row") := ⟨RX4, TX4, 20, tyX4, rfl, by decide, in_X4, tyX4_ok, nmX4, rfl, rfl, Or.inl (tk1 (i := 148) (by decide +kernel) rfl)⟩
theorem FX4_21 : FLF RX4 21 3 7 (.object "SpiceQuay$Row") := ⟨TX4, 20, tyX4, rfl, by decide, in_X4, tyX4_ok, nmX4, rfl, rfl, rfl, tk1 (i := 148) (by decide +kernel) rfl⟩
theorem fX5_133 : FL RX5 133 3 7 true (.object "SpiceQuay$Row") := ⟨RX4, TX4, 20, tyX4, rfl, by decide, in_X4, tyX4_ok, nmX4, rfl, rfl, Or.inl (tk1 (i := 149) (by decide +kernel) rfl)⟩
theorem fX0_138 : FL RX0 138 3 7 true (.object "SpiceQuay$Row") := ⟨RX4, TX4, 20, tyX4, rfl, by decide, in_X4, tyX4_ok, nmX4, rfl, rfl, Or.inl (tk1 (i := 150) (by decide +kernel) rfl)⟩
theorem fX8_147 : FL RX8 147 3 7 true (.object "SpiceQuay$Row") := ⟨RX4, TX4, 20, tyX4, rfl, by decide, in_X4, tyX4_ok, nmX4, rfl, rfl, Or.inl (tk1 (i := 151) (by decide +kernel) rfl)⟩
theorem fX4_24 : FL RX4 24 3 8 true (.object "SpiceQuay$Row") := ⟨RX4, TX4, 20, tyX4, rfl, by decide, in_X4, tyX4_ok, nmX4, rfl, rfl, Or.inl (tk1 (i := 152) (by decide +kernel) rfl)⟩
theorem FX4_24 : FLF RX4 24 3 8 (.object "SpiceQuay$Row") := ⟨TX4, 20, tyX4, rfl, by decide, in_X4, tyX4_ok, nmX4, rfl, rfl, rfl, tk1 (i := 152) (by decide +kernel) rfl⟩
theorem fX8_92 : FL RX8 92 3 8 true (.object "SpiceQuay$Row") := ⟨RX4, TX4, 20, tyX4, rfl, by decide, in_X4, tyX4_ok, nmX4, rfl, rfl, Or.inl (tk1 (i := 153) (by decide +kernel) rfl)⟩
theorem fX5_136 : FL RX5 136 3 8 true (.object "SpiceQuay$Row") := ⟨RX4, TX4, 20, tyX4, rfl, by decide, in_X4, tyX4_ok, nmX4, rfl, rfl, Or.inl (tk1 (i := 154) (by decide +kernel) rfl)⟩
theorem fX4_27 : FL RX4 27 3 9 true (.object "SpiceQuay$Row") := ⟨RX4, TX4, 20, tyX4, rfl, by decide, in_X4, tyX4_ok, nmX4, rfl, rfl, Or.inl (tk1 (i := 155) (by decide +kernel) rfl)⟩
theorem FX4_27 : FLF RX4 27 3 9 (.object "SpiceQuay$Row") := ⟨TX4, 20, tyX4, rfl, by decide, in_X4, tyX4_ok, nmX4, rfl, rfl, rfl, tk1 (i := 155) (by decide +kernel) rfl⟩
theorem fX5_139 : FL RX5 139 3 9 true (.object "SpiceQuay$Row") := ⟨RX4, TX4, 20, tyX4, rfl, by decide, in_X4, tyX4_ok, nmX4, rfl, rfl, Or.inl (tk1 (i := 156) (by decide +kernel) rfl)⟩
theorem fX0_161 : FL RX0 161 3 9 true (.object "SpiceQuay$Row") := ⟨RX4, TX4, 20, tyX4, rfl, by decide, in_X4, tyX4_ok, nmX4, rfl, rfl, Or.inl (tk1 (i := 157) (by decide +kernel) rfl)⟩
theorem fX8_115 : FL RX8 115 3 9 true (.object "SpiceQuay$Row") := ⟨RX4, TX4, 20, tyX4, rfl, by decide, in_X4, tyX4_ok, nmX4, rfl, rfl, Or.inl (tk1 (i := 158) (by decide +kernel) rfl)⟩
theorem fX11_184 : FL RX11 184 3 9 true (.object "SpiceQuay$Row") := ⟨RX4, TX4, 20, tyX4, rfl, by decide, in_X4, tyX4_ok, nmX4, rfl, rfl, Or.inl (tk1 (i := 159) (by decide +kernel) rfl)⟩
theorem fX4_30 : FL RX4 30 3 10 true (.object "SpiceQuay$Row") := ⟨RX4, TX4, 20, tyX4, rfl, by decide, in_X4, tyX4_ok, nmX4, rfl, rfl, Or.inl (tk1 (i := 160) (by decide +kernel) rfl)⟩
theorem FX4_30 : FLF RX4 30 3 10 (.object "SpiceQuay$Row") := ⟨TX4, 20, tyX4, rfl, by decide, in_X4, tyX4_ok, nmX4, rfl, rfl, rfl, tk1 (i := 160) (by decide +kernel) rfl⟩
theorem fX8_106 : FL RX8 106 3 10 true (.object "SpiceQuay$Row") := ⟨RX4, TX4, 20, tyX4, rfl, by decide, in_X4, tyX4_ok, nmX4, rfl, rfl, Or.inl (tk1 (i := 161) (by decide +kernel) rfl)⟩
theorem fX5_142 : FL RX5 142 3 10 true (.object "SpiceQuay$Row") := ⟨RX4, TX4, 20, tyX4, rfl, by decide, in_X4, tyX4_ok, nmX4, rfl, rfl, Or.inl (tk1 (i := 162) (by decide +kernel) rfl)⟩
theorem fX4_33 : FL RX4 33 3 11 true (.object "SpiceQuay$Row") := ⟨RX4, TX4, 20, tyX4, rfl, by decide, in_X4, tyX4_ok, nmX4, rfl, rfl, Or.inl (tk1 (i := 163) (by decide +kernel) rfl)⟩
theorem FX4_33 : FLF RX4 33 3 11 (.object "SpiceQuay$Row") := ⟨TX4, 20, tyX4, rfl, by decide, in_X4, tyX4_ok, nmX4, rfl, rfl, rfl, tk1 (i := 163) (by decide +kernel) rfl⟩
theorem fX8_74 : FL RX8 74 3 11 true (.object "SpiceQuay$Row") := ⟨RX4, TX4, 20, tyX4, rfl, by decide, in_X4, tyX4_ok, nmX4, rfl, rfl, Or.inl (tk1 (i := 164) (by decide +kernel) rfl)⟩
theorem fX5_148 : FL RX5 148 3 11 true (.object "SpiceQuay$Row") := ⟨RX4, TX4, 20, tyX4, rfl, by decide, in_X4, tyX4_ok, nmX4, rfl, rfl, Or.inl (tk1 (i := 165) (by decide +kernel) rfl)⟩
theorem fX4_36 : FL RX4 36 3 12 true (.object "SpiceQuay$Row") := ⟨RX4, TX4, 20, tyX4, rfl, by decide, in_X4, tyX4_ok, nmX4, rfl, rfl, Or.inl (tk1 (i := 166) (by decide +kernel) rfl)⟩
theorem FX4_36 : FLF RX4 36 3 12 (.object "SpiceQuay$Row") := ⟨TX4, 20, tyX4, rfl, by decide, in_X4, tyX4_ok, nmX4, rfl, rfl, rfl, tk1 (i := 166) (by decide +kernel) rfl⟩
theorem fX8_85 : FL RX8 85 3 12 true (.object "SpiceQuay$Row") := ⟨RX4, TX4, 20, tyX4, rfl, by decide, in_X4, tyX4_ok, nmX4, rfl, rfl, Or.inl (tk1 (i := 167) (by decide +kernel) rfl)⟩
theorem fX5_151 : FL RX5 151 3 12 true (.object "SpiceQuay$Row") := ⟨RX4, TX4, 20, tyX4, rfl, by decide, in_X4, tyX4_ok, nmX4, rfl, rfl, Or.inl (tk1 (i := 168) (by decide +kernel) rfl)⟩
theorem fX4_39 : FL RX4 39 3 13 true (.object "SpiceQuay$Row") := ⟨RX4, TX4, 20, tyX4, rfl, by decide, in_X4, tyX4_ok, nmX4, rfl, rfl, Or.inl (tk1 (i := 169) (by decide +kernel) rfl)⟩
theorem FX4_39 : FLF RX4 39 3 13 (.object "SpiceQuay$Row") := ⟨TX4, 20, tyX4, rfl, by decide, in_X4, tyX4_ok, nmX4, rfl, rfl, rfl, tk1 (i := 169) (by decide +kernel) rfl⟩
theorem fX0_91 : FL RX0 91 3 13 true (.object "SpiceQuay$Row") := ⟨RX4, TX4, 20, tyX4, rfl, by decide, in_X4, tyX4_ok, nmX4, rfl, rfl, Or.inl (tk1 (i := 170) (by decide +kernel) rfl)⟩
theorem fX5_157 : FL RX5 157 3 13 true (.object "SpiceQuay$Row") := ⟨RX4, TX4, 20, tyX4, rfl, by decide, in_X4, tyX4_ok, nmX4, rfl, rfl, Or.inl (tk1 (i := 171) (by decide +kernel) rfl)⟩
theorem fX11_273 : FL RX11 273 3 13 true (.object "SpiceQuay$Row") := ⟨RX4, TX4, 20, tyX4, rfl, by decide, in_X4, tyX4_ok, nmX4, rfl, rfl, Or.inl (tk1 (i := 172) (by decide +kernel) rfl)⟩
theorem fX4_42 : FL RX4 42 3 14 true (.object "SpiceQuay$Row") := ⟨RX4, TX4, 20, tyX4, rfl, by decide, in_X4, tyX4_ok, nmX4, rfl, rfl, Or.inl (tk1 (i := 173) (by decide +kernel) rfl)⟩
theorem FX4_42 : FLF RX4 42 3 14 (.object "SpiceQuay$Row") := ⟨TX4, 20, tyX4, rfl, by decide, in_X4, tyX4_ok, nmX4, rfl, rfl, rfl, tk1 (i := 173) (by decide +kernel) rfl⟩
theorem fX0_85 : FL RX0 85 3 14 true (.object "SpiceQuay$Row") := ⟨RX4, TX4, 20, tyX4, rfl, by decide, in_X4, tyX4_ok, nmX4, rfl, rfl, Or.inl (tk1 (i := 174) (by decide +kernel) rfl)⟩
theorem fX5_160 : FL RX5 160 3 14 true (.object "SpiceQuay$Row") := ⟨RX4, TX4, 20, tyX4, rfl, by decide, in_X4, tyX4_ok, nmX4, rfl, rfl, Or.inl (tk1 (i := 175) (by decide +kernel) rfl)⟩
theorem fX11_276 : FL RX11 276 3 14 true (.object "SpiceQuay$Row") := ⟨RX4, TX4, 20, tyX4, rfl, by decide, in_X4, tyX4_ok, nmX4, rfl, rfl, Or.inl (tk1 (i := 176) (by decide +kernel) rfl)⟩
theorem fX4_45 : FL RX4 45 3 15 true (.object "SpiceQuay$Row") := ⟨RX4, TX4, 20, tyX4, rfl, by decide, in_X4, tyX4_ok, nmX4, rfl, rfl, Or.inl (tk1 (i := 177) (by decide +kernel) rfl)⟩
theorem FX4_45 : FLF RX4 45 3 15 (.object "SpiceQuay$Row") := ⟨TX4, 20, tyX4, rfl, by decide, in_X4, tyX4_ok, nmX4, rfl, rfl, rfl, tk1 (i := 177) (by decide +kernel) rfl⟩
theorem fX0_88 : FL RX0 88 3 15 true (.object "SpiceQuay$Row") := ⟨RX4, TX4, 20, tyX4, rfl, by decide, in_X4, tyX4_ok, nmX4, rfl, rfl, Or.inl (tk1 (i := 178) (by decide +kernel) rfl)⟩
theorem fX5_163 : FL RX5 163 3 15 true (.object "SpiceQuay$Row") := ⟨RX4, TX4, 20, tyX4, rfl, by decide, in_X4, tyX4_ok, nmX4, rfl, rfl, Or.inl (tk1 (i := 179) (by decide +kernel) rfl)⟩
theorem fX11_279 : FL RX11 279 3 15 true (.object "SpiceQuay$Row") := ⟨RX4, TX4, 20, tyX4, rfl, by decide, in_X4, tyX4_ok, nmX4, rfl, rfl, Or.inl (tk1 (i := 180) (by decide +kernel) rfl)⟩
theorem fX4_48 : FL RX4 48 3 16 true (.object "SpiceQuay$Row") := ⟨RX4, TX4, 20, tyX4, rfl, by decide, in_X4, tyX4_ok, nmX4, rfl, rfl, Or.inl (tk1 (i := 181) (by decide +kernel) rfl)⟩
theorem FX4_48 : FLF RX4 48 3 16 (.object "SpiceQuay$Row") := ⟨TX4, 20, tyX4, rfl, by decide, in_X4, tyX4_ok, nmX4, rfl, rfl, rfl, tk1 (i := 181) (by decide +kernel) rfl⟩
theorem fX0_82 : FL RX0 82 3 16 true (.object "SpiceQuay$Row") := ⟨RX4, TX4, 20, tyX4, rfl, by decide, in_X4, tyX4_ok, nmX4, rfl, rfl, Or.inl (tk1 (i := 182) (by decide +kernel) rfl)⟩
theorem fX5_166 : FL RX5 166 3 16 true (.object "SpiceQuay$Row") := ⟨RX4, TX4, 20, tyX4, rfl, by decide, in_X4, tyX4_ok, nmX4, rfl, rfl, Or.inl (tk1 (i := 183) (by decide +kernel) rfl)⟩
theorem fX4_51 : FL RX4 51 3 17 true (.object "SpiceQuay$Row") := ⟨RX4, TX4, 20, tyX4, rfl, by decide, in_X4, tyX4_ok, nmX4, rfl, rfl, Or.inl (tk1 (i := 184) (by decide +kernel) rfl)⟩
theorem FX4_51 : FLF RX4 51 3 17 (.object "SpiceQuay$Row") := ⟨TX4, 20, tyX4, rfl, by decide, in_X4, tyX4_ok, nmX4, rfl, rfl, rfl, tk1 (i := 184) (by decide +kernel) rfl⟩
theorem fX0_65 : FL RX0 65 3 17 true (.object "SpiceQuay$Row") := ⟨RX4, TX4, 20, tyX4, rfl, by decide, in_X4, tyX4_ok, nmX4, rfl, rfl, Or.inl (tk1 (i := 185) (by decide +kernel) rfl)⟩
theorem fX5_172 : FL RX5 172 3 17 true (.object "SpiceQuay$Row") := ⟨RX4, TX4, 20, tyX4, rfl, by decide, in_X4, tyX4_ok, nmX4, rfl, rfl, Or.inl (tk1 (i := 186) (by decide +kernel) rfl)⟩
theorem fX4_54 : FL RX4 54 3 18 true (.object "SpiceQuay$Row") := ⟨RX4, TX4, 20, tyX4, rfl, by decide, in_X4, tyX4_ok, nmX4, rfl, rfl, Or.inl (tk1 (i := 187) (by decide +kernel) rfl)⟩
theorem FX4_54 : FLF RX4 54 3 18 (.object "SpiceQuay$Row") := ⟨TX4, 20, tyX4, rfl, by decide, in_X4, tyX4_ok, nmX4, rfl, rfl, rfl, tk1 (i := 187) (by decide +kernel) rfl⟩
theorem fX0_75 : FL RX0 75 3 18 true (.object "SpiceQuay$Row") := ⟨RX4, TX4, 20, tyX4, rfl, by decide, in_X4, tyX4_ok, nmX4, rfl, rfl, Or.inl (tk1 (i := 188) (by decide +kernel) rfl)⟩
theorem fX5_178 : FL RX5 178 3 18 true (.object "SpiceQuay$Row") := ⟨RX4, TX4, 20, tyX4, rfl, by decide, in_X4, tyX4_ok, nmX4, rfl, rfl, Or.inl (tk1 (i := 189) (by decide +kernel) rfl)⟩
theorem fX0_19 : FL RX0 19 3 19 true (.object "SpiceQuay$Steps") := ⟨RX4, TX4, 20, tyX4, rfl, by decide, in_X4, tyX4_ok, nmX4, rfl, rfl, Or.inl (tk1 (i := 190) (by decide +kernel) rfl)⟩
theorem fX4_60 : FL RX4 60 3 19 true (.object "SpiceQuay$Steps") := ⟨RX4, TX4, 20, tyX4, rfl, by decide, in_X4, tyX4_ok, nmX4, rfl, rfl, Or.inl (tk1 (i := 191) (by decide +kernel) rfl)⟩
theorem FX4_60 : FLF RX4 60 3 19 (.object "SpiceQuay$Steps") := ⟨TX4, 20, tyX4, rfl, by decide, in_X4, tyX4_ok, nmX4, rfl, rfl, rfl, tk1 (i := 191) (by decide +kernel) rfl⟩
theorem fX5_107 : FL RX5 107 3 19 true (.object "SpiceQuay$Steps") := ⟨RX4, TX4, 20, tyX4, rfl, by decide, in_X4, tyX4_ok, nmX4, rfl, rfl, Or.inl (tk1 (i := 192) (by decide +kernel) rfl)⟩
theorem nX5_20 : FN RX5 20 2 3 [2, 0, 0] := ⟨RX3, TX3, tyX3, rfl, in_X3, tyX3_ok, tk1 (i := 234) (by decide +kernel) rfl, tk1 (i := 235) (by decide +kernel) rfl, tk1 (i := 19) (by decide +kernel) rfl, fun j hj b => by rcases j with _ | j; rfl; skip; all_goals (repeat (first | (exact absurd hj (by omega)) | (rcases j with _ | j; rfl; skip)))⟩
theorem mX5_22 : ML RX5 22 yX3_init := Or.inl (tk1 (i := 236) (by decide +kernel) rfl)
theorem nX3_13 : FN RX3 13 6 1 [2] := ⟨RX7, TX7, tyX7, rfl, in_X7, tyX7_ok, tk2 (i := 0) (by decide +kernel) rfl, tk1 (i := 41) (by decide +kernel) rfl, tk1 (i := 14) (by decide +kernel) rfl, fun j hj b => by rcases j with _ | j; rfl; skip; all_goals (repeat (first | (exact absurd hj (by omega)) | (rcases j with _ | j; rfl; skip)))⟩
theorem mX3_15 : ML RX3 15 yX7_init := Or.inl (tk2 (i := 1) (by decide +kernel) rfl)
theorem fX3_18 : FL RX3 18 2 0 true (.object "SpiceQuay$Row") := ⟨RX3, TX3, 3, tyX3, rfl, by decide, in_X3, tyX3_ok, nmX3, rfl, rfl, Or.inl (tk2 (i := 2) (by decide +kernel) rfl)⟩
theorem FX3_18 : FLF RX3 18 2 0 (.object "SpiceQuay$Row") := ⟨TX3, 3, tyX3, rfl, by decide, in_X3, tyX3_ok, nmX3, rfl, rfl, rfl, tk2 (i := 2) (by decide +kernel) rfl⟩
theorem fX3_7 : FL RX3 7 2 1 true .int := ⟨RX3, TX3, 3, tyX3, rfl, by decide, in_X3, tyX3_ok, nmX3, rfl, rfl, Or.inl (tk2 (i := 3) (by decide +kernel) rfl)⟩
theorem FX3_7 : FLF RX3 7 2 1 .int := ⟨TX3, 3, tyX3, rfl, by decide, in_X3, tyX3_ok, nmX3, rfl, rfl, rfl, tk2 (i := 3) (by decide +kernel) rfl⟩
theorem fX3_22 : FL RX3 22 2 2 false .int := ⟨RX3, TX3, 3, tyX3, rfl, by decide, in_X3, tyX3_ok, nmX3, rfl, rfl, Or.inl (tk2 (i := 4) (by decide +kernel) rfl)⟩
theorem fX5_16 : FL RX5 16 4 0 true (.object "SpiceQuay$Plan") := ⟨RX5, TX5, 9, tyX5, rfl, by decide, in_X5, tyX5_ok, nmX5, rfl, rfl, Or.inl (tk2 (i := 12) (by decide +kernel) rfl)⟩
theorem FX5_16 : FLF RX5 16 4 0 (.object "SpiceQuay$Plan") := ⟨TX5, 9, tyX5, rfl, by decide, in_X5, tyX5_ok, nmX5, rfl, rfl, rfl, tk2 (i := 12) (by decide +kernel) rfl⟩
theorem fX11_99 : FL RX11 99 4 0 true (.object "SpiceQuay$Plan") := ⟨RX5, TX5, 9, tyX5, rfl, by decide, in_X5, tyX5_ok, nmX5, rfl, rfl, Or.inl (tk2 (i := 13) (by decide +kernel) rfl)⟩
theorem fX5_7 : FL RX5 7 4 1 true (.object "SpiceQuay$Tokens") := ⟨RX5, TX5, 9, tyX5, rfl, by decide, in_X5, tyX5_ok, nmX5, rfl, rfl, Or.inl (tk2 (i := 14) (by decide +kernel) rfl)⟩
theorem FX5_7 : FLF RX5 7 4 1 (.object "SpiceQuay$Tokens") := ⟨TX5, 9, tyX5, rfl, by decide, in_X5, tyX5_ok, nmX5, rfl, rfl, rfl, tk2 (i := 14) (by decide +kernel) rfl⟩
theorem fX5_25 : FL RX5 25 4 2 true (.object "SpiceQuay$Names") := ⟨RX5, TX5, 9, tyX5, rfl, by decide, in_X5, tyX5_ok, nmX5, rfl, rfl, Or.inl (tk2 (i := 15) (by decide +kernel) rfl)⟩
theorem FX5_25 : FLF RX5 25 4 2 (.object "SpiceQuay$Names") := ⟨TX5, 9, tyX5, rfl, by decide, in_X5, tyX5_ok, nmX5, rfl, rfl, rfl, tk2 (i := 15) (by decide +kernel) rfl⟩
theorem fX5_29 : FL RX5 29 4 3 true (.object "SpiceQuay$Names") := ⟨RX5, TX5, 9, tyX5, rfl, by decide, in_X5, tyX5_ok, nmX5, rfl, rfl, Or.inl (tk2 (i := 16) (by decide +kernel) rfl)⟩
theorem FX5_29 : FLF RX5 29 4 3 (.object "SpiceQuay$Names") := ⟨TX5, 9, tyX5, rfl, by decide, in_X5, tyX5_ok, nmX5, rfl, rfl, rfl, tk2 (i := 16) (by decide +kernel) rfl⟩
theorem fX5_32 : FL RX5 32 4 4 true (.object "SpiceQuay$Names") := ⟨RX5, TX5, 9, tyX5, rfl, by decide, in_X5, tyX5_ok, nmX5, rfl, rfl, Or.inl (tk2 (i := 17) (by decide +kernel) rfl)⟩
theorem FX5_32 : FLF RX5 32 4 4 (.object "SpiceQuay$Names") := ⟨TX5, 9, tyX5, rfl, by decide, in_X5, tyX5_ok, nmX5, rfl, rfl, rfl, tk2 (i := 17) (by decide +kernel) rfl⟩
theorem fX5_35 : FL RX5 35 4 5 true (.object "SpiceQuay$Names") := ⟨RX5, TX5, 9, tyX5, rfl, by decide, in_X5, tyX5_ok, nmX5, rfl, rfl, Or.inl (tk2 (i := 18) (by decide +kernel) rfl)⟩
theorem FX5_35 : FLF RX5 35 4 5 (.object "SpiceQuay$Names") := ⟨TX5, 9, tyX5, rfl, by decide, in_X5, tyX5_ok, nmX5, rfl, rfl, rfl, tk2 (i := 18) (by decide +kernel) rfl⟩
theorem fX5_38 : FL RX5 38 4 6 false .int := ⟨RX5, TX5, 9, tyX5, rfl, by decide, in_X5, tyX5_ok, nmX5, rfl, rfl, Or.inl (tk2 (i := 19) (by decide +kernel) rfl)⟩
theorem fX5_42 : FL RX5 42 4 7 false .int := ⟨RX5, TX5, 9, tyX5, rfl, by decide, in_X5, tyX5_ok, nmX5, rfl, rfl, Or.inl (tk2 (i := 20) (by decide +kernel) rfl)⟩
theorem fX5_45 : FL RX5 45 4 8 false .int := ⟨RX5, TX5, 9, tyX5, rfl, by decide, in_X5, tyX5_ok, nmX5, rfl, rfl, Or.inl (tk2 (i := 21) (by decide +kernel) rfl)⟩
theorem nX11_36 : FN RX11 36 3 20 [0, 0, 0, 0, 0, 2, 2, 2, 2, 2, 2, 2, 2, 2, 2, 2, 2, 2, 2, 2] := ⟨RX4, TX4, tyX4, rfl, in_X4, tyX4_ok, tk2 (i := 41) (by decide +kernel) rfl, tk1 (i := 91) (by decide +kernel) rfl, tk1 (i := 17) (by decide +kernel) rfl, fun j hj b => by rcases j with _ | j; rfl; skip; all_goals (repeat (first | (exact absurd hj (by omega)) | (rcases j with _ | j; rfl; skip)))⟩
theorem mX11_38 : ML RX11 38 yX4_init := Or.inl (tk2 (i := 42) (by decide +kernel) rfl)
theorem nX11_43 : FN RX11 43 7 15 [2, 0, 0, 0, 0, 0, 2, 2, 2, 2, 2, 2, 2, 2, 2] := ⟨RX8, TX8, tyX8, rfl, in_X8, tyX8_ok, tk2 (i := 43) (by decide +kernel) rfl, tk2 (i := 44) (by decide +kernel) rfl, tk1 (i := 20) (by decide +kernel) rfl, fun j hj b => by rcases j with _ | j; rfl; skip; all_goals (repeat (first | (exact absurd hj (by omega)) | (rcases j with _ | j; rfl; skip)))⟩
theorem mX11_45 : ML RX11 45 yX8_init := Or.inl (tk2 (i := 45) (by decide +kernel) rfl)
theorem nX8_20 : FN RX8 20 6 1 [2] := ⟨RX7, TX7, tyX7, rfl, in_X7, tyX7_ok, tk2 (i := 49) (by decide +kernel) rfl, tk1 (i := 41) (by decide +kernel) rfl, tk1 (i := 14) (by decide +kernel) rfl, fun j hj b => by rcases j with _ | j; rfl; skip; all_goals (repeat (first | (exact absurd hj (by omega)) | (rcases j with _ | j; rfl; skip)))⟩
theorem mX8_24 : ML RX8 24 yX7_init := Or.inl (tk2 (i := 50) (by decide +kernel) rfl)
theorem nX8_46 : FN RX8 46 1 2 [2, 2] := ⟨RX1, TX1, tyX1, rfl, in_X1, tyX1_ok, tk2 (i := 51) (by decide +kernel) rfl, tk2 (i := 52) (by decide +kernel) rfl, tk1 (i := 21) (by decide +kernel) rfl, fun j hj b => by rcases j with _ | j; rfl; skip; all_goals (repeat (first | (exact absurd hj (by omega)) | (rcases j with _ | j; rfl; skip)))⟩
theorem mX8_48 : ML RX8 48 yX1_init := Or.inl (tk2 (i := 53) (by decide +kernel) rfl)
theorem nX1_9 : FN RX1 9 6 1 [2] := ⟨RX7, TX7, tyX7, rfl, in_X7, tyX7_ok, tk2 (i := 57) (by decide +kernel) rfl, tk1 (i := 41) (by decide +kernel) rfl, tk1 (i := 14) (by decide +kernel) rfl, fun j hj b => by rcases j with _ | j; rfl; skip; all_goals (repeat (first | (exact absurd hj (by omega)) | (rcases j with _ | j; rfl; skip)))⟩
theorem mX1_13 : ML RX1 13 yX7_init := Or.inl (tk2 (i := 58) (by decide +kernel) rfl)
theorem fX1_16 : FL RX1 16 1 0 true (.object "SpiceQuay$Row") := ⟨RX1, TX1, 2, tyX1, rfl, by decide, in_X1, tyX1_ok, nmX1, rfl, rfl, Or.inl (tk2 (i := 59) (by decide +kernel) rfl)⟩
theorem FX1_16 : FLF RX1 16 1 0 (.object "SpiceQuay$Row") := ⟨TX1, 2, tyX1, rfl, by decide, in_X1, tyX1_ok, nmX1, rfl, rfl, rfl, tk2 (i := 59) (by decide +kernel) rfl⟩
theorem fX1_20 : FL RX1 20 1 1 true (.object "SpiceQuay$Row") := ⟨RX1, TX1, 2, tyX1, rfl, by decide, in_X1, tyX1_ok, nmX1, rfl, rfl, Or.inl (tk2 (i := 60) (by decide +kernel) rfl)⟩
theorem FX1_20 : FLF RX1 20 1 1 (.object "SpiceQuay$Row") := ⟨TX1, 2, tyX1, rfl, by decide, in_X1, tyX1_ok, nmX1, rfl, rfl, rfl, tk2 (i := 60) (by decide +kernel) rfl⟩
theorem fX8_7 : FL RX8 7 7 0 true (.object "SpiceQuay$Plan") := ⟨RX8, TX8, 15, tyX8, rfl, by decide, in_X8, tyX8_ok, nmX8, rfl, rfl, Or.inl (tk2 (i := 66) (by decide +kernel) rfl)⟩
theorem FX8_7 : FLF RX8 7 7 0 (.object "SpiceQuay$Plan") := ⟨TX8, 15, tyX8, rfl, by decide, in_X8, tyX8_ok, nmX8, rfl, rfl, rfl, tk2 (i := 66) (by decide +kernel) rfl⟩
theorem fX8_13 : FL RX8 13 7 1 false .int := ⟨RX8, TX8, 15, tyX8, rfl, by decide, in_X8, tyX8_ok, nmX8, rfl, rfl, Or.inl (tk2 (i := 67) (by decide +kernel) rfl)⟩
theorem fX0_41 : FL RX0 41 7 1 false .int := ⟨RX8, TX8, 15, tyX8, rfl, by decide, in_X8, tyX8_ok, nmX8, rfl, rfl, Or.inl (tk2 (i := 68) (by decide +kernel) rfl)⟩
theorem fX6_79 : FL RX6 79 7 1 false .int := ⟨RX8, TX8, 15, tyX8, rfl, by decide, in_X8, tyX8_ok, nmX8, rfl, rfl, Or.inl (tk2 (i := 69) (by decide +kernel) rfl)⟩
theorem fX11_267 : FL RX11 267 7 1 false .int := ⟨RX8, TX8, 15, tyX8, rfl, by decide, in_X8, tyX8_ok, nmX8, rfl, rfl, Or.inl (tk2 (i := 70) (by decide +kernel) rfl)⟩
theorem fX8_17 : FL RX8 17 7 2 false .int := ⟨RX8, TX8, 15, tyX8, rfl, by decide, in_X8, tyX8_ok, nmX8, rfl, rfl, Or.inl (tk2 (i := 71) (by decide +kernel) rfl)⟩
theorem fX6_84 : FL RX6 84 7 2 false .int := ⟨RX8, TX8, 15, tyX8, rfl, by decide, in_X8, tyX8_ok, nmX8, rfl, rfl, Or.inl (tk2 (i := 72) (by decide +kernel) rfl)⟩
theorem fX11_170 : FL RX11 170 7 2 false .int := ⟨RX8, TX8, 15, tyX8, rfl, by decide, in_X8, tyX8_ok, nmX8, rfl, rfl, Or.inl (tk2 (i := 73) (by decide +kernel) rfl)⟩
theorem fX8_59 : FL RX8 59 7 3 false .int := ⟨RX8, TX8, 15, tyX8, rfl, by decide, in_X8, tyX8_ok, nmX8, rfl, rfl, Or.inl (tk2 (i := 74) (by decide +kernel) rfl)⟩
theorem fX0_176 : FL RX0 176 7 3 false .int := ⟨RX8, TX8, 15, tyX8, rfl, by decide, in_X8, tyX8_ok, nmX8, rfl, rfl, Or.inl (tk2 (i := 75) (by decide +kernel) rfl)⟩
theorem fX8_62 : FL RX8 62 7 4 false .int := ⟨RX8, TX8, 15, tyX8, rfl, by decide, in_X8, tyX8_ok, nmX8, rfl, rfl, Or.inl (tk2 (i := 76) (by decide +kernel) rfl)⟩
theorem fX0_144 : FL RX0 144 7 4 false .int := ⟨RX8, TX8, 15, tyX8, rfl, by decide, in_X8, tyX8_ok, nmX8, rfl, rfl, Or.inl (tk2 (i := 77) (by decide +kernel) rfl)⟩
theorem fX8_65 : FL RX8 65 7 5 false .int := ⟨RX8, TX8, 15, tyX8, rfl, by decide, in_X8, tyX8_ok, nmX8, rfl, rfl, Or.inl (tk2 (i := 78) (by decide +kernel) rfl)⟩
theorem fX0_185 : FL RX0 185 7 5 false .int := ⟨RX8, TX8, 15, tyX8, rfl, by decide, in_X8, tyX8_ok, nmX8, rfl, rfl, Or.inl (tk2 (i := 79) (by decide +kernel) rfl)⟩
theorem fX8_27 : FL RX8 27 7 6 true (.object "SpiceQuay$Row") := ⟨RX8, TX8, 15, tyX8, rfl, by decide, in_X8, tyX8_ok, nmX8, rfl, rfl, Or.inl (tk2 (i := 80) (by decide +kernel) rfl)⟩
theorem FX8_27 : FLF RX8 27 7 6 (.object "SpiceQuay$Row") := ⟨TX8, 15, tyX8, rfl, by decide, in_X8, tyX8_ok, nmX8, rfl, rfl, rfl, tk2 (i := 80) (by decide +kernel) rfl⟩
theorem fX6_87 : FL RX6 87 7 6 true (.object "SpiceQuay$Row") := ⟨RX8, TX8, 15, tyX8, rfl, by decide, in_X8, tyX8_ok, nmX8, rfl, rfl, Or.inl (tk2 (i := 81) (by decide +kernel) rfl)⟩
theorem fX0_132 : FL RX0 132 7 6 true (.object "SpiceQuay$Row") := ⟨RX8, TX8, 15, tyX8, rfl, by decide, in_X8, tyX8_ok, nmX8, rfl, rfl, Or.inl (tk2 (i := 82) (by decide +kernel) rfl)⟩
theorem fX11_205 : FL RX11 205 7 6 true (.object "SpiceQuay$Row") := ⟨RX8, TX8, 15, tyX8, rfl, by decide, in_X8, tyX8_ok, nmX8, rfl, rfl, Or.inl (tk2 (i := 83) (by decide +kernel) rfl)⟩
theorem fX8_31 : FL RX8 31 7 7 true (.object "SpiceQuay$Row") := ⟨RX8, TX8, 15, tyX8, rfl, by decide, in_X8, tyX8_ok, nmX8, rfl, rfl, Or.inl (tk2 (i := 84) (by decide +kernel) rfl)⟩
theorem FX8_31 : FLF RX8 31 7 7 (.object "SpiceQuay$Row") := ⟨TX8, 15, tyX8, rfl, by decide, in_X8, tyX8_ok, nmX8, rfl, rfl, rfl, tk2 (i := 84) (by decide +kernel) rfl⟩
theorem fX6_112 : FL RX6 112 7 7 true (.object "SpiceQuay$Row") := ⟨RX8, TX8, 15, tyX8, rfl, by decide, in_X8, tyX8_ok, nmX8, rfl, rfl, Or.inl (tk2 (i := 85) (by decide +kernel) rfl)⟩
theorem fX0_126 : FL RX0 126 7 7 true (.object "SpiceQuay$Row") := ⟨RX8, TX8, 15, tyX8, rfl, by decide, in_X8, tyX8_ok, nmX8, rfl, rfl, Or.inl (tk2 (i := 86) (by decide +kernel) rfl)⟩
theorem fX8_34 : FL RX8 34 7 8 true (.object "SpiceQuay$Row") := ⟨RX8, TX8, 15, tyX8, rfl, by decide, in_X8, tyX8_ok, nmX8, rfl, rfl, Or.inl (tk2 (i := 87) (by decide +kernel) rfl)⟩
theorem FX8_34 : FLF RX8 34 7 8 (.object "SpiceQuay$Row") := ⟨TX8, 15, tyX8, rfl, by decide, in_X8, tyX8_ok, nmX8, rfl, rfl, rfl, tk2 (i := 87) (by decide +kernel) rfl⟩
theorem fX8_37 : FL RX8 37 7 9 true (.object "SpiceQuay$Row") := ⟨RX8, TX8, 15, tyX8, rfl, by decide, in_X8, tyX8_ok, nmX8, rfl, rfl, Or.inl (tk2 (i := 88) (by decide +kernel) rfl)⟩
theorem FX8_37 : FLF RX8 37 7 9 (.object "SpiceQuay$Row") := ⟨TX8, 15, tyX8, rfl, by decide, in_X8, tyX8_ok, nmX8, rfl, rfl, rfl, tk2 (i := 88) (by decide +kernel) rfl⟩
theorem fX6_90 : FL RX6 90 7 9 true (.object "SpiceQuay$Row") := ⟨RX8, TX8, 15, tyX8, rfl, by decide, in_X8, tyX8_ok, nmX8, rfl, rfl, Or.inl (tk2 (i := 89) (by decide +kernel) rfl)⟩
theorem fX0_179 : FL RX0 179 7 9 true (.object "SpiceQuay$Row") := ⟨RX8, TX8, 15, tyX8, rfl, by decide, in_X8, tyX8_ok, nmX8, rfl, rfl, Or.inl (tk2 (i := 90) (by decide +kernel) rfl)⟩
theorem fX8_40 : FL RX8 40 7 10 true (.object "SpiceQuay$Row") := ⟨RX8, TX8, 15, tyX8, rfl, by decide, in_X8, tyX8_ok, nmX8, rfl, rfl, Or.inl (tk2 (i := 91) (by decide +kernel) rfl)⟩
theorem FX8_40 : FLF RX8 40 7 10 (.object "SpiceQuay$Row") := ⟨TX8, 15, tyX8, rfl, by decide, in_X8, tyX8_ok, nmX8, rfl, rfl, rfl, tk2 (i := 91) (by decide +kernel) rfl⟩
theorem fX8_43 : FL RX8 43 7 11 true (.object "SpiceQuay$Row") := ⟨RX8, TX8, 15, tyX8, rfl, by decide, in_X8, tyX8_ok, nmX8, rfl, rfl, Or.inl (tk2 (i := 92) (by decide +kernel) rfl)⟩
theorem FX8_43 : FLF RX8 43 7 11 (.object "SpiceQuay$Row") := ⟨TX8, 15, tyX8, rfl, by decide, in_X8, tyX8_ok, nmX8, rfl, rfl, rfl, tk2 (i := 92) (by decide +kernel) rfl⟩
theorem fX6_96 : FL RX6 96 7 11 true (.object "SpiceQuay$Row") := ⟨RX8, TX8, 15, tyX8, rfl, by decide, in_X8, tyX8_ok, nmX8, rfl, rfl, Or.inl (tk2 (i := 93) (by decide +kernel) rfl)⟩
theorem fX0_123 : FL RX0 123 7 11 true (.object "SpiceQuay$Row") := ⟨RX8, TX8, 15, tyX8, rfl, by decide, in_X8, tyX8_ok, nmX8, rfl, rfl, Or.inl (tk2 (i := 94) (by decide +kernel) rfl)⟩
theorem fX11_175 : FL RX11 175 7 11 true (.object "SpiceQuay$Row") := ⟨RX8, TX8, 15, tyX8, rfl, by decide, in_X8, tyX8_ok, nmX8, rfl, rfl, Or.inl (tk2 (i := 95) (by decide +kernel) rfl)⟩
theorem fX8_49 : FL RX8 49 7 12 true (.object "SpiceQuay$Debts") := ⟨RX8, TX8, 15, tyX8, rfl, by decide, in_X8, tyX8_ok, nmX8, rfl, rfl, Or.inl (tk2 (i := 96) (by decide +kernel) rfl)⟩
theorem FX8_49 : FLF RX8 49 7 12 (.object "SpiceQuay$Debts") := ⟨TX8, 15, tyX8, rfl, by decide, in_X8, tyX8_ok, nmX8, rfl, rfl, rfl, tk2 (i := 96) (by decide +kernel) rfl⟩
theorem fX0_45 : FL RX0 45 7 12 true (.object "SpiceQuay$Debts") := ⟨RX8, TX8, 15, tyX8, rfl, by decide, in_X8, tyX8_ok, nmX8, rfl, rfl, Or.inl (tk2 (i := 97) (by decide +kernel) rfl)⟩
theorem fX6_99 : FL RX6 99 7 12 true (.object "SpiceQuay$Debts") := ⟨RX8, TX8, 15, tyX8, rfl, by decide, in_X8, tyX8_ok, nmX8, rfl, rfl, Or.inl (tk2 (i := 98) (by decide +kernel) rfl)⟩
theorem fX11_153 : FL RX11 153 7 12 true (.object "SpiceQuay$Debts") := ⟨RX8, TX8, 15, tyX8, rfl, by decide, in_X8, tyX8_ok, nmX8, rfl, rfl, Or.inl (tk2 (i := 99) (by decide +kernel) rfl)⟩
theorem fX8_53 : FL RX8 53 7 13 true (.object "SpiceQuay$Row") := ⟨RX8, TX8, 15, tyX8, rfl, by decide, in_X8, tyX8_ok, nmX8, rfl, rfl, Or.inl (tk2 (i := 100) (by decide +kernel) rfl)⟩
theorem FX8_53 : FLF RX8 53 7 13 (.object "SpiceQuay$Row") := ⟨TX8, 15, tyX8, rfl, by decide, in_X8, tyX8_ok, nmX8, rfl, rfl, rfl, tk2 (i := 100) (by decide +kernel) rfl⟩
theorem fX0_135 : FL RX0 135 7 13 true (.object "SpiceQuay$Row") := ⟨RX8, TX8, 15, tyX8, rfl, by decide, in_X8, tyX8_ok, nmX8, rfl, rfl, Or.inl (tk2 (i := 101) (by decide +kernel) rfl)⟩
theorem fX8_56 : FL RX8 56 7 14 true (.object "SpiceQuay$Row") := ⟨RX8, TX8, 15, tyX8, rfl, by decide, in_X8, tyX8_ok, nmX8, rfl, rfl, Or.inl (tk2 (i := 102) (by decide +kernel) rfl)⟩
theorem FX8_56 : FLF RX8 56 7 14 (.object "SpiceQuay$Row") := ⟨TX8, 15, tyX8, rfl, by decide, in_X8, tyX8_ok, nmX8, rfl, rfl, rfl, tk2 (i := 102) (by decide +kernel) rfl⟩
theorem fX0_117 : FL RX0 117 7 14 true (.object "SpiceQuay$Row") := ⟨RX8, TX8, 15, tyX8, rfl, by decide, in_X8, tyX8_ok, nmX8, rfl, rfl, Or.inl (tk2 (i := 103) (by decide +kernel) rfl)⟩
theorem fX11_285 : FL RX11 285 7 14 true (.object "SpiceQuay$Row") := ⟨RX8, TX8, 15, tyX8, rfl, by decide, in_X8, tyX8_ok, nmX8, rfl, rfl, Or.inl (tk2 (i := 104) (by decide +kernel) rfl)⟩
theorem nX11_52 : FN RX11 52 0 3 [2, 2, 2] := ⟨RX0, TX0, tyX0, rfl, in_X0, tyX0_ok, tk2 (i := 136) (by decide +kernel) rfl, tk2 (i := 137) (by decide +kernel) rfl, tk1 (i := 22) (by decide +kernel) rfl, fun j hj b => by rcases j with _ | j; rfl; skip; all_goals (repeat (first | (exact absurd hj (by omega)) | (rcases j with _ | j; rfl; skip)))⟩
theorem mX11_54 : ML RX11 54 yX0_init := Or.inl (tk2 (i := 138) (by decide +kernel) rfl)
theorem nX0_17 : FN RX0 17 5 4 [2, 2, 2, 0] := ⟨RX6, TX6, tyX6, rfl, in_X6, tyX6_ok, tk2 (i := 142) (by decide +kernel) rfl, tk2 (i := 143) (by decide +kernel) rfl, tk1 (i := 23) (by decide +kernel) rfl, fun j hj b => by rcases j with _ | j; rfl; skip; all_goals (repeat (first | (exact absurd hj (by omega)) | (rcases j with _ | j; rfl; skip)))⟩
theorem mX0_25 : ML RX0 25 yX6_init := Or.inl (tk2 (i := 144) (by decide +kernel) rfl)
theorem nX6_17 : FN RX6 17 6 1 [2] := ⟨RX7, TX7, tyX7, rfl, in_X7, tyX7_ok, tk2 (i := 148) (by decide +kernel) rfl, tk1 (i := 41) (by decide +kernel) rfl, tk1 (i := 14) (by decide +kernel) rfl, fun j hj b => by rcases j with _ | j; rfl; skip; all_goals (repeat (first | (exact absurd hj (by omega)) | (rcases j with _ | j; rfl; skip)))⟩
theorem mX6_21 : ML RX6 21 yX7_init := Or.inl (tk2 (i := 149) (by decide +kernel) rfl)
theorem fX6_7 : FL RX6 7 5 0 true (.object "SpiceQuay$Steps") := ⟨RX6, TX6, 4, tyX6, rfl, by decide, in_X6, tyX6_ok, nmX6, rfl, rfl, Or.inl (tk2 (i := 150) (by decide +kernel) rfl)⟩
theorem FX6_7 : FLF RX6 7 5 0 (.object "SpiceQuay$Steps") := ⟨TX6, 4, tyX6, rfl, by decide, in_X6, tyX6_ok, nmX6, rfl, rfl, rfl, tk2 (i := 150) (by decide +kernel) rfl⟩
theorem fX6_13 : FL RX6 13 5 1 true (.object "SpiceQuay$Stand") := ⟨RX6, TX6, 4, tyX6, rfl, by decide, in_X6, tyX6_ok, nmX6, rfl, rfl, Or.inl (tk2 (i := 151) (by decide +kernel) rfl)⟩
theorem FX6_13 : FLF RX6 13 5 1 (.object "SpiceQuay$Stand") := ⟨TX6, 4, tyX6, rfl, by decide, in_X6, tyX6_ok, nmX6, rfl, rfl, rfl, tk2 (i := 151) (by decide +kernel) rfl⟩
theorem fX6_24 : FL RX6 24 5 2 true (.object "SpiceQuay$Row") := ⟨RX6, TX6, 4, tyX6, rfl, by decide, in_X6, tyX6_ok, nmX6, rfl, rfl, Or.inl (tk2 (i := 152) (by decide +kernel) rfl)⟩
theorem FX6_24 : FLF RX6 24 5 2 (.object "SpiceQuay$Row") := ⟨TX6, 4, tyX6, rfl, by decide, in_X6, tyX6_ok, nmX6, rfl, rfl, rfl, tk2 (i := 152) (by decide +kernel) rfl⟩
theorem fX6_28 : FL RX6 28 5 3 false .int := ⟨RX6, TX6, 4, tyX6, rfl, by decide, in_X6, tyX6_ok, nmX6, rfl, rfl, Or.inl (tk2 (i := 153) (by decide +kernel) rfl)⟩
theorem fX0_7 : FL RX0 7 0 0 true (.object "SpiceQuay$Plan") := ⟨RX0, TX0, 3, tyX0, rfl, by decide, in_X0, tyX0_ok, nmX0, rfl, rfl, Or.inl (tk2 (i := 163) (by decide +kernel) rfl)⟩
theorem FX0_7 : FLF RX0 7 0 0 (.object "SpiceQuay$Plan") := ⟨TX0, 3, tyX0, rfl, by decide, in_X0, tyX0_ok, nmX0, rfl, rfl, rfl, tk2 (i := 163) (by decide +kernel) rfl⟩
theorem fX0_13 : FL RX0 13 0 1 true (.object "SpiceQuay$Stand") := ⟨RX0, TX0, 3, tyX0, rfl, by decide, in_X0, tyX0_ok, nmX0, rfl, rfl, Or.inl (tk2 (i := 164) (by decide +kernel) rfl)⟩
theorem FX0_13 : FLF RX0 13 0 1 (.object "SpiceQuay$Stand") := ⟨TX0, 3, tyX0, rfl, by decide, in_X0, tyX0_ok, nmX0, rfl, rfl, rfl, tk2 (i := 164) (by decide +kernel) rfl⟩
theorem fX0_28 : FL RX0 28 0 2 true (.object "SpiceQuay$Reckoner") := ⟨RX0, TX0, 3, tyX0, rfl, by decide, in_X0, tyX0_ok, nmX0, rfl, rfl, Or.inl (tk2 (i := 165) (by decide +kernel) rfl)⟩
theorem FX0_28 : FLF RX0 28 0 2 (.object "SpiceQuay$Reckoner") := ⟨TX0, 3, tyX0, rfl, by decide, in_X0, tyX0_ok, nmX0, rfl, rfl, rfl, tk2 (i := 165) (by decide +kernel) rfl⟩
theorem fX11_14 : FL RX11 14 10 0 true (.object "SpiceQuay$Row") := ⟨RX11, TX11, 10, tyX11, rfl, by decide, in_X11, tyX11_ok, nmX11, rfl, rfl, Or.inl (tk2 (i := 173) (by decide +kernel) rfl)⟩
theorem FX11_14 : FLF RX11 14 10 0 (.object "SpiceQuay$Row") := ⟨TX11, 10, tyX11, rfl, by decide, in_X11, tyX11_ok, nmX11, rfl, rfl, rfl, tk2 (i := 173) (by decide +kernel) rfl⟩
theorem fX11_23 : FL RX11 23 10 1 true (.object "SpiceQuay$Tokens") := ⟨RX11, TX11, 10, tyX11, rfl, by decide, in_X11, tyX11_ok, nmX11, rfl, rfl, Or.inl (tk2 (i := 174) (by decide +kernel) rfl)⟩
theorem FX11_23 : FLF RX11 23 10 1 (.object "SpiceQuay$Tokens") := ⟨TX11, 10, tyX11, rfl, by decide, in_X11, tyX11_ok, nmX11, rfl, rfl, rfl, tk2 (i := 174) (by decide +kernel) rfl⟩
theorem fX11_32 : FL RX11 32 10 2 true (.object "SpiceQuay$Reader") := ⟨RX11, TX11, 10, tyX11, rfl, by decide, in_X11, tyX11_ok, nmX11, rfl, rfl, Or.inl (tk2 (i := 175) (by decide +kernel) rfl)⟩
theorem FX11_32 : FLF RX11 32 10 2 (.object "SpiceQuay$Reader") := ⟨TX11, 10, tyX11, rfl, by decide, in_X11, tyX11_ok, nmX11, rfl, rfl, rfl, tk2 (i := 175) (by decide +kernel) rfl⟩
theorem fX11_39 : FL RX11 39 10 3 true (.object "SpiceQuay$Plan") := ⟨RX11, TX11, 10, tyX11, rfl, by decide, in_X11, tyX11_ok, nmX11, rfl, rfl, Or.inl (tk2 (i := 176) (by decide +kernel) rfl)⟩
theorem FX11_39 : FLF RX11 39 10 3 (.object "SpiceQuay$Plan") := ⟨TX11, 10, tyX11, rfl, by decide, in_X11, tyX11_ok, nmX11, rfl, rfl, rfl, tk2 (i := 176) (by decide +kernel) rfl⟩
theorem fX11_48 : FL RX11 48 10 4 true (.object "SpiceQuay$Stand") := ⟨RX11, TX11, 10, tyX11, rfl, by decide, in_X11, tyX11_ok, nmX11, rfl, rfl, Or.inl (tk2 (i := 177) (by decide +kernel) rfl)⟩
theorem FX11_48 : FLF RX11 48 10 4 (.object "SpiceQuay$Stand") := ⟨TX11, 10, tyX11, rfl, by decide, in_X11, tyX11_ok, nmX11, rfl, rfl, rfl, tk2 (i := 177) (by decide +kernel) rfl⟩
theorem fX11_57 : FL RX11 57 10 5 true (.object "SpiceQuay$Days") := ⟨RX11, TX11, 10, tyX11, rfl, by decide, in_X11, tyX11_ok, nmX11, rfl, rfl, Or.inl (tk2 (i := 178) (by decide +kernel) rfl)⟩
theorem FX11_57 : FLF RX11 57 10 5 (.object "SpiceQuay$Days") := ⟨TX11, 10, tyX11, rfl, by decide, in_X11, tyX11_ok, nmX11, rfl, rfl, rfl, tk2 (i := 178) (by decide +kernel) rfl⟩
theorem fX11_61 : FL RX11 61 10 6 true (.object "SpiceQuay$Stand") := ⟨RX11, TX11, 10, tyX11, rfl, by decide, in_X11, tyX11_ok, nmX11, rfl, rfl, Or.inl (tk2 (i := 179) (by decide +kernel) rfl)⟩
theorem FX11_61 : FLF RX11 61 10 6 (.object "SpiceQuay$Stand") := ⟨TX11, 10, tyX11, rfl, by decide, in_X11, tyX11_ok, nmX11, rfl, rfl, rfl, tk2 (i := 179) (by decide +kernel) rfl⟩
theorem fX11_64 : FL RX11 64 10 7 true (.object "SpiceQuay$Days") := ⟨RX11, TX11, 10, tyX11, rfl, by decide, in_X11, tyX11_ok, nmX11, rfl, rfl, Or.inl (tk2 (i := 180) (by decide +kernel) rfl)⟩
theorem FX11_64 : FLF RX11 64 10 7 (.object "SpiceQuay$Days") := ⟨TX11, 10, tyX11, rfl, by decide, in_X11, tyX11_ok, nmX11, rfl, rfl, rfl, tk2 (i := 180) (by decide +kernel) rfl⟩
theorem fX11_67 : FL RX11 67 10 8 false .int := ⟨RX11, TX11, 10, tyX11, rfl, by decide, in_X11, tyX11_ok, nmX11, rfl, rfl, Or.inl (tk2 (i := 181) (by decide +kernel) rfl)⟩
theorem fX11_71 : FL RX11 71 10 9 false .int := ⟨RX11, TX11, 10, tyX11, rfl, by decide, in_X11, tyX11_ok, nmX11, rfl, rfl, Or.inl (tk2 (i := 182) (by decide +kernel) rfl)⟩
theorem mL_246 : ML RL 246 yX11_count := Or.inl (tk2 (i := 204) (by decide +kernel) rfl)
theorem mX11_113 : ML RX11 113 yX11_counted := Or.inl (tk3 (i := 36) (by decide +kernel) rfl)
theorem mX11_225 : ML RX11 225 yX8_tellAll := Or.inl (tk3 (i := 40) (by decide +kernel) rfl)
theorem mX8_125 : ML RX8 125 yX8_weightOfAll := Or.inl (tk3 (i := 44) (by decide +kernel) rfl)
theorem mX8_121 : ML RX8 121 yX7_sum := Or.inl (tk3 (i := 48) (by decide +kernel) rfl)
theorem mX8_128 : ML RX8 128 yX1_sumOfAll := Or.inl (tk3 (i := 52) (by decide +kernel) rfl)
theorem mX1_45 : ML RX1 45 yX7_sum := Or.inl (tk3 (i := 56) (by decide +kernel) rfl)
theorem mL_249 : ML RL 249 yX11_lot := Or.inl (tk3 (i := 57) (by decide +kernel) rfl)
theorem mX11_117 : ML RX11 117 yX11_isLot := Or.inl (tk3 (i := 61) (by decide +kernel) rfl)
theorem mX11_123 : ML RX11 123 yX8_tellLot := Or.inl (tk3 (i := 66) (by decide +kernel) rfl)
theorem mX8_77 : ML RX8 77 yX7_get := Or.inl (tk3 (i := 70) (by decide +kernel) rfl)
theorem mX8_131 : ML RX8 131 yX8_ageOfChop := Or.inl (tk3 (i := 74) (by decide +kernel) rfl)
theorem mX8_134 : ML RX8 134 yX8_canBeSold := Or.inl (tk3 (i := 78) (by decide +kernel) rfl)
theorem mL_267 : ML RL 267 yX11_merchant := Or.inl (tk3 (i := 82) (by decide +kernel) rfl)
theorem mX11_127 : ML RX11 127 yX11_isMerchant := Or.inl (tk3 (i := 86) (by decide +kernel) rfl)
theorem mX11_132 : ML RX11 132 yX8_tellMerchant := Or.inl (tk3 (i := 91) (by decide +kernel) rfl)
theorem mX8_112 : ML RX8 112 yX1_sumOf := Or.inl (tk3 (i := 95) (by decide +kernel) rfl)
theorem mX1_30 : ML RX1 30 yX7_get := Or.inl (tk3 (i := 99) (by decide +kernel) rfl)
theorem mX8_118 : ML RX8 118 yX1_sumOwedTo := Or.inl (tk3 (i := 100) (by decide +kernel) rfl)
theorem mX8_138 : ML RX8 138 yX8_lotsOf := Or.inl (tk3 (i := 104) (by decide +kernel) rfl)
theorem mX8_141 : ML RX8 141 yX8_weightOfLotsOf := Or.inl (tk3 (i := 108) (by decide +kernel) rfl)
theorem mL_255 : ML RL 255 yX11_guild := Or.inl (tk3 (i := 112) (by decide +kernel) rfl)
theorem mX11_140 : ML RX11 140 yX8_tellGuild := Or.inl (tk3 (i := 117) (by decide +kernel) rfl)
theorem mX8_150 : ML RX8 150 yX8_lotsWithChopOf := Or.inl (tk3 (i := 121) (by decide +kernel) rfl)
theorem mL_270 : ML RL 270 yX11_order := Or.inl (tk3 (i := 125) (by decide +kernel) rfl)
theorem mX11_148 : ML RX11 148 yX11_tellOrder := Or.inl (tk3 (i := 130) (by decide +kernel) rfl)
theorem mX11_178 : ML RX11 178 yX7_get := Or.inl (tk3 (i := 134) (by decide +kernel) rfl)
theorem mX11_282 : ML RX11 282 yX0_wouldCarryOut := Or.inl (tk3 (i := 135) (by decide +kernel) rfl)
theorem mX0_69 : ML RX0 69 yX7_get := Or.inl (tk3 (i := 139) (by decide +kernel) rfl)
theorem mX0_78 : ML RX0 78 yX6_reckon := Or.inl (tk3 (i := 140) (by decide +kernel) rfl)
theorem mX6_35 : ML RX6 35 yX7_get := Or.inl (tk3 (i := 144) (by decide +kernel) rfl)
theorem mX6_41 : ML RX6 41 yX6_take := Or.inl (tk3 (i := 145) (by decide +kernel) rfl)
theorem mX6_45 : ML RX6 45 yX6_put := Or.inl (tk3 (i := 149) (by decide +kernel) rfl)
theorem mX6_75 : ML RX6 75 yX7_set := Or.inl (tk3 (i := 153) (by decide +kernel) rfl)
theorem mX6_48 : ML RX6 48 yX2_joinsSums := Or.inl (tk3 (i := 157) (by decide +kernel) rfl)
theorem mX6_52 : ML RX6 52 yX6_joined := Or.inl (tk3 (i := 160) (by decide +kernel) rfl)
theorem mX6_115 : ML RX6 115 yJ9_min_7cf53 := Or.inl (tk3 (i := 163) (by decide +kernel) rfl)
theorem mX6_120 : ML RX6 120 yJ9_max_7cf53 := Or.inl (tk3 (i := 166) (by decide +kernel) rfl)
theorem mX6_56 : ML RX6 56 yX2_compares := Or.inl (tk3 (i := 169) (by decide +kernel) rfl)
theorem mX6_59 : ML RX6 59 yX6_holds := Or.inl (tk3 (i := 172) (by decide +kernel) rfl)
theorem mX6_63 : ML RX6 63 yX2_joinsTests := Or.inl (tk3 (i := 175) (by decide +kernel) rfl)
theorem mX6_72 : ML RX6 72 yX6_value := Or.inl (tk3 (i := 178) (by decide +kernel) rfl)
theorem mX6_93 : ML RX6 93 yX8_ageOfChop := Or.inl (tk3 (i := 182) (by decide +kernel) rfl)
theorem mX6_103 : ML RX6 103 yX1_sumOf := Or.inl (tk3 (i := 183) (by decide +kernel) rfl)
theorem mX6_108 : ML RX6 108 yX1_between := Or.inl (tk3 (i := 184) (by decide +kernel) rfl)
theorem mX0_94 : ML RX0 94 yX0_canWeigh := Or.inl (tk3 (i := 188) (by decide +kernel) rfl)
theorem mX0_98 : ML RX0 98 yX0_canSell := Or.inl (tk3 (i := 192) (by decide +kernel) rfl)
theorem mX0_147 : ML RX0 147 yX8_canBeSold := Or.inl (tk3 (i := 196) (by decide +kernel) rfl)
theorem mX0_150 : ML RX0 150 yX0_price := Or.inl (tk3 (i := 197) (by decide +kernel) rfl)
theorem mX0_164 : ML RX0 164 yJ9_min_7cf53 := Or.inl (tk3 (i := 201) (by decide +kernel) rfl)
theorem mX0_153 : ML RX0 153 yJ9_max_7cf53 := Or.inl (tk3 (i := 202) (by decide +kernel) rfl)
theorem mX0_158 : ML RX0 158 yX1_sumOf := Or.inl (tk3 (i := 203) (by decide +kernel) rfl)
theorem mX0_102 : ML RX0 102 yX0_due := Or.inl (tk3 (i := 204) (by decide +kernel) rfl)
theorem mX0_182 : ML RX0 182 yX1_between := Or.inl (tk3 (i := 208) (by decide +kernel) rfl)
theorem mL_258 : ML RL 258 yX11_owes := Or.inl (tk3 (i := 209) (by decide +kernel) rfl)
theorem mX11_157 : ML RX11 157 yX1_between := Or.inl (tk3 (i := 214) (by decide +kernel) rfl)
theorem mL_260 : ML RL 260 yX11_chain := Or.inl (tk3 (i := 215) (by decide +kernel) rfl)
theorem mX11_162 : ML RX11 162 yX1_fewestFromTo := Or.inl (tk3 (i := 219) (by decide +kernel) rfl)
theorem mX1_23 : ML RX1 23 yX7_fill := Or.inl (tk3 (i := 223) (by decide +kernel) rfl)
theorem mX1_41 : ML RX1 41 yX7_set := Or.inl (tk3 (i := 227) (by decide +kernel) rfl)
theorem mX1_49 : ML RX1 49 yX1_reachBy := Or.inl (tk3 (i := 228) (by decide +kernel) rfl)
theorem mX1_52 : ML RX1 52 yX1_between := Or.inl (tk3 (i := 232) (by decide +kernel) rfl)
theorem mL_264 : ML RL 264 yX11_ring := Or.inl (tk3 (i := 233) (by decide +kernel) rfl)
theorem mX11_165 : ML RX11 165 yX1_widestRing := Or.inl (tk3 (i := 237) (by decide +kernel) rfl)
theorem mX1_55 : ML RX1 55 yX1_widen := Or.inl (tk4 (i := 1) (by decide +kernel) rfl)
theorem mX1_35 : ML RX1 35 yJ9_min_7cf53 := Or.inl (tk4 (i := 5) (by decide +kernel) rfl)
theorem mX1_58 : ML RX1 58 yJ9_max_7cf53 := Or.inl (tk4 (i := 6) (by decide +kernel) rfl)
theorem mL_235 : ML RL 235 yX11_pass := Or.inl (tk4 (i := 7) (by decide +kernel) rfl)
theorem mX11_217 : ML RX11 217 yX0_goOn := Or.inl (tk4 (i := 27) (by decide +kernel) rfl)
theorem mX0_32 : ML RX0 32 yX8_loseWeight := Or.inl (tk4 (i := 31) (by decide +kernel) rfl)
theorem mX8_81 : ML RX8 81 yX7_set := Or.inl (tk4 (i := 35) (by decide +kernel) rfl)
theorem mX0_37 : ML RX0 37 yX0_followOrders := Or.inl (tk4 (i := 36) (by decide +kernel) rfl)
theorem mX0_57 : ML RX0 57 yX0_wouldCarryOut := Or.inl (tk4 (i := 40) (by decide +kernel) rfl)
theorem mX0_61 : ML RX0 61 yX0_carryOut := Or.inl (tk4 (i := 41) (by decide +kernel) rfl)
theorem mX0_106 : ML RX0 106 yX0_weigh := Or.inl (tk4 (i := 45) (by decide +kernel) rfl)
theorem mX0_120 : ML RX0 120 yX7_add := Or.inl (tk4 (i := 49) (by decide +kernel) rfl)
theorem mX0_141 : ML RX0 141 yX8_setChop := Or.inl (tk4 (i := 53) (by decide +kernel) rfl)
theorem mX0_110 : ML RX0 110 yX0_sell := Or.inl (tk4 (i := 57) (by decide +kernel) rfl)
theorem mX0_167 : ML RX0 167 yX8_moveCoins := Or.inl (tk4 (i := 61) (by decide +kernel) rfl)
theorem mX8_109 : ML RX8 109 yX7_add := Or.inl (tk4 (i := 65) (by decide +kernel) rfl)
theorem mX0_170 : ML RX0 170 yX1_grow := Or.inl (tk4 (i := 66) (by decide +kernel) rfl)
theorem mX0_173 : ML RX0 173 yX7_set := Or.inl (tk4 (i := 71) (by decide +kernel) rfl)
theorem mX0_114 : ML RX0 114 yX0_payBack := Or.inl (tk4 (i := 72) (by decide +kernel) rfl)
theorem mX0_49 : ML RX0 49 yX1_growAll := Or.inl (tk4 (i := 76) (by decide +kernel) rfl)
theorem mL_277 : ML RL 277 yX11_foresee := Or.inl (tk4 (i := 80) (by decide +kernel) rfl)
theorem mX11_222 : ML RX11 222 yX8_copyFrom := Or.inl (tk4 (i := 85) (by decide +kernel) rfl)
theorem mX8_96 : ML RX8 96 yX7_copyFrom := Or.inl (tk4 (i := 89) (by decide +kernel) rfl)
theorem mX7_13 : ML RX7 13 yX7_get := Or.inl (tk4 (i := 93) (by decide +kernel) rfl)
theorem mX8_100 : ML RX8 100 yX1_copyFrom := Or.inl (tk4 (i := 94) (by decide +kernel) rfl)
theorem mX1_26 : ML RX1 26 yX7_copyFrom := Or.inl (tk4 (i := 98) (by decide +kernel) rfl)
theorem mL_286 : ML RL 286 yX11_costs := Or.inl (tk4 (i := 99) (by decide +kernel) rfl)
theorem mX11_230 : ML RX11 230 yX8_loseWeight := Or.inl (tk4 (i := 104) (by decide +kernel) rfl)
theorem mX11_233 : ML RX11 233 yX8_weightOfAll := Or.inl (tk4 (i := 105) (by decide +kernel) rfl)
theorem mL_283 : ML RL 283 yX11_richest := Or.inl (tk4 (i := 106) (by decide +kernel) rfl)
theorem mX11_241 : ML RX11 241 yX8_wealthOf := Or.inl (tk4 (i := 111) (by decide +kernel) rfl)
theorem mL_280 : ML RL 280 yX11_until := Or.inl (tk4 (i := 115) (by decide +kernel) rfl)
theorem mX11_244 : ML RX11 244 yX8_isOverCredit := Or.inl (tk4 (i := 119) (by decide +kernel) rfl)
theorem mL_273 : ML RL 273 yX11_digest := Or.inl (tk4 (i := 123) (by decide +kernel) rfl)
theorem mX11_254 : ML RX11 254 yX11_digestOfLots := Or.inl (tk4 (i := 129) (by decide +kernel) rfl)
theorem mX11_258 : ML RX11 258 yX11_digestOfMerchants := Or.inl (tk4 (i := 133) (by decide +kernel) rfl)
theorem mX11_261 : ML RX11 261 yX11_digestOfGuilds := Or.inl (tk4 (i := 137) (by decide +kernel) rfl)
theorem mX11_264 : ML RX11 264 yX11_digestOfOrders := Or.inl (tk4 (i := 141) (by decide +kernel) rfl)
theorem mL_232 : ML RL 232 yX12_pass := Or.inl (tk4 (i := 145) (by decide +kernel) rfl)
theorem mX12_68 : ML RX12 68 yX12_lose := Or.inl (tk4 (i := 149) (by decide +kernel) rfl)
theorem mX12_71 : ML RX12 71 yX12_carry := Or.inl (tk4 (i := 154) (by decide +kernel) rfl)
theorem mX12_65 : ML RX12 65 yX12_does := Or.inl (tk4 (i := 158) (by decide +kernel) rfl)
theorem mX12_58 : ML RX12 58 yX12_holds := Or.inl (tk4 (i := 162) (by decide +kernel) rfl)
theorem mX12_53 : ML RX12 53 yX12_age := Or.inl (tk4 (i := 166) (by decide +kernel) rfl)
theorem mX12_49 : ML RX12 49 yX12_debts := Or.inl (tk4 (i := 170) (by decide +kernel) rfl)
theorem mX12_62 : ML RX12 62 yX12_sum := Or.inl (tk4 (i := 174) (by decide +kernel) rfl)
theorem mX12_40 : ML RX12 40 yJ9_min_7cf53 := Or.inl (tk4 (i := 178) (by decide +kernel) rfl)
theorem mX12_46 : ML RX12 46 yJ9_max_7cf53 := Or.inl (tk4 (i := 179) (by decide +kernel) rfl)
theorem mL_289 : ML RL 289 yX12_isSame := Or.inl (tk4 (i := 182) (by decide +kernel) rfl)
theorem mX12_98 : ML RX12 98 yX11_lot := Or.inl (tk4 (i := 186) (by decide +kernel) rfl)
theorem mX12_103 : ML RX12 103 yX12_owed := Or.inl (tk4 (i := 187) (by decide +kernel) rfl)
theorem mX12_106 : ML RX12 106 yX11_merchant := Or.inl (tk4 (i := 191) (by decide +kernel) rfl)
theorem mX12_109 : ML RX12 109 yX11_owes := Or.inl (tk4 (i := 192) (by decide +kernel) rfl)
theorem mX12_111 : ML RX12 111 yX11_chain := Or.inl (tk4 (i := 193) (by decide +kernel) rfl)
theorem mX12_114 : ML RX12 114 yX12_chain := Or.inl (tk4 (i := 194) (by decide +kernel) rfl)
theorem mX12_115 : ML RX12 115 yX11_ring := Or.inl (tk4 (i := 205) (by decide +kernel) rfl)
theorem mX12_118 : ML RX12 118 yX12_ring := Or.inl (tk4 (i := 206) (by decide +kernel) rfl)
theorem mX12_81 : ML RX12 81 yX12_back := Or.inl (tk4 (i := 211) (by decide +kernel) rfl)
theorem mX12_119 : ML RX12 119 yX11_guild := Or.inl (tk4 (i := 215) (by decide +kernel) rfl)
theorem mX12_122 : ML RX12 122 yX11_order := Or.inl (tk4 (i := 216) (by decide +kernel) rfl)
theorem mX12_125 : ML RX12 125 yX12_counts := Or.inl (tk4 (i := 217) (by decide +kernel) rfl)
theorem mX12_88 : ML RX12 88 yX12_weight := Or.inl (tk4 (i := 221) (by decide +kernel) rfl)
theorem mX12_129 : ML RX12 129 yX11_count := Or.inl (tk4 (i := 225) (by decide +kernel) rfl)
theorem mX12_132 : ML RX12 132 yX11_mean := Or.inl (tk4 (i := 226) (by decide +kernel) rfl)
theorem mL_123 : ML RL 123 yL_below := Or.inl (tk4 (i := 231) (by decide +kernel) rfl)
theorem mL_117 : ML RL 117 yL_cell := Or.inl (tk4 (i := 235) (by decide +kernel) rfl)
theorem mL_242 : ML RL 242 yL_taught := Or.inl (tk4 (i := 239) (by decide +kernel) rfl)
theorem mL_9 : ML RL 9 yX11_trim := Or.inl (tk5 (i := 2) (by decide +kernel) rfl)
theorem mL_15 : ML RL 15 yJ0_length_8abf5 := Or.inl (tk5 (i := 7) (by decide +kernel) rfl)
theorem mJ0_335 : ML RJ0 335 yJ0_coder_7d493 := Or.inl (tk5 (i := 11) (by decide +kernel) rfl)
theorem mL_21 : ML RL 21 yJ0_charAt_5068e := Or.inl (tk5 (i := 17) (by decide +kernel) rfl)
theorem mJ0_492 : ML RJ0 492 yJ0_isLatin1_aae02 := Or.inl (tk5 (i := 21) (by decide +kernel) rfl)
theorem mJ0_495 : ML RJ0 495 yJ1_charAt_3b067 := Or.inl (tk5 (i := 25) (by decide +kernel) rfl)
theorem mJ1_9 : ML RJ1 9 yJ0_checkIndex_df160 := Or.inl (tk5 (i := 28) (by decide +kernel) rfl)
theorem mJ0_1059 : ML RJ0 1059 yJ3_checkIndex_8e157 := Or.inl (tk5 (i := 33) (by decide +kernel) rfl)
theorem mJ0_498 : ML RJ0 498 yJ2_charAt_3b067 := Or.inl (tk5 (i := 36) (by decide +kernel) rfl)
theorem mJ2_67 : ML RJ2 67 yJ2_checkIndex_2214a := Or.inl (tk5 (i := 39) (by decide +kernel) rfl)
theorem mJ2_48 : ML RJ2 48 yJ2_length_9d52b := Or.inl (tk5 (i := 42) (by decide +kernel) rfl)
theorem mJ2_414 : ML RJ2 414 yJ0_checkIndex_df160 := Or.inl (tk5 (i := 45) (by decide +kernel) rfl)
theorem mJ2_71 : ML RJ2 71 yJ2_getChar_3b067 := Or.inl (tk5 (i := 46) (by decide +kernel) rfl)
theorem mL_25 : ML RL 25 yX11_feed := Or.inl (tk5 (i := 55) (by decide +kernel) rfl)
theorem mX11_81 : ML RX11 81 yX11_append := Or.inl (tk5 (i := 75) (by decide +kernel) rfl)
theorem mX11_208 : ML RX11 208 yX7_set := Or.inl (tk5 (i := 79) (by decide +kernel) rfl)
theorem mL_29 : ML RL 29 yX11_teach := Or.inl (tk5 (i := 80) (by decide +kernel) rfl)
theorem mX11_89 : ML RX11 89 yX10_scan := Or.inl (tk5 (i := 84) (by decide +kernel) rfl)
theorem mX10_37 : ML RX10 37 yX10_behindBlanks := Or.inl (tk5 (i := 88) (by decide +kernel) rfl)
theorem mX10_45 : ML RX10 45 yX7_get := Or.inl (tk5 (i := 92) (by decide +kernel) rfl)
theorem mX10_41 : ML RX10 41 yX10_reads := Or.inl (tk5 (i := 93) (by decide +kernel) rfl)
theorem mX10_54 : ML RX10 54 yX10_isLetter := Or.inl (tk5 (i := 97) (by decide +kernel) rfl)
theorem mX10_57 : ML RX10 57 yX10_readsWord := Or.inl (tk5 (i := 100) (by decide +kernel) rfl)
theorem mX10_60 : ML RX10 60 yX10_isDigit := Or.inl (tk5 (i := 104) (by decide +kernel) rfl)
theorem mX10_70 : ML RX10 70 yX10_keyword := Or.inl (tk5 (i := 107) (by decide +kernel) rfl)
theorem mX10_86 : ML RX10 86 yJ0_length_8abf5 := Or.inl (tk5 (i := 112) (by decide +kernel) rfl)
theorem mX10_89 : ML RX10 89 yJ0_charAt_5068e := Or.inl (tk5 (i := 113) (by decide +kernel) rfl)
theorem mX10_93 : ML RX10 93 yX10_spells := Or.inl (tk5 (i := 114) (by decide +kernel) rfl)
theorem mX10_74 : ML RX10 74 yX10_firstWithName := Or.inl (tk5 (i := 118) (by decide +kernel) rfl)
theorem mX10_97 : ML RX10 97 yX10_isSame := Or.inl (tk5 (i := 122) (by decide +kernel) rfl)
theorem mX10_50 : ML RX10 50 yX10_add := Or.inl (tk5 (i := 126) (by decide +kernel) rfl)
theorem mX10_100 : ML RX10 100 yX7_set := Or.inl (tk5 (i := 130) (by decide +kernel) rfl)
theorem mX10_63 : ML RX10 63 yX10_readsNumber := Or.inl (tk5 (i := 131) (by decide +kernel) rfl)
theorem mX10_66 : ML RX10 66 yX10_readsSign := Or.inl (tk5 (i := 135) (by decide +kernel) rfl)
theorem mX10_79 : ML RX10 79 yJ0_indexOf_0f7a4 := Or.inl (tk5 (i := 140) (by decide +kernel) rfl)
theorem mJ0_633 : ML RJ0 633 yJ0_indexOf_7cf53 := Or.inl (tk5 (i := 144) (by decide +kernel) rfl)
theorem mJ0_505 : ML RJ0 505 yJ0_length_8abf5 := Or.inl (tk5 (i := 148) (by decide +kernel) rfl)
theorem mJ0_637 : ML RJ0 637 yJ1_indexOf_4cfef := Or.inl (tk5 (i := 149) (by decide +kernel) rfl)
theorem mJ1_88 : ML RJ1 88 yJ1_canEncode_9a6ad := Or.inl (tk5 (i := 152) (by decide +kernel) rfl)
theorem mJ1_92 : ML RJ1 92 yJ9_max_7cf53 := Or.inl (tk5 (i := 155) (by decide +kernel) rfl)
theorem mJ1_38 : ML RJ1 38 yJ9_min_7cf53 := Or.inl (tk5 (i := 156) (by decide +kernel) rfl)
theorem mJ1_95 : ML RJ1 95 yJ1_indexOfChar_4cfef := Or.inl (tk5 (i := 157) (by decide +kernel) rfl)
theorem mJ0_640 : ML RJ0 640 yJ2_indexOf_4cfef := Or.inl (tk5 (i := 160) (by decide +kernel) rfl)
theorem mJ2_224 : ML RJ2 224 yJ9_max_7cf53 := Or.inl (tk5 (i := 163) (by decide +kernel) rfl)
theorem mJ2_183 : ML RJ2 183 yJ9_min_7cf53 := Or.inl (tk5 (i := 164) (by decide +kernel) rfl)
theorem mJ2_228 : ML RJ2 228 yJ2_indexOfChar_4cfef := Or.inl (tk5 (i := 166) (by decide +kernel) rfl)
theorem mJ2_96 : ML RJ2 96 yJ2_checkBoundsBeginEnd_d044e := Or.inl (tk5 (i := 169) (by decide +kernel) rfl)
theorem mJ2_241 : ML RJ2 241 yJ0_checkBoundsBeginEnd_23922 := Or.inl (tk5 (i := 172) (by decide +kernel) rfl)
theorem mJ0_1062 : ML RJ0 1062 yJ3_checkFromToIndex_8c36e := Or.inl (tk5 (i := 175) (by decide +kernel) rfl)
theorem mJ2_244 : ML RJ2 244 yJ2_indexOfCharUnsafe_4cfef := Or.inl (tk5 (i := 178) (by decide +kernel) rfl)
theorem mJ2_232 : ML RJ2 232 yJ2_indexOfSupplementary_4cfef := Or.inl (tk5 (i := 181) (by decide +kernel) rfl)
theorem mJ2_164 : ML RJ2 164 yJ11_isValidCodePoint_9a6ad := Or.inl (tk5 (i := 184) (by decide +kernel) rfl)
theorem mJ2_157 : ML RJ2 157 yJ11_highSurrogate_5068e := Or.inl (tk5 (i := 187) (by decide +kernel) rfl)
theorem mJ2_161 : ML RJ2 161 yJ11_lowSurrogate_5068e := Or.inl (tk5 (i := 191) (by decide +kernel) rfl)
theorem mX11_92 : ML RX11 92 yX5_read := Or.inl (tk5 (i := 195) (by decide +kernel) rfl)
theorem mX5_60 : ML RX5 60 yX5_begin := Or.inl (tk5 (i := 199) (by decide +kernel) rfl)
theorem mX5_101 : ML RX5 101 yX3_forget := Or.inl (tk5 (i := 203) (by decide +kernel) rfl)
theorem mX5_63 : ML RX5 63 yX5_seen := Or.inl (tk5 (i := 207) (by decide +kernel) rfl)
theorem mX5_54 : ML RX5 54 yX7_get := Or.inl (tk5 (i := 211) (by decide +kernel) rfl)
theorem mX5_69 : ML RX5 69 yX5_spiceLine := Or.inl (tk5 (i := 212) (by decide +kernel) rfl)
theorem mX5_87 : ML RX5 87 yX5_take := Or.inl (tk5 (i := 216) (by decide +kernel) rfl)
theorem mX5_84 : ML RX5 84 yX5_fail := Or.inl (tk5 (i := 220) (by decide +kernel) rfl)
theorem mX5_115 : ML RX5 115 yX5_takeNewName := Or.inl (tk5 (i := 224) (by decide +kernel) rfl)
theorem mX5_231 : ML RX5 231 yX3_find := Or.inl (tk5 (i := 228) (by decide +kernel) rfl)
theorem mX3_25 : ML RX3 25 yX7_get := Or.inl (tk5 (i := 232) (by decide +kernel) rfl)
theorem mX5_154 : ML RX5 154 yX5_blame := Or.inl (tk5 (i := 233) (by decide +kernel) rfl)
theorem mX5_234 : ML RX5 234 yX3_isFull := Or.inl (tk5 (i := 237) (by decide +kernel) rfl)
theorem mX5_238 : ML RX5 238 yX3_add := Or.inl (tk6 (i := 1) (by decide +kernel) rfl)
theorem mX3_29 : ML RX3 29 yX7_set := Or.inl (tk6 (i := 5) (by decide +kernel) rfl)
theorem mX5_122 : ML RX5 122 yX5_takeNumber := Or.inl (tk6 (i := 6) (by decide +kernel) rfl)
theorem mX5_126 : ML RX5 126 yX7_set := Or.inl (tk6 (i := 10) (by decide +kernel) rfl)
theorem mX5_72 : ML RX5 72 yX5_guildLine := Or.inl (tk6 (i := 11) (by decide +kernel) rfl)
theorem mX5_75 : ML RX5 75 yX5_merchantLine := Or.inl (tk6 (i := 15) (by decide +kernel) rfl)
theorem mX5_78 : ML RX5 78 yX5_lotLine := Or.inl (tk6 (i := 19) (by decide +kernel) rfl)
theorem mX5_145 : ML RX5 145 yX5_takeName := Or.inl (tk6 (i := 23) (by decide +kernel) rfl)
theorem mX5_81 : ML RX5 81 yX5_orderLine := Or.inl (tk6 (i := 27) (by decide +kernel) rfl)
theorem mX5_169 : ML RX5 169 yX5_sum := Or.inl (tk6 (i := 31) (by decide +kernel) rfl)
theorem mX5_204 : ML RX5 204 yX5_product := Or.inl (tk6 (i := 35) (by decide +kernel) rfl)
theorem mX5_207 : ML RX5 207 yX5_value := Or.inl (tk6 (i := 39) (by decide +kernel) rfl)
theorem mX5_184 : ML RX5 184 yX9_add := Or.inl (tk6 (i := 44) (by decide +kernel) rfl)
theorem mX9_30 : ML RX9 30 yX7_set := Or.inl (tk6 (i := 48) (by decide +kernel) rfl)
theorem mX5_213 : ML RX5 213 yX5_turnedValue := Or.inl (tk6 (i := 49) (by decide +kernel) rfl)
theorem mX5_200 : ML RX5 200 yX5_goesDeeper := Or.inl (tk6 (i := 53) (by decide +kernel) rfl)
theorem mX5_216 : ML RX5 216 yX5_sumInBrackets := Or.inl (tk6 (i := 57) (by decide +kernel) rfl)
theorem mX5_219 : ML RX5 219 yX5_oneOfTwoSums := Or.inl (tk6 (i := 61) (by decide +kernel) rfl)
theorem mX5_175 : ML RX5 175 yX5_test := Or.inl (tk6 (i := 65) (by decide +kernel) rfl)
theorem mX5_181 : ML RX5 181 yX5_both := Or.inl (tk6 (i := 69) (by decide +kernel) rfl)
theorem mX5_188 : ML RX5 188 yX5_single := Or.inl (tk6 (i := 73) (by decide +kernel) rfl)
theorem mX5_191 : ML RX5 191 yX5_turnedTest := Or.inl (tk6 (i := 77) (by decide +kernel) rfl)
theorem mX5_194 : ML RX5 194 yX5_testInBrackets := Or.inl (tk6 (i := 81) (by decide +kernel) rfl)
theorem mX5_197 : ML RX5 197 yX5_takeComparison := Or.inl (tk6 (i := 85) (by decide +kernel) rfl)
theorem mX5_225 : ML RX5 225 yX2_compares := Or.inl (tk6 (i := 89) (by decide +kernel) rfl)
theorem mX5_90 : ML RX5 90 yX3_told := Or.inl (tk6 (i := 90) (by decide +kernel) rfl)
theorem mX11_96 : ML RX11 96 yX5_faultPlace := Or.inl (tk6 (i := 94) (by decide +kernel) rfl)
theorem mX11_102 : ML RX11 102 yX4_copyFrom := Or.inl (tk6 (i := 98) (by decide +kernel) rfl)
theorem mX4_80 : ML RX4 80 yX7_copyFrom := Or.inl (tk6 (i := 102) (by decide +kernel) rfl)
theorem mX4_84 : ML RX4 84 yX9_copyFrom := Or.inl (tk6 (i := 103) (by decide +kernel) rfl)
theorem mX9_34 : ML RX9 34 yX7_copyFrom := Or.inl (tk6 (i := 107) (by decide +kernel) rfl)
theorem mX11_105 : ML RX11 105 yX8_begin := Or.inl (tk6 (i := 108) (by decide +kernel) rfl)
theorem mX8_68 : ML RX8 68 yX7_fill := Or.inl (tk6 (i := 112) (by decide +kernel) rfl)
theorem mX8_86 : ML RX8 86 yX8_takeChop := Or.inl (tk6 (i := 113) (by decide +kernel) rfl)
theorem mX8_93 : ML RX8 93 yX1_forget := Or.inl (tk6 (i := 117) (by decide +kernel) rfl)
theorem mL_237 : ML RL 237 yL_list := Or.inl (tk6 (i := 121) (by decide +kernel) rfl)
theorem nL_114 : FN RL 114 11 9 [0, 0, 2, 2, 2, 2, 2, 2, 2] := ⟨RX12, TX12, tyX12, rfl, in_X12, tyX12_ok, tk6 (i := 124) (by decide +kernel) rfl, tk4 (i := 152) (by decide +kernel) rfl, tk1 (i := 5) (by decide +kernel) rfl, fun j hj b => by rcases j with _ | j; rfl; skip; all_goals (repeat (first | (exact absurd hj (by omega)) | (rcases j with _ | j; rfl; skip)))⟩
theorem mL_116 : ML RL 116 yX12_init := Or.inr ⟨RL, tk6 (i := 125) (by decide +kernel) rfl⟩
theorem fX12_37 : FL RX12 37 11 0 false .int := ⟨RX12, TX12, 9, tyX12, rfl, by decide, in_X12, tyX12_ok, nmX12, rfl, rfl, Or.inl (tk6 (i := 131) (by decide +kernel) rfl)⟩
theorem fX12_7 : FL RX12 7 11 1 false .int := ⟨RX12, TX12, 9, tyX12, rfl, by decide, in_X12, tyX12_ok, nmX12, rfl, rfl, Or.inl (tk6 (i := 132) (by decide +kernel) rfl)⟩
theorem fL_203 : FL RL 203 11 1 false .int := ⟨RX12, TX12, 9, tyX12, rfl, by decide, in_X12, tyX12_ok, nmX12, rfl, rfl, Or.inl (tk6 (i := 133) (by decide +kernel) rfl)⟩
theorem fX12_13 : FL RX12 13 11 2 false (.array .int) := ⟨RX12, TX12, 9, tyX12, rfl, by decide, in_X12, tyX12_ok, nmX12, rfl, rfl, Or.inl (tk6 (i := 134) (by decide +kernel) rfl)⟩
theorem fL_127 : FL RL 127 11 2 false (.array .int) := ⟨RX12, TX12, 9, tyX12, rfl, by decide, in_X12, tyX12_ok, nmX12, rfl, rfl, Or.inl (tk6 (i := 135) (by decide +kernel) rfl)⟩
theorem fX12_18 : FL RX12 18 11 3 false (.array (.array .int)) := ⟨RX12, TX12, 9, tyX12, rfl, by decide, in_X12, tyX12_ok, nmX12, rfl, rfl, Or.inl (tk6 (i := 136) (by decide +kernel) rfl)⟩
theorem fL_138 : FL RL 138 11 3 false (.array (.array .int)) := ⟨RX12, TX12, 9, tyX12, rfl, by decide, in_X12, tyX12_ok, nmX12, rfl, rfl, Or.inl (tk6 (i := 137) (by decide +kernel) rfl)⟩
theorem fX12_22 : FL RX12 22 11 4 false (.array (.array .int)) := ⟨RX12, TX12, 9, tyX12, rfl, by decide, in_X12, tyX12_ok, nmX12, rfl, rfl, Or.inl (tk6 (i := 138) (by decide +kernel) rfl)⟩
theorem fL_148 : FL RL 148 11 4 false (.array (.array .int)) := ⟨RX12, TX12, 9, tyX12, rfl, by decide, in_X12, tyX12_ok, nmX12, rfl, rfl, Or.inl (tk6 (i := 139) (by decide +kernel) rfl)⟩
theorem fX12_25 : FL RX12 25 11 5 false (.array (.array .int)) := ⟨RX12, TX12, 9, tyX12, rfl, by decide, in_X12, tyX12_ok, nmX12, rfl, rfl, Or.inl (tk6 (i := 140) (by decide +kernel) rfl)⟩
theorem fL_152 : FL RL 152 11 5 false (.array (.array .int)) := ⟨RX12, TX12, 9, tyX12, rfl, by decide, in_X12, tyX12_ok, nmX12, rfl, rfl, Or.inl (tk6 (i := 141) (by decide +kernel) rfl)⟩
theorem fX12_28 : FL RX12 28 11 6 false (.array (.array .int)) := ⟨RX12, TX12, 9, tyX12, rfl, by decide, in_X12, tyX12_ok, nmX12, rfl, rfl, Or.inl (tk6 (i := 142) (by decide +kernel) rfl)⟩
theorem fL_163 : FL RL 163 11 6 false (.array (.array .int)) := ⟨RX12, TX12, 9, tyX12, rfl, by decide, in_X12, tyX12_ok, nmX12, rfl, rfl, Or.inl (tk6 (i := 143) (by decide +kernel) rfl)⟩
theorem fX12_31 : FL RX12 31 11 7 false (.array (.array .int)) := ⟨RX12, TX12, 9, tyX12, rfl, by decide, in_X12, tyX12_ok, nmX12, rfl, rfl, Or.inl (tk6 (i := 144) (by decide +kernel) rfl)⟩
theorem fL_174 : FL RL 174 11 7 false (.array (.array .int)) := ⟨RX12, TX12, 9, tyX12, rfl, by decide, in_X12, tyX12_ok, nmX12, rfl, rfl, Or.inl (tk6 (i := 145) (by decide +kernel) rfl)⟩
theorem fX12_34 : FL RX12 34 11 8 false (.array .int) := ⟨RX12, TX12, 9, tyX12, rfl, by decide, in_X12, tyX12_ok, nmX12, rfl, rfl, Or.inl (tk6 (i := 146) (by decide +kernel) rfl)⟩
theorem mL_37 : ML RL 37 yJ4_append_15ec4 := Or.inl (tk6 (i := 167) (by decide +kernel) rfl)
theorem mJ4_29 : ML RJ4 29 yJ5_append_cf1ce := Or.inl (tk6 (i := 171) (by decide +kernel) rfl)
theorem mJ5_204 : ML RJ5 204 yJ5_appendNull_278bc := Or.inl (tk6 (i := 175) (by decide +kernel) rfl)
theorem mJ5_100 : ML RJ5 100 yJ5_ensureCapacityInternal_d00df := Or.inl (tk6 (i := 179) (by decide +kernel) rfl)
theorem mJ5_104 : ML RJ5 104 yJ5_newCapacity_0f7a4 := Or.inl (tk6 (i := 183) (by decide +kernel) rfl)
theorem mJ5_114 : ML RJ5 114 yJ8_newLength_cabcc := Or.inl (tk6 (i := 187) (by decide +kernel) rfl)
theorem mJ8_194 : ML RJ8 194 yJ9_max_7cf53 := Or.inl (tk6 (i := 190) (by decide +kernel) rfl)
theorem mJ8_201 : ML RJ8 201 yJ8_hugeLength_7cf53 := Or.inl (tk6 (i := 192) (by decide +kernel) rfl)
theorem mJ5_108 : ML RJ5 108 yJ7_copyOf_9075b := Or.inl (tk6 (i := 196) (by decide +kernel) rfl)
theorem mJ7_304 : ML RJ7 304 yJ9_min_7cf53 := Or.inl (tk6 (i := 204) (by decide +kernel) rfl)
theorem mJ5_83 : ML RJ5 83 yJ5_isLatin1_aae02 := Or.inl (tk6 (i := 208) (by decide +kernel) rfl)
theorem mJ5_226 : ML RJ5 226 yJ2_putCharsAt_cd4e5 := Or.inl (tk6 (i := 214) (by decide +kernel) rfl)
theorem mJ2_111 : ML RJ2 111 yJ2_putChar_b72d1 := Or.inl (tk6 (i := 217) (by decide +kernel) rfl)
theorem mJ5_32 : ML RJ5 32 yJ0_length_8abf5 := Or.inl (tk6 (i := 220) (by decide +kernel) rfl)
theorem mJ5_208 : ML RJ5 208 yJ5_putStringAt_47b60 := Or.inl (tk6 (i := 221) (by decide +kernel) rfl)
theorem mJ5_397 : ML RJ5 397 yJ5_inflateIfNeededFor_a7421 := Or.inl (tk6 (i := 225) (by decide +kernel) rfl)
theorem mJ5_40 : ML RJ5 40 yJ0_coder_7d493 := Or.inl (tk6 (i := 229) (by decide +kernel) rfl)
theorem mJ5_195 : ML RJ5 195 yJ5_inflate_da8c8 := Or.inl (tk6 (i := 230) (by decide +kernel) rfl)
theorem mJ5_26 : ML RJ5 26 yJ2_newBytesFor_77867 := Or.inl (tk6 (i := 234) (by decide +kernel) rfl)
theorem mJ2_11 : ML RJ2 11 yJ2_newBytesLength_0f7a4 := Or.inl (tk6 (i := 237) (by decide +kernel) rfl)
theorem mJ5_125 : ML RJ5 125 yJ1_inflate_0e8fd := Or.inl (tk7 (i := 1) (by decide +kernel) rfl)
theorem mJ1_240 : ML RJ1 240 yJ2_inflate_0e8fd := Or.inl (tk7 (i := 4) (by decide +kernel) rfl)
theorem mJ2_173 : ML RJ2 173 yJ2_checkBoundsOffCount_d044e := Or.inl (tk7 (i := 7) (by decide +kernel) rfl)
theorem mJ2_419 : ML RJ2 419 yJ0_checkBoundsOffCount_cabcc := Or.inl (tk7 (i := 10) (by decide +kernel) rfl)
theorem mJ0_1065 : ML RJ0 1065 yJ3_checkFromIndexSize_8c36e := Or.inl (tk7 (i := 13) (by decide +kernel) rfl)
theorem mJ5_399 : ML RJ5 399 yJ0_getBytes_840e7 := Or.inl (tk7 (i := 16) (by decide +kernel) rfl)
theorem mJ0_106 : ML RJ0 106 yJ1_inflate_0e8fd := Or.inl (tk7 (i := 21) (by decide +kernel) rfl)
theorem mL_41 : ML RL 41 yJ4_append_bf812 := Or.inl (tk7 (i := 22) (by decide +kernel) rfl)
theorem mJ4_53 : ML RJ4 53 yJ5_append_c97b9 := Or.inl (tk7 (i := 26) (by decide +kernel) rfl)
theorem mJ5_245 : ML RJ5 245 yJ6_stringSize_0f7a4 := Or.inl (tk7 (i := 29) (by decide +kernel) rfl)
theorem mJ5_248 : ML RJ5 248 yJ6_getChars_ba4f3 := Or.inl (tk7 (i := 32) (by decide +kernel) rfl)
theorem mJ5_251 : ML RJ5 251 yJ2_getChars_46870 := Or.inl (tk7 (i := 39) (by decide +kernel) rfl)
theorem mJ2_393 : ML RJ2 393 yJ2_getChars_ba4f3 := Or.inl (tk7 (i := 42) (by decide +kernel) rfl)
theorem mL_177 : ML RL 177 yJ9_max_7cf53 := Or.inl (tk7 (i := 62) (by decide +kernel) rfl)
theorem nL_32 : FN RL 32 13 4 [2, 0, 0, 0] := ⟨RJ4, TJ4, tyJ4, rfl, in_J4, tyJ4_ok, tk7 (i := 63) (by decide +kernel) rfl, tk7 (i := 64) (by decide +kernel) rfl, tk1 (i := 2) (by decide +kernel) rfl, fun j hj b => by rcases j with _ | j; rfl; skip; all_goals (repeat (first | (exact absurd hj (by omega)) | (rcases j with _ | j; rfl; skip)))⟩
theorem mL_34 : ML RL 34 yJ4_init_da8c8 := Or.inl (tk7 (i := 65) (by decide +kernel) rfl)
theorem mJ4_1 : ML RJ4 1 yJ5_init_d00df := Or.inl (tk7 (i := 68) (by decide +kernel) rfl)
theorem fJ5_15 : FL RJ5 15 13 0 false (.array .byte) := ⟨RJ4, TJ4, 4, tyJ4, rfl, by decide, in_J4, tyJ4_ok, nmJ4, rfl, rfl, Or.inl (tk7 (i := 72) (by decide +kernel) rfl)⟩
theorem fJ5_22 : FL RJ5 22 13 1 false .byte := ⟨RJ4, TJ4, 4, tyJ4, rfl, by decide, in_J4, tyJ4_ok, nmJ4, rfl, rfl, Or.inl (tk7 (i := 73) (by decide +kernel) rfl)⟩
theorem fJ0_1048 : FL RJ0 1048 13 2 false .boolean := ⟨RJ4, TJ4, 4, tyJ4, rfl, by decide, in_J4, tyJ4_ok, nmJ4, rfl, rfl, Or.inl (tk7 (i := 74) (by decide +kernel) rfl)⟩
theorem fJ5_79 : FL RJ5 79 13 3 false .int := ⟨RJ4, TJ4, 4, tyJ4, rfl, by decide, in_J4, tyJ4_ok, nmJ4, rfl, rfl, Or.inl (tk7 (i := 75) (by decide +kernel) rfl)⟩
theorem mL_44 : ML RL 44 yJ4_toString_0e30d := Or.inl (tk7 (i := 86) (by decide +kernel) rfl)
theorem nJ4_18 : FN RJ4 18 12 4 [2, 0, 0, 0] := ⟨RJ0, TJ0, tyJ0, rfl, in_J0, tyJ0_ok, tk7 (i := 90) (by decide +kernel) rfl, tk7 (i := 91) (by decide +kernel) rfl, tk1 (i := 3) (by decide +kernel) rfl, fun j hj b => by rcases j with _ | j; rfl; skip; all_goals (repeat (first | (exact absurd hj (by omega)) | (rcases j with _ | j; rfl; skip)))⟩
theorem mJ4_137 : ML RJ4 137 yJ0_init_81219 := Or.inl (tk7 (i := 92) (by decide +kernel) rfl)
theorem mJ0_489 : ML RJ0 489 yJ0_init_db425 := Or.inl (tk7 (i := 95) (by decide +kernel) rfl)
theorem mJ0_552 : ML RJ0 552 yJ5_getValue_6d5f1 := Or.inl (tk7 (i := 99) (by decide +kernel) rfl)
theorem mJ0_549 : ML RJ0 549 yJ5_length_8abf5 := Or.inl (tk7 (i := 104) (by decide +kernel) rfl)
theorem mJ4_343 : ML RJ4 343 yJ5_length_8abf5 := Or.inl (tk7 (i := 110) (by decide +kernel) rfl)
theorem mJ0_1047 : ML RJ0 1047 yJ5_isLatin1_aae02 := Or.inl (tk7 (i := 112) (by decide +kernel) rfl)
theorem mJ0_54 : ML RJ0 54 yJ7_copyOfRange_39247 := Or.inl (tk7 (i := 113) (by decide +kernel) rfl)
theorem mJ7_339 : ML RJ7 339 yJ7_copyOfRangeByte_39247 := Or.inl (tk7 (i := 116) (by decide +kernel) rfl)
theorem mJ7_343 : ML RJ7 343 yJ7_checkLength_df160 := Or.inl (tk7 (i := 119) (by decide +kernel) rfl)
theorem mJ0_1051 : ML RJ0 1051 yJ2_compress_39247 := Or.inl (tk7 (i := 122) (by decide +kernel) rfl)
theorem mJ2_123 : ML RJ2 123 yJ2_compress_5af95 := Or.inl (tk7 (i := 125) (by decide +kernel) rfl)
theorem mJ2_126 : ML RJ2 126 yJ7_copyOfRange_39247 := Or.inl (tk7 (i := 128) (by decide +kernel) rfl)
theorem mJ0_47 : ML RJ0 47 yJ2_coderFromArrayLen_85cad := Or.inl (tk7 (i := 129) (by decide +kernel) rfl)
theorem fJ0_9 : FL RJ0 9 12 0 true (.array .byte) := ⟨RJ0, TJ0, 4, tyJ0, rfl, by decide, in_J0, tyJ0_ok, nmJ0, rfl, rfl, Or.inl (tk7 (i := 132) (by decide +kernel) rfl)⟩
theorem FJ0_9 : FLF RJ0 9 12 0 (.array .byte) := ⟨TJ0, 4, tyJ0, rfl, by decide, in_J0, tyJ0_ok, nmJ0, rfl, rfl, rfl, tk7 (i := 132) (by decide +kernel) rfl⟩
theorem fJ0_15 : FL RJ0 15 12 1 true .byte := ⟨RJ0, TJ0, 4, tyJ0, rfl, by decide, in_J0, tyJ0_ok, nmJ0, rfl, rfl, Or.inl (tk7 (i := 133) (by decide +kernel) rfl)⟩
theorem FJ0_15 : FLF RJ0 15 12 1 .byte := ⟨TJ0, 4, tyJ0, rfl, by decide, in_J0, tyJ0_ok, nmJ0, rfl, rfl, rfl, tk7 (i := 133) (by decide +kernel) rfl⟩
theorem mL_192 : ML RL 192 yL_sum := Or.inl (tk7 (i := 146) (by decide +kernel) rfl)
theorem mL_198 : ML RL 198 yL_when := Or.inl (tk7 (i := 167) (by decide +kernel) rfl)
theorem mL_252 : ML RL 252 yL_act := Or.inl (tk7 (i := 188) (by decide +kernel) rfl)
theorem mL_207 : ML RL 207 yX11_setDamp := Or.inl (tk7 (i := 192) (by decide +kernel) rfl)
theorem mL_210 : ML RL 210 yX12_debts := Or.inl (tk7 (i := 197) (by decide +kernel) rfl)
theorem mL_213 : ML RL 213 yX11_lend := Or.inl (tk7 (i := 198) (by decide +kernel) rfl)
theorem mX11_181 : ML RX11 181 yX1_sumOf := Or.inl (tk7 (i := 203) (by decide +kernel) rfl)
theorem mX11_189 : ML RX11 189 yX8_moveCoins := Or.inl (tk7 (i := 205) (by decide +kernel) rfl)
theorem mX11_193 : ML RX11 193 yX1_grow := Or.inl (tk7 (i := 206) (by decide +kernel) rfl)
theorem mL_219 : ML RL 219 yJ9_min_7cf53 := Or.inl (tk7 (i := 207) (by decide +kernel) rfl)
theorem mL_222 : ML RL 222 yX11_offset := Or.inl (tk7 (i := 208) (by decide +kernel) rfl)
theorem mX11_198 : ML RX11 198 yJ9_min_7cf53 := Or.inl (tk7 (i := 213) (by decide +kernel) rfl)
theorem mL_225 : ML RL 225 yX11_dry := Or.inl (tk7 (i := 214) (by decide +kernel) rfl)
theorem mX11_212 : ML RX11 212 yX8_takeChop := Or.inl (tk7 (i := 219) (by decide +kernel) rfl)
theorem mL_228 : ML RL 228 yL_passed := Or.inl (tk7 (i := 220) (by decide +kernel) rfl)
theorem kX11_init : CAI yX11_init cX11_init 1 none 0 := ⟨tk1 (i := 36) (by decide +kernel) rfl, tk1 (i := 13) (by decide +kernel) rfl, tk1 (i := 35) (by decide +kernel) rfl, rfl, by decide +kernel, by decide +kernel, by decide +kernel⟩
theorem kX7_init : CAI yX7_init cX7_init 2 none 1 := ⟨tk1 (i := 44) (by decide +kernel) rfl, tk1 (i := 14) (by decide +kernel) rfl, tk1 (i := 43) (by decide +kernel) rfl, rfl, by decide +kernel, by decide +kernel, by decide +kernel⟩
theorem kX10_init : CAI yX10_init cX10_init 2 none 1 := ⟨tk1 (i := 55) (by decide +kernel) rfl, tk1 (i := 15) (by decide +kernel) rfl, tk1 (i := 54) (by decide +kernel) rfl, rfl, by decide +kernel, by decide +kernel, by decide +kernel⟩
theorem kX5_init : CAI yX5_init cX5_init 2 none 1 := ⟨tk1 (i := 88) (by decide +kernel) rfl, tk1 (i := 16) (by decide +kernel) rfl, tk1 (i := 87) (by decide +kernel) rfl, rfl, by decide +kernel, by decide +kernel, by decide +kernel⟩
theorem kX4_init : CAI yX4_init cX4_init 1 none 0 := ⟨tk1 (i := 94) (by decide +kernel) rfl, tk1 (i := 17) (by decide +kernel) rfl, tk1 (i := 93) (by decide +kernel) rfl, rfl, by decide +kernel, by decide +kernel, by decide +kernel⟩
theorem kX9_init : CAI yX9_init cX9_init 1 none 0 := ⟨tk1 (i := 102) (by decide +kernel) rfl, tk1 (i := 18) (by decide +kernel) rfl, tk1 (i := 101) (by decide +kernel) rfl, rfl, by decide +kernel, by decide +kernel, by decide +kernel⟩
theorem kX3_init : CAI yX3_init cX3_init 2 none 1 := ⟨tk1 (i := 238) (by decide +kernel) rfl, tk1 (i := 19) (by decide +kernel) rfl, tk1 (i := 237) (by decide +kernel) rfl, rfl, by decide +kernel, by decide +kernel, by decide +kernel⟩
theorem kX8_init : CAI yX8_init cX8_init 2 none 1 := ⟨tk2 (i := 47) (by decide +kernel) rfl, tk1 (i := 20) (by decide +kernel) rfl, tk2 (i := 46) (by decide +kernel) rfl, rfl, by decide +kernel, by decide +kernel, by decide +kernel⟩
theorem kX1_init : CAI yX1_init cX1_init 1 none 0 := ⟨tk2 (i := 55) (by decide +kernel) rfl, tk1 (i := 21) (by decide +kernel) rfl, tk2 (i := 54) (by decide +kernel) rfl, rfl, by decide +kernel, by decide +kernel, by decide +kernel⟩
theorem kX0_init : CAI yX0_init cX0_init 3 none 2 := ⟨tk2 (i := 140) (by decide +kernel) rfl, tk1 (i := 22) (by decide +kernel) rfl, tk2 (i := 139) (by decide +kernel) rfl, rfl, by decide +kernel, by decide +kernel, by decide +kernel⟩
theorem kX6_init : CAI yX6_init cX6_init 3 none 2 := ⟨tk2 (i := 146) (by decide +kernel) rfl, tk1 (i := 23) (by decide +kernel) rfl, tk2 (i := 145) (by decide +kernel) rfl, rfl, by decide +kernel, by decide +kernel, by decide +kernel⟩
theorem kX11_count : CAV yX11_count cX11_count 2 (some .int) 1 := ⟨tk2 (i := 207) (by decide +kernel) rfl, tk1 (i := 13) (by decide +kernel) rfl, tk2 (i := 205) (by decide +kernel) rfl, tk2 (i := 206) (by decide +kernel) rfl, by decide +kernel, by decide +kernel, by decide +kernel⟩
theorem kX11_counted : CAV yX11_counted cX11_counted 2 (some .int) 1 := ⟨tk3 (i := 39) (by decide +kernel) rfl, tk1 (i := 13) (by decide +kernel) rfl, tk3 (i := 38) (by decide +kernel) rfl, tp1 (i := 1) (n := 10) (by decide +kernel), by decide +kernel, by decide +kernel, by decide +kernel⟩
theorem kX8_tellAll : CAV yX8_tellAll cX8_tellAll 2 (some .int) 1 := ⟨tk3 (i := 43) (by decide +kernel) rfl, tk1 (i := 20) (by decide +kernel) rfl, tk3 (i := 41) (by decide +kernel) rfl, tk3 (i := 42) (by decide +kernel) rfl, by decide +kernel, by decide +kernel, by decide +kernel⟩
theorem kX8_weightOfAll : CAV yX8_weightOfAll cX8_weightOfAll 1 (some .int) 0 := ⟨tk3 (i := 47) (by decide +kernel) rfl, tk1 (i := 20) (by decide +kernel) rfl, tk3 (i := 45) (by decide +kernel) rfl, tk3 (i := 46) (by decide +kernel) rfl, by decide +kernel, by decide +kernel, by decide +kernel⟩
theorem kX7_sum : CAV yX7_sum cX7_sum 3 (some .int) 0 := ⟨tk3 (i := 51) (by decide +kernel) rfl, tk1 (i := 14) (by decide +kernel) rfl, tk3 (i := 49) (by decide +kernel) rfl, tk3 (i := 50) (by decide +kernel) rfl, by decide +kernel, by decide +kernel, by decide +kernel⟩
theorem kX1_sumOfAll : CAV yX1_sumOfAll cX1_sumOfAll 1 (some .int) 0 := ⟨tk3 (i := 55) (by decide +kernel) rfl, tk1 (i := 21) (by decide +kernel) rfl, tk3 (i := 53) (by decide +kernel) rfl, tk3 (i := 54) (by decide +kernel) rfl, by decide +kernel, by decide +kernel, by decide +kernel⟩
theorem kX11_lot : CAV yX11_lot cX11_lot 3 (some .int) 2 := ⟨tk3 (i := 60) (by decide +kernel) rfl, tk1 (i := 13) (by decide +kernel) rfl, tk3 (i := 58) (by decide +kernel) rfl, tk3 (i := 59) (by decide +kernel) rfl, by decide +kernel, by decide +kernel, by decide +kernel⟩
theorem kX11_isLot : CAV yX11_isLot cX11_isLot 2 (some .boolean) 1 := ⟨tk3 (i := 64) (by decide +kernel) rfl, tk1 (i := 13) (by decide +kernel) rfl, tk3 (i := 63) (by decide +kernel) rfl, tp1 (i := 2) (n := 10) (by decide +kernel), by decide +kernel, by decide +kernel, by decide +kernel⟩
theorem kX8_tellLot : CAV yX8_tellLot cX8_tellLot 3 (some .int) 2 := ⟨tk3 (i := 69) (by decide +kernel) rfl, tk1 (i := 20) (by decide +kernel) rfl, tk3 (i := 67) (by decide +kernel) rfl, tk3 (i := 68) (by decide +kernel) rfl, by decide +kernel, by decide +kernel, by decide +kernel⟩
theorem kX7_get : CAV yX7_get cX7_get 2 (some .int) 1 := ⟨tk3 (i := 73) (by decide +kernel) rfl, tk1 (i := 14) (by decide +kernel) rfl, tk3 (i := 71) (by decide +kernel) rfl, tk3 (i := 72) (by decide +kernel) rfl, by decide +kernel, by decide +kernel, by decide +kernel⟩
theorem kX8_ageOfChop : CAV yX8_ageOfChop cX8_ageOfChop 2 (some .int) 1 := ⟨tk3 (i := 77) (by decide +kernel) rfl, tk1 (i := 20) (by decide +kernel) rfl, tk3 (i := 75) (by decide +kernel) rfl, tk3 (i := 76) (by decide +kernel) rfl, by decide +kernel, by decide +kernel, by decide +kernel⟩
theorem kX8_canBeSold : CAV yX8_canBeSold cX8_canBeSold 2 (some .boolean) 1 := ⟨tk3 (i := 81) (by decide +kernel) rfl, tk1 (i := 20) (by decide +kernel) rfl, tk3 (i := 79) (by decide +kernel) rfl, tk3 (i := 80) (by decide +kernel) rfl, by decide +kernel, by decide +kernel, by decide +kernel⟩
theorem kX11_merchant : CAV yX11_merchant cX11_merchant 3 (some .int) 2 := ⟨tk3 (i := 85) (by decide +kernel) rfl, tk1 (i := 13) (by decide +kernel) rfl, tk3 (i := 83) (by decide +kernel) rfl, tk3 (i := 84) (by decide +kernel) rfl, by decide +kernel, by decide +kernel, by decide +kernel⟩
theorem kX11_isMerchant : CAV yX11_isMerchant cX11_isMerchant 2 (some .boolean) 1 := ⟨tk3 (i := 89) (by decide +kernel) rfl, tk1 (i := 13) (by decide +kernel) rfl, tk3 (i := 88) (by decide +kernel) rfl, tp1 (i := 3) (n := 10) (by decide +kernel), by decide +kernel, by decide +kernel, by decide +kernel⟩
theorem kX8_tellMerchant : CAV yX8_tellMerchant cX8_tellMerchant 3 (some .int) 2 := ⟨tk3 (i := 94) (by decide +kernel) rfl, tk1 (i := 20) (by decide +kernel) rfl, tk3 (i := 92) (by decide +kernel) rfl, tk3 (i := 93) (by decide +kernel) rfl, by decide +kernel, by decide +kernel, by decide +kernel⟩
theorem kX1_sumOf : CAV yX1_sumOf cX1_sumOf 4 (some .int) 1 := ⟨tk3 (i := 98) (by decide +kernel) rfl, tk1 (i := 21) (by decide +kernel) rfl, tk3 (i := 96) (by decide +kernel) rfl, tk3 (i := 97) (by decide +kernel) rfl, by decide +kernel, by decide +kernel, by decide +kernel⟩
theorem kX1_sumOwedTo : CAV yX1_sumOwedTo cX1_sumOwedTo 4 (some .int) 1 := ⟨tk3 (i := 103) (by decide +kernel) rfl, tk1 (i := 21) (by decide +kernel) rfl, tk3 (i := 101) (by decide +kernel) rfl, tk3 (i := 102) (by decide +kernel) rfl, by decide +kernel, by decide +kernel, by decide +kernel⟩
theorem kX8_lotsOf : CAV yX8_lotsOf cX8_lotsOf 4 (some .int) 1 := ⟨tk3 (i := 107) (by decide +kernel) rfl, tk1 (i := 20) (by decide +kernel) rfl, tk3 (i := 106) (by decide +kernel) rfl, tp1 (i := 4) (n := 15) (by decide +kernel), by decide +kernel, by decide +kernel, by decide +kernel⟩
theorem kX8_weightOfLotsOf : CAV yX8_weightOfLotsOf cX8_weightOfLotsOf 4 (some .int) 1 := ⟨tk3 (i := 111) (by decide +kernel) rfl, tk1 (i := 20) (by decide +kernel) rfl, tk3 (i := 110) (by decide +kernel) rfl, tp1 (i := 5) (n := 15) (by decide +kernel), by decide +kernel, by decide +kernel, by decide +kernel⟩
theorem kX11_guild : CAV yX11_guild cX11_guild 3 (some .int) 2 := ⟨tk3 (i := 115) (by decide +kernel) rfl, tk1 (i := 13) (by decide +kernel) rfl, tk3 (i := 113) (by decide +kernel) rfl, tk3 (i := 114) (by decide +kernel) rfl, by decide +kernel, by decide +kernel, by decide +kernel⟩
theorem kX8_tellGuild : CAV yX8_tellGuild cX8_tellGuild 3 (some .int) 2 := ⟨tk3 (i := 120) (by decide +kernel) rfl, tk1 (i := 20) (by decide +kernel) rfl, tk3 (i := 118) (by decide +kernel) rfl, tk3 (i := 119) (by decide +kernel) rfl, by decide +kernel, by decide +kernel, by decide +kernel⟩
theorem kX8_lotsWithChopOf : CAV yX8_lotsWithChopOf cX8_lotsWithChopOf 4 (some .int) 1 := ⟨tk3 (i := 124) (by decide +kernel) rfl, tk1 (i := 20) (by decide +kernel) rfl, tk3 (i := 123) (by decide +kernel) rfl, tp1 (i := 6) (n := 15) (by decide +kernel), by decide +kernel, by decide +kernel, by decide +kernel⟩
theorem kX11_order : CAV yX11_order cX11_order 3 (some .int) 2 := ⟨tk3 (i := 128) (by decide +kernel) rfl, tk1 (i := 13) (by decide +kernel) rfl, tk3 (i := 126) (by decide +kernel) rfl, tk3 (i := 127) (by decide +kernel) rfl, by decide +kernel, by decide +kernel, by decide +kernel⟩
theorem kX11_tellOrder : CAV yX11_tellOrder cX11_tellOrder 3 (some .int) 2 := ⟨tk3 (i := 133) (by decide +kernel) rfl, tk1 (i := 13) (by decide +kernel) rfl, tk3 (i := 132) (by decide +kernel) rfl, tp1 (i := 7) (n := 10) (by decide +kernel), by decide +kernel, by decide +kernel, by decide +kernel⟩
theorem kX0_wouldCarryOut : CAV yX0_wouldCarryOut cX0_wouldCarryOut 7 (some .boolean) 1 := ⟨tk3 (i := 138) (by decide +kernel) rfl, tk1 (i := 22) (by decide +kernel) rfl, tk3 (i := 136) (by decide +kernel) rfl, tk3 (i := 137) (by decide +kernel) rfl, by decide +kernel, by decide +kernel, by decide +kernel⟩
theorem kX6_reckon : CAV yX6_reckon cX6_reckon 6 (some .int) 2 := ⟨tk3 (i := 143) (by decide +kernel) rfl, tk1 (i := 23) (by decide +kernel) rfl, tk3 (i := 141) (by decide +kernel) rfl, tk3 (i := 142) (by decide +kernel) rfl, by decide +kernel, by decide +kernel, by decide +kernel⟩
theorem kX6_take : CAV yX6_take cX6_take 1 (some .int) 0 := ⟨tk3 (i := 148) (by decide +kernel) rfl, tk1 (i := 23) (by decide +kernel) rfl, tk3 (i := 147) (by decide +kernel) rfl, tp1 (i := 8) (n := 4) (by decide +kernel), by decide +kernel, by decide +kernel, by decide +kernel⟩
theorem kX6_put : CAV yX6_put cX6_put 2 none 1 := ⟨tk3 (i := 152) (by decide +kernel) rfl, tk1 (i := 23) (by decide +kernel) rfl, tk3 (i := 151) (by decide +kernel) rfl, tp1 (i := 9) (n := 4) (by decide +kernel), by decide +kernel, by decide +kernel, by decide +kernel⟩
theorem kX7_set : CAV yX7_set cX7_set 3 none 2 := ⟨tk3 (i := 156) (by decide +kernel) rfl, tk1 (i := 14) (by decide +kernel) rfl, tk3 (i := 154) (by decide +kernel) rfl, tk3 (i := 155) (by decide +kernel) rfl, by decide +kernel, by decide +kernel, by decide +kernel⟩
theorem kX6_joined : CAS yX6_joined cX6_joined 3 (some .int) 3 := ⟨tk3 (i := 162) (by decide +kernel) rfl, tk1 (i := 23) (by decide +kernel) rfl, tk3 (i := 161) (by decide +kernel) rfl, by decide +kernel, by decide +kernel, by decide +kernel⟩
theorem kX6_holds : CAS yX6_holds cX6_holds 3 (some .boolean) 3 := ⟨tk3 (i := 174) (by decide +kernel) rfl, tk1 (i := 23) (by decide +kernel) rfl, tk3 (i := 173) (by decide +kernel) rfl, by decide +kernel, by decide +kernel, by decide +kernel⟩
theorem kX6_value : CAV yX6_value cX6_value 4 (some .int) 3 := ⟨tk3 (i := 181) (by decide +kernel) rfl, tk1 (i := 23) (by decide +kernel) rfl, tk3 (i := 180) (by decide +kernel) rfl, tp1 (i := 10) (n := 4) (by decide +kernel), by decide +kernel, by decide +kernel, by decide +kernel⟩
theorem kX1_between : CAV yX1_between cX1_between 3 (some .int) 2 := ⟨tk3 (i := 187) (by decide +kernel) rfl, tk1 (i := 21) (by decide +kernel) rfl, tk3 (i := 185) (by decide +kernel) rfl, tk3 (i := 186) (by decide +kernel) rfl, by decide +kernel, by decide +kernel, by decide +kernel⟩
theorem kX0_canWeigh : CAV yX0_canWeigh cX0_canWeigh 3 (some .boolean) 2 := ⟨tk3 (i := 191) (by decide +kernel) rfl, tk1 (i := 22) (by decide +kernel) rfl, tk3 (i := 190) (by decide +kernel) rfl, tp1 (i := 11) (n := 3) (by decide +kernel), by decide +kernel, by decide +kernel, by decide +kernel⟩
theorem kX0_canSell : CAV yX0_canSell cX0_canSell 5 (some .boolean) 3 := ⟨tk3 (i := 195) (by decide +kernel) rfl, tk1 (i := 22) (by decide +kernel) rfl, tk3 (i := 194) (by decide +kernel) rfl, tp1 (i := 12) (n := 3) (by decide +kernel), by decide +kernel, by decide +kernel, by decide +kernel⟩
theorem kX0_price : CAV yX0_price cX0_price 4 (some .int) 2 := ⟨tk3 (i := 200) (by decide +kernel) rfl, tk1 (i := 22) (by decide +kernel) rfl, tk3 (i := 199) (by decide +kernel) rfl, tp1 (i := 13) (n := 3) (by decide +kernel), by decide +kernel, by decide +kernel, by decide +kernel⟩
theorem kX0_due : CAV yX0_due cX0_due 5 (some .int) 3 := ⟨tk3 (i := 207) (by decide +kernel) rfl, tk1 (i := 22) (by decide +kernel) rfl, tk3 (i := 206) (by decide +kernel) rfl, tp1 (i := 14) (n := 3) (by decide +kernel), by decide +kernel, by decide +kernel, by decide +kernel⟩
theorem kX11_owes : CAV yX11_owes cX11_owes 3 (some .int) 2 := ⟨tk3 (i := 212) (by decide +kernel) rfl, tk1 (i := 13) (by decide +kernel) rfl, tk3 (i := 210) (by decide +kernel) rfl, tk3 (i := 211) (by decide +kernel) rfl, by decide +kernel, by decide +kernel, by decide +kernel⟩
theorem kX11_chain : CAV yX11_chain cX11_chain 3 (some .int) 2 := ⟨tk3 (i := 218) (by decide +kernel) rfl, tk1 (i := 13) (by decide +kernel) rfl, tk3 (i := 216) (by decide +kernel) rfl, tk3 (i := 217) (by decide +kernel) rfl, by decide +kernel, by decide +kernel, by decide +kernel⟩
theorem kX1_fewestFromTo : CAV yX1_fewestFromTo cX1_fewestFromTo 4 (some .int) 2 := ⟨tk3 (i := 222) (by decide +kernel) rfl, tk1 (i := 21) (by decide +kernel) rfl, tk3 (i := 220) (by decide +kernel) rfl, tk3 (i := 221) (by decide +kernel) rfl, by decide +kernel, by decide +kernel, by decide +kernel⟩
theorem kX7_fill : CAV yX7_fill cX7_fill 3 none 1 := ⟨tk3 (i := 226) (by decide +kernel) rfl, tk1 (i := 14) (by decide +kernel) rfl, tk3 (i := 224) (by decide +kernel) rfl, tk3 (i := 225) (by decide +kernel) rfl, by decide +kernel, by decide +kernel, by decide +kernel⟩
theorem kX1_reachBy : CAV yX1_reachBy cX1_reachBy 4 none 1 := ⟨tk3 (i := 231) (by decide +kernel) rfl, tk1 (i := 21) (by decide +kernel) rfl, tk3 (i := 230) (by decide +kernel) rfl, tp1 (i := 15) (n := 2) (by decide +kernel), by decide +kernel, by decide +kernel, by decide +kernel⟩
theorem kX11_ring : CAV yX11_ring cX11_ring 2 (some .int) 1 := ⟨tk3 (i := 236) (by decide +kernel) rfl, tk1 (i := 13) (by decide +kernel) rfl, tk3 (i := 234) (by decide +kernel) rfl, tk3 (i := 235) (by decide +kernel) rfl, by decide +kernel, by decide +kernel, by decide +kernel⟩
theorem kX1_widestRing : CAV yX1_widestRing cX1_widestRing 4 (some .int) 1 := ⟨tk4 (i := 0) (by decide +kernel) rfl, tk1 (i := 21) (by decide +kernel) rfl, tk3 (i := 238) (by decide +kernel) rfl, tk3 (i := 239) (by decide +kernel) rfl, by decide +kernel, by decide +kernel, by decide +kernel⟩
theorem kX1_widen : CAV yX1_widen cX1_widen 4 none 0 := ⟨tk4 (i := 4) (by decide +kernel) rfl, tk1 (i := 21) (by decide +kernel) rfl, tk4 (i := 3) (by decide +kernel) rfl, tp2 (i := 0) (n := 2) (by decide +kernel), by decide +kernel, by decide +kernel, by decide +kernel⟩
theorem kX11_pass : CAV yX11_pass cX11_pass 2 (some .int) 1 := ⟨tk4 (i := 10) (by decide +kernel) rfl, tk1 (i := 13) (by decide +kernel) rfl, tk4 (i := 8) (by decide +kernel) rfl, tk4 (i := 9) (by decide +kernel) rfl, by decide +kernel, by decide +kernel, by decide +kernel⟩
theorem kX0_goOn : CAV yX0_goOn cX0_goOn 4 (some .int) 1 := ⟨tk4 (i := 30) (by decide +kernel) rfl, tk1 (i := 22) (by decide +kernel) rfl, tk4 (i := 28) (by decide +kernel) rfl, tk4 (i := 29) (by decide +kernel) rfl, by decide +kernel, by decide +kernel, by decide +kernel⟩
theorem kX8_loseWeight : CAV yX8_loseWeight cX8_loseWeight 4 none 0 := ⟨tk4 (i := 34) (by decide +kernel) rfl, tk1 (i := 20) (by decide +kernel) rfl, tk4 (i := 32) (by decide +kernel) rfl, tk4 (i := 33) (by decide +kernel) rfl, by decide +kernel, by decide +kernel, by decide +kernel⟩
theorem kX0_followOrders : CAV yX0_followOrders cX0_followOrders 3 (some .int) 0 := ⟨tk4 (i := 39) (by decide +kernel) rfl, tk1 (i := 22) (by decide +kernel) rfl, tk4 (i := 38) (by decide +kernel) rfl, tp2 (i := 1) (n := 3) (by decide +kernel), by decide +kernel, by decide +kernel, by decide +kernel⟩
theorem kX0_carryOut : CAV yX0_carryOut cX0_carryOut 5 none 1 := ⟨tk4 (i := 44) (by decide +kernel) rfl, tk1 (i := 22) (by decide +kernel) rfl, tk4 (i := 43) (by decide +kernel) rfl, tp2 (i := 2) (n := 3) (by decide +kernel), by decide +kernel, by decide +kernel, by decide +kernel⟩
theorem kX0_weigh : CAV yX0_weigh cX0_weigh 5 none 2 := ⟨tk4 (i := 48) (by decide +kernel) rfl, tk1 (i := 22) (by decide +kernel) rfl, tk4 (i := 47) (by decide +kernel) rfl, tp2 (i := 3) (n := 3) (by decide +kernel), by decide +kernel, by decide +kernel, by decide +kernel⟩
theorem kX7_add : CAV yX7_add cX7_add 3 none 2 := ⟨tk4 (i := 52) (by decide +kernel) rfl, tk1 (i := 14) (by decide +kernel) rfl, tk4 (i := 50) (by decide +kernel) rfl, tk4 (i := 51) (by decide +kernel) rfl, by decide +kernel, by decide +kernel, by decide +kernel⟩
theorem kX8_setChop : CAV yX8_setChop cX8_setChop 4 none 3 := ⟨tk4 (i := 56) (by decide +kernel) rfl, tk1 (i := 20) (by decide +kernel) rfl, tk4 (i := 54) (by decide +kernel) rfl, tk4 (i := 55) (by decide +kernel) rfl, by decide +kernel, by decide +kernel, by decide +kernel⟩
theorem kX0_sell : CAV yX0_sell cX0_sell 7 none 3 := ⟨tk4 (i := 60) (by decide +kernel) rfl, tk1 (i := 22) (by decide +kernel) rfl, tk4 (i := 59) (by decide +kernel) rfl, tp2 (i := 4) (n := 3) (by decide +kernel), by decide +kernel, by decide +kernel, by decide +kernel⟩
theorem kX8_moveCoins : CAV yX8_moveCoins cX8_moveCoins 4 none 3 := ⟨tk4 (i := 64) (by decide +kernel) rfl, tk1 (i := 20) (by decide +kernel) rfl, tk4 (i := 62) (by decide +kernel) rfl, tk4 (i := 63) (by decide +kernel) rfl, by decide +kernel, by decide +kernel, by decide +kernel⟩
theorem kX1_grow : CAV yX1_grow cX1_grow 4 none 3 := ⟨tk4 (i := 69) (by decide +kernel) rfl, tk1 (i := 21) (by decide +kernel) rfl, tk4 (i := 67) (by decide +kernel) rfl, tk4 (i := 68) (by decide +kernel) rfl, by decide +kernel, by decide +kernel, by decide +kernel⟩
theorem kX0_payBack : CAV yX0_payBack cX0_payBack 5 none 3 := ⟨tk4 (i := 75) (by decide +kernel) rfl, tk1 (i := 22) (by decide +kernel) rfl, tk4 (i := 74) (by decide +kernel) rfl, tp2 (i := 5) (n := 3) (by decide +kernel), by decide +kernel, by decide +kernel, by decide +kernel⟩
theorem kX1_growAll : CAV yX1_growAll cX1_growAll 3 none 0 := ⟨tk4 (i := 79) (by decide +kernel) rfl, tk1 (i := 21) (by decide +kernel) rfl, tk4 (i := 77) (by decide +kernel) rfl, tk4 (i := 78) (by decide +kernel) rfl, by decide +kernel, by decide +kernel, by decide +kernel⟩
theorem kX11_foresee : CAV yX11_foresee cX11_foresee 4 (some .int) 2 := ⟨tk4 (i := 83) (by decide +kernel) rfl, tk1 (i := 13) (by decide +kernel) rfl, tk4 (i := 81) (by decide +kernel) rfl, tk4 (i := 82) (by decide +kernel) rfl, by decide +kernel, by decide +kernel, by decide +kernel⟩
theorem kX8_copyFrom : CAV yX8_copyFrom cX8_copyFrom 2 none 1 := ⟨tk4 (i := 88) (by decide +kernel) rfl, tk1 (i := 20) (by decide +kernel) rfl, tk4 (i := 86) (by decide +kernel) rfl, tk4 (i := 87) (by decide +kernel) rfl, by decide +kernel, by decide +kernel, by decide +kernel⟩
theorem kX7_copyFrom : CAV yX7_copyFrom cX7_copyFrom 3 none 1 := ⟨tk4 (i := 92) (by decide +kernel) rfl, tk1 (i := 14) (by decide +kernel) rfl, tk4 (i := 90) (by decide +kernel) rfl, tk4 (i := 91) (by decide +kernel) rfl, by decide +kernel, by decide +kernel, by decide +kernel⟩
theorem kX1_copyFrom : CAV yX1_copyFrom cX1_copyFrom 2 none 1 := ⟨tk4 (i := 97) (by decide +kernel) rfl, tk1 (i := 21) (by decide +kernel) rfl, tk4 (i := 95) (by decide +kernel) rfl, tk4 (i := 96) (by decide +kernel) rfl, by decide +kernel, by decide +kernel, by decide +kernel⟩
theorem kX11_costs : CAV yX11_costs cX11_costs 4 (some .int) 2 := ⟨tk4 (i := 102) (by decide +kernel) rfl, tk1 (i := 13) (by decide +kernel) rfl, tk4 (i := 100) (by decide +kernel) rfl, tk4 (i := 101) (by decide +kernel) rfl, by decide +kernel, by decide +kernel, by decide +kernel⟩
theorem kX11_richest : CAV yX11_richest cX11_richest 4 (some .int) 1 := ⟨tk4 (i := 109) (by decide +kernel) rfl, tk1 (i := 13) (by decide +kernel) rfl, tk4 (i := 107) (by decide +kernel) rfl, tk4 (i := 108) (by decide +kernel) rfl, by decide +kernel, by decide +kernel, by decide +kernel⟩
theorem kX8_wealthOf : CAV yX8_wealthOf cX8_wealthOf 2 (some .int) 1 := ⟨tk4 (i := 114) (by decide +kernel) rfl, tk1 (i := 20) (by decide +kernel) rfl, tk4 (i := 112) (by decide +kernel) rfl, tk4 (i := 113) (by decide +kernel) rfl, by decide +kernel, by decide +kernel, by decide +kernel⟩
theorem kX11_until : CAV yX11_until cX11_until 3 (some .int) 1 := ⟨tk4 (i := 118) (by decide +kernel) rfl, tk1 (i := 13) (by decide +kernel) rfl, tk4 (i := 116) (by decide +kernel) rfl, tk4 (i := 117) (by decide +kernel) rfl, by decide +kernel, by decide +kernel, by decide +kernel⟩
theorem kX8_isOverCredit : CAV yX8_isOverCredit cX8_isOverCredit 2 (some .boolean) 1 := ⟨tk4 (i := 122) (by decide +kernel) rfl, tk1 (i := 20) (by decide +kernel) rfl, tk4 (i := 120) (by decide +kernel) rfl, tk4 (i := 121) (by decide +kernel) rfl, by decide +kernel, by decide +kernel, by decide +kernel⟩
theorem kX11_digest : CAV yX11_digest cX11_digest 4 (some .long) 0 := ⟨tk4 (i := 126) (by decide +kernel) rfl, tk1 (i := 13) (by decide +kernel) rfl, tk4 (i := 124) (by decide +kernel) rfl, tk4 (i := 125) (by decide +kernel) rfl, by decide +kernel, by decide +kernel, by decide +kernel⟩
theorem kX11_digestOfLots : CAV yX11_digestOfLots cX11_digestOfLots 7 (some .long) 1 := ⟨tk4 (i := 132) (by decide +kernel) rfl, tk1 (i := 13) (by decide +kernel) rfl, tk4 (i := 131) (by decide +kernel) rfl, tp2 (i := 6) (n := 10) (by decide +kernel), by decide +kernel, by decide +kernel, by decide +kernel⟩
theorem kX11_digestOfMerchants : CAV yX11_digestOfMerchants cX11_digestOfMerchants 7 (some .long) 1 := ⟨tk4 (i := 136) (by decide +kernel) rfl, tk1 (i := 13) (by decide +kernel) rfl, tk4 (i := 135) (by decide +kernel) rfl, tp2 (i := 7) (n := 10) (by decide +kernel), by decide +kernel, by decide +kernel, by decide +kernel⟩
theorem kX11_digestOfGuilds : CAV yX11_digestOfGuilds cX11_digestOfGuilds 7 (some .long) 1 := ⟨tk4 (i := 140) (by decide +kernel) rfl, tk1 (i := 13) (by decide +kernel) rfl, tk4 (i := 139) (by decide +kernel) rfl, tp2 (i := 8) (n := 10) (by decide +kernel), by decide +kernel, by decide +kernel, by decide +kernel⟩
theorem kX11_digestOfOrders : CAV yX11_digestOfOrders cX11_digestOfOrders 7 (some .long) 1 := ⟨tk4 (i := 144) (by decide +kernel) rfl, tk1 (i := 13) (by decide +kernel) rfl, tk4 (i := 143) (by decide +kernel) rfl, tp2 (i := 9) (n := 10) (by decide +kernel), by decide +kernel, by decide +kernel, by decide +kernel⟩
theorem kX12_pass : CAV yX12_pass cX12_pass 7 (some .int) 0 := ⟨tk4 (i := 148) (by decide +kernel) rfl, tk1 (i := 5) (by decide +kernel) rfl, tk4 (i := 146) (by decide +kernel) rfl, tk4 (i := 147) (by decide +kernel) rfl, by decide +kernel, by decide +kernel, by decide +kernel⟩
theorem kX12_lose : CAV yX12_lose cX12_lose 5 none 0 := ⟨tk4 (i := 153) (by decide +kernel) rfl, tk1 (i := 5) (by decide +kernel) rfl, tk4 (i := 151) (by decide +kernel) rfl, tp2 (i := 10) (n := 9) (by decide +kernel), by decide +kernel, by decide +kernel, by decide +kernel⟩
theorem kX12_carry : CAV yX12_carry cX12_carry 7 (some .boolean) 1 := ⟨tk4 (i := 157) (by decide +kernel) rfl, tk1 (i := 5) (by decide +kernel) rfl, tk4 (i := 156) (by decide +kernel) rfl, tp2 (i := 11) (n := 9) (by decide +kernel), by decide +kernel, by decide +kernel, by decide +kernel⟩
theorem kX12_does : CAV yX12_does cX12_does 6 (some .int) 1 := ⟨tk4 (i := 161) (by decide +kernel) rfl, tk1 (i := 5) (by decide +kernel) rfl, tk4 (i := 159) (by decide +kernel) rfl, tk4 (i := 160) (by decide +kernel) rfl, by decide +kernel, by decide +kernel, by decide +kernel⟩
theorem kX12_holds : CAV yX12_holds cX12_holds 6 (some .boolean) 1 := ⟨tk4 (i := 165) (by decide +kernel) rfl, tk1 (i := 5) (by decide +kernel) rfl, tk4 (i := 163) (by decide +kernel) rfl, tk4 (i := 164) (by decide +kernel) rfl, by decide +kernel, by decide +kernel, by decide +kernel⟩
theorem kX12_age : CAV yX12_age cX12_age 2 (some .int) 1 := ⟨tk4 (i := 169) (by decide +kernel) rfl, tk1 (i := 5) (by decide +kernel) rfl, tk4 (i := 167) (by decide +kernel) rfl, tk4 (i := 168) (by decide +kernel) rfl, by decide +kernel, by decide +kernel, by decide +kernel⟩
theorem kX12_debts : CAV yX12_debts cX12_debts 7 (some .int) 1 := ⟨tk4 (i := 173) (by decide +kernel) rfl, tk1 (i := 5) (by decide +kernel) rfl, tk4 (i := 171) (by decide +kernel) rfl, tk4 (i := 172) (by decide +kernel) rfl, by decide +kernel, by decide +kernel, by decide +kernel⟩
theorem kX12_sum : CAV yX12_sum cX12_sum 6 (some .int) 1 := ⟨tk4 (i := 177) (by decide +kernel) rfl, tk1 (i := 5) (by decide +kernel) rfl, tk4 (i := 175) (by decide +kernel) rfl, tk4 (i := 176) (by decide +kernel) rfl, by decide +kernel, by decide +kernel, by decide +kernel⟩
theorem kX12_isSame : CAV yX12_isSame cX12_isSame 10 (some .boolean) 1 := ⟨tk4 (i := 185) rfl rfl, tk1 (i := 5) (by decide +kernel) rfl, tk4 (i := 183) (by decide +kernel) rfl, tk4 (i := 184) (by decide +kernel) rfl, by decide +kernel, by decide +kernel, by decide +kernel⟩
theorem kX12_owed : CAV yX12_owed cX12_owed 7 (some .int) 1 := ⟨tk4 (i := 190) (by decide +kernel) rfl, tk1 (i := 5) (by decide +kernel) rfl, tk4 (i := 188) (by decide +kernel) rfl, tk4 (i := 189) (by decide +kernel) rfl, by decide +kernel, by decide +kernel, by decide +kernel⟩
theorem kX12_chain : CAV yX12_chain cX12_chain 8 (some .int) 2 := ⟨tk4 (i := 197) (by decide +kernel) rfl, tk1 (i := 5) (by decide +kernel) rfl, tk4 (i := 195) (by decide +kernel) rfl, tk4 (i := 196) (by decide +kernel) rfl, by decide +kernel, by decide +kernel, by decide +kernel⟩
theorem kX12_ring : CAV yX12_ring cX12_ring 3 (some .int) 1 := ⟨tk4 (i := 209) (by decide +kernel) rfl, tk1 (i := 5) (by decide +kernel) rfl, tk4 (i := 207) (by decide +kernel) rfl, tk4 (i := 208) (by decide +kernel) rfl, by decide +kernel, by decide +kernel, by decide +kernel⟩
theorem kX12_back : CAV yX12_back cX12_back 8 (some .int) 4 := ⟨tk4 (i := 214) (by decide +kernel) rfl, tk1 (i := 5) (by decide +kernel) rfl, tk4 (i := 213) (by decide +kernel) rfl, tp2 (i := 12) (n := 9) (by decide +kernel), by decide +kernel, by decide +kernel, by decide +kernel⟩
theorem kX12_counts : CAV yX12_counts cX12_counts 3 (some (FieldType.array FieldType.int)) 0 := ⟨tk4 (i := 220) (by decide +kernel) rfl, tk1 (i := 5) (by decide +kernel) rfl, tk4 (i := 218) (by decide +kernel) rfl, tk4 (i := 219) (by decide +kernel) rfl, by decide +kernel, by decide +kernel, by decide +kernel⟩
theorem kX12_weight : CAV yX12_weight cX12_weight 6 (some .int) 0 := ⟨tk4 (i := 224) (by decide +kernel) rfl, tk1 (i := 5) (by decide +kernel) rfl, tk4 (i := 222) (by decide +kernel) rfl, tk4 (i := 223) (by decide +kernel) rfl, by decide +kernel, by decide +kernel, by decide +kernel⟩
theorem kX11_mean : CAV yX11_mean cX11_mean 1 (some .double) 0 := ⟨tk4 (i := 229) (by decide +kernel) rfl, tk1 (i := 13) (by decide +kernel) rfl, tk4 (i := 227) (by decide +kernel) rfl, tk4 (i := 228) (by decide +kernel) rfl, by decide +kernel, by decide +kernel, by decide +kernel⟩
theorem kL_below : CAS yL_below cL_below 2 (some .int) 2 := ⟨tk4 (i := 233) (by decide +kernel) rfl, tk1 (i := 0) (by decide +kernel) rfl, tk4 (i := 232) (by decide +kernel) rfl, by decide +kernel, by decide +kernel, by decide +kernel⟩
theorem kL_cell : CAS yL_cell cL_cell 2 (some .int) 2 := ⟨tk4 (i := 237) (by decide +kernel) rfl, tk1 (i := 0) (by decide +kernel) rfl, tk4 (i := 236) (by decide +kernel) rfl, by decide +kernel, by decide +kernel, by decide +kernel⟩
theorem kL_taught : CAS yL_taught cL_taught 5 (some .int) 2 := ⟨tk5 (i := 1) (by decide +kernel) rfl, tk1 (i := 0) (by decide +kernel) rfl, tk5 (i := 0) (by decide +kernel) rfl, by decide +kernel, by decide +kernel, by decide +kernel⟩
theorem kX11_trim : CAV yX11_trim cX11_trim 2 (some .int) 1 := ⟨tk5 (i := 5) (by decide +kernel) rfl, tk1 (i := 13) (by decide +kernel) rfl, tk5 (i := 3) (by decide +kernel) rfl, tk5 (i := 4) (by decide +kernel) rfl, by decide +kernel, by decide +kernel, by decide +kernel⟩
theorem kJ0_length_8abf5 : CAV yJ0_length_8abf5 cJ0_length_8abf5 1 (some .int) 0 := ⟨tk5 (i := 10) (by decide +kernel) rfl, tk1 (i := 3) (by decide +kernel) rfl, tk5 (i := 8) (by decide +kernel) rfl, tk5 (i := 9) (by decide +kernel) rfl, by decide +kernel, by decide +kernel, by decide +kernel⟩
theorem kJ0_coder_7d493 : CAV yJ0_coder_7d493 cJ0_coder_7d493 1 (some .byte) 0 := ⟨tk5 (i := 14) (by decide +kernel) rfl, tk1 (i := 3) (by decide +kernel) rfl, tk5 (i := 12) (by decide +kernel) rfl, tk5 (i := 13) (by decide +kernel) rfl, by decide +kernel, by decide +kernel, by decide +kernel⟩
theorem kJ0_charAt_5068e : CAV yJ0_charAt_5068e cJ0_charAt_5068e 2 (some .char) 1 := ⟨tk5 (i := 20) (by decide +kernel) rfl, tk1 (i := 3) (by decide +kernel) rfl, tk5 (i := 18) (by decide +kernel) rfl, tk5 (i := 19) (by decide +kernel) rfl, by decide +kernel, by decide +kernel, by decide +kernel⟩
theorem kJ0_isLatin1_aae02 : CAV yJ0_isLatin1_aae02 cJ0_isLatin1_aae02 1 (some .boolean) 0 := ⟨tk5 (i := 24) (by decide +kernel) rfl, tk1 (i := 3) (by decide +kernel) rfl, tk5 (i := 22) (by decide +kernel) rfl, tk5 (i := 23) (by decide +kernel) rfl, by decide +kernel, by decide +kernel, by decide +kernel⟩
theorem kJ0_checkIndex_df160 : CAS yJ0_checkIndex_df160 cJ0_checkIndex_df160 2 none 2 := ⟨tk5 (i := 30) (by decide +kernel) rfl, tk1 (i := 3) (by decide +kernel) rfl, tk5 (i := 29) (by decide +kernel) rfl, by decide +kernel, by decide +kernel, by decide +kernel⟩
theorem kX11_feed : CAV yX11_feed cX11_feed 6 (some .int) 5 := ⟨tk5 (i := 58) (by decide +kernel) rfl, tk1 (i := 13) (by decide +kernel) rfl, tk5 (i := 56) (by decide +kernel) rfl, tk5 (i := 57) (by decide +kernel) rfl, by decide +kernel, by decide +kernel, by decide +kernel⟩
theorem kX11_append : CAV yX11_append cX11_append 3 none 1 := ⟨tk5 (i := 78) (by decide +kernel) rfl, tk1 (i := 13) (by decide +kernel) rfl, tk5 (i := 77) (by decide +kernel) rfl, tp2 (i := 13) (n := 10) (by decide +kernel), by decide +kernel, by decide +kernel, by decide +kernel⟩
theorem kX11_teach : CAV yX11_teach cX11_teach 2 (some .int) 0 := ⟨tk5 (i := 83) (by decide +kernel) rfl, tk1 (i := 13) (by decide +kernel) rfl, tk5 (i := 81) (by decide +kernel) rfl, tk5 (i := 82) (by decide +kernel) rfl, by decide +kernel, by decide +kernel, by decide +kernel⟩
theorem kX10_scan : CAV yX10_scan cX10_scan 4 none 1 := ⟨tk5 (i := 87) (by decide +kernel) rfl, tk1 (i := 15) (by decide +kernel) rfl, tk5 (i := 85) (by decide +kernel) rfl, tk5 (i := 86) (by decide +kernel) rfl, by decide +kernel, by decide +kernel, by decide +kernel⟩
theorem kX10_behindBlanks : CAV yX10_behindBlanks cX10_behindBlanks 3 (some .int) 1 := ⟨tk5 (i := 91) (by decide +kernel) rfl, tk1 (i := 15) (by decide +kernel) rfl, tk5 (i := 90) (by decide +kernel) rfl, tp2 (i := 14) (n := 7) (by decide +kernel), by decide +kernel, by decide +kernel, by decide +kernel⟩
theorem kX10_reads : CAV yX10_reads cX10_reads 3 (some .boolean) 1 := ⟨tk5 (i := 96) (by decide +kernel) rfl, tk1 (i := 15) (by decide +kernel) rfl, tk5 (i := 95) (by decide +kernel) rfl, tp2 (i := 15) (n := 7) (by decide +kernel), by decide +kernel, by decide +kernel, by decide +kernel⟩
theorem kX10_isLetter : CAS yX10_isLetter cX10_isLetter 1 (some .boolean) 1 := ⟨tk5 (i := 99) (by decide +kernel) rfl, tk1 (i := 15) (by decide +kernel) rfl, tk5 (i := 98) (by decide +kernel) rfl, by decide +kernel, by decide +kernel, by decide +kernel⟩
theorem kX10_readsWord : CAV yX10_readsWord cX10_readsWord 4 (some .boolean) 1 := ⟨tk5 (i := 103) (by decide +kernel) rfl, tk1 (i := 15) (by decide +kernel) rfl, tk5 (i := 102) (by decide +kernel) rfl, tp3 (i := 0) (n := 7) (by decide +kernel), by decide +kernel, by decide +kernel, by decide +kernel⟩
theorem kX10_isDigit : CAS yX10_isDigit cX10_isDigit 1 (some .boolean) 1 := ⟨tk5 (i := 106) (by decide +kernel) rfl, tk1 (i := 15) (by decide +kernel) rfl, tk5 (i := 105) (by decide +kernel) rfl, by decide +kernel, by decide +kernel, by decide +kernel⟩
theorem kX10_keyword : CAV yX10_keyword cX10_keyword 6 (some .int) 2 := ⟨tk5 (i := 110) (by decide +kernel) rfl, tk1 (i := 15) (by decide +kernel) rfl, tk5 (i := 109) (by decide +kernel) rfl, tp3 (i := 1) (n := 7) (by decide +kernel), by decide +kernel, by decide +kernel, by decide +kernel⟩
theorem kX10_spells : CAV yX10_spells cX10_spells 5 (some .boolean) 3 := ⟨tk5 (i := 117) (by decide +kernel) rfl, tk1 (i := 15) (by decide +kernel) rfl, tk5 (i := 116) (by decide +kernel) rfl, tp3 (i := 2) (n := 7) (by decide +kernel), by decide +kernel, by decide +kernel, by decide +kernel⟩
theorem kX10_firstWithName : CAV yX10_firstWithName cX10_firstWithName 4 (some .int) 2 := ⟨tk5 (i := 121) (by decide +kernel) rfl, tk1 (i := 15) (by decide +kernel) rfl, tk5 (i := 120) (by decide +kernel) rfl, tp3 (i := 3) (n := 7) (by decide +kernel), by decide +kernel, by decide +kernel, by decide +kernel⟩
theorem kX10_isSame : CAV yX10_isSame cX10_isSame 5 (some .boolean) 3 := ⟨tk5 (i := 125) rfl rfl, tk1 (i := 15) (by decide +kernel) rfl, tk5 (i := 124) (by decide +kernel) rfl, tp3 (i := 4) (n := 7) (by decide +kernel), by decide +kernel, by decide +kernel, by decide +kernel⟩
theorem kX10_add : CAV yX10_add cX10_add 5 none 4 := ⟨tk5 (i := 129) (by decide +kernel) rfl, tk1 (i := 15) (by decide +kernel) rfl, tk5 (i := 128) (by decide +kernel) rfl, tp3 (i := 5) (n := 7) (by decide +kernel), by decide +kernel, by decide +kernel, by decide +kernel⟩
theorem kX10_readsNumber : CAV yX10_readsNumber cX10_readsNumber 4 (some .boolean) 1 := ⟨tk5 (i := 134) (by decide +kernel) rfl, tk1 (i := 15) (by decide +kernel) rfl, tk5 (i := 133) (by decide +kernel) rfl, tp3 (i := 6) (n := 7) (by decide +kernel), by decide +kernel, by decide +kernel, by decide +kernel⟩
theorem kX10_readsSign : CAV yX10_readsSign cX10_readsSign 5 (some .boolean) 2 := ⟨tk5 (i := 138) (by decide +kernel) rfl, tk1 (i := 15) (by decide +kernel) rfl, tk5 (i := 137) (by decide +kernel) rfl, tp3 (i := 7) (n := 7) (by decide +kernel), by decide +kernel, by decide +kernel, by decide +kernel⟩
theorem kJ0_indexOf_0f7a4 : CAV yJ0_indexOf_0f7a4 cJ0_indexOf_0f7a4 2 (some .int) 1 := ⟨tk5 (i := 143) (by decide +kernel) rfl, tk1 (i := 3) (by decide +kernel) rfl, tk5 (i := 141) (by decide +kernel) rfl, tk5 (i := 142) (by decide +kernel) rfl, by decide +kernel, by decide +kernel, by decide +kernel⟩
theorem kJ0_indexOf_7cf53 : CAV yJ0_indexOf_7cf53 cJ0_indexOf_7cf53 3 (some .int) 2 := ⟨tk5 (i := 147) (by decide +kernel) rfl, tk1 (i := 3) (by decide +kernel) rfl, tk5 (i := 145) (by decide +kernel) rfl, tk5 (i := 146) (by decide +kernel) rfl, by decide +kernel, by decide +kernel, by decide +kernel⟩
theorem kJ0_checkBoundsBeginEnd_23922 : CAS yJ0_checkBoundsBeginEnd_23922 cJ0_checkBoundsBeginEnd_23922 3 none 3 := ⟨tk5 (i := 174) (by decide +kernel) rfl, tk1 (i := 3) (by decide +kernel) rfl, tk5 (i := 173) (by decide +kernel) rfl, by decide +kernel, by decide +kernel, by decide +kernel⟩
theorem kX5_read : CAV yX5_read cX5_read 2 (some .int) 0 := ⟨tk5 (i := 198) (by decide +kernel) rfl, tk1 (i := 16) (by decide +kernel) rfl, tk5 (i := 196) (by decide +kernel) rfl, tk5 (i := 197) (by decide +kernel) rfl, by decide +kernel, by decide +kernel, by decide +kernel⟩
theorem kX5_begin : CAV yX5_begin cX5_begin 1 none 0 := ⟨tk5 (i := 202) (by decide +kernel) rfl, tk1 (i := 16) (by decide +kernel) rfl, tk5 (i := 201) (by decide +kernel) rfl, tp3 (i := 8) (n := 9) (by decide +kernel), by decide +kernel, by decide +kernel, by decide +kernel⟩
theorem kX3_forget : CAV yX3_forget cX3_forget 1 none 0 := ⟨tk5 (i := 206) (by decide +kernel) rfl, tk1 (i := 19) (by decide +kernel) rfl, tk5 (i := 204) (by decide +kernel) rfl, tk5 (i := 205) (by decide +kernel) rfl, by decide +kernel, by decide +kernel, by decide +kernel⟩
theorem kX5_seen : CAV yX5_seen cX5_seen 1 (some .int) 0 := ⟨tk5 (i := 210) (by decide +kernel) rfl, tk1 (i := 16) (by decide +kernel) rfl, tk5 (i := 209) (by decide +kernel) rfl, tp3 (i := 9) (n := 9) (by decide +kernel), by decide +kernel, by decide +kernel, by decide +kernel⟩
theorem kX5_spiceLine : CAV yX5_spiceLine cX5_spiceLine 2 none 0 := ⟨tk5 (i := 215) (by decide +kernel) rfl, tk1 (i := 16) (by decide +kernel) rfl, tk5 (i := 214) (by decide +kernel) rfl, tp3 (i := 10) (n := 9) (by decide +kernel), by decide +kernel, by decide +kernel, by decide +kernel⟩
theorem kX5_take : CAV yX5_take cX5_take 2 none 1 := ⟨tk5 (i := 219) (by decide +kernel) rfl, tk1 (i := 16) (by decide +kernel) rfl, tk5 (i := 218) (by decide +kernel) rfl, tp3 (i := 11) (n := 9) (by decide +kernel), by decide +kernel, by decide +kernel, by decide +kernel⟩
theorem kX5_fail : CAV yX5_fail cX5_fail 1 none 0 := ⟨tk5 (i := 223) (by decide +kernel) rfl, tk1 (i := 16) (by decide +kernel) rfl, tk5 (i := 222) (by decide +kernel) rfl, tp3 (i := 12) (n := 9) (by decide +kernel), by decide +kernel, by decide +kernel, by decide +kernel⟩
theorem kX5_takeNewName : CAV yX5_takeNewName cX5_takeNewName 4 (some .int) 1 := ⟨tk5 (i := 227) (by decide +kernel) rfl, tk1 (i := 16) (by decide +kernel) rfl, tk5 (i := 226) (by decide +kernel) rfl, tp3 (i := 13) (n := 9) (by decide +kernel), by decide +kernel, by decide +kernel, by decide +kernel⟩
theorem kX3_find : CAV yX3_find cX3_find 3 (some .int) 1 := ⟨tk5 (i := 231) (by decide +kernel) rfl, tk1 (i := 19) (by decide +kernel) rfl, tk5 (i := 229) (by decide +kernel) rfl, tk5 (i := 230) (by decide +kernel) rfl, by decide +kernel, by decide +kernel, by decide +kernel⟩
theorem kX5_blame : CAV yX5_blame cX5_blame 3 none 2 := ⟨tk5 (i := 236) (by decide +kernel) rfl, tk1 (i := 16) (by decide +kernel) rfl, tk5 (i := 235) (by decide +kernel) rfl, tp3 (i := 14) (n := 9) (by decide +kernel), by decide +kernel, by decide +kernel, by decide +kernel⟩
theorem kX3_isFull : CAV yX3_isFull cX3_isFull 1 (some .boolean) 0 := ⟨tk6 (i := 0) (by decide +kernel) rfl, tk1 (i := 19) (by decide +kernel) rfl, tk5 (i := 238) (by decide +kernel) rfl, tk5 (i := 239) (by decide +kernel) rfl, by decide +kernel, by decide +kernel, by decide +kernel⟩
theorem kX3_add : CAV yX3_add cX3_add 2 (some .int) 1 := ⟨tk6 (i := 4) (by decide +kernel) rfl, tk1 (i := 19) (by decide +kernel) rfl, tk6 (i := 2) (by decide +kernel) rfl, tk6 (i := 3) (by decide +kernel) rfl, by decide +kernel, by decide +kernel, by decide +kernel⟩
theorem kX5_takeNumber : CAV yX5_takeNumber cX5_takeNumber 5 (some .int) 2 := ⟨tk6 (i := 9) (by decide +kernel) rfl, tk1 (i := 16) (by decide +kernel) rfl, tk6 (i := 8) (by decide +kernel) rfl, tp3 (i := 15) (n := 9) (by decide +kernel), by decide +kernel, by decide +kernel, by decide +kernel⟩
theorem kX5_guildLine : CAV yX5_guildLine cX5_guildLine 2 none 0 := ⟨tk6 (i := 14) (by decide +kernel) rfl, tk1 (i := 16) (by decide +kernel) rfl, tk6 (i := 13) (by decide +kernel) rfl, tp4 (i := 0) (n := 9) (by decide +kernel), by decide +kernel, by decide +kernel, by decide +kernel⟩
theorem kX5_merchantLine : CAV yX5_merchantLine cX5_merchantLine 2 none 0 := ⟨tk6 (i := 18) (by decide +kernel) rfl, tk1 (i := 16) (by decide +kernel) rfl, tk6 (i := 17) (by decide +kernel) rfl, tp4 (i := 1) (n := 9) (by decide +kernel), by decide +kernel, by decide +kernel, by decide +kernel⟩
theorem kX5_lotLine : CAV yX5_lotLine cX5_lotLine 2 none 0 := ⟨tk6 (i := 22) (by decide +kernel) rfl, tk1 (i := 16) (by decide +kernel) rfl, tk6 (i := 21) (by decide +kernel) rfl, tp4 (i := 2) (n := 9) (by decide +kernel), by decide +kernel, by decide +kernel, by decide +kernel⟩
theorem kX5_takeName : CAV yX5_takeName cX5_takeName 4 (some .int) 1 := ⟨tk6 (i := 26) (by decide +kernel) rfl, tk1 (i := 16) (by decide +kernel) rfl, tk6 (i := 25) (by decide +kernel) rfl, tp4 (i := 3) (n := 9) (by decide +kernel), by decide +kernel, by decide +kernel, by decide +kernel⟩
theorem kX5_orderLine : CAV yX5_orderLine cX5_orderLine 3 none 1 := ⟨tk6 (i := 30) (by decide +kernel) rfl, tk1 (i := 16) (by decide +kernel) rfl, tk6 (i := 29) (by decide +kernel) rfl, tp4 (i := 4) (n := 9) (by decide +kernel), by decide +kernel, by decide +kernel, by decide +kernel⟩
theorem kX5_sum : CAV yX5_sum cX5_sum 4 none 1 := ⟨tk6 (i := 34) (by decide +kernel) rfl, tk1 (i := 16) (by decide +kernel) rfl, tk6 (i := 33) (by decide +kernel) rfl, tp4 (i := 5) (n := 9) (by decide +kernel), by decide +kernel, by decide +kernel, by decide +kernel⟩
theorem kX5_product : CAV yX5_product cX5_product 4 none 1 := ⟨tk6 (i := 38) (by decide +kernel) rfl, tk1 (i := 16) (by decide +kernel) rfl, tk6 (i := 37) (by decide +kernel) rfl, tp4 (i := 6) (n := 9) (by decide +kernel), by decide +kernel, by decide +kernel, by decide +kernel⟩
theorem kX5_value : CAV yX5_value cX5_value 4 none 1 := ⟨tk6 (i := 42) (by decide +kernel) rfl, tk1 (i := 16) (by decide +kernel) rfl, tk6 (i := 41) (by decide +kernel) rfl, tp4 (i := 7) (n := 9) (by decide +kernel), by decide +kernel, by decide +kernel, by decide +kernel⟩
theorem kX9_add : CAV yX9_add cX9_add 4 none 3 := ⟨tk6 (i := 47) (by decide +kernel) rfl, tk1 (i := 18) (by decide +kernel) rfl, tk6 (i := 45) (by decide +kernel) rfl, tk6 (i := 46) (by decide +kernel) rfl, by decide +kernel, by decide +kernel, by decide +kernel⟩
theorem kX5_turnedValue : CAV yX5_turnedValue cX5_turnedValue 2 none 1 := ⟨tk6 (i := 52) (by decide +kernel) rfl, tk1 (i := 16) (by decide +kernel) rfl, tk6 (i := 51) (by decide +kernel) rfl, tp4 (i := 8) (n := 9) (by decide +kernel), by decide +kernel, by decide +kernel, by decide +kernel⟩
theorem kX5_goesDeeper : CAV yX5_goesDeeper cX5_goesDeeper 3 (some .boolean) 2 := ⟨tk6 (i := 56) (by decide +kernel) rfl, tk1 (i := 16) (by decide +kernel) rfl, tk6 (i := 55) (by decide +kernel) rfl, tp4 (i := 9) (n := 9) (by decide +kernel), by decide +kernel, by decide +kernel, by decide +kernel⟩
theorem kX5_sumInBrackets : CAV yX5_sumInBrackets cX5_sumInBrackets 2 none 1 := ⟨tk6 (i := 60) (by decide +kernel) rfl, tk1 (i := 16) (by decide +kernel) rfl, tk6 (i := 59) (by decide +kernel) rfl, tp4 (i := 10) (n := 9) (by decide +kernel), by decide +kernel, by decide +kernel, by decide +kernel⟩
theorem kX5_oneOfTwoSums : CAV yX5_oneOfTwoSums cX5_oneOfTwoSums 3 none 2 := ⟨tk6 (i := 64) (by decide +kernel) rfl, tk1 (i := 16) (by decide +kernel) rfl, tk6 (i := 63) (by decide +kernel) rfl, tp4 (i := 11) (n := 9) (by decide +kernel), by decide +kernel, by decide +kernel, by decide +kernel⟩
theorem kX5_test : CAV yX5_test cX5_test 3 none 1 := ⟨tk6 (i := 68) (by decide +kernel) rfl, tk1 (i := 16) (by decide +kernel) rfl, tk6 (i := 67) (by decide +kernel) rfl, tp4 (i := 12) (n := 9) (by decide +kernel), by decide +kernel, by decide +kernel, by decide +kernel⟩
theorem kX5_both : CAV yX5_both cX5_both 3 none 1 := ⟨tk6 (i := 72) (by decide +kernel) rfl, tk1 (i := 16) (by decide +kernel) rfl, tk6 (i := 71) (by decide +kernel) rfl, tp4 (i := 13) (n := 9) (by decide +kernel), by decide +kernel, by decide +kernel, by decide +kernel⟩
theorem kX5_single : CAV yX5_single cX5_single 4 none 1 := ⟨tk6 (i := 76) (by decide +kernel) rfl, tk1 (i := 16) (by decide +kernel) rfl, tk6 (i := 75) (by decide +kernel) rfl, tp4 (i := 14) (n := 9) (by decide +kernel), by decide +kernel, by decide +kernel, by decide +kernel⟩
theorem kX5_turnedTest : CAV yX5_turnedTest cX5_turnedTest 2 none 1 := ⟨tk6 (i := 80) (by decide +kernel) rfl, tk1 (i := 16) (by decide +kernel) rfl, tk6 (i := 79) (by decide +kernel) rfl, tp4 (i := 15) (n := 9) (by decide +kernel), by decide +kernel, by decide +kernel, by decide +kernel⟩
theorem kX5_testInBrackets : CAV yX5_testInBrackets cX5_testInBrackets 2 none 1 := ⟨tk6 (i := 84) (by decide +kernel) rfl, tk1 (i := 16) (by decide +kernel) rfl, tk6 (i := 83) (by decide +kernel) rfl, tp5 (i := 0) (n := 9) (by decide +kernel), by decide +kernel, by decide +kernel, by decide +kernel⟩
theorem kX5_takeComparison : CAV yX5_takeComparison cX5_takeComparison 2 (some .int) 0 := ⟨tk6 (i := 88) (by decide +kernel) rfl, tk1 (i := 16) (by decide +kernel) rfl, tk6 (i := 87) (by decide +kernel) rfl, tp5 (i := 1) (n := 9) (by decide +kernel), by decide +kernel, by decide +kernel, by decide +kernel⟩
theorem kX3_told : CAV yX3_told cX3_told 1 (some .int) 0 := ⟨tk6 (i := 93) (by decide +kernel) rfl, tk1 (i := 19) (by decide +kernel) rfl, tk6 (i := 91) (by decide +kernel) rfl, tk6 (i := 92) (by decide +kernel) rfl, by decide +kernel, by decide +kernel, by decide +kernel⟩
theorem kX5_faultPlace : CAV yX5_faultPlace cX5_faultPlace 1 (some .int) 0 := ⟨tk6 (i := 97) (by decide +kernel) rfl, tk1 (i := 16) (by decide +kernel) rfl, tk6 (i := 95) (by decide +kernel) rfl, tk6 (i := 96) (by decide +kernel) rfl, by decide +kernel, by decide +kernel, by decide +kernel⟩
theorem kX4_copyFrom : CAV yX4_copyFrom cX4_copyFrom 2 none 1 := ⟨tk6 (i := 101) (by decide +kernel) rfl, tk1 (i := 17) (by decide +kernel) rfl, tk6 (i := 99) (by decide +kernel) rfl, tk6 (i := 100) (by decide +kernel) rfl, by decide +kernel, by decide +kernel, by decide +kernel⟩
theorem kX9_copyFrom : CAV yX9_copyFrom cX9_copyFrom 2 none 1 := ⟨tk6 (i := 106) (by decide +kernel) rfl, tk1 (i := 18) (by decide +kernel) rfl, tk6 (i := 104) (by decide +kernel) rfl, tk6 (i := 105) (by decide +kernel) rfl, by decide +kernel, by decide +kernel, by decide +kernel⟩
theorem kX8_begin : CAV yX8_begin cX8_begin 2 none 0 := ⟨tk6 (i := 111) (by decide +kernel) rfl, tk1 (i := 20) (by decide +kernel) rfl, tk6 (i := 109) (by decide +kernel) rfl, tk6 (i := 110) (by decide +kernel) rfl, by decide +kernel, by decide +kernel, by decide +kernel⟩
theorem kX8_takeChop : CAV yX8_takeChop cX8_takeChop 2 none 1 := ⟨tk6 (i := 116) (by decide +kernel) rfl, tk1 (i := 20) (by decide +kernel) rfl, tk6 (i := 114) (by decide +kernel) rfl, tk6 (i := 115) (by decide +kernel) rfl, by decide +kernel, by decide +kernel, by decide +kernel⟩
theorem kX1_forget : CAV yX1_forget cX1_forget 1 none 0 := ⟨tk6 (i := 120) (by decide +kernel) rfl, tk1 (i := 21) (by decide +kernel) rfl, tk6 (i := 118) (by decide +kernel) rfl, tk6 (i := 119) (by decide +kernel) rfl, by decide +kernel, by decide +kernel, by decide +kernel⟩
theorem kL_list : CAS yL_list cL_list 11 (some (FieldType.object "SpiceQuayLaw$Sim")) 2 := ⟨tk6 (i := 123) rfl rfl, tk1 (i := 0) (by decide +kernel) rfl, tk6 (i := 122) (by decide +kernel) rfl, by decide +kernel, by decide +kernel, by decide +kernel⟩
theorem kX12_init : CAI yX12_init cX12_init 1 none 0 := ⟨tk6 (i := 127) (by decide +kernel) rfl, tk1 (i := 5) (by decide +kernel) rfl, tk6 (i := 126) (by decide +kernel) rfl, rfl, by decide +kernel, by decide +kernel, by decide +kernel⟩
theorem kJ4_append_15ec4 : CAV yJ4_append_15ec4 cJ4_append_15ec4 2 (some (FieldType.object "java/lang/StringBuilder")) 1 := ⟨tk6 (i := 170) (by decide +kernel) rfl, tk1 (i := 2) (by decide +kernel) rfl, tk6 (i := 168) (by decide +kernel) rfl, tk6 (i := 169) (by decide +kernel) rfl, by decide +kernel, by decide +kernel, by decide +kernel⟩
theorem kJ0_checkBoundsOffCount_cabcc : CAS yJ0_checkBoundsOffCount_cabcc cJ0_checkBoundsOffCount_cabcc 3 (some .int) 3 := ⟨tk7 (i := 12) (by decide +kernel) rfl, tk1 (i := 3) (by decide +kernel) rfl, tk7 (i := 11) (by decide +kernel) rfl, by decide +kernel, by decide +kernel, by decide +kernel⟩
theorem kJ0_getBytes_840e7 : CAV yJ0_getBytes_840e7 cJ0_getBytes_840e7 4 none 3 := ⟨tk7 (i := 19) (by decide +kernel) rfl, tk1 (i := 3) (by decide +kernel) rfl, tk7 (i := 17) (by decide +kernel) rfl, tk7 (i := 18) (by decide +kernel) rfl, by decide +kernel, by decide +kernel, by decide +kernel⟩
theorem kJ4_append_bf812 : CAV yJ4_append_bf812 cJ4_append_bf812 2 (some (FieldType.object "java/lang/StringBuilder")) 1 := ⟨tk7 (i := 25) (by decide +kernel) rfl, tk1 (i := 2) (by decide +kernel) rfl, tk7 (i := 23) (by decide +kernel) rfl, tk7 (i := 24) (by decide +kernel) rfl, by decide +kernel, by decide +kernel, by decide +kernel⟩
theorem kJ4_init_da8c8 : CAI yJ4_init_da8c8 cJ4_init_da8c8 1 none 0 := ⟨tk7 (i := 67) (by decide +kernel) rfl, tk1 (i := 2) (by decide +kernel) rfl, tk7 (i := 66) (by decide +kernel) rfl, rfl, by decide +kernel, by decide +kernel, by decide +kernel⟩
theorem kJ4_toString_0e30d : CAV yJ4_toString_0e30d cJ4_toString_0e30d 1 (some (FieldType.object "java/lang/String")) 0 := ⟨tk7 (i := 89) (by decide +kernel) rfl, tk1 (i := 2) (by decide +kernel) rfl, tk7 (i := 87) (by decide +kernel) rfl, tk7 (i := 88) (by decide +kernel) rfl, by decide +kernel, by decide +kernel, by decide +kernel⟩
theorem kJ0_init_81219 : CAI yJ0_init_81219 cJ0_init_81219 2 none 1 := ⟨tk7 (i := 94) (by decide +kernel) rfl, tk1 (i := 3) (by decide +kernel) rfl, tk7 (i := 93) (by decide +kernel) rfl, rfl, by decide +kernel, by decide +kernel, by decide +kernel⟩
theorem kJ0_init_db425 : CAI yJ0_init_db425 cJ0_init_db425 5 none 2 := ⟨tk7 (i := 97) (by decide +kernel) rfl, tk1 (i := 3) (by decide +kernel) rfl, tk7 (i := 96) (by decide +kernel) rfl, rfl, by decide +kernel, by decide +kernel, by decide +kernel⟩
theorem kL_sum : CAS yL_sum cL_sum 4 (some (FieldType.object "java/lang/String")) 1 := ⟨tk7 (i := 148) (by decide +kernel) rfl, tk1 (i := 0) (by decide +kernel) rfl, tk7 (i := 147) (by decide +kernel) rfl, by decide +kernel, by decide +kernel, by decide +kernel⟩
theorem kL_when : CAS yL_when cL_when 4 (some (FieldType.object "java/lang/String")) 1 := ⟨tk7 (i := 169) (by decide +kernel) rfl, tk1 (i := 0) (by decide +kernel) rfl, tk7 (i := 168) (by decide +kernel) rfl, by decide +kernel, by decide +kernel, by decide +kernel⟩
theorem kX11_setDamp : CAV yX11_setDamp cX11_setDamp 3 (some .int) 1 := ⟨tk7 (i := 195) (by decide +kernel) rfl, tk1 (i := 13) (by decide +kernel) rfl, tk7 (i := 193) (by decide +kernel) rfl, tk7 (i := 194) (by decide +kernel) rfl, by decide +kernel, by decide +kernel, by decide +kernel⟩
theorem kX11_lend : CAV yX11_lend cX11_lend 4 (some .int) 3 := ⟨tk7 (i := 201) (by decide +kernel) rfl, tk1 (i := 13) (by decide +kernel) rfl, tk7 (i := 199) (by decide +kernel) rfl, tk7 (i := 200) (by decide +kernel) rfl, by decide +kernel, by decide +kernel, by decide +kernel⟩
theorem kX11_offset : CAV yX11_offset cX11_offset 4 (some .int) 2 := ⟨tk7 (i := 211) (by decide +kernel) rfl, tk1 (i := 13) (by decide +kernel) rfl, tk7 (i := 209) (by decide +kernel) rfl, tk7 (i := 210) (by decide +kernel) rfl, by decide +kernel, by decide +kernel, by decide +kernel⟩
theorem kX11_dry : CAV yX11_dry cX11_dry 3 (some .int) 1 := ⟨tk7 (i := 217) (by decide +kernel) rfl, tk1 (i := 13) (by decide +kernel) rfl, tk7 (i := 215) (by decide +kernel) rfl, tk7 (i := 216) (by decide +kernel) rfl, by decide +kernel, by decide +kernel, by decide +kernel⟩
theorem kL_passed : CAS yL_passed cL_passed 5 (some .boolean) 3 := ⟨tk7 (i := 222) (by decide +kernel) rfl, tk1 (i := 0) (by decide +kernel) rfl, tk7 (i := 221) (by decide +kernel) rfl, by decide +kernel, by decide +kernel, by decide +kernel⟩
theorem ac_int : Cond.arrayClass .int ∈ lw_all := tk1 (i := 50) (by decide +kernel) rfl
