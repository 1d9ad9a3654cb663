set_option maxHeartbeats 4000000 in
theorem bk_C_isOutside_0 {d : Nat} {K : jxK} {X : jxX} (hX : jx_clo jx_G1 (d + 0) (jx_call jx_G1 jx_T (d + 0)) kc_C_isOutside K X) (v0 : Int) (v1 : Int) (v2 : Int) (M : jxM)
    (h : ((v0 < v1 → K (some (.inl 1)) M) ∧ (v1 ≤ v0 → ((v0 ≤ v2 → K (some (.inl 0)) M) ∧ (v2 < v0 → K (some (.inl 1)) M))))) :
    X 0 [.inl v0, .inl v1, .inl v2] [] M := by
  refine jk_load (pc := 0) hX 0 rfl rfl ?_
  refine jk_load (pc := 1) hX 1 rfl rfl ?_
  refine jk_clt (pc := 2) hX 6 rfl (fun q7 => ?_) (fun q8 => ?_)
  · have h1 := h.1 q7
    refine jk_const (pc := 6) hX 1 rfl (by decide) ?_
    refine jk_goto (pc := 7) hX 9 rfl ?_
    exact jk_zret (pc := 9) hX rfl (Or.inr rfl) h1
  · have h2 := h.2 q8
    refine jk_load (pc := 3) hX 0 rfl rfl ?_
    refine jk_load (pc := 4) hX 2 rfl rfl ?_
    refine jk_cle (pc := 5) hX 8 rfl (fun q5 => ?_) (fun q6 => ?_)
    · have h3 := h2.1 q5
      refine jk_const (pc := 8) hX 0 rfl (by decide) ?_
      exact jk_zret (pc := 9) hX rfl (Or.inl rfl) h3
    · have h4 := h2.2 q6
      refine jk_const (pc := 6) hX 1 rfl (by decide) ?_
      refine jk_goto (pc := 7) hX 9 rfl ?_
      exact jk_zret (pc := 9) hX rfl (Or.inr rfl) h4
set_option maxHeartbeats 4000000 in
theorem bk_M_connection_0 {d : Nat} {K : jxK} {X : jxX} (hX : jx_clo jx_G1 (d + 0) (jx_call jx_G1 jx_T (d + 0)) kc_M_connection K X) (v1 : Int) (v2 : Int) (M : jxM)
    (h : (((-2147483648 : Int) ≤ v1 * 7 ∧ v1 * 7 ≤ 2147483647) ∧ ((-2147483648 : Int) ≤ (v1 * 7) + v2 ∧ (v1 * 7) + v2 ≤ 2147483647) ∧ (0 ≤ ((v1 * 7) + v2) ∧ ((v1 * 7) + v2) < 49)) ∧ K (some (.inl (M 12 ((v1 * 7) + v2)))) M) :
    X 0 [.inr 4, .inl v1, .inl v2] [] M := by
  obtain ⟨⟨g1, g2, g3⟩, h4⟩ := h
  refine jk_aload (pc := 0) hX 0 rfl rfl ?_
  refine jk_getR (pc := 1) hX 3 1 rfl rfl (r := 11) rfl ?_
  refine jk_load (pc := 2) hX 1 rfl rfl ?_
  refine jk_const (pc := 3) hX 7 rfl (by decide) ?_
  refine jk_mul (pc := 4) hX rfl g1 ?_
  refine jk_load (pc := 5) hX 2 rfl rfl ?_
  refine jk_add (pc := 6) hX rfl g2 ?_
  refine jk_iald (pc := 7) hX 49 rfl rfl g3 ?_
  exact jk_iret (pc := 8) hX rfl h4
set_option maxHeartbeats 4000000 in
theorem bk_L_stateBehind_0 {d : Nat} {K : jxK} {X : jxX} (hX : jx_clo jx_G1 (d + 0) (jx_call jx_G1 jx_T (d + 0)) kc_L_stateBehind K X) (v1 : Int) (M : jxM)
    (h : ((0 ≤ v1 ∧ v1 < 357) ∧ ((-2147483648 : Int) ≤ (M 87 v1) * 7 ∧ (M 87 v1) * 7 ≤ 2147483647) ∧ (0 ≤ v1 ∧ v1 < 357) ∧ ((-2147483648 : Int) ≤ ((M 87 v1) * 7) + (M 88 v1) ∧ ((M 87 v1) * 7) + (M 88 v1) ≤ 2147483647)) ∧ K (some (.inl (((M 87 v1) * 7) + (M 88 v1)))) M) :
    X 0 [.inr 83, .inl v1] [] M := by
  obtain ⟨⟨g1, g2, g3, g4⟩, h5⟩ := h
  refine jk_aload (pc := 0) hX 0 rfl rfl ?_
  refine jk_getR (pc := 1) hX 2 4 rfl rfl (r := 86) rfl ?_
  refine jk_load (pc := 2) hX 1 rfl rfl ?_
  refine jk_iald (pc := 3) hX 357 rfl rfl g1 ?_
  refine jk_const (pc := 4) hX 7 rfl (by decide) ?_
  refine jk_mul (pc := 5) hX rfl g2 ?_
  refine jk_aload (pc := 6) hX 0 rfl rfl ?_
  refine jk_getR (pc := 7) hX 2 5 rfl rfl (r := 87) rfl ?_
  refine jk_load (pc := 8) hX 1 rfl rfl ?_
  refine jk_iald (pc := 9) hX 357 rfl rfl g3 ?_
  refine jk_add (pc := 10) hX rfl g4 ?_
  exact jk_iret (pc := 11) hX rfl h5
set_option maxHeartbeats 4000000 in
theorem bk_R_leastFrom_0 {d : Nat} {K : jxK} {X : jxX} (hX : jx_clo jx_G1 (d + 0) (jx_call jx_G1 jx_T (d + 0)) kc_R_leastFrom K X) (v1 : Int) (M : jxM)
    (h : ((0 ≤ v1 ∧ v1 < 119)) ∧ (((M 93 v1) ≤ 0 → K (some (.inl 1000000)) M) ∧ (0 < (M 93 v1) → (((-2147483648 : Int) ≤ v1 * 20 ∧ v1 * 20 ≤ 2147483647) ∧ (0 ≤ (v1 * 20) ∧ (v1 * 20) < 2380)) ∧ K (some (.inl (M 94 (v1 * 20)))) M))) :
    X 0 [.inr 90, .inl v1] [] M := by
  obtain ⟨g1, h9⟩ := h
  refine jk_aload (pc := 0) hX 0 rfl rfl ?_
  refine jk_getR (pc := 1) hX 4 4 rfl rfl (r := 92) rfl ?_
  refine jk_load (pc := 2) hX 1 rfl rfl ?_
  refine jk_iald (pc := 3) hX 119 rfl rfl g1 ?_
  refine jk_zle (pc := 4) hX 12 rfl (fun q7 => ?_) (fun q8 => ?_)
  · have h2 := h9.1 q7
    refine jk_const (pc := 12) hX 1000000 rfl (by decide) ?_
    exact jk_iret (pc := 13) hX rfl h2
  · have h3 := h9.2 q8
    obtain ⟨⟨g4, g5⟩, h6⟩ := h3
    refine jk_aload (pc := 5) hX 0 rfl rfl ?_
    refine jk_getR (pc := 6) hX 4 5 rfl rfl (r := 93) rfl ?_
    refine jk_load (pc := 7) hX 1 rfl rfl ?_
    refine jk_const (pc := 8) hX 20 rfl (by decide) ?_
    refine jk_mul (pc := 9) hX rfl g4 ?_
    refine jk_iald (pc := 10) hX 2380 rfl rfl g5 ?_
    refine jk_goto (pc := 11) hX 13 rfl ?_
    exact jk_iret (pc := 13) hX rfl h6
set_option maxHeartbeats 4000000 in
theorem bk_R_hasRank_0 {d : Nat} {K : jxK} {X : jxX} (hX : jx_clo jx_G1 (d + 0) (jx_call jx_G1 jx_T (d + 0)) kc_R_hasRank K X) (v1 : Int) (M : jxM)
    (h : (((M 93 6) ≤ v1 → K (some (.inl 0)) M) ∧ (v1 < (M 93 6) → K (some (.inl 1)) M))) :
    X 0 [.inr 90, .inl v1] [] M := by
  refine jk_load (pc := 0) hX 1 rfl rfl ?_
  refine jk_aload (pc := 1) hX 0 rfl rfl ?_
  refine jk_getR (pc := 2) hX 4 4 rfl rfl (r := 92) rfl ?_
  refine jk_const (pc := 3) hX 6 rfl (by decide) ?_
  refine jk_iald (pc := 4) hX 119 rfl rfl (by decide) ?_
  refine jk_cge (pc := 5) hX 8 rfl (fun q3 => ?_) (fun q4 => ?_)
  · have h1 := h.1 q3
    refine jk_const (pc := 8) hX 0 rfl (by decide) ?_
    exact jk_zret (pc := 9) hX rfl (Or.inl rfl) h1
  · have h2 := h.2 q4
    refine jk_const (pc := 6) hX 1 rfl (by decide) ?_
    refine jk_goto (pc := 7) hX 9 rfl ?_
    exact jk_zret (pc := 9) hX rfl (Or.inr rfl) h2
set_option maxHeartbeats 4000000 in
theorem bk_R_costAtRank_0 {d : Nat} {K : jxK} {X : jxX} (hX : jx_clo jx_G1 (d + 0) (jx_call jx_G1 jx_T (d + 0)) kc_R_costAtRank K X) (v1 : Int) (M : jxM)
    (h : (((-2147483648 : Int) ≤ 120 + v1 ∧ 120 + v1 ≤ 2147483647) ∧ (0 ≤ (120 + v1) ∧ (120 + v1) < 2380)) ∧ K (some (.inl (M 94 (120 + v1)))) M) :
    X 0 [.inr 90, .inl v1] [] M := by
  obtain ⟨⟨g1, g2⟩, h3⟩ := h
  refine jk_aload (pc := 0) hX 0 rfl rfl ?_
  refine jk_getR (pc := 1) hX 4 5 rfl rfl (r := 93) rfl ?_
  refine jk_const (pc := 2) hX 120 rfl (by decide) ?_
  refine jk_load (pc := 3) hX 1 rfl rfl ?_
  refine jk_add (pc := 4) hX rfl g1 ?_
  refine jk_iald (pc := 5) hX 2380 rfl rfl g2 ?_
  exact jk_iret (pc := 6) hX rfl h3
set_option maxHeartbeats 4000000 in
theorem bk_R_allPaths_0 {d : Nat} {K : jxK} {X : jxX} (hX : jx_clo jx_G1 (d + 0) (jx_call jx_G1 jx_T (d + 0)) kc_R_allPaths K X) (M : jxM)
    (h : K (some (.inl (M 99 0))) M) :
    X 0 [.inr 90] [] M := by
  refine jk_aload (pc := 0) hX 0 rfl rfl ?_
  refine jk_getR (pc := 1) hX 4 10 rfl rfl (r := 98) rfl ?_
  refine jk_const (pc := 2) hX 0 rfl (by decide) ?_
  refine jk_iald (pc := 3) hX 17 rfl rfl (by decide) ?_
  exact jk_iret (pc := 4) hX rfl h
set_option maxHeartbeats 4000000 in
theorem bk_R_bestPaths_0 {d : Nat} {K : jxK} {X : jxX} (hX : jx_clo jx_G1 (d + 0) (jx_call jx_G1 jx_T (d + 0)) kc_R_bestPaths K X) (M : jxM)
    (h : K (some (.inl (M 92 6))) M) :
    X 0 [.inr 90] [] M := by
  refine jk_aload (pc := 0) hX 0 rfl rfl ?_
  refine jk_getR (pc := 1) hX 4 3 rfl rfl (r := 91) rfl ?_
  refine jk_const (pc := 2) hX 6 rfl (by decide) ?_
  refine jk_iald (pc := 3) hX 119 rfl rfl (by decide) ?_
  exact jk_iret (pc := 4) hX rfl h
set_option maxHeartbeats 4000000 in
theorem bk_D_beginsWith_0 {d : Nat} {K : jxK} {X : jxX} (hX : jx_clo jx_G1 (d + 0) (jx_call jx_G1 jx_T (d + 0)) kc_D_beginsWith K X) (v1 : Int) (M : jxM)
    (h : ((0 ≤ v1 ∧ v1 < 20)) ∧ (((M 2 1) ≤ (M 7 v1) → X 11 [.inr 5, .inl v1, .inr 2, .inl 0] [] M) ∧ ((M 7 v1) < (M 2 1) → K (some (.inl 0)) M))) :
    X 0 [.inr 5, .inl v1, .inr 2, .inr 0] [] M := by
  obtain ⟨g1, h6⟩ := h
  refine jk_aload (pc := 0) hX 2 rfl rfl ?_
  refine jk_getI (pc := 1) hX 5 1 rfl rfl rfl ?_
  refine jk_aload (pc := 2) hX 0 rfl rfl ?_
  refine jk_getR (pc := 3) hX 0 1 rfl rfl (r := 6) rfl ?_
  refine jk_load (pc := 4) hX 1 rfl rfl ?_
  refine jk_iald (pc := 5) hX 20 rfl rfl g1 ?_
  refine jk_cle (pc := 6) hX 9 rfl (fun q4 => ?_) (fun q5 => ?_)
  · have h2 := h6.1 q4
    refine jk_const (pc := 9) hX 0 rfl (by decide) ?_
    refine jk_store (pc := 10) hX 3 rfl (Nat.le_of_ble_eq_true rfl) (ls' := [.inr 5, .inl v1, .inr 2, .inl 0]) rfl ?_
    exact h2
  · have h3 := h6.2 q5
    refine jk_const (pc := 7) hX 0 rfl (by decide) ?_
    exact jk_zret (pc := 8) hX rfl (Or.inl rfl) h3
set_option maxHeartbeats 4000000 in
theorem bk_D_beginsWith_11 {d : Nat} {K : jxK} {X : jxX} (hX : jx_clo jx_G1 (d + 0) (jx_call jx_G1 jx_T (d + 0)) kc_D_beginsWith K X) (v1 : Int) (v3 : Int) (M : jxM)
    (h : (((M 2 1) ≤ v3 → K (some (.inl 1)) M) ∧ (v3 < (M 2 1) → (((-2147483648 : Int) ≤ v1 * 6 ∧ v1 * 6 ≤ 2147483647) ∧ ((-2147483648 : Int) ≤ (v1 * 6) + v3 ∧ (v1 * 6) + v3 ≤ 2147483647) ∧ (0 ≤ ((v1 * 6) + v3) ∧ ((v1 * 6) + v3) < 120) ∧ (0 ≤ v3 ∧ v3 < 20)) ∧ (((M 6 ((v1 * 6) + v3)) = (M 3 v3) → (((-2147483648 : Int) ≤ v3 + 1 ∧ v3 + 1 ≤ 2147483647)) ∧ X 11 [.inr 5, .inl v1, .inr 2, .inl (v3 + 1)] [] M) ∧ ((M 6 ((v1 * 6) + v3)) ≠ (M 3 v3) → K (some (.inl 0)) M))))) :
    X 11 [.inr 5, .inl v1, .inr 2, .inl v3] [] M := by
  refine jk_load (pc := 11) hX 3 rfl rfl ?_
  refine jk_aload (pc := 12) hX 2 rfl rfl ?_
  refine jk_getI (pc := 13) hX 5 1 rfl rfl rfl ?_
  refine jk_cge (pc := 14) hX 32 rfl (fun q14 => ?_) (fun q15 => ?_)
  · have h1 := h.1 q14
    refine jk_const (pc := 32) hX 1 rfl (by decide) ?_
    exact jk_zret (pc := 33) hX rfl (Or.inr rfl) h1
  · have h2 := h.2 q15
    obtain ⟨⟨g3, g4, g5, g6⟩, h13⟩ := h2
    refine jk_aload (pc := 15) hX 0 rfl rfl ?_
    refine jk_getR (pc := 16) hX 0 0 rfl rfl (r := 5) rfl ?_
    refine jk_load (pc := 17) hX 1 rfl rfl ?_
    refine jk_const (pc := 18) hX 6 rfl (by decide) ?_
    refine jk_mul (pc := 19) hX rfl g3 ?_
    refine jk_load (pc := 20) hX 3 rfl rfl ?_
    refine jk_add (pc := 21) hX rfl g4 ?_
    refine jk_iald (pc := 22) hX 120 rfl rfl g5 ?_
    refine jk_aload (pc := 23) hX 2 rfl rfl ?_
    refine jk_getR (pc := 24) hX 5 0 rfl rfl (r := 2) rfl ?_
    refine jk_load (pc := 25) hX 3 rfl rfl ?_
    refine jk_iald (pc := 26) hX 20 rfl rfl g6 ?_
    refine jk_ceq (pc := 27) hX 30 rfl (fun q11 => ?_) (fun q12 => ?_)
    · have h7 := h13.1 q11
      obtain ⟨g9, h10⟩ := h7
      refine jk_iinc (pc := 30) hX 3 1 rfl rfl g9 (ls' := [.inr 5, .inl v1, .inr 2, .inl (v3 + 1)]) rfl ?_
      refine jk_goto (pc := 31) hX 11 rfl ?_
      exact h10
    · have h8 := h13.2 q12
      refine jk_const (pc := 28) hX 0 rfl (by decide) ?_
      exact jk_zret (pc := 29) hX rfl (Or.inl rfl) h8
set_option maxHeartbeats 4000000 in
theorem bk_M_standsAt_0 {d : Nat} {K : jxK} {X : jxX} (hX : jx_clo jx_G1 (d + 0) (jx_call jx_G1 jx_T (d + 0)) kc_M_standsAt K X) (v1 : Int) (v2 : Int) (M : jxM)
    (h : ((0 ≤ v1 ∧ v1 < 20) ∧ ((-2147483648 : Int) ≤ v2 + (M 7 v1) ∧ v2 + (M 7 v1) ≤ 2147483647)) ∧ (((v2 + (M 7 v1)) ≤ (M 4 5) → X 16 [.inr 4, .inl v1, .inl v2, .inl (M 7 v1), .inl 0] [] M) ∧ ((M 4 5) < (v2 + (M 7 v1)) → K (some (.inl 0)) M))) :
    X 0 [.inr 4, .inl v1, .inl v2, .inr 0, .inr 0] [] M := by
  obtain ⟨⟨g1, g2⟩, h7⟩ := h
  refine jk_aload (pc := 0) hX 0 rfl rfl ?_
  refine jk_getR (pc := 1) hX 3 0 rfl rfl (r := 4) rfl ?_
  refine jk_getR (pc := 2) hX 0 1 rfl rfl (r := 6) rfl ?_
  refine jk_load (pc := 3) hX 1 rfl rfl ?_
  refine jk_iald (pc := 4) hX 20 rfl rfl g1 ?_
  refine jk_store (pc := 5) hX 3 rfl (Nat.le_of_ble_eq_true rfl) (ls' := [.inr 4, .inl v1, .inl v2, .inl (M 7 v1), .inr 0]) rfl ?_
  refine jk_load (pc := 6) hX 2 rfl rfl ?_
  refine jk_load (pc := 7) hX 3 rfl rfl ?_
  refine jk_add (pc := 8) hX rfl g2 ?_
  refine jk_aload (pc := 9) hX 0 rfl rfl ?_
  refine jk_getI (pc := 10) hX 3 5 rfl rfl rfl ?_
  refine jk_cle (pc := 11) hX 14 rfl (fun q5 => ?_) (fun q6 => ?_)
  · have h3 := h7.1 q5
    refine jk_const (pc := 14) hX 0 rfl (by decide) ?_
    refine jk_store (pc := 15) hX 4 rfl (Nat.le_of_ble_eq_true rfl) (ls' := [.inr 4, .inl v1, .inl v2, .inl (M 7 v1), .inl 0]) rfl ?_
    exact h3
  · have h4 := h7.2 q6
    refine jk_const (pc := 12) hX 0 rfl (by decide) ?_
    exact jk_zret (pc := 13) hX rfl (Or.inl rfl) h4
set_option maxHeartbeats 4000000 in
theorem bk_M_standsAt_16 {d : Nat} {K : jxK} {X : jxX} (hX : jx_clo jx_G1 (d + 0) (jx_call jx_G1 jx_T (d + 0)) kc_M_standsAt K X) (v1 : Int) (v2 : Int) (v3 : Int) (v4 : Int) (M : jxM)
    (h : ((v3 ≤ v4 → K (some (.inl 1)) M) ∧ (v4 < v3 → (((-2147483648 : Int) ≤ v1 * 6 ∧ v1 * 6 ≤ 2147483647) ∧ ((-2147483648 : Int) ≤ (v1 * 6) + v4 ∧ (v1 * 6) + v4 ≤ 2147483647) ∧ (0 ≤ ((v1 * 6) + v4) ∧ ((v1 * 6) + v4) < 120) ∧ ((-2147483648 : Int) ≤ v2 + v4 ∧ v2 + v4 ≤ 2147483647) ∧ (0 ≤ (v2 + v4) ∧ (v2 + v4) < 16)) ∧ (((M 6 ((v1 * 6) + v4)) = (M 13 (v2 + v4)) → (((-2147483648 : Int) ≤ v4 + 1 ∧ v4 + 1 ≤ 2147483647)) ∧ X 16 [.inr 4, .inl v1, .inl v2, .inl v3, .inl (v4 + 1)] [] M) ∧ ((M 6 ((v1 * 6) + v4)) ≠ (M 13 (v2 + v4)) → K (some (.inl 0)) M))))) :
    X 16 [.inr 4, .inl v1, .inl v2, .inl v3, .inl v4] [] M := by
  refine jk_load (pc := 16) hX 4 rfl rfl ?_
  refine jk_load (pc := 17) hX 3 rfl rfl ?_
  refine jk_cge (pc := 18) hX 39 rfl (fun q15 => ?_) (fun q16 => ?_)
  · have h1 := h.1 q15
    refine jk_const (pc := 39) hX 1 rfl (by decide) ?_
    exact jk_zret (pc := 40) hX rfl (Or.inr rfl) h1
  · have h2 := h.2 q16
    obtain ⟨⟨g3, g4, g5, g6, g7⟩, h14⟩ := h2
    refine jk_aload (pc := 19) hX 0 rfl rfl ?_
    refine jk_getR (pc := 20) hX 3 0 rfl rfl (r := 4) rfl ?_
    refine jk_getR (pc := 21) hX 0 0 rfl rfl (r := 5) rfl ?_
    refine jk_load (pc := 22) hX 1 rfl rfl ?_
    refine jk_const (pc := 23) hX 6 rfl (by decide) ?_
    refine jk_mul (pc := 24) hX rfl g3 ?_
    refine jk_load (pc := 25) hX 4 rfl rfl ?_
    refine jk_add (pc := 26) hX rfl g4 ?_
    refine jk_iald (pc := 27) hX 120 rfl rfl g5 ?_
    refine jk_aload (pc := 28) hX 0 rfl rfl ?_
    refine jk_getR (pc := 29) hX 3 2 rfl rfl (r := 12) rfl ?_
    refine jk_load (pc := 30) hX 2 rfl rfl ?_
    refine jk_load (pc := 31) hX 4 rfl rfl ?_
    refine jk_add (pc := 32) hX rfl g6 ?_
    refine jk_iald (pc := 33) hX 16 rfl rfl g7 ?_
    refine jk_ceq (pc := 34) hX 37 rfl (fun q12 => ?_) (fun q13 => ?_)
    · have h8 := h14.1 q12
      obtain ⟨g10, h11⟩ := h8
      refine jk_iinc (pc := 37) hX 4 1 rfl rfl g10 (ls' := [.inr 4, .inl v1, .inl v2, .inl v3, .inl (v4 + 1)]) rfl ?_
      refine jk_goto (pc := 38) hX 16 rfl ?_
      exact h11
    · have h9 := h14.2 q13
      refine jk_const (pc := 35) hX 0 rfl (by decide) ?_
      exact jk_zret (pc := 36) hX rfl (Or.inl rfl) h9
set_option maxHeartbeats 4000000 in
theorem bk_M_allowsSegment_0 {d : Nat} {K : jxK} {X : jxX} (hX : jx_clo jx_G1 (d + 0) (jx_call jx_G1 jx_T (d + 0)) kc_M_allowsSegment K X) (v1 : Int) (v2 : Int) (M : jxM)
    (h : ((0 ≤ v2 ∧ v2 < 17)) ∧ (((M 14 v2) ≠ 2 → (((-2147483648 : Int) ≤ v1 + 1 ∧ v1 + 1 ≤ 2147483647)) ∧ X 12 [.inr 4, .inl v1, .inl v2, .inl (v1 + 1)] [] M) ∧ ((M 14 v2) = 2 → K (some (.inl 0)) M))) :
    X 0 [.inr 4, .inl v1, .inl v2, .inr 0] [] M := by
  obtain ⟨g1, h8⟩ := h
  refine jk_aload (pc := 0) hX 0 rfl rfl ?_
  refine jk_getR (pc := 1) hX 3 3 rfl rfl (r := 13) rfl ?_
  refine jk_load (pc := 2) hX 2 rfl rfl ?_
  refine jk_iald (pc := 3) hX 17 rfl rfl g1 ?_
  refine jk_const (pc := 4) hX 2 rfl (by decide) ?_
  refine jk_cne (pc := 5) hX 8 rfl (fun q6 => ?_) (fun q7 => ?_)
  · have h2 := h8.1 q6
    obtain ⟨g4, h5⟩ := h2
    refine jk_load (pc := 8) hX 1 rfl rfl ?_
    refine jk_const (pc := 9) hX 1 rfl (by decide) ?_
    refine jk_add (pc := 10) hX rfl g4 ?_
    refine jk_store (pc := 11) hX 3 rfl (Nat.le_of_ble_eq_true rfl) (ls' := [.inr 4, .inl v1, .inl v2, .inl (v1 + 1)]) rfl ?_
    exact h5
  · have h3 := h8.2 q7
    refine jk_const (pc := 6) hX 0 rfl (by decide) ?_
    exact jk_zret (pc := 7) hX rfl (Or.inl rfl) h3
set_option maxHeartbeats 4000000 in
theorem bk_M_allowsSegment_12 {d : Nat} {K : jxK} {X : jxX} (hX : jx_clo jx_G1 (d + 0) (jx_call jx_G1 jx_T (d + 0)) kc_M_allowsSegment K X) (v1 : Int) (v2 : Int) (v3 : Int) (M : jxM)
    (h : ((v2 ≤ v3 → K (some (.inl 1)) M) ∧ (v3 < v2 → ((0 ≤ v3 ∧ v3 < 17)) ∧ (((M 14 v3) ≠ 1 → (((-2147483648 : Int) ≤ v3 + 1 ∧ v3 + 1 ≤ 2147483647)) ∧ X 12 [.inr 4, .inl v1, .inl v2, .inl (v3 + 1)] [] M) ∧ ((M 14 v3) = 1 → K (some (.inl 0)) M))))) :
    X 12 [.inr 4, .inl v1, .inl v2, .inl v3] [] M := by
  refine jk_load (pc := 12) hX 3 rfl rfl ?_
  refine jk_load (pc := 13) hX 2 rfl rfl ?_
  refine jk_cge (pc := 14) hX 25 rfl (fun q11 => ?_) (fun q12 => ?_)
  · have h1 := h.1 q11
    refine jk_const (pc := 25) hX 1 rfl (by decide) ?_
    exact jk_zret (pc := 26) hX rfl (Or.inr rfl) h1
  · have h2 := h.2 q12
    obtain ⟨g3, h10⟩ := h2
    refine jk_aload (pc := 15) hX 0 rfl rfl ?_
    refine jk_getR (pc := 16) hX 3 3 rfl rfl (r := 13) rfl ?_
    refine jk_load (pc := 17) hX 3 rfl rfl ?_
    refine jk_iald (pc := 18) hX 17 rfl rfl g3 ?_
    refine jk_const (pc := 19) hX 1 rfl (by decide) ?_
    refine jk_cne (pc := 20) hX 23 rfl (fun q8 => ?_) (fun q9 => ?_)
    · have h4 := h10.1 q8
      obtain ⟨g6, h7⟩ := h4
      refine jk_iinc (pc := 23) hX 3 1 rfl rfl g6 (ls' := [.inr 4, .inl v1, .inl v2, .inl (v3 + 1)]) rfl ?_
      refine jk_goto (pc := 24) hX 12 rfl ?_
      exact h7
    · have h5 := h10.2 q9
      refine jk_const (pc := 21) hX 0 rfl (by decide) ?_
      exact jk_zret (pc := 22) hX rfl (Or.inl rfl) h5
set_option maxHeartbeats 4000000 in
theorem bk_R_trailHolds_0 {d : Nat} {K : jxK} {X : jxX} (hX : jx_clo jx_G1 (d + 0) (jx_call jx_G1 jx_T (d + 0)) kc_R_trailHolds K X) (v1 : Int) (M : jxM)
    (h : X 2 [.inr 90, .inl v1, .inl 0] [] M) :
    X 0 [.inr 90, .inl v1, .inr 0] [] M := by
  refine jk_const (pc := 0) hX 0 rfl (by decide) ?_
  refine jk_store (pc := 1) hX 2 rfl (Nat.le_of_ble_eq_true rfl) (ls' := [.inr 90, .inl v1, .inl 0]) rfl ?_
  exact h
set_option maxHeartbeats 4000000 in
theorem bk_R_trailHolds_2 {d : Nat} {K : jxK} {X : jxX} (hX : jx_clo jx_G1 (d + 0) (jx_call jx_G1 jx_T (d + 0)) kc_R_trailHolds K X) (v1 : Int) (v2 : Int) (M : jxM)
    (h : (((M 90 13) ≤ v2 → K (some (.inl 0)) M) ∧ (v2 < (M 90 13) → ((0 ≤ v2 ∧ v2 < 16)) ∧ (((M 101 v2) ≠ v1 → (((-2147483648 : Int) ≤ v2 + 1 ∧ v2 + 1 ≤ 2147483647)) ∧ X 2 [.inr 90, .inl v1, .inl (v2 + 1)] [] M) ∧ ((M 101 v2) = v1 → K (some (.inl 1)) M))))) :
    X 2 [.inr 90, .inl v1, .inl v2] [] M := by
  refine jk_load (pc := 2) hX 2 rfl rfl ?_
  refine jk_aload (pc := 3) hX 0 rfl rfl ?_
  refine jk_getI (pc := 4) hX 4 13 rfl rfl rfl ?_
  refine jk_cge (pc := 5) hX 16 rfl (fun q11 => ?_) (fun q12 => ?_)
  · have h1 := h.1 q11
    refine jk_const (pc := 16) hX 0 rfl (by decide) ?_
    exact jk_zret (pc := 17) hX rfl (Or.inl rfl) h1
  · have h2 := h.2 q12
    obtain ⟨g3, h10⟩ := h2
    refine jk_aload (pc := 6) hX 0 rfl rfl ?_
    refine jk_getR (pc := 7) hX 4 12 rfl rfl (r := 100) rfl ?_
    refine jk_load (pc := 8) hX 2 rfl rfl ?_
    refine jk_iald (pc := 9) hX 16 rfl rfl g3 ?_
    refine jk_load (pc := 10) hX 1 rfl rfl ?_
    refine jk_cne (pc := 11) hX 14 rfl (fun q8 => ?_) (fun q9 => ?_)
    · have h4 := h10.1 q8
      obtain ⟨g6, h7⟩ := h4
      refine jk_iinc (pc := 14) hX 2 1 rfl rfl g6 (ls' := [.inr 90, .inl v1, .inl (v2 + 1)]) rfl ?_
      refine jk_goto (pc := 15) hX 2 rfl ?_
      exact h7
    · have h5 := h10.2 q9
      refine jk_const (pc := 12) hX 1 rfl (by decide) ?_
      exact jk_zret (pc := 13) hX rfl (Or.inr rfl) h5
set_option maxHeartbeats 4000000 in
theorem bk_T_push_0 {d : Nat} {K : jxK} {X : jxX} (hX : jx_clo jx_G1 (d + 0) (jx_call jx_G1 jx_T (d + 0)) kc_T_push K X) (v1 : Int) (M : jxM)
    (h : ((20 ≤ (M 2 1) → K none M) ∧ ((M 2 1) < 20 → ((0 ≤ (M 2 1) ∧ (M 2 1) < 20) ∧ ((-2147483648 : Int) ≤ (M 2 1) + 1 ∧ (M 2 1) + 1 ≤ 2147483647)) ∧ K none (jx_up (jx_up M 3 (M 2 1) v1) 2 1 ((M 2 1) + 1))))) :
    X 0 [.inr 2, .inl v1] [] M := by
  refine jk_aload (pc := 0) hX 0 rfl rfl ?_
  refine jk_getI (pc := 1) hX 5 1 rfl rfl rfl ?_
  refine jk_const (pc := 2) hX 20 rfl (by decide) ?_
  refine jk_cge (pc := 3) hX 16 rfl (fun q6 => ?_) (fun q7 => ?_)
  · have h1 := h.1 q6
    exact jk_vret (pc := 16) hX rfl h1
  · have h2 := h.2 q7
    obtain ⟨⟨g3, g4⟩, h5⟩ := h2
    refine jk_aload (pc := 4) hX 0 rfl rfl ?_
    refine jk_getR (pc := 5) hX 5 0 rfl rfl (r := 2) rfl ?_
    refine jk_aload (pc := 6) hX 0 rfl rfl ?_
    refine jk_getI (pc := 7) hX 5 1 rfl rfl rfl ?_
    refine jk_load (pc := 8) hX 1 rfl rfl ?_
    refine jk_iast (pc := 9) hX 20 rfl rfl g3 ?_
    refine jk_aload (pc := 10) hX 0 rfl rfl ?_
    refine jk_dup (pc := 11) hX rfl ?_
    refine jk_getI (pc := 12) hX 5 1 rfl rfl rfl (jx_vX (jx_upc (by decide)) ?_)
    refine jk_const (pc := 13) hX 1 rfl (by decide) ?_
    refine jk_add (pc := 14) hX rfl g4 ?_
    refine jk_put (pc := 15) hX 5 1 rfl rfl rfl ?_
    exact jk_vret (pc := 16) hX rfl h5
set_option maxHeartbeats 4000000 in
theorem bk_D_sumOfUses_0 {d : Nat} {K : jxK} {X : jxX} (hX : jx_clo jx_G1 (d + 0) (jx_call jx_G1 jx_T (d + 0)) kc_D_sumOfUses K X) (M : jxM)
    (h : X 4 [.inr 5, .inl 0, .inl 0] [] M) :
    X 0 [.inr 5, .inr 0, .inr 0] [] M := by
  refine jk_const (pc := 0) hX 0 rfl (by decide) ?_
  refine jk_store (pc := 1) hX 1 rfl (Nat.le_of_ble_eq_true rfl) (ls' := [.inr 5, .inl 0, .inr 0]) rfl ?_
  refine jk_const (pc := 2) hX 0 rfl (by decide) ?_
  refine jk_store (pc := 3) hX 2 rfl (Nat.le_of_ble_eq_true rfl) (ls' := [.inr 5, .inl 0, .inl 0]) rfl ?_
  exact h
set_option maxHeartbeats 4000000 in
theorem bk_D_sumOfUses_4 {d : Nat} {K : jxK} {X : jxX} (hX : jx_clo jx_G1 (d + 0) (jx_call jx_G1 jx_T (d + 0)) kc_D_sumOfUses K X) (v1 : Int) (v2 : Int) (M : jxM)
    (h : (((M 5 6) ≤ v2 → K (some (.inl v1)) M) ∧ (v2 < (M 5 6) → ((0 ≤ v2 ∧ v2 < 20) ∧ ((-2147483648 : Int) ≤ v1 + (M 11 v2) ∧ v1 + (M 11 v2) ≤ 2147483647) ∧ ((-2147483648 : Int) ≤ v2 + 1 ∧ v2 + 1 ≤ 2147483647)) ∧ X 4 [.inr 5, .inl (v1 + (M 11 v2)), .inl (v2 + 1)] [] M))) :
    X 4 [.inr 5, .inl v1, .inl v2] [] M := by
  refine jk_load (pc := 4) hX 2 rfl rfl ?_
  refine jk_aload (pc := 5) hX 0 rfl rfl ?_
  refine jk_getI (pc := 6) hX 0 6 rfl rfl rfl ?_
  refine jk_cge (pc := 7) hX 17 rfl (fun q7 => ?_) (fun q8 => ?_)
  · have h1 := h.1 q7
    refine jk_load (pc := 17) hX 1 rfl rfl ?_
    exact jk_iret (pc := 18) hX rfl h1
  · have h2 := h.2 q8
    obtain ⟨⟨g3, g4, g5⟩, h6⟩ := h2
    refine jk_load (pc := 8) hX 1 rfl rfl ?_
    refine jk_aload (pc := 9) hX 0 rfl rfl ?_
    refine jk_getR (pc := 10) hX 0 5 rfl rfl (r := 10) rfl ?_
    refine jk_load (pc := 11) hX 2 rfl rfl ?_
    refine jk_iald (pc := 12) hX 20 rfl rfl g3 ?_
    refine jk_add (pc := 13) hX rfl g4 ?_
    refine jk_store (pc := 14) hX 1 rfl (Nat.le_of_ble_eq_true rfl) (ls' := [.inr 5, .inl (v1 + (M 11 v2)), .inl v2]) rfl ?_
    refine jk_iinc (pc := 15) hX 2 1 rfl rfl g5 (ls' := [.inr 5, .inl (v1 + (M 11 v2)), .inl (v2 + 1)]) rfl ?_
    refine jk_goto (pc := 16) hX 4 rfl ?_
    exact h6
set_option maxHeartbeats 4000000 in
theorem bk_D_learn_0 {d : Nat} {K : jxK} {X : jxX} (hX : jx_clo jx_G1 (d + 0) (jx_call jx_G1 jx_T (d + 0)) kc_D_learn K X) (v1 : Int) (M : jxM)
    (h : ((0 ≤ v1 ∧ v1 < 20)) ∧ (((M 11 v1) < 9 → ((0 ≤ v1 ∧ v1 < 20) ∧ ((-2147483648 : Int) ≤ (M 11 v1) + 1 ∧ (M 11 v1) + 1 ≤ 2147483647) ∧ (0 ≤ v1 ∧ v1 < 20)) ∧ K (some (.inl 1)) (jx_up M 11 v1 ((M 11 v1) + 1))) ∧ (9 ≤ (M 11 v1) → K (some (.inl 0)) M))) :
    X 0 [.inr 5, .inl v1] [] M := by
  obtain ⟨g1, h10⟩ := h
  refine jk_aload (pc := 0) hX 0 rfl rfl ?_
  refine jk_getR (pc := 1) hX 0 5 rfl rfl (r := 10) rfl ?_
  refine jk_load (pc := 2) hX 1 rfl rfl ?_
  refine jk_iald (pc := 3) hX 20 rfl rfl g1 ?_
  refine jk_const (pc := 4) hX 9 rfl (by decide) ?_
  refine jk_clt (pc := 5) hX 8 rfl (fun q8 => ?_) (fun q9 => ?_)
  · have h2 := h10.1 q8
    obtain ⟨⟨g4, g5, g6⟩, h7⟩ := h2
    refine jk_aload (pc := 8) hX 0 rfl rfl ?_
    refine jk_getR (pc := 9) hX 0 5 rfl rfl (r := 10) rfl ?_
    refine jk_load (pc := 10) hX 1 rfl rfl ?_
    refine jk_dup2 (pc := 11) hX rfl ?_
    refine jk_iald (pc := 12) hX 20 rfl rfl g4 ?_
    refine jk_const (pc := 13) hX 1 rfl (by decide) ?_
    refine jk_add (pc := 14) hX rfl g5 ?_
    refine jk_iast (pc := 15) hX 20 rfl rfl g6 ?_
    refine jk_const (pc := 16) hX 1 rfl (by decide) ?_
    exact jk_zret (pc := 17) hX rfl (Or.inr rfl) h7
  · have h3 := h10.2 q9
    refine jk_const (pc := 6) hX 0 rfl (by decide) ?_
    exact jk_zret (pc := 7) hX rfl (Or.inl rfl) h3
set_option maxHeartbeats 4000000 in
theorem bk_D_presentCost_0 {d : Nat} {K : jxK} {X : jxX} (hX : jx_clo jx_G1 (d + 1) (jx_call jx_G1 jx_T (d + 1)) kc_D_presentCost K X) (v1 : Int) (M : jxM)
    (h : ((0 ≤ v1 ∧ v1 < 20) ∧ (0 ≤ v1 ∧ v1 < 20) ∧ ((-2147483648 : Int) ≤ 3 * (M 11 v1) ∧ 3 * (M 11 v1) ≤ 2147483647) ∧ ((-2147483648 : Int) ≤ (M 10 v1) - (3 * (M 11 v1)) ∧ (M 10 v1) - (3 * (M 11 v1)) ≤ 2147483647)) ∧ K (some (.inl (max 0 ((M 10 v1) - (3 * (M 11 v1)))))) M) :
    X 0 [.inr 5, .inl v1] [] M := by
  obtain ⟨⟨g1, g2, g3, g4⟩, h5⟩ := h
  refine jk_const (pc := 0) hX 0 rfl (by decide) ?_
  refine jk_aload (pc := 1) hX 0 rfl rfl ?_
  refine jk_getR (pc := 2) hX 0 4 rfl rfl (r := 9) rfl ?_
  refine jk_load (pc := 3) hX 1 rfl rfl ?_
  refine jk_iald (pc := 4) hX 20 rfl rfl g1 ?_
  refine jk_const (pc := 5) hX 3 rfl (by decide) ?_
  refine jk_aload (pc := 6) hX 0 rfl rfl ?_
  refine jk_getR (pc := 7) hX 0 5 rfl rfl (r := 10) rfl ?_
  refine jk_load (pc := 8) hX 1 rfl rfl ?_
  refine jk_iald (pc := 9) hX 20 rfl rfl g2 ?_
  refine jk_mul (pc := 10) hX rfl g3 ?_
  refine jk_sub (pc := 11) hX rfl g4 ?_
  refine jk_max (pc := 12) hX rfl (by omega) (Nat.le_of_ble_eq_true rfl) ?_
  exact jk_iret (pc := 13) hX rfl h5
set_option maxHeartbeats 4000000 in
theorem bk_R_cappedSum_0 {d : Nat} {K : jxK} {X : jxX} (hX : jx_clo jx_G1 (d + 1) (jx_call jx_G1 jx_T (d + 1)) kc_R_cappedSum K X) (v0 : Int) (v1 : Int) (M : jxM)
    (h : (((-2147483648 : Int) ≤ v0 + v1 ∧ v0 + v1 ≤ 2147483647)) ∧ K (some (.inl (min (v0 + v1) 1000000000))) M) :
    X 0 [.inl v0, .inl v1] [] M := by
  obtain ⟨g1, h2⟩ := h
  refine jk_load (pc := 0) hX 0 rfl rfl ?_
  refine jk_load (pc := 1) hX 1 rfl rfl ?_
  refine jk_add (pc := 2) hX rfl g1 ?_
  refine jk_const (pc := 3) hX 1000000000 rfl (by decide) ?_
  refine jk_min (pc := 4) hX rfl (by omega) (Nat.le_of_ble_eq_true rfl) ?_
  exact jk_iret (pc := 5) hX rfl h2
set_option maxHeartbeats 4000000 in
theorem bk_R_cheapestHead_0 {d : Nat} {K : jxK} {X : jxX} (hX : jx_clo jx_G1 (d + 0) (jx_call jx_G1 jx_T (d + 0)) kc_R_cheapestHead K X) (v1 : Int) (M : jxM)
    (h : X 6 [.inr 90, .inl v1, .inl (-1), .inl 1000000, .inl 0] [] M) :
    X 0 [.inr 90, .inl v1, .inr 0, .inr 0, .inr 0] [] M := by
  refine jk_const (pc := 0) hX (-1) rfl (by decide) ?_
  refine jk_store (pc := 1) hX 2 rfl (Nat.le_of_ble_eq_true rfl) (ls' := [.inr 90, .inl v1, .inl (-1), .inr 0, .inr 0]) rfl ?_
  refine jk_const (pc := 2) hX 1000000 rfl (by decide) ?_
  refine jk_store (pc := 3) hX 3 rfl (Nat.le_of_ble_eq_true rfl) (ls' := [.inr 90, .inl v1, .inl (-1), .inl 1000000, .inr 0]) rfl ?_
  refine jk_const (pc := 4) hX 0 rfl (by decide) ?_
  refine jk_store (pc := 5) hX 4 rfl (Nat.le_of_ble_eq_true rfl) (ls' := [.inr 90, .inl v1, .inl (-1), .inl 1000000, .inl 0]) rfl ?_
  exact h
set_option maxHeartbeats 4000000 in
theorem bk_R_cheapestHead_6 {d : Nat} {K : jxK} {X : jxX} (hX : jx_clo jx_G1 (d + 0) (jx_call jx_G1 jx_T (d + 0)) kc_R_cheapestHead K X) (v1 : Int) (v2 : Int) (v3 : Int) (v4 : Int) (M : jxM)
    (h : ((0 ≤ v1 ∧ v1 < 17)) ∧ (((M 85 v1) ≤ v4 → K (some (.inl v2)) M) ∧ (v4 < (M 85 v1) → ((0 ≤ v4 ∧ v4 < 21)) ∧ ((v3 ≤ (M 97 v4) → (((-2147483648 : Int) ≤ v4 + 1 ∧ v4 + 1 ≤ 2147483647)) ∧ X 6 [.inr 90, .inl v1, .inl v2, .inl v3, .inl (v4 + 1)] [] M) ∧ ((M 97 v4) < v3 → ((0 ≤ v4 ∧ v4 < 21) ∧ ((-2147483648 : Int) ≤ v4 + 1 ∧ v4 + 1 ≤ 2147483647)) ∧ X 6 [.inr 90, .inl v1, .inl v4, .inl (M 97 v4), .inl (v4 + 1)] [] M))))) :
    X 6 [.inr 90, .inl v1, .inl v2, .inl v3, .inl v4] [] M := by
  obtain ⟨g1, h17⟩ := h
  refine jk_load (pc := 6) hX 4 rfl rfl ?_
  refine jk_aload (pc := 7) hX 0 rfl rfl ?_
  refine jk_getR (pc := 8) hX 4 1 rfl rfl (r := 82) rfl ?_
  refine jk_getR (pc := 9) hX 2 2 rfl rfl (r := 84) rfl ?_
  refine jk_load (pc := 10) hX 1 rfl rfl ?_
  refine jk_iald (pc := 11) hX 17 rfl rfl g1 ?_
  refine jk_cge (pc := 12) hX 28 rfl (fun q15 => ?_) (fun q16 => ?_)
  · have h2 := h17.1 q15
    refine jk_load (pc := 28) hX 2 rfl rfl ?_
    exact jk_iret (pc := 29) hX rfl h2
  · have h3 := h17.2 q16
    obtain ⟨g4, h14⟩ := h3
    refine jk_aload (pc := 13) hX 0 rfl rfl ?_
    refine jk_getR (pc := 14) hX 4 8 rfl rfl (r := 96) rfl ?_
    refine jk_load (pc := 15) hX 4 rfl rfl ?_
    refine jk_iald (pc := 16) hX 21 rfl rfl g4 ?_
    refine jk_load (pc := 17) hX 3 rfl rfl ?_
    refine jk_cge (pc := 18) hX 26 rfl (fun q12 => ?_) (fun q13 => ?_)
    · have h5 := h14.1 q12
      obtain ⟨g7, h8⟩ := h5
      refine jk_iinc (pc := 26) hX 4 1 rfl rfl g7 (ls' := [.inr 90, .inl v1, .inl v2, .inl v3, .inl (v4 + 1)]) rfl ?_
      refine jk_goto (pc := 27) hX 6 rfl ?_
      exact h8
    · have h6 := h14.2 q13
      obtain ⟨⟨g9, g10⟩, h11⟩ := h6
      refine jk_aload (pc := 19) hX 0 rfl rfl ?_
      refine jk_getR (pc := 20) hX 4 8 rfl rfl (r := 96) rfl ?_
      refine jk_load (pc := 21) hX 4 rfl rfl ?_
      refine jk_iald (pc := 22) hX 21 rfl rfl g9 ?_
      refine jk_store (pc := 23) hX 3 rfl (Nat.le_of_ble_eq_true rfl) (ls' := [.inr 90, .inl v1, .inl v2, .inl (M 97 v4), .inl v4]) rfl ?_
      refine jk_load (pc := 24) hX 4 rfl rfl ?_
      refine jk_store (pc := 25) hX 2 rfl (Nat.le_of_ble_eq_true rfl) (ls' := [.inr 90, .inl v1, .inl v4, .inl (M 97 v4), .inl v4]) rfl ?_
      refine jk_iinc (pc := 26) hX 4 1 rfl rfl g10 (ls' := [.inr 90, .inl v1, .inl v4, .inl (M 97 v4), .inl (v4 + 1)]) rfl ?_
      refine jk_goto (pc := 27) hX 6 rfl ?_
      exact h11
set_option maxHeartbeats 4000000 in
theorem bk_F_in_0 {d : Nat} {K : jxK} {X : jxX} (hX : jx_clo jx_G2 (d + 0) (jx_call jx_G2 jx_T (d + 0)) kc_F_in K X) (v0 : Int) (v1 : Int) (v2 : Int) (M : jxM)
    (h : ((v0 < v1 → K (some (.inl 0)) M) ∧ (v1 ≤ v0 → ((v2 < v0 → K (some (.inl 0)) M) ∧ (v0 ≤ v2 → K (some (.inl 1)) M))))) :
    X 0 [.inl v0, .inl v1, .inl v2] [] M := by
  refine jk_load (pc := 0) hX 0 rfl rfl ?_
  refine jk_load (pc := 1) hX 1 rfl rfl ?_
  refine jk_clt (pc := 2) hX 8 rfl (fun q7 => ?_) (fun q8 => ?_)
  · have h1 := h.1 q7
    refine jk_const (pc := 8) hX 0 rfl (by decide) ?_
    exact jk_zret (pc := 9) hX rfl (Or.inl rfl) h1
  · have h2 := h.2 q8
    refine jk_load (pc := 3) hX 0 rfl rfl ?_
    refine jk_load (pc := 4) hX 2 rfl rfl ?_
    refine jk_cgt (pc := 5) hX 8 rfl (fun q5 => ?_) (fun q6 => ?_)
    · have h3 := h2.1 q5
      refine jk_const (pc := 8) hX 0 rfl (by decide) ?_
      exact jk_zret (pc := 9) hX rfl (Or.inl rfl) h3
    · have h4 := h2.2 q6
      refine jk_const (pc := 6) hX 1 rfl (by decide) ?_
      refine jk_goto (pc := 7) hX 9 rfl ?_
      exact jk_zret (pc := 9) hX rfl (Or.inr rfl) h4
set_option maxHeartbeats 4000000 in
theorem bk_F_at_0 {d : Nat} {K : jxK} {X : jxX} (hX : jx_clo jx_G2 (d + 0) (jx_call jx_G2 jx_T (d + 0)) kc_F_at K X) (v0 : Int) (M : jxM)
    (h : (((-2147483648 : Int) ≤ 11 * v0 ∧ 11 * v0 ≤ 2147483647) ∧ ((-2147483648 : Int) ≤ 1 + (11 * v0) ∧ 1 + (11 * v0) ≤ 2147483647)) ∧ K (some (.inl (1 + (11 * v0)))) M) :
    X 0 [.inl v0] [] M := by
  obtain ⟨⟨g1, g2⟩, h3⟩ := h
  refine jk_const (pc := 0) hX 1 rfl (by decide) ?_
  refine jk_const (pc := 1) hX 11 rfl (by decide) ?_
  refine jk_load (pc := 2) hX 0 rfl rfl ?_
  refine jk_mul (pc := 3) hX rfl g1 ?_
  refine jk_add (pc := 4) hX rfl g2 ?_
  exact jk_iret (pc := 5) hX rfl h3
set_option maxHeartbeats 4000000 in
theorem bk_F_between_0 {d : Nat} {K : jxK} {X : jxX} (hX : jx_clo jx_G2 (d + 0) (jx_call jx_G2 jx_T (d + 0)) kc_F_between K X) (v1 : Int) (v2 : Int) (M : jxM)
    (h : (((-2147483648 : Int) ≤ 7 * v1 ∧ 7 * v1 ≤ 2147483647) ∧ ((-2147483648 : Int) ≤ 221 + (7 * v1) ∧ 221 + (7 * v1) ≤ 2147483647) ∧ ((-2147483648 : Int) ≤ (221 + (7 * v1)) + v2 ∧ (221 + (7 * v1)) + v2 ≤ 2147483647) ∧ (0 ≤ ((221 + (7 * v1)) + v2) ∧ ((221 + (7 * v1)) + v2) < 305)) ∧ K (some (.inl (M 2 ((221 + (7 * v1)) + v2)))) M) :
    X 0 [.inr 1, .inl v1, .inl v2] [] M := by
  obtain ⟨⟨g1, g2, g3, g4⟩, h5⟩ := h
  refine jk_aload (pc := 0) hX 0 rfl rfl ?_
  refine jk_getR (pc := 1) hX 7 0 rfl rfl (r := 1) rfl ?_
  refine jk_const (pc := 2) hX 221 rfl (by decide) ?_
  refine jk_const (pc := 3) hX 7 rfl (by decide) ?_
  refine jk_load (pc := 4) hX 1 rfl rfl ?_
  refine jk_mul (pc := 5) hX rfl g1 ?_
  refine jk_add (pc := 6) hX rfl g2 ?_
  refine jk_load (pc := 7) hX 2 rfl rfl ?_
  refine jk_add (pc := 8) hX rfl g3 ?_
  refine jk_iald (pc := 9) hX 305 rfl rfl g4 ?_
  exact jk_iret (pc := 10) hX rfl h5
set_option maxHeartbeats 4000000 in
theorem bk_F_capped_0 {d : Nat} {K : jxK} {X : jxX} (hX : jx_clo jx_G2 (d + 0) (jx_call jx_G2 jx_T (d + 0)) kc_F_capped K X) (v0 : Int) (v1 : Int) (M : jxM)
    (h : (((-2147483648 : Int) ≤ v0 + v1 ∧ v0 + v1 ≤ 2147483647)) ∧ (((v0 + v1) ≤ 1000000000 → (((-2147483648 : Int) ≤ v0 + v1 ∧ v0 + v1 ≤ 2147483647)) ∧ K (some (.inl (v0 + v1))) M) ∧ (1000000000 < (v0 + v1) → K (some (.inl 1000000000)) M))) :
    X 0 [.inl v0, .inl v1] [] M := by
  obtain ⟨g1, h8⟩ := h
  refine jk_load (pc := 0) hX 0 rfl rfl ?_
  refine jk_load (pc := 1) hX 1 rfl rfl ?_
  refine jk_add (pc := 2) hX rfl g1 ?_
  refine jk_const (pc := 3) hX 1000000000 rfl (by decide) ?_
  refine jk_cle (pc := 4) hX 7 rfl (fun q6 => ?_) (fun q7 => ?_)
  · have h2 := h8.1 q6
    obtain ⟨g4, h5⟩ := h2
    refine jk_load (pc := 7) hX 0 rfl rfl ?_
    refine jk_load (pc := 8) hX 1 rfl rfl ?_
    refine jk_add (pc := 9) hX rfl g4 ?_
    exact jk_iret (pc := 10) hX rfl h5
  · have h3 := h8.2 q7
    refine jk_const (pc := 5) hX 1000000000 rfl (by decide) ?_
    refine jk_goto (pc := 6) hX 10 rfl ?_
    exact jk_iret (pc := 10) hX rfl h3
set_option maxHeartbeats 4000000 in
theorem bk_F_clearText_0 {d : Nat} {K : jxK} {X : jxX} (hX : jx_clo jx_G2 (d + 0) (jx_call jx_G2 jx_T (d + 0)) kc_F_clearText K X) (M : jxM)
    (h : K (some (.inl (M 1 4))) (jx_up M 1 4 0)) :
    X 0 [.inr 1, .inr 0] [] M := by
  refine jk_aload (pc := 0) hX 0 rfl rfl ?_
  refine jk_getI (pc := 1) hX 7 4 rfl rfl rfl ?_
  refine jk_store (pc := 2) hX 1 rfl (Nat.le_of_ble_eq_true rfl) (ls' := [.inr 1, .inl (M 1 4)]) rfl ?_
  refine jk_aload (pc := 3) hX 0 rfl rfl ?_
  refine jk_const (pc := 4) hX 0 rfl (by decide) ?_
  refine jk_put (pc := 5) hX 7 4 rfl rfl rfl ?_
  refine jk_load (pc := 6) hX 1 rfl rfl ?_
  exact jk_iret (pc := 7) hX rfl h
set_option maxHeartbeats 4000000 in
theorem bk_F_entryCount_0 {d : Nat} {K : jxK} {X : jxX} (hX : jx_clo jx_G2 (d + 0) (jx_call jx_G2 jx_T (d + 0)) kc_F_entryCount K X) (M : jxM)
    (h : K (some (.inl (M 2 0))) M) :
    X 0 [.inr 1] [] M := by
  refine jk_aload (pc := 0) hX 0 rfl rfl ?_
  refine jk_getR (pc := 1) hX 7 0 rfl rfl (r := 1) rfl ?_
  refine jk_const (pc := 2) hX 0 rfl (by decide) ?_
  refine jk_iald (pc := 3) hX 305 rfl rfl (by decide) ?_
  exact jk_iret (pc := 4) hX rfl h
set_option maxHeartbeats 4000000 in
theorem bk_F_inputLength_0 {d : Nat} {K : jxK} {X : jxX} (hX : jx_clo jx_G2 (d + 0) (jx_call jx_G2 jx_T (d + 0)) kc_F_inputLength K X) (M : jxM)
    (h : K (some (.inl (M 2 271))) M) :
    X 0 [.inr 1] [] M := by
  refine jk_aload (pc := 0) hX 0 rfl rfl ?_
  refine jk_getR (pc := 1) hX 7 0 rfl rfl (r := 1) rfl ?_
  refine jk_const (pc := 2) hX 271 rfl (by decide) ?_
  refine jk_iald (pc := 3) hX 305 rfl rfl (by decide) ?_
  exact jk_iret (pc := 4) hX rfl h
set_option maxHeartbeats 4000000 in
theorem bk_F_save_0 {d : Nat} {K : jxK} {X : jxX} (hX : jx_clo jx_G2 (d + 0) (jx_call jx_G2 jx_T (d + 0)) kc_F_save K X) (M : jxM)
    (h : (((M 1 2) ≠ 6 → X 29 [.inr 1, .inl 0] [] M) ∧ ((M 1 2) = 6 → X 6 [.inr 1, .inl 0] [] M))) :
    X 0 [.inr 1, .inr 0] [] M := by
  refine jk_aload (pc := 0) hX 0 rfl rfl ?_
  refine jk_getI (pc := 1) hX 7 2 rfl rfl rfl ?_
  refine jk_const (pc := 2) hX 6 rfl (by decide) ?_
  refine jk_cne (pc := 3) hX 27 rfl (fun q3 => ?_) (fun q4 => ?_)
  · have h1 := h.1 q3
    refine jk_const (pc := 27) hX 0 rfl (by decide) ?_
    refine jk_store (pc := 28) hX 1 rfl (Nat.le_of_ble_eq_true rfl) (ls' := [.inr 1, .inl 0]) rfl ?_
    exact h1
  · have h2 := h.2 q4
    refine jk_const (pc := 4) hX 0 rfl (by decide) ?_
    refine jk_store (pc := 5) hX 1 rfl (Nat.le_of_ble_eq_true rfl) (ls' := [.inr 1, .inl 0]) rfl ?_
    exact h2
set_option maxHeartbeats 4000000 in
theorem bk_F_save_6 {d : Nat} {K : jxK} {X : jxX} (hX : jx_clo jx_G2 (d + 0) (jx_call jx_G2 jx_T (d + 0)) kc_F_save K X) (v1 : Int) (M : jxM)
    (h : ((1525 ≤ v1 → (((-2147483648 : Int) ≤ (M 1 2) - 1 ∧ (M 1 2) - 1 ≤ 2147483647)) ∧ X 29 [.inr 1, .inl 0] [] (jx_up M 1 2 ((M 1 2) - 1))) ∧ (v1 < 1525 → (((-2147483648 : Int) ≤ v1 + 305 ∧ v1 + 305 ≤ 2147483647) ∧ (0 ≤ (v1 + 305) ∧ (v1 + 305) < 1830) ∧ (0 ≤ v1 ∧ v1 < 1830) ∧ ((-2147483648 : Int) ≤ v1 + 1 ∧ v1 + 1 ≤ 2147483647)) ∧ X 6 [.inr 1, .inl (v1 + 1)] [] (jx_up M 3 v1 (M 3 (v1 + 305)))))) :
    X 6 [.inr 1, .inl v1] [] M := by
  refine jk_load (pc := 6) hX 1 rfl rfl ?_
  refine jk_const (pc := 7) hX 1525 rfl (by decide) ?_
  refine jk_cge (pc := 8) hX 21 rfl (fun q10 => ?_) (fun q11 => ?_)
  · have h1 := h.1 q10
    obtain ⟨g3, h4⟩ := h1
    refine jk_aload (pc := 21) hX 0 rfl rfl ?_
    refine jk_dup (pc := 22) hX rfl ?_
    refine jk_getI (pc := 23) hX 7 2 rfl rfl rfl ?_
    refine jk_const (pc := 24) hX 1 rfl (by decide) ?_
    refine jk_sub (pc := 25) hX rfl g3 ?_
    refine jk_put (pc := 26) hX 7 2 rfl rfl rfl ?_
    refine jk_const (pc := 27) hX 0 rfl (by decide) ?_
    refine jk_store (pc := 28) hX 1 rfl (Nat.le_of_ble_eq_true rfl) (ls' := [.inr 1, .inl 0]) rfl ?_
    exact h4
  · have h2 := h.2 q11
    obtain ⟨⟨g5, g6, g7, g8⟩, h9⟩ := h2
    refine jk_aload (pc := 9) hX 0 rfl rfl ?_
    refine jk_getR (pc := 10) hX 7 1 rfl rfl (r := 2) rfl ?_
    refine jk_load (pc := 11) hX 1 rfl rfl ?_
    refine jk_aload (pc := 12) hX 0 rfl rfl ?_
    refine jk_getR (pc := 13) hX 7 1 rfl rfl (r := 2) rfl ?_
    refine jk_load (pc := 14) hX 1 rfl rfl ?_
    refine jk_const (pc := 15) hX 305 rfl (by decide) ?_
    refine jk_add (pc := 16) hX rfl g5 ?_
    refine jk_iald (pc := 17) hX 1830 rfl rfl g6 ?_
    refine jk_iast (pc := 18) hX 1830 rfl rfl g7 ?_
    refine jk_iinc (pc := 19) hX 1 1 rfl rfl g8 (ls' := [.inr 1, .inl (v1 + 1)]) rfl ?_
    refine jk_goto (pc := 20) hX 6 rfl ?_
    exact h9
set_option maxHeartbeats 4000000 in
theorem bk_F_save_29 {d : Nat} {K : jxK} {X : jxX} (hX : jx_clo jx_G2 (d + 0) (jx_call jx_G2 jx_T (d + 0)) kc_F_save K X) (v1 : Int) (M : jxM)
    (h : ((305 ≤ v1 → (((-2147483648 : Int) ≤ (M 1 2) + 1 ∧ (M 1 2) + 1 ≤ 2147483647)) ∧ K none (jx_up (jx_up M 1 2 ((M 1 2) + 1)) 1 5 0)) ∧ (v1 < 305 → (((-2147483648 : Int) ≤ 305 * (M 1 2) ∧ 305 * (M 1 2) ≤ 2147483647) ∧ ((-2147483648 : Int) ≤ (305 * (M 1 2)) + v1 ∧ (305 * (M 1 2)) + v1 ≤ 2147483647) ∧ (0 ≤ v1 ∧ v1 < 305) ∧ (0 ≤ ((305 * (M 1 2)) + v1) ∧ ((305 * (M 1 2)) + v1) < 1830) ∧ ((-2147483648 : Int) ≤ v1 + 1 ∧ v1 + 1 ≤ 2147483647)) ∧ X 29 [.inr 1, .inl (v1 + 1)] [] (jx_up M 3 ((305 * (M 1 2)) + v1) (M 2 v1))))) :
    X 29 [.inr 1, .inl v1] [] M := by
  refine jk_load (pc := 29) hX 1 rfl rfl ?_
  refine jk_const (pc := 30) hX 305 rfl (by decide) ?_
  refine jk_cge (pc := 31) hX 47 rfl (fun q11 => ?_) (fun q12 => ?_)
  · have h1 := h.1 q11
    obtain ⟨g3, h4⟩ := h1
    refine jk_aload (pc := 47) hX 0 rfl rfl ?_
    refine jk_dup (pc := 48) hX rfl ?_
    refine jk_getI (pc := 49) hX 7 2 rfl rfl rfl ?_
    refine jk_const (pc := 50) hX 1 rfl (by decide) ?_
    refine jk_add (pc := 51) hX rfl g3 ?_
    refine jk_put (pc := 52) hX 7 2 rfl rfl rfl ?_
    refine jk_aload (pc := 53) hX 0 rfl rfl ?_
    refine jk_const (pc := 54) hX 0 rfl (by decide) ?_
    refine jk_putZ (pc := 55) hX 7 5 rfl rfl rfl (Or.inl rfl) ?_
    exact jk_vret (pc := 56) hX rfl h4
  · have h2 := h.2 q12
    obtain ⟨⟨g5, g6, g7, g8, g9⟩, h10⟩ := h2
    refine jk_aload (pc := 32) hX 0 rfl rfl ?_
    refine jk_getR (pc := 33) hX 7 1 rfl rfl (r := 2) rfl ?_
    refine jk_const (pc := 34) hX 305 rfl (by decide) ?_
    refine jk_aload (pc := 35) hX 0 rfl rfl ?_
    refine jk_getI (pc := 36) hX 7 2 rfl rfl rfl ?_
    refine jk_mul (pc := 37) hX rfl g5 ?_
    refine jk_load (pc := 38) hX 1 rfl rfl ?_
    refine jk_add (pc := 39) hX rfl g6 ?_
    refine jk_aload (pc := 40) hX 0 rfl rfl ?_
    refine jk_getR (pc := 41) hX 7 0 rfl rfl (r := 1) rfl ?_
    refine jk_load (pc := 42) hX 1 rfl rfl ?_
    refine jk_iald (pc := 43) hX 305 rfl rfl g7 ?_
    refine jk_iast (pc := 44) hX 1830 rfl rfl g8 ?_
    refine jk_iinc (pc := 45) hX 1 1 rfl rfl g9 (ls' := [.inr 1, .inl (v1 + 1)]) rfl ?_
    refine jk_goto (pc := 46) hX 29 rfl ?_
    exact h10
set_option maxHeartbeats 4000000 in
theorem bk_F_undo_0 {d : Nat} {K : jxK} {X : jxX} (hX : jx_clo jx_G2 (d + 0) (jx_call jx_G2 jx_T (d + 0)) kc_F_undo K X) (M : jxM)
    (h : (((M 1 2) ≠ 0 → (((-2147483648 : Int) ≤ (M 1 2) - 1 ∧ (M 1 2) - 1 ≤ 2147483647)) ∧ X 13 [.inr 1, .inl 0] [] (jx_up M 1 2 ((M 1 2) - 1))) ∧ ((M 1 2) = 0 → K (some (.inl (-2))) M))) :
    X 0 [.inr 1, .inr 0] [] M := by
  refine jk_aload (pc := 0) hX 0 rfl rfl ?_
  refine jk_getI (pc := 1) hX 7 2 rfl rfl rfl ?_
  refine jk_zne (pc := 2) hX 5 rfl (fun q5 => ?_) (fun q6 => ?_)
  · have h1 := h.1 q5
    obtain ⟨g3, h4⟩ := h1
    refine jk_aload (pc := 5) hX 0 rfl rfl ?_
    refine jk_dup (pc := 6) hX rfl ?_
    refine jk_getI (pc := 7) hX 7 2 rfl rfl rfl ?_
    refine jk_const (pc := 8) hX 1 rfl (by decide) ?_
    refine jk_sub (pc := 9) hX rfl g3 ?_
    refine jk_put (pc := 10) hX 7 2 rfl rfl rfl ?_
    refine jk_const (pc := 11) hX 0 rfl (by decide) ?_
    refine jk_store (pc := 12) hX 1 rfl (Nat.le_of_ble_eq_true rfl) (ls' := [.inr 1, .inl 0]) rfl ?_
    exact h4
  · have h2 := h.2 q6
    refine jk_const (pc := 3) hX (-2) rfl (by decide) ?_
    exact jk_iret (pc := 4) hX rfl h2
set_option maxHeartbeats 4000000 in
theorem bk_F_undo_13 {d : Nat} {K : jxK} {X : jxX} (hX : jx_clo jx_G2 (d + 0) (jx_call jx_G2 jx_T (d + 0)) kc_F_undo K X) (v1 : Int) (M : jxM)
    (h : ((305 ≤ v1 → K (some (.inl (M 1 2))) (jx_up M 1 5 0)) ∧ (v1 < 305 → (((-2147483648 : Int) ≤ 305 * (M 1 2) ∧ 305 * (M 1 2) ≤ 2147483647) ∧ ((-2147483648 : Int) ≤ (305 * (M 1 2)) + v1 ∧ (305 * (M 1 2)) + v1 ≤ 2147483647) ∧ (0 ≤ ((305 * (M 1 2)) + v1) ∧ ((305 * (M 1 2)) + v1) < 1830) ∧ (0 ≤ v1 ∧ v1 < 305) ∧ ((-2147483648 : Int) ≤ v1 + 1 ∧ v1 + 1 ≤ 2147483647)) ∧ X 13 [.inr 1, .inl (v1 + 1)] [] (jx_up M 2 v1 (M 3 ((305 * (M 1 2)) + v1)))))) :
    X 13 [.inr 1, .inl v1] [] M := by
  refine jk_load (pc := 13) hX 1 rfl rfl ?_
  refine jk_const (pc := 14) hX 305 rfl (by decide) ?_
  refine jk_cge (pc := 15) hX 31 rfl (fun q9 => ?_) (fun q10 => ?_)
  · have h1 := h.1 q9
    refine jk_aload (pc := 31) hX 0 rfl rfl ?_
    refine jk_const (pc := 32) hX 0 rfl (by decide) ?_
    refine jk_putZ (pc := 33) hX 7 5 rfl rfl rfl (Or.inl rfl) ?_
    refine jk_aload (pc := 34) hX 0 rfl rfl ?_
    refine jk_getI (pc := 35) hX 7 2 rfl rfl rfl (jx_vX (jx_upx (by decide)) ?_)
    exact jk_iret (pc := 36) hX rfl h1
  · have h2 := h.2 q10
    obtain ⟨⟨g3, g4, g5, g6, g7⟩, h8⟩ := h2
    refine jk_aload (pc := 16) hX 0 rfl rfl ?_
    refine jk_getR (pc := 17) hX 7 0 rfl rfl (r := 1) rfl ?_
    refine jk_load (pc := 18) hX 1 rfl rfl ?_
    refine jk_aload (pc := 19) hX 0 rfl rfl ?_
    refine jk_getR (pc := 20) hX 7 1 rfl rfl (r := 2) rfl ?_
    refine jk_const (pc := 21) hX 305 rfl (by decide) ?_
    refine jk_aload (pc := 22) hX 0 rfl rfl ?_
    refine jk_getI (pc := 23) hX 7 2 rfl rfl rfl ?_
    refine jk_mul (pc := 24) hX rfl g3 ?_
    refine jk_load (pc := 25) hX 1 rfl rfl ?_
    refine jk_add (pc := 26) hX rfl g4 ?_
    refine jk_iald (pc := 27) hX 1830 rfl rfl g5 ?_
    refine jk_iast (pc := 28) hX 305 rfl rfl g6 ?_
    refine jk_iinc (pc := 29) hX 1 1 rfl rfl g7 (ls' := [.inr 1, .inl (v1 + 1)]) rfl ?_
    refine jk_goto (pc := 30) hX 13 rfl ?_
    exact h8
