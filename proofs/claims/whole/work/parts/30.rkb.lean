set_option maxHeartbeats 4000000 in
theorem bk_R_findLeastTo_0 {d : Nat} {K : jxK} {X : jxX} (hX : jx_clo jx_G1 (d + 2) (jx_call jx_G1 jx_T (d + 2)) kc_R_findLeastTo K X) (M : jxM)
    (h : jx_call jx_G1 jx_T (d + 2) 127 [.inr 91, .inl 1000000] M (fun r M2 => r = none ∧ X 11 [.inr 90, .inl 0, .inr 0, .inr 0, .inr 0, .inr 0] [] (jx_up M2 91 6 0))) :
    X 0 [.inr 90, .inr 0, .inr 0, .inr 0, .inr 0, .inr 0] [] M := by
  refine jk_aload (pc := 0) hX 0 rfl rfl ?_
  refine jk_getR (pc := 1) hX 4 2 rfl rfl (r := 90) rfl ?_
  refine jk_const (pc := 2) hX 1000000 rfl (by decide) ?_
  refine jk_cs (pc := 3) hX 127 2 rfl [.inr 91, .inl 1000000] [] rfl rfl (Nat.le_of_ble_eq_true rfl) (jx_mono (fun r M2 hr => ?_) h)
  obtain ⟨rfl, h3⟩ := hr
  show X 4 [.inr 90, .inr 0, .inr 0, .inr 0, .inr 0, .inr 0] [] M2
  refine jk_aload (pc := 4) hX 0 rfl rfl ?_
  refine jk_getR (pc := 5) hX 4 2 rfl rfl (r := 90) rfl ?_
  refine jk_const (pc := 6) hX 6 rfl (by decide) ?_
  refine jk_const (pc := 7) hX 0 rfl (by decide) ?_
  refine jk_iast (pc := 8) hX 119 rfl rfl (by decide) ?_
  refine jk_const (pc := 9) hX 0 rfl (by decide) ?_
  refine jk_store (pc := 10) hX 1 rfl (Nat.le_of_ble_eq_true rfl) (ls' := [.inr 90, .inl 0, .inr 0, .inr 0, .inr 0, .inr 0]) rfl ?_
  exact h3
set_option maxHeartbeats 4000000 in
theorem bk_R_findLeastTo_11 {d : Nat} {K : jxK} {X : jxX} (hX : jx_clo jx_G1 (d + 2) (jx_call jx_G1 jx_T (d + 2)) kc_R_findLeastTo K X) (v1 : Int) (M : jxM)
    (h : (((M 4 5) ≤ v1 → K none M) ∧ (v1 < (M 4 5) → X 18 [.inr 90, .inl v1, .inl 0, .inr 0, .inr 0, .inr 0] [] M))) :
    X 11 [.inr 90, .inl v1, .inr 0, .inr 0, .inr 0, .inr 0] [] M := by
  refine jk_load (pc := 11) hX 1 rfl rfl ?_
  refine jk_aload (pc := 12) hX 0 rfl rfl ?_
  refine jk_getR (pc := 13) hX 4 0 rfl rfl (r := 3) rfl ?_
  refine jk_getI (pc := 14) hX 3 5 rfl rfl rfl ?_
  refine jk_cge (pc := 15) hX 65 rfl (fun q3 => ?_) (fun q4 => ?_)
  · have h1 := h.1 q3
    exact jk_vret (pc := 65) hX rfl h1
  · have h2 := h.2 q4
    refine jk_const (pc := 16) hX 0 rfl (by decide) ?_
    refine jk_store (pc := 17) hX 2 rfl (Nat.le_of_ble_eq_true rfl) (ls' := [.inr 90, .inl v1, .inl 0, .inr 0, .inr 0, .inr 0]) rfl ?_
    exact h2
set_option maxHeartbeats 4000000 in
theorem bk_R_findLeastTo_18 {d : Nat} {K : jxK} {X : jxX} (hX : jx_clo jx_G1 (d + 2) (jx_call jx_G1 jx_T (d + 2)) kc_R_findLeastTo K X) (v1 : Int) (v2 : Int) (M : jxM)
    (h : ((0 ≤ v1 ∧ v1 < 17)) ∧ (((M 85 v1) ≤ v2 → (((-2147483648 : Int) ≤ v1 + 1 ∧ v1 + 1 ≤ 2147483647)) ∧ X 11 [.inr 90, .inl (v1 + 1), .inr 0, .inr 0, .inr 0, .inr 0] [] M) ∧ (v2 < (M 85 v1) → (((-2147483648 : Int) ≤ v1 * 21 ∧ v1 * 21 ≤ 2147483647) ∧ ((-2147483648 : Int) ≤ (v1 * 21) + v2 ∧ (v1 * 21) + v2 ≤ 2147483647) ∧ (((0 : Int) ≤ ((v1 * 21) + v2) ∧ ((v1 * 21) + v2) < 357) ∧ ((0 : Int) ≤ (M 87 ((v1 * 21) + v2)) ∧ (M 87 ((v1 * 21) + v2)) ≤ 16) ∧ ((0 : Int) ≤ (M 88 ((v1 * 21) + v2)) ∧ (M 88 ((v1 * 21) + v2)) ≤ 6)) ∧ (0 ≤ ((v1 * 21) + v2) ∧ ((v1 * 21) + v2) < 357) ∧ (((0 : Int) ≤ v1 ∧ v1 ≤ 16) ∧ ((0 : Int) ≤ (M 88 ((v1 * 21) + v2)) ∧ (M 88 ((v1 * 21) + v2)) ≤ 6) ∧ (∀ x, (0 : Int) ≤ x → x < 119 → (0 : Int) ≤ M 91 x ∧ M 91 x ≤ 1000000) ∧ (∀ x, (0 : Int) ≤ x → x < 49 → (0 : Int) ≤ M 12 x ∧ M 12 x ≤ 99)) ∧ (0 ≤ ((v1 * 21) + v2) ∧ ((v1 * 21) + v2) < 357) ∧ ((-2147483648 : Int) ≤ (r_bef M v1 (M 88 ((v1 * 21) + v2)) 7) + (M 89 ((v1 * 21) + v2)) ∧ (r_bef M v1 (M 88 ((v1 * 21) + v2)) 7) + (M 89 ((v1 * 21) + v2)) ≤ 2147483647) ∧ (0 ≤ ((M 87 ((v1 * 21) + v2)) * 7 + (M 88 ((v1 * 21) + v2))) ∧ ((M 87 ((v1 * 21) + v2)) * 7 + (M 88 ((v1 * 21) + v2))) < 119) ∧ (0 ≤ ((M 87 ((v1 * 21) + v2)) * 7 + (M 88 ((v1 * 21) + v2))) ∧ ((M 87 ((v1 * 21) + v2)) * 7 + (M 88 ((v1 * 21) + v2))) < 119) ∧ ((-2147483648 : Int) ≤ v2 + 1 ∧ v2 + 1 ≤ 2147483647)) ∧ X 18 [.inr 90, .inl v1, .inl (v2 + 1), .inr 0, .inr 0, .inr 0] [] (jx_up M 91 ((M 87 ((v1 * 21) + v2)) * 7 + (M 88 ((v1 * 21) + v2))) (min (M 91 ((M 87 ((v1 * 21) + v2)) * 7 + (M 88 ((v1 * 21) + v2)))) ((r_bef M v1 (M 88 ((v1 * 21) + v2)) 7) + (M 89 ((v1 * 21) + v2)))))))) :
    X 18 [.inr 90, .inl v1, .inl v2, .inr 0, .inr 0, .inr 0] [] M := by
  obtain ⟨g1, h19⟩ := h
  refine jk_load (pc := 18) hX 2 rfl rfl ?_
  refine jk_aload (pc := 19) hX 0 rfl rfl ?_
  refine jk_getR (pc := 20) hX 4 1 rfl rfl (r := 82) rfl ?_
  refine jk_getR (pc := 21) hX 2 2 rfl rfl (r := 84) rfl ?_
  refine jk_load (pc := 22) hX 1 rfl rfl ?_
  refine jk_iald (pc := 23) hX 17 rfl rfl g1 ?_
  refine jk_cge (pc := 24) hX 63 rfl (fun q17 => ?_) (fun q18 => ?_)
  · have h2 := h19.1 q17
    obtain ⟨g4, h5⟩ := h2
    refine jk_iinc (pc := 63) hX 1 1 rfl rfl g4 (ls' := [.inr 90, .inl (v1 + 1), .inl v2, .inr 0, .inr 0, .inr 0]) rfl ?_
    refine jk_goto (pc := 64) hX 11 rfl ?_
    refine jk_forget (pc := 11) hX 2 (ls' := [.inr 90, .inl (v1 + 1), .inr 0, .inr 0, .inr 0, .inr 0]) rfl ?_
    exact h5
  · have h3 := h19.2 q18
    obtain ⟨⟨g6, g7, g8, g9, g10, g11, g12, g13, g14, g15⟩, h16⟩ := h3
    refine jk_load (pc := 25) hX 1 rfl rfl ?_
    refine jk_const (pc := 26) hX 21 rfl (by decide) ?_
    refine jk_mul (pc := 27) hX rfl g6 ?_
    refine jk_load (pc := 28) hX 2 rfl rfl ?_
    refine jk_add (pc := 29) hX rfl g7 ?_
    refine jk_store (pc := 30) hX 3 rfl (Nat.le_of_ble_eq_true rfl) (ls' := [.inr 90, .inl v1, .inl v2, .inl ((v1 * 21) + v2), .inr 0, .inr 0]) rfl ?_
    refine jk_aload (pc := 31) hX 0 rfl rfl ?_
    refine jk_getR (pc := 32) hX 4 1 rfl rfl (r := 82) rfl ?_
    refine jk_load (pc := 33) hX 3 rfl rfl ?_
    refine jk_cv (pc := 34) hX 15 1 2 rfl 83 [.inl ((v1 * 21) + v2)] [] rfl rfl rfl (Nat.le_of_ble_eq_true rfl) (sp_L_stateBehind (d + 1) ((v1 * 21) + v2) M g8 ?_)
    show X 35 [.inr 90, .inl v1, .inl v2, .inl ((v1 * 21) + v2), .inr 0, .inr 0] [.inl ((M 87 ((v1 * 21) + v2)) * 7 + (M 88 ((v1 * 21) + v2)))] M
    refine jk_store (pc := 35) hX 4 rfl (Nat.le_of_ble_eq_true rfl) (ls' := [.inr 90, .inl v1, .inl v2, .inl ((v1 * 21) + v2), .inl ((M 87 ((v1 * 21) + v2)) * 7 + (M 88 ((v1 * 21) + v2))), .inr 0]) rfl ?_
    refine jk_aload (pc := 36) hX 0 rfl rfl ?_
    refine jk_load (pc := 37) hX 1 rfl rfl ?_
    refine jk_aload (pc := 38) hX 0 rfl rfl ?_
    refine jk_getR (pc := 39) hX 4 1 rfl rfl (r := 82) rfl ?_
    refine jk_getR (pc := 40) hX 2 5 rfl rfl (r := 87) rfl ?_
    refine jk_load (pc := 41) hX 3 rfl rfl ?_
    refine jk_iald (pc := 42) hX 357 rfl rfl g9 ?_
    refine jk_cv (pc := 43) hX 23 2 4 rfl 90 [.inl v1, .inl (M 88 ((v1 * 21) + v2))] [] rfl rfl rfl (Nat.le_of_ble_eq_true rfl) (sp_R_leastBefore d v1 (M 88 ((v1 * 21) + v2)) M g10 ?_)
    show X 44 [.inr 90, .inl v1, .inl v2, .inl ((v1 * 21) + v2), .inl ((M 87 ((v1 * 21) + v2)) * 7 + (M 88 ((v1 * 21) + v2))), .inr 0] [.inl (r_bef M v1 (M 88 ((v1 * 21) + v2)) 7)] M
    refine jk_aload (pc := 44) hX 0 rfl rfl ?_
    refine jk_getR (pc := 45) hX 4 1 rfl rfl (r := 82) rfl ?_
    refine jk_getR (pc := 46) hX 2 6 rfl rfl (r := 88) rfl ?_
    refine jk_load (pc := 47) hX 3 rfl rfl ?_
    refine jk_iald (pc := 48) hX 357 rfl rfl g11 ?_
    refine jk_add (pc := 49) hX rfl g12 ?_
    refine jk_store (pc := 50) hX 5 rfl (Nat.le_of_ble_eq_true rfl) (ls' := [.inr 90, .inl v1, .inl v2, .inl ((v1 * 21) + v2), .inl ((M 87 ((v1 * 21) + v2)) * 7 + (M 88 ((v1 * 21) + v2))), .inl ((r_bef M v1 (M 88 ((v1 * 21) + v2)) 7) + (M 89 ((v1 * 21) + v2)))]) rfl ?_
    refine jk_aload (pc := 51) hX 0 rfl rfl ?_
    refine jk_getR (pc := 52) hX 4 2 rfl rfl (r := 90) rfl ?_
    refine jk_load (pc := 53) hX 4 rfl rfl ?_
    refine jk_aload (pc := 54) hX 0 rfl rfl ?_
    refine jk_getR (pc := 55) hX 4 2 rfl rfl (r := 90) rfl ?_
    refine jk_load (pc := 56) hX 4 rfl rfl ?_
    refine jk_iald (pc := 57) hX 119 rfl rfl g13 ?_
    refine jk_load (pc := 58) hX 5 rfl rfl ?_
    refine jk_min (pc := 59) hX rfl (by omega) (Nat.le_of_ble_eq_true rfl) ?_
    refine jk_iast (pc := 60) hX 119 rfl rfl g14 ?_
    refine jk_iinc (pc := 61) hX 2 1 rfl rfl g15 (ls' := [.inr 90, .inl v1, .inl (v2 + 1), .inl ((v1 * 21) + v2), .inl ((M 87 ((v1 * 21) + v2)) * 7 + (M 88 ((v1 * 21) + v2))), .inl ((r_bef M v1 (M 88 ((v1 * 21) + v2)) 7) + (M 89 ((v1 * 21) + v2)))]) rfl ?_
    refine jk_goto (pc := 62) hX 18 rfl ?_
    refine jk_forget (pc := 18) hX 3 (ls' := [.inr 90, .inl v1, .inl (v2 + 1), .inr 0, .inl ((M 87 ((v1 * 21) + v2)) * 7 + (M 88 ((v1 * 21) + v2))), .inl ((r_bef M v1 (M 88 ((v1 * 21) + v2)) 7) + (M 89 ((v1 * 21) + v2)))]) rfl ?_
    refine jk_forget (pc := 18) hX 4 (ls' := [.inr 90, .inl v1, .inl (v2 + 1), .inr 0, .inr 0, .inl ((r_bef M v1 (M 88 ((v1 * 21) + v2)) 7) + (M 89 ((v1 * 21) + v2)))]) rfl ?_
    refine jk_forget (pc := 18) hX 5 (ls' := [.inr 90, .inl v1, .inl (v2 + 1), .inr 0, .inr 0, .inr 0]) rfl ?_
    exact h16
set_option maxHeartbeats 4000000 in
theorem bk_R_countPaths_0 {d : Nat} {K : jxK} {X : jxX} (hX : jx_clo jx_G1 (d + 2) (jx_call jx_G1 jx_T (d + 2)) kc_R_countPaths K X) (M : jxM)
    (h : ((0 ≤ (M 4 5) ∧ (M 4 5) < 17) ∧ ((-2147483648 : Int) ≤ (M 4 5) - 1 ∧ (M 4 5) - 1 ≤ 2147483647)) ∧ X 13 [.inr 90, .inl ((M 4 5) - 1), .inr 0, .inr 0] [] (jx_up M 99 (M 4 5) 1)) :
    X 0 [.inr 90, .inr 0, .inr 0, .inr 0] [] M := by
  obtain ⟨⟨g1, g2⟩, h3⟩ := h
  refine jk_aload (pc := 0) hX 0 rfl rfl ?_
  refine jk_getR (pc := 1) hX 4 10 rfl rfl (r := 98) rfl ?_
  refine jk_aload (pc := 2) hX 0 rfl rfl ?_
  refine jk_getR (pc := 3) hX 4 0 rfl rfl (r := 3) rfl ?_
  refine jk_getI (pc := 4) hX 3 5 rfl rfl rfl ?_
  refine jk_const (pc := 5) hX 1 rfl (by decide) ?_
  refine jk_iast (pc := 6) hX 17 rfl rfl g1 ?_
  refine jk_aload (pc := 7) hX 0 rfl rfl ?_
  refine jk_getR (pc := 8) hX 4 0 rfl rfl (r := 3) rfl ?_
  refine jk_getI (pc := 9) hX 3 5 rfl rfl rfl (jx_vX (jx_upc (by decide)) ?_)
  refine jk_const (pc := 10) hX 1 rfl (by decide) ?_
  refine jk_sub (pc := 11) hX rfl g2 ?_
  refine jk_store (pc := 12) hX 1 rfl (Nat.le_of_ble_eq_true rfl) (ls' := [.inr 90, .inl ((M 4 5) - 1), .inr 0, .inr 0]) rfl ?_
  exact h3
set_option maxHeartbeats 4000000 in
theorem bk_R_countPaths_13 {d : Nat} {K : jxK} {X : jxX} (hX : jx_clo jx_G1 (d + 2) (jx_call jx_G1 jx_T (d + 2)) kc_R_countPaths K X) (v1 : Int) (M : jxM)
    (h : ((v1 < 0 → K none M) ∧ (0 ≤ v1 → X 19 [.inr 90, .inl v1, .inl 0, .inl 0] [] M))) :
    X 13 [.inr 90, .inl v1, .inr 0, .inr 0] [] M := by
  refine jk_load (pc := 13) hX 1 rfl rfl ?_
  refine jk_zlt (pc := 14) hX 50 rfl (fun q3 => ?_) (fun q4 => ?_)
  · have h1 := h.1 q3
    exact jk_vret (pc := 50) hX rfl h1
  · have h2 := h.2 q4
    refine jk_const (pc := 15) hX 0 rfl (by decide) ?_
    refine jk_store (pc := 16) hX 2 rfl (Nat.le_of_ble_eq_true rfl) (ls' := [.inr 90, .inl v1, .inl 0, .inr 0]) rfl ?_
    refine jk_const (pc := 17) hX 0 rfl (by decide) ?_
    refine jk_store (pc := 18) hX 3 rfl (Nat.le_of_ble_eq_true rfl) (ls' := [.inr 90, .inl v1, .inl 0, .inl 0]) rfl ?_
    exact h2
set_option maxHeartbeats 4000000 in
theorem bk_R_countPaths_19 {d : Nat} {K : jxK} {X : jxX} (hX : jx_clo jx_G1 (d + 2) (jx_call jx_G1 jx_T (d + 2)) kc_R_countPaths K X) (v1 : Int) (v2 : Int) (v3 : Int) (M : jxM)
    (h : ((0 ≤ v1 ∧ v1 < 17)) ∧ (((M 85 v1) ≤ v3 → ((0 ≤ v1 ∧ v1 < 17) ∧ ((-2147483648 : Int) ≤ v1 + (-1) ∧ v1 + (-1) ≤ 2147483647)) ∧ X 13 [.inr 90, .inl (v1 + (-1)), .inr 0, .inr 0] [] (jx_up M 99 v1 v2)) ∧ (v3 < (M 85 v1) → (((-2147483648 : Int) ≤ v1 * 21 ∧ v1 * 21 ≤ 2147483647) ∧ ((-2147483648 : Int) ≤ (v1 * 21) + v3 ∧ (v1 * 21) + v3 ≤ 2147483647) ∧ (0 ≤ ((v1 * 21) + v3) ∧ ((v1 * 21) + v3) < 357) ∧ (0 ≤ (M 87 ((v1 * 21) + v3)) ∧ (M 87 ((v1 * 21) + v3)) < 17) ∧ ((0 : Int) ≤ v2 ∧ v2 ≤ 1000000000 ∧ (0 : Int) ≤ (M 99 (M 87 ((v1 * 21) + v3))) ∧ (M 99 (M 87 ((v1 * 21) + v3))) ≤ 1000000000) ∧ ((-2147483648 : Int) ≤ v3 + 1 ∧ v3 + 1 ≤ 2147483647)) ∧ X 19 [.inr 90, .inl v1, .inl (min (v2 + (M 99 (M 87 ((v1 * 21) + v3)))) 1000000000), .inl (v3 + 1)] [] M))) :
    X 19 [.inr 90, .inl v1, .inl v2, .inl v3] [] M := by
  obtain ⟨g1, h16⟩ := h
  refine jk_load (pc := 19) hX 3 rfl rfl ?_
  refine jk_aload (pc := 20) hX 0 rfl rfl ?_
  refine jk_getR (pc := 21) hX 4 1 rfl rfl (r := 82) rfl ?_
  refine jk_getR (pc := 22) hX 2 2 rfl rfl (r := 84) rfl ?_
  refine jk_load (pc := 23) hX 1 rfl rfl ?_
  refine jk_iald (pc := 24) hX 17 rfl rfl g1 ?_
  refine jk_cge (pc := 25) hX 43 rfl (fun q14 => ?_) (fun q15 => ?_)
  · have h2 := h16.1 q14
    obtain ⟨⟨g4, g5⟩, h6⟩ := h2
    refine jk_aload (pc := 43) hX 0 rfl rfl ?_
    refine jk_getR (pc := 44) hX 4 10 rfl rfl (r := 98) rfl ?_
    refine jk_load (pc := 45) hX 1 rfl rfl ?_
    refine jk_load (pc := 46) hX 2 rfl rfl ?_
    refine jk_iast (pc := 47) hX 17 rfl rfl g4 ?_
    refine jk_iinc (pc := 48) hX 1 (-1) rfl rfl g5 (ls' := [.inr 90, .inl (v1 + (-1)), .inl v2, .inl v3]) rfl ?_
    refine jk_goto (pc := 49) hX 13 rfl ?_
    refine jk_forget (pc := 13) hX 2 (ls' := [.inr 90, .inl (v1 + (-1)), .inr 0, .inl v3]) rfl ?_
    refine jk_forget (pc := 13) hX 3 (ls' := [.inr 90, .inl (v1 + (-1)), .inr 0, .inr 0]) rfl ?_
    exact h6
  · have h3 := h16.2 q15
    obtain ⟨⟨g7, g8, g9, g10, g11, g12⟩, h13⟩ := h3
    refine jk_load (pc := 26) hX 2 rfl rfl ?_
    refine jk_aload (pc := 27) hX 0 rfl rfl ?_
    refine jk_getR (pc := 28) hX 4 10 rfl rfl (r := 98) rfl ?_
    refine jk_aload (pc := 29) hX 0 rfl rfl ?_
    refine jk_getR (pc := 30) hX 4 1 rfl rfl (r := 82) rfl ?_
    refine jk_getR (pc := 31) hX 2 4 rfl rfl (r := 86) rfl ?_
    refine jk_load (pc := 32) hX 1 rfl rfl ?_
    refine jk_const (pc := 33) hX 21 rfl (by decide) ?_
    refine jk_mul (pc := 34) hX rfl g7 ?_
    refine jk_load (pc := 35) hX 3 rfl rfl ?_
    refine jk_add (pc := 36) hX rfl g8 ?_
    refine jk_iald (pc := 37) hX 357 rfl rfl g9 ?_
    refine jk_iald (pc := 38) hX 17 rfl rfl g10 ?_
    refine jk_cs (pc := 39) hX 25 2 rfl [.inl v2, .inl (M 99 (M 87 ((v1 * 21) + v3)))] [] rfl rfl (Nat.le_of_ble_eq_true rfl) (sp_R_cappedSum d v2 (M 99 (M 87 ((v1 * 21) + v3))) M g11 ?_)
    show X 40 [.inr 90, .inl v1, .inl v2, .inl v3] [.inl (min (v2 + (M 99 (M 87 ((v1 * 21) + v3)))) 1000000000)] M
    refine jk_store (pc := 40) hX 2 rfl (Nat.le_of_ble_eq_true rfl) (ls' := [.inr 90, .inl v1, .inl (min (v2 + (M 99 (M 87 ((v1 * 21) + v3)))) 1000000000), .inl v3]) rfl ?_
    refine jk_iinc (pc := 41) hX 3 1 rfl rfl g12 (ls' := [.inr 90, .inl v1, .inl (min (v2 + (M 99 (M 87 ((v1 * 21) + v3)))) 1000000000), .inl (v3 + 1)]) rfl ?_
    refine jk_goto (pc := 42) hX 19 rfl ?_
    exact h13
set_option maxHeartbeats 4000000 in
theorem bk_R_listEnds_0 {d : Nat} {K : jxK} {X : jxX} (hX : jx_clo jx_G1 (d + 1) (jx_call jx_G1 jx_T (d + 1)) kc_R_listEnds K X) (M : jxM)
    (h : jx_call jx_G1 jx_T (d + 1) 127 [.inr 93, .inl 0] M (fun r M2 => r = none ∧ X 6 [.inr 90, .inl 0, .inr 0] [] M2)) :
    X 0 [.inr 90, .inr 0, .inr 0] [] M := by
  refine jk_aload (pc := 0) hX 0 rfl rfl ?_
  refine jk_getR (pc := 1) hX 4 4 rfl rfl (r := 92) rfl ?_
  refine jk_const (pc := 2) hX 0 rfl (by decide) ?_
  refine jk_cs (pc := 3) hX 127 2 rfl [.inr 93, .inl 0] [] rfl rfl (Nat.le_of_ble_eq_true rfl) (jx_mono (fun r M2 hr => ?_) h)
  obtain ⟨rfl, h3⟩ := hr
  show X 4 [.inr 90, .inr 0, .inr 0] [] M2
  refine jk_const (pc := 4) hX 0 rfl (by decide) ?_
  refine jk_store (pc := 5) hX 1 rfl (Nat.le_of_ble_eq_true rfl) (ls' := [.inr 90, .inl 0, .inr 0]) rfl ?_
  exact h3
set_option maxHeartbeats 4000000 in
theorem bk_R_listEnds_6 {d : Nat} {K : jxK} {X : jxX} (hX : jx_clo jx_G1 (d + 1) (jx_call jx_G1 jx_T (d + 1)) kc_R_listEnds K X) (v1 : Int) (M : jxM)
    (h : ((7 ≤ v1 → K none M) ∧ (v1 < 7 → (((-2147483648 : Int) ≤ (M 4 5) * 7 ∧ (M 4 5) * 7 ≤ 2147483647) ∧ ((-2147483648 : Int) ≤ ((M 4 5) * 7) + v1 ∧ ((M 4 5) * 7) + v1 ≤ 2147483647) ∧ (0 ≤ (((M 4 5) * 7) + v1) ∧ (((M 4 5) * 7) + v1) < 119)) ∧ ((1000000 ≤ (M 91 (((M 4 5) * 7) + v1)) → (((-2147483648 : Int) ≤ v1 + 1 ∧ v1 + 1 ≤ 2147483647)) ∧ X 6 [.inr 90, .inl (v1 + 1), .inr 0] [] M) ∧ ((M 91 (((M 4 5) * 7) + v1)) < 1000000 → ((0 ≤ (((M 4 5) * 7) + v1) ∧ (((M 4 5) * 7) + v1) < 119) ∧ ((-2147483648 : Int) ≤ (((M 4 5) * 7) + v1) * 20 ∧ (((M 4 5) * 7) + v1) * 20 ≤ 2147483647) ∧ ((0 : Int) ≤ v1 ∧ v1 ≤ 6 ∧ (0 : Int) ≤ (6 : Int) ∧ (6 : Int) ≤ 6) ∧ (0 ≤ ((((M 4 5) * 7) + v1) * 20) ∧ ((((M 4 5) * 7) + v1) * 20) < 2380) ∧ (0 ≤ (((M 4 5) * 7) + v1) ∧ (((M 4 5) * 7) + v1) < 119) ∧ ((-2147483648 : Int) ≤ v1 + 1 ∧ v1 + 1 ≤ 2147483647)) ∧ X 6 [.inr 90, .inl (v1 + 1), .inr 0] [] (jx_up (jx_up (jx_up M 93 (((M 4 5) * 7) + v1) 1) 94 ((((M 4 5) * 7) + v1) * 20) ((M 12 (v1 * 7 + (6 : Int))))) 92 (((M 4 5) * 7) + v1) 1)))))) :
    X 6 [.inr 90, .inl v1, .inr 0] [] M := by
  refine jk_load (pc := 6) hX 1 rfl rfl ?_
  refine jk_const (pc := 7) hX 7 rfl (by decide) ?_
  refine jk_cge (pc := 8) hX 46 rfl (fun q20 => ?_) (fun q21 => ?_)
  · have h1 := h.1 q20
    exact jk_vret (pc := 46) hX rfl h1
  · have h2 := h.2 q21
    obtain ⟨⟨g3, g4, g5⟩, h19⟩ := h2
    refine jk_aload (pc := 9) hX 0 rfl rfl ?_
    refine jk_getR (pc := 10) hX 4 0 rfl rfl (r := 3) rfl ?_
    refine jk_getI (pc := 11) hX 3 5 rfl rfl rfl ?_
    refine jk_const (pc := 12) hX 7 rfl (by decide) ?_
    refine jk_mul (pc := 13) hX rfl g3 ?_
    refine jk_load (pc := 14) hX 1 rfl rfl ?_
    refine jk_add (pc := 15) hX rfl g4 ?_
    refine jk_store (pc := 16) hX 2 rfl (Nat.le_of_ble_eq_true rfl) (ls' := [.inr 90, .inl v1, .inl (((M 4 5) * 7) + v1)]) rfl ?_
    refine jk_aload (pc := 17) hX 0 rfl rfl ?_
    refine jk_getR (pc := 18) hX 4 2 rfl rfl (r := 90) rfl ?_
    refine jk_load (pc := 19) hX 2 rfl rfl ?_
    refine jk_iald (pc := 20) hX 119 rfl rfl g5 ?_
    refine jk_const (pc := 21) hX 1000000 rfl (by decide) ?_
    refine jk_cge (pc := 22) hX 44 rfl (fun q17 => ?_) (fun q18 => ?_)
    · have h6 := h19.1 q17
      obtain ⟨g8, h9⟩ := h6
      refine jk_iinc (pc := 44) hX 1 1 rfl rfl g8 (ls' := [.inr 90, .inl (v1 + 1), .inl (((M 4 5) * 7) + v1)]) rfl ?_
      refine jk_goto (pc := 45) hX 6 rfl ?_
      refine jk_forget (pc := 6) hX 2 (ls' := [.inr 90, .inl (v1 + 1), .inr 0]) rfl ?_
      exact h9
    · have h7 := h19.2 q18
      obtain ⟨⟨g10, g11, g12, g13, g14, g15⟩, h16⟩ := h7
      refine jk_aload (pc := 23) hX 0 rfl rfl ?_
      refine jk_getR (pc := 24) hX 4 4 rfl rfl (r := 92) rfl ?_
      refine jk_load (pc := 25) hX 2 rfl rfl ?_
      refine jk_const (pc := 26) hX 1 rfl (by decide) ?_
      refine jk_iast (pc := 27) hX 119 rfl rfl g10 ?_
      refine jk_aload (pc := 28) hX 0 rfl rfl ?_
      refine jk_getR (pc := 29) hX 4 5 rfl rfl (r := 93) rfl ?_
      refine jk_load (pc := 30) hX 2 rfl rfl ?_
      refine jk_const (pc := 31) hX 20 rfl (by decide) ?_
      refine jk_mul (pc := 32) hX rfl g11 ?_
      refine jk_aload (pc := 33) hX 0 rfl rfl ?_
      refine jk_getR (pc := 34) hX 4 0 rfl rfl (r := 3) rfl ?_
      refine jk_load (pc := 35) hX 1 rfl rfl ?_
      refine jk_const (pc := 36) hX 6 rfl (by decide) ?_
      refine jk_cv (pc := 37) hX 18 2 3 rfl 4 [.inl v1, .inl 6] [.inl ((((M 4 5) * 7) + v1) * 20), .inr 94] rfl rfl rfl (Nat.le_of_ble_eq_true rfl) (sp_M_connection d v1 (6 : Int) (jx_up M 93 (((M 4 5) * 7) + v1) 1) g12 ?_)
      show X 38 [.inr 90, .inl v1, .inl (((M 4 5) * 7) + v1)] [.inl (((jx_up M 93 (((M 4 5) * 7) + v1) 1) 12 (v1 * 7 + (6 : Int)))), .inl ((((M 4 5) * 7) + v1) * 20), .inr 94] (jx_up M 93 (((M 4 5) * 7) + v1) 1)
      refine jx_vX (show ((jx_up M 93 (((M 4 5) * 7) + v1) 1) 12 (v1 * 7 + (6 : Int))) = (M 12 (v1 * 7 + (6 : Int))) by repeat (first | rw [jx_upc (by decide)] | rw [jx_cpc (by decide)])) ?_
      show X 38 [.inr 90, .inl v1, .inl (((M 4 5) * 7) + v1)] [.inl ((M 12 (v1 * 7 + (6 : Int)))), .inl ((((M 4 5) * 7) + v1) * 20), .inr 94] (jx_up M 93 (((M 4 5) * 7) + v1) 1)
      refine jk_iast (pc := 38) hX 2380 rfl rfl g13 ?_
      refine jk_aload (pc := 39) hX 0 rfl rfl ?_
      refine jk_getR (pc := 40) hX 4 3 rfl rfl (r := 91) rfl ?_
      refine jk_load (pc := 41) hX 2 rfl rfl ?_
      refine jk_const (pc := 42) hX 1 rfl (by decide) ?_
      refine jk_iast (pc := 43) hX 119 rfl rfl g14 ?_
      refine jk_iinc (pc := 44) hX 1 1 rfl rfl g15 (ls' := [.inr 90, .inl (v1 + 1), .inl (((M 4 5) * 7) + v1)]) rfl ?_
      refine jk_goto (pc := 45) hX 6 rfl ?_
      refine jk_forget (pc := 6) hX 2 (ls' := [.inr 90, .inl (v1 + 1), .inr 0]) rfl ?_
      exact h16
set_option maxHeartbeats 4000000 in
theorem bk_R_openHeads_0 {d : Nat} {K : jxK} {X : jxX} (hX : jx_clo jx_G1 (d + 1) (jx_call jx_G1 jx_T (d + 1)) kc_R_openHeads K X) (v1 : Int) (v2 : Int) (M : jxM)
    (h : X 2 [.inr 90, .inl v1, .inl v2, .inl 0, .inr 0, .inr 0] [] M) :
    X 0 [.inr 90, .inl v1, .inl v2, .inr 0, .inr 0, .inr 0] [] M := by
  refine jk_const (pc := 0) hX 0 rfl (by decide) ?_
  refine jk_store (pc := 1) hX 3 rfl (Nat.le_of_ble_eq_true rfl) (ls' := [.inr 90, .inl v1, .inl v2, .inl 0, .inr 0, .inr 0]) rfl ?_
  exact h
set_option maxHeartbeats 4000000 in
theorem bk_R_openHeads_2 {d : Nat} {K : jxK} {X : jxX} (hX : jx_clo jx_G1 (d + 1) (jx_call jx_G1 jx_T (d + 1)) kc_R_openHeads K X) (v1 : Int) (v2 : Int) (v3 : Int) (M : jxM)
    (h : ((0 ≤ v1 ∧ v1 < 17)) ∧ (((M 85 v1) ≤ v3 → K none M) ∧ (v3 < (M 85 v1) → (((-2147483648 : Int) ≤ v1 * 21 ∧ v1 * 21 ≤ 2147483647) ∧ ((-2147483648 : Int) ≤ (v1 * 21) + v3 ∧ (v1 * 21) + v3 ≤ 2147483647) ∧ (0 ≤ ((v1 * 21) + v3) ∧ ((v1 * 21) + v3) < 357) ∧ ((0 : Int) ≤ v2 ∧ v2 ≤ 6 ∧ (0 : Int) ≤ (M 88 ((v1 * 21) + v3)) ∧ (M 88 ((v1 * 21) + v3)) ≤ 6) ∧ (0 ≤ ((v1 * 21) + v3) ∧ ((v1 * 21) + v3) < 357) ∧ ((-2147483648 : Int) ≤ ((M 12 (v2 * 7 + (M 88 ((v1 * 21) + v3))))) + (M 89 ((v1 * 21) + v3)) ∧ ((M 12 (v2 * 7 + (M 88 ((v1 * 21) + v3))))) + (M 89 ((v1 * 21) + v3)) ≤ 2147483647) ∧ (0 ≤ v3 ∧ v3 < 21) ∧ (((0 : Int) ≤ ((v1 * 21) + v3) ∧ ((v1 * 21) + v3) < 357) ∧ ((0 : Int) ≤ (M 87 ((v1 * 21) + v3)) ∧ (M 87 ((v1 * 21) + v3)) ≤ 16) ∧ ((0 : Int) ≤ (M 88 ((v1 * 21) + v3)) ∧ (M 88 ((v1 * 21) + v3)) ≤ 6)) ∧ ((0 : Int) ≤ ((M 87 ((v1 * 21) + v3)) * 7 + (M 88 ((v1 * 21) + v3))) ∧ ((M 87 ((v1 * 21) + v3)) * 7 + (M 88 ((v1 * 21) + v3))) < 119) ∧ ((-2147483648 : Int) ≤ (((M 12 (v2 * 7 + (M 88 ((v1 * 21) + v3))))) + (M 89 ((v1 * 21) + v3))) + (r_from (jx_up M 98 v3 0) ((M 87 ((v1 * 21) + v3)) * 7 + (M 88 ((v1 * 21) + v3)))) ∧ (((M 12 (v2 * 7 + (M 88 ((v1 * 21) + v3))))) + (M 89 ((v1 * 21) + v3))) + (r_from (jx_up M 98 v3 0) ((M 87 ((v1 * 21) + v3)) * 7 + (M 88 ((v1 * 21) + v3)))) ≤ 2147483647) ∧ (0 ≤ v3 ∧ v3 < 21) ∧ ((-2147483648 : Int) ≤ v3 + 1 ∧ v3 + 1 ≤ 2147483647)) ∧ X 2 [.inr 90, .inl v1, .inl v2, .inl (v3 + 1), .inr 0, .inr 0] [] (jx_up (jx_up M 98 v3 0) 97 v3 (min 1000000 ((((M 12 (v2 * 7 + (M 88 ((v1 * 21) + v3))))) + (M 89 ((v1 * 21) + v3))) + (r_from (jx_up M 98 v3 0) ((M 87 ((v1 * 21) + v3)) * 7 + (M 88 ((v1 * 21) + v3)))))))))) :
    X 2 [.inr 90, .inl v1, .inl v2, .inl v3, .inr 0, .inr 0] [] M := by
  obtain ⟨g1, h19⟩ := h
  refine jk_load (pc := 2) hX 3 rfl rfl ?_
  refine jk_aload (pc := 3) hX 0 rfl rfl ?_
  refine jk_getR (pc := 4) hX 4 1 rfl rfl (r := 82) rfl ?_
  refine jk_getR (pc := 5) hX 2 2 rfl rfl (r := 84) rfl ?_
  refine jk_load (pc := 6) hX 1 rfl rfl ?_
  refine jk_iald (pc := 7) hX 17 rfl rfl g1 ?_
  refine jk_cge (pc := 8) hX 52 rfl (fun q17 => ?_) (fun q18 => ?_)
  · have h2 := h19.1 q17
    exact jk_vret (pc := 52) hX rfl h2
  · have h3 := h19.2 q18
    obtain ⟨⟨g4, g5, g6, g7, g8, g9, g10, g11, g12, g13, g14, g15⟩, h16⟩ := h3
    refine jk_load (pc := 9) hX 1 rfl rfl ?_
    refine jk_const (pc := 10) hX 21 rfl (by decide) ?_
    refine jk_mul (pc := 11) hX rfl g4 ?_
    refine jk_load (pc := 12) hX 3 rfl rfl ?_
    refine jk_add (pc := 13) hX rfl g5 ?_
    refine jk_store (pc := 14) hX 4 rfl (Nat.le_of_ble_eq_true rfl) (ls' := [.inr 90, .inl v1, .inl v2, .inl v3, .inl ((v1 * 21) + v3), .inr 0]) rfl ?_
    refine jk_aload (pc := 15) hX 0 rfl rfl ?_
    refine jk_getR (pc := 16) hX 4 0 rfl rfl (r := 3) rfl ?_
    refine jk_load (pc := 17) hX 2 rfl rfl ?_
    refine jk_aload (pc := 18) hX 0 rfl rfl ?_
    refine jk_getR (pc := 19) hX 4 1 rfl rfl (r := 82) rfl ?_
    refine jk_getR (pc := 20) hX 2 5 rfl rfl (r := 87) rfl ?_
    refine jk_load (pc := 21) hX 4 rfl rfl ?_
    refine jk_iald (pc := 22) hX 357 rfl rfl g6 ?_
    refine jk_cv (pc := 23) hX 18 2 3 rfl 4 [.inl v2, .inl (M 88 ((v1 * 21) + v3))] [] rfl rfl rfl (Nat.le_of_ble_eq_true rfl) (sp_M_connection d v2 (M 88 ((v1 * 21) + v3)) M g7 ?_)
    show X 24 [.inr 90, .inl v1, .inl v2, .inl v3, .inl ((v1 * 21) + v3), .inr 0] [.inl ((M 12 (v2 * 7 + (M 88 ((v1 * 21) + v3)))))] M
    refine jk_aload (pc := 24) hX 0 rfl rfl ?_
    refine jk_getR (pc := 25) hX 4 1 rfl rfl (r := 82) rfl ?_
    refine jk_getR (pc := 26) hX 2 6 rfl rfl (r := 88) rfl ?_
    refine jk_load (pc := 27) hX 4 rfl rfl ?_
    refine jk_iald (pc := 28) hX 357 rfl rfl g8 ?_
    refine jk_add (pc := 29) hX rfl g9 ?_
    refine jk_store (pc := 30) hX 5 rfl (Nat.le_of_ble_eq_true rfl) (ls' := [.inr 90, .inl v1, .inl v2, .inl v3, .inl ((v1 * 21) + v3), .inl (((M 12 (v2 * 7 + (M 88 ((v1 * 21) + v3))))) + (M 89 ((v1 * 21) + v3)))]) rfl ?_
    refine jk_aload (pc := 31) hX 0 rfl rfl ?_
    refine jk_getR (pc := 32) hX 4 9 rfl rfl (r := 97) rfl ?_
    refine jk_load (pc := 33) hX 3 rfl rfl ?_
    refine jk_const (pc := 34) hX 0 rfl (by decide) ?_
    refine jk_iast (pc := 35) hX 21 rfl rfl g10 ?_
    refine jk_aload (pc := 36) hX 0 rfl rfl ?_
    refine jk_getR (pc := 37) hX 4 8 rfl rfl (r := 96) rfl ?_
    refine jk_load (pc := 38) hX 3 rfl rfl ?_
    refine jk_const (pc := 39) hX 1000000 rfl (by decide) ?_
    refine jk_load (pc := 40) hX 5 rfl rfl ?_
    refine jk_aload (pc := 41) hX 0 rfl rfl ?_
    refine jk_aload (pc := 42) hX 0 rfl rfl ?_
    refine jk_getR (pc := 43) hX 4 1 rfl rfl (r := 82) rfl ?_
    refine jk_load (pc := 44) hX 4 rfl rfl ?_
    refine jk_cv (pc := 45) hX 15 1 2 rfl 83 [.inl ((v1 * 21) + v3)] [.inr 90, .inl (((M 12 (v2 * 7 + (M 88 ((v1 * 21) + v3))))) + (M 89 ((v1 * 21) + v3))), .inl 1000000, .inl v3, .inr 97] rfl rfl rfl (Nat.le_of_ble_eq_true rfl) (sp_L_stateBehind d ((v1 * 21) + v3) (jx_up M 98 v3 0) (by repeat (first | rw [jx_upc (by decide)] | rw [jx_cpc (by decide)]); exact g11) ?_)
    show X 46 [.inr 90, .inl v1, .inl v2, .inl v3, .inl ((v1 * 21) + v3), .inl (((M 12 (v2 * 7 + (M 88 ((v1 * 21) + v3))))) + (M 89 ((v1 * 21) + v3)))] [.inl (((jx_up M 98 v3 0) 87 ((v1 * 21) + v3)) * 7 + ((jx_up M 98 v3 0) 88 ((v1 * 21) + v3))), .inr 90, .inl (((M 12 (v2 * 7 + (M 88 ((v1 * 21) + v3))))) + (M 89 ((v1 * 21) + v3))), .inl 1000000, .inl v3, .inr 97] (jx_up M 98 v3 0)
    refine jx_vX (show ((jx_up M 98 v3 0) 87 ((v1 * 21) + v3)) * 7 + ((jx_up M 98 v3 0) 88 ((v1 * 21) + v3)) = (M 87 ((v1 * 21) + v3)) * 7 + (M 88 ((v1 * 21) + v3)) by repeat (first | rw [jx_upc (by decide)] | rw [jx_cpc (by decide)])) ?_
    show X 46 [.inr 90, .inl v1, .inl v2, .inl v3, .inl ((v1 * 21) + v3), .inl (((M 12 (v2 * 7 + (M 88 ((v1 * 21) + v3))))) + (M 89 ((v1 * 21) + v3)))] [.inl ((M 87 ((v1 * 21) + v3)) * 7 + (M 88 ((v1 * 21) + v3))), .inr 90, .inl (((M 12 (v2 * 7 + (M 88 ((v1 * 21) + v3))))) + (M 89 ((v1 * 21) + v3))), .inl 1000000, .inl v3, .inr 97] (jx_up M 98 v3 0)
    refine jk_cv (pc := 46) hX 29 1 4 rfl 90 [.inl ((M 87 ((v1 * 21) + v3)) * 7 + (M 88 ((v1 * 21) + v3)))] [.inl (((M 12 (v2 * 7 + (M 88 ((v1 * 21) + v3))))) + (M 89 ((v1 * 21) + v3))), .inl 1000000, .inl v3, .inr 97] rfl rfl rfl (Nat.le_of_ble_eq_true rfl) (sp_R_leastFrom d ((M 87 ((v1 * 21) + v3)) * 7 + (M 88 ((v1 * 21) + v3))) (jx_up M 98 v3 0) g12 ?_)
    show X 47 [.inr 90, .inl v1, .inl v2, .inl v3, .inl ((v1 * 21) + v3), .inl (((M 12 (v2 * 7 + (M 88 ((v1 * 21) + v3))))) + (M 89 ((v1 * 21) + v3)))] [.inl (r_from (jx_up M 98 v3 0) ((M 87 ((v1 * 21) + v3)) * 7 + (M 88 ((v1 * 21) + v3)))), .inl (((M 12 (v2 * 7 + (M 88 ((v1 * 21) + v3))))) + (M 89 ((v1 * 21) + v3))), .inl 1000000, .inl v3, .inr 97] (jx_up M 98 v3 0)
    refine jk_add (pc := 47) hX rfl g13 ?_
    refine jk_min (pc := 48) hX rfl (by omega) (Nat.le_of_ble_eq_true rfl) ?_
    refine jk_iast (pc := 49) hX 21 rfl rfl g14 ?_
    refine jk_iinc (pc := 50) hX 3 1 rfl rfl g15 (ls' := [.inr 90, .inl v1, .inl v2, .inl (v3 + 1), .inl ((v1 * 21) + v3), .inl (((M 12 (v2 * 7 + (M 88 ((v1 * 21) + v3))))) + (M 89 ((v1 * 21) + v3)))]) rfl ?_
    refine jk_goto (pc := 51) hX 2 rfl ?_
    refine jk_forget (pc := 2) hX 4 (ls' := [.inr 90, .inl v1, .inl v2, .inl (v3 + 1), .inr 0, .inl (((M 12 (v2 * 7 + (M 88 ((v1 * 21) + v3))))) + (M 89 ((v1 * 21) + v3)))]) rfl ?_
    refine jk_forget (pc := 2) hX 5 (ls' := [.inr 90, .inl v1, .inl v2, .inl (v3 + 1), .inr 0, .inr 0]) rfl ?_
    exact h16
set_option maxHeartbeats 4000000 in
theorem bk_R_countBestWays_0 {d : Nat} {K : jxK} {X : jxX} (hX : jx_clo jx_G1 (d + 2) (jx_call jx_G1 jx_T (d + 2)) kc_R_countBestWays K X) (v1 : Int) (v2 : Int) (M : jxM)
    (h : ((((0 : Int) ≤ v1 ∧ v1 ≤ 16) ∧ (M 85 v1) ≤ 21)) ∧ (((r_head M ((M 85 v1)).toNat) < 0 → ((0 ≤ v2 ∧ v2 < 119)) ∧ K none (jx_up M 92 v2 0)) ∧ (0 ≤ (r_head M ((M 85 v1)).toNat) → X 10 [.inr 90, .inl v1, .inl v2, .inl (r_head M ((M 85 v1)).toNat), .inl 0, .inl (r_head M ((M 85 v1)).toNat)] [] M))) :
    X 0 [.inr 90, .inl v1, .inl v2, .inr 0, .inr 0, .inr 0] [] M := by
  obtain ⟨g1, h8⟩ := h
  refine jk_aload (pc := 0) hX 0 rfl rfl ?_
  refine jk_load (pc := 1) hX 1 rfl rfl ?_
  refine jk_cv (pc := 2) hX 31 1 4 rfl 90 [.inl v1] [] rfl rfl rfl (Nat.le_of_ble_eq_true rfl) (sp_R_cheapestHead (d + 1) v1 M g1 ?_)
  show X 3 [.inr 90, .inl v1, .inl v2, .inr 0, .inr 0, .inr 0] [.inl (r_head M ((M 85 v1)).toNat)] M
  refine jk_store (pc := 3) hX 3 rfl (Nat.le_of_ble_eq_true rfl) (ls' := [.inr 90, .inl v1, .inl v2, .inl (r_head M ((M 85 v1)).toNat), .inr 0, .inr 0]) rfl ?_
  refine jk_const (pc := 4) hX 0 rfl (by decide) ?_
  refine jk_store (pc := 5) hX 4 rfl (Nat.le_of_ble_eq_true rfl) (ls' := [.inr 90, .inl v1, .inl v2, .inl (r_head M ((M 85 v1)).toNat), .inl 0, .inr 0]) rfl ?_
  refine jk_load (pc := 6) hX 3 rfl rfl ?_
  refine jk_zlt (pc := 7) hX 42 rfl (fun q6 => ?_) (fun q7 => ?_)
  · have h2 := h8.1 q6
    obtain ⟨g4, h5⟩ := h2
    refine jk_aload (pc := 42) hX 0 rfl rfl ?_
    refine jk_getR (pc := 43) hX 4 3 rfl rfl (r := 91) rfl ?_
    refine jk_load (pc := 44) hX 2 rfl rfl ?_
    refine jk_load (pc := 45) hX 4 rfl rfl ?_
    refine jk_iast (pc := 46) hX 119 rfl rfl g4 ?_
    exact jk_vret (pc := 47) hX rfl h5
  · have h3 := h8.2 q7
    refine jk_load (pc := 8) hX 3 rfl rfl ?_
    refine jk_store (pc := 9) hX 5 rfl (Nat.le_of_ble_eq_true rfl) (ls' := [.inr 90, .inl v1, .inl v2, .inl (r_head M ((M 85 v1)).toNat), .inl 0, .inl (r_head M ((M 85 v1)).toNat)]) rfl ?_
    exact h3
set_option maxHeartbeats 4000000 in
theorem bk_R_countBestWays_10 {d : Nat} {K : jxK} {X : jxX} (hX : jx_clo jx_G1 (d + 2) (jx_call jx_G1 jx_T (d + 2)) kc_R_countBestWays K X) (v1 : Int) (v2 : Int) (v3 : Int) (v4 : Int) (v5 : Int) (M : jxM)
    (h : ((0 ≤ v1 ∧ v1 < 17)) ∧ (((M 85 v1) ≤ v5 → ((0 ≤ v2 ∧ v2 < 119)) ∧ K none (jx_up M 92 v2 v4)) ∧ (v5 < (M 85 v1) → ((0 ≤ v5 ∧ v5 < 21) ∧ (0 ≤ v3 ∧ v3 < 21)) ∧ (((M 97 v5) ≠ (M 97 v3) → (((-2147483648 : Int) ≤ v5 + 1 ∧ v5 + 1 ≤ 2147483647)) ∧ X 10 [.inr 90, .inl v1, .inl v2, .inl v3, .inl v4, .inl (v5 + 1)] [] M) ∧ ((M 97 v5) = (M 97 v3) → (((-2147483648 : Int) ≤ v1 * 21 ∧ v1 * 21 ≤ 2147483647) ∧ ((-2147483648 : Int) ≤ (v1 * 21) + v5 ∧ (v1 * 21) + v5 ≤ 2147483647) ∧ (((0 : Int) ≤ ((v1 * 21) + v5) ∧ ((v1 * 21) + v5) < 357) ∧ ((0 : Int) ≤ (M 87 ((v1 * 21) + v5)) ∧ (M 87 ((v1 * 21) + v5)) ≤ 16) ∧ ((0 : Int) ≤ (M 88 ((v1 * 21) + v5)) ∧ (M 88 ((v1 * 21) + v5)) ≤ 6)) ∧ (0 ≤ ((M 87 ((v1 * 21) + v5)) * 7 + (M 88 ((v1 * 21) + v5))) ∧ ((M 87 ((v1 * 21) + v5)) * 7 + (M 88 ((v1 * 21) + v5))) < 119) ∧ ((0 : Int) ≤ v4 ∧ v4 ≤ 1000000000 ∧ (0 : Int) ≤ (M 92 ((M 87 ((v1 * 21) + v5)) * 7 + (M 88 ((v1 * 21) + v5)))) ∧ (M 92 ((M 87 ((v1 * 21) + v5)) * 7 + (M 88 ((v1 * 21) + v5)))) ≤ 1000000000) ∧ ((-2147483648 : Int) ≤ v5 + 1 ∧ v5 + 1 ≤ 2147483647)) ∧ X 10 [.inr 90, .inl v1, .inl v2, .inl v3, .inl (min (v4 + (M 92 ((M 87 ((v1 * 21) + v5)) * 7 + (M 88 ((v1 * 21) + v5))))) 1000000000), .inl (v5 + 1)] [] M))))) :
    X 10 [.inr 90, .inl v1, .inl v2, .inl v3, .inl v4, .inl v5] [] M := by
  obtain ⟨g1, h24⟩ := h
  refine jk_load (pc := 10) hX 5 rfl rfl ?_
  refine jk_aload (pc := 11) hX 0 rfl rfl ?_
  refine jk_getR (pc := 12) hX 4 1 rfl rfl (r := 82) rfl ?_
  refine jk_getR (pc := 13) hX 2 2 rfl rfl (r := 84) rfl ?_
  refine jk_load (pc := 14) hX 1 rfl rfl ?_
  refine jk_iald (pc := 15) hX 17 rfl rfl g1 ?_
  refine jk_cge (pc := 16) hX 42 rfl (fun q22 => ?_) (fun q23 => ?_)
  · have h2 := h24.1 q22
    obtain ⟨g4, h5⟩ := h2
    refine jk_aload (pc := 42) hX 0 rfl rfl ?_
    refine jk_getR (pc := 43) hX 4 3 rfl rfl (r := 91) rfl ?_
    refine jk_load (pc := 44) hX 2 rfl rfl ?_
    refine jk_load (pc := 45) hX 4 rfl rfl ?_
    refine jk_iast (pc := 46) hX 119 rfl rfl g4 ?_
    exact jk_vret (pc := 47) hX rfl h5
  · have h3 := h24.2 q23
    obtain ⟨⟨g6, g7⟩, h21⟩ := h3
    refine jk_aload (pc := 17) hX 0 rfl rfl ?_
    refine jk_getR (pc := 18) hX 4 8 rfl rfl (r := 96) rfl ?_
    refine jk_load (pc := 19) hX 5 rfl rfl ?_
    refine jk_iald (pc := 20) hX 21 rfl rfl g6 ?_
    refine jk_aload (pc := 21) hX 0 rfl rfl ?_
    refine jk_getR (pc := 22) hX 4 8 rfl rfl (r := 96) rfl ?_
    refine jk_load (pc := 23) hX 3 rfl rfl ?_
    refine jk_iald (pc := 24) hX 21 rfl rfl g7 ?_
    refine jk_cne (pc := 25) hX 40 rfl (fun q19 => ?_) (fun q20 => ?_)
    · have h8 := h21.1 q19
      obtain ⟨g10, h11⟩ := h8
      refine jk_iinc (pc := 40) hX 5 1 rfl rfl g10 (ls' := [.inr 90, .inl v1, .inl v2, .inl v3, .inl v4, .inl (v5 + 1)]) rfl ?_
      refine jk_goto (pc := 41) hX 10 rfl ?_
      exact h11
    · have h9 := h21.2 q20
      obtain ⟨⟨g12, g13, g14, g15, g16, g17⟩, h18⟩ := h9
      refine jk_load (pc := 26) hX 4 rfl rfl ?_
      refine jk_aload (pc := 27) hX 0 rfl rfl ?_
      refine jk_getR (pc := 28) hX 4 3 rfl rfl (r := 91) rfl ?_
      refine jk_aload (pc := 29) hX 0 rfl rfl ?_
      refine jk_getR (pc := 30) hX 4 1 rfl rfl (r := 82) rfl ?_
      refine jk_load (pc := 31) hX 1 rfl rfl ?_
      refine jk_const (pc := 32) hX 21 rfl (by decide) ?_
      refine jk_mul (pc := 33) hX rfl g12 ?_
      refine jk_load (pc := 34) hX 5 rfl rfl ?_
      refine jk_add (pc := 35) hX rfl g13 ?_
      refine jk_cv (pc := 36) hX 15 1 2 rfl 83 [.inl ((v1 * 21) + v5)] [.inr 92, .inl v4] rfl rfl rfl (Nat.le_of_ble_eq_true rfl) (sp_L_stateBehind (d + 1) ((v1 * 21) + v5) M g14 ?_)
      show X 37 [.inr 90, .inl v1, .inl v2, .inl v3, .inl v4, .inl v5] [.inl ((M 87 ((v1 * 21) + v5)) * 7 + (M 88 ((v1 * 21) + v5))), .inr 92, .inl v4] M
      refine jk_iald (pc := 37) hX 119 rfl rfl g15 ?_
      refine jk_cs (pc := 38) hX 25 2 rfl [.inl v4, .inl (M 92 ((M 87 ((v1 * 21) + v5)) * 7 + (M 88 ((v1 * 21) + v5))))] [] rfl rfl (Nat.le_of_ble_eq_true rfl) (sp_R_cappedSum d v4 (M 92 ((M 87 ((v1 * 21) + v5)) * 7 + (M 88 ((v1 * 21) + v5)))) M g16 ?_)
      show X 39 [.inr 90, .inl v1, .inl v2, .inl v3, .inl v4, .inl v5] [.inl (min (v4 + (M 92 ((M 87 ((v1 * 21) + v5)) * 7 + (M 88 ((v1 * 21) + v5))))) 1000000000)] M
      refine jk_store (pc := 39) hX 4 rfl (Nat.le_of_ble_eq_true rfl) (ls' := [.inr 90, .inl v1, .inl v2, .inl v3, .inl (min (v4 + (M 92 ((M 87 ((v1 * 21) + v5)) * 7 + (M 88 ((v1 * 21) + v5))))) 1000000000), .inl v5]) rfl ?_
      refine jk_iinc (pc := 40) hX 5 1 rfl rfl g17 (ls' := [.inr 90, .inl v1, .inl v2, .inl v3, .inl (min (v4 + (M 92 ((M 87 ((v1 * 21) + v5)) * 7 + (M 88 ((v1 * 21) + v5))))) 1000000000), .inl (v5 + 1)]) rfl ?_
      refine jk_goto (pc := 41) hX 10 rfl ?_
      exact h18
set_option maxHeartbeats 4000000 in
theorem bk_R_takeHead_0 {d : Nat} {K : jxK} {X : jxX} (hX : jx_clo jx_G1 (d + 1) (jx_call jx_G1 jx_T (d + 1)) kc_R_takeHead K X) (v1 : Int) (v2 : Int) (v3 : Int) (M : jxM)
    (h : (((-2147483648 : Int) ≤ v2 * 20 ∧ v2 * 20 ≤ 2147483647) ∧ (0 ≤ v2 ∧ v2 < 119) ∧ ((-2147483648 : Int) ≤ (v2 * 20) + (M 93 v2) ∧ (v2 * 20) + (M 93 v2) ≤ 2147483647) ∧ ((-2147483648 : Int) ≤ v1 * 21 ∧ v1 * 21 ≤ 2147483647) ∧ ((-2147483648 : Int) ≤ (v1 * 21) + v3 ∧ (v1 * 21) + v3 ≤ 2147483647) ∧ (0 ≤ v3 ∧ v3 < 21) ∧ (0 ≤ v3 ∧ v3 < 21) ∧ (0 ≤ ((v2 * 20) + (M 93 v2)) ∧ ((v2 * 20) + (M 93 v2)) < 2380) ∧ (0 ≤ ((v2 * 20) + (M 93 v2)) ∧ ((v2 * 20) + (M 93 v2)) < 2380) ∧ (0 ≤ ((v2 * 20) + (M 93 v2)) ∧ ((v2 * 20) + (M 93 v2)) < 2380) ∧ (0 ≤ v2 ∧ v2 < 119) ∧ ((-2147483648 : Int) ≤ (M 93 v2) + 1 ∧ (M 93 v2) + 1 ≤ 2147483647) ∧ (0 ≤ v2 ∧ v2 < 119) ∧ (((0 : Int) ≤ ((v1 * 21) + v3) ∧ ((v1 * 21) + v3) < 357) ∧ ((0 : Int) ≤ (M 87 ((v1 * 21) + v3)) ∧ (M 87 ((v1 * 21) + v3)) ≤ 16) ∧ ((0 : Int) ≤ (M 88 ((v1 * 21) + v3)) ∧ (M 88 ((v1 * 21) + v3)) ≤ 6)) ∧ ((-2147483648 : Int) ≤ (M 98 v3) + 1 ∧ (M 98 v3) + 1 ≤ 2147483647) ∧ (0 ≤ v3 ∧ v3 < 21) ∧ ((-2147483648 : Int) ≤ (M 98 v3) + 1 ∧ (M 98 v3) + 1 ≤ 2147483647) ∧ (0 ≤ ((M 87 ((v1 * 21) + v3)) * 7 + (M 88 ((v1 * 21) + v3))) ∧ ((M 87 ((v1 * 21) + v3)) * 7 + (M 88 ((v1 * 21) + v3))) < 119)) ∧ ((((jx_up (jx_up (jx_up (jx_up M 94 ((v2 * 20) + (M 93 v2)) (M 97 v3)) 95 ((v2 * 20) + (M 93 v2)) ((v1 * 21) + v3)) 96 ((v2 * 20) + (M 93 v2)) (M 98 v3)) 93 v2 ((M 93 v2) + 1)) 93 ((M 87 ((v1 * 21) + v3)) * 7 + (M 88 ((v1 * 21) + v3)))) ≤ ((M 98 v3) + 1) → ((0 ≤ v3 ∧ v3 < 21)) ∧ K none (jx_up (jx_up (jx_up (jx_up (jx_up (jx_up M 94 ((v2 * 20) + (M 93 v2)) (M 97 v3)) 95 ((v2 * 20) + (M 93 v2)) ((v1 * 21) + v3)) 96 ((v2 * 20) + (M 93 v2)) (M 98 v3)) 93 v2 ((M 93 v2) + 1)) 98 v3 ((M 98 v3) + 1)) 97 v3 1000000)) ∧ (((M 98 v3) + 1) < ((jx_up (jx_up (jx_up (jx_up M 94 ((v2 * 20) + (M 93 v2)) (M 97 v3)) 95 ((v2 * 20) + (M 93 v2)) ((v1 * 21) + v3)) 96 ((v2 * 20) + (M 93 v2)) (M 98 v3)) 93 v2 ((M 93 v2) + 1)) 93 ((M 87 ((v1 * 21) + v3)) * 7 + (M 88 ((v1 * 21) + v3)))) → (((-2147483648 : Int) ≤ ((M 87 ((v1 * 21) + v3)) * 7 + (M 88 ((v1 * 21) + v3))) * 20 ∧ ((M 87 ((v1 * 21) + v3)) * 7 + (M 88 ((v1 * 21) + v3))) * 20 ≤ 2147483647) ∧ (0 ≤ v3 ∧ v3 < 21) ∧ ((-2147483648 : Int) ≤ (((M 87 ((v1 * 21) + v3)) * 7 + (M 88 ((v1 * 21) + v3))) * 20) + (M 98 v3) ∧ (((M 87 ((v1 * 21) + v3)) * 7 + (M 88 ((v1 * 21) + v3))) * 20) + (M 98 v3) ≤ 2147483647) ∧ ((-2147483648 : Int) ≤ ((((M 87 ((v1 * 21) + v3)) * 7 + (M 88 ((v1 * 21) + v3))) * 20) + (M 98 v3)) + 1 ∧ ((((M 87 ((v1 * 21) + v3)) * 7 + (M 88 ((v1 * 21) + v3))) * 20) + (M 98 v3)) + 1 ≤ 2147483647) ∧ (0 ≤ (((((M 87 ((v1 * 21) + v3)) * 7 + (M 88 ((v1 * 21) + v3))) * 20) + (M 98 v3)) + 1) ∧ (((((M 87 ((v1 * 21) + v3)) * 7 + (M 88 ((v1 * 21) + v3))) * 20) + (M 98 v3)) + 1) < 2380) ∧ ((-2147483648 : Int) ≤ (((M 87 ((v1 * 21) + v3)) * 7 + (M 88 ((v1 * 21) + v3))) * 20) + (M 98 v3) ∧ (((M 87 ((v1 * 21) + v3)) * 7 + (M 88 ((v1 * 21) + v3))) * 20) + (M 98 v3) ≤ 2147483647) ∧ (0 ≤ ((((M 87 ((v1 * 21) + v3)) * 7 + (M 88 ((v1 * 21) + v3))) * 20) + (M 98 v3)) ∧ ((((M 87 ((v1 * 21) + v3)) * 7 + (M 88 ((v1 * 21) + v3))) * 20) + (M 98 v3)) < 2380) ∧ ((-2147483648 : Int) ≤ ((jx_up M 94 ((v2 * 20) + (M 93 v2)) (M 97 v3)) 94 (((((M 87 ((v1 * 21) + v3)) * 7 + (M 88 ((v1 * 21) + v3))) * 20) + (M 98 v3)) + 1)) - ((jx_up M 94 ((v2 * 20) + (M 93 v2)) (M 97 v3)) 94 ((((M 87 ((v1 * 21) + v3)) * 7 + (M 88 ((v1 * 21) + v3))) * 20) + (M 98 v3))) ∧ ((jx_up M 94 ((v2 * 20) + (M 93 v2)) (M 97 v3)) 94 (((((M 87 ((v1 * 21) + v3)) * 7 + (M 88 ((v1 * 21) + v3))) * 20) + (M 98 v3)) + 1)) - ((jx_up M 94 ((v2 * 20) + (M 93 v2)) (M 97 v3)) 94 ((((M 87 ((v1 * 21) + v3)) * 7 + (M 88 ((v1 * 21) + v3))) * 20) + (M 98 v3))) ≤ 2147483647) ∧ ((-2147483648 : Int) ≤ (M 97 v3) + (((jx_up M 94 ((v2 * 20) + (M 93 v2)) (M 97 v3)) 94 (((((M 87 ((v1 * 21) + v3)) * 7 + (M 88 ((v1 * 21) + v3))) * 20) + (M 98 v3)) + 1)) - ((jx_up M 94 ((v2 * 20) + (M 93 v2)) (M 97 v3)) 94 ((((M 87 ((v1 * 21) + v3)) * 7 + (M 88 ((v1 * 21) + v3))) * 20) + (M 98 v3)))) ∧ (M 97 v3) + (((jx_up M 94 ((v2 * 20) + (M 93 v2)) (M 97 v3)) 94 (((((M 87 ((v1 * 21) + v3)) * 7 + (M 88 ((v1 * 21) + v3))) * 20) + (M 98 v3)) + 1)) - ((jx_up M 94 ((v2 * 20) + (M 93 v2)) (M 97 v3)) 94 ((((M 87 ((v1 * 21) + v3)) * 7 + (M 88 ((v1 * 21) + v3))) * 20) + (M 98 v3)))) ≤ 2147483647) ∧ (0 ≤ v3 ∧ v3 < 21)) ∧ K none (jx_up (jx_up (jx_up (jx_up (jx_up (jx_up M 94 ((v2 * 20) + (M 93 v2)) (M 97 v3)) 95 ((v2 * 20) + (M 93 v2)) ((v1 * 21) + v3)) 96 ((v2 * 20) + (M 93 v2)) (M 98 v3)) 93 v2 ((M 93 v2) + 1)) 98 v3 ((M 98 v3) + 1)) 97 v3 ((M 97 v3) + (((jx_up M 94 ((v2 * 20) + (M 93 v2)) (M 97 v3)) 94 (((((M 87 ((v1 * 21) + v3)) * 7 + (M 88 ((v1 * 21) + v3))) * 20) + (M 98 v3)) + 1)) - ((jx_up M 94 ((v2 * 20) + (M 93 v2)) (M 97 v3)) 94 ((((M 87 ((v1 * 21) + v3)) * 7 + (M 88 ((v1 * 21) + v3))) * 20) + (M 98 v3))))))))) :
    X 0 [.inr 90, .inl v1, .inl v2, .inl v3, .inr 0, .inr 0, .inr 0, .inr 0, .inr 0] [] M := by
  obtain ⟨⟨g1, g2, g3, g4, g5, g6, g7, g8, g9, g10, g11, g12, g13, g14, g15, g16, g17, g18⟩, h36⟩ := h
  refine jk_load (pc := 0) hX 2 rfl rfl ?_
  refine jk_const (pc := 1) hX 20 rfl (by decide) ?_
  refine jk_mul (pc := 2) hX rfl g1 ?_
  refine jk_aload (pc := 3) hX 0 rfl rfl ?_
  refine jk_getR (pc := 4) hX 4 4 rfl rfl (r := 92) rfl ?_
  refine jk_load (pc := 5) hX 2 rfl rfl ?_
  refine jk_iald (pc := 6) hX 119 rfl rfl g2 ?_
  refine jk_add (pc := 7) hX rfl g3 ?_
  refine jk_store (pc := 8) hX 4 rfl (Nat.le_of_ble_eq_true rfl) (ls' := [.inr 90, .inl v1, .inl v2, .inl v3, .inl ((v2 * 20) + (M 93 v2)), .inr 0, .inr 0, .inr 0, .inr 0]) rfl ?_
  refine jk_load (pc := 9) hX 1 rfl rfl ?_
  refine jk_const (pc := 10) hX 21 rfl (by decide) ?_
  refine jk_mul (pc := 11) hX rfl g4 ?_
  refine jk_load (pc := 12) hX 3 rfl rfl ?_
  refine jk_add (pc := 13) hX rfl g5 ?_
  refine jk_store (pc := 14) hX 5 rfl (Nat.le_of_ble_eq_true rfl) (ls' := [.inr 90, .inl v1, .inl v2, .inl v3, .inl ((v2 * 20) + (M 93 v2)), .inl ((v1 * 21) + v3), .inr 0, .inr 0, .inr 0]) rfl ?_
  refine jk_aload (pc := 15) hX 0 rfl rfl ?_
  refine jk_getR (pc := 16) hX 4 9 rfl rfl (r := 97) rfl ?_
  refine jk_load (pc := 17) hX 3 rfl rfl ?_
  refine jk_iald (pc := 18) hX 21 rfl rfl g6 ?_
  refine jk_store (pc := 19) hX 6 rfl (Nat.le_of_ble_eq_true rfl) (ls' := [.inr 90, .inl v1, .inl v2, .inl v3, .inl ((v2 * 20) + (M 93 v2)), .inl ((v1 * 21) + v3), .inl (M 98 v3), .inr 0, .inr 0]) rfl ?_
  refine jk_aload (pc := 20) hX 0 rfl rfl ?_
  refine jk_getR (pc := 21) hX 4 5 rfl rfl (r := 93) rfl ?_
  refine jk_load (pc := 22) hX 4 rfl rfl ?_
  refine jk_aload (pc := 23) hX 0 rfl rfl ?_
  refine jk_getR (pc := 24) hX 4 8 rfl rfl (r := 96) rfl ?_
  refine jk_load (pc := 25) hX 3 rfl rfl ?_
  refine jk_iald (pc := 26) hX 21 rfl rfl g7 ?_
  refine jk_iast (pc := 27) hX 2380 rfl rfl g8 ?_
  refine jk_aload (pc := 28) hX 0 rfl rfl ?_
  refine jk_getR (pc := 29) hX 4 6 rfl rfl (r := 94) rfl ?_
  refine jk_load (pc := 30) hX 4 rfl rfl ?_
  refine jk_load (pc := 31) hX 5 rfl rfl ?_
  refine jk_iast (pc := 32) hX 2380 rfl rfl g9 ?_
  refine jk_aload (pc := 33) hX 0 rfl rfl ?_
  refine jk_getR (pc := 34) hX 4 7 rfl rfl (r := 95) rfl ?_
  refine jk_load (pc := 35) hX 4 rfl rfl ?_
  refine jk_load (pc := 36) hX 6 rfl rfl ?_
  refine jk_iast (pc := 37) hX 2380 rfl rfl g10 ?_
  refine jk_aload (pc := 38) hX 0 rfl rfl ?_
  refine jk_getR (pc := 39) hX 4 4 rfl rfl (r := 92) rfl ?_
  refine jk_load (pc := 40) hX 2 rfl rfl ?_
  refine jk_dup2 (pc := 41) hX rfl ?_
  refine jk_iald (pc := 42) hX 119 rfl rfl g11 (jx_vX ((jx_upc (by decide)).trans ((jx_upc (by decide)).trans (jx_upc (by decide)))) ?_)
  refine jk_const (pc := 43) hX 1 rfl (by decide) ?_
  refine jk_add (pc := 44) hX rfl g12 ?_
  refine jk_iast (pc := 45) hX 119 rfl rfl g13 ?_
  refine jk_aload (pc := 46) hX 0 rfl rfl ?_
  refine jk_getR (pc := 47) hX 4 1 rfl rfl (r := 82) rfl ?_
  refine jk_load (pc := 48) hX 5 rfl rfl ?_
  refine jk_cv (pc := 49) hX 15 1 2 rfl 83 [.inl ((v1 * 21) + v3)] [] rfl rfl rfl (Nat.le_of_ble_eq_true rfl) (sp_L_stateBehind d ((v1 * 21) + v3) (jx_up (jx_up (jx_up (jx_up M 94 ((v2 * 20) + (M 93 v2)) (M 97 v3)) 95 ((v2 * 20) + (M 93 v2)) ((v1 * 21) + v3)) 96 ((v2 * 20) + (M 93 v2)) (M 98 v3)) 93 v2 ((M 93 v2) + 1)) (by repeat (first | rw [jx_upc (by decide)] | rw [jx_cpc (by decide)]); exact g14) ?_)
  show X 50 [.inr 90, .inl v1, .inl v2, .inl v3, .inl ((v2 * 20) + (M 93 v2)), .inl ((v1 * 21) + v3), .inl (M 98 v3), .inr 0, .inr 0] [.inl (((jx_up (jx_up (jx_up (jx_up M 94 ((v2 * 20) + (M 93 v2)) (M 97 v3)) 95 ((v2 * 20) + (M 93 v2)) ((v1 * 21) + v3)) 96 ((v2 * 20) + (M 93 v2)) (M 98 v3)) 93 v2 ((M 93 v2) + 1)) 87 ((v1 * 21) + v3)) * 7 + ((jx_up (jx_up (jx_up (jx_up M 94 ((v2 * 20) + (M 93 v2)) (M 97 v3)) 95 ((v2 * 20) + (M 93 v2)) ((v1 * 21) + v3)) 96 ((v2 * 20) + (M 93 v2)) (M 98 v3)) 93 v2 ((M 93 v2) + 1)) 88 ((v1 * 21) + v3)))] (jx_up (jx_up (jx_up (jx_up M 94 ((v2 * 20) + (M 93 v2)) (M 97 v3)) 95 ((v2 * 20) + (M 93 v2)) ((v1 * 21) + v3)) 96 ((v2 * 20) + (M 93 v2)) (M 98 v3)) 93 v2 ((M 93 v2) + 1))
  refine jx_vX (show ((jx_up (jx_up (jx_up (jx_up M 94 ((v2 * 20) + (M 93 v2)) (M 97 v3)) 95 ((v2 * 20) + (M 93 v2)) ((v1 * 21) + v3)) 96 ((v2 * 20) + (M 93 v2)) (M 98 v3)) 93 v2 ((M 93 v2) + 1)) 87 ((v1 * 21) + v3)) * 7 + ((jx_up (jx_up (jx_up (jx_up M 94 ((v2 * 20) + (M 93 v2)) (M 97 v3)) 95 ((v2 * 20) + (M 93 v2)) ((v1 * 21) + v3)) 96 ((v2 * 20) + (M 93 v2)) (M 98 v3)) 93 v2 ((M 93 v2) + 1)) 88 ((v1 * 21) + v3)) = (M 87 ((v1 * 21) + v3)) * 7 + (M 88 ((v1 * 21) + v3)) by repeat (first | rw [jx_upc (by decide)] | rw [jx_cpc (by decide)])) ?_
  show X 50 [.inr 90, .inl v1, .inl v2, .inl v3, .inl ((v2 * 20) + (M 93 v2)), .inl ((v1 * 21) + v3), .inl (M 98 v3), .inr 0, .inr 0] [.inl ((M 87 ((v1 * 21) + v3)) * 7 + (M 88 ((v1 * 21) + v3)))] (jx_up (jx_up (jx_up (jx_up M 94 ((v2 * 20) + (M 93 v2)) (M 97 v3)) 95 ((v2 * 20) + (M 93 v2)) ((v1 * 21) + v3)) 96 ((v2 * 20) + (M 93 v2)) (M 98 v3)) 93 v2 ((M 93 v2) + 1))
  refine jk_store (pc := 50) hX 7 rfl (Nat.le_of_ble_eq_true rfl) (ls' := [.inr 90, .inl v1, .inl v2, .inl v3, .inl ((v2 * 20) + (M 93 v2)), .inl ((v1 * 21) + v3), .inl (M 98 v3), .inl ((M 87 ((v1 * 21) + v3)) * 7 + (M 88 ((v1 * 21) + v3))), .inr 0]) rfl ?_
  refine jk_aload (pc := 51) hX 0 rfl rfl ?_
  refine jk_getR (pc := 52) hX 4 9 rfl rfl (r := 97) rfl ?_
  refine jk_load (pc := 53) hX 3 rfl rfl ?_
  refine jk_load (pc := 54) hX 6 rfl rfl ?_
  refine jk_const (pc := 55) hX 1 rfl (by decide) ?_
  refine jk_add (pc := 56) hX rfl g15 ?_
  refine jk_iast (pc := 57) hX 21 rfl rfl g16 ?_
  refine jk_load (pc := 58) hX 6 rfl rfl ?_
  refine jk_const (pc := 59) hX 1 rfl (by decide) ?_
  refine jk_add (pc := 60) hX rfl g17 ?_
  refine jk_aload (pc := 61) hX 0 rfl rfl ?_
  refine jk_getR (pc := 62) hX 4 4 rfl rfl (r := 92) rfl ?_
  refine jk_load (pc := 63) hX 7 rfl rfl ?_
  refine jk_iald (pc := 64) hX 119 rfl rfl g18 (jx_vX (jx_upc (by decide)) ?_)
  refine jk_cge (pc := 65) hX 93 rfl (fun q34 => ?_) (fun q35 => ?_)
  · have h19 := h36.1 q34
    obtain ⟨g21, h22⟩ := h19
    refine jk_aload (pc := 93) hX 0 rfl rfl ?_
    refine jk_getR (pc := 94) hX 4 8 rfl rfl (r := 96) rfl ?_
    refine jk_load (pc := 95) hX 3 rfl rfl ?_
    refine jk_const (pc := 96) hX 1000000 rfl (by decide) ?_
    refine jk_iast (pc := 97) hX 21 rfl rfl g21 ?_
    exact jk_vret (pc := 98) hX rfl h22
  · have h20 := h36.2 q35
    obtain ⟨⟨g23, g24, g25, g26, g27, g28, g29, g30, g31, g32⟩, h33⟩ := h20
    refine jk_load (pc := 66) hX 7 rfl rfl ?_
    refine jk_const (pc := 67) hX 20 rfl (by decide) ?_
    refine jk_mul (pc := 68) hX rfl g23 ?_
    refine jk_store (pc := 69) hX 8 rfl (Nat.le_of_ble_eq_true rfl) (ls' := [.inr 90, .inl v1, .inl v2, .inl v3, .inl ((v2 * 20) + (M 93 v2)), .inl ((v1 * 21) + v3), .inl (M 98 v3), .inl ((M 87 ((v1 * 21) + v3)) * 7 + (M 88 ((v1 * 21) + v3))), .inl (((M 87 ((v1 * 21) + v3)) * 7 + (M 88 ((v1 * 21) + v3))) * 20)]) rfl ?_
    refine jk_aload (pc := 70) hX 0 rfl rfl ?_
    refine jk_getR (pc := 71) hX 4 8 rfl rfl (r := 96) rfl ?_
    refine jk_load (pc := 72) hX 3 rfl rfl ?_
    refine jk_dup2 (pc := 73) hX rfl ?_
    refine jk_iald (pc := 74) hX 21 rfl rfl g24 (jx_vX ((jx_upc (by decide)).trans ((jx_upc (by decide)).trans ((jx_upc (by decide)).trans ((jx_upc (by decide)).trans (jx_upc (by decide)))))) ?_)
    refine jk_aload (pc := 75) hX 0 rfl rfl ?_
    refine jk_getR (pc := 76) hX 4 5 rfl rfl (r := 93) rfl ?_
    refine jk_load (pc := 77) hX 8 rfl rfl ?_
    refine jk_load (pc := 78) hX 6 rfl rfl ?_
    refine jk_add (pc := 79) hX rfl g25 ?_
    refine jk_const (pc := 80) hX 1 rfl (by decide) ?_
    refine jk_add (pc := 81) hX rfl g26 ?_
    refine jk_iald (pc := 82) hX 2380 rfl rfl g27 (jx_vX ((jx_upc (by decide)).trans ((jx_upc (by decide)).trans ((jx_upc (by decide)).trans (jx_upc (by decide))))) ?_)
    refine jk_aload (pc := 83) hX 0 rfl rfl ?_
    refine jk_getR (pc := 84) hX 4 5 rfl rfl (r := 93) rfl ?_
    refine jk_load (pc := 85) hX 8 rfl rfl ?_
    refine jk_load (pc := 86) hX 6 rfl rfl ?_
    refine jk_add (pc := 87) hX rfl g28 ?_
    refine jk_iald (pc := 88) hX 2380 rfl rfl g29 (jx_vX ((jx_upc (by decide)).trans ((jx_upc (by decide)).trans ((jx_upc (by decide)).trans (jx_upc (by decide))))) ?_)
    refine jk_sub (pc := 89) hX rfl g30 ?_
    refine jk_add (pc := 90) hX rfl g31 ?_
    refine jk_iast (pc := 91) hX 21 rfl rfl g32 ?_
    refine jk_goto (pc := 92) hX 98 rfl ?_
    exact jk_vret (pc := 98) hX rfl h33
set_option maxHeartbeats 4000000 in
theorem bk_R_listState_0 {d : Nat} {K : jxK} {X : jxX} (hX : jx_clo jx_G1 (d + 3) (jx_call jx_G1 jx_T (d + 3)) kc_R_listState K X) (v1 : Int) (v2 : Int) (M : jxM)
    (h : (((-2147483648 : Int) ≤ v1 * 7 ∧ v1 * 7 ≤ 2147483647) ∧ ((-2147483648 : Int) ≤ (v1 * 7) + v2 ∧ (v1 * 7) + v2 ≤ 2147483647) ∧ (0 ≤ ((v1 * 7) + v2) ∧ ((v1 * 7) + v2) < 119)) ∧ (((M 91 ((v1 * 7) + v2)) < 1000000 → jx_call jx_G1 jx_T (d + 3) 28 [.inr 90, .inl v1, .inl v2] M (fun r M7 => r = none ∧ jx_call jx_G1 jx_T (d + 3) 30 [.inr 90, .inl v1, .inl ((v1 * 7) + v2)] M7 (fun r M10 => r = none ∧ X 23 [.inr 90, .inl v1, .inl v2, .inl ((v1 * 7) + v2), .inl 0, .inr 0] [] M10))) ∧ (1000000 ≤ (M 91 ((v1 * 7) + v2)) → K none M))) :
    X 0 [.inr 90, .inl v1, .inl v2, .inr 0, .inr 0, .inr 0] [] M := by
  obtain ⟨⟨g1, g2, g3⟩, h14⟩ := h
  refine jk_load (pc := 0) hX 1 rfl rfl ?_
  refine jk_const (pc := 1) hX 7 rfl (by decide) ?_
  refine jk_mul (pc := 2) hX rfl g1 ?_
  refine jk_load (pc := 3) hX 2 rfl rfl ?_
  refine jk_add (pc := 4) hX rfl g2 ?_
  refine jk_store (pc := 5) hX 3 rfl (Nat.le_of_ble_eq_true rfl) (ls' := [.inr 90, .inl v1, .inl v2, .inl ((v1 * 7) + v2), .inr 0, .inr 0]) rfl ?_
  refine jk_aload (pc := 6) hX 0 rfl rfl ?_
  refine jk_getR (pc := 7) hX 4 2 rfl rfl (r := 90) rfl ?_
  refine jk_load (pc := 8) hX 3 rfl rfl ?_
  refine jk_iald (pc := 9) hX 119 rfl rfl g3 ?_
  refine jk_const (pc := 10) hX 1000000 rfl (by decide) ?_
  refine jk_clt (pc := 11) hX 13 rfl (fun q12 => ?_) (fun q13 => ?_)
  · have h4 := h14.1 q12
    refine jk_aload (pc := 13) hX 0 rfl rfl ?_
    refine jk_load (pc := 14) hX 1 rfl rfl ?_
    refine jk_load (pc := 15) hX 2 rfl rfl ?_
    refine jk_cv (pc := 16) hX 28 2 4 rfl 90 [.inl v1, .inl v2] [] rfl rfl rfl (Nat.le_of_ble_eq_true rfl) (jx_mono (fun r M7 hr => ?_) h4)
    obtain ⟨rfl, h8⟩ := hr
    show X 17 [.inr 90, .inl v1, .inl v2, .inl ((v1 * 7) + v2), .inr 0, .inr 0] [] M7
    refine jk_aload (pc := 17) hX 0 rfl rfl ?_
    refine jk_load (pc := 18) hX 1 rfl rfl ?_
    refine jk_load (pc := 19) hX 3 rfl rfl ?_
    refine jk_cv (pc := 20) hX 30 2 4 rfl 90 [.inl v1, .inl ((v1 * 7) + v2)] [] rfl rfl rfl (Nat.le_of_ble_eq_true rfl) (jx_mono (fun r M10 hr => ?_) h8)
    obtain ⟨rfl, h11⟩ := hr
    show X 21 [.inr 90, .inl v1, .inl v2, .inl ((v1 * 7) + v2), .inr 0, .inr 0] [] M10
    refine jk_const (pc := 21) hX 0 rfl (by decide) ?_
    refine jk_store (pc := 22) hX 4 rfl (Nat.le_of_ble_eq_true rfl) (ls' := [.inr 90, .inl v1, .inl v2, .inl ((v1 * 7) + v2), .inl 0, .inr 0]) rfl ?_
    exact h11
  · have h5 := h14.2 q13
    exact jk_vret (pc := 12) hX rfl h5
set_option maxHeartbeats 4000000 in
theorem bk_R_listState_23 {d : Nat} {K : jxK} {X : jxX} (hX : jx_clo jx_G1 (d + 3) (jx_call jx_G1 jx_T (d + 3)) kc_R_listState K X) (v1 : Int) (v2 : Int) (v3 : Int) (v4 : Int) (M : jxM)
    (h : ((20 ≤ v4 → K none M) ∧ (v4 < 20 → ((((0 : Int) ≤ v1 ∧ v1 ≤ 16) ∧ (M 85 v1) ≤ 21)) ∧ ((0 ≤ (r_head M ((M 85 v1)).toNat) → jx_call jx_G1 jx_T (d + 3) 32 [.inr 90, .inl v1, .inl v3, .inl (r_head M ((M 85 v1)).toNat)] M (fun r M7 => r = none ∧ (((-2147483648 : Int) ≤ v4 + 1 ∧ v4 + 1 ≤ 2147483647)) ∧ X 23 [.inr 90, .inl v1, .inl v2, .inl v3, .inl (v4 + 1), .inr 0] [] M7)) ∧ ((r_head M ((M 85 v1)).toNat) < 0 → K none M))))) :
    X 23 [.inr 90, .inl v1, .inl v2, .inl v3, .inl v4, .inr 0] [] M := by
  refine jk_load (pc := 23) hX 4 rfl rfl ?_
  refine jk_const (pc := 24) hX 20 rfl (by decide) ?_
  refine jk_cge (pc := 25) hX 40 rfl (fun q14 => ?_) (fun q15 => ?_)
  · have h1 := h.1 q14
    exact jk_vret (pc := 40) hX rfl h1
  · have h2 := h.2 q15
    obtain ⟨g3, h13⟩ := h2
    refine jk_aload (pc := 26) hX 0 rfl rfl ?_
    refine jk_load (pc := 27) hX 1 rfl rfl ?_
    refine jk_cv (pc := 28) hX 31 1 4 rfl 90 [.inl v1] [] rfl rfl rfl (Nat.le_of_ble_eq_true rfl) (sp_R_cheapestHead (d + 2) v1 M g3 ?_)
    show X 29 [.inr 90, .inl v1, .inl v2, .inl v3, .inl v4, .inr 0] [.inl (r_head M ((M 85 v1)).toNat)] M
    refine jk_store (pc := 29) hX 5 rfl (Nat.le_of_ble_eq_true rfl) (ls' := [.inr 90, .inl v1, .inl v2, .inl v3, .inl v4, .inl (r_head M ((M 85 v1)).toNat)]) rfl ?_
    refine jk_load (pc := 30) hX 5 rfl rfl ?_
    refine jk_zge (pc := 31) hX 33 rfl (fun q11 => ?_) (fun q12 => ?_)
    · have h4 := h13.1 q11
      refine jk_aload (pc := 33) hX 0 rfl rfl ?_
      refine jk_load (pc := 34) hX 1 rfl rfl ?_
      refine jk_load (pc := 35) hX 3 rfl rfl ?_
      refine jk_load (pc := 36) hX 5 rfl rfl ?_
      refine jk_cv (pc := 37) hX 32 3 4 rfl 90 [.inl v1, .inl v3, .inl (r_head M ((M 85 v1)).toNat)] [] rfl rfl rfl (Nat.le_of_ble_eq_true rfl) (jx_mono (fun r M7 hr => ?_) h4)
      obtain ⟨rfl, h8⟩ := hr
      show X 38 [.inr 90, .inl v1, .inl v2, .inl v3, .inl v4, .inl (r_head M ((M 85 v1)).toNat)] [] M7
      obtain ⟨g9, h10⟩ := h8
      refine jk_iinc (pc := 38) hX 4 1 rfl rfl g9 (ls' := [.inr 90, .inl v1, .inl v2, .inl v3, .inl (v4 + 1), .inl (r_head M ((M 85 v1)).toNat)]) rfl ?_
      refine jk_goto (pc := 39) hX 23 rfl ?_
      refine jk_forget (pc := 23) hX 5 (ls' := [.inr 90, .inl v1, .inl v2, .inl v3, .inl (v4 + 1), .inr 0]) rfl ?_
      exact h10
    · have h5 := h13.2 q12
      refine jk_goto (pc := 32) hX 40 rfl ?_
      exact jk_vret (pc := 40) hX rfl h5
set_option maxHeartbeats 4000000 in
theorem bk_R_build_0 {d : Nat} {K : jxK} {X : jxX} (hX : jx_clo jx_G1 (d + 4) (jx_call jx_G1 jx_T (d + 4)) kc_R_build K X) (M : jxM)
    (h : jx_call jx_G1 jx_T (d + 4) 22 [.inr 90] M (fun r M2 => r = none ∧ jx_call jx_G1 jx_T (d + 4) 24 [.inr 90] M2 (fun r M5 => r = none ∧ jx_call jx_G1 jx_T (d + 4) 26 [.inr 90] M5 (fun r M8 => r = none ∧ (((-2147483648 : Int) ≤ (M8 4 5) - 1 ∧ (M8 4 5) - 1 ≤ 2147483647)) ∧ X 12 [.inr 90, .inl ((M8 4 5) - 1), .inr 0] [] M8)))) :
    X 0 [.inr 90, .inr 0, .inr 0] [] M := by
  refine jk_aload (pc := 0) hX 0 rfl rfl ?_
  refine jk_cv (pc := 1) hX 22 0 4 rfl 90 [] [] rfl rfl rfl (Nat.le_of_ble_eq_true rfl) (jx_mono (fun r M2 hr => ?_) h)
  obtain ⟨rfl, h3⟩ := hr
  show X 2 [.inr 90, .inr 0, .inr 0] [] M2
  refine jk_aload (pc := 2) hX 0 rfl rfl ?_
  refine jk_cv (pc := 3) hX 24 0 4 rfl 90 [] [] rfl rfl rfl (Nat.le_of_ble_eq_true rfl) (jx_mono (fun r M5 hr => ?_) h3)
  obtain ⟨rfl, h6⟩ := hr
  show X 4 [.inr 90, .inr 0, .inr 0] [] M5
  refine jk_aload (pc := 4) hX 0 rfl rfl ?_
  refine jk_cv (pc := 5) hX 26 0 4 rfl 90 [] [] rfl rfl rfl (Nat.le_of_ble_eq_true rfl) (jx_mono (fun r M8 hr => ?_) h6)
  obtain ⟨rfl, h9⟩ := hr
  show X 6 [.inr 90, .inr 0, .inr 0] [] M8
  obtain ⟨g10, h11⟩ := h9
  refine jk_aload (pc := 6) hX 0 rfl rfl ?_
  refine jk_getR (pc := 7) hX 4 0 rfl rfl (r := 3) rfl ?_
  refine jk_getI (pc := 8) hX 3 5 rfl rfl rfl ?_
  refine jk_const (pc := 9) hX 1 rfl (by decide) ?_
  refine jk_sub (pc := 10) hX rfl g10 ?_
  refine jk_store (pc := 11) hX 1 rfl (Nat.le_of_ble_eq_true rfl) (ls' := [.inr 90, .inl ((M8 4 5) - 1), .inr 0]) rfl ?_
  exact h11
set_option maxHeartbeats 4000000 in
theorem bk_R_build_12 {d : Nat} {K : jxK} {X : jxX} (hX : jx_clo jx_G1 (d + 4) (jx_call jx_G1 jx_T (d + 4)) kc_R_build K X) (v1 : Int) (M : jxM)
    (h : ((v1 < 0 → K none M) ∧ (0 ≤ v1 → X 16 [.inr 90, .inl v1, .inl 0] [] M))) :
    X 12 [.inr 90, .inl v1, .inr 0] [] M := by
  refine jk_load (pc := 12) hX 1 rfl rfl ?_
  refine jk_zlt (pc := 13) hX 27 rfl (fun q3 => ?_) (fun q4 => ?_)
  · have h1 := h.1 q3
    exact jk_vret (pc := 27) hX rfl h1
  · have h2 := h.2 q4
    refine jk_const (pc := 14) hX 0 rfl (by decide) ?_
    refine jk_store (pc := 15) hX 2 rfl (Nat.le_of_ble_eq_true rfl) (ls' := [.inr 90, .inl v1, .inl 0]) rfl ?_
    exact h2
set_option maxHeartbeats 4000000 in
theorem bk_R_build_16 {d : Nat} {K : jxK} {X : jxX} (hX : jx_clo jx_G1 (d + 4) (jx_call jx_G1 jx_T (d + 4)) kc_R_build K X) (v1 : Int) (v2 : Int) (M : jxM)
    (h : ((7 ≤ v2 → (((-2147483648 : Int) ≤ v1 + (-1) ∧ v1 + (-1) ≤ 2147483647)) ∧ X 12 [.inr 90, .inl (v1 + (-1)), .inr 0] [] M) ∧ (v2 < 7 → jx_call jx_G1 jx_T (d + 4) 27 [.inr 90, .inl v1, .inl v2] M (fun r M6 => r = none ∧ (((-2147483648 : Int) ≤ v2 + 1 ∧ v2 + 1 ≤ 2147483647)) ∧ X 16 [.inr 90, .inl v1, .inl (v2 + 1)] [] M6)))) :
    X 16 [.inr 90, .inl v1, .inl v2] [] M := by
  refine jk_load (pc := 16) hX 2 rfl rfl ?_
  refine jk_const (pc := 17) hX 7 rfl (by decide) ?_
  refine jk_cge (pc := 18) hX 25 rfl (fun q10 => ?_) (fun q11 => ?_)
  · have h1 := h.1 q10
    obtain ⟨g3, h4⟩ := h1
    refine jk_iinc (pc := 25) hX 1 (-1) rfl rfl g3 (ls' := [.inr 90, .inl (v1 + (-1)), .inl v2]) rfl ?_
    refine jk_goto (pc := 26) hX 12 rfl ?_
    refine jk_forget (pc := 12) hX 2 (ls' := [.inr 90, .inl (v1 + (-1)), .inr 0]) rfl ?_
    exact h4
  · have h2 := h.2 q11
    refine jk_aload (pc := 19) hX 0 rfl rfl ?_
    refine jk_load (pc := 20) hX 1 rfl rfl ?_
    refine jk_load (pc := 21) hX 2 rfl rfl ?_
    refine jk_cv (pc := 22) hX 27 2 4 rfl 90 [.inl v1, .inl v2] [] rfl rfl rfl (Nat.le_of_ble_eq_true rfl) (jx_mono (fun r M6 hr => ?_) h2)
    obtain ⟨rfl, h7⟩ := hr
    show X 23 [.inr 90, .inl v1, .inl v2] [] M6
    obtain ⟨g8, h9⟩ := h7
    refine jk_iinc (pc := 23) hX 2 1 rfl rfl g8 (ls' := [.inr 90, .inl v1, .inl (v2 + 1)]) rfl ?_
    refine jk_goto (pc := 24) hX 16 rfl ?_
    exact h9
