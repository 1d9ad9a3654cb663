set_option maxHeartbeats 4000000 in
theorem bk_R_leastThroughEntry_0 {d : Nat} {K : jxK} {X : jxX} (hX : jx_clo jx_G1 (d + 3) (jx_call jx_G1 jx_T (d + 3)) kc_R_leastThroughEntry K X) (v1 : Int) (v2 : Int) (M : jxM)
    (h : X 2 [.inr 90, .inl v1, .inl v2, .inl 0, .inr 0] [] M) :
    X 0 [.inr 90, .inl v1, .inl v2, .inr 0, .inr 0] [] M := by
  refine jk_const (pc := 0) hX 0 rfl (by decide) ?_
  refine jk_store (pc := 1) hX 3 rfl (Nat.le_of_ble_eq_true rfl) (ls' := [.inr 90, .inl v1, .inl v2, .inl 0, .inr 0]) rfl ?_
  exact h
set_option maxHeartbeats 4000000 in
theorem bk_R_leastThroughEntry_2 {d : Nat} {K : jxK} {X : jxX} (hX : jx_clo jx_G1 (d + 3) (jx_call jx_G1 jx_T (d + 3)) kc_R_leastThroughEntry K X) (v1 : Int) (v2 : Int) (v3 : Int) (M : jxM)
    (h : ((0 ≤ v2 ∧ v2 < 17)) ∧ (((M 85 v2) ≤ v3 → K (some (.inl 1000000)) M) ∧ (v3 < (M 85 v2) → (((-2147483648 : Int) ≤ v2 * 21 ∧ v2 * 21 ≤ 2147483647) ∧ ((-2147483648 : Int) ≤ (v2 * 21) + v3 ∧ (v2 * 21) + v3 ≤ 2147483647) ∧ (0 ≤ ((v2 * 21) + v3) ∧ ((v2 * 21) + v3) < 357)) ∧ (((M 86 ((v2 * 21) + v3)) ≠ v1 → (((-2147483648 : Int) ≤ v3 + 1 ∧ v3 + 1 ≤ 2147483647)) ∧ X 2 [.inr 90, .inl v1, .inl v2, .inl (v3 + 1), .inr 0] [] M) ∧ ((M 86 ((v2 * 21) + v3)) = v1 → ((((0 : Int) ≤ v2 ∧ v2 ≤ 16) ∧ ((0 : Int) ≤ ((v2 * 21) + v3) ∧ ((v2 * 21) + v3) < 357) ∧ ((0 : Int) ≤ (M 87 ((v2 * 21) + v3)) ∧ (M 87 ((v2 * 21) + v3)) ≤ 16) ∧ ((0 : Int) ≤ (M 88 ((v2 * 21) + v3)) ∧ (M 88 ((v2 * 21) + v3)) ≤ 6) ∧ ((0 : Int) ≤ (M 89 ((v2 * 21) + v3)) ∧ (M 89 ((v2 * 21) + v3)) ≤ 9999) ∧ (∀ x, (0 : Int) ≤ x → x < 119 → (0 : Int) ≤ M 91 x ∧ M 91 x ≤ 1000000) ∧ (∀ x, (0 : Int) ≤ x → x < 49 → (0 : Int) ≤ M 12 x ∧ M 12 x ≤ 99) ∧ (0 : Int) ≤ r_from M ((M 87 ((v2 * 21) + v3)) * 7 + (M 88 ((v2 * 21) + v3))) ∧ r_from M ((M 87 ((v2 * 21) + v3)) * 7 + (M 88 ((v2 * 21) + v3))) ≤ 1000000)) ∧ K (some (.inl (min 1000000 (r_thr M v2 ((v2 * 21) + v3))))) M))))) :
    X 2 [.inr 90, .inl v1, .inl v2, .inl v3, .inr 0] [] M := by
  obtain ⟨g1, h18⟩ := h
  refine jk_load (pc := 2) hX 3 rfl rfl ?_
  refine jk_aload (pc := 3) hX 0 rfl rfl ?_
  refine jk_getR (pc := 4) hX 4 1 rfl rfl (r := 82) rfl ?_
  refine jk_getR (pc := 5) hX 2 2 rfl rfl (r := 84) rfl ?_
  refine jk_load (pc := 6) hX 2 rfl rfl ?_
  refine jk_iald (pc := 7) hX 17 rfl rfl g1 ?_
  refine jk_cge (pc := 8) hX 31 rfl (fun q16 => ?_) (fun q17 => ?_)
  · have h2 := h18.1 q16
    refine jk_const (pc := 31) hX 1000000 rfl (by decide) ?_
    exact jk_iret (pc := 32) hX rfl h2
  · have h3 := h18.2 q17
    obtain ⟨⟨g4, g5, g6⟩, h15⟩ := h3
    refine jk_load (pc := 9) hX 2 rfl rfl ?_
    refine jk_const (pc := 10) hX 21 rfl (by decide) ?_
    refine jk_mul (pc := 11) hX rfl g4 ?_
    refine jk_load (pc := 12) hX 3 rfl rfl ?_
    refine jk_add (pc := 13) hX rfl g5 ?_
    refine jk_store (pc := 14) hX 4 rfl (Nat.le_of_ble_eq_true rfl) (ls' := [.inr 90, .inl v1, .inl v2, .inl v3, .inl ((v2 * 21) + v3)]) rfl ?_
    refine jk_aload (pc := 15) hX 0 rfl rfl ?_
    refine jk_getR (pc := 16) hX 4 1 rfl rfl (r := 82) rfl ?_
    refine jk_getR (pc := 17) hX 2 3 rfl rfl (r := 85) rfl ?_
    refine jk_load (pc := 18) hX 4 rfl rfl ?_
    refine jk_iald (pc := 19) hX 357 rfl rfl g6 ?_
    refine jk_load (pc := 20) hX 1 rfl rfl ?_
    refine jk_cne (pc := 21) hX 29 rfl (fun q13 => ?_) (fun q14 => ?_)
    · have h7 := h15.1 q13
      obtain ⟨g9, h10⟩ := h7
      refine jk_iinc (pc := 29) hX 3 1 rfl rfl g9 (ls' := [.inr 90, .inl v1, .inl v2, .inl (v3 + 1), .inl ((v2 * 21) + v3)]) rfl ?_
      refine jk_goto (pc := 30) hX 2 rfl ?_
      refine jk_forget (pc := 2) hX 4 (ls' := [.inr 90, .inl v1, .inl v2, .inl (v3 + 1), .inr 0]) rfl ?_
      exact h10
    · have h8 := h15.2 q14
      obtain ⟨g11, h12⟩ := h8
      refine jk_const (pc := 22) hX 1000000 rfl (by decide) ?_
      refine jk_aload (pc := 23) hX 0 rfl rfl ?_
      refine jk_load (pc := 24) hX 2 rfl rfl ?_
      refine jk_load (pc := 25) hX 4 rfl rfl ?_
      refine jk_cv (pc := 26) hX 39 2 4 rfl 90 [.inl v2, .inl ((v2 * 21) + v3)] [.inl 1000000] rfl rfl rfl (Nat.le_of_ble_eq_true rfl) (sp_R_leastThroughSlot d v2 ((v2 * 21) + v3) M g11 ?_)
      show X 27 [.inr 90, .inl v1, .inl v2, .inl v3, .inl ((v2 * 21) + v3)] [.inl (r_thr M v2 ((v2 * 21) + v3)), .inl 1000000] M
      refine jk_min (pc := 27) hX rfl (by omega) (Nat.le_of_ble_eq_true rfl) ?_
      exact jk_iret (pc := 28) hX rfl h12
set_option maxHeartbeats 4000000 in
theorem bk_R_leastEndingAt_0 {d : Nat} {K : jxK} {X : jxX} (hX : jx_clo jx_G1 (d + 1) (jx_call jx_G1 jx_T (d + 1)) kc_R_leastEndingAt K X) (v1 : Int) (M : jxM)
    (h : X 4 [.inr 90, .inl v1, .inl 1000000, .inl 0, .inr 0] [] M) :
    X 0 [.inr 90, .inl v1, .inr 0, .inr 0, .inr 0] [] M := by
  refine jk_const (pc := 0) hX 1000000 rfl (by decide) ?_
  refine jk_store (pc := 1) hX 2 rfl (Nat.le_of_ble_eq_true rfl) (ls' := [.inr 90, .inl v1, .inl 1000000, .inr 0, .inr 0]) rfl ?_
  refine jk_const (pc := 2) hX 0 rfl (by decide) ?_
  refine jk_store (pc := 3) hX 3 rfl (Nat.le_of_ble_eq_true rfl) (ls' := [.inr 90, .inl v1, .inl 1000000, .inl 0, .inr 0]) rfl ?_
  exact h
set_option maxHeartbeats 4000000 in
theorem bk_R_leastEndingAt_4 {d : Nat} {K : jxK} {X : jxX} (hX : jx_clo jx_G1 (d + 1) (jx_call jx_G1 jx_T (d + 1)) kc_R_leastEndingAt K X) (v1 : Int) (v2 : Int) (v3 : Int) (M : jxM)
    (h : ((7 ≤ v3 → K (some (.inl v2)) M) ∧ (v3 < 7 → (((-2147483648 : Int) ≤ v1 * 7 ∧ v1 * 7 ≤ 2147483647) ∧ ((-2147483648 : Int) ≤ (v1 * 7) + v3 ∧ (v1 * 7) + v3 ≤ 2147483647) ∧ (0 ≤ ((v1 * 7) + v3) ∧ ((v1 * 7) + v3) < 119) ∧ ((0 : Int) ≤ ((v1 * 7) + v3) ∧ ((v1 * 7) + v3) < 119) ∧ ((-2147483648 : Int) ≤ (M 91 ((v1 * 7) + v3)) + (r_from M ((v1 * 7) + v3)) ∧ (M 91 ((v1 * 7) + v3)) + (r_from M ((v1 * 7) + v3)) ≤ 2147483647) ∧ ((-2147483648 : Int) ≤ v3 + 1 ∧ v3 + 1 ≤ 2147483647)) ∧ X 4 [.inr 90, .inl v1, .inl (min v2 ((M 91 ((v1 * 7) + v3)) + (r_from M ((v1 * 7) + v3)))), .inl (v3 + 1), .inr 0] [] M))) :
    X 4 [.inr 90, .inl v1, .inl v2, .inl v3, .inr 0] [] M := by
  refine jk_load (pc := 4) hX 3 rfl rfl ?_
  refine jk_const (pc := 5) hX 7 rfl (by decide) ?_
  refine jk_cge (pc := 6) hX 26 rfl (fun q10 => ?_) (fun q11 => ?_)
  · have h1 := h.1 q10
    refine jk_load (pc := 26) hX 2 rfl rfl ?_
    exact jk_iret (pc := 27) hX rfl h1
  · have h2 := h.2 q11
    obtain ⟨⟨g3, g4, g5, g6, g7, g8⟩, h9⟩ := h2
    refine jk_load (pc := 7) hX 1 rfl rfl ?_
    refine jk_const (pc := 8) hX 7 rfl (by decide) ?_
    refine jk_mul (pc := 9) hX rfl g3 ?_
    refine jk_load (pc := 10) hX 3 rfl rfl ?_
    refine jk_add (pc := 11) hX rfl g4 ?_
    refine jk_store (pc := 12) hX 4 rfl (Nat.le_of_ble_eq_true rfl) (ls' := [.inr 90, .inl v1, .inl v2, .inl v3, .inl ((v1 * 7) + v3)]) rfl ?_
    refine jk_load (pc := 13) hX 2 rfl rfl ?_
    refine jk_aload (pc := 14) hX 0 rfl rfl ?_
    refine jk_getR (pc := 15) hX 4 2 rfl rfl (r := 90) rfl ?_
    refine jk_load (pc := 16) hX 4 rfl rfl ?_
    refine jk_iald (pc := 17) hX 119 rfl rfl g5 ?_
    refine jk_aload (pc := 18) hX 0 rfl rfl ?_
    refine jk_load (pc := 19) hX 4 rfl rfl ?_
    refine jk_cv (pc := 20) hX 29 1 4 rfl 90 [.inl ((v1 * 7) + v3)] [.inl (M 91 ((v1 * 7) + v3)), .inl v2] rfl rfl rfl (Nat.le_of_ble_eq_true rfl) (sp_R_leastFrom d ((v1 * 7) + v3) M g6 ?_)
    show X 21 [.inr 90, .inl v1, .inl v2, .inl v3, .inl ((v1 * 7) + v3)] [.inl (r_from M ((v1 * 7) + v3)), .inl (M 91 ((v1 * 7) + v3)), .inl v2] M
    refine jk_add (pc := 21) hX rfl g7 ?_
    refine jk_min (pc := 22) hX rfl (by omega) (Nat.le_of_ble_eq_true rfl) ?_
    refine jk_store (pc := 23) hX 2 rfl (Nat.le_of_ble_eq_true rfl) (ls' := [.inr 90, .inl v1, .inl (min v2 ((M 91 ((v1 * 7) + v3)) + (r_from M ((v1 * 7) + v3)))), .inl v3, .inl ((v1 * 7) + v3)]) rfl ?_
    refine jk_iinc (pc := 24) hX 3 1 rfl rfl g8 (ls' := [.inr 90, .inl v1, .inl (min v2 ((M 91 ((v1 * 7) + v3)) + (r_from M ((v1 * 7) + v3)))), .inl (v3 + 1), .inl ((v1 * 7) + v3)]) rfl ?_
    refine jk_goto (pc := 25) hX 4 rfl ?_
    refine jk_forget (pc := 4) hX 4 (ls' := [.inr 90, .inl v1, .inl (min v2 ((M 91 ((v1 * 7) + v3)) + (r_from M ((v1 * 7) + v3)))), .inl (v3 + 1), .inr 0]) rfl ?_
    exact h9
set_option maxHeartbeats 4000000 in
theorem bk_R_leastCrossing_0 {d : Nat} {K : jxK} {X : jxX} (hX : jx_clo jx_G1 (d + 3) (jx_call jx_G1 jx_T (d + 3)) kc_R_leastCrossing K X) (v1 : Int) (M : jxM)
    (h : X 4 [.inr 90, .inl v1, .inl 1000000, .inl 0, .inr 0, .inr 0] [] M) :
    X 0 [.inr 90, .inl v1, .inr 0, .inr 0, .inr 0, .inr 0] [] M := by
  refine jk_const (pc := 0) hX 1000000 rfl (by decide) ?_
  refine jk_store (pc := 1) hX 2 rfl (Nat.le_of_ble_eq_true rfl) (ls' := [.inr 90, .inl v1, .inl 1000000, .inr 0, .inr 0, .inr 0]) rfl ?_
  refine jk_const (pc := 2) hX 0 rfl (by decide) ?_
  refine jk_store (pc := 3) hX 3 rfl (Nat.le_of_ble_eq_true rfl) (ls' := [.inr 90, .inl v1, .inl 1000000, .inl 0, .inr 0, .inr 0]) rfl ?_
  exact h
set_option maxHeartbeats 4000000 in
theorem bk_R_leastCrossing_4 {d : Nat} {K : jxK} {X : jxX} (hX : jx_clo jx_G1 (d + 3) (jx_call jx_G1 jx_T (d + 3)) kc_R_leastCrossing K X) (v1 : Int) (v2 : Int) (v3 : Int) (M : jxM)
    (h : ((v1 ≤ v3 → K (some (.inl v2)) M) ∧ (v3 < v1 → X 9 [.inr 90, .inl v1, .inl v2, .inl v3, .inl 0, .inr 0] [] M))) :
    X 4 [.inr 90, .inl v1, .inl v2, .inl v3, .inr 0, .inr 0] [] M := by
  refine jk_load (pc := 4) hX 3 rfl rfl ?_
  refine jk_load (pc := 5) hX 1 rfl rfl ?_
  refine jk_cge (pc := 6) hX 40 rfl (fun q3 => ?_) (fun q4 => ?_)
  · have h1 := h.1 q3
    refine jk_load (pc := 40) hX 2 rfl rfl ?_
    exact jk_iret (pc := 41) hX rfl h1
  · have h2 := h.2 q4
    refine jk_const (pc := 7) hX 0 rfl (by decide) ?_
    refine jk_store (pc := 8) hX 4 rfl (Nat.le_of_ble_eq_true rfl) (ls' := [.inr 90, .inl v1, .inl v2, .inl v3, .inl 0, .inr 0]) rfl ?_
    exact h2
set_option maxHeartbeats 4000000 in
theorem bk_R_leastCrossing_9 {d : Nat} {K : jxK} {X : jxX} (hX : jx_clo jx_G1 (d + 3) (jx_call jx_G1 jx_T (d + 3)) kc_R_leastCrossing K X) (v1 : Int) (v2 : Int) (v3 : Int) (v4 : Int) (M : jxM)
    (h : ((0 ≤ v3 ∧ v3 < 17)) ∧ (((M 85 v3) ≤ v4 → (((-2147483648 : Int) ≤ v3 + 1 ∧ v3 + 1 ≤ 2147483647)) ∧ X 4 [.inr 90, .inl v1, .inl v2, .inl (v3 + 1), .inr 0, .inr 0] [] M) ∧ (v4 < (M 85 v3) → (((-2147483648 : Int) ≤ v3 * 21 ∧ v3 * 21 ≤ 2147483647) ∧ ((-2147483648 : Int) ≤ (v3 * 21) + v4 ∧ (v3 * 21) + v4 ≤ 2147483647) ∧ (0 ≤ ((v3 * 21) + v4) ∧ ((v3 * 21) + v4) < 357)) ∧ (((M 87 ((v3 * 21) + v4)) ≤ v1 → (((-2147483648 : Int) ≤ v4 + 1 ∧ v4 + 1 ≤ 2147483647)) ∧ X 9 [.inr 90, .inl v1, .inl v2, .inl v3, .inl (v4 + 1), .inr 0] [] M) ∧ (v1 < (M 87 ((v3 * 21) + v4)) → ((((0 : Int) ≤ v3 ∧ v3 ≤ 16) ∧ ((0 : Int) ≤ ((v3 * 21) + v4) ∧ ((v3 * 21) + v4) < 357) ∧ ((0 : Int) ≤ (M 87 ((v3 * 21) + v4)) ∧ (M 87 ((v3 * 21) + v4)) ≤ 16) ∧ ((0 : Int) ≤ (M 88 ((v3 * 21) + v4)) ∧ (M 88 ((v3 * 21) + v4)) ≤ 6) ∧ ((0 : Int) ≤ (M 89 ((v3 * 21) + v4)) ∧ (M 89 ((v3 * 21) + v4)) ≤ 9999) ∧ (∀ x, (0 : Int) ≤ x → x < 119 → (0 : Int) ≤ M 91 x ∧ M 91 x ≤ 1000000) ∧ (∀ x, (0 : Int) ≤ x → x < 49 → (0 : Int) ≤ M 12 x ∧ M 12 x ≤ 99) ∧ (0 : Int) ≤ r_from M ((M 87 ((v3 * 21) + v4)) * 7 + (M 88 ((v3 * 21) + v4))) ∧ r_from M ((M 87 ((v3 * 21) + v4)) * 7 + (M 88 ((v3 * 21) + v4))) ≤ 1000000) ∧ ((-2147483648 : Int) ≤ v4 + 1 ∧ v4 + 1 ≤ 2147483647)) ∧ X 9 [.inr 90, .inl v1, .inl (min v2 (r_thr M v3 ((v3 * 21) + v4))), .inl v3, .inl (v4 + 1), .inr 0] [] M))))) :
    X 9 [.inr 90, .inl v1, .inl v2, .inl v3, .inl v4, .inr 0] [] M := by
  obtain ⟨g1, h21⟩ := h
  refine jk_load (pc := 9) hX 4 rfl rfl ?_
  refine jk_aload (pc := 10) hX 0 rfl rfl ?_
  refine jk_getR (pc := 11) hX 4 1 rfl rfl (r := 82) rfl ?_
  refine jk_getR (pc := 12) hX 2 2 rfl rfl (r := 84) rfl ?_
  refine jk_load (pc := 13) hX 3 rfl rfl ?_
  refine jk_iald (pc := 14) hX 17 rfl rfl g1 ?_
  refine jk_cge (pc := 15) hX 38 rfl (fun q19 => ?_) (fun q20 => ?_)
  · have h2 := h21.1 q19
    obtain ⟨g4, h5⟩ := h2
    refine jk_iinc (pc := 38) hX 3 1 rfl rfl g4 (ls' := [.inr 90, .inl v1, .inl v2, .inl (v3 + 1), .inl v4, .inr 0]) rfl ?_
    refine jk_goto (pc := 39) hX 4 rfl ?_
    refine jk_forget (pc := 4) hX 4 (ls' := [.inr 90, .inl v1, .inl v2, .inl (v3 + 1), .inr 0, .inr 0]) rfl ?_
    exact h5
  · have h3 := h21.2 q20
    obtain ⟨⟨g6, g7, g8⟩, h18⟩ := h3
    refine jk_load (pc := 16) hX 3 rfl rfl ?_
    refine jk_const (pc := 17) hX 21 rfl (by decide) ?_
    refine jk_mul (pc := 18) hX rfl g6 ?_
    refine jk_load (pc := 19) hX 4 rfl rfl ?_
    refine jk_add (pc := 20) hX rfl g7 ?_
    refine jk_store (pc := 21) hX 5 rfl (Nat.le_of_ble_eq_true rfl) (ls' := [.inr 90, .inl v1, .inl v2, .inl v3, .inl v4, .inl ((v3 * 21) + v4)]) rfl ?_
    refine jk_aload (pc := 22) hX 0 rfl rfl ?_
    refine jk_getR (pc := 23) hX 4 1 rfl rfl (r := 82) rfl ?_
    refine jk_getR (pc := 24) hX 2 4 rfl rfl (r := 86) rfl ?_
    refine jk_load (pc := 25) hX 5 rfl rfl ?_
    refine jk_iald (pc := 26) hX 357 rfl rfl g8 ?_
    refine jk_load (pc := 27) hX 1 rfl rfl ?_
    refine jk_cle (pc := 28) hX 36 rfl (fun q16 => ?_) (fun q17 => ?_)
    · have h9 := h18.1 q16
      obtain ⟨g11, h12⟩ := h9
      refine jk_iinc (pc := 36) hX 4 1 rfl rfl g11 (ls' := [.inr 90, .inl v1, .inl v2, .inl v3, .inl (v4 + 1), .inl ((v3 * 21) + v4)]) rfl ?_
      refine jk_goto (pc := 37) hX 9 rfl ?_
      refine jk_forget (pc := 9) hX 5 (ls' := [.inr 90, .inl v1, .inl v2, .inl v3, .inl (v4 + 1), .inr 0]) rfl ?_
      exact h12
    · have h10 := h18.2 q17
      obtain ⟨⟨g13, g14⟩, h15⟩ := h10
      refine jk_load (pc := 29) hX 2 rfl rfl ?_
      refine jk_aload (pc := 30) hX 0 rfl rfl ?_
      refine jk_load (pc := 31) hX 3 rfl rfl ?_
      refine jk_load (pc := 32) hX 5 rfl rfl ?_
      refine jk_cv (pc := 33) hX 39 2 4 rfl 90 [.inl v3, .inl ((v3 * 21) + v4)] [.inl v2] rfl rfl rfl (Nat.le_of_ble_eq_true rfl) (sp_R_leastThroughSlot d v3 ((v3 * 21) + v4) M g13 ?_)
      show X 34 [.inr 90, .inl v1, .inl v2, .inl v3, .inl v4, .inl ((v3 * 21) + v4)] [.inl (r_thr M v3 ((v3 * 21) + v4)), .inl v2] M
      refine jk_min (pc := 34) hX rfl (by omega) (Nat.le_of_ble_eq_true rfl) ?_
      refine jk_store (pc := 35) hX 2 rfl (Nat.le_of_ble_eq_true rfl) (ls' := [.inr 90, .inl v1, .inl (min v2 (r_thr M v3 ((v3 * 21) + v4))), .inl v3, .inl v4, .inl ((v3 * 21) + v4)]) rfl ?_
      refine jk_iinc (pc := 36) hX 4 1 rfl rfl g14 (ls' := [.inr 90, .inl v1, .inl (min v2 (r_thr M v3 ((v3 * 21) + v4))), .inl v3, .inl (v4 + 1), .inl ((v3 * 21) + v4)]) rfl ?_
      refine jk_goto (pc := 37) hX 9 rfl ?_
      refine jk_forget (pc := 9) hX 5 (ls' := [.inr 90, .inl v1, .inl (min v2 (r_thr M v3 ((v3 * 21) + v4))), .inl v3, .inl (v4 + 1), .inr 0]) rfl ?_
      exact h15
set_option maxHeartbeats 4000000 in
theorem bk_C_bestThrough_0 {d : Nat} {K : jxK} {X : jxX} (hX : jx_clo jx_G1 (d + 6) (jx_call jx_G1 jx_T (d + 6)) kc_C_bestThrough K X) (v1 : Int) (v2 : Int) (M : jxM)
    (h : (((0 : Int) ≤ (M 5 6) ∧ (M 5 6) ≤ 20)) ∧ ((v1 < 0 ∨ (M 5 6) ≤ v1 → K (some (.inl (-1))) M) ∧ (¬ (v1 < 0 ∨ (M 5 6) ≤ v1) → ((¬ (v2 < 0 ∨ (M 4 5) < v2) → jx_call jx_G1 jx_T (d + 6) 73 [.inr 1] M (fun r M7 => r = some (.inr 90) ∧ jx_call jx_G1 jx_T (d + 6) 40 [.inr 90, .inl v1, .inl v2] M7 (fun r M10 => ∃ r9 : Int, r = some (.inl r9) ∧ ((1000000 ≤ r9 → K (some (.inl (-9))) M10) ∧ (r9 < 1000000 → K (some (.inl r9)) M10))))) ∧ (v2 < 0 ∨ (M 4 5) < v2 → K (some (.inl (-1))) M))))) :
    X 0 [.inr 1, .inl v1, .inl v2, .inr 0] [] M := by
  obtain ⟨g1, h20⟩ := h
  refine jk_aload (pc := 0) hX 0 rfl rfl ?_
  refine jk_load (pc := 1) hX 1 rfl rfl ?_
  refine jk_cv (pc := 2) hX 75 1 6 rfl 1 [.inl v1] [] rfl rfl rfl (Nat.le_of_ble_eq_true rfl) (sp_C_isNoEntry (d + 4) v1 M g1 ?_)
  show X 3 [.inr 1, .inl v1, .inl v2, .inr 0] [.inl (jx_b (v1 < 0 ∨ (M 5 6) ≤ v1))] M
  refine jk_zneB (pc := 3) hX 8 rfl (fun q18 => ?_) (fun q19 => ?_)
  · have h2 := h20.1 q18
    refine jk_const (pc := 8) hX (-1) rfl (by decide) ?_
    exact jk_iret (pc := 9) hX rfl h2
  · have h3 := h20.2 q19
    refine jk_aload (pc := 4) hX 0 rfl rfl ?_
    refine jk_load (pc := 5) hX 2 rfl rfl ?_
    refine jk_cv (pc := 6) hX 76 1 6 rfl 1 [.inl v2] [] rfl rfl rfl (Nat.le_of_ble_eq_true rfl) (sp_C_isNoGap (d + 4) v2 M  ?_)
    show X 7 [.inr 1, .inl v1, .inl v2, .inr 0] [.inl (jx_b (v2 < 0 ∨ (M 4 5) < v2))] M
    refine jk_zeqB (pc := 7) hX 10 rfl (fun q16 => ?_) (fun q17 => ?_)
    · have h4 := h3.1 q16
      refine jk_aload (pc := 10) hX 0 rfl rfl ?_
      refine jk_cv (pc := 11) hX 73 0 6 rfl 1 [] [] rfl rfl rfl (Nat.le_of_ble_eq_true rfl) (jx_mono (fun r M7 hr => ?_) h4)
      obtain ⟨rfl, h8⟩ := hr
      show X 12 [.inr 1, .inl v1, .inl v2, .inr 0] [.inr 90] M7
      refine jk_load (pc := 12) hX 1 rfl rfl ?_
      refine jk_load (pc := 13) hX 2 rfl rfl ?_
      refine jk_cv (pc := 14) hX 40 2 4 rfl 90 [.inl v1, .inl v2] [] rfl rfl rfl (Nat.le_of_ble_eq_true rfl) (jx_mono (fun r M10 hr => ?_) h8)
      obtain ⟨r9, rfl, h11⟩ := hr
      show X 15 [.inr 1, .inl v1, .inl v2, .inr 0] [.inl r9] M10
      refine jk_store (pc := 15) hX 3 rfl (Nat.le_of_ble_eq_true rfl) (ls' := [.inr 1, .inl v1, .inl v2, .inl r9]) rfl ?_
      refine jk_load (pc := 16) hX 3 rfl rfl ?_
      refine jk_const (pc := 17) hX 1000000 rfl (by decide) ?_
      refine jk_cge (pc := 18) hX 21 rfl (fun q14 => ?_) (fun q15 => ?_)
      · have h12 := h11.1 q14
        refine jk_const (pc := 21) hX (-9) rfl (by decide) ?_
        exact jk_iret (pc := 22) hX rfl h12
      · have h13 := h11.2 q15
        refine jk_load (pc := 19) hX 3 rfl rfl ?_
        refine jk_goto (pc := 20) hX 22 rfl ?_
        exact jk_iret (pc := 22) hX rfl h13
    · have h5 := h3.2 q17
      refine jk_const (pc := 8) hX (-1) rfl (by decide) ?_
      exact jk_iret (pc := 9) hX rfl h5
set_option maxHeartbeats 4000000 in
theorem bk_C_boundaryInBest_0 {d : Nat} {K : jxK} {X : jxX} (hX : jx_clo jx_G1 (d + 6) (jx_call jx_G1 jx_T (d + 6)) kc_C_boundaryInBest K X) (v1 : Int) (M : jxM)
    (h : (((0 : Int) ≤ (M 4 5) ∧ (M 4 5) ≤ 16)) ∧ ((¬ (v1 < 1 ∨ (M 4 5) - 1 < v1) → jx_call jx_G1 jx_T (d + 6) 73 [.inr 1] M (fun r M5 => r = some (.inr 90) ∧ jx_call jx_G1 jx_T (d + 6) 41 [.inr 90, .inl v1] M5 (fun r M8 => ∃ r7 : Int, r = some (.inl r7) ∧ jx_call jx_G1 jx_T (d + 6) 42 [.inr 90, .inl v1] M8 (fun r M11 => ∃ r10 : Int, r = some (.inl r10) ∧ ((r7 < 1000000 → ((r7 ≠ r10 → ((r10 ≤ r7 → K (some (.inl 0)) M11) ∧ (r7 < r10 → K (some (.inl 2)) M11))) ∧ (r7 = r10 → K (some (.inl 1)) M11))) ∧ (1000000 ≤ r7 → ((r10 < 1000000 → ((r7 ≠ r10 → ((r10 ≤ r7 → K (some (.inl 0)) M11) ∧ (r7 < r10 → K (some (.inl 2)) M11))) ∧ (r7 = r10 → K (some (.inl 1)) M11))) ∧ (1000000 ≤ r10 → K (some (.inl (-9))) M11)))))))) ∧ (v1 < 1 ∨ (M 4 5) - 1 < v1 → K (some (.inl (-1))) M))) :
    X 0 [.inr 1, .inl v1, .inr 0, .inr 0, .inr 0] [] M := by
  obtain ⟨g1, h39⟩ := h
  refine jk_aload (pc := 0) hX 0 rfl rfl ?_
  refine jk_load (pc := 1) hX 1 rfl rfl ?_
  refine jk_cv (pc := 2) hX 77 1 6 rfl 1 [.inl v1] [] rfl rfl rfl (Nat.le_of_ble_eq_true rfl) (sp_C_isNoInnerGap (d + 4) v1 M g1 ?_)
  show X 3 [.inr 1, .inl v1, .inr 0, .inr 0, .inr 0] [.inl (jx_b (v1 < 1 ∨ (M 4 5) - 1 < v1))] M
  refine jk_zeqB (pc := 3) hX 6 rfl (fun q37 => ?_) (fun q38 => ?_)
  · have h2 := h39.1 q37
    refine jk_aload (pc := 6) hX 0 rfl rfl ?_
    refine jk_cv (pc := 7) hX 73 0 6 rfl 1 [] [] rfl rfl rfl (Nat.le_of_ble_eq_true rfl) (jx_mono (fun r M5 hr => ?_) h2)
    obtain ⟨rfl, h6⟩ := hr
    show X 8 [.inr 1, .inl v1, .inr 0, .inr 0, .inr 0] [.inr 90] M5
    refine jk_astore (pc := 8) hX 2 rfl (Nat.le_of_ble_eq_true rfl) (ls' := [.inr 1, .inl v1, .inr 90, .inr 0, .inr 0]) rfl ?_
    refine jk_aload (pc := 9) hX 2 rfl rfl ?_
    refine jk_load (pc := 10) hX 1 rfl rfl ?_
    refine jk_cv (pc := 11) hX 41 1 4 rfl 90 [.inl v1] [] rfl rfl rfl (Nat.le_of_ble_eq_true rfl) (jx_mono (fun r M8 hr => ?_) h6)
    obtain ⟨r7, rfl, h9⟩ := hr
    show X 12 [.inr 1, .inl v1, .inr 90, .inr 0, .inr 0] [.inl r7] M8
    refine jk_store (pc := 12) hX 3 rfl (Nat.le_of_ble_eq_true rfl) (ls' := [.inr 1, .inl v1, .inr 90, .inl r7, .inr 0]) rfl ?_
    refine jk_aload (pc := 13) hX 2 rfl rfl ?_
    refine jk_load (pc := 14) hX 1 rfl rfl ?_
    refine jk_cv (pc := 15) hX 42 1 4 rfl 90 [.inl v1] [] rfl rfl rfl (Nat.le_of_ble_eq_true rfl) (jx_mono (fun r M11 hr => ?_) h9)
    obtain ⟨r10, rfl, h12⟩ := hr
    show X 16 [.inr 1, .inl v1, .inr 90, .inl r7, .inr 0] [.inl r10] M11
    refine jk_store (pc := 16) hX 4 rfl (Nat.le_of_ble_eq_true rfl) (ls' := [.inr 1, .inl v1, .inr 90, .inl r7, .inl r10]) rfl ?_
    refine jk_load (pc := 17) hX 3 rfl rfl ?_
    refine jk_const (pc := 18) hX 1000000 rfl (by decide) ?_
    refine jk_clt (pc := 19) hX 25 rfl (fun q35 => ?_) (fun q36 => ?_)
    · have h13 := h12.1 q35
      refine jk_load (pc := 25) hX 3 rfl rfl ?_
      refine jk_load (pc := 26) hX 4 rfl rfl ?_
      refine jk_cne (pc := 27) hX 30 rfl (fun q21 => ?_) (fun q22 => ?_)
      · have h15 := h13.1 q21
        refine jk_load (pc := 30) hX 3 rfl rfl ?_
        refine jk_load (pc := 31) hX 4 rfl rfl ?_
        refine jk_cge (pc := 32) hX 35 rfl (fun q19 => ?_) (fun q20 => ?_)
        · have h17 := h15.1 q19
          refine jk_const (pc := 35) hX 0 rfl (by decide) ?_
          exact jk_iret (pc := 36) hX rfl h17
        · have h18 := h15.2 q20
          refine jk_const (pc := 33) hX 2 rfl (by decide) ?_
          refine jk_goto (pc := 34) hX 36 rfl ?_
          exact jk_iret (pc := 36) hX rfl h18
      · have h16 := h13.2 q22
        refine jk_const (pc := 28) hX 1 rfl (by decide) ?_
        exact jk_iret (pc := 29) hX rfl h16
    · have h14 := h12.2 q36
      refine jk_load (pc := 20) hX 4 rfl rfl ?_
      refine jk_const (pc := 21) hX 1000000 rfl (by decide) ?_
      refine jk_clt (pc := 22) hX 25 rfl (fun q33 => ?_) (fun q34 => ?_)
      · have h23 := h14.1 q33
        refine jk_load (pc := 25) hX 3 rfl rfl ?_
        refine jk_load (pc := 26) hX 4 rfl rfl ?_
        refine jk_cne (pc := 27) hX 30 rfl (fun q31 => ?_) (fun q32 => ?_)
        · have h25 := h23.1 q31
          refine jk_load (pc := 30) hX 3 rfl rfl ?_
          refine jk_load (pc := 31) hX 4 rfl rfl ?_
          refine jk_cge (pc := 32) hX 35 rfl (fun q29 => ?_) (fun q30 => ?_)
          · have h27 := h25.1 q29
            refine jk_const (pc := 35) hX 0 rfl (by decide) ?_
            exact jk_iret (pc := 36) hX rfl h27
          · have h28 := h25.2 q30
            refine jk_const (pc := 33) hX 2 rfl (by decide) ?_
            refine jk_goto (pc := 34) hX 36 rfl ?_
            exact jk_iret (pc := 36) hX rfl h28
        · have h26 := h23.2 q32
          refine jk_const (pc := 28) hX 1 rfl (by decide) ?_
          exact jk_iret (pc := 29) hX rfl h26
      · have h24 := h14.2 q34
        refine jk_const (pc := 23) hX (-9) rfl (by decide) ?_
        exact jk_iret (pc := 24) hX rfl h24
  · have h3 := h39.2 q38
    refine jk_const (pc := 4) hX (-1) rfl (by decide) ?_
    exact jk_iret (pc := 5) hX rfl h3
set_option maxHeartbeats 4000000 in
theorem bk_F_bestThrough_0 {d : Nat} {K : jxK} {X : jxX} (hX : jx_clo jx_G2 (d + 5) (jx_call jx_G2 jx_T (d + 5)) kc_F_bestThrough K X) (v1 : Int) (v2 : Int) (M : jxM)
    (h : (((0 : Int) ≤ (M 2 0) ∧ (M 2 0) ≤ 20)) ∧ ((¬ (0 ≤ v1 ∧ v1 < (M 2 0)) → K (some (.inl (-1))) M) ∧ (0 ≤ v1 ∧ v1 < (M 2 0) → (((0 : Int) ≤ v2 ∧ v2 ≤ (M 2 271) → ((((0 : Int) ≤ v1 ∧ v1 < 20) ∧ ((0 : Int) ≤ (M 2 (1 + 11 * v1)) ∧ (M 2 (1 + 11 * v1)) ≤ 6) ∧ (M 2 271) ≤ 16 ∧ (0 : Int) ≤ v2 ∧ v2 ≤ 16)) ∧ ((¬ (f_stands (M 2) v1 v2) → K (some (.inl (-9))) M) ∧ (f_stands (M 2) v1 v2 → (((v1 = -5 ∨ (0 : Int) ≤ v1 ∧ v1 < 20 ∧ (0 : Int) ≤ (M 2 (1 + 11 * v1)) ∧ (M 2 (1 + 11 * v1)) ≤ 6) ∧ (0 : Int) ≤ v2 ∧ v2 ≤ 16) ∧ ((0 : Int) ≤ v2 ∧ v2 ≤ 16 ∧ (0 : Int) ≤ (f_end (M 2) v1 v2) ∧ (f_end (M 2) v1 v2) ≤ 16)) ∧ ((f_may (M 2) v2 (f_end (M 2) v1 v2) → jx_call jx_G2 jx_T (d + 5) 114 [.inr 1] M (fun r M14 => r = none ∧ jx_call jx_G2 jx_T (d + 5) 121 [.inr 1] M14 (fun r M17 => r = none ∧ (((v1 = -5 ∨ (0 : Int) ≤ v1 ∧ v1 < 20 ∧ (0 : Int) ≤ (M17 2 (1 + 11 * v1)) ∧ (M17 2 (1 + 11 * v1)) ≤ 6) ∧ (0 : Int) ≤ v2 ∧ v2 ≤ 16) ∧ ((-2147483648 : Int) ≤ 7 * (f_end (M17 2) v1 v2) ∧ 7 * (f_end (M17 2) v1 v2) ≤ 2147483647) ∧ (v1 = -5 ∨ (0 : Int) ≤ v1 ∧ v1 < 20) ∧ ((-2147483648 : Int) ≤ (7 * (f_end (M17 2) v1 v2)) + (f_cls (M17 2) v1) ∧ (7 * (f_end (M17 2) v1 v2)) + (f_cls (M17 2) v1) ≤ 2147483647)) ∧ X 48 [.inr 1, .inl v1, .inl v2, .inl ((7 * (f_end (M17 2) v1 v2)) + (f_cls (M17 2) v1)), .inl 100000000, .inl 0, .inr 0] [] M17))) ∧ (¬ (f_may (M 2) v2 (f_end (M 2) v1 v2)) → K (some (.inl (-9))) M))))) ∧ (¬ ((0 : Int) ≤ v2 ∧ v2 ≤ (M 2 271)) → K (some (.inl (-1))) M))))) :
    X 0 [.inr 1, .inl v1, .inl v2, .inr 0, .inr 0, .inr 0, .inr 0] [] M := by
  obtain ⟨g1, h34⟩ := h
  refine jk_aload (pc := 0) hX 0 rfl rfl ?_
  refine jk_load (pc := 1) hX 1 rfl rfl ?_
  refine jk_cv (pc := 2) hX 87 1 7 rfl 1 [.inl v1] [] rfl rfl rfl (Nat.le_of_ble_eq_true rfl) (sp_F_isEntry (d + 3) v1 M g1 ?_)
  show X 3 [.inr 1, .inl v1, .inl v2, .inr 0, .inr 0, .inr 0, .inr 0] [.inl (jx_b (0 ≤ v1 ∧ v1 < (M 2 0)))] M
  refine jk_zeqB (pc := 3) hX 12 rfl (fun q32 => ?_) (fun q33 => ?_)
  · have h2 := h34.1 q32
    refine jk_const (pc := 12) hX (-1) rfl (by decide) ?_
    exact jk_iret (pc := 13) hX rfl h2
  · have h3 := h34.2 q33
    refine jk_load (pc := 4) hX 2 rfl rfl ?_
    refine jk_const (pc := 5) hX 0 rfl (by decide) ?_
    refine jk_aload (pc := 6) hX 0 rfl rfl ?_
    refine jk_getR (pc := 7) hX 7 0 rfl rfl (r := 1) rfl ?_
    refine jk_const (pc := 8) hX 271 rfl (by decide) ?_
    refine jk_iald (pc := 9) hX 305 rfl rfl (by decide) ?_
    refine jk_cs (pc := 10) hX 80 3 rfl [.inl v2, .inl 0, .inl (M 2 271)] [] rfl rfl (Nat.le_of_ble_eq_true rfl) (sp_F_in (d + 4) v2 (0 : Int) (M 2 271) M  ?_)
    show X 11 [.inr 1, .inl v1, .inl v2, .inr 0, .inr 0, .inr 0, .inr 0] [.inl (jx_b ((0 : Int) ≤ v2 ∧ v2 ≤ (M 2 271)))] M
    refine jk_zneB (pc := 11) hX 14 rfl (fun q30 => ?_) (fun q31 => ?_)
    · have h4 := h3.1 q30
      obtain ⟨g6, h29⟩ := h4
      refine jk_aload (pc := 14) hX 0 rfl rfl ?_
      refine jk_load (pc := 15) hX 1 rfl rfl ?_
      refine jk_load (pc := 16) hX 2 rfl rfl ?_
      refine jk_cv (pc := 17) hX 103 2 7 rfl 1 [.inl v1, .inl v2] [] rfl rfl rfl (Nat.le_of_ble_eq_true rfl) (sp_F_stands (d + 3) v1 v2 M g6 ?_)
      show X 18 [.inr 1, .inl v1, .inl v2, .inr 0, .inr 0, .inr 0, .inr 0] [.inl (jx_b (f_stands (M 2) v1 v2))] M
      refine jk_zeqB (pc := 18) hX 27 rfl (fun q27 => ?_) (fun q28 => ?_)
      · have h7 := h29.1 q27
        refine jk_const (pc := 27) hX (-9) rfl (by decide) ?_
        exact jk_iret (pc := 28) hX rfl h7
      · have h8 := h29.2 q28
        obtain ⟨⟨g9, g10⟩, h26⟩ := h8
        refine jk_aload (pc := 19) hX 0 rfl rfl ?_
        refine jk_load (pc := 20) hX 2 rfl rfl ?_
        refine jk_aload (pc := 21) hX 0 rfl rfl ?_
        refine jk_load (pc := 22) hX 1 rfl rfl ?_
        refine jk_load (pc := 23) hX 2 rfl rfl ?_
        refine jk_cv (pc := 24) hX 107 2 7 rfl 1 [.inl v1, .inl v2] [.inl v2, .inr 1] rfl rfl rfl (Nat.le_of_ble_eq_true rfl) (sp_F_endOf (d + 3) v1 v2 M g9 ?_)
        show X 25 [.inr 1, .inl v1, .inl v2, .inr 0, .inr 0, .inr 0, .inr 0] [.inl (f_end (M 2) v1 v2), .inl v2, .inr 1] M
        refine jk_cv (pc := 25) hX 105 2 7 rfl 1 [.inl v2, .inl (f_end (M 2) v1 v2)] [] rfl rfl rfl (Nat.le_of_ble_eq_true rfl) (sp_F_mayCover (d + 4) v2 (f_end (M 2) v1 v2) M g10 ?_)
        show X 26 [.inr 1, .inl v1, .inl v2, .inr 0, .inr 0, .inr 0, .inr 0] [.inl (jx_b (f_may (M 2) v2 (f_end (M 2) v1 v2)))] M
        refine jk_zneB (pc := 26) hX 29 rfl (fun q24 => ?_) (fun q25 => ?_)
        · have h11 := h26.1 q24
          refine jk_aload (pc := 29) hX 0 rfl rfl ?_
          refine jk_cv (pc := 30) hX 114 0 7 rfl 1 [] [] rfl rfl rfl (Nat.le_of_ble_eq_true rfl) (jx_mono (fun r M14 hr => ?_) h11)
          obtain ⟨rfl, h15⟩ := hr
          show X 31 [.inr 1, .inl v1, .inl v2, .inr 0, .inr 0, .inr 0, .inr 0] [] M14
          refine jk_aload (pc := 31) hX 0 rfl rfl ?_
          refine jk_cv (pc := 32) hX 121 0 7 rfl 1 [] [] rfl rfl rfl (Nat.le_of_ble_eq_true rfl) (jx_mono (fun r M17 hr => ?_) h15)
          obtain ⟨rfl, h18⟩ := hr
          show X 33 [.inr 1, .inl v1, .inl v2, .inr 0, .inr 0, .inr 0, .inr 0] [] M17
          obtain ⟨⟨g19, g20, g21, g22⟩, h23⟩ := h18
          refine jk_const (pc := 33) hX 7 rfl (by decide) ?_
          refine jk_aload (pc := 34) hX 0 rfl rfl ?_
          refine jk_load (pc := 35) hX 1 rfl rfl ?_
          refine jk_load (pc := 36) hX 2 rfl rfl ?_
          refine jk_cv (pc := 37) hX 107 2 7 rfl 1 [.inl v1, .inl v2] [.inl 7] rfl rfl rfl (Nat.le_of_ble_eq_true rfl) (sp_F_endOf (d + 3) v1 v2 M17 g19 ?_)
          show X 38 [.inr 1, .inl v1, .inl v2, .inr 0, .inr 0, .inr 0, .inr 0] [.inl (f_end (M17 2) v1 v2), .inl 7] M17
          refine jk_mul (pc := 38) hX rfl g20 ?_
          refine jk_aload (pc := 39) hX 0 rfl rfl ?_
          refine jk_load (pc := 40) hX 1 rfl rfl ?_
          refine jk_cv (pc := 41) hX 108 1 7 rfl 1 [.inl v1] [.inl (7 * (f_end (M17 2) v1 v2))] rfl rfl rfl (Nat.le_of_ble_eq_true rfl) (sp_F_classOf (d + 3) v1 M17 g21 ?_)
          show X 42 [.inr 1, .inl v1, .inl v2, .inr 0, .inr 0, .inr 0, .inr 0] [.inl (f_cls (M17 2) v1), .inl (7 * (f_end (M17 2) v1 v2))] M17
          refine jk_add (pc := 42) hX rfl g22 ?_
          refine jk_store (pc := 43) hX 3 rfl (Nat.le_of_ble_eq_true rfl) (ls' := [.inr 1, .inl v1, .inl v2, .inl ((7 * (f_end (M17 2) v1 v2)) + (f_cls (M17 2) v1)), .inr 0, .inr 0, .inr 0]) rfl ?_
          refine jk_const (pc := 44) hX 100000000 rfl (by decide) ?_
          refine jk_store (pc := 45) hX 4 rfl (Nat.le_of_ble_eq_true rfl) (ls' := [.inr 1, .inl v1, .inl v2, .inl ((7 * (f_end (M17 2) v1 v2)) + (f_cls (M17 2) v1)), .inl 100000000, .inr 0, .inr 0]) rfl ?_
          refine jk_const (pc := 46) hX 0 rfl (by decide) ?_
          refine jk_store (pc := 47) hX 5 rfl (Nat.le_of_ble_eq_true rfl) (ls' := [.inr 1, .inl v1, .inl v2, .inl ((7 * (f_end (M17 2) v1 v2)) + (f_cls (M17 2) v1)), .inl 100000000, .inl 0, .inr 0]) rfl ?_
          exact h23
        · have h12 := h26.2 q25
          refine jk_const (pc := 27) hX (-9) rfl (by decide) ?_
          exact jk_iret (pc := 28) hX rfl h12
    · have h5 := h3.2 q31
      refine jk_const (pc := 12) hX (-1) rfl (by decide) ?_
      exact jk_iret (pc := 13) hX rfl h5
set_option maxHeartbeats 4000000 in
theorem bk_F_bestThrough_48 {d : Nat} {K : jxK} {X : jxX} (hX : jx_clo jx_G2 (d + 5) (jx_call jx_G2 jx_T (d + 5)) kc_F_bestThrough K X) (v1 : Int) (v2 : Int) (v3 : Int) (v4 : Int) (v5 : Int) (M : jxM)
    (h : ((7 ≤ v5 → ((100000000 ≤ v4 → K (some (.inl (-9))) M) ∧ (v4 < 100000000 → ((0 ≤ v3 ∧ v3 < 119)) ∧ (((M 6 v3) ≠ 0 → ((((0 : Int) ≤ v1 ∧ v1 < 20) ∧ ((0 : Int) ≤ (M 2 (1 + 11 * v1 + 9)) ∧ (M 2 (1 + 11 * v1 + 9)) ≤ 99) ∧ ((0 : Int) ≤ (M 2 (1 + 11 * v1 + 10)) ∧ (M 2 (1 + 11 * v1 + 10)) ≤ 9)) ∧ ((-2147483648 : Int) ≤ v4 + (f_price (M 2) v1) ∧ v4 + (f_price (M 2) v1) ≤ 2147483647) ∧ ((-2147483648 : Int) ≤ 20 * v3 ∧ 20 * v3 ≤ 2147483647) ∧ (0 ≤ (20 * v3) ∧ (20 * v3) < 2380) ∧ ((-2147483648 : Int) ≤ (v4 + (f_price (M 2) v1)) + (M 7 (20 * v3)) ∧ (v4 + (f_price (M 2) v1)) + (M 7 (20 * v3)) ≤ 2147483647)) ∧ K (some (.inl ((v4 + (f_price (M 2) v1)) + (M 7 (20 * v3))))) M) ∧ ((M 6 v3) = 0 → K (some (.inl (-9))) M))))) ∧ (v5 < 7 → (((-2147483648 : Int) ≤ 7 * v2 ∧ 7 * v2 ≤ 2147483647) ∧ ((-2147483648 : Int) ≤ (7 * v2) + v5 ∧ (7 * v2) + v5 ≤ 2147483647) ∧ (0 ≤ ((7 * v2) + v5) ∧ ((7 * v2) + v5) < 119) ∧ (v1 = -5 ∨ (0 : Int) ≤ v1 ∧ v1 < 20) ∧ ((0 : Int) ≤ v5 ∧ v5 ≤ 6 ∧ (0 : Int) ≤ (f_cls (M 2) v1) ∧ (f_cls (M 2) v1) ≤ 6) ∧ ((-2147483648 : Int) ≤ (M 14 ((7 * v2) + v5)) + ((M 2 (221 + 7 * v5 + (f_cls (M 2) v1)))) ∧ (M 14 ((7 * v2) + v5)) + ((M 2 (221 + 7 * v5 + (f_cls (M 2) v1)))) ≤ 2147483647)) ∧ ((v4 ≤ ((M 14 ((7 * v2) + v5)) + ((M 2 (221 + 7 * v5 + (f_cls (M 2) v1))))) → (((-2147483648 : Int) ≤ v5 + 1 ∧ v5 + 1 ≤ 2147483647)) ∧ X 48 [.inr 1, .inl v1, .inl v2, .inl v3, .inl v4, .inl (v5 + 1), .inr 0] [] M) ∧ (((M 14 ((7 * v2) + v5)) + ((M 2 (221 + 7 * v5 + (f_cls (M 2) v1))))) < v4 → (((-2147483648 : Int) ≤ v5 + 1 ∧ v5 + 1 ≤ 2147483647)) ∧ X 48 [.inr 1, .inl v1, .inl v2, .inl v3, .inl ((M 14 ((7 * v2) + v5)) + ((M 2 (221 + 7 * v5 + (f_cls (M 2) v1))))), .inl (v5 + 1), .inr 0] [] M))))) :
    X 48 [.inr 1, .inl v1, .inl v2, .inl v3, .inl v4, .inl v5, .inr 0] [] M := by
  refine jk_load (pc := 48) hX 5 rfl rfl ?_
  refine jk_const (pc := 49) hX 7 rfl (by decide) ?_
  refine jk_cge (pc := 50) hX 76 rfl (fun q34 => ?_) (fun q35 => ?_)
  · have h1 := h.1 q34
    refine jk_load (pc := 76) hX 4 rfl rfl ?_
    refine jk_const (pc := 77) hX 100000000 rfl (by decide) ?_
    refine jk_cge (pc := 78) hX 84 rfl (fun q17 => ?_) (fun q18 => ?_)
    · have h3 := h1.1 q17
      refine jk_const (pc := 84) hX (-9) rfl (by decide) ?_
      refine jk_goto (pc := 85) hX 98 rfl ?_
      exact jk_iret (pc := 98) hX rfl h3
    · have h4 := h1.2 q18
      obtain ⟨g5, h16⟩ := h4
      refine jk_aload (pc := 79) hX 0 rfl rfl ?_
      refine jk_getR (pc := 80) hX 7 8 rfl rfl (r := 5) rfl ?_
      refine jk_load (pc := 81) hX 3 rfl rfl ?_
      refine jk_iald (pc := 82) hX 119 rfl rfl g5 ?_
      refine jk_zne (pc := 83) hX 86 rfl (fun q14 => ?_) (fun q15 => ?_)
      · have h6 := h16.1 q14
        obtain ⟨⟨g8, g9, g10, g11, g12⟩, h13⟩ := h6
        refine jk_load (pc := 86) hX 4 rfl rfl ?_
        refine jk_aload (pc := 87) hX 0 rfl rfl ?_
        refine jk_load (pc := 88) hX 1 rfl rfl ?_
        refine jk_cv (pc := 89) hX 93 1 7 rfl 1 [.inl v1] [.inl v4] rfl rfl rfl (Nat.le_of_ble_eq_true rfl) (sp_F_price (d + 3) v1 M g8 ?_)
        show X 90 [.inr 1, .inl v1, .inl v2, .inl v3, .inl v4, .inl v5, .inr 0] [.inl (f_price (M 2) v1), .inl v4] M
        refine jk_add (pc := 90) hX rfl g9 ?_
        refine jk_aload (pc := 91) hX 0 rfl rfl ?_
        refine jk_getR (pc := 92) hX 7 9 rfl rfl (r := 6) rfl ?_
        refine jk_const (pc := 93) hX 20 rfl (by decide) ?_
        refine jk_load (pc := 94) hX 3 rfl rfl ?_
        refine jk_mul (pc := 95) hX rfl g10 ?_
        refine jk_iald (pc := 96) hX 2380 rfl rfl g11 ?_
        refine jk_add (pc := 97) hX rfl g12 ?_
        exact jk_iret (pc := 98) hX rfl h13
      · have h7 := h16.2 q15
        refine jk_const (pc := 84) hX (-9) rfl (by decide) ?_
        refine jk_goto (pc := 85) hX 98 rfl ?_
        exact jk_iret (pc := 98) hX rfl h7
  · have h2 := h.2 q35
    obtain ⟨⟨g19, g20, g21, g22, g23, g24⟩, h33⟩ := h2
    refine jk_aload (pc := 51) hX 0 rfl rfl ?_
    refine jk_getR (pc := 52) hX 7 17 rfl rfl (r := 13) rfl ?_
    refine jk_const (pc := 53) hX 7 rfl (by decide) ?_
    refine jk_load (pc := 54) hX 2 rfl rfl ?_
    refine jk_mul (pc := 55) hX rfl g19 ?_
    refine jk_load (pc := 56) hX 5 rfl rfl ?_
    refine jk_add (pc := 57) hX rfl g20 ?_
    refine jk_iald (pc := 58) hX 119 rfl rfl g21 ?_
    refine jk_aload (pc := 59) hX 0 rfl rfl ?_
    refine jk_load (pc := 60) hX 5 rfl rfl ?_
    refine jk_aload (pc := 61) hX 0 rfl rfl ?_
    refine jk_load (pc := 62) hX 1 rfl rfl ?_
    refine jk_cv (pc := 63) hX 108 1 7 rfl 1 [.inl v1] [.inl v5, .inr 1, .inl (M 14 ((7 * v2) + v5))] rfl rfl rfl (Nat.le_of_ble_eq_true rfl) (sp_F_classOf (d + 3) v1 M g22 ?_)
    show X 64 [.inr 1, .inl v1, .inl v2, .inl v3, .inl v4, .inl v5, .inr 0] [.inl (f_cls (M 2) v1), .inl v5, .inr 1, .inl (M 14 ((7 * v2) + v5))] M
    refine jk_cv (pc := 64) hX 110 2 7 rfl 1 [.inl v5, .inl (f_cls (M 2) v1)] [.inl (M 14 ((7 * v2) + v5))] rfl rfl rfl (Nat.le_of_ble_eq_true rfl) (sp_F_between (d + 4) v5 (f_cls (M 2) v1) M g23 ?_)
    show X 65 [.inr 1, .inl v1, .inl v2, .inl v3, .inl v4, .inl v5, .inr 0] [.inl ((M 2 (221 + 7 * v5 + (f_cls (M 2) v1)))), .inl (M 14 ((7 * v2) + v5))] M
    refine jk_add (pc := 65) hX rfl g24 ?_
    refine jk_store (pc := 66) hX 6 rfl (Nat.le_of_ble_eq_true rfl) (ls' := [.inr 1, .inl v1, .inl v2, .inl v3, .inl v4, .inl v5, .inl ((M 14 ((7 * v2) + v5)) + ((M 2 (221 + 7 * v5 + (f_cls (M 2) v1)))))]) rfl ?_
    refine jk_load (pc := 67) hX 6 rfl rfl ?_
    refine jk_load (pc := 68) hX 4 rfl rfl ?_
    refine jk_cge (pc := 69) hX 72 rfl (fun q31 => ?_) (fun q32 => ?_)
    · have h25 := h33.1 q31
      obtain ⟨g27, h28⟩ := h25
      refine jk_load (pc := 72) hX 4 rfl rfl ?_
      refine jk_store (pc := 73) hX 4 rfl (Nat.le_of_ble_eq_true rfl) (ls' := [.inr 1, .inl v1, .inl v2, .inl v3, .inl v4, .inl v5, .inl ((M 14 ((7 * v2) + v5)) + ((M 2 (221 + 7 * v5 + (f_cls (M 2) v1)))))]) rfl ?_
      refine jk_iinc (pc := 74) hX 5 1 rfl rfl g27 (ls' := [.inr 1, .inl v1, .inl v2, .inl v3, .inl v4, .inl (v5 + 1), .inl ((M 14 ((7 * v2) + v5)) + ((M 2 (221 + 7 * v5 + (f_cls (M 2) v1)))))]) rfl ?_
      refine jk_goto (pc := 75) hX 48 rfl ?_
      refine jk_forget (pc := 48) hX 6 (ls' := [.inr 1, .inl v1, .inl v2, .inl v3, .inl v4, .inl (v5 + 1), .inr 0]) rfl ?_
      exact h28
    · have h26 := h33.2 q32
      obtain ⟨g29, h30⟩ := h26
      refine jk_load (pc := 70) hX 6 rfl rfl ?_
      refine jk_goto (pc := 71) hX 73 rfl ?_
      refine jk_store (pc := 73) hX 4 rfl (Nat.le_of_ble_eq_true rfl) (ls' := [.inr 1, .inl v1, .inl v2, .inl v3, .inl ((M 14 ((7 * v2) + v5)) + ((M 2 (221 + 7 * v5 + (f_cls (M 2) v1))))), .inl v5, .inl ((M 14 ((7 * v2) + v5)) + ((M 2 (221 + 7 * v5 + (f_cls (M 2) v1)))))]) rfl ?_
      refine jk_iinc (pc := 74) hX 5 1 rfl rfl g29 (ls' := [.inr 1, .inl v1, .inl v2, .inl v3, .inl ((M 14 ((7 * v2) + v5)) + ((M 2 (221 + 7 * v5 + (f_cls (M 2) v1))))), .inl (v5 + 1), .inl ((M 14 ((7 * v2) + v5)) + ((M 2 (221 + 7 * v5 + (f_cls (M 2) v1)))))]) rfl ?_
      refine jk_goto (pc := 75) hX 48 rfl ?_
      refine jk_forget (pc := 48) hX 6 (ls' := [.inr 1, .inl v1, .inl v2, .inl v3, .inl ((M 14 ((7 * v2) + v5)) + ((M 2 (221 + 7 * v5 + (f_cls (M 2) v1))))), .inl (v5 + 1), .inr 0]) rfl ?_
      exact h30
set_option maxHeartbeats 4000000 in
theorem bk_F_boundaryInBest_0 {d : Nat} {K : jxK} {X : jxX} (hX : jx_clo jx_G2 (d + 5) (jx_call jx_G2 jx_T (d + 5)) kc_F_boundaryInBest K X) (v1 : Int) (M : jxM)
    (h : (((-2147483648 : Int) ≤ (M 2 271) - 1 ∧ (M 2 271) - 1 ≤ 2147483647)) ∧ (((1 : Int) ≤ v1 ∧ v1 ≤ ((M 2 271) - 1) → jx_call jx_G2 jx_T (d + 5) 114 [.inr 1] M (fun r M5 => r = none ∧ (((M5 6 6) ≠ 0 → X 23 [.inr 1, .inl v1, .inl 0, .inr 0, .inr 0, .inr 0, .inr 0, .inr 0, .inr 0, .inr 0] [] M5) ∧ ((M5 6 6) = 0 → K (some (.inl (-9))) M5)))) ∧ (¬ ((1 : Int) ≤ v1 ∧ v1 ≤ ((M 2 271) - 1)) → K (some (.inl (-1))) M))) :
    X 0 [.inr 1, .inl v1, .inr 0, .inr 0, .inr 0, .inr 0, .inr 0, .inr 0, .inr 0, .inr 0] [] M := by
  obtain ⟨g1, h13⟩ := h
  refine jk_load (pc := 0) hX 1 rfl rfl ?_
  refine jk_const (pc := 1) hX 1 rfl (by decide) ?_
  refine jk_aload (pc := 2) hX 0 rfl rfl ?_
  refine jk_getR (pc := 3) hX 7 0 rfl rfl (r := 1) rfl ?_
  refine jk_const (pc := 4) hX 271 rfl (by decide) ?_
  refine jk_iald (pc := 5) hX 305 rfl rfl (by decide) ?_
  refine jk_const (pc := 6) hX 1 rfl (by decide) ?_
  refine jk_sub (pc := 7) hX rfl g1 ?_
  refine jk_cs (pc := 8) hX 80 3 rfl [.inl v1, .inl 1, .inl ((M 2 271) - 1)] [] rfl rfl (Nat.le_of_ble_eq_true rfl) (sp_F_in (d + 4) v1 (1 : Int) ((M 2 271) - 1) M  ?_)
  show X 9 [.inr 1, .inl v1, .inr 0, .inr 0, .inr 0, .inr 0, .inr 0, .inr 0, .inr 0, .inr 0] [.inl (jx_b ((1 : Int) ≤ v1 ∧ v1 ≤ ((M 2 271) - 1)))] M
  refine jk_zneB (pc := 9) hX 12 rfl (fun q11 => ?_) (fun q12 => ?_)
  · have h2 := h13.1 q11
    refine jk_aload (pc := 12) hX 0 rfl rfl ?_
    refine jk_cv (pc := 13) hX 114 0 7 rfl 1 [] [] rfl rfl rfl (Nat.le_of_ble_eq_true rfl) (jx_mono (fun r M5 hr => ?_) h2)
    obtain ⟨rfl, h6⟩ := hr
    show X 14 [.inr 1, .inl v1, .inr 0, .inr 0, .inr 0, .inr 0, .inr 0, .inr 0, .inr 0, .inr 0] [] M5
    refine jk_aload (pc := 14) hX 0 rfl rfl ?_
    refine jk_getR (pc := 15) hX 7 8 rfl rfl (r := 5) rfl ?_
    refine jk_const (pc := 16) hX 6 rfl (by decide) ?_
    refine jk_iald (pc := 17) hX 119 rfl rfl (by decide) ?_
    refine jk_zne (pc := 18) hX 21 rfl (fun q9 => ?_) (fun q10 => ?_)
    · have h7 := h6.1 q9
      refine jk_const (pc := 21) hX 0 rfl (by decide) ?_
      refine jk_store (pc := 22) hX 2 rfl (Nat.le_of_ble_eq_true rfl) (ls' := [.inr 1, .inl v1, .inl 0, .inr 0, .inr 0, .inr 0, .inr 0, .inr 0, .inr 0, .inr 0]) rfl ?_
      exact h7
    · have h8 := h6.2 q10
      refine jk_const (pc := 19) hX (-9) rfl (by decide) ?_
      exact jk_iret (pc := 20) hX rfl h8
  · have h3 := h13.2 q12
    refine jk_const (pc := 10) hX (-1) rfl (by decide) ?_
    exact jk_iret (pc := 11) hX rfl h3
set_option maxHeartbeats 4000000 in
theorem bk_F_boundaryInBest_23 {d : Nat} {K : jxK} {X : jxX} (hX : jx_clo jx_G2 (d + 5) (jx_call jx_G2 jx_T (d + 5)) kc_F_boundaryInBest K X) (v1 : Int) (v2 : Int) (M : jxM)
    (h : ((119 ≤ v2 → X 44 [.inr 1, .inl v1, .inl 0, .inl 0, .inl 0, .inr 0, .inr 0, .inr 0, .inr 0, .inr 0] [] M) ∧ (v2 < 119 → ((v2 ≠ 6 → ((0 ≤ v2 ∧ v2 < 119) ∧ ((-2147483648 : Int) ≤ v2 + 1 ∧ v2 + 1 ≤ 2147483647)) ∧ X 23 [.inr 1, .inl v1, .inl (v2 + 1), .inr 0, .inr 0, .inr 0, .inr 0, .inr 0, .inr 0, .inr 0] [] (jx_up M 15 v2 0)) ∧ (v2 = 6 → ((0 ≤ v2 ∧ v2 < 119) ∧ ((-2147483648 : Int) ≤ v2 + 1 ∧ v2 + 1 ≤ 2147483647)) ∧ X 23 [.inr 1, .inl v1, .inl (v2 + 1), .inr 0, .inr 0, .inr 0, .inr 0, .inr 0, .inr 0, .inr 0] [] (jx_up M 15 v2 1)))))) :
    X 23 [.inr 1, .inl v1, .inl v2, .inr 0, .inr 0, .inr 0, .inr 0, .inr 0, .inr 0, .inr 0] [] M := by
  refine jk_load (pc := 23) hX 2 rfl rfl ?_
  refine jk_const (pc := 24) hX 119 rfl (by decide) ?_
  refine jk_cge (pc := 25) hX 38 rfl (fun q13 => ?_) (fun q14 => ?_)
  · have h1 := h.1 q13
    refine jk_const (pc := 38) hX 0 rfl (by decide) ?_
    refine jk_store (pc := 39) hX 2 rfl (Nat.le_of_ble_eq_true rfl) (ls' := [.inr 1, .inl v1, .inl 0, .inr 0, .inr 0, .inr 0, .inr 0, .inr 0, .inr 0, .inr 0]) rfl ?_
    refine jk_const (pc := 40) hX 0 rfl (by decide) ?_
    refine jk_store (pc := 41) hX 3 rfl (Nat.le_of_ble_eq_true rfl) (ls' := [.inr 1, .inl v1, .inl 0, .inl 0, .inr 0, .inr 0, .inr 0, .inr 0, .inr 0, .inr 0]) rfl ?_
    refine jk_const (pc := 42) hX 0 rfl (by decide) ?_
    refine jk_store (pc := 43) hX 4 rfl (Nat.le_of_ble_eq_true rfl) (ls' := [.inr 1, .inl v1, .inl 0, .inl 0, .inl 0, .inr 0, .inr 0, .inr 0, .inr 0, .inr 0]) rfl ?_
    exact h1
  · have h2 := h.2 q14
    refine jk_aload (pc := 26) hX 0 rfl rfl ?_
    refine jk_getR (pc := 27) hX 7 18 rfl rfl (r := 14) rfl ?_
    refine jk_load (pc := 28) hX 2 rfl rfl ?_
    refine jk_load (pc := 29) hX 2 rfl rfl ?_
    refine jk_const (pc := 30) hX 6 rfl (by decide) ?_
    refine jk_cne (pc := 31) hX 34 rfl (fun q11 => ?_) (fun q12 => ?_)
    · have h3 := h2.1 q11
      obtain ⟨⟨g5, g6⟩, h7⟩ := h3
      refine jk_const (pc := 34) hX 0 rfl (by decide) ?_
      refine jk_zast (pc := 35) hX 119 rfl rfl g5 (Or.inl rfl) ?_
      refine jk_iinc (pc := 36) hX 2 1 rfl rfl g6 (ls' := [.inr 1, .inl v1, .inl (v2 + 1), .inr 0, .inr 0, .inr 0, .inr 0, .inr 0, .inr 0, .inr 0]) rfl ?_
      refine jk_goto (pc := 37) hX 23 rfl ?_
      exact h7
    · have h4 := h2.2 q12
      obtain ⟨⟨g8, g9⟩, h10⟩ := h4
      refine jk_const (pc := 32) hX 1 rfl (by decide) ?_
      refine jk_goto (pc := 33) hX 35 rfl ?_
      refine jk_zast (pc := 35) hX 119 rfl rfl g8 (Or.inr rfl) ?_
      refine jk_iinc (pc := 36) hX 2 1 rfl rfl g9 (ls' := [.inr 1, .inl v1, .inl (v2 + 1), .inr 0, .inr 0, .inr 0, .inr 0, .inr 0, .inr 0, .inr 0]) rfl ?_
      refine jk_goto (pc := 37) hX 23 rfl ?_
      exact h10
set_option maxHeartbeats 4000000 in
theorem bk_F_boundaryInBest_44 {d : Nat} {K : jxK} {X : jxX} (hX : jx_clo jx_G2 (d + 5) (jx_call jx_G2 jx_T (d + 5)) kc_F_boundaryInBest K X) (v1 : Int) (v2 : Int) (v3 : Int) (v4 : Int) (M : jxM)
    (h : (((-2147483648 : Int) ≤ 7 * (M 2 271) ∧ 7 * (M 2 271) ≤ 2147483647)) ∧ (((7 * (M 2 271)) ≤ v4 → ((v2 ≠ 0 → ((v3 = 0 → K (some (.inl 2)) M) ∧ (v3 ≠ 0 → K (some (.inl 1)) M))) ∧ (v2 = 0 → K (some (.inl 0)) M))) ∧ (v4 < (7 * (M 2 271)) → ((0 ≤ v4 ∧ v4 < 119)) ∧ (((M 15 v4) ≠ 0 → ((0 ≤ v4)) ∧ ((v2 ≠ 0 → jx_call jx_G2 jx_T (d + 5) 106 [.inr 1, .inl (v4 / 7)] M (fun r M19 => r = none ∧ X 76 [.inr 1, .inl v1, .inl 1, .inl v3, .inl v4, .inl (v4 / 7), .inl 0, .inr 0, .inr 0, .inr 0] [] M19)) ∧ (v2 = 0 → (((v4 / 7) ≠ v1 → jx_call jx_G2 jx_T (d + 5) 106 [.inr 1, .inl (v4 / 7)] M (fun r M24 => r = none ∧ X 76 [.inr 1, .inl v1, .inl 0, .inl v3, .inl v4, .inl (v4 / 7), .inl 0, .inr 0, .inr 0, .inr 0] [] M24)) ∧ ((v4 / 7) = v1 → jx_call jx_G2 jx_T (d + 5) 106 [.inr 1, .inl (v4 / 7)] M (fun r M27 => r = none ∧ X 76 [.inr 1, .inl v1, .inl 1, .inl v3, .inl v4, .inl (v4 / 7), .inl 0, .inr 0, .inr 0, .inr 0] [] M27)))))) ∧ ((M 15 v4) = 0 → (((-2147483648 : Int) ≤ v4 + 1 ∧ v4 + 1 ≤ 2147483647)) ∧ X 44 [.inr 1, .inl v1, .inl v2, .inl v3, .inl (v4 + 1), .inr 0, .inr 0, .inr 0, .inr 0, .inr 0] [] M))))) :
    X 44 [.inr 1, .inl v1, .inl v2, .inl v3, .inl v4, .inr 0, .inr 0, .inr 0, .inr 0, .inr 0] [] M := by
  obtain ⟨g1, h41⟩ := h
  refine jk_load (pc := 44) hX 4 rfl rfl ?_
  refine jk_const (pc := 45) hX 7 rfl (by decide) ?_
  refine jk_aload (pc := 46) hX 0 rfl rfl ?_
  refine jk_getR (pc := 47) hX 7 0 rfl rfl (r := 1) rfl ?_
  refine jk_const (pc := 48) hX 271 rfl (by decide) ?_
  refine jk_iald (pc := 49) hX 305 rfl rfl (by decide) ?_
  refine jk_mul (pc := 50) hX rfl g1 ?_
  refine jk_cge (pc := 51) hX 153 rfl (fun q39 => ?_) (fun q40 => ?_)
  · have h2 := h41.1 q39
    refine jk_load (pc := 153) hX 2 rfl rfl ?_
    refine jk_zne (pc := 154) hX 157 rfl (fun q10 => ?_) (fun q11 => ?_)
    · have h4 := h2.1 q10
      refine jk_load (pc := 157) hX 3 rfl rfl ?_
      refine jk_zeq (pc := 158) hX 161 rfl (fun q8 => ?_) (fun q9 => ?_)
      · have h6 := h4.1 q8
        refine jk_const (pc := 161) hX 2 rfl (by decide) ?_
        exact jk_iret (pc := 162) hX rfl h6
      · have h7 := h4.2 q9
        refine jk_const (pc := 159) hX 1 rfl (by decide) ?_
        refine jk_goto (pc := 160) hX 162 rfl ?_
        exact jk_iret (pc := 162) hX rfl h7
    · have h5 := h2.2 q11
      refine jk_const (pc := 155) hX 0 rfl (by decide) ?_
      refine jk_goto (pc := 156) hX 162 rfl ?_
      exact jk_iret (pc := 162) hX rfl h5
  · have h3 := h41.2 q40
    obtain ⟨g12, h38⟩ := h3
    refine jk_aload (pc := 52) hX 0 rfl rfl ?_
    refine jk_getR (pc := 53) hX 7 18 rfl rfl (r := 14) rfl ?_
    refine jk_load (pc := 54) hX 4 rfl rfl ?_
    refine jk_zald (pc := 55) hX 119 rfl rfl g12 ?_
    refine jk_zne (pc := 56) hX 58 rfl (fun q36 => ?_) (fun q37 => ?_)
    · have h13 := h38.1 q36
      obtain ⟨g15, h33⟩ := h13
      refine jk_load (pc := 58) hX 4 rfl rfl ?_
      refine jk_const (pc := 59) hX 7 rfl (by decide) ?_
      refine jk_div (pc := 60) hX rfl g15 (by decide) ?_
      refine jk_store (pc := 61) hX 5 rfl (Nat.le_of_ble_eq_true rfl) (ls' := [.inr 1, .inl v1, .inl v2, .inl v3, .inl v4, .inl (v4 / 7), .inr 0, .inr 0, .inr 0, .inr 0]) rfl ?_
      refine jk_load (pc := 62) hX 2 rfl rfl ?_
      refine jk_zne (pc := 63) hX 67 rfl (fun q31 => ?_) (fun q32 => ?_)
      · have h16 := h33.1 q31
        refine jk_const (pc := 67) hX 1 rfl (by decide) ?_
        refine jk_goto (pc := 68) hX 70 rfl ?_
        refine jk_store (pc := 70) hX 2 rfl (Nat.le_of_ble_eq_true rfl) (ls' := [.inr 1, .inl v1, .inl 1, .inl v3, .inl v4, .inl (v4 / 7), .inr 0, .inr 0, .inr 0, .inr 0]) rfl ?_
        refine jk_aload (pc := 71) hX 0 rfl rfl ?_
        refine jk_load (pc := 72) hX 5 rfl rfl ?_
        refine jk_cv (pc := 73) hX 106 1 7 rfl 1 [.inl (v4 / 7)] [] rfl rfl rfl (Nat.le_of_ble_eq_true rfl) (jx_mono (fun r M19 hr => ?_) h16)
        obtain ⟨rfl, h20⟩ := hr
        show X 74 [.inr 1, .inl v1, .inl 1, .inl v3, .inl v4, .inl (v4 / 7), .inr 0, .inr 0, .inr 0, .inr 0] [] M19
        refine jk_const (pc := 74) hX 0 rfl (by decide) ?_
        refine jk_store (pc := 75) hX 6 rfl (Nat.le_of_ble_eq_true rfl) (ls' := [.inr 1, .inl v1, .inl 1, .inl v3, .inl v4, .inl (v4 / 7), .inl 0, .inr 0, .inr 0, .inr 0]) rfl ?_
        exact h20
      · have h17 := h33.2 q32
        refine jk_load (pc := 64) hX 5 rfl rfl ?_
        refine jk_load (pc := 65) hX 1 rfl rfl ?_
        refine jk_cne (pc := 66) hX 69 rfl (fun q29 => ?_) (fun q30 => ?_)
        · have h21 := h17.1 q29
          refine jk_const (pc := 69) hX 0 rfl (by decide) ?_
          refine jk_store (pc := 70) hX 2 rfl (Nat.le_of_ble_eq_true rfl) (ls' := [.inr 1, .inl v1, .inl 0, .inl v3, .inl v4, .inl (v4 / 7), .inr 0, .inr 0, .inr 0, .inr 0]) rfl ?_
          refine jk_aload (pc := 71) hX 0 rfl rfl ?_
          refine jk_load (pc := 72) hX 5 rfl rfl ?_
          refine jk_cv (pc := 73) hX 106 1 7 rfl 1 [.inl (v4 / 7)] [] rfl rfl rfl (Nat.le_of_ble_eq_true rfl) (jx_mono (fun r M24 hr => ?_) h21)
          obtain ⟨rfl, h25⟩ := hr
          show X 74 [.inr 1, .inl v1, .inl 0, .inl v3, .inl v4, .inl (v4 / 7), .inr 0, .inr 0, .inr 0, .inr 0] [] M24
          refine jk_const (pc := 74) hX 0 rfl (by decide) ?_
          refine jk_store (pc := 75) hX 6 rfl (Nat.le_of_ble_eq_true rfl) (ls' := [.inr 1, .inl v1, .inl 0, .inl v3, .inl v4, .inl (v4 / 7), .inl 0, .inr 0, .inr 0, .inr 0]) rfl ?_
          exact h25
        · have h22 := h17.2 q30
          refine jk_const (pc := 67) hX 1 rfl (by decide) ?_
          refine jk_goto (pc := 68) hX 70 rfl ?_
          refine jk_store (pc := 70) hX 2 rfl (Nat.le_of_ble_eq_true rfl) (ls' := [.inr 1, .inl v1, .inl 1, .inl v3, .inl v4, .inl (v4 / 7), .inr 0, .inr 0, .inr 0, .inr 0]) rfl ?_
          refine jk_aload (pc := 71) hX 0 rfl rfl ?_
          refine jk_load (pc := 72) hX 5 rfl rfl ?_
          refine jk_cv (pc := 73) hX 106 1 7 rfl 1 [.inl (v4 / 7)] [] rfl rfl rfl (Nat.le_of_ble_eq_true rfl) (jx_mono (fun r M27 hr => ?_) h22)
          obtain ⟨rfl, h28⟩ := hr
          show X 74 [.inr 1, .inl v1, .inl 1, .inl v3, .inl v4, .inl (v4 / 7), .inr 0, .inr 0, .inr 0, .inr 0] [] M27
          refine jk_const (pc := 74) hX 0 rfl (by decide) ?_
          refine jk_store (pc := 75) hX 6 rfl (Nat.le_of_ble_eq_true rfl) (ls' := [.inr 1, .inl v1, .inl 1, .inl v3, .inl v4, .inl (v4 / 7), .inl 0, .inr 0, .inr 0, .inr 0]) rfl ?_
          exact h28
    · have h14 := h38.2 q37
      obtain ⟨g34, h35⟩ := h14
      refine jk_goto (pc := 57) hX 151 rfl ?_
      refine jk_iinc (pc := 151) hX 4 1 rfl rfl g34 (ls' := [.inr 1, .inl v1, .inl v2, .inl v3, .inl (v4 + 1), .inr 0, .inr 0, .inr 0, .inr 0, .inr 0]) rfl ?_
      refine jk_goto (pc := 152) hX 44 rfl ?_
      exact h35
set_option maxHeartbeats 4000000 in
theorem bk_F_boundaryInBest_76 {d : Nat} {K : jxK} {X : jxX} (hX : jx_clo jx_G2 (d + 5) (jx_call jx_G2 jx_T (d + 5)) kc_F_boundaryInBest K X) (v1 : Int) (v2 : Int) (v3 : Int) (v4 : Int) (v5 : Int) (v6 : Int) (M : jxM)
    (h : (((M 1 6) ≤ v6 → (((-2147483648 : Int) ≤ v4 + 1 ∧ v4 + 1 ≤ 2147483647)) ∧ X 44 [.inr 1, .inl v1, .inl v2, .inl v3, .inl (v4 + 1), .inr 0, .inr 0, .inr 0, .inr 0, .inr 0] [] M) ∧ (v6 < (M 1 6) → ((0 ≤ v6 ∧ v6 < 21) ∧ (((M 5 v6) = -5 ∨ (0 : Int) ≤ (M 5 v6) ∧ (M 5 v6) < 20 ∧ (0 : Int) ≤ (M 2 (1 + 11 * (M 5 v6))) ∧ (M 2 (1 + 11 * (M 5 v6))) ≤ 6) ∧ (0 : Int) ≤ v5 ∧ v5 ≤ 16) ∧ ((-2147483648 : Int) ≤ 7 * (f_end (M 2) (M 5 v6) v5) ∧ 7 * (f_end (M 2) (M 5 v6) v5) ≤ 2147483647) ∧ ((M 5 v6) = -5 ∨ (0 : Int) ≤ (M 5 v6) ∧ (M 5 v6) < 20) ∧ ((-2147483648 : Int) ≤ (7 * (f_end (M 2) (M 5 v6) v5)) + (f_cls (M 2) (M 5 v6)) ∧ (7 * (f_end (M 2) (M 5 v6) v5)) + (f_cls (M 2) (M 5 v6)) ≤ 2147483647) ∧ (0 ≤ v4) ∧ ((M 5 v6) = -5 ∨ (0 : Int) ≤ (M 5 v6) ∧ (M 5 v6) < 20) ∧ ((0 : Int) ≤ (v4 % 7) ∧ (v4 % 7) ≤ 6 ∧ (0 : Int) ≤ (f_cls (M 2) (M 5 v6)) ∧ (f_cls (M 2) (M 5 v6)) ≤ 6) ∧ ((M 5 v6) = -5 ∨ ((0 : Int) ≤ (M 5 v6) ∧ (M 5 v6) < 20) ∧ ((0 : Int) ≤ (M 2 (1 + 11 * (M 5 v6) + 9)) ∧ (M 2 (1 + 11 * (M 5 v6) + 9)) ≤ 99) ∧ ((0 : Int) ≤ (M 2 (1 + 11 * (M 5 v6) + 10)) ∧ (M 2 (1 + 11 * (M 5 v6) + 10)) ≤ 9)) ∧ ((-2147483648 : Int) ≤ ((M 2 (221 + 7 * (v4 % 7) + (f_cls (M 2) (M 5 v6))))) + (f_cost (M 2) (M 5 v6)) ∧ ((M 2 (221 + 7 * (v4 % 7) + (f_cls (M 2) (M 5 v6))))) + (f_cost (M 2) (M 5 v6)) ≤ 2147483647) ∧ (0 ≤ ((7 * (f_end (M 2) (M 5 v6) v5)) + (f_cls (M 2) (M 5 v6))) ∧ ((7 * (f_end (M 2) (M 5 v6) v5)) + (f_cls (M 2) (M 5 v6))) < 119)) ∧ (((M 6 ((7 * (f_end (M 2) (M 5 v6) v5)) + (f_cls (M 2) (M 5 v6)))) ≤ 0 → (((-2147483648 : Int) ≤ v6 + 1 ∧ v6 + 1 ≤ 2147483647)) ∧ X 76 [.inr 1, .inl v1, .inl v2, .inl v3, .inl v4, .inl v5, .inl (v6 + 1), .inr 0, .inr 0, .inr 0] [] M) ∧ (0 < (M 6 ((7 * (f_end (M 2) (M 5 v6) v5)) + (f_cls (M 2) (M 5 v6)))) → (((-2147483648 : Int) ≤ 20 * ((7 * (f_end (M 2) (M 5 v6) v5)) + (f_cls (M 2) (M 5 v6))) ∧ 20 * ((7 * (f_end (M 2) (M 5 v6) v5)) + (f_cls (M 2) (M 5 v6))) ≤ 2147483647) ∧ (0 ≤ (20 * ((7 * (f_end (M 2) (M 5 v6) v5)) + (f_cls (M 2) (M 5 v6)))) ∧ (20 * ((7 * (f_end (M 2) (M 5 v6) v5)) + (f_cls (M 2) (M 5 v6)))) < 2380) ∧ ((-2147483648 : Int) ≤ (((M 2 (221 + 7 * (v4 % 7) + (f_cls (M 2) (M 5 v6))))) + (f_cost (M 2) (M 5 v6))) + (M 7 (20 * ((7 * (f_end (M 2) (M 5 v6) v5)) + (f_cls (M 2) (M 5 v6))))) ∧ (((M 2 (221 + 7 * (v4 % 7) + (f_cls (M 2) (M 5 v6))))) + (f_cost (M 2) (M 5 v6))) + (M 7 (20 * ((7 * (f_end (M 2) (M 5 v6) v5)) + (f_cls (M 2) (M 5 v6))))) ≤ 2147483647) ∧ ((-2147483648 : Int) ≤ 20 * v4 ∧ 20 * v4 ≤ 2147483647) ∧ (0 ≤ (20 * v4) ∧ (20 * v4) < 2380)) ∧ ((((((M 2 (221 + 7 * (v4 % 7) + (f_cls (M 2) (M 5 v6))))) + (f_cost (M 2) (M 5 v6))) + (M 7 (20 * ((7 * (f_end (M 2) (M 5 v6) v5)) + (f_cls (M 2) (M 5 v6)))))) ≠ (M 7 (20 * v4)) → (((-2147483648 : Int) ≤ v6 + 1 ∧ v6 + 1 ≤ 2147483647)) ∧ X 76 [.inr 1, .inl v1, .inl v2, .inl v3, .inl v4, .inl v5, .inl (v6 + 1), .inr 0, .inr 0, .inr 0] [] M) ∧ (((((M 2 (221 + 7 * (v4 % 7) + (f_cls (M 2) (M 5 v6))))) + (f_cost (M 2) (M 5 v6))) + (M 7 (20 * ((7 * (f_end (M 2) (M 5 v6) v5)) + (f_cls (M 2) (M 5 v6)))))) = (M 7 (20 * v4)) → ((0 ≤ ((7 * (f_end (M 2) (M 5 v6) v5)) + (f_cls (M 2) (M 5 v6))) ∧ ((7 * (f_end (M 2) (M 5 v6) v5)) + (f_cls (M 2) (M 5 v6))) < 119)) ∧ ((v3 ≠ 0 → (((-2147483648 : Int) ≤ v6 + 1 ∧ v6 + 1 ≤ 2147483647)) ∧ X 76 [.inr 1, .inl v1, .inl v2, .inl 1, .inl v4, .inl v5, .inl (v6 + 1), .inr 0, .inr 0, .inr 0] [] (jx_up M 15 ((7 * (f_end (M 2) (M 5 v6) v5)) + (f_cls (M 2) (M 5 v6))) 1)) ∧ (v3 = 0 → ((v1 ≤ v5 → (((-2147483648 : Int) ≤ v6 + 1 ∧ v6 + 1 ≤ 2147483647)) ∧ X 76 [.inr 1, .inl v1, .inl v2, .inl 0, .inl v4, .inl v5, .inl (v6 + 1), .inr 0, .inr 0, .inr 0] [] (jx_up M 15 ((7 * (f_end (M 2) (M 5 v6) v5)) + (f_cls (M 2) (M 5 v6))) 1)) ∧ (v5 < v1 → ((((M 5 v6) = -5 ∨ (0 : Int) ≤ (M 5 v6) ∧ (M 5 v6) < 20 ∧ (0 : Int) ≤ (M 2 (1 + 11 * (M 5 v6))) ∧ (M 2 (1 + 11 * (M 5 v6))) ≤ 6) ∧ (0 : Int) ≤ v5 ∧ v5 ≤ 16)) ∧ (((f_end ((jx_up M 15 ((7 * (f_end (M 2) (M 5 v6) v5)) + (f_cls (M 2) (M 5 v6))) 1) 2) (M 5 v6) v5) ≤ v1 → (((-2147483648 : Int) ≤ v6 + 1 ∧ v6 + 1 ≤ 2147483647)) ∧ X 76 [.inr 1, .inl v1, .inl v2, .inl 0, .inl v4, .inl v5, .inl (v6 + 1), .inr 0, .inr 0, .inr 0] [] (jx_up M 15 ((7 * (f_end (M 2) (M 5 v6) v5)) + (f_cls (M 2) (M 5 v6))) 1)) ∧ (v1 < (f_end ((jx_up M 15 ((7 * (f_end (M 2) (M 5 v6) v5)) + (f_cls (M 2) (M 5 v6))) 1) 2) (M 5 v6) v5) → (((-2147483648 : Int) ≤ v6 + 1 ∧ v6 + 1 ≤ 2147483647)) ∧ X 76 [.inr 1, .inl v1, .inl v2, .inl 1, .inl v4, .inl v5, .inl (v6 + 1), .inr 0, .inr 0, .inr 0] [] (jx_up M 15 ((7 * (f_end (M 2) (M 5 v6) v5)) + (f_cls (M 2) (M 5 v6))) 1)))))))))))))) :
    X 76 [.inr 1, .inl v1, .inl v2, .inl v3, .inl v4, .inl v5, .inl v6, .inr 0, .inr 0, .inr 0] [] M := by
  refine jk_load (pc := 76) hX 6 rfl rfl ?_
  refine jk_aload (pc := 77) hX 0 rfl rfl ?_
  refine jk_getI (pc := 78) hX 7 6 rfl rfl rfl ?_
  refine jk_cge (pc := 79) hX 151 rfl (fun q59 => ?_) (fun q60 => ?_)
  · have h1 := h.1 q59
    obtain ⟨g3, h4⟩ := h1
    refine jk_iinc (pc := 151) hX 4 1 rfl rfl g3 (ls' := [.inr 1, .inl v1, .inl v2, .inl v3, .inl (v4 + 1), .inl v5, .inl v6, .inr 0, .inr 0, .inr 0]) rfl ?_
    refine jk_goto (pc := 152) hX 44 rfl ?_
    refine jk_forget (pc := 44) hX 5 (ls' := [.inr 1, .inl v1, .inl v2, .inl v3, .inl (v4 + 1), .inr 0, .inl v6, .inr 0, .inr 0, .inr 0]) rfl ?_
    refine jk_forget (pc := 44) hX 6 (ls' := [.inr 1, .inl v1, .inl v2, .inl v3, .inl (v4 + 1), .inr 0, .inr 0, .inr 0, .inr 0, .inr 0]) rfl ?_
    exact h4
  · have h2 := h.2 q60
    obtain ⟨⟨g5, g6, g7, g8, g9, g10, g11, g12, g13, g14, g15⟩, h58⟩ := h2
    refine jk_aload (pc := 80) hX 0 rfl rfl ?_
    refine jk_getR (pc := 81) hX 7 7 rfl rfl (r := 4) rfl ?_
    refine jk_load (pc := 82) hX 6 rfl rfl ?_
    refine jk_iald (pc := 83) hX 21 rfl rfl g5 ?_
    refine jk_store (pc := 84) hX 7 rfl (Nat.le_of_ble_eq_true rfl) (ls' := [.inr 1, .inl v1, .inl v2, .inl v3, .inl v4, .inl v5, .inl v6, .inl (M 5 v6), .inr 0, .inr 0]) rfl ?_
    refine jk_const (pc := 85) hX 7 rfl (by decide) ?_
    refine jk_aload (pc := 86) hX 0 rfl rfl ?_
    refine jk_load (pc := 87) hX 7 rfl rfl ?_
    refine jk_load (pc := 88) hX 5 rfl rfl ?_
    refine jk_cv (pc := 89) hX 107 2 7 rfl 1 [.inl (M 5 v6), .inl v5] [.inl 7] rfl rfl rfl (Nat.le_of_ble_eq_true rfl) (sp_F_endOf (d + 3) (M 5 v6) v5 M g6 ?_)
    show X 90 [.inr 1, .inl v1, .inl v2, .inl v3, .inl v4, .inl v5, .inl v6, .inl (M 5 v6), .inr 0, .inr 0] [.inl (f_end (M 2) (M 5 v6) v5), .inl 7] M
    refine jk_mul (pc := 90) hX rfl g7 ?_
    refine jk_aload (pc := 91) hX 0 rfl rfl ?_
    refine jk_load (pc := 92) hX 7 rfl rfl ?_
    refine jk_cv (pc := 93) hX 108 1 7 rfl 1 [.inl (M 5 v6)] [.inl (7 * (f_end (M 2) (M 5 v6) v5))] rfl rfl rfl (Nat.le_of_ble_eq_true rfl) (sp_F_classOf (d + 3) (M 5 v6) M g8 ?_)
    show X 94 [.inr 1, .inl v1, .inl v2, .inl v3, .inl v4, .inl v5, .inl v6, .inl (M 5 v6), .inr 0, .inr 0] [.inl (f_cls (M 2) (M 5 v6)), .inl (7 * (f_end (M 2) (M 5 v6) v5))] M
    refine jk_add (pc := 94) hX rfl g9 ?_
    refine jk_store (pc := 95) hX 8 rfl (Nat.le_of_ble_eq_true rfl) (ls' := [.inr 1, .inl v1, .inl v2, .inl v3, .inl v4, .inl v5, .inl v6, .inl (M 5 v6), .inl ((7 * (f_end (M 2) (M 5 v6) v5)) + (f_cls (M 2) (M 5 v6))), .inr 0]) rfl ?_
    refine jk_aload (pc := 96) hX 0 rfl rfl ?_
    refine jk_load (pc := 97) hX 4 rfl rfl ?_
    refine jk_const (pc := 98) hX 7 rfl (by decide) ?_
    refine jk_rem (pc := 99) hX rfl g10 (by decide) ?_
    refine jk_aload (pc := 100) hX 0 rfl rfl ?_
    refine jk_load (pc := 101) hX 7 rfl rfl ?_
    refine jk_cv (pc := 102) hX 108 1 7 rfl 1 [.inl (M 5 v6)] [.inl (v4 % 7), .inr 1] rfl rfl rfl (Nat.le_of_ble_eq_true rfl) (sp_F_classOf (d + 3) (M 5 v6) M g11 ?_)
    show X 103 [.inr 1, .inl v1, .inl v2, .inl v3, .inl v4, .inl v5, .inl v6, .inl (M 5 v6), .inl ((7 * (f_end (M 2) (M 5 v6) v5)) + (f_cls (M 2) (M 5 v6))), .inr 0] [.inl (f_cls (M 2) (M 5 v6)), .inl (v4 % 7), .inr 1] M
    refine jk_cv (pc := 103) hX 110 2 7 rfl 1 [.inl (v4 % 7), .inl (f_cls (M 2) (M 5 v6))] [] rfl rfl rfl (Nat.le_of_ble_eq_true rfl) (sp_F_between (d + 4) (v4 % 7) (f_cls (M 2) (M 5 v6)) M g12 ?_)
    show X 104 [.inr 1, .inl v1, .inl v2, .inl v3, .inl v4, .inl v5, .inl v6, .inl (M 5 v6), .inl ((7 * (f_end (M 2) (M 5 v6) v5)) + (f_cls (M 2) (M 5 v6))), .inr 0] [.inl ((M 2 (221 + 7 * (v4 % 7) + (f_cls (M 2) (M 5 v6)))))] M
    refine jk_aload (pc := 104) hX 0 rfl rfl ?_
    refine jk_load (pc := 105) hX 7 rfl rfl ?_
    refine jk_cv (pc := 106) hX 109 1 7 rfl 1 [.inl (M 5 v6)] [.inl ((M 2 (221 + 7 * (v4 % 7) + (f_cls (M 2) (M 5 v6)))))] rfl rfl rfl (Nat.le_of_ble_eq_true rfl) (sp_F_segmentCost (d + 2) (M 5 v6) M g13 ?_)
    show X 107 [.inr 1, .inl v1, .inl v2, .inl v3, .inl v4, .inl v5, .inl v6, .inl (M 5 v6), .inl ((7 * (f_end (M 2) (M 5 v6) v5)) + (f_cls (M 2) (M 5 v6))), .inr 0] [.inl (f_cost (M 2) (M 5 v6)), .inl ((M 2 (221 + 7 * (v4 % 7) + (f_cls (M 2) (M 5 v6)))))] M
    refine jk_add (pc := 107) hX rfl g14 ?_
    refine jk_store (pc := 108) hX 9 rfl (Nat.le_of_ble_eq_true rfl) (ls' := [.inr 1, .inl v1, .inl v2, .inl v3, .inl v4, .inl v5, .inl v6, .inl (M 5 v6), .inl ((7 * (f_end (M 2) (M 5 v6) v5)) + (f_cls (M 2) (M 5 v6))), .inl (((M 2 (221 + 7 * (v4 % 7) + (f_cls (M 2) (M 5 v6))))) + (f_cost (M 2) (M 5 v6)))]) rfl ?_
    refine jk_aload (pc := 109) hX 0 rfl rfl ?_
    refine jk_getR (pc := 110) hX 7 8 rfl rfl (r := 5) rfl ?_
    refine jk_load (pc := 111) hX 8 rfl rfl ?_
    refine jk_iald (pc := 112) hX 119 rfl rfl g15 ?_
    refine jk_zle (pc := 113) hX 149 rfl (fun q56 => ?_) (fun q57 => ?_)
    · have h16 := h58.1 q56
      obtain ⟨g18, h19⟩ := h16
      refine jk_iinc (pc := 149) hX 6 1 rfl rfl g18 (ls' := [.inr 1, .inl v1, .inl v2, .inl v3, .inl v4, .inl v5, .inl (v6 + 1), .inl (M 5 v6), .inl ((7 * (f_end (M 2) (M 5 v6) v5)) + (f_cls (M 2) (M 5 v6))), .inl (((M 2 (221 + 7 * (v4 % 7) + (f_cls (M 2) (M 5 v6))))) + (f_cost (M 2) (M 5 v6)))]) rfl ?_
      refine jk_goto (pc := 150) hX 76 rfl ?_
      refine jk_forget (pc := 76) hX 7 (ls' := [.inr 1, .inl v1, .inl v2, .inl v3, .inl v4, .inl v5, .inl (v6 + 1), .inr 0, .inl ((7 * (f_end (M 2) (M 5 v6) v5)) + (f_cls (M 2) (M 5 v6))), .inl (((M 2 (221 + 7 * (v4 % 7) + (f_cls (M 2) (M 5 v6))))) + (f_cost (M 2) (M 5 v6)))]) rfl ?_
      refine jk_forget (pc := 76) hX 8 (ls' := [.inr 1, .inl v1, .inl v2, .inl v3, .inl v4, .inl v5, .inl (v6 + 1), .inr 0, .inr 0, .inl (((M 2 (221 + 7 * (v4 % 7) + (f_cls (M 2) (M 5 v6))))) + (f_cost (M 2) (M 5 v6)))]) rfl ?_
      refine jk_forget (pc := 76) hX 9 (ls' := [.inr 1, .inl v1, .inl v2, .inl v3, .inl v4, .inl v5, .inl (v6 + 1), .inr 0, .inr 0, .inr 0]) rfl ?_
      exact h19
    · have h17 := h58.2 q57
      obtain ⟨⟨g20, g21, g22, g23, g24⟩, h55⟩ := h17
      refine jk_load (pc := 114) hX 9 rfl rfl ?_
      refine jk_aload (pc := 115) hX 0 rfl rfl ?_
      refine jk_getR (pc := 116) hX 7 9 rfl rfl (r := 6) rfl ?_
      refine jk_const (pc := 117) hX 20 rfl (by decide) ?_
      refine jk_load (pc := 118) hX 8 rfl rfl ?_
      refine jk_mul (pc := 119) hX rfl g20 ?_
      refine jk_iald (pc := 120) hX 2380 rfl rfl g21 ?_
      refine jk_add (pc := 121) hX rfl g22 ?_
      refine jk_aload (pc := 122) hX 0 rfl rfl ?_
      refine jk_getR (pc := 123) hX 7 9 rfl rfl (r := 6) rfl ?_
      refine jk_const (pc := 124) hX 20 rfl (by decide) ?_
      refine jk_load (pc := 125) hX 4 rfl rfl ?_
      refine jk_mul (pc := 126) hX rfl g23 ?_
      refine jk_iald (pc := 127) hX 2380 rfl rfl g24 ?_
      refine jk_cne (pc := 128) hX 149 rfl (fun q53 => ?_) (fun q54 => ?_)
      · have h25 := h55.1 q53
        obtain ⟨g27, h28⟩ := h25
        refine jk_iinc (pc := 149) hX 6 1 rfl rfl g27 (ls' := [.inr 1, .inl v1, .inl v2, .inl v3, .inl v4, .inl v5, .inl (v6 + 1), .inl (M 5 v6), .inl ((7 * (f_end (M 2) (M 5 v6) v5)) + (f_cls (M 2) (M 5 v6))), .inl (((M 2 (221 + 7 * (v4 % 7) + (f_cls (M 2) (M 5 v6))))) + (f_cost (M 2) (M 5 v6)))]) rfl ?_
        refine jk_goto (pc := 150) hX 76 rfl ?_
        refine jk_forget (pc := 76) hX 7 (ls' := [.inr 1, .inl v1, .inl v2, .inl v3, .inl v4, .inl v5, .inl (v6 + 1), .inr 0, .inl ((7 * (f_end (M 2) (M 5 v6) v5)) + (f_cls (M 2) (M 5 v6))), .inl (((M 2 (221 + 7 * (v4 % 7) + (f_cls (M 2) (M 5 v6))))) + (f_cost (M 2) (M 5 v6)))]) rfl ?_
        refine jk_forget (pc := 76) hX 8 (ls' := [.inr 1, .inl v1, .inl v2, .inl v3, .inl v4, .inl v5, .inl (v6 + 1), .inr 0, .inr 0, .inl (((M 2 (221 + 7 * (v4 % 7) + (f_cls (M 2) (M 5 v6))))) + (f_cost (M 2) (M 5 v6)))]) rfl ?_
        refine jk_forget (pc := 76) hX 9 (ls' := [.inr 1, .inl v1, .inl v2, .inl v3, .inl v4, .inl v5, .inl (v6 + 1), .inr 0, .inr 0, .inr 0]) rfl ?_
        exact h28
      · have h26 := h55.2 q54
        obtain ⟨g29, h52⟩ := h26
        refine jk_aload (pc := 129) hX 0 rfl rfl ?_
        refine jk_getR (pc := 130) hX 7 18 rfl rfl (r := 14) rfl ?_
        refine jk_load (pc := 131) hX 8 rfl rfl ?_
        refine jk_const (pc := 132) hX 1 rfl (by decide) ?_
        refine jk_zast (pc := 133) hX 119 rfl rfl g29 (Or.inr rfl) ?_
        refine jk_load (pc := 134) hX 3 rfl rfl ?_
        refine jk_zne (pc := 135) hX 145 rfl (fun q50 => ?_) (fun q51 => ?_)
        · have h30 := h52.1 q50
          obtain ⟨g32, h33⟩ := h30
          refine jk_const (pc := 145) hX 1 rfl (by decide) ?_
          refine jk_goto (pc := 146) hX 148 rfl ?_
          refine jk_store (pc := 148) hX 3 rfl (Nat.le_of_ble_eq_true rfl) (ls' := [.inr 1, .inl v1, .inl v2, .inl 1, .inl v4, .inl v5, .inl v6, .inl (M 5 v6), .inl ((7 * (f_end (M 2) (M 5 v6) v5)) + (f_cls (M 2) (M 5 v6))), .inl (((M 2 (221 + 7 * (v4 % 7) + (f_cls (M 2) (M 5 v6))))) + (f_cost (M 2) (M 5 v6)))]) rfl ?_
          refine jk_iinc (pc := 149) hX 6 1 rfl rfl g32 (ls' := [.inr 1, .inl v1, .inl v2, .inl 1, .inl v4, .inl v5, .inl (v6 + 1), .inl (M 5 v6), .inl ((7 * (f_end (M 2) (M 5 v6) v5)) + (f_cls (M 2) (M 5 v6))), .inl (((M 2 (221 + 7 * (v4 % 7) + (f_cls (M 2) (M 5 v6))))) + (f_cost (M 2) (M 5 v6)))]) rfl ?_
          refine jk_goto (pc := 150) hX 76 rfl ?_
          refine jk_forget (pc := 76) hX 7 (ls' := [.inr 1, .inl v1, .inl v2, .inl 1, .inl v4, .inl v5, .inl (v6 + 1), .inr 0, .inl ((7 * (f_end (M 2) (M 5 v6) v5)) + (f_cls (M 2) (M 5 v6))), .inl (((M 2 (221 + 7 * (v4 % 7) + (f_cls (M 2) (M 5 v6))))) + (f_cost (M 2) (M 5 v6)))]) rfl ?_
          refine jk_forget (pc := 76) hX 8 (ls' := [.inr 1, .inl v1, .inl v2, .inl 1, .inl v4, .inl v5, .inl (v6 + 1), .inr 0, .inr 0, .inl (((M 2 (221 + 7 * (v4 % 7) + (f_cls (M 2) (M 5 v6))))) + (f_cost (M 2) (M 5 v6)))]) rfl ?_
          refine jk_forget (pc := 76) hX 9 (ls' := [.inr 1, .inl v1, .inl v2, .inl 1, .inl v4, .inl v5, .inl (v6 + 1), .inr 0, .inr 0, .inr 0]) rfl ?_
          exact h33
        · have h31 := h52.2 q51
          refine jk_load (pc := 136) hX 5 rfl rfl ?_
          refine jk_load (pc := 137) hX 1 rfl rfl ?_
          refine jk_cge (pc := 138) hX 147 rfl (fun q48 => ?_) (fun q49 => ?_)
          · have h34 := h31.1 q48
            obtain ⟨g36, h37⟩ := h34
            refine jk_const (pc := 147) hX 0 rfl (by decide) ?_
            refine jk_store (pc := 148) hX 3 rfl (Nat.le_of_ble_eq_true rfl) (ls' := [.inr 1, .inl v1, .inl v2, .inl 0, .inl v4, .inl v5, .inl v6, .inl (M 5 v6), .inl ((7 * (f_end (M 2) (M 5 v6) v5)) + (f_cls (M 2) (M 5 v6))), .inl (((M 2 (221 + 7 * (v4 % 7) + (f_cls (M 2) (M 5 v6))))) + (f_cost (M 2) (M 5 v6)))]) rfl ?_
            refine jk_iinc (pc := 149) hX 6 1 rfl rfl g36 (ls' := [.inr 1, .inl v1, .inl v2, .inl 0, .inl v4, .inl v5, .inl (v6 + 1), .inl (M 5 v6), .inl ((7 * (f_end (M 2) (M 5 v6) v5)) + (f_cls (M 2) (M 5 v6))), .inl (((M 2 (221 + 7 * (v4 % 7) + (f_cls (M 2) (M 5 v6))))) + (f_cost (M 2) (M 5 v6)))]) rfl ?_
            refine jk_goto (pc := 150) hX 76 rfl ?_
            refine jk_forget (pc := 76) hX 7 (ls' := [.inr 1, .inl v1, .inl v2, .inl 0, .inl v4, .inl v5, .inl (v6 + 1), .inr 0, .inl ((7 * (f_end (M 2) (M 5 v6) v5)) + (f_cls (M 2) (M 5 v6))), .inl (((M 2 (221 + 7 * (v4 % 7) + (f_cls (M 2) (M 5 v6))))) + (f_cost (M 2) (M 5 v6)))]) rfl ?_
            refine jk_forget (pc := 76) hX 8 (ls' := [.inr 1, .inl v1, .inl v2, .inl 0, .inl v4, .inl v5, .inl (v6 + 1), .inr 0, .inr 0, .inl (((M 2 (221 + 7 * (v4 % 7) + (f_cls (M 2) (M 5 v6))))) + (f_cost (M 2) (M 5 v6)))]) rfl ?_
            refine jk_forget (pc := 76) hX 9 (ls' := [.inr 1, .inl v1, .inl v2, .inl 0, .inl v4, .inl v5, .inl (v6 + 1), .inr 0, .inr 0, .inr 0]) rfl ?_
            exact h37
          · have h35 := h31.2 q49
            obtain ⟨g38, h47⟩ := h35
            refine jk_aload (pc := 139) hX 0 rfl rfl ?_
            refine jk_load (pc := 140) hX 7 rfl rfl ?_
            refine jk_load (pc := 141) hX 5 rfl rfl ?_
            refine jk_cv (pc := 142) hX 107 2 7 rfl 1 [.inl (M 5 v6), .inl v5] [] rfl rfl rfl (Nat.le_of_ble_eq_true rfl) (sp_F_endOf (d + 3) (M 5 v6) v5 (jx_up M 15 ((7 * (f_end (M 2) (M 5 v6) v5)) + (f_cls (M 2) (M 5 v6))) 1) (by repeat (first | rw [jx_upc (by decide)] | rw [jx_cpc (by decide)]); exact g38) ?_)
            show X 143 [.inr 1, .inl v1, .inl v2, .inl v3, .inl v4, .inl v5, .inl v6, .inl (M 5 v6), .inl ((7 * (f_end (M 2) (M 5 v6) v5)) + (f_cls (M 2) (M 5 v6))), .inl (((M 2 (221 + 7 * (v4 % 7) + (f_cls (M 2) (M 5 v6))))) + (f_cost (M 2) (M 5 v6)))] [.inl (f_end ((jx_up M 15 ((7 * (f_end (M 2) (M 5 v6) v5)) + (f_cls (M 2) (M 5 v6))) 1) 2) (M 5 v6) v5)] (jx_up M 15 ((7 * (f_end (M 2) (M 5 v6) v5)) + (f_cls (M 2) (M 5 v6))) 1)
            show X 143 [.inr 1, .inl v1, .inl v2, .inl v3, .inl v4, .inl v5, .inl v6, .inl (M 5 v6), .inl ((7 * (f_end (M 2) (M 5 v6) v5)) + (f_cls (M 2) (M 5 v6))), .inl (((M 2 (221 + 7 * (v4 % 7) + (f_cls (M 2) (M 5 v6))))) + (f_cost (M 2) (M 5 v6)))] [.inl (f_end ((jx_up M 15 ((7 * (f_end (M 2) (M 5 v6) v5)) + (f_cls (M 2) (M 5 v6))) 1) 2) (M 5 v6) v5)] (jx_up M 15 ((7 * (f_end (M 2) (M 5 v6) v5)) + (f_cls (M 2) (M 5 v6))) 1)
            refine jk_load (pc := 143) hX 1 rfl rfl ?_
            refine jk_cle (pc := 144) hX 147 rfl (fun q45 => ?_) (fun q46 => ?_)
            · have h39 := h47.1 q45
              obtain ⟨g41, h42⟩ := h39
              refine jk_const (pc := 147) hX 0 rfl (by decide) ?_
              refine jk_store (pc := 148) hX 3 rfl (Nat.le_of_ble_eq_true rfl) (ls' := [.inr 1, .inl v1, .inl v2, .inl 0, .inl v4, .inl v5, .inl v6, .inl (M 5 v6), .inl ((7 * (f_end (M 2) (M 5 v6) v5)) + (f_cls (M 2) (M 5 v6))), .inl (((M 2 (221 + 7 * (v4 % 7) + (f_cls (M 2) (M 5 v6))))) + (f_cost (M 2) (M 5 v6)))]) rfl ?_
              refine jk_iinc (pc := 149) hX 6 1 rfl rfl g41 (ls' := [.inr 1, .inl v1, .inl v2, .inl 0, .inl v4, .inl v5, .inl (v6 + 1), .inl (M 5 v6), .inl ((7 * (f_end (M 2) (M 5 v6) v5)) + (f_cls (M 2) (M 5 v6))), .inl (((M 2 (221 + 7 * (v4 % 7) + (f_cls (M 2) (M 5 v6))))) + (f_cost (M 2) (M 5 v6)))]) rfl ?_
              refine jk_goto (pc := 150) hX 76 rfl ?_
              refine jk_forget (pc := 76) hX 7 (ls' := [.inr 1, .inl v1, .inl v2, .inl 0, .inl v4, .inl v5, .inl (v6 + 1), .inr 0, .inl ((7 * (f_end (M 2) (M 5 v6) v5)) + (f_cls (M 2) (M 5 v6))), .inl (((M 2 (221 + 7 * (v4 % 7) + (f_cls (M 2) (M 5 v6))))) + (f_cost (M 2) (M 5 v6)))]) rfl ?_
              refine jk_forget (pc := 76) hX 8 (ls' := [.inr 1, .inl v1, .inl v2, .inl 0, .inl v4, .inl v5, .inl (v6 + 1), .inr 0, .inr 0, .inl (((M 2 (221 + 7 * (v4 % 7) + (f_cls (M 2) (M 5 v6))))) + (f_cost (M 2) (M 5 v6)))]) rfl ?_
              refine jk_forget (pc := 76) hX 9 (ls' := [.inr 1, .inl v1, .inl v2, .inl 0, .inl v4, .inl v5, .inl (v6 + 1), .inr 0, .inr 0, .inr 0]) rfl ?_
              exact h42
            · have h40 := h47.2 q46
              obtain ⟨g43, h44⟩ := h40
              refine jk_const (pc := 145) hX 1 rfl (by decide) ?_
              refine jk_goto (pc := 146) hX 148 rfl ?_
              refine jk_store (pc := 148) hX 3 rfl (Nat.le_of_ble_eq_true rfl) (ls' := [.inr 1, .inl v1, .inl v2, .inl 1, .inl v4, .inl v5, .inl v6, .inl (M 5 v6), .inl ((7 * (f_end (M 2) (M 5 v6) v5)) + (f_cls (M 2) (M 5 v6))), .inl (((M 2 (221 + 7 * (v4 % 7) + (f_cls (M 2) (M 5 v6))))) + (f_cost (M 2) (M 5 v6)))]) rfl ?_
              refine jk_iinc (pc := 149) hX 6 1 rfl rfl g43 (ls' := [.inr 1, .inl v1, .inl v2, .inl 1, .inl v4, .inl v5, .inl (v6 + 1), .inl (M 5 v6), .inl ((7 * (f_end (M 2) (M 5 v6) v5)) + (f_cls (M 2) (M 5 v6))), .inl (((M 2 (221 + 7 * (v4 % 7) + (f_cls (M 2) (M 5 v6))))) + (f_cost (M 2) (M 5 v6)))]) rfl ?_
              refine jk_goto (pc := 150) hX 76 rfl ?_
              refine jk_forget (pc := 76) hX 7 (ls' := [.inr 1, .inl v1, .inl v2, .inl 1, .inl v4, .inl v5, .inl (v6 + 1), .inr 0, .inl ((7 * (f_end (M 2) (M 5 v6) v5)) + (f_cls (M 2) (M 5 v6))), .inl (((M 2 (221 + 7 * (v4 % 7) + (f_cls (M 2) (M 5 v6))))) + (f_cost (M 2) (M 5 v6)))]) rfl ?_
              refine jk_forget (pc := 76) hX 8 (ls' := [.inr 1, .inl v1, .inl v2, .inl 1, .inl v4, .inl v5, .inl (v6 + 1), .inr 0, .inr 0, .inl (((M 2 (221 + 7 * (v4 % 7) + (f_cls (M 2) (M 5 v6))))) + (f_cost (M 2) (M 5 v6)))]) rfl ?_
              refine jk_forget (pc := 76) hX 9 (ls' := [.inr 1, .inl v1, .inl v2, .inl 1, .inl v4, .inl v5, .inl (v6 + 1), .inr 0, .inr 0, .inr 0]) rfl ?_
              exact h44
