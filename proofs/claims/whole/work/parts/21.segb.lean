set_option maxHeartbeats 4000000 in
theorem bk_R_leastBefore_0 {d : Nat} {K : jxK} {X : jxX} (hX : jx_clo jx_G1 (d + 1) (jx_call jx_G1 jx_T (d + 1)) kc_R_leastBefore K X) (v1 : Int) (v2 : Int) (M : jxM)
    (h : X 4 [.inr 90, .inl v1, .inl v2, .inl 1000000, .inl 0, .inr 0] [] M) :
    X 0 [.inr 90, .inl v1, .inl v2, .inr 0, .inr 0, .inr 0] [] M := by
  refine jk_const (pc := 0) hX 1000000 rfl (by decide) ?_
  refine jk_store (pc := 1) hX 3 rfl (Nat.le_of_ble_eq_true rfl) (ls' := [.inr 90, .inl v1, .inl v2, .inl 1000000, .inr 0, .inr 0]) rfl ?_
  refine jk_const (pc := 2) hX 0 rfl (by decide) ?_
  refine jk_store (pc := 3) hX 4 rfl (Nat.le_of_ble_eq_true rfl) (ls' := [.inr 90, .inl v1, .inl v2, .inl 1000000, .inl 0, .inr 0]) rfl ?_
  exact h
set_option maxHeartbeats 4000000 in
theorem bk_R_leastBefore_4 {d : Nat} {K : jxK} {X : jxX} (hX : jx_clo jx_G1 (d + 1) (jx_call jx_G1 jx_T (d + 1)) kc_R_leastBefore K X) (v1 : Int) (v2 : Int) (v3 : Int) (v4 : Int) (M : jxM)
    (h : ((7 ≤ v4 → K (some (.inl v3)) M) ∧ (v4 < 7 → (((-2147483648 : Int) ≤ v1 * 7 ∧ v1 * 7 ≤ 2147483647) ∧ ((-2147483648 : Int) ≤ (v1 * 7) + v4 ∧ (v1 * 7) + v4 ≤ 2147483647) ∧ (0 ≤ ((v1 * 7) + v4) ∧ ((v1 * 7) + v4) < 119) ∧ ((0 : Int) ≤ v4 ∧ v4 ≤ 6 ∧ (0 : Int) ≤ v2 ∧ v2 ≤ 6) ∧ ((-2147483648 : Int) ≤ (M 91 ((v1 * 7) + v4)) + ((M 12 (v4 * 7 + v2))) ∧ (M 91 ((v1 * 7) + v4)) + ((M 12 (v4 * 7 + v2))) ≤ 2147483647) ∧ ((-2147483648 : Int) ≤ v4 + 1 ∧ v4 + 1 ≤ 2147483647)) ∧ X 4 [.inr 90, .inl v1, .inl v2, .inl (min v3 ((M 91 ((v1 * 7) + v4)) + ((M 12 (v4 * 7 + v2))))), .inl (v4 + 1), .inr 0] [] M))) :
    X 4 [.inr 90, .inl v1, .inl v2, .inl v3, .inl v4, .inr 0] [] M := by
  refine jk_load (pc := 4) hX 4 rfl rfl ?_
  refine jk_const (pc := 5) hX 7 rfl (by decide) ?_
  refine jk_cge (pc := 6) hX 28 rfl (fun q10 => ?_) (fun q11 => ?_)
  · have h1 := h.1 q10
    refine jk_load (pc := 28) hX 3 rfl rfl ?_
    exact jk_iret (pc := 29) hX rfl h1
  · have h2 := h.2 q11
    obtain ⟨⟨g3, g4, g5, g6, g7, g8⟩, h9⟩ := h2
    refine jk_aload (pc := 7) hX 0 rfl rfl ?_
    refine jk_getR (pc := 8) hX 4 2 rfl rfl (r := 90) rfl ?_
    refine jk_load (pc := 9) hX 1 rfl rfl ?_
    refine jk_const (pc := 10) hX 7 rfl (by decide) ?_
    refine jk_mul (pc := 11) hX rfl g3 ?_
    refine jk_load (pc := 12) hX 4 rfl rfl ?_
    refine jk_add (pc := 13) hX rfl g4 ?_
    refine jk_iald (pc := 14) hX 119 rfl rfl g5 ?_
    refine jk_aload (pc := 15) hX 0 rfl rfl ?_
    refine jk_getR (pc := 16) hX 4 0 rfl rfl (r := 3) rfl ?_
    refine jk_load (pc := 17) hX 4 rfl rfl ?_
    refine jk_load (pc := 18) hX 2 rfl rfl ?_
    refine jk_cv (pc := 19) hX 18 2 3 rfl 4 [.inl v4, .inl v2] [.inl (M 91 ((v1 * 7) + v4))] rfl rfl rfl (Nat.le_of_ble_eq_true rfl) (sp_M_connection d v4 v2 M g6 ?_)
    show X 20 [.inr 90, .inl v1, .inl v2, .inl v3, .inl v4, .inr 0] [.inl ((M 12 (v4 * 7 + v2))), .inl (M 91 ((v1 * 7) + v4))] M
    refine jk_add (pc := 20) hX rfl g7 ?_
    refine jk_store (pc := 21) hX 5 rfl (Nat.le_of_ble_eq_true rfl) (ls' := [.inr 90, .inl v1, .inl v2, .inl v3, .inl v4, .inl ((M 91 ((v1 * 7) + v4)) + ((M 12 (v4 * 7 + v2))))]) rfl ?_
    refine jk_load (pc := 22) hX 3 rfl rfl ?_
    refine jk_load (pc := 23) hX 5 rfl rfl ?_
    refine jk_min (pc := 24) hX rfl (by omega) (Nat.le_of_ble_eq_true rfl) ?_
    refine jk_store (pc := 25) hX 3 rfl (Nat.le_of_ble_eq_true rfl) (ls' := [.inr 90, .inl v1, .inl v2, .inl (min v3 ((M 91 ((v1 * 7) + v4)) + ((M 12 (v4 * 7 + v2))))), .inl v4, .inl ((M 91 ((v1 * 7) + v4)) + ((M 12 (v4 * 7 + v2))))]) rfl ?_
    refine jk_iinc (pc := 26) hX 4 1 rfl rfl g8 (ls' := [.inr 90, .inl v1, .inl v2, .inl (min v3 ((M 91 ((v1 * 7) + v4)) + ((M 12 (v4 * 7 + v2))))), .inl (v4 + 1), .inl ((M 91 ((v1 * 7) + v4)) + ((M 12 (v4 * 7 + v2))))]) rfl ?_
    refine jk_goto (pc := 27) hX 4 rfl ?_
    refine jk_forget (pc := 4) hX 5 (ls' := [.inr 90, .inl v1, .inl v2, .inl (min v3 ((M 91 ((v1 * 7) + v4)) + ((M 12 (v4 * 7 + v2))))), .inl (v4 + 1), .inr 0]) rfl ?_
    exact h9
set_option maxHeartbeats 4000000 in
theorem bk_L_sortByLength_0 {d : Nat} {K : jxK} {X : jxX} (hX : jx_clo jx_G1 (d + 0) (jx_call jx_G1 jx_T (d + 0)) kc_L_sortByLength K X) (M : jxM)
    (h : X 8 [.inr 83, .inr 5, .inl 0, .inl 6, .inr 0] [] M) :
    X 0 [.inr 83, .inr 0, .inr 0, .inr 0, .inr 0] [] M := by
  refine jk_aload (pc := 0) hX 0 rfl rfl ?_
  refine jk_getR (pc := 1) hX 2 0 rfl rfl (r := 3) rfl ?_
  refine jk_getR (pc := 2) hX 3 0 rfl rfl (r := 4) rfl ?_
  refine jk_astore (pc := 3) hX 1 rfl (Nat.le_of_ble_eq_true rfl) (ls' := [.inr 83, .inr 5, .inr 0, .inr 0, .inr 0]) rfl ?_
  refine jk_const (pc := 4) hX 0 rfl (by decide) ?_
  refine jk_store (pc := 5) hX 2 rfl (Nat.le_of_ble_eq_true rfl) (ls' := [.inr 83, .inr 5, .inl 0, .inr 0, .inr 0]) rfl ?_
  refine jk_const (pc := 6) hX 6 rfl (by decide) ?_
  refine jk_store (pc := 7) hX 3 rfl (Nat.le_of_ble_eq_true rfl) (ls' := [.inr 83, .inr 5, .inl 0, .inl 6, .inr 0]) rfl ?_
  exact h
set_option maxHeartbeats 4000000 in
theorem bk_L_sortByLength_8 {d : Nat} {K : jxK} {X : jxX} (hX : jx_clo jx_G1 (d + 0) (jx_call jx_G1 jx_T (d + 0)) kc_L_sortByLength K X) (v2 : Int) (v3 : Int) (M : jxM)
    (h : ((v3 ≤ 0 → K none M) ∧ (0 < v3 → X 12 [.inr 83, .inr 5, .inl v2, .inl v3, .inl 0] [] M))) :
    X 8 [.inr 83, .inr 5, .inl v2, .inl v3, .inr 0] [] M := by
  refine jk_load (pc := 8) hX 3 rfl rfl ?_
  refine jk_zle (pc := 9) hX 35 rfl (fun q3 => ?_) (fun q4 => ?_)
  · have h1 := h.1 q3
    exact jk_vret (pc := 35) hX rfl h1
  · have h2 := h.2 q4
    refine jk_const (pc := 10) hX 0 rfl (by decide) ?_
    refine jk_store (pc := 11) hX 4 rfl (Nat.le_of_ble_eq_true rfl) (ls' := [.inr 83, .inr 5, .inl v2, .inl v3, .inl 0]) rfl ?_
    exact h2
set_option maxHeartbeats 4000000 in
theorem bk_L_sortByLength_12 {d : Nat} {K : jxK} {X : jxX} (hX : jx_clo jx_G1 (d + 0) (jx_call jx_G1 jx_T (d + 0)) kc_L_sortByLength K X) (v2 : Int) (v3 : Int) (v4 : Int) (M : jxM)
    (h : (((M 5 6) ≤ v4 → (((-2147483648 : Int) ≤ v3 + (-1) ∧ v3 + (-1) ≤ 2147483647)) ∧ X 8 [.inr 83, .inr 5, .inl v2, .inl (v3 + (-1)), .inr 0] [] M) ∧ (v4 < (M 5 6) → ((0 ≤ v4 ∧ v4 < 20)) ∧ (((M 7 v4) ≠ v3 → (((-2147483648 : Int) ≤ v4 + 1 ∧ v4 + 1 ≤ 2147483647)) ∧ X 12 [.inr 83, .inr 5, .inl v2, .inl v3, .inl (v4 + 1)] [] M) ∧ ((M 7 v4) = v3 → ((20 ≤ v2 → (((-2147483648 : Int) ≤ v4 + 1 ∧ v4 + 1 ≤ 2147483647)) ∧ X 12 [.inr 83, .inr 5, .inl v2, .inl v3, .inl (v4 + 1)] [] M) ∧ (v2 < 20 → ((0 ≤ v2 ∧ v2 < 20) ∧ ((-2147483648 : Int) ≤ v2 + 1 ∧ v2 + 1 ≤ 2147483647) ∧ ((-2147483648 : Int) ≤ v4 + 1 ∧ v4 + 1 ≤ 2147483647)) ∧ X 12 [.inr 83, .inr 5, .inl (v2 + 1), .inl v3, .inl (v4 + 1)] [] (jx_up M 84 v2 v4)))))))) :
    X 12 [.inr 83, .inr 5, .inl v2, .inl v3, .inl v4] [] M := by
  refine jk_load (pc := 12) hX 4 rfl rfl ?_
  refine jk_aload (pc := 13) hX 1 rfl rfl ?_
  refine jk_getI (pc := 14) hX 0 6 rfl rfl rfl ?_
  refine jk_cge (pc := 15) hX 33 rfl (fun q23 => ?_) (fun q24 => ?_)
  · have h1 := h.1 q23
    obtain ⟨g3, h4⟩ := h1
    refine jk_iinc (pc := 33) hX 3 (-1) rfl rfl g3 (ls' := [.inr 83, .inr 5, .inl v2, .inl (v3 + (-1)), .inl v4]) rfl ?_
    refine jk_goto (pc := 34) hX 8 rfl ?_
    refine jk_forget (pc := 8) hX 4 (ls' := [.inr 83, .inr 5, .inl v2, .inl (v3 + (-1)), .inr 0]) rfl ?_
    exact h4
  · have h2 := h.2 q24
    obtain ⟨g5, h22⟩ := h2
    refine jk_aload (pc := 16) hX 1 rfl rfl ?_
    refine jk_getR (pc := 17) hX 0 1 rfl rfl (r := 6) rfl ?_
    refine jk_load (pc := 18) hX 4 rfl rfl ?_
    refine jk_iald (pc := 19) hX 20 rfl rfl g5 ?_
    refine jk_load (pc := 20) hX 3 rfl rfl ?_
    refine jk_cne (pc := 21) hX 31 rfl (fun q20 => ?_) (fun q21 => ?_)
    · have h6 := h22.1 q20
      obtain ⟨g8, h9⟩ := h6
      refine jk_iinc (pc := 31) hX 4 1 rfl rfl g8 (ls' := [.inr 83, .inr 5, .inl v2, .inl v3, .inl (v4 + 1)]) rfl ?_
      refine jk_goto (pc := 32) hX 12 rfl ?_
      exact h9
    · have h7 := h22.2 q21
      refine jk_load (pc := 22) hX 2 rfl rfl ?_
      refine jk_const (pc := 23) hX 20 rfl (by decide) ?_
      refine jk_cge (pc := 24) hX 31 rfl (fun q18 => ?_) (fun q19 => ?_)
      · have h10 := h7.1 q18
        obtain ⟨g12, h13⟩ := h10
        refine jk_iinc (pc := 31) hX 4 1 rfl rfl g12 (ls' := [.inr 83, .inr 5, .inl v2, .inl v3, .inl (v4 + 1)]) rfl ?_
        refine jk_goto (pc := 32) hX 12 rfl ?_
        exact h13
      · have h11 := h7.2 q19
        obtain ⟨⟨g14, g15, g16⟩, h17⟩ := h11
        refine jk_aload (pc := 25) hX 0 rfl rfl ?_
        refine jk_getR (pc := 26) hX 2 1 rfl rfl (r := 83) rfl ?_
        refine jk_load (pc := 27) hX 2 rfl rfl ?_
        refine jk_load (pc := 28) hX 4 rfl rfl ?_
        refine jk_iast (pc := 29) hX 20 rfl rfl g14 ?_
        refine jk_iinc (pc := 30) hX 2 1 rfl rfl g15 (ls' := [.inr 83, .inr 5, .inl (v2 + 1), .inl v3, .inl v4]) rfl ?_
        refine jk_iinc (pc := 31) hX 4 1 rfl rfl g16 (ls' := [.inr 83, .inr 5, .inl (v2 + 1), .inl v3, .inl (v4 + 1)]) rfl ?_
        refine jk_goto (pc := 32) hX 12 rfl ?_
        exact h17
set_option maxHeartbeats 4000000 in
theorem bk_L_addSlot_0 {d : Nat} {K : jxK} {X : jxX} (hX : jx_clo jx_G1 (d + 1) (jx_call jx_G1 jx_T (d + 1)) kc_L_addSlot K X) (v1 : Int) (v2 : Int) (v3 : Int) (v4 : Int) (v5 : Int) (M : jxM)
    (h : ((0 ≤ v1 ∧ v1 < 17)) ∧ ((21 ≤ (M 85 v1) → K none M) ∧ ((M 85 v1) < 21 → (((0 : Int) ≤ v1 ∧ v1 ≤ 16 ∧ (0 : Int) ≤ v2 ∧ v2 ≤ 16)) ∧ ((m_may M v1 v2 → (((-2147483648 : Int) ≤ v1 * 21 ∧ v1 * 21 ≤ 2147483647) ∧ (0 ≤ v1 ∧ v1 < 17) ∧ ((-2147483648 : Int) ≤ (v1 * 21) + (M 85 v1) ∧ (v1 * 21) + (M 85 v1) ≤ 2147483647) ∧ (0 ≤ ((v1 * 21) + (M 85 v1)) ∧ ((v1 * 21) + (M 85 v1)) < 357) ∧ (0 ≤ ((v1 * 21) + (M 85 v1)) ∧ ((v1 * 21) + (M 85 v1)) < 357) ∧ (0 ≤ ((v1 * 21) + (M 85 v1)) ∧ ((v1 * 21) + (M 85 v1)) < 357) ∧ (0 ≤ ((v1 * 21) + (M 85 v1)) ∧ ((v1 * 21) + (M 85 v1)) < 357) ∧ (0 ≤ v1 ∧ v1 < 17) ∧ ((-2147483648 : Int) ≤ (M 85 v1) + 1 ∧ (M 85 v1) + 1 ≤ 2147483647) ∧ (0 ≤ v1 ∧ v1 < 17)) ∧ K none (jx_up (jx_up (jx_up (jx_up (jx_up M 86 ((v1 * 21) + (M 85 v1)) v3) 87 ((v1 * 21) + (M 85 v1)) v2) 88 ((v1 * 21) + (M 85 v1)) v4) 89 ((v1 * 21) + (M 85 v1)) v5) 85 v1 ((M 85 v1) + 1))) ∧ (¬ (m_may M v1 v2) → K none M))))) :
    X 0 [.inr 83, .inl v1, .inl v2, .inl v3, .inl v4, .inl v5, .inr 0] [] M := by
  obtain ⟨g1, h23⟩ := h
  refine jk_aload (pc := 0) hX 0 rfl rfl ?_
  refine jk_getR (pc := 1) hX 2 2 rfl rfl (r := 84) rfl ?_
  refine jk_load (pc := 2) hX 1 rfl rfl ?_
  refine jk_iald (pc := 3) hX 17 rfl rfl g1 ?_
  refine jk_const (pc := 4) hX 21 rfl (by decide) ?_
  refine jk_cge (pc := 5) hX 12 rfl (fun q21 => ?_) (fun q22 => ?_)
  · have h2 := h23.1 q21
    exact jk_vret (pc := 12) hX rfl h2
  · have h3 := h23.2 q22
    obtain ⟨g4, h20⟩ := h3
    refine jk_aload (pc := 6) hX 0 rfl rfl ?_
    refine jk_getR (pc := 7) hX 2 0 rfl rfl (r := 3) rfl ?_
    refine jk_load (pc := 8) hX 1 rfl rfl ?_
    refine jk_load (pc := 9) hX 2 rfl rfl ?_
    refine jk_cv (pc := 10) hX 20 2 3 rfl 4 [.inl v1, .inl v2] [] rfl rfl rfl (Nat.le_of_ble_eq_true rfl) (sp_M_allowsSegment d v1 v2 M g4 ?_)
    show X 11 [.inr 83, .inl v1, .inl v2, .inl v3, .inl v4, .inl v5, .inr 0] [.inl (jx_b (m_may M v1 v2))] M
    refine jk_zneB (pc := 11) hX 13 rfl (fun q18 => ?_) (fun q19 => ?_)
    · have h5 := h20.1 q18
      obtain ⟨⟨g7, g8, g9, g10, g11, g12, g13, g14, g15, g16⟩, h17⟩ := h5
      refine jk_load (pc := 13) hX 1 rfl rfl ?_
      refine jk_const (pc := 14) hX 21 rfl (by decide) ?_
      refine jk_mul (pc := 15) hX rfl g7 ?_
      refine jk_aload (pc := 16) hX 0 rfl rfl ?_
      refine jk_getR (pc := 17) hX 2 2 rfl rfl (r := 84) rfl ?_
      refine jk_load (pc := 18) hX 1 rfl rfl ?_
      refine jk_iald (pc := 19) hX 17 rfl rfl g8 ?_
      refine jk_add (pc := 20) hX rfl g9 ?_
      refine jk_store (pc := 21) hX 6 rfl (Nat.le_of_ble_eq_true rfl) (ls' := [.inr 83, .inl v1, .inl v2, .inl v3, .inl v4, .inl v5, .inl ((v1 * 21) + (M 85 v1))]) rfl ?_
      refine jk_aload (pc := 22) hX 0 rfl rfl ?_
      refine jk_getR (pc := 23) hX 2 3 rfl rfl (r := 85) rfl ?_
      refine jk_load (pc := 24) hX 6 rfl rfl ?_
      refine jk_load (pc := 25) hX 3 rfl rfl ?_
      refine jk_iast (pc := 26) hX 357 rfl rfl g10 ?_
      refine jk_aload (pc := 27) hX 0 rfl rfl ?_
      refine jk_getR (pc := 28) hX 2 4 rfl rfl (r := 86) rfl ?_
      refine jk_load (pc := 29) hX 6 rfl rfl ?_
      refine jk_load (pc := 30) hX 2 rfl rfl ?_
      refine jk_iast (pc := 31) hX 357 rfl rfl g11 ?_
      refine jk_aload (pc := 32) hX 0 rfl rfl ?_
      refine jk_getR (pc := 33) hX 2 5 rfl rfl (r := 87) rfl ?_
      refine jk_load (pc := 34) hX 6 rfl rfl ?_
      refine jk_load (pc := 35) hX 4 rfl rfl ?_
      refine jk_iast (pc := 36) hX 357 rfl rfl g12 ?_
      refine jk_aload (pc := 37) hX 0 rfl rfl ?_
      refine jk_getR (pc := 38) hX 2 6 rfl rfl (r := 88) rfl ?_
      refine jk_load (pc := 39) hX 6 rfl rfl ?_
      refine jk_load (pc := 40) hX 5 rfl rfl ?_
      refine jk_iast (pc := 41) hX 357 rfl rfl g13 ?_
      refine jk_aload (pc := 42) hX 0 rfl rfl ?_
      refine jk_getR (pc := 43) hX 2 2 rfl rfl (r := 84) rfl ?_
      refine jk_load (pc := 44) hX 1 rfl rfl ?_
      refine jk_dup2 (pc := 45) hX rfl ?_
      refine jk_iald (pc := 46) hX 17 rfl rfl g14 (jx_vX ((jx_upc (by decide)).trans ((jx_upc (by decide)).trans ((jx_upc (by decide)).trans (jx_upc (by decide))))) ?_)
      refine jk_const (pc := 47) hX 1 rfl (by decide) ?_
      refine jk_add (pc := 48) hX rfl g15 ?_
      refine jk_iast (pc := 49) hX 17 rfl rfl g16 ?_
      exact jk_vret (pc := 50) hX rfl h17
    · have h6 := h20.2 q19
      exact jk_vret (pc := 12) hX rfl h6
set_option maxHeartbeats 4000000 in
theorem bk_L_addEntriesAt_0 {d : Nat} {K : jxK} {X : jxX} (hX : jx_clo jx_G1 (d + 2) (jx_call jx_G1 jx_T (d + 2)) kc_L_addEntriesAt K X) (v1 : Int) (M : jxM)
    (h : X 6 [.inr 83, .inl v1, .inr 5, .inl 0, .inr 0] [] M) :
    X 0 [.inr 83, .inl v1, .inr 0, .inr 0, .inr 0] [] M := by
  refine jk_aload (pc := 0) hX 0 rfl rfl ?_
  refine jk_getR (pc := 1) hX 2 0 rfl rfl (r := 3) rfl ?_
  refine jk_getR (pc := 2) hX 3 0 rfl rfl (r := 4) rfl ?_
  refine jk_astore (pc := 3) hX 2 rfl (Nat.le_of_ble_eq_true rfl) (ls' := [.inr 83, .inl v1, .inr 5, .inr 0, .inr 0]) rfl ?_
  refine jk_const (pc := 4) hX 0 rfl (by decide) ?_
  refine jk_store (pc := 5) hX 3 rfl (Nat.le_of_ble_eq_true rfl) (ls' := [.inr 83, .inl v1, .inr 5, .inl 0, .inr 0]) rfl ?_
  exact h
set_option maxHeartbeats 4000000 in
theorem bk_L_addEntriesAt_6 {d : Nat} {K : jxK} {X : jxX} (hX : jx_clo jx_G1 (d + 2) (jx_call jx_G1 jx_T (d + 2)) kc_L_addEntriesAt K X) (v1 : Int) (v3 : Int) (M : jxM)
    (h : (((M 5 6) ≤ v3 → K none M) ∧ (v3 < (M 5 6) → ((0 ≤ v3 ∧ v3 < 20) ∧ (((0 : Int) ≤ (M 84 v3) ∧ (M 84 v3) < 20) ∧ ((0 : Int) ≤ (M 7 (M 84 v3)) ∧ (M 7 (M 84 v3)) ≤ 6) ∧ (M 4 5) ≤ 16 ∧ (0 : Int) ≤ v1 ∧ v1 ≤ 16)) ∧ ((¬ (m_stands M (M 84 v3) v1) → (((-2147483648 : Int) ≤ v3 + 1 ∧ v3 + 1 ≤ 2147483647)) ∧ X 6 [.inr 83, .inl v1, .inr 5, .inl (v3 + 1), .inr 0] [] M) ∧ (m_stands M (M 84 v3) v1 → ((0 ≤ (M 84 v3) ∧ (M 84 v3) < 20) ∧ ((-2147483648 : Int) ≤ v1 + (M 7 (M 84 v3)) ∧ v1 + (M 7 (M 84 v3)) ≤ 2147483647) ∧ (0 ≤ (M 84 v3) ∧ (M 84 v3) < 20) ∧ (((0 : Int) ≤ (M 84 v3) ∧ (M 84 v3) < 20) ∧ ((0 : Int) ≤ (M 10 (M 84 v3)) ∧ (M 10 (M 84 v3)) ≤ 99) ∧ ((0 : Int) ≤ (M 11 (M 84 v3)) ∧ (M 11 (M 84 v3)) ≤ 9))) ∧ jx_call jx_G1 jx_T (d + 2) 14 [.inr 83, .inl v1, .inl (v1 + (M 7 (M 84 v3))), .inl (M 84 v3), .inl (M 9 (M 84 v3)), .inl (max 0 ((M 10 (M 84 v3)) - 3 * (M 11 (M 84 v3))))] M (fun r M14 => r = none ∧ (((-2147483648 : Int) ≤ v3 + 1 ∧ v3 + 1 ≤ 2147483647)) ∧ X 6 [.inr 83, .inl v1, .inr 5, .inl (v3 + 1), .inr 0] [] M14)))))) :
    X 6 [.inr 83, .inl v1, .inr 5, .inl v3, .inr 0] [] M := by
  refine jk_load (pc := 6) hX 3 rfl rfl ?_
  refine jk_aload (pc := 7) hX 2 rfl rfl ?_
  refine jk_getI (pc := 8) hX 0 6 rfl rfl rfl ?_
  refine jk_cge (pc := 9) hX 40 rfl (fun q22 => ?_) (fun q23 => ?_)
  · have h1 := h.1 q22
    exact jk_vret (pc := 40) hX rfl h1
  · have h2 := h.2 q23
    obtain ⟨⟨g3, g4⟩, h21⟩ := h2
    refine jk_aload (pc := 10) hX 0 rfl rfl ?_
    refine jk_getR (pc := 11) hX 2 1 rfl rfl (r := 83) rfl ?_
    refine jk_load (pc := 12) hX 3 rfl rfl ?_
    refine jk_iald (pc := 13) hX 20 rfl rfl g3 ?_
    refine jk_store (pc := 14) hX 4 rfl (Nat.le_of_ble_eq_true rfl) (ls' := [.inr 83, .inl v1, .inr 5, .inl v3, .inl (M 84 v3)]) rfl ?_
    refine jk_aload (pc := 15) hX 0 rfl rfl ?_
    refine jk_getR (pc := 16) hX 2 0 rfl rfl (r := 3) rfl ?_
    refine jk_load (pc := 17) hX 4 rfl rfl ?_
    refine jk_load (pc := 18) hX 1 rfl rfl ?_
    refine jk_cv (pc := 19) hX 19 2 3 rfl 4 [.inl (M 84 v3), .inl v1] [] rfl rfl rfl (Nat.le_of_ble_eq_true rfl) (sp_M_standsAt (d + 1) (M 84 v3) v1 M g4 ?_)
    show X 20 [.inr 83, .inl v1, .inr 5, .inl v3, .inl (M 84 v3)] [.inl (jx_b (m_stands M (M 84 v3) v1))] M
    refine jk_zeqB (pc := 20) hX 38 rfl (fun q19 => ?_) (fun q20 => ?_)
    · have h5 := h21.1 q19
      obtain ⟨g7, h8⟩ := h5
      refine jk_iinc (pc := 38) hX 3 1 rfl rfl g7 (ls' := [.inr 83, .inl v1, .inr 5, .inl (v3 + 1), .inl (M 84 v3)]) rfl ?_
      refine jk_goto (pc := 39) hX 6 rfl ?_
      refine jk_forget (pc := 6) hX 4 (ls' := [.inr 83, .inl v1, .inr 5, .inl (v3 + 1), .inr 0]) rfl ?_
      exact h8
    · have h6 := h21.2 q20
      obtain ⟨⟨g9, g10, g11, g12⟩, h18⟩ := h6
      refine jk_aload (pc := 21) hX 0 rfl rfl ?_
      refine jk_load (pc := 22) hX 1 rfl rfl ?_
      refine jk_load (pc := 23) hX 1 rfl rfl ?_
      refine jk_aload (pc := 24) hX 2 rfl rfl ?_
      refine jk_getR (pc := 25) hX 0 1 rfl rfl (r := 6) rfl ?_
      refine jk_load (pc := 26) hX 4 rfl rfl ?_
      refine jk_iald (pc := 27) hX 20 rfl rfl g9 ?_
      refine jk_add (pc := 28) hX rfl g10 ?_
      refine jk_load (pc := 29) hX 4 rfl rfl ?_
      refine jk_aload (pc := 30) hX 2 rfl rfl ?_
      refine jk_getR (pc := 31) hX 0 3 rfl rfl (r := 8) rfl ?_
      refine jk_load (pc := 32) hX 4 rfl rfl ?_
      refine jk_iald (pc := 33) hX 20 rfl rfl g11 ?_
      refine jk_aload (pc := 34) hX 2 rfl rfl ?_
      refine jk_load (pc := 35) hX 4 rfl rfl ?_
      refine jk_cv (pc := 36) hX 6 1 0 rfl 5 [.inl (M 84 v3)] [.inl (M 9 (M 84 v3)), .inl (M 84 v3), .inl (v1 + (M 7 (M 84 v3))), .inl v1, .inr 83] rfl rfl rfl (Nat.le_of_ble_eq_true rfl) (sp_D_presentCost d (M 84 v3) M g12 ?_)
      show X 37 [.inr 83, .inl v1, .inr 5, .inl v3, .inl (M 84 v3)] [.inl (max 0 ((M 10 (M 84 v3)) - 3 * (M 11 (M 84 v3)))), .inl (M 9 (M 84 v3)), .inl (M 84 v3), .inl (v1 + (M 7 (M 84 v3))), .inl v1, .inr 83] M
      refine jk_cv (pc := 37) hX 14 5 2 rfl 83 [.inl v1, .inl (v1 + (M 7 (M 84 v3))), .inl (M 84 v3), .inl (M 9 (M 84 v3)), .inl (max 0 ((M 10 (M 84 v3)) - 3 * (M 11 (M 84 v3))))] [] rfl rfl rfl (Nat.le_of_ble_eq_true rfl) (jx_mono (fun r M14 hr => ?_) h18)
      obtain ⟨rfl, h15⟩ := hr
      show X 38 [.inr 83, .inl v1, .inr 5, .inl v3, .inl (M 84 v3)] [] M14
      obtain ⟨g16, h17⟩ := h15
      refine jk_iinc (pc := 38) hX 3 1 rfl rfl g16 (ls' := [.inr 83, .inl v1, .inr 5, .inl (v3 + 1), .inl (M 84 v3)]) rfl ?_
      refine jk_goto (pc := 39) hX 6 rfl ?_
      refine jk_forget (pc := 6) hX 4 (ls' := [.inr 83, .inl v1, .inr 5, .inl (v3 + 1), .inr 0]) rfl ?_
      exact h17
set_option maxHeartbeats 4000000 in
theorem bk_L_build_0 {d : Nat} {K : jxK} {X : jxX} (hX : jx_clo jx_G1 (d + 3) (jx_call jx_G1 jx_T (d + 3)) kc_L_build K X) (M : jxM)
    (h : jx_call jx_G1 jx_T (d + 3) 12 [.inr 83] M (fun r M2 => r = none ∧ jx_call jx_G1 jx_T (d + 3) 127 [.inr 85, .inl 0] M2 (fun r M5 => r = none ∧ X 8 [.inr 83, .inl 0] [] M5))) :
    X 0 [.inr 83, .inr 0] [] M := by
  refine jk_aload (pc := 0) hX 0 rfl rfl ?_
  refine jk_cv (pc := 1) hX 12 0 2 rfl 83 [] [] rfl rfl rfl (Nat.le_of_ble_eq_true rfl) (jx_mono (fun r M2 hr => ?_) h)
  obtain ⟨rfl, h3⟩ := hr
  show X 2 [.inr 83, .inr 0] [] M2
  refine jk_aload (pc := 2) hX 0 rfl rfl ?_
  refine jk_getR (pc := 3) hX 2 2 rfl rfl (r := 84) rfl ?_
  refine jk_const (pc := 4) hX 0 rfl (by decide) ?_
  refine jk_cs (pc := 5) hX 127 2 rfl [.inr 85, .inl 0] [] rfl rfl (Nat.le_of_ble_eq_true rfl) (jx_mono (fun r M5 hr => ?_) h3)
  obtain ⟨rfl, h6⟩ := hr
  show X 6 [.inr 83, .inr 0] [] M5
  refine jk_const (pc := 6) hX 0 rfl (by decide) ?_
  refine jk_store (pc := 7) hX 1 rfl (Nat.le_of_ble_eq_true rfl) (ls' := [.inr 83, .inl 0]) rfl ?_
  exact h6
set_option maxHeartbeats 4000000 in
theorem bk_L_build_8 {d : Nat} {K : jxK} {X : jxX} (hX : jx_clo jx_G1 (d + 3) (jx_call jx_G1 jx_T (d + 3)) kc_L_build K X) (v1 : Int) (M : jxM)
    (h : (((M 4 5) ≤ v1 → K none M) ∧ (v1 < (M 4 5) → jx_call jx_G1 jx_T (d + 3) 13 [.inr 83, .inl v1] M (fun r M4 => r = none ∧ (((-2147483648 : Int) ≤ v1 + 1 ∧ v1 + 1 ≤ 2147483647)) ∧ jx_call jx_G1 jx_T (d + 3) 14 [.inr 83, .inl v1, .inl (v1 + 1), .inl (-5), .inl 5, .inl (M4 4 4)] M4 (fun r M8 => r = none ∧ (((-2147483648 : Int) ≤ v1 + 1 ∧ v1 + 1 ≤ 2147483647)) ∧ X 8 [.inr 83, .inl (v1 + 1)] [] M8))))) :
    X 8 [.inr 83, .inl v1] [] M := by
  refine jk_load (pc := 8) hX 1 rfl rfl ?_
  refine jk_aload (pc := 9) hX 0 rfl rfl ?_
  refine jk_getR (pc := 10) hX 2 0 rfl rfl (r := 3) rfl ?_
  refine jk_getI (pc := 11) hX 3 5 rfl rfl rfl ?_
  refine jk_cge (pc := 12) hX 29 rfl (fun q13 => ?_) (fun q14 => ?_)
  · have h1 := h.1 q13
    exact jk_vret (pc := 29) hX rfl h1
  · have h2 := h.2 q14
    refine jk_aload (pc := 13) hX 0 rfl rfl ?_
    refine jk_load (pc := 14) hX 1 rfl rfl ?_
    refine jk_cv (pc := 15) hX 13 1 2 rfl 83 [.inl v1] [] rfl rfl rfl (Nat.le_of_ble_eq_true rfl) (jx_mono (fun r M4 hr => ?_) h2)
    obtain ⟨rfl, h5⟩ := hr
    show X 16 [.inr 83, .inl v1] [] M4
    obtain ⟨g6, h12⟩ := h5
    refine jk_aload (pc := 16) hX 0 rfl rfl ?_
    refine jk_load (pc := 17) hX 1 rfl rfl ?_
    refine jk_load (pc := 18) hX 1 rfl rfl ?_
    refine jk_const (pc := 19) hX 1 rfl (by decide) ?_
    refine jk_add (pc := 20) hX rfl g6 ?_
    refine jk_const (pc := 21) hX (-5) rfl (by decide) ?_
    refine jk_const (pc := 22) hX 5 rfl (by decide) ?_
    refine jk_aload (pc := 23) hX 0 rfl rfl ?_
    refine jk_getR (pc := 24) hX 2 0 rfl rfl (r := 3) rfl ?_
    refine jk_getI (pc := 25) hX 3 4 rfl rfl rfl ?_
    refine jk_cv (pc := 26) hX 14 5 2 rfl 83 [.inl v1, .inl (v1 + 1), .inl (-5), .inl 5, .inl (M4 4 4)] [] rfl rfl rfl (Nat.le_of_ble_eq_true rfl) (jx_mono (fun r M8 hr => ?_) h12)
    obtain ⟨rfl, h9⟩ := hr
    show X 27 [.inr 83, .inl v1] [] M8
    obtain ⟨g10, h11⟩ := h9
    refine jk_iinc (pc := 27) hX 1 1 rfl rfl g10 (ls' := [.inr 83, .inl (v1 + 1)]) rfl ?_
    refine jk_goto (pc := 28) hX 8 rfl ?_
    exact h11
set_option maxHeartbeats 4000000 in
theorem bk_F_findSegments_0 {d : Nat} {K : jxK} {X : jxX} (hX : jx_clo jx_G2 (d + 2) (jx_call jx_G2 jx_T (d + 2)) kc_F_findSegments K X) (v1 : Int) (M : jxM)
    (h : X 5 [.inr 1, .inl v1, .inl 6, .inr 0] [] (jx_up M 1 6 0)) :
    X 0 [.inr 1, .inl v1, .inr 0, .inr 0] [] M := by
  refine jk_aload (pc := 0) hX 0 rfl rfl ?_
  refine jk_const (pc := 1) hX 0 rfl (by decide) ?_
  refine jk_put (pc := 2) hX 7 6 rfl rfl rfl ?_
  refine jk_const (pc := 3) hX 6 rfl (by decide) ?_
  refine jk_store (pc := 4) hX 2 rfl (Nat.le_of_ble_eq_true rfl) (ls' := [.inr 1, .inl v1, .inl 6, .inr 0]) rfl ?_
  exact h
set_option maxHeartbeats 4000000 in
theorem bk_F_findSegments_5 {d : Nat} {K : jxK} {X : jxX} (hX : jx_clo jx_G2 (d + 2) (jx_call jx_G2 jx_T (d + 2)) kc_F_findSegments K X) (v1 : Int) (v2 : Int) (M : jxM)
    (h : ((v2 ≤ 0 → (((-2147483648 : Int) ≤ v1 + 1 ∧ v1 + 1 ≤ 2147483647) ∧ ((0 : Int) ≤ v1 ∧ v1 ≤ 16 ∧ (0 : Int) ≤ (v1 + 1) ∧ (v1 + 1) ≤ 16)) ∧ ((¬ (f_may (M 2) v1 (v1 + 1)) → K none M) ∧ (f_may (M 2) v1 (v1 + 1) → ((0 ≤ (M 1 6) ∧ (M 1 6) < 21) ∧ ((-2147483648 : Int) ≤ (M 1 6) + 1 ∧ (M 1 6) + 1 ≤ 2147483647)) ∧ K none (jx_up (jx_up M 5 (M 1 6) (-5)) 1 6 ((M 1 6) + 1))))) ∧ (0 < v2 → X 9 [.inr 1, .inl v1, .inl v2, .inl 0] [] M))) :
    X 5 [.inr 1, .inl v1, .inl v2, .inr 0] [] M := by
  refine jk_load (pc := 5) hX 2 rfl rfl ?_
  refine jk_zle (pc := 6) hX 50 rfl (fun q13 => ?_) (fun q14 => ?_)
  · have h1 := h.1 q13
    obtain ⟨⟨g3, g4⟩, h12⟩ := h1
    refine jk_aload (pc := 50) hX 0 rfl rfl ?_
    refine jk_load (pc := 51) hX 1 rfl rfl ?_
    refine jk_load (pc := 52) hX 1 rfl rfl ?_
    refine jk_const (pc := 53) hX 1 rfl (by decide) ?_
    refine jk_add (pc := 54) hX rfl g3 ?_
    refine jk_cv (pc := 55) hX 105 2 7 rfl 1 [.inl v1, .inl (v1 + 1)] [] rfl rfl rfl (Nat.le_of_ble_eq_true rfl) (sp_F_mayCover (d + 1) v1 (v1 + 1) M g4 ?_)
    show X 56 [.inr 1, .inl v1, .inl v2, .inr 0] [.inl (jx_b (f_may (M 2) v1 (v1 + 1)))] M
    refine jk_zeqB (pc := 56) hX 69 rfl (fun q10 => ?_) (fun q11 => ?_)
    · have h5 := h12.1 q10
      exact jk_vret (pc := 69) hX rfl h5
    · have h6 := h12.2 q11
      obtain ⟨⟨g7, g8⟩, h9⟩ := h6
      refine jk_aload (pc := 57) hX 0 rfl rfl ?_
      refine jk_getR (pc := 58) hX 7 7 rfl rfl (r := 4) rfl ?_
      refine jk_aload (pc := 59) hX 0 rfl rfl ?_
      refine jk_getI (pc := 60) hX 7 6 rfl rfl rfl ?_
      refine jk_const (pc := 61) hX (-5) rfl (by decide) ?_
      refine jk_iast (pc := 62) hX 21 rfl rfl g7 ?_
      refine jk_aload (pc := 63) hX 0 rfl rfl ?_
      refine jk_dup (pc := 64) hX rfl ?_
      refine jk_getI (pc := 65) hX 7 6 rfl rfl rfl (jx_vX (jx_upc (by decide)) ?_)
      refine jk_const (pc := 66) hX 1 rfl (by decide) ?_
      refine jk_add (pc := 67) hX rfl g8 ?_
      refine jk_put (pc := 68) hX 7 6 rfl rfl rfl ?_
      exact jk_vret (pc := 69) hX rfl h9
  · have h2 := h.2 q14
    refine jk_const (pc := 7) hX 0 rfl (by decide) ?_
    refine jk_store (pc := 8) hX 3 rfl (Nat.le_of_ble_eq_true rfl) (ls' := [.inr 1, .inl v1, .inl v2, .inl 0]) rfl ?_
    exact h2
set_option maxHeartbeats 4000000 in
theorem bk_F_findSegments_9 {d : Nat} {K : jxK} {X : jxX} (hX : jx_clo jx_G2 (d + 2) (jx_call jx_G2 jx_T (d + 2)) kc_F_findSegments K X) (v1 : Int) (v2 : Int) (v3 : Int) (M : jxM)
    (h : (((M 2 0) ≤ v3 → (((-2147483648 : Int) ≤ v2 + (-1) ∧ v2 + (-1) ≤ 2147483647)) ∧ X 5 [.inr 1, .inl v1, .inl (v2 + (-1)), .inr 0] [] M) ∧ (v3 < (M 2 0) → (((0 : Int) ≤ v3 ∧ v3 ≤ 20) ∧ (0 ≤ (1 + 11 * v3) ∧ (1 + 11 * v3) < 305)) ∧ (((M 2 (1 + 11 * v3)) ≠ v2 → (((-2147483648 : Int) ≤ v3 + 1 ∧ v3 + 1 ≤ 2147483647)) ∧ X 9 [.inr 1, .inl v1, .inl v2, .inl (v3 + 1)] [] M) ∧ ((M 2 (1 + 11 * v3)) = v2 → ((((0 : Int) ≤ v3 ∧ v3 < 20) ∧ ((0 : Int) ≤ (M 2 (1 + 11 * v3)) ∧ (M 2 (1 + 11 * v3)) ≤ 6) ∧ (M 2 271) ≤ 16 ∧ (0 : Int) ≤ v1 ∧ v1 ≤ 16)) ∧ ((¬ (f_stands (M 2) v3 v1) → (((-2147483648 : Int) ≤ v3 + 1 ∧ v3 + 1 ≤ 2147483647)) ∧ X 9 [.inr 1, .inl v1, .inl v2, .inl (v3 + 1)] [] M) ∧ (f_stands (M 2) v3 v1 → (((-2147483648 : Int) ≤ v1 + v2 ∧ v1 + v2 ≤ 2147483647) ∧ ((0 : Int) ≤ v1 ∧ v1 ≤ 16 ∧ (0 : Int) ≤ (v1 + v2) ∧ (v1 + v2) ≤ 16)) ∧ ((¬ (f_may (M 2) v1 (v1 + v2)) → (((-2147483648 : Int) ≤ v3 + 1 ∧ v3 + 1 ≤ 2147483647)) ∧ X 9 [.inr 1, .inl v1, .inl v2, .inl (v3 + 1)] [] M) ∧ (f_may (M 2) v1 (v1 + v2) → ((0 ≤ (M 1 6) ∧ (M 1 6) < 21) ∧ ((-2147483648 : Int) ≤ (M 1 6) + 1 ∧ (M 1 6) + 1 ≤ 2147483647) ∧ ((-2147483648 : Int) ≤ v3 + 1 ∧ v3 + 1 ≤ 2147483647)) ∧ X 9 [.inr 1, .inl v1, .inl v2, .inl (v3 + 1)] [] (jx_up (jx_up M 5 (M 1 6) v3) 1 6 ((M 1 6) + 1))))))))))) :
    X 9 [.inr 1, .inl v1, .inl v2, .inl v3] [] M := by
  refine jk_load (pc := 9) hX 3 rfl rfl ?_
  refine jk_aload (pc := 10) hX 0 rfl rfl ?_
  refine jk_getR (pc := 11) hX 7 0 rfl rfl (r := 1) rfl ?_
  refine jk_const (pc := 12) hX 0 rfl (by decide) ?_
  refine jk_iald (pc := 13) hX 305 rfl rfl (by decide) ?_
  refine jk_cge (pc := 14) hX 48 rfl (fun q35 => ?_) (fun q36 => ?_)
  · have h1 := h.1 q35
    obtain ⟨g3, h4⟩ := h1
    refine jk_iinc (pc := 48) hX 2 (-1) rfl rfl g3 (ls' := [.inr 1, .inl v1, .inl (v2 + (-1)), .inl v3]) rfl ?_
    refine jk_goto (pc := 49) hX 5 rfl ?_
    refine jk_forget (pc := 5) hX 3 (ls' := [.inr 1, .inl v1, .inl (v2 + (-1)), .inr 0]) rfl ?_
    exact h4
  · have h2 := h.2 q36
    obtain ⟨⟨g5, g6⟩, h34⟩ := h2
    refine jk_aload (pc := 15) hX 0 rfl rfl ?_
    refine jk_getR (pc := 16) hX 7 0 rfl rfl (r := 1) rfl ?_
    refine jk_load (pc := 17) hX 3 rfl rfl ?_
    refine jk_cs (pc := 18) hX 86 1 rfl [.inl v3] [.inr 2] rfl rfl (Nat.le_of_ble_eq_true rfl) (sp_F_at (d + 1) v3 M g5 ?_)
    show X 19 [.inr 1, .inl v1, .inl v2, .inl v3] [.inl (1 + 11 * v3), .inr 2] M
    refine jk_iald (pc := 19) hX 305 rfl rfl g6 ?_
    refine jk_load (pc := 20) hX 2 rfl rfl ?_
    refine jk_cne (pc := 21) hX 46 rfl (fun q32 => ?_) (fun q33 => ?_)
    · have h7 := h34.1 q32
      obtain ⟨g9, h10⟩ := h7
      refine jk_iinc (pc := 46) hX 3 1 rfl rfl g9 (ls' := [.inr 1, .inl v1, .inl v2, .inl (v3 + 1)]) rfl ?_
      refine jk_goto (pc := 47) hX 9 rfl ?_
      exact h10
    · have h8 := h34.2 q33
      obtain ⟨g11, h31⟩ := h8
      refine jk_aload (pc := 22) hX 0 rfl rfl ?_
      refine jk_load (pc := 23) hX 3 rfl rfl ?_
      refine jk_load (pc := 24) hX 1 rfl rfl ?_
      refine jk_cv (pc := 25) hX 103 2 7 rfl 1 [.inl v3, .inl v1] [] rfl rfl rfl (Nat.le_of_ble_eq_true rfl) (sp_F_stands d v3 v1 M g11 ?_)
      show X 26 [.inr 1, .inl v1, .inl v2, .inl v3] [.inl (jx_b (f_stands (M 2) v3 v1))] M
      refine jk_zeqB (pc := 26) hX 46 rfl (fun q29 => ?_) (fun q30 => ?_)
      · have h12 := h31.1 q29
        obtain ⟨g14, h15⟩ := h12
        refine jk_iinc (pc := 46) hX 3 1 rfl rfl g14 (ls' := [.inr 1, .inl v1, .inl v2, .inl (v3 + 1)]) rfl ?_
        refine jk_goto (pc := 47) hX 9 rfl ?_
        exact h15
      · have h13 := h31.2 q30
        obtain ⟨⟨g16, g17⟩, h28⟩ := h13
        refine jk_aload (pc := 27) hX 0 rfl rfl ?_
        refine jk_load (pc := 28) hX 1 rfl rfl ?_
        refine jk_load (pc := 29) hX 1 rfl rfl ?_
        refine jk_load (pc := 30) hX 2 rfl rfl ?_
        refine jk_add (pc := 31) hX rfl g16 ?_
        refine jk_cv (pc := 32) hX 105 2 7 rfl 1 [.inl v1, .inl (v1 + v2)] [] rfl rfl rfl (Nat.le_of_ble_eq_true rfl) (sp_F_mayCover (d + 1) v1 (v1 + v2) M g17 ?_)
        show X 33 [.inr 1, .inl v1, .inl v2, .inl v3] [.inl (jx_b (f_may (M 2) v1 (v1 + v2)))] M
        refine jk_zeqB (pc := 33) hX 46 rfl (fun q26 => ?_) (fun q27 => ?_)
        · have h18 := h28.1 q26
          obtain ⟨g20, h21⟩ := h18
          refine jk_iinc (pc := 46) hX 3 1 rfl rfl g20 (ls' := [.inr 1, .inl v1, .inl v2, .inl (v3 + 1)]) rfl ?_
          refine jk_goto (pc := 47) hX 9 rfl ?_
          exact h21
        · have h19 := h28.2 q27
          obtain ⟨⟨g22, g23, g24⟩, h25⟩ := h19
          refine jk_aload (pc := 34) hX 0 rfl rfl ?_
          refine jk_getR (pc := 35) hX 7 7 rfl rfl (r := 4) rfl ?_
          refine jk_aload (pc := 36) hX 0 rfl rfl ?_
          refine jk_getI (pc := 37) hX 7 6 rfl rfl rfl ?_
          refine jk_load (pc := 38) hX 3 rfl rfl ?_
          refine jk_iast (pc := 39) hX 21 rfl rfl g22 ?_
          refine jk_aload (pc := 40) hX 0 rfl rfl ?_
          refine jk_dup (pc := 41) hX rfl ?_
          refine jk_getI (pc := 42) hX 7 6 rfl rfl rfl (jx_vX (jx_upc (by decide)) ?_)
          refine jk_const (pc := 43) hX 1 rfl (by decide) ?_
          refine jk_add (pc := 44) hX rfl g23 ?_
          refine jk_put (pc := 45) hX 7 6 rfl rfl rfl ?_
          refine jk_iinc (pc := 46) hX 3 1 rfl rfl g24 (ls' := [.inr 1, .inl v1, .inl v2, .inl (v3 + 1)]) rfl ?_
          refine jk_goto (pc := 47) hX 9 rfl ?_
          exact h25
