set_option maxHeartbeats 4000000 in
theorem bk_F_insert_0 {d : Nat} {K : jxK} {X : jxX} (hX : jx_clo jx_G2 (d + 0) (jx_call jx_G2 jx_T (d + 0)) kc_F_insert K X) (v1 : Int) (v2 : Int) (v3 : Int) (v4 : Int) (M : jxM)
    (h : ((0 ≤ v1 ∧ v1 < 119)) ∧ (((M 6 v1) ≠ 20 → ((20 ≤ (M 6 v1) → X 28 [.inr 1, .inl v1, .inl v2, .inl v3, .inl v4, .inl (M 6 v1), .inl 19] [] M) ∧ ((M 6 v1) < 20 → X 28 [.inr 1, .inl v1, .inl v2, .inl v3, .inl v4, .inl (M 6 v1), .inl (M 6 v1)] [] M))) ∧ ((M 6 v1) = 20 → (((-2147483648 : Int) ≤ 20 * v1 ∧ 20 * v1 ≤ 2147483647) ∧ ((-2147483648 : Int) ≤ (20 * v1) + (M 6 v1) ∧ (20 * v1) + (M 6 v1) ≤ 2147483647) ∧ ((-2147483648 : Int) ≤ ((20 * v1) + (M 6 v1)) - 1 ∧ ((20 * v1) + (M 6 v1)) - 1 ≤ 2147483647) ∧ (0 ≤ (((20 * v1) + (M 6 v1)) - 1) ∧ (((20 * v1) + (M 6 v1)) - 1) < 2380)) ∧ ((v2 < (M 7 (((20 * v1) + (M 6 v1)) - 1)) → ((20 ≤ (M 6 v1) → X 28 [.inr 1, .inl v1, .inl v2, .inl v3, .inl v4, .inl (M 6 v1), .inl 19] [] M) ∧ ((M 6 v1) < 20 → X 28 [.inr 1, .inl v1, .inl v2, .inl v3, .inl v4, .inl (M 6 v1), .inl (M 6 v1)] [] M))) ∧ ((M 7 (((20 * v1) + (M 6 v1)) - 1)) ≤ v2 → K none M))))) :
    X 0 [.inr 1, .inl v1, .inl v2, .inl v3, .inl v4, .inr 0, .inr 0] [] M := by
  obtain ⟨g1, h23⟩ := h
  refine jk_aload (pc := 0) hX 0 rfl rfl ?_
  refine jk_getR (pc := 1) hX 7 8 rfl rfl (r := 5) rfl ?_
  refine jk_load (pc := 2) hX 1 rfl rfl ?_
  refine jk_iald (pc := 3) hX 119 rfl rfl g1 ?_
  refine jk_store (pc := 4) hX 5 rfl (Nat.le_of_ble_eq_true rfl) (ls' := [.inr 1, .inl v1, .inl v2, .inl v3, .inl v4, .inl (M 6 v1), .inr 0]) rfl ?_
  refine jk_load (pc := 5) hX 5 rfl rfl ?_
  refine jk_const (pc := 6) hX 20 rfl (by decide) ?_
  refine jk_cne (pc := 7) hX 21 rfl (fun q21 => ?_) (fun q22 => ?_)
  · have h2 := h23.1 q21
    refine jk_load (pc := 21) hX 5 rfl rfl ?_
    refine jk_const (pc := 22) hX 20 rfl (by decide) ?_
    refine jk_cge (pc := 23) hX 26 rfl (fun q6 => ?_) (fun q7 => ?_)
    · have h4 := h2.1 q6
      refine jk_const (pc := 26) hX 19 rfl (by decide) ?_
      refine jk_store (pc := 27) hX 6 rfl (Nat.le_of_ble_eq_true rfl) (ls' := [.inr 1, .inl v1, .inl v2, .inl v3, .inl v4, .inl (M 6 v1), .inl 19]) rfl ?_
      exact h4
    · have h5 := h2.2 q7
      refine jk_load (pc := 24) hX 5 rfl rfl ?_
      refine jk_goto (pc := 25) hX 27 rfl ?_
      refine jk_store (pc := 27) hX 6 rfl (Nat.le_of_ble_eq_true rfl) (ls' := [.inr 1, .inl v1, .inl v2, .inl v3, .inl v4, .inl (M 6 v1), .inl (M 6 v1)]) rfl ?_
      exact h5
  · have h3 := h23.2 q22
    obtain ⟨⟨g8, g9, g10, g11⟩, h20⟩ := h3
    refine jk_load (pc := 8) hX 2 rfl rfl ?_
    refine jk_aload (pc := 9) hX 0 rfl rfl ?_
    refine jk_getR (pc := 10) hX 7 9 rfl rfl (r := 6) rfl ?_
    refine jk_const (pc := 11) hX 20 rfl (by decide) ?_
    refine jk_load (pc := 12) hX 1 rfl rfl ?_
    refine jk_mul (pc := 13) hX rfl g8 ?_
    refine jk_load (pc := 14) hX 5 rfl rfl ?_
    refine jk_add (pc := 15) hX rfl g9 ?_
    refine jk_const (pc := 16) hX 1 rfl (by decide) ?_
    refine jk_sub (pc := 17) hX rfl g10 ?_
    refine jk_iald (pc := 18) hX 2380 rfl rfl g11 ?_
    refine jk_clt (pc := 19) hX 21 rfl (fun q18 => ?_) (fun q19 => ?_)
    · have h12 := h20.1 q18
      refine jk_load (pc := 21) hX 5 rfl rfl ?_
      refine jk_const (pc := 22) hX 20 rfl (by decide) ?_
      refine jk_cge (pc := 23) hX 26 rfl (fun q16 => ?_) (fun q17 => ?_)
      · have h14 := h12.1 q16
        refine jk_const (pc := 26) hX 19 rfl (by decide) ?_
        refine jk_store (pc := 27) hX 6 rfl (Nat.le_of_ble_eq_true rfl) (ls' := [.inr 1, .inl v1, .inl v2, .inl v3, .inl v4, .inl (M 6 v1), .inl 19]) rfl ?_
        exact h14
      · have h15 := h12.2 q17
        refine jk_load (pc := 24) hX 5 rfl rfl ?_
        refine jk_goto (pc := 25) hX 27 rfl ?_
        refine jk_store (pc := 27) hX 6 rfl (Nat.le_of_ble_eq_true rfl) (ls' := [.inr 1, .inl v1, .inl v2, .inl v3, .inl v4, .inl (M 6 v1), .inl (M 6 v1)]) rfl ?_
        exact h15
    · have h13 := h20.2 q19
      exact jk_vret (pc := 20) hX rfl h13
set_option maxHeartbeats 4000000 in
theorem bk_F_insert_28 {d : Nat} {K : jxK} {X : jxX} (hX : jx_clo jx_G2 (d + 0) (jx_call jx_G2 jx_T (d + 0)) kc_F_insert K X) (v1 : Int) (v2 : Int) (v3 : Int) (v4 : Int) (v5 : Int) (v6 : Int) (M : jxM)
    (h : ((v6 ≤ 0 → (((-2147483648 : Int) ≤ 20 * v1 ∧ 20 * v1 ≤ 2147483647) ∧ ((-2147483648 : Int) ≤ (20 * v1) + v6 ∧ (20 * v1) + v6 ≤ 2147483647) ∧ (0 ≤ ((20 * v1) + v6) ∧ ((20 * v1) + v6) < 2380) ∧ ((-2147483648 : Int) ≤ 20 * v1 ∧ 20 * v1 ≤ 2147483647) ∧ ((-2147483648 : Int) ≤ (20 * v1) + v6 ∧ (20 * v1) + v6 ≤ 2147483647) ∧ (0 ≤ ((20 * v1) + v6) ∧ ((20 * v1) + v6) < 2380) ∧ ((-2147483648 : Int) ≤ 20 * v1 ∧ 20 * v1 ≤ 2147483647) ∧ ((-2147483648 : Int) ≤ (20 * v1) + v6 ∧ (20 * v1) + v6 ≤ 2147483647) ∧ (0 ≤ ((20 * v1) + v6) ∧ ((20 * v1) + v6) < 2380)) ∧ ((20 ≤ v5 → ((0 ≤ v1 ∧ v1 < 119)) ∧ K none (jx_up (jx_up (jx_up (jx_up M 7 ((20 * v1) + v6) v2) 8 ((20 * v1) + v6) v3) 9 ((20 * v1) + v6) v4) 6 v1 20)) ∧ (v5 < 20 → (((-2147483648 : Int) ≤ v5 + 1 ∧ v5 + 1 ≤ 2147483647) ∧ (0 ≤ v1 ∧ v1 < 119)) ∧ K none (jx_up (jx_up (jx_up (jx_up M 7 ((20 * v1) + v6) v2) 8 ((20 * v1) + v6) v3) 9 ((20 * v1) + v6) v4) 6 v1 (v5 + 1))))) ∧ (0 < v6 → (((-2147483648 : Int) ≤ 20 * v1 ∧ 20 * v1 ≤ 2147483647) ∧ ((-2147483648 : Int) ≤ (20 * v1) + v6 ∧ (20 * v1) + v6 ≤ 2147483647) ∧ ((-2147483648 : Int) ≤ ((20 * v1) + v6) - 1 ∧ ((20 * v1) + v6) - 1 ≤ 2147483647) ∧ (0 ≤ (((20 * v1) + v6) - 1) ∧ (((20 * v1) + v6) - 1) < 2380)) ∧ (((M 7 (((20 * v1) + v6) - 1)) ≤ v2 → (((-2147483648 : Int) ≤ 20 * v1 ∧ 20 * v1 ≤ 2147483647) ∧ ((-2147483648 : Int) ≤ (20 * v1) + v6 ∧ (20 * v1) + v6 ≤ 2147483647) ∧ (0 ≤ ((20 * v1) + v6) ∧ ((20 * v1) + v6) < 2380) ∧ ((-2147483648 : Int) ≤ 20 * v1 ∧ 20 * v1 ≤ 2147483647) ∧ ((-2147483648 : Int) ≤ (20 * v1) + v6 ∧ (20 * v1) + v6 ≤ 2147483647) ∧ (0 ≤ ((20 * v1) + v6) ∧ ((20 * v1) + v6) < 2380) ∧ ((-2147483648 : Int) ≤ 20 * v1 ∧ 20 * v1 ≤ 2147483647) ∧ ((-2147483648 : Int) ≤ (20 * v1) + v6 ∧ (20 * v1) + v6 ≤ 2147483647) ∧ (0 ≤ ((20 * v1) + v6) ∧ ((20 * v1) + v6) < 2380)) ∧ ((20 ≤ v5 → ((0 ≤ v1 ∧ v1 < 119)) ∧ K none (jx_up (jx_up (jx_up (jx_up M 7 ((20 * v1) + v6) v2) 8 ((20 * v1) + v6) v3) 9 ((20 * v1) + v6) v4) 6 v1 20)) ∧ (v5 < 20 → (((-2147483648 : Int) ≤ v5 + 1 ∧ v5 + 1 ≤ 2147483647) ∧ (0 ≤ v1 ∧ v1 < 119)) ∧ K none (jx_up (jx_up (jx_up (jx_up M 7 ((20 * v1) + v6) v2) 8 ((20 * v1) + v6) v3) 9 ((20 * v1) + v6) v4) 6 v1 (v5 + 1))))) ∧ (v2 < (M 7 (((20 * v1) + v6) - 1)) → (((-2147483648 : Int) ≤ 20 * v1 ∧ 20 * v1 ≤ 2147483647) ∧ ((-2147483648 : Int) ≤ (20 * v1) + v6 ∧ (20 * v1) + v6 ≤ 2147483647) ∧ ((-2147483648 : Int) ≤ 20 * v1 ∧ 20 * v1 ≤ 2147483647) ∧ ((-2147483648 : Int) ≤ (20 * v1) + v6 ∧ (20 * v1) + v6 ≤ 2147483647) ∧ ((-2147483648 : Int) ≤ ((20 * v1) + v6) - 1 ∧ ((20 * v1) + v6) - 1 ≤ 2147483647) ∧ (0 ≤ (((20 * v1) + v6) - 1) ∧ (((20 * v1) + v6) - 1) < 2380) ∧ (0 ≤ ((20 * v1) + v6) ∧ ((20 * v1) + v6) < 2380) ∧ ((-2147483648 : Int) ≤ 20 * v1 ∧ 20 * v1 ≤ 2147483647) ∧ ((-2147483648 : Int) ≤ (20 * v1) + v6 ∧ (20 * v1) + v6 ≤ 2147483647) ∧ ((-2147483648 : Int) ≤ 20 * v1 ∧ 20 * v1 ≤ 2147483647) ∧ ((-2147483648 : Int) ≤ (20 * v1) + v6 ∧ (20 * v1) + v6 ≤ 2147483647) ∧ ((-2147483648 : Int) ≤ ((20 * v1) + v6) - 1 ∧ ((20 * v1) + v6) - 1 ≤ 2147483647) ∧ (0 ≤ (((20 * v1) + v6) - 1) ∧ (((20 * v1) + v6) - 1) < 2380) ∧ (0 ≤ ((20 * v1) + v6) ∧ ((20 * v1) + v6) < 2380) ∧ ((-2147483648 : Int) ≤ 20 * v1 ∧ 20 * v1 ≤ 2147483647) ∧ ((-2147483648 : Int) ≤ (20 * v1) + v6 ∧ (20 * v1) + v6 ≤ 2147483647) ∧ ((-2147483648 : Int) ≤ 20 * v1 ∧ 20 * v1 ≤ 2147483647) ∧ ((-2147483648 : Int) ≤ (20 * v1) + v6 ∧ (20 * v1) + v6 ≤ 2147483647) ∧ ((-2147483648 : Int) ≤ ((20 * v1) + v6) - 1 ∧ ((20 * v1) + v6) - 1 ≤ 2147483647) ∧ (0 ≤ (((20 * v1) + v6) - 1) ∧ (((20 * v1) + v6) - 1) < 2380) ∧ (0 ≤ ((20 * v1) + v6) ∧ ((20 * v1) + v6) < 2380) ∧ ((-2147483648 : Int) ≤ v6 + (-1) ∧ v6 + (-1) ≤ 2147483647)) ∧ X 28 [.inr 1, .inl v1, .inl v2, .inl v3, .inl v4, .inl v5, .inl (v6 + (-1))] [] (jx_up (jx_up (jx_up M 7 ((20 * v1) + v6) (M 7 (((20 * v1) + v6) - 1))) 8 ((20 * v1) + v6) (M 8 (((20 * v1) + v6) - 1))) 9 ((20 * v1) + v6) (M 9 (((20 * v1) + v6) - 1)))))))) :
    X 28 [.inr 1, .inl v1, .inl v2, .inl v3, .inl v4, .inl v5, .inl v6] [] M := by
  refine jk_load (pc := 28) hX 6 rfl rfl ?_
  refine jk_zle (pc := 29) hX 98 rfl (fun q73 => ?_) (fun q74 => ?_)
  · have h1 := h.1 q73
    obtain ⟨⟨g3, g4, g5, g6, g7, g8, g9, g10, g11⟩, h21⟩ := h1
    refine jk_aload (pc := 98) hX 0 rfl rfl ?_
    refine jk_getR (pc := 99) hX 7 9 rfl rfl (r := 6) rfl ?_
    refine jk_const (pc := 100) hX 20 rfl (by decide) ?_
    refine jk_load (pc := 101) hX 1 rfl rfl ?_
    refine jk_mul (pc := 102) hX rfl g3 ?_
    refine jk_load (pc := 103) hX 6 rfl rfl ?_
    refine jk_add (pc := 104) hX rfl g4 ?_
    refine jk_load (pc := 105) hX 2 rfl rfl ?_
    refine jk_iast (pc := 106) hX 2380 rfl rfl g5 ?_
    refine jk_aload (pc := 107) hX 0 rfl rfl ?_
    refine jk_getR (pc := 108) hX 7 10 rfl rfl (r := 7) rfl ?_
    refine jk_const (pc := 109) hX 20 rfl (by decide) ?_
    refine jk_load (pc := 110) hX 1 rfl rfl ?_
    refine jk_mul (pc := 111) hX rfl g6 ?_
    refine jk_load (pc := 112) hX 6 rfl rfl ?_
    refine jk_add (pc := 113) hX rfl g7 ?_
    refine jk_load (pc := 114) hX 3 rfl rfl ?_
    refine jk_iast (pc := 115) hX 2380 rfl rfl g8 ?_
    refine jk_aload (pc := 116) hX 0 rfl rfl ?_
    refine jk_getR (pc := 117) hX 7 11 rfl rfl (r := 8) rfl ?_
    refine jk_const (pc := 118) hX 20 rfl (by decide) ?_
    refine jk_load (pc := 119) hX 1 rfl rfl ?_
    refine jk_mul (pc := 120) hX rfl g9 ?_
    refine jk_load (pc := 121) hX 6 rfl rfl ?_
    refine jk_add (pc := 122) hX rfl g10 ?_
    refine jk_load (pc := 123) hX 4 rfl rfl ?_
    refine jk_iast (pc := 124) hX 2380 rfl rfl g11 ?_
    refine jk_aload (pc := 125) hX 0 rfl rfl ?_
    refine jk_getR (pc := 126) hX 7 8 rfl rfl (r := 5) rfl ?_
    refine jk_load (pc := 127) hX 1 rfl rfl ?_
    refine jk_load (pc := 128) hX 5 rfl rfl ?_
    refine jk_const (pc := 129) hX 20 rfl (by decide) ?_
    refine jk_cge (pc := 130) hX 135 rfl (fun q19 => ?_) (fun q20 => ?_)
    · have h12 := h21.1 q19
      obtain ⟨g14, h15⟩ := h12
      refine jk_const (pc := 135) hX 20 rfl (by decide) ?_
      refine jk_iast (pc := 136) hX 119 rfl rfl g14 ?_
      exact jk_vret (pc := 137) hX rfl h15
    · have h13 := h21.2 q20
      obtain ⟨⟨g16, g17⟩, h18⟩ := h13
      refine jk_load (pc := 131) hX 5 rfl rfl ?_
      refine jk_const (pc := 132) hX 1 rfl (by decide) ?_
      refine jk_add (pc := 133) hX rfl g16 ?_
      refine jk_goto (pc := 134) hX 136 rfl ?_
      refine jk_iast (pc := 136) hX 119 rfl rfl g17 ?_
      exact jk_vret (pc := 137) hX rfl h18
  · have h2 := h.2 q74
    obtain ⟨⟨g22, g23, g24, g25⟩, h72⟩ := h2
    refine jk_aload (pc := 30) hX 0 rfl rfl ?_
    refine jk_getR (pc := 31) hX 7 9 rfl rfl (r := 6) rfl ?_
    refine jk_const (pc := 32) hX 20 rfl (by decide) ?_
    refine jk_load (pc := 33) hX 1 rfl rfl ?_
    refine jk_mul (pc := 34) hX rfl g22 ?_
    refine jk_load (pc := 35) hX 6 rfl rfl ?_
    refine jk_add (pc := 36) hX rfl g23 ?_
    refine jk_const (pc := 37) hX 1 rfl (by decide) ?_
    refine jk_sub (pc := 38) hX rfl g24 ?_
    refine jk_iald (pc := 39) hX 2380 rfl rfl g25 ?_
    refine jk_load (pc := 40) hX 2 rfl rfl ?_
    refine jk_cle (pc := 41) hX 98 rfl (fun q70 => ?_) (fun q71 => ?_)
    · have h26 := h72.1 q70
      obtain ⟨⟨g28, g29, g30, g31, g32, g33, g34, g35, g36⟩, h46⟩ := h26
      refine jk_aload (pc := 98) hX 0 rfl rfl ?_
      refine jk_getR (pc := 99) hX 7 9 rfl rfl (r := 6) rfl ?_
      refine jk_const (pc := 100) hX 20 rfl (by decide) ?_
      refine jk_load (pc := 101) hX 1 rfl rfl ?_
      refine jk_mul (pc := 102) hX rfl g28 ?_
      refine jk_load (pc := 103) hX 6 rfl rfl ?_
      refine jk_add (pc := 104) hX rfl g29 ?_
      refine jk_load (pc := 105) hX 2 rfl rfl ?_
      refine jk_iast (pc := 106) hX 2380 rfl rfl g30 ?_
      refine jk_aload (pc := 107) hX 0 rfl rfl ?_
      refine jk_getR (pc := 108) hX 7 10 rfl rfl (r := 7) rfl ?_
      refine jk_const (pc := 109) hX 20 rfl (by decide) ?_
      refine jk_load (pc := 110) hX 1 rfl rfl ?_
      refine jk_mul (pc := 111) hX rfl g31 ?_
      refine jk_load (pc := 112) hX 6 rfl rfl ?_
      refine jk_add (pc := 113) hX rfl g32 ?_
      refine jk_load (pc := 114) hX 3 rfl rfl ?_
      refine jk_iast (pc := 115) hX 2380 rfl rfl g33 ?_
      refine jk_aload (pc := 116) hX 0 rfl rfl ?_
      refine jk_getR (pc := 117) hX 7 11 rfl rfl (r := 8) rfl ?_
      refine jk_const (pc := 118) hX 20 rfl (by decide) ?_
      refine jk_load (pc := 119) hX 1 rfl rfl ?_
      refine jk_mul (pc := 120) hX rfl g34 ?_
      refine jk_load (pc := 121) hX 6 rfl rfl ?_
      refine jk_add (pc := 122) hX rfl g35 ?_
      refine jk_load (pc := 123) hX 4 rfl rfl ?_
      refine jk_iast (pc := 124) hX 2380 rfl rfl g36 ?_
      refine jk_aload (pc := 125) hX 0 rfl rfl ?_
      refine jk_getR (pc := 126) hX 7 8 rfl rfl (r := 5) rfl ?_
      refine jk_load (pc := 127) hX 1 rfl rfl ?_
      refine jk_load (pc := 128) hX 5 rfl rfl ?_
      refine jk_const (pc := 129) hX 20 rfl (by decide) ?_
      refine jk_cge (pc := 130) hX 135 rfl (fun q44 => ?_) (fun q45 => ?_)
      · have h37 := h46.1 q44
        obtain ⟨g39, h40⟩ := h37
        refine jk_const (pc := 135) hX 20 rfl (by decide) ?_
        refine jk_iast (pc := 136) hX 119 rfl rfl g39 ?_
        exact jk_vret (pc := 137) hX rfl h40
      · have h38 := h46.2 q45
        obtain ⟨⟨g41, g42⟩, h43⟩ := h38
        refine jk_load (pc := 131) hX 5 rfl rfl ?_
        refine jk_const (pc := 132) hX 1 rfl (by decide) ?_
        refine jk_add (pc := 133) hX rfl g41 ?_
        refine jk_goto (pc := 134) hX 136 rfl ?_
        refine jk_iast (pc := 136) hX 119 rfl rfl g42 ?_
        exact jk_vret (pc := 137) hX rfl h43
    · have h27 := h72.2 q71
      obtain ⟨⟨g47, g48, g49, g50, g51, g52, g53, g54, g55, g56, g57, g58, g59, g60, g61, g62, g63, g64, g65, g66, g67, g68⟩, h69⟩ := h27
      refine jk_aload (pc := 42) hX 0 rfl rfl ?_
      refine jk_getR (pc := 43) hX 7 9 rfl rfl (r := 6) rfl ?_
      refine jk_const (pc := 44) hX 20 rfl (by decide) ?_
      refine jk_load (pc := 45) hX 1 rfl rfl ?_
      refine jk_mul (pc := 46) hX rfl g47 ?_
      refine jk_load (pc := 47) hX 6 rfl rfl ?_
      refine jk_add (pc := 48) hX rfl g48 ?_
      refine jk_aload (pc := 49) hX 0 rfl rfl ?_
      refine jk_getR (pc := 50) hX 7 9 rfl rfl (r := 6) rfl ?_
      refine jk_const (pc := 51) hX 20 rfl (by decide) ?_
      refine jk_load (pc := 52) hX 1 rfl rfl ?_
      refine jk_mul (pc := 53) hX rfl g49 ?_
      refine jk_load (pc := 54) hX 6 rfl rfl ?_
      refine jk_add (pc := 55) hX rfl g50 ?_
      refine jk_const (pc := 56) hX 1 rfl (by decide) ?_
      refine jk_sub (pc := 57) hX rfl g51 ?_
      refine jk_iald (pc := 58) hX 2380 rfl rfl g52 ?_
      refine jk_iast (pc := 59) hX 2380 rfl rfl g53 ?_
      refine jk_aload (pc := 60) hX 0 rfl rfl ?_
      refine jk_getR (pc := 61) hX 7 10 rfl rfl (r := 7) rfl ?_
      refine jk_const (pc := 62) hX 20 rfl (by decide) ?_
      refine jk_load (pc := 63) hX 1 rfl rfl ?_
      refine jk_mul (pc := 64) hX rfl g54 ?_
      refine jk_load (pc := 65) hX 6 rfl rfl ?_
      refine jk_add (pc := 66) hX rfl g55 ?_
      refine jk_aload (pc := 67) hX 0 rfl rfl ?_
      refine jk_getR (pc := 68) hX 7 10 rfl rfl (r := 7) rfl ?_
      refine jk_const (pc := 69) hX 20 rfl (by decide) ?_
      refine jk_load (pc := 70) hX 1 rfl rfl ?_
      refine jk_mul (pc := 71) hX rfl g56 ?_
      refine jk_load (pc := 72) hX 6 rfl rfl ?_
      refine jk_add (pc := 73) hX rfl g57 ?_
      refine jk_const (pc := 74) hX 1 rfl (by decide) ?_
      refine jk_sub (pc := 75) hX rfl g58 ?_
      refine jk_iald (pc := 76) hX 2380 rfl rfl g59 (jx_vX (jx_upc (by decide)) ?_)
      refine jk_iast (pc := 77) hX 2380 rfl rfl g60 ?_
      refine jk_aload (pc := 78) hX 0 rfl rfl ?_
      refine jk_getR (pc := 79) hX 7 11 rfl rfl (r := 8) rfl ?_
      refine jk_const (pc := 80) hX 20 rfl (by decide) ?_
      refine jk_load (pc := 81) hX 1 rfl rfl ?_
      refine jk_mul (pc := 82) hX rfl g61 ?_
      refine jk_load (pc := 83) hX 6 rfl rfl ?_
      refine jk_add (pc := 84) hX rfl g62 ?_
      refine jk_aload (pc := 85) hX 0 rfl rfl ?_
      refine jk_getR (pc := 86) hX 7 11 rfl rfl (r := 8) rfl ?_
      refine jk_const (pc := 87) hX 20 rfl (by decide) ?_
      refine jk_load (pc := 88) hX 1 rfl rfl ?_
      refine jk_mul (pc := 89) hX rfl g63 ?_
      refine jk_load (pc := 90) hX 6 rfl rfl ?_
      refine jk_add (pc := 91) hX rfl g64 ?_
      refine jk_const (pc := 92) hX 1 rfl (by decide) ?_
      refine jk_sub (pc := 93) hX rfl g65 ?_
      refine jk_iald (pc := 94) hX 2380 rfl rfl g66 (jx_vX ((jx_upc (by decide)).trans (jx_upc (by decide))) ?_)
      refine jk_iast (pc := 95) hX 2380 rfl rfl g67 ?_
      refine jk_iinc (pc := 96) hX 6 (-1) rfl rfl g68 (ls' := [.inr 1, .inl v1, .inl v2, .inl v3, .inl v4, .inl v5, .inl (v6 + (-1))]) rfl ?_
      refine jk_goto (pc := 97) hX 28 rfl ?_
      exact h69
set_option maxHeartbeats 4000000 in
theorem bk_F_layPlace_0 {d : Nat} {K : jxK} {X : jxX} (hX : jx_clo jx_G2 (d + 3) (jx_call jx_G2 jx_T (d + 3)) kc_F_layPlace K X) (v1 : Int) (v2 : Int) (M : jxM)
    (h : (((-2147483648 : Int) ≤ 7 * v1 ∧ 7 * v1 ≤ 2147483647) ∧ ((-2147483648 : Int) ≤ (7 * v1) + v2 ∧ (7 * v1) + v2 ≤ 2147483647) ∧ (0 ≤ ((7 * v1) + v2) ∧ ((7 * v1) + v2) < 119) ∧ (0 ≤ ((7 * v1) + v2) ∧ ((7 * v1) + v2) < 119)) ∧ X 18 [.inr 1, .inl v1, .inl v2, .inl ((7 * v1) + v2), .inl 0, .inr 0, .inr 0, .inr 0, .inr 0] [] (jx_up (jx_up M 6 ((7 * v1) + v2) 0) 10 ((7 * v1) + v2) 0)) :
    X 0 [.inr 1, .inl v1, .inl v2, .inr 0, .inr 0, .inr 0, .inr 0, .inr 0, .inr 0] [] M := by
  obtain ⟨⟨g1, g2, g3, g4⟩, h5⟩ := h
  refine jk_const (pc := 0) hX 7 rfl (by decide) ?_
  refine jk_load (pc := 1) hX 1 rfl rfl ?_
  refine jk_mul (pc := 2) hX rfl g1 ?_
  refine jk_load (pc := 3) hX 2 rfl rfl ?_
  refine jk_add (pc := 4) hX rfl g2 ?_
  refine jk_store (pc := 5) hX 3 rfl (Nat.le_of_ble_eq_true rfl) (ls' := [.inr 1, .inl v1, .inl v2, .inl ((7 * v1) + v2), .inr 0, .inr 0, .inr 0, .inr 0, .inr 0]) rfl ?_
  refine jk_aload (pc := 6) hX 0 rfl rfl ?_
  refine jk_getR (pc := 7) hX 7 8 rfl rfl (r := 5) rfl ?_
  refine jk_load (pc := 8) hX 3 rfl rfl ?_
  refine jk_const (pc := 9) hX 0 rfl (by decide) ?_
  refine jk_iast (pc := 10) hX 119 rfl rfl g3 ?_
  refine jk_aload (pc := 11) hX 0 rfl rfl ?_
  refine jk_getR (pc := 12) hX 7 12 rfl rfl (r := 9) rfl ?_
  refine jk_load (pc := 13) hX 3 rfl rfl ?_
  refine jk_const (pc := 14) hX 0 rfl (by decide) ?_
  refine jk_iast (pc := 15) hX 119 rfl rfl g4 ?_
  refine jk_const (pc := 16) hX 0 rfl (by decide) ?_
  refine jk_store (pc := 17) hX 4 rfl (Nat.le_of_ble_eq_true rfl) (ls' := [.inr 1, .inl v1, .inl v2, .inl ((7 * v1) + v2), .inl 0, .inr 0, .inr 0, .inr 0, .inr 0]) rfl ?_
  exact h5
set_option maxHeartbeats 4000000 in
theorem bk_F_layPlace_18 {d : Nat} {K : jxK} {X : jxX} (hX : jx_clo jx_G2 (d + 3) (jx_call jx_G2 jx_T (d + 3)) kc_F_layPlace K X) (v1 : Int) (v2 : Int) (v3 : Int) (v4 : Int) (M : jxM)
    (h : (((M 1 6) ≤ v4 → X 78 [.inr 1, .inl v1, .inl v2, .inl v3, .inl 0, .inr 0, .inr 0, .inr 0, .inr 0] [] M) ∧ (v4 < (M 1 6) → ((0 ≤ v4 ∧ v4 < 21) ∧ (((M 5 v4) = -5 ∨ (0 : Int) ≤ (M 5 v4) ∧ (M 5 v4) < 20 ∧ (0 : Int) ≤ (M 2 (1 + 11 * (M 5 v4))) ∧ (M 2 (1 + 11 * (M 5 v4))) ≤ 6) ∧ (0 : Int) ≤ v1 ∧ v1 ≤ 16) ∧ ((-2147483648 : Int) ≤ 7 * (f_end (M 2) (M 5 v4) v1) ∧ 7 * (f_end (M 2) (M 5 v4) v1) ≤ 2147483647) ∧ ((M 5 v4) = -5 ∨ (0 : Int) ≤ (M 5 v4) ∧ (M 5 v4) < 20) ∧ ((-2147483648 : Int) ≤ (7 * (f_end (M 2) (M 5 v4) v1)) + (f_cls (M 2) (M 5 v4)) ∧ (7 * (f_end (M 2) (M 5 v4) v1)) + (f_cls (M 2) (M 5 v4)) ≤ 2147483647) ∧ ((M 5 v4) = -5 ∨ (0 : Int) ≤ (M 5 v4) ∧ (M 5 v4) < 20) ∧ ((0 : Int) ≤ v2 ∧ v2 ≤ 6 ∧ (0 : Int) ≤ (f_cls (M 2) (M 5 v4)) ∧ (f_cls (M 2) (M 5 v4)) ≤ 6) ∧ ((M 5 v4) = -5 ∨ ((0 : Int) ≤ (M 5 v4) ∧ (M 5 v4) < 20) ∧ ((0 : Int) ≤ (M 2 (1 + 11 * (M 5 v4) + 9)) ∧ (M 2 (1 + 11 * (M 5 v4) + 9)) ≤ 99) ∧ ((0 : Int) ≤ (M 2 (1 + 11 * (M 5 v4) + 10)) ∧ (M 2 (1 + 11 * (M 5 v4) + 10)) ≤ 9)) ∧ ((-2147483648 : Int) ≤ ((M 2 (221 + 7 * v2 + (f_cls (M 2) (M 5 v4))))) + (f_cost (M 2) (M 5 v4)) ∧ ((M 2 (221 + 7 * v2 + (f_cls (M 2) (M 5 v4))))) + (f_cost (M 2) (M 5 v4)) ≤ 2147483647)) ∧ X 51 [.inr 1, .inl v1, .inl v2, .inl v3, .inl v4, .inl (M 5 v4), .inl ((7 * (f_end (M 2) (M 5 v4) v1)) + (f_cls (M 2) (M 5 v4))), .inl (((M 2 (221 + 7 * v2 + (f_cls (M 2) (M 5 v4))))) + (f_cost (M 2) (M 5 v4))), .inl 0] [] M))) :
    X 18 [.inr 1, .inl v1, .inl v2, .inl v3, .inl v4, .inr 0, .inr 0, .inr 0, .inr 0] [] M := by
  refine jk_load (pc := 18) hX 4 rfl rfl ?_
  refine jk_aload (pc := 19) hX 0 rfl rfl ?_
  refine jk_getI (pc := 20) hX 7 6 rfl rfl rfl ?_
  refine jk_cge (pc := 21) hX 76 rfl (fun q13 => ?_) (fun q14 => ?_)
  · have h1 := h.1 q13
    refine jk_const (pc := 76) hX 0 rfl (by decide) ?_
    refine jk_store (pc := 77) hX 4 rfl (Nat.le_of_ble_eq_true rfl) (ls' := [.inr 1, .inl v1, .inl v2, .inl v3, .inl 0, .inr 0, .inr 0, .inr 0, .inr 0]) rfl ?_
    exact h1
  · have h2 := h.2 q14
    obtain ⟨⟨g3, g4, g5, g6, g7, g8, g9, g10, g11⟩, h12⟩ := h2
    refine jk_aload (pc := 22) hX 0 rfl rfl ?_
    refine jk_getR (pc := 23) hX 7 7 rfl rfl (r := 4) rfl ?_
    refine jk_load (pc := 24) hX 4 rfl rfl ?_
    refine jk_iald (pc := 25) hX 21 rfl rfl g3 ?_
    refine jk_store (pc := 26) hX 5 rfl (Nat.le_of_ble_eq_true rfl) (ls' := [.inr 1, .inl v1, .inl v2, .inl v3, .inl v4, .inl (M 5 v4), .inr 0, .inr 0, .inr 0]) rfl ?_
    refine jk_const (pc := 27) hX 7 rfl (by decide) ?_
    refine jk_aload (pc := 28) hX 0 rfl rfl ?_
    refine jk_load (pc := 29) hX 5 rfl rfl ?_
    refine jk_load (pc := 30) hX 1 rfl rfl ?_
    refine jk_cv (pc := 31) hX 107 2 7 rfl 1 [.inl (M 5 v4), .inl v1] [.inl 7] rfl rfl rfl (Nat.le_of_ble_eq_true rfl) (sp_F_endOf (d + 1) (M 5 v4) v1 M g4 ?_)
    show X 32 [.inr 1, .inl v1, .inl v2, .inl v3, .inl v4, .inl (M 5 v4), .inr 0, .inr 0, .inr 0] [.inl (f_end (M 2) (M 5 v4) v1), .inl 7] M
    refine jk_mul (pc := 32) hX rfl g5 ?_
    refine jk_aload (pc := 33) hX 0 rfl rfl ?_
    refine jk_load (pc := 34) hX 5 rfl rfl ?_
    refine jk_cv (pc := 35) hX 108 1 7 rfl 1 [.inl (M 5 v4)] [.inl (7 * (f_end (M 2) (M 5 v4) v1))] rfl rfl rfl (Nat.le_of_ble_eq_true rfl) (sp_F_classOf (d + 1) (M 5 v4) M g6 ?_)
    show X 36 [.inr 1, .inl v1, .inl v2, .inl v3, .inl v4, .inl (M 5 v4), .inr 0, .inr 0, .inr 0] [.inl (f_cls (M 2) (M 5 v4)), .inl (7 * (f_end (M 2) (M 5 v4) v1))] M
    refine jk_add (pc := 36) hX rfl g7 ?_
    refine jk_store (pc := 37) hX 6 rfl (Nat.le_of_ble_eq_true rfl) (ls' := [.inr 1, .inl v1, .inl v2, .inl v3, .inl v4, .inl (M 5 v4), .inl ((7 * (f_end (M 2) (M 5 v4) v1)) + (f_cls (M 2) (M 5 v4))), .inr 0, .inr 0]) rfl ?_
    refine jk_aload (pc := 38) hX 0 rfl rfl ?_
    refine jk_load (pc := 39) hX 2 rfl rfl ?_
    refine jk_aload (pc := 40) hX 0 rfl rfl ?_
    refine jk_load (pc := 41) hX 5 rfl rfl ?_
    refine jk_cv (pc := 42) hX 108 1 7 rfl 1 [.inl (M 5 v4)] [.inl v2, .inr 1] rfl rfl rfl (Nat.le_of_ble_eq_true rfl) (sp_F_classOf (d + 1) (M 5 v4) M g8 ?_)
    show X 43 [.inr 1, .inl v1, .inl v2, .inl v3, .inl v4, .inl (M 5 v4), .inl ((7 * (f_end (M 2) (M 5 v4) v1)) + (f_cls (M 2) (M 5 v4))), .inr 0, .inr 0] [.inl (f_cls (M 2) (M 5 v4)), .inl v2, .inr 1] M
    refine jk_cv (pc := 43) hX 110 2 7 rfl 1 [.inl v2, .inl (f_cls (M 2) (M 5 v4))] [] rfl rfl rfl (Nat.le_of_ble_eq_true rfl) (sp_F_between (d + 2) v2 (f_cls (M 2) (M 5 v4)) M g9 ?_)
    show X 44 [.inr 1, .inl v1, .inl v2, .inl v3, .inl v4, .inl (M 5 v4), .inl ((7 * (f_end (M 2) (M 5 v4) v1)) + (f_cls (M 2) (M 5 v4))), .inr 0, .inr 0] [.inl ((M 2 (221 + 7 * v2 + (f_cls (M 2) (M 5 v4)))))] M
    refine jk_aload (pc := 44) hX 0 rfl rfl ?_
    refine jk_load (pc := 45) hX 5 rfl rfl ?_
    refine jk_cv (pc := 46) hX 109 1 7 rfl 1 [.inl (M 5 v4)] [.inl ((M 2 (221 + 7 * v2 + (f_cls (M 2) (M 5 v4)))))] rfl rfl rfl (Nat.le_of_ble_eq_true rfl) (sp_F_segmentCost d (M 5 v4) M g10 ?_)
    show X 47 [.inr 1, .inl v1, .inl v2, .inl v3, .inl v4, .inl (M 5 v4), .inl ((7 * (f_end (M 2) (M 5 v4) v1)) + (f_cls (M 2) (M 5 v4))), .inr 0, .inr 0] [.inl (f_cost (M 2) (M 5 v4)), .inl ((M 2 (221 + 7 * v2 + (f_cls (M 2) (M 5 v4)))))] M
    refine jk_add (pc := 47) hX rfl g11 ?_
    refine jk_store (pc := 48) hX 7 rfl (Nat.le_of_ble_eq_true rfl) (ls' := [.inr 1, .inl v1, .inl v2, .inl v3, .inl v4, .inl (M 5 v4), .inl ((7 * (f_end (M 2) (M 5 v4) v1)) + (f_cls (M 2) (M 5 v4))), .inl (((M 2 (221 + 7 * v2 + (f_cls (M 2) (M 5 v4))))) + (f_cost (M 2) (M 5 v4))), .inr 0]) rfl ?_
    refine jk_const (pc := 49) hX 0 rfl (by decide) ?_
    refine jk_store (pc := 50) hX 8 rfl (Nat.le_of_ble_eq_true rfl) (ls' := [.inr 1, .inl v1, .inl v2, .inl v3, .inl v4, .inl (M 5 v4), .inl ((7 * (f_end (M 2) (M 5 v4) v1)) + (f_cls (M 2) (M 5 v4))), .inl (((M 2 (221 + 7 * v2 + (f_cls (M 2) (M 5 v4))))) + (f_cost (M 2) (M 5 v4))), .inl 0]) rfl ?_
    exact h12
set_option maxHeartbeats 4000000 in
theorem bk_F_layPlace_51 {d : Nat} {K : jxK} {X : jxX} (hX : jx_clo jx_G2 (d + 3) (jx_call jx_G2 jx_T (d + 3)) kc_F_layPlace K X) (v1 : Int) (v2 : Int) (v3 : Int) (v4 : Int) (v5 : Int) (v6 : Int) (v7 : Int) (v8 : Int) (M : jxM)
    (h : ((0 ≤ v6 ∧ v6 < 119)) ∧ (((M 6 v6) ≤ v8 → (((-2147483648 : Int) ≤ v4 + 1 ∧ v4 + 1 ≤ 2147483647)) ∧ X 18 [.inr 1, .inl v1, .inl v2, .inl v3, .inl (v4 + 1), .inr 0, .inr 0, .inr 0, .inr 0] [] M) ∧ (v8 < (M 6 v6) → (((-2147483648 : Int) ≤ 20 * v6 ∧ 20 * v6 ≤ 2147483647) ∧ ((-2147483648 : Int) ≤ (20 * v6) + v8 ∧ (20 * v6) + v8 ≤ 2147483647) ∧ (0 ≤ ((20 * v6) + v8) ∧ ((20 * v6) + v8) < 2380) ∧ ((-2147483648 : Int) ≤ v7 + (M 7 ((20 * v6) + v8)) ∧ v7 + (M 7 ((20 * v6) + v8)) ≤ 2147483647)) ∧ jx_call jx_G2 jx_T (d + 3) 112 [.inr 1, .inl v3, .inl (v7 + (M 7 ((20 * v6) + v8))), .inl v5, .inl v8] M (fun r M11 => r = none ∧ (((-2147483648 : Int) ≤ v8 + 1 ∧ v8 + 1 ≤ 2147483647)) ∧ X 51 [.inr 1, .inl v1, .inl v2, .inl v3, .inl v4, .inl v5, .inl v6, .inl v7, .inl (v8 + 1)] [] M11)))) :
    X 51 [.inr 1, .inl v1, .inl v2, .inl v3, .inl v4, .inl v5, .inl v6, .inl v7, .inl v8] [] M := by
  obtain ⟨g1, h18⟩ := h
  refine jk_load (pc := 51) hX 8 rfl rfl ?_
  refine jk_aload (pc := 52) hX 0 rfl rfl ?_
  refine jk_getR (pc := 53) hX 7 8 rfl rfl (r := 5) rfl ?_
  refine jk_load (pc := 54) hX 6 rfl rfl ?_
  refine jk_iald (pc := 55) hX 119 rfl rfl g1 ?_
  refine jk_cge (pc := 56) hX 74 rfl (fun q16 => ?_) (fun q17 => ?_)
  · have h2 := h18.1 q16
    obtain ⟨g4, h5⟩ := h2
    refine jk_iinc (pc := 74) hX 4 1 rfl rfl g4 (ls' := [.inr 1, .inl v1, .inl v2, .inl v3, .inl (v4 + 1), .inl v5, .inl v6, .inl v7, .inl v8]) rfl ?_
    refine jk_goto (pc := 75) hX 18 rfl ?_
    refine jk_forget (pc := 18) hX 5 (ls' := [.inr 1, .inl v1, .inl v2, .inl v3, .inl (v4 + 1), .inr 0, .inl v6, .inl v7, .inl v8]) rfl ?_
    refine jk_forget (pc := 18) hX 6 (ls' := [.inr 1, .inl v1, .inl v2, .inl v3, .inl (v4 + 1), .inr 0, .inr 0, .inl v7, .inl v8]) rfl ?_
    refine jk_forget (pc := 18) hX 7 (ls' := [.inr 1, .inl v1, .inl v2, .inl v3, .inl (v4 + 1), .inr 0, .inr 0, .inr 0, .inl v8]) rfl ?_
    refine jk_forget (pc := 18) hX 8 (ls' := [.inr 1, .inl v1, .inl v2, .inl v3, .inl (v4 + 1), .inr 0, .inr 0, .inr 0, .inr 0]) rfl ?_
    exact h5
  · have h3 := h18.2 q17
    obtain ⟨⟨g6, g7, g8, g9⟩, h15⟩ := h3
    refine jk_aload (pc := 57) hX 0 rfl rfl ?_
    refine jk_load (pc := 58) hX 3 rfl rfl ?_
    refine jk_load (pc := 59) hX 7 rfl rfl ?_
    refine jk_aload (pc := 60) hX 0 rfl rfl ?_
    refine jk_getR (pc := 61) hX 7 9 rfl rfl (r := 6) rfl ?_
    refine jk_const (pc := 62) hX 20 rfl (by decide) ?_
    refine jk_load (pc := 63) hX 6 rfl rfl ?_
    refine jk_mul (pc := 64) hX rfl g6 ?_
    refine jk_load (pc := 65) hX 8 rfl rfl ?_
    refine jk_add (pc := 66) hX rfl g7 ?_
    refine jk_iald (pc := 67) hX 2380 rfl rfl g8 ?_
    refine jk_add (pc := 68) hX rfl g9 ?_
    refine jk_load (pc := 69) hX 5 rfl rfl ?_
    refine jk_load (pc := 70) hX 8 rfl rfl ?_
    refine jk_cv (pc := 71) hX 112 4 7 rfl 1 [.inl v3, .inl (v7 + (M 7 ((20 * v6) + v8))), .inl v5, .inl v8] [] rfl rfl rfl (Nat.le_of_ble_eq_true rfl) (jx_mono (fun r M11 hr => ?_) h15)
    obtain ⟨rfl, h12⟩ := hr
    show X 72 [.inr 1, .inl v1, .inl v2, .inl v3, .inl v4, .inl v5, .inl v6, .inl v7, .inl v8] [] M11
    obtain ⟨g13, h14⟩ := h12
    refine jk_iinc (pc := 72) hX 8 1 rfl rfl g13 (ls' := [.inr 1, .inl v1, .inl v2, .inl v3, .inl v4, .inl v5, .inl v6, .inl v7, .inl (v8 + 1)]) rfl ?_
    refine jk_goto (pc := 73) hX 51 rfl ?_
    exact h14
set_option maxHeartbeats 4000000 in
theorem bk_F_layPlace_78 {d : Nat} {K : jxK} {X : jxX} (hX : jx_clo jx_G2 (d + 3) (jx_call jx_G2 jx_T (d + 3)) kc_F_layPlace K X) (v1 : Int) (v2 : Int) (v3 : Int) (v4 : Int) (M : jxM)
    (h : (((M 1 6) ≤ v4 → K none M) ∧ (v4 < (M 1 6) → ((0 ≤ v4 ∧ v4 < 21) ∧ (((M 5 v4) = -5 ∨ (0 : Int) ≤ (M 5 v4) ∧ (M 5 v4) < 20 ∧ (0 : Int) ≤ (M 2 (1 + 11 * (M 5 v4))) ∧ (M 2 (1 + 11 * (M 5 v4))) ≤ 6) ∧ (0 : Int) ≤ v1 ∧ v1 ≤ 16) ∧ ((-2147483648 : Int) ≤ 7 * (f_end (M 2) (M 5 v4) v1) ∧ 7 * (f_end (M 2) (M 5 v4) v1) ≤ 2147483647) ∧ ((M 5 v4) = -5 ∨ (0 : Int) ≤ (M 5 v4) ∧ (M 5 v4) < 20) ∧ ((-2147483648 : Int) ≤ (7 * (f_end (M 2) (M 5 v4) v1)) + (f_cls (M 2) (M 5 v4)) ∧ (7 * (f_end (M 2) (M 5 v4) v1)) + (f_cls (M 2) (M 5 v4)) ≤ 2147483647) ∧ ((M 5 v4) = -5 ∨ (0 : Int) ≤ (M 5 v4) ∧ (M 5 v4) < 20) ∧ ((0 : Int) ≤ v2 ∧ v2 ≤ 6 ∧ (0 : Int) ≤ (f_cls (M 2) (M 5 v4)) ∧ (f_cls (M 2) (M 5 v4)) ≤ 6) ∧ ((M 5 v4) = -5 ∨ ((0 : Int) ≤ (M 5 v4) ∧ (M 5 v4) < 20) ∧ ((0 : Int) ≤ (M 2 (1 + 11 * (M 5 v4) + 9)) ∧ (M 2 (1 + 11 * (M 5 v4) + 9)) ≤ 99) ∧ ((0 : Int) ≤ (M 2 (1 + 11 * (M 5 v4) + 10)) ∧ (M 2 (1 + 11 * (M 5 v4) + 10)) ≤ 9)) ∧ ((-2147483648 : Int) ≤ ((M 2 (221 + 7 * v2 + (f_cls (M 2) (M 5 v4))))) + (f_cost (M 2) (M 5 v4)) ∧ ((M 2 (221 + 7 * v2 + (f_cls (M 2) (M 5 v4))))) + (f_cost (M 2) (M 5 v4)) ≤ 2147483647) ∧ (0 ≤ ((7 * (f_end (M 2) (M 5 v4) v1)) + (f_cls (M 2) (M 5 v4))) ∧ ((7 * (f_end (M 2) (M 5 v4) v1)) + (f_cls (M 2) (M 5 v4))) < 119)) ∧ (((M 6 ((7 * (f_end (M 2) (M 5 v4) v1)) + (f_cls (M 2) (M 5 v4)))) ≤ 0 → ((0 ≤ v3 ∧ v3 < 119) ∧ (0 ≤ v3 ∧ v3 < 119) ∧ ((-2147483648 : Int) ≤ v4 + 1 ∧ v4 + 1 ≤ 2147483647)) ∧ X 78 [.inr 1, .inl v1, .inl v2, .inl v3, .inl (v4 + 1), .inr 0, .inr 0, .inr 0, .inr 0] [] (jx_up M 10 v3 (M 10 v3))) ∧ (0 < (M 6 ((7 * (f_end (M 2) (M 5 v4) v1)) + (f_cls (M 2) (M 5 v4)))) → (((-2147483648 : Int) ≤ 20 * ((7 * (f_end (M 2) (M 5 v4) v1)) + (f_cls (M 2) (M 5 v4))) ∧ 20 * ((7 * (f_end (M 2) (M 5 v4) v1)) + (f_cls (M 2) (M 5 v4))) ≤ 2147483647) ∧ (0 ≤ (20 * ((7 * (f_end (M 2) (M 5 v4) v1)) + (f_cls (M 2) (M 5 v4)))) ∧ (20 * ((7 * (f_end (M 2) (M 5 v4) v1)) + (f_cls (M 2) (M 5 v4)))) < 2380) ∧ ((-2147483648 : Int) ≤ (((M 2 (221 + 7 * v2 + (f_cls (M 2) (M 5 v4))))) + (f_cost (M 2) (M 5 v4))) + (M 7 (20 * ((7 * (f_end (M 2) (M 5 v4) v1)) + (f_cls (M 2) (M 5 v4))))) ∧ (((M 2 (221 + 7 * v2 + (f_cls (M 2) (M 5 v4))))) + (f_cost (M 2) (M 5 v4))) + (M 7 (20 * ((7 * (f_end (M 2) (M 5 v4) v1)) + (f_cls (M 2) (M 5 v4))))) ≤ 2147483647) ∧ ((-2147483648 : Int) ≤ 20 * v3 ∧ 20 * v3 ≤ 2147483647) ∧ (0 ≤ (20 * v3) ∧ (20 * v3) < 2380)) ∧ ((((((M 2 (221 + 7 * v2 + (f_cls (M 2) (M 5 v4))))) + (f_cost (M 2) (M 5 v4))) + (M 7 (20 * ((7 * (f_end (M 2) (M 5 v4) v1)) + (f_cls (M 2) (M 5 v4)))))) ≠ (M 7 (20 * v3)) → ((0 ≤ v3 ∧ v3 < 119) ∧ (0 ≤ v3 ∧ v3 < 119) ∧ ((-2147483648 : Int) ≤ v4 + 1 ∧ v4 + 1 ≤ 2147483647)) ∧ X 78 [.inr 1, .inl v1, .inl v2, .inl v3, .inl (v4 + 1), .inr 0, .inr 0, .inr 0, .inr 0] [] (jx_up M 10 v3 (M 10 v3))) ∧ (((((M 2 (221 + 7 * v2 + (f_cls (M 2) (M 5 v4))))) + (f_cost (M 2) (M 5 v4))) + (M 7 (20 * ((7 * (f_end (M 2) (M 5 v4) v1)) + (f_cls (M 2) (M 5 v4)))))) = (M 7 (20 * v3)) → ((0 ≤ v3 ∧ v3 < 119) ∧ (0 ≤ ((7 * (f_end (M 2) (M 5 v4) v1)) + (f_cls (M 2) (M 5 v4))) ∧ ((7 * (f_end (M 2) (M 5 v4) v1)) + (f_cls (M 2) (M 5 v4))) < 119) ∧ ((0 : Int) ≤ (M 10 v3) ∧ (M 10 v3) ≤ 1000000000 ∧ (0 : Int) ≤ (M 10 ((7 * (f_end (M 2) (M 5 v4) v1)) + (f_cls (M 2) (M 5 v4)))) ∧ (M 10 ((7 * (f_end (M 2) (M 5 v4) v1)) + (f_cls (M 2) (M 5 v4)))) ≤ 1000000000) ∧ (0 ≤ v3 ∧ v3 < 119) ∧ ((-2147483648 : Int) ≤ v4 + 1 ∧ v4 + 1 ≤ 2147483647)) ∧ X 78 [.inr 1, .inl v1, .inl v2, .inl v3, .inl (v4 + 1), .inr 0, .inr 0, .inr 0, .inr 0] [] (jx_up M 10 v3 (min ((M 10 v3) + (M 10 ((7 * (f_end (M 2) (M 5 v4) v1)) + (f_cls (M 2) (M 5 v4))))) 1000000000))))))))) :
    X 78 [.inr 1, .inl v1, .inl v2, .inl v3, .inl v4, .inr 0, .inr 0, .inr 0, .inr 0] [] M := by
  refine jk_load (pc := 78) hX 4 rfl rfl ?_
  refine jk_aload (pc := 79) hX 0 rfl rfl ?_
  refine jk_getI (pc := 80) hX 7 6 rfl rfl rfl ?_
  refine jk_cge (pc := 81) hX 155 rfl (fun q42 => ?_) (fun q43 => ?_)
  · have h1 := h.1 q42
    exact jk_vret (pc := 155) hX rfl h1
  · have h2 := h.2 q43
    obtain ⟨⟨g3, g4, g5, g6, g7, g8, g9, g10, g11, g12⟩, h41⟩ := h2
    refine jk_aload (pc := 82) hX 0 rfl rfl ?_
    refine jk_getR (pc := 83) hX 7 7 rfl rfl (r := 4) rfl ?_
    refine jk_load (pc := 84) hX 4 rfl rfl ?_
    refine jk_iald (pc := 85) hX 21 rfl rfl g3 ?_
    refine jk_store (pc := 86) hX 5 rfl (Nat.le_of_ble_eq_true rfl) (ls' := [.inr 1, .inl v1, .inl v2, .inl v3, .inl v4, .inl (M 5 v4), .inr 0, .inr 0, .inr 0]) rfl ?_
    refine jk_const (pc := 87) hX 7 rfl (by decide) ?_
    refine jk_aload (pc := 88) hX 0 rfl rfl ?_
    refine jk_load (pc := 89) hX 5 rfl rfl ?_
    refine jk_load (pc := 90) hX 1 rfl rfl ?_
    refine jk_cv (pc := 91) hX 107 2 7 rfl 1 [.inl (M 5 v4), .inl v1] [.inl 7] rfl rfl rfl (Nat.le_of_ble_eq_true rfl) (sp_F_endOf (d + 1) (M 5 v4) v1 M g4 ?_)
    show X 92 [.inr 1, .inl v1, .inl v2, .inl v3, .inl v4, .inl (M 5 v4), .inr 0, .inr 0, .inr 0] [.inl (f_end (M 2) (M 5 v4) v1), .inl 7] M
    refine jk_mul (pc := 92) hX rfl g5 ?_
    refine jk_aload (pc := 93) hX 0 rfl rfl ?_
    refine jk_load (pc := 94) hX 5 rfl rfl ?_
    refine jk_cv (pc := 95) hX 108 1 7 rfl 1 [.inl (M 5 v4)] [.inl (7 * (f_end (M 2) (M 5 v4) v1))] rfl rfl rfl (Nat.le_of_ble_eq_true rfl) (sp_F_classOf (d + 1) (M 5 v4) M g6 ?_)
    show X 96 [.inr 1, .inl v1, .inl v2, .inl v3, .inl v4, .inl (M 5 v4), .inr 0, .inr 0, .inr 0] [.inl (f_cls (M 2) (M 5 v4)), .inl (7 * (f_end (M 2) (M 5 v4) v1))] M
    refine jk_add (pc := 96) hX rfl g7 ?_
    refine jk_store (pc := 97) hX 6 rfl (Nat.le_of_ble_eq_true rfl) (ls' := [.inr 1, .inl v1, .inl v2, .inl v3, .inl v4, .inl (M 5 v4), .inl ((7 * (f_end (M 2) (M 5 v4) v1)) + (f_cls (M 2) (M 5 v4))), .inr 0, .inr 0]) rfl ?_
    refine jk_aload (pc := 98) hX 0 rfl rfl ?_
    refine jk_load (pc := 99) hX 2 rfl rfl ?_
    refine jk_aload (pc := 100) hX 0 rfl rfl ?_
    refine jk_load (pc := 101) hX 5 rfl rfl ?_
    refine jk_cv (pc := 102) hX 108 1 7 rfl 1 [.inl (M 5 v4)] [.inl v2, .inr 1] rfl rfl rfl (Nat.le_of_ble_eq_true rfl) (sp_F_classOf (d + 1) (M 5 v4) M g8 ?_)
    show X 103 [.inr 1, .inl v1, .inl v2, .inl v3, .inl v4, .inl (M 5 v4), .inl ((7 * (f_end (M 2) (M 5 v4) v1)) + (f_cls (M 2) (M 5 v4))), .inr 0, .inr 0] [.inl (f_cls (M 2) (M 5 v4)), .inl v2, .inr 1] M
    refine jk_cv (pc := 103) hX 110 2 7 rfl 1 [.inl v2, .inl (f_cls (M 2) (M 5 v4))] [] rfl rfl rfl (Nat.le_of_ble_eq_true rfl) (sp_F_between (d + 2) v2 (f_cls (M 2) (M 5 v4)) M g9 ?_)
    show X 104 [.inr 1, .inl v1, .inl v2, .inl v3, .inl v4, .inl (M 5 v4), .inl ((7 * (f_end (M 2) (M 5 v4) v1)) + (f_cls (M 2) (M 5 v4))), .inr 0, .inr 0] [.inl ((M 2 (221 + 7 * v2 + (f_cls (M 2) (M 5 v4)))))] M
    refine jk_aload (pc := 104) hX 0 rfl rfl ?_
    refine jk_load (pc := 105) hX 5 rfl rfl ?_
    refine jk_cv (pc := 106) hX 109 1 7 rfl 1 [.inl (M 5 v4)] [.inl ((M 2 (221 + 7 * v2 + (f_cls (M 2) (M 5 v4)))))] rfl rfl rfl (Nat.le_of_ble_eq_true rfl) (sp_F_segmentCost d (M 5 v4) M g10 ?_)
    show X 107 [.inr 1, .inl v1, .inl v2, .inl v3, .inl v4, .inl (M 5 v4), .inl ((7 * (f_end (M 2) (M 5 v4) v1)) + (f_cls (M 2) (M 5 v4))), .inr 0, .inr 0] [.inl (f_cost (M 2) (M 5 v4)), .inl ((M 2 (221 + 7 * v2 + (f_cls (M 2) (M 5 v4)))))] M
    refine jk_add (pc := 107) hX rfl g11 ?_
    refine jk_store (pc := 108) hX 7 rfl (Nat.le_of_ble_eq_true rfl) (ls' := [.inr 1, .inl v1, .inl v2, .inl v3, .inl v4, .inl (M 5 v4), .inl ((7 * (f_end (M 2) (M 5 v4) v1)) + (f_cls (M 2) (M 5 v4))), .inl (((M 2 (221 + 7 * v2 + (f_cls (M 2) (M 5 v4))))) + (f_cost (M 2) (M 5 v4))), .inr 0]) rfl ?_
    refine jk_aload (pc := 109) hX 0 rfl rfl ?_
    refine jk_getR (pc := 110) hX 7 8 rfl rfl (r := 5) rfl ?_
    refine jk_load (pc := 111) hX 6 rfl rfl ?_
    refine jk_iald (pc := 112) hX 119 rfl rfl g12 ?_
    refine jk_zle (pc := 113) hX 131 rfl (fun q39 => ?_) (fun q40 => ?_)
    · have h13 := h41.1 q39
      obtain ⟨⟨g15, g16, g17⟩, h18⟩ := h13
      refine jk_const (pc := 131) hX 0 rfl (by decide) ?_
      refine jk_store (pc := 132) hX 8 rfl (Nat.le_of_ble_eq_true rfl) (ls' := [.inr 1, .inl v1, .inl v2, .inl v3, .inl v4, .inl (M 5 v4), .inl ((7 * (f_end (M 2) (M 5 v4) v1)) + (f_cls (M 2) (M 5 v4))), .inl (((M 2 (221 + 7 * v2 + (f_cls (M 2) (M 5 v4))))) + (f_cost (M 2) (M 5 v4))), .inl 0]) rfl ?_
      refine jk_aload (pc := 133) hX 0 rfl rfl ?_
      refine jk_getR (pc := 134) hX 7 12 rfl rfl (r := 9) rfl ?_
      refine jk_load (pc := 135) hX 3 rfl rfl ?_
      refine jk_load (pc := 136) hX 8 rfl rfl ?_
      refine jk_zeq (pc := 137) hX 148 rfl (fun _ => ?_) (fun q => absurd q (by decide))
      refine jk_aload (pc := 148) hX 0 rfl rfl ?_
      refine jk_getR (pc := 149) hX 7 12 rfl rfl (r := 9) rfl ?_
      refine jk_load (pc := 150) hX 3 rfl rfl ?_
      refine jk_iald (pc := 151) hX 119 rfl rfl g15 ?_
      refine jk_iast (pc := 152) hX 119 rfl rfl g16 ?_
      refine jk_iinc (pc := 153) hX 4 1 rfl rfl g17 (ls' := [.inr 1, .inl v1, .inl v2, .inl v3, .inl (v4 + 1), .inl (M 5 v4), .inl ((7 * (f_end (M 2) (M 5 v4) v1)) + (f_cls (M 2) (M 5 v4))), .inl (((M 2 (221 + 7 * v2 + (f_cls (M 2) (M 5 v4))))) + (f_cost (M 2) (M 5 v4))), .inl 0]) rfl ?_
      refine jk_goto (pc := 154) hX 78 rfl ?_
      refine jk_forget (pc := 78) hX 5 (ls' := [.inr 1, .inl v1, .inl v2, .inl v3, .inl (v4 + 1), .inr 0, .inl ((7 * (f_end (M 2) (M 5 v4) v1)) + (f_cls (M 2) (M 5 v4))), .inl (((M 2 (221 + 7 * v2 + (f_cls (M 2) (M 5 v4))))) + (f_cost (M 2) (M 5 v4))), .inl 0]) rfl ?_
      refine jk_forget (pc := 78) hX 6 (ls' := [.inr 1, .inl v1, .inl v2, .inl v3, .inl (v4 + 1), .inr 0, .inr 0, .inl (((M 2 (221 + 7 * v2 + (f_cls (M 2) (M 5 v4))))) + (f_cost (M 2) (M 5 v4))), .inl 0]) rfl ?_
      refine jk_forget (pc := 78) hX 7 (ls' := [.inr 1, .inl v1, .inl v2, .inl v3, .inl (v4 + 1), .inr 0, .inr 0, .inr 0, .inl 0]) rfl ?_
      refine jk_forget (pc := 78) hX 8 (ls' := [.inr 1, .inl v1, .inl v2, .inl v3, .inl (v4 + 1), .inr 0, .inr 0, .inr 0, .inr 0]) rfl ?_
      exact h18
    · have h14 := h41.2 q40
      obtain ⟨⟨g19, g20, g21, g22, g23⟩, h38⟩ := h14
      refine jk_load (pc := 114) hX 7 rfl rfl ?_
      refine jk_aload (pc := 115) hX 0 rfl rfl ?_
      refine jk_getR (pc := 116) hX 7 9 rfl rfl (r := 6) rfl ?_
      refine jk_const (pc := 117) hX 20 rfl (by decide) ?_
      refine jk_load (pc := 118) hX 6 rfl rfl ?_
      refine jk_mul (pc := 119) hX rfl g19 ?_
      refine jk_iald (pc := 120) hX 2380 rfl rfl g20 ?_
      refine jk_add (pc := 121) hX rfl g21 ?_
      refine jk_aload (pc := 122) hX 0 rfl rfl ?_
      refine jk_getR (pc := 123) hX 7 9 rfl rfl (r := 6) rfl ?_
      refine jk_const (pc := 124) hX 20 rfl (by decide) ?_
      refine jk_load (pc := 125) hX 3 rfl rfl ?_
      refine jk_mul (pc := 126) hX rfl g22 ?_
      refine jk_iald (pc := 127) hX 2380 rfl rfl g23 ?_
      refine jk_cne (pc := 128) hX 131 rfl (fun q36 => ?_) (fun q37 => ?_)
      · have h24 := h38.1 q36
        obtain ⟨⟨g26, g27, g28⟩, h29⟩ := h24
        refine jk_const (pc := 131) hX 0 rfl (by decide) ?_
        refine jk_store (pc := 132) hX 8 rfl (Nat.le_of_ble_eq_true rfl) (ls' := [.inr 1, .inl v1, .inl v2, .inl v3, .inl v4, .inl (M 5 v4), .inl ((7 * (f_end (M 2) (M 5 v4) v1)) + (f_cls (M 2) (M 5 v4))), .inl (((M 2 (221 + 7 * v2 + (f_cls (M 2) (M 5 v4))))) + (f_cost (M 2) (M 5 v4))), .inl 0]) rfl ?_
        refine jk_aload (pc := 133) hX 0 rfl rfl ?_
        refine jk_getR (pc := 134) hX 7 12 rfl rfl (r := 9) rfl ?_
        refine jk_load (pc := 135) hX 3 rfl rfl ?_
        refine jk_load (pc := 136) hX 8 rfl rfl ?_
        refine jk_zeq (pc := 137) hX 148 rfl (fun _ => ?_) (fun q => absurd q (by decide))
        refine jk_aload (pc := 148) hX 0 rfl rfl ?_
        refine jk_getR (pc := 149) hX 7 12 rfl rfl (r := 9) rfl ?_
        refine jk_load (pc := 150) hX 3 rfl rfl ?_
        refine jk_iald (pc := 151) hX 119 rfl rfl g26 ?_
        refine jk_iast (pc := 152) hX 119 rfl rfl g27 ?_
        refine jk_iinc (pc := 153) hX 4 1 rfl rfl g28 (ls' := [.inr 1, .inl v1, .inl v2, .inl v3, .inl (v4 + 1), .inl (M 5 v4), .inl ((7 * (f_end (M 2) (M 5 v4) v1)) + (f_cls (M 2) (M 5 v4))), .inl (((M 2 (221 + 7 * v2 + (f_cls (M 2) (M 5 v4))))) + (f_cost (M 2) (M 5 v4))), .inl 0]) rfl ?_
        refine jk_goto (pc := 154) hX 78 rfl ?_
        refine jk_forget (pc := 78) hX 5 (ls' := [.inr 1, .inl v1, .inl v2, .inl v3, .inl (v4 + 1), .inr 0, .inl ((7 * (f_end (M 2) (M 5 v4) v1)) + (f_cls (M 2) (M 5 v4))), .inl (((M 2 (221 + 7 * v2 + (f_cls (M 2) (M 5 v4))))) + (f_cost (M 2) (M 5 v4))), .inl 0]) rfl ?_
        refine jk_forget (pc := 78) hX 6 (ls' := [.inr 1, .inl v1, .inl v2, .inl v3, .inl (v4 + 1), .inr 0, .inr 0, .inl (((M 2 (221 + 7 * v2 + (f_cls (M 2) (M 5 v4))))) + (f_cost (M 2) (M 5 v4))), .inl 0]) rfl ?_
        refine jk_forget (pc := 78) hX 7 (ls' := [.inr 1, .inl v1, .inl v2, .inl v3, .inl (v4 + 1), .inr 0, .inr 0, .inr 0, .inl 0]) rfl ?_
        refine jk_forget (pc := 78) hX 8 (ls' := [.inr 1, .inl v1, .inl v2, .inl v3, .inl (v4 + 1), .inr 0, .inr 0, .inr 0, .inr 0]) rfl ?_
        exact h29
      · have h25 := h38.2 q37
        obtain ⟨⟨g30, g31, g32, g33, g34⟩, h35⟩ := h25
        refine jk_const (pc := 129) hX 1 rfl (by decide) ?_
        refine jk_goto (pc := 130) hX 132 rfl ?_
        refine jk_store (pc := 132) hX 8 rfl (Nat.le_of_ble_eq_true rfl) (ls' := [.inr 1, .inl v1, .inl v2, .inl v3, .inl v4, .inl (M 5 v4), .inl ((7 * (f_end (M 2) (M 5 v4) v1)) + (f_cls (M 2) (M 5 v4))), .inl (((M 2 (221 + 7 * v2 + (f_cls (M 2) (M 5 v4))))) + (f_cost (M 2) (M 5 v4))), .inl 1]) rfl ?_
        refine jk_aload (pc := 133) hX 0 rfl rfl ?_
        refine jk_getR (pc := 134) hX 7 12 rfl rfl (r := 9) rfl ?_
        refine jk_load (pc := 135) hX 3 rfl rfl ?_
        refine jk_load (pc := 136) hX 8 rfl rfl ?_
        refine jk_zeq (pc := 137) hX 148 rfl (fun q => absurd q (by decide)) (fun _ => ?_)
        refine jk_aload (pc := 138) hX 0 rfl rfl ?_
        refine jk_getR (pc := 139) hX 7 12 rfl rfl (r := 9) rfl ?_
        refine jk_load (pc := 140) hX 3 rfl rfl ?_
        refine jk_iald (pc := 141) hX 119 rfl rfl g30 ?_
        refine jk_aload (pc := 142) hX 0 rfl rfl ?_
        refine jk_getR (pc := 143) hX 7 12 rfl rfl (r := 9) rfl ?_
        refine jk_load (pc := 144) hX 6 rfl rfl ?_
        refine jk_iald (pc := 145) hX 119 rfl rfl g31 ?_
        refine jk_cs (pc := 146) hX 111 2 rfl [.inl (M 10 v3), .inl (M 10 ((7 * (f_end (M 2) (M 5 v4) v1)) + (f_cls (M 2) (M 5 v4))))] [.inl v3, .inr 10] rfl rfl (Nat.le_of_ble_eq_true rfl) (sp_F_capped (d + 2) (M 10 v3) (M 10 ((7 * (f_end (M 2) (M 5 v4) v1)) + (f_cls (M 2) (M 5 v4)))) M g32 ?_)
        show X 147 [.inr 1, .inl v1, .inl v2, .inl v3, .inl v4, .inl (M 5 v4), .inl ((7 * (f_end (M 2) (M 5 v4) v1)) + (f_cls (M 2) (M 5 v4))), .inl (((M 2 (221 + 7 * v2 + (f_cls (M 2) (M 5 v4))))) + (f_cost (M 2) (M 5 v4))), .inl 1] [.inl (min ((M 10 v3) + (M 10 ((7 * (f_end (M 2) (M 5 v4) v1)) + (f_cls (M 2) (M 5 v4))))) 1000000000), .inl v3, .inr 10] M
        refine jk_goto (pc := 147) hX 152 rfl ?_
        refine jk_iast (pc := 152) hX 119 rfl rfl g33 ?_
        refine jk_iinc (pc := 153) hX 4 1 rfl rfl g34 (ls' := [.inr 1, .inl v1, .inl v2, .inl v3, .inl (v4 + 1), .inl (M 5 v4), .inl ((7 * (f_end (M 2) (M 5 v4) v1)) + (f_cls (M 2) (M 5 v4))), .inl (((M 2 (221 + 7 * v2 + (f_cls (M 2) (M 5 v4))))) + (f_cost (M 2) (M 5 v4))), .inl 1]) rfl ?_
        refine jk_goto (pc := 154) hX 78 rfl ?_
        refine jk_forget (pc := 78) hX 5 (ls' := [.inr 1, .inl v1, .inl v2, .inl v3, .inl (v4 + 1), .inr 0, .inl ((7 * (f_end (M 2) (M 5 v4) v1)) + (f_cls (M 2) (M 5 v4))), .inl (((M 2 (221 + 7 * v2 + (f_cls (M 2) (M 5 v4))))) + (f_cost (M 2) (M 5 v4))), .inl 1]) rfl ?_
        refine jk_forget (pc := 78) hX 6 (ls' := [.inr 1, .inl v1, .inl v2, .inl v3, .inl (v4 + 1), .inr 0, .inr 0, .inl (((M 2 (221 + 7 * v2 + (f_cls (M 2) (M 5 v4))))) + (f_cost (M 2) (M 5 v4))), .inl 1]) rfl ?_
        refine jk_forget (pc := 78) hX 7 (ls' := [.inr 1, .inl v1, .inl v2, .inl v3, .inl (v4 + 1), .inr 0, .inr 0, .inr 0, .inl 1]) rfl ?_
        refine jk_forget (pc := 78) hX 8 (ls' := [.inr 1, .inl v1, .inl v2, .inl v3, .inl (v4 + 1), .inr 0, .inr 0, .inr 0, .inr 0]) rfl ?_
        exact h35
set_option maxHeartbeats 4000000 in
theorem bk_F_lay_0 {d : Nat} {K : jxK} {X : jxX} (hX : jx_clo jx_G2 (d + 4) (jx_call jx_G2 jx_T (d + 4)) kc_F_lay K X) (M : jxM)
    (h : (((M 1 5) = 0 → X 11 [.inr 1, .inl (M 2 271), .inl 0, .inr 0] [] M) ∧ ((M 1 5) ≠ 0 → K none M))) :
    X 0 [.inr 1, .inr 0, .inr 0, .inr 0] [] M := by
  refine jk_aload (pc := 0) hX 0 rfl rfl ?_
  refine jk_getI (pc := 1) hX 7 5 rfl rfl rfl ?_
  refine jk_zeq (pc := 2) hX 4 rfl (fun q3 => ?_) (fun q4 => ?_)
  · have h1 := h.1 q3
    refine jk_aload (pc := 4) hX 0 rfl rfl ?_
    refine jk_getR (pc := 5) hX 7 0 rfl rfl (r := 1) rfl ?_
    refine jk_const (pc := 6) hX 271 rfl (by decide) ?_
    refine jk_iald (pc := 7) hX 305 rfl rfl (by decide) ?_
    refine jk_store (pc := 8) hX 1 rfl (Nat.le_of_ble_eq_true rfl) (ls' := [.inr 1, .inl (M 2 271), .inr 0, .inr 0]) rfl ?_
    refine jk_const (pc := 9) hX 0 rfl (by decide) ?_
    refine jk_store (pc := 10) hX 2 rfl (Nat.le_of_ble_eq_true rfl) (ls' := [.inr 1, .inl (M 2 271), .inl 0, .inr 0]) rfl ?_
    exact h1
  · have h2 := h.2 q4
    exact jk_vret (pc := 3) hX rfl h2
set_option maxHeartbeats 4000000 in
theorem bk_F_lay_11 {d : Nat} {K : jxK} {X : jxX} (hX : jx_clo jx_G2 (d + 4) (jx_call jx_G2 jx_T (d + 4)) kc_F_lay K X) (v1 : Int) (v2 : Int) (M : jxM)
    (h : ((7 ≤ v2 → ((0 ≤ v1 ∧ v1 < 17) ∧ ((-2147483648 : Int) ≤ v1 - 1 ∧ v1 - 1 ≤ 2147483647)) ∧ X 58 [.inr 1, .inl v1, .inl (v1 - 1), .inr 0] [] (jx_up M 11 v1 1)) ∧ (v2 < 7 → (((-2147483648 : Int) ≤ 7 * v1 ∧ 7 * v1 ≤ 2147483647) ∧ ((-2147483648 : Int) ≤ (7 * v1) + v2 ∧ (7 * v1) + v2 ≤ 2147483647) ∧ (0 ≤ ((7 * v1) + v2) ∧ ((7 * v1) + v2) < 119) ∧ ((-2147483648 : Int) ≤ 20 * ((7 * v1) + v2) ∧ 20 * ((7 * v1) + v2) ≤ 2147483647) ∧ ((0 : Int) ≤ v2 ∧ v2 ≤ 6 ∧ (0 : Int) ≤ (6 : Int) ∧ (6 : Int) ≤ 6) ∧ (0 ≤ (20 * ((7 * v1) + v2)) ∧ (20 * ((7 * v1) + v2)) < 2380) ∧ ((-2147483648 : Int) ≤ 20 * ((7 * v1) + v2) ∧ 20 * ((7 * v1) + v2) ≤ 2147483647) ∧ (0 ≤ (20 * ((7 * v1) + v2)) ∧ (20 * ((7 * v1) + v2)) < 2380) ∧ (0 ≤ ((7 * v1) + v2) ∧ ((7 * v1) + v2) < 119) ∧ ((-2147483648 : Int) ≤ v2 + 1 ∧ v2 + 1 ≤ 2147483647)) ∧ X 11 [.inr 1, .inl v1, .inl (v2 + 1), .inr 0] [] (jx_up (jx_up (jx_up (jx_up M 6 ((7 * v1) + v2) 1) 7 (20 * ((7 * v1) + v2)) ((M 2 (221 + 7 * v2 + (6 : Int))))) 8 (20 * ((7 * v1) + v2)) (-9)) 10 ((7 * v1) + v2) 1)))) :
    X 11 [.inr 1, .inl v1, .inl v2, .inr 0] [] M := by
  refine jk_load (pc := 11) hX 2 rfl rfl ?_
  refine jk_const (pc := 12) hX 7 rfl (by decide) ?_
  refine jk_cge (pc := 13) hX 49 rfl (fun q17 => ?_) (fun q18 => ?_)
  · have h1 := h.1 q17
    obtain ⟨⟨g3, g4⟩, h5⟩ := h1
    refine jk_aload (pc := 49) hX 0 rfl rfl ?_
    refine jk_getR (pc := 50) hX 7 13 rfl rfl (r := 10) rfl ?_
    refine jk_load (pc := 51) hX 1 rfl rfl ?_
    refine jk_const (pc := 52) hX 1 rfl (by decide) ?_
    refine jk_iast (pc := 53) hX 17 rfl rfl g3 ?_
    refine jk_load (pc := 54) hX 1 rfl rfl ?_
    refine jk_const (pc := 55) hX 1 rfl (by decide) ?_
    refine jk_sub (pc := 56) hX rfl g4 ?_
    refine jk_store (pc := 57) hX 2 rfl (Nat.le_of_ble_eq_true rfl) (ls' := [.inr 1, .inl v1, .inl (v1 - 1), .inr 0]) rfl ?_
    exact h5
  · have h2 := h.2 q18
    obtain ⟨⟨g6, g7, g8, g9, g10, g11, g12, g13, g14, g15⟩, h16⟩ := h2
    refine jk_const (pc := 14) hX 7 rfl (by decide) ?_
    refine jk_load (pc := 15) hX 1 rfl rfl ?_
    refine jk_mul (pc := 16) hX rfl g6 ?_
    refine jk_load (pc := 17) hX 2 rfl rfl ?_
    refine jk_add (pc := 18) hX rfl g7 ?_
    refine jk_store (pc := 19) hX 3 rfl (Nat.le_of_ble_eq_true rfl) (ls' := [.inr 1, .inl v1, .inl v2, .inl ((7 * v1) + v2)]) rfl ?_
    refine jk_aload (pc := 20) hX 0 rfl rfl ?_
    refine jk_getR (pc := 21) hX 7 8 rfl rfl (r := 5) rfl ?_
    refine jk_load (pc := 22) hX 3 rfl rfl ?_
    refine jk_const (pc := 23) hX 1 rfl (by decide) ?_
    refine jk_iast (pc := 24) hX 119 rfl rfl g8 ?_
    refine jk_aload (pc := 25) hX 0 rfl rfl ?_
    refine jk_getR (pc := 26) hX 7 9 rfl rfl (r := 6) rfl ?_
    refine jk_const (pc := 27) hX 20 rfl (by decide) ?_
    refine jk_load (pc := 28) hX 3 rfl rfl ?_
    refine jk_mul (pc := 29) hX rfl g9 ?_
    refine jk_aload (pc := 30) hX 0 rfl rfl ?_
    refine jk_load (pc := 31) hX 2 rfl rfl ?_
    refine jk_const (pc := 32) hX 6 rfl (by decide) ?_
    refine jk_cv (pc := 33) hX 110 2 7 rfl 1 [.inl v2, .inl 6] [.inl (20 * ((7 * v1) + v2)), .inr 7] rfl rfl rfl (Nat.le_of_ble_eq_true rfl) (sp_F_between (d + 3) v2 (6 : Int) (jx_up M 6 ((7 * v1) + v2) 1) g10 ?_)
    show X 34 [.inr 1, .inl v1, .inl v2, .inl ((7 * v1) + v2)] [.inl (((jx_up M 6 ((7 * v1) + v2) 1) 2 (221 + 7 * v2 + (6 : Int)))), .inl (20 * ((7 * v1) + v2)), .inr 7] (jx_up M 6 ((7 * v1) + v2) 1)
    refine jx_vX (show ((jx_up M 6 ((7 * v1) + v2) 1) 2 (221 + 7 * v2 + (6 : Int))) = (M 2 (221 + 7 * v2 + (6 : Int))) by repeat (first | rw [jx_upc (by decide)] | rw [jx_cpc (by decide)])) ?_
    show X 34 [.inr 1, .inl v1, .inl v2, .inl ((7 * v1) + v2)] [.inl ((M 2 (221 + 7 * v2 + (6 : Int)))), .inl (20 * ((7 * v1) + v2)), .inr 7] (jx_up M 6 ((7 * v1) + v2) 1)
    refine jk_iast (pc := 34) hX 2380 rfl rfl g11 ?_
    refine jk_aload (pc := 35) hX 0 rfl rfl ?_
    refine jk_getR (pc := 36) hX 7 10 rfl rfl (r := 7) rfl ?_
    refine jk_const (pc := 37) hX 20 rfl (by decide) ?_
    refine jk_load (pc := 38) hX 3 rfl rfl ?_
    refine jk_mul (pc := 39) hX rfl g12 ?_
    refine jk_const (pc := 40) hX (-9) rfl (by decide) ?_
    refine jk_iast (pc := 41) hX 2380 rfl rfl g13 ?_
    refine jk_aload (pc := 42) hX 0 rfl rfl ?_
    refine jk_getR (pc := 43) hX 7 12 rfl rfl (r := 9) rfl ?_
    refine jk_load (pc := 44) hX 3 rfl rfl ?_
    refine jk_const (pc := 45) hX 1 rfl (by decide) ?_
    refine jk_iast (pc := 46) hX 119 rfl rfl g14 ?_
    refine jk_iinc (pc := 47) hX 2 1 rfl rfl g15 (ls' := [.inr 1, .inl v1, .inl (v2 + 1), .inl ((7 * v1) + v2)]) rfl ?_
    refine jk_goto (pc := 48) hX 11 rfl ?_
    refine jk_forget (pc := 11) hX 3 (ls' := [.inr 1, .inl v1, .inl (v2 + 1), .inr 0]) rfl ?_
    exact h16
set_option maxHeartbeats 4000000 in
theorem bk_F_lay_58 {d : Nat} {K : jxK} {X : jxX} (hX : jx_clo jx_G2 (d + 4) (jx_call jx_G2 jx_T (d + 4)) kc_F_lay K X) (v1 : Int) (v2 : Int) (M : jxM)
    (h : ((v2 < 0 → K none (jx_up M 1 5 1)) ∧ (0 ≤ v2 → jx_call jx_G2 jx_T (d + 4) 106 [.inr 1, .inl v2] M (fun r M4 => r = none ∧ ((0 ≤ v2 ∧ v2 < 17)) ∧ X 70 [.inr 1, .inl v1, .inl v2, .inl 0] [] (jx_up M4 11 v2 0))))) :
    X 58 [.inr 1, .inl v1, .inl v2, .inr 0] [] M := by
  refine jk_load (pc := 58) hX 2 rfl rfl ?_
  refine jk_zlt (pc := 59) hX 108 rfl (fun q8 => ?_) (fun q9 => ?_)
  · have h1 := h.1 q8
    refine jk_aload (pc := 108) hX 0 rfl rfl ?_
    refine jk_const (pc := 109) hX 1 rfl (by decide) ?_
    refine jk_putZ (pc := 110) hX 7 5 rfl rfl rfl (Or.inr rfl) ?_
    exact jk_vret (pc := 111) hX rfl h1
  · have h2 := h.2 q9
    refine jk_aload (pc := 60) hX 0 rfl rfl ?_
    refine jk_load (pc := 61) hX 2 rfl rfl ?_
    refine jk_cv (pc := 62) hX 106 1 7 rfl 1 [.inl v2] [] rfl rfl rfl (Nat.le_of_ble_eq_true rfl) (jx_mono (fun r M4 hr => ?_) h2)
    obtain ⟨rfl, h5⟩ := hr
    show X 63 [.inr 1, .inl v1, .inl v2, .inr 0] [] M4
    obtain ⟨g6, h7⟩ := h5
    refine jk_aload (pc := 63) hX 0 rfl rfl ?_
    refine jk_getR (pc := 64) hX 7 13 rfl rfl (r := 10) rfl ?_
    refine jk_load (pc := 65) hX 2 rfl rfl ?_
    refine jk_const (pc := 66) hX 0 rfl (by decide) ?_
    refine jk_iast (pc := 67) hX 17 rfl rfl g6 ?_
    refine jk_const (pc := 68) hX 0 rfl (by decide) ?_
    refine jk_store (pc := 69) hX 3 rfl (Nat.le_of_ble_eq_true rfl) (ls' := [.inr 1, .inl v1, .inl v2, .inl 0]) rfl ?_
    exact h7
set_option maxHeartbeats 4000000 in
theorem bk_F_lay_70 {d : Nat} {K : jxK} {X : jxX} (hX : jx_clo jx_G2 (d + 4) (jx_call jx_G2 jx_T (d + 4)) kc_F_lay K X) (v1 : Int) (v2 : Int) (v3 : Int) (M : jxM)
    (h : (((M 1 6) ≤ v3 → X 97 [.inr 1, .inl v1, .inl v2, .inl 0] [] M) ∧ (v3 < (M 1 6) → ((0 ≤ v2 ∧ v2 < 17) ∧ (0 ≤ v3 ∧ v3 < 21) ∧ (((M 5 v3) = -5 ∨ (0 : Int) ≤ (M 5 v3) ∧ (M 5 v3) < 20 ∧ (0 : Int) ≤ (M 2 (1 + 11 * (M 5 v3))) ∧ (M 2 (1 + 11 * (M 5 v3))) ≤ 6) ∧ (0 : Int) ≤ v2 ∧ v2 ≤ 16) ∧ (0 ≤ (f_end (M 2) (M 5 v3) v2) ∧ (f_end (M 2) (M 5 v3) v2) < 17) ∧ ((0 : Int) ≤ (M 11 v2) ∧ (M 11 v2) ≤ 1000000000 ∧ (0 : Int) ≤ (M 11 (f_end (M 2) (M 5 v3) v2)) ∧ (M 11 (f_end (M 2) (M 5 v3) v2)) ≤ 1000000000) ∧ (0 ≤ v2 ∧ v2 < 17) ∧ ((-2147483648 : Int) ≤ v3 + 1 ∧ v3 + 1 ≤ 2147483647)) ∧ X 70 [.inr 1, .inl v1, .inl v2, .inl (v3 + 1)] [] (jx_up M 11 v2 (min ((M 11 v2) + (M 11 (f_end (M 2) (M 5 v3) v2))) 1000000000))))) :
    X 70 [.inr 1, .inl v1, .inl v2, .inl v3] [] M := by
  refine jk_load (pc := 70) hX 3 rfl rfl ?_
  refine jk_aload (pc := 71) hX 0 rfl rfl ?_
  refine jk_getI (pc := 72) hX 7 6 rfl rfl rfl ?_
  refine jk_cge (pc := 73) hX 95 rfl (fun q11 => ?_) (fun q12 => ?_)
  · have h1 := h.1 q11
    refine jk_const (pc := 95) hX 0 rfl (by decide) ?_
    refine jk_store (pc := 96) hX 3 rfl (Nat.le_of_ble_eq_true rfl) (ls' := [.inr 1, .inl v1, .inl v2, .inl 0]) rfl ?_
    exact h1
  · have h2 := h.2 q12
    obtain ⟨⟨g3, g4, g5, g6, g7, g8, g9⟩, h10⟩ := h2
    refine jk_aload (pc := 74) hX 0 rfl rfl ?_
    refine jk_getR (pc := 75) hX 7 13 rfl rfl (r := 10) rfl ?_
    refine jk_load (pc := 76) hX 2 rfl rfl ?_
    refine jk_aload (pc := 77) hX 0 rfl rfl ?_
    refine jk_getR (pc := 78) hX 7 13 rfl rfl (r := 10) rfl ?_
    refine jk_load (pc := 79) hX 2 rfl rfl ?_
    refine jk_iald (pc := 80) hX 17 rfl rfl g3 ?_
    refine jk_aload (pc := 81) hX 0 rfl rfl ?_
    refine jk_getR (pc := 82) hX 7 13 rfl rfl (r := 10) rfl ?_
    refine jk_aload (pc := 83) hX 0 rfl rfl ?_
    refine jk_aload (pc := 84) hX 0 rfl rfl ?_
    refine jk_getR (pc := 85) hX 7 7 rfl rfl (r := 4) rfl ?_
    refine jk_load (pc := 86) hX 3 rfl rfl ?_
    refine jk_iald (pc := 87) hX 21 rfl rfl g4 ?_
    refine jk_load (pc := 88) hX 2 rfl rfl ?_
    refine jk_cv (pc := 89) hX 107 2 7 rfl 1 [.inl (M 5 v3), .inl v2] [.inr 11, .inl (M 11 v2), .inl v2, .inr 11] rfl rfl rfl (Nat.le_of_ble_eq_true rfl) (sp_F_endOf (d + 2) (M 5 v3) v2 M g5 ?_)
    show X 90 [.inr 1, .inl v1, .inl v2, .inl v3] [.inl (f_end (M 2) (M 5 v3) v2), .inr 11, .inl (M 11 v2), .inl v2, .inr 11] M
    refine jk_iald (pc := 90) hX 17 rfl rfl g6 ?_
    refine jk_cs (pc := 91) hX 111 2 rfl [.inl (M 11 v2), .inl (M 11 (f_end (M 2) (M 5 v3) v2))] [.inl v2, .inr 11] rfl rfl (Nat.le_of_ble_eq_true rfl) (sp_F_capped (d + 3) (M 11 v2) (M 11 (f_end (M 2) (M 5 v3) v2)) M g7 ?_)
    show X 92 [.inr 1, .inl v1, .inl v2, .inl v3] [.inl (min ((M 11 v2) + (M 11 (f_end (M 2) (M 5 v3) v2))) 1000000000), .inl v2, .inr 11] M
    refine jk_iast (pc := 92) hX 17 rfl rfl g8 ?_
    refine jk_iinc (pc := 93) hX 3 1 rfl rfl g9 (ls' := [.inr 1, .inl v1, .inl v2, .inl (v3 + 1)]) rfl ?_
    refine jk_goto (pc := 94) hX 70 rfl ?_
    exact h10
set_option maxHeartbeats 4000000 in
theorem bk_F_lay_97 {d : Nat} {K : jxK} {X : jxX} (hX : jx_clo jx_G2 (d + 4) (jx_call jx_G2 jx_T (d + 4)) kc_F_lay K X) (v1 : Int) (v2 : Int) (v3 : Int) (M : jxM)
    (h : ((7 ≤ v3 → (((-2147483648 : Int) ≤ v2 + (-1) ∧ v2 + (-1) ≤ 2147483647)) ∧ X 58 [.inr 1, .inl v1, .inl (v2 + (-1)), .inr 0] [] M) ∧ (v3 < 7 → jx_call jx_G2 jx_T (d + 4) 113 [.inr 1, .inl v2, .inl v3] M (fun r M6 => r = none ∧ (((-2147483648 : Int) ≤ v3 + 1 ∧ v3 + 1 ≤ 2147483647)) ∧ X 97 [.inr 1, .inl v1, .inl v2, .inl (v3 + 1)] [] M6)))) :
    X 97 [.inr 1, .inl v1, .inl v2, .inl v3] [] M := by
  refine jk_load (pc := 97) hX 3 rfl rfl ?_
  refine jk_const (pc := 98) hX 7 rfl (by decide) ?_
  refine jk_cge (pc := 99) hX 106 rfl (fun q10 => ?_) (fun q11 => ?_)
  · have h1 := h.1 q10
    obtain ⟨g3, h4⟩ := h1
    refine jk_iinc (pc := 106) hX 2 (-1) rfl rfl g3 (ls' := [.inr 1, .inl v1, .inl (v2 + (-1)), .inl v3]) rfl ?_
    refine jk_goto (pc := 107) hX 58 rfl ?_
    refine jk_forget (pc := 58) hX 3 (ls' := [.inr 1, .inl v1, .inl (v2 + (-1)), .inr 0]) rfl ?_
    exact h4
  · have h2 := h.2 q11
    refine jk_aload (pc := 100) hX 0 rfl rfl ?_
    refine jk_load (pc := 101) hX 2 rfl rfl ?_
    refine jk_load (pc := 102) hX 3 rfl rfl ?_
    refine jk_cv (pc := 103) hX 113 2 7 rfl 1 [.inl v2, .inl v3] [] rfl rfl rfl (Nat.le_of_ble_eq_true rfl) (jx_mono (fun r M6 hr => ?_) h2)
    obtain ⟨rfl, h7⟩ := hr
    show X 104 [.inr 1, .inl v1, .inl v2, .inl v3] [] M6
    obtain ⟨g8, h9⟩ := h7
    refine jk_iinc (pc := 104) hX 3 1 rfl rfl g8 (ls' := [.inr 1, .inl v1, .inl v2, .inl (v3 + 1)]) rfl ?_
    refine jk_goto (pc := 105) hX 97 rfl ?_
    exact h9
