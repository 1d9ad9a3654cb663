set_option maxHeartbeats 4000000 in
theorem bk_R_walk_0 {d : Nat} {K : jxK} {X : jxX} (hX : jx_clo jx_G1 (d + 1) (jx_call jx_G1 jx_T (d + 1)) kc_R_walk K X) (v1 : Int) (M : jxM)
    (h : X 9 [.inr 90, .inl v1, .inl 6, .inl v1, .inl 0, .inr 0, .inr 0] [] (jx_up M 90 13 0)) :
    X 0 [.inr 90, .inl v1, .inr 0, .inr 0, .inr 0, .inr 0, .inr 0] [] M := by
  refine jk_const (pc := 0) hX 6 rfl (by decide) ?_
  refine jk_store (pc := 1) hX 2 rfl (Nat.le_of_ble_eq_true rfl) (ls' := [.inr 90, .inl v1, .inl 6, .inr 0, .inr 0, .inr 0, .inr 0]) rfl ?_
  refine jk_load (pc := 2) hX 1 rfl rfl ?_
  refine jk_store (pc := 3) hX 3 rfl (Nat.le_of_ble_eq_true rfl) (ls' := [.inr 90, .inl v1, .inl 6, .inl v1, .inr 0, .inr 0, .inr 0]) rfl ?_
  refine jk_const (pc := 4) hX 0 rfl (by decide) ?_
  refine jk_store (pc := 5) hX 4 rfl (Nat.le_of_ble_eq_true rfl) (ls' := [.inr 90, .inl v1, .inl 6, .inl v1, .inl 0, .inr 0, .inr 0]) rfl ?_
  refine jk_aload (pc := 6) hX 0 rfl rfl ?_
  refine jk_const (pc := 7) hX 0 rfl (by decide) ?_
  refine jk_put (pc := 8) hX 4 13 rfl rfl rfl ?_
  exact h
set_option maxHeartbeats 4000000 in
theorem bk_R_walk_9 {d : Nat} {K : jxK} {X : jxX} (hX : jx_clo jx_G1 (d + 1) (jx_call jx_G1 jx_T (d + 1)) kc_R_walk K X) (v1 : Int) (v2 : Int) (v3 : Int) (v4 : Int) (M : jxM)
    (h : (((M 4 5) ≤ v4 → K none M) ∧ (v4 < (M 4 5) → ((16 ≤ (M 90 13) → K none M) ∧ ((M 90 13) < 16 → (((-2147483648 : Int) ≤ v2 * 20 ∧ v2 * 20 ≤ 2147483647) ∧ ((-2147483648 : Int) ≤ (v2 * 20) + v3 ∧ (v2 * 20) + v3 ≤ 2147483647) ∧ (0 ≤ ((v2 * 20) + v3) ∧ ((v2 * 20) + v3) < 2380) ∧ (0 ≤ (M 90 13) ∧ (M 90 13) < 16) ∧ (0 ≤ (M 95 ((v2 * 20) + v3)) ∧ (M 95 ((v2 * 20) + v3)) < 357) ∧ (0 ≤ (M 90 13) ∧ (M 90 13) < 16) ∧ ((-2147483648 : Int) ≤ (M 90 13) + 1 ∧ (M 90 13) + 1 ≤ 2147483647) ∧ (((0 : Int) ≤ (M 95 ((v2 * 20) + v3)) ∧ (M 95 ((v2 * 20) + v3)) < 357) ∧ ((0 : Int) ≤ (M 87 (M 95 ((v2 * 20) + v3))) ∧ (M 87 (M 95 ((v2 * 20) + v3))) ≤ 16) ∧ ((0 : Int) ≤ (M 88 (M 95 ((v2 * 20) + v3))) ∧ (M 88 (M 95 ((v2 * 20) + v3))) ≤ 6)) ∧ (0 ≤ ((v2 * 20) + v3) ∧ ((v2 * 20) + v3) < 2380) ∧ (0 ≤ (M 95 ((v2 * 20) + v3)) ∧ (M 95 ((v2 * 20) + v3)) < 357)) ∧ X 9 [.inr 90, .inl v1, .inl ((M 87 (M 95 ((v2 * 20) + v3))) * 7 + (M 88 (M 95 ((v2 * 20) + v3)))), .inl (M 96 ((v2 * 20) + v3)), .inl (M 87 (M 95 ((v2 * 20) + v3))), .inr 0, .inr 0] [] (jx_up (jx_up (jx_up M 100 (M 90 13) v4) 101 (M 90 13) (M 86 (M 95 ((v2 * 20) + v3)))) 90 13 ((M 90 13) + 1))))))) :
    X 9 [.inr 90, .inl v1, .inl v2, .inl v3, .inl v4, .inr 0, .inr 0] [] M := by
  refine jk_load (pc := 9) hX 4 rfl rfl ?_
  refine jk_aload (pc := 10) hX 0 rfl rfl ?_
  refine jk_getR (pc := 11) hX 4 0 rfl rfl (r := 3) rfl ?_
  refine jk_getI (pc := 12) hX 3 5 rfl rfl rfl ?_
  refine jk_cge (pc := 13) hX 68 rfl (fun q18 => ?_) (fun q19 => ?_)
  · have h1 := h.1 q18
    exact jk_vret (pc := 68) hX rfl h1
  · have h2 := h.2 q19
    refine jk_aload (pc := 14) hX 0 rfl rfl ?_
    refine jk_getI (pc := 15) hX 4 13 rfl rfl rfl ?_
    refine jk_const (pc := 16) hX 16 rfl (by decide) ?_
    refine jk_cge (pc := 17) hX 68 rfl (fun q16 => ?_) (fun q17 => ?_)
    · have h3 := h2.1 q16
      exact jk_vret (pc := 68) hX rfl h3
    · have h4 := h2.2 q17
      obtain ⟨⟨g5, g6, g7, g8, g9, g10, g11, g12, g13, g14⟩, h15⟩ := h4
      refine jk_load (pc := 18) hX 2 rfl rfl ?_
      refine jk_const (pc := 19) hX 20 rfl (by decide) ?_
      refine jk_mul (pc := 20) hX rfl g5 ?_
      refine jk_load (pc := 21) hX 3 rfl rfl ?_
      refine jk_add (pc := 22) hX rfl g6 ?_
      refine jk_store (pc := 23) hX 5 rfl (Nat.le_of_ble_eq_true rfl) (ls' := [.inr 90, .inl v1, .inl v2, .inl v3, .inl v4, .inl ((v2 * 20) + v3), .inr 0]) rfl ?_
      refine jk_aload (pc := 24) hX 0 rfl rfl ?_
      refine jk_getR (pc := 25) hX 4 6 rfl rfl (r := 94) rfl ?_
      refine jk_load (pc := 26) hX 5 rfl rfl ?_
      refine jk_iald (pc := 27) hX 2380 rfl rfl g7 ?_
      refine jk_store (pc := 28) hX 6 rfl (Nat.le_of_ble_eq_true rfl) (ls' := [.inr 90, .inl v1, .inl v2, .inl v3, .inl v4, .inl ((v2 * 20) + v3), .inl (M 95 ((v2 * 20) + v3))]) rfl ?_
      refine jk_aload (pc := 29) hX 0 rfl rfl ?_
      refine jk_getR (pc := 30) hX 4 11 rfl rfl (r := 99) rfl ?_
      refine jk_aload (pc := 31) hX 0 rfl rfl ?_
      refine jk_getI (pc := 32) hX 4 13 rfl rfl rfl ?_
      refine jk_load (pc := 33) hX 4 rfl rfl ?_
      refine jk_iast (pc := 34) hX 16 rfl rfl g8 ?_
      refine jk_aload (pc := 35) hX 0 rfl rfl ?_
      refine jk_getR (pc := 36) hX 4 12 rfl rfl (r := 100) rfl ?_
      refine jk_aload (pc := 37) hX 0 rfl rfl ?_
      refine jk_getI (pc := 38) hX 4 13 rfl rfl rfl (jx_vX (jx_upc (by decide)) ?_)
      refine jk_aload (pc := 39) hX 0 rfl rfl ?_
      refine jk_getR (pc := 40) hX 4 1 rfl rfl (r := 82) rfl ?_
      refine jk_getR (pc := 41) hX 2 3 rfl rfl (r := 85) rfl ?_
      refine jk_load (pc := 42) hX 6 rfl rfl ?_
      refine jk_iald (pc := 43) hX 357 rfl rfl g9 (jx_vX (jx_upc (by decide)) ?_)
      refine jk_iast (pc := 44) hX 16 rfl rfl g10 ?_
      refine jk_aload (pc := 45) hX 0 rfl rfl ?_
      refine jk_dup (pc := 46) hX rfl ?_
      refine jk_getI (pc := 47) hX 4 13 rfl rfl rfl (jx_vX ((jx_upc (by decide)).trans (jx_upc (by decide))) ?_)
      refine jk_const (pc := 48) hX 1 rfl (by decide) ?_
      refine jk_add (pc := 49) hX rfl g11 ?_
      refine jk_put (pc := 50) hX 4 13 rfl rfl rfl ?_
      refine jk_aload (pc := 51) hX 0 rfl rfl ?_
      refine jk_getR (pc := 52) hX 4 1 rfl rfl (r := 82) rfl ?_
      refine jk_load (pc := 53) hX 6 rfl rfl ?_
      refine jk_cv (pc := 54) hX 15 1 2 rfl 83 [.inl (M 95 ((v2 * 20) + v3))] [] rfl rfl rfl (Nat.le_of_ble_eq_true rfl) (sp_L_stateBehind d (M 95 ((v2 * 20) + v3)) (jx_up (jx_up (jx_up M 100 (M 90 13) v4) 101 (M 90 13) (M 86 (M 95 ((v2 * 20) + v3)))) 90 13 ((M 90 13) + 1)) (by repeat (first | rw [jx_upc (by decide)] | rw [jx_cpc (by decide)]); exact g12) ?_)
      show X 55 [.inr 90, .inl v1, .inl v2, .inl v3, .inl v4, .inl ((v2 * 20) + v3), .inl (M 95 ((v2 * 20) + v3))] [.inl (((jx_up (jx_up (jx_up M 100 (M 90 13) v4) 101 (M 90 13) (M 86 (M 95 ((v2 * 20) + v3)))) 90 13 ((M 90 13) + 1)) 87 (M 95 ((v2 * 20) + v3))) * 7 + ((jx_up (jx_up (jx_up M 100 (M 90 13) v4) 101 (M 90 13) (M 86 (M 95 ((v2 * 20) + v3)))) 90 13 ((M 90 13) + 1)) 88 (M 95 ((v2 * 20) + v3))))] (jx_up (jx_up (jx_up M 100 (M 90 13) v4) 101 (M 90 13) (M 86 (M 95 ((v2 * 20) + v3)))) 90 13 ((M 90 13) + 1))
      refine jx_vX (show ((jx_up (jx_up (jx_up M 100 (M 90 13) v4) 101 (M 90 13) (M 86 (M 95 ((v2 * 20) + v3)))) 90 13 ((M 90 13) + 1)) 87 (M 95 ((v2 * 20) + v3))) * 7 + ((jx_up (jx_up (jx_up M 100 (M 90 13) v4) 101 (M 90 13) (M 86 (M 95 ((v2 * 20) + v3)))) 90 13 ((M 90 13) + 1)) 88 (M 95 ((v2 * 20) + v3))) = (M 87 (M 95 ((v2 * 20) + v3))) * 7 + (M 88 (M 95 ((v2 * 20) + v3))) by repeat (first | rw [jx_upc (by decide)] | rw [jx_cpc (by decide)])) ?_
      show X 55 [.inr 90, .inl v1, .inl v2, .inl v3, .inl v4, .inl ((v2 * 20) + v3), .inl (M 95 ((v2 * 20) + v3))] [.inl ((M 87 (M 95 ((v2 * 20) + v3))) * 7 + (M 88 (M 95 ((v2 * 20) + v3))))] (jx_up (jx_up (jx_up M 100 (M 90 13) v4) 101 (M 90 13) (M 86 (M 95 ((v2 * 20) + v3)))) 90 13 ((M 90 13) + 1))
      refine jk_store (pc := 55) hX 2 rfl (Nat.le_of_ble_eq_true rfl) (ls' := [.inr 90, .inl v1, .inl ((M 87 (M 95 ((v2 * 20) + v3))) * 7 + (M 88 (M 95 ((v2 * 20) + v3)))), .inl v3, .inl v4, .inl ((v2 * 20) + v3), .inl (M 95 ((v2 * 20) + v3))]) rfl ?_
      refine jk_aload (pc := 56) hX 0 rfl rfl ?_
      refine jk_getR (pc := 57) hX 4 7 rfl rfl (r := 95) rfl ?_
      refine jk_load (pc := 58) hX 5 rfl rfl ?_
      refine jk_iald (pc := 59) hX 2380 rfl rfl g13 (jx_vX ((jx_upc (by decide)).trans ((jx_upc (by decide)).trans (jx_upc (by decide)))) ?_)
      refine jk_store (pc := 60) hX 3 rfl (Nat.le_of_ble_eq_true rfl) (ls' := [.inr 90, .inl v1, .inl ((M 87 (M 95 ((v2 * 20) + v3))) * 7 + (M 88 (M 95 ((v2 * 20) + v3)))), .inl (M 96 ((v2 * 20) + v3)), .inl v4, .inl ((v2 * 20) + v3), .inl (M 95 ((v2 * 20) + v3))]) rfl ?_
      refine jk_aload (pc := 61) hX 0 rfl rfl ?_
      refine jk_getR (pc := 62) hX 4 1 rfl rfl (r := 82) rfl ?_
      refine jk_getR (pc := 63) hX 2 4 rfl rfl (r := 86) rfl ?_
      refine jk_load (pc := 64) hX 6 rfl rfl ?_
      refine jk_iald (pc := 65) hX 357 rfl rfl g14 (jx_vX ((jx_upc (by decide)).trans ((jx_upc (by decide)).trans (jx_upc (by decide)))) ?_)
      refine jk_store (pc := 66) hX 4 rfl (Nat.le_of_ble_eq_true rfl) (ls' := [.inr 90, .inl v1, .inl ((M 87 (M 95 ((v2 * 20) + v3))) * 7 + (M 88 (M 95 ((v2 * 20) + v3)))), .inl (M 96 ((v2 * 20) + v3)), .inl (M 87 (M 95 ((v2 * 20) + v3))), .inl ((v2 * 20) + v3), .inl (M 95 ((v2 * 20) + v3))]) rfl ?_
      refine jk_goto (pc := 67) hX 9 rfl ?_
      refine jk_forget (pc := 9) hX 5 (ls' := [.inr 90, .inl v1, .inl ((M 87 (M 95 ((v2 * 20) + v3))) * 7 + (M 88 (M 95 ((v2 * 20) + v3)))), .inl (M 96 ((v2 * 20) + v3)), .inl (M 87 (M 95 ((v2 * 20) + v3))), .inr 0, .inl (M 95 ((v2 * 20) + v3))]) rfl ?_
      refine jk_forget (pc := 9) hX 6 (ls' := [.inr 90, .inl v1, .inl ((M 87 (M 95 ((v2 * 20) + v3))) * 7 + (M 88 (M 95 ((v2 * 20) + v3)))), .inl (M 96 ((v2 * 20) + v3)), .inl (M 87 (M 95 ((v2 * 20) + v3))), .inr 0, .inr 0]) rfl ?_
      exact h15
set_option maxHeartbeats 4000000 in
theorem bk_F_follow_0 {d : Nat} {K : jxK} {X : jxX} (hX : jx_clo jx_G2 (d + 5) (jx_call jx_G2 jx_T (d + 5)) kc_F_follow K X) (v1 : Int) (M : jxM)
    (h : jx_call jx_G2 jx_T (d + 5) 114 [.inr 1] M (fun r M2 => r = none ∧ ((v1 < (M2 6 6) → (((-2147483648 : Int) ≤ 120 + v1 ∧ 120 + v1 ≤ 2147483647)) ∧ X 19 [.inr 1, .inl v1, .inl 0, .inl (120 + v1), .inr 0] [] (jx_up M2 1 14 0)) ∧ ((M2 6 6) ≤ v1 → K (some (.inl 0)) (jx_up M2 1 14 0))))) :
    X 0 [.inr 1, .inl v1, .inr 0, .inr 0, .inr 0] [] M := by
  refine jk_aload (pc := 0) hX 0 rfl rfl ?_
  refine jk_cv (pc := 1) hX 114 0 7 rfl 1 [] [] rfl rfl rfl (Nat.le_of_ble_eq_true rfl) (jx_mono (fun r M2 hr => ?_) h)
  obtain ⟨rfl, h3⟩ := hr
  show X 2 [.inr 1, .inl v1, .inr 0, .inr 0, .inr 0] [] M2
  refine jk_aload (pc := 2) hX 0 rfl rfl ?_
  refine jk_const (pc := 3) hX 0 rfl (by decide) ?_
  refine jk_put (pc := 4) hX 7 14 rfl rfl rfl ?_
  refine jk_load (pc := 5) hX 1 rfl rfl ?_
  refine jk_aload (pc := 6) hX 0 rfl rfl ?_
  refine jk_getR (pc := 7) hX 7 8 rfl rfl (r := 5) rfl ?_
  refine jk_const (pc := 8) hX 6 rfl (by decide) ?_
  refine jk_iald (pc := 9) hX 119 rfl rfl (by decide) (jx_vX (jx_upc (by decide)) ?_)
  refine jk_clt (pc := 10) hX 13 rfl (fun q8 => ?_) (fun q9 => ?_)
  · have h4 := h3.1 q8
    obtain ⟨g6, h7⟩ := h4
    refine jk_const (pc := 13) hX 0 rfl (by decide) ?_
    refine jk_store (pc := 14) hX 2 rfl (Nat.le_of_ble_eq_true rfl) (ls' := [.inr 1, .inl v1, .inl 0, .inr 0, .inr 0]) rfl ?_
    refine jk_const (pc := 15) hX 120 rfl (by decide) ?_
    refine jk_load (pc := 16) hX 1 rfl rfl ?_
    refine jk_add (pc := 17) hX rfl g6 ?_
    refine jk_store (pc := 18) hX 3 rfl (Nat.le_of_ble_eq_true rfl) (ls' := [.inr 1, .inl v1, .inl 0, .inl (120 + v1), .inr 0]) rfl ?_
    exact h7
  · have h5 := h3.2 q9
    refine jk_const (pc := 11) hX 0 rfl (by decide) ?_
    exact jk_zret (pc := 12) hX rfl (Or.inl rfl) h5
set_option maxHeartbeats 4000000 in
theorem bk_F_follow_19 {d : Nat} {K : jxK} {X : jxX} (hX : jx_clo jx_G2 (d + 5) (jx_call jx_G2 jx_T (d + 5)) kc_F_follow K X) (v1 : Int) (v2 : Int) (v3 : Int) (M : jxM)
    (h : (((M 2 271) ≤ v2 → K (some (.inl 1)) M) ∧ (v2 < (M 2 271) → ((0 ≤ v3 ∧ v3 < 2380) ∧ (0 ≤ (M 1 14) ∧ (M 1 14) < 16) ∧ (0 ≤ (M 1 14) ∧ (M 1 14) < 16) ∧ ((-2147483648 : Int) ≤ (M 1 14) + 1 ∧ (M 1 14) + 1 ≤ 2147483647) ∧ (((M 8 v3) = -5 ∨ (0 : Int) ≤ (M 8 v3) ∧ (M 8 v3) < 20 ∧ (0 : Int) ≤ (M 2 (1 + 11 * (M 8 v3))) ∧ (M 2 (1 + 11 * (M 8 v3))) ≤ 6) ∧ (0 : Int) ≤ v2 ∧ v2 ≤ 16) ∧ ((-2147483648 : Int) ≤ 7 * (f_end ((jx_up (jx_up (jx_up M 12 (M 1 14) v2) 13 (M 1 14) (M 8 v3)) 1 14 ((M 1 14) + 1)) 2) (M 8 v3) v2) ∧ 7 * (f_end ((jx_up (jx_up (jx_up M 12 (M 1 14) v2) 13 (M 1 14) (M 8 v3)) 1 14 ((M 1 14) + 1)) 2) (M 8 v3) v2) ≤ 2147483647) ∧ ((M 8 v3) = -5 ∨ (0 : Int) ≤ (M 8 v3) ∧ (M 8 v3) < 20) ∧ ((-2147483648 : Int) ≤ (7 * (f_end ((jx_up (jx_up (jx_up M 12 (M 1 14) v2) 13 (M 1 14) (M 8 v3)) 1 14 ((M 1 14) + 1)) 2) (M 8 v3) v2)) + (f_cls ((jx_up (jx_up (jx_up M 12 (M 1 14) v2) 13 (M 1 14) (M 8 v3)) 1 14 ((M 1 14) + 1)) 2) (M 8 v3)) ∧ (7 * (f_end ((jx_up (jx_up (jx_up M 12 (M 1 14) v2) 13 (M 1 14) (M 8 v3)) 1 14 ((M 1 14) + 1)) 2) (M 8 v3) v2)) + (f_cls ((jx_up (jx_up (jx_up M 12 (M 1 14) v2) 13 (M 1 14) (M 8 v3)) 1 14 ((M 1 14) + 1)) 2) (M 8 v3)) ≤ 2147483647) ∧ ((-2147483648 : Int) ≤ 20 * ((7 * (f_end ((jx_up (jx_up (jx_up M 12 (M 1 14) v2) 13 (M 1 14) (M 8 v3)) 1 14 ((M 1 14) + 1)) 2) (M 8 v3) v2)) + (f_cls ((jx_up (jx_up (jx_up M 12 (M 1 14) v2) 13 (M 1 14) (M 8 v3)) 1 14 ((M 1 14) + 1)) 2) (M 8 v3))) ∧ 20 * ((7 * (f_end ((jx_up (jx_up (jx_up M 12 (M 1 14) v2) 13 (M 1 14) (M 8 v3)) 1 14 ((M 1 14) + 1)) 2) (M 8 v3) v2)) + (f_cls ((jx_up (jx_up (jx_up M 12 (M 1 14) v2) 13 (M 1 14) (M 8 v3)) 1 14 ((M 1 14) + 1)) 2) (M 8 v3))) ≤ 2147483647) ∧ (0 ≤ v3 ∧ v3 < 2380) ∧ ((-2147483648 : Int) ≤ (20 * ((7 * (f_end ((jx_up (jx_up (jx_up M 12 (M 1 14) v2) 13 (M 1 14) (M 8 v3)) 1 14 ((M 1 14) + 1)) 2) (M 8 v3) v2)) + (f_cls ((jx_up (jx_up (jx_up M 12 (M 1 14) v2) 13 (M 1 14) (M 8 v3)) 1 14 ((M 1 14) + 1)) 2) (M 8 v3)))) + (M 9 v3) ∧ (20 * ((7 * (f_end ((jx_up (jx_up (jx_up M 12 (M 1 14) v2) 13 (M 1 14) (M 8 v3)) 1 14 ((M 1 14) + 1)) 2) (M 8 v3) v2)) + (f_cls ((jx_up (jx_up (jx_up M 12 (M 1 14) v2) 13 (M 1 14) (M 8 v3)) 1 14 ((M 1 14) + 1)) 2) (M 8 v3)))) + (M 9 v3) ≤ 2147483647)) ∧ X 19 [.inr 1, .inl v1, .inl (f_end ((jx_up (jx_up (jx_up M 12 (M 1 14) v2) 13 (M 1 14) (M 8 v3)) 1 14 ((M 1 14) + 1)) 2) (M 8 v3) v2), .inl ((20 * ((7 * (f_end ((jx_up (jx_up (jx_up M 12 (M 1 14) v2) 13 (M 1 14) (M 8 v3)) 1 14 ((M 1 14) + 1)) 2) (M 8 v3) v2)) + (f_cls ((jx_up (jx_up (jx_up M 12 (M 1 14) v2) 13 (M 1 14) (M 8 v3)) 1 14 ((M 1 14) + 1)) 2) (M 8 v3)))) + (M 9 v3)), .inr 0] [] (jx_up (jx_up (jx_up M 12 (M 1 14) v2) 13 (M 1 14) (M 8 v3)) 1 14 ((M 1 14) + 1))))) :
    X 19 [.inr 1, .inl v1, .inl v2, .inl v3, .inr 0] [] M := by
  refine jk_load (pc := 19) hX 2 rfl rfl ?_
  refine jk_aload (pc := 20) hX 0 rfl rfl ?_
  refine jk_getR (pc := 21) hX 7 0 rfl rfl (r := 1) rfl ?_
  refine jk_const (pc := 22) hX 271 rfl (by decide) ?_
  refine jk_iald (pc := 23) hX 305 rfl rfl (by decide) ?_
  refine jk_cge (pc := 24) hX 69 rfl (fun q15 => ?_) (fun q16 => ?_)
  · have h1 := h.1 q15
    refine jk_const (pc := 69) hX 1 rfl (by decide) ?_
    exact jk_zret (pc := 70) hX rfl (Or.inr rfl) h1
  · have h2 := h.2 q16
    obtain ⟨⟨g3, g4, g5, g6, g7, g8, g9, g10, g11, g12, g13⟩, h14⟩ := h2
    refine jk_aload (pc := 25) hX 0 rfl rfl ?_
    refine jk_getR (pc := 26) hX 7 10 rfl rfl (r := 7) rfl ?_
    refine jk_load (pc := 27) hX 3 rfl rfl ?_
    refine jk_iald (pc := 28) hX 2380 rfl rfl g3 ?_
    refine jk_store (pc := 29) hX 4 rfl (Nat.le_of_ble_eq_true rfl) (ls' := [.inr 1, .inl v1, .inl v2, .inl v3, .inl (M 8 v3)]) rfl ?_
    refine jk_aload (pc := 30) hX 0 rfl rfl ?_
    refine jk_getR (pc := 31) hX 7 15 rfl rfl (r := 11) rfl ?_
    refine jk_aload (pc := 32) hX 0 rfl rfl ?_
    refine jk_getI (pc := 33) hX 7 14 rfl rfl rfl ?_
    refine jk_load (pc := 34) hX 2 rfl rfl ?_
    refine jk_iast (pc := 35) hX 16 rfl rfl g4 ?_
    refine jk_aload (pc := 36) hX 0 rfl rfl ?_
    refine jk_getR (pc := 37) hX 7 16 rfl rfl (r := 12) rfl ?_
    refine jk_aload (pc := 38) hX 0 rfl rfl ?_
    refine jk_getI (pc := 39) hX 7 14 rfl rfl rfl (jx_vX (jx_upc (by decide)) ?_)
    refine jk_load (pc := 40) hX 4 rfl rfl ?_
    refine jk_iast (pc := 41) hX 16 rfl rfl g5 ?_
    refine jk_aload (pc := 42) hX 0 rfl rfl ?_
    refine jk_dup (pc := 43) hX rfl ?_
    refine jk_getI (pc := 44) hX 7 14 rfl rfl rfl (jx_vX ((jx_upc (by decide)).trans (jx_upc (by decide))) ?_)
    refine jk_const (pc := 45) hX 1 rfl (by decide) ?_
    refine jk_add (pc := 46) hX rfl g6 ?_
    refine jk_put (pc := 47) hX 7 14 rfl rfl rfl ?_
    refine jk_aload (pc := 48) hX 0 rfl rfl ?_
    refine jk_load (pc := 49) hX 4 rfl rfl ?_
    refine jk_load (pc := 50) hX 2 rfl rfl ?_
    refine jk_cv (pc := 51) hX 107 2 7 rfl 1 [.inl (M 8 v3), .inl v2] [] rfl rfl rfl (Nat.le_of_ble_eq_true rfl) (sp_F_endOf (d + 3) (M 8 v3) v2 (jx_up (jx_up (jx_up M 12 (M 1 14) v2) 13 (M 1 14) (M 8 v3)) 1 14 ((M 1 14) + 1)) (by repeat (first | rw [jx_upc (by decide)] | rw [jx_cpc (by decide)]); exact g7) ?_)
    show X 52 [.inr 1, .inl v1, .inl v2, .inl v3, .inl (M 8 v3)] [.inl (f_end ((jx_up (jx_up (jx_up M 12 (M 1 14) v2) 13 (M 1 14) (M 8 v3)) 1 14 ((M 1 14) + 1)) 2) (M 8 v3) v2)] (jx_up (jx_up (jx_up M 12 (M 1 14) v2) 13 (M 1 14) (M 8 v3)) 1 14 ((M 1 14) + 1))
    show X 52 [.inr 1, .inl v1, .inl v2, .inl v3, .inl (M 8 v3)] [.inl (f_end ((jx_up (jx_up (jx_up M 12 (M 1 14) v2) 13 (M 1 14) (M 8 v3)) 1 14 ((M 1 14) + 1)) 2) (M 8 v3) v2)] (jx_up (jx_up (jx_up M 12 (M 1 14) v2) 13 (M 1 14) (M 8 v3)) 1 14 ((M 1 14) + 1))
    refine jk_store (pc := 52) hX 2 rfl (Nat.le_of_ble_eq_true rfl) (ls' := [.inr 1, .inl v1, .inl (f_end ((jx_up (jx_up (jx_up M 12 (M 1 14) v2) 13 (M 1 14) (M 8 v3)) 1 14 ((M 1 14) + 1)) 2) (M 8 v3) v2), .inl v3, .inl (M 8 v3)]) rfl ?_
    refine jk_const (pc := 53) hX 20 rfl (by decide) ?_
    refine jk_const (pc := 54) hX 7 rfl (by decide) ?_
    refine jk_load (pc := 55) hX 2 rfl rfl ?_
    refine jk_mul (pc := 56) hX rfl g8 ?_
    refine jk_aload (pc := 57) hX 0 rfl rfl ?_
    refine jk_load (pc := 58) hX 4 rfl rfl ?_
    refine jk_cv (pc := 59) hX 108 1 7 rfl 1 [.inl (M 8 v3)] [.inl (7 * (f_end ((jx_up (jx_up (jx_up M 12 (M 1 14) v2) 13 (M 1 14) (M 8 v3)) 1 14 ((M 1 14) + 1)) 2) (M 8 v3) v2)), .inl 20] rfl rfl rfl (Nat.le_of_ble_eq_true rfl) (sp_F_classOf (d + 3) (M 8 v3) (jx_up (jx_up (jx_up M 12 (M 1 14) v2) 13 (M 1 14) (M 8 v3)) 1 14 ((M 1 14) + 1)) g9 ?_)
    show X 60 [.inr 1, .inl v1, .inl (f_end ((jx_up (jx_up (jx_up M 12 (M 1 14) v2) 13 (M 1 14) (M 8 v3)) 1 14 ((M 1 14) + 1)) 2) (M 8 v3) v2), .inl v3, .inl (M 8 v3)] [.inl (f_cls ((jx_up (jx_up (jx_up M 12 (M 1 14) v2) 13 (M 1 14) (M 8 v3)) 1 14 ((M 1 14) + 1)) 2) (M 8 v3)), .inl (7 * (f_end ((jx_up (jx_up (jx_up M 12 (M 1 14) v2) 13 (M 1 14) (M 8 v3)) 1 14 ((M 1 14) + 1)) 2) (M 8 v3) v2)), .inl 20] (jx_up (jx_up (jx_up M 12 (M 1 14) v2) 13 (M 1 14) (M 8 v3)) 1 14 ((M 1 14) + 1))
    refine jk_add (pc := 60) hX rfl g10 ?_
    refine jk_mul (pc := 61) hX rfl g11 ?_
    refine jk_aload (pc := 62) hX 0 rfl rfl ?_
    refine jk_getR (pc := 63) hX 7 11 rfl rfl (r := 8) rfl ?_
    refine jk_load (pc := 64) hX 3 rfl rfl ?_
    refine jk_iald (pc := 65) hX 2380 rfl rfl g12 (jx_vX ((jx_upc (by decide)).trans ((jx_upc (by decide)).trans (jx_upc (by decide)))) ?_)
    refine jk_add (pc := 66) hX rfl g13 ?_
    refine jk_store (pc := 67) hX 3 rfl (Nat.le_of_ble_eq_true rfl) (ls' := [.inr 1, .inl v1, .inl (f_end ((jx_up (jx_up (jx_up M 12 (M 1 14) v2) 13 (M 1 14) (M 8 v3)) 1 14 ((M 1 14) + 1)) 2) (M 8 v3) v2), .inl ((20 * ((7 * (f_end ((jx_up (jx_up (jx_up M 12 (M 1 14) v2) 13 (M 1 14) (M 8 v3)) 1 14 ((M 1 14) + 1)) 2) (M 8 v3) v2)) + (f_cls ((jx_up (jx_up (jx_up M 12 (M 1 14) v2) 13 (M 1 14) (M 8 v3)) 1 14 ((M 1 14) + 1)) 2) (M 8 v3)))) + (M 9 v3)), .inl (M 8 v3)]) rfl ?_
    refine jk_goto (pc := 68) hX 19 rfl ?_
    refine jk_forget (pc := 19) hX 4 (ls' := [.inr 1, .inl v1, .inl (f_end ((jx_up (jx_up (jx_up M 12 (M 1 14) v2) 13 (M 1 14) (M 8 v3)) 1 14 ((M 1 14) + 1)) 2) (M 8 v3) v2), .inl ((20 * ((7 * (f_end ((jx_up (jx_up (jx_up M 12 (M 1 14) v2) 13 (M 1 14) (M 8 v3)) 1 14 ((M 1 14) + 1)) 2) (M 8 v3) v2)) + (f_cls ((jx_up (jx_up (jx_up M 12 (M 1 14) v2) 13 (M 1 14) (M 8 v3)) 1 14 ((M 1 14) + 1)) 2) (M 8 v3)))) + (M 9 v3)), .inr 0]) rfl ?_
    exact h14
set_option maxHeartbeats 4000000 in
theorem bk_F_layAhead_0 {d : Nat} {K : jxK} {X : jxX} (hX : jx_clo jx_G2 (d + 3) (jx_call jx_G2 jx_T (d + 3)) kc_F_layAhead K X) (M : jxM)
    (h : X 2 [.inr 1, .inl 0, .inr 0, .inr 0, .inr 0, .inr 0, .inr 0] [] M) :
    X 0 [.inr 1, .inr 0, .inr 0, .inr 0, .inr 0, .inr 0, .inr 0] [] M := by
  refine jk_const (pc := 0) hX 0 rfl (by decide) ?_
  refine jk_store (pc := 1) hX 1 rfl (Nat.le_of_ble_eq_true rfl) (ls' := [.inr 1, .inl 0, .inr 0, .inr 0, .inr 0, .inr 0, .inr 0]) rfl ?_
  exact h
set_option maxHeartbeats 4000000 in
theorem bk_F_layAhead_2 {d : Nat} {K : jxK} {X : jxX} (hX : jx_clo jx_G2 (d + 3) (jx_call jx_G2 jx_T (d + 3)) kc_F_layAhead K X) (v1 : Int) (M : jxM)
    (h : ((119 ≤ v1 → X 19 [.inr 1, .inl 0, .inr 0, .inr 0, .inr 0, .inr 0, .inr 0] [] (jx_up M 14 6 0)) ∧ (v1 < 119 → ((0 ≤ v1 ∧ v1 < 119) ∧ ((-2147483648 : Int) ≤ v1 + 1 ∧ v1 + 1 ≤ 2147483647)) ∧ X 2 [.inr 1, .inl (v1 + 1), .inr 0, .inr 0, .inr 0, .inr 0, .inr 0] [] (jx_up M 14 v1 100000000)))) :
    X 2 [.inr 1, .inl v1, .inr 0, .inr 0, .inr 0, .inr 0, .inr 0] [] M := by
  refine jk_load (pc := 2) hX 1 rfl rfl ?_
  refine jk_const (pc := 3) hX 119 rfl (by decide) ?_
  refine jk_cge (pc := 4) hX 12 rfl (fun q6 => ?_) (fun q7 => ?_)
  · have h1 := h.1 q6
    refine jk_aload (pc := 12) hX 0 rfl rfl ?_
    refine jk_getR (pc := 13) hX 7 17 rfl rfl (r := 13) rfl ?_
    refine jk_const (pc := 14) hX 6 rfl (by decide) ?_
    refine jk_const (pc := 15) hX 0 rfl (by decide) ?_
    refine jk_iast (pc := 16) hX 119 rfl rfl (by decide) ?_
    refine jk_const (pc := 17) hX 0 rfl (by decide) ?_
    refine jk_store (pc := 18) hX 1 rfl (Nat.le_of_ble_eq_true rfl) (ls' := [.inr 1, .inl 0, .inr 0, .inr 0, .inr 0, .inr 0, .inr 0]) rfl ?_
    exact h1
  · have h2 := h.2 q7
    obtain ⟨⟨g3, g4⟩, h5⟩ := h2
    refine jk_aload (pc := 5) hX 0 rfl rfl ?_
    refine jk_getR (pc := 6) hX 7 17 rfl rfl (r := 13) rfl ?_
    refine jk_load (pc := 7) hX 1 rfl rfl ?_
    refine jk_const (pc := 8) hX 100000000 rfl (by decide) ?_
    refine jk_iast (pc := 9) hX 119 rfl rfl g3 ?_
    refine jk_iinc (pc := 10) hX 1 1 rfl rfl g4 (ls' := [.inr 1, .inl (v1 + 1), .inr 0, .inr 0, .inr 0, .inr 0, .inr 0]) rfl ?_
    refine jk_goto (pc := 11) hX 2 rfl ?_
    exact h5
set_option maxHeartbeats 4000000 in
theorem bk_F_layAhead_19 {d : Nat} {K : jxK} {X : jxX} (hX : jx_clo jx_G2 (d + 3) (jx_call jx_G2 jx_T (d + 3)) kc_F_layAhead K X) (v1 : Int) (M : jxM)
    (h : (((M 2 271) ≤ v1 → K none M) ∧ (v1 < (M 2 271) → jx_call jx_G2 jx_T (d + 3) 106 [.inr 1, .inl v1] M (fun r M4 => r = none ∧ X 30 [.inr 1, .inl v1, .inl 0, .inr 0, .inr 0, .inr 0, .inr 0] [] M4)))) :
    X 19 [.inr 1, .inl v1, .inr 0, .inr 0, .inr 0, .inr 0, .inr 0] [] M := by
  refine jk_load (pc := 19) hX 1 rfl rfl ?_
  refine jk_aload (pc := 20) hX 0 rfl rfl ?_
  refine jk_getR (pc := 21) hX 7 0 rfl rfl (r := 1) rfl ?_
  refine jk_const (pc := 22) hX 271 rfl (by decide) ?_
  refine jk_iald (pc := 23) hX 305 rfl rfl (by decide) ?_
  refine jk_cge (pc := 24) hX 97 rfl (fun q6 => ?_) (fun q7 => ?_)
  · have h1 := h.1 q6
    exact jk_vret (pc := 97) hX rfl h1
  · have h2 := h.2 q7
    refine jk_aload (pc := 25) hX 0 rfl rfl ?_
    refine jk_load (pc := 26) hX 1 rfl rfl ?_
    refine jk_cv (pc := 27) hX 106 1 7 rfl 1 [.inl v1] [] rfl rfl rfl (Nat.le_of_ble_eq_true rfl) (jx_mono (fun r M4 hr => ?_) h2)
    obtain ⟨rfl, h5⟩ := hr
    show X 28 [.inr 1, .inl v1, .inr 0, .inr 0, .inr 0, .inr 0, .inr 0] [] M4
    refine jk_const (pc := 28) hX 0 rfl (by decide) ?_
    refine jk_store (pc := 29) hX 2 rfl (Nat.le_of_ble_eq_true rfl) (ls' := [.inr 1, .inl v1, .inl 0, .inr 0, .inr 0, .inr 0, .inr 0]) rfl ?_
    exact h5
set_option maxHeartbeats 4000000 in
theorem bk_F_layAhead_30 {d : Nat} {K : jxK} {X : jxX} (hX : jx_clo jx_G2 (d + 3) (jx_call jx_G2 jx_T (d + 3)) kc_F_layAhead K X) (v1 : Int) (v2 : Int) (M : jxM)
    (h : (((M 1 6) ≤ v2 → (((-2147483648 : Int) ≤ v1 + 1 ∧ v1 + 1 ≤ 2147483647)) ∧ X 19 [.inr 1, .inl (v1 + 1), .inr 0, .inr 0, .inr 0, .inr 0, .inr 0] [] M) ∧ (v2 < (M 1 6) → ((0 ≤ v2 ∧ v2 < 21) ∧ (((M 5 v2) = -5 ∨ (0 : Int) ≤ (M 5 v2) ∧ (M 5 v2) < 20 ∧ (0 : Int) ≤ (M 2 (1 + 11 * (M 5 v2))) ∧ (M 2 (1 + 11 * (M 5 v2))) ≤ 6) ∧ (0 : Int) ≤ v1 ∧ v1 ≤ 16) ∧ ((-2147483648 : Int) ≤ 7 * (f_end (M 2) (M 5 v2) v1) ∧ 7 * (f_end (M 2) (M 5 v2) v1) ≤ 2147483647) ∧ ((M 5 v2) = -5 ∨ (0 : Int) ≤ (M 5 v2) ∧ (M 5 v2) < 20) ∧ ((-2147483648 : Int) ≤ (7 * (f_end (M 2) (M 5 v2) v1)) + (f_cls (M 2) (M 5 v2)) ∧ (7 * (f_end (M 2) (M 5 v2) v1)) + (f_cls (M 2) (M 5 v2)) ≤ 2147483647)) ∧ X 52 [.inr 1, .inl v1, .inl v2, .inl (M 5 v2), .inl ((7 * (f_end (M 2) (M 5 v2) v1)) + (f_cls (M 2) (M 5 v2))), .inl 0, .inr 0] [] M))) :
    X 30 [.inr 1, .inl v1, .inl v2, .inr 0, .inr 0, .inr 0, .inr 0] [] M := by
  refine jk_load (pc := 30) hX 2 rfl rfl ?_
  refine jk_aload (pc := 31) hX 0 rfl rfl ?_
  refine jk_getI (pc := 32) hX 7 6 rfl rfl rfl ?_
  refine jk_cge (pc := 33) hX 95 rfl (fun q11 => ?_) (fun q12 => ?_)
  · have h1 := h.1 q11
    obtain ⟨g3, h4⟩ := h1
    refine jk_iinc (pc := 95) hX 1 1 rfl rfl g3 (ls' := [.inr 1, .inl (v1 + 1), .inl v2, .inr 0, .inr 0, .inr 0, .inr 0]) rfl ?_
    refine jk_goto (pc := 96) hX 19 rfl ?_
    refine jk_forget (pc := 19) hX 2 (ls' := [.inr 1, .inl (v1 + 1), .inr 0, .inr 0, .inr 0, .inr 0, .inr 0]) rfl ?_
    exact h4
  · have h2 := h.2 q12
    obtain ⟨⟨g5, g6, g7, g8, g9⟩, h10⟩ := h2
    refine jk_aload (pc := 34) hX 0 rfl rfl ?_
    refine jk_getR (pc := 35) hX 7 7 rfl rfl (r := 4) rfl ?_
    refine jk_load (pc := 36) hX 2 rfl rfl ?_
    refine jk_iald (pc := 37) hX 21 rfl rfl g5 ?_
    refine jk_store (pc := 38) hX 3 rfl (Nat.le_of_ble_eq_true rfl) (ls' := [.inr 1, .inl v1, .inl v2, .inl (M 5 v2), .inr 0, .inr 0, .inr 0]) rfl ?_
    refine jk_const (pc := 39) hX 7 rfl (by decide) ?_
    refine jk_aload (pc := 40) hX 0 rfl rfl ?_
    refine jk_load (pc := 41) hX 3 rfl rfl ?_
    refine jk_load (pc := 42) hX 1 rfl rfl ?_
    refine jk_cv (pc := 43) hX 107 2 7 rfl 1 [.inl (M 5 v2), .inl v1] [.inl 7] rfl rfl rfl (Nat.le_of_ble_eq_true rfl) (sp_F_endOf (d + 1) (M 5 v2) v1 M g6 ?_)
    show X 44 [.inr 1, .inl v1, .inl v2, .inl (M 5 v2), .inr 0, .inr 0, .inr 0] [.inl (f_end (M 2) (M 5 v2) v1), .inl 7] M
    refine jk_mul (pc := 44) hX rfl g7 ?_
    refine jk_aload (pc := 45) hX 0 rfl rfl ?_
    refine jk_load (pc := 46) hX 3 rfl rfl ?_
    refine jk_cv (pc := 47) hX 108 1 7 rfl 1 [.inl (M 5 v2)] [.inl (7 * (f_end (M 2) (M 5 v2) v1))] rfl rfl rfl (Nat.le_of_ble_eq_true rfl) (sp_F_classOf (d + 1) (M 5 v2) M g8 ?_)
    show X 48 [.inr 1, .inl v1, .inl v2, .inl (M 5 v2), .inr 0, .inr 0, .inr 0] [.inl (f_cls (M 2) (M 5 v2)), .inl (7 * (f_end (M 2) (M 5 v2) v1))] M
    refine jk_add (pc := 48) hX rfl g9 ?_
    refine jk_store (pc := 49) hX 4 rfl (Nat.le_of_ble_eq_true rfl) (ls' := [.inr 1, .inl v1, .inl v2, .inl (M 5 v2), .inl ((7 * (f_end (M 2) (M 5 v2) v1)) + (f_cls (M 2) (M 5 v2))), .inr 0, .inr 0]) rfl ?_
    refine jk_const (pc := 50) hX 0 rfl (by decide) ?_
    refine jk_store (pc := 51) hX 5 rfl (Nat.le_of_ble_eq_true rfl) (ls' := [.inr 1, .inl v1, .inl v2, .inl (M 5 v2), .inl ((7 * (f_end (M 2) (M 5 v2) v1)) + (f_cls (M 2) (M 5 v2))), .inl 0, .inr 0]) rfl ?_
    exact h10
set_option maxHeartbeats 4000000 in
theorem bk_F_layAhead_52 {d : Nat} {K : jxK} {X : jxX} (hX : jx_clo jx_G2 (d + 3) (jx_call jx_G2 jx_T (d + 3)) kc_F_layAhead K X) (v1 : Int) (v2 : Int) (v3 : Int) (v4 : Int) (v5 : Int) (M : jxM)
    (h : ((7 ≤ v5 → (((-2147483648 : Int) ≤ v2 + 1 ∧ v2 + 1 ≤ 2147483647)) ∧ X 30 [.inr 1, .inl v1, .inl (v2 + 1), .inr 0, .inr 0, .inr 0, .inr 0] [] M) ∧ (v5 < 7 → (((-2147483648 : Int) ≤ 7 * v1 ∧ 7 * v1 ≤ 2147483647) ∧ ((-2147483648 : Int) ≤ (7 * v1) + v5 ∧ (7 * v1) + v5 ≤ 2147483647) ∧ (0 ≤ ((7 * v1) + v5) ∧ ((7 * v1) + v5) < 119) ∧ (v3 = -5 ∨ (0 : Int) ≤ v3 ∧ v3 < 20) ∧ ((0 : Int) ≤ v5 ∧ v5 ≤ 6 ∧ (0 : Int) ≤ (f_cls (M 2) v3) ∧ (f_cls (M 2) v3) ≤ 6) ∧ ((-2147483648 : Int) ≤ (M 14 ((7 * v1) + v5)) + ((M 2 (221 + 7 * v5 + (f_cls (M 2) v3)))) ∧ (M 14 ((7 * v1) + v5)) + ((M 2 (221 + 7 * v5 + (f_cls (M 2) v3)))) ≤ 2147483647) ∧ (v3 = -5 ∨ ((0 : Int) ≤ v3 ∧ v3 < 20) ∧ ((0 : Int) ≤ (M 2 (1 + 11 * v3 + 9)) ∧ (M 2 (1 + 11 * v3 + 9)) ≤ 99) ∧ ((0 : Int) ≤ (M 2 (1 + 11 * v3 + 10)) ∧ (M 2 (1 + 11 * v3 + 10)) ≤ 9)) ∧ ((-2147483648 : Int) ≤ ((M 14 ((7 * v1) + v5)) + ((M 2 (221 + 7 * v5 + (f_cls (M 2) v3))))) + (f_cost (M 2) v3) ∧ ((M 14 ((7 * v1) + v5)) + ((M 2 (221 + 7 * v5 + (f_cls (M 2) v3))))) + (f_cost (M 2) v3) ≤ 2147483647) ∧ (0 ≤ v4 ∧ v4 < 119)) ∧ (((M 14 v4) ≤ (((M 14 ((7 * v1) + v5)) + ((M 2 (221 + 7 * v5 + (f_cls (M 2) v3))))) + (f_cost (M 2) v3)) → ((0 ≤ v4 ∧ v4 < 119) ∧ (0 ≤ v4 ∧ v4 < 119) ∧ ((-2147483648 : Int) ≤ v5 + 1 ∧ v5 + 1 ≤ 2147483647)) ∧ X 52 [.inr 1, .inl v1, .inl v2, .inl v3, .inl v4, .inl (v5 + 1), .inr 0] [] (jx_up M 14 v4 (M 14 v4))) ∧ ((((M 14 ((7 * v1) + v5)) + ((M 2 (221 + 7 * v5 + (f_cls (M 2) v3))))) + (f_cost (M 2) v3)) < (M 14 v4) → ((0 ≤ v4 ∧ v4 < 119) ∧ ((-2147483648 : Int) ≤ v5 + 1 ∧ v5 + 1 ≤ 2147483647)) ∧ X 52 [.inr 1, .inl v1, .inl v2, .inl v3, .inl v4, .inl (v5 + 1), .inr 0] [] (jx_up M 14 v4 (((M 14 ((7 * v1) + v5)) + ((M 2 (221 + 7 * v5 + (f_cls (M 2) v3))))) + (f_cost (M 2) v3)))))))) :
    X 52 [.inr 1, .inl v1, .inl v2, .inl v3, .inl v4, .inl v5, .inr 0] [] M := by
  refine jk_load (pc := 52) hX 5 rfl rfl ?_
  refine jk_const (pc := 53) hX 7 rfl (by decide) ?_
  refine jk_cge (pc := 54) hX 93 rfl (fun q26 => ?_) (fun q27 => ?_)
  · have h1 := h.1 q26
    obtain ⟨g3, h4⟩ := h1
    refine jk_iinc (pc := 93) hX 2 1 rfl rfl g3 (ls' := [.inr 1, .inl v1, .inl (v2 + 1), .inl v3, .inl v4, .inl v5, .inr 0]) rfl ?_
    refine jk_goto (pc := 94) hX 30 rfl ?_
    refine jk_forget (pc := 30) hX 3 (ls' := [.inr 1, .inl v1, .inl (v2 + 1), .inr 0, .inl v4, .inl v5, .inr 0]) rfl ?_
    refine jk_forget (pc := 30) hX 4 (ls' := [.inr 1, .inl v1, .inl (v2 + 1), .inr 0, .inr 0, .inl v5, .inr 0]) rfl ?_
    refine jk_forget (pc := 30) hX 5 (ls' := [.inr 1, .inl v1, .inl (v2 + 1), .inr 0, .inr 0, .inr 0, .inr 0]) rfl ?_
    exact h4
  · have h2 := h.2 q27
    obtain ⟨⟨g5, g6, g7, g8, g9, g10, g11, g12, g13⟩, h25⟩ := h2
    refine jk_aload (pc := 55) hX 0 rfl rfl ?_
    refine jk_getR (pc := 56) hX 7 17 rfl rfl (r := 13) rfl ?_
    refine jk_const (pc := 57) hX 7 rfl (by decide) ?_
    refine jk_load (pc := 58) hX 1 rfl rfl ?_
    refine jk_mul (pc := 59) hX rfl g5 ?_
    refine jk_load (pc := 60) hX 5 rfl rfl ?_
    refine jk_add (pc := 61) hX rfl g6 ?_
    refine jk_iald (pc := 62) hX 119 rfl rfl g7 ?_
    refine jk_aload (pc := 63) hX 0 rfl rfl ?_
    refine jk_load (pc := 64) hX 5 rfl rfl ?_
    refine jk_aload (pc := 65) hX 0 rfl rfl ?_
    refine jk_load (pc := 66) hX 3 rfl rfl ?_
    refine jk_cv (pc := 67) hX 108 1 7 rfl 1 [.inl v3] [.inl v5, .inr 1, .inl (M 14 ((7 * v1) + v5))] rfl rfl rfl (Nat.le_of_ble_eq_true rfl) (sp_F_classOf (d + 1) v3 M g8 ?_)
    show X 68 [.inr 1, .inl v1, .inl v2, .inl v3, .inl v4, .inl v5, .inr 0] [.inl (f_cls (M 2) v3), .inl v5, .inr 1, .inl (M 14 ((7 * v1) + v5))] M
    refine jk_cv (pc := 68) hX 110 2 7 rfl 1 [.inl v5, .inl (f_cls (M 2) v3)] [.inl (M 14 ((7 * v1) + v5))] rfl rfl rfl (Nat.le_of_ble_eq_true rfl) (sp_F_between (d + 2) v5 (f_cls (M 2) v3) M g9 ?_)
    show X 69 [.inr 1, .inl v1, .inl v2, .inl v3, .inl v4, .inl v5, .inr 0] [.inl ((M 2 (221 + 7 * v5 + (f_cls (M 2) v3)))), .inl (M 14 ((7 * v1) + v5))] M
    refine jk_add (pc := 69) hX rfl g10 ?_
    refine jk_aload (pc := 70) hX 0 rfl rfl ?_
    refine jk_load (pc := 71) hX 3 rfl rfl ?_
    refine jk_cv (pc := 72) hX 109 1 7 rfl 1 [.inl v3] [.inl ((M 14 ((7 * v1) + v5)) + ((M 2 (221 + 7 * v5 + (f_cls (M 2) v3)))))] rfl rfl rfl (Nat.le_of_ble_eq_true rfl) (sp_F_segmentCost d v3 M g11 ?_)
    show X 73 [.inr 1, .inl v1, .inl v2, .inl v3, .inl v4, .inl v5, .inr 0] [.inl (f_cost (M 2) v3), .inl ((M 14 ((7 * v1) + v5)) + ((M 2 (221 + 7 * v5 + (f_cls (M 2) v3)))))] M
    refine jk_add (pc := 73) hX rfl g12 ?_
    refine jk_store (pc := 74) hX 6 rfl (Nat.le_of_ble_eq_true rfl) (ls' := [.inr 1, .inl v1, .inl v2, .inl v3, .inl v4, .inl v5, .inl (((M 14 ((7 * v1) + v5)) + ((M 2 (221 + 7 * v5 + (f_cls (M 2) v3))))) + (f_cost (M 2) v3))]) rfl ?_
    refine jk_aload (pc := 75) hX 0 rfl rfl ?_
    refine jk_getR (pc := 76) hX 7 17 rfl rfl (r := 13) rfl ?_
    refine jk_load (pc := 77) hX 4 rfl rfl ?_
    refine jk_load (pc := 78) hX 6 rfl rfl ?_
    refine jk_aload (pc := 79) hX 0 rfl rfl ?_
    refine jk_getR (pc := 80) hX 7 17 rfl rfl (r := 13) rfl ?_
    refine jk_load (pc := 81) hX 4 rfl rfl ?_
    refine jk_iald (pc := 82) hX 119 rfl rfl g13 ?_
    refine jk_cge (pc := 83) hX 86 rfl (fun q23 => ?_) (fun q24 => ?_)
    · have h14 := h25.1 q23
      obtain ⟨⟨g16, g17, g18⟩, h19⟩ := h14
      refine jk_aload (pc := 86) hX 0 rfl rfl ?_
      refine jk_getR (pc := 87) hX 7 17 rfl rfl (r := 13) rfl ?_
      refine jk_load (pc := 88) hX 4 rfl rfl ?_
      refine jk_iald (pc := 89) hX 119 rfl rfl g16 ?_
      refine jk_iast (pc := 90) hX 119 rfl rfl g17 ?_
      refine jk_iinc (pc := 91) hX 5 1 rfl rfl g18 (ls' := [.inr 1, .inl v1, .inl v2, .inl v3, .inl v4, .inl (v5 + 1), .inl (((M 14 ((7 * v1) + v5)) + ((M 2 (221 + 7 * v5 + (f_cls (M 2) v3))))) + (f_cost (M 2) v3))]) rfl ?_
      refine jk_goto (pc := 92) hX 52 rfl ?_
      refine jk_forget (pc := 52) hX 6 (ls' := [.inr 1, .inl v1, .inl v2, .inl v3, .inl v4, .inl (v5 + 1), .inr 0]) rfl ?_
      exact h19
    · have h15 := h25.2 q24
      obtain ⟨⟨g20, g21⟩, h22⟩ := h15
      refine jk_load (pc := 84) hX 6 rfl rfl ?_
      refine jk_goto (pc := 85) hX 90 rfl ?_
      refine jk_iast (pc := 90) hX 119 rfl rfl g20 ?_
      refine jk_iinc (pc := 91) hX 5 1 rfl rfl g21 (ls' := [.inr 1, .inl v1, .inl v2, .inl v3, .inl v4, .inl (v5 + 1), .inl (((M 14 ((7 * v1) + v5)) + ((M 2 (221 + 7 * v5 + (f_cls (M 2) v3))))) + (f_cost (M 2) v3))]) rfl ?_
      refine jk_goto (pc := 92) hX 52 rfl ?_
      refine jk_forget (pc := 52) hX 6 (ls' := [.inr 1, .inl v1, .inl v2, .inl v3, .inl v4, .inl (v5 + 1), .inr 0]) rfl ?_
      exact h22
set_option maxHeartbeats 4000000 in
theorem bk_R_leastThroughSlot_0 {d : Nat} {K : jxK} {X : jxX} (hX : jx_clo jx_G1 (d + 2) (jx_call jx_G1 jx_T (d + 2)) kc_R_leastThroughSlot K X) (v1 : Int) (v2 : Int) (M : jxM)
    (h : ((0 ≤ v2 ∧ v2 < 357) ∧ (((0 : Int) ≤ v1 ∧ v1 ≤ 16) ∧ ((0 : Int) ≤ (M 88 v2) ∧ (M 88 v2) ≤ 6) ∧ (∀ x, (0 : Int) ≤ x → x < 119 → (0 : Int) ≤ M 91 x ∧ M 91 x ≤ 1000000) ∧ (∀ x, (0 : Int) ≤ x → x < 49 → (0 : Int) ≤ M 12 x ∧ M 12 x ≤ 99)) ∧ (0 ≤ v2 ∧ v2 < 357) ∧ ((-2147483648 : Int) ≤ (r_bef M v1 (M 88 v2) 7) + (M 89 v2) ∧ (r_bef M v1 (M 88 v2) 7) + (M 89 v2) ≤ 2147483647) ∧ (((0 : Int) ≤ v2 ∧ v2 < 357) ∧ ((0 : Int) ≤ (M 87 v2) ∧ (M 87 v2) ≤ 16) ∧ ((0 : Int) ≤ (M 88 v2) ∧ (M 88 v2) ≤ 6)) ∧ ((0 : Int) ≤ ((M 87 v2) * 7 + (M 88 v2)) ∧ ((M 87 v2) * 7 + (M 88 v2)) < 119) ∧ ((-2147483648 : Int) ≤ ((r_bef M v1 (M 88 v2) 7) + (M 89 v2)) + (r_from M ((M 87 v2) * 7 + (M 88 v2))) ∧ ((r_bef M v1 (M 88 v2) 7) + (M 89 v2)) + (r_from M ((M 87 v2) * 7 + (M 88 v2))) ≤ 2147483647)) ∧ K (some (.inl (((r_bef M v1 (M 88 v2) 7) + (M 89 v2)) + (r_from M ((M 87 v2) * 7 + (M 88 v2)))))) M) :
    X 0 [.inr 90, .inl v1, .inl v2] [] M := by
  obtain ⟨⟨g1, g2, g3, g4, g5, g6, g7⟩, h8⟩ := h
  refine jk_aload (pc := 0) hX 0 rfl rfl ?_
  refine jk_load (pc := 1) hX 1 rfl rfl ?_
  refine jk_aload (pc := 2) hX 0 rfl rfl ?_
  refine jk_getR (pc := 3) hX 4 1 rfl rfl (r := 82) rfl ?_
  refine jk_getR (pc := 4) hX 2 5 rfl rfl (r := 87) rfl ?_
  refine jk_load (pc := 5) hX 2 rfl rfl ?_
  refine jk_iald (pc := 6) hX 357 rfl rfl g1 ?_
  refine jk_cv (pc := 7) hX 23 2 4 rfl 90 [.inl v1, .inl (M 88 v2)] [] rfl rfl rfl (Nat.le_of_ble_eq_true rfl) (sp_R_leastBefore d v1 (M 88 v2) M g2 ?_)
  show X 8 [.inr 90, .inl v1, .inl v2] [.inl (r_bef M v1 (M 88 v2) 7)] M
  refine jk_aload (pc := 8) hX 0 rfl rfl ?_
  refine jk_getR (pc := 9) hX 4 1 rfl rfl (r := 82) rfl ?_
  refine jk_getR (pc := 10) hX 2 6 rfl rfl (r := 88) rfl ?_
  refine jk_load (pc := 11) hX 2 rfl rfl ?_
  refine jk_iald (pc := 12) hX 357 rfl rfl g3 ?_
  refine jk_add (pc := 13) hX rfl g4 ?_
  refine jk_aload (pc := 14) hX 0 rfl rfl ?_
  refine jk_aload (pc := 15) hX 0 rfl rfl ?_
  refine jk_getR (pc := 16) hX 4 1 rfl rfl (r := 82) rfl ?_
  refine jk_load (pc := 17) hX 2 rfl rfl ?_
  refine jk_cv (pc := 18) hX 15 1 2 rfl 83 [.inl v2] [.inr 90, .inl ((r_bef M v1 (M 88 v2) 7) + (M 89 v2))] rfl rfl rfl (Nat.le_of_ble_eq_true rfl) (sp_L_stateBehind (d + 1) v2 M g5 ?_)
  show X 19 [.inr 90, .inl v1, .inl v2] [.inl ((M 87 v2) * 7 + (M 88 v2)), .inr 90, .inl ((r_bef M v1 (M 88 v2) 7) + (M 89 v2))] M
  refine jk_cv (pc := 19) hX 29 1 4 rfl 90 [.inl ((M 87 v2) * 7 + (M 88 v2))] [.inl ((r_bef M v1 (M 88 v2) 7) + (M 89 v2))] rfl rfl rfl (Nat.le_of_ble_eq_true rfl) (sp_R_leastFrom (d + 1) ((M 87 v2) * 7 + (M 88 v2)) M g6 ?_)
  show X 20 [.inr 90, .inl v1, .inl v2] [.inl (r_from M ((M 87 v2) * 7 + (M 88 v2))), .inl ((r_bef M v1 (M 88 v2) 7) + (M 89 v2))] M
  refine jk_add (pc := 20) hX rfl g7 ?_
  exact jk_iret (pc := 21) hX rfl h8
set_option maxHeartbeats 4000000 in
theorem bk_C_presentPaths_0 {d : Nat} {K : jxK} {X : jxX} (hX : jx_clo jx_G1 (d + 5) (jx_call jx_G1 jx_T (d + 5)) kc_C_presentPaths K X) (M : jxM)
    (h : (((M 1 5) = 0 → K (some (.inr 90)) M) ∧ ((M 1 5) ≠ 0 → jx_call jx_G1 jx_T (d + 5) 11 [.inr 83] M (fun r M4 => r = none ∧ jx_call jx_G1 jx_T (d + 5) 21 [.inr 90] M4 (fun r M7 => r = none ∧ K (some (.inr 90)) (jx_up M7 1 5 0)))))) :
    X 0 [.inr 1] [] M := by
  refine jk_aload (pc := 0) hX 0 rfl rfl ?_
  refine jk_getI (pc := 1) hX 6 5 rfl rfl rfl ?_
  refine jk_zeq (pc := 2) hX 12 rfl (fun q9 => ?_) (fun q10 => ?_)
  · have h1 := h.1 q9
    refine jk_aload (pc := 12) hX 0 rfl rfl ?_
    refine jk_getR (pc := 13) hX 6 4 rfl rfl (r := 89) rfl ?_
    exact jk_aret (pc := 14) hX rfl h1
  · have h2 := h.2 q10
    refine jk_aload (pc := 3) hX 0 rfl rfl ?_
    refine jk_getR (pc := 4) hX 6 3 rfl rfl (r := 82) rfl ?_
    refine jk_cv (pc := 5) hX 11 0 2 rfl 83 [] [] rfl rfl rfl (Nat.le_of_ble_eq_true rfl) (jx_mono (fun r M4 hr => ?_) h2)
    obtain ⟨rfl, h5⟩ := hr
    show X 6 [.inr 1] [] M4
    refine jk_aload (pc := 6) hX 0 rfl rfl ?_
    refine jk_getR (pc := 7) hX 6 4 rfl rfl (r := 89) rfl ?_
    refine jk_cv (pc := 8) hX 21 0 4 rfl 90 [] [] rfl rfl rfl (Nat.le_of_ble_eq_true rfl) (jx_mono (fun r M7 hr => ?_) h5)
    obtain ⟨rfl, h8⟩ := hr
    show X 9 [.inr 1] [] M7
    refine jk_aload (pc := 9) hX 0 rfl rfl ?_
    refine jk_const (pc := 10) hX 0 rfl (by decide) ?_
    refine jk_putZ (pc := 11) hX 6 5 rfl rfl rfl (Or.inl rfl) ?_
    refine jk_aload (pc := 12) hX 0 rfl rfl ?_
    refine jk_getR (pc := 13) hX 6 4 rfl rfl (r := 89) rfl ?_
    exact jk_aret (pc := 14) hX rfl h8
set_option maxHeartbeats 4000000 in
theorem bk_C_pathCount_0 {d : Nat} {K : jxK} {X : jxX} (hX : jx_clo jx_G1 (d + 6) (jx_call jx_G1 jx_T (d + 6)) kc_C_pathCount K X) (M : jxM)
    (h : jx_call jx_G1 jx_T (d + 6) 73 [.inr 1] M (fun r M2 => r = some (.inr 90) ∧ K (some (.inl ((M2 99 0)))) M2)) :
    X 0 [.inr 1] [] M := by
  refine jk_aload (pc := 0) hX 0 rfl rfl ?_
  refine jk_cv (pc := 1) hX 73 0 6 rfl 1 [] [] rfl rfl rfl (Nat.le_of_ble_eq_true rfl) (jx_mono (fun r M2 hr => ?_) h)
  obtain ⟨rfl, h3⟩ := hr
  show X 2 [.inr 1] [.inr 90] M2
  refine jk_cv (pc := 2) hX 33 0 4 rfl 90 [] [] rfl rfl rfl (Nat.le_of_ble_eq_true rfl) (sp_R_allPaths (d + 5)  M2  ?_)
  show X 3 [.inr 1] [.inl ((M2 99 0))] M2
  exact jk_iret (pc := 3) hX rfl h3
set_option maxHeartbeats 4000000 in
theorem bk_C_pathCost_0 {d : Nat} {K : jxK} {X : jxX} (hX : jx_clo jx_G1 (d + 6) (jx_call jx_G1 jx_T (d + 6)) kc_C_pathCost K X) (v1 : Int) (M : jxM)
    (h : ((¬ (v1 < 0 ∨ 19 < v1) → jx_call jx_G1 jx_T (d + 6) 73 [.inr 1] M (fun r M4 => r = some (.inr 90) ∧ ((¬ (v1 < (M4 93 6)) → K (some (.inl (-9))) M4) ∧ (v1 < (M4 93 6) → (((0 : Int) ≤ v1 ∧ v1 < 20)) ∧ K (some (.inl ((M4 94 (120 + v1))))) M4)))) ∧ (v1 < 0 ∨ 19 < v1 → K (some (.inl (-1))) M))) :
    X 0 [.inr 1, .inl v1, .inr 0] [] M := by
  refine jk_load (pc := 0) hX 1 rfl rfl ?_
  refine jk_cs (pc := 1) hX 78 1 rfl [.inl v1] [] rfl rfl (Nat.le_of_ble_eq_true rfl) (sp_C_isNoRank (d + 4) v1 M  ?_)
  show X 2 [.inr 1, .inl v1, .inr 0] [.inl (jx_b (v1 < 0 ∨ 19 < v1))] M
  refine jk_zeqB (pc := 2) hX 5 rfl (fun q12 => ?_) (fun q13 => ?_)
  · have h1 := h.1 q12
    refine jk_aload (pc := 5) hX 0 rfl rfl ?_
    refine jk_cv (pc := 6) hX 73 0 6 rfl 1 [] [] rfl rfl rfl (Nat.le_of_ble_eq_true rfl) (jx_mono (fun r M4 hr => ?_) h1)
    obtain ⟨rfl, h5⟩ := hr
    show X 7 [.inr 1, .inl v1, .inr 0] [.inr 90] M4
    refine jk_astore (pc := 7) hX 2 rfl (Nat.le_of_ble_eq_true rfl) (ls' := [.inr 1, .inl v1, .inr 90]) rfl ?_
    refine jk_aload (pc := 8) hX 2 rfl rfl ?_
    refine jk_load (pc := 9) hX 1 rfl rfl ?_
    refine jk_cv (pc := 10) hX 35 1 4 rfl 90 [.inl v1] [] rfl rfl rfl (Nat.le_of_ble_eq_true rfl) (sp_R_hasRank (d + 5) v1 M4  ?_)
    show X 11 [.inr 1, .inl v1, .inr 90] [.inl (jx_b (v1 < (M4 93 6)))] M4
    refine jk_zeqB (pc := 11) hX 16 rfl (fun q10 => ?_) (fun q11 => ?_)
    · have h6 := h5.1 q10
      refine jk_const (pc := 16) hX (-9) rfl (by decide) ?_
      exact jk_iret (pc := 17) hX rfl h6
    · have h7 := h5.2 q11
      obtain ⟨g8, h9⟩ := h7
      refine jk_aload (pc := 12) hX 2 rfl rfl ?_
      refine jk_load (pc := 13) hX 1 rfl rfl ?_
      refine jk_cv (pc := 14) hX 36 1 4 rfl 90 [.inl v1] [] rfl rfl rfl (Nat.le_of_ble_eq_true rfl) (sp_R_costAtRank (d + 5) v1 M4 g8 ?_)
      show X 15 [.inr 1, .inl v1, .inr 90] [.inl ((M4 94 (120 + v1)))] M4
      refine jk_goto (pc := 15) hX 17 rfl ?_
      exact jk_iret (pc := 17) hX rfl h9
  · have h2 := h.2 q13
    refine jk_const (pc := 3) hX (-1) rfl (by decide) ?_
    exact jk_iret (pc := 4) hX rfl h2
set_option maxHeartbeats 4000000 in
theorem bk_C_bestCount_0 {d : Nat} {K : jxK} {X : jxX} (hX : jx_clo jx_G1 (d + 6) (jx_call jx_G1 jx_T (d + 6)) kc_C_bestCount K X) (M : jxM)
    (h : jx_call jx_G1 jx_T (d + 6) 73 [.inr 1] M (fun r M2 => r = some (.inr 90) ∧ K (some (.inl ((M2 92 6)))) M2)) :
    X 0 [.inr 1] [] M := by
  refine jk_aload (pc := 0) hX 0 rfl rfl ?_
  refine jk_cv (pc := 1) hX 73 0 6 rfl 1 [] [] rfl rfl rfl (Nat.le_of_ble_eq_true rfl) (jx_mono (fun r M2 hr => ?_) h)
  obtain ⟨rfl, h3⟩ := hr
  show X 2 [.inr 1] [.inr 90] M2
  refine jk_cv (pc := 2) hX 34 0 4 rfl 90 [] [] rfl rfl rfl (Nat.le_of_ble_eq_true rfl) (sp_R_bestPaths (d + 5)  M2  ?_)
  show X 3 [.inr 1] [.inl ((M2 92 6))] M2
  exact jk_iret (pc := 3) hX rfl h3
set_option maxHeartbeats 4000000 in
theorem bk_F_pathCount_0 {d : Nat} {K : jxK} {X : jxX} (hX : jx_clo jx_G2 (d + 5) (jx_call jx_G2 jx_T (d + 5)) kc_F_pathCount K X) (M : jxM)
    (h : jx_call jx_G2 jx_T (d + 5) 114 [.inr 1] M (fun r M2 => r = none ∧ K (some (.inl (M2 11 0))) M2)) :
    X 0 [.inr 1] [] M := by
  refine jk_aload (pc := 0) hX 0 rfl rfl ?_
  refine jk_cv (pc := 1) hX 114 0 7 rfl 1 [] [] rfl rfl rfl (Nat.le_of_ble_eq_true rfl) (jx_mono (fun r M2 hr => ?_) h)
  obtain ⟨rfl, h3⟩ := hr
  show X 2 [.inr 1] [] M2
  refine jk_aload (pc := 2) hX 0 rfl rfl ?_
  refine jk_getR (pc := 3) hX 7 13 rfl rfl (r := 10) rfl ?_
  refine jk_const (pc := 4) hX 0 rfl (by decide) ?_
  refine jk_iald (pc := 5) hX 17 rfl rfl (by decide) ?_
  exact jk_iret (pc := 6) hX rfl h3
set_option maxHeartbeats 4000000 in
theorem bk_F_pathCost_0 {d : Nat} {K : jxK} {X : jxX} (hX : jx_clo jx_G2 (d + 5) (jx_call jx_G2 jx_T (d + 5)) kc_F_pathCost K X) (v1 : Int) (M : jxM)
    (h : (((0 : Int) ≤ v1 ∧ v1 ≤ (19 : Int) → jx_call jx_G2 jx_T (d + 5) 114 [.inr 1] M (fun r M4 => r = none ∧ (((M4 6 6) ≤ v1 → K (some (.inl (-9))) M4) ∧ (v1 < (M4 6 6) → (((-2147483648 : Int) ≤ 120 + v1 ∧ 120 + v1 ≤ 2147483647) ∧ (0 ≤ (120 + v1) ∧ (120 + v1) < 2380)) ∧ K (some (.inl (M4 7 (120 + v1)))) M4)))) ∧ (¬ ((0 : Int) ≤ v1 ∧ v1 ≤ (19 : Int)) → K (some (.inl (-1))) M))) :
    X 0 [.inr 1, .inl v1] [] M := by
  refine jk_load (pc := 0) hX 1 rfl rfl ?_
  refine jk_const (pc := 1) hX 0 rfl (by decide) ?_
  refine jk_const (pc := 2) hX 19 rfl (by decide) ?_
  refine jk_cs (pc := 3) hX 80 3 rfl [.inl v1, .inl 0, .inl 19] [] rfl rfl (Nat.le_of_ble_eq_true rfl) (sp_F_in (d + 4) v1 (0 : Int) (19 : Int) M  ?_)
  show X 4 [.inr 1, .inl v1] [.inl (jx_b ((0 : Int) ≤ v1 ∧ v1 ≤ (19 : Int)))] M
  refine jk_zneB (pc := 4) hX 7 rfl (fun q13 => ?_) (fun q14 => ?_)
  · have h1 := h.1 q13
    refine jk_aload (pc := 7) hX 0 rfl rfl ?_
    refine jk_cv (pc := 8) hX 114 0 7 rfl 1 [] [] rfl rfl rfl (Nat.le_of_ble_eq_true rfl) (jx_mono (fun r M4 hr => ?_) h1)
    obtain ⟨rfl, h5⟩ := hr
    show X 9 [.inr 1, .inl v1] [] M4
    refine jk_load (pc := 9) hX 1 rfl rfl ?_
    refine jk_aload (pc := 10) hX 0 rfl rfl ?_
    refine jk_getR (pc := 11) hX 7 8 rfl rfl (r := 5) rfl ?_
    refine jk_const (pc := 12) hX 6 rfl (by decide) ?_
    refine jk_iald (pc := 13) hX 119 rfl rfl (by decide) ?_
    refine jk_cge (pc := 14) hX 22 rfl (fun q11 => ?_) (fun q12 => ?_)
    · have h6 := h5.1 q11
      refine jk_const (pc := 22) hX (-9) rfl (by decide) ?_
      exact jk_iret (pc := 23) hX rfl h6
    · have h7 := h5.2 q12
      obtain ⟨⟨g8, g9⟩, h10⟩ := h7
      refine jk_aload (pc := 15) hX 0 rfl rfl ?_
      refine jk_getR (pc := 16) hX 7 9 rfl rfl (r := 6) rfl ?_
      refine jk_const (pc := 17) hX 120 rfl (by decide) ?_
      refine jk_load (pc := 18) hX 1 rfl rfl ?_
      refine jk_add (pc := 19) hX rfl g8 ?_
      refine jk_iald (pc := 20) hX 2380 rfl rfl g9 ?_
      refine jk_goto (pc := 21) hX 23 rfl ?_
      exact jk_iret (pc := 23) hX rfl h10
  · have h2 := h.2 q14
    refine jk_const (pc := 5) hX (-1) rfl (by decide) ?_
    exact jk_iret (pc := 6) hX rfl h2
set_option maxHeartbeats 4000000 in
theorem bk_F_bestCount_0 {d : Nat} {K : jxK} {X : jxX} (hX : jx_clo jx_G2 (d + 5) (jx_call jx_G2 jx_T (d + 5)) kc_F_bestCount K X) (M : jxM)
    (h : jx_call jx_G2 jx_T (d + 5) 114 [.inr 1] M (fun r M2 => r = none ∧ (((M2 6 6) ≠ 0 → K (some (.inl (M2 10 6))) M2) ∧ ((M2 6 6) = 0 → K (some (.inl 0)) M2)))) :
    X 0 [.inr 1] [] M := by
  refine jk_aload (pc := 0) hX 0 rfl rfl ?_
  refine jk_cv (pc := 1) hX 114 0 7 rfl 1 [] [] rfl rfl rfl (Nat.le_of_ble_eq_true rfl) (jx_mono (fun r M2 hr => ?_) h)
  obtain ⟨rfl, h3⟩ := hr
  show X 2 [.inr 1] [] M2
  refine jk_aload (pc := 2) hX 0 rfl rfl ?_
  refine jk_getR (pc := 3) hX 7 8 rfl rfl (r := 5) rfl ?_
  refine jk_const (pc := 4) hX 6 rfl (by decide) ?_
  refine jk_iald (pc := 5) hX 119 rfl rfl (by decide) ?_
  refine jk_zne (pc := 6) hX 9 rfl (fun q6 => ?_) (fun q7 => ?_)
  · have h4 := h3.1 q6
    refine jk_aload (pc := 9) hX 0 rfl rfl ?_
    refine jk_getR (pc := 10) hX 7 12 rfl rfl (r := 9) rfl ?_
    refine jk_const (pc := 11) hX 6 rfl (by decide) ?_
    refine jk_iald (pc := 12) hX 119 rfl rfl (by decide) ?_
    exact jk_iret (pc := 13) hX rfl h4
  · have h5 := h3.2 q7
    refine jk_const (pc := 7) hX 0 rfl (by decide) ?_
    refine jk_goto (pc := 8) hX 13 rfl ?_
    exact jk_iret (pc := 13) hX rfl h5
set_option maxHeartbeats 4000000 in
theorem bk_C_segmentCount_0 {d : Nat} {K : jxK} {X : jxX} (hX : jx_clo jx_G1 (d + 6) (jx_call jx_G1 jx_T (d + 6)) kc_C_segmentCount K X) (v1 : Int) (M : jxM)
    (h : ((¬ (v1 < 0 ∨ 19 < v1) → jx_call jx_G1 jx_T (d + 6) 73 [.inr 1] M (fun r M4 => r = some (.inr 90) ∧ ((v1 < (M4 93 6) → jx_call jx_G1 jx_T (d + 6) 37 [.inr 90, .inl v1] M4 (fun r M9 => r = none ∧ K (some (.inl (M9 90 13))) M9)) ∧ (¬ (v1 < (M4 93 6)) → K (some (.inl (-9))) M4)))) ∧ (v1 < 0 ∨ 19 < v1 → K (some (.inl (-1))) M))) :
    X 0 [.inr 1, .inl v1, .inr 0] [] M := by
  refine jk_load (pc := 0) hX 1 rfl rfl ?_
  refine jk_cs (pc := 1) hX 78 1 rfl [.inl v1] [] rfl rfl (Nat.le_of_ble_eq_true rfl) (sp_C_isNoRank (d + 4) v1 M  ?_)
  show X 2 [.inr 1, .inl v1, .inr 0] [.inl (jx_b (v1 < 0 ∨ 19 < v1))] M
  refine jk_zeqB (pc := 2) hX 5 rfl (fun q13 => ?_) (fun q14 => ?_)
  · have h1 := h.1 q13
    refine jk_aload (pc := 5) hX 0 rfl rfl ?_
    refine jk_cv (pc := 6) hX 73 0 6 rfl 1 [] [] rfl rfl rfl (Nat.le_of_ble_eq_true rfl) (jx_mono (fun r M4 hr => ?_) h1)
    obtain ⟨rfl, h5⟩ := hr
    show X 7 [.inr 1, .inl v1, .inr 0] [.inr 90] M4
    refine jk_astore (pc := 7) hX 2 rfl (Nat.le_of_ble_eq_true rfl) (ls' := [.inr 1, .inl v1, .inr 90]) rfl ?_
    refine jk_aload (pc := 8) hX 2 rfl rfl ?_
    refine jk_load (pc := 9) hX 1 rfl rfl ?_
    refine jk_cv (pc := 10) hX 35 1 4 rfl 90 [.inl v1] [] rfl rfl rfl (Nat.le_of_ble_eq_true rfl) (sp_R_hasRank (d + 5) v1 M4  ?_)
    show X 11 [.inr 1, .inl v1, .inr 90] [.inl (jx_b (v1 < (M4 93 6)))] M4
    refine jk_zneB (pc := 11) hX 14 rfl (fun q11 => ?_) (fun q12 => ?_)
    · have h6 := h5.1 q11
      refine jk_aload (pc := 14) hX 2 rfl rfl ?_
      refine jk_load (pc := 15) hX 1 rfl rfl ?_
      refine jk_cv (pc := 16) hX 37 1 4 rfl 90 [.inl v1] [] rfl rfl rfl (Nat.le_of_ble_eq_true rfl) (jx_mono (fun r M9 hr => ?_) h6)
      obtain ⟨rfl, h10⟩ := hr
      show X 17 [.inr 1, .inl v1, .inr 90] [] M9
      refine jk_aload (pc := 17) hX 2 rfl rfl ?_
      refine jk_getI (pc := 18) hX 4 13 rfl rfl rfl ?_
      exact jk_iret (pc := 19) hX rfl h10
    · have h7 := h5.2 q12
      refine jk_const (pc := 12) hX (-9) rfl (by decide) ?_
      exact jk_iret (pc := 13) hX rfl h7
  · have h2 := h.2 q14
    refine jk_const (pc := 3) hX (-1) rfl (by decide) ?_
    exact jk_iret (pc := 4) hX rfl h2
set_option maxHeartbeats 4000000 in
theorem bk_C_findSegment_0 {d : Nat} {K : jxK} {X : jxX} (hX : jx_clo jx_G1 (d + 6) (jx_call jx_G1 jx_T (d + 6)) kc_C_findSegment K X) (v1 : Int) (v2 : Int) (M : jxM)
    (h : jx_call jx_G1 jx_T (d + 6) 73 [.inr 1] M (fun r M2 => r = some (.inr 90) ∧ ((v1 < (M2 93 6) → jx_call jx_G1 jx_T (d + 6) 37 [.inr 90, .inl v1] M2 (fun r M7 => r = none ∧ (((M7 90 13) ≤ v2 → K (some (.inl 0)) M7) ∧ (v2 < (M7 90 13) → K (some (.inl 1)) M7)))) ∧ (¬ (v1 < (M2 93 6)) → K (some (.inl 0)) M2)))) :
    X 0 [.inr 1, .inl v1, .inl v2, .inr 0] [] M := by
  refine jk_aload (pc := 0) hX 0 rfl rfl ?_
  refine jk_cv (pc := 1) hX 73 0 6 rfl 1 [] [] rfl rfl rfl (Nat.le_of_ble_eq_true rfl) (jx_mono (fun r M2 hr => ?_) h)
  obtain ⟨rfl, h3⟩ := hr
  show X 2 [.inr 1, .inl v1, .inl v2, .inr 0] [.inr 90] M2
  refine jk_astore (pc := 2) hX 3 rfl (Nat.le_of_ble_eq_true rfl) (ls' := [.inr 1, .inl v1, .inl v2, .inr 90]) rfl ?_
  refine jk_aload (pc := 3) hX 3 rfl rfl ?_
  refine jk_load (pc := 4) hX 1 rfl rfl ?_
  refine jk_cv (pc := 5) hX 35 1 4 rfl 90 [.inl v1] [] rfl rfl rfl (Nat.le_of_ble_eq_true rfl) (sp_R_hasRank (d + 5) v1 M2  ?_)
  show X 6 [.inr 1, .inl v1, .inl v2, .inr 90] [.inl (jx_b (v1 < (M2 93 6)))] M2
  refine jk_zneB (pc := 6) hX 9 rfl (fun q13 => ?_) (fun q14 => ?_)
  · have h4 := h3.1 q13
    refine jk_aload (pc := 9) hX 3 rfl rfl ?_
    refine jk_load (pc := 10) hX 1 rfl rfl ?_
    refine jk_cv (pc := 11) hX 37 1 4 rfl 90 [.inl v1] [] rfl rfl rfl (Nat.le_of_ble_eq_true rfl) (jx_mono (fun r M7 hr => ?_) h4)
    obtain ⟨rfl, h8⟩ := hr
    show X 12 [.inr 1, .inl v1, .inl v2, .inr 90] [] M7
    refine jk_load (pc := 12) hX 2 rfl rfl ?_
    refine jk_aload (pc := 13) hX 3 rfl rfl ?_
    refine jk_getI (pc := 14) hX 4 13 rfl rfl rfl ?_
    refine jk_cge (pc := 15) hX 18 rfl (fun q11 => ?_) (fun q12 => ?_)
    · have h9 := h8.1 q11
      refine jk_const (pc := 18) hX 0 rfl (by decide) ?_
      exact jk_zret (pc := 19) hX rfl (Or.inl rfl) h9
    · have h10 := h8.2 q12
      refine jk_const (pc := 16) hX 1 rfl (by decide) ?_
      refine jk_goto (pc := 17) hX 19 rfl ?_
      exact jk_zret (pc := 19) hX rfl (Or.inr rfl) h10
  · have h5 := h3.2 q14
    refine jk_const (pc := 7) hX 0 rfl (by decide) ?_
    exact jk_zret (pc := 8) hX rfl (Or.inl rfl) h5
set_option maxHeartbeats 4000000 in
theorem bk_C_segmentStart_0 {d : Nat} {K : jxK} {X : jxX} (hX : jx_clo jx_G1 (d + 7) (jx_call jx_G1 jx_T (d + 7)) kc_C_segmentStart K X) (v1 : Int) (v2 : Int) (M : jxM)
    (h : ((v1 < 0 ∨ 19 < v1 → K (some (.inl (-1))) M) ∧ (¬ (v1 < 0 ∨ 19 < v1) → ((0 ≤ v2 → jx_call jx_G1 jx_T (d + 7) 74 [.inr 1, .inl v1, .inl v2] M (fun r M6 => ∃ r5 : Int, r = some (.inl r5) ∧ ((r5 = 0 → K (some (.inl (-9))) M6) ∧ (r5 ≠ 0 → ((0 ≤ v2 ∧ v2 < 16)) ∧ K (some (.inl (M6 100 v2))) M6)))) ∧ (v2 < 0 → K (some (.inl (-1))) M))))) :
    X 0 [.inr 1, .inl v1, .inl v2] [] M := by
  refine jk_load (pc := 0) hX 1 rfl rfl ?_
  refine jk_cs (pc := 1) hX 78 1 rfl [.inl v1] [] rfl rfl (Nat.le_of_ble_eq_true rfl) (sp_C_isNoRank (d + 5) v1 M  ?_)
  show X 2 [.inr 1, .inl v1, .inl v2] [.inl (jx_b (v1 < 0 ∨ 19 < v1))] M
  refine jk_zneB (pc := 2) hX 5 rfl (fun q16 => ?_) (fun q17 => ?_)
  · have h1 := h.1 q16
    refine jk_const (pc := 5) hX (-1) rfl (by decide) ?_
    exact jk_iret (pc := 6) hX rfl h1
  · have h2 := h.2 q17
    refine jk_load (pc := 3) hX 2 rfl rfl ?_
    refine jk_zge (pc := 4) hX 7 rfl (fun q14 => ?_) (fun q15 => ?_)
    · have h3 := h2.1 q14
      refine jk_aload (pc := 7) hX 0 rfl rfl ?_
      refine jk_load (pc := 8) hX 1 rfl rfl ?_
      refine jk_load (pc := 9) hX 2 rfl rfl ?_
      refine jk_cv (pc := 10) hX 74 2 6 rfl 1 [.inl v1, .inl v2] [] rfl rfl rfl (Nat.le_of_ble_eq_true rfl) (jx_mono (fun r M6 hr => ?_) h3)
      obtain ⟨r5, rfl, h7⟩ := hr
      show X 11 [.inr 1, .inl v1, .inl v2] [.inl r5] M6
      refine jk_zeq (pc := 11) hX 18 rfl (fun q12 => ?_) (fun q13 => ?_)
      · have h8 := h7.1 q12
        refine jk_const (pc := 18) hX (-9) rfl (by decide) ?_
        exact jk_iret (pc := 19) hX rfl h8
      · have h9 := h7.2 q13
        obtain ⟨g10, h11⟩ := h9
        refine jk_aload (pc := 12) hX 0 rfl rfl ?_
        refine jk_getR (pc := 13) hX 6 4 rfl rfl (r := 89) rfl ?_
        refine jk_getR (pc := 14) hX 4 11 rfl rfl (r := 99) rfl ?_
        refine jk_load (pc := 15) hX 2 rfl rfl ?_
        refine jk_iald (pc := 16) hX 16 rfl rfl g10 ?_
        refine jk_goto (pc := 17) hX 19 rfl ?_
        exact jk_iret (pc := 19) hX rfl h11
    · have h4 := h2.2 q15
      refine jk_const (pc := 5) hX (-1) rfl (by decide) ?_
      exact jk_iret (pc := 6) hX rfl h4
set_option maxHeartbeats 4000000 in
theorem bk_C_segmentEntry_0 {d : Nat} {K : jxK} {X : jxX} (hX : jx_clo jx_G1 (d + 7) (jx_call jx_G1 jx_T (d + 7)) kc_C_segmentEntry K X) (v1 : Int) (v2 : Int) (M : jxM)
    (h : ((v1 < 0 ∨ 19 < v1 → K (some (.inl (-1))) M) ∧ (¬ (v1 < 0 ∨ 19 < v1) → ((0 ≤ v2 → jx_call jx_G1 jx_T (d + 7) 74 [.inr 1, .inl v1, .inl v2] M (fun r M6 => ∃ r5 : Int, r = some (.inl r5) ∧ ((r5 = 0 → K (some (.inl (-9))) M6) ∧ (r5 ≠ 0 → ((0 ≤ v2 ∧ v2 < 16)) ∧ K (some (.inl (M6 101 v2))) M6)))) ∧ (v2 < 0 → K (some (.inl (-1))) M))))) :
    X 0 [.inr 1, .inl v1, .inl v2] [] M := by
  refine jk_load (pc := 0) hX 1 rfl rfl ?_
  refine jk_cs (pc := 1) hX 78 1 rfl [.inl v1] [] rfl rfl (Nat.le_of_ble_eq_true rfl) (sp_C_isNoRank (d + 5) v1 M  ?_)
  show X 2 [.inr 1, .inl v1, .inl v2] [.inl (jx_b (v1 < 0 ∨ 19 < v1))] M
  refine jk_zneB (pc := 2) hX 5 rfl (fun q16 => ?_) (fun q17 => ?_)
  · have h1 := h.1 q16
    refine jk_const (pc := 5) hX (-1) rfl (by decide) ?_
    exact jk_iret (pc := 6) hX rfl h1
  · have h2 := h.2 q17
    refine jk_load (pc := 3) hX 2 rfl rfl ?_
    refine jk_zge (pc := 4) hX 7 rfl (fun q14 => ?_) (fun q15 => ?_)
    · have h3 := h2.1 q14
      refine jk_aload (pc := 7) hX 0 rfl rfl ?_
      refine jk_load (pc := 8) hX 1 rfl rfl ?_
      refine jk_load (pc := 9) hX 2 rfl rfl ?_
      refine jk_cv (pc := 10) hX 74 2 6 rfl 1 [.inl v1, .inl v2] [] rfl rfl rfl (Nat.le_of_ble_eq_true rfl) (jx_mono (fun r M6 hr => ?_) h3)
      obtain ⟨r5, rfl, h7⟩ := hr
      show X 11 [.inr 1, .inl v1, .inl v2] [.inl r5] M6
      refine jk_zeq (pc := 11) hX 18 rfl (fun q12 => ?_) (fun q13 => ?_)
      · have h8 := h7.1 q12
        refine jk_const (pc := 18) hX (-9) rfl (by decide) ?_
        exact jk_iret (pc := 19) hX rfl h8
      · have h9 := h7.2 q13
        obtain ⟨g10, h11⟩ := h9
        refine jk_aload (pc := 12) hX 0 rfl rfl ?_
        refine jk_getR (pc := 13) hX 6 4 rfl rfl (r := 89) rfl ?_
        refine jk_getR (pc := 14) hX 4 12 rfl rfl (r := 100) rfl ?_
        refine jk_load (pc := 15) hX 2 rfl rfl ?_
        refine jk_iald (pc := 16) hX 16 rfl rfl g10 ?_
        refine jk_goto (pc := 17) hX 19 rfl ?_
        exact jk_iret (pc := 19) hX rfl h11
    · have h4 := h2.2 q15
      refine jk_const (pc := 5) hX (-1) rfl (by decide) ?_
      exact jk_iret (pc := 6) hX rfl h4
set_option maxHeartbeats 4000000 in
theorem bk_F_segmentCount_0 {d : Nat} {K : jxK} {X : jxX} (hX : jx_clo jx_G2 (d + 6) (jx_call jx_G2 jx_T (d + 6)) kc_F_segmentCount K X) (v1 : Int) (M : jxM)
    (h : (((0 : Int) ≤ v1 ∧ v1 ≤ (19 : Int) → jx_call jx_G2 jx_T (d + 6) 117 [.inr 1, .inl v1] M (fun r M4 => ∃ r3 : Int, r = some (.inl r3) ∧ ((r3 = 0 → K (some (.inl (-9))) M4) ∧ (r3 ≠ 0 → K (some (.inl (M4 1 14))) M4)))) ∧ (¬ ((0 : Int) ≤ v1 ∧ v1 ≤ (19 : Int)) → K (some (.inl (-1))) M))) :
    X 0 [.inr 1, .inl v1] [] M := by
  refine jk_load (pc := 0) hX 1 rfl rfl ?_
  refine jk_const (pc := 1) hX 0 rfl (by decide) ?_
  refine jk_const (pc := 2) hX 19 rfl (by decide) ?_
  refine jk_cs (pc := 3) hX 80 3 rfl [.inl v1, .inl 0, .inl 19] [] rfl rfl (Nat.le_of_ble_eq_true rfl) (sp_F_in (d + 5) v1 (0 : Int) (19 : Int) M  ?_)
  show X 4 [.inr 1, .inl v1] [.inl (jx_b ((0 : Int) ≤ v1 ∧ v1 ≤ (19 : Int)))] M
  refine jk_zneB (pc := 4) hX 7 rfl (fun q10 => ?_) (fun q11 => ?_)
  · have h1 := h.1 q10
    refine jk_aload (pc := 7) hX 0 rfl rfl ?_
    refine jk_load (pc := 8) hX 1 rfl rfl ?_
    refine jk_cv (pc := 9) hX 117 1 7 rfl 1 [.inl v1] [] rfl rfl rfl (Nat.le_of_ble_eq_true rfl) (jx_mono (fun r M4 hr => ?_) h1)
    obtain ⟨r3, rfl, h5⟩ := hr
    show X 10 [.inr 1, .inl v1] [.inl r3] M4
    refine jk_zeq (pc := 10) hX 14 rfl (fun q8 => ?_) (fun q9 => ?_)
    · have h6 := h5.1 q8
      refine jk_const (pc := 14) hX (-9) rfl (by decide) ?_
      exact jk_iret (pc := 15) hX rfl h6
    · have h7 := h5.2 q9
      refine jk_aload (pc := 11) hX 0 rfl rfl ?_
      refine jk_getI (pc := 12) hX 7 14 rfl rfl rfl ?_
      refine jk_goto (pc := 13) hX 15 rfl ?_
      exact jk_iret (pc := 15) hX rfl h7
  · have h2 := h.2 q11
    refine jk_const (pc := 5) hX (-1) rfl (by decide) ?_
    exact jk_iret (pc := 6) hX rfl h2
set_option maxHeartbeats 4000000 in
theorem bk_F_segmentStart_0 {d : Nat} {K : jxK} {X : jxX} (hX : jx_clo jx_G2 (d + 6) (jx_call jx_G2 jx_T (d + 6)) kc_F_segmentStart K X) (v1 : Int) (v2 : Int) (M : jxM)
    (h : ((¬ ((0 : Int) ≤ v1 ∧ v1 ≤ (19 : Int)) → K (some (.inl (-1))) M) ∧ ((0 : Int) ≤ v1 ∧ v1 ≤ (19 : Int) → ((0 ≤ v2 → jx_call jx_G2 jx_T (d + 6) 117 [.inr 1, .inl v1] M (fun r M6 => ∃ r5 : Int, r = some (.inl r5) ∧ ((r5 = 0 → K (some (.inl (-9))) M6) ∧ (r5 ≠ 0 → (((M6 1 14) ≤ v2 → K (some (.inl (-9))) M6) ∧ (v2 < (M6 1 14) → ((0 ≤ v2 ∧ v2 < 16)) ∧ K (some (.inl (M6 12 v2))) M6)))))) ∧ (v2 < 0 → K (some (.inl (-1))) M))))) :
    X 0 [.inr 1, .inl v1, .inl v2] [] M := by
  refine jk_load (pc := 0) hX 1 rfl rfl ?_
  refine jk_const (pc := 1) hX 0 rfl (by decide) ?_
  refine jk_const (pc := 2) hX 19 rfl (by decide) ?_
  refine jk_cs (pc := 3) hX 80 3 rfl [.inl v1, .inl 0, .inl 19] [] rfl rfl (Nat.le_of_ble_eq_true rfl) (sp_F_in (d + 5) v1 (0 : Int) (19 : Int) M  ?_)
  show X 4 [.inr 1, .inl v1, .inl v2] [.inl (jx_b ((0 : Int) ≤ v1 ∧ v1 ≤ (19 : Int)))] M
  refine jk_zeqB (pc := 4) hX 7 rfl (fun q20 => ?_) (fun q21 => ?_)
  · have h1 := h.1 q20
    refine jk_const (pc := 7) hX (-1) rfl (by decide) ?_
    exact jk_iret (pc := 8) hX rfl h1
  · have h2 := h.2 q21
    refine jk_load (pc := 5) hX 2 rfl rfl ?_
    refine jk_zge (pc := 6) hX 9 rfl (fun q18 => ?_) (fun q19 => ?_)
    · have h3 := h2.1 q18
      refine jk_aload (pc := 9) hX 0 rfl rfl ?_
      refine jk_load (pc := 10) hX 1 rfl rfl ?_
      refine jk_cv (pc := 11) hX 117 1 7 rfl 1 [.inl v1] [] rfl rfl rfl (Nat.le_of_ble_eq_true rfl) (jx_mono (fun r M6 hr => ?_) h3)
      obtain ⟨r5, rfl, h7⟩ := hr
      show X 12 [.inr 1, .inl v1, .inl v2] [.inl r5] M6
      refine jk_zeq (pc := 12) hX 22 rfl (fun q16 => ?_) (fun q17 => ?_)
      · have h8 := h7.1 q16
        refine jk_const (pc := 22) hX (-9) rfl (by decide) ?_
        exact jk_iret (pc := 23) hX rfl h8
      · have h9 := h7.2 q17
        refine jk_load (pc := 13) hX 2 rfl rfl ?_
        refine jk_aload (pc := 14) hX 0 rfl rfl ?_
        refine jk_getI (pc := 15) hX 7 14 rfl rfl rfl ?_
        refine jk_cge (pc := 16) hX 22 rfl (fun q14 => ?_) (fun q15 => ?_)
        · have h10 := h9.1 q14
          refine jk_const (pc := 22) hX (-9) rfl (by decide) ?_
          exact jk_iret (pc := 23) hX rfl h10
        · have h11 := h9.2 q15
          obtain ⟨g12, h13⟩ := h11
          refine jk_aload (pc := 17) hX 0 rfl rfl ?_
          refine jk_getR (pc := 18) hX 7 15 rfl rfl (r := 11) rfl ?_
          refine jk_load (pc := 19) hX 2 rfl rfl ?_
          refine jk_iald (pc := 20) hX 16 rfl rfl g12 ?_
          refine jk_goto (pc := 21) hX 23 rfl ?_
          exact jk_iret (pc := 23) hX rfl h13
    · have h4 := h2.2 q19
      refine jk_const (pc := 7) hX (-1) rfl (by decide) ?_
      exact jk_iret (pc := 8) hX rfl h4
set_option maxHeartbeats 4000000 in
theorem bk_F_segmentEntry_0 {d : Nat} {K : jxK} {X : jxX} (hX : jx_clo jx_G2 (d + 6) (jx_call jx_G2 jx_T (d + 6)) kc_F_segmentEntry K X) (v1 : Int) (v2 : Int) (M : jxM)
    (h : ((¬ ((0 : Int) ≤ v1 ∧ v1 ≤ (19 : Int)) → K (some (.inl (-1))) M) ∧ ((0 : Int) ≤ v1 ∧ v1 ≤ (19 : Int) → ((0 ≤ v2 → jx_call jx_G2 jx_T (d + 6) 117 [.inr 1, .inl v1] M (fun r M6 => ∃ r5 : Int, r = some (.inl r5) ∧ ((r5 = 0 → K (some (.inl (-9))) M6) ∧ (r5 ≠ 0 → (((M6 1 14) ≤ v2 → K (some (.inl (-9))) M6) ∧ (v2 < (M6 1 14) → ((0 ≤ v2 ∧ v2 < 16)) ∧ K (some (.inl (M6 13 v2))) M6)))))) ∧ (v2 < 0 → K (some (.inl (-1))) M))))) :
    X 0 [.inr 1, .inl v1, .inl v2] [] M := by
  refine jk_load (pc := 0) hX 1 rfl rfl ?_
  refine jk_const (pc := 1) hX 0 rfl (by decide) ?_
  refine jk_const (pc := 2) hX 19 rfl (by decide) ?_
  refine jk_cs (pc := 3) hX 80 3 rfl [.inl v1, .inl 0, .inl 19] [] rfl rfl (Nat.le_of_ble_eq_true rfl) (sp_F_in (d + 5) v1 (0 : Int) (19 : Int) M  ?_)
  show X 4 [.inr 1, .inl v1, .inl v2] [.inl (jx_b ((0 : Int) ≤ v1 ∧ v1 ≤ (19 : Int)))] M
  refine jk_zeqB (pc := 4) hX 7 rfl (fun q20 => ?_) (fun q21 => ?_)
  · have h1 := h.1 q20
    refine jk_const (pc := 7) hX (-1) rfl (by decide) ?_
    exact jk_iret (pc := 8) hX rfl h1
  · have h2 := h.2 q21
    refine jk_load (pc := 5) hX 2 rfl rfl ?_
    refine jk_zge (pc := 6) hX 9 rfl (fun q18 => ?_) (fun q19 => ?_)
    · have h3 := h2.1 q18
      refine jk_aload (pc := 9) hX 0 rfl rfl ?_
      refine jk_load (pc := 10) hX 1 rfl rfl ?_
      refine jk_cv (pc := 11) hX 117 1 7 rfl 1 [.inl v1] [] rfl rfl rfl (Nat.le_of_ble_eq_true rfl) (jx_mono (fun r M6 hr => ?_) h3)
      obtain ⟨r5, rfl, h7⟩ := hr
      show X 12 [.inr 1, .inl v1, .inl v2] [.inl r5] M6
      refine jk_zeq (pc := 12) hX 22 rfl (fun q16 => ?_) (fun q17 => ?_)
      · have h8 := h7.1 q16
        refine jk_const (pc := 22) hX (-9) rfl (by decide) ?_
        exact jk_iret (pc := 23) hX rfl h8
      · have h9 := h7.2 q17
        refine jk_load (pc := 13) hX 2 rfl rfl ?_
        refine jk_aload (pc := 14) hX 0 rfl rfl ?_
        refine jk_getI (pc := 15) hX 7 14 rfl rfl rfl ?_
        refine jk_cge (pc := 16) hX 22 rfl (fun q14 => ?_) (fun q15 => ?_)
        · have h10 := h9.1 q14
          refine jk_const (pc := 22) hX (-9) rfl (by decide) ?_
          exact jk_iret (pc := 23) hX rfl h10
        · have h11 := h9.2 q15
          obtain ⟨g12, h13⟩ := h11
          refine jk_aload (pc := 17) hX 0 rfl rfl ?_
          refine jk_getR (pc := 18) hX 7 16 rfl rfl (r := 12) rfl ?_
          refine jk_load (pc := 19) hX 2 rfl rfl ?_
          refine jk_iald (pc := 20) hX 16 rfl rfl g12 ?_
          refine jk_goto (pc := 21) hX 23 rfl ?_
          exact jk_iret (pc := 23) hX rfl h13
    · have h4 := h2.2 q19
      refine jk_const (pc := 7) hX (-1) rfl (by decide) ?_
      exact jk_iret (pc := 8) hX rfl h4
set_option maxHeartbeats 4000000 in
theorem bk_C_choose_0 {d : Nat} {K : jxK} {X : jxX} (hX : jx_clo jx_G1 (d + 6) (jx_call jx_G1 jx_T (d + 6)) kc_C_choose K X) (v1 : Int) (M : jxM)
    (h : ((¬ (v1 < 0 ∨ 19 < v1) → jx_call jx_G1 jx_T (d + 6) 73 [.inr 1] M (fun r M4 => r = some (.inr 90) ∧ ((v1 < (M4 93 6) → jx_call jx_G1 jx_T (d + 6) 37 [.inr 90, .inl v1] M4 (fun r M9 => r = none ∧ jx_call jx_G1 jx_T (d + 6) 72 [.inr 1] M9 (fun r M12 => r = none ∧ X 23 [.inr 1, .inl v1, .inr 90, .inl 0, .inl 0] [] M12))) ∧ (¬ (v1 < (M4 93 6)) → K (some (.inl (-2))) M4)))) ∧ (v1 < 0 ∨ 19 < v1 → K (some (.inl (-1))) M))) :
    X 0 [.inr 1, .inl v1, .inr 0, .inr 0, .inr 0] [] M := by
  refine jk_load (pc := 0) hX 1 rfl rfl ?_
  refine jk_cs (pc := 1) hX 78 1 rfl [.inl v1] [] rfl rfl (Nat.le_of_ble_eq_true rfl) (sp_C_isNoRank (d + 4) v1 M  ?_)
  show X 2 [.inr 1, .inl v1, .inr 0, .inr 0, .inr 0] [.inl (jx_b (v1 < 0 ∨ 19 < v1))] M
  refine jk_zeqB (pc := 2) hX 5 rfl (fun q16 => ?_) (fun q17 => ?_)
  · have h1 := h.1 q16
    refine jk_aload (pc := 5) hX 0 rfl rfl ?_
    refine jk_cv (pc := 6) hX 73 0 6 rfl 1 [] [] rfl rfl rfl (Nat.le_of_ble_eq_true rfl) (jx_mono (fun r M4 hr => ?_) h1)
    obtain ⟨rfl, h5⟩ := hr
    show X 7 [.inr 1, .inl v1, .inr 0, .inr 0, .inr 0] [.inr 90] M4
    refine jk_astore (pc := 7) hX 2 rfl (Nat.le_of_ble_eq_true rfl) (ls' := [.inr 1, .inl v1, .inr 90, .inr 0, .inr 0]) rfl ?_
    refine jk_aload (pc := 8) hX 2 rfl rfl ?_
    refine jk_load (pc := 9) hX 1 rfl rfl ?_
    refine jk_cv (pc := 10) hX 35 1 4 rfl 90 [.inl v1] [] rfl rfl rfl (Nat.le_of_ble_eq_true rfl) (sp_R_hasRank (d + 5) v1 M4  ?_)
    show X 11 [.inr 1, .inl v1, .inr 90, .inr 0, .inr 0] [.inl (jx_b (v1 < (M4 93 6)))] M4
    refine jk_zneB (pc := 11) hX 14 rfl (fun q14 => ?_) (fun q15 => ?_)
    · have h6 := h5.1 q14
      refine jk_aload (pc := 14) hX 2 rfl rfl ?_
      refine jk_load (pc := 15) hX 1 rfl rfl ?_
      refine jk_cv (pc := 16) hX 37 1 4 rfl 90 [.inl v1] [] rfl rfl rfl (Nat.le_of_ble_eq_true rfl) (jx_mono (fun r M9 hr => ?_) h6)
      obtain ⟨rfl, h10⟩ := hr
      show X 17 [.inr 1, .inl v1, .inr 90, .inr 0, .inr 0] [] M9
      refine jk_aload (pc := 17) hX 0 rfl rfl ?_
      refine jk_cv (pc := 18) hX 72 0 6 rfl 1 [] [] rfl rfl rfl (Nat.le_of_ble_eq_true rfl) (jx_mono (fun r M12 hr => ?_) h10)
      obtain ⟨rfl, h13⟩ := hr
      show X 19 [.inr 1, .inl v1, .inr 90, .inr 0, .inr 0] [] M12
      refine jk_const (pc := 19) hX 0 rfl (by decide) ?_
      refine jk_store (pc := 20) hX 3 rfl (Nat.le_of_ble_eq_true rfl) (ls' := [.inr 1, .inl v1, .inr 90, .inl 0, .inr 0]) rfl ?_
      refine jk_const (pc := 21) hX 0 rfl (by decide) ?_
      refine jk_store (pc := 22) hX 4 rfl (Nat.le_of_ble_eq_true rfl) (ls' := [.inr 1, .inl v1, .inr 90, .inl 0, .inl 0]) rfl ?_
      exact h13
    · have h7 := h5.2 q15
      refine jk_const (pc := 12) hX (-2) rfl (by decide) ?_
      exact jk_iret (pc := 13) hX rfl h7
  · have h2 := h.2 q17
    refine jk_const (pc := 3) hX (-1) rfl (by decide) ?_
    exact jk_iret (pc := 4) hX rfl h2
set_option maxHeartbeats 4000000 in
theorem bk_C_choose_23 {d : Nat} {K : jxK} {X : jxX} (hX : jx_clo jx_G1 (d + 6) (jx_call jx_G1 jx_T (d + 6)) kc_C_choose K X) (v1 : Int) (v3 : Int) (v4 : Int) (M : jxM)
    (h : (((M 5 6) ≤ v4 → K (some (.inl v3)) M) ∧ (v4 < (M 5 6) → (((M 90 13) ≤ 16)) ∧ ((¬ (r_trail M v4) → (((-2147483648 : Int) ≤ v4 + 1 ∧ v4 + 1 ≤ 2147483647)) ∧ X 23 [.inr 1, .inl v1, .inr 90, .inl v3, .inl (v4 + 1)] [] M) ∧ (r_trail M v4 → jx_call jx_G1 jx_T (d + 6) 7 [.inr 5, .inl v4] M (fun r M9 => ∃ r8 : Int, r = some (.inl r8) ∧ ((r8 = 0 → (((-2147483648 : Int) ≤ v4 + 1 ∧ v4 + 1 ≤ 2147483647)) ∧ X 23 [.inr 1, .inl v1, .inr 90, .inl v3, .inl (v4 + 1)] [] M9) ∧ (r8 ≠ 0 → (((-2147483648 : Int) ≤ v3 + 1 ∧ v3 + 1 ≤ 2147483647) ∧ ((-2147483648 : Int) ≤ v4 + 1 ∧ v4 + 1 ≤ 2147483647)) ∧ X 23 [.inr 1, .inl v1, .inr 90, .inl (v3 + 1), .inl (v4 + 1)] [] M9)))))))) :
    X 23 [.inr 1, .inl v1, .inr 90, .inl v3, .inl v4] [] M := by
  refine jk_load (pc := 23) hX 4 rfl rfl ?_
  refine jk_aload (pc := 24) hX 0 rfl rfl ?_
  refine jk_getR (pc := 25) hX 6 1 rfl rfl (r := 3) rfl ?_
  refine jk_getR (pc := 26) hX 3 0 rfl rfl (r := 4) rfl ?_
  refine jk_getI (pc := 27) hX 0 6 rfl rfl rfl ?_
  refine jk_cge (pc := 28) hX 42 rfl (fun q23 => ?_) (fun q24 => ?_)
  · have h1 := h.1 q23
    refine jk_load (pc := 42) hX 3 rfl rfl ?_
    exact jk_iret (pc := 43) hX rfl h1
  · have h2 := h.2 q24
    obtain ⟨g3, h22⟩ := h2
    refine jk_aload (pc := 29) hX 2 rfl rfl ?_
    refine jk_load (pc := 30) hX 4 rfl rfl ?_
    refine jk_cv (pc := 31) hX 38 1 4 rfl 90 [.inl v4] [] rfl rfl rfl (Nat.le_of_ble_eq_true rfl) (sp_R_trailHolds (d + 5) v4 M g3 ?_)
    show X 32 [.inr 1, .inl v1, .inr 90, .inl v3, .inl v4] [.inl (jx_b (r_trail M v4))] M
    refine jk_zeqB (pc := 32) hX 40 rfl (fun q20 => ?_) (fun q21 => ?_)
    · have h4 := h22.1 q20
      obtain ⟨g6, h7⟩ := h4
      refine jk_iinc (pc := 40) hX 4 1 rfl rfl g6 (ls' := [.inr 1, .inl v1, .inr 90, .inl v3, .inl (v4 + 1)]) rfl ?_
      refine jk_goto (pc := 41) hX 23 rfl ?_
      exact h7
    · have h5 := h22.2 q21
      refine jk_aload (pc := 33) hX 0 rfl rfl ?_
      refine jk_getR (pc := 34) hX 6 1 rfl rfl (r := 3) rfl ?_
      refine jk_getR (pc := 35) hX 3 0 rfl rfl (r := 4) rfl ?_
      refine jk_load (pc := 36) hX 4 rfl rfl ?_
      refine jk_cv (pc := 37) hX 7 1 0 rfl 5 [.inl v4] [] rfl rfl rfl (Nat.le_of_ble_eq_true rfl) (jx_mono (fun r M9 hr => ?_) h5)
      obtain ⟨r8, rfl, h10⟩ := hr
      show X 38 [.inr 1, .inl v1, .inr 90, .inl v3, .inl v4] [.inl r8] M9
      refine jk_zeq (pc := 38) hX 40 rfl (fun q18 => ?_) (fun q19 => ?_)
      · have h11 := h10.1 q18
        obtain ⟨g13, h14⟩ := h11
        refine jk_iinc (pc := 40) hX 4 1 rfl rfl g13 (ls' := [.inr 1, .inl v1, .inr 90, .inl v3, .inl (v4 + 1)]) rfl ?_
        refine jk_goto (pc := 41) hX 23 rfl ?_
        exact h14
      · have h12 := h10.2 q19
        obtain ⟨⟨g15, g16⟩, h17⟩ := h12
        refine jk_iinc (pc := 39) hX 3 1 rfl rfl g15 (ls' := [.inr 1, .inl v1, .inr 90, .inl (v3 + 1), .inl v4]) rfl ?_
        refine jk_iinc (pc := 40) hX 4 1 rfl rfl g16 (ls' := [.inr 1, .inl v1, .inr 90, .inl (v3 + 1), .inl (v4 + 1)]) rfl ?_
        refine jk_goto (pc := 41) hX 23 rfl ?_
        exact h17
set_option maxHeartbeats 4000000 in
theorem bk_F_choose_0 {d : Nat} {K : jxK} {X : jxX} (hX : jx_clo jx_G2 (d + 6) (jx_call jx_G2 jx_T (d + 6)) kc_F_choose K X) (v1 : Int) (M : jxM)
    (h : (((0 : Int) ≤ v1 ∧ v1 ≤ (19 : Int) → jx_call jx_G2 jx_T (d + 6) 117 [.inr 1, .inl v1] M (fun r M4 => ∃ r3 : Int, r = some (.inl r3) ∧ ((r3 ≠ 0 → jx_call jx_G2 jx_T (d + 6) 81 [.inr 1] M4 (fun r M9 => r = none ∧ X 19 [.inr 1, .inl v1, .inl 0, .inl 0, .inr 0, .inr 0] [] M9)) ∧ (r3 = 0 → K (some (.inl (-2))) M4)))) ∧ (¬ ((0 : Int) ≤ v1 ∧ v1 ≤ (19 : Int)) → K (some (.inl (-1))) M))) :
    X 0 [.inr 1, .inl v1, .inr 0, .inr 0, .inr 0, .inr 0] [] M := by
  refine jk_load (pc := 0) hX 1 rfl rfl ?_
  refine jk_const (pc := 1) hX 0 rfl (by decide) ?_
  refine jk_const (pc := 2) hX 19 rfl (by decide) ?_
  refine jk_cs (pc := 3) hX 80 3 rfl [.inl v1, .inl 0, .inl 19] [] rfl rfl (Nat.le_of_ble_eq_true rfl) (sp_F_in (d + 5) v1 (0 : Int) (19 : Int) M  ?_)
  show X 4 [.inr 1, .inl v1, .inr 0, .inr 0, .inr 0, .inr 0] [.inl (jx_b ((0 : Int) ≤ v1 ∧ v1 ≤ (19 : Int)))] M
  refine jk_zneB (pc := 4) hX 7 rfl (fun q13 => ?_) (fun q14 => ?_)
  · have h1 := h.1 q13
    refine jk_aload (pc := 7) hX 0 rfl rfl ?_
    refine jk_load (pc := 8) hX 1 rfl rfl ?_
    refine jk_cv (pc := 9) hX 117 1 7 rfl 1 [.inl v1] [] rfl rfl rfl (Nat.le_of_ble_eq_true rfl) (jx_mono (fun r M4 hr => ?_) h1)
    obtain ⟨r3, rfl, h5⟩ := hr
    show X 10 [.inr 1, .inl v1, .inr 0, .inr 0, .inr 0, .inr 0] [.inl r3] M4
    refine jk_zne (pc := 10) hX 13 rfl (fun q11 => ?_) (fun q12 => ?_)
    · have h6 := h5.1 q11
      refine jk_aload (pc := 13) hX 0 rfl rfl ?_
      refine jk_cv (pc := 14) hX 81 0 7 rfl 1 [] [] rfl rfl rfl (Nat.le_of_ble_eq_true rfl) (jx_mono (fun r M9 hr => ?_) h6)
      obtain ⟨rfl, h10⟩ := hr
      show X 15 [.inr 1, .inl v1, .inr 0, .inr 0, .inr 0, .inr 0] [] M9
      refine jk_const (pc := 15) hX 0 rfl (by decide) ?_
      refine jk_store (pc := 16) hX 2 rfl (Nat.le_of_ble_eq_true rfl) (ls' := [.inr 1, .inl v1, .inl 0, .inr 0, .inr 0, .inr 0]) rfl ?_
      refine jk_const (pc := 17) hX 0 rfl (by decide) ?_
      refine jk_store (pc := 18) hX 3 rfl (Nat.le_of_ble_eq_true rfl) (ls' := [.inr 1, .inl v1, .inl 0, .inl 0, .inr 0, .inr 0]) rfl ?_
      exact h10
    · have h7 := h5.2 q12
      refine jk_const (pc := 11) hX (-2) rfl (by decide) ?_
      exact jk_iret (pc := 12) hX rfl h7
  · have h2 := h.2 q14
    refine jk_const (pc := 5) hX (-1) rfl (by decide) ?_
    exact jk_iret (pc := 6) hX rfl h2
set_option maxHeartbeats 4000000 in
theorem bk_F_choose_19 {d : Nat} {K : jxK} {X : jxX} (hX : jx_clo jx_G2 (d + 6) (jx_call jx_G2 jx_T (d + 6)) kc_F_choose K X) (v1 : Int) (v2 : Int) (v3 : Int) (M : jxM)
    (h : (((M 1 14) ≤ v3 → K (some (.inl v2)) M) ∧ (v3 < (M 1 14) → ((0 ≤ v3 ∧ v3 < 16)) ∧ (((M 13 v3) ≠ (-5) → X 35 [.inr 1, .inl v1, .inl v2, .inl v3, .inl 0, .inl 0] [] M) ∧ ((M 13 v3) = (-5) → X 35 [.inr 1, .inl v1, .inl v2, .inl v3, .inl 1, .inl 0] [] M))))) :
    X 19 [.inr 1, .inl v1, .inl v2, .inl v3, .inr 0, .inr 0] [] M := by
  refine jk_load (pc := 19) hX 3 rfl rfl ?_
  refine jk_aload (pc := 20) hX 0 rfl rfl ?_
  refine jk_getI (pc := 21) hX 7 14 rfl rfl rfl ?_
  refine jk_cge (pc := 22) hX 86 rfl (fun q9 => ?_) (fun q10 => ?_)
  · have h1 := h.1 q9
    refine jk_load (pc := 86) hX 2 rfl rfl ?_
    exact jk_iret (pc := 87) hX rfl h1
  · have h2 := h.2 q10
    obtain ⟨g3, h8⟩ := h2
    refine jk_aload (pc := 23) hX 0 rfl rfl ?_
    refine jk_getR (pc := 24) hX 7 16 rfl rfl (r := 12) rfl ?_
    refine jk_load (pc := 25) hX 3 rfl rfl ?_
    refine jk_iald (pc := 26) hX 16 rfl rfl g3 ?_
    refine jk_const (pc := 27) hX (-5) rfl (by decide) ?_
    refine jk_cne (pc := 28) hX 31 rfl (fun q6 => ?_) (fun q7 => ?_)
    · have h4 := h8.1 q6
      refine jk_const (pc := 31) hX 0 rfl (by decide) ?_
      refine jk_store (pc := 32) hX 4 rfl (Nat.le_of_ble_eq_true rfl) (ls' := [.inr 1, .inl v1, .inl v2, .inl v3, .inl 0, .inr 0]) rfl ?_
      refine jk_const (pc := 33) hX 0 rfl (by decide) ?_
      refine jk_store (pc := 34) hX 5 rfl (Nat.le_of_ble_eq_true rfl) (ls' := [.inr 1, .inl v1, .inl v2, .inl v3, .inl 0, .inl 0]) rfl ?_
      exact h4
    · have h5 := h8.2 q7
      refine jk_const (pc := 29) hX 1 rfl (by decide) ?_
      refine jk_goto (pc := 30) hX 32 rfl ?_
      refine jk_store (pc := 32) hX 4 rfl (Nat.le_of_ble_eq_true rfl) (ls' := [.inr 1, .inl v1, .inl v2, .inl v3, .inl 1, .inr 0]) rfl ?_
      refine jk_const (pc := 33) hX 0 rfl (by decide) ?_
      refine jk_store (pc := 34) hX 5 rfl (Nat.le_of_ble_eq_true rfl) (ls' := [.inr 1, .inl v1, .inl v2, .inl v3, .inl 1, .inl 0]) rfl ?_
      exact h5
set_option maxHeartbeats 4000000 in
theorem bk_F_choose_35 {d : Nat} {K : jxK} {X : jxX} (hX : jx_clo jx_G2 (d + 6) (jx_call jx_G2 jx_T (d + 6)) kc_F_choose K X) (v1 : Int) (v2 : Int) (v3 : Int) (v4 : Int) (v5 : Int) (M : jxM)
    (h : ((v3 ≤ v5 → ((v4 ≠ 0 → (((-2147483648 : Int) ≤ v3 + 1 ∧ v3 + 1 ≤ 2147483647)) ∧ X 19 [.inr 1, .inl v1, .inl v2, .inl (v3 + 1), .inr 0, .inr 0] [] M) ∧ (v4 = 0 → ((0 ≤ v3 ∧ v3 < 16) ∧ ((0 : Int) ≤ (M 13 v3) ∧ (M 13 v3) ≤ 20) ∧ ((-2147483648 : Int) ≤ (1 + 11 * (M 13 v3)) + 10 ∧ (1 + 11 * (M 13 v3)) + 10 ≤ 2147483647) ∧ (0 ≤ ((1 + 11 * (M 13 v3)) + 10) ∧ ((1 + 11 * (M 13 v3)) + 10) < 305)) ∧ ((9 ≤ (M 2 ((1 + 11 * (M 13 v3)) + 10)) → (((-2147483648 : Int) ≤ v3 + 1 ∧ v3 + 1 ≤ 2147483647)) ∧ X 19 [.inr 1, .inl v1, .inl v2, .inl (v3 + 1), .inr 0, .inr 0] [] M) ∧ ((M 2 ((1 + 11 * (M 13 v3)) + 10)) < 9 → ((0 ≤ v3 ∧ v3 < 16) ∧ ((0 : Int) ≤ (M 13 v3) ∧ (M 13 v3) ≤ 20) ∧ ((-2147483648 : Int) ≤ (1 + 11 * (M 13 v3)) + 10 ∧ (1 + 11 * (M 13 v3)) + 10 ≤ 2147483647) ∧ (0 ≤ ((1 + 11 * (M 13 v3)) + 10) ∧ ((1 + 11 * (M 13 v3)) + 10) < 305) ∧ ((-2147483648 : Int) ≤ (M 2 ((1 + 11 * (M 13 v3)) + 10)) + 1 ∧ (M 2 ((1 + 11 * (M 13 v3)) + 10)) + 1 ≤ 2147483647) ∧ (0 ≤ ((1 + 11 * (M 13 v3)) + 10) ∧ ((1 + 11 * (M 13 v3)) + 10) < 305) ∧ ((-2147483648 : Int) ≤ v2 + 1 ∧ v2 + 1 ≤ 2147483647) ∧ ((-2147483648 : Int) ≤ v3 + 1 ∧ v3 + 1 ≤ 2147483647)) ∧ X 19 [.inr 1, .inl v1, .inl (v2 + 1), .inl (v3 + 1), .inr 0, .inr 0] [] (jx_up M 2 ((1 + 11 * (M 13 v3)) + 10) ((M 2 ((1 + 11 * (M 13 v3)) + 10)) + 1))))))) ∧ (v5 < v3 → ((v4 ≠ 0 → (((-2147483648 : Int) ≤ v5 + 1 ∧ v5 + 1 ≤ 2147483647)) ∧ X 35 [.inr 1, .inl v1, .inl v2, .inl v3, .inl 1, .inl (v5 + 1)] [] M) ∧ (v4 = 0 → ((0 ≤ v5 ∧ v5 < 16) ∧ (0 ≤ v3 ∧ v3 < 16)) ∧ (((M 13 v5) ≠ (M 13 v3) → (((-2147483648 : Int) ≤ v5 + 1 ∧ v5 + 1 ≤ 2147483647)) ∧ X 35 [.inr 1, .inl v1, .inl v2, .inl v3, .inl 0, .inl (v5 + 1)] [] M) ∧ ((M 13 v5) = (M 13 v3) → (((-2147483648 : Int) ≤ v5 + 1 ∧ v5 + 1 ≤ 2147483647)) ∧ X 35 [.inr 1, .inl v1, .inl v2, .inl v3, .inl 1, .inl (v5 + 1)] [] M))))))) :
    X 35 [.inr 1, .inl v1, .inl v2, .inl v3, .inl v4, .inl v5] [] M := by
  refine jk_load (pc := 35) hX 5 rfl rfl ?_
  refine jk_load (pc := 36) hX 3 rfl rfl ?_
  refine jk_cge (pc := 37) hX 55 rfl (fun q46 => ?_) (fun q47 => ?_)
  · have h1 := h.1 q46
    refine jk_load (pc := 55) hX 4 rfl rfl ?_
    refine jk_zne (pc := 56) hX 84 rfl (fun q27 => ?_) (fun q28 => ?_)
    · have h3 := h1.1 q27
      obtain ⟨g5, h6⟩ := h3
      refine jk_iinc (pc := 84) hX 3 1 rfl rfl g5 (ls' := [.inr 1, .inl v1, .inl v2, .inl (v3 + 1), .inl v4, .inl v5]) rfl ?_
      refine jk_goto (pc := 85) hX 19 rfl ?_
      refine jk_forget (pc := 19) hX 4 (ls' := [.inr 1, .inl v1, .inl v2, .inl (v3 + 1), .inr 0, .inl v5]) rfl ?_
      refine jk_forget (pc := 19) hX 5 (ls' := [.inr 1, .inl v1, .inl v2, .inl (v3 + 1), .inr 0, .inr 0]) rfl ?_
      exact h6
    · have h4 := h1.2 q28
      obtain ⟨⟨g7, g8, g9, g10⟩, h26⟩ := h4
      refine jk_aload (pc := 57) hX 0 rfl rfl ?_
      refine jk_getR (pc := 58) hX 7 0 rfl rfl (r := 1) rfl ?_
      refine jk_aload (pc := 59) hX 0 rfl rfl ?_
      refine jk_getR (pc := 60) hX 7 16 rfl rfl (r := 12) rfl ?_
      refine jk_load (pc := 61) hX 3 rfl rfl ?_
      refine jk_iald (pc := 62) hX 16 rfl rfl g7 ?_
      refine jk_cs (pc := 63) hX 86 1 rfl [.inl (M 13 v3)] [.inr 2] rfl rfl (Nat.le_of_ble_eq_true rfl) (sp_F_at (d + 5) (M 13 v3) M g8 ?_)
      show X 64 [.inr 1, .inl v1, .inl v2, .inl v3, .inl v4, .inl v5] [.inl (1 + 11 * (M 13 v3)), .inr 2] M
      refine jk_const (pc := 64) hX 10 rfl (by decide) ?_
      refine jk_add (pc := 65) hX rfl g9 ?_
      refine jk_iald (pc := 66) hX 305 rfl rfl g10 ?_
      refine jk_const (pc := 67) hX 9 rfl (by decide) ?_
      refine jk_cge (pc := 68) hX 84 rfl (fun q24 => ?_) (fun q25 => ?_)
      · have h11 := h26.1 q24
        obtain ⟨g13, h14⟩ := h11
        refine jk_iinc (pc := 84) hX 3 1 rfl rfl g13 (ls' := [.inr 1, .inl v1, .inl v2, .inl (v3 + 1), .inl v4, .inl v5]) rfl ?_
        refine jk_goto (pc := 85) hX 19 rfl ?_
        refine jk_forget (pc := 19) hX 4 (ls' := [.inr 1, .inl v1, .inl v2, .inl (v3 + 1), .inr 0, .inl v5]) rfl ?_
        refine jk_forget (pc := 19) hX 5 (ls' := [.inr 1, .inl v1, .inl v2, .inl (v3 + 1), .inr 0, .inr 0]) rfl ?_
        exact h14
      · have h12 := h26.2 q25
        obtain ⟨⟨g15, g16, g17, g18, g19, g20, g21, g22⟩, h23⟩ := h12
        refine jk_aload (pc := 69) hX 0 rfl rfl ?_
        refine jk_getR (pc := 70) hX 7 0 rfl rfl (r := 1) rfl ?_
        refine jk_aload (pc := 71) hX 0 rfl rfl ?_
        refine jk_getR (pc := 72) hX 7 16 rfl rfl (r := 12) rfl ?_
        refine jk_load (pc := 73) hX 3 rfl rfl ?_
        refine jk_iald (pc := 74) hX 16 rfl rfl g15 ?_
        refine jk_cs (pc := 75) hX 86 1 rfl [.inl (M 13 v3)] [.inr 2] rfl rfl (Nat.le_of_ble_eq_true rfl) (sp_F_at (d + 5) (M 13 v3) M g16 ?_)
        show X 76 [.inr 1, .inl v1, .inl v2, .inl v3, .inl v4, .inl v5] [.inl (1 + 11 * (M 13 v3)), .inr 2] M
        refine jk_const (pc := 76) hX 10 rfl (by decide) ?_
        refine jk_add (pc := 77) hX rfl g17 ?_
        refine jk_dup2 (pc := 78) hX rfl ?_
        refine jk_iald (pc := 79) hX 305 rfl rfl g18 ?_
        refine jk_const (pc := 80) hX 1 rfl (by decide) ?_
        refine jk_add (pc := 81) hX rfl g19 ?_
        refine jk_iast (pc := 82) hX 305 rfl rfl g20 ?_
        refine jk_iinc (pc := 83) hX 2 1 rfl rfl g21 (ls' := [.inr 1, .inl v1, .inl (v2 + 1), .inl v3, .inl v4, .inl v5]) rfl ?_
        refine jk_iinc (pc := 84) hX 3 1 rfl rfl g22 (ls' := [.inr 1, .inl v1, .inl (v2 + 1), .inl (v3 + 1), .inl v4, .inl v5]) rfl ?_
        refine jk_goto (pc := 85) hX 19 rfl ?_
        refine jk_forget (pc := 19) hX 4 (ls' := [.inr 1, .inl v1, .inl (v2 + 1), .inl (v3 + 1), .inr 0, .inl v5]) rfl ?_
        refine jk_forget (pc := 19) hX 5 (ls' := [.inr 1, .inl v1, .inl (v2 + 1), .inl (v3 + 1), .inr 0, .inr 0]) rfl ?_
        exact h23
  · have h2 := h.2 q47
    refine jk_load (pc := 38) hX 4 rfl rfl ?_
    refine jk_zne (pc := 39) hX 49 rfl (fun q44 => ?_) (fun q45 => ?_)
    · have h29 := h2.1 q44
      obtain ⟨g31, h32⟩ := h29
      refine jk_const (pc := 49) hX 1 rfl (by decide) ?_
      refine jk_goto (pc := 50) hX 52 rfl ?_
      refine jk_store (pc := 52) hX 4 rfl (Nat.le_of_ble_eq_true rfl) (ls' := [.inr 1, .inl v1, .inl v2, .inl v3, .inl 1, .inl v5]) rfl ?_
      refine jk_iinc (pc := 53) hX 5 1 rfl rfl g31 (ls' := [.inr 1, .inl v1, .inl v2, .inl v3, .inl 1, .inl (v5 + 1)]) rfl ?_
      refine jk_goto (pc := 54) hX 35 rfl ?_
      exact h32
    · have h30 := h2.2 q45
      obtain ⟨⟨g33, g34⟩, h43⟩ := h30
      refine jk_aload (pc := 40) hX 0 rfl rfl ?_
      refine jk_getR (pc := 41) hX 7 16 rfl rfl (r := 12) rfl ?_
      refine jk_load (pc := 42) hX 5 rfl rfl ?_
      refine jk_iald (pc := 43) hX 16 rfl rfl g33 ?_
      refine jk_aload (pc := 44) hX 0 rfl rfl ?_
      refine jk_getR (pc := 45) hX 7 16 rfl rfl (r := 12) rfl ?_
      refine jk_load (pc := 46) hX 3 rfl rfl ?_
      refine jk_iald (pc := 47) hX 16 rfl rfl g34 ?_
      refine jk_cne (pc := 48) hX 51 rfl (fun q41 => ?_) (fun q42 => ?_)
      · have h35 := h43.1 q41
        obtain ⟨g37, h38⟩ := h35
        refine jk_const (pc := 51) hX 0 rfl (by decide) ?_
        refine jk_store (pc := 52) hX 4 rfl (Nat.le_of_ble_eq_true rfl) (ls' := [.inr 1, .inl v1, .inl v2, .inl v3, .inl 0, .inl v5]) rfl ?_
        refine jk_iinc (pc := 53) hX 5 1 rfl rfl g37 (ls' := [.inr 1, .inl v1, .inl v2, .inl v3, .inl 0, .inl (v5 + 1)]) rfl ?_
        refine jk_goto (pc := 54) hX 35 rfl ?_
        exact h38
      · have h36 := h43.2 q42
        obtain ⟨g39, h40⟩ := h36
        refine jk_const (pc := 49) hX 1 rfl (by decide) ?_
        refine jk_goto (pc := 50) hX 52 rfl ?_
        refine jk_store (pc := 52) hX 4 rfl (Nat.le_of_ble_eq_true rfl) (ls' := [.inr 1, .inl v1, .inl v2, .inl v3, .inl 1, .inl v5]) rfl ?_
        refine jk_iinc (pc := 53) hX 5 1 rfl rfl g39 (ls' := [.inr 1, .inl v1, .inl v2, .inl v3, .inl 1, .inl (v5 + 1)]) rfl ?_
        refine jk_goto (pc := 54) hX 35 rfl ?_
        exact h40
