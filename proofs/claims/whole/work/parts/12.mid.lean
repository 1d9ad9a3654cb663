set_option maxHeartbeats 4000000 in
theorem bk_C_isNoEntry_0 {d : Nat} {K : jxK} {X : jxX} (hX : jx_clo jx_G1 (d + 1) (jx_call jx_G1 jx_T (d + 1)) kc_C_isNoEntry K X) (v1 : Int) (M : jxM)
    (h : (((-2147483648 : Int) ≤ (M 5 6) - 1 ∧ (M 5 6) - 1 ≤ 2147483647)) ∧ K (some (.inl (jx_b (v1 < (0 : Int) ∨ ((M 5 6) - 1) < v1)))) M) :
    X 0 [.inr 1, .inl v1] [] M := by
  obtain ⟨g1, h2⟩ := h
  refine jk_load (pc := 0) hX 1 rfl rfl ?_
  refine jk_const (pc := 1) hX 0 rfl (by decide) ?_
  refine jk_aload (pc := 2) hX 0 rfl rfl ?_
  refine jk_getR (pc := 3) hX 6 1 rfl rfl (r := 3) rfl ?_
  refine jk_getR (pc := 4) hX 3 0 rfl rfl (r := 4) rfl ?_
  refine jk_getI (pc := 5) hX 0 6 rfl rfl rfl ?_
  refine jk_const (pc := 6) hX 1 rfl (by decide) ?_
  refine jk_sub (pc := 7) hX rfl g1 ?_
  refine jk_cs (pc := 8) hX 79 3 rfl [.inl v1, .inl 0, .inl ((M 5 6) - 1)] [] rfl rfl (Nat.le_of_ble_eq_true rfl) (sp_C_isOutside d v1 (0 : Int) ((M 5 6) - 1) M  ?_)
  show X 9 [.inr 1, .inl v1] [.inl (jx_b (v1 < (0 : Int) ∨ ((M 5 6) - 1) < v1))] M
  exact jk_zret (pc := 9) hX rfl (jx_b01 _) h2
set_option maxHeartbeats 4000000 in
theorem bk_C_isNoGap_0 {d : Nat} {K : jxK} {X : jxX} (hX : jx_clo jx_G1 (d + 1) (jx_call jx_G1 jx_T (d + 1)) kc_C_isNoGap K X) (v1 : Int) (M : jxM)
    (h : K (some (.inl (jx_b (v1 < (0 : Int) ∨ (M 4 5) < v1)))) M) :
    X 0 [.inr 1, .inl v1] [] M := by
  refine jk_load (pc := 0) hX 1 rfl rfl ?_
  refine jk_const (pc := 1) hX 0 rfl (by decide) ?_
  refine jk_aload (pc := 2) hX 0 rfl rfl ?_
  refine jk_getR (pc := 3) hX 6 1 rfl rfl (r := 3) rfl ?_
  refine jk_getI (pc := 4) hX 3 5 rfl rfl rfl ?_
  refine jk_cs (pc := 5) hX 79 3 rfl [.inl v1, .inl 0, .inl (M 4 5)] [] rfl rfl (Nat.le_of_ble_eq_true rfl) (sp_C_isOutside d v1 (0 : Int) (M 4 5) M  ?_)
  show X 6 [.inr 1, .inl v1] [.inl (jx_b (v1 < (0 : Int) ∨ (M 4 5) < v1))] M
  exact jk_zret (pc := 6) hX rfl (jx_b01 _) h
set_option maxHeartbeats 4000000 in
theorem bk_C_isNoInnerGap_0 {d : Nat} {K : jxK} {X : jxX} (hX : jx_clo jx_G1 (d + 1) (jx_call jx_G1 jx_T (d + 1)) kc_C_isNoInnerGap K X) (v1 : Int) (M : jxM)
    (h : (((-2147483648 : Int) ≤ (M 4 5) - 1 ∧ (M 4 5) - 1 ≤ 2147483647)) ∧ K (some (.inl (jx_b (v1 < (1 : Int) ∨ ((M 4 5) - 1) < v1)))) M) :
    X 0 [.inr 1, .inl v1] [] M := by
  obtain ⟨g1, h2⟩ := h
  refine jk_load (pc := 0) hX 1 rfl rfl ?_
  refine jk_const (pc := 1) hX 1 rfl (by decide) ?_
  refine jk_aload (pc := 2) hX 0 rfl rfl ?_
  refine jk_getR (pc := 3) hX 6 1 rfl rfl (r := 3) rfl ?_
  refine jk_getI (pc := 4) hX 3 5 rfl rfl rfl ?_
  refine jk_const (pc := 5) hX 1 rfl (by decide) ?_
  refine jk_sub (pc := 6) hX rfl g1 ?_
  refine jk_cs (pc := 7) hX 79 3 rfl [.inl v1, .inl 1, .inl ((M 4 5) - 1)] [] rfl rfl (Nat.le_of_ble_eq_true rfl) (sp_C_isOutside d v1 (1 : Int) ((M 4 5) - 1) M  ?_)
  show X 8 [.inr 1, .inl v1] [.inl (jx_b (v1 < (1 : Int) ∨ ((M 4 5) - 1) < v1))] M
  exact jk_zret (pc := 8) hX rfl (jx_b01 _) h2
set_option maxHeartbeats 4000000 in
theorem bk_C_isNoRank_0 {d : Nat} {K : jxK} {X : jxX} (hX : jx_clo jx_G1 (d + 1) (jx_call jx_G1 jx_T (d + 1)) kc_C_isNoRank K X) (v0 : Int) (M : jxM)
    (h : K (some (.inl (jx_b (v0 < (0 : Int) ∨ (19 : Int) < v0)))) M) :
    X 0 [.inl v0] [] M := by
  refine jk_load (pc := 0) hX 0 rfl rfl ?_
  refine jk_const (pc := 1) hX 0 rfl (by decide) ?_
  refine jk_const (pc := 2) hX 19 rfl (by decide) ?_
  refine jk_cs (pc := 3) hX 79 3 rfl [.inl v0, .inl 0, .inl 19] [] rfl rfl (Nat.le_of_ble_eq_true rfl) (sp_C_isOutside d v0 (0 : Int) (19 : Int) M  ?_)
  show X 4 [.inl v0] [.inl (jx_b (v0 < (0 : Int) ∨ (19 : Int) < v0))] M
  exact jk_zret (pc := 4) hX rfl (jx_b01 _) h
set_option maxHeartbeats 4000000 in
theorem bk_T_firstError_0 {d : Nat} {K : jxK} {X : jxX} (hX : jx_clo jx_G1 (d + 1) (jx_call jx_G1 jx_T (d + 1)) kc_T_firstError K X) (v1 : Int) (M : jxM)
    (h : X 2 [.inr 2, .inl v1, .inl 0] [] M) :
    X 0 [.inr 2, .inl v1, .inr 0] [] M := by
  refine jk_const (pc := 0) hX 0 rfl (by decide) ?_
  refine jk_store (pc := 1) hX 2 rfl (Nat.le_of_ble_eq_true rfl) (ls' := [.inr 2, .inl v1, .inl 0]) rfl ?_
  exact h
set_option maxHeartbeats 4000000 in
theorem bk_T_firstError_2 {d : Nat} {K : jxK} {X : jxX} (hX : jx_clo jx_G1 (d + 1) (jx_call jx_G1 jx_T (d + 1)) kc_T_firstError K X) (v1 : Int) (v2 : Int) (M : jxM)
    (h : (((M 2 1) ≤ v2 → K (some (.inl (-1))) M) ∧ (v2 < (M 2 1) → ((v1 ≤ v2 → K (some (.inl v2)) M) ∧ (v2 < v1 → ((0 ≤ v2 ∧ v2 < 20)) ∧ ((¬ ((M 3 v2) < (97 : Int) ∨ (122 : Int) < (M 3 v2)) → (((-2147483648 : Int) ≤ v2 + 1 ∧ v2 + 1 ≤ 2147483647)) ∧ X 2 [.inr 2, .inl v1, .inl (v2 + 1)] [] M) ∧ ((M 3 v2) < (97 : Int) ∨ (122 : Int) < (M 3 v2) → K (some (.inl v2)) M))))))) :
    X 2 [.inr 2, .inl v1, .inl v2] [] M := by
  refine jk_load (pc := 2) hX 2 rfl rfl ?_
  refine jk_aload (pc := 3) hX 0 rfl rfl ?_
  refine jk_getI (pc := 4) hX 5 1 rfl rfl rfl ?_
  refine jk_cge (pc := 5) hX 21 rfl (fun q15 => ?_) (fun q16 => ?_)
  · have h1 := h.1 q15
    refine jk_const (pc := 21) hX (-1) rfl (by decide) ?_
    exact jk_iret (pc := 22) hX rfl h1
  · have h2 := h.2 q16
    refine jk_load (pc := 6) hX 2 rfl rfl ?_
    refine jk_load (pc := 7) hX 1 rfl rfl ?_
    refine jk_cge (pc := 8) hX 17 rfl (fun q13 => ?_) (fun q14 => ?_)
    · have h3 := h2.1 q13
      refine jk_load (pc := 17) hX 2 rfl rfl ?_
      exact jk_iret (pc := 18) hX rfl h3
    · have h4 := h2.2 q14
      obtain ⟨g5, h12⟩ := h4
      refine jk_aload (pc := 9) hX 0 rfl rfl ?_
      refine jk_getR (pc := 10) hX 5 0 rfl rfl (r := 2) rfl ?_
      refine jk_load (pc := 11) hX 2 rfl rfl ?_
      refine jk_iald (pc := 12) hX 20 rfl rfl g5 ?_
      refine jk_const (pc := 13) hX 97 rfl (by decide) ?_
      refine jk_const (pc := 14) hX 122 rfl (by decide) ?_
      refine jk_cs (pc := 15) hX 79 3 rfl [.inl (M 3 v2), .inl 97, .inl 122] [] rfl rfl (Nat.le_of_ble_eq_true rfl) (sp_C_isOutside d (M 3 v2) (97 : Int) (122 : Int) M  ?_)
      show X 16 [.inr 2, .inl v1, .inl v2] [.inl (jx_b ((M 3 v2) < (97 : Int) ∨ (122 : Int) < (M 3 v2)))] M
      refine jk_zeqB (pc := 16) hX 19 rfl (fun q10 => ?_) (fun q11 => ?_)
      · have h6 := h12.1 q10
        obtain ⟨g8, h9⟩ := h6
        refine jk_iinc (pc := 19) hX 2 1 rfl rfl g8 (ls' := [.inr 2, .inl v1, .inl (v2 + 1)]) rfl ?_
        refine jk_goto (pc := 20) hX 2 rfl ?_
        exact h9
      · have h7 := h12.2 q11
        refine jk_load (pc := 17) hX 2 rfl rfl ?_
        exact jk_iret (pc := 18) hX rfl h7
set_option maxHeartbeats 4000000 in
theorem bk_D_holds_0 {d : Nat} {K : jxK} {X : jxX} (hX : jx_clo jx_G1 (d + 1) (jx_call jx_G1 jx_T (d + 1)) kc_D_holds K X) (v2 : Int) (v3 : Int) (M : jxM)
    (h : X 2 [.inr 5, .inr 2, .inl v2, .inl v3, .inl 0] [] M) :
    X 0 [.inr 5, .inr 2, .inl v2, .inl v3, .inr 0] [] M := by
  refine jk_const (pc := 0) hX 0 rfl (by decide) ?_
  refine jk_store (pc := 1) hX 4 rfl (Nat.le_of_ble_eq_true rfl) (ls' := [.inr 5, .inr 2, .inl v2, .inl v3, .inl 0]) rfl ?_
  exact h
set_option maxHeartbeats 4000000 in
theorem bk_D_holds_2 {d : Nat} {K : jxK} {X : jxX} (hX : jx_clo jx_G1 (d + 1) (jx_call jx_G1 jx_T (d + 1)) kc_D_holds K X) (v2 : Int) (v3 : Int) (v4 : Int) (M : jxM)
    (h : (((M 5 6) ≤ v4 → K (some (.inl 0)) M) ∧ (v4 < (M 5 6) → ((0 ≤ v4 ∧ v4 < 20)) ∧ (((M 8 v4) ≠ v2 → (((-2147483648 : Int) ≤ v4 + 1 ∧ v4 + 1 ≤ 2147483647)) ∧ X 2 [.inr 5, .inr 2, .inl v2, .inl v3, .inl (v4 + 1)] [] M) ∧ ((M 8 v4) = v2 → ((0 ≤ v4 ∧ v4 < 20)) ∧ (((M 9 v4) ≠ v3 → (((-2147483648 : Int) ≤ v4 + 1 ∧ v4 + 1 ≤ 2147483647)) ∧ X 2 [.inr 5, .inr 2, .inl v2, .inl v3, .inl (v4 + 1)] [] M) ∧ ((M 9 v4) = v3 → ((0 ≤ v4 ∧ v4 < 20)) ∧ (((M 7 v4) ≠ (M 2 1) → (((-2147483648 : Int) ≤ v4 + 1 ∧ v4 + 1 ≤ 2147483647)) ∧ X 2 [.inr 5, .inr 2, .inl v2, .inl v3, .inl (v4 + 1)] [] M) ∧ ((M 7 v4) = (M 2 1) → ((((0 : Int) ≤ v4 ∧ v4 < 20) ∧ ((0 : Int) ≤ (M 2 1) ∧ (M 2 1) ≤ 20) ∧ (M 7 v4) ≤ 6)) ∧ ((¬ (t_begins M v4) → (((-2147483648 : Int) ≤ v4 + 1 ∧ v4 + 1 ≤ 2147483647)) ∧ X 2 [.inr 5, .inr 2, .inl v2, .inl v3, .inl (v4 + 1)] [] M) ∧ (t_begins M v4 → K (some (.inl 1)) M))))))))))) :
    X 2 [.inr 5, .inr 2, .inl v2, .inl v3, .inl v4] [] M := by
  refine jk_load (pc := 2) hX 4 rfl rfl ?_
  refine jk_aload (pc := 3) hX 0 rfl rfl ?_
  refine jk_getI (pc := 4) hX 0 6 rfl rfl rfl ?_
  refine jk_cge (pc := 5) hX 34 rfl (fun q35 => ?_) (fun q36 => ?_)
  · have h1 := h.1 q35
    refine jk_const (pc := 34) hX 0 rfl (by decide) ?_
    exact jk_zret (pc := 35) hX rfl (Or.inl rfl) h1
  · have h2 := h.2 q36
    obtain ⟨g3, h34⟩ := h2
    refine jk_aload (pc := 6) hX 0 rfl rfl ?_
    refine jk_getR (pc := 7) hX 0 2 rfl rfl (r := 7) rfl ?_
    refine jk_load (pc := 8) hX 4 rfl rfl ?_
    refine jk_iald (pc := 9) hX 20 rfl rfl g3 ?_
    refine jk_load (pc := 10) hX 2 rfl rfl ?_
    refine jk_cne (pc := 11) hX 32 rfl (fun q32 => ?_) (fun q33 => ?_)
    · have h4 := h34.1 q32
      obtain ⟨g6, h7⟩ := h4
      refine jk_iinc (pc := 32) hX 4 1 rfl rfl g6 (ls' := [.inr 5, .inr 2, .inl v2, .inl v3, .inl (v4 + 1)]) rfl ?_
      refine jk_goto (pc := 33) hX 2 rfl ?_
      exact h7
    · have h5 := h34.2 q33
      obtain ⟨g8, h31⟩ := h5
      refine jk_aload (pc := 12) hX 0 rfl rfl ?_
      refine jk_getR (pc := 13) hX 0 3 rfl rfl (r := 8) rfl ?_
      refine jk_load (pc := 14) hX 4 rfl rfl ?_
      refine jk_iald (pc := 15) hX 20 rfl rfl g8 ?_
      refine jk_load (pc := 16) hX 3 rfl rfl ?_
      refine jk_cne (pc := 17) hX 32 rfl (fun q29 => ?_) (fun q30 => ?_)
      · have h9 := h31.1 q29
        obtain ⟨g11, h12⟩ := h9
        refine jk_iinc (pc := 32) hX 4 1 rfl rfl g11 (ls' := [.inr 5, .inr 2, .inl v2, .inl v3, .inl (v4 + 1)]) rfl ?_
        refine jk_goto (pc := 33) hX 2 rfl ?_
        exact h12
      · have h10 := h31.2 q30
        obtain ⟨g13, h28⟩ := h10
        refine jk_aload (pc := 18) hX 0 rfl rfl ?_
        refine jk_getR (pc := 19) hX 0 1 rfl rfl (r := 6) rfl ?_
        refine jk_load (pc := 20) hX 4 rfl rfl ?_
        refine jk_iald (pc := 21) hX 20 rfl rfl g13 ?_
        refine jk_aload (pc := 22) hX 1 rfl rfl ?_
        refine jk_getI (pc := 23) hX 5 1 rfl rfl rfl ?_
        refine jk_cne (pc := 24) hX 32 rfl (fun q26 => ?_) (fun q27 => ?_)
        · have h14 := h28.1 q26
          obtain ⟨g16, h17⟩ := h14
          refine jk_iinc (pc := 32) hX 4 1 rfl rfl g16 (ls' := [.inr 5, .inr 2, .inl v2, .inl v3, .inl (v4 + 1)]) rfl ?_
          refine jk_goto (pc := 33) hX 2 rfl ?_
          exact h17
        · have h15 := h28.2 q27
          obtain ⟨g18, h25⟩ := h15
          refine jk_aload (pc := 25) hX 0 rfl rfl ?_
          refine jk_load (pc := 26) hX 4 rfl rfl ?_
          refine jk_aload (pc := 27) hX 1 rfl rfl ?_
          refine jk_cv (pc := 28) hX 4 2 0 rfl 5 [.inl v4, .inr 2] [] rfl rfl rfl (Nat.le_of_ble_eq_true rfl) (sp_D_beginsWith d v4 M g18 ?_)
          show X 29 [.inr 5, .inr 2, .inl v2, .inl v3, .inl v4] [.inl (jx_b (t_begins M v4))] M
          refine jk_zeqB (pc := 29) hX 32 rfl (fun q23 => ?_) (fun q24 => ?_)
          · have h19 := h25.1 q23
            obtain ⟨g21, h22⟩ := h19
            refine jk_iinc (pc := 32) hX 4 1 rfl rfl g21 (ls' := [.inr 5, .inr 2, .inl v2, .inl v3, .inl (v4 + 1)]) rfl ?_
            refine jk_goto (pc := 33) hX 2 rfl ?_
            exact h22
          · have h20 := h25.2 q24
            refine jk_const (pc := 30) hX 1 rfl (by decide) ?_
            exact jk_zret (pc := 31) hX rfl (Or.inr rfl) h20
set_option maxHeartbeats 4000000 in
theorem bk_D_moveDown_0 {d : Nat} {K : jxK} {X : jxX} (hX : jx_clo jx_G1 (d + 1) (jx_call jx_G1 jx_T (d + 1)) kc_D_moveDown K X) (v1 : Int) (M : jxM)
    (h : (((-2147483648 : Int) ≤ v1 - 1 ∧ v1 - 1 ≤ 2147483647) ∧ ((-2147483648 : Int) ≤ v1 * 6 ∧ v1 * 6 ≤ 2147483647) ∧ ((-2147483648 : Int) ≤ (v1 - 1) * 6 ∧ (v1 - 1) * 6 ≤ 2147483647) ∧ ((0 : Int) ≤ (v1 * 6) ∧ (0 : Int) ≤ ((v1 - 1) * 6) ∧ (0 : Int) ≤ 6 ∧ (v1 * 6) + 6 ≤ 120 ∧ ((v1 - 1) * 6) + 6 ≤ 120) ∧ (0 ≤ v1 ∧ v1 < 20) ∧ (0 ≤ (v1 - 1) ∧ (v1 - 1) < 20) ∧ (0 ≤ v1 ∧ v1 < 20) ∧ (0 ≤ (v1 - 1) ∧ (v1 - 1) < 20) ∧ (0 ≤ v1 ∧ v1 < 20) ∧ (0 ≤ (v1 - 1) ∧ (v1 - 1) < 20) ∧ (0 ≤ v1 ∧ v1 < 20) ∧ (0 ≤ (v1 - 1) ∧ (v1 - 1) < 20) ∧ (0 ≤ v1 ∧ v1 < 20) ∧ (0 ≤ (v1 - 1) ∧ (v1 - 1) < 20)) ∧ K none (jx_up (jx_up (jx_up (jx_up (jx_up (jx_cp M 6 (v1 * 6) 6 ((v1 - 1) * 6) 6) 7 (v1 - 1) (M 7 v1)) 8 (v1 - 1) (M 8 v1)) 9 (v1 - 1) (M 9 v1)) 10 (v1 - 1) (M 10 v1)) 11 (v1 - 1) (M 11 v1))) :
    X 0 [.inr 5, .inl v1, .inr 0] [] M := by
  obtain ⟨⟨g1, g2, g3, g4, g5, g6, g7, g8, g9, g10, g11, g12, g13, g14⟩, h15⟩ := h
  refine jk_load (pc := 0) hX 1 rfl rfl ?_
  refine jk_const (pc := 1) hX 1 rfl (by decide) ?_
  refine jk_sub (pc := 2) hX rfl g1 ?_
  refine jk_store (pc := 3) hX 2 rfl (Nat.le_of_ble_eq_true rfl) (ls' := [.inr 5, .inl v1, .inl (v1 - 1)]) rfl ?_
  refine jk_aload (pc := 4) hX 0 rfl rfl ?_
  refine jk_getR (pc := 5) hX 0 0 rfl rfl (r := 5) rfl ?_
  refine jk_load (pc := 6) hX 1 rfl rfl ?_
  refine jk_const (pc := 7) hX 6 rfl (by decide) ?_
  refine jk_mul (pc := 8) hX rfl g2 ?_
  refine jk_aload (pc := 9) hX 0 rfl rfl ?_
  refine jk_getR (pc := 10) hX 0 0 rfl rfl (r := 5) rfl ?_
  refine jk_load (pc := 11) hX 2 rfl rfl ?_
  refine jk_const (pc := 12) hX 6 rfl (by decide) ?_
  refine jk_mul (pc := 13) hX rfl g3 ?_
  refine jk_const (pc := 14) hX 6 rfl (by decide) ?_
  refine jk_copy (pc := 15) hX 120 120 rfl (by omega) (Nat.le_of_ble_eq_true rfl) rfl rfl g4 ?_
  refine jk_aload (pc := 16) hX 0 rfl rfl ?_
  refine jk_getR (pc := 17) hX 0 1 rfl rfl (r := 6) rfl ?_
  refine jk_load (pc := 18) hX 2 rfl rfl ?_
  refine jk_aload (pc := 19) hX 0 rfl rfl ?_
  refine jk_getR (pc := 20) hX 0 1 rfl rfl (r := 6) rfl ?_
  refine jk_load (pc := 21) hX 1 rfl rfl ?_
  refine jk_iald (pc := 22) hX 20 rfl rfl g5 (jx_vX (jx_cpc (by decide)) ?_)
  refine jk_iast (pc := 23) hX 20 rfl rfl g6 ?_
  refine jk_aload (pc := 24) hX 0 rfl rfl ?_
  refine jk_getR (pc := 25) hX 0 2 rfl rfl (r := 7) rfl ?_
  refine jk_load (pc := 26) hX 2 rfl rfl ?_
  refine jk_aload (pc := 27) hX 0 rfl rfl ?_
  refine jk_getR (pc := 28) hX 0 2 rfl rfl (r := 7) rfl ?_
  refine jk_load (pc := 29) hX 1 rfl rfl ?_
  refine jk_iald (pc := 30) hX 20 rfl rfl g7 (jx_vX ((jx_upc (by decide)).trans (jx_cpc (by decide))) ?_)
  refine jk_iast (pc := 31) hX 20 rfl rfl g8 ?_
  refine jk_aload (pc := 32) hX 0 rfl rfl ?_
  refine jk_getR (pc := 33) hX 0 3 rfl rfl (r := 8) rfl ?_
  refine jk_load (pc := 34) hX 2 rfl rfl ?_
  refine jk_aload (pc := 35) hX 0 rfl rfl ?_
  refine jk_getR (pc := 36) hX 0 3 rfl rfl (r := 8) rfl ?_
  refine jk_load (pc := 37) hX 1 rfl rfl ?_
  refine jk_iald (pc := 38) hX 20 rfl rfl g9 (jx_vX ((jx_upc (by decide)).trans ((jx_upc (by decide)).trans (jx_cpc (by decide)))) ?_)
  refine jk_iast (pc := 39) hX 20 rfl rfl g10 ?_
  refine jk_aload (pc := 40) hX 0 rfl rfl ?_
  refine jk_getR (pc := 41) hX 0 4 rfl rfl (r := 9) rfl ?_
  refine jk_load (pc := 42) hX 2 rfl rfl ?_
  refine jk_aload (pc := 43) hX 0 rfl rfl ?_
  refine jk_getR (pc := 44) hX 0 4 rfl rfl (r := 9) rfl ?_
  refine jk_load (pc := 45) hX 1 rfl rfl ?_
  refine jk_iald (pc := 46) hX 20 rfl rfl g11 (jx_vX ((jx_upc (by decide)).trans ((jx_upc (by decide)).trans ((jx_upc (by decide)).trans (jx_cpc (by decide))))) ?_)
  refine jk_iast (pc := 47) hX 20 rfl rfl g12 ?_
  refine jk_aload (pc := 48) hX 0 rfl rfl ?_
  refine jk_getR (pc := 49) hX 0 5 rfl rfl (r := 10) rfl ?_
  refine jk_load (pc := 50) hX 2 rfl rfl ?_
  refine jk_aload (pc := 51) hX 0 rfl rfl ?_
  refine jk_getR (pc := 52) hX 0 5 rfl rfl (r := 10) rfl ?_
  refine jk_load (pc := 53) hX 1 rfl rfl ?_
  refine jk_iald (pc := 54) hX 20 rfl rfl g13 (jx_vX ((jx_upc (by decide)).trans ((jx_upc (by decide)).trans ((jx_upc (by decide)).trans ((jx_upc (by decide)).trans (jx_cpc (by decide)))))) ?_)
  refine jk_iast (pc := 55) hX 20 rfl rfl g14 ?_
  exact jk_vret (pc := 56) hX rfl h15
set_option maxHeartbeats 4000000 in
theorem bk_D_append_0 {d : Nat} {K : jxK} {X : jxX} (hX : jx_clo jx_G1 (d + 1) (jx_call jx_G1 jx_T (d + 1)) kc_D_append K X) (v2 : Int) (v3 : Int) (v4 : Int) (M : jxM)
    (h : ((20 ≤ (M 5 6) → K none M) ∧ ((M 5 6) < 20 → (((M 2 1) ≤ 6 → (((-2147483648 : Int) ≤ (M 5 6) * 6 ∧ (M 5 6) * 6 ≤ 2147483647) ∧ ((0 : Int) ≤ 0 ∧ (0 : Int) ≤ ((M 5 6) * 6) ∧ (0 : Int) ≤ (M 2 1) ∧ 0 + (M 2 1) ≤ 20 ∧ ((M 5 6) * 6) + (M 2 1) ≤ 120) ∧ (0 ≤ (M 5 6) ∧ (M 5 6) < 20) ∧ (0 ≤ (M 5 6) ∧ (M 5 6) < 20) ∧ (0 ≤ (M 5 6) ∧ (M 5 6) < 20) ∧ (0 ≤ (M 5 6) ∧ (M 5 6) < 20) ∧ (0 ≤ (M 5 6) ∧ (M 5 6) < 20) ∧ ((-2147483648 : Int) ≤ (M 5 6) + 1 ∧ (M 5 6) + 1 ≤ 2147483647)) ∧ K none (jx_up (jx_up (jx_up (jx_up (jx_up (jx_up (jx_cp M 3 0 6 ((M 5 6) * 6) (M 2 1)) 7 (M 5 6) (M 2 1)) 8 (M 5 6) v2) 9 (M 5 6) v3) 10 (M 5 6) v4) 11 (M 5 6) 0) 5 6 ((M 5 6) + 1))) ∧ (6 < (M 2 1) → K none M))))) :
    X 0 [.inr 5, .inr 2, .inl v2, .inl v3, .inl v4, .inr 0] [] M := by
  refine jk_aload (pc := 0) hX 0 rfl rfl ?_
  refine jk_getI (pc := 1) hX 0 6 rfl rfl rfl ?_
  refine jk_store (pc := 2) hX 5 rfl (Nat.le_of_ble_eq_true rfl) (ls' := [.inr 5, .inr 2, .inl v2, .inl v3, .inl v4, .inl (M 5 6)]) rfl ?_
  refine jk_load (pc := 3) hX 5 rfl rfl ?_
  refine jk_const (pc := 4) hX 20 rfl (by decide) ?_
  refine jk_cge (pc := 5) hX 10 rfl (fun q16 => ?_) (fun q17 => ?_)
  · have h1 := h.1 q16
    exact jk_vret (pc := 10) hX rfl h1
  · have h2 := h.2 q17
    refine jk_aload (pc := 6) hX 1 rfl rfl ?_
    refine jk_getI (pc := 7) hX 5 1 rfl rfl rfl ?_
    refine jk_const (pc := 8) hX 6 rfl (by decide) ?_
    refine jk_cle (pc := 9) hX 11 rfl (fun q14 => ?_) (fun q15 => ?_)
    · have h3 := h2.1 q14
      obtain ⟨⟨g5, g6, g7, g8, g9, g10, g11, g12⟩, h13⟩ := h3
      refine jk_aload (pc := 11) hX 1 rfl rfl ?_
      refine jk_getR (pc := 12) hX 5 0 rfl rfl (r := 2) rfl ?_
      refine jk_const (pc := 13) hX 0 rfl (by decide) ?_
      refine jk_aload (pc := 14) hX 0 rfl rfl ?_
      refine jk_getR (pc := 15) hX 0 0 rfl rfl (r := 5) rfl ?_
      refine jk_load (pc := 16) hX 5 rfl rfl ?_
      refine jk_const (pc := 17) hX 6 rfl (by decide) ?_
      refine jk_mul (pc := 18) hX rfl g5 ?_
      refine jk_aload (pc := 19) hX 1 rfl rfl ?_
      refine jk_getI (pc := 20) hX 5 1 rfl rfl rfl ?_
      refine jk_copy (pc := 21) hX 20 120 rfl (by omega) (Nat.le_of_ble_eq_true rfl) rfl rfl g6 ?_
      refine jk_aload (pc := 22) hX 0 rfl rfl ?_
      refine jk_getR (pc := 23) hX 0 1 rfl rfl (r := 6) rfl ?_
      refine jk_load (pc := 24) hX 5 rfl rfl ?_
      refine jk_aload (pc := 25) hX 1 rfl rfl ?_
      refine jk_getI (pc := 26) hX 5 1 rfl rfl rfl (jx_vX (jx_cpc (by decide)) ?_)
      refine jk_iast (pc := 27) hX 20 rfl rfl g7 ?_
      refine jk_aload (pc := 28) hX 0 rfl rfl ?_
      refine jk_getR (pc := 29) hX 0 2 rfl rfl (r := 7) rfl ?_
      refine jk_load (pc := 30) hX 5 rfl rfl ?_
      refine jk_load (pc := 31) hX 2 rfl rfl ?_
      refine jk_iast (pc := 32) hX 20 rfl rfl g8 ?_
      refine jk_aload (pc := 33) hX 0 rfl rfl ?_
      refine jk_getR (pc := 34) hX 0 3 rfl rfl (r := 8) rfl ?_
      refine jk_load (pc := 35) hX 5 rfl rfl ?_
      refine jk_load (pc := 36) hX 3 rfl rfl ?_
      refine jk_iast (pc := 37) hX 20 rfl rfl g9 ?_
      refine jk_aload (pc := 38) hX 0 rfl rfl ?_
      refine jk_getR (pc := 39) hX 0 4 rfl rfl (r := 9) rfl ?_
      refine jk_load (pc := 40) hX 5 rfl rfl ?_
      refine jk_load (pc := 41) hX 4 rfl rfl ?_
      refine jk_iast (pc := 42) hX 20 rfl rfl g10 ?_
      refine jk_aload (pc := 43) hX 0 rfl rfl ?_
      refine jk_getR (pc := 44) hX 0 5 rfl rfl (r := 10) rfl ?_
      refine jk_load (pc := 45) hX 5 rfl rfl ?_
      refine jk_const (pc := 46) hX 0 rfl (by decide) ?_
      refine jk_iast (pc := 47) hX 20 rfl rfl g11 ?_
      refine jk_aload (pc := 48) hX 0 rfl rfl ?_
      refine jk_dup (pc := 49) hX rfl ?_
      refine jk_getI (pc := 50) hX 0 6 rfl rfl rfl (jx_vX ((jx_upc (by decide)).trans ((jx_upc (by decide)).trans ((jx_upc (by decide)).trans ((jx_upc (by decide)).trans ((jx_upc (by decide)).trans (jx_cpc (by decide))))))) ?_)
      refine jk_const (pc := 51) hX 1 rfl (by decide) ?_
      refine jk_add (pc := 52) hX rfl g12 ?_
      refine jk_put (pc := 53) hX 0 6 rfl rfl rfl ?_
      exact jk_vret (pc := 54) hX rfl h13
    · have h4 := h2.2 q15
      exact jk_vret (pc := 10) hX rfl h4
set_option maxHeartbeats 4000000 in
theorem bk_M_takeInput_0 {d : Nat} {K : jxK} {X : jxX} (hX : jx_clo jx_G1 (d + 1) (jx_call jx_G1 jx_T (d + 1)) kc_M_takeInput K X) (M : jxM)
    (h : (((M 2 1) ≤ 16 → (((0 : Int) ≤ 0 ∧ (0 : Int) ≤ 0 ∧ (0 : Int) ≤ (M 2 1) ∧ 0 + (M 2 1) ≤ 20 ∧ 0 + (M 2 1) ≤ 16)) ∧ jx_call jx_G1 jx_T (d + 1) 127 [.inr 14, .inl 0] (jx_up (jx_cp M 3 0 13 0 (M 2 1)) 4 5 (M 2 1)) (fun r M5 => r = none ∧ K none M5)) ∧ (16 < (M 2 1) → K none M))) :
    X 0 [.inr 4, .inr 2] [] M := by
  refine jk_aload (pc := 0) hX 1 rfl rfl ?_
  refine jk_getI (pc := 1) hX 5 1 rfl rfl rfl ?_
  refine jk_const (pc := 2) hX 16 rfl (by decide) ?_
  refine jk_cle (pc := 3) hX 5 rfl (fun q8 => ?_) (fun q9 => ?_)
  · have h1 := h.1 q8
    obtain ⟨g3, h7⟩ := h1
    refine jk_aload (pc := 5) hX 1 rfl rfl ?_
    refine jk_getR (pc := 6) hX 5 0 rfl rfl (r := 2) rfl ?_
    refine jk_const (pc := 7) hX 0 rfl (by decide) ?_
    refine jk_aload (pc := 8) hX 0 rfl rfl ?_
    refine jk_getR (pc := 9) hX 3 2 rfl rfl (r := 12) rfl ?_
    refine jk_const (pc := 10) hX 0 rfl (by decide) ?_
    refine jk_aload (pc := 11) hX 1 rfl rfl ?_
    refine jk_getI (pc := 12) hX 5 1 rfl rfl rfl ?_
    refine jk_copy (pc := 13) hX 20 16 rfl (by omega) (Nat.le_of_ble_eq_true rfl) rfl rfl g3 ?_
    refine jk_aload (pc := 14) hX 0 rfl rfl ?_
    refine jk_aload (pc := 15) hX 1 rfl rfl ?_
    refine jk_getI (pc := 16) hX 5 1 rfl rfl rfl (jx_vX (jx_cpc (by decide)) ?_)
    refine jk_put (pc := 17) hX 3 5 rfl rfl rfl ?_
    refine jk_aload (pc := 18) hX 0 rfl rfl ?_
    refine jk_getR (pc := 19) hX 3 3 rfl rfl (r := 13) rfl ?_
    refine jk_const (pc := 20) hX 0 rfl (by decide) ?_
    refine jk_cs (pc := 21) hX 127 2 rfl [.inr 14, .inl 0] [] rfl rfl (Nat.le_of_ble_eq_true rfl) (jx_mono (fun r M5 hr => ?_) h7)
    obtain ⟨rfl, h6⟩ := hr
    show X 22 [.inr 4, .inr 2] [] M5
    exact jk_vret (pc := 22) hX rfl h6
  · have h2 := h.2 q9
    exact jk_vret (pc := 4) hX rfl h2
set_option maxHeartbeats 4000000 in
theorem bk_F_fault_0 {d : Nat} {K : jxK} {X : jxX} (hX : jx_clo jx_G2 (d + 1) (jx_call jx_G2 jx_T (d + 1)) kc_F_fault K X) (v1 : Int) (M : jxM)
    (h : X 2 [.inr 1, .inl v1, .inl 0] [] M) :
    X 0 [.inr 1, .inl v1, .inr 0] [] M := by
  refine jk_const (pc := 0) hX 0 rfl (by decide) ?_
  refine jk_store (pc := 1) hX 2 rfl (Nat.le_of_ble_eq_true rfl) (ls' := [.inr 1, .inl v1, .inl 0]) rfl ?_
  exact h
set_option maxHeartbeats 4000000 in
theorem bk_F_fault_2 {d : Nat} {K : jxK} {X : jxX} (hX : jx_clo jx_G2 (d + 1) (jx_call jx_G2 jx_T (d + 1)) kc_F_fault K X) (v1 : Int) (v2 : Int) (M : jxM)
    (h : (((M 1 4) ≤ v2 → K (some (.inl (-9))) M) ∧ (v2 < (M 1 4) → ((v2 = v1 → K (some (.inl v2)) M) ∧ (v2 ≠ v1 → ((0 ≤ v2 ∧ v2 < 20)) ∧ (((97 : Int) ≤ (M 4 v2) ∧ (M 4 v2) ≤ (122 : Int) → (((-2147483648 : Int) ≤ v2 + 1 ∧ v2 + 1 ≤ 2147483647)) ∧ X 2 [.inr 1, .inl v1, .inl (v2 + 1)] [] M) ∧ (¬ ((97 : Int) ≤ (M 4 v2) ∧ (M 4 v2) ≤ (122 : Int)) → K (some (.inl v2)) M))))))) :
    X 2 [.inr 1, .inl v1, .inl v2] [] M := by
  refine jk_load (pc := 2) hX 2 rfl rfl ?_
  refine jk_aload (pc := 3) hX 0 rfl rfl ?_
  refine jk_getI (pc := 4) hX 7 4 rfl rfl rfl ?_
  refine jk_cge (pc := 5) hX 21 rfl (fun q15 => ?_) (fun q16 => ?_)
  · have h1 := h.1 q15
    refine jk_const (pc := 21) hX (-9) rfl (by decide) ?_
    exact jk_iret (pc := 22) hX rfl h1
  · have h2 := h.2 q16
    refine jk_load (pc := 6) hX 2 rfl rfl ?_
    refine jk_load (pc := 7) hX 1 rfl rfl ?_
    refine jk_ceq (pc := 8) hX 17 rfl (fun q13 => ?_) (fun q14 => ?_)
    · have h3 := h2.1 q13
      refine jk_load (pc := 17) hX 2 rfl rfl ?_
      exact jk_iret (pc := 18) hX rfl h3
    · have h4 := h2.2 q14
      obtain ⟨g5, h12⟩ := h4
      refine jk_aload (pc := 9) hX 0 rfl rfl ?_
      refine jk_getR (pc := 10) hX 7 3 rfl rfl (r := 3) rfl ?_
      refine jk_load (pc := 11) hX 2 rfl rfl ?_
      refine jk_iald (pc := 12) hX 20 rfl rfl g5 ?_
      refine jk_const (pc := 13) hX 97 rfl (by decide) ?_
      refine jk_const (pc := 14) hX 122 rfl (by decide) ?_
      refine jk_cs (pc := 15) hX 80 3 rfl [.inl (M 4 v2), .inl 97, .inl 122] [] rfl rfl (Nat.le_of_ble_eq_true rfl) (sp_F_in d (M 4 v2) (97 : Int) (122 : Int) M  ?_)
      show X 16 [.inr 1, .inl v1, .inl v2] [.inl (jx_b ((97 : Int) ≤ (M 4 v2) ∧ (M 4 v2) ≤ (122 : Int)))] M
      refine jk_zneB (pc := 16) hX 19 rfl (fun q10 => ?_) (fun q11 => ?_)
      · have h6 := h12.1 q10
        obtain ⟨g8, h9⟩ := h6
        refine jk_iinc (pc := 19) hX 2 1 rfl rfl g8 (ls' := [.inr 1, .inl v1, .inl (v2 + 1)]) rfl ?_
        refine jk_goto (pc := 20) hX 2 rfl ?_
        exact h9
      · have h7 := h12.2 q11
        refine jk_load (pc := 17) hX 2 rfl rfl ?_
        exact jk_iret (pc := 18) hX rfl h7
set_option maxHeartbeats 4000000 in
theorem bk_F_isEntry_0 {d : Nat} {K : jxK} {X : jxX} (hX : jx_clo jx_G2 (d + 1) (jx_call jx_G2 jx_T (d + 1)) kc_F_isEntry K X) (v1 : Int) (M : jxM)
    (h : (((-2147483648 : Int) ≤ (M 2 0) - 1 ∧ (M 2 0) - 1 ≤ 2147483647)) ∧ K (some (.inl (jx_b ((0 : Int) ≤ v1 ∧ v1 ≤ ((M 2 0) - 1))))) M) :
    X 0 [.inr 1, .inl v1] [] M := by
  obtain ⟨g1, h2⟩ := h
  refine jk_load (pc := 0) hX 1 rfl rfl ?_
  refine jk_const (pc := 1) hX 0 rfl (by decide) ?_
  refine jk_aload (pc := 2) hX 0 rfl rfl ?_
  refine jk_getR (pc := 3) hX 7 0 rfl rfl (r := 1) rfl ?_
  refine jk_const (pc := 4) hX 0 rfl (by decide) ?_
  refine jk_iald (pc := 5) hX 305 rfl rfl (by decide) ?_
  refine jk_const (pc := 6) hX 1 rfl (by decide) ?_
  refine jk_sub (pc := 7) hX rfl g1 ?_
  refine jk_cs (pc := 8) hX 80 3 rfl [.inl v1, .inl 0, .inl ((M 2 0) - 1)] [] rfl rfl (Nat.le_of_ble_eq_true rfl) (sp_F_in d v1 (0 : Int) ((M 2 0) - 1) M  ?_)
  show X 9 [.inr 1, .inl v1] [.inl (jx_b ((0 : Int) ≤ v1 ∧ v1 ≤ ((M 2 0) - 1)))] M
  exact jk_zret (pc := 9) hX rfl (jx_b01 _) h2
set_option maxHeartbeats 4000000 in
theorem bk_F_begins_0 {d : Nat} {K : jxK} {X : jxX} (hX : jx_clo jx_G2 (d + 1) (jx_call jx_G2 jx_T (d + 1)) kc_F_begins K X) (v1 : Int) (M : jxM)
    (h : (((0 : Int) ≤ v1 ∧ v1 ≤ 20) ∧ (0 ≤ (1 + 11 * v1) ∧ (1 + 11 * v1) < 305)) ∧ (((M 2 (1 + 11 * v1)) < (M 1 4) → X 14 [.inr 1, .inl v1, .inl 0, .inl 0] [] M) ∧ ((M 1 4) ≤ (M 2 (1 + 11 * v1)) → X 14 [.inr 1, .inl v1, .inl 1, .inl 0] [] M))) :
    X 0 [.inr 1, .inl v1, .inr 0, .inr 0] [] M := by
  obtain ⟨⟨g1, g2⟩, h7⟩ := h
  refine jk_aload (pc := 0) hX 0 rfl rfl ?_
  refine jk_getI (pc := 1) hX 7 4 rfl rfl rfl ?_
  refine jk_aload (pc := 2) hX 0 rfl rfl ?_
  refine jk_getR (pc := 3) hX 7 0 rfl rfl (r := 1) rfl ?_
  refine jk_load (pc := 4) hX 1 rfl rfl ?_
  refine jk_cs (pc := 5) hX 86 1 rfl [.inl v1] [.inr 2, .inl (M 1 4)] rfl rfl (Nat.le_of_ble_eq_true rfl) (sp_F_at d v1 M g1 ?_)
  show X 6 [.inr 1, .inl v1, .inr 0, .inr 0] [.inl (1 + 11 * v1), .inr 2, .inl (M 1 4)] M
  refine jk_iald (pc := 6) hX 305 rfl rfl g2 ?_
  refine jk_cgt (pc := 7) hX 10 rfl (fun q5 => ?_) (fun q6 => ?_)
  · have h3 := h7.1 q5
    refine jk_const (pc := 10) hX 0 rfl (by decide) ?_
    refine jk_store (pc := 11) hX 2 rfl (Nat.le_of_ble_eq_true rfl) (ls' := [.inr 1, .inl v1, .inl 0, .inr 0]) rfl ?_
    refine jk_const (pc := 12) hX 0 rfl (by decide) ?_
    refine jk_store (pc := 13) hX 3 rfl (Nat.le_of_ble_eq_true rfl) (ls' := [.inr 1, .inl v1, .inl 0, .inl 0]) rfl ?_
    exact h3
  · have h4 := h7.2 q6
    refine jk_const (pc := 8) hX 1 rfl (by decide) ?_
    refine jk_goto (pc := 9) hX 11 rfl ?_
    refine jk_store (pc := 11) hX 2 rfl (Nat.le_of_ble_eq_true rfl) (ls' := [.inr 1, .inl v1, .inl 1, .inr 0]) rfl ?_
    refine jk_const (pc := 12) hX 0 rfl (by decide) ?_
    refine jk_store (pc := 13) hX 3 rfl (Nat.le_of_ble_eq_true rfl) (ls' := [.inr 1, .inl v1, .inl 1, .inl 0]) rfl ?_
    exact h4
set_option maxHeartbeats 4000000 in
theorem bk_F_begins_14 {d : Nat} {K : jxK} {X : jxX} (hX : jx_clo jx_G2 (d + 1) (jx_call jx_G2 jx_T (d + 1)) kc_F_begins K X) (v1 : Int) (v2 : Int) (v3 : Int) (M : jxM)
    (h : (((M 1 4) ≤ v3 → ((v2 = 0 ∨ v2 = 1)) ∧ K (some (.inl v2)) M) ∧ (v3 < (M 1 4) → ((v2 = 0 → ((v2 = 0 ∨ v2 = 1)) ∧ K (some (.inl v2)) M) ∧ (v2 ≠ 0 → ((0 ≤ v3 ∧ v3 < 20) ∧ ((0 : Int) ≤ v1 ∧ v1 ≤ 20) ∧ ((-2147483648 : Int) ≤ (1 + 11 * v1) + 1 ∧ (1 + 11 * v1) + 1 ≤ 2147483647) ∧ ((-2147483648 : Int) ≤ ((1 + 11 * v1) + 1) + v3 ∧ ((1 + 11 * v1) + 1) + v3 ≤ 2147483647) ∧ (0 ≤ (((1 + 11 * v1) + 1) + v3) ∧ (((1 + 11 * v1) + 1) + v3) < 305)) ∧ (((M 4 v3) ≠ (M 2 (((1 + 11 * v1) + 1) + v3)) → (((-2147483648 : Int) ≤ v3 + 1 ∧ v3 + 1 ≤ 2147483647)) ∧ X 14 [.inr 1, .inl v1, .inl 0, .inl (v3 + 1)] [] M) ∧ ((M 4 v3) = (M 2 (((1 + 11 * v1) + 1) + v3)) → (((-2147483648 : Int) ≤ v3 + 1 ∧ v3 + 1 ≤ 2147483647)) ∧ X 14 [.inr 1, .inl v1, .inl 1, .inl (v3 + 1)] [] M))))))) :
    X 14 [.inr 1, .inl v1, .inl v2, .inl v3] [] M := by
  refine jk_load (pc := 14) hX 3 rfl rfl ?_
  refine jk_aload (pc := 15) hX 0 rfl rfl ?_
  refine jk_getI (pc := 16) hX 7 4 rfl rfl rfl ?_
  refine jk_cge (pc := 17) hX 40 rfl (fun q25 => ?_) (fun q26 => ?_)
  · have h1 := h.1 q25
    obtain ⟨g3, h4⟩ := h1
    refine jk_load (pc := 40) hX 2 rfl rfl ?_
    exact jk_zret (pc := 41) hX rfl g3 h4
  · have h2 := h.2 q26
    refine jk_load (pc := 18) hX 2 rfl rfl ?_
    refine jk_zeq (pc := 19) hX 40 rfl (fun q23 => ?_) (fun q24 => ?_)
    · have h5 := h2.1 q23
      obtain ⟨g7, h8⟩ := h5
      refine jk_load (pc := 40) hX 2 rfl rfl ?_
      exact jk_zret (pc := 41) hX rfl g7 h8
    · have h6 := h2.2 q24
      obtain ⟨⟨g9, g10, g11, g12, g13⟩, h22⟩ := h6
      refine jk_aload (pc := 20) hX 0 rfl rfl ?_
      refine jk_getR (pc := 21) hX 7 3 rfl rfl (r := 3) rfl ?_
      refine jk_load (pc := 22) hX 3 rfl rfl ?_
      refine jk_iald (pc := 23) hX 20 rfl rfl g9 ?_
      refine jk_aload (pc := 24) hX 0 rfl rfl ?_
      refine jk_getR (pc := 25) hX 7 0 rfl rfl (r := 1) rfl ?_
      refine jk_load (pc := 26) hX 1 rfl rfl ?_
      refine jk_cs (pc := 27) hX 86 1 rfl [.inl v1] [.inr 2, .inl (M 4 v3)] rfl rfl (Nat.le_of_ble_eq_true rfl) (sp_F_at d v1 M g10 ?_)
      show X 28 [.inr 1, .inl v1, .inl v2, .inl v3] [.inl (1 + 11 * v1), .inr 2, .inl (M 4 v3)] M
      refine jk_const (pc := 28) hX 1 rfl (by decide) ?_
      refine jk_add (pc := 29) hX rfl g11 ?_
      refine jk_load (pc := 30) hX 3 rfl rfl ?_
      refine jk_add (pc := 31) hX rfl g12 ?_
      refine jk_iald (pc := 32) hX 305 rfl rfl g13 ?_
      refine jk_cne (pc := 33) hX 36 rfl (fun q20 => ?_) (fun q21 => ?_)
      · have h14 := h22.1 q20
        obtain ⟨g16, h17⟩ := h14
        refine jk_const (pc := 36) hX 0 rfl (by decide) ?_
        refine jk_store (pc := 37) hX 2 rfl (Nat.le_of_ble_eq_true rfl) (ls' := [.inr 1, .inl v1, .inl 0, .inl v3]) rfl ?_
        refine jk_iinc (pc := 38) hX 3 1 rfl rfl g16 (ls' := [.inr 1, .inl v1, .inl 0, .inl (v3 + 1)]) rfl ?_
        refine jk_goto (pc := 39) hX 14 rfl ?_
        exact h17
      · have h15 := h22.2 q21
        obtain ⟨g18, h19⟩ := h15
        refine jk_const (pc := 34) hX 1 rfl (by decide) ?_
        refine jk_goto (pc := 35) hX 37 rfl ?_
        refine jk_store (pc := 37) hX 2 rfl (Nat.le_of_ble_eq_true rfl) (ls' := [.inr 1, .inl v1, .inl 1, .inl v3]) rfl ?_
        refine jk_iinc (pc := 38) hX 3 1 rfl rfl g18 (ls' := [.inr 1, .inl v1, .inl 1, .inl (v3 + 1)]) rfl ?_
        refine jk_goto (pc := 39) hX 14 rfl ?_
        exact h19
set_option maxHeartbeats 4000000 in
theorem bk_F_price_0 {d : Nat} {K : jxK} {X : jxX} (hX : jx_clo jx_G2 (d + 1) (jx_call jx_G2 jx_T (d + 1)) kc_F_price K X) (v1 : Int) (M : jxM)
    (h : (((0 : Int) ≤ v1 ∧ v1 ≤ 20) ∧ ((-2147483648 : Int) ≤ (1 + 11 * v1) + 9 ∧ (1 + 11 * v1) + 9 ≤ 2147483647) ∧ (0 ≤ ((1 + 11 * v1) + 9) ∧ ((1 + 11 * v1) + 9) < 305) ∧ ((0 : Int) ≤ v1 ∧ v1 ≤ 20) ∧ ((-2147483648 : Int) ≤ (1 + 11 * v1) + 10 ∧ (1 + 11 * v1) + 10 ≤ 2147483647) ∧ (0 ≤ ((1 + 11 * v1) + 10) ∧ ((1 + 11 * v1) + 10) < 305) ∧ ((-2147483648 : Int) ≤ 3 * (M 2 ((1 + 11 * v1) + 10)) ∧ 3 * (M 2 ((1 + 11 * v1) + 10)) ≤ 2147483647) ∧ ((-2147483648 : Int) ≤ (M 2 ((1 + 11 * v1) + 9)) - (3 * (M 2 ((1 + 11 * v1) + 10))) ∧ (M 2 ((1 + 11 * v1) + 9)) - (3 * (M 2 ((1 + 11 * v1) + 10))) ≤ 2147483647)) ∧ ((0 ≤ ((M 2 ((1 + 11 * v1) + 9)) - (3 * (M 2 ((1 + 11 * v1) + 10)))) → K (some (.inl ((M 2 ((1 + 11 * v1) + 9)) - (3 * (M 2 ((1 + 11 * v1) + 10)))))) M) ∧ (((M 2 ((1 + 11 * v1) + 9)) - (3 * (M 2 ((1 + 11 * v1) + 10)))) < 0 → K (some (.inl 0)) M))) :
    X 0 [.inr 1, .inl v1, .inr 0] [] M := by
  obtain ⟨⟨g1, g2, g3, g4, g5, g6, g7, g8⟩, h13⟩ := h
  refine jk_aload (pc := 0) hX 0 rfl rfl ?_
  refine jk_getR (pc := 1) hX 7 0 rfl rfl (r := 1) rfl ?_
  refine jk_load (pc := 2) hX 1 rfl rfl ?_
  refine jk_cs (pc := 3) hX 86 1 rfl [.inl v1] [.inr 2] rfl rfl (Nat.le_of_ble_eq_true rfl) (sp_F_at d v1 M g1 ?_)
  show X 4 [.inr 1, .inl v1, .inr 0] [.inl (1 + 11 * v1), .inr 2] M
  refine jk_const (pc := 4) hX 9 rfl (by decide) ?_
  refine jk_add (pc := 5) hX rfl g2 ?_
  refine jk_iald (pc := 6) hX 305 rfl rfl g3 ?_
  refine jk_const (pc := 7) hX 3 rfl (by decide) ?_
  refine jk_aload (pc := 8) hX 0 rfl rfl ?_
  refine jk_getR (pc := 9) hX 7 0 rfl rfl (r := 1) rfl ?_
  refine jk_load (pc := 10) hX 1 rfl rfl ?_
  refine jk_cs (pc := 11) hX 86 1 rfl [.inl v1] [.inr 2, .inl 3, .inl (M 2 ((1 + 11 * v1) + 9))] rfl rfl (Nat.le_of_ble_eq_true rfl) (sp_F_at d v1 M g4 ?_)
  show X 12 [.inr 1, .inl v1, .inr 0] [.inl (1 + 11 * v1), .inr 2, .inl 3, .inl (M 2 ((1 + 11 * v1) + 9))] M
  refine jk_const (pc := 12) hX 10 rfl (by decide) ?_
  refine jk_add (pc := 13) hX rfl g5 ?_
  refine jk_iald (pc := 14) hX 305 rfl rfl g6 ?_
  refine jk_mul (pc := 15) hX rfl g7 ?_
  refine jk_sub (pc := 16) hX rfl g8 ?_
  refine jk_store (pc := 17) hX 2 rfl (Nat.le_of_ble_eq_true rfl) (ls' := [.inr 1, .inl v1, .inl ((M 2 ((1 + 11 * v1) + 9)) - (3 * (M 2 ((1 + 11 * v1) + 10))))]) rfl ?_
  refine jk_load (pc := 18) hX 2 rfl rfl ?_
  refine jk_zge (pc := 19) hX 22 rfl (fun q11 => ?_) (fun q12 => ?_)
  · have h9 := h13.1 q11
    refine jk_load (pc := 22) hX 2 rfl rfl ?_
    exact jk_iret (pc := 23) hX rfl h9
  · have h10 := h13.2 q12
    refine jk_const (pc := 20) hX 0 rfl (by decide) ?_
    refine jk_goto (pc := 21) hX 23 rfl ?_
    exact jk_iret (pc := 23) hX rfl h10
set_option maxHeartbeats 4000000 in
theorem bk_F_stands_0 {d : Nat} {K : jxK} {X : jxX} (hX : jx_clo jx_G2 (d + 1) (jx_call jx_G2 jx_T (d + 1)) kc_F_stands K X) (v1 : Int) (v2 : Int) (M : jxM)
    (h : (((0 : Int) ≤ v1 ∧ v1 ≤ 20) ∧ (0 ≤ (1 + 11 * v1) ∧ (1 + 11 * v1) < 305) ∧ ((-2147483648 : Int) ≤ v2 + (M 2 (1 + 11 * v1)) ∧ v2 + (M 2 (1 + 11 * v1)) ≤ 2147483647)) ∧ (((M 2 271) < (v2 + (M 2 (1 + 11 * v1))) → X 20 [.inr 1, .inl v1, .inl v2, .inl (M 2 (1 + 11 * v1)), .inl 0, .inl 0] [] M) ∧ ((v2 + (M 2 (1 + 11 * v1))) ≤ (M 2 271) → X 20 [.inr 1, .inl v1, .inl v2, .inl (M 2 (1 + 11 * v1)), .inl 1, .inl 0] [] M))) :
    X 0 [.inr 1, .inl v1, .inl v2, .inr 0, .inr 0, .inr 0] [] M := by
  obtain ⟨⟨g1, g2, g3⟩, h8⟩ := h
  refine jk_aload (pc := 0) hX 0 rfl rfl ?_
  refine jk_getR (pc := 1) hX 7 0 rfl rfl (r := 1) rfl ?_
  refine jk_load (pc := 2) hX 1 rfl rfl ?_
  refine jk_cs (pc := 3) hX 86 1 rfl [.inl v1] [.inr 2] rfl rfl (Nat.le_of_ble_eq_true rfl) (sp_F_at d v1 M g1 ?_)
  show X 4 [.inr 1, .inl v1, .inl v2, .inr 0, .inr 0, .inr 0] [.inl (1 + 11 * v1), .inr 2] M
  refine jk_iald (pc := 4) hX 305 rfl rfl g2 ?_
  refine jk_store (pc := 5) hX 3 rfl (Nat.le_of_ble_eq_true rfl) (ls' := [.inr 1, .inl v1, .inl v2, .inl (M 2 (1 + 11 * v1)), .inr 0, .inr 0]) rfl ?_
  refine jk_load (pc := 6) hX 2 rfl rfl ?_
  refine jk_load (pc := 7) hX 3 rfl rfl ?_
  refine jk_add (pc := 8) hX rfl g3 ?_
  refine jk_aload (pc := 9) hX 0 rfl rfl ?_
  refine jk_getR (pc := 10) hX 7 0 rfl rfl (r := 1) rfl ?_
  refine jk_const (pc := 11) hX 271 rfl (by decide) ?_
  refine jk_iald (pc := 12) hX 305 rfl rfl (by decide) ?_
  refine jk_cgt (pc := 13) hX 16 rfl (fun q6 => ?_) (fun q7 => ?_)
  · have h4 := h8.1 q6
    refine jk_const (pc := 16) hX 0 rfl (by decide) ?_
    refine jk_store (pc := 17) hX 4 rfl (Nat.le_of_ble_eq_true rfl) (ls' := [.inr 1, .inl v1, .inl v2, .inl (M 2 (1 + 11 * v1)), .inl 0, .inr 0]) rfl ?_
    refine jk_const (pc := 18) hX 0 rfl (by decide) ?_
    refine jk_store (pc := 19) hX 5 rfl (Nat.le_of_ble_eq_true rfl) (ls' := [.inr 1, .inl v1, .inl v2, .inl (M 2 (1 + 11 * v1)), .inl 0, .inl 0]) rfl ?_
    exact h4
  · have h5 := h8.2 q7
    refine jk_const (pc := 14) hX 1 rfl (by decide) ?_
    refine jk_goto (pc := 15) hX 17 rfl ?_
    refine jk_store (pc := 17) hX 4 rfl (Nat.le_of_ble_eq_true rfl) (ls' := [.inr 1, .inl v1, .inl v2, .inl (M 2 (1 + 11 * v1)), .inl 1, .inr 0]) rfl ?_
    refine jk_const (pc := 18) hX 0 rfl (by decide) ?_
    refine jk_store (pc := 19) hX 5 rfl (Nat.le_of_ble_eq_true rfl) (ls' := [.inr 1, .inl v1, .inl v2, .inl (M 2 (1 + 11 * v1)), .inl 1, .inl 0]) rfl ?_
    exact h5
set_option maxHeartbeats 4000000 in
theorem bk_F_stands_20 {d : Nat} {K : jxK} {X : jxX} (hX : jx_clo jx_G2 (d + 1) (jx_call jx_G2 jx_T (d + 1)) kc_F_stands K X) (v1 : Int) (v2 : Int) (v3 : Int) (v4 : Int) (v5 : Int) (M : jxM)
    (h : ((v3 ≤ v5 → ((v4 = 0 ∨ v4 = 1)) ∧ K (some (.inl v4)) M) ∧ (v5 < v3 → ((v4 = 0 → ((v4 = 0 ∨ v4 = 1)) ∧ K (some (.inl v4)) M) ∧ (v4 ≠ 0 → (((0 : Int) ≤ v1 ∧ v1 ≤ 20) ∧ ((-2147483648 : Int) ≤ (1 + 11 * v1) + 1 ∧ (1 + 11 * v1) + 1 ≤ 2147483647) ∧ ((-2147483648 : Int) ≤ ((1 + 11 * v1) + 1) + v5 ∧ ((1 + 11 * v1) + 1) + v5 ≤ 2147483647) ∧ (0 ≤ (((1 + 11 * v1) + 1) + v5) ∧ (((1 + 11 * v1) + 1) + v5) < 305) ∧ ((-2147483648 : Int) ≤ 272 + v2 ∧ 272 + v2 ≤ 2147483647) ∧ ((-2147483648 : Int) ≤ (272 + v2) + v5 ∧ (272 + v2) + v5 ≤ 2147483647) ∧ (0 ≤ ((272 + v2) + v5) ∧ ((272 + v2) + v5) < 305)) ∧ (((M 2 (((1 + 11 * v1) + 1) + v5)) ≠ (M 2 ((272 + v2) + v5)) → (((-2147483648 : Int) ≤ v5 + 1 ∧ v5 + 1 ≤ 2147483647)) ∧ X 20 [.inr 1, .inl v1, .inl v2, .inl v3, .inl 0, .inl (v5 + 1)] [] M) ∧ ((M 2 (((1 + 11 * v1) + 1) + v5)) = (M 2 ((272 + v2) + v5)) → (((-2147483648 : Int) ≤ v5 + 1 ∧ v5 + 1 ≤ 2147483647)) ∧ X 20 [.inr 1, .inl v1, .inl v2, .inl v3, .inl 1, .inl (v5 + 1)] [] M))))))) :
    X 20 [.inr 1, .inl v1, .inl v2, .inl v3, .inl v4, .inl v5] [] M := by
  refine jk_load (pc := 20) hX 5 rfl rfl ?_
  refine jk_load (pc := 21) hX 3 rfl rfl ?_
  refine jk_cge (pc := 22) hX 49 rfl (fun q27 => ?_) (fun q28 => ?_)
  · have h1 := h.1 q27
    obtain ⟨g3, h4⟩ := h1
    refine jk_load (pc := 49) hX 4 rfl rfl ?_
    exact jk_zret (pc := 50) hX rfl g3 h4
  · have h2 := h.2 q28
    refine jk_load (pc := 23) hX 4 rfl rfl ?_
    refine jk_zeq (pc := 24) hX 49 rfl (fun q25 => ?_) (fun q26 => ?_)
    · have h5 := h2.1 q25
      obtain ⟨g7, h8⟩ := h5
      refine jk_load (pc := 49) hX 4 rfl rfl ?_
      exact jk_zret (pc := 50) hX rfl g7 h8
    · have h6 := h2.2 q26
      obtain ⟨⟨g9, g10, g11, g12, g13, g14, g15⟩, h24⟩ := h6
      refine jk_aload (pc := 25) hX 0 rfl rfl ?_
      refine jk_getR (pc := 26) hX 7 0 rfl rfl (r := 1) rfl ?_
      refine jk_load (pc := 27) hX 1 rfl rfl ?_
      refine jk_cs (pc := 28) hX 86 1 rfl [.inl v1] [.inr 2] rfl rfl (Nat.le_of_ble_eq_true rfl) (sp_F_at d v1 M g9 ?_)
      show X 29 [.inr 1, .inl v1, .inl v2, .inl v3, .inl v4, .inl v5] [.inl (1 + 11 * v1), .inr 2] M
      refine jk_const (pc := 29) hX 1 rfl (by decide) ?_
      refine jk_add (pc := 30) hX rfl g10 ?_
      refine jk_load (pc := 31) hX 5 rfl rfl ?_
      refine jk_add (pc := 32) hX rfl g11 ?_
      refine jk_iald (pc := 33) hX 305 rfl rfl g12 ?_
      refine jk_aload (pc := 34) hX 0 rfl rfl ?_
      refine jk_getR (pc := 35) hX 7 0 rfl rfl (r := 1) rfl ?_
      refine jk_const (pc := 36) hX 272 rfl (by decide) ?_
      refine jk_load (pc := 37) hX 2 rfl rfl ?_
      refine jk_add (pc := 38) hX rfl g13 ?_
      refine jk_load (pc := 39) hX 5 rfl rfl ?_
      refine jk_add (pc := 40) hX rfl g14 ?_
      refine jk_iald (pc := 41) hX 305 rfl rfl g15 ?_
      refine jk_cne (pc := 42) hX 45 rfl (fun q22 => ?_) (fun q23 => ?_)
      · have h16 := h24.1 q22
        obtain ⟨g18, h19⟩ := h16
        refine jk_const (pc := 45) hX 0 rfl (by decide) ?_
        refine jk_store (pc := 46) hX 4 rfl (Nat.le_of_ble_eq_true rfl) (ls' := [.inr 1, .inl v1, .inl v2, .inl v3, .inl 0, .inl v5]) rfl ?_
        refine jk_iinc (pc := 47) hX 5 1 rfl rfl g18 (ls' := [.inr 1, .inl v1, .inl v2, .inl v3, .inl 0, .inl (v5 + 1)]) rfl ?_
        refine jk_goto (pc := 48) hX 20 rfl ?_
        exact h19
      · have h17 := h24.2 q23
        obtain ⟨g20, h21⟩ := h17
        refine jk_const (pc := 43) hX 1 rfl (by decide) ?_
        refine jk_goto (pc := 44) hX 46 rfl ?_
        refine jk_store (pc := 46) hX 4 rfl (Nat.le_of_ble_eq_true rfl) (ls' := [.inr 1, .inl v1, .inl v2, .inl v3, .inl 1, .inl v5]) rfl ?_
        refine jk_iinc (pc := 47) hX 5 1 rfl rfl g20 (ls' := [.inr 1, .inl v1, .inl v2, .inl v3, .inl 1, .inl (v5 + 1)]) rfl ?_
        refine jk_goto (pc := 48) hX 20 rfl ?_
        exact h21
set_option maxHeartbeats 4000000 in
theorem bk_F_mayCover_0 {d : Nat} {K : jxK} {X : jxX} (hX : jx_clo jx_G2 (d + 0) (jx_call jx_G2 jx_T (d + 0)) kc_F_mayCover K X) (v1 : Int) (v2 : Int) (M : jxM)
    (h : ((v2 = (M 2 271) → (((-2147483648 : Int) ≤ v1 + 1 ∧ v1 + 1 ≤ 2147483647)) ∧ X 22 [.inr 1, .inl v1, .inl v2, .inl 1, .inl (v1 + 1)] [] M) ∧ (v2 ≠ (M 2 271) → (((-2147483648 : Int) ≤ 288 + v2 ∧ 288 + v2 ≤ 2147483647) ∧ (0 ≤ (288 + v2) ∧ (288 + v2) < 305)) ∧ (((M 2 (288 + v2)) = 2 → (((-2147483648 : Int) ≤ v1 + 1 ∧ v1 + 1 ≤ 2147483647)) ∧ X 22 [.inr 1, .inl v1, .inl v2, .inl 0, .inl (v1 + 1)] [] M) ∧ ((M 2 (288 + v2)) ≠ 2 → (((-2147483648 : Int) ≤ v1 + 1 ∧ v1 + 1 ≤ 2147483647)) ∧ X 22 [.inr 1, .inl v1, .inl v2, .inl 1, .inl (v1 + 1)] [] M))))) :
    X 0 [.inr 1, .inl v1, .inl v2, .inr 0, .inr 0] [] M := by
  refine jk_load (pc := 0) hX 2 rfl rfl ?_
  refine jk_aload (pc := 1) hX 0 rfl rfl ?_
  refine jk_getR (pc := 2) hX 7 0 rfl rfl (r := 1) rfl ?_
  refine jk_const (pc := 3) hX 271 rfl (by decide) ?_
  refine jk_iald (pc := 4) hX 305 rfl rfl (by decide) ?_
  refine jk_ceq (pc := 5) hX 14 rfl (fun q16 => ?_) (fun q17 => ?_)
  · have h1 := h.1 q16
    obtain ⟨g3, h4⟩ := h1
    refine jk_const (pc := 14) hX 1 rfl (by decide) ?_
    refine jk_goto (pc := 15) hX 17 rfl ?_
    refine jk_store (pc := 17) hX 3 rfl (Nat.le_of_ble_eq_true rfl) (ls' := [.inr 1, .inl v1, .inl v2, .inl 1, .inr 0]) rfl ?_
    refine jk_load (pc := 18) hX 1 rfl rfl ?_
    refine jk_const (pc := 19) hX 1 rfl (by decide) ?_
    refine jk_add (pc := 20) hX rfl g3 ?_
    refine jk_store (pc := 21) hX 4 rfl (Nat.le_of_ble_eq_true rfl) (ls' := [.inr 1, .inl v1, .inl v2, .inl 1, .inl (v1 + 1)]) rfl ?_
    exact h4
  · have h2 := h.2 q17
    obtain ⟨⟨g5, g6⟩, h15⟩ := h2
    refine jk_aload (pc := 6) hX 0 rfl rfl ?_
    refine jk_getR (pc := 7) hX 7 0 rfl rfl (r := 1) rfl ?_
    refine jk_const (pc := 8) hX 288 rfl (by decide) ?_
    refine jk_load (pc := 9) hX 2 rfl rfl ?_
    refine jk_add (pc := 10) hX rfl g5 ?_
    refine jk_iald (pc := 11) hX 305 rfl rfl g6 ?_
    refine jk_const (pc := 12) hX 2 rfl (by decide) ?_
    refine jk_ceq (pc := 13) hX 16 rfl (fun q13 => ?_) (fun q14 => ?_)
    · have h7 := h15.1 q13
      obtain ⟨g9, h10⟩ := h7
      refine jk_const (pc := 16) hX 0 rfl (by decide) ?_
      refine jk_store (pc := 17) hX 3 rfl (Nat.le_of_ble_eq_true rfl) (ls' := [.inr 1, .inl v1, .inl v2, .inl 0, .inr 0]) rfl ?_
      refine jk_load (pc := 18) hX 1 rfl rfl ?_
      refine jk_const (pc := 19) hX 1 rfl (by decide) ?_
      refine jk_add (pc := 20) hX rfl g9 ?_
      refine jk_store (pc := 21) hX 4 rfl (Nat.le_of_ble_eq_true rfl) (ls' := [.inr 1, .inl v1, .inl v2, .inl 0, .inl (v1 + 1)]) rfl ?_
      exact h10
    · have h8 := h15.2 q14
      obtain ⟨g11, h12⟩ := h8
      refine jk_const (pc := 14) hX 1 rfl (by decide) ?_
      refine jk_goto (pc := 15) hX 17 rfl ?_
      refine jk_store (pc := 17) hX 3 rfl (Nat.le_of_ble_eq_true rfl) (ls' := [.inr 1, .inl v1, .inl v2, .inl 1, .inr 0]) rfl ?_
      refine jk_load (pc := 18) hX 1 rfl rfl ?_
      refine jk_const (pc := 19) hX 1 rfl (by decide) ?_
      refine jk_add (pc := 20) hX rfl g11 ?_
      refine jk_store (pc := 21) hX 4 rfl (Nat.le_of_ble_eq_true rfl) (ls' := [.inr 1, .inl v1, .inl v2, .inl 1, .inl (v1 + 1)]) rfl ?_
      exact h12
set_option maxHeartbeats 4000000 in
theorem bk_F_mayCover_22 {d : Nat} {K : jxK} {X : jxX} (hX : jx_clo jx_G2 (d + 0) (jx_call jx_G2 jx_T (d + 0)) kc_F_mayCover K X) (v1 : Int) (v2 : Int) (v3 : Int) (v4 : Int) (M : jxM)
    (h : ((v2 ≤ v4 → ((v3 = 0 ∨ v3 = 1)) ∧ K (some (.inl v3)) M) ∧ (v4 < v2 → ((v3 = 0 → (((-2147483648 : Int) ≤ v4 + 1 ∧ v4 + 1 ≤ 2147483647)) ∧ X 22 [.inr 1, .inl v1, .inl v2, .inl 0, .inl (v4 + 1)] [] M) ∧ (v3 ≠ 0 → (((-2147483648 : Int) ≤ 288 + v4 ∧ 288 + v4 ≤ 2147483647) ∧ (0 ≤ (288 + v4) ∧ (288 + v4) < 305)) ∧ (((M 2 (288 + v4)) = 1 → (((-2147483648 : Int) ≤ v4 + 1 ∧ v4 + 1 ≤ 2147483647)) ∧ X 22 [.inr 1, .inl v1, .inl v2, .inl 0, .inl (v4 + 1)] [] M) ∧ ((M 2 (288 + v4)) ≠ 1 → (((-2147483648 : Int) ≤ v4 + 1 ∧ v4 + 1 ≤ 2147483647)) ∧ X 22 [.inr 1, .inl v1, .inl v2, .inl 1, .inl (v4 + 1)] [] M))))))) :
    X 22 [.inr 1, .inl v1, .inl v2, .inl v3, .inl v4] [] M := by
  refine jk_load (pc := 22) hX 4 rfl rfl ?_
  refine jk_load (pc := 23) hX 2 rfl rfl ?_
  refine jk_cge (pc := 24) hX 41 rfl (fun q22 => ?_) (fun q23 => ?_)
  · have h1 := h.1 q22
    obtain ⟨g3, h4⟩ := h1
    refine jk_load (pc := 41) hX 3 rfl rfl ?_
    exact jk_zret (pc := 42) hX rfl g3 h4
  · have h2 := h.2 q23
    refine jk_load (pc := 25) hX 3 rfl rfl ?_
    refine jk_zeq (pc := 26) hX 37 rfl (fun q20 => ?_) (fun q21 => ?_)
    · have h5 := h2.1 q20
      obtain ⟨g7, h8⟩ := h5
      refine jk_const (pc := 37) hX 0 rfl (by decide) ?_
      refine jk_store (pc := 38) hX 3 rfl (Nat.le_of_ble_eq_true rfl) (ls' := [.inr 1, .inl v1, .inl v2, .inl 0, .inl v4]) rfl ?_
      refine jk_iinc (pc := 39) hX 4 1 rfl rfl g7 (ls' := [.inr 1, .inl v1, .inl v2, .inl 0, .inl (v4 + 1)]) rfl ?_
      refine jk_goto (pc := 40) hX 22 rfl ?_
      exact h8
    · have h6 := h2.2 q21
      obtain ⟨⟨g9, g10⟩, h19⟩ := h6
      refine jk_aload (pc := 27) hX 0 rfl rfl ?_
      refine jk_getR (pc := 28) hX 7 0 rfl rfl (r := 1) rfl ?_
      refine jk_const (pc := 29) hX 288 rfl (by decide) ?_
      refine jk_load (pc := 30) hX 4 rfl rfl ?_
      refine jk_add (pc := 31) hX rfl g9 ?_
      refine jk_iald (pc := 32) hX 305 rfl rfl g10 ?_
      refine jk_const (pc := 33) hX 1 rfl (by decide) ?_
      refine jk_ceq (pc := 34) hX 37 rfl (fun q17 => ?_) (fun q18 => ?_)
      · have h11 := h19.1 q17
        obtain ⟨g13, h14⟩ := h11
        refine jk_const (pc := 37) hX 0 rfl (by decide) ?_
        refine jk_store (pc := 38) hX 3 rfl (Nat.le_of_ble_eq_true rfl) (ls' := [.inr 1, .inl v1, .inl v2, .inl 0, .inl v4]) rfl ?_
        refine jk_iinc (pc := 39) hX 4 1 rfl rfl g13 (ls' := [.inr 1, .inl v1, .inl v2, .inl 0, .inl (v4 + 1)]) rfl ?_
        refine jk_goto (pc := 40) hX 22 rfl ?_
        exact h14
      · have h12 := h19.2 q18
        obtain ⟨g15, h16⟩ := h12
        refine jk_const (pc := 35) hX 1 rfl (by decide) ?_
        refine jk_goto (pc := 36) hX 38 rfl ?_
        refine jk_store (pc := 38) hX 3 rfl (Nat.le_of_ble_eq_true rfl) (ls' := [.inr 1, .inl v1, .inl v2, .inl 1, .inl v4]) rfl ?_
        refine jk_iinc (pc := 39) hX 4 1 rfl rfl g15 (ls' := [.inr 1, .inl v1, .inl v2, .inl 1, .inl (v4 + 1)]) rfl ?_
        refine jk_goto (pc := 40) hX 22 rfl ?_
        exact h16
set_option maxHeartbeats 4000000 in
theorem bk_F_endOf_0 {d : Nat} {K : jxK} {X : jxX} (hX : jx_clo jx_G2 (d + 1) (jx_call jx_G2 jx_T (d + 1)) kc_F_endOf K X) (v1 : Int) (v2 : Int) (M : jxM)
    (h : ((v1 ≠ (-5) → (((0 : Int) ≤ v1 ∧ v1 ≤ 20) ∧ (0 ≤ (1 + 11 * v1) ∧ (1 + 11 * v1) < 305) ∧ ((-2147483648 : Int) ≤ v2 + (M 2 (1 + 11 * v1)) ∧ v2 + (M 2 (1 + 11 * v1)) ≤ 2147483647)) ∧ K (some (.inl (v2 + (M 2 (1 + 11 * v1))))) M) ∧ (v1 = (-5) → (((-2147483648 : Int) ≤ v2 + 1 ∧ v2 + 1 ≤ 2147483647)) ∧ K (some (.inl (v2 + 1))) M))) :
    X 0 [.inr 1, .inl v1, .inl v2] [] M := by
  refine jk_load (pc := 0) hX 1 rfl rfl ?_
  refine jk_const (pc := 1) hX (-5) rfl (by decide) ?_
  refine jk_cne (pc := 2) hX 7 rfl (fun q9 => ?_) (fun q10 => ?_)
  · have h1 := h.1 q9
    obtain ⟨⟨g3, g4, g5⟩, h6⟩ := h1
    refine jk_load (pc := 7) hX 2 rfl rfl ?_
    refine jk_aload (pc := 8) hX 0 rfl rfl ?_
    refine jk_getR (pc := 9) hX 7 0 rfl rfl (r := 1) rfl ?_
    refine jk_load (pc := 10) hX 1 rfl rfl ?_
    refine jk_cs (pc := 11) hX 86 1 rfl [.inl v1] [.inr 2, .inl v2] rfl rfl (Nat.le_of_ble_eq_true rfl) (sp_F_at d v1 M g3 ?_)
    show X 12 [.inr 1, .inl v1, .inl v2] [.inl (1 + 11 * v1), .inr 2, .inl v2] M
    refine jk_iald (pc := 12) hX 305 rfl rfl g4 ?_
    refine jk_add (pc := 13) hX rfl g5 ?_
    exact jk_iret (pc := 14) hX rfl h6
  · have h2 := h.2 q10
    obtain ⟨g7, h8⟩ := h2
    refine jk_load (pc := 3) hX 2 rfl rfl ?_
    refine jk_const (pc := 4) hX 1 rfl (by decide) ?_
    refine jk_add (pc := 5) hX rfl g7 ?_
    refine jk_goto (pc := 6) hX 14 rfl ?_
    exact jk_iret (pc := 14) hX rfl h8
set_option maxHeartbeats 4000000 in
theorem bk_F_classOf_0 {d : Nat} {K : jxK} {X : jxX} (hX : jx_clo jx_G2 (d + 1) (jx_call jx_G2 jx_T (d + 1)) kc_F_classOf K X) (v1 : Int) (M : jxM)
    (h : ((v1 ≠ (-5) → (((0 : Int) ≤ v1 ∧ v1 ≤ 20) ∧ ((-2147483648 : Int) ≤ (1 + 11 * v1) + 8 ∧ (1 + 11 * v1) + 8 ≤ 2147483647) ∧ (0 ≤ ((1 + 11 * v1) + 8) ∧ ((1 + 11 * v1) + 8) < 305)) ∧ K (some (.inl (M 2 ((1 + 11 * v1) + 8)))) M) ∧ (v1 = (-5) → K (some (.inl 5)) M))) :
    X 0 [.inr 1, .inl v1] [] M := by
  refine jk_load (pc := 0) hX 1 rfl rfl ?_
  refine jk_const (pc := 1) hX (-5) rfl (by decide) ?_
  refine jk_cne (pc := 2) hX 5 rfl (fun q7 => ?_) (fun q8 => ?_)
  · have h1 := h.1 q7
    obtain ⟨⟨g3, g4, g5⟩, h6⟩ := h1
    refine jk_aload (pc := 5) hX 0 rfl rfl ?_
    refine jk_getR (pc := 6) hX 7 0 rfl rfl (r := 1) rfl ?_
    refine jk_load (pc := 7) hX 1 rfl rfl ?_
    refine jk_cs (pc := 8) hX 86 1 rfl [.inl v1] [.inr 2] rfl rfl (Nat.le_of_ble_eq_true rfl) (sp_F_at d v1 M g3 ?_)
    show X 9 [.inr 1, .inl v1] [.inl (1 + 11 * v1), .inr 2] M
    refine jk_const (pc := 9) hX 8 rfl (by decide) ?_
    refine jk_add (pc := 10) hX rfl g4 ?_
    refine jk_iald (pc := 11) hX 305 rfl rfl g5 ?_
    exact jk_iret (pc := 12) hX rfl h6
  · have h2 := h.2 q8
    refine jk_const (pc := 3) hX 5 rfl (by decide) ?_
    refine jk_goto (pc := 4) hX 12 rfl ?_
    exact jk_iret (pc := 12) hX rfl h2
set_option maxHeartbeats 4000000 in
theorem bk_F_changed_0 {d : Nat} {K : jxK} {X : jxX} (hX : jx_clo jx_G2 (d + 1) (jx_call jx_G2 jx_T (d + 1)) kc_F_changed K X) (v1 : Int) (v2 : Int) (M : jxM)
    (h : jx_call jx_G2 jx_T (d + 1) 81 [.inr 1] M (fun r M2 => r = none ∧ ((0 ≤ v1 ∧ v1 < 305) ∧ (0 ≤ v1 ∧ v1 < 305)) ∧ K (some (.inl (M2 2 v1))) (jx_up M2 2 v1 v2))) :
    X 0 [.inr 1, .inl v1, .inl v2, .inr 0] [] M := by
  refine jk_aload (pc := 0) hX 0 rfl rfl ?_
  refine jk_cv (pc := 1) hX 81 0 7 rfl 1 [] [] rfl rfl rfl (Nat.le_of_ble_eq_true rfl) (jx_mono (fun r M2 hr => ?_) h)
  obtain ⟨rfl, h3⟩ := hr
  show X 2 [.inr 1, .inl v1, .inl v2, .inr 0] [] M2
  obtain ⟨⟨g4, g5⟩, h6⟩ := h3
  refine jk_aload (pc := 2) hX 0 rfl rfl ?_
  refine jk_getR (pc := 3) hX 7 0 rfl rfl (r := 1) rfl ?_
  refine jk_load (pc := 4) hX 1 rfl rfl ?_
  refine jk_iald (pc := 5) hX 305 rfl rfl g4 ?_
  refine jk_store (pc := 6) hX 3 rfl (Nat.le_of_ble_eq_true rfl) (ls' := [.inr 1, .inl v1, .inl v2, .inl (M2 2 v1)]) rfl ?_
  refine jk_aload (pc := 7) hX 0 rfl rfl ?_
  refine jk_getR (pc := 8) hX 7 0 rfl rfl (r := 1) rfl ?_
  refine jk_load (pc := 9) hX 1 rfl rfl ?_
  refine jk_load (pc := 10) hX 2 rfl rfl ?_
  refine jk_iast (pc := 11) hX 305 rfl rfl g5 ?_
  refine jk_load (pc := 12) hX 3 rfl rfl ?_
  exact jk_iret (pc := 13) hX rfl h6
