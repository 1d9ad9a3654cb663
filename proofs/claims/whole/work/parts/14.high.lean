set_option maxHeartbeats 4000000 in
theorem bk_D_drop_0 {d : Nat} {K : jxK} {X : jxX} (hX : jx_clo jx_G1 (d + 2) (jx_call jx_G1 jx_T (d + 2)) kc_D_drop K X) (v1 : Int) (M : jxM)
    (h : X 2 [.inr 5, .inl v1, .inl v1] [] M) :
    X 0 [.inr 5, .inl v1, .inr 0] [] M := by
  refine jk_load (pc := 0) hX 1 rfl rfl ?_
  refine jk_store (pc := 1) hX 2 rfl (Nat.le_of_ble_eq_true rfl) (ls' := [.inr 5, .inl v1, .inl v1]) rfl ?_
  exact h
set_option maxHeartbeats 4000000 in
theorem bk_D_drop_2 {d : Nat} {K : jxK} {X : jxX} (hX : jx_clo jx_G1 (d + 2) (jx_call jx_G1 jx_T (d + 2)) kc_D_drop K X) (v1 : Int) (v2 : Int) (M : jxM)
    (h : (((-2147483648 : Int) ≤ v2 + 1 ∧ v2 + 1 ≤ 2147483647)) ∧ (((M 5 6) ≤ (v2 + 1) → (((-2147483648 : Int) ≤ (M 5 6) - 1 ∧ (M 5 6) - 1 ≤ 2147483647)) ∧ K none (jx_up M 5 6 ((M 5 6) - 1))) ∧ ((v2 + 1) < (M 5 6) → (((-2147483648 : Int) ≤ v2 + 1 ∧ v2 + 1 ≤ 2147483647)) ∧ jx_call jx_G1 jx_T (d + 2) 3 [.inr 5, .inl (v2 + 1)] M (fun r M8 => r = none ∧ (((-2147483648 : Int) ≤ v2 + 1 ∧ v2 + 1 ≤ 2147483647)) ∧ X 2 [.inr 5, .inl v1, .inl (v2 + 1)] [] M8)))) :
    X 2 [.inr 5, .inl v1, .inl v2] [] M := by
  obtain ⟨g1, h15⟩ := h
  refine jk_load (pc := 2) hX 2 rfl rfl ?_
  refine jk_const (pc := 3) hX 1 rfl (by decide) ?_
  refine jk_add (pc := 4) hX rfl g1 ?_
  refine jk_aload (pc := 5) hX 0 rfl rfl ?_
  refine jk_getI (pc := 6) hX 0 6 rfl rfl rfl ?_
  refine jk_cge (pc := 7) hX 15 rfl (fun q13 => ?_) (fun q14 => ?_)
  · have h2 := h15.1 q13
    obtain ⟨g4, h5⟩ := h2
    refine jk_aload (pc := 15) hX 0 rfl rfl ?_
    refine jk_dup (pc := 16) hX rfl ?_
    refine jk_getI (pc := 17) hX 0 6 rfl rfl rfl ?_
    refine jk_const (pc := 18) hX 1 rfl (by decide) ?_
    refine jk_sub (pc := 19) hX rfl g4 ?_
    refine jk_put (pc := 20) hX 0 6 rfl rfl rfl ?_
    exact jk_vret (pc := 21) hX rfl h5
  · have h3 := h15.2 q14
    obtain ⟨g6, h12⟩ := h3
    refine jk_aload (pc := 8) hX 0 rfl rfl ?_
    refine jk_load (pc := 9) hX 2 rfl rfl ?_
    refine jk_const (pc := 10) hX 1 rfl (by decide) ?_
    refine jk_add (pc := 11) hX rfl g6 ?_
    refine jk_cv (pc := 12) hX 3 1 0 rfl 5 [.inl (v2 + 1)] [] rfl rfl rfl (Nat.le_of_ble_eq_true rfl) (jx_mono (fun r M8 hr => ?_) h12)
    obtain ⟨rfl, h9⟩ := hr
    show X 13 [.inr 5, .inl v1, .inl v2] [] M8
    obtain ⟨g10, h11⟩ := h9
    refine jk_iinc (pc := 13) hX 2 1 rfl rfl g10 (ls' := [.inr 5, .inl v1, .inl (v2 + 1)]) rfl ?_
    refine jk_goto (pc := 14) hX 2 rfl ?_
    exact h11
set_option maxHeartbeats 4000000 in
theorem bk_T_readingError_0 {d : Nat} {K : jxK} {X : jxX} (hX : jx_clo jx_G1 (d + 2) (jx_call jx_G1 jx_T (d + 2)) kc_T_readingError K X) (M : jxM)
    (h : (((M 2 1) ≠ 0 → (((0 : Int) ≤ (M 2 1) ∧ (M 2 1) ≤ 20)) ∧ K (some (.inl (t_err (M 3) (6 : Int) (-1) 0 ((M 2 1)).toNat))) M) ∧ ((M 2 1) = 0 → K (some (.inl 0)) M))) :
    X 0 [.inr 2] [] M := by
  refine jk_aload (pc := 0) hX 0 rfl rfl ?_
  refine jk_getI (pc := 1) hX 5 1 rfl rfl rfl ?_
  refine jk_zne (pc := 2) hX 5 rfl (fun q5 => ?_) (fun q6 => ?_)
  · have h1 := h.1 q5
    obtain ⟨g3, h4⟩ := h1
    refine jk_aload (pc := 5) hX 0 rfl rfl ?_
    refine jk_const (pc := 6) hX 6 rfl (by decide) ?_
    refine jk_cv (pc := 7) hX 45 1 5 rfl 2 [.inl 6] [] rfl rfl rfl (Nat.le_of_ble_eq_true rfl) (sp_T_firstError d (6 : Int) M g3 ?_)
    show X 8 [.inr 2] [.inl (t_err (M 3) (6 : Int) (-1) 0 ((M 2 1)).toNat)] M
    exact jk_iret (pc := 8) hX rfl h4
  · have h2 := h.2 q6
    refine jk_const (pc := 3) hX 0 rfl (by decide) ?_
    refine jk_goto (pc := 4) hX 8 rfl ?_
    exact jk_iret (pc := 8) hX rfl h2
set_option maxHeartbeats 4000000 in
theorem bk_C_appendCharacter_0 {d : Nat} {K : jxK} {X : jxX} (hX : jx_clo jx_G1 (d + 1) (jx_call jx_G1 jx_T (d + 1)) kc_C_appendCharacter K X) (v1 : Int) (M : jxM)
    (h : ((¬ (v1 < (0 : Int) ∨ (255 : Int) < v1) → (((M 2 1) < 20 → jx_call jx_G1 jx_T (d + 1) 43 [.inr 2, .inl v1] M (fun r M6 => r = none ∧ K (some (.inl (M6 2 1))) M6)) ∧ (20 ≤ (M 2 1) → K (some (.inl (-3))) M))) ∧ (v1 < (0 : Int) ∨ (255 : Int) < v1 → K (some (.inl (-1))) M))) :
    X 0 [.inr 1, .inl v1] [] M := by
  refine jk_load (pc := 0) hX 1 rfl rfl ?_
  refine jk_const (pc := 1) hX 0 rfl (by decide) ?_
  refine jk_const (pc := 2) hX 255 rfl (by decide) ?_
  refine jk_cs (pc := 3) hX 79 3 rfl [.inl v1, .inl 0, .inl 255] [] rfl rfl (Nat.le_of_ble_eq_true rfl) (sp_C_isOutside d v1 (0 : Int) (255 : Int) M  ?_)
  show X 4 [.inr 1, .inl v1] [.inl (jx_b (v1 < (0 : Int) ∨ (255 : Int) < v1))] M
  refine jk_zeqB (pc := 4) hX 7 rfl (fun q10 => ?_) (fun q11 => ?_)
  · have h1 := h.1 q10
    refine jk_aload (pc := 7) hX 0 rfl rfl ?_
    refine jk_getR (pc := 8) hX 6 0 rfl rfl (r := 1) rfl ?_
    refine jk_getI (pc := 9) hX 5 1 rfl rfl rfl ?_
    refine jk_const (pc := 10) hX 20 rfl (by decide) ?_
    refine jk_clt (pc := 11) hX 14 rfl (fun q8 => ?_) (fun q9 => ?_)
    · have h3 := h1.1 q8
      refine jk_aload (pc := 14) hX 0 rfl rfl ?_
      refine jk_getR (pc := 15) hX 6 0 rfl rfl (r := 1) rfl ?_
      refine jk_load (pc := 16) hX 1 rfl rfl ?_
      refine jk_cv (pc := 17) hX 43 1 5 rfl 2 [.inl v1] [] rfl rfl rfl (Nat.le_of_ble_eq_true rfl) (jx_mono (fun r M6 hr => ?_) h3)
      obtain ⟨rfl, h7⟩ := hr
      show X 18 [.inr 1, .inl v1] [] M6
      refine jk_aload (pc := 18) hX 0 rfl rfl ?_
      refine jk_getR (pc := 19) hX 6 0 rfl rfl (r := 1) rfl ?_
      refine jk_getI (pc := 20) hX 5 1 rfl rfl rfl ?_
      exact jk_iret (pc := 21) hX rfl h7
    · have h4 := h1.2 q9
      refine jk_const (pc := 12) hX (-3) rfl (by decide) ?_
      exact jk_iret (pc := 13) hX rfl h4
  · have h2 := h.2 q11
    refine jk_const (pc := 5) hX (-1) rfl (by decide) ?_
    exact jk_iret (pc := 6) hX rfl h2
set_option maxHeartbeats 4000000 in
theorem bk_C_clearText_0 {d : Nat} {K : jxK} {X : jxX} (hX : jx_clo jx_G1 (d + 0) (jx_call jx_G1 jx_T (d + 0)) kc_C_clearText K X) (M : jxM)
    (h : K (some (.inl (M 2 1))) (jx_up M 2 1 0)) :
    X 0 [.inr 1, .inr 0] [] M := by
  refine jk_aload (pc := 0) hX 0 rfl rfl ?_
  refine jk_getR (pc := 1) hX 6 0 rfl rfl (r := 1) rfl ?_
  refine jk_getI (pc := 2) hX 5 1 rfl rfl rfl ?_
  refine jk_store (pc := 3) hX 1 rfl (Nat.le_of_ble_eq_true rfl) (ls' := [.inr 1, .inl (M 2 1)]) rfl ?_
  refine jk_aload (pc := 4) hX 0 rfl rfl ?_
  refine jk_getR (pc := 5) hX 6 0 rfl rfl (r := 1) rfl ?_
  refine jk_const (pc := 6) hX 0 rfl (by decide) ?_
  refine jk_put (pc := 7) hX 5 1 rfl rfl rfl ?_
  refine jk_load (pc := 8) hX 1 rfl rfl ?_
  exact jk_iret (pc := 9) hX rfl h
set_option maxHeartbeats 4000000 in
theorem bk_C_entryCount_0 {d : Nat} {K : jxK} {X : jxX} (hX : jx_clo jx_G1 (d + 0) (jx_call jx_G1 jx_T (d + 0)) kc_C_entryCount K X) (M : jxM)
    (h : K (some (.inl (M 5 6))) M) :
    X 0 [.inr 1] [] M := by
  refine jk_aload (pc := 0) hX 0 rfl rfl ?_
  refine jk_getR (pc := 1) hX 6 1 rfl rfl (r := 3) rfl ?_
  refine jk_getR (pc := 2) hX 3 0 rfl rfl (r := 4) rfl ?_
  refine jk_getI (pc := 3) hX 0 6 rfl rfl rfl ?_
  exact jk_iret (pc := 4) hX rfl h
set_option maxHeartbeats 4000000 in
theorem bk_C_wordOf_0 {d : Nat} {K : jxK} {X : jxX} (hX : jx_clo jx_G1 (d + 2) (jx_call jx_G1 jx_T (d + 2)) kc_C_wordOf K X) (v1 : Int) (M : jxM)
    (h : (((0 : Int) ≤ (M 5 6) ∧ (M 5 6) ≤ 20)) ∧ ((¬ (v1 < 0 ∨ (M 5 6) ≤ v1) → ((0 ≤ v1 ∧ v1 < 20)) ∧ K (some (.inl (M 8 v1))) M) ∧ (v1 < 0 ∨ (M 5 6) ≤ v1 → K (some (.inl (-1))) M))) :
    X 0 [.inr 1, .inl v1] [] M := by
  obtain ⟨g1, h8⟩ := h
  refine jk_aload (pc := 0) hX 0 rfl rfl ?_
  refine jk_load (pc := 1) hX 1 rfl rfl ?_
  refine jk_cv (pc := 2) hX 75 1 6 rfl 1 [.inl v1] [] rfl rfl rfl (Nat.le_of_ble_eq_true rfl) (sp_C_isNoEntry d v1 M g1 ?_)
  show X 3 [.inr 1, .inl v1] [.inl (jx_b (v1 < 0 ∨ (M 5 6) ≤ v1))] M
  refine jk_zeqB (pc := 3) hX 6 rfl (fun q6 => ?_) (fun q7 => ?_)
  · have h2 := h8.1 q6
    obtain ⟨g4, h5⟩ := h2
    refine jk_aload (pc := 6) hX 0 rfl rfl ?_
    refine jk_getR (pc := 7) hX 6 1 rfl rfl (r := 3) rfl ?_
    refine jk_getR (pc := 8) hX 3 0 rfl rfl (r := 4) rfl ?_
    refine jk_getR (pc := 9) hX 0 2 rfl rfl (r := 7) rfl ?_
    refine jk_load (pc := 10) hX 1 rfl rfl ?_
    refine jk_iald (pc := 11) hX 20 rfl rfl g4 ?_
    exact jk_iret (pc := 12) hX rfl h5
  · have h3 := h8.2 q7
    refine jk_const (pc := 4) hX (-1) rfl (by decide) ?_
    exact jk_iret (pc := 5) hX rfl h3
set_option maxHeartbeats 4000000 in
theorem bk_C_costOf_0 {d : Nat} {K : jxK} {X : jxX} (hX : jx_clo jx_G1 (d + 2) (jx_call jx_G1 jx_T (d + 2)) kc_C_costOf K X) (v1 : Int) (M : jxM)
    (h : (((0 : Int) ≤ (M 5 6) ∧ (M 5 6) ≤ 20)) ∧ ((¬ (v1 < 0 ∨ (M 5 6) ≤ v1) → ((((0 : Int) ≤ v1 ∧ v1 < 20) ∧ ((0 : Int) ≤ (M 10 v1) ∧ (M 10 v1) ≤ 99) ∧ ((0 : Int) ≤ (M 11 v1) ∧ (M 11 v1) ≤ 9))) ∧ K (some (.inl (max 0 ((M 10 v1) - 3 * (M 11 v1))))) M) ∧ (v1 < 0 ∨ (M 5 6) ≤ v1 → K (some (.inl (-1))) M))) :
    X 0 [.inr 1, .inl v1] [] M := by
  obtain ⟨g1, h8⟩ := h
  refine jk_aload (pc := 0) hX 0 rfl rfl ?_
  refine jk_load (pc := 1) hX 1 rfl rfl ?_
  refine jk_cv (pc := 2) hX 75 1 6 rfl 1 [.inl v1] [] rfl rfl rfl (Nat.le_of_ble_eq_true rfl) (sp_C_isNoEntry d v1 M g1 ?_)
  show X 3 [.inr 1, .inl v1] [.inl (jx_b (v1 < 0 ∨ (M 5 6) ≤ v1))] M
  refine jk_zeqB (pc := 3) hX 6 rfl (fun q6 => ?_) (fun q7 => ?_)
  · have h2 := h8.1 q6
    obtain ⟨g4, h5⟩ := h2
    refine jk_aload (pc := 6) hX 0 rfl rfl ?_
    refine jk_getR (pc := 7) hX 6 1 rfl rfl (r := 3) rfl ?_
    refine jk_getR (pc := 8) hX 3 0 rfl rfl (r := 4) rfl ?_
    refine jk_load (pc := 9) hX 1 rfl rfl ?_
    refine jk_cv (pc := 10) hX 6 1 0 rfl 5 [.inl v1] [] rfl rfl rfl (Nat.le_of_ble_eq_true rfl) (sp_D_presentCost d v1 M g4 ?_)
    show X 11 [.inr 1, .inl v1] [.inl (max 0 ((M 10 v1) - 3 * (M 11 v1)))] M
    exact jk_iret (pc := 11) hX rfl h5
  · have h3 := h8.2 q7
    refine jk_const (pc := 4) hX (-1) rfl (by decide) ?_
    exact jk_iret (pc := 5) hX rfl h3
set_option maxHeartbeats 4000000 in
theorem bk_C_useCount_0 {d : Nat} {K : jxK} {X : jxX} (hX : jx_clo jx_G1 (d + 2) (jx_call jx_G1 jx_T (d + 2)) kc_C_useCount K X) (v1 : Int) (M : jxM)
    (h : (((0 : Int) ≤ (M 5 6) ∧ (M 5 6) ≤ 20)) ∧ ((¬ (v1 < 0 ∨ (M 5 6) ≤ v1) → ((0 ≤ v1 ∧ v1 < 20)) ∧ K (some (.inl (M 11 v1))) M) ∧ (v1 < 0 ∨ (M 5 6) ≤ v1 → K (some (.inl (-1))) M))) :
    X 0 [.inr 1, .inl v1] [] M := by
  obtain ⟨g1, h8⟩ := h
  refine jk_aload (pc := 0) hX 0 rfl rfl ?_
  refine jk_load (pc := 1) hX 1 rfl rfl ?_
  refine jk_cv (pc := 2) hX 75 1 6 rfl 1 [.inl v1] [] rfl rfl rfl (Nat.le_of_ble_eq_true rfl) (sp_C_isNoEntry d v1 M g1 ?_)
  show X 3 [.inr 1, .inl v1] [.inl (jx_b (v1 < 0 ∨ (M 5 6) ≤ v1))] M
  refine jk_zeqB (pc := 3) hX 6 rfl (fun q6 => ?_) (fun q7 => ?_)
  · have h2 := h8.1 q6
    obtain ⟨g4, h5⟩ := h2
    refine jk_aload (pc := 6) hX 0 rfl rfl ?_
    refine jk_getR (pc := 7) hX 6 1 rfl rfl (r := 3) rfl ?_
    refine jk_getR (pc := 8) hX 3 0 rfl rfl (r := 4) rfl ?_
    refine jk_getR (pc := 9) hX 0 5 rfl rfl (r := 10) rfl ?_
    refine jk_load (pc := 10) hX 1 rfl rfl ?_
    refine jk_iald (pc := 11) hX 20 rfl rfl g4 ?_
    exact jk_iret (pc := 12) hX rfl h5
  · have h3 := h8.2 q7
    refine jk_const (pc := 4) hX (-1) rfl (by decide) ?_
    exact jk_iret (pc := 5) hX rfl h3
set_option maxHeartbeats 4000000 in
theorem bk_C_entriesWithPrefix_0 {d : Nat} {K : jxK} {X : jxX} (hX : jx_clo jx_G1 (d + 1) (jx_call jx_G1 jx_T (d + 1)) kc_C_entriesWithPrefix K X) (M : jxM)
    (h : X 8 [.inr 1, .inr 5, .inl 0, .inl 0] [] M) :
    X 0 [.inr 1, .inr 0, .inr 0, .inr 0] [] M := by
  refine jk_aload (pc := 0) hX 0 rfl rfl ?_
  refine jk_getR (pc := 1) hX 6 1 rfl rfl (r := 3) rfl ?_
  refine jk_getR (pc := 2) hX 3 0 rfl rfl (r := 4) rfl ?_
  refine jk_astore (pc := 3) hX 1 rfl (Nat.le_of_ble_eq_true rfl) (ls' := [.inr 1, .inr 5, .inr 0, .inr 0]) rfl ?_
  refine jk_const (pc := 4) hX 0 rfl (by decide) ?_
  refine jk_store (pc := 5) hX 2 rfl (Nat.le_of_ble_eq_true rfl) (ls' := [.inr 1, .inr 5, .inl 0, .inr 0]) rfl ?_
  refine jk_const (pc := 6) hX 0 rfl (by decide) ?_
  refine jk_store (pc := 7) hX 3 rfl (Nat.le_of_ble_eq_true rfl) (ls' := [.inr 1, .inr 5, .inl 0, .inl 0]) rfl ?_
  exact h
set_option maxHeartbeats 4000000 in
theorem bk_C_entriesWithPrefix_8 {d : Nat} {K : jxK} {X : jxX} (hX : jx_clo jx_G1 (d + 1) (jx_call jx_G1 jx_T (d + 1)) kc_C_entriesWithPrefix K X) (v2 : Int) (v3 : Int) (M : jxM)
    (h : (((M 5 6) ≤ v3 → K (some (.inl v2)) M) ∧ (v3 < (M 5 6) → ((((0 : Int) ≤ v3 ∧ v3 < 20) ∧ ((0 : Int) ≤ (M 2 1) ∧ (M 2 1) ≤ 20) ∧ (M 7 v3) ≤ 6)) ∧ ((¬ (t_begins M v3) → (((-2147483648 : Int) ≤ v3 + 1 ∧ v3 + 1 ≤ 2147483647)) ∧ X 8 [.inr 1, .inr 5, .inl v2, .inl (v3 + 1)] [] M) ∧ (t_begins M v3 → (((-2147483648 : Int) ≤ v2 + 1 ∧ v2 + 1 ≤ 2147483647) ∧ ((-2147483648 : Int) ≤ v3 + 1 ∧ v3 + 1 ≤ 2147483647)) ∧ X 8 [.inr 1, .inr 5, .inl (v2 + 1), .inl (v3 + 1)] [] M))))) :
    X 8 [.inr 1, .inr 5, .inl v2, .inl v3] [] M := by
  refine jk_load (pc := 8) hX 3 rfl rfl ?_
  refine jk_aload (pc := 9) hX 1 rfl rfl ?_
  refine jk_getI (pc := 10) hX 0 6 rfl rfl rfl ?_
  refine jk_cge (pc := 11) hX 21 rfl (fun q14 => ?_) (fun q15 => ?_)
  · have h1 := h.1 q14
    refine jk_load (pc := 21) hX 2 rfl rfl ?_
    exact jk_iret (pc := 22) hX rfl h1
  · have h2 := h.2 q15
    obtain ⟨g3, h13⟩ := h2
    refine jk_aload (pc := 12) hX 1 rfl rfl ?_
    refine jk_load (pc := 13) hX 3 rfl rfl ?_
    refine jk_aload (pc := 14) hX 0 rfl rfl ?_
    refine jk_getR (pc := 15) hX 6 0 rfl rfl (r := 1) rfl ?_
    refine jk_cv (pc := 16) hX 4 2 0 rfl 5 [.inl v3, .inr 2] [] rfl rfl rfl (Nat.le_of_ble_eq_true rfl) (sp_D_beginsWith d v3 M g3 ?_)
    show X 17 [.inr 1, .inr 5, .inl v2, .inl v3] [.inl (jx_b (t_begins M v3))] M
    refine jk_zeqB (pc := 17) hX 19 rfl (fun q11 => ?_) (fun q12 => ?_)
    · have h4 := h13.1 q11
      obtain ⟨g6, h7⟩ := h4
      refine jk_iinc (pc := 19) hX 3 1 rfl rfl g6 (ls' := [.inr 1, .inr 5, .inl v2, .inl (v3 + 1)]) rfl ?_
      refine jk_goto (pc := 20) hX 8 rfl ?_
      exact h7
    · have h5 := h13.2 q12
      obtain ⟨⟨g8, g9⟩, h10⟩ := h5
      refine jk_iinc (pc := 18) hX 2 1 rfl rfl g8 (ls' := [.inr 1, .inr 5, .inl (v2 + 1), .inl v3]) rfl ?_
      refine jk_iinc (pc := 19) hX 3 1 rfl rfl g9 (ls' := [.inr 1, .inr 5, .inl (v2 + 1), .inl (v3 + 1)]) rfl ?_
      refine jk_goto (pc := 20) hX 8 rfl ?_
      exact h10
set_option maxHeartbeats 4000000 in
theorem bk_C_inputLength_0 {d : Nat} {K : jxK} {X : jxX} (hX : jx_clo jx_G1 (d + 0) (jx_call jx_G1 jx_T (d + 0)) kc_C_inputLength K X) (M : jxM)
    (h : K (some (.inl (M 4 5))) M) :
    X 0 [.inr 1] [] M := by
  refine jk_aload (pc := 0) hX 0 rfl rfl ?_
  refine jk_getR (pc := 1) hX 6 1 rfl rfl (r := 3) rfl ?_
  refine jk_getI (pc := 2) hX 3 5 rfl rfl rfl ?_
  exact jk_iret (pc := 3) hX rfl h
set_option maxHeartbeats 4000000 in
theorem bk_C_segmentsAt_0 {d : Nat} {K : jxK} {X : jxX} (hX : jx_clo jx_G1 (d + 2) (jx_call jx_G1 jx_T (d + 2)) kc_C_segmentsAt K X) (v1 : Int) (M : jxM)
    (h : ((¬ (v1 < 0 ∨ (M 4 5) < v1) → X 10 [.inr 1, .inl v1, .inl 0, .inl 0] [] M) ∧ (v1 < 0 ∨ (M 4 5) < v1 → K (some (.inl (-1))) M))) :
    X 0 [.inr 1, .inl v1, .inr 0, .inr 0] [] M := by
  refine jk_aload (pc := 0) hX 0 rfl rfl ?_
  refine jk_load (pc := 1) hX 1 rfl rfl ?_
  refine jk_cv (pc := 2) hX 76 1 6 rfl 1 [.inl v1] [] rfl rfl rfl (Nat.le_of_ble_eq_true rfl) (sp_C_isNoGap d v1 M  ?_)
  show X 3 [.inr 1, .inl v1, .inr 0, .inr 0] [.inl (jx_b (v1 < 0 ∨ (M 4 5) < v1))] M
  refine jk_zeqB (pc := 3) hX 6 rfl (fun q3 => ?_) (fun q4 => ?_)
  · have h1 := h.1 q3
    refine jk_const (pc := 6) hX 0 rfl (by decide) ?_
    refine jk_store (pc := 7) hX 2 rfl (Nat.le_of_ble_eq_true rfl) (ls' := [.inr 1, .inl v1, .inl 0, .inr 0]) rfl ?_
    refine jk_const (pc := 8) hX 0 rfl (by decide) ?_
    refine jk_store (pc := 9) hX 3 rfl (Nat.le_of_ble_eq_true rfl) (ls' := [.inr 1, .inl v1, .inl 0, .inl 0]) rfl ?_
    exact h1
  · have h2 := h.2 q4
    refine jk_const (pc := 4) hX (-1) rfl (by decide) ?_
    exact jk_iret (pc := 5) hX rfl h2
set_option maxHeartbeats 4000000 in
theorem bk_C_segmentsAt_10 {d : Nat} {K : jxK} {X : jxX} (hX : jx_clo jx_G1 (d + 2) (jx_call jx_G1 jx_T (d + 2)) kc_C_segmentsAt K X) (v1 : Int) (v2 : Int) (v3 : Int) (M : jxM)
    (h : (((M 5 6) ≤ v3 → K (some (.inl v2)) M) ∧ (v3 < (M 5 6) → ((((0 : Int) ≤ v3 ∧ v3 < 20) ∧ ((0 : Int) ≤ (M 7 v3) ∧ (M 7 v3) ≤ 6) ∧ (M 4 5) ≤ 16 ∧ (0 : Int) ≤ v1 ∧ v1 ≤ 16)) ∧ ((¬ (m_stands M v3 v1) → (((-2147483648 : Int) ≤ v3 + 1 ∧ v3 + 1 ≤ 2147483647)) ∧ X 10 [.inr 1, .inl v1, .inl v2, .inl (v3 + 1)] [] M) ∧ (m_stands M v3 v1 → (((-2147483648 : Int) ≤ v2 + 1 ∧ v2 + 1 ≤ 2147483647) ∧ ((-2147483648 : Int) ≤ v3 + 1 ∧ v3 + 1 ≤ 2147483647)) ∧ X 10 [.inr 1, .inl v1, .inl (v2 + 1), .inl (v3 + 1)] [] M))))) :
    X 10 [.inr 1, .inl v1, .inl v2, .inl v3] [] M := by
  refine jk_load (pc := 10) hX 3 rfl rfl ?_
  refine jk_aload (pc := 11) hX 0 rfl rfl ?_
  refine jk_getR (pc := 12) hX 6 1 rfl rfl (r := 3) rfl ?_
  refine jk_getR (pc := 13) hX 3 0 rfl rfl (r := 4) rfl ?_
  refine jk_getI (pc := 14) hX 0 6 rfl rfl rfl ?_
  refine jk_cge (pc := 15) hX 25 rfl (fun q14 => ?_) (fun q15 => ?_)
  · have h1 := h.1 q14
    refine jk_load (pc := 25) hX 2 rfl rfl ?_
    exact jk_iret (pc := 26) hX rfl h1
  · have h2 := h.2 q15
    obtain ⟨g3, h13⟩ := h2
    refine jk_aload (pc := 16) hX 0 rfl rfl ?_
    refine jk_getR (pc := 17) hX 6 1 rfl rfl (r := 3) rfl ?_
    refine jk_load (pc := 18) hX 3 rfl rfl ?_
    refine jk_load (pc := 19) hX 1 rfl rfl ?_
    refine jk_cv (pc := 20) hX 19 2 3 rfl 4 [.inl v3, .inl v1] [] rfl rfl rfl (Nat.le_of_ble_eq_true rfl) (sp_M_standsAt (d + 1) v3 v1 M g3 ?_)
    show X 21 [.inr 1, .inl v1, .inl v2, .inl v3] [.inl (jx_b (m_stands M v3 v1))] M
    refine jk_zeqB (pc := 21) hX 23 rfl (fun q11 => ?_) (fun q12 => ?_)
    · have h4 := h13.1 q11
      obtain ⟨g6, h7⟩ := h4
      refine jk_iinc (pc := 23) hX 3 1 rfl rfl g6 (ls' := [.inr 1, .inl v1, .inl v2, .inl (v3 + 1)]) rfl ?_
      refine jk_goto (pc := 24) hX 10 rfl ?_
      exact h7
    · have h5 := h13.2 q12
      obtain ⟨⟨g8, g9⟩, h10⟩ := h5
      refine jk_iinc (pc := 22) hX 2 1 rfl rfl g8 (ls' := [.inr 1, .inl v1, .inl (v2 + 1), .inl v3]) rfl ?_
      refine jk_iinc (pc := 23) hX 3 1 rfl rfl g9 (ls' := [.inr 1, .inl v1, .inl (v2 + 1), .inl (v3 + 1)]) rfl ?_
      refine jk_goto (pc := 24) hX 10 rfl ?_
      exact h10
set_option maxHeartbeats 4000000 in
theorem bk_F_appendCharacter_0 {d : Nat} {K : jxK} {X : jxX} (hX : jx_clo jx_G2 (d + 1) (jx_call jx_G2 jx_T (d + 1)) kc_F_appendCharacter K X) (v1 : Int) (M : jxM)
    (h : (((0 : Int) ≤ v1 ∧ v1 ≤ (255 : Int) → (((M 1 4) ≠ 20 → ((0 ≤ (M 1 4) ∧ (M 1 4) < 20) ∧ ((-2147483648 : Int) ≤ (M 1 4) + 1 ∧ (M 1 4) + 1 ≤ 2147483647)) ∧ K (some (.inl (((M 1 4) + 1)))) (jx_up (jx_up M 4 (M 1 4) v1) 1 4 ((M 1 4) + 1))) ∧ ((M 1 4) = 20 → K (some (.inl (-3))) M))) ∧ (¬ ((0 : Int) ≤ v1 ∧ v1 ≤ (255 : Int)) → K (some (.inl (-1))) M))) :
    X 0 [.inr 1, .inl v1] [] M := by
  refine jk_load (pc := 0) hX 1 rfl rfl ?_
  refine jk_const (pc := 1) hX 0 rfl (by decide) ?_
  refine jk_const (pc := 2) hX 255 rfl (by decide) ?_
  refine jk_cs (pc := 3) hX 80 3 rfl [.inl v1, .inl 0, .inl 255] [] rfl rfl (Nat.le_of_ble_eq_true rfl) (sp_F_in d v1 (0 : Int) (255 : Int) M  ?_)
  show X 4 [.inr 1, .inl v1] [.inl (jx_b ((0 : Int) ≤ v1 ∧ v1 ≤ (255 : Int)))] M
  refine jk_zneB (pc := 4) hX 7 rfl (fun q10 => ?_) (fun q11 => ?_)
  · have h1 := h.1 q10
    refine jk_aload (pc := 7) hX 0 rfl rfl ?_
    refine jk_getI (pc := 8) hX 7 4 rfl rfl rfl ?_
    refine jk_const (pc := 9) hX 20 rfl (by decide) ?_
    refine jk_cne (pc := 10) hX 13 rfl (fun q8 => ?_) (fun q9 => ?_)
    · have h3 := h1.1 q8
      obtain ⟨⟨g5, g6⟩, h7⟩ := h3
      refine jk_aload (pc := 13) hX 0 rfl rfl ?_
      refine jk_getR (pc := 14) hX 7 3 rfl rfl (r := 3) rfl ?_
      refine jk_aload (pc := 15) hX 0 rfl rfl ?_
      refine jk_getI (pc := 16) hX 7 4 rfl rfl rfl ?_
      refine jk_load (pc := 17) hX 1 rfl rfl ?_
      refine jk_iast (pc := 18) hX 20 rfl rfl g5 ?_
      refine jk_aload (pc := 19) hX 0 rfl rfl ?_
      refine jk_dup (pc := 20) hX rfl ?_
      refine jk_getI (pc := 21) hX 7 4 rfl rfl rfl (jx_vX (jx_upc (by decide)) ?_)
      refine jk_const (pc := 22) hX 1 rfl (by decide) ?_
      refine jk_add (pc := 23) hX rfl g6 ?_
      refine jk_put (pc := 24) hX 7 4 rfl rfl rfl ?_
      refine jk_aload (pc := 25) hX 0 rfl rfl ?_
      refine jk_getI (pc := 26) hX 7 4 rfl rfl rfl (jx_vX (jx_ups) ?_)
      exact jk_iret (pc := 27) hX rfl h7
    · have h4 := h1.2 q9
      refine jk_const (pc := 11) hX (-3) rfl (by decide) ?_
      exact jk_iret (pc := 12) hX rfl h4
  · have h2 := h.2 q11
    refine jk_const (pc := 5) hX (-1) rfl (by decide) ?_
    exact jk_iret (pc := 6) hX rfl h2
set_option maxHeartbeats 4000000 in
theorem bk_F_wordOf_0 {d : Nat} {K : jxK} {X : jxX} (hX : jx_clo jx_G2 (d + 2) (jx_call jx_G2 jx_T (d + 2)) kc_F_wordOf K X) (v1 : Int) (M : jxM)
    (h : (((0 : Int) ≤ (M 2 0) ∧ (M 2 0) ≤ 20)) ∧ ((¬ (0 ≤ v1 ∧ v1 < (M 2 0)) → K (some (.inl (-1))) M) ∧ (0 ≤ v1 ∧ v1 < (M 2 0) → (((0 : Int) ≤ v1 ∧ v1 ≤ 20) ∧ ((-2147483648 : Int) ≤ (1 + 11 * v1) + 7 ∧ (1 + 11 * v1) + 7 ≤ 2147483647) ∧ (0 ≤ ((1 + 11 * v1) + 7) ∧ ((1 + 11 * v1) + 7) < 305)) ∧ K (some (.inl (M 2 ((1 + 11 * v1) + 7)))) M))) :
    X 0 [.inr 1, .inl v1] [] M := by
  obtain ⟨g1, h10⟩ := h
  refine jk_aload (pc := 0) hX 0 rfl rfl ?_
  refine jk_load (pc := 1) hX 1 rfl rfl ?_
  refine jk_cv (pc := 2) hX 87 1 7 rfl 1 [.inl v1] [] rfl rfl rfl (Nat.le_of_ble_eq_true rfl) (sp_F_isEntry d v1 M g1 ?_)
  show X 3 [.inr 1, .inl v1] [.inl (jx_b (0 ≤ v1 ∧ v1 < (M 2 0)))] M
  refine jk_zeqB (pc := 3) hX 12 rfl (fun q8 => ?_) (fun q9 => ?_)
  · have h2 := h10.1 q8
    refine jk_const (pc := 12) hX (-1) rfl (by decide) ?_
    exact jk_iret (pc := 13) hX rfl h2
  · have h3 := h10.2 q9
    obtain ⟨⟨g4, g5, g6⟩, h7⟩ := h3
    refine jk_aload (pc := 4) hX 0 rfl rfl ?_
    refine jk_getR (pc := 5) hX 7 0 rfl rfl (r := 1) rfl ?_
    refine jk_load (pc := 6) hX 1 rfl rfl ?_
    refine jk_cs (pc := 7) hX 86 1 rfl [.inl v1] [.inr 2] rfl rfl (Nat.le_of_ble_eq_true rfl) (sp_F_at (d + 1) v1 M g4 ?_)
    show X 8 [.inr 1, .inl v1] [.inl (1 + 11 * v1), .inr 2] M
    refine jk_const (pc := 8) hX 7 rfl (by decide) ?_
    refine jk_add (pc := 9) hX rfl g5 ?_
    refine jk_iald (pc := 10) hX 305 rfl rfl g6 ?_
    refine jk_goto (pc := 11) hX 13 rfl ?_
    exact jk_iret (pc := 13) hX rfl h7
set_option maxHeartbeats 4000000 in
theorem bk_F_costOf_0 {d : Nat} {K : jxK} {X : jxX} (hX : jx_clo jx_G2 (d + 2) (jx_call jx_G2 jx_T (d + 2)) kc_F_costOf K X) (v1 : Int) (M : jxM)
    (h : (((0 : Int) ≤ (M 2 0) ∧ (M 2 0) ≤ 20)) ∧ ((¬ (0 ≤ v1 ∧ v1 < (M 2 0)) → K (some (.inl (-1))) M) ∧ (0 ≤ v1 ∧ v1 < (M 2 0) → ((((0 : Int) ≤ v1 ∧ v1 < 20) ∧ ((0 : Int) ≤ (M 2 (1 + 11 * v1 + 9)) ∧ (M 2 (1 + 11 * v1 + 9)) ≤ 99) ∧ ((0 : Int) ≤ (M 2 (1 + 11 * v1 + 10)) ∧ (M 2 (1 + 11 * v1 + 10)) ≤ 9))) ∧ K (some (.inl (f_price (M 2) v1))) M))) :
    X 0 [.inr 1, .inl v1] [] M := by
  obtain ⟨g1, h8⟩ := h
  refine jk_aload (pc := 0) hX 0 rfl rfl ?_
  refine jk_load (pc := 1) hX 1 rfl rfl ?_
  refine jk_cv (pc := 2) hX 87 1 7 rfl 1 [.inl v1] [] rfl rfl rfl (Nat.le_of_ble_eq_true rfl) (sp_F_isEntry d v1 M g1 ?_)
  show X 3 [.inr 1, .inl v1] [.inl (jx_b (0 ≤ v1 ∧ v1 < (M 2 0)))] M
  refine jk_zeqB (pc := 3) hX 8 rfl (fun q6 => ?_) (fun q7 => ?_)
  · have h2 := h8.1 q6
    refine jk_const (pc := 8) hX (-1) rfl (by decide) ?_
    exact jk_iret (pc := 9) hX rfl h2
  · have h3 := h8.2 q7
    obtain ⟨g4, h5⟩ := h3
    refine jk_aload (pc := 4) hX 0 rfl rfl ?_
    refine jk_load (pc := 5) hX 1 rfl rfl ?_
    refine jk_cv (pc := 6) hX 93 1 7 rfl 1 [.inl v1] [] rfl rfl rfl (Nat.le_of_ble_eq_true rfl) (sp_F_price d v1 M g4 ?_)
    show X 7 [.inr 1, .inl v1] [.inl (f_price (M 2) v1)] M
    refine jk_goto (pc := 7) hX 9 rfl ?_
    exact jk_iret (pc := 9) hX rfl h5
set_option maxHeartbeats 4000000 in
theorem bk_F_useCount_0 {d : Nat} {K : jxK} {X : jxX} (hX : jx_clo jx_G2 (d + 2) (jx_call jx_G2 jx_T (d + 2)) kc_F_useCount K X) (v1 : Int) (M : jxM)
    (h : (((0 : Int) ≤ (M 2 0) ∧ (M 2 0) ≤ 20)) ∧ ((¬ (0 ≤ v1 ∧ v1 < (M 2 0)) → K (some (.inl (-1))) M) ∧ (0 ≤ v1 ∧ v1 < (M 2 0) → (((0 : Int) ≤ v1 ∧ v1 ≤ 20) ∧ ((-2147483648 : Int) ≤ (1 + 11 * v1) + 10 ∧ (1 + 11 * v1) + 10 ≤ 2147483647) ∧ (0 ≤ ((1 + 11 * v1) + 10) ∧ ((1 + 11 * v1) + 10) < 305)) ∧ K (some (.inl (M 2 ((1 + 11 * v1) + 10)))) M))) :
    X 0 [.inr 1, .inl v1] [] M := by
  obtain ⟨g1, h10⟩ := h
  refine jk_aload (pc := 0) hX 0 rfl rfl ?_
  refine jk_load (pc := 1) hX 1 rfl rfl ?_
  refine jk_cv (pc := 2) hX 87 1 7 rfl 1 [.inl v1] [] rfl rfl rfl (Nat.le_of_ble_eq_true rfl) (sp_F_isEntry d v1 M g1 ?_)
  show X 3 [.inr 1, .inl v1] [.inl (jx_b (0 ≤ v1 ∧ v1 < (M 2 0)))] M
  refine jk_zeqB (pc := 3) hX 12 rfl (fun q8 => ?_) (fun q9 => ?_)
  · have h2 := h10.1 q8
    refine jk_const (pc := 12) hX (-1) rfl (by decide) ?_
    exact jk_iret (pc := 13) hX rfl h2
  · have h3 := h10.2 q9
    obtain ⟨⟨g4, g5, g6⟩, h7⟩ := h3
    refine jk_aload (pc := 4) hX 0 rfl rfl ?_
    refine jk_getR (pc := 5) hX 7 0 rfl rfl (r := 1) rfl ?_
    refine jk_load (pc := 6) hX 1 rfl rfl ?_
    refine jk_cs (pc := 7) hX 86 1 rfl [.inl v1] [.inr 2] rfl rfl (Nat.le_of_ble_eq_true rfl) (sp_F_at (d + 1) v1 M g4 ?_)
    show X 8 [.inr 1, .inl v1] [.inl (1 + 11 * v1), .inr 2] M
    refine jk_const (pc := 8) hX 10 rfl (by decide) ?_
    refine jk_add (pc := 9) hX rfl g5 ?_
    refine jk_iald (pc := 10) hX 305 rfl rfl g6 ?_
    refine jk_goto (pc := 11) hX 13 rfl ?_
    exact jk_iret (pc := 13) hX rfl h7
set_option maxHeartbeats 4000000 in
theorem bk_F_entriesWithPrefix_0 {d : Nat} {K : jxK} {X : jxX} (hX : jx_clo jx_G2 (d + 2) (jx_call jx_G2 jx_T (d + 2)) kc_F_entriesWithPrefix K X) (M : jxM)
    (h : X 4 [.inr 1, .inl 0, .inl 0] [] M) :
    X 0 [.inr 1, .inr 0, .inr 0] [] M := by
  refine jk_const (pc := 0) hX 0 rfl (by decide) ?_
  refine jk_store (pc := 1) hX 1 rfl (Nat.le_of_ble_eq_true rfl) (ls' := [.inr 1, .inl 0, .inr 0]) rfl ?_
  refine jk_const (pc := 2) hX 0 rfl (by decide) ?_
  refine jk_store (pc := 3) hX 2 rfl (Nat.le_of_ble_eq_true rfl) (ls' := [.inr 1, .inl 0, .inl 0]) rfl ?_
  exact h
set_option maxHeartbeats 4000000 in
theorem bk_F_entriesWithPrefix_4 {d : Nat} {K : jxK} {X : jxX} (hX : jx_clo jx_G2 (d + 2) (jx_call jx_G2 jx_T (d + 2)) kc_F_entriesWithPrefix K X) (v1 : Int) (v2 : Int) (M : jxM)
    (h : (((M 2 0) ≤ v2 → K (some (.inl v1)) M) ∧ (v2 < (M 2 0) → ((((0 : Int) ≤ v2 ∧ v2 < 20) ∧ ((0 : Int) ≤ (M 1 4) ∧ (M 1 4) ≤ 20) ∧ (M 2 (1 + 11 * v2)) ≤ 6)) ∧ ((¬ (f_begins M v2) → (((-2147483648 : Int) ≤ v1 + 0 ∧ v1 + 0 ≤ 2147483647) ∧ ((-2147483648 : Int) ≤ v2 + 1 ∧ v2 + 1 ≤ 2147483647)) ∧ X 4 [.inr 1, .inl (v1 + 0), .inl (v2 + 1)] [] M) ∧ (f_begins M v2 → (((-2147483648 : Int) ≤ v1 + 1 ∧ v1 + 1 ≤ 2147483647) ∧ ((-2147483648 : Int) ≤ v2 + 1 ∧ v2 + 1 ≤ 2147483647)) ∧ X 4 [.inr 1, .inl (v1 + 1), .inl (v2 + 1)] [] M))))) :
    X 4 [.inr 1, .inl v1, .inl v2] [] M := by
  refine jk_load (pc := 4) hX 2 rfl rfl ?_
  refine jk_aload (pc := 5) hX 0 rfl rfl ?_
  refine jk_getR (pc := 6) hX 7 0 rfl rfl (r := 1) rfl ?_
  refine jk_const (pc := 7) hX 0 rfl (by decide) ?_
  refine jk_iald (pc := 8) hX 305 rfl rfl (by decide) ?_
  refine jk_cge (pc := 9) hX 22 rfl (fun q15 => ?_) (fun q16 => ?_)
  · have h1 := h.1 q15
    refine jk_load (pc := 22) hX 1 rfl rfl ?_
    exact jk_iret (pc := 23) hX rfl h1
  · have h2 := h.2 q16
    obtain ⟨g3, h14⟩ := h2
    refine jk_load (pc := 10) hX 1 rfl rfl ?_
    refine jk_aload (pc := 11) hX 0 rfl rfl ?_
    refine jk_load (pc := 12) hX 2 rfl rfl ?_
    refine jk_cv (pc := 13) hX 88 1 7 rfl 1 [.inl v2] [.inl v1] rfl rfl rfl (Nat.le_of_ble_eq_true rfl) (sp_F_begins d v2 M g3 ?_)
    show X 14 [.inr 1, .inl v1, .inl v2] [.inl (jx_b (f_begins M v2)), .inl v1] M
    refine jk_zeqB (pc := 14) hX 17 rfl (fun q12 => ?_) (fun q13 => ?_)
    · have h4 := h14.1 q12
      obtain ⟨⟨g6, g7⟩, h8⟩ := h4
      refine jk_const (pc := 17) hX 0 rfl (by decide) ?_
      refine jk_add (pc := 18) hX rfl g6 ?_
      refine jk_store (pc := 19) hX 1 rfl (Nat.le_of_ble_eq_true rfl) (ls' := [.inr 1, .inl (v1 + 0), .inl v2]) rfl ?_
      refine jk_iinc (pc := 20) hX 2 1 rfl rfl g7 (ls' := [.inr 1, .inl (v1 + 0), .inl (v2 + 1)]) rfl ?_
      refine jk_goto (pc := 21) hX 4 rfl ?_
      exact h8
    · have h5 := h14.2 q13
      obtain ⟨⟨g9, g10⟩, h11⟩ := h5
      refine jk_const (pc := 15) hX 1 rfl (by decide) ?_
      refine jk_goto (pc := 16) hX 18 rfl ?_
      refine jk_add (pc := 18) hX rfl g9 ?_
      refine jk_store (pc := 19) hX 1 rfl (Nat.le_of_ble_eq_true rfl) (ls' := [.inr 1, .inl (v1 + 1), .inl v2]) rfl ?_
      refine jk_iinc (pc := 20) hX 2 1 rfl rfl g10 (ls' := [.inr 1, .inl (v1 + 1), .inl (v2 + 1)]) rfl ?_
      refine jk_goto (pc := 21) hX 4 rfl ?_
      exact h11
set_option maxHeartbeats 4000000 in
theorem bk_F_segmentsAt_0 {d : Nat} {K : jxK} {X : jxX} (hX : jx_clo jx_G2 (d + 2) (jx_call jx_G2 jx_T (d + 2)) kc_F_segmentsAt K X) (v1 : Int) (M : jxM)
    (h : (((0 : Int) ≤ v1 ∧ v1 ≤ (M 2 271) → X 14 [.inr 1, .inl v1, .inl 0, .inl 0] [] M) ∧ (¬ ((0 : Int) ≤ v1 ∧ v1 ≤ (M 2 271)) → K (some (.inl (-1))) M))) :
    X 0 [.inr 1, .inl v1, .inr 0, .inr 0] [] M := by
  refine jk_load (pc := 0) hX 1 rfl rfl ?_
  refine jk_const (pc := 1) hX 0 rfl (by decide) ?_
  refine jk_aload (pc := 2) hX 0 rfl rfl ?_
  refine jk_getR (pc := 3) hX 7 0 rfl rfl (r := 1) rfl ?_
  refine jk_const (pc := 4) hX 271 rfl (by decide) ?_
  refine jk_iald (pc := 5) hX 305 rfl rfl (by decide) ?_
  refine jk_cs (pc := 6) hX 80 3 rfl [.inl v1, .inl 0, .inl (M 2 271)] [] rfl rfl (Nat.le_of_ble_eq_true rfl) (sp_F_in (d + 1) v1 (0 : Int) (M 2 271) M  ?_)
  show X 7 [.inr 1, .inl v1, .inr 0, .inr 0] [.inl (jx_b ((0 : Int) ≤ v1 ∧ v1 ≤ (M 2 271)))] M
  refine jk_zneB (pc := 7) hX 10 rfl (fun q3 => ?_) (fun q4 => ?_)
  · have h1 := h.1 q3
    refine jk_const (pc := 10) hX 0 rfl (by decide) ?_
    refine jk_store (pc := 11) hX 2 rfl (Nat.le_of_ble_eq_true rfl) (ls' := [.inr 1, .inl v1, .inl 0, .inr 0]) rfl ?_
    refine jk_const (pc := 12) hX 0 rfl (by decide) ?_
    refine jk_store (pc := 13) hX 3 rfl (Nat.le_of_ble_eq_true rfl) (ls' := [.inr 1, .inl v1, .inl 0, .inl 0]) rfl ?_
    exact h1
  · have h2 := h.2 q4
    refine jk_const (pc := 8) hX (-1) rfl (by decide) ?_
    exact jk_iret (pc := 9) hX rfl h2
set_option maxHeartbeats 4000000 in
theorem bk_F_segmentsAt_14 {d : Nat} {K : jxK} {X : jxX} (hX : jx_clo jx_G2 (d + 2) (jx_call jx_G2 jx_T (d + 2)) kc_F_segmentsAt K X) (v1 : Int) (v2 : Int) (v3 : Int) (M : jxM)
    (h : (((M 2 0) ≤ v3 → K (some (.inl v2)) M) ∧ (v3 < (M 2 0) → ((((0 : Int) ≤ v3 ∧ v3 < 20) ∧ ((0 : Int) ≤ (M 2 (1 + 11 * v3)) ∧ (M 2 (1 + 11 * v3)) ≤ 6) ∧ (M 2 271) ≤ 16 ∧ (0 : Int) ≤ v1 ∧ v1 ≤ 16)) ∧ ((¬ (f_stands (M 2) v3 v1) → (((-2147483648 : Int) ≤ v2 + 0 ∧ v2 + 0 ≤ 2147483647) ∧ ((-2147483648 : Int) ≤ v3 + 1 ∧ v3 + 1 ≤ 2147483647)) ∧ X 14 [.inr 1, .inl v1, .inl (v2 + 0), .inl (v3 + 1)] [] M) ∧ (f_stands (M 2) v3 v1 → (((-2147483648 : Int) ≤ v2 + 1 ∧ v2 + 1 ≤ 2147483647) ∧ ((-2147483648 : Int) ≤ v3 + 1 ∧ v3 + 1 ≤ 2147483647)) ∧ X 14 [.inr 1, .inl v1, .inl (v2 + 1), .inl (v3 + 1)] [] M))))) :
    X 14 [.inr 1, .inl v1, .inl v2, .inl v3] [] M := by
  refine jk_load (pc := 14) hX 3 rfl rfl ?_
  refine jk_aload (pc := 15) hX 0 rfl rfl ?_
  refine jk_getR (pc := 16) hX 7 0 rfl rfl (r := 1) rfl ?_
  refine jk_const (pc := 17) hX 0 rfl (by decide) ?_
  refine jk_iald (pc := 18) hX 305 rfl rfl (by decide) ?_
  refine jk_cge (pc := 19) hX 33 rfl (fun q15 => ?_) (fun q16 => ?_)
  · have h1 := h.1 q15
    refine jk_load (pc := 33) hX 2 rfl rfl ?_
    exact jk_iret (pc := 34) hX rfl h1
  · have h2 := h.2 q16
    obtain ⟨g3, h14⟩ := h2
    refine jk_load (pc := 20) hX 2 rfl rfl ?_
    refine jk_aload (pc := 21) hX 0 rfl rfl ?_
    refine jk_load (pc := 22) hX 3 rfl rfl ?_
    refine jk_load (pc := 23) hX 1 rfl rfl ?_
    refine jk_cv (pc := 24) hX 103 2 7 rfl 1 [.inl v3, .inl v1] [.inl v2] rfl rfl rfl (Nat.le_of_ble_eq_true rfl) (sp_F_stands d v3 v1 M g3 ?_)
    show X 25 [.inr 1, .inl v1, .inl v2, .inl v3] [.inl (jx_b (f_stands (M 2) v3 v1)), .inl v2] M
    refine jk_zeqB (pc := 25) hX 28 rfl (fun q12 => ?_) (fun q13 => ?_)
    · have h4 := h14.1 q12
      obtain ⟨⟨g6, g7⟩, h8⟩ := h4
      refine jk_const (pc := 28) hX 0 rfl (by decide) ?_
      refine jk_add (pc := 29) hX rfl g6 ?_
      refine jk_store (pc := 30) hX 2 rfl (Nat.le_of_ble_eq_true rfl) (ls' := [.inr 1, .inl v1, .inl (v2 + 0), .inl v3]) rfl ?_
      refine jk_iinc (pc := 31) hX 3 1 rfl rfl g7 (ls' := [.inr 1, .inl v1, .inl (v2 + 0), .inl (v3 + 1)]) rfl ?_
      refine jk_goto (pc := 32) hX 14 rfl ?_
      exact h8
    · have h5 := h14.2 q13
      obtain ⟨⟨g9, g10⟩, h11⟩ := h5
      refine jk_const (pc := 26) hX 1 rfl (by decide) ?_
      refine jk_goto (pc := 27) hX 29 rfl ?_
      refine jk_add (pc := 29) hX rfl g9 ?_
      refine jk_store (pc := 30) hX 2 rfl (Nat.le_of_ble_eq_true rfl) (ls' := [.inr 1, .inl v1, .inl (v2 + 1), .inl v3]) rfl ?_
      refine jk_iinc (pc := 31) hX 3 1 rfl rfl g10 (ls' := [.inr 1, .inl v1, .inl (v2 + 1), .inl (v3 + 1)]) rfl ?_
      refine jk_goto (pc := 32) hX 14 rfl ?_
      exact h11
set_option maxHeartbeats 4000000 in
theorem bk_F_segmentCost_0 {d : Nat} {K : jxK} {X : jxX} (hX : jx_clo jx_G2 (d + 2) (jx_call jx_G2 jx_T (d + 2)) kc_F_segmentCost K X) (v1 : Int) (M : jxM)
    (h : ((v1 ≠ (-5) → ((((0 : Int) ≤ v1 ∧ v1 < 20) ∧ ((0 : Int) ≤ (M 2 (1 + 11 * v1 + 9)) ∧ (M 2 (1 + 11 * v1 + 9)) ≤ 99) ∧ ((0 : Int) ≤ (M 2 (1 + 11 * v1 + 10)) ∧ (M 2 (1 + 11 * v1 + 10)) ≤ 9))) ∧ K (some (.inl (f_price (M 2) v1))) M) ∧ (v1 = (-5) → K (some (.inl (M 2 270))) M))) :
    X 0 [.inr 1, .inl v1] [] M := by
  refine jk_load (pc := 0) hX 1 rfl rfl ?_
  refine jk_const (pc := 1) hX (-5) rfl (by decide) ?_
  refine jk_cne (pc := 2) hX 8 rfl (fun q5 => ?_) (fun q6 => ?_)
  · have h1 := h.1 q5
    obtain ⟨g3, h4⟩ := h1
    refine jk_aload (pc := 8) hX 0 rfl rfl ?_
    refine jk_load (pc := 9) hX 1 rfl rfl ?_
    refine jk_cv (pc := 10) hX 93 1 7 rfl 1 [.inl v1] [] rfl rfl rfl (Nat.le_of_ble_eq_true rfl) (sp_F_price d v1 M g3 ?_)
    show X 11 [.inr 1, .inl v1] [.inl (f_price (M 2) v1)] M
    exact jk_iret (pc := 11) hX rfl h4
  · have h2 := h.2 q6
    refine jk_aload (pc := 3) hX 0 rfl rfl ?_
    refine jk_getR (pc := 4) hX 7 0 rfl rfl (r := 1) rfl ?_
    refine jk_const (pc := 5) hX 270 rfl (by decide) ?_
    refine jk_iald (pc := 6) hX 305 rfl rfl (by decide) ?_
    refine jk_goto (pc := 7) hX 11 rfl ?_
    exact jk_iret (pc := 11) hX rfl h2
set_option maxHeartbeats 4000000 in
theorem bk_F_addEntry_0 {d : Nat} {K : jxK} {X : jxX} (hX : jx_clo jx_G2 (d + 2) (jx_call jx_G2 jx_T (d + 2)) kc_F_addEntry K X) (v1 : Int) (v2 : Int) (v3 : Int) (M : jxM)
    (h : ((¬ ((0 : Int) ≤ v1 ∧ v1 ≤ (99 : Int)) → K (some (.inl (-1))) M) ∧ ((0 : Int) ≤ v1 ∧ v1 ≤ (99 : Int) → ((¬ ((0 : Int) ≤ v2 ∧ v2 ≤ (4 : Int)) → K (some (.inl (-1))) M) ∧ ((0 : Int) ≤ v2 ∧ v2 ≤ (4 : Int) → (((0 : Int) ≤ v3 ∧ v3 ≤ (99 : Int) → X 19 [.inr 1, .inl v1, .inl v2, .inl v3, .inl 0, .inr 0, .inr 0] [] M) ∧ (¬ ((0 : Int) ≤ v3 ∧ v3 ≤ (99 : Int)) → K (some (.inl (-1))) M))))))) :
    X 0 [.inr 1, .inl v1, .inl v2, .inl v3, .inr 0, .inr 0, .inr 0] [] M := by
  refine jk_load (pc := 0) hX 1 rfl rfl ?_
  refine jk_const (pc := 1) hX 0 rfl (by decide) ?_
  refine jk_const (pc := 2) hX 99 rfl (by decide) ?_
  refine jk_cs (pc := 3) hX 80 3 rfl [.inl v1, .inl 0, .inl 99] [] rfl rfl (Nat.le_of_ble_eq_true rfl) (sp_F_in (d + 1) v1 (0 : Int) (99 : Int) M  ?_)
  show X 4 [.inr 1, .inl v1, .inl v2, .inl v3, .inr 0, .inr 0, .inr 0] [.inl (jx_b ((0 : Int) ≤ v1 ∧ v1 ≤ (99 : Int)))] M
  refine jk_zeqB (pc := 4) hX 15 rfl (fun q11 => ?_) (fun q12 => ?_)
  · have h1 := h.1 q11
    refine jk_const (pc := 15) hX (-1) rfl (by decide) ?_
    exact jk_iret (pc := 16) hX rfl h1
  · have h2 := h.2 q12
    refine jk_load (pc := 5) hX 2 rfl rfl ?_
    refine jk_const (pc := 6) hX 0 rfl (by decide) ?_
    refine jk_const (pc := 7) hX 4 rfl (by decide) ?_
    refine jk_cs (pc := 8) hX 80 3 rfl [.inl v2, .inl 0, .inl 4] [] rfl rfl (Nat.le_of_ble_eq_true rfl) (sp_F_in (d + 1) v2 (0 : Int) (4 : Int) M  ?_)
    show X 9 [.inr 1, .inl v1, .inl v2, .inl v3, .inr 0, .inr 0, .inr 0] [.inl (jx_b ((0 : Int) ≤ v2 ∧ v2 ≤ (4 : Int)))] M
    refine jk_zeqB (pc := 9) hX 15 rfl (fun q9 => ?_) (fun q10 => ?_)
    · have h3 := h2.1 q9
      refine jk_const (pc := 15) hX (-1) rfl (by decide) ?_
      exact jk_iret (pc := 16) hX rfl h3
    · have h4 := h2.2 q10
      refine jk_load (pc := 10) hX 3 rfl rfl ?_
      refine jk_const (pc := 11) hX 0 rfl (by decide) ?_
      refine jk_const (pc := 12) hX 99 rfl (by decide) ?_
      refine jk_cs (pc := 13) hX 80 3 rfl [.inl v3, .inl 0, .inl 99] [] rfl rfl (Nat.le_of_ble_eq_true rfl) (sp_F_in (d + 1) v3 (0 : Int) (99 : Int) M  ?_)
      show X 14 [.inr 1, .inl v1, .inl v2, .inl v3, .inr 0, .inr 0, .inr 0] [.inl (jx_b ((0 : Int) ≤ v3 ∧ v3 ≤ (99 : Int)))] M
      refine jk_zneB (pc := 14) hX 17 rfl (fun q7 => ?_) (fun q8 => ?_)
      · have h5 := h4.1 q7
        refine jk_const (pc := 17) hX 0 rfl (by decide) ?_
        refine jk_store (pc := 18) hX 4 rfl (Nat.le_of_ble_eq_true rfl) (ls' := [.inr 1, .inl v1, .inl v2, .inl v3, .inl 0, .inr 0, .inr 0]) rfl ?_
        exact h5
      · have h6 := h4.2 q8
        refine jk_const (pc := 15) hX (-1) rfl (by decide) ?_
        exact jk_iret (pc := 16) hX rfl h6
set_option maxHeartbeats 4000000 in
theorem bk_F_addEntry_19 {d : Nat} {K : jxK} {X : jxX} (hX : jx_clo jx_G2 (d + 2) (jx_call jx_G2 jx_T (d + 2)) kc_F_addEntry K X) (v1 : Int) (v2 : Int) (v3 : Int) (v4 : Int) (M : jxM)
    (h : (((M 2 0) ≤ v4 → (((M 2 0) ≠ 20 → (((M 1 4) ≠ 0 → ((((0 : Int) ≤ (M 1 4) ∧ (M 1 4) ≤ 20) ∧ (0 : Int) ≤ (6 : Int))) ∧ (((t_err (M 4) (6 : Int) (-9) 0 ((M 1 4)).toNat) = (-9) → jx_call jx_G2 jx_T (d + 2) 81 [.inr 1] M (fun r M11 => r = none ∧ (((0 : Int) ≤ (M11 2 0) ∧ (M11 2 0) ≤ 20) ∧ (0 ≤ (1 + 11 * (M11 2 0)) ∧ (1 + 11 * (M11 2 0)) < 305)) ∧ X 99 [.inr 1, .inl v1, .inl v2, .inl v3, .inl (t_err (M 4) (6 : Int) (-9) 0 ((M 1 4)).toNat), .inl (1 + 11 * (M11 2 0)), .inl 0] [] (jx_up M11 2 (1 + 11 * (M11 2 0)) (M11 1 4)))) ∧ ((t_err (M 4) (6 : Int) (-9) 0 ((M 1 4)).toNat) ≠ (-9) → (((-2147483648 : Int) ≤ (-10) - (t_err (M 4) (6 : Int) (-9) 0 ((M 1 4)).toNat) ∧ (-10) - (t_err (M 4) (6 : Int) (-9) 0 ((M 1 4)).toNat) ≤ 2147483647)) ∧ K (some (.inl ((-10) - (t_err (M 4) (6 : Int) (-9) 0 ((M 1 4)).toNat)))) M))) ∧ ((M 1 4) = 0 → K (some (.inl (-10))) M))) ∧ ((M 2 0) = 20 → K (some (.inl (-3))) M))) ∧ (v4 < (M 2 0) → (((0 : Int) ≤ v4 ∧ v4 ≤ 20) ∧ (0 ≤ (1 + 11 * v4) ∧ (1 + 11 * v4) < 305)) ∧ (((M 2 (1 + 11 * v4)) ≠ (M 1 4) → (((-2147483648 : Int) ≤ v4 + 1 ∧ v4 + 1 ≤ 2147483647)) ∧ X 19 [.inr 1, .inl v1, .inl v2, .inl v3, .inl (v4 + 1), .inr 0, .inr 0] [] M) ∧ ((M 2 (1 + 11 * v4)) = (M 1 4) → ((((0 : Int) ≤ v4 ∧ v4 < 20) ∧ ((0 : Int) ≤ (M 1 4) ∧ (M 1 4) ≤ 20) ∧ (M 2 (1 + 11 * v4)) ≤ 6)) ∧ ((¬ (f_begins M v4) → (((-2147483648 : Int) ≤ v4 + 1 ∧ v4 + 1 ≤ 2147483647)) ∧ X 19 [.inr 1, .inl v1, .inl v2, .inl v3, .inl (v4 + 1), .inr 0, .inr 0] [] M) ∧ (f_begins M v4 → (((0 : Int) ≤ v4 ∧ v4 ≤ 20) ∧ ((-2147483648 : Int) ≤ (1 + 11 * v4) + 7 ∧ (1 + 11 * v4) + 7 ≤ 2147483647) ∧ (0 ≤ ((1 + 11 * v4) + 7) ∧ ((1 + 11 * v4) + 7) < 305)) ∧ (((M 2 ((1 + 11 * v4) + 7)) ≠ v1 → (((-2147483648 : Int) ≤ v4 + 1 ∧ v4 + 1 ≤ 2147483647)) ∧ X 19 [.inr 1, .inl v1, .inl v2, .inl v3, .inl (v4 + 1), .inr 0, .inr 0] [] M) ∧ ((M 2 ((1 + 11 * v4) + 7)) = v1 → (((0 : Int) ≤ v4 ∧ v4 ≤ 20) ∧ ((-2147483648 : Int) ≤ (1 + 11 * v4) + 8 ∧ (1 + 11 * v4) + 8 ≤ 2147483647) ∧ (0 ≤ ((1 + 11 * v4) + 8) ∧ ((1 + 11 * v4) + 8) < 305)) ∧ (((M 2 ((1 + 11 * v4) + 8)) ≠ v2 → (((-2147483648 : Int) ≤ v4 + 1 ∧ v4 + 1 ≤ 2147483647)) ∧ X 19 [.inr 1, .inl v1, .inl v2, .inl v3, .inl (v4 + 1), .inr 0, .inr 0] [] M) ∧ ((M 2 ((1 + 11 * v4) + 8)) = v2 → K (some (.inl (-2))) M))))))))))) :
    X 19 [.inr 1, .inl v1, .inl v2, .inl v3, .inl v4, .inr 0, .inr 0] [] M := by
  refine jk_load (pc := 19) hX 4 rfl rfl ?_
  refine jk_aload (pc := 20) hX 0 rfl rfl ?_
  refine jk_getR (pc := 21) hX 7 0 rfl rfl (r := 1) rfl ?_
  refine jk_const (pc := 22) hX 0 rfl (by decide) ?_
  refine jk_iald (pc := 23) hX 305 rfl rfl (by decide) ?_
  refine jk_cge (pc := 24) hX 59 rfl (fun q62 => ?_) (fun q63 => ?_)
  · have h1 := h.1 q62
    refine jk_aload (pc := 59) hX 0 rfl rfl ?_
    refine jk_getR (pc := 60) hX 7 0 rfl rfl (r := 1) rfl ?_
    refine jk_const (pc := 61) hX 0 rfl (by decide) ?_
    refine jk_iald (pc := 62) hX 305 rfl rfl (by decide) ?_
    refine jk_const (pc := 63) hX 20 rfl (by decide) ?_
    refine jk_cne (pc := 64) hX 67 rfl (fun q23 => ?_) (fun q24 => ?_)
    · have h3 := h1.1 q23
      refine jk_aload (pc := 67) hX 0 rfl rfl ?_
      refine jk_getI (pc := 68) hX 7 4 rfl rfl rfl ?_
      refine jk_zne (pc := 69) hX 72 rfl (fun q21 => ?_) (fun q22 => ?_)
      · have h5 := h3.1 q21
        obtain ⟨g7, h20⟩ := h5
        refine jk_aload (pc := 72) hX 0 rfl rfl ?_
        refine jk_const (pc := 73) hX 6 rfl (by decide) ?_
        refine jk_cv (pc := 74) hX 85 1 7 rfl 1 [.inl 6] [] rfl rfl rfl (Nat.le_of_ble_eq_true rfl) (sp_F_fault d (6 : Int) M g7 ?_)
        show X 75 [.inr 1, .inl v1, .inl v2, .inl v3, .inl v4, .inr 0, .inr 0] [.inl (t_err (M 4) (6 : Int) (-9) 0 ((M 1 4)).toNat)] M
        refine jk_store (pc := 75) hX 4 rfl (Nat.le_of_ble_eq_true rfl) (ls' := [.inr 1, .inl v1, .inl v2, .inl v3, .inl (t_err (M 4) (6 : Int) (-9) 0 ((M 1 4)).toNat), .inr 0, .inr 0]) rfl ?_
        refine jk_load (pc := 76) hX 4 rfl rfl ?_
        refine jk_const (pc := 77) hX (-9) rfl (by decide) ?_
        refine jk_ceq (pc := 78) hX 83 rfl (fun q18 => ?_) (fun q19 => ?_)
        · have h8 := h20.1 q18
          refine jk_aload (pc := 83) hX 0 rfl rfl ?_
          refine jk_cv (pc := 84) hX 81 0 7 rfl 1 [] [] rfl rfl rfl (Nat.le_of_ble_eq_true rfl) (jx_mono (fun r M11 hr => ?_) h8)
          obtain ⟨rfl, h12⟩ := hr
          show X 85 [.inr 1, .inl v1, .inl v2, .inl v3, .inl (t_err (M 4) (6 : Int) (-9) 0 ((M 1 4)).toNat), .inr 0, .inr 0] [] M11
          obtain ⟨⟨g13, g14⟩, h15⟩ := h12
          refine jk_aload (pc := 85) hX 0 rfl rfl ?_
          refine jk_getR (pc := 86) hX 7 0 rfl rfl (r := 1) rfl ?_
          refine jk_const (pc := 87) hX 0 rfl (by decide) ?_
          refine jk_iald (pc := 88) hX 305 rfl rfl (by decide) ?_
          refine jk_cs (pc := 89) hX 86 1 rfl [.inl (M11 2 0)] [] rfl rfl (Nat.le_of_ble_eq_true rfl) (sp_F_at (d + 1) (M11 2 0) M11 g13 ?_)
          show X 90 [.inr 1, .inl v1, .inl v2, .inl v3, .inl (t_err (M 4) (6 : Int) (-9) 0 ((M 1 4)).toNat), .inr 0, .inr 0] [.inl (1 + 11 * (M11 2 0))] M11
          refine jk_store (pc := 90) hX 5 rfl (Nat.le_of_ble_eq_true rfl) (ls' := [.inr 1, .inl v1, .inl v2, .inl v3, .inl (t_err (M 4) (6 : Int) (-9) 0 ((M 1 4)).toNat), .inl (1 + 11 * (M11 2 0)), .inr 0]) rfl ?_
          refine jk_aload (pc := 91) hX 0 rfl rfl ?_
          refine jk_getR (pc := 92) hX 7 0 rfl rfl (r := 1) rfl ?_
          refine jk_load (pc := 93) hX 5 rfl rfl ?_
          refine jk_aload (pc := 94) hX 0 rfl rfl ?_
          refine jk_getI (pc := 95) hX 7 4 rfl rfl rfl ?_
          refine jk_iast (pc := 96) hX 305 rfl rfl g14 ?_
          refine jk_const (pc := 97) hX 0 rfl (by decide) ?_
          refine jk_store (pc := 98) hX 6 rfl (Nat.le_of_ble_eq_true rfl) (ls' := [.inr 1, .inl v1, .inl v2, .inl v3, .inl (t_err (M 4) (6 : Int) (-9) 0 ((M 1 4)).toNat), .inl (1 + 11 * (M11 2 0)), .inl 0]) rfl ?_
          exact h15
        · have h9 := h20.2 q19
          obtain ⟨g16, h17⟩ := h9
          refine jk_const (pc := 79) hX (-10) rfl (by decide) ?_
          refine jk_load (pc := 80) hX 4 rfl rfl ?_
          refine jk_sub (pc := 81) hX rfl g16 ?_
          exact jk_iret (pc := 82) hX rfl h17
      · have h6 := h3.2 q22
        refine jk_const (pc := 70) hX 0 rfl (by decide) ?_
        refine jk_goto (pc := 71) hX 75 rfl ?_
        refine jk_store (pc := 75) hX 4 rfl (Nat.le_of_ble_eq_true rfl) (ls' := [.inr 1, .inl v1, .inl v2, .inl v3, .inl 0, .inr 0, .inr 0]) rfl ?_
        refine jk_load (pc := 76) hX 4 rfl rfl ?_
        refine jk_const (pc := 77) hX (-9) rfl (by decide) ?_
        refine jk_ceq (pc := 78) hX 83 rfl (fun q => absurd q (by decide)) (fun _ => ?_)
        refine jk_const (pc := 79) hX (-10) rfl (by decide) ?_
        refine jk_load (pc := 80) hX 4 rfl rfl ?_
        refine jk_sub (pc := 81) hX rfl (by decide) ?_
        exact jk_iret (pc := 82) hX rfl h6
    · have h4 := h1.2 q24
      refine jk_const (pc := 65) hX (-3) rfl (by decide) ?_
      exact jk_iret (pc := 66) hX rfl h4
  · have h2 := h.2 q63
    obtain ⟨⟨g25, g26⟩, h61⟩ := h2
    refine jk_aload (pc := 25) hX 0 rfl rfl ?_
    refine jk_getR (pc := 26) hX 7 0 rfl rfl (r := 1) rfl ?_
    refine jk_load (pc := 27) hX 4 rfl rfl ?_
    refine jk_cs (pc := 28) hX 86 1 rfl [.inl v4] [.inr 2] rfl rfl (Nat.le_of_ble_eq_true rfl) (sp_F_at (d + 1) v4 M g25 ?_)
    show X 29 [.inr 1, .inl v1, .inl v2, .inl v3, .inl v4, .inr 0, .inr 0] [.inl (1 + 11 * v4), .inr 2] M
    refine jk_iald (pc := 29) hX 305 rfl rfl g26 ?_
    refine jk_aload (pc := 30) hX 0 rfl rfl ?_
    refine jk_getI (pc := 31) hX 7 4 rfl rfl rfl ?_
    refine jk_cne (pc := 32) hX 57 rfl (fun q59 => ?_) (fun q60 => ?_)
    · have h27 := h61.1 q59
      obtain ⟨g29, h30⟩ := h27
      refine jk_iinc (pc := 57) hX 4 1 rfl rfl g29 (ls' := [.inr 1, .inl v1, .inl v2, .inl v3, .inl (v4 + 1), .inr 0, .inr 0]) rfl ?_
      refine jk_goto (pc := 58) hX 19 rfl ?_
      exact h30
    · have h28 := h61.2 q60
      obtain ⟨g31, h58⟩ := h28
      refine jk_aload (pc := 33) hX 0 rfl rfl ?_
      refine jk_load (pc := 34) hX 4 rfl rfl ?_
      refine jk_cv (pc := 35) hX 88 1 7 rfl 1 [.inl v4] [] rfl rfl rfl (Nat.le_of_ble_eq_true rfl) (sp_F_begins d v4 M g31 ?_)
      show X 36 [.inr 1, .inl v1, .inl v2, .inl v3, .inl v4, .inr 0, .inr 0] [.inl (jx_b (f_begins M v4))] M
      refine jk_zeqB (pc := 36) hX 57 rfl (fun q56 => ?_) (fun q57 => ?_)
      · have h32 := h58.1 q56
        obtain ⟨g34, h35⟩ := h32
        refine jk_iinc (pc := 57) hX 4 1 rfl rfl g34 (ls' := [.inr 1, .inl v1, .inl v2, .inl v3, .inl (v4 + 1), .inr 0, .inr 0]) rfl ?_
        refine jk_goto (pc := 58) hX 19 rfl ?_
        exact h35
      · have h33 := h58.2 q57
        obtain ⟨⟨g36, g37, g38⟩, h55⟩ := h33
        refine jk_aload (pc := 37) hX 0 rfl rfl ?_
        refine jk_getR (pc := 38) hX 7 0 rfl rfl (r := 1) rfl ?_
        refine jk_load (pc := 39) hX 4 rfl rfl ?_
        refine jk_cs (pc := 40) hX 86 1 rfl [.inl v4] [.inr 2] rfl rfl (Nat.le_of_ble_eq_true rfl) (sp_F_at (d + 1) v4 M g36 ?_)
        show X 41 [.inr 1, .inl v1, .inl v2, .inl v3, .inl v4, .inr 0, .inr 0] [.inl (1 + 11 * v4), .inr 2] M
        refine jk_const (pc := 41) hX 7 rfl (by decide) ?_
        refine jk_add (pc := 42) hX rfl g37 ?_
        refine jk_iald (pc := 43) hX 305 rfl rfl g38 ?_
        refine jk_load (pc := 44) hX 1 rfl rfl ?_
        refine jk_cne (pc := 45) hX 57 rfl (fun q53 => ?_) (fun q54 => ?_)
        · have h39 := h55.1 q53
          obtain ⟨g41, h42⟩ := h39
          refine jk_iinc (pc := 57) hX 4 1 rfl rfl g41 (ls' := [.inr 1, .inl v1, .inl v2, .inl v3, .inl (v4 + 1), .inr 0, .inr 0]) rfl ?_
          refine jk_goto (pc := 58) hX 19 rfl ?_
          exact h42
        · have h40 := h55.2 q54
          obtain ⟨⟨g43, g44, g45⟩, h52⟩ := h40
          refine jk_aload (pc := 46) hX 0 rfl rfl ?_
          refine jk_getR (pc := 47) hX 7 0 rfl rfl (r := 1) rfl ?_
          refine jk_load (pc := 48) hX 4 rfl rfl ?_
          refine jk_cs (pc := 49) hX 86 1 rfl [.inl v4] [.inr 2] rfl rfl (Nat.le_of_ble_eq_true rfl) (sp_F_at (d + 1) v4 M g43 ?_)
          show X 50 [.inr 1, .inl v1, .inl v2, .inl v3, .inl v4, .inr 0, .inr 0] [.inl (1 + 11 * v4), .inr 2] M
          refine jk_const (pc := 50) hX 8 rfl (by decide) ?_
          refine jk_add (pc := 51) hX rfl g44 ?_
          refine jk_iald (pc := 52) hX 305 rfl rfl g45 ?_
          refine jk_load (pc := 53) hX 2 rfl rfl ?_
          refine jk_cne (pc := 54) hX 57 rfl (fun q50 => ?_) (fun q51 => ?_)
          · have h46 := h52.1 q50
            obtain ⟨g48, h49⟩ := h46
            refine jk_iinc (pc := 57) hX 4 1 rfl rfl g48 (ls' := [.inr 1, .inl v1, .inl v2, .inl v3, .inl (v4 + 1), .inr 0, .inr 0]) rfl ?_
            refine jk_goto (pc := 58) hX 19 rfl ?_
            exact h49
          · have h47 := h52.2 q51
            refine jk_const (pc := 55) hX (-2) rfl (by decide) ?_
            exact jk_iret (pc := 56) hX rfl h47
set_option maxHeartbeats 4000000 in
theorem bk_F_addEntry_99 {d : Nat} {K : jxK} {X : jxX} (hX : jx_clo jx_G2 (d + 2) (jx_call jx_G2 jx_T (d + 2)) kc_F_addEntry K X) (v1 : Int) (v2 : Int) (v3 : Int) (v4 : Int) (v5 : Int) (v6 : Int) (M : jxM)
    (h : ((6 ≤ v6 → (((-2147483648 : Int) ≤ v5 + 7 ∧ v5 + 7 ≤ 2147483647) ∧ (0 ≤ (v5 + 7) ∧ (v5 + 7) < 305) ∧ ((-2147483648 : Int) ≤ v5 + 8 ∧ v5 + 8 ≤ 2147483647) ∧ (0 ≤ (v5 + 8) ∧ (v5 + 8) < 305) ∧ ((-2147483648 : Int) ≤ v5 + 9 ∧ v5 + 9 ≤ 2147483647) ∧ (0 ≤ (v5 + 9) ∧ (v5 + 9) < 305) ∧ ((-2147483648 : Int) ≤ v5 + 10 ∧ v5 + 10 ≤ 2147483647) ∧ (0 ≤ (v5 + 10) ∧ (v5 + 10) < 305) ∧ ((-2147483648 : Int) ≤ ((jx_up (jx_up (jx_up (jx_up M 2 (v5 + 7) v1) 2 (v5 + 8) v2) 2 (v5 + 9) v3) 2 (v5 + 10) 0) 2 0) + 1 ∧ ((jx_up (jx_up (jx_up (jx_up M 2 (v5 + 7) v1) 2 (v5 + 8) v2) 2 (v5 + 9) v3) 2 (v5 + 10) 0) 2 0) + 1 ≤ 2147483647) ∧ ((-2147483648 : Int) ≤ ((((jx_up (jx_up (jx_up (jx_up M 2 (v5 + 7) v1) 2 (v5 + 8) v2) 2 (v5 + 9) v3) 2 (v5 + 10) 0) 2 0) + 1)) - 1 ∧ ((((jx_up (jx_up (jx_up (jx_up M 2 (v5 + 7) v1) 2 (v5 + 8) v2) 2 (v5 + 9) v3) 2 (v5 + 10) 0) 2 0) + 1)) - 1 ≤ 2147483647)) ∧ K (some (.inl (((((jx_up (jx_up (jx_up (jx_up M 2 (v5 + 7) v1) 2 (v5 + 8) v2) 2 (v5 + 9) v3) 2 (v5 + 10) 0) 2 0) + 1)) - 1))) (jx_up (jx_up (jx_up (jx_up (jx_up (jx_up M 2 (v5 + 7) v1) 2 (v5 + 8) v2) 2 (v5 + 9) v3) 2 (v5 + 10) 0) 2 0 (((jx_up (jx_up (jx_up (jx_up M 2 (v5 + 7) v1) 2 (v5 + 8) v2) 2 (v5 + 9) v3) 2 (v5 + 10) 0) 2 0) + 1)) 1 4 0)) ∧ (v6 < 6 → (((-2147483648 : Int) ≤ v5 + 1 ∧ v5 + 1 ≤ 2147483647) ∧ ((-2147483648 : Int) ≤ (v5 + 1) + v6 ∧ (v5 + 1) + v6 ≤ 2147483647)) ∧ (((M 1 4) ≤ v6 → ((0 ≤ ((v5 + 1) + v6) ∧ ((v5 + 1) + v6) < 305) ∧ ((-2147483648 : Int) ≤ v6 + 1 ∧ v6 + 1 ≤ 2147483647)) ∧ X 99 [.inr 1, .inl v1, .inl v2, .inl v3, .inl v4, .inl v5, .inl (v6 + 1)] [] (jx_up M 2 ((v5 + 1) + v6) 0)) ∧ (v6 < (M 1 4) → ((0 ≤ v6 ∧ v6 < 20) ∧ (0 ≤ ((v5 + 1) + v6) ∧ ((v5 + 1) + v6) < 305) ∧ ((-2147483648 : Int) ≤ v6 + 1 ∧ v6 + 1 ≤ 2147483647)) ∧ X 99 [.inr 1, .inl v1, .inl v2, .inl v3, .inl v4, .inl v5, .inl (v6 + 1)] [] (jx_up M 2 ((v5 + 1) + v6) (M 4 v6))))))) :
    X 99 [.inr 1, .inl v1, .inl v2, .inl v3, .inl v4, .inl v5, .inl v6] [] M := by
  refine jk_load (pc := 99) hX 6 rfl rfl ?_
  refine jk_const (pc := 100) hX 6 rfl (by decide) ?_
  refine jk_cge (pc := 101) hX 122 rfl (fun q28 => ?_) (fun q29 => ?_)
  · have h1 := h.1 q28
    obtain ⟨⟨g3, g4, g5, g6, g7, g8, g9, g10, g11, g12⟩, h13⟩ := h1
    refine jk_aload (pc := 122) hX 0 rfl rfl ?_
    refine jk_getR (pc := 123) hX 7 0 rfl rfl (r := 1) rfl ?_
    refine jk_load (pc := 124) hX 5 rfl rfl ?_
    refine jk_const (pc := 125) hX 7 rfl (by decide) ?_
    refine jk_add (pc := 126) hX rfl g3 ?_
    refine jk_load (pc := 127) hX 1 rfl rfl ?_
    refine jk_iast (pc := 128) hX 305 rfl rfl g4 ?_
    refine jk_aload (pc := 129) hX 0 rfl rfl ?_
    refine jk_getR (pc := 130) hX 7 0 rfl rfl (r := 1) rfl ?_
    refine jk_load (pc := 131) hX 5 rfl rfl ?_
    refine jk_const (pc := 132) hX 8 rfl (by decide) ?_
    refine jk_add (pc := 133) hX rfl g5 ?_
    refine jk_load (pc := 134) hX 2 rfl rfl ?_
    refine jk_iast (pc := 135) hX 305 rfl rfl g6 ?_
    refine jk_aload (pc := 136) hX 0 rfl rfl ?_
    refine jk_getR (pc := 137) hX 7 0 rfl rfl (r := 1) rfl ?_
    refine jk_load (pc := 138) hX 5 rfl rfl ?_
    refine jk_const (pc := 139) hX 9 rfl (by decide) ?_
    refine jk_add (pc := 140) hX rfl g7 ?_
    refine jk_load (pc := 141) hX 3 rfl rfl ?_
    refine jk_iast (pc := 142) hX 305 rfl rfl g8 ?_
    refine jk_aload (pc := 143) hX 0 rfl rfl ?_
    refine jk_getR (pc := 144) hX 7 0 rfl rfl (r := 1) rfl ?_
    refine jk_load (pc := 145) hX 5 rfl rfl ?_
    refine jk_const (pc := 146) hX 10 rfl (by decide) ?_
    refine jk_add (pc := 147) hX rfl g9 ?_
    refine jk_const (pc := 148) hX 0 rfl (by decide) ?_
    refine jk_iast (pc := 149) hX 305 rfl rfl g10 ?_
    refine jk_aload (pc := 150) hX 0 rfl rfl ?_
    refine jk_getR (pc := 151) hX 7 0 rfl rfl (r := 1) rfl ?_
    refine jk_const (pc := 152) hX 0 rfl (by decide) ?_
    refine jk_dup2 (pc := 153) hX rfl ?_
    refine jk_iald (pc := 154) hX 305 rfl rfl (by decide) ?_
    refine jk_const (pc := 155) hX 1 rfl (by decide) ?_
    refine jk_add (pc := 156) hX rfl g11 ?_
    refine jk_iast (pc := 157) hX 305 rfl rfl (by decide) ?_
    refine jk_aload (pc := 158) hX 0 rfl rfl ?_
    refine jk_const (pc := 159) hX 0 rfl (by decide) ?_
    refine jk_put (pc := 160) hX 7 4 rfl rfl rfl ?_
    refine jk_aload (pc := 161) hX 0 rfl rfl ?_
    refine jk_getR (pc := 162) hX 7 0 rfl rfl (r := 1) rfl ?_
    refine jk_const (pc := 163) hX 0 rfl (by decide) ?_
    refine jk_iald (pc := 164) hX 305 rfl rfl (by decide) (jx_vX ((jx_upc (by decide)).trans (jx_ups)) ?_)
    refine jk_const (pc := 165) hX 1 rfl (by decide) ?_
    refine jk_sub (pc := 166) hX rfl g12 ?_
    exact jk_iret (pc := 167) hX rfl h13
  · have h2 := h.2 q29
    obtain ⟨⟨g14, g15⟩, h27⟩ := h2
    refine jk_aload (pc := 102) hX 0 rfl rfl ?_
    refine jk_getR (pc := 103) hX 7 0 rfl rfl (r := 1) rfl ?_
    refine jk_load (pc := 104) hX 5 rfl rfl ?_
    refine jk_const (pc := 105) hX 1 rfl (by decide) ?_
    refine jk_add (pc := 106) hX rfl g14 ?_
    refine jk_load (pc := 107) hX 6 rfl rfl ?_
    refine jk_add (pc := 108) hX rfl g15 ?_
    refine jk_load (pc := 109) hX 6 rfl rfl ?_
    refine jk_aload (pc := 110) hX 0 rfl rfl ?_
    refine jk_getI (pc := 111) hX 7 4 rfl rfl rfl ?_
    refine jk_cge (pc := 112) hX 118 rfl (fun q25 => ?_) (fun q26 => ?_)
    · have h16 := h27.1 q25
      obtain ⟨⟨g18, g19⟩, h20⟩ := h16
      refine jk_const (pc := 118) hX 0 rfl (by decide) ?_
      refine jk_iast (pc := 119) hX 305 rfl rfl g18 ?_
      refine jk_iinc (pc := 120) hX 6 1 rfl rfl g19 (ls' := [.inr 1, .inl v1, .inl v2, .inl v3, .inl v4, .inl v5, .inl (v6 + 1)]) rfl ?_
      refine jk_goto (pc := 121) hX 99 rfl ?_
      exact h20
    · have h17 := h27.2 q26
      obtain ⟨⟨g21, g22, g23⟩, h24⟩ := h17
      refine jk_aload (pc := 113) hX 0 rfl rfl ?_
      refine jk_getR (pc := 114) hX 7 3 rfl rfl (r := 3) rfl ?_
      refine jk_load (pc := 115) hX 6 rfl rfl ?_
      refine jk_iald (pc := 116) hX 20 rfl rfl g21 ?_
      refine jk_goto (pc := 117) hX 119 rfl ?_
      refine jk_iast (pc := 119) hX 305 rfl rfl g22 ?_
      refine jk_iinc (pc := 120) hX 6 1 rfl rfl g23 (ls' := [.inr 1, .inl v1, .inl v2, .inl v3, .inl v4, .inl v5, .inl (v6 + 1)]) rfl ?_
      refine jk_goto (pc := 121) hX 99 rfl ?_
      exact h24
set_option maxHeartbeats 4000000 in
theorem bk_F_removeEntry_0 {d : Nat} {K : jxK} {X : jxX} (hX : jx_clo jx_G2 (d + 2) (jx_call jx_G2 jx_T (d + 2)) kc_F_removeEntry K X) (v1 : Int) (M : jxM)
    (h : (((0 : Int) ≤ (M 2 0) ∧ (M 2 0) ≤ 20)) ∧ ((0 ≤ v1 ∧ v1 < (M 2 0) → jx_call jx_G2 jx_T (d + 2) 81 [.inr 1] M (fun r M5 => r = none ∧ (((-2147483648 : Int) ≤ (M5 2 0) - 1 ∧ (M5 2 0) - 1 ≤ 2147483647) ∧ ((0 : Int) ≤ v1 ∧ v1 ≤ 20)) ∧ X 19 [.inr 1, .inl v1, .inl (1 + 11 * v1)] [] (jx_up M5 2 0 ((M5 2 0) - 1)))) ∧ (¬ (0 ≤ v1 ∧ v1 < (M 2 0)) → K (some (.inl (-1))) M))) :
    X 0 [.inr 1, .inl v1, .inr 0] [] M := by
  obtain ⟨g1, h12⟩ := h
  refine jk_aload (pc := 0) hX 0 rfl rfl ?_
  refine jk_load (pc := 1) hX 1 rfl rfl ?_
  refine jk_cv (pc := 2) hX 87 1 7 rfl 1 [.inl v1] [] rfl rfl rfl (Nat.le_of_ble_eq_true rfl) (sp_F_isEntry d v1 M g1 ?_)
  show X 3 [.inr 1, .inl v1, .inr 0] [.inl (jx_b (0 ≤ v1 ∧ v1 < (M 2 0)))] M
  refine jk_zneB (pc := 3) hX 6 rfl (fun q10 => ?_) (fun q11 => ?_)
  · have h2 := h12.1 q10
    refine jk_aload (pc := 6) hX 0 rfl rfl ?_
    refine jk_cv (pc := 7) hX 81 0 7 rfl 1 [] [] rfl rfl rfl (Nat.le_of_ble_eq_true rfl) (jx_mono (fun r M5 hr => ?_) h2)
    obtain ⟨rfl, h6⟩ := hr
    show X 8 [.inr 1, .inl v1, .inr 0] [] M5
    obtain ⟨⟨g7, g8⟩, h9⟩ := h6
    refine jk_aload (pc := 8) hX 0 rfl rfl ?_
    refine jk_getR (pc := 9) hX 7 0 rfl rfl (r := 1) rfl ?_
    refine jk_const (pc := 10) hX 0 rfl (by decide) ?_
    refine jk_dup2 (pc := 11) hX rfl ?_
    refine jk_iald (pc := 12) hX 305 rfl rfl (by decide) ?_
    refine jk_const (pc := 13) hX 1 rfl (by decide) ?_
    refine jk_sub (pc := 14) hX rfl g7 ?_
    refine jk_iast (pc := 15) hX 305 rfl rfl (by decide) ?_
    refine jk_load (pc := 16) hX 1 rfl rfl ?_
    refine jk_cs (pc := 17) hX 86 1 rfl [.inl v1] [] rfl rfl (Nat.le_of_ble_eq_true rfl) (sp_F_at (d + 1) v1 (jx_up M5 2 0 ((M5 2 0) - 1)) g8 ?_)
    show X 18 [.inr 1, .inl v1, .inr 0] [.inl (1 + 11 * v1)] (jx_up M5 2 0 ((M5 2 0) - 1))
    refine jk_store (pc := 18) hX 2 rfl (Nat.le_of_ble_eq_true rfl) (ls' := [.inr 1, .inl v1, .inl (1 + 11 * v1)]) rfl ?_
    exact h9
  · have h3 := h12.2 q11
    refine jk_const (pc := 4) hX (-1) rfl (by decide) ?_
    exact jk_iret (pc := 5) hX rfl h3
set_option maxHeartbeats 4000000 in
theorem bk_F_removeEntry_19 {d : Nat} {K : jxK} {X : jxX} (hX : jx_clo jx_G2 (d + 2) (jx_call jx_G2 jx_T (d + 2)) kc_F_removeEntry K X) (v1 : Int) (v2 : Int) (M : jxM)
    (h : (((0 : Int) ≤ (M 2 0) ∧ (M 2 0) ≤ 20)) ∧ (((1 + 11 * (M 2 0)) ≤ v2 → K (some (.inl (M 2 0))) M) ∧ (v2 < (1 + 11 * (M 2 0)) → (((-2147483648 : Int) ≤ v2 + 11 ∧ v2 + 11 ≤ 2147483647) ∧ (0 ≤ (v2 + 11) ∧ (v2 + 11) < 305) ∧ (0 ≤ v2 ∧ v2 < 305) ∧ ((-2147483648 : Int) ≤ v2 + 1 ∧ v2 + 1 ≤ 2147483647)) ∧ X 19 [.inr 1, .inl v1, .inl (v2 + 1)] [] (jx_up M 2 v2 (M 2 (v2 + 11)))))) :
    X 19 [.inr 1, .inl v1, .inl v2] [] M := by
  obtain ⟨g1, h11⟩ := h
  refine jk_load (pc := 19) hX 2 rfl rfl ?_
  refine jk_aload (pc := 20) hX 0 rfl rfl ?_
  refine jk_getR (pc := 21) hX 7 0 rfl rfl (r := 1) rfl ?_
  refine jk_const (pc := 22) hX 0 rfl (by decide) ?_
  refine jk_iald (pc := 23) hX 305 rfl rfl (by decide) ?_
  refine jk_cs (pc := 24) hX 86 1 rfl [.inl (M 2 0)] [.inl v2] rfl rfl (Nat.le_of_ble_eq_true rfl) (sp_F_at (d + 1) (M 2 0) M g1 ?_)
  show X 25 [.inr 1, .inl v1, .inl v2] [.inl (1 + 11 * (M 2 0)), .inl v2] M
  refine jk_cge (pc := 25) hX 38 rfl (fun q9 => ?_) (fun q10 => ?_)
  · have h2 := h11.1 q9
    refine jk_aload (pc := 38) hX 0 rfl rfl ?_
    refine jk_getR (pc := 39) hX 7 0 rfl rfl (r := 1) rfl ?_
    refine jk_const (pc := 40) hX 0 rfl (by decide) ?_
    refine jk_iald (pc := 41) hX 305 rfl rfl (by decide) ?_
    exact jk_iret (pc := 42) hX rfl h2
  · have h3 := h11.2 q10
    obtain ⟨⟨g4, g5, g6, g7⟩, h8⟩ := h3
    refine jk_aload (pc := 26) hX 0 rfl rfl ?_
    refine jk_getR (pc := 27) hX 7 0 rfl rfl (r := 1) rfl ?_
    refine jk_load (pc := 28) hX 2 rfl rfl ?_
    refine jk_aload (pc := 29) hX 0 rfl rfl ?_
    refine jk_getR (pc := 30) hX 7 0 rfl rfl (r := 1) rfl ?_
    refine jk_load (pc := 31) hX 2 rfl rfl ?_
    refine jk_const (pc := 32) hX 11 rfl (by decide) ?_
    refine jk_add (pc := 33) hX rfl g4 ?_
    refine jk_iald (pc := 34) hX 305 rfl rfl g5 ?_
    refine jk_iast (pc := 35) hX 305 rfl rfl g6 ?_
    refine jk_iinc (pc := 36) hX 2 1 rfl rfl g7 (ls' := [.inr 1, .inl v1, .inl (v2 + 1)]) rfl ?_
    refine jk_goto (pc := 37) hX 19 rfl ?_
    exact h8
set_option maxHeartbeats 4000000 in
theorem bk_F_setConnection_0 {d : Nat} {K : jxK} {X : jxX} (hX : jx_clo jx_G2 (d + 2) (jx_call jx_G2 jx_T (d + 2)) kc_F_setConnection K X) (v1 : Int) (v2 : Int) (v3 : Int) (M : jxM)
    (h : ((¬ ((0 : Int) ≤ v1 ∧ v1 ≤ (6 : Int)) → K (some (.inl (-1))) M) ∧ ((0 : Int) ≤ v1 ∧ v1 ≤ (6 : Int) → ((¬ ((0 : Int) ≤ v2 ∧ v2 ≤ (6 : Int)) → K (some (.inl (-1))) M) ∧ ((0 : Int) ≤ v2 ∧ v2 ≤ (6 : Int) → ((¬ ((0 : Int) ≤ v3 ∧ v3 ≤ (99 : Int)) → K (some (.inl (-1))) M) ∧ ((0 : Int) ≤ v3 ∧ v3 ≤ (99 : Int) → (((-2147483648 : Int) ≤ 7 * v1 ∧ 7 * v1 ≤ 2147483647) ∧ ((-2147483648 : Int) ≤ 221 + (7 * v1) ∧ 221 + (7 * v1) ≤ 2147483647) ∧ ((-2147483648 : Int) ≤ (221 + (7 * v1)) + v2 ∧ (221 + (7 * v1)) + v2 ≤ 2147483647)) ∧ jx_call jx_G2 jx_T (d + 2) 97 [.inr 1, .inl ((221 + (7 * v1)) + v2), .inl v3] M (fun r M11 => ∃ r10 : Int, r = some (.inl r10) ∧ K (some (.inl r10)) M11)))))))) :
    X 0 [.inr 1, .inl v1, .inl v2, .inl v3] [] M := by
  refine jk_load (pc := 0) hX 1 rfl rfl ?_
  refine jk_const (pc := 1) hX 0 rfl (by decide) ?_
  refine jk_const (pc := 2) hX 6 rfl (by decide) ?_
  refine jk_cs (pc := 3) hX 80 3 rfl [.inl v1, .inl 0, .inl 6] [] rfl rfl (Nat.le_of_ble_eq_true rfl) (sp_F_in (d + 1) v1 (0 : Int) (6 : Int) M  ?_)
  show X 4 [.inr 1, .inl v1, .inl v2, .inl v3] [.inl (jx_b ((0 : Int) ≤ v1 ∧ v1 ≤ (6 : Int)))] M
  refine jk_zeqB (pc := 4) hX 26 rfl (fun q18 => ?_) (fun q19 => ?_)
  · have h1 := h.1 q18
    refine jk_const (pc := 26) hX (-1) rfl (by decide) ?_
    exact jk_iret (pc := 27) hX rfl h1
  · have h2 := h.2 q19
    refine jk_load (pc := 5) hX 2 rfl rfl ?_
    refine jk_const (pc := 6) hX 0 rfl (by decide) ?_
    refine jk_const (pc := 7) hX 6 rfl (by decide) ?_
    refine jk_cs (pc := 8) hX 80 3 rfl [.inl v2, .inl 0, .inl 6] [] rfl rfl (Nat.le_of_ble_eq_true rfl) (sp_F_in (d + 1) v2 (0 : Int) (6 : Int) M  ?_)
    show X 9 [.inr 1, .inl v1, .inl v2, .inl v3] [.inl (jx_b ((0 : Int) ≤ v2 ∧ v2 ≤ (6 : Int)))] M
    refine jk_zeqB (pc := 9) hX 26 rfl (fun q16 => ?_) (fun q17 => ?_)
    · have h3 := h2.1 q16
      refine jk_const (pc := 26) hX (-1) rfl (by decide) ?_
      exact jk_iret (pc := 27) hX rfl h3
    · have h4 := h2.2 q17
      refine jk_load (pc := 10) hX 3 rfl rfl ?_
      refine jk_const (pc := 11) hX 0 rfl (by decide) ?_
      refine jk_const (pc := 12) hX 99 rfl (by decide) ?_
      refine jk_cs (pc := 13) hX 80 3 rfl [.inl v3, .inl 0, .inl 99] [] rfl rfl (Nat.le_of_ble_eq_true rfl) (sp_F_in (d + 1) v3 (0 : Int) (99 : Int) M  ?_)
      show X 14 [.inr 1, .inl v1, .inl v2, .inl v3] [.inl (jx_b ((0 : Int) ≤ v3 ∧ v3 ≤ (99 : Int)))] M
      refine jk_zeqB (pc := 14) hX 26 rfl (fun q14 => ?_) (fun q15 => ?_)
      · have h5 := h4.1 q14
        refine jk_const (pc := 26) hX (-1) rfl (by decide) ?_
        exact jk_iret (pc := 27) hX rfl h5
      · have h6 := h4.2 q15
        obtain ⟨⟨g7, g8, g9⟩, h13⟩ := h6
        refine jk_aload (pc := 15) hX 0 rfl rfl ?_
        refine jk_const (pc := 16) hX 221 rfl (by decide) ?_
        refine jk_const (pc := 17) hX 7 rfl (by decide) ?_
        refine jk_load (pc := 18) hX 1 rfl rfl ?_
        refine jk_mul (pc := 19) hX rfl g7 ?_
        refine jk_add (pc := 20) hX rfl g8 ?_
        refine jk_load (pc := 21) hX 2 rfl rfl ?_
        refine jk_add (pc := 22) hX rfl g9 ?_
        refine jk_load (pc := 23) hX 3 rfl rfl ?_
        refine jk_cv (pc := 24) hX 97 2 7 rfl 1 [.inl ((221 + (7 * v1)) + v2), .inl v3] [] rfl rfl rfl (Nat.le_of_ble_eq_true rfl) (jx_mono (fun r M11 hr => ?_) h13)
        obtain ⟨r10, rfl, h12⟩ := hr
        show X 25 [.inr 1, .inl v1, .inl v2, .inl v3] [.inl r10] M11
        refine jk_goto (pc := 25) hX 27 rfl ?_
        exact jk_iret (pc := 27) hX rfl h12
set_option maxHeartbeats 4000000 in
theorem bk_F_setUnknownCost_0 {d : Nat} {K : jxK} {X : jxX} (hX : jx_clo jx_G2 (d + 2) (jx_call jx_G2 jx_T (d + 2)) kc_F_setUnknownCost K X) (v1 : Int) (M : jxM)
    (h : ((¬ ((0 : Int) ≤ v1 ∧ v1 ≤ (200 : Int)) → K (some (.inl (-1))) M) ∧ ((0 : Int) ≤ v1 ∧ v1 ≤ (200 : Int) → jx_call jx_G2 jx_T (d + 2) 97 [.inr 1, .inl 270, .inl v1] M (fun r M4 => ∃ r3 : Int, r = some (.inl r3) ∧ K (some (.inl r3)) M4)))) :
    X 0 [.inr 1, .inl v1] [] M := by
  refine jk_load (pc := 0) hX 1 rfl rfl ?_
  refine jk_const (pc := 1) hX 0 rfl (by decide) ?_
  refine jk_const (pc := 2) hX 200 rfl (by decide) ?_
  refine jk_cs (pc := 3) hX 80 3 rfl [.inl v1, .inl 0, .inl 200] [] rfl rfl (Nat.le_of_ble_eq_true rfl) (sp_F_in (d + 1) v1 (0 : Int) (200 : Int) M  ?_)
  show X 4 [.inr 1, .inl v1] [.inl (jx_b ((0 : Int) ≤ v1 ∧ v1 ≤ (200 : Int)))] M
  refine jk_zeqB (pc := 4) hX 10 rfl (fun q6 => ?_) (fun q7 => ?_)
  · have h1 := h.1 q6
    refine jk_const (pc := 10) hX (-1) rfl (by decide) ?_
    exact jk_iret (pc := 11) hX rfl h1
  · have h2 := h.2 q7
    refine jk_aload (pc := 5) hX 0 rfl rfl ?_
    refine jk_const (pc := 6) hX 270 rfl (by decide) ?_
    refine jk_load (pc := 7) hX 1 rfl rfl ?_
    refine jk_cv (pc := 8) hX 97 2 7 rfl 1 [.inl 270, .inl v1] [] rfl rfl rfl (Nat.le_of_ble_eq_true rfl) (jx_mono (fun r M4 hr => ?_) h2)
    obtain ⟨r3, rfl, h5⟩ := hr
    show X 9 [.inr 1, .inl v1] [.inl r3] M4
    refine jk_goto (pc := 9) hX 11 rfl ?_
    exact jk_iret (pc := 11) hX rfl h5
set_option maxHeartbeats 4000000 in
theorem bk_F_setInput_0 {d : Nat} {K : jxK} {X : jxX} (hX : jx_clo jx_G2 (d + 2) (jx_call jx_G2 jx_T (d + 2)) kc_F_setInput K X) (M : jxM)
    (h : ((((0 : Int) ≤ (M 1 4) ∧ (M 1 4) ≤ 20) ∧ (0 : Int) ≤ (16 : Int))) ∧ (((t_err (M 4) (16 : Int) (-9) 0 ((M 1 4)).toNat) = (-9) → jx_call jx_G2 jx_T (d + 2) 81 [.inr 1] M (fun r M5 => r = none ∧ X 21 [.inr 1, .inl (t_err (M 4) (16 : Int) (-9) 0 ((M 1 4)).toNat), .inl 0] [] (jx_up M5 2 271 (M5 1 4)))) ∧ ((t_err (M 4) (16 : Int) (-9) 0 ((M 1 4)).toNat) ≠ (-9) → (((-2147483648 : Int) ≤ (-10) - (t_err (M 4) (16 : Int) (-9) 0 ((M 1 4)).toNat) ∧ (-10) - (t_err (M 4) (16 : Int) (-9) 0 ((M 1 4)).toNat) ≤ 2147483647)) ∧ K (some (.inl ((-10) - (t_err (M 4) (16 : Int) (-9) 0 ((M 1 4)).toNat)))) M))) :
    X 0 [.inr 1, .inr 0, .inr 0] [] M := by
  obtain ⟨g1, h11⟩ := h
  refine jk_aload (pc := 0) hX 0 rfl rfl ?_
  refine jk_const (pc := 1) hX 16 rfl (by decide) ?_
  refine jk_cv (pc := 2) hX 85 1 7 rfl 1 [.inl 16] [] rfl rfl rfl (Nat.le_of_ble_eq_true rfl) (sp_F_fault d (16 : Int) M g1 ?_)
  show X 3 [.inr 1, .inr 0, .inr 0] [.inl (t_err (M 4) (16 : Int) (-9) 0 ((M 1 4)).toNat)] M
  refine jk_store (pc := 3) hX 1 rfl (Nat.le_of_ble_eq_true rfl) (ls' := [.inr 1, .inl (t_err (M 4) (16 : Int) (-9) 0 ((M 1 4)).toNat), .inr 0]) rfl ?_
  refine jk_load (pc := 4) hX 1 rfl rfl ?_
  refine jk_const (pc := 5) hX (-9) rfl (by decide) ?_
  refine jk_ceq (pc := 6) hX 11 rfl (fun q9 => ?_) (fun q10 => ?_)
  · have h2 := h11.1 q9
    refine jk_aload (pc := 11) hX 0 rfl rfl ?_
    refine jk_cv (pc := 12) hX 81 0 7 rfl 1 [] [] rfl rfl rfl (Nat.le_of_ble_eq_true rfl) (jx_mono (fun r M5 hr => ?_) h2)
    obtain ⟨rfl, h6⟩ := hr
    show X 13 [.inr 1, .inl (t_err (M 4) (16 : Int) (-9) 0 ((M 1 4)).toNat), .inr 0] [] M5
    refine jk_aload (pc := 13) hX 0 rfl rfl ?_
    refine jk_getR (pc := 14) hX 7 0 rfl rfl (r := 1) rfl ?_
    refine jk_const (pc := 15) hX 271 rfl (by decide) ?_
    refine jk_aload (pc := 16) hX 0 rfl rfl ?_
    refine jk_getI (pc := 17) hX 7 4 rfl rfl rfl ?_
    refine jk_iast (pc := 18) hX 305 rfl rfl (by decide) ?_
    refine jk_const (pc := 19) hX 0 rfl (by decide) ?_
    refine jk_store (pc := 20) hX 2 rfl (Nat.le_of_ble_eq_true rfl) (ls' := [.inr 1, .inl (t_err (M 4) (16 : Int) (-9) 0 ((M 1 4)).toNat), .inl 0]) rfl ?_
    exact h6
  · have h3 := h11.2 q10
    obtain ⟨g7, h8⟩ := h3
    refine jk_const (pc := 7) hX (-10) rfl (by decide) ?_
    refine jk_load (pc := 8) hX 1 rfl rfl ?_
    refine jk_sub (pc := 9) hX rfl g7 ?_
    exact jk_iret (pc := 10) hX rfl h8
set_option maxHeartbeats 4000000 in
theorem bk_F_setInput_21 {d : Nat} {K : jxK} {X : jxX} (hX : jx_clo jx_G2 (d + 2) (jx_call jx_G2 jx_T (d + 2)) kc_F_setInput K X) (v1 : Int) (v2 : Int) (M : jxM)
    (h : ((16 ≤ v2 → X 44 [.inr 1, .inl v1, .inl 0] [] M) ∧ (v2 < 16 → (((-2147483648 : Int) ≤ 272 + v2 ∧ 272 + v2 ≤ 2147483647)) ∧ (((M 1 4) ≤ v2 → ((0 ≤ (272 + v2) ∧ (272 + v2) < 305) ∧ ((-2147483648 : Int) ≤ v2 + 1 ∧ v2 + 1 ≤ 2147483647)) ∧ X 21 [.inr 1, .inl v1, .inl (v2 + 1)] [] (jx_up M 2 (272 + v2) 0)) ∧ (v2 < (M 1 4) → ((0 ≤ v2 ∧ v2 < 20) ∧ (0 ≤ (272 + v2) ∧ (272 + v2) < 305) ∧ ((-2147483648 : Int) ≤ v2 + 1 ∧ v2 + 1 ≤ 2147483647)) ∧ X 21 [.inr 1, .inl v1, .inl (v2 + 1)] [] (jx_up M 2 (272 + v2) (M 4 v2))))))) :
    X 21 [.inr 1, .inl v1, .inl v2] [] M := by
  refine jk_load (pc := 21) hX 2 rfl rfl ?_
  refine jk_const (pc := 22) hX 16 rfl (by decide) ?_
  refine jk_cge (pc := 23) hX 42 rfl (fun q16 => ?_) (fun q17 => ?_)
  · have h1 := h.1 q16
    refine jk_const (pc := 42) hX 0 rfl (by decide) ?_
    refine jk_store (pc := 43) hX 2 rfl (Nat.le_of_ble_eq_true rfl) (ls' := [.inr 1, .inl v1, .inl 0]) rfl ?_
    exact h1
  · have h2 := h.2 q17
    obtain ⟨g3, h15⟩ := h2
    refine jk_aload (pc := 24) hX 0 rfl rfl ?_
    refine jk_getR (pc := 25) hX 7 0 rfl rfl (r := 1) rfl ?_
    refine jk_const (pc := 26) hX 272 rfl (by decide) ?_
    refine jk_load (pc := 27) hX 2 rfl rfl ?_
    refine jk_add (pc := 28) hX rfl g3 ?_
    refine jk_load (pc := 29) hX 2 rfl rfl ?_
    refine jk_aload (pc := 30) hX 0 rfl rfl ?_
    refine jk_getI (pc := 31) hX 7 4 rfl rfl rfl ?_
    refine jk_cge (pc := 32) hX 38 rfl (fun q13 => ?_) (fun q14 => ?_)
    · have h4 := h15.1 q13
      obtain ⟨⟨g6, g7⟩, h8⟩ := h4
      refine jk_const (pc := 38) hX 0 rfl (by decide) ?_
      refine jk_iast (pc := 39) hX 305 rfl rfl g6 ?_
      refine jk_iinc (pc := 40) hX 2 1 rfl rfl g7 (ls' := [.inr 1, .inl v1, .inl (v2 + 1)]) rfl ?_
      refine jk_goto (pc := 41) hX 21 rfl ?_
      exact h8
    · have h5 := h15.2 q14
      obtain ⟨⟨g9, g10, g11⟩, h12⟩ := h5
      refine jk_aload (pc := 33) hX 0 rfl rfl ?_
      refine jk_getR (pc := 34) hX 7 3 rfl rfl (r := 3) rfl ?_
      refine jk_load (pc := 35) hX 2 rfl rfl ?_
      refine jk_iald (pc := 36) hX 20 rfl rfl g9 ?_
      refine jk_goto (pc := 37) hX 39 rfl ?_
      refine jk_iast (pc := 39) hX 305 rfl rfl g10 ?_
      refine jk_iinc (pc := 40) hX 2 1 rfl rfl g11 (ls' := [.inr 1, .inl v1, .inl (v2 + 1)]) rfl ?_
      refine jk_goto (pc := 41) hX 21 rfl ?_
      exact h12
set_option maxHeartbeats 4000000 in
theorem bk_F_setInput_44 {d : Nat} {K : jxK} {X : jxX} (hX : jx_clo jx_G2 (d + 2) (jx_call jx_G2 jx_T (d + 2)) kc_F_setInput K X) (v1 : Int) (v2 : Int) (M : jxM)
    (h : ((16 < v2 → K (some (.inl (M 2 271))) (jx_up M 1 4 0)) ∧ (v2 ≤ 16 → (((-2147483648 : Int) ≤ 288 + v2 ∧ 288 + v2 ≤ 2147483647) ∧ (0 ≤ (288 + v2) ∧ (288 + v2) < 305) ∧ ((-2147483648 : Int) ≤ v2 + 1 ∧ v2 + 1 ≤ 2147483647)) ∧ X 44 [.inr 1, .inl v1, .inl (v2 + 1)] [] (jx_up M 2 (288 + v2) 0)))) :
    X 44 [.inr 1, .inl v1, .inl v2] [] M := by
  refine jk_load (pc := 44) hX 2 rfl rfl ?_
  refine jk_const (pc := 45) hX 16 rfl (by decide) ?_
  refine jk_cgt (pc := 46) hX 56 rfl (fun q7 => ?_) (fun q8 => ?_)
  · have h1 := h.1 q7
    refine jk_aload (pc := 56) hX 0 rfl rfl ?_
    refine jk_const (pc := 57) hX 0 rfl (by decide) ?_
    refine jk_put (pc := 58) hX 7 4 rfl rfl rfl ?_
    refine jk_aload (pc := 59) hX 0 rfl rfl ?_
    refine jk_getR (pc := 60) hX 7 0 rfl rfl (r := 1) rfl ?_
    refine jk_const (pc := 61) hX 271 rfl (by decide) ?_
    refine jk_iald (pc := 62) hX 305 rfl rfl (by decide) (jx_vX (jx_upc (by decide)) ?_)
    exact jk_iret (pc := 63) hX rfl h1
  · have h2 := h.2 q8
    obtain ⟨⟨g3, g4, g5⟩, h6⟩ := h2
    refine jk_aload (pc := 47) hX 0 rfl rfl ?_
    refine jk_getR (pc := 48) hX 7 0 rfl rfl (r := 1) rfl ?_
    refine jk_const (pc := 49) hX 288 rfl (by decide) ?_
    refine jk_load (pc := 50) hX 2 rfl rfl ?_
    refine jk_add (pc := 51) hX rfl g3 ?_
    refine jk_const (pc := 52) hX 0 rfl (by decide) ?_
    refine jk_iast (pc := 53) hX 305 rfl rfl g4 ?_
    refine jk_iinc (pc := 54) hX 2 1 rfl rfl g5 (ls' := [.inr 1, .inl v1, .inl (v2 + 1)]) rfl ?_
    refine jk_goto (pc := 55) hX 44 rfl ?_
    exact h6
set_option maxHeartbeats 4000000 in
theorem bk_F_setConstraint_0 {d : Nat} {K : jxK} {X : jxX} (hX : jx_clo jx_G2 (d + 2) (jx_call jx_G2 jx_T (d + 2)) kc_F_setConstraint K X) (v1 : Int) (v2 : Int) (M : jxM)
    (h : (((-2147483648 : Int) ≤ (M 2 271) - 1 ∧ (M 2 271) - 1 ≤ 2147483647)) ∧ ((¬ ((1 : Int) ≤ v1 ∧ v1 ≤ ((M 2 271) - 1)) → K (some (.inl (-1))) M) ∧ ((1 : Int) ≤ v1 ∧ v1 ≤ ((M 2 271) - 1) → ((¬ ((0 : Int) ≤ v2 ∧ v2 ≤ (2 : Int)) → K (some (.inl (-1))) M) ∧ ((0 : Int) ≤ v2 ∧ v2 ≤ (2 : Int) → (((-2147483648 : Int) ≤ 288 + v1 ∧ 288 + v1 ≤ 2147483647)) ∧ jx_call jx_G2 jx_T (d + 2) 97 [.inr 1, .inl (288 + v1), .inl v2] M (fun r M8 => ∃ r7 : Int, r = some (.inl r7) ∧ K (some (.inl r7)) M8)))))) :
    X 0 [.inr 1, .inl v1, .inl v2] [] M := by
  obtain ⟨g1, h15⟩ := h
  refine jk_load (pc := 0) hX 1 rfl rfl ?_
  refine jk_const (pc := 1) hX 1 rfl (by decide) ?_
  refine jk_aload (pc := 2) hX 0 rfl rfl ?_
  refine jk_getR (pc := 3) hX 7 0 rfl rfl (r := 1) rfl ?_
  refine jk_const (pc := 4) hX 271 rfl (by decide) ?_
  refine jk_iald (pc := 5) hX 305 rfl rfl (by decide) ?_
  refine jk_const (pc := 6) hX 1 rfl (by decide) ?_
  refine jk_sub (pc := 7) hX rfl g1 ?_
  refine jk_cs (pc := 8) hX 80 3 rfl [.inl v1, .inl 1, .inl ((M 2 271) - 1)] [] rfl rfl (Nat.le_of_ble_eq_true rfl) (sp_F_in (d + 1) v1 (1 : Int) ((M 2 271) - 1) M  ?_)
  show X 9 [.inr 1, .inl v1, .inl v2] [.inl (jx_b ((1 : Int) ≤ v1 ∧ v1 ≤ ((M 2 271) - 1)))] M
  refine jk_zeqB (pc := 9) hX 22 rfl (fun q13 => ?_) (fun q14 => ?_)
  · have h2 := h15.1 q13
    refine jk_const (pc := 22) hX (-1) rfl (by decide) ?_
    exact jk_iret (pc := 23) hX rfl h2
  · have h3 := h15.2 q14
    refine jk_load (pc := 10) hX 2 rfl rfl ?_
    refine jk_const (pc := 11) hX 0 rfl (by decide) ?_
    refine jk_const (pc := 12) hX 2 rfl (by decide) ?_
    refine jk_cs (pc := 13) hX 80 3 rfl [.inl v2, .inl 0, .inl 2] [] rfl rfl (Nat.le_of_ble_eq_true rfl) (sp_F_in (d + 1) v2 (0 : Int) (2 : Int) M  ?_)
    show X 14 [.inr 1, .inl v1, .inl v2] [.inl (jx_b ((0 : Int) ≤ v2 ∧ v2 ≤ (2 : Int)))] M
    refine jk_zeqB (pc := 14) hX 22 rfl (fun q11 => ?_) (fun q12 => ?_)
    · have h4 := h3.1 q11
      refine jk_const (pc := 22) hX (-1) rfl (by decide) ?_
      exact jk_iret (pc := 23) hX rfl h4
    · have h5 := h3.2 q12
      obtain ⟨g6, h10⟩ := h5
      refine jk_aload (pc := 15) hX 0 rfl rfl ?_
      refine jk_const (pc := 16) hX 288 rfl (by decide) ?_
      refine jk_load (pc := 17) hX 1 rfl rfl ?_
      refine jk_add (pc := 18) hX rfl g6 ?_
      refine jk_load (pc := 19) hX 2 rfl rfl ?_
      refine jk_cv (pc := 20) hX 97 2 7 rfl 1 [.inl (288 + v1), .inl v2] [] rfl rfl rfl (Nat.le_of_ble_eq_true rfl) (jx_mono (fun r M8 hr => ?_) h10)
      obtain ⟨r7, rfl, h9⟩ := hr
      show X 21 [.inr 1, .inl v1, .inl v2] [.inl r7] M8
      refine jk_goto (pc := 21) hX 23 rfl ?_
      exact jk_iret (pc := 23) hX rfl h9
set_option maxHeartbeats 4000000 in
theorem bk_F_forget_0 {d : Nat} {K : jxK} {X : jxX} (hX : jx_clo jx_G2 (d + 1) (jx_call jx_G2 jx_T (d + 1)) kc_F_forget K X) (M : jxM)
    (h : X 4 [.inr 1, .inl 0, .inl 0] [] M) :
    X 0 [.inr 1, .inr 0, .inr 0] [] M := by
  refine jk_const (pc := 0) hX 0 rfl (by decide) ?_
  refine jk_store (pc := 1) hX 1 rfl (Nat.le_of_ble_eq_true rfl) (ls' := [.inr 1, .inl 0, .inr 0]) rfl ?_
  refine jk_const (pc := 2) hX 0 rfl (by decide) ?_
  refine jk_store (pc := 3) hX 2 rfl (Nat.le_of_ble_eq_true rfl) (ls' := [.inr 1, .inl 0, .inl 0]) rfl ?_
  exact h
set_option maxHeartbeats 4000000 in
theorem bk_F_forget_4 {d : Nat} {K : jxK} {X : jxX} (hX : jx_clo jx_G2 (d + 1) (jx_call jx_G2 jx_T (d + 1)) kc_F_forget K X) (v1 : Int) (v2 : Int) (M : jxM)
    (h : (((M 2 0) ≤ v2 → ((v1 ≠ 0 → jx_call jx_G2 jx_T (d + 1) 81 [.inr 1] M (fun r M6 => r = none ∧ X 30 [.inr 1, .inl v1, .inl 0] [] M6)) ∧ (v1 = 0 → K (some (.inl (-2))) M))) ∧ (v2 < (M 2 0) → (((0 : Int) ≤ v2 ∧ v2 ≤ 20) ∧ ((-2147483648 : Int) ≤ (1 + 11 * v2) + 10 ∧ (1 + 11 * v2) + 10 ≤ 2147483647) ∧ (0 ≤ ((1 + 11 * v2) + 10) ∧ ((1 + 11 * v2) + 10) < 305) ∧ ((-2147483648 : Int) ≤ v1 + (M 2 ((1 + 11 * v2) + 10)) ∧ v1 + (M 2 ((1 + 11 * v2) + 10)) ≤ 2147483647) ∧ ((-2147483648 : Int) ≤ v2 + 1 ∧ v2 + 1 ≤ 2147483647)) ∧ X 4 [.inr 1, .inl (v1 + (M 2 ((1 + 11 * v2) + 10))), .inl (v2 + 1)] [] M))) :
    X 4 [.inr 1, .inl v1, .inl v2] [] M := by
  refine jk_load (pc := 4) hX 2 rfl rfl ?_
  refine jk_aload (pc := 5) hX 0 rfl rfl ?_
  refine jk_getR (pc := 6) hX 7 0 rfl rfl (r := 1) rfl ?_
  refine jk_const (pc := 7) hX 0 rfl (by decide) ?_
  refine jk_iald (pc := 8) hX 305 rfl rfl (by decide) ?_
  refine jk_cge (pc := 9) hX 22 rfl (fun q16 => ?_) (fun q17 => ?_)
  · have h1 := h.1 q16
    refine jk_load (pc := 22) hX 1 rfl rfl ?_
    refine jk_zne (pc := 23) hX 26 rfl (fun q8 => ?_) (fun q9 => ?_)
    · have h3 := h1.1 q8
      refine jk_aload (pc := 26) hX 0 rfl rfl ?_
      refine jk_cv (pc := 27) hX 81 0 7 rfl 1 [] [] rfl rfl rfl (Nat.le_of_ble_eq_true rfl) (jx_mono (fun r M6 hr => ?_) h3)
      obtain ⟨rfl, h7⟩ := hr
      show X 28 [.inr 1, .inl v1, .inl v2] [] M6
      refine jk_const (pc := 28) hX 0 rfl (by decide) ?_
      refine jk_store (pc := 29) hX 2 rfl (Nat.le_of_ble_eq_true rfl) (ls' := [.inr 1, .inl v1, .inl 0]) rfl ?_
      exact h7
    · have h4 := h1.2 q9
      refine jk_const (pc := 24) hX (-2) rfl (by decide) ?_
      exact jk_iret (pc := 25) hX rfl h4
  · have h2 := h.2 q17
    obtain ⟨⟨g10, g11, g12, g13, g14⟩, h15⟩ := h2
    refine jk_load (pc := 10) hX 1 rfl rfl ?_
    refine jk_aload (pc := 11) hX 0 rfl rfl ?_
    refine jk_getR (pc := 12) hX 7 0 rfl rfl (r := 1) rfl ?_
    refine jk_load (pc := 13) hX 2 rfl rfl ?_
    refine jk_cs (pc := 14) hX 86 1 rfl [.inl v2] [.inr 2, .inl v1] rfl rfl (Nat.le_of_ble_eq_true rfl) (sp_F_at d v2 M g10 ?_)
    show X 15 [.inr 1, .inl v1, .inl v2] [.inl (1 + 11 * v2), .inr 2, .inl v1] M
    refine jk_const (pc := 15) hX 10 rfl (by decide) ?_
    refine jk_add (pc := 16) hX rfl g11 ?_
    refine jk_iald (pc := 17) hX 305 rfl rfl g12 ?_
    refine jk_add (pc := 18) hX rfl g13 ?_
    refine jk_store (pc := 19) hX 1 rfl (Nat.le_of_ble_eq_true rfl) (ls' := [.inr 1, .inl (v1 + (M 2 ((1 + 11 * v2) + 10))), .inl v2]) rfl ?_
    refine jk_iinc (pc := 20) hX 2 1 rfl rfl g14 (ls' := [.inr 1, .inl (v1 + (M 2 ((1 + 11 * v2) + 10))), .inl (v2 + 1)]) rfl ?_
    refine jk_goto (pc := 21) hX 4 rfl ?_
    exact h15
set_option maxHeartbeats 4000000 in
theorem bk_F_forget_30 {d : Nat} {K : jxK} {X : jxX} (hX : jx_clo jx_G2 (d + 1) (jx_call jx_G2 jx_T (d + 1)) kc_F_forget K X) (v1 : Int) (v2 : Int) (M : jxM)
    (h : (((M 2 0) ≤ v2 → K (some (.inl v1)) M) ∧ (v2 < (M 2 0) → (((0 : Int) ≤ v2 ∧ v2 ≤ 20) ∧ ((-2147483648 : Int) ≤ (1 + 11 * v2) + 10 ∧ (1 + 11 * v2) + 10 ≤ 2147483647) ∧ (0 ≤ ((1 + 11 * v2) + 10) ∧ ((1 + 11 * v2) + 10) < 305) ∧ ((-2147483648 : Int) ≤ v2 + 1 ∧ v2 + 1 ≤ 2147483647)) ∧ X 30 [.inr 1, .inl v1, .inl (v2 + 1)] [] (jx_up M 2 ((1 + 11 * v2) + 10) 0)))) :
    X 30 [.inr 1, .inl v1, .inl v2] [] M := by
  refine jk_load (pc := 30) hX 2 rfl rfl ?_
  refine jk_aload (pc := 31) hX 0 rfl rfl ?_
  refine jk_getR (pc := 32) hX 7 0 rfl rfl (r := 1) rfl ?_
  refine jk_const (pc := 33) hX 0 rfl (by decide) ?_
  refine jk_iald (pc := 34) hX 305 rfl rfl (by decide) ?_
  refine jk_cge (pc := 35) hX 46 rfl (fun q8 => ?_) (fun q9 => ?_)
  · have h1 := h.1 q8
    refine jk_load (pc := 46) hX 1 rfl rfl ?_
    exact jk_iret (pc := 47) hX rfl h1
  · have h2 := h.2 q9
    obtain ⟨⟨g3, g4, g5, g6⟩, h7⟩ := h2
    refine jk_aload (pc := 36) hX 0 rfl rfl ?_
    refine jk_getR (pc := 37) hX 7 0 rfl rfl (r := 1) rfl ?_
    refine jk_load (pc := 38) hX 2 rfl rfl ?_
    refine jk_cs (pc := 39) hX 86 1 rfl [.inl v2] [.inr 2] rfl rfl (Nat.le_of_ble_eq_true rfl) (sp_F_at d v2 M g3 ?_)
    show X 40 [.inr 1, .inl v1, .inl v2] [.inl (1 + 11 * v2), .inr 2] M
    refine jk_const (pc := 40) hX 10 rfl (by decide) ?_
    refine jk_add (pc := 41) hX rfl g4 ?_
    refine jk_const (pc := 42) hX 0 rfl (by decide) ?_
    refine jk_iast (pc := 43) hX 305 rfl rfl g5 ?_
    refine jk_iinc (pc := 44) hX 2 1 rfl rfl g6 (ls' := [.inr 1, .inl v1, .inl (v2 + 1)]) rfl ?_
    refine jk_goto (pc := 45) hX 30 rfl ?_
    exact h7
set_option maxHeartbeats 4000000 in
theorem bk_D_copyFrom_k0_0 {d : Nat} {K : jxK} {X : jxX} (hX : jx_clo jx_G1 (d + 1) (jx_call jx_G1 jx_T (d + 1)) kc_D_copyFrom K X) (M : jxM)
    (h : K none (jx_up (jx_cp (jx_cp (jx_cp (jx_cp (jx_cp (jx_cp M 6 0 19 0 120) 7 0 20 0 20) 8 0 21 0 20) 9 0 22 0 20) 10 0 23 0 20) 11 0 24 0 20) 18 6 (M 5 6))) :
    X 0 [.inr 18, .inr 5] [] M := by
  refine jk_aload (pc := 0) hX 1 rfl rfl ?_
  refine jk_getR (pc := 1) hX 0 0 rfl rfl (r := 5) rfl ?_
  refine jk_const (pc := 2) hX 0 rfl (by decide) ?_
  refine jk_aload (pc := 3) hX 0 rfl rfl ?_
  refine jk_getR (pc := 4) hX 0 0 rfl rfl (r := 18) rfl ?_
  refine jk_const (pc := 5) hX 0 rfl (by decide) ?_
  refine jk_aload (pc := 6) hX 0 rfl rfl ?_
  refine jk_getR (pc := 7) hX 0 0 rfl rfl (r := 18) rfl ?_
  refine jk_alen (pc := 8) hX 120 rfl rfl ?_
  refine jk_copy (pc := 9) hX 120 120 rfl (by omega) (Nat.le_of_ble_eq_true rfl) rfl rfl (by decide) ?_
  refine jk_aload (pc := 10) hX 1 rfl rfl ?_
  refine jk_getR (pc := 11) hX 0 1 rfl rfl (r := 6) rfl ?_
  refine jk_const (pc := 12) hX 0 rfl (by decide) ?_
  refine jk_aload (pc := 13) hX 0 rfl rfl ?_
  refine jk_getR (pc := 14) hX 0 1 rfl rfl (r := 19) rfl ?_
  refine jk_const (pc := 15) hX 0 rfl (by decide) ?_
  refine jk_const (pc := 16) hX 20 rfl (by decide) ?_
  refine jk_copy (pc := 17) hX 20 20 rfl (by omega) (Nat.le_of_ble_eq_true rfl) rfl rfl (by decide) ?_
  refine jk_aload (pc := 18) hX 1 rfl rfl ?_
  refine jk_getR (pc := 19) hX 0 2 rfl rfl (r := 7) rfl ?_
  refine jk_const (pc := 20) hX 0 rfl (by decide) ?_
  refine jk_aload (pc := 21) hX 0 rfl rfl ?_
  refine jk_getR (pc := 22) hX 0 2 rfl rfl (r := 20) rfl ?_
  refine jk_const (pc := 23) hX 0 rfl (by decide) ?_
  refine jk_const (pc := 24) hX 20 rfl (by decide) ?_
  refine jk_copy (pc := 25) hX 20 20 rfl (by omega) (Nat.le_of_ble_eq_true rfl) rfl rfl (by decide) ?_
  refine jk_aload (pc := 26) hX 1 rfl rfl ?_
  refine jk_getR (pc := 27) hX 0 3 rfl rfl (r := 8) rfl ?_
  refine jk_const (pc := 28) hX 0 rfl (by decide) ?_
  refine jk_aload (pc := 29) hX 0 rfl rfl ?_
  refine jk_getR (pc := 30) hX 0 3 rfl rfl (r := 21) rfl ?_
  refine jk_const (pc := 31) hX 0 rfl (by decide) ?_
  refine jk_const (pc := 32) hX 20 rfl (by decide) ?_
  refine jk_copy (pc := 33) hX 20 20 rfl (by omega) (Nat.le_of_ble_eq_true rfl) rfl rfl (by decide) ?_
  refine jk_aload (pc := 34) hX 1 rfl rfl ?_
  refine jk_getR (pc := 35) hX 0 4 rfl rfl (r := 9) rfl ?_
  refine jk_const (pc := 36) hX 0 rfl (by decide) ?_
  refine jk_aload (pc := 37) hX 0 rfl rfl ?_
  refine jk_getR (pc := 38) hX 0 4 rfl rfl (r := 22) rfl ?_
  refine jk_const (pc := 39) hX 0 rfl (by decide) ?_
  refine jk_const (pc := 40) hX 20 rfl (by decide) ?_
  refine jk_copy (pc := 41) hX 20 20 rfl (by omega) (Nat.le_of_ble_eq_true rfl) rfl rfl (by decide) ?_
  refine jk_aload (pc := 42) hX 1 rfl rfl ?_
  refine jk_getR (pc := 43) hX 0 5 rfl rfl (r := 10) rfl ?_
  refine jk_const (pc := 44) hX 0 rfl (by decide) ?_
  refine jk_aload (pc := 45) hX 0 rfl rfl ?_
  refine jk_getR (pc := 46) hX 0 5 rfl rfl (r := 23) rfl ?_
  refine jk_const (pc := 47) hX 0 rfl (by decide) ?_
  refine jk_const (pc := 48) hX 20 rfl (by decide) ?_
  refine jk_copy (pc := 49) hX 20 20 rfl (by omega) (Nat.le_of_ble_eq_true rfl) rfl rfl (by decide) ?_
  refine jk_aload (pc := 50) hX 0 rfl rfl ?_
  refine jk_aload (pc := 51) hX 1 rfl rfl ?_
  refine jk_getI (pc := 52) hX 0 6 rfl rfl rfl (jx_vX ((jx_cpc (by decide)).trans ((jx_cpc (by decide)).trans ((jx_cpc (by decide)).trans ((jx_cpc (by decide)).trans ((jx_cpc (by decide)).trans (jx_cpc (by decide))))))) ?_)
  refine jk_put (pc := 53) hX 0 6 rfl rfl rfl ?_
  exact jk_vret (pc := 54) hX rfl h
set_option maxHeartbeats 4000000 in
theorem bk_D_copyFrom_b0_0 {d : Nat} {K : jxK} {X : jxX} (hX : jx_clo jx_G1 (d + 1) (jx_call jx_G1 jx_T (d + 1)) kc_D_copyFrom K X) (M : jxM)
    (h : K none (jx_up (jx_cp (jx_cp (jx_cp (jx_cp (jx_cp (jx_cp M 19 0 6 0 120) 20 0 7 0 20) 21 0 8 0 20) 22 0 9 0 20) 23 0 10 0 20) 24 0 11 0 20) 5 6 (M 18 6))) :
    X 0 [.inr 5, .inr 18] [] M := by
  refine jk_aload (pc := 0) hX 1 rfl rfl ?_
  refine jk_getR (pc := 1) hX 0 0 rfl rfl (r := 18) rfl ?_
  refine jk_const (pc := 2) hX 0 rfl (by decide) ?_
  refine jk_aload (pc := 3) hX 0 rfl rfl ?_
  refine jk_getR (pc := 4) hX 0 0 rfl rfl (r := 5) rfl ?_
  refine jk_const (pc := 5) hX 0 rfl (by decide) ?_
  refine jk_aload (pc := 6) hX 0 rfl rfl ?_
  refine jk_getR (pc := 7) hX 0 0 rfl rfl (r := 5) rfl ?_
  refine jk_alen (pc := 8) hX 120 rfl rfl ?_
  refine jk_copy (pc := 9) hX 120 120 rfl (by omega) (Nat.le_of_ble_eq_true rfl) rfl rfl (by decide) ?_
  refine jk_aload (pc := 10) hX 1 rfl rfl ?_
  refine jk_getR (pc := 11) hX 0 1 rfl rfl (r := 19) rfl ?_
  refine jk_const (pc := 12) hX 0 rfl (by decide) ?_
  refine jk_aload (pc := 13) hX 0 rfl rfl ?_
  refine jk_getR (pc := 14) hX 0 1 rfl rfl (r := 6) rfl ?_
  refine jk_const (pc := 15) hX 0 rfl (by decide) ?_
  refine jk_const (pc := 16) hX 20 rfl (by decide) ?_
  refine jk_copy (pc := 17) hX 20 20 rfl (by omega) (Nat.le_of_ble_eq_true rfl) rfl rfl (by decide) ?_
  refine jk_aload (pc := 18) hX 1 rfl rfl ?_
  refine jk_getR (pc := 19) hX 0 2 rfl rfl (r := 20) rfl ?_
  refine jk_const (pc := 20) hX 0 rfl (by decide) ?_
  refine jk_aload (pc := 21) hX 0 rfl rfl ?_
  refine jk_getR (pc := 22) hX 0 2 rfl rfl (r := 7) rfl ?_
  refine jk_const (pc := 23) hX 0 rfl (by decide) ?_
  refine jk_const (pc := 24) hX 20 rfl (by decide) ?_
  refine jk_copy (pc := 25) hX 20 20 rfl (by omega) (Nat.le_of_ble_eq_true rfl) rfl rfl (by decide) ?_
  refine jk_aload (pc := 26) hX 1 rfl rfl ?_
  refine jk_getR (pc := 27) hX 0 3 rfl rfl (r := 21) rfl ?_
  refine jk_const (pc := 28) hX 0 rfl (by decide) ?_
  refine jk_aload (pc := 29) hX 0 rfl rfl ?_
  refine jk_getR (pc := 30) hX 0 3 rfl rfl (r := 8) rfl ?_
  refine jk_const (pc := 31) hX 0 rfl (by decide) ?_
  refine jk_const (pc := 32) hX 20 rfl (by decide) ?_
  refine jk_copy (pc := 33) hX 20 20 rfl (by omega) (Nat.le_of_ble_eq_true rfl) rfl rfl (by decide) ?_
  refine jk_aload (pc := 34) hX 1 rfl rfl ?_
  refine jk_getR (pc := 35) hX 0 4 rfl rfl (r := 22) rfl ?_
  refine jk_const (pc := 36) hX 0 rfl (by decide) ?_
  refine jk_aload (pc := 37) hX 0 rfl rfl ?_
  refine jk_getR (pc := 38) hX 0 4 rfl rfl (r := 9) rfl ?_
  refine jk_const (pc := 39) hX 0 rfl (by decide) ?_
  refine jk_const (pc := 40) hX 20 rfl (by decide) ?_
  refine jk_copy (pc := 41) hX 20 20 rfl (by omega) (Nat.le_of_ble_eq_true rfl) rfl rfl (by decide) ?_
  refine jk_aload (pc := 42) hX 1 rfl rfl ?_
  refine jk_getR (pc := 43) hX 0 5 rfl rfl (r := 23) rfl ?_
  refine jk_const (pc := 44) hX 0 rfl (by decide) ?_
  refine jk_aload (pc := 45) hX 0 rfl rfl ?_
  refine jk_getR (pc := 46) hX 0 5 rfl rfl (r := 10) rfl ?_
  refine jk_const (pc := 47) hX 0 rfl (by decide) ?_
  refine jk_const (pc := 48) hX 20 rfl (by decide) ?_
  refine jk_copy (pc := 49) hX 20 20 rfl (by omega) (Nat.le_of_ble_eq_true rfl) rfl rfl (by decide) ?_
  refine jk_aload (pc := 50) hX 0 rfl rfl ?_
  refine jk_aload (pc := 51) hX 1 rfl rfl ?_
  refine jk_getI (pc := 52) hX 0 6 rfl rfl rfl (jx_vX ((jx_cpc (by decide)).trans ((jx_cpc (by decide)).trans ((jx_cpc (by decide)).trans ((jx_cpc (by decide)).trans ((jx_cpc (by decide)).trans (jx_cpc (by decide))))))) ?_)
  refine jk_put (pc := 53) hX 0 6 rfl rfl rfl ?_
  exact jk_vret (pc := 54) hX rfl h
set_option maxHeartbeats 4000000 in
theorem bk_M_copyFrom_k0_0 {d : Nat} {K : jxK} {X : jxX} (hX : jx_clo jx_G1 (d + 2) (jx_call jx_G1 jx_T (d + 2)) kc_M_copyFrom K X) (M : jxM)
    (h : jx_call jx_G1 jx_T (d + 2) 0 [.inr 18, .inr 5] M (fun r M2 => r = none ∧ K none (jx_up (jx_up (jx_cp (jx_cp (jx_cp M2 12 0 25 0 49) 13 0 26 0 16) 14 0 27 0 17) 17 4 (M2 4 4)) 17 5 (M2 4 5)))) :
    X 0 [.inr 17, .inr 4] [] M := by
  refine jk_aload (pc := 0) hX 0 rfl rfl ?_
  refine jk_getR (pc := 1) hX 3 0 rfl rfl (r := 17) rfl ?_
  refine jk_aload (pc := 2) hX 1 rfl rfl ?_
  refine jk_getR (pc := 3) hX 3 0 rfl rfl (r := 4) rfl ?_
  refine jk_cv (pc := 4) hX 0 1 0 rfl 18 [.inr 5] [] rfl rfl rfl (Nat.le_of_ble_eq_true rfl) (jx_mono (fun r M2 hr => ?_) h)
  obtain ⟨rfl, h3⟩ := hr
  show X 5 [.inr 17, .inr 4] [] M2
  refine jk_aload (pc := 5) hX 1 rfl rfl ?_
  refine jk_getR (pc := 6) hX 3 1 rfl rfl (r := 11) rfl ?_
  refine jk_const (pc := 7) hX 0 rfl (by decide) ?_
  refine jk_aload (pc := 8) hX 0 rfl rfl ?_
  refine jk_getR (pc := 9) hX 3 1 rfl rfl (r := 24) rfl ?_
  refine jk_const (pc := 10) hX 0 rfl (by decide) ?_
  refine jk_aload (pc := 11) hX 0 rfl rfl ?_
  refine jk_getR (pc := 12) hX 3 1 rfl rfl (r := 24) rfl ?_
  refine jk_alen (pc := 13) hX 49 rfl rfl ?_
  refine jk_copy (pc := 14) hX 49 49 rfl (by omega) (Nat.le_of_ble_eq_true rfl) rfl rfl (by decide) ?_
  refine jk_aload (pc := 15) hX 1 rfl rfl ?_
  refine jk_getR (pc := 16) hX 3 2 rfl rfl (r := 12) rfl ?_
  refine jk_const (pc := 17) hX 0 rfl (by decide) ?_
  refine jk_aload (pc := 18) hX 0 rfl rfl ?_
  refine jk_getR (pc := 19) hX 3 2 rfl rfl (r := 25) rfl ?_
  refine jk_const (pc := 20) hX 0 rfl (by decide) ?_
  refine jk_const (pc := 21) hX 16 rfl (by decide) ?_
  refine jk_copy (pc := 22) hX 16 16 rfl (by omega) (Nat.le_of_ble_eq_true rfl) rfl rfl (by decide) ?_
  refine jk_aload (pc := 23) hX 1 rfl rfl ?_
  refine jk_getR (pc := 24) hX 3 3 rfl rfl (r := 13) rfl ?_
  refine jk_const (pc := 25) hX 0 rfl (by decide) ?_
  refine jk_aload (pc := 26) hX 0 rfl rfl ?_
  refine jk_getR (pc := 27) hX 3 3 rfl rfl (r := 26) rfl ?_
  refine jk_const (pc := 28) hX 0 rfl (by decide) ?_
  refine jk_const (pc := 29) hX 17 rfl (by decide) ?_
  refine jk_copy (pc := 30) hX 17 17 rfl (by omega) (Nat.le_of_ble_eq_true rfl) rfl rfl (by decide) ?_
  refine jk_aload (pc := 31) hX 0 rfl rfl ?_
  refine jk_aload (pc := 32) hX 1 rfl rfl ?_
  refine jk_getI (pc := 33) hX 3 4 rfl rfl rfl (jx_vX ((jx_cpc (by decide)).trans ((jx_cpc (by decide)).trans (jx_cpc (by decide)))) ?_)
  refine jk_put (pc := 34) hX 3 4 rfl rfl rfl ?_
  refine jk_aload (pc := 35) hX 0 rfl rfl ?_
  refine jk_aload (pc := 36) hX 1 rfl rfl ?_
  refine jk_getI (pc := 37) hX 3 5 rfl rfl rfl (jx_vX ((jx_upc (by decide)).trans ((jx_cpc (by decide)).trans ((jx_cpc (by decide)).trans (jx_cpc (by decide))))) ?_)
  refine jk_put (pc := 38) hX 3 5 rfl rfl rfl ?_
  exact jk_vret (pc := 39) hX rfl h3
set_option maxHeartbeats 4000000 in
theorem bk_M_copyFrom_b0_0 {d : Nat} {K : jxK} {X : jxX} (hX : jx_clo jx_G1 (d + 2) (jx_call jx_G1 jx_T (d + 2)) kc_M_copyFrom K X) (M : jxM)
    (h : jx_call jx_G1 jx_T (d + 2) 0 [.inr 5, .inr 18] M (fun r M2 => r = none ∧ K none (jx_up (jx_up (jx_cp (jx_cp (jx_cp M2 25 0 12 0 49) 26 0 13 0 16) 27 0 14 0 17) 4 4 (M2 17 4)) 4 5 (M2 17 5)))) :
    X 0 [.inr 4, .inr 17] [] M := by
  refine jk_aload (pc := 0) hX 0 rfl rfl ?_
  refine jk_getR (pc := 1) hX 3 0 rfl rfl (r := 4) rfl ?_
  refine jk_aload (pc := 2) hX 1 rfl rfl ?_
  refine jk_getR (pc := 3) hX 3 0 rfl rfl (r := 17) rfl ?_
  refine jk_cv (pc := 4) hX 0 1 0 rfl 5 [.inr 18] [] rfl rfl rfl (Nat.le_of_ble_eq_true rfl) (jx_mono (fun r M2 hr => ?_) h)
  obtain ⟨rfl, h3⟩ := hr
  show X 5 [.inr 4, .inr 17] [] M2
  refine jk_aload (pc := 5) hX 1 rfl rfl ?_
  refine jk_getR (pc := 6) hX 3 1 rfl rfl (r := 24) rfl ?_
  refine jk_const (pc := 7) hX 0 rfl (by decide) ?_
  refine jk_aload (pc := 8) hX 0 rfl rfl ?_
  refine jk_getR (pc := 9) hX 3 1 rfl rfl (r := 11) rfl ?_
  refine jk_const (pc := 10) hX 0 rfl (by decide) ?_
  refine jk_aload (pc := 11) hX 0 rfl rfl ?_
  refine jk_getR (pc := 12) hX 3 1 rfl rfl (r := 11) rfl ?_
  refine jk_alen (pc := 13) hX 49 rfl rfl ?_
  refine jk_copy (pc := 14) hX 49 49 rfl (by omega) (Nat.le_of_ble_eq_true rfl) rfl rfl (by decide) ?_
  refine jk_aload (pc := 15) hX 1 rfl rfl ?_
  refine jk_getR (pc := 16) hX 3 2 rfl rfl (r := 25) rfl ?_
  refine jk_const (pc := 17) hX 0 rfl (by decide) ?_
  refine jk_aload (pc := 18) hX 0 rfl rfl ?_
  refine jk_getR (pc := 19) hX 3 2 rfl rfl (r := 12) rfl ?_
  refine jk_const (pc := 20) hX 0 rfl (by decide) ?_
  refine jk_const (pc := 21) hX 16 rfl (by decide) ?_
  refine jk_copy (pc := 22) hX 16 16 rfl (by omega) (Nat.le_of_ble_eq_true rfl) rfl rfl (by decide) ?_
  refine jk_aload (pc := 23) hX 1 rfl rfl ?_
  refine jk_getR (pc := 24) hX 3 3 rfl rfl (r := 26) rfl ?_
  refine jk_const (pc := 25) hX 0 rfl (by decide) ?_
  refine jk_aload (pc := 26) hX 0 rfl rfl ?_
  refine jk_getR (pc := 27) hX 3 3 rfl rfl (r := 13) rfl ?_
  refine jk_const (pc := 28) hX 0 rfl (by decide) ?_
  refine jk_const (pc := 29) hX 17 rfl (by decide) ?_
  refine jk_copy (pc := 30) hX 17 17 rfl (by omega) (Nat.le_of_ble_eq_true rfl) rfl rfl (by decide) ?_
  refine jk_aload (pc := 31) hX 0 rfl rfl ?_
  refine jk_aload (pc := 32) hX 1 rfl rfl ?_
  refine jk_getI (pc := 33) hX 3 4 rfl rfl rfl (jx_vX ((jx_cpc (by decide)).trans ((jx_cpc (by decide)).trans (jx_cpc (by decide)))) ?_)
  refine jk_put (pc := 34) hX 3 4 rfl rfl rfl ?_
  refine jk_aload (pc := 35) hX 0 rfl rfl ?_
  refine jk_aload (pc := 36) hX 1 rfl rfl ?_
  refine jk_getI (pc := 37) hX 3 5 rfl rfl rfl (jx_vX ((jx_upc (by decide)).trans ((jx_cpc (by decide)).trans ((jx_cpc (by decide)).trans (jx_cpc (by decide))))) ?_)
  refine jk_put (pc := 38) hX 3 5 rfl rfl rfl ?_
  exact jk_vret (pc := 39) hX rfl h3
set_option maxHeartbeats 4000000 in
theorem bk_D_copyFrom_k1_0 {d : Nat} {K : jxK} {X : jxX} (hX : jx_clo jx_G1 (d + 1) (jx_call jx_G1 jx_T (d + 1)) kc_D_copyFrom K X) (M : jxM)
    (h : K none (jx_up (jx_cp (jx_cp (jx_cp (jx_cp (jx_cp (jx_cp M 6 0 30 0 120) 7 0 31 0 20) 8 0 32 0 20) 9 0 33 0 20) 10 0 34 0 20) 11 0 35 0 20) 29 6 (M 5 6))) :
    X 0 [.inr 29, .inr 5] [] M := by
  refine jk_aload (pc := 0) hX 1 rfl rfl ?_
  refine jk_getR (pc := 1) hX 0 0 rfl rfl (r := 5) rfl ?_
  refine jk_const (pc := 2) hX 0 rfl (by decide) ?_
  refine jk_aload (pc := 3) hX 0 rfl rfl ?_
  refine jk_getR (pc := 4) hX 0 0 rfl rfl (r := 29) rfl ?_
  refine jk_const (pc := 5) hX 0 rfl (by decide) ?_
  refine jk_aload (pc := 6) hX 0 rfl rfl ?_
  refine jk_getR (pc := 7) hX 0 0 rfl rfl (r := 29) rfl ?_
  refine jk_alen (pc := 8) hX 120 rfl rfl ?_
  refine jk_copy (pc := 9) hX 120 120 rfl (by omega) (Nat.le_of_ble_eq_true rfl) rfl rfl (by decide) ?_
  refine jk_aload (pc := 10) hX 1 rfl rfl ?_
  refine jk_getR (pc := 11) hX 0 1 rfl rfl (r := 6) rfl ?_
  refine jk_const (pc := 12) hX 0 rfl (by decide) ?_
  refine jk_aload (pc := 13) hX 0 rfl rfl ?_
  refine jk_getR (pc := 14) hX 0 1 rfl rfl (r := 30) rfl ?_
  refine jk_const (pc := 15) hX 0 rfl (by decide) ?_
  refine jk_const (pc := 16) hX 20 rfl (by decide) ?_
  refine jk_copy (pc := 17) hX 20 20 rfl (by omega) (Nat.le_of_ble_eq_true rfl) rfl rfl (by decide) ?_
  refine jk_aload (pc := 18) hX 1 rfl rfl ?_
  refine jk_getR (pc := 19) hX 0 2 rfl rfl (r := 7) rfl ?_
  refine jk_const (pc := 20) hX 0 rfl (by decide) ?_
  refine jk_aload (pc := 21) hX 0 rfl rfl ?_
  refine jk_getR (pc := 22) hX 0 2 rfl rfl (r := 31) rfl ?_
  refine jk_const (pc := 23) hX 0 rfl (by decide) ?_
  refine jk_const (pc := 24) hX 20 rfl (by decide) ?_
  refine jk_copy (pc := 25) hX 20 20 rfl (by omega) (Nat.le_of_ble_eq_true rfl) rfl rfl (by decide) ?_
  refine jk_aload (pc := 26) hX 1 rfl rfl ?_
  refine jk_getR (pc := 27) hX 0 3 rfl rfl (r := 8) rfl ?_
  refine jk_const (pc := 28) hX 0 rfl (by decide) ?_
  refine jk_aload (pc := 29) hX 0 rfl rfl ?_
  refine jk_getR (pc := 30) hX 0 3 rfl rfl (r := 32) rfl ?_
  refine jk_const (pc := 31) hX 0 rfl (by decide) ?_
  refine jk_const (pc := 32) hX 20 rfl (by decide) ?_
  refine jk_copy (pc := 33) hX 20 20 rfl (by omega) (Nat.le_of_ble_eq_true rfl) rfl rfl (by decide) ?_
  refine jk_aload (pc := 34) hX 1 rfl rfl ?_
  refine jk_getR (pc := 35) hX 0 4 rfl rfl (r := 9) rfl ?_
  refine jk_const (pc := 36) hX 0 rfl (by decide) ?_
  refine jk_aload (pc := 37) hX 0 rfl rfl ?_
  refine jk_getR (pc := 38) hX 0 4 rfl rfl (r := 33) rfl ?_
  refine jk_const (pc := 39) hX 0 rfl (by decide) ?_
  refine jk_const (pc := 40) hX 20 rfl (by decide) ?_
  refine jk_copy (pc := 41) hX 20 20 rfl (by omega) (Nat.le_of_ble_eq_true rfl) rfl rfl (by decide) ?_
  refine jk_aload (pc := 42) hX 1 rfl rfl ?_
  refine jk_getR (pc := 43) hX 0 5 rfl rfl (r := 10) rfl ?_
  refine jk_const (pc := 44) hX 0 rfl (by decide) ?_
  refine jk_aload (pc := 45) hX 0 rfl rfl ?_
  refine jk_getR (pc := 46) hX 0 5 rfl rfl (r := 34) rfl ?_
  refine jk_const (pc := 47) hX 0 rfl (by decide) ?_
  refine jk_const (pc := 48) hX 20 rfl (by decide) ?_
  refine jk_copy (pc := 49) hX 20 20 rfl (by omega) (Nat.le_of_ble_eq_true rfl) rfl rfl (by decide) ?_
  refine jk_aload (pc := 50) hX 0 rfl rfl ?_
  refine jk_aload (pc := 51) hX 1 rfl rfl ?_
  refine jk_getI (pc := 52) hX 0 6 rfl rfl rfl (jx_vX ((jx_cpc (by decide)).trans ((jx_cpc (by decide)).trans ((jx_cpc (by decide)).trans ((jx_cpc (by decide)).trans ((jx_cpc (by decide)).trans (jx_cpc (by decide))))))) ?_)
  refine jk_put (pc := 53) hX 0 6 rfl rfl rfl ?_
  exact jk_vret (pc := 54) hX rfl h
set_option maxHeartbeats 4000000 in
theorem bk_D_copyFrom_b1_0 {d : Nat} {K : jxK} {X : jxX} (hX : jx_clo jx_G1 (d + 1) (jx_call jx_G1 jx_T (d + 1)) kc_D_copyFrom K X) (M : jxM)
    (h : K none (jx_up (jx_cp (jx_cp (jx_cp (jx_cp (jx_cp (jx_cp M 30 0 6 0 120) 31 0 7 0 20) 32 0 8 0 20) 33 0 9 0 20) 34 0 10 0 20) 35 0 11 0 20) 5 6 (M 29 6))) :
    X 0 [.inr 5, .inr 29] [] M := by
  refine jk_aload (pc := 0) hX 1 rfl rfl ?_
  refine jk_getR (pc := 1) hX 0 0 rfl rfl (r := 29) rfl ?_
  refine jk_const (pc := 2) hX 0 rfl (by decide) ?_
  refine jk_aload (pc := 3) hX 0 rfl rfl ?_
  refine jk_getR (pc := 4) hX 0 0 rfl rfl (r := 5) rfl ?_
  refine jk_const (pc := 5) hX 0 rfl (by decide) ?_
  refine jk_aload (pc := 6) hX 0 rfl rfl ?_
  refine jk_getR (pc := 7) hX 0 0 rfl rfl (r := 5) rfl ?_
  refine jk_alen (pc := 8) hX 120 rfl rfl ?_
  refine jk_copy (pc := 9) hX 120 120 rfl (by omega) (Nat.le_of_ble_eq_true rfl) rfl rfl (by decide) ?_
  refine jk_aload (pc := 10) hX 1 rfl rfl ?_
  refine jk_getR (pc := 11) hX 0 1 rfl rfl (r := 30) rfl ?_
  refine jk_const (pc := 12) hX 0 rfl (by decide) ?_
  refine jk_aload (pc := 13) hX 0 rfl rfl ?_
  refine jk_getR (pc := 14) hX 0 1 rfl rfl (r := 6) rfl ?_
  refine jk_const (pc := 15) hX 0 rfl (by decide) ?_
  refine jk_const (pc := 16) hX 20 rfl (by decide) ?_
  refine jk_copy (pc := 17) hX 20 20 rfl (by omega) (Nat.le_of_ble_eq_true rfl) rfl rfl (by decide) ?_
  refine jk_aload (pc := 18) hX 1 rfl rfl ?_
  refine jk_getR (pc := 19) hX 0 2 rfl rfl (r := 31) rfl ?_
  refine jk_const (pc := 20) hX 0 rfl (by decide) ?_
  refine jk_aload (pc := 21) hX 0 rfl rfl ?_
  refine jk_getR (pc := 22) hX 0 2 rfl rfl (r := 7) rfl ?_
  refine jk_const (pc := 23) hX 0 rfl (by decide) ?_
  refine jk_const (pc := 24) hX 20 rfl (by decide) ?_
  refine jk_copy (pc := 25) hX 20 20 rfl (by omega) (Nat.le_of_ble_eq_true rfl) rfl rfl (by decide) ?_
  refine jk_aload (pc := 26) hX 1 rfl rfl ?_
  refine jk_getR (pc := 27) hX 0 3 rfl rfl (r := 32) rfl ?_
  refine jk_const (pc := 28) hX 0 rfl (by decide) ?_
  refine jk_aload (pc := 29) hX 0 rfl rfl ?_
  refine jk_getR (pc := 30) hX 0 3 rfl rfl (r := 8) rfl ?_
  refine jk_const (pc := 31) hX 0 rfl (by decide) ?_
  refine jk_const (pc := 32) hX 20 rfl (by decide) ?_
  refine jk_copy (pc := 33) hX 20 20 rfl (by omega) (Nat.le_of_ble_eq_true rfl) rfl rfl (by decide) ?_
  refine jk_aload (pc := 34) hX 1 rfl rfl ?_
  refine jk_getR (pc := 35) hX 0 4 rfl rfl (r := 33) rfl ?_
  refine jk_const (pc := 36) hX 0 rfl (by decide) ?_
  refine jk_aload (pc := 37) hX 0 rfl rfl ?_
  refine jk_getR (pc := 38) hX 0 4 rfl rfl (r := 9) rfl ?_
  refine jk_const (pc := 39) hX 0 rfl (by decide) ?_
  refine jk_const (pc := 40) hX 20 rfl (by decide) ?_
  refine jk_copy (pc := 41) hX 20 20 rfl (by omega) (Nat.le_of_ble_eq_true rfl) rfl rfl (by decide) ?_
  refine jk_aload (pc := 42) hX 1 rfl rfl ?_
  refine jk_getR (pc := 43) hX 0 5 rfl rfl (r := 34) rfl ?_
  refine jk_const (pc := 44) hX 0 rfl (by decide) ?_
  refine jk_aload (pc := 45) hX 0 rfl rfl ?_
  refine jk_getR (pc := 46) hX 0 5 rfl rfl (r := 10) rfl ?_
  refine jk_const (pc := 47) hX 0 rfl (by decide) ?_
  refine jk_const (pc := 48) hX 20 rfl (by decide) ?_
  refine jk_copy (pc := 49) hX 20 20 rfl (by omega) (Nat.le_of_ble_eq_true rfl) rfl rfl (by decide) ?_
  refine jk_aload (pc := 50) hX 0 rfl rfl ?_
  refine jk_aload (pc := 51) hX 1 rfl rfl ?_
  refine jk_getI (pc := 52) hX 0 6 rfl rfl rfl (jx_vX ((jx_cpc (by decide)).trans ((jx_cpc (by decide)).trans ((jx_cpc (by decide)).trans ((jx_cpc (by decide)).trans ((jx_cpc (by decide)).trans (jx_cpc (by decide))))))) ?_)
  refine jk_put (pc := 53) hX 0 6 rfl rfl rfl ?_
  exact jk_vret (pc := 54) hX rfl h
set_option maxHeartbeats 4000000 in
theorem bk_M_copyFrom_k1_0 {d : Nat} {K : jxK} {X : jxX} (hX : jx_clo jx_G1 (d + 2) (jx_call jx_G1 jx_T (d + 2)) kc_M_copyFrom K X) (M : jxM)
    (h : jx_call jx_G1 jx_T (d + 2) 0 [.inr 29, .inr 5] M (fun r M2 => r = none ∧ K none (jx_up (jx_up (jx_cp (jx_cp (jx_cp M2 12 0 36 0 49) 13 0 37 0 16) 14 0 38 0 17) 28 4 (M2 4 4)) 28 5 (M2 4 5)))) :
    X 0 [.inr 28, .inr 4] [] M := by
  refine jk_aload (pc := 0) hX 0 rfl rfl ?_
  refine jk_getR (pc := 1) hX 3 0 rfl rfl (r := 28) rfl ?_
  refine jk_aload (pc := 2) hX 1 rfl rfl ?_
  refine jk_getR (pc := 3) hX 3 0 rfl rfl (r := 4) rfl ?_
  refine jk_cv (pc := 4) hX 0 1 0 rfl 29 [.inr 5] [] rfl rfl rfl (Nat.le_of_ble_eq_true rfl) (jx_mono (fun r M2 hr => ?_) h)
  obtain ⟨rfl, h3⟩ := hr
  show X 5 [.inr 28, .inr 4] [] M2
  refine jk_aload (pc := 5) hX 1 rfl rfl ?_
  refine jk_getR (pc := 6) hX 3 1 rfl rfl (r := 11) rfl ?_
  refine jk_const (pc := 7) hX 0 rfl (by decide) ?_
  refine jk_aload (pc := 8) hX 0 rfl rfl ?_
  refine jk_getR (pc := 9) hX 3 1 rfl rfl (r := 35) rfl ?_
  refine jk_const (pc := 10) hX 0 rfl (by decide) ?_
  refine jk_aload (pc := 11) hX 0 rfl rfl ?_
  refine jk_getR (pc := 12) hX 3 1 rfl rfl (r := 35) rfl ?_
  refine jk_alen (pc := 13) hX 49 rfl rfl ?_
  refine jk_copy (pc := 14) hX 49 49 rfl (by omega) (Nat.le_of_ble_eq_true rfl) rfl rfl (by decide) ?_
  refine jk_aload (pc := 15) hX 1 rfl rfl ?_
  refine jk_getR (pc := 16) hX 3 2 rfl rfl (r := 12) rfl ?_
  refine jk_const (pc := 17) hX 0 rfl (by decide) ?_
  refine jk_aload (pc := 18) hX 0 rfl rfl ?_
  refine jk_getR (pc := 19) hX 3 2 rfl rfl (r := 36) rfl ?_
  refine jk_const (pc := 20) hX 0 rfl (by decide) ?_
  refine jk_const (pc := 21) hX 16 rfl (by decide) ?_
  refine jk_copy (pc := 22) hX 16 16 rfl (by omega) (Nat.le_of_ble_eq_true rfl) rfl rfl (by decide) ?_
  refine jk_aload (pc := 23) hX 1 rfl rfl ?_
  refine jk_getR (pc := 24) hX 3 3 rfl rfl (r := 13) rfl ?_
  refine jk_const (pc := 25) hX 0 rfl (by decide) ?_
  refine jk_aload (pc := 26) hX 0 rfl rfl ?_
  refine jk_getR (pc := 27) hX 3 3 rfl rfl (r := 37) rfl ?_
  refine jk_const (pc := 28) hX 0 rfl (by decide) ?_
  refine jk_const (pc := 29) hX 17 rfl (by decide) ?_
  refine jk_copy (pc := 30) hX 17 17 rfl (by omega) (Nat.le_of_ble_eq_true rfl) rfl rfl (by decide) ?_
  refine jk_aload (pc := 31) hX 0 rfl rfl ?_
  refine jk_aload (pc := 32) hX 1 rfl rfl ?_
  refine jk_getI (pc := 33) hX 3 4 rfl rfl rfl (jx_vX ((jx_cpc (by decide)).trans ((jx_cpc (by decide)).trans (jx_cpc (by decide)))) ?_)
  refine jk_put (pc := 34) hX 3 4 rfl rfl rfl ?_
  refine jk_aload (pc := 35) hX 0 rfl rfl ?_
  refine jk_aload (pc := 36) hX 1 rfl rfl ?_
  refine jk_getI (pc := 37) hX 3 5 rfl rfl rfl (jx_vX ((jx_upc (by decide)).trans ((jx_cpc (by decide)).trans ((jx_cpc (by decide)).trans (jx_cpc (by decide))))) ?_)
  refine jk_put (pc := 38) hX 3 5 rfl rfl rfl ?_
  exact jk_vret (pc := 39) hX rfl h3
set_option maxHeartbeats 4000000 in
theorem bk_M_copyFrom_b1_0 {d : Nat} {K : jxK} {X : jxX} (hX : jx_clo jx_G1 (d + 2) (jx_call jx_G1 jx_T (d + 2)) kc_M_copyFrom K X) (M : jxM)
    (h : jx_call jx_G1 jx_T (d + 2) 0 [.inr 5, .inr 29] M (fun r M2 => r = none ∧ K none (jx_up (jx_up (jx_cp (jx_cp (jx_cp M2 36 0 12 0 49) 37 0 13 0 16) 38 0 14 0 17) 4 4 (M2 28 4)) 4 5 (M2 28 5)))) :
    X 0 [.inr 4, .inr 28] [] M := by
  refine jk_aload (pc := 0) hX 0 rfl rfl ?_
  refine jk_getR (pc := 1) hX 3 0 rfl rfl (r := 4) rfl ?_
  refine jk_aload (pc := 2) hX 1 rfl rfl ?_
  refine jk_getR (pc := 3) hX 3 0 rfl rfl (r := 28) rfl ?_
  refine jk_cv (pc := 4) hX 0 1 0 rfl 5 [.inr 29] [] rfl rfl rfl (Nat.le_of_ble_eq_true rfl) (jx_mono (fun r M2 hr => ?_) h)
  obtain ⟨rfl, h3⟩ := hr
  show X 5 [.inr 4, .inr 28] [] M2
  refine jk_aload (pc := 5) hX 1 rfl rfl ?_
  refine jk_getR (pc := 6) hX 3 1 rfl rfl (r := 35) rfl ?_
  refine jk_const (pc := 7) hX 0 rfl (by decide) ?_
  refine jk_aload (pc := 8) hX 0 rfl rfl ?_
  refine jk_getR (pc := 9) hX 3 1 rfl rfl (r := 11) rfl ?_
  refine jk_const (pc := 10) hX 0 rfl (by decide) ?_
  refine jk_aload (pc := 11) hX 0 rfl rfl ?_
  refine jk_getR (pc := 12) hX 3 1 rfl rfl (r := 11) rfl ?_
  refine jk_alen (pc := 13) hX 49 rfl rfl ?_
  refine jk_copy (pc := 14) hX 49 49 rfl (by omega) (Nat.le_of_ble_eq_true rfl) rfl rfl (by decide) ?_
  refine jk_aload (pc := 15) hX 1 rfl rfl ?_
  refine jk_getR (pc := 16) hX 3 2 rfl rfl (r := 36) rfl ?_
  refine jk_const (pc := 17) hX 0 rfl (by decide) ?_
  refine jk_aload (pc := 18) hX 0 rfl rfl ?_
  refine jk_getR (pc := 19) hX 3 2 rfl rfl (r := 12) rfl ?_
  refine jk_const (pc := 20) hX 0 rfl (by decide) ?_
  refine jk_const (pc := 21) hX 16 rfl (by decide) ?_
  refine jk_copy (pc := 22) hX 16 16 rfl (by omega) (Nat.le_of_ble_eq_true rfl) rfl rfl (by decide) ?_
  refine jk_aload (pc := 23) hX 1 rfl rfl ?_
  refine jk_getR (pc := 24) hX 3 3 rfl rfl (r := 37) rfl ?_
  refine jk_const (pc := 25) hX 0 rfl (by decide) ?_
  refine jk_aload (pc := 26) hX 0 rfl rfl ?_
  refine jk_getR (pc := 27) hX 3 3 rfl rfl (r := 13) rfl ?_
  refine jk_const (pc := 28) hX 0 rfl (by decide) ?_
  refine jk_const (pc := 29) hX 17 rfl (by decide) ?_
  refine jk_copy (pc := 30) hX 17 17 rfl (by omega) (Nat.le_of_ble_eq_true rfl) rfl rfl (by decide) ?_
  refine jk_aload (pc := 31) hX 0 rfl rfl ?_
  refine jk_aload (pc := 32) hX 1 rfl rfl ?_
  refine jk_getI (pc := 33) hX 3 4 rfl rfl rfl (jx_vX ((jx_cpc (by decide)).trans ((jx_cpc (by decide)).trans (jx_cpc (by decide)))) ?_)
  refine jk_put (pc := 34) hX 3 4 rfl rfl rfl ?_
  refine jk_aload (pc := 35) hX 0 rfl rfl ?_
  refine jk_aload (pc := 36) hX 1 rfl rfl ?_
  refine jk_getI (pc := 37) hX 3 5 rfl rfl rfl (jx_vX ((jx_upc (by decide)).trans ((jx_cpc (by decide)).trans ((jx_cpc (by decide)).trans (jx_cpc (by decide))))) ?_)
  refine jk_put (pc := 38) hX 3 5 rfl rfl rfl ?_
  exact jk_vret (pc := 39) hX rfl h3
set_option maxHeartbeats 4000000 in
theorem bk_D_copyFrom_k2_0 {d : Nat} {K : jxK} {X : jxX} (hX : jx_clo jx_G1 (d + 1) (jx_call jx_G1 jx_T (d + 1)) kc_D_copyFrom K X) (M : jxM)
    (h : K none (jx_up (jx_cp (jx_cp (jx_cp (jx_cp (jx_cp (jx_cp M 6 0 41 0 120) 7 0 42 0 20) 8 0 43 0 20) 9 0 44 0 20) 10 0 45 0 20) 11 0 46 0 20) 40 6 (M 5 6))) :
    X 0 [.inr 40, .inr 5] [] M := by
  refine jk_aload (pc := 0) hX 1 rfl rfl ?_
  refine jk_getR (pc := 1) hX 0 0 rfl rfl (r := 5) rfl ?_
  refine jk_const (pc := 2) hX 0 rfl (by decide) ?_
  refine jk_aload (pc := 3) hX 0 rfl rfl ?_
  refine jk_getR (pc := 4) hX 0 0 rfl rfl (r := 40) rfl ?_
  refine jk_const (pc := 5) hX 0 rfl (by decide) ?_
  refine jk_aload (pc := 6) hX 0 rfl rfl ?_
  refine jk_getR (pc := 7) hX 0 0 rfl rfl (r := 40) rfl ?_
  refine jk_alen (pc := 8) hX 120 rfl rfl ?_
  refine jk_copy (pc := 9) hX 120 120 rfl (by omega) (Nat.le_of_ble_eq_true rfl) rfl rfl (by decide) ?_
  refine jk_aload (pc := 10) hX 1 rfl rfl ?_
  refine jk_getR (pc := 11) hX 0 1 rfl rfl (r := 6) rfl ?_
  refine jk_const (pc := 12) hX 0 rfl (by decide) ?_
  refine jk_aload (pc := 13) hX 0 rfl rfl ?_
  refine jk_getR (pc := 14) hX 0 1 rfl rfl (r := 41) rfl ?_
  refine jk_const (pc := 15) hX 0 rfl (by decide) ?_
  refine jk_const (pc := 16) hX 20 rfl (by decide) ?_
  refine jk_copy (pc := 17) hX 20 20 rfl (by omega) (Nat.le_of_ble_eq_true rfl) rfl rfl (by decide) ?_
  refine jk_aload (pc := 18) hX 1 rfl rfl ?_
  refine jk_getR (pc := 19) hX 0 2 rfl rfl (r := 7) rfl ?_
  refine jk_const (pc := 20) hX 0 rfl (by decide) ?_
  refine jk_aload (pc := 21) hX 0 rfl rfl ?_
  refine jk_getR (pc := 22) hX 0 2 rfl rfl (r := 42) rfl ?_
  refine jk_const (pc := 23) hX 0 rfl (by decide) ?_
  refine jk_const (pc := 24) hX 20 rfl (by decide) ?_
  refine jk_copy (pc := 25) hX 20 20 rfl (by omega) (Nat.le_of_ble_eq_true rfl) rfl rfl (by decide) ?_
  refine jk_aload (pc := 26) hX 1 rfl rfl ?_
  refine jk_getR (pc := 27) hX 0 3 rfl rfl (r := 8) rfl ?_
  refine jk_const (pc := 28) hX 0 rfl (by decide) ?_
  refine jk_aload (pc := 29) hX 0 rfl rfl ?_
  refine jk_getR (pc := 30) hX 0 3 rfl rfl (r := 43) rfl ?_
  refine jk_const (pc := 31) hX 0 rfl (by decide) ?_
  refine jk_const (pc := 32) hX 20 rfl (by decide) ?_
  refine jk_copy (pc := 33) hX 20 20 rfl (by omega) (Nat.le_of_ble_eq_true rfl) rfl rfl (by decide) ?_
  refine jk_aload (pc := 34) hX 1 rfl rfl ?_
  refine jk_getR (pc := 35) hX 0 4 rfl rfl (r := 9) rfl ?_
  refine jk_const (pc := 36) hX 0 rfl (by decide) ?_
  refine jk_aload (pc := 37) hX 0 rfl rfl ?_
  refine jk_getR (pc := 38) hX 0 4 rfl rfl (r := 44) rfl ?_
  refine jk_const (pc := 39) hX 0 rfl (by decide) ?_
  refine jk_const (pc := 40) hX 20 rfl (by decide) ?_
  refine jk_copy (pc := 41) hX 20 20 rfl (by omega) (Nat.le_of_ble_eq_true rfl) rfl rfl (by decide) ?_
  refine jk_aload (pc := 42) hX 1 rfl rfl ?_
  refine jk_getR (pc := 43) hX 0 5 rfl rfl (r := 10) rfl ?_
  refine jk_const (pc := 44) hX 0 rfl (by decide) ?_
  refine jk_aload (pc := 45) hX 0 rfl rfl ?_
  refine jk_getR (pc := 46) hX 0 5 rfl rfl (r := 45) rfl ?_
  refine jk_const (pc := 47) hX 0 rfl (by decide) ?_
  refine jk_const (pc := 48) hX 20 rfl (by decide) ?_
  refine jk_copy (pc := 49) hX 20 20 rfl (by omega) (Nat.le_of_ble_eq_true rfl) rfl rfl (by decide) ?_
  refine jk_aload (pc := 50) hX 0 rfl rfl ?_
  refine jk_aload (pc := 51) hX 1 rfl rfl ?_
  refine jk_getI (pc := 52) hX 0 6 rfl rfl rfl (jx_vX ((jx_cpc (by decide)).trans ((jx_cpc (by decide)).trans ((jx_cpc (by decide)).trans ((jx_cpc (by decide)).trans ((jx_cpc (by decide)).trans (jx_cpc (by decide))))))) ?_)
  refine jk_put (pc := 53) hX 0 6 rfl rfl rfl ?_
  exact jk_vret (pc := 54) hX rfl h
set_option maxHeartbeats 4000000 in
theorem bk_D_copyFrom_b2_0 {d : Nat} {K : jxK} {X : jxX} (hX : jx_clo jx_G1 (d + 1) (jx_call jx_G1 jx_T (d + 1)) kc_D_copyFrom K X) (M : jxM)
    (h : K none (jx_up (jx_cp (jx_cp (jx_cp (jx_cp (jx_cp (jx_cp M 41 0 6 0 120) 42 0 7 0 20) 43 0 8 0 20) 44 0 9 0 20) 45 0 10 0 20) 46 0 11 0 20) 5 6 (M 40 6))) :
    X 0 [.inr 5, .inr 40] [] M := by
  refine jk_aload (pc := 0) hX 1 rfl rfl ?_
  refine jk_getR (pc := 1) hX 0 0 rfl rfl (r := 40) rfl ?_
  refine jk_const (pc := 2) hX 0 rfl (by decide) ?_
  refine jk_aload (pc := 3) hX 0 rfl rfl ?_
  refine jk_getR (pc := 4) hX 0 0 rfl rfl (r := 5) rfl ?_
  refine jk_const (pc := 5) hX 0 rfl (by decide) ?_
  refine jk_aload (pc := 6) hX 0 rfl rfl ?_
  refine jk_getR (pc := 7) hX 0 0 rfl rfl (r := 5) rfl ?_
  refine jk_alen (pc := 8) hX 120 rfl rfl ?_
  refine jk_copy (pc := 9) hX 120 120 rfl (by omega) (Nat.le_of_ble_eq_true rfl) rfl rfl (by decide) ?_
  refine jk_aload (pc := 10) hX 1 rfl rfl ?_
  refine jk_getR (pc := 11) hX 0 1 rfl rfl (r := 41) rfl ?_
  refine jk_const (pc := 12) hX 0 rfl (by decide) ?_
  refine jk_aload (pc := 13) hX 0 rfl rfl ?_
  refine jk_getR (pc := 14) hX 0 1 rfl rfl (r := 6) rfl ?_
  refine jk_const (pc := 15) hX 0 rfl (by decide) ?_
  refine jk_const (pc := 16) hX 20 rfl (by decide) ?_
  refine jk_copy (pc := 17) hX 20 20 rfl (by omega) (Nat.le_of_ble_eq_true rfl) rfl rfl (by decide) ?_
  refine jk_aload (pc := 18) hX 1 rfl rfl ?_
  refine jk_getR (pc := 19) hX 0 2 rfl rfl (r := 42) rfl ?_
  refine jk_const (pc := 20) hX 0 rfl (by decide) ?_
  refine jk_aload (pc := 21) hX 0 rfl rfl ?_
  refine jk_getR (pc := 22) hX 0 2 rfl rfl (r := 7) rfl ?_
  refine jk_const (pc := 23) hX 0 rfl (by decide) ?_
  refine jk_const (pc := 24) hX 20 rfl (by decide) ?_
  refine jk_copy (pc := 25) hX 20 20 rfl (by omega) (Nat.le_of_ble_eq_true rfl) rfl rfl (by decide) ?_
  refine jk_aload (pc := 26) hX 1 rfl rfl ?_
  refine jk_getR (pc := 27) hX 0 3 rfl rfl (r := 43) rfl ?_
  refine jk_const (pc := 28) hX 0 rfl (by decide) ?_
  refine jk_aload (pc := 29) hX 0 rfl rfl ?_
  refine jk_getR (pc := 30) hX 0 3 rfl rfl (r := 8) rfl ?_
  refine jk_const (pc := 31) hX 0 rfl (by decide) ?_
  refine jk_const (pc := 32) hX 20 rfl (by decide) ?_
  refine jk_copy (pc := 33) hX 20 20 rfl (by omega) (Nat.le_of_ble_eq_true rfl) rfl rfl (by decide) ?_
  refine jk_aload (pc := 34) hX 1 rfl rfl ?_
  refine jk_getR (pc := 35) hX 0 4 rfl rfl (r := 44) rfl ?_
  refine jk_const (pc := 36) hX 0 rfl (by decide) ?_
  refine jk_aload (pc := 37) hX 0 rfl rfl ?_
  refine jk_getR (pc := 38) hX 0 4 rfl rfl (r := 9) rfl ?_
  refine jk_const (pc := 39) hX 0 rfl (by decide) ?_
  refine jk_const (pc := 40) hX 20 rfl (by decide) ?_
  refine jk_copy (pc := 41) hX 20 20 rfl (by omega) (Nat.le_of_ble_eq_true rfl) rfl rfl (by decide) ?_
  refine jk_aload (pc := 42) hX 1 rfl rfl ?_
  refine jk_getR (pc := 43) hX 0 5 rfl rfl (r := 45) rfl ?_
  refine jk_const (pc := 44) hX 0 rfl (by decide) ?_
  refine jk_aload (pc := 45) hX 0 rfl rfl ?_
  refine jk_getR (pc := 46) hX 0 5 rfl rfl (r := 10) rfl ?_
  refine jk_const (pc := 47) hX 0 rfl (by decide) ?_
  refine jk_const (pc := 48) hX 20 rfl (by decide) ?_
  refine jk_copy (pc := 49) hX 20 20 rfl (by omega) (Nat.le_of_ble_eq_true rfl) rfl rfl (by decide) ?_
  refine jk_aload (pc := 50) hX 0 rfl rfl ?_
  refine jk_aload (pc := 51) hX 1 rfl rfl ?_
  refine jk_getI (pc := 52) hX 0 6 rfl rfl rfl (jx_vX ((jx_cpc (by decide)).trans ((jx_cpc (by decide)).trans ((jx_cpc (by decide)).trans ((jx_cpc (by decide)).trans ((jx_cpc (by decide)).trans (jx_cpc (by decide))))))) ?_)
  refine jk_put (pc := 53) hX 0 6 rfl rfl rfl ?_
  exact jk_vret (pc := 54) hX rfl h
set_option maxHeartbeats 4000000 in
theorem bk_M_copyFrom_k2_0 {d : Nat} {K : jxK} {X : jxX} (hX : jx_clo jx_G1 (d + 2) (jx_call jx_G1 jx_T (d + 2)) kc_M_copyFrom K X) (M : jxM)
    (h : jx_call jx_G1 jx_T (d + 2) 0 [.inr 40, .inr 5] M (fun r M2 => r = none ∧ K none (jx_up (jx_up (jx_cp (jx_cp (jx_cp M2 12 0 47 0 49) 13 0 48 0 16) 14 0 49 0 17) 39 4 (M2 4 4)) 39 5 (M2 4 5)))) :
    X 0 [.inr 39, .inr 4] [] M := by
  refine jk_aload (pc := 0) hX 0 rfl rfl ?_
  refine jk_getR (pc := 1) hX 3 0 rfl rfl (r := 39) rfl ?_
  refine jk_aload (pc := 2) hX 1 rfl rfl ?_
  refine jk_getR (pc := 3) hX 3 0 rfl rfl (r := 4) rfl ?_
  refine jk_cv (pc := 4) hX 0 1 0 rfl 40 [.inr 5] [] rfl rfl rfl (Nat.le_of_ble_eq_true rfl) (jx_mono (fun r M2 hr => ?_) h)
  obtain ⟨rfl, h3⟩ := hr
  show X 5 [.inr 39, .inr 4] [] M2
  refine jk_aload (pc := 5) hX 1 rfl rfl ?_
  refine jk_getR (pc := 6) hX 3 1 rfl rfl (r := 11) rfl ?_
  refine jk_const (pc := 7) hX 0 rfl (by decide) ?_
  refine jk_aload (pc := 8) hX 0 rfl rfl ?_
  refine jk_getR (pc := 9) hX 3 1 rfl rfl (r := 46) rfl ?_
  refine jk_const (pc := 10) hX 0 rfl (by decide) ?_
  refine jk_aload (pc := 11) hX 0 rfl rfl ?_
  refine jk_getR (pc := 12) hX 3 1 rfl rfl (r := 46) rfl ?_
  refine jk_alen (pc := 13) hX 49 rfl rfl ?_
  refine jk_copy (pc := 14) hX 49 49 rfl (by omega) (Nat.le_of_ble_eq_true rfl) rfl rfl (by decide) ?_
  refine jk_aload (pc := 15) hX 1 rfl rfl ?_
  refine jk_getR (pc := 16) hX 3 2 rfl rfl (r := 12) rfl ?_
  refine jk_const (pc := 17) hX 0 rfl (by decide) ?_
  refine jk_aload (pc := 18) hX 0 rfl rfl ?_
  refine jk_getR (pc := 19) hX 3 2 rfl rfl (r := 47) rfl ?_
  refine jk_const (pc := 20) hX 0 rfl (by decide) ?_
  refine jk_const (pc := 21) hX 16 rfl (by decide) ?_
  refine jk_copy (pc := 22) hX 16 16 rfl (by omega) (Nat.le_of_ble_eq_true rfl) rfl rfl (by decide) ?_
  refine jk_aload (pc := 23) hX 1 rfl rfl ?_
  refine jk_getR (pc := 24) hX 3 3 rfl rfl (r := 13) rfl ?_
  refine jk_const (pc := 25) hX 0 rfl (by decide) ?_
  refine jk_aload (pc := 26) hX 0 rfl rfl ?_
  refine jk_getR (pc := 27) hX 3 3 rfl rfl (r := 48) rfl ?_
  refine jk_const (pc := 28) hX 0 rfl (by decide) ?_
  refine jk_const (pc := 29) hX 17 rfl (by decide) ?_
  refine jk_copy (pc := 30) hX 17 17 rfl (by omega) (Nat.le_of_ble_eq_true rfl) rfl rfl (by decide) ?_
  refine jk_aload (pc := 31) hX 0 rfl rfl ?_
  refine jk_aload (pc := 32) hX 1 rfl rfl ?_
  refine jk_getI (pc := 33) hX 3 4 rfl rfl rfl (jx_vX ((jx_cpc (by decide)).trans ((jx_cpc (by decide)).trans (jx_cpc (by decide)))) ?_)
  refine jk_put (pc := 34) hX 3 4 rfl rfl rfl ?_
  refine jk_aload (pc := 35) hX 0 rfl rfl ?_
  refine jk_aload (pc := 36) hX 1 rfl rfl ?_
  refine jk_getI (pc := 37) hX 3 5 rfl rfl rfl (jx_vX ((jx_upc (by decide)).trans ((jx_cpc (by decide)).trans ((jx_cpc (by decide)).trans (jx_cpc (by decide))))) ?_)
  refine jk_put (pc := 38) hX 3 5 rfl rfl rfl ?_
  exact jk_vret (pc := 39) hX rfl h3
set_option maxHeartbeats 4000000 in
theorem bk_M_copyFrom_b2_0 {d : Nat} {K : jxK} {X : jxX} (hX : jx_clo jx_G1 (d + 2) (jx_call jx_G1 jx_T (d + 2)) kc_M_copyFrom K X) (M : jxM)
    (h : jx_call jx_G1 jx_T (d + 2) 0 [.inr 5, .inr 40] M (fun r M2 => r = none ∧ K none (jx_up (jx_up (jx_cp (jx_cp (jx_cp M2 47 0 12 0 49) 48 0 13 0 16) 49 0 14 0 17) 4 4 (M2 39 4)) 4 5 (M2 39 5)))) :
    X 0 [.inr 4, .inr 39] [] M := by
  refine jk_aload (pc := 0) hX 0 rfl rfl ?_
  refine jk_getR (pc := 1) hX 3 0 rfl rfl (r := 4) rfl ?_
  refine jk_aload (pc := 2) hX 1 rfl rfl ?_
  refine jk_getR (pc := 3) hX 3 0 rfl rfl (r := 39) rfl ?_
  refine jk_cv (pc := 4) hX 0 1 0 rfl 5 [.inr 40] [] rfl rfl rfl (Nat.le_of_ble_eq_true rfl) (jx_mono (fun r M2 hr => ?_) h)
  obtain ⟨rfl, h3⟩ := hr
  show X 5 [.inr 4, .inr 39] [] M2
  refine jk_aload (pc := 5) hX 1 rfl rfl ?_
  refine jk_getR (pc := 6) hX 3 1 rfl rfl (r := 46) rfl ?_
  refine jk_const (pc := 7) hX 0 rfl (by decide) ?_
  refine jk_aload (pc := 8) hX 0 rfl rfl ?_
  refine jk_getR (pc := 9) hX 3 1 rfl rfl (r := 11) rfl ?_
  refine jk_const (pc := 10) hX 0 rfl (by decide) ?_
  refine jk_aload (pc := 11) hX 0 rfl rfl ?_
  refine jk_getR (pc := 12) hX 3 1 rfl rfl (r := 11) rfl ?_
  refine jk_alen (pc := 13) hX 49 rfl rfl ?_
  refine jk_copy (pc := 14) hX 49 49 rfl (by omega) (Nat.le_of_ble_eq_true rfl) rfl rfl (by decide) ?_
  refine jk_aload (pc := 15) hX 1 rfl rfl ?_
  refine jk_getR (pc := 16) hX 3 2 rfl rfl (r := 47) rfl ?_
  refine jk_const (pc := 17) hX 0 rfl (by decide) ?_
  refine jk_aload (pc := 18) hX 0 rfl rfl ?_
  refine jk_getR (pc := 19) hX 3 2 rfl rfl (r := 12) rfl ?_
  refine jk_const (pc := 20) hX 0 rfl (by decide) ?_
  refine jk_const (pc := 21) hX 16 rfl (by decide) ?_
  refine jk_copy (pc := 22) hX 16 16 rfl (by omega) (Nat.le_of_ble_eq_true rfl) rfl rfl (by decide) ?_
  refine jk_aload (pc := 23) hX 1 rfl rfl ?_
  refine jk_getR (pc := 24) hX 3 3 rfl rfl (r := 48) rfl ?_
  refine jk_const (pc := 25) hX 0 rfl (by decide) ?_
  refine jk_aload (pc := 26) hX 0 rfl rfl ?_
  refine jk_getR (pc := 27) hX 3 3 rfl rfl (r := 13) rfl ?_
  refine jk_const (pc := 28) hX 0 rfl (by decide) ?_
  refine jk_const (pc := 29) hX 17 rfl (by decide) ?_
  refine jk_copy (pc := 30) hX 17 17 rfl (by omega) (Nat.le_of_ble_eq_true rfl) rfl rfl (by decide) ?_
  refine jk_aload (pc := 31) hX 0 rfl rfl ?_
  refine jk_aload (pc := 32) hX 1 rfl rfl ?_
  refine jk_getI (pc := 33) hX 3 4 rfl rfl rfl (jx_vX ((jx_cpc (by decide)).trans ((jx_cpc (by decide)).trans (jx_cpc (by decide)))) ?_)
  refine jk_put (pc := 34) hX 3 4 rfl rfl rfl ?_
  refine jk_aload (pc := 35) hX 0 rfl rfl ?_
  refine jk_aload (pc := 36) hX 1 rfl rfl ?_
  refine jk_getI (pc := 37) hX 3 5 rfl rfl rfl (jx_vX ((jx_upc (by decide)).trans ((jx_cpc (by decide)).trans ((jx_cpc (by decide)).trans (jx_cpc (by decide))))) ?_)
  refine jk_put (pc := 38) hX 3 5 rfl rfl rfl ?_
  exact jk_vret (pc := 39) hX rfl h3
set_option maxHeartbeats 4000000 in
theorem bk_D_copyFrom_k3_0 {d : Nat} {K : jxK} {X : jxX} (hX : jx_clo jx_G1 (d + 1) (jx_call jx_G1 jx_T (d + 1)) kc_D_copyFrom K X) (M : jxM)
    (h : K none (jx_up (jx_cp (jx_cp (jx_cp (jx_cp (jx_cp (jx_cp M 6 0 52 0 120) 7 0 53 0 20) 8 0 54 0 20) 9 0 55 0 20) 10 0 56 0 20) 11 0 57 0 20) 51 6 (M 5 6))) :
    X 0 [.inr 51, .inr 5] [] M := by
  refine jk_aload (pc := 0) hX 1 rfl rfl ?_
  refine jk_getR (pc := 1) hX 0 0 rfl rfl (r := 5) rfl ?_
  refine jk_const (pc := 2) hX 0 rfl (by decide) ?_
  refine jk_aload (pc := 3) hX 0 rfl rfl ?_
  refine jk_getR (pc := 4) hX 0 0 rfl rfl (r := 51) rfl ?_
  refine jk_const (pc := 5) hX 0 rfl (by decide) ?_
  refine jk_aload (pc := 6) hX 0 rfl rfl ?_
  refine jk_getR (pc := 7) hX 0 0 rfl rfl (r := 51) rfl ?_
  refine jk_alen (pc := 8) hX 120 rfl rfl ?_
  refine jk_copy (pc := 9) hX 120 120 rfl (by omega) (Nat.le_of_ble_eq_true rfl) rfl rfl (by decide) ?_
  refine jk_aload (pc := 10) hX 1 rfl rfl ?_
  refine jk_getR (pc := 11) hX 0 1 rfl rfl (r := 6) rfl ?_
  refine jk_const (pc := 12) hX 0 rfl (by decide) ?_
  refine jk_aload (pc := 13) hX 0 rfl rfl ?_
  refine jk_getR (pc := 14) hX 0 1 rfl rfl (r := 52) rfl ?_
  refine jk_const (pc := 15) hX 0 rfl (by decide) ?_
  refine jk_const (pc := 16) hX 20 rfl (by decide) ?_
  refine jk_copy (pc := 17) hX 20 20 rfl (by omega) (Nat.le_of_ble_eq_true rfl) rfl rfl (by decide) ?_
  refine jk_aload (pc := 18) hX 1 rfl rfl ?_
  refine jk_getR (pc := 19) hX 0 2 rfl rfl (r := 7) rfl ?_
  refine jk_const (pc := 20) hX 0 rfl (by decide) ?_
  refine jk_aload (pc := 21) hX 0 rfl rfl ?_
  refine jk_getR (pc := 22) hX 0 2 rfl rfl (r := 53) rfl ?_
  refine jk_const (pc := 23) hX 0 rfl (by decide) ?_
  refine jk_const (pc := 24) hX 20 rfl (by decide) ?_
  refine jk_copy (pc := 25) hX 20 20 rfl (by omega) (Nat.le_of_ble_eq_true rfl) rfl rfl (by decide) ?_
  refine jk_aload (pc := 26) hX 1 rfl rfl ?_
  refine jk_getR (pc := 27) hX 0 3 rfl rfl (r := 8) rfl ?_
  refine jk_const (pc := 28) hX 0 rfl (by decide) ?_
  refine jk_aload (pc := 29) hX 0 rfl rfl ?_
  refine jk_getR (pc := 30) hX 0 3 rfl rfl (r := 54) rfl ?_
  refine jk_const (pc := 31) hX 0 rfl (by decide) ?_
  refine jk_const (pc := 32) hX 20 rfl (by decide) ?_
  refine jk_copy (pc := 33) hX 20 20 rfl (by omega) (Nat.le_of_ble_eq_true rfl) rfl rfl (by decide) ?_
  refine jk_aload (pc := 34) hX 1 rfl rfl ?_
  refine jk_getR (pc := 35) hX 0 4 rfl rfl (r := 9) rfl ?_
  refine jk_const (pc := 36) hX 0 rfl (by decide) ?_
  refine jk_aload (pc := 37) hX 0 rfl rfl ?_
  refine jk_getR (pc := 38) hX 0 4 rfl rfl (r := 55) rfl ?_
  refine jk_const (pc := 39) hX 0 rfl (by decide) ?_
  refine jk_const (pc := 40) hX 20 rfl (by decide) ?_
  refine jk_copy (pc := 41) hX 20 20 rfl (by omega) (Nat.le_of_ble_eq_true rfl) rfl rfl (by decide) ?_
  refine jk_aload (pc := 42) hX 1 rfl rfl ?_
  refine jk_getR (pc := 43) hX 0 5 rfl rfl (r := 10) rfl ?_
  refine jk_const (pc := 44) hX 0 rfl (by decide) ?_
  refine jk_aload (pc := 45) hX 0 rfl rfl ?_
  refine jk_getR (pc := 46) hX 0 5 rfl rfl (r := 56) rfl ?_
  refine jk_const (pc := 47) hX 0 rfl (by decide) ?_
  refine jk_const (pc := 48) hX 20 rfl (by decide) ?_
  refine jk_copy (pc := 49) hX 20 20 rfl (by omega) (Nat.le_of_ble_eq_true rfl) rfl rfl (by decide) ?_
  refine jk_aload (pc := 50) hX 0 rfl rfl ?_
  refine jk_aload (pc := 51) hX 1 rfl rfl ?_
  refine jk_getI (pc := 52) hX 0 6 rfl rfl rfl (jx_vX ((jx_cpc (by decide)).trans ((jx_cpc (by decide)).trans ((jx_cpc (by decide)).trans ((jx_cpc (by decide)).trans ((jx_cpc (by decide)).trans (jx_cpc (by decide))))))) ?_)
  refine jk_put (pc := 53) hX 0 6 rfl rfl rfl ?_
  exact jk_vret (pc := 54) hX rfl h
set_option maxHeartbeats 4000000 in
theorem bk_D_copyFrom_b3_0 {d : Nat} {K : jxK} {X : jxX} (hX : jx_clo jx_G1 (d + 1) (jx_call jx_G1 jx_T (d + 1)) kc_D_copyFrom K X) (M : jxM)
    (h : K none (jx_up (jx_cp (jx_cp (jx_cp (jx_cp (jx_cp (jx_cp M 52 0 6 0 120) 53 0 7 0 20) 54 0 8 0 20) 55 0 9 0 20) 56 0 10 0 20) 57 0 11 0 20) 5 6 (M 51 6))) :
    X 0 [.inr 5, .inr 51] [] M := by
  refine jk_aload (pc := 0) hX 1 rfl rfl ?_
  refine jk_getR (pc := 1) hX 0 0 rfl rfl (r := 51) rfl ?_
  refine jk_const (pc := 2) hX 0 rfl (by decide) ?_
  refine jk_aload (pc := 3) hX 0 rfl rfl ?_
  refine jk_getR (pc := 4) hX 0 0 rfl rfl (r := 5) rfl ?_
  refine jk_const (pc := 5) hX 0 rfl (by decide) ?_
  refine jk_aload (pc := 6) hX 0 rfl rfl ?_
  refine jk_getR (pc := 7) hX 0 0 rfl rfl (r := 5) rfl ?_
  refine jk_alen (pc := 8) hX 120 rfl rfl ?_
  refine jk_copy (pc := 9) hX 120 120 rfl (by omega) (Nat.le_of_ble_eq_true rfl) rfl rfl (by decide) ?_
  refine jk_aload (pc := 10) hX 1 rfl rfl ?_
  refine jk_getR (pc := 11) hX 0 1 rfl rfl (r := 52) rfl ?_
  refine jk_const (pc := 12) hX 0 rfl (by decide) ?_
  refine jk_aload (pc := 13) hX 0 rfl rfl ?_
  refine jk_getR (pc := 14) hX 0 1 rfl rfl (r := 6) rfl ?_
  refine jk_const (pc := 15) hX 0 rfl (by decide) ?_
  refine jk_const (pc := 16) hX 20 rfl (by decide) ?_
  refine jk_copy (pc := 17) hX 20 20 rfl (by omega) (Nat.le_of_ble_eq_true rfl) rfl rfl (by decide) ?_
  refine jk_aload (pc := 18) hX 1 rfl rfl ?_
  refine jk_getR (pc := 19) hX 0 2 rfl rfl (r := 53) rfl ?_
  refine jk_const (pc := 20) hX 0 rfl (by decide) ?_
  refine jk_aload (pc := 21) hX 0 rfl rfl ?_
  refine jk_getR (pc := 22) hX 0 2 rfl rfl (r := 7) rfl ?_
  refine jk_const (pc := 23) hX 0 rfl (by decide) ?_
  refine jk_const (pc := 24) hX 20 rfl (by decide) ?_
  refine jk_copy (pc := 25) hX 20 20 rfl (by omega) (Nat.le_of_ble_eq_true rfl) rfl rfl (by decide) ?_
  refine jk_aload (pc := 26) hX 1 rfl rfl ?_
  refine jk_getR (pc := 27) hX 0 3 rfl rfl (r := 54) rfl ?_
  refine jk_const (pc := 28) hX 0 rfl (by decide) ?_
  refine jk_aload (pc := 29) hX 0 rfl rfl ?_
  refine jk_getR (pc := 30) hX 0 3 rfl rfl (r := 8) rfl ?_
  refine jk_const (pc := 31) hX 0 rfl (by decide) ?_
  refine jk_const (pc := 32) hX 20 rfl (by decide) ?_
  refine jk_copy (pc := 33) hX 20 20 rfl (by omega) (Nat.le_of_ble_eq_true rfl) rfl rfl (by decide) ?_
  refine jk_aload (pc := 34) hX 1 rfl rfl ?_
  refine jk_getR (pc := 35) hX 0 4 rfl rfl (r := 55) rfl ?_
  refine jk_const (pc := 36) hX 0 rfl (by decide) ?_
  refine jk_aload (pc := 37) hX 0 rfl rfl ?_
  refine jk_getR (pc := 38) hX 0 4 rfl rfl (r := 9) rfl ?_
  refine jk_const (pc := 39) hX 0 rfl (by decide) ?_
  refine jk_const (pc := 40) hX 20 rfl (by decide) ?_
  refine jk_copy (pc := 41) hX 20 20 rfl (by omega) (Nat.le_of_ble_eq_true rfl) rfl rfl (by decide) ?_
  refine jk_aload (pc := 42) hX 1 rfl rfl ?_
  refine jk_getR (pc := 43) hX 0 5 rfl rfl (r := 56) rfl ?_
  refine jk_const (pc := 44) hX 0 rfl (by decide) ?_
  refine jk_aload (pc := 45) hX 0 rfl rfl ?_
  refine jk_getR (pc := 46) hX 0 5 rfl rfl (r := 10) rfl ?_
  refine jk_const (pc := 47) hX 0 rfl (by decide) ?_
  refine jk_const (pc := 48) hX 20 rfl (by decide) ?_
  refine jk_copy (pc := 49) hX 20 20 rfl (by omega) (Nat.le_of_ble_eq_true rfl) rfl rfl (by decide) ?_
  refine jk_aload (pc := 50) hX 0 rfl rfl ?_
  refine jk_aload (pc := 51) hX 1 rfl rfl ?_
  refine jk_getI (pc := 52) hX 0 6 rfl rfl rfl (jx_vX ((jx_cpc (by decide)).trans ((jx_cpc (by decide)).trans ((jx_cpc (by decide)).trans ((jx_cpc (by decide)).trans ((jx_cpc (by decide)).trans (jx_cpc (by decide))))))) ?_)
  refine jk_put (pc := 53) hX 0 6 rfl rfl rfl ?_
  exact jk_vret (pc := 54) hX rfl h
set_option maxHeartbeats 4000000 in
theorem bk_M_copyFrom_k3_0 {d : Nat} {K : jxK} {X : jxX} (hX : jx_clo jx_G1 (d + 2) (jx_call jx_G1 jx_T (d + 2)) kc_M_copyFrom K X) (M : jxM)
    (h : jx_call jx_G1 jx_T (d + 2) 0 [.inr 51, .inr 5] M (fun r M2 => r = none ∧ K none (jx_up (jx_up (jx_cp (jx_cp (jx_cp M2 12 0 58 0 49) 13 0 59 0 16) 14 0 60 0 17) 50 4 (M2 4 4)) 50 5 (M2 4 5)))) :
    X 0 [.inr 50, .inr 4] [] M := by
  refine jk_aload (pc := 0) hX 0 rfl rfl ?_
  refine jk_getR (pc := 1) hX 3 0 rfl rfl (r := 50) rfl ?_
  refine jk_aload (pc := 2) hX 1 rfl rfl ?_
  refine jk_getR (pc := 3) hX 3 0 rfl rfl (r := 4) rfl ?_
  refine jk_cv (pc := 4) hX 0 1 0 rfl 51 [.inr 5] [] rfl rfl rfl (Nat.le_of_ble_eq_true rfl) (jx_mono (fun r M2 hr => ?_) h)
  obtain ⟨rfl, h3⟩ := hr
  show X 5 [.inr 50, .inr 4] [] M2
  refine jk_aload (pc := 5) hX 1 rfl rfl ?_
  refine jk_getR (pc := 6) hX 3 1 rfl rfl (r := 11) rfl ?_
  refine jk_const (pc := 7) hX 0 rfl (by decide) ?_
  refine jk_aload (pc := 8) hX 0 rfl rfl ?_
  refine jk_getR (pc := 9) hX 3 1 rfl rfl (r := 57) rfl ?_
  refine jk_const (pc := 10) hX 0 rfl (by decide) ?_
  refine jk_aload (pc := 11) hX 0 rfl rfl ?_
  refine jk_getR (pc := 12) hX 3 1 rfl rfl (r := 57) rfl ?_
  refine jk_alen (pc := 13) hX 49 rfl rfl ?_
  refine jk_copy (pc := 14) hX 49 49 rfl (by omega) (Nat.le_of_ble_eq_true rfl) rfl rfl (by decide) ?_
  refine jk_aload (pc := 15) hX 1 rfl rfl ?_
  refine jk_getR (pc := 16) hX 3 2 rfl rfl (r := 12) rfl ?_
  refine jk_const (pc := 17) hX 0 rfl (by decide) ?_
  refine jk_aload (pc := 18) hX 0 rfl rfl ?_
  refine jk_getR (pc := 19) hX 3 2 rfl rfl (r := 58) rfl ?_
  refine jk_const (pc := 20) hX 0 rfl (by decide) ?_
  refine jk_const (pc := 21) hX 16 rfl (by decide) ?_
  refine jk_copy (pc := 22) hX 16 16 rfl (by omega) (Nat.le_of_ble_eq_true rfl) rfl rfl (by decide) ?_
  refine jk_aload (pc := 23) hX 1 rfl rfl ?_
  refine jk_getR (pc := 24) hX 3 3 rfl rfl (r := 13) rfl ?_
  refine jk_const (pc := 25) hX 0 rfl (by decide) ?_
  refine jk_aload (pc := 26) hX 0 rfl rfl ?_
  refine jk_getR (pc := 27) hX 3 3 rfl rfl (r := 59) rfl ?_
  refine jk_const (pc := 28) hX 0 rfl (by decide) ?_
  refine jk_const (pc := 29) hX 17 rfl (by decide) ?_
  refine jk_copy (pc := 30) hX 17 17 rfl (by omega) (Nat.le_of_ble_eq_true rfl) rfl rfl (by decide) ?_
  refine jk_aload (pc := 31) hX 0 rfl rfl ?_
  refine jk_aload (pc := 32) hX 1 rfl rfl ?_
  refine jk_getI (pc := 33) hX 3 4 rfl rfl rfl (jx_vX ((jx_cpc (by decide)).trans ((jx_cpc (by decide)).trans (jx_cpc (by decide)))) ?_)
  refine jk_put (pc := 34) hX 3 4 rfl rfl rfl ?_
  refine jk_aload (pc := 35) hX 0 rfl rfl ?_
  refine jk_aload (pc := 36) hX 1 rfl rfl ?_
  refine jk_getI (pc := 37) hX 3 5 rfl rfl rfl (jx_vX ((jx_upc (by decide)).trans ((jx_cpc (by decide)).trans ((jx_cpc (by decide)).trans (jx_cpc (by decide))))) ?_)
  refine jk_put (pc := 38) hX 3 5 rfl rfl rfl ?_
  exact jk_vret (pc := 39) hX rfl h3
set_option maxHeartbeats 4000000 in
theorem bk_M_copyFrom_b3_0 {d : Nat} {K : jxK} {X : jxX} (hX : jx_clo jx_G1 (d + 2) (jx_call jx_G1 jx_T (d + 2)) kc_M_copyFrom K X) (M : jxM)
    (h : jx_call jx_G1 jx_T (d + 2) 0 [.inr 5, .inr 51] M (fun r M2 => r = none ∧ K none (jx_up (jx_up (jx_cp (jx_cp (jx_cp M2 58 0 12 0 49) 59 0 13 0 16) 60 0 14 0 17) 4 4 (M2 50 4)) 4 5 (M2 50 5)))) :
    X 0 [.inr 4, .inr 50] [] M := by
  refine jk_aload (pc := 0) hX 0 rfl rfl ?_
  refine jk_getR (pc := 1) hX 3 0 rfl rfl (r := 4) rfl ?_
  refine jk_aload (pc := 2) hX 1 rfl rfl ?_
  refine jk_getR (pc := 3) hX 3 0 rfl rfl (r := 50) rfl ?_
  refine jk_cv (pc := 4) hX 0 1 0 rfl 5 [.inr 51] [] rfl rfl rfl (Nat.le_of_ble_eq_true rfl) (jx_mono (fun r M2 hr => ?_) h)
  obtain ⟨rfl, h3⟩ := hr
  show X 5 [.inr 4, .inr 50] [] M2
  refine jk_aload (pc := 5) hX 1 rfl rfl ?_
  refine jk_getR (pc := 6) hX 3 1 rfl rfl (r := 57) rfl ?_
  refine jk_const (pc := 7) hX 0 rfl (by decide) ?_
  refine jk_aload (pc := 8) hX 0 rfl rfl ?_
  refine jk_getR (pc := 9) hX 3 1 rfl rfl (r := 11) rfl ?_
  refine jk_const (pc := 10) hX 0 rfl (by decide) ?_
  refine jk_aload (pc := 11) hX 0 rfl rfl ?_
  refine jk_getR (pc := 12) hX 3 1 rfl rfl (r := 11) rfl ?_
  refine jk_alen (pc := 13) hX 49 rfl rfl ?_
  refine jk_copy (pc := 14) hX 49 49 rfl (by omega) (Nat.le_of_ble_eq_true rfl) rfl rfl (by decide) ?_
  refine jk_aload (pc := 15) hX 1 rfl rfl ?_
  refine jk_getR (pc := 16) hX 3 2 rfl rfl (r := 58) rfl ?_
  refine jk_const (pc := 17) hX 0 rfl (by decide) ?_
  refine jk_aload (pc := 18) hX 0 rfl rfl ?_
  refine jk_getR (pc := 19) hX 3 2 rfl rfl (r := 12) rfl ?_
  refine jk_const (pc := 20) hX 0 rfl (by decide) ?_
  refine jk_const (pc := 21) hX 16 rfl (by decide) ?_
  refine jk_copy (pc := 22) hX 16 16 rfl (by omega) (Nat.le_of_ble_eq_true rfl) rfl rfl (by decide) ?_
  refine jk_aload (pc := 23) hX 1 rfl rfl ?_
  refine jk_getR (pc := 24) hX 3 3 rfl rfl (r := 59) rfl ?_
  refine jk_const (pc := 25) hX 0 rfl (by decide) ?_
  refine jk_aload (pc := 26) hX 0 rfl rfl ?_
  refine jk_getR (pc := 27) hX 3 3 rfl rfl (r := 13) rfl ?_
  refine jk_const (pc := 28) hX 0 rfl (by decide) ?_
  refine jk_const (pc := 29) hX 17 rfl (by decide) ?_
  refine jk_copy (pc := 30) hX 17 17 rfl (by omega) (Nat.le_of_ble_eq_true rfl) rfl rfl (by decide) ?_
  refine jk_aload (pc := 31) hX 0 rfl rfl ?_
  refine jk_aload (pc := 32) hX 1 rfl rfl ?_
  refine jk_getI (pc := 33) hX 3 4 rfl rfl rfl (jx_vX ((jx_cpc (by decide)).trans ((jx_cpc (by decide)).trans (jx_cpc (by decide)))) ?_)
  refine jk_put (pc := 34) hX 3 4 rfl rfl rfl ?_
  refine jk_aload (pc := 35) hX 0 rfl rfl ?_
  refine jk_aload (pc := 36) hX 1 rfl rfl ?_
  refine jk_getI (pc := 37) hX 3 5 rfl rfl rfl (jx_vX ((jx_upc (by decide)).trans ((jx_cpc (by decide)).trans ((jx_cpc (by decide)).trans (jx_cpc (by decide))))) ?_)
  refine jk_put (pc := 38) hX 3 5 rfl rfl rfl ?_
  exact jk_vret (pc := 39) hX rfl h3
set_option maxHeartbeats 4000000 in
theorem bk_D_copyFrom_k4_0 {d : Nat} {K : jxK} {X : jxX} (hX : jx_clo jx_G1 (d + 1) (jx_call jx_G1 jx_T (d + 1)) kc_D_copyFrom K X) (M : jxM)
    (h : K none (jx_up (jx_cp (jx_cp (jx_cp (jx_cp (jx_cp (jx_cp M 6 0 63 0 120) 7 0 64 0 20) 8 0 65 0 20) 9 0 66 0 20) 10 0 67 0 20) 11 0 68 0 20) 62 6 (M 5 6))) :
    X 0 [.inr 62, .inr 5] [] M := by
  refine jk_aload (pc := 0) hX 1 rfl rfl ?_
  refine jk_getR (pc := 1) hX 0 0 rfl rfl (r := 5) rfl ?_
  refine jk_const (pc := 2) hX 0 rfl (by decide) ?_
  refine jk_aload (pc := 3) hX 0 rfl rfl ?_
  refine jk_getR (pc := 4) hX 0 0 rfl rfl (r := 62) rfl ?_
  refine jk_const (pc := 5) hX 0 rfl (by decide) ?_
  refine jk_aload (pc := 6) hX 0 rfl rfl ?_
  refine jk_getR (pc := 7) hX 0 0 rfl rfl (r := 62) rfl ?_
  refine jk_alen (pc := 8) hX 120 rfl rfl ?_
  refine jk_copy (pc := 9) hX 120 120 rfl (by omega) (Nat.le_of_ble_eq_true rfl) rfl rfl (by decide) ?_
  refine jk_aload (pc := 10) hX 1 rfl rfl ?_
  refine jk_getR (pc := 11) hX 0 1 rfl rfl (r := 6) rfl ?_
  refine jk_const (pc := 12) hX 0 rfl (by decide) ?_
  refine jk_aload (pc := 13) hX 0 rfl rfl ?_
  refine jk_getR (pc := 14) hX 0 1 rfl rfl (r := 63) rfl ?_
  refine jk_const (pc := 15) hX 0 rfl (by decide) ?_
  refine jk_const (pc := 16) hX 20 rfl (by decide) ?_
  refine jk_copy (pc := 17) hX 20 20 rfl (by omega) (Nat.le_of_ble_eq_true rfl) rfl rfl (by decide) ?_
  refine jk_aload (pc := 18) hX 1 rfl rfl ?_
  refine jk_getR (pc := 19) hX 0 2 rfl rfl (r := 7) rfl ?_
  refine jk_const (pc := 20) hX 0 rfl (by decide) ?_
  refine jk_aload (pc := 21) hX 0 rfl rfl ?_
  refine jk_getR (pc := 22) hX 0 2 rfl rfl (r := 64) rfl ?_
  refine jk_const (pc := 23) hX 0 rfl (by decide) ?_
  refine jk_const (pc := 24) hX 20 rfl (by decide) ?_
  refine jk_copy (pc := 25) hX 20 20 rfl (by omega) (Nat.le_of_ble_eq_true rfl) rfl rfl (by decide) ?_
  refine jk_aload (pc := 26) hX 1 rfl rfl ?_
  refine jk_getR (pc := 27) hX 0 3 rfl rfl (r := 8) rfl ?_
  refine jk_const (pc := 28) hX 0 rfl (by decide) ?_
  refine jk_aload (pc := 29) hX 0 rfl rfl ?_
  refine jk_getR (pc := 30) hX 0 3 rfl rfl (r := 65) rfl ?_
  refine jk_const (pc := 31) hX 0 rfl (by decide) ?_
  refine jk_const (pc := 32) hX 20 rfl (by decide) ?_
  refine jk_copy (pc := 33) hX 20 20 rfl (by omega) (Nat.le_of_ble_eq_true rfl) rfl rfl (by decide) ?_
  refine jk_aload (pc := 34) hX 1 rfl rfl ?_
  refine jk_getR (pc := 35) hX 0 4 rfl rfl (r := 9) rfl ?_
  refine jk_const (pc := 36) hX 0 rfl (by decide) ?_
  refine jk_aload (pc := 37) hX 0 rfl rfl ?_
  refine jk_getR (pc := 38) hX 0 4 rfl rfl (r := 66) rfl ?_
  refine jk_const (pc := 39) hX 0 rfl (by decide) ?_
  refine jk_const (pc := 40) hX 20 rfl (by decide) ?_
  refine jk_copy (pc := 41) hX 20 20 rfl (by omega) (Nat.le_of_ble_eq_true rfl) rfl rfl (by decide) ?_
  refine jk_aload (pc := 42) hX 1 rfl rfl ?_
  refine jk_getR (pc := 43) hX 0 5 rfl rfl (r := 10) rfl ?_
  refine jk_const (pc := 44) hX 0 rfl (by decide) ?_
  refine jk_aload (pc := 45) hX 0 rfl rfl ?_
  refine jk_getR (pc := 46) hX 0 5 rfl rfl (r := 67) rfl ?_
  refine jk_const (pc := 47) hX 0 rfl (by decide) ?_
  refine jk_const (pc := 48) hX 20 rfl (by decide) ?_
  refine jk_copy (pc := 49) hX 20 20 rfl (by omega) (Nat.le_of_ble_eq_true rfl) rfl rfl (by decide) ?_
  refine jk_aload (pc := 50) hX 0 rfl rfl ?_
  refine jk_aload (pc := 51) hX 1 rfl rfl ?_
  refine jk_getI (pc := 52) hX 0 6 rfl rfl rfl (jx_vX ((jx_cpc (by decide)).trans ((jx_cpc (by decide)).trans ((jx_cpc (by decide)).trans ((jx_cpc (by decide)).trans ((jx_cpc (by decide)).trans (jx_cpc (by decide))))))) ?_)
  refine jk_put (pc := 53) hX 0 6 rfl rfl rfl ?_
  exact jk_vret (pc := 54) hX rfl h
set_option maxHeartbeats 4000000 in
theorem bk_D_copyFrom_b4_0 {d : Nat} {K : jxK} {X : jxX} (hX : jx_clo jx_G1 (d + 1) (jx_call jx_G1 jx_T (d + 1)) kc_D_copyFrom K X) (M : jxM)
    (h : K none (jx_up (jx_cp (jx_cp (jx_cp (jx_cp (jx_cp (jx_cp M 63 0 6 0 120) 64 0 7 0 20) 65 0 8 0 20) 66 0 9 0 20) 67 0 10 0 20) 68 0 11 0 20) 5 6 (M 62 6))) :
    X 0 [.inr 5, .inr 62] [] M := by
  refine jk_aload (pc := 0) hX 1 rfl rfl ?_
  refine jk_getR (pc := 1) hX 0 0 rfl rfl (r := 62) rfl ?_
  refine jk_const (pc := 2) hX 0 rfl (by decide) ?_
  refine jk_aload (pc := 3) hX 0 rfl rfl ?_
  refine jk_getR (pc := 4) hX 0 0 rfl rfl (r := 5) rfl ?_
  refine jk_const (pc := 5) hX 0 rfl (by decide) ?_
  refine jk_aload (pc := 6) hX 0 rfl rfl ?_
  refine jk_getR (pc := 7) hX 0 0 rfl rfl (r := 5) rfl ?_
  refine jk_alen (pc := 8) hX 120 rfl rfl ?_
  refine jk_copy (pc := 9) hX 120 120 rfl (by omega) (Nat.le_of_ble_eq_true rfl) rfl rfl (by decide) ?_
  refine jk_aload (pc := 10) hX 1 rfl rfl ?_
  refine jk_getR (pc := 11) hX 0 1 rfl rfl (r := 63) rfl ?_
  refine jk_const (pc := 12) hX 0 rfl (by decide) ?_
  refine jk_aload (pc := 13) hX 0 rfl rfl ?_
  refine jk_getR (pc := 14) hX 0 1 rfl rfl (r := 6) rfl ?_
  refine jk_const (pc := 15) hX 0 rfl (by decide) ?_
  refine jk_const (pc := 16) hX 20 rfl (by decide) ?_
  refine jk_copy (pc := 17) hX 20 20 rfl (by omega) (Nat.le_of_ble_eq_true rfl) rfl rfl (by decide) ?_
  refine jk_aload (pc := 18) hX 1 rfl rfl ?_
  refine jk_getR (pc := 19) hX 0 2 rfl rfl (r := 64) rfl ?_
  refine jk_const (pc := 20) hX 0 rfl (by decide) ?_
  refine jk_aload (pc := 21) hX 0 rfl rfl ?_
  refine jk_getR (pc := 22) hX 0 2 rfl rfl (r := 7) rfl ?_
  refine jk_const (pc := 23) hX 0 rfl (by decide) ?_
  refine jk_const (pc := 24) hX 20 rfl (by decide) ?_
  refine jk_copy (pc := 25) hX 20 20 rfl (by omega) (Nat.le_of_ble_eq_true rfl) rfl rfl (by decide) ?_
  refine jk_aload (pc := 26) hX 1 rfl rfl ?_
  refine jk_getR (pc := 27) hX 0 3 rfl rfl (r := 65) rfl ?_
  refine jk_const (pc := 28) hX 0 rfl (by decide) ?_
  refine jk_aload (pc := 29) hX 0 rfl rfl ?_
  refine jk_getR (pc := 30) hX 0 3 rfl rfl (r := 8) rfl ?_
  refine jk_const (pc := 31) hX 0 rfl (by decide) ?_
  refine jk_const (pc := 32) hX 20 rfl (by decide) ?_
  refine jk_copy (pc := 33) hX 20 20 rfl (by omega) (Nat.le_of_ble_eq_true rfl) rfl rfl (by decide) ?_
  refine jk_aload (pc := 34) hX 1 rfl rfl ?_
  refine jk_getR (pc := 35) hX 0 4 rfl rfl (r := 66) rfl ?_
  refine jk_const (pc := 36) hX 0 rfl (by decide) ?_
  refine jk_aload (pc := 37) hX 0 rfl rfl ?_
  refine jk_getR (pc := 38) hX 0 4 rfl rfl (r := 9) rfl ?_
  refine jk_const (pc := 39) hX 0 rfl (by decide) ?_
  refine jk_const (pc := 40) hX 20 rfl (by decide) ?_
  refine jk_copy (pc := 41) hX 20 20 rfl (by omega) (Nat.le_of_ble_eq_true rfl) rfl rfl (by decide) ?_
  refine jk_aload (pc := 42) hX 1 rfl rfl ?_
  refine jk_getR (pc := 43) hX 0 5 rfl rfl (r := 67) rfl ?_
  refine jk_const (pc := 44) hX 0 rfl (by decide) ?_
  refine jk_aload (pc := 45) hX 0 rfl rfl ?_
  refine jk_getR (pc := 46) hX 0 5 rfl rfl (r := 10) rfl ?_
  refine jk_const (pc := 47) hX 0 rfl (by decide) ?_
  refine jk_const (pc := 48) hX 20 rfl (by decide) ?_
  refine jk_copy (pc := 49) hX 20 20 rfl (by omega) (Nat.le_of_ble_eq_true rfl) rfl rfl (by decide) ?_
  refine jk_aload (pc := 50) hX 0 rfl rfl ?_
  refine jk_aload (pc := 51) hX 1 rfl rfl ?_
  refine jk_getI (pc := 52) hX 0 6 rfl rfl rfl (jx_vX ((jx_cpc (by decide)).trans ((jx_cpc (by decide)).trans ((jx_cpc (by decide)).trans ((jx_cpc (by decide)).trans ((jx_cpc (by decide)).trans (jx_cpc (by decide))))))) ?_)
  refine jk_put (pc := 53) hX 0 6 rfl rfl rfl ?_
  exact jk_vret (pc := 54) hX rfl h
set_option maxHeartbeats 4000000 in
theorem bk_M_copyFrom_k4_0 {d : Nat} {K : jxK} {X : jxX} (hX : jx_clo jx_G1 (d + 2) (jx_call jx_G1 jx_T (d + 2)) kc_M_copyFrom K X) (M : jxM)
    (h : jx_call jx_G1 jx_T (d + 2) 0 [.inr 62, .inr 5] M (fun r M2 => r = none ∧ K none (jx_up (jx_up (jx_cp (jx_cp (jx_cp M2 12 0 69 0 49) 13 0 70 0 16) 14 0 71 0 17) 61 4 (M2 4 4)) 61 5 (M2 4 5)))) :
    X 0 [.inr 61, .inr 4] [] M := by
  refine jk_aload (pc := 0) hX 0 rfl rfl ?_
  refine jk_getR (pc := 1) hX 3 0 rfl rfl (r := 61) rfl ?_
  refine jk_aload (pc := 2) hX 1 rfl rfl ?_
  refine jk_getR (pc := 3) hX 3 0 rfl rfl (r := 4) rfl ?_
  refine jk_cv (pc := 4) hX 0 1 0 rfl 62 [.inr 5] [] rfl rfl rfl (Nat.le_of_ble_eq_true rfl) (jx_mono (fun r M2 hr => ?_) h)
  obtain ⟨rfl, h3⟩ := hr
  show X 5 [.inr 61, .inr 4] [] M2
  refine jk_aload (pc := 5) hX 1 rfl rfl ?_
  refine jk_getR (pc := 6) hX 3 1 rfl rfl (r := 11) rfl ?_
  refine jk_const (pc := 7) hX 0 rfl (by decide) ?_
  refine jk_aload (pc := 8) hX 0 rfl rfl ?_
  refine jk_getR (pc := 9) hX 3 1 rfl rfl (r := 68) rfl ?_
  refine jk_const (pc := 10) hX 0 rfl (by decide) ?_
  refine jk_aload (pc := 11) hX 0 rfl rfl ?_
  refine jk_getR (pc := 12) hX 3 1 rfl rfl (r := 68) rfl ?_
  refine jk_alen (pc := 13) hX 49 rfl rfl ?_
  refine jk_copy (pc := 14) hX 49 49 rfl (by omega) (Nat.le_of_ble_eq_true rfl) rfl rfl (by decide) ?_
  refine jk_aload (pc := 15) hX 1 rfl rfl ?_
  refine jk_getR (pc := 16) hX 3 2 rfl rfl (r := 12) rfl ?_
  refine jk_const (pc := 17) hX 0 rfl (by decide) ?_
  refine jk_aload (pc := 18) hX 0 rfl rfl ?_
  refine jk_getR (pc := 19) hX 3 2 rfl rfl (r := 69) rfl ?_
  refine jk_const (pc := 20) hX 0 rfl (by decide) ?_
  refine jk_const (pc := 21) hX 16 rfl (by decide) ?_
  refine jk_copy (pc := 22) hX 16 16 rfl (by omega) (Nat.le_of_ble_eq_true rfl) rfl rfl (by decide) ?_
  refine jk_aload (pc := 23) hX 1 rfl rfl ?_
  refine jk_getR (pc := 24) hX 3 3 rfl rfl (r := 13) rfl ?_
  refine jk_const (pc := 25) hX 0 rfl (by decide) ?_
  refine jk_aload (pc := 26) hX 0 rfl rfl ?_
  refine jk_getR (pc := 27) hX 3 3 rfl rfl (r := 70) rfl ?_
  refine jk_const (pc := 28) hX 0 rfl (by decide) ?_
  refine jk_const (pc := 29) hX 17 rfl (by decide) ?_
  refine jk_copy (pc := 30) hX 17 17 rfl (by omega) (Nat.le_of_ble_eq_true rfl) rfl rfl (by decide) ?_
  refine jk_aload (pc := 31) hX 0 rfl rfl ?_
  refine jk_aload (pc := 32) hX 1 rfl rfl ?_
  refine jk_getI (pc := 33) hX 3 4 rfl rfl rfl (jx_vX ((jx_cpc (by decide)).trans ((jx_cpc (by decide)).trans (jx_cpc (by decide)))) ?_)
  refine jk_put (pc := 34) hX 3 4 rfl rfl rfl ?_
  refine jk_aload (pc := 35) hX 0 rfl rfl ?_
  refine jk_aload (pc := 36) hX 1 rfl rfl ?_
  refine jk_getI (pc := 37) hX 3 5 rfl rfl rfl (jx_vX ((jx_upc (by decide)).trans ((jx_cpc (by decide)).trans ((jx_cpc (by decide)).trans (jx_cpc (by decide))))) ?_)
  refine jk_put (pc := 38) hX 3 5 rfl rfl rfl ?_
  exact jk_vret (pc := 39) hX rfl h3
set_option maxHeartbeats 4000000 in
theorem bk_M_copyFrom_b4_0 {d : Nat} {K : jxK} {X : jxX} (hX : jx_clo jx_G1 (d + 2) (jx_call jx_G1 jx_T (d + 2)) kc_M_copyFrom K X) (M : jxM)
    (h : jx_call jx_G1 jx_T (d + 2) 0 [.inr 5, .inr 62] M (fun r M2 => r = none ∧ K none (jx_up (jx_up (jx_cp (jx_cp (jx_cp M2 69 0 12 0 49) 70 0 13 0 16) 71 0 14 0 17) 4 4 (M2 61 4)) 4 5 (M2 61 5)))) :
    X 0 [.inr 4, .inr 61] [] M := by
  refine jk_aload (pc := 0) hX 0 rfl rfl ?_
  refine jk_getR (pc := 1) hX 3 0 rfl rfl (r := 4) rfl ?_
  refine jk_aload (pc := 2) hX 1 rfl rfl ?_
  refine jk_getR (pc := 3) hX 3 0 rfl rfl (r := 61) rfl ?_
  refine jk_cv (pc := 4) hX 0 1 0 rfl 5 [.inr 62] [] rfl rfl rfl (Nat.le_of_ble_eq_true rfl) (jx_mono (fun r M2 hr => ?_) h)
  obtain ⟨rfl, h3⟩ := hr
  show X 5 [.inr 4, .inr 61] [] M2
  refine jk_aload (pc := 5) hX 1 rfl rfl ?_
  refine jk_getR (pc := 6) hX 3 1 rfl rfl (r := 68) rfl ?_
  refine jk_const (pc := 7) hX 0 rfl (by decide) ?_
  refine jk_aload (pc := 8) hX 0 rfl rfl ?_
  refine jk_getR (pc := 9) hX 3 1 rfl rfl (r := 11) rfl ?_
  refine jk_const (pc := 10) hX 0 rfl (by decide) ?_
  refine jk_aload (pc := 11) hX 0 rfl rfl ?_
  refine jk_getR (pc := 12) hX 3 1 rfl rfl (r := 11) rfl ?_
  refine jk_alen (pc := 13) hX 49 rfl rfl ?_
  refine jk_copy (pc := 14) hX 49 49 rfl (by omega) (Nat.le_of_ble_eq_true rfl) rfl rfl (by decide) ?_
  refine jk_aload (pc := 15) hX 1 rfl rfl ?_
  refine jk_getR (pc := 16) hX 3 2 rfl rfl (r := 69) rfl ?_
  refine jk_const (pc := 17) hX 0 rfl (by decide) ?_
  refine jk_aload (pc := 18) hX 0 rfl rfl ?_
  refine jk_getR (pc := 19) hX 3 2 rfl rfl (r := 12) rfl ?_
  refine jk_const (pc := 20) hX 0 rfl (by decide) ?_
  refine jk_const (pc := 21) hX 16 rfl (by decide) ?_
  refine jk_copy (pc := 22) hX 16 16 rfl (by omega) (Nat.le_of_ble_eq_true rfl) rfl rfl (by decide) ?_
  refine jk_aload (pc := 23) hX 1 rfl rfl ?_
  refine jk_getR (pc := 24) hX 3 3 rfl rfl (r := 70) rfl ?_
  refine jk_const (pc := 25) hX 0 rfl (by decide) ?_
  refine jk_aload (pc := 26) hX 0 rfl rfl ?_
  refine jk_getR (pc := 27) hX 3 3 rfl rfl (r := 13) rfl ?_
  refine jk_const (pc := 28) hX 0 rfl (by decide) ?_
  refine jk_const (pc := 29) hX 17 rfl (by decide) ?_
  refine jk_copy (pc := 30) hX 17 17 rfl (by omega) (Nat.le_of_ble_eq_true rfl) rfl rfl (by decide) ?_
  refine jk_aload (pc := 31) hX 0 rfl rfl ?_
  refine jk_aload (pc := 32) hX 1 rfl rfl ?_
  refine jk_getI (pc := 33) hX 3 4 rfl rfl rfl (jx_vX ((jx_cpc (by decide)).trans ((jx_cpc (by decide)).trans (jx_cpc (by decide)))) ?_)
  refine jk_put (pc := 34) hX 3 4 rfl rfl rfl ?_
  refine jk_aload (pc := 35) hX 0 rfl rfl ?_
  refine jk_aload (pc := 36) hX 1 rfl rfl ?_
  refine jk_getI (pc := 37) hX 3 5 rfl rfl rfl (jx_vX ((jx_upc (by decide)).trans ((jx_cpc (by decide)).trans ((jx_cpc (by decide)).trans (jx_cpc (by decide))))) ?_)
  refine jk_put (pc := 38) hX 3 5 rfl rfl rfl ?_
  exact jk_vret (pc := 39) hX rfl h3
set_option maxHeartbeats 4000000 in
theorem bk_D_copyFrom_k5_0 {d : Nat} {K : jxK} {X : jxX} (hX : jx_clo jx_G1 (d + 1) (jx_call jx_G1 jx_T (d + 1)) kc_D_copyFrom K X) (M : jxM)
    (h : K none (jx_up (jx_cp (jx_cp (jx_cp (jx_cp (jx_cp (jx_cp M 6 0 74 0 120) 7 0 75 0 20) 8 0 76 0 20) 9 0 77 0 20) 10 0 78 0 20) 11 0 79 0 20) 73 6 (M 5 6))) :
    X 0 [.inr 73, .inr 5] [] M := by
  refine jk_aload (pc := 0) hX 1 rfl rfl ?_
  refine jk_getR (pc := 1) hX 0 0 rfl rfl (r := 5) rfl ?_
  refine jk_const (pc := 2) hX 0 rfl (by decide) ?_
  refine jk_aload (pc := 3) hX 0 rfl rfl ?_
  refine jk_getR (pc := 4) hX 0 0 rfl rfl (r := 73) rfl ?_
  refine jk_const (pc := 5) hX 0 rfl (by decide) ?_
  refine jk_aload (pc := 6) hX 0 rfl rfl ?_
  refine jk_getR (pc := 7) hX 0 0 rfl rfl (r := 73) rfl ?_
  refine jk_alen (pc := 8) hX 120 rfl rfl ?_
  refine jk_copy (pc := 9) hX 120 120 rfl (by omega) (Nat.le_of_ble_eq_true rfl) rfl rfl (by decide) ?_
  refine jk_aload (pc := 10) hX 1 rfl rfl ?_
  refine jk_getR (pc := 11) hX 0 1 rfl rfl (r := 6) rfl ?_
  refine jk_const (pc := 12) hX 0 rfl (by decide) ?_
  refine jk_aload (pc := 13) hX 0 rfl rfl ?_
  refine jk_getR (pc := 14) hX 0 1 rfl rfl (r := 74) rfl ?_
  refine jk_const (pc := 15) hX 0 rfl (by decide) ?_
  refine jk_const (pc := 16) hX 20 rfl (by decide) ?_
  refine jk_copy (pc := 17) hX 20 20 rfl (by omega) (Nat.le_of_ble_eq_true rfl) rfl rfl (by decide) ?_
  refine jk_aload (pc := 18) hX 1 rfl rfl ?_
  refine jk_getR (pc := 19) hX 0 2 rfl rfl (r := 7) rfl ?_
  refine jk_const (pc := 20) hX 0 rfl (by decide) ?_
  refine jk_aload (pc := 21) hX 0 rfl rfl ?_
  refine jk_getR (pc := 22) hX 0 2 rfl rfl (r := 75) rfl ?_
  refine jk_const (pc := 23) hX 0 rfl (by decide) ?_
  refine jk_const (pc := 24) hX 20 rfl (by decide) ?_
  refine jk_copy (pc := 25) hX 20 20 rfl (by omega) (Nat.le_of_ble_eq_true rfl) rfl rfl (by decide) ?_
  refine jk_aload (pc := 26) hX 1 rfl rfl ?_
  refine jk_getR (pc := 27) hX 0 3 rfl rfl (r := 8) rfl ?_
  refine jk_const (pc := 28) hX 0 rfl (by decide) ?_
  refine jk_aload (pc := 29) hX 0 rfl rfl ?_
  refine jk_getR (pc := 30) hX 0 3 rfl rfl (r := 76) rfl ?_
  refine jk_const (pc := 31) hX 0 rfl (by decide) ?_
  refine jk_const (pc := 32) hX 20 rfl (by decide) ?_
  refine jk_copy (pc := 33) hX 20 20 rfl (by omega) (Nat.le_of_ble_eq_true rfl) rfl rfl (by decide) ?_
  refine jk_aload (pc := 34) hX 1 rfl rfl ?_
  refine jk_getR (pc := 35) hX 0 4 rfl rfl (r := 9) rfl ?_
  refine jk_const (pc := 36) hX 0 rfl (by decide) ?_
  refine jk_aload (pc := 37) hX 0 rfl rfl ?_
  refine jk_getR (pc := 38) hX 0 4 rfl rfl (r := 77) rfl ?_
  refine jk_const (pc := 39) hX 0 rfl (by decide) ?_
  refine jk_const (pc := 40) hX 20 rfl (by decide) ?_
  refine jk_copy (pc := 41) hX 20 20 rfl (by omega) (Nat.le_of_ble_eq_true rfl) rfl rfl (by decide) ?_
  refine jk_aload (pc := 42) hX 1 rfl rfl ?_
  refine jk_getR (pc := 43) hX 0 5 rfl rfl (r := 10) rfl ?_
  refine jk_const (pc := 44) hX 0 rfl (by decide) ?_
  refine jk_aload (pc := 45) hX 0 rfl rfl ?_
  refine jk_getR (pc := 46) hX 0 5 rfl rfl (r := 78) rfl ?_
  refine jk_const (pc := 47) hX 0 rfl (by decide) ?_
  refine jk_const (pc := 48) hX 20 rfl (by decide) ?_
  refine jk_copy (pc := 49) hX 20 20 rfl (by omega) (Nat.le_of_ble_eq_true rfl) rfl rfl (by decide) ?_
  refine jk_aload (pc := 50) hX 0 rfl rfl ?_
  refine jk_aload (pc := 51) hX 1 rfl rfl ?_
  refine jk_getI (pc := 52) hX 0 6 rfl rfl rfl (jx_vX ((jx_cpc (by decide)).trans ((jx_cpc (by decide)).trans ((jx_cpc (by decide)).trans ((jx_cpc (by decide)).trans ((jx_cpc (by decide)).trans (jx_cpc (by decide))))))) ?_)
  refine jk_put (pc := 53) hX 0 6 rfl rfl rfl ?_
  exact jk_vret (pc := 54) hX rfl h
set_option maxHeartbeats 4000000 in
theorem bk_D_copyFrom_b5_0 {d : Nat} {K : jxK} {X : jxX} (hX : jx_clo jx_G1 (d + 1) (jx_call jx_G1 jx_T (d + 1)) kc_D_copyFrom K X) (M : jxM)
    (h : K none (jx_up (jx_cp (jx_cp (jx_cp (jx_cp (jx_cp (jx_cp M 74 0 6 0 120) 75 0 7 0 20) 76 0 8 0 20) 77 0 9 0 20) 78 0 10 0 20) 79 0 11 0 20) 5 6 (M 73 6))) :
    X 0 [.inr 5, .inr 73] [] M := by
  refine jk_aload (pc := 0) hX 1 rfl rfl ?_
  refine jk_getR (pc := 1) hX 0 0 rfl rfl (r := 73) rfl ?_
  refine jk_const (pc := 2) hX 0 rfl (by decide) ?_
  refine jk_aload (pc := 3) hX 0 rfl rfl ?_
  refine jk_getR (pc := 4) hX 0 0 rfl rfl (r := 5) rfl ?_
  refine jk_const (pc := 5) hX 0 rfl (by decide) ?_
  refine jk_aload (pc := 6) hX 0 rfl rfl ?_
  refine jk_getR (pc := 7) hX 0 0 rfl rfl (r := 5) rfl ?_
  refine jk_alen (pc := 8) hX 120 rfl rfl ?_
  refine jk_copy (pc := 9) hX 120 120 rfl (by omega) (Nat.le_of_ble_eq_true rfl) rfl rfl (by decide) ?_
  refine jk_aload (pc := 10) hX 1 rfl rfl ?_
  refine jk_getR (pc := 11) hX 0 1 rfl rfl (r := 74) rfl ?_
  refine jk_const (pc := 12) hX 0 rfl (by decide) ?_
  refine jk_aload (pc := 13) hX 0 rfl rfl ?_
  refine jk_getR (pc := 14) hX 0 1 rfl rfl (r := 6) rfl ?_
  refine jk_const (pc := 15) hX 0 rfl (by decide) ?_
  refine jk_const (pc := 16) hX 20 rfl (by decide) ?_
  refine jk_copy (pc := 17) hX 20 20 rfl (by omega) (Nat.le_of_ble_eq_true rfl) rfl rfl (by decide) ?_
  refine jk_aload (pc := 18) hX 1 rfl rfl ?_
  refine jk_getR (pc := 19) hX 0 2 rfl rfl (r := 75) rfl ?_
  refine jk_const (pc := 20) hX 0 rfl (by decide) ?_
  refine jk_aload (pc := 21) hX 0 rfl rfl ?_
  refine jk_getR (pc := 22) hX 0 2 rfl rfl (r := 7) rfl ?_
  refine jk_const (pc := 23) hX 0 rfl (by decide) ?_
  refine jk_const (pc := 24) hX 20 rfl (by decide) ?_
  refine jk_copy (pc := 25) hX 20 20 rfl (by omega) (Nat.le_of_ble_eq_true rfl) rfl rfl (by decide) ?_
  refine jk_aload (pc := 26) hX 1 rfl rfl ?_
  refine jk_getR (pc := 27) hX 0 3 rfl rfl (r := 76) rfl ?_
  refine jk_const (pc := 28) hX 0 rfl (by decide) ?_
  refine jk_aload (pc := 29) hX 0 rfl rfl ?_
  refine jk_getR (pc := 30) hX 0 3 rfl rfl (r := 8) rfl ?_
  refine jk_const (pc := 31) hX 0 rfl (by decide) ?_
  refine jk_const (pc := 32) hX 20 rfl (by decide) ?_
  refine jk_copy (pc := 33) hX 20 20 rfl (by omega) (Nat.le_of_ble_eq_true rfl) rfl rfl (by decide) ?_
  refine jk_aload (pc := 34) hX 1 rfl rfl ?_
  refine jk_getR (pc := 35) hX 0 4 rfl rfl (r := 77) rfl ?_
  refine jk_const (pc := 36) hX 0 rfl (by decide) ?_
  refine jk_aload (pc := 37) hX 0 rfl rfl ?_
  refine jk_getR (pc := 38) hX 0 4 rfl rfl (r := 9) rfl ?_
  refine jk_const (pc := 39) hX 0 rfl (by decide) ?_
  refine jk_const (pc := 40) hX 20 rfl (by decide) ?_
  refine jk_copy (pc := 41) hX 20 20 rfl (by omega) (Nat.le_of_ble_eq_true rfl) rfl rfl (by decide) ?_
  refine jk_aload (pc := 42) hX 1 rfl rfl ?_
  refine jk_getR (pc := 43) hX 0 5 rfl rfl (r := 78) rfl ?_
  refine jk_const (pc := 44) hX 0 rfl (by decide) ?_
  refine jk_aload (pc := 45) hX 0 rfl rfl ?_
  refine jk_getR (pc := 46) hX 0 5 rfl rfl (r := 10) rfl ?_
  refine jk_const (pc := 47) hX 0 rfl (by decide) ?_
  refine jk_const (pc := 48) hX 20 rfl (by decide) ?_
  refine jk_copy (pc := 49) hX 20 20 rfl (by omega) (Nat.le_of_ble_eq_true rfl) rfl rfl (by decide) ?_
  refine jk_aload (pc := 50) hX 0 rfl rfl ?_
  refine jk_aload (pc := 51) hX 1 rfl rfl ?_
  refine jk_getI (pc := 52) hX 0 6 rfl rfl rfl (jx_vX ((jx_cpc (by decide)).trans ((jx_cpc (by decide)).trans ((jx_cpc (by decide)).trans ((jx_cpc (by decide)).trans ((jx_cpc (by decide)).trans (jx_cpc (by decide))))))) ?_)
  refine jk_put (pc := 53) hX 0 6 rfl rfl rfl ?_
  exact jk_vret (pc := 54) hX rfl h
set_option maxHeartbeats 4000000 in
theorem bk_M_copyFrom_k5_0 {d : Nat} {K : jxK} {X : jxX} (hX : jx_clo jx_G1 (d + 2) (jx_call jx_G1 jx_T (d + 2)) kc_M_copyFrom K X) (M : jxM)
    (h : jx_call jx_G1 jx_T (d + 2) 0 [.inr 73, .inr 5] M (fun r M2 => r = none ∧ K none (jx_up (jx_up (jx_cp (jx_cp (jx_cp M2 12 0 80 0 49) 13 0 81 0 16) 14 0 82 0 17) 72 4 (M2 4 4)) 72 5 (M2 4 5)))) :
    X 0 [.inr 72, .inr 4] [] M := by
  refine jk_aload (pc := 0) hX 0 rfl rfl ?_
  refine jk_getR (pc := 1) hX 3 0 rfl rfl (r := 72) rfl ?_
  refine jk_aload (pc := 2) hX 1 rfl rfl ?_
  refine jk_getR (pc := 3) hX 3 0 rfl rfl (r := 4) rfl ?_
  refine jk_cv (pc := 4) hX 0 1 0 rfl 73 [.inr 5] [] rfl rfl rfl (Nat.le_of_ble_eq_true rfl) (jx_mono (fun r M2 hr => ?_) h)
  obtain ⟨rfl, h3⟩ := hr
  show X 5 [.inr 72, .inr 4] [] M2
  refine jk_aload (pc := 5) hX 1 rfl rfl ?_
  refine jk_getR (pc := 6) hX 3 1 rfl rfl (r := 11) rfl ?_
  refine jk_const (pc := 7) hX 0 rfl (by decide) ?_
  refine jk_aload (pc := 8) hX 0 rfl rfl ?_
  refine jk_getR (pc := 9) hX 3 1 rfl rfl (r := 79) rfl ?_
  refine jk_const (pc := 10) hX 0 rfl (by decide) ?_
  refine jk_aload (pc := 11) hX 0 rfl rfl ?_
  refine jk_getR (pc := 12) hX 3 1 rfl rfl (r := 79) rfl ?_
  refine jk_alen (pc := 13) hX 49 rfl rfl ?_
  refine jk_copy (pc := 14) hX 49 49 rfl (by omega) (Nat.le_of_ble_eq_true rfl) rfl rfl (by decide) ?_
  refine jk_aload (pc := 15) hX 1 rfl rfl ?_
  refine jk_getR (pc := 16) hX 3 2 rfl rfl (r := 12) rfl ?_
  refine jk_const (pc := 17) hX 0 rfl (by decide) ?_
  refine jk_aload (pc := 18) hX 0 rfl rfl ?_
  refine jk_getR (pc := 19) hX 3 2 rfl rfl (r := 80) rfl ?_
  refine jk_const (pc := 20) hX 0 rfl (by decide) ?_
  refine jk_const (pc := 21) hX 16 rfl (by decide) ?_
  refine jk_copy (pc := 22) hX 16 16 rfl (by omega) (Nat.le_of_ble_eq_true rfl) rfl rfl (by decide) ?_
  refine jk_aload (pc := 23) hX 1 rfl rfl ?_
  refine jk_getR (pc := 24) hX 3 3 rfl rfl (r := 13) rfl ?_
  refine jk_const (pc := 25) hX 0 rfl (by decide) ?_
  refine jk_aload (pc := 26) hX 0 rfl rfl ?_
  refine jk_getR (pc := 27) hX 3 3 rfl rfl (r := 81) rfl ?_
  refine jk_const (pc := 28) hX 0 rfl (by decide) ?_
  refine jk_const (pc := 29) hX 17 rfl (by decide) ?_
  refine jk_copy (pc := 30) hX 17 17 rfl (by omega) (Nat.le_of_ble_eq_true rfl) rfl rfl (by decide) ?_
  refine jk_aload (pc := 31) hX 0 rfl rfl ?_
  refine jk_aload (pc := 32) hX 1 rfl rfl ?_
  refine jk_getI (pc := 33) hX 3 4 rfl rfl rfl (jx_vX ((jx_cpc (by decide)).trans ((jx_cpc (by decide)).trans (jx_cpc (by decide)))) ?_)
  refine jk_put (pc := 34) hX 3 4 rfl rfl rfl ?_
  refine jk_aload (pc := 35) hX 0 rfl rfl ?_
  refine jk_aload (pc := 36) hX 1 rfl rfl ?_
  refine jk_getI (pc := 37) hX 3 5 rfl rfl rfl (jx_vX ((jx_upc (by decide)).trans ((jx_cpc (by decide)).trans ((jx_cpc (by decide)).trans (jx_cpc (by decide))))) ?_)
  refine jk_put (pc := 38) hX 3 5 rfl rfl rfl ?_
  exact jk_vret (pc := 39) hX rfl h3
set_option maxHeartbeats 4000000 in
theorem bk_M_copyFrom_b5_0 {d : Nat} {K : jxK} {X : jxX} (hX : jx_clo jx_G1 (d + 2) (jx_call jx_G1 jx_T (d + 2)) kc_M_copyFrom K X) (M : jxM)
    (h : jx_call jx_G1 jx_T (d + 2) 0 [.inr 5, .inr 73] M (fun r M2 => r = none ∧ K none (jx_up (jx_up (jx_cp (jx_cp (jx_cp M2 80 0 12 0 49) 81 0 13 0 16) 82 0 14 0 17) 4 4 (M2 72 4)) 4 5 (M2 72 5)))) :
    X 0 [.inr 4, .inr 72] [] M := by
  refine jk_aload (pc := 0) hX 0 rfl rfl ?_
  refine jk_getR (pc := 1) hX 3 0 rfl rfl (r := 4) rfl ?_
  refine jk_aload (pc := 2) hX 1 rfl rfl ?_
  refine jk_getR (pc := 3) hX 3 0 rfl rfl (r := 72) rfl ?_
  refine jk_cv (pc := 4) hX 0 1 0 rfl 5 [.inr 73] [] rfl rfl rfl (Nat.le_of_ble_eq_true rfl) (jx_mono (fun r M2 hr => ?_) h)
  obtain ⟨rfl, h3⟩ := hr
  show X 5 [.inr 4, .inr 72] [] M2
  refine jk_aload (pc := 5) hX 1 rfl rfl ?_
  refine jk_getR (pc := 6) hX 3 1 rfl rfl (r := 79) rfl ?_
  refine jk_const (pc := 7) hX 0 rfl (by decide) ?_
  refine jk_aload (pc := 8) hX 0 rfl rfl ?_
  refine jk_getR (pc := 9) hX 3 1 rfl rfl (r := 11) rfl ?_
  refine jk_const (pc := 10) hX 0 rfl (by decide) ?_
  refine jk_aload (pc := 11) hX 0 rfl rfl ?_
  refine jk_getR (pc := 12) hX 3 1 rfl rfl (r := 11) rfl ?_
  refine jk_alen (pc := 13) hX 49 rfl rfl ?_
  refine jk_copy (pc := 14) hX 49 49 rfl (by omega) (Nat.le_of_ble_eq_true rfl) rfl rfl (by decide) ?_
  refine jk_aload (pc := 15) hX 1 rfl rfl ?_
  refine jk_getR (pc := 16) hX 3 2 rfl rfl (r := 80) rfl ?_
  refine jk_const (pc := 17) hX 0 rfl (by decide) ?_
  refine jk_aload (pc := 18) hX 0 rfl rfl ?_
  refine jk_getR (pc := 19) hX 3 2 rfl rfl (r := 12) rfl ?_
  refine jk_const (pc := 20) hX 0 rfl (by decide) ?_
  refine jk_const (pc := 21) hX 16 rfl (by decide) ?_
  refine jk_copy (pc := 22) hX 16 16 rfl (by omega) (Nat.le_of_ble_eq_true rfl) rfl rfl (by decide) ?_
  refine jk_aload (pc := 23) hX 1 rfl rfl ?_
  refine jk_getR (pc := 24) hX 3 3 rfl rfl (r := 81) rfl ?_
  refine jk_const (pc := 25) hX 0 rfl (by decide) ?_
  refine jk_aload (pc := 26) hX 0 rfl rfl ?_
  refine jk_getR (pc := 27) hX 3 3 rfl rfl (r := 13) rfl ?_
  refine jk_const (pc := 28) hX 0 rfl (by decide) ?_
  refine jk_const (pc := 29) hX 17 rfl (by decide) ?_
  refine jk_copy (pc := 30) hX 17 17 rfl (by omega) (Nat.le_of_ble_eq_true rfl) rfl rfl (by decide) ?_
  refine jk_aload (pc := 31) hX 0 rfl rfl ?_
  refine jk_aload (pc := 32) hX 1 rfl rfl ?_
  refine jk_getI (pc := 33) hX 3 4 rfl rfl rfl (jx_vX ((jx_cpc (by decide)).trans ((jx_cpc (by decide)).trans (jx_cpc (by decide)))) ?_)
  refine jk_put (pc := 34) hX 3 4 rfl rfl rfl ?_
  refine jk_aload (pc := 35) hX 0 rfl rfl ?_
  refine jk_aload (pc := 36) hX 1 rfl rfl ?_
  refine jk_getI (pc := 37) hX 3 5 rfl rfl rfl (jx_vX ((jx_upc (by decide)).trans ((jx_cpc (by decide)).trans ((jx_cpc (by decide)).trans (jx_cpc (by decide))))) ?_)
  refine jk_put (pc := 38) hX 3 5 rfl rfl rfl ?_
  exact jk_vret (pc := 39) hX rfl h3
set_option maxHeartbeats 4000000 in
theorem bk_H_keep_0 {d : Nat} {K : jxK} {X : jxX} (hX : jx_clo jx_G1 (d + 3) (jx_call jx_G1 jx_T (d + 3)) kc_H_keep K X) (M : jxM)
    (h : ((0 ≤ (M 15 1) ∧ (M 15 1) < 6)) ∧ (((M 15 1) = 0 → jx_call jx_G1 jx_T (d + 3) 16 [.inr 17, .inr 4] M (fun r M9 => r = none ∧ (((M9 15 1) ≠ 5 → (((-2147483648 : Int) ≤ (M9 15 1) + 1 ∧ (M9 15 1) + 1 ≤ 2147483647) ∧ ((-2147483648 : Int) ≤ (M9 15 2) + 1 ∧ (M9 15 2) + 1 ≤ 2147483647)) ∧ K none (jx_up (jx_up M9 15 1 ((M9 15 1) + 1)) 15 2 (min ((M9 15 2) + 1) 6))) ∧ ((M9 15 1) = 5 → (((-2147483648 : Int) ≤ (M9 15 2) + 1 ∧ (M9 15 2) + 1 ≤ 2147483647)) ∧ K none (jx_up (jx_up M9 15 1 0) 15 2 (min ((M9 15 2) + 1) 6)))))) ∧ ((M 15 1) = 1 → jx_call jx_G1 jx_T (d + 3) 16 [.inr 28, .inr 4] M (fun r M21 => r = none ∧ (((M21 15 1) ≠ 5 → (((-2147483648 : Int) ≤ (M21 15 1) + 1 ∧ (M21 15 1) + 1 ≤ 2147483647) ∧ ((-2147483648 : Int) ≤ (M21 15 2) + 1 ∧ (M21 15 2) + 1 ≤ 2147483647)) ∧ K none (jx_up (jx_up M21 15 1 ((M21 15 1) + 1)) 15 2 (min ((M21 15 2) + 1) 6))) ∧ ((M21 15 1) = 5 → (((-2147483648 : Int) ≤ (M21 15 2) + 1 ∧ (M21 15 2) + 1 ≤ 2147483647)) ∧ K none (jx_up (jx_up M21 15 1 0) 15 2 (min ((M21 15 2) + 1) 6)))))) ∧ ((M 15 1) = 2 → jx_call jx_G1 jx_T (d + 3) 16 [.inr 39, .inr 4] M (fun r M33 => r = none ∧ (((M33 15 1) ≠ 5 → (((-2147483648 : Int) ≤ (M33 15 1) + 1 ∧ (M33 15 1) + 1 ≤ 2147483647) ∧ ((-2147483648 : Int) ≤ (M33 15 2) + 1 ∧ (M33 15 2) + 1 ≤ 2147483647)) ∧ K none (jx_up (jx_up M33 15 1 ((M33 15 1) + 1)) 15 2 (min ((M33 15 2) + 1) 6))) ∧ ((M33 15 1) = 5 → (((-2147483648 : Int) ≤ (M33 15 2) + 1 ∧ (M33 15 2) + 1 ≤ 2147483647)) ∧ K none (jx_up (jx_up M33 15 1 0) 15 2 (min ((M33 15 2) + 1) 6)))))) ∧ ((M 15 1) = 3 → jx_call jx_G1 jx_T (d + 3) 16 [.inr 50, .inr 4] M (fun r M45 => r = none ∧ (((M45 15 1) ≠ 5 → (((-2147483648 : Int) ≤ (M45 15 1) + 1 ∧ (M45 15 1) + 1 ≤ 2147483647) ∧ ((-2147483648 : Int) ≤ (M45 15 2) + 1 ∧ (M45 15 2) + 1 ≤ 2147483647)) ∧ K none (jx_up (jx_up M45 15 1 ((M45 15 1) + 1)) 15 2 (min ((M45 15 2) + 1) 6))) ∧ ((M45 15 1) = 5 → (((-2147483648 : Int) ≤ (M45 15 2) + 1 ∧ (M45 15 2) + 1 ≤ 2147483647)) ∧ K none (jx_up (jx_up M45 15 1 0) 15 2 (min ((M45 15 2) + 1) 6)))))) ∧ ((M 15 1) = 4 → jx_call jx_G1 jx_T (d + 3) 16 [.inr 61, .inr 4] M (fun r M57 => r = none ∧ (((M57 15 1) ≠ 5 → (((-2147483648 : Int) ≤ (M57 15 1) + 1 ∧ (M57 15 1) + 1 ≤ 2147483647) ∧ ((-2147483648 : Int) ≤ (M57 15 2) + 1 ∧ (M57 15 2) + 1 ≤ 2147483647)) ∧ K none (jx_up (jx_up M57 15 1 ((M57 15 1) + 1)) 15 2 (min ((M57 15 2) + 1) 6))) ∧ ((M57 15 1) = 5 → (((-2147483648 : Int) ≤ (M57 15 2) + 1 ∧ (M57 15 2) + 1 ≤ 2147483647)) ∧ K none (jx_up (jx_up M57 15 1 0) 15 2 (min ((M57 15 2) + 1) 6)))))) ∧ ((M 15 1) = 5 → jx_call jx_G1 jx_T (d + 3) 16 [.inr 72, .inr 4] M (fun r M69 => r = none ∧ (((M69 15 1) ≠ 5 → (((-2147483648 : Int) ≤ (M69 15 1) + 1 ∧ (M69 15 1) + 1 ≤ 2147483647) ∧ ((-2147483648 : Int) ≤ (M69 15 2) + 1 ∧ (M69 15 2) + 1 ≤ 2147483647)) ∧ K none (jx_up (jx_up M69 15 1 ((M69 15 1) + 1)) 15 2 (min ((M69 15 2) + 1) 6))) ∧ ((M69 15 1) = 5 → (((-2147483648 : Int) ≤ (M69 15 2) + 1 ∧ (M69 15 2) + 1 ≤ 2147483647)) ∧ K none (jx_up (jx_up M69 15 1 0) 15 2 (min ((M69 15 2) + 1) 6)))))))) :
    X 0 [.inr 15, .inr 4, .inr 0] [] M := by
  obtain ⟨g1, h80⟩ := h
  refine jk_aload (pc := 0) hX 0 rfl rfl ?_
  refine jk_getR (pc := 1) hX 1 0 rfl rfl (r := 15) rfl ?_
  refine jk_aload (pc := 2) hX 0 rfl rfl ?_
  refine jk_getI (pc := 3) hX 1 1 rfl rfl rfl ?_
  refine jk_aald (pc := 4) hX 6 rfl rfl g1 ?_
  rcases jx_cases6 g1 with q | q | q | q | q | q
  · have h2 := h80.1 q
    refine jx_vR (show jx_G1.2 16 (Int.toNat (M 15 1)) = 17 by rw [q]; rfl) ?_
    refine jk_astore (pc := 5) hX 2 rfl (Nat.le_of_ble_eq_true rfl) (ls' := [.inr 15, .inr 4, .inr 17]) rfl ?_
    refine jk_aload (pc := 6) hX 2 rfl rfl ?_
    refine jk_ifnonnull (pc := 7) hX 9 rfl ?_
    refine jk_aload (pc := 9) hX 2 rfl rfl ?_
    refine jk_aload (pc := 10) hX 1 rfl rfl ?_
    refine jk_cv (pc := 11) hX 16 1 3 rfl 17 [.inr 4] [] rfl rfl rfl (Nat.le_of_ble_eq_true rfl) (jx_mono (fun r M9 hr => ?_) h2)
    obtain ⟨rfl, h10⟩ := hr
    show X 12 [.inr 15, .inr 4, .inr 17] [] M9
    refine jk_aload (pc := 12) hX 0 rfl rfl ?_
    refine jk_aload (pc := 13) hX 0 rfl rfl ?_
    refine jk_getI (pc := 14) hX 1 1 rfl rfl rfl ?_
    refine jk_const (pc := 15) hX 5 rfl (by decide) ?_
    refine jk_cne (pc := 16) hX 19 rfl (fun q18 => ?_) (fun q19 => ?_)
    · have h11 := h10.1 q18
      obtain ⟨⟨g13, g14⟩, h15⟩ := h11
      refine jk_aload (pc := 19) hX 0 rfl rfl ?_
      refine jk_getI (pc := 20) hX 1 1 rfl rfl rfl ?_
      refine jk_const (pc := 21) hX 1 rfl (by decide) ?_
      refine jk_add (pc := 22) hX rfl g13 ?_
      refine jk_put (pc := 23) hX 1 1 rfl rfl rfl ?_
      refine jk_aload (pc := 24) hX 0 rfl rfl ?_
      refine jk_aload (pc := 25) hX 0 rfl rfl ?_
      refine jk_getI (pc := 26) hX 1 2 rfl rfl rfl (jx_vX (jx_upx (by decide)) ?_)
      refine jk_const (pc := 27) hX 1 rfl (by decide) ?_
      refine jk_add (pc := 28) hX rfl g14 ?_
      refine jk_const (pc := 29) hX 6 rfl (by decide) ?_
      refine jk_min (pc := 30) hX rfl (by omega) (Nat.le_of_ble_eq_true rfl) ?_
      refine jk_put (pc := 31) hX 1 2 rfl rfl rfl ?_
      exact jk_vret (pc := 32) hX rfl h15
    · have h12 := h10.2 q19
      obtain ⟨g16, h17⟩ := h12
      refine jk_const (pc := 17) hX 0 rfl (by decide) ?_
      refine jk_goto (pc := 18) hX 23 rfl ?_
      refine jk_put (pc := 23) hX 1 1 rfl rfl rfl ?_
      refine jk_aload (pc := 24) hX 0 rfl rfl ?_
      refine jk_aload (pc := 25) hX 0 rfl rfl ?_
      refine jk_getI (pc := 26) hX 1 2 rfl rfl rfl (jx_vX (jx_upx (by decide)) ?_)
      refine jk_const (pc := 27) hX 1 rfl (by decide) ?_
      refine jk_add (pc := 28) hX rfl g16 ?_
      refine jk_const (pc := 29) hX 6 rfl (by decide) ?_
      refine jk_min (pc := 30) hX rfl (by omega) (Nat.le_of_ble_eq_true rfl) ?_
      refine jk_put (pc := 31) hX 1 2 rfl rfl rfl ?_
      exact jk_vret (pc := 32) hX rfl h17
  · have h3 := h80.2.1 q
    refine jx_vR (show jx_G1.2 16 (Int.toNat (M 15 1)) = 28 by rw [q]; rfl) ?_
    refine jk_astore (pc := 5) hX 2 rfl (Nat.le_of_ble_eq_true rfl) (ls' := [.inr 15, .inr 4, .inr 28]) rfl ?_
    refine jk_aload (pc := 6) hX 2 rfl rfl ?_
    refine jk_ifnonnull (pc := 7) hX 9 rfl ?_
    refine jk_aload (pc := 9) hX 2 rfl rfl ?_
    refine jk_aload (pc := 10) hX 1 rfl rfl ?_
    refine jk_cv (pc := 11) hX 16 1 3 rfl 28 [.inr 4] [] rfl rfl rfl (Nat.le_of_ble_eq_true rfl) (jx_mono (fun r M21 hr => ?_) h3)
    obtain ⟨rfl, h22⟩ := hr
    show X 12 [.inr 15, .inr 4, .inr 28] [] M21
    refine jk_aload (pc := 12) hX 0 rfl rfl ?_
    refine jk_aload (pc := 13) hX 0 rfl rfl ?_
    refine jk_getI (pc := 14) hX 1 1 rfl rfl rfl ?_
    refine jk_const (pc := 15) hX 5 rfl (by decide) ?_
    refine jk_cne (pc := 16) hX 19 rfl (fun q30 => ?_) (fun q31 => ?_)
    · have h23 := h22.1 q30
      obtain ⟨⟨g25, g26⟩, h27⟩ := h23
      refine jk_aload (pc := 19) hX 0 rfl rfl ?_
      refine jk_getI (pc := 20) hX 1 1 rfl rfl rfl ?_
      refine jk_const (pc := 21) hX 1 rfl (by decide) ?_
      refine jk_add (pc := 22) hX rfl g25 ?_
      refine jk_put (pc := 23) hX 1 1 rfl rfl rfl ?_
      refine jk_aload (pc := 24) hX 0 rfl rfl ?_
      refine jk_aload (pc := 25) hX 0 rfl rfl ?_
      refine jk_getI (pc := 26) hX 1 2 rfl rfl rfl (jx_vX (jx_upx (by decide)) ?_)
      refine jk_const (pc := 27) hX 1 rfl (by decide) ?_
      refine jk_add (pc := 28) hX rfl g26 ?_
      refine jk_const (pc := 29) hX 6 rfl (by decide) ?_
      refine jk_min (pc := 30) hX rfl (by omega) (Nat.le_of_ble_eq_true rfl) ?_
      refine jk_put (pc := 31) hX 1 2 rfl rfl rfl ?_
      exact jk_vret (pc := 32) hX rfl h27
    · have h24 := h22.2 q31
      obtain ⟨g28, h29⟩ := h24
      refine jk_const (pc := 17) hX 0 rfl (by decide) ?_
      refine jk_goto (pc := 18) hX 23 rfl ?_
      refine jk_put (pc := 23) hX 1 1 rfl rfl rfl ?_
      refine jk_aload (pc := 24) hX 0 rfl rfl ?_
      refine jk_aload (pc := 25) hX 0 rfl rfl ?_
      refine jk_getI (pc := 26) hX 1 2 rfl rfl rfl (jx_vX (jx_upx (by decide)) ?_)
      refine jk_const (pc := 27) hX 1 rfl (by decide) ?_
      refine jk_add (pc := 28) hX rfl g28 ?_
      refine jk_const (pc := 29) hX 6 rfl (by decide) ?_
      refine jk_min (pc := 30) hX rfl (by omega) (Nat.le_of_ble_eq_true rfl) ?_
      refine jk_put (pc := 31) hX 1 2 rfl rfl rfl ?_
      exact jk_vret (pc := 32) hX rfl h29
  · have h4 := h80.2.2.1 q
    refine jx_vR (show jx_G1.2 16 (Int.toNat (M 15 1)) = 39 by rw [q]; rfl) ?_
    refine jk_astore (pc := 5) hX 2 rfl (Nat.le_of_ble_eq_true rfl) (ls' := [.inr 15, .inr 4, .inr 39]) rfl ?_
    refine jk_aload (pc := 6) hX 2 rfl rfl ?_
    refine jk_ifnonnull (pc := 7) hX 9 rfl ?_
    refine jk_aload (pc := 9) hX 2 rfl rfl ?_
    refine jk_aload (pc := 10) hX 1 rfl rfl ?_
    refine jk_cv (pc := 11) hX 16 1 3 rfl 39 [.inr 4] [] rfl rfl rfl (Nat.le_of_ble_eq_true rfl) (jx_mono (fun r M33 hr => ?_) h4)
    obtain ⟨rfl, h34⟩ := hr
    show X 12 [.inr 15, .inr 4, .inr 39] [] M33
    refine jk_aload (pc := 12) hX 0 rfl rfl ?_
    refine jk_aload (pc := 13) hX 0 rfl rfl ?_
    refine jk_getI (pc := 14) hX 1 1 rfl rfl rfl ?_
    refine jk_const (pc := 15) hX 5 rfl (by decide) ?_
    refine jk_cne (pc := 16) hX 19 rfl (fun q42 => ?_) (fun q43 => ?_)
    · have h35 := h34.1 q42
      obtain ⟨⟨g37, g38⟩, h39⟩ := h35
      refine jk_aload (pc := 19) hX 0 rfl rfl ?_
      refine jk_getI (pc := 20) hX 1 1 rfl rfl rfl ?_
      refine jk_const (pc := 21) hX 1 rfl (by decide) ?_
      refine jk_add (pc := 22) hX rfl g37 ?_
      refine jk_put (pc := 23) hX 1 1 rfl rfl rfl ?_
      refine jk_aload (pc := 24) hX 0 rfl rfl ?_
      refine jk_aload (pc := 25) hX 0 rfl rfl ?_
      refine jk_getI (pc := 26) hX 1 2 rfl rfl rfl (jx_vX (jx_upx (by decide)) ?_)
      refine jk_const (pc := 27) hX 1 rfl (by decide) ?_
      refine jk_add (pc := 28) hX rfl g38 ?_
      refine jk_const (pc := 29) hX 6 rfl (by decide) ?_
      refine jk_min (pc := 30) hX rfl (by omega) (Nat.le_of_ble_eq_true rfl) ?_
      refine jk_put (pc := 31) hX 1 2 rfl rfl rfl ?_
      exact jk_vret (pc := 32) hX rfl h39
    · have h36 := h34.2 q43
      obtain ⟨g40, h41⟩ := h36
      refine jk_const (pc := 17) hX 0 rfl (by decide) ?_
      refine jk_goto (pc := 18) hX 23 rfl ?_
      refine jk_put (pc := 23) hX 1 1 rfl rfl rfl ?_
      refine jk_aload (pc := 24) hX 0 rfl rfl ?_
      refine jk_aload (pc := 25) hX 0 rfl rfl ?_
      refine jk_getI (pc := 26) hX 1 2 rfl rfl rfl (jx_vX (jx_upx (by decide)) ?_)
      refine jk_const (pc := 27) hX 1 rfl (by decide) ?_
      refine jk_add (pc := 28) hX rfl g40 ?_
      refine jk_const (pc := 29) hX 6 rfl (by decide) ?_
      refine jk_min (pc := 30) hX rfl (by omega) (Nat.le_of_ble_eq_true rfl) ?_
      refine jk_put (pc := 31) hX 1 2 rfl rfl rfl ?_
      exact jk_vret (pc := 32) hX rfl h41
  · have h5 := h80.2.2.2.1 q
    refine jx_vR (show jx_G1.2 16 (Int.toNat (M 15 1)) = 50 by rw [q]; rfl) ?_
    refine jk_astore (pc := 5) hX 2 rfl (Nat.le_of_ble_eq_true rfl) (ls' := [.inr 15, .inr 4, .inr 50]) rfl ?_
    refine jk_aload (pc := 6) hX 2 rfl rfl ?_
    refine jk_ifnonnull (pc := 7) hX 9 rfl ?_
    refine jk_aload (pc := 9) hX 2 rfl rfl ?_
    refine jk_aload (pc := 10) hX 1 rfl rfl ?_
    refine jk_cv (pc := 11) hX 16 1 3 rfl 50 [.inr 4] [] rfl rfl rfl (Nat.le_of_ble_eq_true rfl) (jx_mono (fun r M45 hr => ?_) h5)
    obtain ⟨rfl, h46⟩ := hr
    show X 12 [.inr 15, .inr 4, .inr 50] [] M45
    refine jk_aload (pc := 12) hX 0 rfl rfl ?_
    refine jk_aload (pc := 13) hX 0 rfl rfl ?_
    refine jk_getI (pc := 14) hX 1 1 rfl rfl rfl ?_
    refine jk_const (pc := 15) hX 5 rfl (by decide) ?_
    refine jk_cne (pc := 16) hX 19 rfl (fun q54 => ?_) (fun q55 => ?_)
    · have h47 := h46.1 q54
      obtain ⟨⟨g49, g50⟩, h51⟩ := h47
      refine jk_aload (pc := 19) hX 0 rfl rfl ?_
      refine jk_getI (pc := 20) hX 1 1 rfl rfl rfl ?_
      refine jk_const (pc := 21) hX 1 rfl (by decide) ?_
      refine jk_add (pc := 22) hX rfl g49 ?_
      refine jk_put (pc := 23) hX 1 1 rfl rfl rfl ?_
      refine jk_aload (pc := 24) hX 0 rfl rfl ?_
      refine jk_aload (pc := 25) hX 0 rfl rfl ?_
      refine jk_getI (pc := 26) hX 1 2 rfl rfl rfl (jx_vX (jx_upx (by decide)) ?_)
      refine jk_const (pc := 27) hX 1 rfl (by decide) ?_
      refine jk_add (pc := 28) hX rfl g50 ?_
      refine jk_const (pc := 29) hX 6 rfl (by decide) ?_
      refine jk_min (pc := 30) hX rfl (by omega) (Nat.le_of_ble_eq_true rfl) ?_
      refine jk_put (pc := 31) hX 1 2 rfl rfl rfl ?_
      exact jk_vret (pc := 32) hX rfl h51
    · have h48 := h46.2 q55
      obtain ⟨g52, h53⟩ := h48
      refine jk_const (pc := 17) hX 0 rfl (by decide) ?_
      refine jk_goto (pc := 18) hX 23 rfl ?_
      refine jk_put (pc := 23) hX 1 1 rfl rfl rfl ?_
      refine jk_aload (pc := 24) hX 0 rfl rfl ?_
      refine jk_aload (pc := 25) hX 0 rfl rfl ?_
      refine jk_getI (pc := 26) hX 1 2 rfl rfl rfl (jx_vX (jx_upx (by decide)) ?_)
      refine jk_const (pc := 27) hX 1 rfl (by decide) ?_
      refine jk_add (pc := 28) hX rfl g52 ?_
      refine jk_const (pc := 29) hX 6 rfl (by decide) ?_
      refine jk_min (pc := 30) hX rfl (by omega) (Nat.le_of_ble_eq_true rfl) ?_
      refine jk_put (pc := 31) hX 1 2 rfl rfl rfl ?_
      exact jk_vret (pc := 32) hX rfl h53
  · have h6 := h80.2.2.2.2.1 q
    refine jx_vR (show jx_G1.2 16 (Int.toNat (M 15 1)) = 61 by rw [q]; rfl) ?_
    refine jk_astore (pc := 5) hX 2 rfl (Nat.le_of_ble_eq_true rfl) (ls' := [.inr 15, .inr 4, .inr 61]) rfl ?_
    refine jk_aload (pc := 6) hX 2 rfl rfl ?_
    refine jk_ifnonnull (pc := 7) hX 9 rfl ?_
    refine jk_aload (pc := 9) hX 2 rfl rfl ?_
    refine jk_aload (pc := 10) hX 1 rfl rfl ?_
    refine jk_cv (pc := 11) hX 16 1 3 rfl 61 [.inr 4] [] rfl rfl rfl (Nat.le_of_ble_eq_true rfl) (jx_mono (fun r M57 hr => ?_) h6)
    obtain ⟨rfl, h58⟩ := hr
    show X 12 [.inr 15, .inr 4, .inr 61] [] M57
    refine jk_aload (pc := 12) hX 0 rfl rfl ?_
    refine jk_aload (pc := 13) hX 0 rfl rfl ?_
    refine jk_getI (pc := 14) hX 1 1 rfl rfl rfl ?_
    refine jk_const (pc := 15) hX 5 rfl (by decide) ?_
    refine jk_cne (pc := 16) hX 19 rfl (fun q66 => ?_) (fun q67 => ?_)
    · have h59 := h58.1 q66
      obtain ⟨⟨g61, g62⟩, h63⟩ := h59
      refine jk_aload (pc := 19) hX 0 rfl rfl ?_
      refine jk_getI (pc := 20) hX 1 1 rfl rfl rfl ?_
      refine jk_const (pc := 21) hX 1 rfl (by decide) ?_
      refine jk_add (pc := 22) hX rfl g61 ?_
      refine jk_put (pc := 23) hX 1 1 rfl rfl rfl ?_
      refine jk_aload (pc := 24) hX 0 rfl rfl ?_
      refine jk_aload (pc := 25) hX 0 rfl rfl ?_
      refine jk_getI (pc := 26) hX 1 2 rfl rfl rfl (jx_vX (jx_upx (by decide)) ?_)
      refine jk_const (pc := 27) hX 1 rfl (by decide) ?_
      refine jk_add (pc := 28) hX rfl g62 ?_
      refine jk_const (pc := 29) hX 6 rfl (by decide) ?_
      refine jk_min (pc := 30) hX rfl (by omega) (Nat.le_of_ble_eq_true rfl) ?_
      refine jk_put (pc := 31) hX 1 2 rfl rfl rfl ?_
      exact jk_vret (pc := 32) hX rfl h63
    · have h60 := h58.2 q67
      obtain ⟨g64, h65⟩ := h60
      refine jk_const (pc := 17) hX 0 rfl (by decide) ?_
      refine jk_goto (pc := 18) hX 23 rfl ?_
      refine jk_put (pc := 23) hX 1 1 rfl rfl rfl ?_
      refine jk_aload (pc := 24) hX 0 rfl rfl ?_
      refine jk_aload (pc := 25) hX 0 rfl rfl ?_
      refine jk_getI (pc := 26) hX 1 2 rfl rfl rfl (jx_vX (jx_upx (by decide)) ?_)
      refine jk_const (pc := 27) hX 1 rfl (by decide) ?_
      refine jk_add (pc := 28) hX rfl g64 ?_
      refine jk_const (pc := 29) hX 6 rfl (by decide) ?_
      refine jk_min (pc := 30) hX rfl (by omega) (Nat.le_of_ble_eq_true rfl) ?_
      refine jk_put (pc := 31) hX 1 2 rfl rfl rfl ?_
      exact jk_vret (pc := 32) hX rfl h65
  · have h7 := h80.2.2.2.2.2 q
    refine jx_vR (show jx_G1.2 16 (Int.toNat (M 15 1)) = 72 by rw [q]; rfl) ?_
    refine jk_astore (pc := 5) hX 2 rfl (Nat.le_of_ble_eq_true rfl) (ls' := [.inr 15, .inr 4, .inr 72]) rfl ?_
    refine jk_aload (pc := 6) hX 2 rfl rfl ?_
    refine jk_ifnonnull (pc := 7) hX 9 rfl ?_
    refine jk_aload (pc := 9) hX 2 rfl rfl ?_
    refine jk_aload (pc := 10) hX 1 rfl rfl ?_
    refine jk_cv (pc := 11) hX 16 1 3 rfl 72 [.inr 4] [] rfl rfl rfl (Nat.le_of_ble_eq_true rfl) (jx_mono (fun r M69 hr => ?_) h7)
    obtain ⟨rfl, h70⟩ := hr
    show X 12 [.inr 15, .inr 4, .inr 72] [] M69
    refine jk_aload (pc := 12) hX 0 rfl rfl ?_
    refine jk_aload (pc := 13) hX 0 rfl rfl ?_
    refine jk_getI (pc := 14) hX 1 1 rfl rfl rfl ?_
    refine jk_const (pc := 15) hX 5 rfl (by decide) ?_
    refine jk_cne (pc := 16) hX 19 rfl (fun q78 => ?_) (fun q79 => ?_)
    · have h71 := h70.1 q78
      obtain ⟨⟨g73, g74⟩, h75⟩ := h71
      refine jk_aload (pc := 19) hX 0 rfl rfl ?_
      refine jk_getI (pc := 20) hX 1 1 rfl rfl rfl ?_
      refine jk_const (pc := 21) hX 1 rfl (by decide) ?_
      refine jk_add (pc := 22) hX rfl g73 ?_
      refine jk_put (pc := 23) hX 1 1 rfl rfl rfl ?_
      refine jk_aload (pc := 24) hX 0 rfl rfl ?_
      refine jk_aload (pc := 25) hX 0 rfl rfl ?_
      refine jk_getI (pc := 26) hX 1 2 rfl rfl rfl (jx_vX (jx_upx (by decide)) ?_)
      refine jk_const (pc := 27) hX 1 rfl (by decide) ?_
      refine jk_add (pc := 28) hX rfl g74 ?_
      refine jk_const (pc := 29) hX 6 rfl (by decide) ?_
      refine jk_min (pc := 30) hX rfl (by omega) (Nat.le_of_ble_eq_true rfl) ?_
      refine jk_put (pc := 31) hX 1 2 rfl rfl rfl ?_
      exact jk_vret (pc := 32) hX rfl h75
    · have h72 := h70.2 q79
      obtain ⟨g76, h77⟩ := h72
      refine jk_const (pc := 17) hX 0 rfl (by decide) ?_
      refine jk_goto (pc := 18) hX 23 rfl ?_
      refine jk_put (pc := 23) hX 1 1 rfl rfl rfl ?_
      refine jk_aload (pc := 24) hX 0 rfl rfl ?_
      refine jk_aload (pc := 25) hX 0 rfl rfl ?_
      refine jk_getI (pc := 26) hX 1 2 rfl rfl rfl (jx_vX (jx_upx (by decide)) ?_)
      refine jk_const (pc := 27) hX 1 rfl (by decide) ?_
      refine jk_add (pc := 28) hX rfl g76 ?_
      refine jk_const (pc := 29) hX 6 rfl (by decide) ?_
      refine jk_min (pc := 30) hX rfl (by omega) (Nat.le_of_ble_eq_true rfl) ?_
      refine jk_put (pc := 31) hX 1 2 rfl rfl rfl ?_
      exact jk_vret (pc := 32) hX rfl h77
set_option maxHeartbeats 4000000 in
theorem bk_H_bringBack_0 {d : Nat} {K : jxK} {X : jxX} (hX : jx_clo jx_G1 (d + 3) (jx_call jx_G1 jx_T (d + 3)) kc_H_bringBack K X) (M : jxM)
    (h : (((M 15 1) ≠ 0 → (((-2147483648 : Int) ≤ (M 15 1) - 1 ∧ (M 15 1) - 1 ≤ 2147483647) ∧ (0 ≤ ((M 15 1) - 1) ∧ ((M 15 1) - 1) < 6)) ∧ ((((M 15 1) - 1) = 0 → (((M 15 2) ≠ 0 → jx_call jx_G1 jx_T (d + 3) 16 [.inr 4, .inr 17] M (fun r M14 => r = none ∧ (((-2147483648 : Int) ≤ (M14 15 2) - 1 ∧ (M14 15 2) - 1 ≤ 2147483647)) ∧ K none (jx_up (jx_up M14 15 1 ((M 15 1) - 1)) 15 2 ((M14 15 2) - 1)))) ∧ ((M 15 2) = 0 → K none M))) ∧ (((M 15 1) - 1) = 1 → (((M 15 2) ≠ 0 → jx_call jx_G1 jx_T (d + 3) 16 [.inr 4, .inr 28] M (fun r M23 => r = none ∧ (((-2147483648 : Int) ≤ (M23 15 2) - 1 ∧ (M23 15 2) - 1 ≤ 2147483647)) ∧ K none (jx_up (jx_up M23 15 1 ((M 15 1) - 1)) 15 2 ((M23 15 2) - 1)))) ∧ ((M 15 2) = 0 → K none M))) ∧ (((M 15 1) - 1) = 2 → (((M 15 2) ≠ 0 → jx_call jx_G1 jx_T (d + 3) 16 [.inr 4, .inr 39] M (fun r M32 => r = none ∧ (((-2147483648 : Int) ≤ (M32 15 2) - 1 ∧ (M32 15 2) - 1 ≤ 2147483647)) ∧ K none (jx_up (jx_up M32 15 1 ((M 15 1) - 1)) 15 2 ((M32 15 2) - 1)))) ∧ ((M 15 2) = 0 → K none M))) ∧ (((M 15 1) - 1) = 3 → (((M 15 2) ≠ 0 → jx_call jx_G1 jx_T (d + 3) 16 [.inr 4, .inr 50] M (fun r M41 => r = none ∧ (((-2147483648 : Int) ≤ (M41 15 2) - 1 ∧ (M41 15 2) - 1 ≤ 2147483647)) ∧ K none (jx_up (jx_up M41 15 1 ((M 15 1) - 1)) 15 2 ((M41 15 2) - 1)))) ∧ ((M 15 2) = 0 → K none M))) ∧ (((M 15 1) - 1) = 4 → (((M 15 2) ≠ 0 → jx_call jx_G1 jx_T (d + 3) 16 [.inr 4, .inr 61] M (fun r M50 => r = none ∧ (((-2147483648 : Int) ≤ (M50 15 2) - 1 ∧ (M50 15 2) - 1 ≤ 2147483647)) ∧ K none (jx_up (jx_up M50 15 1 ((M 15 1) - 1)) 15 2 ((M50 15 2) - 1)))) ∧ ((M 15 2) = 0 → K none M))) ∧ (((M 15 1) - 1) = 5 → (((M 15 2) ≠ 0 → jx_call jx_G1 jx_T (d + 3) 16 [.inr 4, .inr 72] M (fun r M59 => r = none ∧ (((-2147483648 : Int) ≤ (M59 15 2) - 1 ∧ (M59 15 2) - 1 ≤ 2147483647)) ∧ K none (jx_up (jx_up M59 15 1 ((M 15 1) - 1)) 15 2 ((M59 15 2) - 1)))) ∧ ((M 15 2) = 0 → K none M))))) ∧ ((M 15 1) = 0 → (((M 15 2) ≠ 0 → jx_call jx_G1 jx_T (d + 3) 16 [.inr 4, .inr 72] M (fun r M69 => r = none ∧ (((-2147483648 : Int) ≤ (M69 15 2) - 1 ∧ (M69 15 2) - 1 ≤ 2147483647)) ∧ K none (jx_up (jx_up M69 15 1 5) 15 2 ((M69 15 2) - 1)))) ∧ ((M 15 2) = 0 → K none M))))) :
    X 0 [.inr 15, .inr 4, .inr 0, .inr 0] [] M := by
  refine jk_aload (pc := 0) hX 0 rfl rfl ?_
  refine jk_getI (pc := 1) hX 1 1 rfl rfl rfl ?_
  refine jk_zne (pc := 2) hX 5 rfl (fun q75 => ?_) (fun q76 => ?_)
  · have h1 := h.1 q75
    obtain ⟨⟨g3, g4⟩, h65⟩ := h1
    refine jk_aload (pc := 5) hX 0 rfl rfl ?_
    refine jk_getI (pc := 6) hX 1 1 rfl rfl rfl ?_
    refine jk_const (pc := 7) hX 1 rfl (by decide) ?_
    refine jk_sub (pc := 8) hX rfl g3 ?_
    refine jk_store (pc := 9) hX 2 rfl (Nat.le_of_ble_eq_true rfl) (ls' := [.inr 15, .inr 4, .inl ((M 15 1) - 1), .inr 0]) rfl ?_
    refine jk_aload (pc := 10) hX 0 rfl rfl ?_
    refine jk_getR (pc := 11) hX 1 0 rfl rfl (r := 15) rfl ?_
    refine jk_load (pc := 12) hX 2 rfl rfl ?_
    refine jk_aald (pc := 13) hX 6 rfl rfl g4 ?_
    rcases jx_cases6 g4 with q | q | q | q | q | q
    · have h5 := h65.1 q
      refine jx_vR (show jx_G1.2 16 (Int.toNat ((M 15 1) - 1)) = 17 by rw [q]; rfl) ?_
      refine jk_astore (pc := 14) hX 3 rfl (Nat.le_of_ble_eq_true rfl) (ls' := [.inr 15, .inr 4, .inl ((M 15 1) - 1), .inr 17]) rfl ?_
      refine jk_aload (pc := 15) hX 3 rfl rfl ?_
      refine jk_ifnull (pc := 16) hX 20 rfl ?_
      refine jk_aload (pc := 17) hX 0 rfl rfl ?_
      refine jk_getI (pc := 18) hX 1 2 rfl rfl rfl ?_
      refine jk_zne (pc := 19) hX 21 rfl (fun q18 => ?_) (fun q19 => ?_)
      · have h11 := h5.1 q18
        refine jk_aload (pc := 21) hX 1 rfl rfl ?_
        refine jk_aload (pc := 22) hX 3 rfl rfl ?_
        refine jk_cv (pc := 23) hX 16 1 3 rfl 4 [.inr 17] [] rfl rfl rfl (Nat.le_of_ble_eq_true rfl) (jx_mono (fun r M14 hr => ?_) h11)
        obtain ⟨rfl, h15⟩ := hr
        show X 24 [.inr 15, .inr 4, .inl ((M 15 1) - 1), .inr 17] [] M14
        obtain ⟨g16, h17⟩ := h15
        refine jk_aload (pc := 24) hX 0 rfl rfl ?_
        refine jk_load (pc := 25) hX 2 rfl rfl ?_
        refine jk_put (pc := 26) hX 1 1 rfl rfl rfl ?_
        refine jk_aload (pc := 27) hX 0 rfl rfl ?_
        refine jk_dup (pc := 28) hX rfl ?_
        refine jk_getI (pc := 29) hX 1 2 rfl rfl rfl (jx_vX (jx_upx (by decide)) ?_)
        refine jk_const (pc := 30) hX 1 rfl (by decide) ?_
        refine jk_sub (pc := 31) hX rfl g16 ?_
        refine jk_put (pc := 32) hX 1 2 rfl rfl rfl ?_
        exact jk_vret (pc := 33) hX rfl h17
      · have h12 := h5.2 q19
        exact jk_vret (pc := 20) hX rfl h12
    · have h6 := h65.2.1 q
      refine jx_vR (show jx_G1.2 16 (Int.toNat ((M 15 1) - 1)) = 28 by rw [q]; rfl) ?_
      refine jk_astore (pc := 14) hX 3 rfl (Nat.le_of_ble_eq_true rfl) (ls' := [.inr 15, .inr 4, .inl ((M 15 1) - 1), .inr 28]) rfl ?_
      refine jk_aload (pc := 15) hX 3 rfl rfl ?_
      refine jk_ifnull (pc := 16) hX 20 rfl ?_
      refine jk_aload (pc := 17) hX 0 rfl rfl ?_
      refine jk_getI (pc := 18) hX 1 2 rfl rfl rfl ?_
      refine jk_zne (pc := 19) hX 21 rfl (fun q27 => ?_) (fun q28 => ?_)
      · have h20 := h6.1 q27
        refine jk_aload (pc := 21) hX 1 rfl rfl ?_
        refine jk_aload (pc := 22) hX 3 rfl rfl ?_
        refine jk_cv (pc := 23) hX 16 1 3 rfl 4 [.inr 28] [] rfl rfl rfl (Nat.le_of_ble_eq_true rfl) (jx_mono (fun r M23 hr => ?_) h20)
        obtain ⟨rfl, h24⟩ := hr
        show X 24 [.inr 15, .inr 4, .inl ((M 15 1) - 1), .inr 28] [] M23
        obtain ⟨g25, h26⟩ := h24
        refine jk_aload (pc := 24) hX 0 rfl rfl ?_
        refine jk_load (pc := 25) hX 2 rfl rfl ?_
        refine jk_put (pc := 26) hX 1 1 rfl rfl rfl ?_
        refine jk_aload (pc := 27) hX 0 rfl rfl ?_
        refine jk_dup (pc := 28) hX rfl ?_
        refine jk_getI (pc := 29) hX 1 2 rfl rfl rfl (jx_vX (jx_upx (by decide)) ?_)
        refine jk_const (pc := 30) hX 1 rfl (by decide) ?_
        refine jk_sub (pc := 31) hX rfl g25 ?_
        refine jk_put (pc := 32) hX 1 2 rfl rfl rfl ?_
        exact jk_vret (pc := 33) hX rfl h26
      · have h21 := h6.2 q28
        exact jk_vret (pc := 20) hX rfl h21
    · have h7 := h65.2.2.1 q
      refine jx_vR (show jx_G1.2 16 (Int.toNat ((M 15 1) - 1)) = 39 by rw [q]; rfl) ?_
      refine jk_astore (pc := 14) hX 3 rfl (Nat.le_of_ble_eq_true rfl) (ls' := [.inr 15, .inr 4, .inl ((M 15 1) - 1), .inr 39]) rfl ?_
      refine jk_aload (pc := 15) hX 3 rfl rfl ?_
      refine jk_ifnull (pc := 16) hX 20 rfl ?_
      refine jk_aload (pc := 17) hX 0 rfl rfl ?_
      refine jk_getI (pc := 18) hX 1 2 rfl rfl rfl ?_
      refine jk_zne (pc := 19) hX 21 rfl (fun q36 => ?_) (fun q37 => ?_)
      · have h29 := h7.1 q36
        refine jk_aload (pc := 21) hX 1 rfl rfl ?_
        refine jk_aload (pc := 22) hX 3 rfl rfl ?_
        refine jk_cv (pc := 23) hX 16 1 3 rfl 4 [.inr 39] [] rfl rfl rfl (Nat.le_of_ble_eq_true rfl) (jx_mono (fun r M32 hr => ?_) h29)
        obtain ⟨rfl, h33⟩ := hr
        show X 24 [.inr 15, .inr 4, .inl ((M 15 1) - 1), .inr 39] [] M32
        obtain ⟨g34, h35⟩ := h33
        refine jk_aload (pc := 24) hX 0 rfl rfl ?_
        refine jk_load (pc := 25) hX 2 rfl rfl ?_
        refine jk_put (pc := 26) hX 1 1 rfl rfl rfl ?_
        refine jk_aload (pc := 27) hX 0 rfl rfl ?_
        refine jk_dup (pc := 28) hX rfl ?_
        refine jk_getI (pc := 29) hX 1 2 rfl rfl rfl (jx_vX (jx_upx (by decide)) ?_)
        refine jk_const (pc := 30) hX 1 rfl (by decide) ?_
        refine jk_sub (pc := 31) hX rfl g34 ?_
        refine jk_put (pc := 32) hX 1 2 rfl rfl rfl ?_
        exact jk_vret (pc := 33) hX rfl h35
      · have h30 := h7.2 q37
        exact jk_vret (pc := 20) hX rfl h30
    · have h8 := h65.2.2.2.1 q
      refine jx_vR (show jx_G1.2 16 (Int.toNat ((M 15 1) - 1)) = 50 by rw [q]; rfl) ?_
      refine jk_astore (pc := 14) hX 3 rfl (Nat.le_of_ble_eq_true rfl) (ls' := [.inr 15, .inr 4, .inl ((M 15 1) - 1), .inr 50]) rfl ?_
      refine jk_aload (pc := 15) hX 3 rfl rfl ?_
      refine jk_ifnull (pc := 16) hX 20 rfl ?_
      refine jk_aload (pc := 17) hX 0 rfl rfl ?_
      refine jk_getI (pc := 18) hX 1 2 rfl rfl rfl ?_
      refine jk_zne (pc := 19) hX 21 rfl (fun q45 => ?_) (fun q46 => ?_)
      · have h38 := h8.1 q45
        refine jk_aload (pc := 21) hX 1 rfl rfl ?_
        refine jk_aload (pc := 22) hX 3 rfl rfl ?_
        refine jk_cv (pc := 23) hX 16 1 3 rfl 4 [.inr 50] [] rfl rfl rfl (Nat.le_of_ble_eq_true rfl) (jx_mono (fun r M41 hr => ?_) h38)
        obtain ⟨rfl, h42⟩ := hr
        show X 24 [.inr 15, .inr 4, .inl ((M 15 1) - 1), .inr 50] [] M41
        obtain ⟨g43, h44⟩ := h42
        refine jk_aload (pc := 24) hX 0 rfl rfl ?_
        refine jk_load (pc := 25) hX 2 rfl rfl ?_
        refine jk_put (pc := 26) hX 1 1 rfl rfl rfl ?_
        refine jk_aload (pc := 27) hX 0 rfl rfl ?_
        refine jk_dup (pc := 28) hX rfl ?_
        refine jk_getI (pc := 29) hX 1 2 rfl rfl rfl (jx_vX (jx_upx (by decide)) ?_)
        refine jk_const (pc := 30) hX 1 rfl (by decide) ?_
        refine jk_sub (pc := 31) hX rfl g43 ?_
        refine jk_put (pc := 32) hX 1 2 rfl rfl rfl ?_
        exact jk_vret (pc := 33) hX rfl h44
      · have h39 := h8.2 q46
        exact jk_vret (pc := 20) hX rfl h39
    · have h9 := h65.2.2.2.2.1 q
      refine jx_vR (show jx_G1.2 16 (Int.toNat ((M 15 1) - 1)) = 61 by rw [q]; rfl) ?_
      refine jk_astore (pc := 14) hX 3 rfl (Nat.le_of_ble_eq_true rfl) (ls' := [.inr 15, .inr 4, .inl ((M 15 1) - 1), .inr 61]) rfl ?_
      refine jk_aload (pc := 15) hX 3 rfl rfl ?_
      refine jk_ifnull (pc := 16) hX 20 rfl ?_
      refine jk_aload (pc := 17) hX 0 rfl rfl ?_
      refine jk_getI (pc := 18) hX 1 2 rfl rfl rfl ?_
      refine jk_zne (pc := 19) hX 21 rfl (fun q54 => ?_) (fun q55 => ?_)
      · have h47 := h9.1 q54
        refine jk_aload (pc := 21) hX 1 rfl rfl ?_
        refine jk_aload (pc := 22) hX 3 rfl rfl ?_
        refine jk_cv (pc := 23) hX 16 1 3 rfl 4 [.inr 61] [] rfl rfl rfl (Nat.le_of_ble_eq_true rfl) (jx_mono (fun r M50 hr => ?_) h47)
        obtain ⟨rfl, h51⟩ := hr
        show X 24 [.inr 15, .inr 4, .inl ((M 15 1) - 1), .inr 61] [] M50
        obtain ⟨g52, h53⟩ := h51
        refine jk_aload (pc := 24) hX 0 rfl rfl ?_
        refine jk_load (pc := 25) hX 2 rfl rfl ?_
        refine jk_put (pc := 26) hX 1 1 rfl rfl rfl ?_
        refine jk_aload (pc := 27) hX 0 rfl rfl ?_
        refine jk_dup (pc := 28) hX rfl ?_
        refine jk_getI (pc := 29) hX 1 2 rfl rfl rfl (jx_vX (jx_upx (by decide)) ?_)
        refine jk_const (pc := 30) hX 1 rfl (by decide) ?_
        refine jk_sub (pc := 31) hX rfl g52 ?_
        refine jk_put (pc := 32) hX 1 2 rfl rfl rfl ?_
        exact jk_vret (pc := 33) hX rfl h53
      · have h48 := h9.2 q55
        exact jk_vret (pc := 20) hX rfl h48
    · have h10 := h65.2.2.2.2.2 q
      refine jx_vR (show jx_G1.2 16 (Int.toNat ((M 15 1) - 1)) = 72 by rw [q]; rfl) ?_
      refine jk_astore (pc := 14) hX 3 rfl (Nat.le_of_ble_eq_true rfl) (ls' := [.inr 15, .inr 4, .inl ((M 15 1) - 1), .inr 72]) rfl ?_
      refine jk_aload (pc := 15) hX 3 rfl rfl ?_
      refine jk_ifnull (pc := 16) hX 20 rfl ?_
      refine jk_aload (pc := 17) hX 0 rfl rfl ?_
      refine jk_getI (pc := 18) hX 1 2 rfl rfl rfl ?_
      refine jk_zne (pc := 19) hX 21 rfl (fun q63 => ?_) (fun q64 => ?_)
      · have h56 := h10.1 q63
        refine jk_aload (pc := 21) hX 1 rfl rfl ?_
        refine jk_aload (pc := 22) hX 3 rfl rfl ?_
        refine jk_cv (pc := 23) hX 16 1 3 rfl 4 [.inr 72] [] rfl rfl rfl (Nat.le_of_ble_eq_true rfl) (jx_mono (fun r M59 hr => ?_) h56)
        obtain ⟨rfl, h60⟩ := hr
        show X 24 [.inr 15, .inr 4, .inl ((M 15 1) - 1), .inr 72] [] M59
        obtain ⟨g61, h62⟩ := h60
        refine jk_aload (pc := 24) hX 0 rfl rfl ?_
        refine jk_load (pc := 25) hX 2 rfl rfl ?_
        refine jk_put (pc := 26) hX 1 1 rfl rfl rfl ?_
        refine jk_aload (pc := 27) hX 0 rfl rfl ?_
        refine jk_dup (pc := 28) hX rfl ?_
        refine jk_getI (pc := 29) hX 1 2 rfl rfl rfl (jx_vX (jx_upx (by decide)) ?_)
        refine jk_const (pc := 30) hX 1 rfl (by decide) ?_
        refine jk_sub (pc := 31) hX rfl g61 ?_
        refine jk_put (pc := 32) hX 1 2 rfl rfl rfl ?_
        exact jk_vret (pc := 33) hX rfl h62
      · have h57 := h10.2 q64
        exact jk_vret (pc := 20) hX rfl h57
  · have h2 := h.2 q76
    refine jk_const (pc := 3) hX 5 rfl (by decide) ?_
    refine jk_goto (pc := 4) hX 9 rfl ?_
    refine jk_store (pc := 9) hX 2 rfl (Nat.le_of_ble_eq_true rfl) (ls' := [.inr 15, .inr 4, .inl 5, .inr 0]) rfl ?_
    refine jk_aload (pc := 10) hX 0 rfl rfl ?_
    refine jk_getR (pc := 11) hX 1 0 rfl rfl (r := 15) rfl ?_
    refine jk_load (pc := 12) hX 2 rfl rfl ?_
    refine jk_aald (pc := 13) hX 6 rfl rfl (by decide) ?_
    refine jk_astore (pc := 14) hX 3 rfl (Nat.le_of_ble_eq_true rfl) (ls' := [.inr 15, .inr 4, .inl 5, .inr 72]) rfl ?_
    refine jk_aload (pc := 15) hX 3 rfl rfl ?_
    refine jk_ifnull (pc := 16) hX 20 rfl ?_
    refine jk_aload (pc := 17) hX 0 rfl rfl ?_
    refine jk_getI (pc := 18) hX 1 2 rfl rfl rfl ?_
    refine jk_zne (pc := 19) hX 21 rfl (fun q73 => ?_) (fun q74 => ?_)
    · have h66 := h2.1 q73
      refine jk_aload (pc := 21) hX 1 rfl rfl ?_
      refine jk_aload (pc := 22) hX 3 rfl rfl ?_
      refine jk_cv (pc := 23) hX 16 1 3 rfl 4 [.inr 72] [] rfl rfl rfl (Nat.le_of_ble_eq_true rfl) (jx_mono (fun r M69 hr => ?_) h66)
      obtain ⟨rfl, h70⟩ := hr
      show X 24 [.inr 15, .inr 4, .inl 5, .inr 72] [] M69
      obtain ⟨g71, h72⟩ := h70
      refine jk_aload (pc := 24) hX 0 rfl rfl ?_
      refine jk_load (pc := 25) hX 2 rfl rfl ?_
      refine jk_put (pc := 26) hX 1 1 rfl rfl rfl ?_
      refine jk_aload (pc := 27) hX 0 rfl rfl ?_
      refine jk_dup (pc := 28) hX rfl ?_
      refine jk_getI (pc := 29) hX 1 2 rfl rfl rfl (jx_vX (jx_upx (by decide)) ?_)
      refine jk_const (pc := 30) hX 1 rfl (by decide) ?_
      refine jk_sub (pc := 31) hX rfl g71 ?_
      refine jk_put (pc := 32) hX 1 2 rfl rfl rfl ?_
      exact jk_vret (pc := 33) hX rfl h72
    · have h67 := h2.2 q74
      exact jk_vret (pc := 20) hX rfl h67
set_option maxHeartbeats 4000000 in
theorem bk_C_beginEdit_0 {d : Nat} {K : jxK} {X : jxX} (hX : jx_clo jx_G1 (d + 4) (jx_call jx_G1 jx_T (d + 4)) kc_C_beginEdit K X) (M : jxM)
    (h : jx_call jx_G1 jx_T (d + 4) 9 [.inr 15, .inr 4] M (fun r M2 => r = none ∧ K none (jx_up M2 1 5 1))) :
    X 0 [.inr 1] [] M := by
  refine jk_aload (pc := 0) hX 0 rfl rfl ?_
  refine jk_getR (pc := 1) hX 6 2 rfl rfl (r := 14) rfl ?_
  refine jk_aload (pc := 2) hX 0 rfl rfl ?_
  refine jk_getR (pc := 3) hX 6 1 rfl rfl (r := 3) rfl ?_
  refine jk_cv (pc := 4) hX 9 1 1 rfl 15 [.inr 4] [] rfl rfl rfl (Nat.le_of_ble_eq_true rfl) (jx_mono (fun r M2 hr => ?_) h)
  obtain ⟨rfl, h3⟩ := hr
  show X 5 [.inr 1] [] M2
  refine jk_aload (pc := 5) hX 0 rfl rfl ?_
  refine jk_const (pc := 6) hX 1 rfl (by decide) ?_
  refine jk_putZ (pc := 7) hX 6 5 rfl rfl rfl (Or.inr rfl) ?_
  exact jk_vret (pc := 8) hX rfl h3
set_option maxHeartbeats 4000000 in
theorem bk_C_addEntry_0 {d : Nat} {K : jxK} {X : jxX} (hX : jx_clo jx_G1 (d + 5) (jx_call jx_G1 jx_T (d + 5)) kc_C_addEntry K X) (v1 : Int) (v2 : Int) (v3 : Int) (M : jxM)
    (h : ((v1 < (0 : Int) ∨ (99 : Int) < v1 → K (some (.inl (-1))) M) ∧ (¬ (v1 < (0 : Int) ∨ (99 : Int) < v1) → ((v2 < (0 : Int) ∨ (4 : Int) < v2 → K (some (.inl (-1))) M) ∧ (¬ (v2 < (0 : Int) ∨ (4 : Int) < v2) → ((¬ (v3 < (0 : Int) ∨ (99 : Int) < v3) → ((((0 : Int) ≤ (M 5 6) ∧ (M 5 6) ≤ 20) ∧ ((0 : Int) ≤ (M 2 1) ∧ (M 2 1) ≤ 20) ∧ ∀ e, (0 : Int) ≤ e → e < (M 5 6) → M 7 e ≤ 6)) ∧ ((¬ (d_holds M v1 v2) → (((M 5 6) < 20 → jx_call jx_G1 jx_T (d + 5) 44 [.inr 2] M (fun r M13 => ∃ r12 : Int, r = some (.inl r12) ∧ ((r12 = (-1) → jx_call jx_G1 jx_T (d + 5) 72 [.inr 1] M13 (fun r M18 => r = none ∧ jx_call jx_G1 jx_T (d + 5) 1 [.inr 5, .inr 2, .inl v1, .inl v2, .inl v3] M18 (fun r M21 => r = none ∧ (((-2147483648 : Int) ≤ (M21 5 6) - 1 ∧ (M21 5 6) - 1 ≤ 2147483647)) ∧ K (some (.inl ((M21 5 6) - 1))) (jx_up M21 2 1 0)))) ∧ (r12 ≠ (-1) → (((-2147483648 : Int) ≤ (-10) - r12 ∧ (-10) - r12 ≤ 2147483647)) ∧ K (some (.inl ((-10) - r12))) M13)))) ∧ (20 ≤ (M 5 6) → K (some (.inl (-3))) M))) ∧ (d_holds M v1 v2 → K (some (.inl (-2))) M))) ∧ (v3 < (0 : Int) ∨ (99 : Int) < v3 → K (some (.inl (-1))) M))))))) :
    X 0 [.inr 1, .inl v1, .inl v2, .inl v3, .inr 0, .inr 0] [] M := by
  refine jk_load (pc := 0) hX 1 rfl rfl ?_
  refine jk_const (pc := 1) hX 0 rfl (by decide) ?_
  refine jk_const (pc := 2) hX 99 rfl (by decide) ?_
  refine jk_cs (pc := 3) hX 79 3 rfl [.inl v1, .inl 0, .inl 99] [] rfl rfl (Nat.le_of_ble_eq_true rfl) (sp_C_isOutside (d + 4) v1 (0 : Int) (99 : Int) M  ?_)
  show X 4 [.inr 1, .inl v1, .inl v2, .inl v3, .inr 0, .inr 0] [.inl (jx_b (v1 < (0 : Int) ∨ (99 : Int) < v1))] M
  refine jk_zneB (pc := 4) hX 15 rfl (fun q38 => ?_) (fun q39 => ?_)
  · have h1 := h.1 q38
    refine jk_const (pc := 15) hX (-1) rfl (by decide) ?_
    exact jk_iret (pc := 16) hX rfl h1
  · have h2 := h.2 q39
    refine jk_load (pc := 5) hX 2 rfl rfl ?_
    refine jk_const (pc := 6) hX 0 rfl (by decide) ?_
    refine jk_const (pc := 7) hX 4 rfl (by decide) ?_
    refine jk_cs (pc := 8) hX 79 3 rfl [.inl v2, .inl 0, .inl 4] [] rfl rfl (Nat.le_of_ble_eq_true rfl) (sp_C_isOutside (d + 4) v2 (0 : Int) (4 : Int) M  ?_)
    show X 9 [.inr 1, .inl v1, .inl v2, .inl v3, .inr 0, .inr 0] [.inl (jx_b (v2 < (0 : Int) ∨ (4 : Int) < v2))] M
    refine jk_zneB (pc := 9) hX 15 rfl (fun q36 => ?_) (fun q37 => ?_)
    · have h3 := h2.1 q36
      refine jk_const (pc := 15) hX (-1) rfl (by decide) ?_
      exact jk_iret (pc := 16) hX rfl h3
    · have h4 := h2.2 q37
      refine jk_load (pc := 10) hX 3 rfl rfl ?_
      refine jk_const (pc := 11) hX 0 rfl (by decide) ?_
      refine jk_const (pc := 12) hX 99 rfl (by decide) ?_
      refine jk_cs (pc := 13) hX 79 3 rfl [.inl v3, .inl 0, .inl 99] [] rfl rfl (Nat.le_of_ble_eq_true rfl) (sp_C_isOutside (d + 4) v3 (0 : Int) (99 : Int) M  ?_)
      show X 14 [.inr 1, .inl v1, .inl v2, .inl v3, .inr 0, .inr 0] [.inl (jx_b (v3 < (0 : Int) ∨ (99 : Int) < v3))] M
      refine jk_zeqB (pc := 14) hX 17 rfl (fun q34 => ?_) (fun q35 => ?_)
      · have h5 := h4.1 q34
        obtain ⟨g7, h33⟩ := h5
        refine jk_aload (pc := 17) hX 0 rfl rfl ?_
        refine jk_getR (pc := 18) hX 6 1 rfl rfl (r := 3) rfl ?_
        refine jk_getR (pc := 19) hX 3 0 rfl rfl (r := 4) rfl ?_
        refine jk_astore (pc := 20) hX 4 rfl (Nat.le_of_ble_eq_true rfl) (ls' := [.inr 1, .inl v1, .inl v2, .inl v3, .inr 5, .inr 0]) rfl ?_
        refine jk_aload (pc := 21) hX 4 rfl rfl ?_
        refine jk_aload (pc := 22) hX 0 rfl rfl ?_
        refine jk_getR (pc := 23) hX 6 0 rfl rfl (r := 1) rfl ?_
        refine jk_load (pc := 24) hX 1 rfl rfl ?_
        refine jk_load (pc := 25) hX 2 rfl rfl ?_
        refine jk_cv (pc := 26) hX 5 3 0 rfl 5 [.inr 2, .inl v1, .inl v2] [] rfl rfl rfl (Nat.le_of_ble_eq_true rfl) (sp_D_holds (d + 3) v1 v2 M g7 ?_)
        show X 27 [.inr 1, .inl v1, .inl v2, .inl v3, .inr 5, .inr 0] [.inl (jx_b (d_holds M v1 v2))] M
        refine jk_zeqB (pc := 27) hX 30 rfl (fun q31 => ?_) (fun q32 => ?_)
        · have h8 := h33.1 q31
          refine jk_aload (pc := 30) hX 4 rfl rfl ?_
          refine jk_getI (pc := 31) hX 0 6 rfl rfl rfl ?_
          refine jk_const (pc := 32) hX 20 rfl (by decide) ?_
          refine jk_clt (pc := 33) hX 36 rfl (fun q29 => ?_) (fun q30 => ?_)
          · have h10 := h8.1 q29
            refine jk_aload (pc := 36) hX 0 rfl rfl ?_
            refine jk_getR (pc := 37) hX 6 0 rfl rfl (r := 1) rfl ?_
            refine jk_cv (pc := 38) hX 44 0 5 rfl 2 [] [] rfl rfl rfl (Nat.le_of_ble_eq_true rfl) (jx_mono (fun r M13 hr => ?_) h10)
            obtain ⟨r12, rfl, h14⟩ := hr
            show X 39 [.inr 1, .inl v1, .inl v2, .inl v3, .inr 5, .inr 0] [.inl r12] M13
            refine jk_store (pc := 39) hX 5 rfl (Nat.le_of_ble_eq_true rfl) (ls' := [.inr 1, .inl v1, .inl v2, .inl v3, .inr 5, .inl r12]) rfl ?_
            refine jk_load (pc := 40) hX 5 rfl rfl ?_
            refine jk_const (pc := 41) hX (-1) rfl (by decide) ?_
            refine jk_ceq (pc := 42) hX 47 rfl (fun q27 => ?_) (fun q28 => ?_)
            · have h15 := h14.1 q27
              refine jk_aload (pc := 47) hX 0 rfl rfl ?_
              refine jk_cv (pc := 48) hX 72 0 6 rfl 1 [] [] rfl rfl rfl (Nat.le_of_ble_eq_true rfl) (jx_mono (fun r M18 hr => ?_) h15)
              obtain ⟨rfl, h19⟩ := hr
              show X 49 [.inr 1, .inl v1, .inl v2, .inl v3, .inr 5, .inl r12] [] M18
              refine jk_aload (pc := 49) hX 4 rfl rfl ?_
              refine jk_aload (pc := 50) hX 0 rfl rfl ?_
              refine jk_getR (pc := 51) hX 6 0 rfl rfl (r := 1) rfl ?_
              refine jk_load (pc := 52) hX 1 rfl rfl ?_
              refine jk_load (pc := 53) hX 2 rfl rfl ?_
              refine jk_load (pc := 54) hX 3 rfl rfl ?_
              refine jk_cv (pc := 55) hX 1 4 0 rfl 5 [.inr 2, .inl v1, .inl v2, .inl v3] [] rfl rfl rfl (Nat.le_of_ble_eq_true rfl) (jx_mono (fun r M21 hr => ?_) h19)
              obtain ⟨rfl, h22⟩ := hr
              show X 56 [.inr 1, .inl v1, .inl v2, .inl v3, .inr 5, .inl r12] [] M21
              obtain ⟨g23, h24⟩ := h22
              refine jk_aload (pc := 56) hX 0 rfl rfl ?_
              refine jk_getR (pc := 57) hX 6 0 rfl rfl (r := 1) rfl ?_
              refine jk_const (pc := 58) hX 0 rfl (by decide) ?_
              refine jk_put (pc := 59) hX 5 1 rfl rfl rfl ?_
              refine jk_aload (pc := 60) hX 4 rfl rfl ?_
              refine jk_getI (pc := 61) hX 0 6 rfl rfl rfl (jx_vX (jx_upc (by decide)) ?_)
              refine jk_const (pc := 62) hX 1 rfl (by decide) ?_
              refine jk_sub (pc := 63) hX rfl g23 ?_
              exact jk_iret (pc := 64) hX rfl h24
            · have h16 := h14.2 q28
              obtain ⟨g25, h26⟩ := h16
              refine jk_const (pc := 43) hX (-10) rfl (by decide) ?_
              refine jk_load (pc := 44) hX 5 rfl rfl ?_
              refine jk_sub (pc := 45) hX rfl g25 ?_
              exact jk_iret (pc := 46) hX rfl h26
          · have h11 := h8.2 q30
            refine jk_const (pc := 34) hX (-3) rfl (by decide) ?_
            exact jk_iret (pc := 35) hX rfl h11
        · have h9 := h33.2 q32
          refine jk_const (pc := 28) hX (-2) rfl (by decide) ?_
          exact jk_iret (pc := 29) hX rfl h9
      · have h6 := h4.2 q35
        refine jk_const (pc := 15) hX (-1) rfl (by decide) ?_
        exact jk_iret (pc := 16) hX rfl h6
set_option maxHeartbeats 4000000 in
theorem bk_C_removeEntry_0 {d : Nat} {K : jxK} {X : jxX} (hX : jx_clo jx_G1 (d + 5) (jx_call jx_G1 jx_T (d + 5)) kc_C_removeEntry K X) (v1 : Int) (M : jxM)
    (h : (((0 : Int) ≤ (M 5 6) ∧ (M 5 6) ≤ 20)) ∧ ((¬ (v1 < 0 ∨ (M 5 6) ≤ v1) → jx_call jx_G1 jx_T (d + 5) 72 [.inr 1] M (fun r M5 => r = none ∧ jx_call jx_G1 jx_T (d + 5) 2 [.inr 5, .inl v1] M5 (fun r M8 => r = none ∧ K (some (.inl (M8 5 6))) M8))) ∧ (v1 < 0 ∨ (M 5 6) ≤ v1 → K (some (.inl (-1))) M))) :
    X 0 [.inr 1, .inl v1] [] M := by
  obtain ⟨g1, h12⟩ := h
  refine jk_aload (pc := 0) hX 0 rfl rfl ?_
  refine jk_load (pc := 1) hX 1 rfl rfl ?_
  refine jk_cv (pc := 2) hX 75 1 6 rfl 1 [.inl v1] [] rfl rfl rfl (Nat.le_of_ble_eq_true rfl) (sp_C_isNoEntry (d + 3) v1 M g1 ?_)
  show X 3 [.inr 1, .inl v1] [.inl (jx_b (v1 < 0 ∨ (M 5 6) ≤ v1))] M
  refine jk_zeqB (pc := 3) hX 6 rfl (fun q10 => ?_) (fun q11 => ?_)
  · have h2 := h12.1 q10
    refine jk_aload (pc := 6) hX 0 rfl rfl ?_
    refine jk_cv (pc := 7) hX 72 0 6 rfl 1 [] [] rfl rfl rfl (Nat.le_of_ble_eq_true rfl) (jx_mono (fun r M5 hr => ?_) h2)
    obtain ⟨rfl, h6⟩ := hr
    show X 8 [.inr 1, .inl v1] [] M5
    refine jk_aload (pc := 8) hX 0 rfl rfl ?_
    refine jk_getR (pc := 9) hX 6 1 rfl rfl (r := 3) rfl ?_
    refine jk_getR (pc := 10) hX 3 0 rfl rfl (r := 4) rfl ?_
    refine jk_load (pc := 11) hX 1 rfl rfl ?_
    refine jk_cv (pc := 12) hX 2 1 0 rfl 5 [.inl v1] [] rfl rfl rfl (Nat.le_of_ble_eq_true rfl) (jx_mono (fun r M8 hr => ?_) h6)
    obtain ⟨rfl, h9⟩ := hr
    show X 13 [.inr 1, .inl v1] [] M8
    refine jk_aload (pc := 13) hX 0 rfl rfl ?_
    refine jk_getR (pc := 14) hX 6 1 rfl rfl (r := 3) rfl ?_
    refine jk_getR (pc := 15) hX 3 0 rfl rfl (r := 4) rfl ?_
    refine jk_getI (pc := 16) hX 0 6 rfl rfl rfl ?_
    exact jk_iret (pc := 17) hX rfl h9
  · have h3 := h12.2 q11
    refine jk_const (pc := 4) hX (-1) rfl (by decide) ?_
    exact jk_iret (pc := 5) hX rfl h3
set_option maxHeartbeats 4000000 in
theorem bk_C_setConnection_0 {d : Nat} {K : jxK} {X : jxX} (hX : jx_clo jx_G1 (d + 5) (jx_call jx_G1 jx_T (d + 5)) kc_C_setConnection K X) (v1 : Int) (v2 : Int) (v3 : Int) (M : jxM)
    (h : ((v1 < (0 : Int) ∨ (6 : Int) < v1 → K (some (.inl (-1))) M) ∧ (¬ (v1 < (0 : Int) ∨ (6 : Int) < v1) → ((v2 < (0 : Int) ∨ (6 : Int) < v2 → K (some (.inl (-1))) M) ∧ (¬ (v2 < (0 : Int) ∨ (6 : Int) < v2) → ((¬ (v3 < (0 : Int) ∨ (99 : Int) < v3) → jx_call jx_G1 jx_T (d + 5) 72 [.inr 1] M (fun r M8 => r = none ∧ (((0 : Int) ≤ v1 ∧ v1 ≤ 6 ∧ (0 : Int) ≤ v2 ∧ v2 ≤ 6) ∧ ((-2147483648 : Int) ≤ v1 * 7 ∧ v1 * 7 ≤ 2147483647) ∧ ((-2147483648 : Int) ≤ (v1 * 7) + v2 ∧ (v1 * 7) + v2 ≤ 2147483647) ∧ (0 ≤ ((v1 * 7) + v2) ∧ ((v1 * 7) + v2) < 49)) ∧ K (some (.inl ((M8 12 (v1 * 7 + v2))))) (jx_up M8 12 ((v1 * 7) + v2) v3))) ∧ (v3 < (0 : Int) ∨ (99 : Int) < v3 → K (some (.inl (-1))) M))))))) :
    X 0 [.inr 1, .inl v1, .inl v2, .inl v3, .inr 0] [] M := by
  refine jk_load (pc := 0) hX 1 rfl rfl ?_
  refine jk_const (pc := 1) hX 0 rfl (by decide) ?_
  refine jk_const (pc := 2) hX 6 rfl (by decide) ?_
  refine jk_cs (pc := 3) hX 79 3 rfl [.inl v1, .inl 0, .inl 6] [] rfl rfl (Nat.le_of_ble_eq_true rfl) (sp_C_isOutside (d + 4) v1 (0 : Int) (6 : Int) M  ?_)
  show X 4 [.inr 1, .inl v1, .inl v2, .inl v3, .inr 0] [.inl (jx_b (v1 < (0 : Int) ∨ (6 : Int) < v1))] M
  refine jk_zneB (pc := 4) hX 15 rfl (fun q19 => ?_) (fun q20 => ?_)
  · have h1 := h.1 q19
    refine jk_const (pc := 15) hX (-1) rfl (by decide) ?_
    exact jk_iret (pc := 16) hX rfl h1
  · have h2 := h.2 q20
    refine jk_load (pc := 5) hX 2 rfl rfl ?_
    refine jk_const (pc := 6) hX 0 rfl (by decide) ?_
    refine jk_const (pc := 7) hX 6 rfl (by decide) ?_
    refine jk_cs (pc := 8) hX 79 3 rfl [.inl v2, .inl 0, .inl 6] [] rfl rfl (Nat.le_of_ble_eq_true rfl) (sp_C_isOutside (d + 4) v2 (0 : Int) (6 : Int) M  ?_)
    show X 9 [.inr 1, .inl v1, .inl v2, .inl v3, .inr 0] [.inl (jx_b (v2 < (0 : Int) ∨ (6 : Int) < v2))] M
    refine jk_zneB (pc := 9) hX 15 rfl (fun q17 => ?_) (fun q18 => ?_)
    · have h3 := h2.1 q17
      refine jk_const (pc := 15) hX (-1) rfl (by decide) ?_
      exact jk_iret (pc := 16) hX rfl h3
    · have h4 := h2.2 q18
      refine jk_load (pc := 10) hX 3 rfl rfl ?_
      refine jk_const (pc := 11) hX 0 rfl (by decide) ?_
      refine jk_const (pc := 12) hX 99 rfl (by decide) ?_
      refine jk_cs (pc := 13) hX 79 3 rfl [.inl v3, .inl 0, .inl 99] [] rfl rfl (Nat.le_of_ble_eq_true rfl) (sp_C_isOutside (d + 4) v3 (0 : Int) (99 : Int) M  ?_)
      show X 14 [.inr 1, .inl v1, .inl v2, .inl v3, .inr 0] [.inl (jx_b (v3 < (0 : Int) ∨ (99 : Int) < v3))] M
      refine jk_zeqB (pc := 14) hX 17 rfl (fun q15 => ?_) (fun q16 => ?_)
      · have h5 := h4.1 q15
        refine jk_aload (pc := 17) hX 0 rfl rfl ?_
        refine jk_cv (pc := 18) hX 72 0 6 rfl 1 [] [] rfl rfl rfl (Nat.le_of_ble_eq_true rfl) (jx_mono (fun r M8 hr => ?_) h5)
        obtain ⟨rfl, h9⟩ := hr
        show X 19 [.inr 1, .inl v1, .inl v2, .inl v3, .inr 0] [] M8
        obtain ⟨⟨g10, g11, g12, g13⟩, h14⟩ := h9
        refine jk_aload (pc := 19) hX 0 rfl rfl ?_
        refine jk_getR (pc := 20) hX 6 1 rfl rfl (r := 3) rfl ?_
        refine jk_load (pc := 21) hX 1 rfl rfl ?_
        refine jk_load (pc := 22) hX 2 rfl rfl ?_
        refine jk_cv (pc := 23) hX 18 2 3 rfl 4 [.inl v1, .inl v2] [] rfl rfl rfl (Nat.le_of_ble_eq_true rfl) (sp_M_connection (d + 4) v1 v2 M8 g10 ?_)
        show X 24 [.inr 1, .inl v1, .inl v2, .inl v3, .inr 0] [.inl ((M8 12 (v1 * 7 + v2)))] M8
        refine jk_store (pc := 24) hX 4 rfl (Nat.le_of_ble_eq_true rfl) (ls' := [.inr 1, .inl v1, .inl v2, .inl v3, .inl ((M8 12 (v1 * 7 + v2)))]) rfl ?_
        refine jk_aload (pc := 25) hX 0 rfl rfl ?_
        refine jk_getR (pc := 26) hX 6 1 rfl rfl (r := 3) rfl ?_
        refine jk_getR (pc := 27) hX 3 1 rfl rfl (r := 11) rfl ?_
        refine jk_load (pc := 28) hX 1 rfl rfl ?_
        refine jk_const (pc := 29) hX 7 rfl (by decide) ?_
        refine jk_mul (pc := 30) hX rfl g11 ?_
        refine jk_load (pc := 31) hX 2 rfl rfl ?_
        refine jk_add (pc := 32) hX rfl g12 ?_
        refine jk_load (pc := 33) hX 3 rfl rfl ?_
        refine jk_iast (pc := 34) hX 49 rfl rfl g13 ?_
        refine jk_load (pc := 35) hX 4 rfl rfl ?_
        exact jk_iret (pc := 36) hX rfl h14
      · have h6 := h4.2 q16
        refine jk_const (pc := 15) hX (-1) rfl (by decide) ?_
        exact jk_iret (pc := 16) hX rfl h6
set_option maxHeartbeats 4000000 in
theorem bk_C_setUnknownCost_0 {d : Nat} {K : jxK} {X : jxX} (hX : jx_clo jx_G1 (d + 5) (jx_call jx_G1 jx_T (d + 5)) kc_C_setUnknownCost K X) (v1 : Int) (M : jxM)
    (h : ((¬ (v1 < (0 : Int) ∨ (200 : Int) < v1) → jx_call jx_G1 jx_T (d + 5) 72 [.inr 1] M (fun r M4 => r = none ∧ K (some (.inl (M4 4 4))) (jx_up M4 4 4 v1))) ∧ (v1 < (0 : Int) ∨ (200 : Int) < v1 → K (some (.inl (-1))) M))) :
    X 0 [.inr 1, .inl v1, .inr 0] [] M := by
  refine jk_load (pc := 0) hX 1 rfl rfl ?_
  refine jk_const (pc := 1) hX 0 rfl (by decide) ?_
  refine jk_const (pc := 2) hX 200 rfl (by decide) ?_
  refine jk_cs (pc := 3) hX 79 3 rfl [.inl v1, .inl 0, .inl 200] [] rfl rfl (Nat.le_of_ble_eq_true rfl) (sp_C_isOutside (d + 4) v1 (0 : Int) (200 : Int) M  ?_)
  show X 4 [.inr 1, .inl v1, .inr 0] [.inl (jx_b (v1 < (0 : Int) ∨ (200 : Int) < v1))] M
  refine jk_zeqB (pc := 4) hX 7 rfl (fun q6 => ?_) (fun q7 => ?_)
  · have h1 := h.1 q6
    refine jk_aload (pc := 7) hX 0 rfl rfl ?_
    refine jk_cv (pc := 8) hX 72 0 6 rfl 1 [] [] rfl rfl rfl (Nat.le_of_ble_eq_true rfl) (jx_mono (fun r M4 hr => ?_) h1)
    obtain ⟨rfl, h5⟩ := hr
    show X 9 [.inr 1, .inl v1, .inr 0] [] M4
    refine jk_aload (pc := 9) hX 0 rfl rfl ?_
    refine jk_getR (pc := 10) hX 6 1 rfl rfl (r := 3) rfl ?_
    refine jk_getI (pc := 11) hX 3 4 rfl rfl rfl ?_
    refine jk_store (pc := 12) hX 2 rfl (Nat.le_of_ble_eq_true rfl) (ls' := [.inr 1, .inl v1, .inl (M4 4 4)]) rfl ?_
    refine jk_aload (pc := 13) hX 0 rfl rfl ?_
    refine jk_getR (pc := 14) hX 6 1 rfl rfl (r := 3) rfl ?_
    refine jk_load (pc := 15) hX 1 rfl rfl ?_
    refine jk_put (pc := 16) hX 3 4 rfl rfl rfl ?_
    refine jk_load (pc := 17) hX 2 rfl rfl ?_
    exact jk_iret (pc := 18) hX rfl h5
  · have h2 := h.2 q7
    refine jk_const (pc := 5) hX (-1) rfl (by decide) ?_
    exact jk_iret (pc := 6) hX rfl h2
set_option maxHeartbeats 4000000 in
theorem bk_C_setInput_0 {d : Nat} {K : jxK} {X : jxX} (hX : jx_clo jx_G1 (d + 5) (jx_call jx_G1 jx_T (d + 5)) kc_C_setInput K X) (M : jxM)
    (h : (((0 : Int) ≤ (M 2 1) ∧ (M 2 1) ≤ 20)) ∧ (((t_err (M 3) (16 : Int) (-1) 0 ((M 2 1)).toNat) = (-1) → jx_call jx_G1 jx_T (d + 5) 72 [.inr 1] M (fun r M5 => r = none ∧ jx_call jx_G1 jx_T (d + 5) 17 [.inr 4, .inr 2] M5 (fun r M8 => r = none ∧ K (some (.inl (M8 4 5))) (jx_up M8 2 1 0)))) ∧ ((t_err (M 3) (16 : Int) (-1) 0 ((M 2 1)).toNat) ≠ (-1) → (((-2147483648 : Int) ≤ (-10) - (t_err (M 3) (16 : Int) (-1) 0 ((M 2 1)).toNat) ∧ (-10) - (t_err (M 3) (16 : Int) (-1) 0 ((M 2 1)).toNat) ≤ 2147483647)) ∧ K (some (.inl ((-10) - (t_err (M 3) (16 : Int) (-1) 0 ((M 2 1)).toNat)))) M))) :
    X 0 [.inr 1, .inr 0] [] M := by
  obtain ⟨g1, h14⟩ := h
  refine jk_aload (pc := 0) hX 0 rfl rfl ?_
  refine jk_getR (pc := 1) hX 6 0 rfl rfl (r := 1) rfl ?_
  refine jk_const (pc := 2) hX 16 rfl (by decide) ?_
  refine jk_cv (pc := 3) hX 45 1 5 rfl 2 [.inl 16] [] rfl rfl rfl (Nat.le_of_ble_eq_true rfl) (sp_T_firstError (d + 3) (16 : Int) M g1 ?_)
  show X 4 [.inr 1, .inr 0] [.inl (t_err (M 3) (16 : Int) (-1) 0 ((M 2 1)).toNat)] M
  refine jk_store (pc := 4) hX 1 rfl (Nat.le_of_ble_eq_true rfl) (ls' := [.inr 1, .inl (t_err (M 3) (16 : Int) (-1) 0 ((M 2 1)).toNat)]) rfl ?_
  refine jk_load (pc := 5) hX 1 rfl rfl ?_
  refine jk_const (pc := 6) hX (-1) rfl (by decide) ?_
  refine jk_ceq (pc := 7) hX 12 rfl (fun q12 => ?_) (fun q13 => ?_)
  · have h2 := h14.1 q12
    refine jk_aload (pc := 12) hX 0 rfl rfl ?_
    refine jk_cv (pc := 13) hX 72 0 6 rfl 1 [] [] rfl rfl rfl (Nat.le_of_ble_eq_true rfl) (jx_mono (fun r M5 hr => ?_) h2)
    obtain ⟨rfl, h6⟩ := hr
    show X 14 [.inr 1, .inl (t_err (M 3) (16 : Int) (-1) 0 ((M 2 1)).toNat)] [] M5
    refine jk_aload (pc := 14) hX 0 rfl rfl ?_
    refine jk_getR (pc := 15) hX 6 1 rfl rfl (r := 3) rfl ?_
    refine jk_aload (pc := 16) hX 0 rfl rfl ?_
    refine jk_getR (pc := 17) hX 6 0 rfl rfl (r := 1) rfl ?_
    refine jk_cv (pc := 18) hX 17 1 3 rfl 4 [.inr 2] [] rfl rfl rfl (Nat.le_of_ble_eq_true rfl) (jx_mono (fun r M8 hr => ?_) h6)
    obtain ⟨rfl, h9⟩ := hr
    show X 19 [.inr 1, .inl (t_err (M 3) (16 : Int) (-1) 0 ((M 2 1)).toNat)] [] M8
    refine jk_aload (pc := 19) hX 0 rfl rfl ?_
    refine jk_getR (pc := 20) hX 6 0 rfl rfl (r := 1) rfl ?_
    refine jk_const (pc := 21) hX 0 rfl (by decide) ?_
    refine jk_put (pc := 22) hX 5 1 rfl rfl rfl ?_
    refine jk_aload (pc := 23) hX 0 rfl rfl ?_
    refine jk_getR (pc := 24) hX 6 1 rfl rfl (r := 3) rfl ?_
    refine jk_getI (pc := 25) hX 3 5 rfl rfl rfl (jx_vX (jx_upc (by decide)) ?_)
    exact jk_iret (pc := 26) hX rfl h9
  · have h3 := h14.2 q13
    obtain ⟨g10, h11⟩ := h3
    refine jk_const (pc := 8) hX (-10) rfl (by decide) ?_
    refine jk_load (pc := 9) hX 1 rfl rfl ?_
    refine jk_sub (pc := 10) hX rfl g10 ?_
    exact jk_iret (pc := 11) hX rfl h11
set_option maxHeartbeats 4000000 in
theorem bk_C_setConstraint_0 {d : Nat} {K : jxK} {X : jxX} (hX : jx_clo jx_G1 (d + 5) (jx_call jx_G1 jx_T (d + 5)) kc_C_setConstraint K X) (v1 : Int) (v2 : Int) (M : jxM)
    (h : (((0 : Int) ≤ (M 4 5) ∧ (M 4 5) ≤ 16)) ∧ ((v1 < 1 ∨ (M 4 5) - 1 < v1 → K (some (.inl (-1))) M) ∧ (¬ (v1 < 1 ∨ (M 4 5) - 1 < v1) → ((¬ (v2 < (0 : Int) ∨ (2 : Int) < v2) → jx_call jx_G1 jx_T (d + 5) 72 [.inr 1] M (fun r M7 => r = none ∧ ((0 ≤ v1 ∧ v1 < 17) ∧ (0 ≤ v1 ∧ v1 < 17)) ∧ K (some (.inl (M7 14 v1))) (jx_up M7 14 v1 v2))) ∧ (v2 < (0 : Int) ∨ (2 : Int) < v2 → K (some (.inl (-1))) M))))) :
    X 0 [.inr 1, .inl v1, .inl v2, .inr 0] [] M := by
  obtain ⟨g1, h16⟩ := h
  refine jk_aload (pc := 0) hX 0 rfl rfl ?_
  refine jk_load (pc := 1) hX 1 rfl rfl ?_
  refine jk_cv (pc := 2) hX 77 1 6 rfl 1 [.inl v1] [] rfl rfl rfl (Nat.le_of_ble_eq_true rfl) (sp_C_isNoInnerGap (d + 3) v1 M g1 ?_)
  show X 3 [.inr 1, .inl v1, .inl v2, .inr 0] [.inl (jx_b (v1 < 1 ∨ (M 4 5) - 1 < v1))] M
  refine jk_zneB (pc := 3) hX 9 rfl (fun q14 => ?_) (fun q15 => ?_)
  · have h2 := h16.1 q14
    refine jk_const (pc := 9) hX (-1) rfl (by decide) ?_
    exact jk_iret (pc := 10) hX rfl h2
  · have h3 := h16.2 q15
    refine jk_load (pc := 4) hX 2 rfl rfl ?_
    refine jk_const (pc := 5) hX 0 rfl (by decide) ?_
    refine jk_const (pc := 6) hX 2 rfl (by decide) ?_
    refine jk_cs (pc := 7) hX 79 3 rfl [.inl v2, .inl 0, .inl 2] [] rfl rfl (Nat.le_of_ble_eq_true rfl) (sp_C_isOutside (d + 4) v2 (0 : Int) (2 : Int) M  ?_)
    show X 8 [.inr 1, .inl v1, .inl v2, .inr 0] [.inl (jx_b (v2 < (0 : Int) ∨ (2 : Int) < v2))] M
    refine jk_zeqB (pc := 8) hX 11 rfl (fun q12 => ?_) (fun q13 => ?_)
    · have h4 := h3.1 q12
      refine jk_aload (pc := 11) hX 0 rfl rfl ?_
      refine jk_cv (pc := 12) hX 72 0 6 rfl 1 [] [] rfl rfl rfl (Nat.le_of_ble_eq_true rfl) (jx_mono (fun r M7 hr => ?_) h4)
      obtain ⟨rfl, h8⟩ := hr
      show X 13 [.inr 1, .inl v1, .inl v2, .inr 0] [] M7
      obtain ⟨⟨g9, g10⟩, h11⟩ := h8
      refine jk_aload (pc := 13) hX 0 rfl rfl ?_
      refine jk_getR (pc := 14) hX 6 1 rfl rfl (r := 3) rfl ?_
      refine jk_getR (pc := 15) hX 3 3 rfl rfl (r := 13) rfl ?_
      refine jk_load (pc := 16) hX 1 rfl rfl ?_
      refine jk_iald (pc := 17) hX 17 rfl rfl g9 ?_
      refine jk_store (pc := 18) hX 3 rfl (Nat.le_of_ble_eq_true rfl) (ls' := [.inr 1, .inl v1, .inl v2, .inl (M7 14 v1)]) rfl ?_
      refine jk_aload (pc := 19) hX 0 rfl rfl ?_
      refine jk_getR (pc := 20) hX 6 1 rfl rfl (r := 3) rfl ?_
      refine jk_getR (pc := 21) hX 3 3 rfl rfl (r := 13) rfl ?_
      refine jk_load (pc := 22) hX 1 rfl rfl ?_
      refine jk_load (pc := 23) hX 2 rfl rfl ?_
      refine jk_iast (pc := 24) hX 17 rfl rfl g10 ?_
      refine jk_load (pc := 25) hX 3 rfl rfl ?_
      exact jk_iret (pc := 26) hX rfl h11
    · have h5 := h3.2 q13
      refine jk_const (pc := 9) hX (-1) rfl (by decide) ?_
      exact jk_iret (pc := 10) hX rfl h5
set_option maxHeartbeats 4000000 in
theorem bk_C_forget_0 {d : Nat} {K : jxK} {X : jxX} (hX : jx_clo jx_G1 (d + 5) (jx_call jx_G1 jx_T (d + 5)) kc_C_forget K X) (M : jxM)
    (h : ((((0 : Int) ≤ (M 5 6) ∧ (M 5 6) ≤ 20) ∧ ∀ e, (0 : Int) ≤ e → e < (M 5 6) → (0 : Int) ≤ M 11 e ∧ M 11 e ≤ 9)) ∧ (((j_sum (M 11) ((M 5 6)).toNat) ≠ 0 → jx_call jx_G1 jx_T (d + 5) 72 [.inr 1] M (fun r M5 => r = none ∧ jx_call jx_G1 jx_T (d + 5) 127 [.inr 11, .inl 0] M5 (fun r M8 => r = none ∧ K (some (.inl (j_sum (M 11) ((M 5 6)).toNat))) M8))) ∧ ((j_sum (M 11) ((M 5 6)).toNat) = 0 → K (some (.inl (-2))) M))) :
    X 0 [.inr 1, .inr 0] [] M := by
  obtain ⟨g1, h12⟩ := h
  refine jk_aload (pc := 0) hX 0 rfl rfl ?_
  refine jk_getR (pc := 1) hX 6 1 rfl rfl (r := 3) rfl ?_
  refine jk_getR (pc := 2) hX 3 0 rfl rfl (r := 4) rfl ?_
  refine jk_cv (pc := 3) hX 8 0 0 rfl 5 [] [] rfl rfl rfl (Nat.le_of_ble_eq_true rfl) (sp_D_sumOfUses (d + 4)  M g1 ?_)
  show X 4 [.inr 1, .inr 0] [.inl (j_sum (M 11) ((M 5 6)).toNat)] M
  refine jk_store (pc := 4) hX 1 rfl (Nat.le_of_ble_eq_true rfl) (ls' := [.inr 1, .inl (j_sum (M 11) ((M 5 6)).toNat)]) rfl ?_
  refine jk_load (pc := 5) hX 1 rfl rfl ?_
  refine jk_zne (pc := 6) hX 9 rfl (fun q10 => ?_) (fun q11 => ?_)
  · have h2 := h12.1 q10
    refine jk_aload (pc := 9) hX 0 rfl rfl ?_
    refine jk_cv (pc := 10) hX 72 0 6 rfl 1 [] [] rfl rfl rfl (Nat.le_of_ble_eq_true rfl) (jx_mono (fun r M5 hr => ?_) h2)
    obtain ⟨rfl, h6⟩ := hr
    show X 11 [.inr 1, .inl (j_sum (M 11) ((M 5 6)).toNat)] [] M5
    refine jk_aload (pc := 11) hX 0 rfl rfl ?_
    refine jk_getR (pc := 12) hX 6 1 rfl rfl (r := 3) rfl ?_
    refine jk_getR (pc := 13) hX 3 0 rfl rfl (r := 4) rfl ?_
    refine jk_getR (pc := 14) hX 0 5 rfl rfl (r := 10) rfl ?_
    refine jk_const (pc := 15) hX 0 rfl (by decide) ?_
    refine jk_cs (pc := 16) hX 127 2 rfl [.inr 11, .inl 0] [] rfl rfl (Nat.le_of_ble_eq_true rfl) (jx_mono (fun r M8 hr => ?_) h6)
    obtain ⟨rfl, h9⟩ := hr
    show X 17 [.inr 1, .inl (j_sum (M 11) ((M 5 6)).toNat)] [] M8
    refine jk_load (pc := 17) hX 1 rfl rfl ?_
    exact jk_iret (pc := 18) hX rfl h9
  · have h3 := h12.2 q11
    refine jk_const (pc := 7) hX (-2) rfl (by decide) ?_
    exact jk_iret (pc := 8) hX rfl h3
set_option maxHeartbeats 4000000 in
theorem bk_C_undo_0 {d : Nat} {K : jxK} {X : jxX} (hX : jx_clo jx_G1 (d + 4) (jx_call jx_G1 jx_T (d + 4)) kc_C_undo K X) (M : jxM)
    (h : (((M 15 2) ≠ 0 → jx_call jx_G1 jx_T (d + 4) 10 [.inr 15, .inr 4] M (fun r M4 => r = none ∧ K (some (.inl (M4 15 2))) (jx_up M4 1 5 1))) ∧ ((M 15 2) = 0 → K (some (.inl (-2))) M))) :
    X 0 [.inr 1] [] M := by
  refine jk_aload (pc := 0) hX 0 rfl rfl ?_
  refine jk_getR (pc := 1) hX 6 2 rfl rfl (r := 14) rfl ?_
  refine jk_getI (pc := 2) hX 1 2 rfl rfl rfl ?_
  refine jk_zne (pc := 3) hX 6 rfl (fun q6 => ?_) (fun q7 => ?_)
  · have h1 := h.1 q6
    refine jk_aload (pc := 6) hX 0 rfl rfl ?_
    refine jk_getR (pc := 7) hX 6 2 rfl rfl (r := 14) rfl ?_
    refine jk_aload (pc := 8) hX 0 rfl rfl ?_
    refine jk_getR (pc := 9) hX 6 1 rfl rfl (r := 3) rfl ?_
    refine jk_cv (pc := 10) hX 10 1 1 rfl 15 [.inr 4] [] rfl rfl rfl (Nat.le_of_ble_eq_true rfl) (jx_mono (fun r M4 hr => ?_) h1)
    obtain ⟨rfl, h5⟩ := hr
    show X 11 [.inr 1] [] M4
    refine jk_aload (pc := 11) hX 0 rfl rfl ?_
    refine jk_const (pc := 12) hX 1 rfl (by decide) ?_
    refine jk_putZ (pc := 13) hX 6 5 rfl rfl rfl (Or.inr rfl) ?_
    refine jk_aload (pc := 14) hX 0 rfl rfl ?_
    refine jk_getR (pc := 15) hX 6 2 rfl rfl (r := 14) rfl ?_
    refine jk_getI (pc := 16) hX 1 2 rfl rfl rfl (jx_vX (jx_upc (by decide)) ?_)
    exact jk_iret (pc := 17) hX rfl h5
  · have h2 := h.2 q7
    refine jk_const (pc := 4) hX (-2) rfl (by decide) ?_
    exact jk_iret (pc := 5) hX rfl h2
