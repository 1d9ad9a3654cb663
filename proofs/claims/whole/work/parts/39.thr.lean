def r_thr (M : jxM) (g s : Int) : Int := r_bef M g (M 88 s) 7 + M 89 s + r_from M (M 87 s * 7 + M 88 s)
theorem r_bef_bnd {M : jxM} {g c : Int} (hg : 0 ≤ g ∧ g ≤ 16) (hc : 0 ≤ c ∧ c ≤ 6) (h2 : ∀ x, 0 ≤ x → x < 119 → 0 ≤ M 91 x ∧ M 91 x ≤ 1000000) (h3 : ∀ x, 0 ≤ x → x < 49 → 0 ≤ M 12 x ∧ M 12 x ≤ 99) : ∀ k : Nat, k ≤ 7 → 0 ≤ r_bef M g c k ∧ r_bef M g c k ≤ 1000000 := by
  intro k
  induction k with
  | zero => intro _; simp only [r_bef]; omega
  | succ k ih =>
    intro hk
    have := ih (by omega)
    have a := h2 (g * 7 + k) (by omega) (by omega)
    have b := h3 ((k : Int) * 7 + c) (by omega) (by omega)
    simp only [r_bef]
    omega
theorem sp_R_leastThroughSlot (d : Nat) (g s : Int) (M : jxM) (h1 : ((0 : Int) ≤ g ∧ g ≤ 16) ∧ ((0 : Int) ≤ s ∧ s < 357) ∧ ((0 : Int) ≤ (M 87 s) ∧ (M 87 s) ≤ 16) ∧ ((0 : Int) ≤ (M 88 s) ∧ (M 88 s) ≤ 6) ∧ ((0 : Int) ≤ (M 89 s) ∧ (M 89 s) ≤ 9999) ∧ (∀ x, (0 : Int) ≤ x → x < 119 → (0 : Int) ≤ M 91 x ∧ M 91 x ≤ 1000000) ∧ (∀ x, (0 : Int) ≤ x → x < 49 → (0 : Int) ≤ M 12 x ∧ M 12 x ≤ 99) ∧ (∀ x, (0 : Int) ≤ x → x < 119 → (0 : Int) ≤ r_from M x ∧ r_from M x ≤ 1000000)) {K : jxK} (h : K (some (.inl (r_thr M g s))) M) : jx_call jx_G1 jx_T (d + 3) 39 [.inr 90, .inl g, .inl s] M K := by
  obtain ⟨a1, a2, a3, a4, a5, a6, a7, a8⟩ := h1
  intro X hX
  have b := r_bef_bnd a1 a4 a6 a7 7 (by omega)
  have c := a8 (M 87 s * 7 + M 88 s) (by omega) (by omega)
  exact bk_R_leastThroughSlot_0 (d := d) hX g s M ⟨⟨a2, ⟨a1, a4, a6, a7⟩, a2, by omega, ⟨a2, a3, a4⟩, by omega, by omega⟩, h⟩
