/-- the least cost up to a gap with the connection to class c, over the first k classes -/
def r_bef (M : jxM) (g c : Int) : Nat → Int
  | 0 => 1000000
  | k + 1 => min (r_bef M g c k) (M 91 (g * 7 + k) + M 12 ((k : Int) * 7 + c))
theorem sp_R_leastBefore (d : Nat) (g c : Int) (M : jxM) (h1 : (0 ≤ g ∧ g ≤ 16) ∧ (0 ≤ c ∧ c ≤ 6) ∧ (∀ x, 0 ≤ x → x < 119 → 0 ≤ M 91 x ∧ M 91 x ≤ 1000000) ∧ (∀ x, 0 ≤ x → x < 49 → 0 ≤ M 12 x ∧ M 12 x ≤ 99)) {K : jxK} (h : K (some (.inl (r_bef M g c 7))) M) : jx_call jx_G1 jx_T (d + 2) 23 [.inr 90, .inl g, .inl c] M K := by
  obtain ⟨hg, hc, h2, h3⟩ := h1
  intro X hX
  refine bk_R_leastBefore_0 (d := d) hX g c M ?_
  refine jx_loop (σ := Int) 7 (fun i s => 0 ≤ i ∧ i ≤ 7 ∧ s = r_bef M g c i.toNat) (fun i s => X 4 [.inr 90, .inl g, .inl c, .inl s, .inl i, .inr 0] [] M) ?_ 0 _ ⟨by omega, by omega, rfl⟩
  intro i s ⟨i1, i2, i3⟩ ih
  refine bk_R_leastBefore_4 (d := d) hX g c s i M ⟨fun q => ?_, fun q => ?_⟩
  · obtain rfl : i = 7 := by omega
    rw [i3]; exact h
  · have a := h2 (g * 7 + i) (by omega) (by omega)
    have b := h3 (i * 7 + c) (by omega) (by omega)
    refine ⟨by omega, ih _ q ⟨by omega, by omega, ?_⟩⟩
    rw [show (i + 1).toNat = i.toNat + 1 by omega]
    simp only [r_bef]
    rw [show ((i.toNat : Nat) : Int) = i by omega, i3]
/-- the cheapest head, the first among equal ones -/
def r_hd (M : jxM) : Nat → Int × Int
  | 0 => (-1, 1000000)
  | k + 1 => if M 97 k < (r_hd M k).2 then ((k : Int), M 97 k) else r_hd M k
def r_head (M : jxM) (m : Nat) : Int := (r_hd M m).1
theorem r_hd_spec (M : jxM) (m : Nat) : ((r_hd M m).1 = -1 ∧ (r_hd M m).2 = 1000000 ∧ ∀ j, 0 ≤ j → j < (m : Int) → 1000000 ≤ M 97 j) ∨ (0 ≤ (r_hd M m).1 ∧ (r_hd M m).1 < m ∧ (r_hd M m).2 = M 97 (r_hd M m).1 ∧ M 97 (r_hd M m).1 < 1000000 ∧ (∀ j, 0 ≤ j → j < (r_hd M m).1 → M 97 (r_hd M m).1 < M 97 j) ∧ ∀ j, (r_hd M m).1 < j → j < (m : Int) → M 97 (r_hd M m).1 ≤ M 97 j) := by
  induction m with
  | zero => exact Or.inl ⟨rfl, rfl, fun j a b => by omega⟩
  | succ m ih =>
    simp only [r_hd]
    by_cases z : M 97 m < (r_hd M m).2
    · rw [if_pos z]
      refine Or.inr ⟨by show (0 : Int) ≤ m; omega, by show (m : Int) < _; omega, rfl, ?_, fun j a b => ?_, fun j a b => ?_⟩
      · show M 97 m < 1000000
        rcases ih with ⟨a, b, c⟩ | ⟨a, b, c, e, f, g⟩ <;> omega
      · have b : j < (m : Int) := b
        show M 97 m < M 97 j
        rcases ih with ⟨a1, b1, c1⟩ | ⟨a1, b1, c1, e1, f1, g1⟩
        · have := c1 j a b; omega
        · rcases Int.lt_or_le j (r_hd M m).1 with w | w
          · have := f1 j a w; omega
          · by_cases w2 : j = (r_hd M m).1
            · rw [w2]; omega
            · have := g1 j (by omega) b; omega
      · have a : (m : Int) < j := a
        omega
    · rw [if_neg z]
      rcases ih with ⟨a, b, c⟩ | ⟨a, b, c, e, f, g⟩
      · refine Or.inl ⟨a, b, fun j j1 j2 => ?_⟩
        by_cases w : j = m
        · rw [w]; omega
        · exact c j j1 (by omega)
      · refine Or.inr ⟨a, by omega, c, e, f, fun j j1 j2 => ?_⟩
        by_cases w : j = m
        · rw [w]; omega
        · exact g j j1 (by omega)
theorem r_head_spec (M : jxM) (m : Nat) : (r_head M m = -1 ∧ ∀ j, 0 ≤ j → j < (m : Int) → 1000000 ≤ M 97 j) ∨ (0 ≤ r_head M m ∧ r_head M m < m ∧ M 97 (r_head M m) < 1000000 ∧ (∀ j, 0 ≤ j → j < r_head M m → M 97 (r_head M m) < M 97 j) ∧ ∀ j, r_head M m < j → j < (m : Int) → M 97 (r_head M m) ≤ M 97 j) := by
  rcases r_hd_spec M m with ⟨a, b, c⟩ | ⟨a, b, c, e, f, g⟩
  · exact Or.inl ⟨a, c⟩
  · exact Or.inr ⟨a, b, e, f, g⟩
theorem sp_R_cheapestHead (d : Nat) (g : Int) (M : jxM) (h1 : (0 ≤ g ∧ g ≤ 16) ∧ M 85 g ≤ 21) {K : jxK} (h : K (some (.inl (r_head M (M 85 g).toNat))) M) : jx_call jx_G1 jx_T (d + 1) 31 [.inr 90, .inl g] M K := by
  intro X hX
  refine bk_R_cheapestHead_0 (d := d) hX g M ?_
  have lp : ∀ (i : Int) (q : Int × Int), (0 ≤ i ∧ (i ≤ M 85 g ∨ i = 0) ∧ q = r_hd M i.toNat) → X 6 [.inr 90, .inl g, .inl q.1, .inl q.2, .inl i] [] M := by
    refine jx_loop (σ := Int × Int) (M 85 g) _ _ ?_
    intro i q ⟨i1, i2, i3⟩ ih
    refine bk_R_cheapestHead_6 (d := d) hX g q.1 q.2 i M ⟨by omega, fun z => ?_, fun z => ⟨by omega, fun z2 => ⟨by omega, ih q z ⟨by omega, Or.inl (by omega), ?_⟩⟩, fun z2 => ⟨by omega, ih (i, M 97 i) z ⟨by omega, Or.inl (by omega), ?_⟩⟩⟩⟩
    · rw [i3, show i.toNat = (M 85 g).toNat by omega]; exact h
    · rw [show (i + 1).toNat = i.toNat + 1 by omega]
      simp only [r_hd]
      rw [show ((i.toNat : Nat) : Int) = i by omega, ← i3, if_neg (by omega)]
    · rw [show (i + 1).toNat = i.toNat + 1 by omega]
      simp only [r_hd]
      rw [show ((i.toNat : Nat) : Int) = i by omega, ← i3, if_pos z2]
  exact lp 0 (-1, 1000000) ⟨by omega, Or.inr rfl, rfl⟩
