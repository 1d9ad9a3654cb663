def r_thr (M : jxM) (g s : Int) : Int := r_bef M g (M 88 s) 7 + M 89 s + r_from M (M 87 s * 7 + M 88 s)
theorem r_bef_bnd {M : jxM} {g c : Int} (hg : 0 ≤ g ∧ g ≤ 16) (hc : 0 ≤ c ∧ c ≤ 6) (h2 : ∀ x, 0 ≤ x → x < 119 → 0 ≤ M 91 x ∧ M 91 x ≤ 1000000) (h3 : ∀ x, 0 ≤ x → x < 49 → 0 ≤ M 12 x ∧ M 12 x ≤ 99) : ∀ k : Nat, k ≤ 7 → 0 ≤ r_bef M g c k ∧ r_bef M g c k ≤ 1000000 := by
  intro k
  induction k with
  | zero => intro _; simp only [r_bef]; omega
  | succ k ih =>
    intro hk
    have := ih (by omega)
    have a := h2 (g * 7 + k) (by omega) (by omega)
    have b := h3 ((k : Int) * 7 + c) (by omega) (by omega)
    simp only [r_bef]
    omega
theorem sp_R_leastThroughSlot (d : Nat) (g s : Int) (M : jxM) (h1 : ((0 : Int) ≤ g ∧ g ≤ 16) ∧ ((0 : Int) ≤ s ∧ s < 357) ∧ ((0 : Int) ≤ (M 87 s) ∧ (M 87 s) ≤ 16) ∧ ((0 : Int) ≤ (M 88 s) ∧ (M 88 s) ≤ 6) ∧ ((0 : Int) ≤ (M 89 s) ∧ (M 89 s) ≤ 9999) ∧ (∀ x, (0 : Int) ≤ x → x < 119 → (0 : Int) ≤ M 91 x ∧ M 91 x ≤ 1000000) ∧ (∀ x, (0 : Int) ≤ x → x < 49 → (0 : Int) ≤ M 12 x ∧ M 12 x ≤ 99) ∧ (0 : Int) ≤ r_from M ((M 87 s) * 7 + (M 88 s)) ∧ r_from M ((M 87 s) * 7 + (M 88 s)) ≤ 1000000) {K : jxK} (h : K (some (.inl (r_thr M g s))) M) : jx_call jx_G1 jx_T (d + 3) 39 [.inr 90, .inl g, .inl s] M K := by
  obtain ⟨a1, a2, a3, a4, a5, a6, a7, a8⟩ := h1
  intro X hX
  have b := r_bef_bnd a1 a4 a6 a7 7 (by omega)
  exact bk_R_leastThroughSlot_0 (d := d) hX g s M ⟨⟨a2, ⟨a1, a4, a6, a7⟩, a2, by omega, ⟨a2, a3, a4⟩, by omega, by omega⟩, h⟩
def m_b (f : Int → Int) (F : Int) (A : Int → Int) (g s b k : Int) : Prop := 0 ≤ b ∧ b ≤ F ∧ (∀ c, 0 ≤ c → c < k → b ≤ f (7 * g + c) + a_con A c (f_cls A s)) ∧ (b < F → ∃ c, 0 ≤ c ∧ c < k ∧ b = f (7 * g + c) + a_con A c (f_cls A s))
theorem m_b_two {f f' : Int → Int} {F F' : Int} {A : Int → Int} (ho : q_ok A) (hF : 10000 ≤ F) (hF' : 10000 ≤ F') (h : fwI f F A (a_E A)) (h' : fwI f' F' A (a_E A)) {g s b b' : Int} (hg : 0 ≤ g ∧ g ≤ A 271) (hs : 0 ≤ f_cls A s ∧ f_cls A s ≤ 6) (hb : m_b f F A g s b 7) (hb' : m_b f' F' A g s b' 7) : (b < F ↔ b' < F') ∧ (b < F → b = b' ∧ b ≤ 4999) := by
  have hnn := ho.2.2.2.2.1
  have one : ∀ {f f' : Int → Int} {F F' b b' : Int}, 10000 ≤ F → 10000 ≤ F' → fwI f F A (a_E A) → fwI f' F' A (a_E A) → m_b f F A g s b 7 → m_b f' F' A g s b' 7 → b < F → b' < F' ∧ b' ≤ b ∧ b ≤ 4999 := by
    intro f f' F F' b b' hF hF' h h' hb hb' hlt
    obtain ⟨c, c1, c2, c3⟩ := hb.2.2.2 hlt
    have hcn := a_con_bnd ho (l := c) (r := f_cls A s) ⟨c1, by omega⟩ hs
    obtain ⟨t1, t2⟩ := fwI_two ho hF hF' h h' (g.toNat + 1) g c hg.1 hg.2 (by omega) c1 (by omega)
    have hl : f (7 * g + c) < F := by omega
    have e := t2 hl
    have u := (h.1 g c hg.1 hg.2 c1 (by omega)).2 hl
    have w := hb'.2.2.1 c c1 c2
    omega
  refine ⟨⟨fun z => (one hF hF' h h' hb hb' z).1, fun z => (one hF' hF h' h hb' hb z).1⟩, fun z => ?_⟩
  obtain ⟨a1, a2, a3⟩ := one hF hF' h h' hb hb' z
  obtain ⟨c1, c2, c3⟩ := one hF' hF h' h hb' hb a1
  omega
theorem a_seg_in {A : Int → Int} (ho : q_ok A) {e g : Int} (e1 : 0 ≤ e) (e2 : e < A 0) (h1 : f_stands A e g) (h2 : f_may A g (f_end A e g)) : e ∈ a_seg A g := by
  unfold a_seg
  refine List.mem_append.mpr (Or.inl ?_)
  have hE : f_end A e g = g + A (1 + 11 * e) := by unfold f_end; rw [if_neg (by omega)]
  rw [hE] at h2
  have hl := (ho.2.1 e e1 e2).1
  have key : ∀ s : Nat, A (1 + 11 * e) = 6 - (s : Int) → e ∈ j_fl (fun e => A (1 + 11 * e) = 6 - (s : Int) ∧ f_stands A e g ∧ f_may A g (g + (6 - (s : Int)))) (A 0).toNat := fun s hs => (j_fl_mem _).mpr ⟨e1, by omega, hs, h1, by rw [← hs]; exact h2⟩
  simp only [a_fsg, List.mem_append]
  rcases (show A (1 + 11 * e) = 6 - ((0 : Nat) : Int) ∨ A (1 + 11 * e) = 6 - ((1 : Nat) : Int) ∨ A (1 + 11 * e) = 6 - ((2 : Nat) : Int) ∨ A (1 + 11 * e) = 6 - ((3 : Nat) : Int) ∨ A (1 + 11 * e) = 6 - ((4 : Nat) : Int) ∨ A (1 + 11 * e) = 6 - ((5 : Nat) : Int) by omega) with z | z | z | z | z | z
  · exact Or.inl (Or.inl (Or.inl (Or.inl (Or.inl (Or.inr (key 0 z))))))
  · exact Or.inl (Or.inl (Or.inl (Or.inl (Or.inr (key 1 z)))))
  · exact Or.inl (Or.inl (Or.inl (Or.inr (key 2 z))))
  · exact Or.inl (Or.inl (Or.inr (key 3 z)))
  · exact Or.inl (Or.inr (key 4 z))
  · exact Or.inr (key 5 z)
