/-- forward costs: f is right for the edges E that were looked at -/
def fwI (f : Int → Int) (F : Int) (A : Int → Int) (E : Int → Int → Int → Prop) : Prop :=
  (∀ g c, 0 ≤ g → g ≤ A 271 → 0 ≤ c → c ≤ 6 → (0 ≤ f (7 * g + c) ∧ f (7 * g + c) ≤ F) ∧ (f (7 * g + c) < F → f (7 * g + c) ≤ 299 * g)) ∧ f 6 = 0 ∧
  (∀ g c s, E g c s → f (7 * g + c) < F → f (7 * f_end A s g + f_cls A s) ≤ f (7 * g + c) + a_edge A c s) ∧
  (∀ g c, 0 ≤ g → g ≤ A 271 → 0 ≤ c → c ≤ 6 → f (7 * g + c) < F → (g = 0 ∧ c = 6) ∨ ∃ g0 c0 s, E g0 c0 s ∧ f (7 * g0 + c0) < F ∧ f_end A s g0 = g ∧ f_cls A s = c ∧ f (7 * g + c) = f (7 * g0 + c0) + a_edge A c0 s)
def a_E (A : Int → Int) (g c s : Int) : Prop := 0 ≤ g ∧ g < A 271 ∧ 0 ≤ c ∧ c ≤ 6 ∧ s ∈ a_seg A g
/-- all edges from gaps before g, and at g those of the first i segments, and at the i-th those of the first k classes -/
def a_Ei (A : Int → Int) (g : Int) (i : Nat) (k : Int) (g' c s : Int) : Prop := a_E A g' c s ∧ (g' < g ∨ g' = g ∧ (s ∈ (a_seg A g).take i ∨ s = (a_seg A g).getD i 0 ∧ i < (a_seg A g).length ∧ c < k))
theorem a_edge_bnd {A : Int → Int} (ho : q_ok A) {g c s : Int} (h : a_E A g c s) : 0 ≤ a_edge A c s ∧ a_edge A c s ≤ 299 := by
  obtain ⟨h1, h2, h3, h4, h5⟩ := h
  obtain ⟨-, -, m3, m4, -⟩ := a_seg_mem ho ⟨h1, h2⟩ h5
  have := a_con_bnd ho (l := c) (r := f_cls A s) ⟨h3, h4⟩ (by omega)
  unfold a_edge
  omega
theorem fwI_upd {f f' : Int → Int} {F : Int} {A : Int → Int} {E E' : Int → Int → Int → Prop} (ho : q_ok A) (h : fwI f F A E) {g0 s0 v : Int} (hg : 0 ≤ g0 ∧ g0 < A 271) (hs : s0 ∈ a_seg A g0) (hE : ∀ g c s, E g c s → a_E A g c s ∧ g ≤ g0) (hE' : ∀ g c s, E' g c s → a_E A g c s ∧ g ≤ g0) (hEE : ∀ g c s, E g c s → E' g c s) (hv0 : 0 ≤ v)
    (hn : ∀ g c s, E' g c s → E g c s ∨ g = g0 ∧ s = s0 ∧ (f (7 * g0 + c) < F → v ≤ f (7 * g0 + c) + a_edge A c s0)) (hv : v < F → ∃ c0, 0 ≤ c0 ∧ c0 ≤ 6 ∧ E' g0 c0 s0 ∧ f (7 * g0 + c0) < F ∧ v = f (7 * g0 + c0) + a_edge A c0 s0)
    (hf : ∀ x, 0 ≤ x → x < 119 → f' x = if x = 7 * f_end A s0 g0 + f_cls A s0 then min (f x) v else f x) : fwI f' F A E' := by
  obtain ⟨a, b, c, e⟩ := h
  have hnn := ho.2.2.2.2.1
  obtain ⟨-, m2, m3, -, -⟩ := a_seg_mem ho hg hs
  have same : ∀ g c, 0 ≤ g → g ≤ g0 → 0 ≤ c → c ≤ 6 → f' (7 * g + c) = f (7 * g + c) := fun g c g1 g2 c1 c2 => by rw [hf _ (by omega) (by omega), if_neg (by omega)]
  have le : ∀ x, 0 ≤ x → x < 119 → f' x ≤ f x := fun x x1 x2 => by
    rw [hf x x1 x2]
    split <;> omega
  have vb : v < F → v ≤ 299 * f_end A s0 g0 := fun z => by
    obtain ⟨c0, c1, c2, c3, c4, c5⟩ := hv z
    have := (a g0 c0 hg.1 (by omega) c1 c2).2 c4
    have := a_edge_bnd ho (hE' _ _ _ c3).1
    omega
  refine ⟨fun g c' g1 g2 c1 c2 => ?_, ?_, fun g c' s h1 h2 => ?_, fun g c' g1 g2 c1 c2 h1 => ?_⟩
  · have y := a g c' g1 g2 c1 c2
    rw [hf _ (by omega) (by omega)]
    by_cases z : 7 * g + c' = 7 * f_end A s0 g0 + f_cls A s0
    · rw [if_pos z]
      have e1 : g = f_end A s0 g0 := by omega
      refine ⟨by omega, fun w => ?_⟩
      by_cases w2 : v < F
      · have := vb w2
        rw [← e1] at this
        by_cases w3 : f (7 * g + c') < F
        · have := y.2 w3; omega
        · omega
      · have := y.2 (by omega); omega
    · rw [if_neg z]; exact y
  · rw [hf 6 (by omega) (by omega), if_neg (by omega)]; exact b
  · obtain ⟨⟨q1, q2, q3, q4, q5⟩, q6⟩ := hE' g c' s h1
    rw [same g c' q1 q6 q3 q4] at h2 ⊢
    obtain ⟨-, t2, t3, -, -⟩ := a_seg_mem ho ⟨q1, q2⟩ q5
    rcases hn g c' s h1 with w | ⟨rfl, rfl, w⟩
    · exact Int.le_trans (le _ (by omega) (by omega)) (c g c' s w h2)
    · rw [hf _ (by omega) (by omega), if_pos rfl]
      have := w h2
      omega
  · have h2 := h1
    rw [hf _ (by omega) (by omega)] at h2
    by_cases z : 7 * g + c' = 7 * f_end A s0 g0 + f_cls A s0
    · rw [if_pos z] at h2
      by_cases w : f (7 * g + c') ≤ v
      · rcases e g c' g1 g2 c1 c2 (by omega) with y | ⟨g2', c2', s2, y1, y2, y3, y4, y5⟩
        · exact Or.inl y
        · obtain ⟨⟨q1, q2, q3, q4, q5⟩, q6⟩ := hE _ _ _ y1
          refine Or.inr ⟨g2', c2', s2, hEE _ _ _ y1, ?_, y3, y4, ?_⟩
          · rw [same g2' c2' q1 q6 q3 q4]; exact y2
          · rw [same g2' c2' q1 q6 q3 q4, hf _ (by omega) (by omega), if_pos z, ← y5]; omega
      · obtain ⟨c0, k1, k2, k3, k4, k5⟩ := hv (by omega)
        refine Or.inr ⟨g0, c0, s0, k3, ?_, by omega, by omega, ?_⟩
        · rw [same g0 c0 hg.1 (by omega) k1 k2]; exact k4
        · rw [same g0 c0 hg.1 (by omega) k1 k2, hf _ (by omega) (by omega), if_pos z, ← k5]; omega
    · rw [if_neg z] at h2
      rcases e g c' g1 g2 c1 c2 h2 with y | ⟨g2', c2', s2, y1, y2, y3, y4, y5⟩
      · exact Or.inl y
      · obtain ⟨⟨q1, q2, q3, q4, q5⟩, q6⟩ := hE _ _ _ y1
        refine Or.inr ⟨g2', c2', s2, hEE _ _ _ y1, ?_, y3, y4, ?_⟩
        · rw [same g2' c2' q1 q6 q3 q4]; exact y2
        · rw [same g2' c2' q1 q6 q3 q4, hf _ (by omega) (by omega), if_neg z]; exact y5
theorem fwI_E {f : Int → Int} {F : Int} {A : Int → Int} {E E' : Int → Int → Int → Prop} (h : fwI f F A E) (he : ∀ g c s, E g c s ↔ E' g c s) : fwI f F A E' := by
  obtain ⟨a, b, c, e⟩ := h
  refine ⟨a, b, fun g c' s h1 h2 => c g c' s ((he _ _ _).mpr h1) h2, fun g c' g1 g2 c1 c2 h1 => ?_⟩
  rcases e g c' g1 g2 c1 c2 h1 with y | ⟨g2', c2', s2, y1, y⟩
  · exact Or.inl y
  · exact Or.inr ⟨g2', c2', s2, (he _ _ _).mp y1, y⟩
theorem fwI_fr {f f' : Int → Int} {F : Int} {A : Int → Int} {E : Int → Int → Int → Prop} (ho : q_ok A) (hE : ∀ g c s, E g c s → a_E A g c s) (h : fwI f F A E) (hf : ∀ x, 0 ≤ x → x < 119 → f' x = f x) : fwI f' F A E := by
  have hnn := ho.2.2.2.2.1
  obtain ⟨a, b, c, e⟩ := h
  refine ⟨fun g c' g1 g2 c1 c2 => ?_, ?_, fun g c' s h1 h2 => ?_, fun g c' g1 g2 c1 c2 h1 => ?_⟩
  · rw [hf _ (by omega) (by omega)]; exact a g c' g1 g2 c1 c2
  · rw [hf _ (by omega) (by omega)]; exact b
  · obtain ⟨q1, q2, q3, q4, q5⟩ := hE _ _ _ h1
    obtain ⟨-, t2, t3, -, -⟩ := a_seg_mem ho ⟨q1, q2⟩ q5
    rw [hf _ (by omega) (by omega)] at h2 ⊢
    rw [hf _ (by omega) (by omega)]
    exact c g c' s h1 h2
  · rw [hf _ (by omega) (by omega)] at h1
    rcases e g c' g1 g2 c1 c2 h1 with y | ⟨g2', c2', s2, y1, y2, y3, y4, y5⟩
    · exact Or.inl y
    · obtain ⟨q1, q2, q3, q4, q5⟩ := hE _ _ _ y1
      refine Or.inr ⟨g2', c2', s2, y1, ?_, y3, y4, ?_⟩
      · rw [hf _ (by omega) (by omega)]; exact y2
      · rw [hf _ (by omega) (by omega), hf _ (by omega) (by omega)]; exact y5
theorem take_mem_s {l : List Int} {i : Nat} (h : i < l.length) {s : Int} : s ∈ l.take (i + 1) ↔ s ∈ l.take i ∨ s = l.getD i 0 := by rw [take_s h, List.mem_append, List.mem_singleton]
theorem a_Ei_next {A : Int → Int} {g : Int} {i : Nat} (hi : i < (a_seg A g).length) (g' c s : Int) : a_Ei A g i 7 g' c s ↔ a_Ei A g (i + 1) 0 g' c s := by
  unfold a_Ei
  constructor
  · rintro ⟨h1, h2 | ⟨h2, h3 | ⟨h3, h4, h5⟩⟩⟩
    · exact ⟨h1, Or.inl h2⟩
    · exact ⟨h1, Or.inr ⟨h2, Or.inl ((take_mem_s hi).mpr (Or.inl h3))⟩⟩
    · exact ⟨h1, Or.inr ⟨h2, Or.inl ((take_mem_s hi).mpr (Or.inr h3))⟩⟩
  · rintro ⟨h1, h2 | ⟨h2, h3 | ⟨h3, h4, h5⟩⟩⟩
    · exact ⟨h1, Or.inl h2⟩
    · rcases (take_mem_s hi).mp h3 with h3 | h3
      · exact ⟨h1, Or.inr ⟨h2, Or.inl h3⟩⟩
      · exact ⟨h1, Or.inr ⟨h2, Or.inr ⟨h3, hi, by have := h1.2.2.2.1; omega⟩⟩⟩
    · have := h1.2.2.1
      omega
theorem a_Ei_end {A : Int → Int} {g : Int} (g' c s : Int) : a_Ei A g (a_seg A g).length 0 g' c s ↔ a_Ei A (g + 1) 0 0 g' c s := by
  unfold a_Ei
  constructor
  · rintro ⟨h1, h2 | ⟨h2, h3 | ⟨h3, h4, h5⟩⟩⟩
    · exact ⟨h1, Or.inl (by omega)⟩
    · exact ⟨h1, Or.inl (by omega)⟩
    · omega
  · rintro ⟨h1, h2 | ⟨h2, h3 | ⟨h3, h4, h5⟩⟩⟩
    · rcases Int.lt_or_le g' g with w | w
      · exact ⟨h1, Or.inl w⟩
      · obtain rfl : g' = g := by omega
        exact ⟨h1, Or.inr ⟨rfl, Or.inl (by rw [List.take_length]; exact h1.2.2.2.2)⟩⟩
    · rw [List.take_zero] at h3; cases h3
    · have := h1.2.2.1
      omega
theorem a_Ei_all {A : Int → Int} (g' c s : Int) : a_Ei A (A 271) 0 0 g' c s ↔ a_E A g' c s := by
  unfold a_Ei
  constructor
  · exact fun h => h.1
  · exact fun h => ⟨h, Or.inl h.2.1⟩
/-- two such tables agree -/
theorem fwI_two {f f' : Int → Int} {F F' : Int} {A : Int → Int} (ho : q_ok A) (hF : 10000 ≤ F) (hF' : 10000 ≤ F') (h : fwI f F A (a_E A)) (h' : fwI f' F' A (a_E A)) : ∀ (k : Nat) (g c : Int), 0 ≤ g → g ≤ A 271 → g < k → 0 ≤ c → c ≤ 6 → (f (7 * g + c) < F ↔ f' (7 * g + c) < F') ∧ (f (7 * g + c) < F → f (7 * g + c) = f' (7 * g + c)) := by
  have hnn := ho.2.2.2.2.1
  have one : ∀ (f f' : Int → Int) (F F' : Int), 10000 ≤ F' → fwI f F A (a_E A) → fwI f' F' A (a_E A) → ∀ (k : Nat), (∀ g c, 0 ≤ g → g ≤ A 271 → g < k → 0 ≤ c → c ≤ 6 → (f (7 * g + c) < F → f' (7 * g + c) < F' ∧ f' (7 * g + c) = f (7 * g + c))) → ∀ g c, 0 ≤ g → g ≤ A 271 → g < k + 1 → 0 ≤ c → c ≤ 6 → f (7 * g + c) < F → f' (7 * g + c) < F' ∧ f' (7 * g + c) ≤ f (7 * g + c) := by
    intro f f' F F' hF' h h' k ih g c g1 g2 g3 c1 c2 hf
    rcases h.2.2.2 g c g1 g2 c1 c2 hf with ⟨rfl, rfl⟩ | ⟨g0, c0, s, y1, y2, y3, y4, y5⟩
    · have e1 := h.2.1
      have e2 := h'.2.1
      show f' 6 < F' ∧ f' 6 ≤ f 6
      omega
    · obtain ⟨q1, q2, q3, q4, q5⟩ := y1
      obtain ⟨-, m2, -⟩ := a_seg_mem ho ⟨q1, q2⟩ q5
      obtain ⟨z1, z2⟩ := ih g0 c0 q1 (by omega) (by omega) q3 q4 y2
      have z3 := h'.2.2.1 g0 c0 s ⟨q1, q2, q3, q4, q5⟩ z1
      rw [y3, y4] at z3
      have z4 := (h.1 g0 c0 q1 (by omega) q3 q4).2 y2
      have z5 := a_edge_bnd ho (show a_E A g0 c0 s from ⟨q1, q2, q3, q4, q5⟩)
      omega
  have both : ∀ (k : Nat), (∀ g c, 0 ≤ g → g ≤ A 271 → g < k → 0 ≤ c → c ≤ 6 → (f (7 * g + c) < F → f' (7 * g + c) < F' ∧ f' (7 * g + c) = f (7 * g + c)) ∧ (f' (7 * g + c) < F' → f (7 * g + c) < F ∧ f (7 * g + c) = f' (7 * g + c))) := by
    intro k
    induction k with
    | zero => intro g c g1 g2 g3; omega
    | succ k ih =>
      intro g c g1 g2 g3 c1 c2
      have u1 := one f f' F F' hF' h h' k (fun g c a b c' d e => (ih g c a b c' d e).1) g c g1 g2 (by omega) c1 c2
      have u2 := one f' f F' F hF h' h k (fun g c a b c' d e => (ih g c a b c' d e).2) g c g1 g2 (by omega) c1 c2
      refine ⟨fun z => ?_, fun z => ?_⟩
      · have v1 := u1 z
        have v2 := u2 v1.1
        omega
      · have v1 := u2 z
        have v2 := u1 v1.1
        omega
  intro k g c g1 g2 g3 c1 c2
  obtain ⟨z1, z2⟩ := both k g c g1 g2 g3 c1 c2
  exact ⟨⟨fun w => (z1 w).1, fun w => (z2 w).1⟩, fun w => (z1 w).2.symm⟩
/-- what the slots of a gap give -/
theorem q_lat_at {M : jxM} {A : Int → Int} (ho : q_ok A) (h : q_lat M A) {g i : Int} (hg : 0 ≤ g ∧ g < A 271) (hi : 0 ≤ i ∧ i < M 85 g) : i.toNat < (a_seg A g).length ∧ M 86 (g * 21 + i) = (a_seg A g).getD i.toNat 0 ∧ M 87 (g * 21 + i) = f_end A ((a_seg A g).getD i.toNat 0) g ∧ M 88 (g * 21 + i) = f_cls A ((a_seg A g).getD i.toNat 0) ∧ M 89 (g * 21 + i) = f_cost A ((a_seg A g).getD i.toNat 0) ∧ (g < f_end A ((a_seg A g).getD i.toNat 0) g ∧ f_end A ((a_seg A g).getD i.toNat 0) g ≤ A 271) ∧ (0 ≤ f_cls A ((a_seg A g).getD i.toNat 0) ∧ f_cls A ((a_seg A g).getD i.toNat 0) ≤ 5) ∧ (0 ≤ f_cost A ((a_seg A g).getD i.toNat 0) ∧ f_cost A ((a_seg A g).getD i.toNat 0) ≤ 200) ∧ (a_seg A g).getD i.toNat 0 ∈ a_seg A g := by
  obtain ⟨h1, h2⟩ := h.1 g hg.1 hg.2
  have hk : i.toNat < (a_seg A g).length := by omega
  obtain ⟨a, b, c, d⟩ := h2 i.toNat hk
  rw [show g * 21 + ((i.toNat : Nat) : Int) = g * 21 + i by omega] at a b c d
  obtain ⟨-, -, m3, m4, m5⟩ := a_seg_at ho hg hk
  exact ⟨hk, a, b, c, d, m3, m4, m5, j_getD_mem hk⟩
theorem q_lat_fr {M M' : jxM} {A : Int → Int} (h : q_lat M A) (hf : ∀ c x, 85 ≤ c → c ≤ 89 → M' c x = M c x) : q_lat M' A := ⟨fun g a b => q_sl_fr (h.1 g a b) (hf 85 g (by omega) (by omega)) (fun c x c1 c2 _ _ => hf c x (by omega) (by omega)), by rw [hf 85 _ (by omega) (by omega)]; exact h.2⟩
theorem q_con {M : jxM} {A : Int → Int} (h : q_rs M 4 A) {l r : Int} (hl : 0 ≤ l ∧ l ≤ 6) (hr : 0 ≤ r ∧ r ≤ 6) : M 12 (l * 7 + r) = a_con A l r := by
  have := h.2.2.1 (l * 7 + r) (by omega) (by omega)
  unfold a_con
  rw [show (221 : Int) + 7 * l + r = 221 + (l * 7 + r) by omega]
  exact this
/-- the least before a segment: none, or by a class -/
theorem r_bef_spec {M : jxM} {A : Int → Int} {g s : Int} (hc : ∀ c, 0 ≤ c → c ≤ 6 → M 12 (c * 7 + f_cls A s) = a_con A c (f_cls A s)) (hb : ∀ c, 0 ≤ c → c ≤ 6 → 0 ≤ M 91 (7 * g + c) ∧ 0 ≤ a_con A c (f_cls A s)) : ∀ k : Nat, k ≤ 7 → 0 ≤ r_bef M g (f_cls A s) k ∧ r_bef M g (f_cls A s) k ≤ 1000000 ∧ (∀ c, 0 ≤ c → c < (k : Int) → r_bef M g (f_cls A s) k ≤ M 91 (7 * g + c) + a_con A c (f_cls A s)) ∧ (r_bef M g (f_cls A s) k < 1000000 → ∃ c, 0 ≤ c ∧ c < (k : Int) ∧ r_bef M g (f_cls A s) k = M 91 (7 * g + c) + a_con A c (f_cls A s)) := by
  intro k
  induction k with
  | zero => intro _; exact ⟨by simp [r_bef], by simp [r_bef], fun c a b => by omega, fun z => by simp [r_bef] at z⟩
  | succ k ih =>
    intro hk
    obtain ⟨a0, a, b, c⟩ := ih (by omega)
    have e := hc k (by omega) (by omega)
    have hbk := hb k (by omega) (by omega)
    simp only [r_bef]
    rw [e, show g * 7 + (k : Int) = 7 * g + k by omega]
    refine ⟨by omega, by omega, fun c' x y => ?_, fun z => ?_⟩
    · by_cases w : c' = k
      · rw [w]; omega
      · have := b c' x (by omega); omega
    · by_cases w : r_bef M g (f_cls A s) k ≤ M 91 (7 * g + k) + a_con A k (f_cls A s)
      · obtain ⟨c', x, y, w2⟩ := c (by omega)
        exact ⟨c', x, by omega, by omega⟩
      · exact ⟨k, by omega, by omega, by omega⟩
set_option maxHeartbeats 4000000 in
theorem sp_R_findLeastTo (d : Nat) (M : jxM) {A : Int → Int} (hr : q_rs M 4 A) (ho : q_ok A) (hl : q_lat M A) {K : jxK} (h : ∀ M', (∀ c x, c ≠ 91 → M' c x = M c x) → fwI (M' 91) 1000000 A (a_E A) → (∀ x, 0 ≤ x → x < 119 → 0 ≤ M' 91 x ∧ M' 91 x ≤ 1000000) → K none M') : jx_call jx_G1 jx_T (d + 3) 22 [.inr 90] M K := by
  have hnn := ho.2.2.2.2.1
  have hcn : ∀ x, 0 ≤ x → x < 49 → 0 ≤ M 12 x ∧ M 12 x ≤ 99 := fun x x1 x2 => by
    have e : M 12 x = A (221 + x) := hr.2.2.1 x x1 x2
    rw [e]; exact ho.2.2.1 x x1 x2
  intro X hX
  refine bk_R_findLeastTo_0 (d := d) hX M ?_
  refine sp_J_fill (d + 1) 90 119 1000000 M rfl (by omega) ⟨rfl, ?_⟩
  show X 11 [.inr 90, .inl 0, .inr 0, .inr 0, .inr 0, .inr 0] [] (jx_up (jx_fi M 91 119 1000000) 91 6 0)
  have outer : ∀ (g : Int) (N : jxM), (0 ≤ g ∧ g ≤ A 271 ∧ (∀ c x, c ≠ 91 → N c x = M c x) ∧ (∀ x, 0 ≤ x → x < 119 → 0 ≤ N 91 x ∧ N 91 x ≤ 1000000) ∧ fwI (N 91) 1000000 A (a_Ei A g 0 0)) → X 11 [.inr 90, .inl g, .inr 0, .inr 0, .inr 0, .inr 0] [] N := by
    refine jx_loop (σ := jxM) (A 271) _ _ ?_
    intro g N ⟨g1, g2, n1, n2, n3⟩ ih
    have n45 : N 4 5 = A 271 := (n1 4 5 (by decide)).trans hr.2.2.2.2.1
    refine bk_R_findLeastTo_11 (d := d) hX g N ⟨fun q => ?_, fun q => ?_⟩
    · obtain rfl : g = A 271 := by omega
      exact h N n1 (fwI_E n3 a_Ei_all) n2
    · have hg : 0 ≤ g ∧ g < A 271 := ⟨g1, by omega⟩
      have hsl := a_seg_len ho g
      refine jx_loop (σ := jxM) ((a_seg A g).length : Int) (fun i L => 0 ≤ i ∧ i ≤ ((a_seg A g).length : Int) ∧ (∀ c x, c ≠ 91 → L c x = M c x) ∧ (∀ x, 0 ≤ x → x < 119 → 0 ≤ L 91 x ∧ L 91 x ≤ 1000000) ∧ fwI (L 91) 1000000 A (a_Ei A g i.toNat 0)) (fun i L => X 18 [.inr 90, .inl g, .inl i, .inr 0, .inr 0, .inr 0] [] L) ?_ 0 N ⟨by omega, by omega, n1, n2, n3⟩
      intro i L ⟨i1, i2, l1, l2, l3⟩ jh
      have lat : q_lat L A := q_lat_fr hl (fun c x c1 c2 => l1 c x (by omega))
      have e85 : L 85 g = ((a_seg A g).length : Int) := (lat.1 g hg.1 hg.2).1
      refine bk_R_findLeastTo_18 (d := d) hX g i L ⟨by omega, fun z => ⟨by omega, ?_⟩, fun z => ?_⟩
      · have : i.toNat = (a_seg A g).length := by omega
        rw [this] at l3
        exact ih L (by omega) ⟨by omega, by omega, l1, l2, fwI_E l3 a_Ei_end⟩
      · obtain ⟨k0, k1, k2, k3, k4, k5, k6, k7, k8⟩ := q_lat_at ho lat hg ⟨i1, z⟩
        rw [k2, k3, k4]
        generalize hs : (a_seg A g).getD i.toNat 0 = s at *
        have lr : q_rs L 4 A := q_rs_fr ho hr (fun c x c1 c2 => l1 c x (by omega))
        have lcn : ∀ x, 0 ≤ x → x < 49 → 0 ≤ L 12 x ∧ L 12 x ≤ 99 := fun x x1 x2 => by rw [l1 12 x (by decide)]; exact hcn x x1 x2
        have it : (i + 1).toNat = i.toNat + 1 := by omega
        obtain ⟨r0, r1, r2, r3⟩ := r_bef_spec (M := L) (A := A) (g := g) (s := s) (fun c c1 c2 => q_con lr ⟨c1, c2⟩ ⟨k6.1, by omega⟩) (fun c c1 c2 => ⟨(l2 _ (by omega) (by omega)).1, (a_con_bnd ho ⟨c1, c2⟩ ⟨k6.1, by omega⟩).1⟩) 7 (by omega)
        have hl2 := l2 (f_end A s g * 7 + f_cls A s) (by omega) (by omega)
        refine ⟨⟨by omega, by omega, by omega, by omega, ⟨by omega, by omega, l2, lcn⟩, by omega, by omega, by omega, by omega, by omega⟩, jh _ (by omega) ⟨by omega, by omega, fun c x hc => (jx_upc hc).trans (l1 c x hc), fun x x1 x2 => ?_, ?_⟩⟩
        · by_cases w : x = f_end A s g * 7 + f_cls A s
          · rw [w, jx_ups]; omega
          · rw [jx_upx w]; exact l2 x x1 x2
        · rw [it]
          refine fwI_E (E := a_Ei A g i.toNat 7) ?_ (a_Ei_next k0)
          refine fwI_upd (v := r_bef L g (f_cls A s) 7 + f_cost A s) ho l3 hg k8 (fun g' c' s' w => ⟨w.1, by rcases w.2 with y | y <;> omega⟩) (fun g' c' s' w => ⟨w.1, by rcases w.2 with y | y <;> omega⟩) (fun g' c' s' w => ⟨w.1, ?_⟩) (by omega) (fun g' c' s' w => ?_) (fun w => ?_) (fun x x1 x2 => ?_)
          · rcases w.2 with y | ⟨y, y2 | ⟨y2, y3, y4⟩⟩
            · exact Or.inl y
            · exact Or.inr ⟨y, Or.inl y2⟩
            · exact Or.inr ⟨y, Or.inr ⟨y2, y3, by omega⟩⟩
          · rcases w.2 with y | ⟨y, y2 | ⟨y2, y3, y4⟩⟩
            · exact Or.inl ⟨w.1, Or.inl y⟩
            · exact Or.inl ⟨w.1, Or.inr ⟨y, Or.inl y2⟩⟩
            · refine Or.inr ⟨y, y2.trans hs, fun _ => ?_⟩
              have := r2 c' w.1.2.2.1 (by omega)
              unfold a_edge
              omega
          · obtain ⟨c0, w1, w2, w3⟩ := r3 (by omega)
            have hlt : L 91 (7 * g + c0) < 1000000 := by
              have := a_con_bnd ho (l := c0) (r := f_cls A s) ⟨w1, by omega⟩ ⟨k6.1, by omega⟩
              omega
            refine ⟨c0, w1, by omega, ⟨⟨hg.1, hg.2, w1, by omega, k8⟩, Or.inr ⟨rfl, Or.inr ⟨hs.symm, k0, by omega⟩⟩⟩, hlt, ?_⟩
            unfold a_edge
            omega
          · by_cases w : x = 7 * f_end A s g + f_cls A s
            · rw [if_pos w, w, show f_end A s g * 7 + f_cls A s = 7 * f_end A s g + f_cls A s by omega, jx_ups]
            · rw [if_neg w, jx_upx (by omega)]
  have fi : ∀ x, 0 ≤ x → x < 119 → jx_fi M 91 119 1000000 91 x = 1000000 := fun x x1 x2 => by unfold jx_fi; rw [if_pos ⟨rfl, x1, x2⟩]
  have fo : ∀ c x, c ≠ 91 → jx_fi M 91 119 1000000 c x = M c x := fun c x hc => by unfold jx_fi; rw [if_neg (fun z => hc z.1)]
  have val : ∀ x, 0 ≤ x → x < 119 → jx_up (jx_fi M 91 119 1000000) 91 6 0 91 x = if x = 6 then 0 else 1000000 := fun x x1 x2 => by
    by_cases w : x = 6
    · rw [if_pos w, w, jx_ups]
    · rw [if_neg w, jx_upx w]; exact fi x x1 x2
  refine outer 0 _ ⟨by omega, by omega, fun c x hc => (jx_upc hc).trans (fo c x hc), fun x x1 x2 => ?_, ⟨fun g c g1 g2 c1 c2 => ?_, jx_ups, fun g c s w => ?_, fun g c g1 g2 c1 c2 w => ?_⟩⟩
  · rw [val x x1 x2]; split <;> omega
  · rw [val _ (by omega) (by omega)]; split <;> omega
  · rcases w.2 with y | ⟨y, y2 | ⟨y2, y3, y4⟩⟩
    · have := w.1.1; omega
    · rw [List.take_zero] at y2; cases y2
    · have := w.1.2.2.1; omega
  · rw [val _ (by omega) (by omega)] at w
    by_cases y : 7 * g + c = 6
    · exact Or.inl ⟨by omega, by omega⟩
    · rw [if_neg y] at w; omega
