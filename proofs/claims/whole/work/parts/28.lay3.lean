/-- the reference's tables are laid from gap g on -/
def q_ldg (M : jxM) (A : Int → Int) (g : Int) : Prop := (∀ g' c, g ≤ g' → g' < A 271 → 0 ≤ c → c ≤ 6 → q_rw M (7 * g' + c) (a_W A g' c)) ∧ (∀ c, 0 ≤ c → c ≤ 6 → q_rk M (7 * A 271 + c) (a_W A (A 271) c)) ∧ (∀ g' c, g ≤ g' → g' ≤ A 271 → 0 ≤ c → c ≤ 6 → M 10 (7 * g' + c) = a_bc A g' c) ∧ (∀ g', g ≤ g' → g' ≤ A 271 → M 11 g' = a_cn A g' 0)
def q_ld (M : jxM) (A : Int → Int) : Prop := q_ldg M A 0
theorem q_ldg_bh {M : jxM} {A : Int → Int} {g : Int} (h : q_ldg M A (g + 1)) : q_bh M A g := by
  obtain ⟨h1, h2, h3, h4⟩ := h
  intro g' c a b c1 c2
  refine ⟨?_, h3 g' c (by omega) b c1 c2⟩
  rcases Int.lt_or_le g' (A 271) with z | z
  · exact (h1 g' c (by omega) z c1 c2).k
  · obtain rfl : g' = A 271 := by omega
    exact h2 c c1 c2
theorem q_ldg_fr {M M' : jxM} {A : Int → Int} {g : Int} (ho : q_ok A) (hg : 0 ≤ g ∧ g ≤ A 271) (h : q_ldg M A g) (f6 : ∀ x, 7 * g ≤ x → x < 7 * A 271 + 7 → M' 6 x = M 6 x ∧ M' 10 x = M 10 x) (f7 : ∀ c x, 7 ≤ c → c ≤ 9 → 140 * g ≤ x → x < 140 * A 271 + 140 → M' c x = M c x) (f11 : ∀ x, g ≤ x → x ≤ A 271 → M' 11 x = M 11 x) : q_ldg M' A g := by
  obtain ⟨h1, h2, h3, h4⟩ := h
  refine ⟨fun g' c a b c1 c2 => ?_, fun c c1 c2 => ?_, fun g' c a b c1 c2 => ?_, fun g' a b => ?_⟩
  · have hl := a_W_len ho (g := g') (c := c) (by omega) (by omega)
    exact q_rw_fr (h1 g' c a b c1 c2) (f6 _ (by omega) (by omega)).1 (fun c' x y1 y2 y3 y4 => f7 c' x y1 y2 (by omega) (by omega))
  · have hl := a_W_len ho (g := A 271) (c := c) (by omega) (by omega)
    exact q_rk_fr (h2 c c1 c2) (f6 _ (by omega) (by omega)).1 (fun x y1 y2 => f7 7 x (by omega) (by omega) (by omega) (by omega))
  · rw [(f6 _ (by omega) (by omega)).2]; exact h3 g' c a b c1 c2
  · rw [f11 g' a b]; exact h4 g' a b

set_option maxHeartbeats 8000000 in
theorem sp_F_lay (d : Nat) (M : jxM) {A : Int → Int} (hA : ∀ k, 0 ≤ k → k < 305 → M 2 k = A k) (ho : q_ok A) (hf : M 1 5 = 0 ∨ M 1 5 = 1) (hl : M 1 5 = 1 → q_ld M A) {K : jxK} (h : ∀ M', (∀ c x, (c < 5 ∨ 11 < c) → ¬ (c = 1 ∧ (x = 5 ∨ x = 6)) → M' c x = M c x) → M' 1 5 = 1 → q_ld M' A → K none M') : jx_call jx_G2 jx_T (d + 5) 114 [.inr 1] M K := by
  have hn := ho.2.2.2.2.1
  intro X hX
  refine bk_F_lay_0 (d := d) hX M ⟨fun q => ?_, fun q => h M (fun _ _ _ _ => rfl) (by omega) (hl (by omega))⟩
  have fr : ∀ N : jxM, (∀ c x, (c < 5 ∨ 11 < c) → ¬ (c = 1 ∧ (x = 5 ∨ x = 6)) → N c x = M c x) → ∀ k, 0 ≤ k → k < 305 → N 2 k = A k := fun N n1 k k1 k2 => (n1 2 k (by omega) (by omega)).trans (hA k k1 k2)
  rw [hA 271 (by omega) (by omega)]
  -- the gaps, from the last one on
  have gaps : ∀ (g : Int) (N : jxM), (-1 ≤ g ∧ g < A 271 ∧ (∀ c x, (c < 5 ∨ 11 < c) → ¬ (c = 1 ∧ (x = 5 ∨ x = 6)) → N c x = M c x) ∧ q_ldg N A (g + 1)) → X 58 [.inr 1, .inl (A 271), .inl g, .inr 0] [] N := by
    refine jx_loopM (σ := jxM) (-1) _ _ ?_
    intro g N ⟨g1, g2, n1, n2⟩ ih
    refine bk_F_lay_58 (d := d) hX (A 271) g N ⟨fun q2 => ?_, fun q2 => ?_⟩
    · obtain rfl : g = -1 := by omega
      refine h _ (fun c x hc hx => ?_) jx_ups (q_ldg_fr ho (by omega) n2 (fun x _ _ => ⟨jx_upc (by decide), jx_upc (by decide)⟩) (fun c x c1 c2 _ _ => jx_upc (by omega)) (fun x _ _ => jx_upc (by decide)))
      by_cases z : c = 1
      · subst z; rw [jx_upx (by omega)]; exact n1 _ _ hc hx
      · rw [jx_upc z]; exact n1 c x hc hx
    · have hg : 0 ≤ g ∧ g < A 271 := ⟨q2, g2⟩
      refine sp_F_findSegments (d + 1) g N (fr N n1) ho hg (fun L l1 l2 l3 => ⟨rfl, by omega, ?_⟩)
      have hsl := a_seg_len ho g
      have lfr : ∀ c x, (c < 5 ∨ 11 < c) → ¬ (c = 1 ∧ (x = 5 ∨ x = 6)) → L c x = M c x := fun c x hc hx => (l1 c x (by omega) (by omega)).trans (n1 c x hc hx)
      have lld : q_ldg L A (g + 1) := q_ldg_fr ho (by omega) n2 (fun x _ _ => ⟨l1 6 x (by decide) (by omega), l1 10 x (by decide) (by omega)⟩) (fun c x c1 c2 _ _ => l1 c x (by omega) (by omega)) (fun x _ _ => l1 11 x (by decide) (by omega))
      -- the classes
      have classes : ∀ (c : Int) (P : jxM), (0 ≤ c ∧ c ≤ 7 ∧ (∀ c' x, (c' < 5 ∨ 11 < c') → ¬ (c' = 1 ∧ x = 5) → P c' x = L c' x) ∧ P 1 5 = L 1 5 ∧ (∀ x, P 5 x = L 5 x) ∧ q_ldg P A (g + 1) ∧ P 11 g = a_cn A g 0 ∧ (∀ c', 0 ≤ c' → c' < c → q_rw P (7 * g + c') (a_W A g c') ∧ P 10 (7 * g + c') = a_bc A g c')) → X 97 [.inr 1, .inl (A 271), .inl g, .inl c] [] P := by
        refine jx_loop (σ := jxM) 7 _ _ ?_
        intro c P ⟨c1, c2, p1, p2, p3, p4, p5, p6⟩ jh
        refine bk_F_lay_97 (d := d) hX (A 271) g c P ⟨fun z => ⟨by omega, ?_⟩, fun z => ?_⟩
        · refine ih P (by omega) ⟨by omega, by omega, fun c' x hc hx => ?_, ?_⟩
          · rw [p1 c' x hc (by omega)]; exact lfr c' x hc hx
          · obtain ⟨y1, y2, y3, y4⟩ := p4
            rw [show g + (-1) + 1 = g by omega]
            refine ⟨fun g' c' a b e1 e2 => ?_, y2, fun g' c' a b e1 e2 => ?_, fun g' a b => ?_⟩
            · rcases Int.lt_or_le g g' with w | w
              · exact y1 g' c' (by omega) b e1 e2
              · obtain rfl : g' = g := by omega
                exact (p6 c' e1 (by omega)).1
            · rcases Int.lt_or_le g g' with w | w
              · exact y3 g' c' (by omega) b e1 e2
              · obtain rfl : g' = g := by omega
                exact (p6 c' e1 (by omega)).2
            · rcases Int.lt_or_le g g' with w | w
              · exact y4 g' (by omega) b
              · obtain rfl : g' = g := by omega
                exact p5
        · have pA : ∀ k, 0 ≤ k → k < 305 → P 2 k = A k := fun k k1 k2 => (p1 2 k (by omega) (by omega)).trans (fr L lfr k k1 k2)
          refine sp_F_layPlace d g c P pA ho hg (by omega) ((p1 1 6 (by omega) (by omega)).trans l2) (j_l_fr l3 (fun k _ _ => p3 k)) (q_ldg_bh p4) (fun P' m1 m2 m3 m4 m5 => ⟨rfl, by omega, jh P' z ⟨by omega, by omega, fun c' x hc hx => ?_, ?_, fun x => ?_, ?_, ?_, fun c' e1 e2 => ?_⟩⟩)
          · rw [m1 c' x (by omega)]; exact p1 c' x hc hx
          · rw [m1 1 5 (by omega)]; exact p2
          · rw [m1 5 x (by omega)]; exact p3 x
          · exact q_ldg_fr ho (by omega) p4 (fun x x1 x2 => ⟨m2 6 x (Or.inl rfl) (by omega), m2 10 x (Or.inr rfl) (by omega)⟩) (fun c' x y1 y2 y3 y4 => m3 c' x y1 y2 (by omega)) (fun x _ _ => m1 11 x (by omega))
          · rw [m1 11 g (by omega)]; exact p5
          · rcases Int.lt_or_le c' c with w | w
            · obtain ⟨y1, y2⟩ := p6 c' e1 w
              have hwl := a_W_len ho (g := g) (c := c') q2 (by omega)
              exact ⟨q_rw_fr y1 (m2 6 _ (Or.inl rfl) (by omega)) (fun c'' x v1 v2 v3 v4 => m3 c'' x v1 v2 (by omega)), (m2 10 _ (Or.inr rfl) (by omega)).trans y2⟩
            · obtain rfl : c' = c := by omega
              exact ⟨m4, m5⟩
      -- the count of paths
      refine jx_loop (σ := jxM) ((a_seg A g).length : Int) (fun i P => 0 ≤ i ∧ i ≤ ((a_seg A g).length : Int) ∧ (∀ c' x, c' ≠ 11 → P c' x = L c' x) ∧ (∀ x, x ≠ g → P 11 x = L 11 x) ∧ P 11 g = w_cnt (fun s => a_cn A (f_end A s g) 0) 0 ((a_seg A g).take i.toNat)) (fun i P => X 70 [.inr 1, .inl (A 271), .inl g, .inl i] [] P) ?_ 0 _ ⟨by omega, by omega, fun c' x hc => jx_upc hc, fun x hx => jx_upx hx, jx_ups⟩
      intro i P ⟨i1, i2, p1, p2, p3⟩ jh
      have p16 : P 1 6 = ((a_seg A g).length : Int) := (p1 1 6 (by decide)).trans l2
      have pA : ∀ k, 0 ≤ k → k < 305 → P 2 k = A k := fun k k1 k2 => (p1 2 k (by decide)).trans (fr L lfr k k1 k2)
      have pld : q_ldg P A (g + 1) := q_ldg_fr ho (by omega) lld (fun x _ _ => ⟨p1 6 x (by decide), p1 10 x (by decide)⟩) (fun c x c1 c2 _ _ => p1 c x (by omega)) (fun x _ _ => p2 x (by omega))
      refine bk_F_lay_70 (d := d) hX (A 271) g i P ⟨fun z => ?_, fun z => ?_⟩
      · have : i.toNat = (a_seg A g).length := by omega
        rw [this, List.take_length, ← a_cn_step ho q2 g2 (c := 0)] at p3
        exact classes 0 P ⟨by omega, by omega, fun c' x hc _ => p1 c' x (by omega), p1 1 5 (by decide), fun x => p1 5 x (by decide), pld, p3, fun c' a b => by omega⟩
      · have e5 : P 5 i = (a_seg A g).getD i.toNat 0 := by
          have := l3 i.toNat (by omega)
          rw [show (0 : Int) + (i.toNat : Int) = i by omega] at this
          rw [p1 5 i (by decide)]; exact this
        obtain ⟨a1, a2, a3, a4, a5⟩ := a_seg_at ho hg (k := i.toNat) (by omega)
        rw [← e5] at a1 a2 a3 a4 a5
        have ee := f_end_eq pA a1 g
        have hcn := pld.2.2.2 (f_end A (P 5 i) g) (by omega) a3.2
        have bb := a_cn_bnd ho (A 271).toNat (g := f_end A (P 5 i) g) (c := 0) (by omega) a3.2 (by omega)
        have bp := w_cnt_bnd (f := fun s => a_cn A (f_end A s g) 0) (a := 0) (l := (a_seg A g).take i.toNat) (by omega) (fun s hs => by
          have y := (a_seg_mem ho hg (List.mem_of_mem_take hs)).2.1
          exact (a_cn_bnd ho (A 271).toNat (by omega) y.2 (by omega)).1)
        have hle : P 5 i = -5 ∨ (0 ≤ P 2 (1 + 11 * P 5 i) ∧ P 2 (1 + 11 * P 5 i) ≤ 6) := by
          by_cases w : P 5 i = -5
          · exact Or.inl w
          · have := (ho.2.1 (P 5 i) (by omega) (a2 w)).1
            rw [pA _ (by omega) (by omega)]
            exact Or.inr (by omega)
        rw [ee, hcn]
        refine ⟨by omega, jh _ (by omega) ⟨by omega, by omega, fun c' x hc => (jx_upc hc).trans (p1 c' x hc), fun x hx => (jx_upx hx).trans (p2 x hx), ?_⟩⟩
        have tk := take_s (l := a_seg A g) (k := i.toNat) (by omega)
        rw [← e5] at tk
        rw [jx_ups, show (i + 1).toNat = i.toNat + 1 by omega, tk, w_cnt_snoc, p3]
  -- the last gap
  refine jx_loop (σ := jxM) 7 (fun c N => 0 ≤ c ∧ c ≤ 7 ∧ (∀ c' x, (c' < 5 ∨ 11 < c') → ¬ (c' = 1 ∧ (x = 5 ∨ x = 6)) → N c' x = M c' x) ∧ (∀ c', 0 ≤ c' → c' < c → q_rk N (7 * A 271 + c') (a_W A (A 271) c') ∧ N 10 (7 * A 271 + c') = 1)) (fun c N => X 11 [.inr 1, .inl (A 271), .inl c, .inr 0] [] N) ?_ 0 M ⟨by omega, by omega, fun _ _ _ _ => rfl, fun c' a b => by omega⟩
  intro c N ⟨c1, c2, n1, n2⟩ ih
  refine bk_F_lay_11 (d := d) hX (A 271) c N ⟨fun z => ⟨by omega, ?_⟩, fun z => ?_⟩
  · refine gaps _ _ ⟨by omega, by omega, fun c' x hc hx => (jx_upc (by omega)).trans (n1 c' x hc hx), ⟨fun g' c' a b => by omega, fun c' a b => ?_, fun g' c' a b e1 e2 => ?_, fun g' a b => ?_⟩⟩
    · exact q_rk_fr (n2 c' a (by omega)).1 (jx_upc (by decide)) (fun x _ _ => jx_upc (by decide))
    · obtain rfl : g' = A 271 := by omega
      rw [jx_upc (by decide), a_bc_end]; exact (n2 c' e1 (by omega)).2
    · obtain rfl : g' = A 271 := by omega
      rw [jx_ups, a_cn_end]
  · have e2 : N 2 (221 + 7 * c + 6) = a_con A c 6 := by unfold a_con; exact fr N n1 _ (by omega) (by omega)
    have con := a_con_bnd ho (l := c) (r := 6) (by omega) (by omega)
    rw [e2]
    refine ⟨by omega, ih _ z ⟨by omega, by omega, fun c' x hc hx => ?_, fun c' a b => ?_⟩⟩
    · rw [jx_upc (by omega), jx_upc (by omega), jx_upc (by omega), jx_upc (by omega)]; exact n1 c' x hc hx
    · rcases Int.lt_or_le c' c with w | w
      · obtain ⟨y1, y2⟩ := n2 c' a w
        rw [a_W_end] at y1 ⊢
        refine ⟨q_rk_fr y1 ?_ (fun x x1 x2 => ?_), ?_⟩
        · rw [jx_upc (by decide), jx_upc (by decide), jx_upc (by decide), jx_upx (by omega)]
        · have x2 : x < 20 * (7 * A 271 + c') + 1 := x2
          rw [jx_upc (by decide), jx_upc (by decide), jx_upx (by omega), jx_upc (by decide)]
        · rw [jx_upx (by omega), jx_upc (by decide), jx_upc (by decide), jx_upc (by decide)]; exact y2
      · obtain rfl : c' = c := by omega
        rw [a_W_end]
        refine ⟨⟨?_, fun k hk => ?_⟩, jx_ups⟩
        · rw [jx_upc (by decide), jx_upc (by decide), jx_upc (by decide), jx_ups]; rfl
        · obtain rfl : k = 0 := by
            have : k < 1 := hk
            omega
          rw [show 20 * (7 * A 271 + c') + ((0 : Nat) : Int) = 20 * (7 * A 271 + c') by omega, jx_upc (by decide), jx_upc (by decide), jx_ups]
          rfl
