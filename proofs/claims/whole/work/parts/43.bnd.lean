/-- a state lies on a best path -/
def b_p (f : Int → Int) (A : Int → Int) (g c : Int) : Prop := f (7 * g + c) < 1000000 ∧ 0 < (a_W A g c).length ∧ f (7 * g + c) + (w_at (a_W A g c) 0).1 = (w_at (a_W A 0 6) 0).1
theorem b_low {f : Int → Int} {A : Int → Int} (ho : q_ok A) (h : fwI f 1000000 A (a_E A)) : ∀ (k : Nat) (g c : Int), 0 ≤ g → g ≤ A 271 → g < k → 0 ≤ c → c ≤ 6 → f (7 * g + c) < 1000000 → 0 < (a_W A g c).length → 0 < (a_W A 0 6).length ∧ (w_at (a_W A 0 6) 0).1 ≤ f (7 * g + c) + (w_at (a_W A g c) 0).1 := by
  intro k
  induction k with
  | zero => intro g c g0 g1 g2; omega
  | succ k ih =>
    intro g c g0 g1 g2 c0 c1 hf hl
    rcases h.2.2.2 g c g0 g1 c0 c1 hf with ⟨y1, y2⟩ | ⟨g3, c3, s, y1, y2, y3, y4, y5⟩
    · subst y1; subst y2
      have : f (7 * 0 + 6) = 0 := h.2.1
      exact ⟨hl, by omega⟩
    · obtain ⟨z1, z2, z3, z4, z5⟩ := y1
      have me := (a_seg_mem ho ⟨z1, z2⟩ z5).2.1
      have w := a_W_least ho (c := c3) z1 z2 z5 (by rw [y3, y4]; exact hl)
      rw [y3, y4] at w
      obtain ⟨i1, i2⟩ := ih g3 c3 z1 (by omega) (by omega) z3 z4 y2 w.1
      exact ⟨i1, by omega⟩
theorem b_edge {f : Int → Int} {A : Int → Int} (ho : q_ok A) (h : fwI f 1000000 A (a_E A)) {g c s : Int} (hE : a_E A g c s) (hf : f (7 * g + c) < 1000000) (hl : 0 < (a_W A (f_end A s g) (f_cls A s)).length) : 0 < (a_W A 0 6).length ∧ (w_at (a_W A 0 6) 0).1 ≤ f (7 * g + c) + a_edge A c s + (w_at (a_W A (f_end A s g) (f_cls A s)) 0).1 ∧ (f (7 * g + c) + a_edge A c s + (w_at (a_W A (f_end A s g) (f_cls A s)) 0).1 = (w_at (a_W A 0 6) 0).1 → b_p f A g c ∧ a_tight A g c s) := by
  obtain ⟨z1, z2, z3, z4, z5⟩ := hE
  have w := a_W_least ho (c := c) z1 z2 z5 hl
  obtain ⟨i1, i2⟩ := b_low ho h (g.toNat + 1) g c z1 (by omega) (by omega) z3 z4 hf w.1
  exact ⟨i1, by omega, fun e => ⟨⟨hf, w.1, by omega⟩, by omega, by omega⟩⟩
theorem b_next {f : Int → Int} {A : Int → Int} (ho : q_ok A) (h : fwI f 1000000 A (a_E A)) {g c s : Int} (hE : a_E A g c s) (hb : b_p f A g c) (ht : a_tight A g c s) : b_p f A (f_end A s g) (f_cls A s) := by
  have hnn := ho.2.2.2.2.1
  obtain ⟨t1, t2⟩ := ht
  obtain ⟨b1, b2, b3⟩ := hb
  have me := a_seg_mem ho ⟨hE.1, hE.2.1⟩ hE.2.2.2.2
  have e1 := h.2.2.1 g c s hE b1
  have e2 := (h.1 g c hE.1 (by have := hE.2.1; omega) hE.2.2.1 hE.2.2.2.1).2 b1
  have e3 := a_edge_bnd ho hE
  have e4 := hE.2.1
  have hf : f (7 * f_end A s g + f_cls A s) < 1000000 := by omega
  have := (b_low ho h ((f_end A s g).toNat + 1) (f_end A s g) (f_cls A s) (by have := hE.1; omega) me.2.1.2 (by have := hE.1; omega) me.2.2.1.1 (by omega) hf (by omega)).2
  exact ⟨hf, by omega, by omega⟩
theorem b_prev {f : Int → Int} {A : Int → Int} (ho : q_ok A) (h : fwI f 1000000 A (a_E A)) {g c : Int} (hg : 0 ≤ g ∧ g ≤ A 271) (hc : 0 ≤ c ∧ c ≤ 6) (hb : b_p f A g c) : (g = 0 ∧ c = 6) ∨ ∃ g0 c0 s, a_E A g0 c0 s ∧ b_p f A g0 c0 ∧ a_tight A g0 c0 s ∧ f_end A s g0 = g ∧ f_cls A s = c := by
  obtain ⟨b1, b2, b3⟩ := hb
  rcases h.2.2.2 g c hg.1 hg.2 hc.1 hc.2 b1 with y | ⟨g3, c3, s, y1, y2, y3, y4, y5⟩
  · exact Or.inl y
  · obtain ⟨w1, w2, w3⟩ := b_edge ho h y1 y2 (by rw [y3, y4]; exact b2)
    rw [y3, y4] at w3
    obtain ⟨w4, w5⟩ := w3 (by omega)
    exact Or.inr ⟨g3, c3, s, y1, w4, w5, y3, y4⟩
/-- a best path ends a segment at a gap, or crosses it -/
theorem b_some {f : Int → Int} {A : Int → Int} (ho : q_ok A) (h : fwI f 1000000 A (a_E A)) (hl : 0 < (a_W A 0 6).length) {G : Int} (hG : 0 < G ∧ G < A 271) : (∃ c, 0 ≤ c ∧ c ≤ 6 ∧ b_p f A G c) ∨ ∃ g c s, a_E A g c s ∧ b_p f A g c ∧ a_tight A g c s ∧ g < G ∧ G < f_end A s g := by
  have key : ∀ (k : Nat) (g c : Int), G - g ≤ k → 0 ≤ g → g < G → 0 ≤ c → c ≤ 6 → b_p f A g c → (∃ c, 0 ≤ c ∧ c ≤ 6 ∧ b_p f A G c) ∨ ∃ g c s, a_E A g c s ∧ b_p f A g c ∧ a_tight A g c s ∧ g < G ∧ G < f_end A s g := by
    intro k
    induction k with
    | zero => intro g c h1 h2 h3; omega
    | succ k ih =>
      intro g c h1 h2 h3 c0 c6 hb
      obtain ⟨m1, j, a, m2, m3, m4⟩ := a_W_mem ho h2 (by omega) (w_at_mem hb.2.1)
      generalize hs : (w_at (a_W A g c) 0).2.1 = s at *
      have hE : a_E A g c s := ⟨h2, by omega, c0, c6, m1⟩
      obtain ⟨me1, me2, me3, -⟩ := a_seg_mem ho ⟨h2, by omega⟩ m1
      obtain ⟨n1, n2⟩ := List.getElem?_eq_some_iff.mp m2
      have n3 := w_at_sd (a_W_sd ho (g := f_end A s g) (c := f_cls A s) (by omega) me2.2) (Nat.zero_le j) n1
      have n4 := w_at_some n1
      rw [m2, Option.some.injEq] at n4
      rw [← n4] at n3
      have n5 := a_W_least ho (c := c) h2 (by omega) m1 (by omega)
      have ht : a_tight A g c s := ⟨by omega, by omega⟩
      rcases (show f_end A s g = G ∨ G < f_end A s g ∨ f_end A s g < G by omega) with y | y | y
      · have := b_next ho h hE hb ht
        rw [y] at this
        exact Or.inl ⟨_, me3.1, by omega, this⟩
      · exact Or.inr ⟨g, c, s, hE, hb, ht, h3, y⟩
      · exact ih _ _ (by omega) (by omega) y me3.1 (by omega) (b_next ho h hE hb ht)
  refine key (G.toNat + 1) 0 6 (by omega) (by omega) hG.1 (by omega) (by omega) ⟨?_, hl, ?_⟩
  · have : f (7 * 0 + 6) = 0 := h.2.1
    omega
  · have : f (7 * 0 + 6) = 0 := h.2.1
    omega
theorem sp_R_leastEndingAt (d : Nat) (g : Int) (M : jxM) {A : Int → Int} (ho : q_ok A) (hb : q_bt M A) (hg : 0 ≤ g ∧ g ≤ A 271) {K : jxK} (h : ∀ t, t ≤ 1000000 → (∀ c, 0 ≤ c → c ≤ 6 → M 91 (7 * g + c) < 1000000 → 0 < (a_W A g c).length → t ≤ M 91 (7 * g + c) + (w_at (a_W A g c) 0).1) → (t < 1000000 → ∃ c, 0 ≤ c ∧ c ≤ 6 ∧ M 91 (7 * g + c) < 1000000 ∧ 0 < (a_W A g c).length ∧ t = M 91 (7 * g + c) + (w_at (a_W A g c) 0).1) → K (some (.inl t)) M) : jx_call jx_G1 jx_T (d + 2) 41 [.inr 90, .inl g] M K := by
  have hnn := ho.2.2.2.2.1
  intro X hX
  refine bk_R_leastEndingAt_0 (d := d) hX g M ?_
  refine jx_loop (σ := Int) 7 (fun i t => 0 ≤ i ∧ i ≤ 7 ∧ t ≤ 1000000 ∧ 0 ≤ t ∧ (∀ c, 0 ≤ c → c < i → M 91 (7 * g + c) < 1000000 → 0 < (a_W A g c).length → t ≤ M 91 (7 * g + c) + (w_at (a_W A g c) 0).1) ∧ (t < 1000000 → ∃ c, 0 ≤ c ∧ c ≤ 6 ∧ M 91 (7 * g + c) < 1000000 ∧ 0 < (a_W A g c).length ∧ t = M 91 (7 * g + c) + (w_at (a_W A g c) 0).1)) (fun i t => X 4 [.inr 90, .inl g, .inl t, .inl i, .inr 0] [] M) ?_ 0 _ ⟨by omega, by omega, by omega, by omega, fun c a b => by omega, fun z => by omega⟩
  intro i t ⟨i1, i2, t1, t0, t2, t3⟩ ih
  refine bk_R_leastEndingAt_4 (d := d) hX g t i M ⟨fun q => h t t1 (fun c c1 c2 => t2 c c1 (by omega)) t3, fun q => ?_⟩
  have hm := hb.2.2.1 (7 * g + i) (by omega) (by omega)
  obtain ⟨f1, f2, f3, f4⟩ := r_from_spec ho hb hg ⟨i1, by omega⟩
  have pb := p_bw_bnd ho hg (c := i) ⟨i1, by omega⟩
  have e7 : g * 7 + i = 7 * g + i := by omega
  have e7m : M 91 (g * 7 + i) = M 91 (7 * g + i) := by rw [e7]
  have pb1 : 0 < (a_W A g i).length → p_bw A g i = (w_at (a_W A g i) 0).1 := fun z => by unfold p_bw; rw [if_pos z]
  have pb0 : ¬ 0 < (a_W A g i).length → p_bw A g i = 1000000 := fun z => by unfold p_bw; rw [if_neg z]
  rw [e7m]
  have ob : (((-2147483648 : Int) ≤ g * 7 ∧ g * 7 ≤ 2147483647) ∧ ((-2147483648 : Int) ≤ (g * 7) + i ∧ (g * 7) + i ≤ 2147483647) ∧ (0 ≤ ((g * 7) + i) ∧ ((g * 7) + i) < 119) ∧ ((0 : Int) ≤ ((g * 7) + i) ∧ ((g * 7) + i) < 119) ∧ ((-2147483648 : Int) ≤ (M 91 (7 * g + i)) + (r_from M ((g * 7) + i)) ∧ (M 91 (7 * g + i)) + (r_from M ((g * 7) + i)) ≤ 2147483647) ∧ ((-2147483648 : Int) ≤ i + 1 ∧ i + 1 ≤ 2147483647)) := by
    clear t3 t2
    omega
  have m1 : min t (M 91 (7 * g + i) + r_from M (g * 7 + i)) ≤ t ∧ min t (M 91 (7 * g + i) + r_from M (g * 7 + i)) ≤ M 91 (7 * g + i) + r_from M (g * 7 + i) ∧ 0 ≤ min t (M 91 (7 * g + i) + r_from M (g * 7 + i)) := by clear t3 t2; omega
  have m2 : min t (M 91 (7 * g + i) + r_from M (g * 7 + i)) = t ∨ min t (M 91 (7 * g + i) + r_from M (g * 7 + i)) = M 91 (7 * g + i) + r_from M (g * 7 + i) := by clear t3 t2; omega
  refine ⟨ob, ih _ q ⟨by clear t3 t2; omega, by clear t3 t2; omega, by clear t3 t2; omega, m1.2.2, fun c c1 c2 c3 c4 => ?_, fun z => ?_⟩⟩
  · rcases (show c < i ∨ c = i by clear t3 t2; omega) with y | y
    · have := t2 c c1 y c3 c4
      clear t3 t2; omega
    · subst y
      have := f1 c3
      have := pb1 c4
      clear t3 t2; omega
  · rcases m2 with y | y
    · rw [y] at z ⊢
      exact t3 z
    · rw [y] at z ⊢
      have r1 : M 91 (7 * g + i) < 1000000 := by clear t3 t2; omega
      have r2 := f1 r1
      have r3 : 0 < (a_W A g i).length := by
        rcases Nat.eq_zero_or_pos (a_W A g i).length with w | w
        · have := pb0 (by omega); clear t3 t2; omega
        · exact w
      exact ⟨i, i1, by clear t3 t2; omega, r1, r3, by rw [r2, pb1 r3]⟩
def b_cr (f A : Int → Int) (G g c s : Int) : Prop := a_E A g c s ∧ g < G ∧ G < f_end A s g ∧ f (7 * g + c) < 1000000 ∧ 0 < (a_W A (f_end A s g) (f_cls A s)).length
noncomputable def b_ct (A : Int → Int) (f : Int → Int) (g c s : Int) : Int := f (7 * g + c) + a_edge A c s + (w_at (a_W A (f_end A s g) (f_cls A s)) 0).1
set_option maxHeartbeats 4000000 in
theorem sp_R_leastCrossing (d : Nat) (G : Int) (M : jxM) {A : Int → Int} (hr : q_rs M 4 A) (ho : q_ok A) (hb : q_bt M A) (hG : 0 ≤ G ∧ G ≤ A 271) {K : jxK} (h : ∀ t, t ≤ 1000000 → (∀ g c s, b_cr (M 91) A G g c s → t ≤ b_ct A (M 91) g c s) → (t < 1000000 → ∃ g c s, b_cr (M 91) A G g c s ∧ t = b_ct A (M 91) g c s) → K (some (.inl t)) M) : jx_call jx_G1 jx_T (d + 4) 42 [.inr 90, .inl G] M K := by
  have hnn := ho.2.2.2.2.1
  intro X hX
  refine bk_R_leastCrossing_0 (d := d) hX G M ?_
  refine jx_loop (σ := Int) G (fun st t => 0 ≤ st ∧ st ≤ G ∧ t ≤ 1000000 ∧ (∀ g c s, b_cr (M 91) A G g c s → a_Ei A st 0 0 g c s → t ≤ b_ct A (M 91) g c s) ∧ (t < 1000000 → ∃ g c s, b_cr (M 91) A G g c s ∧ t = b_ct A (M 91) g c s)) (fun st t => X 4 [.inr 90, .inl G, .inl t, .inl st, .inr 0, .inr 0] [] M) ?_ 0 _ ⟨by omega, by omega, by omega, fun g c s a b => ?_, fun z => by omega⟩
  · intro st t ⟨i1, i2, t1, t2, t3⟩ ih
    refine bk_R_leastCrossing_4 (d := d) hX G t st M ⟨fun q => h t t1 (fun g c s a => t2 g c s a ⟨a.1, Or.inl (by have := a.2.1; clear t3 t2; omega)⟩) t3, fun q => ?_⟩
    have gl : st < A 271 := by clear t3 t2; omega
    have hsl := a_seg_len ho st
    have e85 : M 85 st = ((a_seg A st).length : Int) := (hb.1.1 st i1 gl).1
    refine jx_loop (σ := Int) ((a_seg A st).length : Int) (fun i t => 0 ≤ i ∧ i ≤ ((a_seg A st).length : Int) ∧ t ≤ 1000000 ∧ (∀ g c s, b_cr (M 91) A G g c s → a_Ei A st i.toNat 0 g c s → t ≤ b_ct A (M 91) g c s) ∧ (t < 1000000 → ∃ g c s, b_cr (M 91) A G g c s ∧ t = b_ct A (M 91) g c s)) (fun i t => X 9 [.inr 90, .inl G, .inl t, .inl st, .inl i, .inr 0] [] M) ?_ 0 t ⟨by omega, by omega, t1, t2, t3⟩
    clear t3 t2 t1 t
    intro i t ⟨j1, j2, t1, t2, t3⟩ jh
    have ob1 : (0 ≤ st ∧ st < 17) := by clear t3 t2; omega
    refine bk_R_leastCrossing_9 (d := d) hX G t st i M ⟨ob1, fun z => ⟨by clear t3 t2; omega, ih t q ⟨by clear t3 t2; omega, by clear t3 t2; omega, t1, fun g c s a b => t2 g c s a ?_, t3⟩⟩, fun z => ⟨⟨by clear t3 t2; omega, by clear t3 t2; omega, by clear t3 t2; omega⟩, ?_⟩⟩
    · have : i.toNat = (a_seg A st).length := by clear t3 t2; omega
      rw [this]
      exact (a_Ei_end g c s).mpr b
    · obtain ⟨k0, k2, k3, k4, k4b, k5, k6, k7, k8⟩ := q_lat_at ho hb.1 ⟨i1, gl⟩ ⟨j1, z⟩
      obtain ⟨s1, b, s2, s3, s4⟩ := r_slot hr ho hb ⟨i1, gl⟩ ⟨j1, z⟩
      have it : (i + 1).toNat = i.toNat + 1 := by clear t3 t2; omega
      have old : ∀ g c s, a_Ei A st (i.toNat + 1) 0 g c s → a_Ei A st i.toNat 0 g c s ∨ g = st ∧ s = (a_seg A st).getD i.toNat 0 := fun g c s w => by
        rcases (a_Ei_next k0 g c s).mpr w with ⟨w1, w2 | ⟨w2, w3 | ⟨w3, w4, w5⟩⟩⟩
        · exact Or.inl ⟨w1, Or.inl w2⟩
        · exact Or.inl ⟨w1, Or.inr ⟨w2, Or.inl w3⟩⟩
        · exact Or.inr ⟨w2, w3⟩
      rw [k3]
      generalize hs : (a_seg A st).getD i.toNat 0 = s at *
      refine ⟨fun y => ⟨by clear t3 t2; omega, jh t (by clear t3 t2; omega) ⟨by clear t3 t2; omega, by clear t3 t2; omega, t1, fun g c s' a w => ?_, t3⟩⟩, fun y => ?_⟩
      · rw [it] at w
        rcases old g c s' w with w2 | ⟨w2, w3⟩
        · exact t2 g c s' a w2
        · have := a.2.2.1
          rw [w2, w3] at this
          clear t3 t2; omega
      · have pb := p_bw_bnd ho (g := f_end A s st) (c := f_cls A s) ⟨by clear t3 t2; omega, k5.2⟩ ⟨k6.1, by clear t3 t2; omega⟩
        have pb1 : 0 < (a_W A (f_end A s st) (f_cls A s)).length → p_bw A (f_end A s st) (f_cls A s) = (w_at (a_W A (f_end A s st) (f_cls A s)) 0).1 := fun z => by unfold p_bw; rw [if_pos z]
        have pb0 : ¬ 0 < (a_W A (f_end A s st) (f_cls A s)).length → p_bw A (f_end A s st) (f_cls A s) = 1000000 := fun z => by unfold p_bw; rw [if_neg z]
        rw [k3] at s1
        refine ⟨⟨s1, by clear t3 t2; omega⟩, jh _ (by clear t3 t2; omega) ⟨by clear t3 t2; omega, by clear t3 t2; omega, by clear t3 t2; omega, fun g c s' a w => ?_, fun w => ?_⟩⟩
        · rw [it] at w
          rcases old g c s' w with w2 | ⟨w2, w3⟩
          · have := t2 g c s' a w2
            clear t3 t2; omega
          · rw [w2, w3] at a ⊢
            obtain ⟨a1, a2, a3, a4, a5⟩ := a
            have u1 := s2.2.2.1 c a1.2.2.1 (by have := a1.2.2.2.1; clear t3 t2; omega)
            have u2 := a_con_bnd ho (l := c) (r := f_cls A s) ⟨a1.2.2.1, a1.2.2.2.1⟩ ⟨k6.1, by clear t3 t2; omega⟩
            have u3 := (hb.2.1.1 st c i1 (by clear t3 t2; omega) a1.2.2.1 a1.2.2.2.1).2 a4
            have u4 := s3 (by clear t3 t2 s2 s3 s4; omega)
            have u5 := pb1 a5
            unfold b_ct a_edge
            clear t3 t2 s2 s3 s4; omega
        · rcases (show min t (r_thr M st (st * 21 + i)) = t ∨ min t (r_thr M st (st * 21 + i)) = r_thr M st (st * 21 + i) by clear t3 t2; omega) with w2 | w2
          · rw [w2] at w ⊢
            exact t3 w
          · rw [w2] at w ⊢
            have v1 : b < 1000000 := by
              rcases Int.lt_or_le b 1000000 with v | v
              · exact v
              · have := s4 v; clear t3 t2 s2 s3 s4; omega
            have v2 := s3 v1
            obtain ⟨c, c1, c2, c3⟩ := s2.2.2.2 v1
            have u2 := a_con_bnd ho (l := c) (r := f_cls A s) ⟨c1, by clear t3 t2; omega⟩ ⟨k6.1, by clear t3 t2; omega⟩
            have s20 := s2.1
            have v3 : 0 < (a_W A (f_end A s st) (f_cls A s)).length := by
              rcases Nat.eq_zero_or_pos (a_W A (f_end A s st) (f_cls A s)).length with v | v
              · have := pb0 (by rw [v]; exact Nat.lt_irrefl 0)
                clear t3 t2 s2 s3 s4; omega
              · exact v
            refine ⟨st, c, s, ⟨⟨i1, gl, c1, by clear t3 t2 s2; omega, k8⟩, q, y, by clear t3 t2 s2; omega, v3⟩, ?_⟩
            rw [v2, pb1 v3]
            unfold b_ct a_edge
            clear t3 t2 s2 s3 s4; omega
  · rcases b.2 with y | ⟨y, y2 | ⟨y2, y3, y4⟩⟩
    · have := b.1.1; omega
    · rw [List.take_zero] at y2; cases y2
    · have := b.1.2.2.1; omega
