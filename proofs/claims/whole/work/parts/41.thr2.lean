set_option maxHeartbeats 8000000 in
theorem sp_F_layAhead (d : Nat) (M : jxM) {A : Int → Int} (hA : M 2 = A) (ho : q_ok A) {K : jxK} (h : ∀ M', (∀ c x, c ≠ 5 → c ≠ 14 → ¬ (c = 1 ∧ x = 6) → M' c x = M c x) → fwI (M' 14) 100000000 A (a_E A) → (∀ x, 0 ≤ x → x < 119 → 0 ≤ M' 14 x ∧ M' 14 x ≤ 100000000) → K none M') : jx_call jx_G2 jx_T (d + 4) 121 [.inr 1] M K := by
  have hnn := ho.2.2.2.2.1
  intro X hX
  refine bk_F_layAhead_0 (d := d) hX M ?_
  have outer : ∀ (g : Int) (N : jxM), (0 ≤ g ∧ g ≤ A 271 ∧ (∀ c x, c ≠ 5 → c ≠ 14 → ¬ (c = 1 ∧ x = 6) → N c x = M c x) ∧ (∀ x, 0 ≤ x → x < 119 → 0 ≤ N 14 x ∧ N 14 x ≤ 100000000) ∧ fwI (N 14) 100000000 A (a_Ei A g 0 0)) → X 19 [.inr 1, .inl g, .inr 0, .inr 0, .inr 0, .inr 0, .inr 0] [] N := by
    refine jx_loop (σ := jxM) (A 271) _ _ ?_
    intro g N ⟨g1, g2, n1, n2, n3⟩ ih
    have eA : N 2 = A := funext (fun x => by rw [n1 2 x (by decide) (by decide) (by omega), hA])
    refine bk_F_layAhead_19 (d := d) hX g N ⟨fun q => ?_, fun q => ?_⟩
    · rw [eA] at q
      obtain rfl : g = A 271 := by omega
      exact h N n1 (fwI_E n3 a_Ei_all) n2
    · rw [eA] at q
      have hg : 0 ≤ g ∧ g < A 271 := ⟨g1, q⟩
      have hsl := a_seg_len ho g
      refine sp_F_findSegments d g N (fun k _ _ => by rw [eA]) ho hg (fun P p1 p2 p3 => ⟨rfl, ?_⟩)
      refine jx_loop (σ := jxM) ((a_seg A g).length : Int) (fun i L => 0 ≤ i ∧ i ≤ ((a_seg A g).length : Int) ∧ (∀ c x, c ≠ 14 → L c x = P c x) ∧ (∀ x, 0 ≤ x → x < 119 → 0 ≤ L 14 x ∧ L 14 x ≤ 100000000) ∧ fwI (L 14) 100000000 A (a_Ei A g i.toNat 0)) (fun i L => X 30 [.inr 1, .inl g, .inl i, .inr 0, .inr 0, .inr 0, .inr 0] [] L) ?_ 0 P ⟨by omega, by omega, fun _ _ _ => rfl, fun x x1 x2 => by rw [p1 14 x (by decide) (by omega)]; exact n2 x x1 x2, fwI_fr ho (fun _ _ _ w => w.1) n3 (fun x _ _ => p1 14 x (by decide) (by omega))⟩
      intro i L ⟨i1, i2, l1, l2, l3⟩ jh
      have lA : L 2 = A := funext (fun x => by rw [l1 2 x (by decide), p1 2 x (by decide) (by omega), eA])
      have e16 : L 1 6 = ((a_seg A g).length : Int) := (l1 1 6 (by decide)).trans p2
      refine bk_F_layAhead_30 (d := d) hX g i L ⟨fun z => ⟨by omega, ?_⟩, fun z => ?_⟩
      · have it : i.toNat = (a_seg A g).length := by omega
        rw [it] at l3
        refine ih L (by omega) ⟨by omega, by omega, fun c x c1 c2 c3 => ?_, l2, fwI_E l3 a_Ei_end⟩
        rw [l1 c x c2, p1 c x c1 c3]; exact n1 c x c1 c2 c3
      · have k0 : i.toNat < (a_seg A g).length := by omega
        obtain ⟨k1, k2, k3, k4, k5⟩ := a_seg_at ho hg k0
        have k8 := j_getD_mem k0
        have hs := p3 i.toNat k0
        rw [show (0 : Int) + ((i.toNat : Nat) : Int) = i by omega, ← l1 5 i (by decide)] at hs
        rw [hs, lA]
        generalize hs2 : (a_seg A g).getD i.toNat 0 = s at *
        have s4 : s = -5 ∨ ((0 : Int) ≤ s ∧ s < 20 ∧ (0 : Int) ≤ A (1 + 11 * s) ∧ A (1 + 11 * s) ≤ 6) := by
          rcases k1 with k1 | k1
          · exact Or.inl k1
          · have := ho.2.1 s k1.1 (k2 (by omega)); exact Or.inr (by omega)
        have s5 : s = -5 ∨ ((0 : Int) ≤ s ∧ s < 20) ∧ ((0 : Int) ≤ A (1 + 11 * s + 9) ∧ A (1 + 11 * s + 9) ≤ 99) ∧ ((0 : Int) ≤ A (1 + 11 * s + 10) ∧ A (1 + 11 * s + 10) ≤ 9) := by
          rcases k1 with k1 | k1
          · exact Or.inl k1
          · have := ho.2.1 s k1.1 (k2 (by omega)); exact Or.inr (by omega)
        refine ⟨⟨by omega, ⟨s4, by omega, by omega⟩, by omega, k1, by omega⟩, ?_⟩
        refine jx_loop (σ := jxM) 7 (fun c Q => 0 ≤ c ∧ c ≤ 7 ∧ (∀ c' x, c' ≠ 14 → Q c' x = P c' x) ∧ (∀ x, 0 ≤ x → x < 119 → 0 ≤ Q 14 x ∧ Q 14 x ≤ 100000000) ∧ fwI (Q 14) 100000000 A (a_Ei A g i.toNat c)) (fun c Q => X 52 [.inr 1, .inl g, .inl i, .inl s, .inl (7 * f_end A s g + f_cls A s), .inl c, .inr 0] [] Q) ?_ 0 L ⟨by omega, by omega, l1, l2, l3⟩
        intro c Q ⟨c1, c2, q1, q2, q3⟩ kh
        have qA : Q 2 = A := funext (fun x => by rw [q1 2 x (by decide), p1 2 x (by decide) (by omega), eA])
        have it : (i + 1).toNat = i.toNat + 1 := by omega
        refine bk_F_layAhead_52 (d := d) hX g i s (7 * f_end A s g + f_cls A s) c Q ⟨fun y => ⟨by omega, ?_⟩, fun y => ?_⟩
        · obtain rfl : c = 7 := by omega
          exact jh Q (by omega) ⟨by omega, by omega, q1, q2, by rw [it]; exact fwI_E q3 (a_Ei_next k0)⟩
        · rw [qA]
          have hE : a_E A g c s := ⟨hg.1, hg.2, c1, by omega, k8⟩
          have hcn := a_con_bnd ho (l := c) (r := f_cls A s) ⟨c1, by omega⟩ ⟨k4.1, by omega⟩
          have hed : a_edge A c s = A (221 + 7 * c + f_cls A s) + f_cost A s := rfl
          have hcd : a_con A c (f_cls A s) = A (221 + 7 * c + f_cls A s) := rfl
          have b1 := q2 (7 * g + c) (by omega) (by omega)
          have b2 := q2 (7 * f_end A s g + f_cls A s) (by omega) (by omega)
          have fin : ∀ w, w = min (Q 14 (7 * f_end A s g + f_cls A s)) (Q 14 (7 * g + c) + a_edge A c s) → X 52 [.inr 1, .inl g, .inl i, .inl s, .inl (7 * f_end A s g + f_cls A s), .inl (c + 1), .inr 0] [] (jx_up Q 14 (7 * f_end A s g + f_cls A s) w) := by
            intro w hw
            refine kh _ y ⟨by omega, by omega, fun c' x hc => (jx_upc hc).trans (q1 c' x hc), fun x x1 x2 => ?_, ?_⟩
            · rw [jx_up_at]
              split
              · omega
              · exact q2 x x1 x2
            · refine fwI_upd (v := Q 14 (7 * g + c) + a_edge A c s) ho q3 hg k8 (fun g' c' s' w => ⟨w.1, by rcases w.2 with y | y <;> omega⟩) (fun g' c' s' w => ⟨w.1, by rcases w.2 with y | y <;> omega⟩) (fun g' c' s' w => ⟨w.1, ?_⟩) (by omega) (fun g' c' s' w => ?_) (fun w => ⟨c, c1, by omega, ⟨hE, Or.inr ⟨rfl, Or.inr ⟨hs2.symm, k0, by omega⟩⟩⟩, by omega, rfl⟩) (fun x x1 x2 => ?_)
              · rcases w.2 with y | ⟨y, y2 | ⟨y2, y3, y4⟩⟩
                · exact Or.inl y
                · exact Or.inr ⟨y, Or.inl y2⟩
                · exact Or.inr ⟨y, Or.inr ⟨y2, y3, by omega⟩⟩
              · rcases w.2 with y0 | ⟨y0, y2 | ⟨y2, y3, y4⟩⟩
                · exact Or.inl ⟨w.1, Or.inl y0⟩
                · exact Or.inl ⟨w.1, Or.inr ⟨y0, Or.inl y2⟩⟩
                · rcases Int.lt_or_le c' c with y5 | y5
                  · exact Or.inl ⟨w.1, Or.inr ⟨y0, Or.inr ⟨y2, y3, y5⟩⟩⟩
                  · have y6 : c' = c := by omega
                    exact Or.inr ⟨y0, y2.trans hs2, fun _ => by rw [y6]; exact Int.le_refl _⟩
              · rw [jx_up_at, hw]
                by_cases z : x = 7 * f_end A s g + f_cls A s
                · rw [if_pos z, if_pos z, z]
                · rw [if_neg z, if_neg z]
          refine ⟨⟨by omega, by omega, by omega, k1, by omega, by omega, s5, by omega, by omega⟩, fun z => ⟨⟨by omega, by omega, by omega⟩, fin _ (by omega)⟩, fun z => ⟨⟨by omega, by omega⟩, fin _ (by omega)⟩⟩
  refine jx_loop (σ := jxM) 119 (fun i L => 0 ≤ i ∧ i ≤ 119 ∧ (∀ c x, c ≠ 14 → L c x = M c x) ∧ ∀ x, 0 ≤ x → x < i → L 14 x = 100000000) (fun i L => X 2 [.inr 1, .inl i, .inr 0, .inr 0, .inr 0, .inr 0, .inr 0] [] L) ?_ 0 M ⟨by omega, by omega, fun _ _ _ => rfl, fun x _ _ => by omega⟩
  intro i L ⟨i1, i2, l1, l2⟩ ih
  refine bk_F_layAhead_2 (d := d) hX i L ⟨fun q => ?_, fun q => ⟨⟨by omega, by omega⟩, ih _ q ⟨by omega, by omega, fun c x hc => (jx_upc hc).trans (l1 c x hc), fun x x1 x2 => ?_⟩⟩⟩
  · obtain rfl : i = 119 := by omega
    have val : ∀ x, 0 ≤ x → x < 119 → jx_up L 14 6 0 14 x = if x = 6 then 0 else 100000000 := fun x x1 x2 => by rw [jx_up_at, l2 x x1 x2]
    refine outer 0 _ ⟨by omega, by omega, fun c x c1 c2 c3 => (jx_upc c2).trans (l1 c x c2), fun x x1 x2 => ?_, ⟨fun g c g1 g2 c1 c2 => ?_, jx_ups, fun g c s w => ?_, fun g c g1 g2 c1 c2 w => ?_⟩⟩
    · rw [val x x1 x2]; split <;> omega
    · rw [val _ (by omega) (by omega)]; split <;> omega
    · rcases w.2 with y | ⟨y, y2 | ⟨y2, y3, y4⟩⟩
      · have := w.1.1; omega
      · rw [List.take_zero] at y2; cases y2
      · have := w.1.2.2.1; omega
    · rw [val _ (by omega) (by omega)] at w
      by_cases y : 7 * g + c = 6
      · exact Or.inl ⟨by omega, by omega⟩
      · rw [if_neg y] at w; omega
  · rw [jx_up_at]
    split
    · rfl
    · exact l2 x x1 (by omega)
/-- the least cost on from a state, in the class's lists -/
noncomputable def p_bw (A : Int → Int) (g c : Int) : Int := if 0 < (a_W A g c).length then (w_at (a_W A g c) 0).1 else 1000000
theorem p_bw_bnd {A : Int → Int} (ho : q_ok A) {g c : Int} (hg : 0 ≤ g ∧ g ≤ A 271) (hc : 0 ≤ c ∧ c ≤ 6) : 0 ≤ p_bw A g c ∧ p_bw A g c ≤ 1000000 ∧ (0 < (a_W A g c).length → p_bw A g c ≤ 4900) := by
  have hnn := ho.2.2.2.2.1
  unfold p_bw
  by_cases z : 0 < (a_W A g c).length
  · have := a_W_bnd ho (A 271 - g).toNat hg.1 hg.2 (by omega) hc _ (w_at_mem z)
    rw [if_pos z]
    omega
  · rw [if_neg z]
    omega
theorem r_from_spec {M : jxM} {A : Int → Int} (ho : q_ok A) (hb : q_bt M A) {g c : Int} (hg : 0 ≤ g ∧ g ≤ A 271) (hc : 0 ≤ c ∧ c ≤ 6) : (M 91 (7 * g + c) < 1000000 → r_from M (g * 7 + c) = p_bw A g c) ∧ (1000000 ≤ M 91 (7 * g + c) → r_from M (g * 7 + c) = 1000000) ∧ 0 ≤ r_from M (g * 7 + c) ∧ r_from M (g * 7 + c) ≤ 1000000 := by
  obtain ⟨h1, h2⟩ := hb.2.2.2.1 g c hg.1 hg.2 hc.1 hc.2
  have pb := p_bw_bnd ho hg hc
  have a1 : M 91 (7 * g + c) < 1000000 → r_from M (g * 7 + c) = p_bw A g c := fun z => by
    obtain ⟨-, k1, -⟩ := h1 z
    unfold r_from p_bw
    by_cases y : 0 < (a_W A g c).length
    · rw [if_pos y, if_neg (by rw [k1.1]; omega)]
      have := k1.2 0 y
      rw [show ((0 : Nat) : Int) = 0 from rfl, Int.add_zero] at this
      exact this
    · rw [if_neg y, if_pos (by rw [k1.1]; omega)]
  have a2 : 1000000 ≤ M 91 (7 * g + c) → r_from M (g * 7 + c) = 1000000 := fun z => by
    unfold r_from
    rw [if_pos (by rw [h2 z]; omega)]
  refine ⟨a1, a2, ?_⟩
  rcases Int.lt_or_le (M 91 (7 * g + c)) 1000000 with z | z
  · rw [a1 z]; omega
  · rw [a2 z]; omega
/-- a slot of the class's lattice, with all that is asked of it -/
theorem r_slot {M : jxM} {A : Int → Int} (hr : q_rs M 4 A) (ho : q_ok A) (hb : q_bt M A) {g i : Int} (hg : 0 ≤ g ∧ g < A 271) (hi : 0 ≤ i ∧ i < M 85 g) : (((0 : Int) ≤ g ∧ g ≤ 16) ∧ ((0 : Int) ≤ (g * 21 + i) ∧ (g * 21 + i) < 357) ∧ ((0 : Int) ≤ (M 87 (g * 21 + i)) ∧ (M 87 (g * 21 + i)) ≤ 16) ∧ ((0 : Int) ≤ (M 88 (g * 21 + i)) ∧ (M 88 (g * 21 + i)) ≤ 6) ∧ ((0 : Int) ≤ (M 89 (g * 21 + i)) ∧ (M 89 (g * 21 + i)) ≤ 9999) ∧ (∀ x, (0 : Int) ≤ x → x < 119 → (0 : Int) ≤ M 91 x ∧ M 91 x ≤ 1000000) ∧ (∀ x, (0 : Int) ≤ x → x < 49 → (0 : Int) ≤ M 12 x ∧ M 12 x ≤ 99) ∧ (0 : Int) ≤ r_from M ((M 87 (g * 21 + i)) * 7 + (M 88 (g * 21 + i))) ∧ r_from M ((M 87 (g * 21 + i)) * 7 + (M 88 (g * 21 + i))) ≤ 1000000) ∧ ∃ b, m_b (M 91) 1000000 A g ((a_seg A g).getD i.toNat 0) b 7 ∧ (b < 1000000 → r_thr M g (g * 21 + i) = b + f_cost A ((a_seg A g).getD i.toNat 0) + p_bw A (f_end A ((a_seg A g).getD i.toNat 0) g) (f_cls A ((a_seg A g).getD i.toNat 0))) ∧ (1000000 ≤ b → 1000000 ≤ r_thr M g (g * 21 + i)) := by
  have hnn := ho.2.2.2.2.1
  have hsl := a_seg_len ho g
  have hcn : ∀ x, 0 ≤ x → x < 49 → 0 ≤ M 12 x ∧ M 12 x ≤ 99 := fun x x1 x2 => by
    have e : M 12 x = A (221 + x) := hr.2.2.1 x x1 x2
    rw [e]; exact ho.2.2.1 x x1 x2
  obtain ⟨k0, k2, k3, k4, k4b, k5, k6, k7, k8⟩ := q_lat_at ho hb.1 hg hi
  unfold r_thr
  rw [k3, k4, k4b]
  generalize hs : (a_seg A g).getD i.toNat 0 = s at *
  have l2 := hb.2.2.1
  obtain ⟨r0, r1, r2, r3⟩ := r_bef_spec (M := M) (A := A) (g := g) (s := s) (fun c c1 c2 => q_con hr ⟨c1, c2⟩ ⟨k6.1, by omega⟩) (fun c c1 c2 => ⟨(l2 _ (by omega) (by omega)).1, (a_con_bnd ho ⟨c1, c2⟩ ⟨k6.1, by omega⟩).1⟩) 7 (by omega)
  obtain ⟨f1, f2, f3, f4⟩ := r_from_spec ho hb (g := f_end A s g) (c := f_cls A s) ⟨by omega, by omega⟩ ⟨k6.1, by omega⟩
  refine ⟨⟨by clear r3; omega, by clear r3; omega, by clear r3; omega, by clear r3; omega, by clear r3; omega, l2, hcn, f3, f4⟩, r_bef M g (f_cls A s) 7, ⟨r0, r1, r2, r3⟩, fun z => ?_, fun z => by clear r3; omega⟩
  obtain ⟨c, c1, c2, c3⟩ := r3 z
  have := (a_con_bnd ho (l := c) (r := f_cls A s) ⟨c1, by omega⟩ ⟨k6.1, by omega⟩).1
  rw [f1 (q_reach ho hb hg.1 hg.2 ⟨c1, by omega⟩ (by omega) k8)]
theorem sp_R_leastThroughEntry (d : Nat) (e g : Int) (M : jxM) {A : Int → Int} (hr : q_rs M 4 A) (ho : q_ok A) (hb : q_bt M A) (hg : 0 ≤ g ∧ g ≤ A 271) {K : jxK} (h0 : ¬ (g < A 271 ∧ e ∈ a_seg A g) → K (some (.inl 1000000)) M)
    (h1 : g < A 271 → e ∈ a_seg A g → ∀ b r, m_b (M 91) 1000000 A g e b 7 → (b < 1000000 → r = b + f_cost A e + p_bw A (f_end A e g) (f_cls A e)) → (1000000 ≤ b → 1000000 ≤ r) → K (some (.inl (min 1000000 r))) M) : jx_call jx_G1 jx_T (d + 4) 40 [.inr 90, .inl e, .inl g] M K := by
  have hnn := ho.2.2.2.2.1
  intro X hX
  refine bk_R_leastThroughEntry_0 (d := d) hX e g M ?_
  rcases Int.lt_or_le g (A 271) with gl | gl
  · have hsl := a_seg_len ho g
    have e85 : M 85 g = ((a_seg A g).length : Int) := (hb.1.1 g hg.1 gl).1
    refine jx_loop (σ := Unit) ((a_seg A g).length : Int) (fun i _ => 0 ≤ i ∧ i ≤ ((a_seg A g).length : Int) ∧ ∀ k : Nat, k < i → k < (a_seg A g).length → (a_seg A g).getD k 0 ≠ e) (fun i _ => X 2 [.inr 90, .inl e, .inl g, .inl i, .inr 0] [] M) ?_ 0 () ⟨by omega, by omega, fun k a _ => by omega⟩
    intro i _ ⟨i1, i2, i3⟩ ih
    refine bk_R_leastThroughEntry_2 (d := d) hX e g i M ⟨by omega, fun z => h0 ?_, fun z => ⟨⟨by omega, by omega, by omega⟩, fun y => ⟨by omega, ih () (by omega) ⟨by omega, by omega, fun k a b => ?_⟩⟩, fun y => ?_⟩⟩
    · rintro ⟨-, y⟩
      obtain ⟨k, k1, k2⟩ := List.getElem_of_mem y
      refine i3 k (by omega) k1 ?_
      rw [List.getD_eq_getElem?_getD, List.getElem?_eq_getElem k1, k2]
      rfl
    · rcases (show (k : Int) < i ∨ (k : Int) = i by omega) with w | w
      · exact i3 k w b
      · have := (q_lat_at ho hb.1 ⟨hg.1, gl⟩ ⟨i1, z⟩).2.1
        rw [show i.toNat = k by omega] at this
        rw [← this]; exact y
    · obtain ⟨s1, b, s2, s3, s4⟩ := r_slot hr ho hb ⟨hg.1, gl⟩ ⟨i1, z⟩
      have k := q_lat_at ho hb.1 ⟨hg.1, gl⟩ ⟨i1, z⟩
      have k9 := k.2.2.2.2.2.2.2.2
      rw [← k.2.1, y] at s2 s3 k9
      exact ⟨s1, h1 gl k9 b _ s2 s3 s4⟩
  · have e85 : M 85 g = 0 := by
      have := hb.1.2
      rw [show g = A 271 by omega]; exact this
    exact bk_R_leastThroughEntry_2 (d := d) hX e g 0 M ⟨by omega, fun z => h0 (by omega), fun z => by omega⟩
