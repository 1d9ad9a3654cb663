theorem q_ld_at {M : jxM} {A : Int → Int} (h : q_ld M A) {g c : Int} (hg : 0 ≤ g ∧ g ≤ A 271) (hc : 0 ≤ c ∧ c ≤ 6) : q_rk M (7 * g + c) (a_W A g c) := by
  rcases Int.lt_or_le g (A 271) with z | z
  · exact (h.1 g c hg.1 z hc.1 hc.2).k
  · obtain rfl : g = A 271 := by omega
    exact h.2.1 c hc.1 hc.2
theorem q_rel_c {M1 M2 M1' : jxM} (h : q_rel M1 M2) (h1 : ∀ c x, c < 84 → ¬ (c = 1 ∧ x = 5) → M1' c x = M1 c x) (a : M1' 1 5 = 0) (b : q_bt M1' (M2 2)) : q_rel M1' M2 :=
  ⟨q_base_fr h.1 (fun c x c1 c2 => h1 c x (by omega) (by omega)) (fun _ _ _ _ => rfl) rfl rfl, Or.inl a, fun _ => b, h.2.2.2.1, h.2.2.2.2⟩
set_option maxHeartbeats 4000000 in
theorem pr_bestThrough (d1 d2 : Nat) {M1 M2 : jxM} (h : q_rel M1 M2) (e g : Int) : jx_call jx_G1 jx_T (d1 + 7) 66 [.inr 1, .inl e, .inl g] M1 (fun v M1' => jx_call jx_G2 jx_T (d2 + 6) 122 [.inr 1, .inl e, .inl g] M2 (q_go v M1')) := by
  have hh := h
  obtain ⟨hb, p1, p2, p3, p4⟩ := h
  have ho := hb.2.2.1
  obtain ⟨-, -, b3, b4, b5, b6, -⟩ := q_bs hb
  intro X hX
  refine bk_C_bestThrough_0 (d := d1) hX e g M1 ⟨by omega, fun z => ?_, fun z => ⟨fun z2 => ?_, fun z2 => ?_⟩⟩
  · intro X2 hX2
    exact bk_F_bestThrough_0 (d := d2) hX2 e g M2 ⟨by omega, fun y => q_stay hh _, fun y => by omega⟩
  · refine sp_C_presentPaths d1 M1 hb.2.1 ho p2 (fun N a1 a2 a3 => ⟨rfl, ?_⟩)
    have nr : q_rs N 4 (M2 2) := q_rs_fr ho hb.2.1 (fun c x c1 c2 => a1 c x (by omega) (by omega))
    have nq := q_rel_c hh (fun c x c1 c2 => a1 c x (by omega) c2) a2 a3
    have e1 : 0 ≤ e := by omega
    have e2 : e < M2 2 0 := by omega
    have oe := ho.2.1 e e1 e2
    have hE : f_end (M2 2) e g = g + M2 2 (1 + 11 * e) := by unfold f_end; rw [if_neg (by omega)]
    have pre1 : (((0 : Int) ≤ e ∧ e < 20) ∧ ((0 : Int) ≤ (M2 2 (1 + 11 * e)) ∧ (M2 2 (1 + 11 * e)) ≤ 6) ∧ (M2 2 271) ≤ 16 ∧ (0 : Int) ≤ g ∧ g ≤ 16) := by omega
    have pre2 : (e = -5 ∨ (0 : Int) ≤ e ∧ e < 20 ∧ (0 : Int) ≤ (M2 2 (1 + 11 * e)) ∧ (M2 2 (1 + 11 * e)) ≤ 6) ∧ (0 : Int) ≤ g ∧ g ≤ 16 := by omega
    refine sp_R_leastThroughEntry (d1 + 2) e g N nr ho a3 (by omega) (fun y => ⟨1000000, rfl, fun _ => ?_, fun w => absurd w (by decide)⟩) (fun gl y b r y1 y2 y3 => ⟨min 1000000 r, rfl, ?_⟩)
    · intro X2 hX2
      refine bk_F_bestThrough_0 (d := d2) hX2 e g M2 ⟨by omega, fun w => by omega, fun _ => ⟨fun _ => ⟨pre1, fun _ => ⟨⟨_, rfl, rfl⟩, nq⟩, fun w => ⟨⟨pre2, by have := w.1; omega⟩, fun w2 => ?_, fun _ => ⟨⟨_, rfl, rfl⟩, nq⟩⟩⟩, fun w => by omega⟩⟩
      exact absurd ⟨by have := w.1; omega, a_seg_in ho e1 e2 w w2⟩ y
    · obtain ⟨m1, m2, m3, m4, m5⟩ := a_seg_mem ho ⟨by omega, gl⟩ y
      have st : f_stands (M2 2) e g := by rcases m1 with m1 | m1; · omega
                                          · exact m1.2.2
      have hcost : f_cost (M2 2) e = f_price (M2 2) e := by unfold f_cost; rw [if_neg (by omega)]
      have ps : (((0 : Int) ≤ e ∧ e < 20) ∧ ((0 : Int) ≤ (M2 2 (1 + 11 * e + 9)) ∧ (M2 2 (1 + 11 * e + 9)) ≤ 99) ∧ ((0 : Int) ≤ (M2 2 (1 + 11 * e + 10)) ∧ (M2 2 (1 + 11 * e + 10)) ≤ 9)) := by omega
      have key : ∀ v : Int, (1000000 ≤ b → v = -9) → (b < 1000000 → (a_W (M2 2) (f_end (M2 2) e g) (f_cls (M2 2) e)).length = 0 → v = -9) → (b < 1000000 → (a_W (M2 2) (f_end (M2 2) e g) (f_cls (M2 2) e)).length ≠ 0 → v = b + f_price (M2 2) e + p_bw (M2 2) (f_end (M2 2) e g) (f_cls (M2 2) e)) → jx_call jx_G2 jx_T (d2 + 6) 122 [.inr 1, .inl e, .inl g] M2 (q_go (some (.inl v)) N) := by
        intro v v1 v2 v3 X2 hX2
        refine bk_F_bestThrough_0 (d := d2) hX2 e g M2 ⟨by omega, fun w => by omega, fun _ => ⟨fun _ => ⟨pre1, fun w => absurd st w, fun w => ⟨⟨pre2, by omega⟩, fun w2 => ?_, fun w2 => absurd m5 w2⟩⟩, fun w => by omega⟩⟩
        refine sp_F_lay d2 M2 (fun _ _ _ => rfl) ho p3 p4 (fun N2 c1 c2 c3 => ⟨rfl, ?_⟩)
        refine sp_F_layAhead (d2 + 1) N2 (A := M2 2) (funext (fun x => c1 2 x (by omega) (by omega))) ho (fun N3 f1 f2 f3 => ⟨rfl, ?_⟩)
        have fr : ∀ c x, c < 5 → ¬ (c = 1 ∧ (x = 5 ∨ x = 6 ∨ x = 14)) → N3 c x = M2 c x := fun c x c1' c2' => by rw [f1 c x (by omega) (by omega) (by omega)]; exact c1 c x (by omega) (by omega)
        have n2 : N3 2 = M2 2 := funext (fun x => fr 2 x (by omega) (by omega))
        have n5 : N3 1 5 = 1 := (f1 1 5 (by decide) (by decide) (by omega)).trans c2
        have nl : q_ld N3 (M2 2) := q_ld_fr ho c3 (fun c x c1' c2' => f1 c x (by omega) (by omega) (by omega))
        have fin := q_rel_new hb (fun c x c1 c2 => a1 c x (by omega) c2) fr a2 a3 n5 nl
        have rk := q_ld_at nl (g := f_end (M2 2) e g) (c := f_cls (M2 2) e) ⟨by omega, by omega⟩ ⟨by omega, by omega⟩
        have hl20 := a_W_len ho (g := f_end (M2 2) e g) (c := f_cls (M2 2) e) (by omega) (by omega)
        rw [n2]
        refine ⟨⟨pre2, by omega, by omega, by omega⟩, ?_⟩
        refine jx_loop (σ := Int) 7 (fun i t => 0 ≤ i ∧ i ≤ 7 ∧ m_b (N3 14) 100000000 (M2 2) g e t i) (fun i t => X2 48 [.inr 1, .inl e, .inl g, .inl (7 * f_end (M2 2) e g + f_cls (M2 2) e), .inl t, .inl i, .inr 0] [] N3) ?_ 0 _ ⟨by omega, by omega, by omega, by omega, fun c x1 x2 => by omega, fun w => by omega⟩
        intro i t ⟨i1, i2, i3⟩ ih
        refine bk_F_bestThrough_48 (d := d2) hX2 e g (7 * f_end (M2 2) e g + f_cls (M2 2) e) t i N3 ⟨fun q => ?_, fun q => ?_⟩
        · obtain rfl : i = 7 := by omega
          obtain ⟨t1, t2⟩ := m_b_two ho (by omega) (by omega) a3.2.1 f2 ⟨by omega, by omega⟩ ⟨m3.1, by omega⟩ y1 i3
          have i30 := i3.1
          clear i3
          refine ⟨fun q1 => ?_, fun q1 => ⟨by omega, fun q2 => ?_, fun q2 => ?_⟩⟩
          · rw [v1 (by omega)]
            exact ⟨⟨_, rfl, rfl⟩, fin⟩
          · have q3 := t2 (t1.mpr q1)
            rw [rk.1] at q2
            have q4 : (a_W (M2 2) (f_end (M2 2) e g) (f_cls (M2 2) e)).length ≠ 0 := by omega
            have q5 := rk.2 0 (by omega)
            rw [show ((0 : Nat) : Int) = 0 from rfl, Int.add_zero] at q5
            have q6 : p_bw (M2 2) (f_end (M2 2) e g) (f_cls (M2 2) e) = (w_at (a_W (M2 2) (f_end (M2 2) e g) (f_cls (M2 2) e)) 0).1 := by unfold p_bw; rw [if_pos (by omega)]
            have q7 := p_bw_bnd ho (g := f_end (M2 2) e g) (c := f_cls (M2 2) e) ⟨by omega, by omega⟩ ⟨m3.1, by omega⟩
            have q8 := q7.2.2 (by omega)
            have q9 := v3 (t1.mpr q1) q4
            rw [n2, q5, ← q6]
            rw [← hcost] at q9 ⊢
            refine ⟨⟨ps, by omega, by omega, by omega, by omega⟩, ⟨_, rfl, ?_⟩, fin⟩
            congr 2
            omega
          · rw [rk.1] at q2
            rw [v2 (t1.mpr q1) (by omega)]
            exact ⟨⟨_, rfl, rfl⟩, fin⟩
        · rw [n2]
          have hcn := a_con_bnd ho (l := i) (r := f_cls (M2 2) e) ⟨i1, by omega⟩ ⟨m3.1, by omega⟩
          have hcd : a_con (M2 2) i (f_cls (M2 2) e) = M2 2 (221 + 7 * i + f_cls (M2 2) e) := rfl
          have b1 := f3 (7 * g + i) (by omega) (by omega)
          obtain ⟨j1, j2, j3, j4⟩ := i3
          refine ⟨⟨by omega, by omega, by omega, by omega, by omega, by omega⟩, fun q1 => ⟨by omega, ih t q ⟨by omega, by omega, j1, j2, fun c x1 x2 => ?_, fun w => ?_⟩⟩, fun q1 => ⟨by omega, ih _ q ⟨by omega, by omega, by omega, by omega, fun c x1 x2 => ?_, fun w => ⟨i, i1, by omega, rfl⟩⟩⟩⟩
          · rcases (show c < i ∨ c = i by omega) with y6 | y6
            · exact j3 c x1 y6
            · rw [y6]; exact q1
          · obtain ⟨c, x1, x2, x3⟩ := j4 w
            exact ⟨c, x1, by omega, x3⟩
          · rcases (show c < i ∨ c = i by omega) with y6 | y6
            · have := j3 c x1 y6
              omega
            · rw [y6]; exact Int.le_refl _
      have q7 := p_bw_bnd ho (g := f_end (M2 2) e g) (c := f_cls (M2 2) e) ⟨by omega, by omega⟩ ⟨m3.1, by omega⟩
      have q10 : (a_W (M2 2) (f_end (M2 2) e g) (f_cls (M2 2) e)).length = 0 → p_bw (M2 2) (f_end (M2 2) e g) (f_cls (M2 2) e) = 1000000 := fun z => by unfold p_bw; rw [if_neg (by omega)]
      have y10 := y1.1
      have hb5 : b < 1000000 → b ≤ 4999 := fun z => by
        obtain ⟨c, x1, x2, x3⟩ := y1.2.2.2 z
        have hcn := a_con_bnd ho (l := c) (r := f_cls (M2 2) e) ⟨x1, by omega⟩ ⟨m3.1, by omega⟩
        have := (a3.2.1.1 g c (by omega) (by omega) x1 (by omega)).2 (by omega)
        omega
      refine ⟨fun w => key (-9) (fun _ => rfl) (fun _ _ => rfl) (fun z z2 => ?_), fun w => key _ (fun z => ?_) (fun z z2 => ?_) (fun z z2 => ?_)⟩
      · have := y2 z; have := q7.2.2 (by omega); have := hb5 z; omega
      · have := y3 z; omega
      · have := y2 z; have := q10 z2; omega
      · have := y2 z; have := q7.2.2 (by omega); have := hb5 z; omega
  · intro X2 hX2
    exact bk_F_bestThrough_0 (d := d2) hX2 e g M2 ⟨by omega, fun y => by omega, fun y => ⟨fun w => by omega, fun w => q_stay hh _⟩⟩
