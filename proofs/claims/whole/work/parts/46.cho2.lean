set_option maxHeartbeats 4000000 in
theorem pr_choose (d1 d2 : Nat) {M1 M2 : jxM} (h : q_rel M1 M2) (r : Int) : jx_call jx_G1 jx_T (d1 + 7) 69 [.inr 1, .inl r] M1 (fun v M1' => jx_call jx_G2 jx_T (d2 + 7) 125 [.inr 1, .inl r] M2 (q_go v M1')) := by
  have hh := h
  obtain ⟨hb, p1, p2, p3, p4⟩ := h
  have ho := hb.2.2.1
  obtain ⟨a1, a2, a3, a4, a5, a6, a7, a8, a9, a10⟩ := q_bs hb
  intro X hX
  refine bk_C_choose_0 (d := d1) hX r M1 ⟨fun z => ?_, fun z => ?_⟩
  · refine sp_C_presentPaths d1 M1 hb.2.1 ho p2 (fun N n1 n2 n3 => ⟨rfl, ?_⟩)
    rw [(q_bt_top ho n3).1]
    refine ⟨fun y => ?_, fun y => ?_⟩
    · refine sp_R_walk (d1 + 4) r N ((n1 4 5 (by omega) (by omega)).trans hb.2.1.2.2.2.2.1) ho n3 (by omega) y (fun N2 b1 b2 => ⟨rfl, ?_⟩)
      have fr : ∀ c x, c < 84 → ¬ (c = 1 ∧ x = 5) → N2 c x = M1 c x := fun c x c1 c2 => by rw [b1 c x (by omega) (by omega)]; exact n1 c x (by omega) c2
      have e151 := fr 15 1 (by omega) (by omega)
      have e152 := fr 15 2 (by omega) (by omega)
      refine sp_C_beginEdit (d1 + 1) N2 (by omega) (fun N3 ed => ⟨rfl, ?_⟩)
      have fr3 : ∀ c x, c ≤ 14 → ¬ (c = 1 ∧ x = 5) → N3 c x = M1 c x := fun c x c1 c2 => by rw [ed.1 c x (Or.inl c1) c2]; exact fr c x (by omega) c2
      have fr4 : ∀ c x, 83 ≤ c → N3 c x = N2 c x := fun c x c1 => ed.1 c x (Or.inr c1) (by omega)
      have pl := p_tr_len (M2 2) 16 0 6 r.toNat
      have pm := p_tr_mem ho 16 0 6 r.toNat (by omega) (by omega) (by omega)
      have ph : p_hold (N3 100) (N3 101) (N3 90 13) (p_tr (M2 2) 16 0 6 r.toNat) := by
        refine ⟨(fr4 90 13 (by omega)).trans b2.1, fun k hk => ?_⟩
        rw [fr4 100 k (by omega), fr4 101 k (by omega)]
        exact b2.2 k hk
      have hu : ∀ e, 0 ≤ e → e < M2 2 0 → N3 11 e = M2 2 (1 + 11 * e + 10) := fun e e1 e2 => (fr3 11 e (by omega) (by omega)).trans (q_en hb e1 e2).2.2.2.2.2.2.2.1
      generalize hl : p_tr (M2 2) 16 0 6 r.toNat = l at *
      refine c_learn hX r N3 ((fr3 5 6 (by omega) (by omega)).trans a3) hu ho pl ph (fun N4 m1 m2 => ?_)
      intro X2 hX2
      refine bk_F_choose_0 (d := d2) hX2 r M2 ⟨fun _ => ?_, fun w => absurd (by omega) w⟩
      refine sp_F_follow d2 r M2 rfl ho p3 p4 (by omega) (by omega) (fun P c1 c2 c3 w => by omega) (fun P c1 c2 c3 _ c5 => ⟨1, rfl, fun _ => ?_, fun w => absurd w (by decide)⟩)
      rw [hl] at c5
      have cf : ∀ c x, c < 5 → ¬ (c = 1 ∧ (x = 5 ∨ x = 6 ∨ x = 14)) → P c x = M2 c x := fun c x x1 x2 => c1 c x (by omega) x2
      have e12 := cf 1 2 (by omega) (by omega)
      have hq := q_rel_new hb fr cf (by rw [b1 1 5 (by omega) (by omega)]; exact n2) (q_bt_fr2 ho n3 (fun c x c1 c2 _ => b1 c x (by omega) (by omega))) c2 c3
      refine sp_F_save (d2 + 5) P (by omega) (fun P2 sv => ⟨rfl, ?_⟩)
      obtain ⟨hb3, f1, f2⟩ := q_edit_base hq.1 ed sv
      have pA : P2 2 = M2 2 := funext (fun x => by rw [sv.1 2 x (by decide) (by decide)]; exact cf 2 x (by omega) (by omega))
      refine f_learn hX2 r P2 pA ho pl pm ⟨by rw [sv.2.1 14 (by decide) (by decide)]; exact c5.1, fun k hk => by rw [sv.1 12 k (by decide) (by decide), sv.1 13 k (by decide) (by decide)]; exact c5.2 k hk⟩ (fun P3 o1 o2 o3 => ?_)
      have m0 : P3 2 0 = M2 2 0 := o3 0 (fun e e1 e2 => by omega)
      have hbr := hb3.2.1
      have hbo := hb3.2.2.1
      rw [pA] at hbr hbo
      refine ⟨⟨_, rfl, rfl⟩, q_mod hb3 (q_txt_fr hb3.1 (fun c x hc => m1 c x (by omega)) (o1 1 4 (by decide)) (fun x => o1 4 x (by decide))) ?_ ?_ (fun c x c1 c2 => m1 c x (by omega)) (fun x => o1 3 x (by decide)) (o1 1 2 (by decide)), Or.inr ((m1 1 5 (by decide)).trans f1), fun w => absurd (w.symm.trans ((m1 1 5 (by decide)).trans f1)) (by decide), Or.inl ((o1 1 5 (by decide)).trans f2), fun w => absurd (w.symm.trans ((o1 1 5 (by decide)).trans f2)) (by decide)⟩
      · obtain ⟨r1, r2, r3, r4, r5, r6, r7⟩ := hbr
        obtain ⟨q1, q2, q3, q4, q5, q6⟩ := hbo
        refine ⟨?_, fun e e1 e2 => ?_, fun j j1 j2 => ?_, ?_, ?_, fun i i1 i2 => ?_, fun g g1 g2 => ?_⟩
        · rw [m0]; exact (m1 _ _ (by decide)).trans r1
        · rw [m0] at e2
          obtain ⟨y1, y2, y3, y4, y5, y6⟩ := r2 e e1 e2
          have ol := (q2 e e1 e2).1
          rw [o3 (1 + 11 * e) (fun j j1 j2 => by omega), o3 (1 + 11 * e + 7) (fun j j1 j2 => by omega), o3 (1 + 11 * e + 8) (fun j j1 j2 => by omega), o3 (1 + 11 * e + 9) (fun j j1 j2 => by omega), o2 e e1 e2]
          refine ⟨(m1 _ _ (by decide)).trans y1, fun i i1 i2 => ?_, (m1 _ _ (by decide)).trans y3, (m1 _ _ (by decide)).trans y4, (m1 _ _ (by decide)).trans y5, m2 e e1 e2⟩
          rw [o3 (1 + 11 * e + 1 + i) (fun j j1 j2 => by omega)]
          exact (m1 _ _ (by decide)).trans (y2 i i1 i2)
        · rw [o3 (221 + j) (fun i i1 i2 => by omega)]; exact (m1 _ _ (by decide)).trans (r3 j j1 j2)
        · rw [o3 270 (fun i i1 i2 => by omega)]; exact (m1 _ _ (by decide)).trans r4
        · rw [o3 271 (fun i i1 i2 => by omega)]; exact (m1 _ _ (by decide)).trans r5
        · rw [o3 271 (fun i i1 i2 => by omega)] at i2
          rw [o3 (272 + i) (fun i i1 i2 => by omega)]; exact (m1 _ _ (by decide)).trans (r6 i i1 i2)
        · rw [o3 (288 + g) (fun i i1 i2 => by omega)]; exact (m1 _ _ (by decide)).trans (r7 g g1 g2)
      · obtain ⟨q1, q2, q3, q4, q5, q6⟩ := hbo
        refine ⟨by rw [m0]; exact q1, fun e e1 e2 => ?_, fun j j1 j2 => ?_, ?_, ?_, fun g g1 g2 => ?_⟩
        · rw [m0] at e2
          have := q2 e e1 e2
          have hn := h_n_bnd (M2 2) l l.length e
          have hn2 : 9 ≤ M2 2 (1 + 11 * e + 10) → h_n (M2 2) l l.length e = 0 := fun w => by unfold h_n; exact jx_bf (fun ⟨_, b⟩ => by omega)
          rw [o3 (1 + 11 * e) (fun j j1 j2 => by omega), o3 (1 + 11 * e + 8) (fun j j1 j2 => by omega), o3 (1 + 11 * e + 9) (fun j j1 j2 => by omega), o2 e e1 e2]
          rcases Int.lt_or_le (M2 2 (1 + 11 * e + 10)) 9 with w | w
          · omega
          · have := hn2 w; omega
        · rw [o3 (221 + j) (fun i i1 i2 => by omega)]; exact q3 j j1 j2
        · rw [o3 270 (fun i i1 i2 => by omega)]; exact q4
        · rw [o3 271 (fun i i1 i2 => by omega)]; exact q5
        · rw [o3 (288 + g) (fun i i1 i2 => by omega), o3 271 (fun i i1 i2 => by omega)]; exact q6 g g1 g2
    · intro X2 hX2
      refine bk_F_choose_0 (d := d2) hX2 r M2 ⟨fun _ => ?_, fun w => absurd (by omega) w⟩
      refine sp_F_follow d2 r M2 rfl ho p3 p4 (by omega) (by omega) (fun P c1 c2 c3 w => ⟨0, rfl, fun w => absurd rfl w, fun _ => ?_⟩) (fun P c1 c2 c3 w c5 => absurd w y)
      exact ⟨⟨_, rfl, rfl⟩, q_rel_new hb (fun c x c1 c2 => n1 c x (by omega) c2) (fun c x c1' c2' => c1 c x (by omega) (by omega)) n2 n3 c2 c3⟩
  · intro X2 hX2
    exact bk_F_choose_0 (d := d2) hX2 r M2 ⟨fun y => by omega, fun y => q_stay hh _⟩
