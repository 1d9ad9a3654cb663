def f_found (M : jxM) (w c : Int) : Prop := ∃ e, 0 ≤ e ∧ e < M 2 0 ∧ M 2 (1 + 11 * e) = M 1 4 ∧ f_begins M e ∧ M 2 (1 + 11 * e + 7) = w ∧ M 2 (1 + 11 * e + 8) = c
theorem q_found {M1 M2 : jxM} (h : q_base M1 M2) (w c : Int) : d_holds M1 w c ↔ f_found M2 w c := by
  obtain ⟨a1, a2, a3, a4, -⟩ := q_bs h
  constructor
  · rintro ⟨e, e1, e2, e3, e4, e5, e6⟩
    rw [a3] at e2
    obtain ⟨z1, z2, z3, z4, -⟩ := q_en h e1 e2
    exact ⟨e, e1, e2, by rw [← z1, e5, a1], (q_begins h e1 e2).mp e6, by rw [← z3]; exact e3, by rw [← z4]; exact e4⟩
  · rintro ⟨e, e1, e2, e3, e4, e5, e6⟩
    obtain ⟨z1, z2, z3, z4, -⟩ := q_en h e1 e2
    exact ⟨e, e1, by rw [a3]; exact e2, by rw [z3]; exact e5, by rw [z4]; exact e6, by rw [z1, e3, a1], (q_begins h e1 e2).mpr e4⟩
set_option maxHeartbeats 4000000 in
theorem sp_F_addEntry (d : Nat) (w c k : Int) (M : jxM) (hw : 0 ≤ w ∧ w ≤ 99) (hc : 0 ≤ c ∧ c ≤ 4) (hk : 0 ≤ k ∧ k ≤ 99) (h1 : (0 ≤ M 1 4 ∧ M 1 4 ≤ 20) ∧ (0 ≤ M 1 2 ∧ M 1 2 ≤ 6) ∧ (0 ≤ M 2 0 ∧ M 2 0 ≤ 20)) (hl : ∀ e, 0 ≤ e → e < M 2 0 → M 2 (1 + 11 * e) ≤ 6) {K : jxK}
    (k1 : f_found M w c → K (some (.inl (-2))) M) (k2 : ¬ f_found M w c → M 2 0 = 20 → K (some (.inl (-3))) M) (k3 : ¬ f_found M w c → M 2 0 < 20 → M 1 4 = 0 → K (some (.inl (-10))) M)
    (k4 : ¬ f_found M w c → M 2 0 < 20 → M 1 4 ≠ 0 → t_err (M 4) 6 (-9) 0 (M 1 4).toNat ≠ -9 → (0 ≤ t_err (M 4) 6 (-9) 0 (M 1 4).toNat ∧ t_err (M 4) 6 (-9) 0 (M 1 4).toNat < 20) ∧ K (some (.inl (-10 - t_err (M 4) 6 (-9) 0 (M 1 4).toNat))) M)
    (k5 : ¬ f_found M w c → M 2 0 < 20 → M 1 4 ≠ 0 → t_err (M 4) 6 (-9) 0 (M 1 4).toNat = -9 → M 1 4 ≤ 6 ∧ ∀ Ms M', q_save M Ms → (∀ c x, c ≠ 2 → ¬ (c = 1 ∧ x = 4) → M' c x = Ms c x) → M' 1 4 = 0 → M' 2 0 = M 2 0 + 1 → (∀ j, 1 ≤ j → j < 1 + 11 * M 2 0 → M' 2 j = Ms 2 j) → M' 2 (1 + 11 * M 2 0) = M 1 4 → (∀ i, 0 ≤ i → i < M 1 4 → M' 2 (1 + 11 * M 2 0 + 1 + i) = M 4 i) → M' 2 (1 + 11 * M 2 0 + 7) = w → M' 2 (1 + 11 * M 2 0 + 8) = c → M' 2 (1 + 11 * M 2 0 + 9) = k → M' 2 (1 + 11 * M 2 0 + 10) = 0 → (∀ j, 221 ≤ j → M' 2 j = Ms 2 j) → K (some (.inl (M 2 0))) M') :
    jx_call jx_G2 jx_T (d + 3) 89 [.inr 1, .inl w, .inl c, .inl k] M K := by
  intro X hX
  refine bk_F_addEntry_0 (d := d) hX w c k M ⟨fun z => absurd hw z, fun _ => ⟨fun z => absurd hc z, fun _ => ⟨fun _ => ?_, fun z => absurd hk z⟩⟩⟩
  refine jx_loop (σ := Unit) (M 2 0) (fun e _ => 0 ≤ e ∧ e ≤ M 2 0 ∧ ∀ j, 0 ≤ j → j < e → ¬ (M 2 (1 + 11 * j) = M 1 4 ∧ f_begins M j ∧ M 2 (1 + 11 * j + 7) = w ∧ M 2 (1 + 11 * j + 8) = c)) (fun e _ => X 19 [.inr 1, .inl w, .inl c, .inl k, .inl e, .inr 0, .inr 0] [] M) ?_ 0 () ⟨by omega, by omega, fun j _ _ => by omega⟩
  intro e _ ⟨i1, i2, i3⟩ ih
  have nf : M 2 0 ≤ e → ¬ f_found M w c := fun q ⟨j, j1, j2, j3⟩ => i3 j j1 (by omega) j3
  have hn : e < M 2 0 → ¬ (M 2 (1 + 11 * e) = M 1 4 ∧ f_begins M e ∧ M 2 (1 + 11 * e + 7) = w ∧ M 2 (1 + 11 * e + 8) = c) → X 19 [.inr 1, .inl w, .inl c, .inl k, .inl (e + 1), .inr 0, .inr 0] [] M := fun q z => ih () q ⟨by omega, by omega, fun j j1 j2 => by
    rcases Int.lt_or_le j e with y | y
    · exact i3 j j1 y
    · obtain rfl : j = e := by omega
      exact z⟩
  refine bk_F_addEntry_19 (d := d) hX w c k e M ⟨fun q => ⟨fun q2 => ⟨fun q3 => ⟨by omega, fun q4 => ?_, fun q4 => ?_⟩, fun q3 => k3 (nf q) (by omega) q3⟩, fun q2 => k2 (nf q) q2⟩, fun q => ⟨by omega, fun q2 => ⟨by omega, hn q (fun z => q2 z.1)⟩, fun q2 => ⟨?_, fun q3 => ⟨by omega, hn q (fun z => q3 z.2.1)⟩, fun q3 => ⟨by omega, fun q4 => ⟨by omega, hn q (fun z => q4 z.2.2.1)⟩, fun q4 => ⟨by omega, fun q5 => ⟨by omega, hn q (fun z => q5 z.2.2.2)⟩, fun q5 => k1 ⟨e, i1, q, q2, q3, q4, q5⟩⟩⟩⟩⟩⟩
  · obtain ⟨hm, hK⟩ := k5 (nf q) (by omega) q3 q4
    refine sp_F_save (d + 1) M h1.2.1 (fun Ms sv => ?_)
    have e14 : Ms 1 4 = M 1 4 := sv.2.1 4 (by decide) (by decide)
    have e20 : Ms 2 0 = M 2 0 := sv.1 2 0 (by decide) (by decide)
    refine ⟨rfl, by omega, ?_⟩
    rw [q4, e20, e14]
    refine jx_loop (σ := jxM) 6 (fun i N => 0 ≤ i ∧ i ≤ 6 ∧ (∀ c x, c ≠ 2 → N c x = Ms c x) ∧ (∀ j, (j < 1 + 11 * M 2 0 ∨ 1 + 11 * M 2 0 + 7 ≤ j) → N 2 j = Ms 2 j) ∧ N 2 (1 + 11 * M 2 0) = M 1 4 ∧ (∀ j, 0 ≤ j → j < i → j < M 1 4 → N 2 (1 + 11 * M 2 0 + 1 + j) = M 4 j)) (fun i N => X 99 [.inr 1, .inl w, .inl c, .inl k, .inl (-9), .inl (1 + 11 * M 2 0), .inl i] [] N) ?_ 0 _ ⟨by omega, by omega, fun c x hc => jx_upc hc, fun j hj => jx_upx (by omega), jx_ups, fun j _ _ _ => by omega⟩
    intro i N ⟨g1, g2, g3, g4, g5, g6⟩ jh
    have n14 : N 1 4 = M 1 4 := (g3 1 4 (by decide)).trans e14
    have n20 : N 2 0 = M 2 0 := (g4 0 (by omega)).trans e20
    have v20 : jx_up (jx_up (jx_up (jx_up N 2 (1 + 11 * M 2 0 + 7) w) 2 (1 + 11 * M 2 0 + 8) c) 2 (1 + 11 * M 2 0 + 9) k) 2 (1 + 11 * M 2 0 + 10) 0 2 0 = M 2 0 := by
      rw [jx_upx (by omega), jx_upx (by omega), jx_upx (by omega), jx_upx (by omega)]; exact n20
    refine bk_F_addEntry_99 (d := d) hX w c k (-9) (1 + 11 * M 2 0) i N ⟨fun z => ?_, fun z => ⟨by omega, fun z2 => ⟨by omega, jh _ z ⟨by omega, by omega, fun c x hc => ?_, fun j hj => ?_, ?_, fun j j1 j2 j3 => ?_⟩⟩, fun z2 => ⟨by omega, jh _ z ⟨by omega, by omega, fun c x hc => ?_, fun j hj => ?_, ?_, fun j j1 j2 j3 => ?_⟩⟩⟩⟩
    · rw [v20]
      refine ⟨by omega, ?_⟩
      rw [show M 2 0 + 1 - 1 = M 2 0 by omega]
      have rd : ∀ j, j ≠ 0 → (j < 1 + 11 * M 2 0 + 7 ∨ 1 + 11 * M 2 0 + 10 < j) → jx_up (jx_up (jx_up (jx_up (jx_up (jx_up N 2 (1 + 11 * M 2 0 + 7) w) 2 (1 + 11 * M 2 0 + 8) c) 2 (1 + 11 * M 2 0 + 9) k) 2 (1 + 11 * M 2 0 + 10) 0) 2 0 (M 2 0 + 1)) 1 4 0 2 j = N 2 j := by
        intro j j0 j1
        rw [jx_upc (by decide), jx_upx j0, jx_upx (by omega), jx_upx (by omega), jx_upx (by omega), jx_upx (by omega)]
      refine hK Ms _ sv (fun c x c1 c2 => ?_) jx_ups ?_ (fun j j1 j2 => ?_) ?_ (fun j j1 j2 => ?_) ?_ ?_ ?_ ?_ (fun j j1 => ?_)
      · by_cases y : c = 1
        · subst y; rw [jx_upx (fun v => c2 ⟨rfl, v⟩), jx_upc c1, jx_upc c1, jx_upc c1, jx_upc c1, jx_upc c1]; exact g3 _ _ c1
        · rw [jx_upc y, jx_upc c1, jx_upc c1, jx_upc c1, jx_upc c1, jx_upc c1]; exact g3 _ _ c1
      · rw [jx_upc (by decide), jx_ups]
      · rw [rd j (by omega) (by omega)]; exact g4 j (by omega)
      · rw [rd _ (by omega) (by omega)]; exact g5
      · rw [rd _ (by omega) (by omega)]; exact g6 j j1 (by omega) j2
      · rw [jx_upc (by decide), jx_upx (by omega), jx_upx (by omega), jx_upx (by omega), jx_upx (by omega), jx_ups]
      · rw [jx_upc (by decide), jx_upx (by omega), jx_upx (by omega), jx_upx (by omega), jx_ups]
      · rw [jx_upc (by decide), jx_upx (by omega), jx_upx (by omega), jx_ups]
      · rw [jx_upc (by decide), jx_upx (by omega), jx_ups]
      · rw [rd j (by omega) (by omega)]; exact g4 j (by omega)
    · rw [jx_upc hc]; exact g3 c x hc
    · rw [jx_upx (by omega)]; exact g4 j hj
    · rw [jx_upx (by omega)]; exact g5
    · rw [jx_upx (by omega)]; exact g6 j j1 (by omega) j3
    · rw [jx_upc hc]; exact g3 c x hc
    · rw [jx_upx (by omega)]; exact g4 j hj
    · rw [jx_upx (by omega)]; exact g5
    · rcases Int.lt_or_le j i with y | y
      · rw [jx_upx (by omega)]; exact g6 j j1 y j3
      · obtain rfl : j = i := by omega
        rw [jx_ups, g3 4 _ (by decide)]
        exact sv.1 4 _ (by decide) (by decide)
  · obtain ⟨z1, z2⟩ := k4 (nf q) (by omega) q3 q4
    exact ⟨by omega, z2⟩
  · have := hl e i1 q
    omega
theorem sp_T_readingError (d : Nat) (M : jxM) (h1 : 0 ≤ M 2 1 ∧ M 2 1 ≤ 20) {K : jxK} (h0 : M 2 1 = 0 → K (some (.inl 0)) M) (h : M 2 1 ≠ 0 → K (some (.inl (t_err (M 3) 6 (-1) 0 (M 2 1).toNat))) M) : jx_call jx_G1 jx_T (d + 3) 44 [.inr 2] M K := by
  intro X hX
  exact bk_T_readingError_0 (d := d) hX M ⟨fun q => ⟨by omega, h q⟩, h0⟩
set_option maxHeartbeats 4000000 in
theorem pr_addEntry (d1 d2 : Nat) {M1 M2 : jxM} (h : q_base M1 M2) (w c k : Int) : jx_call jx_G1 jx_T (d1 + 6) 48 [.inr 1, .inl w, .inl c, .inl k] M1 (fun v M1' => jx_call jx_G2 jx_T (d2 + 3) 89 [.inr 1, .inl w, .inl c, .inl k] M2 (q_pair M1 M2 v M1')) := by
  obtain ⟨a1, a2, a3, a4, a5, a6, a7, a8, a9, a10⟩ := q_bs h
  have hE := q_err h 6
  have hF := q_found h w c
  have hl2 : ∀ e, 0 ≤ e → e < M2 2 0 → M2 2 (1 + 11 * e) ≤ 6 := fun e e1 e2 => (q_en h e1 e2).2.1.2
  have bad : ¬ (0 ≤ w ∧ w ≤ 99 ∧ 0 ≤ c ∧ c ≤ 4 ∧ 0 ≤ k ∧ k ≤ 99) → jx_call jx_G2 jx_T (d2 + 3) 89 [.inr 1, .inl w, .inl c, .inl k] M2 (q_pair M1 M2 (some (.inl (-1))) M1) := by
    intro z X2 hX2
    exact bk_F_addEntry_0 (d := d2) hX2 w c k M2 ⟨fun _ => q_same h _, fun y1 => ⟨fun _ => q_same h _, fun y2 => ⟨fun y3 => absurd ⟨y1.1, y1.2, y2.1, y2.2, y3.1, y3.2⟩ z, fun _ => q_same h _⟩⟩⟩
  intro X hX
  refine bk_C_addEntry_0 (d := d1) hX w c k M1 ⟨fun q => bad (by omega), fun q => ⟨fun q2 => bad (by omega), fun q2 => ⟨fun q3 => ⟨⟨by omega, by omega, fun e e1 e2 => ?_⟩, fun q4 => ⟨fun q5 => ?_, fun q5 => ?_⟩, fun q4 => ?_⟩, fun q3 => bad (by omega)⟩⟩⟩
  · rw [(q_en h e1 (by omega)).1]; exact hl2 e e1 (by omega)
  · have nf : ¬ f_found M2 w c := fun z => q4 (hF.mpr z)
    refine sp_T_readingError (d1 + 2) M1 (by omega) (fun z0 => ⟨_, rfl, fun z => absurd z (by decide), fun _ => ⟨by omega, ?_⟩⟩) (fun z0 => ⟨_, rfl, fun z => ?_, fun z => ⟨by omega, ?_⟩⟩)
    · exact sp_F_addEntry d2 w c k M2 (by omega) (by omega) (by omega) (by omega) hl2 (fun z => absurd z nf) (fun _ z => by omega) (fun _ _ _ => q_same h _) (fun _ _ z => by omega) (fun _ _ z => by omega)
    · refine sp_C_beginEdit d1 M1 (by omega) (fun N1 ed => ⟨rfl, ?_⟩)
      have e21 : N1 2 1 = M1 2 1 := ed.1 2 1 (by omega) (by omega)
      have e56 : N1 5 6 = M1 5 6 := ed.1 5 6 (by omega) (by omega)
      have hm : M2 1 4 ≤ 6 := by omega
      refine sp_D_append (d1 + 3) w c k N1 (by omega) ?_
      have r56 : jx_up (jx_up (jx_up (jx_up (jx_up (jx_up (jx_cp N1 3 0 6 (N1 5 6 * 6) (N1 2 1)) 7 (N1 5 6) (N1 2 1)) 8 (N1 5 6) w) 9 (N1 5 6) c) 10 (N1 5 6) k) 11 (N1 5 6) 0) 5 6 (N1 5 6 + 1) 5 6 = N1 5 6 + 1 := jx_ups
      refine ⟨rfl, by rw [r56]; omega, ?_⟩
      rw [r56]
      refine sp_F_addEntry d2 w c k M2 (by omega) (by omega) (by omega) (by omega) hl2 (fun z => absurd z nf) (fun _ z => by omega) (fun _ _ z => by omega) (fun _ _ _ y => by omega) (fun _ _ _ _ => ⟨hm, fun N2 M' sv m1 m2 m3 m4 m5 m6 m7 m8 m9 m10 m11 => ?_⟩)
      obtain ⟨hb, f1, f2⟩ := q_edit_base h ed sv
      have g20 : N2 2 0 = M2 2 0 := sv.1 2 0 (by decide) (by decide)
      have g56 : N1 5 6 = M2 2 0 := by omega
      rw [g56]
      have out : ∀ (c' : Nat) (x : Int), c' ≠ 2 → c' ≠ 5 → (c' < 6 ∨ 11 < c') → jx_up (jx_up (jx_up (jx_up (jx_up (jx_up (jx_up (jx_cp N1 3 0 6 (M2 2 0 * 6) (N1 2 1)) 7 (M2 2 0) (N1 2 1)) 8 (M2 2 0) w) 9 (M2 2 0) c) 10 (M2 2 0) k) 11 (M2 2 0) 0) 5 6 (M2 2 0 + 1)) 2 1 0 c' x = N1 c' x := by
        intro c' x c1 c2 c3
        rw [jx_upc c1, jx_upc c2, jx_upc (by omega), jx_upc (by omega), jx_upc (by omega), jx_upc (by omega), jx_upc (by omega), jx_cpc (by omega)]
      refine ⟨⟨_, rfl, by congr 2; omega⟩, q_mod hb ⟨by rw [jx_ups, m2], by rw [m2]; omega, fun i i1 i2 => by rw [m2] at i2; omega⟩ ?_ ?_ (fun c' x c1 c2 => out c' x (by omega) (by omega) (by omega)) (fun x => m1 3 x (by decide) (by omega)) (m1 1 2 (by decide) (by omega)), Or.inl ⟨(by rw [out 1 5 (by decide) (by decide) (by decide)]; exact f1), (by rw [m1 1 5 (by decide) (by omega)]; exact f2)⟩⟩
      · obtain ⟨r1, r2, r3, r4, r5, r6, r7⟩ := hb.2.1
        obtain ⟨o1, o2, o3, o4, o5, o6⟩ := hb.2.2.1
        refine ⟨?_, fun e e1 e2 => ?_, fun j j1 j2 => ?_, ?_, ?_, fun i i1 i2 => ?_, fun g g1 g2 => ?_⟩
        · rw [m3, jx_upc (by decide), jx_ups]
        · rw [m3] at e2
          rcases Int.lt_or_le e (M2 2 0) with y | y
          · obtain ⟨y1, y2, y3, y4, y5, y6⟩ := r2 e e1 (by omega)
            have ol := (o2 e e1 (by omega)).1
            rw [m4 (1 + 11 * e) (by omega) (by omega), m4 (1 + 11 * e + 7) (by omega) (by omega), m4 (1 + 11 * e + 8) (by omega) (by omega), m4 (1 + 11 * e + 9) (by omega) (by omega), m4 (1 + 11 * e + 10) (by omega) (by omega)]
            refine ⟨?_, fun i i1 i2 => ?_, ?_, ?_, ?_, ?_⟩
            · rw [jx_upc (by decide), jx_upc (by decide), jx_upc (by decide), jx_upc (by decide), jx_upc (by decide), jx_upc (by decide), jx_upx (by omega), jx_cpc (by decide)]; exact y1
            · rw [m4 (1 + 11 * e + 1 + i) (by omega) (by omega), jx_upc (by decide), jx_upc (by decide), jx_upc (by decide), jx_upc (by decide), jx_upc (by decide), jx_upc (by decide), jx_upc (by decide), jx_cpo (by omega)]; exact y2 i i1 i2
            · rw [jx_upc (by decide), jx_upc (by decide), jx_upc (by decide), jx_upc (by decide), jx_upc (by decide), jx_upx (by omega), jx_upc (by decide), jx_cpc (by decide)]; exact y3
            · rw [jx_upc (by decide), jx_upc (by decide), jx_upc (by decide), jx_upc (by decide), jx_upx (by omega), jx_upc (by decide), jx_upc (by decide), jx_cpc (by decide)]; exact y4
            · rw [jx_upc (by decide), jx_upc (by decide), jx_upc (by decide), jx_upx (by omega), jx_upc (by decide), jx_upc (by decide), jx_upc (by decide), jx_cpc (by decide)]; exact y5
            · rw [jx_upc (by decide), jx_upc (by decide), jx_upx (by omega), jx_upc (by decide), jx_upc (by decide), jx_upc (by decide), jx_upc (by decide), jx_cpc (by decide)]; exact y6
          · obtain rfl : e = M2 2 0 := by omega
            rw [m5, m7, m8, m9, m10]
            refine ⟨?_, fun i i1 i2 => ?_, ?_, ?_, ?_, ?_⟩
            · rw [jx_upc (by decide), jx_upc (by decide), jx_upc (by decide), jx_upc (by decide), jx_upc (by decide), jx_upc (by decide), jx_ups, e21, a1]
            · rw [m6 i i1 i2, jx_upc (by decide), jx_upc (by decide), jx_upc (by decide), jx_upc (by decide), jx_upc (by decide), jx_upc (by decide), jx_upc (by decide), jx_cpi (by omega) (by omega), ed.1 3 _ (by omega) (by omega), ← h.1.2.2 i i1 i2]
              congr 1
              omega
            · rw [jx_upc (by decide), jx_upc (by decide), jx_upc (by decide), jx_upc (by decide), jx_upc (by decide), jx_ups]
            · rw [jx_upc (by decide), jx_upc (by decide), jx_upc (by decide), jx_upc (by decide), jx_ups]
            · rw [jx_upc (by decide), jx_upc (by decide), jx_upc (by decide), jx_ups]
            · rw [jx_upc (by decide), jx_upc (by decide), jx_ups]
        · rw [m11 _ (by omega), out 12 j (by decide) (by decide) (by decide)]; exact r3 j j1 j2
        · rw [m11 _ (by omega), out 4 4 (by decide) (by decide) (by decide)]; exact r4
        · rw [m11 _ (by omega), out 4 5 (by decide) (by decide) (by decide)]; exact r5
        · rw [m11 _ (by omega)] at i2
          rw [m11 _ (by omega), out 13 i (by decide) (by decide) (by decide)]; exact r6 i i1 i2
        · rw [m11 _ (by omega), out 14 g (by decide) (by decide) (by decide)]; exact r7 g g1 g2
      · obtain ⟨o1, o2, o3, o4, o5, o6⟩ := hb.2.2.1
        refine ⟨by rw [m3]; omega, fun e e1 e2 => ?_, fun j j1 j2 => by rw [m11 _ (by omega)]; exact o3 j j1 j2, by rw [m11 _ (by omega)]; exact o4, by rw [m11 _ (by omega)]; exact o5, fun g g1 g2 => by rw [m11 _ (by omega), m11 _ (by omega)]; exact o6 g g1 g2⟩
        rw [m3] at e2
        rcases Int.lt_or_le e (M2 2 0) with y | y
        · rw [m4 (1 + 11 * e) (by omega) (by omega), m4 (1 + 11 * e + 8) (by omega) (by omega), m4 (1 + 11 * e + 9) (by omega) (by omega), m4 (1 + 11 * e + 10) (by omega) (by omega)]
          exact o2 e e1 (by omega)
        · obtain rfl : e = M2 2 0 := by omega
          rw [m5, m8, m9, m10]
          omega
    · exact sp_F_addEntry d2 w c k M2 (by omega) (by omega) (by omega) (by omega) hl2 (fun z => absurd z nf) (fun _ z => by omega) (fun _ _ z => by omega) (fun _ _ _ y => ⟨by omega, q_same2 h (by omega)⟩) (fun _ _ _ y => by omega)
  · exact sp_F_addEntry d2 w c k M2 (by omega) (by omega) (by omega) (by omega) hl2 (fun z => absurd (hF.mpr z) q4) (fun _ z => q_same h _) (fun _ z => by omega) (fun _ z => by omega) (fun _ z => by omega)
  · exact sp_F_addEntry d2 w c k M2 (by omega) (by omega) (by omega) (by omega) hl2 (fun _ => q_same h _) (fun z => absurd (hF.mp q4) z) (fun z => absurd (hF.mp q4) z) (fun z => absurd (hF.mp q4) z) (fun z => absurd (hF.mp q4) z)
