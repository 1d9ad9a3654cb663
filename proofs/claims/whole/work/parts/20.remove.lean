/-- which entry stands at j behind the removal of e -/
def d_src (e j : Int) : Int := if j < e then j else j + 1
theorem sp_D_drop (d : Nat) (e : Int) (M : jxM) (h1 : 0 ≤ e ∧ e < M 5 6 ∧ M 5 6 ≤ 20) {K : jxK} (h : ∀ M', (∀ c x, c ≠ 5 → (c < 6 ∨ 11 < c) → M' c x = M c x) → M' 5 6 = M 5 6 - 1 → (∀ j, 0 ≤ j → j < M 5 6 - 1 → (∀ c, 7 ≤ c → c ≤ 11 → M' c j = M c (d_src e j)) ∧ ∀ i, 0 ≤ i → i < 6 → M' 6 (j * 6 + i) = M 6 (d_src e j * 6 + i)) → K none M') : jx_call jx_G1 jx_T (d + 3) 2 [.inr 5, .inl e] M K := by
  intro X hX
  refine bk_D_drop_0 (d := d) hX e M ?_
  refine jx_loop (σ := jxM) (M 5 6) (fun i N => e ≤ i ∧ i ≤ M 5 6 - 1 ∧ (∀ c x, (c < 6 ∨ 11 < c) → N c x = M c x) ∧ (∀ j, 0 ≤ j → j < i → (∀ c, 7 ≤ c → c ≤ 11 → N c j = M c (d_src e j)) ∧ ∀ k, 0 ≤ k → k < 6 → N 6 (j * 6 + k) = M 6 (d_src e j * 6 + k)) ∧ (∀ j, i ≤ j → (∀ c, 7 ≤ c → c ≤ 11 → N c j = M c j)) ∧ (∀ x, i * 6 ≤ x → N 6 x = M 6 x)) (fun i N => X 2 [.inr 5, .inl e, .inl i] [] N) ?_ e M ⟨by omega, by omega, fun _ _ _ => rfl, fun j j1 j2 => ?_, fun _ _ _ _ _ => rfl, fun _ _ => rfl⟩
  · intro i N ⟨i1, i2, i3, i4, i5, i6⟩ ih
    have n56 : N 5 6 = M 5 6 := i3 5 6 (by omega)
    refine bk_D_drop_2 (d := d) hX e i N ⟨by omega, fun q => ⟨by omega, ?_⟩, fun q => ⟨by omega, ?_⟩⟩
    · rw [n56]
      refine h _ (fun c x c1 c2 => ?_) jx_ups (fun j j1 j2 => ⟨fun c c1 c2 => ?_, fun k k1 k2 => ?_⟩)
      · rw [jx_upc c1]; exact i3 c x c2
      · rw [jx_upc (by omega)]; exact (i4 j j1 (by omega)).1 c c1 c2
      · rw [jx_upc (by omega)]; exact (i4 j j1 (by omega)).2 k k1 k2
    · refine sp_D_moveDown d (i + 1) N (by omega) ?_
      rw [show i + 1 - 1 = i by omega]
      refine ⟨rfl, by omega, ih _ (by omega) ⟨by omega, by omega, fun c x hc => ?_, fun j j1 j2 => ⟨fun c c1 c2 => ?_, fun k k1 k2 => ?_⟩, fun j j1 c c1 c2 => ?_, fun x hx => ?_⟩⟩
      · rw [jx_upc (by omega), jx_upc (by omega), jx_upc (by omega), jx_upc (by omega), jx_upc (by omega), jx_cpc (by omega)]; exact i3 c x hc
      · rcases Int.lt_or_le j i with y | y
        · rw [← (i4 j j1 y).1 c c1 c2]
          have gen : ∀ (L : jxM) (c' : Nat) (v : Int), jx_up L c' i v c j = L c j := fun L c' v => by
            by_cases z : c = c'
            · subst z; exact jx_upx (by omega)
            · exact jx_upc z
          rw [gen, gen, gen, gen, gen, jx_cpc (by omega)]
        · obtain rfl : j = i := by omega
          have ds : d_src e j = j + 1 := by unfold d_src; rw [if_neg (by omega)]
          rw [ds, ← i5 (j + 1) (by omega) c c1 c2]
          rcases (show c = 7 ∨ c = 8 ∨ c = 9 ∨ c = 10 ∨ c = 11 by omega) with rfl | rfl | rfl | rfl | rfl
          · rw [jx_upc (by decide), jx_upc (by decide), jx_upc (by decide), jx_upc (by decide), jx_ups]
          · rw [jx_upc (by decide), jx_upc (by decide), jx_upc (by decide), jx_ups]
          · rw [jx_upc (by decide), jx_upc (by decide), jx_ups]
          · rw [jx_upc (by decide), jx_ups]
          · rw [jx_ups]
      · rw [jx_upc (by decide), jx_upc (by decide), jx_upc (by decide), jx_upc (by decide), jx_upc (by decide)]
        rcases Int.lt_or_le j i with y | y
        · rw [jx_cpo (by omega)]; exact (i4 j j1 y).2 k k1 k2
        · obtain rfl : j = i := by omega
          have ds : d_src e j = j + 1 := by unfold d_src; rw [if_neg (by omega)]
          rw [jx_cpi (by omega) (by omega), ds, i6 _ (by omega)]
          congr 1
          omega
      · have gen : ∀ (L : jxM) (c' : Nat) (v : Int), jx_up L c' i v c j = L c j := fun L c' v => by
          by_cases z : c = c'
          · subst z; exact jx_upx (by omega)
          · exact jx_upc z
        rw [gen, gen, gen, gen, gen, jx_cpc (by omega)]
        exact i5 j (by omega) c c1 c2
      · rw [jx_upc (by decide), jx_upc (by decide), jx_upc (by decide), jx_upc (by decide), jx_upc (by decide), jx_cpo (by omega)]
        exact i6 x (by omega)
  · have ds : d_src e j = j := by unfold d_src; rw [if_pos j2]
    rw [ds]
    exact ⟨fun _ _ _ => rfl, fun _ _ _ => rfl⟩
theorem sp_F_removeEntry (d : Nat) (e : Int) (M : jxM) (h1 : (0 ≤ M 1 2 ∧ M 1 2 ≤ 6) ∧ (0 ≤ M 2 0 ∧ M 2 0 ≤ 20)) {K : jxK} (h0 : ¬ (0 ≤ e ∧ e < M 2 0) → K (some (.inl (-1))) M)
    (h : 0 ≤ e ∧ e < M 2 0 → ∀ Ms M', q_save M Ms → (∀ c x, c ≠ 2 → M' c x = Ms c x) → M' 2 0 = M 2 0 - 1 → (∀ k, 1 ≤ k → k < 1 + 11 * e → M' 2 k = Ms 2 k) → (∀ k, 1 + 11 * e ≤ k → k < 1 + 11 * (M 2 0 - 1) → M' 2 k = Ms 2 (k + 11)) → (∀ k, 221 ≤ k → M' 2 k = Ms 2 k) → K (some (.inl (M 2 0 - 1))) M') : jx_call jx_G2 jx_T (d + 3) 90 [.inr 1, .inl e] M K := by
  intro X hX
  refine bk_F_removeEntry_0 (d := d) hX e M ⟨h1.2, fun q => ?_, h0⟩
  refine sp_F_save (d + 1) M h1.1 (fun Ms sv => ?_)
  have e20 : Ms 2 0 = M 2 0 := sv.1 2 0 (by decide) (by decide)
  refine ⟨rfl, by omega, ?_⟩
  refine jx_loop (σ := jxM) (1 + 11 * (M 2 0 - 1)) (fun k N => 1 + 11 * e ≤ k ∧ k ≤ 1 + 11 * (M 2 0 - 1) ∧ (∀ c x, c ≠ 2 → N c x = Ms c x) ∧ N 2 0 = M 2 0 - 1 ∧ (∀ j, 1 ≤ j → j < 1 + 11 * e → N 2 j = Ms 2 j) ∧ (∀ j, 1 + 11 * e ≤ j → j < k → N 2 j = Ms 2 (j + 11)) ∧ (∀ j, k ≤ j → N 2 j = Ms 2 j)) (fun k N => X 19 [.inr 1, .inl e, .inl k] [] N) ?_ (1 + 11 * e) _ ⟨by omega, by omega, fun c x hc => jx_upc hc, by rw [jx_ups, e20], fun j j1 _ => jx_upx (by omega), fun j _ _ => by omega, fun j _ => jx_upx (by omega)⟩
  intro k N ⟨i1, i2, i3, i4, i5, i6, i7⟩ ih
  refine bk_F_removeEntry_19 (d := d) hX e k N ⟨by omega, fun z => ?_, fun z => ⟨by omega, ih _ (by omega) ⟨by omega, by omega, fun c x hc => ?_, ?_, fun j j1 j2 => ?_, fun j j1 j2 => ?_, fun j j1 => ?_⟩⟩⟩
  · rw [i4]
    exact h q Ms N sv i3 i4 i5 (fun j j1 j2 => i6 j j1 (by omega)) (fun j j1 => i7 j (by omega))
  · rw [jx_upc hc]; exact i3 c x hc
  · rw [jx_upx (by omega)]; exact i4
  · rw [jx_upx (by omega)]; exact i5 j j1 j2
  · rcases Int.lt_or_le j k with y | y
    · rw [jx_upx (by omega)]; exact i6 j j1 y
    · obtain rfl : j = k := by omega
      rw [jx_ups]; exact i7 _ (by omega)
  · rw [jx_upx (by omega)]; exact i7 j (by omega)
set_option maxHeartbeats 4000000 in
theorem pr_removeEntry (d1 d2 : Nat) {M1 M2 : jxM} (h : q_base M1 M2) (e : Int) : jx_call jx_G1 jx_T (d1 + 6) 49 [.inr 1, .inl e] M1 (fun v M1' => jx_call jx_G2 jx_T (d2 + 3) 90 [.inr 1, .inl e] M2 (q_pair M1 M2 v M1')) := by
  obtain ⟨a1, a2, a3, a4, a5, a6, a7, a8, a9, a10⟩ := q_bs h
  intro X hX
  refine bk_C_removeEntry_0 (d := d1) hX e M1 ⟨by omega, fun q => ?_, fun q => ?_⟩
  · refine sp_C_beginEdit d1 M1 (by omega) (fun N1 ed => ⟨rfl, ?_⟩)
    have e56 : N1 5 6 = M1 5 6 := ed.1 5 6 (by omega) (by omega)
    refine sp_D_drop (d1 + 2) e N1 (by omega) (fun M1' p1 p2 p3 => ⟨rfl, ?_⟩)
    refine sp_F_removeEntry d2 e M2 (by omega) (fun z => by omega) (fun _ N2 M2' sv m1 m2 m3 m4 m5 => ?_)
    obtain ⟨hb, f1, f2⟩ := q_edit_base h ed sv
    have g20 : N2 2 0 = M2 2 0 := sv.1 2 0 (by decide) (by decide)
    have sc : ∀ j, 0 ≤ j → j < M2 2 0 - 1 → (0 ≤ d_src e j ∧ d_src e j < M2 2 0) ∧ ∀ o, 0 ≤ o → o < 11 → M2' 2 (1 + 11 * j + o) = N2 2 (1 + 11 * d_src e j + o) := by
      intro j j1 j2
      unfold d_src
      by_cases y : j < e
      · rw [if_pos y]
        exact ⟨by omega, fun o o1 o2 => m3 _ (by omega) (by omega)⟩
      · rw [if_neg y]
        refine ⟨by omega, fun o o1 o2 => ?_⟩
        rw [m4 _ (by omega) (by omega)]
        congr 1
        omega
    refine ⟨⟨_, rfl, by rw [p2, e56, a3]⟩, q_mod hb (q_txt_fr hb.1 (fun c x hc => p1 c x (by omega) (by omega)) (m1 1 4 (by decide)) (fun x => m1 4 x (by decide))) ?_ ?_ (fun c x c1 c2 => p1 c x (by omega) (by omega)) (fun x => m1 3 x (by decide)) (m1 1 2 (by decide)), Or.inl ⟨(by rw [p1 1 5 (by decide) (by decide)]; exact f1), (by rw [m1 1 5 (by decide)]; exact f2)⟩⟩
    · obtain ⟨r1, r2, r3, r4, r5, r6, r7⟩ := hb.2.1
      obtain ⟨o1, o2, o3, o4, o5, o6⟩ := hb.2.2.1
      refine ⟨?_, fun j j1 j2 => ?_, fun j j1 j2 => ?_, ?_, ?_, fun i i1 i2 => ?_, fun g g1 g2 => ?_⟩
      · rw [m2, p2]; omega
      · rw [m2] at j2
        obtain ⟨s1, s2⟩ := sc j j1 j2
        obtain ⟨y1, y2, y3, y4, y5, y6⟩ := r2 (d_src e j) s1.1 (by omega)
        obtain ⟨t1, t2⟩ := p3 j j1 (by omega)
        have ol := (o2 (d_src e j) s1.1 (by omega)).1
        have z0 := s2 0 (by omega) (by omega)
        simp only [Int.add_zero] at z0
        rw [z0, s2 7 (by omega) (by omega), s2 8 (by omega) (by omega), s2 9 (by omega) (by omega), s2 10 (by omega) (by omega)]
        refine ⟨(t1 7 (by decide) (by decide)).trans y1, fun i i1 i2 => ?_, (t1 8 (by decide) (by decide)).trans y3, (t1 9 (by decide) (by decide)).trans y4, (t1 10 (by decide) (by decide)).trans y5, (t1 11 (by decide) (by decide)).trans y6⟩
        rw [Int.add_assoc, s2 (1 + i) (by omega) (by omega), ← Int.add_assoc]
        exact (t2 i i1 (by omega)).trans (y2 i i1 i2)
      · rw [m5 _ (by omega), p1 _ _ (by decide) (by decide)]; exact r3 j j1 j2
      · rw [m5 _ (by omega), p1 _ _ (by decide) (by decide)]; exact r4
      · rw [m5 _ (by omega), p1 _ _ (by decide) (by decide)]; exact r5
      · rw [m5 _ (by omega)] at i2
        rw [m5 _ (by omega), p1 _ _ (by decide) (by decide)]; exact r6 i i1 i2
      · rw [m5 _ (by omega), p1 _ _ (by decide) (by decide)]; exact r7 g g1 g2
    · obtain ⟨o1, o2, o3, o4, o5, o6⟩ := hb.2.2.1
      refine ⟨by rw [m2]; omega, fun j j1 j2 => ?_, fun j j1 j2 => by rw [m5 _ (by omega)]; exact o3 j j1 j2, by rw [m5 _ (by omega)]; exact o4, by rw [m5 _ (by omega)]; exact o5, fun g g1 g2 => by rw [m5 _ (by omega), m5 _ (by omega)]; exact o6 g g1 g2⟩
      rw [m2] at j2
      obtain ⟨s1, s2⟩ := sc j j1 j2
      have z0 := s2 0 (by omega) (by omega)
      simp only [Int.add_zero] at z0
      rw [z0, s2 8 (by omega) (by omega), s2 9 (by omega) (by omega), s2 10 (by omega) (by omega)]
      exact o2 (d_src e j) s1.1 (by omega)
  · exact sp_F_removeEntry d2 e M2 (by omega) (fun z => q_same h _) (fun z => by omega)
theorem sp_F_forget (d : Nat) (M : jxM) (h1 : (0 ≤ M 1 2 ∧ M 1 2 ≤ 6) ∧ (0 ≤ M 2 0 ∧ M 2 0 ≤ 20)) (hu : ∀ e, 0 ≤ e → e < M 2 0 → 0 ≤ M 2 (1 + 11 * e + 10) ∧ M 2 (1 + 11 * e + 10) ≤ 9) {K : jxK} (h0 : j_sum (fun e => M 2 (1 + 11 * e + 10)) (M 2 0).toNat = 0 → K (some (.inl (-2))) M)
    (h : j_sum (fun e => M 2 (1 + 11 * e + 10)) (M 2 0).toNat ≠ 0 → ∀ Ms M', q_save M Ms → (∀ c x, c ≠ 2 → M' c x = Ms c x) → (∀ e, 0 ≤ e → e < M 2 0 → M' 2 (1 + 11 * e + 10) = 0) → (∀ k, (∀ e, 0 ≤ e → e < M 2 0 → k ≠ 1 + 11 * e + 10) → M' 2 k = Ms 2 k) → K (some (.inl (j_sum (fun e => M 2 (1 + 11 * e + 10)) (M 2 0).toNat))) M') : jx_call jx_G2 jx_T (d + 2) 126 [.inr 1] M K := by
  intro X hX
  refine bk_F_forget_0 (d := d) hX M ?_
  refine jx_loop (σ := Int) (M 2 0) (fun i s => 0 ≤ i ∧ i ≤ M 2 0 ∧ s = j_sum (fun e => M 2 (1 + 11 * e + 10)) i.toNat) (fun i s => X 4 [.inr 1, .inl s, .inl i] [] M) ?_ 0 0 ⟨by omega, by omega, rfl⟩
  intro i s ⟨i1, i2, i3⟩ ih
  have hb := j_sum_le (f := fun e => M 2 (1 + 11 * e + 10)) (B := 9) i.toNat (fun j j1 j2 => hu j j1 (by omega))
  refine bk_F_forget_4 (d := d) hX s i M ⟨fun q => ⟨fun q2 => ?_, fun q2 => ?_⟩, fun q => ⟨?_, ih _ q ⟨by omega, by omega, ?_⟩⟩⟩
  · obtain rfl : i = M 2 0 := by omega
    rw [i3] at q2
    refine sp_F_save d M h1.1 (fun Ms sv => ⟨rfl, ?_⟩)
    have e20 : Ms 2 0 = M 2 0 := sv.1 2 0 (by decide) (by decide)
    refine jx_loop (σ := jxM) (M 2 0) (fun i N => 0 ≤ i ∧ i ≤ M 2 0 ∧ (∀ c x, c ≠ 2 → N c x = Ms c x) ∧ (∀ e, 0 ≤ e → e < i → N 2 (1 + 11 * e + 10) = 0) ∧ (∀ k, (∀ e, 0 ≤ e → e < i → k ≠ 1 + 11 * e + 10) → N 2 k = Ms 2 k)) (fun i N => X 30 [.inr 1, .inl s, .inl i] [] N) ?_ 0 Ms ⟨by omega, by omega, fun _ _ _ => rfl, fun e _ _ => by omega, fun _ _ => rfl⟩
    intro j N ⟨j1, j2, j3, j4, j5⟩ jh
    have n20 : N 2 0 = M 2 0 := (j5 0 (fun e e1 e2 => by omega)).trans e20
    refine bk_F_forget_30 (d := d) hX s j N ⟨fun z => ?_, fun z => ⟨by omega, jh _ (by omega) ⟨by omega, by omega, fun c x hc => ?_, fun e e1 e2 => ?_, fun k hk => ?_⟩⟩⟩
    · rw [i3]
      exact h q2 Ms N sv j3 (fun e e1 e2 => j4 e e1 (by omega)) (fun k hk => j5 k (fun e e1 e2 => hk e e1 (by omega)))
    · rw [jx_upc hc]; exact j3 c x hc
    · rcases Int.lt_or_le e j with y | y
      · rw [jx_upx (by omega)]; exact j4 e e1 y
      · obtain rfl : e = j := by omega
        rw [jx_ups]
    · rw [jx_upx (hk j j1 (by omega))]
      exact j5 k (fun e e1 e2 => hk e e1 (by omega))
  · obtain rfl : i = M 2 0 := by omega
    rw [i3] at q2
    exact h0 q2
  · have := hu i i1 q
    omega
  · rw [j_step _ i1, i3]
theorem pr_forget (d1 d2 : Nat) {M1 M2 : jxM} (h : q_base M1 M2) : jx_call jx_G1 jx_T (d1 + 6) 70 [.inr 1] M1 (fun v M1' => jx_call jx_G2 jx_T (d2 + 2) 126 [.inr 1] M2 (q_pair M1 M2 v M1')) := by
  obtain ⟨a1, a2, a3, a4, a5, a6, a7, a8, a9, a10⟩ := q_bs h
  have hu : ∀ e, 0 ≤ e → e < M2 2 0 → 0 ≤ M2 2 (1 + 11 * e + 10) ∧ M2 2 (1 + 11 * e + 10) ≤ 9 := fun e e1 e2 => (q_en h e1 e2).2.2.2.2.2.2.2.2
  have hs : j_sum (M1 11) (M1 5 6).toNat = j_sum (fun e => M2 2 (1 + 11 * e + 10)) (M2 2 0).toNat := by
    rw [a3]
    exact j_sum_eq _ (fun e e1 e2 => (q_en h e1 (by omega)).2.2.2.2.2.2.2.1)
  intro X hX
  refine bk_C_forget_0 (d := d1) hX M1 ⟨⟨by omega, fun e e1 e2 => ?_⟩, fun q => ?_, fun q => ?_⟩
  · rw [(q_en h e1 (by omega)).2.2.2.2.2.2.2.1]; exact hu e e1 (by omega)
  · refine sp_C_beginEdit d1 M1 (by omega) (fun N1 ed => ⟨rfl, ?_⟩)
    refine sp_J_fill (d1 + 4) 10 20 0 N1 rfl (by omega) ⟨rfl, ?_⟩
    rw [hs] at q ⊢
    refine sp_F_forget d2 M2 (by omega) hu (fun z => absurd z q) (fun _ N2 M2' sv m1 m2 m3 => ?_)
    obtain ⟨hb, f1, f2⟩ := q_edit_base h ed sv
    have g20 : N2 2 0 = M2 2 0 := sv.1 2 0 (by decide) (by decide)
    have fi : ∀ (c : Nat) (x : Int), c ≠ 11 → jx_fi N1 11 20 0 c x = N1 c x := fun c x hc => by unfold jx_fi; rw [if_neg (fun y => hc y.1)]
    have m0 : M2' 2 0 = N2 2 0 := m3 0 (fun e e1 e2 => by omega)
    refine ⟨⟨_, rfl, rfl⟩, q_mod hb (q_txt_fr hb.1 (fun c x hc => fi c x (by omega)) (m1 1 4 (by decide)) (fun x => m1 4 x (by decide))) ?_ ?_ (fun c x c1 c2 => fi c x (by omega)) (fun x => m1 3 x (by decide)) (m1 1 2 (by decide)), Or.inl ⟨((fi 1 5 (by decide)).trans f1), (by rw [m1 1 5 (by decide)]; exact f2)⟩⟩
    · obtain ⟨r1, r2, r3, r4, r5, r6, r7⟩ := hb.2.1
      obtain ⟨o1, o2, o3, o4, o5, o6⟩ := hb.2.2.1
      refine ⟨?_, fun e e1 e2 => ?_, fun j j1 j2 => ?_, ?_, ?_, fun i i1 i2 => ?_, fun g g1 g2 => ?_⟩
      · rw [m0]; exact (fi _ _ (by decide)).trans r1
      · rw [m0] at e2
        obtain ⟨y1, y2, y3, y4, y5, y6⟩ := r2 e e1 e2
        have ol := (o2 e e1 e2).1
        rw [m3 (1 + 11 * e) (fun j j1 j2 => by omega), m3 (1 + 11 * e + 7) (fun j j1 j2 => by omega), m3 (1 + 11 * e + 8) (fun j j1 j2 => by omega), m3 (1 + 11 * e + 9) (fun j j1 j2 => by omega), m2 e e1 (by omega)]
        refine ⟨(fi _ _ (by decide)).trans y1, fun i i1 i2 => ?_, (fi _ _ (by decide)).trans y3, (fi _ _ (by decide)).trans y4, (fi _ _ (by decide)).trans y5, ?_⟩
        · rw [m3 (1 + 11 * e + 1 + i) (fun j j1 j2 => by omega)]
          exact (fi _ _ (by decide)).trans (y2 i i1 i2)
        · show jx_fi N1 11 20 0 11 e = 0
          unfold jx_fi
          rw [if_pos ⟨rfl, e1, by omega⟩]
      · rw [m3 (221 + j) (fun i i1 i2 => by omega)]; exact (fi _ _ (by decide)).trans (r3 j j1 j2)
      · rw [m3 270 (fun i i1 i2 => by omega)]; exact (fi _ _ (by decide)).trans r4
      · rw [m3 271 (fun i i1 i2 => by omega)]; exact (fi _ _ (by decide)).trans r5
      · rw [m3 271 (fun i i1 i2 => by omega)] at i2
        rw [m3 (272 + i) (fun i i1 i2 => by omega)]; exact (fi _ _ (by decide)).trans (r6 i i1 i2)
      · rw [m3 (288 + g) (fun i i1 i2 => by omega)]; exact (fi _ _ (by decide)).trans (r7 g g1 g2)
    · obtain ⟨o1, o2, o3, o4, o5, o6⟩ := hb.2.2.1
      refine ⟨by rw [m0]; exact o1, fun e e1 e2 => ?_, fun j j1 j2 => ?_, ?_, ?_, fun g g1 g2 => ?_⟩
      · rw [m0] at e2
        have := o2 e e1 e2
        rw [m3 (1 + 11 * e) (fun j j1 j2 => by omega), m3 (1 + 11 * e + 8) (fun j j1 j2 => by omega), m3 (1 + 11 * e + 9) (fun j j1 j2 => by omega), m2 e e1 (by omega)]
        omega
      · rw [m3 (221 + j) (fun i i1 i2 => by omega)]; exact o3 j j1 j2
      · rw [m3 270 (fun i i1 i2 => by omega)]; exact o4
      · rw [m3 271 (fun i i1 i2 => by omega)]; exact o5
      · rw [m3 (288 + g) (fun i i1 i2 => by omega), m3 271 (fun i i1 i2 => by omega)]; exact o6 g g1 g2
  · rw [hs] at q
    exact sp_F_forget d2 M2 (by omega) hu (fun _ => q_same h _) (fun z => absurd q z)
