/-- what 'save' does to the reference's memory -/
def q_save (M M' : jxM) : Prop :=
  (∀ c x, c ≠ 1 → c ≠ 3 → M' c x = M c x) ∧ (∀ x, x ≠ 2 → x ≠ 5 → M' 1 x = M 1 x) ∧ M' 1 5 = 0 ∧ M' 1 2 = min (M 1 2 + 1) 6 ∧ (M 1 2 = 6 → ∀ k, 0 ≤ k → k < 1525 → M' 3 k = M 3 (k + 305)) ∧ (M 1 2 < 6 → ∀ k, 0 ≤ k → k < 305 * M 1 2 → M' 3 k = M 3 k) ∧ (∀ k, 0 ≤ k → k < 305 → M' 3 (305 * min (M 1 2) 5 + k) = M 2 k)
theorem sp_F_save (d : Nat) (M : jxM) (h1 : 0 ≤ M 1 2 ∧ M 1 2 ≤ 6) {K : jxK} (h : ∀ M', q_save M M' → K none M') : jx_call jx_G2 jx_T (d + 1) 81 [.inr 1] M K := by
  intro X hX
  have lp2 : ∀ (N : jxM), 0 ≤ N 1 2 → N 1 2 ≤ 5 → (∀ M', (∀ c x, c ≠ 3 → M' c x = N c x) → (∀ k, k < 305 * N 1 2 → M' 3 k = N 3 k) → (∀ k, 0 ≤ k → k < 305 → M' 3 (305 * N 1 2 + k) = N 2 k) → K none (jx_up (jx_up M' 1 2 (N 1 2 + 1)) 1 5 0)) → X 29 [.inr 1, .inl 0] [] N := by
    intro N n0 n5 hk
    refine jx_loop (σ := jxM) 305 (fun i M' => 0 ≤ i ∧ i ≤ 305 ∧ (∀ c x, c ≠ 3 → M' c x = N c x) ∧ (∀ k, k < 305 * N 1 2 → M' 3 k = N 3 k) ∧ (∀ k, 0 ≤ k → k < i → M' 3 (305 * N 1 2 + k) = N 2 k)) (fun i M' => X 29 [.inr 1, .inl i] [] M') ?_ 0 N ⟨by omega, by omega, fun _ _ _ => rfl, fun _ _ => rfl, fun k _ _ => by omega⟩
    intro i M' ⟨i1, i2, i3, i4, i5⟩ ih
    have e12 := i3 1 2 (by decide)
    refine bk_F_save_29 (d := d) hX i M' ⟨fun q => ⟨by omega, ?_⟩, fun q => ⟨by omega, ih _ q ⟨by omega, by omega, fun c x hc => ?_, fun k hk2 => ?_, fun k k1 k2 => ?_⟩⟩⟩
    · rw [e12]
      exact hk M' i3 i4 (fun k k1 k2 => i5 k k1 (by omega))
    · rw [jx_upc hc]; exact i3 c x hc
    · rw [jx_upx (by omega)]; exact i4 k hk2
    · rw [e12, i3 2 i (by decide)]
      rcases Int.lt_or_le k i with z | z
      · rw [jx_upx (by omega)]; exact i5 k k1 z
      · obtain rfl : k = i := by omega
        rw [jx_ups]
  refine bk_F_save_0 (d := d) hX M ⟨fun q => ?_, fun q => ?_⟩
  · refine lp2 M h1.1 (by omega) (fun M' m1 m2 m3 => h _ ⟨fun c x c1 c2 => ?_, fun x x1 x2 => ?_, jx_ups, ?_, fun z => by omega, fun _ k k1 k2 => ?_, fun k k1 k2 => ?_⟩)
    · rw [jx_upc c1, jx_upc c1]; exact m1 c x c2
    · rw [jx_upx x2, jx_upx x1]; exact m1 1 x (by decide)
    · rw [jx_upx (by decide), jx_ups]; omega
    · rw [jx_upc (by decide), jx_upc (by decide)]; exact m2 k k2
    · rw [jx_upc (by decide), jx_upc (by decide), show min (M 1 2) 5 = M 1 2 by omega]; exact m3 k k1 k2
  · refine jx_loop (σ := jxM) 1525 (fun i M' => 0 ≤ i ∧ i ≤ 1525 ∧ (∀ c x, c ≠ 3 → M' c x = M c x) ∧ (∀ k, 0 ≤ k → k < i → M' 3 k = M 3 (k + 305)) ∧ (∀ k, i ≤ k → M' 3 k = M 3 k)) (fun i M' => X 6 [.inr 1, .inl i] [] M') ?_ 0 M ⟨by omega, by omega, fun _ _ _ => rfl, fun k _ _ => by omega, fun _ _ => rfl⟩
    intro i M' ⟨i1, i2, i3, i4, i5⟩ ih
    have e12 := i3 1 2 (by decide)
    refine bk_F_save_6 (d := d) hX i M' ⟨fun q2 => ⟨by omega, ?_⟩, fun q2 => ⟨by omega, ih _ q2 ⟨by omega, by omega, fun c x hc => ?_, fun k k1 k2 => ?_, fun k k1 => ?_⟩⟩⟩
    · have n12 : jx_up M' 1 2 (M' 1 2 - 1) 1 2 = 5 := by rw [jx_ups]; omega
      refine lp2 _ (by omega) (by omega) (fun M3 m1 m2 m3 => h _ ⟨fun c x c1 c2 => ?_, fun x x1 x2 => ?_, jx_ups, ?_, fun _ k k1 k2 => ?_, fun z => by omega, fun k k1 k2 => ?_⟩)
      · rw [jx_upc c1, jx_upc c1, m1 c x c2, jx_upc c1]; exact i3 c x c2
      · rw [jx_upx x2, jx_upx x1, m1 1 x (by decide), jx_upx x1]; exact i3 1 x (by decide)
      · rw [jx_upx (by decide), jx_ups, n12]; omega
      · rw [jx_upc (by decide), jx_upc (by decide), m2 k (by omega), jx_upc (by decide)]; exact i4 k k1 (by omega)
      · rw [jx_upc (by decide), jx_upc (by decide), show min (M 1 2) 5 = 5 by omega]
        have := m3 k k1 k2
        rw [n12] at this
        rw [this, jx_upc (by decide)]
        exact i3 2 k (by decide)
    · rw [jx_upc hc]; exact i3 c x hc
    · rcases Int.lt_or_le k i with z | z
      · rw [jx_upx (by omega)]; exact i4 k k1 z
      · obtain rfl : k = i := by omega
        rw [jx_ups]; exact i5 _ (by omega)
    · rw [jx_upx (by omega)]; exact i5 k (by omega)
def q_und (M M' : jxM) : Prop :=
  (∀ c x, c ≠ 1 → c ≠ 2 → M' c x = M c x) ∧ (∀ x, x ≠ 2 → x ≠ 5 → M' 1 x = M 1 x) ∧ M' 1 5 = 0 ∧ M' 1 2 = M 1 2 - 1 ∧ (∀ k, 0 ≤ k → k < 305 → M' 2 k = M 3 (305 * (M 1 2 - 1) + k))
theorem sp_F_undo (d : Nat) (M : jxM) (h1 : 0 ≤ M 1 2 ∧ M 1 2 ≤ 6) {K : jxK} (h0 : M 1 2 = 0 → K (some (.inl (-2))) M) (h : M 1 2 ≠ 0 → ∀ M', q_und M M' → K (some (.inl (M 1 2 - 1))) M') : jx_call jx_G2 jx_T (d + 1) 82 [.inr 1] M K := by
  intro X hX
  refine bk_F_undo_0 (d := d) hX M ⟨fun q => ⟨by omega, ?_⟩, h0⟩
  have n12 : jx_up M 1 2 (M 1 2 - 1) 1 2 = M 1 2 - 1 := jx_ups
  refine jx_loop (σ := jxM) 305 (fun i M' => 0 ≤ i ∧ i ≤ 305 ∧ (∀ c x, c ≠ 2 → M' c x = jx_up M 1 2 (M 1 2 - 1) c x) ∧ (∀ k, 0 ≤ k → k < i → M' 2 k = M 3 (305 * (M 1 2 - 1) + k))) (fun i M' => X 13 [.inr 1, .inl i] [] M') ?_ 0 _ ⟨by omega, by omega, fun _ _ _ => rfl, fun k _ _ => by omega⟩
  intro i M' ⟨i1, i2, i3, i4⟩ ih
  have e12 : M' 1 2 = M 1 2 - 1 := (i3 1 2 (by decide)).trans n12
  refine bk_F_undo_13 (d := d) hX i M' ⟨fun q2 => ?_, fun q2 => ⟨by omega, ih _ q2 ⟨by omega, by omega, fun c x hc => ?_, fun k k1 k2 => ?_⟩⟩⟩
  · rw [e12]
    refine h q _ ⟨fun c x c1 c2 => ?_, fun x x1 x2 => ?_, jx_ups, ?_, fun k k1 k2 => ?_⟩
    · rw [jx_upc c1, i3 c x c2, jx_upc c1]
    · rw [jx_upx x2, i3 1 x (by decide), jx_upx x1]
    · rw [jx_upx (by decide)]; exact e12
    · rw [jx_upc (by decide)]; exact i4 k k1 (by omega)
  · rw [jx_upc hc]; exact i3 c x hc
  · rcases Int.lt_or_le k i with z | z
    · rw [jx_upx (by omega)]; exact i4 k k1 z
    · obtain rfl : k = i := by omega
      rw [jx_ups, e12, i3 3 _ (by decide), jx_upc (by decide)]
/-- the class's undo -/
def q_und1 (M M' : jxM) (l : Int) : Prop :=
  (∀ c x, (c ≤ 3 ∨ 16 ≤ c) → ¬ (c = 1 ∧ x = 5) → M' c x = M c x) ∧ M' 1 5 = 1 ∧ M' 15 1 = l ∧ M' 15 2 = M 15 2 - 1 ∧ q_blk M' 4 M (17 + 11 * l.toNat)
set_option maxHeartbeats 4000000 in
theorem sp_C_undo (d : Nat) (M : jxM) (h1 : (0 ≤ M 15 1 ∧ M 15 1 < 6) ∧ (0 ≤ M 15 2 ∧ M 15 2 ≤ 6)) {K : jxK} (h0 : M 15 2 = 0 → K (some (.inl (-2))) M) (h : M 15 2 ≠ 0 → ∀ M', q_und1 M M' (if M 15 1 = 0 then 5 else M 15 1 - 1) → K (some (.inl (M 15 2 - 1))) M') : jx_call jx_G1 jx_T (d + 5) 71 [.inr 1] M K := by
  intro X hX
  refine bk_C_undo_0 (d := d) hX M ⟨fun q0 => ?_, h0⟩
  intro X2 hX2
  have key : ∀ (j : Nat) (M2 : jxM) (l : Int), l = j → j < 6 → l = (if M 15 1 = 0 then 5 else M 15 1 - 1) → (∀ c x, (c < 4 ∨ 14 < c) → M2 c x = M c x) → q_blk M2 4 M (17 + 11 * j) → K (some (.inl ((jx_up (jx_up M2 15 1 l) 15 2 (M2 15 2 - 1)) 15 2))) (jx_up (jx_up (jx_up M2 15 1 l) 15 2 (M2 15 2 - 1)) 1 5 1) := by
    intro j M2 l hl hj hl2 hf hb
    have e2 : M2 15 2 = M 15 2 := hf 15 2 (by omega)
    rw [jx_ups, e2]
    refine h q0 _ ⟨fun c x hc hn => ?_, jx_ups, ?_, ?_, ?_⟩
    · have e1 : jx_up (jx_up (jx_up M2 15 1 l) 15 2 (M 15 2 - 1)) 1 5 1 c x = jx_up (jx_up M2 15 1 l) 15 2 (M 15 2 - 1) c x := by
        by_cases z : c = 1
        · subst z; exact jx_upx (fun y => hn ⟨rfl, y⟩)
        · exact jx_upc z
      rw [e1, jx_upc (by omega), jx_upc (by omega)]
      exact hf c x (by omega)
    · rw [jx_upc (by decide), jx_upx (by decide), jx_ups, hl2]
    · rw [jx_upc (by decide), jx_ups]
    · rw [← hl2, show l.toNat = j by omega]
      have z : ∀ c x, 4 ≤ c → c ≤ 14 → jx_up (jx_up (jx_up M2 15 1 l) 15 2 (M 15 2 - 1)) 1 5 1 c x = M2 c x := fun c x hc hd => by rw [jx_upc (by omega), jx_upc (by omega), jx_upc (by omega)]
      obtain ⟨b1, b2, b3, b4, b5, b6, b7, b8, b9, b10, b11, b12⟩ := hb
      exact ⟨fun x x1 x2 => (z _ x (by omega) (by omega)).trans (b1 x x1 x2), fun x x1 x2 => (z _ x (by omega) (by omega)).trans (b2 x x1 x2), fun x x1 x2 => (z _ x (by omega) (by omega)).trans (b3 x x1 x2), fun x x1 x2 => (z _ x (by omega) (by omega)).trans (b4 x x1 x2), fun x x1 x2 => (z _ x (by omega) (by omega)).trans (b5 x x1 x2), fun x x1 x2 => (z _ x (by omega) (by omega)).trans (b6 x x1 x2), fun x x1 x2 => (z _ x (by omega) (by omega)).trans (b7 x x1 x2), fun x x1 x2 => (z _ x (by omega) (by omega)).trans (b8 x x1 x2), fun x x1 x2 => (z _ x (by omega) (by omega)).trans (b9 x x1 x2), (z _ _ (by omega) (by omega)).trans b10, (z _ _ (by omega) (by omega)).trans b11, (z _ _ (by omega) (by omega)).trans b12⟩
  have e15 : ∀ M2 : jxM, (∀ c x, (c < 4 ∨ 14 < c) → M2 c x = M c x) → M2 15 2 = M 15 2 := fun M2 hf => hf 15 2 (by omega)
  refine bk_H_bringBack_0 (d := d) hX2 M ⟨fun q => ⟨by omega, fun q1 => ⟨fun _ => ?_, fun z => absurd z q0⟩, fun q1 => ⟨fun _ => ?_, fun z => absurd z q0⟩, fun q1 => ⟨fun _ => ?_, fun z => absurd z q0⟩, fun q1 => ⟨fun _ => ?_, fun z => absurd z q0⟩, fun q1 => ⟨fun _ => ?_, fun z => absurd z q0⟩, fun q1 => ⟨fun _ => ?_, fun z => absurd z q0⟩⟩, fun q => ⟨fun _ => ?_, fun z => absurd z q0⟩⟩
  · exact sp_M_copyFrom_b0 d M (fun M2 hf hb => ⟨rfl, by have := e15 M2 hf; omega, rfl, key 0 M2 _ q1 (by omega) (by rw [if_neg q]) hf hb⟩)
  · exact sp_M_copyFrom_b1 d M (fun M2 hf hb => ⟨rfl, by have := e15 M2 hf; omega, rfl, key 1 M2 _ q1 (by omega) (by rw [if_neg q]) hf hb⟩)
  · exact sp_M_copyFrom_b2 d M (fun M2 hf hb => ⟨rfl, by have := e15 M2 hf; omega, rfl, key 2 M2 _ q1 (by omega) (by rw [if_neg q]) hf hb⟩)
  · exact sp_M_copyFrom_b3 d M (fun M2 hf hb => ⟨rfl, by have := e15 M2 hf; omega, rfl, key 3 M2 _ q1 (by omega) (by rw [if_neg q]) hf hb⟩)
  · exact sp_M_copyFrom_b4 d M (fun M2 hf hb => ⟨rfl, by have := e15 M2 hf; omega, rfl, key 4 M2 _ q1 (by omega) (by rw [if_neg q]) hf hb⟩)
  · exact sp_M_copyFrom_b5 d M (fun M2 hf hb => ⟨rfl, by have := e15 M2 hf; omega, rfl, key 5 M2 _ q1 (by omega) (by rw [if_neg q]) hf hb⟩)
  · exact sp_M_copyFrom_b5 d M (fun M2 hf hb => ⟨rfl, by have := e15 M2 hf; omega, rfl, key 5 M2 _ rfl (by omega) (by rw [if_pos q]) hf hb⟩)
-- ===== both memories =====
def q_txt (M1 M2 : jxM) : Prop := M1 2 1 = M2 1 4 ∧ (0 ≤ M2 1 4 ∧ M2 1 4 ≤ 20) ∧ ∀ i, 0 ≤ i → i < M2 1 4 → M1 3 i = M2 4 i
def q_his (M1 M2 : jxM) : Prop := M1 15 2 = M2 1 2 ∧ (0 ≤ M2 1 2 ∧ M2 1 2 ≤ 6) ∧ (0 ≤ M1 15 1 ∧ M1 15 1 < 6) ∧ ∀ j, 0 ≤ j → j < M2 1 2 → q_rs M1 (17 + 11 * ((M1 15 1 - M2 1 2 + j) % 6).toNat) (fun k => M2 3 (305 * j + k)) ∧ q_ok (fun k => M2 3 (305 * j + k))
def q_base (M1 M2 : jxM) : Prop := q_txt M1 M2 ∧ q_rs M1 4 (M2 2) ∧ q_ok (M2 2) ∧ q_his M1 M2
def q_nx (M1 M2 M1' M2' : jxM) : Prop := (M1' 1 5 = 1 ∧ M2' 1 5 = 0) ∨ ((∀ c x, (c = 1 ∨ 4 ≤ c) → M1' c x = M1 c x) ∧ ∀ c x, c ≠ 4 → ¬ (c = 1 ∧ x = 4) → M2' c x = M2 c x)
/-- the two answers are one, and the memories go on together -/
def q_pair (M1 M2 : jxM) (v : Option jxV) (M1' : jxM) : jxK := fun w M2' => (∃ r : Int, v = some (.inl r) ∧ w = some (.inl r)) ∧ q_base M1' M2' ∧ q_nx M1 M2 M1' M2'
theorem q_his_fr {M1 M2 M1' M2' : jxM} (h : q_his M1 M2) (h1 : ∀ c x, 15 ≤ c → c ≤ 82 → M1' c x = M1 c x) (h2 : ∀ x, M2' 3 x = M2 3 x) (h3 : M2' 1 2 = M2 1 2) : q_his M1' M2' := by
  obtain ⟨a, b, c, d⟩ := h
  have e1 := h1 15 1 (by omega) (by omega)
  have e2 := h1 15 2 (by omega) (by omega)
  refine ⟨by rw [e2, h3]; exact a, by rw [h3]; exact b, by rw [e1]; exact c, fun j j1 j2 => ?_⟩
  rw [h3] at j2 ⊢
  rw [e1]
  obtain ⟨d1, d2⟩ := d j j1 j2
  refine ⟨q_rs_eq d2 (q_rs_blk d2 d1 (q_blk_rfl (fun c x c1 c2 => h1 c x (by omega) ?_))) (fun k _ _ => h2 _), q_ok_eq d2 (fun k _ _ => h2 _)⟩
  omega
/-- behind the beginning of an edit on both sides the history is in order -/
theorem q_his_edit {M1 M2 M1' M2' : jxM} (h : q_base M1 M2) (h1 : q_edit M1 M1') (h2 : q_save M2 M2') : q_his M1' M2' := by
  obtain ⟨-, hrs, hok, a, b, c, d⟩ := h
  obtain ⟨e1, e2, e3, e4, e5, e6⟩ := h1
  obtain ⟨s1, s2, s3, s4, s5, s6, s7⟩ := h2
  have n1 : (M1 15 1 = 5 → M1' 15 1 = 0) ∧ (M1 15 1 ≠ 5 → M1' 15 1 = M1 15 1 + 1) := ⟨fun z => by rw [e3, if_pos z], fun z => by rw [e3, if_neg z]⟩
  refine ⟨by rw [e4, s4, a], by omega, by omega, fun j j1 j2 => ?_⟩
  rcases Int.lt_or_le j (min (M2 1 2) 5) with z | z
  · -- an older state
    have hj : ∃ j', 0 ≤ j' ∧ j' < M2 1 2 ∧ (M1' 15 1 - M2' 1 2 + j) % 6 = (M1 15 1 - M2 1 2 + j') % 6 ∧ (M1 15 1 - M2 1 2 + j') % 6 ≠ M1 15 1 ∧ ∀ k, 0 ≤ k → k < 305 → M2' 3 (305 * j + k) = M2 3 (305 * j' + k) := by
      by_cases z6 : M2 1 2 = 6
      · refine ⟨j + 1, by omega, by omega, ?_, ?_, fun k k1 k2 => ?_⟩
        · by_cases y : M1 15 1 = 5
          · rw [n1.1 y, s4]; omega
          · rw [n1.2 y, s4]; omega
        · omega
        · rw [s5 z6 _ (by omega) (by omega)]
          congr 1
          omega
      · refine ⟨j, by omega, by omega, ?_, ?_, fun k k1 k2 => ?_⟩
        · by_cases y : M1 15 1 = 5
          · rw [n1.1 y, s4]; omega
          · rw [n1.2 y, s4]; omega
        · omega
        · rw [s6 (by omega) _ (by omega) (by omega)]
    obtain ⟨j', p1, p2, p3, p4, p5⟩ := hj
    obtain ⟨d1, d2⟩ := d j' p1 p2
    rw [p3]
    refine ⟨q_rs_eq d2 (q_rs_blk d2 d1 (q_blk_rfl (fun c x c1 c2 => e6 c x (by omega) (by omega) ?_))) (fun k k1 k2 => p5 k k1 k2), q_ok_eq d2 (fun k k1 k2 => p5 k k1 k2)⟩
    omega
  · -- the state that was saved now
    have hj : j = min (M2 1 2) 5 := by omega
    have hs : ((M1' 15 1 - M2' 1 2 + j) % 6).toNat = (M1 15 1).toNat := by
      by_cases y : M1 15 1 = 5
      · rw [n1.1 y, s4]; omega
      · rw [n1.2 y, s4]; omega
    rw [hs, hj]
    exact ⟨q_rs_eq hok (q_rs_blk hok hrs e5) (fun k k1 k2 => s7 k k1 k2), q_ok_eq hok (fun k k1 k2 => s7 k k1 k2)⟩
