theorem q_bs {M1 M2 : jxM} (h : q_base M1 M2) : M1 2 1 = M2 1 4 ∧ (0 ≤ M2 1 4 ∧ M2 1 4 ≤ 20) ∧ M1 5 6 = M2 2 0 ∧ (0 ≤ M2 2 0 ∧ M2 2 0 ≤ 20) ∧ M1 4 5 = M2 2 271 ∧ (0 ≤ M2 2 271 ∧ M2 2 271 ≤ 16) ∧ M1 4 4 = M2 2 270 ∧ M1 15 2 = M2 1 2 ∧ (0 ≤ M2 1 2 ∧ M2 1 2 ≤ 6) ∧ (0 ≤ M1 15 1 ∧ M1 15 1 < 6) := by
  obtain ⟨⟨a1, a2, -⟩, ⟨b1, -, -, b4, b5, -⟩, ⟨c1, -, -, -, c5, -⟩, d1, d2, d3, -⟩ := h
  exact ⟨a1, a2, b1, c1, b5, c5, b4, d1, d2, d3⟩
/-- of an entry -/
theorem q_en {M1 M2 : jxM} (h : q_base M1 M2) {e : Int} (e1 : 0 ≤ e) (e2 : e < M2 2 0) : M1 7 e = M2 2 (1 + 11 * e) ∧ (1 ≤ M2 2 (1 + 11 * e) ∧ M2 2 (1 + 11 * e) ≤ 6) ∧ M1 8 e = M2 2 (1 + 11 * e + 7) ∧ M1 9 e = M2 2 (1 + 11 * e + 8) ∧ (0 ≤ M2 2 (1 + 11 * e + 8) ∧ M2 2 (1 + 11 * e + 8) ≤ 4) ∧ M1 10 e = M2 2 (1 + 11 * e + 9) ∧ (0 ≤ M2 2 (1 + 11 * e + 9) ∧ M2 2 (1 + 11 * e + 9) ≤ 99) ∧ M1 11 e = M2 2 (1 + 11 * e + 10) ∧ (0 ≤ M2 2 (1 + 11 * e + 10) ∧ M2 2 (1 + 11 * e + 10) ≤ 9) := by
  obtain ⟨-, ⟨-, b2, -⟩, ⟨-, c2, -⟩, -⟩ := h
  obtain ⟨z1, -, z3, z4, z5, z6⟩ := b2 e e1 e2
  obtain ⟨y1, y2, y3, y4⟩ := c2 e e1 e2
  exact ⟨z1, y1, z3, z4, y2, z5, y3, z6, y4⟩
theorem q_let {M1 M2 : jxM} (h : q_base M1 M2) {e i : Int} (e1 : 0 ≤ e) (e2 : e < M2 2 0) (i1 : 0 ≤ i) (i2 : i < M2 2 (1 + 11 * e)) : M1 6 (e * 6 + i) = M2 2 (1 + 11 * e + 1 + i) := ((h.2.1.2.1 e e1 e2).2.1) i i1 i2
theorem q_begins {M1 M2 : jxM} (h : q_base M1 M2) {e : Int} (e1 : 0 ≤ e) (e2 : e < M2 2 0) : t_begins M1 e ↔ f_begins M2 e := by
  obtain ⟨z1, -⟩ := q_en h e1 e2
  obtain ⟨a1, a2, a3⟩ := h.1
  unfold t_begins f_begins
  rw [z1, a1]
  constructor
  · rintro ⟨y1, y2⟩
    exact ⟨y1, fun i i1 i2 => by rw [← a3 i i1 i2, ← q_let h e1 e2 i1 (by omega)]; exact (y2 i i1 i2).symm⟩
  · rintro ⟨y1, y2⟩
    exact ⟨y1, fun i i1 i2 => by rw [a3 i i1 i2, q_let h e1 e2 i1 (by omega)]; exact (y2 i i1 i2).symm⟩
theorem q_stands {M1 M2 : jxM} (h : q_base M1 M2) {e g : Int} (e1 : 0 ≤ e) (e2 : e < M2 2 0) (g1 : 0 ≤ g) : m_stands M1 e g ↔ f_stands (M2 2) e g := by
  obtain ⟨z1, -⟩ := q_en h e1 e2
  obtain ⟨-, -, -, -, a5, -⟩ := q_bs h
  have hin := h.2.1.2.2.2.2.2.1
  unfold m_stands f_stands
  rw [z1, a5]
  constructor
  · rintro ⟨y1, y2⟩
    exact ⟨y1, fun i i1 i2 => by rw [← q_let h e1 e2 i1 i2, y2 i i1 i2, hin (g + i) (by omega) (by omega), Int.add_assoc]⟩
  · rintro ⟨y1, y2⟩
    exact ⟨y1, fun i i1 i2 => by rw [q_let h e1 e2 i1 i2, y2 i i1 i2, hin (g + i) (by omega) (by omega), Int.add_assoc]⟩
theorem j_sum_eq {f g : Int → Int} (k : Nat) (h : ∀ i, 0 ≤ i → i < (k : Int) → f i = g i) : j_sum f k = j_sum g k := by
  induction k with
  | zero => rfl
  | succ k ih => simp only [j_sum]; rw [ih (fun i i1 i2 => h i i1 (by omega)), h k (by omega) (by omega)]
theorem q_same {M1 M2 : jxM} (h : q_base M1 M2) (r : Int) : q_pair M1 M2 (some (.inl r)) M1 (some (.inl r)) M2 := ⟨⟨r, rfl, rfl⟩, h, Or.inr ⟨(fun _ _ _ => rfl), (fun _ _ _ _ => rfl)⟩⟩
theorem q_same2 {M1 M2 : jxM} (h : q_base M1 M2) {r r' : Int} (e : r = r') : q_pair M1 M2 (some (.inl r)) M1 (some (.inl r')) M2 := by rw [e]; exact q_same h r'
/-- the text alone has changed -/
theorem q_base_txt {M1 M2 M1' M2' : jxM} (h : q_base M1 M2) (ht : q_txt M1' M2') (h1 : ∀ c x, 4 ≤ c → M1' c x = M1 c x) (h2 : ∀ c x, c = 2 ∨ c = 3 → M2' c x = M2 c x) (h3 : M2' 1 2 = M2 1 2) : q_base M1' M2' :=
  ⟨ht, q_rs_eq h.2.2.1 (q_rs_blk h.2.2.1 h.2.1 (q_blk_rfl (fun c x c1 _ => h1 c x c1))) (fun k _ _ => h2 2 k (Or.inl rfl)), q_ok_eq h.2.2.1 (fun k _ _ => h2 2 k (Or.inl rfl)), q_his_fr h.2.2.2 (fun c x c1 _ => h1 c x (by omega)) (fun x => h2 3 x (Or.inr rfl)) h3⟩
theorem pr_appendCharacter (d1 d2 : Nat) {M1 M2 : jxM} (h : q_base M1 M2) (a : Int) : jx_call jx_G1 jx_T (d1 + 2) 46 [.inr 1, .inl a] M1 (fun v M1' => jx_call jx_G2 jx_T (d2 + 2) 83 [.inr 1, .inl a] M2 (q_pair M1 M2 v M1')) := by
  obtain ⟨a1, a2, -⟩ := q_bs h
  intro X hX
  refine bk_C_appendCharacter_0 (d := d1) hX a M1 ⟨fun q => ⟨fun q2 => ?_, fun q2 => ?_⟩, fun q => ?_⟩
  · refine sp_T_push d1 a M1 (by omega) ⟨rfl, ?_⟩
    intro X2 hX2
    refine bk_F_appendCharacter_0 (d := d2) hX2 a M2 ⟨fun z => ⟨fun z2 => ⟨by omega, ?_⟩, fun z2 => by omega⟩, fun z => by omega⟩
    rw [jx_ups, a1]
    refine ⟨⟨_, rfl, rfl⟩, q_base_txt h ⟨by rw [jx_ups, jx_ups], by rw [jx_ups]; omega, fun i i1 i2 => ?_⟩ (fun c x hc => by rw [jx_upc (by omega), jx_upc (by omega)]) (fun c x hc => by rw [jx_upc (by omega), jx_upc (by omega)]) (by rw [jx_upx (by decide), jx_upc (by decide)]), Or.inr ⟨(fun c x hc => by rw [jx_upc (by omega), jx_upc (by omega)]), (fun c x c1 c2 => ?_)⟩⟩
    · rw [jx_ups] at i2
      rw [jx_upc (c := 2) (by decide), jx_upc (c := 1) (by decide)]
      rcases Int.lt_or_le i (M2 1 4) with z | z
      · rw [jx_upx (c := 3) (by omega), jx_upx (c := 4) (by omega)]; exact h.1.2.2 i i1 z
      · obtain rfl : i = M2 1 4 := by omega
        rw [jx_ups, jx_ups]
    · have e : jx_up (jx_up M2 4 (M2 1 4) a) 1 4 (M2 1 4 + 1) c x = jx_up M2 4 (M2 1 4) a c x := by
        by_cases z : c = 1
        · subst z; exact jx_upx (fun y => c2 ⟨rfl, y⟩)
        · exact jx_upc z
      rw [e, jx_upc c1]
  · intro X2 hX2
    exact bk_F_appendCharacter_0 (d := d2) hX2 a M2 ⟨fun z => ⟨fun z2 => by omega, fun z2 => q_same h _⟩, fun z => by omega⟩
  · intro X2 hX2
    exact bk_F_appendCharacter_0 (d := d2) hX2 a M2 ⟨fun z => by omega, fun z => q_same h _⟩
theorem pr_clearText (d1 d2 : Nat) {M1 M2 : jxM} (h : q_base M1 M2) : jx_call jx_G1 jx_T (d1 + 1) 47 [.inr 1] M1 (fun v M1' => jx_call jx_G2 jx_T (d2 + 1) 84 [.inr 1] M2 (q_pair M1 M2 v M1')) := by
  obtain ⟨a1, a2, -⟩ := q_bs h
  intro X hX
  refine bk_C_clearText_0 (d := d1) hX M1 ?_
  intro X2 hX2
  refine bk_F_clearText_0 (d := d2) hX2 M2 ?_
  rw [a1]
  refine ⟨⟨_, rfl, rfl⟩, q_base_txt h ⟨by rw [jx_ups, jx_ups], by rw [jx_ups]; omega, fun i i1 i2 => by rw [jx_ups] at i2; omega⟩ (fun c x hc => by rw [jx_upc (by omega)]) (fun c x hc => by rw [jx_upc (by omega)]) (by rw [jx_upx (by decide)]), Or.inr ⟨(fun c x hc => by rw [jx_upc (by omega)]), (fun c x c1 c2 => ?_)⟩⟩
  by_cases z : c = 1
  · subst z; exact jx_upx (fun y => c2 ⟨rfl, y⟩)
  · exact jx_upc z
theorem pr_entryCount (d1 d2 : Nat) {M1 M2 : jxM} (h : q_base M1 M2) : jx_call jx_G1 jx_T (d1 + 1) 50 [.inr 1] M1 (fun v M1' => jx_call jx_G2 jx_T (d2 + 1) 91 [.inr 1] M2 (q_pair M1 M2 v M1')) := by
  obtain ⟨-, -, a3, -⟩ := q_bs h
  intro X hX
  refine bk_C_entryCount_0 (d := d1) hX M1 ?_
  intro X2 hX2
  exact bk_F_entryCount_0 (d := d2) hX2 M2 (q_same2 h a3)
theorem pr_inputLength (d1 d2 : Nat) {M1 M2 : jxM} (h : q_base M1 M2) : jx_call jx_G1 jx_T (d1 + 1) 58 [.inr 1] M1 (fun v M1' => jx_call jx_G2 jx_T (d2 + 1) 101 [.inr 1] M2 (q_pair M1 M2 v M1')) := by
  obtain ⟨-, -, -, -, a5, -⟩ := q_bs h
  intro X hX
  refine bk_C_inputLength_0 (d := d1) hX M1 ?_
  intro X2 hX2
  exact bk_F_inputLength_0 (d := d2) hX2 M2 (q_same2 h a5)
theorem pr_wordOf (d1 d2 : Nat) {M1 M2 : jxM} (h : q_base M1 M2) (a : Int) : jx_call jx_G1 jx_T (d1 + 3) 51 [.inr 1, .inl a] M1 (fun v M1' => jx_call jx_G2 jx_T (d2 + 3) 92 [.inr 1, .inl a] M2 (q_pair M1 M2 v M1')) := by
  obtain ⟨-, -, a3, a4, -⟩ := q_bs h
  intro X hX
  refine bk_C_wordOf_0 (d := d1) hX a M1 ⟨by omega, fun q => ⟨by omega, ?_⟩, fun q => ?_⟩
  · intro X2 hX2
    refine bk_F_wordOf_0 (d := d2) hX2 a M2 ⟨by omega, fun z => by omega, fun z => ⟨by omega, q_same2 h ?_⟩⟩
    exact (q_en h z.1 z.2).2.2.1
  · intro X2 hX2
    exact bk_F_wordOf_0 (d := d2) hX2 a M2 ⟨by omega, fun z => q_same h _, fun z => by omega⟩
theorem pr_costOf (d1 d2 : Nat) {M1 M2 : jxM} (h : q_base M1 M2) (a : Int) : jx_call jx_G1 jx_T (d1 + 3) 52 [.inr 1, .inl a] M1 (fun v M1' => jx_call jx_G2 jx_T (d2 + 3) 94 [.inr 1, .inl a] M2 (q_pair M1 M2 v M1')) := by
  obtain ⟨-, -, a3, a4, -⟩ := q_bs h
  intro X hX
  refine bk_C_costOf_0 (d := d1) hX a M1 ⟨by omega, fun q => ?_, fun q => ?_⟩
  · obtain ⟨z1, z2, z3, z4, z5, z6, z7, z8, z9⟩ := q_en h (e := a) (by omega) (by omega)
    refine ⟨by omega, ?_⟩
    intro X2 hX2
    refine bk_F_costOf_0 (d := d2) hX2 a M2 ⟨by omega, fun z => by omega, fun z => ⟨by omega, q_same2 h ?_⟩⟩
    unfold f_price
    rw [z6, z8]
  · intro X2 hX2
    exact bk_F_costOf_0 (d := d2) hX2 a M2 ⟨by omega, fun z => q_same h _, fun z => by omega⟩
theorem pr_useCount (d1 d2 : Nat) {M1 M2 : jxM} (h : q_base M1 M2) (a : Int) : jx_call jx_G1 jx_T (d1 + 3) 53 [.inr 1, .inl a] M1 (fun v M1' => jx_call jx_G2 jx_T (d2 + 3) 95 [.inr 1, .inl a] M2 (q_pair M1 M2 v M1')) := by
  obtain ⟨-, -, a3, a4, -⟩ := q_bs h
  intro X hX
  refine bk_C_useCount_0 (d := d1) hX a M1 ⟨by omega, fun q => ⟨by omega, ?_⟩, fun q => ?_⟩
  · intro X2 hX2
    refine bk_F_useCount_0 (d := d2) hX2 a M2 ⟨by omega, fun z => by omega, fun z => ⟨by omega, q_same2 h ?_⟩⟩
    exact (q_en h z.1 z.2).2.2.2.2.2.2.2.1
  · intro X2 hX2
    exact bk_F_useCount_0 (d := d2) hX2 a M2 ⟨by omega, fun z => q_same h _, fun z => by omega⟩
theorem j_b01 (P : Int → Prop) (k : Nat) : 0 ≤ j_sum (fun e => jx_b (P e)) k ∧ j_sum (fun e => jx_b (P e)) k ≤ k := by
  have := j_sum_le (f := fun e => jx_b (P e)) (B := 1) k (fun i _ _ => by rcases jx_b01 (P i) with z | z <;> omega)
  omega
theorem j_step (f : Int → Int) {i : Int} (h : 0 ≤ i) : j_sum f (i + 1).toNat = j_sum f i.toNat + f i := by
  rw [show (i + 1).toNat = i.toNat + 1 by omega]
  simp only [j_sum]
  rw [show ((i.toNat : Nat) : Int) = i by omega]
theorem pr_entriesWithPrefix (d1 d2 : Nat) {M1 M2 : jxM} (h : q_base M1 M2) : jx_call jx_G1 jx_T (d1 + 2) 54 [.inr 1] M1 (fun v M1' => jx_call jx_G2 jx_T (d2 + 3) 96 [.inr 1] M2 (q_pair M1 M2 v M1')) := by
  obtain ⟨a1, a2, a3, a4, -⟩ := q_bs h
  intro X hX
  refine bk_C_entriesWithPrefix_0 (d := d1) hX M1 ?_
  refine jx_loop (σ := Int) (M1 5 6) (fun i s => 0 ≤ i ∧ i ≤ M1 5 6 ∧ s = j_sum (fun e => jx_b (t_begins M1 e)) i.toNat) (fun i s => X 8 [.inr 1, .inr 5, .inl s, .inl i] [] M1) ?_ 0 0 ⟨by omega, by omega, rfl⟩
  intro i s ⟨i1, i2, i3⟩ ih
  have hb := j_b01 (t_begins M1) i.toNat
  refine bk_C_entriesWithPrefix_8 (d := d1) hX s i M1 ⟨fun q => ?_, fun q => ⟨?_, fun q2 => ⟨by omega, ih _ q ⟨by omega, by omega, ?_⟩⟩, fun q2 => ⟨by omega, ih _ q ⟨by omega, by omega, ?_⟩⟩⟩⟩
  · intro X2 hX2
    refine bk_F_entriesWithPrefix_0 (d := d2) hX2 M2 ?_
    refine jx_loop (σ := Int) (M2 2 0) (fun i s => 0 ≤ i ∧ i ≤ M2 2 0 ∧ s = j_sum (fun e => jx_b (f_begins M2 e)) i.toNat) (fun i s => X2 4 [.inr 1, .inl s, .inl i] [] M2) ?_ 0 0 ⟨by omega, by omega, rfl⟩
    intro j t ⟨j1, j2, j3⟩ jh
    have hb2 := j_b01 (f_begins M2) j.toNat
    refine bk_F_entriesWithPrefix_4 (d := d2) hX2 t j M2 ⟨fun z => q_same2 h ?_, fun z => ⟨?_, fun z2 => ⟨by omega, jh _ z ⟨by omega, by omega, ?_⟩⟩, fun z2 => ⟨by omega, jh _ z ⟨by omega, by omega, ?_⟩⟩⟩⟩
    · rw [i3, j3, show i.toNat = j.toNat by omega]
      exact j_sum_eq _ (fun e e1 e2 => jx_bc (q_begins h e1 (by omega)))
    · have := q_en h j1 z
      omega
    · rw [j_step _ j1, jx_bf z2, j3]
    · rw [j_step _ j1, jx_bt z2, j3]
  · have := q_en h i1 (by omega)
    omega
  · rw [j_step _ i1, jx_bf q2, i3]; omega
  · rw [j_step _ i1, jx_bt q2, i3]
theorem pr_segmentsAt (d1 d2 : Nat) {M1 M2 : jxM} (h : q_base M1 M2) (g : Int) : jx_call jx_G1 jx_T (d1 + 3) 60 [.inr 1, .inl g] M1 (fun v M1' => jx_call jx_G2 jx_T (d2 + 3) 104 [.inr 1, .inl g] M2 (q_pair M1 M2 v M1')) := by
  obtain ⟨a1, a2, a3, a4, a5, a6, -⟩ := q_bs h
  intro X hX
  refine bk_C_segmentsAt_0 (d := d1) hX g M1 ⟨fun q0 => ?_, fun q0 => ?_⟩
  · refine jx_loop (σ := Int) (M1 5 6) (fun i s => 0 ≤ i ∧ i ≤ M1 5 6 ∧ s = j_sum (fun e => jx_b (m_stands M1 e g)) i.toNat) (fun i s => X 10 [.inr 1, .inl g, .inl s, .inl i] [] M1) ?_ 0 0 ⟨by omega, by omega, rfl⟩
    intro i s ⟨i1, i2, i3⟩ ih
    have hb := j_b01 (fun e => m_stands M1 e g) i.toNat
    refine bk_C_segmentsAt_10 (d := d1) hX g s i M1 ⟨fun q => ?_, fun q => ⟨?_, fun q2 => ⟨by omega, ih _ q ⟨by omega, by omega, ?_⟩⟩, fun q2 => ⟨by omega, ih _ q ⟨by omega, by omega, ?_⟩⟩⟩⟩
    · intro X2 hX2
      refine bk_F_segmentsAt_0 (d := d2) hX2 g M2 ⟨fun z0 => ?_, fun z0 => by omega⟩
      refine jx_loop (σ := Int) (M2 2 0) (fun i s => 0 ≤ i ∧ i ≤ M2 2 0 ∧ s = j_sum (fun e => jx_b (f_stands (M2 2) e g)) i.toNat) (fun i s => X2 14 [.inr 1, .inl g, .inl s, .inl i] [] M2) ?_ 0 0 ⟨by omega, by omega, rfl⟩
      intro j t ⟨j1, j2, j3⟩ jh
      have hb2 := j_b01 (fun e => f_stands (M2 2) e g) j.toNat
      refine bk_F_segmentsAt_14 (d := d2) hX2 g t j M2 ⟨fun z => q_same2 h ?_, fun z => ⟨?_, fun z2 => ⟨by omega, jh _ z ⟨by omega, by omega, ?_⟩⟩, fun z2 => ⟨by omega, jh _ z ⟨by omega, by omega, ?_⟩⟩⟩⟩
      · rw [i3, j3, show i.toNat = j.toNat by omega]
        exact j_sum_eq _ (fun e e1 e2 => jx_bc (q_stands h e1 (by omega) (by omega)))
      · have := q_en h j1 z
        omega
      · rw [j_step _ j1, jx_bf z2, j3]
      · rw [j_step _ j1, jx_bt z2, j3]
    · have := q_en h i1 (by omega)
      omega
    · rw [j_step _ i1, jx_bf q2, i3]; omega
    · rw [j_step _ i1, jx_bt q2, i3]
  · intro X2 hX2
    exact bk_F_segmentsAt_0 (d := d2) hX2 g M2 ⟨fun z => by omega, fun z => q_same h _⟩
theorem pr_undo (d1 d2 : Nat) {M1 M2 : jxM} (h : q_base M1 M2) : jx_call jx_G1 jx_T (d1 + 5) 71 [.inr 1] M1 (fun v M1' => jx_call jx_G2 jx_T (d2 + 1) 82 [.inr 1] M2 (q_pair M1 M2 v M1')) := by
  obtain ⟨a1, a2, a3, a4, a5, a6, a7, a8, a9, a10⟩ := q_bs h
  refine sp_C_undo d1 M1 (by omega) (fun q => ?_) (fun q M1' u => ?_)
  · exact sp_F_undo d2 M2 a9 (fun _ => q_same h _) (fun z => by omega)
  · refine sp_F_undo d2 M2 a9 (fun z => by omega) (fun z M2' w => ?_)
    obtain ⟨u1, u2, u3, u4, u5⟩ := u
    obtain ⟨w1, w2, w3, w4, w5⟩ := w
    obtain ⟨⟨t1, t2, t3⟩, hrs, hok, b1, b2, b3, b4⟩ := h
    have hl : (if M1 15 1 = 0 then (5 : Int) else M1 15 1 - 1) = (M1 15 1 - M2 1 2 + (M2 1 2 - 1)) % 6 := by
      by_cases y : M1 15 1 = 0
      · rw [if_pos y]; omega
      · rw [if_neg y]; omega
    rw [hl] at u3 u5
    obtain ⟨d1', d2'⟩ := b4 (M2 1 2 - 1) (by omega) (by omega)
    refine ⟨⟨_, rfl, by rw [a8]⟩, ⟨⟨?_, ?_, ?_⟩, ?_, ?_, ?_, ?_, ?_, ?_⟩, Or.inl ⟨u2, w3⟩⟩
    · rw [u1 2 1 (by omega) (by omega), w2 4 (by decide) (by decide)]; exact t1
    · rw [w2 4 (by decide) (by decide)]; exact t2
    · intro i i1 i2
      rw [w2 4 (by decide) (by decide)] at i2
      rw [u1 3 i (by omega) (by omega), w1 4 i (by decide) (by decide)]; exact t3 i i1 i2
    · exact q_rs_eq d2' (q_rs_blk d2' d1' u5) (fun k k1 k2 => w5 k k1 k2)
    · exact q_ok_eq d2' (fun k k1 k2 => w5 k k1 k2)
    · rw [u4, w4, b1]
    · omega
    · omega
    · intro j j1 j2
      rw [w4] at j2
      obtain ⟨c1, c2⟩ := b4 j j1 (by omega)
      rw [u3, w4, show ((M1 15 1 - M2 1 2 + (M2 1 2 - 1)) % 6 - (M2 1 2 - 1) + j) % 6 = (M1 15 1 - M2 1 2 + j) % 6 by omega]
      exact ⟨q_rs_eq c2 (q_rs_blk c2 c1 (q_blk_rfl (fun c x y1 y2 => u1 c x (by omega) (by omega)))) (fun k _ _ => w1 3 _ (by decide) (by decide)), q_ok_eq c2 (fun k _ _ => w1 3 _ (by decide) (by decide))⟩
