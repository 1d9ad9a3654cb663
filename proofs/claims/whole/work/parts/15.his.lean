theorem jx_cp0 {M : jxM} {a b : Nat} {n x : Int} (h0 : 0 ≤ x) (h1 : x < n) : jx_cp M a 0 b 0 n b x = M a x := by
  unfold jx_cp
  rw [if_pos ⟨rfl, h0, by omega⟩, show 0 + (x - 0) = x by omega]
theorem jx_cpi {M : jxM} {a b : Nat} {sp dp n x : Int} (h0 : dp ≤ x) (h1 : x < dp + n) : jx_cp M a sp b dp n b x = M a (sp + (x - dp)) := by
  unfold jx_cp
  rw [if_pos ⟨rfl, h0, h1⟩]
theorem jx_cpo {M : jxM} {a b : Nat} {sp dp n x : Int} (h0 : x < dp ∨ dp + n ≤ x) : jx_cp M a sp b dp n b x = M b x := by
  unfold jx_cp
  rw [if_neg (fun z => by omega)]
/-- two models' cells hold the same -/
def q_blk (M' : jxM) (b' : Nat) (M : jxM) (b : Nat) : Prop :=
  (∀ x, 0 ≤ x → x < 120 → M' (b' + 2) x = M (b + 2) x) ∧ (∀ x, 0 ≤ x → x < 20 → M' (b' + 3) x = M (b + 3) x) ∧ (∀ x, 0 ≤ x → x < 20 → M' (b' + 4) x = M (b + 4) x) ∧ (∀ x, 0 ≤ x → x < 20 → M' (b' + 5) x = M (b + 5) x) ∧ (∀ x, 0 ≤ x → x < 20 → M' (b' + 6) x = M (b + 6) x) ∧ (∀ x, 0 ≤ x → x < 20 → M' (b' + 7) x = M (b + 7) x) ∧
  (∀ x, 0 ≤ x → x < 49 → M' (b' + 8) x = M (b + 8) x) ∧ (∀ x, 0 ≤ x → x < 16 → M' (b' + 9) x = M (b + 9) x) ∧ (∀ x, 0 ≤ x → x < 17 → M' (b' + 10) x = M (b + 10) x) ∧ M' (b' + 1) 6 = M (b + 1) 6 ∧ M' b' 4 = M b 4 ∧ M' b' 5 = M b 5
/-- a state, as the reference lays it out, is in order -/
def q_ok (A : Int → Int) : Prop :=
  (0 ≤ A 0 ∧ A 0 ≤ 20) ∧ (∀ e, 0 ≤ e → e < A 0 → (1 ≤ A (1 + 11 * e) ∧ A (1 + 11 * e) ≤ 6) ∧ (0 ≤ A (1 + 11 * e + 8) ∧ A (1 + 11 * e + 8) ≤ 4) ∧ (0 ≤ A (1 + 11 * e + 9) ∧ A (1 + 11 * e + 9) ≤ 99) ∧ (0 ≤ A (1 + 11 * e + 10) ∧ A (1 + 11 * e + 10) ≤ 9)) ∧
  (∀ k, 0 ≤ k → k < 49 → 0 ≤ A (221 + k) ∧ A (221 + k) ≤ 99) ∧ (0 ≤ A 270 ∧ A 270 ≤ 200) ∧ (0 ≤ A 271 ∧ A 271 ≤ 16) ∧ (∀ g, 0 ≤ g → g ≤ 16 → (0 ≤ A (288 + g) ∧ A (288 + g) ≤ 2) ∧ (A 271 ≤ g → A (288 + g) = 0))
/-- the class's model at b holds the state A -/
def q_rs (M : jxM) (b : Nat) (A : Int → Int) : Prop :=
  M (b + 1) 6 = A 0 ∧ (∀ e, 0 ≤ e → e < A 0 → M (b + 3) e = A (1 + 11 * e) ∧ (∀ i, 0 ≤ i → i < A (1 + 11 * e) → M (b + 2) (e * 6 + i) = A (1 + 11 * e + 1 + i)) ∧ M (b + 4) e = A (1 + 11 * e + 7) ∧ M (b + 5) e = A (1 + 11 * e + 8) ∧ M (b + 6) e = A (1 + 11 * e + 9) ∧ M (b + 7) e = A (1 + 11 * e + 10)) ∧
  (∀ k, 0 ≤ k → k < 49 → M (b + 8) k = A (221 + k)) ∧ M b 4 = A 270 ∧ M b 5 = A 271 ∧ (∀ i, 0 ≤ i → i < A 271 → M (b + 9) i = A (272 + i)) ∧ (∀ g, 0 ≤ g → g ≤ 16 → M (b + 10) g = A (288 + g))
theorem q_ok_eq {A A' : Int → Int} (h : q_ok A) (he : ∀ k, 0 ≤ k → k < 305 → A' k = A k) : q_ok A' := by
  obtain ⟨h1, h2, h3, h4, h5, h6⟩ := h
  have e0 := he 0 (by omega) (by omega)
  have e271 := he 271 (by omega) (by omega)
  refine ⟨by rw [e0]; exact h1, fun e e1 e2 => ?_, fun k k1 k2 => ?_, ?_, by rw [e271]; exact h5, fun g g1 g2 => ?_⟩
  · rw [e0] at e2
    rw [he (1 + 11 * e) (by omega) (by omega), he (1 + 11 * e + 8) (by omega) (by omega), he (1 + 11 * e + 9) (by omega) (by omega), he (1 + 11 * e + 10) (by omega) (by omega)]
    exact h2 e e1 e2
  · rw [he (221 + k) (by omega) (by omega)]; exact h3 k k1 k2
  · rw [he 270 (by omega) (by omega)]; exact h4
  · rw [he (288 + g) (by omega) (by omega), e271]; exact h6 g g1 g2
theorem q_rs_eq {M : jxM} {b : Nat} {A A' : Int → Int} (ho : q_ok A) (h : q_rs M b A) (he : ∀ k, 0 ≤ k → k < 305 → A' k = A k) : q_rs M b A' := by
  obtain ⟨o1, o2, o3, o4, o5, o6⟩ := ho
  obtain ⟨h1, h2, h3, h4, h5, h6, h7⟩ := h
  have e0 := he 0 (by omega) (by omega)
  have e271 := he 271 (by omega) (by omega)
  refine ⟨by rw [e0]; exact h1, fun e e1 e2 => ?_, fun k k1 k2 => ?_, ?_, by rw [e271]; exact h5, fun i i1 i2 => ?_, fun g g1 g2 => ?_⟩
  · rw [e0] at e2
    obtain ⟨z1, z2, z3, z4, z5, z6⟩ := h2 e e1 e2
    have ol := (o2 e e1 e2).1
    rw [he (1 + 11 * e) (by omega) (by omega), he (1 + 11 * e + 7) (by omega) (by omega), he (1 + 11 * e + 8) (by omega) (by omega), he (1 + 11 * e + 9) (by omega) (by omega), he (1 + 11 * e + 10) (by omega) (by omega)]
    refine ⟨z1, fun i i1 i2 => ?_, z3, z4, z5, z6⟩
    rw [he (1 + 11 * e + 1 + i) (by omega) (by omega)]
    exact z2 i i1 i2
  · rw [he (221 + k) (by omega) (by omega)]; exact h3 k k1 k2
  · rw [he 270 (by omega) (by omega)]; exact h4
  · rw [e271] at i2; rw [he (272 + i) (by omega) (by omega)]; exact h6 i i1 i2
  · rw [he (288 + g) (by omega) (by omega)]; exact h7 g g1 g2
theorem q_rs_blk {M M' : jxM} {b b' : Nat} {A : Int → Int} (ho : q_ok A) (h : q_rs M b A) (hb : q_blk M' b' M b) : q_rs M' b' A := by
  obtain ⟨o1, o2, o3, o4, o5, o6⟩ := ho
  obtain ⟨h1, h2, h3, h4, h5, h6, h7⟩ := h
  obtain ⟨b1, b2, b3, b4, b5, b6, b7, b8, b9, b10, b11, b12⟩ := hb
  refine ⟨by rw [b10]; exact h1, fun e e1 e2 => ?_, fun k k1 k2 => by rw [b7 k k1 k2]; exact h3 k k1 k2, by rw [b11]; exact h4, by rw [b12]; exact h5, fun i i1 i2 => by rw [b8 i i1 (by omega)]; exact h6 i i1 i2, fun g g1 g2 => by rw [b9 g g1 (by omega)]; exact h7 g g1 g2⟩
  obtain ⟨z1, z2, z3, z4, z5, z6⟩ := h2 e e1 e2
  have ol := (o2 e e1 e2).1
  rw [b2 e e1 (by omega), b3 e e1 (by omega), b4 e e1 (by omega), b5 e e1 (by omega), b6 e e1 (by omega)]
  refine ⟨z1, fun i i1 i2 => ?_, z3, z4, z5, z6⟩
  rw [b1 (e * 6 + i) (by omega) (by omega)]
  exact z2 i i1 i2
theorem q_blk_rfl {M M' : jxM} {b : Nat} (h : ∀ c x, b ≤ c → c ≤ b + 10 → M' c x = M c x) : q_blk M' b M b :=
  ⟨fun x _ _ => h _ x (by omega) (by omega), fun x _ _ => h _ x (by omega) (by omega), fun x _ _ => h _ x (by omega) (by omega), fun x _ _ => h _ x (by omega) (by omega), fun x _ _ => h _ x (by omega) (by omega), fun x _ _ => h _ x (by omega) (by omega), fun x _ _ => h _ x (by omega) (by omega), fun x _ _ => h _ x (by omega) (by omega), fun x _ _ => h _ x (by omega) (by omega), h _ _ (by omega) (by omega), h _ _ (by omega) (by omega), h _ _ (by omega) (by omega)⟩
set_option maxHeartbeats 4000000 in
theorem sp_M_copyFrom_k0 (d : Nat) (M : jxM) {K : jxK} (h : ∀ M', (∀ c x, (c < 17 ∨ 27 < c) → M' c x = M c x) → q_blk M' 17 M 4 → K none M') : jx_call jx_G1 jx_T (d + 3) 16 [.inr 17, .inr 4] M K := by
  intro X hX
  refine bk_M_copyFrom_k0_0 (d := d) hX M ?_
  intro X2 hX2
  refine bk_D_copyFrom_k0_0 (d := d) hX2 M ⟨rfl, h _ (fun c x hc => ?_) ⟨?_, ?_, ?_, ?_, ?_, ?_, ?_, ?_, ?_, ?_, ?_, ?_⟩⟩
  · exact (jx_upc (by omega)).trans ((jx_upc (by omega)).trans ((jx_cpc (by omega)).trans ((jx_cpc (by omega)).trans ((jx_cpc (by omega)).trans ((jx_upc (by omega)).trans ((jx_cpc (by omega)).trans ((jx_cpc (by omega)).trans ((jx_cpc (by omega)).trans ((jx_cpc (by omega)).trans ((jx_cpc (by omega)).trans (jx_cpc (by omega))))))))))))
  · exact fun x h0 h1 => (jx_upc (by decide)).trans ((jx_upc (by decide)).trans ((jx_cpc (by decide)).trans ((jx_cpc (by decide)).trans ((jx_cpc (by decide)).trans ((jx_upc (by decide)).trans ((jx_cpc (by decide)).trans ((jx_cpc (by decide)).trans ((jx_cpc (by decide)).trans ((jx_cpc (by decide)).trans ((jx_cpc (by decide)).trans (jx_cp0 h0 h1)))))))))))
  · exact fun x h0 h1 => (jx_upc (by decide)).trans ((jx_upc (by decide)).trans ((jx_cpc (by decide)).trans ((jx_cpc (by decide)).trans ((jx_cpc (by decide)).trans ((jx_upc (by decide)).trans ((jx_cpc (by decide)).trans ((jx_cpc (by decide)).trans ((jx_cpc (by decide)).trans ((jx_cpc (by decide)).trans ((jx_cp0 h0 h1).trans (jx_cpc (by decide))))))))))))
  · exact fun x h0 h1 => (jx_upc (by decide)).trans ((jx_upc (by decide)).trans ((jx_cpc (by decide)).trans ((jx_cpc (by decide)).trans ((jx_cpc (by decide)).trans ((jx_upc (by decide)).trans ((jx_cpc (by decide)).trans ((jx_cpc (by decide)).trans ((jx_cpc (by decide)).trans ((jx_cp0 h0 h1).trans ((jx_cpc (by decide)).trans (jx_cpc (by decide))))))))))))
  · exact fun x h0 h1 => (jx_upc (by decide)).trans ((jx_upc (by decide)).trans ((jx_cpc (by decide)).trans ((jx_cpc (by decide)).trans ((jx_cpc (by decide)).trans ((jx_upc (by decide)).trans ((jx_cpc (by decide)).trans ((jx_cpc (by decide)).trans ((jx_cp0 h0 h1).trans ((jx_cpc (by decide)).trans ((jx_cpc (by decide)).trans (jx_cpc (by decide))))))))))))
  · exact fun x h0 h1 => (jx_upc (by decide)).trans ((jx_upc (by decide)).trans ((jx_cpc (by decide)).trans ((jx_cpc (by decide)).trans ((jx_cpc (by decide)).trans ((jx_upc (by decide)).trans ((jx_cpc (by decide)).trans ((jx_cp0 h0 h1).trans ((jx_cpc (by decide)).trans ((jx_cpc (by decide)).trans ((jx_cpc (by decide)).trans (jx_cpc (by decide))))))))))))
  · exact fun x h0 h1 => (jx_upc (by decide)).trans ((jx_upc (by decide)).trans ((jx_cpc (by decide)).trans ((jx_cpc (by decide)).trans ((jx_cpc (by decide)).trans ((jx_upc (by decide)).trans ((jx_cp0 h0 h1).trans ((jx_cpc (by decide)).trans ((jx_cpc (by decide)).trans ((jx_cpc (by decide)).trans ((jx_cpc (by decide)).trans (jx_cpc (by decide))))))))))))
  · exact fun x h0 h1 => (jx_upc (by decide)).trans ((jx_upc (by decide)).trans ((jx_cpc (by decide)).trans ((jx_cpc (by decide)).trans ((jx_cp0 h0 h1).trans ((jx_upc (by decide)).trans ((jx_cpc (by decide)).trans ((jx_cpc (by decide)).trans ((jx_cpc (by decide)).trans ((jx_cpc (by decide)).trans ((jx_cpc (by decide)).trans (jx_cpc (by decide))))))))))))
  · exact fun x h0 h1 => (jx_upc (by decide)).trans ((jx_upc (by decide)).trans ((jx_cpc (by decide)).trans ((jx_cp0 h0 h1).trans ((jx_cpc (by decide)).trans ((jx_upc (by decide)).trans ((jx_cpc (by decide)).trans ((jx_cpc (by decide)).trans ((jx_cpc (by decide)).trans ((jx_cpc (by decide)).trans ((jx_cpc (by decide)).trans (jx_cpc (by decide))))))))))))
  · exact fun x h0 h1 => (jx_upc (by decide)).trans ((jx_upc (by decide)).trans ((jx_cp0 h0 h1).trans ((jx_cpc (by decide)).trans ((jx_cpc (by decide)).trans ((jx_upc (by decide)).trans ((jx_cpc (by decide)).trans ((jx_cpc (by decide)).trans ((jx_cpc (by decide)).trans ((jx_cpc (by decide)).trans ((jx_cpc (by decide)).trans (jx_cpc (by decide))))))))))))
  · exact (jx_upc (by decide)).trans ((jx_upc (by decide)).trans ((jx_cpc (by decide)).trans ((jx_cpc (by decide)).trans ((jx_cpc (by decide)).trans (jx_ups)))))
  · exact (jx_upx (by decide)).trans ((jx_ups).trans ((jx_upc (by decide)).trans ((jx_cpc (by decide)).trans ((jx_cpc (by decide)).trans ((jx_cpc (by decide)).trans ((jx_cpc (by decide)).trans ((jx_cpc (by decide)).trans (jx_cpc (by decide)))))))))
  · exact (jx_ups).trans ((jx_upc (by decide)).trans ((jx_cpc (by decide)).trans ((jx_cpc (by decide)).trans ((jx_cpc (by decide)).trans ((jx_cpc (by decide)).trans ((jx_cpc (by decide)).trans (jx_cpc (by decide))))))))
set_option maxHeartbeats 4000000 in
theorem sp_M_copyFrom_b0 (d : Nat) (M : jxM) {K : jxK} (h : ∀ M', (∀ c x, (c < 4 ∨ 14 < c) → M' c x = M c x) → q_blk M' 4 M 17 → K none M') : jx_call jx_G1 jx_T (d + 3) 16 [.inr 4, .inr 17] M K := by
  intro X hX
  refine bk_M_copyFrom_b0_0 (d := d) hX M ?_
  intro X2 hX2
  refine bk_D_copyFrom_b0_0 (d := d) hX2 M ⟨rfl, h _ (fun c x hc => ?_) ⟨?_, ?_, ?_, ?_, ?_, ?_, ?_, ?_, ?_, ?_, ?_, ?_⟩⟩
  · exact (jx_upc (by omega)).trans ((jx_upc (by omega)).trans ((jx_cpc (by omega)).trans ((jx_cpc (by omega)).trans ((jx_cpc (by omega)).trans ((jx_upc (by omega)).trans ((jx_cpc (by omega)).trans ((jx_cpc (by omega)).trans ((jx_cpc (by omega)).trans ((jx_cpc (by omega)).trans ((jx_cpc (by omega)).trans (jx_cpc (by omega))))))))))))
  · exact fun x h0 h1 => (jx_upc (by decide)).trans ((jx_upc (by decide)).trans ((jx_cpc (by decide)).trans ((jx_cpc (by decide)).trans ((jx_cpc (by decide)).trans ((jx_upc (by decide)).trans ((jx_cpc (by decide)).trans ((jx_cpc (by decide)).trans ((jx_cpc (by decide)).trans ((jx_cpc (by decide)).trans ((jx_cpc (by decide)).trans (jx_cp0 h0 h1)))))))))))
  · exact fun x h0 h1 => (jx_upc (by decide)).trans ((jx_upc (by decide)).trans ((jx_cpc (by decide)).trans ((jx_cpc (by decide)).trans ((jx_cpc (by decide)).trans ((jx_upc (by decide)).trans ((jx_cpc (by decide)).trans ((jx_cpc (by decide)).trans ((jx_cpc (by decide)).trans ((jx_cpc (by decide)).trans ((jx_cp0 h0 h1).trans (jx_cpc (by decide))))))))))))
  · exact fun x h0 h1 => (jx_upc (by decide)).trans ((jx_upc (by decide)).trans ((jx_cpc (by decide)).trans ((jx_cpc (by decide)).trans ((jx_cpc (by decide)).trans ((jx_upc (by decide)).trans ((jx_cpc (by decide)).trans ((jx_cpc (by decide)).trans ((jx_cpc (by decide)).trans ((jx_cp0 h0 h1).trans ((jx_cpc (by decide)).trans (jx_cpc (by decide))))))))))))
  · exact fun x h0 h1 => (jx_upc (by decide)).trans ((jx_upc (by decide)).trans ((jx_cpc (by decide)).trans ((jx_cpc (by decide)).trans ((jx_cpc (by decide)).trans ((jx_upc (by decide)).trans ((jx_cpc (by decide)).trans ((jx_cpc (by decide)).trans ((jx_cp0 h0 h1).trans ((jx_cpc (by decide)).trans ((jx_cpc (by decide)).trans (jx_cpc (by decide))))))))))))
  · exact fun x h0 h1 => (jx_upc (by decide)).trans ((jx_upc (by decide)).trans ((jx_cpc (by decide)).trans ((jx_cpc (by decide)).trans ((jx_cpc (by decide)).trans ((jx_upc (by decide)).trans ((jx_cpc (by decide)).trans ((jx_cp0 h0 h1).trans ((jx_cpc (by decide)).trans ((jx_cpc (by decide)).trans ((jx_cpc (by decide)).trans (jx_cpc (by decide))))))))))))
  · exact fun x h0 h1 => (jx_upc (by decide)).trans ((jx_upc (by decide)).trans ((jx_cpc (by decide)).trans ((jx_cpc (by decide)).trans ((jx_cpc (by decide)).trans ((jx_upc (by decide)).trans ((jx_cp0 h0 h1).trans ((jx_cpc (by decide)).trans ((jx_cpc (by decide)).trans ((jx_cpc (by decide)).trans ((jx_cpc (by decide)).trans (jx_cpc (by decide))))))))))))
  · exact fun x h0 h1 => (jx_upc (by decide)).trans ((jx_upc (by decide)).trans ((jx_cpc (by decide)).trans ((jx_cpc (by decide)).trans ((jx_cp0 h0 h1).trans ((jx_upc (by decide)).trans ((jx_cpc (by decide)).trans ((jx_cpc (by decide)).trans ((jx_cpc (by decide)).trans ((jx_cpc (by decide)).trans ((jx_cpc (by decide)).trans (jx_cpc (by decide))))))))))))
  · exact fun x h0 h1 => (jx_upc (by decide)).trans ((jx_upc (by decide)).trans ((jx_cpc (by decide)).trans ((jx_cp0 h0 h1).trans ((jx_cpc (by decide)).trans ((jx_upc (by decide)).trans ((jx_cpc (by decide)).trans ((jx_cpc (by decide)).trans ((jx_cpc (by decide)).trans ((jx_cpc (by decide)).trans ((jx_cpc (by decide)).trans (jx_cpc (by decide))))))))))))
  · exact fun x h0 h1 => (jx_upc (by decide)).trans ((jx_upc (by decide)).trans ((jx_cp0 h0 h1).trans ((jx_cpc (by decide)).trans ((jx_cpc (by decide)).trans ((jx_upc (by decide)).trans ((jx_cpc (by decide)).trans ((jx_cpc (by decide)).trans ((jx_cpc (by decide)).trans ((jx_cpc (by decide)).trans ((jx_cpc (by decide)).trans (jx_cpc (by decide))))))))))))
  · exact (jx_upc (by decide)).trans ((jx_upc (by decide)).trans ((jx_cpc (by decide)).trans ((jx_cpc (by decide)).trans ((jx_cpc (by decide)).trans (jx_ups)))))
  · exact (jx_upx (by decide)).trans ((jx_ups).trans ((jx_upc (by decide)).trans ((jx_cpc (by decide)).trans ((jx_cpc (by decide)).trans ((jx_cpc (by decide)).trans ((jx_cpc (by decide)).trans ((jx_cpc (by decide)).trans (jx_cpc (by decide)))))))))
  · exact (jx_ups).trans ((jx_upc (by decide)).trans ((jx_cpc (by decide)).trans ((jx_cpc (by decide)).trans ((jx_cpc (by decide)).trans ((jx_cpc (by decide)).trans ((jx_cpc (by decide)).trans (jx_cpc (by decide))))))))
set_option maxHeartbeats 4000000 in
theorem sp_M_copyFrom_k1 (d : Nat) (M : jxM) {K : jxK} (h : ∀ M', (∀ c x, (c < 28 ∨ 38 < c) → M' c x = M c x) → q_blk M' 28 M 4 → K none M') : jx_call jx_G1 jx_T (d + 3) 16 [.inr 28, .inr 4] M K := by
  intro X hX
  refine bk_M_copyFrom_k1_0 (d := d) hX M ?_
  intro X2 hX2
  refine bk_D_copyFrom_k1_0 (d := d) hX2 M ⟨rfl, h _ (fun c x hc => ?_) ⟨?_, ?_, ?_, ?_, ?_, ?_, ?_, ?_, ?_, ?_, ?_, ?_⟩⟩
  · exact (jx_upc (by omega)).trans ((jx_upc (by omega)).trans ((jx_cpc (by omega)).trans ((jx_cpc (by omega)).trans ((jx_cpc (by omega)).trans ((jx_upc (by omega)).trans ((jx_cpc (by omega)).trans ((jx_cpc (by omega)).trans ((jx_cpc (by omega)).trans ((jx_cpc (by omega)).trans ((jx_cpc (by omega)).trans (jx_cpc (by omega))))))))))))
  · exact fun x h0 h1 => (jx_upc (by decide)).trans ((jx_upc (by decide)).trans ((jx_cpc (by decide)).trans ((jx_cpc (by decide)).trans ((jx_cpc (by decide)).trans ((jx_upc (by decide)).trans ((jx_cpc (by decide)).trans ((jx_cpc (by decide)).trans ((jx_cpc (by decide)).trans ((jx_cpc (by decide)).trans ((jx_cpc (by decide)).trans (jx_cp0 h0 h1)))))))))))
  · exact fun x h0 h1 => (jx_upc (by decide)).trans ((jx_upc (by decide)).trans ((jx_cpc (by decide)).trans ((jx_cpc (by decide)).trans ((jx_cpc (by decide)).trans ((jx_upc (by decide)).trans ((jx_cpc (by decide)).trans ((jx_cpc (by decide)).trans ((jx_cpc (by decide)).trans ((jx_cpc (by decide)).trans ((jx_cp0 h0 h1).trans (jx_cpc (by decide))))))))))))
  · exact fun x h0 h1 => (jx_upc (by decide)).trans ((jx_upc (by decide)).trans ((jx_cpc (by decide)).trans ((jx_cpc (by decide)).trans ((jx_cpc (by decide)).trans ((jx_upc (by decide)).trans ((jx_cpc (by decide)).trans ((jx_cpc (by decide)).trans ((jx_cpc (by decide)).trans ((jx_cp0 h0 h1).trans ((jx_cpc (by decide)).trans (jx_cpc (by decide))))))))))))
  · exact fun x h0 h1 => (jx_upc (by decide)).trans ((jx_upc (by decide)).trans ((jx_cpc (by decide)).trans ((jx_cpc (by decide)).trans ((jx_cpc (by decide)).trans ((jx_upc (by decide)).trans ((jx_cpc (by decide)).trans ((jx_cpc (by decide)).trans ((jx_cp0 h0 h1).trans ((jx_cpc (by decide)).trans ((jx_cpc (by decide)).trans (jx_cpc (by decide))))))))))))
  · exact fun x h0 h1 => (jx_upc (by decide)).trans ((jx_upc (by decide)).trans ((jx_cpc (by decide)).trans ((jx_cpc (by decide)).trans ((jx_cpc (by decide)).trans ((jx_upc (by decide)).trans ((jx_cpc (by decide)).trans ((jx_cp0 h0 h1).trans ((jx_cpc (by decide)).trans ((jx_cpc (by decide)).trans ((jx_cpc (by decide)).trans (jx_cpc (by decide))))))))))))
  · exact fun x h0 h1 => (jx_upc (by decide)).trans ((jx_upc (by decide)).trans ((jx_cpc (by decide)).trans ((jx_cpc (by decide)).trans ((jx_cpc (by decide)).trans ((jx_upc (by decide)).trans ((jx_cp0 h0 h1).trans ((jx_cpc (by decide)).trans ((jx_cpc (by decide)).trans ((jx_cpc (by decide)).trans ((jx_cpc (by decide)).trans (jx_cpc (by decide))))))))))))
  · exact fun x h0 h1 => (jx_upc (by decide)).trans ((jx_upc (by decide)).trans ((jx_cpc (by decide)).trans ((jx_cpc (by decide)).trans ((jx_cp0 h0 h1).trans ((jx_upc (by decide)).trans ((jx_cpc (by decide)).trans ((jx_cpc (by decide)).trans ((jx_cpc (by decide)).trans ((jx_cpc (by decide)).trans ((jx_cpc (by decide)).trans (jx_cpc (by decide))))))))))))
  · exact fun x h0 h1 => (jx_upc (by decide)).trans ((jx_upc (by decide)).trans ((jx_cpc (by decide)).trans ((jx_cp0 h0 h1).trans ((jx_cpc (by decide)).trans ((jx_upc (by decide)).trans ((jx_cpc (by decide)).trans ((jx_cpc (by decide)).trans ((jx_cpc (by decide)).trans ((jx_cpc (by decide)).trans ((jx_cpc (by decide)).trans (jx_cpc (by decide))))))))))))
  · exact fun x h0 h1 => (jx_upc (by decide)).trans ((jx_upc (by decide)).trans ((jx_cp0 h0 h1).trans ((jx_cpc (by decide)).trans ((jx_cpc (by decide)).trans ((jx_upc (by decide)).trans ((jx_cpc (by decide)).trans ((jx_cpc (by decide)).trans ((jx_cpc (by decide)).trans ((jx_cpc (by decide)).trans ((jx_cpc (by decide)).trans (jx_cpc (by decide))))))))))))
  · exact (jx_upc (by decide)).trans ((jx_upc (by decide)).trans ((jx_cpc (by decide)).trans ((jx_cpc (by decide)).trans ((jx_cpc (by decide)).trans (jx_ups)))))
  · exact (jx_upx (by decide)).trans ((jx_ups).trans ((jx_upc (by decide)).trans ((jx_cpc (by decide)).trans ((jx_cpc (by decide)).trans ((jx_cpc (by decide)).trans ((jx_cpc (by decide)).trans ((jx_cpc (by decide)).trans (jx_cpc (by decide)))))))))
  · exact (jx_ups).trans ((jx_upc (by decide)).trans ((jx_cpc (by decide)).trans ((jx_cpc (by decide)).trans ((jx_cpc (by decide)).trans ((jx_cpc (by decide)).trans ((jx_cpc (by decide)).trans (jx_cpc (by decide))))))))
set_option maxHeartbeats 4000000 in
theorem sp_M_copyFrom_b1 (d : Nat) (M : jxM) {K : jxK} (h : ∀ M', (∀ c x, (c < 4 ∨ 14 < c) → M' c x = M c x) → q_blk M' 4 M 28 → K none M') : jx_call jx_G1 jx_T (d + 3) 16 [.inr 4, .inr 28] M K := by
  intro X hX
  refine bk_M_copyFrom_b1_0 (d := d) hX M ?_
  intro X2 hX2
  refine bk_D_copyFrom_b1_0 (d := d) hX2 M ⟨rfl, h _ (fun c x hc => ?_) ⟨?_, ?_, ?_, ?_, ?_, ?_, ?_, ?_, ?_, ?_, ?_, ?_⟩⟩
  · exact (jx_upc (by omega)).trans ((jx_upc (by omega)).trans ((jx_cpc (by omega)).trans ((jx_cpc (by omega)).trans ((jx_cpc (by omega)).trans ((jx_upc (by omega)).trans ((jx_cpc (by omega)).trans ((jx_cpc (by omega)).trans ((jx_cpc (by omega)).trans ((jx_cpc (by omega)).trans ((jx_cpc (by omega)).trans (jx_cpc (by omega))))))))))))
  · exact fun x h0 h1 => (jx_upc (by decide)).trans ((jx_upc (by decide)).trans ((jx_cpc (by decide)).trans ((jx_cpc (by decide)).trans ((jx_cpc (by decide)).trans ((jx_upc (by decide)).trans ((jx_cpc (by decide)).trans ((jx_cpc (by decide)).trans ((jx_cpc (by decide)).trans ((jx_cpc (by decide)).trans ((jx_cpc (by decide)).trans (jx_cp0 h0 h1)))))))))))
  · exact fun x h0 h1 => (jx_upc (by decide)).trans ((jx_upc (by decide)).trans ((jx_cpc (by decide)).trans ((jx_cpc (by decide)).trans ((jx_cpc (by decide)).trans ((jx_upc (by decide)).trans ((jx_cpc (by decide)).trans ((jx_cpc (by decide)).trans ((jx_cpc (by decide)).trans ((jx_cpc (by decide)).trans ((jx_cp0 h0 h1).trans (jx_cpc (by decide))))))))))))
  · exact fun x h0 h1 => (jx_upc (by decide)).trans ((jx_upc (by decide)).trans ((jx_cpc (by decide)).trans ((jx_cpc (by decide)).trans ((jx_cpc (by decide)).trans ((jx_upc (by decide)).trans ((jx_cpc (by decide)).trans ((jx_cpc (by decide)).trans ((jx_cpc (by decide)).trans ((jx_cp0 h0 h1).trans ((jx_cpc (by decide)).trans (jx_cpc (by decide))))))))))))
  · exact fun x h0 h1 => (jx_upc (by decide)).trans ((jx_upc (by decide)).trans ((jx_cpc (by decide)).trans ((jx_cpc (by decide)).trans ((jx_cpc (by decide)).trans ((jx_upc (by decide)).trans ((jx_cpc (by decide)).trans ((jx_cpc (by decide)).trans ((jx_cp0 h0 h1).trans ((jx_cpc (by decide)).trans ((jx_cpc (by decide)).trans (jx_cpc (by decide))))))))))))
  · exact fun x h0 h1 => (jx_upc (by decide)).trans ((jx_upc (by decide)).trans ((jx_cpc (by decide)).trans ((jx_cpc (by decide)).trans ((jx_cpc (by decide)).trans ((jx_upc (by decide)).trans ((jx_cpc (by decide)).trans ((jx_cp0 h0 h1).trans ((jx_cpc (by decide)).trans ((jx_cpc (by decide)).trans ((jx_cpc (by decide)).trans (jx_cpc (by decide))))))))))))
  · exact fun x h0 h1 => (jx_upc (by decide)).trans ((jx_upc (by decide)).trans ((jx_cpc (by decide)).trans ((jx_cpc (by decide)).trans ((jx_cpc (by decide)).trans ((jx_upc (by decide)).trans ((jx_cp0 h0 h1).trans ((jx_cpc (by decide)).trans ((jx_cpc (by decide)).trans ((jx_cpc (by decide)).trans ((jx_cpc (by decide)).trans (jx_cpc (by decide))))))))))))
  · exact fun x h0 h1 => (jx_upc (by decide)).trans ((jx_upc (by decide)).trans ((jx_cpc (by decide)).trans ((jx_cpc (by decide)).trans ((jx_cp0 h0 h1).trans ((jx_upc (by decide)).trans ((jx_cpc (by decide)).trans ((jx_cpc (by decide)).trans ((jx_cpc (by decide)).trans ((jx_cpc (by decide)).trans ((jx_cpc (by decide)).trans (jx_cpc (by decide))))))))))))
  · exact fun x h0 h1 => (jx_upc (by decide)).trans ((jx_upc (by decide)).trans ((jx_cpc (by decide)).trans ((jx_cp0 h0 h1).trans ((jx_cpc (by decide)).trans ((jx_upc (by decide)).trans ((jx_cpc (by decide)).trans ((jx_cpc (by decide)).trans ((jx_cpc (by decide)).trans ((jx_cpc (by decide)).trans ((jx_cpc (by decide)).trans (jx_cpc (by decide))))))))))))
  · exact fun x h0 h1 => (jx_upc (by decide)).trans ((jx_upc (by decide)).trans ((jx_cp0 h0 h1).trans ((jx_cpc (by decide)).trans ((jx_cpc (by decide)).trans ((jx_upc (by decide)).trans ((jx_cpc (by decide)).trans ((jx_cpc (by decide)).trans ((jx_cpc (by decide)).trans ((jx_cpc (by decide)).trans ((jx_cpc (by decide)).trans (jx_cpc (by decide))))))))))))
  · exact (jx_upc (by decide)).trans ((jx_upc (by decide)).trans ((jx_cpc (by decide)).trans ((jx_cpc (by decide)).trans ((jx_cpc (by decide)).trans (jx_ups)))))
  · exact (jx_upx (by decide)).trans ((jx_ups).trans ((jx_upc (by decide)).trans ((jx_cpc (by decide)).trans ((jx_cpc (by decide)).trans ((jx_cpc (by decide)).trans ((jx_cpc (by decide)).trans ((jx_cpc (by decide)).trans (jx_cpc (by decide)))))))))
  · exact (jx_ups).trans ((jx_upc (by decide)).trans ((jx_cpc (by decide)).trans ((jx_cpc (by decide)).trans ((jx_cpc (by decide)).trans ((jx_cpc (by decide)).trans ((jx_cpc (by decide)).trans (jx_cpc (by decide))))))))
set_option maxHeartbeats 4000000 in
theorem sp_M_copyFrom_k2 (d : Nat) (M : jxM) {K : jxK} (h : ∀ M', (∀ c x, (c < 39 ∨ 49 < c) → M' c x = M c x) → q_blk M' 39 M 4 → K none M') : jx_call jx_G1 jx_T (d + 3) 16 [.inr 39, .inr 4] M K := by
  intro X hX
  refine bk_M_copyFrom_k2_0 (d := d) hX M ?_
  intro X2 hX2
  refine bk_D_copyFrom_k2_0 (d := d) hX2 M ⟨rfl, h _ (fun c x hc => ?_) ⟨?_, ?_, ?_, ?_, ?_, ?_, ?_, ?_, ?_, ?_, ?_, ?_⟩⟩
  · exact (jx_upc (by omega)).trans ((jx_upc (by omega)).trans ((jx_cpc (by omega)).trans ((jx_cpc (by omega)).trans ((jx_cpc (by omega)).trans ((jx_upc (by omega)).trans ((jx_cpc (by omega)).trans ((jx_cpc (by omega)).trans ((jx_cpc (by omega)).trans ((jx_cpc (by omega)).trans ((jx_cpc (by omega)).trans (jx_cpc (by omega))))))))))))
  · exact fun x h0 h1 => (jx_upc (by decide)).trans ((jx_upc (by decide)).trans ((jx_cpc (by decide)).trans ((jx_cpc (by decide)).trans ((jx_cpc (by decide)).trans ((jx_upc (by decide)).trans ((jx_cpc (by decide)).trans ((jx_cpc (by decide)).trans ((jx_cpc (by decide)).trans ((jx_cpc (by decide)).trans ((jx_cpc (by decide)).trans (jx_cp0 h0 h1)))))))))))
  · exact fun x h0 h1 => (jx_upc (by decide)).trans ((jx_upc (by decide)).trans ((jx_cpc (by decide)).trans ((jx_cpc (by decide)).trans ((jx_cpc (by decide)).trans ((jx_upc (by decide)).trans ((jx_cpc (by decide)).trans ((jx_cpc (by decide)).trans ((jx_cpc (by decide)).trans ((jx_cpc (by decide)).trans ((jx_cp0 h0 h1).trans (jx_cpc (by decide))))))))))))
  · exact fun x h0 h1 => (jx_upc (by decide)).trans ((jx_upc (by decide)).trans ((jx_cpc (by decide)).trans ((jx_cpc (by decide)).trans ((jx_cpc (by decide)).trans ((jx_upc (by decide)).trans ((jx_cpc (by decide)).trans ((jx_cpc (by decide)).trans ((jx_cpc (by decide)).trans ((jx_cp0 h0 h1).trans ((jx_cpc (by decide)).trans (jx_cpc (by decide))))))))))))
  · exact fun x h0 h1 => (jx_upc (by decide)).trans ((jx_upc (by decide)).trans ((jx_cpc (by decide)).trans ((jx_cpc (by decide)).trans ((jx_cpc (by decide)).trans ((jx_upc (by decide)).trans ((jx_cpc (by decide)).trans ((jx_cpc (by decide)).trans ((jx_cp0 h0 h1).trans ((jx_cpc (by decide)).trans ((jx_cpc (by decide)).trans (jx_cpc (by decide))))))))))))
  · exact fun x h0 h1 => (jx_upc (by decide)).trans ((jx_upc (by decide)).trans ((jx_cpc (by decide)).trans ((jx_cpc (by decide)).trans ((jx_cpc (by decide)).trans ((jx_upc (by decide)).trans ((jx_cpc (by decide)).trans ((jx_cp0 h0 h1).trans ((jx_cpc (by decide)).trans ((jx_cpc (by decide)).trans ((jx_cpc (by decide)).trans (jx_cpc (by decide))))))))))))
  · exact fun x h0 h1 => (jx_upc (by decide)).trans ((jx_upc (by decide)).trans ((jx_cpc (by decide)).trans ((jx_cpc (by decide)).trans ((jx_cpc (by decide)).trans ((jx_upc (by decide)).trans ((jx_cp0 h0 h1).trans ((jx_cpc (by decide)).trans ((jx_cpc (by decide)).trans ((jx_cpc (by decide)).trans ((jx_cpc (by decide)).trans (jx_cpc (by decide))))))))))))
  · exact fun x h0 h1 => (jx_upc (by decide)).trans ((jx_upc (by decide)).trans ((jx_cpc (by decide)).trans ((jx_cpc (by decide)).trans ((jx_cp0 h0 h1).trans ((jx_upc (by decide)).trans ((jx_cpc (by decide)).trans ((jx_cpc (by decide)).trans ((jx_cpc (by decide)).trans ((jx_cpc (by decide)).trans ((jx_cpc (by decide)).trans (jx_cpc (by decide))))))))))))
  · exact fun x h0 h1 => (jx_upc (by decide)).trans ((jx_upc (by decide)).trans ((jx_cpc (by decide)).trans ((jx_cp0 h0 h1).trans ((jx_cpc (by decide)).trans ((jx_upc (by decide)).trans ((jx_cpc (by decide)).trans ((jx_cpc (by decide)).trans ((jx_cpc (by decide)).trans ((jx_cpc (by decide)).trans ((jx_cpc (by decide)).trans (jx_cpc (by decide))))))))))))
  · exact fun x h0 h1 => (jx_upc (by decide)).trans ((jx_upc (by decide)).trans ((jx_cp0 h0 h1).trans ((jx_cpc (by decide)).trans ((jx_cpc (by decide)).trans ((jx_upc (by decide)).trans ((jx_cpc (by decide)).trans ((jx_cpc (by decide)).trans ((jx_cpc (by decide)).trans ((jx_cpc (by decide)).trans ((jx_cpc (by decide)).trans (jx_cpc (by decide))))))))))))
  · exact (jx_upc (by decide)).trans ((jx_upc (by decide)).trans ((jx_cpc (by decide)).trans ((jx_cpc (by decide)).trans ((jx_cpc (by decide)).trans (jx_ups)))))
  · exact (jx_upx (by decide)).trans ((jx_ups).trans ((jx_upc (by decide)).trans ((jx_cpc (by decide)).trans ((jx_cpc (by decide)).trans ((jx_cpc (by decide)).trans ((jx_cpc (by decide)).trans ((jx_cpc (by decide)).trans (jx_cpc (by decide)))))))))
  · exact (jx_ups).trans ((jx_upc (by decide)).trans ((jx_cpc (by decide)).trans ((jx_cpc (by decide)).trans ((jx_cpc (by decide)).trans ((jx_cpc (by decide)).trans ((jx_cpc (by decide)).trans (jx_cpc (by decide))))))))
set_option maxHeartbeats 4000000 in
theorem sp_M_copyFrom_b2 (d : Nat) (M : jxM) {K : jxK} (h : ∀ M', (∀ c x, (c < 4 ∨ 14 < c) → M' c x = M c x) → q_blk M' 4 M 39 → K none M') : jx_call jx_G1 jx_T (d + 3) 16 [.inr 4, .inr 39] M K := by
  intro X hX
  refine bk_M_copyFrom_b2_0 (d := d) hX M ?_
  intro X2 hX2
  refine bk_D_copyFrom_b2_0 (d := d) hX2 M ⟨rfl, h _ (fun c x hc => ?_) ⟨?_, ?_, ?_, ?_, ?_, ?_, ?_, ?_, ?_, ?_, ?_, ?_⟩⟩
  · exact (jx_upc (by omega)).trans ((jx_upc (by omega)).trans ((jx_cpc (by omega)).trans ((jx_cpc (by omega)).trans ((jx_cpc (by omega)).trans ((jx_upc (by omega)).trans ((jx_cpc (by omega)).trans ((jx_cpc (by omega)).trans ((jx_cpc (by omega)).trans ((jx_cpc (by omega)).trans ((jx_cpc (by omega)).trans (jx_cpc (by omega))))))))))))
  · exact fun x h0 h1 => (jx_upc (by decide)).trans ((jx_upc (by decide)).trans ((jx_cpc (by decide)).trans ((jx_cpc (by decide)).trans ((jx_cpc (by decide)).trans ((jx_upc (by decide)).trans ((jx_cpc (by decide)).trans ((jx_cpc (by decide)).trans ((jx_cpc (by decide)).trans ((jx_cpc (by decide)).trans ((jx_cpc (by decide)).trans (jx_cp0 h0 h1)))))))))))
  · exact fun x h0 h1 => (jx_upc (by decide)).trans ((jx_upc (by decide)).trans ((jx_cpc (by decide)).trans ((jx_cpc (by decide)).trans ((jx_cpc (by decide)).trans ((jx_upc (by decide)).trans ((jx_cpc (by decide)).trans ((jx_cpc (by decide)).trans ((jx_cpc (by decide)).trans ((jx_cpc (by decide)).trans ((jx_cp0 h0 h1).trans (jx_cpc (by decide))))))))))))
  · exact fun x h0 h1 => (jx_upc (by decide)).trans ((jx_upc (by decide)).trans ((jx_cpc (by decide)).trans ((jx_cpc (by decide)).trans ((jx_cpc (by decide)).trans ((jx_upc (by decide)).trans ((jx_cpc (by decide)).trans ((jx_cpc (by decide)).trans ((jx_cpc (by decide)).trans ((jx_cp0 h0 h1).trans ((jx_cpc (by decide)).trans (jx_cpc (by decide))))))))))))
  · exact fun x h0 h1 => (jx_upc (by decide)).trans ((jx_upc (by decide)).trans ((jx_cpc (by decide)).trans ((jx_cpc (by decide)).trans ((jx_cpc (by decide)).trans ((jx_upc (by decide)).trans ((jx_cpc (by decide)).trans ((jx_cpc (by decide)).trans ((jx_cp0 h0 h1).trans ((jx_cpc (by decide)).trans ((jx_cpc (by decide)).trans (jx_cpc (by decide))))))))))))
  · exact fun x h0 h1 => (jx_upc (by decide)).trans ((jx_upc (by decide)).trans ((jx_cpc (by decide)).trans ((jx_cpc (by decide)).trans ((jx_cpc (by decide)).trans ((jx_upc (by decide)).trans ((jx_cpc (by decide)).trans ((jx_cp0 h0 h1).trans ((jx_cpc (by decide)).trans ((jx_cpc (by decide)).trans ((jx_cpc (by decide)).trans (jx_cpc (by decide))))))))))))
  · exact fun x h0 h1 => (jx_upc (by decide)).trans ((jx_upc (by decide)).trans ((jx_cpc (by decide)).trans ((jx_cpc (by decide)).trans ((jx_cpc (by decide)).trans ((jx_upc (by decide)).trans ((jx_cp0 h0 h1).trans ((jx_cpc (by decide)).trans ((jx_cpc (by decide)).trans ((jx_cpc (by decide)).trans ((jx_cpc (by decide)).trans (jx_cpc (by decide))))))))))))
  · exact fun x h0 h1 => (jx_upc (by decide)).trans ((jx_upc (by decide)).trans ((jx_cpc (by decide)).trans ((jx_cpc (by decide)).trans ((jx_cp0 h0 h1).trans ((jx_upc (by decide)).trans ((jx_cpc (by decide)).trans ((jx_cpc (by decide)).trans ((jx_cpc (by decide)).trans ((jx_cpc (by decide)).trans ((jx_cpc (by decide)).trans (jx_cpc (by decide))))))))))))
  · exact fun x h0 h1 => (jx_upc (by decide)).trans ((jx_upc (by decide)).trans ((jx_cpc (by decide)).trans ((jx_cp0 h0 h1).trans ((jx_cpc (by decide)).trans ((jx_upc (by decide)).trans ((jx_cpc (by decide)).trans ((jx_cpc (by decide)).trans ((jx_cpc (by decide)).trans ((jx_cpc (by decide)).trans ((jx_cpc (by decide)).trans (jx_cpc (by decide))))))))))))
  · exact fun x h0 h1 => (jx_upc (by decide)).trans ((jx_upc (by decide)).trans ((jx_cp0 h0 h1).trans ((jx_cpc (by decide)).trans ((jx_cpc (by decide)).trans ((jx_upc (by decide)).trans ((jx_cpc (by decide)).trans ((jx_cpc (by decide)).trans ((jx_cpc (by decide)).trans ((jx_cpc (by decide)).trans ((jx_cpc (by decide)).trans (jx_cpc (by decide))))))))))))
  · exact (jx_upc (by decide)).trans ((jx_upc (by decide)).trans ((jx_cpc (by decide)).trans ((jx_cpc (by decide)).trans ((jx_cpc (by decide)).trans (jx_ups)))))
  · exact (jx_upx (by decide)).trans ((jx_ups).trans ((jx_upc (by decide)).trans ((jx_cpc (by decide)).trans ((jx_cpc (by decide)).trans ((jx_cpc (by decide)).trans ((jx_cpc (by decide)).trans ((jx_cpc (by decide)).trans (jx_cpc (by decide)))))))))
  · exact (jx_ups).trans ((jx_upc (by decide)).trans ((jx_cpc (by decide)).trans ((jx_cpc (by decide)).trans ((jx_cpc (by decide)).trans ((jx_cpc (by decide)).trans ((jx_cpc (by decide)).trans (jx_cpc (by decide))))))))
set_option maxHeartbeats 4000000 in
theorem sp_M_copyFrom_k3 (d : Nat) (M : jxM) {K : jxK} (h : ∀ M', (∀ c x, (c < 50 ∨ 60 < c) → M' c x = M c x) → q_blk M' 50 M 4 → K none M') : jx_call jx_G1 jx_T (d + 3) 16 [.inr 50, .inr 4] M K := by
  intro X hX
  refine bk_M_copyFrom_k3_0 (d := d) hX M ?_
  intro X2 hX2
  refine bk_D_copyFrom_k3_0 (d := d) hX2 M ⟨rfl, h _ (fun c x hc => ?_) ⟨?_, ?_, ?_, ?_, ?_, ?_, ?_, ?_, ?_, ?_, ?_, ?_⟩⟩
  · exact (jx_upc (by omega)).trans ((jx_upc (by omega)).trans ((jx_cpc (by omega)).trans ((jx_cpc (by omega)).trans ((jx_cpc (by omega)).trans ((jx_upc (by omega)).trans ((jx_cpc (by omega)).trans ((jx_cpc (by omega)).trans ((jx_cpc (by omega)).trans ((jx_cpc (by omega)).trans ((jx_cpc (by omega)).trans (jx_cpc (by omega))))))))))))
  · exact fun x h0 h1 => (jx_upc (by decide)).trans ((jx_upc (by decide)).trans ((jx_cpc (by decide)).trans ((jx_cpc (by decide)).trans ((jx_cpc (by decide)).trans ((jx_upc (by decide)).trans ((jx_cpc (by decide)).trans ((jx_cpc (by decide)).trans ((jx_cpc (by decide)).trans ((jx_cpc (by decide)).trans ((jx_cpc (by decide)).trans (jx_cp0 h0 h1)))))))))))
  · exact fun x h0 h1 => (jx_upc (by decide)).trans ((jx_upc (by decide)).trans ((jx_cpc (by decide)).trans ((jx_cpc (by decide)).trans ((jx_cpc (by decide)).trans ((jx_upc (by decide)).trans ((jx_cpc (by decide)).trans ((jx_cpc (by decide)).trans ((jx_cpc (by decide)).trans ((jx_cpc (by decide)).trans ((jx_cp0 h0 h1).trans (jx_cpc (by decide))))))))))))
  · exact fun x h0 h1 => (jx_upc (by decide)).trans ((jx_upc (by decide)).trans ((jx_cpc (by decide)).trans ((jx_cpc (by decide)).trans ((jx_cpc (by decide)).trans ((jx_upc (by decide)).trans ((jx_cpc (by decide)).trans ((jx_cpc (by decide)).trans ((jx_cpc (by decide)).trans ((jx_cp0 h0 h1).trans ((jx_cpc (by decide)).trans (jx_cpc (by decide))))))))))))
  · exact fun x h0 h1 => (jx_upc (by decide)).trans ((jx_upc (by decide)).trans ((jx_cpc (by decide)).trans ((jx_cpc (by decide)).trans ((jx_cpc (by decide)).trans ((jx_upc (by decide)).trans ((jx_cpc (by decide)).trans ((jx_cpc (by decide)).trans ((jx_cp0 h0 h1).trans ((jx_cpc (by decide)).trans ((jx_cpc (by decide)).trans (jx_cpc (by decide))))))))))))
  · exact fun x h0 h1 => (jx_upc (by decide)).trans ((jx_upc (by decide)).trans ((jx_cpc (by decide)).trans ((jx_cpc (by decide)).trans ((jx_cpc (by decide)).trans ((jx_upc (by decide)).trans ((jx_cpc (by decide)).trans ((jx_cp0 h0 h1).trans ((jx_cpc (by decide)).trans ((jx_cpc (by decide)).trans ((jx_cpc (by decide)).trans (jx_cpc (by decide))))))))))))
  · exact fun x h0 h1 => (jx_upc (by decide)).trans ((jx_upc (by decide)).trans ((jx_cpc (by decide)).trans ((jx_cpc (by decide)).trans ((jx_cpc (by decide)).trans ((jx_upc (by decide)).trans ((jx_cp0 h0 h1).trans ((jx_cpc (by decide)).trans ((jx_cpc (by decide)).trans ((jx_cpc (by decide)).trans ((jx_cpc (by decide)).trans (jx_cpc (by decide))))))))))))
  · exact fun x h0 h1 => (jx_upc (by decide)).trans ((jx_upc (by decide)).trans ((jx_cpc (by decide)).trans ((jx_cpc (by decide)).trans ((jx_cp0 h0 h1).trans ((jx_upc (by decide)).trans ((jx_cpc (by decide)).trans ((jx_cpc (by decide)).trans ((jx_cpc (by decide)).trans ((jx_cpc (by decide)).trans ((jx_cpc (by decide)).trans (jx_cpc (by decide))))))))))))
  · exact fun x h0 h1 => (jx_upc (by decide)).trans ((jx_upc (by decide)).trans ((jx_cpc (by decide)).trans ((jx_cp0 h0 h1).trans ((jx_cpc (by decide)).trans ((jx_upc (by decide)).trans ((jx_cpc (by decide)).trans ((jx_cpc (by decide)).trans ((jx_cpc (by decide)).trans ((jx_cpc (by decide)).trans ((jx_cpc (by decide)).trans (jx_cpc (by decide))))))))))))
  · exact fun x h0 h1 => (jx_upc (by decide)).trans ((jx_upc (by decide)).trans ((jx_cp0 h0 h1).trans ((jx_cpc (by decide)).trans ((jx_cpc (by decide)).trans ((jx_upc (by decide)).trans ((jx_cpc (by decide)).trans ((jx_cpc (by decide)).trans ((jx_cpc (by decide)).trans ((jx_cpc (by decide)).trans ((jx_cpc (by decide)).trans (jx_cpc (by decide))))))))))))
  · exact (jx_upc (by decide)).trans ((jx_upc (by decide)).trans ((jx_cpc (by decide)).trans ((jx_cpc (by decide)).trans ((jx_cpc (by decide)).trans (jx_ups)))))
  · exact (jx_upx (by decide)).trans ((jx_ups).trans ((jx_upc (by decide)).trans ((jx_cpc (by decide)).trans ((jx_cpc (by decide)).trans ((jx_cpc (by decide)).trans ((jx_cpc (by decide)).trans ((jx_cpc (by decide)).trans (jx_cpc (by decide)))))))))
  · exact (jx_ups).trans ((jx_upc (by decide)).trans ((jx_cpc (by decide)).trans ((jx_cpc (by decide)).trans ((jx_cpc (by decide)).trans ((jx_cpc (by decide)).trans ((jx_cpc (by decide)).trans (jx_cpc (by decide))))))))
set_option maxHeartbeats 4000000 in
theorem sp_M_copyFrom_b3 (d : Nat) (M : jxM) {K : jxK} (h : ∀ M', (∀ c x, (c < 4 ∨ 14 < c) → M' c x = M c x) → q_blk M' 4 M 50 → K none M') : jx_call jx_G1 jx_T (d + 3) 16 [.inr 4, .inr 50] M K := by
  intro X hX
  refine bk_M_copyFrom_b3_0 (d := d) hX M ?_
  intro X2 hX2
  refine bk_D_copyFrom_b3_0 (d := d) hX2 M ⟨rfl, h _ (fun c x hc => ?_) ⟨?_, ?_, ?_, ?_, ?_, ?_, ?_, ?_, ?_, ?_, ?_, ?_⟩⟩
  · exact (jx_upc (by omega)).trans ((jx_upc (by omega)).trans ((jx_cpc (by omega)).trans ((jx_cpc (by omega)).trans ((jx_cpc (by omega)).trans ((jx_upc (by omega)).trans ((jx_cpc (by omega)).trans ((jx_cpc (by omega)).trans ((jx_cpc (by omega)).trans ((jx_cpc (by omega)).trans ((jx_cpc (by omega)).trans (jx_cpc (by omega))))))))))))
  · exact fun x h0 h1 => (jx_upc (by decide)).trans ((jx_upc (by decide)).trans ((jx_cpc (by decide)).trans ((jx_cpc (by decide)).trans ((jx_cpc (by decide)).trans ((jx_upc (by decide)).trans ((jx_cpc (by decide)).trans ((jx_cpc (by decide)).trans ((jx_cpc (by decide)).trans ((jx_cpc (by decide)).trans ((jx_cpc (by decide)).trans (jx_cp0 h0 h1)))))))))))
  · exact fun x h0 h1 => (jx_upc (by decide)).trans ((jx_upc (by decide)).trans ((jx_cpc (by decide)).trans ((jx_cpc (by decide)).trans ((jx_cpc (by decide)).trans ((jx_upc (by decide)).trans ((jx_cpc (by decide)).trans ((jx_cpc (by decide)).trans ((jx_cpc (by decide)).trans ((jx_cpc (by decide)).trans ((jx_cp0 h0 h1).trans (jx_cpc (by decide))))))))))))
  · exact fun x h0 h1 => (jx_upc (by decide)).trans ((jx_upc (by decide)).trans ((jx_cpc (by decide)).trans ((jx_cpc (by decide)).trans ((jx_cpc (by decide)).trans ((jx_upc (by decide)).trans ((jx_cpc (by decide)).trans ((jx_cpc (by decide)).trans ((jx_cpc (by decide)).trans ((jx_cp0 h0 h1).trans ((jx_cpc (by decide)).trans (jx_cpc (by decide))))))))))))
  · exact fun x h0 h1 => (jx_upc (by decide)).trans ((jx_upc (by decide)).trans ((jx_cpc (by decide)).trans ((jx_cpc (by decide)).trans ((jx_cpc (by decide)).trans ((jx_upc (by decide)).trans ((jx_cpc (by decide)).trans ((jx_cpc (by decide)).trans ((jx_cp0 h0 h1).trans ((jx_cpc (by decide)).trans ((jx_cpc (by decide)).trans (jx_cpc (by decide))))))))))))
  · exact fun x h0 h1 => (jx_upc (by decide)).trans ((jx_upc (by decide)).trans ((jx_cpc (by decide)).trans ((jx_cpc (by decide)).trans ((jx_cpc (by decide)).trans ((jx_upc (by decide)).trans ((jx_cpc (by decide)).trans ((jx_cp0 h0 h1).trans ((jx_cpc (by decide)).trans ((jx_cpc (by decide)).trans ((jx_cpc (by decide)).trans (jx_cpc (by decide))))))))))))
  · exact fun x h0 h1 => (jx_upc (by decide)).trans ((jx_upc (by decide)).trans ((jx_cpc (by decide)).trans ((jx_cpc (by decide)).trans ((jx_cpc (by decide)).trans ((jx_upc (by decide)).trans ((jx_cp0 h0 h1).trans ((jx_cpc (by decide)).trans ((jx_cpc (by decide)).trans ((jx_cpc (by decide)).trans ((jx_cpc (by decide)).trans (jx_cpc (by decide))))))))))))
  · exact fun x h0 h1 => (jx_upc (by decide)).trans ((jx_upc (by decide)).trans ((jx_cpc (by decide)).trans ((jx_cpc (by decide)).trans ((jx_cp0 h0 h1).trans ((jx_upc (by decide)).trans ((jx_cpc (by decide)).trans ((jx_cpc (by decide)).trans ((jx_cpc (by decide)).trans ((jx_cpc (by decide)).trans ((jx_cpc (by decide)).trans (jx_cpc (by decide))))))))))))
  · exact fun x h0 h1 => (jx_upc (by decide)).trans ((jx_upc (by decide)).trans ((jx_cpc (by decide)).trans ((jx_cp0 h0 h1).trans ((jx_cpc (by decide)).trans ((jx_upc (by decide)).trans ((jx_cpc (by decide)).trans ((jx_cpc (by decide)).trans ((jx_cpc (by decide)).trans ((jx_cpc (by decide)).trans ((jx_cpc (by decide)).trans (jx_cpc (by decide))))))))))))
  · exact fun x h0 h1 => (jx_upc (by decide)).trans ((jx_upc (by decide)).trans ((jx_cp0 h0 h1).trans ((jx_cpc (by decide)).trans ((jx_cpc (by decide)).trans ((jx_upc (by decide)).trans ((jx_cpc (by decide)).trans ((jx_cpc (by decide)).trans ((jx_cpc (by decide)).trans ((jx_cpc (by decide)).trans ((jx_cpc (by decide)).trans (jx_cpc (by decide))))))))))))
  · exact (jx_upc (by decide)).trans ((jx_upc (by decide)).trans ((jx_cpc (by decide)).trans ((jx_cpc (by decide)).trans ((jx_cpc (by decide)).trans (jx_ups)))))
  · exact (jx_upx (by decide)).trans ((jx_ups).trans ((jx_upc (by decide)).trans ((jx_cpc (by decide)).trans ((jx_cpc (by decide)).trans ((jx_cpc (by decide)).trans ((jx_cpc (by decide)).trans ((jx_cpc (by decide)).trans (jx_cpc (by decide)))))))))
  · exact (jx_ups).trans ((jx_upc (by decide)).trans ((jx_cpc (by decide)).trans ((jx_cpc (by decide)).trans ((jx_cpc (by decide)).trans ((jx_cpc (by decide)).trans ((jx_cpc (by decide)).trans (jx_cpc (by decide))))))))
set_option maxHeartbeats 4000000 in
theorem sp_M_copyFrom_k4 (d : Nat) (M : jxM) {K : jxK} (h : ∀ M', (∀ c x, (c < 61 ∨ 71 < c) → M' c x = M c x) → q_blk M' 61 M 4 → K none M') : jx_call jx_G1 jx_T (d + 3) 16 [.inr 61, .inr 4] M K := by
  intro X hX
  refine bk_M_copyFrom_k4_0 (d := d) hX M ?_
  intro X2 hX2
  refine bk_D_copyFrom_k4_0 (d := d) hX2 M ⟨rfl, h _ (fun c x hc => ?_) ⟨?_, ?_, ?_, ?_, ?_, ?_, ?_, ?_, ?_, ?_, ?_, ?_⟩⟩
  · exact (jx_upc (by omega)).trans ((jx_upc (by omega)).trans ((jx_cpc (by omega)).trans ((jx_cpc (by omega)).trans ((jx_cpc (by omega)).trans ((jx_upc (by omega)).trans ((jx_cpc (by omega)).trans ((jx_cpc (by omega)).trans ((jx_cpc (by omega)).trans ((jx_cpc (by omega)).trans ((jx_cpc (by omega)).trans (jx_cpc (by omega))))))))))))
  · exact fun x h0 h1 => (jx_upc (by decide)).trans ((jx_upc (by decide)).trans ((jx_cpc (by decide)).trans ((jx_cpc (by decide)).trans ((jx_cpc (by decide)).trans ((jx_upc (by decide)).trans ((jx_cpc (by decide)).trans ((jx_cpc (by decide)).trans ((jx_cpc (by decide)).trans ((jx_cpc (by decide)).trans ((jx_cpc (by decide)).trans (jx_cp0 h0 h1)))))))))))
  · exact fun x h0 h1 => (jx_upc (by decide)).trans ((jx_upc (by decide)).trans ((jx_cpc (by decide)).trans ((jx_cpc (by decide)).trans ((jx_cpc (by decide)).trans ((jx_upc (by decide)).trans ((jx_cpc (by decide)).trans ((jx_cpc (by decide)).trans ((jx_cpc (by decide)).trans ((jx_cpc (by decide)).trans ((jx_cp0 h0 h1).trans (jx_cpc (by decide))))))))))))
  · exact fun x h0 h1 => (jx_upc (by decide)).trans ((jx_upc (by decide)).trans ((jx_cpc (by decide)).trans ((jx_cpc (by decide)).trans ((jx_cpc (by decide)).trans ((jx_upc (by decide)).trans ((jx_cpc (by decide)).trans ((jx_cpc (by decide)).trans ((jx_cpc (by decide)).trans ((jx_cp0 h0 h1).trans ((jx_cpc (by decide)).trans (jx_cpc (by decide))))))))))))
  · exact fun x h0 h1 => (jx_upc (by decide)).trans ((jx_upc (by decide)).trans ((jx_cpc (by decide)).trans ((jx_cpc (by decide)).trans ((jx_cpc (by decide)).trans ((jx_upc (by decide)).trans ((jx_cpc (by decide)).trans ((jx_cpc (by decide)).trans ((jx_cp0 h0 h1).trans ((jx_cpc (by decide)).trans ((jx_cpc (by decide)).trans (jx_cpc (by decide))))))))))))
  · exact fun x h0 h1 => (jx_upc (by decide)).trans ((jx_upc (by decide)).trans ((jx_cpc (by decide)).trans ((jx_cpc (by decide)).trans ((jx_cpc (by decide)).trans ((jx_upc (by decide)).trans ((jx_cpc (by decide)).trans ((jx_cp0 h0 h1).trans ((jx_cpc (by decide)).trans ((jx_cpc (by decide)).trans ((jx_cpc (by decide)).trans (jx_cpc (by decide))))))))))))
  · exact fun x h0 h1 => (jx_upc (by decide)).trans ((jx_upc (by decide)).trans ((jx_cpc (by decide)).trans ((jx_cpc (by decide)).trans ((jx_cpc (by decide)).trans ((jx_upc (by decide)).trans ((jx_cp0 h0 h1).trans ((jx_cpc (by decide)).trans ((jx_cpc (by decide)).trans ((jx_cpc (by decide)).trans ((jx_cpc (by decide)).trans (jx_cpc (by decide))))))))))))
  · exact fun x h0 h1 => (jx_upc (by decide)).trans ((jx_upc (by decide)).trans ((jx_cpc (by decide)).trans ((jx_cpc (by decide)).trans ((jx_cp0 h0 h1).trans ((jx_upc (by decide)).trans ((jx_cpc (by decide)).trans ((jx_cpc (by decide)).trans ((jx_cpc (by decide)).trans ((jx_cpc (by decide)).trans ((jx_cpc (by decide)).trans (jx_cpc (by decide))))))))))))
  · exact fun x h0 h1 => (jx_upc (by decide)).trans ((jx_upc (by decide)).trans ((jx_cpc (by decide)).trans ((jx_cp0 h0 h1).trans ((jx_cpc (by decide)).trans ((jx_upc (by decide)).trans ((jx_cpc (by decide)).trans ((jx_cpc (by decide)).trans ((jx_cpc (by decide)).trans ((jx_cpc (by decide)).trans ((jx_cpc (by decide)).trans (jx_cpc (by decide))))))))))))
  · exact fun x h0 h1 => (jx_upc (by decide)).trans ((jx_upc (by decide)).trans ((jx_cp0 h0 h1).trans ((jx_cpc (by decide)).trans ((jx_cpc (by decide)).trans ((jx_upc (by decide)).trans ((jx_cpc (by decide)).trans ((jx_cpc (by decide)).trans ((jx_cpc (by decide)).trans ((jx_cpc (by decide)).trans ((jx_cpc (by decide)).trans (jx_cpc (by decide))))))))))))
  · exact (jx_upc (by decide)).trans ((jx_upc (by decide)).trans ((jx_cpc (by decide)).trans ((jx_cpc (by decide)).trans ((jx_cpc (by decide)).trans (jx_ups)))))
  · exact (jx_upx (by decide)).trans ((jx_ups).trans ((jx_upc (by decide)).trans ((jx_cpc (by decide)).trans ((jx_cpc (by decide)).trans ((jx_cpc (by decide)).trans ((jx_cpc (by decide)).trans ((jx_cpc (by decide)).trans (jx_cpc (by decide)))))))))
  · exact (jx_ups).trans ((jx_upc (by decide)).trans ((jx_cpc (by decide)).trans ((jx_cpc (by decide)).trans ((jx_cpc (by decide)).trans ((jx_cpc (by decide)).trans ((jx_cpc (by decide)).trans (jx_cpc (by decide))))))))
set_option maxHeartbeats 4000000 in
theorem sp_M_copyFrom_b4 (d : Nat) (M : jxM) {K : jxK} (h : ∀ M', (∀ c x, (c < 4 ∨ 14 < c) → M' c x = M c x) → q_blk M' 4 M 61 → K none M') : jx_call jx_G1 jx_T (d + 3) 16 [.inr 4, .inr 61] M K := by
  intro X hX
  refine bk_M_copyFrom_b4_0 (d := d) hX M ?_
  intro X2 hX2
  refine bk_D_copyFrom_b4_0 (d := d) hX2 M ⟨rfl, h _ (fun c x hc => ?_) ⟨?_, ?_, ?_, ?_, ?_, ?_, ?_, ?_, ?_, ?_, ?_, ?_⟩⟩
  · exact (jx_upc (by omega)).trans ((jx_upc (by omega)).trans ((jx_cpc (by omega)).trans ((jx_cpc (by omega)).trans ((jx_cpc (by omega)).trans ((jx_upc (by omega)).trans ((jx_cpc (by omega)).trans ((jx_cpc (by omega)).trans ((jx_cpc (by omega)).trans ((jx_cpc (by omega)).trans ((jx_cpc (by omega)).trans (jx_cpc (by omega))))))))))))
  · exact fun x h0 h1 => (jx_upc (by decide)).trans ((jx_upc (by decide)).trans ((jx_cpc (by decide)).trans ((jx_cpc (by decide)).trans ((jx_cpc (by decide)).trans ((jx_upc (by decide)).trans ((jx_cpc (by decide)).trans ((jx_cpc (by decide)).trans ((jx_cpc (by decide)).trans ((jx_cpc (by decide)).trans ((jx_cpc (by decide)).trans (jx_cp0 h0 h1)))))))))))
  · exact fun x h0 h1 => (jx_upc (by decide)).trans ((jx_upc (by decide)).trans ((jx_cpc (by decide)).trans ((jx_cpc (by decide)).trans ((jx_cpc (by decide)).trans ((jx_upc (by decide)).trans ((jx_cpc (by decide)).trans ((jx_cpc (by decide)).trans ((jx_cpc (by decide)).trans ((jx_cpc (by decide)).trans ((jx_cp0 h0 h1).trans (jx_cpc (by decide))))))))))))
  · exact fun x h0 h1 => (jx_upc (by decide)).trans ((jx_upc (by decide)).trans ((jx_cpc (by decide)).trans ((jx_cpc (by decide)).trans ((jx_cpc (by decide)).trans ((jx_upc (by decide)).trans ((jx_cpc (by decide)).trans ((jx_cpc (by decide)).trans ((jx_cpc (by decide)).trans ((jx_cp0 h0 h1).trans ((jx_cpc (by decide)).trans (jx_cpc (by decide))))))))))))
  · exact fun x h0 h1 => (jx_upc (by decide)).trans ((jx_upc (by decide)).trans ((jx_cpc (by decide)).trans ((jx_cpc (by decide)).trans ((jx_cpc (by decide)).trans ((jx_upc (by decide)).trans ((jx_cpc (by decide)).trans ((jx_cpc (by decide)).trans ((jx_cp0 h0 h1).trans ((jx_cpc (by decide)).trans ((jx_cpc (by decide)).trans (jx_cpc (by decide))))))))))))
  · exact fun x h0 h1 => (jx_upc (by decide)).trans ((jx_upc (by decide)).trans ((jx_cpc (by decide)).trans ((jx_cpc (by decide)).trans ((jx_cpc (by decide)).trans ((jx_upc (by decide)).trans ((jx_cpc (by decide)).trans ((jx_cp0 h0 h1).trans ((jx_cpc (by decide)).trans ((jx_cpc (by decide)).trans ((jx_cpc (by decide)).trans (jx_cpc (by decide))))))))))))
  · exact fun x h0 h1 => (jx_upc (by decide)).trans ((jx_upc (by decide)).trans ((jx_cpc (by decide)).trans ((jx_cpc (by decide)).trans ((jx_cpc (by decide)).trans ((jx_upc (by decide)).trans ((jx_cp0 h0 h1).trans ((jx_cpc (by decide)).trans ((jx_cpc (by decide)).trans ((jx_cpc (by decide)).trans ((jx_cpc (by decide)).trans (jx_cpc (by decide))))))))))))
  · exact fun x h0 h1 => (jx_upc (by decide)).trans ((jx_upc (by decide)).trans ((jx_cpc (by decide)).trans ((jx_cpc (by decide)).trans ((jx_cp0 h0 h1).trans ((jx_upc (by decide)).trans ((jx_cpc (by decide)).trans ((jx_cpc (by decide)).trans ((jx_cpc (by decide)).trans ((jx_cpc (by decide)).trans ((jx_cpc (by decide)).trans (jx_cpc (by decide))))))))))))
  · exact fun x h0 h1 => (jx_upc (by decide)).trans ((jx_upc (by decide)).trans ((jx_cpc (by decide)).trans ((jx_cp0 h0 h1).trans ((jx_cpc (by decide)).trans ((jx_upc (by decide)).trans ((jx_cpc (by decide)).trans ((jx_cpc (by decide)).trans ((jx_cpc (by decide)).trans ((jx_cpc (by decide)).trans ((jx_cpc (by decide)).trans (jx_cpc (by decide))))))))))))
  · exact fun x h0 h1 => (jx_upc (by decide)).trans ((jx_upc (by decide)).trans ((jx_cp0 h0 h1).trans ((jx_cpc (by decide)).trans ((jx_cpc (by decide)).trans ((jx_upc (by decide)).trans ((jx_cpc (by decide)).trans ((jx_cpc (by decide)).trans ((jx_cpc (by decide)).trans ((jx_cpc (by decide)).trans ((jx_cpc (by decide)).trans (jx_cpc (by decide))))))))))))
  · exact (jx_upc (by decide)).trans ((jx_upc (by decide)).trans ((jx_cpc (by decide)).trans ((jx_cpc (by decide)).trans ((jx_cpc (by decide)).trans (jx_ups)))))
  · exact (jx_upx (by decide)).trans ((jx_ups).trans ((jx_upc (by decide)).trans ((jx_cpc (by decide)).trans ((jx_cpc (by decide)).trans ((jx_cpc (by decide)).trans ((jx_cpc (by decide)).trans ((jx_cpc (by decide)).trans (jx_cpc (by decide)))))))))
  · exact (jx_ups).trans ((jx_upc (by decide)).trans ((jx_cpc (by decide)).trans ((jx_cpc (by decide)).trans ((jx_cpc (by decide)).trans ((jx_cpc (by decide)).trans ((jx_cpc (by decide)).trans (jx_cpc (by decide))))))))
set_option maxHeartbeats 4000000 in
theorem sp_M_copyFrom_k5 (d : Nat) (M : jxM) {K : jxK} (h : ∀ M', (∀ c x, (c < 72 ∨ 82 < c) → M' c x = M c x) → q_blk M' 72 M 4 → K none M') : jx_call jx_G1 jx_T (d + 3) 16 [.inr 72, .inr 4] M K := by
  intro X hX
  refine bk_M_copyFrom_k5_0 (d := d) hX M ?_
  intro X2 hX2
  refine bk_D_copyFrom_k5_0 (d := d) hX2 M ⟨rfl, h _ (fun c x hc => ?_) ⟨?_, ?_, ?_, ?_, ?_, ?_, ?_, ?_, ?_, ?_, ?_, ?_⟩⟩
  · exact (jx_upc (by omega)).trans ((jx_upc (by omega)).trans ((jx_cpc (by omega)).trans ((jx_cpc (by omega)).trans ((jx_cpc (by omega)).trans ((jx_upc (by omega)).trans ((jx_cpc (by omega)).trans ((jx_cpc (by omega)).trans ((jx_cpc (by omega)).trans ((jx_cpc (by omega)).trans ((jx_cpc (by omega)).trans (jx_cpc (by omega))))))))))))
  · exact fun x h0 h1 => (jx_upc (by decide)).trans ((jx_upc (by decide)).trans ((jx_cpc (by decide)).trans ((jx_cpc (by decide)).trans ((jx_cpc (by decide)).trans ((jx_upc (by decide)).trans ((jx_cpc (by decide)).trans ((jx_cpc (by decide)).trans ((jx_cpc (by decide)).trans ((jx_cpc (by decide)).trans ((jx_cpc (by decide)).trans (jx_cp0 h0 h1)))))))))))
  · exact fun x h0 h1 => (jx_upc (by decide)).trans ((jx_upc (by decide)).trans ((jx_cpc (by decide)).trans ((jx_cpc (by decide)).trans ((jx_cpc (by decide)).trans ((jx_upc (by decide)).trans ((jx_cpc (by decide)).trans ((jx_cpc (by decide)).trans ((jx_cpc (by decide)).trans ((jx_cpc (by decide)).trans ((jx_cp0 h0 h1).trans (jx_cpc (by decide))))))))))))
  · exact fun x h0 h1 => (jx_upc (by decide)).trans ((jx_upc (by decide)).trans ((jx_cpc (by decide)).trans ((jx_cpc (by decide)).trans ((jx_cpc (by decide)).trans ((jx_upc (by decide)).trans ((jx_cpc (by decide)).trans ((jx_cpc (by decide)).trans ((jx_cpc (by decide)).trans ((jx_cp0 h0 h1).trans ((jx_cpc (by decide)).trans (jx_cpc (by decide))))))))))))
  · exact fun x h0 h1 => (jx_upc (by decide)).trans ((jx_upc (by decide)).trans ((jx_cpc (by decide)).trans ((jx_cpc (by decide)).trans ((jx_cpc (by decide)).trans ((jx_upc (by decide)).trans ((jx_cpc (by decide)).trans ((jx_cpc (by decide)).trans ((jx_cp0 h0 h1).trans ((jx_cpc (by decide)).trans ((jx_cpc (by decide)).trans (jx_cpc (by decide))))))))))))
  · exact fun x h0 h1 => (jx_upc (by decide)).trans ((jx_upc (by decide)).trans ((jx_cpc (by decide)).trans ((jx_cpc (by decide)).trans ((jx_cpc (by decide)).trans ((jx_upc (by decide)).trans ((jx_cpc (by decide)).trans ((jx_cp0 h0 h1).trans ((jx_cpc (by decide)).trans ((jx_cpc (by decide)).trans ((jx_cpc (by decide)).trans (jx_cpc (by decide))))))))))))
  · exact fun x h0 h1 => (jx_upc (by decide)).trans ((jx_upc (by decide)).trans ((jx_cpc (by decide)).trans ((jx_cpc (by decide)).trans ((jx_cpc (by decide)).trans ((jx_upc (by decide)).trans ((jx_cp0 h0 h1).trans ((jx_cpc (by decide)).trans ((jx_cpc (by decide)).trans ((jx_cpc (by decide)).trans ((jx_cpc (by decide)).trans (jx_cpc (by decide))))))))))))
  · exact fun x h0 h1 => (jx_upc (by decide)).trans ((jx_upc (by decide)).trans ((jx_cpc (by decide)).trans ((jx_cpc (by decide)).trans ((jx_cp0 h0 h1).trans ((jx_upc (by decide)).trans ((jx_cpc (by decide)).trans ((jx_cpc (by decide)).trans ((jx_cpc (by decide)).trans ((jx_cpc (by decide)).trans ((jx_cpc (by decide)).trans (jx_cpc (by decide))))))))))))
  · exact fun x h0 h1 => (jx_upc (by decide)).trans ((jx_upc (by decide)).trans ((jx_cpc (by decide)).trans ((jx_cp0 h0 h1).trans ((jx_cpc (by decide)).trans ((jx_upc (by decide)).trans ((jx_cpc (by decide)).trans ((jx_cpc (by decide)).trans ((jx_cpc (by decide)).trans ((jx_cpc (by decide)).trans ((jx_cpc (by decide)).trans (jx_cpc (by decide))))))))))))
  · exact fun x h0 h1 => (jx_upc (by decide)).trans ((jx_upc (by decide)).trans ((jx_cp0 h0 h1).trans ((jx_cpc (by decide)).trans ((jx_cpc (by decide)).trans ((jx_upc (by decide)).trans ((jx_cpc (by decide)).trans ((jx_cpc (by decide)).trans ((jx_cpc (by decide)).trans ((jx_cpc (by decide)).trans ((jx_cpc (by decide)).trans (jx_cpc (by decide))))))))))))
  · exact (jx_upc (by decide)).trans ((jx_upc (by decide)).trans ((jx_cpc (by decide)).trans ((jx_cpc (by decide)).trans ((jx_cpc (by decide)).trans (jx_ups)))))
  · exact (jx_upx (by decide)).trans ((jx_ups).trans ((jx_upc (by decide)).trans ((jx_cpc (by decide)).trans ((jx_cpc (by decide)).trans ((jx_cpc (by decide)).trans ((jx_cpc (by decide)).trans ((jx_cpc (by decide)).trans (jx_cpc (by decide)))))))))
  · exact (jx_ups).trans ((jx_upc (by decide)).trans ((jx_cpc (by decide)).trans ((jx_cpc (by decide)).trans ((jx_cpc (by decide)).trans ((jx_cpc (by decide)).trans ((jx_cpc (by decide)).trans (jx_cpc (by decide))))))))
set_option maxHeartbeats 4000000 in
theorem sp_M_copyFrom_b5 (d : Nat) (M : jxM) {K : jxK} (h : ∀ M', (∀ c x, (c < 4 ∨ 14 < c) → M' c x = M c x) → q_blk M' 4 M 72 → K none M') : jx_call jx_G1 jx_T (d + 3) 16 [.inr 4, .inr 72] M K := by
  intro X hX
  refine bk_M_copyFrom_b5_0 (d := d) hX M ?_
  intro X2 hX2
  refine bk_D_copyFrom_b5_0 (d := d) hX2 M ⟨rfl, h _ (fun c x hc => ?_) ⟨?_, ?_, ?_, ?_, ?_, ?_, ?_, ?_, ?_, ?_, ?_, ?_⟩⟩
  · exact (jx_upc (by omega)).trans ((jx_upc (by omega)).trans ((jx_cpc (by omega)).trans ((jx_cpc (by omega)).trans ((jx_cpc (by omega)).trans ((jx_upc (by omega)).trans ((jx_cpc (by omega)).trans ((jx_cpc (by omega)).trans ((jx_cpc (by omega)).trans ((jx_cpc (by omega)).trans ((jx_cpc (by omega)).trans (jx_cpc (by omega))))))))))))
  · exact fun x h0 h1 => (jx_upc (by decide)).trans ((jx_upc (by decide)).trans ((jx_cpc (by decide)).trans ((jx_cpc (by decide)).trans ((jx_cpc (by decide)).trans ((jx_upc (by decide)).trans ((jx_cpc (by decide)).trans ((jx_cpc (by decide)).trans ((jx_cpc (by decide)).trans ((jx_cpc (by decide)).trans ((jx_cpc (by decide)).trans (jx_cp0 h0 h1)))))))))))
  · exact fun x h0 h1 => (jx_upc (by decide)).trans ((jx_upc (by decide)).trans ((jx_cpc (by decide)).trans ((jx_cpc (by decide)).trans ((jx_cpc (by decide)).trans ((jx_upc (by decide)).trans ((jx_cpc (by decide)).trans ((jx_cpc (by decide)).trans ((jx_cpc (by decide)).trans ((jx_cpc (by decide)).trans ((jx_cp0 h0 h1).trans (jx_cpc (by decide))))))))))))
  · exact fun x h0 h1 => (jx_upc (by decide)).trans ((jx_upc (by decide)).trans ((jx_cpc (by decide)).trans ((jx_cpc (by decide)).trans ((jx_cpc (by decide)).trans ((jx_upc (by decide)).trans ((jx_cpc (by decide)).trans ((jx_cpc (by decide)).trans ((jx_cpc (by decide)).trans ((jx_cp0 h0 h1).trans ((jx_cpc (by decide)).trans (jx_cpc (by decide))))))))))))
  · exact fun x h0 h1 => (jx_upc (by decide)).trans ((jx_upc (by decide)).trans ((jx_cpc (by decide)).trans ((jx_cpc (by decide)).trans ((jx_cpc (by decide)).trans ((jx_upc (by decide)).trans ((jx_cpc (by decide)).trans ((jx_cpc (by decide)).trans ((jx_cp0 h0 h1).trans ((jx_cpc (by decide)).trans ((jx_cpc (by decide)).trans (jx_cpc (by decide))))))))))))
  · exact fun x h0 h1 => (jx_upc (by decide)).trans ((jx_upc (by decide)).trans ((jx_cpc (by decide)).trans ((jx_cpc (by decide)).trans ((jx_cpc (by decide)).trans ((jx_upc (by decide)).trans ((jx_cpc (by decide)).trans ((jx_cp0 h0 h1).trans ((jx_cpc (by decide)).trans ((jx_cpc (by decide)).trans ((jx_cpc (by decide)).trans (jx_cpc (by decide))))))))))))
  · exact fun x h0 h1 => (jx_upc (by decide)).trans ((jx_upc (by decide)).trans ((jx_cpc (by decide)).trans ((jx_cpc (by decide)).trans ((jx_cpc (by decide)).trans ((jx_upc (by decide)).trans ((jx_cp0 h0 h1).trans ((jx_cpc (by decide)).trans ((jx_cpc (by decide)).trans ((jx_cpc (by decide)).trans ((jx_cpc (by decide)).trans (jx_cpc (by decide))))))))))))
  · exact fun x h0 h1 => (jx_upc (by decide)).trans ((jx_upc (by decide)).trans ((jx_cpc (by decide)).trans ((jx_cpc (by decide)).trans ((jx_cp0 h0 h1).trans ((jx_upc (by decide)).trans ((jx_cpc (by decide)).trans ((jx_cpc (by decide)).trans ((jx_cpc (by decide)).trans ((jx_cpc (by decide)).trans ((jx_cpc (by decide)).trans (jx_cpc (by decide))))))))))))
  · exact fun x h0 h1 => (jx_upc (by decide)).trans ((jx_upc (by decide)).trans ((jx_cpc (by decide)).trans ((jx_cp0 h0 h1).trans ((jx_cpc (by decide)).trans ((jx_upc (by decide)).trans ((jx_cpc (by decide)).trans ((jx_cpc (by decide)).trans ((jx_cpc (by decide)).trans ((jx_cpc (by decide)).trans ((jx_cpc (by decide)).trans (jx_cpc (by decide))))))))))))
  · exact fun x h0 h1 => (jx_upc (by decide)).trans ((jx_upc (by decide)).trans ((jx_cp0 h0 h1).trans ((jx_cpc (by decide)).trans ((jx_cpc (by decide)).trans ((jx_upc (by decide)).trans ((jx_cpc (by decide)).trans ((jx_cpc (by decide)).trans ((jx_cpc (by decide)).trans ((jx_cpc (by decide)).trans ((jx_cpc (by decide)).trans (jx_cpc (by decide))))))))))))
  · exact (jx_upc (by decide)).trans ((jx_upc (by decide)).trans ((jx_cpc (by decide)).trans ((jx_cpc (by decide)).trans ((jx_cpc (by decide)).trans (jx_ups)))))
  · exact (jx_upx (by decide)).trans ((jx_ups).trans ((jx_upc (by decide)).trans ((jx_cpc (by decide)).trans ((jx_cpc (by decide)).trans ((jx_cpc (by decide)).trans ((jx_cpc (by decide)).trans ((jx_cpc (by decide)).trans (jx_cpc (by decide)))))))))
  · exact (jx_ups).trans ((jx_upc (by decide)).trans ((jx_cpc (by decide)).trans ((jx_cpc (by decide)).trans ((jx_cpc (by decide)).trans ((jx_cpc (by decide)).trans ((jx_cpc (by decide)).trans (jx_cpc (by decide))))))))
/-- what an edit's beginning does to the class's memory -/
def q_edit (M M' : jxM) : Prop :=
  (∀ c x, (c ≤ 14 ∨ 83 ≤ c) → ¬ (c = 1 ∧ x = 5) → M' c x = M c x) ∧ M' 1 5 = 1 ∧ M' 15 1 = (if M 15 1 = 5 then 0 else M 15 1 + 1) ∧ M' 15 2 = min (M 15 2 + 1) 6 ∧ q_blk M' (17 + 11 * (M 15 1).toNat) M 4 ∧ (∀ c x, 17 ≤ c → c ≤ 82 → (c < 17 + 11 * (M 15 1).toNat ∨ 27 + 11 * (M 15 1).toNat < c) → M' c x = M c x)
set_option maxHeartbeats 4000000 in
theorem sp_C_beginEdit (d : Nat) (M : jxM) (h1 : (0 ≤ M 15 1 ∧ M 15 1 < 6) ∧ (0 ≤ M 15 2 ∧ M 15 2 ≤ 6)) {K : jxK} (h : ∀ M', q_edit M M' → K none M') : jx_call jx_G1 jx_T (d + 5) 72 [.inr 1] M K := by
  intro X hX
  refine bk_C_beginEdit_0 (d := d) hX M ?_
  intro X2 hX2
  have key : ∀ (j : Nat) (M2 : jxM), M 15 1 = j → j < 6 → (∀ c x, (c < 17 + 11 * j ∨ 17 + 11 * j + 10 < c) → M2 c x = M c x) → q_blk M2 (17 + 11 * j) M 4 → ∀ nx, nx = (if M 15 1 = 5 then 0 else M 15 1 + 1) → K none (jx_up (jx_up (jx_up M2 15 1 nx) 15 2 (min (M2 15 2 + 1) 6)) 1 5 1) := by
    intro j M2 hj hj6 hf hb nx hnx
    have hjt : (M 15 1).toNat = j := by omega
    refine h _ ⟨fun c x hc hn => ?_, jx_ups, ?_, ?_, ?_, fun c x c1 c2 c3 => ?_⟩
    · have e1 : jx_up (jx_up (jx_up M2 15 1 nx) 15 2 (min (M2 15 2 + 1) 6)) 1 5 1 c x = jx_up (jx_up M2 15 1 nx) 15 2 (min (M2 15 2 + 1) 6) c x := by
        by_cases z : c = 1
        · subst z; exact jx_upx (fun y => hn ⟨rfl, y⟩)
        · exact jx_upc z
      rw [e1, jx_upc (by omega), jx_upc (by omega)]
      exact hf c x (by omega)
    · rw [jx_upc (by decide), jx_upx (by decide), jx_ups, hnx]
    · rw [jx_upc (by decide), jx_ups, hf 15 2 (by omega)]
    · rw [hjt]
      have z : ∀ c x, 17 ≤ c → jx_up (jx_up (jx_up M2 15 1 nx) 15 2 (min (M2 15 2 + 1) 6)) 1 5 1 c x = M2 c x := fun c x hc => by rw [jx_upc (by omega), jx_upc (by omega), jx_upc (by omega)]
      obtain ⟨b1, b2, b3, b4, b5, b6, b7, b8, b9, b10, b11, b12⟩ := hb
      exact ⟨fun x x1 x2 => (z _ x (by omega)).trans (b1 x x1 x2), fun x x1 x2 => (z _ x (by omega)).trans (b2 x x1 x2), fun x x1 x2 => (z _ x (by omega)).trans (b3 x x1 x2), fun x x1 x2 => (z _ x (by omega)).trans (b4 x x1 x2), fun x x1 x2 => (z _ x (by omega)).trans (b5 x x1 x2), fun x x1 x2 => (z _ x (by omega)).trans (b6 x x1 x2), fun x x1 x2 => (z _ x (by omega)).trans (b7 x x1 x2), fun x x1 x2 => (z _ x (by omega)).trans (b8 x x1 x2), fun x x1 x2 => (z _ x (by omega)).trans (b9 x x1 x2), (z _ _ (by omega)).trans b10, (z _ _ (by omega)).trans b11, (z _ _ (by omega)).trans b12⟩
    · rw [hjt] at c3
      rw [jx_upc (by omega), jx_upc (by omega), jx_upc (by omega)]
      exact hf c x (by omega)
  have e15 : ∀ (j : Nat) (M2 : jxM), (∀ c x, (c < 17 + 11 * j ∨ 17 + 11 * j + 10 < c) → M2 c x = M c x) → M2 15 1 = M 15 1 ∧ M2 15 2 = M 15 2 := fun j M2 hf => ⟨hf 15 1 (by omega), hf 15 2 (by omega)⟩
  refine bk_H_keep_0 (d := d) hX2 M ⟨h1.1, fun q => ?_, fun q => ?_, fun q => ?_, fun q => ?_, fun q => ?_, fun q => ?_⟩
  · refine sp_M_copyFrom_k0 d M (fun M2 hf hb => ⟨rfl, fun z => ⟨?_, rfl, ?_⟩, fun z => ⟨?_, rfl, ?_⟩⟩)
    · have := e15 0 M2 hf
      omega
    · refine key 0 M2 q (by omega) hf hb _ ?_
      rw [(e15 0 M2 hf).1] at z ⊢
      rw [if_neg z]
    · have := e15 0 M2 hf
      omega
    · refine key 0 M2 q (by omega) hf hb _ ?_
      rw [(e15 0 M2 hf).1] at z
      rw [if_pos z]
  · refine sp_M_copyFrom_k1 d M (fun M2 hf hb => ⟨rfl, fun z => ⟨?_, rfl, ?_⟩, fun z => ⟨?_, rfl, ?_⟩⟩)
    · have := e15 1 M2 hf
      omega
    · refine key 1 M2 q (by omega) hf hb _ ?_
      rw [(e15 1 M2 hf).1] at z ⊢
      rw [if_neg z]
    · have := e15 1 M2 hf
      omega
    · refine key 1 M2 q (by omega) hf hb _ ?_
      rw [(e15 1 M2 hf).1] at z
      rw [if_pos z]
  · refine sp_M_copyFrom_k2 d M (fun M2 hf hb => ⟨rfl, fun z => ⟨?_, rfl, ?_⟩, fun z => ⟨?_, rfl, ?_⟩⟩)
    · have := e15 2 M2 hf
      omega
    · refine key 2 M2 q (by omega) hf hb _ ?_
      rw [(e15 2 M2 hf).1] at z ⊢
      rw [if_neg z]
    · have := e15 2 M2 hf
      omega
    · refine key 2 M2 q (by omega) hf hb _ ?_
      rw [(e15 2 M2 hf).1] at z
      rw [if_pos z]
  · refine sp_M_copyFrom_k3 d M (fun M2 hf hb => ⟨rfl, fun z => ⟨?_, rfl, ?_⟩, fun z => ⟨?_, rfl, ?_⟩⟩)
    · have := e15 3 M2 hf
      omega
    · refine key 3 M2 q (by omega) hf hb _ ?_
      rw [(e15 3 M2 hf).1] at z ⊢
      rw [if_neg z]
    · have := e15 3 M2 hf
      omega
    · refine key 3 M2 q (by omega) hf hb _ ?_
      rw [(e15 3 M2 hf).1] at z
      rw [if_pos z]
  · refine sp_M_copyFrom_k4 d M (fun M2 hf hb => ⟨rfl, fun z => ⟨?_, rfl, ?_⟩, fun z => ⟨?_, rfl, ?_⟩⟩)
    · have := e15 4 M2 hf
      omega
    · refine key 4 M2 q (by omega) hf hb _ ?_
      rw [(e15 4 M2 hf).1] at z ⊢
      rw [if_neg z]
    · have := e15 4 M2 hf
      omega
    · refine key 4 M2 q (by omega) hf hb _ ?_
      rw [(e15 4 M2 hf).1] at z
      rw [if_pos z]
  · refine sp_M_copyFrom_k5 d M (fun M2 hf hb => ⟨rfl, fun z => ⟨?_, rfl, ?_⟩, fun z => ⟨?_, rfl, ?_⟩⟩)
    · have := e15 5 M2 hf
      omega
    · refine key 5 M2 q (by omega) hf hb _ ?_
      rw [(e15 5 M2 hf).1] at z ⊢
      rw [if_neg z]
    · have := e15 5 M2 hf
      omega
    · refine key 5 M2 q (by omega) hf hb _ ?_
      rw [(e15 5 M2 hf).1] at z
      rw [if_pos z]
