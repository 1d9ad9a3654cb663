theorem jx_loop {σ : Type} (b : Int) (Inv : Int → σ → Prop) (P : Int → σ → Prop) (hs : ∀ i s, Inv i s → (∀ s', i < b → Inv (i + 1) s' → P (i + 1) s') → P i s) : ∀ i s, Inv i s → P i s := by
  have key : ∀ (n : Nat) (i : Int) (s : σ), (b - i).toNat < n → Inv i s → P i s := by
    intro n
    induction n with
    | zero => intro i s h; omega
    | succ n ih => exact fun i s h hi => hs i s hi (fun s' hb hi' => ih (i + 1) s' (by omega) hi')
  exact fun i s hi => key _ i s (Nat.lt_succ_self _) hi
/-- downwards to a bound -/
theorem jx_loopD {σ : Type} (b : Int) (Inv : Int → σ → Prop) (P : Int → σ → Prop) (hs : ∀ i s, Inv i s → (∀ s', b < i → Inv (i - 1) s' → P (i - 1) s') → P i s) : ∀ i s, Inv i s → P i s := by
  have key : ∀ (n : Nat) (i : Int) (s : σ), (i - b).toNat < n → Inv i s → P i s := by
    intro n
    induction n with
    | zero => intro i s h; omega
    | succ n ih => exact fun i s h hi => hs i s hi (fun s' hb hi' => ih (i - 1) s' (by omega) hi')
  exact fun i s hi => key _ i s (Nat.lt_succ_self _) hi
-- ===== the class =====
theorem sp_C_isOutside (d : Nat) (a b c : Int) (M : jxM) {K : jxK} (h : K (some (.inl (jx_b (a < b ∨ c < a)))) M) : jx_call jx_G1 jx_T (d + 1) 79 [.inl a, .inl b, .inl c] M K := by
  intro X hX
  refine bk_C_isOutside_0 (d := d) hX a b c M ⟨fun q => ?_, fun q => ⟨fun q2 => ?_, fun q2 => ?_⟩⟩
  · rw [jx_bt (Or.inl q)] at h; exact h
  · rw [jx_bf (by omega)] at h; exact h
  · rw [jx_bt (Or.inr q2)] at h; exact h
theorem sp_M_connection (d : Nat) (a b : Int) (M : jxM) (h1 : 0 ≤ a ∧ a ≤ 6 ∧ 0 ≤ b ∧ b ≤ 6) {K : jxK} (h : K (some (.inl (M 12 (a * 7 + b)))) M) : jx_call jx_G1 jx_T (d + 1) 18 [.inr 4, .inl a, .inl b] M K := by
  intro X hX
  exact bk_M_connection_0 (d := d) hX a b M ⟨by omega, h⟩
theorem sp_L_stateBehind (d : Nat) (a : Int) (M : jxM) (h1 : (0 ≤ a ∧ a < 357) ∧ (0 ≤ M 87 a ∧ M 87 a ≤ 16) ∧ (0 ≤ M 88 a ∧ M 88 a ≤ 6)) {K : jxK} (h : K (some (.inl (M 87 a * 7 + M 88 a))) M) : jx_call jx_G1 jx_T (d + 1) 15 [.inr 83, .inl a] M K := by
  intro X hX
  exact bk_L_stateBehind_0 (d := d) hX a M ⟨by omega, h⟩
/-- the head of a list -/
def r_from (M : jxM) (a : Int) : Int := if M 93 a ≤ 0 then 1000000 else M 94 (a * 20)
theorem sp_R_leastFrom (d : Nat) (a : Int) (M : jxM) (h1 : 0 ≤ a ∧ a < 119) {K : jxK} (h : K (some (.inl (r_from M a))) M) : jx_call jx_G1 jx_T (d + 1) 29 [.inr 90, .inl a] M K := by
  intro X hX
  unfold r_from at h
  refine bk_R_leastFrom_0 (d := d) hX a M ⟨h1, fun q => ?_, fun q => ⟨by omega, ?_⟩⟩
  · rw [if_pos q] at h; exact h
  · rw [if_neg (by omega)] at h; exact h
theorem sp_R_hasRank (d : Nat) (a : Int) (M : jxM) {K : jxK} (h : K (some (.inl (jx_b (a < M 93 6)))) M) : jx_call jx_G1 jx_T (d + 1) 35 [.inr 90, .inl a] M K := by
  intro X hX
  refine bk_R_hasRank_0 (d := d) hX a M ⟨fun q => ?_, fun q => ?_⟩
  · rw [jx_bf (by omega)] at h; exact h
  · rw [jx_bt q] at h; exact h
theorem sp_R_costAtRank (d : Nat) (a : Int) (M : jxM) (h1 : 0 ≤ a ∧ a < 20) {K : jxK} (h : K (some (.inl (M 94 (120 + a)))) M) : jx_call jx_G1 jx_T (d + 1) 36 [.inr 90, .inl a] M K := by
  intro X hX
  exact bk_R_costAtRank_0 (d := d) hX a M ⟨by omega, h⟩
theorem sp_R_allPaths (d : Nat) (M : jxM) {K : jxK} (h : K (some (.inl (M 99 0))) M) : jx_call jx_G1 jx_T (d + 1) 33 [.inr 90] M K := by
  intro X hX
  exact bk_R_allPaths_0 (d := d) hX M h
theorem sp_R_bestPaths (d : Nat) (M : jxM) {K : jxK} (h : K (some (.inl (M 92 6))) M) : jx_call jx_G1 jx_T (d + 1) 34 [.inr 90] M K := by
  intro X hX
  exact bk_R_bestPaths_0 (d := d) hX M h
/-- the text begins an entry's reading -/
def t_begins (M : jxM) (e : Int) : Prop := M 2 1 ≤ M 7 e ∧ ∀ i, 0 ≤ i → i < M 2 1 → M 6 (e * 6 + i) = M 3 i
theorem sp_D_beginsWith (d : Nat) (e : Int) (M : jxM) (h1 : (0 ≤ e ∧ e < 20) ∧ (0 ≤ M 2 1 ∧ M 2 1 ≤ 20) ∧ M 7 e ≤ 6) {K : jxK} (h : K (some (.inl (jx_b (t_begins M e)))) M) : jx_call jx_G1 jx_T (d + 1) 4 [.inr 5, .inl e, .inr 2] M K := by
  intro X hX
  refine bk_D_beginsWith_0 (d := d) hX e M ⟨h1.1, fun q => ?_, fun q => ?_⟩
  · refine jx_loop (σ := Unit) (M 2 1) (fun i _ => 0 ≤ i ∧ i ≤ M 2 1 ∧ ∀ j, 0 ≤ j → j < i → M 6 (e * 6 + j) = M 3 j) (fun i _ => X 11 [.inr 5, .inl e, .inr 2, .inl i] [] M) ?_ 0 () ⟨by omega, by omega, fun j _ _ => by omega⟩
    intro i _ ⟨i1, i2, i3⟩ ih
    refine bk_D_beginsWith_11 (d := d) hX e i M ⟨fun q2 => ?_, fun q2 => ⟨by omega, fun q3 => ⟨by omega, ih () q2 ⟨by omega, by omega, fun j j1 j2 => ?_⟩⟩, fun q3 => ?_⟩⟩
    · rw [jx_bt ⟨q, fun j j1 j2 => i3 j j1 (by omega)⟩] at h; exact h
    · rcases Int.lt_or_le j i with z | z
      · exact i3 j j1 z
      · obtain rfl : j = i := by omega
        exact q3
    · rw [jx_bf (fun z => q3 (z.2 i i1 q2))] at h; exact h
  · rw [jx_bf (fun z => by have := z.1; omega)] at h; exact h
/-- an entry's reading stands in the input -/
def m_stands (M : jxM) (e g : Int) : Prop := g + M 7 e ≤ M 4 5 ∧ ∀ i, 0 ≤ i → i < M 7 e → M 6 (e * 6 + i) = M 13 (g + i)
theorem sp_M_standsAt (d : Nat) (e g : Int) (M : jxM) (h1 : (0 ≤ e ∧ e < 20) ∧ (0 ≤ M 7 e ∧ M 7 e ≤ 6) ∧ M 4 5 ≤ 16 ∧ 0 ≤ g ∧ g ≤ 16) {K : jxK} (h : K (some (.inl (jx_b (m_stands M e g)))) M) : jx_call jx_G1 jx_T (d + 1) 19 [.inr 4, .inl e, .inl g] M K := by
  intro X hX
  refine bk_M_standsAt_0 (d := d) hX e g M ⟨by omega, fun q => ?_, fun q => ?_⟩
  · refine jx_loop (σ := Unit) (M 7 e) (fun i _ => 0 ≤ i ∧ i ≤ M 7 e ∧ ∀ j, 0 ≤ j → j < i → M 6 (e * 6 + j) = M 13 (g + j)) (fun i _ => X 16 [.inr 4, .inl e, .inl g, .inl (M 7 e), .inl i] [] M) ?_ 0 () ⟨by omega, by omega, fun j _ _ => by omega⟩
    intro i _ ⟨i1, i2, i3⟩ ih
    refine bk_M_standsAt_16 (d := d) hX e g (M 7 e) i M ⟨fun q2 => ?_, fun q2 => ⟨by omega, fun q3 => ⟨by omega, ih () q2 ⟨by omega, by omega, fun j j1 j2 => ?_⟩⟩, fun q3 => ?_⟩⟩
    · rw [jx_bt ⟨q, fun j j1 j2 => i3 j j1 (by omega)⟩] at h; exact h
    · rcases Int.lt_or_le j i with z | z
      · exact i3 j j1 z
      · obtain rfl : j = i := by omega
        exact q3
    · rw [jx_bf (fun z => q3 (z.2 i i1 q2))] at h; exact h
  · rw [jx_bf (fun z => by have := z.1; omega)] at h; exact h
def m_may (M : jxM) (a b : Int) : Prop := M 14 b ≠ 2 ∧ ∀ g, a < g → g < b → M 14 g ≠ 1
theorem sp_M_allowsSegment (d : Nat) (a b : Int) (M : jxM) (h1 : 0 ≤ a ∧ a ≤ 16 ∧ 0 ≤ b ∧ b ≤ 16) {K : jxK} (h : K (some (.inl (jx_b (m_may M a b)))) M) : jx_call jx_G1 jx_T (d + 1) 20 [.inr 4, .inl a, .inl b] M K := by
  intro X hX
  refine bk_M_allowsSegment_0 (d := d) hX a b M ⟨by omega, fun q => ⟨by omega, ?_⟩, fun q => ?_⟩
  · refine jx_loop (σ := Unit) b (fun i _ => a < i ∧ ∀ g, a < g → g < i → M 14 g ≠ 1) (fun i _ => X 12 [.inr 4, .inl a, .inl b, .inl i] [] M) ?_ (a + 1) () ⟨by omega, fun j _ _ => by omega⟩
    intro i _ ⟨i1, i3⟩ ih
    refine bk_M_allowsSegment_12 (d := d) hX a b i M ⟨fun q2 => ?_, fun q2 => ⟨by omega, fun q3 => ⟨by omega, ih () q2 ⟨by omega, fun j j1 j2 => ?_⟩⟩, fun q3 => ?_⟩⟩
    · rw [jx_bt ⟨q, fun j j1 j2 => i3 j j1 (by omega)⟩] at h; exact h
    · rcases Int.lt_or_le j i with z | z
      · exact i3 j j1 z
      · obtain rfl : j = i := by omega
        exact q3
    · rw [jx_bf (fun z => z.2 i i1 q2 q3)] at h; exact h
  · rw [jx_bf (fun z => z.1 q)] at h; exact h
def r_trail (M : jxM) (e : Int) : Prop := ∃ i, 0 ≤ i ∧ i < M 90 13 ∧ M 101 i = e
theorem sp_R_trailHolds (d : Nat) (e : Int) (M : jxM) (h1 : M 90 13 ≤ 16) {K : jxK} (h : K (some (.inl (jx_b (r_trail M e)))) M) : jx_call jx_G1 jx_T (d + 1) 38 [.inr 90, .inl e] M K := by
  intro X hX
  refine bk_R_trailHolds_0 (d := d) hX e M ?_
  refine jx_loop (σ := Unit) (M 90 13) (fun i _ => 0 ≤ i ∧ ∀ j, 0 ≤ j → j < i → M 101 j ≠ e) (fun i _ => X 2 [.inr 90, .inl e, .inl i] [] M) ?_ 0 () ⟨by omega, fun j _ _ => by omega⟩
  intro i _ ⟨i1, i3⟩ ih
  refine bk_R_trailHolds_2 (d := d) hX e i M ⟨fun q2 => ?_, fun q2 => ⟨by omega, fun q3 => ⟨by omega, ih () q2 ⟨by omega, fun j j1 j2 => ?_⟩⟩, fun q3 => ?_⟩⟩
  · rw [jx_bf (fun ⟨j, j1, j2, j3⟩ => i3 j j1 (by omega) j3)] at h; exact h
  · rcases Int.lt_or_le j i with z | z
    · exact i3 j j1 z
    · obtain rfl : j = i := by omega
      exact q3
  · rw [jx_bt ⟨i, i1, q2, q3⟩] at h; exact h
theorem sp_T_push (d : Nat) (a : Int) (M : jxM) (h1 : 0 ≤ M 2 1 ∧ M 2 1 < 20) {K : jxK} (h : K none (jx_up (jx_up M 3 (M 2 1) a) 2 1 (M 2 1 + 1))) : jx_call jx_G1 jx_T (d + 1) 43 [.inr 2, .inl a] M K := by
  intro X hX
  exact bk_T_push_0 (d := d) hX a M ⟨fun q => absurd q (by omega), fun q => ⟨by omega, h⟩⟩
/-- the sum of the first k values -/
def j_sum (f : Int → Int) : Nat → Int
  | 0 => 0
  | k + 1 => j_sum f k + f k
theorem j_sum_le {f : Int → Int} {B : Int} (k : Nat) (h : ∀ i, 0 ≤ i → i < (k : Int) → 0 ≤ f i ∧ f i ≤ B) : 0 ≤ j_sum f k ∧ j_sum f k ≤ k * B := by
  induction k with
  | zero => simp [j_sum]
  | succ k ih =>
    have h1 := ih (fun i i1 i2 => h i i1 (by omega))
    have h2 := h k (by omega) (by omega)
    simp only [j_sum]
    have : ((k + 1 : Nat) : Int) * B = k * B + B := by rw [Int.natCast_add, Int.add_mul]; simp
    omega
theorem sp_D_sumOfUses (d : Nat) (M : jxM) (h1 : (0 ≤ M 5 6 ∧ M 5 6 ≤ 20) ∧ ∀ e, 0 ≤ e → e < M 5 6 → 0 ≤ M 11 e ∧ M 11 e ≤ 9) {K : jxK} (h : K (some (.inl (j_sum (M 11) (M 5 6).toNat))) M) : jx_call jx_G1 jx_T (d + 1) 8 [.inr 5] M K := by
  intro X hX
  refine bk_D_sumOfUses_0 (d := d) hX M ?_
  refine jx_loop (σ := Int) (M 5 6) (fun i s => 0 ≤ i ∧ i ≤ M 5 6 ∧ s = j_sum (M 11) i.toNat) (fun i s => X 4 [.inr 5, .inl s, .inl i] [] M) ?_ 0 0 ⟨by omega, by omega, rfl⟩
  intro i s ⟨i1, i2, i3⟩ ih
  have hb := j_sum_le (f := M 11) (B := 9) i.toNat (fun j j1 j2 => h1.2 j j1 (by omega))
  refine bk_D_sumOfUses_4 (d := d) hX s i M ⟨fun q => ?_, fun q => ⟨?_, ih _ q ⟨by omega, by omega, ?_⟩⟩⟩
  · obtain rfl : i = M 5 6 := by omega
    rw [i3]; exact h
  · have := h1.2 i i1 q
    omega
  · rw [i3, show (i + 1).toNat = i.toNat + 1 by omega]
    simp only [j_sum]
    rw [show ((i.toNat : Nat) : Int) = i by omega]
theorem sp_D_learn (d : Nat) (e : Int) (M : jxM) (h1 : (0 ≤ e ∧ e < 20) ∧ 0 ≤ M 11 e) {K : jxK} (h : (M 11 e < 9 → K (some (.inl 1)) (jx_up M 11 e (M 11 e + 1))) ∧ (9 ≤ M 11 e → K (some (.inl 0)) M)) : jx_call jx_G1 jx_T (d + 1) 7 [.inr 5, .inl e] M K := by
  intro X hX
  exact bk_D_learn_0 (d := d) hX e M ⟨h1.1, fun q => ⟨by omega, h.1 q⟩, h.2⟩
theorem sp_D_presentCost (d : Nat) (e : Int) (M : jxM) (h1 : (0 ≤ e ∧ e < 20) ∧ (0 ≤ M 10 e ∧ M 10 e ≤ 99) ∧ (0 ≤ M 11 e ∧ M 11 e ≤ 9)) {K : jxK} (h : K (some (.inl (max 0 (M 10 e - 3 * M 11 e)))) M) : jx_call jx_G1 jx_T (d + 2) 6 [.inr 5, .inl e] M K := by
  intro X hX
  exact bk_D_presentCost_0 (d := d) hX e M ⟨by omega, h⟩
theorem sp_R_cappedSum (d : Nat) (a b : Int) (M : jxM) (h1 : 0 ≤ a ∧ a ≤ 1000000000 ∧ 0 ≤ b ∧ b ≤ 1000000000) {K : jxK} (h : K (some (.inl (min (a + b) 1000000000))) M) : jx_call jx_G1 jx_T (d + 2) 25 [.inl a, .inl b] M K := by
  intro X hX
  exact bk_R_cappedSum_0 (d := d) hX a b M ⟨by omega, h⟩
-- ===== the reference =====
theorem sp_F_in (d : Nat) (a b c : Int) (M : jxM) {K : jxK} (h : K (some (.inl (jx_b (b ≤ a ∧ a ≤ c)))) M) : jx_call jx_G2 jx_T (d + 1) 80 [.inl a, .inl b, .inl c] M K := by
  intro X hX
  refine bk_F_in_0 (d := d) hX a b c M ⟨fun q => ?_, fun q => ⟨fun q2 => ?_, fun q2 => ?_⟩⟩
  · rw [jx_bf (by omega)] at h; exact h
  · rw [jx_bf (by omega)] at h; exact h
  · rw [jx_bt (by omega)] at h; exact h
theorem sp_F_at (d : Nat) (a : Int) (M : jxM) (h1 : 0 ≤ a ∧ a ≤ 20) {K : jxK} (h : K (some (.inl (1 + 11 * a))) M) : jx_call jx_G2 jx_T (d + 1) 86 [.inl a] M K := by
  intro X hX
  exact bk_F_at_0 (d := d) hX a M ⟨by omega, h⟩
theorem sp_F_between (d : Nat) (a b : Int) (M : jxM) (h1 : 0 ≤ a ∧ a ≤ 6 ∧ 0 ≤ b ∧ b ≤ 6) {K : jxK} (h : K (some (.inl (M 2 (221 + 7 * a + b)))) M) : jx_call jx_G2 jx_T (d + 1) 110 [.inr 1, .inl a, .inl b] M K := by
  intro X hX
  exact bk_F_between_0 (d := d) hX a b M ⟨by omega, h⟩
theorem sp_F_capped (d : Nat) (a b : Int) (M : jxM) (h1 : 0 ≤ a ∧ a ≤ 1000000000 ∧ 0 ≤ b ∧ b ≤ 1000000000) {K : jxK} (h : K (some (.inl (min (a + b) 1000000000))) M) : jx_call jx_G2 jx_T (d + 1) 111 [.inl a, .inl b] M K := by
  intro X hX
  refine bk_F_capped_0 (d := d) hX a b M ⟨by omega, fun q => ⟨by omega, ?_⟩, fun q => ?_⟩
  · rw [show min (a + b) 1000000000 = a + b by omega] at h; exact h
  · rw [show min (a + b) 1000000000 = 1000000000 by omega] at h; exact h
