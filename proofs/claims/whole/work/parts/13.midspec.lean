theorem sp_C_isNoEntry (d : Nat) (a : Int) (M : jxM) (h1 : 0 ≤ M 5 6 ∧ M 5 6 ≤ 20) {K : jxK} (h : K (some (.inl (jx_b (a < 0 ∨ M 5 6 ≤ a)))) M) : jx_call jx_G1 jx_T (d + 2) 75 [.inr 1, .inl a] M K := by
  intro X hX
  refine bk_C_isNoEntry_0 (d := d) hX a M ⟨by omega, ?_⟩
  rw [jx_bc (show (a < 0 ∨ M 5 6 - 1 < a) ↔ (a < 0 ∨ M 5 6 ≤ a) by omega)]
  exact h
theorem sp_C_isNoGap (d : Nat) (a : Int) (M : jxM) {K : jxK} (h : K (some (.inl (jx_b (a < 0 ∨ M 4 5 < a)))) M) : jx_call jx_G1 jx_T (d + 2) 76 [.inr 1, .inl a] M K := by
  intro X hX
  exact bk_C_isNoGap_0 (d := d) hX a M h
theorem sp_C_isNoInnerGap (d : Nat) (a : Int) (M : jxM) (h1 : 0 ≤ M 4 5 ∧ M 4 5 ≤ 16) {K : jxK} (h : K (some (.inl (jx_b (a < 1 ∨ M 4 5 - 1 < a)))) M) : jx_call jx_G1 jx_T (d + 2) 77 [.inr 1, .inl a] M K := by
  intro X hX
  exact bk_C_isNoInnerGap_0 (d := d) hX a M ⟨by omega, h⟩
theorem sp_C_isNoRank (d : Nat) (a : Int) (M : jxM) {K : jxK} (h : K (some (.inl (jx_b (a < 0 ∨ 19 < a)))) M) : jx_call jx_G1 jx_T (d + 2) 78 [.inl a] M K := by
  intro X hX
  exact bk_C_isNoRank_0 (d := d) hX a M h
/-- the first place below k, from i on, that is no letter or lies at the limit; none: no -/
def t_err (f : Int → Int) (lim no i : Int) : Nat → Int
  | 0 => no
  | k + 1 => if lim ≤ i ∨ f i < 97 ∨ 122 < f i then i else t_err f lim no (i + 1) k
theorem sp_T_firstError (d : Nat) (a : Int) (M : jxM) (h1 : 0 ≤ M 2 1 ∧ M 2 1 ≤ 20) {K : jxK} (h : K (some (.inl (t_err (M 3) a (-1) 0 (M 2 1).toNat))) M) : jx_call jx_G1 jx_T (d + 2) 45 [.inr 2, .inl a] M K := by
  intro X hX
  refine bk_T_firstError_0 (d := d) hX a M ?_
  refine jx_loop (σ := Unit) (M 2 1) (fun i _ => 0 ≤ i ∧ i ≤ M 2 1 ∧ t_err (M 3) a (-1) 0 (M 2 1).toNat = t_err (M 3) a (-1) i (M 2 1 - i).toNat) (fun i _ => X 2 [.inr 2, .inl a, .inl i] [] M) ?_ 0 () ⟨by omega, by omega, by simp⟩
  intro i _ ⟨i1, i2, i3⟩ ih
  rw [i3] at h
  refine bk_T_firstError_2 (d := d) hX a i M ⟨fun q => ?_, fun q => ⟨fun q2 => ?_, fun q2 => ⟨by omega, fun q3 => ⟨by omega, ih () q ⟨by omega, by omega, ?_⟩⟩, fun q3 => ?_⟩⟩⟩
  · rw [show (M 2 1 - i).toNat = 0 by omega] at h; exact h
  · rw [show (M 2 1 - i).toNat = (M 2 1 - (i + 1)).toNat + 1 by omega, t_err, if_pos (Or.inl q2)] at h; exact h
  · rw [i3, show (M 2 1 - i).toNat = (M 2 1 - (i + 1)).toNat + 1 by omega, t_err, if_neg (by omega)]
  · rw [show (M 2 1 - i).toNat = (M 2 1 - (i + 1)).toNat + 1 by omega, t_err, if_pos (Or.inr q3)] at h; exact h
def d_holds (M : jxM) (w c : Int) : Prop := ∃ e, 0 ≤ e ∧ e < M 5 6 ∧ M 8 e = w ∧ M 9 e = c ∧ M 7 e = M 2 1 ∧ t_begins M e
theorem sp_D_holds (d : Nat) (w c : Int) (M : jxM) (h1 : (0 ≤ M 5 6 ∧ M 5 6 ≤ 20) ∧ (0 ≤ M 2 1 ∧ M 2 1 ≤ 20) ∧ ∀ e, 0 ≤ e → e < M 5 6 → M 7 e ≤ 6) {K : jxK} (h : K (some (.inl (jx_b (d_holds M w c)))) M) : jx_call jx_G1 jx_T (d + 2) 5 [.inr 5, .inr 2, .inl w, .inl c] M K := by
  intro X hX
  refine bk_D_holds_0 (d := d) hX w c M ?_
  refine jx_loop (σ := Unit) (M 5 6) (fun i _ => 0 ≤ i ∧ ∀ e, 0 ≤ e → e < i → ¬ (M 8 e = w ∧ M 9 e = c ∧ M 7 e = M 2 1 ∧ t_begins M e)) (fun i _ => X 2 [.inr 5, .inr 2, .inl w, .inl c, .inl i] [] M) ?_ 0 () ⟨by omega, fun j _ _ => by omega⟩
  intro i _ ⟨i1, i3⟩ ih
  have hn : i < M 5 6 → ¬ (M 8 i = w ∧ M 9 i = c ∧ M 7 i = M 2 1 ∧ t_begins M i) → X 2 [.inr 5, .inr 2, .inl w, .inl c, .inl (i + 1)] [] M := fun q z => ih () q ⟨by omega, fun e e1 e2 => by
    rcases Int.lt_or_le e i with y | y
    · exact i3 e e1 y
    · obtain rfl : e = i := by omega
      exact z⟩
  refine bk_D_holds_2 (d := d) hX w c i M ⟨fun q => ?_, fun q => ⟨by omega, fun q2 => ⟨by omega, hn q (fun z => q2 z.1)⟩, fun q2 => ⟨by omega, fun q3 => ⟨by omega, hn q (fun z => q3 z.2.1)⟩, fun q3 => ⟨by omega, fun q4 => ⟨by omega, hn q (fun z => q4 z.2.2.1)⟩, fun q4 => ⟨?_, fun q5 => ⟨by omega, hn q (fun z => q5 z.2.2.2)⟩, fun q5 => ?_⟩⟩⟩⟩⟩
  · rw [jx_bf (fun ⟨e, e1, e2, e3⟩ => i3 e e1 (by omega) e3)] at h; exact h
  · have := h1.2.2 i i1 q
    omega
  · rw [jx_bt ⟨i, i1, q, q2, q3, q4, q5⟩] at h; exact h
theorem sp_D_moveDown (d : Nat) (e : Int) (M : jxM) (h1 : 1 ≤ e ∧ e < 20) {K : jxK} (h : K none (jx_up (jx_up (jx_up (jx_up (jx_up (jx_cp M 6 (e * 6) 6 ((e - 1) * 6) 6) 7 (e - 1) (M 7 e)) 8 (e - 1) (M 8 e)) 9 (e - 1) (M 9 e)) 10 (e - 1) (M 10 e)) 11 (e - 1) (M 11 e))) : jx_call jx_G1 jx_T (d + 2) 3 [.inr 5, .inl e] M K := by
  intro X hX
  exact bk_D_moveDown_0 (d := d) hX e M ⟨by omega, h⟩
theorem sp_D_append (d : Nat) (w c k : Int) (M : jxM) (h1 : 0 ≤ M 5 6 ∧ M 5 6 < 20 ∧ 0 ≤ M 2 1 ∧ M 2 1 ≤ 6) {K : jxK} (h : K none (jx_up (jx_up (jx_up (jx_up (jx_up (jx_up (jx_cp M 3 0 6 (M 5 6 * 6) (M 2 1)) 7 (M 5 6) (M 2 1)) 8 (M 5 6) w) 9 (M 5 6) c) 10 (M 5 6) k) 11 (M 5 6) 0) 5 6 (M 5 6 + 1))) : jx_call jx_G1 jx_T (d + 2) 1 [.inr 5, .inr 2, .inl w, .inl c, .inl k] M K := by
  intro X hX
  exact bk_D_append_0 (d := d) hX w c k M ⟨fun q => absurd q (by omega), fun q => ⟨fun q2 => ⟨by omega, h⟩, fun q2 => absurd q2 (by omega)⟩⟩
/-- a row filled -/
def jx_fi (M : jxM) (c : Nat) (n v : Int) : jxM := fun c' x => if c' = c ∧ 0 ≤ x ∧ x < n then v else M c' x
set_option maxHeartbeats 4000000 in
theorem sp_J_fill (d c n : Nat) (v : Int) (M : jxM) (hc : jx_G1.1 (c + 1) = (1, n)) (hn : n < 2147483647) {K : jxK} (h : K none (jx_fi M (c + 1) n v)) : jx_call jx_G1 jx_T (d + 1) 127 [.inr (c + 1), .inl v] M K := by
  intro X hX
  have hX : jx_clo jx_G1 d (jx_call jx_G1 jx_T d) kc_J_fill K X := hX
  show X 0 [.inr (c + 1), .inl v, .inr 0, .inr 0] [] M
  refine jk_const (pc := 0) hX 0 rfl (by decide) ?_
  refine jk_store (pc := 1) hX 2 rfl (Nat.le_of_ble_eq_true rfl) (ls' := [.inr (c + 1), .inl v, .inl 0, .inr 0]) rfl ?_
  refine jk_aload (pc := 2) hX 0 rfl rfl ?_
  refine jk_alen (pc := 3) hX n rfl hc ?_
  refine jk_store (pc := 4) hX 3 rfl (Nat.le_of_ble_eq_true rfl) (ls' := [.inr (c + 1), .inl v, .inl 0, .inl (n : Int)]) rfl ?_
  refine jx_loop (σ := jxM) (n : Int) (fun i M' => 0 ≤ i ∧ i ≤ n ∧ M' = fun c' x => if c' = c + 1 ∧ 0 ≤ x ∧ x < i then v else M c' x) (fun i M' => X 5 [.inr (c + 1), .inl v, .inl i, .inl (n : Int)] [] M') ?_ 0 M ⟨by omega, by omega, ?_⟩
  · intro i M' ⟨i1, i2, i3⟩ ih
    refine jk_load (pc := 5) hX 2 rfl rfl ?_
    refine jk_load (pc := 6) hX 3 rfl rfl ?_
    refine jk_cge (pc := 7) hX 14 rfl (fun q => ?_) (fun q => ?_)
    · refine jk_vret (pc := 14) hX rfl ?_
      obtain rfl : i = n := by omega
      rw [i3]
      exact h
    · refine jk_aload (pc := 8) hX 0 rfl rfl ?_
      refine jk_load (pc := 9) hX 2 rfl rfl ?_
      refine jk_load (pc := 10) hX 1 rfl rfl ?_
      refine jk_iast (pc := 11) hX n rfl hc (by omega) ?_
      refine jk_iinc (pc := 12) hX 2 1 rfl rfl (by unfold jx_r; omega) (ls' := [.inr (c + 1), .inl v, .inl (i + 1), .inl (n : Int)]) rfl ?_
      refine jk_goto (pc := 13) hX 5 rfl ?_
      refine ih _ q ⟨by omega, by omega, ?_⟩
      rw [i3]
      funext c' x
      unfold jx_up
      by_cases h1 : c' = c + 1 ∧ x = i
      · rw [if_pos h1, if_pos ⟨h1.1, by omega, by omega⟩]
      · rw [if_neg h1]
        show (if c' = c + 1 ∧ 0 ≤ x ∧ x < i then v else M c' x) = _
        by_cases h2 : c' = c + 1 ∧ 0 ≤ x ∧ x < i
        · rw [if_pos h2, if_pos ⟨h2.1, h2.2.1, by omega⟩]
        · rw [if_neg h2, if_neg (fun z => h2 ⟨z.1, z.2.1, by
            have := z.2.2
            rcases Int.lt_or_le x i with y | y
            · exact y
            · exact absurd ⟨z.1, by omega⟩ h1⟩)]
  · funext c' x
    rw [if_neg (fun z => by omega)]
theorem sp_M_takeInput (d : Nat) (M : jxM) (h1 : 0 ≤ M 2 1 ∧ M 2 1 ≤ 16) {K : jxK} (h : K none (jx_fi (jx_up (jx_cp M 3 0 13 0 (M 2 1)) 4 5 (M 2 1)) 14 17 0)) : jx_call jx_G1 jx_T (d + 2) 17 [.inr 4, .inr 2] M K := by
  intro X hX
  refine bk_M_takeInput_0 (d := d) hX M ⟨fun q => ⟨by omega, ?_⟩, fun q => absurd q (by omega)⟩
  exact sp_J_fill d 13 17 0 _ rfl (by omega) ⟨rfl, h⟩
-- ===== the reference =====
def f_stands (A : Int → Int) (e g : Int) : Prop := g + A (1 + 11 * e) ≤ A 271 ∧ ∀ i, 0 ≤ i → i < A (1 + 11 * e) → A (1 + 11 * e + 1 + i) = A (272 + g + i)
def f_may (A : Int → Int) (a b : Int) : Prop := (b = A 271 ∨ A (288 + b) ≠ 2) ∧ ∀ g, a < g → g < b → A (288 + g) ≠ 1
def f_price (A : Int → Int) (e : Int) : Int := max 0 (A (1 + 11 * e + 9) - 3 * A (1 + 11 * e + 10))
def f_end (A : Int → Int) (s g : Int) : Int := if s = -5 then g + 1 else g + A (1 + 11 * s)
def f_cls (A : Int → Int) (s : Int) : Int := if s = -5 then 5 else A (1 + 11 * s + 8)
def f_cost (A : Int → Int) (s : Int) : Int := if s = -5 then A 270 else f_price A s
def f_begins (M : jxM) (e : Int) : Prop := M 1 4 ≤ M 2 (1 + 11 * e) ∧ ∀ i, 0 ≤ i → i < M 1 4 → M 4 i = M 2 (1 + 11 * e + 1 + i)
theorem sp_F_fault (d : Nat) (a : Int) (M : jxM) (h1 : (0 ≤ M 1 4 ∧ M 1 4 ≤ 20) ∧ 0 ≤ a) {K : jxK} (h : K (some (.inl (t_err (M 4) a (-9) 0 (M 1 4).toNat))) M) : jx_call jx_G2 jx_T (d + 2) 85 [.inr 1, .inl a] M K := by
  intro X hX
  refine bk_F_fault_0 (d := d) hX a M ?_
  refine jx_loop (σ := Unit) (M 1 4) (fun i _ => 0 ≤ i ∧ i ≤ M 1 4 ∧ i ≤ a ∧ t_err (M 4) a (-9) 0 (M 1 4).toNat = t_err (M 4) a (-9) i (M 1 4 - i).toNat) (fun i _ => X 2 [.inr 1, .inl a, .inl i] [] M) ?_ 0 () ⟨by omega, by omega, by omega, by simp⟩
  intro i _ ⟨i1, i2, i4, i3⟩ ih
  rw [i3] at h
  refine bk_F_fault_2 (d := d) hX a i M ⟨fun q => ?_, fun q => ⟨fun q2 => ?_, fun q2 => ⟨by omega, fun q3 => ⟨by omega, ih () q ⟨by omega, by omega, by omega, ?_⟩⟩, fun q3 => ?_⟩⟩⟩
  · rw [show (M 1 4 - i).toNat = 0 by omega] at h; exact h
  · rw [show (M 1 4 - i).toNat = (M 1 4 - (i + 1)).toNat + 1 by omega, t_err, if_pos (Or.inl (by omega))] at h; exact h
  · rw [i3, show (M 1 4 - i).toNat = (M 1 4 - (i + 1)).toNat + 1 by omega, t_err, if_neg (by omega)]
  · rw [show (M 1 4 - i).toNat = (M 1 4 - (i + 1)).toNat + 1 by omega, t_err, if_pos (by omega)] at h; exact h
theorem sp_F_isEntry (d : Nat) (a : Int) (M : jxM) (h1 : 0 ≤ M 2 0 ∧ M 2 0 ≤ 20) {K : jxK} (h : K (some (.inl (jx_b (0 ≤ a ∧ a < M 2 0)))) M) : jx_call jx_G2 jx_T (d + 2) 87 [.inr 1, .inl a] M K := by
  intro X hX
  refine bk_F_isEntry_0 (d := d) hX a M ⟨by omega, ?_⟩
  rw [jx_bc (show (0 ≤ a ∧ a ≤ M 2 0 - 1) ↔ (0 ≤ a ∧ a < M 2 0) by omega)]
  exact h
theorem sp_F_begins (d : Nat) (e : Int) (M : jxM) (h1 : (0 ≤ e ∧ e < 20) ∧ (0 ≤ M 1 4 ∧ M 1 4 ≤ 20) ∧ M 2 (1 + 11 * e) ≤ 6) {K : jxK} (h : K (some (.inl (jx_b (f_begins M e)))) M) : jx_call jx_G2 jx_T (d + 2) 88 [.inr 1, .inl e] M K := by
  intro X hX
  have lp : ∀ (i v : Int), (0 ≤ i ∧ (v = 1 ∧ i ≤ M 1 4 ∧ M 1 4 ≤ M 2 (1 + 11 * e) ∧ (∀ j, 0 ≤ j → j < i → M 4 j = M 2 (1 + 11 * e + 1 + j)) ∨ v = 0 ∧ ¬ f_begins M e)) → X 14 [.inr 1, .inl e, .inl v, .inl i] [] M := by
    refine jx_loop (σ := Int) (M 1 4) _ _ ?_
    intro i v ⟨i1, i3⟩ ih
    refine bk_F_begins_14 (d := d) hX e v i M ⟨fun q => ⟨by omega, ?_⟩, fun q => ⟨fun q2 => ⟨by omega, ?_⟩, fun q2 => ⟨?_, fun q3 => ⟨by omega, ih _ q ⟨by omega, Or.inr ⟨rfl, ?_⟩⟩⟩, fun q3 => ⟨by omega, ih _ q ⟨by omega, Or.inl ⟨rfl, by omega, ?_, fun j j1 j2 => ?_⟩⟩⟩⟩⟩⟩
    · rcases i3 with ⟨rfl, i4, i5, i6⟩ | ⟨rfl, i4⟩
      · rw [jx_bt ⟨i5, fun j j1 j2 => i6 j j1 (by omega)⟩] at h; exact h
      · rw [jx_bf i4] at h; exact h
    · rcases i3 with ⟨rfl, i4⟩ | ⟨rfl, i4⟩
      · omega
      · rw [jx_bf i4] at h; exact h
    · rcases i3 with ⟨rfl, i4, i5, i6⟩ | ⟨rfl, i4⟩ <;> omega
    · exact fun z => q3 (z.2 i i1 q)
    · rcases i3 with ⟨rfl, i4, i5, i6⟩ | ⟨rfl, i4⟩ <;> omega
    · rcases i3 with ⟨rfl, i4, i5, i6⟩ | ⟨rfl, i4⟩
      · rcases Int.lt_or_le j i with z | z
        · exact i6 j j1 z
        · obtain rfl : j = i := by omega
          exact q3
      · omega
  refine bk_F_begins_0 (d := d) hX e M ⟨by omega, fun q => lp _ _ ⟨by omega, Or.inr ⟨rfl, fun z => ?_⟩⟩, fun q => lp _ _ ⟨by omega, Or.inl ⟨rfl, by omega, q, fun j _ _ => by omega⟩⟩⟩
  have := z.1
  omega
theorem sp_F_price (d : Nat) (e : Int) (M : jxM) (h1 : (0 ≤ e ∧ e < 20) ∧ (0 ≤ M 2 (1 + 11 * e + 9) ∧ M 2 (1 + 11 * e + 9) ≤ 99) ∧ (0 ≤ M 2 (1 + 11 * e + 10) ∧ M 2 (1 + 11 * e + 10) ≤ 9)) {K : jxK} (h : K (some (.inl (f_price (M 2) e))) M) : jx_call jx_G2 jx_T (d + 2) 93 [.inr 1, .inl e] M K := by
  intro X hX
  unfold f_price at h
  refine bk_F_price_0 (d := d) hX e M ⟨by omega, fun q => ?_, fun q => ?_⟩
  · rw [show max 0 (M 2 (1 + 11 * e + 9) - 3 * M 2 (1 + 11 * e + 10)) = M 2 (1 + 11 * e + 9) - 3 * M 2 (1 + 11 * e + 10) by omega] at h; exact h
  · rw [show max 0 (M 2 (1 + 11 * e + 9) - 3 * M 2 (1 + 11 * e + 10)) = 0 by omega] at h; exact h
theorem sp_F_stands (d : Nat) (e g : Int) (M : jxM) (h1 : (0 ≤ e ∧ e < 20) ∧ (0 ≤ M 2 (1 + 11 * e) ∧ M 2 (1 + 11 * e) ≤ 6) ∧ M 2 271 ≤ 16 ∧ 0 ≤ g ∧ g ≤ 16) {K : jxK} (h : K (some (.inl (jx_b (f_stands (M 2) e g)))) M) : jx_call jx_G2 jx_T (d + 2) 103 [.inr 1, .inl e, .inl g] M K := by
  intro X hX
  have lp : ∀ (i v : Int), (0 ≤ i ∧ (v = 1 ∧ i ≤ M 2 (1 + 11 * e) ∧ g + M 2 (1 + 11 * e) ≤ M 2 271 ∧ (∀ j, 0 ≤ j → j < i → M 2 (1 + 11 * e + 1 + j) = M 2 (272 + g + j)) ∨ v = 0 ∧ ¬ f_stands (M 2) e g)) → X 20 [.inr 1, .inl e, .inl g, .inl (M 2 (1 + 11 * e)), .inl v, .inl i] [] M := by
    refine jx_loop (σ := Int) (M 2 (1 + 11 * e)) _ _ ?_
    intro i v ⟨i1, i3⟩ ih
    refine bk_F_stands_20 (d := d) hX e g (M 2 (1 + 11 * e)) v i M ⟨fun q => ⟨by omega, ?_⟩, fun q => ⟨fun q2 => ⟨by omega, ?_⟩, fun q2 => ⟨?_, fun q3 => ⟨by omega, ih _ q ⟨by omega, Or.inr ⟨rfl, ?_⟩⟩⟩, fun q3 => ⟨by omega, ih _ q ⟨by omega, Or.inl ⟨rfl, by omega, ?_, fun j j1 j2 => ?_⟩⟩⟩⟩⟩⟩
    · rcases i3 with ⟨rfl, i4, i5, i6⟩ | ⟨rfl, i4⟩
      · rw [jx_bt ⟨i5, fun j j1 j2 => i6 j j1 (by omega)⟩] at h; exact h
      · rw [jx_bf i4] at h; exact h
    · rcases i3 with ⟨rfl, i4⟩ | ⟨rfl, i4⟩
      · omega
      · rw [jx_bf i4] at h; exact h
    · rcases i3 with ⟨rfl, i4, i5, i6⟩ | ⟨rfl, i4⟩ <;> omega
    · exact fun z => q3 (z.2 i i1 q)
    · rcases i3 with ⟨rfl, i4, i5, i6⟩ | ⟨rfl, i4⟩ <;> omega
    · rcases i3 with ⟨rfl, i4, i5, i6⟩ | ⟨rfl, i4⟩
      · rcases Int.lt_or_le j i with z | z
        · exact i6 j j1 z
        · obtain rfl : j = i := by omega
          exact q3
      · omega
  refine bk_F_stands_0 (d := d) hX e g M ⟨by omega, fun q => lp _ _ ⟨by omega, Or.inr ⟨rfl, fun z => ?_⟩⟩, fun q => lp _ _ ⟨by omega, Or.inl ⟨rfl, by omega, q, fun j _ _ => by omega⟩⟩⟩
  have := z.1
  omega
theorem sp_F_mayCover (d : Nat) (a b : Int) (M : jxM) (h1 : 0 ≤ a ∧ a ≤ 16 ∧ 0 ≤ b ∧ b ≤ 16) {K : jxK} (h : K (some (.inl (jx_b (f_may (M 2) a b)))) M) : jx_call jx_G2 jx_T (d + 1) 105 [.inr 1, .inl a, .inl b] M K := by
  intro X hX
  have lp : ∀ (i v : Int), (a < i ∧ (v = 1 ∧ (b = M 2 271 ∨ M 2 (288 + b) ≠ 2) ∧ (∀ j, a < j → j < i → M 2 (288 + j) ≠ 1) ∨ v = 0 ∧ ¬ f_may (M 2) a b)) → X 22 [.inr 1, .inl a, .inl b, .inl v, .inl i] [] M := by
    refine jx_loop (σ := Int) b _ _ ?_
    intro i v ⟨i1, i3⟩ ih
    refine bk_F_mayCover_22 (d := d) hX a b v i M ⟨fun q => ⟨by omega, ?_⟩, fun q => ⟨fun q2 => ⟨by omega, ih _ q ⟨by omega, Or.inr ⟨rfl, ?_⟩⟩⟩, fun q2 => ⟨by omega, fun q3 => ⟨by omega, ih _ q ⟨by omega, Or.inr ⟨rfl, ?_⟩⟩⟩, fun q3 => ⟨by omega, ih _ q ⟨by omega, Or.inl ⟨rfl, ?_, fun j j1 j2 => ?_⟩⟩⟩⟩⟩⟩
    · rcases i3 with ⟨rfl, i5, i6⟩ | ⟨rfl, i4⟩
      · rw [jx_bt ⟨i5, fun j j1 j2 => i6 j j1 (by omega)⟩] at h; exact h
      · rw [jx_bf i4] at h; exact h
    · rcases i3 with ⟨rfl, i4⟩ | ⟨rfl, i4⟩
      · omega
      · exact i4
    · exact fun z => z.2 i i1 q q3
    · rcases i3 with ⟨rfl, i5, i6⟩ | ⟨rfl, i4⟩
      · exact i5
      · omega
    · rcases i3 with ⟨rfl, i5, i6⟩ | ⟨rfl, i4⟩
      · rcases Int.lt_or_le j i with z | z
        · exact i6 j j1 z
        · obtain rfl : j = i := by omega
          exact q3
      · omega
  refine bk_F_mayCover_0 (d := d) hX a b M ⟨fun q => ⟨by omega, lp _ _ ⟨by omega, Or.inl ⟨rfl, Or.inl q, fun j _ _ => by omega⟩⟩⟩, fun q => ⟨by omega, fun q2 => ⟨by omega, lp _ _ ⟨by omega, Or.inr ⟨rfl, fun z => ?_⟩⟩⟩, fun q2 => ⟨by omega, lp _ _ ⟨by omega, Or.inl ⟨rfl, Or.inr q2, fun j _ _ => by omega⟩⟩⟩⟩⟩
  rcases z.1 with y | y
  · exact q y
  · exact y q2
theorem sp_F_endOf (d : Nat) (s g : Int) (M : jxM) (h1 : (s = -5 ∨ 0 ≤ s ∧ s < 20 ∧ 0 ≤ M 2 (1 + 11 * s) ∧ M 2 (1 + 11 * s) ≤ 6) ∧ 0 ≤ g ∧ g ≤ 16) {K : jxK} (h : K (some (.inl (f_end (M 2) s g))) M) : jx_call jx_G2 jx_T (d + 2) 107 [.inr 1, .inl s, .inl g] M K := by
  intro X hX
  unfold f_end at h
  refine bk_F_endOf_0 (d := d) hX s g M ⟨fun q => ⟨by omega, ?_⟩, fun q => ⟨by omega, ?_⟩⟩
  · rw [if_neg q] at h; exact h
  · rw [if_pos q] at h; exact h
theorem sp_F_classOf (d : Nat) (s : Int) (M : jxM) (h1 : s = -5 ∨ 0 ≤ s ∧ s < 20) {K : jxK} (h : K (some (.inl (f_cls (M 2) s))) M) : jx_call jx_G2 jx_T (d + 2) 108 [.inr 1, .inl s] M K := by
  intro X hX
  unfold f_cls at h
  refine bk_F_classOf_0 (d := d) hX s M ⟨fun q => ⟨by omega, ?_⟩, fun q => ?_⟩
  · rw [if_neg q] at h; exact h
  · rw [if_pos q] at h; exact h
