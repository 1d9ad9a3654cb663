theorem q_edit_base {M1 M2 M1' M2' : jxM} (h : q_base M1 M2) (h1 : q_edit M1 M1') (h2 : q_save M2 M2') : q_base M1' M2' ∧ M1' 1 5 = 1 ∧ M2' 1 5 = 0 := by
  have hh := q_his_edit h h1 h2
  obtain ⟨⟨t1, t2, t3⟩, hrs, hok, -⟩ := h
  obtain ⟨e1, e2, -⟩ := h1
  obtain ⟨s1, s2, s3, -⟩ := h2
  refine ⟨⟨⟨?_, ?_, fun i i1 i2 => ?_⟩, ?_, ?_, hh⟩, e2, s3⟩
  · rw [e1 2 1 (by omega) (by omega), s2 4 (by decide) (by decide)]; exact t1
  · rw [s2 4 (by decide) (by decide)]; exact t2
  · rw [s2 4 (by decide) (by decide)] at i2
    rw [e1 3 i (by omega) (by omega), s1 4 i (by decide) (by decide)]; exact t3 i i1 i2
  · exact q_rs_eq hok (q_rs_blk hok hrs (q_blk_rfl (fun c x c1 c2 => e1 c x (by omega) (by omega)))) (fun k _ _ => s1 2 k (by decide) (by decide))
  · exact q_ok_eq hok (fun k _ _ => s1 2 k (by decide) (by decide))
theorem q_mod {M1 M2 M1' M2' : jxM} (h : q_base M1 M2) (ht : q_txt M1' M2') (hr : q_rs M1' 4 (M2' 2)) (ho : q_ok (M2' 2)) (f1 : ∀ c x, 15 ≤ c → c ≤ 82 → M1' c x = M1 c x) (f2 : ∀ x, M2' 3 x = M2 3 x) (f3 : M2' 1 2 = M2 1 2) : q_base M1' M2' := ⟨ht, hr, ho, q_his_fr h.2.2.2 f1 f2 f3⟩
theorem q_txt_fr {M1 M2 M1' M2' : jxM} (h : q_txt M1 M2) (f1 : ∀ c x, c = 2 ∨ c = 3 → M1' c x = M1 c x) (f2 : M2' 1 4 = M2 1 4) (f3 : ∀ x, M2' 4 x = M2 4 x) : q_txt M1' M2' := by
  obtain ⟨a, b, c⟩ := h
  exact ⟨by rw [f1 2 1 (Or.inl rfl), f2]; exact a, by rw [f2]; exact b, fun i i1 i2 => by rw [f1 3 i (Or.inr rfl), f3 i]; exact c i i1 (by rw [← f2]; exact i2)⟩
theorem sp_F_changed (d : Nat) (p v : Int) (M : jxM) (h1 : (0 ≤ M 1 2 ∧ M 1 2 ≤ 6) ∧ 0 ≤ p ∧ p < 305) {K : jxK} (h : ∀ Ms, q_save M Ms → K (some (.inl (Ms 2 p))) (jx_up Ms 2 p v)) : jx_call jx_G2 jx_T (d + 2) 97 [.inr 1, .inl p, .inl v] M K := by
  intro X hX
  refine bk_F_changed_0 (d := d) hX p v M ?_
  exact sp_F_save d M h1.1 (fun Ms hs => ⟨rfl, by omega, h Ms hs⟩)
/-- one place of the state is set on both sides -/
theorem q_set {M1 M2 : jxM} (h : q_base M1 M2) {c : Nat} {x p v : Int} (hc : 4 ≤ c ∧ c ≤ 14) (hr : q_rs (jx_up M1 c x v) 4 (jx_up M2 2 p v 2)) (ho : q_ok (jx_up M2 2 p v 2)) : q_base (jx_up M1 c x v) (jx_up M2 2 p v) :=
  q_mod h (q_txt_fr h.1 (fun c' x' z => jx_upc (by omega)) (jx_upc (by decide)) (fun x' => jx_upc (by decide))) hr ho (fun c' x' _ _ => jx_upc (by omega)) (fun x' => jx_upc (by decide)) (jx_upc (by decide))
theorem q_upA {M : jxM} {p v k : Int} : jx_up M 2 p v 2 k = if k = p then v else M 2 k := by
  by_cases z : k = p
  · rw [if_pos z, z, jx_ups]
  · rw [if_neg z, jx_upx z]
theorem pr_setConnection (d1 d2 : Nat) {M1 M2 : jxM} (h : q_base M1 M2) (a b k : Int) : jx_call jx_G1 jx_T (d1 + 6) 55 [.inr 1, .inl a, .inl b, .inl k] M1 (fun v M1' => jx_call jx_G2 jx_T (d2 + 3) 98 [.inr 1, .inl a, .inl b, .inl k] M2 (q_pair M1 M2 v M1')) := by
  obtain ⟨a1, a2, a3, a4, a5, a6, a7, a8, a9, a10⟩ := q_bs h
  have bad : ¬ (0 ≤ a ∧ a ≤ 6 ∧ 0 ≤ b ∧ b ≤ 6 ∧ 0 ≤ k ∧ k ≤ 99) → jx_call jx_G2 jx_T (d2 + 3) 98 [.inr 1, .inl a, .inl b, .inl k] M2 (q_pair M1 M2 (some (.inl (-1))) M1) := by
    intro z X2 hX2
    exact bk_F_setConnection_0 (d := d2) hX2 a b k M2 ⟨fun _ => q_same h _, fun y1 => ⟨fun _ => q_same h _, fun y2 => ⟨fun _ => q_same h _, fun y3 => absurd ⟨y1.1, y1.2, y2.1, y2.2, y3.1, y3.2⟩ z⟩⟩⟩
  intro X hX
  refine bk_C_setConnection_0 (d := d1) hX a b k M1 ⟨fun q => bad (by omega), fun q => ⟨fun q2 => bad (by omega), fun q2 => ⟨fun q3 => ?_, fun q3 => bad (by omega)⟩⟩⟩
  refine sp_C_beginEdit d1 M1 (by omega) (fun N1 ed => ⟨rfl, by omega, ?_⟩)
  intro X2 hX2
  refine bk_F_setConnection_0 (d := d2) hX2 a b k M2 ⟨fun z => by omega, fun z => ⟨fun z2 => by omega, fun z2 => ⟨fun z3 => by omega, fun z3 => ⟨by omega, ?_⟩⟩⟩⟩
  refine sp_F_changed d2 _ k M2 (by omega) (fun N2 sv => ⟨_, rfl, ?_⟩)
  obtain ⟨hb, f1, f2⟩ := q_edit_base h ed sv
  have hcon := hb.2.1.2.2.1 (a * 7 + b) (by omega) (by omega)
  have hco : N1 12 (a * 7 + b) = N2 2 (221 + 7 * a + b) := by rw [hcon]; congr 1; omega
  refine ⟨⟨_, rfl, by rw [hco]⟩, q_set hb (by decide) ?_ ?_, Or.inl ⟨(by rw [jx_upc (by decide)]; exact f1), (by rw [jx_upc (by decide)]; exact f2)⟩⟩
  · obtain ⟨r1, r2, r3, r4, r5, r6, r7⟩ := hb.2.1
    obtain ⟨o1, o2, o3, o4, o5, o6⟩ := hb.2.2.1
    refine ⟨?_, fun e e1 e2 => ?_, fun j j1 j2 => ?_, ?_, ?_, fun i i1 i2 => ?_, fun g g1 g2 => ?_⟩
    · rw [jx_upc (by decide), q_upA, if_neg (by omega)]; exact r1
    · rw [q_upA, if_neg (by omega)] at e2
      obtain ⟨y1, y2, y3, y4, y5, y6⟩ := r2 e e1 e2
      have ol := (o2 e e1 e2).1
      simp only [q_upA]
      rw [if_neg (by omega), if_neg (by omega), if_neg (by omega), if_neg (by omega), if_neg (by omega)]
      refine ⟨by rw [jx_upc (by decide)]; exact y1, fun i i1 i2 => ?_, by rw [jx_upc (by decide)]; exact y3, by rw [jx_upc (by decide)]; exact y4, by rw [jx_upc (by decide)]; exact y5, by rw [jx_upc (by decide)]; exact y6⟩
      rw [if_neg (by omega), jx_upc (by decide)]
      exact y2 i i1 i2
    · rw [q_upA]
      by_cases z : j = a * 7 + b
      · rw [if_pos (by omega), z]; exact jx_ups
      · rw [if_neg (by omega)]; exact (jx_upx z).trans (r3 j j1 j2)
    · rw [q_upA, if_neg (by omega), jx_upc (by decide)]; exact r4
    · rw [q_upA, if_neg (by omega), jx_upc (by decide)]; exact r5
    · rw [q_upA, if_neg (by omega)] at i2
      rw [q_upA, if_neg (by omega), jx_upc (by decide)]; exact r6 i i1 i2
    · rw [q_upA, if_neg (by omega), jx_upc (by decide)]; exact r7 g g1 g2
  · obtain ⟨o1, o2, o3, o4, o5, o6⟩ := hb.2.2.1
    refine ⟨by rw [q_upA, if_neg (by omega)]; exact o1, fun e e1 e2 => ?_, fun j j1 j2 => ?_, by rw [q_upA, if_neg (by omega)]; exact o4, by rw [q_upA, if_neg (by omega)]; exact o5, fun g g1 g2 => ?_⟩
    · rw [q_upA, if_neg (by omega)] at e2
      have := o2 e e1 e2
      simp only [q_upA]
      rw [if_neg (by omega), if_neg (by omega), if_neg (by omega), if_neg (by omega)]
      exact this
    · rw [q_upA]
      have := o3 j j1 j2
      split <;> omega
    · rw [q_upA, if_neg (by omega), q_upA, if_neg (by omega)]; exact o6 g g1 g2
theorem pr_setUnknownCost (d1 d2 : Nat) {M1 M2 : jxM} (h : q_base M1 M2) (k : Int) : jx_call jx_G1 jx_T (d1 + 6) 56 [.inr 1, .inl k] M1 (fun v M1' => jx_call jx_G2 jx_T (d2 + 3) 99 [.inr 1, .inl k] M2 (q_pair M1 M2 v M1')) := by
  obtain ⟨a1, a2, a3, a4, a5, a6, a7, a8, a9, a10⟩ := q_bs h
  intro X hX
  refine bk_C_setUnknownCost_0 (d := d1) hX k M1 ⟨fun q => ?_, fun q => ?_⟩
  · refine sp_C_beginEdit d1 M1 (by omega) (fun N1 ed => ⟨rfl, ?_⟩)
    intro X2 hX2
    refine bk_F_setUnknownCost_0 (d := d2) hX2 k M2 ⟨fun z => by omega, fun z => ?_⟩
    refine sp_F_changed d2 _ k M2 (by omega) (fun N2 sv => ⟨_, rfl, ?_⟩)
    obtain ⟨hb, f1, f2⟩ := q_edit_base h ed sv
    refine ⟨⟨_, rfl, by rw [hb.2.1.2.2.2.1]⟩, q_set hb (by decide) ?_ ?_, Or.inl ⟨(by rw [jx_upc (by decide)]; exact f1), (by rw [jx_upc (by decide)]; exact f2)⟩⟩
    · obtain ⟨r1, r2, r3, r4, r5, r6, r7⟩ := hb.2.1
      obtain ⟨o1, o2, o3, o4, o5, o6⟩ := hb.2.2.1
      refine ⟨?_, fun e e1 e2 => ?_, fun j j1 j2 => ?_, ?_, ?_, fun i i1 i2 => ?_, fun g g1 g2 => ?_⟩
      · rw [jx_upc (by decide), q_upA, if_neg (by omega)]; exact r1
      · rw [q_upA, if_neg (by omega)] at e2
        obtain ⟨y1, y2, y3, y4, y5, y6⟩ := r2 e e1 e2
        have ol := (o2 e e1 e2).1
        simp only [q_upA]
        rw [if_neg (by omega), if_neg (by omega), if_neg (by omega), if_neg (by omega), if_neg (by omega)]
        refine ⟨by rw [jx_upc (by decide)]; exact y1, fun i i1 i2 => ?_, by rw [jx_upc (by decide)]; exact y3, by rw [jx_upc (by decide)]; exact y4, by rw [jx_upc (by decide)]; exact y5, by rw [jx_upc (by decide)]; exact y6⟩
        rw [if_neg (by omega), jx_upc (by decide)]
        exact y2 i i1 i2
      · rw [q_upA, if_neg (by omega), jx_upc (by decide)]; exact r3 j j1 j2
      · rw [q_upA, if_pos rfl]; exact jx_ups
      · rw [q_upA, if_neg (by omega), jx_upx (by decide)]; exact r5
      · rw [q_upA, if_neg (by omega)] at i2
        rw [q_upA, if_neg (by omega), jx_upc (by decide)]; exact r6 i i1 i2
      · rw [q_upA, if_neg (by omega), jx_upc (by decide)]; exact r7 g g1 g2
    · obtain ⟨o1, o2, o3, o4, o5, o6⟩ := hb.2.2.1
      refine ⟨by rw [q_upA, if_neg (by omega)]; exact o1, fun e e1 e2 => ?_, fun j j1 j2 => ?_, by rw [q_upA, if_pos rfl]; omega, by rw [q_upA, if_neg (by omega)]; exact o5, fun g g1 g2 => ?_⟩
      · rw [q_upA, if_neg (by omega)] at e2
        have := o2 e e1 e2
        simp only [q_upA]
        rw [if_neg (by omega), if_neg (by omega), if_neg (by omega), if_neg (by omega)]
        exact this
      · rw [q_upA, if_neg (by omega)]; exact o3 j j1 j2
      · rw [q_upA, if_neg (by omega), q_upA, if_neg (by omega)]; exact o6 g g1 g2
  · intro X2 hX2
    exact bk_F_setUnknownCost_0 (d := d2) hX2 k M2 ⟨fun z => q_same h _, fun z => by omega⟩
theorem pr_setConstraint (d1 d2 : Nat) {M1 M2 : jxM} (h : q_base M1 M2) (g k : Int) : jx_call jx_G1 jx_T (d1 + 6) 59 [.inr 1, .inl g, .inl k] M1 (fun v M1' => jx_call jx_G2 jx_T (d2 + 3) 102 [.inr 1, .inl g, .inl k] M2 (q_pair M1 M2 v M1')) := by
  obtain ⟨a1, a2, a3, a4, a5, a6, a7, a8, a9, a10⟩ := q_bs h
  have bad : ¬ (1 ≤ g ∧ g ≤ M2 2 271 - 1 ∧ 0 ≤ k ∧ k ≤ 2) → jx_call jx_G2 jx_T (d2 + 3) 102 [.inr 1, .inl g, .inl k] M2 (q_pair M1 M2 (some (.inl (-1))) M1) := by
    intro z X2 hX2
    exact bk_F_setConstraint_0 (d := d2) hX2 g k M2 ⟨by omega, fun _ => q_same h _, fun y1 => ⟨fun _ => q_same h _, fun y2 => absurd ⟨y1.1, y1.2, y2.1, y2.2⟩ z⟩⟩
  intro X hX
  refine bk_C_setConstraint_0 (d := d1) hX g k M1 ⟨by omega, fun q => bad (by omega), fun q => ⟨fun q2 => ?_, fun q2 => bad (by omega)⟩⟩
  refine sp_C_beginEdit d1 M1 (by omega) (fun N1 ed => ⟨rfl, by omega, ?_⟩)
  intro X2 hX2
  refine bk_F_setConstraint_0 (d := d2) hX2 g k M2 ⟨by omega, fun z => by omega, fun z => ⟨fun z2 => by omega, fun z2 => ⟨by omega, ?_⟩⟩⟩
  refine sp_F_changed d2 _ k M2 (by omega) (fun N2 sv => ⟨_, rfl, ?_⟩)
  obtain ⟨hb, f1, f2⟩ := q_edit_base h ed sv
  have e271 : N2 2 271 = M2 2 271 := sv.1 2 271 (by decide) (by decide)
  refine ⟨⟨_, rfl, by rw [← hb.2.1.2.2.2.2.2.2 g (by omega) (by omega)]⟩, q_set hb (by decide) ?_ ?_, Or.inl ⟨(by rw [jx_upc (by decide)]; exact f1), (by rw [jx_upc (by decide)]; exact f2)⟩⟩
  · obtain ⟨r1, r2, r3, r4, r5, r6, r7⟩ := hb.2.1
    obtain ⟨o1, o2, o3, o4, o5, o6⟩ := hb.2.2.1
    refine ⟨?_, fun e e1 e2 => ?_, fun j j1 j2 => ?_, ?_, ?_, fun i i1 i2 => ?_, fun j j1 j2 => ?_⟩
    · rw [jx_upc (by decide), q_upA, if_neg (by omega)]; exact r1
    · rw [q_upA, if_neg (by omega)] at e2
      obtain ⟨y1, y2, y3, y4, y5, y6⟩ := r2 e e1 e2
      have ol := (o2 e e1 e2).1
      simp only [q_upA]
      rw [if_neg (by omega), if_neg (by omega), if_neg (by omega), if_neg (by omega), if_neg (by omega)]
      refine ⟨by rw [jx_upc (by decide)]; exact y1, fun i i1 i2 => ?_, by rw [jx_upc (by decide)]; exact y3, by rw [jx_upc (by decide)]; exact y4, by rw [jx_upc (by decide)]; exact y5, by rw [jx_upc (by decide)]; exact y6⟩
      rw [if_neg (by omega), jx_upc (by decide)]
      exact y2 i i1 i2
    · rw [q_upA, if_neg (by omega), jx_upc (by decide)]; exact r3 j j1 j2
    · rw [q_upA, if_neg (by omega), jx_upc (by decide)]; exact r4
    · rw [q_upA, if_neg (by omega), jx_upc (by decide)]; exact r5
    · rw [q_upA, if_neg (by omega)] at i2
      rw [q_upA, if_neg (by omega), jx_upc (by decide)]; exact r6 i i1 i2
    · rw [q_upA]
      by_cases z : j = g
      · rw [if_pos (by omega), z]; exact jx_ups
      · rw [if_neg (by omega)]; exact (jx_upx z).trans (r7 j j1 j2)
  · obtain ⟨o1, o2, o3, o4, o5, o6⟩ := hb.2.2.1
    refine ⟨by rw [q_upA, if_neg (by omega)]; exact o1, fun e e1 e2 => ?_, fun j j1 j2 => ?_, by rw [q_upA, if_neg (by omega)]; exact o4, by rw [q_upA, if_neg (by omega)]; exact o5, fun j j1 j2 => ?_⟩
    · rw [q_upA, if_neg (by omega)] at e2
      have := o2 e e1 e2
      simp only [q_upA]
      rw [if_neg (by omega), if_neg (by omega), if_neg (by omega), if_neg (by omega)]
      exact this
    · rw [q_upA, if_neg (by omega)]; exact o3 j j1 j2
    · have := o6 j j1 j2
      simp only [q_upA]
      rw [if_neg (show ¬ (271 : Int) = 288 + g by omega)]
      split <;> omega
-- ===== the input =====
theorem t_err_two (f f' : Int → Int) (lim : Int) {n1 n2 : Int} (h1 : n1 < 0) (h2 : n2 < 0) : ∀ (k : Nat) (i : Int), 0 ≤ i → (∀ j, i ≤ j → j < i + k → f j = f' j) → (t_err f lim n1 i k = n1 ∧ t_err f' lim n2 i k = n2 ∧ (0 < k → i + k ≤ lim)) ∨ (t_err f lim n1 i k = t_err f' lim n2 i k ∧ i ≤ t_err f lim n1 i k ∧ t_err f lim n1 i k < i + k) := by
  intro k
  induction k with
  | zero => intro i _ _; exact Or.inl ⟨rfl, rfl, fun z => by omega⟩
  | succ k ih =>
    intro i hi hf
    have e := hf i (by omega) (by omega)
    simp only [t_err]
    rw [← e]
    by_cases hc : lim ≤ i ∨ f i < 97 ∨ 122 < f i
    · rw [if_pos hc, if_pos hc]
      exact Or.inr ⟨rfl, by omega, by omega⟩
    · rw [if_neg hc, if_neg hc]
      rcases ih (i + 1) (by omega) (fun j j1 j2 => hf j (by omega) (by omega)) with ⟨y1, y2, y3⟩ | ⟨y1, y2, y3⟩
      · refine Or.inl ⟨y1, y2, fun _ => ?_⟩
        by_cases hk : 0 < k
        · have := y3 hk; omega
        · omega
      · exact Or.inr ⟨y1, by omega, by omega⟩
theorem q_err {M1 M2 : jxM} (h : q_base M1 M2) (lim : Int) : (t_err (M1 3) lim (-1) 0 (M1 2 1).toNat = -1 ∧ t_err (M2 4) lim (-9) 0 (M2 1 4).toNat = -9 ∧ (0 < M2 1 4 → M2 1 4 ≤ lim)) ∨ (t_err (M1 3) lim (-1) 0 (M1 2 1).toNat = t_err (M2 4) lim (-9) 0 (M2 1 4).toNat ∧ 0 ≤ t_err (M1 3) lim (-1) 0 (M1 2 1).toNat ∧ t_err (M1 3) lim (-1) 0 (M1 2 1).toNat < 20) := by
  obtain ⟨a1, a2, a3⟩ := h.1
  rw [a1]
  rcases t_err_two (M1 3) (M2 4) lim (n1 := -1) (n2 := -9) (by omega) (by omega) (M2 1 4).toNat 0 (by omega) (fun j j1 j2 => a3 j j1 (by omega)) with ⟨y1, y2, y3⟩ | ⟨y1, y2, y3⟩
  · exact Or.inl ⟨y1, y2, fun z => by have := y3 (by omega); omega⟩
  · exact Or.inr ⟨y1, y2, by omega⟩
theorem sp_F_setInput (d : Nat) (M : jxM) (h1 : (0 ≤ M 1 4 ∧ M 1 4 ≤ 20) ∧ (0 ≤ M 1 2 ∧ M 1 2 ≤ 6)) {K : jxK} (he : t_err (M 4) 16 (-9) 0 (M 1 4).toNat ≠ -9 → (0 ≤ t_err (M 4) 16 (-9) 0 (M 1 4).toNat ∧ t_err (M 4) 16 (-9) 0 (M 1 4).toNat < 20) ∧ K (some (.inl (-10 - t_err (M 4) 16 (-9) 0 (M 1 4).toNat))) M)
    (h : t_err (M 4) 16 (-9) 0 (M 1 4).toNat = -9 → M 1 4 ≤ 16 ∧ ∀ Ms M', q_save M Ms → (∀ c x, c ≠ 2 → ¬ (c = 1 ∧ x = 4) → M' c x = Ms c x) → M' 1 4 = 0 → (∀ k, k < 271 → M' 2 k = Ms 2 k) → M' 2 271 = M 1 4 → (∀ i, 0 ≤ i → i < M 1 4 → M' 2 (272 + i) = M 4 i) → (∀ g, 0 ≤ g → g ≤ 16 → M' 2 (288 + g) = 0) → K (some (.inl (M 1 4))) M') : jx_call jx_G2 jx_T (d + 3) 100 [.inr 1] M K := by
  intro X hX
  refine bk_F_setInput_0 (d := d) hX M ⟨by omega, fun q => ?_, fun q => ⟨by have := he q; omega, (he q).2⟩⟩
  obtain ⟨hm, hk⟩ := h q
  refine sp_F_save (d + 1) M h1.2 (fun Ms sv => ⟨rfl, ?_⟩)
  have e14 : Ms 1 4 = M 1 4 := sv.2.1 4 (by decide) (by decide)
  rw [q]
  refine jx_loop (σ := jxM) 16 (fun i N => 0 ≤ i ∧ i ≤ 16 ∧ (∀ c x, c ≠ 2 → N c x = Ms c x) ∧ (∀ k, k < 271 → N 2 k = Ms 2 k) ∧ N 2 271 = M 1 4 ∧ (∀ j, 0 ≤ j → j < i → j < M 1 4 → N 2 (272 + j) = M 4 j)) (fun i N => X 21 [.inr 1, .inl (-9), .inl i] [] N) ?_ 0 _ ⟨by omega, by omega, fun c x hc => jx_upc hc, fun k hk => jx_upx (by omega), by rw [jx_ups, e14], fun j _ _ _ => by omega⟩
  intro i N ⟨i1, i2, i3, i4, i5, i6⟩ ih
  have n14 : N 1 4 = M 1 4 := (i3 1 4 (by decide)).trans e14
  refine bk_F_setInput_21 (d := d) hX (-9) i N ⟨fun q2 => ?_, fun q2 => ⟨by omega, fun q3 => ⟨by omega, ih _ q2 ⟨by omega, by omega, fun c x hc => ?_, fun k hk => ?_, ?_, fun j j1 j2 j3 => ?_⟩⟩, fun q3 => ⟨by omega, ih _ q2 ⟨by omega, by omega, fun c x hc => ?_, fun k hk => ?_, ?_, fun j j1 j2 j3 => ?_⟩⟩⟩⟩
  · refine jx_loop (σ := jxM) 17 (fun g N => 0 ≤ g ∧ g ≤ 17 ∧ (∀ c x, c ≠ 2 → N c x = Ms c x) ∧ (∀ k, k < 271 → N 2 k = Ms 2 k) ∧ N 2 271 = M 1 4 ∧ (∀ j, 0 ≤ j → j < M 1 4 → N 2 (272 + j) = M 4 j) ∧ (∀ j, 0 ≤ j → j < g → N 2 (288 + j) = 0)) (fun g N => X 44 [.inr 1, .inl (-9), .inl g] [] N) ?_ 0 N ⟨by omega, by omega, i3, i4, i5, fun j j1 j2 => i6 j j1 (by omega) j2, fun j _ _ => by omega⟩
    intro g N2 ⟨g1, g2, g3, g4, g5, g6, g7⟩ jh
    refine bk_F_setInput_44 (d := d) hX (-9) g N2 ⟨fun z => ?_, fun z => ⟨by omega, jh _ (by omega) ⟨by omega, by omega, fun c x hc => ?_, fun k hk => ?_, ?_, fun j j1 j2 => ?_, fun j j1 j2 => ?_⟩⟩⟩
    · rw [g5]
      refine hk Ms _ sv (fun c x c1 c2 => ?_) jx_ups (fun k hk2 => ?_) ?_ (fun j j1 j2 => ?_) (fun j j1 j2 => ?_)
      · by_cases y : c = 1
        · subst y; rw [jx_upx (fun w => c2 ⟨rfl, w⟩)]; exact g3 _ _ c1
        · rw [jx_upc y]; exact g3 _ _ c1
      · rw [jx_upc (by decide)]; exact g4 k hk2
      · rw [jx_upc (by decide)]; exact g5
      · rw [jx_upc (by decide)]; exact g6 j j1 j2
      · rw [jx_upc (by decide)]; exact g7 j j1 (by omega)
    · rw [jx_upc hc]; exact g3 c x hc
    · rw [jx_upx (by omega)]; exact g4 k hk
    · rw [jx_upx (by omega)]; exact g5
    · rw [jx_upx (by omega)]; exact g6 j j1 j2
    · rcases Int.lt_or_le j g with y | y
      · rw [jx_upx (by omega)]; exact g7 j j1 y
      · obtain rfl : j = g := by omega
        rw [jx_ups]
  · rw [jx_upc hc]; exact i3 c x hc
  · rw [jx_upx (by omega)]; exact i4 k hk
  · rw [jx_upx (by omega)]; exact i5
  · rw [jx_upx (by omega)]; exact i6 j j1 (by omega) j3
  · rw [jx_upc hc]; exact i3 c x hc
  · rw [jx_upx (by omega)]; exact i4 k hk
  · rw [jx_upx (by omega)]; exact i5
  · rcases Int.lt_or_le j i with y | y
    · rw [jx_upx (by omega)]; exact i6 j j1 y j3
    · obtain rfl : j = i := by omega
      rw [jx_ups, i3 4 _ (by decide)]
      exact sv.1 4 _ (by decide) (by decide)
theorem pr_setInput (d1 d2 : Nat) {M1 M2 : jxM} (h : q_base M1 M2) : jx_call jx_G1 jx_T (d1 + 6) 57 [.inr 1] M1 (fun v M1' => jx_call jx_G2 jx_T (d2 + 3) 100 [.inr 1] M2 (q_pair M1 M2 v M1')) := by
  obtain ⟨a1, a2, a3, a4, a5, a6, a7, a8, a9, a10⟩ := q_bs h
  have hE := q_err h 16
  intro X hX
  refine bk_C_setInput_0 (d := d1) hX M1 ⟨by omega, fun q => ?_, fun q => ⟨by omega, ?_⟩⟩
  · refine sp_C_beginEdit d1 M1 (by omega) (fun N1 ed => ⟨rfl, ?_⟩)
    have e21 : N1 2 1 = M1 2 1 := ed.1 2 1 (by omega) (by omega)
    have hm : M2 1 4 ≤ 16 := by omega
    refine sp_M_takeInput (d1 + 3) N1 (by omega) ⟨rfl, ?_⟩
    refine sp_F_setInput d2 M2 (by omega) (fun z => by omega) (fun z => ⟨hm, fun N2 M' sv m1 m2 m3 m4 m5 m6 => ?_⟩)
    obtain ⟨hb, f1, f2⟩ := q_edit_base h ed sv
    have fi : ∀ (N : jxM) (c : Nat) (x : Int), c ≠ 14 → jx_fi N 14 17 0 c x = N c x := fun N c x hc => by unfold jx_fi; rw [if_neg (fun y => hc y.1)]
    refine ⟨⟨_, rfl, ?_⟩, q_mod hb ⟨?_, ?_, fun i i1 i2 => ?_⟩ ?_ ?_ (fun c x c1 c2 => ?_) (fun x => m1 3 x (by decide) (by omega)) (m1 1 2 (by decide) (by omega)), Or.inl ⟨?_, ?_⟩⟩
    · rw [fi _ _ _ (by decide), jx_ups, e21, a1]
    · rw [jx_ups, m2]
    · rw [m2]; omega
    · rw [m2] at i2; omega
    · obtain ⟨r1, r2, r3, r4, r5, r6, r7⟩ := hb.2.1
      obtain ⟨o1, o2, o3, o4, o5, o6⟩ := hb.2.2.1
      have out : ∀ (c : Nat) (x : Int), 4 ≤ c → c ≠ 14 → c ≠ 13 → ¬ (c = 4 ∧ x = 5) → jx_up (jx_fi (jx_up (jx_cp N1 3 0 13 0 (N1 2 1)) 4 5 (N1 2 1)) 14 17 0) 2 1 0 c x = N1 c x := by
        intro c x c1 c2 c3 c4
        rw [jx_upc (by omega), fi _ _ _ c2]
        by_cases y : c = 4
        · subst y; rw [jx_upx (fun w => c4 ⟨rfl, w⟩), jx_cpc c3]
        · rw [jx_upc y, jx_cpc c3]
      refine ⟨?_, fun e e1 e2 => ?_, fun j j1 j2 => ?_, ?_, ?_, fun i i1 i2 => ?_, fun g g1 g2 => ?_⟩
      · rw [out 5 6 (by decide) (by decide) (by decide) (by omega), m3 0 (by omega)]; exact r1
      · rw [m3 0 (by omega)] at e2
        obtain ⟨y1, y2, y3, y4, y5, y6⟩ := r2 e e1 e2
        have ol := (o2 e e1 e2).1
        rw [m3 (1 + 11 * e) (by omega), m3 (1 + 11 * e + 7) (by omega), m3 (1 + 11 * e + 8) (by omega), m3 (1 + 11 * e + 9) (by omega), m3 (1 + 11 * e + 10) (by omega)]
        refine ⟨by rw [out 7 e (by decide) (by decide) (by decide) (by omega)]; exact y1, fun i i1 i2 => ?_, by rw [out 8 e (by decide) (by decide) (by decide) (by omega)]; exact y3, by rw [out 9 e (by decide) (by decide) (by decide) (by omega)]; exact y4, by rw [out 10 e (by decide) (by decide) (by decide) (by omega)]; exact y5, by rw [out 11 e (by decide) (by decide) (by decide) (by omega)]; exact y6⟩
        rw [out 6 _ (by decide) (by decide) (by decide) (by omega), m3 (1 + 11 * e + 1 + i) (by omega)]
        exact y2 i i1 i2
      · rw [out 12 j (by decide) (by decide) (by decide) (by omega), m3 (221 + j) (by omega)]; exact r3 j j1 j2
      · rw [out 4 4 (by decide) (by decide) (by decide) (by omega), m3 270 (by omega)]; exact r4
      · rw [m4, jx_upc (by decide), fi _ _ _ (by decide), jx_ups, e21, a1]
      · rw [m4] at i2
        rw [m5 i i1 i2, jx_upc (by decide), fi _ _ _ (by decide), jx_upc (by decide), jx_cp0 i1 (by omega), ed.1 3 i (by omega) (by omega)]
        exact h.1.2.2 i i1 i2
      · rw [m6 g g1 g2, jx_upc (by decide)]
        unfold jx_fi
        rw [if_pos ⟨rfl, g1, by omega⟩]
    · obtain ⟨o1, o2, o3, o4, o5, o6⟩ := hb.2.2.1
      refine ⟨by rw [m3 0 (by omega)]; exact o1, fun e e1 e2 => ?_, fun j j1 j2 => by rw [m3 (221 + j) (by omega)]; exact o3 j j1 j2, by rw [m3 270 (by omega)]; exact o4, by rw [m4]; omega, fun g g1 g2 => by rw [m6 g g1 g2]; omega⟩
      rw [m3 0 (by omega)] at e2
      rw [m3 (1 + 11 * e) (by omega), m3 (1 + 11 * e + 8) (by omega), m3 (1 + 11 * e + 9) (by omega), m3 (1 + 11 * e + 10) (by omega)]
      exact o2 e e1 e2
    · rw [jx_upc (by omega), fi _ _ _ (by omega), jx_upc (by omega), jx_cpc (by omega)]
    · rw [jx_upc (by decide), fi _ _ _ (by decide), jx_upc (by decide), jx_cpc (by decide)]; exact f1
    · rw [m1 1 5 (by decide) (by omega)]; exact f2
  · refine sp_F_setInput d2 M2 (by omega) (fun z => ⟨by omega, q_same2 h (by omega)⟩) (fun z => by omega)
