/-- the slots of a gap hold the segments l -/
def q_sl (M : jxM) (A : Int → Int) (g : Int) (l : List Int) : Prop := M 85 g = (l.length : Int) ∧ ∀ k : Nat, k < l.length → M 86 (g * 21 + k) = l.getD k 0 ∧ M 87 (g * 21 + k) = f_end A (l.getD k 0) g ∧ M 88 (g * 21 + k) = f_cls A (l.getD k 0) ∧ M 89 (g * 21 + k) = f_cost A (l.getD k 0)
/-- the lattice is built -/
def q_lat (M : jxM) (A : Int → Int) : Prop := (∀ g, 0 ≤ g → g < A 271 → q_sl M A g (a_seg A g)) ∧ M 85 (A 271) = 0
theorem q_sl_fr {M M' : jxM} {A : Int → Int} {g : Int} {l : List Int} (h : q_sl M A g l) (h5 : M' 85 g = M 85 g) (hf : ∀ c x, 86 ≤ c → c ≤ 89 → g * 21 ≤ x → x < g * 21 + l.length → M' c x = M c x) : q_sl M' A g l :=
  ⟨by rw [h5]; exact h.1, fun k hk => by
    obtain ⟨a, b, c, d⟩ := h.2 k hk
    rw [hf 86 _ (by omega) (by omega) (by omega) (by omega), hf 87 _ (by omega) (by omega) (by omega) (by omega), hf 88 _ (by omega) (by omega) (by omega) (by omega), hf 89 _ (by omega) (by omega) (by omega) (by omega)]
    exact ⟨a, b, c, d⟩⟩
theorem getD_app {l : List Int} {x : Int} {k : Nat} (h : k < l.length) : (l ++ [x]).getD k 0 = l.getD k 0 := by simp [List.getD_eq_getElem?_getD, List.getElem?_append_left h]
theorem getD_last {l : List Int} {x : Int} : (l ++ [x]).getD l.length 0 = x := by simp [List.getD_eq_getElem?_getD]
theorem q_sl_add {M : jxM} {A : Int → Int} {g s : Int} {l : List Int} (h : q_sl M A g l) : q_sl (jx_up (jx_up (jx_up (jx_up (jx_up M 86 (g * 21 + M 85 g) s) 87 (g * 21 + M 85 g) (f_end A s g)) 88 (g * 21 + M 85 g) (f_cls A s)) 89 (g * 21 + M 85 g) (f_cost A s)) 85 g (M 85 g + 1)) A g (l ++ [s]) := by
  obtain ⟨h1, h2⟩ := h
  refine ⟨by rw [jx_ups, h1, List.length_append, List.length_singleton]; omega, fun k hk => ?_⟩
  rw [List.length_append, List.length_singleton] at hk
  rw [jx_upc (c := 85) (by decide), jx_upc (c := 89) (by decide), jx_upc (c := 88) (by decide), jx_upc (c := 87) (by decide), jx_upc (c := 85) (by decide), jx_upc (c := 89) (by decide), jx_upc (c := 88) (by decide), jx_upc (c := 85) (by decide), jx_upc (c := 89) (by decide), jx_upc (c := 85) (by decide)]
  by_cases z : k < l.length
  · rw [getD_app z]
    obtain ⟨a, b, c, d⟩ := h2 k z
    rw [jx_upx (by omega), jx_upx (by omega), jx_upc (by decide), jx_upx (by omega), jx_upc (by decide), jx_upc (by decide), jx_upx (by omega), jx_upc (by decide), jx_upc (by decide), jx_upc (by decide)]
    exact ⟨a, b, c, d⟩
  · obtain rfl : k = l.length := by omega
    rw [getD_last, ← h1]
    exact ⟨jx_ups, jx_ups, jx_ups, jx_ups⟩
theorem sp_L_addSlot (d : Nat) (g t e c k : Int) (M : jxM) (h1 : (0 ≤ g ∧ g ≤ 16) ∧ (0 ≤ t ∧ t ≤ 16) ∧ (0 ≤ M 85 g ∧ M 85 g < 21)) {K : jxK} (h0 : ¬ m_may M g t → K none M) (h : m_may M g t → K none (jx_up (jx_up (jx_up (jx_up (jx_up M 86 (g * 21 + M 85 g) e) 87 (g * 21 + M 85 g) t) 88 (g * 21 + M 85 g) c) 89 (g * 21 + M 85 g) k) 85 g (M 85 g + 1))) : jx_call jx_G1 jx_T (d + 2) 14 [.inr 83, .inl g, .inl t, .inl e, .inl c, .inl k] M K := by
  intro X hX
  exact bk_L_addSlot_0 (d := d) hX g t e c k M ⟨by omega, fun q => by omega, fun q => ⟨by omega, fun q2 => ⟨by omega, h q2⟩, h0⟩⟩
/-- what the class's present model says, by the state -/
theorem q_mst {M : jxM} {A : Int → Int} (h : q_rs M 4 A) {e g : Int} (he : 0 ≤ e ∧ e < A 0) (hg : 0 ≤ g) : m_stands M e g ↔ f_stands A e g := by
  obtain ⟨r1, r2, r3, r4, r5, r6, r7⟩ := h
  obtain ⟨y1, y2, -⟩ := r2 e he.1 he.2
  have y1 : M 7 e = A (1 + 11 * e) := y1
  have r5 : M 4 5 = A 271 := r5
  unfold m_stands f_stands
  rw [y1, r5]
  constructor
  · rintro ⟨a, b⟩
    refine ⟨a, fun i i1 i2 => ?_⟩
    rw [← y2 i i1 i2, Int.add_assoc, ← r6 (g + i) (by omega) (by omega)]
    exact b i i1 i2
  · rintro ⟨a, b⟩
    refine ⟨a, fun i i1 i2 => ?_⟩
    have := b i i1 i2
    rw [← y2 i i1 i2, Int.add_assoc, ← r6 (g + i) (by omega) (by omega)] at this
    exact this
theorem q_mmay {M : jxM} {A : Int → Int} (h : q_rs M 4 A) (ho : q_ok A) {a b : Int} (ha : 0 ≤ a) (hb : 0 ≤ b ∧ b ≤ 16) : m_may M a b ↔ f_may A a b := by
  obtain ⟨r1, r2, r3, r4, r5, r6, r7⟩ := h
  obtain ⟨o1, o2, o3, o4, o5, o6⟩ := ho
  have e := r7 b hb.1 hb.2
  have e : M 14 b = A (288 + b) := e
  unfold m_may f_may
  rw [e]
  constructor
  · rintro ⟨x, y⟩
    refine ⟨Or.inr x, fun g g1 g2 => ?_⟩
    rw [← r7 g (by omega) (by omega)]
    exact y g g1 g2
  · rintro ⟨x, y⟩
    refine ⟨?_, fun g g1 g2 => ?_⟩
    · rcases x with x | x
      · have := (o6 b hb.1 hb.2).2 (by omega)
        omega
      · exact x
    · have := y g g1 g2
      rw [← r7 g (by omega) (by omega)] at this
      exact this
theorem sp_L_sortByLength (d : Nat) (M : jxM) {A : Int → Int} (hr : q_rs M 4 A) (ho : q_ok A) {K : jxK} (h : ∀ M', (∀ c x, c ≠ 84 → M' c x = M c x) → j_l (M' 84) 0 (a_byl A 6) → K none M') : jx_call jx_G1 jx_T (d + 1) 12 [.inr 83] M K := by
  have ho2 := ho
  obtain ⟨o1, o2, o3, o4, o5, o6⟩ := ho
  have hn : M 5 6 = A 0 := hr.1
  have hl : ∀ e, 0 ≤ e → e < A 0 → M 7 e = A (1 + 11 * e) := fun e e1 e2 => (hr.2.1 e e1 e2).1
  intro X hX
  refine bk_L_sortByLength_0 (d := d) hX M ?_
  have lp : ∀ (sz : Int) (q : jxM × Int), (0 ≤ sz ∧ sz ≤ 6 ∧ (∀ c x, c ≠ 84 → q.1 c x = M c x) ∧ q.2 = ((a_byl A (6 - sz).toNat).length : Int) ∧ j_l (q.1 84) 0 (a_byl A (6 - sz).toNat)) → X 8 [.inr 83, .inr 5, .inl q.2, .inl sz, .inr 0] [] q.1 := by
    refine jx_loopM (σ := jxM × Int) 0 _ _ ?_
    intro sz ⟨N, pl⟩ ⟨s1, s2, s3, s4, s5⟩ ih
    simp only at s3 s4 s5
    refine bk_L_sortByLength_8 (d := d) hX pl sz N ⟨fun q => ?_, fun q => ?_⟩
    · obtain rfl : sz = 0 := by omega
      exact h N s3 s5
    · have blen : ∀ e : Int, e ≤ A 0 → (a_byl A (6 - sz).toNat ++ j_fl (fun e => A (1 + 11 * e) = sz) e.toNat).length ≤ 20 := by
        intro e he
        have z1 := j_fl_mono (fun e => A (1 + 11 * e) = sz) (a := e.toNat) (b := (A 0).toNat) (by omega)
        have z2 : (a_byl A ((6 - sz).toNat + 1)).length = (a_byl A (6 - sz).toNat).length + (j_fl (fun e => A (1 + 11 * e) = sz) (A 0).toNat).length := by
          simp only [a_byl, List.length_append]
          rw [show (6 : Int) - ((6 - sz).toNat : Int) = sz by omega]
        have z3 := a_byl_mono A (s := (6 - sz).toNat + 1) (by omega)
        rw [a_byl_len ho2] at z3
        rw [List.length_append]
        omega
      have inner : ∀ (e : Int) (q : jxM × Int), (0 ≤ e ∧ e ≤ A 0 ∧ (∀ c x, c ≠ 84 → q.1 c x = M c x) ∧ q.2 = ((a_byl A (6 - sz).toNat ++ j_fl (fun e => A (1 + 11 * e) = sz) e.toNat).length : Int) ∧ j_l (q.1 84) 0 (a_byl A (6 - sz).toNat ++ j_fl (fun e => A (1 + 11 * e) = sz) e.toNat)) → X 12 [.inr 83, .inr 5, .inl q.2, .inl sz, .inl e] [] q.1 := by
        refine jx_loop (σ := jxM × Int) (A 0) _ _ ?_
        intro e ⟨L, pl⟩ ⟨e1, e2, e3, e4, e5⟩ jh
        simp only at e3 e4 e5
        have n0 : L 5 6 = A 0 := (e3 5 6 (by decide)).trans hn
        have bl := blen e e2
        refine bk_L_sortByLength_12 (d := d) hX pl sz e L ⟨fun z => ⟨by omega, ?_⟩, fun z => ?_⟩
        · obtain rfl : e = A 0 := by omega
          have e9 : a_byl A (6 - sz).toNat ++ j_fl (fun e => A (1 + 11 * e) = sz) (A 0).toNat = a_byl A (6 - (sz + (-1))).toNat := by
            rw [show (6 - (sz + (-1))).toNat = (6 - sz).toNat + 1 by omega]
            simp only [a_byl]
            rw [show (6 : Int) - ((6 - sz).toNat : Int) = sz by omega]
          rw [e9] at e4 e5
          exact ih (L, pl) q ⟨by omega, by omega, e3, e4, e5⟩
        · have ne : L 7 e = A (1 + 11 * e) := (e3 7 e (by decide)).trans (hl e e1 (by omega))
          have et : (e + 1).toNat = e.toNat + 1 := by omega
          refine ⟨by omega, fun z2 => ⟨by omega, ?_⟩, fun z2 => ?_⟩
          · refine jh (L, pl) (by omega) ⟨by omega, by omega, e3, ?_, ?_⟩
            · rw [et, j_fl_f (by rw [show ((e.toNat : Nat) : Int) = e by omega]; omega)]; exact e4
            · rw [et, j_fl_f (by rw [show ((e.toNat : Nat) : Int) = e by omega]; omega)]; exact e5
          · have yes : A (1 + 11 * ((e.toNat : Nat) : Int)) = sz := by rw [show ((e.toNat : Nat) : Int) = e by omega]; omega
            have b2 := blen (e + 1) (by omega)
            rw [et, j_fl_t yes, ← List.append_assoc, List.length_append, List.length_singleton] at b2
            refine ⟨fun z3 => by omega, fun z3 => ⟨by omega, jh (jx_up L 84 pl e, pl + 1) (by omega) ⟨by omega, by omega, fun c x hc => ?_, ?_, ?_⟩⟩⟩
            · show jx_up L 84 pl e c x = M c x
              rw [jx_upc hc]; exact e3 c x hc
            · show pl + 1 = _
              rw [et, j_fl_t yes, ← List.append_assoc, List.length_append, List.length_singleton]
              omega
            · show j_l (jx_up L 84 pl e 84) 0 _
              rw [et, j_fl_t yes, ← List.append_assoc, show ((e.toNat : Nat) : Int) = e by omega]
              refine j_l_snoc e5 (fun k k1 k2 => jx_upx (by omega)) ?_
              rw [← e4, Int.zero_add, jx_ups]
      refine inner 0 (N, pl) ⟨by omega, by omega, s3, ?_, ?_⟩
      · rw [show (0 : Int).toNat = 0 from rfl]; simp only [j_fl, List.append_nil]; exact s4
      · rw [show (0 : Int).toNat = 0 from rfl]; simp only [j_fl, List.append_nil]; exact s5
  exact lp 6 (M, 0) ⟨by omega, by omega, fun _ _ _ => rfl, rfl, fun k hk => absurd hk (Nat.not_lt_zero _)⟩
theorem take_s {l : List Int} {k : Nat} (h : k < l.length) : l.take (k + 1) = l.take k ++ [l.getD k 0] := by
  rw [List.take_succ_eq_append_getElem h]
  simp [List.getD_eq_getElem?_getD, List.getElem?_eq_getElem h]
theorem q_rs_fr {M M' : jxM} {A : Int → Int} (ho : q_ok A) (h : q_rs M 4 A) (hf : ∀ c x, 4 ≤ c → c ≤ 14 → M' c x = M c x) : q_rs M' 4 A := q_rs_blk ho h (q_blk_rfl (fun c x c1 c2 => hf c x c1 (by omega)))
set_option maxHeartbeats 4000000 in
theorem sp_L_addEntriesAt (d : Nat) (g : Int) (M : jxM) {A : Int → Int} (hr : q_rs M 4 A) (ho : q_ok A) (hb : j_l (M 84) 0 (a_byl A 6)) (hg : 0 ≤ g ∧ g < A 271) (h0 : M 85 g = 0) {K : jxK} (h : ∀ M', (∀ c x, (c < 85 ∨ 89 < c) → M' c x = M c x) → (∀ x, x ≠ g → M' 85 x = M 85 x) → (∀ c x, 86 ≤ c → c ≤ 89 → (x < g * 21 ∨ g * 21 + 21 ≤ x) → M' c x = M c x) → q_sl M' A g (a_fsg A g 6) → K none M') : jx_call jx_G1 jx_T (d + 3) 13 [.inr 83, .inl g] M K := by
  have ho2 := ho
  obtain ⟨o1, o2, o3, o4, o5, o6⟩ := ho
  have blen := a_byl_len ho2
  intro X hX
  refine bk_L_addEntriesAt_0 (d := d) hX g M ?_
  refine jx_loop (σ := jxM) (A 0) (fun i N => 0 ≤ i ∧ i ≤ A 0 ∧ (∀ c x, (c < 85 ∨ 89 < c) → N c x = M c x) ∧ (∀ x, x ≠ g → N 85 x = M 85 x) ∧ (∀ c x, 86 ≤ c → c ≤ 89 → (x < g * 21 ∨ g * 21 + 21 ≤ x) → N c x = M c x) ∧ q_sl N A g (j_lf (fun e => f_stands A e g ∧ f_may A g (g + A (1 + 11 * e))) ((a_byl A 6).take i.toNat))) (fun i N => X 6 [.inr 83, .inl g, .inr 5, .inl i, .inr 0] [] N) ?_ 0 M ⟨by omega, by omega, fun _ _ _ => rfl, fun _ _ => rfl, fun _ _ _ _ _ => rfl, ?_⟩
  · intro i N ⟨i1, i2, i3, i4, i5, i6⟩ ih
    have nr : q_rs N 4 A := q_rs_fr ho2 hr (fun c x c1 c2 => i3 c x (by omega))
    have n0 : N 5 6 = A 0 := nr.1
    have n45 : N 4 5 = A 271 := nr.2.2.2.2.1
    refine bk_L_addEntriesAt_6 (d := d) hX g i N ⟨fun q => ?_, fun q => ?_⟩
    · obtain rfl : i = A 0 := by omega
      rw [show (A 0).toNat = (a_byl A 6).length from blen.symm, List.take_length, a_lf_byl] at i6
      exact h N i3 i4 i5 i6
    · have hi : i.toNat < (a_byl A 6).length := by omega
      have e84 : N 84 i = (a_byl A 6).getD i.toNat 0 := by
        have := hb i.toNat hi
        rw [show (0 : Int) + (i.toNat : Int) = i by omega] at this
        rw [i3 84 i (by omega)]; exact this
      have hm := a_byl_mem A 6 (j_getD_mem hi)
      rw [← e84] at hm
      obtain ⟨y1, -, y3, y4, y5, y6⟩ := nr.2.1 _ hm.1 hm.2
      have y1 : N 7 (N 84 i) = A (1 + 11 * N 84 i) := y1
      have y4 : N 9 (N 84 i) = A (1 + 11 * N 84 i + 8) := y4
      have y5 : N 10 (N 84 i) = A (1 + 11 * N 84 i + 9) := y5
      have y6 : N 11 (N 84 i) = A (1 + 11 * N 84 i + 10) := y6
      obtain ⟨p1, p2, p3, p4⟩ := o2 _ hm.1 hm.2
      have mst := q_mst nr (e := N 84 i) (g := g) hm hg.1
      have tk := take_s hi
      rw [← e84] at tk
      have it : (i + 1).toNat = i.toNat + 1 := by omega
      have next0 : ∀ N', (∀ c x, (c < 85 ∨ 89 < c) → N' c x = M c x) → (∀ x, x ≠ g → N' 85 x = M 85 x) → (∀ c x, 86 ≤ c → c ≤ 89 → (x < g * 21 ∨ g * 21 + 21 ≤ x) → N' c x = M c x) → q_sl N' A g (j_lf (fun e => f_stands A e g ∧ f_may A g (g + A (1 + 11 * e))) ((a_byl A 6).take i.toNat) ++ j_lf (fun e => f_stands A e g ∧ f_may A g (g + A (1 + 11 * e))) [N 84 i]) → X 6 [.inr 83, .inl g, .inr 5, .inl (i + 1), .inr 0] [] N' := fun N' a b c e => ih N' (by omega) ⟨by omega, by omega, a, b, c, by rw [it, tk, j_lf_app]; exact e⟩
      refine ⟨by omega, fun q2 => ⟨by omega, next0 N i3 i4 i5 ?_⟩, fun q2 => ⟨by omega, ?_⟩⟩
      · rw [j_lf_1f (fun z => q2 (mst.mpr z.1)), List.append_nil]; exact i6
      · have hst := mst.mp q2
        have hle := hst.1
        have hlen : (j_lf (fun e => f_stands A e g ∧ f_may A g (g + A (1 + 11 * e))) ((a_byl A 6).take i.toNat)).length ≤ i.toNat := Nat.le_trans (j_lf_le _) (by rw [List.length_take]; omega)
        have hsl := i6.1
        have may := q_mmay nr ho2 (a := g) (b := g + N 7 (N 84 i)) hg.1 (by omega)
        rw [y1] at may
        refine sp_L_addSlot d g _ _ _ _ N (by omega) (fun q3 => ⟨rfl, by omega, next0 N i3 i4 i5 ?_⟩) (fun q3 => ⟨rfl, by omega, next0 _ (fun c x hc => ?_) (fun x hx => ?_) (fun c x c1 c2 hx => ?_) ?_⟩)
        · rw [j_lf_1f (fun z => q3 (by rw [y1]; exact may.mpr z.2)), List.append_nil]; exact i6
        · rw [jx_upc (by omega), jx_upc (by omega), jx_upc (by omega), jx_upc (by omega), jx_upc (by omega)]; exact i3 c x hc
        · rw [jx_upx hx, jx_upc (by decide), jx_upc (by decide), jx_upc (by decide), jx_upc (by decide)]; exact i4 x hx
        · have gen : ∀ (L : jxM) (c' : Nat) (v : Int), jx_up L c' (g * 21 + N 85 g) v c x = L c x := fun L c' v => by
            by_cases z : c = c'
            · subst z; exact jx_upx (by omega)
            · exact jx_upc z
          rw [jx_upc (by omega), gen, gen, gen, gen]; exact i5 c x c1 c2 hx
        · rw [y1] at q3
          rw [j_lf_1t ⟨hst, may.mp q3⟩]
          have ns : N 84 i ≠ -5 := by omega
          have z1 : f_end A (N 84 i) g = g + N 7 (N 84 i) := by unfold f_end; rw [if_neg ns, y1]
          have z2 : f_cls A (N 84 i) = N 9 (N 84 i) := by unfold f_cls; rw [if_neg ns, y4]
          have z3 : f_cost A (N 84 i) = max 0 (N 10 (N 84 i) - 3 * N 11 (N 84 i)) := by unfold f_cost f_price; rw [if_neg ns, y5, y6]
          rw [← z1, ← z2, ← z3]
          exact q_sl_add i6
  · exact ⟨by rw [h0]; rfl, fun k hk => absurd hk (Nat.not_lt_zero _)⟩
set_option maxHeartbeats 4000000 in
theorem sp_L_build (d : Nat) (M : jxM) {A : Int → Int} (hr : q_rs M 4 A) (ho : q_ok A) {K : jxK} (h : ∀ M', (∀ c x, (c < 84 ∨ 89 < c) → M' c x = M c x) → q_lat M' A → K none M') : jx_call jx_G1 jx_T (d + 4) 11 [.inr 83] M K := by
  have ho2 := ho
  obtain ⟨o1, o2, o3, o4, o5, o6⟩ := ho
  intro X hX
  refine bk_L_build_0 (d := d) hX M ?_
  refine sp_L_sortByLength (d + 2) M hr ho2 (fun N1 n1 n2 => ⟨rfl, ?_⟩)
  refine sp_J_fill (d + 2) 84 17 0 N1 rfl (by omega) ⟨rfl, ?_⟩
  have f0 : ∀ x, 0 ≤ x → x < 17 → jx_fi N1 85 17 0 85 x = 0 := fun x x1 x2 => by unfold jx_fi; rw [if_pos ⟨rfl, x1, x2⟩]
  have fo : ∀ c x, c ≠ 85 → jx_fi N1 85 17 0 c x = N1 c x := fun c x hc => by unfold jx_fi; rw [if_neg (fun z => hc z.1)]
  refine jx_loop (σ := jxM) (A 271) (fun g N => 0 ≤ g ∧ g ≤ A 271 ∧ (∀ c x, (c < 84 ∨ 89 < c) → N c x = M c x) ∧ j_l (N 84) 0 (a_byl A 6) ∧ (∀ g', 0 ≤ g' → g' < g → q_sl N A g' (a_seg A g')) ∧ (∀ g', g ≤ g' → g' ≤ 16 → N 85 g' = 0)) (fun g N => X 8 [.inr 83, .inl g] [] N) ?_ 0 _ ⟨by omega, by omega, fun c x hc => (fo c x (by omega)).trans (n1 c x (by omega)), j_l_fr n2 (fun k _ _ => fo 84 k (by decide)), fun g' a b => by omega, fun g' a b => f0 g' a (by omega)⟩
  intro g N ⟨i1, i2, i3, i4, i5, i6⟩ ih
  have nr : q_rs N 4 A := q_rs_fr ho2 hr (fun c x c1 c2 => i3 c x (by omega))
  have n45 : N 4 5 = A 271 := nr.2.2.2.2.1
  refine bk_L_build_8 (d := d) hX g N ⟨fun q => ?_, fun q => ?_⟩
  · obtain rfl : g = A 271 := by omega
    exact h N i3 ⟨fun g' a b => i5 g' a b, i6 _ (by omega) (by omega)⟩
  · refine sp_L_addEntriesAt d g N nr ho2 i4 ⟨i1, by omega⟩ (i6 g (by omega) (by omega)) (fun L l1 l2 l3 l4 => ⟨rfl, by omega, ?_⟩)
    have lr : q_rs L 4 A := q_rs_fr ho2 nr (fun c x c1 c2 => l1 c x (by omega))
    have hlen := a_fsg_len ho2 g
    have hsl := l4.1
    have may := q_mmay lr ho2 (a := g) (b := g + 1) i1 (by omega)
    have keep : ∀ (L' : jxM), (∀ c x, (c < 85 ∨ 89 < c) → L' c x = L c x) → (∀ x, x ≠ g → L' 85 x = L 85 x) → (∀ c x, 86 ≤ c → c ≤ 89 → (x < g * 21 ∨ g * 21 + 21 ≤ x) → L' c x = L c x) → q_sl L' A g (a_seg A g) → X 8 [.inr 83, .inl (g + 1)] [] L' := by
      intro L' a b c e
      refine ih L' (by omega) ⟨by omega, by omega, fun c' x hc => ?_, ?_, fun g' g1 g2 => ?_, fun g' g1 g2 => ?_⟩
      · rw [a c' x (by omega), l1 c' x (by omega)]; exact i3 c' x hc
      · exact j_l_fr i4 (fun k _ _ => by rw [a 84 k (by omega), l1 84 k (by omega)])
      · rcases Int.lt_or_le g' g with y | y
        · have hl2 := a_seg_len ho2 g'
          refine q_sl_fr (i5 g' g1 y) (by rw [b g' (by omega), l2 g' (by omega)]) (fun c' x c1 c2 x1 x2 => ?_)
          rw [c c' x c1 c2 (by omega), l3 c' x c1 c2 (by omega)]
        · obtain rfl : g' = g := by omega
          exact e
      · rw [b g' (by omega), l2 g' (by omega)]; exact i6 g' (by omega) g2
    refine sp_L_addSlot (d + 1) g _ _ _ _ L (by omega) (fun q2 => ⟨rfl, by omega, keep L (fun _ _ _ => rfl) (fun _ _ => rfl) (fun _ _ _ _ _ => rfl) ?_⟩) (fun q2 => ⟨rfl, by omega, keep _ (fun c x hc => ?_) (fun x hx => ?_) (fun c x c1 c2 hx => ?_) ?_⟩)
    · have e : a_seg A g = a_fsg A g 6 := by unfold a_seg; rw [if_neg (fun z => q2 (may.mpr z)), List.append_nil]
      rw [e]; exact l4
    · rw [jx_upc (by omega), jx_upc (by omega), jx_upc (by omega), jx_upc (by omega), jx_upc (by omega)]
    · rw [jx_upx hx, jx_upc (by decide), jx_upc (by decide), jx_upc (by decide), jx_upc (by decide)]
    · have gen : ∀ (L2 : jxM) (c' : Nat) (v : Int), jx_up L2 c' (g * 21 + L 85 g) v c x = L2 c x := fun L2 c' v => by
        by_cases z : c = c'
        · subst z; exact jx_upx (by omega)
        · exact jx_upc z
      rw [jx_upc (by omega), gen, gen, gen, gen]
    · have e : a_seg A g = a_fsg A g 6 ++ [-5] := by unfold a_seg; rw [if_pos (may.mp q2)]
      have z1 : f_end A (-5) g = g + 1 := by unfold f_end; rw [if_pos rfl]
      have z2 : f_cls A (-5) = 5 := by unfold f_cls; rw [if_pos rfl]
      have z3 : f_cost A (-5) = L 4 4 := by unfold f_cost; rw [if_pos rfl]; exact lr.2.2.2.1.symm
      rw [e, ← z3]
      have := q_sl_add (s := -5) l4
      rw [z1, z2] at this
      exact this
