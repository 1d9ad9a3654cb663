theorem p_mv {A : Int → Int} (ho : q_ok A) {g c : Int} (g0 : 0 ≤ g) (g1 : g < A 271) {k : Nat} (hk : k < (a_W A g c).length) : (w_at (a_W A g c) k).2.1 ∈ a_seg A g ∧ ∃ j : Nat, (w_at (a_W A g c) k).2.2 = j ∧ j < (a_W A (f_end A (w_at (a_W A g c) k).2.1 g) (f_cls A (w_at (a_W A g c) k).2.1)).length := by
  obtain ⟨m1, j, a, m2, m3, -⟩ := a_W_mem ho g0 g1 (w_at_mem hk)
  exact ⟨m1, j, m3, (List.getElem?_eq_some_iff.mp m2).1⟩
theorem a_W_least {A : Int → Int} (ho : q_ok A) {g c s : Int} (g0 : 0 ≤ g) (g1 : g < A 271) (hs : s ∈ a_seg A g) (hk : 0 < (a_W A (f_end A s g) (f_cls A s)).length) : 0 < (a_W A g c).length ∧ (w_at (a_W A g c) 0).1 ≤ a_edge A c s + (w_at (a_W A (f_end A s g) (f_cls A s)) 0).1 := by
  rw [a_W_step ho g0 g1 (c := c)]
  unfold a_wstep
  have hx : (a_edge A c s + (w_at (a_W A (f_end A s g) (f_cls A s)) 0).1, s, (0 : Int)) ∈ w_srt [] (a_cands A (a_W A) g c) := by
    refine w_srt_mem.mpr (Or.inr ?_)
    unfold a_cands
    refine List.mem_flatMap.mpr ⟨s, hs, ?_⟩
    have hl : 0 < (w_cnd (a_edge A c s) s 0 (a_W A (f_end A s g) (f_cls A s))).length := by rw [w_cnd_len]; exact hk
    have := w_at_mem hl
    rw [w_cnd_at hk] at this
    exact this
  have hsd : w_sd (w_srt [] (a_cands A (a_W A) g c)) := w_srt_sd List.Pairwise.nil
  obtain ⟨i, hi, hi2⟩ := List.getElem_of_mem hx
  have h0 := w_at_sd hsd (Nat.zero_le i) hi
  have h1 := w_at_some hi
  rw [List.getElem?_eq_getElem hi, hi2, Option.some.injEq] at h1
  rw [← h1] at h0
  refine ⟨by rw [List.length_take]; omega, ?_⟩
  rw [w_at_take (by omega)]
  exact h0
/-- the segments of a path: from a gap, behind a class, the k-th way -/
noncomputable def p_tr (A : Int → Int) : Nat → Int → Int → Nat → List (Int × Int)
  | 0, _, _, _ => []
  | f + 1, g, c, k => if g < A 271 then (g, (w_at (a_W A g c) k).2.1) :: p_tr A f (f_end A (w_at (a_W A g c) k).2.1 g) (f_cls A (w_at (a_W A g c) k).2.1) (w_at (a_W A g c) k).2.2.toNat else []
theorem p_tr_end {A : Int → Int} {f : Nat} {g c : Int} {k : Nat} (h : A 271 ≤ g) : p_tr A f g c k = [] := by
  cases f with
  | zero => rfl
  | succ f => unfold p_tr; rw [if_neg (by omega)]
theorem p_tr_step {A : Int → Int} {f : Nat} {g c : Int} {k j : Nat} (h : g < A 271) (hj : (w_at (a_W A g c) k).2.2 = j) : p_tr A (f + 1) g c k = (g, (w_at (a_W A g c) k).2.1) :: p_tr A f (f_end A (w_at (a_W A g c) k).2.1 g) (f_cls A (w_at (a_W A g c) k).2.1) j := by
  simp only [p_tr]
  rw [if_pos h, hj]
  rfl
/-- two arrays hold a list of pairs -/
def p_hold (f g : Int → Int) (n : Int) (l : List (Int × Int)) : Prop := n = (l.length : Int) ∧ ∀ k : Nat, k < l.length → f k = (l.getD k (0, 0)).1 ∧ g k = (l.getD k (0, 0)).2
theorem p_hold_snoc {f g f' g' : Int → Int} {n : Int} {l : List (Int × Int)} {a b : Int} (h : p_hold f g n l) (hf : ∀ x, f' x = if x = n then a else f x) (hg : ∀ x, g' x = if x = n then b else g x) : p_hold f' g' (n + 1) (l ++ [(a, b)]) := by
  obtain ⟨h1, h2⟩ := h
  refine ⟨by rw [h1, List.length_append]; rfl, fun k hk => ?_⟩
  rw [List.length_append, List.length_singleton] at hk
  rw [hf, hg]
  by_cases z : k < l.length
  · rw [if_neg (by omega), if_neg (by omega)]
    have := h2 k z
    simp only [List.getD_eq_getElem?_getD, List.getElem?_append_left z] at this ⊢
    exact this
  · obtain rfl : k = l.length := by omega
    rw [if_pos h1.symm, if_pos h1.symm]
    simp [List.getD_eq_getElem?_getD]
theorem jx_up_at (M : jxM) (c : Nat) (x v y : Int) : jx_up M c x v c y = if y = x then v else M c y := by
  by_cases z : y = x
  · subst z; rw [if_pos rfl]; exact jx_ups
  · rw [if_neg z]; exact jx_upx z
theorem q_reach {M : jxM} {A : Int → Int} (ho : q_ok A) (hb : q_bt M A) {g c s : Int} (g0 : 0 ≤ g) (g1 : g < A 271) (hc : 0 ≤ c ∧ c ≤ 6) (hre : M 91 (7 * g + c) < 1000000) (hs : s ∈ a_seg A g) : M 91 (7 * f_end A s g + f_cls A s) < 1000000 := by
  have hnn := ho.2.2.2.2.1
  have hE : a_E A g c s := ⟨g0, g1, hc.1, hc.2, hs⟩
  have h1 := hb.2.1.2.2.1 g c s hE hre
  have h2 := (hb.2.1.1 g c g0 (by omega) hc.1 hc.2).2 hre
  have h3 := a_edge_bnd ho hE
  omega
set_option maxHeartbeats 4000000 in
theorem sp_R_walk (d : Nat) (r : Int) (M : jxM) {A : Int → Int} (h45 : M 4 5 = A 271) (ho : q_ok A) (hb : q_bt M A) (r0 : 0 ≤ r) (r1 : r < (a_W A 0 6).length) {K : jxK} (h : ∀ M', (∀ c x, (c < 100 ∨ 101 < c) → ¬ (c = 90 ∧ x = 13) → M' c x = M c x) → p_hold (M' 100) (M' 101) (M' 90 13) (p_tr A 16 0 6 r.toNat) → K none M') : jx_call jx_G1 jx_T (d + 2) 37 [.inr 90, .inl r] M K := by
  have hnn := ho.2.2.2.2.1
  intro X hX
  have key : ∀ (f : Nat) (g c : Int) (k : Nat) (l : List (Int × Int)) (N : jxM), A 271 - g ≤ f → 0 ≤ g → g ≤ A 271 → 0 ≤ c → c ≤ 6 → k < (a_W A g c).length → M 91 (7 * g + c) < 1000000 → (l.length : Int) ≤ g → l ++ p_tr A f g c k = p_tr A 16 0 6 r.toNat → (∀ c x, (c < 100 ∨ 101 < c) → ¬ (c = 90 ∧ x = 13) → N c x = M c x) → p_hold (N 100) (N 101) (N 90 13) l → X 9 [.inr 90, .inl r, .inl (g * 7 + c), .inl k, .inl g, .inr 0, .inr 0] [] N := by
    intro f
    induction f with
    | zero =>
      intro g c k l N hf g0 g1 c0 c6 hk hre hl hp hN hh
      have e45 := hN 4 5 (by omega) (by omega)
      refine bk_R_walk_9 (d := d) hX r (g * 7 + c) k g N ⟨fun z => ?_, fun z => by omega⟩
      rw [p_tr_end (by omega), List.append_nil] at hp
      rw [hp] at hh
      exact h N hN hh
    | succ f ih =>
      intro g c k l N hf g0 g1 c0 c6 hk hre hl hp hN hh
      have e45 := hN 4 5 (by omega) (by omega)
      have hlen := a_W_len ho (c := c) g0 g1
      refine bk_R_walk_9 (d := d) hX r (g * 7 + c) k g N ⟨fun z => ?_, fun z => ⟨fun z2 => ?_, fun z2 => ?_⟩⟩
      · rw [p_tr_end (by omega), List.append_nil] at hp
        rw [hp] at hh
        exact h N hN hh
      · have := hh.1
        omega
      · have gl : g < A 271 := by omega
        obtain ⟨m1, j, m2, m3⟩ := p_mv ho g0 gl hk
        obtain ⟨q1, q2⟩ := ((hb.2.2.2.1 g c g0 g1 c0 c6).1 hre).1 gl
        obtain ⟨q3, i, i1, q4, q5⟩ := q2 k hk
        obtain ⟨-, l2⟩ := hb.1.1 g g0 gl
        obtain ⟨l3, l4, l5, -⟩ := l2 i i1
        have hsl := a_seg_len ho g
        obtain ⟨-, -, s2, s3, -⟩ := a_seg_at ho ⟨g0, gl⟩ i1
        rw [q5] at l3 l4 l5 s2 s3
        have n95 : N 95 ((g * 7 + c) * 20 + k) = g * 21 + i := (hN 95 _ (by omega) (by omega)).trans q4
        have n96 : N 96 ((g * 7 + c) * 20 + k) = j := (hN 96 _ (by omega) (by omega)).trans (q3.trans m2)
        have n86 : N 86 (g * 21 + i) = (w_at (a_W A g c) k).2.1 := (hN 86 _ (by omega) (by omega)).trans l3
        have n87 : N 87 (g * 21 + i) = f_end A (w_at (a_W A g c) k).2.1 g := (hN 87 _ (by omega) (by omega)).trans l4
        have n88 : N 88 (g * 21 + i) = f_cls A (w_at (a_W A g c) k).2.1 := (hN 88 _ (by omega) (by omega)).trans l5
        have hre2 := q_reach ho hb g0 gl ⟨c0, c6⟩ hre m1
        have h13 := hh.1
        have hp2 : l ++ (g, (w_at (a_W A g c) k).2.1) :: p_tr A f (f_end A (w_at (a_W A g c) k).2.1 g) (f_cls A (w_at (a_W A g c) k).2.1) j = p_tr A 16 0 6 r.toNat := by
          rw [← hp, p_tr_step gl m2]
        generalize hE : f_end A (w_at (a_W A g c) k).2.1 g = e at *
        generalize hC : f_cls A (w_at (a_W A g c) k).2.1 = cl at *
        generalize hS : (w_at (a_W A g c) k).2.1 = s at *
        rw [n95, n96, n86, n87, n88]
        refine ⟨⟨by omega, by omega, by omega, by omega, by omega, by omega, by omega, by omega, by omega, by omega⟩, ?_⟩
        refine ih e cl j (l ++ [(g, s)]) _ (by omega) (by omega) (by omega) (by omega) (by omega) m3 hre2 (by rw [List.length_append, List.length_singleton]; omega) (by rw [List.append_assoc]; exact hp2) (fun c' x c1 c2 => ?_) ?_
        · have e1 : jx_up (jx_up (jx_up N 100 (N 90 13) g) 101 (N 90 13) s) 90 13 (N 90 13 + 1) c' x = jx_up (jx_up N 100 (N 90 13) g) 101 (N 90 13) s c' x := by
            by_cases y : c' = 90
            · subst y; exact jx_upx (fun y => c2 ⟨rfl, y⟩)
            · exact jx_upc y
          rw [e1, jx_upc (by omega), jx_upc (by omega)]
          exact hN c' x c1 c2
        · rw [jx_ups]
          refine p_hold_snoc hh (fun x => ?_) (fun x => ?_)
          · rw [jx_upc (by decide), jx_upc (by decide), jx_up_at]
          · rw [jx_upc (c := 90) (by decide), jx_up_at, jx_upc (c := 100) (by decide)]
  refine bk_R_walk_0 (d := d) hX r M ?_
  have := key 16 0 6 r.toNat [] (jx_up M 90 13 0) (by omega) (by omega) (by omega) (by omega) (by omega) (by omega) (by show M 91 6 < 1000000; have := hb.2.1.2.1; omega) (by simp) rfl (fun c x c1 c2 => ?_) ⟨by rw [jx_ups]; rfl, fun k hk => absurd hk (by simp)⟩
  · rw [show ((r.toNat : Nat) : Int) = r by omega] at this
    exact this
  · by_cases y : c = 90
    · subst y; exact jx_upx (fun y => c2 ⟨rfl, y⟩)
    · exact jx_upc y
theorem q_ld_top {M : jxM} {A : Int → Int} (ho : q_ok A) (h : q_ld M A) : M 6 6 = ((a_W A 0 6).length : Int) ∧ (∀ k : Nat, k < (a_W A 0 6).length → M 7 (120 + k) = (w_at (a_W A 0 6) k).1) ∧ M 10 6 = a_bc A 0 6 ∧ M 11 0 = a_cn A 0 0 := by
  have hnn := ho.2.2.2.2.1
  obtain ⟨h1, h2, h3, h4⟩ := h
  have hk : q_rk M 6 (a_W A 0 6) := by
    rcases Int.lt_or_le 0 (A 271) with z | z
    · exact (h1 0 6 (by omega) z (by omega) (by omega)).k
    · have e : A 271 = 0 := by omega
      have := h2 6 (by omega) (by omega)
      rw [e] at this
      exact this
  exact ⟨hk.1, hk.2, h3 0 6 (by omega) (by omega) (by omega) (by omega), h4 0 (by omega) (by omega)⟩
theorem q_bt_top {M : jxM} {A : Int → Int} (ho : q_ok A) (h : q_bt M A) : M 93 6 = ((a_W A 0 6).length : Int) ∧ (∀ k : Nat, k < (a_W A 0 6).length → M 94 (120 + k) = (w_at (a_W A 0 6) k).1) ∧ M 92 6 = a_bc A 0 6 ∧ M 99 0 = a_cn A 0 0 := by
  have hnn := ho.2.2.2.2.1
  have h0 := h.2.1.2.1
  obtain ⟨-, h2, h3⟩ := (h.2.2.2.1 0 6 (by omega) (by omega) (by omega) (by omega)).1 (show M 91 6 < 1000000 by omega)
  exact ⟨h2.1, h2.2, h3, h.2.2.2.2 0 (by omega) (by omega)⟩
set_option maxHeartbeats 4000000 in
theorem sp_F_follow (d : Nat) (r : Int) (M : jxM) {A : Int → Int} (hA : M 2 = A) (ho : q_ok A) (hf : M 1 5 = 0 ∨ M 1 5 = 1) (hl : M 1 5 = 1 → q_ld M A) (r0 : 0 ≤ r) (r1 : r ≤ 19) {K : jxK}
    (h1 : ∀ M', (∀ c x, (c < 5 ∨ 13 < c) → ¬ (c = 1 ∧ (x = 5 ∨ x = 6 ∨ x = 14)) → M' c x = M c x) → M' 1 5 = 1 → q_ld M' A → (a_W A 0 6).length ≤ r → K (some (.inl 0)) M')
    (h2 : ∀ M', (∀ c x, (c < 5 ∨ 13 < c) → ¬ (c = 1 ∧ (x = 5 ∨ x = 6 ∨ x = 14)) → M' c x = M c x) → M' 1 5 = 1 → q_ld M' A → r < (a_W A 0 6).length → p_hold (M' 12) (M' 13) (M' 1 14) (p_tr A 16 0 6 r.toNat) → K (some (.inl 1)) M') : jx_call jx_G2 jx_T (d + 6) 117 [.inr 1, .inl r] M K := by
  have hnn := ho.2.2.2.2.1
  intro X hX
  refine bk_F_follow_0 (d := d) hX r M ?_
  refine sp_F_lay d M (fun k _ _ => by rw [hA]) ho hf hl (fun M0 f0 f1 f2 => ⟨rfl, ?_⟩)
  obtain ⟨t1, -⟩ := q_ld_top ho f2
  have key : ∀ (f : Nat) (g c : Int) (k : Nat) (l : List (Int × Int)) (N : jxM), A 271 - g ≤ f → 0 ≤ g → g ≤ A 271 → 0 ≤ c → c ≤ 6 → k < (a_W A g c).length → (l.length : Int) ≤ g → l ++ p_tr A f g c k = p_tr A 16 0 6 r.toNat → r < (a_W A 0 6).length → (∀ c x, (c < 12 ∨ 13 < c) → ¬ (c = 1 ∧ x = 14) → N c x = M0 c x) → p_hold (N 12) (N 13) (N 1 14) l → X 19 [.inr 1, .inl r, .inl g, .inl (20 * (7 * g + c) + k), .inr 0] [] N := by
    intro f
    have fin : ∀ (l : List (Int × Int)) (N : jxM), l = p_tr A 16 0 6 r.toNat → r < (a_W A 0 6).length → (∀ c x, (c < 12 ∨ 13 < c) → ¬ (c = 1 ∧ x = 14) → N c x = M0 c x) → p_hold (N 12) (N 13) (N 1 14) l → K (some (.inl 1)) N := by
      intro l N e1 e2 hN hh
      rw [e1] at hh
      exact h2 N (fun c x c1 c2 => by rw [hN c x (by omega) (by omega), f0 c x (by omega) (by omega)]) (by rw [hN 1 5 (by omega) (by omega)]; exact f1) (q_ld_fr ho f2 (fun c x c1 c2 => hN c x (by omega) (by omega))) e2 hh
    induction f with
    | zero =>
      intro g c k l N hf g0 g1 c0 c6 hk hl hp hr hN hh
      have e2 : N 2 271 = A 271 := by rw [hN 2 271 (by omega) (by omega), f0 2 271 (by omega) (by omega), hA]
      refine bk_F_follow_19 (d := d) hX r g (20 * (7 * g + c) + k) N ⟨fun z => ?_, fun z => by omega⟩
      rw [p_tr_end (by omega), List.append_nil] at hp
      exact fin l N hp hr hN hh
    | succ f ih =>
      intro g c k l N hf g0 g1 c0 c6 hk hl hp hr hN hh
      have eA : N 2 = A := funext (fun x => by rw [hN 2 x (by omega) (by omega), f0 2 x (by omega) (by omega), hA])
      have hlen := a_W_len ho (c := c) g0 g1
      refine bk_F_follow_19 (d := d) hX r g (20 * (7 * g + c) + k) N ⟨fun z => ?_, fun z => ?_⟩
      · rw [eA] at z
        rw [p_tr_end (by omega), List.append_nil] at hp
        exact fin l N hp hr hN hh
      · rw [eA] at z
        obtain ⟨m1, j, m2, m3⟩ := p_mv ho g0 z hk
        obtain ⟨q1, q2⟩ := f2.1 g c g0 z c0 c6
        obtain ⟨-, q3, q4⟩ := q2 k hk
        obtain ⟨s1, s2, s3, -⟩ := a_seg_mem ho ⟨g0, z⟩ m1
        have hlen2 := a_W_len ho (g := f_end A (w_at (a_W A g c) k).2.1 g) (c := f_cls A (w_at (a_W A g c) k).2.1) (by omega) (by omega)
        have n8 : N 8 (20 * (7 * g + c) + k) = (w_at (a_W A g c) k).2.1 := (hN 8 _ (by omega) (by omega)).trans q3
        have n9 : N 9 (20 * (7 * g + c) + k) = j := (hN 9 _ (by omega) (by omega)).trans (q4.trans m2)
        have h13 := hh.1
        have hp2 : l ++ (g, (w_at (a_W A g c) k).2.1) :: p_tr A f (f_end A (w_at (a_W A g c) k).2.1 g) (f_cls A (w_at (a_W A g c) k).2.1) j = p_tr A 16 0 6 r.toNat := by
          rw [← hp, p_tr_step z m2]
        have s4 : (w_at (a_W A g c) k).2.1 = -5 ∨ (0 : Int) ≤ (w_at (a_W A g c) k).2.1 ∧ (w_at (a_W A g c) k).2.1 < 20 ∧ (0 : Int) ≤ A (1 + 11 * (w_at (a_W A g c) k).2.1) ∧ A (1 + 11 * (w_at (a_W A g c) k).2.1) ≤ 6 := by
          rcases s1 with s1 | ⟨s5, s6, -⟩
          · exact Or.inl s1
          · have := ho.2.1 _ s5 s6
            have := ho.1
            exact Or.inr (by omega)
        have e2 : ∀ a, (jx_up (jx_up (jx_up N 12 (N 1 14) g) 13 (N 1 14) a) 1 14 (N 1 14 + 1)) 2 = A := fun a => by
          rw [← eA]
          exact funext (fun x => by rw [jx_upc (by decide), jx_upc (by decide), jx_upc (by decide)])
        rw [n8, n9, e2, eA]
        generalize hE : f_end A (w_at (a_W A g c) k).2.1 g = e at *
        generalize hC : f_cls A (w_at (a_W A g c) k).2.1 = cl at *
        generalize hS : (w_at (a_W A g c) k).2.1 = s at *
        refine ⟨⟨by omega, by omega, by omega, by omega, ⟨s4, by omega, by omega⟩, by omega, by omega, by omega, by omega, by omega, by omega⟩, ?_⟩
        refine ih e cl j (l ++ [(g, s)]) _ (by omega) (by omega) (by omega) (by omega) (by omega) m3 (by rw [List.length_append, List.length_singleton]; omega) (by rw [List.append_assoc]; exact hp2) hr (fun c' x c1 c2 => ?_) ?_
        · have e1 : jx_up (jx_up (jx_up N 12 (N 1 14) g) 13 (N 1 14) s) 1 14 (N 1 14 + 1) c' x = jx_up (jx_up N 12 (N 1 14) g) 13 (N 1 14) s c' x := by
            by_cases y : c' = 1
            · subst y; exact jx_upx (fun y => c2 ⟨rfl, y⟩)
            · exact jx_upc y
          rw [e1, jx_upc (by omega), jx_upc (by omega)]
          exact hN c' x c1 c2
        · rw [jx_ups]
          refine p_hold_snoc hh (fun x => ?_) (fun x => ?_)
          · rw [jx_upc (by decide), jx_upc (by decide), jx_up_at]
          · rw [jx_upc (c := 1) (by decide), jx_up_at, jx_upc (c := 12) (by decide)]
  have fr : ∀ c x, ¬ (c = 1 ∧ x = 14) → jx_up M0 1 14 0 c x = M0 c x := fun c x c2 => by
    by_cases y : c = 1
    · subst y; exact jx_upx (fun y => c2 ⟨rfl, y⟩)
    · exact jx_upc y
  refine ⟨fun z => ⟨by omega, ?_⟩, fun z => ?_⟩
  · have := key 16 0 6 r.toNat [] (jx_up M0 1 14 0) (by omega) (by omega) (by omega) (by omega) (by omega) (by omega) (by simp) rfl (by omega) (fun c x c1 c2 => fr c x c2) ⟨by rw [jx_ups]; rfl, fun k hk => absurd hk (by simp)⟩
    rw [show ((r.toNat : Nat) : Int) = r by omega] at this
    exact this
  · exact h1 _ (fun c x c1 c2 => by rw [fr c x (by omega), f0 c x (by omega) (by omega)]) (by rw [fr 1 5 (by omega)]; exact f1) (q_ld_fr ho f2 (fun c x c1 c2 => fr c x (by omega))) (by omega)
