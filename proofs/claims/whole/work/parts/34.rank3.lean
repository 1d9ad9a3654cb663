theorem w_at_app {l : List wX} {x : wX} {k : Nat} (h : k < l.length) : w_at (l ++ [x]) k = w_at l k := by unfold w_at; simp [List.getD_eq_getElem?_getD, List.getElem?_append_left h]
theorem w_at_last {l : List wX} {x : wX} : w_at (l ++ [x]) l.length = x := by unfold w_at; simp [List.getD_eq_getElem?_getD]
set_option maxHeartbeats 8000000 in
theorem sp_R_listState (d : Nat) (g c : Int) (M : jxM) {A : Int → Int} (ho : q_ok A) (hg : 0 ≤ g ∧ g < A 271) (hc : 0 ≤ c ∧ c ≤ 6) (hp : q_pre M A g) (h93 : M 93 (g * 7 + c) = 0) {K : jxK}
    (h : ∀ M', (∀ c' x, (c' < 92 ∨ 98 < c') → M' c' x = M c' x) → (∀ c' x, c' = 92 ∨ c' = 93 → x ≠ g * 7 + c → M' c' x = M c' x) → (∀ c' x, 94 ≤ c' → c' ≤ 96 → (x < (g * 7 + c) * 20 ∨ (g * 7 + c) * 20 + 20 ≤ x) → M' c' x = M c' x) → (M 91 (7 * g + c) < 1000000 → q_cl M' A g (g * 7 + c) (a_W A g c) ∧ M' 92 (g * 7 + c) = a_bc A g c) → (1000000 ≤ M 91 (7 * g + c) → M' 93 (g * 7 + c) = 0) → K none M') : jx_call jx_G1 jx_T (d + 4) 27 [.inr 90, .inl g, .inl c] M K := by
  have hnn := ho.2.2.2.2.1
  have hsl := a_seg_len ho g
  have ec : g * 7 + c = 7 * g + c := by omega
  intro X hX
  refine bk_R_listState_0 (d := d) hX g c M ⟨by omega, fun q => ?_, fun q => ?_⟩
  · rw [ec] at q
    refine sp_R_openHeads (d + 1) g c M ho hg hc hp q (fun N1 n1 n2 => ⟨rfl, ?_⟩)
    have hp1 : q_pre N1 A g := q_pre_fr ho hg hp (fun c' x hx => n1 c' x (by omega) (by omega)) (fun x _ => ⟨n1 92 x (by decide) (by decide), n1 93 x (by decide) (by decide)⟩) (fun c' x a b _ => n1 c' x (by omega) (by omega))
    refine sp_R_countBestWays d g c N1 ho hg hc hp1 (by rw [n1 91 _ (by decide) (by decide)]; exact q) n2 ⟨rfl, ?_⟩
    have loop : ∀ (k : Int) (N : jxM), (0 ≤ k ∧ k ≤ 20 ∧ (∀ c' x, (c' < 92 ∨ 98 < c') → N c' x = M c' x) ∧ (∀ c' x, c' = 92 ∨ c' = 93 → x ≠ g * 7 + c → N c' x = M c' x) ∧ (∀ c' x, 94 ≤ c' → c' ≤ 96 → (x < (g * 7 + c) * 20 ∨ (g * 7 + c) * 20 + 20 ≤ x) → N c' x = M c' x) ∧ N 92 (g * 7 + c) = a_bc A g c ∧ ∃ (E : List wX) (r : Nat → Nat), (E.length : Int) = k ∧ q_cl N A g (g * 7 + c) E ∧ q_hd N A g c r ∧ w_srt [] (a_cands A (a_W A) g c) = E ++ w_srt [] (w_cc (q_F A g c r) (a_seg A g).length)) → X 23 [.inr 90, .inl g, .inl c, .inl (g * 7 + c), .inl k, .inr 0] [] N := by
      refine jx_loop (σ := jxM) 20 _ _ ?_
      rintro k N ⟨k1, k2, m1, m2, m3, m4, E, r, e1, e2, e3, e4⟩ ih
      have hpN : q_pre N A g := q_pre_fr ho hg hp (fun c' x hx => m1 c' x (by omega)) (fun x hx => ⟨m2 92 x (Or.inl rfl) (by omega), m2 93 x (Or.inr rfl) (by omega)⟩) (fun c' x a b hx => m3 c' x a b (by omega))
      have done : (w_srt [] (a_cands A (a_W A) g c)).take 20 = E → K none N := fun z => by
        refine h N m1 m2 m3 (fun _ => ?_) (fun w => by omega)
        have : a_W A g c = E := by rw [a_W_step ho hg.1 hg.2]; exact z
        rw [this]
        exact ⟨e2, m4⟩
      have e85 : N 85 g = ((a_seg A g).length : Int) := (hpN.2.1.1 g hg.1 hg.2).1
      have et : (N 85 g).toNat = (a_seg A g).length := by omega
      refine bk_R_listState_23 (d := d) hX g c (g * 7 + c) k N ⟨fun z => done ?_, fun z => ⟨by omega, fun z2 => ?_, fun z2 => ?_⟩⟩
      · rw [e4, List.take_left' (by omega)]
      · rw [et] at z2 ⊢
        rcases q_merge ho hg hc e3 with ⟨w, -⟩ | ⟨i, him, w, hz, -, hs⟩
        · omega
        · rw [w]
          obtain ⟨f1, f2, f3⟩ := e3 i him
          rw [if_pos hz] at f3
          obtain ⟨j0, j1, j2, j3, j4, j5, j6, j7, j8⟩ := q_lat_at ho hpN.2.1 hg (i := (i : Int)) ⟨by omega, by omega⟩
          rw [show ((i : Int)).toNat = i by omega] at j0 j1 j2 j3 j4 j5 j6 j7 j8
          have hreN : N 91 (7 * g + c) < 1000000 := by rw [m1 91 _ (by omega)]; exact q
          obtain ⟨⟨b1, b2⟩, -⟩ := q_behind ho hpN hg hc hreN j8
          generalize hsd : (a_seg A g).getD i 0 = s at *
          have wl := a_W_len ho (g := f_end A s g) (c := f_cls A s) (by omega) j5.2
          have wb := w_at_bnd ho hg hc j8 hz
          have n93 : N 93 (g * 7 + c) = k := by rw [e2.1.1]; exact e1
          refine sp_R_takeHead (d + 1) g (g * 7 + c) i N (b := f_end A s g * 7 + f_cls A s) (by omega) (by omega) (by omega) (by omega) (by omega) (by rw [j2, j3]) (by omega) (by omega) (by omega) (fun k' k1 k2 => ?_) (fun N' y1 y2 y3 y4 y5 y6 y7 y8 y9 y10 y11 => ⟨rfl, by omega, ih N' z ⟨by omega, by omega, fun c' x hx => ?_, fun c' x hx hx2 => ?_, fun c' x a b hx => ?_, ?_, E ++ [(N 97 i, s, (r i : Int))], r_inc r i, ?_, ⟨⟨?_, fun k' hk => ?_⟩, fun k' hk => ?_⟩, fun j hj => ?_, ?_⟩⟩)
          · have := b2 k'.toNat (by omega)
            rw [show (f_end A s g * 7 + f_cls A s) * 20 + ((k'.toNat : Nat) : Int) = (f_end A s g * 7 + f_cls A s) * 20 + k' by omega] at this
            rw [this]
            have := w_at_bnd ho hg hc j8 (k := k'.toNat) (by omega)
            omega
          · rw [y1 c' x (by omega)]; exact m1 c' x hx
          · rcases hx with rfl | rfl
            · rw [y1 92 x (by omega)]; exact m2 92 x (Or.inl rfl) hx2
            · rw [y2 x hx2]; exact m2 93 x (Or.inr rfl) hx2
          · rw [y3 c' x a b (by omega)]; exact m3 c' x a b hx
          · rw [y1 92 _ (by omega)]; exact m4
          · rw [List.length_append, List.length_singleton]; omega
          · rw [y5, n93, List.length_append, List.length_singleton]; omega
          · rw [List.length_append, List.length_singleton] at hk
            by_cases v : k' < E.length
            · rw [w_at_app v, y3 94 _ (by omega) (by omega) (by omega)]; exact e2.1.2 k' v
            · obtain rfl : k' = E.length := by omega
              rw [w_at_last, e1, ← n93]; exact y6
          · rw [List.length_append, List.length_singleton] at hk
            by_cases v : k' < E.length
            · rw [w_at_app v, y3 96 _ (by omega) (by omega) (by omega), y3 95 _ (by omega) (by omega) (by omega)]; exact e2.2 k' v
            · obtain rfl : k' = E.length := by omega
              rw [w_at_last, e1, ← n93]
              exact ⟨by rw [y8, f1], i, him, y7, hsd⟩
          · by_cases v : j = i
            · subst v
              rw [r_inc_s, hsd, y9, f1]
              refine ⟨by omega, by omega, ?_⟩
              by_cases v2 : r j + 1 < (a_W A (f_end A s g) (f_cls A s)).length
              · rw [if_pos v2, y10 (by omega), f3, f1]
                have t1 := b2 (r j) hz
                have t2 := b2 (r j + 1) v2
                rw [show (f_end A s g * 7 + f_cls A s) * 20 + (r j : Int) + 1 = (f_end A s g * 7 + f_cls A s) * 20 + ((r j + 1 : Nat) : Int) by omega, t1, t2]
                omega
              · rw [if_neg v2, y11 (by omega)]
            · rw [r_inc_n r v, y4 98 _ (Or.inr rfl) (by omega), y4 97 _ (Or.inl rfl) (by omega)]
              exact e3 j hj
          · rw [e4, hs, List.append_assoc]; rfl
      · rw [et] at z2
        refine done ?_
        rcases q_merge ho hg hc e3 with ⟨-, w⟩ | ⟨i, -, w, -⟩
        · rw [e4, w]
          simp only [w_srt, List.append_nil]
          exact List.take_of_length_le (by omega)
        · omega
    refine loop 0 _ ⟨by omega, by omega, fun c' x hx => ?_, fun c' x hx hx2 => ?_, fun c' x a b _ => ?_, jx_ups, [], fun _ => 0, rfl, ⟨⟨?_, fun k hk => absurd hk (Nat.not_lt_zero _)⟩, fun k hk => absurd hk (Nat.not_lt_zero _)⟩, fun j hj => ?_, ?_⟩
    · rw [jx_upc (by omega)]; exact n1 c' x (by omega) (by omega)
    · rcases hx with rfl | rfl
      · rw [jx_upx hx2]; exact n1 92 x (by decide) (by decide)
      · rw [jx_upc (by decide)]; exact n1 93 x (by decide) (by decide)
    · rw [jx_upc (by omega)]; exact n1 c' x (by omega) (by omega)
    · rw [jx_upc (by decide), n1 93 _ (by decide) (by decide), h93]; rfl
    · rw [jx_upc (by decide), jx_upc (by decide)]; exact n2 j hj
    · rw [q_F0]; rfl
  · rw [ec] at q
    exact h M (fun _ _ _ => rfl) (fun _ _ _ _ => rfl) (fun _ _ _ _ _ => rfl) (fun z => by omega) (fun _ => h93)
set_option maxHeartbeats 4000000 in
theorem sp_R_countPaths (d : Nat) (M : jxM) {A : Int → Int} (hr : q_rs M 4 A) (ho : q_ok A) (hl : q_lat M A) {K : jxK} (h : ∀ M', (∀ c x, c ≠ 99 → M' c x = M c x) → (∀ g, 0 ≤ g → g ≤ A 271 → M' 99 g = a_cn A g 0) → K none M') : jx_call jx_G1 jx_T (d + 3) 24 [.inr 90] M K := by
  have hnn := ho.2.2.2.2.1
  have n45 : M 4 5 = A 271 := hr.2.2.2.2.1
  intro X hX
  refine bk_R_countPaths_0 (d := d) hX M ⟨by omega, ?_⟩
  rw [n45]
  have outer : ∀ (g : Int) (N : jxM), (-1 ≤ g ∧ g < A 271 ∧ (∀ c x, c ≠ 99 → N c x = M c x) ∧ (∀ g', g < g' → g' ≤ A 271 → N 99 g' = a_cn A g' 0)) → X 13 [.inr 90, .inl g, .inr 0, .inr 0] [] N := by
    refine jx_loopM (σ := jxM) (-1) _ _ ?_
    intro g N ⟨g1, g2, n1, n2⟩ ih
    refine bk_R_countPaths_13 (d := d) hX g N ⟨fun q => h N n1 (fun g' a b => n2 g' (by omega) b), fun q => ?_⟩
    have hg : 0 ≤ g ∧ g < A 271 := ⟨q, g2⟩
    have hsl := a_seg_len ho g
    have lat : q_lat N A := q_lat_fr hl (fun c x c1 c2 => n1 c x (by omega))
    have e85 : N 85 g = ((a_seg A g).length : Int) := (lat.1 g hg.1 hg.2).1
    refine jx_loop (σ := Int) ((a_seg A g).length : Int) (fun i a => 0 ≤ i ∧ i ≤ ((a_seg A g).length : Int) ∧ a = w_cnt (fun s => a_cn A (f_end A s g) 0) 0 ((a_seg A g).take i.toNat)) (fun i a => X 19 [.inr 90, .inl g, .inl a, .inl i] [] N) ?_ 0 0 ⟨by omega, by omega, rfl⟩
    intro i a ⟨i1, i2, i3⟩ jh
    have bp := w_cnt_bnd (f := fun s => a_cn A (f_end A s g) 0) (a := 0) (l := (a_seg A g).take i.toNat) (by omega) (fun s hs => by
      have y := (a_seg_mem ho hg (List.mem_of_mem_take hs)).2.1
      exact (a_cn_bnd ho (A 271).toNat (by omega) y.2 (by omega)).1)
    refine bk_R_countPaths_19 (d := d) hX g a i N ⟨by omega, fun z => ⟨by omega, ?_⟩, fun z => ?_⟩
    · have : i.toNat = (a_seg A g).length := by omega
      rw [this, List.take_length, ← a_cn_step ho q g2 (c := 0)] at i3
      refine ih _ (by omega) ⟨by omega, by omega, fun c x hc => (jx_upc hc).trans (n1 c x hc), fun g' w1 w2 => ?_⟩
      by_cases w : g' = g
      · rw [w, jx_ups, i3]
      · rw [jx_upx w]; exact n2 g' (by omega) w2
    · obtain ⟨k0, k1, k2, k3, k4, k5, k6, k7, k8⟩ := q_lat_at ho lat hg ⟨i1, z⟩
      have hcn := n2 (f_end A ((a_seg A g).getD i.toNat 0) g) (by omega) k5.2
      have bb := a_cn_bnd ho (A 271).toNat (g := f_end A ((a_seg A g).getD i.toNat 0) g) (c := 0) (by omega) k5.2 (by omega)
      rw [k2, hcn]
      refine ⟨by omega, jh _ (by omega) ⟨by omega, by omega, ?_⟩⟩
      rw [show (i + 1).toNat = i.toNat + 1 by omega, take_s k0, w_cnt_snoc, i3]
  refine outer _ _ ⟨by omega, by omega, fun c x hc => jx_upc hc, fun g' w1 w2 => ?_⟩
  obtain rfl : g' = A 271 := by omega
  rw [jx_ups, a_cn_end]
set_option maxHeartbeats 4000000 in
theorem sp_R_listEnds (d : Nat) (M : jxM) {A : Int → Int} (hr : q_rs M 4 A) (ho : q_ok A) {K : jxK} (h : ∀ M', (∀ c x, (c < 92 ∨ 94 < c) → M' c x = M c x) → (∀ x, 0 ≤ x → x < 7 * A 271 → M' 93 x = 0) → (∀ c, 0 ≤ c → c ≤ 6 → (M 91 (7 * A 271 + c) < 1000000 → q_ck M' (A 271 * 7 + c) (a_W A (A 271) c) ∧ M' 92 (A 271 * 7 + c) = 1) ∧ (1000000 ≤ M 91 (7 * A 271 + c) → M' 93 (A 271 * 7 + c) = 0)) → K none M') : jx_call jx_G1 jx_T (d + 2) 26 [.inr 90] M K := by
  have hnn := ho.2.2.2.2.1
  have n45 : M 4 5 = A 271 := hr.2.2.2.2.1
  intro X hX
  refine bk_R_listEnds_0 (d := d) hX M ?_
  refine sp_J_fill d 92 119 0 M rfl (by omega) ⟨rfl, ?_⟩
  show X 6 [.inr 90, .inl 0, .inr 0] [] (jx_fi M 93 119 0)
  have fi : ∀ x, 0 ≤ x → x < 119 → jx_fi M 93 119 0 93 x = 0 := fun x x1 x2 => by unfold jx_fi; rw [if_pos ⟨rfl, x1, x2⟩]
  have fo : ∀ c x, c ≠ 93 → jx_fi M 93 119 0 c x = M c x := fun c x hc => by unfold jx_fi; rw [if_neg (fun z => hc z.1)]
  refine jx_loop (σ := jxM) 7 (fun c N => 0 ≤ c ∧ c ≤ 7 ∧ (∀ c' x, (c' < 92 ∨ 94 < c') → N c' x = M c' x) ∧ (∀ x, 0 ≤ x → x < 7 * A 271 → N 93 x = 0) ∧ (∀ c', c ≤ c' → c' ≤ 6 → N 93 (A 271 * 7 + c') = 0) ∧ (∀ c', 0 ≤ c' → c' < c → (M 91 (7 * A 271 + c') < 1000000 → q_ck N (A 271 * 7 + c') (a_W A (A 271) c') ∧ N 92 (A 271 * 7 + c') = 1) ∧ (1000000 ≤ M 91 (7 * A 271 + c') → N 93 (A 271 * 7 + c') = 0))) (fun c N => X 6 [.inr 90, .inl c, .inr 0] [] N) ?_ 0 _ ⟨by omega, by omega, fun c' x hc => fo c' x (by omega), fun x x1 x2 => fi x x1 (by omega), fun c' a b => fi _ (by omega) (by omega), fun c' a b => by omega⟩
  intro c N ⟨c1, c2, n1, n2, n3, n4⟩ ih
  have m45 : N 4 5 = A 271 := (n1 4 5 (by omega)).trans n45
  refine bk_R_listEnds_6 (d := d) hX c N ⟨fun q => h N n1 n2 (fun c' a b => n4 c' a (by omega)), fun q => ?_⟩
  rw [m45, n1 91 _ (by omega), show A 271 * 7 + c = 7 * A 271 + c by omega]
  refine ⟨by omega, fun z => ⟨by omega, ih N q ⟨by omega, by omega, n1, n2, fun c' a b => n3 c' (by omega) b, fun c' a b => ?_⟩⟩, fun z => ?_⟩
  · by_cases w : c' = c
    · rw [w]; exact ⟨fun y => by omega, fun _ => n3 c (by omega) (by omega)⟩
    · exact n4 c' a (by omega)
  · have nr : q_rs N 4 A := q_rs_fr ho hr (fun c x c1 c2 => n1 c x (by omega))
    have con := q_con nr (l := c) (r := 6) (by omega) (by omega)
    have cb := a_con_bnd ho (l := c) (r := 6) (by omega) (by omega)
    rw [con]
    refine ⟨by omega, ih _ q ⟨by omega, by omega, fun c' x hc => ?_, fun x x1 x2 => ?_, fun c' a b => ?_, fun c' a b => ?_⟩⟩
    · rw [jx_upc (by omega), jx_upc (by omega), jx_upc (by omega)]; exact n1 c' x hc
    · rw [jx_upc (by decide), jx_upc (by decide), jx_upx (by omega)]; exact n2 x x1 x2
    · rw [jx_upc (by decide), jx_upc (by decide), jx_upx (by omega)]; exact n3 c' (by omega) b
    · rw [a_W_end]
      by_cases w : c' = c
      · rw [w, show A 271 * 7 + c = 7 * A 271 + c by omega]
        refine ⟨fun _ => ⟨⟨?_, fun k hk => ?_⟩, jx_ups⟩, fun y => by omega⟩
        · rw [jx_upc (by decide), jx_upc (by decide), jx_ups]; rfl
        · obtain rfl : k = 0 := by
            have : k < 1 := hk
            omega
          rw [show (7 * A 271 + c) * 20 + ((0 : Nat) : Int) = (7 * A 271 + c) * 20 by omega, jx_upc (by decide), jx_ups]
          rfl
      · obtain ⟨y1, y2⟩ := n4 c' a (by omega)
        rw [a_W_end] at y1
        refine ⟨fun v => ?_, fun v => ?_⟩
        · obtain ⟨u1, u2⟩ := y1 v
          refine ⟨q_ck_fr u1 ?_ (fun x x1 x2 => ?_), ?_⟩
          · rw [jx_upc (by decide), jx_upc (by decide), jx_upx (by omega)]
          · have x2 : x < (A 271 * 7 + c') * 20 + 1 := x2
            rw [jx_upc (by decide), jx_upx (by omega), jx_upc (by decide)]
          · rw [jx_upx (by omega), jx_upc (by decide), jx_upc (by decide)]; exact u2
        · rw [jx_upc (by decide), jx_upc (by decide), jx_upx (by omega)]; exact y2 v
/-- the class's paths are worked out -/
def q_bt (M : jxM) (A : Int → Int) : Prop := q_lat M A ∧ fwI (M 91) 1000000 A (a_E A) ∧ (∀ x, 0 ≤ x → x < 119 → 0 ≤ M 91 x ∧ M 91 x ≤ 1000000) ∧ q_rkd M A 0 ∧ ∀ g, 0 ≤ g → g ≤ A 271 → M 99 g = a_cn A g 0
theorem q_bt_fr {M M' : jxM} {A : Int → Int} (ho : q_ok A) (h : q_bt M A) (hf : ∀ c x, 85 ≤ c → c ≤ 99 → M' c x = M c x) : q_bt M' A := by
  obtain ⟨h1, h2, h3, h4, h5⟩ := h
  exact ⟨q_lat_fr h1 (fun c x c1 c2 => hf c x c1 (by omega)), fwI_fr ho (fun _ _ _ w => w) h2 (fun x _ _ => hf 91 x (by omega) (by omega)), fun x x1 x2 => by rw [hf 91 x (by omega) (by omega)]; exact h3 x x1 x2, q_rkd_fr ho (by omega) h4 (fun x _ _ => ⟨hf 91 x (by omega) (by omega), hf 92 x (by omega) (by omega), hf 93 x (by omega) (by omega)⟩) (fun c x c1 c2 _ => hf c x (by omega) (by omega)), fun g a b => by rw [hf 99 g (by omega) (by omega)]; exact h5 g a b⟩
set_option maxHeartbeats 8000000 in
theorem sp_R_build (d : Nat) (M : jxM) {A : Int → Int} (hr : q_rs M 4 A) (ho : q_ok A) (hl : q_lat M A) {K : jxK} (h : ∀ M', (∀ c x, (c < 91 ∨ 99 < c) → M' c x = M c x) → q_bt M' A → K none M') : jx_call jx_G1 jx_T (d + 5) 21 [.inr 90] M K := by
  have hnn := ho.2.2.2.2.1
  intro X hX
  refine bk_R_build_0 (d := d) hX M ?_
  refine sp_R_findLeastTo (d + 1) M hr ho hl (fun N1 a1 a2 a3 => ⟨rfl, ?_⟩)
  have r1 : q_rs N1 4 A := q_rs_fr ho hr (fun c x c1 c2 => a1 c x (by omega))
  have l1 : q_lat N1 A := q_lat_fr hl (fun c x c1 c2 => a1 c x (by omega))
  refine sp_R_countPaths (d + 1) N1 r1 ho l1 (fun N2 b1 b2 => ⟨rfl, ?_⟩)
  have r2 : q_rs N2 4 A := q_rs_fr ho r1 (fun c x c1 c2 => b1 c x (by omega))
  refine sp_R_listEnds (d + 2) N2 r2 ho (fun N3 e1 e2 e3 => ⟨rfl, ?_⟩)
  have r3 : q_rs N3 4 A := q_rs_fr ho r2 (fun c x c1 c2 => e1 c x (by omega))
  have n45 : N3 4 5 = A 271 := r3.2.2.2.2.1
  have l3 : q_lat N3 A := q_lat_fr l1 (fun c x c1 c2 => (e1 c x (by omega)).trans (b1 c x (by omega)))
  have f3 : ∀ x, N3 91 x = N1 91 x := fun x => (e1 91 x (by omega)).trans (b1 91 x (by decide))
  have w3 : fwI (N3 91) 1000000 A (a_E A) := fwI_fr ho (fun _ _ _ w => w) a2 (fun x _ _ => f3 x)
  rw [n45]
  refine ⟨by omega, ?_⟩
  have outer : ∀ (g : Int) (N : jxM), (-1 ≤ g ∧ g < A 271 ∧ (∀ c x, (c < 92 ∨ 98 < c) → N c x = N3 c x) ∧ q_rkd N A (g + 1) ∧ (∀ x, 0 ≤ x → x < 7 * (g + 1) → N 93 x = 0)) → X 12 [.inr 90, .inl g, .inr 0] [] N := by
    refine jx_loopM (σ := jxM) (-1) _ _ ?_
    intro g N ⟨g1, g2, n1, n2, n3⟩ ih
    refine bk_R_build_12 (d := d) hX g N ⟨fun q => ?_, fun q => ?_⟩
    · obtain rfl : g = -1 := by omega
      refine h N (fun c x hc => ?_) ⟨q_lat_fr l3 (fun c x c1 c2 => n1 c x (by omega)), fwI_fr ho (fun _ _ _ w => w) w3 (fun x _ _ => n1 91 x (by omega)), fun x x1 x2 => ?_, n2, fun g' u1 u2 => ?_⟩
      · rw [n1 c x (by omega), e1 c x (by omega), b1 c x (by omega)]; exact a1 c x (by omega)
      · rw [n1 91 x (by omega), f3]; exact a3 x x1 x2
      · rw [n1 99 g' (by omega), e1 99 g' (by omega)]; exact b2 g' u1 u2
    · have hg : 0 ≤ g ∧ g < A 271 := ⟨q, g2⟩
      refine jx_loop (σ := jxM) 7 (fun c L => 0 ≤ c ∧ c ≤ 7 ∧ (∀ c' x, (c' < 92 ∨ 98 < c') → L c' x = N3 c' x) ∧ q_rkd L A (g + 1) ∧ (∀ x, 0 ≤ x → x < 7 * g → L 93 x = 0) ∧ (∀ c', c ≤ c' → c' ≤ 6 → L 93 (g * 7 + c') = 0) ∧ (∀ c', 0 ≤ c' → c' < c → (N3 91 (7 * g + c') < 1000000 → q_cl L A g (g * 7 + c') (a_W A g c') ∧ L 92 (g * 7 + c') = a_bc A g c') ∧ (1000000 ≤ N3 91 (7 * g + c') → L 93 (g * 7 + c') = 0))) (fun c L => X 16 [.inr 90, .inl g, .inl c] [] L) ?_ 0 N ⟨by omega, by omega, n1, n2, fun x x1 x2 => n3 x x1 (by omega), fun c' u v => n3 _ (by omega) (by omega), fun c' u v => by omega⟩
      intro c L ⟨c1, c2, l1', l2', l3', l4', l5'⟩ jh
      refine bk_R_build_16 (d := d) hX g c L ⟨fun z => ⟨by omega, ih L (by omega) ⟨by omega, by omega, l1', ?_, fun x x1 x2 => l3' x x1 (by omega)⟩⟩, fun z => ?_⟩
      · rw [show g + (-1) + 1 = g by omega]
        intro g' c' u1 u2 u3 u4
        rcases Int.lt_or_le g g' with w | w
        · exact l2' g' c' (by omega) u2 u3 u4
        · obtain rfl : g' = g := by omega
          rw [l1' 91 _ (by omega)]
          obtain ⟨v1, v2⟩ := l5' c' u3 (by omega)
          exact ⟨fun y => ⟨fun _ => (v1 y).1, (v1 y).1.1, (v1 y).2⟩, v2⟩
      · have lr : q_rs L 4 A := q_rs_fr ho r3 (fun c x c1 c2 => l1' c x (by omega))
        have lp : q_pre L A g := ⟨lr, q_lat_fr l3 (fun c x c1 c2 => l1' c x (by omega)), fwI_fr ho (fun _ _ _ w => w) w3 (fun x _ _ => l1' 91 x (by omega)), l2'⟩
        refine sp_R_listState d g c L ho hg (by omega) lp (l4' c (by omega) (by omega)) (fun L' m1 m2 m3 m4 m5 => ⟨rfl, by omega, jh L' z ⟨by omega, by omega, fun c' x hx => (m1 c' x hx).trans (l1' c' x hx), ?_, fun x x1 x2 => ?_, fun c' u v => ?_, fun c' u v => ?_⟩⟩)
        · exact q_rkd_fr ho (by omega) l2' (fun x x1 x2 => ⟨m1 91 x (by omega), m2 92 x (Or.inl rfl) (by omega), m2 93 x (Or.inr rfl) (by omega)⟩) (fun c' x u v w => m3 c' x u v (by omega))
        · rw [m2 93 x (Or.inr rfl) (by omega)]; exact l3' x x1 x2
        · rw [m2 93 _ (Or.inr rfl) (by omega)]; exact l4' c' (by omega) v
        · by_cases w : c' = c
          · rw [w, ← l1' 91 _ (by omega)]
            exact ⟨m4, m5⟩
          · have hwl := a_W_len ho (g := g) (c := c') q (by omega)
            obtain ⟨v1, v2⟩ := l5' c' u (by omega)
            refine ⟨fun y => ?_, fun y => ?_⟩
            · obtain ⟨t1, t2⟩ := v1 y
              exact ⟨q_cl_fr t1 (m2 93 _ (Or.inr rfl) (by omega)) (fun c'' x p1 p2 p3 p4 => m3 c'' x p1 p2 (by omega)), (m2 92 _ (Or.inl rfl) (by omega)).trans t2⟩
            · rw [m2 93 _ (Or.inr rfl) (by omega)]; exact v2 y
  refine outer _ _ ⟨by omega, by omega, fun _ _ _ => rfl, ?_, fun x x1 x2 => e2 x x1 (by omega)⟩
  intro g' c' u1 u2 u3 u4
  obtain rfl : g' = A 271 := by omega
  rw [e1 91 _ (by omega)]
  obtain ⟨v1, v2⟩ := e3 c' u3 u4
  exact ⟨fun y => ⟨fun w => by omega, (v1 y).1, by rw [a_bc_end]; exact (v1 y).2⟩, v2⟩
