theorem q_pre_fr {M M' : jxM} {A : Int → Int} {g : Int} (ho : q_ok A) (hg : 0 ≤ g ∧ g < A 271) (h : q_pre M A g) (hf : ∀ c x, (c < 92 ∨ 96 < c ∧ c < 97) → M' c x = M c x) (f1 : ∀ x, 7 * (g + 1) ≤ x → M' 92 x = M 92 x ∧ M' 93 x = M 93 x) (f2 : ∀ c x, 94 ≤ c → c ≤ 96 → 140 * (g + 1) ≤ x → M' c x = M c x) : q_pre M' A g := by
  obtain ⟨h1, h2, h3, h4⟩ := h
  exact ⟨q_rs_fr ho h1 (fun c x c1 c2 => hf c x (by omega)), q_lat_fr h2 (fun c x c1 c2 => hf c x (by omega)), fwI_fr ho (fun _ _ _ w => w) h3 (fun x _ _ => hf 91 x (by omega)), q_rkd_fr ho (by omega) h4 (fun x x1 x2 => ⟨hf 91 x (by omega), (f1 x x1).1, (f1 x x1).2⟩) (fun c x c1 c2 x1 => f2 c x c1 c2 (by omega))⟩
set_option maxHeartbeats 4000000 in
theorem sp_R_openHeads (d : Nat) (g c : Int) (M : jxM) {A : Int → Int} (ho : q_ok A) (hg : 0 ≤ g ∧ g < A 271) (hc : 0 ≤ c ∧ c ≤ 6) (hp : q_pre M A g) (hre : M 91 (7 * g + c) < 1000000) {K : jxK} (h : ∀ M', (∀ c' x, c' ≠ 97 → c' ≠ 98 → M' c' x = M c' x) → q_hd M' A g c (fun _ => 0) → K none M') : jx_call jx_G1 jx_T (d + 2) 28 [.inr 90, .inl g, .inl c] M K := by
  have hnn := ho.2.2.2.2.1
  have hsl := a_seg_len ho g
  obtain ⟨p1, p2, p3, p4⟩ := hp
  intro X hX
  refine bk_R_openHeads_0 (d := d) hX g c M ?_
  refine jx_loop (σ := jxM) ((a_seg A g).length : Int) (fun i N => 0 ≤ i ∧ i ≤ ((a_seg A g).length : Int) ∧ (∀ c' x, c' ≠ 97 → c' ≠ 98 → N c' x = M c' x) ∧ ∀ j : Nat, (j : Int) < i → N 98 j = 0 ∧ N 97 j = if 0 < (a_W A (f_end A ((a_seg A g).getD j 0) g) (f_cls A ((a_seg A g).getD j 0))).length then a_edge A c ((a_seg A g).getD j 0) + (w_at (a_W A (f_end A ((a_seg A g).getD j 0) g) (f_cls A ((a_seg A g).getD j 0))) 0).1 else 1000000) (fun i N => X 2 [.inr 90, .inl g, .inl c, .inl i, .inr 0, .inr 0] [] N) ?_ 0 M ⟨by omega, by omega, fun _ _ _ _ => rfl, fun j hj => by omega⟩
  intro i N ⟨i1, i2, n1, n2⟩ ih
  have lat : q_lat N A := q_lat_fr p2 (fun c' x a b => n1 c' x (by omega) (by omega))
  have nr : q_rs N 4 A := q_rs_fr ho p1 (fun c' x a b => n1 c' x (by omega) (by omega))
  have e85 : N 85 g = ((a_seg A g).length : Int) := (lat.1 g hg.1 hg.2).1
  refine bk_R_openHeads_2 (d := d) hX g c i N ⟨by omega, fun q => ?_, fun q => ?_⟩
  · refine h N n1 (fun j hj => ?_)
    obtain ⟨a, b⟩ := n2 j (by omega)
    exact ⟨a, Nat.zero_le _, b⟩
  · obtain ⟨k0, k1, k2, k3, k4, k5, k6, k7, k8⟩ := q_lat_at ho lat hg ⟨i1, q⟩
    rw [k2, k3, k4]
    generalize hs : (a_seg A g).getD i.toNat 0 = s at *
    obtain ⟨⟨b1, b2⟩, -⟩ := q_behind ho ⟨p1, p2, p3, p4⟩ hg hc hre k8
    have con := q_con nr (l := c) (r := f_cls A s) hc ⟨k6.1, by omega⟩
    have cb := a_con_bnd ho (l := c) (r := f_cls A s) hc ⟨k6.1, by omega⟩
    have e93 : jx_up N 98 i 0 93 (f_end A s g * 7 + f_cls A s) = M 93 (f_end A s g * 7 + f_cls A s) := by rw [jx_upc (by decide)]; exact n1 93 _ (by decide) (by decide)
    have e94 : ∀ x, jx_up N 98 i 0 94 x = M 94 x := fun x => by rw [jx_upc (by decide)]; exact n1 94 _ (by decide) (by decide)
    have rf : r_from (jx_up N 98 i 0) (f_end A s g * 7 + f_cls A s) = if 0 < (a_W A (f_end A s g) (f_cls A s)).length then (w_at (a_W A (f_end A s g) (f_cls A s)) 0).1 else 1000000 := by
      unfold r_from
      rw [e93, e94, b1]
      by_cases z : 0 < (a_W A (f_end A s g) (f_cls A s)).length
      · have := b2 0 z
        rw [if_neg (by omega), if_pos z, ← this]
        congr 1
        omega
      · rw [if_pos (by omega), if_neg z]
    have rb : 0 ≤ r_from (jx_up N 98 i 0) (f_end A s g * 7 + f_cls A s) ∧ r_from (jx_up N 98 i 0) (f_end A s g * 7 + f_cls A s) ≤ 1000000 := by
      rw [rf]
      by_cases z : 0 < (a_W A (f_end A s g) (f_cls A s)).length
      · rw [if_pos z]
        have := w_at_bnd ho hg hc k8 z
        omega
      · rw [if_neg z]; omega
    rw [con]
    refine ⟨by omega, ih _ (by omega) ⟨by omega, by omega, fun c' x a b => ?_, fun j hj => ?_⟩⟩
    · rw [jx_upc a, jx_upc b]; exact n1 c' x a b
    · by_cases z : (j : Int) = i
      · have hj2 : j = i.toNat := by omega
        rw [z, hj2, hs]
        refine ⟨by rw [jx_upc (by decide), jx_ups], ?_⟩
        rw [jx_ups, rf]
        by_cases z : 0 < (a_W A (f_end A s g) (f_cls A s)).length
        · rw [if_pos z, if_pos z]
          have := w_at_bnd ho hg hc k8 z
          unfold a_edge at *
          omega
        · rw [if_neg z, if_neg z]; omega
      · rw [jx_upc (c := 97) (by decide), jx_upx (by omega), jx_upx (by omega), jx_upc (by decide)]
        exact n2 j (by omega)
set_option maxHeartbeats 4000000 in
theorem sp_R_countBestWays (d : Nat) (g c : Int) (M : jxM) {A : Int → Int} (ho : q_ok A) (hg : 0 ≤ g ∧ g < A 271) (hc : 0 ≤ c ∧ c ≤ 6) (hp : q_pre M A g) (hre : M 91 (7 * g + c) < 1000000) (hh : q_hd M A g c (fun _ => 0)) {K : jxK} (h : K none (jx_up M 92 (g * 7 + c) (a_bc A g c))) : jx_call jx_G1 jx_T (d + 3) 30 [.inr 90, .inl g, .inl (g * 7 + c)] M K := by
  have hnn := ho.2.2.2.2.1
  have hsl := a_seg_len ho g
  have e85 : M 85 g = ((a_seg A g).length : Int) := (hp.2.1.1 g hg.1 hg.2).1
  have et : (M 85 g).toNat = (a_seg A g).length := by omega
  rw [a_bc_step ho hg.1 hg.2] at h
  have fb : ∀ s ∈ a_seg A g, 0 ≤ a_bc A (f_end A s g) (f_cls A s) ∧ a_bc A (f_end A s g) (f_cls A s) ≤ 1000000000 := fun s hs => by
    have y := (a_seg_mem ho hg hs).2.1
    exact a_bc_bnd ho (A 271).toNat (by omega) y.2 (by omega)
  intro X hX
  refine bk_R_countBestWays_0 (d := d) hX g (g * 7 + c) M ⟨by omega, fun q => ⟨by omega, ?_⟩, fun q => ?_⟩
  · rw [et] at q
    rcases q_merge ho hg hc hh with ⟨-, z⟩ | ⟨i, -, z, -⟩
    · have none : ∀ l : List Int, (∀ s ∈ l, ¬ a_tight A g c s) → w_bst (a_tight A g c) (fun s => a_bc A (f_end A s g) (f_cls A s)) 0 l = 0 := by
        intro l
        induction l with
        | nil => intro _; rfl
        | cons t l ih => intro hl; simp only [w_bst]; rw [if_neg (hl t List.mem_cons_self)]; exact ih (fun s hs => hl s (List.mem_cons_of_mem _ hs))
      rw [none _ (fun s hs ht => ?_)] at h
      · exact h
      · obtain ⟨i, hi, rfl⟩ : ∃ i, i < (a_seg A g).length ∧ s = (a_seg A g).getD i 0 := by
          obtain ⟨i, hi, e⟩ := List.getElem_of_mem hs
          exact ⟨i, hi, by rw [List.getD_eq_getElem?_getD, List.getElem?_eq_getElem hi]; exact e.symm⟩
        obtain ⟨t1, -⟩ := ht
        obtain ⟨q0, q1, q2⟩ := w_cc_split (q_F A g c (fun _ => 0)) hi
        rw [q2 _ (fun _ _ _ => rfl)] at z
        have z1 := (List.append_eq_nil_iff.mp (List.append_eq_nil_iff.mp z).2).1
        unfold q_F at z1
        have := congrArg List.length z1
        rw [w_cnd_len, List.length_drop, List.length_nil] at this
        dsimp only at this
        omega
    · omega
  · rw [et] at q ⊢
    rcases q_merge ho hg hc hh with ⟨z, -⟩ | ⟨i, him, z, hz, hlt, hs⟩
    · omega
    · rw [z]
      rw [q_F0] at hs
      have hW0 : (w_at (a_W A g c) 0).1 = M 97 i := by
        rw [a_W_step ho hg.1 hg.2]
        unfold a_wstep
        rw [hs]
        rfl
      have tig : ∀ j : Nat, j < (a_seg A g).length → (a_tight A g c ((a_seg A g).getD j 0) ↔ M 97 j = M 97 i) := by
        intro j hj
        obtain ⟨-, -, e⟩ := hh j hj
        obtain ⟨-, -, ei⟩ := hh i him
        dsimp only at e ei
        have hz0 : 0 < (a_W A (f_end A ((a_seg A g).getD i 0) g) (f_cls A ((a_seg A g).getD i 0))).length := hz
        rw [if_pos hz0] at ei
        have bi := w_at_bnd ho hg hc (j_getD_mem him) hz0
        unfold a_tight
        rw [hW0]
        by_cases y : 0 < (a_W A (f_end A ((a_seg A g).getD j 0) g) (f_cls A ((a_seg A g).getD j 0))).length
        · rw [if_pos y] at e
          constructor
          · rintro ⟨-, w⟩; omega
          · intro w; exact ⟨by omega, by omega⟩
        · rw [if_neg y] at e
          constructor
          · rintro ⟨w, -⟩; omega
          · intro w; omega
      have pre : ∀ k : Nat, k ≤ i → w_bst (a_tight A g c) (fun s => a_bc A (f_end A s g) (f_cls A s)) 0 ((a_seg A g).take k) = 0 := by
        intro k
        induction k with
        | zero => intro _; rfl
        | succ k ihk =>
          intro hk
          rw [take_s (by omega), w_bst_snoc, if_neg (fun w => ?_)]
          · exact ihk (by omega)
          · have y := (tig k (by omega)).mp w
            obtain ⟨-, -, e⟩ := hh k (by omega)
            by_cases w2 : 0 < (a_W A (f_end A ((a_seg A g).getD k 0) g) (f_cls A ((a_seg A g).getD k 0))).length
            · have := hlt k (by omega) w2
              omega
            · exact w.1 (by omega)
      refine jx_loop (σ := Int) ((a_seg A g).length : Int) (fun j a => (i : Int) ≤ j ∧ j ≤ ((a_seg A g).length : Int) ∧ a = w_bst (a_tight A g c) (fun s => a_bc A (f_end A s g) (f_cls A s)) 0 ((a_seg A g).take j.toNat)) (fun j a => X 10 [.inr 90, .inl g, .inl (g * 7 + c), .inl (i : Int), .inl a, .inl j] [] M) ?_ i 0 ⟨by omega, by omega, ?_⟩
      · intro j a ⟨j1, j2, j3⟩ jh
        have ab := w_bst_bnd (T := a_tight A g c) (f := fun s => a_bc A (f_end A s g) (f_cls A s)) (a := 0) (l := (a_seg A g).take j.toNat) (by omega) (fun s hs => (fb s (List.mem_of_mem_take hs)).1)
        refine bk_R_countBestWays_10 (d := d) hX g (g * 7 + c) i a j M ⟨by omega, fun y => ⟨by omega, ?_⟩, fun y => ?_⟩
        · have : j.toNat = (a_seg A g).length := by omega
          rw [this, List.take_length] at j3
          rw [j3]; exact h
        · obtain ⟨k0, k1, k2, k3, k4, k5, k6, k7, k8⟩ := q_lat_at ho hp.2.1 hg ⟨by omega, y⟩
          have tk := take_s (l := a_seg A g) (k := j.toNat) k0
          have tj := tig j.toNat k0
          rw [show ((j.toNat : Nat) : Int) = j by omega] at tj
          have jt : (j + 1).toNat = j.toNat + 1 := by omega
          obtain ⟨-, hb2⟩ := q_behind ho hp hg hc hre k8
          have fbs := fb _ k8
          rw [k2, k3, hb2]
          refine ⟨by omega, fun y2 => ⟨by omega, jh _ (by omega) ⟨by omega, by omega, ?_⟩⟩, fun y2 => ⟨by omega, jh _ (by omega) ⟨by omega, by omega, ?_⟩⟩⟩
          · rw [jt, tk, w_bst_snoc, if_neg (fun w => y2 (tj.mp w))]; exact j3
          · rw [jt, tk, w_bst_snoc, if_pos (tj.mpr y2), j3]
      · rw [show ((i : Int)).toNat = i by omega, pre i (Nat.le_refl _)]
set_option maxHeartbeats 4000000 in
theorem sp_R_takeHead (d : Nat) (g p h : Int) (M : jxM) {b : Int} (hg : 0 ≤ g ∧ g ≤ 16) (hp : 0 ≤ p ∧ p < 119) (hh : 0 ≤ h ∧ h < 21) (hn : 0 ≤ M 93 p ∧ M 93 p < 20) (hsl : (0 ≤ M 87 (g * 21 + h) ∧ M 87 (g * 21 + h) ≤ 16) ∧ (0 ≤ M 88 (g * 21 + h) ∧ M 88 (g * 21 + h) ≤ 6)) (hb : b = M 87 (g * 21 + h) * 7 + M 88 (g * 21 + h)) (hne : p < b) (hr : 0 ≤ M 98 h ∧ M 98 h < M 93 b ∧ M 93 b ≤ 20) (h97 : 0 ≤ M 97 h ∧ M 97 h ≤ 1000000) (h94 : ∀ k, 0 ≤ k → k < M 93 b → 0 ≤ M 94 (b * 20 + k) ∧ M 94 (b * 20 + k) ≤ 1000000) {K : jxK}
    (hK : ∀ M', (∀ c x, (c < 93 ∨ 98 < c) → M' c x = M c x) → (∀ x, x ≠ p → M' 93 x = M 93 x) → (∀ c x, 94 ≤ c → c ≤ 96 → x ≠ p * 20 + M 93 p → M' c x = M c x) → (∀ c x, c = 97 ∨ c = 98 → x ≠ h → M' c x = M c x) → M' 93 p = M 93 p + 1 → M' 94 (p * 20 + M 93 p) = M 97 h → M' 95 (p * 20 + M 93 p) = g * 21 + h → M' 96 (p * 20 + M 93 p) = M 98 h → M' 98 h = M 98 h + 1 → (M 98 h + 1 < M 93 b → M' 97 h = M 97 h + (M 94 (b * 20 + M 98 h + 1) - M 94 (b * 20 + M 98 h))) → (M 93 b ≤ M 98 h + 1 → M' 97 h = 1000000) → K none M') : jx_call jx_G1 jx_T (d + 2) 32 [.inr 90, .inl g, .inl p, .inl h] M K := by
  intro X hX
  have e93 : jx_up (jx_up (jx_up (jx_up M 94 (p * 20 + M 93 p) (M 97 h)) 95 (p * 20 + M 93 p) (g * 21 + h)) 96 (p * 20 + M 93 p) (M 98 h)) 93 p (M 93 p + 1) 93 (M 87 (g * 21 + h) * 7 + M 88 (g * 21 + h)) = M 93 b := by
    rw [jx_upx (by omega), jx_upc (by decide), jx_upc (by decide), jx_upc (by decide), hb]
  have e94 : ∀ k, 0 ≤ k → k < 20 → jx_up M 94 (p * 20 + M 93 p) (M 97 h) 94 ((M 87 (g * 21 + h) * 7 + M 88 (g * 21 + h)) * 20 + k) = M 94 (b * 20 + k) := fun k k1 k2 => by
    rw [jx_upx (by omega), hb]
  have fin : ∀ v, (M 98 h + 1 < M 93 b → v = M 97 h + (M 94 (b * 20 + M 98 h + 1) - M 94 (b * 20 + M 98 h))) → (M 93 b ≤ M 98 h + 1 → v = 1000000) → K none (jx_up (jx_up (jx_up (jx_up (jx_up (jx_up M 94 (p * 20 + M 93 p) (M 97 h)) 95 (p * 20 + M 93 p) (g * 21 + h)) 96 (p * 20 + M 93 p) (M 98 h)) 93 p (M 93 p + 1)) 98 h (M 98 h + 1)) 97 h v) := by
    intro v v1 v2
    refine hK _ (fun c x hc => ?_) (fun x hx => ?_) (fun c x c1 c2 hx => ?_) (fun c x hc hx => ?_) ?_ ?_ ?_ ?_ ?_ (fun z => ?_) (fun z => ?_)
    · rw [jx_upc (by omega), jx_upc (by omega), jx_upc (by omega), jx_upc (by omega), jx_upc (by omega), jx_upc (by omega)]
    · rw [jx_upc (by decide), jx_upc (by decide), jx_upx hx, jx_upc (by decide), jx_upc (by decide), jx_upc (by decide)]
    · have gen : ∀ (L : jxM) (c' : Nat) (v : Int), jx_up L c' (p * 20 + M 93 p) v c x = L c x := fun L c' v => by
        by_cases z : c = c'
        · subst z; exact jx_upx hx
        · exact jx_upc z
      rw [jx_upc (by omega), jx_upc (by omega), jx_upc (by omega), gen, gen, gen]
    · have gen : ∀ (L : jxM) (c' : Nat) (v : Int), jx_up L c' h v c x = L c x := fun L c' v => by
        by_cases z : c = c'
        · subst z; exact jx_upx hx
        · exact jx_upc z
      rw [gen, gen, jx_upc (by omega), jx_upc (by omega), jx_upc (by omega), jx_upc (by omega)]
    · rw [jx_upc (by decide), jx_upc (by decide), jx_ups]
    · rw [jx_upc (by decide), jx_upc (by decide), jx_upc (by decide), jx_upc (by decide), jx_upc (by decide), jx_ups]
    · rw [jx_upc (by decide), jx_upc (by decide), jx_upc (by decide), jx_upc (by decide), jx_ups]
    · rw [jx_upc (by decide), jx_upc (by decide), jx_upc (by decide), jx_ups]
    · rw [jx_upc (by decide), jx_ups]
    · rw [jx_ups]; exact v1 z
    · rw [jx_ups]; exact v2 z
  refine bk_R_takeHead_0 (d := d) hX g p h M ?_
  rw [e93]
  refine ⟨by omega, fun q => ⟨by omega, fin _ (fun z => by omega) (fun _ => rfl)⟩, fun q => ?_⟩
  have f1 := e94 (M 98 h) hr.1 (by omega)
  have f2 := e94 (M 98 h + 1) (by omega) (by omega)
  rw [← Int.add_assoc, ← Int.add_assoc] at f2
  have u1 := h94 (M 98 h) hr.1 hr.2.1
  have u2 := h94 (M 98 h + 1) (by omega) q
  rw [← Int.add_assoc] at u2
  rw [f1, f2]
  exact ⟨by omega, fin _ (fun _ => rfl) (fun z => by omega)⟩
