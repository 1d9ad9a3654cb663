def q_ck (M : jxM) (p : Int) (l : List wX) : Prop := M 93 p = (l.length : Int) ∧ ∀ k : Nat, k < l.length → M 94 (p * 20 + k) = (w_at l k).1
/-- a list of the class's ranking -/
def q_cl (M : jxM) (A : Int → Int) (g p : Int) (l : List wX) : Prop := q_ck M p l ∧ ∀ k : Nat, k < l.length → M 96 (p * 20 + k) = (w_at l k).2.2 ∧ ∃ i : Nat, i < (a_seg A g).length ∧ M 95 (p * 20 + k) = g * 21 + i ∧ (a_seg A g).getD i 0 = (w_at l k).2.1
/-- the ranking stands from gap g on -/
def q_rkd (M : jxM) (A : Int → Int) (g : Int) : Prop := ∀ g' c, g ≤ g' → g' ≤ A 271 → 0 ≤ c → c ≤ 6 → (M 91 (7 * g' + c) < 1000000 → (g' < A 271 → q_cl M A g' (g' * 7 + c) (a_W A g' c)) ∧ q_ck M (g' * 7 + c) (a_W A g' c) ∧ M 92 (g' * 7 + c) = a_bc A g' c) ∧ (1000000 ≤ M 91 (7 * g' + c) → M 93 (g' * 7 + c) = 0)
theorem q_ck_fr {M M' : jxM} {p : Int} {l : List wX} (h : q_ck M p l) (h3 : M' 93 p = M 93 p) (hf : ∀ x, p * 20 ≤ x → x < p * 20 + l.length → M' 94 x = M 94 x) : q_ck M' p l := ⟨by rw [h3]; exact h.1, fun k hk => by rw [hf _ (by omega) (by omega)]; exact h.2 k hk⟩
theorem q_cl_fr {M M' : jxM} {A : Int → Int} {g p : Int} {l : List wX} (h : q_cl M A g p l) (h3 : M' 93 p = M 93 p) (hf : ∀ c x, 94 ≤ c → c ≤ 96 → p * 20 ≤ x → x < p * 20 + l.length → M' c x = M c x) : q_cl M' A g p l :=
  ⟨q_ck_fr h.1 h3 (fun x a b => hf 94 x (by omega) (by omega) a b), fun k hk => by rw [hf 96 _ (by omega) (by omega) (by omega) (by omega), hf 95 _ (by omega) (by omega) (by omega) (by omega)]; exact h.2 k hk⟩
theorem q_rkd_fr {M M' : jxM} {A : Int → Int} {g : Int} (ho : q_ok A) (hg : 0 ≤ g) (h : q_rkd M A g) (f1 : ∀ x, 7 * g ≤ x → x < 119 → M' 91 x = M 91 x ∧ M' 92 x = M 92 x ∧ M' 93 x = M 93 x) (f2 : ∀ c x, 94 ≤ c → c ≤ 96 → 140 * g ≤ x → M' c x = M c x) : q_rkd M' A g := by
  have hnn := ho.2.2.2.2.1
  intro g' c a b c1 c2
  have hl := a_W_len ho (g := g') (c := c) (by omega) b
  obtain ⟨h1, h2⟩ := h g' c a b c1 c2
  rw [(f1 (7 * g' + c) (by omega) (by omega)).1, (f1 (g' * 7 + c) (by omega) (by omega)).2.2, (f1 (g' * 7 + c) (by omega) (by omega)).2.1]
  refine ⟨fun z => ?_, h2⟩
  obtain ⟨y1, y2, y3⟩ := h1 z
  exact ⟨fun w => q_cl_fr (y1 w) (f1 _ (by omega) (by omega)).2.2 (fun c' x e1 e2 e3 e4 => f2 c' x e1 e2 (by omega)), q_ck_fr y2 (f1 _ (by omega) (by omega)).2.2 (fun x e3 e4 => f2 94 x (by omega) (by omega) (by omega)), y3⟩
/-- what listState stands on -/
def q_pre (M : jxM) (A : Int → Int) (g : Int) : Prop := q_rs M 4 A ∧ q_lat M A ∧ fwI (M 91) 1000000 A (a_E A) ∧ q_rkd M A (g + 1)
/-- of a slot at gap g, seen from a reachable state: what lies behind it -/
theorem q_behind {M : jxM} {A : Int → Int} (ho : q_ok A) {g c : Int} (h : q_pre M A g) (hg : 0 ≤ g ∧ g < A 271) (hc : 0 ≤ c ∧ c ≤ 6) (hre : M 91 (7 * g + c) < 1000000) {s : Int} (hs : s ∈ a_seg A g) : q_ck M (f_end A s g * 7 + f_cls A s) (a_W A (f_end A s g) (f_cls A s)) ∧ M 92 (f_end A s g * 7 + f_cls A s) = a_bc A (f_end A s g) (f_cls A s) := by
  obtain ⟨-, -, h3, h4⟩ := h
  obtain ⟨-, m2, m3, -, -⟩ := a_seg_mem ho hg hs
  have e : a_E A g c s := ⟨hg.1, hg.2, hc.1, hc.2, hs⟩
  have y1 := h3.2.2.1 g c s e hre
  have y2 := (h3.1 g c hg.1 (by omega) hc.1 hc.2).2 hre
  have y3 := a_edge_bnd ho e
  have hnn := ho.2.2.2.2.1
  have := (h4 (f_end A s g) (f_cls A s) (by omega) m2.2 m3.1 (by omega)).1 (by omega)
  exact this.2
/-- the heads: of slot i so many ways are taken -/
def q_hd (M : jxM) (A : Int → Int) (g c : Int) (r : Nat → Nat) : Prop := ∀ i : Nat, i < (a_seg A g).length → M 98 i = (r i : Int) ∧ r i ≤ (a_W A (f_end A ((a_seg A g).getD i 0) g) (f_cls A ((a_seg A g).getD i 0))).length ∧ M 97 i = if r i < (a_W A (f_end A ((a_seg A g).getD i 0) g) (f_cls A ((a_seg A g).getD i 0))).length then a_edge A c ((a_seg A g).getD i 0) + (w_at (a_W A (f_end A ((a_seg A g).getD i 0) g) (f_cls A ((a_seg A g).getD i 0))) (r i)).1 else 1000000
/-- what is left of slot i -/
noncomputable def q_F (A : Int → Int) (g c : Int) (r : Nat → Nat) (i : Nat) : List wX := w_cnd (a_edge A c ((a_seg A g).getD i 0)) ((a_seg A g).getD i 0) (r i) ((a_W A (f_end A ((a_seg A g).getD i 0) g) (f_cls A ((a_seg A g).getD i 0))).drop (r i))
theorem w_cnd_drop {b s j : Int} {l : List wX} {r : Nat} (h : r < l.length) : w_cnd b s j (l.drop r) = (b + (w_at l r).1, s, j) :: w_cnd b s (j + 1) (l.drop (r + 1)) := by
  rw [List.drop_eq_getElem_cons h]
  simp only [w_cnd]
  congr 2
  unfold w_at
  rw [List.getD_eq_getElem?_getD, List.getElem?_eq_getElem h]
  rfl
theorem w_sd_drop {l : List wX} (h : w_sd l) (r : Nat) : w_sd (l.drop r) := List.Pairwise.sublist (List.drop_sublist _ _) h
theorem w_at_bnd {A : Int → Int} (ho : q_ok A) {g s c : Int} (hg : 0 ≤ g ∧ g < A 271) (hc : 0 ≤ c ∧ c ≤ 6) (hs : s ∈ a_seg A g) {k : Nat} (hk : k < (a_W A (f_end A s g) (f_cls A s)).length) : 0 ≤ a_edge A c s + (w_at (a_W A (f_end A s g) (f_cls A s)) k).1 ∧ a_edge A c s + (w_at (a_W A (f_end A s g) (f_cls A s)) k).1 < 10000 ∧ 0 ≤ (w_at (a_W A (f_end A s g) (f_cls A s)) k).1 ∧ (w_at (a_W A (f_end A s g) (f_cls A s)) k).1 < 10000 := by
  have hnn := ho.2.2.2.2.1
  obtain ⟨-, m2, m3, -, -⟩ := a_seg_mem ho hg hs
  have y3 := a_edge_bnd ho (show a_E A g c s from ⟨hg.1, hg.2, hc.1, hc.2, hs⟩)
  have wb := a_W_bnd ho (A 271).toNat (g := f_end A s g) (c := f_cls A s) (by omega) m2.2 (by omega) (by omega) _ (w_at_mem hk)
  omega
def r_inc (r : Nat → Nat) (i : Nat) : Nat → Nat := fun j => if j = i then r j + 1 else r j
theorem r_inc_s (r : Nat → Nat) (i : Nat) : r_inc r i i = r i + 1 := by unfold r_inc; rw [if_pos rfl]
theorem r_inc_n (r : Nat → Nat) {i j : Nat} (h : j ≠ i) : r_inc r i j = r j := by unfold r_inc; rw [if_neg h]
/-- one step of the merge, by the cheapest head -/
theorem q_merge {M : jxM} {A : Int → Int} (ho : q_ok A) {g c : Int} (hg : 0 ≤ g ∧ g < A 271) (hc : 0 ≤ c ∧ c ≤ 6) {r : Nat → Nat} (h : q_hd M A g c r) : (r_head M (a_seg A g).length = -1 ∧ w_cc (q_F A g c r) (a_seg A g).length = []) ∨ ∃ i : Nat, i < (a_seg A g).length ∧ r_head M (a_seg A g).length = i ∧ r i < (a_W A (f_end A ((a_seg A g).getD i 0) g) (f_cls A ((a_seg A g).getD i 0))).length ∧ (∀ j, j < i → (r j < (a_W A (f_end A ((a_seg A g).getD j 0) g) (f_cls A ((a_seg A g).getD j 0))).length → M 97 i < M 97 j)) ∧ w_srt [] (w_cc (q_F A g c r) (a_seg A g).length) = (M 97 i, (a_seg A g).getD i 0, (r i : Int)) :: w_srt [] (w_cc (q_F A g c (r_inc r i)) (a_seg A g).length) := by
  have nil : ∀ i, i < (a_seg A g).length → ¬ r i < (a_W A (f_end A ((a_seg A g).getD i 0) g) (f_cls A ((a_seg A g).getD i 0))).length → q_F A g c r i = [] := fun i hi hz => by
    unfold q_F
    rw [List.drop_eq_nil_of_le (by omega)]
    rfl
  have all : ∀ i, i < (a_seg A g).length → ∀ p ∈ q_F A g c r i, M 97 i ≤ p.1 := fun i hi p hp => by
    obtain ⟨-, h2, h3⟩ := h i hi
    by_cases hz : r i < (a_W A (f_end A ((a_seg A g).getD i 0) g) (f_cls A ((a_seg A g).getD i 0))).length
    · rw [if_pos hz] at h3
      unfold q_F at hp
      obtain ⟨-, m2, -⟩ := a_seg_mem ho hg (j_getD_mem hi)
      have sd := w_cnd_sd (b := a_edge A c ((a_seg A g).getD i 0)) (s := (a_seg A g).getD i 0) (k := (r i : Int)) (w_sd_drop (a_W_sd ho (g := f_end A ((a_seg A g).getD i 0) g) (c := f_cls A ((a_seg A g).getD i 0)) (by omega) m2.2) (r i))
      rw [w_cnd_drop hz] at hp sd
      rcases List.mem_cons.mp hp with rfl | hp
      · show M 97 i ≤ _
        omega
      · have := (List.pairwise_cons.mp sd).1 p hp
        rw [h3]; exact this
    · rw [nil i hi hz] at hp; cases hp
  rcases r_head_spec M (a_seg A g).length with ⟨h1, h2⟩ | ⟨h1, h2, h3, h4, h5⟩
  · refine Or.inl ⟨h1, w_cc_nil (fun i hi => nil i hi (fun z => ?_))⟩
    obtain ⟨-, -, e⟩ := h i hi
    rw [if_pos z] at e
    have := h2 i (by omega) (by omega)
    have := w_at_bnd ho hg hc (j_getD_mem hi) z
    omega
  · obtain ⟨i, hi⟩ : ∃ i : Nat, r_head M (a_seg A g).length = (i : Int) := ⟨(r_head M (a_seg A g).length).toNat, by omega⟩
    rw [hi] at h1 h2 h3 h4 h5
    have him : i < (a_seg A g).length := by omega
    obtain ⟨-, -, e⟩ := h i him
    have hz : r i < (a_W A (f_end A ((a_seg A g).getD i 0) g) (f_cls A ((a_seg A g).getD i 0))).length := Classical.byContradiction (fun z => by rw [if_neg z] at e; omega)
    rw [if_pos hz] at e
    have hhead : q_F A g c r i = (M 97 i, (a_seg A g).getD i 0, (r i : Int)) :: q_F A g c (r_inc r i) i := by
      unfold q_F
      rw [w_cnd_drop hz, e, r_inc_s]
      rfl
    refine Or.inr ⟨i, him, hi, hz, fun j hj _ => h4 j (by omega) (by omega), ?_⟩
    refine w_pick (i := i) him hhead (fun j hj p hp => ?_) (fun j hj hj2 p hp => ?_) (fun p hp => ?_) (fun j hj hn => ?_) rfl
    · have := h4 j (by omega) (by omega)
      have := all j (by omega) p hp
      show M 97 i < p.1
      omega
    · have := h5 j (by omega) (by omega)
      have := all j hj2 p hp
      show M 97 i ≤ p.1
      omega
    · exact all i him p (by rw [hhead]; exact List.mem_cons_of_mem _ hp)
    · unfold q_F
      rw [r_inc_n r hn]
theorem q_F0 (A : Int → Int) (g c : Int) : w_cc (q_F A g c (fun _ => 0)) (a_seg A g).length = a_cands A (a_W A) g c := by
  have := w_cc_flat (fun s => w_cnd (a_edge A c s) s 0 (a_W A (f_end A s g) (f_cls A s))) (a_seg A g) (a_seg A g).length (Nat.le_refl _)
  rw [List.take_length] at this
  exact this
