def w_cnt (f : Int → Int) : Int → List Int → Int
  | a, [] => a
  | a, s :: r => w_cnt f (min (a + f s) 1000000000) r
theorem w_cnt_snoc (f : Int → Int) (a : Int) (l : List Int) (s : Int) : w_cnt f a (l ++ [s]) = min (w_cnt f a l + f s) 1000000000 := by
  induction l generalizing a with
  | nil => rfl
  | cons t l ih => exact ih _
noncomputable def w_bst (T : Int → Prop) (f : Int → Int) : Int → List Int → Int
  | a, [] => a
  | a, s :: r => w_bst T f (@ite Int (T s) (Classical.propDecidable _) (min (a + f s) 1000000000) a) r
theorem w_bst_snoc (T : Int → Prop) (f : Int → Int) (a : Int) (l : List Int) (s : Int) : w_bst T f a (l ++ [s]) = @ite Int (T s) (Classical.propDecidable _) (min (w_bst T f a l + f s) 1000000000) (w_bst T f a l) := by
  induction l generalizing a with
  | nil => rfl
  | cons t l ih => exact ih _
theorem w_bst_eq {T : Int → Prop} {f f' : Int → Int} (a : Int) (l : List Int) (h : ∀ s ∈ l, f s = f' s) : w_bst T f a l = w_bst T f' a l := by
  induction l generalizing a with
  | nil => rfl
  | cons t l ih => simp only [w_bst]; rw [h t List.mem_cons_self]; exact ih _ (fun s hs => h s (List.mem_cons_of_mem _ hs))
theorem w_cnt_eq {f f' : Int → Int} (a : Int) (l : List Int) (h : ∀ s ∈ l, f s = f' s) : w_cnt f a l = w_cnt f' a l := by
  induction l generalizing a with
  | nil => rfl
  | cons t l ih => simp only [w_cnt]; rw [h t List.mem_cons_self]; exact ih _ (fun s hs => h s (List.mem_cons_of_mem _ hs))
theorem w_cnt_bnd {f : Int → Int} {a : Int} {l : List Int} (ha : 0 ≤ a ∧ a ≤ 1000000000) (h : ∀ s ∈ l, 0 ≤ f s) : 0 ≤ w_cnt f a l ∧ w_cnt f a l ≤ 1000000000 := by
  induction l generalizing a with
  | nil => exact ha
  | cons t l ih => exact ih (by have := h t List.mem_cons_self; omega) (fun s hs => h s (List.mem_cons_of_mem _ hs))
theorem w_bst_bnd {T : Int → Prop} {f : Int → Int} {a : Int} {l : List Int} (ha : 0 ≤ a ∧ a ≤ 1000000000) (h : ∀ s ∈ l, 0 ≤ f s) : 0 ≤ w_bst T f a l ∧ w_bst T f a l ≤ 1000000000 := by
  induction l generalizing a with
  | nil => exact ha
  | cons t l ih =>
    simp only [w_bst]
    refine ih ?_ (fun s hs => h s (List.mem_cons_of_mem _ hs))
    have := h t List.mem_cons_self
    split <;> omega
/-- all paths from a gap on -/
noncomputable def a_cn (A : Int → Int) : Int → Int → Int := j_tb (A 271) (fun _ => 1) (fun f g _ => w_cnt (fun s => f (f_end A s g) 0) 0 (a_seg A g)) (A 271).toNat
/-- a segment with which a best way begins -/
def a_tight (A : Int → Int) (g c s : Int) : Prop := (a_W A (f_end A s g) (f_cls A s)).length ≠ 0 ∧ a_edge A c s + (w_at (a_W A (f_end A s g) (f_cls A s)) 0).1 = (w_at (a_W A g c) 0).1
/-- the best ways -/
noncomputable def a_bc (A : Int → Int) : Int → Int → Int := j_tb (A 271) (fun _ => 1) (fun f g c => w_bst (a_tight A g c) (fun s => f (f_end A s g) (f_cls A s)) 0 (a_seg A g)) (A 271).toNat
theorem a_cn_end (A : Int → Int) (c : Int) : a_cn A (A 271) c = 1 := j_tb_end _ _ _ c
theorem a_bc_end (A : Int → Int) (c : Int) : a_bc A (A 271) c = 1 := j_tb_end _ _ _ c
theorem a_cn_step {A : Int → Int} (ho : q_ok A) {g c : Int} (h0 : 0 ≤ g) (h1 : g < A 271) : a_cn A g c = w_cnt (fun s => a_cn A (f_end A s g) 0) 0 (a_seg A g) :=
  j_tb_step (A 271) (fun _ => 1) (fun f g _ => w_cnt (fun s => f (f_end A s g) 0) 0 (a_seg A g)) (fun f f' g c a b h => w_cnt_eq 0 (a_seg A g) (fun s hs => by have := (a_seg_mem ho ⟨a, b⟩ hs).2.1; exact h _ _ this.1 this.2)) h0 h1
theorem a_bc_step {A : Int → Int} (ho : q_ok A) {g c : Int} (h0 : 0 ≤ g) (h1 : g < A 271) : a_bc A g c = w_bst (a_tight A g c) (fun s => a_bc A (f_end A s g) (f_cls A s)) 0 (a_seg A g) :=
  j_tb_step (A 271) (fun _ => 1) (fun f g c => w_bst (a_tight A g c) (fun s => f (f_end A s g) (f_cls A s)) 0 (a_seg A g)) (fun f f' g c a b h => w_bst_eq 0 (a_seg A g) (fun s hs => by have := (a_seg_mem ho ⟨a, b⟩ hs).2.1; exact h _ _ this.1 this.2)) h0 h1
theorem a_cn_bnd {A : Int → Int} (ho : q_ok A) : ∀ (k : Nat) {g c : Int}, 0 ≤ g → g ≤ A 271 → A 271 - g ≤ k → 0 ≤ a_cn A g c ∧ a_cn A g c ≤ 1000000000 := by
  intro k
  induction k with
  | zero => intro g c h0 h1 h2; obtain rfl : g = A 271 := by omega
            rw [a_cn_end]; omega
  | succ k ih =>
    intro g c h0 h1 h2
    rcases Int.lt_or_le g (A 271) with z | z
    · rw [a_cn_step ho h0 z]
      exact w_cnt_bnd (by omega) (fun s hs => (ih (by have := (a_seg_mem ho ⟨h0, z⟩ hs).2.1; omega) (a_seg_mem ho ⟨h0, z⟩ hs).2.1.2 (by have := (a_seg_mem ho ⟨h0, z⟩ hs).2.1; omega)).1)
    · obtain rfl : g = A 271 := by omega
      rw [a_cn_end]; omega
theorem a_bc_bnd {A : Int → Int} (ho : q_ok A) : ∀ (k : Nat) {g c : Int}, 0 ≤ g → g ≤ A 271 → A 271 - g ≤ k → 0 ≤ a_bc A g c ∧ a_bc A g c ≤ 1000000000 := by
  intro k
  induction k with
  | zero => intro g c h0 h1 h2; obtain rfl : g = A 271 := by omega
            rw [a_bc_end]; omega
  | succ k ih =>
    intro g c h0 h1 h2
    rcases Int.lt_or_le g (A 271) with z | z
    · rw [a_bc_step ho h0 z]
      exact w_bst_bnd (by omega) (fun s hs => (ih (by have := (a_seg_mem ho ⟨h0, z⟩ hs).2.1; omega) (a_seg_mem ho ⟨h0, z⟩ hs).2.1.2 (by have := (a_seg_mem ho ⟨h0, z⟩ hs).2.1; omega)).1)
    · obtain rfl : g = A 271 := by omega
      rw [a_bc_end]; omega
/-- costs alone -/
def q_rk (M : jxM) (p : Int) (l : List wX) : Prop := M 6 p = (l.length : Int) ∧ ∀ k : Nat, k < l.length → M 7 (20 * p + k) = (w_at l k).1
theorem q_rw.k {M : jxM} {p : Int} {l : List wX} (h : q_rw M p l) : q_rk M p l := ⟨h.1, fun k hk => (h.2 k hk).1⟩
theorem q_rk_fr {M M' : jxM} {p : Int} {l : List wX} (h : q_rk M p l) (h6 : M' 6 p = M 6 p) (hf : ∀ x, 20 * p ≤ x → x < 20 * p + l.length → M' 7 x = M 7 x) : q_rk M' p l :=
  ⟨by rw [h6]; exact h.1, fun k hk => by rw [hf _ (by omega) (by omega)]; exact h.2 k hk⟩
theorem f_end_eq {A B : Int → Int} (h : ∀ k, 0 ≤ k → k < 305 → B k = A k) {s : Int} (hs : s = -5 ∨ 0 ≤ s ∧ s < 20) (g : Int) : f_end B s g = f_end A s g := by
  unfold f_end
  by_cases z : s = -5
  · rw [if_pos z, if_pos z]
  · rw [if_neg z, if_neg z, h _ (by omega) (by omega)]
theorem f_cls_eq {A B : Int → Int} (h : ∀ k, 0 ≤ k → k < 305 → B k = A k) {s : Int} (hs : s = -5 ∨ 0 ≤ s ∧ s < 20) : f_cls B s = f_cls A s := by
  unfold f_cls
  by_cases z : s = -5
  · rw [if_pos z, if_pos z]
  · rw [if_neg z, if_neg z, h _ (by omega) (by omega)]
theorem f_cost_eq {A B : Int → Int} (h : ∀ k, 0 ≤ k → k < 305 → B k = A k) {s : Int} (hs : s = -5 ∨ 0 ≤ s ∧ s < 20) : f_cost B s = f_cost A s := by
  unfold f_cost f_price
  by_cases z : s = -5
  · rw [if_pos z, if_pos z, h _ (by omega) (by omega)]
  · rw [if_neg z, if_neg z, h _ (by omega) (by omega), h _ (by omega) (by omega)]
theorem w_cnd_at {b s j : Int} {l : List wX} {k : Nat} (h : k < l.length) : w_at (w_cnd b s j l) k = (b + (w_at l k).1, s, j + k) := by
  induction l generalizing j k with
  | nil => simp at h
  | cons a l ih =>
    cases k with
    | zero => simp [w_at, w_cnd]
    | succ k =>
      have := ih (j := j + 1) (k := k) (by simpa using h)
      simp only [w_at, w_cnd, List.getD_cons_succ] at this ⊢
      rw [this]
      congr 2
      omega
theorem takeX_s {l : List wX} {k : Nat} (h : k < l.length) : l.take (k + 1) = l.take k ++ [w_at l k] := by
  rw [List.take_succ_eq_append_getElem h]
  simp [w_at, List.getD_eq_getElem?_getD, List.getElem?_eq_getElem h]
theorem w_st_nice (r : List wX) : w_sd (w_st [] r) ∧ (w_st [] r).length ≤ 20 := by
  have e := w_st_eq [] r
  rw [List.take_nil] at e
  rw [e]
  exact ⟨List.Pairwise.sublist (List.take_sublist _ _) (w_srt_sd List.Pairwise.nil), by rw [List.length_take]; omega⟩
/-- what is found at a gap, and laid behind it -/
def q_bh (M : jxM) (A : Int → Int) (g : Int) : Prop := ∀ g' c, g < g' → g' ≤ A 271 → 0 ≤ c → c ≤ 6 → q_rk M (7 * g' + c) (a_W A g' c) ∧ M 10 (7 * g' + c) = a_bc A g' c
theorem a_con_bnd {A : Int → Int} (ho : q_ok A) {l r : Int} (hl : 0 ≤ l ∧ l ≤ 6) (hr : 0 ≤ r ∧ r ≤ 6) : 0 ≤ a_con A l r ∧ a_con A l r ≤ 99 := by
  unfold a_con
  have := ho.2.2.1 (7 * l + r) (by omega) (by omega)
  rw [← Int.add_assoc] at this
  exact this
/-- an element of the list of segments, with all that is asked of it by the code -/
theorem a_seg_at {A : Int → Int} (ho : q_ok A) {g : Int} (hg : 0 ≤ g ∧ g < A 271) {k : Nat} (hk : k < (a_seg A g).length) : ((a_seg A g).getD k 0 = -5 ∨ 0 ≤ (a_seg A g).getD k 0 ∧ (a_seg A g).getD k 0 < 20) ∧ ((a_seg A g).getD k 0 ≠ -5 → (a_seg A g).getD k 0 < A 0) ∧ (g < f_end A ((a_seg A g).getD k 0) g ∧ f_end A ((a_seg A g).getD k 0) g ≤ A 271) ∧ (0 ≤ f_cls A ((a_seg A g).getD k 0) ∧ f_cls A ((a_seg A g).getD k 0) ≤ 5) ∧ (0 ≤ f_cost A ((a_seg A g).getD k 0) ∧ f_cost A ((a_seg A g).getD k 0) ≤ 200) := by
  have hm := j_getD_mem hk
  obtain ⟨m1, m2, m3, m4, -⟩ := a_seg_mem ho hg hm
  have := ho.1
  exact ⟨by omega, by omega, m2, m3, m4⟩
set_option maxHeartbeats 8000000 in
theorem sp_F_layPlace (d : Nat) (g c : Int) (M : jxM) {A : Int → Int} (hA : ∀ k, 0 ≤ k → k < 305 → M 2 k = A k) (ho : q_ok A) (hg : 0 ≤ g ∧ g < A 271) (hc : 0 ≤ c ∧ c ≤ 6) (h6 : M 1 6 = ((a_seg A g).length : Int)) (h5 : j_l (M 5) 0 (a_seg A g)) (hb : q_bh M A g) {K : jxK}
    (h : ∀ M', (∀ c' x, (c' < 6 ∨ 10 < c') → M' c' x = M c' x) → (∀ c' x, c' = 6 ∨ c' = 10 → x ≠ 7 * g + c → M' c' x = M c' x) → (∀ c' x, 7 ≤ c' → c' ≤ 9 → (x < 20 * (7 * g + c) ∨ 20 * (7 * g + c) + 20 ≤ x) → M' c' x = M c' x) → q_rw M' (7 * g + c) (a_W A g c) → M' 10 (7 * g + c) = a_bc A g c → K none M') : jx_call jx_G2 jx_T (d + 4) 113 [.inr 1, .inl g, .inl c] M K := by
  have hsl := a_seg_len ho g
  have hn := ho.2.2.2.2.1
  have oE := ho.2.1
  intro X hX
  have fr : ∀ N : jxM, (∀ c' x, (c' < 6 ∨ 10 < c') → N c' x = M c' x) → ∀ k, 0 ≤ k → k < 305 → N 2 k = A k := fun N n1 k k1 k2 => (n1 2 k (by omega)).trans (hA k k1 k2)
  -- what the code asks of a segment at place i
  have ask : ∀ (N : jxM) (i : Int), (∀ c' x, (c' < 6 ∨ 10 < c') → N c' x = M c' x) → 0 ≤ i → i < ((a_seg A g).length : Int) → N 5 i = (a_seg A g).getD i.toNat 0 ∧ (N 5 i = -5 ∨ 0 ≤ N 5 i ∧ N 5 i < 20) ∧ (N 5 i = -5 ∨ (0 ≤ N 2 (1 + 11 * N 5 i) ∧ N 2 (1 + 11 * N 5 i) ≤ 6) ∧ (0 ≤ N 2 (1 + 11 * N 5 i + 9) ∧ N 2 (1 + 11 * N 5 i + 9) ≤ 99) ∧ (0 ≤ N 2 (1 + 11 * N 5 i + 10) ∧ N 2 (1 + 11 * N 5 i + 10) ≤ 9)) ∧ f_end (N 2) (N 5 i) g = f_end A (N 5 i) g ∧ f_cls (N 2) (N 5 i) = f_cls A (N 5 i) ∧ f_cost (N 2) (N 5 i) = f_cost A (N 5 i) ∧ (g < f_end A (N 5 i) g ∧ f_end A (N 5 i) g ≤ A 271) ∧ (0 ≤ f_cls A (N 5 i) ∧ f_cls A (N 5 i) ≤ 5) ∧ (0 ≤ f_cost A (N 5 i) ∧ f_cost A (N 5 i) ≤ 200) ∧ N 2 (221 + 7 * c + f_cls A (N 5 i)) = a_con A c (f_cls A (N 5 i)) ∧ (0 ≤ a_con A c (f_cls A (N 5 i)) ∧ a_con A c (f_cls A (N 5 i)) ≤ 99) ∧ N 5 i ∈ a_seg A g := by
    intro N i n1 i1 i2
    have e5 : N 5 i = (a_seg A g).getD i.toNat 0 := by
      have := h5 i.toNat (by omega)
      rw [show (0 : Int) + (i.toNat : Int) = i by omega] at this
      rw [n1 5 i (by omega)]; exact this
    obtain ⟨a1, a2, a3, a4, a5⟩ := a_seg_at ho hg (k := i.toNat) (by omega)
    have hmem : N 5 i ∈ a_seg A g := by rw [e5]; exact j_getD_mem (by omega)
    rw [← e5] at a1 a2 a3 a4 a5
    have nA := fr N n1
    refine ⟨e5, a1, ?_, f_end_eq nA a1 g, f_cls_eq nA a1, f_cost_eq nA a1, a3, a4, a5, ?_, a_con_bnd ho hc (by omega), hmem⟩
    · by_cases z : N 5 i = -5
      · exact Or.inl z
      · obtain ⟨y1, y2, y3, y4⟩ := oE (N 5 i) (by omega) (a2 z)
        rw [nA _ (by omega) (by omega), nA _ (by omega) (by omega), nA _ (by omega) (by omega)]
        exact Or.inr ⟨by omega, y3, y4⟩
    · unfold a_con
      exact nA _ (by omega) (by omega)
  -- the second loop
  have lp2 : ∀ (i : Int) (N : jxM), (0 ≤ i ∧ i ≤ ((a_seg A g).length : Int) ∧ (∀ c' x, (c' < 6 ∨ 10 < c') → N c' x = M c' x) ∧ (∀ c' x, c' = 6 ∨ c' = 10 → x ≠ 7 * g + c → N c' x = M c' x) ∧ (∀ c' x, 7 ≤ c' → c' ≤ 9 → (x < 20 * (7 * g + c) ∨ 20 * (7 * g + c) + 20 ≤ x) → N c' x = M c' x) ∧ q_rw N (7 * g + c) (a_W A g c) ∧ N 10 (7 * g + c) = w_bst (a_tight A g c) (fun s => a_bc A (f_end A s g) (f_cls A s)) 0 ((a_seg A g).take i.toNat)) → X 78 [.inr 1, .inl g, .inl c, .inl (7 * g + c), .inl i, .inr 0, .inr 0, .inr 0, .inr 0] [] N := by
    refine jx_loop (σ := jxM) ((a_seg A g).length : Int) _ _ ?_
    intro i N ⟨i1, i2, n1, n2, n3, n4, n5⟩ ih
    have e16 : N 1 6 = ((a_seg A g).length : Int) := (n1 1 6 (by omega)).trans h6
    refine bk_F_layPlace_78 (d := d) hX g c (7 * g + c) i N ⟨fun q => ?_, fun q => ?_⟩
    · have : i.toNat = (a_seg A g).length := by omega
      rw [this, List.take_length, ← a_bc_step ho hg.1 hg.2] at n5
      exact h N n1 n2 n3 n4 n5
    · obtain ⟨s0, s1, s2, s3, s4, s5, s6, s7, s8, s9, s10, s11⟩ := ask N i n1 i1 (by omega)
      have hbs : ∀ g' c', g < g' → g' ≤ A 271 → 0 ≤ c' → c' ≤ 6 → q_rk N (7 * g' + c') (a_W A g' c') ∧ N 10 (7 * g' + c') = a_bc A g' c' := fun g' c' a1 a2 a3 a4 => by
        have hl := a_W_len ho (g := g') (c := c') (by omega) a2
        obtain ⟨z1, z2⟩ := hb g' c' a1 a2 a3 a4
        exact ⟨q_rk_fr z1 (n2 6 _ (Or.inl rfl) (by omega)) (fun x x1 x2 => n3 7 x (by omega) (by omega) (by omega)), (n2 10 _ (Or.inr rfl) (by omega)).trans z2⟩
      rw [s3, s4, s5, s9]
      obtain ⟨⟨b1, b2⟩, b3⟩ := hbs (f_end A (N 5 i) g) (f_cls A (N 5 i)) s6.1 s6.2 s7.1 (by omega)
      have it : (i + 1).toNat = i.toNat + 1 := by omega
      have tk := take_s (l := a_seg A g) (k := i.toNat) (by omega)
      rw [← s0] at tk
      have bb := a_bc_bnd ho (A 271).toNat (g := f_end A (N 5 i) g) (c := f_cls A (N 5 i)) (by omega) s6.2 (by omega)
      have bp := w_bst_bnd (T := a_tight A g c) (f := fun s => a_bc A (f_end A s g) (f_cls A s)) (a := 0) (l := (a_seg A g).take i.toNat) (by omega) (fun s hs => by
        have hs := List.mem_of_mem_take hs
        have y := (a_seg_mem ho hg hs).2.1
        exact (a_bc_bnd ho (A 271).toNat (by omega) y.2 (by omega)).1)
      have hW0 : (a_W A (f_end A (N 5 i) g) (f_cls A (N 5 i))).length ≠ 0 → 0 < (a_W A g c).length ∧ N 7 (20 * (7 * g + c)) = (w_at (a_W A g c) 0).1 := by
        intro z
        have hne : (a_W A g c).length ≠ 0 := by
          intro y
          have hnil : a_W A g c = [] := List.length_eq_zero_iff.mp y
          rw [a_W_step ho hg.1 hg.2] at hnil
          unfold a_wstep at hnil
          have hx : (a_edge A c (N 5 i) + (w_at (a_W A (f_end A (N 5 i) g) (f_cls A (N 5 i))) 0).1, N 5 i, (0 : Int)) ∈ w_srt [] (a_cands A (a_W A) g c) := by
            refine w_srt_mem.mpr (Or.inr ?_)
            unfold a_cands
            refine List.mem_flatMap.mpr ⟨N 5 i, s11, ?_⟩
            have e := w_cnd_at (b := a_edge A c (N 5 i)) (s := N 5 i) (j := 0) (l := a_W A (f_end A (N 5 i) g) (f_cls A (N 5 i))) (k := 0) (by omega)
            have hm := w_at_mem (l := w_cnd (a_edge A c (N 5 i)) (N 5 i) 0 (a_W A (f_end A (N 5 i) g) (f_cls A (N 5 i)))) (k := 0) (by rw [w_cnd_len]; omega)
            rw [e] at hm
            exact hm
          cases hsr : w_srt [] (a_cands A (a_W A) g c) with
          | nil => rw [hsr] at hx; cases hx
          | cons p r => rw [hsr] at hnil; cases hnil
        refine ⟨by omega, ?_⟩
        have := (n4.2 0 (by omega)).1
        rw [show 20 * (7 * g + c) + ((0 : Nat) : Int) = 20 * (7 * g + c) by omega] at this
        exact this
      have skip : ¬ a_tight A g c (N 5 i) → X 78 [.inr 1, .inl g, .inl c, .inl (7 * g + c), .inl (i + 1), .inr 0, .inr 0, .inr 0, .inr 0] [] (jx_up N 10 (7 * g + c) (N 10 (7 * g + c))) := by
        intro ht
        refine ih _ (by omega) ⟨by omega, by omega, fun c' x hc' => ?_, fun c' x hc' hx => ?_, fun c' x c1 c2 hx => ?_, q_rw_fr n4 (jx_upc (by decide)) (fun c' x c1 c2 _ _ => jx_upc (by omega)), ?_⟩
        · rw [jx_upc (by omega)]; exact n1 c' x hc'
        · rcases hc' with rfl | rfl
          · rw [jx_upc (by decide)]; exact n2 6 x (Or.inl rfl) hx
          · rw [jx_upx hx]; exact n2 10 x (Or.inr rfl) hx
        · rw [jx_upc (by omega)]; exact n3 c' x c1 c2 hx
        · rw [jx_ups, it, tk, w_bst_snoc, if_neg ht]; exact n5
      refine ⟨by omega, fun q2 => ⟨by omega, skip (fun z => z.1 (by omega))⟩, fun q2 => ?_⟩
      have e0 := b2 0 (by omega)
      rw [show 20 * (7 * f_end A (N 5 i) g + f_cls A (N 5 i)) + ((0 : Nat) : Int) = 20 * (7 * f_end A (N 5 i) g + f_cls A (N 5 i)) by omega] at e0
      obtain ⟨p1, p2⟩ := hW0 (by omega)
      have wb := a_W_bnd ho (A 271).toNat (g := f_end A (N 5 i) g) (c := f_cls A (N 5 i)) (by omega) s6.2 (by omega) (by omega) _ (w_at_mem (l := a_W A (f_end A (N 5 i) g) (f_cls A (N 5 i))) (k := 0) (by omega))
      rw [e0, p2, b3]
      refine ⟨by omega, fun q3 => ⟨by omega, skip (fun z => q3 z.2)⟩, fun q3 => ⟨by omega, ih _ (by omega) ⟨by omega, by omega, fun c' x hc' => ?_, fun c' x hc' hx => ?_, fun c' x c1 c2 hx => ?_, q_rw_fr n4 (jx_upc (by decide)) (fun c' x c1 c2 _ _ => jx_upc (by omega)), ?_⟩⟩⟩
      · rw [jx_upc (by omega)]; exact n1 c' x hc'
      · rcases hc' with rfl | rfl
        · rw [jx_upc (by decide)]; exact n2 6 x (Or.inl rfl) hx
        · rw [jx_upx hx]; exact n2 10 x (Or.inr rfl) hx
      · rw [jx_upc (by omega)]; exact n3 c' x c1 c2 hx
      · rw [jx_ups, it, tk, w_bst_snoc, if_pos (show a_tight A g c (N 5 i) from ⟨by omega, q3⟩), n5]
  -- the first loop
  have lp1 : ∀ (i : Int) (N : jxM), (0 ≤ i ∧ i ≤ ((a_seg A g).length : Int) ∧ (∀ c' x, (c' < 6 ∨ 10 < c') → N c' x = M c' x) ∧ (∀ c' x, c' = 6 ∨ c' = 10 → x ≠ 7 * g + c → N c' x = M c' x) ∧ (∀ c' x, 7 ≤ c' → c' ≤ 9 → (x < 20 * (7 * g + c) ∨ 20 * (7 * g + c) + 20 ≤ x) → N c' x = M c' x) ∧ q_rw N (7 * g + c) (w_st [] (((a_seg A g).take i.toNat).flatMap (fun s => w_cnd (a_edge A c s) s 0 (a_W A (f_end A s g) (f_cls A s))))) ∧ N 10 (7 * g + c) = 0) → X 18 [.inr 1, .inl g, .inl c, .inl (7 * g + c), .inl i, .inr 0, .inr 0, .inr 0, .inr 0] [] N := by
    refine jx_loop (σ := jxM) ((a_seg A g).length : Int) _ _ ?_
    intro i N ⟨i1, i2, n1, n2, n3, n4, n5⟩ ih
    have e16 : N 1 6 = ((a_seg A g).length : Int) := (n1 1 6 (by omega)).trans h6
    refine bk_F_layPlace_18 (d := d) hX g c (7 * g + c) i N ⟨fun q => ?_, fun q => ?_⟩
    · have : i.toNat = (a_seg A g).length := by omega
      rw [this, List.take_length] at n4
      have e : a_W A g c = w_st [] ((a_seg A g).flatMap (fun s => w_cnd (a_edge A c s) s 0 (a_W A (f_end A s g) (f_cls A s)))) := by
        rw [a_W_step ho hg.1 hg.2]
        have := w_st_eq [] (a_cands A (a_W A) g c)
        rw [List.take_nil] at this
        exact this.symm
      rw [← e] at n4
      exact lp2 0 N ⟨by omega, by omega, n1, n2, n3, n4, by rw [n5]; rfl⟩
    · obtain ⟨s0, s1, s2, s3, s4, s5, s6, s7, s8, s9, s10, s11⟩ := ask N i n1 i1 (by omega)
      rw [s3, s4, s5, s9]
      refine ⟨by omega, ?_⟩
      have it : (i + 1).toNat = i.toNat + 1 := by omega
      have tk := take_s (l := a_seg A g) (k := i.toNat) (by omega)
      rw [← s0] at tk
      generalize hs : N 5 i = s at *
      have hwl := a_W_len ho (g := f_end A s g) (c := f_cls A s) (by omega) s6.2
      have inner : ∀ (k : Int) (L : jxM), (0 ≤ k ∧ k ≤ ((a_W A (f_end A s g) (f_cls A s)).length : Int) ∧ (∀ c' x, (c' < 6 ∨ 10 < c') → L c' x = M c' x) ∧ (∀ c' x, c' = 6 ∨ c' = 10 → x ≠ 7 * g + c → L c' x = M c' x) ∧ (∀ c' x, 7 ≤ c' → c' ≤ 9 → (x < 20 * (7 * g + c) ∨ 20 * (7 * g + c) + 20 ≤ x) → L c' x = M c' x) ∧ q_rw L (7 * g + c) (w_st [] (((a_seg A g).take i.toNat).flatMap (fun s => w_cnd (a_edge A c s) s 0 (a_W A (f_end A s g) (f_cls A s))) ++ (w_cnd (a_edge A c s) s 0 (a_W A (f_end A s g) (f_cls A s))).take k.toNat)) ∧ L 10 (7 * g + c) = 0) → X 51 [.inr 1, .inl g, .inl c, .inl (7 * g + c), .inl i, .inl s, .inl (7 * f_end A s g + f_cls A s), .inl (a_con A c (f_cls A s) + f_cost A s), .inl k] [] L := by
        refine jx_loop (σ := jxM) ((a_W A (f_end A s g) (f_cls A s)).length : Int) _ _ ?_
        intro k L ⟨k1, k2, l1, l2, l3, l4, l5⟩ jh
        obtain ⟨z1, -⟩ := hb (f_end A s g) (f_cls A s) s6.1 s6.2 s7.1 (by omega)
        obtain ⟨b1, b2⟩ := q_rk_fr (M' := L) z1 (l2 6 _ (Or.inl rfl) (by omega)) (fun x x1 x2 => l3 7 x (by omega) (by omega) (by omega))
        refine bk_F_layPlace_51 (d := d) hX g c (7 * g + c) i s (7 * f_end A s g + f_cls A s) (a_con A c (f_cls A s) + f_cost A s) k L ⟨by omega, fun z => ⟨by omega, ?_⟩, fun z => ?_⟩
        · refine ih L (by omega) ⟨by omega, by omega, l1, l2, l3, ?_, l5⟩
          rw [it, tk, List.flatMap_append]
          simp only [List.flatMap_cons, List.flatMap_nil, List.append_nil]
          have e9 : (w_cnd (a_edge A c s) s 0 (a_W A (f_end A s g) (f_cls A s))).take k.toNat = w_cnd (a_edge A c s) s 0 (a_W A (f_end A s g) (f_cls A s)) := List.take_of_length_le (by rw [w_cnd_len]; omega)
          rw [e9] at l4
          exact l4
        · have e := b2 k.toNat (by omega)
          rw [show 20 * (7 * f_end A s g + f_cls A s) + ((k.toNat : Nat) : Int) = 20 * (7 * f_end A s g + f_cls A s) + k by omega] at e
          have wb := a_W_bnd ho (A 271).toNat (g := f_end A s g) (c := f_cls A s) (by omega) s6.2 (by omega) (by omega) _ (w_at_mem (l := a_W A (f_end A s g) (f_cls A s)) (k := k.toNat) (by omega))
          rw [e]
          refine ⟨by omega, ?_⟩
          obtain ⟨ns, nl⟩ := w_st_nice (((a_seg A g).take i.toNat).flatMap (fun s => w_cnd (a_edge A c s) s 0 (a_W A (f_end A s g) (f_cls A s))) ++ (w_cnd (a_edge A c s) s 0 (a_W A (f_end A s g) (f_cls A s))).take k.toNat)
          refine sp_F_insert (d + 2) (7 * g + c) _ s k L (by omega) nl ns l4 (fun L' m1 m2 m3 m4 => ⟨rfl, by omega, jh L' (by omega) ⟨by omega, by omega, fun c' x hc' => ?_, fun c' x hc' hx => ?_, fun c' x c1 c2 hx => ?_, ?_, ?_⟩⟩)
          · rw [m1 c' x (by omega)]; exact l1 c' x hc'
          · rcases hc' with rfl | rfl
            · rw [m2 x hx]; exact l2 6 x (Or.inl rfl) hx
            · rw [m1 10 x (by omega)]; exact l2 10 x (Or.inr rfl) hx
          · rw [m3 c' x c1 c2 hx]; exact l3 c' x c1 c2 hx
          · rw [show (k + 1).toNat = k.toNat + 1 by omega, takeX_s (by rw [w_cnd_len]; omega), ← List.append_assoc, w_st_app, w_cnd_at (by omega), show (0 : Int) + (k.toNat : Int) = k by omega]
            exact m4
          · rw [m1 10 _ (by omega)]; exact l5
      refine inner 0 N ⟨by omega, by omega, n1, n2, n3, ?_, n5⟩
      rw [show (0 : Int).toNat = 0 from rfl, List.take_zero, List.append_nil]
      exact n4
  refine bk_F_layPlace_0 (d := d) hX g c M ⟨by omega, lp1 0 _ ⟨by omega, by omega, fun c' x hc' => ?_, fun c' x hc' hx => ?_, fun c' x c1 c2 hx => ?_, ⟨?_, fun k hk => absurd hk (Nat.not_lt_zero _)⟩, jx_ups⟩⟩
  · rw [jx_upc (by omega), jx_upc (by omega)]
  · rcases hc' with rfl | rfl
    · rw [jx_upc (by decide), jx_upx hx]
    · rw [jx_upx hx, jx_upc (by decide)]
  · rw [jx_upc (by omega), jx_upc (by omega)]
  · rw [jx_upc (by decide), jx_ups]; rfl
