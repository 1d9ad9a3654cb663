theorem jx_loopM {σ : Type} (b : Int) (Inv : Int → σ → Prop) (P : Int → σ → Prop) (hs : ∀ i s, Inv i s → (∀ s', b < i → Inv (i + (-1)) s' → P (i + (-1)) s') → P i s) : ∀ i s, Inv i s → P i s := by
  have key : ∀ (n : Nat) (i : Int) (s : σ), (i - b).toNat < n → Inv i s → P i s := by
    intro n
    induction n with
    | zero => intro i s h; omega
    | succ n ih => exact fun i s h hi => hs i s hi (fun s' hb hi' => ih (i + (-1)) s' (by omega) hi')
  exact fun i s hi => key _ i s (Nat.lt_succ_self _) hi
/-- the numbers below k with P, in order -/
noncomputable def j_fl (P : Int → Prop) : Nat → List Int
  | 0 => []
  | k + 1 => j_fl P k ++ @ite (List Int) (P k) (Classical.propDecidable _) [(k : Int)] []
theorem j_fl_t {P : Int → Prop} {k : Nat} (h : P k) : j_fl P (k + 1) = j_fl P k ++ [(k : Int)] := by simp only [j_fl]; rw [if_pos h]
theorem j_fl_f {P : Int → Prop} {k : Nat} (h : ¬ P k) : j_fl P (k + 1) = j_fl P k := by simp only [j_fl]; rw [if_neg h, List.append_nil]
theorem j_fl_mem {P : Int → Prop} (k : Nat) {x : Int} : x ∈ j_fl P k ↔ 0 ≤ x ∧ x < k ∧ P x := by
  induction k with
  | zero => constructor
            · intro h; cases h
            · intro h; omega
  | succ k ih =>
    by_cases hp : P k
    · rw [j_fl_t hp, List.mem_append, ih, List.mem_singleton]
      constructor
      · rintro (⟨a, b, c⟩ | rfl)
        · exact ⟨a, by omega, c⟩
        · exact ⟨by omega, by omega, hp⟩
      · rintro ⟨a, b, c⟩
        rcases Int.lt_or_le x k with y | y
        · exact Or.inl ⟨a, y, c⟩
        · exact Or.inr (by omega)
    · rw [j_fl_f hp, ih]
      constructor
      · rintro ⟨a, b, c⟩; exact ⟨a, by omega, c⟩
      · rintro ⟨a, b, c⟩
        refine ⟨a, ?_, c⟩
        rcases Int.lt_or_le x k with y | y
        · exact y
        · obtain rfl : x = k := by omega
          exact absurd c hp
noncomputable def j_lf (P : Int → Prop) (l : List Int) : List Int := l.filter (fun e => @decide (P e) (Classical.propDecidable _))
theorem j_lf_app {P : Int → Prop} (a b : List Int) : j_lf P (a ++ b) = j_lf P a ++ j_lf P b := by unfold j_lf; exact List.filter_append _ _
theorem j_lf_1t {P : Int → Prop} {x : Int} (h : P x) : j_lf P [x] = [x] := by unfold j_lf; simp [h]
theorem j_lf_1f {P : Int → Prop} {x : Int} (h : ¬ P x) : j_lf P [x] = [] := by unfold j_lf; simp [h]
theorem j_lf_le {P : Int → Prop} (l : List Int) : (j_lf P l).length ≤ l.length := by unfold j_lf; exact List.length_filter_le _ _
theorem j_lf_fl {P Q R : Int → Prop} (k : Nat) (h : ∀ e, 0 ≤ e → e < (k : Int) → (R e ↔ Q e ∧ P e)) : j_lf P (j_fl Q k) = j_fl R k := by
  induction k with
  | zero => rfl
  | succ k ih =>
    have ih := ih (fun e e1 e2 => h e e1 (by omega))
    have hk := h k (by omega) (by omega)
    by_cases hq : Q k
    · rw [j_fl_t hq, j_lf_app, ih]
      by_cases hp : P k
      · rw [j_lf_1t hp, j_fl_t (hk.mpr ⟨hq, hp⟩)]
      · rw [j_lf_1f hp, j_fl_f (fun z => hp (hk.mp z).2), List.append_nil]
    · rw [j_fl_f hq, ih, j_fl_f (fun z => hq (hk.mp z).1)]
/-- the entries by length, the longest first: so many sizes -/
noncomputable def a_byl (A : Int → Int) : Nat → List Int
  | 0 => []
  | s + 1 => a_byl A s ++ j_fl (fun e => A (1 + 11 * e) = 6 - (s : Int)) (A 0).toNat
noncomputable def a_fsg (A : Int → Int) (g : Int) : Nat → List Int
  | 0 => []
  | s + 1 => a_fsg A g s ++ j_fl (fun e => A (1 + 11 * e) = 6 - (s : Int) ∧ f_stands A e g ∧ f_may A g (g + (6 - (s : Int)))) (A 0).toNat
/-- the segments that start at a gap, in the order of comparison -/
noncomputable def a_seg (A : Int → Int) (g : Int) : List Int := a_fsg A g 6 ++ @ite (List Int) (f_may A g (g + 1)) (Classical.propDecidable _) [-5] []
theorem a_lf_byl (A : Int → Int) (g : Int) (s : Nat) : j_lf (fun e => f_stands A e g ∧ f_may A g (g + A (1 + 11 * e))) (a_byl A s) = a_fsg A g s := by
  induction s with
  | zero => rfl
  | succ s ih =>
    simp only [a_byl, a_fsg]
    rw [j_lf_app, ih]
    congr 1
    refine j_lf_fl _ (fun e _ _ => ?_)
    constructor
    · rintro ⟨a, b, c⟩; exact ⟨a, b, by rw [a]; exact c⟩
    · rintro ⟨a, b, c⟩; exact ⟨a, b, by rw [a] at c; exact c⟩
theorem a_six (f : Int → Int) (k : Nat) (h : ∀ e, 0 ≤ e → e < (k : Int) → 1 ≤ f e ∧ f e ≤ 6) : (j_fl (fun e => f e = 6) k).length + (j_fl (fun e => f e = 5) k).length + (j_fl (fun e => f e = 4) k).length + (j_fl (fun e => f e = 3) k).length + (j_fl (fun e => f e = 2) k).length + (j_fl (fun e => f e = 1) k).length = k := by
  induction k with
  | zero => rfl
  | succ k ih =>
    have ih := ih (fun e e1 e2 => h e e1 (by omega))
    have hk := h k (by omega) (by omega)
    have step : ∀ s : Int, (j_fl (fun e => f e = s) (k + 1)).length = (j_fl (fun e => f e = s) k).length + (if f k = s then 1 else 0) := by
      intro s
      by_cases z : f k = s
      · rw [j_fl_t (P := fun e => f e = s) z, if_pos z, List.length_append]; rfl
      · rw [j_fl_f (P := fun e => f e = s) z, if_neg z]; omega
    rw [step 6, step 5, step 4, step 3, step 2, step 1]
    rcases (show f k = 1 ∨ f k = 2 ∨ f k = 3 ∨ f k = 4 ∨ f k = 5 ∨ f k = 6 by omega) with z | z | z | z | z | z <;> simp [z] <;> omega
theorem a_byl_len {A : Int → Int} (h : q_ok A) : (a_byl A 6).length = (A 0).toNat := by
  have := a_six (fun e => A (1 + 11 * e)) (A 0).toNat (fun e e1 e2 => (h.2.1 e e1 (by omega)).1)
  have e : ∀ (s : Nat) (t : Int), 6 - (s : Int) = t → j_fl (fun e => A (1 + 11 * e) = 6 - (s : Int)) (A 0).toNat = j_fl (fun e => A (1 + 11 * e) = t) (A 0).toNat := by
    rintro s t rfl
    rfl
  simp only [a_byl, List.length_append, List.length_nil]
  rw [e 0 6 (by decide), e 1 5 (by decide), e 2 4 (by decide), e 3 3 (by decide), e 4 2 (by decide), e 5 1 (by decide)]
  omega
theorem a_byl_mono (A : Int → Int) {s : Nat} (h : s ≤ 6) : (a_byl A s).length ≤ (a_byl A 6).length := by
  have step : ∀ t, (a_byl A t).length ≤ (a_byl A (t + 1)).length := fun t => by simp only [a_byl, List.length_append]; omega
  have all : ∀ k, (a_byl A s).length ≤ (a_byl A (s + k)).length := by
    intro k
    induction k with
    | zero => exact Nat.le_refl _
    | succ k ih => exact Nat.le_trans ih (step _)
  have := all (6 - s)
  rwa [show s + (6 - s) = 6 by omega] at this
theorem a_byl_mem (A : Int → Int) (s : Nat) {e : Int} (h : e ∈ a_byl A s) : 0 ≤ e ∧ e < A 0 := by
  induction s with
  | zero => cases h
  | succ s ih =>
    simp only [a_byl] at h
    rcases List.mem_append.mp h with h | h
    · exact ih h
    · have := (j_fl_mem _).mp h
      omega
theorem a_fsg_mem (A : Int → Int) (g : Int) (s : Nat) {e : Int} (h : e ∈ a_fsg A g s) : 0 ≤ e ∧ e < A 0 ∧ f_stands A e g ∧ f_may A g (g + A (1 + 11 * e)) := by
  induction s with
  | zero => cases h
  | succ s ih =>
    simp only [a_fsg] at h
    rcases List.mem_append.mp h with h | h
    · exact ih h
    · obtain ⟨h1, h2, h3, h4, h5⟩ := (j_fl_mem _).mp h
      exact ⟨h1, by omega, h4, by rw [h3]; exact h5⟩
theorem a_fsg_len {A : Int → Int} (h : q_ok A) (g : Int) : (a_fsg A g 6).length ≤ 20 := by
  rw [← a_lf_byl]
  refine Nat.le_trans (j_lf_le _) ?_
  rw [a_byl_len h]
  have := h.1
  omega
theorem a_seg_len {A : Int → Int} (h : q_ok A) (g : Int) : (a_seg A g).length ≤ 21 := by
  have := a_fsg_len h g
  unfold a_seg
  rw [List.length_append]
  by_cases z : f_may A g (g + 1)
  · rw [if_pos z]; simp; omega
  · rw [if_neg z]; simp; omega
/-- what is known of a segment at a gap -/
theorem a_seg_mem {A : Int → Int} (h : q_ok A) {g s : Int} (hg : 0 ≤ g ∧ g < A 271) (hs : s ∈ a_seg A g) : (s = -5 ∨ 0 ≤ s ∧ s < A 0 ∧ f_stands A s g) ∧ (g < f_end A s g ∧ f_end A s g ≤ A 271) ∧ (0 ≤ f_cls A s ∧ f_cls A s ≤ 5) ∧ (0 ≤ f_cost A s ∧ f_cost A s ≤ 200) ∧ f_may A g (f_end A s g) := by
  obtain ⟨o1, o2, o3, o4, o5, o6⟩ := h
  unfold a_seg at hs
  rcases List.mem_append.mp hs with hs | hs
  · obtain ⟨e1, e2, e3, e4⟩ := a_fsg_mem A g 6 hs
    obtain ⟨y1, y2, y3, y4⟩ := o2 s e1 e2
    have ns : s ≠ -5 := by omega
    unfold f_end f_cls f_cost f_price
    rw [if_neg ns, if_neg ns, if_neg ns]
    have := e3.1
    exact ⟨Or.inr ⟨e1, e2, e3⟩, by omega, by omega, by omega, e4⟩
  · by_cases z : f_may A g (g + 1)
    · rw [if_pos z, List.mem_singleton] at hs
      subst hs
      unfold f_end f_cls f_cost
      rw [if_pos rfl, if_pos rfl, if_pos rfl]
      exact ⟨Or.inl rfl, by omega, by omega, by omega, z⟩
    · rw [if_neg z] at hs
      cases hs
/-- a row of the memory holds a list -/
def j_l (f : Int → Int) (o : Int) (l : List Int) : Prop := ∀ k : Nat, k < l.length → f (o + k) = l.getD k 0
theorem j_l_snoc {f f' : Int → Int} {o x : Int} {l : List Int} (h : j_l f o l) (hf : ∀ k, o ≤ k → k < o + l.length → f' k = f k) (hx : f' (o + l.length) = x) : j_l f' o (l ++ [x]) := by
  intro k hk
  rw [List.length_append, List.length_singleton] at hk
  by_cases z : k < l.length
  · rw [hf _ (by omega) (by omega), h k z]
    simp [List.getD_eq_getElem?_getD, List.getElem?_append_left z]
  · obtain rfl : k = l.length := by omega
    rw [hx]
    simp [List.getD_eq_getElem?_getD]
theorem j_l_fr {f f' : Int → Int} {o : Int} {l : List Int} (h : j_l f o l) (hf : ∀ k, o ≤ k → k < o + l.length → f' k = f k) : j_l f' o l := fun k hk => by rw [hf _ (by omega) (by omega)]; exact h k hk
theorem j_getD_mem {l : List Int} {k : Nat} (h : k < l.length) : l.getD k 0 ∈ l := by
  rw [List.getD_eq_getElem?_getD, List.getElem?_eq_getElem h]
  exact List.getElem_mem h
-- ===== the reference's findSegments =====
theorem j_fl_mono (P : Int → Prop) {a b : Nat} (h : a ≤ b) : (j_fl P a).length ≤ (j_fl P b).length := by
  induction b with
  | zero => obtain rfl : a = 0 := by omega
            exact Nat.le_refl _
  | succ b ih =>
    rcases Nat.lt_or_ge a (b + 1) with z | z
    · refine Nat.le_trans (ih (by omega)) ?_
      simp only [j_fl, List.length_append]
      omega
    · obtain rfl : a = b + 1 := by omega
      exact Nat.le_refl _
theorem a_fsg_mono (A : Int → Int) (g : Int) {s : Nat} (h : s ≤ 6) : (a_fsg A g s).length ≤ (a_fsg A g 6).length := by
  have step : ∀ t, (a_fsg A g t).length ≤ (a_fsg A g (t + 1)).length := fun t => by simp only [a_fsg, List.length_append]; omega
  have all : ∀ k, (a_fsg A g s).length ≤ (a_fsg A g (s + k)).length := by
    intro k
    induction k with
    | zero => exact Nat.le_refl _
    | succ k ih => exact Nat.le_trans ih (step _)
  have := all (6 - s)
  rwa [show s + (6 - s) = 6 by omega] at this
/-- so many sizes, and of the next one the entries below e -/
noncomputable def a_pre (A : Int → Int) (g sz e : Int) : List Int := a_fsg A g (6 - sz).toNat ++ j_fl (fun e => A (1 + 11 * e) = sz ∧ f_stands A e g ∧ f_may A g (g + sz)) e.toNat
theorem a_pre_end (A : Int → Int) (g : Int) {sz : Int} (h : 1 ≤ sz ∧ sz ≤ 6) : a_pre A g sz (A 0) = a_fsg A g (6 - (sz + (-1))).toNat := by
  rw [show (6 - (sz + (-1))).toNat = (6 - sz).toNat + 1 by omega]
  unfold a_pre
  simp only [a_fsg]
  rw [show (6 : Int) - ((6 - sz).toNat : Int) = sz by omega]
theorem a_pre_f {A : Int → Int} {g sz e : Int} (he : 0 ≤ e) (h : ¬ (A (1 + 11 * e) = sz ∧ f_stands A e g ∧ f_may A g (g + sz))) : a_pre A g sz (e + 1) = a_pre A g sz e := by
  unfold a_pre
  rw [show (e + 1).toNat = e.toNat + 1 by omega, j_fl_f (by rw [show ((e.toNat : Nat) : Int) = e by omega]; exact h)]
theorem a_pre_t {A : Int → Int} {g sz e : Int} (he : 0 ≤ e) (h : A (1 + 11 * e) = sz ∧ f_stands A e g ∧ f_may A g (g + sz)) : a_pre A g sz (e + 1) = a_pre A g sz e ++ [e] := by
  unfold a_pre
  rw [show (e + 1).toNat = e.toNat + 1 by omega, j_fl_t (by rw [show ((e.toNat : Nat) : Int) = e by omega]; exact h), List.append_assoc, show ((e.toNat : Nat) : Int) = e by omega]
theorem a_pre_len {A : Int → Int} (ho : q_ok A) (g : Int) {sz e : Int} (h : 1 ≤ sz ∧ sz ≤ 6) (he : e ≤ A 0) : (a_pre A g sz e).length ≤ 20 := by
  have h1 : (a_pre A g sz e).length ≤ (a_pre A g sz (A 0)).length := by
    unfold a_pre
    rw [List.length_append, List.length_append]
    have := j_fl_mono (fun e => A (1 + 11 * e) = sz ∧ f_stands A e g ∧ f_may A g (g + sz)) (a := e.toNat) (b := (A 0).toNat) (by omega)
    omega
  rw [a_pre_end A g h] at h1
  exact Nat.le_trans h1 (Nat.le_trans (a_fsg_mono A g (by omega)) (a_fsg_len ho g))
theorem f_stands_eq {A B : Int → Int} (ho : q_ok A) (h : ∀ k, 0 ≤ k → k < 305 → B k = A k) {e g : Int} (he : 0 ≤ e ∧ e < A 0) (hg : 0 ≤ g ∧ g ≤ 16) : f_stands B e g ↔ f_stands A e g := by
  obtain ⟨o1, o2, o3, o4, o5, o6⟩ := ho
  have ol := (o2 e he.1 he.2).1
  unfold f_stands
  rw [h (1 + 11 * e) (by omega) (by omega), h 271 (by omega) (by omega)]
  constructor
  · rintro ⟨a, b⟩
    exact ⟨a, fun i i1 i2 => by rw [← h (1 + 11 * e + 1 + i) (by omega) (by omega), ← h (272 + g + i) (by omega) (by omega)]; exact b i i1 i2⟩
  · rintro ⟨a, b⟩
    exact ⟨a, fun i i1 i2 => by rw [h (1 + 11 * e + 1 + i) (by omega) (by omega), h (272 + g + i) (by omega) (by omega)]; exact b i i1 i2⟩
theorem f_may_eq {A B : Int → Int} (h : ∀ k, 0 ≤ k → k < 305 → B k = A k) {a b : Int} (ha : 0 ≤ a) (hb : 0 ≤ b ∧ b ≤ 16) : f_may B a b ↔ f_may A a b := by
  unfold f_may
  rw [h 271 (by omega) (by omega), h (288 + b) (by omega) (by omega)]
  constructor
  · rintro ⟨x, y⟩; exact ⟨x, fun g g1 g2 => by rw [← h (288 + g) (by omega) (by omega)]; exact y g g1 g2⟩
  · rintro ⟨x, y⟩; exact ⟨x, fun g g1 g2 => by rw [h (288 + g) (by omega) (by omega)]; exact y g g1 g2⟩
set_option maxHeartbeats 4000000 in
theorem sp_F_findSegments (d : Nat) (g : Int) (M : jxM) {A : Int → Int} (hA : ∀ k, 0 ≤ k → k < 305 → M 2 k = A k) (ho : q_ok A) (hg : 0 ≤ g ∧ g < A 271) {K : jxK} (h : ∀ M', (∀ c x, c ≠ 5 → ¬ (c = 1 ∧ x = 6) → M' c x = M c x) → M' 1 6 = ((a_seg A g).length : Int) → j_l (M' 5) 0 (a_seg A g) → K none M') : jx_call jx_G2 jx_T (d + 3) 106 [.inr 1, .inl g] M K := by
  have ho2 := ho
  obtain ⟨o1, o2, o3, o4, o5, o6⟩ := ho
  intro X hX
  refine bk_F_findSegments_0 (d := d) hX g M ?_
  have add : ∀ (N : jxM) (l : List Int) (x : Int), (∀ c x, c ≠ 5 → ¬ (c = 1 ∧ x = 6) → N c x = M c x) → N 1 6 = (l.length : Int) → j_l (N 5) 0 l → (∀ c y, c ≠ 5 → ¬ (c = 1 ∧ y = 6) → jx_up (jx_up N 5 (N 1 6) x) 1 6 (N 1 6 + 1) c y = M c y) ∧ jx_up (jx_up N 5 (N 1 6) x) 1 6 (N 1 6 + 1) 1 6 = ((l ++ [x]).length : Int) ∧ j_l (jx_up (jx_up N 5 (N 1 6) x) 1 6 (N 1 6 + 1) 5) 0 (l ++ [x]) := by
    intro N l x n1 n2 n3
    refine ⟨fun c y c1 c2 => ?_, ?_, j_l_snoc n3 (fun k k1 k2 => ?_) ?_⟩
    · by_cases z : c = 1
      · subst z; rw [jx_upx (fun w => c2 ⟨rfl, w⟩), jx_upc c1]; exact n1 1 y c1 c2
      · rw [jx_upc z, jx_upc c1]; exact n1 c y c1 c2
    · rw [jx_ups, n2, List.length_append, List.length_singleton]; omega
    · rw [jx_upc (by decide), jx_upx (by omega)]
    · rw [jx_upc (by decide), n2, Int.zero_add, jx_ups]
  refine jx_loopM (σ := jxM) 0 (fun sz N => 0 ≤ sz ∧ sz ≤ 6 ∧ (∀ c x, c ≠ 5 → ¬ (c = 1 ∧ x = 6) → N c x = M c x) ∧ N 1 6 = ((a_fsg A g (6 - sz).toNat).length : Int) ∧ j_l (N 5) 0 (a_fsg A g (6 - sz).toNat)) (fun sz N => X 5 [.inr 1, .inl g, .inl sz, .inr 0] [] N) ?_ 6 _ ⟨by omega, by omega, fun c x c1 c2 => ?_, ?_, fun k hk => absurd hk (Nat.not_lt_zero _)⟩
  · intro sz N ⟨s1, s2, s3, s4, s5⟩ ih
    have nA : ∀ k, 0 ≤ k → k < 305 → N 2 k = A k := fun k k1 k2 => (s3 2 k (by decide) (by omega)).trans (hA k k1 k2)
    have mq := f_may_eq nA (a := g) (b := g + 1) hg.1 (by omega)
    refine bk_F_findSegments_5 (d := d) hX g sz N ⟨fun q => ⟨by omega, fun q2 => ?_, fun q2 => ⟨?_, ?_⟩⟩, fun q => ?_⟩
    · obtain rfl : sz = 0 := by omega
      have e : a_seg A g = a_fsg A g 6 := by unfold a_seg; rw [if_neg (fun z => q2 (mq.mpr z)), List.append_nil]
      refine h N s3 ?_ ?_
      · rw [e]; exact s4
      · rw [e]; exact s5
    · obtain rfl : sz = 0 := by omega
      have := a_fsg_len ho2 g
      have s4 : N 1 6 = ((a_fsg A g 6).length : Int) := s4
      omega
    · obtain rfl : sz = 0 := by omega
      have e : a_seg A g = a_fsg A g 6 ++ [-5] := by unfold a_seg; rw [if_pos (mq.mp q2)]
      obtain ⟨z1, z2, z3⟩ := add N _ (-5) s3 s4 s5
      refine h _ z1 ?_ ?_
      · rw [e]; exact z2
      · rw [e]; exact z3
    · refine jx_loop (σ := jxM) (A 0) (fun e N => 0 ≤ e ∧ e ≤ A 0 ∧ (∀ c x, c ≠ 5 → ¬ (c = 1 ∧ x = 6) → N c x = M c x) ∧ N 1 6 = ((a_pre A g sz e).length : Int) ∧ j_l (N 5) 0 (a_pre A g sz e)) (fun e N => X 9 [.inr 1, .inl g, .inl sz, .inl e] [] N) ?_ 0 N ⟨by omega, by omega, s3, ?_, ?_⟩
      · intro e N ⟨e1, e2, e3, e4, e5⟩ jh
        have nA : ∀ k, 0 ≤ k → k < 305 → N 2 k = A k := fun k k1 k2 => (e3 2 k (by decide) (by omega)).trans (hA k k1 k2)
        have n0 := nA 0 (by omega) (by omega)
        have n271 := nA 271 (by omega) (by omega)
        have hl := a_pre_len ho2 g (e := e) ⟨by omega, s2⟩ e2
        refine bk_F_findSegments_9 (d := d) hX g sz e N ⟨fun q2 => ⟨by omega, ?_⟩, fun q2 => ?_⟩
        · obtain rfl : e = A 0 := by omega
          rw [a_pre_end A g ⟨by omega, s2⟩] at e4 e5
          exact ih N q ⟨by omega, by omega, e3, e4, e5⟩
        · have ne := nA (1 + 11 * e) (by omega) (by omega)
          have ol := (o2 e e1 (by omega)).1
          have sq := f_stands_eq ho2 nA (e := e) (g := g) ⟨e1, by omega⟩ (by omega)
          have no : ¬ (A (1 + 11 * e) = sz ∧ f_stands A e g ∧ f_may A g (g + sz)) → X 9 [.inr 1, .inl g, .inl sz, .inl (e + 1)] [] N := fun z => by
            refine jh N (by omega) ⟨by omega, by omega, e3, ?_, ?_⟩
            · rw [a_pre_f e1 z]; exact e4
            · rw [a_pre_f e1 z]; exact e5
          refine ⟨by omega, fun q3 => ⟨by omega, no (fun z => q3 (by omega))⟩, fun q3 => ⟨by omega, fun q4 => ⟨by omega, no (fun z => q4 (sq.mpr z.2.1))⟩, fun q4 => ?_⟩⟩
          have hst := sq.mp q4
          have hle := hst.1
          have mq := f_may_eq nA (a := g) (b := g + sz) hg.1 (by omega)
          refine ⟨by omega, fun q5 => ⟨by omega, no (fun z => q5 (mq.mpr z.2.2))⟩, fun q5 => ⟨by omega, ?_⟩⟩
          have yes : A (1 + 11 * e) = sz ∧ f_stands A e g ∧ f_may A g (g + sz) := ⟨by omega, hst, mq.mp q5⟩
          obtain ⟨z1, z2, z3⟩ := add N _ e e3 e4 e5
          rw [← a_pre_t e1 yes] at z2 z3
          exact jh _ (by omega) ⟨by omega, by omega, z1, z2, z3⟩
      · unfold a_pre; rw [show (0 : Int).toNat = 0 from rfl]; simp only [j_fl, List.append_nil]; exact s4
      · unfold a_pre; rw [show (0 : Int).toNat = 0 from rfl]; simp only [j_fl, List.append_nil]; exact s5
  · by_cases z : c = 1
    · subst z; exact jx_upx (fun w => c2 ⟨rfl, w⟩)
    · exact jx_upc z
  · exact jx_ups
