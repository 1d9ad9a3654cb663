/-! WAYS, without a memory: a way is (cost, segment, place of the rest) -/
abbrev wX : Type := Int × Int × Int
def w_ins (x : wX) : List wX → List wX
  | [] => [x]
  | a :: l => if x.1 < a.1 then x :: a :: l else a :: w_ins x l
def w_srt : List wX → List wX → List wX
  | l, [] => l
  | l, x :: r => w_srt (w_ins x l) r
def w_sd (l : List wX) : Prop := l.Pairwise (fun a b => a.1 ≤ b.1)
theorem w_ins_mem {x p : wX} {l : List wX} : p ∈ w_ins x l ↔ p = x ∨ p ∈ l := by
  induction l with
  | nil => simp [w_ins]
  | cons a l ih =>
    simp only [w_ins]
    split
    · simp
    · simp only [List.mem_cons, ih]
      constructor
      · rintro (h | h | h)
        · exact Or.inr (Or.inl h)
        · exact Or.inl h
        · exact Or.inr (Or.inr h)
      · rintro (h | h | h)
        · exact Or.inr (Or.inl h)
        · exact Or.inl h
        · exact Or.inr (Or.inr h)
theorem w_ins_len (x : wX) (l : List wX) : (w_ins x l).length = l.length + 1 := by
  induction l with
  | nil => rfl
  | cons a l ih =>
    simp only [w_ins]
    split
    · rfl
    · simp [ih]
theorem w_ins_sd {x : wX} {l : List wX} (h : w_sd l) : w_sd (w_ins x l) := by
  induction l with
  | nil => simp [w_ins, w_sd]
  | cons a l ih =>
    obtain ⟨h1, h2⟩ := List.pairwise_cons.mp h
    simp only [w_ins]
    split
    · rename_i hx
      refine List.pairwise_cons.mpr ⟨fun b hb => ?_, h⟩
      rcases List.mem_cons.mp hb with rfl | hb
      · omega
      · have := h1 b hb
        omega
    · rename_i hx
      refine List.pairwise_cons.mpr ⟨fun b hb => ?_, ih h2⟩
      rcases w_ins_mem.mp hb with rfl | hb
      · omega
      · exact h1 b hb
theorem w_ins_at {x : wX} {l : List wX} {k : Nat} (h1 : ∀ p ∈ l.take k, p.1 ≤ x.1) (h2 : ∀ p, (l.drop k).head? = some p → x.1 < p.1) : w_ins x l = l.take k ++ x :: l.drop k := by
  induction l generalizing k with
  | nil => simp [w_ins]
  | cons a l ih =>
    cases k with
    | zero =>
      have := h2 a rfl
      simp only [w_ins]
      rw [if_pos this]
      rfl
    | succ k =>
      have ha := h1 a (by simp)
      simp only [w_ins]
      rw [if_neg (by omega), ih (k := k) (fun p hp => h1 p (by simp; exact Or.inr hp)) (fun p hp => h2 p (by simpa using hp))]
      rfl
theorem w_ins_lt {x : wX} {l : List wX} (h : ∀ p ∈ l, x.1 < p.1) : w_ins x l = x :: l := by
  cases l with
  | nil => rfl
  | cons a l => simp only [w_ins]; rw [if_pos (h a List.mem_cons_self)]
theorem w_ins_cons {x q : wX} {l : List wX} (h : x.1 ≤ q.1) : w_ins q (x :: l) = x :: w_ins q l := by simp only [w_ins]; rw [if_neg (by omega)]
theorem w_srt_app (l a b : List wX) : w_srt l (a ++ b) = w_srt (w_srt l a) b := by
  induction a generalizing l with
  | nil => rfl
  | cons x a ih => exact ih _
theorem w_srt_mem {l r : List wX} {p : wX} : p ∈ w_srt l r ↔ p ∈ l ∨ p ∈ r := by
  induction r generalizing l with
  | nil => simp [w_srt]
  | cons x r ih =>
    simp only [w_srt, ih, w_ins_mem, List.mem_cons]
    constructor
    · rintro ((h | h) | h)
      · exact Or.inr (Or.inl h)
      · exact Or.inl h
      · exact Or.inr (Or.inr h)
    · rintro (h | h | h)
      · exact Or.inl (Or.inr h)
      · exact Or.inl (Or.inl h)
      · exact Or.inr h
theorem w_srt_sd {l r : List wX} (h : w_sd l) : w_sd (w_srt l r) := by
  induction r generalizing l with
  | nil => exact h
  | cons x r ih => exact ih (w_ins_sd h)
theorem w_srt_cons {x : wX} {l q : List wX} (h : ∀ p ∈ q, x.1 ≤ p.1) : w_srt (x :: l) q = x :: w_srt l q := by
  induction q generalizing l with
  | nil => rfl
  | cons a q ih =>
    simp only [w_srt]
    rw [w_ins_cons (h a List.mem_cons_self)]
    exact ih (fun p hp => h p (List.mem_cons_of_mem _ hp))
theorem w_srt_pick {x : wX} {a b : List wX} (ha : ∀ p ∈ a, x.1 < p.1) (hb : ∀ p ∈ b, x.1 ≤ p.1) : w_srt [] (a ++ x :: b) = x :: w_srt [] (a ++ b) := by
  rw [w_srt_app, w_srt_app]
  simp only [w_srt]
  rw [w_ins_lt (fun p hp => by
    rcases w_srt_mem.mp hp with h | h
    · cases h
    · exact ha p h), w_srt_cons hb]
theorem w_ins_take (x : wX) (l : List wX) (m : Nat) : (w_ins x (l.take m)).take m = (w_ins x l).take m := by
  induction l generalizing m with
  | nil => simp
  | cons a l ih =>
    cases m with
    | zero => simp
    | succ m =>
      simp only [List.take_succ_cons, w_ins]
      split
      · cases m with
        | zero => simp
        | succ m => simp [List.take_take]
      · rw [List.take_succ_cons, List.take_succ_cons, ih]
/-- inserting, and never more than twenty -/
def w_st : List wX → List wX → List wX
  | l, [] => l
  | l, x :: r => w_st ((w_ins x l).take 20) r
theorem w_st_eq (l r : List wX) : w_st (l.take 20) r = (w_srt l r).take 20 := by
  induction r generalizing l with
  | nil => rfl
  | cons x r ih =>
    simp only [w_st, w_srt]
    rw [w_ins_take]
    exact ih _
theorem w_st_app (l a b : List wX) : w_st l (a ++ b) = w_st (w_st l a) b := by
  induction a generalizing l with
  | nil => rfl
  | cons x a ih => exact ih _
/-- a list of ways behind a segment, with its cost: the candidates -/
def w_cnd (b s : Int) : Int → List wX → List wX
  | _, [] => []
  | k, a :: l => (b + a.1, s, k) :: w_cnd b s (k + 1) l
theorem w_cnd_len (b s k : Int) (l : List wX) : (w_cnd b s k l).length = l.length := by
  induction l generalizing k with
  | nil => rfl
  | cons a l ih => simp [w_cnd, ih]
theorem w_cnd_mem {b s k : Int} {l : List wX} {p : wX} (h : p ∈ w_cnd b s k l) : ∃ j : Nat, ∃ a, l[j]? = some a ∧ p = (b + a.1, s, k + j) := by
  induction l generalizing k with
  | nil => cases h
  | cons a l ih =>
    simp only [w_cnd] at h
    rcases List.mem_cons.mp h with rfl | h
    · exact ⟨0, a, rfl, by simp⟩
    · obtain ⟨j, a', h1, h2⟩ := ih h
      exact ⟨j + 1, a', by simpa using h1, by rw [h2]; congr 2; omega⟩
theorem w_cnd_sd {b s k : Int} {l : List wX} (h : w_sd l) : w_sd (w_cnd b s k l) := by
  induction l generalizing k with
  | nil => exact List.Pairwise.nil
  | cons a l ih =>
    obtain ⟨h1, h2⟩ := List.pairwise_cons.mp h
    simp only [w_cnd]
    refine List.pairwise_cons.mpr ⟨fun p hp => ?_, ih h2⟩
    obtain ⟨j, a', g1, g2⟩ := w_cnd_mem hp
    have := h1 a' (List.mem_of_getElem? g1)
    rw [g2]
    show b + a.1 ≤ b + a'.1
    omega
/-- lists one behind another -/
def w_cc (F : Nat → List wX) : Nat → List wX
  | 0 => []
  | k + 1 => w_cc F k ++ F k
theorem w_cc_mem {F : Nat → List wX} {m : Nat} {p : wX} (h : p ∈ w_cc F m) : ∃ j, j < m ∧ p ∈ F j := by
  induction m with
  | zero => cases h
  | succ m ih =>
    rcases List.mem_append.mp h with h | h
    · obtain ⟨j, h1, h2⟩ := ih h
      exact ⟨j, by omega, h2⟩
    · exact ⟨m, by omega, h⟩
theorem w_cc_eq {F F' : Nat → List wX} {m : Nat} (h : ∀ j, j < m → F' j = F j) : w_cc F' m = w_cc F m := by
  induction m with
  | zero => rfl
  | succ m ih => simp only [w_cc]; rw [ih (fun j hj => h j (by omega)), h m (by omega)]
theorem w_cc_split (F : Nat → List wX) {i m : Nat} (hi : i < m) : ∃ q, (∀ p ∈ q, ∃ j, i < j ∧ j < m ∧ p ∈ F j) ∧ ∀ F' : Nat → List wX, (∀ j, j < m → j ≠ i → F' j = F j) → w_cc F' m = w_cc F i ++ (F' i ++ q) := by
  induction m with
  | zero => omega
  | succ m ih =>
    by_cases z : i = m
    · subst z
      refine ⟨[], fun p hp => (by cases hp), fun F' h => ?_⟩
      simp only [w_cc]
      rw [w_cc_eq (fun j hj => h j (by omega) (by omega)), List.append_nil]
    · obtain ⟨q, h1, h2⟩ := ih (by omega)
      refine ⟨q ++ F m, fun p hp => ?_, fun F' h => ?_⟩
      · rcases List.mem_append.mp hp with hp | hp
        · obtain ⟨j, j1, j2, j3⟩ := h1 p hp
          exact ⟨j, j1, by omega, j3⟩
        · exact ⟨m, by omega, by omega, hp⟩
      · simp only [w_cc]
        rw [h2 F' (fun j hj hn => h j (by omega) hn), h m (by omega) (by omega)]
        simp [List.append_assoc]
/-- the cheapest head, the first of its cost, comes first -/
theorem w_pick {F F' : Nat → List wX} {m i : Nat} {x : wX} {t : List wX} (hi : i < m) (hF : F i = x :: t) (h1 : ∀ j, j < i → ∀ p ∈ F j, x.1 < p.1) (h2 : ∀ j, i < j → j < m → ∀ p ∈ F j, x.1 ≤ p.1) (h3 : ∀ p ∈ t, x.1 ≤ p.1) (hF' : ∀ j, j < m → j ≠ i → F' j = F j) (ht : F' i = t) : w_srt [] (w_cc F m) = x :: w_srt [] (w_cc F' m) := by
  obtain ⟨q, q1, q2⟩ := w_cc_split F hi
  rw [q2 F (fun _ _ _ => rfl), q2 F' hF', hF, ht]
  refine w_srt_pick (fun p hp => ?_) (fun p hp => ?_)
  · obtain ⟨j, j1, j2⟩ := w_cc_mem hp
    exact h1 j j1 p j2
  · rcases List.mem_append.mp hp with hp | hp
    · exact h3 p hp
    · obtain ⟨j, j1, j2, j3⟩ := q1 p hp
      exact h2 j j1 j2 p j3
theorem w_cc_nil {F : Nat → List wX} {m : Nat} (h : ∀ j, j < m → F j = []) : w_cc F m = [] := by
  induction m with
  | zero => rfl
  | succ m ih => simp only [w_cc]; rw [ih (fun j hj => h j (by omega)), h m (by omega)]; rfl
theorem w_cc_flat (G : Int → List wX) (l : List Int) : ∀ k, k ≤ l.length → w_cc (fun i => G (l.getD i 0)) k = (l.take k).flatMap G := by
  intro k
  induction k with
  | zero => intro _; rfl
  | succ k ih =>
    intro hk
    simp only [w_cc]
    rw [ih (by omega), take_s (by omega), List.flatMap_append]
    simp
/-! tables that are laid from the last gap backwards -/
def j_tb {α : Type} (n : Int) (base : Int → α) (step : (Int → Int → α) → Int → Int → α) : Nat → Int → Int → α
  | 0, _, c => base c
  | k + 1, g, c => if g = n - (k + 1) then step (j_tb n base step k) g c else j_tb n base step k g c
theorem j_tb_keep {α : Type} (n : Int) (base : Int → α) (step : (Int → Int → α) → Int → Int → α) {k : Nat} {g c : Int} (hg : n - k ≤ g) : ∀ m, k ≤ m → j_tb n base step m g c = j_tb n base step k g c := by
  intro m
  induction m with
  | zero => intro hm; obtain rfl : k = 0 := by omega
            rfl
  | succ m ih =>
    intro hm
    by_cases z : k = m + 1
    · subst z; rfl
    · simp only [j_tb]
      rw [if_neg (by omega)]
      exact ih (by omega)
theorem j_tb_end {α : Type} (n : Int) (base : Int → α) (step : (Int → Int → α) → Int → Int → α) (c : Int) : j_tb n base step n.toNat n c = base c := by
  have := j_tb_keep n base step (k := 0) (g := n) (c := c) (by omega) n.toNat (by omega)
  rw [this]
  rfl
theorem j_tb_step {α : Type} (n : Int) (base : Int → α) (step : (Int → Int → α) → Int → Int → α) (hs : ∀ f f' g c, 0 ≤ g → g < n → (∀ g' c', g < g' → g' ≤ n → f g' c' = f' g' c') → step f g c = step f' g c) {g c : Int} (h0 : 0 ≤ g) (h1 : g < n) : j_tb n base step n.toNat g c = step (j_tb n base step n.toNat) g c := by
  have e := j_tb_keep n base step (k := (n - g).toNat) (g := g) (c := c) (by omega) n.toNat (by omega)
  rw [e]
  have hk : (n - g).toNat = ((n - g).toNat - 1) + 1 := by omega
  rw [hk]
  simp only [j_tb]
  rw [if_pos (by omega)]
  refine hs _ _ g c h0 h1 (fun g' c' a b => ?_)
  exact (j_tb_keep n base step (k := (n - g).toNat - 1) (g := g') (c := c') (by omega) n.toNat (by omega)).symm
/-- a connection's cost -/
def a_con (A : Int → Int) (l r : Int) : Int := A (221 + 7 * l + r)
/-- a segment's cost behind class c -/
def a_edge (A : Int → Int) (c s : Int) : Int := a_con A c (f_cls A s) + f_cost A s
noncomputable def a_cands (A : Int → Int) (W : Int → Int → List wX) (g c : Int) : List wX := (a_seg A g).flatMap (fun s => w_cnd (a_edge A c s) s 0 (W (f_end A s g) (f_cls A s)))
noncomputable def a_wstep (A : Int → Int) (W : Int → Int → List wX) (g c : Int) : List wX := (w_srt [] (a_cands A W g c)).take 20
/-- the first twenty ways on from a gap, behind a class -/
noncomputable def a_W (A : Int → Int) : Int → Int → List wX := j_tb (A 271) (fun c => [(a_con A c 6, -9, 0)]) (a_wstep A) (A 271).toNat
theorem a_cands_eq {A : Int → Int} (ho : q_ok A) {W W' : Int → Int → List wX} {g c : Int} (h0 : 0 ≤ g) (h1 : g < A 271) (h : ∀ g' c', g < g' → g' ≤ A 271 → W g' c' = W' g' c') : a_cands A W g c = a_cands A W' g c := by
  unfold a_cands
  have : ∀ s ∈ a_seg A g, w_cnd (a_edge A c s) s 0 (W (f_end A s g) (f_cls A s)) = w_cnd (a_edge A c s) s 0 (W' (f_end A s g) (f_cls A s)) := fun s hs => by
    have := (a_seg_mem ho ⟨h0, h1⟩ hs).2.1
    rw [h _ _ this.1 this.2]
  generalize a_seg A g = sl at this ⊢
  induction sl with
  | nil => rfl
  | cons s l ih =>
    simp only [List.flatMap_cons]
    rw [this s List.mem_cons_self, ih (fun s hs => this s (List.mem_cons_of_mem _ hs))]
theorem a_W_end (A : Int → Int) (c : Int) : a_W A (A 271) c = [(a_con A c 6, -9, 0)] := j_tb_end _ _ _ c
theorem a_W_step {A : Int → Int} (ho : q_ok A) {g c : Int} (h0 : 0 ≤ g) (h1 : g < A 271) : a_W A g c = a_wstep A (a_W A) g c :=
  j_tb_step _ _ _ (fun f f' g c a b h => by unfold a_wstep; rw [a_cands_eq ho a b h]) h0 h1
theorem a_W_sd {A : Int → Int} (ho : q_ok A) {g c : Int} (h0 : 0 ≤ g) (h1 : g ≤ A 271) : w_sd (a_W A g c) := by
  rcases Int.lt_or_le g (A 271) with z | z
  · rw [a_W_step ho h0 z]
    exact List.Pairwise.sublist (List.take_sublist _ _) (w_srt_sd List.Pairwise.nil)
  · obtain rfl : g = A 271 := by omega
    rw [a_W_end]
    exact List.pairwise_singleton _ _
theorem a_W_len {A : Int → Int} (ho : q_ok A) {g c : Int} (h0 : 0 ≤ g) (h1 : g ≤ A 271) : (a_W A g c).length ≤ 20 := by
  rcases Int.lt_or_le g (A 271) with z | z
  · rw [a_W_step ho h0 z]
    unfold a_wstep
    rw [List.length_take]
    omega
  · obtain rfl : g = A 271 := by omega
    rw [a_W_end]
    exact Nat.le_of_ble_eq_true rfl
/-- a way's segment is one of the gap's, and its rest stands in the list behind -/
theorem a_W_mem {A : Int → Int} (ho : q_ok A) {g c : Int} (h0 : 0 ≤ g) (h1 : g < A 271) {p : wX} (hp : p ∈ a_W A g c) : p.2.1 ∈ a_seg A g ∧ ∃ j : Nat, ∃ a, (a_W A (f_end A p.2.1 g) (f_cls A p.2.1))[j]? = some a ∧ p.2.2 = j ∧ p.1 = a_edge A c p.2.1 + a.1 := by
  rw [a_W_step ho h0 h1] at hp
  have hp := List.mem_of_mem_take hp
  rcases w_srt_mem.mp hp with hp | hp
  · cases hp
  · unfold a_cands at hp
    obtain ⟨s, hs, hp⟩ := List.mem_flatMap.mp hp
    obtain ⟨j, a, e1, e2⟩ := w_cnd_mem hp
    subst e2
    exact ⟨hs, j, a, e1, by simp, rfl⟩
/-- what ways cost -/
theorem a_W_bnd {A : Int → Int} (ho : q_ok A) : ∀ (k : Nat) {g c : Int}, 0 ≤ g → g ≤ A 271 → A 271 - g ≤ k → (0 ≤ c ∧ c ≤ 6) → ∀ p ∈ a_W A g c, 0 ≤ p.1 ∧ p.1 ≤ 99 + 299 * (A 271 - g) := by
  have con : ∀ l r, 0 ≤ l → l ≤ 6 → 0 ≤ r → r ≤ 6 → 0 ≤ a_con A l r ∧ a_con A l r ≤ 99 := fun l r l1 l2 r1 r2 => by
    unfold a_con
    have := ho.2.2.1 (7 * l + r) (by omega) (by omega)
    rw [← Int.add_assoc] at this
    exact this
  intro k
  induction k with
  | zero =>
    intro g c g0 g1 hk hc p hp
    obtain rfl : g = A 271 := by omega
    rw [a_W_end, List.mem_singleton] at hp
    subst hp
    have := con c 6 hc.1 hc.2 (by omega) (by omega)
    show 0 ≤ a_con A c 6 ∧ a_con A c 6 ≤ _
    omega
  | succ k ih =>
    intro g c g0 g1 hk hc p hp
    rcases Int.lt_or_le g (A 271) with z | z
    · obtain ⟨hs, j, a, e1, e2, e3⟩ := a_W_mem ho g0 z hp
      obtain ⟨-, m2, m3, m4, -⟩ := a_seg_mem ho ⟨g0, z⟩ hs
      have := ih (g := f_end A p.2.1 g) (c := f_cls A p.2.1) (by omega) m2.2 (by omega) (by omega) a (List.mem_of_getElem? e1)
      have c2 := con c (f_cls A p.2.1) hc.1 hc.2 m3.1 (by omega)
      unfold a_edge at e3
      omega
    · obtain rfl : g = A 271 := by omega
      rw [a_W_end, List.mem_singleton] at hp
      subst hp
      have := con c 6 hc.1 hc.2 (by omega) (by omega)
      show 0 ≤ a_con A c 6 ∧ a_con A c 6 ≤ _
      omega
theorem sp_F_segmentCost (d : Nat) (s : Int) (M : jxM) (h1 : s = -5 ∨ (0 ≤ s ∧ s < 20) ∧ (0 ≤ M 2 (1 + 11 * s + 9) ∧ M 2 (1 + 11 * s + 9) ≤ 99) ∧ (0 ≤ M 2 (1 + 11 * s + 10) ∧ M 2 (1 + 11 * s + 10) ≤ 9)) {K : jxK} (h : K (some (.inl (f_cost (M 2) s))) M) : jx_call jx_G2 jx_T (d + 3) 109 [.inr 1, .inl s] M K := by
  intro X hX
  unfold f_cost at h
  refine bk_F_segmentCost_0 (d := d) hX s M ⟨fun q => ⟨by omega, ?_⟩, fun q => ?_⟩
  · rw [if_neg q] at h; exact h
  · rw [if_pos q] at h; exact h
