abbrev w_at (l : List wX) (k : Nat) : wX := l.getD k (0, 0, 0)
theorem w_at_mem {l : List wX} {k : Nat} (h : k < l.length) : w_at l k ∈ l := by
  unfold w_at
  rw [List.getD_eq_getElem?_getD, List.getElem?_eq_getElem h]
  exact List.getElem_mem h
theorem w_at_some {l : List wX} {k : Nat} (h : k < l.length) : l[k]? = some (w_at l k) := by
  unfold w_at
  rw [List.getD_eq_getElem?_getD, List.getElem?_eq_getElem h]
  rfl
theorem w_at_sd {l : List wX} (h : w_sd l) {i j : Nat} (hij : i ≤ j) (hj : j < l.length) : (w_at l i).1 ≤ (w_at l j).1 := by
  by_cases z : i = j
  · subst z; exact Int.le_refl _
  · have h1 := List.pairwise_iff_getElem.mp h i j (by omega) hj (by omega)
    unfold w_at
    rw [List.getD_eq_getElem?_getD, List.getD_eq_getElem?_getD, List.getElem?_eq_getElem (by omega), List.getElem?_eq_getElem hj]
    exact h1
theorem w_at_mid {l : List wX} {x : wX} {k j : Nat} (hk : k ≤ l.length) : w_at (l.take k ++ x :: l.drop k) j = if j < k then w_at l j else if j = k then x else w_at l (j - 1) := by
  unfold w_at
  rw [List.getD_eq_getElem?_getD]
  have hl : (l.take k).length = k := by rw [List.length_take]; omega
  by_cases h1 : j < k
  · rw [if_pos h1, List.getElem?_append_left (by omega), List.getElem?_take_of_lt h1, List.getD_eq_getElem?_getD]
  · rw [if_neg h1, List.getElem?_append_right (by omega), hl]
    by_cases h2 : j = k
    · rw [if_pos h2, h2, Nat.sub_self]; rfl
    · rw [if_neg h2, show j - k = (j - k - 1) + 1 by omega, List.getElem?_cons_succ, List.getElem?_drop, List.getD_eq_getElem?_getD, show k + (j - k - 1) = j - 1 by omega]
theorem w_at_take {l : List wX} {m j : Nat} (h : j < m) : w_at (l.take m) j = w_at l j := by
  unfold w_at
  rw [List.getD_eq_getElem?_getD, List.getD_eq_getElem?_getD, List.getElem?_take_of_lt h]
/-- a place of the reference's tables holds a list of ways -/
def q_rw (M : jxM) (p : Int) (l : List wX) : Prop := M 6 p = (l.length : Int) ∧ ∀ k : Nat, k < l.length → M 7 (20 * p + k) = (w_at l k).1 ∧ M 8 (20 * p + k) = (w_at l k).2.1 ∧ M 9 (20 * p + k) = (w_at l k).2.2
theorem q_rw_fr {M M' : jxM} {p : Int} {l : List wX} (h : q_rw M p l) (h6 : M' 6 p = M 6 p) (hf : ∀ c x, 7 ≤ c → c ≤ 9 → 20 * p ≤ x → x < 20 * p + l.length → M' c x = M c x) : q_rw M' p l :=
  ⟨by rw [h6]; exact h.1, fun k hk => by rw [hf 7 _ (by omega) (by omega) (by omega) (by omega), hf 8 _ (by omega) (by omega) (by omega) (by omega), hf 9 _ (by omega) (by omega) (by omega) (by omega)]; exact h.2 k hk⟩
set_option maxHeartbeats 4000000 in
theorem sp_F_insert (d : Nat) (p a s k : Int) (M : jxM) {l : List wX} (hp : 0 ≤ p ∧ p < 119) (hl : l.length ≤ 20) (hs : w_sd l) (hq : q_rw M p l) {K : jxK} (h : ∀ M', (∀ c x, (c < 6 ∨ 9 < c) → M' c x = M c x) → (∀ x, x ≠ p → M' 6 x = M 6 x) → (∀ c x, 7 ≤ c → c ≤ 9 → (x < 20 * p ∨ 20 * p + 20 ≤ x) → M' c x = M c x) → q_rw M' p ((w_ins (a, s, k) l).take 20) → K none M') : jx_call jx_G2 jx_T (d + 1) 112 [.inr 1, .inl p, .inl a, .inl s, .inl k] M K := by
  obtain ⟨q1, q2⟩ := hq
  intro X hX
  have fin : ∀ (N : jxM) (i : Nat), i ≤ l.length → i ≤ 19 → (∀ c x, (c < 7 ∨ 9 < c) → N c x = M c x) → (∀ c x, 7 ≤ c → c ≤ 9 → (x < 20 * p ∨ 20 * p + 20 ≤ x) → N c x = M c x) → (∀ j : Nat, j < i → N 7 (20 * p + j) = (w_at l j).1 ∧ N 8 (20 * p + j) = (w_at l j).2.1 ∧ N 9 (20 * p + j) = (w_at l j).2.2) → (∀ j : Nat, i < j → j ≤ l.length → j ≤ 19 → N 7 (20 * p + j) = (w_at l (j - 1)).1 ∧ N 8 (20 * p + j) = (w_at l (j - 1)).2.1 ∧ N 9 (20 * p + j) = (w_at l (j - 1)).2.2) → (i < l.length → a < (w_at l i).1) → (0 < i → (w_at l (i - 1)).1 ≤ a) → ∀ (i' n' : Int), i' = i → n' = min ((l.length : Int) + 1) 20 → K none (jx_up (jx_up (jx_up (jx_up N 7 (20 * p + i') a) 8 (20 * p + i') s) 9 (20 * p + i') k) 6 p n') := by
    intro N i i1 i2 n1 n2 n3 n4 n5 n6 i' n' hi' hn'
    subst hi'
    have hins : w_ins (a, s, k) l = l.take i ++ (a, s, k) :: l.drop i := by
      refine w_ins_at (fun pp hpp => ?_) (fun pp hpp => ?_)
      · obtain ⟨j, hj⟩ := List.getElem?_of_mem hpp
        have hji : j < i := by
          have := (List.getElem?_eq_some_iff.mp hj).1
          rw [List.length_take] at this
          omega
        rw [List.getElem?_take_of_lt hji, w_at_some (by omega)] at hj
        cases hj
        have z1 := n6 (by omega)
        have z2 := w_at_sd hs (i := j) (j := i - 1) (by omega) (by omega)
        show (w_at l j).1 ≤ a
        omega
      · rw [List.head?_drop] at hpp
        have hlt := (List.getElem?_eq_some_iff.mp hpp).1
        rw [w_at_some hlt] at hpp
        cases hpp
        exact n5 hlt
    have hlen : ((w_ins (a, s, k) l).take 20).length = min (l.length + 1) 20 := by rw [List.length_take, w_ins_len]; omega
    refine h _ (fun c x hc => ?_) (fun x hx => ?_) (fun c x c1 c2 hx => ?_) ⟨?_, fun j hj => ?_⟩
    · rw [jx_upc (by omega), jx_upc (by omega), jx_upc (by omega), jx_upc (by omega)]; exact n1 c x (by omega)
    · rw [jx_upx hx, jx_upc (by decide), jx_upc (by decide), jx_upc (by decide)]; exact n1 6 x (by omega)
    · have gen : ∀ (L : jxM) (c' : Nat) (v : Int), jx_up L c' (20 * p + (i : Int)) v c x = L c x := fun L c' v => by
        by_cases z : c = c'
        · subst z; exact jx_upx (by omega)
        · exact jx_upc z
      rw [jx_upc (by omega), gen, gen, gen]; exact n2 c x c1 c2 hx
    · rw [jx_ups, hlen, hn']; omega
    · rw [hlen] at hj
      rw [w_at_take (by omega), hins, w_at_mid i1]
      rw [jx_upc (c := 6) (by decide), jx_upc (c := 9) (by decide), jx_upc (c := 8) (by decide), jx_upc (c := 6) (by decide), jx_upc (c := 9) (by decide), jx_upc (c := 6) (by decide)]
      by_cases y1 : j < i
      · rw [if_pos y1, jx_upx (by omega), jx_upx (by omega), jx_upc (by decide), jx_upx (by omega), jx_upc (by decide), jx_upc (by decide)]
        exact n3 j y1
      · rw [if_neg y1]
        by_cases y2 : j = i
        · subst y2
          rw [if_pos rfl]
          exact ⟨jx_ups, jx_ups, jx_ups⟩
        · rw [if_neg y2, jx_upx (by omega), jx_upx (by omega), jx_upc (by decide), jx_upx (by omega), jx_upc (by decide), jx_upc (by decide)]
          exact n4 j (by omega) (by omega) (by omega)
  have lp : ∀ (i : Int) (N : jxM), (0 ≤ i ∧ i ≤ (l.length : Int) ∧ i ≤ 19 ∧ (∀ c x, (c < 7 ∨ 9 < c) → N c x = M c x) ∧ (∀ c x, 7 ≤ c → c ≤ 9 → (x < 20 * p ∨ 20 * p + 20 ≤ x) → N c x = M c x) ∧ (∀ j : Nat, (j : Int) < i → N 7 (20 * p + j) = (w_at l j).1 ∧ N 8 (20 * p + j) = (w_at l j).2.1 ∧ N 9 (20 * p + j) = (w_at l j).2.2) ∧ (∀ j : Nat, i < j → j ≤ l.length → j ≤ 19 → N 7 (20 * p + j) = (w_at l (j - 1)).1 ∧ N 8 (20 * p + j) = (w_at l (j - 1)).2.1 ∧ N 9 (20 * p + j) = (w_at l (j - 1)).2.2) ∧ (i < (l.length : Int) → a < (w_at l i.toNat).1)) → X 28 [.inr 1, .inl p, .inl a, .inl s, .inl k, .inl (l.length : Int), .inl i] [] N := by
    refine jx_loopM (σ := jxM) 0 _ _ ?_
    intro i N ⟨i1, i2, i3, n1, n2, n3, n4, n5⟩ ih
    have stop : (0 < i → (w_at l (i.toNat - 1)).1 ≤ a) → ∀ n', n' = min ((l.length : Int) + 1) 20 → K none (jx_up (jx_up (jx_up (jx_up N 7 (20 * p + i) a) 8 (20 * p + i) s) 9 (20 * p + i) k) 6 p n') := fun hz n' hn' =>
      fin N i.toNat (by omega) (by omega) n1 n2 (fun j hj => n3 j (by omega)) (fun j a b c => n4 j (by omega) b c) (fun z => n5 (by omega)) (fun z => hz (by omega)) i n' (by omega) hn'
    refine bk_F_insert_28 (d := d) hX p a s k _ i N ⟨fun q => ⟨by omega, fun z => ⟨by omega, stop (fun y => by omega) _ (by omega)⟩, fun z => ⟨by omega, stop (fun y => by omega) _ (by omega)⟩⟩, fun q => ?_⟩
    have e := n3 (i.toNat - 1) (by omega)
    rw [show 20 * p + ((i.toNat - 1 : Nat) : Int) = 20 * p + i - 1 by omega] at e
    refine ⟨by omega, fun q2 => ⟨by omega, fun z => ⟨by omega, stop (fun _ => by rw [← e.1]; exact q2) _ (by omega)⟩, fun z => ⟨by omega, stop (fun _ => by rw [← e.1]; exact q2) _ (by omega)⟩⟩, fun q2 => ⟨by omega, ?_⟩⟩
    refine ih _ q ⟨by omega, by omega, by omega, fun c x hc => ?_, fun c x c1 c2 hx => ?_, fun j hj => ?_, fun j j1 j2 j3 => ?_, fun _ => ?_⟩
    · rw [jx_upc (by omega), jx_upc (by omega), jx_upc (by omega)]; exact n1 c x hc
    · have gen : ∀ (L : jxM) (c' : Nat) (v : Int), jx_up L c' (20 * p + i) v c x = L c x := fun L c' v => by
        by_cases z : c = c'
        · subst z; exact jx_upx (by omega)
        · exact jx_upc z
      rw [gen, gen, gen]; exact n2 c x c1 c2 hx
    · rw [jx_upc (c := 9) (by decide), jx_upc (c := 8) (by decide), jx_upc (c := 9) (by decide), jx_upx (by omega), jx_upx (by omega), jx_upc (by decide), jx_upx (by omega), jx_upc (by decide), jx_upc (by decide)]
      exact n3 j (by omega)
    · rw [jx_upc (c := 9) (by decide), jx_upc (c := 8) (by decide), jx_upc (c := 9) (by decide)]
      by_cases y : (j : Int) = i
      · rw [y, jx_ups, jx_ups, jx_ups]
        rw [show j - 1 = i.toNat - 1 by omega]
        exact e
      · rw [jx_upx (by omega), jx_upx (by omega), jx_upc (by decide), jx_upx (by omega), jx_upc (by decide), jx_upc (by decide)]
        exact n4 j (by omega) j2 j3
    · rw [show (i + (-1)).toNat = i.toNat - 1 by omega, ← e.1]
      exact q2
  have start : ∀ i : Int, i = min (l.length : Int) 19 → (i < (l.length : Int) → a < (w_at l i.toNat).1) → X 28 [.inr 1, .inl p, .inl a, .inl s, .inl k, .inl (M 6 p), .inl i] [] M := fun i hi hz => by
    rw [q1]
    exact lp i M ⟨by omega, by omega, by omega, fun _ _ _ => rfl, fun _ _ _ _ _ => rfl, fun j hj => q2 j (by omega), fun j a b c => by omega, hz⟩
  have last : l.length = 20 → M 7 (20 * p + M 6 p - 1) = (w_at l 19).1 := fun z => by
    have := (q2 19 (by omega)).1
    rw [q1, z, ← this]
    congr 1
    omega
  refine bk_F_insert_0 (d := d) hX p a s k M ⟨hp, fun z => ⟨fun z2 => by omega, fun z2 => start _ (by omega) (fun y => by omega)⟩, fun z => ⟨by omega, fun z2 => ⟨fun z3 => start _ (by omega) (fun _ => ?_), fun z3 => by omega⟩, fun z2 => ?_⟩⟩
  · have e := last (by omega)
    rw [show (19 : Int).toNat = 19 from rfl, ← e]
    exact z2
  · have e := last (by omega)
    rw [e] at z2
    refine h M (fun _ _ _ => rfl) (fun _ _ => rfl) (fun _ _ _ _ _ => rfl) ?_
    have hins : w_ins (a, s, k) l = l.take 20 ++ (a, s, k) :: l.drop 20 := by
      refine w_ins_at (fun pp hpp => ?_) (fun pp hpp => ?_)
      · obtain ⟨j, hj⟩ := List.getElem?_of_mem (List.mem_of_mem_take hpp)
        have hji := (List.getElem?_eq_some_iff.mp hj).1
        rw [w_at_some hji] at hj
        cases hj
        have := w_at_sd hs (i := j) (j := 19) (by omega) (by omega)
        show (w_at l j).1 ≤ a
        omega
      · rw [List.head?_drop] at hpp
        have := (List.getElem?_eq_some_iff.mp hpp).1
        omega
    have e2 : (w_ins (a, s, k) l).take 20 = l := by
      rw [hins, List.take_left' (by rw [List.length_take]; omega), List.take_of_length_le (by omega)]
    rw [e2]
    exact ⟨q1, q2⟩
