theorem p_tr_mem {A : Int → Int} (ho : q_ok A) : ∀ (f : Nat) (g c : Int) (k : Nat), 0 ≤ g → g ≤ A 271 → k < (a_W A g c).length → ∀ x ∈ p_tr A f g c k, x.2 = -5 ∨ 0 ≤ x.2 ∧ x.2 < A 0 := by
  intro f
  induction f with
  | zero => intro g c k _ _ _ x hx; cases hx
  | succ f ih =>
    intro g c k g0 g1 hk x hx
    rcases Int.lt_or_le g (A 271) with z | z
    · obtain ⟨m1, j, m2, m3⟩ := p_mv ho g0 z hk
      rw [p_tr_step z m2] at hx
      obtain ⟨s1, s2, -⟩ := a_seg_mem ho ⟨g0, z⟩ m1
      rcases List.mem_cons.mp hx with rfl | hx
      · rcases s1 with s1 | s1
        · exact Or.inl s1
        · exact Or.inr ⟨s1.1, s1.2.1⟩
      · exact ih _ _ j (by omega) s2.2 m3 x hx
    · rw [p_tr_end z] at hx; cases hx
def h_T (l : List (Int × Int)) (i : Nat) (e : Int) : Prop := ∃ k : Nat, k < i ∧ k < l.length ∧ (l.getD k (0, 0)).2 = e
theorem j_sum_upd {f f' : Int → Int} {e : Int} (he : 0 ≤ e) (h1 : f' e = f e + 1) (h2 : ∀ x, x ≠ e → f' x = f x) : ∀ k : Nat, j_sum f' k = j_sum f k + if e < k then 1 else 0 := by
  intro k
  induction k with
  | zero => simp only [j_sum]; rw [if_neg (by omega)]; rfl
  | succ k ih =>
    simp only [j_sum]
    rw [ih]
    rcases (show e < (k : Int) ∨ e = (k : Int) ∨ (k : Int) < e by omega) with z | z | z
    · rw [h2 k (by omega), if_pos z, if_pos (by omega)]; omega
    · rw [← z, h1, if_neg (by omega), if_pos (by omega)]; omega
    · rw [h2 k (by omega), if_neg (by omega), if_neg (by omega)]; omega
theorem h_T_s {l : List (Int × Int)} {i : Nat} (hi : i < l.length) (e : Int) : h_T l (i + 1) e ↔ h_T l i e ∨ (l.getD i (0, 0)).2 = e := by
  constructor
  · rintro ⟨k, k1, k2, k3⟩
    rcases (show k < i ∨ k = i by omega) with z | z
    · exact Or.inl ⟨k, z, k2, k3⟩
    · subst z; exact Or.inr k3
  · rintro (⟨k, k1, k2, k3⟩ | z)
    · exact ⟨k, by omega, k2, k3⟩
    · exact ⟨i, by omega, hi, z⟩
noncomputable def h_n (A : Int → Int) (l : List (Int × Int)) (i : Nat) (e : Int) : Int := jx_b (h_T l i e ∧ A (1 + 11 * e + 10) < 9)
theorem h_n_bnd (A : Int → Int) (l : List (Int × Int)) (i : Nat) (e : Int) : 0 ≤ h_n A l i e ∧ h_n A l i e ≤ 1 := by
  unfold h_n
  rcases jx_b01 (h_T l i e ∧ A (1 + 11 * e + 10) < 9) with z | z <;> omega
theorem h_n_old {A : Int → Int} {l : List (Int × Int)} {i : Nat} (hi : i < l.length) {e : Int} (h : (l.getD i (0, 0)).2 = e → h_T l i e ∨ 9 ≤ A (1 + 11 * e + 10)) : h_n A l (i + 1) e = h_n A l i e := by
  unfold h_n
  refine jx_bc ⟨fun ⟨a, b⟩ => ⟨?_, b⟩, fun ⟨a, b⟩ => ⟨(h_T_s hi e).mpr (Or.inl a), b⟩⟩
  rcases (h_T_s hi e).mp a with z | z
  · exact z
  · rcases h z with y | y
    · exact y
    · omega
def h_dup (N : jxM) (i v : Int) : Prop := v ≠ 0 → N 13 i = -5 ∨ ∃ j, 0 ≤ j ∧ j < i ∧ N 13 j = N 13 i
set_option maxHeartbeats 4000000 in
/-- the reference's loop of choose -/
theorem f_learn {d : Nat} {K : jxK} {X : jxX} (hX : jx_clo jx_G2 (d + 6) (jx_call jx_G2 jx_T (d + 6)) kc_F_choose K X) (r : Int) (P : jxM) {A : Int → Int} (hA : P 2 = A) (ho : q_ok A) {l : List (Int × Int)} (hl : l.length ≤ 16) (hm : ∀ x ∈ l, x.2 = -5 ∨ 0 ≤ x.2 ∧ x.2 < A 0) (hh : p_hold (P 12) (P 13) (P 1 14) l)
    (h : ∀ M', (∀ c x, c ≠ 2 → M' c x = P c x) → (∀ e, 0 ≤ e → e < A 0 → M' 2 (1 + 11 * e + 10) = A (1 + 11 * e + 10) + h_n A l l.length e) → (∀ k, (∀ e, 0 ≤ e → e < A 0 → k ≠ 1 + 11 * e + 10) → M' 2 k = A k) → K (some (.inl (j_sum (h_n A l l.length) (A 0).toNat))) M') : X 19 [.inr 1, .inl r, .inl 0, .inl 0, .inr 0, .inr 0] [] P := by
  have h0 := ho.1
  have z0 : ∀ e, h_n A l 0 e = 0 := fun e => by unfold h_n; exact jx_bf (fun ⟨⟨k, k1, _⟩, _⟩ => by omega)
  have js0 : ∀ k : Nat, j_sum (h_n A l 0) k = 0 := fun k => by
    induction k with
    | zero => rfl
    | succ k ih => simp only [j_sum]; rw [ih, z0]; rfl
  refine jx_loop (σ := jxM × Int) (l.length : Int) (fun i t => 0 ≤ i ∧ i ≤ (l.length : Int) ∧ (∀ c x, c ≠ 2 → t.1 c x = P c x) ∧ (∀ e, 0 ≤ e → e < A 0 → t.1 2 (1 + 11 * e + 10) = A (1 + 11 * e + 10) + h_n A l i.toNat e) ∧ (∀ k, (∀ e, 0 ≤ e → e < A 0 → k ≠ 1 + 11 * e + 10) → t.1 2 k = A k) ∧ t.2 = j_sum (h_n A l i.toNat) (A 0).toNat) (fun i t => X 19 [.inr 1, .inl r, .inl t.2, .inl i, .inr 0, .inr 0] [] t.1) ?_ 0 (P, 0) ⟨by omega, by omega, fun _ _ _ => rfl, fun e e1 e2 => ?_, fun k _ => by rw [← hA], (js0 _).symm⟩
  · rintro i ⟨N, t⟩ ⟨i1, i2, n1, n2, n3, n4⟩ ih
    dsimp only at n1 n2 n3 n4 ⊢
    have e14 : N 1 14 = (l.length : Int) := (n1 1 14 (by decide)).trans hh.1
    have tb := j_sum_le (f := h_n A l i.toNat) (B := 1) (A 0).toNat (fun j _ _ => h_n_bnd A l i.toNat j)
    refine bk_F_choose_19 (d := d) hX r t i N ⟨fun q => ?_, fun q => ⟨by omega, ?_⟩⟩
    · have it : i.toNat = l.length := by omega
      rw [it] at n2 n4
      rw [n4]
      exact h N n1 n2 n3
    · have k0 : i.toNat < l.length := by omega
      have it : (i + 1).toNat = i.toNat + 1 := by omega
      have pk : ∀ k : Int, 0 ≤ k → k < (l.length : Int) → N 13 k = (l.getD k.toNat (0, 0)).2 := fun k k1 k2 => by
        have := (hh.2 k.toNat (by omega)).2
        rw [show ((k.toNat : Nat) : Int) = k by omega] at this
        rw [n1 13 k (by decide)]; exact this
      have hmi : N 13 i = -5 ∨ 0 ≤ N 13 i ∧ N 13 i < A 0 := by
        rw [pk i i1 (by omega)]
        refine hm _ ?_
        rw [List.getD_eq_getElem?_getD, List.getElem?_eq_getElem k0]
        exact List.getElem_mem k0
      have ei := pk i i1 (by omega)
      have stay : (∀ e, 0 ≤ e → (l.getD i.toNat (0, 0)).2 = e → h_T l i.toNat e ∨ 9 ≤ A (1 + 11 * e + 10)) → X 19 [.inr 1, .inl r, .inl t, .inl (i + 1), .inr 0, .inr 0] [] N := fun hs => by
        refine ih (N, t) (by omega) ⟨by omega, by omega, n1, fun e e1 e2 => ?_, n3, ?_⟩
        · rw [it, h_n_old k0 (hs e e1)]; exact n2 e e1 e2
        · rw [it]
          refine n4.trans (j_sum_eq _ (fun e e1 e2 => (h_n_old k0 (hs e e1)).symm))
      have inner : ∀ v4 : Int, (v4 = 0 → N 13 i ≠ -5) → (v4 ≠ 0 → N 13 i = -5) → X 35 [.inr 1, .inl r, .inl t, .inl i, .inl v4, .inl 0] [] N := by
        intro v4 w1 w2
        refine jx_loop (σ := Int) i (fun k v => 0 ≤ k ∧ k ≤ i ∧ (v = 0 → N 13 i ≠ -5 ∧ ∀ j, 0 ≤ j → j < k → N 13 j ≠ N 13 i) ∧ h_dup N i v) (fun k v => X 35 [.inr 1, .inl r, .inl t, .inl i, .inl v, .inl k] [] N) ?_ 0 v4 ⟨by omega, i1, fun z => ⟨w1 z, fun j _ _ => by omega⟩, fun z => Or.inl (w2 z)⟩
        intro k v ⟨k1, k2, k3, k4⟩ jh
        refine bk_F_choose_35 (d := d) hX r t i v k N ⟨fun y => ⟨fun y2 => ⟨by omega, stay (fun e e1 e2 => ?_)⟩, fun y2 => ?_⟩, fun y => ⟨fun y2 => ⟨by omega, jh 1 y ⟨by omega, by omega, fun z => absurd z (by decide), fun _ => k4 y2⟩⟩, fun y2 => ⟨⟨by omega, by omega⟩, fun y3 => ⟨by omega, jh 0 y ⟨by omega, by omega, fun _ => ⟨(k3 y2).1, fun j j1 j2 => ?_⟩, fun z => absurd rfl z⟩⟩, fun y3 => ⟨by omega, jh 1 y ⟨by omega, by omega, fun z => absurd z (by decide), fun _ => Or.inr ⟨k, k1, y, y3⟩⟩⟩⟩⟩⟩
        · rcases k4 y2 with z | ⟨j, j1, j2, j3⟩
          · rw [ei, e2] at z; omega
          · refine Or.inl ⟨j.toNat, by omega, by omega, ?_⟩
            rw [← pk j j1 (by omega), j3, ei, e2]
        · obtain ⟨y3, y4⟩ := k3 y2
          obtain ⟨m1, m2⟩ := hmi.resolve_left y3
          have oe := ho.2.1 (N 13 i) m1 m2
          have nt : ¬ h_T l i.toNat (N 13 i) := fun ⟨j, j1, j2, j3⟩ => by
            refine y4 j (by omega) (by omega) ?_
            rw [pk j (by omega) (by omega)]
            exact j3
          have hz : h_n A l i.toNat (N 13 i) = 0 := by unfold h_n; exact jx_bf (fun ⟨a, _⟩ => nt a)
          have u := n2 (N 13 i) m1 m2
          rw [hz, Int.add_zero] at u
          refine ⟨⟨by omega, by omega, by omega, by omega⟩, fun y5 => ⟨by omega, stay (fun e e1 e2 => Or.inr ?_)⟩, fun y5 => ⟨⟨by omega, by omega, by omega, by omega, by omega, by omega, by omega, by omega⟩, ?_⟩⟩
          · rw [← e2, ← ei, ← u]; exact y5
          · have hz1 : h_n A l (i.toNat + 1) (N 13 i) = 1 := by
              unfold h_n
              exact jx_bt ⟨(h_T_s k0 _).mpr (Or.inr ei.symm), by rw [← u]; exact y5⟩
            have ho2 : ∀ e, e ≠ N 13 i → h_n A l (i.toNat + 1) e = h_n A l i.toNat e := fun e he => h_n_old k0 (fun z => absurd (z.symm.trans ei.symm) he)
            refine ih (jx_up N 2 (1 + 11 * N 13 i + 10) (N 2 (1 + 11 * N 13 i + 10) + 1), t + 1) (by omega) ⟨by omega, by omega, fun c x hc => (jx_upc hc).trans (n1 c x hc), fun e e1 e2 => ?_, fun k hk => ?_, ?_⟩
            · show jx_up N 2 (1 + 11 * N 13 i + 10) (N 2 (1 + 11 * N 13 i + 10) + 1) 2 (1 + 11 * e + 10) = _
              rw [jx_up_at, it]
              by_cases z : e = N 13 i
              · rw [if_pos (by omega), z, hz1, u]
              · rw [if_neg (by omega), ho2 e z]; exact n2 e e1 e2
            · show jx_up N 2 (1 + 11 * N 13 i + 10) (N 2 (1 + 11 * N 13 i + 10) + 1) 2 k = _
              rw [jx_upx (hk _ m1 m2)]
              exact n3 k hk
            · show t + 1 = _
              rw [it, j_sum_upd m1 (by rw [hz1, hz]; rfl) ho2 (A 0).toNat, if_pos (by omega), n4]
        · rcases (show j < k ∨ j = k by omega) with z | z
          · exact (k3 y2).2 j j1 z
          · rw [z]; exact y3
      exact ⟨fun w => inner 0 (fun _ => w) (fun z => absurd rfl z), fun w => inner 1 (fun z => absurd z (by decide)) (fun _ => w)⟩
  · show P 2 _ = _
    rw [hA, show (0 : Int).toNat = 0 from rfl, z0, Int.add_zero]
set_option maxHeartbeats 4000000 in
/-- the class's loop of choose -/
theorem c_learn {d : Nat} {K : jxK} {X : jxX} (hX : jx_clo jx_G1 (d + 6) (jx_call jx_G1 jx_T (d + 6)) kc_C_choose K X) (r : Int) (P : jxM) {A : Int → Int} (hn : P 5 6 = A 0) (hu : ∀ e, 0 ≤ e → e < A 0 → P 11 e = A (1 + 11 * e + 10)) (ho : q_ok A) {l : List (Int × Int)} (hl : l.length ≤ 16) (hh : p_hold (P 100) (P 101) (P 90 13) l)
    (h : ∀ M', (∀ c x, c ≠ 11 → M' c x = P c x) → (∀ e, 0 ≤ e → e < A 0 → M' 11 e = A (1 + 11 * e + 10) + h_n A l l.length e) → K (some (.inl (j_sum (h_n A l l.length) (A 0).toNat))) M') : X 23 [.inr 1, .inl r, .inr 90, .inl 0, .inl 0] [] P := by
  have h0 := ho.1
  refine jx_loop (σ := jxM × Int) (A 0) (fun i t => 0 ≤ i ∧ i ≤ A 0 ∧ (∀ c x, c ≠ 11 → t.1 c x = P c x) ∧ (∀ e, 0 ≤ e → e < i → t.1 11 e = A (1 + 11 * e + 10) + h_n A l l.length e) ∧ (∀ e, i ≤ e → t.1 11 e = P 11 e) ∧ t.2 = j_sum (h_n A l l.length) i.toNat) (fun i t => X 23 [.inr 1, .inl r, .inr 90, .inl t.2, .inl i] [] t.1) ?_ 0 (P, 0) ⟨by omega, by omega, fun _ _ _ => rfl, fun e _ _ => by omega, fun _ _ => rfl, rfl⟩
  rintro i ⟨N, t⟩ ⟨i1, i2, n1, n2, n3, n4⟩ ih
  dsimp only at n1 n2 n3 n4 ⊢
  have e56 : N 5 6 = A 0 := (n1 5 6 (by decide)).trans hn
  have e13 : N 90 13 = (l.length : Int) := (n1 90 13 (by decide)).trans hh.1
  have tb := j_sum_le (f := h_n A l l.length) (B := 1) i.toNat (fun j _ _ => h_n_bnd A l l.length j)
  have tr : r_trail N i ↔ h_T l l.length i := by
    unfold r_trail h_T
    rw [e13]
    constructor
    · rintro ⟨k, k1, k2, k3⟩
      refine ⟨k.toNat, by omega, by omega, ?_⟩
      have := (hh.2 k.toNat (by omega)).2
      rw [show ((k.toNat : Nat) : Int) = k by omega, ← n1 101 k (by decide), k3] at this
      exact this.symm
    · rintro ⟨k, k1, k2, k3⟩
      refine ⟨k, by omega, by omega, ?_⟩
      rw [n1 101 k (by decide), (hh.2 k k2).2, k3]
  refine bk_C_choose_23 (d := d) hX r t i N ⟨fun q => ?_, fun q => ⟨by omega, fun q1 => ⟨by omega, ?_⟩, fun q1 => ?_⟩⟩
  · obtain rfl : i = A 0 := by omega
    rw [n4]
    exact h N n1 (fun e e1 e2 => n2 e e1 (by omega))
  · have hz : h_n A l l.length i = 0 := by unfold h_n; exact jx_bf (fun ⟨a, _⟩ => q1 (tr.mpr a))
    refine ih (N, t) (by omega) ⟨by omega, by omega, n1, fun e e1 e2 => ?_, fun e e1 => n3 e (by omega), ?_⟩
    · rcases (show e < i ∨ e = i by omega) with z | z
      · exact n2 e e1 z
      · rw [z, hz, Int.add_zero]
        show N 11 i = _
        rw [n3 i (Int.le_refl _)]
        exact hu i i1 (by omega)
    · rw [j_step _ i1, hz]; show t = _; rw [n4]; omega
  · have ui := (n3 i (Int.le_refl _)).trans (hu i i1 (by omega))
    have oe := ho.2.1 i i1 (by omega)
    refine sp_D_learn (d + 5) i N ⟨by omega, by omega⟩ ⟨fun y => ⟨1, rfl, fun z => absurd z (by decide), fun _ => ⟨⟨by omega, by omega⟩, ?_⟩⟩, fun y => ⟨0, rfl, fun _ => ⟨by omega, ?_⟩, fun z => absurd rfl z⟩⟩
    · have hz : h_n A l l.length i = 1 := by unfold h_n; exact jx_bt ⟨tr.mp q1, by rw [← ui]; exact y⟩
      refine ih (jx_up N 11 i (N 11 i + 1), t + 1) (by omega) ⟨by omega, by omega, fun c x hc => (jx_upc hc).trans (n1 c x hc), fun e e1 e2 => ?_, fun e e1 => ?_, ?_⟩
      · show jx_up N 11 i (N 11 i + 1) 11 e = _
        rw [jx_up_at]
        by_cases z : e = i
        · rw [if_pos z, z, hz, ui]
        · rw [if_neg z]; exact n2 e e1 (by omega)
      · show jx_up N 11 i (N 11 i + 1) 11 e = _
        rw [jx_upx (by omega)]; exact n3 e (by omega)
      · rw [j_step _ i1, hz]; show t + 1 = _; rw [n4]
    · have hz : h_n A l l.length i = 0 := by unfold h_n; exact jx_bf (fun ⟨_, b⟩ => by omega)
      refine ih (N, t) (by omega) ⟨by omega, by omega, n1, fun e e1 e2 => ?_, fun e e1 => n3 e (by omega), ?_⟩
      · rcases (show e < i ∨ e = i by omega) with z | z
        · exact n2 e e1 z
        · rw [z, hz, Int.add_zero]; exact ui
      · rw [j_step _ i1, hz]; show t = _; rw [n4]; omega
