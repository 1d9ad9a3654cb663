/-- what both sides keep of the paths -/
def q_pth (M1 M2 : jxM) : Prop := (M1 1 5 = 0 ∨ M1 1 5 = 1) ∧ (M1 1 5 = 0 → q_bt M1 (M2 2)) ∧ (M2 1 5 = 0 ∨ M2 1 5 = 1) ∧ (M2 1 5 = 1 → q_ld M2 (M2 2))
def q_rel (M1 M2 : jxM) : Prop := q_base M1 M2 ∧ q_pth M1 M2
def q_go (v : Option jxV) (M1' : jxM) : jxK := fun w M2' => (∃ r : Int, v = some (.inl r) ∧ w = some (.inl r)) ∧ q_rel M1' M2'
theorem q_ld_fr {M M' : jxM} {A : Int → Int} (ho : q_ok A) (h : q_ld M A) (hf : ∀ c x, 6 ≤ c → c ≤ 11 → M' c x = M c x) : q_ld M' A :=
  q_ldg_fr ho ⟨by omega, ho.2.2.2.2.1.1⟩ h (fun x _ _ => ⟨hf 6 x (by omega) (by omega), hf 10 x (by omega) (by omega)⟩) (fun c x c1 c2 _ _ => hf c x (by omega) (by omega)) (fun x _ _ => hf 11 x (by omega) (by omega))
/-- the calls that do not ask for paths keep what is kept of the paths -/
theorem q_pair_go {M1 M2 : jxM} (h : q_rel M1 M2) {v : Option jxV} {M1' : jxM} {w : Option jxV} {M2' : jxM} (hp : q_pair M1 M2 v M1' w M2') : q_go v M1' w M2' := by
  obtain ⟨hb, p1, p2, p3, p4⟩ := h
  obtain ⟨a, b, c⟩ := hp
  refine ⟨a, b, ?_⟩
  rcases c with ⟨c1, c2⟩ | ⟨c1, c2⟩
  · exact ⟨Or.inr c1, fun z => absurd (c1.symm.trans z) (by decide), Or.inl c2, fun z => absurd (c2.symm.trans z) (by decide)⟩
  · have e1 := c1 1 5 (Or.inl rfl)
    have e2 := c2 1 5 (by decide) (by omega)
    have e3 : M2' 2 = M2 2 := funext (fun x => c2 2 x (by decide) (by omega))
    refine ⟨by rw [e1]; exact p1, fun z => ?_, by rw [e2]; exact p3, fun z => ?_⟩
    · rw [e3]
      exact q_bt_fr hb.2.2.1 (p2 (e1.symm.trans z)) (fun c x c1' _ => c1 c x (by omega))
    · rw [e3]
      exact q_ld_fr hb.2.2.1 (p4 (e2.symm.trans z)) (fun c x c1' _ => c2 c x (by omega) (by omega))
theorem sp_C_presentPaths (d : Nat) (M : jxM) {A : Int → Int} (hr : q_rs M 4 A) (ho : q_ok A) (hb : M 1 5 = 0 → q_bt M A) {K : jxK} (h : ∀ M', (∀ c x, (c < 84 ∨ c = 90 ∨ 99 < c) → ¬ (c = 1 ∧ x = 5) → M' c x = M c x) → M' 1 5 = 0 → q_bt M' A → K (some (.inr 90)) M') : jx_call jx_G1 jx_T (d + 6) 73 [.inr 1] M K := by
  intro X hX
  refine bk_C_presentPaths_0 (d := d) hX M ⟨fun z => h M (fun _ _ _ _ => rfl) z (hb z), fun z => ?_⟩
  refine sp_L_build (d + 1) M hr ho (fun N1 a1 a2 => ⟨rfl, ?_⟩)
  refine sp_R_build d N1 (q_rs_blk ho hr (q_blk_rfl (fun c x c1 c2 => a1 c x (by omega)))) ho a2 (fun N2 b1 b2 => ⟨rfl, ?_⟩)
  refine h _ (fun c x hc hx => ?_) jx_ups (q_bt_fr ho b2 (fun c x c1 c2 => jx_upc (by omega)))
  have e : jx_up N2 1 5 0 c x = N2 c x := by
    by_cases z : c = 1
    · subst z; exact jx_upx (fun y => hx ⟨rfl, y⟩)
    · exact jx_upc z
  rw [e, b1 c x (by omega), a1 c x (by omega)]
