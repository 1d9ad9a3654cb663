theorem jx_stp_mono {G : jxG} {d : Nat} {C : Nat → List jxV → jxM → jxK → Prop} {K1 K2 : jxK} {X : jxX} (hK : ∀ r M', K1 r M' → K2 r M') {i : jxI} {pc : Nat} {ls st : List jxV} {M : jxM} (h : jx_stp G d C K1 X i pc ls st M) : jx_stp G d C K2 X i pc ls st M := by
  unfold jx_stp at h ⊢
  split at h <;> first
    | exact h
    | (obtain ⟨v, h1, h2, h3⟩ := h; exact ⟨v, h1, h2, hK _ _ h3⟩)
    | (obtain ⟨h1, h3⟩ := h; exact ⟨h1, hK _ _ h3⟩)
    | (obtain ⟨v, h1, h3⟩ := h; exact ⟨v, h1, hK _ _ h3⟩)
theorem jx_mono {G : jxG} {T : Nat → Nat × List jxI} {d y : Nat} {as : List jxV} {M : jxM} {K1 K2 : jxK} (hK : ∀ r M', K1 r M' → K2 r M') (h : jx_call G T d y as M K1) : jx_call G T d y as M K2 := by
  cases d with
  | zero => exact h
  | succ d => exact fun X hX => h X ⟨fun pc ls st M i hi hs => hX.1 pc ls st M i hi (jx_stp_mono hK hs), hX.2⟩
noncomputable def jx_b (p : Prop) : Int := @ite Int p (Classical.propDecidable p) 1 0
theorem jx_bt {p : Prop} (h : p) : jx_b p = 1 := by unfold jx_b; rw [if_pos h]
theorem jx_bf {p : Prop} (h : ¬ p) : jx_b p = 0 := by unfold jx_b; rw [if_neg h]
theorem jx_b01 (p : Prop) : jx_b p = 0 ∨ jx_b p = 1 := by
  by_cases h : p
  · exact Or.inr (jx_bt h)
  · exact Or.inl (jx_bf h)
theorem jx_bc {p q : Prop} (h : p ↔ q) : jx_b p = jx_b q := by rw [propext h]
theorem jx_upc {M : jxM} {c c' : Nat} {x v y : Int} (h : c' ≠ c) : jx_up M c x v c' y = M c' y := by unfold jx_up; rw [if_neg (fun q => h q.1)]
theorem jx_ups {M : jxM} {c : Nat} {x v : Int} : jx_up M c x v c x = v := by unfold jx_up; rw [if_pos ⟨rfl, rfl⟩]
theorem jx_upx {M : jxM} {c : Nat} {x v y : Int} (h : y ≠ x) : jx_up M c x v c y = M c y := by unfold jx_up; rw [if_neg (fun q => h q.2)]
theorem jx_cpc {M : jxM} {a b c : Nat} {sp dp n y : Int} (h : c ≠ b) : jx_cp M a sp b dp n c y = M c y := by unfold jx_cp; rw [if_neg (fun q => h q.1)]
theorem jx_cases6 {x : Int} (h : 0 ≤ x ∧ x < 6) : x = 0 ∨ x = 1 ∨ x = 2 ∨ x = 3 ∨ x = 4 ∨ x = 5 := by omega
theorem jx_vB {K : jxK} {M : jxM} {x y : Int} (h : x = y) (k : K (some (.inl y)) M) : K (some (.inl x)) M := (congrArg (fun z => K (some (.inl z)) M) h).mpr k
section JY
variable {G : jxG} {d : Nat} {C : Nat → List jxV → jxM → jxK → Prop} {T : List jxI} {K : jxK} {X : jxX} {pc : Nat} {ls st : List jxV} {M : jxM}
theorem jx_vX {x y : Int} (h : x = y) (k : X pc ls (.inl y :: st) M) : X pc ls (.inl x :: st) M := (congrArg (fun z => X pc ls (.inl z :: st) M) h).mpr k
theorem jx_vR {x y : Nat} (h : x = y) (k : X pc ls (.inr y :: st) M) : X pc ls (.inr x :: st) M := (congrArg (fun z => X pc ls (.inr z :: st) M) h).mpr k
theorem jk_zeqB (hX : jx_clo G d C T K X) (a : Nat) {p : Prop} (h : T[pc]? = some (12, a, 0, 0)) (k1 : ¬ p → X a ls st M) (k2 : p → X (pc + 1) ls st M) : X pc ls (.inl (jx_b p) :: st) M := jk_zeq hX a h (fun q => k1 (fun hp => by rw [jx_bt hp] at q; exact absurd q (by decide))) (fun q => k2 (Classical.byContradiction (fun hp => q (jx_bf hp))))
theorem jk_zneB (hX : jx_clo G d C T K X) (a : Nat) {p : Prop} (h : T[pc]? = some (12, a, 1, 0)) (k1 : p → X a ls st M) (k2 : ¬ p → X (pc + 1) ls st M) : X pc ls (.inl (jx_b p) :: st) M := jk_zne hX a h (fun q => k1 (Classical.byContradiction (fun hp => q (jx_bf hp)))) (fun q => k2 (fun hp => by rw [jx_bt hp] at q; exact absurd q (by decide)))
end JY
