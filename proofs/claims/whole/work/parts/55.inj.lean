theorem js_at1 (cA : ClassId × ClassId × ClassId) (q : Nat → Nat) : (jw_C cA q).map (fun x => x.1) = (List.range 101).map q := rfl
theorem js_at2 (cA : ClassId × ClassId × ClassId) (q : Nat → Nat) : (jw_F cA q).map (fun x => x.1) = (List.range 15).map q := rfl
theorem js_ij {ws : va_W} {q : Nat → Nat} {n : Nat} {A : Nat → Prop} (h : ws.map (fun x => x.1) = (List.range n).map q) (hD : va_D A ws) {i j : Nat} (hi : i < n) (hj : j < n) (e : q i = q j) : i = j := by
  have at' : ∀ k, k < n → ∃ x, ws[k]? = some x ∧ x.1 = q k := fun k hk => by
    have h1 : (ws.map (fun x => x.1))[k]? = some (q k) := by rw [h, List.getElem?_map, List.getElem?_range hk]; rfl
    rw [List.getElem?_map] at h1
    cases hw : ws[k]? with
    | none => rw [hw] at h1; cases h1
    | some x => rw [hw] at h1; exact ⟨x, rfl, Option.some.inj h1⟩
  obtain ⟨x, x1, x2⟩ := at' i hi
  obtain ⟨y, y1, y2⟩ := at' j hj
  exact hD.1 i j x y x1 y1 (by rw [x2, y2, e])
def js_inv : List Nat := (List.range 101).map (fun k => ((List.range 102).drop 1).findIdx (fun c => (js_pos[c]?).getD 0 == k) + 1)
theorem js_inj1 {cA : ClassId × ClassId × ClassId} {q : Nat → Nat} {A : Nat → Prop} (hD : va_D A (jw_C cA q)) : jx_inj (js_ad q) 101 := by
  intro c c' h1 h2 h3 h4 he
  have hp : ∀ c, c < 102 → (js_pos[c]?).getD 0 < 101 := by decide +kernel
  have hi : ∀ c, c < 102 → 1 ≤ c → (js_inv[(js_pos[c]?).getD 0]?).getD 0 = c := by decide +kernel
  have e := js_ij (js_at1 cA q) hD (hp c (by omega)) (hp c' (by omega)) he
  rw [← hi c (by omega) h1, ← hi c' (by omega) h3, e]
theorem js_inj2 {cA : ClassId × ClassId × ClassId} {q : Nat → Nat} {A : Nat → Prop} (hD : va_D A (jw_F cA q)) : jx_inj (js_ad2 q) 15 := by
  intro c c' h1 h2 h3 h4 he
  have e := js_ij (js_at2 cA q) hD (i := c - 1) (j := c' - 1) (by omega) (by omega) he
  omega
