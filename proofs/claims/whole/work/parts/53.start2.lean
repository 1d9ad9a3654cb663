def js_ad2 (q : Nat → Nat) (c : Nat) : Nat := q (c - 1)
theorem js_d2 {D : va_G} {cA : ClassId × ClassId × ClassId} {q : Nat → Nat} {H : Heap} (hP : va_P D vwCl (jw_F cA q) H) : va_at D vwCl (js_ad2 q 2, jx_ent (js_ad2 q) cA jx_G2 js_M2 2) H := js_arr (hP 1 _ rfl) (fun j => by
  show upd (fun _ => 0) 270 100 j = Int32.ofInt (if (2 : Nat) = 2 ∧ (j : Int) = 270 then 100 else 0)
  unfold upd
  by_cases h : j = 270
  · subst h; rfl
  · rw [if_neg h, if_neg (fun z => h (by have := z.2; omega))]; rfl)
theorem js_P2 {D : va_G} {cA : ClassId × ClassId × ClassId} {q : Nat → Nat} {H : Heap} (hP : va_P D vwCl (jw_F cA q) H) : va_P D vwCl (jx_wl (js_ad2 q) cA jx_G2 15 js_M2) H := by
  have all : ∀ c ∈ [1, 2, 3, 4, 5, 6, 7, 8, 9, 10, 11, 12, 13, 14, 15], va_at D vwCl (js_ad2 q c, jx_ent (js_ad2 q) cA jx_G2 js_M2 c) H := List.forall_mem_cons.mpr ⟨hP 0 _ rfl, List.forall_mem_cons.mpr ⟨js_d2 hP, List.forall_mem_cons.mpr ⟨hP 2 _ rfl, List.forall_mem_cons.mpr ⟨hP 3 _ rfl, List.forall_mem_cons.mpr ⟨hP 4 _ rfl, List.forall_mem_cons.mpr ⟨hP 5 _ rfl, List.forall_mem_cons.mpr ⟨hP 6 _ rfl, List.forall_mem_cons.mpr ⟨hP 7 _ rfl, List.forall_mem_cons.mpr ⟨hP 8 _ rfl, List.forall_mem_cons.mpr ⟨hP 9 _ rfl, List.forall_mem_cons.mpr ⟨hP 10 _ rfl, List.forall_mem_cons.mpr ⟨hP 11 _ rfl, List.forall_mem_cons.mpr ⟨hP 12 _ rfl, List.forall_mem_cons.mpr ⟨hP 13 _ rfl, List.forall_mem_cons.mpr ⟨hP 14 _ rfl, fun _ h => absurd h List.not_mem_nil⟩⟩⟩⟩⟩⟩⟩⟩⟩⟩⟩⟩⟩⟩⟩
  intro k x hx
  unfold jx_wl at hx
  rw [List.getElem?_map] at hx
  by_cases hk : k < 15
  · rw [List.getElem?_range hk] at hx
    cases hx
    exact all (k + 1) ((show ∀ k, k < 15 → (k + 1) ∈ ([1, 2, 3, 4, 5, 6, 7, 8, 9, 10, 11, 12, 13, 14, 15] : List Nat) by decide +kernel) k hk)
  · rw [List.getElem?_eq_none (by simpa using hk)] at hx
    cases hx
theorem js_r1 : jx_rM js_M1 := fun c x => by
  have h : js_M1 c x = 100 ∨ js_M1 c x = 1 ∨ js_M1 c x = 0 := by
    unfold js_M1
    repeat' split
    all_goals simp
  unfold jx_r
  omega
theorem js_r2 : jx_rM js_M2 := fun c x => by
  unfold js_M2 jx_r
  split <;> omega
