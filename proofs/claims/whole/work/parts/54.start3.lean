theorem js_z {k : Int} (h : k ≠ 270) : js_M2 2 k = 0 := by unfold js_M2; rw [if_neg (fun z => h z.2)]
theorem js_rel : q_rel js_M1 js_M2 := by
  have z0 : js_M2 2 0 = 0 := js_z (by decide)
  have z1 : js_M2 2 271 = 0 := js_z (by decide)
  have z2 : js_M2 2 270 = 100 := rfl
  have z12 : ∀ k, js_M1 12 k = 0 := fun _ => rfl
  have z14 : ∀ k, js_M1 14 k = 0 := fun _ => rfl
  have t0 : js_M2 1 4 = 0 := rfl
  have h0 : js_M2 1 2 = 0 := rfl
  refine ⟨⟨⟨rfl, by rw [t0]; omega, fun i i1 i2 => by rw [t0] at i2; omega⟩, ⟨?_, fun e e1 e2 => by rw [z0] at e2; omega, fun k k1 k2 => ?_, ?_, ?_, fun i i1 i2 => by rw [z1] at i2; omega, fun g g1 g2 => ?_⟩, ⟨by rw [z0]; omega, fun e e1 e2 => by rw [z0] at e2; omega, fun k k1 k2 => by rw [js_z (by omega)]; omega, by rw [z2]; omega, by rw [z1]; omega, fun g g1 g2 => by rw [js_z (by omega)]; omega⟩, ⟨rfl, by rw [h0]; omega, by show (0 : Int) ≤ 0 ∧ (0 : Int) < 6; omega, fun j j1 j2 => by rw [h0] at j2; omega⟩⟩, Or.inr rfl, fun z => absurd z (by decide), Or.inl rfl, fun z => absurd z (by decide)⟩
  · rw [z0]; rfl
  · rw [js_z (by omega)]; exact z12 k
  · rw [z2]; rfl
  · rw [z1]; rfl
  · rw [js_z (by omega)]; exact z14 g
