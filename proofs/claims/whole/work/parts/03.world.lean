/-! THE PURE MACHINE'S CELLS IN THE HEAP. ad: the addresses; cA: the classes of int[], boolean[], Model[] -/
def jx_gw : List Cond := lw_tbl.filter goodWord
def jx_N (ci : Nat) : Nat := match vwCl[ci]? with
  | some q => q.2.2
  | none => 0
def jx_v (ad : Nat → Nat) : jxV → Value
  | .inl x => .int (Int32.ofInt x)
  | .inr c => .ref (ad c)
def jx_ent (ad : Nat → Nat) (cA : ClassId × ClassId × ClassId) (G : jxG) (M : jxM) (c : Nat) : va_E := match (G.1 c).1 with
  | 0 => .inr ((G.1 c).2, (List.range (jx_N (G.1 c).2)).map (fun k => if G.2 c k = 0 then Value.int (Int32.ofInt (M c k)) else Value.ref (ad (G.2 c k))))
  | 1 => .inl (cA.1, (G.1 c).2, .inl (fun j => Int32.ofInt (M c j)))
  | 2 => .inl (cA.2.1, (G.1 c).2, .inl (fun j => Int32.ofInt (M c j)))
  | _ => .inl (cA.2.2, (G.1 c).2, .inr (.inr (.inr (.inr (fun j => some (ad (G.2 c j)))))))
def jx_wl (ad : Nat → Nat) (cA : ClassId × ClassId × ClassId) (G : jxG) (n : Nat) (M : jxM) : va_W := (List.range n).map (fun k => (ad (k + 1), jx_ent ad cA G M (k + 1)))
def jx_ty (cA : ClassId × ClassId × ClassId) : List (ClassId × FieldType) := [(cA.1, .int), (cA.2.1, .boolean), (cA.2.2, .object "ReadingConverter$Model")]
def jx_rv : jxV → Prop
  | .inl x => jx_r x
  | .inr _ => True
def jx_rl (l : List jxV) : Prop := ∀ v ∈ l, jx_rv v
def jx_rM (M : jxM) : Prop := ∀ c x, jx_r (M c x)
/-- a shape: cells 1 .. n alone, lengths and counts small -/
def jx_shape (G : jxG) (n : Nat) : Prop := (∀ c, (G.1 c).1 < 9 → 1 ≤ c ∧ c ≤ n) ∧ (∀ c, (G.1 c).2 < 2147483648)
def jx_A (ad : Nat → Nat) (n : Nat) : Nat → Prop := fun q => ∃ c, 1 ≤ c ∧ c ≤ n ∧ q = ad c
def jx_inj (ad : Nat → Nat) (n : Nat) : Prop := ∀ c c', 1 ≤ c → c ≤ n → 1 ≤ c' → c' ≤ n → ad c = ad c' → c = c'
theorem jx_wl_at {ad : Nat → Nat} {cA : ClassId × ClassId × ClassId} {G : jxG} {n : Nat} {M : jxM} {c : Nat} (h1 : 1 ≤ c) (h2 : c ≤ n) : (jx_wl ad cA G n M)[c - 1]? = some (ad c, jx_ent ad cA G M c) := by
  unfold jx_wl
  rw [List.getElem?_map, List.getElem?_range (by omega)]
  simp only [Option.map_some]
  rw [Nat.sub_add_cancel h1]
theorem jx_wl_set {ad : Nat → Nat} {cA : ClassId × ClassId × ClassId} {G : jxG} {n : Nat} {M M' : jxM} {c : Nat} (h1 : 1 ≤ c) (_h2 : c ≤ n) (hM : ∀ c' x, c' ≠ c → M' c' x = M c' x) : (jx_wl ad cA G n M).set (c - 1) (ad c, jx_ent ad cA G M' c) = jx_wl ad cA G n M' := by
  unfold jx_wl
  apply List.ext_getElem?
  intro k
  rw [List.getElem?_set]
  by_cases hk : c - 1 = k
  · rw [if_pos hk]
    subst hk
    rw [List.length_map, List.length_range, if_pos (by omega), List.getElem?_map, List.getElem?_range (by omega)]
    simp only [Option.map_some]
    rw [Nat.sub_add_cancel h1]
  · rw [if_neg hk, List.getElem?_map, List.getElem?_map]
    by_cases hn : k < n
    · rw [List.getElem?_range hn]
      simp only [Option.map_some]
      have e : jx_ent ad cA G M (k + 1) = jx_ent ad cA G M' (k + 1) := by
        unfold jx_ent
        have : ∀ x, M' (k + 1) x = M (k + 1) x := fun x => hM (k + 1) x (by omega)
        simp only [this]
      rw [e]
    · rw [List.getElem?_eq_none (by simpa using hn)]
      rfl
theorem jx_D {ad : Nat → Nat} {cA : ClassId × ClassId × ClassId} {G : jxG} {n : Nat} {M : jxM} (hi : jx_inj ad n) : va_D (jx_A ad n) (jx_wl ad cA G n M) := by
  have key : ∀ (k : Nat) (q : Nat × va_E), (jx_wl ad cA G n M)[k]? = some q → k < n ∧ q.1 = ad (k + 1) := by
    intro k q h
    unfold jx_wl at h
    rw [List.getElem?_map] at h
    by_cases hk : k < n
    · rw [List.getElem?_range hk] at h
      simp only [Option.map_some, Option.some.injEq] at h
      exact ⟨hk, by rw [← h]⟩
    · rw [List.getElem?_eq_none (by simpa using hk)] at h
      cases h
  refine ⟨fun i j p q hp hq h => ?_, fun k q h => ?_⟩
  · obtain ⟨a1, a2⟩ := key i p hp
    obtain ⟨b1, b2⟩ := key j q hq
    have := hi (i + 1) (j + 1) (by omega) (by omega) (by omega) (by omega) (by rw [← a2, ← b2]; exact h)
    omega
  · obtain ⟨a1, a2⟩ := key k q h
    exact ⟨k + 1, by omega, by omega, a2⟩
theorem jx_i_add (x y : Int) : Int32.ofInt x + Int32.ofInt y = Int32.ofInt (x + y) := (Int32.ofInt_add x y).symm
theorem jx_i_sub (x y : Int) : Int32.ofInt x - Int32.ofInt y = Int32.ofInt (x - y) := (Int32.ofInt_sub x y).symm
theorem jx_i_mul (x y : Int) : Int32.ofInt x * Int32.ofInt y = Int32.ofInt (x * y) := (Int32.ofInt_mul x y).symm
theorem jx_i_to {x : Int} (h : jx_r x) : (Int32.ofInt x).toInt = x := by
  obtain ⟨h1, h2⟩ := h
  exact Int32.toInt_ofInt_of_le (by omega) (by omega)
theorem jx_i_lt {x y : Int} (hx : jx_r x) (hy : jx_r y) : Int32.ofInt x < Int32.ofInt y ↔ x < y := by
  rw [Int32.lt_iff_toInt_lt, jx_i_to hx, jx_i_to hy]
theorem jx_i_le {x y : Int} (hx : jx_r x) (hy : jx_r y) : Int32.ofInt x ≤ Int32.ofInt y ↔ x ≤ y := by
  rw [Int32.le_iff_toInt_le, jx_i_to hx, jx_i_to hy]
theorem jx_i_eq {x y : Int} (hx : jx_r x) (hy : jx_r y) : Int32.ofInt x = Int32.ofInt y ↔ x = y := by
  rw [← Int32.toInt_inj, jx_i_to hx, jx_i_to hy]
theorem jx_i_cl {x : Int} (hx : jx_r x) : (Int32.ofInt x).toNatClampNeg = x.toNat := by
  show (Int32.ofInt x).toInt.toNat = x.toNat
  rw [jx_i_to hx]
theorem jx_i_in {x : Int} {n : Nat} (hx : jx_r x) (h0 : 0 ≤ x) (h1 : x < (n : Int)) : vp_in (Int32.ofInt x) n := by
  unfold vp_in
  rw [jx_i_cl hx]
  intro h
  rcases h with h | h
  · rw [show (0 : Int32) = Int32.ofInt 0 from rfl, jx_i_lt hx (by unfold jx_r; omega)] at h
    omega
  · omega
theorem jx_i_div {x y : Int} (hx : jx_r x) (hy : jx_r y) (h0 : 0 ≤ x) (h1 : 0 < y) : Int32.ofInt x / Int32.ofInt y = Int32.ofInt (x / y) := by
  have hq : x / y ≤ x := Int.ediv_le_self y h0
  have hq0 : 0 ≤ x / y := Int.ediv_nonneg h0 (by omega)
  rw [← Int32.toInt_inj, Int32.toInt_div, jx_i_to hx, jx_i_to hy, jx_i_to (by unfold jx_r at *; omega), Int.tdiv_eq_ediv_of_nonneg h0]
  rw [Int.bmod_eq_of_le (by unfold jx_r at *; omega) (by unfold jx_r at *; omega)]
theorem jx_i_rem {x y : Int} (hx : jx_r x) (hy : jx_r y) (h0 : 0 ≤ x) (h1 : 0 < y) : Int32.ofInt x - Int32.ofInt x / Int32.ofInt y * Int32.ofInt y = Int32.ofInt (x % y) := by
  rw [jx_i_div hx hy h0 h1, jx_i_mul, jx_i_sub]
  congr 1
  have := Int.emod_def x y
  rw [this, Int.mul_comm y]
