/-! A PURE MACHINE over a fixed set of cells: a value is an int or a cell's number (0: not known); a memory gives each cell's places; an instruction is (op, a, b, n). -/
abbrev jxV : Type := Int ⊕ Nat
abbrev jxM : Type := Nat → Int → Int
abbrev jxI : Type := Nat × Nat × Nat × Int
abbrev jxG : Type := (Nat → Nat × Nat) × (Nat → Nat → Nat)
abbrev jxK : Type := Option jxV → jxM → Prop
abbrev jxX : Type := Nat → List jxV → List jxV → jxM → Prop
def jx_ok : jxV → Bool
  | .inl _ => true
  | .inr 0 => false
  | .inr (_ + 1) => true
abbrev jx_r (x : Int) : Prop := -2147483648 ≤ x ∧ x ≤ 2147483647
def jx_up (M : jxM) (c : Nat) (x v : Int) : jxM := fun c' x' => if c' = c ∧ x' = x then v else M c' x'
def jx_cp (M : jxM) (a : Nat) (sp : Int) (b : Nat) (dp n : Int) : jxM := fun c x => if c = b ∧ dp ≤ x ∧ x < dp + n then M a (sp + (x - dp)) else M c x
def jx_cmp (k : Nat) (x y : Int) : Prop := match k with
  | 0 => x = y
  | 1 => x ≠ y
  | 2 => x < y
  | 3 => y ≤ x
  | 4 => y < x
  | _ => x ≤ y
def jx_stp (G : jxG) (d : Nat) (C : Nat → List jxV → jxM → jxK → Prop) (K : jxK) (X : jxX) (i : jxI) (pc : Nat) (ls st : List jxV) (M : jxM) : Prop :=
  match i with
  | (0, _, _, n) => jx_r n ∧ X (pc + 1) ls (.inl n :: st) M
  | (1, a, 0, _) => ∃ x, ls[a]? = some (.inl x) ∧ X (pc + 1) ls (.inl x :: st) M
  | (1, a, _, _) => ∃ c, ls[a]? = some (.inr (c + 1)) ∧ X (pc + 1) ls (.inr (c + 1) :: st) M
  | (2, a, 0, _) => ∃ x r, st = .inl x :: r ∧ a < ls.length ∧ X (pc + 1) (ls.set a (.inl x)) r M
  | (2, a, _, _) => ∃ c r, st = .inr c :: r ∧ a < ls.length ∧ X (pc + 1) (ls.set a (.inr c)) r M
  | (3, a, _, n) => ∃ x, ls[a]? = some (.inl x) ∧ jx_r (x + n) ∧ X (pc + 1) (ls.set a (.inl (x + n))) st M
  | (4, _, _, _) => ∃ x y r, st = .inl y :: .inl x :: r ∧ jx_r (x + y) ∧ X (pc + 1) ls (.inl (x + y) :: r) M
  | (5, _, _, _) => ∃ x y r, st = .inl y :: .inl x :: r ∧ jx_r (x - y) ∧ X (pc + 1) ls (.inl (x - y) :: r) M
  | (6, _, _, _) => ∃ x y r, st = .inl y :: .inl x :: r ∧ jx_r (x * y) ∧ X (pc + 1) ls (.inl (x * y) :: r) M
  | (7, _, _, _) => ∃ x y r, st = .inl y :: .inl x :: r ∧ 0 ≤ x ∧ 0 < y ∧ X (pc + 1) ls (.inl (x / y) :: r) M
  | (8, _, _, _) => ∃ x y r, st = .inl y :: .inl x :: r ∧ 0 ≤ x ∧ 0 < y ∧ X (pc + 1) ls (.inl (x % y) :: r) M
  | (9, _, _, _) => ∃ v r, st = v :: r ∧ X (pc + 1) ls (v :: v :: r) M
  | (10, _, _, _) => ∃ v w r, st = v :: w :: r ∧ X (pc + 1) ls (v :: w :: v :: w :: r) M
  | (11, a, _, _) => X a ls st M
  | (12, a, b, _) => ∃ x r, st = .inl x :: r ∧ (jx_cmp b x 0 → X a ls r M) ∧ (¬ jx_cmp b x 0 → X (pc + 1) ls r M)
  | (13, a, b, _) => ∃ x y r, st = .inl y :: .inl x :: r ∧ (jx_cmp b x y → X a ls r M) ∧ (¬ jx_cmp b x y → X (pc + 1) ls r M)
  | (14, a, b, _) => ∃ c r, st = .inr c :: r ∧ G.1 c = (0, a) ∧ X (pc + 1) ls ((if G.2 c b = 0 then .inl (M c b) else .inr (G.2 c b)) :: r) M
  | (15, a, b, n) => ∃ c v r, st = .inl v :: .inr c :: r ∧ G.1 c = (0, a) ∧ G.2 c b = 0 ∧ (n = 1 → v = 0 ∨ v = 1) ∧ X (pc + 1) ls r (jx_up M c b v)
  | (16, _, _, _) => ∃ c x n r, st = .inl x :: .inr c :: r ∧ G.1 c = (1, n) ∧ 0 ≤ x ∧ x < (n : Int) ∧ X (pc + 1) ls (.inl (M c x) :: r) M
  | (17, _, _, _) => ∃ c x v n r, st = .inl v :: .inl x :: .inr c :: r ∧ G.1 c = (1, n) ∧ 0 ≤ x ∧ x < (n : Int) ∧ X (pc + 1) ls r (jx_up M c x v)
  | (18, _, _, _) => ∃ c n r, st = .inr c :: r ∧ G.1 c = (1, n) ∧ X (pc + 1) ls (.inl (n : Int) :: r) M
  | (19, _, _, _) => ∃ c x n r, st = .inl x :: .inr c :: r ∧ G.1 c = (3, n) ∧ 0 ≤ x ∧ x < (n : Int) ∧ X (pc + 1) ls (.inr (G.2 c x.toNat) :: r) M
  | (20, _, _, _) => ∃ c x n r, st = .inl x :: .inr c :: r ∧ G.1 c = (2, n) ∧ 0 ≤ x ∧ x < (n : Int) ∧ X (pc + 1) ls (.inl (M c x) :: r) M
  | (21, _, _, _) => ∃ c x v n r, st = .inl v :: .inl x :: .inr c :: r ∧ G.1 c = (2, n) ∧ 0 ≤ x ∧ x < (n : Int) ∧ (v = 0 ∨ v = 1) ∧ X (pc + 1) ls r (jx_up M c x v)
  | (22, _, _, _) => ∃ c r, st = .inr c :: r ∧ X (pc + 1) ls r M
  | (23, a, _, _) => ∃ c r, st = .inr c :: r ∧ X a ls r M
  | (24, a, b, _) => b ≤ st.length ∧ st.length ≤ b + 8 ∧ C a (st.take b).reverse M (fun r M' => X (pc + 1) ls (r.toList ++ st.drop b) M')
  | (25, a, b, n) => b + 1 ≤ st.length ∧ st.length ≤ b + 1 + 8 ∧ (∃ c, st[b]? = some (.inr c) ∧ G.1 c = (0, n.toNat)) ∧ C a (st.take (b + 1)).reverse M (fun r M' => X (pc + 1) ls (r.toList ++ st.drop (b + 1)) M')
  | (26, _, _, _) => 1 ≤ d ∧ ∃ n dp c sp a n0 n1 r, st = .inl n :: .inl dp :: .inr c :: .inl sp :: .inr a :: r ∧ r.length ≤ 8 ∧ G.1 a = (1, n0) ∧ G.1 c = (1, n1) ∧ 0 ≤ sp ∧ 0 ≤ dp ∧ 0 ≤ n ∧ sp + n ≤ (n0 : Int) ∧ dp + n ≤ (n1 : Int) ∧ X (pc + 1) ls r (jx_cp M a sp c dp n)
  | (27, a, _, _) => ∃ v, st = [.inl v] ∧ (a = 1 → v = 0 ∨ v = 1) ∧ K (some (.inl v)) M
  | (28, _, _, _) => st = [] ∧ K none M
  | (29, _, _, _) => ∃ c, st = [.inr c] ∧ K (some (.inr c)) M
  | (30, _, _, _) => 1 ≤ d ∧ ∃ x y r, st = .inl y :: .inl x :: r ∧ r.length ≤ 8 ∧ X (pc + 1) ls (.inl (if x < y then y else x) :: r) M
  | (31, _, _, _) => 1 ≤ d ∧ ∃ x y r, st = .inl y :: .inl x :: r ∧ r.length ≤ 8 ∧ X (pc + 1) ls (.inl (if y < x then y else x) :: r) M
  | _ => False
/-- X is closed under the code's steps, and under forgetting a local -/
def jx_clo (G : jxG) (d : Nat) (C : Nat → List jxV → jxM → jxK → Prop) (T : List jxI) (K : jxK) (X : jxX) : Prop :=
  (∀ pc ls st M i, T[pc]? = some i → jx_stp G d C K X i pc ls st M → X pc ls st M) ∧ (∀ pc ls st M a, X pc (ls.set a (.inr 0)) st M → X pc ls st M)
/-- a call that comes back, within d frames, with K of its answer and the memory -/
def jx_call (G : jxG) (T : Nat → Nat × List jxI) : Nat → Nat → List jxV → jxM → jxK → Prop
  | 0, _, _, _, _ => False
  | d + 1, y, as, M, K => ∀ X : jxX, jx_clo G d (jx_call G T d) (T y).2 K X → X 0 (as ++ List.replicate ((T y).1 - as.length) (.inr 0)) [] M
section JX
variable {G : jxG} {d : Nat} {C : Nat → List jxV → jxM → jxK → Prop} {T : List jxI} {K : jxK} {X : jxX} {pc : Nat} {ls st : List jxV} {M : jxM} {a b : Nat} {n : Int}
theorem jk_const (hX : jx_clo G d C T K X) (n : Int) (h : T[pc]? = some (0, 0, 0, n)) (hr : jx_r n) (k : X (pc + 1) ls (.inl n :: st) M) : X pc ls st M := hX.1 _ _ _ _ _ h ⟨hr, k⟩
theorem jk_load (hX : jx_clo G d C T K X) (a : Nat) {x : Int} (h : T[pc]? = some (1, a, 0, 0)) (hl : ls[a]? = some (.inl x)) (k : X (pc + 1) ls (.inl x :: st) M) : X pc ls st M := hX.1 _ _ _ _ _ h ⟨x, hl, k⟩
theorem jk_aload (hX : jx_clo G d C T K X) (a : Nat) {c : Nat} (h : T[pc]? = some (1, a, 1, 0)) (hl : ls[a]? = some (.inr (c + 1))) (k : X (pc + 1) ls (.inr (c + 1) :: st) M) : X pc ls st M := hX.1 _ _ _ _ _ h ⟨c, hl, k⟩
theorem jk_store (hX : jx_clo G d C T K X) (a : Nat) {x : Int} (h : T[pc]? = some (2, a, 0, 0)) (hl : a < ls.length) {ls' : List jxV} (he : ls.set a (.inl x) = ls') (k : X (pc + 1) ls' st M) : X pc ls (.inl x :: st) M := hX.1 _ _ _ _ _ h ⟨x, st, rfl, hl, by rw [he]; exact k⟩
theorem jk_astore (hX : jx_clo G d C T K X) (a : Nat) {c : Nat} (h : T[pc]? = some (2, a, 1, 0)) (hl : a < ls.length) {ls' : List jxV} (he : ls.set a (.inr c) = ls') (k : X (pc + 1) ls' st M) : X pc ls (.inr c :: st) M := hX.1 _ _ _ _ _ h ⟨c, st, rfl, hl, by rw [he]; exact k⟩
theorem jk_iinc (hX : jx_clo G d C T K X) (a : Nat) (n : Int) {x : Int} (h : T[pc]? = some (3, a, 0, n)) (hl : ls[a]? = some (.inl x)) (hr : jx_r (x + n)) {ls' : List jxV} (he : ls.set a (.inl (x + n)) = ls') (k : X (pc + 1) ls' st M) : X pc ls st M := hX.1 _ _ _ _ _ h ⟨x, hl, hr, by rw [he]; exact k⟩
theorem jk_add (hX : jx_clo G d C T K X) {x y : Int} (h : T[pc]? = some (4, 0, 0, 0)) (hr : jx_r (x + y)) (k : X (pc + 1) ls (.inl (x + y) :: st) M) : X pc ls (.inl y :: .inl x :: st) M := hX.1 _ _ _ _ _ h ⟨x, y, st, rfl, hr, k⟩
theorem jk_sub (hX : jx_clo G d C T K X) {x y : Int} (h : T[pc]? = some (5, 0, 0, 0)) (hr : jx_r (x - y)) (k : X (pc + 1) ls (.inl (x - y) :: st) M) : X pc ls (.inl y :: .inl x :: st) M := hX.1 _ _ _ _ _ h ⟨x, y, st, rfl, hr, k⟩
theorem jk_mul (hX : jx_clo G d C T K X) {x y : Int} (h : T[pc]? = some (6, 0, 0, 0)) (hr : jx_r (x * y)) (k : X (pc + 1) ls (.inl (x * y) :: st) M) : X pc ls (.inl y :: .inl x :: st) M := hX.1 _ _ _ _ _ h ⟨x, y, st, rfl, hr, k⟩
theorem jk_div (hX : jx_clo G d C T K X) {x y : Int} (h : T[pc]? = some (7, 0, 0, 0)) (h1 : 0 ≤ x) (h2 : 0 < y) (k : X (pc + 1) ls (.inl (x / y) :: st) M) : X pc ls (.inl y :: .inl x :: st) M := hX.1 _ _ _ _ _ h ⟨x, y, st, rfl, h1, h2, k⟩
theorem jk_rem (hX : jx_clo G d C T K X) {x y : Int} (h : T[pc]? = some (8, 0, 0, 0)) (h1 : 0 ≤ x) (h2 : 0 < y) (k : X (pc + 1) ls (.inl (x % y) :: st) M) : X pc ls (.inl y :: .inl x :: st) M := hX.1 _ _ _ _ _ h ⟨x, y, st, rfl, h1, h2, k⟩
theorem jk_dup (hX : jx_clo G d C T K X) {v : jxV} (h : T[pc]? = some (9, 0, 0, 0)) (k : X (pc + 1) ls (v :: v :: st) M) : X pc ls (v :: st) M := hX.1 _ _ _ _ _ h ⟨v, st, rfl, k⟩
theorem jk_dup2 (hX : jx_clo G d C T K X) {v w : jxV} (h : T[pc]? = some (10, 0, 0, 0)) (k : X (pc + 1) ls (v :: w :: v :: w :: st) M) : X pc ls (v :: w :: st) M := hX.1 _ _ _ _ _ h ⟨v, w, st, rfl, k⟩
theorem jk_goto (hX : jx_clo G d C T K X) (a : Nat) (h : T[pc]? = some (11, a, 0, 0)) (k : X a ls st M) : X pc ls st M := hX.1 _ _ _ _ _ h k
theorem jk_zeq (hX : jx_clo G d C T K X) (a : Nat) {x : Int} (h : T[pc]? = some (12, a, 0, 0)) (k1 : x = 0 → X a ls st M) (k2 : x ≠ 0 → X (pc + 1) ls st M) : X pc ls (.inl x :: st) M := hX.1 _ _ _ _ _ h ⟨x, st, rfl, k1, k2⟩
theorem jk_zne (hX : jx_clo G d C T K X) (a : Nat) {x : Int} (h : T[pc]? = some (12, a, 1, 0)) (k1 : x ≠ 0 → X a ls st M) (k2 : x = 0 → X (pc + 1) ls st M) : X pc ls (.inl x :: st) M := hX.1 _ _ _ _ _ h ⟨x, st, rfl, k1, fun q => k2 (Decidable.not_not.mp q)⟩
theorem jk_zlt (hX : jx_clo G d C T K X) (a : Nat) {x : Int} (h : T[pc]? = some (12, a, 2, 0)) (k1 : x < 0 → X a ls st M) (k2 : 0 ≤ x → X (pc + 1) ls st M) : X pc ls (.inl x :: st) M := hX.1 _ _ _ _ _ h ⟨x, st, rfl, k1, fun q => k2 (Int.not_lt.mp q)⟩
theorem jk_zge (hX : jx_clo G d C T K X) (a : Nat) {x : Int} (h : T[pc]? = some (12, a, 3, 0)) (k1 : 0 ≤ x → X a ls st M) (k2 : x < 0 → X (pc + 1) ls st M) : X pc ls (.inl x :: st) M := hX.1 _ _ _ _ _ h ⟨x, st, rfl, k1, fun q => k2 (Int.not_le.mp q)⟩
theorem jk_zgt (hX : jx_clo G d C T K X) (a : Nat) {x : Int} (h : T[pc]? = some (12, a, 4, 0)) (k1 : 0 < x → X a ls st M) (k2 : x ≤ 0 → X (pc + 1) ls st M) : X pc ls (.inl x :: st) M := hX.1 _ _ _ _ _ h ⟨x, st, rfl, k1, fun q => k2 (Int.not_lt.mp q)⟩
theorem jk_zle (hX : jx_clo G d C T K X) (a : Nat) {x : Int} (h : T[pc]? = some (12, a, 5, 0)) (k1 : x ≤ 0 → X a ls st M) (k2 : 0 < x → X (pc + 1) ls st M) : X pc ls (.inl x :: st) M := hX.1 _ _ _ _ _ h ⟨x, st, rfl, k1, fun q => k2 (Int.not_le.mp q)⟩
theorem jk_ceq (hX : jx_clo G d C T K X) (a : Nat) {x y : Int} (h : T[pc]? = some (13, a, 0, 0)) (k1 : x = y → X a ls st M) (k2 : x ≠ y → X (pc + 1) ls st M) : X pc ls (.inl y :: .inl x :: st) M := hX.1 _ _ _ _ _ h ⟨x, y, st, rfl, k1, k2⟩
theorem jk_cne (hX : jx_clo G d C T K X) (a : Nat) {x y : Int} (h : T[pc]? = some (13, a, 1, 0)) (k1 : x ≠ y → X a ls st M) (k2 : x = y → X (pc + 1) ls st M) : X pc ls (.inl y :: .inl x :: st) M := hX.1 _ _ _ _ _ h ⟨x, y, st, rfl, k1, fun q => k2 (Decidable.not_not.mp q)⟩
theorem jk_clt (hX : jx_clo G d C T K X) (a : Nat) {x y : Int} (h : T[pc]? = some (13, a, 2, 0)) (k1 : x < y → X a ls st M) (k2 : y ≤ x → X (pc + 1) ls st M) : X pc ls (.inl y :: .inl x :: st) M := hX.1 _ _ _ _ _ h ⟨x, y, st, rfl, k1, fun q => k2 (Int.not_lt.mp q)⟩
theorem jk_cge (hX : jx_clo G d C T K X) (a : Nat) {x y : Int} (h : T[pc]? = some (13, a, 3, 0)) (k1 : y ≤ x → X a ls st M) (k2 : x < y → X (pc + 1) ls st M) : X pc ls (.inl y :: .inl x :: st) M := hX.1 _ _ _ _ _ h ⟨x, y, st, rfl, k1, fun q => k2 (Int.not_le.mp q)⟩
theorem jk_cgt (hX : jx_clo G d C T K X) (a : Nat) {x y : Int} (h : T[pc]? = some (13, a, 4, 0)) (k1 : y < x → X a ls st M) (k2 : x ≤ y → X (pc + 1) ls st M) : X pc ls (.inl y :: .inl x :: st) M := hX.1 _ _ _ _ _ h ⟨x, y, st, rfl, k1, fun q => k2 (Int.not_lt.mp q)⟩
theorem jk_cle (hX : jx_clo G d C T K X) (a : Nat) {x y : Int} (h : T[pc]? = some (13, a, 5, 0)) (k1 : x ≤ y → X a ls st M) (k2 : y < x → X (pc + 1) ls st M) : X pc ls (.inl y :: .inl x :: st) M := hX.1 _ _ _ _ _ h ⟨x, y, st, rfl, k1, fun q => k2 (Int.not_le.mp q)⟩
theorem jk_getI (hX : jx_clo G d C T K X) (a b : Nat) {c : Nat} (h : T[pc]? = some (14, a, b, 0)) (h1 : G.1 c = (0, a)) (h2 : G.2 c b = 0) (k : X (pc + 1) ls (.inl (M c b) :: st) M) : X pc ls (.inr c :: st) M := hX.1 _ _ _ _ _ h ⟨c, st, rfl, h1, by rw [if_pos h2]; exact k⟩
theorem jk_getR (hX : jx_clo G d C T K X) (a b : Nat) {c r : Nat} (h : T[pc]? = some (14, a, b, 0)) (h1 : G.1 c = (0, a)) (h2 : G.2 c b = r + 1) (k : X (pc + 1) ls (.inr (r + 1) :: st) M) : X pc ls (.inr c :: st) M := hX.1 _ _ _ _ _ h ⟨c, st, rfl, h1, by rw [if_neg (by rw [h2]; exact Nat.succ_ne_zero r), h2]; exact k⟩
theorem jk_put (hX : jx_clo G d C T K X) (a b : Nat) {c : Nat} {v : Int} (h : T[pc]? = some (15, a, b, 0)) (h1 : G.1 c = (0, a)) (h2 : G.2 c b = 0) (k : X (pc + 1) ls st (jx_up M c b v)) : X pc ls (.inl v :: .inr c :: st) M := hX.1 _ _ _ _ _ h ⟨c, v, st, rfl, h1, h2, fun q => absurd q (by decide), k⟩
theorem jk_putZ (hX : jx_clo G d C T K X) (a b : Nat) {c : Nat} {v : Int} (h : T[pc]? = some (15, a, b, 1)) (h1 : G.1 c = (0, a)) (h2 : G.2 c b = 0) (h3 : v = 0 ∨ v = 1) (k : X (pc + 1) ls st (jx_up M c b v)) : X pc ls (.inl v :: .inr c :: st) M := hX.1 _ _ _ _ _ h ⟨c, v, st, rfl, h1, h2, fun _ => h3, k⟩
theorem jk_iald (hX : jx_clo G d C T K X) {c : Nat} {x : Int} (n : Nat) (h : T[pc]? = some (16, 0, 0, 0)) (h1 : G.1 c = (1, n)) (h2 : 0 ≤ x ∧ x < (n : Int)) (k : X (pc + 1) ls (.inl (M c x) :: st) M) : X pc ls (.inl x :: .inr c :: st) M := hX.1 _ _ _ _ _ h ⟨c, x, n, st, rfl, h1, h2.1, h2.2, k⟩
theorem jk_iast (hX : jx_clo G d C T K X) {c : Nat} {x v : Int} (n : Nat) (h : T[pc]? = some (17, 0, 0, 0)) (h1 : G.1 c = (1, n)) (h2 : 0 ≤ x ∧ x < (n : Int)) (k : X (pc + 1) ls st (jx_up M c x v)) : X pc ls (.inl v :: .inl x :: .inr c :: st) M := hX.1 _ _ _ _ _ h ⟨c, x, v, n, st, rfl, h1, h2.1, h2.2, k⟩
theorem jk_alen (hX : jx_clo G d C T K X) {c : Nat} (n : Nat) (h : T[pc]? = some (18, 0, 0, 0)) (h1 : G.1 c = (1, n)) (k : X (pc + 1) ls (.inl (n : Int) :: st) M) : X pc ls (.inr c :: st) M := hX.1 _ _ _ _ _ h ⟨c, n, st, rfl, h1, k⟩
theorem jk_aald (hX : jx_clo G d C T K X) {c : Nat} {x : Int} (n : Nat) (h : T[pc]? = some (19, 0, 0, 0)) (h1 : G.1 c = (3, n)) (h2 : 0 ≤ x ∧ x < (n : Int)) (k : X (pc + 1) ls (.inr (G.2 c x.toNat) :: st) M) : X pc ls (.inl x :: .inr c :: st) M := hX.1 _ _ _ _ _ h ⟨c, x, n, st, rfl, h1, h2.1, h2.2, k⟩
theorem jk_zald (hX : jx_clo G d C T K X) {c : Nat} {x : Int} (n : Nat) (h : T[pc]? = some (20, 0, 0, 0)) (h1 : G.1 c = (2, n)) (h2 : 0 ≤ x ∧ x < (n : Int)) (k : X (pc + 1) ls (.inl (M c x) :: st) M) : X pc ls (.inl x :: .inr c :: st) M := hX.1 _ _ _ _ _ h ⟨c, x, n, st, rfl, h1, h2.1, h2.2, k⟩
theorem jk_zast (hX : jx_clo G d C T K X) {c : Nat} {x v : Int} (n : Nat) (h : T[pc]? = some (21, 0, 0, 0)) (h1 : G.1 c = (2, n)) (h2 : 0 ≤ x ∧ x < (n : Int)) (h3 : v = 0 ∨ v = 1) (k : X (pc + 1) ls st (jx_up M c x v)) : X pc ls (.inl v :: .inl x :: .inr c :: st) M := hX.1 _ _ _ _ _ h ⟨c, x, v, n, st, rfl, h1, h2.1, h2.2, h3, k⟩
theorem jk_ifnull (hX : jx_clo G d C T K X) (a : Nat) {c : Nat} (h : T[pc]? = some (22, a, 0, 0)) (k : X (pc + 1) ls st M) : X pc ls (.inr c :: st) M := hX.1 _ _ _ _ _ h ⟨c, st, rfl, k⟩
theorem jk_ifnonnull (hX : jx_clo G d C T K X) (a : Nat) {c : Nat} (h : T[pc]? = some (23, a, 0, 0)) (k : X a ls st M) : X pc ls (.inr c :: st) M := hX.1 _ _ _ _ _ h ⟨c, st, rfl, k⟩
theorem jk_cs (hX : jx_clo G d C T K X) (a b : Nat) (h : T[pc]? = some (24, a, b, 0)) (as rest : List jxV) (hs : st = as.reverse ++ rest) (hb : as.length = b) (hl : rest.length ≤ 8) (k : C a as M (fun r M' => X (pc + 1) ls (r.toList ++ rest) M')) : X pc ls st M := by
  refine hX.1 _ _ _ _ _ h ⟨?_, ?_, ?_⟩
  · rw [hs]; simp [hb]
  · rw [hs]; simp [hb]; omega
  · have e1 : st.take b = as.reverse := by rw [hs, ← hb, ← List.length_reverse]; exact List.take_left
    have e2 : st.drop b = rest := by rw [hs, ← hb, ← List.length_reverse]; exact List.drop_left
    rw [e1, e2, List.reverse_reverse]
    exact k
theorem jk_cv (hX : jx_clo G d C T K X) (a b : Nat) (n : Nat) (h : T[pc]? = some (25, a, b, (n : Int))) (c : Nat) (as rest : List jxV) (hs : st = as.reverse ++ .inr c :: rest) (hb : as.length = b) (hc : G.1 c = (0, n)) (hl : rest.length ≤ 8) (k : C a (.inr c :: as) M (fun r M' => X (pc + 1) ls (r.toList ++ rest) M')) : X pc ls st M := by
  have hb' : as.reverse.length = b := by rw [List.length_reverse]; exact hb
  refine hX.1 _ _ _ _ _ h ⟨?_, ?_, ⟨c, ?_, ?_⟩, ?_⟩
  · rw [hs]; simp [hb]
  · rw [hs]; simp [hb]; omega
  · rw [hs, List.getElem?_append_right (by omega), hb']; simp
  · exact hc
  · have e0 : as.reverse ++ Sum.inr c :: rest = (as.reverse ++ [Sum.inr c]) ++ rest := by simp
    have e3 : (as.reverse ++ [(Sum.inr c : jxV)]).length = b + 1 := by simp [hb]
    have e1 : st.take (b + 1) = as.reverse ++ [Sum.inr c] := by rw [hs, e0, ← e3]; exact List.take_left
    have e2 : st.drop (b + 1) = rest := by rw [hs, e0, ← e3]; exact List.drop_left
    rw [e1, e2, List.reverse_append, List.reverse_reverse]
    exact k
theorem jk_copy (hX : jx_clo G d C T K X) {n dp sp : Int} {c a : Nat} (n0 n1 : Nat) (h : T[pc]? = some (26, 0, 0, 0)) (hd : 1 ≤ d) (hl : st.length ≤ 8) (h1 : G.1 a = (1, n0)) (h2 : G.1 c = (1, n1)) (h3 : 0 ≤ sp ∧ 0 ≤ dp ∧ 0 ≤ n ∧ sp + n ≤ (n0 : Int) ∧ dp + n ≤ (n1 : Int)) (k : X (pc + 1) ls st (jx_cp M a sp c dp n)) : X pc ls (.inl n :: .inl dp :: .inr c :: .inl sp :: .inr a :: st) M :=
  hX.1 _ _ _ _ _ h ⟨hd, n, dp, c, sp, a, n0, n1, st, rfl, hl, h1, h2, h3.1, h3.2.1, h3.2.2.1, h3.2.2.2.1, h3.2.2.2.2, k⟩
theorem jk_max (hX : jx_clo G d C T K X) {x y : Int} (h : T[pc]? = some (30, 0, 0, 0)) (hd : 1 ≤ d) (hl : st.length ≤ 8) (k : X (pc + 1) ls (.inl (max x y) :: st) M) : X pc ls (.inl y :: .inl x :: st) M :=
  hX.1 _ _ _ _ _ h ⟨hd, x, y, st, rfl, hl, by rw [show (if x < y then y else x) = max x y by omega]; exact k⟩
theorem jk_min (hX : jx_clo G d C T K X) {x y : Int} (h : T[pc]? = some (31, 0, 0, 0)) (hd : 1 ≤ d) (hl : st.length ≤ 8) (k : X (pc + 1) ls (.inl (min x y) :: st) M) : X pc ls (.inl y :: .inl x :: st) M :=
  hX.1 _ _ _ _ _ h ⟨hd, x, y, st, rfl, hl, by rw [show (if y < x then y else x) = min x y by omega]; exact k⟩
theorem jk_iret (hX : jx_clo G d C T K X) {v : Int} (h : T[pc]? = some (27, 0, 0, 0)) (k : K (some (.inl v)) M) : X pc ls [.inl v] M := hX.1 _ _ _ _ _ h ⟨v, rfl, fun q => absurd q (by decide), k⟩
theorem jk_zret (hX : jx_clo G d C T K X) {v : Int} (h : T[pc]? = some (27, 1, 0, 0)) (hv : v = 0 ∨ v = 1) (k : K (some (.inl v)) M) : X pc ls [.inl v] M := hX.1 _ _ _ _ _ h ⟨v, rfl, fun _ => hv, k⟩
theorem jk_vret (hX : jx_clo G d C T K X) (h : T[pc]? = some (28, 0, 0, 0)) (k : K none M) : X pc ls [] M := hX.1 _ _ _ _ _ h ⟨rfl, k⟩
theorem jk_aret (hX : jx_clo G d C T K X) {c : Nat} (h : T[pc]? = some (29, 0, 0, 0)) (k : K (some (.inr c)) M) : X pc ls [.inr c] M := hX.1 _ _ _ _ _ h ⟨c, rfl, k⟩
theorem jk_forget (hX : jx_clo G d C T K X) (a : Nat) {ls' : List jxV} (he : ls.set a (.inr 0) = ls') (k : X pc ls' st M) : X pc ls st M := hX.2 _ _ _ _ a (by rw [he]; exact k)
end JX
