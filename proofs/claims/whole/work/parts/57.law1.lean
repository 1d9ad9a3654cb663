/-! A CALL OUT OF THE LAW: one of the two objects' methods, over the pure machine; the other object's cells stay -/
section JL
variable {p : Program} {l : Launch} {e : Env} {s : State} {m : MethodId} {args : Array Value} {below : List Frame} {meth : Method} {c : Code} {Q : State → Prop}
variable {D : va_G} {ad : Nat → Nat} {cA : ClassId × ClassId × ClassId} {G : jxG} {n : Nat} {H : Heap} {locs : List Loc} {cells slots : Nat}
theorem jl_gocall {R : Room} {A : Nat → Prop} {pc : Nat} {la : Array Slot} {rest st0 : List Value} {K' : jxK} {a : Array Value} (hr : va_Run p l e R s m args below meth c H locs cells slots 0 0 (F0 m pc la st0) rest (jx_post D ad cA G n K' a) (jx_A ad n)) (hS : va_S A s.heap H locs) (hA : ∀ q, jx_A ad n q → A q)
    (kk : ∀ (r : Option jxV) (M' : jxM) (H1 : Heap) (locs1 : List Loc), K' r M' → jx_rM M' → va_P D vwCl (jx_wl ad cA G n M') H1 → (∀ q : Nat, q < H.size → ¬ jx_A ad n q → H1[q]? = H[q]?) → va_S A s.heap H1 locs1 → W p l e R s m args below meth c H1 locs1 cells slots Q (F0 m (pc + 3) la ((r.map (jx_v ad)).toList ++ rest))) : W p l e R s m args below meth c H locs cells slots Q (F0 m pc la st0) := by
  intro T hT X
  obtain ⟨v, st₀, t, T', L, h0, X', hL, e1, e2, ⟨⟨r, M', hv, hk, hrv, hrm, hp⟩, hz, hkk⟩, st⟩ := hr T hT X
  have hv : v = r.map (jx_v ad) := Outcome.returned.inj hv
  subst hv
  rw [h0] at hz hkk
  obtain ⟨t2, a1, b1⟩ := kk r M' T'.heap (locs ++ L) hk hrm (by rw [e1]; exact hp) (fun q h1 h2 => by rw [e1]; exact hkk q h1 h2)
    ⟨Nat.le_trans hS.1 (by rw [e1]; exact hz), fun q h1 h2 => by rw [e1, hkk q (Nat.lt_of_lt_of_le h1 hS.1) (fun z => h2 (hA q z))]; exact hS.2.1 q h1 h2, fun q hq => by
      rcases List.mem_append.mp hq with h | h
      · exact hS.2.2 q h
      · exact hA _ (hL q h)⟩ T' rfl X'
  exact ⟨t2, st t2 a1, b1⟩
theorem jl_call (hG : jx_shape G n) (hi : jx_inj ad n) {A : Nat → Prop} (hA : ∀ q, jx_A ad n q → A q) (cx : p.tables.exec = Jvm.exec ∧ c.code = code ∧ c.maxLocals = 4 ∧ s.vm.findClass R_law = some m.cls ∧ ∀ w ∈ jx_gw, w.before args s = true) (hK : va_K D vwCl (jx_ty cA) s) (hN : va_Nw jx_nw s) {y idx x3 : Nat} (hgc : G.1 1 = (0, x3)) (hcn : ∃ q : vw_C, vwCl[x3]? = some q ∧ q.1 = jx_cn x3)
    (hy : y < 128) (hst : jx_st y = false) (hx3 : (jx_m y).2.2.2.2.1 = x3) (hlk : Cond.methodLink R_law idx (jx_m y).1 ∈ jx_gw) {as : List jxV} (has : as.length = (jx_m y).2.2.2.2.2.1) (hast : jx_rl as) {M : jxM} (hM0 : jx_rM M) (hP : va_P D vwCl (jx_wl ad cA G n M) H) (hS : va_S A s.heap H locs) (hcs : cells ≤ 600000 ∧ slots ≤ 7302250) {K' : jxK} (hc : jx_call G jx_T 8 y (.inr 1 :: as) M K')
    {pc : Nat} {la : Array Slot} {rest : List Value} (hsz : la.size = 4) (hrest : (rest.map fun v => v.category).sum ≤ 8) (hdec : decode code pc = .ok (.invokevirtual idx, 3))
    (kk : ∀ (r : Option jxV) (M' : jxM) (H1 : Heap) (locs1 : List Loc), K' r M' → jx_rM M' → va_P D vwCl (jx_wl ad cA G n M') H1 → (∀ q : Nat, q < H.size → ¬ jx_A ad n q → H1[q]? = H[q]?) → va_S A s.heap H1 locs1 → W p l e room_1 s m args below meth c H1 locs1 cells slots Q (F0 m (pc + 3) la ((r.map (jx_v ad)).toList ++ rest))) :
    W p l e room_1 s m args below meth c H locs cells slots Q (F0 m pc la ((as.map (jx_v ad)).reverse ++ .ref (ad 1) :: rest)) := by
  obtain ⟨hx, hb, hml, hown, hts⟩ := cx
  have hmk := jx_mall y hy
  rw [hst] at hmk
  obtain ⟨w1, w2, w3, ⟨w4, w5, w6, w7, w8, w9, w10, w11⟩, w12⟩ := hmk
  have hnp := jx_npok y hy
  rw [hst] at hnp
  have hM := jx_main l D ad cA G n hG hi 7 y (.inr 1 :: as) M K' hy (by rw [List.length_cons, has]; simpa using hnp) hc
  have hast' : jx_rl (.inr 1 :: as) := jx_rl_cons trivial hast
  have hroom : 2 * (F0 m pc la ((as.map (jx_v ad)).reverse ++ .ref (ad 1) :: rest)).monitorRoom + (rest.map fun v => v.category).sum ≤ 8 := lv_room hrest
  have hrec : ∃ cellB : Cell, H[ad 1]? = some cellB ∧ cellB.vm.isStatics = false ∧ s.vm.findClass (jx_m y).1.cls = some cellB.cls := by
    obtain ⟨hc1, hc2⟩ := hG.1 1 (by rw [hgc]; exact Nat.zero_lt_succ 8)
    have hat := jx_wl_at (ad := ad) (cA := cA) (G := G) (M := M) hc1 hc2
    rw [jx_ent0 hgc] at hat
    obtain ⟨q, hq1, hq2⟩ := hcn
    have := va_recv hK hP hq1 hat
    rw [hq2, ← hx3, w8] at this
    exact this
  have hR : (jx_rm 7).frames + 1 ≤ room_1.frames ∧ 8 + ((jx_m y).2.2.1 + 11) + (jx_rm 7).locals ≤ room_1.locals := by
    refine ⟨Nat.le_of_ble_eq_true rfl, ?_⟩
    show 8 + ((jx_m y).2.2.1 + 11) + 252 ≤ 358
    omega
  exact jl_gocall (va_runV (Ts := jx_gw) (C := (jx_m y).1.cls) (b := ad 1) (As := as.map (jx_v ad)) ⟨hx, hb, hml, hown, hts⟩ hM ⟨callB_of (jx_m y).2.2.2.2.2.1 hts (jx_goodIn w1) rfl rfl rfl (hts _ w2) (hts _ hlk) ⟨w5, w6, w7⟩ hR, hts _ w3.1, hts _ w3.2⟩ ⟨jx_blind, hrec, jx_warm hast' hM0 hP hK hN⟩ rfl (by rw [List.length_map, has]) hsz rfl hroom hdec ⟨hcs.1, hcs.2⟩) hS hA kk
theorem jl_key {M : jxM} {k : Nat} {q : Nat × va_E} (h : (jx_wl ad cA G n M)[k]? = some q) : k < n ∧ q.1 = ad (k + 1) := by
  unfold jx_wl at h
  rw [List.getElem?_map] at h
  by_cases hk : k < n
  · rw [List.getElem?_range hk] at h
    simp only [Option.map_some, Option.some.injEq] at h
    exact ⟨hk, by rw [← h]⟩
  · rw [List.getElem?_eq_none (by simpa using hk)] at h
    cases h
theorem jl_kept {ad' : Nat → Nat} {n' : Nat} {M : jxM} {H1 : Heap} (hP : va_P D vwCl (jx_wl ad cA G n M) H) (ho : ∀ q : Nat, q < H.size → ¬ jx_A ad' n' q → H1[q]? = H[q]?) (hap : ∀ k k', 1 ≤ k → k ≤ n → 1 ≤ k' → k' ≤ n' → ad k ≠ ad' k') : va_P D vwCl (jx_wl ad cA G n M) H1 :=
  hP.kept (fun k q hq => by
    obtain ⟨a, b⟩ := jl_key hq
    refine ho q.1 ((hP k q hq).lt) ?_
    rintro ⟨k', h1, h2, h3⟩
    exact hap (k + 1) k' (by omega) (by omega) h1 h2 (by rw [← b, h3]))
/-- the arguments: cells i + 1 .. of the script -/
abbrev jl_decs (pc j : Nat) : Prop := decode code pc = .ok (.aload_n 0, 1) ∧ decode code (pc + 1) = .ok (.iload_n 3, 1) ∧ decode code (pc + 2) = .ok (.iconst (j : Int), 1) ∧ decode code (pc + 3) = .ok (.iadd, 1) ∧ decode code (pc + 4) = .ok (.iaload, 1)
theorem jl_oi (j : Nat) : Int32.ofInt (j : Int) = nI j := Int32.ofInt_eq_ofNat
theorem jl_arg {R : Room} {A : Nat → Prop} {b L : Nat} {xs : Nat → Int32} {q1 q2 i j pc : Nat} {la : Array Slot} {rest : List Value} (hx : p.tables.exec = Jvm.exec) (hb : c.code = code) (hX : va_X b L xs s s.heap) (hbl : b < s.heap.size) (hbA : ¬ A b) (hS : va_S A s.heap H locs) (hL : L ≤ 2048) (hl : lv_has la 4 [(0, .ref b), (1, .ref q1), (2, .ref q2), (3, .int (nI i))]) (hj : i + j < L) (hd : jl_decs pc j)
    (kk : W p l e R s m args below meth c H locs cells slots Q (F0 m (pc + 5) la (.int (xs (i + j)) :: rest))) : W p l e R s m args below meth c H locs cells slots Q (F0 m pc la rest) := by
  obtain ⟨d0, d1, d2, d3, d4⟩ := hd
  refine lv_aload_n hx hb d0 rfl (lv_at hl 0 rfl) ?_
  refine lv_iload_n hx hb d1 rfl (lv_at hl 3 rfl) ?_
  refine lv_iconst (v := nI j) hx hb d2 (jl_oi j) ?_
  refine lv_iadd hx hb d3 ?_
  rw [nI_add]
  refine va_sld hx hb hX hbl hbA hS (vp_in_nI hj (by omega)) d4 ?_
  rw [nI_clamp (by omega)]
  exact kk
def jl_vs (xs : Nat → Int32) (i n : Nat) : List Value := (List.range n).map (fun j => .int (xs (i + (j + 1))))
def jl_as (xs : Nat → Int32) (i n : Nat) : List jxV := (List.range n).map (fun j => .inl (xs (i + (j + 1))).toInt)
theorem jl_asv (ad : Nat → Nat) (xs : Nat → Int32) (i n : Nat) : (jl_as xs i n).map (jx_v ad) = jl_vs xs i n := by
  unfold jl_as jl_vs
  rw [List.map_map]
  refine List.map_congr_left (fun j _ => ?_)
  show Value.int (Int32.ofInt (xs (i + (j + 1))).toInt) = _
  rw [Int32.ofInt_toInt]
theorem jl_asr (xs : Nat → Int32) (i n : Nat) : jx_rl (jl_as xs i n) := fun v hv => by
  obtain ⟨j, -, rfl⟩ := List.mem_map.mp hv
  have h1 := Int32.le_toInt (xs (i + (j + 1)))
  have h2 := Int32.toInt_lt (xs (i + (j + 1)))
  show jx_r _
  exact ⟨by omega, by omega⟩
theorem jl_loads {R : Room} {A : Nat → Prop} {b L : Nat} {xs : Nat → Int32} {q1 q2 i : Nat} {la : Array Slot} {rest : List Value} (hx : p.tables.exec = Jvm.exec) (hb : c.code = code) (hX : va_X b L xs s s.heap) (hbl : b < s.heap.size) (hbA : ¬ A b) (hS : va_S A s.heap H locs) (hL : L ≤ 2048) (hl : lv_has la 4 [(0, .ref b), (1, .ref q1), (2, .ref q2), (3, .int (nI i))]) {pc : Nat} : ∀ k : Nat, i + k < L → (∀ j, j < k → jl_decs (pc + 5 * j) (j + 1)) →
    W p l e R s m args below meth c H locs cells slots Q (F0 m (pc + 5 * k) la ((jl_vs xs i k).reverse ++ rest)) → W p l e R s m args below meth c H locs cells slots Q (F0 m pc la rest) := by
  intro k
  induction k with
  | zero => intro _ _ kk; exact kk
  | succ k ih =>
    intro hk hd kk
    refine ih (by omega) (fun j hj => hd j (by omega)) ?_
    refine jl_arg hx hb hX hbl hbA hS hL hl (by omega) (hd k (by omega)) ?_
    have e1 : (jl_vs xs i (k + 1)).reverse ++ rest = .int (xs (i + (k + 1))) :: ((jl_vs xs i k).reverse ++ rest) := by
      unfold jl_vs
      rw [List.range_succ, List.map_append, List.reverse_append]
      rfl
    rw [e1] at kk
    exact kk
end JL
