section JT
variable {p : Program} {l : Launch} {e : Env} {s : State} {m : MethodId} {args : Array Value} {below : List Frame} {meth : Method} {c : Code}
variable {D : va_G} {ad : Nat → Nat} {cA : ClassId × ClassId × ClassId} {G : jxG} {n : Nat}
abbrev jx_IH (l : Launch) (D : va_G) (ad : Nat → Nat) (cA : ClassId × ClassId × ClassId) (G : jxG) (n d : Nat) : Prop := ∀ (d' y : Nat) (as : List jxV) (M : jxM) (K : jxK), d = d' + 1 → y < 128 → as.length ≤ (jx_T y).1 → jx_call G jx_T d y as M K → jx_met l D ad cA G n d' y as M K
theorem jx_hR {d d' y : Nat} (hd : d = d' + 1) (hy : jx_mok y (jx_st y)) : (jx_rm d').frames + 1 ≤ (jx_rm d).frames ∧ 8 + ((jx_m y).2.2.1 + 11) + (jx_rm d').locals ≤ (jx_rm d).locals := by
  obtain ⟨-, -, -, ⟨-, -, -, -, -, h, -⟩, -⟩ := hy
  subst hd
  refine ⟨Nat.le_refl _, ?_⟩
  show 8 + ((jx_m y).2.2.1 + 11) + 36 * d' ≤ 36 * (d' + 1)
  omega
theorem jx_call_pos {T : Nat → Nat × List jxI} {d y : Nat} {as : List jxV} {M : jxM} {K : jxK} (h : jx_call G T d y as M K) : ∃ d', d = d' + 1 := by
  cases d with
  | zero => exact h.elim
  | succ d => exact ⟨d, rfl⟩
/-- an invokestatic -/
theorem ja_cs {y d : Nat} (cx : jx_cx p s m args meth c D cA y) (IH : jx_IH l D ad cA G n d) {Q : State → Prop} {pcs : List Nat} {nL k i x1 x2 : Nat} (hnL : (jx_m y).2.2.1 = nL) {ls st : List jxV} {M : jxM} (hdec : decode (jx_m y).2.1 (pcs.getD k 0) = .ok (.invokestatic i, 3)) (hn : pcs.getD (k + 1) 0 = pcs.getD k 0 + 3)
    (hx2 : x2 = (jx_m x1).2.2.2.2.2.1) (hl : (∃ j, (jx_ml.any (fun q => q.1 == (jx_m y).2.2.2.2.1 && q.2.1 == i && q.2.2.1 == x1 && q.2.2.2.1 == 1) = true) ∧ j = 0) ∨ jx_nest = ((jx_m y).2.2.2.2.1, i, x1))
    (h : x2 ≤ st.length ∧ st.length ≤ x2 + 8 ∧ jx_call G jx_T d x1 (st.take x2).reverse M (fun r M' => jx_AW p l e (jx_rm d) s m args below meth c D ad cA G n nL pcs Q (k + 1) ls (r.toList ++ st.drop x2) M')) : jx_AW p l e (jx_rm d) s m args below meth c D ad cA G n nL pcs Q k ls st M := by
  obtain ⟨hx, hb, hml, hown, hr, hlocks, hts, hK, hN⟩ := cx
  obtain ⟨g1, g2, g3⟩ := h
  obtain ⟨d', hd'⟩ := jx_call_pos g3
  have hy : x1 < 128 ∧ jx_st x1 = true := by
    rcases hl with ⟨j, hj, -⟩ | hl
    · obtain ⟨q, hq, hq2⟩ := List.any_eq_true.mp hj
      simp only [Bool.and_eq_true, beq_iff_eq] at hq2
      have a1 := List.all_eq_true.mp jx_ml_ok q hq
      have a2 := List.all_eq_true.mp jx_mlst q hq
      simp only [Bool.and_eq_true, decide_eq_true_eq, beq_iff_eq] at a1 a2
      rw [hq2.2] at a2
      rw [← hq2.1.2]
      exact ⟨a1.2, by rw [a2]; rfl⟩
    · have := jx_nestst
      rw [hl] at this
      exact ⟨this.2, this.1⟩
  have hmk := jx_mall x1 hy.1
  have hmk0 := hmk
  rw [hy.2] at hmk
  obtain ⟨w1, w2, w3, ⟨w4, w5, w6, w7, w8, w9, w10, w11⟩, w12⟩ := hmk
  have hnp := jx_npok x1 hy.1
  rw [hy.2] at hnp
  have hlen : ((st.take x2).reverse).length = x2 := by rw [List.length_reverse, List.length_take]; omega
  have hM := IH d' x1 (st.take x2).reverse M _ hd' hy.1 (by rw [hlen, hx2]; simpa using hnp) g3
  intro a1 a2 a3 a4 H locs la h1 h2 h3
  have hast : jx_rl (st.take x2).reverse := fun v hv => a2 v (List.mem_of_mem_take (List.mem_reverse.mp hv))
  have hsplit : (F0 m (pcs.getD k 0) la (st.map (jx_v ad))).stack = (((st.take x2).reverse).map (jx_v ad)).reverse ++ (st.drop x2).map (jx_v ad) := by
    show st.map (jx_v ad) = _
    rw [← List.map_reverse, List.reverse_reverse, ← List.map_append, List.take_append_drop]
  have hroom : 2 * (F0 m (pcs.getD k 0) la (st.map (jx_v ad))).monitorRoom + (((st.drop x2).map (jx_v ad)).map fun v => v.category).sum ≤ 8 := lv_room (by rw [jx_cats, List.length_drop]; omega)
  have hfin : ∀ (r : Option jxV) (M' : jxM) (H1 : Heap) (locs1 : List Loc), jx_AW p l e (jx_rm d) s m args below meth c D ad cA G n nL pcs Q (k + 1) ls (r.toList ++ st.drop x2) M' → (∀ v, r = some v → jx_rv v) → jx_rM M' → va_P D vwCl (jx_wl ad cA G n M') H1 → va_S (jx_A ad n) s.heap H1 locs1 → W p l e (jx_rm d) s m args below meth c H1 locs1 0 0 Q (F0 m (pcs.getD k 0 + 3) la ((r.map (jx_v ad)).toList ++ (st.drop x2).map (jx_v ad))) := by
    intro r M' H1 locs1 q1 q2 q3 q4 q5
    have q6 := q1 a1 (fun v hv => by
      rcases List.mem_append.mp hv with hv | hv
      · exact q2 v (by simpa using hv)
      · exact a2 v (List.mem_of_mem_drop hv)) q3 a4 H1 locs1 la h1 q4 q5
    rw [hn, List.map_append] at q6
    cases r <;> exact q6
  have hsz : (F0 m (pcs.getD k 0) la (st.map (jx_v ad))).locals.size = nL := h1.1
  rcases hl with ⟨j, hj, -⟩ | hl
  · obtain ⟨q, hq, hq2⟩ := List.any_eq_true.mp hj
    simp only [Bool.and_eq_true, beq_iff_eq] at hq2
    have b1 := List.all_eq_true.mp jx_ml_ok q hq
    simp only [Bool.and_eq_true, decide_eq_true_eq] at b1
    obtain ⟨⟨⟨c1, c2⟩, c3⟩, c4⟩ := hq2
    rw [c1, c2, c3] at b1
    have hlk := hts _ (jx_gin _ b1.1 rfl)
    exact jx_gocall (va_runS (Ts := jx_gw) ⟨hx, hb, hml.trans hnL, hown, hts⟩ hM ⟨callB_of (jx_m x1).2.2.2.2.2.1 hts (jx_goodIn w1) rfl rfl rfl (hts _ w2) hlk ⟨w5, w6, w7⟩ (jx_hR hd' hmk0), hts _ w3⟩ ⟨jx_blind, jx_warm hast a3 h2 hK hN⟩ rfl (by rw [List.length_map, hlen, hx2]) hsz hsplit hroom hdec ⟨Nat.le_refl _, Nat.le_refl _⟩) h3 hfin
  · have hlk : va_Nw (Cond.methodLinkNest (jx_cn (jx_m y).2.2.2.2.1) i (jx_m x1).1 "ReadingConverter") s := by
      unfold jx_nw at hN
      rw [hl] at hN
      exact hN
    exact jx_gocall (va_runSN (Ts := jx_gw) ⟨hx, hb, hml.trans hnL, hown, hts⟩ hM ⟨va_cnB (jx_m x1).2.2.2.2.2.1 hts (jx_goodIn w1) rfl rfl rfl hlk (hts _ w2) ⟨w5, w6, w7⟩ (jx_hR hd' hmk0), hts _ w3, trivial⟩ ⟨jx_blind, jx_warm hast a3 h2 hK hN⟩ rfl (by rw [List.length_map, hlen, hx2]) hsz hsplit hroom hdec ⟨Nat.le_refl _, Nat.le_refl _⟩) h3 hfin
/-- an invokevirtual -/
theorem ja_cv (hG : jx_shape G n) {y d : Nat} (cx : jx_cx p s m args meth c D cA y) (IH : jx_IH l D ad cA G n d) {Q : State → Prop} {pcs : List Nat} {nL k i x1 x2 x3 : Nat} (hnL : (jx_m y).2.2.1 = nL) {ls st : List jxV} {M : jxM} (hdec : decode (jx_m y).2.1 (pcs.getD k 0) = .ok (.invokevirtual i, 3)) (hn : pcs.getD (k + 1) 0 = pcs.getD k 0 + 3)
    (hx2 : x2 = (jx_m x1).2.2.2.2.2.1) (hx3 : x3 = (jx_m x1).2.2.2.2.1) (hl : jx_ml.any (fun q => q.1 == (jx_m y).2.2.2.2.1 && q.2.1 == i && q.2.2.1 == x1 && q.2.2.2.1 == 0) = true)
    (h : x2 + 1 ≤ st.length ∧ st.length ≤ x2 + 1 + 8 ∧ (∃ cc, st[x2]? = some (.inr cc) ∧ G.1 cc = (0, x3)) ∧ jx_call G jx_T d x1 (st.take (x2 + 1)).reverse M (fun r M' => jx_AW p l e (jx_rm d) s m args below meth c D ad cA G n nL pcs Q (k + 1) ls (r.toList ++ st.drop (x2 + 1)) M')) : jx_AW p l e (jx_rm d) s m args below meth c D ad cA G n nL pcs Q k ls st M := by
  obtain ⟨hx, hb, hml, hown, hr, hlocks, hts, hK, hN⟩ := cx
  obtain ⟨g1, g2, ⟨cc, g4, g5⟩, g3⟩ := h
  obtain ⟨d', hd'⟩ := jx_call_pos g3
  obtain ⟨q, hq, hq2⟩ := List.any_eq_true.mp hl
  simp only [Bool.and_eq_true, beq_iff_eq] at hq2
  have b1 := List.all_eq_true.mp jx_ml_ok q hq
  have b2 := List.all_eq_true.mp jx_mlst q hq
  simp only [Bool.and_eq_true, decide_eq_true_eq, beq_iff_eq] at b1 b2
  obtain ⟨⟨⟨c1, c2⟩, c3⟩, c4⟩ := hq2
  rw [c1, c2, c3] at b1
  rw [c3, c4] at b2
  have hst : jx_st x1 = false := by rw [b2]; rfl
  have hmk := jx_mall x1 b1.2
  have hmk0 := hmk
  rw [hst] at hmk
  obtain ⟨w1, w2, w3, ⟨w4, w5, w6, w7, w8, w9, w10, w11⟩, w12⟩ := hmk
  have hnp := jx_npok x1 b1.2
  rw [hst] at hnp
  have hlt : x2 < st.length := by omega
  have hgx : st[x2] = .inr cc := by
    have := List.getElem?_eq_getElem hlt
    rw [this] at g4
    exact Option.some.inj g4
  have htk : (st.take (x2 + 1)).reverse = .inr cc :: (st.take x2).reverse := by
    rw [List.take_succ_eq_append_getElem hlt, hgx, List.reverse_append]
    rfl
  have hlen : ((st.take x2).reverse).length = x2 := by rw [List.length_reverse, List.length_take]; omega
  rw [htk] at g3
  have hM := IH d' x1 (.inr cc :: (st.take x2).reverse) M _ hd' b1.2 (by rw [List.length_cons, hlen, hx2]; simpa using hnp) g3
  intro a1 a2 a3 a4 H locs la h1 h2 h3
  have hast : jx_rl (.inr cc :: (st.take x2).reverse) := jx_rl_cons trivial (fun v hv => a2 v (List.mem_of_mem_take (List.mem_reverse.mp hv)))
  have hdrop : st.drop x2 = .inr cc :: st.drop (x2 + 1) := by rw [List.drop_eq_getElem_cons hlt, hgx]
  have hsplit : (F0 m (pcs.getD k 0) la (st.map (jx_v ad))).stack = (((st.take x2).reverse).map (jx_v ad)).reverse ++ .ref (ad cc) :: (st.drop (x2 + 1)).map (jx_v ad) := by
    show st.map (jx_v ad) = _
    rw [← List.map_reverse, List.reverse_reverse, show (Value.ref (ad cc) :: (st.drop (x2 + 1)).map (jx_v ad)) = (st.drop x2).map (jx_v ad) by rw [hdrop]; rfl, ← List.map_append, List.take_append_drop]
  have hroom : 2 * (F0 m (pcs.getD k 0) la (st.map (jx_v ad))).monitorRoom + (((st.drop (x2 + 1)).map (jx_v ad)).map fun v => v.category).sum ≤ 8 := lv_room (by rw [jx_cats, List.length_drop]; omega)
  have hfin : ∀ (r : Option jxV) (M' : jxM) (H1 : Heap) (locs1 : List Loc), jx_AW p l e (jx_rm d) s m args below meth c D ad cA G n nL pcs Q (k + 1) ls (r.toList ++ st.drop (x2 + 1)) M' → (∀ v, r = some v → jx_rv v) → jx_rM M' → va_P D vwCl (jx_wl ad cA G n M') H1 → va_S (jx_A ad n) s.heap H1 locs1 → W p l e (jx_rm d) s m args below meth c H1 locs1 0 0 Q (F0 m (pcs.getD k 0 + 3) la ((r.map (jx_v ad)).toList ++ (st.drop (x2 + 1)).map (jx_v ad))) := by
    intro r M' H1 locs1 q1 q2 q3 q4 q5
    have q6 := q1 a1 (fun v hv => by
      rcases List.mem_append.mp hv with hv | hv
      · exact q2 v (by simpa using hv)
      · exact a2 v (List.mem_of_mem_drop hv)) q3 a4 H1 locs1 la h1 q4 q5
    rw [hn, List.map_append] at q6
    cases r <;> exact q6
  have hsz : (F0 m (pcs.getD k 0) la (st.map (jx_v ad))).locals.size = nL := h1.1
  have hlk := hts _ (jx_gin _ b1.1 rfl)
  have hrec : ∃ cellB : Cell, H[ad cc]? = some cellB ∧ cellB.vm.isStatics = false ∧ s.vm.findClass (jx_m x1).1.cls = some cellB.cls := by
    obtain ⟨hc1, hc2⟩ := hG.1 cc (by rw [g5]; exact Nat.zero_lt_succ 8)
    have hat := jx_wl_at (ad := ad) (cA := cA) (G := G) (M := M) hc1 hc2
    have hent : jx_ent ad cA G M cc = .inr (x3, (List.range (jx_N x3)).map (fun k => if G.2 cc k = 0 then Value.int (Int32.ofInt (M cc k)) else Value.ref (ad (G.2 cc k)))) := by
      unfold jx_ent
      rw [g5]
      rfl
    rw [hent] at hat
    have hcn : ∃ q : vw_C, vwCl[x3]? = some q ∧ q.1 = (jx_m x1).1.cls := by
      have hx3' : x3 = (jx_m x1).2.2.2.2.1 := hx3
      rw [← w8, ← hx3']
      have hlt8 : x3 < 8 := by
        have hvp := hat
        rcases Nat.lt_or_ge x3 8 with q | q
        · exact q
        · exfalso
          obtain ⟨r, hr1, -⟩ := h2 _ _ hat
          have : vwCl[x3]? = none := List.getElem?_eq_none (by show 8 ≤ x3; exact q)
          rw [this] at hr1
          cases hr1
      match x3, hlt8 with
      | 0, _ => exact ⟨_, rfl, rfl⟩
      | 1, _ => exact ⟨_, rfl, rfl⟩
      | 2, _ => exact ⟨_, rfl, rfl⟩
      | 3, _ => exact ⟨_, rfl, rfl⟩
      | 4, _ => exact ⟨_, rfl, rfl⟩
      | 5, _ => exact ⟨_, rfl, rfl⟩
      | 6, _ => exact ⟨_, rfl, rfl⟩
      | 7, _ => exact ⟨_, rfl, rfl⟩
      | z + 8, hz => exact absurd hz (by omega)
    obtain ⟨q, hq1, hq2⟩ := hcn
    have := va_recv hK h2 hq1 hat
    rw [hq2] at this
    exact this
  exact jx_gocall (va_runV (Ts := jx_gw) (C := (jx_m x1).1.cls) (b := ad cc) (As := ((st.take x2).reverse).map (jx_v ad)) ⟨hx, hb, hml.trans hnL, hown, hts⟩ hM ⟨callB_of (jx_m x1).2.2.2.2.2.1 hts (jx_goodIn w1) rfl rfl rfl (hts _ w2) hlk ⟨w5, w6, w7⟩ (jx_hR hd' hmk0), hts _ w3.1, hts _ w3.2⟩ ⟨jx_blind, hrec, jx_warm hast a3 h2 hK hN⟩ rfl (by rw [List.length_map, hlen, hx2]) hsz hsplit hroom hdec ⟨Nat.le_refl _, Nat.le_refl _⟩) h3 hfin
end JT
