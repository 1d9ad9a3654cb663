theorem jx_ent0 {ad : Nat → Nat} {cA : ClassId × ClassId × ClassId} {G : jxG} {M : jxM} {c ci : Nat} (h : G.1 c = (0, ci)) : jx_ent ad cA G M c = .inr (ci, (List.range (jx_N ci)).map (fun k => if G.2 c k = 0 then Value.int (Int32.ofInt (M c k)) else Value.ref (ad (G.2 c k)))) := by
  unfold jx_ent
  rw [h]
  rfl
theorem jx_ent1 {ad : Nat → Nat} {cA : ClassId × ClassId × ClassId} {G : jxG} {M : jxM} {c k : Nat} (h : G.1 c = (1, k)) : jx_ent ad cA G M c = .inl (cA.1, k, .inl (fun j => Int32.ofInt (M c j))) := by
  unfold jx_ent
  rw [h]
  rfl
theorem jx_ent2 {ad : Nat → Nat} {cA : ClassId × ClassId × ClassId} {G : jxG} {M : jxM} {c k : Nat} (h : G.1 c = (2, k)) : jx_ent ad cA G M c = .inl (cA.2.1, k, .inl (fun j => Int32.ofInt (M c j))) := by
  unfold jx_ent
  rw [h]
  rfl
theorem jx_ent3 {ad : Nat → Nat} {cA : ClassId × ClassId × ClassId} {G : jxG} {M : jxM} {c k : Nat} (h : G.1 c = (3, k)) : jx_ent ad cA G M c = .inl (cA.2.2, k, .inr (.inr (.inr (.inr (fun j => some (ad (G.2 c j))))))) := by
  unfold jx_ent
  rw [h]
  rfl
theorem jx_i_z {x : Int} (hx : jx_r x) : Int32.ofInt x = 0 ↔ x = 0 := jx_i_eq hx (y := 0) (by unfold jx_r; omega)
theorem jx_i_lz {x : Int} (hx : jx_r x) : Int32.ofInt x < 0 ↔ x < 0 := jx_i_lt hx (y := 0) (by unfold jx_r; omega)
theorem jx_i_gz {x : Int} (hx : jx_r x) : 0 < Int32.ofInt x ↔ 0 < x := jx_i_lt (x := 0) (by unfold jx_r; omega) hx
theorem jx_i_lez {x : Int} (hx : jx_r x) : Int32.ofInt x ≤ 0 ↔ x ≤ 0 := jx_i_le hx (y := 0) (by unfold jx_r; omega)
theorem jx_i_gez {x : Int} (hx : jx_r x) : 0 ≤ Int32.ofInt x ↔ 0 ≤ x := jx_i_le (x := 0) (by unfold jx_r; omega) hx
section JU
variable {p : Program} {l : Launch} {e : Env} {s : State} {m : MethodId} {args : Array Value} {below : List Frame} {meth : Method} {c : Code}
variable {D : va_G} {ad : Nat → Nat} {cA : ClassId × ClassId × ClassId} {G : jxG} {n : Nat}
set_option maxHeartbeats 4000000 in
theorem jx_snd (hG : jx_shape G n) (hi : jx_inj ad n) {y d : Nat} (cx : jx_cx p s m args meth c D cA y) (IH : jx_IH l D ad cA G n d) {K : jxK} {pcs : List Nat} {nL k len : Nat} {ins : Instr} {x : jxI} (hnL : (jx_m y).2.2.1 = nL) (hpcs : (jx_m y).2.2.2.2.2.2 = pcs)
    (hret : (x.1 = 27 → (jx_m y).2.2.2.1 = some .int ∨ (jx_m y).2.2.2.1 = some .boolean) ∧ (x.1 = 28 → (jx_m y).2.2.2.1 = none) ∧ (x.1 = 29 → (jx_m y).2.2.2.1 = some (.object "ReadingConverter$Ranking")))
    (hdec : decode (jx_m y).2.1 (pcs.getD k 0) = .ok (ins, len)) (hck : jx_xok (jx_m y).2.2.2.2.1 (decide ((jx_m y).2.2.2.1 = some .boolean)) pcs k ins len x = true) {ls st : List jxV} {M : jxM}
    (h : jx_stp G d (jx_call G jx_T d) K (jx_AW p l e (jx_rm d) s m args below meth c D ad cA G n nL pcs (MQ below (jx_post D ad cA G n K) args s 0 0 (jx_A ad n))) x k ls st M) :
    jx_AW p l e (jx_rm d) s m args below meth c D ad cA G n nL pcs (MQ below (jx_post D ad cA G n K) args s 0 0 (jx_A ad n)) k ls st M := by
  have cx0 := cx
  obtain ⟨hx, hb, hml, hown, hr, hlocks, hts, hK, hN⟩ := cx
  obtain ⟨x0, x1, x2, x3⟩ := x
  cases ins
  case iconst v =>
    simp only [jx_xok, Bool.and_eq_true, beq_iff_eq, Prod.mk.injEq] at hck
    obtain ⟨⟨⟨⟨rfl, rfl, rfl, rfl⟩, rfl⟩, hn⟩, hv⟩ := hck
    intro a1 a2 a3 a4 H locs la h1 h2 h3
    have q := h.2 a1 (jx_rl_cons h.1 a2) a3 a4 H locs la h1 h2 h3
    rw [hn] at q
    exact lv_iconst hx hb hdec rfl q
  case bipush v =>
    simp only [jx_xok, Bool.and_eq_true, beq_iff_eq, Prod.mk.injEq] at hck
    obtain ⟨⟨⟨⟨rfl, rfl, rfl, rfl⟩, rfl⟩, hn⟩, hv⟩ := hck
    intro a1 a2 a3 a4 H locs la h1 h2 h3
    have q := h.2 a1 (jx_rl_cons h.1 a2) a3 a4 H locs la h1 h2 h3
    rw [hn] at q
    exact lv_bipush hx hb hdec hv q
  case sipush v =>
    simp only [jx_xok, Bool.and_eq_true, beq_iff_eq, Prod.mk.injEq] at hck
    obtain ⟨⟨⟨⟨rfl, rfl, rfl, rfl⟩, rfl⟩, hn⟩, hv⟩ := hck
    intro a1 a2 a3 a4 H locs la h1 h2 h3
    have q := h.2 a1 (jx_rl_cons h.1 a2) a3 a4 H locs la h1 h2 h3
    rw [hn] at q
    exact lv_sipush hx hb hdec hv q
  case ldc i =>
    simp only [jx_xok, Bool.and_eq_true, beq_iff_eq, Prod.mk.injEq] at hck
    obtain ⟨⟨⟨⟨rfl, rfl, rfl, -⟩, rfl⟩, hn⟩, hv⟩ := hck
    obtain ⟨q, hq, hq2⟩ := List.any_eq_true.mp hv
    simp only [Bool.and_eq_true, beq_iff_eq] at hq2
    have b1 := List.all_eq_true.mp jx_cs_ok q hq
    simp only [Bool.and_eq_true, decide_eq_true_eq] at b1
    obtain ⟨⟨c1, c2⟩, c3⟩ := hq2
    rw [c1, c2, c3] at b1
    intro a1 a2 a3 a4 H locs la h1 h2 h3
    have q := h.2 a1 (jx_rl_cons h.1 a2) a3 a4 H locs la h1 h2 h3
    rw [hn] at q
    exact lv_ldc hx hb hown (hts _ (jx_gin _ b1.1 rfl)) hdec q
  case iload_n i =>
    simp only [jx_xok, Bool.and_eq_true, beq_iff_eq, Prod.mk.injEq] at hck
    obtain ⟨⟨⟨rfl, rfl, rfl, rfl⟩, rfl⟩, hn⟩ := hck
    obtain ⟨v, g1, g2⟩ := h
    intro a1 a2 a3 a4 H locs la h1 h2 h3
    have q := g2 a1 (jx_rl_cons (a1 _ (List.mem_of_getElem? g1)) a2) a3 a4 H locs la h1 h2 h3
    rw [hn] at q
    exact lv_iload_n hx hb hdec rfl (h1.2.2 _ _ g1 rfl) q
  case iload i =>
    simp only [jx_xok, Bool.and_eq_true, beq_iff_eq, Prod.mk.injEq] at hck
    obtain ⟨⟨⟨rfl, rfl, rfl, rfl⟩, rfl⟩, hn⟩ := hck
    obtain ⟨v, g1, g2⟩ := h
    intro a1 a2 a3 a4 H locs la h1 h2 h3
    have q := g2 a1 (jx_rl_cons (a1 _ (List.mem_of_getElem? g1)) a2) a3 a4 H locs la h1 h2 h3
    rw [hn] at q
    exact lv_iload hx hb hdec (h1.2.2 _ _ g1 rfl) q
  case aload_n i =>
    simp only [jx_xok, Bool.and_eq_true, beq_iff_eq, Prod.mk.injEq] at hck
    obtain ⟨⟨⟨rfl, rfl, rfl, rfl⟩, rfl⟩, hn⟩ := hck
    obtain ⟨v, g1, g2⟩ := h
    intro a1 a2 a3 a4 H locs la h1 h2 h3
    have q := g2 a1 (jx_rl_cons (a1 _ (List.mem_of_getElem? g1)) a2) a3 a4 H locs la h1 h2 h3
    rw [hn] at q
    exact lv_aload_n hx hb hdec rfl (h1.2.2 _ _ g1 rfl) q
  case aload i =>
    simp only [jx_xok, Bool.and_eq_true, beq_iff_eq, Prod.mk.injEq] at hck
    obtain ⟨⟨⟨rfl, rfl, rfl, rfl⟩, rfl⟩, hn⟩ := hck
    obtain ⟨v, g1, g2⟩ := h
    intro a1 a2 a3 a4 H locs la h1 h2 h3
    have q := g2 a1 (jx_rl_cons (a1 _ (List.mem_of_getElem? g1)) a2) a3 a4 H locs la h1 h2 h3
    rw [hn] at q
    exact lv_aload hx hb hdec (h1.2.2 _ _ g1 rfl) q
  case istore_n i =>
    simp only [jx_xok, Bool.and_eq_true, beq_iff_eq, Prod.mk.injEq] at hck
    obtain ⟨⟨⟨rfl, rfl, rfl, rfl⟩, rfl⟩, hn⟩ := hck
    obtain ⟨v, r, rfl, g1, g2⟩ := h
    intro a1 a2 a3 a4 H locs la h1 h2 h3
    exact lv_istore_n (x := Int32.ofInt v) hx hb hdec rfl (jx_kn_has h1) (by rw [← a4]; exact g1) rfl (fun la' hl' => by
      have q := g2 (jx_rl_set (jx_rl_hd a2) a1) (jx_rl_tl a2) a3 (by rw [List.length_set]; exact a4) H locs la' (jx_lr_store hl') h2 h3
      rw [hn] at q
      exact q)
  case istore i =>
    simp only [jx_xok, Bool.and_eq_true, beq_iff_eq, Prod.mk.injEq] at hck
    obtain ⟨⟨⟨rfl, rfl, rfl, rfl⟩, rfl⟩, hn⟩ := hck
    obtain ⟨v, r, rfl, g1, g2⟩ := h
    intro a1 a2 a3 a4 H locs la h1 h2 h3
    exact lv_istore (x := Int32.ofInt v) hx hb hdec (jx_kn_has h1) (by rw [← a4]; exact g1) rfl (fun la' hl' => by
      have q := g2 (jx_rl_set (jx_rl_hd a2) a1) (jx_rl_tl a2) a3 (by rw [List.length_set]; exact a4) H locs la' (jx_lr_store hl') h2 h3
      rw [hn] at q
      exact q)
  case astore_n i =>
    simp only [jx_xok, Bool.and_eq_true, beq_iff_eq, Prod.mk.injEq] at hck
    obtain ⟨⟨⟨rfl, rfl, rfl, rfl⟩, rfl⟩, hn⟩ := hck
    obtain ⟨v, r, rfl, g1, g2⟩ := h
    intro a1 a2 a3 a4 H locs la h1 h2 h3
    exact lv_astore_n (x := ad v) hx hb hdec rfl (jx_kn_has h1) (by rw [← a4]; exact g1) rfl (fun la' hl' => by
      have q := g2 (jx_rl_set (jx_rl_hd a2) a1) (jx_rl_tl a2) a3 (by rw [List.length_set]; exact a4) H locs la' (jx_lr_store (v := .inr v) hl') h2 h3
      rw [hn] at q
      exact q)
  case astore i =>
    simp only [jx_xok, Bool.and_eq_true, beq_iff_eq, Prod.mk.injEq] at hck
    obtain ⟨⟨⟨rfl, rfl, rfl, rfl⟩, rfl⟩, hn⟩ := hck
    obtain ⟨v, r, rfl, g1, g2⟩ := h
    intro a1 a2 a3 a4 H locs la h1 h2 h3
    exact lv_astore (x := ad v) hx hb hdec (jx_kn_has h1) (by rw [← a4]; exact g1) rfl (fun la' hl' => by
      have q := g2 (jx_rl_set (jx_rl_hd a2) a1) (jx_rl_tl a2) a3 (by rw [List.length_set]; exact a4) H locs la' (jx_lr_store (v := .inr v) hl') h2 h3
      rw [hn] at q
      exact q)
  case iinc i v =>
    simp only [jx_xok, Bool.and_eq_true, beq_iff_eq, Prod.mk.injEq] at hck
    obtain ⟨⟨⟨rfl, rfl, rfl, rfl⟩, rfl⟩, hn⟩ := hck
    obtain ⟨w, g1, g3, g2⟩ := h
    intro a1 a2 a3 a4 H locs la h1 h2 h3
    obtain ⟨kk, hkk⟩ := List.getElem?_of_mem (jx_kn_mem (ad := ad) g1 rfl)
    have hlt : x1 < nL := by rw [← a4]; exact (List.getElem?_eq_some_iff.mp g1).1
    exact lv_iinc (k := kk) (x := Int32.ofInt w) (v := Int32.ofInt (w + x3)) hx hb hdec (jx_kn_has h1) hkk (jx_i_add _ _) hlt rfl (fun la' hl' => by
      have q := g2 (jx_rl_set (v := .inl (w + x3)) g3 a1) a2 a3 (by rw [List.length_set]; exact a4) H locs la' (jx_lr_store (v := .inl (w + x3)) hl') h2 h3
      rw [hn] at q
      exact q)
  case iadd =>
    simp only [jx_xok, Bool.and_eq_true, beq_iff_eq, Prod.mk.injEq] at hck
    obtain ⟨⟨⟨rfl, rfl, rfl, rfl⟩, rfl⟩, hn⟩ := hck
    obtain ⟨v, w, r, rfl, g1, g2⟩ := h
    intro a1 a2 a3 a4 H locs la h1 h2 h3
    have q := g2 a1 (jx_rl_cons (v := .inl (v + w)) g1 (jx_rl_tl (jx_rl_tl a2))) a3 a4 H locs la h1 h2 h3
    rw [hn] at q
    refine lv_iadd hx hb hdec ?_
    rw [jx_i_add]
    exact q
  case isub =>
    simp only [jx_xok, Bool.and_eq_true, beq_iff_eq, Prod.mk.injEq] at hck
    obtain ⟨⟨⟨rfl, rfl, rfl, rfl⟩, rfl⟩, hn⟩ := hck
    obtain ⟨v, w, r, rfl, g1, g2⟩ := h
    intro a1 a2 a3 a4 H locs la h1 h2 h3
    have q := g2 a1 (jx_rl_cons (v := .inl (v - w)) g1 (jx_rl_tl (jx_rl_tl a2))) a3 a4 H locs la h1 h2 h3
    rw [hn] at q
    refine lv_isub hx hb hdec ?_
    rw [jx_i_sub]
    exact q
  case imul =>
    simp only [jx_xok, Bool.and_eq_true, beq_iff_eq, Prod.mk.injEq] at hck
    obtain ⟨⟨⟨rfl, rfl, rfl, rfl⟩, rfl⟩, hn⟩ := hck
    obtain ⟨v, w, r, rfl, g1, g2⟩ := h
    intro a1 a2 a3 a4 H locs la h1 h2 h3
    have q := g2 a1 (jx_rl_cons (v := .inl (v * w)) g1 (jx_rl_tl (jx_rl_tl a2))) a3 a4 H locs la h1 h2 h3
    rw [hn] at q
    refine lv_imul hx hb hdec ?_
    rw [jx_i_mul]
    exact q
  case idiv =>
    simp only [jx_xok, Bool.and_eq_true, beq_iff_eq, Prod.mk.injEq] at hck
    obtain ⟨⟨⟨rfl, rfl, rfl, rfl⟩, rfl⟩, hn⟩ := hck
    obtain ⟨v, w, r, rfl, g0, g1, g2⟩ := h
    intro a1 a2 a3 a4 H locs la h1 h2 h3
    have rw1 : jx_r w := jx_rl_hd a2
    have rv1 : jx_r v := jx_rl_hd (jx_rl_tl a2)
    have z1 : v / w ≤ v := Int.ediv_le_self w g0
    have z2 : 0 ≤ v / w := Int.ediv_nonneg g0 (by omega)
    have q := g2 a1 (jx_rl_cons (v := .inl (v / w)) (show jx_r _ by unfold jx_r at *; omega) (jx_rl_tl (jx_rl_tl a2))) a3 a4 H locs la h1 h2 h3
    rw [hn] at q
    refine lv_idiv hx hb hdec (fun z => ?_) ?_
    · rw [jx_i_z rw1] at z
      omega
    · rw [jx_i_div rv1 rw1 g0 g1]
      exact q
  case irem =>
    simp only [jx_xok, Bool.and_eq_true, beq_iff_eq, Prod.mk.injEq] at hck
    obtain ⟨⟨⟨rfl, rfl, rfl, rfl⟩, rfl⟩, hn⟩ := hck
    obtain ⟨v, w, r, rfl, g0, g1, g2⟩ := h
    intro a1 a2 a3 a4 H locs la h1 h2 h3
    have rw1 : jx_r w := jx_rl_hd a2
    have rv1 : jx_r v := jx_rl_hd (jx_rl_tl a2)
    have z1 : v % w < w := Int.emod_lt_of_pos v g1
    have z2 : 0 ≤ v % w := Int.emod_nonneg v (by omega)
    have q := g2 a1 (jx_rl_cons (v := .inl (v % w)) (show jx_r _ by unfold jx_r at *; omega) (jx_rl_tl (jx_rl_tl a2))) a3 a4 H locs la h1 h2 h3
    rw [hn] at q
    refine lv_irem hx hb hdec (fun z => ?_) ?_
    · rw [jx_i_z rw1] at z
      omega
    · rw [jx_i_rem rv1 rw1 g0 g1]
      exact q
  case dup =>
    simp only [jx_xok, Bool.and_eq_true, beq_iff_eq, Prod.mk.injEq] at hck
    obtain ⟨⟨⟨rfl, rfl, rfl, rfl⟩, rfl⟩, hn⟩ := hck
    obtain ⟨v, r, rfl, g2⟩ := h
    intro a1 a2 a3 a4 H locs la h1 h2 h3
    have q := g2 a1 (jx_rl_cons (jx_rl_hd a2) a2) a3 a4 H locs la h1 h2 h3
    rw [hn] at q
    exact lv_dup hx hb hdec (jx_v_cat ad v) q
  case dup2 =>
    simp only [jx_xok, Bool.and_eq_true, beq_iff_eq, Prod.mk.injEq] at hck
    obtain ⟨⟨⟨rfl, rfl, rfl, rfl⟩, rfl⟩, hn⟩ := hck
    obtain ⟨v, w, r, rfl, g2⟩ := h
    intro a1 a2 a3 a4 H locs la h1 h2 h3
    have q := g2 a1 (jx_rl_cons (jx_rl_hd a2) (jx_rl_cons (jx_rl_hd (jx_rl_tl a2)) a2)) a3 a4 H locs la h1 h2 h3
    rw [hn] at q
    exact lv_dup2_11 hx hb hdec (jx_v_cat ad v) (jx_v_cat ad w) q
  case goto off =>
    simp only [jx_xok, Bool.and_eq_true, beq_iff_eq, Prod.mk.injEq] at hck
    obtain ⟨⟨⟨rfl, -, rfl, rfl⟩, rfl⟩, ht⟩ := hck
    intro a1 a2 a3 a4 H locs la h1 h2 h3
    exact lv_goto hx hb hdec ht (h a1 a2 a3 a4 H locs la h1 h2 h3)
  case ifCond cd off =>
    cases cd <;> simp only [jx_xok, Bool.and_eq_true, beq_iff_eq, Prod.mk.injEq] at hck
    all_goals
      obtain ⟨⟨⟨⟨rfl, -, rfl, rfl⟩, rfl⟩, hn⟩, ht⟩ := hck
      obtain ⟨v, r, rfl, g1, g2⟩ := h
      intro a1 a2 a3 a4 H locs la h1 h2 h3
      have rv : jx_r v := jx_rl_hd a2
      have k1 := fun z => g1 z a1 (jx_rl_tl a2) a3 a4 H locs la h1 h2 h3
      have k2 := fun z => g2 z a1 (jx_rl_tl a2) a3 a4 H locs la h1 h2 h3
      rw [hn] at k2
    · exact lv_if_eq hx hb hdec ht (fun z => k1 ((jx_i_z rv).mp z)) (fun z => k2 (fun q => z ((jx_i_z rv).mpr q)))
    · exact lv_if_ne hx hb hdec ht (fun z => k1 (fun q => z ((jx_i_z rv).mpr q))) (fun z => k2 (fun q => q ((jx_i_z rv).mp z)))
    · exact lv_if_lt hx hb hdec ht (fun z => k1 ((jx_i_lz rv).mp z)) (fun z => k2 (fun q => z ((jx_i_lz rv).mpr q)))
    · exact lv_if_ge hx hb hdec ht (fun z => k1 ((jx_i_gez rv).mp z)) (fun z => k2 (fun q => z ((jx_i_gez rv).mpr q)))
    · exact lv_if_gt hx hb hdec ht (fun z => k1 ((jx_i_gz rv).mp z)) (fun z => k2 (fun q => z ((jx_i_gz rv).mpr q)))
    · exact lv_if_le hx hb hdec ht (fun z => k1 ((jx_i_lez rv).mp z)) (fun z => k2 (fun q => z ((jx_i_lez rv).mpr q)))
  case if_icmp cd off =>
    cases cd <;> simp only [jx_xok, Bool.and_eq_true, beq_iff_eq, Prod.mk.injEq] at hck
    all_goals
      obtain ⟨⟨⟨⟨rfl, -, rfl, rfl⟩, rfl⟩, hn⟩, ht⟩ := hck
      obtain ⟨v, w, r, rfl, g1, g2⟩ := h
      intro a1 a2 a3 a4 H locs la h1 h2 h3
      have rw1 : jx_r w := jx_rl_hd a2
      have rv : jx_r v := jx_rl_hd (jx_rl_tl a2)
      have k1 := fun z => g1 z a1 (jx_rl_tl (jx_rl_tl a2)) a3 a4 H locs la h1 h2 h3
      have k2 := fun z => g2 z a1 (jx_rl_tl (jx_rl_tl a2)) a3 a4 H locs la h1 h2 h3
      rw [hn] at k2
    · exact lv_icmp_eq hx hb hdec ht (fun z => k1 ((jx_i_eq rv rw1).mp z)) (fun z => k2 (fun q => z ((jx_i_eq rv rw1).mpr q)))
    · exact lv_icmp_ne hx hb hdec ht (fun z => k1 (fun q => z ((jx_i_eq rv rw1).mpr q))) (fun z => k2 (fun q => q ((jx_i_eq rv rw1).mp z)))
    · exact lv_icmp_lt hx hb hdec ht (fun z => k1 ((jx_i_lt rv rw1).mp z)) (fun z => k2 (fun q => z ((jx_i_lt rv rw1).mpr q)))
    · exact lv_icmp_ge hx hb hdec ht (fun z => k1 ((jx_i_le rw1 rv).mp z)) (fun z => k2 (fun q => z ((jx_i_le rw1 rv).mpr q)))
    · exact lv_icmp_gt hx hb hdec ht (fun z => k1 ((jx_i_lt rw1 rv).mp z)) (fun z => k2 (fun q => z ((jx_i_lt rw1 rv).mpr q)))
    · exact lv_icmp_le hx hb hdec ht (fun z => k1 ((jx_i_le rv rw1).mp z)) (fun z => k2 (fun q => z ((jx_i_le rv rw1).mpr q)))
  case getfield i =>
    simp only [jx_xok, Bool.and_eq_true, beq_iff_eq, Prod.mk.injEq] at hck
    obtain ⟨⟨⟨⟨rfl, -, -, rfl⟩, rfl⟩, hn⟩, hv⟩ := hck
    obtain ⟨q, hq, hq2⟩ := List.any_eq_true.mp hv
    simp only [Bool.and_eq_true, beq_iff_eq] at hq2
    have b1 := List.all_eq_true.mp jx_fl_ok q hq
    simp only [Bool.and_eq_true, decide_eq_true_eq] at b1
    obtain ⟨⟨⟨c1, c2⟩, c3⟩, c4⟩ := hq2
    rw [c1, c2, c3, c4] at b1
    obtain ⟨cc, r, rfl, g1, g2⟩ := h
    obtain ⟨Cn, T, N, ty0, e1, e2, e3, e4, e5, e6⟩ := jx_clsA x1 (by have := b1.2; omega)
    rw [e2, e3] at b1
    obtain ⟨hc1, hc2⟩ := hG.1 cc (by rw [g1]; exact Nat.zero_lt_succ 8)
    intro a1 a2 a3 a4 H locs la h1 h2 h3
    have hat := jx_wl_at (ad := ad) (cA := cA) (G := G) (M := M) hc1 hc2
    rw [jx_ent0 g1, e3] at hat
    have q := g2 a1 (jx_rl_cons (by
      by_cases hz : G.2 cc x2 = 0
      · rw [if_pos hz]; exact a3 _ _
      · rw [if_neg hz]; exact trivial) (jx_rl_tl a2)) a3 a4 H locs la h1 h2 h3
    rw [hn] at q
    refine va_get hx hb hts e4 hown hK h2 (cc - 1) hat e1 x2 b1.2 (hts _ (jx_gin _ b1.1 rfl)) (fun _ h9 => h9) (v := jx_v ad (if G.2 cc x2 = 0 then .inl (M cc x2) else .inr (G.2 cc x2))) ?_ hdec q
    rw [List.getElem?_map, List.getElem?_range b1.2]
    by_cases hz : G.2 cc x2 = 0
    · simp [hz, jx_v]
    · simp [hz, jx_v]
  case putfield i =>
    simp only [jx_xok, Bool.and_eq_true, beq_iff_eq, Prod.mk.injEq] at hck
    obtain ⟨⟨⟨⟨rfl, -, -, -⟩, rfl⟩, hn⟩, hv⟩ := hck
    obtain ⟨q, hq, hq2⟩ := List.any_eq_true.mp hv
    simp only [Bool.and_eq_true, beq_iff_eq] at hq2
    have b1 := List.all_eq_true.mp jx_pl_ok q hq
    simp only [Bool.and_eq_true, decide_eq_true_eq] at b1
    obtain ⟨⟨⟨⟨c1, c2⟩, c3⟩, c4⟩, c5⟩ := hq2
    rw [c1, c2, c3, c4, c5] at b1
    obtain ⟨cc, v, r, rfl, g1, g2, g3, g4⟩ := h
    obtain ⟨Cn, T, N, ty0, e1, e2, e3, e4, e5, e6⟩ := jx_clsA x1 (by have := b1.1.1.2; omega)
    rw [e2, e3] at b1
    obtain ⟨⟨⟨b1, b2⟩, b3⟩, b4⟩ := b1
    obtain ⟨hc1, hc2⟩ := hG.1 cc (by rw [g1]; exact Nat.zero_lt_succ 8)
    intro a1 a2 a3 a4 H locs la h1 h2 h3
    have hat := jx_wl_at (ad := ad) (cA := cA) (G := G) (M := M) hc1 hc2
    rw [jx_ent0 g1, e3] at hat
    have hD := jx_D (ad := ad) (cA := cA) (G := G) (M := M) hi
    refine va_put hx hb hts e4 ty0 e5 e6 hown hK h2 hD h3 (cc - 1) hat e1 x2 b2 (hts _ (jx_gin _ b1 rfl)) (fun _ h9 => h9) b3 (v := .int (Int32.ofInt v)) b4 ?_ ?_ (by simpa using b2) hdec (fun H1 locs1 k1 k2 k3 => ?_)
    · by_cases hz : x3 = 1
      · rw [if_pos hz]
        rcases g3 hz with rfl | rfl <;> rfl
      · rw [if_neg hz]
        rfl
    · by_cases hz : x3 = 1
      · rw [if_pos hz]
        rcases g3 hz with rfl | rfl <;> rfl
      · rw [if_neg hz]
        rfl
    · have e := jx_ent_put (ad := ad) (cA := cA) (M := M) (v := v) g1 g2
      rw [e3] at e
      rw [← e, jx_wl_set hc1 hc2 jx_up_off] at k1
      have q := g4 a1 (jx_rl_tl (jx_rl_tl a2)) (jx_rM_up a3 (jx_rl_hd a2)) a4 H1 locs1 la h1 k1 k3
      rw [hn] at q
      exact q
  case iaload =>
    simp only [jx_xok, Bool.and_eq_true, beq_iff_eq, Prod.mk.injEq] at hck
    obtain ⟨⟨⟨rfl, rfl, rfl, rfl⟩, rfl⟩, hn⟩ := hck
    obtain ⟨cc, v, nn, r, rfl, g1, g2, g3, g4⟩ := h
    obtain ⟨hc1, hc2⟩ := hG.1 cc (by rw [g1]; exact Nat.le_of_ble_eq_true rfl)
    intro a1 a2 a3 a4 H locs la h1 h2 h3
    have rv : jx_r v := jx_rl_hd a2
    have hat := jx_wl_at (ad := ad) (cA := cA) (G := G) (M := M) hc1 hc2
    rw [jx_ent1 g1] at hat
    have q := g4 a1 (jx_rl_cons (a3 _ _) (jx_rl_tl (jx_rl_tl a2))) a3 a4 H locs la h1 h2 h3
    rw [hn] at q
    refine va_iald hx hb hK h2 (cc - 1) 0 hat rfl (jx_i_in rv g2 g3) hdec ?_
    rw [jx_i_cl rv, show ((v.toNat : Nat) : Int) = v by omega]
    exact q
  case baload =>
    simp only [jx_xok, Bool.and_eq_true, beq_iff_eq, Prod.mk.injEq] at hck
    obtain ⟨⟨⟨rfl, rfl, rfl, rfl⟩, rfl⟩, hn⟩ := hck
    obtain ⟨cc, v, nn, r, rfl, g1, g2, g3, g4⟩ := h
    obtain ⟨hc1, hc2⟩ := hG.1 cc (by rw [g1]; exact Nat.le_of_ble_eq_true rfl)
    intro a1 a2 a3 a4 H locs la h1 h2 h3
    have rv : jx_r v := jx_rl_hd a2
    have hat := jx_wl_at (ad := ad) (cA := cA) (G := G) (M := M) hc1 hc2
    rw [jx_ent2 g1] at hat
    have q := g4 a1 (jx_rl_cons (a3 _ _) (jx_rl_tl (jx_rl_tl a2))) a3 a4 H locs la h1 h2 h3
    rw [hn] at q
    refine va_zald hx hb hK h2 (cc - 1) 1 hat rfl (jx_i_in rv g2 g3) hdec ?_
    rw [jx_i_cl rv, show ((v.toNat : Nat) : Int) = v by omega]
    exact q
  case aaload =>
    simp only [jx_xok, Bool.and_eq_true, beq_iff_eq, Prod.mk.injEq] at hck
    obtain ⟨⟨⟨rfl, rfl, rfl, rfl⟩, rfl⟩, hn⟩ := hck
    obtain ⟨cc, v, nn, r, rfl, g1, g2, g3, g4⟩ := h
    obtain ⟨hc1, hc2⟩ := hG.1 cc (by rw [g1]; exact Nat.le_of_ble_eq_true rfl)
    intro a1 a2 a3 a4 H locs la h1 h2 h3
    have rv : jx_r v := jx_rl_hd a2
    have hat := jx_wl_at (ad := ad) (cA := cA) (G := G) (M := M) hc1 hc2
    rw [jx_ent3 g1] at hat
    have q := g4 a1 (jx_rl_cons (v := .inr (G.2 cc v.toNat)) trivial (jx_rl_tl (jx_rl_tl a2))) a3 a4 H locs la h1 h2 h3
    rw [hn] at q
    refine va_aldq hx hb hK h2 (cc - 1) 2 hat rfl (jx_i_in rv g2 g3) hdec ?_
    rw [jx_i_cl rv]
    exact q
  case arraylength =>
    simp only [jx_xok, Bool.and_eq_true, beq_iff_eq, Prod.mk.injEq] at hck
    obtain ⟨⟨⟨rfl, rfl, rfl, rfl⟩, rfl⟩, hn⟩ := hck
    obtain ⟨cc, nn, r, rfl, g1, g4⟩ := h
    obtain ⟨hc1, hc2⟩ := hG.1 cc (by rw [g1]; exact Nat.le_of_ble_eq_true rfl)
    intro a1 a2 a3 a4 H locs la h1 h2 h3
    have hat := jx_wl_at (ad := ad) (cA := cA) (G := G) (M := M) hc1 hc2
    rw [jx_ent1 g1] at hat
    have hnn : nn < 2147483648 := by have := hG.2 cc; rw [g1] at this; exact this
    have q := g4 a1 (jx_rl_cons (v := .inl (nn : Int)) (show jx_r _ by unfold jx_r; omega) (jx_rl_tl a2)) a3 a4 H locs la h1 h2 h3
    rw [hn] at q
    exact va_alen hx hb hK h2 (cc - 1) 0 hat rfl (v := Int32.ofInt (nn : Int)) rfl hdec q
  case iastore =>
    simp only [jx_xok, Bool.and_eq_true, beq_iff_eq, Prod.mk.injEq] at hck
    obtain ⟨⟨⟨rfl, rfl, rfl, rfl⟩, rfl⟩, hn⟩ := hck
    obtain ⟨cc, w, v, nn, r, rfl, g1, g2, g3, g4⟩ := h
    obtain ⟨hc1, hc2⟩ := hG.1 cc (by rw [g1]; exact Nat.le_of_ble_eq_true rfl)
    intro a1 a2 a3 a4 H locs la h1 h2 h3
    have rv : jx_r v := jx_rl_hd a2
    have rw1 : jx_r w := jx_rl_hd (jx_rl_tl a2)
    have hat := jx_wl_at (ad := ad) (cA := cA) (G := G) (M := M) hc1 hc2
    rw [jx_ent1 g1] at hat
    have hD := jx_D (ad := ad) (cA := cA) (G := G) (M := M) hi
    refine va_iast hx hb hK h2 hD h3 (cc - 1) 0 hat rfl (jx_i_in rw1 g2 g3) hdec (fun H1 locs1 k1 k2 k3 => ?_)
    rw [jx_i_cl rw1, ← jx_arr_up g2, ← jx_ent1 (ad := ad) (cA := cA) (M := jx_up M cc w v) g1, jx_wl_set hc1 hc2 jx_up_off] at k1
    have q := g4 a1 (jx_rl_tl (jx_rl_tl (jx_rl_tl a2))) (jx_rM_up a3 rv) a4 H1 locs1 la h1 k1 k3
    rw [hn] at q
    exact q
  case bastore =>
    simp only [jx_xok, Bool.and_eq_true, beq_iff_eq, Prod.mk.injEq] at hck
    obtain ⟨⟨⟨rfl, rfl, rfl, rfl⟩, rfl⟩, hn⟩ := hck
    obtain ⟨cc, w, v, nn, r, rfl, g1, g2, g3, g5, g4⟩ := h
    obtain ⟨hc1, hc2⟩ := hG.1 cc (by rw [g1]; exact Nat.le_of_ble_eq_true rfl)
    intro a1 a2 a3 a4 H locs la h1 h2 h3
    have rv : jx_r v := jx_rl_hd a2
    have rw1 : jx_r w := jx_rl_hd (jx_rl_tl a2)
    have hat := jx_wl_at (ad := ad) (cA := cA) (G := G) (M := M) hc1 hc2
    rw [jx_ent2 g1] at hat
    have hD := jx_D (ad := ad) (cA := cA) (G := G) (M := M) hi
    have hnar : vp_nar .boolean (Int32.ofInt v) = Int32.ofInt v := by rcases g5 with rfl | rfl <;> rfl
    refine va_zast hx hb hK h2 hD h3 (cc - 1) 1 hat rfl (jx_i_in rw1 g2 g3) hdec (fun H1 locs1 k1 k2 k3 => ?_)
    rw [hnar, jx_i_cl rw1, ← jx_arr_up g2, ← jx_ent2 (ad := ad) (cA := cA) (M := jx_up M cc w v) g1, jx_wl_set hc1 hc2 jx_up_off] at k1
    have q := g4 a1 (jx_rl_tl (jx_rl_tl (jx_rl_tl a2))) (jx_rM_up a3 rv) a4 H1 locs1 la h1 k1 k3
    rw [hn] at q
    exact q
  case ifnull off =>
    simp only [jx_xok, Bool.and_eq_true, beq_iff_eq, Prod.mk.injEq] at hck
    obtain ⟨⟨⟨rfl, -, rfl, rfl⟩, rfl⟩, hn⟩ := hck
    obtain ⟨cc, r, rfl, g2⟩ := h
    intro a1 a2 a3 a4 H locs la h1 h2 h3
    have q := g2 a1 (jx_rl_tl a2) a3 a4 H locs la h1 h2 h3
    rw [hn] at q
    exact lv_ifnull hx hb hdec q
  case ifnonnull off =>
    simp only [jx_xok, Bool.and_eq_true, beq_iff_eq, Prod.mk.injEq] at hck
    obtain ⟨⟨⟨rfl, -, rfl, rfl⟩, rfl⟩, ht⟩ := hck
    obtain ⟨cc, r, rfl, g2⟩ := h
    intro a1 a2 a3 a4 H locs la h1 h2 h3
    exact lv_ifnonnull hx hb hdec ht (g2 a1 (jx_rl_tl a2) a3 a4 H locs la h1 h2 h3)
  case ireturn =>
    simp only [jx_xok, Bool.and_eq_true, beq_iff_eq, Prod.mk.injEq] at hck
    obtain ⟨⟨rfl, hz, rfl, rfl⟩, rfl⟩ := hck
    obtain ⟨v, rfl, g1, g2⟩ := h
    intro a1 a2 a3 a4 H locs la h1 h2 h3
    have hq : ∀ t : State, t.heap = H → s.WarmedH t.vm → jx_post D ad cA G n K args s (.returned (some (.int (Int32.ofInt v)))) t := fun t ht _ => ⟨⟨some (.inl v), M, rfl, g2, fun w hw => by cases hw; exact jx_rl_hd a2, a3, by rw [ht]; exact h2⟩, h3.F ht⟩
    rcases hret.1 rfl with hz2 | hz2
    · exact W.iret (v := Int32.ofInt v) hx hb (by rw [hr, hz2]) hq h3.2.2 hdec hlocks
    · refine W.zret (v := Int32.ofInt v) (ty := .boolean) hx hb (by rw [hr, hz2]) ?_ hq h3.2.2 hdec hlocks
      rw [hz2] at hz
      rcases g1 hz with rfl | rfl <;> rfl
  case return_ =>
    simp only [jx_xok, Bool.and_eq_true, beq_iff_eq, Prod.mk.injEq] at hck
    obtain ⟨⟨rfl, rfl, rfl, rfl⟩, rfl⟩ := hck
    obtain ⟨rfl, g2⟩ := h
    intro a1 a2 a3 a4 H locs la h1 h2 h3
    exact W.vret hx hb (by rw [hr, hret.2.1 rfl]) (fun t ht _ => ⟨⟨none, M, rfl, g2, fun w hw => (by cases hw), a3, by rw [ht]; exact h2⟩, h3.F ht⟩) h3.2.2 hdec hlocks
  case areturn =>
    simp only [jx_xok, Bool.and_eq_true, beq_iff_eq, Prod.mk.injEq] at hck
    obtain ⟨⟨rfl, rfl, rfl, rfl⟩, rfl⟩ := hck
    obtain ⟨cc, rfl, g2⟩ := h
    intro a1 a2 a3 a4 H locs la h1 h2 h3
    exact W.aret (v := .ref (ad cc)) hx hb (by rw [hr, hret.2.2 rfl]) (Or.inl ⟨_, rfl⟩) (Or.inr ⟨_, rfl⟩) (fun t ht _ => ⟨⟨some (.inr cc), M, rfl, g2, fun w hw => by cases hw; exact trivial, a3, by rw [ht]; exact h2⟩, h3.F ht⟩) h3.2.2 hdec hlocks
  case invokevirtual i =>
    simp only [jx_xok, Bool.and_eq_true, beq_iff_eq, Prod.mk.injEq] at hck
    obtain ⟨⟨⟨⟨rfl, -, hx2, hx3⟩, rfl⟩, hn⟩, hv⟩ := hck
    have h : _ ∧ _ ∧ _ ∧ _ := h
    obtain ⟨z1, z2, z3, z4⟩ := h
    rw [hx3, Int.toNat_natCast] at z3
    exact ja_cv hG cx0 IH hnL hdec hn hx2 rfl hv ⟨z1, z2, z3, z4⟩
  case invokestatic i =>
    simp only [jx_xok, Bool.and_eq_true, Bool.or_eq_true, beq_iff_eq, Prod.mk.injEq, decide_eq_true_eq] at hck
    rcases hck with ((hck | hck) | hck) | hck
    · obtain ⟨⟨⟨⟨rfl, -, hx2, rfl⟩, rfl⟩, hn⟩, hv⟩ := hck
      refine ja_cs cx0 IH hnL hdec hn hx2 ?_ h
      rcases hv with hv | hv
      · exact Or.inl ⟨0, hv, rfl⟩
      · exact Or.inr hv
    · obtain ⟨⟨⟨⟨rfl, rfl, rfl, rfl⟩, rfl⟩, hn⟩, hv⟩ := hck
      obtain ⟨q, hq, hq2⟩ := List.any_eq_true.mp hv
      simp only [Bool.and_eq_true, beq_iff_eq] at hq2
      have b1 := List.all_eq_true.mp jx_cpl_ok q hq
      simp only [decide_eq_true_eq] at b1
      rw [hq2.1, hq2.2] at b1
      obtain ⟨hd1, kn, dp, cd, sp, ca, n0, n1, r, rfl, g1, g2, g3, g4, g5, g6, g7, g8, g9⟩ := h
      obtain ⟨hc1, hc2⟩ := hG.1 cd (by rw [g3]; exact Nat.le_of_ble_eq_true rfl)
      obtain ⟨hd3, hd2⟩ := hG.1 ca (by rw [g2]; exact Nat.le_of_ble_eq_true rfl)
      intro a1 a2 a3 a4 H locs la h1 h2 h3
      have r1 : jx_r kn := jx_rl_hd a2
      have r2 : jx_r dp := jx_rl_hd (jx_rl_tl a2)
      have r3 : jx_r sp := jx_rl_hd (jx_rl_tl (jx_rl_tl (jx_rl_tl a2)))
      have hat := jx_wl_at (ad := ad) (cA := cA) (G := G) (M := M) hc1 hc2
      have hat0 := jx_wl_at (ad := ad) (cA := cA) (G := G) (M := M) hd3 hd2
      rw [jx_ent1 g3] at hat
      rw [jx_ent1 g2] at hat0
      have hD := jx_D (ad := ad) (cA := cA) (G := G) (M := M) hi
      refine va_copyi hx hb (by rw [hml, hnL]; exact h1.1.symm) hown (hts _ (jx_gin _ b1 rfl)) (hts _ jx_cp_w.1) (hts _ jx_cp_w.2.1) (hts _ jx_cp_w.2.2) hK h2 hD h3 (ca - 1) (cd - 1) 0 0 hat0 hat rfl rfl rfl (fun z => ?_) (fun z => ?_) (fun z => ?_) ?_ ?_ (fun _ _ => rfl) hd1 ?_ hdec (fun H1 locs1 k1 k2 k3 => ?_)
      · rw [jx_i_lz r3] at z; omega
      · rw [jx_i_lz r2] at z; omega
      · rw [jx_i_lz r1] at z; omega
      · rw [jx_i_cl r3, jx_i_cl r1]; omega
      · rw [jx_i_cl r2, jx_i_cl r1]; omega
      · show ((r.map (jx_v ad)).map fun v => v.category).sum + (7 + 11) ≤ 36 * d
        rw [jx_cats]
        omega
      · rw [jx_i_cl r1, jx_i_cl r2, jx_i_cl r3, ← jx_arr_cp g4 g5 g6, ← jx_ent1 (ad := ad) (cA := cA) (M := jx_cp M ca sp cd dp kn) g3, jx_wl_set hc1 hc2 jx_cp_off] at k1
        have q := g9 a1 (jx_rl_tl (jx_rl_tl (jx_rl_tl (jx_rl_tl (jx_rl_tl a2))))) (jx_rM_cp a3) a4 H1 locs1 la h1 k1 k3
        rw [hn] at q
        exact q
    · obtain ⟨⟨⟨⟨rfl, rfl, rfl, rfl⟩, rfl⟩, hn⟩, hv⟩ := hck
      obtain ⟨q, hq, hq2⟩ := List.any_eq_true.mp hv
      simp only [Bool.and_eq_true, beq_iff_eq] at hq2
      have b1 := List.all_eq_true.mp jx_maxl_ok q hq
      simp only [decide_eq_true_eq] at b1
      rw [hq2.1, hq2.2] at b1
      obtain ⟨hd1, v, w, r, rfl, g1, g2⟩ := h
      intro a1 a2 a3 a4 H locs la h1 h2 h3
      have rw1 : jx_r w := jx_rl_hd a2
      have rv : jx_r v := jx_rl_hd (jx_rl_tl a2)
      have q := g2 a1 (jx_rl_cons (v := .inl (if v < w then w else v)) (show jx_r _ by split <;> assumption) (jx_rl_tl (jx_rl_tl a2))) a3 a4 H locs la h1 h2 h3
      rw [hn] at q
      refine va_mmax hx hb (by rw [hml, hnL]; exact h1.1.symm) hown (hts _ (jx_gin _ b1 rfl)) (hts _ jx_max_w.1) (hts _ jx_math_w) (hts _ jx_max_w.2) hd1 ?_ (Nat.zero_le _) (Nat.zero_le _) hdec ?_
      · rw [jx_cats]
        show r.length + 13 ≤ 36 * d
        omega
      · have e1 : (if Int32.ofInt v < Int32.ofInt w then Int32.ofInt w else Int32.ofInt v) = Int32.ofInt (if v < w then w else v) := by
          by_cases hz : v < w
          · rw [if_pos hz, if_pos ((jx_i_lt rv rw1).mpr hz)]
          · rw [if_neg hz, if_neg (fun z => hz ((jx_i_lt rv rw1).mp z))]
        rw [e1]
        exact q
    · obtain ⟨⟨⟨⟨rfl, rfl, rfl, rfl⟩, rfl⟩, hn⟩, hv⟩ := hck
      obtain ⟨q, hq, hq2⟩ := List.any_eq_true.mp hv
      simp only [Bool.and_eq_true, beq_iff_eq] at hq2
      have b1 := List.all_eq_true.mp jx_minl_ok q hq
      simp only [decide_eq_true_eq] at b1
      rw [hq2.1, hq2.2] at b1
      obtain ⟨hd1, v, w, r, rfl, g1, g2⟩ := h
      intro a1 a2 a3 a4 H locs la h1 h2 h3
      have rw1 : jx_r w := jx_rl_hd a2
      have rv : jx_r v := jx_rl_hd (jx_rl_tl a2)
      have q := g2 a1 (jx_rl_cons (v := .inl (if w < v then w else v)) (show jx_r _ by split <;> assumption) (jx_rl_tl (jx_rl_tl a2))) a3 a4 H locs la h1 h2 h3
      rw [hn] at q
      refine va_mmin hx hb (by rw [hml, hnL]; exact h1.1.symm) hown (hts _ (jx_gin _ b1 rfl)) (hts _ jx_min_w.1) (hts _ jx_math_w) (hts _ jx_min_w.2) hd1 ?_ (Nat.zero_le _) (Nat.zero_le _) hdec ?_
      · rw [jx_cats]
        show r.length + 13 ≤ 36 * d
        omega
      · have e1 : (if Int32.ofInt w < Int32.ofInt v then Int32.ofInt w else Int32.ofInt v) = Int32.ofInt (if w < v then w else v) := by
          by_cases hz : w < v
          · rw [if_pos hz, if_pos ((jx_i_lt rw1 rv).mpr hz)]
          · rw [if_neg hz, if_neg (fun z => hz ((jx_i_lt rw1 rv).mp z))]
        rw [e1]
        exact q
  all_goals (exact absurd hck Bool.false_ne_true)
end JU
theorem jx_retok : ∀ y, y < 128 → (jx_T y).2.all (fun x => (x.1 != 27 || decide ((jx_m y).2.2.2.1 = some .int ∨ (jx_m y).2.2.2.1 = some .boolean)) && (x.1 != 28 || decide ((jx_m y).2.2.2.1 = none)) && (x.1 != 29 || decide ((jx_m y).2.2.2.1 = some (.object "ReadingConverter$Ranking")))) = true := by decide +kernel
theorem jx_lg_len (ad : Nat → Nat) (as : List jxV) : (lg_sl (as.map (jx_v ad))).length = as.length := by
  induction as with
  | nil => rfl
  | cons v as ih =>
    have : lg_sl ((v :: as).map (jx_v ad)) = (lg_sl [jx_v ad v]) ++ lg_sl (as.map (jx_v ad)) := by
      simp [lg_sl]
    rw [this, List.length_append, ih]
    have h1 : (lg_sl [jx_v ad v]).length = 1 := by cases v <;> rfl
    rw [h1, List.length_cons]
    omega
theorem jx_args_mem (ad : Nat → Nat) (as : List jxV) : ∀ (k i : Nat) (v : jxV), as[i]? = some v → (k + i, jx_v ad v) ∈ lv_args k (as.map (jx_v ad)) := by
  induction as with
  | nil => intro k i v h; simp at h
  | cons w as ih =>
    intro k i v h
    have hc : ¬ (jx_v ad w).category = 2 := by rw [jx_v_cat]; decide
    simp only [List.map_cons, lv_args, if_neg hc]
    cases i with
    | zero =>
      simp at h
      subst h
      exact List.mem_cons_self
    | succ i =>
      simp at h
      refine List.mem_cons_of_mem _ ?_
      have := ih (k + 1) i v h
      rw [show k + (i + 1) = k + 1 + i by omega]
      exact this
set_option maxHeartbeats 4000000 in
theorem jx_one {l : Launch} {D : va_G} {ad : Nat → Nat} {cA : ClassId × ClassId × ClassId} {G : jxG} {n : Nat} (hG : jx_shape G n) (hi : jx_inj ad n) {d : Nat} (IH : jx_IH l D ad cA G n d) {y : Nat} {as : List jxV} {M : jxM} {K : jxK} (hy : y < 128) (has : as.length ≤ (jx_T y).1) (h : jx_call G jx_T (d + 1) y as M K) : jx_met l D ad cA G n d y as M K := by
  have hmk := jx_mall y hy
  obtain ⟨w1, w2, w3, ⟨w4, w5, w6, w7, w8, w9, w10, w11⟩, w12⟩ := hmk
  refine Met.ofW (cc := (jx_m y).2.1) (maxL := (jx_m y).2.2.1) (ret := (jx_m y).2.2.2.1) w4 rfl ?_
  intro p e s m args below meth c s₁ B hml hv
  obtain ⟨rfl, v1, v2, v3, v4, v5⟩ := hv
  have hts := atoms_spec (ws := jx_ws y) B.pre
  have cx : jx_cx p s m (as.map (jx_v ad)).toArray meth c D cA y := ⟨B.exec, B.bytes, hml, by rw [w8]; exact findClass_of_methodNamed B.named, B.returns, B.notSynchronized, fun w hw => hts w (List.mem_cons_of_mem _ hw), v4, v5⟩
  rw [lg_entry_eq]
  have hA := h (jx_AW p l e (jx_rm d) s m (as.map (jx_v ad)).toArray below meth c D ad cA G n (jx_m y).2.2.1 (jx_m y).2.2.2.2.2.2 (MQ below (jx_post D ad cA G n K) (as.map (jx_v ad)).toArray s 0 0 (jx_A ad n))) ⟨by
    intro pc ls st M' x hx hs
    have hk : pc < (jx_T y).2.length := (List.getElem?_eq_some_iff.mp hx).1
    have hc := List.all_eq_true.mp w12 pc (List.mem_range.mpr hk)
    have hxd : (jx_T y).2.getD pc (99, 0, 0, 0) = x := by rw [List.getD_eq_getElem?_getD, hx]; rfl
    rw [hxd] at hc
    cases hdc : decode (jx_m y).2.1 ((jx_m y).2.2.2.2.2.2.getD pc 0) with
    | error z => rw [hdc] at hc; exact absurd hc Bool.false_ne_true
    | ok q =>
      obtain ⟨ins, len⟩ := q
      rw [hdc] at hc
      have hrt := List.all_eq_true.mp (jx_retok y hy) x (List.mem_of_getElem? hx)
      simp only [Bool.and_eq_true, Bool.or_eq_true, bne_iff_ne, ne_eq, decide_eq_true_eq] at hrt
      exact jx_snd hG hi cx IH rfl rfl ⟨fun z => hrt.1.1.resolve_left (fun q => q z), fun z => hrt.1.2.resolve_left (fun q => q z), fun z => hrt.2.resolve_left (fun q => q z)⟩ hdc hc hs, by
    intro pc ls st M' a hs a1 a2 a3 a4 H locs la h1 h2 h3
    refine hs (jx_rl_set trivial a1) a2 a3 (by rw [List.length_set]; exact a4) H locs la ⟨h1.1, h1.2.1, fun i v hv ho => ?_⟩ h2 h3
    rw [List.getElem?_set] at hv
    by_cases hz : a = i
    · rw [if_pos hz] at hv
      split at hv
      · cases hv
        exact absurd ho Bool.false_ne_true
      · cases hv
    · rw [if_neg hz] at hv
      exact h1.2.2 i v hv ho⟩
  have hl := lv_entry (as.map (jx_v ad)) (n := (jx_m y).2.2.1) (by rw [jx_lg_len, ← w10]; exact has)
  rw [w10] at hA
  have := hA (fun v hv => by
      rcases List.mem_append.mp hv with hv | hv
      · exact v1 v hv
      · rw [List.eq_of_mem_replicate hv]; exact trivial) (fun v hv => by cases hv) v2 (by rw [List.length_append, List.length_replicate]; rw [w10] at has; omega) s.heap [] _ ⟨hl.1, hl.2.1, fun i v hv ho => by
      by_cases hz : i < as.length
      · rw [List.getElem?_append_left hz] at hv
        have q := hl.2.2 _ (jx_args_mem ad as 0 i v hv)
        simp only [Nat.zero_add] at q
        exact q
      · rw [List.getElem?_append_right (by omega)] at hv
        have := List.eq_of_mem_replicate (List.mem_of_getElem? hv)
        rw [this] at ho
        exact absurd ho Bool.false_ne_true⟩ v3 va_S.rf
  rw [w11] at this
  exact this
/-- THE PURE MACHINE IS SOUND -/
theorem jx_main (l : Launch) (D : va_G) (ad : Nat → Nat) (cA : ClassId × ClassId × ClassId) (G : jxG) (n : Nat) (hG : jx_shape G n) (hi : jx_inj ad n) : ∀ (d y : Nat) (as : List jxV) (M : jxM) (K : jxK), y < 128 → as.length ≤ (jx_T y).1 → jx_call G jx_T (d + 1) y as M K → jx_met l D ad cA G n d y as M K := by
  intro d
  induction d with
  | zero =>
    intro y as M K hy has h
    exact jx_one hG hi (fun d' y' as' M' K' hd => absurd hd (by omega)) hy has h
  | succ d ih =>
    intro y as M K hy has h
    refine jx_one hG hi (fun d' y' as' M' K' hd hy' has' hc => ?_) hy has h
    obtain rfl : d = d' := by omega
    exact ih y' as' M' K' hy' has' hc
theorem jx_shape1 : jx_shape jx_G1 jx_n1 := by
  refine ⟨fun c hc => ?_, fun c => ?_⟩
  · rcases Nat.lt_or_ge c 102 with q | q
    · have : ∀ c, c < 102 → (jx_G1.1 c).1 < 9 → 1 ≤ c ∧ c ≤ jx_n1 := by decide +kernel
      exact this c q hc
    · have e : jx_kd1[c]? = none := List.getElem?_eq_none (by show 102 ≤ c; exact q)
      exact absurd hc (by show ¬ ((jx_kd1[c]?).getD (9, 0)).1 < 9; rw [e]; exact Nat.lt_irrefl 9)
  · rcases Nat.lt_or_ge c 102 with q | q
    · have : ∀ c, c < 102 → (jx_G1.1 c).2 < 2147483648 := by decide +kernel
      exact this c q
    · have e : jx_kd1[c]? = none := List.getElem?_eq_none (by show 102 ≤ c; exact q)
      show ((jx_kd1[c]?).getD (9, 0)).2 < 2147483648
      rw [e]
      exact Nat.le_of_ble_eq_true rfl
theorem jx_shape2 : jx_shape jx_G2 jx_n2 := by
  refine ⟨fun c hc => ?_, fun c => ?_⟩
  · rcases Nat.lt_or_ge c 16 with q | q
    · have : ∀ c, c < 16 → (jx_G2.1 c).1 < 9 → 1 ≤ c ∧ c ≤ jx_n2 := by decide +kernel
      exact this c q hc
    · have e : jx_kd2[c]? = none := List.getElem?_eq_none (by show 16 ≤ c; exact q)
      exact absurd hc (by show ¬ ((jx_kd2[c]?).getD (9, 0)).1 < 9; rw [e]; exact Nat.lt_irrefl 9)
  · rcases Nat.lt_or_ge c 16 with q | q
    · have : ∀ c, c < 16 → (jx_G2.1 c).2 < 2147483648 := by decide +kernel
      exact this c q
    · have e : jx_kd2[c]? = none := List.getElem?_eq_none (by show 16 ≤ c; exact q)
      show ((jx_kd2[c]?).getD (9, 0)).2 < 2147483648
      rw [e]
      exact Nat.le_of_ble_eq_true rfl
