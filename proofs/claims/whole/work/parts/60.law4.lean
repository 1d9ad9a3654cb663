/-! THE LAW FROM ITS ENTRY: both objects made; written by wip/whole/gen_law.py -/
theorem jc_blindC {D : va_G} {cA : ClassId × ClassId × ClassId} {av : List Value} {sz : Nat} {ws : va_W} : FrameBlind (va_Pc av (fun U => U.heap.size = sz ∧ va_P D vwCl ws U.heap ∧ va_K D vwCl (jx_ty cA) U ∧ va_Nw jn_MD U ∧ va_Nw jn_HM U ∧ va_AO RX3 U ∧ va_Nw jn_CM U ∧ va_Nw jn_CT U)) := by
  intro a U g mk q
  obtain ⟨q0, q1, q2, q3, q4, q5, q6, q7, q8⟩ := q
  exact ⟨q0, q1, q2, va_K.moved (u := U) (U := U.calling g mk a) (Vm.Alike.refl U.vm) q3, va_Nw.same rfl rfl q4, va_Nw.same rfl rfl q5, va_AO.moved (u := U) (U := U.calling g mk a) (Vm.Alike.refl U.vm) q6, va_Nw.same rfl rfl q7, va_Nw.same rfl rfl q8⟩
theorem jl_adr {ws : va_W} {q : Nat → Nat} {n : Nat} {A : Nat → Prop} (h : ws.map (fun x => x.1) = (List.range n).map q) (hD : va_D A ws) {j : Nat} (hj : j < n) : ∃ x, ws[j]? = some x ∧ x.1 = q j ∧ A (q j) := by
  have h1 : (ws.map (fun x => x.1))[j]? = some (q j) := by rw [h, List.getElem?_map, List.getElem?_range hj]; rfl
  rw [List.getElem?_map] at h1
  cases hw : ws[j]? with
  | none => rw [hw] at h1; cases h1
  | some x =>
    rw [hw] at h1
    have e : x.1 = q j := Option.some.inj h1
    exact ⟨x, rfl, e, by rw [← e]; exact hD.2 j x hw⟩
theorem jl_pos : ∀ k, k < 102 → (js_pos[k]?).getD 0 < 101 := by decide +kernel
/-- the two objects of jw_C and jw_F are the loop's two worlds -/
theorem jl_begin {s : State} {D : va_G} {cA : ClassId × ClassId × ClassId} {q r : Nat → Nat} {H : Heap} {locs : List Loc} (hP : va_P D vwCl (jw_C cA q ++ jw_F cA r) H) (hD : va_D (fun q : Nat => s.heap.size ≤ q) (jw_C cA q ++ jw_F cA r)) (hS : va_S (fun q : Nat => s.heap.size ≤ q) s.heap H locs) : jl_two s D cA (js_ad q) (js_ad2 r) H locs ∧ (jx_inj (js_ad q) 101 ∧ jx_inj (js_ad2 r) 15) ∧ ((∀ z, jx_A (js_ad q) 101 z → s.heap.size ≤ z) ∧ (∀ z, jx_A (js_ad2 r) 15 z → s.heap.size ≤ z)) ∧ (∀ k k', 1 ≤ k → k ≤ 101 → 1 ≤ k' → k' ≤ 15 → js_ad q k ≠ js_ad2 r k') := by
  have l1 : (jw_C cA q).length = 101 := rfl
  have a1 : ∀ (k : Nat) (x : Nat × va_E), (jw_C cA q)[k]? = some x → (jw_C cA q ++ jw_F cA r)[k]? = some x := fun k x h => by
    rw [List.getElem?_append_left (List.getElem?_eq_some_iff.mp h).1]; exact h
  have a2 : ∀ (k : Nat) (x : Nat × va_E), (jw_F cA r)[k]? = some x → (jw_C cA q ++ jw_F cA r)[101 + k]? = some x := fun k x h => by
    rw [List.getElem?_append_right (by rw [l1]; omega), l1, Nat.add_sub_cancel_left]; exact h
  have P1 : va_P D vwCl (jw_C cA q) H := fun k x h => hP k x (a1 k x h)
  have P2 : va_P D vwCl (jw_F cA r) H := fun k x h => hP (101 + k) x (a2 k x h)
  have D1 : va_D (fun q : Nat => s.heap.size ≤ q) (jw_C cA q) := ⟨fun i j x y hx hy h => hD.1 i j x y (a1 i x hx) (a1 j y hy) h, fun k x h => hD.2 k x (a1 k x h)⟩
  have D2 : va_D (fun q : Nat => s.heap.size ≤ q) (jw_F cA r) := ⟨fun i j x y hx hy h => by have := hD.1 (101 + i) (101 + j) x y (a2 i x hx) (a2 j y hy) h; omega, fun k x h => hD.2 (101 + k) x (a2 k x h)⟩
  refine ⟨⟨js_M1, js_M2, js_rel, js_r1, js_r2, js_P1 P1, js_P2 P2, hS⟩, ⟨js_inj1 D1, js_inj2 D2⟩, ⟨?_, ?_⟩, ?_⟩
  · rintro z ⟨k, h1, h2, rfl⟩
    obtain ⟨x, x1, x2, x3⟩ := jl_adr (js_at1 cA q) D1 (jl_pos k (by omega))
    exact x3
  · rintro z ⟨k, h1, h2, rfl⟩
    obtain ⟨x, x1, x2, x3⟩ := jl_adr (js_at2 cA r) D2 (j := k - 1) (by omega)
    exact x3
  · intro k k' h1 h2 h3 h4 he
    obtain ⟨x, x1, x2, x3⟩ := jl_adr (js_at1 cA q) D1 (jl_pos k (by omega))
    obtain ⟨y, y1, y2, y3⟩ := jl_adr (js_at2 cA r) D2 (j := k' - 1) (by omega)
    have hk := jl_pos k (by omega)
    have := hD.1 _ _ x y (a1 _ x x1) (a2 _ y y1) (by rw [x2, y2]; exact he)
    omega
set_option maxHeartbeats 4000000 in
set_option maxRecDepth 100000 in
theorem whole_start {p : Program} {e : Env} {s : State} {m : MethodId} {below : List Frame} {meth : Method} {c : Code} (l : Launch) (hflags : l.flags = flags0) {b L : Nat} {xs : Nat → Int32} (hL : L ≤ 2048) (C0 : lw_At p s m meth c b L xs) : W p l e room_1 s m #[Value.ref b] below meth c s.heap [] 0 0 (lw_Z below #[Value.ref b] s) (entryFrame m ([Value.ref b] : List Value).toArray 4) := by
  obtain ⟨hx, hb, hr, hml, hown, hts, hX, hbl, hlocks, hgv⟩ := id C0
  have hg : ∀ w ∈ jx_gw, w.before #[Value.ref b] s = true := fun w hw => hts w (List.mem_filter.mp hw).1
  have hA : ∀ q : Nat, s.heap.size ≤ q → (fun q : Nat => s.heap.size ≤ q) q := fun _ h => h
  obtain ⟨D, cA, hK⟩ := jl_known hts
  have hS : va_S (fun q : Nat => s.heap.size ≤ q) s.heap s.heap [] := va_S.rf
  have hP : va_P D vwCl [] s.heap := fun k q h => by simp at h
  have hD : va_D (fun q : Nat => s.heap.size ≤ q) [] := ⟨fun i j p q h => by simp at h, fun k q h => by simp at h⟩
  have hl := lv_entry ([.ref b]) (n := 4) (Nat.le_of_ble_eq_true rfl)
  rw [lg_entry_eq]
  generalize (lg_sl ([.ref b]) ++ List.replicate (4 - (lg_sl ([.ref b])).length) Slot.unset).toArray = ls at hl ⊢
  have hl : lv_has ls 4 [(0, .ref b)] := hl
  refine va_new (ci := 6) (fs := [.null, .null, .null, .null, .null, .int 0]) (C := RX6) (T := TX6) (N := 6) hx hb hg ju_6 tyX6 tyX6_ok hown (hts (.classLink R_law 7 RX6) (List.mem_of_getElem? (i := 51) (by decide +kernel))) (hts (.instantiable RX6 6) (List.mem_of_getElem? (i := 52) (by decide +kernel))) (hts (.initialized RX6) (List.mem_of_getElem? (i := 40) (by decide +kernel))) hK hP hD hS hA rfl (fun j hj => by rcases (show j = 0 ∨ j = 1 ∨ j = 2 ∨ j = 3 ∨ j = 4 ∨ j = 5 by omega) with rfl | rfl | rfl | rfl | rfl | rfl <;> rfl) (Nat.le_of_ble_eq_true rfl) (Nat.le_of_ble_eq_true rfl) dl_0 (fun q0 H hP hD hS => ?_)
  have hP : va_P D vwCl ([] ++ [(q0, .inr (6, [.null, .null, .null, .null, .null, .int 0]))]) H := hP
  have hD : va_D (fun q : Nat => s.heap.size ≤ q) ([] ++ [(q0, .inr (6, [.null, .null, .null, .null, .null, .int 0]))]) := hD
  refine W.widen (k := 1) (n := 6) (Nat.le_of_ble_eq_true rfl) (Nat.le_of_ble_eq_true rfl) ?_
  refine lv_dup hx hb dl_3 rfl ?_
  have hFc := jc_free (wr := []) (x := (q0, .inr (6, [.null, .null, .null, .null, .null, .int 0]))) hD hS hA
  have hPx := jc_last (wr := []) (x := (q0, .inr (6, [.null, .null, .null, .null, .null, .int 0]))) hP
  refine va_callv (va_runI (As := []) (rest := [.ref q0]) ⟨hx, hb, hml, hown, hg⟩ (cc_C l D cA q0 H.size) ⟨callB_of 0 hg (jc_good (jx_gin 55 (by decide +kernel) rfl)) rfl rfl rfl (hts (.initialized RX6) (List.mem_of_getElem? (i := 40) (by decide +kernel))) (hts (.methodLink R_law 9 yX6_init) (List.mem_of_getElem? (i := 53) (by decide +kernel))) (by decide +kernel) ⟨Nat.le_of_ble_eq_true rfl, Nat.le_of_ble_eq_true rfl⟩, rfl, (hts (.instanceMethod yX6_init) (List.mem_of_getElem? (i := 54) (by decide +kernel)))⟩ ⟨jc_blindC, fun U hU hW => ⟨rfl, by rw [hU], by rw [hU]; exact hPx, va_K.moved hW.alike hK, va_Nw.warmM hW (jl_MD hts), va_Nw.warmM hW (jl_HM hts), va_AO.moved hW.alike (jl_AO hts), va_Nw.warmM hW (jl_CM hts), va_Nw.warmM hW (jl_CT hts)⟩⟩ rfl rfl hl.1 rfl (lv_room (Nat.le_of_ble_eq_true rfl)) dl_4 ⟨Nat.le_of_ble_eq_true rfl, Nat.le_of_ble_eq_true rfl⟩) hS (fun q _ h => hFc q h) hFc (fun u4 t H1 locs ht hvm h5 hB hz1 hk1 hS => ?_)
  obtain ⟨hP1, hD1⟩ := hB
  rw [ht] at hP1
  subst h5
  obtain ⟨hP, hD⟩ := jc_join (wr := []) (x := (u4 0, .inr (6, [.null, .null, .null, .null, .null, .int 0]))) hP hD hk1 hFc hP1 hD1
  clear hPx hFc hP1 hD1 hk1
  generalize H1 = H at hP hS ⊢
  refine W.widen (k := 101) (n := 11316) (Nat.le_of_ble_eq_true rfl) (Nat.le_of_ble_eq_true rfl) ?_
  refine lv_astore_n (lv' := [(1, .ref (u4 0)), (0, .ref b)]) hx hb dl_7 rfl hl (by decide) rfl (fun ls hl => ?_)
  refine va_new (ci := 7) (fs := [.null, .null, .int 0, .null, .int 0, .int 0, .int 0, .null, .null, .null, .null, .null, .null, .null, .int 0, .null, .null, .null, .null]) (C := RX7) (T := TX7) (N := 19) hx hb hg ju_7 tyX7 tyX7_ok hown (hts (.classLink R_law 10 RX7) (List.mem_of_getElem? (i := 615) (by decide +kernel))) (hts (.instantiable RX7 19) (List.mem_of_getElem? (i := 616) (by decide +kernel))) (hts (.initialized RX7) (List.mem_of_getElem? (i := 47) (by decide +kernel))) hK hP hD hS hA rfl (fun j hj => by rcases (show j = 0 ∨ j = 1 ∨ j = 2 ∨ j = 3 ∨ j = 4 ∨ j = 5 ∨ j = 6 ∨ j = 7 ∨ j = 8 ∨ j = 9 ∨ j = 10 ∨ j = 11 ∨ j = 12 ∨ j = 13 ∨ j = 14 ∨ j = 15 ∨ j = 16 ∨ j = 17 ∨ j = 18 by omega) with rfl | rfl | rfl | rfl | rfl | rfl | rfl | rfl | rfl | rfl | rfl | rfl | rfl | rfl | rfl | rfl | rfl | rfl | rfl <;> rfl) (Nat.le_of_ble_eq_true rfl) (Nat.le_of_ble_eq_true rfl) dl_8 (fun q8 H hP hD hS => ?_)
  refine W.widen (k := 102) (n := 11335) (Nat.le_of_ble_eq_true rfl) (Nat.le_of_ble_eq_true rfl) ?_
  refine lv_dup hx hb dl_11 rfl ?_
  have hFc := jc_free (wr := [] ++ jw_C cA u4) (x := (q8, .inr (7, [.null, .null, .int 0, .null, .int 0, .int 0, .int 0, .null, .null, .null, .null, .null, .null, .null, .int 0, .null, .null, .null, .null]))) hD hS hA
  have hPx := jc_last (wr := [] ++ jw_C cA u4) (x := (q8, .inr (7, [.null, .null, .int 0, .null, .int 0, .int 0, .int 0, .null, .null, .null, .null, .null, .null, .null, .int 0, .null, .null, .null, .null]))) hP
  refine va_callv (va_runI (As := []) (rest := [.ref q8]) ⟨hx, hb, hml, hown, hg⟩ (cc_F l D cA q8 H.size) ⟨callB_of 0 hg (jc_good (jx_gin 619 (by decide +kernel) rfl)) rfl rfl rfl (hts (.initialized RX7) (List.mem_of_getElem? (i := 47) (by decide +kernel))) (hts (.methodLink R_law 12 yX7_init) (List.mem_of_getElem? (i := 617) (by decide +kernel))) (by decide +kernel) ⟨Nat.le_of_ble_eq_true rfl, Nat.le_of_ble_eq_true rfl⟩, rfl, (hts (.instanceMethod yX7_init) (List.mem_of_getElem? (i := 618) (by decide +kernel)))⟩ ⟨jc_blind, fun U hU hW => ⟨rfl, by rw [hU], by rw [hU]; exact hPx, va_K.moved hW.alike hK⟩⟩ rfl rfl hl.1 rfl (lv_room (Nat.le_of_ble_eq_true rfl)) dl_12 ⟨Nat.le_of_ble_eq_true rfl, Nat.le_of_ble_eq_true rfl⟩) hS (fun q _ h => hFc q h) hFc (fun u12 t H1 locs ht hvm h5 hB hz1 hk1 hS => ?_)
  obtain ⟨hP1, hD1⟩ := hB
  rw [ht] at hP1
  subst h5
  obtain ⟨hP, hD⟩ := jc_join (wr := [] ++ jw_C cA u4) (x := (u12 0, .inr (7, [.null, .null, .int 0, .null, .int 0, .int 0, .int 0, .null, .null, .null, .null, .null, .null, .null, .int 0, .null, .null, .null, .null]))) hP hD hk1 hFc hP1 hD1
  clear hPx hFc hP1 hD1 hk1
  generalize H1 = H at hP hS ⊢
  refine W.widen (k := 116) (n := 21176) (Nat.le_of_ble_eq_true rfl) (Nat.le_of_ble_eq_true rfl) ?_
  refine lv_astore_n (lv' := [(2, .ref (u12 0)), (1, .ref (u4 0)), (0, .ref b)]) hx hb dl_15 rfl hl (by decide) rfl (fun ls hl => ?_)
  refine lv_iconst (v := 0) hx hb dl_16 (by decide) ?_
  refine lv_istore_n (lv' := [(3, .int 0), (2, .ref (u12 0)), (1, .ref (u4 0)), (0, .ref b)]) hx hb dl_17 rfl hl (by decide) rfl (fun ls hl => ?_)
  obtain ⟨hT, g1, g2, g3⟩ := jl_begin (q := u4) (r := u12) hP hD hS
  exact jl_loop ⟨hL, C0, hK, jl_nw hts, g1, g2, g3⟩ ⟨Nat.le_of_ble_eq_true rfl, Nat.le_of_ble_eq_true rfl⟩ L 0 (by omega) (by omega) H _ ls hT (lv_sub hl [3, 2, 1, 0] rfl)
