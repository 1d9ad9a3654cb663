theorem jc_nd : ∀ l : List Nat, l.Nodup → va_nd l = true
  | [], _ => rfl
  | a :: l, h => by
    have := List.nodup_cons.mp h
    simp only [va_nd, Bool.and_eq_true, decide_eq_true_eq]
    exact ⟨this.1, jc_nd l this.2⟩
theorem jc_R (wr : va_W) (x : Nat × va_E) : (List.range wr.length).map (fun i => (wr ++ [x])[i]?) = wr.map some := by
  apply List.ext_getElem?
  intro k
  rw [List.getElem?_map, List.getElem?_map]
  by_cases hk : k < wr.length
  · rw [List.getElem?_range hk, Option.map_some, List.getElem?_append_left hk, List.getElem?_eq_getElem hk]
    rfl
  · rw [List.getElem?_eq_none (by simpa using hk), List.getElem?_eq_none (by simpa using hk)]
    rfl
theorem jc_C (wr : va_W) (x : Nat × va_E) : [wr.length].map (fun i => (wr ++ [x])[i]?) = [x].map some := by simp
theorem jc_join {A0 : Nat → Prop} {D : va_G} {cl : List vw_C} {wr w1 : va_W} {x : Nat × va_E} {H H1 : Heap} (hP : va_P D cl (wr ++ [x]) H) (hD : va_D A0 (wr ++ [x])) (hk : ∀ q : Nat, q < H.size → ¬ va_A [x] H.size q → H1[q]? = H[q]?) (hF : ∀ q, va_A [x] H.size q → A0 q) (hP1 : va_P D cl w1 H1) (hD1 : va_D (va_A [x] H.size) w1) : va_P D cl (wr ++ w1) H1 ∧ va_D A0 (wr ++ w1) :=
  va_join hP hD [wr.length] (List.range wr.length) (jc_C wr x) (jc_R wr x) (jc_nd _ List.nodup_range) (fun i hi h => by
    have h1 := List.mem_range.mp hi
    have h2 := List.mem_singleton.mp h
    omega) hk hF hP1 hD1
theorem jc_free {A0 : Nat → Prop} {wr : va_W} {x : Nat × va_E} {H0 H : Heap} {locs : List Loc} (hD : va_D A0 (wr ++ [x])) (hS : va_S A0 H0 H locs) (hA : ∀ q, H0.size ≤ q → A0 q) : ∀ q, va_A [x] H.size q → A0 q := va_free (wc := [x]) hD hS hA [wr.length] (jc_C wr x)
theorem jc_last {D : va_G} {cl : List vw_C} {wr : va_W} {x : Nat × va_E} {H : Heap} (hP : va_P D cl (wr ++ [x]) H) : va_P D cl [x] H := hP.sub [wr.length] (by simp)
theorem jc_good {w0 : Cond} (h : w0 ∈ jx_gw) : GoodIn jx_gw (w0 :: jx_gw) := by
  intro w hw
  rcases List.mem_cons.mp hw with rfl | hw
  · exact jx_good _ h
  · exact jx_good _ hw
theorem jc_blind {D : va_G} {cA : ClassId × ClassId × ClassId} {av : List Value} {sz : Nat} {ws : va_W} : FrameBlind (va_Pc av (fun U => U.heap.size = sz ∧ va_P D vwCl ws U.heap ∧ va_K D vwCl (jx_ty cA) U)) := by
  intro a U g mk q
  obtain ⟨q0, q1, qP, qK⟩ := q
  exact ⟨q0, q1, qP, va_K.moved (u := U) (U := U.calling g mk a) (Vm.Alike.refl U.vm) qK⟩
def jn_MD : Cond := .methodLinkNest RX3 11 yX0_init "ReadingConverter"
theorem jg_102 : Cond.fieldLink RX3 12 RX3 "dictionary" "LReadingConverter$Dictionary;" ∈ jx_gw := jx_gin 102 (by decide +kernel) rfl
theorem jg_105 : Cond.fieldLink RX3 18 RX3 "connections" "[I" ∈ jx_gw := jx_gin 105 (by decide +kernel) rfl
theorem jg_107 : Cond.fieldLink RX3 22 RX3 "input" "[I" ∈ jx_gw := jx_gin 107 (by decide +kernel) rfl
theorem jg_108 : Cond.fieldLink RX3 25 RX3 "constraints" "[I" ∈ jx_gw := jx_gin 108 (by decide +kernel) rfl
theorem jg_110 : Cond.fieldLink RX3 28 RX3 "unknownCost" "I" ∈ jx_gw := jx_gin 110 (by decide +kernel) rfl
theorem jg_42 : Cond.initialized RX0 ∈ jx_gw := jx_gin 42 (by decide +kernel) rfl
theorem jg_64 : Cond.methodLink RX3 3 objectInit ∈ jx_gw := jx_gin 64 (by decide +kernel) rfl
theorem jg_65 : Cond.classLink RX3 9 RX0 ∈ jx_gw := jx_gin 65 (by decide +kernel) rfl
theorem jg_66 : Cond.instantiable RX0 7 ∈ jx_gw := jx_gin 66 (by decide +kernel) rfl
theorem jg_68 : Cond.instanceMethod yX0_init ∈ jx_gw := jx_gin 68 (by decide +kernel) rfl
theorem jg_69 : Cond.code yX0_init cX0_init 1 none ∈ jx_gw := jx_gin 69 (by decide +kernel) rfl
theorem dk_M_0 : decode cX3_init 0 = .ok (.aload_n 0, 1) := by decide +kernel
theorem dk_M_1 : decode cX3_init 1 = .ok (.invokespecial 3, 3) := by decide +kernel
theorem dk_M_4 : decode cX3_init 4 = .ok (.aload_n 0, 1) := by decide +kernel
theorem dk_M_5 : decode cX3_init 5 = .ok (.new 9, 3) := by decide +kernel
theorem dk_M_8 : decode cX3_init 8 = .ok (.dup, 1) := by decide +kernel
theorem dk_M_9 : decode cX3_init 9 = .ok (.invokespecial 11, 3) := by decide +kernel
theorem dk_M_12 : decode cX3_init 12 = .ok (.putfield 12, 3) := by decide +kernel
theorem dk_M_15 : decode cX3_init 15 = .ok (.aload_n 0, 1) := by decide +kernel
theorem dk_M_16 : decode cX3_init 16 = .ok (.bipush 49, 2) := by decide +kernel
theorem dk_M_18 : decode cX3_init 18 = .ok (.newarray .int, 2) := by decide +kernel
theorem dk_M_20 : decode cX3_init 20 = .ok (.putfield 18, 3) := by decide +kernel
theorem dk_M_23 : decode cX3_init 23 = .ok (.aload_n 0, 1) := by decide +kernel
theorem dk_M_24 : decode cX3_init 24 = .ok (.bipush 16, 2) := by decide +kernel
theorem dk_M_26 : decode cX3_init 26 = .ok (.newarray .int, 2) := by decide +kernel
theorem dk_M_28 : decode cX3_init 28 = .ok (.putfield 22, 3) := by decide +kernel
theorem dk_M_31 : decode cX3_init 31 = .ok (.aload_n 0, 1) := by decide +kernel
theorem dk_M_32 : decode cX3_init 32 = .ok (.bipush 17, 2) := by decide +kernel
theorem dk_M_34 : decode cX3_init 34 = .ok (.newarray .int, 2) := by decide +kernel
theorem dk_M_36 : decode cX3_init 36 = .ok (.putfield 25, 3) := by decide +kernel
theorem dk_M_39 : decode cX3_init 39 = .ok (.aload_n 0, 1) := by decide +kernel
theorem dk_M_40 : decode cX3_init 40 = .ok (.bipush 100, 2) := by decide +kernel
theorem dk_M_42 : decode cX3_init 42 = .ok (.putfield 28, 3) := by decide +kernel
theorem dk_M_45 : decode cX3_init 45 = .ok (.return_, 1) := by decide +kernel
abbrev jw_M (cA : ClassId × ClassId × ClassId) (q : Nat → Nat) : va_W := [((q 0), .inr (3, [.ref (q 1), .ref (q 8), .ref (q 9), .ref (q 10), .int 100, .int 0])), ((q 1), .inr (0, [.ref (q 2), .ref (q 3), .ref (q 4), .ref (q 5), .ref (q 6), .ref (q 7), .int 0])), ((q 2), .inl (cA.1, 120, .inl (fun _ => 0))), ((q 3), .inl (cA.1, 20, .inl (fun _ => 0))), ((q 4), .inl (cA.1, 20, .inl (fun _ => 0))), ((q 5), .inl (cA.1, 20, .inl (fun _ => 0))), ((q 6), .inl (cA.1, 20, .inl (fun _ => 0))), ((q 7), .inl (cA.1, 20, .inl (fun _ => 0))), ((q 8), .inl (cA.1, 49, .inl (fun _ => 0))), ((q 9), .inl (cA.1, 16, .inl (fun _ => 0))), ((q 10), .inl (cA.1, 17, .inl (fun _ => 0)))]
set_option maxHeartbeats 4000000 in
set_option maxRecDepth 100000 in
theorem cc_M (l : Launch) (D : va_G) (cA : ClassId × ClassId × ClassId) (h0 sz : Nat) : Met l yX3_init (Cond.code yX3_init cX3_init 1 none :: jx_gw) ({ frames := 2, cells := 10, slots := 309, locals := 32 }) (va_Pc [.ref h0] (fun U => U.heap.size = sz ∧ va_P D vwCl [(h0, .inr (3, [.null, .null, .null, .null, .int 0, .int 0]))] U.heap ∧ va_K D vwCl (jx_ty cA) U ∧ va_Nw jn_MD U)) (va_Qv (fun q : Nat → Nat => q 0 = h0) (fun q t => va_P D vwCl (jw_M cA q) t.heap ∧ va_D (va_A [(h0, .inr (3, [.null, .null, .null, .null, .int 0, .int 0]))] sz) (jw_M cA q)) (va_A [(h0, .inr (3, [.null, .null, .null, .null, .int 0, .int 0]))] sz)) 10 309 (va_A [(h0, .inr (3, [.null, .null, .null, .null, .int 0, .int 0]))] sz) := by
  refine Met.ofW (cc := cX3_init) (maxL := 1) (ret := none) (by decide) rfl ?_
  intro p e s m args below meth c s₁ B hml hv
  obtain ⟨rfl, hsz, hP, hK, hN⟩ := hv
  have hx := B.exec
  have hb := B.bytes
  have hr := B.returns
  have hts := atoms_spec (ws := (Cond.code yX3_init cX3_init 1 none :: jx_gw)) B.pre
  have hg : ∀ w ∈ jx_gw, w.before _ s = true := fun w hw => hts w (List.mem_cons_of_mem _ hw)
  have hown : s.vm.findClass RX3 = some m.cls := findClass_of_methodNamed B.named
  have hlocks := B.notSynchronized
  have hin : meth.name = "<init>" := (name_of_methodNamed B.named B.method).1
  subst hsz
  have hD := jc_D1 (x := (h0, .inr (3, [.null, .null, .null, .null, .int 0, .int 0]))) (sz := s.heap.size)
  generalize hAe : va_A [(h0, .inr (3, [.null, .null, .null, .null, .int 0, .int 0]))] s.heap.size = A at hD ⊢
  have hA : ∀ q : Nat, s.heap.size ≤ q → A q := fun q h => by rw [← hAe]; exact Or.inr h
  have hS : va_S A s.heap s.heap [] := va_S.rf
  have hl := lv_entry ([.ref h0]) (n := 1) (Nat.le_of_ble_eq_true rfl)
  rw [lg_entry_eq]
  generalize (lg_sl ([.ref h0]) ++ List.replicate (1 - (lg_sl ([.ref h0])).length) Slot.unset).toArray = ls at hl ⊢
  have hl : lv_has ls 1 [(0, .ref h0)] := hl
  refine lv_aload_n hx hb dk_M_0 rfl (lv_at hl 0 rfl) ?_
  refine W.objInit hx hb hown (hg _ jg_64) (hg _ jg_57) (hg _ jg_58) rfl (by rw [hml]; exact hl.1) rfl dk_M_1 (Nat.le_of_ble_eq_true rfl) (Nat.le_of_ble_eq_true rfl) ?_
  refine W.eq (g2 := F0 m 4 ls []) rfl ?_
  refine lv_aload_n hx hb dk_M_4 rfl (lv_at hl 0 rfl) ?_
  refine va_new (ci := 0) (fs := [.null, .null, .null, .null, .null, .null, .int 0]) (C := RX0) (T := TX0) (N := 7) hx hb hg ju_0 tyX0 tyX0_ok hown (hg _ jg_65) (hg _ jg_66) (hg _ jg_42) hK hP hD hS hA rfl (fun j hj => by rcases (show j = 0 ∨ j = 1 ∨ j = 2 ∨ j = 3 ∨ j = 4 ∨ j = 5 ∨ j = 6 by omega) with rfl | rfl | rfl | rfl | rfl | rfl | rfl <;> rfl) (Nat.le_of_ble_eq_true rfl) (Nat.le_of_ble_eq_true rfl) dk_M_5 (fun q5 H hP hD hS => ?_)
  have hP : va_P D vwCl [(h0, .inr (3, [.null, .null, .null, .null, .int 0, .int 0])), (q5, .inr (0, [.null, .null, .null, .null, .null, .null, .int 0]))] H := hP
  have hD : va_D A [(h0, .inr (3, [.null, .null, .null, .null, .int 0, .int 0])), (q5, .inr (0, [.null, .null, .null, .null, .null, .null, .int 0]))] := hD
  refine W.widen (k := 1) (n := 7) (Nat.le_of_ble_eq_true rfl) (Nat.le_of_ble_eq_true rfl) ?_
  refine lv_dup hx hb dk_M_8 rfl ?_
  have hFc := jc_free (wr := [(h0, .inr (3, [.null, .null, .null, .null, .int 0, .int 0]))]) (x := (q5, .inr (0, [.null, .null, .null, .null, .null, .null, .int 0]))) hD hS hA
  have hPx := jc_last (wr := [(h0, .inr (3, [.null, .null, .null, .null, .int 0, .int 0]))]) (x := (q5, .inr (0, [.null, .null, .null, .null, .null, .null, .int 0]))) hP
  refine va_callv (va_runIN (As := []) (rest := [.ref q5, .ref h0]) ⟨hx, hb, hml, hown, hg⟩ (cc_D l D cA q5 H.size) ⟨va_cnB 0 hg (jc_good jg_69) rfl rfl rfl hN (hg _ jg_42) (by decide +kernel) ⟨Nat.le_of_ble_eq_true rfl, Nat.le_of_ble_eq_true rfl⟩, rfl, (hg _ jg_68)⟩ ⟨jc_blind, fun U hU hW => ⟨rfl, by rw [hU], by rw [hU]; exact hPx, va_K.moved hW.alike hK⟩⟩ rfl rfl hl.1 rfl (lv_room (Nat.le_of_ble_eq_true rfl)) dk_M_9 ⟨Nat.le_of_ble_eq_true rfl, Nat.le_of_ble_eq_true rfl⟩) hS (fun q _ h => hFc q h) hFc (fun u9 t H1 locs ht hvm h5 hB hz1 hk1 hS => ?_)
  obtain ⟨hP1, hD1⟩ := hB
  rw [ht] at hP1
  subst h5
  obtain ⟨hP, hD⟩ := jc_join (wr := [(h0, .inr (3, [.null, .null, .null, .null, .int 0, .int 0]))]) (x := ((u9 0), .inr (0, [.null, .null, .null, .null, .null, .null, .int 0]))) hP hD hk1 hFc hP1 hD1
  clear hPx hFc
  generalize H1 = H at hP hS ⊢
  have hP : va_P D vwCl [(h0, .inr (3, [.null, .null, .null, .null, .int 0, .int 0])), ((u9 0), .inr (0, [.ref (u9 1), .ref (u9 2), .ref (u9 3), .ref (u9 4), .ref (u9 5), .ref (u9 6), .int 0])), ((u9 1), .inl (cA.1, 120, .inl (fun _ => 0))), ((u9 2), .inl (cA.1, 20, .inl (fun _ => 0))), ((u9 3), .inl (cA.1, 20, .inl (fun _ => 0))), ((u9 4), .inl (cA.1, 20, .inl (fun _ => 0))), ((u9 5), .inl (cA.1, 20, .inl (fun _ => 0))), ((u9 6), .inl (cA.1, 20, .inl (fun _ => 0)))] H := hP
  have hD : va_D A [(h0, .inr (3, [.null, .null, .null, .null, .int 0, .int 0])), ((u9 0), .inr (0, [.ref (u9 1), .ref (u9 2), .ref (u9 3), .ref (u9 4), .ref (u9 5), .ref (u9 6), .int 0])), ((u9 1), .inl (cA.1, 120, .inl (fun _ => 0))), ((u9 2), .inl (cA.1, 20, .inl (fun _ => 0))), ((u9 3), .inl (cA.1, 20, .inl (fun _ => 0))), ((u9 4), .inl (cA.1, 20, .inl (fun _ => 0))), ((u9 5), .inl (cA.1, 20, .inl (fun _ => 0))), ((u9 6), .inl (cA.1, 20, .inl (fun _ => 0)))] := hD
  refine W.widen (k := 7) (n := 227) (Nat.le_of_ble_eq_true rfl) (Nat.le_of_ble_eq_true rfl) ?_
  refine va_putF (D := D) (ci := 3) (v := .ref (u9 0)) (ty := (.object "ReadingConverter$Dictionary")) (C := RX3) (T := TX3) (N := 6) hx hb hg ju_3 tyX3 tyX3_ok nmX3 hown hK hP hD hS 0 rfl rfl 0 (by decide) (hg _ jg_102) (fun _ h9 => h9) rfl hin rfl (by decide +kernel) rfl rfl (Nat.le_of_ble_eq_true rfl) dk_M_12 (fun H locs hP hD hS => ?_)
  have hP : va_P D vwCl [(h0, .inr (3, [.ref (u9 0), .null, .null, .null, .int 0, .int 0])), ((u9 0), .inr (0, [.ref (u9 1), .ref (u9 2), .ref (u9 3), .ref (u9 4), .ref (u9 5), .ref (u9 6), .int 0])), ((u9 1), .inl (cA.1, 120, .inl (fun _ => 0))), ((u9 2), .inl (cA.1, 20, .inl (fun _ => 0))), ((u9 3), .inl (cA.1, 20, .inl (fun _ => 0))), ((u9 4), .inl (cA.1, 20, .inl (fun _ => 0))), ((u9 5), .inl (cA.1, 20, .inl (fun _ => 0))), ((u9 6), .inl (cA.1, 20, .inl (fun _ => 0)))] H := hP
  have hD : va_D A [(h0, .inr (3, [.ref (u9 0), .null, .null, .null, .int 0, .int 0])), ((u9 0), .inr (0, [.ref (u9 1), .ref (u9 2), .ref (u9 3), .ref (u9 4), .ref (u9 5), .ref (u9 6), .int 0])), ((u9 1), .inl (cA.1, 120, .inl (fun _ => 0))), ((u9 2), .inl (cA.1, 20, .inl (fun _ => 0))), ((u9 3), .inl (cA.1, 20, .inl (fun _ => 0))), ((u9 4), .inl (cA.1, 20, .inl (fun _ => 0))), ((u9 5), .inl (cA.1, 20, .inl (fun _ => 0))), ((u9 6), .inl (cA.1, 20, .inl (fun _ => 0)))] := hD
  refine lv_aload_n hx hb dk_M_15 rfl (lv_at hl 0 rfl) ?_
  refine lv_bipush (v := 49) hx hb dk_M_16 (by decide) ?_
  refine jc_newi (N' := 49) hx hb hg hK hP hD hS hA (by decide) (by decide) (by decide) (Nat.le_of_ble_eq_true rfl) (Nat.le_of_ble_eq_true rfl) dk_M_18 (fun q18 H hP hD hS => ?_)
  have hP : va_P D vwCl [(h0, .inr (3, [.ref (u9 0), .null, .null, .null, .int 0, .int 0])), ((u9 0), .inr (0, [.ref (u9 1), .ref (u9 2), .ref (u9 3), .ref (u9 4), .ref (u9 5), .ref (u9 6), .int 0])), ((u9 1), .inl (cA.1, 120, .inl (fun _ => 0))), ((u9 2), .inl (cA.1, 20, .inl (fun _ => 0))), ((u9 3), .inl (cA.1, 20, .inl (fun _ => 0))), ((u9 4), .inl (cA.1, 20, .inl (fun _ => 0))), ((u9 5), .inl (cA.1, 20, .inl (fun _ => 0))), ((u9 6), .inl (cA.1, 20, .inl (fun _ => 0))), (q18, .inl (cA.1, 49, .inl (fun _ => 0)))] H := hP
  have hD : va_D A [(h0, .inr (3, [.ref (u9 0), .null, .null, .null, .int 0, .int 0])), ((u9 0), .inr (0, [.ref (u9 1), .ref (u9 2), .ref (u9 3), .ref (u9 4), .ref (u9 5), .ref (u9 6), .int 0])), ((u9 1), .inl (cA.1, 120, .inl (fun _ => 0))), ((u9 2), .inl (cA.1, 20, .inl (fun _ => 0))), ((u9 3), .inl (cA.1, 20, .inl (fun _ => 0))), ((u9 4), .inl (cA.1, 20, .inl (fun _ => 0))), ((u9 5), .inl (cA.1, 20, .inl (fun _ => 0))), ((u9 6), .inl (cA.1, 20, .inl (fun _ => 0))), (q18, .inl (cA.1, 49, .inl (fun _ => 0)))] := hD
  refine W.widen (k := 8) (n := 276) (Nat.le_of_ble_eq_true rfl) (Nat.le_of_ble_eq_true rfl) ?_
  refine va_putF (D := D) (ci := 3) (v := .ref q18) (ty := (.array .int)) (C := RX3) (T := TX3) (N := 6) hx hb hg ju_3 tyX3 tyX3_ok nmX3 hown hK hP hD hS 0 rfl rfl 1 (by decide) (hg _ jg_105) (fun _ h9 => h9) rfl hin rfl (by decide +kernel) rfl rfl (Nat.le_of_ble_eq_true rfl) dk_M_20 (fun H locs hP hD hS => ?_)
  have hP : va_P D vwCl [(h0, .inr (3, [.ref (u9 0), .ref q18, .null, .null, .int 0, .int 0])), ((u9 0), .inr (0, [.ref (u9 1), .ref (u9 2), .ref (u9 3), .ref (u9 4), .ref (u9 5), .ref (u9 6), .int 0])), ((u9 1), .inl (cA.1, 120, .inl (fun _ => 0))), ((u9 2), .inl (cA.1, 20, .inl (fun _ => 0))), ((u9 3), .inl (cA.1, 20, .inl (fun _ => 0))), ((u9 4), .inl (cA.1, 20, .inl (fun _ => 0))), ((u9 5), .inl (cA.1, 20, .inl (fun _ => 0))), ((u9 6), .inl (cA.1, 20, .inl (fun _ => 0))), (q18, .inl (cA.1, 49, .inl (fun _ => 0)))] H := hP
  have hD : va_D A [(h0, .inr (3, [.ref (u9 0), .ref q18, .null, .null, .int 0, .int 0])), ((u9 0), .inr (0, [.ref (u9 1), .ref (u9 2), .ref (u9 3), .ref (u9 4), .ref (u9 5), .ref (u9 6), .int 0])), ((u9 1), .inl (cA.1, 120, .inl (fun _ => 0))), ((u9 2), .inl (cA.1, 20, .inl (fun _ => 0))), ((u9 3), .inl (cA.1, 20, .inl (fun _ => 0))), ((u9 4), .inl (cA.1, 20, .inl (fun _ => 0))), ((u9 5), .inl (cA.1, 20, .inl (fun _ => 0))), ((u9 6), .inl (cA.1, 20, .inl (fun _ => 0))), (q18, .inl (cA.1, 49, .inl (fun _ => 0)))] := hD
  refine lv_aload_n hx hb dk_M_23 rfl (lv_at hl 0 rfl) ?_
  refine lv_bipush (v := 16) hx hb dk_M_24 (by decide) ?_
  refine jc_newi (N' := 16) hx hb hg hK hP hD hS hA (by decide) (by decide) (by decide) (Nat.le_of_ble_eq_true rfl) (Nat.le_of_ble_eq_true rfl) dk_M_26 (fun q26 H hP hD hS => ?_)
  have hP : va_P D vwCl [(h0, .inr (3, [.ref (u9 0), .ref q18, .null, .null, .int 0, .int 0])), ((u9 0), .inr (0, [.ref (u9 1), .ref (u9 2), .ref (u9 3), .ref (u9 4), .ref (u9 5), .ref (u9 6), .int 0])), ((u9 1), .inl (cA.1, 120, .inl (fun _ => 0))), ((u9 2), .inl (cA.1, 20, .inl (fun _ => 0))), ((u9 3), .inl (cA.1, 20, .inl (fun _ => 0))), ((u9 4), .inl (cA.1, 20, .inl (fun _ => 0))), ((u9 5), .inl (cA.1, 20, .inl (fun _ => 0))), ((u9 6), .inl (cA.1, 20, .inl (fun _ => 0))), (q18, .inl (cA.1, 49, .inl (fun _ => 0))), (q26, .inl (cA.1, 16, .inl (fun _ => 0)))] H := hP
  have hD : va_D A [(h0, .inr (3, [.ref (u9 0), .ref q18, .null, .null, .int 0, .int 0])), ((u9 0), .inr (0, [.ref (u9 1), .ref (u9 2), .ref (u9 3), .ref (u9 4), .ref (u9 5), .ref (u9 6), .int 0])), ((u9 1), .inl (cA.1, 120, .inl (fun _ => 0))), ((u9 2), .inl (cA.1, 20, .inl (fun _ => 0))), ((u9 3), .inl (cA.1, 20, .inl (fun _ => 0))), ((u9 4), .inl (cA.1, 20, .inl (fun _ => 0))), ((u9 5), .inl (cA.1, 20, .inl (fun _ => 0))), ((u9 6), .inl (cA.1, 20, .inl (fun _ => 0))), (q18, .inl (cA.1, 49, .inl (fun _ => 0))), (q26, .inl (cA.1, 16, .inl (fun _ => 0)))] := hD
  refine W.widen (k := 9) (n := 292) (Nat.le_of_ble_eq_true rfl) (Nat.le_of_ble_eq_true rfl) ?_
  refine va_putF (D := D) (ci := 3) (v := .ref q26) (ty := (.array .int)) (C := RX3) (T := TX3) (N := 6) hx hb hg ju_3 tyX3 tyX3_ok nmX3 hown hK hP hD hS 0 rfl rfl 2 (by decide) (hg _ jg_107) (fun _ h9 => h9) rfl hin rfl (by decide +kernel) rfl rfl (Nat.le_of_ble_eq_true rfl) dk_M_28 (fun H locs hP hD hS => ?_)
  have hP : va_P D vwCl [(h0, .inr (3, [.ref (u9 0), .ref q18, .ref q26, .null, .int 0, .int 0])), ((u9 0), .inr (0, [.ref (u9 1), .ref (u9 2), .ref (u9 3), .ref (u9 4), .ref (u9 5), .ref (u9 6), .int 0])), ((u9 1), .inl (cA.1, 120, .inl (fun _ => 0))), ((u9 2), .inl (cA.1, 20, .inl (fun _ => 0))), ((u9 3), .inl (cA.1, 20, .inl (fun _ => 0))), ((u9 4), .inl (cA.1, 20, .inl (fun _ => 0))), ((u9 5), .inl (cA.1, 20, .inl (fun _ => 0))), ((u9 6), .inl (cA.1, 20, .inl (fun _ => 0))), (q18, .inl (cA.1, 49, .inl (fun _ => 0))), (q26, .inl (cA.1, 16, .inl (fun _ => 0)))] H := hP
  have hD : va_D A [(h0, .inr (3, [.ref (u9 0), .ref q18, .ref q26, .null, .int 0, .int 0])), ((u9 0), .inr (0, [.ref (u9 1), .ref (u9 2), .ref (u9 3), .ref (u9 4), .ref (u9 5), .ref (u9 6), .int 0])), ((u9 1), .inl (cA.1, 120, .inl (fun _ => 0))), ((u9 2), .inl (cA.1, 20, .inl (fun _ => 0))), ((u9 3), .inl (cA.1, 20, .inl (fun _ => 0))), ((u9 4), .inl (cA.1, 20, .inl (fun _ => 0))), ((u9 5), .inl (cA.1, 20, .inl (fun _ => 0))), ((u9 6), .inl (cA.1, 20, .inl (fun _ => 0))), (q18, .inl (cA.1, 49, .inl (fun _ => 0))), (q26, .inl (cA.1, 16, .inl (fun _ => 0)))] := hD
  refine lv_aload_n hx hb dk_M_31 rfl (lv_at hl 0 rfl) ?_
  refine lv_bipush (v := 17) hx hb dk_M_32 (by decide) ?_
  refine jc_newi (N' := 17) hx hb hg hK hP hD hS hA (by decide) (by decide) (by decide) (Nat.le_of_ble_eq_true rfl) (Nat.le_of_ble_eq_true rfl) dk_M_34 (fun q34 H hP hD hS => ?_)
  have hP : va_P D vwCl [(h0, .inr (3, [.ref (u9 0), .ref q18, .ref q26, .null, .int 0, .int 0])), ((u9 0), .inr (0, [.ref (u9 1), .ref (u9 2), .ref (u9 3), .ref (u9 4), .ref (u9 5), .ref (u9 6), .int 0])), ((u9 1), .inl (cA.1, 120, .inl (fun _ => 0))), ((u9 2), .inl (cA.1, 20, .inl (fun _ => 0))), ((u9 3), .inl (cA.1, 20, .inl (fun _ => 0))), ((u9 4), .inl (cA.1, 20, .inl (fun _ => 0))), ((u9 5), .inl (cA.1, 20, .inl (fun _ => 0))), ((u9 6), .inl (cA.1, 20, .inl (fun _ => 0))), (q18, .inl (cA.1, 49, .inl (fun _ => 0))), (q26, .inl (cA.1, 16, .inl (fun _ => 0))), (q34, .inl (cA.1, 17, .inl (fun _ => 0)))] H := hP
  have hD : va_D A [(h0, .inr (3, [.ref (u9 0), .ref q18, .ref q26, .null, .int 0, .int 0])), ((u9 0), .inr (0, [.ref (u9 1), .ref (u9 2), .ref (u9 3), .ref (u9 4), .ref (u9 5), .ref (u9 6), .int 0])), ((u9 1), .inl (cA.1, 120, .inl (fun _ => 0))), ((u9 2), .inl (cA.1, 20, .inl (fun _ => 0))), ((u9 3), .inl (cA.1, 20, .inl (fun _ => 0))), ((u9 4), .inl (cA.1, 20, .inl (fun _ => 0))), ((u9 5), .inl (cA.1, 20, .inl (fun _ => 0))), ((u9 6), .inl (cA.1, 20, .inl (fun _ => 0))), (q18, .inl (cA.1, 49, .inl (fun _ => 0))), (q26, .inl (cA.1, 16, .inl (fun _ => 0))), (q34, .inl (cA.1, 17, .inl (fun _ => 0)))] := hD
  refine W.widen (k := 10) (n := 309) (Nat.le_of_ble_eq_true rfl) (Nat.le_of_ble_eq_true rfl) ?_
  refine va_putF (D := D) (ci := 3) (v := .ref q34) (ty := (.array .int)) (C := RX3) (T := TX3) (N := 6) hx hb hg ju_3 tyX3 tyX3_ok nmX3 hown hK hP hD hS 0 rfl rfl 3 (by decide) (hg _ jg_108) (fun _ h9 => h9) rfl hin rfl (by decide +kernel) rfl rfl (Nat.le_of_ble_eq_true rfl) dk_M_36 (fun H locs hP hD hS => ?_)
  have hP : va_P D vwCl [(h0, .inr (3, [.ref (u9 0), .ref q18, .ref q26, .ref q34, .int 0, .int 0])), ((u9 0), .inr (0, [.ref (u9 1), .ref (u9 2), .ref (u9 3), .ref (u9 4), .ref (u9 5), .ref (u9 6), .int 0])), ((u9 1), .inl (cA.1, 120, .inl (fun _ => 0))), ((u9 2), .inl (cA.1, 20, .inl (fun _ => 0))), ((u9 3), .inl (cA.1, 20, .inl (fun _ => 0))), ((u9 4), .inl (cA.1, 20, .inl (fun _ => 0))), ((u9 5), .inl (cA.1, 20, .inl (fun _ => 0))), ((u9 6), .inl (cA.1, 20, .inl (fun _ => 0))), (q18, .inl (cA.1, 49, .inl (fun _ => 0))), (q26, .inl (cA.1, 16, .inl (fun _ => 0))), (q34, .inl (cA.1, 17, .inl (fun _ => 0)))] H := hP
  have hD : va_D A [(h0, .inr (3, [.ref (u9 0), .ref q18, .ref q26, .ref q34, .int 0, .int 0])), ((u9 0), .inr (0, [.ref (u9 1), .ref (u9 2), .ref (u9 3), .ref (u9 4), .ref (u9 5), .ref (u9 6), .int 0])), ((u9 1), .inl (cA.1, 120, .inl (fun _ => 0))), ((u9 2), .inl (cA.1, 20, .inl (fun _ => 0))), ((u9 3), .inl (cA.1, 20, .inl (fun _ => 0))), ((u9 4), .inl (cA.1, 20, .inl (fun _ => 0))), ((u9 5), .inl (cA.1, 20, .inl (fun _ => 0))), ((u9 6), .inl (cA.1, 20, .inl (fun _ => 0))), (q18, .inl (cA.1, 49, .inl (fun _ => 0))), (q26, .inl (cA.1, 16, .inl (fun _ => 0))), (q34, .inl (cA.1, 17, .inl (fun _ => 0)))] := hD
  refine lv_aload_n hx hb dk_M_39 rfl (lv_at hl 0 rfl) ?_
  refine lv_bipush (v := 100) hx hb dk_M_40 (by decide) ?_
  refine va_put (D := D) (ci := 3) (v := .int 100) (ty := .int) (C := RX3) (T := TX3) (N := 6) hx hb hg ju_3 tyX3 tyX3_ok nmX3 hown hK hP hD hS 0 rfl rfl 4 (by decide) (hg _ jg_110) (fun _ h9 => h9) rfl (by decide +kernel) rfl rfl (Nat.le_of_ble_eq_true rfl) dk_M_42 (fun H locs hP hD hS => ?_)
  have hP : va_P D vwCl [(h0, .inr (3, [.ref (u9 0), .ref q18, .ref q26, .ref q34, .int 100, .int 0])), ((u9 0), .inr (0, [.ref (u9 1), .ref (u9 2), .ref (u9 3), .ref (u9 4), .ref (u9 5), .ref (u9 6), .int 0])), ((u9 1), .inl (cA.1, 120, .inl (fun _ => 0))), ((u9 2), .inl (cA.1, 20, .inl (fun _ => 0))), ((u9 3), .inl (cA.1, 20, .inl (fun _ => 0))), ((u9 4), .inl (cA.1, 20, .inl (fun _ => 0))), ((u9 5), .inl (cA.1, 20, .inl (fun _ => 0))), ((u9 6), .inl (cA.1, 20, .inl (fun _ => 0))), (q18, .inl (cA.1, 49, .inl (fun _ => 0))), (q26, .inl (cA.1, 16, .inl (fun _ => 0))), (q34, .inl (cA.1, 17, .inl (fun _ => 0)))] H := hP
  have hD : va_D A [(h0, .inr (3, [.ref (u9 0), .ref q18, .ref q26, .ref q34, .int 100, .int 0])), ((u9 0), .inr (0, [.ref (u9 1), .ref (u9 2), .ref (u9 3), .ref (u9 4), .ref (u9 5), .ref (u9 6), .int 0])), ((u9 1), .inl (cA.1, 120, .inl (fun _ => 0))), ((u9 2), .inl (cA.1, 20, .inl (fun _ => 0))), ((u9 3), .inl (cA.1, 20, .inl (fun _ => 0))), ((u9 4), .inl (cA.1, 20, .inl (fun _ => 0))), ((u9 5), .inl (cA.1, 20, .inl (fun _ => 0))), ((u9 6), .inl (cA.1, 20, .inl (fun _ => 0))), (q18, .inl (cA.1, 49, .inl (fun _ => 0))), (q26, .inl (cA.1, 16, .inl (fun _ => 0))), (q34, .inl (cA.1, 17, .inl (fun _ => 0)))] := hD
  exact W.vret hx hb hr (fun t ht hW => ⟨⟨(fun k => [h0, (u9 0), (u9 1), (u9 2), (u9 3), (u9 4), (u9 5), (u9 6), q18, q26, q34].getD k 0), rfl, rfl, by rw [ht]; exact hP, hD⟩, hS.F ht⟩) hS.2.2 dk_M_45
