/-! THE CONSTRUCTORS; written by wip/whole/gen_ctor.py -/
theorem jc_ai : Cond.arrayClass .int ∈ jx_gw := jx_gin 101 (by decide +kernel) rfl
theorem jc_az : Cond.arrayClass .boolean ∈ jx_gw := jx_gin 679 (by decide +kernel) rfl
theorem jc_D1 {x : Nat × va_E} {sz : Nat} : va_D (va_A [x] sz) [x] := ⟨fun i j p q hp hq _ => by
  have h1 : i < 1 := (List.getElem?_eq_some_iff.mp hp).1
  have h2 : j < 1 := (List.getElem?_eq_some_iff.mp hq).1
  omega, fun _ _ hk => va_A.in hk⟩
section JC
variable {p : Program} {l : Launch} {e : Env} {R : Room} {s : State} {m : MethodId} {args : Array Value} {below : List Frame} {meth : Method} {c : Code} {H H0 : Heap} {locs : List Loc} {cells slots : Nat} {Q : State → Prop} {D : va_G} {cA : ClassId × ClassId × ClassId} {ws : va_W} {A : Nat → Prop} {cc : ByteArray} {pc : Nat} {ls : Array Slot} {rest : List Value}
theorem jc_newi (hexec : p.tables.exec = Jvm.exec) (hb : c.code = cc) (hg : ∀ w ∈ jx_gw, w.before args s = true) (hK : va_K D vwCl (jx_ty cA) s) (hP : va_P D vwCl ws H) (hD : va_D A ws) (hS : va_S A H0 H locs) (hA : ∀ q, H0.size ≤ q → A q) {n : Int32} {N' : Nat} (hn : ¬ n < 0) (hN : n.toNatClampNeg = N') (hbytes : N' * 4 ≤ 536870912) (hcells : cells + 1 ≤ R.cells) (hslots : slots + N' ≤ R.slots) (hdg : decode cc pc = .ok (.newarray .int, 2))
    (kk : ∀ (q : Nat) (H1 : Heap), va_P D vwCl (ws ++ [(q, .inl (cA.1, N', .inl (fun _ => 0)))]) H1 → va_D A (ws ++ [(q, .inl (cA.1, N', .inl (fun _ => 0)))]) → va_S A H0 H1 locs → W p l e R s m args below meth c H1 locs (cells + 1) (slots + N') Q (F0 m (pc + 2) ls (.ref q :: rest))) : W p l e R s m args below meth c H locs cells slots Q (F0 m pc ls (.int n :: rest)) := by
  refine va_newa (atype := .int) hexec hb (hg _ jc_ai) (ty := .int) rfl hK hP hD hS hA (a0 := (N', .inl (fun _ => 0))) (fun _ => rfl) hn hN hbytes hcells hslots hdg (fun q cB H1 hK1 hP1 hD1 hS1 => ?_)
  have e1 : cB = cA.1 := Option.some.inj ((hK1.2 3 (cB, .int) rfl).2.symm.trans (hK1.2 0 (cA.1, .int) rfl).2)
  rw [e1] at hP1 hD1
  exact kk q H1 hP1 hD1 hS1
theorem jc_newz (hexec : p.tables.exec = Jvm.exec) (hb : c.code = cc) (hg : ∀ w ∈ jx_gw, w.before args s = true) (hK : va_K D vwCl (jx_ty cA) s) (hP : va_P D vwCl ws H) (hD : va_D A ws) (hS : va_S A H0 H locs) (hA : ∀ q, H0.size ≤ q → A q) {n : Int32} {N' : Nat} (hn : ¬ n < 0) (hN : n.toNatClampNeg = N') (hbytes : N' * 1 ≤ 536870912) (hcells : cells + 1 ≤ R.cells) (hslots : slots + N' ≤ R.slots) (hdg : decode cc pc = .ok (.newarray .boolean, 2))
    (kk : ∀ (q : Nat) (H1 : Heap), va_P D vwCl (ws ++ [(q, .inl (cA.2.1, N', .inl (fun _ => 0)))]) H1 → va_D A (ws ++ [(q, .inl (cA.2.1, N', .inl (fun _ => 0)))]) → va_S A H0 H1 locs → W p l e R s m args below meth c H1 locs (cells + 1) (slots + N') Q (F0 m (pc + 2) ls (.ref q :: rest))) : W p l e R s m args below meth c H locs cells slots Q (F0 m pc ls (.int n :: rest)) := by
  refine va_newa (atype := .boolean) hexec hb (hg _ jc_az) (ty := .boolean) rfl hK hP hD hS hA (a0 := (N', .inl (fun _ => 0))) (fun _ => rfl) hn hN hbytes hcells hslots hdg (fun q cB H1 hK1 hP1 hD1 hS1 => ?_)
  have e1 : cB = cA.2.1 := Option.some.inj ((hK1.2 3 (cB, .boolean) rfl).2.symm.trans (hK1.2 1 (cA.2.1, .boolean) rfl).2)
  rw [e1] at hP1 hD1
  exact kk q H1 hP1 hD1 hS1
end JC
theorem ju_0 : ∀ w ∈ u_ws RX0 TX0 7, w ∈ jx_gw := jx_sub [86, 88, 90, 92, 94, 96, 98] (by decide +kernel) (by decide +kernel)
theorem ju_1 : ∀ w ∈ u_ws RX1 TX1 3, w ∈ jx_gw := jx_sub [194, 196, 198] (by decide +kernel) (by decide +kernel)
theorem ju_2 : ∀ w ∈ u_ws RX2 TX2 7, w ∈ jx_gw := jx_sub [148, 150, 152, 154, 156, 158, 160] (by decide +kernel) (by decide +kernel)
theorem ju_3 : ∀ w ∈ u_ws RX3 TX3 6, w ∈ jx_gw := jx_sub [117, 119, 121, 123, 125, 127] (by decide +kernel) (by decide +kernel)
theorem ju_4 : ∀ w ∈ u_ws RX4 TX4 14, w ∈ jx_gw := jx_sub [224, 226, 228, 230, 232, 234, 236, 238, 240, 242, 244, 246, 248, 250] (by decide +kernel) (by decide +kernel)
theorem ju_5 : ∀ w ∈ u_ws RX5 TX5 2, w ∈ jx_gw := jx_sub [176, 178] (by decide +kernel) (by decide +kernel)
theorem ju_6 : ∀ w ∈ u_ws RX6 TX6 6, w ∈ jx_gw := jx_sub [259, 261, 263, 265, 267, 269] (by decide +kernel) (by decide +kernel)
theorem ju_7 : ∀ w ∈ u_ws RX7 TX7 19, w ∈ jx_gw := jx_sub [640, 642, 644, 646, 648, 650, 652, 654, 656, 658, 660, 662, 664, 666, 668, 670, 672, 674, 676] (by decide +kernel) (by decide +kernel)
theorem jg_135 : Cond.methodLink RX2 3 objectInit ∈ jx_gw := jx_gin 135 (by decide +kernel) rfl
theorem jg_136 : Cond.fieldLink RX2 30 RX2 "model" "LReadingConverter$Model;" ∈ jx_gw := jx_gin 136 (by decide +kernel) rfl
theorem jg_137 : Cond.fieldLink RX2 9 RX2 "byLength" "[I" ∈ jx_gw := jx_gin 137 (by decide +kernel) rfl
theorem jg_138 : Cond.fieldLink RX2 15 RX2 "slotsAt" "[I" ∈ jx_gw := jx_gin 138 (by decide +kernel) rfl
theorem jg_140 : Cond.fieldLink RX2 18 RX2 "entries" "[I" ∈ jx_gw := jx_gin 140 (by decide +kernel) rfl
theorem jg_142 : Cond.fieldLink RX2 21 RX2 "ends" "[I" ∈ jx_gw := jx_gin 142 (by decide +kernel) rfl
theorem jg_144 : Cond.fieldLink RX2 24 RX2 "classes" "[I" ∈ jx_gw := jx_gin 144 (by decide +kernel) rfl
theorem jg_146 : Cond.fieldLink RX2 27 RX2 "costs" "[I" ∈ jx_gw := jx_gin 146 (by decide +kernel) rfl
theorem jg_168 : Cond.methodLink RX5 3 objectInit ∈ jx_gw := jx_gin 168 (by decide +kernel) rfl
theorem jg_169 : Cond.fieldLink RX5 9 RX5 "codes" "[I" ∈ jx_gw := jx_gin 169 (by decide +kernel) rfl
theorem jg_206 : Cond.methodLink RX4 3 objectInit ∈ jx_gw := jx_gin 206 (by decide +kernel) rfl
theorem jg_207 : Cond.fieldLink RX4 45 RX4 "model" "LReadingConverter$Model;" ∈ jx_gw := jx_gin 207 (by decide +kernel) rfl
theorem jg_208 : Cond.fieldLink RX4 49 RX4 "lattice" "LReadingConverter$Lattice;" ∈ jx_gw := jx_gin 208 (by decide +kernel) rfl
theorem jg_209 : Cond.fieldLink RX4 9 RX4 "leastTo" "[I" ∈ jx_gw := jx_gin 209 (by decide +kernel) rfl
theorem jg_210 : Cond.fieldLink RX4 15 RX4 "bestWays" "[I" ∈ jx_gw := jx_gin 210 (by decide +kernel) rfl
theorem jg_211 : Cond.fieldLink RX4 18 RX4 "listSizes" "[I" ∈ jx_gw := jx_gin 211 (by decide +kernel) rfl
theorem jg_212 : Cond.fieldLink RX4 21 RX4 "listCosts" "[I" ∈ jx_gw := jx_gin 212 (by decide +kernel) rfl
theorem jg_213 : Cond.fieldLink RX4 24 RX4 "listSlots" "[I" ∈ jx_gw := jx_gin 213 (by decide +kernel) rfl
theorem jg_214 : Cond.fieldLink RX4 27 RX4 "listRests" "[I" ∈ jx_gw := jx_gin 214 (by decide +kernel) rfl
theorem jg_215 : Cond.fieldLink RX4 30 RX4 "headCosts" "[I" ∈ jx_gw := jx_gin 215 (by decide +kernel) rfl
theorem jg_216 : Cond.fieldLink RX4 33 RX4 "headRests" "[I" ∈ jx_gw := jx_gin 216 (by decide +kernel) rfl
theorem jg_217 : Cond.fieldLink RX4 36 RX4 "countsFrom" "[I" ∈ jx_gw := jx_gin 217 (by decide +kernel) rfl
theorem jg_218 : Cond.fieldLink RX4 39 RX4 "trailStart" "[I" ∈ jx_gw := jx_gin 218 (by decide +kernel) rfl
theorem jg_220 : Cond.fieldLink RX4 42 RX4 "trailEntry" "[I" ∈ jx_gw := jx_gin 220 (by decide +kernel) rfl
theorem jg_57 : Cond.instanceMethod objectInit ∈ jx_gw := jx_gin 57 (by decide +kernel) rfl
theorem jg_58 : Cond.code objectInit ⟨#[0xb1]⟩ 1 none ∈ jx_gw := jx_gin 58 (by decide +kernel) rfl
theorem jg_70 : Cond.methodLink RX0 3 objectInit ∈ jx_gw := jx_gin 70 (by decide +kernel) rfl
theorem jg_71 : Cond.fieldLink RX0 9 RX0 "letters" "[I" ∈ jx_gw := jx_gin 71 (by decide +kernel) rfl
theorem jg_73 : Cond.fieldLink RX0 15 RX0 "lengths" "[I" ∈ jx_gw := jx_gin 73 (by decide +kernel) rfl
theorem jg_76 : Cond.fieldLink RX0 18 RX0 "words" "[I" ∈ jx_gw := jx_gin 76 (by decide +kernel) rfl
theorem jg_78 : Cond.fieldLink RX0 21 RX0 "classes" "[I" ∈ jx_gw := jx_gin 78 (by decide +kernel) rfl
theorem jg_80 : Cond.fieldLink RX0 24 RX0 "baseCosts" "[I" ∈ jx_gw := jx_gin 80 (by decide +kernel) rfl
theorem jg_81 : Cond.fieldLink RX0 27 RX0 "uses" "[I" ∈ jx_gw := jx_gin 81 (by decide +kernel) rfl
theorem dk_T_0 : decode cX5_init 0 = .ok (.aload_n 0, 1) := by decide +kernel
theorem dk_T_1 : decode cX5_init 1 = .ok (.invokespecial 3, 3) := by decide +kernel
theorem dk_T_4 : decode cX5_init 4 = .ok (.aload_n 0, 1) := by decide +kernel
theorem dk_T_5 : decode cX5_init 5 = .ok (.bipush 20, 2) := by decide +kernel
theorem dk_T_7 : decode cX5_init 7 = .ok (.newarray .int, 2) := by decide +kernel
theorem dk_T_9 : decode cX5_init 9 = .ok (.putfield 9, 3) := by decide +kernel
theorem dk_T_12 : decode cX5_init 12 = .ok (.return_, 1) := by decide +kernel
abbrev jw_T (cA : ClassId × ClassId × ClassId) (q : Nat → Nat) : va_W := [((q 0), .inr (5, [.ref (q 1), .int 0])), ((q 1), .inl (cA.1, 20, .inl (fun _ => 0)))]
set_option maxHeartbeats 4000000 in
set_option maxRecDepth 100000 in
theorem cc_T (l : Launch) (D : va_G) (cA : ClassId × ClassId × ClassId) (h0 sz : Nat) : Met l yX5_init (Cond.code yX5_init cX5_init 1 none :: jx_gw) ({ frames := 1, cells := 1, slots := 20, locals := 12 }) (va_Pc [.ref h0] (fun U => U.heap.size = sz ∧ va_P D vwCl [(h0, .inr (5, [.null, .int 0]))] U.heap ∧ va_K D vwCl (jx_ty cA) U)) (va_Qv (fun q : Nat → Nat => q 0 = h0) (fun q t => va_P D vwCl (jw_T cA q) t.heap ∧ va_D (va_A [(h0, .inr (5, [.null, .int 0]))] sz) (jw_T cA q)) (va_A [(h0, .inr (5, [.null, .int 0]))] sz)) 1 20 (va_A [(h0, .inr (5, [.null, .int 0]))] sz) := by
  refine Met.ofW (cc := cX5_init) (maxL := 1) (ret := none) (by decide) rfl ?_
  intro p e s m args below meth c s₁ B hml hv
  obtain ⟨rfl, hsz, hP, hK⟩ := hv
  have hx := B.exec
  have hb := B.bytes
  have hr := B.returns
  have hts := atoms_spec (ws := (Cond.code yX5_init cX5_init 1 none :: jx_gw)) B.pre
  have hg : ∀ w ∈ jx_gw, w.before _ s = true := fun w hw => hts w (List.mem_cons_of_mem _ hw)
  have hown : s.vm.findClass RX5 = some m.cls := findClass_of_methodNamed B.named
  have hlocks := B.notSynchronized
  have hin : meth.name = "<init>" := (name_of_methodNamed B.named B.method).1
  subst hsz
  have hD := jc_D1 (x := (h0, .inr (5, [.null, .int 0]))) (sz := s.heap.size)
  generalize hAe : va_A [(h0, .inr (5, [.null, .int 0]))] s.heap.size = A at hD ⊢
  have hA : ∀ q : Nat, s.heap.size ≤ q → A q := fun q h => by rw [← hAe]; exact Or.inr h
  have hS : va_S A s.heap s.heap [] := va_S.rf
  have hl := lv_entry ([.ref h0]) (n := 1) (Nat.le_of_ble_eq_true rfl)
  rw [lg_entry_eq]
  generalize (lg_sl ([.ref h0]) ++ List.replicate (1 - (lg_sl ([.ref h0])).length) Slot.unset).toArray = ls at hl ⊢
  have hl : lv_has ls 1 [(0, .ref h0)] := hl
  refine lv_aload_n hx hb dk_T_0 rfl (lv_at hl 0 rfl) ?_
  refine W.objInit hx hb hown (hg _ jg_168) (hg _ jg_57) (hg _ jg_58) rfl (by rw [hml]; exact hl.1) rfl dk_T_1 (Nat.le_of_ble_eq_true rfl) (Nat.le_of_ble_eq_true rfl) ?_
  refine W.eq (g2 := F0 m 4 ls []) rfl ?_
  refine lv_aload_n hx hb dk_T_4 rfl (lv_at hl 0 rfl) ?_
  refine lv_bipush (v := 20) hx hb dk_T_5 (by decide) ?_
  refine jc_newi (N' := 20) hx hb hg hK hP hD hS hA (by decide) (by decide) (by decide) (Nat.le_of_ble_eq_true rfl) (Nat.le_of_ble_eq_true rfl) dk_T_7 (fun q7 H hP hD hS => ?_)
  have hP : va_P D vwCl [(h0, .inr (5, [.null, .int 0])), (q7, .inl (cA.1, 20, .inl (fun _ => 0)))] H := hP
  have hD : va_D A [(h0, .inr (5, [.null, .int 0])), (q7, .inl (cA.1, 20, .inl (fun _ => 0)))] := hD
  refine W.widen (k := 1) (n := 20) (Nat.le_of_ble_eq_true rfl) (Nat.le_of_ble_eq_true rfl) ?_
  refine va_putF (D := D) (ci := 5) (v := .ref q7) (ty := (.array .int)) (C := RX5) (T := TX5) (N := 2) hx hb hg ju_5 tyX5 tyX5_ok nmX5 hown hK hP hD hS 0 rfl rfl 0 (by decide) (hg _ jg_169) (fun _ h9 => h9) rfl hin rfl (by decide +kernel) rfl rfl (Nat.le_of_ble_eq_true rfl) dk_T_9 (fun H locs hP hD hS => ?_)
  have hP : va_P D vwCl [(h0, .inr (5, [.ref q7, .int 0])), (q7, .inl (cA.1, 20, .inl (fun _ => 0)))] H := hP
  have hD : va_D A [(h0, .inr (5, [.ref q7, .int 0])), (q7, .inl (cA.1, 20, .inl (fun _ => 0)))] := hD
  exact W.vret hx hb hr (fun t ht hW => ⟨⟨(fun k => [h0, q7].getD k 0), rfl, rfl, by rw [ht]; exact hP, hD⟩, hS.F ht⟩) hS.2.2 dk_T_12
theorem dk_D_0 : decode cX0_init 0 = .ok (.aload_n 0, 1) := by decide +kernel
theorem dk_D_1 : decode cX0_init 1 = .ok (.invokespecial 3, 3) := by decide +kernel
theorem dk_D_4 : decode cX0_init 4 = .ok (.aload_n 0, 1) := by decide +kernel
theorem dk_D_5 : decode cX0_init 5 = .ok (.bipush 120, 2) := by decide +kernel
theorem dk_D_7 : decode cX0_init 7 = .ok (.newarray .int, 2) := by decide +kernel
theorem dk_D_9 : decode cX0_init 9 = .ok (.putfield 9, 3) := by decide +kernel
theorem dk_D_12 : decode cX0_init 12 = .ok (.aload_n 0, 1) := by decide +kernel
theorem dk_D_13 : decode cX0_init 13 = .ok (.bipush 20, 2) := by decide +kernel
theorem dk_D_15 : decode cX0_init 15 = .ok (.newarray .int, 2) := by decide +kernel
theorem dk_D_17 : decode cX0_init 17 = .ok (.putfield 15, 3) := by decide +kernel
theorem dk_D_20 : decode cX0_init 20 = .ok (.aload_n 0, 1) := by decide +kernel
theorem dk_D_21 : decode cX0_init 21 = .ok (.bipush 20, 2) := by decide +kernel
theorem dk_D_23 : decode cX0_init 23 = .ok (.newarray .int, 2) := by decide +kernel
theorem dk_D_25 : decode cX0_init 25 = .ok (.putfield 18, 3) := by decide +kernel
theorem dk_D_28 : decode cX0_init 28 = .ok (.aload_n 0, 1) := by decide +kernel
theorem dk_D_29 : decode cX0_init 29 = .ok (.bipush 20, 2) := by decide +kernel
theorem dk_D_31 : decode cX0_init 31 = .ok (.newarray .int, 2) := by decide +kernel
theorem dk_D_33 : decode cX0_init 33 = .ok (.putfield 21, 3) := by decide +kernel
theorem dk_D_36 : decode cX0_init 36 = .ok (.aload_n 0, 1) := by decide +kernel
theorem dk_D_37 : decode cX0_init 37 = .ok (.bipush 20, 2) := by decide +kernel
theorem dk_D_39 : decode cX0_init 39 = .ok (.newarray .int, 2) := by decide +kernel
theorem dk_D_41 : decode cX0_init 41 = .ok (.putfield 24, 3) := by decide +kernel
theorem dk_D_44 : decode cX0_init 44 = .ok (.aload_n 0, 1) := by decide +kernel
theorem dk_D_45 : decode cX0_init 45 = .ok (.bipush 20, 2) := by decide +kernel
theorem dk_D_47 : decode cX0_init 47 = .ok (.newarray .int, 2) := by decide +kernel
theorem dk_D_49 : decode cX0_init 49 = .ok (.putfield 27, 3) := by decide +kernel
theorem dk_D_52 : decode cX0_init 52 = .ok (.return_, 1) := by decide +kernel
abbrev jw_D (cA : ClassId × ClassId × ClassId) (q : Nat → Nat) : va_W := [((q 0), .inr (0, [.ref (q 1), .ref (q 2), .ref (q 3), .ref (q 4), .ref (q 5), .ref (q 6), .int 0])), ((q 1), .inl (cA.1, 120, .inl (fun _ => 0))), ((q 2), .inl (cA.1, 20, .inl (fun _ => 0))), ((q 3), .inl (cA.1, 20, .inl (fun _ => 0))), ((q 4), .inl (cA.1, 20, .inl (fun _ => 0))), ((q 5), .inl (cA.1, 20, .inl (fun _ => 0))), ((q 6), .inl (cA.1, 20, .inl (fun _ => 0)))]
set_option maxHeartbeats 4000000 in
set_option maxRecDepth 100000 in
theorem cc_D (l : Launch) (D : va_G) (cA : ClassId × ClassId × ClassId) (h0 sz : Nat) : Met l yX0_init (Cond.code yX0_init cX0_init 1 none :: jx_gw) ({ frames := 1, cells := 6, slots := 220, locals := 12 }) (va_Pc [.ref h0] (fun U => U.heap.size = sz ∧ va_P D vwCl [(h0, .inr (0, [.null, .null, .null, .null, .null, .null, .int 0]))] U.heap ∧ va_K D vwCl (jx_ty cA) U)) (va_Qv (fun q : Nat → Nat => q 0 = h0) (fun q t => va_P D vwCl (jw_D cA q) t.heap ∧ va_D (va_A [(h0, .inr (0, [.null, .null, .null, .null, .null, .null, .int 0]))] sz) (jw_D cA q)) (va_A [(h0, .inr (0, [.null, .null, .null, .null, .null, .null, .int 0]))] sz)) 6 220 (va_A [(h0, .inr (0, [.null, .null, .null, .null, .null, .null, .int 0]))] sz) := by
  refine Met.ofW (cc := cX0_init) (maxL := 1) (ret := none) (by decide) rfl ?_
  intro p e s m args below meth c s₁ B hml hv
  obtain ⟨rfl, hsz, hP, hK⟩ := hv
  have hx := B.exec
  have hb := B.bytes
  have hr := B.returns
  have hts := atoms_spec (ws := (Cond.code yX0_init cX0_init 1 none :: jx_gw)) B.pre
  have hg : ∀ w ∈ jx_gw, w.before _ s = true := fun w hw => hts w (List.mem_cons_of_mem _ hw)
  have hown : s.vm.findClass RX0 = some m.cls := findClass_of_methodNamed B.named
  have hlocks := B.notSynchronized
  have hin : meth.name = "<init>" := (name_of_methodNamed B.named B.method).1
  subst hsz
  have hD := jc_D1 (x := (h0, .inr (0, [.null, .null, .null, .null, .null, .null, .int 0]))) (sz := s.heap.size)
  generalize hAe : va_A [(h0, .inr (0, [.null, .null, .null, .null, .null, .null, .int 0]))] s.heap.size = A at hD ⊢
  have hA : ∀ q : Nat, s.heap.size ≤ q → A q := fun q h => by rw [← hAe]; exact Or.inr h
  have hS : va_S A s.heap s.heap [] := va_S.rf
  have hl := lv_entry ([.ref h0]) (n := 1) (Nat.le_of_ble_eq_true rfl)
  rw [lg_entry_eq]
  generalize (lg_sl ([.ref h0]) ++ List.replicate (1 - (lg_sl ([.ref h0])).length) Slot.unset).toArray = ls at hl ⊢
  have hl : lv_has ls 1 [(0, .ref h0)] := hl
  refine lv_aload_n hx hb dk_D_0 rfl (lv_at hl 0 rfl) ?_
  refine W.objInit hx hb hown (hg _ jg_70) (hg _ jg_57) (hg _ jg_58) rfl (by rw [hml]; exact hl.1) rfl dk_D_1 (Nat.le_of_ble_eq_true rfl) (Nat.le_of_ble_eq_true rfl) ?_
  refine W.eq (g2 := F0 m 4 ls []) rfl ?_
  refine lv_aload_n hx hb dk_D_4 rfl (lv_at hl 0 rfl) ?_
  refine lv_bipush (v := 120) hx hb dk_D_5 (by decide) ?_
  refine jc_newi (N' := 120) hx hb hg hK hP hD hS hA (by decide) (by decide) (by decide) (Nat.le_of_ble_eq_true rfl) (Nat.le_of_ble_eq_true rfl) dk_D_7 (fun q7 H hP hD hS => ?_)
  have hP : va_P D vwCl [(h0, .inr (0, [.null, .null, .null, .null, .null, .null, .int 0])), (q7, .inl (cA.1, 120, .inl (fun _ => 0)))] H := hP
  have hD : va_D A [(h0, .inr (0, [.null, .null, .null, .null, .null, .null, .int 0])), (q7, .inl (cA.1, 120, .inl (fun _ => 0)))] := hD
  refine W.widen (k := 1) (n := 120) (Nat.le_of_ble_eq_true rfl) (Nat.le_of_ble_eq_true rfl) ?_
  refine va_putF (D := D) (ci := 0) (v := .ref q7) (ty := (.array .int)) (C := RX0) (T := TX0) (N := 7) hx hb hg ju_0 tyX0 tyX0_ok nmX0 hown hK hP hD hS 0 rfl rfl 0 (by decide) (hg _ jg_71) (fun _ h9 => h9) rfl hin rfl (by decide +kernel) rfl rfl (Nat.le_of_ble_eq_true rfl) dk_D_9 (fun H locs hP hD hS => ?_)
  have hP : va_P D vwCl [(h0, .inr (0, [.ref q7, .null, .null, .null, .null, .null, .int 0])), (q7, .inl (cA.1, 120, .inl (fun _ => 0)))] H := hP
  have hD : va_D A [(h0, .inr (0, [.ref q7, .null, .null, .null, .null, .null, .int 0])), (q7, .inl (cA.1, 120, .inl (fun _ => 0)))] := hD
  refine lv_aload_n hx hb dk_D_12 rfl (lv_at hl 0 rfl) ?_
  refine lv_bipush (v := 20) hx hb dk_D_13 (by decide) ?_
  refine jc_newi (N' := 20) hx hb hg hK hP hD hS hA (by decide) (by decide) (by decide) (Nat.le_of_ble_eq_true rfl) (Nat.le_of_ble_eq_true rfl) dk_D_15 (fun q15 H hP hD hS => ?_)
  have hP : va_P D vwCl [(h0, .inr (0, [.ref q7, .null, .null, .null, .null, .null, .int 0])), (q7, .inl (cA.1, 120, .inl (fun _ => 0))), (q15, .inl (cA.1, 20, .inl (fun _ => 0)))] H := hP
  have hD : va_D A [(h0, .inr (0, [.ref q7, .null, .null, .null, .null, .null, .int 0])), (q7, .inl (cA.1, 120, .inl (fun _ => 0))), (q15, .inl (cA.1, 20, .inl (fun _ => 0)))] := hD
  refine W.widen (k := 2) (n := 140) (Nat.le_of_ble_eq_true rfl) (Nat.le_of_ble_eq_true rfl) ?_
  refine va_putF (D := D) (ci := 0) (v := .ref q15) (ty := (.array .int)) (C := RX0) (T := TX0) (N := 7) hx hb hg ju_0 tyX0 tyX0_ok nmX0 hown hK hP hD hS 0 rfl rfl 1 (by decide) (hg _ jg_73) (fun _ h9 => h9) rfl hin rfl (by decide +kernel) rfl rfl (Nat.le_of_ble_eq_true rfl) dk_D_17 (fun H locs hP hD hS => ?_)
  have hP : va_P D vwCl [(h0, .inr (0, [.ref q7, .ref q15, .null, .null, .null, .null, .int 0])), (q7, .inl (cA.1, 120, .inl (fun _ => 0))), (q15, .inl (cA.1, 20, .inl (fun _ => 0)))] H := hP
  have hD : va_D A [(h0, .inr (0, [.ref q7, .ref q15, .null, .null, .null, .null, .int 0])), (q7, .inl (cA.1, 120, .inl (fun _ => 0))), (q15, .inl (cA.1, 20, .inl (fun _ => 0)))] := hD
  refine lv_aload_n hx hb dk_D_20 rfl (lv_at hl 0 rfl) ?_
  refine lv_bipush (v := 20) hx hb dk_D_21 (by decide) ?_
  refine jc_newi (N' := 20) hx hb hg hK hP hD hS hA (by decide) (by decide) (by decide) (Nat.le_of_ble_eq_true rfl) (Nat.le_of_ble_eq_true rfl) dk_D_23 (fun q23 H hP hD hS => ?_)
  have hP : va_P D vwCl [(h0, .inr (0, [.ref q7, .ref q15, .null, .null, .null, .null, .int 0])), (q7, .inl (cA.1, 120, .inl (fun _ => 0))), (q15, .inl (cA.1, 20, .inl (fun _ => 0))), (q23, .inl (cA.1, 20, .inl (fun _ => 0)))] H := hP
  have hD : va_D A [(h0, .inr (0, [.ref q7, .ref q15, .null, .null, .null, .null, .int 0])), (q7, .inl (cA.1, 120, .inl (fun _ => 0))), (q15, .inl (cA.1, 20, .inl (fun _ => 0))), (q23, .inl (cA.1, 20, .inl (fun _ => 0)))] := hD
  refine W.widen (k := 3) (n := 160) (Nat.le_of_ble_eq_true rfl) (Nat.le_of_ble_eq_true rfl) ?_
  refine va_putF (D := D) (ci := 0) (v := .ref q23) (ty := (.array .int)) (C := RX0) (T := TX0) (N := 7) hx hb hg ju_0 tyX0 tyX0_ok nmX0 hown hK hP hD hS 0 rfl rfl 2 (by decide) (hg _ jg_76) (fun _ h9 => h9) rfl hin rfl (by decide +kernel) rfl rfl (Nat.le_of_ble_eq_true rfl) dk_D_25 (fun H locs hP hD hS => ?_)
  have hP : va_P D vwCl [(h0, .inr (0, [.ref q7, .ref q15, .ref q23, .null, .null, .null, .int 0])), (q7, .inl (cA.1, 120, .inl (fun _ => 0))), (q15, .inl (cA.1, 20, .inl (fun _ => 0))), (q23, .inl (cA.1, 20, .inl (fun _ => 0)))] H := hP
  have hD : va_D A [(h0, .inr (0, [.ref q7, .ref q15, .ref q23, .null, .null, .null, .int 0])), (q7, .inl (cA.1, 120, .inl (fun _ => 0))), (q15, .inl (cA.1, 20, .inl (fun _ => 0))), (q23, .inl (cA.1, 20, .inl (fun _ => 0)))] := hD
  refine lv_aload_n hx hb dk_D_28 rfl (lv_at hl 0 rfl) ?_
  refine lv_bipush (v := 20) hx hb dk_D_29 (by decide) ?_
  refine jc_newi (N' := 20) hx hb hg hK hP hD hS hA (by decide) (by decide) (by decide) (Nat.le_of_ble_eq_true rfl) (Nat.le_of_ble_eq_true rfl) dk_D_31 (fun q31 H hP hD hS => ?_)
  have hP : va_P D vwCl [(h0, .inr (0, [.ref q7, .ref q15, .ref q23, .null, .null, .null, .int 0])), (q7, .inl (cA.1, 120, .inl (fun _ => 0))), (q15, .inl (cA.1, 20, .inl (fun _ => 0))), (q23, .inl (cA.1, 20, .inl (fun _ => 0))), (q31, .inl (cA.1, 20, .inl (fun _ => 0)))] H := hP
  have hD : va_D A [(h0, .inr (0, [.ref q7, .ref q15, .ref q23, .null, .null, .null, .int 0])), (q7, .inl (cA.1, 120, .inl (fun _ => 0))), (q15, .inl (cA.1, 20, .inl (fun _ => 0))), (q23, .inl (cA.1, 20, .inl (fun _ => 0))), (q31, .inl (cA.1, 20, .inl (fun _ => 0)))] := hD
  refine W.widen (k := 4) (n := 180) (Nat.le_of_ble_eq_true rfl) (Nat.le_of_ble_eq_true rfl) ?_
  refine va_putF (D := D) (ci := 0) (v := .ref q31) (ty := (.array .int)) (C := RX0) (T := TX0) (N := 7) hx hb hg ju_0 tyX0 tyX0_ok nmX0 hown hK hP hD hS 0 rfl rfl 3 (by decide) (hg _ jg_78) (fun _ h9 => h9) rfl hin rfl (by decide +kernel) rfl rfl (Nat.le_of_ble_eq_true rfl) dk_D_33 (fun H locs hP hD hS => ?_)
  have hP : va_P D vwCl [(h0, .inr (0, [.ref q7, .ref q15, .ref q23, .ref q31, .null, .null, .int 0])), (q7, .inl (cA.1, 120, .inl (fun _ => 0))), (q15, .inl (cA.1, 20, .inl (fun _ => 0))), (q23, .inl (cA.1, 20, .inl (fun _ => 0))), (q31, .inl (cA.1, 20, .inl (fun _ => 0)))] H := hP
  have hD : va_D A [(h0, .inr (0, [.ref q7, .ref q15, .ref q23, .ref q31, .null, .null, .int 0])), (q7, .inl (cA.1, 120, .inl (fun _ => 0))), (q15, .inl (cA.1, 20, .inl (fun _ => 0))), (q23, .inl (cA.1, 20, .inl (fun _ => 0))), (q31, .inl (cA.1, 20, .inl (fun _ => 0)))] := hD
  refine lv_aload_n hx hb dk_D_36 rfl (lv_at hl 0 rfl) ?_
  refine lv_bipush (v := 20) hx hb dk_D_37 (by decide) ?_
  refine jc_newi (N' := 20) hx hb hg hK hP hD hS hA (by decide) (by decide) (by decide) (Nat.le_of_ble_eq_true rfl) (Nat.le_of_ble_eq_true rfl) dk_D_39 (fun q39 H hP hD hS => ?_)
  have hP : va_P D vwCl [(h0, .inr (0, [.ref q7, .ref q15, .ref q23, .ref q31, .null, .null, .int 0])), (q7, .inl (cA.1, 120, .inl (fun _ => 0))), (q15, .inl (cA.1, 20, .inl (fun _ => 0))), (q23, .inl (cA.1, 20, .inl (fun _ => 0))), (q31, .inl (cA.1, 20, .inl (fun _ => 0))), (q39, .inl (cA.1, 20, .inl (fun _ => 0)))] H := hP
  have hD : va_D A [(h0, .inr (0, [.ref q7, .ref q15, .ref q23, .ref q31, .null, .null, .int 0])), (q7, .inl (cA.1, 120, .inl (fun _ => 0))), (q15, .inl (cA.1, 20, .inl (fun _ => 0))), (q23, .inl (cA.1, 20, .inl (fun _ => 0))), (q31, .inl (cA.1, 20, .inl (fun _ => 0))), (q39, .inl (cA.1, 20, .inl (fun _ => 0)))] := hD
  refine W.widen (k := 5) (n := 200) (Nat.le_of_ble_eq_true rfl) (Nat.le_of_ble_eq_true rfl) ?_
  refine va_putF (D := D) (ci := 0) (v := .ref q39) (ty := (.array .int)) (C := RX0) (T := TX0) (N := 7) hx hb hg ju_0 tyX0 tyX0_ok nmX0 hown hK hP hD hS 0 rfl rfl 4 (by decide) (hg _ jg_80) (fun _ h9 => h9) rfl hin rfl (by decide +kernel) rfl rfl (Nat.le_of_ble_eq_true rfl) dk_D_41 (fun H locs hP hD hS => ?_)
  have hP : va_P D vwCl [(h0, .inr (0, [.ref q7, .ref q15, .ref q23, .ref q31, .ref q39, .null, .int 0])), (q7, .inl (cA.1, 120, .inl (fun _ => 0))), (q15, .inl (cA.1, 20, .inl (fun _ => 0))), (q23, .inl (cA.1, 20, .inl (fun _ => 0))), (q31, .inl (cA.1, 20, .inl (fun _ => 0))), (q39, .inl (cA.1, 20, .inl (fun _ => 0)))] H := hP
  have hD : va_D A [(h0, .inr (0, [.ref q7, .ref q15, .ref q23, .ref q31, .ref q39, .null, .int 0])), (q7, .inl (cA.1, 120, .inl (fun _ => 0))), (q15, .inl (cA.1, 20, .inl (fun _ => 0))), (q23, .inl (cA.1, 20, .inl (fun _ => 0))), (q31, .inl (cA.1, 20, .inl (fun _ => 0))), (q39, .inl (cA.1, 20, .inl (fun _ => 0)))] := hD
  refine lv_aload_n hx hb dk_D_44 rfl (lv_at hl 0 rfl) ?_
  refine lv_bipush (v := 20) hx hb dk_D_45 (by decide) ?_
  refine jc_newi (N' := 20) hx hb hg hK hP hD hS hA (by decide) (by decide) (by decide) (Nat.le_of_ble_eq_true rfl) (Nat.le_of_ble_eq_true rfl) dk_D_47 (fun q47 H hP hD hS => ?_)
  have hP : va_P D vwCl [(h0, .inr (0, [.ref q7, .ref q15, .ref q23, .ref q31, .ref q39, .null, .int 0])), (q7, .inl (cA.1, 120, .inl (fun _ => 0))), (q15, .inl (cA.1, 20, .inl (fun _ => 0))), (q23, .inl (cA.1, 20, .inl (fun _ => 0))), (q31, .inl (cA.1, 20, .inl (fun _ => 0))), (q39, .inl (cA.1, 20, .inl (fun _ => 0))), (q47, .inl (cA.1, 20, .inl (fun _ => 0)))] H := hP
  have hD : va_D A [(h0, .inr (0, [.ref q7, .ref q15, .ref q23, .ref q31, .ref q39, .null, .int 0])), (q7, .inl (cA.1, 120, .inl (fun _ => 0))), (q15, .inl (cA.1, 20, .inl (fun _ => 0))), (q23, .inl (cA.1, 20, .inl (fun _ => 0))), (q31, .inl (cA.1, 20, .inl (fun _ => 0))), (q39, .inl (cA.1, 20, .inl (fun _ => 0))), (q47, .inl (cA.1, 20, .inl (fun _ => 0)))] := hD
  refine W.widen (k := 6) (n := 220) (Nat.le_of_ble_eq_true rfl) (Nat.le_of_ble_eq_true rfl) ?_
  refine va_putF (D := D) (ci := 0) (v := .ref q47) (ty := (.array .int)) (C := RX0) (T := TX0) (N := 7) hx hb hg ju_0 tyX0 tyX0_ok nmX0 hown hK hP hD hS 0 rfl rfl 5 (by decide) (hg _ jg_81) (fun _ h9 => h9) rfl hin rfl (by decide +kernel) rfl rfl (Nat.le_of_ble_eq_true rfl) dk_D_49 (fun H locs hP hD hS => ?_)
  have hP : va_P D vwCl [(h0, .inr (0, [.ref q7, .ref q15, .ref q23, .ref q31, .ref q39, .ref q47, .int 0])), (q7, .inl (cA.1, 120, .inl (fun _ => 0))), (q15, .inl (cA.1, 20, .inl (fun _ => 0))), (q23, .inl (cA.1, 20, .inl (fun _ => 0))), (q31, .inl (cA.1, 20, .inl (fun _ => 0))), (q39, .inl (cA.1, 20, .inl (fun _ => 0))), (q47, .inl (cA.1, 20, .inl (fun _ => 0)))] H := hP
  have hD : va_D A [(h0, .inr (0, [.ref q7, .ref q15, .ref q23, .ref q31, .ref q39, .ref q47, .int 0])), (q7, .inl (cA.1, 120, .inl (fun _ => 0))), (q15, .inl (cA.1, 20, .inl (fun _ => 0))), (q23, .inl (cA.1, 20, .inl (fun _ => 0))), (q31, .inl (cA.1, 20, .inl (fun _ => 0))), (q39, .inl (cA.1, 20, .inl (fun _ => 0))), (q47, .inl (cA.1, 20, .inl (fun _ => 0)))] := hD
  exact W.vret hx hb hr (fun t ht hW => ⟨⟨(fun k => [h0, q7, q15, q23, q31, q39, q47].getD k 0), rfl, rfl, by rw [ht]; exact hP, hD⟩, hS.F ht⟩) hS.2.2 dk_D_52
theorem dk_L_0 : decode cX2_init 0 = .ok (.aload_n 0, 1) := by decide +kernel
theorem dk_L_1 : decode cX2_init 1 = .ok (.invokespecial 3, 3) := by decide +kernel
theorem dk_L_4 : decode cX2_init 4 = .ok (.aload_n 0, 1) := by decide +kernel
theorem dk_L_5 : decode cX2_init 5 = .ok (.bipush 20, 2) := by decide +kernel
theorem dk_L_7 : decode cX2_init 7 = .ok (.newarray .int, 2) := by decide +kernel
theorem dk_L_9 : decode cX2_init 9 = .ok (.putfield 9, 3) := by decide +kernel
theorem dk_L_12 : decode cX2_init 12 = .ok (.aload_n 0, 1) := by decide +kernel
theorem dk_L_13 : decode cX2_init 13 = .ok (.bipush 17, 2) := by decide +kernel
theorem dk_L_15 : decode cX2_init 15 = .ok (.newarray .int, 2) := by decide +kernel
theorem dk_L_17 : decode cX2_init 17 = .ok (.putfield 15, 3) := by decide +kernel
theorem dk_L_20 : decode cX2_init 20 = .ok (.aload_n 0, 1) := by decide +kernel
theorem dk_L_21 : decode cX2_init 21 = .ok (.sipush 357, 3) := by decide +kernel
theorem dk_L_24 : decode cX2_init 24 = .ok (.newarray .int, 2) := by decide +kernel
theorem dk_L_26 : decode cX2_init 26 = .ok (.putfield 18, 3) := by decide +kernel
theorem dk_L_29 : decode cX2_init 29 = .ok (.aload_n 0, 1) := by decide +kernel
theorem dk_L_30 : decode cX2_init 30 = .ok (.sipush 357, 3) := by decide +kernel
theorem dk_L_33 : decode cX2_init 33 = .ok (.newarray .int, 2) := by decide +kernel
theorem dk_L_35 : decode cX2_init 35 = .ok (.putfield 21, 3) := by decide +kernel
theorem dk_L_38 : decode cX2_init 38 = .ok (.aload_n 0, 1) := by decide +kernel
theorem dk_L_39 : decode cX2_init 39 = .ok (.sipush 357, 3) := by decide +kernel
theorem dk_L_42 : decode cX2_init 42 = .ok (.newarray .int, 2) := by decide +kernel
theorem dk_L_44 : decode cX2_init 44 = .ok (.putfield 24, 3) := by decide +kernel
theorem dk_L_47 : decode cX2_init 47 = .ok (.aload_n 0, 1) := by decide +kernel
theorem dk_L_48 : decode cX2_init 48 = .ok (.sipush 357, 3) := by decide +kernel
theorem dk_L_51 : decode cX2_init 51 = .ok (.newarray .int, 2) := by decide +kernel
theorem dk_L_53 : decode cX2_init 53 = .ok (.putfield 27, 3) := by decide +kernel
theorem dk_L_56 : decode cX2_init 56 = .ok (.aload_n 0, 1) := by decide +kernel
theorem dk_L_57 : decode cX2_init 57 = .ok (.aload_n 1, 1) := by decide +kernel
theorem dk_L_58 : decode cX2_init 58 = .ok (.putfield 30, 3) := by decide +kernel
theorem dk_L_61 : decode cX2_init 61 = .ok (.return_, 1) := by decide +kernel
abbrev jw_L (cA : ClassId × ClassId × ClassId) (x1 : Nat) (q : Nat → Nat) : va_W := [((q 0), .inr (2, [.ref x1, .ref (q 1), .ref (q 2), .ref (q 3), .ref (q 4), .ref (q 5), .ref (q 6)])), ((q 1), .inl (cA.1, 20, .inl (fun _ => 0))), ((q 2), .inl (cA.1, 17, .inl (fun _ => 0))), ((q 3), .inl (cA.1, 357, .inl (fun _ => 0))), ((q 4), .inl (cA.1, 357, .inl (fun _ => 0))), ((q 5), .inl (cA.1, 357, .inl (fun _ => 0))), ((q 6), .inl (cA.1, 357, .inl (fun _ => 0)))]
set_option maxHeartbeats 4000000 in
set_option maxRecDepth 100000 in
theorem cc_L (l : Launch) (D : va_G) (cA : ClassId × ClassId × ClassId) (h0 sz : Nat) (x1 : Nat) : Met l yX2_init (Cond.code yX2_init cX2_init 2 none :: jx_gw) ({ frames := 1, cells := 6, slots := 1465, locals := 12 }) (va_Pc [.ref h0, .ref x1] (fun U => U.heap.size = sz ∧ va_P D vwCl [(h0, .inr (2, [.null, .null, .null, .null, .null, .null, .null]))] U.heap ∧ va_K D vwCl (jx_ty cA) U)) (va_Qv (fun q : Nat → Nat => q 0 = h0) (fun q t => va_P D vwCl (jw_L cA x1 q) t.heap ∧ va_D (va_A [(h0, .inr (2, [.null, .null, .null, .null, .null, .null, .null]))] sz) (jw_L cA x1 q)) (va_A [(h0, .inr (2, [.null, .null, .null, .null, .null, .null, .null]))] sz)) 6 1465 (va_A [(h0, .inr (2, [.null, .null, .null, .null, .null, .null, .null]))] sz) := by
  refine Met.ofW (cc := cX2_init) (maxL := 2) (ret := none) (by decide) rfl ?_
  intro p e s m args below meth c s₁ B hml hv
  obtain ⟨rfl, hsz, hP, hK⟩ := hv
  have hx := B.exec
  have hb := B.bytes
  have hr := B.returns
  have hts := atoms_spec (ws := (Cond.code yX2_init cX2_init 2 none :: jx_gw)) B.pre
  have hg : ∀ w ∈ jx_gw, w.before _ s = true := fun w hw => hts w (List.mem_cons_of_mem _ hw)
  have hown : s.vm.findClass RX2 = some m.cls := findClass_of_methodNamed B.named
  have hlocks := B.notSynchronized
  have hin : meth.name = "<init>" := (name_of_methodNamed B.named B.method).1
  subst hsz
  have hD := jc_D1 (x := (h0, .inr (2, [.null, .null, .null, .null, .null, .null, .null]))) (sz := s.heap.size)
  generalize hAe : va_A [(h0, .inr (2, [.null, .null, .null, .null, .null, .null, .null]))] s.heap.size = A at hD ⊢
  have hA : ∀ q : Nat, s.heap.size ≤ q → A q := fun q h => by rw [← hAe]; exact Or.inr h
  have hS : va_S A s.heap s.heap [] := va_S.rf
  have hl := lv_entry ([.ref h0, .ref x1]) (n := 2) (Nat.le_of_ble_eq_true rfl)
  rw [lg_entry_eq]
  generalize (lg_sl ([.ref h0, .ref x1]) ++ List.replicate (2 - (lg_sl ([.ref h0, .ref x1])).length) Slot.unset).toArray = ls at hl ⊢
  have hl : lv_has ls 2 [(0, .ref h0), (1, .ref x1)] := hl
  refine lv_aload_n hx hb dk_L_0 rfl (lv_at hl 0 rfl) ?_
  refine W.objInit hx hb hown (hg _ jg_135) (hg _ jg_57) (hg _ jg_58) rfl (by rw [hml]; exact hl.1) rfl dk_L_1 (Nat.le_of_ble_eq_true rfl) (Nat.le_of_ble_eq_true rfl) ?_
  refine W.eq (g2 := F0 m 4 ls []) rfl ?_
  refine lv_aload_n hx hb dk_L_4 rfl (lv_at hl 0 rfl) ?_
  refine lv_bipush (v := 20) hx hb dk_L_5 (by decide) ?_
  refine jc_newi (N' := 20) hx hb hg hK hP hD hS hA (by decide) (by decide) (by decide) (Nat.le_of_ble_eq_true rfl) (Nat.le_of_ble_eq_true rfl) dk_L_7 (fun q7 H hP hD hS => ?_)
  have hP : va_P D vwCl [(h0, .inr (2, [.null, .null, .null, .null, .null, .null, .null])), (q7, .inl (cA.1, 20, .inl (fun _ => 0)))] H := hP
  have hD : va_D A [(h0, .inr (2, [.null, .null, .null, .null, .null, .null, .null])), (q7, .inl (cA.1, 20, .inl (fun _ => 0)))] := hD
  refine W.widen (k := 1) (n := 20) (Nat.le_of_ble_eq_true rfl) (Nat.le_of_ble_eq_true rfl) ?_
  refine va_putF (D := D) (ci := 2) (v := .ref q7) (ty := (.array .int)) (C := RX2) (T := TX2) (N := 7) hx hb hg ju_2 tyX2 tyX2_ok nmX2 hown hK hP hD hS 0 rfl rfl 1 (by decide) (hg _ jg_137) (fun _ h9 => h9) rfl hin rfl (by decide +kernel) rfl rfl (Nat.le_of_ble_eq_true rfl) dk_L_9 (fun H locs hP hD hS => ?_)
  have hP : va_P D vwCl [(h0, .inr (2, [.null, .ref q7, .null, .null, .null, .null, .null])), (q7, .inl (cA.1, 20, .inl (fun _ => 0)))] H := hP
  have hD : va_D A [(h0, .inr (2, [.null, .ref q7, .null, .null, .null, .null, .null])), (q7, .inl (cA.1, 20, .inl (fun _ => 0)))] := hD
  refine lv_aload_n hx hb dk_L_12 rfl (lv_at hl 0 rfl) ?_
  refine lv_bipush (v := 17) hx hb dk_L_13 (by decide) ?_
  refine jc_newi (N' := 17) hx hb hg hK hP hD hS hA (by decide) (by decide) (by decide) (Nat.le_of_ble_eq_true rfl) (Nat.le_of_ble_eq_true rfl) dk_L_15 (fun q15 H hP hD hS => ?_)
  have hP : va_P D vwCl [(h0, .inr (2, [.null, .ref q7, .null, .null, .null, .null, .null])), (q7, .inl (cA.1, 20, .inl (fun _ => 0))), (q15, .inl (cA.1, 17, .inl (fun _ => 0)))] H := hP
  have hD : va_D A [(h0, .inr (2, [.null, .ref q7, .null, .null, .null, .null, .null])), (q7, .inl (cA.1, 20, .inl (fun _ => 0))), (q15, .inl (cA.1, 17, .inl (fun _ => 0)))] := hD
  refine W.widen (k := 2) (n := 37) (Nat.le_of_ble_eq_true rfl) (Nat.le_of_ble_eq_true rfl) ?_
  refine va_putF (D := D) (ci := 2) (v := .ref q15) (ty := (.array .int)) (C := RX2) (T := TX2) (N := 7) hx hb hg ju_2 tyX2 tyX2_ok nmX2 hown hK hP hD hS 0 rfl rfl 2 (by decide) (hg _ jg_138) (fun _ h9 => h9) rfl hin rfl (by decide +kernel) rfl rfl (Nat.le_of_ble_eq_true rfl) dk_L_17 (fun H locs hP hD hS => ?_)
  have hP : va_P D vwCl [(h0, .inr (2, [.null, .ref q7, .ref q15, .null, .null, .null, .null])), (q7, .inl (cA.1, 20, .inl (fun _ => 0))), (q15, .inl (cA.1, 17, .inl (fun _ => 0)))] H := hP
  have hD : va_D A [(h0, .inr (2, [.null, .ref q7, .ref q15, .null, .null, .null, .null])), (q7, .inl (cA.1, 20, .inl (fun _ => 0))), (q15, .inl (cA.1, 17, .inl (fun _ => 0)))] := hD
  refine lv_aload_n hx hb dk_L_20 rfl (lv_at hl 0 rfl) ?_
  refine lv_sipush (v := 357) hx hb dk_L_21 (by decide) ?_
  refine jc_newi (N' := 357) hx hb hg hK hP hD hS hA (by decide) (by decide) (by decide) (Nat.le_of_ble_eq_true rfl) (Nat.le_of_ble_eq_true rfl) dk_L_24 (fun q24 H hP hD hS => ?_)
  have hP : va_P D vwCl [(h0, .inr (2, [.null, .ref q7, .ref q15, .null, .null, .null, .null])), (q7, .inl (cA.1, 20, .inl (fun _ => 0))), (q15, .inl (cA.1, 17, .inl (fun _ => 0))), (q24, .inl (cA.1, 357, .inl (fun _ => 0)))] H := hP
  have hD : va_D A [(h0, .inr (2, [.null, .ref q7, .ref q15, .null, .null, .null, .null])), (q7, .inl (cA.1, 20, .inl (fun _ => 0))), (q15, .inl (cA.1, 17, .inl (fun _ => 0))), (q24, .inl (cA.1, 357, .inl (fun _ => 0)))] := hD
  refine W.widen (k := 3) (n := 394) (Nat.le_of_ble_eq_true rfl) (Nat.le_of_ble_eq_true rfl) ?_
  refine va_putF (D := D) (ci := 2) (v := .ref q24) (ty := (.array .int)) (C := RX2) (T := TX2) (N := 7) hx hb hg ju_2 tyX2 tyX2_ok nmX2 hown hK hP hD hS 0 rfl rfl 3 (by decide) (hg _ jg_140) (fun _ h9 => h9) rfl hin rfl (by decide +kernel) rfl rfl (Nat.le_of_ble_eq_true rfl) dk_L_26 (fun H locs hP hD hS => ?_)
  have hP : va_P D vwCl [(h0, .inr (2, [.null, .ref q7, .ref q15, .ref q24, .null, .null, .null])), (q7, .inl (cA.1, 20, .inl (fun _ => 0))), (q15, .inl (cA.1, 17, .inl (fun _ => 0))), (q24, .inl (cA.1, 357, .inl (fun _ => 0)))] H := hP
  have hD : va_D A [(h0, .inr (2, [.null, .ref q7, .ref q15, .ref q24, .null, .null, .null])), (q7, .inl (cA.1, 20, .inl (fun _ => 0))), (q15, .inl (cA.1, 17, .inl (fun _ => 0))), (q24, .inl (cA.1, 357, .inl (fun _ => 0)))] := hD
  refine lv_aload_n hx hb dk_L_29 rfl (lv_at hl 0 rfl) ?_
  refine lv_sipush (v := 357) hx hb dk_L_30 (by decide) ?_
  refine jc_newi (N' := 357) hx hb hg hK hP hD hS hA (by decide) (by decide) (by decide) (Nat.le_of_ble_eq_true rfl) (Nat.le_of_ble_eq_true rfl) dk_L_33 (fun q33 H hP hD hS => ?_)
  have hP : va_P D vwCl [(h0, .inr (2, [.null, .ref q7, .ref q15, .ref q24, .null, .null, .null])), (q7, .inl (cA.1, 20, .inl (fun _ => 0))), (q15, .inl (cA.1, 17, .inl (fun _ => 0))), (q24, .inl (cA.1, 357, .inl (fun _ => 0))), (q33, .inl (cA.1, 357, .inl (fun _ => 0)))] H := hP
  have hD : va_D A [(h0, .inr (2, [.null, .ref q7, .ref q15, .ref q24, .null, .null, .null])), (q7, .inl (cA.1, 20, .inl (fun _ => 0))), (q15, .inl (cA.1, 17, .inl (fun _ => 0))), (q24, .inl (cA.1, 357, .inl (fun _ => 0))), (q33, .inl (cA.1, 357, .inl (fun _ => 0)))] := hD
  refine W.widen (k := 4) (n := 751) (Nat.le_of_ble_eq_true rfl) (Nat.le_of_ble_eq_true rfl) ?_
  refine va_putF (D := D) (ci := 2) (v := .ref q33) (ty := (.array .int)) (C := RX2) (T := TX2) (N := 7) hx hb hg ju_2 tyX2 tyX2_ok nmX2 hown hK hP hD hS 0 rfl rfl 4 (by decide) (hg _ jg_142) (fun _ h9 => h9) rfl hin rfl (by decide +kernel) rfl rfl (Nat.le_of_ble_eq_true rfl) dk_L_35 (fun H locs hP hD hS => ?_)
  have hP : va_P D vwCl [(h0, .inr (2, [.null, .ref q7, .ref q15, .ref q24, .ref q33, .null, .null])), (q7, .inl (cA.1, 20, .inl (fun _ => 0))), (q15, .inl (cA.1, 17, .inl (fun _ => 0))), (q24, .inl (cA.1, 357, .inl (fun _ => 0))), (q33, .inl (cA.1, 357, .inl (fun _ => 0)))] H := hP
  have hD : va_D A [(h0, .inr (2, [.null, .ref q7, .ref q15, .ref q24, .ref q33, .null, .null])), (q7, .inl (cA.1, 20, .inl (fun _ => 0))), (q15, .inl (cA.1, 17, .inl (fun _ => 0))), (q24, .inl (cA.1, 357, .inl (fun _ => 0))), (q33, .inl (cA.1, 357, .inl (fun _ => 0)))] := hD
  refine lv_aload_n hx hb dk_L_38 rfl (lv_at hl 0 rfl) ?_
  refine lv_sipush (v := 357) hx hb dk_L_39 (by decide) ?_
  refine jc_newi (N' := 357) hx hb hg hK hP hD hS hA (by decide) (by decide) (by decide) (Nat.le_of_ble_eq_true rfl) (Nat.le_of_ble_eq_true rfl) dk_L_42 (fun q42 H hP hD hS => ?_)
  have hP : va_P D vwCl [(h0, .inr (2, [.null, .ref q7, .ref q15, .ref q24, .ref q33, .null, .null])), (q7, .inl (cA.1, 20, .inl (fun _ => 0))), (q15, .inl (cA.1, 17, .inl (fun _ => 0))), (q24, .inl (cA.1, 357, .inl (fun _ => 0))), (q33, .inl (cA.1, 357, .inl (fun _ => 0))), (q42, .inl (cA.1, 357, .inl (fun _ => 0)))] H := hP
  have hD : va_D A [(h0, .inr (2, [.null, .ref q7, .ref q15, .ref q24, .ref q33, .null, .null])), (q7, .inl (cA.1, 20, .inl (fun _ => 0))), (q15, .inl (cA.1, 17, .inl (fun _ => 0))), (q24, .inl (cA.1, 357, .inl (fun _ => 0))), (q33, .inl (cA.1, 357, .inl (fun _ => 0))), (q42, .inl (cA.1, 357, .inl (fun _ => 0)))] := hD
  refine W.widen (k := 5) (n := 1108) (Nat.le_of_ble_eq_true rfl) (Nat.le_of_ble_eq_true rfl) ?_
  refine va_putF (D := D) (ci := 2) (v := .ref q42) (ty := (.array .int)) (C := RX2) (T := TX2) (N := 7) hx hb hg ju_2 tyX2 tyX2_ok nmX2 hown hK hP hD hS 0 rfl rfl 5 (by decide) (hg _ jg_144) (fun _ h9 => h9) rfl hin rfl (by decide +kernel) rfl rfl (Nat.le_of_ble_eq_true rfl) dk_L_44 (fun H locs hP hD hS => ?_)
  have hP : va_P D vwCl [(h0, .inr (2, [.null, .ref q7, .ref q15, .ref q24, .ref q33, .ref q42, .null])), (q7, .inl (cA.1, 20, .inl (fun _ => 0))), (q15, .inl (cA.1, 17, .inl (fun _ => 0))), (q24, .inl (cA.1, 357, .inl (fun _ => 0))), (q33, .inl (cA.1, 357, .inl (fun _ => 0))), (q42, .inl (cA.1, 357, .inl (fun _ => 0)))] H := hP
  have hD : va_D A [(h0, .inr (2, [.null, .ref q7, .ref q15, .ref q24, .ref q33, .ref q42, .null])), (q7, .inl (cA.1, 20, .inl (fun _ => 0))), (q15, .inl (cA.1, 17, .inl (fun _ => 0))), (q24, .inl (cA.1, 357, .inl (fun _ => 0))), (q33, .inl (cA.1, 357, .inl (fun _ => 0))), (q42, .inl (cA.1, 357, .inl (fun _ => 0)))] := hD
  refine lv_aload_n hx hb dk_L_47 rfl (lv_at hl 0 rfl) ?_
  refine lv_sipush (v := 357) hx hb dk_L_48 (by decide) ?_
  refine jc_newi (N' := 357) hx hb hg hK hP hD hS hA (by decide) (by decide) (by decide) (Nat.le_of_ble_eq_true rfl) (Nat.le_of_ble_eq_true rfl) dk_L_51 (fun q51 H hP hD hS => ?_)
  have hP : va_P D vwCl [(h0, .inr (2, [.null, .ref q7, .ref q15, .ref q24, .ref q33, .ref q42, .null])), (q7, .inl (cA.1, 20, .inl (fun _ => 0))), (q15, .inl (cA.1, 17, .inl (fun _ => 0))), (q24, .inl (cA.1, 357, .inl (fun _ => 0))), (q33, .inl (cA.1, 357, .inl (fun _ => 0))), (q42, .inl (cA.1, 357, .inl (fun _ => 0))), (q51, .inl (cA.1, 357, .inl (fun _ => 0)))] H := hP
  have hD : va_D A [(h0, .inr (2, [.null, .ref q7, .ref q15, .ref q24, .ref q33, .ref q42, .null])), (q7, .inl (cA.1, 20, .inl (fun _ => 0))), (q15, .inl (cA.1, 17, .inl (fun _ => 0))), (q24, .inl (cA.1, 357, .inl (fun _ => 0))), (q33, .inl (cA.1, 357, .inl (fun _ => 0))), (q42, .inl (cA.1, 357, .inl (fun _ => 0))), (q51, .inl (cA.1, 357, .inl (fun _ => 0)))] := hD
  refine W.widen (k := 6) (n := 1465) (Nat.le_of_ble_eq_true rfl) (Nat.le_of_ble_eq_true rfl) ?_
  refine va_putF (D := D) (ci := 2) (v := .ref q51) (ty := (.array .int)) (C := RX2) (T := TX2) (N := 7) hx hb hg ju_2 tyX2 tyX2_ok nmX2 hown hK hP hD hS 0 rfl rfl 6 (by decide) (hg _ jg_146) (fun _ h9 => h9) rfl hin rfl (by decide +kernel) rfl rfl (Nat.le_of_ble_eq_true rfl) dk_L_53 (fun H locs hP hD hS => ?_)
  have hP : va_P D vwCl [(h0, .inr (2, [.null, .ref q7, .ref q15, .ref q24, .ref q33, .ref q42, .ref q51])), (q7, .inl (cA.1, 20, .inl (fun _ => 0))), (q15, .inl (cA.1, 17, .inl (fun _ => 0))), (q24, .inl (cA.1, 357, .inl (fun _ => 0))), (q33, .inl (cA.1, 357, .inl (fun _ => 0))), (q42, .inl (cA.1, 357, .inl (fun _ => 0))), (q51, .inl (cA.1, 357, .inl (fun _ => 0)))] H := hP
  have hD : va_D A [(h0, .inr (2, [.null, .ref q7, .ref q15, .ref q24, .ref q33, .ref q42, .ref q51])), (q7, .inl (cA.1, 20, .inl (fun _ => 0))), (q15, .inl (cA.1, 17, .inl (fun _ => 0))), (q24, .inl (cA.1, 357, .inl (fun _ => 0))), (q33, .inl (cA.1, 357, .inl (fun _ => 0))), (q42, .inl (cA.1, 357, .inl (fun _ => 0))), (q51, .inl (cA.1, 357, .inl (fun _ => 0)))] := hD
  refine lv_aload_n hx hb dk_L_56 rfl (lv_at hl 0 rfl) ?_
  refine lv_aload_n hx hb dk_L_57 rfl (lv_at hl 1 rfl) ?_
  refine va_putF (D := D) (ci := 2) (v := .ref x1) (ty := (.object "ReadingConverter$Model")) (C := RX2) (T := TX2) (N := 7) hx hb hg ju_2 tyX2 tyX2_ok nmX2 hown hK hP hD hS 0 rfl rfl 0 (by decide) (hg _ jg_136) (fun _ h9 => h9) rfl hin rfl (by decide +kernel) rfl rfl (Nat.le_of_ble_eq_true rfl) dk_L_58 (fun H locs hP hD hS => ?_)
  have hP : va_P D vwCl [(h0, .inr (2, [.ref x1, .ref q7, .ref q15, .ref q24, .ref q33, .ref q42, .ref q51])), (q7, .inl (cA.1, 20, .inl (fun _ => 0))), (q15, .inl (cA.1, 17, .inl (fun _ => 0))), (q24, .inl (cA.1, 357, .inl (fun _ => 0))), (q33, .inl (cA.1, 357, .inl (fun _ => 0))), (q42, .inl (cA.1, 357, .inl (fun _ => 0))), (q51, .inl (cA.1, 357, .inl (fun _ => 0)))] H := hP
  have hD : va_D A [(h0, .inr (2, [.ref x1, .ref q7, .ref q15, .ref q24, .ref q33, .ref q42, .ref q51])), (q7, .inl (cA.1, 20, .inl (fun _ => 0))), (q15, .inl (cA.1, 17, .inl (fun _ => 0))), (q24, .inl (cA.1, 357, .inl (fun _ => 0))), (q33, .inl (cA.1, 357, .inl (fun _ => 0))), (q42, .inl (cA.1, 357, .inl (fun _ => 0))), (q51, .inl (cA.1, 357, .inl (fun _ => 0)))] := hD
  exact W.vret hx hb hr (fun t ht hW => ⟨⟨(fun k => [h0, q7, q15, q24, q33, q42, q51].getD k 0), rfl, rfl, by rw [ht]; exact hP, hD⟩, hS.F ht⟩) hS.2.2 dk_L_61
theorem dk_R_0 : decode cX4_init 0 = .ok (.aload_n 0, 1) := by decide +kernel
theorem dk_R_1 : decode cX4_init 1 = .ok (.invokespecial 3, 3) := by decide +kernel
theorem dk_R_4 : decode cX4_init 4 = .ok (.aload_n 0, 1) := by decide +kernel
theorem dk_R_5 : decode cX4_init 5 = .ok (.bipush 119, 2) := by decide +kernel
theorem dk_R_7 : decode cX4_init 7 = .ok (.newarray .int, 2) := by decide +kernel
theorem dk_R_9 : decode cX4_init 9 = .ok (.putfield 9, 3) := by decide +kernel
theorem dk_R_12 : decode cX4_init 12 = .ok (.aload_n 0, 1) := by decide +kernel
theorem dk_R_13 : decode cX4_init 13 = .ok (.bipush 119, 2) := by decide +kernel
theorem dk_R_15 : decode cX4_init 15 = .ok (.newarray .int, 2) := by decide +kernel
theorem dk_R_17 : decode cX4_init 17 = .ok (.putfield 15, 3) := by decide +kernel
theorem dk_R_20 : decode cX4_init 20 = .ok (.aload_n 0, 1) := by decide +kernel
theorem dk_R_21 : decode cX4_init 21 = .ok (.bipush 119, 2) := by decide +kernel
theorem dk_R_23 : decode cX4_init 23 = .ok (.newarray .int, 2) := by decide +kernel
theorem dk_R_25 : decode cX4_init 25 = .ok (.putfield 18, 3) := by decide +kernel
theorem dk_R_28 : decode cX4_init 28 = .ok (.aload_n 0, 1) := by decide +kernel
theorem dk_R_29 : decode cX4_init 29 = .ok (.sipush 2380, 3) := by decide +kernel
theorem dk_R_32 : decode cX4_init 32 = .ok (.newarray .int, 2) := by decide +kernel
theorem dk_R_34 : decode cX4_init 34 = .ok (.putfield 21, 3) := by decide +kernel
theorem dk_R_37 : decode cX4_init 37 = .ok (.aload_n 0, 1) := by decide +kernel
theorem dk_R_38 : decode cX4_init 38 = .ok (.sipush 2380, 3) := by decide +kernel
theorem dk_R_41 : decode cX4_init 41 = .ok (.newarray .int, 2) := by decide +kernel
theorem dk_R_43 : decode cX4_init 43 = .ok (.putfield 24, 3) := by decide +kernel
theorem dk_R_46 : decode cX4_init 46 = .ok (.aload_n 0, 1) := by decide +kernel
theorem dk_R_47 : decode cX4_init 47 = .ok (.sipush 2380, 3) := by decide +kernel
theorem dk_R_50 : decode cX4_init 50 = .ok (.newarray .int, 2) := by decide +kernel
theorem dk_R_52 : decode cX4_init 52 = .ok (.putfield 27, 3) := by decide +kernel
theorem dk_R_55 : decode cX4_init 55 = .ok (.aload_n 0, 1) := by decide +kernel
theorem dk_R_56 : decode cX4_init 56 = .ok (.bipush 21, 2) := by decide +kernel
theorem dk_R_58 : decode cX4_init 58 = .ok (.newarray .int, 2) := by decide +kernel
theorem dk_R_60 : decode cX4_init 60 = .ok (.putfield 30, 3) := by decide +kernel
theorem dk_R_63 : decode cX4_init 63 = .ok (.aload_n 0, 1) := by decide +kernel
theorem dk_R_64 : decode cX4_init 64 = .ok (.bipush 21, 2) := by decide +kernel
theorem dk_R_66 : decode cX4_init 66 = .ok (.newarray .int, 2) := by decide +kernel
theorem dk_R_68 : decode cX4_init 68 = .ok (.putfield 33, 3) := by decide +kernel
theorem dk_R_71 : decode cX4_init 71 = .ok (.aload_n 0, 1) := by decide +kernel
theorem dk_R_72 : decode cX4_init 72 = .ok (.bipush 17, 2) := by decide +kernel
theorem dk_R_74 : decode cX4_init 74 = .ok (.newarray .int, 2) := by decide +kernel
theorem dk_R_76 : decode cX4_init 76 = .ok (.putfield 36, 3) := by decide +kernel
theorem dk_R_79 : decode cX4_init 79 = .ok (.aload_n 0, 1) := by decide +kernel
theorem dk_R_80 : decode cX4_init 80 = .ok (.bipush 16, 2) := by decide +kernel
theorem dk_R_82 : decode cX4_init 82 = .ok (.newarray .int, 2) := by decide +kernel
theorem dk_R_84 : decode cX4_init 84 = .ok (.putfield 39, 3) := by decide +kernel
theorem dk_R_87 : decode cX4_init 87 = .ok (.aload_n 0, 1) := by decide +kernel
theorem dk_R_88 : decode cX4_init 88 = .ok (.bipush 16, 2) := by decide +kernel
theorem dk_R_90 : decode cX4_init 90 = .ok (.newarray .int, 2) := by decide +kernel
theorem dk_R_92 : decode cX4_init 92 = .ok (.putfield 42, 3) := by decide +kernel
theorem dk_R_95 : decode cX4_init 95 = .ok (.aload_n 0, 1) := by decide +kernel
theorem dk_R_96 : decode cX4_init 96 = .ok (.aload_n 1, 1) := by decide +kernel
theorem dk_R_97 : decode cX4_init 97 = .ok (.putfield 45, 3) := by decide +kernel
theorem dk_R_100 : decode cX4_init 100 = .ok (.aload_n 0, 1) := by decide +kernel
theorem dk_R_101 : decode cX4_init 101 = .ok (.aload_n 2, 1) := by decide +kernel
theorem dk_R_102 : decode cX4_init 102 = .ok (.putfield 49, 3) := by decide +kernel
theorem dk_R_105 : decode cX4_init 105 = .ok (.return_, 1) := by decide +kernel
abbrev jw_R (cA : ClassId × ClassId × ClassId) (x1 : Nat) (x2 : Nat) (q : Nat → Nat) : va_W := [((q 0), .inr (4, [.ref x1, .ref x2, .ref (q 1), .ref (q 2), .ref (q 3), .ref (q 4), .ref (q 5), .ref (q 6), .ref (q 7), .ref (q 8), .ref (q 9), .ref (q 10), .ref (q 11), .int 0])), ((q 1), .inl (cA.1, 119, .inl (fun _ => 0))), ((q 2), .inl (cA.1, 119, .inl (fun _ => 0))), ((q 3), .inl (cA.1, 119, .inl (fun _ => 0))), ((q 4), .inl (cA.1, 2380, .inl (fun _ => 0))), ((q 5), .inl (cA.1, 2380, .inl (fun _ => 0))), ((q 6), .inl (cA.1, 2380, .inl (fun _ => 0))), ((q 7), .inl (cA.1, 21, .inl (fun _ => 0))), ((q 8), .inl (cA.1, 21, .inl (fun _ => 0))), ((q 9), .inl (cA.1, 17, .inl (fun _ => 0))), ((q 10), .inl (cA.1, 16, .inl (fun _ => 0))), ((q 11), .inl (cA.1, 16, .inl (fun _ => 0)))]
set_option maxHeartbeats 4000000 in
set_option maxRecDepth 100000 in
theorem cc_R (l : Launch) (D : va_G) (cA : ClassId × ClassId × ClassId) (h0 sz : Nat) (x1 : Nat) (x2 : Nat) : Met l yX4_init (Cond.code yX4_init cX4_init 3 none :: jx_gw) ({ frames := 1, cells := 11, slots := 7588, locals := 12 }) (va_Pc [.ref h0, .ref x1, .ref x2] (fun U => U.heap.size = sz ∧ va_P D vwCl [(h0, .inr (4, [.null, .null, .null, .null, .null, .null, .null, .null, .null, .null, .null, .null, .null, .int 0]))] U.heap ∧ va_K D vwCl (jx_ty cA) U)) (va_Qv (fun q : Nat → Nat => q 0 = h0) (fun q t => va_P D vwCl (jw_R cA x1 x2 q) t.heap ∧ va_D (va_A [(h0, .inr (4, [.null, .null, .null, .null, .null, .null, .null, .null, .null, .null, .null, .null, .null, .int 0]))] sz) (jw_R cA x1 x2 q)) (va_A [(h0, .inr (4, [.null, .null, .null, .null, .null, .null, .null, .null, .null, .null, .null, .null, .null, .int 0]))] sz)) 11 7588 (va_A [(h0, .inr (4, [.null, .null, .null, .null, .null, .null, .null, .null, .null, .null, .null, .null, .null, .int 0]))] sz) := by
  refine Met.ofW (cc := cX4_init) (maxL := 3) (ret := none) (by decide) rfl ?_
  intro p e s m args below meth c s₁ B hml hv
  obtain ⟨rfl, hsz, hP, hK⟩ := hv
  have hx := B.exec
  have hb := B.bytes
  have hr := B.returns
  have hts := atoms_spec (ws := (Cond.code yX4_init cX4_init 3 none :: jx_gw)) B.pre
  have hg : ∀ w ∈ jx_gw, w.before _ s = true := fun w hw => hts w (List.mem_cons_of_mem _ hw)
  have hown : s.vm.findClass RX4 = some m.cls := findClass_of_methodNamed B.named
  have hlocks := B.notSynchronized
  have hin : meth.name = "<init>" := (name_of_methodNamed B.named B.method).1
  subst hsz
  have hD := jc_D1 (x := (h0, .inr (4, [.null, .null, .null, .null, .null, .null, .null, .null, .null, .null, .null, .null, .null, .int 0]))) (sz := s.heap.size)
  generalize hAe : va_A [(h0, .inr (4, [.null, .null, .null, .null, .null, .null, .null, .null, .null, .null, .null, .null, .null, .int 0]))] s.heap.size = A at hD ⊢
  have hA : ∀ q : Nat, s.heap.size ≤ q → A q := fun q h => by rw [← hAe]; exact Or.inr h
  have hS : va_S A s.heap s.heap [] := va_S.rf
  have hl := lv_entry ([.ref h0, .ref x1, .ref x2]) (n := 3) (Nat.le_of_ble_eq_true rfl)
  rw [lg_entry_eq]
  generalize (lg_sl ([.ref h0, .ref x1, .ref x2]) ++ List.replicate (3 - (lg_sl ([.ref h0, .ref x1, .ref x2])).length) Slot.unset).toArray = ls at hl ⊢
  have hl : lv_has ls 3 [(0, .ref h0), (1, .ref x1), (2, .ref x2)] := hl
  refine lv_aload_n hx hb dk_R_0 rfl (lv_at hl 0 rfl) ?_
  refine W.objInit hx hb hown (hg _ jg_206) (hg _ jg_57) (hg _ jg_58) rfl (by rw [hml]; exact hl.1) rfl dk_R_1 (Nat.le_of_ble_eq_true rfl) (Nat.le_of_ble_eq_true rfl) ?_
  refine W.eq (g2 := F0 m 4 ls []) rfl ?_
  refine lv_aload_n hx hb dk_R_4 rfl (lv_at hl 0 rfl) ?_
  refine lv_bipush (v := 119) hx hb dk_R_5 (by decide) ?_
  refine jc_newi (N' := 119) hx hb hg hK hP hD hS hA (by decide) (by decide) (by decide) (Nat.le_of_ble_eq_true rfl) (Nat.le_of_ble_eq_true rfl) dk_R_7 (fun q7 H hP hD hS => ?_)
  have hP : va_P D vwCl [(h0, .inr (4, [.null, .null, .null, .null, .null, .null, .null, .null, .null, .null, .null, .null, .null, .int 0])), (q7, .inl (cA.1, 119, .inl (fun _ => 0)))] H := hP
  have hD : va_D A [(h0, .inr (4, [.null, .null, .null, .null, .null, .null, .null, .null, .null, .null, .null, .null, .null, .int 0])), (q7, .inl (cA.1, 119, .inl (fun _ => 0)))] := hD
  refine W.widen (k := 1) (n := 119) (Nat.le_of_ble_eq_true rfl) (Nat.le_of_ble_eq_true rfl) ?_
  refine va_putF (D := D) (ci := 4) (v := .ref q7) (ty := (.array .int)) (C := RX4) (T := TX4) (N := 14) hx hb hg ju_4 tyX4 tyX4_ok nmX4 hown hK hP hD hS 0 rfl rfl 2 (by decide) (hg _ jg_209) (fun _ h9 => h9) rfl hin rfl (by decide +kernel) rfl rfl (Nat.le_of_ble_eq_true rfl) dk_R_9 (fun H locs hP hD hS => ?_)
  have hP : va_P D vwCl [(h0, .inr (4, [.null, .null, .ref q7, .null, .null, .null, .null, .null, .null, .null, .null, .null, .null, .int 0])), (q7, .inl (cA.1, 119, .inl (fun _ => 0)))] H := hP
  have hD : va_D A [(h0, .inr (4, [.null, .null, .ref q7, .null, .null, .null, .null, .null, .null, .null, .null, .null, .null, .int 0])), (q7, .inl (cA.1, 119, .inl (fun _ => 0)))] := hD
  refine lv_aload_n hx hb dk_R_12 rfl (lv_at hl 0 rfl) ?_
  refine lv_bipush (v := 119) hx hb dk_R_13 (by decide) ?_
  refine jc_newi (N' := 119) hx hb hg hK hP hD hS hA (by decide) (by decide) (by decide) (Nat.le_of_ble_eq_true rfl) (Nat.le_of_ble_eq_true rfl) dk_R_15 (fun q15 H hP hD hS => ?_)
  have hP : va_P D vwCl [(h0, .inr (4, [.null, .null, .ref q7, .null, .null, .null, .null, .null, .null, .null, .null, .null, .null, .int 0])), (q7, .inl (cA.1, 119, .inl (fun _ => 0))), (q15, .inl (cA.1, 119, .inl (fun _ => 0)))] H := hP
  have hD : va_D A [(h0, .inr (4, [.null, .null, .ref q7, .null, .null, .null, .null, .null, .null, .null, .null, .null, .null, .int 0])), (q7, .inl (cA.1, 119, .inl (fun _ => 0))), (q15, .inl (cA.1, 119, .inl (fun _ => 0)))] := hD
  refine W.widen (k := 2) (n := 238) (Nat.le_of_ble_eq_true rfl) (Nat.le_of_ble_eq_true rfl) ?_
  refine va_putF (D := D) (ci := 4) (v := .ref q15) (ty := (.array .int)) (C := RX4) (T := TX4) (N := 14) hx hb hg ju_4 tyX4 tyX4_ok nmX4 hown hK hP hD hS 0 rfl rfl 3 (by decide) (hg _ jg_210) (fun _ h9 => h9) rfl hin rfl (by decide +kernel) rfl rfl (Nat.le_of_ble_eq_true rfl) dk_R_17 (fun H locs hP hD hS => ?_)
  have hP : va_P D vwCl [(h0, .inr (4, [.null, .null, .ref q7, .ref q15, .null, .null, .null, .null, .null, .null, .null, .null, .null, .int 0])), (q7, .inl (cA.1, 119, .inl (fun _ => 0))), (q15, .inl (cA.1, 119, .inl (fun _ => 0)))] H := hP
  have hD : va_D A [(h0, .inr (4, [.null, .null, .ref q7, .ref q15, .null, .null, .null, .null, .null, .null, .null, .null, .null, .int 0])), (q7, .inl (cA.1, 119, .inl (fun _ => 0))), (q15, .inl (cA.1, 119, .inl (fun _ => 0)))] := hD
  refine lv_aload_n hx hb dk_R_20 rfl (lv_at hl 0 rfl) ?_
  refine lv_bipush (v := 119) hx hb dk_R_21 (by decide) ?_
  refine jc_newi (N' := 119) hx hb hg hK hP hD hS hA (by decide) (by decide) (by decide) (Nat.le_of_ble_eq_true rfl) (Nat.le_of_ble_eq_true rfl) dk_R_23 (fun q23 H hP hD hS => ?_)
  have hP : va_P D vwCl [(h0, .inr (4, [.null, .null, .ref q7, .ref q15, .null, .null, .null, .null, .null, .null, .null, .null, .null, .int 0])), (q7, .inl (cA.1, 119, .inl (fun _ => 0))), (q15, .inl (cA.1, 119, .inl (fun _ => 0))), (q23, .inl (cA.1, 119, .inl (fun _ => 0)))] H := hP
  have hD : va_D A [(h0, .inr (4, [.null, .null, .ref q7, .ref q15, .null, .null, .null, .null, .null, .null, .null, .null, .null, .int 0])), (q7, .inl (cA.1, 119, .inl (fun _ => 0))), (q15, .inl (cA.1, 119, .inl (fun _ => 0))), (q23, .inl (cA.1, 119, .inl (fun _ => 0)))] := hD
  refine W.widen (k := 3) (n := 357) (Nat.le_of_ble_eq_true rfl) (Nat.le_of_ble_eq_true rfl) ?_
  refine va_putF (D := D) (ci := 4) (v := .ref q23) (ty := (.array .int)) (C := RX4) (T := TX4) (N := 14) hx hb hg ju_4 tyX4 tyX4_ok nmX4 hown hK hP hD hS 0 rfl rfl 4 (by decide) (hg _ jg_211) (fun _ h9 => h9) rfl hin rfl (by decide +kernel) rfl rfl (Nat.le_of_ble_eq_true rfl) dk_R_25 (fun H locs hP hD hS => ?_)
  have hP : va_P D vwCl [(h0, .inr (4, [.null, .null, .ref q7, .ref q15, .ref q23, .null, .null, .null, .null, .null, .null, .null, .null, .int 0])), (q7, .inl (cA.1, 119, .inl (fun _ => 0))), (q15, .inl (cA.1, 119, .inl (fun _ => 0))), (q23, .inl (cA.1, 119, .inl (fun _ => 0)))] H := hP
  have hD : va_D A [(h0, .inr (4, [.null, .null, .ref q7, .ref q15, .ref q23, .null, .null, .null, .null, .null, .null, .null, .null, .int 0])), (q7, .inl (cA.1, 119, .inl (fun _ => 0))), (q15, .inl (cA.1, 119, .inl (fun _ => 0))), (q23, .inl (cA.1, 119, .inl (fun _ => 0)))] := hD
  refine lv_aload_n hx hb dk_R_28 rfl (lv_at hl 0 rfl) ?_
  refine lv_sipush (v := 2380) hx hb dk_R_29 (by decide) ?_
  refine jc_newi (N' := 2380) hx hb hg hK hP hD hS hA (by decide) (by decide) (by decide) (Nat.le_of_ble_eq_true rfl) (Nat.le_of_ble_eq_true rfl) dk_R_32 (fun q32 H hP hD hS => ?_)
  have hP : va_P D vwCl [(h0, .inr (4, [.null, .null, .ref q7, .ref q15, .ref q23, .null, .null, .null, .null, .null, .null, .null, .null, .int 0])), (q7, .inl (cA.1, 119, .inl (fun _ => 0))), (q15, .inl (cA.1, 119, .inl (fun _ => 0))), (q23, .inl (cA.1, 119, .inl (fun _ => 0))), (q32, .inl (cA.1, 2380, .inl (fun _ => 0)))] H := hP
  have hD : va_D A [(h0, .inr (4, [.null, .null, .ref q7, .ref q15, .ref q23, .null, .null, .null, .null, .null, .null, .null, .null, .int 0])), (q7, .inl (cA.1, 119, .inl (fun _ => 0))), (q15, .inl (cA.1, 119, .inl (fun _ => 0))), (q23, .inl (cA.1, 119, .inl (fun _ => 0))), (q32, .inl (cA.1, 2380, .inl (fun _ => 0)))] := hD
  refine W.widen (k := 4) (n := 2737) (Nat.le_of_ble_eq_true rfl) (Nat.le_of_ble_eq_true rfl) ?_
  refine va_putF (D := D) (ci := 4) (v := .ref q32) (ty := (.array .int)) (C := RX4) (T := TX4) (N := 14) hx hb hg ju_4 tyX4 tyX4_ok nmX4 hown hK hP hD hS 0 rfl rfl 5 (by decide) (hg _ jg_212) (fun _ h9 => h9) rfl hin rfl (by decide +kernel) rfl rfl (Nat.le_of_ble_eq_true rfl) dk_R_34 (fun H locs hP hD hS => ?_)
  have hP : va_P D vwCl [(h0, .inr (4, [.null, .null, .ref q7, .ref q15, .ref q23, .ref q32, .null, .null, .null, .null, .null, .null, .null, .int 0])), (q7, .inl (cA.1, 119, .inl (fun _ => 0))), (q15, .inl (cA.1, 119, .inl (fun _ => 0))), (q23, .inl (cA.1, 119, .inl (fun _ => 0))), (q32, .inl (cA.1, 2380, .inl (fun _ => 0)))] H := hP
  have hD : va_D A [(h0, .inr (4, [.null, .null, .ref q7, .ref q15, .ref q23, .ref q32, .null, .null, .null, .null, .null, .null, .null, .int 0])), (q7, .inl (cA.1, 119, .inl (fun _ => 0))), (q15, .inl (cA.1, 119, .inl (fun _ => 0))), (q23, .inl (cA.1, 119, .inl (fun _ => 0))), (q32, .inl (cA.1, 2380, .inl (fun _ => 0)))] := hD
  refine lv_aload_n hx hb dk_R_37 rfl (lv_at hl 0 rfl) ?_
  refine lv_sipush (v := 2380) hx hb dk_R_38 (by decide) ?_
  refine jc_newi (N' := 2380) hx hb hg hK hP hD hS hA (by decide) (by decide) (by decide) (Nat.le_of_ble_eq_true rfl) (Nat.le_of_ble_eq_true rfl) dk_R_41 (fun q41 H hP hD hS => ?_)
  have hP : va_P D vwCl [(h0, .inr (4, [.null, .null, .ref q7, .ref q15, .ref q23, .ref q32, .null, .null, .null, .null, .null, .null, .null, .int 0])), (q7, .inl (cA.1, 119, .inl (fun _ => 0))), (q15, .inl (cA.1, 119, .inl (fun _ => 0))), (q23, .inl (cA.1, 119, .inl (fun _ => 0))), (q32, .inl (cA.1, 2380, .inl (fun _ => 0))), (q41, .inl (cA.1, 2380, .inl (fun _ => 0)))] H := hP
  have hD : va_D A [(h0, .inr (4, [.null, .null, .ref q7, .ref q15, .ref q23, .ref q32, .null, .null, .null, .null, .null, .null, .null, .int 0])), (q7, .inl (cA.1, 119, .inl (fun _ => 0))), (q15, .inl (cA.1, 119, .inl (fun _ => 0))), (q23, .inl (cA.1, 119, .inl (fun _ => 0))), (q32, .inl (cA.1, 2380, .inl (fun _ => 0))), (q41, .inl (cA.1, 2380, .inl (fun _ => 0)))] := hD
  refine W.widen (k := 5) (n := 5117) (Nat.le_of_ble_eq_true rfl) (Nat.le_of_ble_eq_true rfl) ?_
  refine va_putF (D := D) (ci := 4) (v := .ref q41) (ty := (.array .int)) (C := RX4) (T := TX4) (N := 14) hx hb hg ju_4 tyX4 tyX4_ok nmX4 hown hK hP hD hS 0 rfl rfl 6 (by decide) (hg _ jg_213) (fun _ h9 => h9) rfl hin rfl (by decide +kernel) rfl rfl (Nat.le_of_ble_eq_true rfl) dk_R_43 (fun H locs hP hD hS => ?_)
  have hP : va_P D vwCl [(h0, .inr (4, [.null, .null, .ref q7, .ref q15, .ref q23, .ref q32, .ref q41, .null, .null, .null, .null, .null, .null, .int 0])), (q7, .inl (cA.1, 119, .inl (fun _ => 0))), (q15, .inl (cA.1, 119, .inl (fun _ => 0))), (q23, .inl (cA.1, 119, .inl (fun _ => 0))), (q32, .inl (cA.1, 2380, .inl (fun _ => 0))), (q41, .inl (cA.1, 2380, .inl (fun _ => 0)))] H := hP
  have hD : va_D A [(h0, .inr (4, [.null, .null, .ref q7, .ref q15, .ref q23, .ref q32, .ref q41, .null, .null, .null, .null, .null, .null, .int 0])), (q7, .inl (cA.1, 119, .inl (fun _ => 0))), (q15, .inl (cA.1, 119, .inl (fun _ => 0))), (q23, .inl (cA.1, 119, .inl (fun _ => 0))), (q32, .inl (cA.1, 2380, .inl (fun _ => 0))), (q41, .inl (cA.1, 2380, .inl (fun _ => 0)))] := hD
  refine lv_aload_n hx hb dk_R_46 rfl (lv_at hl 0 rfl) ?_
  refine lv_sipush (v := 2380) hx hb dk_R_47 (by decide) ?_
  refine jc_newi (N' := 2380) hx hb hg hK hP hD hS hA (by decide) (by decide) (by decide) (Nat.le_of_ble_eq_true rfl) (Nat.le_of_ble_eq_true rfl) dk_R_50 (fun q50 H hP hD hS => ?_)
  have hP : va_P D vwCl [(h0, .inr (4, [.null, .null, .ref q7, .ref q15, .ref q23, .ref q32, .ref q41, .null, .null, .null, .null, .null, .null, .int 0])), (q7, .inl (cA.1, 119, .inl (fun _ => 0))), (q15, .inl (cA.1, 119, .inl (fun _ => 0))), (q23, .inl (cA.1, 119, .inl (fun _ => 0))), (q32, .inl (cA.1, 2380, .inl (fun _ => 0))), (q41, .inl (cA.1, 2380, .inl (fun _ => 0))), (q50, .inl (cA.1, 2380, .inl (fun _ => 0)))] H := hP
  have hD : va_D A [(h0, .inr (4, [.null, .null, .ref q7, .ref q15, .ref q23, .ref q32, .ref q41, .null, .null, .null, .null, .null, .null, .int 0])), (q7, .inl (cA.1, 119, .inl (fun _ => 0))), (q15, .inl (cA.1, 119, .inl (fun _ => 0))), (q23, .inl (cA.1, 119, .inl (fun _ => 0))), (q32, .inl (cA.1, 2380, .inl (fun _ => 0))), (q41, .inl (cA.1, 2380, .inl (fun _ => 0))), (q50, .inl (cA.1, 2380, .inl (fun _ => 0)))] := hD
  refine W.widen (k := 6) (n := 7497) (Nat.le_of_ble_eq_true rfl) (Nat.le_of_ble_eq_true rfl) ?_
  refine va_putF (D := D) (ci := 4) (v := .ref q50) (ty := (.array .int)) (C := RX4) (T := TX4) (N := 14) hx hb hg ju_4 tyX4 tyX4_ok nmX4 hown hK hP hD hS 0 rfl rfl 7 (by decide) (hg _ jg_214) (fun _ h9 => h9) rfl hin rfl (by decide +kernel) rfl rfl (Nat.le_of_ble_eq_true rfl) dk_R_52 (fun H locs hP hD hS => ?_)
  have hP : va_P D vwCl [(h0, .inr (4, [.null, .null, .ref q7, .ref q15, .ref q23, .ref q32, .ref q41, .ref q50, .null, .null, .null, .null, .null, .int 0])), (q7, .inl (cA.1, 119, .inl (fun _ => 0))), (q15, .inl (cA.1, 119, .inl (fun _ => 0))), (q23, .inl (cA.1, 119, .inl (fun _ => 0))), (q32, .inl (cA.1, 2380, .inl (fun _ => 0))), (q41, .inl (cA.1, 2380, .inl (fun _ => 0))), (q50, .inl (cA.1, 2380, .inl (fun _ => 0)))] H := hP
  have hD : va_D A [(h0, .inr (4, [.null, .null, .ref q7, .ref q15, .ref q23, .ref q32, .ref q41, .ref q50, .null, .null, .null, .null, .null, .int 0])), (q7, .inl (cA.1, 119, .inl (fun _ => 0))), (q15, .inl (cA.1, 119, .inl (fun _ => 0))), (q23, .inl (cA.1, 119, .inl (fun _ => 0))), (q32, .inl (cA.1, 2380, .inl (fun _ => 0))), (q41, .inl (cA.1, 2380, .inl (fun _ => 0))), (q50, .inl (cA.1, 2380, .inl (fun _ => 0)))] := hD
  refine lv_aload_n hx hb dk_R_55 rfl (lv_at hl 0 rfl) ?_
  refine lv_bipush (v := 21) hx hb dk_R_56 (by decide) ?_
  refine jc_newi (N' := 21) hx hb hg hK hP hD hS hA (by decide) (by decide) (by decide) (Nat.le_of_ble_eq_true rfl) (Nat.le_of_ble_eq_true rfl) dk_R_58 (fun q58 H hP hD hS => ?_)
  have hP : va_P D vwCl [(h0, .inr (4, [.null, .null, .ref q7, .ref q15, .ref q23, .ref q32, .ref q41, .ref q50, .null, .null, .null, .null, .null, .int 0])), (q7, .inl (cA.1, 119, .inl (fun _ => 0))), (q15, .inl (cA.1, 119, .inl (fun _ => 0))), (q23, .inl (cA.1, 119, .inl (fun _ => 0))), (q32, .inl (cA.1, 2380, .inl (fun _ => 0))), (q41, .inl (cA.1, 2380, .inl (fun _ => 0))), (q50, .inl (cA.1, 2380, .inl (fun _ => 0))), (q58, .inl (cA.1, 21, .inl (fun _ => 0)))] H := hP
  have hD : va_D A [(h0, .inr (4, [.null, .null, .ref q7, .ref q15, .ref q23, .ref q32, .ref q41, .ref q50, .null, .null, .null, .null, .null, .int 0])), (q7, .inl (cA.1, 119, .inl (fun _ => 0))), (q15, .inl (cA.1, 119, .inl (fun _ => 0))), (q23, .inl (cA.1, 119, .inl (fun _ => 0))), (q32, .inl (cA.1, 2380, .inl (fun _ => 0))), (q41, .inl (cA.1, 2380, .inl (fun _ => 0))), (q50, .inl (cA.1, 2380, .inl (fun _ => 0))), (q58, .inl (cA.1, 21, .inl (fun _ => 0)))] := hD
  refine W.widen (k := 7) (n := 7518) (Nat.le_of_ble_eq_true rfl) (Nat.le_of_ble_eq_true rfl) ?_
  refine va_putF (D := D) (ci := 4) (v := .ref q58) (ty := (.array .int)) (C := RX4) (T := TX4) (N := 14) hx hb hg ju_4 tyX4 tyX4_ok nmX4 hown hK hP hD hS 0 rfl rfl 8 (by decide) (hg _ jg_215) (fun _ h9 => h9) rfl hin rfl (by decide +kernel) rfl rfl (Nat.le_of_ble_eq_true rfl) dk_R_60 (fun H locs hP hD hS => ?_)
  have hP : va_P D vwCl [(h0, .inr (4, [.null, .null, .ref q7, .ref q15, .ref q23, .ref q32, .ref q41, .ref q50, .ref q58, .null, .null, .null, .null, .int 0])), (q7, .inl (cA.1, 119, .inl (fun _ => 0))), (q15, .inl (cA.1, 119, .inl (fun _ => 0))), (q23, .inl (cA.1, 119, .inl (fun _ => 0))), (q32, .inl (cA.1, 2380, .inl (fun _ => 0))), (q41, .inl (cA.1, 2380, .inl (fun _ => 0))), (q50, .inl (cA.1, 2380, .inl (fun _ => 0))), (q58, .inl (cA.1, 21, .inl (fun _ => 0)))] H := hP
  have hD : va_D A [(h0, .inr (4, [.null, .null, .ref q7, .ref q15, .ref q23, .ref q32, .ref q41, .ref q50, .ref q58, .null, .null, .null, .null, .int 0])), (q7, .inl (cA.1, 119, .inl (fun _ => 0))), (q15, .inl (cA.1, 119, .inl (fun _ => 0))), (q23, .inl (cA.1, 119, .inl (fun _ => 0))), (q32, .inl (cA.1, 2380, .inl (fun _ => 0))), (q41, .inl (cA.1, 2380, .inl (fun _ => 0))), (q50, .inl (cA.1, 2380, .inl (fun _ => 0))), (q58, .inl (cA.1, 21, .inl (fun _ => 0)))] := hD
  refine lv_aload_n hx hb dk_R_63 rfl (lv_at hl 0 rfl) ?_
  refine lv_bipush (v := 21) hx hb dk_R_64 (by decide) ?_
  refine jc_newi (N' := 21) hx hb hg hK hP hD hS hA (by decide) (by decide) (by decide) (Nat.le_of_ble_eq_true rfl) (Nat.le_of_ble_eq_true rfl) dk_R_66 (fun q66 H hP hD hS => ?_)
  have hP : va_P D vwCl [(h0, .inr (4, [.null, .null, .ref q7, .ref q15, .ref q23, .ref q32, .ref q41, .ref q50, .ref q58, .null, .null, .null, .null, .int 0])), (q7, .inl (cA.1, 119, .inl (fun _ => 0))), (q15, .inl (cA.1, 119, .inl (fun _ => 0))), (q23, .inl (cA.1, 119, .inl (fun _ => 0))), (q32, .inl (cA.1, 2380, .inl (fun _ => 0))), (q41, .inl (cA.1, 2380, .inl (fun _ => 0))), (q50, .inl (cA.1, 2380, .inl (fun _ => 0))), (q58, .inl (cA.1, 21, .inl (fun _ => 0))), (q66, .inl (cA.1, 21, .inl (fun _ => 0)))] H := hP
  have hD : va_D A [(h0, .inr (4, [.null, .null, .ref q7, .ref q15, .ref q23, .ref q32, .ref q41, .ref q50, .ref q58, .null, .null, .null, .null, .int 0])), (q7, .inl (cA.1, 119, .inl (fun _ => 0))), (q15, .inl (cA.1, 119, .inl (fun _ => 0))), (q23, .inl (cA.1, 119, .inl (fun _ => 0))), (q32, .inl (cA.1, 2380, .inl (fun _ => 0))), (q41, .inl (cA.1, 2380, .inl (fun _ => 0))), (q50, .inl (cA.1, 2380, .inl (fun _ => 0))), (q58, .inl (cA.1, 21, .inl (fun _ => 0))), (q66, .inl (cA.1, 21, .inl (fun _ => 0)))] := hD
  refine W.widen (k := 8) (n := 7539) (Nat.le_of_ble_eq_true rfl) (Nat.le_of_ble_eq_true rfl) ?_
  refine va_putF (D := D) (ci := 4) (v := .ref q66) (ty := (.array .int)) (C := RX4) (T := TX4) (N := 14) hx hb hg ju_4 tyX4 tyX4_ok nmX4 hown hK hP hD hS 0 rfl rfl 9 (by decide) (hg _ jg_216) (fun _ h9 => h9) rfl hin rfl (by decide +kernel) rfl rfl (Nat.le_of_ble_eq_true rfl) dk_R_68 (fun H locs hP hD hS => ?_)
  have hP : va_P D vwCl [(h0, .inr (4, [.null, .null, .ref q7, .ref q15, .ref q23, .ref q32, .ref q41, .ref q50, .ref q58, .ref q66, .null, .null, .null, .int 0])), (q7, .inl (cA.1, 119, .inl (fun _ => 0))), (q15, .inl (cA.1, 119, .inl (fun _ => 0))), (q23, .inl (cA.1, 119, .inl (fun _ => 0))), (q32, .inl (cA.1, 2380, .inl (fun _ => 0))), (q41, .inl (cA.1, 2380, .inl (fun _ => 0))), (q50, .inl (cA.1, 2380, .inl (fun _ => 0))), (q58, .inl (cA.1, 21, .inl (fun _ => 0))), (q66, .inl (cA.1, 21, .inl (fun _ => 0)))] H := hP
  have hD : va_D A [(h0, .inr (4, [.null, .null, .ref q7, .ref q15, .ref q23, .ref q32, .ref q41, .ref q50, .ref q58, .ref q66, .null, .null, .null, .int 0])), (q7, .inl (cA.1, 119, .inl (fun _ => 0))), (q15, .inl (cA.1, 119, .inl (fun _ => 0))), (q23, .inl (cA.1, 119, .inl (fun _ => 0))), (q32, .inl (cA.1, 2380, .inl (fun _ => 0))), (q41, .inl (cA.1, 2380, .inl (fun _ => 0))), (q50, .inl (cA.1, 2380, .inl (fun _ => 0))), (q58, .inl (cA.1, 21, .inl (fun _ => 0))), (q66, .inl (cA.1, 21, .inl (fun _ => 0)))] := hD
  refine lv_aload_n hx hb dk_R_71 rfl (lv_at hl 0 rfl) ?_
  refine lv_bipush (v := 17) hx hb dk_R_72 (by decide) ?_
  refine jc_newi (N' := 17) hx hb hg hK hP hD hS hA (by decide) (by decide) (by decide) (Nat.le_of_ble_eq_true rfl) (Nat.le_of_ble_eq_true rfl) dk_R_74 (fun q74 H hP hD hS => ?_)
  have hP : va_P D vwCl [(h0, .inr (4, [.null, .null, .ref q7, .ref q15, .ref q23, .ref q32, .ref q41, .ref q50, .ref q58, .ref q66, .null, .null, .null, .int 0])), (q7, .inl (cA.1, 119, .inl (fun _ => 0))), (q15, .inl (cA.1, 119, .inl (fun _ => 0))), (q23, .inl (cA.1, 119, .inl (fun _ => 0))), (q32, .inl (cA.1, 2380, .inl (fun _ => 0))), (q41, .inl (cA.1, 2380, .inl (fun _ => 0))), (q50, .inl (cA.1, 2380, .inl (fun _ => 0))), (q58, .inl (cA.1, 21, .inl (fun _ => 0))), (q66, .inl (cA.1, 21, .inl (fun _ => 0))), (q74, .inl (cA.1, 17, .inl (fun _ => 0)))] H := hP
  have hD : va_D A [(h0, .inr (4, [.null, .null, .ref q7, .ref q15, .ref q23, .ref q32, .ref q41, .ref q50, .ref q58, .ref q66, .null, .null, .null, .int 0])), (q7, .inl (cA.1, 119, .inl (fun _ => 0))), (q15, .inl (cA.1, 119, .inl (fun _ => 0))), (q23, .inl (cA.1, 119, .inl (fun _ => 0))), (q32, .inl (cA.1, 2380, .inl (fun _ => 0))), (q41, .inl (cA.1, 2380, .inl (fun _ => 0))), (q50, .inl (cA.1, 2380, .inl (fun _ => 0))), (q58, .inl (cA.1, 21, .inl (fun _ => 0))), (q66, .inl (cA.1, 21, .inl (fun _ => 0))), (q74, .inl (cA.1, 17, .inl (fun _ => 0)))] := hD
  refine W.widen (k := 9) (n := 7556) (Nat.le_of_ble_eq_true rfl) (Nat.le_of_ble_eq_true rfl) ?_
  refine va_putF (D := D) (ci := 4) (v := .ref q74) (ty := (.array .int)) (C := RX4) (T := TX4) (N := 14) hx hb hg ju_4 tyX4 tyX4_ok nmX4 hown hK hP hD hS 0 rfl rfl 10 (by decide) (hg _ jg_217) (fun _ h9 => h9) rfl hin rfl (by decide +kernel) rfl rfl (Nat.le_of_ble_eq_true rfl) dk_R_76 (fun H locs hP hD hS => ?_)
  have hP : va_P D vwCl [(h0, .inr (4, [.null, .null, .ref q7, .ref q15, .ref q23, .ref q32, .ref q41, .ref q50, .ref q58, .ref q66, .ref q74, .null, .null, .int 0])), (q7, .inl (cA.1, 119, .inl (fun _ => 0))), (q15, .inl (cA.1, 119, .inl (fun _ => 0))), (q23, .inl (cA.1, 119, .inl (fun _ => 0))), (q32, .inl (cA.1, 2380, .inl (fun _ => 0))), (q41, .inl (cA.1, 2380, .inl (fun _ => 0))), (q50, .inl (cA.1, 2380, .inl (fun _ => 0))), (q58, .inl (cA.1, 21, .inl (fun _ => 0))), (q66, .inl (cA.1, 21, .inl (fun _ => 0))), (q74, .inl (cA.1, 17, .inl (fun _ => 0)))] H := hP
  have hD : va_D A [(h0, .inr (4, [.null, .null, .ref q7, .ref q15, .ref q23, .ref q32, .ref q41, .ref q50, .ref q58, .ref q66, .ref q74, .null, .null, .int 0])), (q7, .inl (cA.1, 119, .inl (fun _ => 0))), (q15, .inl (cA.1, 119, .inl (fun _ => 0))), (q23, .inl (cA.1, 119, .inl (fun _ => 0))), (q32, .inl (cA.1, 2380, .inl (fun _ => 0))), (q41, .inl (cA.1, 2380, .inl (fun _ => 0))), (q50, .inl (cA.1, 2380, .inl (fun _ => 0))), (q58, .inl (cA.1, 21, .inl (fun _ => 0))), (q66, .inl (cA.1, 21, .inl (fun _ => 0))), (q74, .inl (cA.1, 17, .inl (fun _ => 0)))] := hD
  refine lv_aload_n hx hb dk_R_79 rfl (lv_at hl 0 rfl) ?_
  refine lv_bipush (v := 16) hx hb dk_R_80 (by decide) ?_
  refine jc_newi (N' := 16) hx hb hg hK hP hD hS hA (by decide) (by decide) (by decide) (Nat.le_of_ble_eq_true rfl) (Nat.le_of_ble_eq_true rfl) dk_R_82 (fun q82 H hP hD hS => ?_)
  have hP : va_P D vwCl [(h0, .inr (4, [.null, .null, .ref q7, .ref q15, .ref q23, .ref q32, .ref q41, .ref q50, .ref q58, .ref q66, .ref q74, .null, .null, .int 0])), (q7, .inl (cA.1, 119, .inl (fun _ => 0))), (q15, .inl (cA.1, 119, .inl (fun _ => 0))), (q23, .inl (cA.1, 119, .inl (fun _ => 0))), (q32, .inl (cA.1, 2380, .inl (fun _ => 0))), (q41, .inl (cA.1, 2380, .inl (fun _ => 0))), (q50, .inl (cA.1, 2380, .inl (fun _ => 0))), (q58, .inl (cA.1, 21, .inl (fun _ => 0))), (q66, .inl (cA.1, 21, .inl (fun _ => 0))), (q74, .inl (cA.1, 17, .inl (fun _ => 0))), (q82, .inl (cA.1, 16, .inl (fun _ => 0)))] H := hP
  have hD : va_D A [(h0, .inr (4, [.null, .null, .ref q7, .ref q15, .ref q23, .ref q32, .ref q41, .ref q50, .ref q58, .ref q66, .ref q74, .null, .null, .int 0])), (q7, .inl (cA.1, 119, .inl (fun _ => 0))), (q15, .inl (cA.1, 119, .inl (fun _ => 0))), (q23, .inl (cA.1, 119, .inl (fun _ => 0))), (q32, .inl (cA.1, 2380, .inl (fun _ => 0))), (q41, .inl (cA.1, 2380, .inl (fun _ => 0))), (q50, .inl (cA.1, 2380, .inl (fun _ => 0))), (q58, .inl (cA.1, 21, .inl (fun _ => 0))), (q66, .inl (cA.1, 21, .inl (fun _ => 0))), (q74, .inl (cA.1, 17, .inl (fun _ => 0))), (q82, .inl (cA.1, 16, .inl (fun _ => 0)))] := hD
  refine W.widen (k := 10) (n := 7572) (Nat.le_of_ble_eq_true rfl) (Nat.le_of_ble_eq_true rfl) ?_
  refine va_putF (D := D) (ci := 4) (v := .ref q82) (ty := (.array .int)) (C := RX4) (T := TX4) (N := 14) hx hb hg ju_4 tyX4 tyX4_ok nmX4 hown hK hP hD hS 0 rfl rfl 11 (by decide) (hg _ jg_218) (fun _ h9 => h9) rfl hin rfl (by decide +kernel) rfl rfl (Nat.le_of_ble_eq_true rfl) dk_R_84 (fun H locs hP hD hS => ?_)
  have hP : va_P D vwCl [(h0, .inr (4, [.null, .null, .ref q7, .ref q15, .ref q23, .ref q32, .ref q41, .ref q50, .ref q58, .ref q66, .ref q74, .ref q82, .null, .int 0])), (q7, .inl (cA.1, 119, .inl (fun _ => 0))), (q15, .inl (cA.1, 119, .inl (fun _ => 0))), (q23, .inl (cA.1, 119, .inl (fun _ => 0))), (q32, .inl (cA.1, 2380, .inl (fun _ => 0))), (q41, .inl (cA.1, 2380, .inl (fun _ => 0))), (q50, .inl (cA.1, 2380, .inl (fun _ => 0))), (q58, .inl (cA.1, 21, .inl (fun _ => 0))), (q66, .inl (cA.1, 21, .inl (fun _ => 0))), (q74, .inl (cA.1, 17, .inl (fun _ => 0))), (q82, .inl (cA.1, 16, .inl (fun _ => 0)))] H := hP
  have hD : va_D A [(h0, .inr (4, [.null, .null, .ref q7, .ref q15, .ref q23, .ref q32, .ref q41, .ref q50, .ref q58, .ref q66, .ref q74, .ref q82, .null, .int 0])), (q7, .inl (cA.1, 119, .inl (fun _ => 0))), (q15, .inl (cA.1, 119, .inl (fun _ => 0))), (q23, .inl (cA.1, 119, .inl (fun _ => 0))), (q32, .inl (cA.1, 2380, .inl (fun _ => 0))), (q41, .inl (cA.1, 2380, .inl (fun _ => 0))), (q50, .inl (cA.1, 2380, .inl (fun _ => 0))), (q58, .inl (cA.1, 21, .inl (fun _ => 0))), (q66, .inl (cA.1, 21, .inl (fun _ => 0))), (q74, .inl (cA.1, 17, .inl (fun _ => 0))), (q82, .inl (cA.1, 16, .inl (fun _ => 0)))] := hD
  refine lv_aload_n hx hb dk_R_87 rfl (lv_at hl 0 rfl) ?_
  refine lv_bipush (v := 16) hx hb dk_R_88 (by decide) ?_
  refine jc_newi (N' := 16) hx hb hg hK hP hD hS hA (by decide) (by decide) (by decide) (Nat.le_of_ble_eq_true rfl) (Nat.le_of_ble_eq_true rfl) dk_R_90 (fun q90 H hP hD hS => ?_)
  have hP : va_P D vwCl [(h0, .inr (4, [.null, .null, .ref q7, .ref q15, .ref q23, .ref q32, .ref q41, .ref q50, .ref q58, .ref q66, .ref q74, .ref q82, .null, .int 0])), (q7, .inl (cA.1, 119, .inl (fun _ => 0))), (q15, .inl (cA.1, 119, .inl (fun _ => 0))), (q23, .inl (cA.1, 119, .inl (fun _ => 0))), (q32, .inl (cA.1, 2380, .inl (fun _ => 0))), (q41, .inl (cA.1, 2380, .inl (fun _ => 0))), (q50, .inl (cA.1, 2380, .inl (fun _ => 0))), (q58, .inl (cA.1, 21, .inl (fun _ => 0))), (q66, .inl (cA.1, 21, .inl (fun _ => 0))), (q74, .inl (cA.1, 17, .inl (fun _ => 0))), (q82, .inl (cA.1, 16, .inl (fun _ => 0))), (q90, .inl (cA.1, 16, .inl (fun _ => 0)))] H := hP
  have hD : va_D A [(h0, .inr (4, [.null, .null, .ref q7, .ref q15, .ref q23, .ref q32, .ref q41, .ref q50, .ref q58, .ref q66, .ref q74, .ref q82, .null, .int 0])), (q7, .inl (cA.1, 119, .inl (fun _ => 0))), (q15, .inl (cA.1, 119, .inl (fun _ => 0))), (q23, .inl (cA.1, 119, .inl (fun _ => 0))), (q32, .inl (cA.1, 2380, .inl (fun _ => 0))), (q41, .inl (cA.1, 2380, .inl (fun _ => 0))), (q50, .inl (cA.1, 2380, .inl (fun _ => 0))), (q58, .inl (cA.1, 21, .inl (fun _ => 0))), (q66, .inl (cA.1, 21, .inl (fun _ => 0))), (q74, .inl (cA.1, 17, .inl (fun _ => 0))), (q82, .inl (cA.1, 16, .inl (fun _ => 0))), (q90, .inl (cA.1, 16, .inl (fun _ => 0)))] := hD
  refine W.widen (k := 11) (n := 7588) (Nat.le_of_ble_eq_true rfl) (Nat.le_of_ble_eq_true rfl) ?_
  refine va_putF (D := D) (ci := 4) (v := .ref q90) (ty := (.array .int)) (C := RX4) (T := TX4) (N := 14) hx hb hg ju_4 tyX4 tyX4_ok nmX4 hown hK hP hD hS 0 rfl rfl 12 (by decide) (hg _ jg_220) (fun _ h9 => h9) rfl hin rfl (by decide +kernel) rfl rfl (Nat.le_of_ble_eq_true rfl) dk_R_92 (fun H locs hP hD hS => ?_)
  have hP : va_P D vwCl [(h0, .inr (4, [.null, .null, .ref q7, .ref q15, .ref q23, .ref q32, .ref q41, .ref q50, .ref q58, .ref q66, .ref q74, .ref q82, .ref q90, .int 0])), (q7, .inl (cA.1, 119, .inl (fun _ => 0))), (q15, .inl (cA.1, 119, .inl (fun _ => 0))), (q23, .inl (cA.1, 119, .inl (fun _ => 0))), (q32, .inl (cA.1, 2380, .inl (fun _ => 0))), (q41, .inl (cA.1, 2380, .inl (fun _ => 0))), (q50, .inl (cA.1, 2380, .inl (fun _ => 0))), (q58, .inl (cA.1, 21, .inl (fun _ => 0))), (q66, .inl (cA.1, 21, .inl (fun _ => 0))), (q74, .inl (cA.1, 17, .inl (fun _ => 0))), (q82, .inl (cA.1, 16, .inl (fun _ => 0))), (q90, .inl (cA.1, 16, .inl (fun _ => 0)))] H := hP
  have hD : va_D A [(h0, .inr (4, [.null, .null, .ref q7, .ref q15, .ref q23, .ref q32, .ref q41, .ref q50, .ref q58, .ref q66, .ref q74, .ref q82, .ref q90, .int 0])), (q7, .inl (cA.1, 119, .inl (fun _ => 0))), (q15, .inl (cA.1, 119, .inl (fun _ => 0))), (q23, .inl (cA.1, 119, .inl (fun _ => 0))), (q32, .inl (cA.1, 2380, .inl (fun _ => 0))), (q41, .inl (cA.1, 2380, .inl (fun _ => 0))), (q50, .inl (cA.1, 2380, .inl (fun _ => 0))), (q58, .inl (cA.1, 21, .inl (fun _ => 0))), (q66, .inl (cA.1, 21, .inl (fun _ => 0))), (q74, .inl (cA.1, 17, .inl (fun _ => 0))), (q82, .inl (cA.1, 16, .inl (fun _ => 0))), (q90, .inl (cA.1, 16, .inl (fun _ => 0)))] := hD
  refine lv_aload_n hx hb dk_R_95 rfl (lv_at hl 0 rfl) ?_
  refine lv_aload_n hx hb dk_R_96 rfl (lv_at hl 1 rfl) ?_
  refine va_putF (D := D) (ci := 4) (v := .ref x1) (ty := (.object "ReadingConverter$Model")) (C := RX4) (T := TX4) (N := 14) hx hb hg ju_4 tyX4 tyX4_ok nmX4 hown hK hP hD hS 0 rfl rfl 0 (by decide) (hg _ jg_207) (fun _ h9 => h9) rfl hin rfl (by decide +kernel) rfl rfl (Nat.le_of_ble_eq_true rfl) dk_R_97 (fun H locs hP hD hS => ?_)
  have hP : va_P D vwCl [(h0, .inr (4, [.ref x1, .null, .ref q7, .ref q15, .ref q23, .ref q32, .ref q41, .ref q50, .ref q58, .ref q66, .ref q74, .ref q82, .ref q90, .int 0])), (q7, .inl (cA.1, 119, .inl (fun _ => 0))), (q15, .inl (cA.1, 119, .inl (fun _ => 0))), (q23, .inl (cA.1, 119, .inl (fun _ => 0))), (q32, .inl (cA.1, 2380, .inl (fun _ => 0))), (q41, .inl (cA.1, 2380, .inl (fun _ => 0))), (q50, .inl (cA.1, 2380, .inl (fun _ => 0))), (q58, .inl (cA.1, 21, .inl (fun _ => 0))), (q66, .inl (cA.1, 21, .inl (fun _ => 0))), (q74, .inl (cA.1, 17, .inl (fun _ => 0))), (q82, .inl (cA.1, 16, .inl (fun _ => 0))), (q90, .inl (cA.1, 16, .inl (fun _ => 0)))] H := hP
  have hD : va_D A [(h0, .inr (4, [.ref x1, .null, .ref q7, .ref q15, .ref q23, .ref q32, .ref q41, .ref q50, .ref q58, .ref q66, .ref q74, .ref q82, .ref q90, .int 0])), (q7, .inl (cA.1, 119, .inl (fun _ => 0))), (q15, .inl (cA.1, 119, .inl (fun _ => 0))), (q23, .inl (cA.1, 119, .inl (fun _ => 0))), (q32, .inl (cA.1, 2380, .inl (fun _ => 0))), (q41, .inl (cA.1, 2380, .inl (fun _ => 0))), (q50, .inl (cA.1, 2380, .inl (fun _ => 0))), (q58, .inl (cA.1, 21, .inl (fun _ => 0))), (q66, .inl (cA.1, 21, .inl (fun _ => 0))), (q74, .inl (cA.1, 17, .inl (fun _ => 0))), (q82, .inl (cA.1, 16, .inl (fun _ => 0))), (q90, .inl (cA.1, 16, .inl (fun _ => 0)))] := hD
  refine lv_aload_n hx hb dk_R_100 rfl (lv_at hl 0 rfl) ?_
  refine lv_aload_n hx hb dk_R_101 rfl (lv_at hl 2 rfl) ?_
  refine va_putF (D := D) (ci := 4) (v := .ref x2) (ty := (.object "ReadingConverter$Lattice")) (C := RX4) (T := TX4) (N := 14) hx hb hg ju_4 tyX4 tyX4_ok nmX4 hown hK hP hD hS 0 rfl rfl 1 (by decide) (hg _ jg_208) (fun _ h9 => h9) rfl hin rfl (by decide +kernel) rfl rfl (Nat.le_of_ble_eq_true rfl) dk_R_102 (fun H locs hP hD hS => ?_)
  have hP : va_P D vwCl [(h0, .inr (4, [.ref x1, .ref x2, .ref q7, .ref q15, .ref q23, .ref q32, .ref q41, .ref q50, .ref q58, .ref q66, .ref q74, .ref q82, .ref q90, .int 0])), (q7, .inl (cA.1, 119, .inl (fun _ => 0))), (q15, .inl (cA.1, 119, .inl (fun _ => 0))), (q23, .inl (cA.1, 119, .inl (fun _ => 0))), (q32, .inl (cA.1, 2380, .inl (fun _ => 0))), (q41, .inl (cA.1, 2380, .inl (fun _ => 0))), (q50, .inl (cA.1, 2380, .inl (fun _ => 0))), (q58, .inl (cA.1, 21, .inl (fun _ => 0))), (q66, .inl (cA.1, 21, .inl (fun _ => 0))), (q74, .inl (cA.1, 17, .inl (fun _ => 0))), (q82, .inl (cA.1, 16, .inl (fun _ => 0))), (q90, .inl (cA.1, 16, .inl (fun _ => 0)))] H := hP
  have hD : va_D A [(h0, .inr (4, [.ref x1, .ref x2, .ref q7, .ref q15, .ref q23, .ref q32, .ref q41, .ref q50, .ref q58, .ref q66, .ref q74, .ref q82, .ref q90, .int 0])), (q7, .inl (cA.1, 119, .inl (fun _ => 0))), (q15, .inl (cA.1, 119, .inl (fun _ => 0))), (q23, .inl (cA.1, 119, .inl (fun _ => 0))), (q32, .inl (cA.1, 2380, .inl (fun _ => 0))), (q41, .inl (cA.1, 2380, .inl (fun _ => 0))), (q50, .inl (cA.1, 2380, .inl (fun _ => 0))), (q58, .inl (cA.1, 21, .inl (fun _ => 0))), (q66, .inl (cA.1, 21, .inl (fun _ => 0))), (q74, .inl (cA.1, 17, .inl (fun _ => 0))), (q82, .inl (cA.1, 16, .inl (fun _ => 0))), (q90, .inl (cA.1, 16, .inl (fun _ => 0)))] := hD
  exact W.vret hx hb hr (fun t ht hW => ⟨⟨(fun k => [h0, q7, q15, q23, q32, q41, q50, q58, q66, q74, q82, q90].getD k 0), rfl, rfl, by rw [ht]; exact hP, hD⟩, hS.F ht⟩) hS.2.2 dk_R_105
