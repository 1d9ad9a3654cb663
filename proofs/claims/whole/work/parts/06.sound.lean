/-! THE PURE MACHINE IS SOUND: a call that comes back there is met by the bytecode -/
theorem jx_sub {ws : List Cond} (ps : List Nat) (h : ws = ps.filterMap (fun i => lw_tbl[i]?)) (hg : ws.all goodWord = true) : ∀ w ∈ ws, w ∈ jx_gw := by
  intro w hw
  have h1 := List.all_eq_true.mp hg w hw
  rw [h] at hw
  obtain ⟨i, -, hi⟩ := List.mem_filterMap.mp hw
  exact List.mem_filter.mpr ⟨List.mem_of_getElem? hi, h1⟩
def jx_cls (ci : Nat) : Prop := ∃ (Cn : String) (T : u_T) (N : Nat) (ty0 : Nat → FieldType), vwCl[ci]? = some (Cn, T, N) ∧ jx_F ci = T ∧ jx_N ci = N ∧ (∀ w ∈ u_ws Cn T N, w ∈ jx_gw) ∧ (∀ k, k < N → parseFieldDescriptor (T k).2.2.1 = some (ty0 k)) ∧ (∀ a, a < N → ∀ b, b < N → a ≠ b → (T a).2.1 ≠ (T b).2.1)
theorem jx_cls0 : jx_cls 0 := ⟨RX0, TX0, 7, tyX0, rfl, rfl, rfl, jx_sub [86, 88, 90, 92, 94, 96, 98] (by decide +kernel) (by decide +kernel), tyX0_ok, nmX0⟩
theorem jx_cls1 : jx_cls 1 := ⟨RX1, TX1, 3, tyX1, rfl, rfl, rfl, jx_sub [194, 196, 198] (by decide +kernel) (by decide +kernel), tyX1_ok, nmX1⟩
theorem jx_cls2 : jx_cls 2 := ⟨RX2, TX2, 7, tyX2, rfl, rfl, rfl, jx_sub [148, 150, 152, 154, 156, 158, 160] (by decide +kernel) (by decide +kernel), tyX2_ok, nmX2⟩
theorem jx_cls3 : jx_cls 3 := ⟨RX3, TX3, 6, tyX3, rfl, rfl, rfl, jx_sub [117, 119, 121, 123, 125, 127] (by decide +kernel) (by decide +kernel), tyX3_ok, nmX3⟩
theorem jx_cls4 : jx_cls 4 := ⟨RX4, TX4, 14, tyX4, rfl, rfl, rfl, jx_sub [224, 226, 228, 230, 232, 234, 236, 238, 240, 242, 244, 246, 248, 250] (by decide +kernel) (by decide +kernel), tyX4_ok, nmX4⟩
theorem jx_cls5 : jx_cls 5 := ⟨RX5, TX5, 2, tyX5, rfl, rfl, rfl, jx_sub [176, 178] (by decide +kernel) (by decide +kernel), tyX5_ok, nmX5⟩
theorem jx_cls6 : jx_cls 6 := ⟨RX6, TX6, 6, tyX6, rfl, rfl, rfl, jx_sub [259, 261, 263, 265, 267, 269] (by decide +kernel) (by decide +kernel), tyX6_ok, nmX6⟩
theorem jx_cls7 : jx_cls 7 := ⟨RX7, TX7, 19, tyX7, rfl, rfl, rfl, jx_sub [640, 642, 644, 646, 648, 650, 652, 654, 656, 658, 660, 662, 664, 666, 668, 670, 672, 674, 676] (by decide +kernel) (by decide +kernel), tyX7_ok, nmX7⟩
theorem jx_clsA : ∀ ci, jx_N ci ≠ 0 → jx_cls ci
  | 0, _ => jx_cls0
  | 1, _ => jx_cls1
  | 2, _ => jx_cls2
  | 3, _ => jx_cls3
  | 4, _ => jx_cls4
  | 5, _ => jx_cls5
  | 6, _ => jx_cls6
  | 7, _ => jx_cls7
  | n + 8, h => absurd rfl h
theorem jx_npok : ∀ y, y < 128 → (jx_m y).2.2.2.2.2.1 + (if jx_st y then 0 else 1) ≤ (jx_T y).1 := by decide +kernel
theorem jx_mlst : jx_ml.all (fun q => jx_st q.2.2.1 == (q.2.2.2.1 == 1)) = true := by decide +kernel
theorem jx_nestst : jx_st jx_nest.2.2 = true ∧ jx_nest.2.2 < 128 := by decide +kernel
def jx_nw : Cond := Cond.methodLinkNest (jx_cn jx_nest.1) jx_nest.2.1 (jx_m jx_nest.2.2).1 "ReadingConverter"
def jx_ws (y : Nat) : List Cond := Cond.code (jx_m y).1 (jx_m y).2.1 (jx_m y).2.2.1 (jx_m y).2.2.2.1 :: jx_gw
def jx_rm (d : Nat) : Room := { frames := d, cells := 0, slots := 0, locals := 36 * d }
theorem jx_good : ∀ w ∈ jx_gw, w ∈ jx_gw ∧ ((w.onTables && w.keeps) = true ∨ ∃ ty, w = .arrayClass ty) := fun w h => ⟨h, good_of_word (List.mem_filter.mp h).2⟩
theorem jx_goodIn {y : Nat} (h : Cond.code (jx_m y).1 (jx_m y).2.1 (jx_m y).2.2.1 (jx_m y).2.2.2.1 ∈ jx_gw) : GoodIn jx_gw (jx_ws y) := by
  intro w hw
  rcases List.mem_cons.mp hw with rfl | hw
  · exact jx_good _ h
  · exact jx_good _ hw
def jx_lr (ad : Nat → Nat) (la : Array Slot) (nL : Nat) (ls : List jxV) : Prop := la.size = nL ∧ lv_wf la ∧ ∀ (i : Nat) (v : jxV), ls[i]? = some v → jx_ok v = true → la[i]? = some (.val (jx_v ad v))
def jx_kn (ad : Nat → Nat) (ls : List jxV) : List (Nat × Value) := (List.range ls.length).filterMap (fun i => match ls[i]? with
  | some v => if jx_ok v = true then some (i, jx_v ad v) else none
  | none => none)
theorem jx_kn_mem {ad : Nat → Nat} {ls : List jxV} {i : Nat} {v : jxV} (h : ls[i]? = some v) (ho : jx_ok v = true) : (i, jx_v ad v) ∈ jx_kn ad ls := by
  unfold jx_kn
  refine List.mem_filterMap.mpr ⟨i, List.mem_range.mpr (List.getElem?_eq_some_iff.mp h).1, ?_⟩
  rw [h]
  simp [ho]
theorem jx_kn_has {ad : Nat → Nat} {la : Array Slot} {nL : Nat} {ls : List jxV} (h : jx_lr ad la nL ls) : lv_has la nL (jx_kn ad ls) := by
  refine ⟨h.1, h.2.1, fun q hq => ?_⟩
  unfold jx_kn at hq
  obtain ⟨i, -, hi⟩ := List.mem_filterMap.mp hq
  cases hv : ls[i]? with
  | none => rw [hv] at hi; simp at hi
  | some v =>
    rw [hv] at hi
    by_cases ho : jx_ok v = true
    · simp [ho] at hi
      rw [← hi]
      exact h.2.2 i v hv ho
    · simp [ho] at hi
theorem jx_v_cat (ad : Nat → Nat) (v : jxV) : (jx_v ad v).category = 1 := by cases v <;> rfl
theorem jx_lr_store {ad : Nat → Nat} {la' : Array Slot} {nL a : Nat} {ls : List jxV} {v : jxV} (h' : lv_has la' nL ((a, jx_v ad v) :: (jx_kn ad ls).filter (fun q => !(q.1 == a) && !(q.1 + 1 == a && q.2.category == 2)))) : jx_lr ad la' nL (ls.set a v) := by
  refine ⟨h'.1, h'.2.1, fun i w hw ho => ?_⟩
  rw [List.getElem?_set] at hw
  by_cases hi : a = i
  · rw [if_pos hi] at hw
    subst hi
    by_cases hl : a < ls.length
    · rw [if_pos hl] at hw
      cases hw
      exact h'.2.2 (a, jx_v ad v) List.mem_cons_self
    · rw [if_neg hl] at hw
      cases hw
  · rw [if_neg hi] at hw
    refine h'.2.2 (i, jx_v ad w) (List.mem_cons_of_mem _ (List.mem_filter.mpr ⟨jx_kn_mem hw ho, ?_⟩))
    simp only [jx_v_cat]
    have : (i == a) = false := by simp; exact fun q => hi q.symm
    rw [this]
    simp
def jx_AW (p : Program) (l : Launch) (e : Env) (R : Room) (s : State) (m : MethodId) (args : Array Value) (below : List Frame) (meth : Method) (c : Code) (D : va_G) (ad : Nat → Nat) (cA : ClassId × ClassId × ClassId) (G : jxG) (n nL : Nat) (pcs : List Nat) (Q : State → Prop) : jxX := fun pc ls st M =>
  jx_rl ls → jx_rl st → jx_rM M → ls.length = nL → ∀ (H : Heap) (locs : List Loc) (la : Array Slot), jx_lr ad la nL ls → va_P D vwCl (jx_wl ad cA G n M) H → va_S (jx_A ad n) s.heap H locs → W p l e R s m args below meth c H locs 0 0 Q (F0 m (pcs.getD pc 0) la (st.map (jx_v ad)))
def jx_cx (p : Program) (s : State) (m : MethodId) (args : Array Value) (meth : Method) (c : Code) (D : va_G) (cA : ClassId × ClassId × ClassId) (y : Nat) : Prop :=
  p.tables.exec = Jvm.exec ∧ c.code = (jx_m y).2.1 ∧ c.maxLocals = (jx_m y).2.2.1 ∧ s.vm.findClass (jx_cn (jx_m y).2.2.2.2.1) = some m.cls ∧ meth.sig.returnType = (jx_m y).2.2.2.1 ∧ meth.locks = false ∧ (∀ w ∈ jx_gw, w.before args s = true) ∧ va_K D vwCl (jx_ty cA) s ∧ va_Nw jx_nw s
def jx_pre (D : va_G) (ad : Nat → Nat) (cA : ClassId × ClassId × ClassId) (G : jxG) (n : Nat) (as : List jxV) (M : jxM) : Array Value → State → Prop := va_Pc (as.map (jx_v ad)) (fun U => jx_rl as ∧ jx_rM M ∧ va_P D vwCl (jx_wl ad cA G n M) U.heap ∧ va_K D vwCl (jx_ty cA) U ∧ va_Nw jx_nw U)
def jx_post (D : va_G) (ad : Nat → Nat) (cA : ClassId × ClassId × ClassId) (G : jxG) (n : Nat) (K : jxK) : Array Value → State → Outcome → State → Prop := fun _ st oc t => (∃ (r : Option jxV) (M' : jxM), oc = .returned (r.map (jx_v ad)) ∧ K r M' ∧ (∀ v, r = some v → jx_rv v) ∧ jx_rM M' ∧ va_P D vwCl (jx_wl ad cA G n M') t.heap) ∧ va_F (jx_A ad n) st t
def jx_met (l : Launch) (D : va_G) (ad : Nat → Nat) (cA : ClassId × ClassId × ClassId) (G : jxG) (n d y : Nat) (as : List jxV) (M : jxM) (K : jxK) : Prop := Met l (jx_m y).1 (jx_ws y) (jx_rm d) (jx_pre D ad cA G n as M) (jx_post D ad cA G n K) 0 0 (jx_A ad n)
theorem jx_rl_cons {v : jxV} {l : List jxV} (h : jx_rv v) (hl : jx_rl l) : jx_rl (v :: l) := fun w hw => by
  rcases List.mem_cons.mp hw with rfl | hw
  · exact h
  · exact hl w hw
theorem jx_rl_tl {v : jxV} {l : List jxV} (h : jx_rl (v :: l)) : jx_rl l := fun w hw => h w (List.mem_cons_of_mem _ hw)
theorem jx_rl_hd {v : jxV} {l : List jxV} (h : jx_rl (v :: l)) : jx_rv v := h v List.mem_cons_self
theorem jx_rl_set {v : jxV} {l : List jxV} {a : Nat} (h : jx_rv v) (hl : jx_rl l) : jx_rl (l.set a v) := fun w hw => by
  rcases List.mem_or_eq_of_mem_set hw with hw | rfl
  · exact hl w hw
  · exact h
theorem jx_rM_up {M : jxM} {c : Nat} {x v : Int} (h : jx_rM M) (hv : jx_r v) : jx_rM (jx_up M c x v) := fun c' x' => by
  unfold jx_up
  split
  · exact hv
  · exact h c' x'
theorem jx_rM_cp {M : jxM} {a b : Nat} {sp dp k : Int} (h : jx_rM M) : jx_rM (jx_cp M a sp b dp k) := fun c' x' => by
  unfold jx_cp
  split
  · exact h _ _
  · exact h c' x'
theorem jx_up_off {M : jxM} {c : Nat} {x v : Int} : ∀ c' x', c' ≠ c → jx_up M c x v c' x' = M c' x' := fun c' x' h => by
  unfold jx_up
  rw [if_neg (fun q => h q.1)]
theorem jx_cp_off {M : jxM} {a b : Nat} {sp dp k : Int} : ∀ c' x', c' ≠ b → jx_cp M a sp b dp k c' x' = M c' x' := fun c' x' h => by
  unfold jx_cp
  rw [if_neg (fun q => h q.1)]
theorem jx_ent_put {ad : Nat → Nat} {cA : ClassId × ClassId × ClassId} {G : jxG} {M : jxM} {c ci k : Nat} {v : Int} (h : G.1 c = (0, ci)) (h2 : G.2 c k = 0) : jx_ent ad cA G (jx_up M c k v) c = .inr (ci, ((List.range (jx_N ci)).map (fun j => if G.2 c j = 0 then Value.int (Int32.ofInt (M c j)) else Value.ref (ad (G.2 c j)))).set k (.int (Int32.ofInt v))) := by
  unfold jx_ent
  rw [h]
  simp only
  congr 2
  apply List.ext_getElem?
  intro j
  rw [List.getElem?_set, List.getElem?_map, List.getElem?_map]
  by_cases hj : k = j
  · subst hj
    rw [if_pos rfl, List.length_map, List.length_range]
    by_cases hl : k < jx_N ci
    · rw [if_pos hl, List.getElem?_range hl]
      simp [jx_up, h2]
    · rw [if_neg hl, List.getElem?_eq_none (by simpa using hl)]
      rfl
  · rw [if_neg hj]
    by_cases hl : j < jx_N ci
    · rw [List.getElem?_range hl]
      have : ¬ ((j : Int) = (k : Int)) := by omega
      simp [jx_up, this]
    · rw [List.getElem?_eq_none (by simpa using hl)]
      rfl
theorem jx_arr_up {M : jxM} {c : Nat} {x v : Int} (h0 : 0 ≤ x) : (fun j : Nat => Int32.ofInt (jx_up M c x v c j)) = upd (fun j : Nat => Int32.ofInt (M c j)) x.toNat (Int32.ofInt v) := by
  funext j
  unfold jx_up upd
  by_cases hj : j = x.toNat
  · rw [if_pos hj, if_pos ⟨rfl, by omega⟩]
  · rw [if_neg hj, if_neg (fun q => hj (by have := q.2; omega))]
theorem jx_arr_cp {M : jxM} {a c : Nat} {sp dp k : Int} (h0 : 0 ≤ sp) (h1 : 0 ≤ dp) (h2 : 0 ≤ k) : (fun j : Nat => Int32.ofInt (jx_cp M a sp c dp k c j)) = va_cpy (fun j : Nat => Int32.ofInt (M a j)) (fun j : Nat => Int32.ofInt (M c j)) sp.toNat dp.toNat k.toNat := by
  funext j
  unfold jx_cp va_cpy
  by_cases hj : dp.toNat ≤ j ∧ j < dp.toNat + k.toNat
  · rw [if_pos hj, if_pos ⟨rfl, by omega, by omega⟩]
    show Int32.ofInt (M a (sp + ((j : Int) - dp))) = Int32.ofInt (M a ((sp.toNat + (j - dp.toNat) : Nat) : Int))
    rw [show sp + ((j : Int) - dp) = ((sp.toNat + (j - dp.toNat) : Nat) : Int) by omega]
  · rw [if_neg hj, if_neg (fun q => hj ⟨by omega, by omega⟩)]
theorem jx_cats (ad : Nat → Nat) (r : List jxV) : ((r.map (jx_v ad)).map fun v => v.category).sum = r.length := by
  induction r with
  | nil => rfl
  | cons v r ih => simp only [List.map_cons, List.sum_cons, jx_v_cat, ih, List.length_cons]; omega
section JS
variable {p : Program} {l : Launch} {e : Env} {R : Room} {s : State} {m : MethodId} {args : Array Value} {below : List Frame} {meth : Method} {c : Code} {Q : State → Prop}
variable {D : va_G} {ad : Nat → Nat} {cA : ClassId × ClassId × ClassId} {G : jxG} {n : Nat} {H : Heap} {locs : List Loc}
theorem jx_gocall {pc : Nat} {la : Array Slot} {rest st0 : List Value} {K' : jxK} {a : Array Value} (hr : va_Run p l e R s m args below meth c H locs 0 0 0 0 (F0 m pc la st0) rest (jx_post D ad cA G n K' a) (jx_A ad n)) (hS : va_S (jx_A ad n) s.heap H locs)
    (kk : ∀ (r : Option jxV) (M' : jxM) (H1 : Heap) (locs1 : List Loc), K' r M' → (∀ v, r = some v → jx_rv v) → jx_rM M' → va_P D vwCl (jx_wl ad cA G n M') H1 → va_S (jx_A ad n) s.heap H1 locs1 → W p l e R s m args below meth c H1 locs1 0 0 Q (F0 m (pc + 3) la ((r.map (jx_v ad)).toList ++ rest))) : W p l e R s m args below meth c H locs 0 0 Q (F0 m pc la st0) := by
  intro T hT X
  obtain ⟨v, st₀, t, T', L, h0, X', hL, e1, e2, ⟨⟨r, M', hv, hk, hrv, hrm, hp⟩, hz, hkk⟩, st⟩ := hr T hT X
  have hv : v = r.map (jx_v ad) := Outcome.returned.inj hv
  subst hv
  rw [h0] at hz hkk
  obtain ⟨t2, a1, b1⟩ := kk r M' T'.heap (locs ++ L) hk hrv hrm (by rw [e1]; exact hp)
    ⟨Nat.le_trans hS.1 (by rw [e1]; exact hz), fun q h1 h2 => by rw [e1, hkk q (Nat.lt_of_lt_of_le h1 hS.1) h2]; exact hS.2.1 q h1 h2, fun q hq => by
      rcases List.mem_append.mp hq with h | h
      · exact hS.2.2 q h
      · exact hL q h⟩ T' rfl X'
  exact ⟨t2, st t2 a1, b1⟩
theorem jx_blind {as : List jxV} {M : jxM} : FrameBlind (jx_pre D ad cA G n as M) := by
  intro a U g mk q
  obtain ⟨h0, h1, h2, h3, h4, h5⟩ := q
  exact ⟨h0, h1, h2, h3, va_K.moved (u := U) (U := U.calling g mk a) (Vm.Alike.refl U.vm) h4, va_Nw.same rfl rfl h5⟩
theorem jx_warm {as : List jxV} {M : jxM} (h1 : jx_rl as) (h2 : jx_rM M) (h3 : va_P D vwCl (jx_wl ad cA G n M) H) (h4 : va_K D vwCl (jx_ty cA) s) (h5 : va_Nw jx_nw s) : ∀ U : State, U.heap = H → s.WarmedH U.vm → jx_pre D ad cA G n as M (as.map (jx_v ad)).toArray U := fun U hU hW => ⟨rfl, h1, h2, by rw [hU]; exact h3, va_K.moved hW.alike h4, va_Nw.warmM hW h5⟩
end JS
