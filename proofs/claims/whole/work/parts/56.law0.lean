def R_law : String := "ReadingConverterLaw"
def lw_P (b : Addr) (xs : List Int32) (args : Array Value) (s : State) : Prop := args = #[.ref b] ∧ s.IntsAt b xs ∧ xs.length ≤ 2048 ∧ (Jvm.Cond.and given_1 narrow_1).before args s = true
def lw_Q (_ : Array Value) (s : State) (o : Outcome) (t : State) : Prop := o = .returned (some (.int 1)) ∧ Framed s o t [] 600000 7302250
def lw_Z (below : List Frame) (a : Array Value) (s : State) : State → Prop := fun t => ∃ o, t.status = .running ∧ Ended t below o ∧ lw_Q a s o t
/-- the law's own end, with 1 on the stack, nothing written that was there before, its room as the claim has it -/
theorem lw_ret {p : Program} {l : Launch} {e : Env} {s : State} {m : MethodId} {below : List Frame} {meth : Method} {c : Code} {b : Nat} (hx : p.tables.exec = Jvm.exec) (hb : c.code = code) (hr : meth.sig.returnType = ret) (hlocks : meth.locks = false) {pc : Nat} {H : Heap} {ls : Array Slot} (hdg : decode code pc = .ok (.ireturn, 1)) : W p l e room_1 s m #[Value.ref b] below meth c H [] 600000 7302250 (lw_Z below #[Value.ref b] s) (F0 m pc ls [.int 1]) := by
  intro T hT X
  obtain ⟨fs, hret, hrun, hended, hW, hframe⟩ := X.leave (v := some (.int 1)) (hlocks := hlocks) (fun h => by rw [hr] at h; cases h)
  have hmeth' : T.vm.method? m = some meth := X.method'
  refine ⟨T.setFrames fs, ?_, .returned (some (.int 1)), hrun, hended, rfl, ⟨_, rfl⟩, hW, hframe⟩
  jvm_step X.here [X.here.top, hx, hb, hdg, hmeth', hr, ret, narrow_b1]
  (try refine ⟨rfl, ?_⟩); (try refine ⟨rfl, ?_⟩)
  first | (intro acts; rw [hret _ acts rfl rfl rfl]) | rw [hret _ _ rfl rfl rfl]
  exact Steps.refl _
/-- what holds at the law's entry: the machine, the code, the tables' words (any of lw_tbl by 'hts w (by decide +kernel)'), the script of L ints xs at the cell b, what the Statement gives of the start (any of its parts by flat_of_before) -/
def lw_At (p : Program) (s : State) (m : MethodId) (meth : Method) (c : Code) (b L : Nat) (xs : Nat → Int32) : Prop :=
  p.tables.exec = Jvm.exec ∧ c.code = code ∧ meth.sig.returnType = ret ∧ c.maxLocals = 4 ∧ s.vm.findClass R_law = some m.cls ∧ (∀ w ∈ lw_tbl, w.before #[Value.ref b] s = true) ∧ va_X b L xs s s.heap ∧ b < s.heap.size ∧ meth.locks = false ∧ (Jvm.Cond.and given_1 narrow_1).before #[Value.ref b] s = true
/-! WHAT THE LAW KNOWS AT ITS ENTRY: every class and array class by its number; written by wip/whole/gen_law.py -/
theorem jl_known {s : State} {A : Array Value} (hts : ∀ w ∈ lw_tbl, w.before A s = true) : ∃ (D : va_G) (cA : ClassId × ClassId × ClassId), va_K D vwCl (jx_ty cA) s := by
  have hg : ∀ w ∈ jx_gw, w.before A s = true := fun w hw => hts w (List.mem_filter.mp hw).1
  obtain ⟨c0, i0, k0⟩ := u_known (C := RX0) (T := TX0) (N := 7) (n := 7) hg ju_0 (hts (.instantiable RX0 7) (List.mem_of_getElem? (i := 66) (by decide +kernel)))
  obtain ⟨c1, i1, k1⟩ := u_known (C := RX1) (T := TX1) (N := 3) (n := 3) hg ju_1 (hts (.instantiable RX1 3) (List.mem_of_getElem? (i := 182) (by decide +kernel)))
  obtain ⟨c2, i2, k2⟩ := u_known (C := RX2) (T := TX2) (N := 7) (n := 7) hg ju_2 (hts (.instantiable RX2 7) (List.mem_of_getElem? (i := 131) (by decide +kernel)))
  obtain ⟨c3, i3, k3⟩ := u_known (C := RX3) (T := TX3) (N := 6) (n := 6) hg ju_3 (hts (.instantiable RX3 6) (List.mem_of_getElem? (i := 60) (by decide +kernel)))
  obtain ⟨c4, i4, k4⟩ := u_known (C := RX4) (T := TX4) (N := 14) (n := 14) hg ju_4 (hts (.instantiable RX4 14) (List.mem_of_getElem? (i := 202) (by decide +kernel)))
  obtain ⟨c5, i5, k5⟩ := u_known (C := RX5) (T := TX5) (N := 2) (n := 2) hg ju_5 (hts (.instantiable RX5 2) (List.mem_of_getElem? (i := 164) (by decide +kernel)))
  obtain ⟨c6, i6, k6⟩ := u_known (C := RX6) (T := TX6) (N := 6) (n := 6) hg ju_6 (hts (.instantiable RX6 6) (List.mem_of_getElem? (i := 52) (by decide +kernel)))
  obtain ⟨c7, i7, k7⟩ := u_known (C := RX7) (T := TX7) (N := 19) (n := 19) hg ju_7 (hts (.instantiable RX7 19) (List.mem_of_getElem? (i := 616) (by decide +kernel)))
  obtain ⟨a0, b0, e0, f0, g0, h0⟩ := Cond.arrayClass_spec (hts (.arrayClass .int) (List.mem_of_getElem? (i := 101) (by decide +kernel)))
  obtain ⟨a1, b1, e1, f1, g1, h1⟩ := Cond.arrayClass_spec (hts (.arrayClass .boolean) (List.mem_of_getElem? (i := 679) (by decide +kernel)))
  obtain ⟨e2, a2, b2, m1, -, m3, m4, m5⟩ := Cond.arrayOver_spec (hts (.arrayOver (.object "ReadingConverter$Model")) (List.mem_of_getElem? (i := 188) (by decide +kernel)))
  refine ⟨(fun k => match k with | 0 => c0 | 1 => c1 | 2 => c2 | 3 => c3 | 4 => c4 | 5 => c5 | 6 => c6 | _ => c7, fun k => match k with | 0 => i0 | 1 => i1 | 2 => i2 | 3 => i3 | 4 => i4 | 5 => i5 | 6 => i6 | _ => i7), (a0, a1, a2), fun k q hq => ?_, fun k q hq => ?_⟩
  · match k, hq with
    | 0, hq => cases hq; exact k0
    | 1, hq => cases hq; exact k1
    | 2, hq => cases hq; exact k2
    | 3, hq => cases hq; exact k3
    | 4, hq => cases hq; exact k4
    | 5, hq => cases hq; exact k5
    | 6, hq => cases hq; exact k6
    | 7, hq => cases hq; exact k7
    | k + 8, hq => exact absurd (show (vwCl : List vw_C)[k + 8]? = some q from hq) (by rw [List.getElem?_eq_none (by show 8 ≤ k + 8; omega)]; exact fun z => by cases z)
  · match k, hq with
    | 0, hq => cases hq; exact ⟨fun n z => ⟨fun k h => (by cases h), b0, g0, e0, h0⟩, f0⟩
    | 1, hq => cases hq; exact ⟨fun n z => ⟨fun k h => (by cases h), b1, g1, e1, h1⟩, f1⟩
    | 2, hq => cases hq; exact ⟨fun n z => ⟨fun k h => (by cases h), b2, m3, e2, m4⟩, b2, e2, m3, m4, m1, m5⟩
    | k + 3, hq => exact absurd hq (by rw [List.getElem?_eq_none (by show 3 ≤ k + 3; omega)]; exact fun z => by cases z)
theorem jl_nw {s : State} {A : Array Value} (hts : ∀ w ∈ lw_tbl, w.before A s = true) : va_Nw jx_nw s := va_Nw.of rfl (hts jx_nw (List.mem_of_getElem? (i := 307) (by decide +kernel)))
theorem jl_MD {s : State} {A : Array Value} (hts : ∀ w ∈ lw_tbl, w.before A s = true) : va_Nw jn_MD s := va_Nw.of rfl (hts jn_MD (List.mem_of_getElem? (i := 67) (by decide +kernel)))
theorem jl_HM {s : State} {A : Array Value} (hts : ∀ w ∈ lw_tbl, w.before A s = true) : va_Nw jn_HM s := va_Nw.of rfl (hts jn_HM (List.mem_of_getElem? (i := 189) (by decide +kernel)))
theorem jl_CM {s : State} {A : Array Value} (hts : ∀ w ∈ lw_tbl, w.before A s = true) : va_Nw jn_CM s := va_Nw.of rfl (hts jn_CM (List.mem_of_getElem? (i := 61) (by decide +kernel)))
theorem jl_CT {s : State} {A : Array Value} (hts : ∀ w ∈ lw_tbl, w.before A s = true) : va_Nw jn_CT s := va_Nw.of rfl (hts jn_CT (List.mem_of_getElem? (i := 165) (by decide +kernel)))
theorem jl_AO {s : State} {A : Array Value} (hts : ∀ w ∈ lw_tbl, w.before A s = true) : va_AO RX3 s := va_AO.of (hts (.arrayOver (.object RX3)) (List.mem_of_getElem? (i := 188) (by decide +kernel)))
