/-! THE LAW'S LOOP; written by wip/whole/gen_law.py -/
theorem dl_0 : decode code 0 = .ok (.new 7, 3) := by decide +kernel
theorem dl_3 : decode code 3 = .ok (.dup, 1) := by decide +kernel
theorem dl_4 : decode code 4 = .ok (.invokespecial 9, 3) := by decide +kernel
theorem dl_7 : decode code 7 = .ok (.astore_n 1, 1) := by decide +kernel
theorem dl_8 : decode code 8 = .ok (.new 10, 3) := by decide +kernel
theorem dl_11 : decode code 11 = .ok (.dup, 1) := by decide +kernel
theorem dl_12 : decode code 12 = .ok (.invokespecial 12, 3) := by decide +kernel
theorem dl_15 : decode code 15 = .ok (.astore_n 2, 1) := by decide +kernel
theorem dl_16 : decode code 16 = .ok (.iconst 0, 1) := by decide +kernel
theorem dl_17 : decode code 17 = .ok (.istore_n 3, 1) := by decide +kernel
theorem dl_18 : decode code 18 = .ok (.iload_n 3, 1) := by decide +kernel
theorem dl_19 : decode code 19 = .ok (.aload_n 0, 1) := by decide +kernel
theorem dl_20 : decode code 20 = .ok (.arraylength, 1) := by decide +kernel
theorem dl_21 : decode code 21 = .ok (.iconst 4, 1) := by decide +kernel
theorem dl_22 : decode code 22 = .ok (.isub, 1) := by decide +kernel
theorem dl_23 : decode code 23 = .ok (.if_icmp .gt 723, 3) := by decide +kernel
theorem dl_26 : decode code 26 = .ok (.aload_n 0, 1) := by decide +kernel
theorem dl_27 : decode code 27 = .ok (.iload_n 3, 1) := by decide +kernel
theorem dl_28 : decode code 28 = .ok (.iaload, 1) := by decide +kernel
theorem dl_29 : decode code 29 = .ok (.bipush 31, 2) := by decide +kernel
theorem dl_31 : decode code 31 = .ok (.iand, 1) := by decide +kernel
theorem dl_32 : decode code 32 = .ok (.tableswitch 708 0 25 #[120, 143, 156, 199, 222, 235, 258, 281, 304, 317, 360, 383, 396, 409, 442, 465, 478, 501, 524, 557, 590, 623, 646, 659, 682, 695], 120) := by decide +kernel
theorem dl_740 : decode code 740 = .ok (.iinc 3 4, 3) := by decide +kernel
theorem dl_743 : decode code 743 = .ok (.goto (-725), 3) := by decide +kernel
theorem dl_746 : decode code 746 = .ok (.iconst 1, 1) := by decide +kernel
theorem dl_747 : decode code 747 = .ok (.ireturn, 1) := by decide +kernel
theorem jl_cmp {L i : Nat} (hL : L ≤ 2048) (hi : i ≤ 2048) : Int32.ofNat L - 4 < nI i ↔ L < i + 4 := by
  rw [Int32.lt_iff_toInt_lt, nI_toInt (by omega), Int32.toInt_sub, show (Int32.ofNat L).toInt = (L : Int) from nI_toInt (by omega), show (4 : Int32).toInt = 4 from rfl, Int.bmod_eq_of_le (by omega) (by omega)]
  omega
section JN
variable {p : Program} {l : Launch} {e : Env} {s : State} {m : MethodId} {below : List Frame} {meth : Method} {c : Code} {b L : Nat} {xs : Nat → Int32}
variable {D : va_G} {cA : ClassId × ClassId × ClassId} {ad1 ad2 : Nat → Nat} {cells slots : Nat}
/-- one turn of the loop -/
theorem jl_step (hF : jl_fix p s m meth c b L xs D cA ad1 ad2) (hcs : cells ≤ 600000 ∧ slots ≤ 7302250) {i : Nat} (hi : i ≤ 2048)
    (ih : i + 4 ≤ L → ∀ (H : Heap) (locs : List Loc) (la : Array Slot), jl_two s D cA ad1 ad2 H locs → lv_has la 4 [(0, .ref b), (1, .ref (ad1 1)), (2, .ref (ad2 1)), (3, .int (nI (i + 4)))] → W p l e room_1 s m #[Value.ref b] below meth c H locs cells slots (lw_Z below #[Value.ref b] s) (F0 m 18 la []))
    (H : Heap) (locs : List Loc) (la : Array Slot) (hT : jl_two s D cA ad1 ad2 H locs) (hl : lv_has la 4 [(0, .ref b), (1, .ref (ad1 1)), (2, .ref (ad2 1)), (3, .int (nI i))]) : W p l e room_1 s m #[Value.ref b] below meth c H locs cells slots (lw_Z below #[Value.ref b] s) (F0 m 18 la []) := by
  have hF0 := hF
  have hT0 := hT
  obtain ⟨hL, ⟨hx, hb, hr, hml, hown, hts, hX, hbl, hlocks, hgv⟩, -⟩ := hF
  obtain ⟨M1, M2, -, -, -, -, -, hS⟩ := hT
  have hbA : ¬ (fun q : Nat => s.heap.size ≤ q) b := Nat.not_le.mpr hbl
  refine lv_iload_n hx hb dl_18 rfl (lv_at hl 3 rfl) ?_
  refine lv_aload_n hx hb dl_19 rfl (lv_at hl 0 rfl) ?_
  refine va_slen hx hb hX hbl hbA hS dl_20 ?_
  refine lv_iconst (v := 4) hx hb dl_21 (by decide) ?_
  refine lv_isub hx hb dl_22 ?_
  refine lv_icmp_gt (tgt := 746) hx hb dl_23 (by decide) (fun _ => ?_) (fun h0 => ?_)
  · refine va_forget (fun q hq => hS.2.2 q hq) ?_
    refine lv_iconst (v := 1) hx hb dl_746 (by decide) ?_
    refine W.widen (k := 600000) (n := 7302250) hcs.1 hcs.2 ?_
    exact lw_ret hx hb hr hlocks dl_747
  · rw [jl_cmp hL hi] at h0
    have hn : i + 4 ≤ L := by omega
    have fin : ∀ (H1 : Heap) (locs1 : List Loc), jl_two s D cA ad1 ad2 H1 locs1 → W p l e room_1 s m #[Value.ref b] below meth c H1 locs1 cells slots (lw_Z below #[Value.ref b] s) (F0 m 740 la []) := by
      intro H1 locs1 hT1
      refine lv_iinc (v := nI (i + 4)) (lv' := [(3, .int (nI (i + 4))), (0, .ref b), (1, .ref (ad1 1)), (2, .ref (ad2 1))]) hx hb dl_740 hl (k := 3) rfl (by rw [← nI_add]; rfl) (by decide) rfl (fun la2 hl2 => ?_)
      refine lv_goto (tgt := 18) hx hb dl_743 (by decide) ?_
      exact ih hn H1 locs1 la2 hT1 (lv_sub hl2 [1, 2, 3, 0] rfl)
    refine lv_aload_n hx hb dl_26 rfl (lv_at hl 0 rfl) ?_
    refine lv_iload_n hx hb dl_27 rfl (lv_at hl 3 rfl) ?_
    refine va_sld hx hb hX hbl hbA hS (vp_in_nI (by omega) (by omega)) dl_28 ?_
    refine lv_bipush (v := 31) hx hb dl_29 (by decide) ?_
    refine lv_iand hx hb dl_31 ?_
    generalize xs (nI i).toNatClampNeg &&& 31 = z
    by_cases ho : z.toInt < 0 ∨ 25 < z.toInt
    · exact lv_tableOut (tgt := 740) hx hb dl_32 ho (by decide) (fin H locs hT0)
    · rcases (show z.toInt = 0 ∨ z.toInt = 1 ∨ z.toInt = 2 ∨ z.toInt = 3 ∨ z.toInt = 4 ∨ z.toInt = 5 ∨ z.toInt = 6 ∨ z.toInt = 7 ∨ z.toInt = 8 ∨ z.toInt = 9 ∨ z.toInt = 10 ∨ z.toInt = 11 ∨ z.toInt = 12 ∨ z.toInt = 13 ∨ z.toInt = 14 ∨ z.toInt = 15 ∨ z.toInt = 16 ∨ z.toInt = 17 ∨ z.toInt = 18 ∨ z.toInt = 19 ∨ z.toInt = 20 ∨ z.toInt = 21 ∨ z.toInt = 22 ∨ z.toInt = 23 ∨ z.toInt = 24 ∨ z.toInt = 25 by omega) with h | h | h | h | h | h | h | h | h | h | h | h | h | h | h | h | h | h | h | h | h | h | h | h | h | h
      · exact lv_tableIn (tgt := 152) hx hb dl_32 (by rw [h]; decide) (by rw [h]; decide) (by rw [h]; rfl) (by decide) (jl_case hF0 hcs hT0 hl (by omega) jl_r0 fin)
      · exact lv_tableIn (tgt := 175) hx hb dl_32 (by rw [h]; decide) (by rw [h]; decide) (by rw [h]; rfl) (by decide) (jl_case hF0 hcs hT0 hl (by omega) jl_r1 fin)
      · exact lv_tableIn (tgt := 188) hx hb dl_32 (by rw [h]; decide) (by rw [h]; decide) (by rw [h]; rfl) (by decide) (jl_case hF0 hcs hT0 hl (by omega) jl_r2 fin)
      · exact lv_tableIn (tgt := 231) hx hb dl_32 (by rw [h]; decide) (by rw [h]; decide) (by rw [h]; rfl) (by decide) (jl_case hF0 hcs hT0 hl (by omega) jl_r3 fin)
      · exact lv_tableIn (tgt := 254) hx hb dl_32 (by rw [h]; decide) (by rw [h]; decide) (by rw [h]; rfl) (by decide) (jl_case hF0 hcs hT0 hl (by omega) jl_r4 fin)
      · exact lv_tableIn (tgt := 267) hx hb dl_32 (by rw [h]; decide) (by rw [h]; decide) (by rw [h]; rfl) (by decide) (jl_case hF0 hcs hT0 hl (by omega) jl_r5 fin)
      · exact lv_tableIn (tgt := 290) hx hb dl_32 (by rw [h]; decide) (by rw [h]; decide) (by rw [h]; rfl) (by decide) (jl_case hF0 hcs hT0 hl (by omega) jl_r6 fin)
      · exact lv_tableIn (tgt := 313) hx hb dl_32 (by rw [h]; decide) (by rw [h]; decide) (by rw [h]; rfl) (by decide) (jl_case hF0 hcs hT0 hl (by omega) jl_r7 fin)
      · exact lv_tableIn (tgt := 336) hx hb dl_32 (by rw [h]; decide) (by rw [h]; decide) (by rw [h]; rfl) (by decide) (jl_case hF0 hcs hT0 hl (by omega) jl_r8 fin)
      · exact lv_tableIn (tgt := 349) hx hb dl_32 (by rw [h]; decide) (by rw [h]; decide) (by rw [h]; rfl) (by decide) (jl_case hF0 hcs hT0 hl (by omega) jl_r9 fin)
      · exact lv_tableIn (tgt := 392) hx hb dl_32 (by rw [h]; decide) (by rw [h]; decide) (by rw [h]; rfl) (by decide) (jl_case hF0 hcs hT0 hl (by omega) jl_r10 fin)
      · exact lv_tableIn (tgt := 415) hx hb dl_32 (by rw [h]; decide) (by rw [h]; decide) (by rw [h]; rfl) (by decide) (jl_case hF0 hcs hT0 hl (by omega) jl_r11 fin)
      · exact lv_tableIn (tgt := 428) hx hb dl_32 (by rw [h]; decide) (by rw [h]; decide) (by rw [h]; rfl) (by decide) (jl_case hF0 hcs hT0 hl (by omega) jl_r12 fin)
      · exact lv_tableIn (tgt := 441) hx hb dl_32 (by rw [h]; decide) (by rw [h]; decide) (by rw [h]; rfl) (by decide) (jl_case hF0 hcs hT0 hl (by omega) jl_r13 fin)
      · exact lv_tableIn (tgt := 474) hx hb dl_32 (by rw [h]; decide) (by rw [h]; decide) (by rw [h]; rfl) (by decide) (jl_case hF0 hcs hT0 hl (by omega) jl_r14 fin)
      · exact lv_tableIn (tgt := 497) hx hb dl_32 (by rw [h]; decide) (by rw [h]; decide) (by rw [h]; rfl) (by decide) (jl_case hF0 hcs hT0 hl (by omega) jl_r15 fin)
      · exact lv_tableIn (tgt := 510) hx hb dl_32 (by rw [h]; decide) (by rw [h]; decide) (by rw [h]; rfl) (by decide) (jl_case hF0 hcs hT0 hl (by omega) jl_r16 fin)
      · exact lv_tableIn (tgt := 533) hx hb dl_32 (by rw [h]; decide) (by rw [h]; decide) (by rw [h]; rfl) (by decide) (jl_case hF0 hcs hT0 hl (by omega) jl_r17 fin)
      · exact lv_tableIn (tgt := 556) hx hb dl_32 (by rw [h]; decide) (by rw [h]; decide) (by rw [h]; rfl) (by decide) (jl_case hF0 hcs hT0 hl (by omega) jl_r18 fin)
      · exact lv_tableIn (tgt := 589) hx hb dl_32 (by rw [h]; decide) (by rw [h]; decide) (by rw [h]; rfl) (by decide) (jl_case hF0 hcs hT0 hl (by omega) jl_r19 fin)
      · exact lv_tableIn (tgt := 622) hx hb dl_32 (by rw [h]; decide) (by rw [h]; decide) (by rw [h]; rfl) (by decide) (jl_case hF0 hcs hT0 hl (by omega) jl_r20 fin)
      · exact lv_tableIn (tgt := 655) hx hb dl_32 (by rw [h]; decide) (by rw [h]; decide) (by rw [h]; rfl) (by decide) (jl_case hF0 hcs hT0 hl (by omega) jl_r21 fin)
      · exact lv_tableIn (tgt := 678) hx hb dl_32 (by rw [h]; decide) (by rw [h]; decide) (by rw [h]; rfl) (by decide) (jl_case hF0 hcs hT0 hl (by omega) jl_r22 fin)
      · exact lv_tableIn (tgt := 691) hx hb dl_32 (by rw [h]; decide) (by rw [h]; decide) (by rw [h]; rfl) (by decide) (jl_case hF0 hcs hT0 hl (by omega) jl_r23 fin)
      · exact lv_tableIn (tgt := 714) hx hb dl_32 (by rw [h]; decide) (by rw [h]; decide) (by rw [h]; rfl) (by decide) (jl_case hF0 hcs hT0 hl (by omega) jl_r24 fin)
      · exact lv_tableIn (tgt := 727) hx hb dl_32 (by rw [h]; decide) (by rw [h]; decide) (by rw [h]; rfl) (by decide) (jl_case hF0 hcs hT0 hl (by omega) jl_r25 fin)
theorem jl_loop (hF : jl_fix p s m meth c b L xs D cA ad1 ad2) (hcs : cells ≤ 600000 ∧ slots ≤ 7302250) : ∀ (N i : Nat), L ≤ i + N → i ≤ 2048 → ∀ (H : Heap) (locs : List Loc) (la : Array Slot), jl_two s D cA ad1 ad2 H locs → lv_has la 4 [(0, .ref b), (1, .ref (ad1 1)), (2, .ref (ad2 1)), (3, .int (nI i))] → W p l e room_1 s m #[Value.ref b] below meth c H locs cells slots (lw_Z below #[Value.ref b] s) (F0 m 18 la []) := by
  have hL := hF.1
  intro N
  induction N with
  | zero => intro i h1 h2; exact jl_step hF hcs h2 (fun h => absurd h (by omega))
  | succ N ih => intro i h1 h2; exact jl_step hF hcs h2 (fun h => ih (i + 4) (by omega) (by omega))
end JN
