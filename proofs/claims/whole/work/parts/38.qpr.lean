theorem q_bt_fr2 {M M' : jxM} {A : Int → Int} (ho : q_ok A) (h : q_bt M A) (hf : ∀ c x, 85 ≤ c → c ≤ 99 → c ≠ 90 → M' c x = M c x) : q_bt M' A := by
  obtain ⟨h1, h2, h3, h4, h5⟩ := h
  exact ⟨q_lat_fr h1 (fun c x c1 c2 => hf c x c1 (by omega) (by omega)), fwI_fr ho (fun _ _ _ w => w) h2 (fun x _ _ => hf 91 x (by omega) (by omega) (by omega)), fun x x1 x2 => by rw [hf 91 x (by omega) (by omega) (by omega)]; exact h3 x x1 x2, q_rkd_fr ho (by omega) h4 (fun x _ _ => ⟨hf 91 x (by omega) (by omega) (by omega), hf 92 x (by omega) (by omega) (by omega), hf 93 x (by omega) (by omega) (by omega)⟩) (fun c x c1 c2 _ => hf c x (by omega) (by omega) (by omega)), fun g a b => by rw [hf 99 g (by omega) (by omega) (by omega)]; exact h5 g a b⟩
theorem q_base_fr {M1 M2 M1' M2' : jxM} (h : q_base M1 M2) (h1 : ∀ c x, 2 ≤ c → c ≤ 82 → M1' c x = M1 c x) (h2 : ∀ c x, 2 ≤ c → c ≤ 4 → M2' c x = M2 c x) (h3 : M2' 1 2 = M2 1 2) (h4 : M2' 1 4 = M2 1 4) : q_base M1' M2' :=
  ⟨q_txt_fr h.1 (fun c x hc => h1 c x (by omega) (by omega)) h4 (fun x => h2 4 x (by omega) (by omega)), q_rs_eq h.2.2.1 (q_rs_blk h.2.2.1 h.2.1 (q_blk_rfl (fun c x c1 c2 => h1 c x (by omega) (by omega)))) (fun k _ _ => h2 2 k (by omega) (by omega)), q_ok_eq h.2.2.1 (fun k _ _ => h2 2 k (by omega) (by omega)), q_his_fr h.2.2.2 (fun c x c1 c2 => h1 c x (by omega) c2) (fun x => h2 3 x (by omega) (by omega)) h3⟩
theorem q_rel_new {M1 M2 M1' M2' : jxM} (h : q_base M1 M2) (h1 : ∀ c x, c < 84 → ¬ (c = 1 ∧ x = 5) → M1' c x = M1 c x) (h2 : ∀ c x, c < 5 → ¬ (c = 1 ∧ (x = 5 ∨ x = 6 ∨ x = 14)) → M2' c x = M2 c x) (a : M1' 1 5 = 0) (b : q_bt M1' (M2 2)) (c : M2' 1 5 = 1) (e : q_ld M2' (M2 2)) : q_rel M1' M2' := by
  have e2 : M2' 2 = M2 2 := funext (fun x => h2 2 x (by omega) (by omega))
  refine ⟨q_base_fr h (fun c x c1 c2 => h1 c x (by omega) (by omega)) (fun c x c1 c2 => h2 c x (by omega) (by omega)) (h2 1 2 (by omega) (by omega)) (h2 1 4 (by omega) (by omega)), Or.inl a, fun _ => ?_, Or.inr c, fun _ => ?_⟩
  · rw [e2]; exact b
  · rw [e2]; exact e
theorem q_stay {M1 M2 : jxM} (h : q_rel M1 M2) (r : Int) : q_go (some (.inl r)) M1 (some (.inl r)) M2 := ⟨⟨r, rfl, rfl⟩, h⟩
theorem pr_pathCount (d1 d2 : Nat) {M1 M2 : jxM} (h : q_rel M1 M2) : jx_call jx_G1 jx_T (d1 + 7) 61 [.inr 1] M1 (fun v M1' => jx_call jx_G2 jx_T (d2 + 6) 115 [.inr 1] M2 (q_go v M1')) := by
  obtain ⟨hb, p1, p2, p3, p4⟩ := h
  have ho := hb.2.2.1
  intro X hX
  refine bk_C_pathCount_0 (d := d1) hX M1 ?_
  refine sp_C_presentPaths d1 M1 hb.2.1 ho p2 (fun N a1 a2 a3 => ⟨rfl, ?_⟩)
  intro X2 hX2
  refine bk_F_pathCount_0 (d := d2) hX2 M2 ?_
  refine sp_F_lay d2 M2 (fun _ _ _ => rfl) ho p3 p4 (fun N2 b1 b2 b3 => ⟨rfl, ?_⟩)
  rw [(q_bt_top ho a3).2.2.2, (q_ld_top ho b3).2.2.2]
  exact ⟨⟨_, rfl, rfl⟩, q_rel_new hb (fun c x c1 c2 => a1 c x (by omega) c2) (fun c x c1 c2 => b1 c x (by omega) (by omega)) a2 a3 b2 b3⟩
theorem a_bc_0 {A : Int → Int} (ho : q_ok A) (h : (a_W A 0 6).length = 0) : a_bc A 0 6 = 0 := by
  have hnn := ho.2.2.2.2.1
  rcases Int.lt_or_le 0 (A 271) with z | z
  · rw [a_bc_step ho (by omega) z]
    have : ∀ l : List Int, (∀ s ∈ l, s ∈ a_seg A 0) → ∀ f : Int → Int, w_bst (a_tight A 0 6) f 0 l = 0 := by
      intro l
      induction l with
      | nil => intro _ f; rfl
      | cons s l ih =>
        intro hs f
        simp only [w_bst]
        have nt : ¬ a_tight A 0 6 s := fun t => by
          have := (a_W_least ho (c := 6) (by omega) z (hs s (List.mem_cons_self)) (Nat.pos_of_ne_zero t.1)).1
          omega
        rw [if_neg nt]
        exact ih (fun t ht => hs t (List.mem_cons_of_mem _ ht)) f
    exact this _ (fun s hs => hs) _
  · have e : A 271 = 0 := by omega
    have := a_W_end A 6
    rw [e] at this
    rw [this] at h
    cases h
theorem pr_bestCount (d1 d2 : Nat) {M1 M2 : jxM} (h : q_rel M1 M2) : jx_call jx_G1 jx_T (d1 + 7) 68 [.inr 1] M1 (fun v M1' => jx_call jx_G2 jx_T (d2 + 6) 124 [.inr 1] M2 (q_go v M1')) := by
  obtain ⟨hb, p1, p2, p3, p4⟩ := h
  have ho := hb.2.2.1
  intro X hX
  refine bk_C_bestCount_0 (d := d1) hX M1 ?_
  refine sp_C_presentPaths d1 M1 hb.2.1 ho p2 (fun N a1 a2 a3 => ⟨rfl, ?_⟩)
  intro X2 hX2
  refine bk_F_bestCount_0 (d := d2) hX2 M2 ?_
  refine sp_F_lay d2 M2 (fun _ _ _ => rfl) ho p3 p4 (fun N2 b1 b2 b3 => ⟨rfl, ?_⟩)
  have t := q_ld_top ho b3
  rw [(q_bt_top ho a3).2.2.1, t.2.2.1, t.1]
  have fin := q_rel_new hb (fun c x c1 c2 => a1 c x (by omega) c2) (fun c x c1 c2 => b1 c x (by omega) (by omega)) a2 a3 b2 b3
  refine ⟨fun _ => ⟨⟨_, rfl, rfl⟩, fin⟩, fun z => ?_⟩
  rw [a_bc_0 ho (by omega)]
  exact ⟨⟨_, rfl, rfl⟩, fin⟩
theorem pr_pathCost (d1 d2 : Nat) {M1 M2 : jxM} (h : q_rel M1 M2) (r : Int) : jx_call jx_G1 jx_T (d1 + 7) 62 [.inr 1, .inl r] M1 (fun v M1' => jx_call jx_G2 jx_T (d2 + 6) 116 [.inr 1, .inl r] M2 (q_go v M1')) := by
  have h0 := h
  obtain ⟨hb, p1, p2, p3, p4⟩ := h
  have ho := hb.2.2.1
  intro X hX
  refine bk_C_pathCost_0 (d := d1) hX r M1 ⟨fun z => ?_, fun z => ?_⟩
  · refine sp_C_presentPaths d1 M1 hb.2.1 ho p2 (fun N a1 a2 a3 => ⟨rfl, ?_⟩)
    have t1 := q_bt_top ho a3
    rw [t1.1]
    have go : ∀ v, (∀ N2 : jxM, q_ld N2 (M2 2) → q_rel N N2 → (((N2 6 6) ≤ r → q_go v N (some (.inl (-9))) N2) ∧ (r < (N2 6 6) → q_go v N (some (.inl (N2 7 (120 + r)))) N2))) → jx_call jx_G2 jx_T (d2 + 6) 116 [.inr 1, .inl r] M2 (q_go v N) := by
      intro v hv X2 hX2
      refine bk_F_pathCost_0 (d := d2) hX2 r M2 ⟨fun _ => ?_, fun y => absurd (by omega) y⟩
      refine sp_F_lay d2 M2 (fun _ _ _ => rfl) ho p3 p4 (fun N2 b1 b2 b3 => ⟨rfl, ?_⟩)
      have := hv N2 b3 (q_rel_new hb (fun c x c1 c2 => a1 c x (by omega) c2) (fun c x c1 c2 => b1 c x (by omega) (by omega)) a2 a3 b2 b3)
      exact ⟨this.1, fun y => ⟨by omega, this.2 y⟩⟩
    refine ⟨fun y => go _ (fun N2 b3 hh => ?_), fun y => ⟨by omega, go _ (fun N2 b3 hh => ?_)⟩⟩
    · rw [(q_ld_top ho b3).1]
      exact ⟨fun _ => ⟨⟨_, rfl, rfl⟩, hh⟩, fun y2 => absurd y2 y⟩
    · have t2 := q_ld_top ho b3
      have u1 := t1.2.1 r.toNat (by omega)
      have u2 := t2.2.1 r.toNat (by omega)
      rw [show ((r.toNat : Nat) : Int) = r by omega] at u1 u2
      rw [t2.1, u1, u2]
      exact ⟨fun y2 => by omega, fun _ => ⟨⟨_, rfl, rfl⟩, hh⟩⟩
  · intro X2 hX2
    exact bk_F_pathCost_0 (d := d2) hX2 r M2 ⟨fun y => by omega, fun y => q_stay h0 _⟩
theorem p_tr_len (A : Int → Int) : ∀ (f : Nat) (g c : Int) (k : Nat), (p_tr A f g c k).length ≤ f := by
  intro f
  induction f with
  | zero => intro g c k; exact Nat.le_refl _
  | succ f ih =>
    intro g c k
    unfold p_tr
    by_cases z : g < A 271
    · rw [if_pos z, List.length_cons]
      have := ih (f_end A (w_at (a_W A g c) k).2.1 g) (f_cls A (w_at (a_W A g c) k).2.1) (w_at (a_W A g c) k).2.2.toNat
      omega
    · rw [if_neg z]; exact Nat.zero_le _
theorem sp_C_findSegment (d : Nat) (r i : Int) (M : jxM) {A : Int → Int} (hr : q_rs M 4 A) (ho : q_ok A) (hb : M 1 5 = 0 → q_bt M A) (r0 : 0 ≤ r) {K : jxK}
    (h0 : ∀ M', (∀ c x, c < 84 → ¬ (c = 1 ∧ x = 5) → M' c x = M c x) → M' 1 5 = 0 → q_bt M' A → ((a_W A 0 6).length ≤ r ∨ (p_tr A 16 0 6 r.toNat).length ≤ i) → K (some (.inl 0)) M')
    (h1 : ∀ M', (∀ c x, c < 84 → ¬ (c = 1 ∧ x = 5) → M' c x = M c x) → M' 1 5 = 0 → q_bt M' A → r < (a_W A 0 6).length → i < (p_tr A 16 0 6 r.toNat).length → p_hold (M' 100) (M' 101) (M' 90 13) (p_tr A 16 0 6 r.toNat) → K (some (.inl 1)) M') : jx_call jx_G1 jx_T (d + 7) 74 [.inr 1, .inl r, .inl i] M K := by
  intro X hX
  refine bk_C_findSegment_0 (d := d) hX r i M ?_
  refine sp_C_presentPaths d M hr ho hb (fun N a1 a2 a3 => ⟨rfl, ?_⟩)
  have t1 := q_bt_top ho a3
  rw [t1.1]
  refine ⟨fun y => ?_, fun y => h0 N (fun c x c1 c2 => a1 c x (by omega) c2) a2 a3 (Or.inl (by omega))⟩
  refine sp_R_walk (d + 4) r N ((a1 4 5 (by omega) (by omega)).trans hr.2.2.2.2.1) ho a3 r0 y (fun N2 b1 b2 => ⟨rfl, ?_⟩)
  have fr : ∀ c x, c < 84 → ¬ (c = 1 ∧ x = 5) → N2 c x = M c x := fun c x c1 c2 => by rw [b1 c x (by omega) (by omega)]; exact a1 c x (by omega) c2
  have f5 : N2 1 5 = 0 := by rw [b1 1 5 (by omega) (by omega)]; exact a2
  have fb := q_bt_fr2 ho a3 (fun c x c1 c2 _ => b1 c x (by omega) (by omega))
  refine ⟨fun z => h0 N2 fr f5 fb (Or.inr ?_), fun z => h1 N2 fr f5 fb y ?_ b2⟩
  · rw [b2.1] at z; exact z
  · rw [b2.1] at z; exact z
theorem pr_segmentCount (d1 d2 : Nat) {M1 M2 : jxM} (h : q_rel M1 M2) (r : Int) : jx_call jx_G1 jx_T (d1 + 7) 63 [.inr 1, .inl r] M1 (fun v M1' => jx_call jx_G2 jx_T (d2 + 7) 118 [.inr 1, .inl r] M2 (q_go v M1')) := by
  have hh := h
  obtain ⟨hb, p1, p2, p3, p4⟩ := h
  have ho := hb.2.2.1
  intro X hX
  refine bk_C_segmentCount_0 (d := d1) hX r M1 ⟨fun z => ?_, fun z => ?_⟩
  · refine sp_C_presentPaths d1 M1 hb.2.1 ho p2 (fun N a1 a2 a3 => ⟨rfl, ?_⟩)
    rw [(q_bt_top ho a3).1]
    refine ⟨fun y => ?_, fun y => ?_⟩
    · refine sp_R_walk (d1 + 4) r N ((a1 4 5 (by omega) (by omega)).trans hb.2.1.2.2.2.2.1) ho a3 (by omega) y (fun N2 b1 b2 => ⟨rfl, ?_⟩)
      intro X2 hX2
      refine bk_F_segmentCount_0 (d := d2) hX2 r M2 ⟨fun _ => ?_, fun w => absurd (by omega) w⟩
      refine sp_F_follow d2 r M2 rfl ho p3 p4 (by omega) (by omega) (fun N3 _ _ _ w => by omega) (fun N3 c1 c2 c3 _ c5 => ⟨1, rfl, fun w => absurd w (by decide), fun _ => ?_⟩)
      rw [b2.1, c5.1]
      exact ⟨⟨_, rfl, rfl⟩, q_rel_new hb (fun c x c1 c2 => by rw [b1 c x (by omega) (by omega)]; exact a1 c x (by omega) c2) (fun c x c1' c2' => c1 c x (by omega) (by omega)) (by rw [b1 1 5 (by omega) (by omega)]; exact a2) (q_bt_fr2 ho a3 (fun c x c1 c2 _ => b1 c x (by omega) (by omega))) c2 c3⟩
    · intro X2 hX2
      refine bk_F_segmentCount_0 (d := d2) hX2 r M2 ⟨fun _ => ?_, fun w => absurd (by omega) w⟩
      refine sp_F_follow d2 r M2 rfl ho p3 p4 (by omega) (by omega) (fun N3 c1 c2 c3 w => ⟨0, rfl, fun _ => ?_, fun w => absurd rfl w⟩) (fun N3 c1 c2 c3 w c5 => absurd w y)
      exact ⟨⟨_, rfl, rfl⟩, q_rel_new hb (fun c x c1 c2 => a1 c x (by omega) c2) (fun c x c1' c2' => c1 c x (by omega) (by omega)) a2 a3 c2 c3⟩
  · intro X2 hX2
    exact bk_F_segmentCount_0 (d := d2) hX2 r M2 ⟨fun y => by omega, fun y => q_stay hh _⟩
theorem pr_segmentStart (d1 d2 : Nat) {M1 M2 : jxM} (h : q_rel M1 M2) (r i : Int) : jx_call jx_G1 jx_T (d1 + 8) 64 [.inr 1, .inl r, .inl i] M1 (fun v M1' => jx_call jx_G2 jx_T (d2 + 7) 119 [.inr 1, .inl r, .inl i] M2 (q_go v M1')) := by
  have hh := h
  obtain ⟨hb, p1, p2, p3, p4⟩ := h
  have ho := hb.2.2.1
  have pl := p_tr_len (M2 2) 16 0 6 r.toNat
  intro X hX
  refine bk_C_segmentStart_0 (d := d1) hX r i M1 ⟨fun z => ?_, fun z => ⟨fun z2 => ?_, fun z2 => ?_⟩⟩
  · intro X2 hX2
    exact bk_F_segmentStart_0 (d := d2) hX2 r i M2 ⟨fun y => q_stay hh _, fun y => by omega⟩
  · refine sp_C_findSegment d1 r i M1 hb.2.1 ho p2 (by omega) (fun N a1 a2 a3 a4 => ⟨0, rfl, fun _ => ?_, fun w => absurd rfl w⟩) (fun N a1 a2 a3 a4 a5 a6 => ⟨1, rfl, fun w => absurd w (by decide), fun _ => ⟨by omega, ?_⟩⟩)
    · intro X2 hX2
      refine bk_F_segmentStart_0 (d := d2) hX2 r i M2 ⟨fun w => absurd (by omega) w, fun _ => ⟨fun _ => ?_, fun w => by omega⟩⟩
      refine sp_F_follow d2 r M2 rfl ho p3 p4 (by omega) (by omega) (fun N3 c1 c2 c3 w => ⟨0, rfl, fun _ => ?_, fun w => absurd rfl w⟩) (fun N3 c1 c2 c3 c4 c5 => ⟨1, rfl, fun w => absurd w (by decide), fun _ => ?_⟩)
      · exact ⟨⟨_, rfl, rfl⟩, q_rel_new hb a1 (fun c x c1' c2' => c1 c x (by omega) (by omega)) a2 a3 c2 c3⟩
      · rw [c5.1]
        exact ⟨fun _ => ⟨⟨_, rfl, rfl⟩, q_rel_new hb a1 (fun c x c1' c2' => c1 c x (by omega) (by omega)) a2 a3 c2 c3⟩, fun w => by omega⟩
    · intro X2 hX2
      refine bk_F_segmentStart_0 (d := d2) hX2 r i M2 ⟨fun w => absurd (by omega) w, fun _ => ⟨fun _ => ?_, fun w => by omega⟩⟩
      refine sp_F_follow d2 r M2 rfl ho p3 p4 (by omega) (by omega) (fun N3 c1 c2 c3 w => by omega) (fun N3 c1 c2 c3 c4 c5 => ⟨1, rfl, fun w => absurd w (by decide), fun _ => ?_⟩)
      have u1 := (a6.2 i.toNat (by omega)).1
      have u2 := (c5.2 i.toNat (by omega)).1
      rw [show ((i.toNat : Nat) : Int) = i by omega] at u1 u2
      rw [c5.1, u1, u2]
      exact ⟨fun w => by omega, fun w => ⟨by omega, ⟨_, rfl, rfl⟩, q_rel_new hb a1 (fun c x c1' c2' => c1 c x (by omega) (by omega)) a2 a3 c2 c3⟩⟩
  · intro X2 hX2
    exact bk_F_segmentStart_0 (d := d2) hX2 r i M2 ⟨fun y => by omega, fun y => ⟨fun w => by omega, fun w => q_stay hh _⟩⟩
theorem pr_segmentEntry (d1 d2 : Nat) {M1 M2 : jxM} (h : q_rel M1 M2) (r i : Int) : jx_call jx_G1 jx_T (d1 + 8) 65 [.inr 1, .inl r, .inl i] M1 (fun v M1' => jx_call jx_G2 jx_T (d2 + 7) 120 [.inr 1, .inl r, .inl i] M2 (q_go v M1')) := by
  have hh := h
  obtain ⟨hb, p1, p2, p3, p4⟩ := h
  have ho := hb.2.2.1
  have pl := p_tr_len (M2 2) 16 0 6 r.toNat
  intro X hX
  refine bk_C_segmentEntry_0 (d := d1) hX r i M1 ⟨fun z => ?_, fun z => ⟨fun z2 => ?_, fun z2 => ?_⟩⟩
  · intro X2 hX2
    exact bk_F_segmentEntry_0 (d := d2) hX2 r i M2 ⟨fun y => q_stay hh _, fun y => by omega⟩
  · refine sp_C_findSegment d1 r i M1 hb.2.1 ho p2 (by omega) (fun N a1 a2 a3 a4 => ⟨0, rfl, fun _ => ?_, fun w => absurd rfl w⟩) (fun N a1 a2 a3 a4 a5 a6 => ⟨1, rfl, fun w => absurd w (by decide), fun _ => ⟨by omega, ?_⟩⟩)
    · intro X2 hX2
      refine bk_F_segmentEntry_0 (d := d2) hX2 r i M2 ⟨fun w => absurd (by omega) w, fun _ => ⟨fun _ => ?_, fun w => by omega⟩⟩
      refine sp_F_follow d2 r M2 rfl ho p3 p4 (by omega) (by omega) (fun N3 c1 c2 c3 w => ⟨0, rfl, fun _ => ?_, fun w => absurd rfl w⟩) (fun N3 c1 c2 c3 c4 c5 => ⟨1, rfl, fun w => absurd w (by decide), fun _ => ?_⟩)
      · exact ⟨⟨_, rfl, rfl⟩, q_rel_new hb a1 (fun c x c1' c2' => c1 c x (by omega) (by omega)) a2 a3 c2 c3⟩
      · rw [c5.1]
        exact ⟨fun _ => ⟨⟨_, rfl, rfl⟩, q_rel_new hb a1 (fun c x c1' c2' => c1 c x (by omega) (by omega)) a2 a3 c2 c3⟩, fun w => by omega⟩
    · intro X2 hX2
      refine bk_F_segmentEntry_0 (d := d2) hX2 r i M2 ⟨fun w => absurd (by omega) w, fun _ => ⟨fun _ => ?_, fun w => by omega⟩⟩
      refine sp_F_follow d2 r M2 rfl ho p3 p4 (by omega) (by omega) (fun N3 c1 c2 c3 w => by omega) (fun N3 c1 c2 c3 c4 c5 => ⟨1, rfl, fun w => absurd w (by decide), fun _ => ?_⟩)
      have u1 := (a6.2 i.toNat (by omega)).2
      have u2 := (c5.2 i.toNat (by omega)).2
      rw [show ((i.toNat : Nat) : Int) = i by omega] at u1 u2
      rw [c5.1, u1, u2]
      exact ⟨fun w => by omega, fun w => ⟨by omega, ⟨_, rfl, rfl⟩, q_rel_new hb a1 (fun c x c1' c2' => c1 c x (by omega) (by omega)) a2 a3 c2 c3⟩⟩
  · intro X2 hX2
    exact bk_F_segmentEntry_0 (d := d2) hX2 r i M2 ⟨fun y => by omega, fun y => ⟨fun w => by omega, fun w => q_stay hh _⟩⟩
