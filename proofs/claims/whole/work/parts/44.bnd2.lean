def b_S (f A : Int → Int) (G : Int) : Prop := ∃ c, 0 ≤ c ∧ c ≤ 6 ∧ b_p f A G c
def b_N (f A : Int → Int) (G : Int) : Prop := ∃ g c s, a_E A g c s ∧ b_p f A g c ∧ a_tight A g c s ∧ g < G ∧ G < f_end A s g
def b_D (A : Int → Int) (p : Int) (i : Nat) (g c s : Int) : Prop := 7 * g + c < p ∨ 7 * g + c = p ∧ s ∈ (a_seg A g).take i
def b_I (f A : Int → Int) (G p : Int) (i : Nat) (v3 : Int) (N : jxM) : Prop :=
  (∀ g c, 0 ≤ g → g ≤ A 271 → 0 ≤ c → c ≤ 6 → N 15 (7 * g + c) ≠ 0 → b_p f A g c) ∧ N 15 6 ≠ 0 ∧
  (∀ g c s, a_E A g c s → b_D A p i g c s → b_p f A g c → a_tight A g c s → N 15 (7 * f_end A s g + f_cls A s) ≠ 0) ∧
  (v3 ≠ 0 → b_N f A G) ∧ (∀ g c s, a_E A g c s → b_D A p i g c s → b_p f A g c → a_tight A g c s → g < G → G < f_end A s g → v3 ≠ 0)
def b_J (f A : Int → Int) (G p v2 : Int) : Prop := (v2 ≠ 0 → b_S f A G) ∧ ∀ c, 0 ≤ c → c ≤ 6 → 7 * G + c < p → b_p f A G c → v2 ≠ 0
set_option maxHeartbeats 8000000 in
theorem sp_F_boundaryInBest (d : Nat) (G : Int) (M : jxM) {A f : Int → Int} (hA : M 2 = A) (ho : q_ok A) (hf : M 1 5 = 0 ∨ M 1 5 = 1) (hl : M 1 5 = 1 → q_ld M A) (hw : fwI f 1000000 A (a_E A)) (hG : 1 ≤ G ∧ G ≤ A 271 - 1) {K : jxK}
    (h0 : ∀ M', (∀ c x, c < 5 → ¬ (c = 1 ∧ (x = 5 ∨ x = 6 ∨ x = 14)) → M' c x = M c x) → M' 1 5 = 1 → q_ld M' A → (a_W A 0 6).length = 0 → K (some (.inl (-9))) M')
    (h1 : ∀ M' v, (∀ c x, c < 5 → ¬ (c = 1 ∧ (x = 5 ∨ x = 6 ∨ x = 14)) → M' c x = M c x) → M' 1 5 = 1 → q_ld M' A → 0 < (a_W A 0 6).length → (¬ b_S f A G → v = 0) → (b_S f A G → ¬ b_N f A G → v = 2) → (b_S f A G → b_N f A G → v = 1) → K (some (.inl v)) M') : jx_call jx_G2 jx_T (d + 6) 123 [.inr 1, .inl G] M K := by
  have hnn := ho.2.2.2.2.1
  intro X hX
  have e271 : M 2 271 = A 271 := by rw [hA]
  refine bk_F_boundaryInBest_0 (d := d) hX G M ⟨by omega, fun _ => ?_, fun w => absurd (by omega) w⟩
  refine sp_F_lay d M (fun k _ _ => by rw [hA]) ho hf hl (fun M0 c1 c2 c3 => ⟨rfl, ?_⟩)
  rw [(q_ld_top ho c3).1]
  refine ⟨fun z => ?_, fun z => h0 M0 (fun c x x1 x2 => c1 c x (by omega) (by omega)) c2 c3 (by omega)⟩
  have hlen : 0 < (a_W A 0 6).length := by omega
  have m0A : M0 2 = A := funext (fun x => by rw [c1 2 x (by omega) (by omega), hA])
  have nA : ∀ N : jxM, (∀ c x, c ≠ 5 → c ≠ 15 → ¬ (c = 1 ∧ x = 6) → N c x = M0 c x) → N 2 = A := fun N hN => by
    rw [← m0A]
    exact funext (fun x => hN 2 x (by decide) (by decide) (by omega))
  have outer : ∀ (p : Int) (t : jxM × Int × Int), (0 ≤ p ∧ p ≤ 7 * A 271 ∧ (∀ c x, c ≠ 5 → c ≠ 15 → ¬ (c = 1 ∧ x = 6) → t.1 c x = M0 c x) ∧ b_J f A G p t.2.1 ∧ b_I f A G p 0 t.2.2 t.1) → X 44 [.inr 1, .inl G, .inl t.2.1, .inl t.2.2, .inl p, .inr 0, .inr 0, .inr 0, .inr 0, .inr 0] [] t.1 := by
    refine jx_loop (σ := jxM × Int × Int) (7 * A 271) _ _ ?_
    rintro p ⟨N, v2, v3⟩ ⟨p1, p2, n1, n2, n3⟩ ih
    dsimp only at n1 n2 n3 ⊢
    have eA := nA N n1
    refine bk_F_boundaryInBest_44 (d := d) hX G v2 v3 p N ⟨by rw [eA]; omega, fun q => ?_, fun q => ⟨by rw [eA] at q; omega, fun q1 => ⟨p1, ?_⟩, fun q1 => ⟨by omega, ?_⟩⟩⟩
    · rw [eA] at q
      have ep : p = 7 * A 271 := by omega
      have fr : ∀ c x, c < 5 → ¬ (c = 1 ∧ (x = 5 ∨ x = 6 ∨ x = 14)) → N c x = M c x := fun c x x1 x2 => by rw [n1 c x (by omega) (by omega) (by omega)]; exact c1 c x (by omega) (by omega)
      have n5 : N 1 5 = 1 := (n1 1 5 (by decide) (by decide) (by omega)).trans c2
      have nl : q_ld N A := q_ld_fr ho c3 (fun c x x1 x2 => n1 c x (by omega) (by omega) (by omega))
      have sS : v2 ≠ 0 ↔ b_S f A G := ⟨n2.1, fun ⟨c, x1, x2, x3⟩ => n2.2 c x1 x2 (by omega) x3⟩
      have sN : v3 ≠ 0 ↔ b_N f A G := ⟨n3.2.2.2.1, fun ⟨g, c, s, x1, x2, x3, x4, x5⟩ => n3.2.2.2.2 g c s x1 (Or.inl (by have := x1.2.1; have := x1.2.2.2.1; omega)) x2 x3 x4 x5⟩
      refine ⟨fun w => ⟨fun w2 => h1 N 2 fr n5 nl hlen (fun y => absurd (sS.mp w) y) (fun _ _ => rfl) (fun _ y => absurd w2 (sN.mpr y)), fun w2 => h1 N 1 fr n5 nl hlen (fun y => absurd (sS.mp w) y) (fun _ y => absurd (sN.mp w2) y) (fun _ _ => rfl)⟩, fun w => h1 N 0 fr n5 nl hlen (fun _ => rfl) (fun y => absurd w (sS.mpr y)) (fun y => absurd w (sS.mpr y))⟩
    · rw [eA] at q
      have ha : 0 ≤ p / 7 ∧ p / 7 < A 271 := by omega
      have hc : 0 ≤ p % 7 ∧ p % 7 ≤ 6 := by omega
      have hp : 7 * (p / 7) + p % 7 = p := by omega
      have bp : b_p f A (p / 7) (p % 7) := n3.1 _ _ ha.1 (by omega) hc.1 hc.2 (by rw [hp]; exact q1)
      generalize p / 7 = a at *
      generalize p % 7 = pc at *
      have inn : ∀ v2', b_J f A G (p + 1) v2' → jx_call jx_G2 jx_T (d + 5) 106 [.inr 1, .inl a] N (fun r M' => r = none ∧ X 76 [.inr 1, .inl G, .inl v2', .inl v3, .inl p, .inl a, .inl 0, .inr 0, .inr 0, .inr 0] [] M') := by
        intro v2' hv2
        have hsl := a_seg_len ho a
        refine sp_F_findSegments (d + 2) a N (fun k _ _ => by rw [eA]) ho ha (fun P s1 s2 s3 => ⟨rfl, ?_⟩)
        refine jx_loop (σ := jxM × Int) ((a_seg A a).length : Int) (fun i t => 0 ≤ i ∧ i ≤ ((a_seg A a).length : Int) ∧ (∀ c x, c ≠ 15 → t.1 c x = P c x) ∧ b_I f A G p i.toNat t.2 t.1) (fun i t => X 76 [.inr 1, .inl G, .inl v2', .inl t.2, .inl p, .inl a, .inl i, .inr 0, .inr 0, .inr 0] [] t.1) ?_ 0 (P, v3) ⟨by omega, by omega, fun _ _ _ => rfl, ?_⟩
        · rintro i ⟨L, w3⟩ ⟨i1, i2, l1, l2⟩ jh
          dsimp only at l1 l2 ⊢
          have lf : ∀ c x, c ≠ 5 → c ≠ 15 → ¬ (c = 1 ∧ x = 6) → L c x = M0 c x := fun c x x1 x2 x3 => by rw [l1 c x x2, s1 c x x1 x3]; exact n1 c x x1 x2 x3
          have lA := nA L lf
          have e16 : L 1 6 = ((a_seg A a).length : Int) := (l1 1 6 (by decide)).trans s2
          refine bk_F_boundaryInBest_76 (d := d) hX G v2' w3 p a i L ⟨fun y => ⟨by omega, ?_⟩, fun y => ?_⟩
          · have it : i.toNat = (a_seg A a).length := by omega
            rw [it] at l2
            have dd : ∀ g c s, a_E A g c s → b_D A (p + 1) 0 g c s → b_D A p (a_seg A a).length g c s := fun g c s x1 x2 => by
              rcases x2 with x2 | ⟨-, x2⟩
              · rcases (show 7 * g + c < p ∨ 7 * g + c = p by omega) with x3 | x3
                · exact Or.inl x3
                · have : g = a := by have := x1.2.2.1; have := x1.2.2.2.1; omega
                  refine Or.inr ⟨x3, ?_⟩
                  rw [this, List.take_length, ← this]
                  exact x1.2.2.2.2
              · rw [List.take_zero] at x2; cases x2
            exact ih (L, v2', w3) (by omega) ⟨by omega, by omega, lf, hv2, l2.1, l2.2.1, fun g c s x1 x2 => l2.2.2.1 g c s x1 (dd g c s x1 x2), l2.2.2.2.1, fun g c s x1 x2 => l2.2.2.2.2 g c s x1 (dd g c s x1 x2)⟩
          · have k0 : i.toNat < (a_seg A a).length := by omega
            obtain ⟨k1, k2, k3, k4, k5⟩ := a_seg_at ho ha k0
            have k8 := j_getD_mem k0
            have hs := s3 i.toNat k0
            rw [show (0 : Int) + ((i.toNat : Nat) : Int) = i by omega, ← l1 5 i (by decide)] at hs
            have dd : ∀ g c s, a_E A g c s → b_D A p (i + 1).toNat g c s → b_D A p i.toNat g c s ∨ (g = a ∧ c = pc ∧ s = (a_seg A a).getD i.toNat 0) := fun g c s x1 x2 => by
              rw [show (i + 1).toNat = i.toNat + 1 by omega] at x2
              rcases x2 with x2 | ⟨x2, x3⟩
              · exact Or.inl (Or.inl x2)
              · have eg : g = a := by have := x1.2.2.1; have := x1.2.2.2.1; omega
                have ec : c = pc := by omega
                subst eg
                rcases (a_Ei_next k0 g c s).mpr ⟨x1, Or.inr ⟨rfl, Or.inl x3⟩⟩ with ⟨-, y2 | ⟨-, y3 | ⟨y3, -, -⟩⟩⟩
                · omega
                · exact Or.inl (Or.inr ⟨x2, y3⟩)
                · exact Or.inr ⟨rfl, ec, y3⟩
            have epc : p % 7 = pc := by omega
            rw [hs, lA, epc]
            generalize hs2 : (a_seg A a).getD i.toNat 0 = s at *
            have s4 : s = -5 ∨ ((0 : Int) ≤ s ∧ s < 20 ∧ (0 : Int) ≤ A (1 + 11 * s) ∧ A (1 + 11 * s) ≤ 6) := by
              rcases k1 with k1 | k1
              · exact Or.inl k1
              · have := ho.2.1 s k1.1 (k2 (by omega)); exact Or.inr (by omega)
            have s5 : s = -5 ∨ ((0 : Int) ≤ s ∧ s < 20) ∧ ((0 : Int) ≤ A (1 + 11 * s + 9) ∧ A (1 + 11 * s + 9) ≤ 99) ∧ ((0 : Int) ≤ A (1 + 11 * s + 10) ∧ A (1 + 11 * s + 10) ≤ 9) := by
              rcases k1 with k1 | k1
              · exact Or.inl k1
              · have := ho.2.1 s k1.1 (k2 (by omega)); exact Or.inr (by omega)
            have hE : a_E A a pc s := ⟨ha.1, ha.2, hc.1, hc.2, k8⟩
            have hcn := a_con_bnd ho (l := pc) (r := f_cls A s) hc ⟨k4.1, by omega⟩
            have hed : a_edge A pc s = A (221 + 7 * pc + f_cls A s) + f_cost A s := rfl
            have hcd : a_con A pc (f_cls A s) = A (221 + 7 * pc + f_cls A s) := rfl
            have rq := q_ld_at (q_ld_fr ho c3 (fun c x x1 x2 => lf c x (by omega) (by omega) (by omega))) (g := f_end A s a) (c := f_cls A s) ⟨by omega, by omega⟩ ⟨k4.1, by omega⟩
            have rp := q_ld_at (q_ld_fr ho c3 (fun c x x1 x2 => lf c x (by omega) (by omega) (by omega))) (g := a) (c := pc) ⟨by omega, by omega⟩ hc
            have r7 := rp.2 0 bp.2.1
            rw [hp, show ((0 : Nat) : Int) = 0 from rfl, Int.add_zero] at r7
            have hm0 := a_W_len ho (g := f_end A s a) (c := f_cls A s) (by omega) (by omega)
            have stay : (a_tight A a pc s → False) → X 76 [.inr 1, .inl G, .inl v2', .inl w3, .inl p, .inl a, .inl (i + 1), .inr 0, .inr 0, .inr 0] [] L := fun nt => by
              refine jh (L, w3) (by omega) ⟨by omega, by omega, l1, l2.1, l2.2.1, fun g c s' x1 x2 x3 x4 => ?_, l2.2.2.2.1, fun g c s' x1 x2 x3 x4 => ?_⟩
              · rcases dd g c s' x1 x2 with x5 | ⟨x5, x6, x7⟩
                · exact l2.2.2.1 g c s' x1 x5 x3 x4
                · rw [x5, x6, x7] at x4; exact (nt x4).elim
              · rcases dd g c s' x1 x2 with x5 | ⟨x5, x6, x7⟩
                · exact l2.2.2.2.2 g c s' x1 x5 x3 x4
                · rw [x5, x6, x7] at x4; exact (nt x4).elim
            refine ⟨⟨by omega, ⟨s4, by omega, by omega⟩, by omega, k1, by omega, by omega, k1, by omega, s5, by omega, by omega⟩, fun y2 => ⟨by omega, stay (fun t => ?_)⟩, fun y2 => ?_⟩
            · have := t.1
              rw [rq.1] at y2
              omega
            · rw [rq.1] at y2
              have r8 := rq.2 0 (by omega)
              rw [show ((0 : Nat) : Int) = 0 from rfl, Int.add_zero] at r8
              have b1 := a_W_bnd ho (A 271 - f_end A s a).toNat (g := f_end A s a) (c := f_cls A s) (by omega) (by omega) (by omega) ⟨k4.1, by omega⟩ _ (w_at_mem (k := 0) (by omega))
              rw [r7, r8]
              refine ⟨⟨by omega, by omega, by omega, by omega, by omega⟩, fun y3 => ⟨by omega, stay (fun t => ?_)⟩, fun y3 => ⟨by omega, ?_⟩⟩
              · have := t.2
                omega
              · have ht : a_tight A a pc s := ⟨by omega, by omega⟩
                have bn := b_next ho hw hE bp ht
                have mk : ∀ w3', (w3 ≠ 0 → w3' ≠ 0) → (w3' ≠ 0 → b_N f A G) → (a < G → G < f_end A s a → w3' ≠ 0) → X 76 [.inr 1, .inl G, .inl v2', .inl w3', .inl p, .inl a, .inl (i + 1), .inr 0, .inr 0, .inr 0] [] (jx_up L 15 (7 * f_end A s a + f_cls A s) 1) := by
                  intro w3' u1 u2 u3
                  have at15 : ∀ x, L 15 x ≠ 0 → jx_up L 15 (7 * f_end A s a + f_cls A s) 1 15 x ≠ 0 := fun x hx => by
                    rw [jx_up_at]
                    split
                    · decide
                    · exact hx
                  refine jh (jx_up L 15 (7 * f_end A s a + f_cls A s) 1, w3') (by omega) ⟨by omega, by omega, fun c x x1 => (jx_upc x1).trans (l1 c x x1), fun g c x1 x2 x3 x4 x5 => ?_, at15 6 l2.2.1, fun g c s' x1 x2 x3 x4 => ?_, u2, fun g c s' x1 x2 x3 x4 x5 x6 => ?_⟩
                  · rw [show ((jx_up L 15 (7 * f_end A s a + f_cls A s) 1, w3') : jxM × Int).1 = jx_up L 15 (7 * f_end A s a + f_cls A s) 1 from rfl, jx_up_at] at x5
                    by_cases x6 : 7 * g + c = 7 * f_end A s a + f_cls A s
                    · have x7 : g = f_end A s a := by omega
                      have x8 : c = f_cls A s := by omega
                      rw [x7, x8]; exact bn
                    · rw [if_neg x6] at x5
                      exact l2.1 g c x1 x2 x3 x4 x5
                  · rcases dd g c s' x1 x2 with x5 | ⟨x5, x6, x7⟩
                    · exact at15 _ (l2.2.2.1 g c s' x1 x5 x3 x4)
                    · rw [x5, x7]
                      show jx_up L 15 (7 * f_end A s a + f_cls A s) 1 15 (7 * f_end A s a + f_cls A s) ≠ 0
                      rw [jx_ups]; decide
                  · rcases dd g c s' x1 x2 with x7 | ⟨x7, x8, x9⟩
                    · exact u1 (l2.2.2.2.2 g c s' x1 x7 x3 x4 x5 x6)
                    · rw [x7, x9] at x6
                      rw [x7] at x5
                      exact u3 x5 x6
                have e2 : (jx_up L 15 (7 * f_end A s a + f_cls A s) 1) 2 = A := by
                  rw [← lA]
                  exact funext (fun x => jx_upc (by decide))
                rw [e2]
                refine ⟨fun y4 => ⟨by omega, mk 1 (fun _ => by decide) (fun _ => l2.2.2.2.1 y4) (fun _ _ => by decide)⟩, fun y4 => ⟨fun y5 => ⟨by omega, mk 0 (fun x => absurd y4 x) (fun x => absurd rfl x) (fun x => by omega)⟩, fun y5 => ⟨⟨s4, by omega, by omega⟩, fun y6 => ⟨by omega, mk 0 (fun x => absurd y4 x) (fun x => absurd rfl x) (fun _ x => by omega)⟩, fun y6 => ⟨by omega, mk 1 (fun _ => by decide) (fun _ => ⟨a, pc, s, hE, bp, ht, y5, y6⟩) (fun _ _ => by decide)⟩⟩⟩⟩
        · have sf : ∀ x, P 15 x = N 15 x := fun x => s1 15 x (by decide) (by omega)
          exact ⟨fun g c x1 x2 x3 x4 x5 => n3.1 g c x1 x2 x3 x4 (by rw [← sf]; exact x5), by show P 15 6 ≠ 0; rw [sf]; exact n3.2.1, fun g c s x1 x2 x3 x4 => by show P 15 _ ≠ 0; rw [sf]; exact n3.2.2.1 g c s x1 x2 x3 x4, n3.2.2.2.1, n3.2.2.2.2⟩
      have j1 : v2 ≠ 0 → b_J f A G (p + 1) 1 := fun w => ⟨fun _ => n2.1 w, fun _ _ _ _ _ => by decide⟩
      refine ⟨fun w => inn 1 (j1 w), fun w => ⟨fun w2 => inn 0 ⟨fun x => absurd rfl x, fun c x1 x2 x3 x4 => ?_⟩, fun w2 => inn 1 ⟨fun _ => ⟨pc, hc.1, hc.2, by rw [← w2]; exact bp⟩, fun _ _ _ _ _ => by decide⟩⟩⟩
      exact absurd w (n2.2 c x1 x2 (by omega) x4)
    · rw [eA] at q
      have nb : ∀ g c, 0 ≤ g → g ≤ A 271 → 0 ≤ c → c ≤ 6 → 7 * g + c = p → ¬ b_p f A g c := fun g c x1 x2 x3 x4 x5 x6 => by
        rcases b_prev ho hw ⟨x1, x2⟩ ⟨x3, x4⟩ x6 with ⟨y1, y2⟩ | ⟨g0, c0, s, y1, y2, y3, y4, y5⟩
        · have : p = 6 := by omega
          rw [this] at q1
          exact n3.2.1 q1
        · have me := (a_seg_mem ho ⟨y1.1, y1.2.1⟩ y1.2.2.2.2).2.1
          have := n3.2.2.1 g0 c0 s y1 (Or.inl (by have := y1.2.2.2.1; omega)) y2 y3
          rw [y4, y5, x5] at this
          exact this q1
      have dd : ∀ g c s, a_E A g c s → b_D A (p + 1) 0 g c s → b_p f A g c → b_D A p 0 g c s := fun g c s x1 x2 x3 => by
        rcases x2 with x2 | ⟨-, x2⟩
        · rcases (show 7 * g + c < p ∨ 7 * g + c = p by omega) with x4 | x4
          · exact Or.inl x4
          · exact absurd x3 (nb g c x1.1 (by have := x1.2.1; omega) x1.2.2.1 x1.2.2.2.1 x4)
        · rw [List.take_zero] at x2; cases x2
      refine ih (N, v2, v3) (by omega) ⟨by omega, by omega, n1, ⟨n2.1, fun c x1 x2 x3 x4 => ?_⟩, n3.1, n3.2.1, fun g c s x1 x2 x3 => n3.2.2.1 g c s x1 (dd g c s x1 x2 x3) x3, n3.2.2.2.1, fun g c s x1 x2 x3 => n3.2.2.2.2 g c s x1 (dd g c s x1 x2 x3) x3⟩
      rcases (show 7 * G + c < p ∨ 7 * G + c = p by omega) with x5 | x5
      · exact n2.2 c x1 x2 x5 x4
      · exact absurd x4 (nb G c (by omega) (by omega) x1 x2 x5)
  refine jx_loop (σ := jxM) 119 (fun i L => 0 ≤ i ∧ i ≤ 119 ∧ (∀ c x, c ≠ 15 → L c x = M0 c x) ∧ ∀ x, 0 ≤ x → x < i → L 15 x = if x = 6 then 1 else 0) (fun i L => X 23 [.inr 1, .inl G, .inl i, .inr 0, .inr 0, .inr 0, .inr 0, .inr 0, .inr 0, .inr 0] [] L) ?_ 0 M0 ⟨by omega, by omega, fun _ _ _ => rfl, fun x _ _ => by omega⟩
  intro i L ⟨i1, i2, l1, l2⟩ ih
  refine bk_F_boundaryInBest_23 (d := d) hX G i L ⟨fun q => ?_, fun q => ⟨fun q1 => ⟨⟨by omega, by omega⟩, ih _ q ⟨by omega, by omega, fun c x hc => (jx_upc hc).trans (l1 c x hc), fun x x1 x2 => ?_⟩⟩, fun q1 => ⟨⟨by omega, by omega⟩, ih _ q ⟨by omega, by omega, fun c x hc => (jx_upc hc).trans (l1 c x hc), fun x x1 x2 => ?_⟩⟩⟩⟩
  · obtain rfl : i = 119 := by omega
    have f6 : f (7 * 0 + 6) = 0 := hw.2.1
    refine outer 0 (L, 0, 0) ⟨by omega, by omega, fun c x x1 x2 x3 => l1 c x x2, ⟨fun x => absurd rfl x, fun c x1 x2 x3 => by omega⟩, fun g c x1 x2 x3 x4 x5 => ?_, ?_, fun g c s x1 x2 => ?_, fun x => absurd rfl x, fun g c s x1 x2 => ?_⟩
    · have x6 : L 15 (7 * g + c) ≠ 0 := x5
      rw [l2 _ (by omega) (by omega)] at x6
      by_cases x7 : 7 * g + c = 6
      · have x8 : g = 0 := by omega
        have x9 : c = 6 := by omega
        subst x8; subst x9
        exact ⟨by omega, hlen, by omega⟩
      · rw [if_neg x7] at x6; exact absurd rfl x6
    · show L 15 6 ≠ 0
      rw [l2 6 (by omega) (by omega)]; decide
    · rcases x2 with x2 | ⟨-, x2⟩
      · have := x1.1; have := x1.2.2.1; omega
      · rw [List.take_zero] at x2; cases x2
    · rcases x2 with x2 | ⟨-, x2⟩
      · have := x1.1; have := x1.2.2.1; omega
      · rw [List.take_zero] at x2; cases x2
  · rw [jx_up_at]
    by_cases y : x = i
    · rw [if_pos y, if_neg (by omega)]
    · rw [if_neg y]; exact l2 x x1 (by omega)
  · rw [jx_up_at]
    by_cases y : x = i
    · rw [if_pos y, if_pos (by omega)]
    · rw [if_neg y]; exact l2 x x1 (by omega)
set_option maxHeartbeats 4000000 in
theorem pr_boundaryInBest (d1 d2 : Nat) {M1 M2 : jxM} (h : q_rel M1 M2) (G : Int) : jx_call jx_G1 jx_T (d1 + 7) 67 [.inr 1, .inl G] M1 (fun v M1' => jx_call jx_G2 jx_T (d2 + 6) 123 [.inr 1, .inl G] M2 (q_go v M1')) := by
  have hh := h
  obtain ⟨hb, p1, p2, p3, p4⟩ := h
  have ho := hb.2.2.1
  obtain ⟨-, -, b3, b4, b5, b6, -⟩ := q_bs hb
  intro X hX
  refine bk_C_boundaryInBest_0 (d := d1) hX G M1 ⟨by omega, fun z => ?_, fun z => ?_⟩
  · refine sp_C_presentPaths d1 M1 hb.2.1 ho p2 (fun N a1 a2 a3 => ⟨rfl, ?_⟩)
    have nr : q_rs N 4 (M2 2) := q_rs_fr ho hb.2.1 (fun c x c1 c2 => a1 c x (by omega) (by omega))
    have hG : 1 ≤ G ∧ G ≤ M2 2 271 - 1 := by omega
    refine sp_R_leastEndingAt (d1 + 4) G N ho a3 (by omega) (fun t t1 t2 t3 => ⟨t, rfl, ?_⟩)
    refine sp_R_leastCrossing (d1 + 2) G N nr ho a3 (by omega) (fun u u1 u2 u3 => ⟨u, rfl, ?_⟩)
    have fw := a3.2.1
    have low : ∀ c, 0 ≤ c → c ≤ 6 → N 91 (7 * G + c) < 1000000 → 0 < (a_W (M2 2) G c).length → 0 < (a_W (M2 2) 0 6).length ∧ (w_at (a_W (M2 2) 0 6) 0).1 ≤ N 91 (7 * G + c) + (w_at (a_W (M2 2) G c) 0).1 := fun c c1 c2 c3 c4 => b_low ho fw (G.toNat + 1) G c (by omega) (by omega) (by omega) c1 c2 c3 c4
    have tB : t < 1000000 → 0 < (a_W (M2 2) 0 6).length ∧ (w_at (a_W (M2 2) 0 6) 0).1 ≤ t ∧ (t = (w_at (a_W (M2 2) 0 6) 0).1 → b_S (N 91) (M2 2) G) := fun y => by
      obtain ⟨c, c1, c2, c3, c4, c5⟩ := t3 y
      obtain ⟨l1, l2⟩ := low c c1 c2 c3 c4
      exact ⟨l1, by omega, fun e => ⟨c, c1, c2, c3, c4, by omega⟩⟩
    have uB : u < 1000000 → 0 < (a_W (M2 2) 0 6).length ∧ (w_at (a_W (M2 2) 0 6) 0).1 ≤ u ∧ (u = (w_at (a_W (M2 2) 0 6) 0).1 → b_N (N 91) (M2 2) G) := fun y => by
      obtain ⟨g, c, s, ⟨c1, c2, c3, c4, c5⟩, c6⟩ := u3 y
      obtain ⟨l1, l2, l3⟩ := b_edge ho fw c1 c4 c5
      unfold b_ct at c6
      refine ⟨l1, by omega, fun e => ?_⟩
      obtain ⟨l4, l5⟩ := l3 (by omega)
      exact ⟨g, c, s, c1, l4, l5, c2, c3⟩
    have tS : b_S (N 91) (M2 2) G → t ≤ (w_at (a_W (M2 2) 0 6) 0).1 := fun ⟨c, c1, c2, c3, c4, c5⟩ => by
      have := t2 c c1 c2 c3 c4
      omega
    have uN : b_N (N 91) (M2 2) G → u ≤ (w_at (a_W (M2 2) 0 6) 0).1 := fun ⟨g, c, s, c1, c2, c3, c4, c5⟩ => by
      have := u2 g c s ⟨c1, c4, c5, c2.1, Nat.pos_of_ne_zero c3.1⟩
      have e1 := c3.2
      have e2 := c2.2.2
      unfold b_ct at this
      omega
    have bB : 0 < (a_W (M2 2) 0 6).length → (w_at (a_W (M2 2) 0 6) 0).1 < 1000000 := fun y => by
      have := a_W_bnd ho (M2 2 271).toNat (g := 0) (c := 6) (by omega) (by omega) (by omega) (by omega) _ (w_at_mem y)
      omega
    have go : ∀ v : Int, ((a_W (M2 2) 0 6).length = 0 → v = -9) → (0 < (a_W (M2 2) 0 6).length → (¬ b_S (N 91) (M2 2) G → v = 0) ∧ (b_S (N 91) (M2 2) G → ¬ b_N (N 91) (M2 2) G → v = 2) ∧ (b_S (N 91) (M2 2) G → b_N (N 91) (M2 2) G → v = 1)) → jx_call jx_G2 jx_T (d2 + 6) 123 [.inr 1, .inl G] M2 (q_go (some (.inl v)) N) := by
      intro v v1 v2
      refine sp_F_boundaryInBest d2 G M2 rfl ho p3 p4 fw hG (fun N2 c1 c2 c3 c4 => ?_) (fun N2 w c1 c2 c3 c4 c5 c6 c7 => ?_)
      · rw [v1 c4]
        exact ⟨⟨_, rfl, rfl⟩, q_rel_new hb (fun c x c1 c2 => a1 c x (by omega) c2) c1 a2 a3 c2 c3⟩
      · obtain ⟨w1, w2, w3⟩ := v2 c4
        have : v = w := by
          rcases Classical.em (b_S (N 91) (M2 2) G) with y | y
          · rcases Classical.em (b_N (N 91) (M2 2) G) with y2 | y2
            · rw [w3 y y2, c7 y y2]
            · rw [w2 y y2, c6 y y2]
          · rw [w1 y, c5 y]
        rw [this]
        exact ⟨⟨_, rfl, rfl⟩, q_rel_new hb (fun c x c1 c2 => a1 c x (by omega) c2) c1 a2 a3 c2 c3⟩
    have all := fun y => b_some ho fw y (G := G) ⟨by omega, by omega⟩
    -- with a best path: what the two least costs are
    have sIff : 0 < (a_W (M2 2) 0 6).length → (b_S (N 91) (M2 2) G ↔ t = (w_at (a_W (M2 2) 0 6) 0).1) := fun y => by
      have y0 := bB y
      constructor
      · intro q
        have := tS q
        have := (tB (by omega)).2.1
        omega
      · intro q
        exact (tB (by omega)).2.2 q
    have nIff : 0 < (a_W (M2 2) 0 6).length → (b_N (N 91) (M2 2) G ↔ u = (w_at (a_W (M2 2) 0 6) 0).1) := fun y => by
      have y0 := bB y
      constructor
      · intro q
        have := uN q
        have := (uB (by omega)).2.1
        omega
      · intro q
        exact (uB (by omega)).2.2 q
    have tge : 0 < (a_W (M2 2) 0 6).length → (w_at (a_W (M2 2) 0 6) 0).1 ≤ t := fun y => by
      have y0 := bB y
      rcases Int.lt_or_le t 1000000 with q | q
      · exact (tB q).2.1
      · omega
    have uge : 0 < (a_W (M2 2) 0 6).length → (w_at (a_W (M2 2) 0 6) 0).1 ≤ u := fun y => by
      have y0 := bB y
      rcases Int.lt_or_le u 1000000 with q | q
      · exact (uB q).2.1
      · omega
    have one : 0 < (a_W (M2 2) 0 6).length → t = (w_at (a_W (M2 2) 0 6) 0).1 ∨ u = (w_at (a_W (M2 2) 0 6) 0).1 := fun y => by
      rcases all y with q | q
      · exact Or.inl ((sIff y).mp q)
      · exact Or.inr ((nIff y).mp q)
    have pos : t < 1000000 ∨ u < 1000000 → 0 < (a_W (M2 2) 0 6).length := fun y => by
      rcases y with y | y
      · exact (tB y).1
      · exact (uB y).1
    have r1 : t < 1000000 ∨ u < 1000000 → t = u → jx_call jx_G2 jx_T (d2 + 6) 123 [.inr 1, .inl G] M2 (q_go (some (.inl 1)) N) := fun y e => by
      have y0 := pos y
      have y1 := one y0
      refine go 1 (fun q => by omega) (fun _ => ⟨fun q => absurd ((sIff y0).mpr (by omega)) q, fun _ q => absurd ((nIff y0).mpr (by omega)) q, fun _ _ => rfl⟩)
    have r0 : t < 1000000 ∨ u < 1000000 → t ≠ u → u ≤ t → jx_call jx_G2 jx_T (d2 + 6) 123 [.inr 1, .inl G] M2 (q_go (some (.inl 0)) N) := fun y e e2 => by
      have y0 := pos y
      have y1 := one y0
      have y2 := uge y0
      have ns : ¬ b_S (N 91) (M2 2) G := fun q => by have := (sIff y0).mp q; omega
      exact go 0 (fun q => by omega) (fun _ => ⟨fun _ => rfl, fun q => absurd q ns, fun q => absurd q ns⟩)
    have r2 : t < 1000000 ∨ u < 1000000 → t < u → jx_call jx_G2 jx_T (d2 + 6) 123 [.inr 1, .inl G] M2 (q_go (some (.inl 2)) N) := fun y e => by
      have y0 := pos y
      have y1 := one y0
      have y2 := tge y0
      have nn : ¬ b_N (N 91) (M2 2) G := fun q => by have := (nIff y0).mp q; omega
      exact go 2 (fun q => by omega) (fun _ => ⟨fun q => absurd ((sIff y0).mpr (by omega)) q, fun _ _ => rfl, fun _ q => absurd q nn⟩)
    have r9 : 1000000 ≤ t → 1000000 ≤ u → jx_call jx_G2 jx_T (d2 + 6) 123 [.inr 1, .inl G] M2 (q_go (some (.inl (-9))) N) := fun y1 y2 => by
      refine go (-9) (fun _ => rfl) (fun q => ?_)
      have := one q
      have := bB q
      omega
    exact ⟨fun y => ⟨fun y2 => ⟨fun y3 => r0 (Or.inl y) y2 y3, fun y3 => r2 (Or.inl y) y3⟩, fun y2 => r1 (Or.inl y) y2⟩, fun y => ⟨fun y2 => ⟨fun y3 => ⟨fun y4 => r0 (Or.inr y2) y3 y4, fun y4 => r2 (Or.inr y2) y4⟩, fun y3 => r1 (Or.inr y2) y3⟩, fun y2 => r9 y y2⟩⟩
  · intro X2 hX2
    exact bk_F_boundaryInBest_0 (d := d2) hX2 G M2 ⟨by omega, fun y => by omega, fun y => q_stay hh _⟩
