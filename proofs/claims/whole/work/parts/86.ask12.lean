/-! pure part: hollow -/
theorem txV_eq {D : LD} {ht sd : Nat → Int} {yr : Int} {fog c : Nat} {law : Int} : txV D ht sd yr fog c 0 0 0 law = (if law < 0 then (lkS D.w D.d sd fog c (i_add (i_add (ht c) 2) 0) (shB 0 0) 8).1 else clmp ((evC (vals D (lkS D.w D.d sd fog c (i_add (i_add (ht c) 2) 0) (shB 0 0) 8) (ht c) 0 yr 0) (D.cd law.toNat) []).headD 0)) := rfl
theorem lkS_s {w d : Nat} {sd : Nat → Int} {fog c n : Nat} {eye : Int} {shut : Nat → Bool} (h : shut n = false) : lkS w d sd fog c eye shut (n + 1) = (i_add (lkS w d sd fog c eye shut n).1 (lkD w d sd fog c eye n (lkS w d sd fog c eye shut n).2.2).1, if (lkS w d sd fog c eye shut n).2.1 < (lkD w d sd fog c eye n (lkS w d sd fog c eye shut n).2.2).1 then (lkD w d sd fog c eye n (lkS w d sd fog c eye shut n).2.2).1 else (lkS w d sd fog c eye shut n).2.1, (lkD w d sd fog c eye n (lkS w d sd fog c eye shut n).2.2).2) := by
  simp only [lkS, h, Bool.false_eq_true, if_false]
theorem m_villaIn {D : LD} {ht sd ro : Nat → Int} {fog c : Nat} {h : Hp} (W : DW D) (H : MS D ht sd ro fog h) (hc : c < D.cl) (hl : -1 ≤ ro 60 ∧ ro 60 < (D.nl : Int)) :
    wp (fX6_villaIn (c : Int) h) (fun r => r.1 = txV D ht sd (ro 61) fog c 0 0 0 (ro 60) ∧ Same SM h r.2) := by
  have hn6 := W.2.2.1
  have hl4 := W.2.2.2.1
  have hc64 : D.cl ≤ 64 := cl64 W.1.2 W.2.1.2
  have gc : (0 : Int) ≤ (c : Int) ∧ (c : Int) < 64 := ⟨by omega, by omega⟩
  have e0 : i_add (i_add (ht c) 2) 0 = i_add (ht c) 2 := iadd0 (in_add _ _)
  have sh : ∀ n, shB 0 0 n = false := fun n => by unfold shB; rw [bt_0]; rfl
  rw [txV_eq, e0]
  generalize hG : lkS D.w D.d sd fog c (i_add (ht c) 2) (shB 0 0) = G
  have G0 : G 0 = (0, 0, 0) := by rw [← hG]; rfl
  have Gs : ∀ k, G (k + 1) = (i_add (G k).1 (lkD D.w D.d sd fog c (i_add (ht c) 2) k (G k).2.2).1, if (G k).2.1 < (lkD D.w D.d sd fog c (i_add (ht c) 2) k (G k).2.2).1 then (lkD D.w D.d sd fog c (i_add (ht c) 2) k (G k).2.2).1 else (G k).2.1, (lkD D.w D.d sd fog c (i_add (ht c) 2) k (G k).2.2).2) := fun k => by
    rw [← hG]
    exact lkS_s (sh k)
  unfold fX6_villaIn
  rw [wp_lb, wp_bp]
  refine (wp_for (Q := fun r : Int × Int × Hp => r.1 = (G 8).1 ∧ r.2.1 = (G 8).2.1 ∧ r.2.2 35 54 = (G 8).2.2 ∧ Same S54 h r.2.2) (fun k (s : Int × Int × Int × Hp) => s.1 = (G k).1 ∧ s.2.1 = (G k).2.1 ∧ s.2.2.1 = (k : Int) ∧ s.2.2.2 35 54 = (G k).2.2 ∧ Same S54 h s.2.2.2) 8 ?_ ?_ (FU_big (by decide)) ⟨by rw [G0], by rw [G0], rfl, by rw [G0]; exact (st_self (h := h) (a := 35) (k := 54) (v := 0)), st_same ⟨rfl, rfl⟩⟩).mono ?_
  · rintro k ⟨t, m, x, hh⟩ hk ⟨f1, f2, f3, f4, f5⟩
    dsimp only at f1 f2 f3 f4 f5 ⊢
    subst f1 f2 f3
    have H' := H.same (f5.mono (fun a k p => Or.inl ⟨p.1, by have := p.2; omega, by have := p.2; omega⟩))
    have k1 : i_add (k : Int) 1 = ((k + 1 : Nat) : Int) := i1 (by omega)
    unfold fX6_villaIn_l12
    rw [k1, Int.toNat_natCast, H'.2.1 c hc]
    refine w_f (by clear k1; omega) ?_
    rw [gd_y gc, m_fogNow W H', wp_bp, wp_some, wp_bd]
    refine (m_looks W.1 W.2.1 H'.1.1 H'.1.2.1 H'.2.2.2.2.2.1 hc H'.2.2.1 hk).mono ?_
    rintro ⟨r, h8⟩ ⟨r1, r2, r3⟩
    dsimp only at r1 r2 r3 ⊢
    rw [f4] at r1 r2
    subst r1
    rw [wp_lb]
    by_cases q : (lkD D.w D.d sd fog c (i_add (ht c) 2) k (G k).2.2).1 ≤ (G k).2.1
    · refine w_t q (wp_some.mpr ⟨by rw [Gs], ?_, rfl, by rw [Gs]; exact r2, f5.tr r3⟩)
      show (G k).2.1 = (G (k + 1)).2.1
      rw [Gs]
      exact (if_neg (Int.not_lt.mpr q)).symm
    · refine w_f q (wp_some.mpr ⟨by rw [Gs], ?_, rfl, by rw [Gs]; exact r2, f5.tr r3⟩)
      show _ = (G (k + 1)).2.1
      rw [Gs]
      exact (if_pos (Int.not_le.mp q)).symm
  · rintro ⟨t, m, x, hh⟩ ⟨f1, f2, f3, f4, f5⟩
    dsimp only at f1 f2 f3 f4 f5 ⊢
    subst f3
    unfold fX6_villaIn_l12
    exact w_t (by decide) (wp_some.mpr ⟨f1, f2, f4, f5⟩)
  · rintro ⟨t, m, h3⟩ ⟨f1, f2, c3, f5⟩
    dsimp only at f1 f2 c3 f5 ⊢
    subst f1 f2
    have cs' : Same SM h h3 := f5.mono (fun a k p => Or.inl ⟨p.1, by have := p.2; omega, by have := p.2; omega⟩)
    have H3 := H.same cs'
    obtain ⟨a1, a2, a3, a4, a5, a6, a7⟩ := H3
    have g60 : h3 54 (Int.toNat 60) = ro 60 := a4.2.2.2.1
    generalize hla : ro 60 = law at *
    rw [gd_y (by decide), g60]
    by_cases q : law = -1
    · rw [if_pos q, wp_some]
      exact ⟨by rw [if_pos (by omega)], cs'⟩
    rw [if_neg q]
    obtain ⟨l, rfl⟩ : ∃ l : Nat, law = (l : Int) := ⟨law.toNat, by omega⟩
    obtain ⟨p, g1, g2⟩ := a1.2.2.2.2.2.2.2.2 l (by omega)
    obtain ⟨n, e1, e2⟩ := fb_lt (p := fun i' => bt (G 8).2.2 (D.hc i')) W.2.2.1
    have hsn : seeH D (G 8).2.2 = (n : Int) := e1
    have hs : ∀ hq : Hp, Same S58 h3 hq → fX6_housesSeen (-1) hq = some (n : Int) := fun hq s => by
      rw [m_housesSeen W (a1.same (fun a k p => s a k (by unfold S58; omega))), s _ _ (by unfold S58; omega), c3, ← hsn]
      refine congrArg some (fb_congr _ (fun i hi => ?_))
      rw [decide_eq_true (show (i : Int) ≠ -1 by omega), Bool.true_and]
    have bl : l < 4 := by omega
    have hlt : l < D.nl := by omega
    have g61 := a4.2.2.2.2
    have ght := a2 _ hc
    clear a1 a2 a3 a4 a5 a6 a7 H hn6 hl4 hl q e1 hc64 e0 sh hG G0 Gs
    simp only [wp_gd, wp_lb, wp_bp, wp_bd, Int.toNat_natCast, rd58 (show (36 : Nat) ≠ 58 by decide), rd58 (show (54 : Nat) ≠ 58 by decide), rd58 (show (40 : Nat) ≠ 58 by decide), ght, g60, g1, show h3 54 (Int.toNat 61) = ro 61 from g61]
    refine ⟨by decide, by decide, ⟨by omega, by omega⟩, by decide, by decide, by decide, by decide, ?_⟩
    rw [hs, wp_some, m_bits e2, wp_some]
    case a => exact s58 (s58 (s58 (s58 (s58 Same.rf))))
    refine ⟨by decide, by decide, by decide, ⟨by omega, by omega⟩, ?_⟩
    generalize hh7 : st (st (st (st (st (st (st h3 58 (Int.toNat 0) (G 8).1) 58 (Int.toNat 1) (G 8).2.1) 58 (Int.toNat 2) (ht c)) 58 (Int.toNat 3) 0) 58 (Int.toNat 4) (ro 61)) 58 (Int.toNat 5) (cntB ↑n)) 58 (Int.toNat 6) 0 = h7
    have s7 : Same S58 h3 h7 := by
      rw [← hh7]
      exact s58 (s58 (s58 (s58 (s58 (s58 (s58 Same.rf))))))
    have v7 : ∀ j, j < 7 → h7 58 j = vals D (G 8) (ht c) 0 (ro 61) 0 j := by
      intro j hj
      rw [← hh7]
      have : j = 0 ∨ j = 1 ∨ j = 2 ∨ j = 3 ∨ j = 4 ∨ j = 5 ∨ j = 6 := by omega
      rcases this with rfl | rfl | rfl | rfl | rfl | rfl | rfl
      · simp [st_at, vals]
      · simp [st_at, vals]
      · simp [st_at, vals]
      · simp [st_at, vals]
      · simp [st_at, vals]
      · simp [st_at, vals, hsn]
      · simp [st_at, vals]
    have g2' : MC (h7 41) p (D.cd l) := by rw [show h7 41 = h3 41 from funext (fun k => s7 _ _ (by unfold S58; omega))]; exact g2
    refine (m_reckons g2' (W.2.2.2.2.2.2.2.2 l hlt) v7).mono ?_
    rintro ⟨r, h8⟩ ⟨r1, r2⟩
    dsimp only at r1 r2 ⊢
    have sf : Same SM h h8 := (cs'.tr (s7.mono (fun a k p => Or.inr (Or.inl p)))).tr (r2.mono (fun a k p => Or.inr (Or.inr p)))
    rw [if_neg (show ¬ ((l : Int) < 0) by omega), ← r1]
    unfold clmp
    simp only [wp_ite, wp_some]
    refine ⟨fun q1 => ⟨fun q2 => ⟨?_, sf⟩, fun q2 => ⟨?_, sf⟩⟩, fun q1 => ⟨?_, sf⟩⟩
    · rw [if_neg (by omega), if_neg (by omega)]
    · rw [if_neg (by omega), if_pos (by omega)]
    · rw [if_pos (by omega)]
theorem c_freeCells {D : LD} {ht sd ro : Nat → Int} {fog L : Nat} {h : Hp} (W : DW D) (H : CS D ht sd ro fog L h) : wp (fX3_freeCells h) (fun v => ∀ c, c < D.cl → bt v c = bare D ro (c : Int)) := by
  have hc64 : D.cl ≤ 64 := cl64 W.1.2 W.2.1.2
  have hL := H.1
  have hr := H.row
  unfold fX3_freeCells
  rw [wp_bp]
  refine (wp_for (Q := fun v : Int => ∀ c, c < D.cl → bt v c = bare D ro (c : Int)) (fun k (s : Int × Int) => s.2 = (k : Int) ∧ ∀ c, c < 64 → bt s.1 c = (decide (c < k) && bare D ro (c : Int))) D.cl ?_ ?_ (FU_big (by omega)) ⟨rfl, fun c _ => by rw [bt_0]; simp⟩).mono ?_
  · rintro k ⟨v, x⟩ hk ⟨f1, f2⟩
    dsimp only at f1 f2 ⊢
    subst f1
    have k1 : i_add (k : Int) 1 = ((k + 1 : Nat) : Int) := i1 (by omega)
    have tt : tIn (h 21) (k : Int) = tIn ro (k : Int) := tIn_rr hr
    have stay : bare D ro (k : Int) = false → ∀ c, c < 64 → bt v c = (decide (c < k + 1) && bare D ro (c : Int)) := fun z c hc => by
      rw [f2 c hc]
      by_cases e : c = k
      · subst e; rw [z, Bool.and_false, Bool.and_false]
      · by_cases e2 : c < k
        · rw [decide_eq_true e2, decide_eq_true (show c < k + 1 by clear k1 tt; omega)]
        · rw [decide_eq_false e2, decide_eq_false (show ¬ c < k + 1 by clear k1 tt; omega)]
    unfold fX3_freeCells_l4
    rw [k1, gd_y (by rw [H.2.1]; clear k1 tt; omega), H.2.1, c_cells W hL H.2.2.1, wp_bp, wp_some]
    refine w_f (by clear k1 tt; omega) ?_
    rw [c_treeIn_21, wp_bp, wp_some, tt]
    by_cases q : tIn ro (k : Int) = -1
    · refine w_t q ?_
      rw [c_houseIn W hL H.2.2.1, wp_bp, wp_some]
      by_cases q2 : hIn D (k : Int) = -1
      · refine w_t q2 ?_
        rw [wp_lb, wp_some]
        refine ⟨rfl, fun c hc => ?_⟩
        show bt (l_or v (l_shl 1 (k : Int))) c = _
        rw [bt_lor, f2 c hc, bt_l1 (by clear k1 tt; omega)]
        by_cases e : c = k
        · subst e
          rw [decide_eq_true rfl, Bool.or_true, decide_eq_true (Nat.lt_succ_self c)]
          unfold bare
          rw [decide_eq_true q, decide_eq_true q2]; rfl
        · rw [decide_eq_false (show ¬ (k = c) from fun z => e z.symm), Bool.or_false]
          by_cases e2 : c < k
          · rw [decide_eq_true e2, decide_eq_true (show c < k + 1 by clear k1 tt; omega)]
          · rw [decide_eq_false e2, decide_eq_false (show ¬ c < k + 1 by clear k1 tt; omega)]
      · exact w_f q2 (wp_some.mpr ⟨rfl, stay (by unfold bare; rw [decide_eq_false q2, Bool.and_false])⟩)
    · exact w_f q (wp_some.mpr ⟨rfl, stay (by unfold bare; rw [decide_eq_false q, Bool.false_and])⟩)
  · rintro ⟨v, x⟩ ⟨f1, f2⟩
    dsimp only at f1 f2 ⊢
    subst f1
    unfold fX3_freeCells_l4
    rw [gd_y (by rw [H.2.1]; omega), H.2.1, c_cells W hL H.2.2.1, wp_bp, wp_some]
    refine w_t (Int.le_refl _) (wp_some.mpr (fun c hc => ?_))
    rw [f2 c (by omega), decide_eq_true hc, Bool.true_and]
  · intro v hv
    rw [wp_some]
    exact hv
