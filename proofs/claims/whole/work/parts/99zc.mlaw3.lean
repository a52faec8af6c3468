/-! pure part: the reference reads an operand -/
theorem srt_iff {b : Nat → Int} {n p : Nat} : (srt (tkK b n p) = 2 ↔ tkK b n p = 2) ∧ (srt (tkK b n p) = 1 ↔ tkK b n p = 1) ∧ (srt (tkK b n p) = 0 ↔ tkK b n p = 0) := by
  rcases tkK_cases (b := b) (n := n) (p := p) with e | e | e | e | ⟨e1, e2, e3⟩
  · rw [e]; decide
  · rw [e]; decide
  · rw [e]; decide
  · rw [e]; decide
  · have k : (tkK b n p = 59 ∨ tkK b n p = 40 ∨ tkK b n p = 41 ∨ tkK b n p = 43 ∨ tkK b n p = 45 ∨ tkK b n p = 42 ∨ tkK b n p = 47 ∨ tkK b n p = 60 ∨ tkK b n p = 61) := of_decide_eq_true e1
    rcases k with w | w | w | w | w | w | w | w | w <;> rw [w] <;> decide
theorem part_open {b : Nat → Int} {n nx p win nots : Nat} {W C : List Int} (hk : tkK b n p = 40) (h0 : nx = 0 → win ≤ 5) : partS b n nx p win (lwN b n p nots) W C = (none, 0, win + 1, 0 :: W, C) ∧ lwN b n p nots = 0 := by
  have e0 : lwN b n p nots = 0 := lwN_0 (by rw [kwN_no (by rw [hk]; decide)]; decide)
  refine ⟨?_, e0⟩
  unfold partS
  rw [if_neg (fun z => z (Or.inr (Or.inr hk))), e0, if_neg (fun z => z.elim (fun w => by have := h0 w.1; omega) (fun w => absurd w.1 (by decide))), if_pos hk]
theorem m_operand {b : Nat → Int} {n base p0 : Nat} {S : LwS} {h : Hp} {x1 : Int} (T : TRk b n h) (hb : p0 ≤ 2 * base + 4) (R : ROk b n base p0 S h) (n3 : S.2.1 ≠ 3) (h0 : S.2.1 = 0 → S.2.2.2.1 ≤ 5) (nz : S.2.2.2.2.1 = 0) (hx : x1 = (if S.2.1 = 2 then 0 else 1)) :
    wp (fX6_operand x1 h) (fun r => ∃ S' : LwS, RcL b n S S' ∧ Same (SRx p0) h r.2 ∧ ((ROk b n base p0 S' r.2 ∧ S'.2.1 = 3) ∨ RBad S' r.2)) := by
  have n7 := T.1
  unfold fX6_operand
  rw [wp_bp]
  have loop : wp (it_ (fun s : Int × Int × Hp => fX6_operand_l4 s.1 s.2.1 s.2.2) FU (x1, 1, h)) (fun hq => ∃ S' : LwS, RcL b n S S' ∧ Same (SRx p0) h hq ∧ ((ROk b n base p0 S' hq ∧ S'.2.1 ≠ 3 ∧ (S'.2.1 = 0 → S'.2.2.2.1 ≤ 5) ∧ (S'.2.1 = 2 ∨ kwN b n S'.2.2.1 ≠ 16) ∧ tkK b n S'.2.2.1 ≠ 40) ∨ RBad S' hq)) := by
    refine wp_for (fun k (s : Int × Int × Hp) => Same (SRx p0) h s.2.2 ∧ ∃ S' : LwS, RcL b n S S' ∧ ((s.2.1 = 1 ∧ ROk b n base p0 S' s.2.2 ∧ S'.2.1 ≠ 3 ∧ (S'.2.1 = 0 → S'.2.2.2.1 ≤ 5) ∧ S'.2.2.2.2.1 = 0 ∧ s.1 = (if S'.2.1 = 2 then 0 else 1) ∧ k ≤ S'.2.2.1) ∨ (s.2.1 = 0 ∧ ROk b n base p0 S' s.2.2 ∧ S'.2.1 ≠ 3 ∧ (S'.2.1 = 0 → S'.2.2.2.1 ≤ 5) ∧ (S'.2.1 = 2 ∨ kwN b n S'.2.2.1 ≠ 16) ∧ tkK b n S'.2.2.1 ≠ 40) ∨ RBad S' s.2.2)) (n + 1) ?_ ?_ (FU_big (by omega)) ⟨Same.rf, S, RcL_0, Or.inl ⟨rfl, R, n3, h0, nz, hx, Nat.zero_le _⟩⟩
    · rintro k ⟨x2, x3, hh⟩ hk ⟨e1, S', e2, e3⟩
      dsimp only at e1 e3 ⊢
      have T1 : TRk b n hh := T.same (fun k => e1 _ _ (by unfold SRx; omega))
      unfold fX6_operand_l4
      rcases e3 with ⟨a1, a2, a3, a4, a5, a6, a7⟩ | ⟨a1, a2, a3, a4, a5, a6⟩ | bad
      · subst a1
        refine w_f (by decide) ?_
        rw [m_isGood a2.1.1, wp_bp, wp_some, if_pos rfl]
        refine w_f (by decide) ?_
        rw [wp_bp]
        refine (m_nots T1 hb a2 a3 a4 a5 a6).mono ?_
        rintro h27 ⟨S2, c1, c2, c3⟩
        have s27 : Same (SRx p0) h h27 := e1.tr c2
        have T27 : TRk b n h27 := T.same (fun k => s27 _ _ (by unfold SRx; omega))
        have rc2 := RcL_tr e2 c1
        -- it moves on
        have mv : S'.2.2.1 ≤ S2.2.2.1 ∧ (S2.2.2.1 ≤ n) := by
          obtain ⟨m, f, hm⟩ := c1
          have go : ∀ j, j ≤ m → S'.2.2.1 ≤ (lawN b n S' j).2.2.1 ∧ (lawN b n S' j).2.2.1 ≤ n := by
            intro j
            induction j with
            | zero => intro _; exact ⟨Nat.le_refl _, a2.2.2.1⟩
            | succ j ih =>
              intro hj
              obtain ⟨i1', i2'⟩ := ih (by omega)
              have ee : (lawN b n S' (j + 1)).2.2.1 = tkE b n (lawN b n S' j).2.2.1 := rfl
              have rr := tk_rg (b := b) i2'
              rw [ee]
              exact ⟨by omega, by omega⟩
          have := go m (Nat.le_refl _)
          rw [f] at this
          exact this
        show wp (fX6_operand_j75 x2 h27) _
        unfold fX6_operand_j75
        rcases c3 with ⟨d1, d2, d3, d4⟩ | bad
        · rw [m_isGood d1.1.1, wp_bp, wp_some, if_pos rfl]
          refine w_f (by decide) ?_
          rw [m_isSign (d1.1.2 rfl) (by decide), wp_bp, wp_some]
          by_cases q40 : tkK b n S2.2.2.1 = 40
          · rw [if_pos q40]
            refine w_f (by decide) ?_
            unfold fX6_operand_j96
            refine w_f (by decide) ?_
            obtain ⟨r1, r2, r3, r4, r5, r6⟩ := d1
            obtain ⟨fl, nx, p, win, nots, W, C⟩ := S2
            have lv := r6
            obtain ⟨l1, l2⟩ := r6
            dsimp only at *
            subst l1
            obtain ⟨ep, el⟩ := part_open (nots := nots) (W := W) (C := C) q40 d3
            have es := step_part (b := b) (n := n) (p := p) (win := win) (nots := nots) (W := W) (C := C) d2
            rw [ep, el] at es
            have rc3 := RcL_s rc2 lv
            have w83 := stW_83 r5.1 (by rw [r5.2.1]; exact r5.2.2.1)
            dsimp only at w83
            have win5 : win ≤ 5 := by
              by_cases y : nx = 0
              · exact d3 y
              · exact r5.2.2.2.1 y
            obtain ⟨ww, qq, k1, k2, k3, k4, k5, k6⟩ := r2.wk r5.1 (by rw [r5.2.1]; exact r5.2.2.1) hb r4 r3 n7
            rw [wp_bd]
            have m14 : moW 0 = 14 := rfl
            rw [← m14]
            refine (m_waits (p0 := p0) (win := win) (C := C) (o := 0) r2.1 r2.2.1 (by clear k1 k2; omega)).mono ?_
            rintro ⟨u, h34⟩ ⟨g1, g2, g3⟩
            dsimp only at g1 g2 g3 ⊢
            have s34 : Same (SRx p0) h h34 := s27.tr (g1.mono (fun a k z => by unfold SRx; clear k1 k2; omega))
            have G34 : RGk b n none p h34 := r1.same (fun k h1 h2 => g1 _ _ (by clear k1 k2; omega))
            rw [wp_bd]
            refine (m_next (T.same (fun k => s34 _ _ (by unfold SRx; omega))) G34 r3).mono ?_
            rintro ⟨u2, h37⟩ ⟨m1, m2⟩
            dsimp only at m1 m2 ⊢
            have s37 : Same (SRx p0) h h37 := s34.tr (S1424_x (SRk_24 m1))
            have T37 : TRk b n h37 := T.same (fun k => s37 _ _ (by unfold SRx; omega))
            have keep : ∀ a k, (a = 35 ∧ (k = 31 ∨ k = 33)) ∨ a = 51 ∨ a = 53 → h37 a k = h27 a k := fun a k z => by
              rw [m1 _ _ (by unfold SRk; clear k1 k2; omega), g1 _ _ (by clear k1 k2; omega)]
            obtain ⟨d1', d2', d3', d4', q, d5', d6'⟩ := r2
            have x33 : h37 35 33 = ((win + 1 : Nat) : Int) := by rw [keep _ _ (by clear k1 k2; omega)]; exact d3'
            have x32 : h37 35 32 = (((0 :: W : List Int).length : Nat) : Int) := by rw [m1 _ _ (by unfold SRk; clear k1 k2 x33; omega)]; exact g2
            have x52 : WAc (h37 52) ((0 :: W : List Int).map moW) := WAc_cg g3 (fun i _ => m1 _ _ (by unfold SRk; clear k1 k2 x33 x32; omega))
            have lv3 : liveL (lawStep b n (none, nx, p, win, nots, W, C)) := by rw [es]; exact ⟨rfl, by simp⟩
            have LI3 := (law_LI (b := b) (n := n) r5 lv).1 lv3
            obtain ⟨z1, z2, z3⟩ := law_sz (b := b) r5 lv r3 r4
            have p1 := z3 lv3
            rw [wp_bd]
            unfold fX6_deeper
            rw [x33]
            by_cases y6 : 6 ≤ win + 1
            · refine w_t (by clear k1 k2 x33 x32; omega) ?_
              have C37 := m2.2 rfl
              rw [C37.2.2.2.2.1]
              have e6 : win = 5 := by clear k1 k2 x33 x32; omega
              -- too deep
              have es2 : lawStep b n (lawStep b n (none, nx, p, win, nots, W, C)) = (if ¬ (tkK b n (tkE b n p) = 2 ∨ tkK b n (tkE b n p) = 1 ∨ tkK b n (tkE b n p) = 40) then (some (1, tkS b n (tkE b n p)), 4, tkE b n (tkE b n p), 6, lwN b n (tkE b n p) 0, 0 :: W, C) else (some (2, tkS b n (tkE b n p)), 4, tkE b n (tkE b n p), 6, lwN b n (tkE b n p) 0, 0 :: W, C)) := by
                rw [es, e6]
                dsimp only
                rw [step_part (by decide)]
                unfold partS
                by_cases y : ¬ (tkK b n (tkE b n p) = 2 ∨ tkK b n (tkE b n p) = 1 ∨ tkK b n (tkE b n p) = 40)
                · rw [if_pos y, if_pos y]
                · rw [if_neg y, if_neg y, if_pos (Or.inl ⟨rfl, by decide⟩)]
              have rc4 := RcL_s rc3 lv3
              have wk37 : WKr h37 := ⟨W.length + 1, qq, x32, by rw [keep _ _ (by clear k1 k2 x33 x32; omega)]; exact k2, by clear k1 k2 x33 x32; omega, by clear k1 k2 x33 x32; omega⟩
              have fin : ∀ kd : Int, kd ≠ 0 → (lawStep b n (lawStep b n (none, nx, p, win, nots, W, C))).1 = some (kd, tkS b n (tkE b n p)) → wp (fX6_deeper_j61 kd h37) (fun r => wp (some (Sum.inl ((1 : Int), (1 : Int), r.2)) : Option ((Int × Int × Hp) ⊕ Hp)) (E2 (fun s : Int × Int × Hp => Same (SRx p0) h s.2.2 ∧ ∃ S' : LwS, RcL b n S S' ∧ ((s.2.1 = 1 ∧ ROk b n base p0 S' s.2.2 ∧ S'.2.1 ≠ 3 ∧ (S'.2.1 = 0 → S'.2.2.2.1 ≤ 5) ∧ S'.2.2.2.2.1 = 0 ∧ s.1 = (if S'.2.1 = 2 then 0 else 1) ∧ k + 1 ≤ S'.2.2.1) ∨ (s.2.1 = 0 ∧ ROk b n base p0 S' s.2.2 ∧ S'.2.1 ≠ 3 ∧ (S'.2.1 = 0 → S'.2.2.2.1 ≤ 5) ∧ (S'.2.1 = 2 ∨ kwN b n S'.2.2.1 ≠ 16) ∧ tkK b n S'.2.2.1 ≠ 40) ∨ RBad S' s.2.2)) (fun hq => ∃ S' : LwS, RcL b n S S' ∧ Same (SRx p0) h hq ∧ ((ROk b n base p0 S' hq ∧ S'.2.1 ≠ 3 ∧ (S'.2.1 = 0 → S'.2.2.2.1 ≤ 5) ∧ (S'.2.1 = 2 ∨ kwN b n S'.2.2.1 ≠ 16) ∧ tkK b n S'.2.2.1 ≠ 40) ∨ RBad S' hq)))) := by
                intro kd hkd ekd
                unfold fX6_deeper_j61
                rw [wp_bd]
                refine (m_wrong m2.1 (fun _ => C37.2.2.1) hkd).mono ?_
                rintro ⟨u3, h5⟩ ⟨o1, o2⟩
                dsimp only at o1 o2 ⊢
                rw [wp_some, wp_some]
                refine ⟨s37.tr (S1424_x (S45_24 o1)), _, rc4, Or.inr (Or.inr ⟨by rw [ekd]; simp, by rw [ekd]; exact o2, wk37.same (o1 _ _ (by unfold S45; omega)) (o1 _ _ (by unfold S45; omega))⟩)⟩
              by_cases t2 : tkK b n (tkE b n p) = 2
              · rw [if_neg (fun z => z (Or.inl t2))] at es2
                refine w_t (by rw [t2]; rfl) ?_
                unfold fX6_deeper_j56
                exact fin 2 (by decide) (by rw [es2])
              · refine w_f (fun z => t2 (srt_iff.1.mp z)) ?_
                by_cases t1 : tkK b n (tkE b n p) = 1
                · rw [if_neg (fun z => z (Or.inr (Or.inl t1)))] at es2
                  refine w_t (by rw [t1]; rfl) ?_
                  unfold fX6_deeper_j56
                  exact fin 2 (by decide) (by rw [es2])
                · refine w_f (fun z => t1 (srt_iff.2.1.mp z)) ?_
                  rw [m_isSign C37 (by decide), wp_bp, wp_some]
                  by_cases t40 : tkK b n (tkE b n p) = 40
                  · rw [if_neg (fun z => z (Or.inr (Or.inr t40)))] at es2
                    rw [if_pos t40]
                    refine w_f (by decide) ?_
                    unfold fX6_deeper_j56
                    exact fin 2 (by decide) (by rw [es2])
                  · rw [if_pos (fun z => z.elim t2 (fun w => w.elim t1 t40))] at es2
                    rw [if_neg t40]
                    exact w_t rfl (fin 1 (by decide) (by rw [es2]))
            · refine w_f (by clear k1 k2 x33 x32; omega) ?_
              rw [i1 (by clear k1 k2 x33 x32; omega), wp_lb]
              have y33 : st h37 35 33 ((win + 1 + 1 : Nat) : Int) 35 33 = ((win + 2 : Nat) : Int) := st_self
              rw [gd_y (by rw [y33]; clear k1 k2 x33 x32 y33; omega), y33, Int.toNat_natCast, wp_lb, wp_some, wp_some, E2_l]
              dsimp only
              generalize hE : st (st h37 35 33 ((win + 1 + 1 : Nat) : Int)) 53 (win + 2) 0 = h40
              have kE : ∀ a k, ¬ (a = 35 ∧ k = 33) → ¬ (a = 53 ∧ k = win + 2) → h40 a k = h37 a k := fun a k w1 w2 => by
                rw [← hE]
                show (if a = 53 ∧ k = win + 2 then _ else if a = 35 ∧ k = 33 then _ else h37 a k) = _
                rw [if_neg w2, if_neg w1]
              have s40 : Same (SRx p0) h h40 := s37.tr (fun a k z => kE a k (fun w => z (Or.inl ⟨w.1, Or.inr (Or.inr ⟨by clear k1 k2 x33 x32 y33; omega, by clear k1 k2 x33 x32 y33; omega⟩)⟩)) (fun w => z (Or.inr (Or.inr (Or.inr w.1)))))
              have D40 : RLw p0 (win + 1) (0 :: W) C h40 := by
                refine ⟨by rw [kE _ _ (by clear k1 k2 x33 x32 y33; omega) (by clear k1 k2 x33 x32 y33; omega)]; exact x32, WAc_cg x52 (fun i _ => kE _ _ (by clear k1 k2 x33 x32 y33; omega) (by clear k1 k2 x33 x32 y33; omega)), by rw [← hE, st_na (by decide)]; exact st_self, ⟨?_, ?_⟩, q, ?_, ?_⟩
                · rw [← hE]; exact st_self
                · show FGr (h40 53) win W
                  exact FGr_loc d4' (fun k hk => by rw [kE _ _ (by clear k1 k2 x33 x32 y33; omega) (by clear k1 k2 x33 x32 y33; omega), keep _ _ (by clear k1 k2 x33 x32 y33; omega)])
                · rw [kE _ _ (by clear k1 k2 x33 x32 y33; omega) (by clear k1 k2 x33 x32 y33; omega), keep _ _ (by clear k1 k2 x33 x32 y33; omega)]; exact d5'
                · exact MPc_loc _ _ _ d6' (fun k _ _ => by rw [kE _ _ (by clear k1 k2 x33 x32 y33; omega) (by clear k1 k2 x33 x32 y33; omega), keep _ _ (by clear k1 k2 x33 x32 y33; omega)])
              have G40 : RGk b n none (tkE b n p) h40 := m2.same (fun k h1 h2 => kE _ _ (by clear k1 k2 x33 x32 y33; omega) (by clear k1 k2 x33 x32 y33; omega))
              refine ⟨s40, lawStep b n (none, nx, p, win, nots, W, C), rc3, Or.inl ⟨rfl, ROk_step ⟨r1, ⟨d1', d2', d3', d4', q, d5', d6'⟩, r3, r4, r5, lv⟩ lv3 G40 (by rw [es]; exact D40), by rw [es]; simp, fun _ => ?_, by rw [es], by rw [es]; rfl, ?_⟩⟩
              · rw [es]
                show win + 1 ≤ 5
                clear k1 k2 x33 x32 y33
                omega
              · clear k1 k2 x33 x32 y33
                have p1' : p + 1 ≤ (lawStep b n (none, nx, p, win, nots, W, C)).2.2.1 := p1
                omega
          · rw [if_neg q40]
            refine w_t rfl ?_
            unfold fX6_operand_j95 fX6_operand_j96
            exact w_t rfl (wp_some.mpr ⟨s27, S2, rc2, Or.inr (Or.inl ⟨rfl, d1, d2, d3, d4, q40⟩)⟩)
        · rw [m_isGood bad.2.1, wp_bp, wp_some, if_neg bad.1]
          refine w_t rfl ?_
          unfold fX6_operand_j95 fX6_operand_j96
          exact w_t rfl (wp_some.mpr ⟨s27, S2, rc2, Or.inr (Or.inr bad)⟩)
      · exact w_t a1 (wp_some.mpr ⟨S', e2, e1, Or.inl ⟨a2, a3, a4, a5, a6⟩⟩)
      · by_cases q : x3 = 0
        · exact w_t q (wp_some.mpr ⟨S', e2, e1, Or.inr bad⟩)
        · refine w_f q ?_
          rw [m_isGood bad.2.1, wp_bp, wp_some, if_neg bad.1]
          exact w_t rfl (wp_some.mpr ⟨S', e2, e1, Or.inr bad⟩)
    · rintro ⟨x2, x3, hh⟩ ⟨e1, S', e2, e3⟩
      dsimp only at e1 e3 ⊢
      unfold fX6_operand_l4
      rcases e3 with ⟨a1, a2, a3, a4, a5, a6, a7⟩ | ⟨a1, a2, a3, a4, a5, a6⟩ | bad
      · exfalso
        have := a2.2.2.1
        omega
      · exact w_t a1 (wp_some.mpr ⟨S', e2, e1, Or.inl ⟨a2, a3, a4, a5, a6⟩⟩)
      · by_cases q : x3 = 0
        · exact w_t q (wp_some.mpr ⟨S', e2, e1, Or.inr bad⟩)
        · refine w_f q ?_
          rw [m_isGood bad.2.1, wp_bp, wp_some, if_neg bad.1]
          exact w_t rfl (wp_some.mpr ⟨S', e2, e1, Or.inr bad⟩)
  refine loop.mono ?_
  rintro h45 ⟨S', e1, e2, e3⟩
  unfold fX6_operand_j120
  rw [wp_bd]
  have T45 : TRk b n h45 := T.same (fun k => e2 _ _ (by unfold SRx; omega))
  rcases e3 with ⟨a1, a2, a3, a4, a5⟩ | bad
  · refine (m_partR T45 hb a1 a2 a3 a4 a5).mono ?_
    rintro ⟨u, h48⟩ ⟨c1, c2⟩
    dsimp only at c1 c2 ⊢
    exact wp_some.mpr ⟨_, RcL_s e1 a1.2.2.2.2.2, e2.tr c1, c2⟩
  · unfold fX6_part
    rw [m_isGood bad.2.1, wp_bp, wp_some, if_neg bad.1]
    exact w_t rfl (wp_some.mpr (wp_some.mpr ⟨S', e1, e2, Or.inr bad⟩))
