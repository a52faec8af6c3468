/-! pure part: the reference reads a law -/
theorem m_expr {b : Nat → Int} {n base p0 p1 : Nat} {h : Hp} (T : TRk b n h) (hb : p0 ≤ 2 * base + 4) (G : RGk b n none p1 h) (h31 : h 35 31 = (p0 : Int)) (hbp : base ≤ p1) (hp : p1 ≤ n) :
    wp (fX6_expression h) (fun r => (Same (SRx p0) h r.2 ∧ ∃ (p nots q : Nat) (W C : List Int), RcL b n (none, 0, p1, 0, 0, [], []) (none, 3, p, 0, nots, W, C) ∧ stkL b n (none, 3, p, 0, nots, W, C) ∧ LIw (none, 3, p, 0, nots, W, C) ∧ p ≤ n ∧ base + C.length + W.length ≤ p ∧ RGk b n none p r.2 ∧ r.2 35 31 = ((q + 1 : Nat) : Int) ∧ MPc (r.2 51) p0 (stl 1 W C).2 q ∧ r.2 51 q = 0) ∨ (Same SRr h r.2 ∧ ∃ S : LwS, OutL b n (none, 0, p1, 0, 0, [], []) S ∧ S.1 ≠ none ∧ FLr S.1 r.2)) := by
  have n7 := T.1
  unfold fX6_expression
  rw [m_isGood G.1, wp_bp, wp_some, if_pos rfl]
  refine w_f (by decide) ?_
  rw [wp_lb, wp_lb, wp_bd]
  have x33 : st (st h 35 32 0) 35 33 0 35 33 = 0 := st_self
  unfold fX6_deeper
  rw [x33]
  refine w_f (by decide) ?_
  have y33 : st (st (st h 35 32 0) 35 33 0) 35 33 (i_add 0 1) 35 33 = ((1 : Nat) : Int) := st_self
  rw [wp_lb, gd_y (by rw [y33]; decide), y33, Int.toNat_natCast, wp_lb, wp_some, wp_bd]
  generalize hE : st (st (st (st h 35 32 0) 35 33 0) 35 33 (i_add 0 1)) 53 1 0 = h8
  have kE : ∀ a k, ¬ (a = 35 ∧ (k = 32 ∨ k = 33)) → ¬ (a = 53 ∧ k = 1) → h8 a k = h a k := fun a k w1 w2 => by
    rw [← hE]
    show (if a = 53 ∧ k = 1 then _ else if a = 35 ∧ k = 33 then _ else if a = 35 ∧ k = 33 then _ else if a = 35 ∧ k = 32 then _ else h a k) = _
    rw [if_neg w2, if_neg (fun z => w1 ⟨z.1, Or.inr z.2⟩), if_neg (fun z => w1 ⟨z.1, Or.inr z.2⟩), if_neg (fun z => w1 ⟨z.1, Or.inl z.2⟩)]
  have s8 : Same (SRx p0) h h8 := fun a k z => kE a k (fun w => z (Or.inl ⟨w.1, Or.inr (Or.inr ⟨by omega, by omega⟩)⟩)) (fun w => z (Or.inr (Or.inr (Or.inr w.1))))
  have D8 : RLw p0 0 [] [] h8 := ⟨by rw [← hE, st_na (by decide), st_nk (by decide), st_nk (by decide)]; exact st_self, trivial, by rw [← hE, st_na (by decide)]; exact st_self, by show h8 53 1 = 0; rw [← hE]; exact st_self, p0, by rw [kE _ _ (by omega) (by omega)]; exact h31, rfl⟩
  have G8 : RGk b n none p1 h8 := G.same (fun k h1 h2 => kE _ _ (by omega) (by omega))
  clear hE
  have LI0 : LIw (none, 0, p1, 0, 0, [], []) := ⟨trivial, rfl, Nat.zero_le _, fun z => absurd rfl z, fun _ => rfl, fun z => absurd z (by simp), fun z => absurd z (by simp), fun _ => rfl, fun z => absurd z (by simp), rfl, by simp⟩
  have R8 : ROk b n base p0 (none, 0, p1, 0, 0, [], []) h8 := ⟨G8, D8, hp, hbp, LI0, rfl, by simp⟩
  have T8 : TRk b n h8 := T.same (fun k => s8 _ _ (by unfold SRx; omega))
  refine (m_operand T8 hb R8 (by simp) (fun _ => Nat.zero_le _) rfl rfl).mono ?_
  rintro ⟨u, h11⟩ ⟨S1, c1, c2, c3⟩
  dsimp only at c2 c3 ⊢
  have s11 := s8.tr c2
  rw [wp_bp]
  have loop : wp (it_ (fun s : Int × Hp => fX6_expression_l29 s.1 s.2) FU (1, h11)) (QEx b n base p0 (none, 0, p1, 0, 0, [], []) h) := by
    refine wp_for (fun k s => PEx b n base p0 (none, 0, p1, 0, 0, [], []) h k s) (n + 1) ?_ ?_ (FU_big (by omega)) ⟨s11, S1, c1, ?_⟩
    · rintro k ⟨x, hh⟩ hk ⟨e1, S', e2, e3⟩
      dsimp only at e1 e3 ⊢
      rcases e3 with ⟨a1, a2, a3, a4⟩ | ⟨a1, a2, a3, a4⟩ | bad
      · subst a1
        obtain ⟨fl, nx, p, win, nots, W, C⟩ := S'
        have l := a2.2.2.2.2.2.1
        dsimp only at l a3 a4
        subst l
        subst a3
        exact m_exb T hb e2 a2 e1 a4
      · unfold fX6_expression_l29
        exact w_t a1 (wp_some.mpr ⟨e1, S', e2, Or.inl ⟨a2, a3, a4⟩⟩)
      · unfold fX6_expression_l29
        by_cases q : x = 0
        · exact w_t q (wp_some.mpr ⟨e1, S', e2, Or.inr bad⟩)
        · refine w_f q ?_
          rw [m_isGood bad.2.1, wp_bp, wp_some, if_neg bad.1]
          exact w_t rfl (wp_some.mpr ⟨e1, S', e2, Or.inr bad⟩)
    · rintro ⟨x, hh⟩ ⟨e1, S', e2, e3⟩
      dsimp only at e1 e3 ⊢
      unfold fX6_expression_l29
      rcases e3 with ⟨a1, a2, a3, a4⟩ | ⟨a1, a2, a3, a4⟩ | bad
      · exfalso
        have := a2.2.2.1
        omega
      · exact w_t a1 (wp_some.mpr ⟨e1, S', e2, Or.inl ⟨a2, a3, a4⟩⟩)
      · by_cases q : x = 0
        · exact w_t q (wp_some.mpr ⟨e1, S', e2, Or.inr bad⟩)
        · refine w_f q ?_
          rw [m_isGood bad.2.1, wp_bp, wp_some, if_neg bad.1]
          exact w_t rfl (wp_some.mpr ⟨e1, S', e2, Or.inr bad⟩)
    · rcases c3 with ⟨c4, c5⟩ | c4
      · exact Or.inl ⟨rfl, c4, c5, Nat.zero_le _⟩
      · exact Or.inr (Or.inr c4)
  refine loop.mono ?_
  rintro h113 ⟨e1, S', e2, e3⟩
  have xr : ∀ {q : Nat} {h1 h2 : Hp}, Same (SRx q) h1 h2 → Same SRr h1 h2 := fun s => s.mono (fun a k z => by unfold SRx at z; unfold SRr; omega)
  -- behind a flaw
  have badEnd : ∀ (S : LwS) (hz : Hp), Same SRr h hz → OutL b n (none, 0, p1, 0, 0, [], []) S → S.1 ≠ none → FLr S.1 hz → WKr hz → wp (fX6_expression_j345 hz) (fun r => Same SRr h r.2 ∧ ∃ S : LwS, OutL b n (none, 0, p1, 0, 0, [], []) S ∧ S.1 ≠ none ∧ FLr S.1 r.2) := by
    intro S hz z1 z2 z3 z4 z5
    unfold fX6_expression_j345
    rw [wp_bd]
    refine (m_dropsW z5).mono ?_
    rintro ⟨u, h119⟩ ⟨g1, w, q, g2, g3, g4, g5⟩
    dsimp only at g1 g2 g3 ⊢
    rw [m_puts g3 (by clear g2 g3; omega), wp_bd, wp_some, wp_some]
    dsimp only
    refine ⟨((z1.tr (g1.mono (fun a k z => by unfold SRp at z; unfold SRr; clear g2 g3; omega))).st (Or.inr ⟨by decide, by decide⟩)).st (Or.inl ⟨rfl, by decide, by decide⟩), S, z2, z3, z4.same ?_ ?_⟩
    · rw [st_nk (by decide), st_na (by decide), g1 _ _ (by unfold SRp; clear g2 g3; omega)]
    · rw [st_nk (by decide), st_na (by decide), g1 _ _ (by unfold SRp; clear g2 g3; omega)]
  show wp (fX6_expression_j325 h113) _
  unfold fX6_expression_j325
  rcases e3 with ⟨a1, a2, a3⟩ | bad
  · obtain ⟨fl, nx, p, win, nots, W, C⟩ := S'
    have a1' := a1
    obtain ⟨r1, r2, r3, r4, r5, r6⟩ := a1
    have l := r6.1
    dsimp only at l a2 r1 r2 r3 r4
    subst l
    subst a2
    obtain ⟨ww, qq, k1, k2, k3, k4, k5, k6⟩ := r2.wk r5.1 (by rw [r5.2.1]; exact r5.2.2.1) hb r4 r3 n7
    have ql := MPc_le _ _ _ k6
    rw [m_isGood r1.1, wp_bp, wp_some, if_pos rfl, r2.2.2.1]
    refine w_f (by decide) ?_
    by_cases w0 : win = 0
    · subst w0
      refine w_t (by decide) ?_
      unfold fX6_expression_j345
      rw [wp_bd]
      refine (m_drops (r := 0) r2 (stW_all r5.1) (by decide) (by clear k1 k2; omega) (by clear k1 k2; omega)).mono ?_
      rintro ⟨u, h119⟩ ⟨g1, g2, g3, q, g4, g5⟩
      rw [if_pos rfl] at g2 g3 g5
      dsimp only at g1 g2 g3 g4 g5 ⊢
      have wf := r5.2.2.2.2.2.2.2.2.2.1
      dsimp only at wf
      rw [if_pos rfl] at wf
      obtain ⟨d1, d2, d3, d4, d5, d6⟩ := stl_ok (r := 1) (by decide) W C r5.1 wf
      have ql2 := MPc_le _ _ _ g5
      rw [m_puts g4 (by clear k1 k2 g2 g4; omega), wp_bd, wp_some, wp_some]
      dsimp only
      refine Or.inl ⟨((e1.tr (g1.mono (fun a k z => by unfold SRp at z; unfold SRx; clear k1 k2 g2 g4; omega))).st (Or.inr (Or.inl ⟨rfl, ql2.1⟩))).st (Or.inl ⟨rfl, Or.inr (Or.inr ⟨by decide, by decide⟩)⟩), p, nots, q, W, C, e2, a3, r5, r3, r4, ?_, st_self, ?_, ?_⟩
      · exact r1.same (fun k h1 h2 => by rw [st_nk (by clear k1 k2 g2 g4; omega), st_na (by decide), g1 _ _ (by unfold SRp; clear k1 k2 g2 g4; omega)])
      · exact MPc_loc _ _ _ g5 (fun k h1 h2 => by rw [st_na (by decide), st_nk (Nat.ne_of_lt h2)])
      · rw [st_na (by decide)]; exact st_self
    · refine w_f (by clear k1 k2; omega) ?_
      rw [wp_bd]
      refine (m_wrong r1.1 (fun _ => (r1.2 rfl).2.2.1) (by decide)).mono ?_
      rintro ⟨u, h126⟩ ⟨g1, g2⟩
      dsimp only at g1 g2 ⊢
      have e1s : (lawStep b n (none, 3, p, win, nots, W, C)).1 = some (1, tkS b n p) := by
        rcases a3 with z | z
        · exact absurd z.2 w0
        · exact z
      refine (badEnd (lawStep b n (none, 3, p, win, nots, W, C)) h126 ((xr e1).tr (S1424_r (S45_24 g1))) ⟨RcL_s e2 r6, fun z => absurd (e1s.symm.trans z.1) (by simp)⟩ (by rw [e1s]; simp) (by rw [e1s]; exact g2) (WKr.same ⟨ww, qq, k1, k2, by clear k1 k2; omega, by clear k1 k2; omega⟩ (g1 _ _ (by unfold S45; omega)) (g1 _ _ (by unfold S45; omega)))).mono ?_
      exact fun r z => Or.inr z
  · rw [m_isGood bad.2.1, wp_bp, wp_some, if_neg bad.1]
    refine w_t rfl ?_
    exact (badEnd S' h113 (xr e1) ⟨e2, fun z => bad.1 z.1⟩ bad.1 bad.2.1 bad.2.2).mono (fun r z => Or.inr z)
theorem m_lawR {b : Nat → Int} {n p nl : Nat} {A : Hp} {cd : Nat → List Int} {h : Hp} (T : TRk b n h) (G : RGk b n none p h) (D : RDl A cd h) (hp : p ≤ n) (hk : kwN b n p = 13) (hn : A 8 5 = (nl : Int)) (h4 : nl < 4) (hb : esum cd nl ≤ p) :
    wp (fX6_line h) (fun r => ∃ S : LwS, OutL b n (none, 0, tkE b n p, 0, 0, [], []) S ∧ Same SRr h r.2 ∧ RGk b n S.1 S.2.2.1 r.2 ∧ (S.1 = none → RDl (st A 8 5 ((nl : Int) + 1)) (updL cd nl S.2.2.2.2.2.2) r.2)) := by
  have n7 := T.1
  have hp1 := tkE_le (b := b) hp
  have rr := tk_rg (b := b) hp
  unfold fX6_line
  rw [m_knownWord (G.2 rfl) hp, hk, wp_bp, wp_some]
  refine w_f (by decide) (w_f (by decide) (w_f (by decide) (w_t (by decide) ?_)))
  unfold fX6_line_j319
  rw [D.1.2.2.2.2.2.1, hn]
  refine w_f (by decide) (w_t rfl (w_f (by omega) ?_))
  unfold fX6_line_j351
  rw [m_isGood G.1, wp_bp, wp_some, if_pos rfl]
  refine w_f (by decide) ?_
  rw [wp_bd]
  refine (m_next T G hp).mono ?_
  rintro ⟨v1, h22⟩ ⟨g1, g2⟩
  dsimp only at g1 g2 ⊢
  have s22 : Same S1424 h h22 := SRk_24 g1
  have D22 := D.s24 s22
  have x29 : h22 35 29 = (nl : Int) := by rw [D22.1.2.2.2.2.2.1]; exact hn
  obtain ⟨⟨e1, e2, e3, e4, e5, e6, e7, e8⟩, d2, d3, d4, d5, tp, t1, t2, t3⟩ := D22
  rw [hn, Int.toNat_natCast] at t2
  rw [hn] at t3
  rw [gd_y (by rw [x29]; clear x29 t1; omega), x29, Int.toNat_natCast, t1, wp_lb]
  have y29 : st h22 50 nl (tp : Int) 35 29 = (nl : Int) := by rw [st_na (by decide)]; exact x29
  rw [y29, i1 (by clear x29 t1 y29; omega), wp_lb, wp_bd]
  generalize hE : st (st h22 50 nl (tp : Int)) 35 29 ((nl + 1 : Nat) : Int) = h25
  have kE : ∀ a k, ¬ (a = 50 ∧ k = nl) → ¬ (a = 35 ∧ k = 29) → h25 a k = h22 a k := fun a k w1 w2 => by
    rw [← hE]
    show (if a = 35 ∧ k = 29 then _ else if a = 50 ∧ k = nl then _ else h22 a k) = _
    rw [if_neg w2, if_neg w1]
  have x50 : h25 50 nl = (tp : Int) := by rw [← hE, st_na (by decide)]; exact st_self
  have z29 : h25 35 29 = ((nl + 1 : Nat) : Int) := by rw [← hE]; exact st_self
  clear hE
  have s25 : Same SRr h h25 := (S1424_r s22).tr (fun a k z => kE a k (fun w => z (Or.inr ⟨by clear x29 t1 y29; omega, by clear x29 t1 y29; omega⟩)) (fun w => z (Or.inl ⟨w.1, by clear x29 t1 y29; omega, by clear x29 t1 y29; omega⟩)))
  have G25 : RGk b n none (tkE b n p) h25 := g2.same (fun k h1 h2 => kE _ _ (by clear x29 t1 y29; omega) (by clear x29 t1 y29; omega))
  refine (m_expr (base := esum cd nl) (p0 := tp) (T.same (fun k => s25 _ _ (by unfold SRr; omega))) (by clear x29 t1 y29; omega) G25 (by rw [kE _ _ (by clear x29 t1 y29; omega) (by clear x29 t1 y29; omega)]; exact t1) (by clear x29 t1 y29; omega) hp1).mono ?_
  rintro ⟨u, h28⟩ (⟨a0, p', nots, q, W, C, a1, a2, a3, a4, a5, a6, a7, a8, a9⟩ | ⟨a0, S, a1, a2, a3⟩)
  · dsimp only at a0 a6 a7 a8 a9 ⊢
    have s28 : Same SRr h h28 := s25.tr (a0.mono (fun a k z => by unfold SRx at z; unfold SRr; clear x29 t1 y29 z29; omega))
    refine (m_j398 (T.same (fun k => s28 _ _ (by unfold SRr; omega))) a6 a4).mono ?_
    rintro ⟨w, h31⟩ ⟨m1, m2⟩
    dsimp only at m1 m2 ⊢
    have lvS : liveL (none, 3, p', 0, nots, W, C) := ⟨rfl, by simp⟩
    have rc := RcL_s a1 lvS
    by_cases k59 : tkK b n p' = 59
    · have es : lawStep b n (none, 3, p', 0, nots, W, C) = (none, 4, tkE b n p', 0, lwN b n p' nots, (stl 1 W C).1, (stl 1 W C).2) := by
        rw [step_beh]
        unfold behS
        rw [if_neg (fun z => absurd z.2 (by decide)), if_pos ⟨k59, rfl⟩]
      have ee : eolS b n none p' = none := if_pos k59
      rw [ee] at m2
      refine ⟨lawStep b n (none, 3, p', 0, nots, W, C), ⟨rc, fun z => by rw [es] at z; exact absurd rfl z.2⟩, s28.tr (S1424_r m1), by rw [es]; exact m2, fun _ => ?_⟩
      rw [es]
      show RDl (st A 8 5 ((nl : Int) + 1)) (updL cd nl (stl 1 W C).2) h31
      have wf := a3.2.2.2.2.2.2.2.2.2.1
      dsimp only at wf
      rw [if_pos rfl] at wf
      obtain ⟨f1, f2, f3, f4, f5, f6⟩ := stl_ok (r := 1) (by decide) W C a3.1 wf
      have qle := MPc_le _ _ _ a8
      -- the cells
      have K : ∀ a k, ¬ ((a = 35 ∧ ((14 ≤ k ∧ k ≤ 24) ∨ k = 29 ∨ (31 ≤ k ∧ k ≤ 33))) ∨ (a = 50 ∧ k = nl) ∨ (a = 51 ∧ tp ≤ k) ∨ a = 52 ∨ a = 53) → h31 a k = h22 a k := fun a k z => by
        rw [m1 _ _ (by unfold S1424; clear x29 t1 y29 z29 a7; omega), a0 _ _ (by unfold SRx; clear x29 t1 y29 z29 a7; omega), kE _ _ (by clear x29 t1 y29 z29 a7; omega) (by clear x29 t1 y29 z29 a7; omega)]
      have a8s : ∀ j, j ≠ 5 → st A 8 5 ((nl : Int) + 1) 8 j = A 8 j := fun j hj => by rw [st_nk hj]
      have a85 : st A 8 5 ((nl : Int) + 1) 8 5 = (nl : Int) + 1 := st_self
      have aN : ∀ a j, a ≠ 8 → st A 8 5 ((nl : Int) + 1) a j = A a j := fun a j ha => by rw [st_na ha]
      have e1n : ((nl : Int) + 1).toNat = nl + 1 := by clear x29 t1 y29 z29 a7; omega
      have eu : updL cd nl (stl 1 W C).2 nl = (stl 1 W C).2 := if_pos rfl
      have es2 : esum (updL cd nl (stl 1 W C).2) (nl + 1) = esum cd nl + (stl 1 W C).2.length := by
        show esum (updL cd nl (stl 1 W C).2) nl + (updL cd nl (stl 1 W C).2 nl).length = _
        rw [esum_upd nl (Nat.le_refl _), eu]
      have m51 : ∀ k, tp ≤ k → h31 51 k = h28 51 k := fun k _ => m1 _ _ (by unfold S1424; clear x29 t1 y29 z29 a7; omega)
      refine ⟨⟨?_, ?_, ?_, ?_, ?_, ?_, ?_, ?_⟩, fun c hc => ?_, fun t ht => ?_, fun i hi => ?_, fun i hi => ?_, q + 1, ?_, ?_, fun l hl => ?_⟩
      · rw [K _ _ (by clear x29 t1 y29 z29 a7; omega), a8s _ (by decide)]; exact e1
      · rw [K _ _ (by clear x29 t1 y29 z29 a7; omega), a8s _ (by decide)]; exact e2
      · rw [K _ _ (by clear x29 t1 y29 z29 a7; omega), a8s _ (by decide)]; exact e3
      · rw [K _ _ (by clear x29 t1 y29 z29 a7; omega), a8s _ (by decide)]; exact e4
      · rw [K _ _ (by clear x29 t1 y29 z29 a7; omega), a8s _ (by decide)]; exact e5
      · rw [m1 _ _ (by unfold S1424; clear x29 t1 y29 z29 a7; omega), a0 _ _ (by unfold SRx; clear x29 t1 y29 z29 a7; omega), z29, a85]; clear x29 t1 y29 z29 a7; omega
      · rw [K _ _ (by clear x29 t1 y29 z29 a7; omega), a8s _ (by decide)]; exact e7
      · rw [K _ _ (by clear x29 t1 y29 z29 a7; omega), a8s _ (by decide)]; exact e8
      · rw [K _ _ (by clear x29 t1 y29 z29 a7; omega), aN _ _ (by decide)]; exact d2 c hc
      · rw [a8s _ (by decide)] at ht
        rw [K _ _ (by clear x29 t1 y29 z29 a7; omega), K _ _ (by clear x29 t1 y29 z29 a7; omega), K _ _ (by clear x29 t1 y29 z29 a7; omega), aN _ _ (by decide), aN _ _ (by decide), aN _ _ (by decide)]; exact d3 t ht
      · rw [a8s _ (by decide)] at hi
        rw [K _ _ (by clear x29 t1 y29 z29 a7; omega), K _ _ (by clear x29 t1 y29 z29 a7; omega), K _ _ (by clear x29 t1 y29 z29 a7; omega), aN _ _ (by decide), aN _ _ (by decide), aN _ _ (by decide)]; exact d4 i hi
      · rw [a8s _ (by decide)] at hi
        rw [K _ _ (by clear x29 t1 y29 z29 a7; omega), aN _ _ (by decide)]; exact d5 i hi
      · rw [m1 _ _ (by unfold S1424; clear x29 t1 y29 z29; omega)]; exact a7
      · rw [a85, e1n, es2]; clear x29 t1 y29 z29 a7; omega
      · rw [a85] at hl
        by_cases ql : l = nl
        · subst ql
          rw [eu]
          refine ⟨tp, q, ?_, MPc_loc _ _ _ a8 (fun k h1 h2 => m51 k h1), ?_, Nat.lt_succ_self _⟩
          · rw [m1 _ _ (by unfold S1424; clear x29 t1 y29 z29 a7; omega), a0 _ _ (by unfold SRx; clear x29 t1 y29 z29 a7; omega)]; exact x50
          · rw [m51 q qle.1]; exact a9
        · obtain ⟨p2, q2, w1, w2, w3, w4⟩ := t3 l (by clear x29 t1 y29 z29 a7; omega)
          have eu2 : updL cd nl (stl 1 W C).2 l = cd l := if_neg ql
          rw [eu2]
          have q2l := MPc_le _ _ _ w2
          refine ⟨p2, q2, ?_, MPc_loc _ _ _ w2 (fun k h1 h2 => K _ _ (by clear x29 t1 y29 z29 a7 w1; omega)), ?_, by clear x29 t1 y29 z29 a7 w1; omega⟩
          · rw [K _ _ (by clear x29 t1 y29 z29 a7 w1; omega)]; exact w1
          · rw [K _ _ (by clear x29 t1 y29 z29 a7 w1; omega)]; exact w3
    · have ee : eolS b n none p' = some (1, tkS b n p') := if_neg k59
      rw [ee] at m2
      have e1s : (lawStep b n (none, 3, p', 0, nots, W, C)).1 = some (1, tkS b n p') := by
        rcases a2 with z | z
        · exact absurd z.1 k59
        · exact z
      refine ⟨lawStep b n (none, 3, p', 0, nots, W, C), ⟨rc, fun z => absurd (e1s.symm.trans z.1) (by simp)⟩, s28.tr (S1424_r m1), ⟨by rw [e1s]; exact m2.1, fun z => by rw [e1s] at z; exact absurd z (by simp)⟩, fun z => by rw [e1s] at z; exact absurd z (by simp)⟩
  · dsimp only at a0 a3 ⊢
    have s28 : Same SRr h h28 := s25.tr a0
    refine (m_j398 (p := 0) (T.same (fun k => s28 _ _ (by unfold SRr; omega))) ⟨a3, fun z => absurd z a2⟩ (Nat.zero_le _)).mono ?_
    rintro ⟨w, h31⟩ ⟨m1, m2⟩
    rw [eolS_f a2] at m2
    exact ⟨S, a1, s28.tr (S1424_r m1), ⟨m2.1, fun z => absurd z a2⟩, fun z => absurd z a2⟩
