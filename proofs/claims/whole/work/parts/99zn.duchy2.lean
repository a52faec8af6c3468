/-! pure part: duchy, class and reference -/
/-- what a refused text leaves -/
theorem Inv.refused {κ : Int} {h h' : Hp} {L' : Nat} (I : Inv κ h) (hL' : h 0 1 = (L' : Int)) (hL9 : L' = 1 ∨ L' = 9)
    (s : Same (fun a k => (a = 18 ∧ 1 ≤ k) ∨ a = 19 ∨ (L' ≤ a ∧ a ≤ L' + 7) ∨ (a = 0 ∧ (k = 9 ∨ k = 10 ∨ k = 11)) ∨ a = 68 ∨ (a = 35 ∧ (k = 0 ∨ (13 ≤ k ∧ k ≤ 35))) ∨ (44 ≤ a ∧ a ≤ 53) ∨ (a = 43 ∧ k = 0)) h h')
    (f1 : h' 0 9 = 0) (f2 : h' 35 13 = 0) (f3 : h' 0 10 = h' 35 15) (f4 : h' 0 11 = h' 43 0) : Inv κ h' := by
  obtain ⟨D, ht, ro, L, nr, rh, rm, na, P, C, O, Q, M, G⟩ := I
  have O' : h 0 1 = 10 - (L : Int) := O
  have eL : (L' : Int) = 10 - (L : Int) := hL'.symm.trans O'
  have k : ∀ a k, ¬ ((a = 18 ∧ 1 ≤ k) ∨ a = 19 ∨ (L' ≤ a ∧ a ≤ L' + 7) ∨ (a = 0 ∧ (k = 9 ∨ k = 10 ∨ k = 11)) ∨ a = 68 ∨ (a = 35 ∧ (k = 0 ∨ (13 ≤ k ∧ k ≤ 35))) ∨ (44 ≤ a ∧ a ≤ 53) ∨ (a = 43 ∧ k = 0)) → h' a k = h a k := s
  have lL := C.2.2.2.1.1
  have v12 : h' 0 12 = h 0 12 := k _ _ (by clear f1 f2 f3 f4 O' hL'; omega)
  have v13 : h' 0 13 = h 0 13 := k _ _ (by clear f1 f2 f3 f4 O' hL' v12; omega)
  have v15 : h' 0 15 = h 0 15 := k _ _ (by clear f1 f2 f3 f4 O' hL' v12 v13; omega)
  have v431 : h' 43 1 = h 43 1 := k _ _ (by clear f1 f2 f3 f4 O' hL' v12 v13 v15; omega)
  have v432 : h' 43 2 = h 43 2 := k _ _ (by clear f1 f2 f3 f4 O' hL' v12 v13 v15 v431; omega)
  have v59 : h' 35 59 = h 35 59 := k _ _ (by clear f1 f2 f3 f4 O' hL' v12 v13 v15 v431 v432; omega)
  have v61 : h' 35 61 = h 35 61 := k _ _ (by clear f1 f2 f3 f4 O' hL' v12 v13 v15 v431 v432 v59; omega)
  have v31 : h' 31 3 = h 31 3 := k _ _ (by clear f1 f2 f3 f4 O' hL' v12 v13 v15 v431 v432 v59 v61; omega)
  have v34 : ∀ i, h' 34 i = h 34 i := fun i => k _ _ (by clear f1 f2 f3 f4 O' hL' v12 v13 v15 v431 v432 v59 v61 v31; omega)
  have v60 : ∀ i, h' 60 i = h 60 i := fun i => k _ _ (by clear f1 f2 f3 f4 O' hL' v12 v13 v15 v431 v432 v59 v61 v31 v34; omega)
  have v32 : ∀ i, h' 32 i = h 32 i := fun i => k _ _ (by clear f1 f2 f3 f4 O' hL' v12 v13 v15 v431 v432 v59 v61 v31 v34 v60; omega)
  have v61a : ∀ i, h' 61 i = h 61 i := fun i => k _ _ (by clear f1 f2 f3 f4 O' hL' v12 v13 v15 v431 v432 v59 v61 v31 v34 v60 v32; omega)
  have Mn : Misc D h' := by
    obtain ⟨m1, m2, m3, m4, m5, m6, m7, m8, m9⟩ := M
    refine ⟨by rw [f1]; decide, by rw [f1, f2], fun j hj => absurd hj (by rw [f1]; exact Int.not_lt.mpr (Int.natCast_nonneg j)), f3, f4, by rw [v12, v431]; exact m6, by rw [v13, v432]; exact m7, ?_, ?_⟩
    · rw [v59, v15]
      rcases m8 with m8 | ⟨n, n1, n2, n3, n4⟩
      · exact Or.inl m8
      · exact Or.inr ⟨n, n1, n2, n3, fun i hi => by rw [v34, v60]; exact n4 i hi⟩
    · rw [v61, v31]
      rcases m9 with m9 | ⟨n1, n2, n3⟩
      · exact Or.inl m9
      · exact Or.inr ⟨n1, n2, fun i hi => by rw [v32, v61a]; exact n3 i hi⟩
  clear v12 v13 v15 v431 v432 v59 v61 v31 v34 v60 v32 v61a
  obtain ⟨a1, a2, a3, ⟨b1, b2, b3, b4, b5⟩, ⟨c1, c2, c3⟩, a6, a7, a8, ⟨d1, d2, d3⟩, a10, a11, a12⟩ := C
  refine ⟨D, ht, ro, L, nr, rh, rm, na, P, ⟨a1, a2, a3, ⟨b1, ?_, b3.same (fun a j q1 q2 => k _ _ (by clear f1 f2 f3 f4; omega)), fun c hc => ?_, b5.same (fun j => k _ _ (by clear f1 f2 f3 f4; omega))⟩, ⟨c1, ?_, fun i hi => ⟨(c3 i hi).1, ?_, ?_⟩⟩, a6.same (fun a j p => k _ _ (by clear f1 f2 f3 f4; omega)), fun c hc => ?_, a8.same (fun j => k _ _ (by clear f1 f2 f3 f4; omega)), ⟨d1, ?_, fun i hi => ⟨(d3 i hi).1, ?_, ?_⟩⟩, ?_, ?_, ?_⟩, ?_, Q.same (fun j => k _ _ (by clear f1 f2 f3 f4; omega)) (fun j => k _ _ (by clear f1 f2 f3 f4; omega)) (fun j => k _ _ (by clear f1 f2 f3 f4; omega)) (k _ _ (by clear f1 f2 f3 f4; omega)), Mn, G.cg (fun a j p => k _ _ (by clear f1 f2 f3 f4; omega))⟩
  · rw [k _ _ (by clear f1 f2 f3 f4; omega)]; exact b2
  · rw [k _ _ (by clear f1 f2 f3 f4; omega)]; exact b4 c hc
  · rw [k _ _ (by clear f1 f2 f3 f4; omega)]; exact c2
  · rw [k _ _ (by clear f1 f2 f3 f4; omega)]; exact (c3 i hi).2.1
  · rw [k _ _ (by clear f1 f2 f3 f4; omega)]; exact (c3 i hi).2.2
  · rw [k _ _ (by clear f1 f2 f3 f4; omega)]; exact a7 c hc
  · rw [k _ _ (by clear f1 f2 f3 f4; omega)]; exact d2
  · rw [k _ _ (by clear f1 f2 f3 f4; omega)]; exact (d3 i hi).2.1
  · rw [k _ _ (by clear f1 f2 f3 f4; omega)]; exact (d3 i hi).2.2
  · rw [k _ _ (by clear f1 f2 f3 f4; omega)]; exact a10
  · rw [k _ _ (by clear f1 f2 f3 f4; omega)]; exact a11
  · rw [k _ _ (by clear f1 f2 f3 f4; omega)]; exact a12
  · unfold Oth
    rw [k _ _ (by clear f1 f2 f3 f4; omega)]; exact O
theorem s_duchy {κ : Int} {x : Int} {h : Hp} (I : Inv κ h) : wp (fX5_duchy x h) (PT κ (fX6_duchy x) (fun _ => 1)) := by
  have I0 := I
  obtain ⟨D, ht, ro, L, nr, rh, rm, na, P, C, O, Q, M, G⟩ := I
  have LBh := C.2.2.2.1
  have hL := LBh.1
  have O' : h 0 1 = 10 - (L : Int) := O
  obtain ⟨m1, m2, m3, m4, m5, m6, m7, -, -⟩ := M
  have no : x < 0 ∨ h 0 9 < x → PT κ (fX6_duchy x) (fun _ => 1) (.inr (1, h)) := by
    intro z
    refine q_no I0 Same.rf (fun h' s => ?_)
    obtain ⟨C0, z0, s1, s2⟩ := C.z s
    have e13 : st h' 35 0 0 35 13 = h 0 9 := by rw [s2 _ _ (by unfold SX; clear z0; omega), m2]
    unfold fX6_duchy
    rw [wp_lb]
    have go : wp (fX6_duchy_j22 x (st h' 35 0 0)) (fun y => y.2 35 0 = 1 ∧ Same SXm h' y.2) := by
      unfold fX6_duchy_j22 fX6_duchy_j23
      exact mr_fail z0 (by decide) (w_t rfl (wp_some.mpr (no1 s1)))
    by_cases q : x < 0
    · exact w_t q go
    · refine w_f q ?_
      rw [e13]
      exact w_t (by clear z0 e13; omega) go
  unfold fX5_duchy
  by_cases q1 : x < 0
  · exact w_t q1 (wp_some.mpr (no (Or.inl q1)))
  refine w_f q1 ?_
  by_cases q2n : ¬ x ≤ h 0 9
  · exact w_f q2n (wp_some.mpr (no (Or.inr (Int.not_le.mp q2n))))
  have q2 : x ≤ h 0 9 := Classical.not_not.mp q2n
  refine w_t q2 ?_
  obtain ⟨n, rfl⟩ : ∃ n : Nat, x = (n : Int) := ⟨x.toNat, by omega⟩
  have n7 : n ≤ 700 := by omega
  obtain ⟨L', hL'⟩ : ∃ L' : Nat, h 0 1 = (L' : Int) := ⟨(h 0 1).toNat, by omega⟩
  have hL9 : L' = 1 ∨ L' = 9 := by omega
  have T : TPk (h 17) n h := ⟨n7, fun k _ => rfl⟩
  rw [wp_mi]
  unfold fX5_duchy_j22
  rw [hL', wp_bd]
  refine (c_read T hL9).mono ?_
  rintro ⟨v, h5⟩ ⟨Y, r1, r2, r3, r4, r5, r6, r7⟩
  dsimp only at r4 r5 r6 r7 ⊢
  rw [wp_lb]
  have kr : ∀ a k, ¬ ((a = 18 ∧ 1 ≤ k) ∨ a = 19 ∨ (L' ≤ a ∧ a ≤ L' + 7)) → h5 a k = h a k := r4
  have x6 : st h5 0 9 0 18 6 = h5 18 6 := st_na (by decide)
  -- the reference, up to its end
  have ref : ∀ (h' : Hp) (Z : Int × Hp → Prop), (∀ k, h' 42 k = h 42 k) → h' 35 13 = h 35 13 → (∀ hq, Same SDr (st h' 35 0 0) hq → hq 35 13 = 0 → FLr Y.1 hq → (Y.1 = none → RDl Y.2.2.1 Y.2.2.2 hq) → wp (fX6_duchy_j195 hq) Z) → wp (fX6_duchy (n : Int) h') Z := by
    intro h' Z e42 e13 k
    unfold fX6_duchy
    rw [wp_lb]
    have y13 : st h' 35 0 0 35 13 = h 0 9 := by rw [st_nk (by decide), e13, m2]
    refine w_f (by clear y13; omega) ?_
    rw [y13]
    refine w_f (by clear y13; omega) ?_
    have TR : TRk (h 17) n (st h' 35 0 0) := ⟨n7, fun k hk => by
      rw [st_na (by decide), e42]
      exact m3 k (by clear y13; omega)⟩
    refine m_duchyGo TR st_self (fun hq Y2 a1 a2 a3 a4 a5 a6 a7 => ?_)
    have eY : Y = Y2 := OutT_det r1 r2 a1 a2
    subst eY
    exact k hq a4 a5 a6 a7
  cases hY : Y.1 with
  | some f =>
    rw [hY] at r5
    obtain ⟨g1, g2, g3⟩ := r5
    refine w_f (by rw [x6, g2]; exact g1) ?_
    have x7 : st h5 0 9 0 18 7 = (f.2 : Int) := by rw [st_na (by decide)]; exact g3
    rw [x7, wp_lb]
    have x11 : st (st h5 0 9 0) 0 10 (f.2 : Int) 0 11 = h 0 11 := by rw [st_nk (by decide), st_nk (by decide)]; exact kr _ _ (by clear g2 g3 x6 x7; omega)
    rw [x11, wp_lb]
    have y6 : st (st (st h5 0 9 0) 0 10 (f.2 : Int)) 0 11 (i_add (h 0 11) 1) 18 6 = f.1 := by rw [st_na (by decide), st_na (by decide), st_na (by decide)]; exact g2
    rw [y6, wp_some]
    generalize hE : st (st (st h5 0 9 0) 0 10 (f.2 : Int)) 0 11 (i_add (h 0 11) 1) = h19
    have k19 : ∀ a k, ¬ ((a = 18 ∧ 1 ≤ k) ∨ a = 19 ∨ (L' ≤ a ∧ a ≤ L' + 7) ∨ (a = 0 ∧ (k = 9 ∨ k = 10 ∨ k = 11))) → h19 a k = h a k := fun a k z => by
      rw [← hE]
      show (if a = 0 ∧ k = 11 then _ else if a = 0 ∧ k = 10 then _ else if a = 0 ∧ k = 9 then _ else h5 a k) = h a k
      rw [if_neg (by clear g2 g3 x6 x7 x11 y6; omega), if_neg (by clear g2 g3 x6 x7 x11 y6; omega), if_neg (by clear g2 g3 x6 x7 x11 y6; omega)]
      exact kr _ _ (by clear g2 g3 x6 x7 x11 y6; omega)
    have f19 : h19 0 9 = 0 ∧ h19 0 10 = (f.2 : Int) ∧ h19 0 11 = i_add (h 0 11) 1 := by rw [← hE]; simp [st_at]
    clear hE x6 x7 x11 y6
    show wp (fX6_duchy (n : Int) (st h19 68 0 f.1)) _
    refine ref (st h19 68 0 f.1) _ (fun k => by rw [st_na (by decide)]; exact k19 _ _ (by clear g2 g3; omega)) (by rw [st_na (by decide)]; exact k19 _ _ (by clear g2 g3; omega)) (fun hq a1 a2 a3 a4 => ?_)
    have ka : ∀ a k, ¬ ((a = 35 ∧ 13 ≤ k ∧ k ≤ 35) ∨ (44 ≤ a ∧ a ≤ 53)) → hq a k = st (st h19 68 0 f.1) 35 0 0 a k := a1
    have F' := a3
    rw [hY] at a3
    obtain ⟨c1, c2, c3⟩ := a3
    unfold fX6_duchy_j195
    rw [m_isGood F', wp_bp, wp_some, if_neg (show ¬ Y.1 = none by rw [hY]; simp)]
    refine w_t rfl ?_
    rw [gd_y (by decide), gd_y (by decide), wp_lb, wp_some]
    show st hq 43 0 (i_add (hq 43 0) 1) 35 0 = 0 ∧ st hq 43 0 (i_add (hq 43 0) 1) 68 0 = st hq 43 0 (i_add (hq 43 0) 1) 35 14 ∧ Inv κ (st hq 43 0 (i_add (hq 43 0) 1))
    have k0 : ∀ a k, ¬ (a = 43 ∧ k = 0) → st hq 43 0 (i_add (hq 43 0) 1) a k = hq a k := fun a k z => if_neg z
    have h43 : hq 43 0 = h 43 0 := by rw [ka _ _ (by clear c2 c3 g2 g3; omega), st_na (by decide), st_na (by decide)]; exact k19 _ _ (by clear c2 c3 g2 g3; omega)
    have kall : ∀ a k, ¬ ((a = 18 ∧ 1 ≤ k) ∨ a = 19 ∨ (L' ≤ a ∧ a ≤ L' + 7) ∨ (a = 0 ∧ (k = 9 ∨ k = 10 ∨ k = 11)) ∨ a = 68 ∨ (a = 35 ∧ (k = 0 ∨ (13 ≤ k ∧ k ≤ 35))) ∨ (44 ≤ a ∧ a ≤ 53) ∨ (a = 43 ∧ k = 0)) → st hq 43 0 (i_add (hq 43 0) 1) a k = h a k := fun a k z => by
      rw [k0 _ _ (by clear c2 c3 g2 g3 h43; omega), ka _ _ (by clear c2 c3 g2 g3 h43; omega)]
      show (if a = 35 ∧ k = 0 then _ else if a = 68 ∧ k = 0 then _ else h19 a k) = h a k
      rw [if_neg (by clear c2 c3 g2 g3 h43; omega), if_neg (by clear c2 c3 g2 g3 h43; omega)]
      exact k19 _ _ (by clear c2 c3 g2 g3 h43; omega)
    have z0 : ∀ k, st hq 43 0 (i_add (hq 43 0) 1) 0 k = h19 0 k := fun k => by rw [k0 _ _ (by clear c2 c3 g2 g3 h43; omega), ka _ _ (by clear c2 c3 g2 g3 h43; omega), st_na (by decide), st_na (by decide)]
    refine ⟨?_, ?_, Inv.refused I0 hL' hL9 kall ?_ ?_ ?_ ?_⟩
    · rw [k0 _ _ (by clear c2 c3 g2 g3 h43; omega), ka _ _ (by clear c2 c3 g2 g3 h43; omega)]; exact st_self
    · rw [k0 68 0 (by clear c2 c3 g2 g3 h43; omega), ka 68 0 (by clear c2 c3 g2 g3 h43; omega), k0 35 14 (by clear c2 c3 g2 g3 h43; omega), c2, st_na (by decide)]; exact st_self
    · rw [z0]; exact f19.1
    · rw [k0 _ _ (by clear c2 c3 g2 g3 h43; omega)]; exact a2
    · rw [z0, f19.2.1, k0 _ _ (by clear c2 c3 g2 g3 h43; omega)]; exact c3.symm
    · rw [z0, f19.2.2, st_self, h43, m5]
  | none =>
    rw [hY] at r5
    have g0 : h5 18 6 = 0 := r5
    refine w_t (by rw [x6]; exact g0) ?_
    obtain ⟨fl, p, A, cd⟩ := Y
    dsimp only at hY r2 r3 r6 r7 ref
    subst hY
    obtain ⟨o1, o2, o3, o4⟩ := r3
    have W := o4 rfl
    dsimp only at o1 o2 o3 W
    have y1 : st h5 0 9 0 0 1 = (L' : Int) := by rw [st_nk (by decide)]; exact (kr _ _ (by clear g0 x6; omega)).trans hL'
    have y0 : st h5 0 9 0 0 0 = (L : Int) := by rw [st_nk (by decide)]; exact (kr _ _ (by clear g0 x6 y1; omega)).trans LBh.2.1
    rw [gd_y (by rw [y1]; clear g0 x6 y1 y0; omega), y0, y1, wp_lb, wp_lb, wp_bd]
    have z00 : st (st (st h5 0 9 0) 0 1 (L : Int)) 0 0 (L' : Int) 0 0 = (L' : Int) := st_self
    rw [z00]
    unfold fX0_begin_26
    have l7 : ((L' : Int) + 7).toNat = L' + 7 := by clear g0 x6 y1 y0 z00; omega
    rw [gd_y (by clear g0 x6 y1 y0 z00; omega), gd_y (by decide), l7, wp_lb, wp_lb, wp_lb, wp_lb, wp_some, wp_lb, wp_lb, wp_lb, wp_lb, wp_some]
    generalize hE : st (st (st (st (st (st (st (cpy (st (st (st h5 0 9 0) 0 1 (L : Int)) 0 0 (L' : Int)) (L' + 7) 27 (Int.toNat 0) (Int.toNat 0) (Int.toNat 62)) 26 2 0) 26 3 0) 26 6 0) 0 6 0) 0 15 0) 31 3 0) 0 10 (-1) = h17
    have f17 : h17 0 9 = 0 ∧ h17 0 10 = -1 ∧ h17 0 0 = (L' : Int) ∧ h17 0 1 = (L : Int) ∧ h17 0 6 = 0 ∧ h17 0 15 = 0 ∧ h17 31 3 = 0 ∧ h17 26 2 = 0 ∧ h17 26 3 = 0 ∧ h17 26 6 = 0 := by
      rw [← hE]
      simp [st_at, cpy]
    have k17 : ∀ a k, ¬ ((a = 0 ∧ (k = 0 ∨ k = 1 ∨ k = 6 ∨ k = 9 ∨ k = 10 ∨ k = 15)) ∨ (a = 26 ∧ (k = 2 ∨ k = 3 ∨ k = 6)) ∨ (a = 31 ∧ k = 3) ∨ a = 27) → h17 a k = h5 a k := fun a k z => by
      rw [← hE]
      show (if a = 0 ∧ k = 10 then _ else if a = 31 ∧ k = 3 then _ else if a = 0 ∧ k = 15 then _ else if a = 0 ∧ k = 6 then _ else if a = 26 ∧ k = 6 then _ else if a = 26 ∧ k = 3 then _ else if a = 26 ∧ k = 2 then _ else if a = 27 ∧ 0 ≤ k ∧ k < 0 + 62 then _ else if a = 0 ∧ k = 0 then _ else if a = 0 ∧ k = 1 then _ else if a = 0 ∧ k = 9 then _ else h5 a k) = h5 a k
      rw [if_neg (by omega), if_neg (by omega), if_neg (by omega), if_neg (by omega), if_neg (by omega), if_neg (by omega), if_neg (by omega), if_neg (by omega), if_neg (by omega), if_neg (by omega), if_neg (by omega)]
    have r17 : ∀ k, k < 62 → h17 27 k = h5 (L' + 7) k := fun k hk => by
      rw [← hE, st_na (by decide), st_na (by decide), st_na (by decide), st_na (by decide), st_na (by decide), st_na (by decide), st_na (by decide)]
      show cpy (st (st (st h5 0 9 0) 0 1 (L : Int)) 0 0 (L' : Int)) (L' + 7) 27 0 0 62 27 k = _
      rw [cpy_d (Nat.zero_le _) (by omega), st_na (by omega), st_na (by omega), st_na (by omega)]
      rfl
    clear hE x6 y1 y0 z00
    obtain ⟨f9, f10, f0, f1, f6, f15, f31, f2, f3, f26⟩ := f17
    show wp (fX6_duchy (n : Int) (st h17 68 0 0)) _
    have k5 : ∀ a k, (a = 42 ∨ a = 43 ∨ a = 35 ∨ (69 ≤ a) ∨ a = 0 ∨ a = 64) → h5 a k = h a k := fun a k z => kr _ _ (by clear g0 f9 f10 f0 f1 f6 f15 f31 f2 f3 f26; omega)
    refine ref (st h17 68 0 0) _ (fun k => by rw [st_na (by decide), k17 _ _ (by omega), k5 _ _ (by omega)]) (by rw [st_na (by decide), k17 _ _ (by omega), k5 _ _ (by omega)]) (fun hq a1 a2 a3 a4 => ?_)
    have ka : ∀ a k, ¬ ((a = 35 ∧ 13 ≤ k ∧ k ≤ 35) ∨ (44 ≤ a ∧ a ≤ 53)) → hq a k = st (st h17 68 0 0) 35 0 0 a k := a1
    refine (m_dend o1 W (a4 rfl) a3 o3 o2 n7).mono ?_
    rintro ⟨u, hF⟩ ⟨b1, b2, b3, b4, b5, b6, b7, b8, b9, b10⟩
    dsimp only at b1 b2 b3 b4 b5 b6 b7 b8 b9 b10 ⊢
    have kb : ∀ a k, ¬ ((a = 35 ∧ ((1 ≤ k ∧ k ≤ 5) ∨ k = 49 ∨ k = 59 ∨ k = 61 ∨ k = 65 ∨ k = 68)) ∨ (36 ≤ a ∧ a ≤ 41) ∨ a = 54) → hF a k = hq a k := b2
    -- the class's cells behind it all
    have kc : ∀ a k, a ≠ 35 → a ≠ 68 → ¬ (36 ≤ a ∧ a ≤ 41) → ¬ (44 ≤ a ∧ a ≤ 54) → hF a k = h17 a k := fun a k z1 z2 z3 z4 => by
      rw [kb _ _ (by clear f9 f10 f0 f1 f6 f15 f31 f2 f3 f26 b6 b7 b8 b9 b10; omega), ka _ _ (by clear f9 f10 f0 f1 f6 f15 f31 f2 f3 f26 b6 b7 b8 b9 b10; omega), st_na z1, st_na z2]
    have k35 : ∀ k, k ≠ 0 → ¬ (1 ≤ k ∧ k ≤ 5) → ¬ (13 ≤ k ∧ k ≤ 35) → k ≠ 49 → k ≠ 59 → k ≠ 61 → k ≠ 65 → k ≠ 68 → hF 35 k = h 35 k := fun k z0 z1 z2 z3 z4 z5 z6 z7 => by
      rw [kb _ _ (by clear f9 f10 f0 f1 f6 f15 f31 f2 f3 f26 b6 b7 b8 b9 b10; omega), ka _ _ (by clear f9 f10 f0 f1 f6 f15 f31 f2 f3 f26 b6 b7 b8 b9 b10; omega), st_nk z0, st_na (by decide), k17 _ _ (by clear f9 f10 f0 f1 f6 f15 f31 f2 f3 f26 b6 b7 b8 b9 b10; omega), k5 _ _ (by clear f9 f10 f0 f1 f6 f15 f31 f2 f3 f26 b6 b7 b8 b9 b10; omega)]
    have DWn := dLD_W o1 W
    have c64 : (dLD A cd).cl ≤ 64 := cl64 DWn.1.2 DWn.2.1.2
    have CLn := dLD_C (n := n) o1 W r6 o3 o2 n7
    refine ⟨?_, ?_, ?_⟩
    · rw [kb _ _ (by clear f9 f10 f0 f1 f6 f15 f31 f2 f3 f26 b6 b7 b8 b9 b10; omega), ka _ _ (by clear f9 f10 f0 f1 f6 f15 f31 f2 f3 f26 b6 b7 b8 b9 b10; omega)]; exact st_self
    · rw [b1, kb _ _ (by clear f9 f10 f0 f1 f6 f15 f31 f2 f3 f26 b6 b7 b8 b9 b10; omega), ka _ _ (by clear f9 f10 f0 f1 f6 f15 f31 f2 f3 f26 b6 b7 b8 b9 b10; omega), st_na (by decide)]; exact st_self
    · refine ⟨dLD A cd, A 0, rof A, L', 0, fun _ => 0, fun _ => 0, 0, fun _ _ => 0, ⟨DWn, dLD_H o1 W, dLD_R o1 W, ⟨hL9, ?_, CLn.same (fun a k h1 h2 => ?_), fun c hc => ?_, ?_⟩, ⟨Nat.zero_le _, ?_, fun i hi => absurd hi (Nat.not_lt_zero i)⟩, b3, fun c hc => b4 c (by clear f9 f10 f0 f1 f6 f15 f31 f2 f3 f26 b6 b7 b8 b9 b10; omega), b5, ⟨Nat.zero_le _, b7, fun i hi => absurd hi (Nat.not_lt_zero i)⟩, ?_, ?_, ?_⟩, ?_, ⟨Nat.zero_le _, fun i hi => absurd hi (Nat.not_lt_zero i), ?_, b6, ⟨0, by decide, ?_, fun i hi => absurd hi (Nat.not_lt_zero i)⟩, fun i hi => absurd hi (Nat.not_lt_zero i)⟩, ?_, ?_⟩
      · rw [kc _ _ (by decide) (by decide) (by decide) (by decide)]; exact f0
      · rw [kc _ _ (by clear f9 f10 f0 f1 f6 f15 f31 f2 f3 f26 b6 b7 b8 b9 b10; omega) (by clear f9 f10 f0 f1 f6 f15 f31 f2 f3 f26 b6 b7 b8 b9 b10; omega) (by clear f9 f10 f0 f1 f6 f15 f31 f2 f3 f26 b6 b7 b8 b9 b10; omega) (by clear f9 f10 f0 f1 f6 f15 f31 f2 f3 f26 b6 b7 b8 b9 b10; omega), k17 _ _ (by clear f9 f10 f0 f1 f6 f15 f31 f2 f3 f26 b6 b7 b8 b9 b10; omega)]
      · rw [kc _ _ (by clear f9 f10 f0 f1 f6 f15 f31 f2 f3 f26 b6 b7 b8 b9 b10; omega) (by clear f9 f10 f0 f1 f6 f15 f31 f2 f3 f26 b6 b7 b8 b9 b10; omega) (by clear f9 f10 f0 f1 f6 f15 f31 f2 f3 f26 b6 b7 b8 b9 b10; omega) (by clear f9 f10 f0 f1 f6 f15 f31 f2 f3 f26 b6 b7 b8 b9 b10; omega), k17 _ _ (by clear f9 f10 f0 f1 f6 f15 f31 f2 f3 f26 b6 b7 b8 b9 b10; omega)]
        exact r6.2.2.1 c (by clear f9 f10 f0 f1 f6 f15 f31 f2 f3 f26 b6 b7 b8 b9 b10; omega)
      · have rw27 : ∀ k, k < 62 → hF 27 k = rof A k := fun k hk => by
          rw [kc _ _ (by decide) (by decide) (by decide) (by decide), r17 k hk]
          by_cases q : k = 60
          · rw [q, r7]; rfl
          · rw [r6.2.2.2.1 k hk q]
            exact (if_neg q).symm
        have n6 : (dLD A cd).nh ≤ 6 := DWn.2.2.1
        refine ⟨fun t ht => rw27 _ (by clear f9 f10 f0 f1 f6 f15 f31 f2 f3 f26 b6 b7 b8 b9 b10; omega), fun t ht _ => ⟨rw27 _ (by clear f9 f10 f0 f1 f6 f15 f31 f2 f3 f26 b6 b7 b8 b9 b10; omega), rw27 _ (by clear f9 f10 f0 f1 f6 f15 f31 f2 f3 f26 b6 b7 b8 b9 b10; omega)⟩, fun i hi => ⟨rw27 _ (by clear f9 f10 f0 f1 f6 f15 f31 f2 f3 f26 b6 b7 b8 b9 b10; omega), rw27 _ (by clear f9 f10 f0 f1 f6 f15 f31 f2 f3 f26 b6 b7 b8 b9 b10; omega), rw27 _ (by clear f9 f10 f0 f1 f6 f15 f31 f2 f3 f26 b6 b7 b8 b9 b10; omega), rw27 _ (by clear f9 f10 f0 f1 f6 f15 f31 f2 f3 f26 b6 b7 b8 b9 b10; omega)⟩, rw27 _ (by decide), rw27 _ (by decide)⟩
      · rw [kc _ _ (by decide) (by decide) (by decide) (by decide)]; exact f26
      · rw [k35 _ (by decide) (by decide) (by decide) (by decide) (by decide) (by decide) (by decide) (by decide)]; exact C.2.2.2.2.2.2.2.2.2.1
      · rw [k35 _ (by decide) (by decide) (by decide) (by decide) (by decide) (by decide) (by decide) (by decide)]; exact C.2.2.2.2.2.2.2.2.2.2.1
      · rw [k35 _ (by decide) (by decide) (by decide) (by decide) (by decide) (by decide) (by decide) (by decide)]; exact C.2.2.2.2.2.2.2.2.2.2.2
      · unfold Oth
        rw [kc _ _ (by decide) (by decide) (by decide) (by decide), f1]
        clear f9 f10 f0 f1 f6 f15 f31 f2 f3 f26 b6 b7 b8 b9 b10
        omega
      · rw [kc _ _ (by decide) (by decide) (by decide) (by decide)]; exact f3
      · rw [kc _ _ (by decide) (by decide) (by decide) (by decide)]; exact f2
      · have c0 : ∀ k, hF 0 k = h17 0 k := fun k => kc _ _ (by decide) (by decide) (by decide) (by decide)
        have c43 : ∀ k, hF 43 k = h 43 k := fun k => by rw [kc _ _ (by decide) (by decide) (by decide) (by decide), k17 _ _ (by clear f9 f10 f0 f1 f6 f15 f31 f2 f3 f26 b6 b7 b8 b9 b10; omega), k5 _ _ (by clear f9 f10 f0 f1 f6 f15 f31 f2 f3 f26 b6 b7 b8 b9 b10; omega)]
        have c0h : ∀ k, k = 11 ∨ k = 12 ∨ k = 13 → hF 0 k = h 0 k := fun k hk => by rw [c0, k17 _ _ (by clear f9 f10 f0 f1 f6 f15 f31 f2 f3 f26 b6 b7 b8 b9 b10; omega), k5 _ _ (by clear f9 f10 f0 f1 f6 f15 f31 f2 f3 f26 b6 b7 b8 b9 b10; omega)]
        have e9 : hF 0 9 = 0 := by rw [c0]; exact f9
        refine ⟨by rw [e9]; decide, ?_, fun k hk => absurd hk (by rw [e9]; clear f9 f10 f0 f1 f6 f15 f31 f2 f3 f26 b6 b7 b8 b9 b10; omega), ?_, ?_, ?_, ?_, Or.inl ⟨b8, by rw [c0]; exact f15⟩, Or.inl ⟨b9, by rw [kc _ _ (by decide) (by decide) (by decide) (by decide)]; exact f31⟩⟩
        · rw [e9, kb _ _ (by clear f9 f10 f0 f1 f6 f15 f31 f2 f3 f26 b6 b7 b8 b9 b10; omega)]; exact a2.symm
        · rw [c0, f10, kb _ _ (by clear f9 f10 f0 f1 f6 f15 f31 f2 f3 f26 b6 b7 b8 b9 b10; omega)]; exact a3.2.symm
        · rw [c0h _ (by decide), c43]; exact m5
        · rw [c0h _ (by decide), c43]; exact m6
        · rw [c0h _ (by decide), c43]; exact m7
      · refine ⟨?_, Or.inl ⟨?_, b10⟩⟩
        · rw [kc _ _ (by decide) (by decide) (by decide) (by decide), k17 _ _ (by decide), k5 _ _ (by decide)]; exact G.1
        · rw [kc _ _ (by decide) (by decide) (by decide) (by decide)]; exact f6
