/-! pure part: trees and houses, the reference -/
theorem RDl.tree {A : Hp} {cd : Nat → List Int} {nt : Nat} {o c v u : Int} {h h' : Hp} (D : RDl A cd h) (hnt : A 8 2 = (nt : Int)) (n12 : nt < 12)
    (s : Same (fun a k => S1424 a k ∨ (a = 35 ∧ (k = 27 ∨ k = 35)) ∨ (a = 45 ∧ 3 * nt ≤ k ∧ k ≤ 3 * nt + 2)) h h') (f1 : h' 45 (3 * nt) = c) (f2 : h' 45 (3 * nt + 1) = v) (f3 : h' 45 (3 * nt + 2) = u) (f4 : h' 35 27 = ((nt + 1 : Nat) : Int)) (f5 : h' 35 35 = o) :
    RDl (st (st (st (st (st A 8 7 o) 1 nt c) 1 (12 + nt) v) 1 (24 + nt) u) 8 2 ((nt : Int) + 1)) cd h' := by
  obtain ⟨⟨e1, e2, e3, e4, e5, e6, e7, e8⟩, d2, d3, d4, d5, tp, t1, t2, t3⟩ := D
  rw [hnt] at d3
  have k : ∀ a k, ¬ (S1424 a k ∨ (a = 35 ∧ (k = 27 ∨ k = 35)) ∨ (a = 45 ∧ 3 * nt ≤ k ∧ k ≤ 3 * nt + 2)) → h' a k = h a k := s
  have e51 : h' 51 = h 51 := funext (fun j => k _ _ (by unfold S1424; omega))
  have a8 : ∀ j, j ≠ 7 → j ≠ 2 → st (st (st (st (st A 8 7 o) 1 nt c) 1 (12 + nt) v) 1 (24 + nt) u) 8 2 ((nt : Int) + 1) 8 j = A 8 j := fun j h1 h2 => by simp [st_at, h1, h2]
  have a1 : ∀ j, j ≠ nt → j ≠ 12 + nt → j ≠ 24 + nt → st (st (st (st (st A 8 7 o) 1 nt c) 1 (12 + nt) v) 1 (24 + nt) u) 8 2 ((nt : Int) + 1) 1 j = A 1 j := fun j h1 h2 h3 => by simp [st_at, h1, h2, h3]
  refine ⟨⟨by rw [k _ _ (by unfold S1424; omega), a8 _ (by decide) (by decide)]; exact e1, by rw [k _ _ (by unfold S1424; omega), a8 _ (by decide) (by decide)]; exact e2, by rw [f4]; simp [st_at], by rw [k _ _ (by unfold S1424; omega), a8 _ (by decide) (by decide)]; exact e4, by rw [k _ _ (by unfold S1424; omega), a8 _ (by decide) (by decide)]; exact e5, by rw [k _ _ (by unfold S1424; omega), a8 _ (by decide) (by decide)]; exact e6, by rw [k _ _ (by unfold S1424; omega), a8 _ (by decide) (by decide)]; exact e7, by rw [f5]; simp [st_at]⟩, fun c hc => ?_, fun t ht => ?_, fun i hi => ?_, fun i hi => ?_, tp, by rw [k _ _ (by unfold S1424; omega)]; exact t1, by rw [a8 _ (by decide) (by decide)]; exact t2, fun l hl => ?_⟩
  · rw [k _ _ (by unfold S1424; omega)]
    simpa [st_at] using d2 c hc
  · have ht' : (t : Int) < (nt : Int) + 1 := by simpa [st_at] using ht
    by_cases q : t = nt
    · subst q
      refine ⟨by rw [f1]; simp [st_at], by rw [f2]; simp [st_at], by rw [f3]; simp [st_at]⟩
    · have lt : t < nt := by clear d2 d3 d4 d5 t3 k a8 a1 ht; omega
      obtain ⟨z1, z2, z3⟩ := d3 t (by clear d2 d3 d4 d5 t3 k a8 a1 ht; omega)
      refine ⟨?_, ?_, ?_⟩
      · rw [a1 _ (by omega) (by omega) (by omega), k _ _ (by unfold S1424; omega)]; exact z1
      · rw [a1 _ (by omega) (by omega) (by omega), k _ _ (by unfold S1424; omega)]; exact z2
      · rw [a1 _ (by omega) (by omega) (by omega), k _ _ (by unfold S1424; omega)]; exact z3
  · rw [a8 _ (by decide) (by decide)] at hi
    obtain ⟨z1, z2, z3⟩ := d4 i hi
    rw [k _ _ (by unfold S1424; omega), k _ _ (by unfold S1424; omega), k _ _ (by unfold S1424; omega), a1 _ (by omega) (by omega) (by omega)]
    refine ⟨?_, ?_, z3⟩
    · simpa [st_at] using z1
    · simpa [st_at] using z2
  · rw [a8 _ (by decide) (by decide)] at hi
    rw [k _ _ (by unfold S1424; omega)]
    simpa [st_at] using d5 i hi
  · rw [a8 _ (by decide) (by decide)] at hl
    obtain ⟨p, q, z1, z2, z3, z4⟩ := t3 l hl
    exact ⟨p, q, by rw [k _ _ (by unfold S1424; omega)]; exact z1, by rw [e51]; exact z2, by rw [e51]; exact z3, z4⟩
theorem RDl.house {A : Hp} {cd : Nat → List Int} {nh : Nat} {o c kd v : Int} {h h' : Hp} (D : RDl A cd h) (hnh : A 8 3 = (nh : Int)) (n12 : A 8 2 ≤ 12)
    (s : Same (fun a k => S1424 a k ∨ (a = 35 ∧ (k = 28 ∨ k = 35)) ∨ ((a = 46 ∨ a = 47 ∨ a = 48) ∧ k = nh)) h h') (f1 : h' 46 nh = c) (f2 : h' 47 nh = kd) (f3 : h' 48 nh = v) (f4 : h' 35 28 = ((nh + 1 : Nat) : Int)) (f5 : h' 35 35 = o) :
    RDl (st (st (st (st (st A 8 7 o) 4 nh c) 5 nh kd) 1 (36 + nh) v) 8 3 ((nh : Int) + 1)) cd h' := by
  obtain ⟨⟨e1, e2, e3, e4, e5, e6, e7, e8⟩, d2, d3, d4, d5, tp, t1, t2, t3⟩ := D
  rw [hnh] at d4
  have k : ∀ a k, ¬ (S1424 a k ∨ (a = 35 ∧ (k = 28 ∨ k = 35)) ∨ ((a = 46 ∨ a = 47 ∨ a = 48) ∧ k = nh)) → h' a k = h a k := s
  have e51 : h' 51 = h 51 := funext (fun j => k _ _ (by unfold S1424; omega))
  have a8 : ∀ j, j ≠ 7 → j ≠ 3 → st (st (st (st (st A 8 7 o) 4 nh c) 5 nh kd) 1 (36 + nh) v) 8 3 ((nh : Int) + 1) 8 j = A 8 j := fun j h1 h2 => by simp [st_at, h1, h2]
  have a1 : ∀ j, j ≠ 36 + nh → st (st (st (st (st A 8 7 o) 4 nh c) 5 nh kd) 1 (36 + nh) v) 8 3 ((nh : Int) + 1) 1 j = A 1 j := fun j h1 => by simp [st_at, h1]
  refine ⟨⟨by rw [k _ _ (by unfold S1424; omega), a8 _ (by decide) (by decide)]; exact e1, by rw [k _ _ (by unfold S1424; omega), a8 _ (by decide) (by decide)]; exact e2, by rw [k _ _ (by unfold S1424; omega), a8 _ (by decide) (by decide)]; exact e3, by rw [f4]; simp [st_at], by rw [k _ _ (by unfold S1424; omega), a8 _ (by decide) (by decide)]; exact e5, by rw [k _ _ (by unfold S1424; omega), a8 _ (by decide) (by decide)]; exact e6, by rw [k _ _ (by unfold S1424; omega), a8 _ (by decide) (by decide)]; exact e7, by rw [f5]; simp [st_at]⟩, fun c hc => ?_, fun t ht => ?_, fun i hi => ?_, fun i hi => ?_, tp, by rw [k _ _ (by unfold S1424; omega)]; exact t1, by rw [a8 _ (by decide) (by decide)]; exact t2, fun l hl => ?_⟩
  · rw [k _ _ (by unfold S1424; omega)]
    simpa [st_at] using d2 c hc
  · rw [a8 _ (by decide) (by decide)] at ht
    have lt : t < 12 := by clear d2 d3 d4 d5 t3 k a8 a1; omega
    obtain ⟨z1, z2, z3⟩ := d3 t ht
    rw [k _ _ (by unfold S1424; omega), k _ _ (by unfold S1424; omega), k _ _ (by unfold S1424; omega), a1 _ (by omega), a1 _ (by omega), a1 _ (by omega)]
    exact ⟨z1, z2, z3⟩
  · have hi' : (i : Int) < (nh : Int) + 1 := by simpa [st_at] using hi
    by_cases q : i = nh
    · subst q
      refine ⟨by rw [f1]; simp [st_at], by rw [f2]; simp [st_at], by rw [f3]; simp [st_at]⟩
    · obtain ⟨z1, z2, z3⟩ := d4 i (by clear d2 d3 d4 d5 t3 k a8 a1 hi; omega)
      rw [k _ _ (by unfold S1424; omega), k _ _ (by unfold S1424; omega), k _ _ (by unfold S1424; omega), a1 _ (by omega)]
      refine ⟨?_, ?_, z3⟩
      · simpa [st_at, q] using z1
      · simpa [st_at, q] using z2
  · rw [a8 _ (by decide) (by decide)] at hi
    rw [k _ _ (by unfold S1424; omega)]
    simpa [st_at] using d5 i hi
  · rw [a8 _ (by decide) (by decide)] at hl
    obtain ⟨p, q, z1, z2, z3, z4⟩ := t3 l hl
    exact ⟨p, q, by rw [k _ _ (by unfold S1424; omega)]; exact z1, by rw [e51]; exact z2, by rw [e51]; exact z3, z4⟩
theorem m_tree {b : Nat → Int} {n p : Nat} {A : Hp} {cd : Nat → List Int} {h : Hp} (T : TRk b n h) (G : RGk b n none p h) (D : RDl A cd h) (B : PBd A) (hp : p ≤ n) (hk : kwN b n p = 11) (ht : A 8 2 < 12) :
    wp (fX6_line h) (fun r => Same SRr h r.2 ∧ RGk b n (trS b n A p).1 (trS b n A p).2.1 r.2 ∧ ((trS b n A p).1 = none → RDl (trS b n A p).2.2 cd r.2)) := by
  have hp1 := tkE_le (b := b) hp
  obtain ⟨nt, hnt⟩ : ∃ nt : Nat, A 8 2 = (nt : Int) := ⟨(A 8 2).toNat, by have := B.2.2.1; omega⟩
  have hnt12 : nt < 12 := by omega
  have m0 : i_mul 3 (nt : Int) = ((3 * nt : Nat) : Int) := by rw [i_mul_eq ⟨by omega, by omega⟩]; omega
  have m1' : i_add ((3 * nt : Nat) : Int) 1 = ((3 * nt + 1 : Nat) : Int) := i1 (by clear m0; omega)
  have m2' : i_add ((3 * nt : Nat) : Int) 2 = ((3 * nt + 2 : Nat) : Int) := by rw [ia (by clear m0 m1'; omega) (by clear m0 m1'; omega)]; clear m0 m1'; omega
  have m3' : i_add (nt : Int) 1 = ((nt + 1 : Nat) : Int) := i1 (by clear m0 m1' m2'; omega)
  unfold fX6_line trS
  dsimp only
  rw [m_knownWord (G.2 rfl) hp, hk, wp_bp, wp_some, D.1.2.2.1, hnt]
  refine w_f (by decide) (w_t rfl (w_f (by clear m0 m1' m2' m3' hnt; omega) ?_))
  unfold fX6_line_j81
  rw [m_isGood G.1, wp_bp, wp_some, if_pos rfl]
  refine w_f (by decide) ?_
  rw [wp_bd]
  refine (m_next T G hp).mono ?_
  rintro ⟨v1, h3⟩ ⟨g1, g2⟩
  dsimp only at g1 g2 ⊢
  have s3 : Same S1424 h h3 := SRk_24 g1
  have D3 := D.s24 s3
  rw [wp_bd, D3.1.2.2.2.2.2.2.2]
  refine (m_cellNext (T.same (fun k => s3 _ _ (by unfold S1424; omega))) g2 hp1 D3.1.1 D3.1.2.1 B.1 B.2.1).mono ?_
  rintro ⟨c, h6⟩ ⟨k1, k2, k4⟩
  dsimp only at k1 k2 k4 ⊢
  have hp2 : (cellS b n none (A 8 7) (A 8 0) (A 8 1) (tkE b n p)).2.2 ≤ n := cellS_le hp1
  generalize cellS b n none (A 8 7) (A 8 0) (A 8 1) (tkE b n p) = cs at *
  have s6 : Same S1424 h h6 := s3.tr k1
  have D6 := D.s24 s6
  have x27 : h6 35 27 = (nt : Int) := by rw [D6.1.2.2.1]; exact hnt
  rw [gd_y (by rw [x27, m0]; clear m0 m1' m2' m3' hnt x27; omega), x27, m0, Int.toNat_natCast, wp_lb]
  generalize hE : st h6 45 (3 * nt) c = h74
  have t74 : Same (fun a k => S1424 a k ∨ (a = 35 ∧ (k = 27 ∨ k = 35)) ∨ (a = 45 ∧ 3 * nt ≤ k ∧ k ≤ 3 * nt + 2)) h h74 := by rw [← hE]; exact (s6.mono (fun a k z => Or.inl z)).st (Or.inr (Or.inr ⟨rfl, by omega, by omega⟩))
  have tS : ∀ {hz : Hp}, Same (fun a k => S1424 a k ∨ (a = 35 ∧ (k = 27 ∨ k = 35)) ∨ (a = 45 ∧ 3 * nt ≤ k ∧ k ≤ 3 * nt + 2)) h hz → Same SRr h hz := fun s => s.mono (fun a k z => by unfold S1424 at z; unfold SRr; clear m0 m1' m2' m3' hnt x27; omega)
  have y27 : h74 35 27 = (nt : Int) := by rw [← hE, st_na (by decide)]; exact x27
  have y35 : h74 35 35 = A 8 7 := by rw [← hE, st_na (by decide)]; exact D6.1.2.2.2.2.2.2.2
  have y0 : h74 45 (3 * nt) = c := by rw [← hE]; exact st_self
  have G74 : RGk b n cs.1 cs.2.2 h74 := k2.same (fun k h1 h2 => by rw [← hE, st_na (by decide)])
  clear hE
  rw [wp_bd]
  refine (m_number (T.same (fun k => tS t74 _ _ (by unfold SRr; omega))) G74 hp2 (by decide)).mono ?_
  rintro ⟨v, h77⟩ ⟨l1, l2, l4⟩
  dsimp only at l1 l2 l4 ⊢
  have nn : (nmS b n cs.1 1 9 cs.2.2).1 = none → cs.1 = none := fun z => (nmS_none z).1
  generalize nmS b n cs.1 1 9 cs.2.2 = vs at *
  have t77 := t74.tr (l1.mono (fun a k z => Or.inl z))
  have z0 : h77 45 (3 * nt) = c := by rw [l1 _ _ (by unfold S1424; omega)]; exact y0
  have z27 : h77 35 27 = (nt : Int) := by rw [l1 _ _ (by unfold S1424; omega)]; exact y27
  have z35 : h77 35 35 = A 8 7 := by rw [l1 _ _ (by unfold S1424; omega)]; exact y35
  rw [gd_y (by rw [y27, m0, m1']; clear m0 m1' m2' m3' hnt x27 y27 z27; omega), y27, m0, m1', Int.toNat_natCast, wp_lb]
  generalize hE : st h77 45 (3 * nt + 1) v = h79
  have t79 := t77.st (a := 45) (k := 3 * nt + 1) (v := v) (Or.inr (Or.inr ⟨rfl, by omega, by omega⟩))
  rw [hE] at t79
  have w0 : h79 45 (3 * nt) = c := by rw [← hE, st_nk (by omega)]; exact z0
  have w1 : h79 45 (3 * nt + 1) = v := by rw [← hE]; exact st_self
  have w27 : h79 35 27 = (nt : Int) := by rw [← hE, st_na (by decide)]; exact z27
  have w35 : h79 35 35 = A 8 7 := by rw [← hE, st_na (by decide)]; exact z35
  have G79 : RGk b n vs.1 (tkE b n cs.2.2) h79 := l2.same (fun k h1 h2 => by rw [← hE, st_na (by decide)])
  clear hE
  rw [gd_y (by rw [w27, m0, m1']; clear m0 m1' m2' m3' hnt x27 y27 z27 w27; omega), w27, m0, m1', Int.toNat_natCast, w1, wp_bd]
  refine (m_number (T.same (fun k => tS t79 _ _ (by unfold SRr; omega))) G79 (tkE_le hp2) (by decide)).mono ?_
  rintro ⟨u, h83⟩ ⟨o1, o2, o4⟩
  dsimp only at o1 o2 o4 ⊢
  have nn2 : (nmS b n vs.1 vs.2 9 (tkE b n cs.2.2)).1 = none → vs.1 = none := fun z => (nmS_none z).1
  have same : (nmS b n vs.1 v 9 (tkE b n cs.2.2)).1 = (nmS b n vs.1 vs.2 9 (tkE b n cs.2.2)).1 ∧ ((nmS b n vs.1 vs.2 9 (tkE b n cs.2.2)).1 = none → (nmS b n vs.1 v 9 (tkE b n cs.2.2)).2 = (nmS b n vs.1 vs.2 9 (tkE b n cs.2.2)).2) := by
    by_cases q : vs.1 = none
    · rw [l4 q]; exact ⟨rfl, fun _ => rfl⟩
    · rw [nmS_f q, nmS_f q]; exact ⟨rfl, fun z => absurd z q⟩
  rw [same.1] at o2 o4
  have o5 : (nmS b n vs.1 vs.2 9 (tkE b n cs.2.2)).1 = none → u = (nmS b n vs.1 vs.2 9 (tkE b n cs.2.2)).2 := fun z => by rw [o4 z, same.2 z]
  clear same o4
  generalize nmS b n vs.1 vs.2 9 (tkE b n cs.2.2) = us at *
  have t83 := t79.tr (o1.mono (fun a k z => Or.inl z))
  rw [gd_y (by rw [m2']; clear m0 m1' m2' m3' hnt x27 y27 z27 w27; omega), m2', Int.toNat_natCast, wp_lb]
  generalize hE : st h83 45 (3 * nt + 2) u = h85
  have t85 := t83.st (a := 45) (k := 3 * nt + 2) (v := u) (Or.inr (Or.inr ⟨rfl, by omega, by omega⟩))
  rw [hE] at t85
  have r0 : h85 45 (3 * nt) = c := by rw [← hE, st_nk (by omega), o1 _ _ (by unfold S1424; omega)]; exact w0
  have r1 : h85 45 (3 * nt + 1) = v := by rw [← hE, st_nk (by omega), o1 _ _ (by unfold S1424; omega)]; exact w1
  have r2 : h85 45 (3 * nt + 2) = u := by rw [← hE]; exact st_self
  have r27 : h85 35 27 = (nt : Int) := by rw [← hE, st_na (by decide), o1 _ _ (by unfold S1424; omega)]; exact w27
  have r35 : h85 35 35 = A 8 7 := by
    rw [← hE, st_na (by decide), o1 _ _ (by unfold S1424; omega)]
    exact w35
  have G85 : RGk b n us.1 (tkE b n (tkE b n cs.2.2)) h85 := o2.same (fun k h1 h2 => by rw [← hE, st_na (by decide)])
  clear hE
  rw [m_isGood G85.1, wp_bp, wp_some]
  by_cases q : us.1 = none
  · rw [if_pos q]
    refine w_f (by decide) ?_
    rw [r35, wp_lb, k4 (nn (nn2 q))]
    rw [k4 (nn (nn2 q))] at r0
    rw [l4 (nn2 q)] at r1
    rw [o5 q] at r2
    have b27 : st h85 35 35 (l_or (A 8 7) (l_shl 1 cs.2.1)) 35 27 = (nt : Int) := by rw [st_nk (by decide)]; exact r27
    rw [b27, m3', wp_lb]
    have tF := (t85.st (a := 35) (k := 35) (v := l_or (A 8 7) (l_shl 1 cs.2.1)) (Or.inr (Or.inl ⟨rfl, Or.inr rfl⟩))).st (a := 35) (k := 27) (v := ((nt + 1 : Nat) : Int)) (Or.inr (Or.inl ⟨rfl, Or.inl rfl⟩))
    have DF := D.tree (c := cs.2.1) (v := vs.2) (u := us.2) (o := l_or (A 8 7) (l_shl 1 cs.2.1)) hnt hnt12 tF (by rw [st_na (by decide), st_na (by decide)]; exact r0) (by rw [st_na (by decide), st_na (by decide)]; exact r1) (by rw [st_na (by decide), st_na (by decide)]; exact r2) st_self (by rw [st_nk (by decide)]; exact st_self)
    have GF : RGk b n us.1 (tkE b n (tkE b n cs.2.2)) (st (st h85 35 35 (l_or (A 8 7) (l_shl 1 cs.2.1))) 35 27 ((nt + 1 : Nat) : Int)) := G85.same (fun k h1 h2 => by rw [st_nk (by omega), st_nk (by omega)])
    refine (m_j398 (T.same (fun k => tS tF _ _ (by unfold SRr; omega))) GF (tkE_le (tkE_le hp2))).mono ?_
    rintro ⟨w, h12⟩ ⟨n1, n2⟩
    rw [Int.toNat_natCast]
    exact ⟨(tS tF).tr (S1424_r n1), n2, fun _ => DF.s24 n1⟩
  · rw [if_neg q, eolS_f q]
    exact w_t rfl (wp_some.mpr ⟨tS t85, ⟨G85.1, fun z => absurd z q⟩, fun z => absurd z q⟩)
theorem m_house {b : Nat → Int} {n p : Nat} {kd : Int} {A : Hp} {cd : Nat → List Int} {h : Hp} (T : TRk b n h) (G : RGk b n none p h) (D : RDl A cd h) (B : PBd A) (hp : p ≤ n) (hkd : 0 ≤ kd ∧ kd ≤ 2) (hk : kwN b n p = 7 + kd) (ht : A 8 3 < 6) :
    wp (fX6_line h) (fun r => Same SRr h r.2 ∧ RGk b n (hoS b n kd A p).1 (hoS b n kd A p).2.1 r.2 ∧ ((hoS b n kd A p).1 = none → RDl (hoS b n kd A p).2.2 cd r.2)) := by
  have hp1 := tkE_le (b := b) hp
  obtain ⟨nh, hnh⟩ : ∃ nh : Nat, A 8 3 = (nh : Int) := ⟨(A 8 3).toNat, by have := B.2.2.2.1; omega⟩
  have hnh6 : nh < 6 := by omega
  have m3' : i_add (nh : Int) 1 = ((nh + 1 : Nat) : Int) := i1 (by omega)
  have ek : i_sub (7 + kd) 7 = kd := by clear m3'; rw [isb (by omega) (by omega)]; omega
  unfold fX6_line hoS
  dsimp only
  rw [m_knownWord (G.2 rfl) hp, hk, wp_bp, wp_some, D.1.2.2.2.1, hnh]
  refine w_f (by clear m3' ek hnh; omega) (w_f (by clear m3' ek hnh; omega) (w_f (by clear m3' ek hnh; omega) (w_f (by clear m3' ek hnh; omega) (w_f (by clear m3' ek hnh; omega) ?_))))
  unfold fX6_line_j225
  rw [m_isGood G.1, wp_bp, wp_some, if_pos rfl, ek]
  refine w_f (by decide) ?_
  rw [wp_bd]
  refine (m_next T G hp).mono ?_
  rintro ⟨v1, h3⟩ ⟨g1, g2⟩
  dsimp only at g1 g2 ⊢
  have s3 : Same S1424 h h3 := SRk_24 g1
  have D3 := D.s24 s3
  rw [wp_bd, D3.1.2.2.2.2.2.2.2]
  refine (m_cellNext (T.same (fun k => s3 _ _ (by unfold S1424; omega))) g2 hp1 D3.1.1 D3.1.2.1 B.1 B.2.1).mono ?_
  rintro ⟨c, h6⟩ ⟨k1, k2, k4⟩
  dsimp only at k1 k2 k4 ⊢
  have hp2 : (cellS b n none (A 8 7) (A 8 0) (A 8 1) (tkE b n p)).2.2 ≤ n := cellS_le hp1
  generalize cellS b n none (A 8 7) (A 8 0) (A 8 1) (tkE b n p) = cs at *
  have s6 : Same S1424 h h6 := s3.tr k1
  have D6 := D.s24 s6
  have x28 : h6 35 28 = (nh : Int) := by rw [D6.1.2.2.2.1]; exact hnh
  have x35 : h6 35 35 = A 8 7 := D6.1.2.2.2.2.2.2.2
  rw [gd_y (by rw [x28]; clear m3' ek hnh x28 x35; omega), x28, Int.toNat_natCast, wp_lb]
  have y28 : st h6 46 nh c 35 28 = (nh : Int) := by rw [st_na (by decide)]; exact x28
  rw [gd_y (by rw [y28]; clear m3' ek hnh x28 x35 y28; omega), y28, Int.toNat_natCast, wp_lb]
  generalize hE : st (st h6 46 nh c) 47 nh kd = h49
  have tS : ∀ {hz : Hp}, Same (fun a k => S1424 a k ∨ (a = 35 ∧ (k = 28 ∨ k = 35)) ∨ ((a = 46 ∨ a = 47 ∨ a = 48) ∧ k = nh)) h hz → Same SRr h hz := fun s => s.mono (fun a k z => by unfold S1424 at z; unfold SRr; clear m3' ek hnh x28 x35 y28; omega)
  have t49 : Same (fun a k => S1424 a k ∨ (a = 35 ∧ (k = 28 ∨ k = 35)) ∨ ((a = 46 ∨ a = 47 ∨ a = 48) ∧ k = nh)) h h49 := by
    rw [← hE]
    have t6 : Same (fun a k => S1424 a k ∨ (a = 35 ∧ (k = 28 ∨ k = 35)) ∨ ((a = 46 ∨ a = 47 ∨ a = 48) ∧ k = nh)) h h6 := s6.mono (fun a k z => Or.inl z)
    exact (t6.st (a := 46) (k := nh) (v := c) (Or.inr (Or.inr ⟨Or.inl rfl, rfl⟩))).st (a := 47) (k := nh) (v := kd) (Or.inr (Or.inr ⟨Or.inr (Or.inl rfl), rfl⟩))
  have z28 : h49 35 28 = (nh : Int) := by rw [← hE, st_na (by decide)]; exact y28
  have z35 : h49 35 35 = A 8 7 := by rw [← hE, st_na (by decide), st_na (by decide)]; exact x35
  have z46 : h49 46 nh = c := by rw [← hE, st_na (by decide)]; exact st_self
  have z47 : h49 47 nh = kd := by rw [← hE]; exact st_self
  have G49 : RGk b n cs.1 cs.2.2 h49 := k2.same (fun k h1 h2 => by rw [← hE, st_na (by decide), st_na (by decide)])
  clear hE
  rw [wp_bd]
  refine (m_number (T.same (fun k => tS t49 _ _ (by unfold SRr; omega))) G49 hp2 (by decide)).mono ?_
  rintro ⟨v, h52⟩ ⟨l1, l2, l4⟩
  dsimp only at l1 l2 l4 ⊢
  have nn : (nmS b n cs.1 0 999 cs.2.2).1 = none → cs.1 = none := fun z => (nmS_none z).1
  generalize nmS b n cs.1 0 999 cs.2.2 = vs at *
  have t52 := t49.tr (l1.mono (fun a k z => Or.inl z))
  rw [gd_y (by rw [z28]; clear m3' ek hnh x28 x35 y28 z28 z35; omega), z28, Int.toNat_natCast, wp_lb]
  generalize hE : st h52 48 nh v = h54
  have t54 := t52.st (a := 48) (k := nh) (v := v) (Or.inr (Or.inr ⟨Or.inr (Or.inr rfl), rfl⟩))
  rw [hE] at t54
  have r28 : h54 35 28 = (nh : Int) := by rw [← hE, st_na (by decide), l1 _ _ (by unfold S1424; omega)]; exact z28
  have r35 : h54 35 35 = A 8 7 := by rw [← hE, st_na (by decide), l1 _ _ (by unfold S1424; omega)]; exact z35
  have r46 : h54 46 nh = c := by rw [← hE, st_na (by decide), l1 _ _ (by unfold S1424; omega)]; exact z46
  have r47 : h54 47 nh = kd := by rw [← hE, st_na (by decide), l1 _ _ (by unfold S1424; omega)]; exact z47
  have r48 : h54 48 nh = v := by rw [← hE]; exact st_self
  have G54 : RGk b n vs.1 (tkE b n cs.2.2) h54 := l2.same (fun k h1 h2 => by rw [← hE, st_na (by decide)])
  clear hE
  rw [m_isGood G54.1, wp_bp, wp_some]
  by_cases q : vs.1 = none
  · rw [if_pos q]
    refine w_f (by decide) ?_
    rw [r35, wp_lb, k4 (nn q)]
    rw [k4 (nn q)] at r46
    rw [l4 q] at r48
    have b28 : st h54 35 35 (l_or (A 8 7) (l_shl 1 cs.2.1)) 35 28 = (nh : Int) := by rw [st_nk (by decide)]; exact r28
    rw [b28, m3', wp_lb]
    have tF := (t54.st (a := 35) (k := 35) (v := l_or (A 8 7) (l_shl 1 cs.2.1)) (Or.inr (Or.inl ⟨rfl, Or.inr rfl⟩))).st (a := 35) (k := 28) (v := ((nh + 1 : Nat) : Int)) (Or.inr (Or.inl ⟨rfl, Or.inl rfl⟩))
    have DF := D.house (c := cs.2.1) (kd := kd) (v := vs.2) (o := l_or (A 8 7) (l_shl 1 cs.2.1)) hnh B.2.2.1.2 tF (by rw [st_na (by decide), st_na (by decide)]; exact r46) (by rw [st_na (by decide), st_na (by decide)]; exact r47) (by rw [st_na (by decide), st_na (by decide)]; exact r48) st_self (by rw [st_nk (by decide)]; exact st_self)
    have GF : RGk b n vs.1 (tkE b n cs.2.2) (st (st h54 35 35 (l_or (A 8 7) (l_shl 1 cs.2.1))) 35 28 ((nh + 1 : Nat) : Int)) := G54.same (fun k h1 h2 => by rw [st_nk (by omega), st_nk (by omega)])
    refine (m_j398 (T.same (fun k => tS tF _ _ (by unfold SRr; omega))) GF (tkE_le hp2)).mono ?_
    rintro ⟨w, h12⟩ ⟨n1, n2⟩
    exact ⟨(tS tF).tr (S1424_r n1), n2, fun _ => DF.s24 n1⟩
  · rw [if_neg q, eolS_f q]
    exact w_t rfl (wp_some.mpr ⟨tS t54, ⟨G54.1, fun z => absurd z q⟩, fun z => absurd z q⟩)
