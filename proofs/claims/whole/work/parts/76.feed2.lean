/-! pure part: feed -/
theorem c_put {x : Int} {t : Nat} {h : Hp} (ht : t + 4 ≤ 700) (h9 : h 0 9 = (t : Int)) : wp (fX5_putBytes x h) (fun r => r.2 0 9 = ((t + 4 : Nat) : Int) ∧ (∀ j, j < 4 → r.2 17 (t + j) = byC x j) ∧ ∀ a k, ¬ (a = 0 ∧ k = 9) → ¬ (a = 17 ∧ t ≤ k) → r.2 a k = h a k) := by
  unfold fX5_putBytes
  rw [wp_bp]
  refine (wp_for (Q := fun hq : Hp => hq 0 9 = ((t + 4 : Nat) : Int) ∧ (∀ j, j < 4 → hq 17 (t + j) = byC x j) ∧ ∀ a k, ¬ (a = 0 ∧ k = 9) → ¬ (a = 17 ∧ t ≤ k) → hq a k = h a k) (fun k (s : Int × Hp) => s.1 = 24 - 8 * (k : Int) ∧ s.2 0 9 = ((t + k : Nat) : Int) ∧ (∀ j, j < k → s.2 17 (t + j) = byC x j) ∧ ∀ a k, ¬ (a = 0 ∧ k = 9) → ¬ (a = 17 ∧ t ≤ k) → s.2 a k = h a k) 4 ?_ ?_ (FU_big (by decide)) ⟨rfl, h9, fun j hj => absurd hj (by omega), fun _ _ _ _ => rfl⟩).mono ?_
  · rintro k ⟨sh, hh⟩ hk ⟨e1, e2, e3, e4⟩
    dsimp only at e1 e2 e3 e4 ⊢
    have es : sh = ((24 - 8 * k : Nat) : Int) := by clear e2 h9; omega
    have br := (by_rel x k).1
    have e24 : i_add ((24 - 8 * k : Nat) : Int) (-8) = 24 - 8 * ((k + 1 : Nat) : Int) := by rw [ia (by clear e2 h9 br; omega) (by clear e2 h9 br; omega)]; clear e2 h9 br; omega
    have g1 : ¬ (((24 - 8 * k : Nat) : Int) < 0) := by clear e2 h9 br e24; omega
    have g2 : ¬ (((700 : Nat) : Int) ≤ ((t + k : Nat) : Int)) := by clear e2 h9 br e24; omega
    have g3 : (0 : Int) ≤ ((t + k : Nat) : Int) ∧ ((t + k : Nat) : Int) < 700 := by clear e2 h9 br e24; omega
    have g4 : t + k < 4000 := by clear e2 h9 br e24; omega
    unfold fX5_putBytes_l3
    rw [es, e2]
    refine w_f g1 (w_f g2 ?_)
    rw [gd_y g3, show i_2b (i_ushr x ((24 - 8 * k : Nat) : Int)) = byC x k from rfl, gd_y br, wp_lb, Int.toNat_natCast, st_na (show (0 : Nat) ≠ 17 by decide), e2, i1 g4, e24, wp_lb, wp_some]
    refine ⟨rfl, (st_self : st (st hh 17 (t + k) (byC x k)) 0 9 ((t + k + 1 : Nat) : Int) 0 9 = _), fun j hj => ?_, fun a c p1 p2 => ?_⟩
    · show st (st hh 17 (t + k) (byC x k)) 0 9 ((t + k + 1 : Nat) : Int) 17 (t + j) = _
      rw [st_na (by decide)]
      by_cases ej : j = k
      · subst ej; rw [st_self]
      · rw [st_nk (by clear e2 h9 br e24; omega)]; exact e3 j (by clear e2 h9 br e24; omega)
    · show st (st hh 17 (t + k) (byC x k)) 0 9 ((t + k + 1 : Nat) : Int) a c = _
      have q1 : st (st hh 17 (t + k) (byC x k)) 0 9 ((t + k + 1 : Nat) : Int) a c = st hh 17 (t + k) (byC x k) a c := if_neg p1
      have q2 : st hh 17 (t + k) (byC x k) a c = hh a c := if_neg (fun z => p2 ⟨z.1, by clear e2 h9 br e24; omega⟩)
      rw [q1, q2]
      exact e4 a c p1 p2
  · rintro ⟨sh, hh⟩ ⟨e1, e2, e3, e4⟩
    dsimp only at e1 e2 e3 e4 ⊢
    unfold fX5_putBytes_l3
    rw [e1]
    exact w_t (by decide) (wp_some.mpr ⟨e2, e3, e4⟩)
  · intro hq hh
    exact wp_some.mpr hh
theorem m_lay4 {x : Int} {t : Nat} {h : Hp} (ht : t + 4 ≤ 700) (h9 : h 35 13 = (t : Int)) : wp (fX6_lays x h) (fun r => r.2 35 13 = ((t + 4 : Nat) : Int) ∧ (∀ j, j < 4 → r.2 42 (t + j) = byM x j) ∧ ∀ a k, ¬ (a = 35 ∧ k = 13) → ¬ (a = 42 ∧ t ≤ k) → r.2 a k = h a k) := by
  unfold fX6_lays
  rw [wp_bp]
  refine (wp_for (Q := fun hq : Hp => hq 35 13 = ((t + 4 : Nat) : Int) ∧ (∀ j, j < 4 → hq 42 (t + j) = byM x j) ∧ ∀ a k, ¬ (a = 35 ∧ k = 13) → ¬ (a = 42 ∧ t ≤ k) → hq a k = h a k) (fun k (s : Int × Hp) => s.1 = 24 - 8 * (k : Int) ∧ s.2 35 13 = ((t + k : Nat) : Int) ∧ (∀ j, j < k → s.2 42 (t + j) = byM x j) ∧ ∀ a k, ¬ (a = 35 ∧ k = 13) → ¬ (a = 42 ∧ t ≤ k) → s.2 a k = h a k) 4 ?_ ?_ (FU_big (by decide)) ⟨rfl, h9, fun j hj => absurd hj (by omega), fun _ _ _ _ => rfl⟩).mono ?_
  · rintro k ⟨sh, hh⟩ hk ⟨e1, e2, e3, e4⟩
    dsimp only at e1 e2 e3 e4 ⊢
    have es : sh = ((24 - 8 * k : Nat) : Int) := by clear e2 h9; omega
    have e24 : i_add ((24 - 8 * k : Nat) : Int) (-8) = 24 - 8 * ((k + 1 : Nat) : Int) := by rw [ia (by clear e2 h9; omega) (by clear e2 h9; omega)]; clear e2 h9; omega
    have g1 : ¬ (((24 - 8 * k : Nat) : Int) < 0) := by clear e2 h9 e24; omega
    have g3 : (0 : Int) ≤ ((t + k : Nat) : Int) ∧ ((t + k : Nat) : Int) < 700 := by clear e2 h9 e24; omega
    have g4 : t + k < 4000 := by clear e2 h9 e24; omega
    unfold fX6_lays_l3
    rw [es, e2]
    refine w_f g1 ?_
    rw [gd_y g3, show i_and (i_shr x ((24 - 8 * k : Nat) : Int)) 255 = byM x k from rfl, wp_lb, Int.toNat_natCast, st_na (show (35 : Nat) ≠ 42 by decide), e2, i1 g4, e24, wp_lb, wp_some]
    refine ⟨rfl, (st_self : st (st hh 42 (t + k) (byM x k)) 35 13 ((t + k + 1 : Nat) : Int) 35 13 = _), fun j hj => ?_, fun a c p1 p2 => ?_⟩
    · show st (st hh 42 (t + k) (byM x k)) 35 13 ((t + k + 1 : Nat) : Int) 42 (t + j) = _
      rw [st_na (by decide)]
      by_cases ej : j = k
      · subst ej; rw [st_self]
      · rw [st_nk (by clear e2 h9 e24; omega)]; exact e3 j (by clear e2 h9 e24; omega)
    · show st (st hh 42 (t + k) (byM x k)) 35 13 ((t + k + 1 : Nat) : Int) a c = _
      have q1 : st (st hh 42 (t + k) (byM x k)) 35 13 ((t + k + 1 : Nat) : Int) a c = st hh 42 (t + k) (byM x k) a c := if_neg p1
      have q2 : st hh 42 (t + k) (byM x k) a c = hh a c := if_neg (fun z => p2 ⟨z.1, by clear e2 h9 e24; omega⟩)
      rw [q1, q2]
      exact e4 a c p1 p2
  · rintro ⟨sh, hh⟩ ⟨e1, e2, e3, e4⟩
    dsimp only at e1 e2 e3 e4 ⊢
    unfold fX6_lays_l3
    rw [e1]
    exact w_t (by decide) (wp_some.mpr ⟨e2, e3, e4⟩)
  · intro hq hh
    exact wp_some.mpr hh
/-- i fours written from t on: in cell b, how many in field (a, f) -/
def FP (by_ : Int → Nat → Int) (a f b : Nat) (xs : Nat → Int) (t : Nat) (h : Hp) (i : Nat) (h' : Hp) : Prop :=
  h' a f = ((t + 4 * i : Nat) : Int) ∧ (∀ i', i' < i → ∀ j, j < 4 → h' b (t + 4 * i' + j) = by_ (xs i') j) ∧ ∀ c k, ¬ (c = a ∧ k = f) → ¬ (c = b ∧ t ≤ k) → h' c k = h c k
theorem FP.step {by_ : Int → Nat → Int} {a f b : Nat} {xs : Nat → Int} {t i : Nat} {h h' h2 : Hp} (p : FP by_ a f b xs t h i h') (q1 : h2 a f = ((t + 4 * i + 4 : Nat) : Int)) (q2 : ∀ j, j < 4 → h2 b (t + 4 * i + j) = by_ (xs i) j) (q3 : ∀ c k, ¬ (c = a ∧ k = f) → ¬ (c = b ∧ t + 4 * i ≤ k) → h2 c k = h' c k) (hab : ∀ k, ¬ (b = a ∧ k = f)) : FP by_ a f b xs t h (i + 1) h2 := by
  obtain ⟨p1, p2, p3⟩ := p
  refine ⟨q1.trans (by clear q1 p1; omega), fun i' hi j hj => ?_, fun c k n1 n2 => ?_⟩
  · by_cases e : i' = i
    · subst e; exact q2 j hj
    · rw [q3 b _ (hab _) (by clear q1 p1; omega)]
      exact p2 i' (by clear q1 p1; omega) j hj
  · rw [q3 c k n1 (fun z => n2 ⟨z.1, by clear q1 p1; omega⟩)]
    exact p3 c k n1 n2
theorem s_feed {κ : Int} {x1 x2 x3 x4 x5 : Int} {h : Hp} (I : Inv κ h) : wp (fX5_feed x1 x2 x3 x4 x5 h) (PN κ (fX6_feed x1 x2 x3 x4 x5)) := by
  have I0 := I
  obtain ⟨D, ht, ro, L, nr, rh, rm, na, P, C, O, Q, M, G⟩ := I
  have L19 := C.2.2.2.1.1
  obtain ⟨t, ht9⟩ : ∃ t : Nat, h 0 9 = (t : Int) := ⟨(h 0 9).toNat, by have := M.1; omega⟩
  have ht7 : t ≤ 700 := by have := M.1; omega
  have h13 : h 35 13 = (t : Int) := by rw [← M.2.1]; exact ht9
  generalize hxs : (fun i : Nat => if i = 0 then x1 else if i = 1 then x2 else if i = 2 then x3 else if i = 3 then x4 else x5) = xs
  have y1 : xs 0 = x1 := by rw [← hxs]; rfl
  have y2 : xs 1 = x2 := by rw [← hxs]; rfl
  have y3 : xs 2 = x3 := by rw [← hxs]; rfl
  have y4 : xs 3 = x4 := by rw [← hxs]; rfl
  have y5 : xs 4 = x5 := by rw [← hxs]; rfl
  clear hxs
  have e20 : i_add (t : Int) 20 = ((t + 20 : Nat) : Int) := by rw [ia (by clear ht9 h13; omega) (by clear ht9 h13; omega)]; rfl
  have eC : ∀ (i : Nat) (h' : Hp), FP byC 0 9 17 xs t h i h' → t + 20 ≤ 700 → i < 5 → wp (fX5_putBytes (xs i) h') (fun r => FP byC 0 9 17 xs t h (i + 1) r.2) := by
    intro i h' p hle hi
    refine (c_put (t := t + 4 * i) (by clear ht9 h13 e20 y1 y2 y3 y4 y5; omega) p.1).mono ?_
    rintro r ⟨r1, r2, r3⟩
    exact p.step r1 r2 r3 (fun k z => absurd z.1 (by decide))
  have eM : ∀ (i : Nat) (h0 h' : Hp), FP byM 35 13 42 xs t h0 i h' → t + 20 ≤ 700 → i < 5 → wp (fX6_lays (xs i) h') (fun r => FP byM 35 13 42 xs t h0 (i + 1) r.2) := by
    intro i h0 h' p hle hi
    refine (m_lay4 (t := t + 4 * i) (by clear ht9 h13 e20 y1 y2 y3 y4 y5; omega) p.1).mono ?_
    rintro r ⟨r1, r2, r3⟩
    exact p.step r1 r2 r3 (fun k z => absurd z.1 (by decide))
  unfold fX5_feed
  rw [ht9, e20]
  by_cases hle : t + 20 ≤ 700
  · refine w_t (by clear ht9 h13 e20 y1 y2 y3 y4 y5; omega) ?_
    rw [← y1, ← y2, ← y3, ← y4, ← y5, wp_bd]
    refine (eC 0 h ⟨ht9, fun i' hi' => absurd hi' (by omega), fun _ _ _ _ => rfl⟩ hle (by decide)).mono ?_
    rintro ⟨_, g1⟩ p1
    rw [wp_bd]
    refine (eC 1 g1 p1 hle (by decide)).mono ?_
    rintro ⟨_, g2⟩ p2
    rw [wp_bd]
    refine (eC 2 g2 p2 hle (by decide)).mono ?_
    rintro ⟨_, g3⟩ p3
    rw [wp_bd]
    refine (eC 3 g3 p3 hle (by decide)).mono ?_
    rintro ⟨_, g4⟩ p4
    rw [wp_bd]
    refine (eC 4 g4 p4 hle (by decide)).mono ?_
    rintro ⟨_, g5⟩ p5
    dsimp only at p5 ⊢
    clear p1 p2 p3 p4
    rw [wp_some]
    show wp (fX6_feed (xs 0) (xs 1) (xs 2) (xs 3) (xs 4) g5) (fun y => y.1 = g5 0 9 ∧ Inv κ y.2)
    unfold fX6_feed
    rw [wp_lb]
    have b13 : st g5 35 0 0 35 13 = (t : Int) := by rw [st_nk (by decide), p5.2.2 _ _ (by decide) (fun z => absurd z.1 (by decide))]; exact h13
    rw [b13, e20]
    refine w_t (by clear ht9 h13 e20 y1 y2 y3 y4 y5 b13; omega) ?_
    rw [wp_bd]
    refine (eM 0 _ _ ⟨b13, fun i' hi' => absurd hi' (by omega), fun _ _ _ _ => rfl⟩ hle (by decide)).mono ?_
    rintro ⟨_, k1⟩ p1
    rw [wp_bd]
    refine (eM 1 _ k1 p1 hle (by decide)).mono ?_
    rintro ⟨_, k2⟩ p2
    rw [wp_bd]
    refine (eM 2 _ k2 p2 hle (by decide)).mono ?_
    rintro ⟨_, k3⟩ p3
    rw [wp_bd]
    refine (eM 3 _ k3 p3 hle (by decide)).mono ?_
    rintro ⟨_, k4⟩ p4
    rw [wp_bd]
    refine (eM 4 _ k4 p4 hle (by decide)).mono ?_
    rintro ⟨_, k5⟩ q5
    dsimp only at q5 ⊢
    rw [wp_some]
    obtain ⟨u1, u2, u3⟩ := p5
    obtain ⟨v1, v2, v3⟩ := q5
    refine ⟨by rw [v1, u1], ?_⟩
    show Inv κ k5
    have fr : ∀ a k, ¬ SX a k → ¬ (a = 0 ∧ k = 9) → a ≠ 17 → ¬ (a = 35 ∧ k = 13) → a ≠ 42 → k5 a k = h a k := fun a k n n1 n2 n3 n4 => by
      have e : st g5 35 0 0 a k = g5 a k := if_neg (fun z => n (by unfold SX; omega))
      rw [v3 a k n3 (fun z => n4 z.1), e, u3 a k n1 (fun z => n2 z.1)]
    have q : ∀ a k, ¬ SX a k ∧ ¬ (a = 0 ∧ k = 9) ∧ a ≠ 17 ∧ ¬ (a = 35 ∧ k = 13) ∧ a ≠ 42 → k5 a k = h a k := fun a k n => fr a k n.1 n.2.1 n.2.2.1 n.2.2.2.1 n.2.2.2.2
    have w9 : k5 0 9 = ((t + 20 : Nat) : Int) := by rw [v3 0 9 (by decide) (fun z => absurd z.1 (by decide)), st_na (by decide)]; exact u1
    have w13 : k5 35 13 = ((t + 20 : Nat) : Int) := v1
    have w17 : ∀ k, k5 17 k = g5 17 k := fun k => by rw [v3 17 k (fun z => absurd z.1 (by decide)) (fun z => absurd z.1 (by decide)), st_na (by decide)]
    have o17 : ∀ k, k < t → k5 17 k = h 17 k := fun k hk => by rw [w17, u3 17 k (fun z => absurd z.1 (by decide)) (fun z => by have := z.2; omega)]
    have o42 : ∀ k, k < t → k5 42 k = h 42 k := fun k hk => by rw [v3 42 k (fun z => absurd z.1 (by decide)) (fun z => by have := z.2; omega), st_na (by decide), u3 42 k (fun z => absurd z.1 (by decide)) (fun z => absurd z.1 (by decide))]
    have n17 : ∀ i', i' < 5 → ∀ j, j < 4 → k5 17 (t + 4 * i' + j) = byC (xs i') j := fun i' hi j hj => by rw [w17]; exact u2 i' hi j hj
    have n42 : ∀ i', i' < 5 → ∀ j, j < 4 → k5 42 (t + 4 * i' + j) = byM (xs i') j := v2
    clear v3 u3 h13 e20 y1 y2 y3 y4 y5 b13 eC eM v1 v2 u1 u2 w17 fr
    obtain ⟨m1, m2, m3, m4, m5, m6, m7, m8, m9⟩ := M
    rw [ht9] at m3
    clear ht9 m1 m2
    have CC : Core D ht ro L nr rh rm k5 := by
      clear w9 w13
      obtain ⟨a1, a2, a3, ⟨b1, b2, b3, b4, b5⟩, ⟨c1, c2, c3⟩, a6, a7, a8, ⟨d1, d2, d3⟩, a10, a11, a12⟩ := C
      refine ⟨a1, a2, a3, ⟨b1, ?_, b3.same (fun a k q1 q2 => q _ _ (by unfold SX; omega)), fun c hc => ?_, b5.same (fun k => q _ _ (by unfold SX; omega))⟩, ⟨c1, ?_, fun i hi => ⟨(c3 i hi).1, ?_, ?_⟩⟩, a6.same (fun a k p => q _ _ (by unfold SX; omega)), fun c hc => ?_, a8.same (fun k => q _ _ (by unfold SX; omega)), ⟨d1, ?_, fun i hi => ⟨(d3 i hi).1, ?_, ?_⟩⟩, ?_, ?_, ?_⟩
      · rw [q _ _ (by unfold SX; omega)]; exact b2
      · rw [q _ _ (by unfold SX; omega)]; exact b4 c hc
      · rw [q _ _ (by unfold SX; omega)]; exact c2
      · rw [q _ _ (by unfold SX; omega)]; exact (c3 i hi).2.1
      · rw [q _ _ (by unfold SX; omega)]; exact (c3 i hi).2.2
      · rw [q _ _ (by unfold SX; omega)]; exact a7 c hc
      · rw [q _ _ (by unfold SX; omega)]; exact d2
      · rw [q _ _ (by unfold SX; omega)]; exact (d3 i hi).2.1
      · rw [q _ _ (by unfold SX; omega)]; exact (d3 i hi).2.2
      · rw [q _ _ (by unfold SX; omega)]; exact a10
      · rw [q _ _ (by unfold SX; omega)]; exact a11
      · rw [q _ _ (by unfold SX; omega)]; exact a12
    refine ⟨D, ht, ro, L, nr, rh, rm, na, P, CC, ?_, ?_, ⟨?_, ?_, ?_, ?_, ?_, ?_, ?_, ?_, ?_⟩, ?_⟩
    · unfold Oth at O ⊢
      rw [q _ _ (by unfold SX; decide)]; exact O
    · exact Q.same (fun k => q _ _ (by clear w9 w13; unfold SX; omega)) (fun k => q _ _ (by clear w9 w13; unfold SX; omega)) (fun k => q _ _ (by clear w9 w13; unfold SX; omega)) (q _ _ (by clear w9 w13; unfold SX; omega))
    · rw [w9]; clear w9 w13; omega
    · rw [w9, w13]
    · intro k hk
      rw [w9] at hk
      clear w9 w13
      by_cases e : k < t
      · rw [o17 k e, o42 k e]
        exact m3 k (by omega)
      · obtain ⟨i', j, hi, hj, rfl⟩ : ∃ i' j, i' < 5 ∧ j < 4 ∧ k = t + 4 * i' + j := ⟨(k - t) / 4, (k - t) % 4, by omega, by omega, by omega⟩
        rw [n17 i' hi j hj, n42 i' hi j hj]
        exact by_rel (xs i') j
    · rw [q 0 10 (by unfold SX; decide), q 35 15 (by unfold SX; decide)]; exact m4
    · rw [q 0 11 (by unfold SX; decide), q 43 0 (by unfold SX; decide)]; exact m5
    · rw [q 0 12 (by unfold SX; decide), q 43 1 (by unfold SX; decide)]; exact m6
    · rw [q 0 13 (by unfold SX; decide), q 43 2 (by unfold SX; decide)]; exact m7
    · rw [q 35 59 (by unfold SX; decide), q 0 15 (by unfold SX; decide)]
      refine m8.imp id ?_
      rintro ⟨n, c1, c2, c3, c4⟩
      exact ⟨n, c1, c2, c3, fun i hi => by rw [q 34 _ (by clear w9 w13; unfold SX; omega), q 60 _ (by clear w9 w13; unfold SX; omega)]; exact c4 i hi⟩
    · rw [q 35 61 (by unfold SX; decide), q 31 3 (by unfold SX; decide)]
      refine m9.imp id ?_
      rintro ⟨c1, c2, c3⟩
      exact ⟨c1, c2, fun i hi => by rw [q 32 _ (by clear w9 w13; unfold SX; omega), q 61 _ (by clear w9 w13; unfold SX; omega)]; exact c3 i hi⟩
    · exact G.cg (fun a k p => q _ _ (by clear w9 w13; unfold SX; omega))
  · refine w_f (by clear ht9 h13 e20 y1 y2 y3 y4 y5; omega) ?_
    rw [wp_some]
    refine q_n I0 Same.rf (fun h' s => ?_)
    obtain ⟨C0, z0, s1, s2⟩ := C.z s
    unfold fX6_feed
    have b13 : st h' 35 0 0 35 13 = (t : Int) := by rw [s2 _ _ (by unfold SX; omega)]; exact h13
    rw [wp_lb, b13, e20]
    exact w_f (by clear ht9 h13 e20 y1 y2 y3 y4 y5 b13; omega) (wp_some.mpr ⟨rfl, s1⟩)
