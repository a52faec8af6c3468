/-! pure part: ACTS -/
theorem Misc.cg {D : LD} {h h' : Hp} (C : Misc D h) (s : ∀ a k, ((a = 0 ∧ 9 ≤ k ∧ k ≤ 15) ∨ a = 17 ∨ a = 42 ∨ a = 43 ∨ a = 34 ∨ a = 60 ∨ a = 61 ∨ a = 32 ∨ (a = 35 ∧ (k = 13 ∨ k = 15 ∨ k = 59 ∨ k = 61)) ∨ (a = 31 ∧ k = 3)) → h' a k = h a k) : Misc D h' := by
  have z0_9 : h' 0 9 = h 0 9 := s _ _ (by omega)
  have z0_10 : h' 0 10 = h 0 10 := s _ _ (by omega)
  have z0_11 : h' 0 11 = h 0 11 := s _ _ (by omega)
  have z0_12 : h' 0 12 = h 0 12 := s _ _ (by omega)
  have z0_13 : h' 0 13 = h 0 13 := s _ _ (by omega)
  have z0_15 : h' 0 15 = h 0 15 := s _ _ (by omega)
  have z17 : ∀ k, h' 17 k = h 17 k := fun k => s _ _ (by omega)
  have z42 : ∀ k, h' 42 k = h 42 k := fun k => s _ _ (by omega)
  have z43 : ∀ k, h' 43 k = h 43 k := fun k => s _ _ (by omega)
  have z34 : ∀ k, h' 34 k = h 34 k := fun k => s _ _ (by omega)
  have z60 : ∀ k, h' 60 k = h 60 k := fun k => s _ _ (by omega)
  have z61 : ∀ k, h' 61 k = h 61 k := fun k => s _ _ (by omega)
  have z32 : ∀ k, h' 32 k = h 32 k := fun k => s _ _ (by omega)
  have z35a : h' 35 13 = h 35 13 := s _ _ (by omega)
  have z35b : h' 35 15 = h 35 15 := s _ _ (by omega)
  have z35c : h' 35 59 = h 35 59 := s _ _ (by omega)
  have z35d : h' 35 61 = h 35 61 := s _ _ (by omega)
  have z31 : h' 31 3 = h 31 3 := s _ _ (by omega)
  unfold Misc at C ⊢
  simp only [z0_9, z0_10, z0_11, z0_12, z0_13, z0_15, z17, z42, z43, z34, z60, z61, z32, z35a, z35b, z35c, z35d, z31]
  exact C
theorem Img.cg {κ : Int} {D : LD} {h h' : Hp} (C : Img κ D h) (s : ∀ a k, ((a = 0 ∧ (k = 5 ∨ k = 6)) ∨ (69 ≤ a ∧ a ≤ 73) ∨ (65 ≤ a ∧ a ≤ 67) ∨ (a = 35 ∧ 68 ≤ k ∧ k ≤ 70)) → h' a k = h a k) : Img κ D h' := by
  have z05 : h' 0 5 = h 0 5 := s _ _ (by omega)
  have z06 : h' 0 6 = h 0 6 := s _ _ (by omega)
  have z69 : ∀ k, h' 69 k = h 69 k := fun k => s _ _ (by omega)
  have z72 : ∀ k, h' 72 k = h 72 k := fun k => s _ _ (by omega)
  have z73 : ∀ k, h' 73 k = h 73 k := fun k => s _ _ (by omega)
  have z67 : ∀ k, h' 67 k = h 67 k := fun k => s _ _ (by omega)
  have z70 : h' 70 = h 70 := funext (fun k => s _ _ (by omega))
  have z65 : h' 65 = h 65 := funext (fun k => s _ _ (by omega))
  have y68 : h' 35 68 = h 35 68 := s _ _ (by omega)
  have y69 : h' 35 69 = h 35 69 := s _ _ (by omega)
  have y70 : h' 35 70 = h 35 70 := s _ _ (by omega)
  unfold Img at C ⊢
  simp only [z05, z06, z69, z72, z73, z67, z70, z65, y68, y69, y70]
  refine ⟨C.1, C.2.imp id ?_⟩
  rintro ⟨c1, c2, c3, ro, na, P, nr, rh, rm, d1, d2, d3, d4, d5⟩
  exact ⟨c1, c2, c3, ro, na, P, nr, rh, rm, d1, d2, d3, d4.same z69 (fun k => s _ _ (by omega)) (fun k => s _ _ (by omega)) rfl, d5⟩
/-- what the class, what the reference may change in an ACT -/
def SAc : Nat → Nat → Prop := fun a k => ((18 ≤ a ∧ a ≤ 25) ∨ (a = 31 ∧ (k = 0 ∨ k = 4)) ∨ a = 33 ∨ a = 68) ∨ (a = 26 ∧ (k = 2 ∨ k = 3)) ∨ a = 27 ∨ a = 28
def SAm : Nat → Nat → Prop := fun a k => ((a = 35 ∧ (k = 0 ∨ (54 ≤ k ∧ k ≤ 56) ∨ k = 67)) ∨ a = 55 ∨ (57 ≤ a ∧ a ≤ 59) ∨ a = 62 ∨ a = 63) ∨ a = 54 ∨ a = 56 ∨ (a = 35 ∧ k = 49)
theorem SR_A {h h' : Hp} (s : Same SR h h') : Same SAc h h' := s.mono (fun a k p => by unfold SR at p; unfold SAc; omega)
theorem SC_A {h h' : Hp} (s : Same SC h h') : Same SAc h h' := s.mono (fun a k p => by unfold SC at p; unfold SAc; omega)
theorem SK_A {h h' : Hp} (s : Same SK h h') : Same SAm h h' := s.mono (fun a k p => by unfold SK at p; unfold SAm; omega)
theorem SY_A {h h' : Hp} (s : Same SY h h') : Same SAm h h' := s.mono (fun a k p => by unfold SY at p; unfold SAm; omega)
theorem Inv.act {κ : Int} {D : LD} {ht ro ro' : Nat → Int} {L nr : Nat} {rh : Nat → Nat} {rm : Nat → Int} {na' : Nat} {P' : Nat → Nat → Int} {h h1 h2 : Hp} (C : Core D ht ro L nr rh rm h) (O : Oth h L) (M : Misc D h) (G : Img κ D h) (s1 : Same SAc h h1) (s2 : Same SAm h1 h2) (R' : RW D 999 ro') (r27 : RR D ro' (h1 27)) (r54 : RR D ro' (h2 54)) (hna : na' ≤ 40) (hP : ∀ i, i < na' → RW D 999 (P' i)) (pc : PCl D na' P' 26 h1) (pm : PMo D na' P' 56 (h2 35 49) h2) : Inv κ h2 := by
  have q : ∀ a k, ¬ SAc a k → ¬ SAm a k → h2 a k = h a k := fun a k n1 n2 => (s2 a k n2).trans (s1 a k n1)
  obtain ⟨a1, a2, a3, ⟨b1, b2, b3, b4, b5⟩, ⟨c1, c2, c3⟩, a6, a7, a8, ⟨d1, d2, d3⟩, a10, a11, a12⟩ := C
  have hL := b1
  refine ⟨D, ht, ro', L, nr, rh, rm, na', P', ⟨a1, a2, R', ⟨b1, ?_, b3.same (fun a k q1 q2 => q _ _ (by unfold SAc; omega) (by unfold SAm; omega)), fun c hc => ?_, r27.same (fun k => s2 _ _ (by unfold SAm; omega))⟩, ⟨c1, ?_, fun i hi => ⟨(c3 i hi).1, ?_, ?_⟩⟩, a6.same (fun a k p => q _ _ (by unfold SAc; omega) (by unfold SAm; omega)), fun c hc => ?_, r54, ⟨d1, ?_, fun i hi => ⟨(d3 i hi).1, ?_, ?_⟩⟩, ?_, ?_, ?_⟩, ?_, past_iff.mpr ⟨⟨hna, hP⟩, ?_, pm⟩, M.cg (fun a k p => q _ _ (by unfold SAc; omega) (by unfold SAm; omega)), G.cg (fun a k p => q _ _ (by unfold SAc; omega) (by unfold SAm; omega))⟩
  · rw [q _ _ (by unfold SAc; omega) (by unfold SAm; omega)]; exact b2
  · rw [q _ _ (by unfold SAc; omega) (by unfold SAm; omega)]; exact b4 c hc
  · rw [q _ _ (by unfold SAc; omega) (by unfold SAm; omega)]; exact c2
  · rw [q _ _ (by unfold SAc; omega) (by unfold SAm; omega)]; exact (c3 i hi).2.1
  · rw [q _ _ (by unfold SAc; omega) (by unfold SAm; omega)]; exact (c3 i hi).2.2
  · rw [q _ _ (by unfold SAc; omega) (by unfold SAm; omega)]; exact a7 c hc
  · rw [q _ _ (by unfold SAc; omega) (by unfold SAm; omega)]; exact d2
  · rw [q _ _ (by unfold SAc; omega) (by unfold SAm; omega)]; exact (d3 i hi).2.1
  · rw [q _ _ (by unfold SAc; omega) (by unfold SAm; omega)]; exact (d3 i hi).2.2
  · rw [q _ _ (by unfold SAc; omega) (by unfold SAm; omega)]; exact a10
  · rw [q _ _ (by unfold SAc; omega) (by unfold SAm; omega)]; exact a11
  · rw [q _ _ (by unfold SAc; omega) (by unfold SAm; omega)]; exact a12
  · unfold Oth at O ⊢
    rw [q _ _ (by unfold SAc; omega) (by unfold SAm; omega)]; exact O
  · obtain ⟨p1, o, p2, p3, p4⟩ := pc
    exact ⟨by rw [s2 _ _ (by unfold SAm; omega)]; exact p1, o, p2, by rw [s2 _ _ (by unfold SAm; omega)]; exact p3, fun i hi => (p4 i hi).same (fun k => s2 _ _ (by unfold SAm; omega))⟩
/-- the reference's own side, whatever the class has done in an ACT -/
theorem Core.mz {D : LD} {ht ro : Nat → Int} {L nr na : Nat} {rh : Nat → Nat} {rm : Nat → Int} {P : Nat → Nat → Int} {h h' : Hp} (C : Core D ht ro L nr rh rm h) (Q : PMo D na P 56 (h 35 49) h) (s : Same SAc h h') :
    ML D (st h' 35 0 0) ∧ RR D ro (st h' 35 0 0 54) ∧ st h' 35 0 0 35 0 = 0 ∧ PMo D na P 56 (st h' 35 0 0 35 49) (st h' 35 0 0) ∧ Same SAm h' (st h' 35 0 0) ∧ MS D ht (st h' 35 0 0 57) ro (fogY D (ro 61)) (st h' 35 0 0) ∧ st h' 35 0 0 35 52 = -1 ∧ st h' 35 0 0 35 53 = -1 := by
  have q : ∀ a k, ¬ SAc a k → ¬ (a = 35 ∧ k = 0) → st h' 35 0 0 a k = h a k := fun a k n1 n2 => by
    have e : st h' 35 0 0 a k = h' a k := if_neg n2
    rw [e, s a k n1]
  have r : RR D ro (st h' 35 0 0 54) := C.2.2.2.2.2.2.2.1.same (fun k => q _ _ (by unfold SAc; omega) (by omega))
  have m : ML D (st h' 35 0 0) := C.2.2.2.2.2.1.same (fun a k p => q _ _ (by unfold SAc; omega) (by omega))
  have hy := C.2.2.1.2.2.2
  refine ⟨m, r, st_self, ?_, st_same (Or.inl (Or.inl ⟨rfl, Or.inl rfl⟩)), ⟨m, fun c hc => ?_, fun c hc => rfl, r, Or.inl ⟨?_, rfl⟩, fogY_9 C.1, by omega, by omega⟩, ?_, ?_⟩
  · rw [q _ _ (by unfold SAc; omega) (by omega)]
    exact ⟨Q.1, fun i hi => (Q.2 i hi).same (fun k => q _ _ (by unfold SAc; omega) (by omega))⟩
  · rw [q _ _ (by unfold SAc; omega) (by omega)]; exact C.2.2.2.2.2.2.1 c hc
  · rw [q _ _ (by unfold SAc; omega) (by omega)]; exact C.2.2.2.2.2.2.2.2.2.1
  · rw [q _ _ (by unfold SAc; omega) (by omega)]; exact C.2.2.2.2.2.2.2.2.2.2.1
  · rw [q _ _ (by unfold SAc; omega) (by omega)]; exact C.2.2.2.2.2.2.2.2.2.2.2
theorem act_ok {κ : Int} {D : LD} {ht ro ro' : Nat → Int} {L nr : Nat} {rh : Nat → Nat} {rm : Nat → Int} {na' : Nat} {P' : Nat → Nat → Int} {h h1 : Hp} {fm : Hp → Option (Int × Hp)} {cd : Nat → Int} {v : Int} (C : Core D ht ro L nr rh rm h) (O : Oth h L) (M : Misc D h) (G : Img κ D h) (s1 : Same SAc h h1) (R' : RW D 999 ro') (r27 : RR D ro' (h1 27)) (hna : na' ≤ 40) (hP : ∀ i, i < na' → RW D 999 (P' i)) (pc : PCl D na' P' 26 h1) (hm : ∀ h', Same SAc h h' → wp (fm h') (fun y => y.1 = v ∧ y.2 35 0 = 0 ∧ Same SAm h' y.2 ∧ RR D ro' (y.2 54) ∧ PMo D na' P' 56 (y.2 35 49) y.2)) : PT κ fm cd (.inl (v, h1)) := by
  have s68 : Same SAc h (st h1 68 0 v) := s1.st (Or.inl (Or.inr (Or.inr (Or.inr rfl))))
  refine (hm (st h1 68 0 v) s68).mono ?_
  rintro y ⟨y1, y2, y3, y4, y5⟩
  refine ⟨y2, ?_, Inv.act C O M G s68 y3 R' (r27.same (fun k => st_na (by decide))) y4 hna hP ?_ y5⟩
  · rw [y3 _ _ (by unfold SAm; omega), st_self, y1]
  · obtain ⟨p1, o, p2, p3, p4⟩ := pc
    exact ⟨by rw [st_na (by decide)]; exact p1, o, p2, by rw [st_na (by decide)]; exact p3, fun i hi => (p4 i hi).same (fun k => st_na (by decide))⟩
theorem act_n {κ : Int} {D : LD} {ht ro ro' : Nat → Int} {L nr : Nat} {rh : Nat → Nat} {rm : Nat → Int} {na' : Nat} {P' : Nat → Nat → Int} {h h1 : Hp} {fm : Hp → Option (Int × Hp)} {v : Int} (C : Core D ht ro L nr rh rm h) (O : Oth h L) (M : Misc D h) (G : Img κ D h) (s1 : Same SAc h h1) (R' : RW D 999 ro') (r27 : RR D ro' (h1 27)) (hna : na' ≤ 40) (hP : ∀ i, i < na' → RW D 999 (P' i)) (pc : PCl D na' P' 26 h1) (hm : ∀ h', Same SAc h h' → wp (fm h') (fun y => y.1 = v ∧ Same SAm h' y.2 ∧ RR D ro' (y.2 54) ∧ PMo D na' P' 56 (y.2 35 49) y.2)) : PN κ fm (v, h1) := by
  refine (hm h1 s1).mono ?_
  rintro y ⟨y1, y3, y4, y5⟩
  exact ⟨y1, Inv.act C O M G s1 y3 R' r27 y4 hna hP pc y5⟩
/-- a refusal counted on both sides -/
theorem Inv.refuse {κ : Int} {h h1 h2 : Hp} {w : Nat} (I : Inv κ h) (hw : w < 3) (s1 : Same (fun a k => SX a k ∨ (a = 0 ∧ k = 11 + w)) h h1) (s2 : Same (fun a k => SX a k ∨ (a = 43 ∧ k = w)) h1 h2) (e1 : h1 0 (11 + w) = i_add (h 0 (11 + w)) 1) (e2 : h2 43 w = i_add (h 43 w) 1) : Inv κ h2 := by
  obtain ⟨D, ht, ro, L, nr, rh, rm, na, P, C, O, Q, M, G⟩ := I
  -- a heap that differs from h2 in these two alone
  have q : ∀ a k, ¬ SX a k → ¬ (a = 0 ∧ k = 11 + w) → ¬ (a = 43 ∧ k = w) → h2 a k = h a k := fun a k n n1 n2 => (s2 a k (fun p => p.elim n n2)).trans (s1 a k (fun p => p.elim n n1))
  have sX : Same SX h (fun a k => if (a = 0 ∧ k = 11 + w) ∨ (a = 43 ∧ k = w) then h a k else h2 a k) := fun a k n => by
    dsimp only
    by_cases e : (a = 0 ∧ k = 11 + w) ∨ (a = 43 ∧ k = w)
    · rw [if_pos e]
    · rw [if_neg e]
      exact q a k n (fun z => e (Or.inl z)) (fun z => e (Or.inr z))
  have C' := C.same sX
  have L19 := C.2.2.2.1.1
  refine ⟨D, ht, ro, L, nr, rh, rm, na, P, ?_, ?_, ?_, ?_, ?_⟩
  · obtain ⟨a1, a2, a3, ⟨b1, b2, b3, b4, b5⟩, ⟨c1, c2, c3⟩, a6, a7, a8, ⟨d1, d2, d3⟩, a10, a11, a12⟩ := C
    refine ⟨a1, a2, a3, ⟨b1, ?_, b3.same (fun a k q1 q2 => q _ _ (by unfold SX; omega) (by omega) (by omega)), fun c hc => ?_, b5.same (fun k => q _ _ (by unfold SX; omega) (by omega) (by omega))⟩, ⟨c1, ?_, fun i hi => ⟨(c3 i hi).1, ?_, ?_⟩⟩, a6.same (fun a k p => q _ _ (by unfold SX; omega) (by omega) (by omega)), fun c hc => ?_, a8.same (fun k => q _ _ (by unfold SX; omega) (by omega) (by omega)), ⟨d1, ?_, fun i hi => ⟨(d3 i hi).1, ?_, ?_⟩⟩, ?_, ?_, ?_⟩
    · rw [q _ _ (by unfold SX; omega) (by omega) (by omega)]; exact b2
    · rw [q _ _ (by unfold SX; omega) (by omega) (by omega)]; exact b4 c hc
    · rw [q _ _ (by unfold SX; omega) (by omega) (by omega)]; exact c2
    · rw [q _ _ (by unfold SX; omega) (by omega) (by omega)]; exact (c3 i hi).2.1
    · rw [q _ _ (by unfold SX; omega) (by omega) (by omega)]; exact (c3 i hi).2.2
    · rw [q _ _ (by unfold SX; omega) (by omega) (by omega)]; exact a7 c hc
    · rw [q _ _ (by unfold SX; omega) (by omega) (by omega)]; exact d2
    · rw [q _ _ (by unfold SX; omega) (by omega) (by omega)]; exact (d3 i hi).2.1
    · rw [q _ _ (by unfold SX; omega) (by omega) (by omega)]; exact (d3 i hi).2.2
    · rw [q _ _ (by unfold SX; omega) (by omega) (by omega)]; exact a10
    · rw [q _ _ (by unfold SX; omega) (by omega) (by omega)]; exact a11
    · rw [q _ _ (by unfold SX; omega) (by omega) (by omega)]; exact a12
  · unfold Oth at O ⊢
    rw [q _ _ (by unfold SX; omega) (by omega) (by omega)]; exact O
  · exact Q.same (fun k => q _ _ (by unfold SX; omega) (by omega) (by omega)) (fun k => q _ _ (by unfold SX; omega) (by omega) (by omega)) (fun k => q _ _ (by unfold SX; omega) (by omega) (by omega)) (q _ _ (by unfold SX; omega) (by omega) (by omega))
  · have x0 : h2 0 (11 + w) = i_add (h 0 (11 + w)) 1 := by rw [s2 _ _ (fun p => by unfold SX at p; omega)]; exact e1
    have z0 : ∀ k, k ≠ 11 + w → h2 0 k = h 0 k := fun k n => q _ _ (by unfold SX; omega) (by omega) (by omega)
    have z43 : ∀ k, k ≠ w → h2 43 k = h 43 k := fun k n => q _ _ (by unfold SX; omega) (by omega) (by omega)
    obtain ⟨m1, m2, m3, m4, m5, m6, m7, m8, m9⟩ := M
    have hr : ∀ v : Nat, v < 3 → h 0 (11 + v) = h 43 v := fun v hv => by
      have : v = 0 ∨ v = 1 ∨ v = 2 := by omega
      rcases this with rfl | rfl | rfl
      · exact m5
      · exact m6
      · exact m7
    have hr2 : ∀ v : Nat, v < 3 → h2 0 (11 + v) = h2 43 v := fun v hv => by
      by_cases ev : v = w
      · subst ev
        rw [x0, e2, hr v hv]
      · rw [z0 _ (by omega), z43 _ ev]
        exact hr v hv
    have z9 : h2 0 9 = h 0 9 := z0 9 (by omega)
    refine ⟨by rw [z9]; exact m1, by rw [z9, q _ _ (by unfold SX; omega) (by omega) (by omega)]; exact m2, ?_, by rw [z0 10 (by omega), q _ _ (by unfold SX; omega) (by omega) (by omega)]; exact m4, hr2 0 (by decide), hr2 1 (by decide), hr2 2 (by decide), ?_, ?_⟩
    · intro k hk
      rw [z9] at hk
      rw [q 17 _ (by unfold SX; omega) (by omega) (by omega), q 42 _ (by unfold SX; omega) (by omega) (by omega)]
      exact m3 k hk
    · rw [q 35 59 (by unfold SX; omega) (by omega) (by omega), z0 15 (by omega)]
      refine m8.imp id ?_
      rintro ⟨n, n1, n2, n3, n4⟩
      exact ⟨n, n1, n2, n3, fun i hi => by rw [q 34 _ (by unfold SX; omega) (by omega) (by omega), q 60 _ (by unfold SX; omega) (by omega) (by omega)]; exact n4 i hi⟩
    · rw [q 35 61 (by unfold SX; omega) (by omega) (by omega), q 31 3 (by unfold SX; omega) (by omega) (by omega)]
      refine m9.imp id ?_
      rintro ⟨n1, n2, n3⟩
      exact ⟨n1, n2, fun i hi => by rw [q 32 _ (by unfold SX; omega) (by omega) (by omega), q 61 _ (by unfold SX; omega) (by omega) (by omega)]; exact n3 i hi⟩
  · exact G.cg (fun a k p => q _ _ (by unfold SX; omega) (by omega) (by omega))
