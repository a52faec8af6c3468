/-! pure part: years to come -/
theorem cp_loop {l2 : Int → Hp → Option ((Int × Hp) ⊕ Hp)} {src dst N : Nat} {h : Hp} (hne : src ≠ dst) (hN : N < 4000) (hs : ∀ (k : Nat) (hh : Hp), k < N → l2 (k : Int) hh = some (.inl (((k + 1 : Nat) : Int), st hh dst k (hh src k)))) (he : ∀ hh, l2 (N : Int) hh = some (.inr hh)) : it_ (fun s : Int × Hp => l2 s.1 s.2) FU (0, h) = some (fil h dst N (h src)) := by
  refine it_for (P := fun k => ((k : Int), fil h dst k (h src))) N (fun k hk => ?_) ?_ ?_ (FU_big hN)
  · show l2 (k : Int) (fil h dst k (h src)) = _
    rw [hs k _ hk]
    have e : fil h dst k (h src) src k = h src k := by
      unfold fil
      rw [if_neg (fun q => hne q.1)]
    rw [e, st_fil]
  · show l2 (N : Int) _ = _
    exact he _
  · rw [fil_0]
    rfl
theorem m_cp5455 {h : Hp} : fX6_copies_54_55 h = some (0, fil h 55 62 (h 54)) := by
  unfold fX6_copies_54_55
  rw [cp_loop (src := 54) (dst := 55) (N := 62) (by decide) (by decide) (fun k hh hk => ?_) (fun hh => ?_)]
  · rfl
  · unfold fX6_copies_54_55_l2
    rw [if_neg (by omega), gd_y ⟨by omega, by omega⟩, gd_y ⟨by omega, by omega⟩, Int.toNat_natCast, i1 (by omega)]
    rfl
  · unfold fX6_copies_54_55_l2
    rw [if_pos (Int.le_refl _)]
theorem m_cp5554 {h : Hp} : fX6_copies_55_54 h = some (0, fil h 54 62 (h 55)) := by
  unfold fX6_copies_55_54
  rw [cp_loop (src := 55) (dst := 54) (N := 62) (by decide) (by decide) (fun k hh hk => ?_) (fun hh => ?_)]
  · rfl
  · unfold fX6_copies_55_54_l2
    rw [if_neg (by omega), gd_y ⟨by omega, by omega⟩, gd_y ⟨by omega, by omega⟩, Int.toNat_natCast, i1 (by omega)]
    rfl
  · unfold fX6_copies_55_54_l2
    rw [if_pos (Int.le_refl _)]
theorem fil_n {h : Hp} {A N : Nat} {f : Nat → Int} {a k : Nat} (n : a ≠ A) : fil h A N f a k = h a k := if_neg (fun q => n q.1)
theorem fil_y {h : Hp} {A N : Nat} {f : Nat → Int} {k : Nat} (n : k < N) : fil h A N f A k = f k := if_pos ⟨rfl, n⟩
/-- kept aside, used, put back -/
def SV : Nat → Nat → Prop := fun a k => (a = 35 ∧ (54 ≤ k ∧ k ≤ 56)) ∨ (a = 35 ∧ (k = 51 ∨ k = 67)) ∨ (a = 54 ∧ k < 62) ∨ a = 57 ∨ a = 58 ∨ a = 59
theorem SY_V {h h' : Hp} (s : Same SY h h') : Same SV h h' := s.mono (fun a k p => by unfold SY at p; unfold SV; omega)
theorem back {h h1 : Hp} (s : Same SV (fil h 55 62 (h 54)) h1) (h51 : h1 35 51 = h 35 51) : Same SXm h (fil h1 54 62 (h1 55)) := by
  intro a k n
  by_cases e : a = 54 ∧ k < 62
  · obtain ⟨rfl, hk⟩ := e
    rw [fil_y hk, s _ _ (by unfold SV; omega), fil_y hk]
  · have e1 : fil h1 54 62 (h1 55) a k = h1 a k := if_neg e
    rw [e1]
    by_cases e2 : a = 35 ∧ k = 51
    · obtain ⟨rfl, rfl⟩ := e2
      exact h51
    · unfold SXm at n
      rw [s _ _ (by unfold SV; omega), fil_n (by omega)]
/-- rows to come -/
def yR (D : LD) (ht ro : Nat → Int) : Nat → Nat → Int
  | 0 => ro
  | k + 1 => yrR D ht (yR D ht ro k) (fogY D (yR D ht ro k 61))
theorem yR_61 {D : LD} {ht ro : Nat → Int} : ∀ k : Nat, yR D ht ro k 61 = ro 61 + (k : Int)
  | 0 => by show ro 61 = _; omega
  | k + 1 => by
    show yrR D ht (yR D ht ro k) _ 61 = _
    rw [yrR_61, yR_61 k]
    omega
theorem yR_W {D : LD} {Y : Nat} {ht ro : Nat → Int} (W : DW D) (R : RW D Y ro) : ∀ k : Nat, RW D (Y + k) (yR D ht ro k)
  | 0 => R
  | k + 1 => yrR_W W (yR_W W R k)
def paidY (D : LD) (ht ro : Nat → Int) (k : Nat) : Int := sm (fun i => txH D ht (lay D ht (yR D ht ro k)) (yR D ht ro k) (fogY D (yR D ht ro k 61)) i (yR D ht ro k 60)) D.nh
theorem c_yearK {D : LD} {Y : Nat} {ht ro : Nat → Int} {L k : Nat} {h : Hp} (W : DW D) (T : HT D ht) (R : RW D Y ro) (hY : Y + k < 900000) (H : CS D ht (lay D ht (yR D ht ro k)) (yR D ht ro k) (fogY D (yR D ht ro k 61)) L h) :
    wp (fX3_passYear h) (fun r => r.1 = paidY D ht ro k ∧ Same SC h r.2 ∧ CS D ht (lay D ht (yR D ht ro (k + 1))) (yR D ht ro (k + 1)) (fogY D (yR D ht ro (k + 1) 61)) L r.2) := by
  refine (c_passYear W T (yR_W W R k) hY H).mono ?_
  rintro r ⟨r1, r2, r3⟩
  refine ⟨r1, r2, ?_⟩
  have e : yR D ht ro (k + 1) 61 = yR D ht ro k 61 + 1 := yrR_61
  rw [e]
  exact r3
/-- the reference after k years, its own row set aside -/
def MY (D : LD) (ht ro : Nat → Int) (k : Nat) (h0 h : Hp) : Prop := Same SV (fil h0 55 62 (h0 54)) h ∧ h 35 51 = -1 ∧ RR D (yR D ht ro k) (h 54)
theorem MY.ms {D : LD} {Y : Nat} {ht ro : Nat → Int} {L nr : Nat} {rh : Nat → Nat} {rm : Nat → Int} {k : Nat} {h0 h : Hp} (C : Core D ht ro L nr rh rm h0) (R : RW D Y ro) (hY : Y + k < 900000) (H : MY D ht ro k h0 h) : MS D ht (h 57) (yR D ht ro k) (fogY D (yR D ht ro k 61)) h ∧ h 35 52 = -1 ∧ h 35 53 = -1 ∧ h 35 0 = h0 35 0 := by
  obtain ⟨s, h51, hr⟩ := H
  have q : ∀ a k, ¬ SV a k → a ≠ 55 → h a k = h0 a k := fun a k n n5 => by rw [s a k n, fil_n n5]
  have y := (yR_W (ht := ht) C.1 R k).2.2.2
  refine ⟨⟨C.2.2.2.2.2.1.same (fun a k p => q a k (by unfold SV; omega) (by omega)), fun c hc => ?_, fun c hc => rfl, hr, Or.inl ⟨h51, rfl⟩, fogY_9 C.1, by omega, by omega⟩, ?_, ?_, ?_⟩
  · rw [q _ _ (by unfold SV; omega) (by decide)]; exact C.2.2.2.2.2.2.1 c hc
  · rw [q _ _ (by unfold SV; omega) (by decide)]; exact C.2.2.2.2.2.2.2.2.2.2.1
  · rw [q _ _ (by unfold SV; omega) (by decide)]; exact C.2.2.2.2.2.2.2.2.2.2.2
  · exact q _ _ (by unfold SV; omega) (by decide)
theorem m_yearK {D : LD} {Y : Nat} {ht ro : Nat → Int} {L nr : Nat} {rh : Nat → Nat} {rm : Nat → Int} {k : Nat} {h0 h : Hp} (C : Core D ht ro L nr rh rm h0) (R : RW D Y ro) (hY : Y + k < 900000) (H : MY D ht ro k h0 h) :
    wp (fX6_yearGoes h) (fun r => r.1 = paidY D ht ro k ∧ MY D ht ro (k + 1) h0 r.2) := by
  obtain ⟨m1, m2, m3, -⟩ := H.ms C R hY
  refine (m_yearGoes C.1 (yR_W C.1 R k) hY m1 m2 m3).mono ?_
  rintro r ⟨r1, r2, r3⟩
  exact ⟨r1, H.1.tr (SY_V r2), by rw [r2 _ _ (by unfold SY; omega)]; exact H.2.1, r3⟩
theorem MY.start {D : LD} {ht ro : Nat → Int} {L nr : Nat} {rh : Nat → Nat} {rm : Nat → Int} {h0 : Hp} (C : Core D ht ro L nr rh rm h0) : MY D ht ro 0 h0 (fil h0 55 62 (h0 54)) :=
  ⟨Same.rf, by rw [fil_n (by decide)]; exact C.2.2.2.2.2.2.2.2.2.1, by rw [show fil h0 55 62 (h0 54) 54 = h0 54 from funext (fun k => fil_n (by decide))]; exact C.2.2.2.2.2.2.2.1⟩
/-! nothing owed is below 0 -/
theorem lkA_rg (w d : Nat) (sd : Nat → Int) (eye dx dy : Int) (B : Int) : ∀ (n : Nat) (x y far rise k v : Int), 0 ≤ far → far ≤ B → 0 ≤ k → k + n ≤ B + 1 → 0 ≤ (lkA w d sd eye dx dy n x y far rise k v).1 ∧ (lkA w d sd eye dx dy n x y far rise k v).1 ≤ B
  | 0, _, _, _, _, _, _, h1, h2, _, _ => ⟨h1, h2⟩
  | n + 1, x, y, far, rise, k, v, h1, h2, h3, h4 => by
    unfold lkA
    split
    · exact ⟨h1, h2⟩
    · split
      · exact lkA_rg w d sd eye dx dy B n _ _ _ _ _ _ h3 (by omega) (by omega) (by omega)
      · exact lkA_rg w d sd eye dx dy B n _ _ _ _ _ _ h1 h2 (by omega) (by omega)
theorem lkS_rg {w d : Nat} {sd : Nat → Int} {fog c : Nat} {eye : Int} {shut : Nat → Bool} (hf : fog ≤ 9) : ∀ n : Nat, n ≤ 8 → 0 ≤ (lkS w d sd fog c eye shut n).1 ∧ (lkS w d sd fog c eye shut n).1 ≤ 9 * (n : Int)
  | 0, _ => by show 0 ≤ (0 : Int) ∧ (0 : Int) ≤ _; omega
  | n + 1, hn => by
    have ih := lkS_rg (w := w) (d := d) (sd := sd) (c := c) (eye := eye) (shut := shut) hf n (by omega)
    have hq : 0 ≤ (if shut n = true then (0, (lkS w d sd fog c eye shut n).2.2) else lkD w d sd fog c eye n (lkS w d sd fog c eye shut n).2.2).1 ∧ (if shut n = true then (0, (lkS w d sd fog c eye shut n).2.2) else lkD w d sd fog c eye n (lkS w d sd fog c eye shut n).2.2).1 ≤ 9 := by
      split
      · exact ⟨Int.le_refl 0, by show (0 : Int) ≤ 9; decide⟩
      · exact lkA_rg _ _ _ _ _ _ 9 _ _ _ _ _ _ _ (by decide) (by decide) (by decide) (by omega)
    show 0 ≤ i_add (lkS w d sd fog c eye shut n).1 _ ∧ i_add (lkS w d sd fog c eye shut n).1 _ ≤ _
    generalize (lkS w d sd fog c eye shut n).1 = a at *
    generalize (if shut n = true then (0, (lkS w d sd fog c eye shut n).2.2) else lkD w d sd fog c eye n (lkS w d sd fog c eye shut n).2.2).1 = b at *
    rw [ia (by omega) (by omega)]
    omega
theorem clmp_rg (v : Int) : 0 ≤ clmp v ∧ clmp v ≤ 999 := by
  unfold clmp
  split
  · omega
  · split <;> omega
theorem txH_rg {D : LD} {ht sd ro : Nat → Int} {fog i : Nat} {law : Int} (hf : fog ≤ 9) : 0 ≤ txH D ht sd ro fog i law ∧ txH D ht sd ro fog i law ≤ 999 := by
  rw [txH_eq]
  split
  · have := lkS_rg (w := D.w) (d := D.d) (sd := sd) (c := D.hc i) (eye := i_add (i_add (ht (D.hc i)) 2) (ro (42 + i))) (shut := shB (D.kd i) (ro (54 + i))) hf 8 (by decide)
    unfold vw
    omega
  · exact clmp_rg _
theorem sm_rg {f : Nat → Int} (hf : ∀ i, 0 ≤ f i ∧ f i ≤ 999) : ∀ n : Nat, n ≤ 1000 → 0 ≤ sm f n ∧ sm f n ≤ 999 * (n : Int)
  | 0, _ => by show 0 ≤ (0 : Int) ∧ (0 : Int) ≤ _; omega
  | n + 1, hn => by
    have ih := sm_rg hf n (by omega)
    have := hf n
    show 0 ≤ i_add (sm f n) (f n) ∧ i_add (sm f n) (f n) ≤ _
    rw [ia (by omega) (by omega)]
    omega
theorem paid_rg {D : LD} {ht ro : Nat → Int} {k : Nat} (W : DW D) : 0 ≤ paidY D ht ro k := (sm_rg (fun i => txH_rg (fogY_9 W)) D.nh (by have := W.2.2.1; omega)).1
/-- the dearest of the first k years -/
def drS (D : LD) (ht ro : Nat → Int) : Nat → Int × Int
  | 0 => (ro 61, -1)
  | k + 1 => if (drS D ht ro k).2 < paidY D ht ro k then (ro 61 + (k : Int), paidY D ht ro k) else drS D ht ro k
theorem drS_b {D : LD} {ht ro : Nat → Int} (hy : 0 ≤ ro 61) : ∀ k, (drS D ht ro k).1 ≠ -1
  | 0 => by show ro 61 ≠ -1; omega
  | k + 1 => by
    unfold drS
    split
    · show ro 61 + (k : Int) ≠ -1; omega
    · exact drS_b hy k
theorem s_dearest {κ : Int} {x : Int} {h : Hp} (I : Inv κ h) : wp (fX5_dearest x h) (PT κ (fX6_dearest x) (fun _ => 1)) := by
  have I0 := I
  obtain ⟨D, ht, ro, L, nr, rh, rm, na, P, C, -, Q, M, -⟩ := I
  have W := C.1
  have R := C.2.2.1
  have hy := R.2.2.2
  by_cases hx : 1 ≤ x ∧ x ≤ 20
  · obtain ⟨n, rfl⟩ : ∃ n : Nat, x = (n : Int) := ⟨x.toNat, by omega⟩
    have e : fX5_dearest (n : Int) h = mi_ (fX5_dearest_j22 (n : Int) h) := by
      unfold fX5_dearest
      rw [if_neg (by omega), if_pos (by omega)]
    rw [e, wp_mi]
    unfold fX5_dearest_j22
    rw [wp_bd]
    refine C.present.mono ?_
    rintro ⟨r, h5⟩ ⟨r1, r2, r3⟩
    dsimp only at r1 r2 r3 ⊢
    rw [gd20 r1, gd_y (by decide), show h5 21 (Int.toNat 61) = ro 61 from r3.row.2.2.2.2, wp_lb, wp_bp]
    refine (wp_for (Q := fun r : Int × Hp => r.1 = (drS D ht ro n).1 ∧ Same SC h5 r.2) (fun k (s : Int × Int × Int × Hp) => (s.1, s.2.1) = drS D ht ro k ∧ s.2.2.1 = (k : Int) ∧ Same SC h5 s.2.2.2 ∧ CS D ht (lay D ht (yR D ht ro k)) (yR D ht ro k) (fogY D (yR D ht ro k 61)) L s.2.2.2) n ?_ ?_ (FU_big (by omega)) ?_).mono ?_
    · rintro k ⟨b, m, kk, hh⟩ hk ⟨e1, e2, e3, e4⟩
      dsimp only at e1 e2 e3 e4 ⊢
      subst e2
      unfold fX5_dearest_l43
      refine w_f (by omega) ?_
      rw [gd_y (by decide), show hh 21 (Int.toNat 61) = ro 61 + (k : Int) from e4.row.2.2.2.2.trans (yR_61 k), wp_lb, wp_bd]
      refine (c_yearK W C.2.1 R (by omega) e4).mono ?_
      rintro ⟨v, h14⟩ ⟨v1, v2, v3⟩
      dsimp only at v1 v2 v3 ⊢
      subst v1
      have em : drS D ht ro (k + 1) = if m < paidY D ht ro k then (ro 61 + (k : Int), paidY D ht ro k) else (b, m) := by
        show (if (drS D ht ro k).2 < _ then _ else drS D ht ro k) = _
        rw [← e1]
      by_cases q : paidY D ht ro k ≤ m
      · exact w_t q (wp_some.mpr ⟨by rw [em, if_neg (by omega)], i1 (by omega), e3.tr v2, v3⟩)
      · exact w_f q (wp_some.mpr ⟨by rw [em, if_pos (by omega)], i1 (by omega), e3.tr v2, v3⟩)
    · rintro ⟨b, m, kk, hh⟩ ⟨e1, e2, e3, e4⟩
      dsimp only at e1 e2 e3 e4 ⊢
      subst e2
      unfold fX5_dearest_l43
      exact w_t (Int.le_refl _) (wp_some.mpr ⟨by rw [← e1], e3⟩)
    · exact ⟨rfl, rfl, Same.rf, r3⟩
    · rintro ⟨b, h20⟩ ⟨b1, b2⟩
      dsimp only at b1 b2 ⊢
      rw [wp_some, b1]
      refine q_ok I0 ((SC_X r2).tr (SC_X b2)) (fun h' s => ?_)
      obtain ⟨C0, z0, s1, s2⟩ := C.z s
      show wp (bp_ (fX6_within (n : Int) 1 20 (st h' 35 0 0)) (fun r2 => bd_ (fX6_right r2 1 (st h' 35 0 0)) (fun r4 h6 => (if r4 = 0 then some (0, h6) else bd_ (fX6_copies_54_55 h6) (fun r8 h10 => bp_ (it_ (fun s => fX6_dearest_l41 (n : Int) s.1 s.2.1 s.2.2.1 s.2.2.2) FU ((-1), 0, 0, h10)) (fun e22 => (fun y23 h24 => bd_ (fX6_copies_55_54 h24) (fun r25 h27 => some (y23, h27))) e22.1 e22.2)))))) _
      generalize st h' 35 0 0 = h0 at *
      rw [m_within, if_pos hx, wp_bp, wp_some]
      refine mr_pass z0 (by decide) (w_f n10 ?_)
      rw [m_cp5455, wp_bd, wp_some, wp_bp]
      refine (wp_for (Q := fun r : Int × Hp => r.1 = (drS D ht ro n).1 ∧ ∃ k, k ≤ 20 ∧ MY D ht ro k h0 r.2) (fun k (s : Int × Int × Int × Hp) => ((k = 0 ∧ s.1 = -1) ∨ (0 < k ∧ (s.1, s.2.1) = drS D ht ro k)) ∧ s.2.2.1 = (k : Int) ∧ MY D ht ro k h0 s.2.2.2) n ?_ ?_ (FU_big (by omega)) ⟨Or.inl ⟨rfl, rfl⟩, rfl, MY.start C0⟩).mono ?_
      · rintro k ⟨b, m, kk, hh⟩ hk ⟨e1, e2, e4⟩
        dsimp only at e1 e2 e4 ⊢
        subst e2
        unfold fX6_dearest_l41
        refine w_f (by omega) ?_
        rw [gd_y (by decide), show hh 54 (Int.toNat 61) = ro 61 + (k : Int) from e4.2.2.2.2.2.2.trans (yR_61 k), wp_lb, wp_bd]
        refine (m_yearK C0 R (by omega) e4).mono ?_
        rintro ⟨v, h16⟩ ⟨v1, v2⟩
        dsimp only at v1 v2 ⊢
        subst v1
        have pg := paid_rg (ht := ht) (ro := ro) (k := k) W
        rcases e1 with ⟨k0, rfl⟩ | ⟨k0, e1⟩
        · subst k0
          refine w_t rfl (wp_some.mpr ⟨Or.inr ⟨by decide, ?_⟩, i1 (k := 0) (by decide), v2⟩)
          show (_, _) = (if (-1 : Int) < paidY D ht ro 0 then _ else _)
          rw [if_pos (by omega)]
        · have em : drS D ht ro (k + 1) = if m < paidY D ht ro k then (ro 61 + (k : Int), paidY D ht ro k) else (b, m) := by
            show (if (drS D ht ro k).2 < _ then _ else drS D ht ro k) = _
            rw [← e1]
          have hb : b ≠ -1 := by have := drS_b (D := D) (ht := ht) hy.1 k; rw [← e1] at this; exact this
          refine w_f hb ?_
          by_cases q : m < paidY D ht ro k
          · exact w_t q (wp_some.mpr ⟨Or.inr ⟨by omega, by rw [em, if_pos q]⟩, i1 (by omega), v2⟩)
          · exact w_f q (wp_some.mpr ⟨Or.inr ⟨by omega, by rw [em, if_neg q]⟩, i1 (by omega), v2⟩)
      · rintro ⟨b, m, kk, hh⟩ ⟨e1, e2, e4⟩
        dsimp only at e1 e2 e4 ⊢
        subst e2
        unfold fX6_dearest_l41
        rcases e1 with ⟨k0, -⟩ | ⟨k0, e1⟩
        · omega
        · exact w_t (Int.le_refl _) (wp_some.mpr ⟨by rw [← e1], n, by omega, e4⟩)
      · rintro ⟨b, h24⟩ ⟨b1, k, hk, b2⟩
        dsimp only at b1 b2 ⊢
        rw [m_cp5554, wp_bd, wp_some, wp_some]
        refine ⟨b1, ?_, s1.tr (back b2.1 (b2.2.1.trans C0.2.2.2.2.2.2.2.2.2.1.symm))⟩
        show fil h24 54 62 (h24 55) 35 0 = 0
        rw [fil_n (by decide), (b2.ms C0 R (by omega)).2.2.2]
        exact z0
  · have e : fX5_dearest x h = some (.inr (1, h)) := by
      unfold fX5_dearest
      by_cases e : x < 1
      · rw [if_pos e]
      · rw [if_neg e, if_neg (by omega)]
    rw [e, wp_some]
    refine q_no I0 Same.rf (fun h' s => ?_)
    obtain ⟨C0, z0, s1, s2⟩ := C.z s
    show wp (bp_ (fX6_within x 1 20 (st h' 35 0 0)) (fun r2 => bd_ (fX6_right r2 1 (st h' 35 0 0)) (fun r4 h6 => (if r4 = 0 then some (0, h6) else bd_ (fX6_copies_54_55 h6) (fun r8 h10 => bp_ (it_ (fun s => fX6_dearest_l41 x s.1 s.2.1 s.2.2.1 s.2.2.2) FU ((-1), 0, 0, h10)) (fun e22 => (fun y23 h24 => bd_ (fX6_copies_55_54 h24) (fun r25 h27 => some (y23, h27))) e22.1 e22.2)))))) _
    rw [m_within, if_neg hx, wp_bp, wp_some]
    exact mr_fail z0 (by decide) (w_t rfl (wp_some.mpr (no1 s1)))
theorem s_ruined {κ : Int} {h : Hp} (I : Inv κ h) : wp (fX5_ruined h) (PN κ fX6_ruined) := by
  have I0 := I
  obtain ⟨D, ht, ro, L, nr, rh, rm, na, P, C, -, Q, M, -⟩ := I
  have W := C.1
  have R := C.2.2.1
  generalize hp : (fun k => decide (lP (yR D ht ro k) D.nh < 0)) = p
  have hp' : ∀ k, p k = decide (lP (yR D ht ro k) D.nh < 0) := fun k => by rw [← hp]
  have loop : ∀ h3 : Hp, CS D ht (lay D ht ro) ro (fogY D (ro 61)) L h3 → wp (it_ (fun s : Int × Hp => fX5_ruined_l7 s.1 s.2) FU (0, h3)) (fun e => E2 (fun hq => fi p 51 = -1 ∧ Same SC h3 hq) (fun r : Int × Hp => r.1 = fi p 51 ∧ Same SC h3 r.2) e) := by
    intro h3 H3
    refine wp_for (fun k (s : Int × Hp) => s.1 = (k : Int) ∧ (∀ j, j < k → p j = false) ∧ Same SC h3 s.2 ∧ CS D ht (lay D ht (yR D ht ro k)) (yR D ht ro k) (fogY D (yR D ht ro k 61)) L s.2) 51 ?_ ?_ (FU_big (by decide)) ?_
    · rintro k ⟨x, hh⟩ hk ⟨e1, e2, e3, e4⟩
      dsimp only at e1 e2 e3 e4 ⊢
      subst e1
      unfold fX5_ruined_l7
      refine w_f (by omega) ?_
      rw [c_leastPurse W e4, wp_bp, wp_some]
      by_cases q : 0 ≤ lP (yR D ht ro k) D.nh
      · refine w_t q ?_
        rw [wp_bd]
        refine (c_yearK W C.2.1 R (by omega) e4).mono ?_
        rintro ⟨v, h14⟩ ⟨-, v2, v3⟩
        dsimp only at v2 v3 ⊢
        refine wp_some.mpr ⟨i1 (by omega), fun j hj => ?_, e3.tr v2, v3⟩
        by_cases ej : j = k
        · subst ej
          rw [hp']
          simp; omega
        · exact e2 j (by omega)
      · refine w_f q (wp_some.mpr ⟨?_, e3⟩)
        exact (fi_at hk (by rw [hp']; simp; omega) e2).symm
    · rintro ⟨x, hh⟩ ⟨e1, e2, e3, e4⟩
      dsimp only at e1 e2 e3 e4 ⊢
      subst e1
      unfold fX5_ruined_l7
      exact w_t (by decide) (wp_some.mpr ⟨fi_no.mpr e2, e3⟩)
    · exact ⟨rfl, fun j hj => absurd hj (by omega), Same.rf, H3⟩
  have hm : ∀ h', Same SX h h' → wp (fX6_ruined h') (fun y => y.1 = fi p 51 ∧ Same SXm h' y.2) := by
    intro h' s
    obtain ⟨C0, z0, s1, s2⟩ := C.z s
    unfold fX6_ruined
    rw [wp_lb]
    generalize st h' 35 0 0 = h0 at *
    rw [m_cp5455, wp_bd, wp_some, wp_bp]
    refine (wp_for (Q := fun r : Int × Hp => ((r.1 = 51 ∧ fi p 51 = -1) ∨ (r.1 ≤ 50 ∧ r.1 = fi p 51)) ∧ ∃ k, k ≤ 51 ∧ MY D ht ro k h0 r.2) (fun k (s : Int × Hp) => s.1 = (k : Int) ∧ (∀ j, j < k → p j = false) ∧ MY D ht ro k h0 s.2) 51 ?_ ?_ (FU_big (by decide)) ⟨rfl, fun j hj => absurd hj (by omega), MY.start C0⟩).mono ?_
    · rintro k ⟨x, hh⟩ hk ⟨e1, e2, e4⟩
      dsimp only at e1 e2 e4 ⊢
      subst e1
      unfold fX6_ruined_l19
      refine w_f (by omega) ?_
      have M4 := (e4.ms C0 R (by omega)).1
      rw [m_isPoor W M4.1 M4.2.2.2.1, wp_bp, wp_some]
      by_cases q : lP (yR D ht ro k) D.nh < 0
      · rw [if_pos q]
        refine w_f n10 (wp_some.mpr ⟨Or.inr ⟨?_, ?_⟩, k, by omega, e4⟩)
        · show (k : Int) ≤ 50; omega
        · exact (fi_at hk (by rw [hp']; simp; omega) e2).symm
      · rw [if_neg q]
        refine w_t rfl ?_
        rw [wp_bd]
        refine (m_yearK C0 R (by omega) e4).mono ?_
        rintro ⟨v, h16⟩ ⟨-, v2⟩
        dsimp only at v2 ⊢
        refine wp_some.mpr ⟨i1 (by omega), fun j hj => ?_, v2⟩
        by_cases ej : j = k
        · subst ej
          rw [hp']
          simp; omega
        · exact e2 j (by omega)
    · rintro ⟨x, hh⟩ ⟨e1, e2, e4⟩
      dsimp only at e1 e2 e4 ⊢
      subst e1
      unfold fX6_ruined_l19
      exact w_t (by decide) (wp_some.mpr ⟨Or.inl ⟨rfl, fi_no.mpr e2⟩, 51, by decide, e4⟩)
    · rintro ⟨b, h24⟩ ⟨b1, k, hk, b2⟩
      dsimp only at b1 b2 ⊢
      unfold fX6_ruined_j43
      rw [m_cp5554, wp_bd, wp_some]
      have sb := s1.tr (back b2.1 (b2.2.1.trans C0.2.2.2.2.2.2.2.2.2.1.symm))
      rcases b1 with ⟨b1, b3⟩ | ⟨b1, b3⟩
      · exact w_f (by omega) (wp_some.mpr ⟨b3.symm, sb⟩)
      · exact w_t b1 (wp_some.mpr ⟨b3, sb⟩)
  unfold fX5_ruined
  rw [wp_bd]
  refine C.present.mono ?_
  rintro ⟨r, h3⟩ ⟨r1, r2, r3⟩
  dsimp only at r1 r2 r3 ⊢
  rw [gd20 r1, wp_bp]
  refine (loop h3 r3).mono ?_
  rintro (e | e) he
  · refine wp_some.mpr ?_
    rw [← he.1]
    exact q_n I0 ((SC_X r2).tr (SC_X he.2)) hm
  · refine wp_some.mpr ?_
    obtain ⟨v, hv⟩ := e
    have he : v = fi p 51 ∧ Same SC h3 hv := he
    obtain ⟨rfl, he2⟩ := he
    exact q_n I0 ((SC_X r2).tr (SC_X he2)) hm
