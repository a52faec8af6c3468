/-! pure part: the reference reads a text -/
theorem m_cp44 {h : Hp} : wp (fX6_copies_44_36 h) (fun r => Same (fun a _ => a = 36) h r.2 ∧ ∀ i, i < 64 → r.2 36 i = h 44 i) := by
  unfold fX6_copies_44_36
  rw [wp_bp]
  refine (wp_for (Q := fun hq : Hp => Same (fun a _ => a = 36) h hq ∧ ∀ i, i < 64 → hq 36 i = h 44 i) (fun k (s : Int × Hp) => s.1 = (k : Int) ∧ Same (fun a _ => a = 36) h s.2 ∧ ∀ i, i < k → s.2 36 i = h 44 i) 64 ?_ ?_ (FU_big (by decide)) ⟨rfl, Same.rf, fun i hi => absurd hi (Nat.not_lt_zero i)⟩).mono ?_
  · rintro k ⟨x, hh⟩ hk ⟨f1, f2, f3⟩
    dsimp only at f1 f2 f3 ⊢
    subst f1
    unfold fX6_copies_44_36_l2
    refine w_f (by clear f3; omega) ?_
    rw [gd_y (by clear f3; omega), gd_y (by clear f3; omega), wp_lb, Int.toNat_natCast, i1 (by clear f3; omega), wp_some]
    refine ⟨rfl, f2.st rfl, fun i hi => ?_⟩
    show st hh 36 k (hh 44 k) 36 i = h 44 i
    by_cases q : i = k
    · rw [q, st_self]; exact f2 _ _ (by omega)
    · rw [st_nk q]; exact f3 i (by clear f3; omega)
  · rintro ⟨x, hh⟩ ⟨f1, f2, f3⟩
    dsimp only at f1 f2 f3 ⊢
    subst f1
    unfold fX6_copies_44_36_l2
    exact w_t (by decide) (wp_some.mpr ⟨f2, f3⟩)
  · rintro hq ⟨f2, f3⟩
    exact wp_some.mpr ⟨f2, f3⟩
theorem m_cp49 {h : Hp} : wp (fX6_copies_49_39 h) (fun r => Same (fun a _ => a = 39) h r.2 ∧ ∀ i, i < 8 → r.2 39 i = h 49 i) := by
  unfold fX6_copies_49_39
  rw [wp_bp]
  refine (wp_for (Q := fun hq : Hp => Same (fun a _ => a = 39) h hq ∧ ∀ i, i < 8 → hq 39 i = h 49 i) (fun k (s : Int × Hp) => s.1 = (k : Int) ∧ Same (fun a _ => a = 39) h s.2 ∧ ∀ i, i < k → s.2 39 i = h 49 i) 8 ?_ ?_ (FU_big (by decide)) ⟨rfl, Same.rf, fun i hi => absurd hi (Nat.not_lt_zero i)⟩).mono ?_
  · rintro k ⟨x, hh⟩ hk ⟨f1, f2, f3⟩
    dsimp only at f1 f2 f3 ⊢
    subst f1
    unfold fX6_copies_49_39_l2
    refine w_f (by clear f3; omega) ?_
    rw [gd_y (by clear f3; omega), gd_y (by clear f3; omega), wp_lb, Int.toNat_natCast, i1 (by clear f3; omega), wp_some]
    refine ⟨rfl, f2.st rfl, fun i hi => ?_⟩
    show st hh 39 k (hh 49 k) 39 i = h 49 i
    by_cases q : i = k
    · rw [q, st_self]; exact f2 _ _ (by omega)
    · rw [st_nk q]; exact f3 i (by clear f3; omega)
  · rintro ⟨x, hh⟩ ⟨f1, f2, f3⟩
    dsimp only at f1 f2 f3 ⊢
    subst f1
    unfold fX6_copies_49_39_l2
    exact w_t (by decide) (wp_some.mpr ⟨f2, f3⟩)
  · rintro hq ⟨f2, f3⟩
    exact wp_some.mpr ⟨f2, f3⟩
theorem m_cp50 {h : Hp} : wp (fX6_copies_50_40 h) (fun r => Same (fun a _ => a = 40) h r.2 ∧ ∀ i, i < 4 → r.2 40 i = h 50 i) := by
  unfold fX6_copies_50_40
  rw [wp_bp]
  refine (wp_for (Q := fun hq : Hp => Same (fun a _ => a = 40) h hq ∧ ∀ i, i < 4 → hq 40 i = h 50 i) (fun k (s : Int × Hp) => s.1 = (k : Int) ∧ Same (fun a _ => a = 40) h s.2 ∧ ∀ i, i < k → s.2 40 i = h 50 i) 4 ?_ ?_ (FU_big (by decide)) ⟨rfl, Same.rf, fun i hi => absurd hi (Nat.not_lt_zero i)⟩).mono ?_
  · rintro k ⟨x, hh⟩ hk ⟨f1, f2, f3⟩
    dsimp only at f1 f2 f3 ⊢
    subst f1
    unfold fX6_copies_50_40_l2
    refine w_f (by clear f3; omega) ?_
    rw [gd_y (by clear f3; omega), gd_y (by clear f3; omega), wp_lb, Int.toNat_natCast, i1 (by clear f3; omega), wp_some]
    refine ⟨rfl, f2.st rfl, fun i hi => ?_⟩
    show st hh 40 k (hh 50 k) 40 i = h 50 i
    by_cases q : i = k
    · rw [q, st_self]; exact f2 _ _ (by omega)
    · rw [st_nk q]; exact f3 i (by clear f3; omega)
  · rintro ⟨x, hh⟩ ⟨f1, f2, f3⟩
    dsimp only at f1 f2 f3 ⊢
    subst f1
    unfold fX6_copies_50_40_l2
    exact w_t (by decide) (wp_some.mpr ⟨f2, f3⟩)
  · rintro hq ⟨f2, f3⟩
    exact wp_some.mpr ⟨f2, f3⟩
theorem m_cp51 {h : Hp} : wp (fX6_copies_51_41 h) (fun r => Same (fun a _ => a = 41) h r.2 ∧ ∀ i, i < 2800 → r.2 41 i = h 51 i) := by
  unfold fX6_copies_51_41
  rw [wp_bp]
  refine (wp_for (Q := fun hq : Hp => Same (fun a _ => a = 41) h hq ∧ ∀ i, i < 2800 → hq 41 i = h 51 i) (fun k (s : Int × Hp) => s.1 = (k : Int) ∧ Same (fun a _ => a = 41) h s.2 ∧ ∀ i, i < k → s.2 41 i = h 51 i) 2800 ?_ ?_ (FU_big (by decide)) ⟨rfl, Same.rf, fun i hi => absurd hi (Nat.not_lt_zero i)⟩).mono ?_
  · rintro k ⟨x, hh⟩ hk ⟨f1, f2, f3⟩
    dsimp only at f1 f2 f3 ⊢
    subst f1
    unfold fX6_copies_51_41_l2
    refine w_f (by clear f3; omega) ?_
    rw [gd_y (by clear f3; omega), gd_y (by clear f3; omega), wp_lb, Int.toNat_natCast, i1 (by clear f3; omega), wp_some]
    refine ⟨rfl, f2.st rfl, fun i hi => ?_⟩
    show st hh 41 k (hh 51 k) 41 i = h 51 i
    by_cases q : i = k
    · rw [q, st_self]; exact f2 _ _ (by omega)
    · rw [st_nk q]; exact f3 i (by clear f3; omega)
  · rintro ⟨x, hh⟩ ⟨f1, f2, f3⟩
    dsimp only at f1 f2 f3 ⊢
    subst f1
    unfold fX6_copies_51_41_l2
    exact w_t (by decide) (wp_some.mpr ⟨f2, f3⟩)
  · rintro hq ⟨f2, f3⟩
    exact wp_some.mpr ⟨f2, f3⟩
def SDr : Nat → Nat → Prop := fun a k => (a = 35 ∧ 13 ≤ k ∧ k ≤ 35) ∨ (44 ≤ a ∧ a ≤ 53)
theorem SRr_D {h h' : Hp} (s : Same SRr h h') : Same SDr h h' := s.mono (fun a k z => by unfold SRr at z; unfold SDr; omega)
theorem RDl00 {h : Hp} (f : h 35 25 = 8 ∧ h 35 26 = 8 ∧ h 35 27 = 0 ∧ h 35 28 = 0 ∧ h 35 30 = 0 ∧ h 35 29 = 0 ∧ h 35 34 = 0 ∧ h 35 35 = 0 ∧ h 35 31 = 0) (g : ∀ c, c < 64 → h 44 c = 0) : RDl A00 cd00 h := by
  obtain ⟨f1, f2, f3, f4, f5, f6, f7, f8, f9⟩ := f
  refine ⟨⟨f1, f2, f3, f4, f5, f6, f7, f8⟩, g, fun t ht => absurd ht (by show ¬ ((t : Int) < 0); omega), fun t ht => absurd ht (by show ¬ ((t : Int) < 0); omega), fun t ht => absurd ht (by show ¬ ((t : Int) < 0); omega), 0, f9, Nat.zero_le _, fun t ht => absurd ht (by show ¬ ((t : Int) < 0); omega)⟩
theorem m_duchyGo {b : Nat → Int} {n : Nat} {h : Hp} {Z : Int × Hp → Prop} (T : TRk b n h) (z0 : h 35 0 = 0)
    (k : ∀ (hq : Hp) (Y : TxS), RcT b n (X1T b n) Y → ¬ liveT b n Y → XOk n Y → Same SDr h hq → hq 35 13 = 0 → FLr Y.1 hq → (Y.1 = none → RDl Y.2.2.1 Y.2.2.2 hq) → wp (fX6_duchy_j195 hq) Z) : wp (fX6_duchy_j23 (n : Int) 1 h) Z := by
  have n7 := T.1
  unfold fX6_duchy_j23
  refine mr_pass z0 (by decide) (w_f n10 ?_)
  rw [wp_lb, wp_lb, wp_lb, wp_lb, wp_lb, wp_lb, wp_lb, wp_lb, wp_lb, wp_lb, wp_lb, wp_lb, wp_lb, wp_lb, wp_bp]
  generalize hE : st (st (st (st (st (st (st (st (st (st (st (st (st (st h 35 13 0) 35 15 (-1)) 35 14 0) 35 17 (n : Int)) 35 18 0) 35 25 8) 35 26 8) 35 27 0) 35 28 0) 35 29 0) 35 30 0) 35 34 0) 35 35 0) 35 31 0 = h20
  have f20 : h20 35 13 = 0 ∧ h20 35 15 = -1 ∧ h20 35 14 = 0 ∧ h20 35 17 = (n : Int) ∧ h20 35 18 = 0 ∧ h20 35 25 = 8 ∧ h20 35 26 = 8 ∧ h20 35 27 = 0 ∧ h20 35 28 = 0 ∧ h20 35 29 = 0 ∧ h20 35 30 = 0 ∧ h20 35 34 = 0 ∧ h20 35 35 = 0 ∧ h20 35 31 = 0 := by rw [← hE]; simp [st_at]
  have s20 : Same SDr h h20 := by
    rw [← hE]
    exact (((((((((((((Same.rf.st (P := SDr) (Or.inl ⟨rfl, by decide, by decide⟩)).st (Or.inl ⟨rfl, by decide, by decide⟩)).st (Or.inl ⟨rfl, by decide, by decide⟩)).st (Or.inl ⟨rfl, by decide, by decide⟩)).st (Or.inl ⟨rfl, by decide, by decide⟩)).st (Or.inl ⟨rfl, by decide, by decide⟩)).st (Or.inl ⟨rfl, by decide, by decide⟩)).st (Or.inl ⟨rfl, by decide, by decide⟩)).st (Or.inl ⟨rfl, by decide, by decide⟩)).st (Or.inl ⟨rfl, by decide, by decide⟩)).st (Or.inl ⟨rfl, by decide, by decide⟩)).st (Or.inl ⟨rfl, by decide, by decide⟩)).st (Or.inl ⟨rfl, by decide, by decide⟩)).st (Or.inl ⟨rfl, by decide, by decide⟩)
  clear hE
  have lp : wp (it_ (fun s : Int × Hp => fX6_duchy_l106 s.1 s.2) FU (0, h20)) (fun hq => Same (fun a _ => a = 44) h20 hq ∧ ∀ c, c < 64 → hq 44 c = 0) := by
    refine wp_for (fun k (s : Int × Hp) => s.1 = (k : Int) ∧ Same (fun a _ => a = 44) h20 s.2 ∧ ∀ c, c < k → s.2 44 c = 0) 64 ?_ ?_ (FU_big (by decide)) ⟨rfl, Same.rf, fun c hc => absurd hc (Nat.not_lt_zero c)⟩
    · rintro k ⟨x, hh⟩ hk ⟨e1, e2, e3⟩
      dsimp only at e1 e2 e3 ⊢
      subst e1
      unfold fX6_duchy_l106
      refine w_f (by clear e3 f20; omega) ?_
      rw [gd_y (by clear e3 f20; omega), Int.toNat_natCast, wp_lb, i1 (by clear e3 f20; omega), wp_some]
      refine ⟨rfl, e2.st rfl, fun c hc => ?_⟩
      show st hh 44 k 0 44 c = 0
      by_cases q : c = k
      · rw [q]; exact st_self
      · rw [st_nk q]; exact e3 c (by clear e3 f20; omega)
    · rintro ⟨x, hh⟩ ⟨e1, e2, e3⟩
      dsimp only at e1 e2 e3 ⊢
      subst e1
      unfold fX6_duchy_l106
      exact w_t (by decide) (wp_some.mpr ⟨e2, e3⟩)
  refine lp.mono ?_
  rintro h26 ⟨g1, g2⟩
  dsimp only
  have k26 : ∀ k, h26 35 k = h20 35 k := fun k => g1 _ _ (by omega)
  have s26 : Same SDr h h26 := s20.tr (g1.mono (fun a k z => Or.inr ⟨by omega, by omega⟩))
  obtain ⟨x13, x15, x14, x17, x18, x25, x26, x27, x28, x29, x30, x34, x35, x31⟩ := f20
  rw [← k26] at x13 x15 x14 x17 x18 x25 x26 x27 x28 x29 x30 x34 x35 x31
  have D26 : RDl A00 cd00 h26 := RDl00 ⟨x25, x26, x27, x28, x30, x29, x34, x35, x31⟩ g2
  have F26 : FLr none h26 := ⟨x14, x15⟩
  have T26 : TRk b n h26 := T.same (fun k => s26 _ _ (by unfold SDr; omega))
  rw [wp_bd]
  refine (m_goes (p := 0) T26 x17 x18 (Nat.zero_le _)).mono ?_
  rintro ⟨v, h29⟩ ⟨m1, m2⟩
  dsimp only at m1 m2 ⊢
  clear x25 x26 x27 x28 x29 x30 x34 x35 x31 x14 x15 x17 x18 g1 g2 k26
  have s29 : Same S1424 h26 h29 := SRk_24 m1
  have G29 : RGk b n none 0 h29 := ⟨F26.same (m1 _ _ (by unfold SRk; omega)) (m1 _ _ (by unfold SRk; omega)), fun _ => m2⟩
  have D29 := D26.s24 s29
  have T29 : TRk b n h29 := T26.same (fun k => s29 _ _ (by unfold S1424; omega))
  have O1 := X1_ok (b := b) (n := n)
  have fin : ∀ hs : Hp, Same SRr h26 hs → RGk b n (X1T b n).1 (X1T b n).2.1 hs → ((X1T b n).1 = none → RDl (X1T b n).2.2.1 (X1T b n).2.2.2 hs) → wp (bp_ (it_ (fun s => fX6_duchy_l174 s) FU hs) (fun e40 => (fun h41 => fX6_duchy_j195 h41) e40)) Z := by
    intro hs a1 a2 a3
    rw [wp_bp]
    refine (m_textL T26 a1 O1 a2 a3).mono ?_
    rintro hq ⟨Y, c1, c2, c3, c4, c5, c6⟩
    exact k hq Y c1 c2 c3 (s26.tr (SRr_D c4)) (by rw [c4 _ _ (by unfold SRr; omega)]; exact x13) c5 c6
  rw [m_knownWord m2 (Nat.zero_le _), wp_bp, wp_some]
  by_cases q : kwN b n 0 = 10
  · have eX : X1T b n = ((szS b n A00 0).1, (szS b n A00 0).2.1, (szS b n A00 0).2.2, cd00) := if_pos q
    refine w_t q ?_
    have hp1 := tkE_le (b := b) (n := n) (p := 0) (Nat.zero_le _)
    have hp2 := tkE_le (b := b) hp1
    have hp3 := tkE_le (b := b) hp2
    rw [wp_bd]
    refine (m_next T29 G29 (Nat.zero_le _)).mono ?_
    rintro ⟨v1, h110⟩ ⟨c1, c2⟩
    dsimp only at c1 c2 ⊢
    have s110 : Same S1424 h26 h110 := s29.tr (SRk_24 c1)
    rw [wp_bd]
    refine (m_number (T26.same (fun k => s110 _ _ (by unfold S1424; omega))) c2 hp1 (by decide)).mono ?_
    rintro ⟨r1, h113⟩ ⟨d1, d2, d3⟩
    dsimp only at d1 d2 d3 ⊢
    rw [wp_lb]
    have s113 : Same S1424 h26 h113 := s110.tr d1
    generalize hE : st h113 35 25 r1 = h114
    have s114 : Same (fun a k => S1424 a k ∨ (a = 35 ∧ (k = 25 ∨ k = 26))) h26 h114 := by rw [← hE]; exact (s113.mono (fun a k z => Or.inl z)).st (Or.inr ⟨rfl, Or.inl rfl⟩)
    have G114 : RGk b n (nmS b n none 1 8 (tkE b n 0)).1 (tkE b n (tkE b n 0)) h114 := d2.same (fun k h1 h2 => by rw [← hE, st_nk (by omega)])
    have y25 : h114 35 25 = r1 := by rw [← hE]; exact st_self
    clear hE
    rw [wp_bd]
    refine (m_number (T26.same (fun k => s114 _ _ (by unfold S1424; omega))) G114 hp2 (by decide)).mono ?_
    rintro ⟨r2, h117⟩ ⟨e1, e2, e3⟩
    dsimp only at e1 e2 e3 ⊢
    rw [wp_lb]
    have nn : (nmS b n (nmS b n none 1 8 (tkE b n 0)).1 1 8 (tkE b n (tkE b n 0))).1 = none → (nmS b n none 1 8 (tkE b n 0)).1 = none := fun z => (nmS_none z).1
    have s117 := s114.tr (e1.mono (fun a k z => Or.inl z))
    generalize hE : st h117 35 26 r2 = h118
    have s118 : Same (fun a k => S1424 a k ∨ (a = 35 ∧ (k = 25 ∨ k = 26))) h26 h118 := by rw [← hE]; exact s117.st (Or.inr ⟨rfl, Or.inr rfl⟩)
    have G118 : RGk b n (nmS b n (nmS b n none 1 8 (tkE b n 0)).1 1 8 (tkE b n (tkE b n 0))).1 (tkE b n (tkE b n (tkE b n 0))) h118 := e2.same (fun k h1 h2 => by rw [← hE, st_nk (by omega)])
    have z25 : h118 35 25 = r1 := by rw [← hE, st_nk (by decide), e1 _ _ (by unfold S1424; omega)]; exact y25
    have z26 : h118 35 26 = r2 := by rw [← hE]; exact st_self
    clear hE
    have T118 : TRk b n h118 := T26.same (fun k => s118 _ _ (by unfold S1424; omega))
    have ee := m_eol T118 G118 hp3
    have sh : ∀ {Z2 : Int × Hp → Prop} (f : Hp → Option (Int × Hp)), wp (bp_ (fX6_isSign 59 h118) (fun r11 => bd_ (fX6_need r11 h118) (fun r13 h15 => some ((0 : Int), h15)))) (fun r => wp (f r.2) Z2) → wp (bp_ (fX6_isSign 59 h118) (fun r119 => bd_ (fX6_need r119 h118) (fun _ h123 => f h123))) Z2 := by
      intro Z2 f w
      obtain ⟨v, hv⟩ := sign_some (c := 59) (h := h118)
      rw [hv, wp_bp, wp_some, wp_bd] at w ⊢
      refine w.mono ?_
      rintro ⟨a, h9⟩ y
      rw [wp_some] at y
      exact y
    refine sh _ (ee.mono ?_)
    rintro ⟨a, h123⟩ ⟨w1, w2⟩
    dsimp only at w1 w2 ⊢
    have s123 := s118.tr (w1.mono (fun a k z => Or.inl z))
    refine fin h123 (s123.mono (fun a k z => by unfold S1424 at z; unfold SRr; omega)) (by rw [eX]; exact w2) (fun z => ?_)
    rw [eX] at z ⊢
    dsimp only at z ⊢
    have z' : eolS b n (nmS b n (nmS b n none 1 8 (tkE b n 0)).1 1 8 (tkE b n (tkE b n 0))).1 (tkE b n (tkE b n (tkE b n 0))) = none := z
    have u0 := eolS_none z'
    have v0 := nn u0
    show RDl (st (st A00 8 0 (nmS b n none 1 8 (tkE b n 0)).2) 8 1 (nmS b n (nmS b n none 1 8 (tkE b n 0)).1 1 8 (tkE b n (tkE b n 0))).2) cd00 h123
    rw [← d3 v0, ← e3 u0]
    obtain ⟨⟨f1, f2, f3, f4, f5, f6, f7, f8⟩, q2, q3, q4, q5, tp, t1, t2, t3⟩ := D26
    have kk : ∀ a k, ¬ (S1424 a k ∨ (a = 35 ∧ (k = 25 ∨ k = 26))) → h123 a k = h26 a k := s123
    have m25 : h123 35 25 = r1 := by rw [w1 _ _ (by unfold S1424; omega)]; exact z25
    have m26 : h123 35 26 = r2 := by rw [w1 _ _ (by unfold S1424; omega)]; exact z26
    have aa : ∀ a k, ¬ (a = 8 ∧ (k = 0 ∨ k = 1)) → st (st A00 8 0 r1) 8 1 r2 a k = A00 a k := fun a k z => by
      show (if a = 8 ∧ k = 1 then r2 else if a = 8 ∧ k = 0 then r1 else A00 a k) = _
      rw [if_neg (fun y => z ⟨y.1, Or.inr y.2⟩), if_neg (fun y => z ⟨y.1, Or.inl y.2⟩)]
    have a2 : st (st A00 8 0 r1) 8 1 r2 8 2 = 0 := aa _ _ (by decide)
    have a3 : st (st A00 8 0 r1) 8 1 r2 8 3 = 0 := aa _ _ (by decide)
    have a4 : st (st A00 8 0 r1) 8 1 r2 8 4 = 0 := aa _ _ (by decide)
    have a5 : st (st A00 8 0 r1) 8 1 r2 8 5 = 0 := aa _ _ (by decide)
    refine ⟨⟨by rw [m25]; simp [st_at], by rw [m26]; simp [st_at], ?_, ?_, ?_, ?_, ?_, ?_⟩, fun c hc => ?_, fun t ht => absurd ht (by rw [a2]; omega), fun t ht => absurd ht (by rw [a3]; omega), fun t ht => absurd ht (by rw [a4]; omega), tp, ?_, ?_, fun t ht => absurd ht (by rw [a5]; omega)⟩
    · rw [kk _ _ (by unfold S1424; omega), a2]; exact f3
    · rw [kk _ _ (by unfold S1424; omega), a3]; exact f4
    · rw [kk _ _ (by unfold S1424; omega), a4]; exact f5
    · rw [kk _ _ (by unfold S1424; omega), a5]; exact f6
    · rw [kk _ _ (by unfold S1424; omega), aa _ _ (by decide)]; exact f7
    · rw [kk _ _ (by unfold S1424; omega), aa _ _ (by decide)]; exact f8
    · rw [kk _ _ (by unfold S1424; omega), aa _ _ (fun y => absurd y.1 (by decide))]; exact q2 c hc
    · rw [kk _ _ (by unfold S1424; omega)]; exact t1
    · rw [a5]; exact t2
  · have eX : X1T b n = (none, 0, A00, cd00) := if_neg q
    exact w_f q (fin h29 (S1424_r s29) (by rw [eX]; exact G29) (fun _ => by rw [eX]; exact D29))
