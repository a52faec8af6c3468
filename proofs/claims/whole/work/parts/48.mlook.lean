/-! pure part: the reference looks -/
def fogY (D : LD) (y : Int) : Nat := if D.nf = 0 then 9 else (D.fg (y.toNat % D.nf)).toNat
def MS (D : LD) (ht sd ro : Nat → Int) (fog : Nat) (h : Hp) : Prop := ML D h ∧ (∀ c, c < D.cl → h 36 c = ht c) ∧ (∀ c, c < D.cl → h 57 c = sd c) ∧ RR D ro (h 54) ∧ ((h 35 51 = -1 ∧ fog = fogY D (ro 61)) ∨ h 35 51 = (fog : Int)) ∧ fog ≤ 9 ∧ (0 ≤ ro 61 ∧ ro 61 < 1000000)
def SM : Nat → Nat → Prop := fun a k => (a = 35 ∧ 54 ≤ k ∧ k ≤ 56) ∨ a = 58 ∨ a = 59
theorem ML.same {D : LD} {h h' : Hp} (H : ML D h) (q : ∀ a k, (a = 35 ∧ 1 ≤ k ∧ k ≤ 5) ∨ (37 ≤ a ∧ a ≤ 41) → h' a k = h a k) : ML D h' := by
  obtain ⟨a1, a2, a3, a4, a5, a6, a7, a8, a9⟩ := H
  refine ⟨by rw [q _ _ (by omega)]; exact a1, by rw [q _ _ (by omega)]; exact a2, by rw [q _ _ (by omega)]; exact a3, by rw [q _ _ (by omega)]; exact a4, by rw [q _ _ (by omega)]; exact a5, fun i hi => by rw [q _ _ (by omega)]; exact a6 i hi, fun i hi => by rw [q _ _ (by omega)]; exact a7 i hi, fun i hi => by rw [q _ _ (by omega)]; exact a8 i hi, fun l hl => ?_⟩
  obtain ⟨p, b1, b2⟩ := a9 l hl
  refine ⟨p, by rw [q _ _ (by omega)]; exact b1, ?_⟩
  rw [show h' 41 = h 41 from funext (fun k => q _ _ (by omega))]
  exact b2
theorem MS.same {D : LD} {ht sd ro : Nat → Int} {fog : Nat} {h h' : Hp} (H : MS D ht sd ro fog h) (q : Same SM h h') : MS D ht sd ro fog h' := by
  obtain ⟨a1, a2, a3, a4, a5, a6, a7⟩ := H
  refine ⟨a1.same (fun a k p => q a k (by unfold SM; omega)), fun c hc => ?_, fun c hc => ?_, a4.same (fun k => q _ _ (by unfold SM; omega)), ?_, a6, a7⟩
  · rw [q _ _ (by unfold SM; omega)]; exact a2 c hc
  · rw [q _ _ (by unfold SM; omega)]; exact a3 c hc
  · rw [q _ _ (by unfold SM; omega)]; exact a5
theorem m_across {n : Nat} {h : Hp} (hn : n < 8) : fX6_across (n : Int) h = some (dX n) := by
  have : n = 0 ∨ n = 1 ∨ n = 2 ∨ n = 3 ∨ n = 4 ∨ n = 5 ∨ n = 6 ∨ n = 7 := by omega
  rcases this with rfl | rfl | rfl | rfl | rfl | rfl | rfl | rfl <;> rfl
theorem m_down {n : Nat} {h : Hp} (hn : n < 8) : fX6_down (n : Int) h = some (dY n) := by
  have : n = 0 ∨ n = 1 ∨ n = 2 ∨ n = 3 ∨ n = 4 ∨ n = 5 ∨ n = 6 ∨ n = 7 := by omega
  rcases this with rfl | rfl | rfl | rfl | rfl | rfl | rfl | rfl <;> rfl
def S54 : Nat → Nat → Prop := fun a k => a = 35 ∧ k = 54
theorem m_looks {w d : Nat} {sd : Nat → Int} {fog n c : Nat} {h : Hp} {eye : Int} (hw : 1 ≤ w ∧ w ≤ 8) (hd : 1 ≤ d ∧ d ≤ 8) (h1 : h 35 1 = (w : Int)) (h2 : h 35 2 = (d : Int)) (hf9 : fog ≤ 9) (hcl : c < w * d) (hsd : ∀ c, c < w * d → h 57 c = sd c) (hn : n < 8) :
    wp (fX6_looks (c : Int) eye (n : Int) (fog : Int) h) (fun r => r.1 = (lkD w d sd fog c eye n (h 35 54)).1 ∧ r.2 35 54 = (lkD w d sd fog c eye n (h 35 54)).2 ∧ Same S54 h r.2) := by
  have hc64 : w * d ≤ 64 := cl64 hw.2 hd.2
  have hm : c % w < w := Nat.mod_lt c (by omega)
  have hdv : c / w < d := Nat.div_lt_of_lt_mul hcl
  have hm' : (0 : Int) ≤ ((c % w : Nat) : Int) ∧ ((c % w : Nat) : Int) < (w : Int) := ⟨Int.natCast_nonneg _, Int.ofNat_lt.mpr hm⟩
  have hdv' : (0 : Int) ≤ ((c / w : Nat) : Int) ∧ ((c / w : Nat) : Int) < (d : Int) := ⟨Int.natCast_nonneg _, Int.ofNat_lt.mpr hdv⟩
  have hdx := dX_r hn
  have hdy := dY_r hn
  unfold fX6_looks
  simp only [wp_gd, wp_lb, wp_bp, h1, m_across hn, m_down hn, wp_some]
  rw [i_rem_nat (by omega) (by omega), i_div_nat (by omega) (by omega), ia (by omega) (by omega), ia (by omega) (by omega)]
  refine ⟨by omega, by omega, ?_⟩
  refine wp_for (Q := fun r : Int × Hp => r.1 = (lkD w d sd fog c eye n (h 35 54)).1 ∧ r.2 35 54 = (lkD w d sd fog c eye n (h 35 54)).2 ∧ Same S54 h r.2)
    (fun k s => ∃ x0 y0 : Int, s.1 = x0 + dX n ∧ s.2.1 = y0 + dY n ∧ 0 ≤ x0 ∧ x0 < (w : Int) ∧ 0 ≤ y0 ∧ y0 < (d : Int) ∧ s.2.2.2.2.2.1 = ((k + 1 : Nat) : Int) ∧ s.2.2.2.2.1 = s.2.2.1 ∧ (s.2.2.1 = 0 ↔ k = 0) ∧ lkA w d sd eye (dX n) (dY n) (fog - k) x0 y0 s.2.2.1 s.2.2.2.1 (k + 1) (s.2.2.2.2.2.2 35 54) = lkD w d sd fog c eye n (h 35 54) ∧ Same S54 h s.2.2.2.2.2.2) fog ?_ ?_ (FU_big (by omega)) ?_
  · rintro k ⟨x, y, far, rise, sa, kk, hh⟩ hk ⟨x0, y0, e1, e2, b1, b2, b3, b4, b5, b6, b7, b8, b9⟩
    dsimp only at e1 e2 b5 b6 b7 b8 b9 ⊢
    subst e1 e2 b5 b6
    have r1 : hh 35 1 = (w : Int) := by rw [b9 _ _ (by unfold S54; omega)]; exact h1
    have r2 : hh 35 2 = (d : Int) := by rw [b9 _ _ (by unfold S54; omega)]; exact h2
    obtain ⟨m, hm1⟩ : ∃ m, fog - k = m + 1 := ⟨fog - k - 1, by omega⟩
    have hm2 : fog - (k + 1) = m := by omega
    rw [hm1] at b8
    unfold lkA at b8
    unfold fX6_looks_l38
    simp only [wp_ite, wp_gd, wp_lb, wp_some, E2_r, r1, r2]
    refine ⟨fun q => absurd q (by omega), fun _ => ⟨fun q1 => ?_, fun q1 => ⟨fun q2 => ?_, fun q2 => ⟨fun q3 => ?_, fun q3 => ⟨fun q4 => ?_, fun q4 => ?_⟩⟩⟩⟩⟩
    · rw [if_pos (by omega)] at b8
      exact ⟨by rw [← b8], by rw [← b8], b9⟩
    · rw [if_pos (by omega)] at b8
      exact ⟨by rw [← b8], by rw [← b8], b9⟩
    · rw [if_pos (by omega)] at b8
      exact ⟨by rw [← b8], by rw [← b8], b9⟩
    · rw [if_pos (by omega)] at b8
      exact ⟨by rw [← b8], by rw [← b8], b9⟩
    · rw [if_neg (by omega)] at b8
      have hy7 := wy (w := w) (d := d) (x := x0 + dX n) (y := y0 + dY n) (by omega) (by omega) (by omega) (by omega)
      have hw8 : (w : Int) * (y0 + dY n) ≤ 64 := by omega
      have hw0 : 0 ≤ (w : Int) * (y0 + dY n) := Int.mul_nonneg (by omega) (by omega)
      have ec : i_add (i_mul (w : Int) (y0 + dY n)) (x0 + dX n) = (w : Int) * (y0 + dY n) + (x0 + dX n) := by
        rw [i_mul_eq ⟨by omega, by omega⟩, ia (by omega) (by omega)]
      rw [ec]
      generalize hC : (w : Int) * (y0 + dY n) + (x0 + dX n) = C at *
      have rs : hh 57 C.toNat = sd C.toNat := by
        rw [b9 _ _ (by unfold S54; omega)]
        exact hsd _ (by omega)
      rw [rs]
      have tk : i_add ((k + 1 : Nat) : Int) 1 = ((k + 1 + 1 : Nat) : Int) := i1 (by omega)
      have ck : ((k : Int) + 1) = ((k + 1 : Nat) : Int) := by omega
      have ex : i_add (x0 + dX n) (dX n) = (x0 + dX n) + dX n := ia (by omega) (by omega)
      have ey : i_add (y0 + dY n) (dY n) = (y0 + dY n) + dY n := ia (by omega) (by omega)
      refine ⟨⟨by omega, by omega⟩, fun f0 => ?_, fun f0 => ⟨fun f1 => ?_, fun f1 => ?_⟩⟩
      · rw [if_pos (Or.inl (b7.mpr (by omega)))] at b8
        unfold fX6_looks_j115 fX6_looks_j140
        simp only [wp_lb, wp_bp, wp_some, E2_l, m_across hn, m_down hn]
        refine ⟨x0 + dX n, y0 + dY n, ex, ey, by omega, by omega, by omega, by omega, tk, trivial, by omega, ?_, b9.st ⟨rfl, rfl⟩⟩
        rw [hm2, st_self, ← ck]
        exact b8
      · rw [if_neg (by rw [ck]; omega)] at b8
        unfold fX6_looks_j140
        simp only [wp_lb, wp_bp, wp_some, E2_l, m_across hn, m_down hn]
        refine ⟨x0 + dX n, y0 + dY n, ex, ey, by omega, by omega, by omega, by omega, tk, trivial, by omega, ?_, b9⟩
        rw [hm2, ← ck]
        exact b8
      · rw [if_pos (Or.inr (by rw [ck]; omega))] at b8
        unfold fX6_looks_j115 fX6_looks_j140
        simp only [wp_lb, wp_bp, wp_some, E2_l, m_across hn, m_down hn]
        refine ⟨x0 + dX n, y0 + dY n, ex, ey, by omega, by omega, by omega, by omega, tk, trivial, by omega, ?_, b9.st ⟨rfl, rfl⟩⟩
        rw [hm2, st_self, ← ck]
        exact b8
  · rintro ⟨x, y, far, rise, sa, kk, hh⟩ ⟨x0, y0, e1, e2, b1, b2, b3, b4, b5, b6, b7, b8, b9⟩
    dsimp only at e1 e2 b5 b6 b7 b8 b9 ⊢
    subst e1 e2 b5 b6
    rw [Nat.sub_self] at b8
    unfold lkA at b8
    unfold fX6_looks_l38
    simp only [wp_ite, wp_some, E2_r]
    exact ⟨fun _ => ⟨by rw [← b8], by rw [← b8], b9⟩, fun q => absurd q (by omega)⟩
  · exact ⟨((c % w : Nat) : Int), ((c / w : Nat) : Int), rfl, rfl, by omega, by omega, by omega, by omega, rfl, rfl, by simp, rfl, Same.rf⟩
theorem m_fogNow {D : LD} {ht sd ro : Nat → Int} {fog : Nat} {h : Hp} (W : DW D) (H : MS D ht sd ro fog h) : fX6_fogNow h = some (fog : Int) := by
  obtain ⟨a1, a2, a3, a4, a5, a6, a7⟩ := H
  have hf8 := W.2.2.2.2.1
  unfold fX6_fogNow
  rcases a5 with ⟨e1, e2⟩ | e1
  · rw [if_pos e1, a1.2.2.2.2.1]
    unfold fogY at e2
    by_cases h0 : D.nf = 0
    · rw [if_pos h0] at e2
      rw [if_pos (by omega), e2]
      rfl
    · rw [if_neg h0] at e2
      have hlt : (ro 61).toNat % D.nf < D.nf := Nat.mod_lt _ (by omega)
      obtain ⟨y, hy⟩ : ∃ y : Nat, ro 61 = (y : Int) := ⟨(ro 61).toNat, by omega⟩
      have hv : h 54 (Int.toNat 61) = (y : Int) := by rw [show Int.toNat 61 = 61 from rfl, a4.2.2.2.2, hy]
      rw [hy, Int.toNat_natCast] at hlt e2
      rw [if_neg (by omega), hv, i_rem_nat (by omega) (by omega), gd_y (by decide), gd_y (by omega), gd_y ⟨by omega, by omega⟩, Int.toNat_natCast, a1.2.2.2.2.2.2.2.1 _ hlt, e2]
      have := W.2.2.2.2.2.2.2.1 _ hlt
      rw [Int.toNat_of_nonneg (by omega)]
  · rw [if_neg (by omega), e1]
theorem m_milesIn {D : LD} {ht sd ro : Nat → Int} {fog i n : Nat} {h : Hp} (W : DW D) (H : MS D ht sd ro fog h) (hR : ∀ i, i < D.nh → in32 (ro (54 + i))) (hi : i < D.nh) (hn : n < 8) :
    wp (fX6_milesIn (i : Int) (n : Int) h) (fun r => (r.1, r.2 35 54) = (if shB (D.kd i) (ro (54 + i)) n = true then (0, h 35 54) else lkD D.w D.d sd fog (D.hc i) (i_add (i_add (ht (D.hc i)) 2) (ro (42 + i))) n (h 35 54)) ∧ Same S54 h r.2) := by
  have hc64 : D.cl ≤ 64 := cl64 W.1.2 W.2.1.2
  have hn6 := W.2.2.1
  have hcc := W.2.2.2.2.2.1 i hi
  have e42 : i_add 42 (i : Int) = ((42 + i : Nat) : Int) := ik (c := 42) (by omega) (by decide)
  have e54 : i_add 54 (i : Int) = ((54 + i : Nat) : Int) := ik (c := 54) (by omega) (by decide)
  have g0 := H
  obtain ⟨a1, a2, a3, a4, a5, a6, a7⟩ := H
  have eye : fX6_eyeOf (i : Int) h = some (i_add (i_add (ht (D.hc i)) 2) (ro (42 + i))) := by
    unfold fX6_eyeOf
    rw [Int.toNat_natCast, a1.2.2.2.2.2.1 i hi, e42, gd_y ⟨by omega, by omega⟩, gd_y ⟨by omega, by omega⟩, gd_y ⟨by omega, by omega⟩, Int.toNat_natCast, Int.toNat_natCast, a2 _ hcc, (a4.2.2.1 i hi).2.1]
  unfold fX6_milesIn
  simp only [wp_gd, wp_ite, wp_some, wp_bp, wp_bd, Int.toNat_natCast, e54, a1.2.2.2.2.2.2.1 i hi, (a4.2.2.1 i hi).2.2.2, bt_is (hR i hi) (show n < 32 by omega), one1, eye, m_fogNow W g0, a1.2.2.2.2.2.1 i hi]
  refine ⟨⟨by omega, by omega⟩, fun q => ⟨?_, Same.rf⟩, fun q => ⟨⟨by omega, by omega⟩, fun q2 => ⟨?_, Same.rf⟩, fun q2 => ⟨⟨by omega, by omega⟩, ?_⟩⟩⟩
  · rw [if_pos (by unfold shB; simp [q])]
  · rw [if_pos (by unfold shB; simp [q2])]
  · refine (m_looks W.1 W.2.1 a1.1 a1.2.1 a6 hcc a3 hn).mono ?_
    rintro r ⟨r1, r2, r3⟩
    refine ⟨?_, r3⟩
    rw [if_neg (by unfold shB; simp [q, q2]), r1, r2]
theorem m_sees {D : LD} {ht sd ro : Nat → Int} {fog i : Nat} {h : Hp} (W : DW D) (H : MS D ht sd ro fog h) (hR : ∀ i, i < D.nh → in32 (ro (54 + i))) (hi : i < D.nh) :
    wp (fX6_sees (i : Int) h) (fun r => r.2 35 56 = (vw D ht sd ro fog i).1 ∧ r.2 35 55 = (vw D ht sd ro fog i).2.1 ∧ r.2 35 54 = (vw D ht sd ro fog i).2.2 ∧ Same (fun a k => a = 35 ∧ 54 ≤ k ∧ k ≤ 56) h r.2) := by
  have mono : ∀ {h h' : Hp}, Same (fun a k => a = 35 ∧ 54 ≤ k ∧ k ≤ 56) h h' → Same SM h h' := fun s => s.mono (fun a k p => Or.inl p)
  unfold fX6_sees
  simp only [wp_lb, wp_bp]
  have s3 : Same (fun a k => a = 35 ∧ 54 ≤ k ∧ k ≤ 56) h (st (st (st h 35 54 0) 35 55 0) 35 56 0) := ((st_same ⟨rfl, by omega⟩).st ⟨rfl, by omega⟩).st ⟨rfl, by omega⟩
  refine (wp_for (Q := fun hq : Hp => hq 35 56 = (vw D ht sd ro fog i).1 ∧ hq 35 55 = (vw D ht sd ro fog i).2.1 ∧ hq 35 54 = (vw D ht sd ro fog i).2.2 ∧ Same (fun a k => a = 35 ∧ 54 ≤ k ∧ k ≤ 56) h hq)
    (fun k s => s.1 = (k : Int) ∧ s.2 35 56 = (lkS D.w D.d sd fog (D.hc i) (i_add (i_add (ht (D.hc i)) 2) (ro (42 + i))) (shB (D.kd i) (ro (54 + i))) k).1 ∧ s.2 35 55 = (lkS D.w D.d sd fog (D.hc i) (i_add (i_add (ht (D.hc i)) 2) (ro (42 + i))) (shB (D.kd i) (ro (54 + i))) k).2.1 ∧ s.2 35 54 = (lkS D.w D.d sd fog (D.hc i) (i_add (i_add (ht (D.hc i)) 2) (ro (42 + i))) (shB (D.kd i) (ro (54 + i))) k).2.2 ∧ Same (fun a k => a = 35 ∧ 54 ≤ k ∧ k ≤ 56) h s.2) 8 ?_ ?_ (FU_big (by decide)) ?_).mono ?_
  · rintro k ⟨x, hh⟩ hk ⟨e1, b1, b2, b3, b4⟩
    dsimp only at e1 b1 b2 b3 b4 ⊢
    subst e1
    unfold fX6_sees_l17
    simp only [wp_ite, wp_bd]
    refine ⟨fun q => absurd q (by omega), fun _ => ?_⟩
    refine (m_milesIn W (H.same (mono b4)) hR hi hk).mono ?_
    rintro ⟨v, h1⟩ ⟨r1, r2⟩
    dsimp only at r1 r2 ⊢
    rw [b3] at r1
    have v1 : v = (if shB (D.kd i) (ro (54 + i)) k = true then (0, (lkS D.w D.d sd fog (D.hc i) (i_add (i_add (ht (D.hc i)) 2) (ro (42 + i))) (shB (D.kd i) (ro (54 + i))) k).2.2) else lkD D.w D.d sd fog (D.hc i) (i_add (i_add (ht (D.hc i)) 2) (ro (42 + i))) k (lkS D.w D.d sd fog (D.hc i) (i_add (i_add (ht (D.hc i)) 2) (ro (42 + i))) (shB (D.kd i) (ro (54 + i))) k).2.2).1 := by rw [← r1]
    have v2 : h1 35 54 = (if shB (D.kd i) (ro (54 + i)) k = true then (0, (lkS D.w D.d sd fog (D.hc i) (i_add (i_add (ht (D.hc i)) 2) (ro (42 + i))) (shB (D.kd i) (ro (54 + i))) k).2.2) else lkD D.w D.d sd fog (D.hc i) (i_add (i_add (ht (D.hc i)) 2) (ro (42 + i))) k (lkS D.w D.d sd fog (D.hc i) (i_add (i_add (ht (D.hc i)) 2) (ro (42 + i))) (shB (D.kd i) (ro (54 + i))) k).2.2).2 := by rw [← r1]
    have q56 : h1 35 56 = hh 35 56 := r2 _ _ (by unfold S54; omega)
    have q55 : h1 35 55 = hh 35 55 := r2 _ _ (by unfold S54; omega)
    have s1 : Same (fun a k => a = 35 ∧ 54 ≤ k ∧ k ≤ 56) h h1 := b4.tr (r2.mono (fun a k p => ⟨p.1, by have := p.2; omega⟩))
    have q55' : st h1 35 56 (i_add (h1 35 56) v) 35 55 = hh 35 55 := by rw [st_nk (by decide)]; exact q55
    simp only [wp_lb, wp_ite, q55']
    unfold fX6_sees_j57
    simp only [wp_lb, wp_some, E2_l]
    refine ⟨fun q => ⟨i1 (by omega), ?_, ?_, ?_, (s1.st ⟨rfl, by omega⟩).st ⟨rfl, by omega⟩⟩, fun q => ⟨i1 (by omega), ?_, ?_, ?_, (s1.st ⟨rfl, by omega⟩).st ⟨rfl, by omega⟩⟩⟩
    · rw [st_nk (by decide), st_self, q56, b1, v1]
      rfl
    · rw [st_self]
      show _ = (if _ then _ else _)
      rw [← v1, ← b2, if_neg (by omega)]
    · rw [st_nk (by decide), st_nk (by decide), v2]
      rfl
    · rw [st_nk (by decide), st_self, q56, b1, v1]
      rfl
    · rw [st_self]
      show _ = (if _ then _ else _)
      rw [← v1, ← b2, if_pos (by omega)]
    · rw [st_nk (by decide), st_nk (by decide), v2]
      rfl
  · rintro ⟨x, hh⟩ ⟨e1, b1, b2, b3, b4⟩
    dsimp only at e1 b1 b2 b3 b4 ⊢
    subst e1
    unfold fX6_sees_l17
    simp only [wp_ite, wp_some, E2_r]
    exact ⟨fun _ => ⟨b1, b2, b3, b4⟩, fun q => absurd (by decide) q⟩
  · exact ⟨rfl, by simp [st_at, lkS], by simp [st_at, lkS], by simp [st_at, lkS], s3⟩
  · intro hq b
    simp only [wp_some]
    exact b
