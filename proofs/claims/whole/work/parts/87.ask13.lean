/-! pure part: hollow, the question -/
def hlw (p : Nat → Bool) (f : Nat → Int) : Nat → Int × Int
  | 0 => (-1, -1)
  | k + 1 => if p k = true then (if (hlw p f k).1 = -1 then ((k : Int), f k) else if f k < (hlw p f k).2 then ((k : Int), f k) else hlw p f k) else hlw p f k
theorem s_hollow {κ : Int} {x : Int} {h : Hp} (I : Inv κ h) : wp (fX5_hollow x h) (PT κ (fX6_hollow x) (fun _ => 1)) := by
  have I0 := I
  obtain ⟨D, ht, ro, L, nr, rh, rm, na, P, C, -, Q, M, -⟩ := I
  have LBh := C.2.2.2.1
  have W := C.1
  have R := C.2.2.1
  have hL := LBh.1
  have hc64 : D.cl ≤ 64 := cl64 W.1.2 W.2.1.2
  unfold fX5_hollow
  by_cases hx : 0 ≤ x ∧ x ≤ 1
  · refine nw_pass hx ?_
    generalize hf : (fun c : Nat => txV D ht (lay D ht ro) (ro 61) (fogY D (ro 61)) c 0 0 0 (ro 60)) = f
    have hf' : ∀ c : Nat, txV D ht (lay D ht ro) (ro 61) (fogY D (ro 61)) c 0 0 0 (ro 60) = f c := fun c => by rw [← hf]
    generalize hB : hlw (fun c => bare D ro (c : Int)) f = B
    have B0 : B 0 = (-1, -1) := by rw [← hB]; rfl
    have Bs : ∀ k, B (k + 1) = if bare D ro (k : Int) = true then (if (B k).1 = -1 then ((k : Int), f k) else if f k < (B k).2 then ((k : Int), f k) else B k) else B k := fun k => by rw [← hB]; rfl
    have hm : ∀ h', Same SX h h' → wp (fX6_hollow x h') (fun q => q.1 = (if x = 0 then (B D.cl).1 else (B D.cl).2) ∧ q.2 35 0 = 0 ∧ Same SXm h' q.2) := by
      intro h' s
      obtain ⟨C0, z0, s1, s2⟩ := C.z s
      unfold fX6_hollow
      refine mw_pass z0 hx (w_f n10 ?_)
      generalize st h' 35 0 0 = h0 at *
      rw [wp_bd]
      refine C0.layd.mono ?_
      rintro ⟨q, h8⟩ ⟨-, q2, q3⟩
      dsimp only at q2 q3 ⊢
      rw [wp_bp]
      refine (wp_for (Q := fun r : Int × Int × Hp => (r.1, r.2.1) = B D.cl ∧ Same SM h8 r.2.2) (fun k (s : Int × Int × Int × Hp) => (s.1, s.2.1) = B k ∧ s.2.2.1 = (k : Int) ∧ Same SM h8 s.2.2.2) D.cl ?_ ?_ (FU_big (by omega)) ⟨B0.symm, rfl, Same.rf⟩).mono ?_
      · rintro k ⟨b, l, kk, hh⟩ hk ⟨f1, f2, f3⟩
        dsimp only at f1 f2 f3 ⊢
        subst f2
        have H' := q3.same f3
        have em := Bs k
        rw [← f1] at em
        dsimp only at em
        have k1 : i_add (k : Int) 1 = ((k + 1 : Nat) : Int) := i1 (by clear em f1; omega)
        unfold fX6_hollow_l27
        rw [k1, m_cells W H'.1, wp_bp, wp_some]
        refine w_f (by clear em f1 k1; omega) ?_
        rw [m_isBare W H'.1 H'.2.2.2.1, wp_bp, wp_some]
        by_cases hb : bare D ro (k : Int) = true
        · rw [if_pos hb] at em ⊢
          refine w_f (by decide) ?_
          rw [wp_bd]
          refine (m_villaIn W H' hk R.2.2.1).mono ?_
          rintro ⟨u, h17⟩ ⟨u1, u2⟩
          dsimp only at u1 u2 ⊢
          rw [hf'] at u1
          subst u1
          by_cases qb : b = -1
          · exact w_t qb (wp_some.mpr ⟨by rw [em, if_pos qb], rfl, f3.tr u2⟩)
          · refine w_f qb ?_
            by_cases q : f k < l
            · exact w_t q (wp_some.mpr ⟨by rw [em, if_neg qb, if_pos q], rfl, f3.tr u2⟩)
            · exact w_f q (wp_some.mpr ⟨by rw [em, if_neg qb, if_neg q], rfl, f3.tr u2⟩)
        · rw [if_neg hb] at em ⊢
          exact w_t rfl (wp_some.mpr ⟨em.symm, rfl, f3⟩)
      · rintro ⟨b, l, kk, hh⟩ ⟨f1, f2, f3⟩
        dsimp only at f1 f2 f3 ⊢
        subst f2
        have H' := q3.same f3
        unfold fX6_hollow_l27
        rw [m_cells W H'.1, wp_bp, wp_some]
        exact w_t (Int.le_refl _) (wp_some.mpr ⟨f1, f3⟩)
      · rintro ⟨b, l, h27⟩ ⟨b1, b2⟩
        dsimp only at b1 b2 ⊢
        have y0 : h27 35 0 = 0 := z_kept (z_kept z0 (S57_SN q2)) (SM_SN b2)
        have y1 : Same SXm h' h27 := (s1.tr (S57_m q2)).tr (SM_m b2)
        rw [← b1]
        by_cases q : x = 0
        · exact w_t q (wp_some.mpr ⟨by rw [if_pos q], y0, y1⟩)
        · exact w_f q (wp_some.mpr ⟨by rw [if_neg q], y0, y1⟩)
    unfold fX5_hollow_j5
    rw [wp_mi, wp_bd]
    refine C.present.mono ?_
    rintro ⟨r, h6⟩ ⟨r1, r2, r3⟩
    dsimp only at r1 r2 r3 ⊢
    rw [gd20 r1, wp_bp]
    refine (c_freeCells W r3).mono ?_
    intro fr hfr
    rw [wp_bp]
    refine (wp_for (Q := fun r : Int × Int × Hp => (r.1, r.2.1) = B D.cl ∧ Same SL h6 r.2.2) (fun k (s : Int × Int × Int × Hp) => (s.1, s.2.1) = B k ∧ s.2.2.1 = (k : Int) ∧ Same SL h6 s.2.2.2) D.cl ?_ ?_ (FU_big (by omega)) ⟨B0.symm, rfl, Same.rf⟩).mono ?_
    · rintro k ⟨b, l, kk, hh⟩ hk ⟨f1, f2, f3⟩
      dsimp only at f1 f2 f3 ⊢
      subst f2
      have H' := r3.same f3
      have em := Bs k
      rw [← f1] at em
      dsimp only at em
      have k1 : i_add (k : Int) 1 = ((k + 1 : Nat) : Int) := i1 (by clear em f1; omega)
      have v0 : hh 0 0 = (L : Int) := by rw [f3 _ _ (by unfold SL; clear em f1 k1; omega), r2 _ _ (by unfold SC; clear em f1 k1; omega)]; exact LBh.2.1
      unfold fX5_hollow_l22
      rw [k1, gd_y (by rw [v0]; clear em f1 k1 v0; omega), v0, c_cells W hL H'.2.2.1, wp_bp, wp_some]
      refine w_f (by clear em f1 k1 v0; omega) ?_
      rw [hasBit_eq (by clear em f1 k1 v0; omega), hfr k hk, wp_bp, wp_some]
      by_cases hb : bare D ro (k : Int) = true
      · rw [if_pos hb] at em ⊢
        refine w_f (by decide) ?_
        rw [wp_bd]
        refine (c_taxOfVilla W H' hk R.2.2.1).mono ?_
        rintro ⟨u, h20⟩ ⟨u1, u2⟩
        dsimp only at u1 u2 ⊢
        rw [hf'] at u1
        subst u1
        by_cases qb : b = -1
        · exact w_t qb (wp_some.mpr ⟨by rw [em, if_pos qb], rfl, f3.tr u2⟩)
        · refine w_f qb ?_
          by_cases q : f k < l
          · exact w_f (Int.not_le.mpr q) (wp_some.mpr ⟨by rw [em, if_neg qb, if_pos q], rfl, f3.tr u2⟩)
          · exact w_t (Int.not_lt.mp q) (wp_some.mpr ⟨by rw [em, if_neg qb, if_neg q], rfl, f3.tr u2⟩)
      · rw [if_neg hb] at em ⊢
        exact w_t rfl (wp_some.mpr ⟨em.symm, rfl, f3⟩)
    · rintro ⟨b, l, kk, hh⟩ ⟨f1, f2, f3⟩
      dsimp only at f1 f2 f3 ⊢
      subst f2
      have H' := r3.same f3
      have v0 : hh 0 0 = (L : Int) := by rw [f3 _ _ (by unfold SL; clear f1; omega), r2 _ _ (by unfold SC; clear f1; omega)]; exact LBh.2.1
      unfold fX5_hollow_l22
      rw [gd_y (by rw [v0]; clear f1 v0; omega), v0, c_cells W hL H'.2.2.1, wp_bp, wp_some]
      exact w_t (Int.le_refl _) (wp_some.mpr ⟨f1, f3⟩)
    · rintro ⟨b, l, h29⟩ ⟨b1, b2⟩
      dsimp only at b1 b2 ⊢
      rw [← b1] at hm
      by_cases q : x = 0
      · rw [if_pos q] at hm
        exact w_t q (wp_some.mpr (q_ok I0 ((SC_X r2).tr (SL_X b2)) hm))
      · rw [if_neg q] at hm
        exact w_f q (wp_some.mpr (q_ok I0 ((SC_X r2).tr (SL_X b2)) hm))
  · refine nw_fail hx (q_no I0 Same.rf (fun h' s => ?_))
    obtain ⟨C0, z0, s1, s2⟩ := C.z s
    unfold fX6_hollow
    exact mw_fail z0 hx (w_t rfl (wp_some.mpr (no1 s1)))
