/-! pure part: ruin, the reference and the question -/
def payB (D : LD) (ht ro : Nat → Int) (fog : Nat) (i : Nat) : Bool := decide (txH D ht (lay D ht ro) ro fog i (ro 60) ≤ ro (36 + i))
theorem m_isRuin {D : LD} {Y t : Nat} {ht sd ro : Nat → Int} {fog : Nat} {h : Hp} (W : DW D) (R : RW D Y ro) (H : MS D ht sd ro fog h) (h1 : h 35 52 = -1) (h2 : h 35 53 = -1) (t12 : t < 12) :
    wp (fX6_isRuin (t : Int) h) (fun r => r.1 = aF (fun i => payB D ht ro fog i && !payB D ht (up ro t (-1)) fog i) D.nh ∧ Same SN h r.2) := by
  have hn := W.2.2.1
  have gt : (0 : Int) ≤ (t : Int) ∧ (t : Int) < 62 := ⟨by omega, by omega⟩
  have e60 : up ro t (-1) 60 = ro 60 := up_n (by omega)
  unfold fX6_isRuin
  rw [wp_bd]
  refine (m_lay0 W H h1 h2).mono ?_
  rintro ⟨r0, h3⟩ ⟨-, s3, H3⟩
  dsimp only at s3 H3 ⊢
  rw [wp_bp]
  refine (wp_for (Q := fun r : Int × Hp => r.1 = fb (payB D ht ro fog) D.nh ∧ Same SM h3 r.2) (fun k (s : Int × Int × Hp) => s.1 = fb (payB D ht ro fog) k ∧ s.2.1 = (k : Int) ∧ Same SM h3 s.2.2) D.nh ?_ ?_ (FU_big (by omega)) ⟨rfl, rfl, Same.rf⟩).mono ?_
  · rintro k ⟨v, x, hh⟩ hk ⟨e1, e2, e3⟩
    dsimp only at e1 e2 e3 ⊢
    subst e1 e2
    have H' := H3.same e3
    have e36 : i_add 36 (k : Int) = ((36 + k : Nat) : Int) := ik (c := 36) (by omega) (by decide)
    have k1 : i_add (k : Int) 1 = ((k + 1 : Nat) : Int) := i1 (by clear e36; omega)
    unfold fX6_isRuin_l8
    rw [e36, k1, H'.1.2.2.1, Int.toNat_natCast, (H'.2.2.2.1.2.2.1 k hk).1]
    refine w_f (by clear e36 k1; omega) ?_
    rw [gd_y ⟨by clear e36 k1; omega, by clear e36 k1; omega⟩, wp_bd]
    refine (m_taxOf W H' R.sold hk R.2.2.1).mono ?_
    rintro ⟨r, h7⟩ ⟨g1, g2⟩
    dsimp only at g1 g2 ⊢
    subst g1
    by_cases q : ro (36 + k) < txH D ht (lay D ht ro) ro fog k (ro 60)
    · refine w_t q ?_
      rw [wp_lb, wp_some]
      exact ⟨by rw [fb_step_f (by unfold payB; simp only [decide_eq_true_eq]; clear e36 k1; omega), ior0 (fb_in _ _)], rfl, e3.tr g2⟩
    · refine w_f q ?_
      rw [wp_lb, wp_some]
      exact ⟨by rw [fb_step_t (by unfold payB; simp only [decide_eq_true_eq]; clear e36 k1; omega)], rfl, e3.tr g2⟩
  · rintro ⟨v, x, hh⟩ ⟨e1, e2, e3⟩
    dsimp only at e1 e2 e3 ⊢
    subst e1 e2
    have H' := H3.same e3
    unfold fX6_isRuin_l8
    rw [H'.1.2.2.1]
    exact w_t (Int.le_refl _) (wp_some.mpr ⟨rfl, e3⟩)
  · rintro ⟨v, h16⟩ ⟨v1, v2⟩
    dsimp only at v1 v2 ⊢
    subst v1
    have H4 := H3.same v2
    rw [i0 (by omega), gd_y gt, Int.toNat_natCast, wp_lb, gd_y gt, wp_lb, wp_bd]
    have w54 : h16 54 t = h 54 t := by rw [v2 _ _ (by unfold SM; omega), s3 _ _ (by unfold S57; omega)]
    have M5 := H4.drop t12
    have t1 : Same (fun a k => SN a k ∨ (a = 54 ∧ k = t)) h (st h16 54 t (-1)) := (((S57_SN s3).tr (SM_SN v2)).mono (fun _ _ p => Or.inl p)).st (Or.inr ⟨rfl, rfl⟩)
    refine (m_lay0 W M5 (by rw [t1 _ _ (by unfold SN; omega)]; exact h1) (by rw [t1 _ _ (by unfold SN; omega)]; exact h2)).mono ?_
    rintro ⟨r0, h23⟩ ⟨-, s5, H5⟩
    dsimp only at s5 H5 ⊢
    rw [wp_bp]
    generalize hf : (fun i => payB D ht ro fog i && !payB D ht (up ro t (-1)) fog i) = f
    have hf' : ∀ i, f i = (payB D ht ro fog i && !payB D ht (up ro t (-1)) fog i) := fun i => by rw [← hf]
    refine (wp_for (Q := fun r : Int × Hp => r.1 = aF f D.nh ∧ Same SM h23 r.2) (fun k (s : Int × Int × Hp) => s.1 = aF f k ∧ s.2.1 = (k : Int) ∧ Same SM h23 s.2.2) D.nh ?_ ?_ (FU_big (by omega)) ⟨rfl, rfl, Same.rf⟩).mono ?_
    · rintro k ⟨v, x, hh⟩ hk ⟨e1, e2, e3⟩
      dsimp only at e1 e2 e3 ⊢
      subst e1 e2
      have H' := H5.same e3
      have e36 : i_add 36 (k : Int) = ((36 + k : Nat) : Int) := ik (c := 36) (by omega) (by decide)
      have k1 : i_add (k : Int) 1 = ((k + 1 : Nat) : Int) := i1 (by clear e36; omega)
      have u36 : up ro t (-1) (36 + k) = ro (36 + k) := up_n (by clear e36 k1; omega)
      have es : aF f (k + 1) = if aF f k = 0 then (if f k = true then 1 else 0) else 1 := rfl
      unfold fX6_isRuin_l77
      rw [e36, k1, H'.1.2.2.1, Int.toNat_natCast, bt_is (fb_in _ _) (by clear e36 k1 u36; omega), fb_bt _ _ (by clear e36 k1 u36; omega) _ (by clear e36 k1 u36; omega), decide_eq_true hk, Bool.true_and]
      refine w_f (by clear e36 k1 u36; omega) ?_
      by_cases q0 : aF f k = 0
      · refine w_t q0 ?_
        rw [if_pos q0] at es
        by_cases qp : payB D ht ro fog k = true
        · rw [if_pos qp]
          refine w_t rfl ?_
          rw [wp_bd]
          refine (m_taxOf W H' ((R.drop t12).sold) hk (by rw [e60]; exact R.2.2.1)).mono ?_
          rintro ⟨r, h31⟩ ⟨g1, g2⟩
          dsimp only at g1 g2 ⊢
          subst g1
          have H'' := H'.same g2
          rw [gd_y ⟨by clear e36 k1 u36; omega, by clear e36 k1 u36; omega⟩]
          have w36 := (H''.2.2.2.1.2.2.1 k hk).1
          have ep : f k = !payB D ht (up ro t (-1)) fog k := by rw [hf', qp, Bool.true_and]
          by_cases q : txH D ht (lay D ht (up ro t (-1))) (up ro t (-1)) fog k (up ro t (-1) 60) ≤ up ro t (-1) (36 + k)
          · have eq : payB D ht (up ro t (-1)) fog k = true := decide_eq_true q
            rw [eq] at ep
            refine w_t (by rw [w36]; exact q) (wp_some.mpr ⟨?_, rfl, e3.tr g2⟩)
            show (0 : Int) = aF f (k + 1)
            rw [es, ep]; rfl
          · have eq : payB D ht (up ro t (-1)) fog k = false := decide_eq_false q
            rw [eq] at ep
            refine w_f (by rw [w36]; exact q) (wp_some.mpr ⟨?_, rfl, e3.tr g2⟩)
            show (1 : Int) = aF f (k + 1)
            rw [es, ep]; rfl
        · rw [if_neg qp]
          have ep : f k = false := by
            rw [hf']
            have : payB D ht ro fog k = false := by simpa using qp
            rw [this]; rfl
          refine w_f (by decide) (wp_some.mpr ⟨?_, rfl, e3⟩)
          show (0 : Int) = aF f (k + 1)
          rw [es, ep]; rfl
      · rw [if_neg q0] at es
        exact w_f q0 (wp_some.mpr ⟨es.symm, rfl, e3⟩)
    · rintro ⟨v, x, hh⟩ ⟨e1, e2, e3⟩
      dsimp only at e1 e2 e3 ⊢
      subst e1 e2
      have H' := H5.same e3
      unfold fX6_isRuin_l77
      rw [H'.1.2.2.1]
      exact w_t (Int.le_refl _) (wp_some.mpr ⟨rfl, e3⟩)
    · rintro ⟨v, h38⟩ ⟨v1, v3⟩
      dsimp only at v1 v3 ⊢
      rw [gd_y gt, wp_lb, gd_y (by rw [v1]; exact aF_01 _), wp_some, w54]
      exact ⟨v1, sameAt Same.rf ((t1.tr ((S57_SN s5).mono (fun _ _ p => Or.inl p))).tr ((SM_SN v3).mono (fun _ _ p => Or.inl p)))⟩
theorem s_ruin {κ : Int} {h : Hp} (I : Inv κ h) : wp (fX5_ruin h) (PN κ fX6_ruin) := by
  have I0 := I
  obtain ⟨D, ht, ro, L, nr, rh, rm, na, P, C, -, Q, M, -⟩ := I
  have LBh := C.2.2.2.1
  have W := C.1
  have R := C.2.2.1
  have hn6 := W.2.2.1
  generalize hru : (fun t : Nat => decide (ro t ≠ -1) && decide (aF (fun i => payB D ht ro (fogY D (ro 61)) i && !payB D ht (up ro t (-1)) (fogY D (ro 61)) i) D.nh ≠ 0)) = ru
  have ru0 : ∀ t, ro t = -1 → ru t = false := fun t z => by rw [← hru]; simp [z]
  have ru1 : ∀ t, ro t ≠ -1 → ru t = decide (aF (fun i => payB D ht ro (fogY D (ro 61)) i && !payB D ht (up ro t (-1)) (fogY D (ro 61)) i) D.nh ≠ 0) := fun t z => by rw [← hru]; simp [z]
  have hm : ∀ h', Same SX h h' → wp (fX6_ruin h') (fun q => q.1 = fb ru 12 ∧ Same SXm h' q.2) := by
    intro h' s
    obtain ⟨C0, z0, s1, s2⟩ := C.z s
    unfold fX6_ruin
    rw [wp_lb]
    generalize st h' 35 0 0 = h0 at *
    have z52 : h0 35 52 = -1 := C0.2.2.2.2.2.2.2.2.2.2.1
    have z53 : h0 35 53 = -1 := C0.2.2.2.2.2.2.2.2.2.2.2
    rw [wp_bp]
    refine (wp_for (Q := fun r : Int × Hp => r.1 = fb ru 12 ∧ Same SN h0 r.2) (fun k (s : Int × Int × Hp) => s.1 = fb ru k ∧ s.2.1 = (k : Int) ∧ Same SN h0 s.2.2) 12 ?_ ?_ (FU_big (by decide)) ⟨rfl, rfl, Same.rf⟩).mono ?_
    · rintro k ⟨v, x, hh⟩ hk ⟨e1, e2, e3⟩
      dsimp only at e1 e2 e3 ⊢
      subst e1 e2
      have H' := C0.ms.sn e3
      have k1 : i_add (k : Int) 1 = ((k + 1 : Nat) : Int) := i1 (by omega)
      unfold fX6_ruin_l9
      rw [i0 (by clear k1; omega), k1, Int.toNat_natCast, H'.2.2.2.1.1 k hk]
      refine w_f (by clear k1; omega) ?_
      rw [gd_y ⟨by clear k1; omega, by clear k1; omega⟩]
      by_cases q : ro k = -1
      · refine w_t q ?_
        rw [wp_lb, wp_some]
        exact ⟨by rw [fb_step_f (by rw [ru0 k q]; decide), ior0 (fb_in _ _)], rfl, e3⟩
      · refine w_f q ?_
        rw [wp_bd]
        refine (m_isRuin W R H' (by rw [e3 _ _ (by unfold SN; clear k1; omega)]; exact z52) (by rw [e3 _ _ (by unfold SN; clear k1; omega)]; exact z53) hk).mono ?_
        rintro ⟨r, h9⟩ ⟨g1, g2⟩
        dsimp only at g1 g2 ⊢
        have er := ru1 k q
        rw [← g1] at er
        by_cases q2 : r = 0
        · refine w_t q2 ?_
          rw [wp_lb, wp_some]
          exact ⟨by rw [fb_step_f (by rw [er]; simp [q2]), ior0 (fb_in _ _)], rfl, e3.tr g2⟩
        · refine w_f q2 ?_
          rw [wp_lb, wp_some]
          exact ⟨by rw [fb_step_t (by rw [er]; simp [q2])], rfl, e3.tr g2⟩
    · rintro ⟨v, x, hh⟩ ⟨e1, e2, e3⟩
      dsimp only at e1 e2 e3 ⊢
      subst e1 e2
      unfold fX6_ruin_l9
      exact w_t (by decide) (wp_some.mpr ⟨rfl, e3⟩)
    · rintro ⟨v, h17⟩ ⟨v1, v3⟩
      dsimp only at v1 v3 ⊢
      rw [wp_some]
      exact ⟨v1, s1.tr (SN_m v3)⟩
  unfold fX5_ruin
  rw [wp_bd]
  refine C.present.mono ?_
  rintro ⟨r, h3⟩ ⟨r1, r2, r3⟩
  dsimp only at r1 r2 r3 ⊢
  rw [gd20 r1, wp_bd]
  refine (c_canPay W r3 R.2.2.1).mono ?_
  rintro ⟨v, h7⟩ ⟨v1, v2⟩
  dsimp only at v1 v2 ⊢
  subst v1
  have t7 : Same SX h h7 := (SC_X r2).tr (SL_X v2)
  rw [wp_bp]
  refine (wp_for (Q := fun r : Int × Hp => r.1 = fb ru 12 ∧ Same SX h r.2) (fun k (s : Int × Int × Hp) => s.1 = fb ru k ∧ s.2.1 = (k : Int) ∧ Same SX h s.2.2) 12 ?_ ?_ (FU_big (by decide)) ⟨rfl, rfl, t7⟩).mono ?_
  · rintro k ⟨v, x, hh⟩ hk ⟨e1, e2, e3⟩
    dsimp only at e1 e2 e3 ⊢
    subst e1 e2
    have C' := C.same e3
    have k1 : i_add (k : Int) 1 = ((k + 1 : Nat) : Int) := i1 (by omega)
    unfold fX5_ruin_l12
    rw [i0 (by clear k1; omega), k1, Int.toNat_natCast, C'.2.2.2.1.2.2.2.2.1 k hk]
    refine w_f (by clear k1; omega) ?_
    rw [gd_y ⟨by clear k1; omega, by clear k1; omega⟩]
    by_cases q : ro k = -1
    · refine w_t q (wp_some.mpr ⟨by rw [fb_step_f (by rw [ru0 k q]; decide)], rfl, e3⟩)
    · refine w_f q ?_
      rw [wp_bd]
      refine C'.present.mono ?_
      rintro ⟨r', h14⟩ ⟨p1, p2, p3⟩
      dsimp only at p1 p2 p3 ⊢
      rw [gd20 p1, wp_bd]
      refine (c_dropTree W C.2.1 R p3 hk q).mono ?_
      rintro ⟨u, h18⟩ ⟨-, u2, u3⟩
      dsimp only at u2 u3 ⊢
      rw [wp_bd]
      have e60 : up ro k (-1) 60 = ro 60 := up_n (by clear k1; omega)
      refine (c_canPay W u3 (by rw [e60]; exact R.2.2.1)).mono ?_
      rintro ⟨w, h21⟩ ⟨w1, w2⟩
      dsimp only at w1 w2 ⊢
      subst w1
      have s9 : Same SX h h21 := ((e3.tr (SC_X p2)).tr (SC_X u2)).tr (SL_X w2)
      have er := ru1 k q
      have sb := sub_bits (p := fun i => decide (txH D ht (lay D ht ro) ro (fogY D (ro 61)) i (ro 60) ≤ ro (36 + i))) (q := fun i => decide (txH D ht (lay D ht (up ro k (-1))) (up ro k (-1)) (fogY D (ro 61)) i (up ro k (-1) 60) ≤ up ro k (-1) (36 + i))) hn6
      by_cases q2 : i_and (fb (fun i => decide (txH D ht (lay D ht ro) ro (fogY D (ro 61)) i (ro 60) ≤ ro (36 + i))) D.nh) (i_xor (fb (fun i => decide (txH D ht (lay D ht (up ro k (-1))) (up ro k (-1)) (fogY D (ro 61)) i (up ro k (-1) 60) ≤ up ro k (-1) (36 + i))) D.nh) (-1)) = 0
      · have q3 := sb.mp q2
        exact w_t q2 (wp_some.mpr ⟨by rw [fb_step_f (by rw [er]; unfold payB; simp [q3])], rfl, s9⟩)
      · have q3 := fun z => q2 (sb.mpr z)
        refine w_f q2 ?_
        rw [wp_lb, wp_some]
        exact ⟨by rw [fb_step_t (by rw [er]; unfold payB; exact decide_eq_true q3)], rfl, s9⟩
  · rintro ⟨v, x, hh⟩ ⟨e1, e2, e3⟩
    dsimp only at e1 e2 e3 ⊢
    subst e1 e2
    unfold fX5_ruin_l12
    exact w_t (by decide) (wp_some.mpr ⟨rfl, e3⟩)
  · rintro ⟨v, h28⟩ ⟨v1, v3⟩
    dsimp only at v1 v3 ⊢
    rw [wp_some, v1]
    exact q_n I0 v3 hm
