/-! pure part: house, miles, liars, felling, compare, fir, stop -/
theorem s_miles {κ : Int} {x y : Int} {h : Hp} (I : Inv κ h) : wp (fX5_miles x y h) (PT κ (fX6_miles x y) (fun _ => 1)) := by
  have I0 := I
  obtain ⟨D, ht, ro, L, nr, rh, rm, na, P, C, -, Q, M, -⟩ := I
  have LBh := C.2.2.2.1
  have W := C.1
  unfold fX5_miles
  by_cases hx : 0 ≤ x ∧ x < (D.nh : Int)
  · refine nh_pass LBh.1 LBh.2.1 LBh.2.2.1 hx ?_
    obtain ⟨i, rfl⟩ : ∃ i : Nat, x = (i : Int) := ⟨x.toNat, by omega⟩
    have hi : i < D.nh := by omega
    by_cases hy : 0 ≤ y ∧ y < 8
    · refine nd_pass hy ?_
      obtain ⟨n, rfl⟩ : ∃ n : Nat, y = (n : Int) := ⟨y.toNat, by omega⟩
      have hn : n < 8 := by omega
      unfold fX5_miles_j9
      rw [wp_mi, wp_bd]
      refine C.present.mono ?_
      rintro ⟨r, h6⟩ ⟨r1, r2, r3⟩
      dsimp only at r1 r2 r3 ⊢
      rw [gd20 r1, wp_bd]
      refine (c_lookFrom W r3 hi).mono ?_
      rintro ⟨v, h10⟩ ⟨-, b⟩
      dsimp only at b ⊢
      rw [gd_y hy, wp_some, Int.toNat_natCast, b.2.2.2.2.2.2.2.1 n hn]
      refine q_ok I0 ((SC_X r2).tr (SL_X b.sm)) (fun h' s => ?_)
      obtain ⟨C0, z0, s1, s2⟩ := C.z s
      unfold fX6_miles
      refine mh_pass z0 C0.nh hx (w_f n10 (mw_pass z0 ⟨by omega, by omega⟩ (w_f n10 ?_)))
      rw [wp_bd]
      refine C0.layd.mono ?_
      rintro ⟨q, h12⟩ ⟨-, q2, q3⟩
      dsimp only at q2 q3 ⊢
      rw [wp_bd]
      refine (m_milesIn W q3 C.2.2.1.sold hi hn).mono ?_
      rintro ⟨q', h15⟩ ⟨u3, u4⟩
      dsimp only at u3 u4 ⊢
      have u5 : Same SM h12 h15 := u4.mono (fun a k p => Or.inl ⟨p.1, by have := p.2; omega⟩)
      rw [wp_some]
      refine ⟨?_, z_kept (z_kept z0 (S57_SN q2)) (SM_SN u5), (s1.tr (S57_m q2)).tr (SM_m u5)⟩
      unfold lkF
      by_cases e : shB (D.kd i) (ro (54 + i)) n = true
      · rw [if_pos e] at u3 ⊢
        exact (Prod.mk.inj u3).1
      · rw [if_neg e] at u3 ⊢
        rw [lkD_v (v' := h12 35 54), ← u3]
    · refine nd_fail hy ?_
      refine q_no I0 Same.rf (fun h' s => ?_)
      obtain ⟨C0, z0, s1, s2⟩ := C.z s
      unfold fX6_miles
      exact mh_pass z0 C0.nh hx (w_f n10 (mw_fail z0 (by omega) (w_t rfl (wp_some.mpr (no1 s1)))))
  · refine nh_fail LBh.1 LBh.2.1 LBh.2.2.1 hx ?_
    exact no_house I0 C hx (fun h' => rfl) rfl
theorem s_liars {κ : Int} {h : Hp} (I : Inv κ h) : wp (fX5_liars h) (PN κ fX6_liars) := by
  have I0 := I
  obtain ⟨D, ht, ro, L, nr, rh, rm, na, P, C, -, Q, M, -⟩ := I
  have W := C.1
  unfold fX5_liars
  rw [wp_bd]
  refine C.present.mono ?_
  rintro ⟨r, h6⟩ ⟨r1, r2, r3⟩
  dsimp only at r1 r2 r3 ⊢
  rw [gd20 r1, wp_bd]
  refine (c_lie W r3 (C.same (SC_X r2)).2.2.2.2.1).mono ?_
  rintro ⟨v, h10⟩ ⟨v1, v2⟩
  dsimp only at v1 v2 ⊢
  subst v1
  rw [wp_some]
  refine q_n I0 ((SC_X r2).tr (SL_X v2)) (fun h' s => ?_)
  obtain ⟨C0, z0, s1, s2⟩ := C.z s
  show wp (bd_ (fX6_liarsNow (st h' 35 0 0)) (fun r2 h4 => some (r2, h4))) _
  rw [wp_bd]
  refine (m_liarsNow W C0.2.2.1 C0.ms C0.2.2.2.2.2.2.2.2.2.2.1 C0.2.2.2.2.2.2.2.2.2.2.2 C0.2.2.2.2.2.2.2.2.1).mono ?_
  rintro q ⟨q1, q2⟩
  rw [wp_some]
  exact ⟨q1, s1.tr (SN_m q2)⟩
theorem sm_back {P : Nat → Nat → Prop} {h hA hC : Hp} {a k : Nat} {v w : Int} (s1 : Same P h hA) (s2 : Same P (st hA a k v) hC) (hw : w = h a k) : Same P h (st hC a k w) := by
  intro x j n
  by_cases e : x = a ∧ j = k
  · obtain ⟨rfl, rfl⟩ := e
    rw [st_self, hw]
  · have e1 : st hC a k w x j = hC x j := if_neg e
    have e2 : st hA a k v x j = hA x j := if_neg e
    rw [e1, s2 x j n, e2, s1 x j n]
theorem MS.drop {D : LD} {ht sd ro : Nat → Int} {fog t : Nat} {h : Hp} (H : MS D ht sd ro fog h) (ht12 : t < 12) : MS D ht sd (up ro t (-1)) fog (st h 54 t (-1)) := by
  obtain ⟨a1, a2, a3, a4, a5, a6, a7⟩ := H
  refine ⟨a1.same (fun a k p => st_na (by omega)), fun c hc => by rw [st_na (by decide)]; exact a2 c hc, fun c hc => by rw [st_na (by decide)]; exact a3 c hc, by rw [st_up]; exact a4.drop ht12, by rw [st_na (by decide), up_n (by omega)]; exact a5, a6, by rw [up_n (by omega)]; exact a7⟩
theorem s_felling {κ : Int} {x : Int} {h : Hp} (I : Inv κ h) : wp (fX5_felling x h) (PT κ (fX6_felling x) (fun _ => 1)) := by
  have I0 := I
  obtain ⟨D, ht, ro, L, nr, rh, rm, na, P, C, -, Q, M, -⟩ := I
  have LBh := C.2.2.2.1
  have W := C.1
  have R := C.2.2.1
  unfold fX5_felling
  by_cases hx : 0 ≤ x ∧ x < 12 ∧ ro x.toNat ≠ -1
  · refine nt_pass LBh.2.2.2.2 hx ?_
    obtain ⟨t, rfl⟩ : ∃ t : Nat, x = (t : Int) := ⟨x.toNat, by omega⟩
    have t12 : t < 12 := by omega
    have hne : ro t ≠ -1 := by have := hx.2.2; rw [Int.toNat_natCast] at this; exact this
    unfold fX5_felling_j5
    rw [wp_mi, wp_bd]
    refine C.present.mono ?_
    rintro ⟨r, h6⟩ ⟨r1, r2, r3⟩
    dsimp only at r1 r2 r3 ⊢
    rw [gd20 r1, wp_bd]
    refine (c_taxOfAll W r3 R.2.2.1).mono ?_
    rintro ⟨v, h10⟩ ⟨v1, v2⟩
    dsimp only at v1 v2 ⊢
    subst v1
    rw [wp_bd]
    refine (c_dropTree W C.2.1 R (r3.same v2) t12 hne).mono ?_
    rintro ⟨u, h13⟩ ⟨-, u2, u3⟩
    dsimp only at u2 u3 ⊢
    rw [wp_bd]
    have e60 : up ro t (-1) 60 = ro 60 := up_n (by omega)
    have e61 : up ro t (-1) 61 = ro 61 := up_n (by omega)
    refine (c_taxOfAll W u3 (by rw [e60]; exact R.2.2.1)).mono ?_
    rintro ⟨v', h16⟩ ⟨w1, w2⟩
    dsimp only at w1 w2 ⊢
    subst w1
    rw [wp_some]
    refine q_ok I0 ((((SC_X r2).tr (SL_X v2)).tr (SC_X u2)).tr (SL_X w2)) (fun h' s => ?_)
    obtain ⟨C0, z0, s1, s2⟩ := C.z s
    unfold fX6_felling
    refine mt_pass C0.2.2.2.2.2.2.2.1 z0 hx (w_f n10 ?_)
    generalize st h' 35 0 0 = h0 at *
    rw [wp_bd]
    have f1 := C0.2.2.2.2.2.2.2.2.2.2.1
    have f2 := C0.2.2.2.2.2.2.2.2.2.2.2
    refine (m_sum W R C0.ms f1 f2).mono ?_
    rintro ⟨p, h8⟩ ⟨p1, p2⟩
    dsimp only at p1 p2 ⊢
    subst p1
    have M8 := C0.ms.sn p2
    have M8' := M8.drop (t := t) t12
    rw [i0 (by omega), Int.toNat_natCast]
    simp only [wp_gd, wp_lb, wp_bd]
    refine ⟨⟨by omega, by omega⟩, ⟨by omega, by omega⟩, ?_⟩
    have g1 : st h8 54 t (-1) 35 52 = -1 := by rw [st_na (by decide), p2 _ _ (by unfold SN; omega)]; exact f1
    have g2 : st h8 54 t (-1) 35 53 = -1 := by rw [st_na (by decide), p2 _ _ (by unfold SN; omega)]; exact f2
    refine (m_sum W (R.drop t12) M8' g1 g2).mono ?_
    rintro ⟨p', h15⟩ ⟨p3, p4⟩
    dsimp only at p3 p4 ⊢
    subst p3
    rw [wp_some]
    refine ⟨⟨by omega, by omega⟩, ?_, ?_, ?_⟩
    · rw [e60]
    · show st h15 54 t (h8 54 t) 35 0 = 0
      rw [st_na (by decide), p4 _ _ (by unfold SN; omega), st_na (by decide)]
      exact z_kept z0 p2
    · refine sm_back (s1.tr (SN_m p2)) (SN_m p4) ?_
      rw [p2 _ _ (by unfold SN; omega), s1 _ _ (by unfold SXm; omega)]
  · refine nt_fail LBh.2.2.2.2 hx ?_
    refine q_no I0 Same.rf (fun h' s => ?_)
    obtain ⟨C0, z0, s1, s2⟩ := C.z s
    unfold fX6_felling
    exact mt_fail C0.2.2.2.2.2.2.2.1 z0 hx (w_t rfl (wp_some.mpr (no1 s1)))
theorem c_law {D : LD} {L : Nat} {x : Int} {h : Hp} (hL : L = 1 ∨ L = 9) (h0 : h 0 0 = (L : Int)) (H : CL D L h) : fX5_isLawOrNone x h = some (if -1 ≤ x ∧ x < (D.nl : Int) then 1 else 0) := by
  unfold fX5_isLawOrNone
  rw [h0, Int.toNat_natCast, H.2.2.2.1]
  by_cases e : x = -1
  · rw [if_pos e, if_pos ⟨by omega, by omega⟩]
  · rw [if_neg e]
    by_cases e2 : x < 0
    · rw [if_pos e2, if_neg (by omega)]
    · rw [if_neg e2, gd_y (by omega)]
      by_cases e3 : (D.nl : Int) ≤ x
      · rw [if_pos e3, if_neg (by omega)]
      · rw [if_neg e3, if_pos ⟨by omega, by omega⟩]
theorem nw_pass {x b : Int} {h : Hp} {f : Int → Hp → Option RX} {Z : RX → Prop} (hx : 0 ≤ x ∧ x ≤ b) (k : wp (f 0 h) Z) : wp (bx_ (fX5_needWhat x b h) f) Z := by
  unfold fX5_needWhat fX5_needWhat_j19
  rw [if_neg (by omega), if_pos hx.2, wp_bx, wp_mi, wp_some]
  exact k
theorem nw_fail {x b : Int} {h : Hp} {f : Int → Hp → Option RX} {Z : RX → Prop} (hx : ¬ (0 ≤ x ∧ x ≤ b)) (k : Z (.inr (0, h))) : wp (bx_ (fX5_needWhat x b h) f) Z := by
  unfold fX5_needWhat fX5_needWhat_j19
  rw [wp_bx]
  by_cases e : x < 0
  · rw [if_pos e, wp_some]
    exact k
  · rw [if_neg e, if_neg (by omega), wp_some]
    exact k
theorem s_compare {κ : Int} {x y : Int} {h : Hp} (I : Inv κ h) : wp (fX5_compare x y h) (PT κ (fX6_compare x y) (fun _ => 1)) := by
  have I0 := I
  obtain ⟨D, ht, ro, L, nr, rh, rm, na, P, C, -, Q, M, -⟩ := I
  have LBh := C.2.2.2.1
  have W := C.1
  have R := C.2.2.1
  have hnl : ∀ {h0 : Hp}, Core D ht ro L nr rh rm h0 → h0 35 4 = (D.nl : Int) := fun C0 => C0.2.2.2.2.2.1.2.2.2.1
  unfold fX5_compare
  rw [c_law LBh.1 LBh.2.1 LBh.2.2.1, wp_bp, wp_some]
  by_cases hx : -1 ≤ x ∧ x < (D.nl : Int)
  · rw [if_pos hx]
    refine w_f n10 ?_
    have pre : ∀ h0 : Hp, Core D ht ro L nr rh rm h0 → ∀ Z, wp (fX6_compare_j24 x y 1 h0) Z → wp (if x < (-1) then fX6_compare_j23 x y h0 else (if (h0 35 4) ≤ x then fX6_compare_j23 x y h0 else fX6_compare_j24 x y 1 h0)) Z := by
      intro h0 C0 Z k
      rw [if_neg (by omega), hnl C0, if_neg (by omega)]
      exact k
    by_cases hy : 0 ≤ y ∧ y ≤ 1
    · refine nw_pass hy ?_
      unfold fX5_compare_j24
      rw [wp_mi, wp_bd]
      refine C.present.mono ?_
      rintro ⟨r, h6⟩ ⟨r1, r2, r3⟩
      dsimp only at r1 r2 r3 ⊢
      rw [gd20 r1]
      by_cases h0y : y = 0
      · rw [if_pos h0y, wp_bd]
        refine (c_sumBy W r3 hx).mono ?_
        rintro ⟨v, h10⟩ ⟨v1, v2⟩
        dsimp only at v1 v2 ⊢
        subst v1
        rw [wp_some]
        refine q_ok I0 ((SC_X r2).tr (SL_X v2)) (fun h' s => ?_)
        obtain ⟨C0, z0, s1, s2⟩ := C.z s
        unfold fX6_compare
        refine pre _ C0 _ ?_
        unfold fX6_compare_j24
        refine mr_pass z0 (by decide) (w_f n10 (mw_pass z0 hy (w_f n10 ?_)))
        rw [if_pos h0y, wp_bd]
        refine (m_sumBy W R C0.ms C0.2.2.2.2.2.2.2.2.2.2.1 C0.2.2.2.2.2.2.2.2.2.2.2 hx).mono ?_
        rintro q ⟨q1, q2⟩
        rw [wp_some]
        exact ⟨q1, z_kept z0 q2, s1.tr (SN_m q2)⟩
      · rw [if_neg h0y, wp_bd]
        refine (c_mostBy W r3 hx).mono ?_
        rintro ⟨v, h10⟩ ⟨v1, v2⟩
        dsimp only at v1 v2 ⊢
        subst v1
        rw [wp_some]
        refine q_ok I0 ((SC_X r2).tr (SL_X v2)) (fun h' s => ?_)
        obtain ⟨C0, z0, s1, s2⟩ := C.z s
        unfold fX6_compare
        refine pre _ C0 _ ?_
        unfold fX6_compare_j24
        refine mr_pass z0 (by decide) (w_f n10 (mw_pass z0 hy (w_f n10 ?_)))
        rw [if_neg h0y, wp_bd]
        refine (m_mostBy W R C0.ms C0.2.2.2.2.2.2.2.2.2.2.1 C0.2.2.2.2.2.2.2.2.2.2.2 hx).mono ?_
        rintro q ⟨q1, q2⟩
        rw [wp_some]
        exact ⟨q1, z_kept z0 q2, s1.tr (SN_m q2)⟩
    · refine nw_fail hy ?_
      refine q_no I0 Same.rf (fun h' s => ?_)
      obtain ⟨C0, z0, s1, s2⟩ := C.z s
      unfold fX6_compare
      refine pre _ C0 _ ?_
      unfold fX6_compare_j24
      exact mr_pass z0 (by decide) (w_f n10 (mw_fail z0 hy (w_t rfl (wp_some.mpr (no1 s1)))))
  · rw [if_neg hx]
    refine w_t rfl ?_
    rw [wp_some]
    refine q_no I0 Same.rf (fun h' s => ?_)
    obtain ⟨C0, z0, s1, s2⟩ := C.z s
    unfold fX6_compare
    have k : ∀ h0 : Hp, h0 35 0 = 0 → Same SXm h' h0 → wp (fX6_compare_j23 x y h0) (fun y => y.2 35 0 = 1 ∧ Same SXm h' y.2) := by
      intro h0 z0 s1
      unfold fX6_compare_j23 fX6_compare_j24
      exact mr_fail z0 (by decide) (w_t rfl (wp_some.mpr (no1 s1)))
    show wp (if x < (-1) then fX6_compare_j23 x y (st h' 35 0 0) else (if (st h' 35 0 0 35 4) ≤ x then fX6_compare_j23 x y (st h' 35 0 0) else fX6_compare_j24 x y 1 (st h' 35 0 0))) _
    rw [hnl C0]
    by_cases e : x < -1
    · exact w_t e (k _ z0 s1)
    · exact w_f e (w_t (by omega) (k _ z0 s1))
theorem s_fir {κ : Int} {x : Int} {h : Hp} (I : Inv κ h) : wp (fX5_fir x h) (PT κ (fX6_fir x) (fun _ => 1)) := by
  have I0 := I
  obtain ⟨D, ht, ro, L, nr, rh, rm, na, P, C, -, Q, M, -⟩ := I
  have F := M.2.2.2.2.2.2.2.1
  have k : ∀ h' h0 : Hp, h0 35 0 = 0 → Same SXm h' h0 → wp (fX6_fir_j30 x h0) (fun y => y.2 35 0 = 1 ∧ Same SXm h' y.2) := by
    intro h' h0 z0 s1
    unfold fX6_fir_j30 fX6_fir_j31
    exact mr_fail z0 (by decide) (w_t rfl (wp_some.mpr (no1 s1)))
  have f59 : ∀ {h0 : Hp}, Same SX h h0 → h0 35 59 = h 35 59 := fun s => s _ _ (by unfold SX; omega)
  by_cases hx : 0 ≤ x ∧ x < h 0 15
  · rcases F with ⟨f1, f2⟩ | ⟨n, n2, f1, f2, f3⟩
    · rw [f2] at hx; omega
    · obtain ⟨i, rfl⟩ : ∃ i : Nat, x = (i : Int) := ⟨x.toNat, by omega⟩
      rw [f2] at hx
      have hi : i < n := by omega
      have e : fX5_fir (i : Int) h = some (.inl (h 34 i, h)) := by
        unfold fX5_fir fX5_fir_j32
        rw [f2, if_neg (by omega), if_neg (by omega), if_pos (by omega), gd_y ⟨by omega, by omega⟩, Int.toNat_natCast]
        rfl
      rw [e, wp_some]
      refine q_ok I0 Same.rf (fun h' s => ?_)
      obtain ⟨C0, z0, s1, s2⟩ := C.z s
      show wp (if (st h' 35 0 0 35 59) = (-1) then fX6_fir_j30 (i : Int) (st h' 35 0 0) else (if (i : Int) < 0 then fX6_fir_j30 (i : Int) (st h' 35 0 0) else (if (st h' 35 0 0 35 59) ≤ (i : Int) then fX6_fir_j30 (i : Int) (st h' 35 0 0) else fX6_fir_j31 (i : Int) 1 (st h' 35 0 0)))) _
      rw [f59 s2, f1]
      refine w_f (by omega) (w_f (by omega) (w_f (by omega) ?_))
      unfold fX6_fir_j31
      refine mr_pass z0 (by decide) (w_f n10 ?_)
      rw [gd_y ⟨by omega, by omega⟩, Int.toNat_natCast, s2 _ _ (by unfold SX; omega), wp_some]
      exact ⟨(f3 i hi).symm, z0, s1⟩
  · have e : fX5_fir x h = some (.inr (0, h)) := by
      unfold fX5_fir
      by_cases e : x < 0
      · rw [if_pos e]
      · rw [if_neg e, if_pos (by omega)]
    rw [e, wp_some]
    refine q_no I0 Same.rf (fun h' s => ?_)
    obtain ⟨C0, z0, s1, s2⟩ := C.z s
    show wp (if (st h' 35 0 0 35 59) = (-1) then fX6_fir_j30 x (st h' 35 0 0) else (if x < 0 then fX6_fir_j30 x (st h' 35 0 0) else (if (st h' 35 0 0 35 59) ≤ x then fX6_fir_j30 x (st h' 35 0 0) else fX6_fir_j31 x 1 (st h' 35 0 0)))) _
    rw [f59 s2]
    rcases F with ⟨f1, f2⟩ | ⟨n, n2, f1, f2, f3⟩
    · exact w_t f1 (k h' _ z0 s1)
    · rw [f2] at hx
      rw [f1]
      by_cases e : x < 0
      · exact w_f (by omega) (w_t e (k h' _ z0 s1))
      · exact w_f (by omega) (w_f e (w_t (by omega) (k h' _ z0 s1)))
theorem s_stop {κ : Int} {x : Int} {h : Hp} (I : Inv κ h) : wp (fX5_stop x h) (PT κ (fX6_stop x) (fun _ => 1)) := by
  have I0 := I
  obtain ⟨D, ht, ro, L, nr, rh, rm, na, P, C, -, Q, M, -⟩ := I
  have F := M.2.2.2.2.2.2.2.2
  have hn6 := C.1.2.2.1
  have k : ∀ h' h0 : Hp, h0 35 0 = 0 → Same SXm h' h0 → wp (fX6_stop_j29 x h0) (fun y => y.2 35 0 = 1 ∧ Same SXm h' y.2) := by
    intro h' h0 z0 s1
    unfold fX6_stop_j29 fX6_stop_j30
    exact mr_fail z0 (by decide) (w_t rfl (wp_some.mpr (no1 s1)))
  have f61 : ∀ {h0 : Hp}, Same SX h h0 → h0 35 61 = h 35 61 := fun s => s _ _ (by unfold SX; omega)
  by_cases hx : 0 ≤ x ∧ x < h 31 3
  · rcases F with ⟨f1, f2⟩ | ⟨f1, f2, f3⟩
    · rw [f2] at hx; omega
    · obtain ⟨i, rfl⟩ : ∃ i : Nat, x = (i : Int) := ⟨x.toNat, by omega⟩
      rw [f2] at hx
      have hi : i < D.nh := by omega
      have e : fX5_stop (i : Int) h = some (.inl (h 32 i, h)) := by
        unfold fX5_stop fX5_stop_j38
        rw [f2, if_neg (by omega), if_neg (by omega), if_pos (by omega), gd_y ⟨by omega, by omega⟩, Int.toNat_natCast]
        rfl
      rw [e, wp_some]
      refine q_ok I0 Same.rf (fun h' s => ?_)
      obtain ⟨C0, z0, s1, s2⟩ := C.z s
      show wp (if (st h' 35 0 0 35 61) = 0 then fX6_stop_j29 (i : Int) (st h' 35 0 0) else (if (i : Int) < 0 then fX6_stop_j29 (i : Int) (st h' 35 0 0) else (if (st h' 35 0 0 35 3) ≤ (i : Int) then fX6_stop_j29 (i : Int) (st h' 35 0 0) else fX6_stop_j30 (i : Int) 1 (st h' 35 0 0)))) _
      rw [f61 s2, f1, C0.nh]
      refine w_f (by omega) (w_f (by omega) (w_f (by omega) ?_))
      unfold fX6_stop_j30
      refine mr_pass z0 (by decide) (w_f n10 ?_)
      rw [gd_y ⟨by omega, by omega⟩, Int.toNat_natCast, s2 _ _ (by unfold SX; omega), wp_some]
      exact ⟨(f3 i hi).symm, z0, s1⟩
  · have e : fX5_stop x h = some (.inr (0, h)) := by
      unfold fX5_stop
      by_cases e : x < 0
      · rw [if_pos e]
      · rw [if_neg e, if_pos (by omega)]
    rw [e, wp_some]
    refine q_no I0 Same.rf (fun h' s => ?_)
    obtain ⟨C0, z0, s1, s2⟩ := C.z s
    show wp (if (st h' 35 0 0 35 61) = 0 then fX6_stop_j29 x (st h' 35 0 0) else (if x < 0 then fX6_stop_j29 x (st h' 35 0 0) else (if (st h' 35 0 0 35 3) ≤ x then fX6_stop_j29 x (st h' 35 0 0) else fX6_stop_j30 x 1 (st h' 35 0 0)))) _
    rw [f61 s2, C0.nh]
    rcases F with ⟨f1, f2⟩ | ⟨f1, f2, f3⟩
    · exact w_t f1 (k h' _ z0 s1)
    · rw [f2] at hx
      rw [f1]
      by_cases e : x < 0
      · exact w_f (by omega) (w_t e (k h' _ z0 s1))
      · exact w_f (by omega) (w_f e (w_t (by omega) (k h' _ z0 s1)))
