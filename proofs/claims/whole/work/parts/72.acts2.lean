/-! pure part: floor, barn, sell, obey, plant, fell -/
theorem Core.mz2 {D : LD} {ht ro : Nat → Int} {L nr na : Nat} {rh : Nat → Nat} {rm : Nat → Int} {P : Nat → Nat → Int} {h h' : Hp} (C : Core D ht ro L nr rh rm h) (Q : PMo D na P 56 (h 35 49) h) (s : ∀ a k, ((a = 35 ∧ ((1 ≤ k ∧ k ≤ 5) ∨ (49 ≤ k ∧ k ≤ 53))) ∨ (36 ≤ a ∧ a ≤ 41) ∨ a = 54 ∨ a = 56) → h' a k = h a k) :
    ML D (st h' 35 0 0) ∧ RR D ro (st h' 35 0 0 54) ∧ st h' 35 0 0 35 0 = 0 ∧ PMo D na P 56 (st h' 35 0 0 35 49) (st h' 35 0 0) ∧ Same SXm h' (st h' 35 0 0) ∧ MS D ht (st h' 35 0 0 57) ro (fogY D (ro 61)) (st h' 35 0 0) ∧ st h' 35 0 0 35 52 = -1 ∧ st h' 35 0 0 35 53 = -1 := by
  have q : ∀ a k, ((a = 35 ∧ ((1 ≤ k ∧ k ≤ 5) ∨ (49 ≤ k ∧ k ≤ 53))) ∨ (36 ≤ a ∧ a ≤ 41) ∨ a = 54 ∨ a = 56) → st h' 35 0 0 a k = h a k := fun a k n1 => by
    have e : st h' 35 0 0 a k = h' a k := if_neg (by omega)
    rw [e, s a k n1]
  have r : RR D ro (st h' 35 0 0 54) := C.2.2.2.2.2.2.2.1.same (fun k => q _ _ (by omega))
  have m : ML D (st h' 35 0 0) := C.2.2.2.2.2.1.same (fun a k p => q _ _ (by omega))
  have hy := C.2.2.1.2.2.2
  refine ⟨m, r, st_self, ?_, st_same (Or.inl ⟨rfl, Or.inl rfl⟩), ⟨m, fun c hc => ?_, fun c hc => rfl, r, Or.inl ⟨?_, rfl⟩, fogY_9 C.1, by omega, by omega⟩, ?_, ?_⟩
  · rw [q _ _ (by omega)]
    exact ⟨Q.1, fun i hi => (Q.2 i hi).same (fun k => q _ _ (by omega))⟩
  · rw [q _ _ (by omega)]; exact C.2.2.2.2.2.2.1 c hc
  · rw [q _ _ (by omega)]; exact C.2.2.2.2.2.2.2.2.2.1
  · rw [q _ _ (by omega)]; exact C.2.2.2.2.2.2.2.2.2.2.1
  · rw [q _ _ (by omega)]; exact C.2.2.2.2.2.2.2.2.2.2.2
theorem mz_A {h h' : Hp} (s : Same SAc h h') : ∀ a k, ((a = 35 ∧ ((1 ≤ k ∧ k ≤ 5) ∨ (49 ≤ k ∧ k ≤ 53))) ∨ (36 ≤ a ∧ a ≤ 41) ∨ a = 54 ∨ a = 56) → h' a k = h a k := fun a k p => s a k (by unfold SAc; omega)
def SF (w : Nat) : Nat → Nat → Prop := fun a k => SX a k ∨ (a = 0 ∧ k = 11 + w)
theorem mz_F {w : Nat} {h h' : Hp} (s : Same (SF w) h h') : ∀ a k, ((a = 35 ∧ ((1 ≤ k ∧ k ≤ 5) ∨ (49 ≤ k ∧ k ≤ 53))) ∨ (36 ≤ a ∧ a ≤ 41) ∨ a = 54 ∨ a = 56) → h' a k = h a k := fun a k p => s a k (by unfold SF SX; omega)
theorem SXm_A {h h' : Hp} (s : Same SXm h h') : Same SAm h h' := s.mono (fun a k p => Or.inl p)
theorem c_actOn {D : LD} {na m : Nat} {P : Nat → Nat → Int} {ro : Nat → Int} {h : Hp} {v : Int} (W : DW D) (hr : RR D ro (h 27)) (ha : na ≤ 40) (Q : PCl D na P 26 h) (hm : 12 ≤ m) (hm2 : m < 62) :
    wp (fX5_actOn (m : Int) v h) (fun r => r.1 = h 27 m ∧ Same SAc h r.2 ∧ RR D (up ro m v) (r.2 27) ∧ PCl D (nP na) (pP na P ro) 26 r.2) := by
  unfold fX5_actOn
  rw [gd_y ⟨by omega, by omega⟩, wp_lb, wp_bd, Int.toNat_natCast]
  refine (c_remember W hr ha Q).mono ?_
  rintro ⟨r, h5⟩ ⟨s5, p5⟩
  dsimp only at s5 p5 ⊢
  rw [gd_y ⟨by omega, by omega⟩, wp_lb, wp_some]
  refine ⟨rfl, (SR_A s5).st (Or.inr (Or.inr (Or.inl rfl))), ?_, ?_⟩
  · show RR D _ (st h5 27 m v 27)
    rw [st_up]
    exact (hr.same (fun k => s5 _ _ (by unfold SR; omega))).upd hm
  · obtain ⟨p1, o, p2, p3, p4⟩ := p5
    exact ⟨by show st h5 27 m v 26 3 = _; rw [st_na (by decide)]; exact p1, o, p2, by show st h5 27 m v 26 2 = _; rw [st_na (by decide)]; exact p3, fun i hi => (p4 i hi).same (fun k => st_na (h := h5) (a := 27) (k := m) (v := v) (a' := 26 + 2) (by decide))⟩
theorem m_becomes {D : LD} {na m : Nat} {P : Nat → Nat → Int} {ro : Nat → Int} {h : Hp} {v : Int} (W : DW D) (hr : RR D ro (h 54)) (ha : na ≤ 40) (Q : PMo D na P 56 (h 35 49) h) (hm : 12 ≤ m) (hm2 : m < 62) :
    wp (fX6_becomes (m : Int) v h) (fun r => r.1 = h 54 m ∧ r.2 35 0 = h 35 0 ∧ Same SAm h r.2 ∧ RR D (up ro m v) (r.2 54) ∧ PMo D (nP na) (pP na P ro) 56 (r.2 35 49) r.2) := by
  unfold fX6_becomes
  rw [wp_bd]
  refine (m_keeps W hr ha Q).mono ?_
  rintro ⟨r, h3⟩ ⟨s3, p3⟩
  dsimp only at s3 p3 ⊢
  rw [gd_y ⟨by omega, by omega⟩, wp_lb, gd_y ⟨by omega, by omega⟩, wp_lb, Int.toNat_natCast, wp_some]
  refine ⟨s3 _ _ (by unfold SK; omega), ?_, (SK_A s3).st (Or.inr (Or.inl rfl)), ?_, ?_⟩
  · show st h3 54 m v 35 0 = _
    rw [st_na (by decide)]
    exact s3 _ _ (by unfold SK; omega)
  · show RR D _ (st h3 54 m v 54)
    rw [st_up]
    exact (hr.same (fun k => s3 _ _ (by unfold SK; omega))).upd hm
  · refine ⟨by show st h3 54 m v 35 49 = _; rw [st_na (by decide)]; exact p3.1, fun i hi => (p3.2 i hi).same (fun k => st_na (h := h3) (a := 54) (k := m) (v := v) (a' := 56) (by decide))⟩
theorem m_refuses {w : Nat} {v : Int} {h : Hp} (hw : w < 3) : fX6_refuses (w : Int) v h = some (v, st h 43 w (i_add (h 43 w) 1)) := by
  unfold fX6_refuses
  rw [gd_y ⟨by omega, by omega⟩, gd_y ⟨by omega, by omega⟩, Int.toNat_natCast]
  rfl
theorem ref_T {κ : Int} {h : Hp} {w : Nat} {fm : Hp → Option (Int × Hp)} {cd : Nat → Int} {v : Int} (I : Inv κ h) (hw : w < 3) (hm : ∀ h', Same (SF w) h h' → wp (fm h') (fun y => y.1 = v ∧ ∃ hq, hq 35 0 = 0 ∧ Same SXm h' hq ∧ y.2 = st hq 43 w (i_add (hq 43 w) 1))) : PT κ fm cd (.inl (v, st h 0 (11 + w) (i_add (h 0 (11 + w)) 1))) := by
  have s1 : Same (SF w) h (st (st h 0 (11 + w) (i_add (h 0 (11 + w)) 1)) 68 0 v) := (st_same (P := SF w) (Or.inr ⟨rfl, rfl⟩)).st (Or.inl (Or.inr (Or.inr (Or.inr (Or.inl rfl)))))
  refine (hm _ s1).mono ?_
  rintro ⟨y, hy⟩ ⟨y1, hq, q1, q2, q3⟩
  dsimp only at y1 q3 ⊢
  subst q3
  refine ⟨by rw [st_na (by decide)]; exact q1, ?_, I.refuse hw s1 ((q2.mono (fun a k p => Or.inl (Or.inr (Or.inr (Or.inr (Or.inr p)))))).st (Or.inr ⟨rfl, rfl⟩)) ?_ ?_⟩
  · rw [st_na (by decide), q2 _ _ (by unfold SXm; omega), st_self, y1]
  · rw [st_na (by decide), st_self]
  · rw [st_self, q2 _ _ (by unfold SXm; omega), st_na (by decide), st_na (by decide)]
theorem ref_N {κ : Int} {h : Hp} {w : Nat} {fm : Hp → Option (Int × Hp)} {v : Int} (I : Inv κ h) (hw : w < 3) (hm : ∀ h', Same (SF w) h h' → wp (fm h') (fun y => y.1 = v ∧ ∃ hq, hq 35 0 = 0 ∧ Same SXm h' hq ∧ y.2 = st hq 43 w (i_add (hq 43 w) 1))) : PN κ fm (v, st h 0 (11 + w) (i_add (h 0 (11 + w)) 1)) := by
  have s1 : Same (SF w) h (st h 0 (11 + w) (i_add (h 0 (11 + w)) 1)) := st_same (P := SF w) (Or.inr ⟨rfl, rfl⟩)
  refine (hm _ s1).mono ?_
  rintro ⟨y, hy⟩ ⟨y1, hq, q1, q2, q3⟩
  dsimp only at y1 q3 ⊢
  subst q3
  refine ⟨y1, I.refuse hw s1 ((q2.mono (fun a k p => Or.inl (Or.inr (Or.inr (Or.inr (Or.inr p)))))).st (Or.inr ⟨rfl, rfl⟩)) st_self ?_⟩
  rw [st_self, q2 _ _ (by unfold SXm; omega), st_na (by decide)]
theorem s_floor {κ : Int} {x y : Int} {h : Hp} (I : Inv κ h) : wp (fX5_floor x y h) (PT κ (fX6_floor x y) (fun _ => 1)) := by
  have I0 := I
  obtain ⟨D, ht, ro, L, nr, rh, rm, na, P, C, O, Q, M, G⟩ := I
  obtain ⟨⟨q1, q2⟩, qc, qm⟩ := past_iff.mp Q
  have LBh := C.2.2.2.1
  have W := C.1
  have hn6 := W.2.2.1
  unfold fX5_floor
  by_cases hx : 0 ≤ x ∧ x < (D.nh : Int)
  · refine nh_pass LBh.1 LBh.2.1 LBh.2.2.1 hx ?_
    obtain ⟨i, rfl⟩ : ∃ i : Nat, x = (i : Int) := ⟨x.toNat, by omega⟩
    have hi : i < D.nh := by omega
    have e42 : i_add 42 (i : Int) = ((42 + i : Nat) : Int) := ik (c := 42) (by omega) (by decide)
    by_cases hy : -3 ≤ y ∧ y ≤ 3
    · have e : fX5_floor_j5 (i : Int) y h = bd_ (fX5_actOn ((42 + i : Nat) : Int) y h) (fun r7 h9 => some (r7, h9)) := by
        unfold fX5_floor_j5
        rw [if_neg (by omega), if_pos hy.2, e42]
      rw [e, wp_mi, wp_bd]
      refine (c_actOn W LBh.2.2.2.2 q1 qc (by omega) (by omega)).mono ?_
      rintro ⟨r, h1⟩ ⟨r1, r2, r3, r4⟩
      dsimp only at r1 r2 r3 r4 ⊢
      rw [wp_some, r1, (LBh.2.2.2.2.2.2.1 i hi).2.1]
      refine act_ok C O M G r2 (C.2.2.1.upd W (Nat.le_refl _) (by omega) (ok42 hy (by omega))) r3 (nP_le q1) (pP_W q1 q2 C.2.2.1) r4 (fun h' s => ?_)
      obtain ⟨m1, m2, m3, m4, m5, -⟩ := C.mz2 qm (mz_A s)
      unfold fX6_floor
      refine mh_pass m3 m1.2.2.1 hx (w_f n10 ?_)
      rw [m_within, if_pos hy, wp_bp, wp_some]
      refine w_f n10 ?_
      rw [e42, wp_bd]
      refine (m_becomes W m2 q1 m4 (by omega) (by omega)).mono ?_
      rintro y ⟨y1, y2, y3, y4, y5⟩
      rw [wp_some]
      exact ⟨by rw [y1]; exact (m2.2.2.1 i hi).2.1, y2.trans m3, (SXm_A m5).tr y3, y4, y5⟩
    · have e : fX5_floor_j5 (i : Int) y h = some (-9, st h 0 (11 + 1) (i_add (h 0 (11 + 1)) 1)) := by
        unfold fX5_floor_j5 fX5_floor_j16
        by_cases e : y < -3
        · rw [if_pos e]; rfl
        · rw [if_neg e, if_neg (by omega)]; rfl
      rw [e, wp_mi, wp_some]
      refine ref_T I0 (by decide) (fun h' s => ?_)
      obtain ⟨m1, m2, m3, m4, m5, -⟩ := C.mz2 qm (mz_F s)
      unfold fX6_floor
      refine mh_pass m3 m1.2.2.1 hx (w_f n10 ?_)
      rw [m_within, if_neg hy, wp_bp, wp_some]
      refine w_t rfl ?_
      rw [show (1 : Int) = ((1 : Nat) : Int) from rfl, m_refuses (by decide), wp_bd, wp_some, wp_some]
      exact ⟨rfl, _, m3, m5, rfl⟩
  · refine nh_fail LBh.1 LBh.2.1 LBh.2.2.1 hx ?_
    exact no_house I0 C hx (fun h' => rfl) rfl
theorem s_barn {κ : Int} {x y : Int} {h : Hp} (I : Inv κ h) : wp (fX5_barn x y h) (PT κ (fX6_barn x y) (fun _ => 1)) := by
  have I0 := I
  obtain ⟨D, ht, ro, L, nr, rh, rm, na, P, C, O, Q, M, G⟩ := I
  obtain ⟨⟨q1, q2⟩, qc, qm⟩ := past_iff.mp Q
  have LBh := C.2.2.2.1
  have W := C.1
  have hn6 := W.2.2.1
  unfold fX5_barn
  by_cases hx : 0 ≤ x ∧ x < (D.nh : Int)
  · refine nh_pass LBh.1 LBh.2.1 LBh.2.2.1 hx ?_
    obtain ⟨i, rfl⟩ : ∃ i : Nat, x = (i : Int) := ⟨x.toNat, by omega⟩
    have hi : i < D.nh := by omega
    have e42 : i_add 48 (i : Int) = ((48 + i : Nat) : Int) := ik (c := 48) (by omega) (by decide)
    by_cases hy : 0 ≤ y ∧ y ≤ 5
    · have e : fX5_barn_j5 (i : Int) y h = bd_ (fX5_actOn ((48 + i : Nat) : Int) y h) (fun r7 h9 => some (r7, h9)) := by
        unfold fX5_barn_j5
        rw [if_neg (by omega), if_pos hy.2, e42]
      rw [e, wp_mi, wp_bd]
      refine (c_actOn W LBh.2.2.2.2 q1 qc (by omega) (by omega)).mono ?_
      rintro ⟨r, h1⟩ ⟨r1, r2, r3, r4⟩
      dsimp only at r1 r2 r3 r4 ⊢
      rw [wp_some, r1, (LBh.2.2.2.2.2.2.1 i hi).2.2.1]
      refine act_ok C O M G r2 (C.2.2.1.upd W (Nat.le_refl _) (by omega) (ok48 hy (by omega))) r3 (nP_le q1) (pP_W q1 q2 C.2.2.1) r4 (fun h' s => ?_)
      obtain ⟨m1, m2, m3, m4, m5, -⟩ := C.mz2 qm (mz_A s)
      unfold fX6_barn
      refine mh_pass m3 m1.2.2.1 hx (w_f n10 ?_)
      rw [m_within, if_pos hy, wp_bp, wp_some]
      refine w_f n10 ?_
      rw [e42, wp_bd]
      refine (m_becomes W m2 q1 m4 (by omega) (by omega)).mono ?_
      rintro y ⟨y1, y2, y3, y4, y5⟩
      rw [wp_some]
      exact ⟨by rw [y1]; exact (m2.2.2.1 i hi).2.2.1, y2.trans m3, (SXm_A m5).tr y3, y4, y5⟩
    · have e : fX5_barn_j5 (i : Int) y h = some (-1, st h 0 (11 + 1) (i_add (h 0 (11 + 1)) 1)) := by
        unfold fX5_barn_j5 fX5_barn_j14
        by_cases e : y < 0
        · rw [if_pos e]; rfl
        · rw [if_neg e, if_neg (by omega)]; rfl
      rw [e, wp_mi, wp_some]
      refine ref_T I0 (by decide) (fun h' s => ?_)
      obtain ⟨m1, m2, m3, m4, m5, -⟩ := C.mz2 qm (mz_F s)
      unfold fX6_barn
      refine mh_pass m3 m1.2.2.1 hx (w_f n10 ?_)
      rw [m_within, if_neg hy, wp_bp, wp_some]
      refine w_t rfl ?_
      rw [show (1 : Int) = ((1 : Nat) : Int) from rfl, m_refuses (by decide), wp_bd, wp_some, wp_some]
      exact ⟨rfl, _, m3, m5, rfl⟩
  · refine nh_fail LBh.1 LBh.2.1 LBh.2.2.1 hx ?_
    exact no_house I0 C hx (fun h' => rfl) rfl
theorem or_256 : ∀ s : Nat, s < 256 → ∀ d : Nat, d < 8 → 0 ≤ i_or (s : Int) (i_shl 1 (d : Int)) ∧ i_or (s : Int) (i_shl 1 (d : Int)) < 256 := by decide +kernel
theorem s_sell {κ : Int} {x y : Int} {h : Hp} (I : Inv κ h) : wp (fX5_sell x y h) (PT κ (fX6_sell x y) (fun _ => 1)) := by
  have I0 := I
  obtain ⟨D, ht, ro, L, nr, rh, rm, na, P, C, O, Q, M, G⟩ := I
  obtain ⟨⟨q1, q2⟩, qc, qm⟩ := past_iff.mp Q
  have LBh := C.2.2.2.1
  have W := C.1
  have hn6 := W.2.2.1
  unfold fX5_sell
  by_cases hx : 0 ≤ x ∧ x < (D.nh : Int)
  · refine nh_pass LBh.1 LBh.2.1 LBh.2.2.1 hx ?_
    obtain ⟨i, rfl⟩ : ∃ i : Nat, x = (i : Int) := ⟨x.toNat, by omega⟩
    have hi : i < D.nh := by omega
    have e54 : i_add 54 (i : Int) = ((54 + i : Nat) : Int) := ik (c := 54) (by omega) (by decide)
    by_cases hy : 0 ≤ y ∧ y < 8
    · refine nd_pass hy ?_
      obtain ⟨d, rfl⟩ : ∃ d : Nat, y = (d : Int) := ⟨y.toNat, by omega⟩
      have hd : d < 8 := by omega
      have rs := (C.2.2.1.2.1 i hi).2.2.2
      have hs32 := C.2.2.1.sold i hi
      unfold fX5_sell_j9
      rw [e54, gd_y ⟨by omega, by omega⟩, wp_mi, wp_lb, Int.toNat_natCast, (LBh.2.2.2.2.2.2.1 i hi).2.2.2, hasBit_eq (by omega), wp_bp, wp_some]
      by_cases hb : bt (ro (54 + i)) d = true
      · rw [if_pos hb]
        refine w_f n10 ?_
        rw [wp_lb, wp_some]
        refine ref_T (w := 1) I0 (by decide) (fun h' s => ?_)
        obtain ⟨m1, m2, m3, m4, m5, -⟩ := C.mz2 qm (mz_F s)
        unfold fX6_sell
        refine mh_pass m3 m1.2.2.1 hx (w_f n10 (mw_pass m3 ⟨by omega, by omega⟩ (w_f n10 ?_)))
        rw [e54, gd_y ⟨by omega, by omega⟩, Int.toNat_natCast, (m2.2.2.1 i hi).2.2.2, bt_is hs32 (by omega), if_pos hb]
        refine w_t rfl ?_
        rw [show (1 : Int) = ((1 : Nat) : Int) from rfl, m_refuses (by decide), wp_bd, wp_some]
        refine w_t (Int.le_refl 0) (wp_some.mpr ⟨rfl, _, m3, m5, rfl⟩)
      · rw [if_neg hb]
        refine w_t rfl ?_
        rw [wp_bd]
        refine (c_actOn W LBh.2.2.2.2 q1 qc (by omega) (by omega)).mono ?_
        rintro ⟨r, h1⟩ ⟨r1, r2, r3, r4⟩
        dsimp only at r1 r2 r3 r4 ⊢
        obtain ⟨sn, hsn⟩ : ∃ sn : Nat, ro (54 + i) = (sn : Int) := ⟨(ro (54 + i)).toNat, by omega⟩
        have ob := or_256 sn (by omega) d hd
        rw [← hsn] at ob
        rw [wp_some]
        refine act_ok C O M G r2 (C.2.2.1.upd W (Nat.le_refl _) (by omega) (ok54 ob (by omega))) r3 (nP_le q1) (pP_W q1 q2 C.2.2.1) r4 (fun h' s => ?_)
        obtain ⟨m1, m2, m3, m4, m5, -⟩ := C.mz2 qm (mz_A s)
        unfold fX6_sell
        refine mh_pass m3 m1.2.2.1 hx (w_f n10 (mw_pass m3 ⟨by omega, by omega⟩ (w_f n10 ?_)))
        rw [e54, gd_y ⟨by omega, by omega⟩, Int.toNat_natCast, (m2.2.2.1 i hi).2.2.2, bt_is hs32 (by omega), if_neg hb]
        refine w_f (by decide) ?_
        rw [gd_y ⟨by omega, by omega⟩, wp_bd]
        refine (m_becomes W m2 q1 m4 (by omega) (by omega)).mono ?_
        rintro y ⟨y1, y2, y3, y4, y5⟩
        rw [wp_some]
        exact ⟨rfl, y2.trans m3, (SXm_A m5).tr y3, y4, y5⟩
    · refine nd_fail hy ?_
      refine q_no I0 Same.rf (fun h' s => ?_)
      obtain ⟨C0, z0, s1, s2⟩ := C.z s
      unfold fX6_sell
      exact mh_pass z0 C0.nh hx (w_f n10 (mw_fail z0 (by omega) (w_t rfl (wp_some.mpr (no1 s1)))))
  · refine nh_fail LBh.1 LBh.2.1 LBh.2.2.1 hx ?_
    exact no_house I0 C hx (fun h' => rfl) rfl
theorem s_obey {κ : Int} {x : Int} {h : Hp} (I : Inv κ h) : wp (fX5_obey x h) (PN κ (fX6_obey x)) := by
  have I0 := I
  obtain ⟨D, ht, ro, L, nr, rh, rm, na, P, C, O, Q, M, G⟩ := I
  obtain ⟨⟨q1, q2⟩, qc, qm⟩ := past_iff.mp Q
  have LBh := C.2.2.2.1
  have W := C.1
  unfold fX5_obey
  rw [c_law LBh.1 LBh.2.1 LBh.2.2.1, wp_bp, wp_some]
  by_cases hx : -1 ≤ x ∧ x < (D.nl : Int)
  · rw [if_pos hx]
    refine w_f n10 ?_
    rw [wp_bd, show (60 : Int) = ((60 : Nat) : Int) from rfl]
    refine (c_actOn W LBh.2.2.2.2 q1 qc (by decide) (by decide)).mono ?_
    rintro ⟨r, h1⟩ ⟨r1, r2, r3, r4⟩
    dsimp only at r1 r2 r3 r4 ⊢
    rw [wp_some]
    refine act_n C O M G r2 (C.2.2.1.upd W (Nat.le_refl _) (by decide) (ok60 hx)) r3 (nP_le q1) (pP_W q1 q2 C.2.2.1) r4 (fun h' s => ?_)
    obtain ⟨m1, m2, m3, m4, m5, -⟩ := C.mz2 qm (mz_A s)
    unfold fX6_obey
    rw [wp_lb, m1.2.2.2.1]
    refine w_f (by omega) (w_t hx.2 ?_)
    rw [wp_bd, show (60 : Int) = ((60 : Nat) : Int) from rfl]
    refine (m_becomes W m2 q1 m4 (by decide) (by decide)).mono ?_
    rintro y ⟨y1, y2, y3, y4, y5⟩
    rw [wp_some]
    exact ⟨rfl, (SXm_A m5).tr y3, y4, y5⟩
  · rw [if_neg hx]
    refine w_t rfl ?_
    rw [wp_lb, wp_some]
    refine ref_N (w := 1) I0 (by decide) (fun h' s => ?_)
    obtain ⟨m1, m2, m3, m4, m5, -⟩ := C.mz2 qm (mz_F s)
    have k : wp (fX6_obey_j18 (st h' 35 0 0)) (fun y => y.1 = 0 ∧ ∃ hq, hq 35 0 = 0 ∧ Same SXm h' hq ∧ y.2 = st hq 43 1 (i_add (hq 43 1) 1)) := by
      unfold fX6_obey_j18
      rw [show (1 : Int) = ((1 : Nat) : Int) from rfl, m_refuses (by decide), wp_bd, wp_some]
      exact w_t (Int.le_refl 0) (wp_some.mpr ⟨rfl, _, m3, m5, rfl⟩)
    unfold fX6_obey
    rw [wp_lb, m1.2.2.2.1]
    by_cases e : x < -1
    · exact w_t e k
    · exact w_f e (w_f (by omega) k)
