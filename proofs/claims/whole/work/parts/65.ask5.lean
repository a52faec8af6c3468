/-! pure part: house, mildest -/
theorem s_house {κ : Int} {x y : Int} {h : Hp} (I : Inv κ h) : wp (fX5_house x y h) (PT κ (fX6_house x y) (fun _ => 1)) := by
  have I0 := I
  obtain ⟨D, ht, ro, L, nr, rh, rm, na, P, C, -, Q, M, -⟩ := I
  have LBh := C.2.2.2.1
  have hL := LBh.1
  have W := C.1
  have hn6 := W.2.2.1
  have gL : (L : Int) = 1 ∨ (L : Int) = 9 := by omega
  have l2 : ((L : Int) + 2).toNat = L + 2 := by omega
  have l3 : ((L : Int) + 3).toNat = L + 3 := by omega
  unfold fX5_house
  by_cases hx : 0 ≤ x ∧ x < (D.nh : Int)
  · refine nh_pass LBh.1 LBh.2.1 LBh.2.2.1 hx ?_
    obtain ⟨i, rfl⟩ : ∃ i : Nat, x = (i : Int) := ⟨x.toNat, by omega⟩
    have hi : i < D.nh := by omega
    have g6 : (0 : Int) ≤ (i : Int) ∧ (i : Int) < 6 := by omega
    have g7 : (0 : Int) ≤ (i : Int) ∧ (i : Int) < 7 := by omega
    by_cases hy : 0 ≤ y ∧ y ≤ 8
    · have fin : ∀ v : Int, (∀ h15 : Hp, MS D ht (lay D ht ro) ro (fogY D (ro 61)) h15 → h15 35 0 = 0 → h15 35 56 = (vw D ht (lay D ht ro) ro (fogY D (ro 61)) i).1 → h15 35 54 = (vw D ht (lay D ht ro) ro (fogY D (ro 61)) i).2.2 → wp (if y = 0 then gd_ (0 ≤ (i : Int) ∧ (i : Int) < 7) (some ((h15 37 (Int.toNat (i : Int))), h15)) else if y = 1 then gd_ (0 ≤ (i : Int) ∧ (i : Int) < 7) (some ((h15 38 (Int.toNat (i : Int))), h15)) else if y = 2 then fX6_house_j115 (i : Int) y h15 else if y = 3 then fX6_house_j115 (i : Int) y h15 else if y = 4 then fX6_house_j115 (i : Int) y h15 else if y = 5 then fX6_house_j115 (i : Int) y h15 else if y = 6 then some ((h15 35 56), h15) else if y = 7 then bd_ (fX6_taxOf (i : Int) h15) (fun r27 h29 => some (r27, h29)) else if y = 8 then bp_ (fX6_housesSeen (i : Int) h15) (fun r31 => some (r31, h15)) else fX6_house_j115 (i : Int) y h15) (fun q => q.1 = v ∧ q.2 35 0 = 0 ∧ Same SXm h15 q.2)) → ∀ h', Same SX h h' → wp (fX6_house (i : Int) y h') (fun q => q.1 = v ∧ q.2 35 0 = 0 ∧ Same SXm h' q.2) := by
        intro v hv h' s
        obtain ⟨C0, z0, s1, s2⟩ := C.z s
        unfold fX6_house
        refine mh_pass z0 C0.nh hx (w_f n10 (mw_pass z0 hy (w_f n10 ?_)))
        rw [wp_bd]
        refine C0.layd.mono ?_
        rintro ⟨q, h12⟩ ⟨-, q2, q3⟩
        dsimp only at q2 q3 ⊢
        rw [wp_bd]
        refine (m_sees W q3 C.2.2.1.sold hi).mono ?_
        rintro ⟨q', h15⟩ ⟨u1, -, u3, u4⟩
        dsimp only at u1 u3 u4 ⊢
        have u5 : Same SM h12 h15 := u4.mono (fun a k p => Or.inl p)
        exact (hv h15 (q3.same u5) (z_kept (z_kept z0 (S57_SN q2)) (SM_SN u5)) u1 u3).mono (fun q hq => ⟨hq.1, hq.2.1, ((s1.tr (S57_m q2)).tr (SM_m u5)).tr hq.2.2⟩)
      have j115 : ∀ (z m : Nat) (h15 : Hp), (m : Int) = 36 + 6 * ((z : Int) - 2) + (i : Int) → 2 ≤ z → z ≤ 5 → (∀ r, RR D ro r → r m = ro m) → MS D ht (lay D ht ro) ro (fogY D (ro 61)) h15 → h15 35 0 = 0 → wp (fX6_house_j115 (i : Int) (z : Int) h15) (fun q => q.1 = ro m ∧ q.2 35 0 = 0 ∧ Same SXm h15 q.2) := by
        intro z m h15 em z2 z5 hr H z0
        have e1 : i_sub (z : Int) 2 = (z : Int) - 2 := isb (by omega) (by omega)
        have e2 : i_mul 6 ((z : Int) - 2) = 6 * ((z : Int) - 2) := i_mul_eq ⟨by omega, by omega⟩
        have e3 : i_add 36 (6 * ((z : Int) - 2)) = 36 + 6 * ((z : Int) - 2) := ia (by clear e1 e2; omega) (by clear e1 e2; omega)
        have e4 : i_add (36 + 6 * ((z : Int) - 2)) (i : Int) = (m : Int) := by rw [em]; exact ia (by clear e1 e2 e3; omega) (by clear e1 e2 e3; omega)
        unfold fX6_house_j115
        rw [e1, e2, e3, e4, gd_y ⟨by clear e1 e2 e3 e4; omega, by clear e1 e2 e3 e4; omega⟩, Int.toNat_natCast, hr _ H.2.2.2.1, wp_some]
        exact ⟨rfl, z0, Same.rf⟩
      have cases : y = 0 ∨ y = 1 ∨ y = 2 ∨ y = 3 ∨ y = 4 ∨ y = 5 ∨ y = 6 ∨ y = 7 ∨ y = 8 := by omega
      have rr := LBh.2.2.2.2.2.2.1 i hi
      rcases cases with rfl | rfl | rfl | rfl | rfl | rfl | rfl | rfl | rfl
      · show wp (mi_ (fX5_house_j56 (i : Int) h)) _
        unfold fX5_house_j56
        rw [LBh.2.1, gd_y gL, gd_y g6, l2, Int.toNat_natCast, LBh.2.2.1.2.2.2.2.2.1 i hi, wp_mi, wp_some]
        refine q_ok I0 Same.rf (fin _ (fun h15 H z u1 u3 => ?_))
        rw [if_pos rfl, gd_y g7, Int.toNat_natCast, H.1.2.2.2.2.2.1 i hi, wp_some]
        exact ⟨rfl, z, Same.rf⟩
      · show wp (mi_ (fX5_house_j66 (i : Int) h)) _
        unfold fX5_house_j66
        rw [LBh.2.1, gd_y gL, gd_y g6, l3, Int.toNat_natCast, LBh.2.2.1.2.2.2.2.2.2.1 i hi, wp_mi, wp_some]
        refine q_ok I0 Same.rf (fin _ (fun h15 H z u1 u3 => ?_))
        rw [if_neg (by decide), if_pos rfl, gd_y g7, Int.toNat_natCast, H.1.2.2.2.2.2.2.1 i hi, wp_some]
        exact ⟨rfl, z, Same.rf⟩
      · show wp (mi_ (fX5_house_j76 (i : Int) h)) _
        unfold fX5_house_j76
        rw [show (36 : Int) = ((36 : Nat) : Int) from rfl, ik (by omega) (by decide), gd_y ⟨by omega, by omega⟩, Int.toNat_natCast, rr.1, wp_mi, wp_some]
        exact q_ok I0 Same.rf (fin _ (fun h15 H z u1 u3 => j115 2 (36 + i) h15 (by omega) (by decide) (by decide) (fun r q => (q.2.2.1 i hi).1) H z))
      · show wp (mi_ (fX5_house_j89 (i : Int) h)) _
        unfold fX5_house_j89
        rw [show (42 : Int) = ((42 : Nat) : Int) from rfl, ik (by omega) (by decide), gd_y ⟨by omega, by omega⟩, Int.toNat_natCast, rr.2.1, wp_mi, wp_some]
        exact q_ok I0 Same.rf (fin _ (fun h15 H z u1 u3 => j115 3 (42 + i) h15 (by omega) (by decide) (by decide) (fun r q => (q.2.2.1 i hi).2.1) H z))
      · show wp (mi_ (fX5_house_j102 (i : Int) h)) _
        unfold fX5_house_j102
        rw [show (48 : Int) = ((48 : Nat) : Int) from rfl, ik (by omega) (by decide), gd_y ⟨by omega, by omega⟩, Int.toNat_natCast, rr.2.2.1, wp_mi, wp_some]
        exact q_ok I0 Same.rf (fin _ (fun h15 H z u1 u3 => j115 4 (48 + i) h15 (by omega) (by decide) (by decide) (fun r q => (q.2.2.1 i hi).2.2.1) H z))
      · show wp (mi_ (fX5_house_j115 (i : Int) h)) _
        unfold fX5_house_j115
        rw [show (54 : Int) = ((54 : Nat) : Int) from rfl, ik (by omega) (by decide), gd_y ⟨by omega, by omega⟩, Int.toNat_natCast, rr.2.2.2, wp_mi, wp_some]
        exact q_ok I0 Same.rf (fin _ (fun h15 H z u1 u3 => j115 5 (54 + i) h15 (by omega) (by decide) (by decide) (fun r q => (q.2.2.1 i hi).2.2.2) H z))
      · show wp (mi_ (fX5_house_j128 (i : Int) h)) _
        unfold fX5_house_j128
        rw [wp_mi, wp_bd]
        refine C.present.mono ?_
        rintro ⟨r, h6⟩ ⟨r1, r2, r3⟩
        dsimp only at r1 r2 r3 ⊢
        rw [gd20 r1, wp_bd]
        refine (c_milesOf W r3 hi).mono ?_
        rintro ⟨v, h10⟩ ⟨v1, v2⟩
        dsimp only at v1 v2 ⊢
        subst v1
        rw [wp_some]
        exact q_ok I0 ((SC_X r2).tr (SL_X v2)) (fin _ (fun h15 H z u1 u3 => wp_some.mpr ⟨u1, z, Same.rf⟩))
      · show wp (mi_ (fX5_house_j137 (i : Int) h)) _
        unfold fX5_house_j137
        rw [wp_mi, wp_bd]
        refine C.present.mono ?_
        rintro ⟨r, h6⟩ ⟨r1, r2, r3⟩
        dsimp only at r1 r2 r3 ⊢
        rw [gd20 r1, wp_bd]
        refine (c_taxOf W r3 hi C.2.2.1.2.2.1).mono ?_
        rintro ⟨v, h10⟩ ⟨v1, v2⟩
        dsimp only at v1 v2 ⊢
        subst v1
        rw [wp_some]
        refine q_ok I0 ((SC_X r2).tr (SL_X v2)) (fin _ (fun h15 H z u1 u3 => ?_))
        show wp (bd_ (fX6_taxOf (i : Int) h15) (fun r27 h29 => some (r27, h29))) _
        rw [wp_bd]
        refine (m_taxOf W H C.2.2.1.sold hi C.2.2.1.2.2.1).mono ?_
        rintro q ⟨q1, q2⟩
        rw [wp_some]
        exact ⟨q1, z_kept z (SM_SN q2), SM_m q2⟩
      · show wp (mi_ (fX5_house_j146 (i : Int) h)) _
        unfold fX5_house_j146
        rw [wp_mi, wp_bd]
        refine C.present.mono ?_
        rintro ⟨r, h6⟩ ⟨r1, r2, r3⟩
        dsimp only at r1 r2 r3 ⊢
        rw [gd20 r1, wp_bd]
        refine (c_seenFrom W r3 hi).mono ?_
        rintro ⟨v, h10⟩ ⟨v1, v2⟩
        dsimp only at v1 v2 ⊢
        subst v1
        rw [wp_some]
        refine q_ok I0 ((SC_X r2).tr (SL_X v2)) (fin _ (fun h15 H z u1 u3 => ?_))
        show wp (bp_ (fX6_housesSeen (i : Int) h15) (fun r31 => some (r31, h15))) _
        rw [m_housesSeen W H.1, u3, own_seen W hi, wp_bp, wp_some, wp_some]
        exact ⟨rfl, z, Same.rf⟩
    · rw [if_neg (by omega), if_neg (by omega), if_neg (by omega), if_neg (by omega), if_neg (by omega), if_neg (by omega), if_neg (by omega), if_neg (by omega), if_neg (by omega), wp_some]
      refine q_no I0 Same.rf (fun h' s => ?_)
      obtain ⟨C0, z0, s1, s2⟩ := C.z s
      unfold fX6_house
      exact mh_pass z0 C0.nh hx (w_f n10 (mw_fail z0 hy (w_t rfl (wp_some.mpr (no1 s1)))))
  · refine nh_fail LBh.1 LBh.2.1 LBh.2.2.1 hx ?_
    exact no_house I0 C hx (fun h' => rfl) rfl
/-- the first law that takes enough and hurts least -/
def mild (sumL mostL : Nat → Int) (x : Int) : Nat → Int
  | 0 => -1
  | k + 1 => if sumL k < x then mild sumL mostL x k else if mild sumL mostL x k = -1 then (k : Int) else if mostL (mild sumL mostL x k).toNat ≤ mostL k then mild sumL mostL x k else (k : Int)
theorem mild_r (sumL mostL : Nat → Int) (x : Int) : ∀ k, -1 ≤ mild sumL mostL x k ∧ mild sumL mostL x k < (k : Int)
  | 0 => by unfold mild; omega
  | k + 1 => by
    have := mild_r sumL mostL x k
    unfold mild
    split
    · omega
    · split
      · omega
      · split <;> omega
theorem s_mildest {κ : Int} {x : Int} {h : Hp} (I : Inv κ h) : wp (fX5_mildest x h) (PT κ (fX6_mildest x) (fun _ => 1)) := by
  have I0 := I
  obtain ⟨D, ht, ro, L, nr, rh, rm, na, P, C, -, Q, M, -⟩ := I
  have LBh := C.2.2.2.1
  have hL := LBh.1
  have W := C.1
  have R := C.2.2.1
  have hl4 := W.2.2.2.1
  have gL : (L : Int) = 1 ∨ (L : Int) = 9 := by omega
  by_cases hx : 0 ≤ x ∧ x ≤ 9999
  · have e : fX5_mildest x h = mi_ (fX5_mildest_j22 x h) := by
      unfold fX5_mildest
      rw [if_neg (by omega), if_pos (by omega)]
    rw [e, wp_mi]
    unfold fX5_mildest_j22
    rw [wp_bd]
    refine C.present.mono ?_
    rintro ⟨r, h5⟩ ⟨r1, r2, r3⟩
    dsimp only at r1 r2 r3 ⊢
    generalize hsl : (fun l : Nat => sm (fun i => txH D ht (lay D ht ro) ro (fogY D (ro 61)) i (l : Int)) D.nh) = sumL
    generalize hml : (fun l : Nat => mx (fun i => txH D ht (lay D ht ro) ro (fogY D (ro 61)) i (l : Int)) D.nh) = mostL
    have esl : ∀ l : Nat, sm (fun i => txH D ht (lay D ht ro) ro (fogY D (ro 61)) i (l : Int)) D.nh = sumL l := fun l => by rw [← hsl]
    have eml : ∀ l : Nat, mx (fun i => txH D ht (lay D ht ro) ro (fogY D (ro 61)) i (l : Int)) D.nh = mostL l := fun l => by rw [← hml]
    have C5 := C.same (SC_X r2)
    rw [gd20 r1, wp_bp]
    refine (wp_for (Q := fun r : Int × Hp => r.1 = mild sumL mostL x D.nl ∧ Same SL h5 r.2) (fun k (s : Int × Int × Int × Hp) => s.1 = mild sumL mostL x k ∧ (s.1 ≠ -1 → s.2.1 = mostL s.1.toNat) ∧ s.2.2.1 = (k : Int) ∧ Same SL h5 s.2.2.2) D.nl ?_ ?_ (FU_big (by omega)) ⟨rfl, fun q => absurd rfl q, rfl, Same.rf⟩).mono ?_
    · rintro k ⟨b, lt, kk, hh⟩ hk ⟨e1, e2, e3, e4⟩
      dsimp only at e1 e2 e3 e4 ⊢
      subst e3
      have H' := r3.same e4
      have Ch := C5.same (SL_X e4)
      unfold fX5_mildest_l34
      rw [Ch.2.2.2.1.2.1, gd_y gL, Int.toNat_natCast, Ch.2.2.2.1.2.2.1.2.2.2.1]
      refine w_f (by omega) ?_
      rw [wp_bd]
      refine (c_sumBy W H' ⟨by omega, by omega⟩).mono ?_
      rintro ⟨v, h10⟩ ⟨v1, v2⟩
      dsimp only at v1 v2 ⊢
      rw [esl] at v1
      subst v1
      by_cases q : sumL k < x
      · refine w_t q (wp_some.mpr ⟨?_, e2, i1 (by omega), e4.tr v2⟩)
        rw [e1]
        show _ = (if _ then _ else _)
        rw [if_pos q]
      · refine w_f q ?_
        rw [wp_bd]
        refine (c_mostBy W (H'.same v2) ⟨by omega, by omega⟩).mono ?_
        rintro ⟨u, h16⟩ ⟨u1, u2⟩
        dsimp only at u1 u2 ⊢
        rw [eml] at u1
        subst u1
        have s3 := (e4.tr v2).tr u2
        have em : mild sumL mostL x (k + 1) = if mild sumL mostL x k = -1 then (k : Int) else if mostL (mild sumL mostL x k).toNat ≤ mostL k then mild sumL mostL x k else (k : Int) := by
          show (if _ then _ else _) = _
          rw [if_neg q]
        rw [← e1] at em
        by_cases q2 : b = -1
        · refine w_t q2 (wp_some.mpr ⟨?_, fun _ => by show mostL k = _; rw [Int.toNat_natCast], i1 (by omega), s3⟩)
          show (k : Int) = _
          rw [em, if_pos q2]
        · refine w_f q2 ?_
          rw [e2 q2]
          by_cases q3 : mostL b.toNat ≤ mostL k
          · refine w_t q3 (wp_some.mpr ⟨?_, fun _ => rfl, i1 (by omega), s3⟩)
            show b = _
            rw [em, if_neg q2, if_pos q3]
          · refine w_f q3 (wp_some.mpr ⟨?_, fun _ => by show mostL k = _; rw [Int.toNat_natCast], i1 (by omega), s3⟩)
            show (k : Int) = _
            rw [em, if_neg q2, if_neg q3]
    · rintro ⟨b, lt, kk, hh⟩ ⟨e1, e2, e3, e4⟩
      dsimp only at e1 e2 e3 e4 ⊢
      subst e3
      have Ch := C5.same (SL_X e4)
      unfold fX5_mildest_l34
      rw [Ch.2.2.2.1.2.1, gd_y gL, Int.toNat_natCast, Ch.2.2.2.1.2.2.1.2.2.2.1]
      exact w_t (Int.le_refl _) (wp_some.mpr ⟨e1, e4⟩)
    · rintro ⟨b, h24⟩ ⟨b1, b2⟩
      dsimp only at b1 b2 ⊢
      rw [wp_some, b1]
      refine q_ok I0 ((SC_X r2).tr (SL_X b2)) (fun h' s => ?_)
      obtain ⟨C0, z0, s1, s2⟩ := C.z s
      show wp (bp_ (fX6_within x 0 9999 (st h' 35 0 0)) (fun r2 => bd_ (fX6_right r2 1 (st h' 35 0 0)) (fun r4 h6 => (if r4 = 0 then some (0, h6) else bp_ (it_ (fun s => fX6_mildest_l27 x s.1 s.2.1 s.2.2) FU ((-1), 0, h6)) (fun e25 => (fun y26 h27 => some (y26, h27)) e25.1 e25.2))))) _
      generalize st h' 35 0 0 = h0 at *
      rw [m_within, if_pos hx, wp_bp, wp_some]
      refine mr_pass z0 (by decide) (w_f n10 ?_)
      rw [wp_bp]
      have f1 := C0.2.2.2.2.2.2.2.2.2.2.1
      have f2 := C0.2.2.2.2.2.2.2.2.2.2.2
      have g1 : ∀ {hh : Hp}, Same SN h0 hh → hh 35 52 = -1 := fun s => by rw [s _ _ (by unfold SN; omega)]; exact f1
      have g2 : ∀ {hh : Hp}, Same SN h0 hh → hh 35 53 = -1 := fun s => by rw [s _ _ (by unfold SN; omega)]; exact f2
      refine (wp_for (Q := fun r : Int × Hp => r.1 = mild sumL mostL x D.nl ∧ Same SN h0 r.2) (fun k (s : Int × Int × Hp) => s.1 = mild sumL mostL x k ∧ s.2.1 = (k : Int) ∧ Same SN h0 s.2.2) D.nl ?_ ?_ (FU_big (by omega)) ⟨rfl, rfl, Same.rf⟩).mono ?_
      · rintro k ⟨b, kk, hh⟩ hk ⟨e1, e3, e4⟩
        dsimp only at e1 e3 e4 ⊢
        subst e3
        have H' := C0.ms.sn e4
        have br := mild_r sumL mostL x k
        rw [← e1] at br
        unfold fX6_mildest_l27
        rw [H'.1.2.2.2.1]
        refine w_f (by omega) ?_
        rw [wp_bd]
        refine (m_sumBy W R H' (g1 e4) (g2 e4) ⟨by omega, by omega⟩).mono ?_
        rintro ⟨v, h11⟩ ⟨v1, v2⟩
        dsimp only at v1 v2 ⊢
        rw [esl] at v1
        subst v1
        have e5 := e4.tr v2
        by_cases q : sumL k < x
        · refine w_t q (wp_some.mpr ⟨?_, i1 (by omega), e5⟩)
          rw [e1]
          show _ = (if _ then _ else _)
          rw [if_pos q]
        · refine w_f q ?_
          have em : mild sumL mostL x (k + 1) = if mild sumL mostL x k = -1 then (k : Int) else if mostL (mild sumL mostL x k).toNat ≤ mostL k then mild sumL mostL x k else (k : Int) := by
            show (if _ then _ else _) = _
            rw [if_neg q]
          rw [← e1] at em
          by_cases q2 : b = -1
          · refine w_t q2 (wp_some.mpr ⟨?_, i1 (by omega), e5⟩)
            show (k : Int) = _
            rw [em, if_pos q2]
          · refine w_f q2 ?_
            rw [wp_bd]
            refine (m_mostBy W R (C0.ms.sn e5) (g1 e5) (g2 e5) ⟨by omega, by omega⟩).mono ?_
            rintro ⟨u, h18⟩ ⟨u1, u2⟩
            dsimp only at u1 u2 ⊢
            rw [eml] at u1
            subst u1
            have e6 := e5.tr u2
            obtain ⟨bn, rfl⟩ : ∃ bn : Nat, b = (bn : Int) := ⟨b.toNat, by omega⟩
            rw [wp_bd]
            refine (m_mostBy W R (C0.ms.sn e6) (g1 e6) (g2 e6) ⟨by omega, by omega⟩).mono ?_
            rintro ⟨w, h21⟩ ⟨w1, w2⟩
            dsimp only at w1 w2 ⊢
            rw [eml] at w1
            subst w1
            have e7 := e6.tr w2
            rw [Int.toNat_natCast] at em
            by_cases q3 : mostL bn ≤ mostL k
            · refine w_t q3 (wp_some.mpr ⟨?_, i1 (by omega), e7⟩)
              show (bn : Int) = _
              rw [em, if_neg q2, if_pos q3]
            · refine w_f q3 (wp_some.mpr ⟨?_, i1 (by omega), e7⟩)
              show (k : Int) = _
              rw [em, if_neg q2, if_neg q3]
      · rintro ⟨b, kk, hh⟩ ⟨e1, e3, e4⟩
        dsimp only at e1 e3 e4 ⊢
        subst e3
        unfold fX6_mildest_l27
        rw [(C0.ms.sn e4).1.2.2.2.1]
        exact w_t (Int.le_refl _) (wp_some.mpr ⟨e1, e4⟩)
      · rintro q ⟨q1, q2⟩
        rw [wp_some]
        exact ⟨q1, z_kept z0 q2, s1.tr (SN_m q2)⟩
  · have e : fX5_mildest x h = some (.inr (1, h)) := by
      unfold fX5_mildest
      by_cases e : x < 0
      · rw [if_pos e]
      · rw [if_neg e, if_neg (by omega)]
    rw [e, wp_some]
    refine q_no I0 Same.rf (fun h' s => ?_)
    obtain ⟨C0, z0, s1, s2⟩ := C.z s
    show wp (bp_ (fX6_within x 0 9999 (st h' 35 0 0)) (fun r2 => bd_ (fX6_right r2 1 (st h' 35 0 0)) (fun r4 h6 => (if r4 = 0 then some (0, h6) else bp_ (it_ (fun s => fX6_mildest_l27 x s.1 s.2.1 s.2.2) FU ((-1), 0, h6)) (fun e25 => (fun y26 h27 => some (y26, h27)) e25.1 e25.2))))) _
    rw [m_within, if_neg hx, wp_bp, wp_some]
    exact mr_fail z0 (by decide) (w_t rfl (wp_some.mpr (no1 s1)))
