/-! pure part: fell, undo, years -/
theorem PCl.sm {D : LD} {na : Nat} {P : Nat → Nat → Int} {b : Nat} {h h' : Hp} (p : PCl D na P b h) (q1 : h' b 3 = h b 3) (q2 : h' b 2 = h b 2) (q3 : ∀ k, h' (b + 2) k = h (b + 2) k) : PCl D na P b h' := by
  obtain ⟨p1, o, p2, p3, p4⟩ := p
  exact ⟨q1.trans p1, o, p2, q2.trans p3, fun i hi => (p4 i hi).same (fun k => q3 _)⟩
theorem PMo.sm {D : LD} {na : Nat} {P : Nat → Nat → Int} {y : Nat} {a a' : Int} {h h' : Hp} (p : PMo D na P y a h) (q1 : a' = a) (q3 : ∀ k, h' y k = h y k) : PMo D na P y a' h' := ⟨q1.trans p.1, fun i hi => (p.2 i hi).same (fun k => q3 _)⟩
theorem s_fell {κ : Int} {x : Int} {h : Hp} (I : Inv κ h) : wp (fX5_fell x h) (PT κ (fX6_fell x) (fun _ => 1)) := by
  have I0 := I
  obtain ⟨D, ht, ro, L, nr, rh, rm, na, P, C, O, Q, M, G⟩ := I
  obtain ⟨⟨q1, q2⟩, qc, qm⟩ := past_iff.mp Q
  have LBh := C.2.2.2.1
  have W := C.1
  unfold fX5_fell
  by_cases hx : 0 ≤ x ∧ x < 12 ∧ ro x.toNat ≠ -1
  · refine nt_pass LBh.2.2.2.2 hx ?_
    obtain ⟨t, rfl⟩ : ∃ t : Nat, x = (t : Int) := ⟨x.toNat, by omega⟩
    have t12 : t < 12 := by omega
    unfold fX5_fell_j5
    rw [i0 (by omega), gd_y ⟨by omega, by omega⟩, Int.toNat_natCast, wp_mi, wp_lb, wp_bd]
    refine (c_remember W LBh.2.2.2.2 q1 qc).mono ?_
    rintro ⟨r, h8⟩ ⟨s8, p8⟩
    dsimp only at s8 p8 ⊢
    rw [gd_y ⟨by omega, by omega⟩, wp_lb, wp_some, LBh.2.2.2.2.1 t t12]
    refine act_ok C O M G ((SR_A s8).st (Or.inr (Or.inr (Or.inl rfl)))) (C.2.2.1.drop t12) ?_ (nP_le q1) (pP_W q1 q2 C.2.2.1) (p8.sm (st_na (by decide)) (st_na (by decide)) (fun k => st_na (by decide))) (fun h' s => ?_)
    · rw [st_up]
      exact (LBh.2.2.2.2.same (fun k => s8 _ _ (by unfold SR; omega))).drop t12
    · obtain ⟨m1, m2, m3, m4, m5, -⟩ := C.mz2 qm (mz_A s)
      unfold fX6_fell
      refine mt_pass m2 m3 hx (w_f n10 ?_)
      rw [wp_bd]
      refine (m_keeps W m2 q1 m4).mono ?_
      rintro ⟨r, h9⟩ ⟨s9, p9⟩
      dsimp only at s9 p9 ⊢
      rw [i0 (by omega), gd_y ⟨by omega, by omega⟩, Int.toNat_natCast, wp_lb, gd_y ⟨by omega, by omega⟩, wp_lb, wp_some]
      dsimp only
      refine ⟨?_, ?_, ((SXm_A m5).tr (SK_A s9)).st (Or.inr (Or.inl rfl)), ?_, p9.sm (st_na (by decide)) (fun k => st_na (by decide))⟩
      · rw [s9 _ _ (by unfold SK; omega)]
        exact m2.1 t t12
      · rw [st_na (by decide), s9 _ _ (by unfold SK; omega)]
        exact m3
      · rw [st_up]
        exact (m2.same (fun k => s9 _ _ (by unfold SK; omega))).drop t12
  · refine nt_fail LBh.2.2.2.2 hx ?_
    refine q_no I0 Same.rf (fun h' s => ?_)
    obtain ⟨C0, z0, s1, s2⟩ := C.z s
    unfold fX6_fell
    exact mt_fail C0.2.2.2.2.2.2.2.1 z0 hx (w_t rfl (wp_some.mpr (no1 s1)))
theorem s_undo {κ : Int} {h : Hp} (I : Inv κ h) : wp (fX5_undo h) (PN κ fX6_undo) := by
  have I0 := I
  obtain ⟨D, ht, ro, L, nr, rh, rm, na, P, C, O, Q, M, G⟩ := I
  obtain ⟨⟨q1, q2⟩, qc, qm⟩ := past_iff.mp Q
  have W := C.1
  obtain ⟨c3, o, ho, c2, cp⟩ := qc
  unfold fX5_undo fX0_recall_26
  rw [c3, wp_bd]
  by_cases e : na = 0
  · refine w_t (by omega) ?_
    rw [wp_some]
    refine w_t rfl ?_
    rw [wp_some]
    refine q_n I0 Same.rf (fun h' s => ?_)
    obtain ⟨C0, z0, s1, s2⟩ := C.z s
    unfold fX6_undo
    rw [wp_lb, s2 35 49 (by unfold SX; omega), qm.1]
    exact w_t (by omega) (wp_some.mpr ⟨rfl, s1⟩)
  · obtain ⟨n, rfl⟩ : ∃ n, na = n + 1 := ⟨na - 1, by omega⟩
    refine w_f (by omega) ?_
    rw [c_latest c2 c3 ho (by omega), wp_bp, wp_some]
    have hs : (o + n) % 40 < 40 := Nat.mod_lt _ (by decide)
    generalize hsl : (o + n) % 40 = sl at hs
    rw [gd_y ⟨by omega, by omega, by omega, by omega, by omega⟩, wp_lb, Int.toNat_natCast]
    have v3 : cpy h 28 27 (sl * 62) (Int.toNat 0) (Int.toNat 62) 26 3 = ((n + 1 : Nat) : Int) := by rw [cpy_a (by decide)]; exact c3
    rw [v3, im1 (by omega), wp_lb, wp_some]
    dsimp only
    refine w_f (by decide) ?_
    rw [wp_some]
    have e3 : st (cpy h 28 27 (sl * 62) (Int.toNat 0) (Int.toNat 62)) 26 3 (n : Int) 26 3 = (n : Int) := st_self
    rw [e3]
    have g27 : RR D (P n) (st (cpy h 28 27 (sl * 62) (Int.toNat 0) (Int.toNat 62)) 26 3 (n : Int) 27) := by
      refine (cp n (by omega)).cg W (fun k hk => ?_)
      rw [st_na (by decide)]
      show (if _ ∧ 0 ≤ k ∧ k < 0 + 62 then h 28 (sl * 62 + (k - 0)) else _) = h 28 ((o + n) % 40 * 62 + k)
      rw [if_pos ⟨rfl, by omega, by omega⟩, hsl, Nat.sub_zero]
    have gs : Same SAc h (st (cpy h 28 27 (sl * 62) (Int.toNat 0) (Int.toNat 62)) 26 3 (n : Int)) := (cpy_same (P := SAc) (fun k _ _ => Or.inr (Or.inr (Or.inl rfl)))).st (Or.inr (Or.inl ⟨rfl, Or.inr rfl⟩))
    refine act_n (na' := n) (P' := P) C O M G gs (q2 n (by omega)) g27 (by omega) (fun i hi => q2 i (by omega)) ⟨st_self, o, ho, ?_, fun i hi => ?_⟩ (fun h' s => ?_)
    · rw [st_nk (by decide), cpy_a (by decide)]; exact c2
    · refine (cp i (by omega)).same (fun k => ?_)
      rw [st_na (by decide), cpy_a (by decide)]
    · obtain ⟨m1, m2, m3, m4, m5, -⟩ := C.mz2 qm (mz_A s)
      unfold fX6_undo
      rw [wp_lb]
      generalize st h' 35 0 0 = h0 at *
      rw [m4.1]
      refine w_f (by omega) ?_
      rw [im1 (by omega), wp_lb, wp_bp]
      have loop : wp (it_ (fun s : Int × Hp => fX6_undo_l26 s.1 s.2) FU (0, st h0 35 49 (n : Int))) (fun hq => Same (fun a _ => a = 54) (st h0 35 49 (n : Int)) hq ∧ ∀ k, k < 62 → hq 54 k = h0 56 (62 * n + k)) := by
        refine wp_for (fun k (s : Int × Hp) => s.1 = (k : Int) ∧ Same (fun a _ => a = 54) (st h0 35 49 (n : Int)) s.2 ∧ ∀ j, j < k → s.2 54 j = h0 56 (62 * n + j)) 62 ?_ ?_ (FU_big (by decide)) ⟨rfl, Same.rf, fun j hj => absurd hj (by omega)⟩
        · rintro k ⟨x, hh⟩ hk ⟨e1, e2, e3'⟩
          dsimp only at e1 e2 e3' ⊢
          subst e1
          have b49 : hh 35 49 = (n : Int) := by rw [e2 _ _ (by omega)]; exact st_self
          have b56 : hh 56 (62 * n + k) = h0 56 (62 * n + k) := by rw [e2 _ _ (by omega)]; exact st_na (by decide)
          have hn40 : n < 40 := by omega
          have e2s := e2
          clear e3 v3 c3 c2 e2
          have em : i_mul 62 (n : Int) = ((62 * n : Nat) : Int) := by rw [i_mul_eq ⟨by clear b49 b56; omega, by clear b49 b56; omega⟩]; clear b49 b56; omega
          have gd1 : (0 : Int) ≤ ((62 * n + k : Nat) : Int) ∧ ((62 * n + k : Nat) : Int) < 2480 := by clear em b49 b56; omega
          have gd2 : (0 : Int) ≤ (k : Int) ∧ (k : Int) < 62 := by clear em b49 b56; omega
          have lk : i_add (k : Int) 1 = ((k + 1 : Nat) : Int) := i1 (by clear em b49 b56; omega)
          have c1 : 62 * n < 4000 := by clear em b49 b56 lk; omega
          have c2 : k < 4000 := by clear em b49 b56 lk; omega
          unfold fX6_undo_l26
          rw [b49, em, ik c2 c1, Int.toNat_natCast, Int.toNat_natCast, b56, lk]
          refine w_f (by clear em b49 b56 lk; omega) ?_
          rw [gd_y gd1, gd_y gd2, wp_lb, wp_some]
          have e2' : Same (fun a _ => a = 54) (st h0 35 49 (n : Int)) (st hh 54 k (h0 56 (62 * n + k))) := e2s.st rfl
          refine ⟨rfl, e2', fun j hj => ?_⟩
          show st hh 54 k _ 54 j = _
          by_cases ej : j = k
          · subst ej; rw [st_self]
          · rw [st_nk ej]; exact e3' j (by clear em b49 b56 lk; omega)
        · rintro ⟨x, hh⟩ ⟨e1, e2, e3'⟩
          dsimp only at e1 e2 e3' ⊢
          subst e1
          unfold fX6_undo_l26
          exact w_t (by decide) (wp_some.mpr ⟨e2, e3'⟩)
      refine loop.mono ?_
      rintro h10 ⟨s10, v10⟩
      dsimp only
      have b49 : h10 35 49 = (n : Int) := by rw [s10 _ _ (by decide), st_self]
      rw [wp_some, b49]
      refine ⟨rfl, ?_, ?_, ⟨b49, fun i hi => ?_⟩⟩
      · exact ((SXm_A m5).st (Or.inr (Or.inr (Or.inr ⟨rfl, rfl⟩)))).tr (s10.mono (fun a k p => Or.inr (Or.inl p)))
      · refine (m4.2 n (by omega)).cg W (fun k hk => ?_)
        exact v10 k hk
      · refine (m4.2 i (by omega)).same (fun k => ?_)
        show h10 56 (62 * i + k) = h0 56 (62 * i + k)
        rw [s10 _ _ (show ¬ ((56 : Nat) = 54) by decide), st_na (by decide)]
theorem RW.yr {D : LD} {Y : Nat} {ro : Nat → Int} (R : RW D Y ro) (h : ro 61 ≤ 999) : RW D 999 ro := ⟨R.1, R.2.1, R.2.2.1, R.2.2.2.1, h⟩
theorem m51 {D : LD} {ht ro : Nat → Int} {L nr : Nat} {rh : Nat → Nat} {rm : Nat → Int} {h h' h0 : Hp} (C : Core D ht ro L nr rh rm h) (s : Same SAc h h') (e : ∀ k, k ≠ 0 → h0 35 k = h' 35 k) : h0 35 51 = -1 := by
  rw [e 51 (by decide), s _ _ (by unfold SAc; omega)]
  exact C.2.2.2.2.2.2.2.2.2.1
theorem s_years {κ : Int} {x : Int} {h : Hp} (I : Inv κ h) : wp (fX5_years x h) (PN κ (fX6_years x)) := by
  have I0 := I
  obtain ⟨D, ht, ro, L, nr, rh, rm, na, P, C, O, Q, M, G⟩ := I
  obtain ⟨⟨q1, q2⟩, qc, qm⟩ := past_iff.mp Q
  have LBh := C.2.2.2.1
  have W := C.1
  have R := C.2.2.1
  have hy := R.2.2.2
  have e61 : h 27 (Int.toNat 61) = ro 61 := LBh.2.2.2.2.2.2.2.2
  have bad : ¬ (1 ≤ x ∧ x ≤ 20 ∧ ro 61 + x ≤ 999) → fX5_years x h = fX5_years_j29 h := by
    intro n
    unfold fX5_years
    by_cases e1 : x < 1
    · rw [if_pos e1]
    · rw [if_neg e1]
      by_cases e2 : 20 < x
      · rw [if_pos e2]
      · rw [if_neg e2, gd_y (by decide), e61, ia (by omega) (by omega), if_neg (by omega)]
  by_cases hx : 1 ≤ x ∧ x ≤ 20 ∧ ro 61 + x ≤ 999
  · obtain ⟨n, rfl⟩ : ∃ n : Nat, x = (n : Int) := ⟨x.toNat, by omega⟩
    unfold fX5_years
    rw [if_neg (by omega), if_neg (by omega), gd_y (by decide), e61, ia (by omega) (by omega), if_pos (by omega), wp_bd]
    refine (c_remember W LBh.2.2.2.2 q1 qc).mono ?_
    rintro ⟨r, h8⟩ ⟨s8, p8⟩
    dsimp only at s8 p8 ⊢
    have hL := LBh.1
    have LB8 : LB D ht ro L h8 := by
      obtain ⟨b1, b2, b3, b4, b5⟩ := LBh
      exact ⟨b1, by rw [s8 _ _ (by unfold SR; omega)]; exact b2, b3.same (fun a k q1 q2 => s8 _ _ (by unfold SR; omega)), fun c hc => by rw [s8 _ _ (by unfold SR; omega)]; exact b4 c hc, b5.same (fun k => s8 _ _ (by unfold SR; omega))⟩
    rw [wp_bd]
    refine (c_present W R (by decide) C.2.1 LB8).mono ?_
    rintro ⟨r, h11⟩ ⟨r1, r2, r3⟩
    dsimp only at r1 r2 r3 ⊢
    rw [gd20 r1, wp_bp]
    have loop : wp (it_ (fun s : Int × Hp => fX5_years_l55 (n : Int) s.1 s.2) FU (0, h11)) (fun hq => Same SC h11 hq ∧ CS D ht (lay D ht (yR D ht ro n)) (yR D ht ro n) (fogY D (yR D ht ro n 61)) L hq) := by
      refine wp_for (fun k (s : Int × Hp) => s.1 = (k : Int) ∧ Same SC h11 s.2 ∧ CS D ht (lay D ht (yR D ht ro k)) (yR D ht ro k) (fogY D (yR D ht ro k 61)) L s.2) n ?_ ?_ (FU_big (by omega)) ?_
      · rintro k ⟨x, hh⟩ hk ⟨e1, e2, e3⟩
        dsimp only at e1 e2 e3 ⊢
        subst e1
        unfold fX5_years_l55
        refine w_f (by omega) ?_
        rw [wp_bd]
        refine (c_yearK W C.2.1 R (by omega) e3).mono ?_
        rintro ⟨v, h14⟩ ⟨-, v2, v3⟩
        dsimp only at v2 v3 ⊢
        exact wp_some.mpr ⟨i1 (by omega), e2.tr v2, v3⟩
      · rintro ⟨x, hh⟩ ⟨e1, e2, e3⟩
        dsimp only at e1 e2 e3 ⊢
        subst e1
        unfold fX5_years_l55
        exact w_t (Int.le_refl _) (wp_some.mpr ⟨e2, e3⟩)
      · exact ⟨rfl, Same.rf, r3⟩
    refine loop.mono ?_
    rintro h19 ⟨s19, C19⟩
    have Rn : RW D 999 (yR D ht ro n) := (yR_W W R n).yr (by rw [yR_61]; omega)
    have g27 : RR D (yR D ht ro n) (cpy h19 21 27 (Int.toNat 0) (Int.toNat 0) (Int.toNat 62) 27) := by
      refine C19.row.cg W (fun k hk => ?_)
      show (if _ ∧ 0 ≤ k ∧ k < 0 + 62 then h19 21 (0 + (k - 0)) else _) = _
      rw [if_pos ⟨rfl, by omega, by omega⟩, Nat.zero_add, Nat.sub_zero]
    rw [gd_y (by decide), wp_lb, gd_y (by decide), wp_some, show cpy h19 21 27 (Int.toNat 0) (Int.toNat 0) (Int.toNat 62) 27 (Int.toNat 61) = yR D ht ro n 61 from g27.2.2.2.2]
    have s27 : Same SAc h (cpy h19 21 27 (Int.toNat 0) (Int.toNat 0) (Int.toNat 62)) := (((SR_A s8).tr (SC_A r2)).tr (SC_A s19)).tr (cpy_same (P := SAc) (fun k _ _ => Or.inr (Or.inr (Or.inl rfl))))
    have k26 : ∀ a k, a = 26 ∨ a = 28 → cpy h19 21 27 (Int.toNat 0) (Int.toNat 0) (Int.toNat 62) a k = h8 a k := fun a k p => by
      rw [cpy_a (by omega), s19 _ _ (by unfold SC; omega), r2 _ _ (by unfold SC; omega)]
    refine act_n C O M G s27 Rn g27 (nP_le q1) (pP_W q1 q2 R) (p8.sm (k26 _ _ (by omega)) (k26 _ _ (by omega)) (fun k => k26 _ _ (by omega))) (fun h' s => ?_)
    obtain ⟨m1, m2, m3, m4, m5, m6, m7, m8⟩ := C.mz2 qm (mz_A s)
    have h051 : st h' 35 0 0 35 51 = -1 := m51 C s (fun k n => st_nk n)
    unfold fX6_years
    rw [wp_lb]
    generalize st h' 35 0 0 = h0 at *
    rw [m_within, if_pos ⟨hx.1, hx.2.1⟩, wp_bp, wp_some]
    refine w_f n10 ?_
    rw [gd_y (by decide), show h0 54 (Int.toNat 61) = ro 61 from m2.2.2.2.2, ia (by omega) (by omega), if_pos (by omega), wp_bd]
    refine (m_keeps W m2 q1 m4).mono ?_
    rintro ⟨r, h12⟩ ⟨s12, p12⟩
    dsimp only at s12 p12 ⊢
    rw [wp_bp]
    have M12 : MS D ht (h12 57) ro (fogY D (ro 61)) h12 := by
      obtain ⟨a1, a2, a3, a4, a5, a6, a7⟩ := m6
      exact ⟨a1.same (fun a k p => s12 _ _ (by unfold SK; omega)), fun c hc => by rw [s12 _ _ (by unfold SK; omega)]; exact a2 c hc, fun c hc => rfl, a4.same (fun k => s12 _ _ (by unfold SK; omega)), by rw [s12 _ _ (by unfold SK; omega)]; exact a5, a6, a7⟩
    have loop2 : wp (it_ (fun s : Int × Hp => fX6_years_l43 (n : Int) s.1 s.2) FU (0, h12)) (fun hq => Same SY h12 hq ∧ RR D (yR D ht ro n) (hq 54)) := by
      refine wp_for (fun k (s : Int × Hp) => s.1 = (k : Int) ∧ Same SY h12 s.2 ∧ RR D (yR D ht ro k) (s.2 54)) n ?_ ?_ (FU_big (by omega)) ?_
      · rintro k ⟨x, hh⟩ hk ⟨e1, e2, e3⟩
        dsimp only at e1 e2 e3 ⊢
        subst e1
        have yk := (yR_W (ht := ht) W R k).2.2.2
        have Mk : MS D ht (hh 57) (yR D ht ro k) (fogY D (yR D ht ro k 61)) hh := by
          obtain ⟨a1, a2, a3, a4, a5, a6, a7⟩ := M12
          refine ⟨a1.same (fun a k p => e2 _ _ (by unfold SY; omega)), fun c hc => by rw [e2 _ _ (by unfold SY; omega)]; exact a2 c hc, fun c hc => rfl, e3, Or.inl ⟨?_, rfl⟩, fogY_9 W, by omega, by omega⟩
          rw [e2 _ _ (by unfold SY; omega), s12 _ _ (by unfold SK; omega)]
          exact h051
        unfold fX6_years_l43
        refine w_f (by omega) ?_
        rw [wp_bd]
        refine (m_yearGoes W (yR_W W R k) (by omega) Mk (by rw [e2 _ _ (by unfold SY; omega), s12 _ _ (by unfold SK; omega)]; exact m7) (by rw [e2 _ _ (by unfold SY; omega), s12 _ _ (by unfold SK; omega)]; exact m8)).mono ?_
        rintro ⟨v, h14⟩ ⟨-, v2, v3⟩
        dsimp only at v2 v3 ⊢
        exact wp_some.mpr ⟨i1 (by omega), e2.tr v2, v3⟩
      · rintro ⟨x, hh⟩ ⟨e1, e2, e3⟩
        dsimp only at e1 e2 e3 ⊢
        subst e1
        unfold fX6_years_l43
        exact w_t (Int.le_refl _) (wp_some.mpr ⟨e2, e3⟩)
      · exact ⟨rfl, Same.rf, m2.same (fun k => s12 _ _ (by unfold SK; omega))⟩
    refine loop2.mono ?_
    rintro h20 ⟨s20, v20⟩
    rw [gd_y (by decide), wp_some]
    exact ⟨v20.2.2.2.2, ((SXm_A m5).tr (SK_A s12)).tr (SY_A s20), v20, p12.sm (s20 _ _ (by unfold SY; omega)) (fun k => s20 _ _ (by unfold SY; omega))⟩
  · rw [bad hx]
    unfold fX5_years_j29
    rw [wp_lb, wp_some]
    refine ref_N (w := 1) I0 (by decide) (fun h' s => ?_)
    obtain ⟨m1, m2, m3, m4, m5, -⟩ := C.mz2 qm (mz_F s)
    have k : wp (fX6_years_j30 (st h' 35 0 0)) (fun y => y.1 = -1 ∧ ∃ hq, hq 35 0 = 0 ∧ Same SXm h' hq ∧ y.2 = st hq 43 1 (i_add (hq 43 1) 1)) := by
      unfold fX6_years_j30
      rw [show (1 : Int) = ((1 : Nat) : Int) from rfl, m_refuses (by decide), wp_bd, wp_some, wp_some]
      exact ⟨rfl, _, m3, m5, rfl⟩
    unfold fX6_years
    rw [wp_lb, m_within, wp_bp, wp_some]
    by_cases e : 1 ≤ x ∧ x ≤ 20
    · rw [if_pos e]
      refine w_f n10 ?_
      rw [gd_y (by decide), show st h' 35 0 0 54 (Int.toNat 61) = ro 61 from m2.2.2.2.2, ia (by omega) (by omega)]
      exact w_f (by omega) k
    · rw [if_neg e]
      exact w_t rfl k
