/-! pure part: shade -/
theorem bestF_nn {skip : Nat → Bool} {f : Nat → Int} {b0 l0 : Int} (h : 0 ≤ b0) : ∀ k, 0 ≤ (bestF skip f b0 l0 k).1
  | 0 => h
  | k + 1 => by
    have ih := bestF_nn (skip := skip) (f := f) (l0 := l0) h k
    show 0 ≤ (if skip k = true then _ else if f k < (bestF skip f b0 l0 k).2 then ((k : Int), f k) else _).1
    by_cases a : skip k = true
    · rw [if_pos a]; exact ih
    · rw [if_neg a]
      by_cases b : f k < (bestF skip f b0 l0 k).2
      · rw [if_pos b]; exact Int.natCast_nonneg k
      · rw [if_neg b]; exact ih
theorem CS.stand {D : LD} {ht sd sd' ro : Nat → Int} {fog L c0 : Nat} {v : Int} {h : Hp} (H : CS D ht sd ro fog L h) (e : ∀ c, c < D.cl → sd' c = if c = c0 then v else sd c) : CS D ht sd' ro fog L (st h 23 c0 v) := by
  obtain ⟨hL, a1, a2, a3, a4, a5, a6, a7⟩ := H
  refine ⟨hL, by rw [st_na (by decide)]; exact a1, a2.same (fun a k q1 q2 => st_na (by omega)), fun c hc => by rw [st_na (by decide)]; exact a3 c hc, fun c hc => ?_, a5.same (fun k => st_na (by decide)), by rw [st_na (by decide)]; exact a6, a7⟩
  rw [e c hc, st_up]
  by_cases q : c = c0
  · rw [if_pos q, q, up_s]
  · rw [if_neg q, up_n q]; exact a4 c hc
theorem s_shade {κ : Int} {x y : Int} {h : Hp} (I : Inv κ h) : wp (fX5_shade x y h) (PT κ (fX6_shade x y) (fun e => if e = 0 then 1 else 2)) := by
  have I0 := I
  obtain ⟨D, ht, ro, L, nr, rh, rm, na, P, C, -, Q, M, -⟩ := I
  have LBh := C.2.2.2.1
  have W := C.1
  have R := C.2.2.1
  have hn6 := W.2.2.1
  have hc64 : D.cl ≤ 64 := cl64 W.1.2 W.2.1.2
  unfold fX5_shade
  by_cases hx : 0 ≤ x ∧ x < (D.nh : Int)
  · refine nh_pass LBh.1 LBh.2.1 LBh.2.2.1 hx ?_
    by_cases hy : 0 ≤ y ∧ y < (D.nh : Int)
    · refine nh_pass LBh.1 LBh.2.1 LBh.2.2.1 hy ?_
      by_cases hxy : x = y
      · refine w_t hxy (wp_some.mpr (q_no I0 Same.rf (fun h' s => ?_)))
        obtain ⟨C0, z0, s1, s2⟩ := C.z s
        unfold fX6_shade
        refine mh_pass z0 C0.nh hx (w_f n10 (mh_pass z0 C0.nh hy (w_f n10 (w_t hxy ?_))))
        unfold fX6_shade_j32
        rw [m_right0 z0 (by decide), wp_bd, wp_some]
        exact w_t rfl (wp_some.mpr (no1 s1))
      · refine w_f hxy ?_
        obtain ⟨i, rfl⟩ : ∃ i : Nat, x = (i : Int) := ⟨x.toNat, by omega⟩
        obtain ⟨j, rfl⟩ : ∃ j : Nat, y = (j : Int) := ⟨y.toNat, by omega⟩
        have hi : i < D.nh := by omega
        have hj : j < D.nh := by omega
        have hcj := W.2.2.2.2.2.1 j hj
        have e48 : i_add 48 (j : Int) = ((48 + j : Nat) : Int) := ik (c := 48) (by omega) (by decide)
        have g48 : (0 : Int) ≤ ((48 + j : Nat) : Int) ∧ ((48 + j : Nat) : Int) < 62 := by clear e48; omega
        have n48 : 12 ≤ 48 + j ∧ 48 + j ≠ 61 ∧ 48 + j ≠ 60 ∧ 48 + j ≠ 42 + i ∧ 48 + j ≠ 54 + i := by clear e48; omega
        have nS : ∀ k, k < D.nh → 54 + k ≠ 48 + j := fun k hk => by clear e48; omega
        generalize hso : ro (48 + j) = so
        have u60 : ∀ v : Int, up ro (48 + j) v 60 = ro 60 := fun v => up_n (Ne.symm n48.2.2.1)
        have u0 : up ro (48 + j) so = ro := by rw [← hso]; exact up_same
        have uS : ∀ v : Int, ∀ k, k < D.nh → in32 (up ro (48 + j) v (54 + k)) := fun v k hk => by rw [up_n (nS k hk)]; exact R.sold k hk
        generalize hf : (fun d : Nat => txH D ht (lay D ht (up ro (48 + j) (d : Int))) ro (fogY D (ro 61)) i (ro 60)) = f
        have hf' : ∀ d : Nat, txH D ht (lay D ht (up ro (48 + j) (d : Int))) ro (fogY D (ro 61)) i (ro 60) = f d := fun d => by rw [← hf]
        have hg' : ∀ d : Nat, txH D ht (lay D ht (up ro (48 + j) (d : Int))) (up ro (48 + j) (d : Int)) (fogY D (ro 61)) i (ro 60) = f d := fun d => by
          rw [← hf' d]
          exact txH_row (up_n (Ne.symm n48.2.1)) (up_n (Ne.symm n48.2.2.2.1)) (up_n (Ne.symm n48.2.2.2.2))
        generalize hB : bestF (fun d => decide (d = 0)) f 0 (f 0) = B
        have B1 : B 1 = (0, f 0) := by rw [← hB]; rfl
        have Bs : ∀ k, 1 ≤ k → B (k + 1) = if f k < (B k).2 then ((k : Int), f k) else B k := fun k hk => by
          rw [← hB]
          show (if decide (k = 0) = true then _ else _) = _
          rw [if_neg (by simp; clear e48; omega)]
        have Bn : ∀ k, 0 ≤ (B k).1 := fun k => by rw [← hB]; exact bestF_nn (Int.le_refl 0) k
        have hm : ∀ h', Same SX h h' → wp (fX6_shade (i : Int) (j : Int) h') (fun q => q.1 = (B 6).1 ∧ q.2 35 0 = 0 ∧ Same SXm h' q.2) := by
          intro h' s
          obtain ⟨C0, z0, s1, s2⟩ := C.z s
          unfold fX6_shade
          refine mh_pass z0 C0.nh hx (w_f n10 (mh_pass z0 C0.nh hy (w_f n10 (w_f hxy ?_))))
          unfold fX6_shade_j32
          rw [m_right1 z0 (by decide), wp_bd, wp_some]
          refine w_f n10 ?_
          generalize st h' 35 0 0 = h0 at *
          have w48 : h0 54 (48 + j) = so := by rw [(C0.2.2.2.2.2.2.2.1.2.2.1 j hj).2.2.1]; exact hso
          have z52 : h0 35 52 = -1 := C0.2.2.2.2.2.2.2.2.2.2.1
          have z53 : h0 35 53 = -1 := C0.2.2.2.2.2.2.2.2.2.2.2
          dsimp only
          rw [e48, gd_y g48, Int.toNat_natCast, w48, wp_lb, wp_bp]
          have q3' : MS D ht (h0 57) (up ro (48 + j) so) (fogY D (ro 61)) h0 := by rw [u0]; exact C0.ms
          refine (wp_for (Q := fun r : Int × Hp => r.1 = (B 6).1 ∧ Same (SXw (48 + j)) h0 r.2) (fun k (s : Int × Int × Int × Hp) => (k = 0 → s.1 = -1) ∧ (k ≠ 0 → (s.1, s.2.1) = B k) ∧ s.2.2.1 = (k : Int) ∧ Same (SXw (48 + j)) h0 s.2.2.2 ∧ ∃ w sd, MS D ht sd (up ro (48 + j) w) (fogY D (ro 61)) s.2.2.2) 6 ?_ ?_ (FU_big (by decide)) ?_).mono ?_
          · rintro k ⟨b, l, kk, hh⟩ hk ⟨f0, f1, f2, f3, w, sd, f4⟩
            dsimp only at f0 f1 f2 f3 f4 ⊢
            subst f2
            have k1 : i_add (k : Int) 1 = ((k + 1 : Nat) : Int) := i1 (by clear e48 w48 f0 f1; omega)
            unfold fX6_shade_l60
            rw [e48, k1]
            clear e48 w48 k1
            refine w_f (by clear f0 f1; omega) ?_
            rw [gd_y g48, Int.toNat_natCast, wp_lb, wp_bd]
            have M0 : MS D ht sd (up ro (48 + j) (k : Int)) (fogY D (ro 61)) (st hh 54 (48 + j) (k : Int)) := f4.reup n48.1 n48.2.1
            have t1 : Same (SXw (48 + j)) h0 (st hh 54 (48 + j) (k : Int)) := f3.st (Or.inr ⟨rfl, rfl⟩)
            refine (m_lay0 W M0 (by rw [t1 _ _ (by unfold SXw SN; clear f0 f1; omega)]; exact z52) (by rw [t1 _ _ (by unfold SXw SN; clear f0 f1; omega)]; exact z53)).mono ?_
            rintro ⟨q, h22⟩ ⟨-, q2, q3⟩
            dsimp only at q2 q3 ⊢
            rw [wp_bd]
            refine (m_taxOf W q3 (uS _) hi (by rw [u60]; exact R.2.2.1)).mono ?_
            rintro ⟨u, h25⟩ ⟨u1, u2⟩
            dsimp only at u1 u2 ⊢
            rw [u60, hg'] at u1
            subst u1
            have s9 : Same (SXw (48 + j)) h0 h25 := (t1.tr ((S57_SN q2).mono (fun _ _ p => Or.inl p))).tr (SM_w u2)
            by_cases k0 : k = 0
            · refine w_t (f0 k0) (wp_some.mpr ⟨fun z => absurd z (Nat.succ_ne_zero k), fun _ => ?_, rfl, s9, _, _, q3.same u2⟩)
              subst k0
              exact B1.symm
            · have f1' := f1 k0
              have bn := Bn k
              rw [← f1'] at bn
              have em := Bs k (by clear f0 f1; omega)
              rw [← f1'] at em
              dsimp only at em bn
              refine w_f (by clear f0 f1 em f1'; omega) ?_
              by_cases q : f k < l
              · exact w_t q (wp_some.mpr ⟨fun z => absurd z (Nat.succ_ne_zero k), fun _ => by rw [em, if_pos q], rfl, s9, _, _, q3.same u2⟩)
              · exact w_f q (wp_some.mpr ⟨fun z => absurd z (Nat.succ_ne_zero k), fun _ => by rw [em, if_neg q], rfl, s9, _, _, q3.same u2⟩)
          · rintro ⟨b, l, kk, hh⟩ ⟨f0, f1, f2, f3, f4⟩
            dsimp only at f0 f1 f2 f3 f4 ⊢
            subst f2
            unfold fX6_shade_l60
            exact w_t (by decide) (wp_some.mpr ⟨by rw [← f1 (by decide)], f3⟩)
          · exact ⟨fun _ => rfl, fun z => absurd rfl z, rfl, Same.rf, so, _, q3'⟩
          · rintro ⟨b, h33⟩ ⟨b1, b2⟩
            dsimp only at b1 b2 ⊢
            rw [gd_y g48, wp_lb, wp_some]
            refine ⟨b1, ?_, ?_⟩
            · show st h33 54 (48 + j) so 35 0 = 0
              rw [st_na (by decide), b2 _ _ (by unfold SXw SN; clear e48 w48 z0; omega)]
              exact z0
            · have e5 : so = h' 54 (48 + j) := by rw [← w48, s1 _ _ (by unfold SXm; clear e48 w48 z0; omega)]
              show Same SXm h' (st h33 54 (48 + j) so)
              rw [e5]
              exact same54 s1 b2
        unfold fX5_shade_j26
        rw [wp_mi, wp_bd]
        refine C.present.mono ?_
        rintro ⟨r, h10⟩ ⟨r1, r2, r3⟩
        dsimp only at r1 r2 r3 ⊢
        have hL := LBh.1
        have v0 : h10 0 0 = (L : Int) := by rw [r2 _ _ (by unfold SC; clear e48; omega)]; exact LBh.2.1
        have l2 : ((L : Int) + 2).toNat = L + 2 := by clear e48 v0; omega
        have v2 : h10 (L + 2) j = (D.hc j : Int) := r3.2.2.1.2.2.2.2.2.1 j hj
        have v48 : h10 21 (48 + j) = so := by rw [(r3.row.2.2.1 j hj).2.2.1]; exact hso
        have v23 : h10 23 (D.hc j) = i_add (ht (D.hc j)) (i_add 2 so) := by rw [r3.2.2.2.2.1 _ hcj, lay_house W hj, hso]
        rw [gd20 r1, gd_y (by rw [v0]; clear e48 v0 v2 v48 v23; omega), gd_y (by clear e48 v0 v2 v48 v23; omega), v0, l2, Int.toNat_natCast, v2, wp_lb, e48, gd_y g48, Int.toNat_natCast, v48, c_raiseN (by clear e48 v0 v2 v48 v23; omega), v23, wp_bd, wp_some, wp_bd]
        have K0 : CS D ht (lay D ht (up ro (48 + j) ((0 : Nat) : Int))) ro (fogY D (ro 61)) L (st h10 23 (D.hc j) (i_add (i_add (ht (D.hc j)) (i_add 2 so)) (i_neg so))) := r3.stand (fun c hc => by
          rw [lay_barn W hj]
          by_cases q : c = D.hc j
          · rw [if_pos q, if_pos q, q, ia_assoc, ia_undo (by decide)]; rfl
          · rw [if_neg q, if_neg q])
        refine (c_taxOf W K0 hi R.2.2.1).mono ?_
        rintro ⟨v, h21⟩ ⟨v1, w2⟩
        dsimp only at v1 w2 ⊢
        rw [hf'] at v1
        subst v1
        have t0 : Same SC h10 h21 := (Same.rf.st (P := SC) ⟨by decide, by decide⟩).tr (w2.mono (fun a k p => by unfold SL at p; unfold SC; clear e48 v0 v2 v48 v23; omega))
        rw [wp_bp]
        refine (wp_for (Q := fun r : Int × Hp => r.1 = (B 6).1 ∧ Same SC h10 r.2) (fun k (s : Int × Int × Int × Hp) => (s.1, s.2.1) = B (k + 1) ∧ s.2.2.1 = ((k + 1 : Nat) : Int) ∧ Same SC h10 s.2.2.2 ∧ CS D ht (lay D ht (up ro (48 + j) (k : Int))) ro (fogY D (ro 61)) L s.2.2.2) 5 ?_ ?_ (FU_big (by decide)) ?_).mono ?_
        · rintro k ⟨b, l, kk, hh⟩ hk ⟨f1, f2, f3, f4⟩
          dsimp only at f1 f2 f3 f4 ⊢
          subst f2
          have k1 : i_add ((k + 1 : Nat) : Int) 1 = ((k + 1 + 1 : Nat) : Int) := i1 (by clear e48 v0 v2 v48 v23 f1; omega)
          have k2 : i_add (k : Int) 1 = ((k + 1 : Nat) : Int) := i1 (by clear e48 v0 v2 v48 v23 f1 k1; omega)
          have x23 : hh 23 (D.hc j) = i_add (ht (D.hc j)) (i_add 2 (k : Int)) := by rw [f4.2.2.2.2.1 _ hcj, lay_house W hj, up_s]
          have em := Bs (k + 1) (by clear e48 v0 v2 v48 v23 f1 k1 k2; omega)
          rw [← f1] at em
          dsimp only at em
          unfold fX5_shade_l78
          rw [k1, c_raiseN (by clear e48 v0 v2 v48 v23 f1 k1 k2 em x23; omega), x23]
          refine w_f (by clear e48 v0 v2 v48 v23 f1 k1 k2 em x23; omega) ?_
          rw [wp_bd, wp_some, wp_bd]
          have K1 : CS D ht (lay D ht (up ro (48 + j) ((k + 1 : Nat) : Int))) ro (fogY D (ro 61)) L (st hh 23 (D.hc j) (i_add (i_add (ht (D.hc j)) (i_add 2 (k : Int))) 1)) := f4.stand (fun c hc => by
            rw [lay_barn W hj, lay_barn W hj]
            by_cases q : c = D.hc j
            · rw [if_pos q, if_pos q, q, ia_assoc, ia_assoc, k2]
            · rw [if_neg q, if_neg q, if_neg q])
          refine (c_taxOf W K1 hi R.2.2.1).mono ?_
          rintro ⟨u, h28⟩ ⟨u1, u2⟩
          dsimp only at u1 u2 ⊢
          rw [hf'] at u1
          subst u1
          have s9 : Same SC h10 h28 := (f3.st ⟨by decide, by decide⟩).tr (u2.mono (fun a k p => by unfold SL at p; unfold SC; clear e48 v0 v2 v48 v23 f1 k1 k2 em x23; omega))
          by_cases q : f (k + 1) < l
          · exact w_f (Int.not_le.mpr q) (wp_some.mpr ⟨by rw [em, if_pos q], rfl, s9, K1.same u2⟩)
          · exact w_t (Int.not_lt.mp q) (wp_some.mpr ⟨by rw [em, if_neg q], rfl, s9, K1.same u2⟩)
        · rintro ⟨b, l, kk, hh⟩ ⟨f1, f2, f3, f4⟩
          dsimp only at f1 f2 f3 f4 ⊢
          subst f2
          unfold fX5_shade_l78
          exact w_t (by decide) (wp_some.mpr ⟨by rw [← f1], f3⟩)
        · exact ⟨B1.symm, rfl, t0, K0.same w2⟩
        · rintro ⟨b, h34⟩ ⟨b1, b2⟩
          dsimp only at b1 b2 ⊢
          rw [wp_some, b1]
          exact q_ok I0 ((SC_X r2).tr (SC_X b2)) hm
    · refine nh_fail LBh.1 LBh.2.1 LBh.2.2.1 hy ?_
      exact no_house2 I0 C hx hy (fun h' => rfl) rfl
  · refine nh_fail LBh.1 LBh.2.1 LBh.2.2.1 hx ?_
    exact no_house I0 C hx (fun h' => rfl) rfl
