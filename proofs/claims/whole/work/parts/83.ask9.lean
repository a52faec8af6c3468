/-! pure part: heights -/
theorem sameAt {P : Nat → Nat → Prop} {h hA hB : Hp} {a m : Nat} (s1 : Same P h hA) (s2 : Same (fun x k => P x k ∨ (x = a ∧ k = m)) hA hB) : Same P h (st hB a m (h a m)) := by
  intro x k n
  by_cases e : x = a ∧ k = m
  · obtain ⟨rfl, rfl⟩ := e
    rw [st_self]
  · have e1 : st hB a m (h a m) x k = hB x k := if_neg e
    rw [e1, s2 x k (fun z => z.elim n e), s1 x k n]
theorem RM.cg {D : LD} {n : Nat} {rh : Nat → Nat} {rm : Nat → Int} {h h' : Hp} (Q : RM D n rh rm h) (s : ∀ k, h' 64 k = h 64 k) (t : h' 35 65 = h 35 65) : RM D n rh rm h' := by
  obtain ⟨q1, q2, q3⟩ := Q
  exact ⟨q1, by rw [t]; exact q2, fun i hi => ⟨(q3 i hi).1, by rw [s]; exact (q3 i hi).2.1, by rw [s]; exact (q3 i hi).2.2⟩⟩
theorem lay_ht {D : LD} {ht ro : Nat → Int} {c c' : Nat} {v : Int} : lay D (up ht c v) ro c' = if c' = c then i_add (lay D ht ro c') (i_sub v (ht c')) else lay D ht ro c' := by
  by_cases q : c' = c
  · subst q
    rw [if_pos rfl]
    unfold lay
    rw [ia_shift, up_s]
  · rw [if_neg q]
    unfold lay
    rw [up_n q]
theorem MS.hts {D : LD} {ht sd ro : Nat → Int} {fog c : Nat} {h : Hp} {v : Int} (H : MS D ht sd ro fog h) : MS D (up ht c v) sd ro fog (st h 36 c v) := by
  obtain ⟨a1, a2, a3, a4, a5, a6, a7⟩ := H
  refine ⟨a1.same (fun a k p => st_na (by omega)), fun c' hc => ?_, fun c hc => by rw [st_na (by decide)]; exact a3 c hc, a4.same (fun k => st_na (by decide)), by rw [st_na (by decide)]; exact a5, a6, a7⟩
  rw [st_up]
  by_cases q : c' = c
  · rw [q, up_s, up_s]
  · rw [up_n q, up_n q]; exact a2 c' hc
theorem c_reshape {c : Nat} {v : Int} {h : Hp} (hc : c < 64) : fX3_reshape (c : Int) v h = some (0, st (st h 23 c (i_add (h 23 c) (i_sub v (h 22 c)))) 22 c v) := by
  unfold fX3_reshape
  rw [gd_y ⟨by omega, by omega⟩, c_raiseN hc, Int.toNat_natCast]
  show gd_ (0 ≤ (c : Int) ∧ (c : Int) < 64) _ = _
  rw [gd_y ⟨by omega, by omega⟩]
  rfl
theorem CS.hts {D : LD} {ht ro : Nat → Int} {fog L c : Nat} {h : Hp} {v : Int} (H : CS D ht (lay D ht ro) ro fog L h) (hc : c < D.cl) : CS D (up ht c v) (lay D (up ht c v) ro) ro fog L (st (st h 23 c (i_add (h 23 c) (i_sub v (h 22 c)))) 22 c v) := by
  obtain ⟨hL, a1, a2, a3, a4, a5, a6, a7⟩ := H
  refine ⟨hL, by rw [st_na (by decide), st_na (by decide)]; exact a1, a2.same (fun a k q1 q2 => by rw [st_na (by omega), st_na (by omega)]), fun c' hc' => ?_, fun c' hc' => ?_, a5.same (fun k => by rw [st_na (by decide), st_na (by decide)]), by rw [st_na (by decide), st_na (by decide)]; exact a6, a7⟩
  · rw [st_up]
    by_cases q : c' = c
    · rw [q, up_s, up_s]
    · rw [up_n q, up_n q, st_na (by decide)]; exact a3 c' hc'
  · rw [st_na (by decide), st_up, lay_ht]
    by_cases q : c' = c
    · rw [q, up_s, if_pos rfl, a4 c hc, a3 c hc]
    · rw [up_n q, if_neg q]; exact a4 c' hc'
def hBst (p : Nat → Bool) : Nat → Int × Int
  | 0 => (0, -1)
  | k + 1 => if p k = true then ((hBst p k).1 + 1, 9 - (k : Int)) else hBst p k
theorem hBst_le {p : Nat → Bool} : ∀ k, 0 ≤ (hBst p k).1 ∧ (hBst p k).1 ≤ (k : Int)
  | 0 => ⟨Int.le_refl 0, Int.le_refl 0⟩
  | k + 1 => by
    have ih := hBst_le (p := p) k
    show 0 ≤ (if p k = true then ((hBst p k).1 + 1, 9 - (k : Int)) else hBst p k).1 ∧ (if p k = true then ((hBst p k).1 + 1, 9 - (k : Int)) else hBst p k).1 ≤ _
    by_cases q : p k = true
    · rw [if_pos q]; exact ⟨by show 0 ≤ _ + 1; omega, by show _ + 1 ≤ ((k + 1 : Nat) : Int); omega⟩
    · rw [if_neg q]; exact ⟨ih.1, by omega⟩
def S36 (m : Nat) : Nat → Nat → Prop := fun a k => SXm a k ∨ (a = 36 ∧ k = m)
theorem s_heights {κ : Int} {x y : Int} {h : Hp} (I : Inv κ h) : wp (fX5_heights x y h) (PT κ (fX6_heights x y) (fun _ => 1)) := by
  have I0 := I
  obtain ⟨D, ht, ro, L, nr, rh, rm, na, P, C, -, Q, M, -⟩ := I
  have LBh := C.2.2.2.1
  have W := C.1
  have R := C.2.2.1
  have hn6 := W.2.2.1
  have hc64 : D.cl ≤ 64 := cl64 W.1.2 W.2.1.2
  unfold fX5_heights
  by_cases hx : 0 ≤ x ∧ x < (D.cl : Int)
  · refine nc_pass W LBh.1 LBh.2.1 LBh.2.2.1 hx ?_
    by_cases hy : 0 ≤ y ∧ y ≤ 1
    · refine nw_pass hy ?_
      obtain ⟨c, rfl⟩ : ∃ c : Nat, x = (c : Int) := ⟨x.toNat, by omega⟩
      have hc : c < D.cl := by omega
      have gc : (0 : Int) ≤ (c : Int) ∧ (c : Int) < 64 := by omega
      generalize hg : (fun v : Int => lies (fun i => (vw D (up ht c v) (lay D (up ht c v) ro) ro (fogY D (ro 61)) i).1) rh rm nr) = g
      have hg' : ∀ v : Int, lies (fun i => (vw D (up ht c v) (lay D (up ht c v) ro) ro (fogY D (ro 61)) i).1) rh rm nr = g v := fun v => by rw [← hg]
      have u0 : up ht c (ht c) = ht := up_same
      generalize hB : hBst (fun k => decide (g (9 - (k : Int)) = 0)) = B
      have Bs : ∀ k : Nat, B (k + 1) = if g (9 - (k : Int)) = 0 then ((B k).1 + 1, 9 - (k : Int)) else B k := fun k => by
        rw [← hB]
        show (if decide _ = true then _ else _) = _
        by_cases q : g (9 - (k : Int)) = 0
        · rw [if_pos q, if_pos (by simpa using q)]
        · rw [if_neg q, if_neg (by simpa using q)]
      have Bl : ∀ k, 0 ≤ (B k).1 ∧ (B k).1 ≤ (k : Int) := fun k => by rw [← hB]; exact hBst_le k
      have B0 : B 0 = (0, -1) := by rw [← hB]; rfl
      have hm : ∀ h', Same SX h h' → wp (fX6_heights (c : Int) y h') (fun q => q.1 = (if y = 0 then (B 10).1 else (B 10).2) ∧ q.2 35 0 = 0 ∧ Same SXm h' q.2) := by
        intro h' s
        obtain ⟨C0, z0, s1, s2⟩ := C.z s
        unfold fX6_heights
        refine mc_pass W C0.2.2.2.2.2.1 z0 hx (w_f n10 (mw_pass z0 hy (w_f n10 ?_)))
        generalize st h' 35 0 0 = h0 at *
        have z52 : h0 35 52 = -1 := C0.2.2.2.2.2.2.2.2.2.2.1
        have z53 : h0 35 53 = -1 := C0.2.2.2.2.2.2.2.2.2.2.2
        have w36 : h0 36 c = ht c := C0.2.2.2.2.2.2.1 c hc
        rw [gd_y gc, Int.toNat_natCast, w36, wp_lb, wp_bp]
        have q3' : MS D (up ht c (ht c)) (h0 57) ro (fogY D (ro 61)) h0 := by rw [u0]; exact C0.ms
        refine (wp_for (Q := fun r : Int × Int × Hp => (r.1, r.2.1) = B 10 ∧ Same (fun a k => SN a k ∨ (a = 36 ∧ k = c)) h0 r.2.2) (fun k (s : Int × Int × Int × Hp) => (s.1, s.2.1) = B k ∧ s.2.2.1 = 9 - (k : Int) ∧ Same (fun a k => SN a k ∨ (a = 36 ∧ k = c)) h0 s.2.2.2 ∧ ∃ w sd, MS D (up ht c w) sd ro (fogY D (ro 61)) s.2.2.2) 10 ?_ ?_ (FU_big (by decide)) ?_).mono ?_
        · rintro k ⟨b, l, kk, hh⟩ hk ⟨f1, f2, f3, w, sd, f4⟩
          dsimp only at f1 f2 f3 f4 ⊢
          subst f2
          have bl := Bl k
          have em := Bs k
          rw [← f1] at bl em
          dsimp only at bl em
          have k1 : i_add (9 - (k : Int)) (-1) = 9 - ((k + 1 : Nat) : Int) := by rw [ia (by clear em f1; omega) (by clear em f1; omega)]; clear em f1; omega
          have b1 : i_add b 1 = b + 1 := ia (by clear em f1 k1; omega) (by clear em f1 k1; omega)
          unfold fX6_heights_l41
          rw [k1, b1]
          refine w_f (by clear em f1 k1 b1; omega) ?_
          rw [gd_y gc, Int.toNat_natCast, wp_lb, wp_bd]
          have M0 : MS D (up ht c (9 - (k : Int))) sd ro (fogY D (ro 61)) (st hh 36 c (9 - (k : Int))) := by
            have := f4.hts (c := c) (v := 9 - (k : Int))
            rw [show up (up ht c w) c (9 - (k : Int)) = up ht c (9 - (k : Int)) from upF] at this
            exact this
          have t1 : Same (fun a k => SN a k ∨ (a = 36 ∧ k = c)) h0 (st hh 36 c (9 - (k : Int))) := f3.st (Or.inr ⟨rfl, rfl⟩)
          refine (m_liarsNow W R M0 (by rw [t1 _ _ (by unfold SN; clear em f1 k1 b1; omega)]; exact z52) (by rw [t1 _ _ (by unfold SN; clear em f1 k1 b1; omega)]; exact z53) (C0.2.2.2.2.2.2.2.2.1.cg (fun k => t1 _ _ (by unfold SN; clear em f1 k1 b1; omega)) (t1 _ _ (by unfold SN; clear em f1 k1 b1; omega)))).mono ?_
          rintro ⟨u, h17⟩ ⟨u1, u2⟩
          dsimp only at u1 u2 ⊢
          rw [hg'] at u1
          subst u1
          have s9 : Same (fun a k => SN a k ∨ (a = 36 ∧ k = c)) h0 h17 := t1.tr (u2.mono (fun _ _ p => Or.inl p))
          by_cases q : g (9 - (k : Int)) = 0
          · exact w_t q (wp_some.mpr ⟨by rw [em, if_pos q], rfl, s9, _, _, M0.sn u2⟩)
          · exact w_f q (wp_some.mpr ⟨by rw [em, if_neg q], rfl, s9, _, _, M0.sn u2⟩)
        · rintro ⟨b, l, kk, hh⟩ ⟨f1, f2, f3, f4⟩
          dsimp only at f1 f2 f3 f4 ⊢
          subst f2
          unfold fX6_heights_l41
          exact w_t (by decide) (wp_some.mpr ⟨f1, f3⟩)
        · exact ⟨B0.symm, rfl, Same.rf, ht c, _, q3'⟩
        · rintro ⟨b, l, h25⟩ ⟨b1, b2⟩
          dsimp only at b1 b2 ⊢
          have e5 : ht c = h' 36 c := by rw [← w36, s1 _ _ (by unfold SXm; clear w36 z0 b1; omega)]
          have y0 : st h25 36 c (ht c) 35 0 = 0 := by
            rw [st_na (by decide), b2 _ _ (by unfold SN; clear w36 z0 b1 e5; omega)]
            exact z0
          have y1 : Same SXm h' (st h25 36 c (ht c)) := by
            rw [e5]
            exact sameAt s1 (b2.mono (fun a k p => p.imp (fun p => by unfold SN at p; unfold SXm; clear w36 z0 b1 e5 y0; omega) id))
          rw [gd_y gc, wp_lb, ← b1]
          by_cases q : y = 0
          · exact w_t q (wp_some.mpr ⟨by rw [if_pos q], y0, y1⟩)
          · exact w_f q (wp_some.mpr ⟨by rw [if_neg q], y0, y1⟩)
      unfold fX5_heights_j10
      rw [wp_mi, wp_bd]
      refine C.present.mono ?_
      rintro ⟨r, h9⟩ ⟨r1, r2, r3⟩
      dsimp only at r1 r2 r3 ⊢
      rw [gd20 r1, wp_bp]
      have r3' : CS D (up ht c (ht c)) (lay D (up ht c (ht c)) ro) ro (fogY D (ro 61)) L h9 := by rw [u0]; exact r3
      refine (wp_for (Q := fun r : Int × Int × Hp => (r.1, r.2.1) = B 10 ∧ Same SC h9 r.2.2) (fun k (s : Int × Int × Int × Hp) => (s.1, s.2.1) = B k ∧ s.2.2.1 = 9 - (k : Int) ∧ Same SC h9 s.2.2.2 ∧ ∃ w, CS D (up ht c w) (lay D (up ht c w) ro) ro (fogY D (ro 61)) L s.2.2.2) 10 ?_ ?_ (FU_big (by decide)) ?_).mono ?_
      · rintro k ⟨b, l, kk, hh⟩ hk ⟨f1, f2, f3, w, f4⟩
        dsimp only at f1 f2 f3 f4 ⊢
        subst f2
        have bl := Bl k
        have em := Bs k
        rw [← f1] at bl em
        dsimp only at bl em
        have k1 : i_add (9 - (k : Int)) (-1) = 9 - ((k + 1 : Nat) : Int) := by rw [ia (by clear em f1; omega) (by clear em f1; omega)]; clear em f1; omega
        have b1 : i_add b 1 = b + 1 := ia (by clear em f1 k1; omega) (by clear em f1 k1; omega)
        unfold fX5_heights_l24
        rw [k1, b1, c_reshape (by clear em f1 k1 b1; omega)]
        refine w_f (by clear em f1 k1 b1; omega) ?_
        rw [wp_bd, wp_some, wp_bd]
        have K1 := f4.hts (v := 9 - (k : Int)) hc
        rw [show up (up ht c w) c (9 - (k : Int)) = up ht c (9 - (k : Int)) from upF] at K1
        have t1 : Same SC h9 (st (st hh 23 c (i_add (hh 23 c) (i_sub (9 - (k : Int)) (hh 22 c)))) 22 c (9 - (k : Int))) := (f3.st ⟨by decide, by decide⟩).st ⟨by decide, by decide⟩
        refine (c_lie W K1 (C.same (SC_X (r2.tr t1))).2.2.2.2.1).mono ?_
        rintro ⟨u, h17⟩ ⟨u1, u2⟩
        dsimp only at u1 u2 ⊢
        rw [hg'] at u1
        subst u1
        have s9 : Same SC h9 h17 := t1.tr (u2.mono (fun a k p => by unfold SL at p; unfold SC; clear em f1 k1 b1; omega))
        by_cases q : g (9 - (k : Int)) = 0
        · exact w_t q (wp_some.mpr ⟨by rw [em, if_pos q], rfl, s9, _, K1.same u2⟩)
        · exact w_f q (wp_some.mpr ⟨by rw [em, if_neg q], rfl, s9, _, K1.same u2⟩)
      · rintro ⟨b, l, kk, hh⟩ ⟨f1, f2, f3, f4⟩
        dsimp only at f1 f2 f3 f4 ⊢
        subst f2
        unfold fX5_heights_l24
        exact w_t (by decide) (wp_some.mpr ⟨f1, f3⟩)
      · exact ⟨B0.symm, rfl, Same.rf, ht c, r3'⟩
      · rintro ⟨b, l, h25⟩ ⟨b1, b2⟩
        dsimp only at b1 b2 ⊢
        rw [← b1] at hm
        by_cases q : y = 0
        · rw [if_pos q] at hm
          exact w_t q (wp_some.mpr (q_ok I0 ((SC_X r2).tr (SC_X b2)) hm))
        · rw [if_neg q] at hm
          exact w_f q (wp_some.mpr (q_ok I0 ((SC_X r2).tr (SC_X b2)) hm))
    · refine nw_fail hy (q_no I0 Same.rf (fun h' s => ?_))
      obtain ⟨C0, z0, s1, s2⟩ := C.z s
      unfold fX6_heights
      exact mc_pass W C0.2.2.2.2.2.1 z0 hx (w_f n10 (mw_fail z0 hy (w_t rfl (wp_some.mpr (no1 s1)))))
  · refine nc_fail W LBh.1 LBh.2.1 LBh.2.2.1 hx (q_no I0 Same.rf (fun h' s => ?_))
    obtain ⟨C0, z0, s1, s2⟩ := C.z s
    unfold fX6_heights
    exact mc_fail W C0.2.2.2.2.2.1 z0 hx (w_t rfl (wp_some.mpr (no1 s1)))
