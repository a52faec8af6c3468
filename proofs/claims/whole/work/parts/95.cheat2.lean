/-! pure part: cheat, the question -/
theorem c_cheatC {D : LD} {ht ro : Nat → Int} {L nr c : Nat} {rh : Nat → Nat} {rm : Nat → Int} {ov a b : Int} {h0 h : Hp} {Z : (Int × Int × Int × Hp) ⊕ (Int × Hp) → Prop} (C : Core D ht ro L nr rh rm h0) (s0 : Same SX h0 h) (H : CS D ht (lay D ht ro) ro (fogY D (ro 61)) L h) (hc : c < D.cl) (hb : b ≤ cntB (lvC D ht ro rh rm nr))
    (ho : ∀ j, bt ov j = true ↔ ∃ i, i < D.nh ∧ bt (lvC D ht ro rh rm nr) i = true ∧ bt (ways D ro (fogY D (ro 61)) i) j = true)
    (k : ∀ a' b' h', (b', a') = (if hIn D (c : Int) = -1 then chI (fun v => cntB (lvC D (up ht c v) ro rh rm nr)) (ht c) c (b, a) 10 else (b, a)) → Same SC h h' → CS D ht (lay D ht ro) ro (fogY D (ro 61)) L h' → Z (.inl (b', a', ((c + 1 : Nat) : Int), h'))) : wp (fX5_cheat_l33 ov b a (c : Int) h) Z := by
  have W := C.1
  have hn6 := W.2.2.1
  have hL := C.2.2.2.1.1
  have hc64 : D.cl ≤ 64 := cl64 W.1.2 W.2.1.2
  have gc : (0 : Int) ≤ (c : Int) ∧ (c : Int) < 64 := ⟨by omega, by omega⟩
  have hr : ∀ k, k < nr → rh k < D.nh := fun k hk => (C.2.2.2.2.1.2.2 k hk).1
  have h6 : ∀ k, k < nr → rh k < 6 := fun k hk => by have := hr k hk; omega
  have v0 : h 0 0 = (L : Int) := (C.same s0).2.2.2.1.2.1
  have w22 : h 22 c = ht c := H.2.2.2.1 c hc
  have c1 : i_add (c : Int) 1 = ((c + 1 : Nat) : Int) := i1 (by clear v0 w22; omega)
  have u0 : up ht c (ht c) = ht := up_same
  have fin : ∀ (a' b' : Int) (h39 : Hp), (b', a') = (if hIn D (c : Int) = -1 then chI (fun v => cntB (lvC D (up ht c v) ro rh rm nr)) (ht c) c (b, a) 10 else (b, a)) → Same SC h h39 → (∃ w, CS D (up ht c w) (lay D (up ht c w) ro) ro (fogY D (ro 61)) L h39) → wp (fX5_cheat_j155 ov b' a' (c : Int) (ht c) h39) Z := fun a' b' h39 e s ⟨w, K⟩ => by
    unfold fX5_cheat_j155
    rw [c_reshape (by clear v0 w22 c1; omega), wp_bd, wp_some, wp_some, c1]
    have K1 := K.hts (v := ht c) hc
    rw [show up (up ht c w) c (ht c) = up ht c (ht c) from upF, u0] at K1
    exact k a' b' _ e ((s.st ⟨by decide, by decide⟩).st ⟨by decide, by decide⟩) K1
  have K0 : CS D (up ht c (ht c)) (lay D (up ht c (ht c)) ro) ro (fogY D (ro 61)) L h := by rw [u0]; exact H
  have skip : (hIn D (c : Int) = -1 → bt ov c ≠ true) → wp (fX5_cheat_j71 ov b a (c : Int) h) Z := fun q => by
    unfold fX5_cheat_j71 fX5_cheat_j72
    rw [gd_y gc, Int.toNat_natCast, w22, wp_lb, wp_bp]
    refine (wp_for (Q := fun r : Int × Int × Hp => r = (b, a, h)) (fun _ (s : Int × Int × Int × Hp) => s = (b, a, 0, h)) 0 (fun k s hk _ => absurd hk (Nat.not_lt_zero k)) ?_ (FU_big (by decide)) rfl).mono ?_
    · rintro s rfl
      dsimp only
      unfold fX5_cheat_l89
      exact w_f (by decide) (w_t rfl (wp_some.mpr rfl))
    · rintro r rfl
      dsimp only
      refine fin a b h ?_ Same.rf ⟨_, K0⟩
      by_cases qh : hIn D (c : Int) = -1
      · rw [if_pos qh, chI_id (fun v => ?_)]
        exact Int.le_trans hb (far_le W hr ho qh (q qh))
      · rw [if_neg qh]
  unfold fX5_cheat_l33
  rw [gd_y (by rw [v0]; clear v0 w22 c1; omega), v0, c_cells W hL H.2.2.1, wp_bp, wp_some]
  refine w_f (by clear v0 w22 c1; omega) ?_
  rw [hasBit_eq (by clear v0 w22 c1; omega), wp_bp, wp_some]
  by_cases qb : bt ov c = true
  · rw [if_pos qb]
    refine w_f (by decide) ?_
    rw [c_houseIn W hL H.2.2.1, wp_bp, wp_some]
    by_cases qh : hIn D (c : Int) = -1
    · refine w_t qh ?_
      unfold fX5_cheat_j72
      rw [gd_y gc, Int.toNat_natCast, w22, wp_lb, wp_bp]
      rw [if_pos qh] at fin
      have Gle := fun k => chI_le (cn := fun v => cntB (lvC D (up ht c v) ro rh rm nr)) (hv := ht c) (c := c) (s := (b, a)) k
      generalize hG : chI (fun v => cntB (lvC D (up ht c v) ro rh rm nr)) (ht c) c (b, a) = G at fin Gle
      have G0 : G 0 = (b, a) := by rw [← hG]; rfl
      have Gs : ∀ k, G (k + 1) = if (k : Int) = ht c then G k else if cntB (lvC D (up ht c (k : Int)) ro rh rm nr) < (G k).1 then (cntB (lvC D (up ht c (k : Int)) ro rh rm nr), i_add (i_mul 10 (c : Int)) (k : Int)) else G k := fun k => by rw [← hG]; exact chI_s
      have Gt : ∀ k, G (k + 1) = if cntB (lvC D (up ht c (k : Int)) ro rh rm nr) < (G k).1 then (cntB (lvC D (up ht c (k : Int)) ro rh rm nr), i_add (i_mul 10 (c : Int)) (k : Int)) else G k := fun k => by
        rw [Gs]
        by_cases q : (k : Int) = ht c
        · rw [if_pos q, q, u0, if_neg (Int.not_lt.mpr (Int.le_trans (Gle k) hb))]
        · rw [if_neg q]
      refine (wp_for (Q := fun r : Int × Int × Hp => (r.1, r.2.1) = G 10 ∧ Same SC h r.2.2 ∧ ∃ w, CS D (up ht c w) (lay D (up ht c w) ro) ro (fogY D (ro 61)) L r.2.2) (fun k (s : Int × Int × Int × Hp) => (s.1, s.2.1) = G k ∧ s.2.2.1 = (k : Int) ∧ Same SC h s.2.2.2 ∧ ∃ w, CS D (up ht c w) (lay D (up ht c w) ro) ro (fogY D (ro 61)) L s.2.2.2) 10 ?_ ?_ (FU_big (by decide)) ⟨G0.symm, rfl, Same.rf, _, K0⟩).mono ?_
      · rintro k ⟨b', a', kk, hh⟩ hk ⟨f1, f2, f3, w, f4⟩
        dsimp only at f1 f2 f3 f4 ⊢
        subst f2
        have k1 : i_add (k : Int) 1 = ((k + 1 : Nat) : Int) := i1 (by clear f1 v0 w22 c1 G0; omega)
        have em := Gt k
        rw [← f1] at em
        dsimp only at em
        unfold fX5_cheat_l89
        rw [k1, c_reshape (by clear f1 v0 w22 c1 G0 k1 em; omega)]
        refine w_f (by clear f1 v0 w22 c1 G0 k1 em; omega) (w_f (by decide) ?_)
        rw [wp_bd, wp_some, wp_bd]
        have K1 := f4.hts (v := (k : Int)) hc
        rw [show up (up ht c w) c (k : Int) = up ht c (k : Int) from upF] at K1
        have t1 : Same SC h (st (st hh 23 c (i_add (hh 23 c) (i_sub (k : Int) (hh 22 c)))) 22 c (k : Int)) := (f3.st ⟨by decide, by decide⟩).st ⟨by decide, by decide⟩
        refine (c_lie W K1 (C.same (s0.tr (SC_X t1))).2.2.2.2.1).mono ?_
        rintro ⟨u, h29⟩ ⟨u1, u2⟩
        dsimp only at u1 u2 ⊢
        have u1' : u = lvC D (up ht c (k : Int)) ro rh rm nr := u1
        obtain ⟨v, e, hv⟩ := lies_64 (m := fun i => (vw D (up ht c (k : Int)) (lay D (up ht c (k : Int)) ro) ro (fogY D (ro 61)) i).1) (rm := rm) nr h6
        have e' : lvC D (up ht c (k : Int)) ro rh rm nr = (v : Int) := e
        rw [e'] at em u1'
        rw [u1', bitCount_eq hv, wp_bp, wp_some]
        have s9 : Same SC h h29 := t1.tr (u2.mono (fun a k p => by unfold SL at p; unfold SC; clear f1 v0 w22 c1 G0 k1 em e e' u1 u1'; omega))
        by_cases q : cntB (v : Int) < b'
        · rw [if_pos q] at em
          refine w_f (Int.not_le.mpr q) ?_
          rw [wp_lb, wp_some]
          exact ⟨em.symm, rfl, s9, _, K1.same u2⟩
        · rw [if_neg q] at em
          exact w_t (Int.not_lt.mp q) (wp_some.mpr ⟨em.symm, rfl, s9, _, K1.same u2⟩)
      · rintro ⟨b', a', kk, hh⟩ ⟨f1, f2, f3, f4⟩
        dsimp only at f1 f2 f3 f4 ⊢
        subst f2
        unfold fX5_cheat_l89
        exact w_t (by decide) (wp_some.mpr ⟨f1, f3, f4⟩)
      · rintro ⟨b', a', h39⟩ ⟨f1, f3, f4⟩
        dsimp only at f1 f3 f4 ⊢
        exact fin a' b' h39 f1 f3 f4
    · exact w_f qh (skip (fun z => absurd z qh))
  · rw [if_neg qb]
    exact w_t rfl (skip (fun _ => qb))
theorem s_cheat {κ : Int} {h : Hp} (I : Inv κ h) : wp (fX5_cheat h) (PN κ fX6_cheat) := by
  have I0 := I
  obtain ⟨D, ht, ro, L, nr, rh, rm, na, P, C, -, Q, M, -⟩ := I
  have LBh := C.2.2.2.1
  have W := C.1
  have hn6 := W.2.2.1
  have hL := LBh.1
  have hc64 : D.cl ≤ 64 := cl64 W.1.2 W.2.1.2
  have hr : ∀ k, k < nr → rh k < D.nh := fun k hk => (C.2.2.2.2.1.2.2 k hk).1
  have h6 : ∀ k, k < nr → rh k < 6 := fun k hk => by have := hr k hk; omega
  obtain ⟨lv, le, hlv⟩ := lies_64 (m := fun i => (vw D ht (lay D ht ro) ro (fogY D (ro 61)) i).1) (rm := rm) nr h6
  have le' : lvC D ht ro rh rm nr = (lv : Int) := le
  have Ole := fun c => chO_le (D := D) (ht := ht) (cn := fun c v => cntB (lvC D (up ht c v) ro rh rm nr)) (N0 := cntB (lvC D ht ro rh rm nr)) c
  generalize hO : chO D ht (fun c v => cntB (lvC D (up ht c v) ro rh rm nr)) (cntB (lvC D ht ro rh rm nr)) = O at Ole
  have O0 : O 0 = (cntB (lvC D ht ro rh rm nr), -1) := by rw [← hO]; rfl
  have Os : ∀ c, O (c + 1) = if hIn D (c : Int) = -1 then chI (fun v => cntB (lvC D (up ht c v) ro rh rm nr)) (ht c) c (O c) 10 else O c := fun c => by rw [← hO]; exact chO_s
  have hm : ∀ h', Same SX h h' → wp (fX6_cheat h') (fun q => q.1 = (O D.cl).2 ∧ Same SXm h' q.2) := by
    intro h' s
    obtain ⟨C0, z0, s1, s2⟩ := C.z s
    unfold fX6_cheat
    rw [wp_lb]
    generalize st h' 35 0 0 = h1 at *
    rw [wp_bd]
    refine (m_liarsNow W C0.2.2.1 C0.ms C0.2.2.2.2.2.2.2.2.2.2.1 C0.2.2.2.2.2.2.2.2.2.2.2 C0.2.2.2.2.2.2.2.2.1).mono ?_
    rintro ⟨u, h4⟩ ⟨u1, u2⟩
    dsimp only at u1 u2 ⊢
    have u1' : u = (lv : Int) := u1.trans le
    rw [u1', m_bits hlv, wp_bp, wp_some, wp_bp]
    refine (wp_for (Q := fun r : Int × Hp => r.1 = (O D.cl).2 ∧ Same SN h1 r.2) (fun k (s : Int × Int × Int × Hp) => (s.2.1, s.1) = O k ∧ s.2.2.1 = (k : Int) ∧ Same SN h1 s.2.2.2) D.cl ?_ ?_ (FU_big (by clear z0; omega)) ⟨by rw [O0, le'], rfl, u2⟩).mono ?_
    · rintro c ⟨a, b, kk, hh⟩ hc ⟨f1, f2, f3⟩
      dsimp only at f1 f2 f3 ⊢
      subst f2
      have c1 : i_add (c : Int) 1 = ((c + 1 : Nat) : Int) := i1 (by clear f1 z0 O0; omega)
      have C' := C0.same (SXm_X (SN_m f3))
      have w36 : hh 36 c = ht c := C'.2.2.2.2.2.2.1 c hc
      unfold fX6_cheat_l17
      rw [c1, m_cells W C'.2.2.2.2.2.1, wp_bp, wp_some]
      refine w_f (by clear f1 z0 O0 c1 w36; omega) ?_
      rw [gd_y ⟨by clear f1 z0 O0 c1 w36; omega, by clear f1 z0 O0 c1 w36; omega⟩, Int.toNat_natCast, w36, wp_lb, wp_bp]
      refine (m_cheatI C' hc).mono ?_
      rintro ⟨a', b', h34⟩ ⟨g1, g2⟩
      dsimp only at g1 g2 ⊢
      rw [wp_some]
      refine ⟨?_, rfl, f3.tr g2⟩
      show (b', a') = O (c + 1)
      rw [g1, Os, ← f1]
    · rintro ⟨a, b, kk, hh⟩ ⟨f1, f2, f3⟩
      dsimp only at f1 f2 f3 ⊢
      subst f2
      have C' := C0.same (SXm_X (SN_m f3))
      unfold fX6_cheat_l17
      rw [m_cells W C'.2.2.2.2.2.1, wp_bp, wp_some]
      exact w_t (Int.le_refl _) (wp_some.mpr ⟨by rw [← f1], f3⟩)
    · rintro ⟨a, h38⟩ ⟨f1, f3⟩
      dsimp only at f1 f3 ⊢
      rw [wp_some]
      exact ⟨f1, s1.tr (SN_m f3)⟩
  unfold fX5_cheat
  rw [wp_bd]
  refine C.present.mono ?_
  rintro ⟨r, h3⟩ ⟨r1, r2, r3⟩
  dsimp only at r1 r2 r3 ⊢
  rw [gd20 r1, wp_bd]
  refine (c_lie W r3 (C.same (SC_X r2)).2.2.2.2.1).mono ?_
  rintro ⟨u, h7⟩ ⟨u1, u2⟩
  dsimp only at u1 u2 ⊢
  have u1' : u = (lv : Int) := u1.trans le
  rw [wp_bd]
  refine (c_overs W (r3.same u2)).mono ?_
  rintro ⟨ov, h10⟩ ⟨o1, o2⟩
  dsimp only at o1 o2 ⊢
  rw [u1', ← le'] at o1
  rw [u1', bitCount_eq hlv, wp_bp, wp_some, wp_bp]
  have s10 : Same SX h h10 := ((SC_X r2).tr (SL_X u2)).tr (SL_X o2)
  have k10 := (r3.same u2).same o2
  refine (wp_for (Q := fun r : Int × Hp => r.1 = (O D.cl).2 ∧ Same SX h r.2) (fun k (s : Int × Int × Int × Hp) => (s.1, s.2.1) = O k ∧ s.2.2.1 = (k : Int) ∧ Same SX h s.2.2.2 ∧ CS D ht (lay D ht ro) ro (fogY D (ro 61)) L s.2.2.2) D.cl ?_ ?_ (FU_big (by omega)) ⟨by rw [O0, le'], rfl, s10, k10⟩).mono ?_
  · rintro c ⟨b, a, kk, hh⟩ hc ⟨f1, f2, f3, f4⟩
    dsimp only at f1 f2 f3 f4 ⊢
    subst f2
    have ol := Ole c
    rw [← f1] at ol
    refine c_cheatC C f3 f4 hc ol o1 (fun a' b' h' e s' K => ?_)
    refine ⟨?_, rfl, f3.tr (SC_X s'), K⟩
    show (b', a') = O (c + 1)
    rw [e, Os, ← f1]
  · rintro ⟨b, a, kk, hh⟩ ⟨f1, f2, f3, f4⟩
    dsimp only at f1 f2 f3 f4 ⊢
    subst f2
    have v0 : hh 0 0 = (L : Int) := (C.same f3).2.2.2.1.2.1
    unfold fX5_cheat_l33
    rw [gd_y (by rw [v0]; clear f1 v0; omega), v0, c_cells W hL f4.2.2.1, wp_bp, wp_some]
    exact w_t (Int.le_refl _) (wp_some.mpr ⟨by rw [← f1], f3⟩)
  · rintro ⟨a, h49⟩ ⟨f1, f3⟩
    dsimp only at f1 f3 ⊢
    rw [wp_some, f1]
    exact q_n I0 f3 hm
