/-! pure part: decades, the question -/
theorem dz_s {D : LD} {ht : Nat → Int} {s0 : Int} {ro : Nat → Int} {k : Nat} : dz D ht s0 ro (k + 1) = (nx (nx (dz D ht s0 ro k).1), yrR D ht (dzR (dz D ht s0 ro k).2 (dwv (nx (dz D ht s0 ro k).1) (D.cl : Int))) (fgS (nx (nx (dz D ht s0 ro k).1)))) := by
  rw [dz]
theorem dz_1 {D : LD} {ht : Nat → Int} {s0 : Int} {ro : Nat → Int} {k : Nat} : (dz D ht s0 ro (k + 1)).1 = nx (nx (dz D ht s0 ro k).1) := by
  rw [dz_s]
theorem c_dj92 {D : LD} {Y : Nat} {ht r : Nat → Int} {fog0 L : Nat} {x2 x3 s tot x6 : Int} {h : Hp} {Z : (Int × Int × Int × Hp) ⊕ (Int × Hp) → Prop} (W : DW D) (T : HT D ht) (R : RW D Y r) (hY : Y < 900000) (H : CS D ht (lay D ht r) r fog0 L h)
    (k : ∀ h' s', s' = nx s → Same SC h h' → (∃ f, CS D ht (lay D ht (yrR D ht r (fgS (nx s)))) (yrR D ht r (fgS (nx s))) f L h') → Z (.inl (s', i_add tot (dpaid D ht r (fgS (nx s))), i_add x6 1, h'))) : wp (fX5_decades_j92 x2 x3 s tot x6 h) Z := by
  have e9 : fX5_draw (nx s) 9 h = some (dwv (nx s) 9) := c_draw (n := 9) (by decide)
  have f := fgS_eq (s := nx s)
  unfold fX5_decades_j92
  rw [show fX5_nextSeed s h = some (nx s) from rfl, wp_bp, wp_some, e9, wp_bp, wp_some, wp_lb, f.1, wp_bd]
  refine (c_passYear W T R hY (H.fog f.2)).mono ?_
  rintro ⟨u, h28⟩ ⟨u1, u2, u3⟩
  dsimp only at u1 u2 u3 ⊢
  rw [wp_lb, wp_some, u1]
  exact k h28 (nx s) rfl ((st_same (P := SC) ⟨by decide, by decide⟩).tr u2) ⟨_, u3⟩
theorem m_dj90 {D : LD} {Y : Nat} {ht ro r : Nat → Int} {L nr : Nat} {rh : Nat → Nat} {rm : Nat → Int} {x2 x3 s tot x5 : Int} {h0 h : Hp} {Z : (Int × Int × Hp) ⊕ (Int × Hp) → Prop} (C : Core D ht ro L nr rh rm h0) (R : RW D Y r) (hY : Y < 900000) (H : MD D r s h0 h)
    (k : ∀ h', MD D (yrR D ht r (fgS (nx s))) (nx s) h0 h' → Z (.inl (i_add tot (dpaid D ht r (fgS (nx s))), i_add x5 1, h'))) : wp (fX6_decades_j90 x2 x3 tot x5 h) Z := by
  have e9 : fX6_draw 9 h = some (dwv (nx (h 35 67)) 9, st h 35 67 (nx (h 35 67))) := m_draw (n := 9) (by decide)
  have f := fgS_eq (s := nx s)
  rw [H.2.1] at e9
  unfold fX6_decades_j90
  rw [e9, wp_bd, wp_some]
  dsimp only
  rw [wp_lb, f.1, wp_bd]
  have M2 : MD D r (nx s) h0 (st (st h 35 67 (nx s)) 35 51 (fgS (nx s) : Int)) := ⟨(H.1.st (Or.inr (Or.inl ⟨rfl, Or.inr rfl⟩))).st (Or.inr (Or.inl ⟨rfl, Or.inl rfl⟩)), by rw [st_nk (by decide), st_self], H.2.2.same (fun k => by rw [st_na (by decide), st_na (by decide)])⟩
  obtain ⟨m1, m2, m3⟩ := M2.ms C R hY st_self f.2
  refine (m_yearGoes C.1 R hY m1 m2 m3).mono ?_
  rintro ⟨u, h31⟩ ⟨u1, u2, u3⟩
  dsimp only at u1 u2 u3 ⊢
  rw [wp_lb, wp_some, u1]
  exact k h31 ⟨M2.1.tr (SY_V u2), by rw [u2 _ _ (by unfold SY; omega)]; exact M2.2.1, u3⟩
theorem m_leastP {D : LD} {r : Nat → Int} {x3 y t : Int} {h : Hp} (W : DW D) (hn : h 35 3 = (D.nh : Int)) (Q : RR D r (h 54)) : wp (it_ (fun s : Int × Int => fX6_decades_l134 x3 y t s.1 s.2 h) FU (0, 0)) (fun v => v = lP r D.nh) := by
  have hn6 := W.2.2.1
  refine wp_for (Q := fun v : Int => v = lP r D.nh) (fun k (s : Int × Int) => s.1 = lP r k ∧ s.2 = (k : Int)) D.nh ?_ ?_ (FU_big (by clear hn; omega)) ⟨rfl, rfl⟩
  · rintro k ⟨v, x⟩ hk ⟨f1, f2⟩
    dsimp only at f1 f2 ⊢
    subst f1 f2
    have e36 : i_add 36 (k : Int) = ((36 + k : Nat) : Int) := ik (c := 36) (by clear hn; omega) (by decide)
    have k1 : i_add (k : Int) 1 = ((k + 1 : Nat) : Int) := i1 (by clear hn e36; omega)
    have w36 := (Q.2.2.1 k hk).1
    have g36 : (0 : Int) ≤ ((36 + k : Nat) : Int) ∧ ((36 + k : Nat) : Int) < 62 := by clear hn e36 k1 w36; omega
    have es : lP r (k + 1) = if k = 0 then r 36 else if r (36 + k) < lP r k then r (36 + k) else lP r k := rfl
    have j : fX6_decades_j163 x3 y t (k : Int) h = some (.inl (r (36 + k), ((k + 1 : Nat) : Int))) := by
      unfold fX6_decades_j163
      rw [e36, gd_y g36, Int.toNat_natCast, w36, k1]
      rfl
    unfold fX6_decades_l134
    rw [j, k1, e36]
    refine w_f (by rw [hn]; clear hn e36 k1 w36 es j; omega) ?_
    by_cases q0 : k = 0
    · refine w_t (by rw [q0]; rfl) (wp_some.mpr ⟨?_, rfl⟩)
      show r (36 + k) = lP r (k + 1)
      rw [es, if_pos q0, q0]
    · refine w_f (by clear hn e36 k1 w36 es j; omega) ?_
      rw [if_neg q0] at es
      rw [gd_y g36, Int.toNat_natCast]
      by_cases q1 : r (36 + k) < lP r k
      · rw [if_pos q1] at es
        exact w_f (by rw [w36]; exact Int.not_le.mpr q1) (wp_some.mpr ⟨es.symm, rfl⟩)
      · rw [if_neg q1] at es
        exact w_t (by rw [w36]; exact Int.not_lt.mp q1) (wp_some.mpr ⟨es.symm, rfl⟩)
  · rintro ⟨v, x⟩ ⟨f1, f2⟩
    dsimp only at f1 f2 ⊢
    subst f2
    unfold fX6_decades_l134
    exact w_t (by rw [hn]; exact Int.le_refl _) (wp_some.mpr f1)
theorem s_decades {κ : Int} {x y w : Int} {h : Hp} (I : Inv κ h) : wp (fX5_decades x y w h) (PT κ (fX6_decades x y w) (fun e => if e = 0 then 1 else 2)) := by
  have I0 := I
  obtain ⟨D, ht, ro, L, nr, rh, rm, na, P, C, -, Q, M, -⟩ := I
  have LBh := C.2.2.2.1
  have W := C.1
  have R := C.2.2.1
  have T := C.2.1
  have hL := LBh.1
  have hc64 : D.cl ≤ 64 := cl64 W.1.2 W.2.1.2
  have hc1 : 1 ≤ D.cl := Nat.mul_pos W.1.1 W.2.1.1
  unfold fX5_decades
  by_cases hw : 0 ≤ w ∧ w ≤ 2
  · refine nw_pass hw ?_
    by_cases hy : 0 ≤ y ∧ y ≤ 40
    · refine w_f (by omega) (w_t hy.2 ?_)
      obtain ⟨N, rfl⟩ : ∃ N : Nat, y = (N : Int) := ⟨y.toNat, by omega⟩
      have hN : N ≤ 40 := by omega
      generalize hS : (fun k => (dz D ht x ro k).1) = S
      generalize hR : (fun k => (dz D ht x ro k).2) = Rw
      generalize hT : dtl D ht x ro = Tt
      have S0 : S 0 = x := by rw [← hS]; rfl
      have R0 : Rw 0 = ro := by rw [← hR]; rfl
      have T0 : Tt 0 = 0 := by rw [← hT]; rfl
      have Ss : ∀ k, S (k + 1) = nx (nx (S k)) := fun k => by rw [← hS]; exact dz_1
      have Rs : ∀ k, Rw (k + 1) = yrR D ht (dzR (Rw k) (dwv (nx (S k)) (D.cl : Int))) (fgS (nx (nx (S k)))) := fun k => by rw [← hS, ← hR]; rfl
      have Ts : ∀ k, Tt (k + 1) = i_add (Tt k) (dpaid D ht (dzR (Rw k) (dwv (nx (S k)) (D.cl : Int))) (fgS (nx (nx (S k))))) := fun k => by rw [← hS, ← hR, ← hT]; rfl
      have RW' : ∀ k, RW D (999 + k) (Rw k) := fun k => by rw [← hR]; exact dz_W W R k
      clear hS hR hT
      have hm : ∀ h', Same SX h h' → wp (fX6_decades x (N : Int) w h') (fun q => q.1 = (if w = 0 then Tt N else if w = 1 then cT (Rw N) 12 else lP (Rw N) D.nh) ∧ q.2 35 0 = 0 ∧ Same SXm h' q.2) := by
        intro h' s
        obtain ⟨C0, z0, s1, s2⟩ := C.z s
        unfold fX6_decades
        refine mw_pass z0 hw (w_f n10 ?_)
        rw [m_within, if_pos hy, wp_bp, wp_some]
        refine mr_pass z0 (by decide) (w_f n10 ?_)
        generalize st h' 35 0 0 = h0 at *
        rw [m_cp5455, wp_bd, wp_some]
        dsimp only
        rw [wp_lb, wp_bp]
        have st0 : MD D (Rw 0) (S 0) h0 (st (fil h0 55 62 (h0 54)) 35 67 x) := by
          rw [R0, S0]
          refine ⟨Same.rf.st (P := SV) (Or.inr (Or.inl ⟨rfl, Or.inr rfl⟩)), st_self, C0.2.2.2.2.2.2.2.1.same (fun k => ?_)⟩
          rw [st_na (by decide), fil_n (by decide)]
        refine (wp_for (Q := fun r : Int × Hp => r.1 = Tt N ∧ MD D (Rw N) (S N) h0 r.2) (fun k (s : Int × Int × Hp) => s.1 = Tt k ∧ s.2.1 = (k : Int) ∧ MD D (Rw k) (S k) h0 s.2.2) N ?_ ?_ (FU_big (by omega)) ⟨T0.symm, rfl, st0⟩).mono ?_
        · rintro k ⟨t, x5, hh⟩ hk ⟨f1, f2, f3⟩
          dsimp only at f1 f2 f3 ⊢
          subst f1 f2
          have k1 : i_add (k : Int) 1 = ((k + 1 : Nat) : Int) := i1 (by clear z0 S0 T0; omega)
          have q : ∀ a k, ¬ SV a k → a ≠ 55 → hh a k = h0 a k := fun a k n n5 => by rw [f3.1 a k n, fil_n n5]
          have ML' : ML D hh := C0.2.2.2.2.2.1.same (fun a k p => q a k (by unfold SV; clear z0 S0 T0 k1; omega) (by clear z0 S0 T0 k1; omega))
          unfold fX6_decades_l54
          refine w_f (by clear z0 S0 T0 k1; omega) ?_
          rw [m_cells W ML', wp_bp, wp_some, m_draw hc1, f3.2.1, wp_bd, wp_some]
          dsimp only
          have M1 : MD D (Rw k) (nx (S k)) h0 (st hh 35 67 (nx (S k))) := ⟨f3.1.st (Or.inr (Or.inl ⟨rfl, Or.inr rfl⟩)), st_self, f3.2.2.same (fun k => st_na (by decide))⟩
          rw [m_treeIn, wp_bp, wp_some, tIn_rr M1.2.2]
          have fin : ∀ h9 : Hp, MD D (dzR (Rw k) (dwv (nx (S k)) (D.cl : Int))) (nx (S k)) h0 h9 → wp (fX6_decades_j90 (N : Int) w (Tt k) (k : Int) h9) (E2 (fun s : Int × Int × Hp => s.1 = Tt (k + 1) ∧ s.2.1 = ((k + 1 : Nat) : Int) ∧ MD D (Rw (k + 1)) (S (k + 1)) h0 s.2.2) (fun r : Int × Hp => r.1 = Tt N ∧ MD D (Rw N) (S N) h0 r.2)) := fun h9 H9 => by
            refine m_dj90 C0 (dzR_W (RW' k)) (by clear z0 S0 T0 k1; omega) H9 (fun h' H' => ?_)
            refine ⟨(Ts k).symm, k1, ?_⟩
            rw [Rs, Ss]
            exact H'
          by_cases qt : tIn (Rw k) (dwv (nx (S k)) (D.cl : Int)) = -1
          · refine w_t qt (fin _ ?_)
            unfold dzR
            rw [if_pos qt]
            exact M1
          · refine w_f qt ?_
            obtain ⟨t, t1, t2, -⟩ := tIn_yes qt
            rw [t2, i0 (by clear z0 S0 T0 k1 t2; omega), gd_y ⟨by clear z0 S0 T0 k1 t2; omega, by clear z0 S0 T0 k1 t2; omega⟩, Int.toNat_natCast, wp_lb]
            refine fin _ ?_
            unfold dzR
            rw [if_neg qt, t2, Int.toNat_natCast]
            refine ⟨M1.1.st (Or.inr (Or.inr (Or.inl ⟨rfl, by clear z0 S0 T0 k1 t2; omega⟩))), by rw [st_na (by decide)]; exact M1.2.1, ?_⟩
            rw [st_up]
            exact M1.2.2.drop t1
        · rintro ⟨t, x5, hh⟩ ⟨f1, f2, f3⟩
          dsimp only at f1 f2 f3 ⊢
          subst f2
          unfold fX6_decades_l54
          exact w_t (Int.le_refl _) (wp_some.mpr ⟨f1, f3⟩)
        · rintro ⟨t, h38⟩ ⟨b1, b2⟩
          dsimp only at b1 b2 ⊢
          subst b1
          rw [wp_lb]
          have s9 : Same SV (fil h0 55 62 (h0 54)) (st h38 35 51 (-1)) := b2.1.st (Or.inr (Or.inl ⟨rfl, Or.inl rfl⟩))
          have r9 : RR D (Rw N) (st h38 35 51 (-1) 54) := b2.2.2.same (fun k => st_na (by decide))
          have z51 : st h38 35 51 (-1) 35 51 = h0 35 51 := by rw [st_self]; exact C0.2.2.2.2.2.2.2.2.2.1.symm
          have n9 : st h38 35 51 (-1) 35 3 = (D.nh : Int) := by rw [s9 _ _ (by unfold SV; clear z0 S0 T0 z51; omega), fil_n (by decide)]; exact C0.nh
          have z9 : st h38 35 51 (-1) 35 0 = 0 := by rw [s9 _ _ (by unfold SV; clear z0 S0 T0 z51 n9; omega), fil_n (by decide)]; exact z0
          generalize st h38 35 51 (-1) = h39 at *
          rw [m_treesStand, wp_bp, wp_some, wp_bp, cT_congr (ro := Rw N) (r := h39 54) r9.1]
          refine (m_leastP W n9 r9).mono ?_
          intro lp hlp
          subst hlp
          rw [m_cp5554, wp_bd, wp_some]
          dsimp only
          have sb : Same SXm h' (fil h39 54 62 (h39 55)) := s1.tr (back s9 z51)
          have zb : fil h39 54 62 (h39 55) 35 0 = 0 := by rw [fil_n (by decide)]; exact z9
          by_cases q0 : w = 0
          · exact w_t q0 (wp_some.mpr ⟨by rw [if_pos q0], zb, sb⟩)
          · refine w_f q0 ?_
            by_cases q1 : w = 1
            · exact w_t q1 (wp_some.mpr ⟨by rw [if_neg q0, if_pos q1], zb, sb⟩)
            · exact w_f q1 (wp_some.mpr ⟨by rw [if_neg q0, if_neg q1], zb, sb⟩)
      unfold fX5_decades_j26
      rw [wp_mi, wp_bd]
      refine C.present.mono ?_
      rintro ⟨r, h8⟩ ⟨r1, r2, r3⟩
      dsimp only at r1 r2 r3 ⊢
      rw [gd20 r1, wp_bp]
      have c0 : CS D ht (lay D ht (Rw 0)) (Rw 0) (fogY D (ro 61)) L h8 := by rw [R0]; exact r3
      refine (wp_for (Q := fun r : Int × Hp => r.1 = Tt N ∧ Same SC h8 r.2 ∧ ∃ f, CS D ht (lay D ht (Rw N)) (Rw N) f L r.2) (fun k (s : Int × Int × Int × Hp) => s.1 = S k ∧ s.2.1 = Tt k ∧ s.2.2.1 = (k : Int) ∧ Same SC h8 s.2.2.2 ∧ ∃ f, CS D ht (lay D ht (Rw k)) (Rw k) f L s.2.2.2) N ?_ ?_ (FU_big (by omega)) ⟨S0.symm, T0.symm, rfl, Same.rf, _, c0⟩).mono ?_
      · rintro k ⟨sd, t, x6, hh⟩ hk ⟨f0, f1, f2, f3, fg, f4⟩
        dsimp only at f0 f1 f2 f3 f4 ⊢
        subst f0 f1 f2
        have k1 : i_add (k : Int) 1 = ((k + 1 : Nat) : Int) := i1 (by clear S0 T0; omega)
        have v0 : hh 0 0 = (L : Int) := by rw [f3 _ _ (by unfold SC; clear S0 T0 k1; omega), r2 _ _ (by unfold SC; clear S0 T0 k1; omega)]; exact LBh.2.1
        unfold fX5_decades_l40
        refine w_f (by clear S0 T0 k1 v0; omega) ?_
        rw [show fX5_nextSeed (S k) hh = some (nx (S k)) from rfl, wp_bp, wp_some, gd_y (by rw [v0]; clear S0 T0 k1 v0; omega), v0, c_cells W hL f4.2.2.1, wp_bp, wp_some, c_draw hc1, wp_bp, wp_some, c_treeIn_21, wp_bp, wp_some, tIn_rr f4.row]
        have fin : ∀ h9 : Hp, Same SC h8 h9 → (∃ f, CS D ht (lay D ht (dzR (Rw k) (dwv (nx (S k)) (D.cl : Int)))) (dzR (Rw k) (dwv (nx (S k)) (D.cl : Int))) f L h9) → wp (fX5_decades_j92 (N : Int) w (nx (S k)) (Tt k) (k : Int) h9) (E2 (fun s : Int × Int × Int × Hp => s.1 = S (k + 1) ∧ s.2.1 = Tt (k + 1) ∧ s.2.2.1 = ((k + 1 : Nat) : Int) ∧ Same SC h8 s.2.2.2 ∧ ∃ f, CS D ht (lay D ht (Rw (k + 1))) (Rw (k + 1)) f L s.2.2.2) (fun r : Int × Hp => r.1 = Tt N ∧ Same SC h8 r.2 ∧ ∃ f, CS D ht (lay D ht (Rw N)) (Rw N) f L r.2)) := fun h9 s9 ⟨f, H9⟩ => by
          refine c_dj92 W T (dzR_W (RW' k)) (by clear S0 T0 k1 v0; omega) H9 (fun h' s' es a b => ?_)
          refine ⟨by rw [Ss k]; exact es, (Ts k).symm, k1, s9.tr a, ?_⟩
          rw [Rs]
          exact b
        by_cases qt : tIn (Rw k) (dwv (nx (S k)) (D.cl : Int)) = -1
        · refine w_t qt (fin _ f3 ⟨fg, ?_⟩)
          unfold dzR
          rw [if_pos qt]
          exact f4
        · refine w_f qt ?_
          obtain ⟨t, t1, t2, t3⟩ := tIn_yes qt
          have rg := dwv_rg (s := nx (S k)) hc1 hc64
          rw [t2, wp_bd]
          refine (c_dropTree W T (RW' k) f4 t1 (by rw [t3]; clear S0 T0 k1 v0 t2 t3; omega)).mono ?_
          rintro ⟨u, h33⟩ ⟨-, u2, u3⟩
          dsimp only at u2 u3 ⊢
          refine fin _ (f3.tr u2) ⟨fg, ?_⟩
          unfold dzR
          rw [if_neg qt, t2, Int.toNat_natCast]
          exact u3
      · rintro ⟨sd, t, x6, hh⟩ ⟨f0, f1, f2, f3, f4⟩
        dsimp only at f0 f1 f2 f3 f4 ⊢
        subst f2
        unfold fX5_decades_l40
        exact w_t (Int.le_refl _) (wp_some.mpr ⟨f1, f3, f4⟩)
      · rintro ⟨t, h36⟩ ⟨b1, b2, fg, b3⟩
        dsimp only at b1 b2 b3 ⊢
        subst b1
        have sq : Same SX h h36 := (SC_X r2).tr (SC_X b2)
        by_cases q0 : w = 0
        · rw [if_pos q0] at hm
          exact w_t q0 (wp_some.mpr (q_ok I0 sq hm))
        · rw [if_neg q0] at hm
          refine w_f q0 ?_
          by_cases q1 : w = 1
          · rw [if_pos q1] at hm
            refine w_t q1 ?_
            rw [c_trees21, wp_bp, wp_some, wp_some, cT_congr (ro := Rw N) (r := h36 21) b3.row.1]
            exact q_ok I0 sq hm
          · rw [if_neg q1] at hm
            refine w_f q1 ?_
            rw [c_leastPurse W b3, wp_bp, wp_some, wp_some]
            exact q_ok I0 sq hm
    · have bad : PT κ (fX6_decades x y w) (fun e => if e = 0 then 1 else 2) (.inr (1, h)) := by
        refine q_no I0 Same.rf (fun h' s => ?_)
        obtain ⟨C0, z0, s1, s2⟩ := C.z s
        unfold fX6_decades
        refine mw_pass z0 hw (w_f n10 ?_)
        rw [m_within, if_neg hy, wp_bp, wp_some, m_right0 z0 (by decide), wp_bd, wp_some]
        exact w_t rfl (wp_some.mpr (no1 s1))
      by_cases q1 : y < 0
      · exact w_t q1 (wp_some.mpr bad)
      · exact w_f q1 (w_f (by omega) (wp_some.mpr bad))
  · refine nw_fail hw (q_no I0 Same.rf (fun h' s => ?_))
    obtain ⟨C0, z0, s1, s2⟩ := C.z s
    unfold fX6_decades
    exact mw_fail z0 hw (w_t rfl (wp_some.mpr (no1 s1)))
