/-! pure part: barns, the question -/
def zz (k : Nat) : Nat := if k % 2 = 0 then k + 1 else k - 1
def pq (k : Nat) : Int := ((10 * (k / 2) + k % 2 : Nat) : Int)
def fa (r : Nat → Bool) : Nat → Int × Int
  | 0 => (0, -1)
  | k + 1 => if r k = true then ((fa r k).1 + 1, if (fa r k).2 = -1 then pq k else (fa r k).2) else fa r k
def fd (r : Nat → Bool) : Nat → Int × Int
  | 0 => (0, -1)
  | k + 1 => if r (3 - k) = true then ((fd r k).1 + 1, pq (3 - k)) else fd r k
theorem fa_fd {r : Nat → Bool} : fa r 4 = fd r 4 := by
  cases h0 : r 0 <;> cases h1 : r 1 <;> cases h2 : r 2 <;> cases h3 : r 3 <;> simp [fa, fd, h0, h1, h2, h3, pq]
theorem fa_le {r : Nat → Bool} : ∀ k, 0 ≤ (fa r k).1 ∧ (fa r k).1 ≤ (k : Int)
  | 0 => ⟨Int.le_refl 0, Int.le_refl 0⟩
  | k + 1 => by
    have ih := fa_le (r := r) k
    by_cases q : r k = true
    · have e : fa r (k + 1) = ((fa r k).1 + 1, if (fa r k).2 = -1 then pq k else (fa r k).2) := if_pos q
      rw [e]; exact ⟨by show 0 ≤ _ + 1; omega, by show _ + 1 ≤ ((k + 1 : Nat) : Int); omega⟩
    · have e : fa r (k + 1) = fa r k := if_neg q
      rw [e]; exact ⟨ih.1, by omega⟩
theorem fd_le {r : Nat → Bool} : ∀ k, 0 ≤ (fd r k).1 ∧ (fd r k).1 ≤ (k : Int)
  | 0 => ⟨Int.le_refl 0, Int.le_refl 0⟩
  | k + 1 => by
    have ih := fd_le (r := r) k
    by_cases q : r (3 - k) = true
    · have e : fd r (k + 1) = ((fd r k).1 + 1, pq (3 - k)) := if_pos q
      rw [e]; exact ⟨by show 0 ≤ _ + 1; omega, by show _ + 1 ≤ ((k + 1 : Nat) : Int); omega⟩
    · have e : fd r (k + 1) = fd r k := if_neg q
      rw [e]; exact ⟨ih.1, by omega⟩
theorem k4b : ∀ k : Nat, k < 4 → i_rem (i_add (k : Int) 2) 4 = (((k + 2) % 4 : Nat) : Int) ∧ (k % 2 = 0 → i_add (k : Int) 1 = (zz k : Int)) ∧ (k % 2 ≠ 0 → i_sub (k : Int) 1 = (zz k : Int)) ∧ i_add (i_mul 10 ((k / 2 : Nat) : Int)) ((k % 2 : Nat) : Int) = pq k ∧ zz k < 4 ∧ (k + 2) % 4 < 4 := by decide +kernel
theorem k4c : ∀ k : Nat, k < 4 → i_shr (k : Int) 1 = ((k / 2 : Nat) : Int) ∧ i_and (k : Int) 1 = ((k % 2 : Nat) : Int) ∧ i_sub 1 ((k / 2 : Nat) : Int) = (((k + 2) % 4 / 2 : Nat) : Int) ∧ (k + 2) % 4 % 2 = k % 2 ∧ i_sub 1 ((k % 2 : Nat) : Int) = ((zz k % 2 : Nat) : Int) ∧ zz k / 2 = k / 2 ∧ i_add (k : Int) (-1) = (k : Int) - 1 := by decide +kernel
def rst (U V : Nat → Int) (k : Nat) : Bool := !decide (U ((k + 2) % 4) < U k) && !decide (V (zz k) < V k)
theorem m_barns_loop {U V : Nat → Int} {x5 : Int} {h : Hp} (hU : ∀ k, k < 4 → h 63 (2 * k) = U k ∧ h 63 (2 * k + 1) = V k) : wp (it_ (fun s : Int × Int × Int => fX6_barns_l89 x5 s.1 s.2.1 s.2.2 h) FU (0, -1, 0)) (fun r : Int × Int => r = fa (rst U V) 4) := by
  refine wp_for (Q := fun r : Int × Int => r = fa (rst U V) 4) (fun k (s : Int × Int × Int) => (s.1, s.2.1) = fa (rst U V) k ∧ s.2.2 = (k : Int)) 4 ?_ ?_ (FU_big (by decide)) ⟨rfl, rfl⟩
  · rintro k ⟨c, f, kk⟩ hk ⟨f1, f2⟩
    dsimp only at f1 f2 ⊢
    subst f2
    obtain ⟨a1, a2, a3, a4, a5, a8⟩ := k4 k hk
    obtain ⟨b1, b2, b3, b4, b5, b6⟩ := k4b k hk
    obtain ⟨-, -, c3, c4, -, c8⟩ := k4 _ b5
    obtain ⟨-, -, d3, d4, -, d8⟩ := k4 _ b6
    have cl := fa_le (r := rst U V) k
    rw [← f1] at cl
    dsimp only at cl
    have e1 : i_add c 1 = c + 1 := ia (by clear a1 a2 a3 a4 a5 b1 b2 b3 b4 c3 c4 d3 d4 f1; omega) (by clear a1 a2 a3 a4 a5 b1 b2 b3 b4 c3 c4 d3 d4 f1; omega)
    have em : fa (rst U V) (k + 1) = if rst U V k = true then (c + 1, if f = -1 then pq k else f) else (c, f) := by
      show (if rst U V k = true then ((fa (rst U V) k).1 + 1, if (fa (rst U V) k).2 = -1 then pq k else (fa (rst U V) k).2) else fa (rst U V) k) = _
      rw [← f1]
    have body : fX6_barns_j121 x5 c f (k : Int) (((k + 2) % 4 : Nat) : Int) (zz k : Int) h = some (.inl ((fa (rst U V) (k + 1)).1, (fa (rst U V) (k + 1)).2, ((k + 1 : Nat) : Int))) := by
      have g1 := (hU _ b6).1
      have g2 := (hU k hk).1
      have g3 := (hU _ b5).2
      have g4 := (hU k hk).2
      unfold fX6_barns_j121
      rw [a1, a2, b4, a5, d3, a3, c3, c4, a4, e1, gd_y ⟨Int.natCast_nonneg _, by clear a1 a2 a3 a4 a5 b1 b2 b3 b4 c3 c4 d3 d4 f1 em e1 g1 g2 g3 g4; omega⟩, gd_y ⟨Int.natCast_nonneg _, by clear a1 a2 a3 a4 a5 b1 b2 b3 b4 c3 c4 d3 d4 f1 em e1 g1 g2 g3 g4; omega⟩, gd_y ⟨Int.natCast_nonneg _, by clear a1 a2 a3 a4 a5 b1 b2 b3 b4 c3 c4 d3 d4 f1 em e1 g1 g2 g3 g4; omega⟩, gd_y ⟨Int.natCast_nonneg _, by clear a1 a2 a3 a4 a5 b1 b2 b3 b4 c3 c4 d3 d4 f1 em e1 g1 g2 g3 g4; omega⟩]
      simp only [Int.toNat_natCast, g1, g2, g3, g4]
      by_cases q1 : U ((k + 2) % 4) < U k
      · have er : rst U V k = false := by unfold rst; rw [decide_eq_true q1]; rfl
        rw [er, if_neg (by decide)] at em
        rw [if_pos q1, em]
      · rw [if_neg q1]
        by_cases q2 : V k ≤ V (zz k)
        · have er : rst U V k = true := by unfold rst; rw [decide_eq_false q1, decide_eq_false (Int.not_lt.mpr q2)]; rfl
          rw [er, if_pos rfl] at em
          rw [if_pos q2, em]
          by_cases q3 : f = -1
          · rw [if_pos q3, if_pos q3]; rfl
          · rw [if_neg q3, if_neg q3]
        · have er : rst U V k = false := by unfold rst; rw [decide_eq_false q1, decide_eq_true (Int.not_le.mp q2)]; rfl
          rw [er, if_neg (by decide)] at em
          rw [if_neg q2, em]
    unfold fX6_barns_l89
    rw [b1, a2]
    refine w_f (by clear a1 a2 a3 a4 a5 b1 b2 b3 b4 c3 c4 d3 d4 f1 em e1 body; omega) ?_
    rw [wp_lb]
    by_cases q : k % 2 = 0
    · refine w_t (by rw [q]; rfl) ?_
      rw [b2 q, body, wp_some]
      exact ⟨rfl, rfl⟩
    · refine w_f (by clear a1 a2 a3 a4 a5 b1 b2 b3 b4 c3 c4 d3 d4 f1 em e1 body; omega) ?_
      rw [b3 q, body, wp_some]
      exact ⟨rfl, rfl⟩
  · rintro ⟨c, f, kk⟩ ⟨f1, f2⟩
    dsimp only at f1 f2 ⊢
    subst f2
    unfold fX6_barns_l89
    exact w_t (by decide) (wp_some.mpr f1)
theorem s_barns {κ : Int} {x y b g w : Int} {h : Hp} (I : Inv κ h) : wp (fX5_barns x y b g w h) (PT κ (fX6_barns x y b g w) (fun e => if e = 0 then 1 else 2)) := by
  have I0 := I
  obtain ⟨D, ht, ro, L, nr, rh, rm, na, P, C, -, Q, M, -⟩ := I
  have LBh := C.2.2.2.1
  have W := C.1
  unfold fX5_barns
  by_cases hx : 0 ≤ x ∧ x < (D.nh : Int)
  · refine nh_pass LBh.1 LBh.2.1 LBh.2.2.1 hx ?_
    by_cases hy : 0 ≤ y ∧ y < (D.nh : Int)
    · refine nh_pass LBh.1 LBh.2.1 LBh.2.2.1 hy ?_
      by_cases hw : 0 ≤ w ∧ w ≤ 1
      · refine nw_pass hw ?_
        by_cases ok : x ≠ y ∧ (1 ≤ b ∧ b ≤ 5) ∧ (0 ≤ g ∧ g ≤ 99)
        · obtain ⟨hxy, hb, hg⟩ := ok
          refine w_f hxy (w_f (by omega) (w_f (by omega) (w_f (by omega) (w_t hg.2 ?_))))
          obtain ⟨i, rfl⟩ : ∃ i : Nat, x = (i : Int) := ⟨x.toNat, by omega⟩
          obtain ⟨j, rfl⟩ : ∃ j : Nat, y = (j : Int) := ⟨y.toNat, by omega⟩
          have hi : i < D.nh := by omega
          have hj : j < D.nh := by omega
          have nij : i ≠ j := by omega
          generalize hU : Ubn D ht ro b g i j = U
          generalize hV : Vbn D ht ro b g i j = V
          have hm : ∀ h', Same SX h h' → wp (fX6_barns (i : Int) (j : Int) b g w h') (fun q => q.1 = (if w = 0 then (fd (rst U V) 4).1 else (fd (rst U V) 4).2) ∧ q.2 35 0 = 0 ∧ Same SXm h' q.2) := by
            intro h' s
            obtain ⟨C0, z0, s1, s2⟩ := C.z s
            unfold fX6_barns
            refine mh_pass z0 C0.nh hx (w_f n10 (mh_pass z0 C0.nh hy (w_f n10 (mw_pass z0 hw (w_f n10 (w_f hxy ?_))))))
            rw [m_within, if_pos hb, wp_bp, wp_some]
            refine w_f n10 ?_
            rw [m_within, if_pos hg, wp_bp, wp_some]
            refine w_f n10 ?_
            unfold fX6_barns_j62
            rw [m_right1 z0 (by decide), wp_bd, wp_some]
            refine w_f n10 ?_
            rw [wp_bd]
            refine (m_loses C0 hi hj nij).mono ?_
            rintro ⟨r, h21⟩ ⟨r1, r2, r3⟩
            dsimp only at r1 r2 r3 ⊢
            rw [hU, hV] at r1
            rw [wp_bp]
            refine (m_barns_loop r1).mono ?_
            intro e he
            rw [he, ← fa_fd]
            by_cases q : w = 0
            · exact w_t q (wp_some.mpr ⟨by rw [if_pos q], r2.trans z0, s1.tr r3⟩)
            · exact w_f q (wp_some.mpr ⟨by rw [if_neg q], r2.trans z0, s1.tr r3⟩)
          unfold fX5_barns_j54
          rw [wp_mi, wp_bp]
          refine (wp_for (Q := fun r : Int × Int × Hp => (r.1, r.2.1) = fd (rst U V) 4 ∧ Same SX h r.2.2) (fun k (s : Int × Int × Int × Hp) => (s.1, s.2.1) = fd (rst U V) k ∧ s.2.2.1 = 3 - (k : Int) ∧ Same SX h s.2.2.2) 4 ?_ ?_ (FU_big (by decide)) ⟨rfl, rfl, Same.rf⟩).mono ?_
          · rintro m ⟨c, f, kk, hh⟩ hm' ⟨f1, f2, f3⟩
            dsimp only at f1 f2 f3 ⊢
            obtain ⟨k, hk⟩ : ∃ k : Nat, k + m = 3 := ⟨3 - m, by clear f1; omega⟩
            have hk4 : k < 4 := by clear f1; omega
            have ek : kk = (k : Int) := by clear f1; omega
            have em : 3 - m = k := by clear f1; omega
            subst ek
            have cl := fd_le (r := rst U V) m
            rw [← f1] at cl
            dsimp only at cl
            have e1 : i_add c 1 = c + 1 := ia (by clear f1; omega) (by clear f1; omega)
            have es : fd (rst U V) (m + 1) = if rst U V k = true then (c + 1, pq k) else (c, f) := by
              show (if rst U V (3 - m) = true then ((fd (rst U V) m).1 + 1, pq (3 - m)) else fd (rst U V) m) = _
              rw [← f1, em]
            obtain ⟨a1, a2, a3, a4, a5, a6, a7⟩ := k4c k hk4
            obtain ⟨-, -, -, b4, -, -⟩ := k4b k hk4
            have e7 : (k : Int) - 1 = 3 - ((m + 1 : Nat) : Int) := by clear f1 e1 es a1 a2 a3 a4 a5 a6 a7 b4; omega
            have eU : ∀ a : Nat, i_add (loss D ht ro b i j ((a / 2 : Nat) : Int) ((a % 2 : Nat) : Int)) (i_mul ((a / 2 : Nat) : Int) g) = U a := fun a => by rw [← hU]; rfl
            have eV : ∀ a : Nat, i_add (loss D ht ro b j i ((a % 2 : Nat) : Int) ((a / 2 : Nat) : Int)) (i_mul ((a % 2 : Nat) : Int) g) = V a := fun a => by rw [← hV]; rfl
            have eU' := eU ((k + 2) % 4)
            rw [a4] at eU'
            have eV' := eV (zz k)
            rw [a6] at eV'
            unfold fX5_barns_l63
            rw [a1, a2]
            refine w_f (by clear f1 e1 es a1 a2 a3 a4 a5 a6 a7 b4 eU eV eU' eV'; omega) ?_
            rw [wp_lb, wp_lb, wp_bd]
            refine (c_restsWith (C.same f3) hi hj nij).mono ?_
            rintro ⟨r, h20⟩ ⟨r1, r2⟩
            dsimp only at r1 r2 ⊢
            rw [a3, eU', eU k] at r1
            unfold fX5_barns_j116 fX5_barns_j117
            rw [a7, e7, e1, b4]
            by_cases q1 : U ((k + 2) % 4) < U k
            · rw [if_pos q1] at r1
              have er : rst U V k = false := by unfold rst; rw [decide_eq_true q1]; rfl
              rw [er, if_neg (by decide)] at es
              exact w_t r1 (w_t rfl (wp_some.mpr ⟨es.symm, rfl, f3.tr r2⟩))
            · rw [if_neg q1] at r1
              refine w_f (by rw [r1]; decide) ?_
              rw [wp_bd]
              refine (c_restsWith (C.same (f3.tr r2)) hj hi (Ne.symm nij)).mono ?_
              rintro ⟨t, h29⟩ ⟨t1, t2⟩
              dsimp only at t1 t2 ⊢
              rw [a5, eV', eV k] at t1
              by_cases q2 : V (zz k) < V k
              · rw [if_pos q2] at t1
                have er : rst U V k = false := by unfold rst; rw [decide_eq_false q1, decide_eq_true q2]; rfl
                rw [er, if_neg (by decide)] at es
                exact w_t t1 (w_t rfl (wp_some.mpr ⟨es.symm, rfl, (f3.tr r2).tr t2⟩))
              · rw [if_neg q2] at t1
                have er : rst U V k = true := by unfold rst; rw [decide_eq_false q1, decide_eq_false q2]; rfl
                rw [er, if_pos rfl] at es
                refine w_f (by rw [t1]; decide) (w_f (by decide) ?_)
                rw [wp_lb, wp_some]
                exact ⟨es.symm, rfl, (f3.tr r2).tr t2⟩
          · rintro ⟨c, f, kk, hh⟩ ⟨f1, f2, f3⟩
            dsimp only at f1 f2 f3 ⊢
            subst f2
            unfold fX5_barns_l63
            exact w_t (by decide) (wp_some.mpr ⟨f1, f3⟩)
          · rintro ⟨c, f, h34⟩ ⟨b1, b2⟩
            dsimp only at b1 b2 ⊢
            rw [← b1] at hm
            by_cases q : w = 0
            · rw [if_pos q] at hm
              exact w_t q (wp_some.mpr (q_ok I0 b2 hm))
            · rw [if_neg q] at hm
              exact w_f q (wp_some.mpr (q_ok I0 b2 hm))
        · have bad : PT κ (fX6_barns x y b g w) (fun e => if e = 0 then 1 else 2) (.inr (1, h)) := by
            refine q_no I0 Same.rf (fun h' s => ?_)
            obtain ⟨C0, z0, s1, s2⟩ := C.z s
            have fin : wp (fX6_barns_j61 x y b g w (st h' 35 0 0)) (fun q => q.2 35 0 = 2 ∧ Same SXm h' q.2) := by
              unfold fX6_barns_j61 fX6_barns_j62
              rw [m_right0 z0 (by decide), wp_bd, wp_some]
              exact w_t rfl (wp_some.mpr (no1 s1))
            unfold fX6_barns
            refine mh_pass z0 C0.nh hx (w_f n10 (mh_pass z0 C0.nh hy (w_f n10 (mw_pass z0 hw (w_f n10 ?_)))))
            by_cases hxy : x = y
            · exact w_t hxy fin
            · refine w_f hxy ?_
              rw [m_within, wp_bp, wp_some]
              by_cases hb : 1 ≤ b ∧ b ≤ 5
              · rw [if_pos hb]
                refine w_f n10 ?_
                rw [m_within, wp_bp, wp_some, if_neg (fun hg => ok ⟨hxy, hb, hg⟩)]
                exact w_t rfl fin
              · rw [if_neg hb]
                exact w_t rfl fin
          by_cases q1 : x = y
          · exact w_t q1 (wp_some.mpr bad)
          refine w_f q1 ?_
          by_cases q2 : b < 1
          · exact w_t q2 (wp_some.mpr bad)
          refine w_f q2 ?_
          by_cases q3 : 5 < b
          · exact w_t q3 (wp_some.mpr bad)
          refine w_f q3 ?_
          by_cases q4 : g < 0
          · exact w_t q4 (wp_some.mpr bad)
          refine w_f q4 ?_
          by_cases q5 : g ≤ 99
          · exact absurd ⟨q1, ⟨by omega, by omega⟩, ⟨by omega, q5⟩⟩ ok
          · exact w_f q5 (wp_some.mpr bad)
      · refine nw_fail hw (q_no I0 Same.rf (fun h' s => ?_))
        obtain ⟨C0, z0, s1, s2⟩ := C.z s
        unfold fX6_barns
        exact mh_pass z0 C0.nh hx (w_f n10 (mh_pass z0 C0.nh hy (w_f n10 (mw_fail z0 hw (w_t rfl (wp_some.mpr (no1 s1)))))))
    · refine nh_fail LBh.1 LBh.2.1 LBh.2.2.1 hy ?_
      exact no_house2 I0 C hx hy (fun h' => rfl) rfl
  · refine nh_fail LBh.1 LBh.2.1 LBh.2.2.1 hx ?_
    exact no_house I0 C hx (fun h' => rfl) rfl
