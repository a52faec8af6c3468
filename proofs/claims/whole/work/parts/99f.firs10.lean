/-! pure part: firs -/
/-- what firs answers, and the cells -/
def FrA (D : LD) (ht ro : Nat → Int) (set much n a b : Int) : Prop :=
  (okF D ht ro set much (-1) (-1) = true ∧ n = 0) ∨ (okF D ht ro set much (-1) (-1) = false ∧ ((∃ c : Nat, c < D.cl ∧ bare D ro (c : Int) = true ∧ okF D ht ro set much (c : Int) (-1) = true ∧ (∀ c' : Nat, c' < c → bare D ro (c' : Int) = true → okF D ht ro set much (c' : Int) (-1) = false) ∧ n = 1 ∧ a = (c : Int)) ∨ ((∀ c : Nat, c < D.cl → bare D ro (c : Int) = true → okF D ht ro set much (c : Int) (-1) = false) ∧ ((∃ c e : Nat, prF D ht ro set much c e ∧ (∀ c' e' : Nat, c' < c → ¬ prF D ht ro set much c' e') ∧ (∀ e' : Nat, e' < e → ¬ prF D ht ro set much c e') ∧ n = 2 ∧ a = (c : Int) ∧ b = (e : Int)) ∨ ((∀ c e : Nat, ¬ prF D ht ro set much c e) ∧ n = -1)))))
theorem tf {b : Bool} (h1 : b = true) (h2 : b = false) : False := by rw [h1] at h2; exact absurd h2 (by decide)
theorem FrA_det {D : LD} {ht ro : Nat → Int} {set much n a b n' a' b' : Int} (A : FrA D ht ro set much n a b) (B : FrA D ht ro set much n' a' b') : n = n' ∧ (1 ≤ n → a = a') ∧ (2 ≤ n → b = b') := by
  rcases A with ⟨A1, A2⟩ | ⟨A1, A2⟩
  · rcases B with ⟨B1, B2⟩ | ⟨B1, B2⟩
    · refine ⟨A2.trans B2.symm, fun z => ?_, fun z => ?_⟩ <;> exact absurd A2 (by omega)
    · exact (tf A1 B1).elim
  · rcases B with ⟨B1, B2⟩ | ⟨B1, B2⟩
    · exact (tf B1 A1).elim
    · rcases A2 with ⟨c, c1, c2, c3, c4, c5, c6⟩ | ⟨A3, A4⟩
      · rcases B2 with ⟨d, d1, d2, d3, d4, d5, d6⟩ | ⟨B3, B4⟩
        · have e : c = d := by
            rcases Nat.lt_trichotomy c d with q | q | q
            · exact (tf c3 (d4 c q c2)).elim
            · exact q
            · exact (tf d3 (c4 d q d2)).elim
          subst e
          refine ⟨c5.trans d5.symm, fun _ => c6.trans d6.symm, fun z => ?_⟩
          exact absurd c5 (by omega)
        · exact (tf c3 (B3 c c1 c2)).elim
      · rcases B2 with ⟨d, d1, d2, d3, d4, d5, d6⟩ | ⟨B3, B4⟩
        · exact (tf d3 (A3 d d1 d2)).elim
        · rcases A4 with ⟨c, e, c1, c2, c3, c4, c5, c6⟩ | ⟨A5, A6⟩
          · rcases B4 with ⟨d, g, d1, d2, d3, d4, d5, d6⟩ | ⟨B5, B6⟩
            · have q1 : c = d := by
                rcases Nat.lt_trichotomy c d with q | q | q
                · exact (d2 c e q c1).elim
                · exact q
                · exact (c2 d g q d1).elim
              subst q1
              have q2 : e = g := by
                rcases Nat.lt_trichotomy e g with q | q | q
                · exact (d3 e q c1).elim
                · exact q
                · exact (c3 g q d1).elim
              subst q2
              exact ⟨c4.trans d4.symm, fun _ => c5.trans d5.symm, fun _ => c6.trans d6.symm⟩
            · exact (B5 c e c1).elim
          · rcases B4 with ⟨d, g, d1, d2, d3, d4, d5, d6⟩ | ⟨B5, B6⟩
            · exact (A5 d g d1).elim
            · refine ⟨A6.trans B6.symm, fun z => ?_, fun z => ?_⟩ <;> exact absurd A6 (by omega)
theorem FrA_n {D : LD} {ht ro : Nat → Int} {set much n a b : Int} (A : FrA D ht ro set much n a b) : n = -1 ∨ n = 0 ∨ n = 1 ∨ n = 2 := by
  rcases A with ⟨A1, A2⟩ | ⟨A1, ⟨c, c1, c2, c3, c4, c5, c6⟩ | ⟨A3, ⟨c, e, c1, c2, c3, c4, c5, c6⟩ | ⟨A5, A6⟩⟩⟩
  · exact Or.inr (Or.inl A2)
  · exact Or.inr (Or.inr (Or.inl c5))
  · exact Or.inr (Or.inr (Or.inr c4))
  · exact Or.inl A6
theorem c_firsJ {D : LD} {ht ro : Nat → Int} {L nr : Nat} {rh : Nat → Nat} {rm : Nat → Int} {h : Hp} {set much : Int} (C : Core D ht ro L nr rh rm h) :
    wp (fX5_firs_j28 set much h) (fun r => ∃ a b, FrA D ht ro set much r.1 a b ∧ ∃ h9, Same SX h h9 ∧ ((r.1 = -1 ∧ r.2 = h9) ∨ (r.1 ≠ -1 ∧ r.2 = keF r.1 a b h9))) := by
  have W := C.1
  have T := C.2.1
  have R := C.2.2.1
  unfold fX5_firs_j28
  rw [wp_bd]
  refine C.present.mono ?_
  rintro ⟨r, h9⟩ ⟨r1, r2, r3⟩
  dsimp only at r1 r2 r3 ⊢
  rw [gd20 r1, wp_bd]
  refine (c_allWithin W r3 R.2.2.1).mono ?_
  rintro ⟨v, h13⟩ ⟨v1, v2⟩
  dsimp only at v1 v2 ⊢
  have s13 : Same SX h h13 := (SC_X r2).tr (SL_X v2)
  have K := r3.same v2
  have eo : okF D ht ro set much (-1) (-1) = aw (fun i => txH D ht (lay D ht ro) ro (fogY D (ro 61)) i (ro 60)) set much D.nh := by unfold okF; rw [layF_no]
  rw [← eo] at v1
  by_cases q : okF D ht ro set much (-1) (-1) = true
  · rw [if_pos q] at v1
    refine w_f (by rw [v1]; decide) ?_
    rw [c_keepFirs, wp_bd, wp_some, wp_some]
    exact ⟨0, 0, Or.inl ⟨q, rfl⟩, h13, s13, Or.inr ⟨(show (0 : Int) ≠ -1 by decide), rfl⟩⟩
  · have q' : okF D ht ro set much (-1) (-1) = false := by simpa using q
    rw [if_neg q] at v1
    refine w_t v1 ?_
    rw [wp_bp]
    refine (c_freeCells W K).mono ?_
    intro fr hfr
    rw [wp_bd]
    refine (c_overs W K (x := set)).mono ?_
    rintro ⟨ov, h19⟩ ⟨o1, o2⟩
    dsimp only at o1 o2 ⊢
    have K2 := K.same o2
    have hm : ∀ c, c < 64 → (bt (l_and fr ov) c = true ↔ c < D.cl ∧ bare D ro (c : Int) = true ∧ bt ov c = true) := by
      intro c _
      rw [bt_land, Bool.and_eq_true]
      constructor
      · rintro ⟨z1, z2⟩
        obtain ⟨i, -, -, z⟩ := (o1 c).mp z2
        have hc := ways_rg W z
        rw [hfr c hc] at z1
        exact ⟨hc, z1, z2⟩
      · rintro ⟨z1, z2, z3⟩
        rw [hfr c z1]
        exact ⟨z2, z3⟩
    rw [wp_lb, wp_bp]
    refine (c_firs1 W T R K2 o1 hm q').mono ?_
    rintro (e | e) he
    · obtain ⟨g1, g2, g3⟩ := he
      dsimp only
      rw [wp_bp]
      refine (c_firs3 W T R g3 o1 hm g1).mono ?_
      rintro (f | f) hf
      · obtain ⟨k1, k2, k3⟩ := hf
        dsimp only
        rw [wp_some]
        exact ⟨0, 0, Or.inr ⟨q', Or.inr ⟨g1, Or.inr ⟨k1, rfl⟩⟩⟩, f, ((s13.tr (SL_X o2)).tr (SC_X g2)).tr (SC_X k2), Or.inl ⟨rfl, rfl⟩⟩
      · obtain ⟨c, e', k1, k2, k3, h8, k4, rfl⟩ := hf
        dsimp only
        rw [wp_some]
        exact ⟨(c : Int), (e' : Int), Or.inr ⟨q', Or.inr ⟨g1, Or.inl ⟨c, e', k1, k2, k3, rfl, rfl, rfl⟩⟩⟩, h8, ((s13.tr (SL_X o2)).tr (SC_X g2)).tr (SC_X k4), Or.inr ⟨(show (2 : Int) ≠ -1 by decide), rfl⟩⟩
    · obtain ⟨c, k1, k2, k3, k4, h8, k5, rfl⟩ := he
      dsimp only
      rw [wp_some]
      exact ⟨(c : Int), 0, Or.inr ⟨q', Or.inl ⟨c, k1, k2, k3, k4, rfl, rfl⟩⟩, h8, (s13.tr (SL_X o2)).tr (SC_X k5), Or.inr ⟨(show (1 : Int) ≠ -1 by decide), rfl⟩⟩
theorem keF_same {n a b : Int} {h : Hp} : Same SG h (keF n a b h) := ((Same.rf.st (P := SG) (Or.inr (Or.inl rfl))).st (Or.inr (Or.inl rfl))).st (Or.inr (Or.inr (Or.inl ⟨rfl, rfl⟩)))
theorem keF_0 {n a b : Int} {h : Hp} : keF n a b h 34 0 = a ∧ keF n a b h 34 1 = b ∧ keF n a b h 0 15 = n := by
  unfold keF
  refine ⟨?_, ?_, st_self⟩
  · rw [st_na (by decide), st_nk (by decide), st_self]
  · rw [st_na (by decide), st_self]
def SH : Nat → Nat → Prop := fun a k => SXm a k ∨ (a = 35 ∧ k = 59) ∨ a = 60
theorem SH_G {h h' : Hp} (s : Same SH h h') : Same SG h h' := s.mono (fun a k p => by unfold SH SXm at p; unfold SG; omega)
theorem fr_end {P : Nat → Nat → Prop} {h h' : Hp} (s : Same (fun a k => P a k ∨ (a = 35 ∧ (k = 52 ∨ k = 53))) h h') (e52 : h 35 52 = -1) (e53 : h 35 53 = -1) : Same P h (st (st h' 35 52 (-1)) 35 53 (-1)) := by
  intro a k n
  by_cases e : a = 35 ∧ k = 53
  · obtain ⟨rfl, rfl⟩ := e
    rw [e53]; exact st_self
  · have e1 : st (st h' 35 52 (-1)) 35 53 (-1) a k = st h' 35 52 (-1) a k := if_neg e
    rw [e1]
    by_cases e2 : a = 35 ∧ k = 52
    · obtain ⟨rfl, rfl⟩ := e2
      rw [e52]; exact st_self
    · have e3 : st h' 35 52 (-1) a k = h' a k := if_neg e2
      rw [e3]
      refine s a k (fun z => z.elim n (fun p => ?_))
      rcases p with ⟨p1, p2 | p2⟩
      · exact e2 ⟨p1, p2⟩
      · exact e ⟨p1, p2⟩
theorem m_firsJ {D : LD} {ht ro : Nat → Int} {L nr : Nat} {rh : Nat → Nat} {rm : Nat → Int} {h : Hp} {set much : Int} (C : Core D ht ro L nr rh rm h) (z0 : h 35 0 = 0) (hs : in32 set) :
    wp (fX6_firs_j36 set much 1 h) (fun q => ∃ a b, FrA D ht ro set much q.1 a b ∧ ((q.1 = -1 ∧ Same SXm h q.2) ∨ (q.1 ≠ -1 ∧ q.2 35 59 = q.1 ∧ q.2 60 0 = a ∧ q.2 60 1 = b ∧ Same SH h q.2)) ∧ q.2 35 0 = 0) := by
  have W := C.1
  have R := C.2.2.1
  have e52 : h 35 52 = -1 := C.2.2.2.2.2.2.2.2.2.2.1
  have e53 : h 35 53 = -1 := C.2.2.2.2.2.2.2.2.2.2.2
  unfold fX6_firs_j36
  refine mr_pass z0 (by decide) (w_f n10 ?_)
  rw [wp_bd]
  refine (m_firsFor W R C.ms hs e52 e53).mono ?_
  rintro ⟨v, h9⟩ ⟨v1, v2⟩
  dsimp only at v1 v2 ⊢
  have A : FrA D ht ro set much v (h9 35 52) (h9 35 53) := by
    rcases v2 with v2 | ⟨q, ⟨c, c1, c2, c3, c4, c5, c6, c7⟩ | ⟨k1, ⟨c, e, c1, c2, c3, c4, c5, c6⟩ | k2⟩⟩
    · exact Or.inl v2
    · exact Or.inr ⟨q, Or.inl ⟨c, c1, c2, c3, c4, c5, c6⟩⟩
    · exact Or.inr ⟨q, Or.inr ⟨k1, Or.inl ⟨c, e, c1, c2, c3, c4, c5, c6⟩⟩⟩
    · exact Or.inr ⟨q, Or.inr ⟨k1, Or.inr k2⟩⟩
  clear v2
  have z9 : h9 35 0 = 0 := by rw [v1 _ _ (by unfold SFr SN; clear z0 e52 e53; omega)]; exact z0
  by_cases q : v = -1
  · refine w_t q ?_
    unfold fX6_firs_j82
    rw [wp_lb, wp_lb, wp_some]
    refine ⟨_, _, A, Or.inl ⟨q, fr_end (v1.mono (fun a k p => p.imp (fun p => by unfold SN at p; unfold SXm; clear z0 e52 e53 z9 A; omega) id)) e52 e53⟩, ?_⟩
    show st (st h9 35 52 (-1)) 35 53 (-1) 35 0 = 0
    rw [st_nk (by decide), st_nk (by decide)]; exact z9
  · refine w_f q ?_
    rw [wp_lb, gd_y (by decide), wp_lb, gd_y (by decide), wp_lb]
    unfold fX6_firs_j82
    rw [wp_lb, wp_lb, wp_some]
    have f52 : st h9 35 59 v 35 52 = h9 35 52 := st_nk (by decide)
    have f53 : st (st h9 35 59 v) 60 (Int.toNat 0) (h9 35 52) 35 53 = h9 35 53 := by rw [st_na (by decide), st_nk (by decide)]
    rw [f52, f53]
    generalize he : st (st (st h9 35 59 v) 60 (Int.toNat 0) (h9 35 52)) 60 (Int.toNat 1) (h9 35 53) = hE
    have a59 : hE 35 59 = v := by rw [← he, st_na (by decide), st_na (by decide), st_self]
    have a60 : hE 60 0 = h9 35 52 := by rw [← he, st_nk (by decide)]; exact st_self
    have a61 : hE 60 1 = h9 35 53 := by rw [← he]; exact st_self
    have a0 : hE 35 0 = 0 := by rw [← he, st_na (by decide), st_na (by decide), st_nk (by decide)]; exact z9
    have sE : Same (fun a k => SH a k ∨ (a = 35 ∧ (k = 52 ∨ k = 53))) h hE := by
      rw [← he]
      have v1' : Same (fun a k => SH a k ∨ (a = 35 ∧ (k = 52 ∨ k = 53))) h h9 := v1.mono (fun a k p => p.imp (fun p => Or.inl (by unfold SN at p; unfold SXm; clear z0 e52 e53 z9 A f52 f53 a59 a60 a61 a0; omega)) id)
      exact ((v1'.st (Or.inl (Or.inr (Or.inl ⟨rfl, rfl⟩)))).st (Or.inl (Or.inr (Or.inr rfl)))).st (Or.inl (Or.inr (Or.inr rfl)))
    refine ⟨_, _, A, Or.inr ⟨q, ?_, ?_, ?_, fr_end sE e52 e53⟩, ?_⟩
    · show st (st hE 35 52 (-1)) 35 53 (-1) 35 59 = v
      rw [st_nk (by decide), st_nk (by decide)]; exact a59
    · show st (st hE 35 52 (-1)) 35 53 (-1) 60 0 = _
      rw [st_na (by decide), st_na (by decide)]; exact a60
    · show st (st hE 35 52 (-1)) 35 53 (-1) 60 1 = _
      rw [st_na (by decide), st_na (by decide)]; exact a61
    · show st (st hE 35 52 (-1)) 35 53 (-1) 35 0 = 0
      rw [st_nk (by decide), st_nk (by decide)]; exact a0
theorem firs_no {κ : Int} {x y : Int} {h : Hp} {D : LD} {ht ro : Nat → Int} {L nr : Nat} {rh : Nat → Nat} {rm : Nat → Int} (I : Inv κ h) (C : Core D ht ro L nr rh rm h) (no : ¬ ((0 ≤ x ∧ x < i_shl 1 (D.nh : Int)) ∧ 0 ≤ y ∧ y ≤ 999)) : PT κ (fX6_firs x y) (fun _ => 1) (.inr (1, h)) := by
  refine q_no I Same.rf (fun h' s => ?_)
  obtain ⟨C0, z0, s1, s2⟩ := C.z s
  have e : fX6_firs x y h' = fX6_firs_j35 x y (st h' 35 0 0) := by
    unfold fX6_firs
    show (if x < 0 then fX6_firs_j35 x y (st h' 35 0 0) else _) = _
    by_cases q1 : x < 0
    · rw [if_pos q1]
    · rw [if_neg q1, C0.nh]
      by_cases q2 : i_shl 1 (D.nh : Int) ≤ x
      · rw [if_pos q2]
      · rw [if_neg q2, m_within, if_neg (fun z => no ⟨⟨Int.not_lt.mp q1, Int.not_le.mp q2⟩, z⟩)]
        rfl
  rw [e]
  unfold fX6_firs_j35 fX6_firs_j36
  exact mr_fail z0 (by decide) (w_t rfl (wp_some.mpr (no1 s1)))
theorem s_firs {κ : Int} {x y : Int} {h : Hp} (I : Inv κ h) (hx : in32 x) : wp (fX5_firs x y h) (PT κ (fX6_firs x y) (fun _ => 1)) := by
  have I0 := I
  obtain ⟨D, ht, ro, L, nr, rh, rm, na, P, C, -, Q, M, -⟩ := I
  have LBh := C.2.2.2.1
  have hL := LBh.1
  have W := C.1
  have hn6 := W.2.2.1
  unfold fX5_firs fX5_houseBits
  have v3 : h L 3 = (D.nh : Int) := LBh.2.2.1.2.2.1
  rw [LBh.2.1, gd_y (by clear v3; omega), Int.toNat_natCast, v3, wp_bp, wp_some]
  by_cases q1 : 0 ≤ x ∧ x < i_shl 1 (D.nh : Int)
  · refine w_t ((hb_head hx hn6).mpr q1) ?_
    by_cases q2 : 0 ≤ y ∧ y ≤ 999
    · have et : fX5_isTax y h = some 1 := by
        unfold fX5_isTax
        rw [if_neg (by clear v3 q1; omega), if_neg (by clear v3 q1; omega)]
      rw [et, wp_bp, wp_some]
      refine w_f n10 ?_
      rw [wp_mi]
      refine (c_firsJ C).mono ?_
      rintro ⟨v, h1⟩ ⟨a, b, A, h9, s9, k⟩
      dsimp only at A k ⊢
      have s1 : Same SG h h1 := by
        rcases k with ⟨-, rfl⟩ | ⟨-, rfl⟩
        · exact SX_G s9
        · exact (SX_G s9).tr keF_same
      have s2 : Same SG h (st h1 68 0 v) := s1.st (Or.inl (Or.inr (Or.inr (Or.inr (Or.inl rfl)))))
      obtain ⟨C0, z0, t1, t2⟩ := (C.sg s2).z (Same.rf (h := st h1 68 0 v))
      show wp (fX6_firs x y (st h1 68 0 v)) _
      have e : fX6_firs x y (st h1 68 0 v) = fX6_firs_j36 x y 1 (st (st h1 68 0 v) 35 0 0) := by
        unfold fX6_firs
        show (if x < 0 then fX6_firs_j35 x y (st (st h1 68 0 v) 35 0 0) else _) = _
        rw [if_neg (Int.not_lt.mpr q1.1), C0.nh, if_neg (Int.not_le.mpr q1.2), m_within, if_pos q2]
        rfl
      rw [e]
      refine (m_firsJ C0 z0 hx).mono ?_
      rintro ⟨v', hq⟩ ⟨a', b', A', k', zq⟩
      dsimp only at A' k' zq ⊢
      obtain ⟨d1, d2, d3⟩ := FrA_det A A'
      subst d1
      refine ⟨zq, ?_, ?_⟩
      · rcases k' with ⟨-, k2⟩ | ⟨-, -, -, -, k2⟩
        · rw [k2 _ _ (by unfold SXm; clear v3 q1 zq z0; omega), st_na (by decide)]; exact st_self
        · rw [k2 _ _ (by unfold SH SXm; clear v3 q1 zq z0; omega), st_na (by decide)]; exact st_self
      · rcases k with ⟨q, rfl⟩ | ⟨q, rfl⟩
        · rcases k' with ⟨-, k2⟩ | ⟨n, -⟩
          · exact I0.same (((sx68 s9).tr (SXm_X t1)).tr (SXm_X k2))
          · exact absurd q n
        · rcases k' with ⟨n, -⟩ | ⟨-, k3, k4, k5, k2⟩
          · exact absurd n q
          · obtain ⟨f1, f2, f3⟩ := keF_0 (n := v) (a := a) (b := b) (h := h9)
            have x15 : hq 0 15 = v := by rw [k2 _ _ (by unfold SH SXm; clear v3 q1 zq z0 f1 f2 f3 k3 k4 k5; omega), st_na (by decide), st_na (by decide)]; exact f3
            have x34 : hq 34 0 = a := by rw [k2 _ _ (by unfold SH SXm; clear v3 q1 zq z0 f1 f2 f3 k3 k4 k5 x15; omega), st_na (by decide), st_na (by decide)]; exact f1
            have x35 : hq 34 1 = b := by rw [k2 _ _ (by unfold SH SXm; clear v3 q1 zq z0 f1 f2 f3 k3 k4 k5 x15 x34; omega), st_na (by decide), st_na (by decide)]; exact f2
            refine I0.firs ((s2.tr (SX_G t2)).tr (SH_G k2)) (Or.inr ⟨v.toNat, ?_, ?_, ?_, ?_⟩)
            · rcases FrA_n A with g | g | g | g <;> rw [g] <;> decide
            · rw [k3]
              rcases FrA_n A with g | g | g | g
              · exact absurd g q
              all_goals rw [g]; decide
            · rw [x15]
              rcases FrA_n A with g | g | g | g
              · exact absurd g q
              all_goals rw [g]; decide
            · intro i hi
              rcases FrA_n A with g | g | g | g
              · exact absurd g q
              · rw [g] at hi; exact absurd hi (Nat.not_lt_zero i)
              · rw [g] at hi
                have hi : i < 1 := hi
                obtain rfl : i = 0 := by clear v3 q1 zq z0 f1 f2 f3 k3 k4 k5 x15 x34 x35; omega
                rw [x34, k4]
                exact d2 (by rw [g]; decide)
              · rw [g] at hi
                have hi : i < 2 := hi
                have hi' : i = 0 ∨ i = 1 := by clear v3 q1 zq z0 f1 f2 f3 k3 k4 k5 x15 x34 x35; omega
                rcases hi' with rfl | rfl
                · rw [x34, k4]
                  exact d2 (by rw [g]; decide)
                · rw [x35, k5]
                  exact d3 (by rw [g]; decide)
    · have et : fX5_isTax y h = some 0 := by
        unfold fX5_isTax
        by_cases e : y < 0
        · rw [if_pos e]
        · rw [if_neg e, if_pos (by clear v3 q1; omega)]
      rw [et, wp_bp, wp_some]
      refine w_t rfl ?_
      rw [wp_some]
      exact firs_no I0 C (fun z => q2 z.2)
  · refine w_f (fun z => q1 ((hb_head hx hn6).mp z)) ?_
    rw [wp_some]
    exact firs_no I0 C (fun z => q1 z.1)
