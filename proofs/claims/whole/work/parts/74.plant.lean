/-! pure part: plant, tell, forget -/
def plR (f : Nat → Int) (n : Nat) (c top : Int) : Nat → Int := up (up (up f n c) (12 + n) 1) (24 + n) top
theorem plR_o {f : Nat → Int} {n : Nat} {c top : Int} {k : Nat} (h1 : k ≠ n) (h2 : k ≠ 12 + n) (h3 : k ≠ 24 + n) : plR f n c top k = f k := by
  unfold plR
  rw [up_n h3, up_n h2, up_n h1]
theorem plR_0 {f : Nat → Int} {n : Nat} {c top : Int} : plR f n c top n = c := by
  unfold plR
  rw [up_n (by omega), up_n (by omega), up_s]
theorem plR_1 {f : Nat → Int} {n : Nat} {c top : Int} : plR f n c top (12 + n) = 1 := by
  unfold plR
  rw [up_n (by omega), up_s]
theorem plR_2 {f : Nat → Int} {n : Nat} {c top : Int} : plR f n c top (24 + n) = top := by
  unfold plR
  rw [up_s]
theorem RR.plant {D : LD} {ro r : Nat → Int} {n : Nat} {c top : Int} (R : RR D ro r) (hn : n < 12) : RR D (plR ro n c top) (plR r n c top) := by
  obtain ⟨r1, r2, r3, r4, r5⟩ := R
  have key : ∀ k, k = n ∨ k = 12 + n ∨ k = 24 + n ∨ r k = ro k → plR r n c top k = plR ro n c top k := fun k e => by
    by_cases e1 : k = n
    · rw [e1, plR_0, plR_0]
    · by_cases e2 : k = 12 + n
      · rw [e2, plR_1, plR_1]
      · by_cases e3 : k = 24 + n
        · rw [e3, plR_2, plR_2]
        · rw [plR_o e1 e2 e3, plR_o e1 e2 e3]
          rcases e with e | e | e | e
          · exact absurd e e1
          · exact absurd e e2
          · exact absurd e e3
          · exact e
  refine ⟨fun u hu => key _ (Or.inr (Or.inr (Or.inr (r1 u hu)))), fun u hu hne => ?_, fun i hi => ⟨key _ (Or.inr (Or.inr (Or.inr (r3 i hi).1))), key _ (Or.inr (Or.inr (Or.inr (r3 i hi).2.1))), key _ (Or.inr (Or.inr (Or.inr (r3 i hi).2.2.1))), key _ (Or.inr (Or.inr (Or.inr (r3 i hi).2.2.2)))⟩, key _ (Or.inr (Or.inr (Or.inr r4))), key _ (Or.inr (Or.inr (Or.inr r5)))⟩
  by_cases e : u = n
  · subst e
    exact ⟨key _ (Or.inr (Or.inl rfl)), key _ (Or.inr (Or.inr (Or.inl rfl)))⟩
  · rw [plR_o e (by omega) (by omega)] at hne
    exact ⟨key _ (Or.inr (Or.inr (Or.inr (r2 u hu hne).1))), key _ (Or.inr (Or.inr (Or.inr (r2 u hu hne).2)))⟩
theorem RW.plant {D : LD} {Y n : Nat} {ro : Nat → Int} {c top : Int} (W : DW D) (R : RW D Y ro) (hn : n < 12) (hc : 0 ≤ c ∧ c < (D.cl : Int)) (h1 : tIn ro c = -1) (h2 : hIn D c = -1) (ht : 1 ≤ top ∧ top ≤ 9) : RW D Y (plR ro n c top) := by
  have h6 := W.2.2.1
  obtain ⟨r1, r2, r3, r4⟩ := R
  have t1 := tIn_no.mp h1
  have t2 := hIn_no.mp h2
  refine ⟨fun u hu hne => ?_, fun i hi => ?_, ?_, ?_⟩
  · by_cases e : u = n
    · subst e
      rw [plR_0, plR_1, plR_2]
      refine ⟨hc, ⟨by omega, by omega⟩, ht, fun i hi q => t2 i hi q.symm, fun v hv q => ?_⟩
      by_cases e2 : v = u
      · exact e2
      · rw [plR_o e2 (by omega) (by omega)] at q
        exact absurd q (t1 v hv)
    · rw [plR_o e (by omega) (by omega)] at hne ⊢
      rw [plR_o (by omega) (by omega) (by omega), plR_o (by omega) (by omega) (by omega)]
      obtain ⟨a, b, d, f, g⟩ := r1 u hu hne
      refine ⟨a, b, d, f, fun v hv q => ?_⟩
      by_cases e2 : v = n
      · subst e2
        rw [plR_0] at q
        exact absurd q.symm (t1 u hu)
      · rw [plR_o e2 (by omega) (by omega)] at q
        exact g v hv q
  · rw [plR_o (by omega) (by omega) (by omega), plR_o (by omega) (by omega) (by omega), plR_o (by omega) (by omega) (by omega), plR_o (by omega) (by omega) (by omega)]
    exact r2 i hi
  · rw [plR_o (by omega) (by omega) (by omega)]; exact r3
  · rw [plR_o (by omega) (by omega) (by omega)]; exact r4
theorem st_plR {h : Hp} {a n : Nat} {c top : Int} : st (st (st h a n c) a (12 + n) 1) a (24 + n) top a = plR (h a) n c top := by
  rw [st_up, st_up, st_up]
  rfl
theorem m_free {h : Hp} {x1 x2 : Int} : it_ (fun s => fX6_plant_l17 x1 x2 s h) FU (0 : Int) = some (if tIn (h 54) (-1) = -1 then 12 else tIn (h 54) (-1)) := by
  have key : wp (it_ (fun s => fX6_plant_l17 x1 x2 s h) FU (0 : Int)) (fun v => v = if tIn (h 54) (-1) = -1 then 12 else tIn (h 54) (-1)) := by
    refine wp_for (fun k (s : Int) => s = (k : Int) ∧ ∀ j, j < k → decide (h 54 j = -1) = false) 12 ?_ ?_ (FU_big (by decide)) ⟨rfl, fun j hj => absurd hj (by omega)⟩
    · rintro k s hk ⟨rfl, hj⟩
      unfold fX6_plant_l17
      simp only [wp_ite, wp_gd, wp_some, E2_l, E2_r, i0 (show k < 4000 by omega), Int.toNat_natCast]
      refine ⟨fun q => absurd q (by omega), fun _ => ⟨⟨by omega, by omega⟩, fun q => ?_, fun q => ⟨i1 (by omega), fun j hj' => ?_⟩⟩⟩
      · have e : tIn (h 54) (-1) = (k : Int) := fi_at hk (by simp [q]) hj
        rw [e, if_neg (by omega)]
      · by_cases e : j = k
        · subst e; simp [q]
        · exact hj j (by omega)
    · rintro s ⟨rfl, hj⟩
      unfold fX6_plant_l17
      have e : tIn (h 54) (-1) = -1 := fi_no.mpr hj
      rw [e, if_pos rfl]
      exact w_t (by decide) (wp_some.mpr rfl)
  obtain ⟨v, e, rfl⟩ := key
  exact e
theorem s_plant {κ : Int} {x y : Int} {h : Hp} (I : Inv κ h) : wp (fX5_plant x y h) (PT κ (fX6_plant x y) (fun _ => 1)) := by
  have I0 := I
  obtain ⟨D, ht, ro, L, nr, rh, rm, na, P, C, O, Q, M, G⟩ := I
  obtain ⟨⟨q1, q2⟩, qc, qm⟩ := past_iff.mp Q
  have LBh := C.2.2.2.1
  have W := C.1
  have hL := LBh.1
  have gL : (L : Int) = 1 ∨ (L : Int) = 9 := by omega
  unfold fX5_plant
  by_cases hx : 0 ≤ x ∧ x < (D.cl : Int)
  · refine nc_pass W LBh.1 LBh.2.1 LBh.2.2.1 hx ?_
    by_cases ok : (1 ≤ y ∧ y ≤ 9) ∧ tIn ro (-1) ≠ -1 ∧ tIn ro x = -1 ∧ hIn D x = -1
    · obtain ⟨o1, o2, o3, o4⟩ := ok
      obtain ⟨n, n12, nf, nr0⟩ := tIn_yes o2
      have e : fX5_plant_j5 x y h = bd_ (fX0_remember_26 h) (fun r14 h16 => gd_ (0 ≤ (i_add 0 (n : Int)) ∧ (i_add 0 (n : Int)) < 62) (lb_ (st h16 27 (Int.toNat ((i_add 0 (n : Int)))) x) (fun h18 => gd_ (0 ≤ (i_add 12 (n : Int)) ∧ (i_add 12 (n : Int)) < 62) (lb_ (st h18 27 (Int.toNat ((i_add 12 (n : Int)))) 1) (fun h20 => gd_ (0 ≤ (i_add 24 (n : Int)) ∧ (i_add 24 (n : Int)) < 62) (lb_ (st h20 27 (Int.toNat ((i_add 24 (n : Int)))) y) (fun h22 => some ((n : Int), h22)))))))) := by
        unfold fX5_plant_j5 fX5_freeNumber_27
        rw [c_treeIn_27, tIn_rr LBh.2.2.2.2, c_treeIn_27, tIn_rr LBh.2.2.2.2, nf, o3, LBh.2.1, c_houseIn W hL LBh.2.2.1, o4]
        simp only [bp_]
        rw [if_pos trivial, gd_y gL, if_pos trivial]
        unfold fX5_plant_j48
        rw [if_neg (by omega), if_neg (by omega), if_neg (by omega), if_pos rfl]
      have e12 : i_add 12 (n : Int) = ((12 + n : Nat) : Int) := ik (c := 12) (by omega) (by decide)
      have e24 : i_add 24 (n : Int) = ((24 + n : Nat) : Int) := ik (c := 24) (by omega) (by decide)
      have g0 : (0 : Int) ≤ (n : Int) ∧ (n : Int) < 62 := by clear e12 e24; omega
      have g12 : (0 : Int) ≤ ((12 + n : Nat) : Int) ∧ ((12 + n : Nat) : Int) < 62 := by clear e12 e24; omega
      have g24 : (0 : Int) ≤ ((24 + n : Nat) : Int) ∧ ((24 + n : Nat) : Int) < 62 := by clear e12 e24; omega
      have e0 : i_add 0 (n : Int) = (n : Int) := i0 (by clear e12 e24; omega)
      rw [e, wp_mi, wp_bd]
      refine (c_remember W LBh.2.2.2.2 q1 qc).mono ?_
      rintro ⟨r, h8⟩ ⟨s8, p8⟩
      dsimp only at s8 p8 ⊢
      rw [e0, e12, e24, gd_y g0, wp_lb, gd_y g12, wp_lb, gd_y g24, wp_lb, wp_some, Int.toNat_natCast, Int.toNat_natCast, Int.toNat_natCast]
      refine act_ok C O M G ((((SR_A s8).st (Or.inr (Or.inr (Or.inl rfl)))).st (Or.inr (Or.inr (Or.inl rfl)))).st (Or.inr (Or.inr (Or.inl rfl)))) (C.2.2.1.plant W n12 hx o3 o4 o1) ?_ (nP_le q1) (pP_W q1 q2 C.2.2.1) (p8.sm (by rw [st_na (by decide), st_na (by decide), st_na (by decide)]) (by rw [st_na (by decide), st_na (by decide), st_na (by decide)]) (fun k => by rw [st_na (by decide), st_na (by decide), st_na (by decide)])) (fun h' s => ?_)
      · rw [st_plR]
        exact (LBh.2.2.2.2.same (fun k => s8 _ _ (by unfold SR; omega))).plant n12
      · obtain ⟨m1, m2, m3, m4, m5, -⟩ := C.mz2 qm (mz_A s)
        unfold fX6_plant
        refine mc_pass W m1 m3 hx (w_f n10 ?_)
        rw [m_free, tIn_rr m2, nf, if_neg (by clear e0 e12 e24; omega), wp_bp, wp_some]
        unfold fX6_plant_j41
        refine w_f (by clear e0 e12 e24; omega) ?_
        rw [m_within, if_pos o1, wp_bp, wp_some]
        refine w_f n10 ?_
        rw [m_isBare W m1 m2, if_pos (by unfold bare; simp [o3, o4]), wp_bp, wp_some]
        refine w_f n10 ?_
        rw [wp_bd]
        refine (m_keeps W m2 q1 m4).mono ?_
        rintro ⟨r, h9⟩ ⟨s9, p9⟩
        dsimp only at s9 p9 ⊢
        rw [e0, e12, e24, gd_y g0, wp_lb, gd_y g12, wp_lb, gd_y g24, wp_lb, wp_some, Int.toNat_natCast, Int.toNat_natCast, Int.toNat_natCast]
        dsimp only
        refine ⟨rfl, ?_, ((((SXm_A m5).tr (SK_A s9)).st (Or.inr (Or.inl rfl))).st (Or.inr (Or.inl rfl))).st (Or.inr (Or.inl rfl)), ?_, p9.sm (by rw [st_na (by decide), st_na (by decide), st_na (by decide)]) (fun k => by rw [st_na (by decide), st_na (by decide), st_na (by decide)])⟩
        · rw [st_na (by decide), st_na (by decide), st_na (by decide), s9 _ _ (by unfold SK; clear e0 e12 e24; omega)]
          exact m3
        · rw [st_plR]
          exact (m2.same (fun k => s9 _ _ (by unfold SK; clear e0 e12 e24; omega))).plant n12
    · have e : fX5_plant_j5 x y h = some (-1, st h 0 (11 + 1) (i_add (h 0 (11 + 1)) 1)) := by
        unfold fX5_plant_j5 fX5_freeNumber_27
        rw [c_treeIn_27, tIn_rr LBh.2.2.2.2, c_treeIn_27, tIn_rr LBh.2.2.2.2, LBh.2.1, c_houseIn W hL LBh.2.2.1]
        simp only [bp_]
        have j71 : fX5_plant_j71 h = some (-1, st h 0 (11 + 1) (i_add (h 0 (11 + 1)) 1)) := rfl
        have j48 : ∀ z, ((1 ≤ y ∧ y ≤ 9) ∧ tIn ro (-1) ≠ -1 → z ≠ 0) → fX5_plant_j48 x y (tIn ro (-1)) z h = some (-1, st h 0 (11 + 1) (i_add (h 0 (11 + 1)) 1)) := by
          intro z hz
          unfold fX5_plant_j48
          rw [j71]
          by_cases a1 : y < 1
          · rw [if_pos a1]
          · rw [if_neg a1]
            by_cases a2 : 9 < y
            · rw [if_pos a2]
            · rw [if_neg a2]
              by_cases a3 : tIn ro (-1) = -1
              · rw [if_pos a3]
              · rw [if_neg a3, if_neg (hz ⟨⟨by omega, by omega⟩, a3⟩)]
        by_cases b1 : tIn ro x = -1
        · rw [if_pos b1, gd_y gL]
          by_cases b2 : hIn D x = -1
          · rw [if_pos b2]
            exact j48 0 (fun q => absurd ⟨q.1, q.2, b1, b2⟩ ok)
          · rw [if_neg b2]
            exact j48 1 (fun _ => by decide)
        · rw [if_neg b1]
          exact j48 1 (fun _ => by decide)
      rw [e, wp_mi, wp_some]
      refine ref_T I0 (by decide) (fun h' s => ?_)
      obtain ⟨m1, m2, m3, m4, m5, -⟩ := C.mz2 qm (mz_F s)
      have k : wp (fX6_plant_j65 (st h' 35 0 0)) (fun y => y.1 = -1 ∧ ∃ hq, hq 35 0 = 0 ∧ Same SXm h' hq ∧ y.2 = st hq 43 1 (i_add (hq 43 1) 1)) := by
        unfold fX6_plant_j65
        rw [show (1 : Int) = ((1 : Nat) : Int) from rfl, m_refuses (by decide), wp_bd, wp_some, wp_some]
        exact ⟨rfl, _, m3, m5, rfl⟩
      unfold fX6_plant
      refine mc_pass W m1 m3 hx (w_f n10 ?_)
      rw [m_free, tIn_rr m2, wp_bp, wp_some]
      unfold fX6_plant_j41
      by_cases a3 : tIn ro (-1) = -1
      · rw [if_pos a3]
        exact w_t rfl k
      · rw [if_neg a3]
        have := fi_rg (p := fun t => decide (ro t = -1)) (n := 12)
        refine w_f (by have h9 : tIn ro (-1) < 12 := this.2; omega) ?_
        rw [m_within, wp_bp, wp_some]
        by_cases a1 : 1 ≤ y ∧ y ≤ 9
        · rw [if_pos a1]
          refine w_f n10 ?_
          rw [m_isBare W m1 m2, if_neg, wp_bp, wp_some]
          · exact w_t rfl k
          · unfold bare
            intro q
            simp only [Bool.and_eq_true, decide_eq_true_eq] at q
            exact ok ⟨a1, a3, q.1, q.2⟩
        · rw [if_neg a1]
          exact w_t rfl k
  · refine nc_fail W LBh.1 LBh.2.1 LBh.2.2.1 hx ?_
    refine q_no I0 Same.rf (fun h' s => ?_)
    obtain ⟨C0, z0, s1, s2⟩ := C.z s
    unfold fX6_plant
    exact mc_fail W C0.2.2.2.2.2.1 z0 hx (w_t rfl (wp_some.mpr (no1 s1)))
/-- RETURNS changed on both sides -/
theorem Inv.told {κ : Int} {D : LD} {ht ro : Nat → Int} {L nr nr' na : Nat} {rh rh' : Nat → Nat} {rm rm' : Nat → Int} {P : Nat → Nat → Int} {h h2 : Hp} (C : Core D ht ro L nr rh rm h) (O : Oth h L) (Q : PastOK D na P 26 56 (h 35 49) h) (M : Misc D h) (G : Img κ D h) (s : ∀ a k, ¬ SX a k → ¬ (a = 26 ∧ k = 6) → a ≠ 29 → a ≠ 30 → ¬ (a = 35 ∧ k = 65) → a ≠ 64 → h2 a k = h a k) (t1 : RT D nr' rh' rm' h2) (t2 : RM D nr' rh' rm' h2) : Inv κ h2 := by
  have L19 := C.2.2.2.1.1
  have q : ∀ a k, ¬ SX a k → ¬ (a = 26 ∧ k = 6) ∧ a ≠ 29 ∧ a ≠ 30 ∧ ¬ (a = 35 ∧ k = 65) ∧ a ≠ 64 → h2 a k = h a k := fun a k n p => s a k n p.1 p.2.1 p.2.2.1 p.2.2.2.1 p.2.2.2.2
  obtain ⟨a1, a2, a3, ⟨b1, b2, b3, b4, b5⟩, -, a6, a7, a8, -, a10, a11, a12⟩ := C
  obtain ⟨⟨p1, p2⟩, p3, p4⟩ := past_iff.mp Q
  refine ⟨D, ht, ro, L, nr', rh', rm', na, P, ⟨a1, a2, a3, ⟨b1, ?_, b3.same (fun a k q1 q2 => q _ _ (by unfold SX; omega) (by omega)), fun c hc => ?_, b5.same (fun k => q _ _ (by unfold SX; omega) (by omega))⟩, t1, a6.same (fun a k p => q _ _ (by unfold SX; omega) (by omega)), fun c hc => ?_, a8.same (fun k => q _ _ (by unfold SX; omega) (by omega)), t2, ?_, ?_, ?_⟩, ?_, past_iff.mpr ⟨⟨p1, p2⟩, p3.sm (q _ _ (by unfold SX; omega) (by omega)) (q _ _ (by unfold SX; omega) (by omega)) (fun k => q _ _ (by unfold SX; omega) (by omega)), p4.sm (q _ _ (by unfold SX; omega) (by omega)) (fun k => q _ _ (by unfold SX; omega) (by omega))⟩, M.cg (fun a k p => q _ _ (by unfold SX; omega) (by omega)), G.cg (fun a k p => q _ _ (by unfold SX; omega) (by omega))⟩
  · rw [q _ _ (by unfold SX; omega) (by omega)]; exact b2
  · rw [q _ _ (by unfold SX; omega) (by omega)]; exact b4 c hc
  · rw [q _ _ (by unfold SX; omega) (by omega)]; exact a7 c hc
  · rw [q _ _ (by unfold SX; omega) (by omega)]; exact a10
  · rw [q _ _ (by unfold SX; omega) (by omega)]; exact a11
  · rw [q _ _ (by unfold SX; omega) (by omega)]; exact a12
  · unfold Oth at O ⊢
    rw [q _ _ (by unfold SX; omega) (by omega)]; exact O
theorem s_forget {κ : Int} {h : Hp} (I : Inv κ h) : wp (fX5_forget h) (fun q => wp (fX6_forget q.2) (fun y => Inv κ y.2)) := by
  obtain ⟨D, ht, ro, L, nr, rh, rm, na, P, C, O, Q, M, G⟩ := I
  unfold fX5_forget fX6_forget
  rw [wp_lb, wp_some, wp_lb, wp_lb, wp_some]
  dsimp only
  refine Inv.told (nr' := 0) (rh' := rh) (rm' := rm) C O Q M G (fun a k n n1 n2 n3 n4 n5 => ?_) ⟨by decide, ?_, fun i hi => absurd hi (by omega)⟩ ⟨by decide, st_self, fun i hi => absurd hi (by omega)⟩
  · have e1 : st (st (st h 26 6 0) 35 0 0) 35 65 0 a k = st (st h 26 6 0) 35 0 0 a k := if_neg n4
    have e2 : st (st h 26 6 0) 35 0 0 a k = st h 26 6 0 a k := if_neg (fun z => n (by unfold SX; omega))
    have e3 : st h 26 6 0 a k = h a k := if_neg n1
    rw [e1, e2, e3]
  · rw [st_na (by decide), st_na (by decide), st_self]
    rfl
