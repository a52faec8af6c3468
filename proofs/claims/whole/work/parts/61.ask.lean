/-! pure part: questions about what there is -/
theorem Core.ms {D : LD} {ht ro : Nat → Int} {L nr : Nat} {rh : Nat → Nat} {rm : Nat → Int} {h : Hp} (C : Core D ht ro L nr rh rm h) : MS D ht (h 57) ro (fogY D (ro 61)) h := by
  obtain ⟨a1, a2, a3, a4, a5, a6, a7, a8, a9, a10, a11, a12⟩ := C
  have := a3.2.2.2
  exact ⟨a6, a7, fun c hc => rfl, a8, Or.inl ⟨a10, rfl⟩, fogY_9 a1, by omega, by omega⟩
theorem Core.present {D : LD} {ht ro : Nat → Int} {L nr : Nat} {rh : Nat → Nat} {rm : Nat → Int} {h : Hp} (C : Core D ht ro L nr rh rm h) : wp (fX5_present h) (fun r => r.1 = 20 ∧ Same SC h r.2 ∧ CS D ht (lay D ht ro) ro (fogY D (ro 61)) L r.2) := c_present C.1 C.2.2.1 (by decide) C.2.1 C.2.2.2.1
theorem Core.z {D : LD} {ht ro : Nat → Int} {L nr : Nat} {rh : Nat → Nat} {rm : Nat → Int} {h h' : Hp} (C : Core D ht ro L nr rh rm h) (s : Same SX h h') : Core D ht ro L nr rh rm (st h' 35 0 0) ∧ st h' 35 0 0 35 0 = 0 ∧ Same SXm h' (st h' 35 0 0) ∧ Same SX h (st h' 35 0 0) := by
  have s1 : Same SXm h' (st h' 35 0 0) := st_same (Or.inl ⟨rfl, Or.inl rfl⟩)
  exact ⟨C.same (s.tr (SXm_X s1)), st_self, s1, s.tr (SXm_X s1)⟩
theorem Core.layd {D : LD} {ht ro : Nat → Int} {L nr : Nat} {rh : Nat → Nat} {rm : Nat → Int} {h : Hp} (C : Core D ht ro L nr rh rm h) : wp (fX6_laysOut h) (fun r => r.1 = 0 ∧ Same S57 h r.2 ∧ MS D ht (lay D ht ro) ro (fogY D (ro 61)) r.2) := m_lay0 C.1 C.ms C.2.2.2.2.2.2.2.2.2.2.1 C.2.2.2.2.2.2.2.2.2.2.2
/-- kept through the reference's scratch -/
theorem z_kept {h h' : Hp} (h0 : h 35 0 = 0) (s : Same SN h h') : h' 35 0 = 0 := by rw [s _ _ (by unfold SN; omega)]; exact h0
theorem gd20 {α : Type} {r : Int} {x : Option α} (h : r = 20) : gd_ (r = ((20 : Nat) : Int)) x = x := gd_y h
theorem no1 {h h' : Hp} {c : Int} (s : Same SXm h h') : st h' 35 0 c 35 0 = c ∧ Same SXm h (st h' 35 0 c) := ⟨st_self, s.st (Or.inl ⟨rfl, Or.inl rfl⟩)⟩
theorem s_fault {κ : Int} {h : Hp} (I : Inv κ h) : wp (fX5_fault h) (fun r => PN κ fX6_fault (r, h)) := by
  unfold fX5_fault
  rw [wp_some]
  refine q_n I Same.rf (fun h' s => ?_)
  obtain ⟨D, ht, ro, L, nr, rh, rm, na, P, C, -, -, M, -⟩ := I
  obtain ⟨C0, z0, s1, s2⟩ := C.z s
  unfold fX6_fault
  simp only [wp_lb, wp_some]
  refine ⟨?_, s1⟩
  rw [st_nk (by decide), s _ _ (by unfold SX; omega)]
  exact M.2.2.2.1.symm
theorem s_count {κ : Int} {x : Int} {h : Hp} (I : Inv κ h) : wp (fX5_count x h) (PT κ (fX6_count x) (fun _ => 1)) := by
  have I0 := I
  obtain ⟨D, ht, ro, L, nr, rh, rm, na, P, C, -, Q, M, -⟩ := I
  have LBh := C.2.2.2.1
  have hL := LBh.1
  have W := C.1
  have gL : (L : Int) = 1 ∨ (L : Int) = 9 := by omega
  by_cases hx : 0 ≤ x ∧ x ≤ 14
  · -- the reference, past its test
    have pass : ∀ (v : Int), (∀ h0 : Hp, Core D ht ro L nr rh rm h0 → h0 35 0 = 0 → Same SX h h0 → wp (if x = 0 then some ((h0 35 1), h0) else if x = 1 then some ((h0 35 2), h0) else if x = 2 then bp_ (fX6_treesStand h0) (fun r11 => some (r11, h0)) else if x = 3 then some ((h0 35 3), h0) else if x = 4 then some ((h0 35 4), h0) else if x = 5 then gd_ (0 ≤ (60 : Int) ∧ (60 : Int) < 62) (some ((h0 54 (Int.toNat 60)), h0)) else if x = 6 then gd_ (0 ≤ (61 : Int) ∧ (61 : Int) < 62) (some ((h0 54 (Int.toNat 61)), h0)) else if x = 7 then bp_ (fX6_fogNow h0) (fun r20 => some (r20, h0)) else if x = 8 then bd_ (fX6_sum h0) (fun r23 h25 => some (r23, h25)) else if x = 9 then some ((h0 35 49), h0) else if x = 10 then some ((h0 35 65), h0) else if x = 11 then some ((h0 35 13), h0) else gd_ (0 ≤ (i_sub x 12) ∧ (i_sub x 12) < 3) (some ((h0 43 (Int.toNat ((i_sub x 12)))), h0))) (fun y => y.1 = v ∧ y.2 35 0 = 0 ∧ Same SXm h0 y.2)) →
        ∀ h', Same SX h h' → wp (fX6_count x h') (fun y => y.1 = v ∧ y.2 35 0 = 0 ∧ Same SXm h' y.2) := by
      intro v hv h' s
      obtain ⟨C0, z0, s1, s2⟩ := C.z s
      unfold fX6_count
      simp only [wp_lb]
      generalize st h' 35 0 0 = h0 at *
      rw [m_within, if_pos hx]
      simp only [wp_bp, wp_some, wp_bd]
      rw [m_right1 z0 (by decide), wp_some]
      dsimp only
      rw [if_neg (by decide)]
      exact (hv h0 C0 z0 s2).mono (fun y hy => ⟨hy.1, hy.2.1, s1.tr hy.2.2⟩)
    have pure1 : ∀ (v : Int), (∀ h0 : Hp, Core D ht ro L nr rh rm h0 → h0 35 0 = 0 → Same SX h h0 → wp (if x = 0 then some ((h0 35 1), h0) else if x = 1 then some ((h0 35 2), h0) else if x = 2 then bp_ (fX6_treesStand h0) (fun r11 => some (r11, h0)) else if x = 3 then some ((h0 35 3), h0) else if x = 4 then some ((h0 35 4), h0) else if x = 5 then gd_ (0 ≤ (60 : Int) ∧ (60 : Int) < 62) (some ((h0 54 (Int.toNat 60)), h0)) else if x = 6 then gd_ (0 ≤ (61 : Int) ∧ (61 : Int) < 62) (some ((h0 54 (Int.toNat 61)), h0)) else if x = 7 then bp_ (fX6_fogNow h0) (fun r20 => some (r20, h0)) else if x = 8 then bd_ (fX6_sum h0) (fun r23 h25 => some (r23, h25)) else if x = 9 then some ((h0 35 49), h0) else if x = 10 then some ((h0 35 65), h0) else if x = 11 then some ((h0 35 13), h0) else gd_ (0 ≤ (i_sub x 12) ∧ (i_sub x 12) < 3) (some ((h0 43 (Int.toNat ((i_sub x 12)))), h0))) (fun y => y.1 = v ∧ y.2 35 0 = 0 ∧ Same SXm h0 y.2)) → fX5_count x h = some (.inl (v, h)) → wp (fX5_count x h) (PT κ (fX6_count x) (fun _ => 1)) := by
      intro v hv e
      rw [e, wp_some]
      exact q_ok I0 Same.rf (pass v hv)
    have cases : x = 0 ∨ x = 1 ∨ x = 2 ∨ x = 3 ∨ x = 4 ∨ x = 5 ∨ x = 6 ∨ x = 7 ∨ x = 8 ∨ x = 9 ∨ x = 10 ∨ x = 11 ∨ x = 12 ∨ x = 13 ∨ x = 14 := by omega
    rcases cases with rfl | rfl | rfl | rfl | rfl | rfl | rfl | rfl | rfl | rfl | rfl | rfl | rfl | rfl | rfl
    · refine pure1 (D.w : Int) (fun h0 C0 z0 s2 => wp_some.mpr ⟨C0.2.2.2.2.2.1.1, z0, Same.rf⟩) ?_
      show mi_ (fX5_count_j76 h) = _
      unfold fX5_count_j76
      rw [LBh.2.1, gd_y gL, Int.toNat_natCast, LBh.2.2.1.1]
      rfl
    · refine pure1 (D.d : Int) (fun h0 C0 z0 s2 => wp_some.mpr ⟨C0.2.2.2.2.2.1.2.1, z0, Same.rf⟩) ?_
      show mi_ (fX5_count_j84 h) = _
      unfold fX5_count_j84
      rw [LBh.2.1, gd_y gL, Int.toNat_natCast, LBh.2.2.1.2.1]
      rfl
    · refine pure1 (cT ro 12) (fun h0 C0 z0 s2 => ?_) ?_
      · show wp (bp_ (fX6_treesStand h0) (fun r11 => some (r11, h0))) _
        rw [m_treesStand, wp_bp, wp_some, wp_some]
        exact ⟨cT_congr C0.2.2.2.2.2.2.2.1.1, z0, Same.rf⟩
      · show mi_ (fX5_count_j92 h) = _
        unfold fX5_count_j92
        rw [c_trees27, cT_congr LBh.2.2.2.2.1]
        rfl
    · refine pure1 (D.nh : Int) (fun h0 C0 z0 s2 => wp_some.mpr ⟨C0.2.2.2.2.2.1.2.2.1, z0, Same.rf⟩) ?_
      show mi_ (fX5_count_j103 h) = _
      unfold fX5_count_j103
      rw [LBh.2.1, gd_y gL, Int.toNat_natCast, LBh.2.2.1.2.2.1]
      rfl
    · refine pure1 (D.nl : Int) (fun h0 C0 z0 s2 => wp_some.mpr ⟨C0.2.2.2.2.2.1.2.2.2.1, z0, Same.rf⟩) ?_
      show mi_ (fX5_count_j111 h) = _
      unfold fX5_count_j111
      rw [LBh.2.1, gd_y gL, Int.toNat_natCast, LBh.2.2.1.2.2.2.1]
      rfl
    · refine pure1 (ro 60) (fun h0 C0 z0 s2 => ?_) ?_
      · show wp (gd_ (0 ≤ (60 : Int) ∧ (60 : Int) < 62) (some ((h0 54 (Int.toNat 60)), h0))) _
        rw [gd_y (by decide), wp_some]
        exact ⟨C0.2.2.2.2.2.2.2.1.2.2.2.1, z0, Same.rf⟩
      · show mi_ (fX5_count_j119 h) = _
        unfold fX5_count_j119
        rw [gd_y (by decide), show h 27 (Int.toNat 60) = ro 60 from LBh.2.2.2.2.2.2.2.1]
        rfl
    · refine pure1 (ro 61) (fun h0 C0 z0 s2 => ?_) ?_
      · show wp (gd_ (0 ≤ (61 : Int) ∧ (61 : Int) < 62) (some ((h0 54 (Int.toNat 61)), h0))) _
        rw [gd_y (by decide), wp_some]
        exact ⟨C0.2.2.2.2.2.2.2.1.2.2.2.2, z0, Same.rf⟩
      · show mi_ (fX5_count_j130 h) = _
        unfold fX5_count_j130
        rw [gd_y (by decide), show h 27 (Int.toNat 61) = ro 61 from LBh.2.2.2.2.2.2.2.2]
        rfl
    · refine pure1 (fogY D (ro 61) : Int) (fun h0 C0 z0 s2 => ?_) ?_
      · show wp (bp_ (fX6_fogNow h0) (fun r20 => some (r20, h0))) _
        rw [m_fogNow W C0.ms, wp_bp, wp_some, wp_some]
        exact ⟨rfl, z0, Same.rf⟩
      · show mi_ (fX5_count_j141 h) = _
        unfold fX5_count_j141
        have hy := C.2.2.1.2.2.2
        rw [gd_y (by decide), show h 27 (Int.toNat 61) = ro 61 from LBh.2.2.2.2.2.2.2.2, LBh.2.1, gd_y gL, c_fogOf W hL LBh.2.2.1 ⟨by omega, by omega⟩]
        rfl
    · have hm := pass (sm (fun i => txH D ht (lay D ht ro) ro (fogY D (ro 61)) i (ro 60)) D.nh) (fun h0 C0 z0 s2 => by
        show wp (bd_ (fX6_sum h0) (fun r23 h25 => some (r23, h25))) _
        rw [wp_bd]
        refine (m_sum W C0.2.2.1 C0.ms C0.2.2.2.2.2.2.2.2.2.2.1 C0.2.2.2.2.2.2.2.2.2.2.2).mono ?_
        rintro r ⟨r1, r2⟩
        rw [wp_some]
        exact ⟨r1, z_kept z0 r2, SN_m r2⟩)
      show wp (mi_ (fX5_count_j159 h)) _
      unfold fX5_count_j159
      simp only [wp_mi, wp_bd]
      refine C.present.mono ?_
      rintro ⟨r, h3⟩ ⟨r1, r2, r3⟩
      dsimp only at r1 r2 r3 ⊢
      simp only [wp_gd, wp_bd]
      refine ⟨r1, ?_⟩
      refine (c_taxOfAll W r3 C.2.2.1.2.2.1).mono ?_
      rintro ⟨v, h5⟩ ⟨v1, v2⟩
      dsimp only at v1 v2 ⊢
      subst v1
      rw [wp_some]
      exact q_ok I0 ((SC_X r2).tr (SL_X v2)) hm
    · refine pure1 (na : Int) (fun h0 C0 z0 s2 => wp_some.mpr ⟨by rw [s2 _ _ (by unfold SX; omega)]; exact Q.2.2.2.1, z0, Same.rf⟩) ?_
      show mi_ (fX5_count_j167 h) = _
      unfold fX5_count_j167
      rw [Q.2.2.1]
      rfl
    · refine pure1 (nr : Int) (fun h0 C0 z0 s2 => wp_some.mpr ⟨C0.2.2.2.2.2.2.2.2.1.2.1, z0, Same.rf⟩) ?_
      show mi_ (fX5_count_j175 h) = _
      unfold fX5_count_j175
      rw [C.2.2.2.2.1.2.1]
      rfl
    · refine pure1 (h 0 9) (fun h0 C0 z0 s2 => wp_some.mpr ⟨by rw [s2 _ _ (by unfold SX; omega)]; exact M.2.1.symm, z0, Same.rf⟩) ?_
      rfl
    · refine pure1 (h 0 11) (fun h0 C0 z0 s2 => ?_) rfl
      show wp (gd_ (0 ≤ (i_sub 12 12) ∧ (i_sub 12 12) < 3) (some ((h0 43 (Int.toNat ((i_sub 12 12)))), h0))) _
      rw [show i_sub 12 12 = 0 by decide, gd_y (by decide), wp_some]
      exact ⟨by show h0 43 0 = _; rw [s2 _ _ (by unfold SX; omega)]; exact M.2.2.2.2.1.symm, z0, Same.rf⟩
    · refine pure1 (h 0 12) (fun h0 C0 z0 s2 => ?_) rfl
      show wp (gd_ (0 ≤ (i_sub 13 12) ∧ (i_sub 13 12) < 3) (some ((h0 43 (Int.toNat ((i_sub 13 12)))), h0))) _
      rw [show i_sub 13 12 = 1 by decide, gd_y (by decide), wp_some]
      exact ⟨by show h0 43 1 = _; rw [s2 _ _ (by unfold SX; omega)]; exact M.2.2.2.2.2.1.symm, z0, Same.rf⟩
    · refine pure1 (h 0 13) (fun h0 C0 z0 s2 => ?_) rfl
      show wp (gd_ (0 ≤ (i_sub 14 12) ∧ (i_sub 14 12) < 3) (some ((h0 43 (Int.toNat ((i_sub 14 12)))), h0))) _
      rw [show i_sub 14 12 = 2 by decide, gd_y (by decide), wp_some]
      exact ⟨by show h0 43 2 = _; rw [s2 _ _ (by unfold SX; omega)]; exact M.2.2.2.2.2.2.1.symm, z0, Same.rf⟩
  · have e : fX5_count x h = some (.inr (0, h)) := by
      unfold fX5_count
      rw [if_neg (by omega), if_neg (by omega), if_neg (by omega), if_neg (by omega), if_neg (by omega), if_neg (by omega), if_neg (by omega), if_neg (by omega), if_neg (by omega), if_neg (by omega), if_neg (by omega), if_neg (by omega), if_neg (by omega), if_neg (by omega), if_neg (by omega)]
    rw [e, wp_some]
    refine q_no I0 Same.rf (fun h' s => ?_)
    obtain ⟨C0, z0, s1, s2⟩ := C.z s
    unfold fX6_count
    simp only [wp_lb]
    generalize st h' 35 0 0 = h0 at *
    rw [m_within, if_neg hx]
    simp only [wp_bp, wp_some, wp_bd]
    rw [m_right0 z0 (by decide), wp_some]
    dsimp only
    rw [if_pos rfl, wp_some]
    exact no1 s1
