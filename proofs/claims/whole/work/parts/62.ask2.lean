/-! pure part: questions about cells, trees, houses -/
theorem vwF {D : LD} {ht sd ro : Nat → Int} {fog i n : Nat} : lkF D.w D.d sd fog (D.hc i) (i_add (i_add (ht (D.hc i)) 2) (ro (42 + i))) (shB (D.kd i) (ro (54 + i))) n = (if shB (D.kd i) (ro (54 + i)) n = true then 0 else (lkD D.w D.d sd fog (D.hc i) (i_add (i_add (ht (D.hc i)) 2) (ro (42 + i))) n 0).1) := rfl
theorem s_cell {κ : Int} {x y : Int} {h : Hp} (I : Inv κ h) : wp (fX5_cell x y h) (PT κ (fX6_cell x y) (fun _ => 1)) := by
  have I0 := I
  obtain ⟨D, ht, ro, L, nr, rh, rm, na, P, C, -, Q, M, -⟩ := I
  have LBh := C.2.2.2.1
  have hL := LBh.1
  have W := C.1
  have hc64 : D.cl ≤ 64 := cl64 W.1.2 W.2.1.2
  have gL : (L : Int) = 1 ∨ (L : Int) = 9 := by omega
  have l1 : ((L : Int) + 1).toNat = L + 1 := by omega
  unfold fX5_cell
  rw [c_needCell W hL LBh.2.1 LBh.2.2.1, wp_bx]
  by_cases hx : 0 ≤ x ∧ x < (D.cl : Int)
  · rw [if_pos hx, wp_some]
    dsimp only
    obtain ⟨c, rfl⟩ : ∃ c : Nat, x = (c : Int) := ⟨x.toNat, by omega⟩
    have hc : c < D.cl := by omega
    have gc : (0 : Int) ≤ (c : Int) ∧ (c : Int) < 64 := by omega
    have pre : ∀ h', Same SX h h' → ∃ h0, Core D ht ro L nr rh rm h0 ∧ h0 35 0 = 0 ∧ Same SXm h' h0 ∧ Same SX h h0 ∧ ∀ Z : Int × Hp → Prop, (0 ≤ y ∧ y ≤ 4 → wp (bd_ (fX6_laysOut h0) (fun r10 h12 => (if y = 0 then gd_ (0 ≤ (c : Int) ∧ (c : Int) < 64) (some ((h12 36 (Int.toNat (c : Int))), h12)) else (if y = 1 then gd_ (0 ≤ (c : Int) ∧ (c : Int) < 64) (some ((h12 57 (Int.toNat (c : Int))), h12)) else (if y = 2 then bp_ (fX6_treeIn (c : Int) h12) (fun r22 => some (r22, h12)) else (if y = 3 then bp_ (fX6_houseIn (c : Int) h12) (fun r20 => some (r20, h12)) else bd_ (fX6_seenFrom (c : Int) h12) (fun r17 h19 => some (r17, h19)))))))) Z) → (¬ (0 ≤ y ∧ y ≤ 4) → Z (0, st h0 35 0 1)) → wp (fX6_cell (c : Int) y h') Z := by
      intro h' s
      obtain ⟨C0, z0, s1, s2⟩ := C.z s
      refine ⟨_, C0, z0, s1, s2, fun Z g1 g2 => ?_⟩
      unfold fX6_cell
      simp only [wp_lb, wp_bd]
      generalize st h' 35 0 0 = h0 at *
      rw [m_isCell W C0.2.2.2.2.2.1 z0, if_pos hx, wp_some]
      dsimp only
      rw [if_neg (by decide), wp_bd, m_isWhat z0, wp_some]
      by_cases hy : 0 ≤ y ∧ y ≤ 4
      · rw [if_pos hy]
        dsimp only
        rw [if_neg (by decide)]
        exact g1 hy
      · rw [if_neg hy]
        dsimp only
        rw [if_pos rfl, wp_some]
        exact g2 hy
    by_cases hy : 0 ≤ y ∧ y ≤ 4
    · have fin : ∀ v : Int, (∀ h12 : Hp, MS D ht (lay D ht ro) ro (fogY D (ro 61)) h12 → h12 35 0 = 0 → wp (if y = 0 then gd_ (0 ≤ (c : Int) ∧ (c : Int) < 64) (some ((h12 36 (Int.toNat (c : Int))), h12)) else (if y = 1 then gd_ (0 ≤ (c : Int) ∧ (c : Int) < 64) (some ((h12 57 (Int.toNat (c : Int))), h12)) else (if y = 2 then bp_ (fX6_treeIn (c : Int) h12) (fun r22 => some (r22, h12)) else (if y = 3 then bp_ (fX6_houseIn (c : Int) h12) (fun r20 => some (r20, h12)) else bd_ (fX6_seenFrom (c : Int) h12) (fun r17 h19 => some (r17, h19)))))) (fun q => q.1 = v ∧ q.2 35 0 = 0 ∧ Same SXm h12 q.2)) → ∀ h', Same SX h h' → wp (fX6_cell (c : Int) y h') (fun q => q.1 = v ∧ q.2 35 0 = 0 ∧ Same SXm h' q.2) := by
        intro v hv h' s
        obtain ⟨h0, C0, z0, s1, s2, g⟩ := pre h' s
        refine g _ (fun _ => ?_) (fun n => absurd hy n)
        rw [wp_bd]
        refine C0.layd.mono ?_
        rintro ⟨r, h12⟩ ⟨-, r2, r3⟩
        dsimp only at r2 r3 ⊢
        exact (hv h12 r3 (z_kept z0 (S57_SN r2))).mono (fun q hq => ⟨hq.1, hq.2.1, (s1.tr (S57_m r2)).tr hq.2.2⟩)
      have cases : y = 0 ∨ y = 1 ∨ y = 2 ∨ y = 3 ∨ y = 4 := by omega
      rcases cases with rfl | rfl | rfl | rfl | rfl
      · show wp (mi_ (fX5_cell_j40 (c : Int) h)) _
        unfold fX5_cell_j40
        rw [LBh.2.1, gd_y gL, gd_y gc, l1, Int.toNat_natCast, LBh.2.2.2.1 c hc, wp_mi, wp_some]
        refine q_ok I0 Same.rf (fin _ (fun h12 H z => ?_))
        rw [if_pos rfl, gd_y gc, Int.toNat_natCast, H.2.1 c hc, wp_some]
        exact ⟨rfl, z, Same.rf⟩
      · show wp (mi_ (fX5_cell_j50 (c : Int) h)) _
        unfold fX5_cell_j50
        rw [wp_mi, wp_bd]
        refine C.present.mono ?_
        rintro ⟨r, h10⟩ ⟨r1, r2, r3⟩
        dsimp only at r1 r2 r3 ⊢
        rw [gd20 r1, gd_y gc, Int.toNat_natCast, r3.2.2.2.2.1 c hc, wp_some]
        refine q_ok I0 (SC_X r2) (fin _ (fun h12 H z => ?_))
        rw [if_neg (by decide), if_pos rfl, gd_y gc, Int.toNat_natCast, H.2.2.1 c hc, wp_some]
        exact ⟨rfl, z, Same.rf⟩
      · show wp (mi_ (fX5_cell_j60 (c : Int) h)) _
        unfold fX5_cell_j60
        rw [c_treeIn_27, tIn_rr LBh.2.2.2.2, wp_mi, wp_bp, wp_some, wp_some]
        refine q_ok I0 Same.rf (fin _ (fun h12 H z => ?_))
        rw [if_neg (by decide), if_neg (by decide), if_pos rfl, m_treeIn, tIn_rr H.2.2.2.1, wp_bp, wp_some, wp_some]
        exact ⟨rfl, z, Same.rf⟩
      · show wp (mi_ (fX5_cell_j72 (c : Int) h)) _
        unfold fX5_cell_j72
        rw [LBh.2.1, gd_y gL, c_houseIn W hL LBh.2.2.1, wp_mi, wp_bp, wp_some, wp_some]
        refine q_ok I0 Same.rf (fin _ (fun h12 H z => ?_))
        rw [if_neg (by decide), if_neg (by decide), if_neg (by decide), if_pos rfl, m_houseIn W H.1, wp_bp, wp_some, wp_some]
        exact ⟨rfl, z, Same.rf⟩
      · show wp (mi_ (fX5_cell_j81 (c : Int) h)) _
        unfold fX5_cell_j81
        rw [wp_mi, wp_bd]
        refine C.present.mono ?_
        rintro ⟨r, h10⟩ ⟨r1, r2, r3⟩
        dsimp only at r1 r2 r3 ⊢
        rw [gd20 r1, wp_bd]
        refine (c_thatSee W r3 (by omega)).mono ?_
        rintro ⟨v, h5⟩ ⟨v1, v2⟩
        dsimp only at v1 v2 ⊢
        subst v1
        rw [wp_some]
        refine q_ok I0 ((SC_X r2).tr (SL_X v2)) (fin _ (fun h12 H z => ?_))
        rw [if_neg (by decide), if_neg (by decide), if_neg (by decide), if_neg (by decide), wp_bd]
        refine (m_seenFrom W C.2.2.1 H (by omega)).mono ?_
        rintro q ⟨q1, q2⟩
        rw [wp_some]
        exact ⟨q1, z_kept z (SM_SN q2), SM_m q2⟩
    · rw [if_neg (by omega), if_neg (by omega), if_neg (by omega), if_neg (by omega), if_neg (by omega), wp_some]
      refine q_no I0 Same.rf (fun h' s => ?_)
      obtain ⟨h0, C0, z0, s1, s2, g⟩ := pre h' s
      exact g _ (fun q => absurd q hy) (fun _ => no1 s1)
  · rw [if_neg hx, wp_some]
    dsimp only
    refine q_no I0 Same.rf (fun h' s => ?_)
    obtain ⟨C0, z0, s1, s2⟩ := C.z s
    unfold fX6_cell
    simp only [wp_lb, wp_bd]
    generalize st h' 35 0 0 = h0 at *
    rw [m_isCell W C0.2.2.2.2.2.1 z0, if_neg hx, wp_some]
    dsimp only
    rw [if_pos rfl, wp_some]
    exact no1 s1
theorem s_tree {κ : Int} {x y : Int} {h : Hp} (I : Inv κ h) : wp (fX5_tree x y h) (PT κ (fX6_tree x y) (fun _ => 1)) := by
  have I0 := I
  obtain ⟨D, ht, ro, L, nr, rh, rm, na, P, C, -, Q, M, -⟩ := I
  have LBh := C.2.2.2.1
  unfold fX5_tree
  rw [c_needTree LBh.2.2.2.2, wp_bx]
  by_cases hx : 0 ≤ x ∧ x < 12 ∧ ro x.toNat ≠ -1
  · rw [if_pos hx, wp_some]
    dsimp only
    obtain ⟨t, rfl⟩ : ∃ t : Nat, x = (t : Int) := ⟨x.toNat, by omega⟩
    rw [Int.toNat_natCast] at hx
    have t12 : t < 12 := by omega
    have hx' : 0 ≤ (t : Int) ∧ (t : Int) < 12 ∧ ro (t : Int).toNat ≠ -1 := by rw [Int.toNat_natCast]; exact hx
    have pre : ∀ h', Same SX h h' → ∃ h0, Core D ht ro L nr rh rm h0 ∧ h0 35 0 = 0 ∧ Same SXm h' h0 ∧ ∀ Z : Int × Hp → Prop, (0 ≤ y ∧ y ≤ 2 → wp (gd_ (0 ≤ (i_add ((i_mul 12 y)) (t : Int)) ∧ (i_add ((i_mul 12 y)) (t : Int)) < 62) (some ((h0 54 (Int.toNat ((i_add ((i_mul 12 y)) (t : Int))))), h0))) Z) → (¬ (0 ≤ y ∧ y ≤ 2) → Z (0, st h0 35 0 1)) → wp (fX6_tree (t : Int) y h') Z := by
      intro h' s
      obtain ⟨C0, z0, s1, s2⟩ := C.z s
      refine ⟨_, C0, z0, s1, fun Z g1 g2 => ?_⟩
      unfold fX6_tree
      simp only [wp_lb, wp_bd]
      generalize st h' 35 0 0 = h0 at *
      rw [m_isTree C0.2.2.2.2.2.2.2.1 z0, if_pos hx', wp_some]
      dsimp only
      rw [if_neg (by decide), wp_bd, m_isWhat z0, wp_some]
      by_cases hy : 0 ≤ y ∧ y ≤ 2
      · rw [if_pos hy]
        dsimp only
        rw [if_neg (by decide)]
        exact g1 hy
      · rw [if_neg hy]
        dsimp only
        rw [if_pos rfl, wp_some]
        exact g2 hy
    by_cases hy : 0 ≤ y ∧ y ≤ 2
    · have fin : ∀ m : Nat, m < 62 → i_add (i_mul 12 y) (t : Int) = (m : Int) → (∀ r, RR D ro r → r m = ro m) → ∀ h', Same SX h h' → wp (fX6_tree (t : Int) y h') (fun q => q.1 = ro m ∧ q.2 35 0 = 0 ∧ Same SXm h' q.2) := by
        intro m hm he hr h' s
        obtain ⟨h0, C0, z0, s1, g⟩ := pre h' s
        refine g _ (fun _ => ?_) (fun n => absurd hy n)
        rw [he, gd_y ⟨Int.natCast_nonneg _, Int.ofNat_lt.mpr hm⟩, Int.toNat_natCast, hr _ C0.2.2.2.2.2.2.2.1, wp_some]
        exact ⟨rfl, z0, s1⟩
      have ne := hx.2.2
      have cases : y = 0 ∨ y = 1 ∨ y = 2 := by omega
      rcases cases with rfl | rfl | rfl
      · show wp (mi_ (fX5_tree_j32 (t : Int) h)) _
        unfold fX5_tree_j32
        rw [i0 (by omega), gd_y ⟨by omega, by omega⟩, Int.toNat_natCast, LBh.2.2.2.2.1 t t12, wp_mi, wp_some]
        exact q_ok I0 Same.rf (fin t (by omega) (by rw [show i_mul 12 0 = 0 by decide, i0 (by omega)]) (fun r q => q.1 t t12))
      · show wp (mi_ (fX5_tree_j44 (t : Int) h)) _
        unfold fX5_tree_j44
        rw [show (12 : Int) = ((12 : Nat) : Int) from rfl, ik (by omega) (by decide), gd_y ⟨by omega, by omega⟩, Int.toNat_natCast, (LBh.2.2.2.2.2.1 t t12 ne).1, wp_mi, wp_some]
        exact q_ok I0 Same.rf (fin (12 + t) (by omega) (by rw [show i_mul 12 1 = ((12 : Nat) : Int) by decide, ik (by omega) (by decide)]) (fun r q => (q.2.1 t t12 ne).1))
      · show wp (mi_ (fX5_tree_j57 (t : Int) h)) _
        unfold fX5_tree_j57
        rw [show (24 : Int) = ((24 : Nat) : Int) from rfl, ik (by omega) (by decide), gd_y ⟨by omega, by omega⟩, Int.toNat_natCast, (LBh.2.2.2.2.2.1 t t12 ne).2, wp_mi, wp_some]
        exact q_ok I0 Same.rf (fin (24 + t) (by omega) (by rw [show i_mul 12 2 = ((24 : Nat) : Int) by decide, ik (by omega) (by decide)]) (fun r q => (q.2.1 t t12 ne).2))
    · rw [if_neg (by omega), if_neg (by omega), if_neg (by omega), wp_some]
      refine q_no I0 Same.rf (fun h' s => ?_)
      obtain ⟨h0, C0, z0, s1, g⟩ := pre h' s
      exact g _ (fun q => absurd q hy) (fun _ => no1 s1)
  · rw [if_neg hx, wp_some]
    dsimp only
    refine q_no I0 Same.rf (fun h' s => ?_)
    obtain ⟨C0, z0, s1, s2⟩ := C.z s
    unfold fX6_tree
    simp only [wp_lb, wp_bd]
    generalize st h' 35 0 0 = h0 at *
    rw [m_isTree C0.2.2.2.2.2.2.2.1 z0, if_neg hx, wp_some]
    dsimp only
    rw [if_pos rfl, wp_some]
    exact no1 s1
