/-! pure part: a year in the reference; small finds on both sides -/
theorem m_yearGoes {D : LD} {Y : Nat} {ht sd ro : Nat → Int} {fog : Nat} {h : Hp} (W : DW D) (R : RW D Y ro) (hY : Y < 900000) (H : MS D ht sd ro fog h) (h1 : h 35 52 = -1) (h2 : h 35 53 = -1) :
    wp (fX6_yearGoes h) (fun r => r.1 = sm (fun i => txH D ht (lay D ht ro) ro fog i (ro 60)) D.nh ∧ Same SY h r.2 ∧ RR D (yrR D ht ro fog) (r.2 54)) := by
  have hn := W.2.2.1
  have eR : yrR D ht ro fog = up (grR (puR ro (fun i => txH D ht (lay D ht ro) ro fog i (ro 60)) D.nh) 12) 61 (ro 61 + 1) := rfl
  unfold fX6_yearGoes
  simp only [wp_bd]
  refine (m_lay0 W H h1 h2).mono ?_
  rintro ⟨r0, h3⟩ ⟨-, s3, H3⟩
  dsimp only at s3 H3 ⊢
  rw [eR]
  generalize htx : (fun i => txH D ht (lay D ht ro) ro fog i (ro 60)) = tx
  have htx' : ∀ i, txH D ht (lay D ht ro) ro fog i (ro 60) = tx i := fun i => by rw [← htx]
  clear eR h1 h2 H htx
  simp only [wp_bp]
  have loop1 : wp (it_ (fun s : Int × Int × Hp => fX6_yearGoes_l8 s.1 s.2.1 s.2.2) FU (0, 0, h3)) (fun r => r.1 = sm tx D.nh ∧ Same SY h3 r.2 ∧ MS D ht (lay D ht ro) (puR ro tx D.nh) fog r.2) := by
    refine wp_for (fun k (s : Int × Int × Hp) => s.1 = sm tx k ∧ s.2.1 = (k : Int) ∧ Same SY h3 s.2.2 ∧ MS D ht (lay D ht ro) (puR ro tx k) fog s.2.2) D.nh ?_ ?_ (FU_big (by omega)) ⟨rfl, rfl, Same.rf, H3⟩
    · rintro k ⟨v, x, hh⟩ hk ⟨e1, e2, e3, e4⟩
      dsimp only at e1 e2 e3 e4 ⊢
      subst e1 e2
      have l60 : puR ro tx k 60 = ro 60 := puR_n (by omega)
      unfold fX6_yearGoes_l8
      simp only [wp_ite, wp_bd, e4.1.2.2.1]
      refine ⟨fun q => absurd q (by omega), fun _ => ?_⟩
      refine (m_taxOf W e4 (puR_W W R (by omega)).sold hk (by rw [l60]; exact R.2.2.1)).mono ?_
      rintro ⟨r, h7⟩ ⟨g1, g2⟩
      dsimp only at g1 g2 ⊢
      rw [l60, txH_row (puR_n (by omega)) (puR_n (by omega)) (puR_n (by omega)), htx'] at g1
      subst g1
      have e36 : h7 54 (36 + k) = puR ro tx k (36 + k) := by rw [g2 _ _ (by unfold SM; omega)]; exact (e4.2.2.2.1.2.2.1 k hk).1
      rw [show (36 : Int) = ((36 : Nat) : Int) from rfl, ik (by omega) (by decide), Int.toNat_natCast, e36]
      simp only [wp_gd, wp_lb, wp_some, E2_l]
      exact ⟨⟨by omega, by omega⟩, ⟨by omega, by omega⟩, rfl, i1 (by omega), (e3.tr (SN_SY (SM_SN g2))).st (Or.inr (Or.inl ⟨rfl, by omega⟩)), (e4.same g2).row_up (by omega) (by omega)⟩
    · rintro ⟨v, x, hh⟩ ⟨e1, e2, e3, e4⟩
      dsimp only at e1 e2 e3 e4 ⊢
      subst e1 e2
      unfold fX6_yearGoes_l8
      simp only [wp_ite, wp_some, E2_r, e4.1.2.2.1]
      exact ⟨fun _ => ⟨trivial, e3, e4⟩, fun q => absurd (Int.le_refl _) q⟩
  refine loop1.mono ?_
  rintro ⟨paid, h15⟩ ⟨p1, p2, p3⟩
  dsimp only at p1 p2 p3 ⊢
  subst p1
  have R1 : RW D Y (puR ro tx D.nh) := puR_W W R hn
  have y1 : puR ro tx D.nh 61 = ro 61 := puR_n (by omega)
  have p4 := p3.2.2.2.1
  clear loop1 p3 htx'
  generalize puR ro tx D.nh = r1 at *
  have loop2 : ∀ paid : Int, wp (it_ (fun s : Int × Hp => fX6_yearGoes_l47 paid s.1 s.2) FU (0, h15)) (fun hq => Same SY h3 hq ∧ RR D (grR r1 12) (hq 54)) := by
    intro paid
    refine wp_for (fun k (s : Int × Hp) => s.1 = (k : Int) ∧ Same SY h3 s.2 ∧ RR D (grR r1 k) (s.2 54)) 12 ?_ ?_ (FU_big (by decide)) ⟨rfl, p2, p4⟩
    · rintro k ⟨x, hh⟩ hk ⟨e1, e2, e3⟩
      dsimp only at e1 e2 e3 ⊢
      subst e1
      have b0 : hh 54 k = r1 k := (e3.1 k hk).trans (grR_n (by omega))
      have g0 : grR r1 k k = r1 k := grR_n (by omega)
      have g12 : grR r1 k (12 + k) = r1 (12 + k) := grR_n (by omega)
      have g24 : grR r1 k (24 + k) = r1 (24 + k) := grR_n (by omega)
      unfold fX6_yearGoes_l47
      rw [i0 (by omega), show (12 : Int) = ((12 : Nat) : Int) from rfl, ik (by omega) (by decide), show (24 : Int) = ((24 : Nat) : Int) from rfl, ik (by omega) (by decide), Int.toNat_natCast, Int.toNat_natCast, Int.toNat_natCast, b0]
      simp only [wp_ite, wp_gd, wp_some, E2_l]
      refine ⟨fun q => absurd q (by omega), fun _ => ⟨⟨by omega, by omega⟩, fun q => ⟨i1 (by omega), e2, ?_⟩, fun q => ?_⟩⟩
      · unfold grR
        rw [if_neg (fun z => z.1 q)]
        exact e3
      · have b12 : hh 54 (12 + k) = r1 (12 + k) := ((e3.2.1 k hk (by rw [g0]; exact q)).1).trans g12
        have b24 : hh 54 (24 + k) = r1 (24 + k) := ((e3.2.1 k hk (by rw [g0]; exact q)).2).trans g24
        have rk := R1.1 k hk q
        rw [b12, b24]
        refine ⟨⟨by omega, by omega⟩, ⟨by omega, by omega⟩, fun q2 => ⟨i1 (by omega), e2, ?_⟩, fun q2 => ⟨⟨by omega, by omega⟩, ⟨by omega, by omega⟩, ?_⟩⟩
        · unfold grR
          rw [if_neg (fun z => by omega)]
          exact e3
        · have m12 : 12 ≤ 12 + k := by omega
          have lk : i_add (k : Int) 1 = ((k + 1 : Nat) : Int) := i1 (by omega)
          have eg : grR r1 (k + 1) = up (grR r1 k) (12 + k) (r1 (12 + k) + 1) := by
            show (if _ then _ else _) = _
            rw [if_pos ⟨q, by omega⟩]
          have a1 : i_add (r1 (12 + k)) 1 = r1 (12 + k) + 1 := ia (by omega) (by omega)
          rw [a1]
          simp only [wp_lb, wp_some, E2_l]
          refine ⟨lk, e2.st (Or.inr (Or.inl ⟨rfl, by omega⟩)), ?_⟩
          rw [eg, st_up]
          exact e3.upd m12
    · rintro ⟨x, hh⟩ ⟨e1, e2, e3⟩
      dsimp only at e1 e2 e3 ⊢
      subst e1
      unfold fX6_yearGoes_l47
      simp only [wp_ite, wp_some, E2_r]
      exact ⟨fun _ => ⟨e2, e3⟩, fun q => absurd (by decide) q⟩
  refine (loop2 _).mono ?_
  rintro h29 ⟨s29, C29⟩
  have hy := R.2.2.2
  have ay : i_add (ro 61) 1 = ro 61 + 1 := ia (by omega) (by omega)
  have y61 : h29 54 (Int.toNat 61) = ro 61 := by rw [show Int.toNat 61 = 61 from rfl, C29.2.2.2.2, grR_n (Or.inr (by decide)), y1]
  rw [y61, ay, show Int.toNat 61 = 61 from rfl]
  simp only [wp_gd, wp_lb, wp_some]
  refine ⟨by decide, by decide, trivial, (SN_SY (S57_SN s3)).tr (s29.st (Or.inr (Or.inl ⟨rfl, by omega⟩))), ?_⟩
  rw [st_up]
  exact C29.upd (by decide)
/-- how many trees stand -/
def cT (ro : Nat → Int) : Nat → Int
  | 0 => 0
  | n + 1 => if ro n = -1 then cT ro n else i_add (cT ro n) 1
theorem cT_in (ro : Nat → Int) : ∀ n, in32 (cT ro n)
  | 0 => by unfold cT; unfold in32; omega
  | n + 1 => by
    unfold cT
    split
    · exact cT_in ro n
    · exact in_add _ _
theorem cT_congr {ro r : Nat → Int} : ∀ {n : Nat}, (∀ t, t < n → r t = ro t) → cT r n = cT ro n
  | 0, _ => rfl
  | n + 1, h => by
    unfold cT
    rw [cT_congr (n := n) (fun t ht => h t (by omega)), h n (by omega)]
theorem c_trees27 {h : Hp} : fX5_treesStanding_27 h = some (cT (h 27) 12) := by
  have key : wp (it_ (fun s => fX5_treesStanding_27_l4 s.1 s.2 h) FU ((0 : Int), (0 : Int))) (fun v => v = cT (h 27) 12) := by
    refine wp_for (fun k (s : Int × Int) => s.1 = cT (h 27) k ∧ s.2 = (k : Int)) 12 ?_ ?_ (FU_big (by decide)) ⟨rfl, rfl⟩
    · rintro k ⟨v, x⟩ hk ⟨e1, e2⟩
      dsimp only at e1 e2 ⊢
      subst e1 e2
      unfold fX5_treesStanding_27_l4
      simp only [wp_ite, wp_gd, wp_some, E2_l, i0 (show k < 4000 by omega), Int.toNat_natCast]
      refine ⟨fun q => absurd q (by omega), fun _ => ⟨⟨by omega, by omega⟩, fun q => ⟨?_, i1 (by omega)⟩, fun q => ⟨?_, i1 (by omega)⟩⟩⟩
      · show _ = (if _ then _ else _)
        rw [if_pos q]
      · show _ = (if _ then _ else _)
        rw [if_neg q]
    · rintro ⟨v, x⟩ ⟨e1, e2⟩
      dsimp only at e1 e2 ⊢
      subst e1 e2
      unfold fX5_treesStanding_27_l4
      simp only [wp_ite, wp_some, E2_r]
      exact ⟨fun _ => trivial, fun q => absurd (by decide) q⟩
  obtain ⟨v, e, rfl⟩ := key
  unfold fX5_treesStanding_27
  rw [e]
  rfl
theorem c_trees21 {h : Hp} : fX5_treesStanding_21 h = some (cT (h 21) 12) := by
  have key : wp (it_ (fun s => fX5_treesStanding_21_l4 s.1 s.2 h) FU ((0 : Int), (0 : Int))) (fun v => v = cT (h 21) 12) := by
    refine wp_for (fun k (s : Int × Int) => s.1 = cT (h 21) k ∧ s.2 = (k : Int)) 12 ?_ ?_ (FU_big (by decide)) ⟨rfl, rfl⟩
    · rintro k ⟨v, x⟩ hk ⟨e1, e2⟩
      dsimp only at e1 e2 ⊢
      subst e1 e2
      unfold fX5_treesStanding_21_l4
      simp only [wp_ite, wp_gd, wp_some, E2_l, i0 (show k < 4000 by omega), Int.toNat_natCast]
      refine ⟨fun q => absurd q (by omega), fun _ => ⟨⟨by omega, by omega⟩, fun q => ⟨?_, i1 (by omega)⟩, fun q => ⟨?_, i1 (by omega)⟩⟩⟩
      · show _ = (if _ then _ else _)
        rw [if_pos q]
      · show _ = (if _ then _ else _)
        rw [if_neg q]
    · rintro ⟨v, x⟩ ⟨e1, e2⟩
      dsimp only at e1 e2 ⊢
      subst e1 e2
      unfold fX5_treesStanding_21_l4
      simp only [wp_ite, wp_some, E2_r]
      exact ⟨fun _ => trivial, fun q => absurd (by decide) q⟩
  obtain ⟨v, e, rfl⟩ := key
  unfold fX5_treesStanding_21
  rw [e]
  rfl
theorem m_treesStand {h : Hp} : fX6_treesStand h = some (cT (h 54) 12) := by
  have key : wp (it_ (fun s => fX6_treesStand_l4 s.1 s.2 h) FU ((0 : Int), (0 : Int))) (fun v => v = cT (h 54) 12) := by
    refine wp_for (fun k (s : Int × Int) => s.1 = cT (h 54) k ∧ s.2 = (k : Int)) 12 ?_ ?_ (FU_big (by decide)) ⟨rfl, rfl⟩
    · rintro k ⟨v, x⟩ hk ⟨e1, e2⟩
      dsimp only at e1 e2 ⊢
      subst e1 e2
      unfold fX6_treesStand_l4
      simp only [wp_ite, wp_gd, wp_lb, wp_some, E2_l, i0 (show k < 4000 by omega), Int.toNat_natCast]
      refine ⟨fun q => absurd q (by omega), fun _ => ⟨⟨by omega, by omega⟩, fun q => ⟨?_, i1 (by omega)⟩, fun q => ⟨?_, i1 (by omega)⟩⟩⟩
      · show _ = (if _ then _ else _)
        rw [if_pos q, iadd0 (cT_in _ _)]
      · show _ = (if _ then _ else _)
        rw [if_neg q]
    · rintro ⟨v, x⟩ ⟨e1, e2⟩
      dsimp only at e1 e2 ⊢
      subst e1 e2
      unfold fX6_treesStand_l4
      simp only [wp_ite, wp_some, E2_r]
      exact ⟨fun _ => trivial, fun q => absurd (by decide) q⟩
  obtain ⟨v, e, rfl⟩ := key
  unfold fX6_treesStand
  rw [e]
  rfl
def bare (D : LD) (ro : Nat → Int) (c : Int) : Bool := decide (tIn ro c = -1) && decide (hIn D c = -1)
theorem m_isBare {D : LD} {ro : Nat → Int} {c : Int} {h : Hp} (W : DW D) (H : ML D h) (Q : RR D ro (h 54)) : fX6_isBare c h = some (if bare D ro c = true then 1 else 0) := by
  unfold fX6_isBare
  rw [m_treeIn, m_houseIn W H, tIn_rr Q]
  unfold bare
  simp only [bp_]
  by_cases h1 : tIn ro c = -1 <;> by_cases h2 : hIn D c = -1 <;> simp [h1, h2]
/-- the poorest purse -/
def lP (ro : Nat → Int) : Nat → Int
  | 0 => 0
  | n + 1 => if n = 0 then ro 36 else if ro (36 + n) < lP ro n then ro (36 + n) else lP ro n
theorem c_leastPurse {D : LD} {ht sd ro : Nat → Int} {fog L : Nat} {h : Hp} (W : DW D) (H : CS D ht sd ro fog L h) : fX3_leastPurse h = some (lP ro D.nh) := by
  have hn := W.2.2.1
  have hL := H.1
  have loop : ∀ v0 : Int, (D.nh = 0 → v0 = 0) → (D.nh ≠ 0 → v0 = ro 36) → wp (it_ (fun s => fX3_leastPurse_l24 s.1 s.2 h) FU (v0, (1 : Int))) (fun v => v = lP ro D.nh) := by
    intro v0 q0 q1
    refine wp_for (fun k (s : Int × Int) => s.2 = ((k + 1 : Nat) : Int) ∧ (D.nh = 0 → s.1 = 0) ∧ (D.nh ≠ 0 → s.1 = lP ro (k + 1))) (D.nh - 1) ?_ ?_ (FU_big (by omega)) ⟨rfl, q0, fun q => by rw [q1 q]; rfl⟩
    · rintro k ⟨v, x⟩ hk ⟨e1, e2, e3⟩
      dsimp only at e1 e2 e3 ⊢
      subst e1
      have e3' := e3 (by omega)
      subst e3'
      have r36 : h 21 (36 + (k + 1)) = ro (36 + (k + 1)) := (H.row.2.2.1 (k + 1) (by omega)).1
      unfold fX3_leastPurse_l24 fJ9_min_7cf53
      rw [show (36 : Int) = ((36 : Nat) : Int) from rfl, ik (by omega) (by decide), Int.toNat_natCast, r36, H.2.1, Int.toNat_natCast, H.nh]
      simp only [wp_gd, wp_ite, wp_bp, wp_some, E2_l]
      refine ⟨by omega, fun q => absurd q (by omega), fun _ => ⟨⟨by omega, by omega⟩, fun q => ⟨i1 (by omega), fun z => by omega, fun _ => ?_⟩, fun q => ⟨i1 (by omega), fun z => by omega, fun _ => ?_⟩⟩⟩
      · show _ = (if _ then _ else if _ then _ else _)
        rw [if_neg (by omega), if_pos q]
      · show _ = (if _ then _ else if _ then _ else _)
        rw [if_neg (by omega), if_neg q]
    · rintro ⟨v, x⟩ ⟨e1, e2, e3⟩
      dsimp only at e1 e2 e3 ⊢
      subst e1
      unfold fX3_leastPurse_l24
      rw [H.2.1, Int.toNat_natCast, H.nh]
      simp only [wp_gd, wp_ite, wp_some, E2_r]
      refine ⟨by omega, fun _ => ?_, fun q => absurd q (by omega)⟩
      by_cases z : D.nh = 0
      · rw [e2 z, z]
        rfl
      · rw [e3 z, show D.nh - 1 + 1 = D.nh by omega]
  unfold fX3_leastPurse
  rw [H.2.1, Int.toNat_natCast, H.nh, gd_y (by omega)]
  by_cases z : D.nh = 0
  · obtain ⟨v, e, rfl⟩ := loop 0 (fun _ => rfl) (fun q => absurd z q)
    rw [if_pos (by omega), e]
    rfl
  · have r36 : h 21 (Int.toNat 36) = ro 36 := (H.row.2.2.1 0 (by omega)).1
    obtain ⟨v, e, rfl⟩ := loop (ro 36) (fun q => absurd q z) (fun _ => rfl)
    rw [if_neg (by omega), gd_y (by decide), r36]
    unfold lb_
    dsimp only
    rw [e]
    rfl
theorem lP_neg {ro : Nat → Int} : ∀ {n : Nat}, lP ro n < 0 ↔ ∃ i, i < n ∧ ro (36 + i) < 0
  | 0 => ⟨fun h => absurd h (Int.lt_irrefl 0), fun ⟨i, hi, _⟩ => absurd hi (by omega)⟩
  | n + 1 => by
    have ih := lP_neg (ro := ro) (n := n)
    unfold lP
    by_cases z : n = 0
    · subst z
      rw [if_pos rfl]
      constructor
      · intro h; exact ⟨0, by omega, h⟩
      · rintro ⟨i, hi, h⟩
        have : i = 0 := by omega
        subst this
        exact h
    · rw [if_neg z]
      by_cases q : ro (36 + n) < lP ro n
      · rw [if_pos q]
        constructor
        · intro h; exact ⟨n, by omega, h⟩
        · rintro ⟨i, hi, h⟩
          by_cases e : i = n
          · subst e; exact h
          · have := ih.mpr ⟨i, by omega, h⟩
            omega
      · rw [if_neg q]
        constructor
        · intro h
          obtain ⟨i, a, b⟩ := ih.mp h
          exact ⟨i, by omega, b⟩
        · rintro ⟨i, hi, h⟩
          by_cases e : i = n
          · subst e; omega
          · exact ih.mpr ⟨i, by omega, h⟩
theorem m_isPoor {D : LD} {ro : Nat → Int} {h : Hp} (W : DW D) (H : ML D h) (Q : RR D ro (h 54)) : fX6_isPoor h = some (if lP ro D.nh < 0 then 1 else 0) := by
  have hn := W.2.2.1
  have key : wp (it_ (fun s => fX6_isPoor_l2 s h) FU (0 : Int)) (fun e => E2 (fun _ => ¬ lP ro D.nh < 0) (fun v : Int => v = 1 ∧ lP ro D.nh < 0) e) := by
    refine wp_for (fun k (s : Int) => s = (k : Int) ∧ ∀ j, j < k → ¬ ro (36 + j) < 0) D.nh ?_ ?_ (FU_big (by omega)) ⟨rfl, fun j hj => absurd hj (by omega)⟩
    · rintro k s hk ⟨rfl, hj⟩
      unfold fX6_isPoor_l2
      rw [show (36 : Int) = ((36 : Nat) : Int) from rfl, ik (by omega) (by decide), Int.toNat_natCast, H.2.2.1, (Q.2.2.1 k hk).1]
      simp only [wp_ite, wp_gd, wp_some, E2_l, E2_r]
      refine ⟨fun q => absurd q (by omega), fun _ => ⟨⟨by omega, by omega⟩, fun q => ⟨i1 (by omega), fun j hj' => ?_⟩, fun q => ⟨trivial, lP_neg.mpr ⟨k, hk, by omega⟩⟩⟩⟩
      by_cases e : j = k
      · subst e; omega
      · exact hj j (by omega)
    · rintro s ⟨rfl, hj⟩
      unfold fX6_isPoor_l2
      rw [H.2.2.1]
      simp only [wp_ite, wp_some, E2_l, E2_r]
      refine ⟨fun _ z => ?_, fun q => absurd (Int.le_refl _) q⟩
      obtain ⟨i, a, b⟩ := lP_neg.mp z
      exact hj i a b
  obtain ⟨e, e1, e2⟩ := key
  unfold fX6_isPoor
  rw [e1]
  cases e with
  | inl u => simp only [bp_]; rw [if_neg e2]
  | inr v => simp only [bp_]; rw [if_pos e2.2, e2.1]
