/-! pure part: a year in the class's scene -/
theorem c_passYear {D : LD} {Y : Nat} {ht ro : Nat → Int} {fog L : Nat} {h : Hp} (W : DW D) (T : HT D ht) (R : RW D Y ro) (hY : Y < 900000) (H : CS D ht (lay D ht ro) ro fog L h) :
    wp (fX3_passYear h) (fun r => r.1 = sm (fun i => txH D ht (lay D ht ro) ro fog i (ro 60)) D.nh ∧ Same SC h r.2 ∧ CS D ht (lay D ht (yrR D ht ro fog)) (yrR D ht ro fog) (fogY D (ro 61 + 1)) L r.2) := by
  have hc64 : D.cl ≤ 64 := cl64 W.1.2 W.2.1.2
  have hn := W.2.2.1
  have toSC : ∀ {h h' : Hp}, Same SL h h' → Same SC h h' := fun s => s.mono (fun a k p => by unfold SL at p; unfold SC; omega)
  generalize htx : (fun i => txH D ht (lay D ht ro) ro fog i (ro 60)) = tx
  have htx' : ∀ i, txH D ht (lay D ht ro) ro fog i (ro 60) = tx i := fun i => by rw [← htx]
  unfold fX3_passYear
  simp only [wp_bp]
  have loop1 : wp (it_ (fun s : Int × Int × Hp => fX3_passYear_l4 s.1 s.2.1 s.2.2) FU (0, 0, h)) (fun r => r.1 = sm tx D.nh ∧ Same SC h r.2 ∧ CS D ht (lay D ht ro) (puR ro tx D.nh) fog L r.2) := by
    refine wp_for (fun k (s : Int × Int × Hp) => s.1 = sm tx k ∧ s.2.1 = (k : Int) ∧ Same SC h s.2.2 ∧ CS D ht (lay D ht ro) (puR ro tx k) fog L s.2.2) D.nh ?_ ?_ (FU_big (by omega)) ⟨rfl, rfl, Same.rf, H⟩
    · rintro k ⟨v, x, hh⟩ hk ⟨e1, e2, e3, e4⟩
      dsimp only at e1 e2 e3 e4 ⊢
      subst e1 e2
      have l60 : puR ro tx k 60 = ro 60 := puR_n (by omega)
      unfold fX3_passYear_l4
      simp only [wp_gd, wp_ite, wp_bd, e4.2.1, Int.toNat_natCast, e4.nh]
      refine ⟨by have := H.1; omega, fun q => absurd q (by omega), fun _ => ?_⟩
      refine (c_taxOf W e4 hk (by rw [l60]; exact R.2.2.1)).mono ?_
      rintro ⟨r, h2⟩ ⟨g1, g2⟩
      dsimp only at g1 g2 ⊢
      rw [l60, txH_row (puR_n (by omega)) (puR_n (by omega)) (puR_n (by omega)), htx'] at g1
      subst g1
      have e36 : h2 21 (36 + k) = puR ro tx k (36 + k) := by rw [g2 _ _ (by unfold SL; omega)]; exact (e4.row.2.2.1 k hk).1
      rw [show (36 : Int) = ((36 : Nat) : Int) from rfl, ik (by omega) (by decide), Int.toNat_natCast, e36]
      simp only [wp_lb, wp_some, E2_l]
      exact ⟨⟨by omega, by omega⟩, ⟨by omega, by omega⟩, rfl, i1 (by omega), (e3.tr (toSC g2)).st ⟨by decide, by decide⟩, (e4.same g2).row_up (by omega)⟩
    · rintro ⟨v, x, hh⟩ ⟨e1, e2, e3, e4⟩
      dsimp only at e1 e2 e3 e4 ⊢
      subst e1 e2
      unfold fX3_passYear_l4
      simp only [wp_gd, wp_ite, wp_some, E2_r, e4.2.1, Int.toNat_natCast, e4.nh]
      exact ⟨by have := H.1; omega, fun _ => ⟨trivial, e3, e4⟩, fun q => absurd (Int.le_refl _) q⟩
  refine loop1.mono ?_
  rintro ⟨paid, h13⟩ ⟨p1, p2, p3⟩
  dsimp only at p1 p2 p3 ⊢
  subst p1
  have R1 : RW D Y (puR ro tx D.nh) := puR_W W R hn
  have lay1 : lay D ht (puR ro tx D.nh) = lay D ht ro := lay_congr (fun t ht => puR_n (by omega)) (fun t ht => puR_n (by omega)) (fun i hi => puR_n (by omega))
  have y1 : puR ro tx D.nh 61 = ro 61 := puR_n (by omega)
  rw [← lay1] at p3
  have eR : yrR D ht ro fog = up (grR (puR ro tx D.nh) 12) 61 (ro 61 + 1) := by unfold yrR; rw [htx]
  rw [eR]
  clear eR lay1 htx htx' loop1 H
  generalize puR ro tx D.nh = r1 at *
  have loop2 : ∀ paid : Int, wp (it_ (fun s : Int × Hp => fX3_passYear_l46 paid s.1 s.2) FU (0, h13)) (fun hq => Same SC h hq ∧ CS D ht (lay D ht (grR r1 12)) (grR r1 12) fog L hq) := by
    intro paid
    refine wp_for (fun k (s : Int × Hp) => s.1 = (k : Int) ∧ Same SC h s.2 ∧ CS D ht (lay D ht (grR r1 k)) (grR r1 k) fog L s.2) 12 ?_ ?_ (FU_big (by decide)) ⟨rfl, p2, p3⟩
    · rintro k ⟨x, hh⟩ hk ⟨e1, e2, e3⟩
      dsimp only at e1 e2 e3 ⊢
      subst e1
      have b0 : hh 21 k = r1 k := (e3.row.1 k hk).trans (grR_n (by omega))
      have Rk : RW D Y (grR r1 k) := grR_W W R1 (by omega)
      have g0 : grR r1 k k = r1 k := grR_n (by omega)
      have g12 : grR r1 k (12 + k) = r1 (12 + k) := grR_n (by omega)
      have g24 : grR r1 k (24 + k) = r1 (24 + k) := grR_n (by omega)
      unfold fX3_passYear_l46
      rw [i0 (by omega), show (12 : Int) = ((12 : Nat) : Int) from rfl, ik (by omega) (by decide), show (24 : Int) = ((24 : Nat) : Int) from rfl, ik (by omega) (by decide), Int.toNat_natCast, Int.toNat_natCast, Int.toNat_natCast, b0]
      simp only [wp_ite, wp_gd, wp_some, E2_l]
      refine ⟨fun q => absurd q (by omega), fun _ => ⟨⟨by omega, by omega⟩, fun q => ⟨i1 (by omega), e2, ?_⟩, fun q => ?_⟩⟩
      · unfold grR
        rw [if_neg (fun z => z.1 q)]
        exact e3
      · have b12 : hh 21 (12 + k) = r1 (12 + k) := ((e3.row.2.1 k hk (by rw [g0]; exact q)).1).trans g12
        have b24 : hh 21 (24 + k) = r1 (24 + k) := ((e3.row.2.1 k hk (by rw [g0]; exact q)).2).trans g24
        have rk := R1.1 k hk q
        rw [b12, b24]
        refine ⟨⟨by omega, by omega⟩, ⟨by omega, by omega⟩, fun q2 => ⟨i1 (by omega), e2, ?_⟩, fun q2 => ⟨⟨by omega, by omega⟩, ⟨by omega, by omega⟩, ?_⟩⟩
        · unfold grR
          rw [if_neg (fun z => by omega)]
          exact e3
        · obtain ⟨c0, hc0⟩ : ∃ c0 : Nat, r1 k = (c0 : Int) := ⟨(r1 k).toNat, by omega⟩
          have hcl : c0 < D.cl := by omega
          have hc6 : c0 < 64 := by omega
          have nk : k ≠ 12 + k := by omega
          have m12 : 12 ≤ 12 + k := by omega
          have gk : (0 : Int) ≤ (k : Int) ∧ (k : Int) < 62 := by omega
          have lk : i_add (k : Int) 1 = ((k + 1 : Nat) : Int) := i1 (by omega)
          have eg : grR r1 (k + 1) = up (grR r1 k) (12 + k) (r1 (12 + k) + 1) := by
            show (if _ then _ else _) = _
            rw [if_pos ⟨q, by omega⟩]
          have a1 : i_add (r1 (12 + k)) 1 = r1 (12 + k) + 1 := ia (by omega) (by omega)
          have b0' : st hh 21 (12 + k) (r1 (12 + k) + 1) 21 k = (c0 : Int) := by rw [st_nk nk, b0, hc0]
          rw [a1]
          simp only [wp_gd, wp_lb, wp_bd, b0', c_raiseN hc6, wp_some, E2_l]
          refine ⟨gk, lk, (e2.st ⟨by decide, by decide⟩).st ⟨by decide, by decide⟩, ?_⟩
          rw [eg]
          have Csame : ∀ {h' : Hp} {v : Int}, CL D L h' → (L = 1 ∨ L = 9) → CL D L (st h' 23 c0 v) := fun q hL => q.same (fun a k q1 q2 => st_na (by clear a1 b0' lk; omega))
          obtain ⟨c1, c2, c3, c4, c5, c6, c7, c8⟩ := e3.row_up (m := 12 + k) (v := r1 (12 + k) + 1) m12
          refine ⟨c1, by rw [st_na (by decide)]; exact c2, Csame c3 c1, fun c hc => by rw [st_na (by decide)]; exact c4 c hc, fun c hc => ?_, c6.same (fun k => st_na (by decide)), by rw [st_na (by decide)]; exact c7, c8⟩
          rw [lay_grow Rk hk (by rw [g0, hc0])]
          by_cases e : c = c0
          · subst e
            rw [if_pos rfl, st_self, c5 c hc, lay_tree Rk hk (by rw [g0, hc0]), g12, ia_assoc, a1]
          · rw [if_neg e, st_nk e, c5 c hc]
    · rintro ⟨x, hh⟩ ⟨e1, e2, e3⟩
      dsimp only at e1 e2 e3 ⊢
      subst e1
      unfold fX3_passYear_l46
      simp only [wp_ite, wp_some, E2_r]
      exact ⟨fun _ => ⟨e2, e3⟩, fun q => absurd (by decide) q⟩
  refine (loop2 _).mono ?_
  rintro h31 ⟨s31, C31⟩
  have hy := R.2.2.2
  have y61 : h31 21 (Int.toNat 61) = ro 61 := by rw [show Int.toNat 61 = 61 from rfl, C31.row.2.2.2.2, grR_n (by omega), y1]
  have C32 := C31.row_up (m := 61) (v := ro 61 + 1) (by decide)
  have hL := C32.1
  have gl : (L : Int) = 1 ∨ (L : Int) = 9 := by clear y61; omega
  have gy : 0 ≤ ro 61 + 1 ∧ ro 61 + 1 < 1000000 := by clear y61; omega
  have CC : ∀ {v : Int}, CL D L (st (st h31 21 61 (ro 61 + 1)) 20 4 v) := C32.2.2.1.same (fun a k q1 q2 => st_na (by clear y61; omega))
  have ay : i_add (ro 61) 1 = ro 61 + 1 := ia (by clear y61; omega) (by clear y61; omega)
  rw [y61, ay, show Int.toNat 61 = 61 from rfl]
  simp only [wp_gd, wp_lb, wp_bp, C32.2.1]
  refine ⟨by decide, by decide, by decide, gl, ?_⟩
  rw [show st h31 21 61 (ro 61 + 1) 21 61 = ro 61 + 1 from st_self, c_fogOf W C32.1 C32.2.2.1 gy, wp_some, wp_some]
  refine ⟨rfl, (s31.st ⟨by decide, by decide⟩).st ⟨by decide, by decide⟩, ?_⟩
  obtain ⟨c1, c2, c3, c4, c5, c6, c7, c8⟩ := C32
  have el : lay D ht (up (grR r1 12) 61 (ro 61 + 1)) = lay D ht (grR r1 12) := by
    clear y61 ay
    exact lay_congr (fun t ht => up_n (by omega)) (fun t ht => up_n (by omega)) (fun i hi => up_n (by omega))
  rw [el]
  dsimp only
  exact ⟨c1, by rw [st_nk (by decide)]; exact c2, CC, fun c hc => by rw [st_na (by decide)]; exact c4 c hc, fun c hc => by rw [st_na (by decide)]; exact c5 c hc, c6.same (fun k => st_na (by decide)), st_self, fogY_9 W⟩
