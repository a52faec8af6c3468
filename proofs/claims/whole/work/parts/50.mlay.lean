/-! pure part: the reference lays out and taxes -/
def S58 : Nat → Nat → Prop := fun a _ => a = 58
theorem s58 {h h' : Hp} {k : Nat} {v : Int} (s : Same S58 h h') : Same S58 h (st h' 58 k v) := Same.st (P := S58) s rfl
theorem rd58 {h : Hp} {k : Nat} {v : Int} {a j : Nat} (n : a ≠ 58) : st h 58 k v a j = h a j := st_na n
theorem own_seen {D : LD} {ht sd ro : Nat → Int} {fog i : Nat} (W : DW D) (hi : i < D.nh) : fb (fun j => decide ((j : Int) ≠ (i : Int)) && bt (vw D ht sd ro fog i).2.2 (D.hc j)) D.nh = seeH D (vw D ht sd ro fog i).2.2 := by
  refine fb_congr D.nh (fun j hj => ?_)
  by_cases e : j = i
  · subst e
    rw [show bt (vw D ht sd ro fog j).2.2 (D.hc j) = false from lkS_own W.1 W.2.1 (W.2.2.2.2.2.1 j hi) 8 (by decide)]
    simp
  · have : (j : Int) ≠ (i : Int) := by omega
    simp [this]
theorem m_taxBy {D : LD} {ht sd ro : Nat → Int} {fog i : Nat} {h : Hp} {law : Int} (W : DW D) (H : MS D ht sd ro fog h) (hR : ∀ i, i < D.nh → in32 (ro (54 + i))) (hi : i < D.nh) (hl : -1 ≤ law ∧ law < (D.nl : Int)) :
    wp (fX6_taxBy (i : Int) law h) (fun r => r.1 = txH D ht sd ro fog i law ∧ Same SM h r.2) := by
  have hn6 := W.2.2.1
  have hl4 := W.2.2.2.1
  have hc64 : D.cl ≤ 64 := cl64 W.1.2 W.2.1.2
  have hcc := W.2.2.2.2.2.1 i hi
  unfold fX6_taxBy
  simp only [wp_bd]
  refine (m_sees W H hR hi).mono ?_
  rintro ⟨r0, h3⟩ ⟨c1, c2, c3, cs⟩
  dsimp only at c1 c2 c3 cs ⊢
  have cs' : Same SM h h3 := cs.mono (fun a k p => Or.inl p)
  have H3 := H.same cs'
  obtain ⟨a1, a2, a3, a4, a5, a6, a7⟩ := H3
  by_cases q : law = -1
  · rw [if_pos q, wp_some]
    exact ⟨by rw [c1, txH_eq, if_pos (by omega)], cs'⟩
  rw [if_neg q]
  obtain ⟨l, rfl⟩ : ∃ l : Nat, law = (l : Int) := ⟨law.toNat, by omega⟩
  obtain ⟨p, g1, g2⟩ := a1.2.2.2.2.2.2.2.2 l (by omega)
  obtain ⟨n, e1, e2⟩ := fb_lt (p := fun i' => bt (vw D ht sd ro fog i).2.2 (D.hc i')) W.2.2.1
  have hsn : seeH D (vw D ht sd ro fog i).2.2 = (n : Int) := e1
  have hs : ∀ hq : Hp, Same S58 h3 hq → fX6_housesSeen (i : Int) hq = some (n : Int) := fun hq s => by
    rw [m_housesSeen W (a1.same (fun a k p => s a k (by unfold S58; omega))), s _ _ (by unfold S58; omega), c3, own_seen W hi, hsn]
  have e42 : i_add 42 (i : Int) = ((42 + i : Nat) : Int) := ik (c := 42) (by omega) (by decide)
  have b42 : 42 + i < 62 := by omega
  have b7 : i < 7 := by omega
  have bl : l < 4 := by omega
  have hlt : l < D.nl := by omega
  have bc : D.hc i < 64 := by omega
  have g42 := (a4.2.2.1 i hi).2.1
  have g61 := a4.2.2.2.2
  have ghc := a1.2.2.2.2.2.1 i hi
  have gkd := a1.2.2.2.2.2.2.1 i hi
  have ght := a2 _ hcc
  clear a1 a2 a3 a4 a5 a6 a7 H hR hn6 hl4 hl q e1 hi hcc hc64
  simp only [wp_gd, wp_lb, wp_bp, wp_bd, Int.toNat_natCast, e42, rd58 (show (37 : Nat) ≠ 58 by decide), rd58 (show (36 : Nat) ≠ 58 by decide), rd58 (show (38 : Nat) ≠ 58 by decide), rd58 (show (35 : Nat) ≠ 58 by decide), rd58 (show (54 : Nat) ≠ 58 by decide), rd58 (show (40 : Nat) ≠ 58 by decide), ghc, gkd, ght, g1, c1, c2, show h3 54 (Int.toNat 61) = ro 61 from g61, g42]
  refine ⟨by decide, by decide, ⟨by omega, by omega⟩, ⟨by omega, by omega⟩, by decide, ⟨by omega, by omega⟩, by decide, by decide, by decide, ?_⟩
  rw [hs, wp_some, m_bits e2, wp_some]
  case a => exact s58 (s58 (s58 (s58 (s58 Same.rf))))
  refine ⟨by decide, ⟨by omega, by omega⟩, by decide, ⟨by omega, by omega⟩, ?_⟩
  generalize hh7 : st (st (st (st (st (st (st h3 58 (Int.toNat 0) (vw D ht sd ro fog i).1) 58 (Int.toNat 1) (vw D ht sd ro fog i).2.1) 58 (Int.toNat 2) (ht (D.hc i))) 58 (Int.toNat 3) (D.kd i)) 58 (Int.toNat 4) (ro 61)) 58 (Int.toNat 5) (cntB ↑n)) 58 (Int.toNat 6) (ro (42 + i)) = h7
  have s7 : Same S58 h3 h7 := by
    rw [← hh7]
    exact s58 (s58 (s58 (s58 (s58 (s58 (s58 Same.rf))))))
  have v7 : ∀ j, j < 7 → h7 58 j = vals D (vw D ht sd ro fog i) (ht (D.hc i)) (D.kd i) (ro 61) (ro (42 + i)) j := by
    intro j hj
    rw [← hh7]
    have : j = 0 ∨ j = 1 ∨ j = 2 ∨ j = 3 ∨ j = 4 ∨ j = 5 ∨ j = 6 := by omega
    rcases this with rfl | rfl | rfl | rfl | rfl | rfl | rfl
    · simp [st_at, vals]
    · simp [st_at, vals]
    · simp [st_at, vals]
    · simp [st_at, vals]
    · simp [st_at, vals]
    · simp [st_at, vals, hsn]
    · simp [st_at, vals]
  have g2' : MC (h7 41) p (D.cd l) := by rw [show h7 41 = h3 41 from funext (fun k => s7 _ _ (by unfold S58; omega))]; exact g2
  refine (m_reckons g2' (W.2.2.2.2.2.2.2.2 l hlt) v7).mono ?_
  rintro ⟨r, h8⟩ ⟨r1, r2⟩
  dsimp only at r1 r2 ⊢
  have sf : Same SM h h8 := (cs'.tr (s7.mono (fun a k p => Or.inr (Or.inl p)))).tr (r2.mono (fun a k p => Or.inr (Or.inr p)))
  rw [txH_eq, if_neg (show ¬ ((l : Int) < 0) by omega), Int.toNat_natCast, ← r1]
  unfold clmp
  simp only [wp_ite, wp_some]
  refine ⟨fun q1 => ⟨fun q2 => ⟨?_, sf⟩, fun q2 => ⟨?_, sf⟩⟩, fun q1 => ⟨?_, sf⟩⟩
  · rw [if_neg (by omega), if_neg (by omega)]
  · rw [if_neg (by omega), if_pos (by omega)]
  · rw [if_pos (by omega)]
theorem m_taxOf {D : LD} {ht sd ro : Nat → Int} {fog i : Nat} {h : Hp} (W : DW D) (H : MS D ht sd ro fog h) (hR : ∀ i, i < D.nh → in32 (ro (54 + i))) (hi : i < D.nh) (hl : -1 ≤ ro 60 ∧ ro 60 < (D.nl : Int)) :
    wp (fX6_taxOf (i : Int) h) (fun r => r.1 = txH D ht sd ro fog i (ro 60) ∧ Same SM h r.2) := by
  unfold fX6_taxOf
  simp only [wp_gd, wp_bd]
  refine ⟨by decide, ?_⟩
  rw [show h 54 (Int.toNat 60) = ro 60 from H.2.2.2.1.2.2.2.1]
  refine (m_taxBy W H hR hi hl).mono ?_
  intro r hr
  simp only [wp_some]
  exact hr
theorem m_cells {D : LD} {h : Hp} (W : DW D) (H : ML D h) : fX6_cells h = some (D.cl : Int) := by
  have hc64 : D.cl ≤ 64 := cl64 W.1.2 W.2.1.2
  unfold fX6_cells
  have e : ((D.cl : Nat) : Int) = (D.w : Int) * (D.d : Int) := Int.natCast_mul _ _
  rw [H.1, H.2.1, i_mul_eq ⟨by omega, by omega⟩, e]
def lay (D : LD) (ht ro : Nat → Int) (c : Nat) : Int := i_add (ht c) (if hIn D (c : Int) = -1 then (if tIn ro (c : Int) = -1 then 0 else ro (12 + (tIn ro (c : Int)).toNat)) else i_add 2 (ro (48 + (hIn D (c : Int)).toNat)))
def layF (D : LD) (ht ro : Nat → Int) (f1 f2 : Int) (c : Nat) : Int := if f2 = (c : Int) then i_add (ht c) 9 else if f1 = (c : Int) then i_add (ht c) 9 else lay D ht ro c
theorem layF_no {D : LD} {ht ro : Nat → Int} : layF D ht ro (-1) (-1) = lay D ht ro := by
  funext c
  unfold layF
  rw [if_neg (by omega), if_neg (by omega)]
theorem tIn_rr {D : LD} {ro r : Nat → Int} {c : Int} (h : RR D ro r) : tIn r c = tIn ro c := fi_congr (fun i hi => by rw [h.1 i hi])
def S57 : Nat → Nat → Prop := fun a _ => a = 57
theorem m_laysOut {D : LD} {ht sd ro : Nat → Int} {fog : Nat} {h : Hp} {f1 f2 : Int} (W : DW D) (H : MS D ht sd ro fog h) (h1 : h 35 52 = f1) (h2 : h 35 53 = f2) (g1 : f1 = -1 ∨ (0 ≤ f1 ∧ f1 < (D.cl : Int))) (g2 : f2 = -1 ∨ (0 ≤ f2 ∧ f2 < (D.cl : Int))) :
    wp (fX6_laysOut h) (fun r => r.1 = 0 ∧ Same S57 h r.2 ∧ MS D ht (layF D ht ro f1 f2) ro fog r.2) := by
  have hc64 : D.cl ≤ 64 := cl64 W.1.2 W.2.1.2
  have hn6 := W.2.2.1
  have g0 := H
  obtain ⟨a1, a2, a3, a4, a5, a6, a7⟩ := H
  unfold fX6_laysOut
  simp only [wp_bp]
  have loop : wp (it_ (fun s : Int × Hp => fX6_laysOut_l2 s.1 s.2) FU (0, h)) (fun hq => Same S57 h hq ∧ ∀ c, c < D.cl → hq 57 c = lay D ht ro c) := by
    refine wp_for (fun k s => s.1 = (k : Int) ∧ Same S57 h s.2 ∧ ∀ c, c < k → s.2 57 c = lay D ht ro c) D.cl ?_ ?_ (FU_big (by omega)) ⟨rfl, Same.rf, fun c hc => absurd hc (by omega)⟩
    · rintro k ⟨x, hh⟩ hk ⟨e1, e2, e3⟩
      dsimp only at e1 e2 e3 ⊢
      subst e1
      have A1 : ML D hh := a1.same (fun a k p => e2 a k (by unfold S57; omega))
      have A4 : RR D ro (hh 54) := a4.same (fun k => e2 _ _ (by unfold S57; omega))
      have A2 : hh 36 k = ht k := by rw [e2 _ _ (by unfold S57; omega)]; exact a2 k hk
      have fin : ∀ z : Int, i_add (ht k) z = lay D ht ro k → wp (fX6_laysOut_j70 (k : Int) z (ht k) (k : Int) hh) (E2 (fun s => s.1 = ((k + 1 : Nat) : Int) ∧ Same S57 h s.2 ∧ ∀ c, c < k + 1 → s.2 57 c = lay D ht ro c) (fun hq => Same S57 h hq ∧ ∀ c, c < D.cl → hq 57 c = lay D ht ro c)) := by
        intro z hz
        unfold fX6_laysOut_j70
        simp only [wp_gd, wp_lb, wp_some, E2_l, Int.toNat_natCast]
        refine ⟨⟨by omega, by omega⟩, i1 (by omega), e2.st rfl, fun c hc => ?_⟩
        by_cases e : c = k
        · subst e
          rw [st_self]; exact hz
        · rw [st_nk e]
          exact e3 c (by omega)
      unfold fX6_laysOut_l2
      rw [m_cells W A1, m_houseIn W A1, m_treeIn, tIn_rr A4]
      simp only [wp_bp, wp_some, wp_ite, wp_gd, Int.toNat_natCast, A2]
      refine ⟨fun q => absurd q (by omega), fun _ => ⟨⟨by omega, by omega⟩, fun q1 => ⟨fun q2 => fin 0 (by unfold lay; rw [if_pos q1, if_pos q2]), fun q2 => ?_⟩, fun q1 => ?_⟩⟩
      · obtain ⟨t, t1, t2, t3, -⟩ := fi_yes q2
        have t2' : tIn ro (k : Int) = (t : Int) := t2
        have t3' : ro t = (k : Int) := by simpa using t3
        have e12 : i_add 12 (t : Int) = ((12 + t : Nat) : Int) := ik (c := 12) (by omega) (by decide)
        rw [t2', e12, Int.toNat_natCast, (A4.2.1 t t1 (by omega)).1]
        refine ⟨⟨by omega, by omega⟩, fin _ ?_⟩
        unfold lay
        rw [if_pos q1, if_neg q2, t2', Int.toNat_natCast]
      · obtain ⟨t, t1, t2, t3, -⟩ := fi_yes q1
        have t2' : hIn D (k : Int) = (t : Int) := t2
        have e12 : i_add 48 (t : Int) = ((48 + t : Nat) : Int) := ik (c := 48) (by omega) (by decide)
        rw [t2', e12, Int.toNat_natCast, (A4.2.2.1 t t1).2.2.1]
        refine ⟨⟨by omega, by omega⟩, fin _ ?_⟩
        unfold lay
        rw [if_neg q1, t2', Int.toNat_natCast]
    · rintro ⟨x, hh⟩ ⟨e1, e2, e3⟩
      dsimp only at e1 e2 e3 ⊢
      subst e1
      unfold fX6_laysOut_l2
      rw [m_cells W (a1.same (fun a k p => e2 a k (by unfold S57; omega)))]
      simp only [wp_bp, wp_some, wp_ite, E2_r]
      exact ⟨fun _ => ⟨e2, e3⟩, fun q => absurd (Int.le_refl _) q⟩
  refine loop.mono ?_
  rintro h17 ⟨s17, v17⟩
  have c52 : h17 35 52 = f1 := by rw [s17 _ _ (by unfold S57; omega)]; exact h1
  have mk : ∀ hq : Hp, Same S57 h hq → (∀ c, c < D.cl → hq 57 c = layF D ht ro f1 f2 c) → MS D ht (layF D ht ro f1 f2) ro fog hq := fun hq s v =>
    ⟨a1.same (fun a k p => s a k (by unfold S57; omega)), fun c hc => by rw [s _ _ (by unfold S57; omega)]; exact a2 c hc, v, a4.same (fun k => s _ _ (by unfold S57; omega)), by rw [s _ _ (by unfold S57; omega)]; exact a5, a6, a7⟩
  have part2 : ∀ hq : Hp, Same S57 h hq → (∀ c, c < D.cl → hq 57 c = layF D ht ro f1 (-1) c) → wp (fX6_laysOut_j107 hq) (fun r => r.1 = 0 ∧ Same S57 h r.2 ∧ MS D ht (layF D ht ro f1 f2) ro fog r.2) := by
    intro hq s v
    have c53 : hq 35 53 = f2 := by rw [s _ _ (by unfold S57; omega)]; exact h2
    unfold fX6_laysOut_j107
    rw [c53]
    simp only [wp_ite, wp_some, wp_gd, wp_lb]
    refine ⟨fun q => ⟨trivial, s, mk hq s (by rw [q]; exact v)⟩, fun q => ?_⟩
    obtain ⟨k, rfl⟩ : ∃ k : Nat, f2 = (k : Int) := ⟨f2.toNat, by omega⟩
    have hk : k < D.cl := by omega
    rw [Int.toNat_natCast, s _ _ (by unfold S57; omega), a2 k hk]
    refine ⟨⟨by omega, by omega⟩, ⟨by omega, by omega⟩, trivial, s.st rfl, mk _ (s.st rfl) (fun c hc => ?_)⟩
    unfold layF
    by_cases e : c = k
    · subst e
      rw [st_self, if_pos rfl]
    · rw [st_nk e, if_neg (by omega), v c hc]
      unfold layF
      rw [if_neg (by omega)]
  rw [c52]
  simp only [wp_ite, wp_gd, wp_lb]
  refine ⟨fun q => part2 h17 s17 (fun c hc => by rw [q, layF_no]; exact v17 c hc), fun q => ?_⟩
  obtain ⟨k, rfl⟩ : ∃ k : Nat, f1 = (k : Int) := ⟨f1.toNat, by omega⟩
  have hk : k < D.cl := by omega
  rw [Int.toNat_natCast, s17 _ _ (by unfold S57; omega), a2 k hk]
  refine ⟨⟨by omega, by omega⟩, ⟨by omega, by omega⟩, part2 _ (s17.st rfl) (fun c hc => ?_)⟩
  unfold layF
  rw [if_neg (by omega)]
  by_cases e : c = k
  · subst e
    rw [st_self, if_pos rfl]
  · rw [st_nk e, if_neg (by omega), v17 c hc]
