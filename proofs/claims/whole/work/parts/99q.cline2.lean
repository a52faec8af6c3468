/-! pure part: trees, houses, the size: the class -/
theorem c_tree {b : Nat → Int} {n p L : Nat} {A : Hp} {cd : Nat → List Int} {h : Hp} (T : TPk b n h) (C : CTk b n p h) (F : FLc none h) (D : CDl A cd L h) (B : PBd A) (hL : L = 1 ∨ L = 9) (hp : p ≤ n) (ht : A 8 2 < 12) :
    wp (fX2_readTree h) (fun r => Same (SLd L) h r.2 ∧ FLc (trS b n A p).1 r.2 ∧ CTk b n (trS b n A p).2.1 r.2 ∧ CDl (trS b n A p).2.2 cd L r.2) := by
  have hp1 := tkE_le (b := b) hp
  obtain ⟨nt, hnt⟩ : ∃ nt : Nat, A 8 2 = (nt : Int) := ⟨(A 8 2).toNat, by have := B.2.2.1; omega⟩
  have hnt12 : nt < 12 := by omega
  unfold fX2_readTree trS
  dsimp only
  rw [D.2.1.2.2.1]
  refine w_t ht ?_
  rw [wp_bd]
  refine (c_next T C F hp).mono ?_
  rintro ⟨v1, h3⟩ ⟨g1, g2, g3⟩
  dsimp only at g1 g2 g3 ⊢
  have s3 : Same S27 h h3 := STk_27 g1
  have D3 := D.same hL s3
  rw [wp_bd, D3.2.1.2.2.2.2.2.2.2]
  refine (c_takenCell (T.same (fun k => s3 _ _ (by unfold S27; omega))) g2 g3 hp1 hL D3.1 D3.2.1.1 D3.2.1.2.1 B.1 B.2.1).mono ?_
  rintro ⟨c, h6⟩ ⟨k1, k2, k3, k4⟩
  dsimp only at k1 k2 k3 k4 ⊢
  have hp2 : (cellS b n none (A 8 7) (A 8 0) (A 8 1) (tkE b n p)).2.2 ≤ n := cellS_le hp1
  generalize cellS b n none (A 8 7) (A 8 0) (A 8 1) (tkE b n p) = cs at *
  have s6 : Same S27 h h6 := s3.tr k1
  rw [wp_bd]
  refine (c_takenNumber (T.same (fun k => s6 _ _ (by unfold S27; omega))) k2 k3 hp2).mono ?_
  rintro ⟨v, h9⟩ ⟨l1, l2, l3, l4⟩
  dsimp only at l1 l2 l3 l4 ⊢
  subst l4
  generalize nmS b n cs.1 1 9 cs.2.2 = vs at *
  have s9 : Same S27 h h9 := s6.tr l1
  rw [wp_bd]
  refine (c_takenNumber (T.same (fun k => s9 _ _ (by unfold S27; omega))) l2 l3 (tkE_le hp2)).mono ?_
  rintro ⟨u, h10⟩ ⟨o1, o2, o3, o4⟩
  dsimp only at o1 o2 o3 o4 ⊢
  subst o4
  generalize nmS b n vs.1 vs.2 9 (tkE b n cs.2.2) = us at *
  have s10 : Same S27 h h10 := s9.tr o1
  rw [wp_bd]
  refine (c_takeEnd (T.same (fun k => s10 _ _ (by unfold S27; omega))) o2 o3 (tkE_le (tkE_le hp2))).mono ?_
  rintro ⟨w, h12⟩ ⟨m1, m2, m3⟩
  dsimp only at m1 m2 m3 ⊢
  have s12 : Same S27 h h12 := s10.tr m1
  have D12 := D.same hL s12
  obtain ⟨d1, ⟨e1, e2, e3, e4, e5, e6, e7, e8⟩, d3, d4, d5, d6, d7, d8⟩ := D12
  rw [hnt] at e3
  have i12 : i_add 12 (nt : Int) = ((12 + nt : Nat) : Int) := ik (c := 12) (by clear e3 hnt; omega) (by decide)
  have i24 : i_add 24 (nt : Int) = ((24 + nt : Nat) : Int) := ik (c := 24) (by clear e3 hnt i12; omega) (by decide)
  have i11 : i_add (nt : Int) 1 = ((nt + 1 : Nat) : Int) := i1 (by clear e3 hnt i12 i24; omega)
  have l7' : ((L : Int) + 7).toNat = L + 7 := by clear e3 hnt i12 i24 i11; omega
  rw [wp_lb, e8, k4]
  generalize hG : st h12 18 11 (l_or (A 8 7) (l_shl 1 cs.2.1)) = h17
  have y8 : h17 18 8 = (L : Int) := by rw [← hG, st_nk (by decide)]; exact d1
  have y9 : h17 18 9 = (nt : Int) := by rw [← hG, st_nk (by decide)]; exact e3
  rw [gd_y (by rw [y8]; clear e3 hnt i12 i24 i11 y8 y9 k4; omega), y9, y8, i0 (by clear e3 hnt i12 i24 i11 y8 y9 k4; omega), gd_y (by clear e3 hnt i12 i24 i11 y8 y9 k4; omega), l7', Int.toNat_natCast, wp_lb]
  have z8 : st h17 (L + 7) nt cs.2.1 18 8 = (L : Int) := by rw [st_na (by clear e3 hnt i12 i24 i11 y8 y9 k4; omega)]; exact y8
  have z9 : st h17 (L + 7) nt cs.2.1 18 9 = (nt : Int) := by rw [st_na (by clear e3 hnt i12 i24 i11 y8 y9 k4; omega)]; exact y9
  rw [gd_y (by rw [z8]; clear e3 hnt i12 i24 i11 y8 y9 z8 z9 k4; omega), z9, z8, i12, gd_y (by clear e3 hnt i12 i24 i11 y8 y9 z8 z9 k4; omega), l7', Int.toNat_natCast, wp_lb]
  have x8 : st (st h17 (L + 7) nt cs.2.1) (L + 7) (12 + nt) vs.2 18 8 = (L : Int) := by rw [st_na (by clear e3 hnt i12 i24 i11 y8 y9 z8 z9 k4; omega)]; exact z8
  have x9 : st (st h17 (L + 7) nt cs.2.1) (L + 7) (12 + nt) vs.2 18 9 = (nt : Int) := by rw [st_na (by clear e3 hnt i12 i24 i11 y8 y9 z8 z9 x8 k4; omega)]; exact z9
  rw [gd_y (by rw [x8]; clear e3 hnt i12 i24 i11 y8 y9 z8 z9 x8 x9 k4; omega), x9, x8, i24, gd_y (by clear e3 hnt i12 i24 i11 y8 y9 z8 z9 x8 x9 k4; omega), l7', Int.toNat_natCast, wp_lb]
  have w9 : st (st (st h17 (L + 7) nt cs.2.1) (L + 7) (12 + nt) vs.2) (L + 7) (24 + nt) us.2 18 9 = (nt : Int) := by rw [st_na (by clear e3 hnt i12 i24 i11 y8 y9 z8 z9 x8 x9 k4; omega)]; exact x9
  rw [w9, i11, wp_lb, wp_some]
  dsimp only
  have sS : Same (SLd L) h (st (st (st (st h17 (L + 7) nt cs.2.1) (L + 7) (12 + nt) vs.2) (L + 7) (24 + nt) us.2) 18 9 ((nt + 1 : Nat) : Int)) := by
    rw [← hG]
    exact (((((S27_Ld s12).st (Or.inl ⟨rfl, by decide⟩)).st (Or.inr (Or.inr ⟨by omega, by omega⟩))).st (Or.inr (Or.inr ⟨by omega, by omega⟩))).st (Or.inr (Or.inr ⟨by omega, by omega⟩))).st (Or.inl ⟨rfl, by decide⟩)
  rw [hnt, Int.toNat_natCast]
  refine ⟨sS, m3.same ?_ ?_, m2.same (fun k h1 h2 => ?_), ?_⟩
  · rw [← hG, st_nk (by decide), st_na (by omega), st_na (by omega), st_na (by omega), st_nk (by decide)]
  · rw [← hG, st_nk (by decide), st_na (by omega), st_na (by omega), st_na (by omega), st_nk (by decide)]
  · rw [← hG, st_nk (by omega), st_na (by omega), st_na (by omega), st_na (by omega), st_nk (by omega)]
  · clear i12 i24 i11 y8 y9 z8 z9 x8 x9 w9 sS k4
    rw [← hG]
    clear hG
    rcases hL with rfl | rfl
    · refine ⟨by simpa [st_at] using d1, ⟨by simpa [st_at] using e1, by simpa [st_at] using e2, by simp [st_at], by simpa [st_at] using e4, by simpa [st_at] using e5, by simpa [st_at] using e6, by simpa [st_at] using e7, by simp [st_at]⟩, fun c hc => by simpa [st_at] using d3 c hc, fun k h1 h2 => ?_, fun i hi => by simpa [st_at] using d5 i (by simpa [st_at] using hi), fun i hi => by simpa [st_at] using d6 i (by simpa [st_at] using hi), fun l hl => by simpa [st_at] using d7 l (by simpa [st_at] using hl), by simpa [st_at] using d8⟩
      · have := d4 k h1 h2
        simp [st_at] at this ⊢
        rw [this]
    · refine ⟨by simpa [st_at] using d1, ⟨by simpa [st_at] using e1, by simpa [st_at] using e2, by simp [st_at], by simpa [st_at] using e4, by simpa [st_at] using e5, by simpa [st_at] using e6, by simpa [st_at] using e7, by simp [st_at]⟩, fun c hc => by simpa [st_at] using d3 c hc, fun k h1 h2 => ?_, fun i hi => by simpa [st_at] using d5 i (by simpa [st_at] using hi), fun i hi => by simpa [st_at] using d6 i (by simpa [st_at] using hi), fun l hl => by simpa [st_at] using d7 l (by simpa [st_at] using hl), by simpa [st_at] using d8⟩
      · have := d4 k h1 h2
        simp [st_at] at this ⊢
        rw [this]

theorem c_house {b : Nat → Int} {n p L : Nat} {kd : Int} {A : Hp} {cd : Nat → List Int} {h : Hp} (T : TPk b n h) (C : CTk b n p h) (F : FLc none h) (D : CDl A cd L h) (B : PBd A) (hL : L = 1 ∨ L = 9) (hp : p ≤ n) (ht : A 8 3 < 6) :
    wp (fX2_readHouse kd h) (fun r => Same (SLd L) h r.2 ∧ FLc (hoS b n kd A p).1 r.2 ∧ CTk b n (hoS b n kd A p).2.1 r.2 ∧ CDl (hoS b n kd A p).2.2 cd L r.2) := by
  have hp1 := tkE_le (b := b) hp
  obtain ⟨nh, hnt⟩ : ∃ nh : Nat, A 8 3 = (nh : Int) := ⟨(A 8 3).toNat, by have := B.2.2.2.1; omega⟩
  have hnt12 : nh < 6 := by omega
  unfold fX2_readHouse hoS
  dsimp only
  rw [D.1, gd_y (by omega), Int.toNat_natCast, D.2.1.2.2.2.1, wp_lb]
  refine w_t ht ?_
  rw [wp_bd]
  refine (c_next T C F hp).mono ?_
  rintro ⟨v1, h3⟩ ⟨g1, g2, g3⟩
  dsimp only at g1 g2 g3 ⊢
  have s3 : Same S27 h h3 := STk_27 g1
  have D3 := D.same hL s3
  rw [wp_bd, D3.2.1.2.2.2.2.2.2.2]
  refine (c_takenCell (T.same (fun k => s3 _ _ (by unfold S27; omega))) g2 g3 hp1 hL D3.1 D3.2.1.1 D3.2.1.2.1 B.1 B.2.1).mono ?_
  rintro ⟨c, h6⟩ ⟨k1, k2, k3, k4⟩
  dsimp only at k1 k2 k3 k4 ⊢
  have hp2 : (cellS b n none (A 8 7) (A 8 0) (A 8 1) (tkE b n p)).2.2 ≤ n := cellS_le hp1
  generalize cellS b n none (A 8 7) (A 8 0) (A 8 1) (tkE b n p) = cs at *
  have s6 : Same S27 h h6 := s3.tr k1
  rw [wp_bd]
  refine (c_takenNumber (T.same (fun k => s6 _ _ (by unfold S27; omega))) k2 k3 hp2).mono ?_
  rintro ⟨v, h9⟩ ⟨l1, l2, l3, l4⟩
  dsimp only at l1 l2 l3 l4 ⊢
  subst l4
  generalize nmS b n cs.1 0 999 cs.2.2 = vs at *
  have s9 : Same S27 h h9 := s6.tr l1
  rw [wp_bd]
  refine (c_takeEnd (T.same (fun k => s9 _ _ (by unfold S27; omega))) l2 l3 (tkE_le hp2)).mono ?_
  rintro ⟨w, h12⟩ ⟨m1, m2, m3⟩
  dsimp only at m1 m2 m3 ⊢
  have s12 : Same S27 h h12 := s9.tr m1
  have D12 := D.same hL s12
  obtain ⟨d1, ⟨e1, e2, e3, e4, e5, e6, e7, e8⟩, d3, d4, d5, d6, d7, d8⟩ := D12
  rw [hnt] at e4 d5
  have i36 : i_add 36 (nh : Int) = ((36 + nh : Nat) : Int) := ik (c := 36) (by clear e4 hnt; omega) (by decide)
  have i11 : i_add (nh : Int) 1 = ((nh + 1 : Nat) : Int) := i1 (by clear e4 hnt i36; omega)
  have l2' : ((L : Int) + 2).toNat = L + 2 := by clear e4 hnt i36 i11; omega
  have l3' : ((L : Int) + 3).toNat = L + 3 := by clear e4 hnt i36 i11; omega
  have l7' : ((L : Int) + 7).toNat = L + 7 := by clear e4 hnt i36 i11; omega
  rw [wp_lb, e8, k4, hnt, i36, i11]
  generalize hG : st h12 18 11 (l_or (A 8 7) (l_shl 1 cs.2.1)) = h17
  have y8 : h17 18 8 = (L : Int) := by rw [← hG, st_nk (by decide)]; exact d1
  rw [gd_y (by rw [y8]; clear e4 hnt i36 i11 y8 k4; omega), y8, gd_y (by clear e4 hnt i36 i11 y8 k4; omega), l2', Int.toNat_natCast, wp_lb]
  have z8 : st h17 (L + 2) nh cs.2.1 18 8 = (L : Int) := by rw [st_na (by clear e4 hnt i36 i11 y8 k4; omega)]; exact y8
  rw [gd_y (by rw [z8]; clear e4 hnt i36 i11 y8 z8 k4; omega), z8, gd_y (by clear e4 hnt i36 i11 y8 z8 k4; omega), l3', wp_lb]
  have x8 : st (st h17 (L + 2) nh cs.2.1) (L + 3) nh kd 18 8 = (L : Int) := by rw [st_na (by clear e4 hnt i36 i11 y8 z8 k4; omega)]; exact z8
  rw [gd_y (by rw [x8]; clear e4 hnt i36 i11 y8 z8 x8 k4; omega), x8, gd_y (by clear e4 hnt i36 i11 y8 z8 x8 k4; omega), l7', Int.toNat_natCast, wp_lb]
  have w8 : st (st (st h17 (L + 2) nh cs.2.1) (L + 3) nh kd) (L + 7) (36 + nh) vs.2 18 8 = (L : Int) := by rw [st_na (by clear e4 hnt i36 i11 y8 z8 x8 k4; omega)]; exact x8
  rw [gd_y (by rw [w8]; clear e4 hnt i36 i11 y8 z8 x8 w8 k4; omega), w8, Int.toNat_natCast, wp_lb, wp_some]
  dsimp only
  have sS : Same (SLd L) h (st (st (st (st h17 (L + 2) nh cs.2.1) (L + 3) nh kd) (L + 7) (36 + nh) vs.2) L 3 ((nh + 1 : Nat) : Int)) := by
    rw [← hG]
    exact (((((S27_Ld s12).st (Or.inl ⟨rfl, by decide⟩)).st (Or.inr (Or.inr ⟨by omega, by omega⟩))).st (Or.inr (Or.inr ⟨by omega, by omega⟩))).st (Or.inr (Or.inr ⟨by omega, by omega⟩))).st (Or.inr (Or.inr ⟨by omega, by omega⟩))
  refine ⟨sS, m3.same ?_ ?_, m2.same (fun k h1 h2 => ?_), ?_⟩
  · rw [← hG, st_na (by omega), st_na (by omega), st_na (by omega), st_na (by omega), st_nk (by decide)]
  · rw [← hG, st_na (by omega), st_na (by omega), st_na (by omega), st_na (by omega), st_nk (by decide)]
  · rw [← hG, st_na (by omega), st_na (by omega), st_na (by omega), st_na (by omega), st_nk (by omega)]
  · clear i36 i11 y8 z8 x8 w8 sS k4
    rw [← hG]
    clear hG
    rcases hL with rfl | rfl
    · refine ⟨by simpa [st_at] using d1, ⟨by simpa [st_at] using e1, by simpa [st_at] using e2, by simpa [st_at] using e3, by simp [st_at], by simpa [st_at] using e5, by simpa [st_at] using e6, by simpa [st_at] using e7, by simp [st_at]⟩, fun c hc => by simpa [st_at] using d3 c hc, fun k h1 h2 => ?_, fun i hi => ?_, fun i hi => by simpa [st_at] using d6 i (by simpa [st_at] using hi), fun l hl => by simpa [st_at] using d7 l (by simpa [st_at] using hl), by simpa [st_at] using d8⟩
      · have := d4 k h1 h2
        simp [st_at] at this ⊢
        rw [this]
      · have hi' : (i : Int) < (nh : Int) + 1 := by simpa [st_at] using hi
        by_cases q : i = nh
        · subst q
          simp [st_at]
        · have := d5 i (by clear d3 d4 d5 d6 d7 hi; omega)
          simp [st_at, q] at this ⊢
          exact this
    · refine ⟨by simpa [st_at] using d1, ⟨by simpa [st_at] using e1, by simpa [st_at] using e2, by simpa [st_at] using e3, by simp [st_at], by simpa [st_at] using e5, by simpa [st_at] using e6, by simpa [st_at] using e7, by simp [st_at]⟩, fun c hc => by simpa [st_at] using d3 c hc, fun k h1 h2 => ?_, fun i hi => ?_, fun i hi => by simpa [st_at] using d6 i (by simpa [st_at] using hi), fun l hl => by simpa [st_at] using d7 l (by simpa [st_at] using hl), by simpa [st_at] using d8⟩
      · have := d4 k h1 h2
        simp [st_at] at this ⊢
        rw [this]
      · have hi' : (i : Int) < (nh : Int) + 1 := by simpa [st_at] using hi
        by_cases q : i = nh
        · subst q
          simp [st_at]
        · have := d5 i (by clear d3 d4 d5 d6 d7 hi; omega)
          simp [st_at, q] at this ⊢
          exact this

