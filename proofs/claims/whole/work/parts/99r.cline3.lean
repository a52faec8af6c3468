/-! pure part: the size, fogs: the class -/
theorem c_size {b : Nat → Int} {n p L : Nat} {A : Hp} {cd : Nat → List Int} {h : Hp} (T : TPk b n h) (C : CTk b n p h) (F : FLc none h) (D : CDl A cd L h) (hL : L = 1 ∨ L = 9) (hp : p ≤ n) :
    wp (fX2_readSize h) (fun r => Same (SLd L) h r.2 ∧ FLc (szS b n A p).1 r.2 ∧ CTk b n (szS b n A p).2.1 r.2 ∧ CDl (szS b n A p).2.2 cd L r.2) := by
  have hp1 := tkE_le (b := b) hp
  unfold fX2_readSize szS
  dsimp only
  rw [wp_bd]
  refine (c_next T C F hp).mono ?_
  rintro ⟨v1, h3⟩ ⟨g1, g2, g3⟩
  dsimp only at g1 g2 g3 ⊢
  have s3 : Same S27 h h3 := STk_27 g1
  rw [wp_bd]
  refine (c_takenNumber (T.same (fun k => s3 _ _ (by unfold S27; omega))) g2 g3 hp1).mono ?_
  rintro ⟨v, h9⟩ ⟨l1, l2, l3, l4⟩
  dsimp only at l1 l2 l3 l4 ⊢
  subst l4
  generalize nmS b n none 1 8 (tkE b n p) = vs at *
  have s9 : Same S27 h h9 := s3.tr l1
  rw [wp_bd]
  refine (c_takenNumber (T.same (fun k => s9 _ _ (by unfold S27; omega))) l2 l3 (tkE_le hp1)).mono ?_
  rintro ⟨u, h10⟩ ⟨o1, o2, o3, o4⟩
  dsimp only at o1 o2 o3 o4 ⊢
  subst o4
  generalize nmS b n vs.1 1 8 (tkE b n (tkE b n p)) = us at *
  have s10 : Same S27 h h10 := s9.tr o1
  rw [wp_bd]
  refine (c_takeEnd (T.same (fun k => s10 _ _ (by unfold S27; omega))) o2 o3 (tkE_le (tkE_le hp1))).mono ?_
  rintro ⟨w, h12⟩ ⟨m1, m2, m3⟩
  dsimp only at m1 m2 m3 ⊢
  have s12 : Same S27 h h12 := s10.tr m1
  have D12 := D.same hL s12
  obtain ⟨d1, ⟨e1, e2, e3, e4, e5, e6, e7, e8⟩, d3, d4, d5, d6, d7, d8⟩ := D12
  rw [gd_y (by rw [d1]; clear d1; omega), d1, Int.toNat_natCast, wp_lb]
  have y8 : st h12 L 0 vs.2 18 8 = (L : Int) := by rw [st_na (by clear d1; omega)]; exact d1
  rw [gd_y (by rw [y8]; clear d1 y8; omega), y8, Int.toNat_natCast, wp_lb, wp_some]
  dsimp only
  refine ⟨((S27_Ld s12).st (Or.inr (Or.inr ⟨by clear d1 y8; omega, by clear d1 y8; omega⟩))).st (Or.inr (Or.inr ⟨by clear d1 y8; omega, by clear d1 y8; omega⟩)), m3.same ?_ ?_, m2.same (fun k h1 h2 => ?_), ?_⟩
  · rw [st_na (by clear d1 y8; omega), st_na (by clear d1 y8; omega)]
  · rw [st_na (by clear d1 y8; omega), st_na (by clear d1 y8; omega)]
  · rw [st_na (by clear d1 y8; omega), st_na (by clear d1 y8; omega)]
  · clear y8
    rcases hL with rfl | rfl
    · refine ⟨by simpa [st_at] using d1, ⟨by simp [st_at], by simp [st_at], by simpa [st_at] using e3, by simpa [st_at] using e4, by simpa [st_at] using e5, by simpa [st_at] using e6, by simpa [st_at] using e7, by simpa [st_at] using e8⟩, fun c hc => by simpa [st_at] using d3 c hc, fun k h1 h2 => by simpa [st_at] using d4 k h1 h2, fun i hi => by simpa [st_at] using d5 i (by simpa [st_at] using hi), fun i hi => by simpa [st_at] using d6 i (by simpa [st_at] using hi), fun l hl => by simpa [st_at] using d7 l (by simpa [st_at] using hl), by simpa [st_at] using d8⟩
    · refine ⟨by simpa [st_at] using d1, ⟨by simp [st_at], by simp [st_at], by simpa [st_at] using e3, by simpa [st_at] using e4, by simpa [st_at] using e5, by simpa [st_at] using e6, by simpa [st_at] using e7, by simpa [st_at] using e8⟩, fun c hc => by simpa [st_at] using d3 c hc, fun k h1 h2 => by simpa [st_at] using d4 k h1 h2, fun i hi => by simpa [st_at] using d5 i (by simpa [st_at] using hi), fun i hi => by simpa [st_at] using d6 i (by simpa [st_at] using hi), fun l hl => by simpa [st_at] using d7 l (by simpa [st_at] using hl), by simpa [st_at] using d8⟩
/-- the fogs behind the first: k more may stand; flaw, where, fogs, and whether the line's end was asked for -/
def foL (b : Nat → Int) (n : Nat) : Nat → Flw → Nat → Hp → Flw × Nat × Hp
  | 0, fl, p, A => if tkK b n p = 2 then (rfS fl 2 (tkS b n p), p, A) else (eolS b n fl p, tkE b n p, A)
  | k + 1, fl, p, A => if tkK b n p = 2 then foL b n k (nmS b n fl 1 9 p).1 (tkE b n p) (st (st A 7 (7 - k) (nmS b n fl 1 9 p).2) 8 4 ((7 - k : Nat) + 1)) else (eolS b n fl p, tkE b n p, A)
def foS (b : Nat → Int) (n : Nat) (A : Hp) (p : Nat) : Flw × Nat × Hp :=
  foL b n 7 (nmS b n none 1 9 (tkE b n p)).1 (tkE b n (tkE b n p)) (st (st A 7 0 (nmS b n none 1 9 (tkE b n p)).2) 8 4 1)
theorem CDl.fog {A : Hp} {cd : Nat → List Int} {L i : Nat} {v : Int} {h : Hp} (D : CDl A cd L h) (hL : L = 1 ∨ L = 9) (hi : A 8 4 = (i : Int)) : CDl (st (st A 7 i v) 8 4 ((i : Int) + 1)) cd L (st (st h (L + 4) i v) L 6 ((i : Int) + 1)) := by
  obtain ⟨d1, ⟨e1, e2, e3, e4, e5, e6, e7, e8⟩, d3, d4, d5, d6, d7, d8⟩ := D
  rw [hi] at d6
  rcases hL with rfl | rfl
  · refine ⟨by simpa [st_at] using d1, ⟨by simpa [st_at] using e1, by simpa [st_at] using e2, by simpa [st_at] using e3, by simpa [st_at] using e4, by simp [st_at], by simpa [st_at] using e6, by simpa [st_at] using e7, by simpa [st_at] using e8⟩, fun c hc => by simpa [st_at] using d3 c hc, fun k h1 h2 => by simpa [st_at] using d4 k h1 h2, fun i hi => by simpa [st_at] using d5 i (by simpa [st_at] using hi), fun j hj => ?_, fun l hl => by simpa [st_at] using d7 l (by simpa [st_at] using hl), by simpa [st_at] using d8⟩
    have hj' : (j : Int) < (i : Int) + 1 := by simpa [st_at] using hj
    by_cases q : j = i
    · subst q
      simp [st_at]
    · have := d6 j (by clear d3 d4 d5 d6 d7 hj; omega)
      simp [st_at, q] at this ⊢
      exact this
  · refine ⟨by simpa [st_at] using d1, ⟨by simpa [st_at] using e1, by simpa [st_at] using e2, by simpa [st_at] using e3, by simpa [st_at] using e4, by simp [st_at], by simpa [st_at] using e6, by simpa [st_at] using e7, by simpa [st_at] using e8⟩, fun c hc => by simpa [st_at] using d3 c hc, fun k h1 h2 => by simpa [st_at] using d4 k h1 h2, fun i hi => by simpa [st_at] using d5 i (by simpa [st_at] using hi), fun j hj => ?_, fun l hl => by simpa [st_at] using d7 l (by simpa [st_at] using hl), by simpa [st_at] using d8⟩
    have hj' : (j : Int) < (i : Int) + 1 := by simpa [st_at] using hj
    by_cases q : j = i
    · subst q
      simp [st_at]
    · have := d6 j (by clear d3 d4 d5 d6 d7 hj; omega)
      simp [st_at, q] at this ⊢
      exact this
/-- one fog taken and kept -/
theorem c_fog1 {b : Nat → Int} {n p L i : Nat} {fl : Flw} {A : Hp} {cd : Nat → List Int} {h : Hp} {α : Type} {Z : α → Prop} {f : Hp → Option α} (T : TPk b n h) (C : CTk b n p h) (F : FLc fl h) (D : CDl A cd L h) (hL : L = 1 ∨ L = 9) (hp : p ≤ n) (hi : i < 8) (ha : A 8 4 = (i : Int))
    (k : ∀ h', Same (SLd L) h h' → CTk b n (tkE b n p) h' → FLc (nmS b n fl 1 9 p).1 h' → CDl (st (st A 7 i (nmS b n fl 1 9 p).2) 8 4 ((i : Int) + 1)) cd L h' → wp (f h') Z) :
    wp (gd_ ((h 18 8) = 1 ∨ (h 18 8) = 9) (bd_ (fX2_takenNumber 1 9 h) (fun r18 h20 => gd_ (0 ≤ (i : Int) ∧ (i : Int) < 8) (lb_ (st h20 (Int.toNat ((h 18 8) + 4)) (Int.toNat (i : Int)) r18) (fun h22 => gd_ ((h22 18 8) = 1 ∨ (h22 18 8) = 9) (lb_ (st h22 (Int.toNat ((h22 18 8))) 6 ((i : Int) + 1)) f)))))) Z := by
  have l4' : ((L : Int) + 4).toNat = L + 4 := by omega
  rw [gd_y (by rw [D.1]; omega), D.1, wp_bd]
  refine (c_takenNumber T C F hp).mono ?_
  rintro ⟨v, h9⟩ ⟨l1, l2, l3, l4⟩
  dsimp only at l1 l2 l3 l4 ⊢
  subst l4
  have D9 := D.same hL l1
  rw [gd_y ⟨by omega, by omega⟩, l4', Int.toNat_natCast, wp_lb]
  have y8 : st h9 (L + 4) i (nmS b n fl 1 9 p).2 18 8 = (L : Int) := by rw [st_na (by omega)]; exact D9.1
  rw [gd_y (by rw [y8]; clear y8; omega), y8, Int.toNat_natCast, wp_lb]
  refine k _ (((S27_Ld l1).st (Or.inr (Or.inr ⟨by clear y8; omega, by clear y8; omega⟩))).st (Or.inr (Or.inr ⟨by clear y8; omega, by clear y8; omega⟩))) (l2.same (fun k h1 h2 => ?_)) (l3.same ?_ ?_) (D9.fog hL ha)
  · rw [st_na (by clear y8; omega), st_na (by clear y8; omega)]
  · rw [st_na (by clear y8; omega), st_na (by clear y8; omega)]
  · rw [st_na (by clear y8; omega), st_na (by clear y8; omega)]
theorem foL_s {b : Nat → Int} {n k : Nat} {fl : Flw} {p : Nat} {A : Hp} : foL b n (k + 1) fl p A = if tkK b n p = 2 then foL b n k (nmS b n fl 1 9 p).1 (tkE b n p) (st (st A 7 (7 - k) (nmS b n fl 1 9 p).2) 8 4 ((7 - k : Nat) + 1)) else (eolS b n fl p, tkE b n p, A) := rfl
theorem foL_z {b : Nat → Int} {n : Nat} {fl : Flw} {p : Nat} {A : Hp} : foL b n 0 fl p A = if tkK b n p = 2 then (rfS fl 2 (tkS b n p), p, A) else (eolS b n fl p, tkE b n p, A) := rfl
theorem foL_no {b : Nat → Int} {n k : Nat} {fl : Flw} {p : Nat} {A : Hp} (q : ¬ tkK b n p = 2) : foL b n k fl p A = (eolS b n fl p, tkE b n p, A) := by
  cases k with
  | zero => rw [foL_z, if_neg q]
  | succ k => rw [foL_s, if_neg q]
theorem c_fogL {b : Nat → Int} {n L : Nat} {cd : Nat → List Int} {h0 : Hp} (T0 : TPk b n h0) (hL : L = 1 ∨ L = 9) {fl0 : Flw} {p0 : Nat} {A0 : Hp} {h : Hp} (S : Same (SLd L) h0 h) (C : CTk b n p0 h) (F : FLc fl0 h) (D : CDl A0 cd L h) (hp : p0 ≤ n) (ha : A0 8 4 = 1) :
    wp (it_ (fun s : Int × Hp => fX2_readFogs_l46 s.1 s.2) FU (1, h)) (fun e => E2 (fun hq => ∃ (k : Nat) (fl : Flw) (p : Nat) (A : Hp), p ≤ n ∧ ¬ tkK b n p = 2 ∧ foL b n k fl p A = foL b n 7 fl0 p0 A0 ∧ Same (SLd L) h0 hq ∧ CTk b n p hq ∧ FLc fl hq ∧ CDl A cd L hq) (fun r : Int × Hp => Same (SLd L) h0 r.2 ∧ FLc (foL b n 7 fl0 p0 A0).1 r.2 ∧ CTk b n (foL b n 7 fl0 p0 A0).2.1 r.2 ∧ CDl (foL b n 7 fl0 p0 A0).2.2 cd L r.2) e) := by
  refine wp_for (fun j (s : Int × Hp) => j ≤ 7 ∧ s.1 = ((j + 1 : Nat) : Int) ∧ ∃ (fl : Flw) (p : Nat) (A : Hp), p ≤ n ∧ foL b n (7 - j) fl p A = foL b n 7 fl0 p0 A0 ∧ Same (SLd L) h0 s.2 ∧ CTk b n p s.2 ∧ FLc fl s.2 ∧ CDl A cd L s.2 ∧ A 8 4 = ((j + 1 : Nat) : Int)) 7 ?_ ?_ (FU_big (by decide)) ⟨Nat.zero_le _, rfl, fl0, p0, A0, hp, rfl, S, C, F, D, ha⟩
  · rintro j ⟨x, hh⟩ hj ⟨e0, e1, fl, p, A, e2, e3, e4, e5, e6, e7, e8⟩
    dsimp only at e1 e4 e5 e6 e7 ⊢
    subst e1
    unfold fX2_readFogs_l46
    rw [e5.2.2.2.1, i1 (by clear e8; omega)]
    refine w_f (by clear e8; omega) ?_
    by_cases q : tkK b n p = 2
    · refine w_t q (w_f (by clear e8; omega) ?_)
      refine c_fog1 (i := j + 1) (T0.same (fun k => e4 _ _ (by unfold SLd; clear e8; omega))) e5 e6 e7 hL e2 (by clear e8; omega) e8 (fun h' z1 z2 z3 z4 => ?_)
      refine wp_some.mpr ⟨by clear e8; omega, rfl, _, _, _, tkE_le e2, ?_, e4.tr z1, z2, z3, z4, ?_⟩
      · rw [show 7 - j = (6 - j) + 1 by clear e8; omega, foL_s, if_pos q, show 7 - (6 - j) = j + 1 by clear e8; omega] at e3
        rw [show 7 - (j + 1) = 6 - j by clear e8; omega]
        exact e3
      · show st (st A 7 (j + 1) _) 8 4 _ 8 4 = _
        rw [st_self]
        rfl
    · refine w_f q (wp_some.mpr ⟨7 - j, fl, p, A, e2, q, e3, e4, e5, e6, e7⟩)
  · rintro ⟨x, hh⟩ ⟨e0, e1, fl, p, A, e2, e3, e4, e5, e6, e7, e8⟩
    dsimp only at e1 e4 e5 e6 e7 ⊢
    subst e1
    unfold fX2_readFogs_l46
    rw [e5.2.2.2.1]
    refine w_f (by decide) ?_
    by_cases q : tkK b n p = 2
    · refine w_t q (w_t (by decide) ?_)
      rw [wp_bd]
      refine (c_refuse e6 e5.2.1 (by decide)).mono ?_
      rintro ⟨v, h28⟩ ⟨k1, k2⟩
      dsimp only at k1 k2 ⊢
      rw [Nat.sub_self, foL_z, if_pos q] at e3
      rw [← e3]
      exact wp_some.mpr ⟨e4.tr (S27_Ld (S67_27 k1)), k2, e5.same (fun k h1 h2 => k1 _ _ (by unfold S67; clear e8; omega)), e7.same hL (S67_27 k1)⟩
    · refine w_f q (wp_some.mpr ⟨0, fl, p, A, e2, q, e3, e4, e5, e6, e7⟩)
theorem c_fogs {b : Nat → Int} {n p L : Nat} {A : Hp} {cd : Nat → List Int} {h : Hp} (T : TPk b n h) (C : CTk b n p h) (F : FLc none h) (D : CDl A cd L h) (hL : L = 1 ∨ L = 9) (hp : p ≤ n) (hf : A 8 4 = 0) :
    wp (fX2_readFogs h) (fun r => Same (SLd L) h r.2 ∧ FLc (foS b n A p).1 r.2 ∧ CTk b n (foS b n A p).2.1 r.2 ∧ CDl (foS b n A p).2.2 cd L r.2) := by
  have hp1 := tkE_le (b := b) hp
  unfold fX2_readFogs
  rw [gd_y (by rw [D.1]; omega), D.1, Int.toNat_natCast, D.2.1.2.2.2.2.1, hf]
  refine w_t (Int.le_refl _) ?_
  rw [wp_bd]
  refine (c_next T C F hp).mono ?_
  rintro ⟨v1, h5⟩ ⟨g1, g2, g3⟩
  dsimp only at g1 g2 g3 ⊢
  have s5 : Same S27 h h5 := STk_27 g1
  refine c_fog1 (i := 0) (T.same (fun k => s5 _ _ (by unfold S27; omega))) g2 g3 (D.same hL s5) hL hp1 (by decide) hf (fun h' z1 z2 z3 z4 => ?_)
  rw [wp_bp]
  refine (c_fogL T hL ((S27_Ld s5).tr z1) z2 z3 z4 (tkE_le hp1) st_self).mono ?_
  rintro (e | e) he
  · obtain ⟨k, fl, q, A', a1, a2, a3, a4, a5, a6, a7⟩ := he
    dsimp only
    unfold fX2_readFogs_j104
    rw [wp_bd]
    refine (c_takeEnd (T.same (fun k => a4 _ _ (by unfold SLd; omega))) a5 a6 a1).mono ?_
    rintro ⟨w, h12⟩ ⟨m1, m2, m3⟩
    dsimp only at m1 m2 m3 ⊢
    rw [wp_some]
    rw [foL_no a2] at a3
    unfold foS
    have e3 : foL b n 7 (nmS b n none 1 9 (tkE b n p)).1 (tkE b n (tkE b n p)) (st (st A 7 0 (nmS b n none 1 9 (tkE b n p)).2) 8 4 1) = (eolS b n fl q, tkE b n q, A') := a3.symm
    rw [e3]
    exact ⟨a4.tr (S27_Ld m1), m3, m2, a7.same hL m1⟩
  · dsimp only
    rw [wp_some]
    exact he
