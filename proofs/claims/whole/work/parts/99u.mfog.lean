/-! pure part: fogs, the reference -/
theorem RDl.fog {A : Hp} {cd : Nat → List Int} {i : Nat} {v : Int} {h : Hp} (D : RDl A cd h) (hi : A 8 4 = (i : Int)) : RDl (st (st A 7 i v) 8 4 ((i : Int) + 1)) cd (st (st h 49 i v) 35 30 ((i : Int) + 1)) := by
  obtain ⟨⟨e1, e2, e3, e4, e5, e6, e7, e8⟩, d2, d3, d4, d5, tp, t1, t2, t3⟩ := D
  rw [hi] at d5
  refine ⟨⟨by simpa [st_at] using e1, by simpa [st_at] using e2, by simpa [st_at] using e3, by simpa [st_at] using e4, by simp [st_at], by simpa [st_at] using e6, by simpa [st_at] using e7, by simpa [st_at] using e8⟩, fun c hc => by simpa [st_at] using d2 c hc, fun t ht => by simpa [st_at] using d3 t (by simpa [st_at] using ht), fun i hi => by simpa [st_at] using d4 i (by simpa [st_at] using hi), fun j hj => ?_, tp, by simpa [st_at] using t1, by simpa [st_at] using t2, fun l hl => ?_⟩
  · have hj' : (j : Int) < (i : Int) + 1 := by simpa [st_at] using hj
    by_cases q : j = i
    · subst q
      simp [st_at]
    · have := d5 j (by clear d2 d3 d4 d5 t3 hj; omega)
      simp [st_at, q] at this ⊢
      exact this
  · obtain ⟨p', q', z1, z2, z3, z4⟩ := t3 l (by simpa [st_at] using hl)
    refine ⟨p', q', by simpa [st_at] using z1, ?_, by simpa [st_at] using z3, z4⟩
    have e51 : st (st h 49 i v) 35 30 ((i : Int) + 1) 51 = h 51 := funext (fun k => by simp [st_at])
    rw [e51]
    exact z2
theorem m_fog1 {b : Nat → Int} {n p i : Nat} {fl : Flw} {A : Hp} {cd : Nat → List Int} {h : Hp} {Z : (Int × Hp) ⊕ (Hp ⊕ (Int × Hp)) → Prop} (T : TRk b n h) (G : RGk b n fl p h) (D : RDl A cd h) (hp : p ≤ n) (ha : A 8 4 = (i : Int)) (hi : fl = none → i < 8)
    (ky : ∀ h', (nmS b n fl 1 9 p).1 = none → Same SRr h h' → RGk b n none (tkE b n p) h' → RDl (st (st A 7 i (nmS b n fl 1 9 p).2) 8 4 ((i : Int) + 1)) cd h' → Z (.inl ((if tkK b n (tkE b n p) = 2 then 1 else 0), h')))
    (kn : ∀ h', (nmS b n fl 1 9 p).1 ≠ none → Same SRr h h' → FLr (nmS b n fl 1 9 p).1 h' → Z (.inr (.inr (0, h')))) :
    wp (fX6_readsFogs_j59 h) Z := by
  unfold fX6_readsFogs_j59
  rw [wp_bd]
  refine (m_number T G hp (by decide)).mono ?_
  rintro ⟨v, h15⟩ ⟨l1, l2, l4⟩
  dsimp only at l1 l2 l4 ⊢
  rw [m_isGood l2.1, wp_bp, wp_some]
  by_cases q : (nmS b n fl 1 9 p).1 = none
  · have hi8 := hi (nmS_none q).1
    have D15 := D.s24 l1
    have x30 : h15 35 30 = (i : Int) := by rw [D15.1.2.2.2.2.1]; exact ha
    rw [if_pos q]
    refine w_f (by decide) ?_
    rw [gd_y (by rw [x30]; clear x30; omega), x30, Int.toNat_natCast, l4 q, wp_lb]
    have y30 : st h15 49 i (nmS b n fl 1 9 p).2 35 30 = (i : Int) := by rw [st_na (by decide)]; exact x30
    rw [y30, i1 (by clear x30 y30; omega), wp_lb]
    have ee : ((i + 1 : Nat) : Int) = (i : Int) + 1 := by clear x30 y30; omega
    rw [ee]
    have D21 := D15.fog (v := (nmS b n fl 1 9 p).2) ha
    have s21 : Same SRr h (st (st h15 49 i (nmS b n fl 1 9 p).2) 35 30 ((i : Int) + 1)) := ((S1424_r l1).st (Or.inr ⟨by decide, by decide⟩)).st (Or.inl ⟨rfl, by decide, by decide⟩)
    rw [q] at l2
    have G21 : RGk b n none (tkE b n p) (st (st h15 49 i (nmS b n fl 1 9 p).2) 35 30 ((i : Int) + 1)) := l2.same (fun k h1 h2 => by rw [st_nk (by omega), st_na (by decide)])
    have z := ky _ q s21 G21 D21
    generalize st (st h15 49 i (nmS b n fl 1 9 p).2) 35 30 ((i : Int) + 1) = h21 at *
    rw [(G21.2 rfl).2.2.2.2.1]
    by_cases w : tkK b n (tkE b n p) = 2
    · rw [if_pos w] at z
      rw [w]
      exact w_t rfl (wp_some.mpr z)
    · rw [if_neg w] at z
      refine w_f (fun y => w ?_) (wp_some.mpr z)
      rcases tkK_cases (b := b) (n := n) (p := tkE b n p) with e | e | e | e | ⟨e1, e2, e3⟩
      · rw [e] at y; exact absurd y (by decide)
      · rw [e] at y; exact absurd y (by decide)
      · exact e
      · rw [e] at y; exact absurd y (by decide)
      · exfalso
        have k : (tkK b n (tkE b n p) = 59 ∨ tkK b n (tkE b n p) = 40 ∨ tkK b n (tkE b n p) = 41 ∨ tkK b n (tkE b n p) = 43 ∨ tkK b n (tkE b n p) = 45 ∨ tkK b n (tkE b n p) = 42 ∨ tkK b n (tkE b n p) = 47 ∨ tkK b n (tkE b n p) = 60 ∨ tkK b n (tkE b n p) = 61) := of_decide_eq_true e1
        rcases k with w | w | w | w | w | w | w | w | w <;> rw [w] at y <;> exact absurd y (by decide)
  · rw [if_neg q]
    exact w_t rfl (wp_some.mpr (kn h15 q (S1424_r l1) l2.1))
theorem foL_f {b : Nat → Int} {n : Nat} : ∀ (k : Nat) (fl : Flw) (p : Nat) (A : Hp), fl ≠ none → (foL b n k fl p A).1 = fl
  | 0, fl, p, A, q => by
    rw [foL_z]
    by_cases z : tkK b n p = 2
    · rw [if_pos z]; exact rfS_some q
    · rw [if_neg z]; exact eolS_f q
  | k + 1, fl, p, A, q => by
    rw [foL_s]
    by_cases z : tkK b n p = 2
    · rw [if_pos z, foL_f k _ _ _ (by rw [nmS_f q]; exact q)]; exact nmS_f q
    · rw [if_neg z]; exact eolS_f q
theorem m_fogs {b : Nat → Int} {n p : Nat} {A : Hp} {cd : Nat → List Int} {h : Hp} (T : TRk b n h) (G : RGk b n none p h) (D : RDl A cd h) (hp : p ≤ n) (hk : kwN b n p = 12) (hf : A 8 4 = 0) :
    wp (fX6_line h) (fun r => Same SRr h r.2 ∧ RGk b n (foS b n A p).1 (foS b n A p).2.1 r.2 ∧ ((foS b n A p).1 = none → RDl (foS b n A p).2.2 cd r.2)) := by
  have hp1 := tkE_le (b := b) hp
  unfold fX6_line
  rw [m_knownWord (G.2 rfl) hp, hk, wp_bp, wp_some]
  refine w_f (by decide) (w_f (by decide) (w_f (by decide) (w_t (by decide) ?_)))
  unfold fX6_line_j319
  refine w_t rfl ?_
  rw [wp_bd]
  unfold fX6_readsFogs
  rw [D.1.2.2.2.2.1, hf]
  refine w_t (Int.le_refl _) ?_
  unfold fX6_readsFogs_j12
  rw [m_isGood G.1, wp_bp, wp_some, if_pos rfl]
  refine w_f (by decide) ?_
  rw [wp_bd]
  refine (m_next T G hp).mono ?_
  rintro ⟨v1, h7⟩ ⟨g1, g2⟩
  dsimp only at g1 g2 ⊢
  have s7 : Same S1424 h h7 := SRk_24 g1
  have D7 := D.s24 s7
  rw [wp_bp]
  have loop : wp (it_ (fun s : Int × Hp => fX6_readsFogs_l26 s.1 s.2) FU (1, h7)) (fun e => E2 (fun hq => Same SRr h hq ∧ ∃ (k q : Nat) (A' : Hp), q ≤ n ∧ ¬ tkK b n q = 2 ∧ foL b n k none q A' = foS b n A p ∧ RGk b n none q hq ∧ RDl A' cd hq) (fun r : Int × Hp => Same SRr h r.2 ∧ (foS b n A p).1 ≠ none ∧ FLr (foS b n A p).1 r.2) e) := by
    refine wp_for (fun j (s : Int × Hp) => Same SRr h s.2 ∧ ∃ (q : Nat) (A' : Hp), q ≤ n ∧ RGk b n none q s.2 ∧ RDl A' cd s.2 ∧ ((j = 0 ∧ s.1 = 1 ∧ q = tkE b n p ∧ A' = A) ∨ (1 ≤ j ∧ j ≤ 8 ∧ s.1 = 1 ∧ tkK b n q = 2 ∧ foL b n (8 - j) none q A' = foS b n A p ∧ A' 8 4 = (j : Int)) ∨ (s.1 = 0 ∧ ¬ tkK b n q = 2 ∧ ∃ k, foL b n k none q A' = foS b n A p))) 9 ?_ ?_ (FU_big (by decide)) ⟨S1424_r s7, tkE b n p, A, hp1, g2, D7, Or.inl ⟨rfl, rfl, rfl, rfl⟩⟩
    · rintro j ⟨x, hh⟩ hj ⟨e0, q, A', e1, e2, e3, e4⟩
      dsimp only at e0 e2 e3 e4 ⊢
      have Th : TRk b n hh := T.same (fun k => e0 _ _ (by unfold SRr; omega))
      unfold fX6_readsFogs_l26
      rcases e4 with ⟨a1, a2, a3, a4⟩ | ⟨a1, a1', a2, a3, a4, a5⟩ | ⟨a1, a2, k, a3⟩
      · subst a1
        subst a3
        subst a4
        refine w_f (by rw [a2]; decide) ?_
        rw [m_isGood e2.1, wp_bp, wp_some, if_pos rfl, e3.1.2.2.2.2.1, hf]
        refine w_f (by decide) (w_f (by decide) ?_)
        refine m_fog1 (i := 0) Th e2 e3 e1 hf (fun _ => by decide) (fun h' z1 z2 z3 z4 => ?_) (fun h' z1 z2 z3 => ?_)
        · refine ⟨e0.tr z2, tkE b n (tkE b n p), _, tkE_le e1, z3, z4, ?_⟩
          have ef : foL b n 7 none (tkE b n (tkE b n p)) (st (st A' 7 0 (nmS b n none 1 9 (tkE b n p)).2) 8 4 (((0 : Nat) : Int) + 1)) = foS b n A' p := by
            unfold foS
            rw [z1]
            rfl
          by_cases w : tkK b n (tkE b n (tkE b n p)) = 2
          · exact Or.inr (Or.inl ⟨Nat.le_refl _, by decide, if_pos w, w, ef, st_self⟩)
          · exact Or.inr (Or.inr ⟨if_neg w, w, 7, ef⟩)
        · have ef : (foS b n A' p).1 = (nmS b n none 1 9 (tkE b n p)).1 := by
            unfold foS
            exact foL_f _ _ _ _ z1
          refine ⟨e0.tr z2, ?_, ?_⟩
          · rw [ef]; exact z1
          · rw [ef]; exact z3
      · refine w_f (by rw [a2]; decide) ?_
        have x19 : hh 35 19 = 2 := by rw [(e2.2 rfl).2.2.2.2.1, a3]; rfl
        rw [m_isGood e2.1, wp_bp, wp_some, if_pos rfl, e3.1.2.2.2.2.1, a5, x19]
        refine w_f (by decide) ?_
        by_cases j8 : j = 8
        · subst j8
          rw [show 8 - 8 = 0 from rfl, foL_z, if_pos a3] at a4
          refine w_t rfl (w_t rfl ?_)
          rw [wp_bd]
          refine (m_wrong e2.1 (fun _ => (e2.2 rfl).2.2.1) (by decide)).mono ?_
          rintro ⟨v, h26⟩ ⟨k1, k2⟩
          dsimp only at k1 k2 ⊢
          have f2 : rfS none 2 (tkS b n q) ≠ none := rfS_n
          have ef : (foS b n A p).1 = rfS none 2 (tkS b n q) := by rw [← a4]
          refine m_fog1 (i := 8) (fl := rfS none 2 (tkS b n q)) (p := q) (Th.same (fun k => k1 _ _ (by unfold S45; omega))) ⟨k2, fun z => absurd z f2⟩ (e3.s24 (S45_24 k1)) e1 a5 (fun z => absurd z f2) (fun h' z1 z2 z3 z4 => ?_) (fun h' z1 z2 z3 => ?_)
          · rw [nmS_f f2] at z1; exact absurd z1 f2
          · rw [nmS_f f2] at z3
            refine ⟨(e0.tr (S1424_r (S45_24 k1))).tr z2, ?_, ?_⟩
            · rw [ef]; exact f2
            · rw [ef]; exact z3
        · refine w_f (by clear a5 x19; omega) ?_
          rw [show 8 - j = (7 - j) + 1 by clear a5 x19; omega, foL_s, if_pos a3, show 7 - (7 - j) = j by clear a5 x19; omega] at a4
          refine m_fog1 (i := j) Th e2 e3 e1 a5 (fun _ => by clear a5 x19; omega) (fun h' z1 z2 z3 z4 => ?_) (fun h' z1 z2 z3 => ?_)
          · refine ⟨e0.tr z2, tkE b n q, _, tkE_le e1, z3, z4, ?_⟩
            rw [z1] at a4
            by_cases w : tkK b n (tkE b n q) = 2
            · refine Or.inr (Or.inl ⟨by clear a5 x19; omega, by clear a5 x19; omega, if_pos w, w, ?_, ?_⟩)
              · rw [show 8 - (j + 1) = 7 - j by clear a5 x19; omega]; exact a4
              · rw [st_self]; clear a5 x19; omega
            · exact Or.inr (Or.inr ⟨if_neg w, w, 7 - j, a4⟩)
          · have ef : (foS b n A p).1 = (nmS b n none 1 9 q).1 := by
              rw [← a4]
              exact foL_f _ _ _ _ z1
            refine ⟨e0.tr z2, ?_, ?_⟩
            · rw [ef]; exact z1
            · rw [ef]; exact z3
      · exact w_t a1 (wp_some.mpr ⟨e0, k, q, A', e1, a2, a3, e2, e3⟩)
    · rintro ⟨x, hh⟩ ⟨e0, q, A', e1, e2, e3, e4⟩
      dsimp only at e0 e2 e3 e4 ⊢
      unfold fX6_readsFogs_l26
      rcases e4 with ⟨a1, a2, a3, a4⟩ | ⟨a1, a1', a2, a3, a4, a5⟩ | ⟨a1, a2, k, a3⟩
      · exact absurd a1 (by decide)
      · exact absurd a1' (by decide)
      · exact w_t a1 (wp_some.mpr ⟨e0, k, q, A', e1, a2, a3, e2, e3⟩)
  refine loop.mono ?_
  rintro (e | e) he
  · obtain ⟨a1, k, q, A', a2, a3, a4, a5, a6⟩ := he
    dsimp only
    rw [wp_some]
    rw [foL_no a3] at a4
    rw [← a4]
    refine (m_j398 (T.same (fun k => a1 _ _ (by unfold SRr; omega))) a5 a2).mono ?_
    rintro ⟨w, h12⟩ ⟨m1, m2⟩
    exact ⟨a1.tr (S1424_r m1), m2, fun _ => a6.s24 m1⟩
  · obtain ⟨a1, a2, a3⟩ := he
    dsimp only
    rw [wp_some]
    refine (m_j398 (p := 0) (T.same (fun k => a1 _ _ (by unfold SRr; omega))) ⟨a3, fun z => absurd z a2⟩ (Nat.zero_le _)).mono ?_
    rintro ⟨w, h12⟩ ⟨m1, m2⟩
    rw [eolS_f a2] at m2
    exact ⟨a1.tr (S1424_r m1), ⟨m2.1, fun z => absurd z a2⟩, fun z => absurd z a2⟩
