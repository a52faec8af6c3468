/-! pure part: duchy -/
theorem m_dend {A : Hp} {cd : Nat → List Int} {n p : Nat} {h : Hp} (B : PBd A) (W : PWf A cd) (D : RDl A cd h) (F : FLr none h) (he : esum cd (A 8 5).toNat ≤ p) (hp : p ≤ n) (n7 : n ≤ 700) :
    wp (fX6_duchy_j195 h) (fun r => r.1 = 0 ∧ Same SDe h r.2 ∧ ML (dLD A cd) r.2 ∧ (∀ c, c < 64 → r.2 36 c = A 0 c) ∧ RR (dLD A cd) (rof A) (r.2 54) ∧ r.2 35 49 = 0 ∧ r.2 35 65 = 0 ∧ r.2 35 59 = -1 ∧ r.2 35 61 = 0 ∧ r.2 35 68 = 0) := by
  obtain ⟨nt, hnt⟩ : ∃ nt : Nat, A 8 2 = (nt : Int) := ⟨(A 8 2).toNat, by have := B.2.2.1; omega⟩
  obtain ⟨⟨e1, e2, e3, e4, e5, e6, e7, e8⟩, d2, d3, d4, d5, tp, t1, t2, t3⟩ := D
  unfold fX6_duchy_j195
  rw [m_isGood F, wp_bp, wp_some, if_pos rfl]
  refine w_f (by decide) ?_
  rw [wp_lb, e1, wp_lb, wp_lb, wp_lb, wp_lb, wp_bd]
  have y26 : st h 35 1 (A 8 0) 35 26 = A 8 1 := by rw [st_nk (by decide)]; exact e2
  rw [y26]
  have y28 : st (st h 35 1 (A 8 0)) 35 2 (A 8 1) 35 28 = A 8 3 := by rw [st_nk (by decide), st_nk (by decide)]; exact e4
  rw [y28]
  have y29 : st (st (st h 35 1 (A 8 0)) 35 2 (A 8 1)) 35 3 (A 8 3) 35 29 = A 8 5 := by rw [st_nk (by decide), st_nk (by decide), st_nk (by decide)]; exact e6
  rw [y29]
  have y30 : st (st (st (st h 35 1 (A 8 0)) 35 2 (A 8 1)) 35 3 (A 8 3)) 35 4 (A 8 5) 35 30 = A 8 4 := by rw [st_nk (by decide), st_nk (by decide), st_nk (by decide), st_nk (by decide)]; exact e5
  rw [y30]
  generalize hE : st (st (st (st (st h 35 1 (A 8 0)) 35 2 (A 8 1)) 35 3 (A 8 3)) 35 4 (A 8 5)) 35 5 (A 8 4) = h49
  have f49 : h49 35 1 = A 8 0 ∧ h49 35 2 = A 8 1 ∧ h49 35 3 = A 8 3 ∧ h49 35 4 = A 8 5 ∧ h49 35 5 = A 8 4 := by rw [← hE]; simp [st_at]
  have k49 : ∀ a k, ¬ (a = 35 ∧ 1 ≤ k ∧ k ≤ 5) → h49 a k = h a k := fun a k z => by
    rw [← hE]
    show (if a = 35 ∧ k = 5 then _ else if a = 35 ∧ k = 4 then _ else if a = 35 ∧ k = 3 then _ else if a = 35 ∧ k = 2 then _ else if a = 35 ∧ k = 1 then _ else h a k) = h a k
    rw [if_neg (by omega), if_neg (by omega), if_neg (by omega), if_neg (by omega), if_neg (by omega)]
  clear hE y26 y28 y29 y30
  refine m_cp44.mono ?_
  rintro ⟨v1, h52⟩ ⟨g1, g2⟩
  dsimp only at g1 g2 ⊢
  rw [wp_bp]
  refine m_l271.mono ?_
  rintro h71 ⟨k1, k2⟩
  try dsimp only
  rw [wp_bd]
  refine m_cp49.mono ?_
  rintro ⟨v2, h74⟩ ⟨l1, l2⟩
  dsimp only at l1 l2 ⊢
  rw [wp_bd]
  refine m_cp50.mono ?_
  rintro ⟨v3, h77⟩ ⟨m1, m2⟩
  dsimp only at m1 m2 ⊢
  rw [wp_bd]
  refine m_cp51.mono ?_
  rintro ⟨v4, h80⟩ ⟨o1, o2⟩
  dsimp only at o1 o2 ⊢
  -- what stays
  have keep : ∀ a k, ¬ (a = 35 ∧ 1 ≤ k ∧ k ≤ 5) → a ≠ 36 → a ≠ 37 → a ≠ 38 → a ≠ 39 → a ≠ 40 → a ≠ 41 → ¬ (a = 54 ∧ 36 ≤ k ∧ k < 60) → h80 a k = h a k := fun a k z1 z2 z3 z4 z5 z6 z7 z8 => by
    rw [o1 _ _ z7, m1 _ _ z6, l1 _ _ z5, k1 _ _ (by omega), g1 _ _ z2, k49 _ _ z1]
  have k71 : ∀ a k, ¬ (a = 35 ∧ 1 ≤ k ∧ k ≤ 5) → a ≠ 36 → h52 a k = h a k := fun a k z1 z2 => by rw [g1 _ _ z2, k49 _ _ z1]
  rw [wp_bp]
  have x27 : h80 35 27 = (nt : Int) := by rw [keep _ _ (by omega) (by omega) (by omega) (by omega) (by omega) (by omega) (by omega) (by omega), e3]; exact hnt
  refine (m_l390 x27).mono ?_
  rintro h94 ⟨p1, p2⟩
  try dsimp only
  have kp : ∀ a k, ¬ (a = 54 ∧ k < 36) → h94 a k = h80 a k := p1
  have x4 : h94 35 4 = A 8 5 := by
    rw [kp _ _ (by omega), o1 _ _ (by omega), m1 _ _ (by omega), l1 _ _ (by omega), k1 _ _ (by omega), g1 _ _ (by omega)]
    exact f49.2.2.2.1
  have x35 : ∀ k, 1 ≤ k → k ≤ 5 → h94 35 k = h49 35 k := fun k _ _ => by rw [kp _ _ (by omega), o1 _ _ (by omega), m1 _ _ (by omega), l1 _ _ (by omega), k1 _ _ (by omega), g1 _ _ (by omega)]
  obtain ⟨w1, w2, w3, w4, w5, w6, w7, w8, w9, w10, w11, w12⟩ := W
  have B' := B
  obtain ⟨b1, b2, b3, b4, b5, b6⟩ := B
  -- the end
  have fin : ∀ z : Int, z = (if A 8 5 ≤ 0 then -1 else 0) → wp (fX6_duchy_j486 z 60 h94) (fun r => r.1 = 0 ∧ Same SDe h r.2 ∧ ML (dLD A cd) r.2 ∧ (∀ c, c < 64 → r.2 36 c = A 0 c) ∧ RR (dLD A cd) (rof A) (r.2 54) ∧ r.2 35 49 = 0 ∧ r.2 35 65 = 0 ∧ r.2 35 59 = -1 ∧ r.2 35 61 = 0 ∧ r.2 35 68 = 0) := by
    intro z hz
    unfold fX6_duchy_j486
    rw [gd_y (by decide), wp_lb, gd_y (by decide), wp_lb, wp_lb, wp_lb, wp_lb, wp_lb, wp_lb, wp_some]
    show 0 = 0 ∧ Same SDe h (st (st (st (st (st (st (st h94 54 60 z) 54 61 0) 35 49 0) 35 65 0) 35 59 (-1)) 35 61 0) 35 68 0) ∧ ML (dLD A cd) (st (st (st (st (st (st (st h94 54 60 z) 54 61 0) 35 49 0) 35 65 0) 35 59 (-1)) 35 61 0) 35 68 0) ∧ (∀ c, c < 64 → (st (st (st (st (st (st (st h94 54 60 z) 54 61 0) 35 49 0) 35 65 0) 35 59 (-1)) 35 61 0) 35 68 0) 36 c = A 0 c) ∧ RR (dLD A cd) (rof A) ((st (st (st (st (st (st (st h94 54 60 z) 54 61 0) 35 49 0) 35 65 0) 35 59 (-1)) 35 61 0) 35 68 0) 54) ∧ (st (st (st (st (st (st (st h94 54 60 z) 54 61 0) 35 49 0) 35 65 0) 35 59 (-1)) 35 61 0) 35 68 0) 35 49 = 0 ∧ (st (st (st (st (st (st (st h94 54 60 z) 54 61 0) 35 49 0) 35 65 0) 35 59 (-1)) 35 61 0) 35 68 0) 35 65 = 0 ∧ (st (st (st (st (st (st (st h94 54 60 z) 54 61 0) 35 49 0) 35 65 0) 35 59 (-1)) 35 61 0) 35 68 0) 35 59 = -1 ∧ (st (st (st (st (st (st (st h94 54 60 z) 54 61 0) 35 49 0) 35 65 0) 35 59 (-1)) 35 61 0) 35 68 0) 35 61 = 0 ∧ (st (st (st (st (st (st (st h94 54 60 z) 54 61 0) 35 49 0) 35 65 0) 35 59 (-1)) 35 61 0) 35 68 0) 35 68 = 0
    generalize hE : st (st (st (st (st (st (st h94 54 60 z) 54 61 0) 35 49 0) 35 65 0) 35 59 (-1)) 35 61 0) 35 68 0 = hF
    have fF : hF 35 49 = 0 ∧ hF 35 65 = 0 ∧ hF 35 59 = -1 ∧ hF 35 61 = 0 ∧ hF 35 68 = 0 ∧ hF 54 60 = z ∧ hF 54 61 = 0 := by rw [← hE]; simp [st_at]
    have kF : ∀ a k, ¬ (a = 54 ∧ (k = 60 ∨ k = 61)) → ¬ (a = 35 ∧ (k = 49 ∨ k = 65 ∨ k = 59 ∨ k = 61 ∨ k = 68)) → hF a k = h94 a k := fun a k z1 z2 => by
      rw [← hE]
      show (if a = 35 ∧ k = 68 then _ else if a = 35 ∧ k = 61 then _ else if a = 35 ∧ k = 59 then _ else if a = 35 ∧ k = 65 then _ else if a = 35 ∧ k = 49 then _ else if a = 54 ∧ k = 61 then _ else if a = 54 ∧ k = 60 then _ else h94 a k) = h94 a k
      rw [if_neg (by omega), if_neg (by omega), if_neg (by omega), if_neg (by omega), if_neg (by omega), if_neg (by omega), if_neg (by omega)]
    clear hE
    obtain ⟨q1, q2, q3, q4, q5, q6, q7⟩ := fF
    have ro : ∀ k, k ≠ 60 → rof A k = A 1 k := fun k hk => if_neg hk
    refine ⟨rfl, fun a k y => ?_, ⟨?_, ?_, ?_, ?_, ?_, fun i hi => ?_, fun i hi => ?_, fun i hi => ?_, fun l hl => ?_⟩, fun c hc => ?_, ⟨fun t ht => ?_, fun t ht hne => ?_, fun i hi => ?_, ?_, ?_⟩, q1, q2, q3, q4, q5⟩
    · have y' : ¬ ((a = 35 ∧ ((1 ≤ k ∧ k ≤ 5) ∨ k = 49 ∨ k = 59 ∨ k = 61 ∨ k = 65 ∨ k = 68)) ∨ (36 ≤ a ∧ a ≤ 41) ∨ a = 54) := y
      rw [kF _ _ (by clear q1 q2 q3 q4 q5 q6 q7 hz; omega) (by clear q1 q2 q3 q4 q5 q6 q7 hz; omega), kp _ _ (by clear q1 q2 q3 q4 q5 q6 q7 hz; omega), keep _ _ (by clear q1 q2 q3 q4 q5 q6 q7 hz; omega) (by clear q1 q2 q3 q4 q5 q6 q7 hz; omega) (by clear q1 q2 q3 q4 q5 q6 q7 hz; omega) (by clear q1 q2 q3 q4 q5 q6 q7 hz; omega) (by clear q1 q2 q3 q4 q5 q6 q7 hz; omega) (by clear q1 q2 q3 q4 q5 q6 q7 hz; omega) (by clear q1 q2 q3 q4 q5 q6 q7 hz; omega) (by clear q1 q2 q3 q4 q5 q6 q7 hz; omega)]
    · rw [kF _ _ (by omega) (by omega), x35 _ (by decide) (by decide), f49.1]; show A 8 0 = (((A 8 0).toNat : Nat) : Int); omega
    · rw [kF _ _ (by omega) (by omega), x35 _ (by decide) (by decide), f49.2.1]; show A 8 1 = (((A 8 1).toNat : Nat) : Int); omega
    · rw [kF _ _ (by omega) (by omega), x35 _ (by decide) (by decide), f49.2.2.1]; show A 8 3 = (((A 8 3).toNat : Nat) : Int); omega
    · rw [kF _ _ (by omega) (by omega), x35 _ (by decide) (by decide), f49.2.2.2.1]; show A 8 5 = (((A 8 5).toNat : Nat) : Int); omega
    · rw [kF _ _ (by omega) (by omega), x35 _ (by decide) (by decide), f49.2.2.2.2]; show A 8 4 = (((A 8 4).toNat : Nat) : Int); omega
    · have hi' : i < (A 8 3).toNat := hi
      have lt : (i : Int) < A 8 3 := by omega
      have := (w4 i lt).1
      rw [kF _ _ (by omega) (by omega), kp _ _ (by omega), o1 _ _ (by omega), m1 _ _ (by omega), l1 _ _ (by omega), (k2 i (by omega)).1, k71 _ _ (by omega) (by omega), (d4 i lt).1]
      show A 4 i = (((A 4 i).toNat : Nat) : Int)
      omega
    · have hi' : i < (A 8 3).toNat := hi
      have lt : (i : Int) < A 8 3 := by omega
      rw [kF _ _ (by omega) (by omega), kp _ _ (by omega), o1 _ _ (by omega), m1 _ _ (by omega), l1 _ _ (by omega), (k2 i (by omega)).2.1, k71 _ _ (by omega) (by omega), (d4 i lt).2.1]
      rfl
    · have hi' : i < (A 8 4).toNat := hi
      have lt : (i : Int) < A 8 4 := by omega
      rw [kF _ _ (by omega) (by omega), kp _ _ (by omega), o1 _ _ (by omega), m1 _ _ (by omega), l2 i (by omega), k1 _ _ (by omega), k71 _ _ (by omega) (by omega), d5 i lt]
      rfl
    · have hl' : l < (A 8 5).toNat := hl
      have lt : (l : Int) < A 8 5 := by omega
      obtain ⟨p', q', z1, z2, z3, z4⟩ := t3 l lt
      have c41 : ∀ k, k < 2800 → hF 41 k = h 51 k := fun k hk => by rw [kF _ _ (by omega) (by omega), kp _ _ (by omega), o2 k hk, m1 _ _ (by omega), l1 _ _ (by omega), k1 _ _ (by omega), k71 _ _ (by omega) (by omega)]
      have ql := MPc_le _ _ _ z2
      have q28 : q' < 2800 := by
        clear q1 q2 q3 q4 q5 q6 q7 hz z1
        omega
      refine ⟨p', ?_, ?_⟩
      · rw [kF _ _ (by omega) (by omega), kp _ _ (by omega), o1 _ _ (by omega), m2 l (by omega), l1 _ _ (by omega), k1 _ _ (by omega), k71 _ _ (by omega) (by omega)]; exact z1
      · refine MPc_MC _ _ q' (MPc_loc _ _ _ z2 (fun k h1 h2 => c41 k (by clear q1 q2 q3 q4 q5 q6 q7 hz z1; omega))) ?_ q28
        rw [c41 q' q28]; exact z3
    · rw [kF _ _ (by omega) (by omega), kp _ _ (by omega), o1 _ _ (by omega), m1 _ _ (by omega), l1 _ _ (by omega), k1 _ _ (by omega), g2 c hc, k49 _ _ (by omega)]; exact d2 c hc
    · rw [ro t (by omega), kF _ _ (by omega) (by omega), (p2 t ht).1]
      by_cases q : t < nt
      · rw [if_pos q, keep _ _ (by omega) (by omega) (by omega) (by omega) (by omega) (by omega) (by omega) (by omega)]; exact (d3 t (by rw [hnt]; omega)).1
      · rw [if_neg q]; exact (w3 t ht (by rw [hnt]; omega)).symm
    · rw [ro t (by omega)] at hne
      have lt : (t : Int) < A 8 2 := by
        by_cases q : (t : Int) < A 8 2
        · exact q
        · exact absurd (w3 t ht (by omega)) hne
      rw [ro (12 + t) (by omega), ro (24 + t) (by omega), kF _ _ (by omega) (by omega), kF _ _ (by omega) (by omega), (p2 t ht).2.1, (p2 t ht).2.2, keep _ _ (by omega) (by omega) (by omega) (by omega) (by omega) (by omega) (by omega) (by omega), keep _ _ (by omega) (by omega) (by omega) (by omega) (by omega) (by omega) (by omega) (by omega)]
      exact (d3 t lt).2
    · have hi' : i < (A 8 3).toNat := hi
      have lt : (i : Int) < A 8 3 := by omega
      have i6 : i < 6 := by omega
      obtain ⟨-, -, y1, y2, y3, y4⟩ := k2 i i6
      have go : ∀ j, 36 ≤ j → j < 60 → hF 54 j = h71 54 j := fun j h1 h2 => by rw [kF _ _ (by omega) (by omega), kp _ _ (by omega), o1 _ _ (by omega), m1 _ _ (by omega), l1 _ _ (by omega)]
      rw [ro (36 + i) (by omega), ro (42 + i) (by omega), ro (48 + i) (by omega), ro (54 + i) (by omega), go _ (by omega) (by omega), go _ (by omega) (by omega), go _ (by omega) (by omega), go _ (by omega) (by omega), y1, y2, y3, y4, k71 _ _ (by omega) (by omega), w5 (42 + i) (by omega) (by omega) (by omega), w5 (48 + i) (by omega) (by omega) (by omega), w5 (54 + i) (by omega) (by omega) (by omega)]
      exact ⟨(d4 i lt).2.2, rfl, rfl, rfl⟩
    · rw [q6, hz]; rfl
    · rw [q7, ro 61 (by decide), w5 61 (by decide) (by decide) (by decide)]
  rw [x4]
  by_cases q : A 8 5 ≤ 0
  · exact w_t q (fin (-1) (by rw [if_pos q]))
  · exact w_f q (fin 0 (by rw [if_neg q]))
