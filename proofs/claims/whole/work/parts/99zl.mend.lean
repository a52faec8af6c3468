/-! pure part: the land that was read -/
def dLD (A : Hp) (cd : Nat → List Int) : LD := ((A 8 0).toNat, (A 8 1).toNat, (A 8 3).toNat, (A 8 5).toNat, (A 8 4).toNat, fun i => (A 4 i).toNat, A 5, A 7, cd)
def rof (A : Hp) : Nat → Int := fun k => if k = 60 then (if A 8 5 ≤ 0 then -1 else 0) else A 1 k
theorem MPc_MC {f : Nat → Int} : ∀ (C : List Int) (p q : Nat), MPc f p C q → f q = 0 → q < 2800 → MC f p C
  | [], p, q, h, h0, hq => by
    have e : p = q := h
    subst e
    exact ⟨hq, h0⟩
  | c :: r, p, q, h, h0, hq => by
    unfold MPc at h
    unfold MC
    by_cases q1 : 100 ≤ c
    · rw [if_pos q1] at h ⊢
      have l := MPc_le r _ _ h.2.2
      exact ⟨by omega, h.1, h.2.1, MPc_MC r _ _ h.2.2 h0 hq⟩
    · rw [if_neg q1] at h ⊢
      by_cases q2 : 20 ≤ c
      · rw [if_pos q2] at h ⊢
        have l := MPc_le r _ _ h.2.2
        exact ⟨by omega, h.1, h.2.1, MPc_MC r _ _ h.2.2 h0 hq⟩
      · rw [if_neg q2] at h ⊢
        have l := MPc_le r _ _ h.2
        exact ⟨by omega, h.1, MPc_MC r _ _ h.2 h0 hq⟩
theorem dLD_cl {A : Hp} {cd : Nat → List Int} (B : PBd A) : (((dLD A cd).cl : Nat) : Int) = A 8 0 * A 8 1 := by
  show (((A 8 0).toNat * (A 8 1).toNat : Nat) : Int) = _
  rw [Int.natCast_mul, Int.toNat_of_nonneg (by have := B.1; omega), Int.toNat_of_nonneg (by have := B.2.1; omega)]
theorem dLD_W {A : Hp} {cd : Nat → List Int} (B : PBd A) (W : PWf A cd) : DW (dLD A cd) := by
  have ec := dLD_cl (cd := cd) B
  obtain ⟨w1, w2, w3, w4, w5, w6, w7, w8, w9, w10, w11, w12⟩ := W
  obtain ⟨b1, b2, b3, b4, b5, b6⟩ := B
  refine ⟨⟨?_, ?_⟩, ⟨?_, ?_⟩, ?_, ?_, ?_, fun i hi => ?_, fun i j hi hj e => ?_, fun i hi => ?_, fun l hl => ?_⟩
  · show 1 ≤ (A 8 0).toNat; omega
  · show (A 8 0).toNat ≤ 8; omega
  · show 1 ≤ (A 8 1).toNat; omega
  · show (A 8 1).toNat ≤ 8; omega
  · show (A 8 3).toNat ≤ 6; omega
  · show (A 8 5).toNat ≤ 4; omega
  · show (A 8 4).toNat ≤ 8; omega
  · have hi' : i < (A 8 3).toNat := hi
    have := (w4 i (by omega)).1
    show (A 4 i).toNat < (dLD A cd).cl
    rw [← ec] at this
    omega
  · have hi' : i < (A 8 3).toNat := hi
    have hj' : j < (A 8 3).toNat := hj
    have e' : (A 4 i).toNat = (A 4 j).toNat := e
    have a1 := (w4 i (by omega)).1
    have a2 := (w4 j (by omega)).1
    exact w7 i j (by omega) (by omega) (by omega)
  · have hi' : i < (A 8 4).toNat := hi
    exact w11 i (by omega)
  · have hl' : l < (A 8 5).toNat := hl
    exact w12 l (by omega)
theorem dLD_H {A : Hp} {cd : Nat → List Int} (B : PBd A) (W : PWf A cd) : HT (dLD A cd) (A 0) := fun c hc => by
  have D := dLD_W B W
  have : (dLD A cd).cl ≤ 64 := cl64 D.1.2 D.2.1.2
  exact W.1 c (by omega)
theorem dLD_R {A : Hp} {cd : Nat → List Int} (B : PBd A) (W : PWf A cd) : RW (dLD A cd) 999 (rof A) := by
  have ec := dLD_cl (cd := cd) B
  obtain ⟨w1, w2, w3, w4, w5, w6, w7, w8, w9, w10, w11, w12⟩ := W
  obtain ⟨b1, b2, b3, b4, b5, b6⟩ := B
  have ro : ∀ k, k ≠ 60 → rof A k = A 1 k := fun k hk => if_neg hk
  have lt : ∀ t, t < 12 → A 1 t ≠ -1 → (t : Int) < A 8 2 := fun t ht h => by
    by_cases q : (t : Int) < A 8 2
    · exact q
    · exact absurd (w3 t ht (by omega)) h
  refine ⟨fun t ht h => ?_, fun i hi => ?_, ?_, ?_⟩
  · rw [ro t (by omega)] at h ⊢
    rw [ro (12 + t) (by omega), ro (24 + t) (by omega), ec]
    have l := lt t ht h
    obtain ⟨z1, z2, z3⟩ := w2 t l
    refine ⟨z1, z2, z3, fun i hi => ?_, fun u hu e => ?_⟩
    · have hi' : i < (A 8 3).toNat := hi
      have := w8 t i l (by omega)
      have a1 := (w4 i (by omega)).1
      show A 1 t ≠ (((A 4 i).toNat : Nat) : Int)
      omega
    · rw [ro u (by omega)] at e
      exact w6 u t (lt u hu (by rw [e]; exact h)) l e
  · have hi' : i < (A 8 3).toNat := hi
    have i6 : i < 6 := by omega
    rw [ro (36 + i) (by omega), ro (42 + i) (by omega), ro (48 + i) (by omega), ro (54 + i) (by omega), w5 (42 + i) (by omega) (by omega) (by omega), w5 (48 + i) (by omega) (by omega) (by omega), w5 (54 + i) (by omega) (by omega) (by omega)]
    have := (w4 i (by omega)).2
    refine ⟨by unfold in32; omega, by decide, by decide, by decide⟩
  · show -1 ≤ (if (60 : Nat) = 60 then (if A 8 5 ≤ 0 then (-1 : Int) else 0) else A 1 60) ∧ (if (60 : Nat) = 60 then (if A 8 5 ≤ 0 then (-1 : Int) else 0) else A 1 60) < (((A 8 5).toNat : Nat) : Int)
    rw [if_pos rfl]
    by_cases q : A 8 5 ≤ 0
    · rw [if_pos q]; omega
    · rw [if_neg q]; omega
  · rw [ro 61 (by decide), w5 61 (by decide) (by decide) (by decide)]
    decide
/-- as the class holds it -/
theorem dLD_C {A : Hp} {cd : Nat → List Int} {L n p : Nat} {h : Hp} (B : PBd A) (W : PWf A cd) (D : CDl A cd L h) (he : esum cd (A 8 5).toNat ≤ p) (hp : p ≤ n) (n7 : n ≤ 700) : CL (dLD A cd) L h := by
  obtain ⟨d1, ⟨e1, e2, e3, e4, e5, e6, e7, e8⟩, d3, d4, d5, d6, d7, d8⟩ := D
  obtain ⟨b1, b2, b3, b4, b5, b6⟩ := B
  have mono : ∀ a c : Nat, a ≤ c → esum cd a ≤ esum cd c := by
    intro a c hac
    induction c with
    | zero => rw [show a = 0 by omega]; exact Nat.le_refl _
    | succ c ih =>
      by_cases y : a = c + 1
      · rw [y]; exact Nat.le_refl _
      · exact Nat.le_trans (ih (by omega)) (Nat.le_add_right _ _)
  refine ⟨?_, ?_, ?_, ?_, ?_, fun i hi => ?_, fun i hi => ?_, fun i hi => ?_, esum cd, rfl, fun l hl => ?_⟩
  · rw [e1]; show A 8 0 = (((A 8 0).toNat : Nat) : Int); omega
  · rw [e2]; show A 8 1 = (((A 8 1).toNat : Nat) : Int); omega
  · rw [e4]; show A 8 3 = (((A 8 3).toNat : Nat) : Int); omega
  · rw [e6]; show A 8 5 = (((A 8 5).toNat : Nat) : Int); omega
  · rw [e5]; show A 8 4 = (((A 8 4).toNat : Nat) : Int); omega
  · have hi' : i < (A 8 3).toNat := hi
    have lt : (i : Int) < A 8 3 := by clear d3 d4 d5 d6 d7; omega
    have := (W.2.2.2.1 i lt).1
    rw [(d5 i lt).1]
    show A 4 i = (((A 4 i).toNat : Nat) : Int)
    clear d3 d4 d5 d6 d7
    omega
  · have hi' : i < (A 8 3).toNat := hi
    exact (d5 i (by clear d3 d4 d5 d6 d7; omega)).2
  · have hi' : i < (A 8 4).toNat := hi
    exact d6 i (by clear d3 d4 d5 d6 d7; omega)
  · have hl' : l < (A 8 5).toNat := hl
    obtain ⟨z1, z2⟩ := d7 l (by clear d3 d4 d5 d6 d7; omega)
    have m1 := mono (l + 1) (A 8 5).toNat hl'
    have m2 : esum cd (l + 1) = esum cd l + (cd l).length := rfl
    refine ⟨z1, by omega, by omega, ?_, z2⟩
    show (cd l).length = _
    omega
def SDe : Nat → Nat → Prop := fun a k => (a = 35 ∧ ((1 ≤ k ∧ k ≤ 5) ∨ k = 49 ∨ k = 59 ∨ k = 61 ∨ k = 65 ∨ k = 68)) ∨ (36 ≤ a ∧ a ≤ 41) ∨ a = 54
theorem m_l271 {h : Hp} : wp (it_ (fun s : Int × Hp => fX6_duchy_l271 s.1 s.2) FU (0, h)) (fun hq => Same (fun a k => a = 37 ∨ a = 38 ∨ (a = 54 ∧ 36 ≤ k ∧ k < 60)) h hq ∧ ∀ i, i < 6 → hq 37 i = h 46 i ∧ hq 38 i = h 47 i ∧ hq 54 (36 + i) = h 48 i ∧ hq 54 (42 + i) = 0 ∧ hq 54 (48 + i) = 0 ∧ hq 54 (54 + i) = 0) := by
  refine wp_for (fun k (s : Int × Hp) => s.1 = (k : Int) ∧ Same (fun a k => a = 37 ∨ a = 38 ∨ (a = 54 ∧ 36 ≤ k ∧ k < 60)) h s.2 ∧ ∀ i, i < k → s.2 37 i = h 46 i ∧ s.2 38 i = h 47 i ∧ s.2 54 (36 + i) = h 48 i ∧ s.2 54 (42 + i) = 0 ∧ s.2 54 (48 + i) = 0 ∧ s.2 54 (54 + i) = 0) 6 ?_ ?_ (FU_big (by decide)) ⟨rfl, Same.rf, fun i hi => absurd hi (Nat.not_lt_zero i)⟩
  · rintro k ⟨x, hh⟩ hk ⟨e1, e2, e3⟩
    dsimp only at e1 e2 e3 ⊢
    subst e1
    have i36 : i_add 36 (k : Int) = ((36 + k : Nat) : Int) := ik (c := 36) (by clear e3; omega) (by decide)
    have i42 : i_add 42 (k : Int) = ((42 + k : Nat) : Int) := ik (c := 42) (by clear e3 i36; omega) (by decide)
    have i48 : i_add 48 (k : Int) = ((48 + k : Nat) : Int) := ik (c := 48) (by clear e3 i36 i42; omega) (by decide)
    have i54 : i_add 54 (k : Int) = ((54 + k : Nat) : Int) := ik (c := 54) (by clear e3 i36 i42 i48; omega) (by decide)
    unfold fX6_duchy_l271
    refine w_f (by clear e3 i36 i42 i48 i54; omega) ?_
    rw [i36, i42, i48, i54, gd_y (by clear e3 i36 i42 i48 i54; omega), gd_y (by clear e3 i36 i42 i48 i54; omega), Int.toNat_natCast, wp_lb, gd_y (by clear e3 i36 i42 i48 i54; omega), gd_y (by clear e3 i36 i42 i48 i54; omega), wp_lb, gd_y (by clear e3 i36 i42 i48 i54; omega), gd_y (by clear e3 i36 i42 i48 i54; omega), Int.toNat_natCast, wp_lb, gd_y (by clear e3 i36 i42 i48 i54; omega), Int.toNat_natCast, wp_lb, gd_y (by clear e3 i36 i42 i48 i54; omega), Int.toNat_natCast, wp_lb, gd_y (by clear e3 i36 i42 i48 i54; omega), Int.toNat_natCast, wp_lb, i1 (by clear e3 i36 i42 i48 i54; omega), wp_some, E2_l]
    dsimp only
    have v47 : st hh 37 k (hh 46 k) 47 k = hh 47 k := st_na (by decide)
    have v48 : st (st hh 37 k (hh 46 k)) 38 k (st hh 37 k (hh 46 k) 47 k) 48 k = hh 48 k := by rw [st_na (by decide), st_na (by decide)]
    rw [v48, v47]
    generalize hE : st (st (st (st (st (st hh 37 k (hh 46 k)) 38 k (hh 47 k)) 54 (36 + k) (hh 48 k)) 54 (42 + k) 0) 54 (48 + k) 0) 54 (54 + k) 0 = h68
    have kE : ∀ a j, ¬ (a = 37 ∧ j = k) → ¬ (a = 38 ∧ j = k) → ¬ (a = 54 ∧ (j = 36 + k ∨ j = 42 + k ∨ j = 48 + k ∨ j = 54 + k)) → h68 a j = hh a j := fun a j w1 w2 w3 => by
      rw [← hE]
      show (if a = 54 ∧ j = 54 + k then _ else if a = 54 ∧ j = 48 + k then _ else if a = 54 ∧ j = 42 + k then _ else if a = 54 ∧ j = 36 + k then _ else if a = 38 ∧ j = k then _ else if a = 37 ∧ j = k then _ else hh a j) = _
      rw [if_neg (fun z => w3 ⟨z.1, Or.inr (Or.inr (Or.inr z.2))⟩), if_neg (fun z => w3 ⟨z.1, Or.inr (Or.inr (Or.inl z.2))⟩), if_neg (fun z => w3 ⟨z.1, Or.inr (Or.inl z.2)⟩), if_neg (fun z => w3 ⟨z.1, Or.inl z.2⟩), if_neg w2, if_neg w1]
    have v : h68 37 k = hh 46 k ∧ h68 38 k = hh 47 k ∧ h68 54 (36 + k) = hh 48 k ∧ h68 54 (42 + k) = 0 ∧ h68 54 (48 + k) = 0 ∧ h68 54 (54 + k) = 0 := by
      rw [← hE]
      refine ⟨?_, ?_, ?_, ?_, ?_, st_self⟩
      · rw [st_na (by decide), st_na (by decide), st_na (by decide), st_na (by decide), st_na (by decide)]; exact st_self
      · rw [st_na (by decide), st_na (by decide), st_na (by decide), st_na (by decide)]; exact st_self
      · rw [st_nk (by omega), st_nk (by omega), st_nk (by omega)]; exact st_self
      · rw [st_nk (by omega), st_nk (by omega)]; exact st_self
      · rw [st_nk (by omega)]; exact st_self
    clear hE v47 v48 i36 i42 i48 i54
    refine ⟨rfl, fun a j z => ?_, fun i hi => ?_⟩
    · rw [kE a j (by omega) (by omega) (by omega)]; exact e2 a j z
    · by_cases q : i = k
      · subst q
        rw [v.1, v.2.1, v.2.2.1, v.2.2.2.1, v.2.2.2.2.1, v.2.2.2.2.2, e2 _ _ (by omega), e2 _ _ (by omega), e2 _ _ (by omega)]
        exact ⟨rfl, rfl, rfl, rfl, rfl, rfl⟩
      · obtain ⟨z1, z2, z3, z4, z5, z6⟩ := e3 i (by clear e3 v; omega)
        rw [kE _ _ (by clear v z1 z2 z3 z4 z5 z6; omega) (by clear v z1 z2 z3 z4 z5 z6; omega) (by clear v z1 z2 z3 z4 z5 z6; omega), kE _ _ (by clear v z1 z2 z3 z4 z5 z6; omega) (by clear v z1 z2 z3 z4 z5 z6; omega) (by clear v z1 z2 z3 z4 z5 z6; omega), kE _ _ (by clear v z1 z2 z3 z4 z5 z6; omega) (by clear v z1 z2 z3 z4 z5 z6; omega) (by clear v z1 z2 z3 z4 z5 z6; omega), kE _ _ (by clear v z1 z2 z3 z4 z5 z6; omega) (by clear v z1 z2 z3 z4 z5 z6; omega) (by clear v z1 z2 z3 z4 z5 z6; omega), kE _ _ (by clear v z1 z2 z3 z4 z5 z6; omega) (by clear v z1 z2 z3 z4 z5 z6; omega) (by clear v z1 z2 z3 z4 z5 z6; omega), kE _ _ (by clear v z1 z2 z3 z4 z5 z6; omega) (by clear v z1 z2 z3 z4 z5 z6; omega) (by clear v z1 z2 z3 z4 z5 z6; omega)]
        exact ⟨z1, z2, z3, z4, z5, z6⟩
  · rintro ⟨x, hh⟩ ⟨e1, e2, e3⟩
    dsimp only at e1 e2 e3 ⊢
    subst e1
    unfold fX6_duchy_l271
    exact w_t (by decide) (wp_some.mpr ⟨e2, e3⟩)
theorem m_l390 {h : Hp} {nt : Nat} (h27 : h 35 27 = (nt : Int)) : wp (it_ (fun s : Int × Hp => fX6_duchy_l390 s.1 s.2) FU (0, h)) (fun hq => Same (fun a k => a = 54 ∧ k < 36) h hq ∧ ∀ t, t < 12 → hq 54 t = (if t < nt then h 45 (3 * t) else -1) ∧ hq 54 (12 + t) = h 45 (3 * t + 1) ∧ hq 54 (24 + t) = h 45 (3 * t + 2)) := by
  refine wp_for (fun k (s : Int × Hp) => s.1 = (k : Int) ∧ Same (fun a k => a = 54 ∧ k < 36) h s.2 ∧ ∀ t, t < k → s.2 54 t = (if t < nt then h 45 (3 * t) else -1) ∧ s.2 54 (12 + t) = h 45 (3 * t + 1) ∧ s.2 54 (24 + t) = h 45 (3 * t + 2)) 12 ?_ ?_ (FU_big (by decide)) ⟨rfl, Same.rf, fun i hi => absurd hi (Nat.not_lt_zero i)⟩
  · rintro k ⟨x, hh⟩ hk ⟨e1, e2, e3⟩
    dsimp only at e1 e2 e3 ⊢
    subst e1
    have x27 : hh 35 27 = (nt : Int) := by rw [e2 _ _ (by omega)]; exact h27
    have m0 : i_mul 3 (k : Int) = ((3 * k : Nat) : Int) := by rw [i_mul_eq ⟨by clear e3 x27 h27; omega, by clear e3 x27 h27; omega⟩]; clear e3 x27 h27; omega
    have m1 : i_add ((3 * k : Nat) : Int) 1 = ((3 * k + 1 : Nat) : Int) := i1 (by clear e3 m0 x27 h27; omega)
    have m2 : i_add ((3 * k : Nat) : Int) 2 = ((3 * k + 2 : Nat) : Int) := by rw [ia (by clear e3 m0 m1 x27 h27; omega) (by clear e3 m0 m1 x27 h27; omega)]; clear e3 m0 m1 x27 h27; omega
    have i12 : i_add 12 (k : Int) = ((12 + k : Nat) : Int) := ik (c := 12) (by clear e3 m0 m1 m2 x27 h27; omega) (by decide)
    have i24 : i_add 24 (k : Int) = ((24 + k : Nat) : Int) := ik (c := 24) (by clear e3 m0 m1 m2 i12 x27 h27; omega) (by decide)
    have go : ∀ z0 : Int, z0 = (if k < nt then h 45 (3 * k) else -1) → wp (fX6_duchy_j423 (k : Int) z0 (k : Int) hh) (E2 (fun s : Int × Hp => s.1 = ((k + 1 : Nat) : Int) ∧ Same (fun a k => a = 54 ∧ k < 36) h s.2 ∧ ∀ t, t < k + 1 → s.2 54 t = (if t < nt then h 45 (3 * t) else -1) ∧ s.2 54 (12 + t) = h 45 (3 * t + 1) ∧ s.2 54 (24 + t) = h 45 (3 * t + 2)) (fun hq => Same (fun a k => a = 54 ∧ k < 36) h hq ∧ ∀ t, t < 12 → hq 54 t = (if t < nt then h 45 (3 * t) else -1) ∧ hq 54 (12 + t) = h 45 (3 * t + 1) ∧ hq 54 (24 + t) = h 45 (3 * t + 2))) := by
      intro z0 hz
      unfold fX6_duchy_j423
      rw [m0, m1, m2, i12, i24, gd_y (by clear e3 m0 m1 m2 i12 i24 x27 h27 hz; omega), Int.toNat_natCast, wp_lb, gd_y (by clear e3 m0 m1 m2 i12 i24 x27 h27 hz; omega), gd_y (by clear e3 m0 m1 m2 i12 i24 x27 h27 hz; omega), Int.toNat_natCast, Int.toNat_natCast, wp_lb, gd_y (by clear e3 m0 m1 m2 i12 i24 x27 h27 hz; omega), gd_y (by clear e3 m0 m1 m2 i12 i24 x27 h27 hz; omega), Int.toNat_natCast, Int.toNat_natCast, wp_lb, i1 (by clear e3 m0 m1 m2 i12 i24 x27 h27 hz; omega), wp_some, E2_l]
      dsimp only
      have v1 : st hh 54 k z0 45 (3 * k + 1) = hh 45 (3 * k + 1) := st_na (by decide)
      have v2 : st (st hh 54 k z0) 54 (12 + k) (hh 45 (3 * k + 1)) 45 (3 * k + 2) = hh 45 (3 * k + 2) := by rw [st_na (by decide), st_na (by decide)]
      rw [v1, v2]
      have w45 : ∀ j, hh 45 j = h 45 j := fun j => e2 _ _ (by omega)
      refine ⟨rfl, ((e2.st ⟨rfl, by clear e3 m0 m1 m2 i12 i24 x27 h27 hz; omega⟩).st ⟨rfl, by clear e3 m0 m1 m2 i12 i24 x27 h27 hz; omega⟩).st ⟨rfl, by clear e3 m0 m1 m2 i12 i24 x27 h27 hz; omega⟩, fun t ht => ?_⟩
      by_cases q : t = k
      · subst q
        refine ⟨?_, ?_, ?_⟩
        · rw [st_nk (by omega), st_nk (by omega), st_self]; exact hz
        · rw [st_nk (by omega), st_self]; exact w45 _
        · rw [st_self]; exact w45 _
      · obtain ⟨y1, y2, y3⟩ := e3 t (by clear e3 m0 m1 m2 i12 i24 x27 h27 hz v1 v2; omega)
        refine ⟨?_, ?_, ?_⟩
        · rw [st_nk (by clear e3 m0 m1 m2 i12 i24 x27 h27 hz v1 v2 y1 y2 y3; omega), st_nk (by clear e3 m0 m1 m2 i12 i24 x27 h27 hz v1 v2 y1 y2 y3; omega), st_nk q]; exact y1
        · rw [st_nk (by clear e3 m0 m1 m2 i12 i24 x27 h27 hz v1 v2 y1 y2 y3; omega), st_nk (by clear e3 m0 m1 m2 i12 i24 x27 h27 hz v1 v2 y1 y2 y3; omega), st_nk (by clear e3 m0 m1 m2 i12 i24 x27 h27 hz v1 v2 y1 y2 y3; omega)]; exact y2
        · rw [st_nk (by clear e3 m0 m1 m2 i12 i24 x27 h27 hz v1 v2 y1 y2 y3; omega), st_nk (by clear e3 m0 m1 m2 i12 i24 x27 h27 hz v1 v2 y1 y2 y3; omega), st_nk (by clear e3 m0 m1 m2 i12 i24 x27 h27 hz v1 v2 y1 y2 y3; omega)]; exact y3
    unfold fX6_duchy_l390
    rw [x27, i0 (by clear e3 m0 m1 m2 i12 i24 x27 h27 go; omega)]
    refine w_f (by clear e3 m0 m1 m2 i12 i24 x27 h27 go; omega) ?_
    by_cases q : k < nt
    · refine w_f (by clear e3 m0 m1 m2 i12 i24 x27 h27 go; omega) ?_
      rw [m0, gd_y (by clear e3 m0 m1 m2 i12 i24 x27 h27 go; omega), Int.toNat_natCast]
      refine go _ ?_
      rw [if_pos q]; exact e2 _ _ (by omega)
    · refine w_t (by clear e3 m0 m1 m2 i12 i24 x27 h27 go; omega) (go _ ?_)
      rw [if_neg q]
  · rintro ⟨x, hh⟩ ⟨e1, e2, e3⟩
    dsimp only at e1 e2 e3 ⊢
    subst e1
    unfold fX6_duchy_l390
    exact w_t (by decide) (wp_some.mpr ⟨e2, e3⟩)
