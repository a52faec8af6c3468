/-! pure part: image and restore -/
theorem m_cp5465 {h : Hp} : fX6_copies_54_65 h = some (0, fil h 65 62 (h 54)) := by
  unfold fX6_copies_54_65
  rw [cp_loop (src := 54) (dst := 65) (N := 62) (by decide) (by decide) (fun k hh hk => ?_) (fun hh => ?_)]
  · rfl
  · unfold fX6_copies_54_65_l2
    rw [if_neg (by omega), gd_y ⟨by omega, by omega⟩, gd_y ⟨by omega, by omega⟩, Int.toNat_natCast, i1 (by omega)]
    rfl
  · unfold fX6_copies_54_65_l2
    rw [if_pos (Int.le_refl _)]
theorem m_cp5666 {h : Hp} : fX6_copies_56_66 h = some (0, fil h 66 2480 (h 56)) := by
  unfold fX6_copies_56_66
  rw [cp_loop (src := 56) (dst := 66) (N := 2480) (by decide) (by decide) (fun k hh hk => ?_) (fun hh => ?_)]
  · rfl
  · unfold fX6_copies_56_66_l2
    rw [if_neg (by omega), gd_y ⟨by omega, by omega⟩, gd_y ⟨by omega, by omega⟩, Int.toNat_natCast, i1 (by omega)]
    rfl
  · unfold fX6_copies_56_66_l2
    rw [if_pos (Int.le_refl _)]
theorem m_cp6467 {h : Hp} : fX6_copies_64_67 h = some (0, fil h 67 12 (h 64)) := by
  unfold fX6_copies_64_67
  rw [cp_loop (src := 64) (dst := 67) (N := 12) (by decide) (by decide) (fun k hh hk => ?_) (fun hh => ?_)]
  · rfl
  · unfold fX6_copies_64_67_l2
    rw [if_neg (by omega), gd_y ⟨by omega, by omega⟩, gd_y ⟨by omega, by omega⟩, Int.toNat_natCast, i1 (by omega)]
    rfl
  · unfold fX6_copies_64_67_l2
    rw [if_pos (Int.le_refl _)]
theorem m_cp6554 {h : Hp} : fX6_copies_65_54 h = some (0, fil h 54 62 (h 65)) := by
  unfold fX6_copies_65_54
  rw [cp_loop (src := 65) (dst := 54) (N := 62) (by decide) (by decide) (fun k hh hk => ?_) (fun hh => ?_)]
  · rfl
  · unfold fX6_copies_65_54_l2
    rw [if_neg (by omega), gd_y ⟨by omega, by omega⟩, gd_y ⟨by omega, by omega⟩, Int.toNat_natCast, i1 (by omega)]
    rfl
  · unfold fX6_copies_65_54_l2
    rw [if_pos (Int.le_refl _)]
theorem m_cp6656 {h : Hp} : fX6_copies_66_56 h = some (0, fil h 56 2480 (h 66)) := by
  unfold fX6_copies_66_56
  rw [cp_loop (src := 66) (dst := 56) (N := 2480) (by decide) (by decide) (fun k hh hk => ?_) (fun hh => ?_)]
  · rfl
  · unfold fX6_copies_66_56_l2
    rw [if_neg (by omega), gd_y ⟨by omega, by omega⟩, gd_y ⟨by omega, by omega⟩, Int.toNat_natCast, i1 (by omega)]
    rfl
  · unfold fX6_copies_66_56_l2
    rw [if_pos (Int.le_refl _)]
theorem m_cp6764 {h : Hp} : fX6_copies_67_64 h = some (0, fil h 64 12 (h 67)) := by
  unfold fX6_copies_67_64
  rw [cp_loop (src := 67) (dst := 64) (N := 12) (by decide) (by decide) (fun k hh hk => ?_) (fun hh => ?_)]
  · rfl
  · unfold fX6_copies_67_64_l2
    rw [if_neg (by omega), gd_y ⟨by omega, by omega⟩, gd_y ⟨by omega, by omega⟩, Int.toNat_natCast, i1 (by omega)]
    rfl
  · unfold fX6_copies_67_64_l2
    rw [if_pos (Int.le_refl _)]
/-- Affairs copied from s to d -/
theorem cpA_f {d s : Nat} {h : Hp} (hds : d + 10 < s ∨ s + 10 < d) : (∀ k, k < 62 → cpA d s h (d + 1) k = h (s + 1) k) ∧ (∀ k, k < 2480 → cpA d s h (d + 2) k = h (s + 2) k) ∧ cpA d s h d 2 = h s 2 ∧ cpA d s h d 3 = h s 3 ∧ (∀ k, k < 6 → cpA d s h (d + 3) k = h (s + 3) k) ∧ (∀ k, k < 6 → cpA d s h (d + 4) k = h (s + 4) k) ∧ cpA d s h d 6 = h s 6 ∧ ∀ a k, a < d ∨ d + 4 < a → cpA d s h a k = h a k := by
  have n1 : ∀ i j : Nat, i ≤ 4 → j ≤ 4 → s + i ≠ d + j := fun i j hi hj => by omega
  refine ⟨fun k hk => ?_, fun k hk => ?_, ?_, ?_, fun k hk => ?_, fun k hk => ?_, ?_, fun a k ha => ?_⟩
  · unfold cpA
    rw [st_na (by omega), cpy_a (by omega), cpy_a (by omega), st_na (by omega), st_na (by omega), cpy_a (by omega), cpy_d (by omega) (by omega), Nat.sub_zero]
  · unfold cpA
    rw [st_na (by omega), cpy_a (by omega), cpy_a (by omega), st_na (by omega), st_na (by omega), cpy_d (by omega) (by omega), Nat.sub_zero, cpy_a (by omega)]
  · unfold cpA
    rw [st_nk (by decide), cpy_a (by omega), cpy_a (by omega), st_nk (by decide), st_self, cpy_a (by omega), cpy_a (by omega)]
  · unfold cpA
    rw [st_nk (by decide), cpy_a (by omega), cpy_a (by omega), st_self, st_na (by omega), cpy_a (by omega), cpy_a (by omega)]
  · unfold cpA
    rw [st_na (by omega), cpy_a (by omega), cpy_d (by omega) (by omega), Nat.sub_zero, st_na (by omega), st_na (by omega), cpy_a (by omega), cpy_a (by omega)]
  · unfold cpA
    rw [st_na (by omega), cpy_d (by omega) (by omega), Nat.sub_zero, cpy_a (by omega), st_na (by omega), st_na (by omega), cpy_a (by omega), cpy_a (by omega)]
  · unfold cpA
    rw [st_self, cpy_a (by omega), cpy_a (by omega), st_na (by omega), st_na (by omega), cpy_a (by omega), cpy_a (by omega)]
  · unfold cpA
    rw [st_na (by omega), cpy_a (by omega), cpy_a (by omega), st_na (by omega), st_na (by omega), cpy_a (by omega), cpy_a (by omega)]
theorem keH_f {h : Hp} : keH h 0 5 = 69 ∧ ∀ a k, ¬ (69 ≤ a ∧ a ≤ 73) → ¬ (a = 0 ∧ k = 5) → keH h a k = h a k := by
  refine ⟨st_self, fun a k n1 n2 => ?_⟩
  unfold keH
  have e : st (mA69 (nw h 69 (dfv 0))) 0 5 ((69 : Nat) : Int) a k = mA69 (nw h 69 (dfv 0)) a k := if_neg n2
  have nn : ∀ (hh : Hp) (m : Nat) (f : Nat → Int), a ≠ m → nw hh m f a k = hh a k := fun hh m f q => if_neg q
  rw [e]
  unfold mA69
  rw [st_na (by omega), nn _ _ _ (by omega), st_na (by omega), nn _ _ _ (by omega), st_na (by omega), nn _ _ _ (by omega), st_na (by omega), nn _ _ _ (by omega), nn _ _ _ (by omega)]
theorem image_ok {κ : Int} {h hb : Hp} (I : Inv κ h) (e5 : hb 0 5 = 69) (eb : ∀ a k, ¬ (69 ≤ a ∧ a ≤ 73) → ¬ (a = 0 ∧ k = 5) → hb a k = h a k) : wp (fX6_image (imH hb)) (fun y => Inv 69 y.2) := by
  obtain ⟨D, ht, ro, L, nr, rh, rm, na, P, C, O, Q, M, G⟩ := I
  have W := C.1
  have hL := C.2.2.2.1.1
  obtain ⟨⟨q1, q2⟩, ⟨c3, o, ho, c2, cp⟩, ⟨m1, m2⟩⟩ := past_iff.mp Q
  obtain ⟨f1, f2, f3, f4, f5, f6, f7, f8⟩ := cpA_f (d := 69) (s := 26) (h := hb) (by decide)
  unfold fX6_image
  rw [wp_lb, wp_lb, wp_lb, wp_lb, m_cp5465, wp_bd, wp_some]
  dsimp only
  rw [m_cp5666, wp_bd, wp_some]
  dsimp only
  rw [m_cp6467, wp_bd, wp_some]
  dsimp only
  rw [wp_some]
  generalize hh4 : st (st (st (st (imH hb) 35 0 0) 35 68 1) 35 69 (st (st (imH hb) 35 0 0) 35 68 1 35 49)) 35 70 (st (st (st (imH hb) 35 0 0) 35 68 1) 35 69 (st (st (imH hb) 35 0 0) 35 68 1 35 49) 35 65) = h4
  have i8 : ∀ a k, ¬ (69 ≤ a ∧ a ≤ 73) → ¬ (a = 0 ∧ (k = 5 ∨ k = 6)) → imH hb a k = h a k := fun a k n1 n2 => by
    unfold imH
    have e : st (cpA 69 26 hb) 0 6 1 a k = cpA 69 26 hb a k := if_neg (by omega)
    rw [e, f8 a k (by omega), eb a k n1 (by omega)]
  have j8 : ∀ a k, ¬ (69 ≤ a ∧ a ≤ 73) → ¬ (a = 0 ∧ (k = 5 ∨ k = 6)) → ¬ (a = 35 ∧ (k = 0 ∨ (68 ≤ k ∧ k ≤ 70))) → h4 a k = h a k := fun a k n1 n2 n3 => by
    rw [← hh4, ← i8 a k n1 n2]
    have e1 : ∀ (hx : Hp) (j : Nat) (v : Int), (j = 0 ∨ (68 ≤ j ∧ j ≤ 70)) → st hx 35 j v a k = hx a k := fun hx j v hj => if_neg (fun z => n3 ⟨z.1, by omega⟩)
    rw [e1 _ _ _ (by omega), e1 _ _ _ (by omega), e1 _ _ _ (by omega), e1 _ _ _ (by omega)]
  have kA : ∀ a k, a ≠ 35 → h4 a k = imH hb a k := fun a k n => by rw [← hh4, st_na n, st_na n, st_na n, st_na n]
  have k68 : h4 35 68 = 1 := by rw [← hh4, st_nk (by decide), st_nk (by decide), st_self]
  have k69 : h4 35 69 = (na : Int) := by
    rw [← hh4, st_nk (by decide), st_self, st_nk (by decide), st_nk (by decide), i8 _ _ (by decide) (by decide)]
    exact m1
  have k70 : h4 35 70 = (nr : Int) := by
    rw [← hh4, st_self, st_nk (by decide), st_nk (by decide), st_nk (by decide), i8 _ _ (by decide) (by decide)]
    exact C.2.2.2.2.2.2.2.2.1.2.1
  have kC : ∀ a k, 69 ≤ a → imH hb a k = cpA 69 26 hb a k := fun a k n => by unfold imH; exact st_na (by omega)
  have k05 : h4 0 5 = 69 := by rw [kA _ _ (by decide)]; unfold imH; rw [st_nk (by decide), f8 _ _ (by decide)]; exact e5
  have k06 : h4 0 6 = 1 := by rw [kA _ _ (by decide)]; exact st_self
  clear hh4
  generalize hh5 : fil (fil (fil h4 65 62 (h4 54)) 66 2480 (fil h4 65 62 (h4 54) 56)) 67 12 (fil (fil h4 65 62 (h4 54)) 66 2480 (fil h4 65 62 (h4 54) 56) 64) = h5
  have g65 : ∀ k, k < 62 → h5 65 k = h4 54 k := fun k hk => by rw [← hh5, fil_n (by decide), fil_n (by decide), fil_y hk]
  have g66 : ∀ k, k < 2480 → h5 66 k = h4 56 k := fun k hk => by rw [← hh5, fil_n (by decide), fil_y hk, fil_n (by decide)]
  have g67 : ∀ k, k < 12 → h5 67 k = h4 64 k := fun k hk => by rw [← hh5, fil_y hk, fil_n (by decide), fil_n (by decide)]
  have gO : ∀ a k, ¬ (65 ≤ a ∧ a ≤ 67) → h5 a k = h4 a k := fun a k n => by rw [← hh5, fil_n (by omega), fil_n (by omega), fil_n (by omega)]
  clear hh5
  have q : ∀ a k, ¬ (65 ≤ a ∧ a ≤ 67) ∧ ¬ (69 ≤ a ∧ a ≤ 73) ∧ ¬ (a = 0 ∧ (k = 5 ∨ k = 6)) ∧ ¬ (a = 35 ∧ (k = 0 ∨ (68 ≤ k ∧ k ≤ 70))) → h5 a k = h a k := fun a k n => by rw [gO a k n.1, j8 a k n.2.1 n.2.2.1 n.2.2.2]
  show Inv 69 h5
  have CC : Core D ht ro L nr rh rm h5 := by
    clear k68 k69 k70 k05 k06 c2 c3 m1 e5
    obtain ⟨a1, a2, a3, ⟨b1, b2, b3, b4, b5⟩, ⟨c1, c2, c3⟩, a6, a7, a8, ⟨d1, d2, d3⟩, a10, a11, a12⟩ := C
    refine ⟨a1, a2, a3, ⟨b1, ?_, b3.same (fun a k q1 q2 => q _ _ (by omega)), fun c hc => ?_, b5.same (fun k => q _ _ (by omega))⟩, ⟨c1, ?_, fun i hi => ⟨(c3 i hi).1, ?_, ?_⟩⟩, a6.same (fun a k p => q _ _ (by omega)), fun c hc => ?_, a8.same (fun k => q _ _ (by omega)), ⟨d1, ?_, fun i hi => ⟨(d3 i hi).1, ?_, ?_⟩⟩, ?_, ?_, ?_⟩
    · rw [q _ _ (by omega)]; exact b2
    · rw [q _ _ (by omega)]; exact b4 c hc
    · rw [q _ _ (by omega)]; exact c2
    · rw [q _ _ (by omega)]; exact (c3 i hi).2.1
    · rw [q _ _ (by omega)]; exact (c3 i hi).2.2
    · rw [q _ _ (by omega)]; exact a7 c hc
    · rw [q _ _ (by omega)]; exact d2
    · rw [q _ _ (by omega)]; exact (d3 i hi).2.1
    · rw [q _ _ (by omega)]; exact (d3 i hi).2.2
    · rw [q _ _ (by omega)]; exact a10
    · rw [q _ _ (by omega)]; exact a11
    · rw [q _ _ (by omega)]; exact a12
  have x70 : ∀ k, k < 62 → h5 70 k = h 27 k := fun k hk => by rw [gO _ _ (by decide), kA _ _ (by decide), kC _ _ (by decide), f1 k hk, eb _ _ (by decide) (fun z => absurd z.1 (by decide))]
  have x71 : ∀ k, k < 2480 → h5 71 k = h 28 k := fun k hk => by rw [gO _ _ (by decide), kA _ _ (by decide), kC _ _ (by decide), f2 k hk, eb _ _ (by decide) (fun z => absurd z.1 (by decide))]
  have x72 : ∀ k, k < 6 → h5 72 k = h 29 k := fun k hk => by rw [gO _ _ (by decide), kA _ _ (by decide), kC _ _ (by decide), f5 k hk, eb _ _ (by decide) (fun z => absurd z.1 (by decide))]
  have x73 : ∀ k, k < 6 → h5 73 k = h 30 k := fun k hk => by rw [gO _ _ (by decide), kA _ _ (by decide), kC _ _ (by decide), f6 k hk, eb _ _ (by decide) (fun z => absurd z.1 (by decide))]
  have x692 : h5 69 2 = (o : Int) := by rw [gO _ _ (by decide), kA _ _ (by decide), kC _ _ (by decide), f3, eb _ _ (by decide) (by decide)]; exact c2
  have x693 : h5 69 3 = (na : Int) := by rw [gO _ _ (by decide), kA _ _ (by decide), kC _ _ (by decide), f4, eb _ _ (by decide) (by decide)]; exact c3
  have x696 : h5 69 6 = (nr : Int) := by rw [gO _ _ (by decide), kA _ _ (by decide), kC _ _ (by decide), f7, eb _ _ (by decide) (by decide)]; exact C.2.2.2.2.1.2.1
  have t29 := C.2.2.2.2.1.2.2
  have t64 := C.2.2.2.2.2.2.2.2.1.2.2
  have t6 := C.2.2.2.2.1.1
  refine ⟨D, ht, ro, L, nr, rh, rm, na, P, CC, ?_, Q.same (fun k => q _ _ ⟨by decide, by decide, fun z => absurd z.1 (by decide), fun z => absurd z.1 (by decide)⟩) (fun k => q _ _ ⟨by decide, by decide, fun z => absurd z.1 (by decide), fun z => absurd z.1 (by decide)⟩) (fun k => q _ _ ⟨by decide, by decide, fun z => absurd z.1 (by decide), fun z => absurd z.1 (by decide)⟩) (q _ _ (by decide)), ?_, by rw [gO _ _ (by decide)]; exact k05, Or.inr ⟨by rw [gO _ _ (by decide)]; exact k06, by rw [gO _ _ (by decide)]; exact k05, by rw [gO _ _ (by decide)]; exact k68, ro, na, P, nr, rh, rm, C.2.2.1, ?_, ?_, ?_, t6, x696, by rw [gO _ _ (by decide)]; exact k70, fun i hi => ?_⟩⟩
  · unfold Oth at O ⊢
    rw [q _ _ (by decide)]; exact O
  · exact M.cg (fun a k p => q _ _ (by clear x692 x693 x696 k68 k69 k70 k05 k06 c2 c3 m1 e5; omega))
  · exact C.2.2.2.1.2.2.2.2.cg W x70
  · exact C.2.2.2.2.2.2.2.1.cg W (fun k hk => by rw [g65 k hk, j8 _ _ (by decide) (fun z => absurd z.1 (by decide)) (fun z => absurd z.1 (by decide))])
  · refine past_iff.mpr ⟨⟨q1, q2⟩, ⟨x693, o, ho, x692, fun i hi => (cp i hi).cg W (fun k hk => ?_)⟩, by rw [gO _ _ (by decide)]; exact k69, fun i hi => (m2 i hi).cg W (fun k hk => ?_)⟩
    · have hlt : (o + i) % 40 < 40 := Nat.mod_lt _ (by decide)
      exact x71 _ (by clear x692 x693 x696 k68 k69 k70 k05 k06 c2 c3 m1 e5; omega)
    · show h5 66 (62 * i + k) = h 56 (62 * i + k)
      rw [g66 _ (by clear x692 x693 x696 k68 k69 k70 k05 k06 c2 c3 m1 e5; omega), j8 _ _ (by decide) (fun z => absurd z.1 (by decide)) (fun z => absurd z.1 (by decide))]
  · have b6 : i < 6 ∧ 2 * i < 12 ∧ 2 * i + 1 < 12 := by clear x692 x693 x696 k68 k69 k70 k05 k06 c2 c3 m1 e5; omega
    refine ⟨(t29 i hi).1, by rw [x72 i b6.1]; exact (t29 i hi).2.1, by rw [x73 i b6.1]; exact (t29 i hi).2.2, ?_, ?_⟩
    · rw [g67 _ b6.2.1, j8 _ _ (by decide) (fun z => absurd z.1 (by decide)) (fun z => absurd z.1 (by decide))]; exact (t64 i hi).2.1
    · rw [g67 _ b6.2.2, j8 _ _ (by decide) (fun z => absurd z.1 (by decide)) (fun z => absurd z.1 (by decide))]; exact (t64 i hi).2.2
