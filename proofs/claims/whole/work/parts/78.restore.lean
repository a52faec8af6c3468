/-! pure part: restore -/
theorem s_image1 {h : Hp} (I : Inv (-1) h) : wp (fX6_image (imH (keH h))) (fun y => Inv 69 y.2) := image_ok I keH_f.1 keH_f.2
theorem s_image2 {h : Hp} (I : Inv 69 h) : wp (fX6_image (imH h)) (fun y => Inv 69 y.2) := by
  have e5 : h 0 5 = 69 := by
    obtain ⟨D, ht, ro, L, nr, rh, rm, na, P, C, O, Q, M, G⟩ := I
    exact G.1
  exact image_ok I e5 (fun _ _ _ _ => rfl)
theorem s_restore0 {κ : Int} {h : Hp} (I : Inv κ h) (h06 : h 0 6 = 0) : wp (fX6_restore h) (fun y => y.1 = 0 ∧ Inv κ y.2) := by
  have I0 := I
  obtain ⟨D, ht, ro, L, nr, rh, rm, na, P, C, O, Q, M, G⟩ := I
  obtain ⟨C0, z0, s1, s2⟩ := C.z Same.rf
  have e : h 35 68 = 0 := by
    rcases G.2 with ⟨-, e⟩ | ⟨e, -⟩
    · exact e
    · rw [h06] at e; exact absurd e (by decide)
  unfold fX6_restore
  rw [wp_lb, s2 35 68 (by unfold SX; omega), e]
  exact w_t rfl (wp_some.mpr ⟨rfl, I0.same s2⟩)
theorem s_restore1 {κ : Int} {h : Hp} (I : Inv κ h) (h06 : h 0 6 = 1) : wp (fX6_restore (cpA 26 69 h)) (fun y => y.1 = 1 ∧ Inv κ y.2) := by
  obtain ⟨D, ht, ro0, L, nr0, rh0, rm0, na0, P0, C, O, Q0, M, G⟩ := I
  have W := C.1
  have hL := C.2.2.2.1.1
  have G' := G
  obtain ⟨g5, g⟩ := G
  rcases g with ⟨e, -⟩ | ⟨-, g69, g68, ro, na, P, nr, rh, rm, R, r70, r65, Q, n6, t69, t70, tt⟩
  · rw [h06] at e; exact absurd e (by decide)
  obtain ⟨⟨q1, q2⟩, ⟨c3, o, ho, c2, cp⟩, ⟨m1, m2⟩⟩ := past_iff.mp Q
  obtain ⟨f1, f2, f3, f4, f5, f6, f7, f8⟩ := cpA_f (d := 26) (s := 69) (h := h) (by decide)
  generalize cpA 26 69 h = hc at *
  unfold fX6_restore
  rw [wp_lb, st_nk (show (68 : Nat) ≠ 0 by decide), f8 35 68 (by decide), g68]
  refine w_f n10 ?_
  rw [wp_lb, wp_lb, m_cp6554, wp_bd, wp_some]
  dsimp only
  rw [m_cp6656, wp_bd, wp_some]
  dsimp only
  rw [m_cp6764, wp_bd, wp_some]
  dsimp only
  rw [wp_some]
  generalize hh4 : st (st (st hc 35 0 0) 35 49 (st hc 35 0 0 35 69)) 35 65 (st (st hc 35 0 0) 35 49 (st hc 35 0 0 35 69) 35 70) = h4
  have j8 : ∀ a k, ¬ (26 ≤ a ∧ a ≤ 30) → ¬ (a = 35 ∧ (k = 0 ∨ k = 49 ∨ k = 65)) → h4 a k = h a k := fun a k n1 n3 => by
    rw [← hh4, ← f8 a k (by omega)]
    have e1 : ∀ (hx : Hp) (j : Nat) (v : Int), (j = 0 ∨ j = 49 ∨ j = 65) → st hx 35 j v a k = hx a k := fun hx j v hj => if_neg (fun z => n3 ⟨z.1, by omega⟩)
    rw [e1 _ _ _ (by omega), e1 _ _ _ (by omega), e1 _ _ _ (by omega)]
  have kA : ∀ a k, a ≠ 35 → h4 a k = hc a k := fun a k n => by rw [← hh4, st_na n, st_na n, st_na n]
  have k49 : h4 35 49 = (na : Int) := by
    rw [← hh4, st_nk (by decide), st_self, st_nk (by decide), f8 _ _ (by decide)]
    exact m1
  have k65 : h4 35 65 = (nr : Int) := by
    rw [← hh4, st_self, st_nk (by decide), st_nk (by decide), f8 _ _ (by decide)]
    exact t70
  clear hh4
  generalize hh5 : fil (fil (fil h4 54 62 (h4 65)) 56 2480 (fil h4 54 62 (h4 65) 66)) 64 12 (fil (fil h4 54 62 (h4 65)) 56 2480 (fil h4 54 62 (h4 65) 66) 67) = h5
  have g54 : ∀ k, k < 62 → h5 54 k = h4 65 k := fun k hk => by rw [← hh5, fil_n (by decide), fil_n (by decide), fil_y hk]
  have g56 : ∀ k, k < 2480 → h5 56 k = h4 66 k := fun k hk => by rw [← hh5, fil_n (by decide), fil_y hk, fil_n (by decide)]
  have g64 : ∀ k, k < 12 → h5 64 k = h4 67 k := fun k hk => by rw [← hh5, fil_y hk, fil_n (by decide), fil_n (by decide)]
  have gO : ∀ a k, ¬ (a = 54 ∨ a = 56 ∨ a = 64) → h5 a k = h4 a k := fun a k n => by rw [← hh5, fil_n (by omega), fil_n (by omega), fil_n (by omega)]
  clear hh5
  have q : ∀ a k, ¬ (a = 54 ∨ a = 56 ∨ a = 64) ∧ ¬ (26 ≤ a ∧ a ≤ 30) ∧ ¬ (a = 35 ∧ (k = 0 ∨ k = 49 ∨ k = 65)) → h5 a k = h a k := fun a k n => by rw [gO a k n.1, j8 a k n.2.1 n.2.2]
  refine ⟨rfl, ?_⟩
  show Inv κ h5
  have x27 : ∀ k, k < 62 → h5 27 k = h 70 k := fun k hk => by rw [gO _ _ (by decide), kA _ _ (by decide), f1 k hk]
  have x28 : ∀ k, k < 2480 → h5 28 k = h 71 k := fun k hk => by rw [gO _ _ (by decide), kA _ _ (by decide), f2 k hk]
  have x29 : ∀ k, k < 6 → h5 29 k = h 72 k := fun k hk => by rw [gO _ _ (by decide), kA _ _ (by decide), f5 k hk]
  have x30 : ∀ k, k < 6 → h5 30 k = h 73 k := fun k hk => by rw [gO _ _ (by decide), kA _ _ (by decide), f6 k hk]
  have x262 : h5 26 2 = (o : Int) := by rw [gO _ _ (by decide), kA _ _ (by decide), f3]; exact c2
  have x263 : h5 26 3 = (na : Int) := by rw [gO _ _ (by decide), kA _ _ (by decide), f4]; exact c3
  have x266 : h5 26 6 = (nr : Int) := by rw [gO _ _ (by decide), kA _ _ (by decide), f7]; exact t69
  have y49 : h5 35 49 = (na : Int) := by rw [gO _ _ (by decide)]; exact k49
  have y65 : h5 35 65 = (nr : Int) := by rw [gO _ _ (by decide)]; exact k65
  have y54 : RR D ro (h5 54) := r65.cg W (fun k hk => by rw [g54 k hk, j8 _ _ (by decide) (fun z => absurd z.1 (by decide))])
  have y56 : ∀ k, k < 2480 → h5 56 k = h 66 k := fun k hk => by rw [g56 k hk, j8 _ _ (by decide) (fun z => absurd z.1 (by decide))]
  have y64 : ∀ k, k < 12 → h5 64 k = h 67 k := fun k hk => by rw [g64 k hk, j8 _ _ (by decide) (fun z => absurd z.1 (by decide))]
  clear k49 k65 c2 c3 m1 f3 f4 f7 t69 t70 g68 g69 h06
  have CC : Core D ht ro L nr rh rm h5 := by
    obtain ⟨a1, a2, a3, ⟨b1, b2, b3, b4, b5⟩, -, a6, a7, a8, -, a10, a11, a12⟩ := C
    refine ⟨a1, a2, R, ⟨b1, ?_, b3.same (fun a k q1 q2 => q _ _ (by clear x262 x263 x266 y49 y65; omega)), fun c hc => ?_, r70.cg W x27⟩, ⟨n6, x266, fun i hi => ?_⟩, a6.same (fun a k p => q _ _ (by clear x262 x263 x266 y49 y65; omega)), fun c hc => ?_, y54, ⟨n6, y65, fun i hi => ?_⟩, ?_, ?_, ?_⟩
    · rw [q _ _ (by decide)]; exact b2
    · rw [q _ _ (by clear x262 x263 x266 y49 y65; omega)]; exact b4 c hc
    · have i6 : i < 6 := by clear x262 x263 x266 y49 y65; omega
      exact ⟨(tt i hi).1, by rw [x29 i i6]; exact (tt i hi).2.1, by rw [x30 i i6]; exact (tt i hi).2.2.1⟩
    · rw [q _ _ (by clear x262 x263 x266 y49 y65; omega)]; exact a7 c hc
    · have i6 : 2 * i < 12 ∧ 2 * i + 1 < 12 := by clear x262 x263 x266 y49 y65; omega
      exact ⟨(tt i hi).1, by rw [y64 _ i6.1]; exact (tt i hi).2.2.2.1, by rw [y64 _ i6.2]; exact (tt i hi).2.2.2.2⟩
    · rw [q _ _ (by decide)]; exact a10
    · rw [q _ _ (by decide)]; exact a11
    · rw [q _ _ (by decide)]; exact a12
  refine ⟨D, ht, ro, L, nr, rh, rm, na, P, CC, ?_, past_iff.mpr ⟨⟨q1, q2⟩, ⟨x263, o, ho, x262, fun i hi => (cp i hi).cg W (fun k hk => ?_)⟩, y49, fun i hi => (m2 i hi).cg W (fun k hk => ?_)⟩, M.cg (fun a k p => q _ _ (by clear x262 x263 x266 y49 y65; omega)), G'.cg (fun a k p => q _ _ (by clear x262 x263 x266 y49 y65; omega))⟩
  · unfold Oth at O ⊢
    rw [q _ _ (by decide)]; exact O
  · have hlt : (o + i) % 40 < 40 := Nat.mod_lt _ (by decide)
    exact x28 _ (by clear x262 x263 x266 y49 y65; omega)
  · show h5 56 (62 * i + k) = h 66 (62 * i + k)
    exact y56 _ (by clear x262 x263 x266 y49 y65; omega)
