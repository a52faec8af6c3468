/-! pure part: the reference reads behind an operand, a step -/
theorem opS_w {b : Nat → Int} {n p : Nat} (h : tkK b n p = 1) : opS b n p = if kwN b n p = 15 then 1 else if kwN b n p = 14 then 2 else -1 := by
  unfold opS
  rw [h, if_neg (by decide), if_neg (by decide), if_neg (by decide), if_neg (by decide), if_neg (by decide), if_neg (by decide)]
theorem opS_no {b : Nat → Int} {n p : Nat} (h1 : kwN b n p ≠ 15) (h2 : kwN b n p ≠ 14) (h : tkK b n p ≠ 42 ∧ tkK b n p ≠ 43 ∧ tkK b n p ≠ 45 ∧ tkK b n p ≠ 47 ∧ tkK b n p ≠ 60 ∧ tkK b n p ≠ 61) : opS b n p = -1 := by
  unfold opS
  rw [if_neg h.1, if_neg h.2.1, if_neg h.2.2.1, if_neg h.2.2.2.1, if_neg h.2.2.2.2.1, if_neg h.2.2.2.2.2, if_neg h1, if_neg h2]
theorem m_exb {b : Nat → Int} {n base p0 k p win nots : Nat} {W C : List Int} {S0 : LwS} {h0 h : Hp} (T : TRk b n h0) (hb : p0 ≤ 2 * base + 4) (rc : RcL b n S0 (none, 3, p, win, nots, W, C)) (R : ROk b n base p0 (none, 3, p, win, nots, W, C) h) (s0 : Same (SRx p0) h0 h) (hk : k ≤ p) :
    wp (fX6_expression_l29 1 h) (E2 (PEx b n base p0 S0 h0 (k + 1)) (QEx b n base p0 S0 h0)) := by
  have n7 := T.1
  have R0 := R
  obtain ⟨r1, r2, r3, r4, r5, r6⟩ := R
  dsimp only at r1 r2 r3 r4
  have C1 := r1.2 rfl
  have w83 := stW_83 r5.1 (by rw [r5.2.1]; exact r5.2.2.1)
  dsimp only at w83
  have w5 := r5.2.2.2.1 (by simp)
  dsimp only at w5
  have wf := r5.2.2.2.2.2.2.2.2.2.1
  dsimp only at wf
  rw [if_pos rfl] at wf
  have x33 := r2.2.2.1
  have fgv := FGr_v r2.2.2.2.1
  -- it stops here
  have stop : stkL b n (none, 3, p, win, nots, W, C) → wp (some (Sum.inl ((0 : Int), h)) : Option ((Int × Hp) ⊕ Hp)) (E2 (PEx b n base p0 S0 h0 (k + 1)) (QEx b n base p0 S0 h0)) := fun z => wp_some.mpr ⟨s0, _, rc, Or.inr (Or.inl ⟨rfl, R0, rfl, z⟩)⟩
  have stopF : ¬ (tkK b n p = 41 ∧ 0 < win) → opS b n p = -1 → stkL b n (none, 3, p, win, nots, W, C) := by
    intro z1 z2
    by_cases y : tkK b n p = 59 ∧ win = 0
    · exact Or.inl y
    · refine Or.inr ?_
      rw [step_beh]
      unfold behS
      rw [if_neg z1, if_neg y, if_pos z2]
  unfold fX6_expression_l29
  refine w_f (by decide) ?_
  rw [m_isGood r1.1, wp_bp, wp_some, if_pos rfl]
  refine w_f (by decide) ?_
  rw [m_knownWord C1 r3, wp_bp, wp_some]
  -- and, or
  have wordc : ∀ (kw op z0 : Int), kwN b n p = kw → (kw = 14 ∧ op = 2 ∨ kw = 15 ∧ op = 1) → z0 = rkO op → wp (fX6_expression_j69 1 kw z0 h) (E2 (PEx b n base p0 S0 h0 (k + 1)) (QEx b n base p0 S0 h0)) := by
    intro kw op z0 e1 e2 e3
    have k1 : tkK b n p = 1 := by
      by_cases y : tkK b n p = 1
      · exact y
      · rw [kwN_no y] at e1; exfalso; clear x33; omega
    have eo : opS b n p = op := by
      rw [opS_w k1, e1]
      rcases e2 with ⟨z1, z2⟩ | ⟨z1, z2⟩
      · rw [z1, z2]; decide
      · rw [z1, z2]; decide
    have ok : op = 1 ∨ op = 2 := by clear x33; omega
    have rk12 : rkO op = 1 ∨ rkO op = 2 := by rcases ok with z | z <;> rw [z] <;> decide
    have n4 : ¬ rkO op = 4 := by clear x33; omega
    have es := beh_op (b := b) (n := n) (p := p) (win := win) (nots := nots) (W := W) (C := C) (o := op) (by rw [k1]; exact fun z => absurd z.1 (by decide)) (by rw [k1]; exact fun z => absurd z.1 (by decide)) eo (by clear x33; omega) (fun z => n4 z.1)
    rw [if_neg n4, if_pos ok, lwN_0 (by rw [e1]; clear x33; omega)] at es
    obtain ⟨c1, c2, c3, c4, c5, c6⟩ := stl_ok (r := rkO op) (by clear x33; omega) W C r5.1 wf
    have lv' : liveL (lawStep b n (none, 3, p, win, nots, W, C)) := by rw [es]; exact ⟨rfl, by simp⟩
    unfold fX6_expression_j69
    rw [e3]
    refine m_dropW (op := op) (f := fun h2 => gd_ (0 ≤ (h2 35 33) ∧ (h2 35 33) < 9) (lb_ (st h2 53 (Int.toNat ((h2 35 33))) 0) (fun h28 => bd_ (fX6_goes h28) (fun r29 h31 => bd_ (fX6_operand 1 h31) (fun r32 h34 => some (.inl (1, h34))))))) hb n7 R0 s0 (by clear x33; omega) (fun h2 a1 a2 a3 a4 a5 a6 a7 => ?_) _ (fun h1 _ => ?_)
    · rw [gd_y (by rw [a6]; clear x33 a6; omega), a6, Int.toNat_natCast, wp_lb]
      refine m_tail T hb rc R0 (a1.st (Or.inr (Or.inr (Or.inr rfl)))) (a2.same (fun k h1 h2 => by rw [st_na (by decide)])) lv' ?_ (by rw [es]; simp) (by rw [es]; simp) (by rw [es]) (by rw [es]; rfl) hk
      rw [es]
      dsimp only
      obtain ⟨q, q1, q2⟩ := a7
      refine ⟨by rw [st_na (by decide)]; exact a3, WAc_cg a4 (fun i _ => by rw [st_na (by decide)]), by rw [st_na (by decide)]; exact a6, ?_, q, by rw [st_na (by decide)]; exact q1, MPc_loc _ _ _ q2 (fun k _ _ => by rw [st_na (by decide)])⟩
      refine FGr_top r2.2.2.2.1 (fun k hk => by rw [st_nk (by clear x33 a6; omega)]; exact a5 k) ?_ ?_
      · rw [st_self]
        have ff : fgW (stl (rkO op) W C).1 = false := by
          cases hf : fgW (stl (rkO op) W C).1 with
          | false => rfl
          | true => have := fgW_4 c1 hf; exfalso; clear x33 a6; omega
        show (0 : Int) = b01 (if op = 0 then false else (fgW (stl (rkO op) W C).1 || decide (rkO op = 4)))
        rw [if_neg (by clear x33 a6; omega), ff, decide_eq_false n4]
        rfl
      · show (if op = 0 then (stl (rkO op) W C).1 else blW (stl (rkO op) W C).1) = blW W
        rw [if_neg (by clear x33 a6; omega)]
        exact stl_bl (by clear x33 a6; omega) W C
    · rcases e2 with ⟨z1, z2⟩ | ⟨z1, z2⟩
      · rw [if_pos z1, z2]; rfl
      · rw [if_neg (by rw [z1]; decide), z2]; rfl
  by_cases w14 : kwN b n p = 14
  · refine w_t w14 ?_
    unfold fX6_expression_j57
    refine w_t w14 (wordc _ 2 2 rfl (Or.inl ⟨w14, rfl⟩) (by decide))
  refine w_f w14 ?_
  by_cases w15 : kwN b n p = 15
  · refine w_t w15 ?_
    unfold fX6_expression_j57
    refine w_f w14 (wordc _ 1 1 rfl (Or.inr ⟨w15, rfl⟩) (by decide))
  refine w_f w15 ?_
  rw [m_isSign C1 (by decide), wp_bp, wp_some]
  -- sums, products
  have signc : ∀ (c op z0 : Int) (g : Hp → Option ((Int × Hp) ⊕ Hp)), tkK b n p = c → isSg c = true → c ≠ 41 → c ≠ 59 → opS b n p = op → (5 ≤ rkO op ∧ 6 ≤ op ∧ op ≤ 9) → z0 = rkO op → (∀ h1, RGk b n none p h1 → g h1 = bd_ (fX6_waitsFor (moW op) h1) (fun _ h2 => bd_ (fX6_goes h2) (fun _ h4 => bd_ (fX6_operand 0 h4) (fun _ h5 => some (.inl ((1 : Int), h5)))))) → wp (bd_ (fX6_drops z0 h) (fun _ h1 => g h1)) (E2 (PEx b n base p0 S0 h0 (k + 1)) (QEx b n base p0 S0 h0)) := by
    intro c op z0 g e1 e2 n41 n59 eo e3 e4 hg
    have n4 : ¬ rkO op = 4 := by clear x33; omega
    have es := beh_op (b := b) (n := n) (p := p) (win := win) (nots := nots) (W := W) (C := C) (o := op) (by rw [e1]; exact fun z => n41 z.1) (by rw [e1]; exact fun z => n59 z.1) eo (by clear x33; omega) (fun z => n4 z.1)
    have nk1 : tkK b n p ≠ 1 := by
      rw [e1]
      intro z
      rw [z] at e2
      exact absurd e2 (by decide)
    rw [if_neg n4, if_neg (by clear x33; omega), lwN_0 (by rw [kwN_no nk1]; decide)] at es
    have lv' : liveL (lawStep b n (none, 3, p, win, nots, W, C)) := by rw [es]; exact ⟨rfl, by simp⟩
    rw [e4]
    refine m_dropW (op := op) hb n7 R0 s0 (by clear x33; omega) (fun h2 a1 a2 a3 a4 a5 a6 a7 => ?_) g hg
    refine m_tail T hb rc R0 a1 a2 lv' ?_ (by rw [es]; simp) (by rw [es]; simp) (by rw [es]) (by rw [es]; rfl) hk
    rw [es]
    refine ⟨a3, a4, a6, ?_, a7⟩
    refine FGr_cg (FGr_loc r2.2.2.2.1 (fun k _ => a5 k)) ?_ ?_
    · show (if op = 0 then false else (fgW (stl (rkO op) W C).1 || decide (rkO op = 4))) = fgW W
      rw [if_neg (by clear x33 a6; omega), decide_eq_false n4, Bool.or_false]
      exact stl_fg5 e3.1 W C
    · show (if op = 0 then (stl (rkO op) W C).1 else blW (stl (rkO op) W C).1) = blW W
      rw [if_neg (by clear x33 a6; omega)]
      exact stl_bl (by clear x33 a6; omega) W C
  -- a test
  have testc : ∀ (c op : Int), tkK b n p = c → (c = 60 ∧ op = 4 ∨ c = 61 ∧ op = 5) → wp (fX6_expression_j127 1 h) (E2 (PEx b n base p0 S0 h0 (k + 1)) (QEx b n base p0 S0 h0)) := by
    intro c op e1 e2
    have eo : opS b n p = op := by
      unfold opS
      rw [e1]
      rcases e2 with ⟨z1, z2⟩ | ⟨z1, z2⟩
      · rw [z1, z2]; rfl
      · rw [z1, z2]; rfl
    have r4' : rkO op = 4 := by rcases e2 with ⟨-, z⟩ | ⟨-, z⟩ <;> rw [z] <;> decide
    unfold fX6_expression_j127
    rw [gd_y (by rw [x33]; clear x33; omega), x33, Int.toNat_natCast, fgv]
    by_cases ff : fgW W = true
    · rw [ff]
      refine w_f (by decide) ?_
      unfold fX6_expression_j186
      have ns : ∀ c' : Int, c' ≠ c → isSg c' = true → fX6_isSign c' h = some 0 := fun c' hc hs => by rw [m_isSign C1 hs, e1, if_neg (fun z => hc z.symm)]
      rw [ns 43 (by clear x33; omega) (by decide), wp_bp, wp_some]
      refine w_t rfl ?_
      rw [ns 45 (by clear x33; omega) (by decide), wp_bp, wp_some]
      refine w_t rfl ?_
      rw [ns 42 (by clear x33; omega) (by decide), wp_bp, wp_some]
      refine w_t rfl ?_
      rw [ns 47 (by clear x33; omega) (by decide), wp_bp, wp_some]
      refine w_t rfl ?_
      rw [ns 41 (by clear x33; omega) (by decide), wp_bp, wp_some]
      refine w_t rfl (stop (Or.inr ?_))
      rw [step_beh]
      unfold behS
      rw [if_neg (by rw [e1]; exact fun z => absurd z.1 (by clear x33; omega)), if_neg (by rw [e1]; exact fun z => absurd z.1 (by clear x33; omega)), eo, if_neg (by clear x33; omega)]
      dsimp only
      rw [if_pos r4', if_pos ⟨r4', (stl_t4 r5.1 wf).mpr ff⟩]
    · have ff' : fgW W = false := by simpa using ff
      rw [ff']
      refine w_t rfl ?_
      have e45 := stl_45 W C ff'
      have nt : ¬ (rkO op = 4 ∧ rkO (tpW (stl 5 W C).1) = 4) := fun z => ff ((stl_t4 r5.1 wf).mp z.2)
      have es := beh_op (b := b) (n := n) (p := p) (win := win) (nots := nots) (W := W) (C := C) (o := op) (by rw [e1]; exact fun z => absurd z.1 (by clear x33; omega)) (by rw [e1]; exact fun z => absurd z.1 (by clear x33; omega)) eo (by clear x33; omega) nt
      rw [if_pos r4', if_neg (by clear x33; omega), lwN_0 (by rw [kwN_no (by rw [e1]; clear x33; omega)]; decide), ← e45] at es
      have lv' : liveL (lawStep b n (none, 3, p, win, nots, W, C)) := by rw [es]; exact ⟨rfl, by simp⟩
      refine m_dropW (op := op) (r := 4) (f := fun h2 => gd_ (0 ≤ (h2 35 33) ∧ (h2 35 33) < 9) (lb_ (st h2 53 (Int.toNat ((h2 35 33))) 1) (fun h28 => bd_ (fX6_goes h28) (fun r29 h31 => bd_ (fX6_operand 0 h31) (fun r32 h34 => some (.inl (1, h34))))))) hb n7 R0 s0 (by decide) (fun h2 a1 a2 a3 a4 a5 a6 a7 => ?_) _ (fun h1 G1 => ?_)
      · rw [gd_y (by rw [a6]; clear x33 a6; omega), a6, Int.toNat_natCast, wp_lb]
        refine m_tail T hb rc R0 (a1.st (Or.inr (Or.inr (Or.inr rfl)))) (a2.same (fun k h1 h2 => by rw [st_na (by decide)])) lv' ?_ (by rw [es]; simp) (by rw [es]; simp) (by rw [es]) (by rw [es]; rfl) hk
        rw [es]
        dsimp only
        obtain ⟨q, q1, q2⟩ := a7
        refine ⟨by rw [st_na (by decide)]; exact a3, WAc_cg a4 (fun i _ => by rw [st_na (by decide)]), by rw [st_na (by decide)]; exact a6, ?_, q, by rw [st_na (by decide)]; exact q1, MPc_loc _ _ _ q2 (fun k _ _ => by rw [st_na (by decide)])⟩
        refine FGr_top r2.2.2.2.1 (fun k hk => by rw [st_nk (by clear x33 a6; omega)]; exact a5 k) ?_ ?_
        · rw [st_self]
          show (1 : Int) = b01 (if op = 0 then false else (fgW (stl 4 W C).1 || decide (rkO op = 4)))
          rw [if_neg (by clear x33 a6; omega), decide_eq_true r4', Bool.or_true]
          rfl
        · show (if op = 0 then (stl 4 W C).1 else blW (stl 4 W C).1) = blW W
          rw [if_neg (by clear x33 a6; omega)]
          exact stl_bl (by decide) W C
      · rw [m_isSign (G1.2 rfl) (by decide), e1]
        rcases e2 with ⟨z1, z2⟩ | ⟨z1, z2⟩
        · rw [z1, z2]; rfl
        · rw [z1, z2]; rfl
  by_cases k60 : tkK b n p = 60
  · rw [if_pos k60]
    exact w_f (by decide) (testc 60 4 k60 (Or.inl ⟨rfl, rfl⟩))
  rw [if_neg k60]
  refine w_t rfl ?_
  rw [m_isSign C1 (by decide), wp_bp, wp_some]
  by_cases k61 : tkK b n p = 61
  · rw [if_pos k61]
    exact w_f (by decide) (testc 61 5 k61 (Or.inr ⟨rfl, rfl⟩))
  rw [if_neg k61]
  refine w_t rfl ?_
  unfold fX6_expression_j186
  rw [m_isSign C1 (by decide), wp_bp, wp_some]
  by_cases k43 : tkK b n p = 43
  · rw [if_pos k43]
    refine w_f (by decide) ?_
    unfold fX6_expression_j204
    exact signc 43 6 5 _ k43 (by decide) (by decide) (by decide) (by unfold opS; rw [k43]; rfl) (by decide) (by decide) (fun h1 G1 => by rw [m_isSign (G1.2 rfl) (by decide), k43]; rfl)
  rw [if_neg k43]
  refine w_t rfl ?_
  rw [m_isSign C1 (by decide), wp_bp, wp_some]
  by_cases k45 : tkK b n p = 45
  · rw [if_pos k45]
    refine w_f (by decide) ?_
    unfold fX6_expression_j204
    exact signc 45 7 5 _ k45 (by decide) (by decide) (by decide) (by unfold opS; rw [k45]; rfl) (by decide) (by decide) (fun h1 G1 => by rw [m_isSign (G1.2 rfl) (by decide), k45]; rfl)
  rw [if_neg k45]
  refine w_t rfl ?_
  rw [m_isSign C1 (by decide), wp_bp, wp_some]
  by_cases k42 : tkK b n p = 42
  · rw [if_pos k42]
    refine w_f (by decide) ?_
    unfold fX6_expression_j259
    exact signc 42 8 6 _ k42 (by decide) (by decide) (by decide) (by unfold opS; rw [k42]; rfl) (by decide) (by decide) (fun h1 G1 => by rw [m_isSign (G1.2 rfl) (by decide), k42]; rfl)
  rw [if_neg k42]
  refine w_t rfl ?_
  rw [m_isSign C1 (by decide), wp_bp, wp_some]
  by_cases k47 : tkK b n p = 47
  · rw [if_pos k47]
    refine w_f (by decide) ?_
    unfold fX6_expression_j259
    exact signc 47 9 6 _ k47 (by decide) (by decide) (by decide) (by unfold opS; rw [k47]; rfl) (by decide) (by decide) (fun h1 G1 => by rw [m_isSign (G1.2 rfl) (by decide), k47]; rfl)
  rw [if_neg k47]
  refine w_t rfl ?_
  have no : opS b n p = -1 := opS_no w15 w14 ⟨k42, k43, k45, k47, k60, k61⟩
  rw [m_isSign C1 (by decide), wp_bp, wp_some]
  by_cases k41 : tkK b n p = 41
  · rw [if_pos k41]
    refine w_f (by decide) ?_
    rw [m_isOpened r2 (stW_all r5.1) (by clear x33; omega), wp_bp, wp_some]
    have ow : opn W = win := r5.2.1
    by_cases w0 : 0 < opn W
    · rw [if_pos w0]
      refine w_f (by decide) ?_
      obtain ⟨c1, c2, c3, c4, c5, c6⟩ := stl_ok (r := 1) (by decide) W C r5.1 wf
      have bt0 : tpW (stl 1 W C).1 = 0 := (rkO_0 (stW_tp c1)).mp c4
      obtain ⟨U, hU⟩ := tp_open bt0 (by rw [c3]; exact w0)
      have es : lawStep b n (none, 3, p, win, nots, W, C) = (none, 3, tkE b n p, win - 1, lwN b n p nots, U, (stl 1 W C).2) := by
        rw [step_beh]
        unfold behS
        rw [if_pos ⟨k41, by rw [← ow]; exact w0⟩, hU]
        rfl
      have lv' : liveL (lawStep b n (none, 3, p, win, nots, W, C)) := by rw [es]; exact ⟨rfl, by simp⟩
      unfold fX6_closes
      rw [wp_bd, wp_bd]
      refine (m_drops (r := 0) r2 (stW_all r5.1) (by decide) (by clear x33; omega) (by clear x33; omega)).mono ?_
      rintro ⟨u, h1⟩ ⟨g1, g2, g3, q, g4, g5⟩
      rw [if_pos rfl] at g2 g3 g5
      rw [hU] at g2 g3
      dsimp only at g1 g2 g3 g4 g5 ⊢
      have lU : U.length + 1 ≤ W.length := by rw [hU] at c6; exact c6
      have g2' : h1 35 32 = ((U.length + 1 : Nat) : Int) := g2
      have em : i_sub ((U.length + 1 : Nat) : Int) 1 = (U.length : Int) := by
        clear x33 g2 g2' g4
        rw [isb (by omega) (by omega)]
        omega
      have y33 : st h1 35 32 (U.length : Int) 35 33 = ((win + 1 : Nat) : Int) := by rw [st_nk (by decide), g1 _ _ (by unfold SRp; omega)]; exact x33
      have ew : i_sub ((win + 1 : Nat) : Int) 1 = (win : Int) := by
        clear x33 g2 g2' g4 y33
        rw [isb (by omega) (by omega)]
        omega
      rw [g2', em, wp_lb, y33, ew, wp_lb]
      generalize hE : st (st h1 35 32 (U.length : Int)) 35 33 (win : Int) = h5
      have kE : ∀ a k, ¬ (a = 35 ∧ (k = 32 ∨ k = 33)) → h5 a k = h1 a k := fun a k w => by
        rw [← hE]
        show (if a = 35 ∧ k = 33 then _ else if a = 35 ∧ k = 32 then _ else h1 a k) = _
        rw [if_neg (fun z => w ⟨z.1, Or.inr z.2⟩), if_neg (fun z => w ⟨z.1, Or.inl z.2⟩)]
      have s5 : Same (SRx p0) h0 h5 := (s0.tr (g1.mono (fun a k z => by unfold SRp at z; unfold SRx; clear x33 g2 g2' g4 y33; omega))).tr (fun a k z => kE a k (fun w => z (Or.inl ⟨w.1, Or.inr (Or.inr ⟨by clear x33 g2 g2' g4 y33; omega, by clear x33 g2 g2' g4 y33; omega⟩)⟩)))
      have G5 : RGk b n none p h5 := r1.same (fun k h1 h2 => by rw [kE _ _ (by clear x33 g2 g2' g4 y33; omega), g1 _ _ (by unfold SRp; clear x33 g2 g2' g4 y33; omega)])
      rw [wp_bd]
      refine (m_next (T.same (fun k => s5 _ _ (by unfold SRx; omega))) G5 r3).mono ?_
      rintro ⟨u2, h8⟩ ⟨m1, m2⟩
      dsimp only at m1 m2 ⊢
      rw [wp_some, wp_some, E2_l]
      have D5 : RLw p0 (win - 1) U (stl 1 W C).2 h5 := by
        have wp1 : win - 1 + 1 = win := by clear x33 g2 g2' g4 y33; omega
        refine ⟨by rw [← hE, st_nk (by decide)]; exact st_self, WAc_cg g3.2 (fun i _ => kE _ _ (by clear x33 g2 g2' g4 y33; omega)), by rw [wp1, ← hE]; exact st_self, ?_, q, by rw [kE _ _ (by clear x33 g2 g2' g4 y33; omega)]; exact g4, MPc_loc _ _ _ g5 (fun k _ _ => kE _ _ (by clear x33 g2 g2' g4 y33; omega))⟩
        have f0 := r2.2.2.2.1
        obtain ⟨w', hw'⟩ : ∃ w', win = w' + 1 := ⟨win - 1, by clear x33 g2 g2' g4 y33; omega⟩
        rw [hw'] at f0 ⊢
        have fb := f0.2
        have eb := stl_bl (r := 1) (by decide) W C
        rw [hU] at eb
        have eb' : U = blW W := eb
        rw [← eb'] at fb
        show FGr (h5 53) w' U
        exact FGr_loc fb (fun k _ => by rw [kE _ _ (by clear x33 g2 g2' g4 y33; omega), g1 _ _ (by unfold SRp; clear x33 g2 g2' g4 y33; omega)])
      have R8 : ROk b n base p0 (lawStep b n (none, 3, p, win, nots, W, C)) h8 := ROk_step R0 lv' m2 (by rw [es]; exact D5.same (fun a k z => m1 _ _ (by unfold SRk; clear x33 g2 g2' g4 y33; omega)))
      have p1 := (law_sz (b := b) r5 r6 r3 r4).2.2 lv'
      refine ⟨s5.tr (S1424_x (SRk_24 m1)), _, RcL_s rc r6, Or.inl ⟨rfl, R8, by rw [es], ?_⟩⟩
      have p1' : p + 1 ≤ (lawStep b n (none, 3, p, win, nots, W, C)).2.2.1 := p1
      clear x33 g2 g2' g4 y33
      omega
    · rw [if_neg w0]
      exact w_t rfl (stop (stopF (fun z => w0 (by rw [ow]; exact z.2)) no))
  · rw [if_neg k41]
    exact w_t rfl (stop (stopF (fun z => k41 z.1) no))
