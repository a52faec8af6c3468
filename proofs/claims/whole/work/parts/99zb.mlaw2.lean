/-! pure part: the reference reads a law, an operand -/
theorem lawN_add {b : Nat → Int} {n : Nat} {S : LwS} {k : Nat} : ∀ m, lawN b n S (k + m) = lawN b n (lawN b n S k) m
  | 0 => rfl
  | m + 1 => by
    show lawStep b n (lawN b n S (k + m)) = lawStep b n (lawN b n (lawN b n S k) m)
    rw [lawN_add m]
theorem RcL_tr {b : Nat → Int} {n : Nat} {S A B : LwS} (h1 : RcL b n S A) (h2 : RcL b n A B) : RcL b n S B := by
  obtain ⟨k, e, hk⟩ := h1
  obtain ⟨m, f, hm⟩ := h2
  refine ⟨k + m, by rw [lawN_add, e, f], fun j hj => ?_⟩
  by_cases q : j < k
  · exact hk j q
  · obtain ⟨i, rfl⟩ : ∃ i, j = k + i := ⟨j - k, by omega⟩
    rw [lawN_add, e]
    exact hm i (by omega)
def SRx (p0 : Nat) : Nat → Nat → Prop := fun a k => (a = 35 ∧ ((14 ≤ k ∧ k ≤ 15) ∨ (18 ≤ k ∧ k ≤ 24) ∨ (31 ≤ k ∧ k ≤ 33))) ∨ (a = 51 ∧ p0 ≤ k) ∨ a = 52 ∨ a = 53
theorem S1424_x {p0 : Nat} {h h' : Hp} (s : Same S1424 h h') : Same (SRx p0) h h' := s.mono (fun a k z => by unfold S1424 at z; unfold SRx; omega)
def ROk (b : Nat → Int) (n base p0 : Nat) (S : LwS) (h : Hp) : Prop := RGk b n none S.2.2.1 h ∧ RLw p0 S.2.2.2.1 S.2.2.2.2.2.1 S.2.2.2.2.2.2 h ∧ S.2.2.1 ≤ n ∧ base + S.2.2.2.2.2.2.length + S.2.2.2.2.2.1.length ≤ S.2.2.1 ∧ LIw S ∧ liveL S
def RBad (S : LwS) (h : Hp) : Prop := S.1 ≠ none ∧ FLr S.1 h ∧ WKr h
theorem RLw.wk {p0 win base p n : Nat} {W C : List Int} {h : Hp} (D : RLw p0 win W C h) (hst : stW W) (ho : opn W ≤ 6) (hb : p0 ≤ 2 * base + 4) (hs : base + C.length + W.length ≤ p) (hp : p ≤ n) (n7 : n ≤ 700) : ∃ w q : Nat, h 35 32 = (w : Int) ∧ h 35 31 = (q : Int) ∧ w ≤ 83 ∧ q ≤ 1404 ∧ w = W.length ∧ MPc (h 51) p0 C q := by
  obtain ⟨d1, d2, d3, d4, q, d5, d6⟩ := D
  have sz := stW_83 hst ho
  have ql := MPc_le _ _ _ d6
  exact ⟨W.length, q, d1, d5, sz.1, by clear d1 d5; omega, rfl, d6⟩
theorem step_part {b : Nat → Int} {n nx p win nots : Nat} {W C : List Int} (h : nx ≠ 3) : lawStep b n (none, nx, p, win, nots, W, C) = ((partS b n nx p win (lwN b n p nots) W C).1, (partS b n nx p win (lwN b n p nots) W C).2.1, tkE b n p, (partS b n nx p win (lwN b n p nots) W C).2.2.1, lwN b n p nots, (partS b n nx p win (lwN b n p nots) W C).2.2.2.1, (partS b n nx p win (lwN b n p nots) W C).2.2.2.2) := by
  unfold lawStep
  dsimp only
  rw [if_neg h]
theorem step_beh {b : Nat → Int} {n p win nots : Nat} {W C : List Int} : lawStep b n (none, 3, p, win, nots, W, C) = ((behS b n p win W C).1, (behS b n p win W C).2.1, tkE b n p, (behS b n p win W C).2.2.1, lwN b n p nots, (behS b n p win W C).2.2.2.1, (behS b n p win W C).2.2.2.2) := rfl
/-- a step that ends well -/
theorem ROk_step {b : Nat → Int} {n base p0 : Nat} {S : LwS} {h h' : Hp} (R : ROk b n base p0 S h) (lv : liveL (lawStep b n S)) (G : RGk b n none (tkE b n S.2.2.1) h') (D : RLw p0 (lawStep b n S).2.2.2.1 (lawStep b n S).2.2.2.2.2.1 (lawStep b n S).2.2.2.2.2.2 h') : ROk b n base p0 (lawStep b n S) h' := by
  obtain ⟨r1, r2, r3, r4, r5, r6⟩ := R
  obtain ⟨z1, z2, z3⟩ := law_sz (b := b) r5 r6 r3 r4
  exact ⟨G, D, z2, z1, (law_LI (b := b) (n := n) r5 r6).1 lv, lv⟩
theorem part_not {b : Nat → Int} {n nx p win nots : Nat} {W C : List Int} (hk : kwN b n p = 16) (n2 : nx ≠ 2) (h0 : nx = 0 → win ≤ 5) : partS b n nx p win (lwN b n p nots) W C = if 6 < nots + 1 then (some (2, tkS b n p), 4, win, W, C) else (none, 1, win, 3 :: W, C) := by
  have k1 : tkK b n p = 1 := by
    by_cases z : tkK b n p = 1
    · exact z
    · rw [kwN_no z] at hk; exact absurd hk (by decide)
  have en : lwN b n p nots = nots + 1 := if_pos hk
  unfold partS
  rw [if_neg (fun z => z (Or.inr (Or.inl k1))), en]
  by_cases q : 6 < nots + 1
  · rw [if_pos (Or.inr ⟨q, n2⟩), if_pos q]
  · rw [if_neg (fun z => z.elim (fun w => by have := h0 w.1; omega) (fun w => q w.1)), if_neg (by rw [k1]; decide), if_neg (by rw [k1]; decide), if_pos ⟨by omega, n2⟩, if_neg q]
theorem m_nots {b : Nat → Int} {n base p0 : Nat} {S : LwS} {h : Hp} {x2 : Int} (T : TRk b n h) (hb : p0 ≤ 2 * base + 4) (R : ROk b n base p0 S h) (n3 : S.2.1 ≠ 3) (h0 : S.2.1 = 0 → S.2.2.2.1 ≤ 5) (nz : S.2.2.2.2.1 = 0) (hx : x2 = (if S.2.1 = 2 then 0 else 1)) :
    wp (it_ (fun s : Int × Hp => fX6_operand_l18 x2 s.1 s.2) FU (0, h)) (fun hq => ∃ S' : LwS, RcL b n S S' ∧ Same (SRx p0) h hq ∧ ((ROk b n base p0 S' hq ∧ S'.2.1 ≠ 3 ∧ (S'.2.1 = 0 → S'.2.2.2.1 ≤ 5) ∧ (S'.2.1 = 2 ∨ kwN b n S'.2.2.1 ≠ 16)) ∨ RBad S' hq)) := by
  have n7 := T.1
  refine wp_for (fun j (s : Int × Hp) => s.1 = (j : Int) ∧ Same (SRx p0) h s.2 ∧ ∃ S' : LwS, RcL b n S S' ∧ ((ROk b n base p0 S' s.2 ∧ S'.2.1 ≠ 3 ∧ (S'.2.1 = 0 → S'.2.2.2.1 ≤ 5) ∧ S'.2.2.2.2.1 = j ∧ (S'.2.1 = 2 ↔ x2 = 0)) ∨ RBad S' s.2)) 8 ?_ ?_ (FU_big (by decide)) ⟨rfl, Same.rf, S, RcL_0, Or.inl ⟨R, n3, h0, nz, ?_⟩⟩
  · rintro j ⟨x, hh⟩ hj ⟨e0, e1, S', e2, e3⟩
    dsimp only at e0 e1 e3 ⊢
    subst e0
    have T1 : TRk b n hh := T.same (fun k => e1 _ _ (by unfold SRx; omega))
    unfold fX6_operand_l18
    rcases e3 with ⟨a1, a2, a3, a4, a5⟩ | bad
    · obtain ⟨r1, r2, r3, r4, r5, r6⟩ := a1
      rw [m_isGood r1.1, wp_bp, wp_some, if_pos rfl]
      refine w_f (by decide) ?_
      by_cases q0 : x2 = 0
      · exact w_t q0 (wp_some.mpr ⟨S', e2, e1, Or.inl ⟨⟨r1, r2, r3, r4, r5, r6⟩, a2, a3, Or.inl (a5.mpr q0)⟩⟩)
      · refine w_f q0 ?_
        have n2 : S'.2.1 ≠ 2 := fun z => q0 (a5.mp z)
        rw [m_knownWord (r1.2 rfl) r3, wp_bp, wp_some]
        by_cases k16 : kwN b n S'.2.2.1 = 16
        · refine w_t k16 ?_
          obtain ⟨fl, nx, p, win, nots, W, C⟩ := S'
          have lv := r6
          obtain ⟨l1, l2⟩ := r6
          dsimp only at *
          subst l1
          subst a4
          have ep := part_not (nots := nots) (W := W) (C := C) k16 n2 a3
          have es := step_part (b := b) (n := n) (p := p) (win := win) (nots := nots) (W := W) (C := C) a2
          rw [ep] at es
          have rc := RcL_s e2 lv
          have w83 := stW_83 r5.1 (by rw [r5.2.1]; exact r5.2.2.1)
          dsimp only at w83
          obtain ⟨ww, qq, k1, k2, k3, k4, k5, -⟩ := r2.wk r5.1 (by rw [r5.2.1]; exact r5.2.2.1) hb r4 r3 n7
          have jj : i_add (nots : Int) 1 = ((nots + 1 : Nat) : Int) := i1 (by clear k1 k2; omega)
          by_cases q6 : nots = 6
          · subst q6
            rw [if_pos (by decide)] at es
            refine w_t rfl ?_
            rw [wp_bd]
            refine (m_wrong r1.1 (fun _ => (r1.2 rfl).2.2.1) (by decide)).mono ?_
            rintro ⟨u, h25⟩ ⟨g1, g2⟩
            dsimp only at g1 g2 ⊢
            unfold fX6_operand_j50
            rw [m_isGood g2, wp_bp, wp_some, if_neg rfS_n, jj]
            refine w_t rfl (wp_some.mpr ⟨rfl, e1.tr (S1424_x (S45_24 g1)), _, rc, Or.inr ⟨?_, ?_, ?_⟩⟩)
            · rw [es]; simp
            · rw [es]; exact g2
            · exact WKr.same ⟨ww, qq, k1, k2, by omega, by omega⟩ (g1 _ _ (by unfold S45; omega)) (g1 _ _ (by unfold S45; omega))
          · have le6 : nots ≤ 6 := by
              have := r5.2.2.2.2.2.2.2.1 a2
              have t := stW_tn r5.1
              dsimp only at this t
              clear k1 k2
              omega
            rw [if_neg (by clear k1 k2 jj; omega)] at es
            refine w_f (by clear k1 k2 jj; omega) ?_
            unfold fX6_operand_j50
            rw [m_isGood r1.1, wp_bp, wp_some, if_pos rfl]
            refine w_f (by decide) ?_
            rw [wp_bd]
            refine (m_waits (p0 := p0) (win := win) (C := C) (o := 3) r2.1 r2.2.1 (by clear k1 k2 jj; omega)).mono ?_
            rintro ⟨u, h19⟩ ⟨g1, g2, g3⟩
            dsimp only at g1 g2 g3 ⊢
            have s19 : Same (SRx p0) h h19 := e1.tr (g1.mono (fun a k z => by unfold SRx; clear k1 k2 jj; omega))
            have G19 : RGk b n none p h19 := r1.same (fun k h1 h2 => g1 _ _ (by clear k1 k2 jj; omega))
            rw [wp_bd]
            refine (m_next (T.same (fun k => s19 _ _ (by unfold SRx; omega))) G19 r3).mono ?_
            rintro ⟨u2, h22⟩ ⟨m1, m2⟩
            dsimp only at m1 m2 ⊢
            rw [jj, wp_some]
            have s22 : Same (SRx p0) h h22 := s19.tr (S1424_x (SRk_24 m1))
            have D22 : RLw p0 win (3 :: W) C h22 := by
              obtain ⟨d1, d2, d3, d4, q, d5, d6⟩ := r2
              refine RLw.same (h := h19) ⟨g2, g3, by rw [g1 _ _ (by clear k1 k2 jj; omega)]; exact d3, ?_, q, by rw [g1 _ _ (by clear k1 k2 jj; omega)]; exact d5, MPc_loc _ _ _ d6 (fun k _ _ => g1 _ _ (by clear k1 k2 jj; omega))⟩ (fun a k z => m1 _ _ (by unfold SRk; clear k1 k2 jj; omega))
              exact FGr_cg (FGr_loc d4 (fun k _ => g1 _ _ (by clear k1 k2 jj; omega))) (by show (if (3 : Int) = 0 then false else (fgW W || decide (rkO 3 = 4))) = fgW W; rw [if_neg (by decide), decide_eq_false (by decide), Bool.or_false]) rfl
            have lv' : liveL (lawStep b n (none, nx, p, win, nots, W, C)) := by rw [es]; exact ⟨rfl, by simp⟩
            refine ⟨rfl, s22, lawStep b n (none, nx, p, win, nots, W, C), rc, Or.inl ⟨ROk_step ⟨r1, r2, r3, r4, r5, lv⟩ lv' m2 (by rw [es]; exact D22), ?_, ?_, ?_, ?_⟩⟩
            · rw [es]; simp
            · rw [es]; intro z; exact absurd z (by simp)
            · rw [es]
              show lwN b n p nots = nots + 1
              exact if_pos k16
            · rw [es]
              exact ⟨fun z => absurd z (by simp), fun z => absurd z q0⟩
        · exact w_f k16 (wp_some.mpr ⟨S', e2, e1, Or.inl ⟨⟨r1, r2, r3, r4, r5, r6⟩, a2, a3, Or.inr k16⟩⟩)
    · rw [m_isGood bad.2.1, wp_bp, wp_some, if_neg bad.1]
      exact w_t rfl (wp_some.mpr ⟨S', e2, e1, Or.inr bad⟩)
  · rintro ⟨x, hh⟩ ⟨e0, e1, S', e2, e3⟩
    dsimp only at e0 e1 e3 ⊢
    unfold fX6_operand_l18
    rcases e3 with ⟨a1, a2, a3, a4, a5⟩ | bad
    · exfalso
      have i := a1.2.2.2.2.1
      have := i.2.2.2.2.2.2.2.1 a2
      have t := stW_tn i.1
      omega
    · rw [m_isGood bad.2.1, wp_bp, wp_some, if_neg bad.1]
      exact w_t rfl (wp_some.mpr ⟨S', e2, e1, Or.inr bad⟩)
  · rw [hx]
    by_cases z : S.2.1 = 2
    · rw [if_pos z]; exact ⟨fun _ => rfl, fun _ => z⟩
    · rw [if_neg z]; exact ⟨fun w => absurd w z, fun w => absurd w (by decide)⟩
theorem m_partR {b : Nat → Int} {n base p0 : Nat} {S : LwS} {h : Hp} (T : TRk b n h) (hb : p0 ≤ 2 * base + 4) (R : ROk b n base p0 S h) (n3 : S.2.1 ≠ 3) (h0 : S.2.1 = 0 → S.2.2.2.1 ≤ 5) (hk : S.2.1 = 2 ∨ kwN b n S.2.2.1 ≠ 16) (h40 : tkK b n S.2.2.1 ≠ 40) :
    wp (fX6_part h) (fun r => Same (SRx p0) h r.2 ∧ ((ROk b n base p0 (lawStep b n S) r.2 ∧ (lawStep b n S).2.1 = 3) ∨ RBad (lawStep b n S) r.2)) := by
  have n7 := T.1
  obtain ⟨r1, r2, r3, r4, r5, r6⟩ := R
  obtain ⟨fl, nx, p, win, nots, W, C⟩ := S
  have lv := r6
  obtain ⟨l1, l2⟩ := r6
  dsimp only at *
  subst l1
  have C1 := r1.2 rfl
  obtain ⟨ww, qq, k1, k2, k3, k4, k5, k6⟩ := r2.wk r5.1 (by rw [r5.2.1]; exact r5.2.2.1) hb r4 r3 n7
  have ql := MPc_le _ _ _ k6
  have es := step_part (b := b) (n := n) (p := p) (win := win) (nots := nots) (W := W) (C := C) n3
  have hn : ¬ ((nx = 0 ∧ 6 ≤ win) ∨ (6 < lwN b n p nots ∧ nx ≠ 2)) := by
    rintro (z | z)
    · have := h0 z.1; clear k1 k2; omega
    · rcases hk with w | w
      · exact z.2 w
      · rw [lwN_0 w] at z; clear k1 k2; omega
  have hn2 : ¬ (0 < lwN b n p nots ∧ nx ≠ 2) := by
    intro z
    rcases hk with w | w
    · exact z.2 w
    · rw [lwN_0 w] at z; clear k1 k2; omega
  -- two cells of code
  have two : ∀ (h1 : Hp) (a v : Int), h1 35 31 = (qq : Int) → ∃ h2, (∀ {Z : Int × Hp → Prop}, wp (fX6_part_j91 h2) Z → wp (bd_ (fX6_puts a h1) (fun _ h3 => bd_ (fX6_puts v h3) (fun _ h4 => fX6_part_j91 h4))) Z) ∧ h2 51 qq = a ∧ h2 51 (qq + 1) = v ∧ h2 35 31 = ((qq + 2 : Nat) : Int) ∧ (∀ c k, ¬ (c = 51 ∧ (k = qq ∨ k = qq + 1)) → ¬ (c = 35 ∧ k = 31) → h2 c k = h1 c k) := by
    intro h1 a v e
    have e2 : st (st h1 51 qq a) 35 31 ((qq + 1 : Nat) : Int) 35 31 = ((qq + 1 : Nat) : Int) := st_self
    refine ⟨st (st (st (st h1 51 qq a) 35 31 ((qq + 1 : Nat) : Int)) 51 (qq + 1) v) 35 31 ((qq + 1 + 1 : Nat) : Int), fun z => ?_, ?_, ?_, st_self, fun c k w1 w2 => ?_⟩
    · rw [m_puts e (by clear k1 k2 e; omega), wp_bd, wp_some, m_puts e2 (by clear k1 k2 e e2; omega), wp_bd, wp_some]
      exact z
    · rw [st_na (by decide), st_nk (by omega), st_na (by decide)]; exact st_self
    · rw [st_na (by decide)]; exact st_self
    · show (if c = 35 ∧ k = 31 then _ else if c = 51 ∧ k = qq + 1 then _ else if c = 35 ∧ k = 31 then _ else if c = 51 ∧ k = qq then _ else h1 c k) = h1 c k
      rw [if_neg w2, if_neg (fun z => w1 ⟨z.1, Or.inr z.2⟩), if_neg w2, if_neg (fun z => w1 ⟨z.1, Or.inl z.2⟩)]
  unfold fX6_part
  rw [m_isGood r1.1, wp_bp, wp_some, if_pos rfl, C1.2.2.2.2.1, C1.2.2.2.1]
  refine w_f (by decide) ?_
  by_cases q2 : tkK b n p = 2
  · have ep : partS b n nx p win (lwN b n p nots) W C = ((nmS b n none 0 9999 p).1, 3, win, W, C ++ [100 + (nmS b n none 0 9999 p).2]) := by
      unfold partS
      rw [if_neg (fun z => z (Or.inl q2)), if_neg hn, if_neg h40, if_pos q2]
    rw [ep] at es
    rw [q2]
    refine w_t rfl ?_
    by_cases l4 : tkE b n p - tkS b n p ≤ 4
    · have eN : tkN b n p = dvN b (tkS b n p) (tkE b n p - tkS b n p) := if_pos l4
      have e22 : h 35 22 = tkN b n p := by
        rw [C1.2.2.2.2.2.1 q2, show min 4 (tkE b n p - tkS b n p) = tkE b n p - tkS b n p by clear k1 k2; omega, eN]
      have dg : ∀ j, j < tkE b n p - tkS b n p → isDg (b (tkS b n p + j)) = true := by
        intro j hj
        have hE : tkE b n p = rnN isDg b n (tkS b n p) := by
          have q2' := q2
          unfold tkK at q2'
          unfold tkE
          by_cases y : n ≤ tkS b n p
          · rw [if_pos y] at q2'; exact absurd q2' (by decide)
          · rw [if_neg y] at q2' ⊢
            by_cases y1 : isLt (b (tkS b n p)) = true
            · rw [if_pos y1] at q2'; exact absurd q2' (by decide)
            · rw [if_neg y1] at q2' ⊢
              by_cases y2 : isDg (b (tkS b n p)) = true
              · rw [if_pos y2]
              · rw [if_neg y2] at q2'
                by_cases y3 : isSg (b (tkS b n p)) = true
                · rw [if_pos y3] at q2'; rw [q2'] at y3; exact absurd y3 (by decide)
                · rw [if_neg y3] at q2'; exact absurd q2' (by decide)
        refine rnN_all (n := n) (p := tkS b n p) (Nat.le_add_right _ _) ?_
        rw [← hE]
        clear k1 k2
        omega
      have d9 := dvN_9 dg l4
      have nz : (nmS b n none 0 9999 p).1 = none ∧ (nmS b n none 0 9999 p).2 = tkN b n p := by
        unfold nmS
        dsimp only
        rw [if_pos q2, if_neg (by rw [eN]; clear k1 k2; omega), if_pos rfl]
        exact ⟨rfl, rfl⟩
      rw [nz.1, nz.2] at es
      refine w_t (by clear k1 k2; omega) ?_
      unfold fX6_part_j29
      obtain ⟨h2, z1, z2, z3, z4, z5⟩ := two h 1 (tkN b n p) k2
      have y22 : st (st h 51 qq 1) 35 31 ((qq + 1 : Nat) : Int) 35 22 = tkN b n p := by rw [st_nk (by decide), st_na (by decide)]; exact e22
      have shape : ∀ {Z : Int × Hp → Prop}, wp (fX6_part_j91 h2) Z → wp (bd_ (fX6_puts 1 h) (fun r29 h31 => bd_ (fX6_puts (h31 35 22) h31) (fun r32 h34 => fX6_part_j91 h34))) Z := by
        intro Z z
        have := z1 z
        rw [m_puts k2 (by clear k1 k2; omega), wp_bd, wp_some] at this ⊢
        dsimp only at this ⊢
        rw [y22]
        exact this
      refine shape ?_
      have s2 : Same (SRx p0) h h2 := fun a k z => z5 a k (fun w => z (Or.inr (Or.inl ⟨w.1, by have := w.2; have := ql.1; clear k1 k2; omega⟩))) (fun w => z (Or.inl ⟨w.1, Or.inr (Or.inr ⟨by rw [w.2]; decide, by rw [w.2]; decide⟩)⟩))
      have G2 : RGk b n none p h2 := r1.same (fun k h1 h2 => z5 _ _ (by clear k1 k2; omega) (by clear k1 k2; omega))
      unfold fX6_part_j91
      rw [m_isGood G2.1, wp_bp, wp_some, if_pos rfl]
      refine w_f (by decide) ?_
      rw [wp_bd]
      refine (m_next (T.same (fun k => s2 _ _ (by unfold SRx; omega))) G2 r3).mono ?_
      rintro ⟨u2, h22⟩ ⟨m1, m2⟩
      dsimp only at m1 m2 ⊢
      rw [wp_some]
      have lv' : liveL (lawStep b n (none, nx, p, win, nots, W, C)) := by rw [es]; exact ⟨rfl, by simp⟩
      refine ⟨s2.tr (S1424_x (SRk_24 m1)), Or.inl ⟨ROk_step ⟨r1, r2, r3, r4, r5, lv⟩ lv' m2 ?_, by rw [es]⟩⟩
      rw [es]
      obtain ⟨d1, d2, d3, d4, q, d5, d6⟩ := r2
      refine RLw.same (h := h2) ⟨?_, WAc_cg d2 (fun i _ => z5 _ _ (by clear k1 k2; omega) (by clear k1 k2; omega)), ?_, FGr_loc d4 (fun k _ => z5 _ _ (by clear k1 k2; omega) (by clear k1 k2; omega)), qq + 2, z4, ?_⟩ (fun a k z => m1 _ _ (by unfold SRk; clear k1 k2; omega))
      · rw [z5 _ _ (by clear k1 k2; omega) (by clear k1 k2; omega)]; exact d1
      · rw [z5 _ _ (by clear k1 k2; omega) (by clear k1 k2; omega)]; exact d3
      · refine MPc_app C _ p0 qq _ (MPc_loc _ _ _ k6 (fun k h1 h2 => z5 _ _ (by clear k1 k2; omega) (by clear k1 k2; omega))) ?_
        unfold MPc
        rw [if_pos (by rw [eN]; clear k1 k2; omega)]
        refine ⟨z2, ?_, rfl⟩
        rw [z3]
        clear k1 k2
        omega
    · have eN : tkN b n p = 10000 := if_neg l4
      have nz : (nmS b n none 0 9999 p).1 = some (2, tkS b n p) := by
        unfold nmS
        dsimp only
        rw [if_pos q2, if_pos (by rw [eN]; exact Or.inr (by decide))]
        rfl
      rw [nz] at es
      refine w_f (by clear k1 k2; omega) ?_
      rw [wp_bd]
      refine (m_wrong r1.1 (fun _ => C1.2.2.1) (by decide)).mono ?_
      rintro ⟨u, h37⟩ ⟨g1, g2⟩
      dsimp only at g1 g2 ⊢
      unfold fX6_part_j29
      have y31 : h37 35 31 = (qq : Int) := by rw [g1 _ _ (by unfold S45; omega)]; exact k2
      obtain ⟨h2, z1, z2, z3, z4, z5⟩ := two h37 1 (h37 35 22) y31
      have y22 : st (st h37 51 qq 1) 35 31 ((qq + 1 : Nat) : Int) 35 22 = h37 35 22 := by rw [st_nk (by decide), st_na (by decide)]
      have shape : ∀ {Z : Int × Hp → Prop}, wp (fX6_part_j91 h2) Z → wp (bd_ (fX6_puts 1 h37) (fun r29 h31 => bd_ (fX6_puts (h31 35 22) h31) (fun r32 h34 => fX6_part_j91 h34))) Z := by
        intro Z z
        have := z1 z
        rw [m_puts y31 (by clear k1 k2 y31; omega), wp_bd, wp_some] at this ⊢
        dsimp only at this ⊢
        rw [y22]
        exact this
      refine shape ?_
      have s2 : Same (SRx p0) h37 h2 := fun a k z => z5 a k (fun w => z (Or.inr (Or.inl ⟨w.1, by have := w.2; have := ql.1; clear k1 k2; omega⟩))) (fun w => z (Or.inl ⟨w.1, Or.inr (Or.inr ⟨by rw [w.2]; decide, by rw [w.2]; decide⟩)⟩))
      have F2 : FLr (rfS none 2 (tkS b n p)) h2 := g2.same (z5 _ _ (by clear k1 k2 y31; omega) (by clear k1 k2 y31; omega)) (z5 _ _ (by clear k1 k2 y31; omega) (by clear k1 k2 y31; omega))
      unfold fX6_part_j91
      rw [m_isGood F2, wp_bp, wp_some, if_neg rfS_n]
      refine w_t rfl (wp_some.mpr ⟨(S1424_x (S45_24 g1)).tr s2, Or.inr ⟨by rw [es]; simp, by rw [es]; exact F2, ww, qq + 2, ?_, z4, by clear k1 k2 y31; omega, by clear k1 k2 y31; omega⟩⟩)
      show h2 35 32 = _
      rw [z5 35 32 (by omega) (by omega), g1 _ _ (by unfold S45; omega)]; exact k1
  · have ns2 : ¬ srt (tkK b n p) = 2 := by
      intro y
      rcases tkK_cases (b := b) (n := n) (p := p) with e | e | e | e | ⟨e1, e2, e3⟩
      · rw [e] at y; exact absurd y (by decide)
      · rw [e] at y; exact absurd y (by decide)
      · exact q2 e
      · rw [e] at y; exact absurd y (by decide)
      · have k : (tkK b n p = 59 ∨ tkK b n p = 40 ∨ tkK b n p = 41 ∨ tkK b n p = 43 ∨ tkK b n p = 45 ∨ tkK b n p = 42 ∨ tkK b n p = 47 ∨ tkK b n p = 60 ∨ tkK b n p = 61) := of_decide_eq_true e1
        rcases k with w | w | w | w | w | w | w | w | w <;> rw [w] at y <;> exact absurd y (by decide)
    refine w_f ns2 ?_
    by_cases q1 : tkK b n p = 1
    · rw [q1]
      refine w_t rfl ?_
      rw [m_knownWord C1 r3, wp_bp, wp_some]
      have ep : partS b n nx p win (lwN b n p nots) W C = if vaS b n p = -1 then (some (3, tkS b n p), 4, win, W, C) else (none, 3, win, W, C ++ [vaS b n p]) := by
        unfold partS
        rw [if_neg (fun z => z (Or.inr (Or.inl q1))), if_neg hn, if_neg h40, if_neg q2, if_neg hn2]
      rw [ep] at es
      by_cases kv : 0 ≤ kwN b n p ∧ kwN b n p ≤ 6
      · have ev : vaS b n p = 20 + kwN b n p := if_pos kv
        rw [ev, if_neg (by clear k1 k2; omega)] at es
        refine w_f (by clear k1 k2; omega) (w_t kv.2 ?_)
        unfold fX6_part_j73
        obtain ⟨h2, z1, z2, z3, z4, z5⟩ := two h 2 (kwN b n p) k2
        refine z1 ?_
        have s2 : Same (SRx p0) h h2 := fun a k z => z5 a k (fun w => z (Or.inr (Or.inl ⟨w.1, by have := w.2; have := ql.1; clear k1 k2; omega⟩))) (fun w => z (Or.inl ⟨w.1, Or.inr (Or.inr ⟨by rw [w.2]; decide, by rw [w.2]; decide⟩)⟩))
        have G2 : RGk b n none p h2 := r1.same (fun k h1 h2 => z5 _ _ (by clear k1 k2; omega) (by clear k1 k2; omega))
        unfold fX6_part_j91
        rw [m_isGood G2.1, wp_bp, wp_some, if_pos rfl]
        refine w_f (by decide) ?_
        rw [wp_bd]
        refine (m_next (T.same (fun k => s2 _ _ (by unfold SRx; omega))) G2 r3).mono ?_
        rintro ⟨u2, h22⟩ ⟨m1, m2⟩
        dsimp only at m1 m2 ⊢
        rw [wp_some]
        have lv' : liveL (lawStep b n (none, nx, p, win, nots, W, C)) := by rw [es]; exact ⟨rfl, by simp⟩
        refine ⟨s2.tr (S1424_x (SRk_24 m1)), Or.inl ⟨ROk_step ⟨r1, r2, r3, r4, r5, lv⟩ lv' m2 ?_, by rw [es]⟩⟩
        rw [es]
        obtain ⟨d1, d2, d3, d4, q, d5, d6⟩ := r2
        refine RLw.same (h := h2) ⟨?_, WAc_cg d2 (fun i _ => z5 _ _ (by clear k1 k2; omega) (by clear k1 k2; omega)), ?_, FGr_loc d4 (fun k _ => z5 _ _ (by clear k1 k2; omega) (by clear k1 k2; omega)), qq + 2, z4, ?_⟩ (fun a k z => m1 _ _ (by unfold SRk; clear k1 k2; omega))
        · rw [z5 _ _ (by clear k1 k2; omega) (by clear k1 k2; omega)]; exact d1
        · rw [z5 _ _ (by clear k1 k2; omega) (by clear k1 k2; omega)]; exact d3
        · refine MPc_app C _ p0 qq _ (MPc_loc _ _ _ k6 (fun k h1 h2 => z5 _ _ (by clear k1 k2; omega) (by clear k1 k2; omega))) ?_
          unfold MPc
          rw [if_neg (by clear k1 k2; omega), if_pos (by clear k1 k2; omega)]
          refine ⟨z2, ?_, rfl⟩
          rw [z3]
          clear k1 k2
          omega
      · have ev : vaS b n p = -1 := if_neg kv
        rw [ev, if_pos rfl] at es
        have j68 : wp (fX6_part_j68 (kwN b n p) h) (fun r => Same (SRx p0) h r.2 ∧ ((ROk b n base p0 (lawStep b n (none, nx, p, win, nots, W, C)) r.2 ∧ (lawStep b n (none, nx, p, win, nots, W, C)).2.1 = 3) ∨ RBad (lawStep b n (none, nx, p, win, nots, W, C)) r.2)) := by
          unfold fX6_part_j68
          rw [wp_bd]
          refine (m_wrong r1.1 (fun _ => C1.2.2.1) (by decide)).mono ?_
          rintro ⟨u, h37⟩ ⟨g1, g2⟩
          dsimp only at g1 g2 ⊢
          unfold fX6_part_j73
          have y31 : h37 35 31 = (qq : Int) := by rw [g1 _ _ (by unfold S45; omega)]; exact k2
          obtain ⟨h2, z1, z2, z3, z4, z5⟩ := two h37 2 (kwN b n p) y31
          refine z1 ?_
          have s2 : Same (SRx p0) h37 h2 := fun a k z => z5 a k (fun w => z (Or.inr (Or.inl ⟨w.1, by have := w.2; have := ql.1; clear k1 k2; omega⟩))) (fun w => z (Or.inl ⟨w.1, Or.inr (Or.inr ⟨by rw [w.2]; decide, by rw [w.2]; decide⟩)⟩))
          have F2 : FLr (rfS none 3 (tkS b n p)) h2 := g2.same (z5 _ _ (by clear k1 k2 y31; omega) (by clear k1 k2 y31; omega)) (z5 _ _ (by clear k1 k2 y31; omega) (by clear k1 k2 y31; omega))
          unfold fX6_part_j91
          rw [m_isGood F2, wp_bp, wp_some, if_neg rfS_n]
          refine w_t rfl (wp_some.mpr ⟨(S1424_x (S45_24 g1)).tr s2, Or.inr ⟨by rw [es]; simp, by rw [es]; exact F2, ww, qq + 2, ?_, z4, by clear k1 k2 y31; omega, by clear k1 k2 y31; omega⟩⟩)
          show h2 35 32 = _
          rw [z5 35 32 (by omega) (by omega), g1 _ _ (by unfold S45; omega)]; exact k1
        by_cases y : kwN b n p < 0
        · exact w_t y j68
        · exact w_f y (w_f (by clear k1 k2; omega) j68)
    · have ns1 : ¬ srt (tkK b n p) = 1 := by
        intro y
        rcases tkK_cases (b := b) (n := n) (p := p) with e | e | e | e | ⟨e1, e2, e3⟩
        · rw [e] at y; exact absurd y (by decide)
        · exact q1 e
        · rw [e] at y; exact absurd y (by decide)
        · rw [e] at y; exact absurd y (by decide)
        · have k : (tkK b n p = 59 ∨ tkK b n p = 40 ∨ tkK b n p = 41 ∨ tkK b n p = 43 ∨ tkK b n p = 45 ∨ tkK b n p = 42 ∨ tkK b n p = 47 ∨ tkK b n p = 60 ∨ tkK b n p = 61) := of_decide_eq_true e1
          rcases k with w | w | w | w | w | w | w | w | w <;> rw [w] at y <;> exact absurd y (by decide)
      have ep : partS b n nx p win (lwN b n p nots) W C = (some (1, tkS b n p), 4, win, W, C) := by
        unfold partS
        rw [if_pos (fun z => z.elim q2 (fun w => w.elim q1 h40))]
      rw [ep] at es
      refine w_f ns1 ?_
      rw [wp_bd]
      refine (m_wrong r1.1 (fun _ => C1.2.2.1) (by decide)).mono ?_
      rintro ⟨u, h37⟩ ⟨g1, g2⟩
      dsimp only at g1 g2 ⊢
      unfold fX6_part_j91
      rw [m_isGood g2, wp_bp, wp_some, if_neg rfS_n]
      exact w_t rfl (wp_some.mpr ⟨S1424_x (S45_24 g1), Or.inr ⟨by rw [es]; simp, by rw [es]; exact g2, WKr.same ⟨ww, qq, k1, k2, by clear k1 k2; omega, by clear k1 k2; omega⟩ (g1 _ _ (by unfold S45; omega)) (g1 _ _ (by unfold S45; omega))⟩⟩)
