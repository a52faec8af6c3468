/-! pure part: the reference reads what stands behind an operand -/
theorem RcL_p {b : Nat → Int} {n : Nat} {A B : LwS} (h : RcL b n A B) (hp : A.2.2.1 ≤ n) : A.2.2.1 ≤ B.2.2.1 ∧ B.2.2.1 ≤ n := by
  obtain ⟨m, f, hm⟩ := h
  have go : ∀ j, A.2.2.1 ≤ (lawN b n A j).2.2.1 ∧ (lawN b n A j).2.2.1 ≤ n := by
    intro j
    induction j with
    | zero => exact ⟨Nat.le_refl _, hp⟩
    | succ j ih =>
      obtain ⟨i1', i2'⟩ := ih
      have ee : (lawN b n A (j + 1)).2.2.1 = tkE b n (lawN b n A j).2.2.1 := rfl
      have rr := tk_rg (b := b) i2'
      rw [ee]
      exact ⟨by omega, by omega⟩
  have := go m
  rw [f] at this
  exact this
theorem m_isOpened {p0 win : Nat} {W C : List Int} {h : Hp} (D : RLw p0 win W C h) (hst : ∀ o, o ∈ W → 0 ≤ o ∧ o ≤ 9) (hw : W.length ≤ 900) : fX6_isOpened h = some (if 0 < opn W then 1 else 0) := by
  unfold fX6_isOpened
  have e0 : i_sub (W.length : Int) 1 = (W.length : Int) - 1 := isb (by omega) (by omega)
  rw [D.1, e0]
  have loop : wp (it_ (fun s => fX6_isOpened_l7 s h) FU ((W.length : Int) - 1)) (fun e => (0 < opn W ∧ 0 ≤ e) ∨ (opn W = 0 ∧ e < 0)) := by
    refine wp_for (fun j (s : Int) => ∃ W' : List Int, W'.length + j = W.length ∧ s = (W'.length : Int) - 1 ∧ opn W' = opn W ∧ (∀ o, o ∈ W' → 0 ≤ o ∧ o ≤ 9) ∧ WAc (h 52) (W'.map moW)) W.length ?_ ?_ (FU_big (by omega)) ⟨W, rfl, rfl, rfl, hst, D.2.1⟩
    · rintro j s hj ⟨W', a1, a2, a3, a4, a5⟩
      cases W' with
      | nil =>
        exfalso
        have : 0 + j = W.length := a1
        omega
      | cons o U =>
        have a1' : U.length + 1 + j = W.length := a1
        have a2' : s = (U.length : Int) := by
          have : s = ((U.length + 1 : Nat) : Int) - 1 := a2
          omega
        subst a2'
        have ho := a4 o (List.mem_cons_self ..)
        have x52 : h 52 U.length = moW o := by
          have := a5.1
          rw [List.length_map] at this
          exact this
        have a3' : (if o = 0 then 1 else 0) + opn U = opn W := a3
        unfold fX6_isOpened_l7
        refine w_f (by omega) ?_
        rw [gd_y (by omega), Int.toNat_natCast, x52, mo_open ho, wp_bp, wp_some]
        by_cases q : o = 0
        · rw [if_pos q]
          rw [if_pos q] at a3'
          exact w_f (by decide) (wp_some.mpr (Or.inl ⟨by omega, by omega⟩))
        · rw [if_neg q]
          rw [if_neg q, Nat.zero_add] at a3'
          refine w_t rfl (wp_some.mpr ⟨U, by omega, ?_, a3', fun x hx => a4 x (List.mem_cons_of_mem _ hx), a5.2⟩)
          rw [ia (by omega) (by omega)]
          omega
    · rintro s ⟨W', a1, a2, a3, a4, a5⟩
      have en : W' = [] := List.eq_nil_of_length_eq_zero (by omega)
      subst en
      have a3' : 0 = opn W := a3
      have a2' : s = (0 : Int) - 1 := a2
      unfold fX6_isOpened_l7
      exact w_t (by omega) (wp_some.mpr (Or.inr ⟨a3'.symm, by omega⟩))
  obtain ⟨e, he, hq⟩ := loop
  unfold lb_
  dsimp only
  rw [he]
  show fX6_isOpened_j29 e h = _
  unfold fX6_isOpened_j29
  rcases hq with ⟨q1, q2⟩ | ⟨q1, q2⟩
  · rw [if_neg (by omega), if_pos q1]
  · rw [if_pos q2, if_neg (by omega)]
/-- nothing more can stand here -/
def stkL (b : Nat → Int) (n : Nat) (S : LwS) : Prop := (tkK b n S.2.2.1 = 59 ∧ S.2.2.2.1 = 0) ∨ (lawStep b n S).1 = some (1, tkS b n S.2.2.1)
def PEx (b : Nat → Int) (n base p0 : Nat) (S0 : LwS) (h0 : Hp) (k : Nat) (s : Int × Hp) : Prop := Same (SRx p0) h0 s.2 ∧ ∃ S' : LwS, RcL b n S0 S' ∧ ((s.1 = 1 ∧ ROk b n base p0 S' s.2 ∧ S'.2.1 = 3 ∧ k ≤ S'.2.2.1) ∨ (s.1 = 0 ∧ ROk b n base p0 S' s.2 ∧ S'.2.1 = 3 ∧ stkL b n S') ∨ RBad S' s.2)
def QEx (b : Nat → Int) (n base p0 : Nat) (S0 : LwS) (h0 : Hp) (hq : Hp) : Prop := Same (SRx p0) h0 hq ∧ ∃ S' : LwS, RcL b n S0 S' ∧ ((ROk b n base p0 S' hq ∧ S'.2.1 = 3 ∧ stkL b n S') ∨ RBad S' hq)
/-- an operator waits; its operand is read -/
theorem m_tail {b : Nat → Int} {n base p0 k : Nat} {S0 S : LwS} {h0 h h3 : Hp} {x : Int} (T : TRk b n h0) (hb : p0 ≤ 2 * base + 4) (rc : RcL b n S0 S) (R : ROk b n base p0 S h) (s3 : Same (SRx p0) h0 h3) (G3 : RGk b n none S.2.2.1 h3) (lv : liveL (lawStep b n S)) (D3 : RLw p0 (lawStep b n S).2.2.2.1 (lawStep b n S).2.2.2.2.2.1 (lawStep b n S).2.2.2.2.2.2 h3) (n3 : (lawStep b n S).2.1 ≠ 3) (n0 : (lawStep b n S).2.1 ≠ 0) (nz : (lawStep b n S).2.2.2.2.1 = 0) (hx : x = (if (lawStep b n S).2.1 = 2 then 0 else 1)) (hk : k ≤ S.2.2.1) :
    wp (bd_ (fX6_goes h3) (fun _ h4 => bd_ (fX6_operand x h4) (fun _ h5 => some (Sum.inl ((1 : Int), h5) : (Int × Hp) ⊕ Hp)))) (E2 (PEx b n base p0 S0 h0 (k + 1)) (QEx b n base p0 S0 h0)) := by
  have rc1 := RcL_s rc R.2.2.2.2.2
  rw [wp_bd]
  refine (m_next (T.same (fun k => s3 _ _ (by unfold SRx; omega))) G3 R.2.2.1).mono ?_
  rintro ⟨u, h4⟩ ⟨m1, m2⟩
  dsimp only at m1 m2 ⊢
  have s4 : Same (SRx p0) h0 h4 := s3.tr (S1424_x (SRk_24 m1))
  have R4 : ROk b n base p0 (lawStep b n S) h4 := ROk_step R lv m2 (D3.same (fun a k z => m1 _ _ (by unfold SRk; omega)))
  rw [wp_bd]
  refine (m_operand (T.same (fun k => s4 _ _ (by unfold SRx; omega))) hb R4 n3 (fun z => absurd z n0) nz hx).mono ?_
  rintro ⟨u2, h5⟩ ⟨S', c1, c2, c3⟩
  dsimp only at c2 c3 ⊢
  rw [wp_some, E2_l]
  refine ⟨s4.tr c2, S', RcL_tr rc1 c1, ?_⟩
  have pp := RcL_p c1 R4.2.2.1
  have p1 := (law_sz (b := b) R.2.2.2.2.1 R.2.2.2.2.2 R.2.2.1 R.2.2.2.1).2.2 lv
  rcases c3 with ⟨c4, c5⟩ | c4
  · exact Or.inl ⟨rfl, c4, c5, by omega⟩
  · exact Or.inr (Or.inr c4)
theorem stW_all : ∀ {W : List Int}, stW W → ∀ o, o ∈ W → 0 ≤ o ∧ o ≤ 9
  | [], _, o, ho => absurd ho List.not_mem_nil
  | a :: U, h, o, ho => by
    rcases List.mem_cons.mp ho with e | e
    · rw [e]; exact h.1
    · exact stW_all h.2.2.2 o e
/-- what waits is dropped, an operator waits: what is known then -/
theorem m_dropW {b : Nat → Int} {n base p0 p win nots : Nat} {W C : List Int} {h0 h : Hp} {r op : Int} {f : Hp → Option ((Int × Hp) ⊕ Hp)} {Z : (Int × Hp) ⊕ Hp → Prop} (hb : p0 ≤ 2 * base + 4) (n7 : n ≤ 700) (R : ROk b n base p0 (none, 3, p, win, nots, W, C) h) (s0 : Same (SRx p0) h0 h) (hr : 1 ≤ r)
    (k : ∀ h2, Same (SRx p0) h0 h2 → RGk b n none p h2 → h2 35 32 = (((op :: (stl r W C).1).length : Nat) : Int) → WAc (h2 52) ((op :: (stl r W C).1).map moW) → (∀ k, h2 53 k = h 53 k) → h2 35 33 = ((win + 1 : Nat) : Int) → (∃ q : Nat, h2 35 31 = (q : Int) ∧ MPc (h2 51) p0 (stl r W C).2 q) → wp (f h2) Z) :
    ∀ g : Hp → Option ((Int × Hp) ⊕ Hp), (∀ h1, RGk b n none p h1 → g h1 = bd_ (fX6_waitsFor (moW op) h1) (fun _ h2 => f h2)) → wp (bd_ (fX6_drops r h) (fun _ h1 => g h1)) Z := by
  intro g hg
  obtain ⟨r1, r2, r3, r4, r5, r6⟩ := R
  dsimp only at r1 r2 r3 r4
  have w83 := stW_83 r5.1 (by rw [r5.2.1]; exact r5.2.2.1)
  dsimp only at w83
  have wf := r5.2.2.2.2.2.2.2.2.2.1
  dsimp only at wf
  rw [if_pos rfl] at wf
  obtain ⟨c1, c2, c3, c4, c5, c6⟩ := stl_ok hr W C r5.1 wf
  rw [wp_bd]
  have er : (if r = 0 then 1 else r) = r := if_neg (by omega)
  refine (m_drops (r := r) r2 (stW_all r5.1) (by omega) (by omega) (by omega)).mono ?_
  rintro ⟨u, h1⟩ ⟨g1, g2, g3, g4⟩
  rw [er] at g2 g3 g4
  dsimp only at g1 g2 g3 g4 ⊢
  have s1 : Same (SRx p0) h0 h1 := s0.tr (g1.mono (fun a k z => by unfold SRp at z; unfold SRx; omega))
  have G1 : RGk b n none p h1 := r1.same (fun k h1 h2 => g1 _ _ (by unfold SRp; omega))
  rw [hg h1 G1, wp_bd]
  refine (m_waits (p0 := p0) (win := win) (C := C) (o := op) g2 g3 (by omega)).mono ?_
  rintro ⟨u2, h2⟩ ⟨k1, k2, k3⟩
  dsimp only at k1 k2 k3 ⊢
  obtain ⟨q, q1, q2⟩ := g4
  refine k h2 (s1.tr (k1.mono (fun a k z => by unfold SRx; omega))) (G1.same (fun k h1 h2 => k1 _ _ (by omega))) k2 k3 (fun k => ?_) ?_ ⟨q, ?_, ?_⟩
  · rw [k1 _ _ (by omega), g1 _ _ (by unfold SRp; omega)]
  · rw [k1 _ _ (by omega), g1 _ _ (by unfold SRp; omega)]; exact r2.2.2.1
  · rw [k1 _ _ (by omega)]; exact q1
  · exact MPc_loc _ _ _ q2 (fun k _ _ => k1 _ _ (by omega))
/-- a step of reading behind an operand, with an operator -/
theorem beh_op {b : Nat → Int} {n p win nots : Nat} {W C : List Int} {o : Int} (h41 : ¬ (tkK b n p = 41 ∧ 0 < win)) (h59 : ¬ (tkK b n p = 59 ∧ win = 0)) (ho : opS b n p = o) (hn : o ≠ -1) (ht : ¬ (rkO o = 4 ∧ rkO (tpW (stl 5 W C).1) = 4)) :
    lawStep b n (none, 3, p, win, nots, W, C) = (none, if o = 1 ∨ o = 2 then 1 else 2, tkE b n p, win, lwN b n p nots, o :: (stl (if rkO o = 4 then 5 else rkO o) W C).1, (stl (if rkO o = 4 then 5 else rkO o) W C).2) := by
  rw [step_beh]
  unfold behS
  rw [if_neg h41, if_neg h59, ho, if_neg hn]
  dsimp only
  by_cases r4 : rkO o = 4
  · rw [if_pos r4]
    have : ¬ (rkO o = 4 ∧ rkO (tpW (stl 5 W C).1) = 4) := ht
    rw [if_neg this]
  · rw [if_neg (show ¬ (rkO o = 4 ∧ rkO (tpW (stl (if rkO o = 4 then 5 else rkO o) W C).1) = 4) from fun z => r4 z.1)]
