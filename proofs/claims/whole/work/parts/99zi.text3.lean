/-! pure part: a line, the reference; the lines of a text on both sides -/
theorem m_lineR {b : Nat → Int} {n : Nat} {X : TxS} {h : Hp} (T : TRk b n h) (l : liveT b n X) (O : XOk n X) (G : RGk b n none X.2.1 h) (D : RDl X.2.2.1 X.2.2.2 h) :
    wp (fX6_line h) (fun r => ∃ Y, LnStep b n X Y ∧ Same SRr h r.2 ∧ RGk b n Y.1 Y.2.1 r.2 ∧ (Y.1 = none → RDl Y.2.2.1 Y.2.2.2 r.2)) := by
  obtain ⟨o1, o2, o3, o4⟩ := O
  obtain ⟨fl, p, A, cd⟩ := X
  dsimp only at *
  have fin : ∀ {x : Option (Int × Hp)} {s : Flw × Nat × Hp}, ¬ (kwN b n p = 13 ∧ A 8 5 < 4) → lnS b n A p = s → wp x (fun r => Same SRr h r.2 ∧ RGk b n s.1 s.2.1 r.2 ∧ (s.1 = none → RDl s.2.2 cd r.2)) → wp x (fun r => ∃ Y, LnStep b n (fl, p, A, cd) Y ∧ Same SRr h r.2 ∧ RGk b n Y.1 Y.2.1 r.2 ∧ (Y.1 = none → RDl Y.2.2.1 Y.2.2.2 r.2)) := by
    intro x s n13 es w
    refine w.mono ?_
    rintro ⟨v, h9⟩ ⟨w1, w2, w3⟩
    exact ⟨(s.1, s.2.1, s.2.2, cd), Or.inr ⟨n13, by dsimp only; rw [es]⟩, w1, w2, w3⟩
  have C1 := G.2 rfl
  -- a flaw, then nothing more
  have bad : ∀ (v : Int) (f : Hp → Option (Int × Hp)), v ≠ 0 → (∀ h', FLr (some (v, tkS b n p)) h' → TRk b n h' → wp (f h') (fun r => Same S1424 h' r.2 ∧ FLr (some (v, tkS b n p)) r.2)) → wp (bd_ (fX6_wrong v h) (fun _ h9 => f h9)) (fun r => Same SRr h r.2 ∧ RGk b n ((some (v, tkS b n p), p, A) : Flw × Nat × Hp).1 ((some (v, tkS b n p), p, A) : Flw × Nat × Hp).2.1 r.2 ∧ (((some (v, tkS b n p), p, A) : Flw × Nat × Hp).1 = none → RDl ((some (v, tkS b n p), p, A) : Flw × Nat × Hp).2.2 cd r.2)) := by
    intro v f hv hf
    rw [wp_bd]
    refine (m_wrong G.1 (fun _ => C1.2.2.1) hv).mono ?_
    rintro ⟨u, h5⟩ ⟨g1, g2⟩
    dsimp only at g1 g2 ⊢
    refine (hf h5 g2 (T.same (fun k => g1 _ _ (by unfold S45; omega)))).mono ?_
    rintro ⟨u2, h6⟩ ⟨k1, k2⟩
    exact ⟨(S1424_r (S45_24 g1)).tr (S1424_r k1), ⟨k2, fun z => absurd z (by simp)⟩, fun z => absurd z (by simp)⟩
  have nogood : ∀ (v : Int) (h' : Hp) (g : Option (Int × Hp)), FLr (some (v, tkS b n p)) h' → wp (bp_ (fX6_isGood h') (fun r => if r = 0 then some ((0 : Int), h') else g)) (fun r => Same S1424 h' r.2 ∧ FLr (some (v, tkS b n p)) r.2) := by
    intro v h' g f
    rw [m_isGood f, wp_bp, wp_some, if_neg (show ¬ (some (v, tkS b n p) : Flw) = none by simp)]
    exact w_t rfl (wp_some.mpr ⟨Same.rf, f⟩)
  have eol : ∀ (v : Int) (h' : Hp), FLr (some (v, tkS b n p)) h' → TRk b n h' → wp (fX6_line_j398 h') (fun r => Same S1424 h' r.2 ∧ FLr (some (v, tkS b n p)) r.2) := by
    intro v h' f t
    refine (m_j398 (p := 0) (fl := some (v, tkS b n p)) t ⟨f, fun z => absurd z (by simp)⟩ (Nat.zero_le _)).mono ?_
    rintro ⟨w, h12⟩ ⟨m1, m2⟩
    rw [eolS_f (by simp)] at m2
    exact ⟨m1, m2.1⟩
  by_cases q1 : kwN b n p = 2
  · exact fin (by omega) (show lnS b n A p = hiS b n A p by unfold lnS; rw [if_pos q1]) (m_high T G D o1 o2 q1)
  by_cases q2 : kwN b n p = 11
  · by_cases t : A 8 2 < 12
    · exact fin (by omega) (show lnS b n A p = trS b n A p by unfold lnS; rw [if_neg q1, if_pos q2, if_pos t]) (m_tree T G D o1 o2 q2 t)
    · refine fin (by omega) (show lnS b n A p = (some (2, tkS b n p), p, A) by unfold lnS; rw [if_neg q1, if_pos q2, if_neg t]) ?_
      unfold fX6_line
      rw [m_knownWord C1 o2, q2, wp_bp, wp_some, D.1.2.2.1]
      refine w_f (by decide) (w_t rfl (w_t (by have := o1.2.2.1; omega) ?_))
      refine bad 2 _ (by decide) (fun h' f _ => ?_)
      unfold fX6_line_j81
      exact nogood 2 h' _ f
  by_cases q3 : kwN b n p = 7 ∨ kwN b n p = 8 ∨ kwN b n p = 9
  · by_cases t : A 8 3 < 6
    · exact fin (by omega) (show lnS b n A p = hoS b n (kwN b n p - 7) A p by unfold lnS; rw [if_neg q1, if_neg q2, if_pos q3, if_pos t]) (m_house T G D o1 o2 (by omega) (by omega) t)
    · refine fin (by omega) (show lnS b n A p = (some (2, tkS b n p), p, A) by unfold lnS; rw [if_neg q1, if_neg q2, if_pos q3, if_neg t]) ?_
      unfold fX6_line
      rw [m_knownWord C1 o2, wp_bp, wp_some, D.1.2.2.2.1]
      refine w_f q1 (w_f q2 (w_f (by omega) (w_f (by omega) (w_t (by have := o1.2.2.2.1; omega) ?_))))
      refine bad 2 _ (by decide) (fun h' f _ => ?_)
      unfold fX6_line_j225
      exact nogood 2 h' _ f
  have to319 : ∀ {Z : Int × Hp → Prop}, wp (fX6_line_j319 (kwN b n p) h) Z → wp (fX6_line h) Z := by
    intro Z z
    unfold fX6_line
    rw [m_knownWord C1 o2, wp_bp, wp_some]
    refine w_f q1 (w_f q2 ?_)
    by_cases y : kwN b n p < 7
    · exact w_t y z
    · exact w_f y (w_t (by omega) z)
  by_cases q4 : kwN b n p = 12
  · by_cases t : A 8 4 ≤ 0
    · have t0 : A 8 4 = 0 := by have := o1.2.2.2.2.1; omega
      exact fin (by omega) (show lnS b n A p = foS b n A p by unfold lnS; rw [if_neg q1, if_neg q2, if_neg q3, if_pos q4, if_pos t]) (m_fogs T G D o2 q4 t0)
    · refine fin (by omega) (show lnS b n A p = (some (5, tkS b n p), p, A) by unfold lnS; rw [if_neg q1, if_neg q2, if_neg q3, if_pos q4, if_neg t]) (to319 ?_)
      unfold fX6_line_j319
      refine w_t q4 ?_
      unfold fX6_readsFogs
      rw [D.1.2.2.2.2.1, if_neg t]
      have := bad 5 (fun h' => bd_ (fX6_readsFogs_j12 h') (fun r32 h34 => fX6_line_j398 h34)) (by decide) (fun h' f tr => by
        rw [wp_bd]
        have z : wp (fX6_readsFogs_j12 h') (fun r => Same S1424 h' r.2 ∧ FLr (some (5, tkS b n p)) r.2) := by
          unfold fX6_readsFogs_j12
          exact nogood 5 h' _ f
        refine z.mono ?_
        rintro ⟨u, h7⟩ ⟨z1, z2⟩
        dsimp only at z1 z2 ⊢
        refine (eol 5 h7 z2 (tr.same (fun k => z1 _ _ (by unfold S1424; omega)))).mono ?_
        rintro ⟨u2, h8⟩ ⟨y1, y2⟩
        exact ⟨z1.tr y1, y2⟩)
      rw [wp_bd] at this ⊢
      rw [wp_bd]
      refine this.mono ?_
      rintro ⟨u, h5⟩ z
      dsimp only at z ⊢
      rw [wp_bd] at z
      exact z
  by_cases q5 : kwN b n p = 13
  · obtain ⟨nl, hnl⟩ : ∃ nl : Nat, A 8 5 = (nl : Int) := ⟨(A 8 5).toNat, by have := o1.2.2.2.2.2; omega⟩
    by_cases t : A 8 5 < 4
    · rw [hnl, Int.toNat_natCast] at o3
      refine (m_lawR T G D o2 q5 hnl (by omega) o3).mono ?_
      rintro ⟨v, h9⟩ ⟨S, a1, a2, a3, a4⟩
      refine ⟨(S.1, S.2.2.1, st A 8 5 ((nl : Int) + 1), updL cd nl S.2.2.2.2.2.2), Or.inl ⟨q5, t, S, a1, ?_⟩, a2, a3, a4⟩
      dsimp only
      rw [hnl, Int.toNat_natCast]
    · refine fin (fun z => t z.2) (show lnS b n A p = (some (2, tkS b n p), p, A) by unfold lnS; rw [if_neg q1, if_neg q2, if_neg q3, if_neg q4, if_pos q5]) (to319 ?_)
      unfold fX6_line_j319
      rw [D.1.2.2.2.2.2.1]
      refine w_f q4 (w_t q5 (w_t (by have := o1.2.2.2.2.2; omega) ?_))
      refine bad 2 _ (by decide) (fun h' f _ => ?_)
      unfold fX6_line_j351
      exact nogood 2 h' _ f
  · refine fin (fun z => q5 z.1) (show lnS b n A p = (some (1, tkS b n p), p, A) by unfold lnS; rw [if_neg q1, if_neg q2, if_neg q3, if_neg q4, if_neg q5]) (to319 ?_)
    unfold fX6_line_j319
    refine w_f q4 (w_f q5 ?_)
    exact bad 1 _ (by decide) (fun h' f tr => eol 1 h' f tr)
theorem c_textL {b : Nat → Int} {n L : Nat} {X0 : TxS} {h0 h : Hp} (T : TPk b n h0) (hL : L = 1 ∨ L = 9) (s0 : Same (SLd L) h0 h) (O : XOk n X0) (C : CTk b n X0.2.1 h) (F : FLc X0.1 h) (D : CDl X0.2.2.1 X0.2.2.2 L h) :
    wp (it_ (fun s : Int × Hp => fX2_read_l79 s.1 s.2) FU (0, h)) (fun hq => ∃ Y, RcT b n X0 Y ∧ ¬ liveT b n Y ∧ XOk n Y ∧ Same (SLd L) h0 hq ∧ FLc Y.1 hq ∧ CDl Y.2.2.1 Y.2.2.2 L hq) := by
  have n7 := T.1
  refine wp_for (fun i (s : Int × Hp) => s.1 = (i : Int) ∧ ∃ X, RcT b n X0 X ∧ XOk n X ∧ Same (SLd L) h0 s.2 ∧ FLc X.1 s.2 ∧ CTk b n X.2.1 s.2 ∧ CDl X.2.2.1 X.2.2.2 L s.2 ∧ (X.1 = none → i ≤ X.2.1)) (n + 1) ?_ ?_ (FU_big (by omega)) ⟨rfl, X0, RcT_0, O, s0, F, C, D, fun _ => Nat.zero_le _⟩
  · rintro i ⟨x, hh⟩ hi ⟨e0, X, e1, e2, e3, e4, e5, e6, e7⟩
    dsimp only at e0 e3 e4 e5 e6 ⊢
    subst e0
    have T1 : TPk b n hh := T.same (fun k => e3 _ _ (by unfold SLd; omega))
    unfold fX2_read_l79
    rw [e5.1]
    refine w_f (by omega) ?_
    by_cases q1 : X.1 = none
    · refine w_t (e4.z.mpr q1) ?_
      rw [e5.2.2.2.1]
      by_cases q2 : tkK b n X.2.1 = 0
      · exact w_t q2 (wp_some.mpr ⟨X, e1, fun z => z.2 q2, e2, e3, e4, e6⟩)
      · refine w_f q2 ?_
        have lv : liveT b n X := ⟨q1, q2⟩
        rw [q1] at e4
        rw [wp_bd]
        refine (c_line T1 lv e2 hL e5 e4 e6).mono ?_
        rintro ⟨v, h27⟩ ⟨Y, a1, a2, a3, a4, a5⟩
        dsimp only at a2 a3 a4 a5 ⊢
        obtain ⟨y1, y2⟩ := LnStep_ok a1 lv e2
        rw [i1 (by omega), wp_some]
        exact ⟨rfl, Y, RcT_s e1 lv a1, y1, e3.tr a2, a3, a4, a5, fun z => by have := y2 z; have := e7 q1; omega⟩
    · exact w_f (fun z => q1 (e4.z.mp z)) (wp_some.mpr ⟨X, e1, fun z => q1 z.1, e2, e3, e4, e6⟩)
  · rintro ⟨x, hh⟩ ⟨e0, X, e1, e2, e3, e4, e5, e6, e7⟩
    dsimp only at e0 e3 e4 e5 e6 ⊢
    subst e0
    have nl : ¬ liveT b n X := fun z => by
      have := e7 z.1
      have := e2.2.1
      omega
    unfold fX2_read_l79
    rw [e5.1]
    exact w_t (by omega) (wp_some.mpr ⟨X, e1, nl, e2, e3, e4, e6⟩)
theorem m_textL {b : Nat → Int} {n : Nat} {X0 : TxS} {h0 h : Hp} (T : TRk b n h0) (s0 : Same SRr h0 h) (O : XOk n X0) (G : RGk b n X0.1 X0.2.1 h) (D : X0.1 = none → RDl X0.2.2.1 X0.2.2.2 h) :
    wp (it_ (fun s => fX6_duchy_l174 s) FU h) (fun hq => ∃ Y, RcT b n X0 Y ∧ ¬ liveT b n Y ∧ XOk n Y ∧ Same SRr h0 hq ∧ FLr Y.1 hq ∧ (Y.1 = none → RDl Y.2.2.1 Y.2.2.2 hq)) := by
  have n7 := T.1
  refine wp_for (fun i (s : Hp) => ∃ X, RcT b n X0 X ∧ XOk n X ∧ Same SRr h0 s ∧ RGk b n X.1 X.2.1 s ∧ (X.1 = none → RDl X.2.2.1 X.2.2.2 s) ∧ (X.1 = none → i ≤ X.2.1)) (n + 1) ?_ ?_ (FU_big (by omega)) ⟨X0, RcT_0, O, s0, G, D, fun _ => Nat.zero_le _⟩
  · rintro i hh hi ⟨X, e1, e2, e3, e4, e5, e6⟩
    have T1 : TRk b n hh := T.same (fun k => e3 _ _ (by unfold SRr; omega))
    unfold fX6_duchy_l174
    rw [m_isGood e4.1, wp_bp, wp_some]
    by_cases q1 : X.1 = none
    · rw [if_pos q1]
      refine w_f (by decide) ?_
      have C := e4.2 q1
      rw [C.2.2.2.2.1]
      by_cases q2 : tkK b n X.2.1 = 0
      · exact w_t (srt_iff.2.2.mpr q2) (wp_some.mpr ⟨X, e1, fun z => z.2 q2, e2, e3, e4.1, e5⟩)
      · refine w_f (fun z => q2 (srt_iff.2.2.mp z)) ?_
        have lv : liveT b n X := ⟨q1, q2⟩
        rw [q1] at e4
        rw [wp_bd]
        refine (m_lineR T1 lv e2 e4 (e5 q1)).mono ?_
        rintro ⟨v, h27⟩ ⟨Y, a1, a2, a3, a4⟩
        dsimp only at a2 a3 a4 ⊢
        obtain ⟨y1, y2⟩ := LnStep_ok a1 lv e2
        rw [wp_some]
        exact ⟨Y, RcT_s e1 lv a1, y1, e3.tr a2, a3, a4, fun z => by have := y2 z; have := e6 q1; omega⟩
    · rw [if_neg q1]
      exact w_t rfl (wp_some.mpr ⟨X, e1, fun z => q1 z.1, e2, e3, e4.1, e5⟩)
  · rintro hh ⟨X, e1, e2, e3, e4, e5, e6⟩
    unfold fX6_duchy_l174
    rw [m_isGood e4.1, wp_bp, wp_some]
    by_cases q1 : X.1 = none
    · exfalso
      have := e6 q1
      have := e2.2.1
      omega
    · rw [if_neg q1]
      exact w_t rfl (wp_some.mpr ⟨X, e1, fun z => q1 z.1, e2, e3, e4.1, e5⟩)
