/-! pure part: the class reads a law, a step -/
def SQw (L base : Nat) : Nat → Nat → Prop := fun a k => (a = 18 ∧ (k = 6 ∨ k = 7 ∨ (13 ≤ k ∧ k ≤ 15))) ∨ a = 19 ∨ (a = L + 6 ∧ base ≤ k)
theorem SP_Q {L base : Nat} {h h' : Hp} (s : Same (SPw L base) h h') : Same (SQw L base) h h' := s.mono (fun a k z => by unfold SPw at z; unfold SQw; omega)
theorem S67_Q {L base : Nat} {h h' : Hp} (s : Same S67 h h') : Same (SQw L base) h h' := s.mono (fun a k z => by unfold S67 at z; unfold SQw; omega)
theorem c_part {b : Nat → Int} {n L base nx p win nots : Nat} {W C : List Int} {h : Hp} (T : TPk b n h) (K : CTk b n p h) (F : FLc none h) (hp : p ≤ n) (hL : L = 1 ∨ L = 9) (D : CLw L base win W C h) (hn : h 18 16 = (nots : Int)) (hw : W.length < 128) (hs : base + C.length + W.length ≤ p) (w6 : win ≤ 6) :
    wp (fX2_readPart (nx : Int) h) (fun r => r.1 = ((partS b n nx p win nots W C).2.1 : Int) ∧ FLc (partS b n nx p win nots W C).1 r.2 ∧ Same (SQw L base) h r.2 ∧ CLw L base (partS b n nx p win nots W C).2.2.1 (partS b n nx p win nots W C).2.2.2.1 (partS b n nx p win nots W C).2.2.2.2 r.2) := by
  have n7 := T.1
  obtain ⟨r1, r2, r3, r4, r5⟩ := tk_rg (b := b) hp
  have K4 := K.2.2.2.1
  have D15 := D.2.2.2.1
  -- a flaw
  have bad : ∀ v : Int, v ≠ 0 → wp (bd_ (fX2_refuse v h) (fun r36 h38 => some ((4 : Int), h38))) (fun r => r.1 = ((4 : Nat) : Int) ∧ FLc (some (v, tkS b n p)) r.2 ∧ Same (SQw L base) h r.2 ∧ CLw L base win W C r.2) := by
    intro v hv
    rw [wp_bd]
    refine (c_refuse F K.2.1 hv).mono ?_
    rintro ⟨u, h5⟩ ⟨g1, g2⟩
    exact wp_some.mpr ⟨rfl, g2, S67_Q g1, D.same hL (fun a k z => g1 _ _ (by unfold S67; omega))⟩
  unfold partS
  by_cases q1 : ¬ (tkK b n p = 2 ∨ tkK b n p = 1 ∨ tkK b n p = 40)
  · rw [if_pos q1]
    unfold fX2_readPart
    rw [K4]
    refine w_f (fun z => q1 (Or.inl z)) (w_f (fun z => q1 (Or.inr (Or.inl z))) (w_f (fun z => q1 (Or.inr (Or.inr z))) ?_))
    unfold fX2_readPart_j30
    exact w_t rfl (bad 1 (by decide))
  rw [if_neg q1]
  have q1' := Classical.not_not.mp q1
  have k0 : tkK b n p ≠ 0 := by clear D15 hn K4; omega
  have lt7 : p < 700 := by have := (r4 k0).2; clear D15 hn K4; omega
  -- what stands there is read
  have body : wp (fX2_readPart_j30 (nx : Int) 1 h) (fun r => r.1 = (((if (nx = 0 ∧ 6 ≤ win) ∨ (6 < nots ∧ nx ≠ 2) then (some (2, tkS b n p), 4, win, W, C) else if tkK b n p = 40 then (none, 0, win + 1, 0 :: W, C) else if tkK b n p = 2 then ((nmS b n none 0 9999 p).1, 3, win, W, C ++ [100 + (nmS b n none 0 9999 p).2]) else if 0 < nots ∧ nx ≠ 2 then (none, 1, win, 3 :: W, C) else if vaS b n p = -1 then (some (3, tkS b n p), 4, win, W, C) else (none, 3, win, W, C ++ [vaS b n p]) : Flw × Nat × Nat × List Int × List Int)).2.1 : Int) ∧ FLc ((if (nx = 0 ∧ 6 ≤ win) ∨ (6 < nots ∧ nx ≠ 2) then (some (2, tkS b n p), 4, win, W, C) else if tkK b n p = 40 then (none, 0, win + 1, 0 :: W, C) else if tkK b n p = 2 then ((nmS b n none 0 9999 p).1, 3, win, W, C ++ [100 + (nmS b n none 0 9999 p).2]) else if 0 < nots ∧ nx ≠ 2 then (none, 1, win, 3 :: W, C) else if vaS b n p = -1 then (some (3, tkS b n p), 4, win, W, C) else (none, 3, win, W, C ++ [vaS b n p]) : Flw × Nat × Nat × List Int × List Int)).1 r.2 ∧ Same (SQw L base) h r.2 ∧ CLw L base ((if (nx = 0 ∧ 6 ≤ win) ∨ (6 < nots ∧ nx ≠ 2) then (some (2, tkS b n p), 4, win, W, C) else if tkK b n p = 40 then (none, 0, win + 1, 0 :: W, C) else if tkK b n p = 2 then ((nmS b n none 0 9999 p).1, 3, win, W, C ++ [100 + (nmS b n none 0 9999 p).2]) else if 0 < nots ∧ nx ≠ 2 then (none, 1, win, 3 :: W, C) else if vaS b n p = -1 then (some (3, tkS b n p), 4, win, W, C) else (none, 3, win, W, C ++ [vaS b n p]) : Flw × Nat × Nat × List Int × List Int)).2.2.1 ((if (nx = 0 ∧ 6 ≤ win) ∨ (6 < nots ∧ nx ≠ 2) then (some (2, tkS b n p), 4, win, W, C) else if tkK b n p = 40 then (none, 0, win + 1, 0 :: W, C) else if tkK b n p = 2 then ((nmS b n none 0 9999 p).1, 3, win, W, C ++ [100 + (nmS b n none 0 9999 p).2]) else if 0 < nots ∧ nx ≠ 2 then (none, 1, win, 3 :: W, C) else if vaS b n p = -1 then (some (3, tkS b n p), 4, win, W, C) else (none, 3, win, W, C ++ [vaS b n p]) : Flw × Nat × Nat × List Int × List Int)).2.2.2.1 ((if (nx = 0 ∧ 6 ≤ win) ∨ (6 < nots ∧ nx ≠ 2) then (some (2, tkS b n p), 4, win, W, C) else if tkK b n p = 40 then (none, 0, win + 1, 0 :: W, C) else if tkK b n p = 2 then ((nmS b n none 0 9999 p).1, 3, win, W, C ++ [100 + (nmS b n none 0 9999 p).2]) else if 0 < nots ∧ nx ≠ 2 then (none, 1, win, 3 :: W, C) else if vaS b n p = -1 then (some (3, tkS b n p), 4, win, W, C) else (none, 3, win, W, C ++ [vaS b n p]) : Flw × Nat × Nat × List Int × List Int)).2.2.2.2 r.2) := by
    by_cases q2 : (nx = 0 ∧ 6 ≤ win) ∨ (6 < nots ∧ nx ≠ 2)
    · rw [if_pos q2]
      have j69 := bad 2 (by decide)
      unfold fX2_readPart_j30
      refine w_f (by decide) ?_
      rw [D15]
      have j55 : (6 < nots ∧ nx ≠ 2) → wp (fX2_readPart_j55 (nx : Int) h) (fun r => r.1 = ((4 : Nat) : Int) ∧ FLc (some (2, tkS b n p)) r.2 ∧ Same (SQw L base) h r.2 ∧ CLw L base win W C r.2) := by
        intro z
        unfold fX2_readPart_j55
        rw [hn]
        exact w_f (by clear hn D15; omega) (w_f (by clear hn D15; omega) j69)
      by_cases x0 : nx = 0
      · refine w_t (by clear hn D15; omega) ?_
        by_cases y6 : 6 ≤ win
        · exact w_t (by clear hn D15; omega) j69
        · exact w_f (by clear hn D15; omega) (j55 (by clear hn D15; omega))
      · exact w_f (by clear hn D15; omega) (j55 (by clear hn D15; omega))
    rw [if_neg q2]
    have to76 : ∀ {Z : Int × Hp → Prop}, wp (fX2_readPart_j76 (nx : Int) h) Z → wp (fX2_readPart_j30 (nx : Int) 1 h) Z := by
      intro Z z
      have j55 : wp (fX2_readPart_j55 (nx : Int) h) Z := by
        unfold fX2_readPart_j55
        rw [hn]
        by_cases y : nots ≤ 6
        · exact w_t (by clear hn D15; omega) z
        · exact w_f (by clear hn D15; omega) (w_t (by clear hn D15; omega) z)
      unfold fX2_readPart_j30
      refine w_f (by decide) ?_
      rw [D15]
      by_cases x0 : nx = 0
      · exact w_t (by clear hn D15; omega) (w_f (by clear hn D15; omega) j55)
      · exact w_f (by clear hn D15; omega) j55
    refine to76 ?_
    unfold fX2_readPart_j76
    rw [K4]
    by_cases q3 : tkK b n p = 40
    · refine w_t q3 ?_
      rw [if_pos q3]
      rw [D15, i1 (by clear hn D15; omega), wp_lb, wp_bd]
      have D2 : CLw L base (win + 1) W C (st h 18 15 ((win + 1 : Nat) : Int)) := by
        obtain ⟨d1, d2, d3, d4, d5, d6⟩ := D
        exact ⟨by rw [st_nk (by decide)]; exact d1, by rw [st_nk (by decide)]; exact d2, WAc_cg d3 (fun i _ => by rw [st_na (by decide)]), st_self, by rw [st_nk (by decide)]; exact d5, fun j hj => by rw [st_na (by clear d1 d2 d4 d5 hn D15; omega)]; exact d6 j hj⟩
      refine (c_wait (o := 0) D2 hL hw).mono ?_
      rintro ⟨u, h30⟩ ⟨g1, g2⟩
      dsimp only at g1 g2 ⊢
      refine wp_some.mpr ⟨rfl, ?_, (Same.rf.st (P := SQw L base) (Or.inl ⟨rfl, Or.inr (Or.inr ⟨by decide, by decide⟩)⟩)).tr (SP_Q g1), g2⟩
      show h30 18 6 = 0
      rw [g1 _ _ (by unfold SPw; clear hn D15; omega), st_nk (by decide)]
      exact F
    refine w_f q3 ?_
    rw [if_neg q3]
    by_cases q4 : tkK b n p = 2
    · refine w_t q4 ?_
      rw [if_pos q4]
      rw [wp_bd]
      refine (c_numberHere (lo := 0) (hi := 9999) K F).mono ?_
      rintro ⟨v, h23⟩ ⟨g1, g2, g3⟩
      dsimp only at g1 g2 g3 ⊢
      subst g3
      have rg := nmS_rg (b := b) (n := n) (fl := none) (p := p) (show (0 : Int) ≤ 9999 by decide)
      rw [ia (by clear hn D15; omega) (by clear hn D15; omega), wp_bd]
      refine (c_putC (c := 100 + (nmS b n none 0 9999 p).2) (D.same hL (fun a k z => g1 _ _ (by unfold S67; clear hn D15; omega))) hL (by clear hn D15; omega)).mono ?_
      rintro ⟨u, h26⟩ ⟨k1, k2⟩
      dsimp only at k1 k2 ⊢
      exact wp_some.mpr ⟨rfl, g2.same (k1 _ _ (by unfold SPw; clear hn D15; omega)) (k1 _ _ (by unfold SPw; clear hn D15; omega)), (S67_Q g1).tr (SP_Q k1), k2⟩
    refine w_f q4 ?_
    rw [if_neg q4]
    have j146 : wp (fX2_readPart_j146 h) (fun r => r.1 = ((if vaS b n p = -1 then (some (3, tkS b n p), 4, win, W, C) else (none, 3, win, W, C ++ [vaS b n p]) : Flw × Nat × Nat × List Int × List Int).2.1 : Int) ∧ FLc (if vaS b n p = -1 then (some (3, tkS b n p), 4, win, W, C) else (none, 3, win, W, C ++ [vaS b n p]) : Flw × Nat × Nat × List Int × List Int).1 r.2 ∧ Same (SQw L base) h r.2 ∧ CLw L base (if vaS b n p = -1 then (some (3, tkS b n p), 4, win, W, C) else (none, 3, win, W, C ++ [vaS b n p]) : Flw × Nat × Nat × List Int × List Int).2.2.1 (if vaS b n p = -1 then (some (3, tkS b n p), 4, win, W, C) else (none, 3, win, W, C ++ [vaS b n p]) : Flw × Nat × Nat × List Int × List Int).2.2.2.1 (if vaS b n p = -1 then (some (3, tkS b n p), 4, win, W, C) else (none, 3, win, W, C ++ [vaS b n p]) : Flw × Nat × Nat × List Int × List Int).2.2.2.2 r.2) := by
      unfold fX2_readPart_j146
      rw [c_value T K hp, wp_bp, wp_some]
      by_cases q6 : vaS b n p = -1
      · refine w_t q6 ?_
        rw [if_pos q6]
        exact bad 3 (by decide)
      · refine w_f q6 ?_
        rw [if_neg q6, wp_bd]
        refine (c_putC (c := vaS b n p) D hL (by clear hn D15; omega)).mono ?_
        rintro ⟨u, h13⟩ ⟨k1, k2⟩
        dsimp only at k1 k2 ⊢
        exact wp_some.mpr ⟨rfl, F.same (k1 _ _ (by unfold SPw; clear hn D15; omega)) (k1 _ _ (by unfold SPw; clear hn D15; omega)), SP_Q k1, k2⟩
    rw [hn]
    by_cases q5 : 0 < nots ∧ nx ≠ 2
    · refine w_f (by clear hn D15; omega) (w_f (by clear hn D15; omega) ?_)
      rw [if_pos q5, wp_bd]
      refine (c_wait (o := 3) D hL hw).mono ?_
      rintro ⟨u, h20⟩ ⟨k1, k2⟩
      dsimp only at k1 k2 ⊢
      exact wp_some.mpr ⟨rfl, F.same (k1 _ _ (by unfold SPw; clear hn D15; omega)) (k1 _ _ (by unfold SPw; clear hn D15; omega)), SP_Q k1, k2⟩
    · rw [if_neg q5]
      by_cases y : nots = 0
      · exact w_t (by clear hn D15; omega) j146
      · exact w_f (by clear hn D15; omega) (w_t (by clear hn D15; omega) j146)
  unfold fX2_readPart fX2_readPart_j25
  rw [K4]
  by_cases z2 : tkK b n p = 2
  · exact w_t z2 body
  · refine w_f z2 ?_
    by_cases z1 : tkK b n p = 1
    · exact w_t z1 body
    · exact w_f z1 (w_t (by clear hn D15 K4; omega) body)
theorem c_beh {b : Nat → Int} {n L base p win : Nat} {W C : List Int} {h : Hp} (T : TPk b n h) (K : CTk b n p h) (F : FLc none h) (hp : p ≤ n) (hL : L = 1 ∨ L = 9) (D : CLw L base win W C h) (hw : W.length < 128) (hs : base + C.length + W.length ≤ p) (hst : stW W) (hwf : wfR C 0 (boW W + 1)) (ho : opn W = win) :
    wp (fX2_readBehind h) (fun r => r.1 = ((behS b n p win W C).2.1 : Int) ∧ FLc (behS b n p win W C).1 r.2 ∧ Same (SQw L base) h r.2 ∧ CLw L base (behS b n p win W C).2.2.1 (behS b n p win W C).2.2.2.1 (behS b n p win W C).2.2.2.2 r.2) := by
  have n7 := T.1
  have K4 := K.2.2.2.1
  have D15 := D.2.2.2.1
  have s7 : base + C.length + W.length ≤ 700 := by clear D15 K4; omega
  have FP : ∀ {fl : Flw} {h1 h2 : Hp}, FLc fl h1 → Same (SPw L base) h1 h2 → FLc fl h2 := fun f s => f.same (s _ _ (by unfold SPw; clear D15 K4; omega)) (s _ _ (by unfold SPw; clear D15 K4; omega))
  obtain ⟨b1, b2, b3, b4, b5, b6⟩ := stl_ok (r := 1) (by decide) W C hst hwf
  have bt0 : tpW (stl 1 W C).1 = 0 := (rkO_0 (stW_tp b1)).mp b4
  unfold behS
  by_cases q1 : tkK b n p = 41 ∧ 0 < win
  · rw [if_pos q1]
    unfold fX2_readBehind
    rw [K4, D15]
    refine w_t q1.1 (w_f (by clear D15 K4; omega) ?_)
    rw [wp_bd]
    refine (c_settle (r := 1) D hL (Nat.le_of_lt hw) s7).mono ?_
    rintro ⟨u, h36⟩ ⟨g1, g2⟩
    dsimp only at g1 g2 ⊢
    obtain ⟨U, hU⟩ := tp_open bt0 (by rw [b3, ho]; exact q1.2)
    rw [hU] at g2 ⊢
    obtain ⟨d1, d2, d3, d4, d5, d6⟩ := g2
    have d2' : h36 18 13 = ((U.length + 1 : Nat) : Int) := d2
    have lU : U.length < 128 := by rw [hU] at b6; have b6' : U.length + 1 ≤ W.length := b6; clear D15 K4 d1 d2 d2' d4 d5; omega
    have em : i_sub ((U.length + 1 : Nat) : Int) 1 = (U.length : Int) := by
      clear D15 K4 d1 d2 d2' d4 d5
      rw [isb (by omega) (by omega)]
      omega
    rw [d2', em]
    have emax : fJ9_max_7cf53 0 (U.length : Int) h36 = some (U.length : Int) := by
      unfold fJ9_max_7cf53
      by_cases z : (0 : Int) < (U.length : Int)
      · rw [if_pos z]
      · rw [if_neg z]; congr 1; clear D15 K4 d1 d2 d2' d4 d5 em; omega
    rw [emax, wp_bp, wp_some, wp_lb]
    have y15 : st h36 18 13 (U.length : Int) 18 15 = (win : Int) := by rw [st_nk (by decide)]; exact d4
    have ew : i_sub (win : Int) 1 = ((win - 1 : Nat) : Int) := by
      have := b3
      have wl : win ≤ 2000000 := by
        have lw : ∀ V : List Int, opn V ≤ V.length := by
          intro V
          induction V with
          | nil => exact Nat.le_refl _
          | cons o V ih =>
            show (if o = 0 then 1 else 0) + opn V ≤ V.length + 1
            by_cases z : o = 0
            · rw [if_pos z]; omega
            · rw [if_neg z]; omega
        have := lw W
        clear D15 K4 d1 d2 d2' d4 d5 em y15
        omega
      clear D15 K4 d1 d2 d2' d4 d5 em y15 this
      rw [isb (by omega) (by omega)]
      omega
    rw [y15, ew, wp_lb, wp_some]
    dsimp only
    refine ⟨rfl, ?_, ((SP_Q g1).st (Or.inl ⟨rfl, Or.inr (Or.inr ⟨by decide, by decide⟩)⟩)).st (Or.inl ⟨rfl, Or.inr (Or.inr ⟨by decide, by decide⟩)⟩), ?_, ?_, WAc_cg d3.2 (fun i _ => ?_), st_self, ?_, fun j hj => ?_⟩
    · show st (st h36 18 13 (U.length : Int)) 18 15 _ 18 6 = 0
      rw [st_nk (by decide), st_nk (by decide)]; exact FP F g1
    · rw [st_nk (by decide), st_nk (by decide)]; exact d1
    · rw [st_nk (by decide)]; exact st_self
    · rw [st_na (by decide), st_na (by decide)]
    · rw [st_nk (by decide), st_nk (by decide)]; exact d5
    · rw [st_na (by clear D15 K4 d1 d2 d2' d4 d5 em y15 ew; omega), st_na (by clear D15 K4 d1 d2 d2' d4 d5 em y15 ew; omega)]; exact d6 j hj
  rw [if_neg q1]
  have to47 : ∀ {Z : Int × Hp → Prop}, wp (fX2_readBehind_j47 h) Z → wp (fX2_readBehind h) Z := by
    intro Z z
    unfold fX2_readBehind
    rw [K4, D15]
    by_cases y : tkK b n p = 41
    · exact w_t y (w_t (by have : ¬ 0 < win := fun w => q1 ⟨y, w⟩; clear D15 K4; omega) z)
    · exact w_f y z
  refine to47 ?_
  by_cases q2 : tkK b n p = 59 ∧ win = 0
  · rw [if_pos q2]
    unfold fX2_readBehind_j47
    rw [K4, D15]
    refine w_t q2.1 (w_t (by clear D15 K4; omega) ?_)
    rw [wp_bd]
    refine (c_settle (r := 1) D hL (Nat.le_of_lt hw) s7).mono ?_
    rintro ⟨u, h36⟩ ⟨g1, g2⟩
    exact wp_some.mpr ⟨rfl, FP F g1, SP_Q g1, g2⟩
  rw [if_neg q2]
  have to70 : ∀ {Z : Int × Hp → Prop}, wp (fX2_readBehind_j70 h) Z → wp (fX2_readBehind_j47 h) Z := by
    intro Z z
    unfold fX2_readBehind_j47
    rw [K4, D15]
    by_cases y : tkK b n p = 59
    · exact w_t y (w_f (by have : ¬ win = 0 := fun w => q2 ⟨y, w⟩; clear D15 K4; omega) z)
    · exact w_f y z
  refine to70 ?_
  unfold fX2_readBehind_j70
  rw [c_op T K hp, wp_bp, wp_some]
  by_cases q3 : opS b n p = -1
  · refine w_t q3 ?_
    rw [if_pos q3, wp_bd]
    refine (c_refuse F K.2.1 (by decide)).mono ?_
    rintro ⟨u, h5⟩ ⟨g1, g2⟩
    exact wp_some.mpr ⟨rfl, g2, S67_Q g1, D.same hL (fun a k z => g1 _ _ (by unfold S67; clear D15 K4; omega))⟩
  refine w_f q3 ?_
  rw [if_neg q3]
  obtain ⟨o1, o2, o3⟩ := opS_rg q3
  have sS : tkS b n p = tkS b n p := rfl
  generalize opS b n p = o at *
  have or1 : 1 ≤ (if rkO o = 4 then 5 else rkO o) := by
    rcases o1 with e | e | e | e | e | e | e | e <;> rw [e] <;> decide
  obtain ⟨c1, c2, c3, c4, c5, c6⟩ := stl_ok or1 W C hst hwf
  rw [c_rank, wp_bp, wp_some]
  -- the operator waits
  have j143 : ∀ (fl : Flw) (h' : Hp) (W' C' : List Int), FLc fl h' → Same (SQw L base) h h' → CLw L base win W' C' h' → W'.length < 128 → wp (fX2_readBehind_j143 o h') (fun r => r.1 = ((if o = 1 ∨ o = 2 then 1 else 2 : Nat) : Int) ∧ FLc fl r.2 ∧ Same (SQw L base) h r.2 ∧ CLw L base win (o :: W') C' r.2) := by
    intro fl h' W' C' f s d l
    unfold fX2_readBehind_j143
    rw [wp_bd]
    refine (c_wait (o := o) d hL l).mono ?_
    rintro ⟨u, h15⟩ ⟨g1, g2⟩
    dsimp only at g1 g2 ⊢
    by_cases y1 : o = 1
    · rw [if_pos (Or.inl y1)]
      exact w_t y1 (wp_some.mpr ⟨rfl, FP f g1, s.tr (SP_Q g1), g2⟩)
    · refine w_f y1 ?_
      by_cases y2 : o = 2
      · rw [if_pos (Or.inr y2)]
        exact w_t y2 (wp_some.mpr ⟨rfl, FP f g1, s.tr (SP_Q g1), g2⟩)
      · refine w_f y2 ?_
        rw [if_neg (show ¬ (o = 1 ∨ o = 2) from fun z => z.elim y1 y2)]
        exact (wp_some.mpr ⟨rfl, FP f g1, s.tr (SP_Q g1), g2⟩)
  have j105 : ∀ z : Int, z = (if rkO o = 4 then 5 else rkO o) → wp (fX2_readBehind_j105 o (rkO o) z h) (fun r => r.1 = ((if o = 1 ∨ o = 2 then 1 else 2 : Nat) : Int) ∧ FLc (if rkO o = 4 ∧ rkO (tpW (stl (if rkO o = 4 then 5 else rkO o) W C).1) = 4 then some (1, tkS b n p) else none) r.2 ∧ Same (SQw L base) h r.2 ∧ CLw L base win (o :: (stl (if rkO o = 4 then 5 else rkO o) W C).1) (stl (if rkO o = 4 then 5 else rkO o) W C).2 r.2) := by
    intro z hz
    subst hz
    unfold fX2_readBehind_j105
    rw [wp_bd]
    refine (c_settle (r := if rkO o = 4 then 5 else rkO o) D hL (Nat.le_of_lt hw) s7).mono ?_
    rintro ⟨u, h11⟩ ⟨g1, g2⟩
    dsimp only at g1 g2 ⊢
    generalize stl (if rkO o = 4 then 5 else rkO o) W C = s at *
    have l1 : s.1.length < 128 := by clear D15 K4; omega
    have K11 : CTk b n p h11 := K.same (fun k h1 h2 => g1 _ _ (by unfold SPw; clear D15 K4; omega))
    by_cases r4 : rkO o = 4
    · refine w_t r4 ?_
      cases hW : s.1 with
      | nil =>
        rw [if_neg (show ¬ (rkO o = 4 ∧ rkO (tpW []) = 4) from fun z => absurd z.2 (by decide))]
        rw [hW] at g2
        exact w_t (by rw [g2.2.1]; decide) (j143 none h11 [] s.2 (FP F g1) (SP_Q g1) g2 (by decide))
      | cons t U =>
        rw [hW] at g2 l1
        have l1' : U.length + 1 < 128 := l1
        have em : i_sub ((U.length + 1 : Nat) : Int) 1 = (U.length : Int) := by
          clear D15 K4
          rw [isb (by omega) (by omega)]
          omega
        have e13 : h11 18 13 = ((U.length + 1 : Nat) : Int) := g2.2.1
        refine w_f (by rw [e13]; clear D15 K4 em e13; omega) ?_
        rw [gd_y (by rw [e13, em]; clear D15 K4 em e13; omega), e13, em, Int.toNat_natCast, g2.2.2.1.1, c_rank, wp_bp, wp_some]
        have tt : tpW (t :: U) = t := rfl
        rw [tt]
        by_cases y : rkO t = 4
        · refine w_t y ?_
          rw [if_pos (show rkO o = 4 ∧ rkO t = 4 from ⟨r4, y⟩), wp_bd]
          refine (c_refuse (FP F g1) K11.2.1 (by decide)).mono ?_
          rintro ⟨u, h25⟩ ⟨k1, k2⟩
          exact j143 _ h25 (t :: U) s.2 k2 ((SP_Q g1).tr (S67_Q k1)) (g2.same hL (fun a k z => k1 _ _ (by unfold S67; clear D15 K4 em; omega))) l1
        · refine w_f y ?_
          rw [if_neg (show ¬ (rkO o = 4 ∧ rkO t = 4) from fun z => y z.2)]
          exact j143 none h11 (t :: U) s.2 (FP F g1) (SP_Q g1) g2 l1
    · refine w_f r4 ?_
      rw [if_neg (show ¬ (rkO o = 4 ∧ rkO (tpW s.1) = 4) from fun z => r4 z.1)]
      exact j143 none h11 s.1 s.2 (FP F g1) (SP_Q g1) g2 l1
  by_cases r4 : rkO o = 4
  · refine w_t r4 ?_
    have := j105 (i_add (rkO o) 1) (by rw [r4, if_pos rfl]; decide)
    exact this
  · refine w_f r4 ?_
    exact j105 (rkO o) (by rw [if_neg r4])
