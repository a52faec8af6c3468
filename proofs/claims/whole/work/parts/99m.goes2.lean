/-! pure part: the reference's token -/
theorem m_goes {b : Nat → Int} {n p : Nat} {h : Hp} (T : TRk b n h) (h1 : h 35 17 = (n : Int)) (h2 : h 35 18 = (p : Int)) (hp : p ≤ n) : wp (fX6_goes h) (fun r => Same SRk h r.2 ∧ RTk b n p r.2) := by
  have hn := T.1
  unfold fX6_goes
  rw [wp_bp]
  refine (m_skip T h1 h2 hp).mono ?_
  rintro h10 ⟨g1, g2⟩
  dsimp only
  have s10 : Same SRk h h10 := g1.mono (fun a k z => ⟨z.1, by omega, by omega⟩)
  have hr := tk_rg (b := b) hp
  have hk : tkK b n p = (if n ≤ tkS b n p then 0 else if isLt (b (tkS b n p)) = true then 1 else if isDg (b (tkS b n p)) = true then 2 else if isSg (b (tkS b n p)) = true then b (tkS b n p) else 3) := rfl
  have he : tkE b n p = (if n ≤ tkS b n p then tkS b n p else if isLt (b (tkS b n p)) = true then rnN isLt b n (tkS b n p) else if isDg (b (tkS b n p)) = true then rnN isDg b n (tkS b n p) else tkS b n p + 1) := rfl
  have hs2 : tkS b n p ≤ n := by omega
  have hse : tkS b n p ≤ tkE b n p ∧ tkE b n p ≤ n := by omega
  unfold RTk
  generalize tkS b n p = s at *
  generalize tkK b n p = kk at *
  generalize tkE b n p = ee at *
  clear hr
  have x1 : h10 35 17 = (n : Int) := by rw [s10 _ _ (by unfold SRk; omega)]; exact h1
  unfold fX6_goes_j50
  rw [wp_lb, g2, wp_lb, wp_lb]
  generalize hE : st (st (st h10 35 20 (s : Int)) 35 24 0) 35 22 0 = h13
  have s13 : Same SRk h h13 := by rw [← hE]; exact ((s10.st ⟨rfl, by decide, by decide⟩).st ⟨rfl, by decide, by decide⟩).st ⟨rfl, by decide, by decide⟩
  have y17 : h13 35 17 = (n : Int) := by rw [s13 _ _ (by unfold SRk; omega)]; exact h1
  have y18 : h13 35 18 = (s : Int) := by rw [← hE, st_nk (by decide), st_nk (by decide), st_nk (by decide)]; exact g2
  have y20 : h13 35 20 = (s : Int) := by rw [← hE, st_nk (by decide), st_nk (by decide)]; exact st_self
  have y22 : h13 35 22 = 0 := by rw [← hE]; exact st_self
  have y24 : h13 35 24 = 0 := by rw [← hE, st_nk (by decide)]; exact st_self
  have T13 : TRk b n h13 := T.same (fun k => s13 _ _ (by unfold SRk; omega))
  clear hE
  rw [y18, m_byteAt T13 y17, wp_bp, wp_some, wp_lb]
  have ebyt : byt b n s = (if s < n then b s % 256 else 0) := rfl
  generalize hF : st h13 35 23 (byt b n s) = h16
  have s16 : Same SRk h h16 := by rw [← hF]; exact s13.st ⟨rfl, by decide, by decide⟩
  have z17 : h16 35 17 = (n : Int) := by rw [s16 _ _ (by unfold SRk; omega)]; exact h1
  have z18 : h16 35 18 = (s : Int) := by rw [← hF, st_nk (by decide)]; exact y18
  have z20 : h16 35 20 = (s : Int) := by rw [← hF, st_nk (by decide)]; exact y20
  have z22 : h16 35 22 = 0 := by rw [← hF, st_nk (by decide)]; exact y22
  have z24 : h16 35 24 = 0 := by rw [← hF, st_nk (by decide)]; exact y24
  have z23 : h16 35 23 = (if s < n then b s % 256 else 0) := by rw [← hF, ← ebyt]; exact st_self
  have T16 : TRk b n h16 := T.same (fun k => s16 _ _ (by unfold SRk; omega))
  clear hF y17 y18 y20 y22 y24
  rw [z17, z18]
  -- the end of every way
  have fin : ∀ (hz : Hp) (so : Int), Same SRk h hz → so = srt kk → hz 35 17 = (n : Int) → hz 35 18 = (ee : Int) → hz 35 20 = (s : Int) → hz 35 23 = (if s < n then b s % 256 else 0) → (kk = 2 → hz 35 22 = dvN b s (min 4 (ee - s))) → (kk = 1 → hz 35 24 = (pvL (lrN b s (min 6 (ee - s))) : Int)) → wp (fX6_goes_j328 so hz) (fun r => Same SRk h r.2 ∧ r.2 35 17 = (n : Int) ∧ r.2 35 18 = (ee : Int) ∧ r.2 35 20 = (s : Int) ∧ r.2 35 21 = ((ee - s : Nat) : Int) ∧ r.2 35 19 = srt kk ∧ (kk = 2 → r.2 35 22 = dvN b s (min 4 (ee - s))) ∧ r.2 35 23 = (if s < n then b s % 256 else 0) ∧ (kk = 1 → r.2 35 24 = (pvL (lrN b s (min 6 (ee - s))) : Int))) := by
    intro hz so f1 f2 f3 f4 f5 f6 f7 f8
    have w18 : st hz 35 19 so 35 18 = (ee : Int) := by rw [st_nk (by decide)]; exact f4
    have w20 : st hz 35 19 so 35 20 = (s : Int) := by rw [st_nk (by decide)]; exact f5
    have ed : i_sub (ee : Int) (s : Int) = ((ee - s : Nat) : Int) := by
      clear f2 f3 f4 f5 f6 f7 f8 w18 w20 z17 z18 z20 z22 z23 z24 x1 g2 h1 h2 hk he ebyt
      rw [isb (by omega) (by omega)]
      omega
    unfold fX6_goes_j328 fX6_goes_j331
    rw [wp_lb, w18, w20, ed, wp_lb, wp_some]
    dsimp only
    refine ⟨(f1.st ⟨rfl, by decide, by decide⟩).st ⟨rfl, by decide, by decide⟩, ?_, ?_, ?_, st_self, ?_, fun z => ?_, ?_, fun z => ?_⟩
    · rw [st_nk (by decide), st_nk (by decide)]; exact f3
    · rw [st_nk (by decide)]; exact w18
    · rw [st_nk (by decide)]; exact w20
    · rw [st_nk (by decide), st_self]; exact f2
    · rw [st_nk (by decide), st_nk (by decide)]; exact f7 z
    · rw [st_nk (by decide), st_nk (by decide)]; exact f6
    · rw [st_nk (by decide), st_nk (by decide)]; exact f8 z
  by_cases q : n ≤ s
  · rw [if_pos q] at hk he
    refine w_f (by clear z17 z18 z20 z22 z23 z24 x1 g2 h1 h2 ebyt; omega) ?_
    rw [wp_lb]
    exact fin h16 0 s16 (by rw [hk]; rfl) z17 (by rw [he]; exact z18) z20 z23 (fun w => by rw [hk] at w; exact absurd w (by decide)) (fun w => by rw [hk] at w; exact absurd w (by decide))
  · rw [if_neg q] at hk he
    have lt : s < n := by clear z17 z18 z20 z22 z23 z24 x1 g2 h1 h2 ebyt; omega
    obtain ⟨y1, y2, y3⟩ := byt_lt (b := b) (n := n) (k := s) (fun z => (T.2 _ z).1)
    refine w_t (by clear z17 z18 z20 z22 z23 z24 x1 g2 h1 h2 ebyt; omega) ?_
    rw [m_isLetter, wp_bp, wp_some]
    by_cases q1 : isLt (b s) = true
    · rw [if_pos q1] at hk he
      rw [if_pos (y1.mpr ⟨lt, q1⟩)]
      refine w_f (by decide) ?_
      rw [wp_bp]
      refine (m_wordEnd T16 z17 z18 z20 z24 hs2).mono ?_
      rintro hq ⟨f1, f2, f3⟩
      dsimp only
      rw [wp_lb]
      have sq : Same SRk h hq := s16.tr (f1.mono (fun a k z => ⟨z.1, by omega, by omega⟩))
      exact fin hq 1 sq (by rw [hk]; rfl) (by rw [f1 _ _ (by decide)]; exact z17) (by rw [he]; exact f2) (by rw [f1 _ _ (by decide)]; exact z20) (by rw [f1 _ _ (by decide)]; exact z23) (fun w => by rw [hk] at w; exact absurd w (by decide)) (fun _ => by rw [he]; exact f3)
    · rw [if_neg q1] at hk he
      rw [if_neg (fun z => q1 (y1.mp z).2)]
      refine w_t rfl ?_
      rw [m_isDigit, wp_bp, wp_some]
      by_cases q2 : isDg (b s) = true
      · rw [if_pos q2] at hk he
        rw [if_pos (y2.mpr ⟨lt, q2⟩)]
        refine w_f (by decide) ?_
        rw [wp_bp]
        refine (m_numEnd T16 z17 z18 z20 z22 hs2).mono ?_
        rintro hq ⟨f1, f2, f3⟩
        dsimp only
        rw [wp_lb]
        have sq : Same SRk h hq := s16.tr (f1.mono (fun a k z => ⟨z.1, by omega, by omega⟩))
        exact fin hq 2 sq (by rw [hk]; rfl) (by rw [f1 _ _ (by decide)]; exact z17) (by rw [he]; exact f2) (by rw [f1 _ _ (by decide)]; exact z20) (by rw [f1 _ _ (by decide)]; exact z23) (fun _ => by rw [he]; exact f3) (fun w => by rw [hk] at w; exact absurd w (by decide))
      · rw [if_neg q2] at hk he
        rw [if_neg (fun z => q2 (y2.mp z).2)]
        refine w_t rfl ?_
        have bb := (T.2 s lt).1
        have eb : byt b n s = b s % 256 := if_pos lt
        rw [eb, i1 (by clear z17 z18 z20 z22 z23 z24 x1 g2 h1 h2 ebyt hk he eb y1 y2 y3; omega), wp_lb]
        generalize hG : st h16 35 18 ((s + 1 : Nat) : Int) = h24
        have s24 : Same SRk h h24 := by rw [← hG]; exact s16.st ⟨rfl, by decide, by decide⟩
        have w17 : h24 35 17 = (n : Int) := by rw [s24 _ _ (by unfold SRk; omega)]; exact h1
        have w18 : h24 35 18 = (ee : Int) := by rw [← hG, he]; exact st_self
        have w20 : h24 35 20 = (s : Int) := by rw [← hG, st_nk (by decide)]; exact z20
        have w23 : h24 35 23 = (if s < n then b s % 256 else 0) := by rw [← hG, st_nk (by decide)]; exact z23
        have keyS : isSg (b s) = true ↔ (b s = 59 ∨ b s = 40 ∨ b s = 41 ∨ b s = 43 ∨ b s = 45 ∨ b s = 42 ∨ b s = 47 ∨ b s = 60 ∨ b s = 61) := ⟨fun z => of_decide_eq_true z, fun z => decide_eq_true z⟩
        have sg : isSg (b s) = true → wp (fX6_goes_j323 h24) (fun r => Same SRk h r.2 ∧ r.2 35 17 = (n : Int) ∧ r.2 35 18 = (ee : Int) ∧ r.2 35 20 = (s : Int) ∧ r.2 35 21 = ((ee - s : Nat) : Int) ∧ r.2 35 19 = srt kk ∧ (kk = 2 → r.2 35 22 = dvN b s (min 4 (ee - s))) ∧ r.2 35 23 = (if s < n then b s % 256 else 0) ∧ (kk = 1 → r.2 35 24 = (pvL (lrN b s (min 6 (ee - s))) : Int))) := by
          intro z
          rw [if_pos z] at hk
          have es : 3 = srt kk := by
            rw [hk]
            rcases keyS.mp z with w | w | w | w | w | w | w | w | w <;> rw [w] <;> rfl
          have n12 : kk ≠ 1 ∧ kk ≠ 2 := by
            rw [hk]
            rcases keyS.mp z with w | w | w | w | w | w | w | w | w <;> rw [w] <;> decide
          unfold fX6_goes_j323
          exact fin h24 3 s24 es w17 w18 w20 w23 (fun w => absurd w n12.2) (fun w => absurd w n12.1)
        by_cases q3 : isSg (b s) = true
        · have k9 := keyS.mp q3
          have w := sg q3
          clear fin sg keyS hG w17 w18 w20 w23 z17 z18 z20 z22 z23 z24 x1 g2 h1 h2 ebyt hk he eb y1 y2 y3
          by_cases c0 : b s % 256 = 59
          · exact w_t c0 w
          refine w_f c0 ?_
          by_cases c1 : b s % 256 = 40
          · exact w_t c1 w
          refine w_f c1 ?_
          by_cases c2 : b s % 256 = 41
          · exact w_t c2 w
          refine w_f c2 ?_
          by_cases c3 : b s % 256 = 43
          · exact w_t c3 w
          refine w_f c3 ?_
          by_cases c4 : b s % 256 = 45
          · exact w_t c4 w
          refine w_f c4 ?_
          by_cases c5 : b s % 256 = 42
          · exact w_t c5 w
          refine w_f c5 ?_
          by_cases c6 : b s % 256 = 47
          · exact w_t c6 w
          refine w_f c6 ?_
          by_cases c7 : b s % 256 = 60
          · exact w_t c7 w
          refine w_f c7 ?_
          by_cases c8 : b s % 256 = 61
          · exact w_t c8 w
          refine w_f c8 ?_
          exfalso
          clear w
          omega
        · rw [if_neg q3] at hk
          have nk : ∀ v : Int, isSg v = true → ¬ b s % 256 = v := by
            intro v hv z
            apply q3
            have hv' : (v = 59 ∨ v = 40 ∨ v = 41 ∨ v = 43 ∨ v = 45 ∨ v = 42 ∨ v = 47 ∨ v = 60 ∨ v = 61) := of_decide_eq_true hv
            clear fin sg hG w17 w18 w20 w23 z17 z18 z20 z22 z23 z24 x1 g2 h1 h2 ebyt hk he eb y1 y2 y3
            exact keyS.mpr (by omega)
          refine w_f (nk _ (by decide)) (w_f (nk _ (by decide)) (w_f (nk _ (by decide)) (w_f (nk _ (by decide)) (w_f (nk _ (by decide)) (w_f (nk _ (by decide)) (w_f (nk _ (by decide)) (w_f (nk _ (by decide)) (w_f (nk _ (by decide)) ?_))))))))
          exact fin h24 4 s24 (by rw [hk]; rfl) w17 w18 w20 w23 (fun w => by rw [hk] at w; exact absurd w (by decide)) (fun w => by rw [hk] at w; exact absurd w (by decide))
theorem letters_h {x : Int} {h : Hp} : fX6_letters x h = fX6_letters x (fun _ _ => 0) := rfl
theorem letters_tab : ∀ k : Nat, k < 17 → fX6_letters (k : Int) (fun _ _ => 0) = some (pvL (mwR k) : Int) := by decide +kernel
theorem m_knownWord {b : Nat → Int} {n p : Nat} {h : Hp} (C : RTk b n p h) (hp : p ≤ n) : fX6_knownWord h = some (kwN b n p) := by
  obtain ⟨r1, r2, r3, r4, r5⟩ := tk_rg (b := b) hp
  obtain ⟨-, -, -, c4, c5, -, -, c8⟩ := C
  unfold fX6_knownWord
  rw [c5, c4]
  have nok : ¬ tkK b n p = 1 → kwN b n p = -1 := by
    intro q
    refine fi_no.mpr (fun i hi => ?_)
    unfold isKw
    rw [decide_eq_false q, Bool.false_and]
  by_cases q : tkK b n p = 1
  · rw [q, if_pos (show srt 1 = 1 from rfl)]
    have lt := fun j h1 h2 => tk_let (j := j) q h1 h2
    have kwb : ∀ k, isKw b n p k = decide (lrN b (tkS b n p) (tkE b n p - tkS b n p) = mwR k) := fun k => by unfold isKw; rw [decide_eq_true q, Bool.true_and]
    by_cases q6 : tkE b n p - tkS b n p ≤ 6
    · rw [if_pos (by clear c4 c5 c8 r4 r5; omega)]
      have e8 := c8 q
      rw [show min 6 (tkE b n p - tkS b n p) = tkE b n p - tkS b n p by clear c4 c5 c8 r4 r5 e8; omega] at e8
      have dig := lrN_dig (b := b) (s := tkS b n p) (tkE b n p - tkS b n p) (fun i hi => lt _ (by clear c4 c5 c8 r4 r5 e8; omega) (by clear c4 c5 c8 r4 r5 e8; omega))
      have eqv : ∀ k, k < 17 → (l_cmp (pvL (mwR k) : Int) (h 35 24) = 0 ↔ isKw b n p k = true) := by
        intro k hk
        rw [e8, kwb k]
        have t6 := (mw_tab k hk).2.2.2.2.2
        constructor
        · intro z
          have z' : (pvL (mwR k) : Int) = (pvL (lrN b (tkS b n p) (tkE b n p - tkS b n p)) : Int) := by
            unfold l_cmp at z
            by_cases w1 : (pvL (lrN b (tkS b n p) (tkE b n p - tkS b n p)) : Int) < (pvL (mwR k) : Int)
            · rw [if_pos w1] at z; exact absurd z (by decide)
            · rw [if_neg w1] at z
              by_cases w2 : (pvL (mwR k) : Int) = (pvL (lrN b (tkS b n p) (tkE b n p - tkS b n p)) : Int)
              · exact w2
              · rw [if_neg w2] at z; exact absurd z (by decide)
          exact decide_eq_true (pvL_inj _ _ dig t6 (Int.ofNat.inj z').symm)
        · intro z
          rw [of_decide_eq_true z]
          unfold l_cmp
          rw [if_neg (Int.lt_irrefl _), if_pos rfl]
      have loop : wp (it_ (fun x => fX6_knownWord_l21 x h) FU (0 : Int)) (fun o => E2 (fun _ => kwN b n p = -1) (fun v : Int => v = kwN b n p) o) := by
        refine wp_for (fun j (x : Int) => x = (j : Int) ∧ ∀ i, i < j → isKw b n p i = false) 17 ?_ ?_ (FU_big (by decide)) ⟨rfl, fun i hi => absurd hi (Nat.not_lt_zero i)⟩
        · rintro j x hj ⟨rfl, e2⟩
          unfold fX6_knownWord_l21
          refine w_f (by clear c4 c5 c8 r4 r5 e8; omega) ?_
          rw [letters_h, letters_tab j hj, wp_bp, wp_some]
          by_cases w : isKw b n p j = true
          · refine w_t ((eqv j hj).mpr w) (wp_some.mpr ?_)
            exact (fi_at hj w e2).symm
          · refine w_f (fun z => w ((eqv j hj).mp z)) ?_
            rw [i1 (by clear c4 c5 c8 r4 r5 e8; omega), wp_some]
            refine ⟨rfl, fun i hi => ?_⟩
            by_cases v : i = j
            · rw [v]; simpa using w
            · exact e2 i (by clear c4 c5 c8 r4 r5 e8; omega)
        · rintro x ⟨rfl, e2⟩
          unfold fX6_knownWord_l21
          exact w_t (by decide) (wp_some.mpr (fi_no.mpr e2))
      obtain ⟨o, ho, hq⟩ := loop
      rw [ho]
      cases o with
      | inl u => rw [show kwN b n p = -1 from hq]; rfl
      | inr v => rw [← (show v = kwN b n p from hq)]; rfl
    · rw [if_neg (by clear c4 c5 c8 r4 r5; omega)]
      congr 1
      refine (fi_no.mpr (fun i hi => ?_)).symm
      rw [kwb i]
      refine decide_eq_false (fun z => q6 ?_)
      have := (mw_tab i hi).2.2.2.1
      rw [← z, lrN_len] at this
      exact this
  · rw [if_neg (fun z => q ?_), nok q]
    unfold srt at z
    by_cases w0 : tkK b n p = 0
    · rw [if_pos w0] at z; exact absurd z (by decide)
    · rw [if_neg w0, if_neg q] at z
      by_cases w2 : tkK b n p = 2
      · rw [if_pos w2] at z; exact absurd z (by decide)
      · rw [if_neg w2] at z
        by_cases w3 : tkK b n p = 3
        · rw [if_pos w3] at z; exact absurd z (by decide)
        · rw [if_neg w3] at z; exact absurd z (by decide)
/-- what tokens there are -/
theorem tkK_cases {b : Nat → Int} {n p : Nat} : tkK b n p = 0 ∨ tkK b n p = 1 ∨ tkK b n p = 2 ∨ tkK b n p = 3 ∨ (isSg (tkK b n p) = true ∧ tkS b n p < n ∧ tkK b n p = b (tkS b n p)) := by
  unfold tkK
  by_cases q : n ≤ tkS b n p
  · rw [if_pos q]; exact Or.inl rfl
  · rw [if_neg q]
    by_cases q1 : isLt (b (tkS b n p)) = true
    · rw [if_pos q1]; exact Or.inr (Or.inl rfl)
    · rw [if_neg q1]
      by_cases q2 : isDg (b (tkS b n p)) = true
      · rw [if_pos q2]; exact Or.inr (Or.inr (Or.inl rfl))
      · rw [if_neg q2]
        by_cases q3 : isSg (b (tkS b n p)) = true
        · rw [if_pos q3]; exact Or.inr (Or.inr (Or.inr (Or.inr ⟨q3, Nat.not_le.mp q, rfl⟩)))
        · rw [if_neg q3]; exact Or.inr (Or.inr (Or.inr (Or.inl rfl)))
theorem m_isSign {b : Nat → Int} {n p : Nat} {c : Int} {h : Hp} (C : RTk b n p h) (hc : isSg c = true) : fX6_isSign c h = some (if tkK b n p = c then 1 else 0) := by
  obtain ⟨-, -, -, -, c5, -, c7, -⟩ := C
  have hc' : (c = 59 ∨ c = 40 ∨ c = 41 ∨ c = 43 ∨ c = 45 ∨ c = 42 ∨ c = 47 ∨ c = 60 ∨ c = 61) := of_decide_eq_true hc
  unfold fX6_isSign
  rw [c5, c7]
  rcases tkK_cases (b := b) (n := n) (p := p) with e | e | e | e | ⟨e1, e2, e3⟩
  · rw [e, if_neg (by decide), if_neg (by omega)]
  · rw [e, if_neg (by decide), if_neg (by omega)]
  · rw [e, if_neg (by decide), if_neg (by omega)]
  · rw [e, if_neg (by decide), if_neg (by omega)]
  · rw [if_pos e2, ← e3]
    have k : (tkK b n p = 59 ∨ tkK b n p = 40 ∨ tkK b n p = 41 ∨ tkK b n p = 43 ∨ tkK b n p = 45 ∨ tkK b n p = 42 ∨ tkK b n p = 47 ∨ tkK b n p = 60 ∨ tkK b n p = 61) := of_decide_eq_true e1
    generalize tkK b n p = t at k
    have e4 : srt t = 3 := by rcases k with w | w | w | w | w | w | w | w | w <;> rw [w] <;> rfl
    rw [if_pos e4, show t % 256 = t by clear e4; omega]
    by_cases w : t = c
    · rw [if_pos w, if_pos w]
    · rw [if_neg w, if_neg w]
