/-! pure part: the reference goes to the next token -/
theorem m_skip {b : Nat → Int} {n p : Nat} {h : Hp} (T : TRk b n h) (h1 : h 35 17 = (n : Int)) (h2 : h 35 18 = (p : Int)) (hp : p ≤ n) :
    wp (it_ (fun s => fX6_goes_l0 s) FU h) (fun hq => Same (fun a k => a = 35 ∧ k = 18) h hq ∧ hq 35 18 = (tkS b n p : Int)) := by
  have hn := T.1
  refine wp_for (fun k (s : Hp) => p + k ≤ n ∧ Same (fun a k => a = 35 ∧ k = 18) h s ∧ s 35 18 = ((p + k : Nat) : Int) ∧ rnN isBk b n (p + k) = rnN isBk b n p) (n - p) ?_ ?_ (FU_big (by clear h1 h2; omega)) ⟨hp, Same.rf, h2, rfl⟩
  · rintro k s hk ⟨e1, e2, e3, e4⟩
    have x1 : s 35 17 = (n : Int) := by rw [e2 _ _ (by decide)]; exact h1
    have T1 : TRk b n s := T.same (fun k => e2 _ _ (by omega))
    have lt : p + k < n := by clear h1 h2 e3 e4 x1; omega
    have bb := (T.2 (p + k) lt).1
    have ev : byt b n (p + k) = b (p + k) % 256 := if_pos lt
    unfold fX6_goes_l0
    rw [e3, m_byteAt T1 x1, x1, ev]
    refine w_f (by clear h1 h2 e3 e4 x1 ev; omega) ?_
    rw [wp_bp, wp_some]
    have go : isBk (b (p + k)) = true → wp (fX6_goes_j37 s) (E2 (fun s : Hp => p + (k + 1) ≤ n ∧ Same (fun a k => a = 35 ∧ k = 18) h s ∧ s 35 18 = ((p + (k + 1) : Nat) : Int) ∧ rnN isBk b n (p + (k + 1)) = rnN isBk b n p) (fun hq => Same (fun a k => a = 35 ∧ k = 18) h hq ∧ hq 35 18 = (tkS b n p : Int))) := by
      intro z
      unfold fX6_goes_j37
      rw [e3, i1 (by clear h1 h2 e3 e4 x1 ev; omega), wp_lb, wp_some]
      refine ⟨by clear h1 h2 e3 e4 x1 ev; omega, e2.st ⟨rfl, rfl⟩, st_self, ?_⟩
      rw [← e4, rnN_go lt z]
      rfl
    by_cases q1 : b (p + k) = 32
    · exact w_t (by rw [q1]; decide) (go (decide_eq_true (Or.inl q1)))
    · refine w_f (by clear h1 h2 e3 e4 x1 ev; omega) ?_
      rw [wp_bp, wp_some]
      by_cases q2 : b (p + k) = 10
      · exact w_t (by rw [q2]; decide) (go (decide_eq_true (Or.inr q2)))
      · refine w_f (by clear h1 h2 e3 e4 x1 ev; omega) (wp_some.mpr ⟨e2, ?_⟩)
        rw [e3]
        unfold tkS
        rw [← e4, rnN_stop (fun z => (of_decide_eq_true z : b (p + k) = 32 ∨ b (p + k) = 10).elim q1 q2)]
  · rintro s ⟨e1, e2, e3, e4⟩
    have x1 : s 35 17 = (n : Int) := by rw [e2 _ _ (by decide)]; exact h1
    unfold fX6_goes_l0
    rw [x1, e3]
    refine w_t (by clear h1 h2 e3 e4 x1; omega) (wp_some.mpr ⟨e2, ?_⟩)
    rw [e3]
    unfold tkS
    rw [← e4, rnN_end (by clear h1 h2 e3 e4 x1; omega)]
theorem m_wordEnd {b : Nat → Int} {n p : Nat} {h : Hp} (T : TRk b n h) (h1 : h 35 17 = (n : Int)) (h2 : h 35 18 = (p : Int)) (h3 : h 35 20 = (p : Int)) (h4 : h 35 24 = 0) (hp : p ≤ n) :
    wp (it_ (fun s => fX6_goes_l108 s) FU h) (fun hq => Same (fun a k => a = 35 ∧ (k = 18 ∨ k = 24)) h hq ∧ hq 35 18 = (rnN isLt b n p : Int) ∧ hq 35 24 = (pvL (lrN b p (min 6 (rnN isLt b n p - p))) : Int)) := by
  have hn := T.1
  refine wp_for (fun k (s : Hp) => p + k ≤ n ∧ Same (fun a k => a = 35 ∧ (k = 18 ∨ k = 24)) h s ∧ s 35 18 = ((p + k : Nat) : Int) ∧ rnN isLt b n (p + k) = rnN isLt b n p ∧ s 35 24 = (pvL (lrN b p (min 6 k)) : Int) ∧ ∀ j, j < k → isLt (b (p + j)) = true) (n - p) ?_ ?_ (FU_big (by clear h1 h2 h3 h4; omega)) ⟨hp, Same.rf, h2, rfl, h4, fun j hj => absurd hj (Nat.not_lt_zero j)⟩
  · rintro k s hk ⟨e1, e2, e3, e4, e5, e6⟩
    have x1 : s 35 17 = (n : Int) := by rw [e2 _ _ (by decide)]; exact h1
    have x20 : s 35 20 = (p : Int) := by rw [e2 _ _ (by decide)]; exact h3
    have T1 : TRk b n s := T.same (fun k => e2 _ _ (by omega))
    have lt : p + k < n := by clear h1 h2 h3 h4 e3 e4 e5 e6 x1 x20; omega
    obtain ⟨y1, y2, y3⟩ := byt_lt (b := b) (n := n) (k := p + k) (fun z => (T.2 _ z).1)
    unfold fX6_goes_l108
    rw [e3, m_byteAt T1 x1, wp_bp, wp_some, m_isLetter, wp_bp, wp_some, x20, isb (by clear h1 h2 h3 h4 e3 e4 e5 e6 x1 x20 y1 y2 y3; omega) (by clear h1 h2 h3 h4 e3 e4 e5 e6 x1 x20 y1 y2 y3; omega)]
    by_cases q : isLt (b (p + k)) = true
    · rw [if_pos (y1.mpr ⟨lt, q⟩), y3 lt (Or.inl q)]
      refine w_f (by decide) ?_
      have qd : 97 ≤ b (p + k) ∧ b (p + k) ≤ 122 := of_decide_eq_true q
      have go : ∀ s' : Hp, s' 35 18 = ((p + k : Nat) : Int) → Same (fun a k => a = 35 ∧ (k = 18 ∨ k = 24)) h s' → s' 35 24 = (pvL (lrN b p (min 6 (k + 1))) : Int) → wp (fX6_goes_j159 s') (E2 (fun s : Hp => p + (k + 1) ≤ n ∧ Same (fun a k => a = 35 ∧ (k = 18 ∨ k = 24)) h s ∧ s 35 18 = ((p + (k + 1) : Nat) : Int) ∧ rnN isLt b n (p + (k + 1)) = rnN isLt b n p ∧ s 35 24 = (pvL (lrN b p (min 6 (k + 1))) : Int) ∧ ∀ j, j < k + 1 → isLt (b (p + j)) = true) (fun hq => Same (fun a k => a = 35 ∧ (k = 18 ∨ k = 24)) h hq ∧ hq 35 18 = (rnN isLt b n p : Int) ∧ hq 35 24 = (pvL (lrN b p (min 6 (rnN isLt b n p - p))) : Int))) := by
        intro s' z1 z2 z3
        unfold fX6_goes_j159
        rw [z1, i1 (by clear h1 h2 h3 h4 e3 e4 e5 e6 x1 x20 y1 y2 y3 z1 z3; omega), wp_lb, wp_some]
        refine ⟨lt, z2.st ⟨rfl, Or.inl rfl⟩, st_self, ?_, ?_, fun j hj => ?_⟩
        · rw [← e4, rnN_go lt q]
          rfl
        · show st s' 35 18 _ 35 24 = _
          rw [st_nk (by decide)]; exact z3
        · by_cases w : j = k
          · rw [w]; exact q
          · exact e6 j (by clear h1 h2 h3 h4 e3 e4 e5 e6 x1 x20 y1 y2 y3 z1 z3; omega)
      by_cases q6 : 6 ≤ k
      · refine w_t (by clear h1 h2 h3 h4 e3 e4 e5 e6 x1 x20 y1 y2 y3 go; omega) (go s e3 e2 ?_)
        rw [e5, show min 6 k = 6 by clear h1 h2 h3 h4 e3 e4 e5 e6 x1 x20 y1 y2 y3 go; omega, show min 6 (k + 1) = 6 by clear h1 h2 h3 h4 e3 e4 e5 e6 x1 x20 y1 y2 y3 go; omega]
      · refine w_f (by clear h1 h2 h3 h4 e3 e4 e5 e6 x1 x20 y1 y2 y3 go; omega) ?_
        have ek : min 6 k = k := by clear h1 h2 h3 h4 e3 e4 e5 e6 x1 x20 y1 y2 y3 go; omega
        have ek1 : min 6 (k + 1) = k + 1 := by clear h1 h2 h3 h4 e3 e4 e5 e6 x1 x20 y1 y2 y3 go ek; omega
        have pl := pvL_lt (b := b) (s := p) k e6
        have p5 : 32 ^ k ≤ 32 ^ 5 := Nat.pow_le_pow_right (by decide) (by clear h1 h2 h3 h4 e3 e4 e5 e6 x1 x20 y1 y2 y3 go ek ek1 pl; omega)
        rw [wp_bp, wp_some, e5, ek, isb (by clear h1 h2 h3 h4 e3 e4 e5 e6 x1 x20 y1 y2 y3 go ek ek1 pl p5; omega) (by clear h1 h2 h3 h4 e3 e4 e5 e6 x1 x20 y1 y2 y3 go ek ek1 pl p5; omega)]
        have ed : b (p + k) - 96 = (((b (p + k) - 96).toNat : Nat) : Int) := by clear h1 h2 h3 h4 e3 e4 e5 e6 x1 x20 y1 y2 y3 go ek ek1 pl p5; omega
        have dl : (b (p + k) - 96).toNat < 32 := by clear h1 h2 h3 h4 e3 e4 e5 e6 x1 x20 y1 y2 y3 go ek ek1 pl p5 ed; omega
        rw [ed, pv_or (Nat.lt_of_lt_of_le pl p5) dl, wp_lb]
        refine go _ ?_ (e2.st ⟨rfl, Or.inr rfl⟩) ?_
        · rw [st_nk (by decide)]; exact e3
        · rw [st_self, ek1]
          rfl
    · rw [if_neg (fun z => q (y1.mp z).2)]
      refine w_t rfl (wp_some.mpr ⟨e2, ?_, ?_⟩)
      · rw [e3, ← e4, rnN_stop q]
      · rw [e5, ← e4, rnN_stop q, show p + k - p = k by clear h1 h2 h3 h4 e3 e4 e5 e6 x1 x20 y1 y2 y3; omega]
  · rintro s ⟨e1, e2, e3, e4, e5, e6⟩
    have x1 : s 35 17 = (n : Int) := by rw [e2 _ _ (by decide)]; exact h1
    have T1 : TRk b n s := T.same (fun k => e2 _ _ (by omega))
    have ge : ¬ p + (n - p) < n := by clear h1 h2 h3 h4 e3 e4 e5 e6 x1; omega
    obtain ⟨y1, y2, y3⟩ := byt_lt (b := b) (n := n) (k := p + (n - p)) (fun z => (T.2 _ z).1)
    unfold fX6_goes_l108
    rw [e3, m_byteAt T1 x1, wp_bp, wp_some, m_isLetter, wp_bp, wp_some, if_neg (fun z => ge (y1.mp z).1)]
    refine w_t rfl (wp_some.mpr ⟨e2, ?_, ?_⟩)
    · rw [e3, ← e4, rnN_end (by clear h1 h2 h3 h4 e3 e4 e5 e6 x1 y1 y2 y3; omega)]
    · rw [e5, ← e4, rnN_end (by clear h1 h2 h3 h4 e3 e4 e5 e6 x1 y1 y2 y3; omega), show p + (n - p) - p = n - p by clear h1 h2 h3 h4 e3 e4 e5 e6 x1 y1 y2 y3; omega]
theorem m_numEnd {b : Nat → Int} {n p : Nat} {h : Hp} (T : TRk b n h) (h1 : h 35 17 = (n : Int)) (h2 : h 35 18 = (p : Int)) (h3 : h 35 20 = (p : Int)) (h4 : h 35 22 = 0) (hp : p ≤ n) :
    wp (it_ (fun s => fX6_goes_l187 s) FU h) (fun hq => Same (fun a k => a = 35 ∧ (k = 18 ∨ k = 22)) h hq ∧ hq 35 18 = (rnN isDg b n p : Int) ∧ hq 35 22 = dvN b p (min 4 (rnN isDg b n p - p))) := by
  have hn := T.1
  refine wp_for (fun k (s : Hp) => p + k ≤ n ∧ Same (fun a k => a = 35 ∧ (k = 18 ∨ k = 22)) h s ∧ s 35 18 = ((p + k : Nat) : Int) ∧ rnN isDg b n (p + k) = rnN isDg b n p ∧ s 35 22 = dvN b p (min 4 k) ∧ ∀ j, j < k → isDg (b (p + j)) = true) (n - p) ?_ ?_ (FU_big (by clear h1 h2 h3 h4; omega)) ⟨hp, Same.rf, h2, rfl, h4, fun j hj => absurd hj (Nat.not_lt_zero j)⟩
  · rintro k s hk ⟨e1, e2, e3, e4, e5, e6⟩
    have x1 : s 35 17 = (n : Int) := by rw [e2 _ _ (by decide)]; exact h1
    have x20 : s 35 20 = (p : Int) := by rw [e2 _ _ (by decide)]; exact h3
    have T1 : TRk b n s := T.same (fun k => e2 _ _ (by omega))
    have lt : p + k < n := by clear h1 h2 h3 h4 e3 e4 e5 e6 x1 x20; omega
    obtain ⟨y1, y2, y3⟩ := byt_lt (b := b) (n := n) (k := p + k) (fun z => (T.2 _ z).1)
    unfold fX6_goes_l187
    rw [e3, m_byteAt T1 x1, wp_bp, wp_some, m_isDigit, wp_bp, wp_some, x20, isb (by clear h1 h2 h3 h4 e3 e4 e5 e6 x1 x20 y1 y2 y3; omega) (by clear h1 h2 h3 h4 e3 e4 e5 e6 x1 x20 y1 y2 y3; omega)]
    by_cases q : isDg (b (p + k)) = true
    · rw [if_pos (y2.mpr ⟨lt, q⟩), y3 lt (Or.inr q)]
      refine w_f (by decide) ?_
      have qd : 48 ≤ b (p + k) ∧ b (p + k) ≤ 57 := of_decide_eq_true q
      have go : ∀ s' : Hp, s' 35 18 = ((p + k : Nat) : Int) → Same (fun a k => a = 35 ∧ (k = 18 ∨ k = 22)) h s' → s' 35 22 = dvN b p (min 4 (k + 1)) → wp (fX6_goes_j237 s') (E2 (fun s : Hp => p + (k + 1) ≤ n ∧ Same (fun a k => a = 35 ∧ (k = 18 ∨ k = 22)) h s ∧ s 35 18 = ((p + (k + 1) : Nat) : Int) ∧ rnN isDg b n (p + (k + 1)) = rnN isDg b n p ∧ s 35 22 = dvN b p (min 4 (k + 1)) ∧ ∀ j, j < k + 1 → isDg (b (p + j)) = true) (fun hq => Same (fun a k => a = 35 ∧ (k = 18 ∨ k = 22)) h hq ∧ hq 35 18 = (rnN isDg b n p : Int) ∧ hq 35 22 = dvN b p (min 4 (rnN isDg b n p - p)))) := by
        intro s' z1 z2 z3
        unfold fX6_goes_j237
        rw [z1, i1 (by clear h1 h2 h3 h4 e3 e4 e5 e6 x1 x20 y1 y2 y3 z1 z3; omega), wp_lb, wp_some]
        refine ⟨lt, z2.st ⟨rfl, Or.inl rfl⟩, st_self, ?_, ?_, fun j hj => ?_⟩
        · rw [← e4, rnN_go lt q]
          rfl
        · show st s' 35 18 _ 35 22 = _
          rw [st_nk (by decide)]; exact z3
        · by_cases w : j = k
          · rw [w]; exact q
          · exact e6 j (by clear h1 h2 h3 h4 e3 e4 e5 e6 x1 x20 y1 y2 y3 z1 z3; omega)
      by_cases q6 : 4 ≤ k
      · refine w_t (by clear h1 h2 h3 h4 e3 e4 e5 e6 x1 x20 y1 y2 y3 go; omega) (go s e3 e2 ?_)
        rw [e5, show min 4 k = 4 by clear h1 h2 h3 h4 e3 e4 e5 e6 x1 x20 y1 y2 y3 go; omega, show min 4 (k + 1) = 4 by clear h1 h2 h3 h4 e3 e4 e5 e6 x1 x20 y1 y2 y3 go; omega]
      · refine w_f (by clear h1 h2 h3 h4 e3 e4 e5 e6 x1 x20 y1 y2 y3 go; omega) ?_
        have ek : min 4 k = k := by clear h1 h2 h3 h4 e3 e4 e5 e6 x1 x20 y1 y2 y3 go; omega
        have ek1 : min 4 (k + 1) = k + 1 := by clear h1 h2 h3 h4 e3 e4 e5 e6 x1 x20 y1 y2 y3 go ek; omega
        have rg := dvN_9 (b := b) (s := p) (k := k) e6 (by clear h1 h2 h3 h4 e3 e4 e5 e6 x1 x20 y1 y2 y3 go ek ek1; omega)
        rw [wp_bp, wp_some, e5, ek, wp_lb]
        refine go _ ?_ (e2.st ⟨rfl, Or.inr rfl⟩) ?_
        · rw [st_nk (by decide)]; exact e3
        · rw [st_self, ek1]
          show _ = 10 * dvN b p k + b (p + k) - 48
          generalize dvN b p k = dk at rg
          generalize b (p + k) = bk at qd
          clear h1 h2 h3 h4 e3 e4 e5 e6 x1 x20 y1 y2 y3 go ek ek1
          rw [i_mul_eq ⟨by omega, by omega⟩, ia (by omega) (by omega), isb (by omega) (by omega)]
    · rw [if_neg (fun z => q (y2.mp z).2)]
      refine w_t rfl (wp_some.mpr ⟨e2, ?_, ?_⟩)
      · rw [e3, ← e4, rnN_stop q]
      · rw [e5, ← e4, rnN_stop q, show p + k - p = k by clear h1 h2 h3 h4 e3 e4 e5 e6 x1 x20 y1 y2 y3; omega]
  · rintro s ⟨e1, e2, e3, e4, e5, e6⟩
    have x1 : s 35 17 = (n : Int) := by rw [e2 _ _ (by decide)]; exact h1
    have T1 : TRk b n s := T.same (fun k => e2 _ _ (by omega))
    have ge : ¬ p + (n - p) < n := by clear h1 h2 h3 h4 e3 e4 e5 e6 x1; omega
    obtain ⟨y1, y2, y3⟩ := byt_lt (b := b) (n := n) (k := p + (n - p)) (fun z => (T.2 _ z).1)
    unfold fX6_goes_l187
    rw [e3, m_byteAt T1 x1, wp_bp, wp_some, m_isDigit, wp_bp, wp_some, if_neg (fun z => ge (y2.mp z).1)]
    refine w_t rfl (wp_some.mpr ⟨e2, ?_, ?_⟩)
    · rw [e3, ← e4, rnN_end (by clear h1 h2 h3 h4 e3 e4 e5 e6 x1 y1 y2 y3; omega)]
    · rw [e5, ← e4, rnN_end (by clear h1 h2 h3 h4 e3 e4 e5 e6 x1 y1 y2 y3; omega), show p + (n - p) - p = n - p by clear h1 h2 h3 h4 e3 e4 e5 e6 x1 y1 y2 y3; omega]
