/-! pure part: the tokens of a text; the class takes them -/
def isLt (v : Int) : Bool := decide (97 ≤ v ∧ v ≤ 122)
def isDg (v : Int) : Bool := decide (48 ≤ v ∧ v ≤ 57)
def isBk (v : Int) : Bool := decide (v = 32 ∨ v = 10)
def isSg (v : Int) : Bool := decide (v = 59 ∨ v = 40 ∨ v = 41 ∨ v = 43 ∨ v = 45 ∨ v = 42 ∨ v = 47 ∨ v = 60 ∨ v = 61)
/-- the first place from p on where q holds no longer -/
def rnF (q : Int → Bool) (b : Nat → Int) : Nat → Nat → Nat
  | 0, p => p
  | f + 1, p => if q (b p) = true then rnF q b f (p + 1) else p
def rnN (q : Int → Bool) (b : Nat → Int) (n p : Nat) : Nat := rnF q b (n - p) p
theorem rnN_go {q : Int → Bool} {b : Nat → Int} {n p : Nat} (hp : p < n) (h : q (b p) = true) : rnN q b n p = rnN q b n (p + 1) := by
  unfold rnN
  obtain ⟨m, hm⟩ : ∃ m, n - p = m + 1 := ⟨n - p - 1, by omega⟩
  rw [hm, show n - (p + 1) = m by omega]
  show (if q (b p) = true then _ else _) = _
  rw [if_pos h]
theorem rnN_end {q : Int → Bool} {b : Nat → Int} {n p : Nat} (hp : n ≤ p) : rnN q b n p = p := by
  unfold rnN
  rw [show n - p = 0 by omega]
  rfl
theorem rnN_stop {q : Int → Bool} {b : Nat → Int} {n p : Nat} (h : ¬ q (b p) = true) : rnN q b n p = p := by
  unfold rnN
  cases n - p with
  | zero => rfl
  | succ m =>
    show (if q (b p) = true then _ else _) = _
    rw [if_neg h]
theorem rnF_ge {q : Int → Bool} {b : Nat → Int} : ∀ f p, p ≤ rnF q b f p ∧ rnF q b f p ≤ p + f ∧ ∀ j, p ≤ j → j < rnF q b f p → q (b j) = true
  | 0, p => ⟨Nat.le_refl _, Nat.le_refl _, fun j h1 h2 => absurd h2 (Nat.not_lt.mpr h1)⟩
  | f + 1, p => by
    unfold rnF
    by_cases h : q (b p) = true
    · rw [if_pos h]
      obtain ⟨g1, g2, g3⟩ := rnF_ge (q := q) (b := b) f (p + 1)
      refine ⟨by omega, by omega, fun j h1 h2 => ?_⟩
      by_cases e : j = p
      · rw [e]; exact h
      · exact g3 j (by omega) h2
    · rw [if_neg h]
      exact ⟨Nat.le_refl _, by omega, fun j h1 h2 => absurd h2 (Nat.not_lt.mpr h1)⟩
theorem rnN_ge {q : Int → Bool} {b : Nat → Int} {n p : Nat} : p ≤ rnN q b n p := (rnF_ge _ _).1
theorem rnN_le {q : Int → Bool} {b : Nat → Int} {n p : Nat} (h : p ≤ n) : rnN q b n p ≤ n := by
  have := (rnF_ge (q := q) (b := b) (n - p) p).2.1
  unfold rnN
  omega
theorem rnN_all {q : Int → Bool} {b : Nat → Int} {n p j : Nat} (h1 : p ≤ j) (h2 : j < rnN q b n p) : q (b j) = true := (rnF_ge _ _).2.2 j h1 h2
def tkS (b : Nat → Int) (n p : Nat) : Nat := rnN isBk b n p
def tkK (b : Nat → Int) (n p : Nat) : Int := if n ≤ tkS b n p then 0 else if isLt (b (tkS b n p)) = true then 1 else if isDg (b (tkS b n p)) = true then 2 else if isSg (b (tkS b n p)) = true then b (tkS b n p) else 3
def tkE (b : Nat → Int) (n p : Nat) : Nat := if n ≤ tkS b n p then tkS b n p else if isLt (b (tkS b n p)) = true then rnN isLt b n (tkS b n p) else if isDg (b (tkS b n p)) = true then rnN isDg b n (tkS b n p) else tkS b n p + 1
def dvN (b : Nat → Int) (s : Nat) : Nat → Int
  | 0 => 0
  | k + 1 => 10 * dvN b s k + b (s + k) - 48
def tkN (b : Nat → Int) (n p : Nat) : Int := if tkE b n p - tkS b n p ≤ 4 then dvN b (tkS b n p) (tkE b n p - tkS b n p) else 10000
theorem tk_rg {b : Nat → Int} {n p : Nat} (h : p ≤ n) : p ≤ tkS b n p ∧ tkS b n p ≤ tkE b n p ∧ tkE b n p ≤ n ∧ (tkK b n p ≠ 0 → tkS b n p < tkE b n p ∧ tkS b n p < n) ∧ (tkK b n p = 0 → tkS b n p = n) := by
  have h1 : p ≤ tkS b n p := rnN_ge
  have h2 : tkS b n p ≤ n := rnN_le h
  generalize hs : tkS b n p = s at h1 h2
  unfold tkK tkE
  rw [hs]
  by_cases q : n ≤ s
  · rw [if_pos q, if_pos q]
    exact ⟨h1, Nat.le_refl _, h2, fun z => absurd rfl z, fun _ => by omega⟩
  · rw [if_neg q, if_neg q]
    by_cases q1 : isLt (b s) = true
    · rw [if_pos q1, if_pos q1]
      have g1 : rnN isLt b n s = rnN isLt b n (s + 1) := rnN_go (by omega) q1
      have g2 : s + 1 ≤ rnN isLt b n (s + 1) := rnN_ge
      have g3 : rnN isLt b n s ≤ n := rnN_le h2
      exact ⟨h1, by omega, g3, fun _ => ⟨by omega, by omega⟩, fun z => absurd z (by decide)⟩
    · rw [if_neg q1, if_neg q1]
      by_cases q2 : isDg (b s) = true
      · rw [if_pos q2, if_pos q2]
        have g1 : rnN isDg b n s = rnN isDg b n (s + 1) := rnN_go (by omega) q2
        have g2 : s + 1 ≤ rnN isDg b n (s + 1) := rnN_ge
        have g3 : rnN isDg b n s ≤ n := rnN_le h2
        exact ⟨h1, by omega, g3, fun _ => ⟨by omega, by omega⟩, fun z => absurd z (by decide)⟩
      · rw [if_neg q2, if_neg q2]
        refine ⟨h1, by omega, by omega, fun _ => ⟨by omega, by omega⟩, fun z => ?_⟩
        by_cases q3 : isSg (b s) = true
        · rw [if_pos q3] at z
          rw [z] at q3
          exact absurd q3 (by decide)
        · rw [if_neg q3] at z
          exact absurd z (by decide)
theorem dvN_rg {b : Nat → Int} {s : Nat} : ∀ k, (∀ j, j < k → isDg (b (s + j)) = true) → (k ≤ 4 → 0 ≤ dvN b s k ∧ dvN b s k < 10 ^ k)
  | 0, _, _ => ⟨Int.le_refl _, (by decide : (0 : Int) < 10 ^ 0)⟩
  | k + 1, h, hk => by
    obtain ⟨g1, g2⟩ := dvN_rg (b := b) (s := s) k (fun j hj => h j (by omega)) (by omega)
    have hd : 48 ≤ b (s + k) ∧ b (s + k) ≤ 57 := of_decide_eq_true (h k (by omega))
    unfold dvN
    have e : (10 : Int) ^ (k + 1) = 10 ^ k * 10 := Int.pow_succ ..
    rw [e]
    omega
theorem dvN_9 {b : Nat → Int} {s k : Nat} (h : ∀ j, j < k → isDg (b (s + j)) = true) (hk : k ≤ 4) : 0 ≤ dvN b s k ∧ dvN b s k ≤ 9999 := by
  obtain ⟨g1, g2⟩ := dvN_rg k h hk
  have h5 : k = 0 ∨ k = 1 ∨ k = 2 ∨ k = 3 ∨ k = 4 := by omega
  rcases h5 with rfl | rfl | rfl | rfl | rfl <;> exact ⟨g1, Int.le_of_lt_add_one (Int.lt_of_lt_of_le g2 (by decide))⟩
def CTk (b : Nat → Int) (n p : Nat) (h : Hp) : Prop := h 18 1 = (n : Int) ∧ h 18 2 = (tkS b n p : Int) ∧ h 18 3 = (tkE b n p : Int) ∧ h 18 4 = tkK b n p ∧ (tkK b n p = 2 → h 18 5 = tkN b n p)
def TPk (b : Nat → Int) (n : Nat) (h : Hp) : Prop := n ≤ 700 ∧ ∀ k, k < n → h 17 k = b k
def STk : Nat → Nat → Prop := fun a k => a = 18 ∧ 2 ≤ k ∧ k ≤ 5
theorem TPk.same {b : Nat → Int} {n : Nat} {h h' : Hp} (T : TPk b n h) (s : ∀ k, h' 17 k = h 17 k) : TPk b n h' := ⟨T.1, fun k hk => by rw [s]; exact T.2 k hk⟩
theorem c_isLetter {v : Int} {h : Hp} : fX2_isLetter v h = some (if isLt v = true then 1 else 0) := by
  unfold fX2_isLetter isLt
  by_cases q : v < 97
  · rw [if_pos q, if_neg (fun z => by have := of_decide_eq_true z; omega)]
  · rw [if_neg q]
    by_cases q2 : 122 < v
    · rw [if_pos q2, if_neg (fun z => by have := of_decide_eq_true z; omega)]
    · rw [if_neg q2, if_pos (decide_eq_true ⟨by omega, by omega⟩)]
theorem c_isDigit {v : Int} {h : Hp} : fX2_isDigit v h = some (if isDg v = true then 1 else 0) := by
  unfold fX2_isDigit isDg
  by_cases q : v < 48
  · rw [if_pos q, if_neg (fun z => by have := of_decide_eq_true z; omega)]
  · rw [if_neg q]
    by_cases q2 : 57 < v
    · rw [if_pos q2, if_neg (fun z => by have := of_decide_eq_true z; omega)]
    · rw [if_neg q2, if_pos (decide_eq_true ⟨by omega, by omega⟩)]
theorem c_isSign {v : Int} {h : Hp} : fX2_isSign v h = some (if isSg v = true then 1 else 0) := by
  have key : isSg v = true ↔ (v = 59 ∨ v = 40 ∨ v = 41 ∨ v = 43 ∨ v = 45 ∨ v = 42 ∨ v = 47 ∨ v = 60 ∨ v = 61) := ⟨fun z => of_decide_eq_true z, fun z => decide_eq_true z⟩
  unfold fX2_isSign
  by_cases q : isSg v = true
  · rw [if_pos q]
    rcases key.mp q with rfl | rfl | rfl | rfl | rfl | rfl | rfl | rfl | rfl <;> rfl
  · rw [if_neg q]
    have nq := fun z => q (key.mpr z)
    rw [if_neg (fun z => nq (Or.inl z)), if_neg (fun z => nq (Or.inr (Or.inl z))), if_neg (fun z => nq (Or.inr (Or.inr (Or.inl z)))), if_neg (fun z => nq (Or.inr (Or.inr (Or.inr (Or.inl z))))), if_neg (fun z => nq (Or.inr (Or.inr (Or.inr (Or.inr (Or.inl z)))))), if_neg (fun z => nq (Or.inr (Or.inr (Or.inr (Or.inr (Or.inr (Or.inl z))))))), if_neg (fun z => nq (Or.inr (Or.inr (Or.inr (Or.inr (Or.inr (Or.inr (Or.inl z)))))))), if_neg (fun z => nq (Or.inr (Or.inr (Or.inr (Or.inr (Or.inr (Or.inr (Or.inr (Or.inl z))))))))), if_neg (fun z => nq (Or.inr (Or.inr (Or.inr (Or.inr (Or.inr (Or.inr (Or.inr (Or.inr (z))))))))))]
theorem c_skip {b : Nat → Int} {n p : Nat} {h : Hp} (T : TPk b n h) (h1 : h 18 1 = (n : Int)) (h2 : h 18 2 = (p : Int)) (hp : p ≤ n) :
    wp (it_ (fun s => fX2_take_l8 s) FU h) (fun hq => Same (fun a k => a = 18 ∧ k = 2) h hq ∧ hq 18 2 = (tkS b n p : Int)) := by
  have hn := T.1
  refine wp_for (fun k (s : Hp) => p + k ≤ n ∧ Same (fun a k => a = 18 ∧ k = 2) h s ∧ s 18 2 = ((p + k : Nat) : Int) ∧ rnN isBk b n (p + k) = rnN isBk b n p) (n - p) ?_ ?_ (FU_big (by clear h1 h2; omega)) ⟨hp, Same.rf, h2, rfl⟩
  · rintro k s hk ⟨e1, e2, e3, e4⟩
    have x1 : s 18 1 = (n : Int) := by rw [e2 _ _ (by decide)]; exact h1
    have x17 : s 17 (p + k) = b (p + k) := by rw [e2 _ _ (fun z => absurd z.1 (by decide))]; exact T.2 _ (by clear h1 h2 e3 e4 x1; omega)
    unfold fX2_take_l8
    rw [x1, e3, Int.toNat_natCast, x17]
    refine w_f (by clear h1 h2 e3 e4 x1 x17; omega) ?_
    rw [gd_y (by clear h1 h2 e3 e4 x1 x17; omega), gd_y (by clear h1 h2 e3 e4 x1 x17; omega)]
    have go : isBk (b (p + k)) = true → wp (fX2_take_j47 s) (E2 (fun s : Hp => p + (k + 1) ≤ n ∧ Same (fun a k => a = 18 ∧ k = 2) h s ∧ s 18 2 = ((p + (k + 1) : Nat) : Int) ∧ rnN isBk b n (p + (k + 1)) = rnN isBk b n p) (fun hq => Same (fun a k => a = 18 ∧ k = 2) h hq ∧ hq 18 2 = (tkS b n p : Int))) := by
      intro z
      unfold fX2_take_j47
      rw [e3, i1 (by clear h1 h2 e3 e4 x1 x17; omega), wp_lb, wp_some]
      refine ⟨by clear h1 h2 e3 e4 x1 x17; omega, e2.st ⟨rfl, rfl⟩, st_self, ?_⟩
      rw [← e4, rnN_go (by clear h1 h2 e3 e4 x1 x17; omega) z]
      rfl
    by_cases q1 : b (p + k) = 32
    · exact w_t q1 (go (decide_eq_true (Or.inl q1)))
    · refine w_f q1 ?_
      by_cases q2 : b (p + k) = 10
      · exact w_t q2 (go (decide_eq_true (Or.inr q2)))
      · refine w_f q2 (wp_some.mpr ⟨e2, ?_⟩)
        rw [e3]
        unfold tkS
        rw [← e4, rnN_stop (fun z => (of_decide_eq_true z : b (p + k) = 32 ∨ b (p + k) = 10).elim q1 q2)]
  · rintro s ⟨e1, e2, e3, e4⟩
    have x1 : s 18 1 = (n : Int) := by rw [e2 _ _ (by decide)]; exact h1
    unfold fX2_take_l8
    rw [x1, e3]
    refine w_t (by clear h1 h2 e3 e4 x1; omega) (wp_some.mpr ⟨e2, ?_⟩)
    rw [e3]
    unfold tkS
    rw [← e4, rnN_end (by clear h1 h2 e3 e4 x1; omega)]
theorem c_wordEnd {b : Nat → Int} {n p : Nat} {h : Hp} (T : TPk b n h) (h1 : h 18 1 = (n : Int)) (h3 : h 18 3 = (p : Int)) (hp : p ≤ n) :
    wp (it_ (fun s => fX2_take_l107 s) FU h) (fun hq => Same (fun a k => a = 18 ∧ k = 3) h hq ∧ hq 18 3 = (rnN isLt b n p : Int)) := by
  have hn := T.1
  refine wp_for (fun k (s : Hp) => p + k ≤ n ∧ Same (fun a k => a = 18 ∧ k = 3) h s ∧ s 18 3 = ((p + k : Nat) : Int) ∧ rnN isLt b n (p + k) = rnN isLt b n p) (n - p) ?_ ?_ (FU_big (by clear h1 h3; omega)) ⟨hp, Same.rf, h3, rfl⟩
  · rintro k s hk ⟨e1, e2, e3, e4⟩
    have x1 : s 18 1 = (n : Int) := by rw [e2 _ _ (by decide)]; exact h1
    have x17 : s 17 (p + k) = b (p + k) := by rw [e2 _ _ (fun z => absurd z.1 (by decide))]; exact T.2 _ (by clear h1 h3 e3 e4 x1; omega)
    unfold fX2_take_l107
    rw [x1, e3, Int.toNat_natCast, x17, c_isLetter]
    refine w_f (by clear h1 h3 e3 e4 x1 x17; omega) ?_
    rw [gd_y (by clear h1 h3 e3 e4 x1 x17; omega), wp_bp, wp_some]
    by_cases q : isLt (b (p + k)) = true
    · rw [if_pos q]
      refine w_f (by decide) ?_
      rw [i1 (by clear h1 h3 e3 e4 x1 x17; omega), wp_lb, wp_some]
      refine ⟨by clear h1 h3 e3 e4 x1 x17; omega, e2.st ⟨rfl, rfl⟩, st_self, ?_⟩
      rw [← e4, rnN_go (by clear h1 h3 e3 e4 x1 x17; omega) q]
      rfl
    · rw [if_neg q]
      refine w_t rfl (wp_some.mpr ⟨e2, ?_⟩)
      rw [e3, ← e4, rnN_stop q]
  · rintro s ⟨e1, e2, e3, e4⟩
    have x1 : s 18 1 = (n : Int) := by rw [e2 _ _ (by decide)]; exact h1
    unfold fX2_take_l107
    rw [x1, e3]
    refine w_t (by clear h1 h3 e3 e4 x1; omega) (wp_some.mpr ⟨e2, ?_⟩)
    rw [e3, ← e4, rnN_end (by clear h1 h3 e3 e4 x1; omega)]
def nmC (b : Nat → Int) (s k : Nat) : Int := if k ≤ 4 then dvN b s k else 10000
theorem c_numEnd {b : Nat → Int} {n p : Nat} {h : Hp} (T : TPk b n h) (h1 : h 18 1 = (n : Int)) (h2 : h 18 2 = (p : Int)) (h3 : h 18 3 = (p : Int)) (h5 : h 18 5 = 0) (hp : p ≤ n) :
    wp (it_ (fun s => fX2_take_l171 s) FU h) (fun hq => Same (fun a k => a = 18 ∧ (k = 3 ∨ k = 5)) h hq ∧ hq 18 3 = (rnN isDg b n p : Int) ∧ hq 18 5 = nmC b p (rnN isDg b n p - p)) := by
  have hn := T.1
  refine wp_for (fun k (s : Hp) => p + k ≤ n ∧ Same (fun a k => a = 18 ∧ (k = 3 ∨ k = 5)) h s ∧ s 18 3 = ((p + k : Nat) : Int) ∧ rnN isDg b n (p + k) = rnN isDg b n p ∧ s 18 5 = nmC b p k ∧ ∀ j, j < k → isDg (b (p + j)) = true) (n - p) ?_ ?_ (FU_big (by clear h1 h2 h3 h5; omega)) ⟨hp, Same.rf, h3, rfl, h5, fun j hj => absurd hj (Nat.not_lt_zero j)⟩
  · rintro k s hk ⟨e1, e2, e3, e4, e5, e6⟩
    have x1 : s 18 1 = (n : Int) := by rw [e2 _ _ (by decide)]; exact h1
    have x2 : s 18 2 = (p : Int) := by rw [e2 _ _ (by decide)]; exact h2
    have x17 : s 17 (p + k) = b (p + k) := by rw [e2 _ _ (fun z => absurd z.1 (by decide))]; exact T.2 _ (by clear h1 h2 h3 h5 e3 e4 e5 e6 x1 x2; omega)
    unfold fX2_take_l171
    rw [x1, e3, Int.toNat_natCast, x17, c_isDigit, x2, isb (by clear h1 h2 h3 h5 e3 e4 e5 e6 x1 x2 x17; omega) (by clear h1 h2 h3 h5 e3 e4 e5 e6 x1 x2 x17; omega)]
    refine w_f (by clear h1 h2 h3 h5 e3 e4 e5 e6 x1 x2 x17; omega) ?_
    rw [gd_y (by clear h1 h2 h3 h5 e3 e4 e5 e6 x1 x2 x17; omega), wp_bp, wp_some]
    by_cases q : isDg (b (p + k)) = true
    · rw [if_pos q]
      refine w_f (by decide) ?_
      have qd : 48 ≤ b (p + k) ∧ b (p + k) ≤ 57 := of_decide_eq_true q
      have go : ∀ z : Int, z = nmC b p (k + 1) → wp (fX2_take_j237 z s) (E2 (fun s : Hp => p + (k + 1) ≤ n ∧ Same (fun a k => a = 18 ∧ (k = 3 ∨ k = 5)) h s ∧ s 18 3 = ((p + (k + 1) : Nat) : Int) ∧ rnN isDg b n (p + (k + 1)) = rnN isDg b n p ∧ s 18 5 = nmC b p (k + 1) ∧ ∀ j, j < k + 1 → isDg (b (p + j)) = true) (fun hq => Same (fun a k => a = 18 ∧ (k = 3 ∨ k = 5)) h hq ∧ hq 18 3 = (rnN isDg b n p : Int) ∧ hq 18 5 = nmC b p (rnN isDg b n p - p))) := by
        intro z hz
        have x3 : st s 18 5 z 18 3 = ((p + k : Nat) : Int) := by rw [st_nk (by decide)]; exact e3
        unfold fX2_take_j237
        rw [wp_lb, x3, i1 (by clear h1 h2 h3 h5 e3 e4 e5 e6 x1 x2 x17 x3 hz; omega), wp_lb, wp_some]
        refine ⟨by clear h1 h2 h3 h5 e3 e4 e5 e6 x1 x2 x17 x3 hz; omega, (e2.st ⟨rfl, Or.inr rfl⟩).st ⟨rfl, Or.inl rfl⟩, st_self, ?_, ?_, fun j hj => ?_⟩
        · rw [← e4, rnN_go (by clear h1 h2 h3 h5 e3 e4 e5 e6 x1 x2 x17 x3 hz; omega) q]
          rfl
        · show st (st s 18 5 z) 18 3 _ 18 5 = _
          rw [st_nk (by decide), st_self]; exact hz
        · by_cases w : j = k
          · rw [w]; exact q
          · exact e6 j (by clear h1 h2 h3 h5 e3 e4 e5 e6 x1 x2 x17 x3 hz; omega)
      by_cases q4 : 4 ≤ k
      · refine w_t (by clear h1 h2 h3 h5 e3 e4 e5 e6 x1 x2 x17 go; omega) (go _ ?_)
        unfold nmC
        rw [if_neg (by clear h1 h2 h3 h5 e3 e4 e5 e6 x1 x2 x17 go; omega)]
      · refine w_f (by clear h1 h2 h3 h5 e3 e4 e5 e6 x1 x2 x17 go; omega) ?_
        rw [gd_y (by clear h1 h2 h3 h5 e3 e4 e5 e6 x1 x2 x17 go; omega)]
        refine go _ ?_
        have ev : s 18 5 = dvN b p k := by rw [e5]; unfold nmC; rw [if_pos (by clear h1 h2 h3 h5 e3 e4 e5 e6 x1 x2 x17 go; omega)]
        have rg := dvN_9 (b := b) (s := p) (k := k) e6 (by clear h1 h2 h3 h5 e3 e4 e5 e6 x1 x2 x17 go; omega)
        rw [ev]
        have en : nmC b p (k + 1) = 10 * dvN b p k + b (p + k) - 48 := by
          unfold nmC
          rw [if_pos (by clear h1 h2 h3 h5 e3 e4 e5 e6 x1 x2 x17 go ev rg; omega)]
          rfl
        rw [en]
        generalize dvN b p k = dk at rg
        generalize b (p + k) = bk at qd
        clear h1 h2 h3 h5 e3 e4 e5 e6 x1 x2 x17 go ev en
        rw [i_mul_eq ⟨by omega, by omega⟩, ia (by omega) (by omega), isb (by omega) (by omega)]
    · rw [if_neg q]
      refine w_t rfl (wp_some.mpr ⟨e2, ?_, ?_⟩)
      · rw [e3, ← e4, rnN_stop q]
      · rw [e5, ← e4, rnN_stop q, show p + k - p = k by clear h1 h2 h3 h5 e3 e4 e5 e6 x1 x2 x17; omega]
  · rintro s ⟨e1, e2, e3, e4, e5, e6⟩
    have x1 : s 18 1 = (n : Int) := by rw [e2 _ _ (by decide)]; exact h1
    unfold fX2_take_l171
    rw [x1, e3]
    refine w_t (by clear h1 h2 h3 h5 e3 e4 e5 e6 x1; omega) (wp_some.mpr ⟨e2, ?_, ?_⟩)
    · rw [e3, ← e4, rnN_end (by clear h1 h2 h3 h5 e3 e4 e5 e6 x1; omega)]
    · rw [e5, ← e4, rnN_end (by clear h1 h2 h3 h5 e3 e4 e5 e6 x1; omega), show p + (n - p) - p = n - p by clear h1 h2 h3 h5 e3 e4 e5 e6 x1; omega]
theorem c_take {b : Nat → Int} {n p : Nat} {h : Hp} (T : TPk b n h) (h1 : h 18 1 = (n : Int)) (h3 : h 18 3 = (p : Int)) (hp : p ≤ n) : wp (fX2_take h) (fun r => Same STk h r.2 ∧ CTk b n p r.2) := by
  have hn := T.1
  unfold fX2_take
  rw [wp_lb, h3, wp_bp]
  have T1 : TPk b n (st h 18 2 (p : Int)) := T.same (fun k => st_na (by decide))
  refine (c_skip T1 (by rw [st_nk (by decide)]; exact h1) st_self hp).mono ?_
  rintro h9 ⟨g1, g2⟩
  dsimp only
  have s9 : Same STk h h9 := (Same.rf.st (P := STk) ⟨rfl, by decide, by decide⟩).tr (g1.mono (fun a k z => ⟨z.1, by omega, by omega⟩))
  have hr := tk_rg (b := b) hp
  have hk : tkK b n p = (if n ≤ tkS b n p then 0 else if isLt (b (tkS b n p)) = true then 1 else if isDg (b (tkS b n p)) = true then 2 else if isSg (b (tkS b n p)) = true then b (tkS b n p) else 3) := rfl
  have he : tkE b n p = (if n ≤ tkS b n p then tkS b n p else if isLt (b (tkS b n p)) = true then rnN isLt b n (tkS b n p) else if isDg (b (tkS b n p)) = true then rnN isDg b n (tkS b n p) else tkS b n p + 1) := rfl
  have hN : tkN b n p = nmC b (tkS b n p) (tkE b n p - tkS b n p) := rfl
  have hs2 : tkS b n p ≤ n := by omega
  unfold CTk
  rw [hN]
  generalize tkS b n p = s at *
  generalize tkK b n p = kk at *
  generalize tkE b n p = ee at *
  clear hr
  unfold fX2_take_j60
  rw [wp_lb, g2]
  generalize h10e : st h9 18 3 (s : Int) = h10
  have s10 : Same STk h h10 := by rw [← h10e]; exact s9.st ⟨rfl, by decide, by decide⟩
  have x1 : h10 18 1 = (n : Int) := by rw [s10 _ _ (by unfold STk; omega)]; exact h1
  have x2 : h10 18 2 = (s : Int) := by rw [← h10e, st_nk (by decide)]; exact g2
  have x3 : h10 18 3 = (s : Int) := by rw [← h10e]; exact st_self
  have T10 : TPk b n h10 := T.same (fun k => s10 _ _ (by unfold STk; omega))
  rw [x1, x2]
  by_cases q : n ≤ s
  · rw [if_pos q] at hk he
    refine w_f (by clear x1 x2 x3 g2 h1 h3; omega) ?_
    rw [wp_lb, wp_some]
    refine ⟨s10.st ⟨rfl, by decide, by decide⟩, ?_, ?_, ?_, ?_, ?_⟩
    · show st h10 18 4 0 18 1 = _
      rw [st_nk (by decide)]; exact x1
    · show st h10 18 4 0 18 2 = _
      rw [st_nk (by decide)]; exact x2
    · show st h10 18 4 0 18 3 = _
      rw [st_nk (by decide), he]; exact x3
    · show st h10 18 4 0 18 4 = _
      rw [hk]; exact st_self
    · rw [hk]; intro z; exact absurd z (by decide)
  · rw [if_neg q] at hk he
    have x17 : h10 17 s = b s := T10.2 s (by omega)
    refine w_t (by clear x1 x2 x3 g2 h1 h3 x17; omega) ?_
    rw [gd_y (by clear x1 x2 x3 g2 h1 h3 x17; omega), Int.toNat_natCast, x17, c_isLetter, wp_bp, wp_some]
    by_cases q1 : isLt (b s) = true
    · rw [if_pos q1] at hk he
      rw [if_pos q1]
      refine w_f (by decide) ?_
      rw [wp_lb, wp_bp]
      refine (c_wordEnd (T10.same (fun k => st_na (by decide))) (by rw [st_nk (by decide)]; exact x1) (by rw [st_nk (by decide)]; exact x3) hs2).mono ?_
      rintro hq ⟨f1, f2⟩
      rw [wp_some]
      dsimp only
      refine ⟨(s10.st ⟨rfl, by decide, by decide⟩).tr (f1.mono (fun a k z => ⟨z.1, by omega, by omega⟩)), ?_, ?_, ?_, ?_, ?_⟩
      · rw [f1 _ _ (by decide), st_nk (by decide)]; exact x1
      · rw [f1 _ _ (by decide), st_nk (by decide)]; exact x2
      · rw [he]; exact f2
      · rw [f1 _ _ (by decide), hk]; exact st_self
      · rw [hk]; intro z; exact absurd z (by decide)
    · rw [if_neg q1] at hk he
      rw [if_neg q1]
      refine w_t rfl ?_
      rw [gd_y (by clear x1 x2 x3 g2 h1 h3 x17; omega), c_isDigit, wp_bp, wp_some]
      by_cases q2 : isDg (b s) = true
      · rw [if_pos q2] at hk he
        rw [if_pos q2]
        refine w_f (by decide) ?_
        rw [wp_lb, wp_lb, wp_bp]
        refine (c_numEnd (T10.same (fun k => by rw [st_na (by decide), st_na (by decide)])) (by rw [st_nk (by decide), st_nk (by decide)]; exact x1) (by rw [st_nk (by decide), st_nk (by decide)]; exact x2) (by rw [st_nk (by decide), st_nk (by decide)]; exact x3) st_self hs2).mono ?_
        rintro hq ⟨f1, f2, f3⟩
        rw [wp_some]
        dsimp only
        refine ⟨((s10.st ⟨rfl, by decide, by decide⟩).st ⟨rfl, by decide, by decide⟩).tr (f1.mono (fun a k z => ⟨z.1, by omega, by omega⟩)), ?_, ?_, ?_, ?_, ?_⟩
        · rw [f1 _ _ (by decide), st_nk (by decide), st_nk (by decide)]; exact x1
        · rw [f1 _ _ (by decide), st_nk (by decide), st_nk (by decide)]; exact x2
        · rw [he]; exact f2
        · rw [f1 _ _ (by decide), st_nk (by decide), hk]; exact st_self
        · intro _; rw [he]; exact f3
      · rw [if_neg q2] at hk he
        rw [if_neg q2]
        refine w_t rfl ?_
        rw [gd_y (by clear x1 x2 x3 g2 h1 h3 x17; omega), c_isSign, wp_bp, wp_some]
        have fin : ∀ z : Int, z = kk → (z = 2 → False) → wp (fX2_take_j282 z h10) (fun r => Same STk h r.2 ∧ r.2 18 1 = (n : Int) ∧ r.2 18 2 = (s : Int) ∧ r.2 18 3 = (ee : Int) ∧ r.2 18 4 = kk ∧ (kk = 2 → r.2 18 5 = nmC b s (ee - s))) := by
          intro z hz nz
          have y2 : st h10 18 4 z 18 2 = (s : Int) := by rw [st_nk (by decide)]; exact x2
          unfold fX2_take_j282
          rw [wp_lb, y2, i1 (by clear x1 x2 x3 g2 h1 h3 x17 y2 hz nz; omega), wp_lb, wp_some]
          dsimp only
          refine ⟨(s10.st ⟨rfl, by decide, by decide⟩).st ⟨rfl, by decide, by decide⟩, ?_, ?_, ?_, ?_, ?_⟩
          · rw [st_nk (by decide), st_nk (by decide)]; exact x1
          · rw [st_nk (by decide)]; exact y2
          · rw [he]; exact st_self
          · rw [st_nk (by decide), st_self]; exact hz
          · intro w; rw [← hz] at w; exact (nz w).elim
        by_cases q3 : isSg (b s) = true
        · rw [if_pos q3] at hk
          rw [if_pos q3]
          refine w_f (by decide) ?_
          rw [gd_y (by clear x1 x2 x3 g2 h1 h3 x17; omega)]
          refine fin _ hk.symm (fun w => ?_)
          rw [w] at q3
          exact absurd q3 (by decide)
        · rw [if_neg q3] at hk
          rw [if_neg q3]
          exact w_t rfl (fin _ hk.symm (fun w => absurd w (by decide)))
