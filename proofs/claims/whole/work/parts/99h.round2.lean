/-! pure part: round, the reference goes from order to order -/
def dnN (t : Nat → Nat) : Nat → Option Nat
  | 0 => none
  | k + 1 => if t k ≤ t (k + 1) then some k else dnN t k
def dqN (t : Nat → Nat) (x : Nat) : Nat → Nat
  | 0 => 0
  | k + 1 => if t x ≤ t (k + 1) then k + 1 else dqN t x k
def swN (t : Nat → Nat) (a b : Nat) : Nat → Nat := fun i => if i = b then t a else if i = a then t b else t i
def rvN : Nat → (Nat → Nat) → Nat → Nat → Nat → Nat
  | 0, t, _, _ => t
  | f + 1, t, a, b => if b ≤ a then t else rvN f (swN t a b) (a + 1) (b - 1)
theorem dnN_s {t : Nat → Nat} {k : Nat} : dnN t (k + 1) = if t k ≤ t (k + 1) then some k else dnN t k := rfl
theorem dqN_s {t : Nat → Nat} {x k : Nat} : dqN t x (k + 1) = if t x ≤ t (k + 1) then k + 1 else dqN t x k := rfl
theorem rvN_s {f : Nat} {t : Nat → Nat} {a b : Nat} : rvN (f + 1) t a b = if b ≤ a then t else rvN f (swN t a b) (a + 1) (b - 1) := rfl
theorem rvN_z {t : Nat → Nat} {a b : Nat} : rvN 0 t a b = t := rfl
def nxN (n : Nat) (t : Nat → Nat) : Option (Nat → Nat) :=
  match dnN t (n - 1) with
  | none => none
  | some x => some (rvN n (swN t x (dqN t x (n - 1))) (x + 1) (n - 1))
def eqL (n : Nat) (t : Nat → Nat) (l : List Nat) : Bool := (List.range n).all (fun i => t i == l.getD i 0)
def stO (n : Nat) (o : Option (Nat → Nat)) (r : List (List Nat)) : Bool :=
  match o, r with
  | none, [] => true
  | some t, b :: _ => eqL n t b
  | _, _ => false
def chR (n : Nat) : List (List Nat) → Bool
  | [] => true
  | a :: r => stO n (nxN n (fun i => a.getD i 0)) r && chR n r
theorem chR_all : ∀ n : Nat, n ≤ 6 → chR n (exO n n []) = true := by decide +kernel
theorem exO_one : ∀ n : Nat, n ≤ 6 → ∃ r, exO n n [] = List.range n :: r := by
  intro n hn
  have key : ∀ n : Nat, n ≤ 6 → (exO n n []).head? = some (List.range n) := by decide +kernel
  have := key n hn
  cases e : exO n n [] with
  | nil => rw [e] at this; exact absurd this (by simp)
  | cons a r =>
    rw [e] at this
    simp only [List.head?_cons, Option.some.injEq] at this
    exact ⟨r, by rw [this]⟩
theorem exO_num : ∀ n : Nat, n ≤ 6 → (exO n n []).length ≤ 720 := by decide +kernel
def AG (n : Nat) (t : Nat → Nat) (f : Nat → Int) : Prop := ∀ i, i < n → f i = (t i : Int)
def S62 : Nat → Nat → Prop := fun a _ => a = 62
theorem m_dn {n k : Nat} {t : Nat → Nat} {h : Hp} (hn : n ≤ 6) (A : AG n t (h 62)) (hk : k + 1 ≤ n) :
    wp (it_ (fun s => fX6_nextRow_l7 s h) FU ((k : Int) - 1)) (fun e => (dnN t k = none ∧ e < 0) ∨ ∃ x, x < k ∧ dnN t k = some x ∧ e = (x : Int)) := by
  refine wp_for (fun j (s : Int) => j ≤ k ∧ s = (k : Int) - j - 1 ∧ dnN t (k - j) = dnN t k) k ?_ ?_ (FU_big (by omega)) ⟨Nat.zero_le _, by omega, rfl⟩
  · rintro j s hj ⟨e1, e2, e3⟩
    obtain ⟨m, hm⟩ : ∃ m, k - j = m + 1 := ⟨k - j - 1, by omega⟩
    have es : s = (m : Int) := by omega
    have a1 := A m (by omega)
    have a2 := A (m + 1) (by omega)
    subst es
    rw [hm, dnN_s] at e3
    unfold fX6_nextRow_l7
    rw [i1 (by omega), ia (by omega) (by omega)]
    refine w_f (by clear e3 a1 a2; omega) ?_
    rw [gd_y (by clear e3 a1 a2; omega), gd_y (by clear e3 a1 a2; omega), Int.toNat_natCast, Int.toNat_natCast, a1, a2]
    by_cases q : t m ≤ t (m + 1)
    · rw [if_pos q] at e3
      exact w_t (by clear e3 a1 a2; omega) (wp_some.mpr (Or.inr ⟨m, by clear e3 a1 a2; omega, e3.symm, rfl⟩))
    · rw [if_neg q] at e3
      refine w_f (by clear e3 a1 a2; omega) (wp_some.mpr ⟨by clear e3 a1 a2; omega, by clear e3 a1 a2; omega, ?_⟩)
      rw [show k - (j + 1) = m by clear e3 a1 a2; omega]
      exact e3
  · rintro s ⟨e1, e2, e3⟩
    unfold fX6_nextRow_l7
    refine w_t (by clear e3; omega) (wp_some.mpr (Or.inl ⟨?_, by clear e3; omega⟩))
    rw [← e3, Nat.sub_self]
    rfl
theorem m_dq {n k x : Nat} {t : Nat → Nat} {h : Hp} (hn : n ≤ 6) (A : AG n t (h 62)) (hk : k < n) (hx : x ≤ k) :
    wp (it_ (fun s => fX6_nextRow_l47 (x : Int) s h) FU (k : Int)) (fun e => dqN t x k ≤ k ∧ x ≤ dqN t x k ∧ e = (dqN t x k : Int)) := by
  refine wp_for (fun j (s : Int) => x + j ≤ k ∧ s = (k : Int) - j ∧ dqN t x (k - j) = dqN t x k) (k - x) ?_ ?_ (FU_big (by omega)) ⟨by omega, by omega, rfl⟩
  · rintro j s hj ⟨e1, e2, e3⟩
    obtain ⟨m, hm⟩ : ∃ m, k - j = m + 1 := ⟨k - j - 1, by omega⟩
    have es : s = ((m + 1 : Nat) : Int) := by omega
    have a1 := A x (by omega)
    have a2 := A (m + 1) (by omega)
    subst es
    rw [hm, dqN_s] at e3
    unfold fX6_nextRow_l47
    rw [gd_y (by clear e3 a1 a2; omega), gd_y (by clear e3 a1 a2; omega), Int.toNat_natCast, Int.toNat_natCast, a1, a2]
    by_cases q : t x ≤ t (m + 1)
    · rw [if_pos q] at e3
      refine w_t (by clear e3 a1 a2; omega) (wp_some.mpr ?_)
      have e4 : dqN t x k = m + 1 := by
        rw [← e3]
      rw [e4]
      exact ⟨by clear e3 a1 a2 e4; omega, by clear e3 a1 a2 e4; omega, rfl⟩
    · rw [if_neg q] at e3
      rw [ia (by clear e3 a1 a2; omega) (by clear e3 a1 a2; omega)]
      refine w_f (by clear e3 a1 a2; omega) (wp_some.mpr ⟨by clear e3 a1 a2; omega, by clear e3 a1 a2; omega, ?_⟩)
      rw [show k - (j + 1) = m by clear e3 a1 a2; omega]
      exact e3
  · rintro s ⟨e1, e2, e3⟩
    have es : s = (x : Int) := by clear e3; omega
    subst es
    have a1 := A x (by clear e3; omega)
    have e4 : dqN t x x = x := by
      cases x with
      | zero => rfl
      | succ m =>
        show (if t (m + 1) ≤ t (m + 1) then m + 1 else dqN t (m + 1) m) = m + 1
        rw [if_pos (Nat.le_refl _)]
    unfold fX6_nextRow_l47
    rw [gd_y (by clear e3 a1 e4; omega), gd_y (by clear e3 a1 e4; omega), Int.toNat_natCast]
    rw [show k - (k - x) = x by clear e3 a1 e4; omega, e4] at e3
    refine w_t (Int.le_refl _) (wp_some.mpr ?_)
    rw [← e3]
    exact ⟨hx, Nat.le_refl _, rfl⟩
theorem m_changes {n a b : Nat} {t : Nat → Nat} {h : Hp} (hn : n ≤ 6) (A : AG n t (h 62)) (ha : a < n) (hb : b < n) : wp (fX6_changes (a : Int) (b : Int) h) (fun r => Same S62 h r.2 ∧ AG n (swN t a b) (r.2 62)) := by
  have a1 := A a ha
  have a2 := A b hb
  unfold fX6_changes
  rw [gd_y (by clear a1 a2; omega), Int.toNat_natCast, Int.toNat_natCast, wp_lb, gd_y (by clear a1 a2; omega), gd_y (by clear a1 a2; omega), wp_lb, gd_y (by clear a1 a2; omega), wp_lb, wp_some]
  refine ⟨(Same.rf.st (P := S62) rfl).st rfl, fun i hi => ?_⟩
  show st (st h 62 a (h 62 b)) 62 b (h 62 a) 62 i = _
  unfold swN
  by_cases q : i = b
  · rw [if_pos q, q, st_self]; exact a1
  · rw [if_neg q, st_nk q]
    by_cases q2 : i = a
    · rw [if_pos q2, q2, st_self]; exact a2
    · rw [if_neg q2, st_nk q2]; exact A i hi
theorem m_rv {n a b : Nat} {t : Nat → Nat} {h : Hp} (hn : n ≤ 6) (A : AG n t (h 62)) (hb : b < n) :
    wp (it_ (fun s : Int × Int × Hp => fX6_nextRow_l86 s.1 s.2.1 s.2.2) FU ((a : Int), (b : Int), h)) (fun hq => Same S62 h hq ∧ AG n (rvN n t a b) (hq 62)) := by
  refine wp_for (fun j (s : Int × Int × Hp) => ∃ (x y : Nat) (u : Nat → Nat), s.1 = (x : Int) ∧ s.2.1 = (y : Int) ∧ y < n ∧ y ≤ x + (n - j) ∧ rvN (n - j) u x y = rvN n t a b ∧ AG n u (s.2.2 62) ∧ Same S62 h s.2.2) n ?_ ?_ (FU_big (by omega)) ⟨a, b, t, rfl, rfl, hb, by omega, rfl, A, Same.rf⟩
  · rintro j ⟨p, q, hh⟩ hj ⟨x, y, u, e1, e2, e3, e4, e5, e6, e7⟩
    dsimp only at e1 e2 e6 e7 ⊢
    subst e1
    subst e2
    obtain ⟨m, hm⟩ : ∃ m, n - j = m + 1 := ⟨n - j - 1, by clear e5; omega⟩
    rw [hm, rvN_s] at e5
    unfold fX6_nextRow_l86
    by_cases q : y ≤ x
    · rw [if_pos q] at e5
      refine w_t (by clear e5; omega) (wp_some.mpr ⟨e7, ?_⟩)
      rw [← e5]; exact e6
    · rw [if_neg q] at e5
      refine w_f (by clear e5; omega) ?_
      rw [wp_bd]
      refine (m_changes hn e6 (by clear e5; omega) e3).mono ?_
      rintro ⟨v, h25⟩ ⟨g1, g2⟩
      dsimp only at g1 g2 ⊢
      rw [i1 (by clear e5; omega), ia (by clear e5; omega) (by clear e5; omega)]
      refine wp_some.mpr ⟨x + 1, y - 1, swN u x y, rfl, ?_, by clear e5; omega, by clear e5; omega, ?_, g2, e7.tr g1⟩
      · show (y : Int) + -1 = _
        clear e5
        omega
      · rw [show n - (j + 1) = m by clear e5; omega]; exact e5
  · rintro ⟨p, q, hh⟩ ⟨x, y, u, e1, e2, e3, e4, e5, e6, e7⟩
    dsimp only at e1 e2 e6 e7 ⊢
    subst e1
    subst e2
    rw [Nat.sub_self, rvN_z] at e5
    unfold fX6_nextRow_l86
    refine w_t (by clear e5; omega) (wp_some.mpr ⟨e7, ?_⟩)
    rw [← e5]
    exact e6
theorem m_nextRow {n : Nat} {t : Nat → Nat} {h : Hp} (hn : n ≤ 6) (h3 : h 35 3 = (n : Int)) (A : AG n t (h 62)) :
    wp (fX6_nextRow h) (fun r => Same S62 h r.2 ∧ ((nxN n t = none ∧ r.1 = 0) ∨ ∃ u, nxN n t = some u ∧ r.1 = 1 ∧ AG n u (r.2 62))) := by
  unfold fX6_nextRow
  rw [h3, isb (by clear h3; omega) (by clear h3; omega), wp_lb, wp_bp]
  by_cases n0 : n = 0
  · subst n0
    have e : wp (it_ (fun s => fX6_nextRow_l7 s h) FU (((0 : Nat) : Int) - 2)) (fun e => e < 0) := by
      refine wp_for (fun _ (s : Int) => s < 0) 0 (fun k s hk => absurd hk (Nat.not_lt_zero k)) ?_ (FU_big (by decide)) (by decide)
      intro s hs
      unfold fX6_nextRow_l7
      exact w_t hs (wp_some.mpr hs)
    refine e.mono ?_
    intro e he
    unfold fX6_nextRow_j34
    exact w_f (by clear h3; omega) (wp_some.mpr ⟨Same.rf, Or.inl ⟨rfl, rfl⟩⟩)
  · obtain ⟨k, rfl⟩ : ∃ k, n = k + 1 := ⟨n - 1, by clear h3; omega⟩
    rw [show ((k + 1 : Nat) : Int) - 2 = (k : Int) - 1 by clear h3; omega]
    refine (m_dn hn A (Nat.le_refl _)).mono ?_
    rintro e (⟨d1, d2⟩ | ⟨x, d1, d2, rfl⟩)
    · dsimp only
      unfold fX6_nextRow_j34
      refine w_f (by clear h3; omega) (wp_some.mpr ⟨Same.rf, Or.inl ⟨?_, rfl⟩⟩)
      unfold nxN
      rw [show k + 1 - 1 = k from rfl, d1]
    · dsimp only
      unfold fX6_nextRow_j34
      rw [h3, isb (by clear h3; omega) (by clear h3; omega), show ((k + 1 : Nat) : Int) - 1 = (k : Int) by clear h3; omega]
      refine w_t (by clear h3; omega) ?_
      rw [wp_lb, wp_bp]
      refine (m_dq hn A (Nat.lt_succ_self k) (Nat.le_of_lt d1)).mono ?_
      rintro e ⟨q1, q2, rfl⟩
      dsimp only
      rw [wp_bd]
      refine (m_changes hn A (by clear h3; omega) (by clear h3; omega)).mono ?_
      rintro ⟨v, h19⟩ ⟨g1, g2⟩
      dsimp only at g1 g2 ⊢
      have y3 : h19 35 3 = ((k + 1 : Nat) : Int) := by rw [g1 _ _ (by unfold S62; decide)]; exact h3
      rw [i1 (by clear h3 y3; omega), y3, isb (by clear h3 y3; omega) (by clear h3 y3; omega), show ((k + 1 : Nat) : Int) - 1 = (k : Int) by clear h3 y3; omega, wp_lb, wp_lb, wp_bp]
      refine (m_rv hn g2 (Nat.lt_succ_self k)).mono ?_
      rintro hq ⟨k1, k2⟩
      refine wp_some.mpr ⟨g1.tr k1, Or.inr ⟨_, ?_, rfl, k2⟩⟩
      unfold nxN
      rw [show k + 1 - 1 = k from rfl, d2]
