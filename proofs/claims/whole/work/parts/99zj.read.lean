/-! pure part: the class reads a text -/
def A00 : Hp := fun a k => if a = 8 then (if k = 0 ∨ k = 1 then 8 else 0) else if a = 1 then (if k < 12 then -1 else 0) else 0
def cd00 : Nat → List Int := fun _ => []
theorem esum00 : ∀ l, esum cd00 l = 0
  | 0 => rfl
  | l + 1 => by
    show esum cd00 l + 0 = 0
    rw [esum00 l]
theorem PBd00 : PBd A00 := by
  unfold PBd
  decide
theorem PWf00 {v u : Int} : PWf (st (st A00 8 0 v) 8 1 u) cd00 := by
  have e2 : st (st A00 8 0 v) 8 1 u 8 2 = 0 := by simp [st_at, A00]
  have e3 : st (st A00 8 0 v) 8 1 u 8 3 = 0 := by simp [st_at, A00]
  have e4 : st (st A00 8 0 v) 8 1 u 8 4 = 0 := by simp [st_at, A00]
  have e5 : st (st A00 8 0 v) 8 1 u 8 5 = 0 := by simp [st_at, A00]
  unfold PWf
  rw [e2, e3, e4, e5]
  refine ⟨fun c _ => by simp [st_at, A00], fun t ht => absurd ht (by omega), fun t h1 _ => by simp [st_at, A00, h1], fun t ht => absurd ht (by omega), fun k h1 h2 _ => ?_, fun t u ht => absurd ht (by omega), fun t u ht => absurd ht (by omega), fun t u ht => absurd ht (by omega), fun t ht => absurd ht (by omega), fun t ht => absurd ht (by omega), fun t ht => absurd ht (by omega), fun t ht => absurd ht (by omega)⟩
  have : ¬ k < 12 := by omega
  simp [st_at, A00, this]
theorem PWf0 : PWf A00 cd00 := by
  have := PWf00 (v := 8) (u := 8)
  have e : st (st A00 8 0 8) 8 1 8 = A00 := by
    funext a k
    show (if a = 8 ∧ k = 1 then (8 : Int) else if a = 8 ∧ k = 0 then 8 else A00 a k) = A00 a k
    by_cases q1 : a = 8 ∧ k = 1
    · rw [if_pos q1]; simp [A00, q1.1, q1.2]
    · rw [if_neg q1]
      by_cases q2 : a = 8 ∧ k = 0
      · rw [if_pos q2]; simp [A00, q2.1, q2.2]
      · rw [if_neg q2]
  rw [e] at this
  exact this
/-- where the lines begin -/
def X1T (b : Nat → Int) (n : Nat) : TxS := if kwN b n 0 = 10 then ((szS b n A00 0).1, (szS b n A00 0).2.1, (szS b n A00 0).2.2, cd00) else (none, 0, A00, cd00)
theorem X1_ok {b : Nat → Int} {n : Nat} : XOk n (X1T b n) := by
  unfold X1T
  by_cases q : kwN b n 0 = 10
  · rw [if_pos q]
    have l1 := tkE_le (b := b) (n := n) (p := 0) (Nat.zero_le _)
    have l2 := tkE_le (b := b) l1
    have l3 := tkE_le (b := b) l2
    have l4 := tkE_le (b := b) l3
    unfold szS
    dsimp only
    have r1 := nmS_rg (b := b) (n := n) (fl := none) (p := tkE b n 0) (show (1 : Int) ≤ 8 by decide)
    have r2 := nmS_rg (b := b) (n := n) (fl := (nmS b n none 1 8 (tkE b n 0)).1) (p := tkE b n (tkE b n 0)) (show (1 : Int) ≤ 8 by decide)
    refine ⟨⟨by simpa [st_at] using r1, by simpa [st_at] using r2, by simp [st_at, A00], by simp [st_at, A00], by simp [st_at, A00], by simp [st_at, A00]⟩, l4, ?_, fun _ => PWf00⟩
    dsimp only
    rw [esum00]; exact Nat.zero_le _
  · rw [if_neg q]
    exact ⟨PBd00, Nat.zero_le _, by dsimp only; rw [esum00]; exact Nat.zero_le _, fun _ => PWf0⟩
def SLL (L : Nat) : Nat → Nat → Prop := fun a _ => L ≤ a ∧ a ≤ L + 7
theorem c_clear {L : Nat} {h : Hp} (hL : L = 1 ∨ L = 9) : wp (fX1_clear (L : Int) h) (fun r => Same (SLL L) h r.2 ∧ (r.2 L 0 = 8 ∧ r.2 L 1 = 8 ∧ r.2 L 3 = 0 ∧ r.2 L 6 = 0 ∧ r.2 L 8 = 0) ∧ (∀ c, c < 64 → r.2 (L + 1) c = 0) ∧ ∀ k, k < 62 → k ≠ 60 → r.2 (L + 7) k = if k < 12 then -1 else 0) := by
  have l1 : ((L : Int) + 1).toNat = L + 1 := by omega
  have l7 : ((L : Int) + 7).toNat = L + 7 := by omega
  unfold fX1_clear
  rw [gd_y (by omega), Int.toNat_natCast, wp_lb, wp_lb, wp_lb, wp_lb, wp_lb, wp_bp]
  generalize hE : st (st (st (st (st h L 0 8) L 1 8) L 3 0) L 6 0) L 8 0 = h6
  have s6 : Same (SLL L) h h6 := by
    rw [← hE]
    exact ((((Same.rf.st (P := SLL L) ⟨by omega, by omega⟩).st ⟨by omega, by omega⟩).st ⟨by omega, by omega⟩).st ⟨by omega, by omega⟩).st ⟨by omega, by omega⟩
  have f6 : h6 L 0 = 8 ∧ h6 L 1 = 8 ∧ h6 L 3 = 0 ∧ h6 L 6 = 0 ∧ h6 L 8 = 0 := by rw [← hE]; simp [st_at]
  clear hE
  have lp1 : wp (it_ (fun s : Int × Hp => fX1_clear_l29 (L : Int) s.1 s.2) FU (0, h6)) (fun hq => Same (fun a _ => a = L + 1) h6 hq ∧ ∀ c, c < 64 → hq (L + 1) c = 0) := by
    refine wp_for (fun k (s : Int × Hp) => s.1 = (k : Int) ∧ Same (fun a _ => a = L + 1) h6 s.2 ∧ ∀ c, c < k → s.2 (L + 1) c = 0) 64 ?_ ?_ (FU_big (by decide)) ⟨rfl, Same.rf, fun c hc => absurd hc (Nat.not_lt_zero c)⟩
    · rintro k ⟨x, hh⟩ hk ⟨e1, e2, e3⟩
      dsimp only at e1 e2 e3 ⊢
      subst e1
      unfold fX1_clear_l29
      rw [gd_y (by clear e3; omega)]
      refine w_f (by clear e3; omega) ?_
      rw [gd_y (by clear e3; omega), l1, Int.toNat_natCast, wp_lb, i1 (by clear e3; omega), wp_some]
      refine ⟨rfl, e2.st rfl, fun c hc => ?_⟩
      show st hh (L + 1) k 0 (L + 1) c = 0
      by_cases q : c = k
      · rw [q]; exact st_self
      · rw [st_nk q]; exact e3 c (by clear e3; omega)
    · rintro ⟨x, hh⟩ ⟨e1, e2, e3⟩
      dsimp only at e1 e2 e3 ⊢
      subst e1
      unfold fX1_clear_l29
      rw [gd_y (by clear e3; omega)]
      exact w_t (by decide) (wp_some.mpr ⟨e2, e3⟩)
  refine lp1.mono ?_
  rintro h13 ⟨g1, g2⟩
  have lp2 : wp (it_ (fun s : Int × Hp => fX1_clear_l53 (L : Int) s.1 s.2) FU (0, h13)) (fun hq => Same (fun a _ => a = L + 7) h13 hq ∧ ∀ c, c < 62 → hq (L + 7) c = 0) := by
    refine wp_for (fun k (s : Int × Hp) => s.1 = (k : Int) ∧ Same (fun a _ => a = L + 7) h13 s.2 ∧ ∀ c, c < k → s.2 (L + 7) c = 0) 62 ?_ ?_ (FU_big (by decide)) ⟨rfl, Same.rf, fun c hc => absurd hc (Nat.not_lt_zero c)⟩
    · rintro k ⟨x, hh⟩ hk ⟨e1, e2, e3⟩
      dsimp only at e1 e2 e3 ⊢
      subst e1
      unfold fX1_clear_l53
      rw [gd_y (by clear e3 g2; omega)]
      refine w_f (by clear e3 g2; omega) ?_
      rw [gd_y (by clear e3 g2; omega), l7, Int.toNat_natCast, wp_lb, i1 (by clear e3 g2; omega), wp_some]
      refine ⟨rfl, e2.st rfl, fun c hc => ?_⟩
      show st hh (L + 7) k 0 (L + 7) c = 0
      by_cases q : c = k
      · rw [q]; exact st_self
      · rw [st_nk q]; exact e3 c (by clear e3 g2; omega)
    · rintro ⟨x, hh⟩ ⟨e1, e2, e3⟩
      dsimp only at e1 e2 e3 ⊢
      subst e1
      unfold fX1_clear_l53
      rw [gd_y (by clear e3 g2; omega)]
      exact w_t (by decide) (wp_some.mpr ⟨e2, e3⟩)
  rw [wp_bp]
  refine lp2.mono ?_
  rintro h20 ⟨k1, k2⟩
  have lp3 : wp (it_ (fun s : Int × Hp => fX1_clear_l77 (L : Int) s.1 s.2) FU (0, h20)) (fun hq => Same (fun a k => a = L + 7 ∧ k < 12) h20 hq ∧ ∀ c, c < 12 → hq (L + 7) c = -1) := by
    refine wp_for (fun k (s : Int × Hp) => s.1 = (k : Int) ∧ Same (fun a k => a = L + 7 ∧ k < 12) h20 s.2 ∧ ∀ c, c < k → s.2 (L + 7) c = -1) 12 ?_ ?_ (FU_big (by decide)) ⟨rfl, Same.rf, fun c hc => absurd hc (Nat.not_lt_zero c)⟩
    · rintro k ⟨x, hh⟩ hk ⟨e1, e2, e3⟩
      dsimp only at e1 e2 e3 ⊢
      subst e1
      unfold fX1_clear_l77
      refine w_f (by clear e3 g2 k2; omega) ?_
      rw [gd_y (by clear e3 g2 k2; omega), i0 (by clear e3 g2 k2; omega), gd_y (by clear e3 g2 k2; omega), l7, Int.toNat_natCast, wp_lb, i1 (by clear e3 g2 k2; omega), wp_some]
      refine ⟨rfl, e2.st ⟨rfl, hk⟩, fun c hc => ?_⟩
      show st hh (L + 7) k (-1) (L + 7) c = -1
      by_cases q : c = k
      · rw [q]; exact st_self
      · rw [st_nk q]; exact e3 c (by clear e3 g2 k2; omega)
    · rintro ⟨x, hh⟩ ⟨e1, e2, e3⟩
      dsimp only at e1 e2 e3 ⊢
      subst e1
      unfold fX1_clear_l77
      exact w_t (by decide) (wp_some.mpr ⟨e2, e3⟩)
  rw [wp_bp]
  refine lp3.mono ?_
  rintro h27 ⟨m1, m2⟩
  dsimp only
  rw [gd_y (by clear g2 k2 m2; omega), gd_y (by decide), l7, wp_lb, wp_some]
  dsimp only
  show Same (SLL L) h (st h27 (L + 7) 60 (-1)) ∧ (st h27 (L + 7) 60 (-1) L 0 = 8 ∧ st h27 (L + 7) 60 (-1) L 1 = 8 ∧ st h27 (L + 7) 60 (-1) L 3 = 0 ∧ st h27 (L + 7) 60 (-1) L 6 = 0 ∧ st h27 (L + 7) 60 (-1) L 8 = 0) ∧ (∀ c, c < 64 → st h27 (L + 7) 60 (-1) (L + 1) c = 0) ∧ ∀ k, k < 62 → k ≠ 60 → st h27 (L + 7) 60 (-1) (L + 7) k = if k < 12 then -1 else 0
  have kL : ∀ k, st h27 (L + 7) 60 (-1) L k = h6 L k := fun k => by rw [st_na (by clear g2 k2 m2; omega), m1 _ _ (by clear g2 k2 m2; omega), k1 _ _ (by clear g2 k2 m2; omega), g1 _ _ (by clear g2 k2 m2; omega)]
  refine ⟨?_, ?_, fun c hc => ?_, fun k hk h60 => ?_⟩
  · exact (((s6.tr (g1.mono (fun a k z => ⟨by clear g2 k2 m2; omega, by clear g2 k2 m2; omega⟩))).tr (k1.mono (fun a k z => ⟨by clear g2 k2 m2; omega, by clear g2 k2 m2; omega⟩))).tr (m1.mono (fun a k z => ⟨by clear g2 k2 m2; omega, by clear g2 k2 m2; omega⟩))).st ⟨by clear g2 k2 m2; omega, by clear g2 k2 m2; omega⟩
  · rw [kL, kL, kL, kL, kL]; exact f6
  · rw [st_na (by clear g2 k2 m2; omega), m1 _ _ (by clear g2 k2 m2; omega), k1 _ _ (by clear g2 k2 m2; omega)]; exact g2 c hc
  · rw [st_nk h60]
    by_cases q : k < 12
    · rw [if_pos q]; exact m2 k q
    · rw [if_neg q, m1 _ _ (fun z => q z.2)]; exact k2 k hk
theorem c_read {b : Nat → Int} {n L : Nat} {h : Hp} (T : TPk b n h) (hL : L = 1 ∨ L = 9) : wp (fX2_read (n : Int) (L : Int) h) (fun r => ∃ Y, RcT b n (X1T b n) Y ∧ ¬ liveT b n Y ∧ XOk n Y ∧ Same (fun a k => (a = 18 ∧ 1 ≤ k) ∨ a = 19 ∨ (L ≤ a ∧ a ≤ L + 7)) h r.2 ∧ FLc Y.1 r.2 ∧ CDl Y.2.2.1 Y.2.2.2 L r.2 ∧ r.2 (L + 7) 60 = (if Y.2.2.1 8 5 ≤ 0 then -1 else 0)) := by
  have n7 := T.1
  have emin : fJ9_min_7cf53 (n : Int) (((700 : Nat) : Int)) h = some (n : Int) := by
    unfold fJ9_min_7cf53
    by_cases q : (n : Int) < ((700 : Nat) : Int)
    · rw [if_neg (by omega)]
    · have e : n = 700 := by omega
      subst e
      rfl
  unfold fX2_read
  rw [emin, wp_bp, wp_some, wp_lb, wp_lb, wp_lb, wp_lb, wp_lb, wp_lb, wp_lb, wp_lb, wp_lb]
  generalize hE : st (st (st (st (st (st (st (st (st h 18 1 (n : Int)) 18 3 0) 18 6 0) 18 7 (-1)) 18 8 (L : Int)) 18 9 0) 18 10 0) 18 11 0) 18 14 0 = h11
  have k11 : ∀ a k, a ≠ 18 → h11 a k = h a k := fun a k z => by rw [← hE]; simp [st_at, z]
  have f11 : h11 18 1 = (n : Int) ∧ h11 18 3 = 0 ∧ h11 18 6 = 0 ∧ h11 18 8 = (L : Int) ∧ h11 18 9 = 0 ∧ h11 18 10 = 0 ∧ h11 18 11 = 0 ∧ h11 18 14 = 0 := by rw [← hE]; simp [st_at]
  have s11 : Same (fun a k => (a = 18 ∧ 1 ≤ k) ∨ a = 19 ∨ (L ≤ a ∧ a ≤ L + 7)) h h11 := fun a k z => by
    by_cases q : a = 18
    · subst q
      have k0 : k = 0 := by omega
      subst k0
      rw [← hE]; simp [st_at]
    · exact k11 a k q
  clear hE
  obtain ⟨x1, x3, x6, x8, x9, x10, x11, x14⟩ := f11
  rw [gd_y (by rw [x8]; clear x1 x3 x6 x8 x9 x10 x11 x14; omega), x8, wp_bd]
  refine (c_clear hL).mono ?_
  rintro ⟨v, h15⟩ ⟨g1, ⟨g2, g3, g4, g5, g6⟩, g7, g8⟩
  dsimp only at g1 g2 g3 g4 g5 g6 g7 g8 ⊢
  have k15 : ∀ k, h15 18 k = h11 18 k := fun k => g1 _ _ (by unfold SLL; clear x1 x3 x6 x8 x9 x10 x11 x14 g2 g3 g4 g5 g6 g7 g8; omega)
  have s15 : Same (fun a k => (a = 18 ∧ 1 ≤ k) ∨ a = 19 ∨ (L ≤ a ∧ a ≤ L + 7)) h h15 := s11.tr (g1.mono (fun a k z => Or.inr (Or.inr z)))
  have T15 : TPk b n h15 := T.same (fun k => s15 _ _ (by clear x1 x3 x6 x8 x9 x10 x11 x14 g2 g3 g4 g5 g6 g7 g8; omega))
  have D15 : CDl A00 cd00 L h15 := by
    refine ⟨by rw [k15]; exact x8, ⟨g2, g3, by rw [k15]; exact x9, g4, g5, g6, by rw [k15]; exact x10, by rw [k15]; exact x11⟩, g7, fun k h1 h2 => ?_, fun i hi => absurd hi (by show ¬ ((i : Int) < 0); clear x1 x3 x6 x8 x9 x10 x11 x14 g2 g3 g4 g5 g6 g7 g8; omega), fun i hi => absurd hi (by show ¬ ((i : Int) < 0); clear x1 x3 x6 x8 x9 x10 x11 x14 g2 g3 g4 g5 g6 g7 g8; omega), fun i hi => absurd hi (by show ¬ ((i : Int) < 0); clear x1 x3 x6 x8 x9 x10 x11 x14 g2 g3 g4 g5 g6 g7 g8; omega), ?_⟩
    · rw [g8 k h1 h2]
      rfl
    · rw [k15, x14, esum00]
      rfl
  rw [wp_bd]
  refine (c_take (p := 0) T15 (by rw [k15]; exact x1) (by rw [k15]; exact x3) (Nat.zero_le _)).mono ?_
  rintro ⟨v2, h18⟩ ⟨m1, m2⟩
  dsimp only at m1 m2 ⊢
  have s18 : Same (fun a k => (a = 18 ∧ 1 ≤ k) ∨ a = 19 ∨ (L ≤ a ∧ a ≤ L + 7)) h h18 := s15.tr (m1.mono (fun a k z => Or.inl ⟨z.1, by have := z.2; clear x1 x3 x6 x8 x9 x10 x11 x14 g2 g3 g4 g5 g6 g7 g8; omega⟩))
  have T18 : TPk b n h18 := T.same (fun k => s18 _ _ (by clear x1 x3 x6 x8 x9 x10 x11 x14 g2 g3 g4 g5 g6 g7 g8; omega))
  have D18 : CDl A00 cd00 L h18 := D15.same hL (STk_27 m1)
  have F18 : FLc none h18 := by
    show h18 18 6 = 0
    rw [m1 _ _ (by unfold STk; clear x1 x3 x6 x8 x9 x10 x11 x14 g2 g3 g4 g5 g6 g7 g8; omega), k15]; exact x6
  have O1 := X1_ok (b := b) (n := n)
  clear x1 x3 x6 x8 x9 x10 x11 x14 g2 g3 g4 g5 g6 g7 g8 k15 D15
  have l7 : ((L : Int) + 7).toNat = L + 7 := by omega
  have ldS : ∀ {h1 h2 : Hp}, Same (SLd L) h1 h2 → Same (fun a k => (a = 18 ∧ 1 ≤ k) ∨ a = 19 ∨ (L ≤ a ∧ a ≤ L + 7)) h1 h2 := fun s => s.mono (fun a k z => by unfold SLd at z; omega)
  -- the end
  have fin : ∀ (hs : Hp), Same (SLd L) h18 hs → CTk b n (X1T b n).2.1 hs → FLc (X1T b n).1 hs → CDl (X1T b n).2.2.1 (X1T b n).2.2.2 L hs → wp (bp_ (it_ (fun s : Int × Hp => fX2_read_l79 s.1 s.2) FU (0, hs)) (fun e29 => (fun h30 => fX2_read_j111 h30) e29)) (fun r => ∃ Y, RcT b n (X1T b n) Y ∧ ¬ liveT b n Y ∧ XOk n Y ∧ Same (fun a k => (a = 18 ∧ 1 ≤ k) ∨ a = 19 ∨ (L ≤ a ∧ a ≤ L + 7)) h r.2 ∧ FLc Y.1 r.2 ∧ CDl Y.2.2.1 Y.2.2.2 L r.2 ∧ r.2 (L + 7) 60 = (if Y.2.2.1 8 5 ≤ 0 then -1 else 0)) := by
    intro hs a1 a2 a3 a4
    rw [wp_bp]
    refine (c_textL T18 hL a1 O1 a2 a3 a4).mono ?_
    rintro h30 ⟨Y, c1, c2, c3, c4, c5, c6⟩
    dsimp only
    unfold fX2_read_j111
    have e6 := c6.2.1.2.2.2.2.2.1
    have e8 := c6.1
    rw [gd_y (by rw [e8]; clear e6 e8; omega), e8, Int.toNat_natCast, e6]
    have put : ∀ z : Int, z = (if Y.2.2.1 8 5 ≤ 0 then -1 else 0) → wp (fX2_read_j135 z 60 (L : Int) h30) (fun r => ∃ Y, RcT b n (X1T b n) Y ∧ ¬ liveT b n Y ∧ XOk n Y ∧ Same (fun a k => (a = 18 ∧ 1 ≤ k) ∨ a = 19 ∨ (L ≤ a ∧ a ≤ L + 7)) h r.2 ∧ FLc Y.1 r.2 ∧ CDl Y.2.2.1 Y.2.2.2 L r.2 ∧ r.2 (L + 7) 60 = (if Y.2.2.1 8 5 ≤ 0 then -1 else 0)) := by
      intro z hz
      unfold fX2_read_j135
      rw [gd_y (by clear e6 e8 hz; omega), gd_y (by decide), l7, wp_lb, wp_some]
      dsimp only
      show ∃ Y, RcT b n (X1T b n) Y ∧ ¬ liveT b n Y ∧ XOk n Y ∧ Same (fun a k => (a = 18 ∧ 1 ≤ k) ∨ a = 19 ∨ (L ≤ a ∧ a ≤ L + 7)) h (st h30 (L + 7) 60 z) ∧ FLc Y.1 (st h30 (L + 7) 60 z) ∧ CDl Y.2.2.1 Y.2.2.2 L (st h30 (L + 7) 60 z) ∧ st h30 (L + 7) 60 z (L + 7) 60 = (if Y.2.2.1 8 5 ≤ 0 then -1 else 0)
      refine ⟨Y, c1, c2, c3, (s18.tr (ldS c4)).st (Or.inr (Or.inr ⟨by clear e6 e8 hz; omega, by clear e6 e8 hz; omega⟩)), c5.same (by rw [st_na (by clear e6 e8 hz; omega)]) (by rw [st_na (by clear e6 e8 hz; omega)]), ?_, by rw [st_self]; exact hz⟩
      obtain ⟨d1, ⟨f1, f2, f3, f4, f5, f6, f7, f8⟩, d3, d4, d5, d6, d7, d8⟩ := c6
      have kk : ∀ a k, ¬ (a = L + 7 ∧ k = 60) → st h30 (L + 7) 60 z a k = h30 a k := fun a k w => if_neg w
      refine ⟨by rw [kk _ _ (by clear e6 e8 hz; omega)]; exact d1, ⟨by rw [kk _ _ (by clear e6 e8 hz; omega)]; exact f1, by rw [kk _ _ (by clear e6 e8 hz; omega)]; exact f2, by rw [kk _ _ (by clear e6 e8 hz; omega)]; exact f3, by rw [kk _ _ (by clear e6 e8 hz; omega)]; exact f4, by rw [kk _ _ (by clear e6 e8 hz; omega)]; exact f5, by rw [kk _ _ (by clear e6 e8 hz; omega)]; exact f6, by rw [kk _ _ (by clear e6 e8 hz; omega)]; exact f7, by rw [kk _ _ (by clear e6 e8 hz; omega)]; exact f8⟩, fun c hc => by rw [kk _ _ (by clear e6 e8 hz; omega)]; exact d3 c hc, fun k h1 h2 => by rw [kk _ _ (fun w => h2 w.2)]; exact d4 k h1 h2, fun i hi => ⟨by rw [kk _ _ (by clear e6 e8 hz; omega)]; exact (d5 i hi).1, by rw [kk _ _ (by clear e6 e8 hz; omega)]; exact (d5 i hi).2⟩, fun i hi => by rw [kk _ _ (by clear e6 e8 hz; omega)]; exact d6 i hi, fun l hl => ⟨by rw [kk _ _ (by clear e6 e8 hz; omega)]; exact (d7 l hl).1, fun j hj => by rw [kk _ _ (by clear e6 e8 hz; omega)]; exact (d7 l hl).2 j hj⟩, by rw [kk _ _ (by clear e6 e8 hz; omega)]; exact d8⟩
    by_cases q : Y.2.2.1 8 5 ≤ 0
    · exact w_t q (put (-1) (by rw [if_pos q]))
    · exact w_f q (put 0 (by rw [if_neg q]))
  rw [c_kw (k := 10) T18 m2 (Nat.zero_le _) (by decide) (by decide), wp_bp, wp_some]
  by_cases q : kwN b n 0 = ((10 : Nat) : Int)
  · rw [if_pos q]
    have q' : kwN b n 0 = 10 := q
    have eX : X1T b n = ((szS b n A00 0).1, (szS b n A00 0).2.1, (szS b n A00 0).2.2, cd00) := if_pos q'
    refine w_f (by decide) ?_
    rw [wp_bd]
    refine (c_size T18 m2 F18 D18 hL (Nat.zero_le _)).mono ?_
    rintro ⟨v3, h38⟩ ⟨c1, c2, c3, c4⟩
    exact fin h38 c1 (by rw [eX]; exact c3) (by rw [eX]; exact c2) (by rw [eX]; exact c4)
  · rw [if_neg q]
    have q' : ¬ kwN b n 0 = 10 := q
    have eX : X1T b n = (none, 0, A00, cd00) := if_neg q'
    exact w_t rfl (fin h18 Same.rf (by rw [eX]; exact m2) (by rw [eX]; exact F18) (by rw [eX]; exact D18))
