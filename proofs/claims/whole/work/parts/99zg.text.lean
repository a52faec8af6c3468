/-! pure part: what a line leaves -/
theorem OutL_ok {b : Nat → Int} {n base p1 : Nat} {S : LwS} (h : OutL b n (none, 0, p1, 0, 0, [], []) S) (hp : p1 ≤ n) (hb : base ≤ p1) : p1 ≤ S.2.2.1 ∧ S.2.2.1 ≤ n ∧ base + S.2.2.2.2.2.2.length ≤ S.2.2.1 ∧ (S.1 = none → wfC S.2.2.2.2.2.2 0) := by
  obtain ⟨⟨k, e, hj⟩, nl⟩ := h
  have LI0 : LIw (none, 0, p1, 0, 0, [], []) := ⟨trivial, rfl, Nat.zero_le _, fun z => absurd rfl z, fun _ => rfl, fun z => absurd z (by simp), fun z => absurd z (by simp), fun _ => rfl, fun z => absurd z (by simp), rfl, by simp⟩
  have key : ∀ j, j ≤ k → p1 ≤ (lawN b n (none, 0, p1, 0, 0, [], []) j).2.2.1 ∧ (lawN b n (none, 0, p1, 0, 0, [], []) j).2.2.1 ≤ n ∧ base + (lawN b n (none, 0, p1, 0, 0, [], []) j).2.2.2.2.2.2.length + (lawN b n (none, 0, p1, 0, 0, [], []) j).2.2.2.2.2.1.length ≤ (lawN b n (none, 0, p1, 0, 0, [], []) j).2.2.1 ∧ (liveL (lawN b n (none, 0, p1, 0, 0, [], []) j) → LIw (lawN b n (none, 0, p1, 0, 0, [], []) j)) ∧ (¬ liveL (lawN b n (none, 0, p1, 0, 0, [], []) j) → (lawN b n (none, 0, p1, 0, 0, [], []) j).1 = none → wfC (lawN b n (none, 0, p1, 0, 0, [], []) j).2.2.2.2.2.2 0) := by
    intro j
    induction j with
    | zero => intro _; exact ⟨Nat.le_refl _, hp, hb, fun _ => LI0, fun z => absurd ⟨rfl, by simp [lawN]⟩ z⟩
    | succ j ih =>
      intro hjk
      obtain ⟨i1', i2', i3', i4', -⟩ := ih (by omega)
      have lv := hj j (by omega)
      have es : lawN b n (none, 0, p1, 0, 0, [], []) (j + 1) = lawStep b n (lawN b n (none, 0, p1, 0, 0, [], []) j) := rfl
      rw [es]
      generalize lawN b n (none, 0, p1, 0, 0, [], []) j = X at *
      have hI := i4' lv
      obtain ⟨z1, z2, z3⟩ := law_sz (b := b) hI lv i2' i3'
      obtain ⟨y1, y2, y3, y4⟩ := law_LI (b := b) (n := n) hI lv
      have rr := tk_rg (b := b) i2'
      have ep : (lawStep b n X).2.2.1 = tkE b n X.2.2.1 := rfl
      refine ⟨by rw [ep]; omega, z2, z1, y1, fun w1 w2 => ?_⟩
      by_cases q : (lawStep b n X).2.1 = 4
      · exact (y2 w2 q).2.1
      · exact absurd ⟨w2, q⟩ w1
  have := key k (Nat.le_refl _)
  rw [e] at this
  obtain ⟨a1, a2, a3, a4, a5⟩ := this
  exact ⟨a1, a2, by omega, a5 nl⟩
abbrev TxS : Type := Flw × Nat × Hp × (Nat → List Int)
def lnS (b : Nat → Int) (n : Nat) (A : Hp) (p : Nat) : Flw × Nat × Hp :=
  if kwN b n p = 2 then hiS b n A p
  else if kwN b n p = 11 then (if A 8 2 < 12 then trS b n A p else (some (2, tkS b n p), p, A))
  else if kwN b n p = 7 ∨ kwN b n p = 8 ∨ kwN b n p = 9 then (if A 8 3 < 6 then hoS b n (kwN b n p - 7) A p else (some (2, tkS b n p), p, A))
  else if kwN b n p = 12 then (if A 8 4 ≤ 0 then foS b n A p else (some (5, tkS b n p), p, A))
  else if kwN b n p = 13 then (some (2, tkS b n p), p, A) else (some (1, tkS b n p), p, A)
def LnStep (b : Nat → Int) (n : Nat) (X Y : TxS) : Prop :=
  (kwN b n X.2.1 = 13 ∧ X.2.2.1 8 5 < 4 ∧ ∃ S : LwS, OutL b n (none, 0, tkE b n X.2.1, 0, 0, [], []) S ∧ Y = (S.1, S.2.2.1, st X.2.2.1 8 5 (X.2.2.1 8 5 + 1), updL X.2.2.2 (X.2.2.1 8 5).toNat S.2.2.2.2.2.2)) ∨ (¬ (kwN b n X.2.1 = 13 ∧ X.2.2.1 8 5 < 4) ∧ Y = ((lnS b n X.2.2.1 X.2.1).1, (lnS b n X.2.2.1 X.2.1).2.1, (lnS b n X.2.2.1 X.2.1).2.2, X.2.2.2))
theorem LnStep_det {b : Nat → Int} {n : Nat} {X Y Z : TxS} (h1 : LnStep b n X Y) (h2 : LnStep b n X Z) : Y = Z := by
  rcases h1 with ⟨a1, a2, S, a3, a4⟩ | ⟨a1, a2⟩
  · rcases h2 with ⟨-, -, S', c3, c4⟩ | ⟨c1, -⟩
    · rw [a4, c4, OutL_det a3 c3]
    · exact absurd ⟨a1, a2⟩ c1
  · rcases h2 with ⟨c1, c2, -⟩ | ⟨-, c2⟩
    · exact absurd ⟨c1, c2⟩ a1
    · rw [a2, c2]
def liveT (b : Nat → Int) (n : Nat) (X : TxS) : Prop := X.1 = none ∧ tkK b n X.2.1 ≠ 0
def RcT (b : Nat → Int) (n : Nat) (X Y : TxS) : Prop := ∃ (k : Nat) (s : Nat → TxS), s 0 = X ∧ s k = Y ∧ ∀ j, j < k → liveT b n (s j) ∧ LnStep b n (s j) (s (j + 1))
theorem RcT_0 {b : Nat → Int} {n : Nat} {X : TxS} : RcT b n X X := ⟨0, fun _ => X, rfl, rfl, fun j hj => absurd hj (Nat.not_lt_zero j)⟩
theorem RcT_s {b : Nat → Int} {n : Nat} {X Y Z : TxS} (h : RcT b n X Y) (l : liveT b n Y) (st : LnStep b n Y Z) : RcT b n X Z := by
  obtain ⟨k, s, e1, e2, hs⟩ := h
  refine ⟨k + 1, fun j => if j ≤ k then s j else Z, by simpa using e1, if_neg (by omega), fun j hj => ?_⟩
  by_cases q : j = k
  · subst q
    simp only [Nat.le_refl, if_true, Nat.not_succ_le_self, if_false]
    rw [e2]
    exact ⟨l, st⟩
  · have h1 : j ≤ k := by omega
    have h2 : j + 1 ≤ k := by omega
    simp only [h1, h2, if_true]
    exact hs j (by omega)
theorem OutT_det {b : Nat → Int} {n : Nat} {X Y Z : TxS} (h1 : RcT b n X Y) (n1 : ¬ liveT b n Y) (h2 : RcT b n X Z) (n2 : ¬ liveT b n Z) : Y = Z := by
  obtain ⟨k, s, e1, e2, hs⟩ := h1
  obtain ⟨m, t, f1, f2, ht⟩ := h2
  have key : ∀ j, j ≤ k → j ≤ m → s j = t j := by
    intro j
    induction j with
    | zero => intro _ _; rw [e1, f1]
    | succ j ih =>
      intro h3 h4
      have := ih (by omega) (by omega)
      have a := (hs j (by omega)).2
      have c := (ht j (by omega)).2
      rw [this] at a
      exact LnStep_det a c
  rcases Nat.lt_trichotomy k m with q | q | q
  · have := key k (Nat.le_refl _) (by omega)
    exact absurd (by rw [← e2, this]; exact (ht k q).1) n1
  · rw [← e2, ← f2, ← q]; exact key k (Nat.le_refl _) (by omega)
  · have := key m (by omega) (Nat.le_refl _)
    exact absurd (by rw [← f2, ← this]; exact (hs m q).1) n2
/-! what is read is well formed -/
def PWf (A : Hp) (cd : Nat → List Int) : Prop :=
  (∀ c, c < 64 → 0 ≤ A 0 c ∧ A 0 c ≤ 9) ∧
  (∀ t : Nat, (t : Int) < A 8 2 → (0 ≤ A 1 t ∧ A 1 t < A 8 0 * A 8 1) ∧ (1 ≤ A 1 (12 + t) ∧ A 1 (12 + t) ≤ 9) ∧ (1 ≤ A 1 (24 + t) ∧ A 1 (24 + t) ≤ 9)) ∧
  (∀ t : Nat, t < 12 → A 8 2 ≤ (t : Int) → A 1 t = -1) ∧
  (∀ i : Nat, (i : Int) < A 8 3 → (0 ≤ A 4 i ∧ A 4 i < A 8 0 * A 8 1) ∧ (0 ≤ A 1 (36 + i) ∧ A 1 (36 + i) ≤ 999)) ∧
  (∀ k, 42 ≤ k → k < 62 → k ≠ 60 → A 1 k = 0) ∧
  (∀ t u : Nat, (t : Int) < A 8 2 → (u : Int) < A 8 2 → A 1 t = A 1 u → t = u) ∧
  (∀ i j : Nat, (i : Int) < A 8 3 → (j : Int) < A 8 3 → A 4 i = A 4 j → i = j) ∧
  (∀ t i : Nat, (t : Int) < A 8 2 → (i : Int) < A 8 3 → A 1 t ≠ A 4 i) ∧
  (∀ t : Nat, (t : Int) < A 8 2 → bt (A 8 7) (A 1 t).toNat = true) ∧
  (∀ i : Nat, (i : Int) < A 8 3 → bt (A 8 7) (A 4 i).toNat = true) ∧
  (∀ i : Nat, (i : Int) < A 8 4 → 1 ≤ A 7 i ∧ A 7 i ≤ 9) ∧
  (∀ l : Nat, (l : Int) < A 8 5 → wfC (cd l) 0)
theorem cellS_none {b : Nat → Int} {n : Nat} {fl : Flw} {used w d : Int} {p : Nat} (q : (cellS b n fl used w d p).1 = none) : fl = none ∧ ¬ bt used (cellS b n fl used w d p).2.1.toNat = true := by
  constructor
  · by_cases z : fl = none
    · exact z
    · rw [cellS_f z] at q; exact q
  · intro z
    unfold cellS at q z
    dsimp only at q z
    rw [if_pos z] at q
    exact absurd q rfS_n
theorem eolS_none {b : Nat → Int} {n : Nat} {fl : Flw} {p : Nat} (q : eolS b n fl p = none) : fl = none := by
  by_cases z : fl = none
  · exact z
  · rw [eolS_f z] at q; exact q
theorem bt_add {m c : Int} {j : Nat} (hc : 0 ≤ c ∧ c < 64) : bt (l_or m (l_shl 1 c)) j = true ↔ bt m j = true ∨ c.toNat = j := by
  obtain ⟨k, rfl⟩ : ∃ k : Nat, c = (k : Int) := ⟨c.toNat, by omega⟩
  rw [bt_lor, bt_l1 (by omega), Bool.or_eq_true, Int.toNat_natCast]
  simp
theorem PWf_hi {b : Nat → Int} {n p : Nat} {A : Hp} {cd : Nat → List Int} (W : PWf A cd) : PWf (hiS b n A p).2.2 cd := by
  obtain ⟨w1, w2, w3, w4, w5, w6, w7, w8, w9, w10, w11, w12⟩ := W
  unfold hiS
  dsimp only
  generalize cellS b n none (A 8 6) (A 8 0) (A 8 1) (tkE b n p) = cs
  have rg := nmS_rg (b := b) (n := n) (fl := cs.1) (p := cs.2.2) (show (0 : Int) ≤ 9 by decide)
  generalize nmS b n cs.1 0 9 cs.2.2 = vs at *
  have a0 : ∀ c, st (st A 8 6 (l_or (A 8 6) (l_shl 1 cs.2.1))) 0 cs.2.1.toNat vs.2 0 c = if c = cs.2.1.toNat then vs.2 else A 0 c := fun c => by simp [st_at]
  have aN : ∀ a k, a ≠ 0 → ¬ (a = 8 ∧ k = 6) → st (st A 8 6 (l_or (A 8 6) (l_shl 1 cs.2.1))) 0 cs.2.1.toNat vs.2 a k = A a k := fun a k h1 h2 => by
    rw [st_na h1]
    exact if_neg h2
  refine ⟨fun c hc => ?_, ?_, ?_, ?_, ?_, ?_, ?_, ?_, ?_, ?_, ?_, ?_⟩
  · rw [a0 c]
    by_cases q : c = cs.2.1.toNat
    · rw [if_pos q]; exact rg
    · rw [if_neg q]; exact w1 c hc
  all_goals simp only [aN _ _ (show (8 : Nat) ≠ 0 by decide) (show ¬ ((8 : Nat) = 8 ∧ (0 : Nat) = 6) by decide), aN _ _ (show (8 : Nat) ≠ 0 by decide) (show ¬ ((8 : Nat) = 8 ∧ (1 : Nat) = 6) by decide), aN _ _ (show (8 : Nat) ≠ 0 by decide) (show ¬ ((8 : Nat) = 8 ∧ (2 : Nat) = 6) by decide), aN _ _ (show (8 : Nat) ≠ 0 by decide) (show ¬ ((8 : Nat) = 8 ∧ (3 : Nat) = 6) by decide), aN _ _ (show (8 : Nat) ≠ 0 by decide) (show ¬ ((8 : Nat) = 8 ∧ (4 : Nat) = 6) by decide), aN _ _ (show (8 : Nat) ≠ 0 by decide) (show ¬ ((8 : Nat) = 8 ∧ (5 : Nat) = 6) by decide), aN _ _ (show (8 : Nat) ≠ 0 by decide) (show ¬ ((8 : Nat) = 8 ∧ (7 : Nat) = 6) by decide), aN 1 _ (by decide) (fun z => absurd z.1 (by decide)), aN 4 _ (by decide) (fun z => absurd z.1 (by decide)), aN 7 _ (by decide) (fun z => absurd z.1 (by decide))]
  · exact w2
  · exact w3
  · exact w4
  · exact w5
  · exact w6
  · exact w7
  · exact w8
  · exact w9
  · exact w10
  · exact w11
  · exact w12
theorem nmS_n {b : Nat → Int} {n : Nat} {fl : Flw} {lo hi : Int} {p : Nat} (q : (nmS b n fl lo hi p).1 = none) : lo ≤ (nmS b n fl lo hi p).2 ∧ (nmS b n fl lo hi p).2 ≤ hi ∧ fl = none := by
  obtain ⟨a1, a2, a3, a4, a5⟩ := nmS_none q
  rw [a5]
  exact ⟨a3, a4, a1⟩
theorem PWf_tr {b : Nat → Int} {n p : Nat} {A : Hp} {cd : Nat → List Int} (W : PWf A cd) (B : PBd A) (ht : A 8 2 < 12) (q : (trS b n A p).1 = none) : PWf (trS b n A p).2.2 cd := by
  obtain ⟨w1, w2, w3, w4, w5, w6, w7, w8, w9, w10, w11, w12⟩ := W
  obtain ⟨nt, hnt⟩ : ∃ nt : Nat, A 8 2 = (nt : Int) := ⟨(A 8 2).toNat, by have := B.2.2.1; omega⟩
  have rg := cellS_rg (b := b) (n := n) (fl := none) (used := A 8 7) (p := tkE b n p) B.1 B.2.1
  have cn := cellS_none (b := b) (n := n) (fl := none) (used := A 8 7) (w := A 8 0) (d := A 8 1) (p := tkE b n p)
  have e0 := eolS_none q
  unfold trS at q ⊢
  dsimp only at e0 q ⊢
  have uu := nmS_n e0
  have vv := nmS_n uu.2.2
  have cc := (cn vv.2.2).2
  clear cn q e0
  generalize cellS b n none (A 8 7) (A 8 0) (A 8 1) (tkE b n p) = cs at *
  generalize nmS b n cs.1 1 9 cs.2.2 = vs at *
  generalize nmS b n vs.1 vs.2 9 (tkE b n cs.2.2) = us at *
  rw [hnt, Int.toNat_natCast]
  rw [hnt] at w2 w3 w6 w8 w9 ht
  have hn12 : nt < 12 := by omega
  generalize hA : st (st (st (st (st A 8 7 (l_or (A 8 7) (l_shl 1 cs.2.1))) 1 nt cs.2.1) 1 (12 + nt) vs.2) 1 (24 + nt) us.2) 8 2 ((nt : Int) + 1) = A'
  have a82 : A' 8 2 = (nt : Int) + 1 := by rw [← hA]; exact st_self
  have a87 : A' 8 7 = l_or (A 8 7) (l_shl 1 cs.2.1) := by rw [← hA]; simp [st_at]
  have a8 : ∀ j, j ≠ 7 → j ≠ 2 → A' 8 j = A 8 j := fun j h1 h2 => by rw [← hA]; simp [st_at, h1, h2]
  have a1n : A' 1 nt = cs.2.1 := by rw [← hA]; simp [st_at]
  have a1v : A' 1 (12 + nt) = vs.2 := by rw [← hA]; simp [st_at]
  have a1u : A' 1 (24 + nt) = us.2 := by rw [← hA]; simp [st_at]
  have a1 : ∀ j, j ≠ nt → j ≠ 12 + nt → j ≠ 24 + nt → A' 1 j = A 1 j := fun j h1 h2 h3 => by rw [← hA]; simp [st_at, h1, h2, h3]
  have aN : ∀ a j, a ≠ 8 → a ≠ 1 → A' a j = A a j := fun a j h1 h2 => by rw [← hA]; simp [st_at, h1, h2]
  clear hA
  have old : ∀ t : Nat, (t : Int) < (nt : Int) + 1 → t ≠ nt → (t : Int) < (nt : Int) ∧ A' 1 t = A 1 t ∧ A' 1 (12 + t) = A 1 (12 + t) ∧ A' 1 (24 + t) = A 1 (24 + t) := fun t h1 h2 => ⟨by omega, a1 _ (by omega) (by omega) (by omega), a1 _ (by omega) (by omega) (by omega), a1 _ (by omega) (by omega) (by omega)⟩
  unfold PWf
  rw [a82, a87, a8 0 (by decide) (by decide), a8 1 (by decide) (by decide), a8 3 (by decide) (by decide), a8 4 (by decide) (by decide), a8 5 (by decide) (by decide)]
  refine ⟨fun c hc => by rw [aN 0 c (by decide) (by decide)]; exact w1 c hc, fun t h1 => ?_, fun t h1 h2 => ?_, fun i h1 => ?_, fun k h1 h2 h3 => ?_, fun t u h1 h2 h3 => ?_, fun i j h1 h2 h3 => ?_, fun t i h1 h2 => ?_, fun t h1 => ?_, fun i h1 => ?_, fun i h1 => ?_, w12⟩
  · by_cases e : t = nt
    · subst e
      rw [a1n, a1v, a1u]
      refine ⟨⟨rg.1, rg.2.1⟩, ⟨vv.1, vv.2.1⟩, ⟨by omega, uu.2.1⟩⟩
    · obtain ⟨z1, z2, z3, z4⟩ := old t h1 e
      rw [z2, z3, z4]; exact w2 t z1
  · rw [a1 _ (by omega) (by omega) (by omega)]; exact w3 t h1 (by omega)
  · rw [aN 4 i (by decide) (by decide), a1 _ (by omega) (by omega) (by omega)]; exact w4 i h1
  · rw [a1 _ (by omega) (by omega) (by omega)]; exact w5 k h1 h2 h3
  · have fresh : ∀ u : Nat, (u : Int) < (nt : Int) → cs.2.1 ≠ A 1 u := fun u hu z => cc (by rw [z]; exact w9 u hu)
    by_cases e1 : t = nt
    · by_cases e2 : u = nt
      · rw [e1, e2]
      · obtain ⟨z1, z2, -⟩ := old u h2 e2
        rw [e1, a1n, z2] at h3
        exact absurd h3 (fresh u z1)
    · obtain ⟨z1, z2, -⟩ := old t h1 e1
      by_cases e2 : u = nt
      · rw [e2, a1n, z2] at h3
        exact absurd h3.symm (fresh t z1)
      · obtain ⟨y1, y2, -⟩ := old u h2 e2
        rw [z2, y2] at h3
        exact w6 t u z1 y1 h3
  · rw [aN 4 i (by decide) (by decide), aN 4 j (by decide) (by decide)] at h3
    exact w7 i j h1 h2 h3
  · rw [aN 4 i (by decide) (by decide)]
    by_cases e : t = nt
    · rw [e, a1n]
      exact fun z => cc (by rw [z]; exact w10 i h2)
    · obtain ⟨z1, z2, -⟩ := old t h1 e
      rw [z2]; exact w8 t i z1 h2
  · rw [bt_add ⟨rg.1, rg.2.2⟩]
    by_cases e : t = nt
    · rw [e, a1n]; exact Or.inr rfl
    · obtain ⟨z1, z2, -⟩ := old t h1 e
      rw [z2]; exact Or.inl (w9 t z1)
  · rw [aN 4 i (by decide) (by decide), bt_add ⟨rg.1, rg.2.2⟩]; exact Or.inl (w10 i h1)
  · rw [aN 7 i (by decide) (by decide)]; exact w11 i h1
theorem PWf_ho {b : Nat → Int} {n p : Nat} {kd : Int} {A : Hp} {cd : Nat → List Int} (W : PWf A cd) (B : PBd A) (ht : A 8 3 < 6) (q : (hoS b n kd A p).1 = none) : PWf (hoS b n kd A p).2.2 cd := by
  obtain ⟨w1, w2, w3, w4, w5, w6, w7, w8, w9, w10, w11, w12⟩ := W
  have h12 := B.2.2.1.2
  obtain ⟨nh, hnh⟩ : ∃ nh : Nat, A 8 3 = (nh : Int) := ⟨(A 8 3).toNat, by have := B.2.2.2.1; omega⟩
  have rg := cellS_rg (b := b) (n := n) (fl := none) (used := A 8 7) (p := tkE b n p) B.1 B.2.1
  have cn := cellS_none (b := b) (n := n) (fl := none) (used := A 8 7) (w := A 8 0) (d := A 8 1) (p := tkE b n p)
  have e0 := eolS_none q
  unfold hoS at q ⊢
  dsimp only at e0 q ⊢
  have vv := nmS_n e0
  have cc := (cn vv.2.2).2
  clear cn q e0
  generalize cellS b n none (A 8 7) (A 8 0) (A 8 1) (tkE b n p) = cs at *
  generalize nmS b n cs.1 0 999 cs.2.2 = vs at *
  rw [hnh, Int.toNat_natCast]
  rw [hnh] at w4 w7 w8 w10 ht
  have hn12 : nh < 6 := by omega
  generalize hA : st (st (st (st (st A 8 7 (l_or (A 8 7) (l_shl 1 cs.2.1))) 4 nh cs.2.1) 5 nh kd) 1 (36 + nh) vs.2) 8 3 ((nh : Int) + 1) = A'
  have a82 : A' 8 3 = (nh : Int) + 1 := by rw [← hA]; exact st_self
  have a87 : A' 8 7 = l_or (A 8 7) (l_shl 1 cs.2.1) := by rw [← hA]; simp [st_at]
  have a8 : ∀ j, j ≠ 7 → j ≠ 3 → A' 8 j = A 8 j := fun j h1 h2 => by rw [← hA]; simp [st_at, h1, h2]
  have a4n : A' 4 nh = cs.2.1 := by rw [← hA]; simp [st_at]
  have a1n : A' 1 (36 + nh) = vs.2 := by rw [← hA]; simp [st_at]
  have a1 : ∀ j, j ≠ 36 + nh → A' 1 j = A 1 j := fun j h1 => by rw [← hA]; simp [st_at, h1]
  have a4 : ∀ j, j ≠ nh → A' 4 j = A 4 j := fun j h1 => by rw [← hA]; simp [st_at, h1]
  have aN : ∀ a j, a ≠ 8 → a ≠ 1 → a ≠ 4 → a ≠ 5 → A' a j = A a j := fun a j h1 h2 h3 h4 => by rw [← hA]; simp [st_at, h1, h2, h3, h4]
  clear hA
  have old : ∀ t : Nat, (t : Int) < (nh : Int) + 1 → t ≠ nh → (t : Int) < (nh : Int) ∧ A' 4 t = A 4 t ∧ A' 1 (36 + t) = A 1 (36 + t) := fun t h1 h2 => ⟨by omega, a4 _ h2, a1 _ (by omega)⟩
  have t12 : ∀ t : Nat, (t : Int) < A 8 2 → t < 12 := fun t ht => by omega
  unfold PWf
  rw [a82, a87, a8 0 (by decide) (by decide), a8 1 (by decide) (by decide), a8 2 (by decide) (by decide), a8 4 (by decide) (by decide), a8 5 (by decide) (by decide)]
  refine ⟨fun c hc => by rw [aN 0 c (by decide) (by decide) (by decide) (by decide)]; exact w1 c hc, fun t h1 => ?_, fun t h1 h2 => ?_, fun i h1 => ?_, fun k h1 h2 h3 => ?_, fun t u h1 h2 h3 => ?_, fun i j h1 h2 h3 => ?_, fun t i h1 h2 => ?_, fun t h1 => ?_, fun i h1 => ?_, fun i h1 => ?_, w12⟩
  · have := t12 t h1
    rw [a1 _ (by omega), a1 _ (by omega), a1 _ (by omega)]; exact w2 t h1
  · rw [a1 _ (by omega)]; exact w3 t h1 h2
  · by_cases e : i = nh
    · subst e
      rw [a4n, a1n]
      exact ⟨⟨rg.1, rg.2.1⟩, ⟨vv.1, vv.2.1⟩⟩
    · obtain ⟨z1, z2, z3⟩ := old i h1 e
      rw [z2, z3]; exact w4 i z1
  · rw [a1 _ (by omega)]; exact w5 k h1 h2 h3
  · have := t12 t h1
    have := t12 u h2
    rw [a1 _ (by omega), a1 _ (by omega)] at h3
    exact w6 t u h1 h2 h3
  · have fresh : ∀ u : Nat, (u : Int) < (nh : Int) → cs.2.1 ≠ A 4 u := fun u hu z => cc (by rw [z]; exact w10 u hu)
    by_cases e1 : i = nh
    · by_cases e2 : j = nh
      · rw [e1, e2]
      · obtain ⟨z1, z2, -⟩ := old j h2 e2
        rw [e1, a4n, z2] at h3
        exact absurd h3 (fresh j z1)
    · obtain ⟨z1, z2, -⟩ := old i h1 e1
      by_cases e2 : j = nh
      · rw [e2, a4n, z2] at h3
        exact absurd h3.symm (fresh i z1)
      · obtain ⟨y1, y2, -⟩ := old j h2 e2
        rw [z2, y2] at h3
        exact w7 i j z1 y1 h3
  · have := t12 t h1
    rw [a1 _ (by omega)]
    by_cases e : i = nh
    · rw [e, a4n]
      exact fun z => cc (by rw [← z]; exact w9 t h1)
    · obtain ⟨z1, z2, -⟩ := old i h2 e
      rw [z2]; exact w8 t i h1 z1
  · have := t12 t h1
    rw [a1 _ (by omega), bt_add ⟨rg.1, rg.2.2⟩]; exact Or.inl (w9 t h1)
  · rw [bt_add ⟨rg.1, rg.2.2⟩]
    by_cases e : i = nh
    · rw [e, a4n]; exact Or.inr rfl
    · obtain ⟨z1, z2, -⟩ := old i h1 e
      rw [z2]; exact Or.inl (w10 i z1)
  · rw [aN 7 i (by decide) (by decide) (by decide) (by decide)]; exact w11 i h1
theorem PWf_fog1 {A : Hp} {cd : Nat → List Int} {i : Nat} {v : Int} (W : PWf A cd) (hi : A 8 4 = (i : Int)) (hv : 1 ≤ v ∧ v ≤ 9) : PWf (st (st A 7 i v) 8 4 ((i : Int) + 1)) cd := by
  obtain ⟨w1, w2, w3, w4, w5, w6, w7, w8, w9, w10, w11, w12⟩ := W
  generalize hA : st (st A 7 i v) 8 4 ((i : Int) + 1) = A'
  have a84 : A' 8 4 = (i : Int) + 1 := by rw [← hA]; exact st_self
  have a8 : ∀ j, j ≠ 4 → A' 8 j = A 8 j := fun j h1 => by rw [← hA]; simp [st_at, h1]
  have a7 : ∀ j, A' 7 j = if j = i then v else A 7 j := fun j => by rw [← hA]; simp [st_at]
  have aN : ∀ a j, a ≠ 8 → a ≠ 7 → A' a j = A a j := fun a j h1 h2 => by rw [← hA]; simp [st_at, h1, h2]
  clear hA
  unfold PWf
  rw [a84, a8 0 (by decide), a8 1 (by decide), a8 2 (by decide), a8 3 (by decide), a8 5 (by decide), a8 7 (by decide)]
  simp only [aN 0 _ (by decide) (by decide), aN 1 _ (by decide) (by decide), aN 4 _ (by decide) (by decide)]
  refine ⟨w1, w2, w3, w4, w5, w6, w7, w8, w9, w10, fun j hj => ?_, w12⟩
  rw [a7]
  by_cases e : j = i
  · rw [if_pos e]; exact hv
  · rw [if_neg e]; exact w11 j (by omega)
