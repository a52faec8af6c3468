/-! pure part: lines on both sides -/
theorem tkE_ge {b : Nat → Int} {n p : Nat} (h : p ≤ n) : p ≤ tkE b n p := by
  have := tk_rg (b := b) h
  omega
theorem foL_ok {b : Nat → Int} {n : Nat} {cd : Nat → List Int} : ∀ (k : Nat) (fl : Flw) (p : Nat) (A : Hp), k ≤ 7 → A 8 4 = ((8 - k : Nat) : Int) → PBd A → p ≤ n → PBd (foL b n k fl p A).2.2 ∧ p ≤ (foL b n k fl p A).2.1 ∧ (foL b n k fl p A).2.1 ≤ n ∧ (foL b n k fl p A).2.2 8 5 = A 8 5 ∧ ((foL b n k fl p A).1 = none → PWf A cd → PWf (foL b n k fl p A).2.2 cd)
  | 0, fl, p, A, hk, ha, B, hp => by
    rw [foL_z]
    by_cases q : tkK b n p = 2
    · rw [if_pos q]; exact ⟨B, Nat.le_refl _, hp, rfl, fun _ w => w⟩
    · rw [if_neg q]; exact ⟨B, tkE_ge hp, tkE_le hp, rfl, fun _ w => w⟩
  | k + 1, fl, p, A, hk, ha, B, hp => by
    rw [foL_s]
    by_cases q : tkK b n p = 2
    · rw [if_pos q]
      have e7 : 8 - (k + 1) = 7 - k := by omega
      rw [e7] at ha
      have B' : PBd (st (st A 7 (7 - k) (nmS b n fl 1 9 p).2) 8 4 (((7 - k : Nat) : Int) + 1)) := by
        obtain ⟨b1, b2, b3, b4, b5, b6⟩ := B
        refine ⟨by simpa [st_at] using b1, by simpa [st_at] using b2, by simpa [st_at] using b3, by simpa [st_at] using b4, ?_, by simpa [st_at] using b6⟩
        rw [st_self]
        omega
      obtain ⟨c1, c2, c3, c4, c5⟩ := foL_ok (b := b) (n := n) (cd := cd) k (nmS b n fl 1 9 p).1 (tkE b n p) (st (st A 7 (7 - k) (nmS b n fl 1 9 p).2) 8 4 (((7 - k : Nat) : Int) + 1)) (by omega) (by rw [st_self]; omega) B' (tkE_le hp)
      refine ⟨c1, Nat.le_trans (tkE_ge hp) c2, c3, ?_, fun z w => c5 z ?_⟩
      · rw [c4]; simp [st_at]
      · by_cases y : (nmS b n fl 1 9 p).1 = none
        · have := nmS_n y
          exact PWf_fog1 w ha ⟨this.1, this.2.1⟩
        · rw [foL_f k _ _ _ y] at z
          exact absurd z y
    · rw [if_neg q]; exact ⟨B, tkE_ge hp, tkE_le hp, rfl, fun _ w => w⟩
theorem foS_ok {b : Nat → Int} {n p : Nat} {A : Hp} {cd : Nat → List Int} (B : PBd A) (h0 : A 8 4 = 0) (hp : p ≤ n) : PBd (foS b n A p).2.2 ∧ tkE b n p ≤ (foS b n A p).2.1 ∧ (foS b n A p).2.1 ≤ n ∧ (foS b n A p).2.2 8 5 = A 8 5 ∧ ((foS b n A p).1 = none → PWf A cd → PWf (foS b n A p).2.2 cd) := by
  have hp1 := tkE_le (b := b) hp
  unfold foS
  have B' : PBd (st (st A 7 0 (nmS b n none 1 9 (tkE b n p)).2) 8 4 1) := by
    obtain ⟨b1, b2, b3, b4, b5, b6⟩ := B
    exact ⟨by simpa [st_at] using b1, by simpa [st_at] using b2, by simpa [st_at] using b3, by simpa [st_at] using b4, by rw [st_self]; decide, by simpa [st_at] using b6⟩
  obtain ⟨c1, c2, c3, c4, c5⟩ := foL_ok (b := b) (n := n) (cd := cd) 7 (nmS b n none 1 9 (tkE b n p)).1 (tkE b n (tkE b n p)) (st (st A 7 0 (nmS b n none 1 9 (tkE b n p)).2) 8 4 1) (Nat.le_refl _) (by rw [st_self]; rfl) B' (tkE_le hp1)
  refine ⟨c1, Nat.le_trans (tkE_ge hp1) c2, c3, ?_, fun z w => c5 z ?_⟩
  · rw [c4]; simp [st_at]
  · by_cases y : (nmS b n none 1 9 (tkE b n p)).1 = none
    · have := nmS_n y
      exact PWf_fog1 (i := 0) w h0 ⟨this.1, this.2.1⟩
    · rw [foL_f 7 _ _ _ y] at z
      exact absurd z y
theorem lnS_ok {b : Nat → Int} {n p : Nat} {A : Hp} {cd : Nat → List Int} (B : PBd A) (hp : p ≤ n) (k0 : tkK b n p ≠ 0) : PBd (lnS b n A p).2.2 ∧ p ≤ (lnS b n A p).2.1 ∧ (lnS b n A p).2.1 ≤ n ∧ (lnS b n A p).2.2 8 5 = A 8 5 ∧ ((lnS b n A p).1 = none → p + 1 ≤ (lnS b n A p).2.1 ∧ (PWf A cd → PWf (lnS b n A p).2.2 cd)) := by
  have rr := tk_rg (b := b) hp
  have p1 : p + 1 ≤ tkE b n p := by have := rr.2.2.2.1 k0; omega
  have hp1 := tkE_le (b := b) hp
  have no : ∀ v : Int, PBd ((some (v, tkS b n p), p, A) : Flw × Nat × Hp).2.2 ∧ p ≤ ((some (v, tkS b n p), p, A) : Flw × Nat × Hp).2.1 ∧ ((some (v, tkS b n p), p, A) : Flw × Nat × Hp).2.1 ≤ n ∧ ((some (v, tkS b n p), p, A) : Flw × Nat × Hp).2.2 8 5 = A 8 5 ∧ (((some (v, tkS b n p), p, A) : Flw × Nat × Hp).1 = none → p + 1 ≤ ((some (v, tkS b n p), p, A) : Flw × Nat × Hp).2.1 ∧ (PWf A cd → PWf ((some (v, tkS b n p), p, A) : Flw × Nat × Hp).2.2 cd)) := fun v => ⟨B, Nat.le_refl _, hp, rfl, fun z => absurd z (by simp)⟩
  have c2 : ∀ (used : Int), (cellS b n none used (A 8 0) (A 8 1) (tkE b n p)).2.2 = tkE b n (tkE b n (tkE b n p)) := fun _ => rfl
  have g2 := tkE_ge (b := b) hp1
  have l2 := tkE_le (b := b) hp1
  have g3 := tkE_ge (b := b) l2
  have l3 := tkE_le (b := b) l2
  have g4 := tkE_ge (b := b) l3
  have l4 := tkE_le (b := b) l3
  have g5 := tkE_ge (b := b) l4
  have l5 := tkE_le (b := b) l4
  have g6 := tkE_ge (b := b) l5
  have l6 := tkE_le (b := b) l5
  obtain ⟨b1, b2, b3, b4, b5, b6⟩ := B
  unfold lnS
  by_cases q1 : kwN b n p = 2
  · rw [if_pos q1]
    have ep : (hiS b n A p).2.1 = tkE b n (tkE b n (tkE b n (tkE b n (tkE b n p)))) := rfl
    refine ⟨?_, by rw [ep]; omega, by rw [ep]; exact l5, by unfold hiS; simp [st_at], fun _ => ⟨by rw [ep]; omega, PWf_hi⟩⟩
    unfold hiS
    exact ⟨by simpa [st_at] using b1, by simpa [st_at] using b2, by simpa [st_at] using b3, by simpa [st_at] using b4, by simpa [st_at] using b5, by simpa [st_at] using b6⟩
  rw [if_neg q1]
  by_cases q2 : kwN b n p = 11
  · rw [if_pos q2]
    by_cases t : A 8 2 < 12
    · rw [if_pos t]
      have ep : (trS b n A p).2.1 = tkE b n (tkE b n (tkE b n (tkE b n (tkE b n (tkE b n p))))) := rfl
      refine ⟨?_, by rw [ep]; omega, by rw [ep]; exact l6, by unfold trS; simp [st_at], fun z => ⟨by rw [ep]; omega, fun w => PWf_tr w ⟨b1, b2, b3, b4, b5, b6⟩ t z⟩⟩
      unfold trS
      refine ⟨by simpa [st_at] using b1, by simpa [st_at] using b2, ?_, by simpa [st_at] using b4, by simpa [st_at] using b5, by simpa [st_at] using b6⟩
      dsimp only
      rw [st_self]
      omega
    · rw [if_neg t]; exact no 2
  rw [if_neg q2]
  by_cases q3 : kwN b n p = 7 ∨ kwN b n p = 8 ∨ kwN b n p = 9
  · rw [if_pos q3]
    by_cases t : A 8 3 < 6
    · rw [if_pos t]
      have ep : (hoS b n (kwN b n p - 7) A p).2.1 = tkE b n (tkE b n (tkE b n (tkE b n (tkE b n p)))) := rfl
      refine ⟨?_, by rw [ep]; omega, by rw [ep]; exact l5, by unfold hoS; simp [st_at], fun z => ⟨by rw [ep]; omega, fun w => PWf_ho w ⟨b1, b2, b3, b4, b5, b6⟩ t z⟩⟩
      unfold hoS
      refine ⟨by simpa [st_at] using b1, by simpa [st_at] using b2, by simpa [st_at] using b3, ?_, by simpa [st_at] using b5, by simpa [st_at] using b6⟩
      dsimp only
      rw [st_self]
      omega
    · rw [if_neg t]; exact no 2
  rw [if_neg q3]
  by_cases q4 : kwN b n p = 12
  · rw [if_pos q4]
    by_cases t : A 8 4 ≤ 0
    · rw [if_pos t]
      obtain ⟨c1, c2, c3, c4, c5⟩ := foS_ok (b := b) (n := n) (p := p) (cd := cd) ⟨b1, b2, b3, b4, b5, b6⟩ (by omega) hp
      exact ⟨c1, by omega, c3, c4, fun z => ⟨by omega, c5 z⟩⟩
    · rw [if_neg t]; exact no 5
  rw [if_neg q4]
  by_cases q5 : kwN b n p = 13
  · rw [if_pos q5]; exact no 2
  · rw [if_neg q5]; exact no 1
/-- what holds of a text read so far -/
def XOk (n : Nat) (X : TxS) : Prop := PBd X.2.2.1 ∧ X.2.1 ≤ n ∧ esum X.2.2.2 (X.2.2.1 8 5).toNat ≤ X.2.1 ∧ (X.1 = none → PWf X.2.2.1 X.2.2.2)
theorem LnStep_ok {b : Nat → Int} {n : Nat} {X Y : TxS} (h : LnStep b n X Y) (l : liveT b n X) (O : XOk n X) : XOk n Y ∧ (Y.1 = none → X.2.1 + 1 ≤ Y.2.1) := by
  obtain ⟨o1, o2, o3, o4⟩ := O
  have W := o4 l.1
  have rr := tk_rg (b := b) o2
  have p1 : X.2.1 + 1 ≤ tkE b n X.2.1 := by have := rr.2.2.2.1 l.2; omega
  rcases h with ⟨a1, a2, S, a3, a4⟩ | ⟨a1, a2⟩
  · obtain ⟨nl, hnl⟩ : ∃ nl : Nat, X.2.2.1 8 5 = (nl : Int) := ⟨(X.2.2.1 8 5).toNat, by have := o1.2.2.2.2.2; omega⟩
    rw [hnl, Int.toNat_natCast] at a4 o3
    obtain ⟨z1, z2, z3, z4⟩ := OutL_ok (base := esum X.2.2.2 nl) a3 (tkE_le o2) (by omega)
    subst a4
    obtain ⟨b1, b2, b3, b4, b5, b6⟩ := o1
    have e85 : st X.2.2.1 8 5 ((nl : Int) + 1) 8 5 = (nl : Int) + 1 := st_self
    refine ⟨⟨⟨by simpa [st_at] using b1, by simpa [st_at] using b2, by simpa [st_at] using b3, by simpa [st_at] using b4, by simpa [st_at] using b5, ?_⟩, z2, ?_, fun z => ?_⟩, fun _ => ?_⟩
    · dsimp only
      rw [e85]
      rw [hnl] at a2
      omega
    · dsimp only
      rw [e85]
      have e1 : ((nl : Int) + 1).toNat = nl + 1 := by omega
      rw [e1]
      show esum (updL X.2.2.2 nl S.2.2.2.2.2.2) nl + (updL X.2.2.2 nl S.2.2.2.2.2.2 nl).length ≤ _
      have eu : updL X.2.2.2 nl S.2.2.2.2.2.2 nl = S.2.2.2.2.2.2 := if_pos rfl
      rw [esum_upd nl (Nat.le_refl _), eu]
      exact z3
    · dsimp only at z ⊢
      obtain ⟨w1, w2, w3, w4, w5, w6, w7, w8, w9, w10, w11, w12⟩ := W
      have a8 : ∀ j, j ≠ 5 → st X.2.2.1 8 5 ((nl : Int) + 1) 8 j = X.2.2.1 8 j := fun j h1 => by rw [st_nk h1]
      have aN : ∀ a j, a ≠ 8 → st X.2.2.1 8 5 ((nl : Int) + 1) a j = X.2.2.1 a j := fun a j h1 => by rw [st_na h1]
      unfold PWf
      rw [e85, a8 0 (by decide), a8 1 (by decide), a8 2 (by decide), a8 3 (by decide), a8 4 (by decide), a8 7 (by decide)]
      simp only [aN 0 _ (by decide), aN 1 _ (by decide), aN 4 _ (by decide), aN 7 _ (by decide)]
      refine ⟨w1, w2, w3, w4, w5, w6, w7, w8, w9, w10, w11, fun l hl => ?_⟩
      by_cases e : l = nl
      · have eu : updL X.2.2.2 nl S.2.2.2.2.2.2 l = S.2.2.2.2.2.2 := if_pos e
        rw [eu]; exact z4 z
      · have eu : updL X.2.2.2 nl S.2.2.2.2.2.2 l = X.2.2.2 l := if_neg e
        rw [eu]; exact w12 l (by rw [hnl]; omega)
    · dsimp only
      omega
  · obtain ⟨c1, c2, c3, c4, c5⟩ := lnS_ok (b := b) (n := n) (cd := X.2.2.2) o1 o2 l.2
    subst a2
    refine ⟨⟨c1, c3, ?_, fun z => (c5 z).2 W⟩, fun z => (c5 z).1⟩
    dsimp only
    rw [c4]
    omega
/-! a line, the class -/
theorem c_line {b : Nat → Int} {n L : Nat} {X : TxS} {h : Hp} (T : TPk b n h) (l : liveT b n X) (O : XOk n X) (hL : L = 1 ∨ L = 9) (C : CTk b n X.2.1 h) (F : FLc none h) (D : CDl X.2.2.1 X.2.2.2 L h) :
    wp (fX2_readLine h) (fun r => ∃ Y, LnStep b n X Y ∧ Same (SLd L) h r.2 ∧ FLc Y.1 r.2 ∧ CTk b n Y.2.1 r.2 ∧ CDl Y.2.2.1 Y.2.2.2 L r.2) := by
  obtain ⟨o1, o2, o3, o4⟩ := O
  obtain ⟨fl, p, A, cd⟩ := X
  dsimp only at *
  -- a line that isn't a law
  have fin : ∀ {x : Option (Int × Hp)} {s : Flw × Nat × Hp}, ¬ (kwN b n p = 13 ∧ A 8 5 < 4) → lnS b n A p = s → wp x (fun r => Same (SLd L) h r.2 ∧ FLc s.1 r.2 ∧ CTk b n s.2.1 r.2 ∧ CDl s.2.2 cd L r.2) → wp (bd_ x (fun _ h9 => some ((0 : Int), h9))) (fun r => ∃ Y, LnStep b n (fl, p, A, cd) Y ∧ Same (SLd L) h r.2 ∧ FLc Y.1 r.2 ∧ CTk b n Y.2.1 r.2 ∧ CDl Y.2.2.1 Y.2.2.2 L r.2) := by
    intro x s n13 es w
    rw [wp_bd]
    refine w.mono ?_
    rintro ⟨v, h9⟩ ⟨w1, w2, w3, w4⟩
    rw [wp_some]
    exact ⟨(s.1, s.2.1, s.2.2, cd), Or.inr ⟨n13, by dsimp only; rw [es]⟩, w1, w2, w3, w4⟩
  have ref : ∀ v : Int, v ≠ 0 → wp (fX2_refuse v h) (fun r => Same (SLd L) h r.2 ∧ FLc ((some (v, tkS b n p), p, A) : Flw × Nat × Hp).1 r.2 ∧ CTk b n ((some (v, tkS b n p), p, A) : Flw × Nat × Hp).2.1 r.2 ∧ CDl ((some (v, tkS b n p), p, A) : Flw × Nat × Hp).2.2 cd L r.2) := by
    intro v hv
    refine (c_refuse F C.2.1 hv).mono ?_
    rintro ⟨u, h5⟩ ⟨g1, g2⟩
    exact ⟨S27_Ld (S67_27 g1), g2, C.same (fun k h1 h2 => g1 _ _ (by unfold S67; omega)), D.same hL (S67_27 g1)⟩
  have ref0 : ∀ v : Int, v ≠ 0 → wp (bd_ (fX2_refuse v h) (fun _ h9 => some ((0 : Int), h9))) (fun r => Same (SLd L) h r.2 ∧ FLc ((some (v, tkS b n p), p, A) : Flw × Nat × Hp).1 r.2 ∧ CTk b n ((some (v, tkS b n p), p, A) : Flw × Nat × Hp).2.1 r.2 ∧ CDl ((some (v, tkS b n p), p, A) : Flw × Nat × Hp).2.2 cd L r.2) := by
    intro v hv
    rw [wp_bd]
    refine (ref v hv).mono ?_
    rintro ⟨u, h5⟩ w
    exact wp_some.mpr w
  have house : ∀ kd : Int, kwN b n p = 7 + kd → (kd = 0 ∨ kd = 1 ∨ kd = 2) → wp (bd_ (fX2_readHouse kd h) (fun _ h9 => some ((0 : Int), h9))) (fun r => ∃ Y, LnStep b n (fl, p, A, cd) Y ∧ Same (SLd L) h r.2 ∧ FLc Y.1 r.2 ∧ CTk b n Y.2.1 r.2 ∧ CDl Y.2.2.1 Y.2.2.2 L r.2) := by
    intro kd e1 e2
    have es0 : lnS b n A p = if A 8 3 < 6 then hoS b n kd A p else (some (2, tkS b n p), p, A) := by
      unfold lnS
      rw [if_neg (by omega), if_neg (by omega), if_pos (by omega), e1, show 7 + kd - 7 = kd by omega]
    by_cases t : A 8 3 < 6
    · rw [if_pos t] at es0
      exact fin (by omega) es0 (c_house T C F D o1 hL o2 t)
    · rw [if_neg t] at es0
      refine fin (by omega) es0 ?_
      unfold fX2_readHouse
      rw [D.1, gd_y (by omega), Int.toNat_natCast, D.2.1.2.2.2.1, wp_lb]
      exact w_f t (ref0 2 (by decide))
  unfold fX2_readLine
  rw [c_kw (k := 2) T C o2 (by decide) (by decide), wp_bp, wp_some]
  by_cases q1 : kwN b n p = ((2 : Nat) : Int)
  · rw [if_pos q1]
    have q1' : kwN b n p = 2 := q1
    exact w_f (by decide) (fin (by omega) (show lnS b n A p = hiS b n A p by unfold lnS; rw [if_pos q1']) (c_high T C F D o1 hL o2))
  rw [if_neg q1]
  have q1' : ¬ kwN b n p = 2 := q1
  refine w_t rfl ?_
  rw [c_kw (k := 11) T C o2 (by decide) (by decide), wp_bp, wp_some]
  by_cases q2 : kwN b n p = ((11 : Nat) : Int)
  · rw [if_pos q2]
    have q2' : kwN b n p = 11 := q2
    refine w_f (by decide) ?_
    by_cases t : A 8 2 < 12
    · exact fin (by omega) (show lnS b n A p = trS b n A p by unfold lnS; rw [if_neg q1', if_pos q2', if_pos t]) (c_tree T C F D o1 hL o2 t)
    · refine fin (by omega) (show lnS b n A p = (some (2, tkS b n p), p, A) by unfold lnS; rw [if_neg q1', if_pos q2', if_neg t]) ?_
      unfold fX2_readTree
      rw [D.2.1.2.2.1]
      exact w_f t (ref0 2 (by decide))
  rw [if_neg q2]
  have q2' : ¬ kwN b n p = 11 := q2
  refine w_t rfl ?_
  rw [c_kw (k := 7) T C o2 (by decide) (by decide), wp_bp, wp_some]
  by_cases q3 : kwN b n p = ((7 : Nat) : Int)
  · rw [if_pos q3]
    exact w_f (by decide) (house 0 (by omega) (Or.inl rfl))
  rw [if_neg q3]
  refine w_t rfl ?_
  rw [c_kw (k := 8) T C o2 (by decide) (by decide), wp_bp, wp_some]
  by_cases q4 : kwN b n p = ((8 : Nat) : Int)
  · rw [if_pos q4]
    exact w_f (by decide) (house 1 (by omega) (Or.inr (Or.inl rfl)))
  rw [if_neg q4]
  refine w_t rfl ?_
  rw [c_kw (k := 9) T C o2 (by decide) (by decide), wp_bp, wp_some]
  by_cases q5 : kwN b n p = ((9 : Nat) : Int)
  · rw [if_pos q5]
    exact w_f (by decide) (house 2 (by omega) (Or.inr (Or.inr rfl)))
  rw [if_neg q5]
  have q345 : ¬ (kwN b n p = 7 ∨ kwN b n p = 8 ∨ kwN b n p = 9) := by omega
  refine w_t rfl ?_
  rw [c_kw (k := 12) T C o2 (by decide) (by decide), wp_bp, wp_some]
  by_cases q6 : kwN b n p = ((12 : Nat) : Int)
  · rw [if_pos q6]
    have q6' : kwN b n p = 12 := q6
    refine w_f (by decide) ?_
    by_cases t : A 8 4 ≤ 0
    · have t0 : A 8 4 = 0 := by have := o1.2.2.2.2.1; omega
      exact fin (by omega) (show lnS b n A p = foS b n A p by unfold lnS; rw [if_neg q1', if_neg q2', if_neg q345, if_pos q6', if_pos t]) (c_fogs T C F D hL o2 t0)
    · refine fin (by omega) (show lnS b n A p = (some (5, tkS b n p), p, A) by unfold lnS; rw [if_neg q1', if_neg q2', if_neg q345, if_pos q6', if_neg t]) ?_
      unfold fX2_readFogs
      rw [gd_y (by rw [D.1]; omega), D.1, Int.toNat_natCast, D.2.1.2.2.2.2.1]
      exact w_f t (ref0 5 (by decide))
  rw [if_neg q6]
  have q6' : ¬ kwN b n p = 12 := q6
  refine w_t rfl ?_
  rw [c_kw (k := 13) T C o2 (by decide) (by decide), wp_bp, wp_some]
  by_cases q7 : kwN b n p = ((13 : Nat) : Int)
  · rw [if_pos q7]
    have q7' : kwN b n p = 13 := q7
    refine w_f (by decide) ?_
    obtain ⟨nl, hnl⟩ : ∃ nl : Nat, A 8 5 = (nl : Int) := ⟨(A 8 5).toNat, by have := o1.2.2.2.2.2; omega⟩
    by_cases t : A 8 5 < 4
    · rw [wp_bd]
      rw [hnl, Int.toNat_natCast] at o3
      refine (c_lawC T C F D hL o2 hnl (by omega) o3).mono ?_
      rintro ⟨v, h9⟩ ⟨S, a1, a2, a3, a4, a5, -⟩
      rw [wp_some]
      refine ⟨(S.1, S.2.2.1, st A 8 5 ((nl : Int) + 1), updL cd nl S.2.2.2.2.2.2), Or.inl ⟨q7', t, S, a1, ?_⟩, a2, a3, a4, a5⟩
      dsimp only
      rw [hnl, Int.toNat_natCast]
    · refine fin (fun z => t z.2) (show lnS b n A p = (some (2, tkS b n p), p, A) by unfold lnS; rw [if_neg q1', if_neg q2', if_neg q345, if_neg q6', if_pos q7']) ?_
      unfold fX2_readLaw
      rw [gd_y (by rw [D.1]; omega), D.1, Int.toNat_natCast, D.2.1.2.2.2.2.2.1]
      exact w_f t (ref0 2 (by decide))
  rw [if_neg q7]
  have q7' : ¬ kwN b n p = 13 := q7
  refine w_t rfl ?_
  exact fin (fun z => q7' z.1) (show lnS b n A p = (some (1, tkS b n p), p, A) by unfold lnS; rw [if_neg q1', if_neg q2', if_neg q345, if_neg q6', if_neg q7']) (ref 1 (by decide))
