/-! pure part: flaws, numbers, cells, on both sides -/
abbrev Flw : Type := Option (Int × Nat)
def rfS (fl : Flw) (k : Int) (s : Nat) : Flw := match fl with
  | none => some (k, s)
  | some f => some f
def FLc (fl : Flw) (h : Hp) : Prop := match fl with
  | none => h 18 6 = 0
  | some f => f.1 ≠ 0 ∧ h 18 6 = f.1 ∧ h 18 7 = (f.2 : Int)
def FLr (fl : Flw) (h : Hp) : Prop := match fl with
  | none => h 35 14 = 0 ∧ h 35 15 = -1
  | some f => f.1 ≠ 0 ∧ h 35 14 = f.1 ∧ h 35 15 = (f.2 : Int)
theorem FLc.same {fl : Flw} {h h' : Hp} (F : FLc fl h) (e6 : h' 18 6 = h 18 6) (e7 : h' 18 7 = h 18 7) : FLc fl h' := by
  cases fl with
  | none => exact e6.trans F
  | some f => exact ⟨F.1, e6.trans F.2.1, e7.trans F.2.2⟩
theorem FLr.same {fl : Flw} {h h' : Hp} (F : FLr fl h) (e6 : h' 35 14 = h 35 14) (e7 : h' 35 15 = h 35 15) : FLr fl h' := by
  cases fl with
  | none => exact ⟨e6.trans F.1, e7.trans F.2⟩
  | some f => exact ⟨F.1, e6.trans F.2.1, e7.trans F.2.2⟩
theorem FLc.z {fl : Flw} {h : Hp} (F : FLc fl h) : h 18 6 = 0 ↔ fl = none := by
  cases fl with
  | none => exact ⟨fun _ => rfl, fun _ => F⟩
  | some f => exact ⟨fun z => absurd (F.2.1.symm.trans z) F.1, fun z => absurd z (by simp)⟩
theorem FLr.z {fl : Flw} {h : Hp} (F : FLr fl h) : h 35 14 = 0 ↔ fl = none := by
  cases fl with
  | none => exact ⟨fun _ => rfl, fun _ => F.1⟩
  | some f => exact ⟨fun z => absurd (F.2.1.symm.trans z) F.1, fun z => absurd z (by simp)⟩
theorem rfS_n {fl : Flw} {k : Int} {s : Nat} : rfS fl k s ≠ none := by
  cases fl <;> exact fun z => absurd z (by simp [rfS])
def S67 : Nat → Nat → Prop := fun a k => a = 18 ∧ (k = 6 ∨ k = 7)
def S27 : Nat → Nat → Prop := fun a k => a = 18 ∧ 2 ≤ k ∧ k ≤ 7
theorem S67_27 {h h' : Hp} (s : Same S67 h h') : Same S27 h h' := s.mono (fun a k z => ⟨z.1, by have := z.2; omega, by have := z.2; omega⟩)
theorem STk_27 {h h' : Hp} (s : Same STk h h') : Same S27 h h' := s.mono (fun a k z => ⟨z.1, by have := z.2; omega, by have := z.2; omega⟩)
theorem c_refuse {fl : Flw} {k : Int} {s : Nat} {h : Hp} (F : FLc fl h) (h2 : h 18 2 = (s : Int)) (hk : k ≠ 0) : wp (fX2_refuse k h) (fun r => Same S67 h r.2 ∧ FLc (rfS fl k s) r.2) := by
  unfold fX2_refuse
  cases fl with
  | none =>
    have F' : h 18 6 = 0 := F
    refine w_t F' ?_
    rw [wp_lb, wp_lb, wp_some]
    dsimp only
    refine ⟨(Same.rf.st (P := S67) ⟨rfl, Or.inl rfl⟩).st ⟨rfl, Or.inr rfl⟩, hk, ?_, ?_⟩
    · rw [st_nk (by decide)]; exact st_self
    · rw [st_self, st_nk (by decide)]; exact h2
  | some f =>
    refine w_f (fun z => F.1 (F.2.1.symm.trans z)) (wp_some.mpr ⟨Same.rf, F⟩)
/-- a number between lo and hi -/
def nmS (b : Nat → Int) (n : Nat) (fl : Flw) (lo hi : Int) (p : Nat) : Flw × Int :=
  let f := if tkK b n p = 2 then (if tkN b n p < lo ∨ hi < tkN b n p then rfS fl 2 (tkS b n p) else fl) else rfS fl 1 (tkS b n p)
  (f, if f = none then tkN b n p else lo)
theorem nmS_rg {b : Nat → Int} {n : Nat} {fl : Flw} {lo hi : Int} {p : Nat} (h : lo ≤ hi) : lo ≤ (nmS b n fl lo hi p).2 ∧ (nmS b n fl lo hi p).2 ≤ hi := by
  unfold nmS
  dsimp only
  by_cases q : tkK b n p = 2
  · rw [if_pos q]
    by_cases q2 : tkN b n p < lo ∨ hi < tkN b n p
    · rw [if_pos q2, if_neg rfS_n]; exact ⟨Int.le_refl _, h⟩
    · rw [if_neg q2]
      by_cases q3 : fl = none
      · rw [if_pos q3]; omega
      · rw [if_neg q3]; exact ⟨Int.le_refl _, h⟩
  · rw [if_neg q, if_neg rfS_n]; exact ⟨Int.le_refl _, h⟩
theorem c_numberHere {b : Nat → Int} {n p : Nat} {fl : Flw} {lo hi : Int} {h : Hp} (C : CTk b n p h) (F : FLc fl h) : wp (fX2_numberHere lo hi h) (fun r => Same S67 h r.2 ∧ FLc (nmS b n fl lo hi p).1 r.2 ∧ r.1 = (nmS b n fl lo hi p).2) := by
  obtain ⟨c1, c2, c3, c4, c5⟩ := C
  have fin : ∀ (g : Flw) (h' : Hp), Same S67 h h' → FLc g h' → (g = none → h' 18 5 = tkN b n p) → wp (fX2_numberHere_j37 lo h') (fun r => Same S67 h r.2 ∧ FLc g r.2 ∧ r.1 = (if g = none then tkN b n p else lo)) := by
    intro g h' s' F' e5
    unfold fX2_numberHere_j37
    by_cases q : g = none
    · refine w_t (F'.z.mpr q) (wp_some.mpr ⟨s', F', ?_⟩)
      rw [if_pos q]; exact e5 q
    · refine w_f (fun z => q (F'.z.mp z)) (wp_some.mpr ⟨s', F', ?_⟩)
      rw [if_neg q]
  have k5 : ∀ h', Same S67 h h' → h' 18 5 = h 18 5 := fun h' s' => s' _ _ (by unfold S67; omega)
  unfold fX2_numberHere nmS
  dsimp only
  rw [c4]
  by_cases q : tkK b n p = 2
  · rw [if_pos q, if_pos q, c5 q]
    by_cases q1 : tkN b n p < lo
    · rw [if_pos q1, if_pos (Or.inl q1)]
      unfold fX2_numberHere_j32
      rw [wp_bd]
      refine (c_refuse F c2 (by decide)).mono ?_
      rintro ⟨v, h5⟩ ⟨g1, g2⟩
      exact fin _ h5 g1 g2 (fun z => absurd z rfS_n)
    · rw [if_neg q1]
      by_cases q2 : tkN b n p ≤ hi
      · rw [if_pos q2, if_neg (fun z => z.elim q1 (fun w => absurd q2 (Int.not_le.mpr w)))]
        exact fin _ h Same.rf F (fun _ => c5 q)
      · rw [if_neg q2, if_pos (Or.inr (Int.not_le.mp q2))]
        unfold fX2_numberHere_j32
        rw [wp_bd]
        refine (c_refuse F c2 (by decide)).mono ?_
        rintro ⟨v, h5⟩ ⟨g1, g2⟩
        exact fin _ h5 g1 g2 (fun z => absurd z rfS_n)
  · rw [if_neg q, if_neg q, wp_bd]
    refine (c_refuse F c2 (by decide)).mono ?_
    rintro ⟨v, h5⟩ ⟨g1, g2⟩
    exact fin _ h5 g1 g2 (fun z => absurd z rfS_n)
theorem CTk.same {b : Nat → Int} {n p : Nat} {h h' : Hp} (C : CTk b n p h) (s : ∀ k, 1 ≤ k → k ≤ 5 → h' 18 k = h 18 k) : CTk b n p h' := by
  obtain ⟨c1, c2, c3, c4, c5⟩ := C
  exact ⟨by rw [s _ (by decide) (by decide)]; exact c1, by rw [s _ (by decide) (by decide)]; exact c2, by rw [s _ (by decide) (by decide)]; exact c3, by rw [s _ (by decide) (by decide)]; exact c4, fun z => by rw [s _ (by decide) (by decide)]; exact c5 z⟩
/-- the class goes to the next token; flaws stay -/
theorem c_next {b : Nat → Int} {n p : Nat} {fl : Flw} {h : Hp} (T : TPk b n h) (C : CTk b n p h) (F : FLc fl h) (hp : p ≤ n) : wp (fX2_take h) (fun r => Same STk h r.2 ∧ CTk b n (tkE b n p) r.2 ∧ FLc fl r.2) := by
  refine (c_take T C.1 C.2.2.1 (tk_rg hp).2.2.1).mono ?_
  rintro ⟨v, h'⟩ ⟨g1, g2⟩
  exact ⟨g1, g2, F.same (g1 _ _ (by unfold STk; omega)) (g1 _ _ (by unfold STk; omega))⟩
theorem c_takenNumber {b : Nat → Int} {n p : Nat} {fl : Flw} {lo hi : Int} {h : Hp} (T : TPk b n h) (C : CTk b n p h) (F : FLc fl h) (hp : p ≤ n) : wp (fX2_takenNumber lo hi h) (fun r => Same S27 h r.2 ∧ CTk b n (tkE b n p) r.2 ∧ FLc (nmS b n fl lo hi p).1 r.2 ∧ r.1 = (nmS b n fl lo hi p).2) := by
  unfold fX2_takenNumber
  rw [wp_bd]
  refine (c_numberHere C F).mono ?_
  rintro ⟨v, h3⟩ ⟨g1, g2, g3⟩
  dsimp only at g1 g2 g3 ⊢
  rw [wp_bd]
  refine (c_next (T.same (fun k => g1 _ _ (by unfold S67; omega))) (C.same (fun k _ _ => g1 _ _ (by unfold S67; omega))) g2 hp).mono ?_
  rintro ⟨w, h6⟩ ⟨k1, k2, k3⟩
  dsimp only at k1 k2 k3 ⊢
  exact wp_some.mpr ⟨(S67_27 g1).tr (STk_27 k1), k2, k3, g3⟩
def eolS (b : Nat → Int) (n : Nat) (fl : Flw) (p : Nat) : Flw := if tkK b n p = 59 then fl else rfS fl 1 (tkS b n p)
theorem c_takeEnd {b : Nat → Int} {n p : Nat} {fl : Flw} {h : Hp} (T : TPk b n h) (C : CTk b n p h) (F : FLc fl h) (hp : p ≤ n) : wp (fX2_takeEndOfLine h) (fun r => Same S27 h r.2 ∧ CTk b n (tkE b n p) r.2 ∧ FLc (eolS b n fl p) r.2) := by
  have fin : ∀ (g : Flw) (h' : Hp), Same S67 h h' → FLc g h' → wp (fX2_takeEndOfLine_j14 h') (fun r => Same S27 h r.2 ∧ CTk b n (tkE b n p) r.2 ∧ FLc g r.2) := by
    intro g h' s' F'
    unfold fX2_takeEndOfLine_j14
    rw [wp_bd]
    refine (c_next (T.same (fun k => s' _ _ (by unfold S67; omega))) (C.same (fun k _ _ => s' _ _ (by unfold S67; omega))) F' hp).mono ?_
    rintro ⟨w, h6⟩ ⟨k1, k2, k3⟩
    exact wp_some.mpr ⟨(S67_27 s').tr (STk_27 k1), k2, k3⟩
  unfold fX2_takeEndOfLine eolS
  rw [C.2.2.2.1]
  by_cases q : tkK b n p = 59
  · rw [if_pos q, if_pos q]
    exact fin fl h Same.rf F
  · rw [if_neg q, if_neg q, wp_bd]
    refine (c_refuse F C.2.1 (by decide)).mono ?_
    rintro ⟨v, h5⟩ ⟨g1, g2⟩
    exact fin _ h5 g1 g2
/-- a cell that isn't in used: flaw, cell, where it ends -/
def cellS (b : Nat → Int) (n : Nat) (fl : Flw) (used w d : Int) (p : Nat) : Flw × Int × Nat :=
  let x := nmS b n fl 0 (w - 1) p
  let y := nmS b n x.1 0 (d - 1) (tkE b n p)
  let c := w * y.2 + x.2
  (if bt used c.toNat = true then rfS y.1 4 (tkS b n (tkE b n p)) else y.1, c, tkE b n (tkE b n p))
theorem mul_le8 {w y : Int} (hw : 1 ≤ w ∧ w ≤ 8) (hy : 0 ≤ y ∧ y ≤ 7) : 0 ≤ w * y ∧ w * y ≤ 56 := by
  have h1 : 0 ≤ w * y := Int.mul_nonneg (by omega) hy.1
  have h2 : w * y ≤ 8 * y := Int.mul_le_mul_of_nonneg_right hw.2 hy.1
  omega
theorem cellS_rg {b : Nat → Int} {n : Nat} {fl : Flw} {used w d : Int} {p : Nat} (hw : 1 ≤ w ∧ w ≤ 8) (hd : 1 ≤ d ∧ d ≤ 8) : 0 ≤ (cellS b n fl used w d p).2.1 ∧ (cellS b n fl used w d p).2.1 < w * d ∧ (cellS b n fl used w d p).2.1 < 64 := by
  unfold cellS
  dsimp only
  have hx := nmS_rg (b := b) (n := n) (fl := fl) (p := p) (show (0 : Int) ≤ w - 1 by omega)
  have hy := nmS_rg (b := b) (n := n) (fl := (nmS b n fl 0 (w - 1) p).1) (p := tkE b n p) (show (0 : Int) ≤ d - 1 by omega)
  generalize (nmS b n fl 0 (w - 1) p).2 = x at *
  generalize (nmS b n (nmS b n fl 0 (w - 1) p).1 0 (d - 1) (tkE b n p)).2 = y at *
  have m := mul_le8 hw (show 0 ≤ y ∧ y ≤ 7 by omega)
  have h3 : w * (y + 1) ≤ w * d := Int.mul_le_mul_of_nonneg_left (by omega) (by omega)
  rw [Int.mul_add, Int.mul_one] at h3
  refine ⟨by omega, by omega, by omega⟩
theorem c_takenCell {b : Nat → Int} {n p L : Nat} {fl : Flw} {used w d : Int} {h : Hp} (T : TPk b n h) (C : CTk b n p h) (F : FLc fl h) (hp : p ≤ n) (hL : L = 1 ∨ L = 9) (h8 : h 18 8 = (L : Int)) (hw : h L 0 = w) (hd : h L 1 = d) (rw' : 1 ≤ w ∧ w ≤ 8) (rd : 1 ≤ d ∧ d ≤ 8) :
    wp (fX2_takenCell used h) (fun r => Same S27 h r.2 ∧ CTk b n (cellS b n fl used w d p).2.2 r.2 ∧ FLc (cellS b n fl used w d p).1 r.2 ∧ r.1 = (cellS b n fl used w d p).2.1) := by
  have rg := cellS_rg (b := b) (n := n) (fl := fl) (used := used) (p := p) rw' rd
  unfold fX2_takenCell
  rw [h8, gd_y (by clear hw hd h8; omega), Int.toNat_natCast, hw, isb (by clear hw hd h8; omega) (by clear hw hd h8; omega), wp_bd]
  refine (c_numberHere C F).mono ?_
  rintro ⟨x, h4⟩ ⟨g1, g2, g3⟩
  dsimp only at g1 g2 g3 ⊢
  rw [wp_bd]
  refine (c_next (T.same (fun k => g1 _ _ (by unfold S67; omega))) (C.same (fun k _ _ => g1 _ _ (by unfold S67; omega))) g2 hp).mono ?_
  rintro ⟨u, h7⟩ ⟨k1, k2, k3⟩
  dsimp only at k1 k2 k3 ⊢
  have s7 : Same S27 h h7 := (S67_27 g1).tr (STk_27 k1)
  have x8 : h7 18 8 = (L : Int) := by rw [s7 _ _ (by unfold S27; omega)]; exact h8
  have xd : h7 L 1 = d := by rw [s7 _ _ (by unfold S27; clear hw hd h8 x8; omega)]; exact hd
  rw [gd_y (by rw [x8]; clear hw hd h8 x8 xd; omega), x8, Int.toNat_natCast, xd, isb (by clear hw hd h8 x8 xd; omega) (by clear hw hd h8 x8 xd; omega), wp_bd]
  refine (c_numberHere k2 k3).mono ?_
  rintro ⟨y, h11⟩ ⟨l1, l2, l3⟩
  dsimp only at l1 l2 l3 ⊢
  have s11 : Same S27 h h11 := s7.tr (S67_27 l1)
  have y8 : h11 18 8 = (L : Int) := by rw [s11 _ _ (by unfold S27; omega)]; exact h8
  have yw : h11 L 0 = w := by rw [s11 _ _ (by unfold S27; clear hw hd h8 x8 xd y8; omega)]; exact hw
  have T11 : TPk b n h11 := T.same (fun k => s11 _ _ (by unfold S27; omega))
  have C11 : CTk b n (tkE b n p) h11 := k2.same (fun k _ _ => l1 _ _ (by unfold S67; omega))
  rw [gd_y (by rw [y8]; clear hw hd h8 x8 xd y8 yw; omega), y8, Int.toNat_natCast, yw]
  have hx := nmS_rg (b := b) (n := n) (fl := fl) (p := p) (show (0 : Int) ≤ w - 1 by clear hw hd h8 x8 xd y8 yw; omega)
  have hy := nmS_rg (b := b) (n := n) (fl := (nmS b n fl 0 (w - 1) p).1) (p := tkE b n p) (show (0 : Int) ≤ d - 1 by clear hw hd h8 x8 xd y8 yw; omega)
  rw [← g3] at hx
  rw [← l3] at hy
  have m := mul_le8 rw' (show 0 ≤ y ∧ y ≤ 7 by clear hw hd h8 x8 xd y8 yw g3 l3; omega)
  have ec : i_add (i_mul w y) x = w * y + x := by
    clear hw hd h8 x8 xd y8 yw g3 l3
    rw [i_mul_eq ⟨by omega, by omega⟩, ia (by omega) (by omega)]
  have erg : (cellS b n fl used w d p).2.1 = w * y + x := by
    unfold cellS
    dsimp only
    rw [← g3, ← l3]
  rw [erg] at rg
  rw [ec, wp_lb]
  obtain ⟨cc, hcc⟩ : ∃ cc : Nat, w * y + x = (cc : Int) := ⟨(w * y + x).toNat, by omega⟩
  have hc64 : cc < 64 := by rw [hcc] at rg; omega
  rw [hcc, hasBit_eq hc64, wp_bp, wp_some]
  have nx : ∀ (g : Flw) (h' : Hp), Same S27 h h' → CTk b n (tkE b n p) h' → FLc g h' → wp (fX2_takenCell_j63 (cc : Int) h') (fun r => Same S27 h r.2 ∧ CTk b n (tkE b n (tkE b n p)) r.2 ∧ FLc g r.2 ∧ r.1 = (cc : Int)) := by
    intro g h' s' C' F'
    unfold fX2_takenCell_j63
    rw [wp_bd]
    refine (c_next (T.same (fun k => s' _ _ (by unfold S27; omega))) C' F' (tk_rg hp).2.2.1).mono ?_
    rintro ⟨w', h6⟩ ⟨m1, m2, m3⟩
    exact wp_some.mpr ⟨s'.tr (STk_27 m1), m2, m3, rfl⟩
  have e1 : (cellS b n fl used w d p).1 = (if bt used cc = true then rfS (nmS b n (nmS b n fl 0 (w - 1) p).1 0 (d - 1) (tkE b n p)).1 4 (tkS b n (tkE b n p)) else (nmS b n (nmS b n fl 0 (w - 1) p).1 0 (d - 1) (tkE b n p)).1) := by
    have ecc : (w * y + x).toNat = cc := by rw [hcc]; rfl
    unfold cellS
    dsimp only
    rw [← g3, ← l3, ecc]
  have e2 : (cellS b n fl used w d p).2.1 = (cc : Int) := erg.trans hcc
  have e3 : (cellS b n fl used w d p).2.2 = tkE b n (tkE b n p) := rfl
  rw [e1, e2, e3]
  by_cases q : bt used cc = true
  · rw [if_pos q, if_pos q]
    refine w_f (by decide) ?_
    rw [wp_bd]
    refine (c_refuse l2 C11.2.1 (by decide)).mono ?_
    rintro ⟨v, h22⟩ ⟨o1, o2⟩
    exact nx _ h22 (s11.tr (S67_27 o1)) (C11.same (fun k _ _ => o1 _ _ (by unfold S67; omega))) o2
  · rw [if_neg q, if_neg q]
    exact w_t rfl (nx _ h11 s11 C11 l2)
