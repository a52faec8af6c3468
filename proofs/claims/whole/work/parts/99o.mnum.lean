/-! pure part: numbers and cells, the reference -/
def RGk (b : Nat → Int) (n : Nat) (fl : Flw) (p : Nat) (h : Hp) : Prop := FLr fl h ∧ (fl = none → RTk b n p h)
def S45 : Nat → Nat → Prop := fun a k => a = 35 ∧ (k = 14 ∨ k = 15)
def S1424 : Nat → Nat → Prop := fun a k => a = 35 ∧ ((14 ≤ k ∧ k ≤ 15) ∨ (18 ≤ k ∧ k ≤ 24))
theorem S45_24 {h h' : Hp} (s : Same S45 h h') : Same S1424 h h' := s.mono (fun a k z => ⟨z.1, by have := z.2; omega⟩)
theorem SRk_24 {h h' : Hp} (s : Same SRk h h') : Same S1424 h h' := s.mono (fun a k z => ⟨z.1, by have := z.2; omega⟩)
theorem RTk.same {b : Nat → Int} {n p : Nat} {h h' : Hp} (C : RTk b n p h) (s : ∀ k, 17 ≤ k → k ≤ 24 → h' 35 k = h 35 k) : RTk b n p h' := by
  obtain ⟨c1, c2, c3, c4, c5, c6, c7, c8⟩ := C
  exact ⟨by rw [s _ (by decide) (by decide)]; exact c1, by rw [s _ (by decide) (by decide)]; exact c2, by rw [s _ (by decide) (by decide)]; exact c3, by rw [s _ (by decide) (by decide)]; exact c4, by rw [s _ (by decide) (by decide)]; exact c5, fun z => by rw [s _ (by decide) (by decide)]; exact c6 z, by rw [s _ (by decide) (by decide)]; exact c7, fun z => by rw [s _ (by decide) (by decide)]; exact c8 z⟩
theorem RGk.same {b : Nat → Int} {n p : Nat} {fl : Flw} {h h' : Hp} (G : RGk b n fl p h) (s : ∀ k, 14 ≤ k → k ≤ 24 → h' 35 k = h 35 k) : RGk b n fl p h' :=
  ⟨G.1.same (s _ (by decide) (by decide)) (s _ (by decide) (by decide)), fun z => (G.2 z).same (fun k h1 h2 => s k (by omega) h2)⟩
theorem m_wrong {fl : Flw} {k : Int} {s : Nat} {h : Hp} (F : FLr fl h) (h2 : fl = none → h 35 20 = (s : Int)) (hk : k ≠ 0) : wp (fX6_wrong k h) (fun r => Same S45 h r.2 ∧ FLr (rfS fl k s) r.2) := by
  unfold fX6_wrong
  cases fl with
  | none =>
    refine w_t F.1 ?_
    rw [wp_lb, wp_lb, wp_some]
    dsimp only
    refine ⟨(Same.rf.st (P := S45) ⟨rfl, Or.inl rfl⟩).st ⟨rfl, Or.inr rfl⟩, hk, ?_, ?_⟩
    · rw [st_nk (by decide)]; exact st_self
    · rw [st_self, st_nk (by decide)]; exact h2 rfl
  | some f =>
    refine w_f (fun z => F.1 (F.2.1.symm.trans z)) (wp_some.mpr ⟨Same.rf, F⟩)
theorem m_isGood {fl : Flw} {h : Hp} (F : FLr fl h) : fX6_isGood h = some (if fl = none then 1 else 0) := by
  unfold fX6_isGood
  by_cases q : fl = none
  · rw [if_pos q, if_pos (F.z.mpr q)]
  · rw [if_neg q, if_neg (fun z => q (F.z.mp z))]
theorem rfS_some {fl : Flw} {k : Int} {s : Nat} (q : fl ≠ none) : rfS fl k s = fl := by
  cases fl with
  | none => exact absurd rfl q
  | some f => rfl
theorem nmS_f {b : Nat → Int} {n : Nat} {fl : Flw} {lo hi : Int} {p : Nat} (q : fl ≠ none) : (nmS b n fl lo hi p).1 = fl := by
  unfold nmS
  dsimp only
  by_cases q1 : tkK b n p = 2
  · rw [if_pos q1]
    by_cases q2 : tkN b n p < lo ∨ hi < tkN b n p
    · rw [if_pos q2]; exact rfS_some q
    · rw [if_neg q2]
  · rw [if_neg q1]; exact rfS_some q
theorem nmS_none {b : Nat → Int} {n : Nat} {fl : Flw} {lo hi : Int} {p : Nat} (q : (nmS b n fl lo hi p).1 = none) : fl = none ∧ tkK b n p = 2 ∧ lo ≤ tkN b n p ∧ tkN b n p ≤ hi ∧ (nmS b n fl lo hi p).2 = tkN b n p := by
  have q0 := q
  unfold nmS at q ⊢
  dsimp only at q ⊢
  by_cases q1 : tkK b n p = 2
  · rw [if_pos q1] at q ⊢
    by_cases q2 : tkN b n p < lo ∨ hi < tkN b n p
    · rw [if_pos q2] at q; exact absurd q rfS_n
    · rw [if_neg q2] at q ⊢
      rw [if_pos q]
      exact ⟨q, q1, by omega, by omega, rfl⟩
  · rw [if_neg q1] at q; exact absurd q rfS_n
theorem m_numberHere {b : Nat → Int} {n p : Nat} {fl : Flw} {lo hi : Int} {h : Hp} (G : RGk b n fl p h) (hh : hi ≤ 9999) : wp (fX6_numberHere lo hi h) (fun r => Same S45 h r.2 ∧ RGk b n (nmS b n fl lo hi p).1 p r.2 ∧ r.1 = (if (nmS b n fl lo hi p).1 = none then 1 else 0)) := by
  have fin : ∀ (g : Flw) (h' : Hp), Same S45 h h' → FLr g h' → (g = none → fl = none) → wp (fX6_numberHere_j54 h') (fun r => Same S45 h r.2 ∧ RGk b n g p r.2 ∧ r.1 = (if g = none then 1 else 0)) := by
    intro g h' s' F' e
    unfold fX6_numberHere_j54
    rw [m_isGood F', wp_bp, wp_some, gd_y (by by_cases z : g = none <;> simp [z]), wp_some]
    exact ⟨s', ⟨F', fun z => (G.2 (e z)).same (fun k h1 h2 => s' _ _ (by unfold S45; omega))⟩, rfl⟩
  unfold fX6_numberHere
  rw [m_isGood G.1, wp_bp, wp_some]
  by_cases q : fl = none
  · rw [if_pos q]
    refine w_f (by decide) ?_
    have C := G.2 q
    have w2 : fl = none → h 35 20 = (tkS b n p : Int) := fun _ => C.2.2.1
    have j49 : wp (fX6_numberHere_j49 h) (fun r => Same S45 h r.2 ∧ RGk b n (rfS fl 2 (tkS b n p)) p r.2 ∧ r.1 = (if rfS fl 2 (tkS b n p) = none then 1 else 0)) := by
      unfold fX6_numberHere_j49
      rw [wp_bd]
      refine (m_wrong G.1 w2 (by decide)).mono ?_
      rintro ⟨v, h5⟩ ⟨g1, g2⟩
      exact fin _ h5 g1 g2 (fun z => absurd z rfS_n)
    unfold nmS
    dsimp only
    rw [C.2.2.2.2.1, C.2.2.2.1]
    by_cases k2 : tkK b n p = 2
    · rw [if_pos k2, C.2.2.2.2.2.1 k2, k2]
      refine w_t rfl ?_
      by_cases l4 : tkE b n p - tkS b n p ≤ 4
      · have eN : tkN b n p = dvN b (tkS b n p) (tkE b n p - tkS b n p) := if_pos l4
        rw [show min 4 (tkE b n p - tkS b n p) = tkE b n p - tkS b n p by omega, ← eN]
        refine w_f (by clear eN; omega) ?_
        by_cases k3 : tkN b n p < lo
        · rw [if_pos (Or.inl k3)]
          exact w_t k3 j49
        · refine w_f k3 ?_
          by_cases k4 : tkN b n p ≤ hi
          · rw [if_neg (show ¬ (tkN b n p < lo ∨ hi < tkN b n p) from fun z => z.elim k3 (fun w => absurd k4 (Int.not_le.mpr w)))]
            exact w_t k4 (fin fl h Same.rf G.1 id)
          · rw [if_pos (Or.inr (Int.not_le.mp k4))]
            exact w_f k4 j49
      · have eN : tkN b n p = 10000 := if_neg l4
        rw [if_pos (Or.inr (by rw [eN]; clear eN; omega))]
        exact w_t (by clear eN; omega) j49
    · rw [if_neg k2]
      refine w_f (fun z => k2 ?_) ?_
      · unfold srt at z
        by_cases w0 : tkK b n p = 0
        · rw [if_pos w0] at z; exact absurd z (by decide)
        · rw [if_neg w0] at z
          by_cases w1 : tkK b n p = 1
          · rw [if_pos w1] at z; exact absurd z (by decide)
          · rw [if_neg w1, if_neg k2] at z
            by_cases w3 : tkK b n p = 3
            · rw [if_pos w3] at z; exact absurd z (by decide)
            · rw [if_neg w3] at z; exact absurd z (by decide)
      · rw [wp_bd]
        refine (m_wrong G.1 w2 (by decide)).mono ?_
        rintro ⟨v, h5⟩ ⟨g1, g2⟩
        exact fin _ h5 g1 g2 (fun z => absurd z rfS_n)
  · rw [if_neg q, nmS_f q, if_neg q]
    exact w_t rfl (wp_some.mpr ⟨Same.rf, G, rfl⟩)
/-- the reference goes on, if all is good -/
theorem m_next {b : Nat → Int} {n p : Nat} {h : Hp} (T : TRk b n h) (G : RGk b n none p h) (hp : p ≤ n) : wp (fX6_goes h) (fun r => Same SRk h r.2 ∧ RGk b n none (tkE b n p) r.2) := by
  have C := G.2 rfl
  refine (m_goes T C.1 C.2.1 (tk_rg hp).2.2.1).mono ?_
  rintro ⟨v, h'⟩ ⟨g1, g2⟩
  exact ⟨g1, G.1.same (g1 _ _ (by unfold SRk; omega)) (g1 _ _ (by unfold SRk; omega)), fun _ => g2⟩
theorem m_number {b : Nat → Int} {n p : Nat} {fl : Flw} {lo hi : Int} {h : Hp} (T : TRk b n h) (G : RGk b n fl p h) (hp : p ≤ n) (hh : hi ≤ 9999) : wp (fX6_number lo hi h) (fun r => Same S1424 h r.2 ∧ RGk b n (nmS b n fl lo hi p).1 (tkE b n p) r.2 ∧ ((nmS b n fl lo hi p).1 = none → r.1 = (nmS b n fl lo hi p).2)) := by
  unfold fX6_number
  rw [wp_bd]
  refine (m_numberHere G hh).mono ?_
  rintro ⟨v, h3⟩ ⟨g1, g2, g3⟩
  dsimp only at g1 g2 g3 ⊢
  have T3 : TRk b n h3 := T.same (fun k => g1 _ _ (by unfold S45; omega))
  by_cases q : (nmS b n fl lo hi p).1 = none
  · rw [if_pos q] at g3
    obtain ⟨a1, a2, a3, a4, a5⟩ := nmS_none q
    have C3 := g2.2 q
    have l4 : tkE b n p - tkS b n p ≤ 4 := by
      by_cases l4 : tkE b n p - tkS b n p ≤ 4
      · exact l4
      · have eN : tkN b n p = 10000 := if_neg l4
        rw [eN] at a4
        omega
    have ev : h3 35 22 = tkN b n p := by
      rw [C3.2.2.2.2.2.1 a2, show min 4 (tkE b n p - tkS b n p) = tkE b n p - tkS b n p by omega]
      exact (if_pos l4).symm
    refine w_f (by rw [g3]; decide) ?_
    unfold fX6_number_j17
    rw [q] at g2
    rw [m_isGood g2.1, wp_bp, wp_some, if_pos rfl]
    refine w_f (by decide) ?_
    rw [wp_bd]
    refine (m_next T3 g2 hp).mono ?_
    rintro ⟨w, h10⟩ ⟨k1, k2⟩
    rw [wp_some, q]
    exact ⟨(S45_24 g1).tr (SRk_24 k1), k2, fun _ => by rw [a5]; exact ev⟩
  · rw [if_neg q] at g3
    refine w_t g3 ?_
    unfold fX6_number_j17
    rw [m_isGood g2.1, wp_bp, wp_some, if_neg q]
    exact w_t rfl (wp_some.mpr ⟨S45_24 g1, ⟨g2.1, fun z => absurd z q⟩, fun z => absurd z q⟩)
theorem cellS_f {b : Nat → Int} {n : Nat} {fl : Flw} {used w d : Int} {p : Nat} (q : fl ≠ none) : (cellS b n fl used w d p).1 = fl := by
  unfold cellS
  dsimp only
  have e : (nmS b n (nmS b n fl 0 (w - 1) p).1 0 (d - 1) (tkE b n p)).1 = fl := by rw [nmS_f (by rw [nmS_f q]; exact q), nmS_f q]
  rw [e]
  by_cases z : bt used (w * (nmS b n (nmS b n fl 0 (w - 1) p).1 0 (d - 1) (tkE b n p)).2 + (nmS b n fl 0 (w - 1) p).2).toNat = true
  · rw [if_pos z]; exact rfS_some q
  · rw [if_neg z]
theorem m_cellNext {b : Nat → Int} {n p : Nat} {fl : Flw} {used w d : Int} {h : Hp} (T : TRk b n h) (G : RGk b n fl p h) (hp : p ≤ n) (hw : h 35 25 = w) (hd : h 35 26 = d) (rw' : 1 ≤ w ∧ w ≤ 8) (rd : 1 ≤ d ∧ d ≤ 8) :
    wp (fX6_cellNext used h) (fun r => Same S1424 h r.2 ∧ RGk b n (cellS b n fl used w d p).1 (cellS b n fl used w d p).2.2 r.2 ∧ ((cellS b n fl used w d p).1 = none → r.1 = (cellS b n fl used w d p).2.1)) := by
  have rg := cellS_rg (b := b) (n := n) (fl := fl) (used := used) (p := p) rw' rd
  have hp1 : tkE b n p ≤ n := (tk_rg hp).2.2.1
  unfold fX6_cellNext
  rw [hw, isb (by clear hw hd; omega) (by clear hw hd; omega), wp_bd]
  refine (m_number T G hp (by clear hw hd; omega)).mono ?_
  rintro ⟨x, h3⟩ ⟨g1, g2, g3⟩
  dsimp only at g1 g2 g3 ⊢
  have xw : h3 35 25 = w := by rw [g1 _ _ (by unfold S1424; omega)]; exact hw
  have xd : h3 35 26 = d := by rw [g1 _ _ (by unfold S1424; omega)]; exact hd
  have T3 : TRk b n h3 := T.same (fun k => g1 _ _ (by unfold S1424; omega))
  rw [xd, isb (by clear hw hd xw xd; omega) (by clear hw hd xw xd; omega), wp_bd]
  refine (m_numberHere g2 (by clear hw hd xw xd; omega)).mono ?_
  rintro ⟨v, h6⟩ ⟨k1, k2, k3⟩
  dsimp only at k1 k2 k3 ⊢
  have s6 : Same S1424 h h6 := g1.tr (S45_24 k1)
  have yw : h6 35 25 = w := by rw [k1 _ _ (by unfold S45; omega)]; exact xw
  have T6 : TRk b n h6 := T.same (fun k => s6 _ _ (by unfold S1424; omega))
  have e3 : (cellS b n fl used w d p).2.2 = tkE b n (tkE b n p) := rfl
  rw [e3]
  by_cases q : (nmS b n (nmS b n fl 0 (w - 1) p).1 0 (d - 1) (tkE b n p)).1 = none
  · rw [if_pos q] at k3
    refine w_f (by rw [k3]; decide) ?_
    obtain ⟨a1, a2, a3, a4, a5⟩ := nmS_none q
    have q0 := a1
    obtain ⟨b1, b2, b3, b4, b5⟩ := nmS_none q0
    have C6 := k2.2 q
    have l4 : tkE b n (tkE b n p) - tkS b n (tkE b n p) ≤ 4 := by
      by_cases l4 : tkE b n (tkE b n p) - tkS b n (tkE b n p) ≤ 4
      · exact l4
      · have eN : tkN b n (tkE b n p) = 10000 := if_neg l4
        rw [eN] at a4
        clear hw hd xw xd
        omega
    have ev : h6 35 22 = tkN b n (tkE b n p) := by
      rw [C6.2.2.2.2.2.1 a2, show min 4 (tkE b n (tkE b n p) - tkS b n (tkE b n p)) = tkE b n (tkE b n p) - tkS b n (tkE b n p) by omega]
      exact (if_pos l4).symm
    have ex : x = tkN b n p := by rw [g3 q0, b5]
    have ecell : (cellS b n fl used w d p).2.1 = w * tkN b n (tkE b n p) + tkN b n p := by
      unfold cellS
      dsimp only
      rw [a5, b5]
    have m := mul_le8 rw' (show 0 ≤ tkN b n (tkE b n p) ∧ tkN b n (tkE b n p) ≤ 7 by clear hw hd xw xd yw ev ecell rg; omega)
    rw [ecell] at rg
    have ec : i_add (i_mul w (tkN b n (tkE b n p))) (tkN b n p) = w * tkN b n (tkE b n p) + tkN b n p := by
      clear hw hd xw xd yw ev ecell ex
      rw [i_mul_eq ⟨by omega, by omega⟩, ia (by omega) (by omega)]
    obtain ⟨cc, hcc⟩ : ∃ cc : Nat, w * tkN b n (tkE b n p) + tkN b n p = (cc : Int) := ⟨(w * tkN b n (tkE b n p) + tkN b n p).toNat, by omega⟩
    have hc64 : cc < 64 := by rw [hcc] at rg; omega
    rw [yw, ev, ex, ec, wp_lb, hcc, bt_s hc64]
    have e1 : (cellS b n fl used w d p).1 = (if bt used cc = true then rfS none 4 (tkS b n (tkE b n p)) else none) := by
      have ecc : (w * tkN b n (tkE b n p) + tkN b n p).toNat = cc := by rw [hcc]; rfl
      unfold cellS
      dsimp only
      rw [a5, b5, ecc, q]
    rw [e1, ecell, hcc]
    rw [q] at k2
    by_cases z : bt used cc = true
    · rw [if_pos z, if_pos z]
      refine w_t (by decide) ?_
      rw [wp_bd]
      refine (m_wrong k2.1 (fun _ => C6.2.2.1) (by decide)).mono ?_
      rintro ⟨u, h18⟩ ⟨l1, l2⟩
      dsimp only at l1 l2 ⊢
      unfold fX6_cellNext_j57
      rw [m_isGood l2, wp_bp, wp_some, if_neg rfS_n]
      exact w_t rfl (wp_some.mpr ⟨s6.tr (S45_24 l1), ⟨l2, fun z => absurd z rfS_n⟩, fun z => absurd z rfS_n⟩)
    · rw [if_neg z, if_neg z]
      refine w_f (by decide) ?_
      · unfold fX6_cellNext_j57
        rw [m_isGood k2.1, wp_bp, wp_some, if_pos rfl]
        refine w_f (by decide) ?_
        rw [wp_bd]
        refine (m_next T6 k2 hp1).mono ?_
        rintro ⟨u, h15⟩ ⟨l1, l2⟩
        exact wp_some.mpr ⟨s6.tr (SRk_24 l1), l2, fun _ => rfl⟩
  · rw [if_neg q] at k3
    have e1 : (cellS b n fl used w d p).1 = (nmS b n (nmS b n fl 0 (w - 1) p).1 0 (d - 1) (tkE b n p)).1 := by
      unfold cellS
      dsimp only
      by_cases z : bt used (w * (nmS b n (nmS b n fl 0 (w - 1) p).1 0 (d - 1) (tkE b n p)).2 + (nmS b n fl 0 (w - 1) p).2).toNat = true
      · rw [if_pos z]; exact rfS_some q
      · rw [if_neg z]
    rw [e1]
    exact w_t k3 (wp_some.mpr ⟨s6, ⟨k2.1, fun z => absurd z q⟩, fun z => absurd z q⟩)
theorem sign_some {c : Int} {h : Hp} : ∃ v, fX6_isSign c h = some v := by
  unfold fX6_isSign
  by_cases q : h 35 19 = 3
  · rw [if_pos q]
    by_cases q2 : h 35 23 = c
    · rw [if_pos q2]; exact ⟨_, rfl⟩
    · rw [if_neg q2]; exact ⟨_, rfl⟩
  · rw [if_neg q]; exact ⟨_, rfl⟩
theorem m_eol {b : Nat → Int} {n p : Nat} {fl : Flw} {h : Hp} (T : TRk b n h) (G : RGk b n fl p h) (hp : p ≤ n) : wp (bp_ (fX6_isSign 59 h) (fun r11 => bd_ (fX6_need r11 h) (fun r13 h15 => some ((0 : Int), h15)))) (fun r => Same S1424 h r.2 ∧ RGk b n (eolS b n fl p) (tkE b n p) r.2) := by
  by_cases q : fl = none
  · subst q
    have C := G.2 rfl
    unfold eolS
    rw [m_isSign C (by decide), wp_bp, wp_some]
    unfold fX6_need
    rw [m_isGood G.1, wp_bd, wp_bp, wp_some, if_pos rfl]
    refine w_f (by decide) ?_
    by_cases z : tkK b n p = 59
    · rw [if_pos z, if_pos z]
      refine w_f (by decide) ?_
      rw [wp_bd]
      refine (m_next T G hp).mono ?_
      rintro ⟨u, h15⟩ ⟨l1, l2⟩
      exact wp_some.mpr (wp_some.mpr ⟨SRk_24 l1, l2⟩)
    · rw [if_neg z, if_neg z]
      refine w_t rfl ?_
      rw [wp_bd]
      refine (m_wrong G.1 (fun _ => C.2.2.1) (by decide)).mono ?_
      rintro ⟨u, h18⟩ ⟨l1, l2⟩
      exact wp_some.mpr (wp_some.mpr ⟨S45_24 l1, l2, fun z => absurd z rfS_n⟩)
  · obtain ⟨v, hv⟩ := sign_some (c := 59) (h := h)
    have e : eolS b n fl p = fl := by
      unfold eolS
      by_cases z : tkK b n p = 59
      · rw [if_pos z]
      · rw [if_neg z]; exact rfS_some q
    rw [hv, wp_bp, wp_some, e]
    unfold fX6_need
    rw [m_isGood G.1, wp_bd, wp_bp, wp_some, if_neg q]
    exact w_t rfl (wp_some.mpr (wp_some.mpr ⟨Same.rf, G.1, fun z => absurd z q⟩))
