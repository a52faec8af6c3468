/-! pure part: the lines of a text, the reference -/
/-- a law's code as the reference keeps it, from p up to q -/
def MPc (f : Nat → Int) : Nat → List Int → Nat → Prop
  | p, [], q => p = q
  | p, c :: r, q => if 100 ≤ c then f p = 1 ∧ f (p + 1) = c - 100 ∧ MPc f (p + 2) r q else if 20 ≤ c then f p = 2 ∧ f (p + 1) = c - 20 ∧ MPc f (p + 2) r q
    else f p = (if c = 1 then 5 else if c = 2 then 4 else if c = 3 then 3 else c + 2) ∧ MPc f (p + 1) r q
def RDl (A : Hp) (cd : Nat → List Int) (h : Hp) : Prop :=
  (h 35 25 = A 8 0 ∧ h 35 26 = A 8 1 ∧ h 35 27 = A 8 2 ∧ h 35 28 = A 8 3 ∧ h 35 30 = A 8 4 ∧ h 35 29 = A 8 5 ∧ h 35 34 = A 8 6 ∧ h 35 35 = A 8 7) ∧ (∀ c, c < 64 → h 44 c = A 0 c) ∧ (∀ t : Nat, (t : Int) < A 8 2 → h 45 (3 * t) = A 1 t ∧ h 45 (3 * t + 1) = A 1 (12 + t) ∧ h 45 (3 * t + 2) = A 1 (24 + t)) ∧ (∀ i : Nat, (i : Int) < A 8 3 → h 46 i = A 4 i ∧ h 47 i = A 5 i ∧ h 48 i = A 1 (36 + i)) ∧ (∀ i : Nat, (i : Int) < A 8 4 → h 49 i = A 7 i) ∧ ∃ tp : Nat, h 35 31 = (tp : Int) ∧ tp ≤ 2 * esum cd (A 8 5).toNat + (A 8 5).toNat ∧ ∀ l : Nat, (l : Int) < A 8 5 → ∃ p q : Nat, h 50 l = (p : Int) ∧ MPc (h 51) p (cd l) q ∧ h 51 q = 0 ∧ q < tp
def SRr : Nat → Nat → Prop := fun a k => (a = 35 ∧ 14 ≤ k ∧ k ≤ 35) ∨ (44 ≤ a ∧ a ≤ 53)
theorem S1424_r {h h' : Hp} (s : Same S1424 h h') : Same SRr h h' := s.mono (fun a k z => Or.inl ⟨z.1, by have := z.2; omega, by have := z.2; omega⟩)
theorem RDl.same {A : Hp} {cd : Nat → List Int} {h h' : Hp} (D : RDl A cd h) (s : ∀ a k, (a = 35 ∧ 25 ≤ k ∧ k ≤ 35) ∨ (44 ≤ a ∧ a ≤ 51) → h' a k = h a k) : RDl A cd h' := by
  obtain ⟨⟨e1, e2, e3, e4, e5, e6, e7, e8⟩, d2, d3, d4, d5, tp, t1, t2, t3⟩ := D
  have e51 : h' 51 = h 51 := funext (fun k => s _ _ (by omega))
  refine ⟨⟨by rw [s _ _ (by omega)]; exact e1, by rw [s _ _ (by omega)]; exact e2, by rw [s _ _ (by omega)]; exact e3, by rw [s _ _ (by omega)]; exact e4, by rw [s _ _ (by omega)]; exact e5, by rw [s _ _ (by omega)]; exact e6, by rw [s _ _ (by omega)]; exact e7, by rw [s _ _ (by omega)]; exact e8⟩, fun c hc => by rw [s _ _ (by omega)]; exact d2 c hc, fun t ht => ⟨by rw [s _ _ (by omega)]; exact (d3 t ht).1, by rw [s _ _ (by omega)]; exact (d3 t ht).2.1, by rw [s _ _ (by omega)]; exact (d3 t ht).2.2⟩, fun i hi => ⟨by rw [s _ _ (by omega)]; exact (d4 i hi).1, by rw [s _ _ (by omega)]; exact (d4 i hi).2.1, by rw [s _ _ (by omega)]; exact (d4 i hi).2.2⟩, fun i hi => by rw [s _ _ (by omega)]; exact d5 i hi, tp, by rw [s _ _ (by omega)]; exact t1, t2, fun l hl => ?_⟩
  obtain ⟨p, q, z1, z2, z3, z4⟩ := t3 l hl
  exact ⟨p, q, by rw [s _ _ (by omega)]; exact z1, by rw [e51]; exact z2, by rw [e51]; exact z3, z4⟩
theorem RDl.s24 {A : Hp} {cd : Nat → List Int} {h h' : Hp} (D : RDl A cd h) (s : Same S1424 h h') : RDl A cd h' := D.same (fun a k z => s _ _ (by unfold S1424; omega))
theorem eolS_f {b : Nat → Int} {n : Nat} {fl : Flw} {p : Nat} (q : fl ≠ none) : eolS b n fl p = fl := by
  unfold eolS
  by_cases z : tkK b n p = 59
  · rw [if_pos z]
  · rw [if_neg z]; exact rfS_some q
theorem m_j398 {b : Nat → Int} {n p : Nat} {fl : Flw} {h : Hp} (T : TRk b n h) (G : RGk b n fl p h) (hp : p ≤ n) : wp (fX6_line_j398 h) (fun r => Same S1424 h r.2 ∧ RGk b n (eolS b n fl p) (tkE b n p) r.2) := m_eol T G hp
theorem m_high {b : Nat → Int} {n p : Nat} {A : Hp} {cd : Nat → List Int} {h : Hp} (T : TRk b n h) (G : RGk b n none p h) (D : RDl A cd h) (B : PBd A) (hp : p ≤ n) (hk : kwN b n p = 2) :
    wp (fX6_line h) (fun r => Same SRr h r.2 ∧ RGk b n (hiS b n A p).1 (hiS b n A p).2.1 r.2 ∧ ((hiS b n A p).1 = none → RDl (hiS b n A p).2.2 cd r.2)) := by
  have hp1 := tkE_le (b := b) hp
  unfold fX6_line hiS
  dsimp only
  rw [m_knownWord (G.2 rfl) hp, hk, wp_bp, wp_some]
  refine w_t rfl ?_
  rw [wp_bd]
  refine (m_next T G hp).mono ?_
  rintro ⟨v1, h3⟩ ⟨g1, g2⟩
  dsimp only at g1 g2 ⊢
  have s3 : Same S1424 h h3 := SRk_24 g1
  have D3 := D.s24 s3
  rw [wp_bd, D3.1.2.2.2.2.2.2.1]
  refine (m_cellNext (T.same (fun k => s3 _ _ (by unfold S1424; omega))) g2 hp1 D3.1.1 D3.1.2.1 B.1 B.2.1).mono ?_
  rintro ⟨c, h6⟩ ⟨k1, k2, k4⟩
  dsimp only at k1 k2 k4 ⊢
  have rg := cellS_rg (b := b) (n := n) (fl := none) (used := A 8 6) (p := tkE b n p) B.1 B.2.1
  have hp2 : (cellS b n none (A 8 6) (A 8 0) (A 8 1) (tkE b n p)).2.2 ≤ n := cellS_le hp1
  generalize cellS b n none (A 8 6) (A 8 0) (A 8 1) (tkE b n p) = cs at *
  have s6 : Same S1424 h h6 := s3.tr k1
  rw [wp_bd]
  refine (m_number (T.same (fun k => s6 _ _ (by unfold S1424; omega))) k2 hp2 (by decide)).mono ?_
  rintro ⟨v, h9⟩ ⟨l1, l2, l4⟩
  dsimp only at l1 l2 l4 ⊢
  have nn : (nmS b n cs.1 0 9 cs.2.2).1 = none → cs.1 = none := fun z => (nmS_none z).1
  generalize nmS b n cs.1 0 9 cs.2.2 = vs at *
  have s9 : Same S1424 h h9 := s6.tr l1
  have D9 := D.s24 s9
  rw [m_isGood l2.1, wp_bp, wp_some]
  by_cases q : vs.1 = none
  · rw [if_pos q]
    refine w_f (by decide) ?_
    rw [k4 (nn q), l4 q, wp_lb, D9.1.2.2.2.2.2.2.1, gd_y ⟨rg.1, rg.2.2⟩, wp_lb]
    have s11 : Same SRr h (st (st h9 35 34 (l_or (A 8 6) (l_shl 1 cs.2.1))) 44 cs.2.1.toNat vs.2) := ((S1424_r s9).st (Or.inl ⟨rfl, by decide, by decide⟩)).st (Or.inr ⟨by decide, by decide⟩)
    have D11 : RDl (st (st A 8 6 (l_or (A 8 6) (l_shl 1 cs.2.1))) 0 cs.2.1.toNat vs.2) cd (st (st h9 35 34 (l_or (A 8 6) (l_shl 1 cs.2.1))) 44 cs.2.1.toNat vs.2) := by
      clear k4 l4 rg
      obtain ⟨⟨e1, e2, e3, e4, e5, e6, e7, e8⟩, d2, d3, d4, d5, tp, t1, t2, t3⟩ := D9
      refine ⟨⟨by simpa [st_at] using e1, by simpa [st_at] using e2, by simpa [st_at] using e3, by simpa [st_at] using e4, by simpa [st_at] using e5, by simpa [st_at] using e6, by simp [st_at], by simpa [st_at] using e8⟩, fun c hc => ?_, fun t ht => by simpa [st_at] using d3 t (by simpa [st_at] using ht), fun i hi => by simpa [st_at] using d4 i (by simpa [st_at] using hi), fun i hi => by simpa [st_at] using d5 i (by simpa [st_at] using hi), tp, by simpa [st_at] using t1, by simpa [st_at] using t2, fun l hl => ?_⟩
      · have := d2 c hc
        simp [st_at] at this ⊢
        rw [this]
      · obtain ⟨p', q', z1, z2, z3, z4⟩ := t3 l (by simpa [st_at] using hl)
        refine ⟨p', q', by simpa [st_at] using z1, ?_, by simpa [st_at] using z3, z4⟩
        have e51 : st (st h9 35 34 (l_or (A 8 6) (l_shl 1 cs.2.1))) 44 cs.2.1.toNat vs.2 51 = h9 51 := funext (fun k => by simp [st_at])
        rw [e51]
        exact z2
    generalize hE : st (st h9 35 34 (l_or (A 8 6) (l_shl 1 cs.2.1))) 44 cs.2.1.toNat vs.2 = h11 at *
    have G11 : RGk b n vs.1 (tkE b n cs.2.2) h11 := l2.same (fun k h1 h2 => by rw [← hE, st_na (by decide), st_nk (by omega)])
    refine (m_j398 (T.same (fun k => s11 _ _ (by unfold SRr; omega))) G11 (tkE_le hp2)).mono ?_
    rintro ⟨w, h12⟩ ⟨m1, m2⟩
    exact ⟨s11.tr (S1424_r m1), m2, fun _ => D11.s24 m1⟩
  · rw [if_neg q, eolS_f q]
    exact w_t rfl (wp_some.mpr ⟨S1424_r s9, ⟨l2.1, fun z => absurd z q⟩, fun z => absurd z q⟩)
