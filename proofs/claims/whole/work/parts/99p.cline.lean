/-! pure part: the lines of a text, the class -/
def esum (cd : Nat → List Int) : Nat → Nat
  | 0 => 0
  | l + 1 => esum cd l + (cd l).length
/-- what is read so far, as the class holds it: A 0 heights, A 1 the first row, A 4 and A 5 the houses, A 7 fogs, A 8 wide, deep, how many trees, houses, fogs, laws, cells told high, cells taken -/
def CDl (A : Hp) (cd : Nat → List Int) (L : Nat) (h : Hp) : Prop :=
  h 18 8 = (L : Int) ∧ (h L 0 = A 8 0 ∧ h L 1 = A 8 1 ∧ h 18 9 = A 8 2 ∧ h L 3 = A 8 3 ∧ h L 6 = A 8 4 ∧ h L 8 = A 8 5 ∧ h 18 10 = A 8 6 ∧ h 18 11 = A 8 7) ∧ (∀ c, c < 64 → h (L + 1) c = A 0 c) ∧ (∀ k, k < 62 → k ≠ 60 → h (L + 7) k = A 1 k) ∧ (∀ i : Nat, (i : Int) < A 8 3 → h (L + 2) i = A 4 i ∧ h (L + 3) i = A 5 i) ∧ (∀ i : Nat, (i : Int) < A 8 4 → h (L + 4) i = A 7 i) ∧ (∀ l : Nat, (l : Int) < A 8 5 → h (L + 5) l = (esum cd (l + 1) : Int) ∧ ∀ j, j < (cd l).length → h (L + 6) (esum cd l + j) = (cd l).getD j 0) ∧ h 18 14 = (esum cd (A 8 5).toNat : Int)
def PBd (A : Hp) : Prop := (1 ≤ A 8 0 ∧ A 8 0 ≤ 8) ∧ (1 ≤ A 8 1 ∧ A 8 1 ≤ 8) ∧ (0 ≤ A 8 2 ∧ A 8 2 ≤ 12) ∧ (0 ≤ A 8 3 ∧ A 8 3 ≤ 6) ∧ (0 ≤ A 8 4 ∧ A 8 4 ≤ 8) ∧ (0 ≤ A 8 5 ∧ A 8 5 ≤ 4)
def SLd (L : Nat) : Nat → Nat → Prop := fun a k => (a = 18 ∧ 2 ≤ k) ∨ a = 19 ∨ (L ≤ a ∧ a ≤ L + 7)
theorem S27_Ld {L : Nat} {h h' : Hp} (s : Same S27 h h') : Same (SLd L) h h' := s.mono (fun a k z => Or.inl ⟨z.1, z.2.1⟩)
theorem CDl.same {A : Hp} {cd : Nat → List Int} {L : Nat} {h h' : Hp} (D : CDl A cd L h) (hL : L = 1 ∨ L = 9) (s : Same S27 h h') : CDl A cd L h' := by
  obtain ⟨d1, ⟨e1, e2, e3, e4, e5, e6, e7, e8⟩, d3, d4, d5, d6, d7, d8⟩ := D
  have k18 : ∀ k, 8 ≤ k → h' 18 k = h 18 k := fun k hk => s _ _ (by unfold S27; omega)
  have kL : ∀ a k, L ≤ a → a ≤ L + 7 → h' a k = h a k := fun a k h1 h2 => s _ _ (by unfold S27; omega)
  refine ⟨by rw [k18 _ (by decide)]; exact d1, ⟨by rw [kL _ _ (by omega) (by omega)]; exact e1, by rw [kL _ _ (by omega) (by omega)]; exact e2, by rw [k18 _ (by decide)]; exact e3, by rw [kL _ _ (by omega) (by omega)]; exact e4, by rw [kL _ _ (by omega) (by omega)]; exact e5, by rw [kL _ _ (by omega) (by omega)]; exact e6, by rw [k18 _ (by decide)]; exact e7, by rw [k18 _ (by decide)]; exact e8⟩, fun c hc => by rw [kL _ _ (by omega) (by omega)]; exact d3 c hc, fun k h1 h2 => by rw [kL _ _ (by omega) (by omega)]; exact d4 k h1 h2, fun i hi => ⟨by rw [kL _ _ (by omega) (by omega)]; exact (d5 i hi).1, by rw [kL _ _ (by omega) (by omega)]; exact (d5 i hi).2⟩, fun i hi => by rw [kL _ _ (by omega) (by omega)]; exact d6 i hi, fun l hl => ⟨by rw [kL _ _ (by omega) (by omega)]; exact (d7 l hl).1, fun j hj => by rw [kL _ _ (by omega) (by omega)]; exact (d7 l hl).2 j hj⟩, by rw [k18 _ (by decide)]; exact d8⟩
def hiS (b : Nat → Int) (n : Nat) (A : Hp) (p : Nat) : Flw × Nat × Hp :=
  let c := cellS b n none (A 8 6) (A 8 0) (A 8 1) (tkE b n p)
  let v := nmS b n c.1 0 9 c.2.2
  (eolS b n v.1 (tkE b n c.2.2), tkE b n (tkE b n c.2.2), st (st A 8 6 (l_or (A 8 6) (l_shl 1 c.2.1))) 0 c.2.1.toNat v.2)
def trS (b : Nat → Int) (n : Nat) (A : Hp) (p : Nat) : Flw × Nat × Hp :=
  let c := cellS b n none (A 8 7) (A 8 0) (A 8 1) (tkE b n p)
  let v := nmS b n c.1 1 9 c.2.2
  let u := nmS b n v.1 v.2 9 (tkE b n c.2.2)
  (eolS b n u.1 (tkE b n (tkE b n c.2.2)), tkE b n (tkE b n (tkE b n c.2.2)), st (st (st (st (st A 8 7 (l_or (A 8 7) (l_shl 1 c.2.1))) 1 (A 8 2).toNat c.2.1) 1 (12 + (A 8 2).toNat) v.2) 1 (24 + (A 8 2).toNat) u.2) 8 2 (A 8 2 + 1))
def hoS (b : Nat → Int) (n : Nat) (kd : Int) (A : Hp) (p : Nat) : Flw × Nat × Hp :=
  let c := cellS b n none (A 8 7) (A 8 0) (A 8 1) (tkE b n p)
  let v := nmS b n c.1 0 999 c.2.2
  (eolS b n v.1 (tkE b n c.2.2), tkE b n (tkE b n c.2.2), st (st (st (st (st A 8 7 (l_or (A 8 7) (l_shl 1 c.2.1))) 4 (A 8 3).toNat c.2.1) 5 (A 8 3).toNat kd) 1 (36 + (A 8 3).toNat) v.2) 8 3 (A 8 3 + 1))
def szS (b : Nat → Int) (n : Nat) (A : Hp) (p : Nat) : Flw × Nat × Hp :=
  let v := nmS b n none 1 8 (tkE b n p)
  let u := nmS b n v.1 1 8 (tkE b n (tkE b n p))
  (eolS b n u.1 (tkE b n (tkE b n (tkE b n p))), tkE b n (tkE b n (tkE b n (tkE b n p))), st (st A 8 0 v.2) 8 1 u.2)
theorem tkE_le {b : Nat → Int} {n p : Nat} (h : p ≤ n) : tkE b n p ≤ n := (tk_rg h).2.2.1
theorem cellS_le {b : Nat → Int} {n : Nat} {fl : Flw} {used w d : Int} {p : Nat} (h : p ≤ n) : (cellS b n fl used w d p).2.2 ≤ n := tkE_le (tkE_le h)
theorem c_high {b : Nat → Int} {n p L : Nat} {A : Hp} {cd : Nat → List Int} {h : Hp} (T : TPk b n h) (C : CTk b n p h) (F : FLc none h) (D : CDl A cd L h) (B : PBd A) (hL : L = 1 ∨ L = 9) (hp : p ≤ n) :
    wp (fX2_readHeight h) (fun r => Same (SLd L) h r.2 ∧ FLc (hiS b n A p).1 r.2 ∧ CTk b n (hiS b n A p).2.1 r.2 ∧ CDl (hiS b n A p).2.2 cd L r.2) := by
  have hp1 := tkE_le (b := b) hp
  unfold fX2_readHeight hiS
  dsimp only
  rw [wp_bd]
  refine (c_next T C F hp).mono ?_
  rintro ⟨v1, h3⟩ ⟨g1, g2, g3⟩
  dsimp only at g1 g2 g3 ⊢
  have s3 : Same S27 h h3 := STk_27 g1
  have D3 := D.same hL s3
  rw [wp_bd, D3.2.1.2.2.2.2.2.2.1]
  refine (c_takenCell (T.same (fun k => s3 _ _ (by unfold S27; omega))) g2 g3 hp1 hL D3.1 D3.2.1.1 D3.2.1.2.1 B.1 B.2.1).mono ?_
  rintro ⟨c, h6⟩ ⟨k1, k2, k3, k4⟩
  dsimp only at k1 k2 k3 k4 ⊢
  have rg := cellS_rg (b := b) (n := n) (fl := none) (used := A 8 6) (p := tkE b n p) B.1 B.2.1
  have hp2 : (cellS b n none (A 8 6) (A 8 0) (A 8 1) (tkE b n p)).2.2 ≤ n := cellS_le hp1
  generalize cellS b n none (A 8 6) (A 8 0) (A 8 1) (tkE b n p) = cs at *
  have s6 : Same S27 h h6 := s3.tr k1
  rw [wp_bd]
  refine (c_takenNumber (T.same (fun k => s6 _ _ (by unfold S27; omega))) k2 k3 hp2).mono ?_
  rintro ⟨v, h9⟩ ⟨l1, l2, l3, l4⟩
  dsimp only at l1 l2 l3 l4 ⊢
  generalize nmS b n cs.1 0 9 cs.2.2 = vs at *
  have s9 : Same S27 h h9 := s6.tr l1
  rw [wp_bd]
  refine (c_takeEnd (T.same (fun k => s9 _ _ (by unfold S27; omega))) l2 l3 (tkE_le hp2)).mono ?_
  rintro ⟨w, h12⟩ ⟨m1, m2, m3⟩
  dsimp only at m1 m2 m3 ⊢
  have s12 : Same S27 h h12 := s9.tr m1
  have D12 := D.same hL s12
  rw [wp_lb, D12.2.1.2.2.2.2.2.2.1, k4]
  have y8 : st h12 18 10 (l_or (A 8 6) (l_shl 1 cs.2.1)) 18 8 = (L : Int) := by rw [st_nk (by decide)]; exact D12.1
  rw [gd_y (by rw [y8]; clear y8 k4 l4; omega), y8, gd_y (by clear y8 k4 l4; omega), wp_lb, wp_some, l4]
  have l1' : ((L : Int) + 1).toNat = L + 1 := by clear y8 k4 l4; omega
  rw [l1']
  dsimp only
  obtain ⟨d1, ⟨e1, e2, e3, e4, e5, e6, e7, e8⟩, d3, d4, d5, d6, d7, d8⟩ := D12
  refine ⟨((S27_Ld s12).st (Or.inl ⟨rfl, by decide⟩)).st (Or.inr (Or.inr ⟨by omega, by omega⟩)), m3.same ?_ ?_, m2.same (fun k h1 h2 => ?_), ?_⟩
  · rw [st_na (by omega), st_nk (by decide)]
  · rw [st_na (by omega), st_nk (by decide)]
  · rw [st_na (by omega), st_nk (by omega)]
  · clear y8 k4 l4 rg
    rcases hL with rfl | rfl
    · refine ⟨by simpa [st_at] using d1, ⟨by simpa [st_at] using e1, by simpa [st_at] using e2, by simpa [st_at] using e3, by simpa [st_at] using e4, by simpa [st_at] using e5, by simpa [st_at] using e6, by simp [st_at], by simpa [st_at] using e8⟩, fun c hc => ?_, fun k h1 h2 => by simpa [st_at] using d4 k h1 h2, fun i hi => by simpa [st_at] using d5 i (by simpa [st_at] using hi), fun i hi => by simpa [st_at] using d6 i (by simpa [st_at] using hi), fun l hl => by simpa [st_at] using d7 l (by simpa [st_at] using hl), by simpa [st_at] using d8⟩
      have := d3 c hc
      simp [st_at] at this ⊢
      rw [this]
    · refine ⟨by simpa [st_at] using d1, ⟨by simpa [st_at] using e1, by simpa [st_at] using e2, by simpa [st_at] using e3, by simpa [st_at] using e4, by simpa [st_at] using e5, by simpa [st_at] using e6, by simp [st_at], by simpa [st_at] using e8⟩, fun c hc => ?_, fun k h1 h2 => by simpa [st_at] using d4 k h1 h2, fun i hi => by simpa [st_at] using d5 i (by simpa [st_at] using hi), fun i hi => by simpa [st_at] using d6 i (by simpa [st_at] using hi), fun l hl => by simpa [st_at] using d7 l (by simpa [st_at] using hl), by simpa [st_at] using d8⟩
      have := d3 c hc
      simp [st_at] at this ⊢
      rw [this]
