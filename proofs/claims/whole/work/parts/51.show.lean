/-! pure part: the class's scene as it is now -/
theorem c_raise {c v : Int} {h : Hp} : fX3_raise c v h = some (0, if 0 ≤ c ∧ c < 64 then st h 23 c.toNat (i_add (h 23 c.toNat) v) else h) := by
  unfold fX3_raise
  by_cases h1 : c < 0
  · rw [if_pos h1, if_neg (by omega)]
  · rw [if_neg h1]
    by_cases h2 : ((64 : Nat) : Int) ≤ c
    · rw [if_pos h2, if_neg (by omega)]
    · rw [if_neg h2, gd_y ⟨by omega, by omega⟩, gd_y ⟨by omega, by omega⟩, if_pos ⟨by omega, by omega⟩]
      rfl
theorem c_raiseN {c : Nat} {v : Int} {h : Hp} (hc : c < 64) : fX3_raise (c : Int) v h = some (0, st h 23 c (i_add (h 23 c) v)) := by
  rw [c_raise, if_pos ⟨by omega, by omega⟩, Int.toNat_natCast]
theorem c_cells {D : LD} {L : Nat} {h : Hp} (W : DW D) (hL : L = 1 ∨ L = 9) (H : CL D L h) : fX1_cells (L : Int) h = some (D.cl : Int) := by
  have hc64 : D.cl ≤ 64 := cl64 W.1.2 W.2.1.2
  unfold fX1_cells
  have e : ((D.cl : Nat) : Int) = (D.w : Int) * (D.d : Int) := Int.natCast_mul _ _
  rw [gd_y (by omega), Int.toNat_natCast, H.1, H.2.1, i_mul_eq ⟨by omega, by omega⟩, e]
theorem c_fogOf {D : LD} {L : Nat} {h : Hp} {y : Int} (W : DW D) (hL : L = 1 ∨ L = 9) (H : CL D L h) (hy : 0 ≤ y ∧ y < 1000000) : fX1_fogOf (L : Int) y h = some (fogY D y : Int) := by
  have hf8 := W.2.2.2.2.1
  have l4 : ((L : Int) + 4).toNat = L + 4 := by omega
  obtain ⟨n, rfl⟩ : ∃ n : Nat, y = (n : Int) := ⟨y.toNat, by omega⟩
  unfold fX1_fogOf fogY
  rw [gd_y (by omega), Int.toNat_natCast, H.2.2.2.2.1]
  by_cases h0 : D.nf = 0
  · rw [if_pos h0, if_pos (by omega)]
    rfl
  · have hlt : n % D.nf < D.nf := Nat.mod_lt _ (by omega)
    rw [if_neg h0, if_neg (by omega), if_neg (by omega), i_rem_nat (by omega) (by omega), gd_y (by omega), gd_y ⟨Int.natCast_nonneg _, by omega⟩, Int.toNat_natCast, l4, Int.toNat_natCast, H.2.2.2.2.2.2.2.1 _ hlt]
    have := W.2.2.2.2.2.2.2.1 _ hlt
    rw [Int.toNat_of_nonneg (by omega)]
theorem fogY_9 {D : LD} {y : Int} (W : DW D) : fogY D y ≤ 9 := by
  unfold fogY
  split
  · decide
  · next h0 =>
    have hlt : y.toNat % D.nf < D.nf := Nat.mod_lt _ (by omega)
    have := W.2.2.2.2.2.2.2.1 _ hlt
    omega
def S23 : Nat → Nat → Prop := fun a _ => a = 23
def SC : Nat → Nat → Prop := fun a _ => 20 ≤ a ∧ a ≤ 25
def HT (D : LD) (ht : Nat → Int) : Prop := ∀ c, c < D.cl → 0 ≤ ht c ∧ ht c ≤ 9
/-- what the class holds ahead of a question: land, row -/
def LB (D : LD) (ht ro : Nat → Int) (L : Nat) (h : Hp) : Prop := (L = 1 ∨ L = 9) ∧ h 0 0 = (L : Int) ∧ CL D L h ∧ (∀ c, c < D.cl → h (L + 1) c = ht c) ∧ RR D ro (h 27)
def ltr (ht ro : Nat → Int) (k c : Nat) : Int := if fi (fun t => decide (ro t = (c : Int))) k = -1 then ht c else i_add (ht c) (ro (12 + (fi (fun t => decide (ro t = (c : Int))) k).toNat))
def lhs (D : LD) (ht ro : Nat → Int) (k c : Nat) : Int := if fi (fun i => decide ((D.hc i : Int) = (c : Int))) k = -1 then ltr ht ro 12 c else i_add (ht c) (i_add 2 (ro (48 + (fi (fun i => decide ((D.hc i : Int) = (c : Int))) k).toNat)))
theorem fi_0 {p : Nat → Bool} : fi p 0 = -1 := rfl
theorem ltr_0 {ht ro : Nat → Int} {c : Nat} : ltr ht ro 0 c = ht c := by
  unfold ltr
  rw [if_pos fi_0]
theorem lhs_0 {D : LD} {ht ro : Nat → Int} {c : Nat} : lhs D ht ro 0 c = ltr ht ro 12 c := by
  unfold lhs
  rw [if_pos fi_0]
theorem ltr_s {D : LD} {Y : Nat} {ht ro : Nat → Int} {k c : Nat} (R : RW D Y ro) (hk : k < 12) : ltr ht ro (k + 1) c = if ro k = (c : Int) then i_add (ltr ht ro k c) (ro (12 + k)) else ltr ht ro k c := by
  unfold ltr
  by_cases e : ro k = (c : Int)
  · have h1 : fi (fun t => decide (ro t = (c : Int))) k = -1 := fi_no.mpr (fun i hi => by
      have := (R.1 k hk (by omega)).2.2.2.2 i (by omega)
      simp only [decide_eq_false_iff_not]
      intro q
      exact absurd (this (by rw [q, e])) (by omega))
    have h2 : fi (fun t => decide (ro t = (c : Int))) (k + 1) = (k : Int) := fi_at (by omega) (by simp [e]) (fi_no.mp h1)
    rw [if_pos e, h1, h2, if_neg (by omega), if_pos rfl, Int.toNat_natCast]
  · have h2 : fi (fun t => decide (ro t = (c : Int))) (k + 1) = fi (fun t => decide (ro t = (c : Int))) k := by
      conv => lhs; unfold fi
      by_cases h1 : fi (fun t => decide (ro t = (c : Int))) k = -1
      · rw [if_pos h1, if_neg (by simp [e]), h1]
      · rw [if_neg h1]
    rw [if_neg e, h2]
theorem lhs_s {D : LD} {Y : Nat} {ht ro : Nat → Int} {k c : Nat} (W : DW D) (R : RW D Y ro) (hk : k < D.nh) : lhs D ht ro (k + 1) c = if D.hc k = c then i_add (lhs D ht ro k c) (i_add 2 (ro (48 + k))) else lhs D ht ro k c := by
  unfold lhs
  by_cases e : D.hc k = c
  · have h1 : fi (fun i => decide ((D.hc i : Int) = (c : Int))) k = -1 := fi_no.mpr (fun i hi => by
      simp only [decide_eq_false_iff_not]
      intro q
      have := W.2.2.2.2.2.2.1 i k (by omega) hk (by omega)
      omega)
    have h2 : fi (fun i => decide ((D.hc i : Int) = (c : Int))) (k + 1) = (k : Int) := fi_at (by omega) (by simp [e]) (fi_no.mp h1)
    have h3 : ltr ht ro 12 c = ht c := by
      unfold ltr
      rw [if_pos]
      refine fi_no.mpr (fun t ht => ?_)
      simp only [decide_eq_false_iff_not]
      intro q
      exact (R.1 t ht (by omega)).2.2.2.1 k hk (by rw [q, e])
    rw [if_pos e, h1, h2, if_neg (by omega), if_pos rfl, Int.toNat_natCast, h3]
  · have h2 : fi (fun i => decide ((D.hc i : Int) = (c : Int))) (k + 1) = fi (fun i => decide ((D.hc i : Int) = (c : Int))) k := by
      conv => lhs; unfold fi
      have e' : ¬ ((D.hc k : Int) = (c : Int)) := by omega
      by_cases h1 : fi (fun i => decide ((D.hc i : Int) = (c : Int))) k = -1
      · rw [if_pos h1, if_neg (by simp [e']), h1]
      · rw [if_neg h1]
    rw [if_neg e, h2]
theorem iadd0 {x : Int} (h : in32 x) : i_add x 0 = x := by rw [i_add_eq (by rw [Int.add_zero]; exact h), Int.add_zero]
theorem lhs_lay {D : LD} {ht ro : Nat → Int} {c : Nat} (T : HT D ht) (hc : c < D.cl) : lhs D ht ro D.nh c = lay D ht ro c := by
  have := T c hc
  unfold lhs lay ltr
  show (if hIn D (c : Int) = -1 then (if tIn ro (c : Int) = -1 then ht c else i_add (ht c) (ro (12 + (tIn ro (c : Int)).toNat))) else i_add (ht c) (i_add 2 (ro (48 + (hIn D (c : Int)).toNat)))) = _
  by_cases h1 : hIn D (c : Int) = -1
  · rw [if_pos h1, if_pos h1]
    by_cases h2 : tIn ro (c : Int) = -1
    · rw [if_pos h2, if_pos h2, iadd0 ⟨by omega, by omega⟩]
    · rw [if_neg h2, if_neg h2]
  · rw [if_neg h1, if_neg h1]
theorem c_show {D : LD} {Y : Nat} {ht ro : Nat → Int} {L : Nat} {h : Hp} (W : DW D) (R : RW D Y ro) (hY : Y < 1000000) (T : HT D ht) (H : LB D ht ro L h) :
    wp (fX3_show_27 (L : Int) h) (fun r => r.1 = 0 ∧ Same SC h r.2 ∧ CS D ht (lay D ht ro) ro (fogY D (ro 61)) L r.2) := by
  have hc64 : D.cl ≤ 64 := cl64 W.1.2 W.2.1.2
  have hn6 := W.2.2.1
  obtain ⟨hL, h0, hCL, hht, hrr⟩ := H
  have l1 : ((L : Int) + 1).toNat = L + 1 := by omega
  have l2 : ((L : Int) + 2).toNat = L + 2 := by omega
  unfold fX3_show_27
  simp only [wp_gd, wp_lb, wp_bp, l1]
  refine ⟨by decide, by omega, by decide, by decide, ?_⟩
  generalize hh8 : cpy (cpy (cpy (st h 20 0 (L : Int)) 27 21 (Int.toNat 0) (Int.toNat 0) (Int.toNat 62)) (L + 1) 22 (Int.toNat 0) (Int.toNat 0) (Int.toNat 64)) (L + 1) 23 (Int.toNat 0) (Int.toNat 0) (Int.toNat 64) = h8
  have s8 : Same SC h h8 := by
    rw [← hh8]
    exact (((st_same (P := SC) ⟨by decide, by decide⟩).tr (cpy_same (P := SC) (fun k _ _ => ⟨by decide, by decide⟩))).tr (cpy_same (P := SC) (fun k _ _ => ⟨by decide, by decide⟩))).tr (cpy_same (P := SC) (fun k _ _ => ⟨by decide, by decide⟩))
  have v0 : h8 20 0 = (L : Int) := by rw [← hh8]; simp [cpy, st]
  have v21 : ∀ k, k < 62 → h8 21 k = h 27 k := fun k hk => by rw [← hh8]; simp [cpy, st, hk]
  have v22 : ∀ c, c < 64 → h8 22 c = h (L + 1) c := fun c hc => by
    rw [← hh8]
    have : L + 1 ≠ 21 ∧ L + 1 ≠ 20 := by omega
    simp [cpy, st, hc, this.1, this.2]
  have v23 : ∀ c, c < 64 → h8 23 c = h (L + 1) c := fun c hc => by
    rw [← hh8]
    have : L + 1 ≠ 21 ∧ L + 1 ≠ 20 ∧ L + 1 ≠ 22 := by omega
    simp [cpy, st, hc, this.1, this.2.1, this.2.2]
  clear hh8
  have hCL8 : CL D L h8 := hCL.same (fun a k q1 q2 => s8 _ _ (by unfold SC; omega))
  have R8 : RR D ro (h8 21) := by
    obtain ⟨q1, q2, q3, q4, q5⟩ := hrr
    refine ⟨fun t ht => by rw [v21 _ (by omega)]; exact q1 t ht, fun t ht n => by rw [v21 _ (by omega), v21 _ (by omega)]; exact q2 t ht n, fun i hi => ?_, by rw [v21 _ (by omega)]; exact q4, by rw [v21 _ (by omega)]; exact q5⟩
    rw [v21 _ (by omega), v21 _ (by omega), v21 _ (by omega), v21 _ (by omega)]
    exact q3 i hi
  have loop1 : wp (it_ (fun s : Int × Hp => fX3_show_27_l49 s.1 s.2) FU (0, h8)) (fun hq => Same S23 h8 hq ∧ ∀ c, c < D.cl → hq 23 c = ltr ht ro 12 c) := by
    refine wp_for (fun k s => s.1 = (k : Int) ∧ Same S23 h8 s.2 ∧ ∀ c, c < D.cl → s.2 23 c = ltr ht ro k c) 12 ?_ ?_ (FU_big (by decide)) ⟨rfl, Same.rf, fun c hc => by show h8 23 c = _; rw [v23 c (by omega), hht c hc, ltr_0]⟩
    · rintro k ⟨x, hh⟩ hk ⟨e1, e2, e3⟩
      dsimp only at e1 e2 e3 ⊢
      subst e1
      have b0 : hh 21 k = ro k := by rw [e2 _ _ (by unfold S23; omega)]; exact R8.1 k hk
      have b12 : ro k ≠ -1 → hh 21 (12 + k) = ro (12 + k) := fun n => by rw [e2 _ _ (by unfold S23; omega)]; exact (R8.2.1 k hk n).1
      have rr := R.1 k hk
      unfold fX3_show_27_l49
      rw [i0 (by omega), show (12 : Int) = ((12 : Nat) : Int) from rfl, ik (by omega) (by decide), Int.toNat_natCast, Int.toNat_natCast, b0, c_raise]
      simp only [wp_ite, wp_gd, wp_bd, wp_some, E2_l]
      refine ⟨fun q => absurd q (by omega), fun _ => ⟨⟨by omega, by omega⟩, ⟨by omega, by omega⟩, i1 (by omega), ?_, ?_⟩⟩
      · split
        · exact e2.st rfl
        · exact e2
      · intro c hc
        rw [ltr_s R hk]
        by_cases n : ro k = -1
        · rw [if_neg (by omega), if_neg (by omega)]
          exact e3 c hc
        · have r1 := (rr n).1
          rw [if_pos ⟨by omega, by omega⟩, b12 n]
          by_cases e : ro k = (c : Int)
          · rw [if_pos e, e, Int.toNat_natCast, st_self, e3 c hc]
          · rw [if_neg e, st_nk (by omega)]
            exact e3 c hc
    · rintro ⟨x, hh⟩ ⟨e1, e2, e3⟩
      dsimp only at e1 e2 e3 ⊢
      subst e1
      unfold fX3_show_27_l49
      simp only [wp_ite, wp_some, E2_r]
      exact ⟨fun _ => ⟨e2, e3⟩, fun q => absurd (by decide) q⟩
  refine loop1.mono ?_
  rintro h17 ⟨s17, v17⟩
  have loop2 : wp (it_ (fun s : Int × Hp => fX3_show_27_l84 s.1 s.2) FU (0, h17)) (fun hq => Same S23 h8 hq ∧ ∀ c, c < D.cl → hq 23 c = lhs D ht ro D.nh c) := by
    refine wp_for (fun k s => s.1 = (k : Int) ∧ Same S23 h8 s.2 ∧ ∀ c, c < D.cl → s.2 23 c = lhs D ht ro k c) D.nh ?_ ?_ (FU_big (by omega)) ⟨rfl, s17, fun c hc => by show h17 23 c = _; rw [v17 c hc, lhs_0]⟩
    · rintro k ⟨x, hh⟩ hk ⟨e1, e2, e3⟩
      dsimp only at e1 e2 e3 ⊢
      subst e1
      have b0 : hh 20 0 = (L : Int) := by rw [e2 _ _ (by unfold S23; omega)]; exact v0
      have C' : CL D L hh := hCL8.same (fun a k q1 q2 => e2 _ _ (by unfold S23; omega))
      have b48 : hh 21 (48 + k) = ro (48 + k) := by rw [e2 _ _ (by unfold S23; omega)]; exact (R8.2.2.1 k hk).2.2.1
      have hcc := W.2.2.2.2.2.1 k hk
      unfold fX3_show_27_l84
      rw [show (48 : Int) = ((48 : Nat) : Int) from rfl, ik (by omega) (by decide), b0, Int.toNat_natCast, Int.toNat_natCast, Int.toNat_natCast, l2, C'.2.2.1, C'.2.2.2.2.2.1 k hk, b48, c_raiseN (by omega)]
      simp only [wp_ite, wp_gd, wp_bd, wp_some, E2_l]
      refine ⟨by omega, fun q => absurd q (by omega), fun _ => ⟨⟨by omega, by omega⟩, ⟨by omega, by omega⟩, i1 (by omega), e2.st rfl, ?_⟩⟩
      intro c hc
      rw [lhs_s W R hk]
      by_cases e : D.hc k = c
      · rw [if_pos e, e, st_self, e3 c hc]
      · rw [if_neg e, st_nk (by omega)]
        exact e3 c hc
    · rintro ⟨x, hh⟩ ⟨e1, e2, e3⟩
      dsimp only at e1 e2 e3 ⊢
      subst e1
      have b0 : hh 20 0 = (L : Int) := by rw [e2 _ _ (by unfold S23; omega)]; exact v0
      have C' : CL D L hh := hCL8.same (fun a k q1 q2 => e2 _ _ (by unfold S23; omega))
      unfold fX3_show_27_l84
      rw [b0, Int.toNat_natCast, C'.2.2.1]
      simp only [wp_ite, wp_gd, wp_some, E2_r]
      exact ⟨by omega, fun _ => ⟨e2, e3⟩, fun q => absurd (Int.le_refl _) q⟩
  refine loop2.mono ?_
  rintro h27 ⟨s27, v27⟩
  have b0 : h27 20 0 = (L : Int) := by rw [s27 _ _ (by unfold S23; omega)]; exact v0
  have C' : CL D L h27 := hCL8.same (fun a k q1 q2 => s27 _ _ (by unfold S23; omega))
  have RR27 : RR D ro (h27 21) := R8.same (fun k => s27 _ _ (by unfold S23; omega))
  have y61 : h27 21 (Int.toNat 61) = ro 61 := RR27.2.2.2.2
  have hy := R.2.2.2
  rw [b0, y61, c_fogOf W hL C' ⟨hy.1, by omega⟩]
  simp only [wp_gd, wp_some]
  refine ⟨by decide, by omega, trivial, ?_, hL, ?_, ?_, fun c hc => ?_, fun c hc => ?_, RR27.same (fun k => st_na (by decide)), st_self, fogY_9 W⟩
  · exact (s8.tr (s27.mono (fun a k p => by unfold S23 at p; unfold SC; omega))).st ⟨by decide, by decide⟩
  · rw [st_nk (by decide)]; exact b0
  · exact C'.same (fun a k q1 q2 => st_na (by omega))
  · rw [st_na (by decide), s27 _ _ (by unfold S23; omega), v22 c (by omega), hht c hc]
  · rw [st_na (by decide), v27 c hc, lhs_lay T hc]
theorem c_present {D : LD} {Y : Nat} {ht ro : Nat → Int} {L : Nat} {h : Hp} (W : DW D) (R : RW D Y ro) (hY : Y < 1000000) (T : HT D ht) (H : LB D ht ro L h) :
    wp (fX5_present h) (fun r => r.1 = 20 ∧ Same SC h r.2 ∧ CS D ht (lay D ht ro) ro (fogY D (ro 61)) L r.2) := by
  unfold fX5_present
  simp only [wp_bd, H.2.1]
  refine (c_show W R hY T H).mono ?_
  rintro r ⟨-, b⟩
  simp only [wp_some]
  exact ⟨rfl, b⟩
