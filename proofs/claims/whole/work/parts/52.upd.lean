/-! pure part: rows and scenes changed at one place -/
def up (f : Nat → Int) (k : Nat) (v : Int) : Nat → Int := fun j => if j = k then v else f j
theorem up_s {f : Nat → Int} {k : Nat} {v : Int} : up f k v k = v := if_pos rfl
theorem up_n {f : Nat → Int} {k : Nat} {v : Int} {j : Nat} (n : j ≠ k) : up f k v j = f j := if_neg n
theorem i32_add (a b : Int) : Int32.ofInt (i_add a b) = Int32.ofInt (a + b) := by
  unfold i_add
  rw [i32_to, Int32.ofInt_add]
theorem i32_sub (a b : Int) : Int32.ofInt (i_sub a b) = Int32.ofInt (a - b) := by
  unfold i_sub
  rw [i32_to, Int32.ofInt_sub]
theorem i32_neg (a : Int) : Int32.ofInt (i_neg a) = Int32.ofInt (-a) := by
  unfold i_neg
  rw [i32_to, Int32.ofInt_neg]
theorem i_add_of (a b : Int) : i_add a b = (Int32.ofInt (a + b)).toInt := by
  unfold i_add
  rw [Int32.ofInt_add]
theorem i_add_cong {a a' b b' : Int} (h1 : Int32.ofInt a = Int32.ofInt a') (h2 : Int32.ofInt b = Int32.ofInt b') : i_add a b = i_add a' b' := by
  unfold i_add
  rw [h1, h2]
/-- a + x, then v - a more: v + x -/
theorem ia_shift {a x v : Int} : i_add (i_add a x) (i_sub v a) = i_add v x := by
  rw [i_add_cong (i32_add a x) (i32_sub v a), i_add_of, i_add_of, show a + x + (v - a) = v + x by omega]
theorem ia_undo {a x : Int} (h : in32 a) : i_add (i_add a x) (i_neg x) = a := by
  rw [i_add_cong (i32_add a x) (i32_neg x), i_add_of, show a + x + -x = a by omega, i32_of h]
theorem ia_assoc {a x y : Int} : i_add (i_add a x) y = i_add a (i_add x y) := by
  rw [i_add_cong (i32_add a x) rfl, i_add_cong (a := a) (b := i_add x y) rfl (i32_add x y), i_add_of, i_add_of, Int.add_assoc]
theorem tIn_yes {ro : Nat → Int} {c : Int} (h : tIn ro c ≠ -1) : ∃ t : Nat, t < 12 ∧ tIn ro c = (t : Int) ∧ ro t = c := by
  obtain ⟨t, a, b, d, -⟩ := fi_yes h
  exact ⟨t, a, b, by simpa using d⟩
theorem tIn_at {D : LD} {Y : Nat} {ro : Nat → Int} {t : Nat} {c : Int} (R : RW D Y ro) (ht : t < 12) (e : ro t = c) (hc : c ≠ -1) : tIn ro c = (t : Int) := by
  refine fi_at ht (by simp [e]) (fun j hj => ?_)
  simp only [decide_eq_false_iff_not]
  intro q
  have := (R.1 t ht (by omega)).2.2.2.2 j (by omega) (by omega)
  omega
theorem tIn_no {ro : Nat → Int} {c : Int} : tIn ro c = -1 ↔ ∀ t, t < 12 → ro t ≠ c := by
  unfold tIn
  rw [fi_no]
  simp
theorem hIn_no {D : LD} {c : Int} : hIn D c = -1 ↔ ∀ i, i < D.nh → (D.hc i : Int) ≠ c := by
  unfold hIn
  rw [fi_no]
  simp
theorem hIn_at {D : LD} {i : Nat} (W : DW D) (hi : i < D.nh) : hIn D (D.hc i : Int) = (i : Int) := by
  refine fi_at hi (by simp) (fun j hj => ?_)
  simp only [decide_eq_false_iff_not]
  intro q
  have := W.2.2.2.2.2.2.1 j i (by omega) hi (by omega)
  omega
theorem hIn_tree {D : LD} {Y : Nat} {ro : Nat → Int} {t : Nat} (R : RW D Y ro) (ht : t < 12) (hn : ro t ≠ -1) : hIn D (ro t) = -1 := hIn_no.mpr (fun i hi q => (R.1 t ht hn).2.2.2.1 i hi q.symm)
theorem tIn_house {D : LD} {Y : Nat} {ro : Nat → Int} {i : Nat} (R : RW D Y ro) (hi : i < D.nh) : tIn ro (D.hc i : Int) = -1 := tIn_no.mpr (fun t ht q => (R.1 t ht (by omega)).2.2.2.1 i hi q)
/-- how a cell stands -/
theorem lay_house {D : LD} {ht ro : Nat → Int} {i : Nat} (W : DW D) (hi : i < D.nh) : lay D ht ro (D.hc i) = i_add (ht (D.hc i)) (i_add 2 (ro (48 + i))) := by
  unfold lay
  rw [hIn_at W hi, if_neg (by omega), Int.toNat_natCast]
theorem lay_tree {D : LD} {Y : Nat} {ht ro : Nat → Int} {t c : Nat} (R : RW D Y ro) (h : t < 12) (e : ro t = (c : Int)) : lay D ht ro c = i_add (ht c) (ro (12 + t)) := by
  have h1 := hIn_tree R h (by omega)
  rw [e] at h1
  unfold lay
  rw [h1, if_pos rfl, tIn_at R h e (by omega), if_neg (by omega), Int.toNat_natCast]
theorem lay_none {D : LD} {ht ro : Nat → Int} {c : Nat} (T : HT D ht) (hc : c < D.cl) (h1 : hIn D (c : Int) = -1) (h2 : tIn ro (c : Int) = -1) : lay D ht ro c = ht c := by
  have := T c hc
  unfold lay
  rw [h1, if_pos rfl, h2, if_pos rfl, iadd0 ⟨by omega, by omega⟩]
/-- a tree less -/
theorem RW.drop {D : LD} {Y : Nat} {ro : Nat → Int} {t : Nat} (R : RW D Y ro) (ht : t < 12) : RW D Y (up ro t (-1)) := by
  obtain ⟨r1, r2, r3, r4⟩ := R
  refine ⟨fun u hu hn => ?_, fun i hi => ?_, ?_, ?_⟩
  · by_cases e : u = t
    · subst e
      rw [up_s] at hn
      exact absurd rfl hn
    · rw [up_n e] at hn
      obtain ⟨a, b, c, d, f⟩ := r1 u hu hn
      rw [up_n e, up_n (by omega), up_n (by omega)]
      refine ⟨a, b, c, d, fun v hv q => ?_⟩
      by_cases e2 : v = t
      · subst e2
        rw [up_s] at q
        exact absurd q.symm hn
      · rw [up_n e2] at q
        exact f v hv q
  · rw [up_n (by omega), up_n (by omega), up_n (by omega), up_n (by omega)]
    exact r2 i hi
  · rw [up_n (by omega)]; exact r3
  · rw [up_n (by omega)]; exact r4
theorem RR.drop {D : LD} {ro r : Nat → Int} {t : Nat} (R : RR D ro r) (ht : t < 12) : RR D (up ro t (-1)) (up r t (-1)) := by
  obtain ⟨r1, r2, r3, r4, r5⟩ := R
  refine ⟨fun u hu => ?_, fun u hu hn => ?_, fun i hi => ?_, ?_, ?_⟩
  · by_cases e : u = t
    · subst e
      rw [up_s, up_s]
    · rw [up_n e, up_n e]
      exact r1 u hu
  · by_cases e : u = t
    · subst e
      rw [up_s] at hn
      exact absurd rfl hn
    · rw [up_n e] at hn
      rw [up_n (by omega), up_n (by omega), up_n (by omega), up_n (by omega)]
      exact r2 u hu hn
  · rw [up_n (by omega), up_n (by omega), up_n (by omega), up_n (by omega), up_n (by omega), up_n (by omega), up_n (by omega), up_n (by omega)]
    exact r3 i hi
  · rw [up_n (by omega), up_n (by omega)]; exact r4
  · rw [up_n (by omega), up_n (by omega)]; exact r5
theorem lay_drop {D : LD} {Y : Nat} {ht ro : Nat → Int} {t c0 c : Nat} (T : HT D ht) (R : RW D Y ro) (h : t < 12) (e : ro t = (c0 : Int)) (hc : c < D.cl) : lay D ht (up ro t (-1)) c = if c = c0 then i_add (lay D ht ro c) (i_neg (ro (12 + t))) else lay D ht ro c := by
  have R' := R.drop (t := t) h
  by_cases q : c = c0
  · subst q
    have hb := T c hc
    have h1 := hIn_tree R h (by omega)
    rw [e] at h1
    have h2 : tIn (up ro t (-1)) (c : Int) = -1 := tIn_no.mpr (fun u hu q => by
      by_cases e2 : u = t
      · subst e2; rw [up_s] at q; omega
      · rw [up_n e2] at q
        exact e2 ((R.1 t h (by omega)).2.2.2.2 u hu (by omega)))
    rw [if_pos rfl, lay_none T hc h1 h2, lay_tree R h e, ia_undo ⟨by omega, by omega⟩]
  · rw [if_neg q]
    unfold lay
    have h2 : tIn (up ro t (-1)) (c : Int) = tIn ro (c : Int) := fi_congr (fun u hu => by
      by_cases e2 : u = t
      · subst e2
        rw [up_s, e]
        have a1 : ¬ ((-1 : Int) = (c : Int)) := by omega
        have a2 : ¬ ((c0 : Int) = (c : Int)) := by omega
        simp [a1, a2]
      · rw [up_n e2])
    have h3 : ∀ k, 12 ≤ k → up ro t (-1) k = ro k := fun k hk => up_n (by omega)
    rw [h2, h3 _ (by omega), h3 _ (by omega)]
theorem st_up {h : Hp} {a k : Nat} {v : Int} : st h a k v a = up (h a) k v := by
  funext j
  unfold st up
  by_cases e : j = k
  · rw [if_pos ⟨rfl, e⟩, if_pos e]
  · rw [if_neg (fun q => e q.2), if_neg e]
/-- the class fells a tree in its scene -/
theorem c_dropTree {D : LD} {Y : Nat} {ht ro : Nat → Int} {fog L t : Nat} {h : Hp} (W : DW D) (T : HT D ht) (R : RW D Y ro) (H : CS D ht (lay D ht ro) ro fog L h) (h12 : t < 12) (hn : ro t ≠ -1) :
    wp (fX3_dropTree (t : Int) h) (fun r => r.1 = 0 ∧ Same SC h r.2 ∧ CS D ht (lay D ht (up ro t (-1))) (up ro t (-1)) fog L r.2) := by
  have hc64 : D.cl ≤ 64 := cl64 W.1.2 W.2.1.2
  obtain ⟨hL, a1, a2, a3, a4, a5, a6, a7⟩ := H
  have rt := R.1 t h12 hn
  obtain ⟨c0, e0⟩ : ∃ c0 : Nat, ro t = (c0 : Int) := ⟨(ro t).toNat, by omega⟩
  have hc0 : c0 < D.cl := by omega
  unfold fX3_dropTree
  rw [i0 (by omega), show (12 : Int) = ((12 : Nat) : Int) from rfl, ik (by omega) (by decide), Int.toNat_natCast, Int.toNat_natCast, a5.1 t h12, (a5.2.1 t h12 hn).1, e0, c_raiseN (by omega)]
  simp only [wp_gd, wp_bd, wp_lb, wp_some]
  refine ⟨⟨by omega, by omega⟩, ⟨by omega, by omega⟩, ⟨by omega, by omega⟩, trivial, (st_same (P := SC) ⟨by decide, by decide⟩).st ⟨by decide, by decide⟩, hL, ?_, ?_, fun c hc => ?_, fun c hc => ?_, ?_, ?_, a7⟩
  · rw [st_na (by decide), st_na (by decide)]; exact a1
  · exact a2.same (fun a k q1 q2 => by rw [st_na (by omega), st_na (by omega)])
  · rw [st_na (by decide), st_na (by decide)]; exact a3 c hc
  · rw [st_na (by decide), lay_drop T R h12 e0 hc]
    by_cases q : c = c0
    · subst q
      rw [if_pos rfl, st_self, a4 c hc]
    · rw [if_neg q, st_nk q, a4 c hc]
  · rw [st_up, show st h 23 c0 _ 21 = h 21 from funext (fun k => st_na (by decide))]
    exact a5.drop h12
  · rw [st_na (by decide), st_na (by decide)]; exact a6
