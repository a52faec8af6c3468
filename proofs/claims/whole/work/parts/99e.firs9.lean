/-! pure part: firs, what it leaves -/
def SG : Nat → Nat → Prop := fun a k => ((18 ≤ a ∧ a ≤ 25) ∨ (a = 31 ∧ (k = 0 ∨ k = 4)) ∨ a = 33 ∨ a = 68 ∨ ((a = 35 ∧ (k = 0 ∨ (54 ≤ k ∧ k ≤ 56) ∨ k = 67)) ∨ a = 55 ∨ (57 ≤ a ∧ a ≤ 59) ∨ a = 62 ∨ a = 63)) ∨ a = 34 ∨ (a = 0 ∧ k = 15) ∨ (a = 35 ∧ k = 59) ∨ a = 60
theorem SX_G {h h' : Hp} (s : Same SX h h') : Same SG h h' := s.mono (fun _ _ p => Or.inl p)
theorem Core.sg {D : LD} {ht ro : Nat → Int} {L nr : Nat} {rh : Nat → Nat} {rm : Nat → Int} {h h' : Hp} (C : Core D ht ro L nr rh rm h) (s : Same SG h h') : Core D ht ro L nr rh rm h' := by
  obtain ⟨a1, a2, a3, ⟨b1, b2, b3, b4, b5⟩, ⟨c1, c2, c3⟩, a6, a7, a8, ⟨d1, d2, d3⟩, a10, a11, a12⟩ := C
  refine ⟨a1, a2, a3, ⟨b1, ?_, b3.same (fun a k q1 q2 => s _ _ (by unfold SG; omega)), fun c hc => ?_, b5.same (fun k => s _ _ (by unfold SG; omega))⟩, ⟨c1, ?_, fun i hi => ⟨(c3 i hi).1, ?_, ?_⟩⟩, a6.same (fun a k p => s _ _ (by unfold SG; omega)), fun c hc => ?_, a8.same (fun k => s _ _ (by unfold SG; omega)), ⟨d1, ?_, fun i hi => ⟨(d3 i hi).1, ?_, ?_⟩⟩, ?_, ?_, ?_⟩
  · rw [s _ _ (by unfold SG; omega)]; exact b2
  · rw [s _ _ (by unfold SG; omega)]; exact b4 c hc
  · rw [s _ _ (by unfold SG; omega)]; exact c2
  · rw [s _ _ (by unfold SG; omega)]; exact (c3 i hi).2.1
  · rw [s _ _ (by unfold SG; omega)]; exact (c3 i hi).2.2
  · rw [s _ _ (by unfold SG; omega)]; exact a7 c hc
  · rw [s _ _ (by unfold SG; omega)]; exact d2
  · rw [s _ _ (by unfold SG; omega)]; exact (d3 i hi).2.1
  · rw [s _ _ (by unfold SG; omega)]; exact (d3 i hi).2.2
  · rw [s _ _ (by unfold SG; omega)]; exact a10
  · rw [s _ _ (by unfold SG; omega)]; exact a11
  · rw [s _ _ (by unfold SG; omega)]; exact a12
theorem Inv.firs {κ : Int} {h h' : Hp} (I : Inv κ h) (s : Same SG h h') (F : (h' 35 59 = -1 ∧ h' 0 15 = 0) ∨ ∃ n : Nat, n ≤ 2 ∧ h' 35 59 = (n : Int) ∧ h' 0 15 = (n : Int) ∧ ∀ i, i < n → h' 34 i = h' 60 i) : Inv κ h' := by
  obtain ⟨D, ht, ro, L, nr, rh, rm, na, P, C, O, Q, M, G⟩ := I
  refine ⟨D, ht, ro, L, nr, rh, rm, na, P, C.sg s, ?_, Q.same (fun k => s _ _ (by unfold SG; omega)) (fun k => s _ _ (by unfold SG; omega)) (fun k => s _ _ (by unfold SG; omega)) (s _ _ (by unfold SG; omega)), ?_, G.cg (fun a k p => s _ _ (by unfold SG; omega))⟩
  · unfold Oth
    rw [s _ _ (by unfold SG; omega)]
    exact O
  · obtain ⟨m1, m2, m3, m4, m5, m6, m7, -, m9⟩ := M
    have e09 : h' 0 9 = h 0 9 := s _ _ (by unfold SG; omega)
    refine ⟨by rw [e09]; exact m1, by rw [e09, s 35 13 (by unfold SG; omega)]; exact m2, fun k hk => ?_, by rw [s 0 10 (by unfold SG; omega), s 35 15 (by unfold SG; omega)]; exact m4, by rw [s 0 11 (by unfold SG; omega), s 43 0 (by unfold SG; omega)]; exact m5, by rw [s 0 12 (by unfold SG; omega), s 43 1 (by unfold SG; omega)]; exact m6, by rw [s 0 13 (by unfold SG; omega), s 43 2 (by unfold SG; omega)]; exact m7, F, ?_⟩
    · rw [e09] at hk
      rw [s 17 k (by unfold SG; omega), s 42 k (by unfold SG; omega)]
      exact m3 k hk
    · rw [s 35 61 (by unfold SG; omega), s 31 3 (by unfold SG; omega)]
      rcases m9 with m9 | ⟨n1, n2, n3⟩
      · exact Or.inl m9
      · exact Or.inr ⟨n1, n2, fun i hi => by rw [s 32 i (by unfold SG; omega), s 61 i (by unfold SG; omega)]; exact n3 i hi⟩
