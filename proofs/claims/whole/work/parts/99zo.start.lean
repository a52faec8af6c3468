/-! pure part: the start -/
def hS5 (h : Hp) : Hp := nw (m5 (nw h 0 (dfv 5))) 35 (dfv 6)
def hSt (h : Hp) : Hp := nw (m6 (hS5 h)) 68 (fun _ => 0)
set_option maxRecDepth 20000 in
theorem hSt_0 {h : Hp} : hSt h 0 0 = 1 ∧ hSt h 0 1 = 9 ∧ hSt h 0 5 = -1 ∧ hSt h 0 6 = 0 ∧ hSt h 0 9 = 0 ∧ hSt h 0 10 = -1 ∧ hSt h 0 11 = 0 ∧ hSt h 0 12 = 0 ∧ hSt h 0 13 = 0 ∧ hSt h 0 15 = 0 := ⟨rfl, rfl, rfl, rfl, rfl, rfl, rfl, rfl, rfl, rfl⟩
set_option maxRecDepth 20000 in
theorem hSt_1 {h : Hp} : hSt h 1 0 = 8 ∧ hSt h 1 1 = 8 ∧ hSt h 1 3 = 0 ∧ hSt h 1 6 = 0 ∧ hSt h 1 8 = 0 ∧ hSt h 26 2 = 0 ∧ hSt h 26 3 = 0 ∧ hSt h 26 6 = 0 ∧ hSt h 31 3 = 0 := ⟨rfl, rfl, rfl, rfl, rfl, rfl, rfl, rfl, rfl⟩
theorem hSt_35 {h : Hp} : hSt h 35 1 = 8 ∧ hSt h 35 2 = 8 ∧ hSt h 35 3 = 0 ∧ hSt h 35 4 = 0 ∧ hSt h 35 5 = 0 ∧ hSt h 35 13 = 0 ∧ hSt h 35 15 = -1 ∧ hSt h 35 49 = 0 ∧ hSt h 35 51 = -1 ∧ hSt h 35 52 = -1 ∧ hSt h 35 53 = -1 ∧ hSt h 35 59 = -1 ∧ hSt h 35 61 = 0 ∧ hSt h 35 65 = 0 ∧ hSt h 35 68 = 0 := ⟨rfl, rfl, rfl, rfl, rfl, rfl, rfl, rfl, rfl, rfl, rfl, rfl, rfl, rfl, rfl⟩
theorem hSt_43 {h : Hp} : hSt h 43 0 = 0 ∧ hSt h 43 1 = 0 ∧ hSt h 43 2 = 0 := ⟨rfl, rfl, rfl⟩
theorem hSt_36 {h : Hp} {c : Nat} : hSt h 36 c = 0 := rfl
theorem hSt_2 {h : Hp} {c : Nat} : hSt h 2 c = 0 := by
  simp [hSt, m6, hS5, m5, begH, cpy, mW, mA26, mS, mR, mL9, mL1, clrH, fil, nw, st_at]
theorem hSt_27 {h : Hp} {k : Nat} (hk : k < 62) : hSt h 27 k = if k < 12 ∨ k = 60 then -1 else 0 := by
  simp [hSt, m6, hS5, m5, begH, cpy, mW, mA26, mS, mR, mL9, mL1, clrH, fil, nw, st_at, hk]
  by_cases q : k = 60
  · simp [q]
  · by_cases q2 : k < 12
    · simp [q, q2]
    · simp [q, q2]
theorem hSt_54 {h : Hp} {k : Nat} : hSt h 54 k = if k < 12 ∨ k = 60 then -1 else 0 := by
  have key : ∀ k : Nat, (if k = 60 then (-1 : Int) else if k = 11 then -1 else if k = 10 then -1 else if k = 9 then -1 else if k = 8 then -1 else if k = 7 then -1 else if k = 6 then -1 else if k = 5 then -1 else if k = 4 then -1 else if k = 3 then -1 else if k = 2 then -1 else if k = 1 then -1 else if k = 0 then -1 else 0) = if k < 12 ∨ k = 60 then -1 else 0 := by
    intro k
    by_cases q : k < 12 ∨ k = 60
    · rw [if_pos q]
      have : k = 60 ∨ k = 11 ∨ k = 10 ∨ k = 9 ∨ k = 8 ∨ k = 7 ∨ k = 6 ∨ k = 5 ∨ k = 4 ∨ k = 3 ∨ k = 2 ∨ k = 1 ∨ k = 0 := by omega
      rcases this with e | e | e | e | e | e | e | e | e | e | e | e | e <;> rw [e] <;> rfl
    · rw [if_neg q, if_neg (by omega), if_neg (by omega), if_neg (by omega), if_neg (by omega), if_neg (by omega), if_neg (by omega), if_neg (by omega), if_neg (by omega), if_neg (by omega), if_neg (by omega), if_neg (by omega), if_neg (by omega), if_neg (by omega)]
  rw [← key k]
  simp [hSt, m6, nw, st_at]
theorem InvS {h : Hp} : Inv (-1) (hSt h) := by
  obtain ⟨a0, a1, a5, a6, a9, a10, a11, a12, a13, a15⟩ := hSt_0 (h := h)
  obtain ⟨b0, b1, b3, b6, b8, c2, c3, c6, d3⟩ := hSt_1 (h := h)
  obtain ⟨e1, e2, e3, e4, e5, e13, e15, e49, e51, e52, e53, e59, e61, e65, e68⟩ := hSt_35 (h := h)
  obtain ⟨g0, g1, g2⟩ := hSt_43 (h := h)
  have ro : ∀ k, k < 62 → rof A00 k = if k < 12 ∨ k = 60 then -1 else 0 := fun k hk => by
    unfold rof
    by_cases q : k = 60
    · rw [if_pos q, if_pos (Or.inr q), if_pos (by decide)]
    · rw [if_neg q]
      show (if k < 12 then (-1 : Int) else 0) = _
      by_cases q2 : k < 12
      · rw [if_pos q2, if_pos (Or.inl q2)]
      · rw [if_neg q2, if_neg (fun z => z.elim q2 q)]
  have rr : ∀ r : Nat → Int, (∀ k, k < 62 → r k = if k < 12 ∨ k = 60 then -1 else 0) → RR (dLD A00 cd00) (rof A00) r := fun r hr => by
    have e : ∀ k, k < 62 → r k = rof A00 k := fun k hk => by rw [hr k hk, ro k hk]
    exact ⟨fun t ht => e t (by omega), fun t ht _ => ⟨e _ (by omega), e _ (by omega)⟩, fun i hi => absurd hi (by show ¬ i < 0; omega), e 60 (by decide), e 61 (by decide)⟩
  have q2 : ∀ c, hSt h 2 c = 0 := fun c => hSt_2
  have q27 : ∀ k, k < 62 → hSt h 27 k = if k < 12 ∨ k = 60 then -1 else 0 := fun k hk => hSt_27 hk
  have q36 : ∀ c, hSt h 36 c = 0 := fun c => hSt_36
  have q54 : ∀ k, hSt h 54 k = if k < 12 ∨ k = 60 then -1 else 0 := fun k => hSt_54
  generalize hSt h = H at *
  refine ⟨dLD A00 cd00, A00 0, rof A00, 1, 0, fun _ => 0, fun _ => 0, 0, fun _ _ => 0, ⟨dLD_W PBd00 PWf0, dLD_H PBd00 PWf0, dLD_R PBd00 PWf0, ⟨Or.inl rfl, a0, ⟨b0, b1, b3, b8, b6, fun i hi => absurd hi (by show ¬ i < 0; omega), fun i hi => absurd hi (by show ¬ i < 0; omega), fun i hi => absurd hi (by show ¬ i < 0; omega), fun _ => 0, rfl, fun i hi => absurd hi (by show ¬ i < 0; omega)⟩, fun c hc => ?_, rr _ (fun k hk => ?_)⟩, ⟨Nat.zero_le _, c6, fun i hi => absurd hi (Nat.not_lt_zero i)⟩, ⟨e1, e2, e3, e4, e5, fun i hi => absurd hi (by show ¬ i < 0; omega), fun i hi => absurd hi (by show ¬ i < 0; omega), fun i hi => absurd hi (by show ¬ i < 0; omega), fun i hi => absurd hi (by show ¬ i < 0; omega)⟩, fun c hc => ?_, rr _ (fun k hk => ?_), ⟨Nat.zero_le _, e65, fun i hi => absurd hi (Nat.not_lt_zero i)⟩, e51, e52, e53⟩, a1, ⟨Nat.zero_le _, fun i hi => absurd hi (Nat.not_lt_zero i), c3, e49, ⟨0, by decide, c2, fun i hi => absurd hi (Nat.not_lt_zero i)⟩, fun i hi => absurd hi (Nat.not_lt_zero i)⟩, ⟨by rw [a9]; decide, by rw [a9, e13], fun k hk => absurd hk (by rw [a9]; omega), by rw [a10, e15], by rw [a11, g0], by rw [a12, g1], by rw [a13, g2], Or.inl ⟨e59, a15⟩, Or.inl ⟨e61, d3⟩⟩, a5, Or.inl ⟨a6, e68⟩⟩
  · exact q2 c
  · exact q27 k hk
  · exact q36 c
  · exact q54 k
