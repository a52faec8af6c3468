/-! pure part: ruin -/
def aF (f : Nat → Bool) : Nat → Int
  | 0 => 0
  | k + 1 => if aF f k = 0 then (if f k = true then 1 else 0) else 1
theorem aF_01 {f : Nat → Bool} : ∀ k, aF f k = 0 ∨ aF f k = 1
  | 0 => Or.inl rfl
  | k + 1 => by
    show (if aF f k = 0 then (if f k = true then (1 : Int) else 0) else 1) = 0 ∨ (if aF f k = 0 then (if f k = true then (1 : Int) else 0) else 1) = 1
    by_cases q : aF f k = 0
    · rw [if_pos q]
      by_cases r : f k = true
      · rw [if_pos r]; exact Or.inr rfl
      · rw [if_neg r]; exact Or.inl rfl
    · rw [if_neg q]; exact Or.inr rfl
theorem aF_0 {f : Nat → Bool} : ∀ k, aF f k = 0 ↔ ∀ i, i < k → f i = false
  | 0 => ⟨fun _ i hi => absurd hi (Nat.not_lt_zero i), fun _ => rfl⟩
  | k + 1 => by
    have ih := aF_0 (f := f) k
    show (if aF f k = 0 then (if f k = true then (1 : Int) else 0) else 1) = 0 ↔ _
    by_cases q : aF f k = 0
    · rw [if_pos q]
      by_cases r : f k = true
      · rw [if_pos r]
        refine ⟨fun z => absurd z (by decide), fun z => ?_⟩
        rw [z k (Nat.lt_succ_self k)] at r
        exact absurd r (by decide)
      · rw [if_neg r]
        refine ⟨fun _ i hi => ?_, fun _ => rfl⟩
        rcases Nat.lt_or_eq_of_le (Nat.le_of_lt_succ hi) with a | a
        · exact ih.mp q i a
        · rw [a]; simpa using r
    · rw [if_neg q]
      refine ⟨fun z => absurd z (by decide), fun z => absurd (ih.mpr (fun i hi => z i (Nat.lt_succ_of_lt hi))) q⟩
theorem sub_tab : ∀ a : Nat, a < 64 → ∀ b : Nat, b < 64 → (decide (i_and (a : Int) (i_xor (b : Int) (-1)) = 0)) = ((!bt (a : Int) 0 || bt (b : Int) 0) && (!bt (a : Int) 1 || bt (b : Int) 1) && (!bt (a : Int) 2 || bt (b : Int) 2) && (!bt (a : Int) 3 || bt (b : Int) 3) && (!bt (a : Int) 4 || bt (b : Int) 4) && (!bt (a : Int) 5 || bt (b : Int) 5)) := by decide +kernel
theorem sub_bits {p q : Nat → Bool} {n : Nat} (hn : n ≤ 6) : i_and (fb p n) (i_xor (fb q n) (-1)) = 0 ↔ aF (fun i => p i && !q i) n = 0 := by
  obtain ⟨a, a1, a2⟩ := fb_lt (p := p) hn
  obtain ⟨b, b1, b2⟩ := fb_lt (p := q) hn
  have t := sub_tab a a2 b b2
  rw [← a1, ← b1] at t
  simp only [fb_bt p n (Nat.le_trans hn (by decide)) _ (show (0 : Nat) < 32 by decide), fb_bt p n (Nat.le_trans hn (by decide)) _ (show (1 : Nat) < 32 by decide), fb_bt p n (Nat.le_trans hn (by decide)) _ (show (2 : Nat) < 32 by decide), fb_bt p n (Nat.le_trans hn (by decide)) _ (show (3 : Nat) < 32 by decide), fb_bt p n (Nat.le_trans hn (by decide)) _ (show (4 : Nat) < 32 by decide), fb_bt p n (Nat.le_trans hn (by decide)) _ (show (5 : Nat) < 32 by decide), fb_bt q n (Nat.le_trans hn (by decide)) _ (show (0 : Nat) < 32 by decide), fb_bt q n (Nat.le_trans hn (by decide)) _ (show (1 : Nat) < 32 by decide), fb_bt q n (Nat.le_trans hn (by decide)) _ (show (2 : Nat) < 32 by decide), fb_bt q n (Nat.le_trans hn (by decide)) _ (show (3 : Nat) < 32 by decide), fb_bt q n (Nat.le_trans hn (by decide)) _ (show (4 : Nat) < 32 by decide), fb_bt q n (Nat.le_trans hn (by decide)) _ (show (5 : Nat) < 32 by decide)] at t
  rw [aF_0]
  have key : (∀ i, i < n → (p i && !q i) = false) ↔ (∀ i, i < 6 → (!(decide (i < n) && p i) || (decide (i < n) && q i)) = true) := by
    constructor
    · intro z i _
      by_cases g : i < n
      · have := z i g
        cases hp : p i <;> cases hq : q i <;> simp_all
      · simp [g]
    · intro z i g
      have := z i (by omega)
      cases hp : p i <;> cases hq : q i <;> simp_all
  rw [key]
  constructor
  · intro z i hi
    rw [decide_eq_true z] at t
    have t := t.symm
    simp only [Bool.and_eq_true] at t
    obtain ⟨⟨⟨⟨⟨t0, t1⟩, t2⟩, t3⟩, t4⟩, t5⟩ := t
    match i, hi with
    | 0, _ => exact t0
    | 1, _ => exact t1
    | 2, _ => exact t2
    | 3, _ => exact t3
    | 4, _ => exact t4
    | 5, _ => exact t5
    | i + 6, hi => exact absurd hi (by omega)
  · intro z
    have : decide (i_and (fb p n) (i_xor (fb q n) (-1)) = 0) = true := by
      rw [t]
      simp only [Bool.and_eq_true]
      exact ⟨⟨⟨⟨⟨z 0 (by decide), z 1 (by decide)⟩, z 2 (by decide)⟩, z 3 (by decide)⟩, z 4 (by decide)⟩, z 5 (by decide)⟩
    exact of_decide_eq_true this
