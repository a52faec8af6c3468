/-! pure part: firs, the head -/
theorem hb_m : ∀ n : Nat, n ≤ 6 → (Int32.ofInt (i_xor (i_sub (i_shl 1 (n : Int)) 1) (-1))).toBitVec = ~~~ (BitVec.ofNat 32 (2 ^ n - 1)) ∧ i_shl 1 (n : Int) = ((2 ^ n : Nat) : Int) := by decide +kernel
theorem hb_b : ∀ n : Nat, n ≤ 6 → ∀ i : Nat, i < 32 → (BitVec.ofNat 32 (2 ^ n - 1)).getLsbD i = decide (i < n) := by decide +kernel
theorem hb_head {x : Int} {n : Nat} (hx : in32 x) (hn : n ≤ 6) : i_and x (i_xor (i_sub (i_shl 1 (n : Int)) 1) (-1)) = 0 ↔ (0 ≤ x ∧ x < i_shl 1 (n : Int)) := by
  obtain ⟨m1, m2⟩ := hb_m n hn
  unfold i_and
  show ((Int32.ofInt x).toBitVec &&& (Int32.ofInt (i_xor (i_sub (i_shl 1 (n : Int)) 1) (-1))).toBitVec).toInt = 0 ↔ _
  rw [m1, m2]
  have ex : (Int32.ofInt x).toBitVec.toInt = x := i32_of hx
  generalize (Int32.ofInt x).toBitVec = X at ex
  have p6 : 2 ^ n ≤ 64 := by
    have := Nat.pow_le_pow_right (show 0 < 2 by decide) hn
    exact this
  constructor
  · intro z
    have z0 : X &&& ~~~ (BitVec.ofNat 32 (2 ^ n - 1)) = 0#32 := BitVec.eq_of_toInt_eq (by rw [z]; rfl)
    have e : X = X &&& BitVec.ofNat 32 (2 ^ n - 1) := by
      apply BitVec.eq_of_getLsbD_eq
      intro i hi
      have b := congrArg (fun v => v.getLsbD i) z0
      simp only [BitVec.getLsbD_and, BitVec.getLsbD_not, BitVec.getLsbD_zero, hi, decide_true, Bool.true_and] at b
      rw [BitVec.getLsbD_and]
      cases h1 : X.getLsbD i <;> cases h2 : (BitVec.ofNat 32 (2 ^ n - 1)).getLsbD i <;> simp_all
    have l : X.toNat ≤ 2 ^ n - 1 := by
      have : X.toNat = (X &&& BitVec.ofNat 32 (2 ^ n - 1)).toNat := congrArg BitVec.toNat e
      rw [BitVec.toNat_and, BitVec.toNat_ofNat] at this
      have h2 : X.toNat ≤ (2 ^ n - 1) % 2 ^ 32 := by rw [this]; exact Nat.and_le_right
      exact Nat.le_trans h2 (Nat.mod_le _ _)
    have p1 : 1 ≤ 2 ^ n := Nat.one_le_two_pow
    rw [BitVec.toInt_eq_toNat_cond, if_pos (by omega)] at ex
    omega
  · rintro ⟨z1, z2⟩
    have l : X.toNat < 2 ^ n := by
      have hX := X.isLt
      rw [BitVec.toInt_eq_toNat_cond] at ex
      split at ex <;> omega
    have z0 : X &&& ~~~ (BitVec.ofNat 32 (2 ^ n - 1)) = 0#32 := by
      apply BitVec.eq_of_getLsbD_eq
      intro i hi
      rw [BitVec.getLsbD_and, BitVec.getLsbD_not, hb_b n hn i hi, BitVec.getLsbD_zero]
      by_cases q : i < n
      · simp [q]
      · have t : X.getLsbD i = false := by
          have : X.toNat < 2 ^ i := Nat.lt_of_lt_of_le l (Nat.pow_le_pow_right (by decide) (by omega))
          exact Nat.testBit_lt_two_pow this
        rw [t]; rfl
    rw [z0]
    rfl
