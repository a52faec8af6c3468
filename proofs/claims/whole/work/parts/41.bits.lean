/-! pure part: bits -/
def bt (x : Int) (c : Nat) : Bool := (BitVec.ofInt 64 x).getLsbD c
theorem sh_c : ∀ k : Nat, k < 64 → ((Int32.ofInt (k : Int)).toInt64 &&& 63).toBitVec.smod 64 = BitVec.ofNat 64 k := by decide +kernel
theorem sh_u : ∀ k : Nat, k < 64 → (((Int32.ofInt (k : Int)).toInt64.toUInt64 &&& Int64.toUInt64 63).toBitVec % 64) = BitVec.ofNat 64 k := by decide +kernel
theorem sh_32 : ∀ k : Nat, k < 32 → ((Int32.ofInt (k : Int) &&& 31).toBitVec.smod 32) = BitVec.ofNat 32 k := by decide +kernel
theorem sh_p : ∀ k : Nat, k < 64 → (Int64.ofInt 1 <<< ((Int32.ofInt (k : Int)).toInt64 &&& 63)).toBitVec = BitVec.twoPow 64 k := by decide +kernel
theorem sh_p32 : ∀ k : Nat, k < 32 → (Int32.ofInt 1 <<< (Int32.ofInt (k : Int) &&& 31)).toBitVec = BitVec.twoPow 32 k := by decide +kernel
theorem and1_64 (x : BitVec 64) : (x &&& 1#64).toInt = if x.getLsbD 0 = true then 1 else 0 := by
  rw [BitVec.and_one_eq_setWidth_ofBool_getLsbD]
  cases x.getLsbD 0 <;> decide
theorem and1_32 (x : BitVec 32) : (x &&& 1#32).toInt = if x.getLsbD 0 = true then 1 else 0 := by
  rw [BitVec.and_one_eq_setWidth_ofBool_getLsbD]
  cases x.getLsbD 0 <;> decide
theorem bt_u {x : Int} {k : Nat} (hk : k < 64) : l_and (l_ushr x (k : Int)) 1 = if bt x k = true then 1 else 0 := by
  have e : (((Int64.ofInt x).toUInt64 >>> ((Int32.ofInt (k : Int)).toInt64.toUInt64 &&& Int64.toUInt64 63)).toInt64).toBitVec = (BitVec.ofInt 64 x) >>> (BitVec.ofNat 64 k) := by
    rw [← sh_u k hk]
    rfl
  unfold l_and l_ushr
  rw [i64_to]
  show ((((Int64.ofInt x).toUInt64 >>> ((Int32.ofInt (k : Int)).toInt64.toUInt64 &&& Int64.toUInt64 63)).toInt64).toBitVec &&& 1#64).toInt = _
  rw [e, and1_64, BitVec.ushiftRight_eq', BitVec.getLsbD_ushiftRight, BitVec.toNat_ofNat, Nat.mod_eq_of_lt (by omega)]
  rfl
theorem bt_s {x : Int} {k : Nat} (hk : k < 64) : l_and (l_shr x (k : Int)) 1 = if bt x k = true then 1 else 0 := by
  have e : (Int64.ofInt x >>> ((Int32.ofInt (k : Int)).toInt64 &&& 63)).toBitVec = (BitVec.ofInt 64 x).sshiftRight' (BitVec.ofNat 64 k) := by
    rw [← sh_c k hk]
    rfl
  unfold l_and l_shr
  rw [i64_to]
  show ((Int64.ofInt x >>> ((Int32.ofInt (k : Int)).toInt64 &&& 63)).toBitVec &&& 1#64).toInt = _
  rw [e, and1_64, BitVec.sshiftRight_eq', BitVec.getLsbD_sshiftRight, BitVec.toNat_ofNat, Nat.mod_eq_of_lt (by omega)]
  simp [hk, bt]
theorem bt_of64 (Z : Int64) (j : Nat) : bt Z.toInt j = Z.toBitVec.getLsbD j := by
  unfold bt
  show (BitVec.ofInt 64 (Z.toBitVec.toInt)).getLsbD j = _
  rw [BitVec.ofInt_toInt]
theorem bt_lor {x y : Int} {j : Nat} : bt (l_or x y) j = (bt x j || bt y j) := by
  unfold l_or
  rw [bt_of64, Int64.toBitVec_or, BitVec.getLsbD_or]
  rfl
theorem bt_l1 {k j : Nat} (hk : k < 64) : bt (l_shl 1 (k : Int)) j = decide (k = j) := by
  unfold l_shl
  rw [bt_of64, sh_p k hk, BitVec.getLsbD_twoPow]
  simp [hk]
theorem bt_0 {j : Nat} : bt 0 j = false := by
  unfold bt
  simp
theorem bt_i {V : Int32} {i : Nat} (hi : i < 32) : bt V.toInt i = V.toBitVec.getLsbD i := by
  unfold bt
  show (V.toBitVec.signExtend 64).getLsbD i = _
  rw [BitVec.getLsbD_signExtend, if_pos hi]
  simp
  omega
theorem bt_ior {x y : Int} {i : Nat} (hx : in32 x) (hy : in32 y) (hi : i < 32) : bt (i_or x y) i = (bt x i || bt y i) := by
  unfold i_or
  rw [bt_i hi, Int32.toBitVec_or, BitVec.getLsbD_or, ← bt_i hi, ← bt_i hi, i32_of hx, i32_of hy]
theorem bt_i1 {k j : Nat} (hk : k < 32) (hj : j < 32) : bt (i_shl 1 (k : Int)) j = decide (k = j) := by
  unfold i_shl
  rw [bt_i hj, sh_p32 k hk, BitVec.getLsbD_twoPow]
  simp [hk]
theorem bt_is {x : Int} {k : Nat} (hx : in32 x) (hk : k < 32) : i_and (i_shr x (k : Int)) 1 = if bt x k = true then 1 else 0 := by
  have e : (Int32.ofInt x >>> (Int32.ofInt (k : Int) &&& 31)).toBitVec = (Int32.ofInt x).toBitVec.sshiftRight' (BitVec.ofNat 32 k) := by
    rw [← sh_32 k hk]
    rfl
  unfold i_and i_shr
  rw [i32_to]
  show ((Int32.ofInt x >>> (Int32.ofInt (k : Int) &&& 31)).toBitVec &&& 1#32).toInt = _
  rw [e, and1_32, BitVec.sshiftRight_eq', BitVec.getLsbD_sshiftRight, BitVec.toNat_ofNat, Nat.mod_eq_of_lt (by omega)]
  have h2 : bt x k = (Int32.ofInt x).toBitVec.getLsbD k := by rw [← bt_i hk, i32_of hx]
  rw [h2]
  simp [hk]
theorem hasBit_eq {x : Int} {k : Nat} {h : Hp} (hk : k < 64) : fX5_hasBit x (k : Int) h = some (if bt x k = true then 1 else 0) := by
  unfold fX5_hasBit
  rw [bt_u hk]
  cases bt x k <;> rfl
theorem cmp1 {b : Bool} : (l_cmp (if b = true then 1 else 0) 1 = 0) ↔ b = true := by cases b <;> decide
theorem one1 {b : Bool} : ((if b = true then 1 else 0 : Int) = 1) ↔ b = true := by cases b <;> decide
theorem ior0 {x : Int} (hx : in32 x) : i_or x 0 = x := by
  unfold i_or
  show (Int32.ofInt x ||| 0).toInt = x
  rw [Int32.or_zero, i32_of hx]
/-- the bits of those that p names, up to n -/
def fb (p : Nat → Bool) : Nat → Int
  | 0 => 0
  | n + 1 => if p n = true then i_or (fb p n) (i_shl 1 (n : Int)) else fb p n
theorem fb_in (p : Nat → Bool) : ∀ n, in32 (fb p n)
  | 0 => by unfold fb; unfold in32; omega
  | n + 1 => by
    unfold fb
    split
    · exact in_or _ _
    · exact fb_in p n
theorem fb_bt (p : Nat → Bool) : ∀ n, n ≤ 32 → ∀ i, i < 32 → bt (fb p n) i = (decide (i < n) && p i)
  | 0, _, i, hi => by unfold fb; rw [bt_0]; simp
  | n + 1, hn, i, hi => by
    unfold fb
    have ih := fb_bt p n (by omega) i hi
    split
    · next h =>
      rw [bt_ior (fb_in p n) (in_shl _ _) hi, ih, bt_i1 (by omega) hi]
      by_cases e : n = i
      · subst e; simp [h]
      · have : (decide (i < n + 1)) = decide (i < n) := by
          apply decide_eq_decide.mpr
          omega
        simp [e, this]
    · next h =>
      rw [ih]
      by_cases e : n = i
      · subst e; simp [h]
      · have : (decide (i < n + 1)) = decide (i < n) := by
          apply decide_eq_decide.mpr
          omega
        simp [this]
theorem fb_step_t {p : Nat → Bool} {n : Nat} (h : p n = true) : fb p (n + 1) = i_or (fb p n) (i_shl 1 (n : Int)) := by
  show (if p n = true then _ else _) = _
  rw [if_pos h]
theorem fb_step_f {p : Nat → Bool} {n : Nat} (h : ¬ p n = true) : fb p (n + 1) = fb p n := by
  show (if p n = true then _ else _) = _
  rw [if_neg h]
theorem fb_congr {p q : Nat → Bool} : ∀ n, (∀ i, i < n → p i = q i) → fb p n = fb q n
  | 0, _ => rfl
  | n + 1, h => by
    unfold fb
    rw [fb_congr n (fun i hi => h i (by omega)), h n (by omega)]
/-- a number below 2 to the n is told by its bits -/
def sm01 (p : Nat → Bool) : Nat → Nat
  | 0 => 0
  | n + 1 => sm01 p n + (if p n = true then 2 ^ n else 0)
theorem or_tab : ∀ n : Nat, n < 6 → ∀ v : Nat, v < 2 ^ n → i_or (v : Int) (i_shl 1 (n : Int)) = ((v + 2 ^ n : Nat) : Int) := by
  intro n hn
  have key : ∀ n : Fin 6, ∀ v : Fin 64, v.val < 2 ^ n.val → i_or (v.val : Int) (i_shl 1 (n.val : Int)) = ((v.val + 2 ^ n.val : Nat) : Int) := by decide +kernel
  intro v hv
  have h2 : 2 ^ n ≤ 2 ^ 6 := Nat.pow_le_pow_right (by decide) (by omega)
  exact key ⟨n, hn⟩ ⟨v, by omega⟩ hv
theorem fb_sm (p : Nat → Bool) : ∀ n, n ≤ 6 → fb p n = (sm01 p n : Int) ∧ sm01 p n < 2 ^ n
  | 0, _ => ⟨rfl, by unfold sm01; decide⟩
  | n + 1, hn => by
    obtain ⟨h1, h2⟩ := fb_sm p n (by omega)
    unfold fb sm01
    have h3 : 2 ^ (n + 1) = 2 ^ n + 2 ^ n := by rw [Nat.pow_succ]; omega
    split
    · rw [h1, or_tab n (by omega) _ h2]
      exact ⟨rfl, by omega⟩
    · rw [h1]
      exact ⟨by simp, by omega⟩
