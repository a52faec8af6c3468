/-! pure part: decades, what is drawn -/
theorem sh_u16 : ((Int32.ofInt 16).toUInt32 &&& Int32.toUInt32 31).toBitVec % 32 = BitVec.ofNat 32 16 := by decide +kernel
theorem b15 : ∀ i : Nat, i < 32 → (32767#32).getLsbD i = decide (i < 15) := by decide +kernel
theorem msk_eq {x : Int} : i_and (i_ushr x 16) 32767 = i_and (i_shr x 16) 32767 := by
  have e1 : (Int32.ofInt x >>> (Int32.ofInt 16 &&& 31)).toBitVec = (Int32.ofInt x).toBitVec.sshiftRight' (BitVec.ofNat 32 16) := by
    rw [← sh_32 16 (by decide)]
    rfl
  have e2 : (((Int32.ofInt x).toUInt32 >>> ((Int32.ofInt 16).toUInt32 &&& Int32.toUInt32 31)).toInt32).toBitVec = (Int32.ofInt x).toBitVec >>> (BitVec.ofNat 32 16) := by
    rw [← sh_u16]
    rfl
  unfold i_and i_shr i_ushr
  rw [i32_to, i32_to]
  show ((((Int32.ofInt x).toUInt32 >>> ((Int32.ofInt 16).toUInt32 &&& Int32.toUInt32 31)).toInt32).toBitVec &&& 32767#32).toInt = ((Int32.ofInt x >>> (Int32.ofInt 16 &&& 31)).toBitVec &&& 32767#32).toInt
  rw [e1, e2]
  generalize (Int32.ofInt x).toBitVec = X
  have e : (X >>> (BitVec.ofNat 32 16)) &&& 32767#32 = X.sshiftRight' (BitVec.ofNat 32 16) &&& 32767#32 := by
    apply BitVec.eq_of_getLsbD_eq
    intro i hi
    rw [BitVec.getLsbD_and, BitVec.getLsbD_and, b15 i hi, BitVec.ushiftRight_eq', BitVec.getLsbD_ushiftRight, BitVec.sshiftRight_eq', BitVec.getLsbD_sshiftRight, BitVec.toNat_ofNat]
    by_cases q : i < 15
    · rw [decide_eq_true q, Bool.and_true, Bool.and_true, if_pos (by omega), decide_eq_false (by omega)]; rfl
    · rw [decide_eq_false q, Bool.and_false, Bool.and_false]
  rw [e]
theorem msk_rg {y : Int} : ∃ m : Nat, i_and y 32767 = (m : Int) ∧ m < 32768 := by
  unfold i_and
  show ∃ m : Nat, ((Int32.ofInt y).toBitVec &&& 32767#32).toInt = (m : Int) ∧ m < 32768
  generalize (Int32.ofInt y).toBitVec = X
  have h : (X &&& 32767#32).toNat ≤ 32767 := by rw [BitVec.toNat_and]; exact Nat.and_le_right
  refine ⟨(X &&& 32767#32).toNat, ?_, by omega⟩
  rw [BitVec.toInt_eq_toNat_cond, if_pos (by omega)]
def nx (s : Int) : Int := i_add (i_mul s 1103515245) 12345
def dwv (s n : Int) : Int := i_rem (i_and (i_shr s 16) 32767) n
theorem dwv_rg {s : Int} {n : Nat} (h1 : 1 ≤ n) (h2 : n ≤ 64) : 0 ≤ dwv s (n : Int) ∧ dwv s (n : Int) < (n : Int) := by
  obtain ⟨m, e, hm⟩ := msk_rg (y := i_shr s 16)
  unfold dwv
  rw [e, i_rem_nat (by omega) (by omega)]
  exact ⟨Int.natCast_nonneg _, Int.ofNat_lt.mpr (Nat.mod_lt m h1)⟩
theorem c_draw {s : Int} {n : Nat} {h : Hp} (h1 : 1 ≤ n) : fX5_draw s (n : Int) h = some (dwv s (n : Int)) := by
  unfold fX5_draw
  rw [if_neg (by omega), gd_y (by omega), msk_eq]
  rfl
theorem m_draw {n : Nat} {h : Hp} (h1 : 1 ≤ n) : fX6_draw (n : Int) h = some (dwv (nx (h 35 67)) (n : Int), st h 35 67 (nx (h 35 67))) := by
  unfold fX6_draw
  show gd_ _ _ = _
  rw [gd_y (by omega), st_self]
  rfl
def fgS (s : Int) : Nat := (dwv s 9).toNat + 1
theorem fgS_eq {s : Int} : i_add (dwv s 9) 1 = (fgS s : Int) ∧ fgS s ≤ 9 := by
  have r := dwv_rg (s := s) (n := 9) (by decide) (by decide)
  have r' : 0 ≤ dwv s 9 ∧ dwv s 9 < 9 := r
  unfold fgS
  clear r
  generalize dwv s 9 = v at r'
  rw [ia (by omega) (by omega)]
  exact ⟨by omega, by omega⟩
def dzR (ro : Nat → Int) (c : Int) : Nat → Int := if tIn ro c = -1 then ro else up ro (tIn ro c).toNat (-1)
def dz (D : LD) (ht : Nat → Int) (s0 : Int) (ro : Nat → Int) : Nat → Int × (Nat → Int)
  | 0 => (s0, ro)
  | k + 1 => (nx (nx (dz D ht s0 ro k).1), yrR D ht (dzR (dz D ht s0 ro k).2 (dwv (nx (dz D ht s0 ro k).1) (D.cl : Int))) (fgS (nx (nx (dz D ht s0 ro k).1))))
def dpaid (D : LD) (ht r : Nat → Int) (fog : Nat) : Int := sm (fun i => txH D ht (lay D ht r) r fog i (r 60)) D.nh
def dtl (D : LD) (ht : Nat → Int) (s0 : Int) (ro : Nat → Int) : Nat → Int
  | 0 => 0
  | k + 1 => i_add (dtl D ht s0 ro k) (dpaid D ht (dzR (dz D ht s0 ro k).2 (dwv (nx (dz D ht s0 ro k).1) (D.cl : Int))) (fgS (nx (nx (dz D ht s0 ro k).1))))
theorem dzR_W {D : LD} {Y : Nat} {ro : Nat → Int} {c : Int} (R : RW D Y ro) : RW D Y (dzR ro c) := by
  unfold dzR
  by_cases q : tIn ro c = -1
  · rw [if_pos q]; exact R
  · rw [if_neg q]
    obtain ⟨t, t1, t2, -⟩ := tIn_yes q
    rw [t2, Int.toNat_natCast]
    exact R.drop t1
theorem dz_W {D : LD} {Y : Nat} {ht : Nat → Int} {s0 : Int} {ro : Nat → Int} (W : DW D) (R : RW D Y ro) : ∀ k, RW D (Y + k) (dz D ht s0 ro k).2
  | 0 => R
  | k + 1 => yrR_W W (dzR_W (dz_W W R k))
theorem CS.fog {D : LD} {ht sd ro : Nat → Int} {fog fog' L : Nat} {h : Hp} (H : CS D ht sd ro fog L h) (f9 : fog' ≤ 9) : CS D ht sd ro fog' L (st h 20 4 (fog' : Int)) := by
  obtain ⟨hL, a1, a2, a3, a4, a5, a6, a7⟩ := H
  exact ⟨hL, by rw [st_nk (by decide)]; exact a1, a2.same (fun a k q1 q2 => st_na (by omega)), fun c hc => by rw [st_na (by decide)]; exact a3 c hc, fun c hc => by rw [st_na (by decide)]; exact a4 c hc, a5.same (fun k => st_na (by decide)), st_self, f9⟩
/-- the reference on its way: its own row set aside -/
def MD (D : LD) (r : Nat → Int) (s : Int) (h0 h : Hp) : Prop := Same SV (fil h0 55 62 (h0 54)) h ∧ h 35 67 = s ∧ RR D r (h 54)
theorem MD.ms {D : LD} {Y : Nat} {ht ro r : Nat → Int} {L nr : Nat} {rh : Nat → Nat} {rm : Nat → Int} {s : Int} {h0 h : Hp} {fog : Nat} (C : Core D ht ro L nr rh rm h0) (R : RW D Y r) (hY : Y < 900000) (H : MD D r s h0 h) (h51 : h 35 51 = (fog : Int)) (f9 : fog ≤ 9) : MS D ht (h 57) r fog h ∧ h 35 52 = -1 ∧ h 35 53 = -1 := by
  obtain ⟨s, h67, hr⟩ := H
  have q : ∀ a k, ¬ SV a k → a ≠ 55 → h a k = h0 a k := fun a k n n5 => by rw [s a k n, fil_n n5]
  have y := R.2.2.2
  refine ⟨⟨C.2.2.2.2.2.1.same (fun a k p => q a k (by unfold SV; omega) (by omega)), fun c hc => ?_, fun c hc => rfl, hr, Or.inr h51, f9, by omega, by omega⟩, ?_, ?_⟩
  · rw [q _ _ (by unfold SV; omega) (by decide)]; exact C.2.2.2.2.2.2.1 c hc
  · rw [q _ _ (by unfold SV; omega) (by decide)]; exact C.2.2.2.2.2.2.2.2.2.2.1
  · rw [q _ _ (by unfold SV; omega) (by decide)]; exact C.2.2.2.2.2.2.2.2.2.2.2
