/-! pure part: tell, feed -/
theorem s_tell {κ : Int} {x y : Int} {h : Hp} (I : Inv κ h) : wp (fX5_tell x y h) (PT κ (fX6_tell x y) (fun _ => 1)) := by
  have I0 := I
  obtain ⟨D, ht, ro, L, nr, rh, rm, na, P, C, O, Q, M, G⟩ := I
  obtain ⟨⟨q1, q2⟩, qc, qm⟩ := past_iff.mp Q
  have LBh := C.2.2.2.1
  have W := C.1
  obtain ⟨t6, tn, tt⟩ := C.2.2.2.2.1
  obtain ⟨u6, un, uu⟩ := C.2.2.2.2.2.2.2.2.1
  unfold fX5_tell
  by_cases hx : 0 ≤ x ∧ x < (D.nh : Int)
  · refine nh_pass LBh.1 LBh.2.1 LBh.2.2.1 hx ?_
    obtain ⟨i, rfl⟩ : ∃ i : Nat, x = (i : Int) := ⟨x.toNat, by omega⟩
    have hi : i < D.nh := by omega
    by_cases ok : (0 ≤ y ∧ y ≤ 99) ∧ nr < 6
    · have e : fX5_tell_j5 (i : Int) y h = some (((nr + 1 : Nat) : Int), st (st (st h 29 nr (i : Int)) 30 nr y) 26 6 ((nr + 1 : Nat) : Int)) := by
        have a1 : st h 29 nr (i : Int) 26 6 = (nr : Int) := by rw [st_na (by decide)]; exact tn
        have a2 : st (st h 29 nr (i : Int)) 30 nr y 26 6 = (nr : Int) := by rw [st_na (by decide)]; exact a1
        have g : (0 : Int) ≤ (nr : Int) ∧ (nr : Int) < 6 := by clear a1 a2; omega
        have n1 : i_add (nr : Int) 1 = ((nr + 1 : Nat) : Int) := i1 (by clear a1 a2; omega)
        unfold fX5_tell_j5 fX0_write_26
        rw [if_neg (by clear a1 a2 n1; omega), if_neg (by clear a1 a2 n1; omega), tn, if_pos g.2, gd_y g, Int.toNat_natCast]
        unfold lb_
        dsimp only
        rw [a1, gd_y g, Int.toNat_natCast, a2, n1]
        simp only [bd_]
        rw [if_neg (by decide), st_self]
      rw [e, wp_mi, wp_some]
      generalize hh1 : st (st (st h 29 nr (i : Int)) 30 nr y) 26 6 ((nr + 1 : Nat) : Int) = h1
      have s1 : ∀ a k, ¬ (a = 26 ∧ k = 6) → a ≠ 29 → a ≠ 30 → h1 a k = h a k := fun a k n1 n2 n3 => by
        rw [← hh1]
        have e1 : st (st (st h 29 nr (i : Int)) 30 nr y) 26 6 ((nr + 1 : Nat) : Int) a k = st (st h 29 nr (i : Int)) 30 nr y a k := if_neg n1
        rw [e1, st_na n3, st_na n2]
      have v6 : h1 26 6 = ((nr + 1 : Nat) : Int) := by rw [← hh1]; exact st_self
      have v29 : ∀ j, h1 29 j = if j = nr then (i : Int) else h 29 j := fun j => by
        rw [← hh1, st_na (by decide), st_na (by decide)]
        by_cases e : j = nr
        · rw [if_pos e, e, st_self]
        · rw [if_neg e, st_nk e]
      have v30 : ∀ j, h1 30 j = if j = nr then y else h 30 j := fun j => by
        rw [← hh1, st_na (by decide)]
        by_cases e : j = nr
        · rw [if_pos e, e, st_self]
        · rw [if_neg e, st_nk e, st_na (by decide)]
      clear hh1
      show wp (fX6_tell (i : Int) y (st h1 68 0 ((nr + 1 : Nat) : Int))) _
      generalize hh2 : st h1 68 0 ((nr + 1 : Nat) : Int) = h2
      have s2 : ∀ a k, a ≠ 68 → h2 a k = h1 a k := fun a k n => by rw [← hh2]; exact st_na n
      have v68 : h2 68 0 = ((nr + 1 : Nat) : Int) := by rw [← hh2]; exact st_self
      clear hh2
      obtain ⟨m1, m2, m3, m4, m5, -⟩ := C.mz2 qm (h' := h2) (fun a k p => by rw [s2 _ _ (by omega), s1 _ _ (by omega) (by omega) (by omega)])
      unfold fX6_tell
      refine mh_pass m3 m1.2.2.1 hx (w_f n10 ?_)
      have b65 : st h2 35 0 0 35 65 = (nr : Int) := by rw [st_nk (by decide), s2 _ _ (by decide), s1 _ _ (by decide) (by decide) (by decide)]; exact un
      generalize hh0 : st h2 35 0 0 = h0 at *
      have s0 : ∀ a k, ¬ (a = 35 ∧ k = 0) → h0 a k = h2 a k := fun a k n => by rw [← hh0]; exact if_neg n
      clear hh0
      have g12 : (0 : Int) ≤ ((2 * nr : Nat) : Int) ∧ ((2 * nr : Nat) : Int) < 12 := by clear b65 un tn v6 v68 m3; omega
      have g13 : (0 : Int) ≤ ((2 * nr + 1 : Nat) : Int) ∧ ((2 * nr + 1 : Nat) : Int) < 12 := by clear b65 un tn v6 v68 m3; omega
      have n2 : nr < 1000 := by clear b65 un tn v6 v68 m3; omega
      have n3 : 2 * nr < 4000 := by clear b65 un tn v6 v68 m3; omega
      have n4 : nr < 4000 := by clear b65 un tn v6 v68 m3; omega
      have n6 : ¬ ((nr : Int) = 6) := by clear b65 un tn v6 v68 m3; omega
      rw [b65]
      refine w_f n6 ?_
      rw [m_within, if_pos ok.1, wp_bp, wp_some]
      refine w_f n10 ?_
      rw [i_2 n2, gd_y g12, wp_lb, Int.toNat_natCast, st_na (show (35 : Nat) ≠ 64 by decide), b65, i_2 n2, i1 n3, gd_y g13, wp_lb, Int.toNat_natCast, st_na (show (35 : Nat) ≠ 64 by decide), st_na (show (35 : Nat) ≠ 64 by decide), b65, i1 n4, wp_lb, wp_some]
      dsimp only
      have fr : ∀ a k, ¬ (a = 35 ∧ k = 65) → a ≠ 64 → st (st (st h0 64 (2 * nr) (i : Int)) 64 (2 * nr + 1) y) 35 65 ((nr + 1 : Nat) : Int) a k = h0 a k := fun a k p1 p2 => by
        have e1 : st (st (st h0 64 (2 * nr) (i : Int)) 64 (2 * nr + 1) y) 35 65 ((nr + 1 : Nat) : Int) a k = st (st h0 64 (2 * nr) (i : Int)) 64 (2 * nr + 1) y a k := if_neg p1
        rw [e1, st_na p2, st_na p2]
      refine ⟨?_, ?_, Inv.told (nr' := nr + 1) (rh' := fun j => if j = nr then i else rh j) (rm' := fun j => if j = nr then y else rm j) C O Q M G (fun a k p p1 p2 p3 p4 p5 => ?_) ⟨by clear b65 un tn v6 v68 m3; omega, ?_, fun j hj => ?_⟩ ⟨by clear b65 un tn v6 v68 m3; omega, st_self, fun j hj => ?_⟩⟩
      · rw [fr _ _ (by decide) (by decide)]; exact m3
      · rw [fr _ _ (by decide) (by decide), s0 _ _ (by decide), v68, st_self]
      · rw [fr _ _ p4 p5, s0 _ _ (fun z => p (by unfold SX; omega)), s2 _ _ (fun z => p (by unfold SX; omega)), s1 _ _ p1 p2 p3]
      · rw [fr _ _ (by decide) (by decide), s0 _ _ (by decide), s2 _ _ (by decide), v6]
      · dsimp only
        rw [fr _ _ (fun z => absurd z.1 (by decide)) (by decide), s0 _ _ (fun z => absurd z.1 (by decide)), s2 _ _ (by decide), v29, fr _ _ (fun z => absurd z.1 (by decide)) (by decide), s0 _ _ (fun z => absurd z.1 (by decide)), s2 _ _ (by decide), v30]
        by_cases e : j = nr
        · rw [if_pos e, if_pos e, if_pos e, if_pos e]; exact ⟨hi, rfl, rfl⟩
        · rw [if_neg e, if_neg e, if_neg e, if_neg e]; exact tt j (by clear b65 un tn v6 v68 m3; omega)
      · dsimp only
        by_cases e : j = nr
        · subst e
          rw [if_pos rfl, if_pos rfl, st_na (by decide), st_nk (by clear b65 un tn v6 v68 m3; omega), st_self, st_na (by decide), st_self]
          exact ⟨hi, rfl, rfl⟩
        · have c1 : 2 * j ≠ 2 * nr + 1 ∧ 2 * j ≠ 2 * nr ∧ 2 * j + 1 ≠ 2 * nr + 1 ∧ 2 * j + 1 ≠ 2 * nr ∧ j < nr := by clear b65 un tn v6 v68 m3; omega
          rw [if_neg e, if_neg e, st_na (by decide), st_nk c1.1, st_nk c1.2.1, st_na (by decide), st_nk c1.2.2.1, st_nk c1.2.2.2.1, s0 _ _ (fun z => absurd z.1 (by decide)), s0 _ _ (fun z => absurd z.1 (by decide)), s2 _ _ (by decide), s2 _ _ (by decide), s1 _ _ (fun z => absurd z.1 (by decide)) (by decide) (by decide), s1 _ _ (fun z => absurd z.1 (by decide)) (by decide) (by decide)]
          exact uu j c1.2.2.2.2
    · have e : fX5_tell_j5 (i : Int) y h = some (-1, st h 0 (11 + 2) (i_add (h 0 (11 + 2)) 1)) := by
        unfold fX5_tell_j5 fX0_write_26
        have j27 : fX5_tell_j27 h = some (-1, st h 0 (11 + 2) (i_add (h 0 (11 + 2)) 1)) := rfl
        by_cases a1 : y < 0
        · rw [if_pos a1, j27]
        · rw [if_neg a1]
          by_cases a2 : 99 < y
          · rw [if_pos a2, j27]
          · rw [if_neg a2, tn, if_neg (by omega)]
            simp only [bd_]
            rw [if_pos trivial, j27]
      rw [e, wp_mi, wp_some]
      refine ref_T I0 (by decide) (fun h' s => ?_)
      obtain ⟨m1, m2, m3, m4, m5, -⟩ := C.mz2 qm (mz_F s)
      have k : wp (fX6_tell_j34 (st h' 35 0 0)) (fun y => y.1 = -1 ∧ ∃ hq, hq 35 0 = 0 ∧ Same SXm h' hq ∧ y.2 = st hq 43 2 (i_add (hq 43 2) 1)) := by
        unfold fX6_tell_j34
        rw [show (2 : Int) = ((2 : Nat) : Int) from rfl, m_refuses (by decide), wp_bd, wp_some, wp_some]
        exact ⟨rfl, _, m3, m5, rfl⟩
      unfold fX6_tell
      refine mh_pass m3 m1.2.2.1 hx (w_f n10 ?_)
      have b65 : st h' 35 0 0 35 65 = (nr : Int) := by rw [st_nk (by decide), s _ _ (by unfold SF SX; omega)]; exact un
      rw [b65]
      by_cases a3 : nr = 6
      · exact w_t (by clear b65; omega) k
      · refine w_f (by clear b65; omega) ?_
        rw [m_within, if_neg (fun z => ok ⟨z, by clear b65; omega⟩), wp_bp, wp_some]
        exact w_t rfl k
  · refine nh_fail LBh.1 LBh.2.1 LBh.2.2.1 hx ?_
    exact no_house I0 C hx (fun h' => rfl) rfl
/-! bytes -/
theorem byte_eq (X : BitVec 32) (s : Nat) (hs : s ≤ 24) : (X >>> s).setWidth 8 = (X.sshiftRight s).setWidth 8 := by
  apply BitVec.eq_of_getLsbD_eq
  intro i hi
  rw [BitVec.getLsbD_setWidth, BitVec.getLsbD_setWidth, BitVec.getLsbD_ushiftRight, BitVec.getLsbD_sshiftRight, if_pos (by omega)]
  have : decide (32 ≤ i) = false := by simp; omega
  simp [this]
theorem sx8 (Y : BitVec 32) : Y.signExtend 8 = Y.setWidth 8 := by
  apply BitVec.eq_of_getLsbD_eq
  intro i hi
  rw [BitVec.getLsbD_signExtend, BitVec.getLsbD_setWidth, if_pos (by omega)]
theorem b255 (Y : BitVec 32) : (Y &&& 255#32).toInt = ((Y.setWidth 8).toNat : Int) := by
  have h1 : Y &&& 255#32 = (Y.setWidth 8).setWidth 32 := by
    apply BitVec.eq_of_getLsbD_eq
    intro i hi
    rw [BitVec.getLsbD_and, BitVec.getLsbD_setWidth, BitVec.getLsbD_setWidth]
    have key : ∀ i : Fin 32, (255#32).getLsbD i.val = decide (i.val < 8) := by decide
    have := key ⟨i, hi⟩
    dsimp only at this
    rw [this]
    by_cases e : i < 8
    · simp [e, hi]
    · simp [e]
  have h2 : (Y.setWidth 8).toNat < 256 := (Y.setWidth 8).isLt
  rw [h1, BitVec.toInt_eq_toNat_of_lt (by rw [BitVec.toNat_setWidth]; omega), BitVec.toNat_setWidth, Nat.mod_eq_of_lt (by omega)]
def byC (x : Int) (j : Nat) : Int := i_2b (i_ushr x ((24 - 8 * j : Nat) : Int))
def byM (x : Int) (j : Nat) : Int := i_and (i_shr x ((24 - 8 * j : Nat) : Int)) 255
theorem sh_u32 : ∀ k : Nat, k < 32 → (((Int32.ofInt (k : Int)).toUInt32 &&& Int32.toUInt32 31).toBitVec % 32) = BitVec.ofNat 32 k := by decide +kernel
theorem byC_eq (x : Int) (j : Nat) : byC x j = (((BitVec.ofInt 32 x) >>> (24 - 8 * j)).setWidth 8).toInt := by
  have hk : 24 - 8 * j < 32 := by omega
  have e : (((Int32.ofInt x).toUInt32 >>> ((Int32.ofInt ((24 - 8 * j : Nat) : Int)).toUInt32 &&& Int32.toUInt32 31)).toInt32).toBitVec = (BitVec.ofInt 32 x) >>> (24 - 8 * j) := by
    show (BitVec.ofInt 32 x) >>> (((Int32.ofInt ((24 - 8 * j : Nat) : Int)).toUInt32 &&& Int32.toUInt32 31).toBitVec % 32) = _
    rw [sh_u32 _ hk, BitVec.ushiftRight_eq', BitVec.toNat_ofNat, Nat.mod_eq_of_lt (by omega)]
  unfold byC i_2b i_ushr
  rw [i32_to]
  generalize (((Int32.ofInt x).toUInt32 >>> ((Int32.ofInt ((24 - 8 * j : Nat) : Int)).toUInt32 &&& Int32.toUInt32 31)).toInt32) = A at e ⊢
  rw [← e]
  show ((A.toBitVec.signExtend 8).signExtend 32).toInt = _
  rw [BitVec.toInt_signExtend_of_le (by decide), sx8]
theorem byM_eq (x : Int) (j : Nat) : byM x j = ((((BitVec.ofInt 32 x).sshiftRight (24 - 8 * j)).setWidth 8).toNat : Int) := by
  have hk : 24 - 8 * j < 32 := by omega
  have e : (Int32.ofInt x >>> (Int32.ofInt ((24 - 8 * j : Nat) : Int) &&& 31)).toBitVec = (BitVec.ofInt 32 x).sshiftRight (24 - 8 * j) := by
    show (BitVec.ofInt 32 x).sshiftRight' ((Int32.ofInt ((24 - 8 * j : Nat) : Int) &&& 31).toBitVec.smod 32) = _
    rw [sh_32 _ hk, BitVec.sshiftRight_eq', BitVec.toNat_ofNat, Nat.mod_eq_of_lt (by omega)]
  unfold byM i_and i_shr
  rw [i32_to]
  generalize (Int32.ofInt x >>> (Int32.ofInt ((24 - 8 * j : Nat) : Int) &&& 31)) = B at e ⊢
  rw [← e]
  exact b255 _
theorem by_rel (x : Int) (j : Nat) : (-128 ≤ byC x j ∧ byC x j ≤ 127) ∧ byM x j = byC x j % 256 := by
  rw [byC_eq, byM_eq, ← byte_eq _ _ (by omega)]
  generalize ((BitVec.ofInt 32 x) >>> (24 - 8 * j)).setWidth 8 = V
  have h1 : V.toNat < 256 := V.isLt
  have h2 : V.toInt = Int.bmod V.toNat 256 := BitVec.toInt_eq_toNat_bmod V
  refine ⟨?_, ?_⟩
  · rw [h2]
    have := Int.le_bmod (x := (V.toNat : Int)) (m := 256) (by decide)
    have := Int.bmod_lt (x := (V.toNat : Int)) (m := 256) (by decide)
    omega
  · rw [h2, show (256 : Int) = ((256 : Nat) : Int) from rfl, Int.bmod_emod]
    omega
