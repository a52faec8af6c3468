/-! pure part: barns, the losses -/
theorem up_comm {f : Nat → Int} {A B : Nat} {x y : Int} (n : A ≠ B) : up (up f A x) B y = up (up f B y) A x := by
  funext j
  by_cases q : j = A
  · subst q; rw [up_n n, up_s, up_s]
  · by_cases q2 : j = B
    · subst q2; rw [up_s, up_n q, up_s]
    · rw [up_n q2, up_n q, up_n q, up_n q2]
def loss (D : LD) (ht ro : Nat → Int) (b : Int) (p q : Nat) (a e : Int) : Int := txH D ht (lay D ht (up (up ro (48 + p) (i_add (ro (48 + p)) (i_mul a b))) (48 + q) (i_add (ro (48 + q)) (i_mul e b)))) ro (fogY D (ro 61)) p (ro 60)
theorem CS.barn {D : LD} {ht ro ro' : Nat → Int} {fog L p : Nat} {m : Int} {h : Hp} (W : DW D) (H : CS D ht (lay D ht ro') ro fog L h) (hp : p < D.nh) : CS D ht (lay D ht (up ro' (48 + p) (i_add (ro' (48 + p)) m))) ro fog L (st h 23 (D.hc p) (i_add (h 23 (D.hc p)) m)) := by
  refine H.stand (fun c hc => ?_)
  rw [lay_barn W hp, H.2.2.2.2.1 _ (W.2.2.2.2.2.1 p hp), lay_house W hp]
  by_cases q : c = D.hc p
  · rw [if_pos q, if_pos q, q, ia_assoc, ia_assoc]
  · rw [if_neg q, if_neg q]
theorem c_lossOf {D : LD} {ht ro : Nat → Int} {L nr p q : Nat} {rh : Nat → Nat} {rm : Nat → Int} {b a e : Int} {h : Hp} (C : Core D ht ro L nr rh rm h) (hp : p < D.nh) (hq : q < D.nh) (n : p ≠ q) :
    wp (fX5_lossOf (p : Int) (q : Int) b a e h) (fun r => r.1 = loss D ht ro b p q a e ∧ Same SX h r.2) := by
  have W := C.1
  have R := C.2.2.1
  have LBh := C.2.2.2.1
  have hL := LBh.1
  have hn6 := W.2.2.1
  have hc64 : D.cl ≤ 64 := cl64 W.1.2 W.2.1.2
  have cp := W.2.2.2.2.2.1 p hp
  have cq := W.2.2.2.2.2.1 q hq
  unfold fX5_lossOf
  rw [wp_bd]
  refine C.present.mono ?_
  rintro ⟨r, h3⟩ ⟨r1, r2, r3⟩
  dsimp only at r1 r2 r3 ⊢
  have v0 : h3 0 0 = (L : Int) := by rw [r2 _ _ (by unfold SC; omega)]; exact LBh.2.1
  have l2 : ((L : Int) + 2).toNat = L + 2 := by clear v0; omega
  have vp : h3 (L + 2) p = (D.hc p : Int) := r3.2.2.1.2.2.2.2.2.1 p hp
  have K1 := r3.barn W hp (m := i_mul a b)
  have w0 : st h3 23 (D.hc p) (i_add (h3 23 (D.hc p)) (i_mul a b)) 0 0 = (L : Int) := by rw [st_na (by decide)]; exact v0
  have wq : st h3 23 (D.hc p) (i_add (h3 23 (D.hc p)) (i_mul a b)) (L + 2) q = (D.hc q : Int) := K1.2.2.1.2.2.2.2.2.1 q hq
  rw [gd20 r1, gd_y (by rw [v0]; clear v0 vp w0 wq; omega), gd_y (by clear v0 vp w0 wq; omega), v0, l2, Int.toNat_natCast, vp, c_raiseN (by clear v0 vp w0 wq; omega), wp_bd, wp_some]
  dsimp only
  rw [gd_y (by rw [w0]; clear v0 vp w0 wq; omega), gd_y (by clear v0 vp w0 wq; omega), w0, l2, Int.toNat_natCast, wq, c_raiseN (by clear v0 vp w0 wq; omega), wp_bd, wp_some]
  dsimp only
  have K2 := K1.barn W hq (m := i_mul e b)
  rw [up_n (show 48 + q ≠ 48 + p by clear v0 vp w0 wq; omega)] at K2
  rw [wp_bd]
  refine (c_taxOf W K2 hp R.2.2.1).mono ?_
  rintro ⟨u, h17⟩ ⟨u1, u2⟩
  dsimp only at u1 u2 ⊢
  rw [wp_some]
  exact ⟨u1, (SC_X ((r2.st ⟨by decide, by decide⟩).st ⟨by decide, by decide⟩)).tr (SL_X u2)⟩
theorem c_restsWith {D : LD} {ht ro : Nat → Int} {L nr p q : Nat} {rh : Nat → Nat} {rm : Nat → Int} {b g a e : Int} {h : Hp} (C : Core D ht ro L nr rh rm h) (hp : p < D.nh) (hq : q < D.nh) (n : p ≠ q) :
    wp (fX5_restsWith (p : Int) (q : Int) b g a e h) (fun r => r.1 = (if i_add (loss D ht ro b p q (i_sub 1 a) e) (i_mul (i_sub 1 a) g) < i_add (loss D ht ro b p q a e) (i_mul a g) then 0 else 1) ∧ Same SX h r.2) := by
  unfold fX5_restsWith
  rw [wp_bd]
  refine (c_lossOf C hp hq n).mono ?_
  rintro ⟨u, h3⟩ ⟨u1, u2⟩
  dsimp only at u1 u2 ⊢
  subst u1
  rw [wp_lb, wp_bd]
  refine (c_lossOf (C.same u2) hp hq n).mono ?_
  rintro ⟨v, h7⟩ ⟨v1, v2⟩
  dsimp only at v1 v2 ⊢
  subst v1
  rw [wp_lb]
  by_cases z : i_add (loss D ht ro b p q (i_sub 1 a) e) (i_mul (i_sub 1 a) g) < i_add (loss D ht ro b p q a e) (i_mul a g)
  · exact w_t z (wp_some.mpr ⟨by rw [if_pos z], u2.tr v2⟩)
  · exact w_f z (wp_some.mpr ⟨by rw [if_neg z], u2.tr v2⟩)
theorem MS.st63 {D : LD} {ht sd ro : Nat → Int} {fog k : Nat} {v : Int} {h : Hp} (H : MS D ht sd ro fog h) : MS D ht sd ro fog (st h 63 k v) := by
  obtain ⟨a1, a2, a3, a4, a5, a6, a7⟩ := H
  exact ⟨a1.same (fun a k p => st_na (by omega)), fun c hc => by rw [st_na (by decide)]; exact a2 c hc, fun c hc => by rw [st_na (by decide)]; exact a3 c hc, a4.same (fun k => st_na (by decide)), by rw [st_na (by decide)]; exact a5, a6, a7⟩
theorem same2 {P : Nat → Nat → Prop} {h hB : Hp} {a A B : Nat} (s : Same (fun x k => (P x k ∨ (x = a ∧ k = A)) ∨ (x = a ∧ k = B)) h hB) : Same P h (st (st hB a A (h a A)) a B (h a B)) := by
  intro x k n
  by_cases e : x = a ∧ k = B
  · obtain ⟨rfl, rfl⟩ := e
    rw [st_self]
  · have e1 : st (st hB a A (h a A)) a B (h a B) x k = st hB a A (h a A) x k := if_neg e
    rw [e1]
    by_cases e2 : x = a ∧ k = A
    · obtain ⟨rfl, rfl⟩ := e2
      rw [st_self]
    · have e3 : st hB a A (h a A) x k = hB x k := if_neg e2
      rw [e3, s x k (fun z => z.elim (fun z => z.elim n e2) e)]
def Ubn (D : LD) (ht ro : Nat → Int) (b g : Int) (i j k : Nat) : Int := i_add (loss D ht ro b i j ((k / 2 : Nat) : Int) ((k % 2 : Nat) : Int)) (i_mul ((k / 2 : Nat) : Int) g)
def Vbn (D : LD) (ht ro : Nat → Int) (b g : Int) (i j k : Nat) : Int := i_add (loss D ht ro b j i ((k % 2 : Nat) : Int) ((k / 2 : Nat) : Int)) (i_mul ((k % 2 : Nat) : Int) g)
theorem k4 : ∀ k : Nat, k < 4 → i_div (k : Int) 2 = ((k / 2 : Nat) : Int) ∧ i_rem (k : Int) 2 = ((k % 2 : Nat) : Int) ∧ i_mul 2 (k : Int) = ((2 * k : Nat) : Int) ∧ i_add ((2 * k : Nat) : Int) 1 = ((2 * k + 1 : Nat) : Int) ∧ i_add (k : Int) 1 = ((k + 1 : Nat) : Int) ∧ 2 * k + 1 < 8 := by decide +kernel
theorem m_loses {D : LD} {ht ro : Nat → Int} {L nr i j : Nat} {rh : Nat → Nat} {rm : Nat → Int} {b g : Int} {h : Hp} (C : Core D ht ro L nr rh rm h) (hi : i < D.nh) (hj : j < D.nh) (n : i ≠ j) :
    wp (fX6_loses (i : Int) (j : Int) b g h) (fun r => (∀ k, k < 4 → r.2 63 (2 * k) = Ubn D ht ro b g i j k ∧ r.2 63 (2 * k + 1) = Vbn D ht ro b g i j k) ∧ r.2 35 0 = h 35 0 ∧ Same SXm h r.2) := by
  have W := C.1
  have R := C.2.2.1
  have hn6 := W.2.2.1
  have z52 : h 35 52 = -1 := C.2.2.2.2.2.2.2.2.2.2.1
  have z53 : h 35 53 = -1 := C.2.2.2.2.2.2.2.2.2.2.2
  have eA : i_add 48 (i : Int) = ((48 + i : Nat) : Int) := ik (c := 48) (by omega) (by decide)
  have eB : i_add 48 (j : Int) = ((48 + j : Nat) : Int) := ik (c := 48) (by clear eA; omega) (by decide)
  have gA : (0 : Int) ≤ ((48 + i : Nat) : Int) ∧ ((48 + i : Nat) : Int) < 62 := by clear eA eB; omega
  have gB : (0 : Int) ≤ ((48 + j : Nat) : Int) ∧ ((48 + j : Nat) : Int) < 62 := by clear eA eB; omega
  have nA : 12 ≤ 48 + i ∧ 48 + i ≠ 61 ∧ 48 + i ≠ 60 := by clear eA eB; omega
  have nB : 12 ≤ 48 + j ∧ 48 + j ≠ 61 ∧ 48 + j ≠ 60 := by clear eA eB; omega
  have nAB : 48 + i ≠ 48 + j := by clear eA eB; omega
  have n42 : ∀ p, p < D.nh → 42 + p ≠ 48 + i ∧ 42 + p ≠ 48 + j ∧ 54 + p ≠ 48 + i ∧ 54 + p ≠ 48 + j := fun p hp => by clear eA eB; omega
  have tr : ∀ (x y : Int) (p : Nat) (sd : Nat → Int), p < D.nh → txH D ht sd (up (up ro (48 + i) x) (48 + j) y) (fogY D (ro 61)) p (up (up ro (48 + i) x) (48 + j) y 60) = txH D ht sd ro (fogY D (ro 61)) p (ro 60) := fun x y p sd hp => by
    rw [up_n (Ne.symm nB.2.2), up_n (Ne.symm nA.2.2)]
    exact txH_row (by rw [up_n (Ne.symm nB.2.1), up_n (Ne.symm nA.2.1)]) (by rw [up_n (n42 p hp).2.1, up_n (n42 p hp).1]) (by rw [up_n (n42 p hp).2.2.2, up_n (n42 p hp).2.2.1])
  unfold fX6_loses
  rw [wp_bp]
  refine (wp_for (Q := fun r : Hp => (∀ k, k < 4 → r 63 (2 * k) = Ubn D ht ro b g i j k ∧ r 63 (2 * k + 1) = Vbn D ht ro b g i j k) ∧ r 35 0 = h 35 0 ∧ Same SXm h r) (fun k (s : Int × Hp) => s.1 = (k : Int) ∧ (∀ k', k' < k → s.2 63 (2 * k') = Ubn D ht ro b g i j k' ∧ s.2 63 (2 * k' + 1) = Vbn D ht ro b g i j k') ∧ s.2 35 0 = h 35 0 ∧ Same SXm h s.2) 4 ?_ ?_ (FU_big (by decide)) ⟨rfl, fun k' z => absurd z (Nat.not_lt_zero k'), rfl, Same.rf⟩).mono ?_
  · rintro k ⟨kk, hh⟩ hk ⟨f1, f2, f3, f4⟩
    dsimp only at f1 f2 f3 f4 ⊢
    subst f1
    obtain ⟨k1, k2, k3, k4, k5, k8⟩ := k4 k hk
    have C' := C.same (SXm_X f4)
    have vA : hh 54 (48 + i) = ro (48 + i) := (C'.2.2.2.2.2.2.2.1.2.2.1 i hi).2.2.1
    have vB : hh 54 (48 + j) = ro (48 + j) := (C'.2.2.2.2.2.2.2.1.2.2.1 j hj).2.2.1
    unfold fX6_loses_l3
    rw [eA, eB, k1, k2, k3, k4, k5]
    refine w_f (by clear eA eB k1 k2 k3 k4 k5 vA vB f2; omega) ?_
    rw [gd_y gA, Int.toNat_natCast, wp_lb, gd_y gB, Int.toNat_natCast, wp_lb, gd_y gA, gd_y gA, wp_lb, gd_y gB, gd_y gB, wp_lb, wp_bd]
    have x1 : st hh 54 (48 + i) (i_add (hh 54 (48 + i)) (i_mul ((k / 2 : Nat) : Int) b)) 54 (48 + j) = ro (48 + j) := by rw [st_nk (Ne.symm nAB)]; exact vB
    rw [x1, vA]
    have M1 := (C'.ms.row_up (v := i_add (ro (48 + i)) (i_mul ((k / 2 : Nat) : Int) b)) nA.1 nA.2.1).row_up (v := i_add (ro (48 + j)) (i_mul ((k % 2 : Nat) : Int) b)) nB.1 nB.2.1
    have t1 : Same (fun x k => (SXm x k ∨ (x = 54 ∧ k = 48 + i)) ∨ (x = 54 ∧ k = 48 + j)) hh (st (st hh 54 (48 + i) (i_add (ro (48 + i)) (i_mul ((k / 2 : Nat) : Int) b))) 54 (48 + j) (i_add (ro (48 + j)) (i_mul ((k % 2 : Nat) : Int) b))) := (st_same (P := fun x k => (SXm x k ∨ (x = 54 ∧ k = 48 + i)) ∨ (x = 54 ∧ k = 48 + j)) (Or.inl (Or.inr ⟨rfl, rfl⟩))).st (Or.inr ⟨rfl, rfl⟩)
    refine (m_lay0 W M1 (by rw [st_na (by decide), st_na (by decide)]; exact C'.2.2.2.2.2.2.2.2.2.2.1) (by rw [st_na (by decide), st_na (by decide)]; exact C'.2.2.2.2.2.2.2.2.2.2.2)).mono ?_
    rintro ⟨q, h16⟩ ⟨-, q2, q3⟩
    dsimp only at q2 q3 ⊢
    have sold : ∀ p, p < D.nh → in32 (up (up ro (48 + i) (i_add (ro (48 + i)) (i_mul ((k / 2 : Nat) : Int) b))) (48 + j) (i_add (ro (48 + j)) (i_mul ((k % 2 : Nat) : Int) b)) (54 + p)) := fun p hp => by
      rw [up_n (n42 p hp).2.2.2, up_n (n42 p hp).2.2.1]; exact R.sold p hp
    have law : -1 ≤ up (up ro (48 + i) (i_add (ro (48 + i)) (i_mul ((k / 2 : Nat) : Int) b))) (48 + j) (i_add (ro (48 + j)) (i_mul ((k % 2 : Nat) : Int) b)) 60 ∧ up (up ro (48 + i) (i_add (ro (48 + i)) (i_mul ((k / 2 : Nat) : Int) b))) (48 + j) (i_add (ro (48 + j)) (i_mul ((k % 2 : Nat) : Int) b)) 60 < (D.nl : Int) := by
      rw [up_n (Ne.symm nB.2.2), up_n (Ne.symm nA.2.2)]; exact R.2.2.1
    rw [wp_bd]
    refine (m_taxOf W q3 sold hi law).mono ?_
    rintro ⟨u, h19⟩ ⟨u1, u2⟩
    dsimp only at u1 u2 ⊢
    rw [tr _ _ i _ hi] at u1
    rw [gd_y (by clear eA eB k1 k2 k3 k4 k5 vA vB f2 x1 u1; omega), Int.toNat_natCast, wp_lb, wp_bd]
    refine (m_taxOf W (q3.same u2).st63 sold hj law).mono ?_
    rintro ⟨w, h25⟩ ⟨w1, w2⟩
    dsimp only at w1 w2 ⊢
    rw [tr _ _ j _ hj] at w1
    rw [gd_y (by clear eA eB k1 k2 k3 k4 k5 vA vB f2 x1 u1 w1; omega), Int.toNat_natCast, wp_lb, gd_y gA, wp_lb, gd_y gB, wp_lb, wp_some]
    have eU : i_add u (i_mul ((k / 2 : Nat) : Int) g) = Ubn D ht ro b g i j k := by rw [u1]; rfl
    have eV : i_add w (i_mul ((k % 2 : Nat) : Int) g) = Vbn D ht ro b g i j k := by rw [w1, up_comm nAB]; rfl
    rw [eV, vB]
    have s57 := S57_m q2
    have sM1 := SM_m u2
    have sM2 := SM_m w2
    have y63 : ∀ m, h25 63 m = st h19 63 (2 * k) (Ubn D ht ro b g i j k) 63 m := fun m => by rw [w2 _ _ (by unfold SM; clear eA eB k1 k2 k3 k4 k5 vA vB f2 x1 u1 w1 eU eV; omega), eU]
    have y63' : ∀ m, h19 63 m = hh 63 m := fun m => by rw [u2 _ _ (by unfold SM; clear eA eB k1 k2 k3 k4 k5 vA vB f2 x1 u1 w1 eU eV y63; omega), q2 _ _ (by unfold S57; clear eA eB k1 k2 k3 k4 k5 vA vB f2 x1 u1 w1 eU eV y63; omega), st_na (by decide), st_na (by decide)]
    refine ⟨rfl, fun k' hk' => ?_, ?_, ?_⟩
    · dsimp only
      have fin : ∀ (X : Hp) (x y : Int) (m : Nat), st (st X 54 (48 + i) x) 54 (48 + j) y 63 m = X 63 m := fun X x y m => by rw [st_na (by decide), st_na (by decide)]
      rw [fin, fin]
      by_cases e : k' = k
      · subst e
        refine ⟨?_, st_self⟩
        rw [st_nk (by clear eA eB k1 k2 k3 k4 k5 vA vB f2 x1 u1 w1 eU eV y63 y63'; omega), y63, st_self]
      · rw [st_nk (by clear eA eB k1 k2 k3 k4 k5 vA vB f2 x1 u1 w1 eU eV y63 y63'; omega), st_nk (by clear eA eB k1 k2 k3 k4 k5 vA vB f2 x1 u1 w1 eU eV y63 y63'; omega), y63, y63, st_nk (by clear eA eB k1 k2 k3 k4 k5 vA vB f2 x1 u1 w1 eU eV y63 y63'; omega), st_nk (by clear eA eB k1 k2 k3 k4 k5 vA vB f2 x1 u1 w1 eU eV y63 y63'; omega), y63', y63']
        exact f2 k' (by clear eA eB k1 k2 k3 k4 k5 vA vB f2 x1 u1 w1 eU eV y63 y63'; omega)
    · dsimp only
      rw [st_na (by decide), st_na (by decide), st_na (by decide), w2 _ _ (by unfold SM; clear eA eB k1 k2 k3 k4 k5 vA vB f2 x1 u1 w1 eU eV y63 y63'; omega), st_na (by decide), u2 _ _ (by unfold SM; clear eA eB k1 k2 k3 k4 k5 vA vB f2 x1 u1 w1 eU eV y63 y63'; omega), q2 _ _ (by unfold S57; clear eA eB k1 k2 k3 k4 k5 vA vB f2 x1 u1 w1 eU eV y63 y63'; omega), st_na (by decide), st_na (by decide)]
      exact f3
    · dsimp only
      refine f4.tr ?_
      have key : Same (fun x k => (SXm x k ∨ (x = 54 ∧ k = 48 + i)) ∨ (x = 54 ∧ k = 48 + j)) hh (st h25 63 (2 * k + 1) (Vbn D ht ro b g i j k)) := by
        refine Same.st (P := fun x k => (SXm x k ∨ (x = 54 ∧ k = 48 + i)) ∨ (x = 54 ∧ k = 48 + j)) ?_ (Or.inl (Or.inl (by unfold SXm; omega)))
        refine Same.tr ?_ (sM2.mono (fun _ _ p => Or.inl (Or.inl p)))
        refine Same.st (P := fun x k => (SXm x k ∨ (x = 54 ∧ k = 48 + i)) ∨ (x = 54 ∧ k = 48 + j)) ?_ (Or.inl (Or.inl (by unfold SXm; omega)))
        exact (t1.tr (s57.mono (fun _ _ p => Or.inl (Or.inl p)))).tr (sM1.mono (fun _ _ p => Or.inl (Or.inl p)))
      have := same2 key
      rw [vA, vB] at this
      exact this
  · rintro ⟨kk, hh⟩ ⟨f1, f2, f3, f4⟩
    dsimp only at f1 f2 f3 f4 ⊢
    subst f1
    unfold fX6_loses_l3
    exact w_t (by decide) (wp_some.mpr ⟨f2, f3, f4⟩)
  · intro r hr
    rw [wp_some]
    exact hr
