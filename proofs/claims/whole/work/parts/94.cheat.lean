/-! pure part: cheat -/
def chI (cn : Int → Int) (hv : Int) (c : Nat) (s : Int × Int) : Nat → Int × Int
  | 0 => s
  | k + 1 => if (k : Int) = hv then chI cn hv c s k else if cn (k : Int) < (chI cn hv c s k).1 then (cn (k : Int), i_add (i_mul 10 (c : Int)) (k : Int)) else chI cn hv c s k
theorem chI_s {cn : Int → Int} {hv : Int} {c : Nat} {s : Int × Int} {k : Nat} : chI cn hv c s (k + 1) = if (k : Int) = hv then chI cn hv c s k else if cn (k : Int) < (chI cn hv c s k).1 then (cn (k : Int), i_add (i_mul 10 (c : Int)) (k : Int)) else chI cn hv c s k := by
  rw [chI]
theorem chI_le {cn : Int → Int} {hv : Int} {c : Nat} {s : Int × Int} : ∀ k, (chI cn hv c s k).1 ≤ s.1
  | 0 => Int.le_refl _
  | k + 1 => by
    have ih := chI_le (cn := cn) (hv := hv) (c := c) (s := s) k
    rw [chI_s]
    by_cases q : (k : Int) = hv
    · rw [if_pos q]; exact ih
    · rw [if_neg q]
      by_cases q2 : cn (k : Int) < (chI cn hv c s k).1
      · rw [if_pos q2]; exact Int.le_of_lt (Int.lt_of_lt_of_le q2 ih)
      · rw [if_neg q2]; exact ih
theorem chI_id {cn : Int → Int} {hv : Int} {c : Nat} {s : Int × Int} (H : ∀ v, s.1 ≤ cn v) : ∀ k, chI cn hv c s k = s
  | 0 => rfl
  | k + 1 => by
    rw [chI_s, chI_id H k, if_neg (Int.not_lt.mpr (H _))]
    by_cases q : (k : Int) = hv
    · rw [if_pos q]
    · rw [if_neg q]
def chO (D : LD) (ht : Nat → Int) (cn : Nat → Int → Int) (N0 : Int) : Nat → Int × Int
  | 0 => (N0, -1)
  | c + 1 => if hIn D (c : Int) = -1 then chI (cn c) (ht c) c (chO D ht cn N0 c) 10 else chO D ht cn N0 c
theorem chO_s {D : LD} {ht : Nat → Int} {cn : Nat → Int → Int} {N0 : Int} {c : Nat} : chO D ht cn N0 (c + 1) = if hIn D (c : Int) = -1 then chI (cn c) (ht c) c (chO D ht cn N0 c) 10 else chO D ht cn N0 c := by
  rw [chO]
theorem chO_le {D : LD} {ht : Nat → Int} {cn : Nat → Int → Int} {N0 : Int} : ∀ c, (chO D ht cn N0 c).1 ≤ N0
  | 0 => Int.le_refl _
  | c + 1 => by
    have ih := chO_le (D := D) (ht := ht) (cn := cn) (N0 := N0) c
    rw [chO_s]
    by_cases q : hIn D (c : Int) = -1
    · rw [if_pos q]; exact Int.le_trans (chI_le 10) ih
    · rw [if_neg q]; exact ih
def lvC (D : LD) (ht ro : Nat → Int) (rh : Nat → Nat) (rm : Nat → Int) (nr : Nat) : Int := lies (fun i => (vw D ht (lay D ht ro) ro (fogY D (ro 61)) i).1) rh rm nr
theorem vw_far {D : LD} {ht ro : Nat → Int} {fog c i : Nat} {v : Int} (W : DW D) (hi : i < D.nh) (hc : hIn D (c : Int) = -1) (hw : bt (ways D ro fog i) c ≠ true) : vw D (up ht c v) (lay D (up ht c v) ro) ro fog i = vw D ht (lay D ht ro) ro fog i := by
  have n : D.hc i ≠ c := fun z => hIn_no.mp hc i hi (by rw [z])
  have e1 : vw D (up ht c v) (lay D (up ht c v) ro) ro fog i = vw D ht (lay D (up ht c v) ro) ro fog i := by
    unfold vw
    rw [up_n n]
  rw [e1]
  refine vw_loc W (fun j hj hb => ?_)
  rw [lay_ht, if_neg (fun z => hw (by rw [← z]; exact hb))]
theorem far_le {D : LD} {ht ro : Nat → Int} {rh : Nat → Nat} {rm : Nat → Int} {nr c : Nat} {v ov : Int} (W : DW D) (hr : ∀ k, k < nr → rh k < D.nh) (ho : ∀ j, bt ov j = true ↔ ∃ i, i < D.nh ∧ bt (lvC D ht ro rh rm nr) i = true ∧ bt (ways D ro (fogY D (ro 61)) i) j = true) (hc : hIn D (c : Int) = -1) (hb : bt ov c ≠ true) : cntB (lvC D ht ro rh rm nr) ≤ cntB (lvC D (up ht c v) ro rh rm nr) := by
  have hn6 := W.2.2.1
  have h6 : ∀ k, k < nr → rh k < 6 := fun k hk => by have := hr k hk; omega
  refine cntB_mono (fun i hi z => ?_)
  have z' := z
  unfold lvC at z ⊢
  obtain ⟨k, a, b, e⟩ := (lies_bt hi nr h6).mp z
  have hin : i < D.nh := by rw [← b]; exact hr k a
  refine (lies_bt hi nr h6).mpr ⟨k, a, b, ?_⟩
  rw [vw_far W hin hc (fun w => hb ((ho c).mpr ⟨i, hin, z', w⟩))]
  exact e
theorem m_cheatI {D : LD} {ht ro : Nat → Int} {L nr c : Nat} {rh : Nat → Nat} {rm : Nat → Int} {a b : Int} {h : Hp} (C : Core D ht ro L nr rh rm h) (hc : c < D.cl) :
    wp (it_ (fun s : Int × Int × Int × Hp => fX6_cheat_l36 (c : Int) (ht c) s.1 s.2.1 s.2.2.1 s.2.2.2) FU (a, b, 0, h)) (fun r : Int × Int × Hp => (r.2.1, r.1) = (if hIn D (c : Int) = -1 then chI (fun v => cntB (lvC D (up ht c v) ro rh rm nr)) (ht c) c (b, a) 10 else (b, a)) ∧ Same SN h r.2.2) := by
  have W := C.1
  have hn6 := W.2.2.1
  have hc64 : D.cl ≤ 64 := cl64 W.1.2 W.2.1.2
  have gc : (0 : Int) ≤ (c : Int) ∧ (c : Int) < 64 := ⟨by omega, by omega⟩
  have h6 : ∀ k, k < nr → rh k < 6 := fun k hk => by have := (C.2.2.2.2.1.2.2 k hk).1; omega
  have w36 : h 36 c = ht c := C.2.2.2.2.2.2.1 c hc
  by_cases qh : hIn D (c : Int) = -1
  · rw [if_pos qh]
    generalize hG : chI (fun v => cntB (lvC D (up ht c v) ro rh rm nr)) (ht c) c (b, a) = G
    have G0 : G 0 = (b, a) := by rw [← hG]; rfl
    have Gs : ∀ k, G (k + 1) = if (k : Int) = ht c then G k else if cntB (lvC D (up ht c (k : Int)) ro rh rm nr) < (G k).1 then (cntB (lvC D (up ht c (k : Int)) ro rh rm nr), i_add (i_mul 10 (c : Int)) (k : Int)) else G k := fun k => by rw [← hG]; exact chI_s
    refine wp_for (Q := fun r : Int × Int × Hp => (r.2.1, r.1) = G 10 ∧ Same SN h r.2.2) (fun k (s : Int × Int × Int × Hp) => (s.2.1, s.1) = G k ∧ s.2.2.1 = (k : Int) ∧ Same SN h s.2.2.2) 10 ?_ ?_ (FU_big (by decide)) ⟨G0.symm, rfl, Same.rf⟩
    · rintro k ⟨a', b', kk, hh⟩ hk ⟨f1, f2, f3⟩
      dsimp only at f1 f2 f3 ⊢
      subst f2
      have k1 : i_add (k : Int) 1 = ((k + 1 : Nat) : Int) := i1 (by clear f1 w36; omega)
      have em := Gs k
      rw [← f1] at em
      dsimp only at em
      have M0 := C.ms.sn f3
      unfold fX6_cheat_l36
      rw [k1]
      refine w_f (by clear f1 w36 k1 em; omega) ?_
      rw [m_houseIn W M0.1, wp_bp, wp_some]
      refine w_t qh ?_
      by_cases q1 : (k : Int) = ht c
      · rw [if_pos q1] at em
        exact w_t q1 (wp_some.mpr ⟨em.symm, rfl, f3⟩)
      · rw [if_neg q1] at em
        refine w_f q1 ?_
        rw [gd_y gc, Int.toNat_natCast, wp_lb, wp_bd]
        have t1 : Same (fun x k => SN x k ∨ (x = 36 ∧ k = c)) h (st hh 36 c (k : Int)) := (f3.mono (fun _ _ p => Or.inl p)).st (Or.inr ⟨rfl, rfl⟩)
        refine (m_liarsNow W C.2.2.1 (M0.hts (c := c) (v := (k : Int))) (by rw [t1 _ _ (by unfold SN; clear f1 w36 k1 em; omega)]; exact C.2.2.2.2.2.2.2.2.2.2.1) (by rw [t1 _ _ (by unfold SN; clear f1 w36 k1 em; omega)]; exact C.2.2.2.2.2.2.2.2.2.2.2) (C.2.2.2.2.2.2.2.2.1.cg (fun k => t1 _ _ (by unfold SN; clear f1 w36 k1 em; omega)) (t1 _ _ (by unfold SN; clear f1 w36 k1 em; omega)))).mono ?_
        rintro ⟨u, h21⟩ ⟨u1, u2⟩
        dsimp only at u1 u2 ⊢
        have u1' : u = lvC D (up ht c (k : Int)) ro rh rm nr := u1
        obtain ⟨v, e, hv⟩ := lies_64 (m := fun i => (vw D (up ht c (k : Int)) (lay D (up ht c (k : Int)) ro) ro (fogY D (ro 61)) i).1) (rm := rm) nr h6
        have e' : lvC D (up ht c (k : Int)) ro rh rm nr = (v : Int) := e
        rw [e'] at em u1'
        rw [u1', m_bits hv, wp_bp, wp_some, gd_y gc, wp_lb]
        have s9 : Same SN h (st h21 36 c (ht c)) := by
          have := sameAt (P := SN) (h := h) (a := 36) (m := c) Same.rf (t1.tr (u2.mono (fun _ _ p => Or.inl p)))
          rw [w36] at this
          exact this
        by_cases q : cntB (v : Int) < b'
        · rw [if_pos q] at em
          refine w_t q ?_
          rw [wp_lb, wp_some]
          exact ⟨em.symm, rfl, s9⟩
        · rw [if_neg q] at em
          exact w_f q (wp_some.mpr ⟨em.symm, rfl, s9⟩)
    · rintro ⟨a', b', kk, hh⟩ ⟨f1, f2, f3⟩
      dsimp only at f1 f2 f3 ⊢
      subst f2
      unfold fX6_cheat_l36
      exact w_t (by decide) (wp_some.mpr ⟨f1, f3⟩)
  · rw [if_neg qh]
    refine wp_for (Q := fun r : Int × Int × Hp => (r.2.1, r.1) = (b, a) ∧ Same SN h r.2.2) (fun _ (s : Int × Int × Int × Hp) => s = (a, b, 0, h)) 0 (fun k s hk _ => absurd hk (Nat.not_lt_zero k)) ?_ (FU_big (by decide)) rfl
    rintro s rfl
    dsimp only
    unfold fX6_cheat_l36
    refine w_f (by decide) ?_
    rw [m_houseIn W C.2.2.2.2.2.1, wp_bp, wp_some]
    exact w_f qh (wp_some.mpr ⟨rfl, Same.rf⟩)
