/-! pure part: the reference's sums, years, sets -/
theorem RW.sold {D : LD} {Y : Nat} {ro : Nat → Int} (R : RW D Y ro) : ∀ i, i < D.nh → in32 (ro (54 + i)) := fun i hi => by
  have := (R.2.1 i hi).2.2.2
  exact ⟨by omega, by omega⟩
def SY : Nat → Nat → Prop := fun a k => (a = 35 ∧ 54 ≤ k ∧ k ≤ 56) ∨ (a = 54 ∧ k < 62) ∨ a = 57 ∨ a = 58 ∨ a = 59
def SN : Nat → Nat → Prop := fun a k => (a = 35 ∧ 54 ≤ k ∧ k ≤ 56) ∨ a = 57 ∨ a = 58 ∨ a = 59
theorem SM_SN {h h' : Hp} (s : Same SM h h') : Same SN h h' := s.mono (fun a k p => by unfold SM at p; unfold SN; omega)
theorem S57_SN {h h' : Hp} (s : Same S57 h h') : Same SN h h' := s.mono (fun a k p => by unfold S57 at p; unfold SN; omega)
theorem SN_SY {h h' : Hp} (s : Same SN h h') : Same SY h h' := s.mono (fun a k p => by unfold SN at p; unfold SY; omega)
theorem MS.sn {D : LD} {ht sd ro : Nat → Int} {fog : Nat} {h h' : Hp} (H : MS D ht sd ro fog h) (q : Same SN h h') : MS D ht (h' 57) ro fog h' := by
  obtain ⟨a1, a2, a3, a4, a5, a6, a7⟩ := H
  refine ⟨a1.same (fun a k p => q a k (by unfold SN; omega)), fun c hc => ?_, fun c hc => rfl, a4.same (fun k => q _ _ (by unfold SN; omega)), ?_, a6, a7⟩
  · rw [q _ _ (by unfold SN; omega)]; exact a2 c hc
  · rw [q _ _ (by unfold SN; omega)]; exact a5
theorem m_lay0 {D : LD} {ht sd ro : Nat → Int} {fog : Nat} {h : Hp} (W : DW D) (H : MS D ht sd ro fog h) (h1 : h 35 52 = -1) (h2 : h 35 53 = -1) :
    wp (fX6_laysOut h) (fun r => r.1 = 0 ∧ Same S57 h r.2 ∧ MS D ht (lay D ht ro) ro fog r.2) := by
  refine (m_laysOut W H h1 h2 (Or.inl rfl) (Or.inl rfl)).mono ?_
  rintro r ⟨a, b, c⟩
  rw [layF_no] at c
  exact ⟨a, b, c⟩
theorem m_sumBy {D : LD} {Y : Nat} {ht sd ro : Nat → Int} {fog : Nat} {h : Hp} {law : Int} (W : DW D) (R : RW D Y ro) (H : MS D ht sd ro fog h) (h1 : h 35 52 = -1) (h2 : h 35 53 = -1) (hl : -1 ≤ law ∧ law < (D.nl : Int)) :
    wp (fX6_sumBy law h) (fun r => r.1 = sm (fun i => txH D ht (lay D ht ro) ro fog i law) D.nh ∧ Same SN h r.2) := by
  have hn := W.2.2.1
  unfold fX6_sumBy
  simp only [wp_bd]
  refine (m_lay0 W H h1 h2).mono ?_
  rintro ⟨r0, h3⟩ ⟨-, s3, H3⟩
  dsimp only at s3 H3 ⊢
  simp only [wp_bp]
  refine (wp_for (Q := fun r : Int × Hp => r.1 = sm (fun i => txH D ht (lay D ht ro) ro fog i law) D.nh ∧ Same SM h3 r.2) (fun k (s : Int × Int × Hp) => s.1 = sm (fun i => txH D ht (lay D ht ro) ro fog i law) k ∧ s.2.1 = (k : Int) ∧ Same SM h3 s.2.2) D.nh ?_ ?_ (FU_big (by omega)) ⟨rfl, rfl, Same.rf⟩).mono ?_
  · rintro k ⟨v, x, hh⟩ hk ⟨e1, e2, e3⟩
    dsimp only at e1 e2 e3 ⊢
    subst e1 e2
    have H' := H3.same e3
    unfold fX6_sumBy_l8
    simp only [wp_ite, wp_bd, H'.1.2.2.1]
    refine ⟨fun q => absurd q (by omega), fun _ => ?_⟩
    refine (m_taxBy W H' R.sold hk hl).mono ?_
    rintro ⟨r, h7⟩ ⟨g1, g2⟩
    dsimp only at g1 g2 ⊢
    subst g1
    simp only [wp_lb, wp_some, E2_l]
    exact ⟨rfl, i1 (by omega), e3.tr g2⟩
  · rintro ⟨v, x, hh⟩ ⟨e1, e2, e3⟩
    dsimp only at e1 e2 e3 ⊢
    subst e1 e2
    have H' := H3.same e3
    unfold fX6_sumBy_l8
    simp only [wp_ite, wp_some, E2_r, H'.1.2.2.1]
    exact ⟨fun _ => ⟨trivial, e3⟩, fun q => absurd (Int.le_refl _) q⟩
  · intro r hr
    simp only [wp_some]
    exact ⟨hr.1, (S57_SN s3).tr (SM_SN hr.2)⟩
theorem m_sum {D : LD} {Y : Nat} {ht sd ro : Nat → Int} {fog : Nat} {h : Hp} (W : DW D) (R : RW D Y ro) (H : MS D ht sd ro fog h) (h1 : h 35 52 = -1) (h2 : h 35 53 = -1) :
    wp (fX6_sum h) (fun r => r.1 = sm (fun i => txH D ht (lay D ht ro) ro fog i (ro 60)) D.nh ∧ Same SN h r.2) := by
  unfold fX6_sum
  simp only [wp_gd, wp_bd]
  refine ⟨by decide, ?_⟩
  rw [show h 54 (Int.toNat 60) = ro 60 from H.2.2.2.1.2.2.2.1]
  refine (m_sumBy W R H h1 h2 R.2.2.1).mono ?_
  intro r hr
  simp only [wp_some]
  exact hr
theorem m_mostBy {D : LD} {Y : Nat} {ht sd ro : Nat → Int} {fog : Nat} {h : Hp} {law : Int} (W : DW D) (R : RW D Y ro) (H : MS D ht sd ro fog h) (h1 : h 35 52 = -1) (h2 : h 35 53 = -1) (hl : -1 ≤ law ∧ law < (D.nl : Int)) :
    wp (fX6_mostBy law h) (fun r => r.1 = mx (fun i => txH D ht (lay D ht ro) ro fog i law) D.nh ∧ Same SN h r.2) := by
  have hn := W.2.2.1
  unfold fX6_mostBy
  simp only [wp_bd]
  refine (m_lay0 W H h1 h2).mono ?_
  rintro ⟨r0, h3⟩ ⟨-, s3, H3⟩
  dsimp only at s3 H3 ⊢
  simp only [wp_bp]
  refine (wp_for (Q := fun r : Int × Hp => r.1 = mx (fun i => txH D ht (lay D ht ro) ro fog i law) D.nh ∧ Same SM h3 r.2) (fun k (s : Int × Int × Hp) => s.1 = mx (fun i => txH D ht (lay D ht ro) ro fog i law) k ∧ s.2.1 = (k : Int) ∧ Same SM h3 s.2.2) D.nh ?_ ?_ (FU_big (by omega)) ⟨rfl, rfl, Same.rf⟩).mono ?_
  · rintro k ⟨v, x, hh⟩ hk ⟨e1, e2, e3⟩
    dsimp only at e1 e2 e3 ⊢
    subst e1 e2
    have H' := H3.same e3
    unfold fX6_mostBy_l8
    simp only [wp_ite, wp_bd, H'.1.2.2.1]
    refine ⟨fun q => absurd q (by omega), fun _ => ?_⟩
    refine (m_taxBy W H' R.sold hk hl).mono ?_
    rintro ⟨r, h7⟩ ⟨g1, g2⟩
    dsimp only at g1 g2 ⊢
    subst g1
    simp only [wp_some, E2_l]
    refine ⟨fun q => ⟨?_, i1 (by omega), e3.tr g2⟩, fun q => ?_⟩
    · show _ = (if _ then _ else _)
      rw [if_neg (Int.not_lt.mpr q)]
    · refine (m_taxBy W (H'.same g2) R.sold hk hl).mono ?_
      rintro ⟨r, h8⟩ ⟨g3, g4⟩
      dsimp only at g3 g4 ⊢
      refine ⟨?_, i1 (by omega), (e3.tr g2).tr g4⟩
      show _ = (if _ then _ else _)
      rw [if_pos (Int.not_le.mp q)]
      exact g3
  · rintro ⟨v, x, hh⟩ ⟨e1, e2, e3⟩
    dsimp only at e1 e2 e3 ⊢
    subst e1 e2
    have H' := H3.same e3
    unfold fX6_mostBy_l8
    simp only [wp_ite, wp_some, E2_r, H'.1.2.2.1]
    exact ⟨fun _ => ⟨trivial, e3⟩, fun q => absurd (Int.le_refl _) q⟩
  · intro r hr
    simp only [wp_some]
    exact ⟨hr.1, (S57_SN s3).tr (SM_SN hr.2)⟩
theorem m_arePaying {D : LD} {Y : Nat} {ht sd ro : Nat → Int} {fog : Nat} {h : Hp} {f1 f2 set much : Int} (W : DW D) (R : RW D Y ro) (H : MS D ht sd ro fog h) (h1 : h 35 52 = f1) (h2 : h 35 53 = f2) (g1 : f1 = -1 ∨ (0 ≤ f1 ∧ f1 < (D.cl : Int))) (g2 : f2 = -1 ∨ (0 ≤ f2 ∧ f2 < (D.cl : Int))) (hset : in32 set) :
    wp (fX6_arePaying set much h) (fun r => r.1 = (if aw (fun i => txH D ht (layF D ht ro f1 f2) ro fog i (ro 60)) set much D.nh = true then 1 else 0) ∧ Same SN h r.2) := by
  have hn := W.2.2.1
  unfold fX6_arePaying
  simp only [wp_bd]
  refine (m_laysOut W H h1 h2 g1 g2).mono ?_
  rintro ⟨r0, h3⟩ ⟨-, s3, H3⟩
  dsimp only at s3 H3 ⊢
  generalize layF D ht ro f1 f2 = sd1 at H3 ⊢
  clear g1 g2 h1 h2
  have loop : wp (it_ (fun s : Int × Hp => fX6_arePaying_l6 set much s.1 s.2) FU (0, h3)) (fun e => E2 (fun hq => aw (fun i => txH D ht sd1 ro fog i (ro 60)) set much D.nh = true ∧ Same SM h3 hq) (fun r : Int × Hp => r.1 = 0 ∧ aw (fun i => txH D ht sd1 ro fog i (ro 60)) set much D.nh = false ∧ Same SM h3 r.2) e) := by
    refine wp_for (fun k (s : Int × Hp) => s.1 = (k : Int) ∧ aw (fun i => txH D ht sd1 ro fog i (ro 60)) set much k = true ∧ Same SM h3 s.2) D.nh ?_ ?_ (FU_big (by omega)) ⟨rfl, rfl, Same.rf⟩
    · rintro k ⟨x, hh⟩ hk ⟨e1, e2, e3⟩
      dsimp only at e1 e2 e3 ⊢
      subst e1
      have H' := H3.same e3
      unfold fX6_arePaying_l6
      rw [H'.1.2.2.1, bt_is hset (by omega)]
      simp only [wp_ite, wp_some, wp_bd, E2_l, one1]
      refine ⟨fun q => absurd q (by omega), fun _ => ⟨fun q => ?_, fun q => ⟨i1 (by omega), aw_s e2 (Or.inl q), e3⟩⟩⟩
      refine (m_taxOf W H' R.sold hk R.2.2.1).mono ?_
      rintro ⟨v, h9⟩ ⟨v1, v2⟩
      dsimp only at v1 v2 ⊢
      subst v1
      simp only [E2_r]
      exact ⟨fun p => ⟨i1 (by omega), aw_s e2 (Or.inr p), e3.tr v2⟩, fun p => ⟨trivial, aw_no hk q p, e3.tr v2⟩⟩
    · rintro ⟨x, hh⟩ ⟨e1, e2, e3⟩
      dsimp only at e1 e2 e3 ⊢
      subst e1
      have H' := H3.same e3
      unfold fX6_arePaying_l6
      rw [H'.1.2.2.1]
      simp only [wp_ite, wp_some, E2_l, E2_r]
      exact ⟨fun _ => ⟨e2, e3⟩, fun q => absurd (Int.le_refl _) q⟩
  simp only [wp_bp]
  refine loop.mono ?_
  rintro (e | e) he
  · simp only [wp_some]
    exact ⟨by rw [if_pos he.1], (S57_SN s3).tr (SM_SN he.2)⟩
  · simp only [wp_some]
    exact ⟨by rw [he.1, he.2.1]; rfl, (S57_SN s3).tr (SM_SN he.2.2)⟩
theorem m_seenFrom {D : LD} {Y : Nat} {ht sd ro : Nat → Int} {fog c : Nat} {h : Hp} (W : DW D) (R : RW D Y ro) (H : MS D ht sd ro fog h) (hc : c < 64) :
    wp (fX6_seenFrom (c : Int) h) (fun r => r.1 = fb (fun i => bt (vw D ht sd ro fog i).2.2 c) D.nh ∧ Same SM h r.2) := by
  have hn := W.2.2.1
  unfold fX6_seenFrom
  simp only [wp_bp]
  refine (wp_for (Q := fun r : Int × Hp => r.1 = fb (fun i => bt (vw D ht sd ro fog i).2.2 c) D.nh ∧ Same SM h r.2) (fun k (s : Int × Int × Hp) => s.1 = fb (fun i => bt (vw D ht sd ro fog i).2.2 c) k ∧ s.2.1 = (k : Int) ∧ Same SM h s.2.2) D.nh ?_ ?_ (FU_big (by omega)) ⟨rfl, rfl, Same.rf⟩).mono ?_
  · rintro k ⟨v, x, hh⟩ hk ⟨e1, e2, e3⟩
    dsimp only at e1 e2 e3 ⊢
    subst e1 e2
    have H' := H.same e3
    unfold fX6_seenFrom_l4
    simp only [wp_ite, wp_bd, H'.1.2.2.1]
    refine ⟨fun q => absurd q (by omega), fun _ => ?_⟩
    refine (m_sees W H' R.sold hk).mono ?_
    rintro ⟨r0, h1⟩ ⟨-, -, bv, bs⟩
    dsimp only at bv bs ⊢
    have bs' : Same SM hh h1 := bs.mono (fun a k p => Or.inl p)
    rw [bv, bt_s hc]
    simp only [wp_lb, wp_some, E2_l, cmp1]
    refine ⟨fun q => ⟨(fb_step_t (p := fun i => bt (vw D ht sd ro fog i).2.2 c) q).symm, i1 (by omega), e3.tr bs'⟩, fun q => ⟨?_, i1 (by omega), e3.tr bs'⟩⟩
    rw [fb_step_f (p := fun i => bt (vw D ht sd ro fog i).2.2 c) q, ior0 (fb_in _ _)]
  · rintro ⟨v, x, hh⟩ ⟨e1, e2, e3⟩
    dsimp only at e1 e2 e3 ⊢
    subst e1 e2
    have H' := H.same e3
    unfold fX6_seenFrom_l4
    simp only [wp_ite, wp_some, E2_r, H'.1.2.2.1]
    exact ⟨fun _ => ⟨trivial, e3⟩, fun q => absurd (Int.le_refl _) q⟩
  · intro r hr
    simp only [wp_some]
    exact hr
/-- RETURNS in the reference -/
def RM (D : LD) (n : Nat) (rh : Nat → Nat) (rm : Nat → Int) (h : Hp) : Prop := n ≤ 6 ∧ h 35 65 = (n : Int) ∧ ∀ i, i < n → rh i < D.nh ∧ h 64 (2 * i) = (rh i : Int) ∧ h 64 (2 * i + 1) = rm i
theorem RM.same {D : LD} {n : Nat} {rh : Nat → Nat} {rm : Nat → Int} {h h' : Hp} (Q : RM D n rh rm h) (s : Same SY h h') : RM D n rh rm h' := by
  obtain ⟨q1, q2, q3⟩ := Q
  exact ⟨q1, by rw [s _ _ (by unfold SY; omega)]; exact q2, fun i hi => ⟨(q3 i hi).1, by rw [s _ _ (by unfold SY; omega)]; exact (q3 i hi).2.1, by rw [s _ _ (by unfold SY; omega)]; exact (q3 i hi).2.2⟩⟩
theorem i_2 {k : Nat} (h : k < 1000) : i_mul 2 (k : Int) = ((2 * k : Nat) : Int) := by rw [i_mul_eq ⟨by omega, by omega⟩]; omega
theorem m_liarsNow {D : LD} {Y n : Nat} {rh : Nat → Nat} {rm : Nat → Int} {ht sd ro : Nat → Int} {fog : Nat} {h : Hp} (W : DW D) (R : RW D Y ro) (H : MS D ht sd ro fog h) (h1 : h 35 52 = -1) (h2 : h 35 53 = -1) (Q : RM D n rh rm h) :
    wp (fX6_liarsNow h) (fun r => r.1 = lies (fun i => (vw D ht (lay D ht ro) ro fog i).1) rh rm n ∧ Same SN h r.2) := by
  have hn := W.2.2.1
  unfold fX6_liarsNow
  simp only [wp_bd]
  refine (m_lay0 W H h1 h2).mono ?_
  rintro ⟨r0, h3⟩ ⟨-, s3, H3⟩
  dsimp only at s3 H3 ⊢
  obtain ⟨n6, q6, qr⟩ := Q.same (SN_SY (S57_SN s3))
  simp only [wp_bp]
  refine (wp_for (Q := fun r : Int × Hp => r.1 = lies (fun i => (vw D ht (lay D ht ro) ro fog i).1) rh rm n ∧ Same SM h3 r.2) (fun k (s : Int × Int × Hp) => s.1 = lies (fun i => (vw D ht (lay D ht ro) ro fog i).1) rh rm k ∧ s.2.1 = (k : Int) ∧ Same SM h3 s.2.2) n ?_ ?_ (FU_big (by omega)) ⟨rfl, rfl, Same.rf⟩).mono ?_
  · rintro k ⟨v, x, hh⟩ hk ⟨e1, e2, e3⟩
    dsimp only at e1 e2 e3 ⊢
    subst e1 e2
    have H' := H3.same e3
    obtain ⟨k1, k2, k3⟩ := qr k hk
    have b6 : hh 35 65 = (n : Int) := by rw [e3 _ _ (by unfold SM; omega)]; exact q6
    have b64 : hh 64 (2 * k) = (rh k : Int) := by rw [e3 _ _ (by unfold SM; omega)]; exact k2
    unfold fX6_liarsNow_l8
    rw [b6, i_2 (by omega), i1 (by omega), Int.toNat_natCast, Int.toNat_natCast, b64]
    simp only [wp_gd, wp_ite, wp_bd]
    refine ⟨fun q => absurd q (by omega), fun _ => ⟨⟨by omega, by omega⟩, ?_⟩⟩
    refine (m_sees W H' R.sold k1).mono ?_
    rintro ⟨r, h8⟩ ⟨c1, -, -, c4⟩
    dsimp only at c1 c4 ⊢
    have c4' : Same SM hh h8 := c4.mono (fun a k p => Or.inl p)
    have b65 : h8 64 (2 * k + 1) = rm k := by rw [c4 _ _ (by omega), e3 _ _ (by unfold SM; omega)]; exact k3
    have b66 : h8 64 (2 * k) = (rh k : Int) := by rw [c4 _ _ (by omega)]; exact b64
    rw [c1, b65, b66]
    simp only [wp_lb, wp_some, E2_l]
    refine ⟨⟨by omega, by omega⟩, fun q => ⟨?_, i1 (by omega), e3.tr c4'⟩, fun q => ⟨⟨by omega, by omega⟩, ?_, i1 (by omega), e3.tr c4'⟩⟩
    · show _ = (if _ then _ else _)
      rw [if_pos q, ior0 (lies_in _ _ _ _)]
    · show _ = (if _ then _ else _)
      rw [if_neg q]
  · rintro ⟨v, x, hh⟩ ⟨e1, e2, e3⟩
    dsimp only at e1 e2 e3 ⊢
    subst e1 e2
    have b6 : hh 35 65 = (n : Int) := by rw [e3 _ _ (by unfold SM; omega)]; exact q6
    unfold fX6_liarsNow_l8
    rw [b6]
    simp only [wp_ite, wp_some, E2_r]
    exact ⟨fun _ => ⟨trivial, e3⟩, fun q => absurd (Int.le_refl _) q⟩
  · intro r hr
    simp only [wp_some]
    exact ⟨hr.1, (S57_SN s3).tr (SM_SN hr.2)⟩
