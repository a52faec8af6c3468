/-! pure part: spades, sale -/
theorem upF {f : Nat → Int} {m : Nat} {a b : Int} : up (up f m a) m b = up f m b := by
  funext j
  unfold up
  split <;> rfl
theorem up_same {f : Nat → Int} {m : Nat} : up f m (f m) = f := by
  funext j
  unfold up
  split
  · next e => rw [e]
  · rfl
/-- the reference's row changed for a while -/
theorem MS.reup {D : LD} {ht sd ro : Nat → Int} {fog m : Nat} {h : Hp} {v w : Int} (H : MS D ht sd (up ro m w) fog h) (hm : 12 ≤ m) (h61 : m ≠ 61) : MS D ht sd (up ro m v) fog (st h 54 m v) := by
  have := H.row_up (v := v) hm h61
  rw [show up (up ro m w) m v = up ro m v from upF] at this
  exact this
theorem CS.reup {D : LD} {ht sd ro : Nat → Int} {fog L m : Nat} {h : Hp} {v w : Int} (H : CS D ht sd (up ro m w) fog L h) (hm : 12 ≤ m) : CS D ht sd (up ro m v) fog L (st h 21 m v) := by
  have := H.row_up (v := v) hm
  rw [show up (up ro m w) m v = up ro m v from upF] at this
  exact this
theorem same54 {h hA hB : Hp} {m : Nat} (s1 : Same SXm h hA) (s2 : Same (fun a k => SN a k ∨ (a = 54 ∧ k = m)) hA hB) : Same SXm h (st hB 54 m (h 54 m)) := by
  intro a k n
  by_cases e : a = 54 ∧ k = m
  · obtain ⟨rfl, rfl⟩ := e
    exact st_self
  · have e1 : st hB 54 m (h 54 m) a k = hB a k := if_neg e
    rw [e1, s2 a k (fun z => z.elim (fun p => n (by unfold SN at p; unfold SXm; omega)) e), s1 a k n]
def SXw (m : Nat) : Nat → Nat → Prop := fun a k => SN a k ∨ (a = 54 ∧ k = m)
theorem SM_w {m : Nat} {h h' : Hp} (s : Same SM h h') : Same (SXw m) h h' := (SM_SN s).mono (fun _ _ p => Or.inl p)
theorem s_spades {κ : Int} {x y : Int} {h : Hp} (I : Inv κ h) : wp (fX5_spades x y h) (PT κ (fX6_spades x y) (fun e => if e = 0 then 1 else 2)) := by
  have I0 := I
  obtain ⟨D, ht, ro, L, nr, rh, rm, na, P, C, -, Q, M, -⟩ := I
  have LBh := C.2.2.2.1
  have W := C.1
  have R := C.2.2.1
  have hn6 := W.2.2.1
  unfold fX5_spades
  by_cases hx : 0 ≤ x ∧ x < (D.nh : Int)
  · refine nh_pass LBh.1 LBh.2.1 LBh.2.2.1 hx ?_
    obtain ⟨i, rfl⟩ : ∃ i : Nat, x = (i : Int) := ⟨x.toNat, by omega⟩
    have hi : i < D.nh := by omega
    have e42 : i_add 42 (i : Int) = ((42 + i : Nat) : Int) := ik (c := 42) (by omega) (by decide)
    have g42 : (0 : Int) ≤ ((42 + i : Nat) : Int) ∧ ((42 + i : Nat) : Int) < 62 := by clear e42; omega
    by_cases hy : 0 ≤ y ∧ y ≤ 999
    · have et : fX5_isTax y h = some 1 := by
        unfold fX5_isTax
        rw [if_neg (by clear e42; omega), if_neg (by clear e42; omega)]
      rw [et, wp_bp, wp_some]
      refine w_f n10 ?_
      have fl := (R.2.1 i hi).2.1
      generalize hfl : ro (42 + i) = fl0 at fl
      obtain ⟨N, hN⟩ : ∃ N : Nat, (N : Int) = fl0 + 4 := ⟨(fl0 + 4).toNat, by clear e42; omega⟩
      have hN7 : 1 ≤ N ∧ N ≤ 7 := by clear e42; omega
      generalize hp : (fun d : Nat => decide (txH D ht (lay D ht ro) (up ro (42 + i) (fl0 - (d : Int))) (fogY D (ro 61)) i (ro 60) ≤ y)) = p
      have hp' : ∀ d : Nat, p d = decide (txH D ht (lay D ht ro) (up ro (42 + i) (fl0 - (d : Int))) (fogY D (ro 61)) i (ro 60) ≤ y) := fun d => by rw [← hp]
      have u60 : ∀ v : Int, up ro (42 + i) v 60 = ro 60 := fun v => up_n (by clear e42; omega)
      have u0 : up ro (42 + i) fl0 = ro := by rw [← hfl]; exact up_same
      have hm : ∀ h', Same SX h h' → wp (fX6_spades (i : Int) y h') (fun q => q.1 = fi p N ∧ q.2 35 0 = 0 ∧ Same SXm h' q.2) := by
        intro h' s
        obtain ⟨C0, z0, s1, s2⟩ := C.z s
        unfold fX6_spades
        refine mh_pass z0 C0.nh hx (w_f n10 ?_)
        rw [m_within, if_pos hy, wp_bp, wp_some]
        refine mr_pass z0 (by decide) (w_f n10 ?_)
        generalize st h' 35 0 0 = h0 at *
        have w42 : h0 54 (42 + i) = fl0 := by rw [(C0.2.2.2.2.2.2.2.1.2.2.1 i hi).2.1]; exact hfl
        rw [e42, gd_y g42, Int.toNat_natCast, w42, wp_lb, wp_bd]
        refine C0.layd.mono ?_
        rintro ⟨q, h16⟩ ⟨-, q2, q3⟩
        dsimp only at q2 q3 ⊢
        have e3 : i_add fl0 3 = (N : Int) - 1 := by rw [ia (by clear e42 w42 z0; omega) (by clear e42 w42 z0; omega)]; clear e42 w42 z0; omega
        rw [e3, wp_lb, wp_bp]
        have q3' : MS D ht (lay D ht ro) (up ro (42 + i) fl0) (fogY D (ro 61)) h16 := by rw [u0]; exact q3
        refine (wp_for (Q := fun r : Int × Hp => r.1 = fi p N ∧ Same (SXw (42 + i)) h16 r.2) (fun k (s : Int × Int × Hp) => ((s.1 = -1 ∧ ∀ d, N - k ≤ d → d < N → p d = false) ∨ (∃ d : Nat, N - k ≤ d ∧ d < N ∧ s.1 = (d : Int) ∧ p d = true ∧ ∀ d', N - k ≤ d' → d' < d → p d' = false)) ∧ s.2.1 = (N : Int) - 1 - (k : Int) ∧ Same (SXw (42 + i)) h16 s.2.2 ∧ ∃ w, MS D ht (lay D ht ro) (up ro (42 + i) w) (fogY D (ro 61)) s.2.2) N ?_ ?_ (FU_big (by clear e42 w42 z0 e3; omega)) ?_).mono ?_
        · rintro k ⟨b, d, hh⟩ hk ⟨f1, f2, f3, w, f4⟩
          dsimp only at f1 f2 f3 f4 ⊢
          obtain ⟨dd, hdd⟩ : ∃ dd : Nat, dd + k + 1 = N := ⟨N - 1 - k, by clear e42 w42 z0 e3; omega⟩
          have f2' : d = (dd : Int) := by clear e42 w42 z0 e3; omega
          subst f2'
          have es : i_sub fl0 (dd : Int) = fl0 - (dd : Int) := isb (by clear e42 w42 z0 e3; omega) (by clear e42 w42 z0 e3; omega)
          have ed : i_add (dd : Int) (-1) = (N : Int) - 1 - ((k + 1 : Nat) : Int) := by rw [ia (by clear e42 w42 z0 e3 es; omega) (by clear e42 w42 z0 e3 es; omega)]; clear e42 w42 z0 e3 es; omega
          unfold fX6_spades_l53
          rw [e42, es, ed]
          clear e42 w42 e3 es ed
          refine w_f (by clear z0; omega) ?_
          rw [gd_y g42, Int.toNat_natCast, wp_lb, wp_bd]
          have M1 : MS D ht (lay D ht ro) (up ro (42 + i) (fl0 - (dd : Int))) (fogY D (ro 61)) (st hh 54 (42 + i) (fl0 - (dd : Int))) := f4.reup (by clear z0; omega) (by clear z0; omega)
          refine (m_taxOf W M1 ((R.upd W (Nat.le_refl _) (by clear z0; omega) (ok42 (by clear z0; omega) (by clear z0; omega))).sold) hi (by rw [u60]; exact R.2.2.1)).mono ?_
          rintro ⟨v, h23⟩ ⟨v1, v2⟩
          dsimp only at v1 v2 ⊢
          rw [u60] at v1
          subst v1
          have s9 : Same (SXw (42 + i)) h16 h23 := (f3.st (Or.inr ⟨rfl, rfl⟩)).tr (SM_w v2)
          by_cases hg : p dd = true
          · have hle : txH D ht (lay D ht ro) (up ro (42 + i) (fl0 - (dd : Int))) (fogY D (ro 61)) i (ro 60) ≤ y := by have := hp' dd; rw [hg] at this; simpa using this.symm
            refine w_f (Int.not_lt.mpr hle) (wp_some.mpr ⟨Or.inr ⟨dd, by clear z0; omega, by clear z0; omega, rfl, hg, fun d' a b => by clear z0; omega⟩, rfl, s9, _, M1.same v2⟩)
          · have hgt : y < txH D ht (lay D ht ro) (up ro (42 + i) (fl0 - (dd : Int))) (fogY D (ro 61)) i (ro 60) := by
              have := hp' dd
              have hg' : p dd = false := by simpa using hg
              rw [hg'] at this
              simpa using this.symm
            refine w_t hgt (wp_some.mpr ⟨?_, rfl, s9, _, M1.same v2⟩)
            rcases f1 with ⟨a1, a2⟩ | ⟨d0, a1, a2, a3, a4, a5⟩
            · refine Or.inl ⟨a1, fun d' b1 b2 => ?_⟩
              by_cases ed : d' = dd
              · rw [ed]; simpa using hg
              · exact a2 d' (by clear z0; omega) b2
            · refine Or.inr ⟨d0, by clear z0; omega, a2, a3, a4, fun d' b1 b2 => ?_⟩
              by_cases ed : d' = dd
              · rw [ed]; simpa using hg
              · exact a5 d' (by clear z0; omega) b2
        · rintro ⟨b, d, hh⟩ ⟨f1, f2, f3, w, f4⟩
          dsimp only at f1 f2 f3 f4 ⊢
          unfold fX6_spades_l53
          refine w_t (by clear e42 w42 z0 e3; omega) (wp_some.mpr ⟨?_, f3⟩)
          show b = _
          rcases f1 with ⟨a1, a2⟩ | ⟨d0, a1, a2, a3, a4, a5⟩
          · rw [a1]
            exact (fi_no.mpr (fun d' b => a2 d' (by clear e42 w42 z0 e3; omega) b)).symm
          · rw [a3]
            exact (fi_at a2 a4 (fun d' b => a5 d' (by clear e42 w42 z0 e3; omega) b)).symm
        · exact ⟨Or.inl ⟨rfl, fun d a b => by clear e42 w42 z0 e3; omega⟩, by show (N : Int) - 1 = (N : Int) - 1 - ((0 : Nat) : Int); clear e42 w42 z0 e3; omega, Same.rf, fl0, q3'⟩
        · rintro ⟨b, h29⟩ ⟨b1, b2⟩
          dsimp only at b1 b2 ⊢
          rw [gd_y g42, wp_lb, wp_some]
          refine ⟨b1, ?_, ?_⟩
          · show st h29 54 (42 + i) fl0 35 0 = 0
            rw [st_na (by decide), b2 _ _ (by unfold SXw SN; clear e42 w42 e3 z0; omega)]
            exact z_kept z0 (S57_SN q2)
          · have e54 : fl0 = h' 54 (42 + i) := by rw [← w42, s1 _ _ (by unfold SXm; clear e42 w42 e3 z0; omega)]
            show Same SXm h' (st h29 54 (42 + i) fl0)
            rw [e54]
            exact same54 (s1.tr (S57_m q2)) b2
      unfold fX5_spades_j23
      rw [wp_mi, wp_bd]
      refine C.present.mono ?_
      rintro ⟨r, h9⟩ ⟨r1, r2, r3⟩
      dsimp only at r1 r2 r3 ⊢
      have v42 : h9 21 (42 + i) = fl0 := by rw [(r3.row.2.2.1 i hi).2.1]; exact hfl
      rw [gd20 r1, e42, gd_y g42, Int.toNat_natCast, v42, wp_lb, wp_bp]
      have r3' : CS D ht (lay D ht ro) (up ro (42 + i) fl0) (fogY D (ro 61)) L h9 := by rw [u0]; exact r3
      have loop : wp (it_ (fun s : Int × Hp => fX5_spades_l44 (i : Int) y fl0 s.1 s.2) FU (fl0, h9)) (fun e => E2 (fun hq => fi p N = -1 ∧ Same SC h9 hq) (fun r : Int × Hp => r.1 = fi p N ∧ Same SC h9 r.2) e) := by
        refine wp_for (fun k (s : Int × Hp) => s.1 = fl0 - (k : Int) ∧ (∀ d, d < k → p d = false) ∧ Same SC h9 s.2 ∧ ∃ w, CS D ht (lay D ht ro) (up ro (42 + i) w) (fogY D (ro 61)) L s.2) N ?_ ?_ (FU_big (by clear e42 v42; omega)) ?_
        · rintro k ⟨lo, hh⟩ hk ⟨f1, f2, f3, w, f4⟩
          dsimp only at f1 f2 f3 f4 ⊢
          subst f1
          have es : i_sub fl0 (fl0 - (k : Int)) = (k : Int) := by rw [isb (by clear e42 v42; omega) (by clear e42 v42; omega)]; clear e42 v42; omega
          have ed : i_add (fl0 - (k : Int)) (-1) = fl0 - ((k + 1 : Nat) : Int) := by rw [ia (by clear e42 v42 es; omega) (by clear e42 v42 es; omega)]; clear e42 v42 es; omega
          unfold fX5_spades_l44
          rw [e42, es, ed]
          clear e42 v42 es ed
          refine w_f (by omega) ?_
          rw [gd_y g42, Int.toNat_natCast, wp_lb, wp_bd]
          have M1 : CS D ht (lay D ht ro) (up ro (42 + i) (fl0 - (k : Int))) (fogY D (ro 61)) L (st hh 21 (42 + i) (fl0 - (k : Int))) := f4.reup (by omega)
          refine (c_taxOf W M1 hi (by rw [u60]; exact R.2.2.1)).mono ?_
          rintro ⟨v, h18⟩ ⟨v1, v2⟩
          dsimp only at v1 v2 ⊢
          rw [u60] at v1
          subst v1
          have s9 : Same SC h9 h18 := (f3.st ⟨by decide, by decide⟩).tr (v2.mono (fun a k p => by unfold SL at p; unfold SC; omega))
          by_cases hg : p k = true
          · have hle : txH D ht (lay D ht ro) (up ro (42 + i) (fl0 - (k : Int))) (fogY D (ro 61)) i (ro 60) ≤ y := by have := hp' k; rw [hg] at this; simpa using this.symm
            exact w_f (Int.not_lt.mpr hle) (wp_some.mpr ⟨(fi_at hk hg f2).symm, s9⟩)
          · have hg' : p k = false := by simpa using hg
            have hgt : y < txH D ht (lay D ht ro) (up ro (42 + i) (fl0 - (k : Int))) (fogY D (ro 61)) i (ro 60) := by
              have := hp' k
              rw [hg'] at this
              simpa using this.symm
            refine w_t hgt (wp_some.mpr ⟨rfl, fun d hd => ?_, s9, _, M1.same v2⟩)
            by_cases ed : d = k
            · rw [ed]; exact hg'
            · exact f2 d (by omega)
        · rintro ⟨lo, hh⟩ ⟨f1, f2, f3, w, f4⟩
          dsimp only at f1 f2 f3 f4 ⊢
          unfold fX5_spades_l44
          exact w_t (by clear e42 v42; omega) (wp_some.mpr ⟨fi_no.mpr f2, f3⟩)
        · exact ⟨by show fl0 = fl0 - ((0 : Nat) : Int); clear e42 v42; omega, fun d hd => absurd hd (by omega), Same.rf, fl0, r3'⟩
      refine loop.mono ?_
      rintro (e | e) he
      · refine wp_some.mpr ?_
        rw [← he.1]
        exact q_ok I0 ((SC_X r2).tr (SC_X he.2)) hm
      · refine wp_some.mpr ?_
        obtain ⟨v, hv⟩ := e
        have he : v = fi p N ∧ Same SC h9 hv := he
        obtain ⟨rfl, he2⟩ := he
        exact q_ok I0 ((SC_X r2).tr (SC_X he2)) hm
    · have et : fX5_isTax y h = some 0 := by
        unfold fX5_isTax
        by_cases e : y < 0
        · rw [if_pos e]
        · rw [if_neg e, if_pos (by clear e42; omega)]
      rw [et, wp_bp, wp_some]
      refine w_t rfl ?_
      rw [wp_some]
      refine q_no I0 Same.rf (fun h' s => ?_)
      obtain ⟨C0, z0, s1, s2⟩ := C.z s
      unfold fX6_spades
      refine mh_pass z0 C0.nh hx (w_f n10 ?_)
      rw [m_within, if_neg hy, wp_bp, wp_some]
      exact mr_fail z0 (by decide) (w_t rfl (wp_some.mpr (no1 s1)))
  · refine nh_fail LBh.1 LBh.2.1 LBh.2.2.1 hx ?_
    exact no_house I0 C hx (fun h' => rfl) rfl
