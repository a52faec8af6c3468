/-! pure part: sale, shade -/
def bestF (skip : Nat → Bool) (f : Nat → Int) (b0 l0 : Int) : Nat → Int × Int
  | 0 => (b0, l0)
  | k + 1 => if skip k = true then bestF skip f b0 l0 k else if f k < (bestF skip f b0 l0 k).2 then ((k : Int), f k) else bestF skip f b0 l0 k
theorem s_sale {κ : Int} {x : Int} {h : Hp} (I : Inv κ h) : wp (fX5_sale x h) (PT κ (fX6_sale x) (fun _ => 1)) := by
  have I0 := I
  obtain ⟨D, ht, ro, L, nr, rh, rm, na, P, C, -, Q, M, -⟩ := I
  have LBh := C.2.2.2.1
  have W := C.1
  have R := C.2.2.1
  have hn6 := W.2.2.1
  unfold fX5_sale
  by_cases hx : 0 ≤ x ∧ x < (D.nh : Int)
  · refine nh_pass LBh.1 LBh.2.1 LBh.2.2.1 hx ?_
    obtain ⟨i, rfl⟩ : ∃ i : Nat, x = (i : Int) := ⟨x.toNat, by omega⟩
    have hi : i < D.nh := by omega
    have e54 : i_add 54 (i : Int) = ((54 + i : Nat) : Int) := ik (c := 54) (by omega) (by decide)
    have g54 : (0 : Int) ≤ ((54 + i : Nat) : Int) ∧ ((54 + i : Nat) : Int) < 62 := by clear e54; omega
    have n54 : 12 ≤ 54 + i ∧ 54 + i ≠ 61 ∧ 54 + i ≠ 60 := by clear e54; omega
    have rs := (R.2.1 i hi).2.2.2
    have hs32 := R.sold i hi
    generalize hso : ro (54 + i) = so at rs hs32
    obtain ⟨sn, hsn⟩ : ∃ sn : Nat, so = (sn : Int) := ⟨so.toNat, by clear e54; omega⟩
    have u60 : ∀ v : Int, up ro (54 + i) v 60 = ro 60 := fun v => up_n (by clear e54; omega)
    have u0 : up ro (54 + i) so = ro := by rw [← hso]; exact up_same
    generalize hf : (fun d : Nat => txH D ht (lay D ht ro) (up ro (54 + i) (i_or so (i_shl 1 (d : Int)))) (fogY D (ro 61)) i (ro 60)) = f
    have hf' : ∀ d : Nat, txH D ht (lay D ht ro) (up ro (54 + i) (i_or so (i_shl 1 (d : Int)))) (fogY D (ro 61)) i (ro 60) = f d := fun d => by rw [← hf]
    generalize ht0 : txH D ht (lay D ht ro) ro (fogY D (ro 61)) i (ro 60) = t0
    have ob : ∀ d : Nat, d < 8 → 0 ≤ i_or so (i_shl 1 (d : Int)) ∧ i_or so (i_shl 1 (d : Int)) < 256 := fun d hd => by rw [hsn]; exact or_256 sn (by clear e54; omega) d hd
    have hm : ∀ h', Same SX h h' → wp (fX6_sale (i : Int) h') (fun q => q.1 = (bestF (fun d => bt so d) f (-1) t0 8).1 ∧ q.2 35 0 = 0 ∧ Same SXm h' q.2) := by
      intro h' s
      obtain ⟨C0, z0, s1, s2⟩ := C.z s
      unfold fX6_sale
      refine mh_pass z0 C0.nh hx (w_f n10 ?_)
      generalize st h' 35 0 0 = h0 at *
      rw [wp_bd]
      refine C0.layd.mono ?_
      rintro ⟨q, h8⟩ ⟨-, q2, q3⟩
      dsimp only at q2 q3 ⊢
      have w54 : h8 54 (54 + i) = so := by rw [(q3.2.2.2.1.2.2.1 i hi).2.2.2]; exact hso
      rw [e54, gd_y g54, Int.toNat_natCast, w54, wp_lb, wp_bd]
      refine (m_taxOf W q3 R.sold hi R.2.2.1).mono ?_
      rintro ⟨v, h13⟩ ⟨v1, v2⟩
      dsimp only at v1 v2 ⊢
      rw [ht0] at v1
      subst v1
      rw [wp_bp]
      have q3' : MS D ht (lay D ht ro) (up ro (54 + i) so) (fogY D (ro 61)) h13 := by rw [u0]; exact q3.same v2
      refine (wp_for (Q := fun r : Int × Hp => r.1 = (bestF (fun d => bt so d) f (-1) v 8).1 ∧ Same (SXw (54 + i)) h13 r.2) (fun k (s : Int × Int × Int × Hp) => (s.1, s.2.1) = bestF (fun d => bt so d) f (-1) v k ∧ s.2.2.1 = (k : Int) ∧ Same (SXw (54 + i)) h13 s.2.2.2 ∧ ∃ w, MS D ht (lay D ht ro) (up ro (54 + i) w) (fogY D (ro 61)) s.2.2.2) 8 ?_ ?_ (FU_big (by decide)) ?_).mono ?_
      · rintro k ⟨b, l, kk, hh⟩ hk ⟨f1, f2, f3, w, f4⟩
        dsimp only at f1 f2 f3 f4 ⊢
        subst f2
        have k1 : i_add (k : Int) 1 = ((k + 1 : Nat) : Int) := i1 (by clear e54 w54; omega)
        have em : bestF (fun d => bt so d) f (-1) v (k + 1) = if bt so k = true then (b, l) else if f k < l then ((k : Int), f k) else (b, l) := by
          show (if bt so k = true then _ else if f k < (bestF (fun d => bt so d) f (-1) v k).2 then _ else _) = _
          rw [← f1]
        unfold fX6_sale_l41
        rw [bt_is hs32 (by clear e54 w54 k1; omega), e54, k1]
        clear e54 w54 k1
        refine w_f (by omega) ?_
        by_cases hb : bt so k = true
        · rw [if_pos hb]
          exact w_t rfl (wp_some.mpr ⟨by rw [em, if_pos hb], rfl, f3, w, f4⟩)
        · rw [if_neg hb]
          refine w_f (by decide) ?_
          rw [gd_y g54, Int.toNat_natCast, wp_lb, wp_bd]
          have M1 : MS D ht (lay D ht ro) (up ro (54 + i) (i_or so (i_shl 1 (k : Int)))) (fogY D (ro 61)) (st hh 54 (54 + i) (i_or so (i_shl 1 (k : Int)))) := f4.reup n54.1 n54.2.1
          refine (m_taxOf W M1 ((R.upd W (Nat.le_refl _) n54.1 (ok54 (ob k hk) (by omega))).sold) hi (by rw [u60]; exact R.2.2.1)).mono ?_
          rintro ⟨u, h20⟩ ⟨u1, u2⟩
          dsimp only at u1 u2 ⊢
          rw [u60, hf'] at u1
          subst u1
          have s9 : Same (SXw (54 + i)) h13 h20 := (f3.st (Or.inr ⟨rfl, rfl⟩)).tr (SM_w u2)
          by_cases q : f k < l
          · exact w_t q (wp_some.mpr ⟨by rw [em, if_neg hb, if_pos q], rfl, s9, _, M1.same u2⟩)
          · exact w_f q (wp_some.mpr ⟨by rw [em, if_neg hb, if_neg q], rfl, s9, _, M1.same u2⟩)
      · rintro ⟨b, l, kk, hh⟩ ⟨f1, f2, f3, w, f4⟩
        dsimp only at f1 f2 f3 f4 ⊢
        subst f2
        unfold fX6_sale_l41
        exact w_t (by decide) (wp_some.mpr ⟨by rw [← f1], f3⟩)
      · exact ⟨rfl, rfl, Same.rf, so, q3'⟩
      · rintro ⟨b, h27⟩ ⟨b1, b2⟩
        dsimp only at b1 b2 ⊢
        rw [gd_y g54, wp_lb, wp_some]
        refine ⟨b1, ?_, ?_⟩
        · show st h27 54 (54 + i) so 35 0 = 0
          rw [st_na (by decide), b2 _ _ (by unfold SXw SN; clear e54 w54 z0; omega)]
          exact z_kept (z_kept z0 (S57_SN q2)) (SM_SN v2)
        · have e5 : so = h' 54 (54 + i) := by rw [← w54, q2 _ _ (by unfold S57; clear e54 w54 z0; omega), s1 _ _ (by unfold SXm; clear e54 w54 z0; omega)]
          show Same SXm h' (st h27 54 (54 + i) so)
          rw [e5]
          exact same54 ((s1.tr (S57_m q2)).tr (SM_m v2)) b2
    unfold fX5_sale_j5
    rw [wp_mi, wp_bd]
    refine C.present.mono ?_
    rintro ⟨r, h6⟩ ⟨r1, r2, r3⟩
    dsimp only at r1 r2 r3 ⊢
    rw [gd20 r1, wp_bd]
    refine (c_taxOf W r3 hi R.2.2.1).mono ?_
    rintro ⟨v, h10⟩ ⟨v1, v2⟩
    dsimp only at v1 v2 ⊢
    rw [ht0] at v1
    subst v1
    have v54 : h10 27 (54 + i) = so := by
      rw [v2 _ _ (by unfold SL; clear e54; omega), r2 _ _ (by unfold SC; clear e54; omega), (LBh.2.2.2.2.2.2.1 i hi).2.2.2]
      exact hso
    rw [e54, gd_y g54, Int.toNat_natCast, v54, wp_lb, wp_bp]
    have r3' : CS D ht (lay D ht ro) (up ro (54 + i) so) (fogY D (ro 61)) L h10 := by rw [u0]; exact r3.same v2
    refine (wp_for (Q := fun r : Int × Hp => r.1 = (bestF (fun d => bt so d) f (-1) v 8).1 ∧ Same SC h10 r.2) (fun k (s : Int × Int × Int × Hp) => (s.2.1, s.1) = bestF (fun d => bt so d) f (-1) v k ∧ s.2.2.1 = (k : Int) ∧ Same SC h10 s.2.2.2 ∧ ∃ w, CS D ht (lay D ht ro) (up ro (54 + i) w) (fogY D (ro 61)) L s.2.2.2) 8 ?_ ?_ (FU_big (by decide)) ?_).mono ?_
    · rintro k ⟨l, b, kk, hh⟩ hk ⟨f1, f2, f3, w, f4⟩
      dsimp only at f1 f2 f3 f4 ⊢
      subst f2
      have k1 : i_add (k : Int) 1 = ((k + 1 : Nat) : Int) := i1 (by clear e54 v54; omega)
      have em : bestF (fun d => bt so d) f (-1) v (k + 1) = if bt so k = true then (b, l) else if f k < l then ((k : Int), f k) else (b, l) := by
        show (if bt so k = true then _ else if f k < (bestF (fun d => bt so d) f (-1) v k).2 then _ else _) = _
        rw [← f1]
      unfold fX5_sale_l33
      rw [hasBit_eq (by clear e54 v54 k1; omega), e54, k1]
      clear e54 v54 k1
      refine w_f (by omega) ?_
      rw [wp_bp, wp_some]
      by_cases hb : bt so k = true
      · rw [if_pos hb]
        exact w_f n10 (wp_some.mpr ⟨by rw [em, if_pos hb], rfl, f3, w, f4⟩)
      · rw [if_neg hb]
        refine w_t rfl ?_
        rw [gd_y g54, Int.toNat_natCast, wp_lb, wp_bd]
        have M1 : CS D ht (lay D ht ro) (up ro (54 + i) (i_or so (i_shl 1 (k : Int)))) (fogY D (ro 61)) L (st hh 21 (54 + i) (i_or so (i_shl 1 (k : Int)))) := f4.reup n54.1
        refine (c_taxOf W M1 hi (by rw [u60]; exact R.2.2.1)).mono ?_
        rintro ⟨u, h20⟩ ⟨u1, u2⟩
        dsimp only at u1 u2 ⊢
        rw [u60, hf'] at u1
        subst u1
        have s9 : Same SC h10 h20 := (f3.st ⟨by decide, by decide⟩).tr (u2.mono (fun a k p => by unfold SL at p; unfold SC; omega))
        by_cases q : f k < l
        · exact w_f (Int.not_le.mpr q) (wp_some.mpr ⟨by rw [em, if_neg hb, if_pos q], rfl, s9, _, M1.same u2⟩)
        · exact w_t (Int.not_lt.mp q) (wp_some.mpr ⟨by rw [em, if_neg hb, if_neg q], rfl, s9, _, M1.same u2⟩)
    · rintro ⟨l, b, kk, hh⟩ ⟨f1, f2, f3, w, f4⟩
      dsimp only at f1 f2 f3 f4 ⊢
      subst f2
      unfold fX5_sale_l33
      exact w_t (by decide) (wp_some.mpr ⟨by rw [← f1], f3⟩)
    · exact ⟨rfl, rfl, Same.rf, so, r3'⟩
    · rintro ⟨b, h28⟩ ⟨b1, b2⟩
      dsimp only at b1 b2 ⊢
      rw [wp_some, b1]
      exact q_ok I0 (((SC_X r2).tr (SL_X v2)).tr (SC_X b2)) hm
  · refine nh_fail LBh.1 LBh.2.1 LBh.2.2.1 hx ?_
    exact no_house I0 C hx (fun h' => rfl) rfl
theorem lay_barn {D : LD} {ht ro : Nat → Int} {j c : Nat} {v : Int} (W : DW D) (hj : j < D.nh) : lay D ht (up ro (48 + j) v) c = if c = D.hc j then i_add (ht c) (i_add 2 v) else lay D ht ro c := by
  have h6 := W.2.2.1
  have tt : ∀ c : Int, tIn (up ro (48 + j) v) c = tIn ro c := fun c => fi_congr (fun u hu => by rw [up_n (by omega)])
  by_cases q : c = D.hc j
  · subst q
    rw [if_pos rfl, lay_house W hj, up_s]
  · rw [if_neg q]
    unfold lay
    rw [tt]
    by_cases q1 : hIn D (c : Int) = -1
    · rw [if_pos q1, if_pos q1]
      by_cases q2 : tIn ro (c : Int) = -1
      · rw [if_pos q2, if_pos q2]
      · obtain ⟨u, u1, u2, u3⟩ := tIn_yes q2
        rw [if_neg q2, if_neg q2, u2, Int.toNat_natCast, up_n (by omega)]
    · obtain ⟨u, u1, u2, u3, -⟩ := fi_yes q1
      have u3' : (D.hc u : Int) = (c : Int) := by simpa using u3
      rw [if_neg q1, if_neg q1, show hIn D (c : Int) = (u : Int) from u2, Int.toNat_natCast, up_n (fun z => by
        have : u = j := by omega
        subst this
        omega)]
theorem no_house2 {κ : Int} {D : LD} {ht ro : Nat → Int} {L nr : Nat} {rh : Nat → Nat} {rm : Nat → Int} {h : Hp} {x y : Int} {fm : Hp → Option (Int × Hp)} {g : Int → Hp → Option (Int × Hp)} {cd : Nat → Int} (I : Inv κ h) (C : Core D ht ro L nr rh rm h) (hx : 0 ≤ x ∧ x < (D.nh : Int)) (hy : ¬ (0 ≤ y ∧ y < (D.nh : Int))) (e : ∀ h', fm h' = bd_ (fX6_isHouse x (st h' 35 0 0)) (fun r h => if r = 0 then some (0, h) else bd_ (fX6_isHouse y h) (fun r h => if r = 0 then some (0, h) else g r h))) (hcd : cd 0 = 1) : PT κ fm cd (.inr (0, h)) := by
  refine q_no I Same.rf (fun h' s => ?_)
  obtain ⟨C0, z0, s1, s2⟩ := C.z s
  rw [e]
  refine mh_pass z0 C0.nh hx (w_f n10 (mh_fail z0 C0.nh hy (w_t rfl (wp_some.mpr ?_))))
  rw [hcd]
  exact no1 s1
