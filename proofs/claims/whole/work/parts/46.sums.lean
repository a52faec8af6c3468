/-! pure part: the class's sums over houses -/
theorem txH_eq {D : LD} {ht sd ro : Nat → Int} {fog i : Nat} {law : Int} : txH D ht sd ro fog i law = (if law < 0 then (vw D ht sd ro fog i).1 else clmp ((evC (vals D (vw D ht sd ro fog i) (ht (D.hc i)) (D.kd i) (ro 61) (ro (42 + i))) (D.cd law.toNat) []).headD 0)) := rfl
/-- a look and a tax behind it -/
theorem c_lt {D : LD} {ht sd ro : Nat → Int} {fog L i : Nat} {h h1 : Hp} {law : Int} (W : DW D) (H : CS D ht sd ro fog L h) (hi : i < D.nh) (hl : -1 ≤ law ∧ law < (D.nl : Int)) (b : LKH D ht sd ro fog i h h1) :
    wp (fX3_taxBy law h1) (fun r => r.1 = txH D ht sd ro fog i law ∧ Same SL h r.2) := by
  have b' := b
  obtain ⟨b5, b6, b7, b9, b10, b11, b12, b24, bs⟩ := b
  refine (c_taxBy W (H.same bs) (W.2.2.2.2.2.1 i hi) b5 hl).mono ?_
  rintro r ⟨r1, r2⟩
  refine ⟨?_, bs.tr (r2.mono (fun a k p => Or.inr (Or.inr p)))⟩
  rw [r1, txH_eq, b9, b10, b11, b6, b7]
  rfl
theorem c_taxOf {D : LD} {ht sd ro : Nat → Int} {fog L i : Nat} {h : Hp} (W : DW D) (H : CS D ht sd ro fog L h) (hi : i < D.nh) (hl : -1 ≤ ro 60 ∧ ro 60 < (D.nl : Int)) :
    wp (fX3_taxOf (i : Int) h) (fun r => r.1 = txH D ht sd ro fog i (ro 60) ∧ Same SL h r.2) := by
  unfold fX3_taxOf
  simp only [wp_bd]
  refine (c_lookFrom W H hi).mono ?_
  rintro ⟨r0, h1⟩ ⟨-, b⟩
  dsimp only at b ⊢
  simp only [wp_gd, wp_bd]
  refine ⟨by decide, ?_⟩
  have e : h1 21 (Int.toNat 60) = ro 60 := by
    rw [b.sm _ _ (by unfold SL; omega)]
    exact H.row.2.2.2.1
  rw [e]
  refine (c_lt W H hi hl b).mono ?_
  rintro r hr
  simp only [wp_some]
  exact hr
theorem c_taxOfVilla {D : LD} {ht sd ro : Nat → Int} {fog L c : Nat} {h : Hp} (W : DW D) (H : CS D ht sd ro fog L h) (hc : c < D.cl) (hl : -1 ≤ ro 60 ∧ ro 60 < (D.nl : Int)) :
    wp (fX3_taxOfVilla (c : Int) h) (fun r => r.1 = txV D ht sd (ro 61) fog c 0 0 0 (ro 60) ∧ Same SL h r.2) := by
  unfold fX3_taxOfVilla
  simp only [wp_bd]
  refine (c_look W H hc).mono ?_
  rintro ⟨r0, h1⟩ ⟨-, b⟩
  dsimp only at b ⊢
  have bs := b.sm
  simp only [wp_gd, wp_bd]
  refine ⟨by decide, ?_⟩
  have e : h1 21 (Int.toNat 60) = ro 60 := by
    rw [bs _ _ (by unfold SL; omega)]
    exact H.row.2.2.2.1
  rw [e]
  refine (c_taxBy W (H.same bs) hc b.1 hl).mono ?_
  rintro r ⟨r1, r2⟩
  simp only [wp_some]
  refine ⟨?_, bs.tr (r2.mono (fun a k p => Or.inr (Or.inr p)))⟩
  obtain ⟨b5, b6, b7, b9, b10, b11, b12, b24, -⟩ := b
  rw [r1, b9, b10, b11, b6, b7]
  rfl
/-- a sum over the first n -/
def sm (f : Nat → Int) : Nat → Int
  | 0 => 0
  | n + 1 => i_add (sm f n) (f n)
def mx (f : Nat → Int) : Nat → Int
  | 0 => 0
  | n + 1 => if mx f n < f n then f n else mx f n
theorem CS.nh {D : LD} {ht sd ro : Nat → Int} {fog L : Nat} {h : Hp} (H : CS D ht sd ro fog L h) : h L 3 = (D.nh : Int) := H.2.2.1.2.2.1
theorem c_sumBy {D : LD} {ht sd ro : Nat → Int} {fog L : Nat} {h : Hp} {law : Int} (W : DW D) (H : CS D ht sd ro fog L h) (hl : -1 ≤ law ∧ law < (D.nl : Int)) :
    wp (fX3_sumBy law h) (fun r => r.1 = sm (fun i => txH D ht sd ro fog i law) D.nh ∧ Same SL h r.2) := by
  have hn := W.2.2.1
  unfold fX3_sumBy
  simp only [wp_bp]
  refine (wp_for (Q := fun r : Int × Hp => r.1 = sm (fun i => txH D ht sd ro fog i law) D.nh ∧ Same SL h r.2) (fun k s => s.1 = sm (fun i => txH D ht sd ro fog i law) k ∧ s.2.1 = (k : Int) ∧ Same SL h s.2.2) D.nh ?_ ?_ (FU_big (by omega)) ⟨rfl, rfl, Same.rf⟩).mono ?_
  · rintro k ⟨v, x, hh⟩ hk ⟨e1, e2, e3⟩
    dsimp only at e1 e2 e3 ⊢
    subst e1 e2
    have H' := H.same e3
    unfold fX3_sumBy_l4
    simp only [wp_gd, wp_ite, wp_bd, H'.2.1, Int.toNat_natCast, H'.nh]
    refine ⟨by have := H.1; omega, fun q => absurd q (by omega), fun _ => ?_⟩
    refine (c_lookFrom W H' hk).mono ?_
    rintro ⟨r0, h1⟩ ⟨-, b⟩
    refine (c_lt W H' hk hl b).mono ?_
    rintro ⟨r, h2⟩ ⟨g1, g2⟩
    dsimp only at g1 g2 ⊢
    subst g1
    simp only [wp_lb, wp_some, E2_l]
    exact ⟨rfl, i1 (by omega), e3.tr g2⟩
  · rintro ⟨v, x, hh⟩ ⟨e1, e2, e3⟩
    dsimp only at e1 e2 e3 ⊢
    subst e1 e2
    have H' := H.same e3
    unfold fX3_sumBy_l4
    simp only [wp_gd, wp_ite, wp_some, E2_r, H'.2.1, Int.toNat_natCast, H'.nh]
    exact ⟨by have := H.1; omega, fun _ => ⟨trivial, e3⟩, fun q => absurd (Int.le_refl _) q⟩
  · intro r hr
    simp only [wp_some]
    exact hr
theorem c_taxOfAll {D : LD} {ht sd ro : Nat → Int} {fog L : Nat} {h : Hp} (W : DW D) (H : CS D ht sd ro fog L h) (hl : -1 ≤ ro 60 ∧ ro 60 < (D.nl : Int)) :
    wp (fX3_taxOfAll h) (fun r => r.1 = sm (fun i => txH D ht sd ro fog i (ro 60)) D.nh ∧ Same SL h r.2) := by
  unfold fX3_taxOfAll
  simp only [wp_gd, wp_bd]
  refine ⟨by decide, ?_⟩
  rw [show h 21 (Int.toNat 60) = ro 60 from H.row.2.2.2.1]
  refine (c_sumBy W H hl).mono ?_
  intro r hr
  simp only [wp_some]
  exact hr
theorem c_mostBy {D : LD} {ht sd ro : Nat → Int} {fog L : Nat} {h : Hp} {law : Int} (W : DW D) (H : CS D ht sd ro fog L h) (hl : -1 ≤ law ∧ law < (D.nl : Int)) :
    wp (fX3_mostBy law h) (fun r => r.1 = mx (fun i => txH D ht sd ro fog i law) D.nh ∧ Same SL h r.2) := by
  have hn := W.2.2.1
  unfold fX3_mostBy
  simp only [wp_bp]
  refine (wp_for (Q := fun r : Int × Hp => r.1 = mx (fun i => txH D ht sd ro fog i law) D.nh ∧ Same SL h r.2) (fun k s => s.1 = mx (fun i => txH D ht sd ro fog i law) k ∧ s.2.1 = (k : Int) ∧ Same SL h s.2.2) D.nh ?_ ?_ (FU_big (by omega)) ⟨rfl, rfl, Same.rf⟩).mono ?_
  · rintro k ⟨v, x, hh⟩ hk ⟨e1, e2, e3⟩
    dsimp only at e1 e2 e3 ⊢
    subst e1 e2
    have H' := H.same e3
    unfold fX3_mostBy_l4
    simp only [wp_gd, wp_ite, wp_bd, H'.2.1, Int.toNat_natCast, H'.nh]
    refine ⟨by have := H.1; omega, fun q => absurd q (by omega), fun _ => ?_⟩
    refine (c_lookFrom W H' hk).mono ?_
    rintro ⟨r0, h1⟩ ⟨-, b⟩
    refine (c_lt W H' hk hl b).mono ?_
    rintro ⟨r, h2⟩ ⟨g1, g2⟩
    dsimp only at g1 g2 ⊢
    subst g1
    unfold fJ9_max_7cf53
    simp only [wp_bp, wp_ite, wp_some, E2_l]
    exact ⟨fun q => ⟨by show _ = (if _ then _ else _); rw [if_pos q], i1 (by omega), e3.tr g2⟩, fun q => ⟨by show _ = (if _ then _ else _); rw [if_neg q], i1 (by omega), e3.tr g2⟩⟩
  · rintro ⟨v, x, hh⟩ ⟨e1, e2, e3⟩
    dsimp only at e1 e2 e3 ⊢
    subst e1 e2
    have H' := H.same e3
    unfold fX3_mostBy_l4
    simp only [wp_gd, wp_ite, wp_some, E2_r, H'.2.1, Int.toNat_natCast, H'.nh]
    exact ⟨by have := H.1; omega, fun _ => ⟨trivial, e3⟩, fun q => absurd (Int.le_refl _) q⟩
  · intro r hr
    simp only [wp_some]
    exact hr
