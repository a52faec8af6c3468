/-! pure part: sets of houses in the class's scene -/
def aw (f : Nat → Int) (set much : Int) : Nat → Bool
  | 0 => true
  | n + 1 => aw f set much n && (!bt set n || decide (f n ≤ much))
theorem aw_no {f : Nat → Int} {set much : Int} {k : Nat} : ∀ {n : Nat}, k < n → bt set k = true → ¬ f k ≤ much → aw f set much n = false
  | n + 1, hk, h1, h2 => by
    unfold aw
    by_cases e : k = n
    · subst e
      simp [h1, h2]
    · rw [aw_no (n := n) (by omega) h1 h2]
      rfl
theorem aw_s {f : Nat → Int} {set much : Int} {n : Nat} (h : aw f set much n = true) (q : ¬ bt set n = true ∨ f n ≤ much) : aw f set much (n + 1) = true := by
  unfold aw
  rw [h]
  rcases q with q | q
  · simp [q]
  · simp [q]
theorem aw_congr {f g : Nat → Int} {set much : Int} : ∀ {n : Nat}, (∀ i, i < n → f i = g i) → aw f set much n = aw g set much n
  | 0, _ => rfl
  | n + 1, h => by
    unfold aw
    rw [aw_congr (n := n) (fun i hi => h i (by omega)), h n (by omega)]
theorem c_allWithin {D : LD} {ht sd ro : Nat → Int} {fog L : Nat} {h : Hp} {set much : Int} (W : DW D) (H : CS D ht sd ro fog L h) (hl : -1 ≤ ro 60 ∧ ro 60 < (D.nl : Int)) :
    wp (fX3_allWithin set much h) (fun r => r.1 = (if aw (fun i => txH D ht sd ro fog i (ro 60)) set much D.nh = true then 1 else 0) ∧ Same SL h r.2) := by
  have hn := W.2.2.1
  have loop : wp (it_ (fun s : Int × Hp => fX3_allWithin_l2 set much s.1 s.2) FU (0, h)) (fun e => E2 (fun hq => aw (fun i => txH D ht sd ro fog i (ro 60)) set much D.nh = true ∧ Same SL h hq) (fun r : Int × Hp => r.1 = 0 ∧ aw (fun i => txH D ht sd ro fog i (ro 60)) set much D.nh = false ∧ Same SL h r.2) e) := by
    refine wp_for (fun k s => s.1 = (k : Int) ∧ aw (fun i => txH D ht sd ro fog i (ro 60)) set much k = true ∧ Same SL h s.2) D.nh ?_ ?_ (FU_big (by omega)) ⟨rfl, rfl, Same.rf⟩
    · rintro k ⟨x, hh⟩ hk ⟨e1, e2, e3⟩
      dsimp only at e1 e2 e3 ⊢
      subst e1
      have H' := H.same e3
      unfold fX3_allWithin_l2
      rw [H'.2.1, Int.toNat_natCast, H'.nh, hasBit_eq (by omega)]
      simp only [wp_gd, wp_ite, wp_bp, wp_some, wp_bd, E2_l]
      refine ⟨by have := H.1; omega, fun q => absurd q (by omega), fun _ => ⟨fun q => ⟨i1 (by omega), aw_s e2 (Or.inl (fun b => by rw [b] at q; exact absurd q (by decide))), e3⟩, fun q => ?_⟩⟩
      have hb : bt set k = true := by
        cases hb : bt set k with
        | true => rfl
        | false => rw [hb] at q; exact absurd rfl q
      refine (c_taxOf W H' hk hl).mono ?_
      rintro ⟨v, h9⟩ ⟨v1, v2⟩
      dsimp only at v1 v2 ⊢
      subst v1
      simp only [wp_ite, wp_some, E2_l, E2_r]
      exact ⟨fun q => ⟨i1 (by omega), aw_s e2 (Or.inr q), e3.tr v2⟩, fun q => ⟨trivial, aw_no hk hb q, e3.tr v2⟩⟩
    · rintro ⟨x, hh⟩ ⟨e1, e2, e3⟩
      dsimp only at e1 e2 e3 ⊢
      subst e1
      have H' := H.same e3
      unfold fX3_allWithin_l2
      rw [H'.2.1, Int.toNat_natCast, H'.nh]
      simp only [wp_gd, wp_ite, wp_some, E2_l, E2_r]
      exact ⟨by have := H.1; omega, fun _ => ⟨e2, e3⟩, fun q => absurd (Int.le_refl _) q⟩
  unfold fX3_allWithin
  simp only [wp_bp]
  refine loop.mono ?_
  rintro (e | e) he
  · simp only [wp_some]
    exact ⟨by rw [if_pos he.1], he.2⟩
  · simp only [wp_some]
    exact ⟨by rw [he.1, he.2.1]; rfl, he.2.2⟩
theorem c_canPay {D : LD} {ht sd ro : Nat → Int} {fog L : Nat} {h : Hp} (W : DW D) (H : CS D ht sd ro fog L h) (hl : -1 ≤ ro 60 ∧ ro 60 < (D.nl : Int)) :
    wp (fX3_housesThatCanPay h) (fun r => r.1 = fb (fun i => decide (txH D ht sd ro fog i (ro 60) ≤ ro (36 + i))) D.nh ∧ Same SL h r.2) := by
  have hn := W.2.2.1
  unfold fX3_housesThatCanPay
  simp only [wp_bp]
  refine (wp_for (Q := fun r : Int × Hp => r.1 = fb (fun i => decide (txH D ht sd ro fog i (ro 60) ≤ ro (36 + i))) D.nh ∧ Same SL h r.2) (fun k s => s.1 = fb (fun i => decide (txH D ht sd ro fog i (ro 60) ≤ ro (36 + i))) k ∧ s.2.1 = (k : Int) ∧ Same SL h s.2.2) D.nh ?_ ?_ (FU_big (by omega)) ⟨rfl, rfl, Same.rf⟩).mono ?_
  · rintro k ⟨v, x, hh⟩ hk ⟨e1, e2, e3⟩
    dsimp only at e1 e2 e3 ⊢
    subst e1 e2
    have H' := H.same e3
    unfold fX3_housesThatCanPay_l4
    simp only [wp_gd, wp_ite, wp_bd, H'.2.1, Int.toNat_natCast, H'.nh]
    refine ⟨by have := H.1; omega, fun q => absurd q (by omega), fun _ => ?_⟩
    refine (c_taxOf W H' hk hl).mono ?_
    rintro ⟨r, h2⟩ ⟨g1, g2⟩
    dsimp only at g1 g2 ⊢
    subst g1
    have e36 : h2 21 (36 + k) = ro (36 + k) := by rw [g2 _ _ (by unfold SL; omega)]; exact (H'.row.2.2.1 k hk).1
    rw [show (36 : Int) = ((36 : Nat) : Int) from rfl, ik (by omega) (by decide), Int.toNat_natCast, e36]
    simp only [wp_lb, wp_some, E2_l]
    exact ⟨⟨by omega, by omega⟩, fun q => ⟨(fb_step_f (by simp; omega)).symm, i1 (by omega), e3.tr g2⟩, fun q => ⟨(fb_step_t (by simp; omega)).symm, i1 (by omega), e3.tr g2⟩⟩
  · rintro ⟨v, x, hh⟩ ⟨e1, e2, e3⟩
    dsimp only at e1 e2 e3 ⊢
    subst e1 e2
    have H' := H.same e3
    unfold fX3_housesThatCanPay_l4
    simp only [wp_gd, wp_ite, wp_some, E2_r, H'.2.1, Int.toNat_natCast, H'.nh]
    exact ⟨by have := H.1; omega, fun _ => ⟨trivial, e3⟩, fun q => absurd (Int.le_refl _) q⟩
  · intro r hr
    simp only [wp_some]
    exact hr
theorem c_thatSee {D : LD} {ht sd ro : Nat → Int} {fog L c : Nat} {h : Hp} (W : DW D) (H : CS D ht sd ro fog L h) (hc : c < 64) :
    wp (fX3_housesThatSee (c : Int) h) (fun r => r.1 = fb (fun i => bt (vw D ht sd ro fog i).2.2 c) D.nh ∧ Same SL h r.2) := by
  have hn := W.2.2.1
  unfold fX3_housesThatSee
  simp only [wp_bp]
  refine (wp_for (Q := fun r : Int × Hp => r.1 = fb (fun i => bt (vw D ht sd ro fog i).2.2 c) D.nh ∧ Same SL h r.2) (fun k s => s.1 = fb (fun i => bt (vw D ht sd ro fog i).2.2 c) k ∧ s.2.1 = (k : Int) ∧ Same SL h s.2.2) D.nh ?_ ?_ (FU_big (by omega)) ⟨rfl, rfl, Same.rf⟩).mono ?_
  · rintro k ⟨v, x, hh⟩ hk ⟨e1, e2, e3⟩
    dsimp only at e1 e2 e3 ⊢
    subst e1 e2
    have H' := H.same e3
    unfold fX3_housesThatSee_l4
    simp only [wp_gd, wp_ite, wp_bd, H'.2.1, Int.toNat_natCast, H'.nh]
    refine ⟨by have := H.1; omega, fun q => absurd q (by omega), fun _ => ?_⟩
    refine (c_lookFrom W H' hk).mono ?_
    rintro ⟨r0, h1⟩ ⟨-, b⟩
    dsimp only at b ⊢
    have bv : h1 20 11 = (vw D ht sd ro fog k).2.2 := b.2.2.2.2.2.1
    rw [bv, hasBit_eq hc]
    simp only [wp_bp, wp_some, wp_ite, wp_lb, E2_l]
    cases hb : bt (vw D ht sd ro fog k).2.2 c with
    | true => exact ⟨fun q => absurd q (by decide), fun _ => ⟨(fb_step_t (p := fun i => bt (vw D ht sd ro fog i).2.2 c) hb).symm, i1 (by omega), e3.tr b.sm⟩⟩
    | false => exact ⟨fun _ => ⟨(fb_step_f (p := fun i => bt (vw D ht sd ro fog i).2.2 c) (by rw [hb]; decide)).symm, i1 (by omega), e3.tr b.sm⟩, fun q => absurd rfl q⟩
  · rintro ⟨v, x, hh⟩ ⟨e1, e2, e3⟩
    dsimp only at e1 e2 e3 ⊢
    subst e1 e2
    have H' := H.same e3
    unfold fX3_housesThatSee_l4
    simp only [wp_gd, wp_ite, wp_some, E2_r, H'.2.1, Int.toNat_natCast, H'.nh]
    exact ⟨by have := H.1; omega, fun _ => ⟨trivial, e3⟩, fun q => absurd (Int.le_refl _) q⟩
  · intro r hr
    simp only [wp_some]
    exact hr
theorem c_seenFrom {D : LD} {ht sd ro : Nat → Int} {fog L i : Nat} {h : Hp} (W : DW D) (H : CS D ht sd ro fog L h) (hi : i < D.nh) :
    wp (fX3_housesSeenFrom (i : Int) h) (fun r => r.1 = seeH D (vw D ht sd ro fog i).2.2 ∧ Same SL h r.2) := by
  unfold fX3_housesSeenFrom
  simp only [wp_bd]
  refine (c_lookFrom W H hi).mono ?_
  rintro ⟨r0, h1⟩ ⟨-, b⟩
  dsimp only at b ⊢
  have bv : h1 20 11 = (vw D ht sd ro fog i).2.2 := b.2.2.2.2.2.1
  rw [c_housesInView W (H.same b.sm), bv]
  simp only [wp_bp, wp_some]
  exact ⟨trivial, b.sm⟩
/-- all that some houses look over -/
def ovH (D : LD) (ro : Nat → Int) (fog i : Nat) : Int := lkSO D.w D.d fog (D.hc i) (shB (D.kd i) (ro (54 + i))) 8
def ovS (D : LD) (ro : Nat → Int) (fog : Nat) (set : Int) : Nat → Int
  | 0 => 0
  | n + 1 => if bt set n = true then l_or (ovS D ro fog set n) (ovH D ro fog n) else ovS D ro fog set n
theorem c_looksOver {D : LD} {ht sd ro : Nat → Int} {fog L : Nat} {h : Hp} {set : Int} (W : DW D) (H : CS D ht sd ro fog L h) :
    wp (fX3_looksOver set h) (fun r => r.1 = ovS D ro fog set D.nh ∧ Same SL h r.2) := by
  have hn := W.2.2.1
  unfold fX3_looksOver
  simp only [wp_bp]
  refine (wp_for (Q := fun r : Int × Hp => r.1 = ovS D ro fog set D.nh ∧ Same SL h r.2) (fun k s => s.1 = ovS D ro fog set k ∧ s.2.1 = (k : Int) ∧ Same SL h s.2.2) D.nh ?_ ?_ (FU_big (by omega)) ⟨rfl, rfl, Same.rf⟩).mono ?_
  · rintro k ⟨v, x, hh⟩ hk ⟨e1, e2, e3⟩
    dsimp only at e1 e2 e3 ⊢
    subst e1 e2
    have H' := H.same e3
    unfold fX3_looksOver_l5
    rw [H'.2.1, Int.toNat_natCast, H'.nh, hasBit_eq (by omega)]
    simp only [wp_gd, wp_ite, wp_bd, wp_bp, wp_some, E2_l]
    refine ⟨by have := H.1; omega, fun q => absurd q (by omega), fun _ => ⟨fun q => ⟨?_, i1 (by omega), e3⟩, fun q => ?_⟩⟩
    · show _ = (if _ then _ else _)
      rw [if_neg (fun b => by rw [b] at q; exact absurd q (by decide))]
    · have hb : bt set k = true := by
        cases hb : bt set k with
        | true => rfl
        | false => rw [hb] at q; exact absurd rfl q
      refine (c_lookFrom W H' hk).mono ?_
      rintro ⟨r0, h1⟩ ⟨-, b⟩
      dsimp only at b ⊢
      have bv : h1 20 12 = ovH D ro fog k := b.2.2.2.2.2.2.1
      simp only [wp_lb, wp_some, E2_l, bv]
      refine ⟨?_, i1 (by omega), e3.tr b.sm⟩
      show _ = (if _ then _ else _)
      rw [if_pos hb]
  · rintro ⟨v, x, hh⟩ ⟨e1, e2, e3⟩
    dsimp only at e1 e2 e3 ⊢
    subst e1 e2
    have H' := H.same e3
    unfold fX3_looksOver_l5
    simp only [wp_gd, wp_ite, wp_some, E2_r, H'.2.1, Int.toNat_natCast, H'.nh]
    exact ⟨by have := H.1; omega, fun _ => ⟨trivial, e3⟩, fun q => absurd (Int.le_refl _) q⟩
  · intro r hr
    simp only [wp_some]
    exact hr
/-- those whose RETURNS are wrong -/
def lies (m : Nat → Int) (rh : Nat → Nat) (rm : Nat → Int) : Nat → Int
  | 0 => 0
  | n + 1 => if m (rh n) = rm n then lies m rh rm n else i_or (lies m rh rm n) (i_shl 1 (rh n : Int))
theorem lies_in (m : Nat → Int) (rh : Nat → Nat) (rm : Nat → Int) : ∀ n, in32 (lies m rh rm n)
  | 0 => by unfold lies; unfold in32; omega
  | n + 1 => by
    unfold lies
    split
    · exact lies_in m rh rm n
    · exact in_or _ _
theorem ior_idem {x : Int} {k : Nat} (hx : in32 x) (hk : k < 32) (hb : bt x k = true) : i_or x (i_shl 1 (k : Int)) = x := by
  have e : Int32.ofInt x ||| (Int32.ofInt 1 <<< (Int32.ofInt (k : Int) &&& 31)) = Int32.ofInt x := by
    apply Int32.toBitVec_inj.mp
    rw [Int32.toBitVec_or, sh_p32 k hk]
    apply BitVec.eq_of_getLsbD_eq
    intro i hi
    rw [BitVec.getLsbD_or, BitVec.getLsbD_twoPow]
    by_cases e : k = i
    · subst e
      have : (Int32.ofInt x).toBitVec.getLsbD k = true := by rw [← bt_i hk, i32_of hx]; exact hb
      rw [this, Bool.true_or]
    · simp [e]
  unfold i_or i_shl
  rw [i32_to, e, i32_of hx]
/-- the RETURNS as class and reference hold them -/
def RT (D : LD) (n : Nat) (rh : Nat → Nat) (rm : Nat → Int) (h : Hp) : Prop := n ≤ 6 ∧ h 26 6 = (n : Int) ∧ ∀ i, i < n → rh i < D.nh ∧ h 29 i = (rh i : Int) ∧ h 30 i = rm i
theorem c_lie {D : LD} {ht sd ro : Nat → Int} {fog L n : Nat} {rh : Nat → Nat} {rm : Nat → Int} {h : Hp} (W : DW D) (H : CS D ht sd ro fog L h) (Q : RT D n rh rm h) :
    wp (fX3_housesThatLie_26 h) (fun r => r.1 = lies (fun i => (vw D ht sd ro fog i).1) rh rm n ∧ Same SL h r.2) := by
  have hn := W.2.2.1
  obtain ⟨n6, q6, qr⟩ := Q
  unfold fX3_housesThatLie_26
  simp only [wp_bp]
  refine (wp_for (Q := fun r : Int × Hp => r.1 = lies (fun i => (vw D ht sd ro fog i).1) rh rm n ∧ Same SL h r.2) (fun k s => s.1 = lies (fun i => (vw D ht sd ro fog i).1) rh rm k ∧ s.2.1 = (k : Int) ∧ Same SL h s.2.2) n ?_ ?_ (FU_big (by omega)) ⟨rfl, rfl, Same.rf⟩).mono ?_
  · rintro k ⟨v, x, hh⟩ hk ⟨e1, e2, e3⟩
    dsimp only at e1 e2 e3 ⊢
    subst e1 e2
    have H' := H.same e3
    obtain ⟨k1, k2, k3⟩ := qr k hk
    have b6 : hh 26 6 = (n : Int) := by rw [e3 _ _ (by unfold SL; omega)]; exact q6
    have b29 : hh 29 k = (rh k : Int) := by rw [e3 _ _ (by unfold SL; omega)]; exact k2
    unfold fX3_housesThatLie_26_l4
    rw [b6, Int.toNat_natCast, b29]
    unfold lb_
    dsimp only
    rw [hasBit_eq (by omega)]
    simp only [wp_gd, wp_ite, wp_bd, wp_bp, wp_some, E2_l]
    refine ⟨fun q => absurd q (by omega), fun _ => ⟨⟨by omega, by omega⟩, fun q => ?_, fun q => ⟨?_, i1 (by omega), e3⟩⟩⟩
    · refine (c_milesOf W H' k1).mono ?_
      rintro ⟨r, h1⟩ ⟨r1, r2⟩
      dsimp only at r1 r2 ⊢
      subst r1
      have b30 : h1 30 k = rm k := by rw [r2 _ _ (by unfold SL; omega), e3 _ _ (by unfold SL; omega)]; exact k3
      rw [b30]
      refine ⟨⟨by omega, by omega⟩, fun q => ⟨?_, i1 (by omega), e3.tr r2⟩, fun q => ⟨?_, i1 (by omega), e3.tr r2⟩⟩
      · show _ = (if _ then _ else _)
        rw [if_pos q]
      · show _ = (if _ then _ else _)
        rw [if_neg q]
    · have hb : bt (lies (fun i => (vw D ht sd ro fog i).1) rh rm k) (rh k) = true := by
        cases hb : bt (lies (fun i => (vw D ht sd ro fog i).1) rh rm k) (rh k) with
        | true => rfl
        | false => rw [hb] at q; exact absurd rfl q
      show _ = (if _ then _ else _)
      rw [ior_idem (lies_in _ _ _ _) (by omega) hb]
      split <;> rfl
  · rintro ⟨v, x, hh⟩ ⟨e1, e2, e3⟩
    dsimp only at e1 e2 e3 ⊢
    subst e1 e2
    have b6 : hh 26 6 = (n : Int) := by rw [e3 _ _ (by unfold SL; omega)]; exact q6
    unfold fX3_housesThatLie_26_l4
    rw [b6]
    simp only [wp_ite, wp_some, E2_r]
    exact ⟨fun _ => ⟨trivial, e3⟩, fun q => absurd (Int.le_refl _) q⟩
  · intro r hr
    simp only [wp_some]
    exact hr
