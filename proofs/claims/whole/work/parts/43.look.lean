/-! pure part: the class looks -/
theorem i_div_nat {a b : Nat} (ha : a < 2000000000) (hb : b < 2000000000) : i_div (a : Int) (b : Int) = ((a / b : Nat) : Int) := by
  have h1 : a / b ≤ a := Nat.div_le_self a b
  unfold i_div
  rw [Int32.toInt_div, i32_of ⟨by omega, by omega⟩, i32_of ⟨by omega, by omega⟩, ← Int.ofNat_tdiv]
  generalize a / b = q at h1 ⊢
  exact Int.bmod_eq_of_le (by omega) (by omega)
theorem i_rem_nat {a b : Nat} (ha : a < 2000000000) (hb : b < 2000000000) : i_rem (a : Int) (b : Int) = ((a % b : Nat) : Int) := by
  have h1 : a % b ≤ a := Nat.mod_le a b
  have h2 : Int32.ofInt (a : Int) / Int32.ofInt (b : Int) = Int32.ofInt ((a / b : Nat) : Int) := by
    rw [← i_div_nat ha hb]
    unfold i_div
    rw [i32_to]
  unfold i_rem
  rw [h2, ← Int32.ofInt_mul, ← Int32.ofInt_sub]
  have h3 : (a : Int) - ((a / b : Nat) : Int) * (b : Int) = ((a % b : Nat) : Int) := by
    have h4 := Nat.div_add_mod a b
    have h5 : (b : Int) * ((a / b : Nat) : Int) + ((a % b : Nat) : Int) = (a : Int) := by exact_mod_cast h4
    rw [Int.mul_comm] at h5
    omega
  rw [h3, i32_of ⟨by omega, by omega⟩]
theorem wy {w d : Nat} {x y : Int} (hx0 : 0 ≤ x) (hx : x < w) (hy0 : 0 ≤ y) (hy : y < d) : 0 ≤ (w : Int) * y + x ∧ (w : Int) * y + x < ((w * d : Nat) : Int) := by
  have h1 : (w : Int) * (y + 1) ≤ (w : Int) * d := Int.mul_le_mul_of_nonneg_left (by omega) (by omega)
  have h2 : 0 ≤ (w : Int) * y := Int.mul_nonneg (by omega) hy0
  rw [Int.mul_add] at h1
  have h3 : ((w * d : Nat) : Int) = (w : Int) * d := Int.natCast_mul w d
  omega
theorem cl64 {w d : Nat} (hw : w ≤ 8) (hd : d ≤ 8) : w * d ≤ 64 := Nat.mul_le_mul hw hd
theorem dX_r {n : Nat} (hn : n < 8) : -1 ≤ dX n ∧ dX n ≤ 1 := by
  have key : ∀ n : Nat, n < 8 → -1 ≤ dX n ∧ dX n ≤ 1 := by decide
  exact key n hn
theorem dY_r {n : Nat} (hn : n < 8) : -1 ≤ dY n ∧ dY n ≤ 1 := by
  have key : ∀ n : Nat, n < 8 → -1 ≤ dY n ∧ dY n ≤ 1 := by decide
  exact key n hn
theorem sx_n {n : Nat} : sx_ (n : Int) = dX n := rfl
theorem sy_n {n : Nat} : sy_ (n : Int) = dY n := rfl
def S2 : Nat → Nat → Prop := fun a k => a = 20 ∧ (k = 11 ∨ k = 12)
theorem c_lookAlong {w d : Nat} {sd : Nat → Int} {fog L n c : Nat} {h : Hp} (hw : 1 ≤ w ∧ w ≤ 8) (hd : 1 ≤ d ∧ d ≤ 8) (hL : L = 1 ∨ L = 9) (h0 : h 20 0 = (L : Int)) (h1 : h L 0 = (w : Int)) (h2 : h L 1 = (d : Int)) (hf : h 20 4 = (fog : Int)) (hf9 : fog ≤ 9) (hc : h 20 5 = (c : Int)) (hcl : c < w * d) (hsd : ∀ c, c < w * d → h 23 c = sd c) (hn : n < 8) :
    wp (fX3_lookAlong (n : Int) h) (fun r => r.1 = (lkD w d sd fog c (i_add (i_add (h 22 c) 2) (h 20 7)) n (h 20 11)).1 ∧ r.2 20 11 = (lkD w d sd fog c (i_add (i_add (h 22 c) 2) (h 20 7)) n (h 20 11)).2 ∧ r.2 20 12 = lkO w d (dX n) (dY n) fog ((c % w : Nat) : Int) ((c / w : Nat) : Int) (h 20 12) ∧ Same S2 h r.2) := by
  have hc64 : w * d ≤ 64 := cl64 hw.2 hd.2
  have hm : c % w < w := Nat.mod_lt c (by omega)
  have hdv : c / w < d := Nat.div_lt_of_lt_mul hcl
  have hm' : (0 : Int) ≤ ((c % w : Nat) : Int) ∧ ((c % w : Nat) : Int) < (w : Int) := ⟨Int.natCast_nonneg _, Int.ofNat_lt.mpr hm⟩
  have hdv' : (0 : Int) ≤ ((c / w : Nat) : Int) ∧ ((c / w : Nat) : Int) < (d : Int) := ⟨Int.natCast_nonneg _, Int.ofNat_lt.mpr hdv⟩
  have hdx := dX_r hn
  have hdy := dY_r hn
  unfold fX3_lookAlong
  simp only [wp_gd, wp_lb, wp_ite, h0, Int.toNat_natCast, h1, hc]
  refine ⟨by omega, fun q => absurd q (by omega), fun _ => ⟨by omega, ?_⟩⟩
  unfold fX3_lookAlong_j22
  simp only [wp_gd, wp_ite, hc]
  refine ⟨fun q => absurd q (by omega), fun _ => ⟨by omega, ?_⟩⟩
  rw [i_rem_nat (by omega) (by omega), i_div_nat (by omega) (by omega)]
  unfold fX3_lookAlong_j37
  simp only [wp_gd, wp_lb, wp_bp, hc, Int.toNat_natCast]
  refine ⟨⟨by omega, by omega⟩, ?_⟩
  generalize i_add (i_add (h 22 c) 2) (h 20 7) = eye
  generalize hO : lkO w d (dX n) (dY n) fog ((c % w : Nat) : Int) ((c / w : Nat) : Int) (h 20 12) = O
  refine (wp_for (Q := fun e => E2 (fun r : Int × Hp => r.1 = (lkD w d sd fog c eye n (h 20 11)).1 ∧ r.2 20 11 = (lkD w d sd fog c eye n (h 20 11)).2 ∧ r.2 20 12 = O ∧ Same S2 h r.2) (fun r : Int × Hp => r.1 = (lkD w d sd fog c eye n (h 20 11)).1 ∧ r.2 20 11 = (lkD w d sd fog c eye n (h 20 11)).2 ∧ r.2 20 12 = O ∧ Same S2 h r.2) e)
    (fun k s => 0 ≤ s.1 ∧ s.1 < (w : Int) ∧ 0 ≤ s.2.1 ∧ s.2.1 < (d : Int) ∧ s.2.2.2.2.1 = ((k + 1 : Nat) : Int) ∧ lkA w d sd eye (dX n) (dY n) (fog - k) s.1 s.2.1 s.2.2.1 s.2.2.2.1 (k + 1) (s.2.2.2.2.2 20 11) = lkD w d sd fog c eye n (h 20 11) ∧ lkO w d (dX n) (dY n) (fog - k) s.1 s.2.1 (s.2.2.2.2.2 20 12) = O ∧ Same S2 h s.2.2.2.2.2) fog ?_ ?_ (FU_big (by omega)) ?_).mono ?_
  · rintro k ⟨x, y, far, rise, kk, hh⟩ hk ⟨b1, b2, b3, b4, b5, b6, b7, b8⟩
    dsimp only at b1 b2 b3 b4 b5 b6 b7 b8 ⊢
    subst b5
    have r0 : hh 20 0 = (L : Int) := by rw [b8 _ _ (by unfold S2; omega)]; exact h0
    have r2 : hh L 1 = (d : Int) := by rw [b8 _ _ (by unfold S2; omega)]; exact h2
    have r4 : hh 20 4 = (fog : Int) := by rw [b8 _ _ (by unfold S2; omega)]; exact hf
    obtain ⟨m, hm1⟩ : ∃ m, fog - k = m + 1 := ⟨fog - k - 1, by omega⟩
    have hm2 : fog - (k + 1) = m := by omega
    rw [hm1] at b6 b7
    unfold lkA at b6
    unfold lkO at b7
    unfold fX3_lookAlong_l66
    have ex : i_add x (sx_ (n : Int)) = x + dX n := by rw [sx_n, ia (by omega) (by omega)]
    have ey : i_add y (sy_ (n : Int)) = y + dY n := by rw [sy_n, ia (by omega) (by omega)]
    simp only [wp_ite, wp_gd, wp_lb, wp_some, E2_l, E2_r, r0, r2, r4, ex, ey, Int.toNat_natCast]
    refine ⟨fun q => absurd q (by omega), fun _ => ⟨⟨by omega, by omega⟩, ⟨by omega, by omega⟩, fun q1 => ?_, fun q1 => ⟨fun q2 => ?_, fun q2 => ⟨fun q3 => ?_, fun q3 => ⟨by omega, fun q4 => ?_, fun q4 => ?_⟩⟩⟩⟩⟩
    · rw [if_pos (Or.inl q1)] at b6 b7
      exact ⟨by rw [← b6], by rw [← b6], b7, b8⟩
    · rw [if_pos (Or.inr (Or.inl q2))] at b6 b7
      exact ⟨by rw [← b6], by rw [← b6], b7, b8⟩
    · rw [if_pos (Or.inr (Or.inr (Or.inl q3)))] at b6 b7
      exact ⟨by rw [← b6], by rw [← b6], b7, b8⟩
    · have hno : ¬ (x + dX n < 0 ∨ y + dY n < 0 ∨ (w : Int) ≤ x + dX n ∨ (d : Int) ≤ y + dY n) := by omega
      rw [if_neg hno] at b6 b7
      have hy7 := wy (w := w) (d := d) (x := x + dX n) (y := y + dY n) (by omega) (by omega) (by omega) (by omega)
      have hw8 : (w : Int) * (y + dY n) ≤ 64 := by omega
      have hw0 : 0 ≤ (w : Int) * (y + dY n) := Int.mul_nonneg (by omega) (by omega)
      have ec : i_add (i_mul (w : Int) (y + dY n)) (x + dX n) = (w : Int) * (y + dY n) + (x + dX n) := by
        rw [i_mul_eq ⟨by omega, by omega⟩, ia (by omega) (by omega)]
      rw [ec]
      generalize hC : (w : Int) * (y + dY n) + (x + dX n) = C at *
      have rs : hh 23 C.toNat = sd C.toNat := by
        rw [b8 _ _ (by unfold S2; omega)]
        exact hsd _ (by omega)
      rw [rs]
      have step : ∀ hh' : Hp, hh' 20 12 = l_or (hh 20 12) (l_shl 1 C) → Same S2 h hh' → lkO w d (dX n) (dY n) (fog - (k + 1)) (x + dX n) (y + dY n) (hh' 20 12) = O := fun hh' e1 _ => by rw [hm2, e1]; exact b7
      have s1 : Same S2 h (st hh 20 12 (l_or (hh 20 12) (l_shl 1 C))) := b8.st ⟨rfl, Or.inr rfl⟩
      have v11 : st hh 20 12 (l_or (hh 20 12) (l_shl 1 C)) 20 11 = hh 20 11 := st_nk (by decide)
      have v12 : st hh 20 12 (l_or (hh 20 12) (l_shl 1 C)) 20 12 = l_or (hh 20 12) (l_shl 1 C) := st_self
      have tk : i_add ((k + 1 : Nat) : Int) 1 = ((k + 1 + 1 : Nat) : Int) := i1 (by omega)
      have ck : ((k : Int) + 1) = ((k + 1 : Nat) : Int) := by omega
      refine ⟨⟨by omega, by omega⟩, fun f0 => ?_, fun f0 => ⟨fun f1 => ?_, fun f1 => ?_⟩⟩
      · rw [if_pos (Or.inl f0)] at b6
        unfold fX3_lookAlong_j173
        simp only [wp_lb, wp_some, E2_l]
        refine ⟨by omega, by omega, by omega, by omega, tk, ?_, ?_, s1.st ⟨rfl, Or.inl rfl⟩⟩
        · rw [hm2, st_self, v11, ← ck]
          exact b6
        · exact step _ (by rw [st_nk (by decide)]; exact v12) (s1.st ⟨rfl, Or.inl rfl⟩)
      · rw [if_neg (by rw [ck]; omega)] at b6
        refine ⟨by omega, by omega, by omega, by omega, tk, ?_, step _ v12 s1, s1⟩
        rw [hm2, v11, ← ck]
        exact b6
      · rw [if_pos (Or.inr (by rw [ck]; omega))] at b6
        unfold fX3_lookAlong_j173
        simp only [wp_lb, wp_some, E2_l]
        refine ⟨by omega, by omega, by omega, by omega, tk, ?_, ?_, s1.st ⟨rfl, Or.inl rfl⟩⟩
        · rw [hm2, st_self, v11, ← ck]
          exact b6
        · exact step _ (by rw [st_nk (by decide)]; exact v12) (s1.st ⟨rfl, Or.inl rfl⟩)
    · rw [if_pos (Or.inr (Or.inr (Or.inr (by omega))))] at b6 b7
      exact ⟨by rw [← b6], by rw [← b6], b7, b8⟩
  · rintro ⟨x, y, far, rise, kk, hh⟩ ⟨b1, b2, b3, b4, b5, b6, b7, b8⟩
    dsimp only at b1 b2 b3 b4 b5 b6 b7 b8 ⊢
    subst b5
    have r4 : hh 20 4 = (fog : Int) := by rw [b8 _ _ (by unfold S2; omega)]; exact hf
    rw [Nat.sub_self] at b6 b7
    unfold lkA at b6
    unfold lkO at b7
    unfold fX3_lookAlong_l66
    simp only [wp_ite, wp_some, E2_r, r4]
    refine ⟨fun _ => ⟨by rw [← b6], by rw [← b6], b7, b8⟩, fun q => absurd q (by omega)⟩
  · exact ⟨hm'.1, hm'.2, hdv'.1, hdv'.2, rfl, rfl, hO, Same.rf⟩
  · rintro (e | e) he
    · simp only [wp_some]
      exact he
    · simp only [wp_some]
      exact he
