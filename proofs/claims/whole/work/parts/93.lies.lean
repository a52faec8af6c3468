/-! pure part: cheat, who lies and what is looked over -/
theorem or_64 : ∀ a : Nat, a < 64 → ∀ k : Nat, k < 6 → 0 ≤ i_or (a : Int) (i_shl 1 (k : Int)) ∧ i_or (a : Int) (i_shl 1 (k : Int)) < 64 := by decide +kernel
theorem lies_64 {m : Nat → Int} {rh : Nat → Nat} {rm : Nat → Int} : ∀ n, (∀ i, i < n → rh i < 6) → ∃ v : Nat, lies m rh rm n = (v : Int) ∧ v < 64
  | 0, _ => ⟨0, rfl, by decide⟩
  | n + 1, H => by
    obtain ⟨v, e, hv⟩ := lies_64 (m := m) (rm := rm) n (fun i hi => H i (Nat.lt_succ_of_lt hi))
    unfold lies
    by_cases q : m (rh n) = rm n
    · rw [if_pos q]; exact ⟨v, e, hv⟩
    · rw [if_neg q, e]
      have := or_64 v hv (rh n) (H n (Nat.lt_succ_self n))
      exact ⟨(i_or (v : Int) (i_shl 1 (rh n : Int))).toNat, by omega, by omega⟩
theorem in_shl1 : ∀ k : Nat, k < 32 → in32 (i_shl 1 (k : Int)) := by
  intro k _
  unfold i_shl
  exact i32_rng _
theorem lies_bt {m : Nat → Int} {rh : Nat → Nat} {rm : Nat → Int} {i : Nat} (hi : i < 6) : ∀ n, (∀ k, k < n → rh k < 6) → (bt (lies m rh rm n) i = true ↔ ∃ k, k < n ∧ rh k = i ∧ m i ≠ rm k)
  | 0, _ => by
    constructor
    · intro h
      rw [show lies m rh rm 0 = 0 from rfl, bt_0] at h
      exact absurd h (by decide)
    · rintro ⟨k, hk, -⟩
      exact absurd hk (Nat.not_lt_zero k)
  | n + 1, H => by
    have ih := lies_bt (m := m) (rm := rm) hi n (fun k hk => H k (Nat.lt_succ_of_lt hk))
    have h6 := H n (Nat.lt_succ_self n)
    unfold lies
    by_cases q : m (rh n) = rm n
    · rw [if_pos q, ih]
      constructor
      · rintro ⟨k, a, b⟩
        exact ⟨k, Nat.lt_succ_of_lt a, b⟩
      · rintro ⟨k, a, b, c⟩
        by_cases e : k = n
        · subst e
          rw [b] at q
          exact absurd q c
        · exact ⟨k, by omega, b, c⟩
    · rw [if_neg q, bt_ior (lies_in _ _ _ _) (in_shl1 _ (by omega)) (by omega), bt_i1 (by omega) (by omega), Bool.or_eq_true, ih]
      constructor
      · rintro (⟨k, a, b⟩ | z)
        · exact ⟨k, Nat.lt_succ_of_lt a, b⟩
        · have z' : rh n = i := of_decide_eq_true z
          exact ⟨n, Nat.lt_succ_self n, z', by rw [← z']; exact q⟩
      · rintro ⟨k, a, b, c⟩
        by_cases e : k = n
        · subst e
          exact Or.inr (decide_eq_true b)
        · exact Or.inl ⟨k, by omega, b, c⟩
theorem cntB_mono {a b : Int} (H : ∀ i, i < 6 → bt a i = true → bt b i = true) : cntB a ≤ cntB b := by
  have t : ∀ i, i < 6 → (if bt a i = true then (1 : Int) else 0) ≤ (if bt b i = true then (1 : Int) else 0) := fun i hi => by
    by_cases q : bt a i = true
    · rw [if_pos q, if_pos (H i hi q)]; exact Int.le_refl 1
    · rw [if_neg q]
      by_cases q2 : bt b i = true
      · rw [if_pos q2]; decide
      · rw [if_neg q2]; exact Int.le_refl 0
  have e : ∀ v : Int, cntB v = (if bt v 0 = true then (1 : Int) else 0) + ((if bt v 1 = true then (1 : Int) else 0) + ((if bt v 2 = true then (1 : Int) else 0) + ((if bt v 3 = true then (1 : Int) else 0) + ((if bt v 4 = true then (1 : Int) else 0) + ((if bt v 5 = true then (1 : Int) else 0) + 0))))) := fun v => rfl
  rw [e, e]
  have t0 := t 0 (by decide)
  have t1 := t 1 (by decide)
  have t2 := t 2 (by decide)
  have t3 := t 3 (by decide)
  have t4 := t 4 (by decide)
  have t5 := t 5 (by decide)
  exact Int.add_le_add t0 (Int.add_le_add t1 (Int.add_le_add t2 (Int.add_le_add t3 (Int.add_le_add t4 (Int.add_le_add t5 (Int.le_refl 0))))))
theorem c_overs {D : LD} {ht sd ro : Nat → Int} {fog L : Nat} {h : Hp} {x : Int} (W : DW D) (H : CS D ht sd ro fog L h) : wp (fX3_looksOver x h) (fun r => (∀ j, bt r.1 j = true ↔ ∃ i, i < D.nh ∧ bt x i = true ∧ bt (ways D ro fog i) j = true) ∧ Same SL h r.2) := by
  have hn := W.2.2.1
  have hL := H.1
  unfold fX3_looksOver
  rw [wp_bp]
  refine (wp_for (Q := fun r : Int × Hp => (∀ j, bt r.1 j = true ↔ ∃ i, i < D.nh ∧ bt x i = true ∧ bt (ways D ro fog i) j = true) ∧ Same SL h r.2) (fun k (s : Int × Int × Hp) => (∀ j, bt s.1 j = true ↔ ∃ i, i < k ∧ bt x i = true ∧ bt (ways D ro fog i) j = true) ∧ s.2.1 = (k : Int) ∧ Same SL h s.2.2) D.nh ?_ ?_ (FU_big (by omega)) ⟨fun j => ⟨fun z => by rw [bt_0] at z; exact absurd z (by decide), fun ⟨i, a, _⟩ => absurd a (Nat.not_lt_zero i)⟩, rfl, Same.rf⟩).mono ?_
  · rintro k ⟨v, c, hh⟩ hk ⟨f1, f2, f3⟩
    dsimp only at f1 f2 f3 ⊢
    subst f2
    have H' := H.same f3
    have k1 : i_add (k : Int) 1 = ((k + 1 : Nat) : Int) := i1 (by clear f1; omega)
    unfold fX3_looksOver_l5
    rw [k1, gd_y (by rw [H'.2.1]; clear f1 k1; omega), H'.2.1, Int.toNat_natCast, H'.nh]
    refine w_f (by clear f1 k1; omega) ?_
    rw [hasBit_eq (by clear f1 k1; omega), wp_bp, wp_some]
    by_cases q : bt x k = true
    · rw [if_pos q]
      refine w_f (by decide) ?_
      rw [wp_bd]
      refine (c_lookFrom W H' hk).mono ?_
      rintro ⟨r, h9⟩ ⟨-, lk⟩
      dsimp only at lk ⊢
      have e12 : h9 20 12 = ways D ro fog k := lk.2.2.2.2.2.2.1
      rw [wp_lb, wp_some, e12]
      refine ⟨fun j => ?_, rfl, f3.tr lk.sm⟩
      show bt (l_or v (ways D ro fog k)) j = true ↔ _
      rw [bt_lor, Bool.or_eq_true, f1]
      constructor
      · rintro (⟨i, a, b⟩ | z)
        · exact ⟨i, Nat.lt_succ_of_lt a, b⟩
        · exact ⟨k, Nat.lt_succ_self k, q, z⟩
      · rintro ⟨i, a, b, c⟩
        by_cases e : i = k
        · subst e; exact Or.inr c
        · exact Or.inl ⟨i, by clear f1 k1 e12; omega, b, c⟩
    · rw [if_neg q]
      refine w_t rfl (wp_some.mpr ⟨fun j => ?_, rfl, f3⟩)
      show bt v j = true ↔ _
      rw [f1]
      constructor
      · rintro ⟨i, a, b⟩
        exact ⟨i, Nat.lt_succ_of_lt a, b⟩
      · rintro ⟨i, a, b, c⟩
        by_cases e : i = k
        · subst e; exact absurd b q
        · exact ⟨i, by clear f1 k1; omega, b, c⟩
  · rintro ⟨v, c, hh⟩ ⟨f1, f2, f3⟩
    dsimp only at f1 f2 f3 ⊢
    subst f2
    have H' := H.same f3
    unfold fX3_looksOver_l5
    rw [gd_y (by rw [H'.2.1]; clear f1; omega), H'.2.1, Int.toNat_natCast, H'.nh]
    exact w_t (Int.le_refl _) (wp_some.mpr ⟨f1, f3⟩)
  · intro r hr
    rw [wp_some]
    exact hr
