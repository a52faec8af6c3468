/-! pure part: a look depends on what lies on its ways alone -/
theorem lkO_mono {w d : Nat} {dx dy : Int} {j : Nat} : ∀ (n : Nat) (x y o : Int), bt o j = true → bt (lkO w d dx dy n x y o) j = true
  | 0, _, _, _, h => h
  | n + 1, x, y, o, h => by
    unfold lkO
    by_cases q : x + dx < 0 ∨ y + dy < 0 ∨ (w : Int) ≤ x + dx ∨ (d : Int) ≤ y + dy
    · rw [if_pos q]; exact h
    · rw [if_neg q]
      exact lkO_mono n _ _ _ (by rw [bt_lor, h]; rfl)
theorem cell_rg {w d : Nat} {x y : Int} (h1 : 0 ≤ x) (h2 : x < w) (h3 : 0 ≤ y) (h4 : y < d) : ∃ c : Nat, (w : Int) * y + x = (c : Int) ∧ c < w * d := by
  obtain ⟨a, rfl⟩ : ∃ a : Nat, x = (a : Int) := ⟨x.toNat, by omega⟩
  obtain ⟨b, rfl⟩ : ∃ b : Nat, y = (b : Int) := ⟨y.toNat, by omega⟩
  have ha : a < w := by omega
  have hb : b < d := by omega
  refine ⟨w * b + a, by rw [Int.natCast_add, Int.natCast_mul], ?_⟩
  calc w * b + a < w * b + w := by omega
    _ = w * (b + 1) := by rw [Nat.mul_succ]
    _ ≤ w * d := Nat.mul_le_mul_left w hb
theorem lkA_loc {w d : Nat} {sd sd' : Nat → Int} {eye dx dy : Int} (hwd : w * d ≤ 64) : ∀ (n : Nat) (x y o far rise k view : Int), (∀ j, j < w * d → bt (lkO w d dx dy n x y o) j = true → sd j = sd' j) → lkA w d sd eye dx dy n x y far rise k view = lkA w d sd' eye dx dy n x y far rise k view
  | 0, _, _, _, _, _, _, _, _ => rfl
  | n + 1, x, y, o, far, rise, k, view, H => by
    unfold lkA
    unfold lkO at H
    by_cases q : x + dx < 0 ∨ y + dy < 0 ∨ (w : Int) ≤ x + dx ∨ (d : Int) ≤ y + dy
    · rw [if_pos q, if_pos q]
    · rw [if_neg q] at H
      rw [if_neg q, if_neg q]
      obtain ⟨c, e, hc⟩ := cell_rg (w := w) (d := d) (x := x + dx) (y := y + dy) (by omega) (by omega) (by omega) (by omega)
      rw [e] at H ⊢
      rw [Int.toNat_natCast]
      have ec : sd c = sd' c := H c hc (lkO_mono n _ _ _ (by rw [bt_lor, bt_l1 (by clear e; omega), decide_eq_true rfl, Bool.or_true]))
      rw [ec, lkA_loc hwd n (x + dx) (y + dy) _ _ _ _ _ H, lkA_loc hwd n (x + dx) (y + dy) _ _ _ _ _ H]
theorem lkS_loc {w d : Nat} {sd sd' : Nat → Int} {fog c : Nat} {eye : Int} {shut : Nat → Bool} (hwd : w * d ≤ 64) : ∀ n, (∀ j, j < w * d → bt (lkSO w d fog c shut n) j = true → sd j = sd' j) → lkS w d sd fog c eye shut n = lkS w d sd' fog c eye shut n
  | 0, _ => rfl
  | n + 1, H => by
    unfold lkSO at H
    by_cases q : shut n = true
    · rw [if_pos q] at H
      have ih := lkS_loc (eye := eye) hwd n H
      simp only [lkS, q, if_true, ih]
    · rw [if_neg q] at H
      have ih := lkS_loc (eye := eye) (shut := shut) (fog := fog) (c := c) hwd n (fun j hj hb => H j hj (lkO_mono _ _ _ _ hb))
      have q' : shut n = false := by simpa using q
      have el : ∀ v, lkD w d sd fog c eye n v = lkD w d sd' fog c eye n v := fun v => lkA_loc hwd _ _ _ _ _ _ _ _ H
      rw [lkS_s q', lkS_s q', ih, el]
def ways (D : LD) (ro : Nat → Int) (fog i : Nat) : Int := lkSO D.w D.d fog (D.hc i) (shB (D.kd i) (ro (54 + i))) 8
theorem vw_loc {D : LD} {ht sd sd' ro : Nat → Int} {fog i : Nat} (W : DW D) (H : ∀ j, j < D.cl → bt (ways D ro fog i) j = true → sd j = sd' j) : vw D ht sd ro fog i = vw D ht sd' ro fog i := lkS_loc (cl64 W.1.2 W.2.1.2) 8 H
theorem txH_loc {D : LD} {ht sd sd' ro : Nat → Int} {fog i : Nat} {law : Int} (W : DW D) (H : ∀ j, j < D.cl → bt (ways D ro fog i) j = true → sd j = sd' j) : txH D ht sd ro fog i law = txH D ht sd' ro fog i law := by
  rw [txH_eq, txH_eq, vw_loc W H]
