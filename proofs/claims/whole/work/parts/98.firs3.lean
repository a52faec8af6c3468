/-! pure part: firs, the class looks for one -/
theorem lkO_rg {w d : Nat} {dx dy : Int} {j : Nat} (hwd : w * d ≤ 64) : ∀ (n : Nat) (x y o : Int), (bt o j = true → j < w * d) → bt (lkO w d dx dy n x y o) j = true → j < w * d
  | 0, _, _, _, h, z => h z
  | n + 1, x, y, o, h, z => by
    unfold lkO at z
    by_cases q : x + dx < 0 ∨ y + dy < 0 ∨ (w : Int) ≤ x + dx ∨ (d : Int) ≤ y + dy
    · rw [if_pos q] at z; exact h z
    · rw [if_neg q] at z
      obtain ⟨c, e, hc⟩ := cell_rg (w := w) (d := d) (x := x + dx) (y := y + dy) (by omega) (by omega) (by omega) (by omega)
      rw [e] at z
      refine lkO_rg hwd n _ _ _ (fun b => ?_) z
      rw [bt_lor, bt_l1 (by clear e; omega), Bool.or_eq_true] at b
      rcases b with b | b
      · exact h b
      · have b' : c = j := of_decide_eq_true b
        rw [← b']; exact hc
theorem lkSO_rg {w d fog c j : Nat} {shut : Nat → Bool} (hwd : w * d ≤ 64) : ∀ n, bt (lkSO w d fog c shut n) j = true → j < w * d
  | 0, z => by
    rw [show lkSO w d fog c shut 0 = 0 from rfl, bt_0] at z
    exact absurd z (by decide)
  | n + 1, z => by
    unfold lkSO at z
    by_cases q : shut n = true
    · rw [if_pos q] at z; exact lkSO_rg hwd n z
    · rw [if_neg q] at z
      exact lkO_rg hwd _ _ _ _ (lkSO_rg hwd n) z
theorem ways_rg {D : LD} {ro : Nat → Int} {fog i j : Nat} (W : DW D) (z : bt (ways D ro fog i) j = true) : j < D.cl := lkSO_rg (cl64 W.1.2 W.2.1.2) 8 z
def keF (n c e : Int) (h : Hp) : Hp := st (st (st h 34 0 c) 34 1 e) 0 15 n
theorem c_keepFirs {n c e : Int} {h : Hp} : fX5_keepFirs n c e h = some (n, keF n c e h) := by
  unfold fX5_keepFirs
  rw [gd_y (by decide)]
  show gd_ (0 ≤ (1 : Int) ∧ (1 : Int) < 2) _ = _
  rw [gd_y (by decide)]
  rfl
theorem c_firs1 {D : LD} {Y : Nat} {ht ro : Nat → Int} {L : Nat} {set much ov mask : Int} {h : Hp} (W : DW D) (T : HT D ht) (R : RW D Y ro) (H : CS D ht (lay D ht ro) ro (fogY D (ro 61)) L h)
    (ho : ∀ j, bt ov j = true ↔ ∃ i, i < D.nh ∧ bt set i = true ∧ bt (ways D ro (fogY D (ro 61)) i) j = true) (hm : ∀ c, c < 64 → (bt mask c = true ↔ c < D.cl ∧ bare D ro (c : Int) = true ∧ bt ov c = true)) (h00 : okF D ht ro set much (-1) (-1) = false) :
    wp (it_ (fun s : Int × Hp => fX5_firs_l68 set much mask s.1 s.2) FU (0, h)) (fun e => E2 (fun hq => (∀ c : Nat, c < D.cl → bare D ro (c : Int) = true → okF D ht ro set much (c : Int) (-1) = false) ∧ Same SC h hq ∧ CS D ht (lay D ht ro) ro (fogY D (ro 61)) L hq) (fun r : Int × Hp => ∃ c : Nat, c < D.cl ∧ bare D ro (c : Int) = true ∧ okF D ht ro set much (c : Int) (-1) = true ∧ (∀ c' : Nat, c' < c → bare D ro (c' : Int) = true → okF D ht ro set much (c' : Int) (-1) = false) ∧ ∃ h9, Same SC h h9 ∧ r = (1, keF 1 (c : Int) 0 h9)) e) := by
  have hc64 : D.cl ≤ 64 := cl64 W.1.2 W.2.1.2
  refine wp_for (fun k (s : Int × Hp) => s.1 = (k : Int) ∧ (∀ c : Nat, c < k → c < D.cl → bare D ro (c : Int) = true → okF D ht ro set much (c : Int) (-1) = false) ∧ Same SC h s.2 ∧ CS D ht (lay D ht ro) ro (fogY D (ro 61)) L s.2) 64 ?_ ?_ (FU_big (by decide)) ⟨rfl, fun c z => absurd z (Nat.not_lt_zero c), Same.rf, H⟩
  · rintro k ⟨x, hh⟩ hk ⟨e1, e2, e3, e4⟩
    dsimp only at e1 e2 e3 e4 ⊢
    subst e1
    have k1 : i_add (k : Int) 1 = ((k + 1 : Nat) : Int) := i1 (by clear e2; omega)
    have stay : (k < D.cl → bare D ro (k : Int) = true → okF D ht ro set much (k : Int) (-1) = false) → ∀ c : Nat, c < k + 1 → c < D.cl → bare D ro (c : Int) = true → okF D ht ro set much (c : Int) (-1) = false := fun z c h1 h2 h3 => by
      by_cases q : c = k
      · subst q; exact z h2 h3
      · exact e2 c (by clear e2 k1; omega) h2 h3
    unfold fX5_firs_l68
    rw [k1, hasBit_eq hk]
    refine w_f (by clear e2 k1 stay; omega) ?_
    rw [wp_bp, wp_some]
    by_cases q : bt mask k = true
    · rw [if_pos q]
      obtain ⟨q1, q2, q3⟩ := (hm k hk).mp q
      refine w_f (by decide) ?_
      rw [wp_bd]
      refine (c_firsHelp1 W T R e4 q1 q2).mono ?_
      rintro ⟨v, h28⟩ ⟨v1, v2, v3⟩
      dsimp only at v1 v2 v3 ⊢
      by_cases qo : okF D ht ro set much (k : Int) (-1) = true
      · rw [if_pos qo] at v1
        refine w_f (by rw [v1]; decide) ?_
        rw [c_keepFirs, wp_bd, wp_some, wp_some]
        exact ⟨k, q1, q2, qo, fun c' hc' hb => e2 c' hc' (by clear e2 k1 stay v1; omega) hb, h28, e3.tr v2, rfl⟩
      · rw [if_neg qo] at v1
        exact w_t v1 (wp_some.mpr ⟨rfl, stay (fun _ _ => by simpa using qo), e3.tr v2, v3⟩)
    · rw [if_neg q]
      refine w_t rfl (wp_some.mpr ⟨rfl, stay (fun h1 h2 => ?_), e3, e4⟩)
      rw [ok_far1 W ho (fun z => q ((hm k hk).mpr ⟨h1, h2, z⟩))]
      exact h00
  · rintro ⟨x, hh⟩ ⟨e1, e2, e3, e4⟩
    dsimp only at e1 e2 e3 e4 ⊢
    subst e1
    unfold fX5_firs_l68
    exact w_t (by decide) (wp_some.mpr ⟨fun c hc hb => e2 c (by clear e2; omega) hc hb, e3, e4⟩)
