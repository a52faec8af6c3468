/-! pure part: firs, the reference looks for two -/
theorem m_firs3 {D : LD} {Y : Nat} {ht sd ro : Nat → Int} {set much : Int} {h : Hp} (W : DW D) (R : RW D Y ro) (H : MS D ht sd ro (fogY D (ro 61)) h) (hs : in32 set) :
    wp (it_ (fun s : Int × Hp => fX6_firsFor_l53 set much s.1 s.2) FU (0, h)) (fun e => E2 (fun hq => (∀ c e : Nat, ¬ prF D ht ro set much c e) ∧ Same SFr h hq) (fun r : Int × Hp => ∃ c e : Nat, prF D ht ro set much c e ∧ (∀ c' e' : Nat, c' < c → ¬ prF D ht ro set much c' e') ∧ (∀ e' : Nat, e' < e → ¬ prF D ht ro set much c e') ∧ r.1 = 2 ∧ r.2 35 52 = (c : Int) ∧ r.2 35 53 = (e : Int) ∧ Same SFr h r.2) e) := by
  have hc64 : D.cl ≤ 64 := cl64 W.1.2 W.2.1.2
  refine wp_for (fun k (s : Int × Hp) => s.1 = (k : Int) ∧ (∀ c e : Nat, c < k → ¬ prF D ht ro set much c e) ∧ Same SFr h s.2) D.cl ?_ ?_ (FU_big (by omega)) ⟨rfl, fun c e z => absurd z (Nat.not_lt_zero c), Same.rf⟩
  · rintro k ⟨x, hh⟩ hk ⟨e1, e2, e4⟩
    dsimp only at e1 e2 e4 ⊢
    subst e1
    have k1 : i_add (k : Int) 1 = ((k + 1 : Nat) : Int) := i1 (by clear e2; omega)
    have M0 := H.sfr e4
    unfold fX6_firsFor_l53
    rw [k1, m_cells W M0.1, wp_bp, wp_some]
    refine w_f (by clear e2 k1; omega) ?_
    rw [wp_lb, wp_bp]
    refine (m_firs2 W R M0 hs hk).mono ?_
    rintro (e | e) he
    · dsimp only
      obtain ⟨g1, g2⟩ := he
      refine wp_some.mpr ⟨rfl, fun c e' hc => ?_, e4.tr g2⟩
      by_cases q : c = k
      · rw [q]; exact g1 e'
      · exact e2 c e' (by clear e2 k1; omega)
    · dsimp only
      obtain ⟨e', g1, g2, g3, g5, g6, g7⟩ := he
      exact wp_some.mpr ⟨k, e', g1, e2, g2, g3, g5, g6, e4.tr g7⟩
  · rintro ⟨x, hh⟩ ⟨e1, e2, e4⟩
    dsimp only at e1 e2 e4 ⊢
    subst e1
    unfold fX6_firsFor_l53
    rw [m_cells W (H.sfr e4).1, wp_bp, wp_some]
    refine w_t (Int.le_refl _) (wp_some.mpr ⟨fun c e z => e2 c e ?_ z, e4⟩)
    have h1 := z.1
    have h2 := z.2.1
    clear e2 z
    omega
