/-! pure part: firs, the class looks for two -/
def prF (D : LD) (ht ro : Nat → Int) (set much : Int) (c e : Nat) : Prop := c < e ∧ e < D.cl ∧ bare D ro (c : Int) = true ∧ bare D ro (e : Int) = true ∧ okF D ht ro set much (c : Int) (e : Int) = true
theorem c_firs2 {D : LD} {Y : Nat} {ht ro : Nat → Int} {L c : Nat} {set much ov mask : Int} {h : Hp} (W : DW D) (T : HT D ht) (R : RW D Y ro) (H : CS D ht (lay D ht ro) ro (fogY D (ro 61)) L h)
    (ho : ∀ j, bt ov j = true ↔ ∃ i, i < D.nh ∧ bt set i = true ∧ bt (ways D ro (fogY D (ro 61)) i) j = true) (hm : ∀ c, c < 64 → (bt mask c = true ↔ c < D.cl ∧ bare D ro (c : Int) = true ∧ bt ov c = true)) (h1 : ∀ c : Nat, c < D.cl → bare D ro (c : Int) = true → okF D ht ro set much (c : Int) (-1) = false) (hc : c < 64) :
    wp (it_ (fun s : Int × Hp => fX5_firs_l127 set much mask (c : Int) s.1 s.2) FU (((c + 1 : Nat) : Int), h)) (fun e => E2 (fun hq => (∀ e : Nat, ¬ prF D ht ro set much c e) ∧ Same SC h hq ∧ CS D ht (lay D ht ro) ro (fogY D (ro 61)) L hq) (fun r : Int × Hp => ∃ e : Nat, prF D ht ro set much c e ∧ (∀ e' : Nat, e' < e → ¬ prF D ht ro set much c e') ∧ ∃ h9, Same SC h h9 ∧ r = (2, keF 2 (c : Int) (e : Int) h9)) e) := by
  have hc64 : D.cl ≤ 64 := cl64 W.1.2 W.2.1.2
  refine wp_for (fun k (s : Int × Hp) => s.1 = ((c + 1 + k : Nat) : Int) ∧ (∀ e : Nat, e < c + 1 + k → ¬ prF D ht ro set much c e) ∧ Same SC h s.2 ∧ CS D ht (lay D ht ro) ro (fogY D (ro 61)) L s.2) (63 - c) ?_ ?_ (FU_big (by omega)) ⟨rfl, fun e z p => by have := p.1; omega, Same.rf, H⟩
  · rintro k ⟨x, hh⟩ hk ⟨e1, e2, e3, e4⟩
    dsimp only at e1 e2 e3 e4 ⊢
    subst e1
    generalize he : c + 1 + k = e at e2
    have he64 : e < 64 := by clear e2; omega
    have k1 : i_add (e : Int) 1 = ((c + 1 + (k + 1) : Nat) : Int) := by rw [i1 (by clear e2; omega)]; congr 1; clear e2; omega
    have stay : ¬ prF D ht ro set much c e → ∀ e' : Nat, e' < c + 1 + (k + 1) → ¬ prF D ht ro set much c e' := fun z e' hz => by
      by_cases q : e' = e
      · rw [q]; exact z
      · exact e2 e' (by clear e2 k1; omega)
    unfold fX5_firs_l127
    rw [k1, hasBit_eq hc, hasBit_eq he64]
    refine w_f (by clear e2 k1 stay; omega) ?_
    rw [wp_bp, wp_some]
    by_cases q : bt mask c = true
    · rw [if_pos q]
      obtain ⟨q1, q2, q3⟩ := (hm c hc).mp q
      refine w_f (by decide) ?_
      rw [wp_bp, wp_some]
      by_cases p : bt mask e = true
      · rw [if_pos p]
        obtain ⟨p1, p2, p3⟩ := (hm e he64).mp p
        refine w_f (by decide) ?_
        rw [wp_bd]
        refine (c_firsHelp2 W T R e4 q1 q2 p1 p2 (by clear e2 k1 stay; omega)).mono ?_
        rintro ⟨v, h28⟩ ⟨v1, v2, v3⟩
        dsimp only at v1 v2 v3 ⊢
        by_cases qo : okF D ht ro set much (c : Int) (e : Int) = true
        · rw [if_pos qo] at v1
          refine w_f (by rw [v1]; decide) ?_
          rw [c_keepFirs, wp_bd, wp_some, wp_some]
          exact ⟨e, ⟨by clear e2 k1 stay v1; omega, p1, q2, p2, qo⟩, e2, h28, e3.tr v2, rfl⟩
        · rw [if_neg qo] at v1
          exact w_t v1 (wp_some.mpr ⟨rfl, stay (fun z => qo z.2.2.2.2), e3.tr v2, v3⟩)
      · rw [if_neg p]
        refine w_t rfl (wp_some.mpr ⟨rfl, stay (fun z => ?_), e3, e4⟩)
        obtain ⟨z1, z2, z3, z4, z5⟩ := z
        rw [ok_far2 W ho (fun z => p ((hm e he64).mpr ⟨z2, z4, z⟩)), h1 c q1 q2] at z5
        exact absurd z5 (by decide)
    · rw [if_neg q]
      refine w_t rfl (wp_some.mpr ⟨fun e' z => ?_, e3, e4⟩)
      obtain ⟨z1, z2, z3, z4, z5⟩ := z
      rw [ok_far1 W ho (fun z => q ((hm c hc).mpr ⟨by clear e2 k1 stay; omega, z3, z⟩)), ok_swap, h1 e' z2 z4] at z5
      exact absurd z5 (by decide)
  · rintro ⟨x, hh⟩ ⟨e1, e2, e3, e4⟩
    dsimp only at e1 e2 e3 e4 ⊢
    subst e1
    unfold fX5_firs_l127
    refine w_t (by clear e2; omega) (wp_some.mpr ⟨fun e z => ?_, e3, e4⟩)
    by_cases q : e < c + 1 + (63 - c)
    · exact e2 e q z
    · have := z.2.1
      clear e2
      omega
theorem c_firs3 {D : LD} {Y : Nat} {ht ro : Nat → Int} {L : Nat} {set much ov mask : Int} {h : Hp} (W : DW D) (T : HT D ht) (R : RW D Y ro) (H : CS D ht (lay D ht ro) ro (fogY D (ro 61)) L h)
    (ho : ∀ j, bt ov j = true ↔ ∃ i, i < D.nh ∧ bt set i = true ∧ bt (ways D ro (fogY D (ro 61)) i) j = true) (hm : ∀ c, c < 64 → (bt mask c = true ↔ c < D.cl ∧ bare D ro (c : Int) = true ∧ bt ov c = true)) (h1 : ∀ c : Nat, c < D.cl → bare D ro (c : Int) = true → okF D ht ro set much (c : Int) (-1) = false) :
    wp (it_ (fun s : Int × Hp => fX5_firs_l114 set much mask s.1 s.2) FU (0, h)) (fun e => E2 (fun hq => (∀ c e : Nat, ¬ prF D ht ro set much c e) ∧ Same SC h hq ∧ CS D ht (lay D ht ro) ro (fogY D (ro 61)) L hq) (fun r : Int × Hp => ∃ c e : Nat, prF D ht ro set much c e ∧ (∀ c' e' : Nat, c' < c → ¬ prF D ht ro set much c' e') ∧ (∀ e' : Nat, e' < e → ¬ prF D ht ro set much c e') ∧ ∃ h9, Same SC h h9 ∧ r = (2, keF 2 (c : Int) (e : Int) h9)) e) := by
  have hc64 : D.cl ≤ 64 := cl64 W.1.2 W.2.1.2
  refine wp_for (fun k (s : Int × Hp) => s.1 = (k : Int) ∧ (∀ c e : Nat, c < k → ¬ prF D ht ro set much c e) ∧ Same SC h s.2 ∧ CS D ht (lay D ht ro) ro (fogY D (ro 61)) L s.2) 64 ?_ ?_ (FU_big (by decide)) ⟨rfl, fun c e z => absurd z (Nat.not_lt_zero c), Same.rf, H⟩
  · rintro k ⟨x, hh⟩ hk ⟨e1, e2, e3, e4⟩
    dsimp only at e1 e2 e3 e4 ⊢
    subst e1
    have k1 : i_add (k : Int) 1 = ((k + 1 : Nat) : Int) := i1 (by clear e2; omega)
    unfold fX5_firs_l114
    rw [k1]
    refine w_f (by clear e2 k1; omega) ?_
    rw [wp_lb, wp_bp]
    refine (c_firs2 W T R e4 ho hm h1 hk).mono ?_
    rintro (e | e) he
    · dsimp only
      obtain ⟨g1, g2, g3⟩ := he
      refine wp_some.mpr ⟨rfl, fun c e' hc => ?_, e3.tr g2, g3⟩
      by_cases q : c = k
      · rw [q]; exact g1 e'
      · exact e2 c e' (by clear e2 k1; omega)
    · dsimp only
      obtain ⟨e', g1, g2, h9, g3, g4⟩ := he
      exact wp_some.mpr ⟨k, e', g1, e2, g2, h9, e3.tr g3, g4⟩
  · rintro ⟨x, hh⟩ ⟨e1, e2, e3, e4⟩
    dsimp only at e1 e2 e3 e4 ⊢
    subst e1
    unfold fX5_firs_l114
    refine w_t (by decide) (wp_some.mpr ⟨fun c e z => e2 c e ?_ z, e3, e4⟩)
    have h1 := z.1
    have h2 := z.2.1
    clear e2 z
    omega
