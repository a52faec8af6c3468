/-! pure part: firs, the reference's answer -/
theorem m_firsFor {D : LD} {Y : Nat} {ht sd ro : Nat → Int} {set much : Int} {h : Hp} (W : DW D) (R : RW D Y ro) (H : MS D ht sd ro (fogY D (ro 61)) h) (hs : in32 set) (h52 : h 35 52 = -1) (h53 : h 35 53 = -1) :
    wp (fX6_firsFor set much h) (fun r => Same SFr h r.2 ∧ ((okF D ht ro set much (-1) (-1) = true ∧ r.1 = 0) ∨ (okF D ht ro set much (-1) (-1) = false ∧ ((∃ c : Nat, c < D.cl ∧ bare D ro (c : Int) = true ∧ okF D ht ro set much (c : Int) (-1) = true ∧ (∀ c' : Nat, c' < c → bare D ro (c' : Int) = true → okF D ht ro set much (c' : Int) (-1) = false) ∧ r.1 = 1 ∧ r.2 35 52 = (c : Int) ∧ r.2 35 53 = -1) ∨ ((∀ c : Nat, c < D.cl → bare D ro (c : Int) = true → okF D ht ro set much (c : Int) (-1) = false) ∧ ((∃ c e : Nat, prF D ht ro set much c e ∧ (∀ c' e' : Nat, c' < c → ¬ prF D ht ro set much c' e') ∧ (∀ e' : Nat, e' < e → ¬ prF D ht ro set much c e') ∧ r.1 = 2 ∧ r.2 35 52 = (c : Int) ∧ r.2 35 53 = (e : Int)) ∨ ((∀ c e : Nat, ¬ prF D ht ro set much c e) ∧ r.1 = -1))))))) := by
  unfold fX6_firsFor
  rw [wp_bd]
  refine (m_paysF W R H hs h52 h53 (Or.inl rfl) (Or.inl rfl)).mono ?_
  rintro ⟨v, h3⟩ ⟨v1, v2⟩
  dsimp only at v1 v2 ⊢
  by_cases q : okF D ht ro set much (-1) (-1) = true
  · rw [if_pos q] at v1
    exact w_f (by rw [v1]; decide) (wp_some.mpr ⟨SN_fr v2, Or.inl ⟨q, rfl⟩⟩)
  · rw [if_neg q] at v1
    have q' : okF D ht ro set much (-1) (-1) = false := by simpa using q
    refine w_t v1 ?_
    have M3 := H.sn v2
    have z53 : h3 35 53 = -1 := by rw [v2 _ _ (by unfold SN; clear v1 h52; omega)]; exact h53
    rw [wp_bp]
    refine (m_firs1 W R M3 hs z53).mono ?_
    rintro (e | e) he
    · dsimp only
      obtain ⟨g1, g2⟩ := he
      rw [wp_bp]
      refine (m_firs3 W R (M3.sfr g2) hs).mono ?_
      rintro (f | f) hf
      · dsimp only
        obtain ⟨k1, k2⟩ := hf
        rw [wp_some]
        exact ⟨((SN_fr v2).tr g2).tr k2, Or.inr ⟨q', Or.inr ⟨g1, Or.inr ⟨k1, rfl⟩⟩⟩⟩
      · dsimp only
        obtain ⟨c, e', k1, k2, k3, k4, k5, k6, k7⟩ := hf
        rw [wp_some]
        exact ⟨((SN_fr v2).tr g2).tr k7, Or.inr ⟨q', Or.inr ⟨g1, Or.inl ⟨c, e', k1, k2, k3, k4, k5, k6⟩⟩⟩⟩
    · dsimp only
      obtain ⟨c, k1, k2, k3, k4, k5, k6, k7, k8⟩ := he
      rw [wp_some]
      exact ⟨(SN_fr v2).tr k8, Or.inr ⟨q', Or.inl ⟨c, k1, k2, k3, k4, k5, k6, k7⟩⟩⟩
