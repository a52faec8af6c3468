/-! pure part: firs, the reference looks -/
def SFr : Nat → Nat → Prop := fun a k => SN a k ∨ (a = 35 ∧ (k = 52 ∨ k = 53))
theorem SN_fr {h h' : Hp} (s : Same SN h h') : Same SFr h h' := s.mono (fun _ _ p => Or.inl p)
theorem MS.sfr {D : LD} {ht sd ro : Nat → Int} {fog : Nat} {h h' : Hp} (H : MS D ht sd ro fog h) (q : Same SFr h h') : MS D ht (h' 57) ro fog h' := by
  obtain ⟨a1, a2, a3, a4, a5, a6, a7⟩ := H
  refine ⟨a1.same (fun a k p => q a k (by unfold SFr SN; omega)), fun c hc => ?_, fun c hc => rfl, a4.same (fun k => q _ _ (by unfold SFr SN; omega)), ?_, a6, a7⟩
  · rw [q _ _ (by unfold SFr SN; omega)]; exact a2 c hc
  · rw [q _ _ (by unfold SFr SN; omega)]; exact a5
theorem m_firs1 {D : LD} {Y : Nat} {ht sd ro : Nat → Int} {set much : Int} {h : Hp} (W : DW D) (R : RW D Y ro) (H : MS D ht sd ro (fogY D (ro 61)) h) (hs : in32 set) (h53 : h 35 53 = -1) :
    wp (it_ (fun s : Int × Hp => fX6_firsFor_l13 set much s.1 s.2) FU (0, h)) (fun e => E2 (fun hq => (∀ c : Nat, c < D.cl → bare D ro (c : Int) = true → okF D ht ro set much (c : Int) (-1) = false) ∧ Same SFr h hq) (fun r : Int × Hp => ∃ c : Nat, c < D.cl ∧ bare D ro (c : Int) = true ∧ okF D ht ro set much (c : Int) (-1) = true ∧ (∀ c' : Nat, c' < c → bare D ro (c' : Int) = true → okF D ht ro set much (c' : Int) (-1) = false) ∧ r.1 = 1 ∧ r.2 35 52 = (c : Int) ∧ r.2 35 53 = -1 ∧ Same SFr h r.2) e) := by
  have hc64 : D.cl ≤ 64 := cl64 W.1.2 W.2.1.2
  refine wp_for (fun k (s : Int × Hp) => s.1 = (k : Int) ∧ (∀ c : Nat, c < k → bare D ro (c : Int) = true → okF D ht ro set much (c : Int) (-1) = false) ∧ s.2 35 53 = -1 ∧ Same SFr h s.2) D.cl ?_ ?_ (FU_big (by omega)) ⟨rfl, fun c z => absurd z (Nat.not_lt_zero c), h53, Same.rf⟩
  · rintro k ⟨x, hh⟩ hk ⟨e1, e2, e3, e4⟩
    dsimp only at e1 e2 e3 e4 ⊢
    subst e1
    have k1 : i_add (k : Int) 1 = ((k + 1 : Nat) : Int) := i1 (by clear e2 e3 h53; omega)
    have stay : (bare D ro (k : Int) = true → okF D ht ro set much (k : Int) (-1) = false) → ∀ c : Nat, c < k + 1 → bare D ro (c : Int) = true → okF D ht ro set much (c : Int) (-1) = false := fun z c h1 h3 => by
      by_cases q : c = k
      · subst q; exact z h3
      · exact e2 c (by clear e2 k1 e3 h53; omega) h3
    have s8 : Same SFr h (st hh 35 52 (k : Int)) := e4.st (Or.inr ⟨rfl, Or.inl rfl⟩)
    have M8 := H.sfr s8
    have z53 : st hh 35 52 (k : Int) 35 53 = -1 := by rw [st_nk (by decide)]; exact e3
    unfold fX6_firsFor_l13
    rw [k1, m_cells W (H.sfr e4).1, wp_bp, wp_some]
    refine w_f (by clear e2 k1 e3 h53 stay z53; omega) ?_
    rw [wp_lb, m_isBare W M8.1 M8.2.2.2.1, wp_bp, wp_some]
    by_cases q : bare D ro (k : Int) = true
    · rw [if_pos q]
      refine w_f (by decide) ?_
      rw [wp_bd]
      refine (m_paysF W R M8 hs st_self z53 (Or.inr ⟨by clear e2 k1 e3 h53 stay z53; omega, by clear e2 k1 e3 h53 stay z53; omega⟩) (Or.inl rfl)).mono ?_
      rintro ⟨v, h15⟩ ⟨v1, v2⟩
      dsimp only at v1 v2 ⊢
      have y53 : h15 35 53 = -1 := by rw [v2 _ _ (by unfold SN; clear e2 k1 e3 h53 stay z53 v1; omega)]; exact z53
      have y52 : h15 35 52 = (k : Int) := by rw [v2 _ _ (by unfold SN; clear e2 k1 e3 h53 stay z53 v1 y53; omega)]; exact st_self
      by_cases qo : okF D ht ro set much (k : Int) (-1) = true
      · rw [if_pos qo] at v1
        exact w_f (by rw [v1]; decide) (wp_some.mpr ⟨k, hk, q, qo, e2, rfl, y52, y53, s8.tr (SN_fr v2)⟩)
      · rw [if_neg qo] at v1
        exact w_t v1 (wp_some.mpr ⟨rfl, stay (fun _ => by simpa using qo), y53, s8.tr (SN_fr v2)⟩)
    · rw [if_neg q]
      exact w_t rfl (wp_some.mpr ⟨rfl, stay (fun z => absurd z q), z53, s8⟩)
  · rintro ⟨x, hh⟩ ⟨e1, e2, e3, e4⟩
    dsimp only at e1 e2 e3 e4 ⊢
    subst e1
    unfold fX6_firsFor_l13
    rw [m_cells W (H.sfr e4).1, wp_bp, wp_some]
    exact w_t (Int.le_refl _) (wp_some.mpr ⟨e2, e4⟩)
theorem m_firs2 {D : LD} {Y c : Nat} {ht sd ro : Nat → Int} {set much : Int} {h : Hp} (W : DW D) (R : RW D Y ro) (H : MS D ht sd ro (fogY D (ro 61)) h) (hs : in32 set) (hc : c < D.cl) :
    wp (it_ (fun s : Int × Hp => fX6_firsFor_l66 set much (c : Int) s.1 s.2) FU (((c + 1 : Nat) : Int), h)) (fun e => E2 (fun hq => (∀ e : Nat, ¬ prF D ht ro set much c e) ∧ Same SFr h hq) (fun r : Int × Hp => ∃ e : Nat, prF D ht ro set much c e ∧ (∀ e' : Nat, e' < e → ¬ prF D ht ro set much c e') ∧ r.1 = 2 ∧ r.2 35 52 = (c : Int) ∧ r.2 35 53 = (e : Int) ∧ Same SFr h r.2) e) := by
  have hc64 : D.cl ≤ 64 := cl64 W.1.2 W.2.1.2
  refine wp_for (fun k (s : Int × Hp) => s.1 = ((c + 1 + k : Nat) : Int) ∧ (∀ e : Nat, e < c + 1 + k → ¬ prF D ht ro set much c e) ∧ Same SFr h s.2) (D.cl - (c + 1)) ?_ ?_ (FU_big (by omega)) ⟨rfl, fun e z p => by have := p.1; omega, Same.rf⟩
  · rintro k ⟨x, hh⟩ hk ⟨e1, e2, e4⟩
    dsimp only at e1 e2 e4 ⊢
    subst e1
    generalize he : c + 1 + k = e at e2
    have hecl : e < D.cl := by clear e2; omega
    have k1 : i_add (e : Int) 1 = ((c + 1 + (k + 1) : Nat) : Int) := by rw [i1 (by clear e2; omega)]; congr 1; clear e2; omega
    have stay : ¬ prF D ht ro set much c e → ∀ e' : Nat, e' < c + 1 + (k + 1) → ¬ prF D ht ro set much c e' := fun z e' hz => by
      by_cases q : e' = e
      · rw [q]; exact z
      · exact e2 e' (by clear e2 k1; omega)
    have M0 := H.sfr e4
    have s8 : Same SFr h (st (st hh 35 52 (c : Int)) 35 53 (e : Int)) := (e4.st (Or.inr ⟨rfl, Or.inl rfl⟩)).st (Or.inr ⟨rfl, Or.inr rfl⟩)
    have M8 := H.sfr s8
    have z52 : st (st hh 35 52 (c : Int)) 35 53 (e : Int) 35 52 = (c : Int) := by rw [st_nk (by decide), st_self]
    unfold fX6_firsFor_l66
    rw [k1, m_cells W M0.1, wp_bp, wp_some]
    refine w_f (by clear e2 k1 stay z52; omega) ?_
    rw [m_isBare W M0.1 M0.2.2.2.1, wp_bp, wp_some]
    by_cases q : bare D ro (c : Int) = true
    · rw [if_pos q]
      refine w_f (by decide) ?_
      rw [wp_lb, wp_lb, m_isBare W M8.1 M8.2.2.2.1, wp_bp, wp_some]
      by_cases p : bare D ro (e : Int) = true
      · rw [if_pos p]
        refine w_f (by decide) ?_
        rw [wp_bd]
        refine (m_paysF W R M8 hs z52 st_self (Or.inr ⟨by clear e2 k1 stay z52; omega, by clear e2 k1 stay z52; omega⟩) (Or.inr ⟨by clear e2 k1 stay z52; omega, by clear e2 k1 stay z52; omega⟩)).mono ?_
        rintro ⟨v, h38⟩ ⟨v1, v2⟩
        dsimp only at v1 v2 ⊢
        by_cases qo : okF D ht ro set much (c : Int) (e : Int) = true
        · rw [if_pos qo] at v1
          have y52 : h38 35 52 = (c : Int) := by rw [v2 _ _ (by unfold SN; clear e2 k1 stay z52 v1; omega)]; exact z52
          have y53 : h38 35 53 = (e : Int) := by rw [v2 _ _ (by unfold SN; clear e2 k1 stay z52 v1 y52; omega)]; exact st_self
          exact w_f (by rw [v1]; decide) (wp_some.mpr ⟨e, ⟨by clear e2 k1 stay z52 v1 y52 y53; omega, hecl, q, p, qo⟩, e2, rfl, y52, y53, s8.tr (SN_fr v2)⟩)
        · rw [if_neg qo] at v1
          exact w_t v1 (wp_some.mpr ⟨rfl, stay (fun z => qo z.2.2.2.2), s8.tr (SN_fr v2)⟩)
      · rw [if_neg p]
        exact w_t rfl (wp_some.mpr ⟨rfl, stay (fun z => p z.2.2.2.1), s8⟩)
    · rw [if_neg q]
      exact w_t rfl (wp_some.mpr ⟨fun e' z => q z.2.2.1, e4⟩)
  · rintro ⟨x, hh⟩ ⟨e1, e2, e4⟩
    dsimp only at e1 e2 e4 ⊢
    subst e1
    unfold fX6_firsFor_l66
    rw [m_cells W (H.sfr e4).1, wp_bp, wp_some]
    refine w_t (by clear e2; omega) (wp_some.mpr ⟨fun e z => ?_, e4⟩)
    exact e2 e (by have := z.2.1; clear e2 z; omega) z
