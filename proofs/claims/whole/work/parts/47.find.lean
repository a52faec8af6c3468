/-! pure part: the first that .., rows looked through -/
def fi (p : Nat → Bool) : Nat → Int
  | 0 => -1
  | n + 1 => if fi p n = -1 then (if p n = true then (n : Int) else -1) else fi p n
theorem fi_no {p : Nat → Bool} : ∀ {n : Nat}, fi p n = -1 ↔ ∀ i, i < n → p i = false
  | 0 => ⟨fun _ i hi => absurd hi (by omega), fun _ => rfl⟩
  | n + 1 => by
    have ih := fi_no (p := p) (n := n)
    unfold fi
    constructor
    · intro h i hi
      by_cases h1 : fi p n = -1
      · rw [if_pos h1] at h
        by_cases h2 : p n = true
        · rw [if_pos h2] at h; omega
        · by_cases e : i = n
          · subst e; simpa using h2
          · exact ih.mp h1 i (by omega)
      · rw [if_neg h1] at h; exact absurd h h1
    · intro h
      have h1 := ih.mpr (fun i hi => h i (by omega))
      rw [if_pos h1, if_neg (by rw [h n (by omega)]; decide)]
theorem fi_yes {p : Nat → Bool} : ∀ {n : Nat}, fi p n ≠ -1 → ∃ i, i < n ∧ fi p n = (i : Int) ∧ p i = true ∧ ∀ j, j < i → p j = false
  | 0, h => absurd rfl h
  | n + 1, h => by
    have ih := fi_yes (p := p) (n := n)
    unfold fi at h ⊢
    by_cases h1 : fi p n = -1
    · rw [if_pos h1] at h ⊢
      by_cases h2 : p n = true
      · rw [if_pos h2]
        exact ⟨n, by omega, rfl, h2, fi_no.mp h1⟩
      · rw [if_neg h2] at h; exact absurd rfl h
    · rw [if_neg h1]
      obtain ⟨i, a, b, c, d⟩ := ih h1
      exact ⟨i, by omega, b, c, d⟩
theorem fi_at {p : Nat → Bool} {n i : Nat} (hi : i < n) (h : p i = true) (hj : ∀ j, j < i → p j = false) : fi p n = (i : Int) := by
  have h1 : fi p n ≠ -1 := fun q => by have := fi_no.mp q i hi; rw [h] at this; cases this
  obtain ⟨k, a, b, c, d⟩ := fi_yes h1
  rw [b]
  rcases Nat.lt_trichotomy k i with g | g | g
  · have := hj k g; rw [c] at this; cases this
  · rw [g]
  · have := d i g; rw [h] at this; cases this
theorem fi_congr {p q : Nat → Bool} : ∀ {n : Nat}, (∀ i, i < n → p i = q i) → fi p n = fi q n
  | 0, _ => rfl
  | n + 1, h => by
    unfold fi
    rw [fi_congr (n := n) (fun i hi => h i (by omega)), h n (by omega)]
theorem fi_rg {p : Nat → Bool} {n : Nat} : -1 ≤ fi p n ∧ fi p n < (n : Int) := by
  by_cases h : fi p n = -1
  · omega
  · obtain ⟨i, a, b, -⟩ := fi_yes h
    omega
def tIn (ro : Nat → Int) (c : Int) : Int := fi (fun t => decide (ro t = c)) 12
def hIn (D : LD) (c : Int) : Int := fi (fun i => decide ((D.hc i : Int) = c)) D.nh
theorem c_treeIn_21 {c : Int} {h : Hp} : fX5_treeIn_21 c h = some (tIn (h 21) c) := by
  have key : wp (it_ (fun s => fX5_treeIn_21_l2 c s h) FU (0 : Int)) (fun e => E2 (fun _ => tIn (h 21) c = -1) (fun v : Int => v = tIn (h 21) c) e) := by
    refine wp_for (fun k s => s = (k : Int) ∧ ∀ j, j < k → decide (h 21 j = c) = false) 12 ?_ ?_ (FU_big (by decide)) ⟨rfl, fun j hj => absurd hj (by omega)⟩
    · rintro k s hk ⟨rfl, hj⟩
      unfold fX5_treeIn_21_l2
      simp only [wp_ite, wp_gd, wp_some, E2_l, E2_r, i0 (show k < 4000 by omega), Int.toNat_natCast]
      refine ⟨fun q => absurd q (by omega), fun _ => ⟨⟨by omega, by omega⟩, fun q => (fi_at hk (by simp [q]) hj).symm, fun q => ⟨i1 (by omega), fun j hj' => ?_⟩⟩⟩
      by_cases e : j = k
      · subst e; simp [q]
      · exact hj j (by omega)
    · rintro s ⟨rfl, hj⟩
      unfold fX5_treeIn_21_l2
      simp only [wp_ite, wp_some, E2_l, E2_r]
      exact ⟨fun _ => fi_no.mpr hj, fun q => absurd (by decide) q⟩
  obtain ⟨e, e1, e2⟩ := key
  unfold fX5_treeIn_21
  rw [e1]
  cases e with
  | inl u => exact congrArg some e2.symm
  | inr v => exact congrArg some e2
theorem c_treeIn_27 {c : Int} {h : Hp} : fX5_treeIn_27 c h = some (tIn (h 27) c) := by
  have key : wp (it_ (fun s => fX5_treeIn_27_l2 c s h) FU (0 : Int)) (fun e => E2 (fun _ => tIn (h 27) c = -1) (fun v : Int => v = tIn (h 27) c) e) := by
    refine wp_for (fun k s => s = (k : Int) ∧ ∀ j, j < k → decide (h 27 j = c) = false) 12 ?_ ?_ (FU_big (by decide)) ⟨rfl, fun j hj => absurd hj (by omega)⟩
    · rintro k s hk ⟨rfl, hj⟩
      unfold fX5_treeIn_27_l2
      simp only [wp_ite, wp_gd, wp_some, E2_l, E2_r, i0 (show k < 4000 by omega), Int.toNat_natCast]
      refine ⟨fun q => absurd q (by omega), fun _ => ⟨⟨by omega, by omega⟩, fun q => (fi_at hk (by simp [q]) hj).symm, fun q => ⟨i1 (by omega), fun j hj' => ?_⟩⟩⟩
      by_cases e : j = k
      · subst e; simp [q]
      · exact hj j (by omega)
    · rintro s ⟨rfl, hj⟩
      unfold fX5_treeIn_27_l2
      simp only [wp_ite, wp_some, E2_l, E2_r]
      exact ⟨fun _ => fi_no.mpr hj, fun q => absurd (by decide) q⟩
  obtain ⟨e, e1, e2⟩ := key
  unfold fX5_treeIn_27
  rw [e1]
  cases e with
  | inl u => exact congrArg some e2.symm
  | inr v => exact congrArg some e2
theorem m_treeIn {c : Int} {h : Hp} : fX6_treeIn c h = some (tIn (h 54) c) := by
  have key : wp (it_ (fun s => fX6_treeIn_l2 c s h) FU (0 : Int)) (fun e => E2 (fun _ => tIn (h 54) c = -1) (fun v : Int => v = tIn (h 54) c) e) := by
    refine wp_for (fun k s => s = (k : Int) ∧ ∀ j, j < k → decide (h 54 j = c) = false) 12 ?_ ?_ (FU_big (by decide)) ⟨rfl, fun j hj => absurd hj (by omega)⟩
    · rintro k s hk ⟨rfl, hj⟩
      unfold fX6_treeIn_l2
      simp only [wp_ite, wp_gd, wp_some, E2_l, E2_r, i0 (show k < 4000 by omega), Int.toNat_natCast]
      refine ⟨fun q => absurd q (by omega), fun _ => ⟨⟨by omega, by omega⟩, fun q => (fi_at hk (by simp [q]) hj).symm, fun q => ⟨i1 (by omega), fun j hj' => ?_⟩⟩⟩
      by_cases e : j = k
      · subst e; simp [q]
      · exact hj j (by omega)
    · rintro s ⟨rfl, hj⟩
      unfold fX6_treeIn_l2
      simp only [wp_ite, wp_some, E2_l, E2_r]
      exact ⟨fun _ => fi_no.mpr hj, fun q => absurd (by decide) q⟩
  obtain ⟨e, e1, e2⟩ := key
  unfold fX6_treeIn
  rw [e1]
  cases e with
  | inl u => exact congrArg some e2.symm
  | inr v => exact congrArg some e2
theorem c_houseIn {D : LD} {L : Nat} {c : Int} {h : Hp} (W : DW D) (hL : L = 1 ∨ L = 9) (H : CL D L h) : fX1_houseIn (L : Int) c h = some (hIn D c) := by
  have hn := W.2.2.1
  have l2 : ((L : Int) + 2).toNat = L + 2 := by omega
  have key : wp (it_ (fun s => fX1_houseIn_l2 (L : Int) c s h) FU (0 : Int)) (fun e => E2 (fun _ => hIn D c = -1) (fun v : Int => v = hIn D c) e) := by
    refine wp_for (fun k s => s = (k : Int) ∧ ∀ j, j < k → decide ((D.hc j : Int) = c) = false) D.nh ?_ ?_ (FU_big (by omega)) ⟨rfl, fun j hj => absurd hj (by omega)⟩
    · rintro k s hk ⟨rfl, hj⟩
      unfold fX1_houseIn_l2
      simp only [wp_ite, wp_gd, wp_some, E2_l, E2_r, Int.toNat_natCast, l2, H.2.2.1, H.2.2.2.2.2.1 k hk]
      refine ⟨by omega, fun q => absurd q (by omega), fun _ => ⟨⟨by omega, by omega⟩, fun q => (fi_at hk (by simp [q]) hj).symm, fun q => ⟨i1 (by omega), fun j hj' => ?_⟩⟩⟩
      by_cases e : j = k
      · subst e; simp [q]
      · exact hj j (by omega)
    · rintro s ⟨rfl, hj⟩
      unfold fX1_houseIn_l2
      simp only [wp_ite, wp_gd, wp_some, E2_l, E2_r, Int.toNat_natCast, H.2.2.1]
      exact ⟨by omega, fun _ => fi_no.mpr hj, fun q => absurd (Int.le_refl _) q⟩
  obtain ⟨e, e1, e2⟩ := key
  unfold fX1_houseIn
  rw [e1]
  cases e with
  | inl u => exact congrArg some e2.symm
  | inr v => exact congrArg some e2
/-! the model's land -/
def MC (f : Nat → Int) : Nat → List Int → Prop
  | p, [] => p < 2800 ∧ f p = 0
  | p, c :: r => if 100 ≤ c then p + 1 < 2800 ∧ f p = 1 ∧ f (p + 1) = c - 100 ∧ MC f (p + 2) r else if 20 ≤ c then p + 1 < 2800 ∧ f p = 2 ∧ f (p + 1) = c - 20 ∧ MC f (p + 2) r
    else p < 2800 ∧ f p = (if c = 1 then 5 else if c = 2 then 4 else if c = 3 then 3 else c + 2) ∧ MC f (p + 1) r
def ML (D : LD) (h : Hp) : Prop := h 35 1 = D.w ∧ h 35 2 = D.d ∧ h 35 3 = D.nh ∧ h 35 4 = D.nl ∧ h 35 5 = D.nf ∧ (∀ i, i < D.nh → h 37 i = D.hc i) ∧ (∀ i, i < D.nh → h 38 i = D.kd i) ∧ (∀ i, i < D.nf → h 39 i = D.fg i) ∧ ∀ l, l < D.nl → ∃ p : Nat, h 40 l = p ∧ MC (h 41) p (D.cd l)
theorem m_houseIn {D : LD} {c : Int} {h : Hp} (W : DW D) (H : ML D h) : fX6_houseIn c h = some (hIn D c) := by
  have hn := W.2.2.1
  have key : wp (it_ (fun s => fX6_houseIn_l2 c s h) FU (0 : Int)) (fun e => E2 (fun _ => hIn D c = -1) (fun v : Int => v = hIn D c) e) := by
    refine wp_for (fun k s => s = (k : Int) ∧ ∀ j, j < k → decide ((D.hc j : Int) = c) = false) D.nh ?_ ?_ (FU_big (by omega)) ⟨rfl, fun j hj => absurd hj (by omega)⟩
    · rintro k s hk ⟨rfl, hj⟩
      unfold fX6_houseIn_l2
      simp only [wp_ite, wp_gd, wp_some, E2_l, E2_r, Int.toNat_natCast, H.2.2.1, H.2.2.2.2.2.1 k hk]
      refine ⟨fun q => absurd q (by omega), fun _ => ⟨⟨by omega, by omega⟩, fun q => (fi_at hk (by simp [q]) hj).symm, fun q => ⟨i1 (by omega), fun j hj' => ?_⟩⟩⟩
      by_cases e : j = k
      · subst e; simp [q]
      · exact hj j (by omega)
    · rintro s ⟨rfl, hj⟩
      unfold fX6_houseIn_l2
      simp only [wp_ite, wp_some, E2_l, E2_r, H.2.2.1]
      exact ⟨fun _ => fi_no.mpr hj, fun q => absurd (Int.le_refl _) q⟩
  obtain ⟨e, e1, e2⟩ := key
  unfold fX6_houseIn
  rw [e1]
  cases e with
  | inl u => exact congrArg some e2.symm
  | inr v => exact congrArg some e2
