/-! pure part: a small logic of functional forms -/
def wp {α : Type} (x : Option α) (Q : α → Prop) : Prop := ∃ a, x = some a ∧ Q a
theorem wp.mono {α : Type} {x : Option α} {P Q : α → Prop} (h : wp x P) (k : ∀ a, P a → Q a) : wp x Q := by
  obtain ⟨a, e, p⟩ := h
  exact ⟨a, e, k a p⟩
theorem wp_some {α : Type} {a : α} {Q : α → Prop} : wp (some a) Q ↔ Q a := by
  constructor
  · rintro ⟨b, e, q⟩
    cases e
    exact q
  · intro q
    exact ⟨a, rfl, q⟩
theorem wp_gd {α : Type} {c : Prop} [Decidable c] {x : Option α} {Q : α → Prop} : wp (gd_ c x) Q ↔ c ∧ wp x Q := by
  unfold gd_
  by_cases hc : c
  · rw [if_pos hc]
    exact ⟨fun h => ⟨hc, h⟩, fun h => h.2⟩
  · rw [if_neg hc]
    constructor
    · rintro ⟨a, e, -⟩
      cases e
    · intro h
      exact absurd h.1 hc
theorem wp_lb {α β : Type} {a : α} {f : α → Option β} {Q : β → Prop} : wp (lb_ a f) Q ↔ wp (f a) Q := Iff.rfl
theorem wp_lbx {α β : Type} {a : α} {f : α → Option β} {Q : β → Prop} (h : ∀ v, v = a → wp (f v) Q) : wp (lb_ a f) Q := h a rfl
theorem wp_bd {β : Type} {x : Option (Int × Hp)} {f : Int → Hp → Option β} {Q : β → Prop} : wp (bd_ x f) Q ↔ wp x (fun r => wp (f r.1 r.2) Q) := by
  cases x with
  | none =>
    constructor
    · rintro ⟨a, e, -⟩
      cases e
    · rintro ⟨a, e, -⟩
      cases e
  | some r => exact (wp_some (a := r) (Q := fun r => wp (f r.1 r.2) Q)).symm
theorem wp_bp {α β : Type} {x : Option α} {f : α → Option β} {Q : β → Prop} : wp (bp_ x f) Q ↔ wp x (fun r => wp (f r) Q) := by
  cases x with
  | none =>
    constructor
    · rintro ⟨a, e, -⟩
      cases e
    · rintro ⟨a, e, -⟩
      cases e
  | some r => exact (wp_some (a := r) (Q := fun r => wp (f r) Q)).symm
theorem wp_ite {α : Type} {c : Prop} [Decidable c] {x y : Option α} {Q : α → Prop} : wp (if c then x else y) Q ↔ (c → wp x Q) ∧ (¬ c → wp y Q) := by
  by_cases hc : c
  · rw [if_pos hc]
    exact ⟨fun h => ⟨fun _ => h, fun n => absurd hc n⟩, fun h => h.1 hc⟩
  · rw [if_neg hc]
    exact ⟨fun h => ⟨fun n => absurd n hc, fun _ => h⟩, fun h => h.2 hc⟩
theorem wp_bx {x : Option RX} {f : Int → Hp → Option RX} {Q : RX → Prop} : wp (bx_ x f) Q ↔ wp x (fun r => match r with
  | .inl q => wp (f q.1 q.2) Q
  | .inr e => Q (.inr e)) := by
  cases x with
  | none =>
    constructor
    · rintro ⟨a, e, -⟩
      cases e
    · rintro ⟨a, e, -⟩
      cases e
  | some r =>
    rw [wp_some]
    cases r with
    | inl q => exact Iff.rfl
    | inr e => exact wp_some
theorem wp_mi {x : Option (Int × Hp)} {Q : RX → Prop} : wp (mi_ x) Q ↔ wp x (fun r => Q (.inl r)) := by
  cases x with
  | none =>
    constructor
    · rintro ⟨a, e, -⟩
      cases e
    · rintro ⟨a, e, -⟩
      cases e
  | some r => exact (wp_some (a := (Sum.inl r : RX))).trans (wp_some (a := r) (Q := fun r => Q (.inl r))).symm
theorem wp_mp {x : Option Int} {h : Hp} {Q : RX → Prop} : wp (mp_ x h) Q ↔ wp x (fun r => Q (.inl (r, h))) := by
  cases x with
  | none =>
    constructor
    · rintro ⟨a, e, -⟩
      cases e
    · rintro ⟨a, e, -⟩
      cases e
  | some r => exact (wp_some (a := (Sum.inl (r, h) : RX))).trans (wp_some (a := r) (Q := fun r => Q (.inl (r, h)))).symm
/-! loops -/
def E2 {σ ρ : Type} (P : σ → Prop) (Q : ρ → Prop) : σ ⊕ ρ → Prop
  | .inl s => P s
  | .inr r => Q r
theorem E2_l {σ ρ : Type} {P : σ → Prop} {Q : ρ → Prop} {s : σ} : E2 P Q (.inl s) ↔ P s := Iff.rfl
theorem E2_r {σ ρ : Type} {P : σ → Prop} {Q : ρ → Prop} {r : ρ} : E2 P Q (.inr r) ↔ Q r := Iff.rfl
theorem wp_while {σ ρ : Type} {body : σ → Option (σ ⊕ ρ)} {Q : ρ → Prop} (I : σ → Prop) (μ : σ → Nat) (hs : ∀ s, I s → wp (body s) (E2 (fun s' => I s' ∧ μ s' < μ s) Q)) : ∀ (f : Nat) (s : σ), I s → μ s < f → wp (it_ body f s) Q := by
  intro f
  induction f with
  | zero => intro s _ h; omega
  | succ f ih =>
    intro s hI hf
    obtain ⟨e, he, hq⟩ := hs s hI
    unfold it_
    rw [he]
    cases e with
    | inl s' => exact ih s' hq.1 (by have := hq.2; omega)
    | inr r => exact ⟨r, rfl, hq⟩
theorem wp_for {σ ρ : Type} {body : σ → Option (σ ⊕ ρ)} {Q : ρ → Prop} (I : Nat → σ → Prop) (N : Nat) (hs : ∀ k s, k < N → I k s → wp (body s) (E2 (I (k + 1)) Q)) (he : ∀ s, I N s → wp (body s) (E2 (fun _ => False) Q)) {f : Nat} (hf : N < f) {s : σ} (h0 : I 0 s) : wp (it_ body f s) Q := by
  have key : ∀ m k f s, k + m = N → m < f → I k s → wp (it_ body f s) Q := by
    intro m
    induction m with
    | zero =>
      intro k f s hk hf hI
      obtain ⟨f, rfl⟩ : ∃ f', f = f' + 1 := ⟨f - 1, by omega⟩
      have : k = N := by omega
      subst this
      obtain ⟨e, e1, e2⟩ := he s hI
      unfold it_
      rw [e1]
      cases e with
      | inl s' => exact e2.elim
      | inr r => exact ⟨r, rfl, e2⟩
    | succ m ih =>
      intro k f s hk hf hI
      obtain ⟨f, rfl⟩ : ∃ f', f = f' + 1 := ⟨f - 1, by omega⟩
      obtain ⟨e, e1, e2⟩ := hs k s (by omega) hI
      unfold it_
      rw [e1]
      cases e with
      | inl s' => exact ih (k + 1) f s' (by omega) (by omega) e2
      | inr r => exact ⟨r, rfl, e2⟩
  exact key N 0 f s (by omega) hf h0
/-! what a heap keeps -/
def Same (P : Nat → Nat → Prop) (h h' : Hp) : Prop := ∀ a k, ¬ P a k → h' a k = h a k
theorem Same.rf {P : Nat → Nat → Prop} {h : Hp} : Same P h h := fun _ _ _ => rfl
theorem Same.tr {P : Nat → Nat → Prop} {h h1 h2 : Hp} (a : Same P h h1) (b : Same P h1 h2) : Same P h h2 := fun x k n => (b x k n).trans (a x k n)
theorem Same.mono {P Q : Nat → Nat → Prop} {h h' : Hp} (a : Same P h h') (q : ∀ x k, P x k → Q x k) : Same Q h h' := fun x k n => a x k (fun p => n (q x k p))
theorem st_same {P : Nat → Nat → Prop} {h : Hp} {a k : Nat} {v : Int} (p : P a k) : Same P h (st h a k v) := by
  intro x j n
  unfold st
  rw [if_neg]
  rintro ⟨rfl, rfl⟩
  exact n p
theorem Same.st {P : Nat → Nat → Prop} {h h' : Hp} {a k : Nat} {v : Int} (s : Same P h h') (p : P a k) : Same P h (st h' a k v) := s.tr (st_same p)
theorem cpy_same {P : Nat → Nat → Prop} {h : Hp} {a0 a1 sp dp len : Nat} (p : ∀ k, dp ≤ k → k < dp + len → P a1 k) : Same P h (cpy h a0 a1 sp dp len) := by
  intro x j n
  unfold cpy
  rw [if_neg]
  rintro ⟨rfl, h1, h2⟩
  exact n (p j h1 h2)
theorem st_at {h : Hp} {a k : Nat} {v : Int} {a' k' : Nat} : st h a k v a' k' = if a' = a ∧ k' = k then v else h a' k' := rfl
theorem st_self {h : Hp} {a k : Nat} {v : Int} : st h a k v a k = v := if_pos ⟨rfl, rfl⟩
theorem st_na {h : Hp} {a k : Nat} {v : Int} {a' k' : Nat} (n : a' ≠ a) : st h a k v a' k' = h a' k' := if_neg (fun q => n q.1)
theorem st_nk {h : Hp} {a k : Nat} {v : Int} {a' k' : Nat} (n : k' ≠ k) : st h a k v a' k' = h a' k' := if_neg (fun q => n q.2)
/-! numbers -/
theorem isb {a b : Int} (h1 : -2147483648 ≤ a - b) (h2 : a - b ≤ 2147483647) : i_sub a b = a - b := i_sub_eq ⟨h1, h2⟩
theorem i0 {k : Nat} (h : k < 4000) : i_add 0 (k : Int) = k := by rw [ia (by omega) (by omega)]; omega
theorem ik {c k : Nat} (h : k < 4000) (hc : c < 4000) : i_add (c : Int) (k : Int) = ((c + k : Nat) : Int) := by rw [ia (by omega) (by omega)]; omega
theorem i1 {k : Nat} (h : k < 4000) : i_add (k : Int) 1 = ((k + 1 : Nat) : Int) := by rw [ia (by omega) (by omega)]; omega
theorem in_add (a b : Int) : in32 (i_add a b) := i32_rng _
theorem in_sub (a b : Int) : in32 (i_sub a b) := i32_rng _
theorem in_mul (a b : Int) : in32 (i_mul a b) := i32_rng _
theorem in_or (a b : Int) : in32 (i_or a b) := i32_rng _
theorem in_shl (a b : Int) : in32 (i_shl a b) := i32_rng _
