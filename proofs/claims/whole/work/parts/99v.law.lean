/-! pure part: how a law is read -/
def rkO (c : Int) : Int := if c = 1 then 1 else if c = 2 then 2 else if c = 3 then 3 else if c = 4 then 4 else if c = 5 then 4 else if c = 6 then 5 else if c = 7 then 5 else if c = 8 then 6 else if c = 9 then 6 else 0
/-- what waits is settled; the last that waits stands first -/
def stl (r : Int) : List Int → List Int → List Int × List Int
  | [], C => ([], C)
  | o :: W, C => if rkO o < r then (o :: W, C) else stl r W (C ++ [o])
def opS (b : Nat → Int) (n p : Nat) : Int := if tkK b n p = 42 then 8 else if tkK b n p = 43 then 6 else if tkK b n p = 45 then 7 else if tkK b n p = 47 then 9 else if tkK b n p = 60 then 4 else if tkK b n p = 61 then 5 else if kwN b n p = 15 then 1 else if kwN b n p = 14 then 2 else -1
def vaS (b : Nat → Int) (n p : Nat) : Int := if 0 ≤ kwN b n p ∧ kwN b n p ≤ 6 then 20 + kwN b n p else -1
abbrev LwS : Type := Flw × Nat × Nat × Nat × Nat × List Int × List Int
/-- flaw, what stands next, how deep, what waits, the code -/
def partS (b : Nat → Int) (n nx p win nots : Nat) (W C : List Int) : Flw × Nat × Nat × List Int × List Int :=
  if ¬ (tkK b n p = 2 ∨ tkK b n p = 1 ∨ tkK b n p = 40) then (some (1, tkS b n p), 4, win, W, C)
  else if (nx = 0 ∧ 6 ≤ win) ∨ (6 < nots ∧ nx ≠ 2) then (some (2, tkS b n p), 4, win, W, C)
  else if tkK b n p = 40 then (none, 0, win + 1, 0 :: W, C)
  else if tkK b n p = 2 then ((nmS b n none 0 9999 p).1, 3, win, W, C ++ [100 + (nmS b n none 0 9999 p).2])
  else if 0 < nots ∧ nx ≠ 2 then (none, 1, win, 3 :: W, C)
  else if vaS b n p = -1 then (some (3, tkS b n p), 4, win, W, C) else (none, 3, win, W, C ++ [vaS b n p])
def tpW (W : List Int) : Int := W.headD 0
def behS (b : Nat → Int) (n p win : Nat) (W C : List Int) : Flw × Nat × Nat × List Int × List Int :=
  if tkK b n p = 41 ∧ 0 < win then (none, 3, win - 1, (stl 1 W C).1.tail, (stl 1 W C).2)
  else if tkK b n p = 59 ∧ win = 0 then (none, 4, win, (stl 1 W C).1, (stl 1 W C).2)
  else if opS b n p = -1 then (some (1, tkS b n p), 4, win, W, C)
  else
    let s := stl (if rkO (opS b n p) = 4 then 5 else rkO (opS b n p)) W C
    (if rkO (opS b n p) = 4 ∧ rkO (tpW s.1) = 4 then some (1, tkS b n p) else none, if opS b n p = 1 ∨ opS b n p = 2 then 1 else 2, win, opS b n p :: s.1, s.2)
def lwN (b : Nat → Int) (n p nots : Nat) : Nat := if kwN b n p = 16 then nots + 1 else 0
def lawStep (b : Nat → Int) (n : Nat) (S : LwS) : LwS :=
  let r := if S.2.1 = 3 then behS b n S.2.2.1 S.2.2.2.1 S.2.2.2.2.2.1 S.2.2.2.2.2.2 else partS b n S.2.1 S.2.2.1 S.2.2.2.1 (lwN b n S.2.2.1 S.2.2.2.2.1) S.2.2.2.2.2.1 S.2.2.2.2.2.2
  (r.1, r.2.1, tkE b n S.2.2.1, r.2.2.1, lwN b n S.2.2.1 S.2.2.2.2.1, r.2.2.2.1, r.2.2.2.2)
def liveL (S : LwS) : Prop := S.1 = none ∧ S.2.1 ≠ 4
def lawN (b : Nat → Int) (n : Nat) (S : LwS) : Nat → LwS
  | 0 => S
  | k + 1 => lawStep b n (lawN b n S k)
def RcL (b : Nat → Int) (n : Nat) (S S' : LwS) : Prop := ∃ k, lawN b n S k = S' ∧ ∀ j, j < k → liveL (lawN b n S j)
def OutL (b : Nat → Int) (n : Nat) (S S' : LwS) : Prop := RcL b n S S' ∧ ¬ liveL S'
theorem RcL_0 {b : Nat → Int} {n : Nat} {S : LwS} : RcL b n S S := ⟨0, rfl, fun j hj => absurd hj (Nat.not_lt_zero j)⟩
theorem RcL_s {b : Nat → Int} {n : Nat} {S S' : LwS} (h : RcL b n S S') (l : liveL S') : RcL b n S (lawStep b n S') := by
  obtain ⟨k, e, hj⟩ := h
  refine ⟨k + 1, by show lawStep b n (lawN b n S k) = _; rw [e], fun j h => ?_⟩
  by_cases q : j = k
  · rw [q, e]; exact l
  · exact hj j (by omega)
theorem OutL_det {b : Nat → Int} {n : Nat} {S A B : LwS} (h1 : OutL b n S A) (h2 : OutL b n S B) : A = B := by
  obtain ⟨⟨k, e, hj⟩, l⟩ := h1
  obtain ⟨⟨m, f, hm⟩, l'⟩ := h2
  rcases Nat.lt_trichotomy k m with q | q | q
  · exact absurd (by rw [← e]; exact hm k q) l
  · rw [← e, ← f, q]
  · exact absurd (by rw [← f]; exact hj m q) l'
/-! what holds of it -/
def tnW : List Int → Nat
  | [] => 0
  | o :: U => if o = 3 then tnW U + 1 else 0
def opn : List Int → Nat
  | [] => 0
  | o :: U => (if o = 0 then 1 else 0) + opn U
def boW : List Int → Nat
  | [] => 0
  | o :: U => (if o = 0 ∨ o = 3 then 0 else 1) + boW U
def stW : List Int → Prop
  | [] => True
  | o :: U => (0 ≤ o ∧ o ≤ 9) ∧ (o = 0 ∨ tpW U = 0 ∨ rkO (tpW U) < rkO o ∨ (o = 3 ∧ tpW U = 3)) ∧ tnW (o :: U) ≤ 6 ∧ stW U
theorem o9 {o : Int} (h : 0 ≤ o ∧ o ≤ 9) : o = 0 ∨ o = 1 ∨ o = 2 ∨ o = 3 ∨ o = 4 ∨ o = 5 ∨ o = 6 ∨ o = 7 ∨ o = 8 ∨ o = 9 := by omega
theorem rkO_rg {o : Int} : 0 ≤ rkO o ∧ rkO o ≤ 6 := by
  unfold rkO
  repeat' split
  all_goals exact ⟨by decide, by decide⟩
theorem rkO_0 {o : Int} (h : 0 ≤ o ∧ o ≤ 9) : rkO o < 1 ↔ o = 0 := by
  rcases o9 h with e | e | e | e | e | e | e | e | e | e <;> rw [e] <;> decide
theorem rkO_3 {o : Int} (h : 0 ≤ o ∧ o ≤ 9) : rkO o = 3 ↔ o = 3 := by
  rcases o9 h with e | e | e | e | e | e | e | e | e | e <;> rw [e] <;> decide
def gW (W : List Int) : Nat := if rkO (tpW W) = 3 then 2 + tnW W else if rkO (tpW W) < 3 then (rkO (tpW W)).toNat else (rkO (tpW W)).toNat + 5
def kW (W : List Int) : Nat := if rkO (tpW W) < 3 then (rkO (tpW W)).toNat else (rkO (tpW W)).toNat - 1
theorem stW_tp : ∀ {W : List Int}, stW W → 0 ≤ tpW W ∧ tpW W ≤ 9
  | [], _ => ⟨Int.le_refl _, by decide⟩
  | _ :: _, h => h.1
theorem stW_tn : ∀ {W : List Int}, stW W → tnW W ≤ 6
  | [], _ => Nat.zero_le _
  | _ :: _, h => h.2.2.1
theorem stW_b : ∀ {W : List Int}, stW W → W.length ≤ 12 * opn W + gW W ∧ boW W ≤ 5 * opn W + kW W
  | [], _ => ⟨Nat.zero_le _, Nat.zero_le _⟩
  | o :: U, h => by
    obtain ⟨h1, h2, h3, h4⟩ := h
    obtain ⟨b1, b2⟩ := stW_b h4
    have hu := stW_tp h4
    have tn := stW_tn h4
    have ru := rkO_rg (o := tpW U)
    have r3 := rkO_3 hu
    have gU : gW U ≤ 11 ∧ kW U ≤ 5 := by
      unfold gW kW
      constructor
      · split
        · omega
        · split <;> omega
      · split <;> omega
    show U.length + 1 ≤ 12 * ((if o = 0 then 1 else 0) + opn U) + gW (o :: U) ∧ (if o = 0 ∨ o = 3 then 0 else 1) + boW U ≤ 5 * ((if o = 0 then 1 else 0) + opn U) + kW (o :: U)
    by_cases q0 : o = 0
    · subst q0
      rw [if_pos rfl, if_pos (Or.inl rfl)]
      omega
    · rw [if_neg q0]
      have tO : tpW (o :: U) = o := rfl
      -- the one beneath
      have key : o ≠ 3 → rkO (tpW U) < rkO o := by
        intro n3
        rcases h2 with z | z | z | z
        · exact absurd z q0
        · rw [z]
          rcases o9 h1 with e | e | e | e | e | e | e | e | e | e
          · exact absurd e q0
          all_goals rw [e]; decide
        · exact z
        · exact absurd z.1 n3
      by_cases q3 : o = 3
      · subst q3
        rw [if_pos (Or.inr rfl)]
        have e1 : gW (3 :: U) = 2 + (tnW U + 1) := rfl
        have e2 : kW (3 :: U) = 2 := rfl
        rw [e1, e2]
        rcases h2 with z | z | z | z
        · exact absurd z (by decide)
        · have g0 : gW U = 0 ∧ kW U = 0 := by unfold gW kW; rw [z]; exact ⟨rfl, rfl⟩
          omega
        · have z' : rkO (tpW U) < 3 := z
          have g0 : gW U ≤ 2 ∧ kW U ≤ 2 := by
            unfold gW kW
            rw [if_neg (by omega), if_pos z', if_pos z']
            omega
          omega
        · have g0 : gW U = 2 + tnW U ∧ kW U = 2 := by unfold gW kW; rw [z.2]; exact ⟨rfl, rfl⟩
          omega
      · rw [if_neg (fun z => z.elim q0 q3)]
        have k := key q3
        have ro : rkO o ≠ 3 := fun z => q3 ((rkO_3 h1).mp z)
        have g0 : gW U + 1 ≤ gW (o :: U) ∧ kW U + 1 ≤ kW (o :: U) := by
          unfold gW kW
          rw [tO, if_neg ro]
          constructor
          · split
            · rw [if_neg (by omega)]; omega
            · split
              · split <;> omega
              · rw [if_neg (by omega)]; omega
          · split
            · split <;> omega
            · rw [if_neg (by omega)]; omega
        omega
theorem stW_83 {W : List Int} (h : stW W) (ho : opn W ≤ 6) : W.length ≤ 83 ∧ boW W ≤ 35 := by
  have b := stW_b h
  have ru := rkO_rg (o := tpW W)
  have tn := stW_tn h
  have gU : gW W ≤ 11 ∧ kW W ≤ 5 := by
    unfold gW kW
    constructor
    · split
      · omega
      · split <;> omega
    · split <;> omega
  omega
/-- the code runs from so many to so many -/
def wfR : List Int → Nat → Nat → Prop
  | [], n, m => n = m
  | c :: r, n, m => if 100 ≤ c then c ≤ 10099 ∧ n < 60 ∧ wfR r (n + 1) m else if 20 ≤ c then c ≤ 26 ∧ n < 60 ∧ wfR r (n + 1) m
    else if c = 3 then 1 ≤ n ∧ wfR r n m else (c = 1 ∨ c = 2 ∨ c = 4 ∨ c = 5 ∨ c = 6 ∨ c = 7 ∨ c = 8 ∨ c = 9) ∧ 2 ≤ n ∧ wfR r (n - 1) m
theorem wfR_C : ∀ (C : List Int) (n : Nat), wfR C n 1 → wfC C n
  | [], n, h => h
  | c :: r, n, h => by
    unfold wfR at h
    unfold wfC
    by_cases q : 100 ≤ c
    · rw [if_pos q] at h ⊢; exact ⟨h.1, h.2.1, wfR_C r _ h.2.2⟩
    · rw [if_neg q] at h ⊢
      by_cases q2 : 20 ≤ c
      · rw [if_pos q2] at h ⊢; exact ⟨h.1, h.2.1, wfR_C r _ h.2.2⟩
      · rw [if_neg q2] at h ⊢
        by_cases q3 : c = 3
        · rw [if_pos q3] at h ⊢; exact ⟨h.1, wfR_C r _ h.2⟩
        · rw [if_neg q3] at h ⊢; exact ⟨h.1, h.2.1, wfR_C r _ h.2.2⟩
theorem wfR_app : ∀ (C B : List Int) (n m k : Nat), wfR C n m → wfR B m k → wfR (C ++ B) n k
  | [], B, n, m, k, h1, h2 => by
    have e : n = m := h1
    rw [e]; exact h2
  | c :: r, B, n, m, k, h1, h2 => by
    rw [List.cons_append]
    unfold wfR at h1 ⊢
    by_cases q : 100 ≤ c
    · rw [if_pos q] at h1 ⊢; exact ⟨h1.1, h1.2.1, wfR_app r B _ m k h1.2.2 h2⟩
    · rw [if_neg q] at h1 ⊢
      by_cases q2 : 20 ≤ c
      · rw [if_pos q2] at h1 ⊢; exact ⟨h1.1, h1.2.1, wfR_app r B _ m k h1.2.2 h2⟩
      · rw [if_neg q2] at h1 ⊢
        by_cases q3 : c = 3
        · rw [if_pos q3] at h1 ⊢; exact ⟨h1.1, wfR_app r B _ m k h1.2 h2⟩
        · rw [if_neg q3] at h1 ⊢; exact ⟨h1.1, h1.2.1, wfR_app r B _ m k h1.2.2 h2⟩
/-- settling keeps all that is right -/
theorem stl_ok {r : Int} (hr : 1 ≤ r) : ∀ (W C : List Int), stW W → wfR C 0 (boW W + 1) →
    stW (stl r W C).1 ∧ wfR (stl r W C).2 0 (boW (stl r W C).1 + 1) ∧ opn (stl r W C).1 = opn W ∧ (rkO (tpW (stl r W C).1) < r) ∧ (stl r W C).1.length + (stl r W C).2.length = W.length + C.length ∧ (stl r W C).1.length ≤ W.length
  | [], C, h1, h2 => by
    unfold stl
    refine ⟨h1, h2, rfl, ?_, rfl, Nat.le_refl _⟩
    show rkO 0 < r
    have : rkO 0 = 0 := rfl
    omega
  | o :: U, C, h1, h2 => by
    unfold stl
    by_cases q : rkO o < r
    · rw [if_pos q]
      exact ⟨h1, h2, rfl, q, rfl, Nat.le_refl _⟩
    · rw [if_neg q]
      have n0 : o ≠ 0 := fun z => q (by rw [z]; have : rkO 0 = 0 := rfl; omega)
      have h2' : wfR C 0 ((if o = 0 ∨ o = 3 then 0 else 1) + boW U + 1) := h2
      have w1 : wfR (C ++ [o]) 0 (boW U + 1) := by
        by_cases q3 : o = 3
        · rw [if_pos (Or.inr q3), Nat.zero_add] at h2'
          refine wfR_app C [o] 0 _ _ h2' ?_
          rw [q3]
          unfold wfR
          rw [if_neg (by decide), if_neg (by decide), if_pos rfl]
          exact ⟨by omega, rfl⟩
        · rw [if_neg (fun z => z.elim n0 q3)] at h2'
          refine wfR_app C [o] 0 _ _ h2' ?_
          have ho := h1.1
          unfold wfR
          rw [if_neg (by omega), if_neg (by omega), if_neg q3]
          refine ⟨by omega, by omega, ?_⟩
          show 1 + boW U + 1 - 1 = boW U + 1
          omega
      obtain ⟨a1, a2, a3, a4, a5, a6⟩ := stl_ok hr U (C ++ [o]) h1.2.2.2 w1
      refine ⟨a1, a2, ?_, a4, ?_, ?_⟩
      · rw [a3]
        show _ = (if o = 0 then 1 else 0) + opn U
        rw [if_neg n0]; omega
      · rw [a5, List.length_append]
        show U.length + (C.length + 1) = U.length + 1 + C.length
        omega
      · show _ ≤ U.length + 1
        omega
