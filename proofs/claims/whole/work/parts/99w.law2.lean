/-! pure part: a step of reading a law keeps what holds -/
def LIw (S : LwS) : Prop := stW S.2.2.2.2.2.1 ∧ opn S.2.2.2.2.2.1 = S.2.2.2.1 ∧ S.2.2.2.1 ≤ 6 ∧ (S.2.1 ≠ 0 → S.2.2.2.1 ≤ 5) ∧ (S.2.1 = 0 → tpW S.2.2.2.2.2.1 = 0) ∧ (S.2.1 = 1 → 1 ≤ tpW S.2.2.2.2.2.1 ∧ tpW S.2.2.2.2.2.1 ≤ 3) ∧ (S.2.1 = 2 → 4 ≤ tpW S.2.2.2.2.2.1) ∧ (S.2.1 ≠ 3 → S.2.2.2.2.1 = tnW S.2.2.2.2.2.1) ∧ (S.2.1 = 3 → S.2.2.2.2.1 = 0) ∧ wfR S.2.2.2.2.2.2 0 (if S.2.1 = 3 then boW S.2.2.2.2.2.1 + 1 else boW S.2.2.2.2.2.1) ∧ S.2.1 ≤ 3
theorem kwN_no {b : Nat → Int} {n p : Nat} (h : tkK b n p ≠ 1) : kwN b n p = -1 := fi_no.mpr (fun i _ => by unfold isKw; rw [decide_eq_false h, Bool.false_and])
theorem opS_rg {b : Nat → Int} {n p : Nat} (h : opS b n p ≠ -1) : (opS b n p = 1 ∨ opS b n p = 2 ∨ opS b n p = 4 ∨ opS b n p = 5 ∨ opS b n p = 6 ∨ opS b n p = 7 ∨ opS b n p = 8 ∨ opS b n p = 9) ∧ kwN b n p ≠ 16 ∧ tkK b n p ≠ 0 := by
  have hk : ∀ v : Int, v ≠ 1 → tkK b n p = v → kwN b n p ≠ 16 := fun v hv e z => by
    rw [kwN_no (by rw [e]; exact hv)] at z
    exact absurd z (by decide)
  unfold opS at h ⊢
  by_cases q1 : tkK b n p = 42
  · rw [if_pos q1]; exact ⟨by decide, hk 42 (by decide) q1, by rw [q1]; decide⟩
  rw [if_neg q1] at h ⊢
  by_cases q2 : tkK b n p = 43
  · rw [if_pos q2]; exact ⟨by decide, hk 43 (by decide) q2, by rw [q2]; decide⟩
  rw [if_neg q2] at h ⊢
  by_cases q3 : tkK b n p = 45
  · rw [if_pos q3]; exact ⟨by decide, hk 45 (by decide) q3, by rw [q3]; decide⟩
  rw [if_neg q3] at h ⊢
  by_cases q4 : tkK b n p = 47
  · rw [if_pos q4]; exact ⟨by decide, hk 47 (by decide) q4, by rw [q4]; decide⟩
  rw [if_neg q4] at h ⊢
  by_cases q5 : tkK b n p = 60
  · rw [if_pos q5]; exact ⟨by decide, hk 60 (by decide) q5, by rw [q5]; decide⟩
  rw [if_neg q5] at h ⊢
  by_cases q6 : tkK b n p = 61
  · rw [if_pos q6]; exact ⟨by decide, hk 61 (by decide) q6, by rw [q6]; decide⟩
  rw [if_neg q6] at h ⊢
  have k0 : kwN b n p = 15 ∨ kwN b n p = 14 → tkK b n p ≠ 0 := fun z w => by
    rw [kwN_no (by rw [w]; decide)] at z
    exact absurd z (by decide)
  by_cases q7 : kwN b n p = 15
  · rw [if_pos q7]; exact ⟨by decide, by rw [q7]; decide, k0 (Or.inl q7)⟩
  rw [if_neg q7] at h ⊢
  by_cases q8 : kwN b n p = 14
  · rw [if_pos q8]; exact ⟨by decide, by rw [q8]; decide, k0 (Or.inr q8)⟩
  rw [if_neg q8] at h
  exact absurd rfl h
theorem lwN_0 {b : Nat → Int} {n p m : Nat} (h : kwN b n p ≠ 16) : lwN b n p m = 0 := if_neg h
theorem tp_nil {W : List Int} (h : tpW W = 0) (h2 : opn W = 0) : W = [] := by
  cases W with
  | nil => rfl
  | cons o U =>
    have e : o = 0 := h
    have e2 : (if o = 0 then 1 else 0) + opn U = 0 := h2
    rw [if_pos e] at e2
    omega
theorem tp_open {W : List Int} (h : tpW W = 0) (h2 : 0 < opn W) : ∃ U, W = 0 :: U := by
  cases W with
  | nil => exact absurd h2 (by decide)
  | cons o U =>
    have e : o = 0 := h
    exact ⟨U, by rw [e]⟩
theorem part_LI {b : Nat → Int} {n nx p win nots : Nat} {W C : List Int} (hI : LIw (none, nx, p, win, nots, W, C)) (h3 : nx ≠ 3) :
    let r := partS b n nx p win (lwN b n p nots) W C
    (r.1 = none → r.2.1 ≠ 4 ∧ LIw (none, r.2.1, tkE b n p, r.2.2.1, lwN b n p nots, r.2.2.2.1, r.2.2.2.2)) ∧ r.2.2.2.1.length + r.2.2.2.2.length ≤ W.length + C.length + 1 ∧ (tkK b n p = 0 → r.1 ≠ none) := by
  obtain ⟨a1, a2, a3, a4, a5, a6, a7, a8, a9, a10, a11⟩ := hI
  dsimp only at a1 a2 a3 a4 a5 a6 a7 a8 a9 a10 a11 ⊢
  rw [if_neg h3] at a10
  have nn := a8 h3
  have sz := stW_83 a1 (by rw [a2]; exact a3)
  unfold partS
  by_cases q1 : ¬ (tkK b n p = 2 ∨ tkK b n p = 1 ∨ tkK b n p = 40)
  · rw [if_pos q1]
    exact ⟨fun z => absurd z (by simp), Nat.le_succ _, fun _ => by simp⟩
  rw [if_neg q1]
  have q1' := Classical.not_not.mp q1
  have k0 : tkK b n p ≠ 0 := by omega
  by_cases q2 : (nx = 0 ∧ 6 ≤ win) ∨ (6 < lwN b n p nots ∧ nx ≠ 2)
  · rw [if_pos q2]
    exact ⟨fun z => absurd z (by simp), Nat.le_succ _, fun z => absurd z k0⟩
  rw [if_neg q2]
  have w5 : win ≤ 5 := by
    by_cases z : nx = 0
    · by_cases y : 6 ≤ win
      · exact absurd (Or.inl ⟨z, y⟩) q2
      · omega
    · exact a4 z
  by_cases q3 : tkK b n p = 40
  · rw [if_pos q3]
    have k1 : kwN b n p ≠ 16 := by rw [kwN_no (by rw [q3]; decide)]; decide
    refine ⟨fun _ => ⟨by simp, ⟨⟨by decide, by decide⟩, Or.inl rfl, Nat.zero_le _, a1⟩, ?_, ?_, fun z => absurd rfl z, fun _ => rfl, fun z => absurd z (by simp), fun z => absurd z (by simp), fun _ => lwN_0 k1, fun z => absurd z (by simp), ?_, by simp⟩, ?_, fun z => absurd z k0⟩
    · show 1 + opn W = win + 1
      omega
    · show win + 1 ≤ 6
      omega
    · show wfR C 0 (0 + boW W)
      rw [Nat.zero_add]; exact a10
    · show W.length + 1 + C.length ≤ _
      omega
  rw [if_neg q3]
  by_cases q4 : tkK b n p = 2
  · rw [if_pos q4]
    have k1 : kwN b n p ≠ 16 := by rw [kwN_no (by rw [q4]; decide)]; decide
    have rg := nmS_rg (b := b) (n := n) (fl := none) (p := p) (show (0 : Int) ≤ 9999 by decide)
    refine ⟨fun _ => ⟨by simp, a1, a2, a3, fun _ => w5, fun z => absurd z (by simp), fun z => absurd z (by simp), fun z => absurd z (by simp), fun z => absurd rfl z, fun _ => lwN_0 k1, ?_, by simp⟩, ?_, fun z => absurd z k0⟩
    · show wfR (C ++ [100 + (nmS b n none 0 9999 p).2]) 0 (boW W + 1)
      refine wfR_app C _ 0 _ _ a10 ?_
      unfold wfR
      rw [if_pos (by omega)]
      exact ⟨by omega, by omega, rfl⟩
    · rw [List.length_append]
      show W.length + (C.length + 1) ≤ _
      omega
  rw [if_neg q4]
  by_cases q5 : 0 < lwN b n p nots ∧ nx ≠ 2
  · rw [if_pos q5]
    have k1 : kwN b n p = 16 := by
      by_cases z : kwN b n p = 16
      · exact z
      · rw [lwN_0 z] at q5; omega
    have en : lwN b n p nots = nots + 1 := if_pos k1
    have le6 : lwN b n p nots ≤ 6 := by
      by_cases z : lwN b n p nots ≤ 6
      · exact z
      · exact absurd (Or.inr ⟨by omega, q5.2⟩) q2
    have adj : tpW W = 0 ∨ rkO (tpW W) < rkO 3 ∨ ((3 : Int) = 3 ∧ tpW W = 3) := by
      by_cases z0 : nx = 0
      · exact Or.inl (a5 z0)
      · have z1 : nx = 1 := by omega
        have b6 := a6 z1
        have c3 : tpW W = 1 ∨ tpW W = 2 ∨ tpW W = 3 := by omega
        rcases c3 with e | e | e
        · rw [e]; exact Or.inr (Or.inl (by decide))
        · rw [e]; exact Or.inr (Or.inl (by decide))
        · exact Or.inr (Or.inr ⟨rfl, e⟩)
    have tn3 : tnW (3 :: W) = lwN b n p nots := by
      show (if (3 : Int) = 3 then tnW W + 1 else 0) = _
      rw [if_pos rfl, en, nn]
    refine ⟨fun _ => ⟨by simp, ⟨⟨by decide, by decide⟩, Or.inr adj, by rw [tn3]; exact le6, a1⟩, ?_, a3, fun _ => w5, fun z => absurd z (by simp), fun _ => (show (1 : Int) ≤ 3 ∧ (3 : Int) ≤ 3 by decide), fun z => absurd z (by simp), fun _ => tn3.symm, fun z => absurd z (by simp), ?_, by simp⟩, ?_, fun z => absurd z k0⟩
    · show 0 + opn W = win
      omega
    · show wfR C 0 (0 + boW W)
      rw [Nat.zero_add]; exact a10
    · show W.length + 1 + C.length ≤ _
      omega
  rw [if_neg q5]
  by_cases q6 : vaS b n p = -1
  · rw [if_pos q6]
    exact ⟨fun z => absurd z (by simp), Nat.le_succ _, fun z => absurd z k0⟩
  rw [if_neg q6]
  have kv : 0 ≤ kwN b n p ∧ kwN b n p ≤ 6 := by
    by_cases z : 0 ≤ kwN b n p ∧ kwN b n p ≤ 6
    · exact z
    · exact absurd (if_neg z) q6
  have ev : vaS b n p = 20 + kwN b n p := if_pos kv
  refine ⟨fun _ => ⟨by simp, a1, a2, a3, fun _ => w5, fun z => absurd z (by simp), fun z => absurd z (by simp), fun z => absurd z (by simp), fun z => absurd rfl z, fun _ => lwN_0 (by omega), ?_, by simp⟩, ?_, fun z => absurd z k0⟩
  · show wfR (C ++ [vaS b n p]) 0 (boW W + 1)
    refine wfR_app C _ 0 _ _ a10 ?_
    rw [ev]
    unfold wfR
    rw [if_neg (by omega), if_pos (by omega)]
    exact ⟨by omega, by omega, rfl⟩
  · rw [List.length_append]
    show W.length + (C.length + 1) ≤ _
    omega
theorem beh_LI {b : Nat → Int} {n p win nots : Nat} {W C : List Int} (hI : LIw (none, 3, p, win, nots, W, C)) :
    let r := behS b n p win W C
    (r.1 = none → r.2.1 ≠ 4 → LIw (none, r.2.1, tkE b n p, r.2.2.1, lwN b n p nots, r.2.2.2.1, r.2.2.2.2)) ∧ (r.1 = none → r.2.1 = 4 → r.2.2.2.1 = [] ∧ wfC r.2.2.2.2 0 ∧ tkK b n p = 59 ∧ win = 0) ∧ r.2.2.2.1.length + r.2.2.2.2.length ≤ W.length + C.length + 1 ∧ (tkK b n p = 0 → r.1 ≠ none) := by
  obtain ⟨a1, a2, a3, a4, a5, a6, a7, a8, a9, a10, a11⟩ := hI
  dsimp only at a1 a2 a3 a4 a5 a6 a7 a8 a9 a10 a11 ⊢
  rw [if_pos rfl] at a10
  have w5 := a4 (by simp)
  unfold behS
  obtain ⟨b1, b2, b3, b4, b5, b6⟩ := stl_ok (r := 1) (by decide) W C a1 a10
  have bt0 : tpW (stl 1 W C).1 = 0 := (rkO_0 (stW_tp b1)).mp b4
  by_cases q1 : tkK b n p = 41 ∧ 0 < win
  · rw [if_pos q1]
    have k1 : kwN b n p ≠ 16 := by rw [kwN_no (by rw [q1.1]; decide)]; decide
    obtain ⟨U, hU⟩ := tp_open bt0 (by rw [b3, a2]; exact q1.2)
    rw [hU] at b1 b2 b3 b5 b6 ⊢
    have b5' : U.length + 1 + (stl 1 W C).2.length = W.length + C.length := b5
    have b3' : 1 + opn U = opn W := b3
    refine ⟨fun _ _ => ⟨b1.2.2.2, ?_, ?_, fun _ => ?_, fun z => absurd z (by simp), fun z => absurd z (by simp), fun z => absurd z (by simp), fun z => absurd rfl z, fun _ => lwN_0 k1, ?_, by simp⟩, fun _ z => absurd z (by simp), ?_, fun z => ?_⟩
    · show opn U = win - 1
      omega
    · show win - 1 ≤ 6
      omega
    · show win - 1 ≤ 5
      omega
    · show wfR (stl 1 W C).2 0 (boW U + 1)
      have b2' : wfR (stl 1 W C).2 0 (0 + boW U + 1) := b2
      rw [Nat.zero_add] at b2'
      exact b2'
    · show U.length + (stl 1 W C).2.length ≤ _
      omega
    · rw [q1.1] at z; exact absurd z (by decide)
  rw [if_neg q1]
  by_cases q2 : tkK b n p = 59 ∧ win = 0
  · rw [if_pos q2]
    have e := tp_nil bt0 (by rw [b3, a2]; exact q2.2)
    rw [e] at b2 b5 ⊢
    refine ⟨fun _ z => absurd rfl z, fun _ _ => ⟨rfl, wfR_C _ _ b2, q2⟩, ?_, fun z => ?_⟩
    · show 0 + (stl 1 W C).2.length ≤ _
      have b5' : 0 + (stl 1 W C).2.length = W.length + C.length := b5
      omega
    · rw [q2.1] at z; exact absurd z (by decide)
  rw [if_neg q2]
  by_cases q3 : opS b n p = -1
  · rw [if_pos q3]
    exact ⟨fun z => absurd z (by simp), fun z => absurd z (by simp), Nat.le_succ _, fun _ => by simp⟩
  rw [if_neg q3]
  obtain ⟨o1, o2, o3⟩ := opS_rg q3
  generalize opS b n p = o at *
  have or1 : 1 ≤ (if rkO o = 4 then 5 else rkO o) := by
    rcases o1 with e | e | e | e | e | e | e | e <;> rw [e] <;> decide
  obtain ⟨c1, c2, c3, c4, c5, c6⟩ := stl_ok or1 W C a1 a10
  generalize hs : stl (if rkO o = 4 then 5 else rkO o) W C = s at *
  dsimp only
  have n0 : ¬ (o = 0 ∨ o = 3) := by omega
  refine ⟨fun z _ => ⟨⟨by omega, Or.inr (Or.inr (Or.inl ?_)), ?_, c1⟩, ?_, a3, fun _ => w5, fun y => ?_, fun y => ?_, fun y => ?_, fun _ => ?_, fun y => ?_, ?_, ?_⟩, fun z y => ?_, ?_, fun y => absurd y o3⟩
  · by_cases r4 : rkO o = 4
    · rw [if_pos r4] at c4
      have : ¬ rkO (tpW s.1) = 4 := fun w => by rw [if_pos ⟨r4, w⟩] at z; exact absurd z (by simp)
      omega
    · rw [if_neg r4] at c4; exact c4
  · show (if o = 3 then tnW s.1 + 1 else 0) ≤ 6
    rw [if_neg (by omega)]; exact Nat.zero_le _
  · show (if o = 0 then 1 else 0) + opn s.1 = win
    rw [if_neg (by omega)]; omega
  · by_cases w : o = 1 ∨ o = 2
    · rw [if_pos w] at y; exact absurd y (by simp)
    · rw [if_neg w] at y; exact absurd y (by simp)
  · show 1 ≤ o ∧ o ≤ 3
    by_cases w : o = 1 ∨ o = 2
    · omega
    · rw [if_neg w] at y; exact absurd y (by simp)
  · show 4 ≤ o
    by_cases w : o = 1 ∨ o = 2
    · rw [if_pos w] at y; exact absurd y (by simp)
    · omega
  · show lwN b n p nots = (if o = 3 then tnW s.1 + 1 else 0)
    rw [if_neg (by omega)]; exact lwN_0 o2
  · by_cases w : o = 1 ∨ o = 2
    · rw [if_pos w] at y; exact absurd y (by simp)
    · rw [if_neg w] at y; exact absurd y (by simp)
  · have e3 : ¬ (if o = 1 ∨ o = 2 then 1 else 2) = 3 := by
      by_cases w : o = 1 ∨ o = 2
      · rw [if_pos w]; decide
      · rw [if_neg w]; decide
    show wfR s.2 0 (if (if o = 1 ∨ o = 2 then 1 else 2) = 3 then boW (o :: s.1) + 1 else (if o = 0 ∨ o = 3 then 0 else 1) + boW s.1)
    rw [if_neg e3, if_neg n0, Nat.add_comm]
    exact c2
  · show (if o = 1 ∨ o = 2 then 1 else 2) ≤ 3
    by_cases w : o = 1 ∨ o = 2
    · rw [if_pos w]; decide
    · rw [if_neg w]; decide
  · by_cases w : o = 1 ∨ o = 2
    · rw [if_pos w] at y; exact absurd y (by simp)
    · rw [if_neg w] at y; exact absurd y (by simp)
  · show s.1.length + 1 + s.2.length ≤ _
    omega
/-- a step -/
theorem law_LI {b : Nat → Int} {n : Nat} {S : LwS} (hI : LIw S) (l : liveL S) :
    (liveL (lawStep b n S) → LIw (lawStep b n S)) ∧ ((lawStep b n S).1 = none → (lawStep b n S).2.1 = 4 → (lawStep b n S).2.2.2.2.2.1 = [] ∧ wfC (lawStep b n S).2.2.2.2.2.2 0 ∧ tkK b n S.2.2.1 = 59 ∧ S.2.2.2.1 = 0 ∧ S.2.1 = 3) ∧ (lawStep b n S).2.2.2.2.2.1.length + (lawStep b n S).2.2.2.2.2.2.length ≤ S.2.2.2.2.2.1.length + S.2.2.2.2.2.2.length + 1 ∧ (tkK b n S.2.2.1 = 0 → (lawStep b n S).1 ≠ none) := by
  obtain ⟨fl, nx, p, win, nots, W, C⟩ := S
  obtain ⟨l1, l2⟩ := l
  dsimp only at l1 l2
  subst l1
  unfold lawStep
  dsimp only
  by_cases q : nx = 3
  · subst q
    rw [if_pos rfl]
    have z := beh_LI (b := b) (n := n) hI
    generalize behS b n p win W C = r at z
    obtain ⟨z1, z2, z3, z4⟩ := z
    refine ⟨fun y => ?_, fun y1 y2 => ?_, z3, z4⟩
    · have y1 : r.1 = none := y.1
      rw [y1]
      exact z1 y1 y.2
    · obtain ⟨w1, w2, w3, w4⟩ := z2 y1 y2
      exact ⟨w1, w2, w3, w4, rfl⟩
  · rw [if_neg q]
    have z := part_LI (b := b) (n := n) hI q
    generalize partS b n nx p win (lwN b n p nots) W C = r at z
    obtain ⟨z1, z3, z4⟩ := z
    refine ⟨fun y => ?_, fun y1 y2 => ?_, z3, z4⟩
    · have y1 : r.1 = none := y.1
      rw [y1]
      exact (z1 y1).2
    · exact absurd y2 (z1 y1).1
