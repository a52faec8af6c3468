/-! pure part: round -/
def SJ : Nat → Nat → Prop := fun a k => ((18 ≤ a ∧ a ≤ 25) ∨ (a = 31 ∧ (k = 0 ∨ k = 4)) ∨ a = 33 ∨ a = 68 ∨ ((a = 35 ∧ (k = 0 ∨ (54 ≤ k ∧ k ≤ 56) ∨ k = 67)) ∨ a = 55 ∨ (57 ≤ a ∧ a ≤ 59) ∨ a = 62 ∨ a = 63)) ∨ (a = 31 ∧ k = 3) ∨ a = 32 ∨ (a = 35 ∧ k = 61) ∨ a = 61
theorem SX_J {h h' : Hp} (s : Same SX h h') : Same SJ h h' := s.mono (fun _ _ p => Or.inl p)
theorem Core.sj {D : LD} {ht ro : Nat → Int} {L nr : Nat} {rh : Nat → Nat} {rm : Nat → Int} {h h' : Hp} (C : Core D ht ro L nr rh rm h) (s : Same SJ h h') : Core D ht ro L nr rh rm h' := by
  obtain ⟨a1, a2, a3, ⟨b1, b2, b3, b4, b5⟩, ⟨c1, c2, c3⟩, a6, a7, a8, ⟨d1, d2, d3⟩, a10, a11, a12⟩ := C
  refine ⟨a1, a2, a3, ⟨b1, ?_, b3.same (fun a k q1 q2 => s _ _ (by unfold SJ; omega)), fun c hc => ?_, b5.same (fun k => s _ _ (by unfold SJ; omega))⟩, ⟨c1, ?_, fun i hi => ⟨(c3 i hi).1, ?_, ?_⟩⟩, a6.same (fun a k p => s _ _ (by unfold SJ; omega)), fun c hc => ?_, a8.same (fun k => s _ _ (by unfold SJ; omega)), ⟨d1, ?_, fun i hi => ⟨(d3 i hi).1, ?_, ?_⟩⟩, ?_, ?_, ?_⟩
  · rw [s _ _ (by unfold SJ; omega)]; exact b2
  · rw [s _ _ (by unfold SJ; omega)]; exact b4 c hc
  · rw [s _ _ (by unfold SJ; omega)]; exact c2
  · rw [s _ _ (by unfold SJ; omega)]; exact (c3 i hi).2.1
  · rw [s _ _ (by unfold SJ; omega)]; exact (c3 i hi).2.2
  · rw [s _ _ (by unfold SJ; omega)]; exact a7 c hc
  · rw [s _ _ (by unfold SJ; omega)]; exact d2
  · rw [s _ _ (by unfold SJ; omega)]; exact (d3 i hi).2.1
  · rw [s _ _ (by unfold SJ; omega)]; exact (d3 i hi).2.2
  · rw [s _ _ (by unfold SJ; omega)]; exact a10
  · rw [s _ _ (by unfold SJ; omega)]; exact a11
  · rw [s _ _ (by unfold SJ; omega)]; exact a12
theorem Inv.round {κ : Int} {h h' : Hp} {D : LD} {ht ro : Nat → Int} {L nr : Nat} {rh : Nat → Nat} {rm : Nat → Int} {na : Nat} {P : Nat → Nat → Int} (C : Core D ht ro L nr rh rm h) (O : Oth h L) (Q : PastOK D na P 26 56 (h 35 49) h) (M : Misc D h) (G : Img κ D h) (s : Same SJ h h') (F : h' 35 61 = 1 ∧ h' 31 3 = (D.nh : Int) ∧ ∀ i, i < D.nh → h' 32 i = h' 61 i) : Inv κ h' := by
  refine ⟨D, ht, ro, L, nr, rh, rm, na, P, C.sj s, ?_, Q.same (fun k => s _ _ (by unfold SJ; omega)) (fun k => s _ _ (by unfold SJ; omega)) (fun k => s _ _ (by unfold SJ; omega)) (s _ _ (by unfold SJ; omega)), ?_, G.cg (fun a k p => s _ _ (by unfold SJ; omega))⟩
  · unfold Oth
    rw [s _ _ (by unfold SJ; omega)]
    exact O
  · obtain ⟨m1, m2, m3, m4, m5, m6, m7, m8, -⟩ := M
    have e09 : h' 0 9 = h 0 9 := s _ _ (by unfold SJ; omega)
    refine ⟨by rw [e09]; exact m1, by rw [e09, s 35 13 (by unfold SJ; omega)]; exact m2, fun k hk => ?_, by rw [s 0 10 (by unfold SJ; omega), s 35 15 (by unfold SJ; omega)]; exact m4, by rw [s 0 11 (by unfold SJ; omega), s 43 0 (by unfold SJ; omega)]; exact m5, by rw [s 0 12 (by unfold SJ; omega), s 43 1 (by unfold SJ; omega)]; exact m6, by rw [s 0 13 (by unfold SJ; omega), s 43 2 (by unfold SJ; omega)]; exact m7, ?_, Or.inr F⟩
    · rw [e09] at hk
      rw [s 17 k (by unfold SJ; omega), s 42 k (by unfold SJ; omega)]
      exact m3 k hk
    · rw [s 35 59 (by unfold SJ; omega), s 0 15 (by unfold SJ; omega)]
      rcases m8 with m8 | ⟨n, n1, n2, n3, n4⟩
      · exact Or.inl m8
      · exact Or.inr ⟨n, n1, n2, n3, fun i hi => by rw [s 34 i (by unfold SJ; omega), s 60 i (by unfold SJ; omega)]; exact n4 i hi⟩
theorem m_stepsTo {D : LD} {a b : Nat} {h : Hp} (W : DW D) (H : ML D h) (ha : a < 64) (hb : b < 64) : fX6_stepsTo (a : Int) (b : Int) h = some (dsC D.w a b : Int) := by
  have w1 := W.1
  have v0 : h 35 1 = (D.w : Int) := H.1
  have m1 : a % D.w ≤ a := Nat.mod_le _ _
  have m2 : b % D.w ≤ b := Nat.mod_le _ _
  have m3 : a / D.w ≤ a := Nat.div_le_self _ _
  have m4 : b / D.w ≤ b := Nat.div_le_self _ _
  unfold fX6_stepsTo
  rw [v0, gd_y (by clear v0; omega), gd_y (by clear v0; omega), i_rem_nat (by clear v0; omega) (by clear v0; omega), i_rem_nat (by clear v0; omega) (by clear v0; omega), i_div_nat (by clear v0; omega) (by clear v0; omega), i_div_nat (by clear v0; omega) (by clear v0; omega)]
  unfold dsC
  clear v0
  generalize a % D.w = x1 at *
  generalize b % D.w = x2 at *
  generalize a / D.w = x3 at *
  generalize b / D.w = x4 at *
  have ab : ∀ u v : Nat, u < 64 → v < 64 → fX6_off (u : Int) (v : Int) h = some (((u - v) + (v - u) : Nat) : Int) := by
    intro u v hu hv
    unfold fX6_off
    by_cases q : (v : Int) ≤ (u : Int)
    · rw [if_pos q, isb (by omega) (by omega)]; congr 1; omega
    · rw [if_neg q, isb (by omega) (by omega)]; congr 1; omega
  rw [ab x1 x2 (by omega) (by omega)]
  simp only [bp_]
  rw [gd_y (by omega), gd_y (by omega), ab x3 x4 (by omega) (by omega)]
  simp only []
  by_cases q : (((x1 - x2 + (x2 - x1) : Nat) : Int)) ≤ (((x3 - x4 + (x4 - x3) : Nat) : Int))
  · rw [if_pos q]; congr 2; omega
  · rw [if_neg q]; congr 2; omega
theorem lsO_le {hc : Nat → Nat} : ∀ (p : List Nat) (c : Nat), c < 64 → (∀ j, j ∈ p → hc j < 64) → lsO hc c p < 64
  | [], c, h, _ => h
  | i :: r, c, h, hp => lsO_le r (hc i) (hp i (List.mem_cons_self ..)) (fun j hj => hp j (List.mem_cons_of_mem _ hj))
/-- how many steps along the order tried -/
theorem m_sumO {D : LD} {c : Nat} {x2 : Int} {t : List Nat} {h : Hp} (W : DW D) (H : ML D h) (hc : c < 64) (hl : t.length = D.nh) (ht : ∀ j, j ∈ t → j < D.nh) (A : AR (h 62) t) :
    wp (it_ (fun s : Int × Int => fX6_round_l52 (c : Int) x2 s.1 s.2 h) FU (0, 0)) (fun v => v = (csO D.w D.hc c t : Int)) := by
  have hn6 := W.2.2.1
  have hc64 : D.cl ≤ 64 := cl64 W.1.2 W.2.1.2
  have v3 : h 35 3 = (D.nh : Int) := H.2.2.1
  have tc : ∀ j, j ∈ t → D.hc j < 64 := fun j hj => Nat.lt_of_lt_of_le (W.2.2.2.2.2.1 j (ht j hj)) hc64
  refine wp_for (fun k (s : Int × Int) => s.2 = (k : Int) ∧ ∃ p r, t = p ++ r ∧ p.length = k ∧ s.1 = (csO D.w D.hc c p : Int)) D.nh ?_ ?_ (FU_big (by clear v3; omega)) ⟨rfl, [], t, rfl, rfl, rfl⟩
  · rintro k ⟨a, b⟩ hk ⟨f1, p, r, f2, f3, f4⟩
    dsimp only at f1 f4 ⊢
    subst f1
    subst f4
    cases r with
    | nil =>
      rw [List.append_nil] at f2
      rw [f2] at hl
      exact absurd f3 (by clear v3; omega)
    | cons j r =>
      have hj : j ∈ t := by rw [f2]; simp
      have pc : ∀ i, i ∈ p → D.hc i < 64 := fun i hi => tc i (by rw [f2]; exact List.mem_append_left _ hi)
      have a62 : h 62 k = (j : Int) := A k j (by rw [f2, ← f3]; simp)
      have a37 : h 37 j = (D.hc j : Int) := H.2.2.2.2.2.1 j (ht j hj)
      have jn := ht j hj
      have lle := lsO_le p c hc pc
      have cle := csO_le (w := D.w) p c hc pc
      have dle := dsC_le (w := D.w) lle (tc j hj)
      have e1 : i_add (csO D.w D.hc c p : Int) (dsC D.w (lsO D.hc c p) (D.hc j) : Int) = (csO D.w D.hc c (p ++ [j]) : Int) := by
        rw [csO_snoc, ik (by clear v3 a62 a37; omega) (by clear v3 a62 a37; omega)]
      have goal : ∀ z : Int, z = (lsO D.hc c p : Int) → wp (fX6_round_j87 (c : Int) x2 (k : Int) z (csO D.w D.hc c p : Int) h) (E2 (fun s : Int × Int => s.2 = ((k + 1 : Nat) : Int) ∧ ∃ p r, t = p ++ r ∧ p.length = k + 1 ∧ s.1 = (csO D.w D.hc c p : Int)) (fun v => v = (csO D.w D.hc c t : Int))) := by
        intro z hz
        subst hz
        unfold fX6_round_j87
        rw [gd_y (by clear v3 a62 a37 e1; omega), Int.toNat_natCast, a62, gd_y (by clear v3 a62 a37 e1; omega), Int.toNat_natCast, a37, m_stepsTo W H lle (tc j hj), wp_bp, wp_some, wp_lb, e1, i1 (by clear v3 a62 a37 e1; omega), wp_some]
        refine ⟨rfl, p ++ [j], r, ?_, ?_, rfl⟩
        · rw [f2, List.append_assoc]; rfl
        · rw [List.length_append, f3]; rfl
      unfold fX6_round_l52
      rw [v3]
      refine w_f (by clear v3 a62 a37 e1; omega) ?_
      by_cases k0 : k = 0
      · refine w_t (by clear v3 a62 a37 e1; omega) (goal _ ?_)
        have : p = [] := List.eq_nil_of_length_eq_zero (by rw [f3]; exact k0)
        rw [this]; rfl
      · refine w_f (by clear v3 a62 a37 e1; omega) ?_
        obtain ⟨p', i, hp⟩ : ∃ p' i, p = p' ++ [i] := by
          rcases List.eq_nil_or_concat p with z | ⟨p', i, z⟩
          · rw [z] at f3; exact absurd f3.symm k0
          · exact ⟨p', i, by rw [z, List.concat_eq_append]⟩
        have lp : p'.length = k - 1 := by
          rw [hp, List.length_append] at f3
          have f3' : p'.length + 1 = k := f3
          clear v3 a62 a37 e1
          omega
        have hi : i ∈ t := by rw [f2, hp]; simp
        have b62 : h 62 (k - 1) = (i : Int) := A (k - 1) i (by rw [f2, hp, ← lp]; simp)
        have b37 : h 37 i = (D.hc i : Int) := H.2.2.2.2.2.1 i (ht i hi)
        have jn2 := ht i hi
        have ek : i_sub (k : Int) 1 = ((k - 1 : Nat) : Int) := by rw [isb (by clear v3 a62 a37 e1 b62 b37; omega) (by clear v3 a62 a37 e1 b62 b37; omega)]; clear v3 a62 a37 e1 b62 b37; omega
        rw [ek, gd_y (by clear v3 a62 a37 e1 b62 b37 ek; omega), Int.toNat_natCast, b62, gd_y (by clear v3 a62 a37 e1 b62 b37 ek; omega), Int.toNat_natCast, b37]
        refine goal _ ?_
        rw [hp, lsO_snoc]
  · rintro ⟨a, b⟩ ⟨f1, p, r, f2, f3, f4⟩
    dsimp only at f1 f4 ⊢
    subst f1
    subst f4
    have er : r = [] := by
      have := congrArg List.length f2
      rw [List.length_append] at this
      exact List.eq_nil_of_length_eq_zero (by clear v3; omega)
    rw [er, List.append_nil] at f2
    unfold fX6_round_l52
    rw [v3]
    refine w_t (Int.le_refl _) (wp_some.mpr ?_)
    show (csO D.w D.hc c p : Int) = (csO D.w D.hc c t : Int)
    rw [f2]
def S61 : Nat → Nat → Prop := fun a _ => a = 61
theorem m_copies {h : Hp} : wp (fX6_copies_62_61 h) (fun r => Same S61 h r.2 ∧ ∀ i, i < 6 → r.2 61 i = h 62 i) := by
  unfold fX6_copies_62_61
  rw [wp_bp]
  refine (wp_for (Q := fun hq : Hp => Same S61 h hq ∧ ∀ i, i < 6 → hq 61 i = h 62 i) (fun k (s : Int × Hp) => s.1 = (k : Int) ∧ Same S61 h s.2 ∧ ∀ i, i < k → s.2 61 i = h 62 i) 6 ?_ ?_ (FU_big (by decide)) ⟨rfl, Same.rf, fun i hi => absurd hi (Nat.not_lt_zero i)⟩).mono ?_
  · rintro k ⟨x, hh⟩ hk ⟨f1, f2, f3⟩
    dsimp only at f1 f2 f3 ⊢
    subst f1
    unfold fX6_copies_62_61_l2
    refine w_f (by clear f3; omega) ?_
    rw [gd_y (by clear f3; omega), gd_y (by clear f3; omega), wp_lb, Int.toNat_natCast, i1 (by clear f3; omega), wp_some]
    refine ⟨rfl, f2.st rfl, fun i hi => ?_⟩
    show st hh 61 k (hh 62 k) 61 i = h 62 i
    by_cases q : i = k
    · rw [q, st_self]; exact f2 _ _ (by unfold S61; decide)
    · rw [st_nk q]; exact f3 i (by clear f3; omega)
  · rintro ⟨x, hh⟩ ⟨f1, f2, f3⟩
    dsimp only at f1 f2 f3 ⊢
    subst f1
    unfold fX6_copies_62_61_l2
    exact w_t (by decide) (wp_some.mpr ⟨f2, f3⟩)
  · rintro hq ⟨f2, f3⟩
    exact wp_some.mpr ⟨f2, f3⟩
theorem pkO_le {f : List Nat → Nat} : ∀ (l : List (List Nat)) (s : Nat × List Nat), (l.foldl (pk f) s).1 ≤ s.1
  | [], s => Nat.le_refl _
  | a :: r, s => by
    refine Nat.le_trans (pkO_le r (pk f s a)) ?_
    unfold pk
    by_cases q : f a < s.1
    · rw [if_pos q]; exact Nat.le_of_lt q
    · rw [if_neg q]; exact Nat.le_refl _
theorem pk_first {f : List Nat → Nat} {a : List Nat} {r : List (List Nat)} {s : Nat × List Nat} : ((a :: r).foldl (pk f) s).1 ≤ f a := by
  refine Nat.le_trans (pkO_le r (pk f s a)) ?_
  unfold pk
  by_cases q : f a < s.1
  · rw [if_pos q]; exact Nat.le_refl _
  · rw [if_neg q]; exact Nat.not_lt.mp q
theorem pkO_in {f : List Nat → Nat} {P : List Nat → Prop} : ∀ (l : List (List Nat)) (s : Nat × List Nat), (∀ q, q ∈ l → P q) → (s.1 = 1000 ∨ P s.2) → (l.foldl (pk f) s).1 < 1000 → P (l.foldl (pk f) s).2
  | [], s, _, h, hl => h.resolve_left (Nat.ne_of_lt hl)
  | a :: r, s, hp, h, hl => by
    refine pkO_in r (pk f s a) (fun q hq => hp q (List.mem_cons_of_mem _ hq)) ?_ hl
    unfold pk
    by_cases q : f a < s.1
    · rw [if_pos q]; exact Or.inr (hp a (List.mem_cons_self ..))
    · rw [if_neg q]; exact h
theorem AG_AR {n : Nat} {f : Nat → Int} {t : List Nat} (hl : t.length = n) : AR f t ↔ AG n (fun i => t.getD i 0) f := by
  constructor
  · intro h i hi
    refine h i _ ?_
    show t[i]? = some (t.getD i 0)
    rw [List.getD_eq_getElem?_getD, List.getElem?_eq_getElem (by omega)]
    rfl
  · intro h i j hj
    obtain ⟨hi, e⟩ := List.getElem?_eq_some_iff.mp hj
    rw [h i (by omega)]
    show ((t.getD i 0 : Nat) : Int) = _
    rw [List.getD_eq_getElem?_getD, hj]
    rfl
def SR62 : Nat → Nat → Prop := fun a _ => a = 61 ∨ a = 62
theorem m_rounds {D : LD} {c : Nat} {h : Hp} (W : DW D) (H : ML D h) (hc : c < 64) (A : AR (h 62) (List.range D.nh)) :
    wp (it_ (fun s : Int × Int × Hp => fX6_round_l42 (c : Int) s.1 s.2.1 s.2.2) FU (-1, 1, h)) (fun r => Same SR62 h r.2 ∧ r.1 = (((exO D.nh D.nh []).foldl (pk (csO D.w D.hc c)) (1000, [])).1 : Int) ∧ AR (r.2 61) ((exO D.nh D.nh []).foldl (pk (csO D.w D.hc c)) (1000, [])).2) := by
  have hn6 := W.2.2.1
  have hc64 : D.cl ≤ 64 := cl64 W.1.2 W.2.1.2
  obtain ⟨r0, e0⟩ := exO_one D.nh hn6
  have num := exO_num D.nh hn6
  have ch := chR_all D.nh hn6
  have lens : ∀ q, q ∈ exO D.nh D.nh [] → q.length = D.nh ∧ ∀ j, j ∈ q → j < D.nh := fun q hq => ⟨by have := exO_len _ _ _ hq; rw [this]; exact Nat.zero_add _, exO_lt _ _ _ hq (fun j hj => absurd hj List.not_mem_nil)⟩
  have small : ∀ q, q ∈ exO D.nh D.nh [] → csO D.w D.hc c q < 1000 := fun q hq => by
    have l1 := lens q hq
    have l2 := csO_le (w := D.w) q c hc (fun j hj => Nat.lt_of_lt_of_le (W.2.2.2.2.2.1 j (l1.2 j hj)) hc64)
    have l3 := l1.1
    clear lens
    omega
  have fin : ((exO D.nh D.nh []).foldl (pk (csO D.w D.hc c)) (1000, [])).1 < 1000 := by
    rw [e0]
    refine Nat.lt_of_le_of_lt pk_first (small _ ?_)
    rw [e0]; exact List.mem_cons_self ..
  generalize hF : (exO D.nh D.nh []).foldl (pk (csO D.w D.hc c)) (1000, []) = F at fin
  refine wp_for (fun k (s : Int × Int × Hp) => ∃ (rest : List (List Nat)) (b : Nat × List Nat), rest.length + k = (exO D.nh D.nh []).length ∧ chR D.nh rest = true ∧ rest.foldl (pk (csO D.w D.hc c)) b = F ∧ (∀ q, q ∈ rest → q ∈ exO D.nh D.nh []) ∧ ((rest = [] ∧ s.2.1 = 0) ∨ ∃ a r, rest = a :: r ∧ s.2.1 = 1 ∧ AR (s.2.2 62) a) ∧ ((s.1 = -1 ∧ b.1 = 1000) ∨ (s.1 = (b.1 : Int) ∧ AR (s.2.2 61) b.2)) ∧ Same SR62 h s.2.2) (exO D.nh D.nh []).length ?_ ?_ (FU_big (by clear lens small; omega)) ⟨exO D.nh D.nh [], (1000, []), rfl, ch, hF, fun q hq => hq, Or.inr ⟨List.range D.nh, r0, e0, rfl, A⟩, Or.inl ⟨rfl, rfl⟩, Same.rf⟩
  · rintro k ⟨x2, x3, hh⟩ hk ⟨rest, b, g1, g2, g3, g4, g5, g6, g7⟩
    dsimp only at g1 g5 g6 g7 ⊢
    have H' : ML D hh := H.same (fun a k p => g7 _ _ (by unfold SR62; clear lens small g3; omega))
    rcases g5 with ⟨z1, z2⟩ | ⟨a, r, z1, z2, z3⟩
    · rw [z1] at g1
      exact absurd g1 (by show ¬ (0 + k = _); clear lens small g3; omega)
    · subst z2
      subst z1
      have ha := g4 a (List.mem_cons_self ..)
      obtain ⟨la, lt⟩ := lens a ha
      have sa := small a ha
      have g2' : stO D.nh (nxN D.nh (fun i => a.getD i 0)) r = true ∧ chR D.nh r = true := by
        rw [← Bool.and_eq_true]; exact g2
      have g3' : r.foldl (pk (csO D.w D.hc c)) (pk (csO D.w D.hc c) b a) = F := g3
      have glen : r.length + (k + 1) = (exO D.nh D.nh []).length := by
        have : r.length + 1 + k = (exO D.nh D.nh []).length := g1
        clear lens small g3 g3'
        omega
      have g4' : ∀ q, q ∈ r → q ∈ exO D.nh D.nh [] := fun q hq => g4 q (List.mem_cons_of_mem _ hq)
      -- the next order
      have next : ∀ (y : Int) (b' : Nat × List Nat) (h' : Hp), r.foldl (pk (csO D.w D.hc c)) b' = F → AR (h' 62) a → ML D h' → Same SR62 h h' → ((y = -1 ∧ b'.1 = 1000) ∨ (y = (b'.1 : Int) ∧ AR (h' 61) b'.2)) → wp (fX6_round_j137 (c : Int) y h') (E2 (fun s : Int × Int × Hp => ∃ (rest : List (List Nat)) (b : Nat × List Nat), rest.length + (k + 1) = (exO D.nh D.nh []).length ∧ chR D.nh rest = true ∧ rest.foldl (pk (csO D.w D.hc c)) b = F ∧ (∀ q, q ∈ rest → q ∈ exO D.nh D.nh []) ∧ ((rest = [] ∧ s.2.1 = 0) ∨ ∃ a r, rest = a :: r ∧ s.2.1 = 1 ∧ AR (s.2.2 62) a) ∧ ((s.1 = -1 ∧ b.1 = 1000) ∨ (s.1 = (b.1 : Int) ∧ AR (s.2.2 61) b.2)) ∧ Same SR62 h s.2.2) (fun r : Int × Hp => Same SR62 h r.2 ∧ r.1 = (F.1 : Int) ∧ AR (r.2 61) F.2)) := by
        intro y b' h' k1 k2 k3 k4 k5
        unfold fX6_round_j137
        rw [wp_bd]
        refine (m_nextRow hn6 k3.2.2.1 ((AG_AR la).mp k2)).mono ?_
        rintro ⟨v, h31⟩ ⟨n1, n2⟩
        dsimp only at n1 n2 ⊢
        have s31 : Same SR62 h h31 := k4.tr (n1.mono (fun a k p => Or.inr p))
        have k5' : (y = -1 ∧ b'.1 = 1000) ∨ (y = (b'.1 : Int) ∧ AR (h31 61) b'.2) := k5.imp id (fun z => ⟨z.1, AR_cg z.2 (Nat.le_refl _) (fun i hi => n1 _ _ (by unfold S62; decide))⟩)
        rw [wp_some]
        refine ⟨r, b', glen, g2'.2, k1, g4', ?_, k5', s31⟩
        have q := g2'.1
        rcases n2 with ⟨n3, n4⟩ | ⟨u, n3, n4, n5⟩
        · rw [n3] at q
          cases r with
          | nil => exact Or.inl ⟨rfl, n4⟩
          | cons a' r' => exact absurd (show false = true from q) (by decide)
        · rw [n3] at q
          cases r with
          | nil => exact absurd (show false = true from q) (by decide)
          | cons a' r' =>
            refine Or.inr ⟨a', r', rfl, n4, (AG_AR (lens a' (g4' a' (List.mem_cons_self ..))).1).mpr (fun i hi => ?_)⟩
            have q' : ∀ i, i ∈ List.range D.nh → (u i == a'.getD i 0) = true := List.all_eq_true.mp q
            have q2 := q' i (List.mem_range.mpr hi)
            have q3 : u i = a'.getD i 0 := by simpa using q2
            show h31 62 i = ((a'.getD i 0 : Nat) : Int)
            rw [← q3]
            exact n5 i hi
      -- a better order is kept
      have keep : b.1 = 1000 ∨ csO D.w D.hc c a < b.1 → wp (fX6_round_j122 (c : Int) (csO D.w D.hc c a : Int) hh) (E2 (fun s : Int × Int × Hp => ∃ (rest : List (List Nat)) (b : Nat × List Nat), rest.length + (k + 1) = (exO D.nh D.nh []).length ∧ chR D.nh rest = true ∧ rest.foldl (pk (csO D.w D.hc c)) b = F ∧ (∀ q, q ∈ rest → q ∈ exO D.nh D.nh []) ∧ ((rest = [] ∧ s.2.1 = 0) ∨ ∃ a r, rest = a :: r ∧ s.2.1 = 1 ∧ AR (s.2.2 62) a) ∧ ((s.1 = -1 ∧ b.1 = 1000) ∨ (s.1 = (b.1 : Int) ∧ AR (s.2.2 61) b.2)) ∧ Same SR62 h s.2.2) (fun r : Int × Hp => Same SR62 h r.2 ∧ r.1 = (F.1 : Int) ∧ AR (r.2 61) F.2)) := by
        intro hb
        have hb' : csO D.w D.hc c a < b.1 := hb.elim (fun z => by rw [z]; exact sa) id
        have ek : pk (csO D.w D.hc c) b a = (csO D.w D.hc c a, a) := if_pos hb'
        rw [ek] at g3'
        unfold fX6_round_j122
        rw [wp_bd]
        refine m_copies.mono ?_
        rintro ⟨v, h28⟩ ⟨k1, k2⟩
        dsimp only at k1 k2 ⊢
        have s28 : Same SR62 h h28 := g7.tr (k1.mono (fun a k p => Or.inl p))
        refine next _ _ h28 g3' (AR_cg z3 (Nat.le_refl _) (fun i hi => k1 _ _ (by unfold S61; decide))) (H.same (fun a k p => s28 _ _ (by unfold SR62; clear lens small g3 g3' next; omega))) s28 (Or.inr ⟨rfl, ?_⟩)
        exact AR_cg (n := 6) z3 (by rw [la]; exact hn6) (fun i hi => k2 i hi)
      unfold fX6_round_l42
      refine w_f (by decide) ?_
      rw [wp_bp]
      refine (m_sumO W H' hc la lt z3).mono ?_
      rintro v rfl
      dsimp only
      rcases g6 with ⟨y1, y2⟩ | ⟨y1, y2⟩
      · exact w_t y1 (keep (Or.inl y2))
      · have nn : ¬ x2 = -1 := by rw [y1]; clear lens small g3 g3' next keep; omega
        refine w_f nn ?_
        by_cases q : csO D.w D.hc c a < b.1
        · exact w_f (by rw [y1]; clear lens small g3 g3' next keep; omega) (keep (Or.inr q))
        · refine w_t (by rw [y1]; clear lens small g3 g3' next keep; omega) (next _ b hh ?_ z3 H' g7 (Or.inr ⟨y1, y2⟩))
          have ek : pk (csO D.w D.hc c) b a = b := if_neg q
          rw [ek] at g3'
          exact g3'
  · rintro ⟨x2, x3, hh⟩ ⟨rest, b, g1, g2, g3, g4, g5, g6, g7⟩
    dsimp only at g1 g5 g6 g7 ⊢
    have er : rest = [] := List.eq_nil_of_length_eq_zero (by clear lens small g3; omega)
    subst er
    have g3' : b = F := g3
    subst g3'
    rcases g5 with ⟨z1, z2⟩ | ⟨a, r, z1, -⟩
    · subst z2
      unfold fX6_round_l42
      refine w_t rfl (wp_some.mpr ⟨g7, ?_⟩)
      rcases g6 with ⟨y1, y2⟩ | y
      · exact absurd y2 (Nat.ne_of_lt fin)
      · exact y
    · exact absurd z1 (by simp)
theorem s_round {κ : Int} {x : Int} {h : Hp} (I : Inv κ h) : wp (fX5_round x h) (PT κ (fX6_round x) (fun _ => 1)) := by
  have I0 := I
  obtain ⟨D, ht, ro, L, nr, rh, rm, na, P, C, O, Q, M, G⟩ := I
  have LBh := C.2.2.2.1
  have hL := LBh.1
  have W := C.1
  have hn6 := W.2.2.1
  have hc64 : D.cl ≤ 64 := cl64 W.1.2 W.2.1.2
  unfold fX5_round
  by_cases hx : 0 ≤ x ∧ x < (D.cl : Int)
  · refine nc_pass W hL LBh.2.1 LBh.2.2.1 hx ?_
    obtain ⟨c, rfl⟩ : ∃ c : Nat, x = (c : Int) := ⟨x.toNat, by omega⟩
    have hc : c < 64 := by omega
    rw [wp_mi]
    unfold fX5_round_j5 fX4_find
    rw [wp_bd, LBh.2.1, wp_lb, wp_lb, gd_y (by omega), wp_lb, Int.toNat_natCast]
    have v3 : st (st h 31 0 (L : Int)) 31 4 1000 L 3 = (D.nh : Int) := by
      rw [st_na (by omega), st_na (by omega)]; exact LBh.2.2.1.2.2.1
    rw [v3]
    generalize hE : st (st (st h 31 0 (L : Int)) 31 4 1000) 31 3 (D.nh : Int) = h4
    have s4 : Same SJ h h4 := by
      rw [← hE]
      exact ((Same.rf.st (P := SJ) (Or.inl (Or.inr (Or.inl ⟨rfl, Or.inl rfl⟩)))).st (Or.inl (Or.inr (Or.inl ⟨rfl, Or.inr rfl⟩)))).st (Or.inr (Or.inl ⟨rfl, rfl⟩))
    have x0 : h4 31 0 = (L : Int) := by rw [← hE, st_nk (by decide), st_nk (by decide)]; exact st_self
    have x3 : h4 31 3 = (D.nh : Int) := by rw [← hE]; exact st_self
    have x4 : h4 31 4 = ((1000 : Nat) : Int) := by rw [← hE, st_nk (by decide)]; exact st_self
    have H4 : CL D L h4 := (C.sj s4).2.2.2.1.2.2.1
    rw [wp_bd]
    generalize hF : (exO D.nh D.nh []).foldl (pk (csO D.w D.hc c)) (1000, []) = F
    refine (c_goOn W hL hc D.nh 8 [] (1000, []) 0 h4 (by omega) (Nat.zero_add _) (fun j hj => absurd hj List.not_mem_nil) (Nat.le_refl _) x0 H4 ⟨x4, Or.inl rfl, AR_nil⟩ (by unfold in32; omega) (fun j hj => by rw [bt_0]; rfl)).mono ?_
    rintro ⟨v, h7⟩ ⟨g1, g2⟩
    dsimp only at g1 g2 ⊢
    rw [hF] at g2
    rw [wp_some, wp_some, g2.1]
    have s7 : Same SJ h h7 := s4.tr (g1.mono (fun a k p => by unfold SWk at p; unfold SJ; omega))
    have y3 : h7 31 3 = (D.nh : Int) := by rw [g1 _ _ (by unfold SWk; omega)]; exact x3
    have s8 : Same SJ h (st h7 68 0 (F.1 : Int)) := s7.st (Or.inl (Or.inr (Or.inr (Or.inr (Or.inl rfl)))))
    show wp (fX6_round (c : Int) (st h7 68 0 (F.1 : Int))) _
    obtain ⟨C0, z0, t1, t2⟩ := (C.sj s8).z (Same.rf (h := st h7 68 0 (F.1 : Int)))
    unfold fX6_round
    rw [wp_lb]
    have t0 : Same SX (st h7 68 0 (F.1 : Int)) (st (st h7 68 0 (F.1 : Int)) 35 0 0) := t2
    generalize hA : st (st h7 68 0 (F.1 : Int)) 35 0 0 = hB at *
    refine mc_pass W C0.2.2.2.2.2.1 z0 hx (w_f n10 ?_)
    rw [wp_bp]
    have loop : wp (it_ (fun s : Int × Hp => fX6_round_l17 (c : Int) s.1 s.2) FU (0, hB)) (fun hq => Same S62 hB hq ∧ AR (hq 62) (List.range D.nh)) := by
      refine wp_for (fun k (s : Int × Hp) => k ≤ D.nh ∧ s.1 = (k : Int) ∧ Same S62 hB s.2 ∧ AR (s.2 62) (List.range k)) D.nh ?_ ?_ (FU_big (by omega)) ⟨Nat.zero_le _, rfl, Same.rf, AR_nil⟩
      · rintro k ⟨y, hh⟩ hk ⟨f0, f1, f2, f3⟩
        dsimp only at f1 f2 f3 ⊢
        subst f1
        have u3 : hh 35 3 = (D.nh : Int) := by rw [f2 _ _ (by unfold S62; decide)]; exact C0.nh
        unfold fX6_round_l17
        rw [u3]
        refine w_f (by clear u3 x0 x3 x4 y3 v3; omega) ?_
        rw [gd_y (by clear u3 x0 x3 x4 y3 v3; omega), wp_lb, Int.toNat_natCast, i1 (by clear u3 x0 x3 x4 y3 v3; omega), wp_some]
        refine ⟨hk, rfl, f2.st rfl, ?_⟩
        rw [List.range_succ]
        refine AR_snoc f3 (fun i hi => ?_) ?_
        · rw [List.length_range] at hi
          show st hh 62 k (k : Int) 62 i = _
          rw [st_nk (Nat.ne_of_lt hi)]
        · rw [List.length_range]; exact st_self
      · rintro ⟨y, hh⟩ ⟨f0, f1, f2, f3⟩
        dsimp only at f1 f2 f3 ⊢
        subst f1
        have u3 : hh 35 3 = (D.nh : Int) := by rw [f2 _ _ (by unfold S62; decide)]; exact C0.nh
        unfold fX6_round_l17
        rw [u3]
        exact w_t (Int.le_refl _) (wp_some.mpr ⟨f2, f3⟩)
    refine loop.mono ?_
    rintro h11 ⟨l1, l2⟩
    dsimp only
    rw [wp_bp]
    refine (m_rounds W (C0.2.2.2.2.2.1.same (fun a k p => l1 _ _ (by unfold S62; clear x0 x3 x4 y3 v3; omega))) hc l2).mono ?_
    rintro ⟨u, h35⟩ ⟨k1, k2, k3⟩
    dsimp only at k1 k2 k3 ⊢
    rw [hF] at k2 k3
    rw [wp_lb, wp_some]
    have sB : Same SJ h hB := s8.tr (SX_J t0)
    have s35 : Same SJ hB (st h35 35 61 1) := ((l1.mono (fun a k p => by unfold S62 at p; unfold SJ; clear x0 x3 x4 y3 v3; omega)).tr (k1.mono (fun a k p => by unfold SR62 at p; unfold SJ; clear x0 x3 x4 y3 v3; omega))).st (Or.inr (Or.inr (Or.inr (Or.inl ⟨rfl, rfl⟩))))
    have fl : F.1 < 1000 := by
      obtain ⟨r0, e0⟩ := exO_one D.nh hn6
      have hl : ∀ j, j ∈ List.range D.nh → D.hc j < 64 := fun j hj => Nat.lt_of_lt_of_le (W.2.2.2.2.2.1 j (List.mem_range.mp hj)) hc64
      have q := csO_le (w := D.w) (List.range D.nh) c hc hl
      rw [List.length_range] at q
      rw [← hF, e0]
      refine Nat.lt_of_le_of_lt pk_first ?_
      clear x0 x3 x4 y3 v3
      omega
    have len : F.2.length = D.nh := by
      rw [← hF]
      refine pkO_in (P := fun q => q.length = D.nh) _ _ (fun q hq => ?_) (Or.inl rfl) (by rw [hF]; exact fl)
      have := exO_len _ _ _ hq
      rw [this]; exact Nat.zero_add _
    -- what stays as it was
    have keepS : ∀ a k, a ≠ 61 → a ≠ 62 → ¬ (a = 35 ∧ k = 61) → st h35 35 61 1 a k = hB a k := by
      intro a k n1 n2 n3
      have e1 : st h35 35 61 1 a k = h35 a k := if_neg n3
      rw [e1, k1 _ _ (by unfold SR62; clear x0 x3 x4 y3 v3; omega)]
      exact l1 _ _ n2
    have keepB : ∀ a k, a ≠ 68 → a ≠ 35 → hB a k = h7 a k := by
      intro a k n1 n2
      rw [← hA, st_na n2, st_na n1]
    refine ⟨?_, ?_, ?_⟩
    · show st h35 35 61 1 35 0 = 0
      rw [keepS _ _ (by decide) (by decide) (by decide)]; exact z0
    · show st h35 35 61 1 68 0 = u
      rw [keepS _ _ (by decide) (by decide) (by decide), k2, ← hA, st_na (by decide)]; exact st_self
    · refine Inv.round C O Q M G (sB.tr s35) ⟨(show st h35 35 61 1 35 61 = 1 from st_self), ?_, ?_⟩
      · show st h35 35 61 1 31 3 = _
        rw [keepS _ _ (by decide) (by decide) (by decide), keepB _ _ (by decide) (by decide)]; exact y3
      · have a32 : AR (h7 32) F.2 := g2.2.1.resolve_left (Nat.ne_of_lt fl)
        intro i hi
        show st h35 35 61 1 32 i = st h35 35 61 1 61 i
        rw [keepS _ _ (by decide) (by decide) (fun z => absurd z.1 (by decide)), keepB _ _ (by decide) (by decide), st_na (by decide)]
        exact AR_eq a32 k3 len i hi
  · refine nc_fail W hL LBh.2.1 LBh.2.2.1 hx ?_
    refine q_no I0 Same.rf (fun h' s => ?_)
    obtain ⟨C0, z0, s1, s2⟩ := C.z s
    unfold fX6_round
    rw [wp_lb]
    exact mc_fail W C0.2.2.2.2.2.1 z0 hx (w_t rfl (wp_some.mpr (no1 s1)))
