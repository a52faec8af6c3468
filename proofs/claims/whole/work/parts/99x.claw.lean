/-! pure part: the class reads a law, its parts -/
theorem kw_iff {b : Nat → Int} {n p k : Nat} (hk : k < 17) : isKw b n p k = true ↔ kwN b n p = (k : Int) := by
  constructor
  · intro z
    refine fi_at hk z (fun j hj => ?_)
    unfold isKw at z ⊢
    rw [Bool.and_eq_true] at z
    obtain ⟨z1, z2⟩ := z
    rw [z1, Bool.true_and, of_decide_eq_true z2]
    refine decide_eq_false (fun w => ?_)
    have := mw_inj k hk j (by omega) w
    omega
  · intro z
    have ne : fi (isKw b n p) 17 ≠ -1 := by
      have z' : fi (isKw b n p) 17 = (k : Int) := z
      rw [z']; omega
    obtain ⟨i, h1, h2, h3, h4⟩ := fi_yes ne
    have : (i : Int) = (k : Int) := h2.symm.trans z
    have e : i = k := by omega
    rw [← e]; exact h3
theorem c_kw {b : Nat → Int} {n p k : Nat} {t : Int} {h : Hp} (T : TPk b n h) (C : CTk b n p h) (hp : p ≤ n) (hk : k < 17) (ht : t = mwT k) : fX2_isWord t h = some (if kwN b n p = (k : Int) then 1 else 0) := by
  rw [ht, c_isWord T C hp hk]
  by_cases q : isKw b n p k = true
  · rw [if_pos q, if_pos ((kw_iff hk).mp q)]
  · rw [if_neg q, if_neg (fun z => q ((kw_iff hk).mpr z))]
theorem c_value {b : Nat → Int} {n p : Nat} {h : Hp} (T : TPk b n h) (C : CTk b n p h) (hp : p ≤ n) : fX2_valueHere h = some (vaS b n p) := by
  unfold fX2_valueHere vaS
  rw [c_kw (k := 0) T C hp (by decide) (by decide), c_kw (k := 1) T C hp (by decide) (by decide), c_kw (k := 2) T C hp (by decide) (by decide), c_kw (k := 3) T C hp (by decide) (by decide), c_kw (k := 4) T C hp (by decide) (by decide), c_kw (k := 5) T C hp (by decide) (by decide), c_kw (k := 6) T C hp (by decide) (by decide)]
  have rg := fi_rg (p := isKw b n p) (n := 17)
  have rg' : -1 ≤ kwN b n p ∧ kwN b n p < 17 := rg
  clear rg
  generalize kwN b n p = k at *
  simp only [bp_]
  by_cases q0 : k = ((0 : Nat) : Int)
  · subst q0
    rfl
  rw [if_neg q0, if_pos rfl]
  by_cases q1 : k = ((1 : Nat) : Int)
  · subst q1
    rfl
  rw [if_neg q1, if_pos rfl]
  by_cases q2 : k = ((2 : Nat) : Int)
  · subst q2
    rfl
  rw [if_neg q2, if_pos rfl]
  by_cases q3 : k = ((3 : Nat) : Int)
  · subst q3
    rfl
  rw [if_neg q3, if_pos rfl]
  by_cases q4 : k = ((4 : Nat) : Int)
  · subst q4
    rfl
  rw [if_neg q4, if_pos rfl]
  by_cases q5 : k = ((5 : Nat) : Int)
  · subst q5
    rfl
  rw [if_neg q5, if_pos rfl]
  by_cases q6 : k = ((6 : Nat) : Int)
  · subst q6
    rfl
  rw [if_neg q6, if_pos rfl]
  rw [if_neg (by omega)]
theorem c_rank {o : Int} {h : Hp} : fX2_rankOf o h = some (rkO o) := by
  unfold fX2_rankOf rkO
  by_cases q1 : o = 1
  · rw [if_pos q1, if_pos q1]
  rw [if_neg q1, if_neg q1]
  by_cases q2 : o = 2
  · rw [if_pos q2, if_pos q2]
  rw [if_neg q2, if_neg q2]
  by_cases q3 : o = 3
  · rw [if_pos q3, if_pos q3]
  rw [if_neg q3, if_neg q3]
  by_cases q4 : o = 4
  · rw [if_pos q4, if_pos q4]
  rw [if_neg q4, if_neg q4]
  by_cases q5 : o = 5
  · rw [if_pos q5, if_pos q5]
  rw [if_neg q5, if_neg q5]
  by_cases q6 : o = 6
  · rw [if_pos q6, if_pos q6]
  rw [if_neg q6, if_neg q6]
  by_cases q7 : o = 7
  · rw [if_pos q7, if_pos q7]
  rw [if_neg q7, if_neg q7]
  by_cases q8 : o = 8
  · rw [if_pos q8, if_pos q8]
  rw [if_neg q8, if_neg q8]
  by_cases q9 : o = 9
  · rw [if_pos q9, if_pos q9]
  rw [if_neg q9, if_neg q9]
theorem c_op {b : Nat → Int} {n p : Nat} {h : Hp} (T : TPk b n h) (C : CTk b n p h) (hp : p ≤ n) : fX2_operatorHere h = some (opS b n p) := by
  have hj : fX2_operatorHere_j116 h = some (if kwN b n p = 15 then 1 else if kwN b n p = 14 then 2 else -1) := by
    unfold fX2_operatorHere_j116
    rw [c_kw (k := 15) T C hp (by decide) (by decide), c_kw (k := 14) T C hp (by decide) (by decide)]
    simp only [bp_]
    by_cases q1 : kwN b n p = ((15 : Nat) : Int)
    · rw [if_pos q1, if_pos (show kwN b n p = 15 from q1)]
      rfl
    · rw [if_neg q1, if_neg (show ¬ kwN b n p = 15 from q1), if_pos rfl]
      by_cases q2 : kwN b n p = ((14 : Nat) : Int)
      · rw [if_pos q2, if_pos (show kwN b n p = 14 from q2)]
        rfl
      · rw [if_neg q2, if_neg (show ¬ kwN b n p = 14 from q2), if_pos rfl]
  unfold fX2_operatorHere opS
  rw [C.2.2.2.1, hj]
  generalize tkK b n p = t
  by_cases q42 : t = 42
  · subst q42
    rfl
  rw [if_neg q42]
  by_cases q43 : t = 43
  · subst q43
    rfl
  rw [if_neg q43]
  by_cases q44 : t = 44
  · subst q44
    rfl
  rw [if_neg q44]
  by_cases q45 : t = 45
  · subst q45
    rfl
  rw [if_neg q45]
  by_cases q46 : t = 46
  · subst q46
    rfl
  rw [if_neg q46]
  by_cases q47 : t = 47
  · subst q47
    rfl
  rw [if_neg q47]
  by_cases q48 : t = 48
  · subst q48
    rfl
  rw [if_neg q48]
  by_cases q49 : t = 49
  · subst q49
    rfl
  rw [if_neg q49]
  by_cases q50 : t = 50
  · subst q50
    rfl
  rw [if_neg q50]
  by_cases q51 : t = 51
  · subst q51
    rfl
  rw [if_neg q51]
  by_cases q52 : t = 52
  · subst q52
    rfl
  rw [if_neg q52]
  by_cases q53 : t = 53
  · subst q53
    rfl
  rw [if_neg q53]
  by_cases q54 : t = 54
  · subst q54
    rfl
  rw [if_neg q54]
  by_cases q55 : t = 55
  · subst q55
    rfl
  rw [if_neg q55]
  by_cases q56 : t = 56
  · subst q56
    rfl
  rw [if_neg q56]
  by_cases q57 : t = 57
  · subst q57
    rfl
  rw [if_neg q57]
  by_cases q58 : t = 58
  · subst q58
    rfl
  rw [if_neg q58]
  by_cases q59 : t = 59
  · subst q59
    rfl
  rw [if_neg q59]
  by_cases q60 : t = 60
  · subst q60
    rfl
  rw [if_neg q60]
  by_cases q61 : t = 61
  · subst q61
    rfl
  rw [if_neg q61]
  rw [if_neg q42, if_neg q43, if_neg q45, if_neg q47, if_neg q60, if_neg q61]
def WAc (f : Nat → Int) : List Int → Prop
  | [] => True
  | o :: U => f U.length = o ∧ WAc f U
theorem WAc_cg {f g : Nat → Int} : ∀ {W : List Int}, WAc f W → (∀ i, i < W.length → g i = f i) → WAc g W
  | [], _, _ => trivial
  | o :: U, h, e => ⟨by rw [e U.length (Nat.lt_succ_self _)]; exact h.1, WAc_cg h.2 (fun i hi => e i (Nat.lt_succ_of_lt hi))⟩
/-- what waits, how deep, the code, as the class holds them -/
def CLw (L base win : Nat) (W C : List Int) (h : Hp) : Prop := h 18 8 = (L : Int) ∧ h 18 13 = (W.length : Int) ∧ WAc (h 19) W ∧ h 18 15 = (win : Int) ∧ h 18 14 = ((base + C.length : Nat) : Int) ∧ ∀ j, j < C.length → h (L + 6) (base + j) = C.getD j 0
def SPw (L base : Nat) : Nat → Nat → Prop := fun a k => (a = 18 ∧ (k = 13 ∨ k = 14)) ∨ a = 19 ∨ (a = L + 6 ∧ base ≤ k)
theorem CLw.same {L base win : Nat} {W C : List Int} {h h' : Hp} (D : CLw L base win W C h) (hL : L = 1 ∨ L = 9) (s : ∀ a k, (a = 18 ∧ (k = 8 ∨ (13 ≤ k ∧ k ≤ 15))) ∨ a = 19 ∨ a = L + 6 → h' a k = h a k) : CLw L base win W C h' := by
  obtain ⟨d1, d2, d3, d4, d5, d6⟩ := D
  exact ⟨by rw [s _ _ (by omega)]; exact d1, by rw [s _ _ (by omega)]; exact d2, WAc_cg d3 (fun i _ => s _ _ (by omega)), by rw [s _ _ (by omega)]; exact d4, by rw [s _ _ (by omega)]; exact d5, fun j hj => by rw [s _ _ (by omega)]; exact d6 j hj⟩
theorem getD_snoc {C : List Int} {c : Int} {j : Nat} : (C ++ [c]).getD j 0 = if j < C.length then C.getD j 0 else if j = C.length then c else 0 := by
  rw [List.getD_eq_getElem?_getD, List.getD_eq_getElem?_getD]
  by_cases q : j < C.length
  · rw [if_pos q, List.getElem?_append_left q]
  · rw [if_neg q, List.getElem?_append_right (Nat.not_lt.mp q)]
    by_cases q2 : j = C.length
    · rw [if_pos q2, q2, Nat.sub_self]
      rfl
    · rw [if_neg q2]
      obtain ⟨m, hm⟩ : ∃ m, j - C.length = m + 1 := ⟨j - C.length - 1, by omega⟩
      rw [hm]
      rfl
theorem c_putC {L base win : Nat} {W C : List Int} {c : Int} {h : Hp} (D : CLw L base win W C h) (hL : L = 1 ∨ L = 9) (hs : base + C.length < 700) : wp (fX2_put c h) (fun r => Same (SPw L base) h r.2 ∧ CLw L base win W (C ++ [c]) r.2) := by
  obtain ⟨d1, d2, d3, d4, d5, d6⟩ := D
  have l6 : ((L : Int) + 6).toNat = L + 6 := by clear d1 d2 d4 d5; omega
  unfold fX2_put
  rw [gd_y (by rw [d1]; clear d1 d2 d4 d5; omega), d5, d1]
  refine w_f (by clear d1 d2 d4 d5; omega) ?_
  rw [gd_y (by clear d1 d2 d4 d5; omega), l6, Int.toNat_natCast, wp_lb]
  have y14 : st h (L + 6) (base + C.length) c 18 14 = ((base + C.length : Nat) : Int) := by rw [st_na (by clear d1 d2 d4 d5; omega)]; exact d5
  rw [y14, i1 (by clear d1 d2 d4 d5 y14; omega), wp_lb, wp_some]
  dsimp only
  refine ⟨(Same.rf.st (P := SPw L base) (Or.inr (Or.inr ⟨rfl, by clear d1 d2 d4 d5 y14; omega⟩))).st (Or.inl ⟨rfl, Or.inr rfl⟩), ?_, ?_, WAc_cg d3 (fun i _ => ?_), ?_, ?_, fun j hj => ?_⟩
  · rw [st_nk (by decide), st_na (by clear d1 d2 d4 d5 y14; omega)]; exact d1
  · rw [st_nk (by decide), st_na (by clear d1 d2 d4 d5 y14; omega)]; exact d2
  · rw [st_na (by decide), st_na (by clear d1 d2 d4 d5 y14; omega)]
  · rw [st_nk (by decide), st_na (by clear d1 d2 d4 d5 y14; omega)]; exact d4
  · rw [st_self, List.length_append]; rfl
  · rw [st_na (by clear d1 d2 d4 d5 y14; omega), getD_snoc]
    rw [List.length_append] at hj
    have hj' : j < C.length + 1 := hj
    by_cases q : j = C.length
    · rw [if_neg (by clear d1 d2 d4 d5 y14; omega), if_pos q, q, st_self]
    · rw [if_pos (by clear d1 d2 d4 d5 y14; omega), st_nk (by clear d1 d2 d4 d5 y14; omega)]
      exact d6 j (by clear d1 d2 d4 d5 y14; omega)
theorem c_wait {L base win : Nat} {W C : List Int} {o : Int} {h : Hp} (D : CLw L base win W C h) (hL : L = 1 ∨ L = 9) (hs : W.length < 128) : wp (fX2_makeWait o h) (fun r => Same (SPw L base) h r.2 ∧ CLw L base win (o :: W) C r.2) := by
  obtain ⟨d1, d2, d3, d4, d5, d6⟩ := D
  unfold fX2_makeWait
  rw [d2]
  refine w_f (by clear d1 d2 d4 d5; omega) ?_
  rw [gd_y (by clear d1 d2 d4 d5; omega), Int.toNat_natCast, wp_lb]
  have y13 : st h 19 W.length o 18 13 = (W.length : Int) := by rw [st_na (by decide)]; exact d2
  rw [y13, i1 (by clear d1 d2 d4 d5 y13; omega), wp_lb, wp_some]
  dsimp only
  refine ⟨(Same.rf.st (P := SPw L base) (Or.inr (Or.inl rfl))).st (Or.inl ⟨rfl, Or.inl rfl⟩), ?_, ?_, ⟨?_, WAc_cg d3 (fun i hi => ?_)⟩, ?_, ?_, fun j hj => ?_⟩
  · rw [st_nk (by decide), st_na (by decide)]; exact d1
  · rw [st_self]; rfl
  · rw [st_na (by decide)]; exact st_self
  · rw [st_na (by decide), st_nk (Nat.ne_of_lt hi)]
  · rw [st_nk (by decide), st_na (by decide)]; exact d4
  · rw [st_nk (by decide), st_na (by decide)]; exact d5
  · rw [st_na (by clear d1 d2 d4 d5 y13; omega), st_na (by clear d1 d2 d4 d5 y13; omega)]; exact d6 j hj
theorem stl_s {r o : Int} {W C : List Int} : stl r (o :: W) C = if rkO o < r then (o :: W, C) else stl r W (C ++ [o]) := rfl
theorem c_settle {L base win : Nat} {W C : List Int} {r : Int} {h : Hp} (D : CLw L base win W C h) (hL : L = 1 ∨ L = 9) (hw : W.length ≤ 128) (hs : base + C.length + W.length ≤ 700) : wp (fX2_settle r h) (fun q => Same (SPw L base) h q.2 ∧ CLw L base win (stl r W C).1 (stl r W C).2 q.2) := by
  unfold fX2_settle
  rw [wp_bp]
  refine (wp_for (Q := fun hq : Hp => Same (SPw L base) h hq ∧ CLw L base win (stl r W C).1 (stl r W C).2 hq) (fun k (s : Hp) => ∃ W' C', W'.length + k = W.length ∧ C'.length = C.length + k ∧ stl r W' C' = stl r W C ∧ Same (SPw L base) h s ∧ CLw L base win W' C' s) W.length ?_ ?_ (FU_big (by omega)) ⟨W, C, rfl, rfl, rfl, Same.rf, D⟩).mono ?_
  · rintro k s hk ⟨W', C', e1, e2, e3, e4, e5⟩
    obtain ⟨d1, d2, d3, d4, d5, d6⟩ := e5
    unfold fX2_settle_l0
    cases W' with
    | nil =>
      exfalso
      have e1' : 0 + k = W.length := e1
      clear d1 d2 d4 d5
      omega
    | cons o U =>
      have e1' : U.length + 1 + k = W.length := e1
      have d2' : s 18 13 = ((U.length + 1 : Nat) : Int) := d2
      have l1 : i_sub ((U.length + 1 : Nat) : Int) 1 = (U.length : Int) := by
        clear d1 d2 d2' d4 d5
        rw [isb (by omega) (by omega)]
        omega
      rw [d2', l1, Int.toNat_natCast, d3.1, c_rank]
      refine w_f (by clear d1 d2 d2' d4 d5 l1; omega) (w_f (by clear d1 d2 d2' d4 d5 l1; omega) ?_)
      rw [gd_y (by clear d1 d2 d2' d4 d5 l1; omega), wp_bp, wp_some]
      by_cases q : rkO o < r
      · refine w_t q (wp_some.mpr ?_)
        rw [stl_s, if_pos q] at e3
        rw [← e3]
        exact ⟨e4, d1, d2, d3, d4, d5, d6⟩
      · rw [stl_s, if_neg q] at e3
        refine w_f q ?_
        rw [wp_lb]
        have y13 : st s 18 13 (U.length : Int) 18 13 = (U.length : Int) := st_self
        have y19 : st s 18 13 (U.length : Int) 19 U.length = o := by rw [st_na (by decide)]; exact d3.1
        rw [gd_y (by rw [y13]; clear d1 d2 d2' d4 d5 l1 y13 y19; omega), y13, Int.toNat_natCast, y19, wp_bd]
        have D7 : CLw L base win U C' (st s 18 13 (U.length : Int)) := by
          refine ⟨?_, y13, WAc_cg d3.2 (fun i _ => ?_), ?_, ?_, fun j hj => ?_⟩
          · rw [st_nk (by decide)]; exact d1
          · rw [st_na (by decide)]
          · rw [st_nk (by decide)]; exact d4
          · rw [st_nk (by decide)]; exact d5
          · rw [st_na (by clear d1 d2 d2' d4 d5 l1 y13 y19; omega)]; exact d6 j hj
        refine (c_putC (c := o) D7 hL (by clear d1 d2 d2' d4 d5 l1 y13 y19; omega)).mono ?_
        rintro ⟨v, h11⟩ ⟨g1, g2⟩
        dsimp only at g1 g2 ⊢
        refine wp_some.mpr ⟨U, C' ++ [o], by clear d1 d2 d2' d4 d5 l1 y13 y19; omega, ?_, e3, (e4.st (Or.inl ⟨rfl, Or.inl rfl⟩)).tr g1, g2⟩
        rw [List.length_append]
        show C'.length + 1 = _
        clear d1 d2 d2' d4 d5 l1 y13 y19
        omega
  · rintro s ⟨W', C', e1, e2, e3, e4, e5⟩
    have en : W' = [] := List.eq_nil_of_length_eq_zero (by omega)
    subst en
    unfold fX2_settle_l0
    rw [e5.2.1]
    refine w_t (by decide) (wp_some.mpr ?_)
    have e3' : ([], C') = stl r W C := e3
    rw [← e3']
    exact ⟨e4, e5⟩
  · rintro hq he
    exact wp_some.mpr he
