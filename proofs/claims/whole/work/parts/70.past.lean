/-! pure part: rows remembered -/
theorem RR.cg {D : LD} {ro r r' : Nat → Int} (W : DW D) (R : RR D ro r) (q : ∀ k, k < 62 → r' k = r k) : RR D ro r' := by
  have hn := W.2.2.1
  obtain ⟨r1, r2, r3, r4, r5⟩ := R
  refine ⟨fun t ht => (q _ (by omega)).trans (r1 t ht), fun t ht n => ⟨(q _ (by omega)).trans (r2 t ht n).1, (q _ (by omega)).trans (r2 t ht n).2⟩, fun i hi => ⟨(q _ (by omega)).trans (r3 i hi).1, (q _ (by omega)).trans (r3 i hi).2.1, (q _ (by omega)).trans (r3 i hi).2.2.1, (q _ (by omega)).trans (r3 i hi).2.2.2⟩, (q _ (by omega)).trans r4, (q _ (by omega)).trans r5⟩
def PCl (D : LD) (na : Nat) (P : Nat → Nat → Int) (b : Nat) (h : Hp) : Prop := h b 3 = (na : Int) ∧ ∃ o : Nat, o < 40 ∧ h b 2 = (o : Int) ∧ ∀ i, i < na → RR D (P i) (fun k => h (b + 2) ((o + i) % 40 * 62 + k))
def PMo (D : LD) (na : Nat) (P : Nat → Nat → Int) (y : Nat) (a : Int) (h : Hp) : Prop := a = (na : Int) ∧ ∀ i, i < na → RR D (P i) (fun k => h y (62 * i + k))
theorem past_iff {D : LD} {na : Nat} {P : Nat → Nat → Int} {b y : Nat} {a : Int} {h : Hp} : PastOK D na P b y a h ↔ (na ≤ 40 ∧ (∀ i, i < na → RW D 999 (P i))) ∧ PCl D na P b h ∧ PMo D na P y a h := by
  constructor
  · rintro ⟨c1, c2, c3, c4, c5, c6⟩
    exact ⟨⟨c1, c2⟩, ⟨c3, c5⟩, c4, c6⟩
  · rintro ⟨⟨c1, c2⟩, ⟨c3, c5⟩, c4, c6⟩
    exact ⟨c1, c2, c3, c4, c5, c6⟩
def nP (na : Nat) : Nat := if na = 40 then 40 else na + 1
def pP (na : Nat) (P : Nat → Nat → Int) (ro : Nat → Int) (i : Nat) : Nat → Int := if na = 40 then (if i < 39 then P (i + 1) else ro) else (if i < na then P i else ro)
theorem nP_le {na : Nat} (h : na ≤ 40) : nP na ≤ 40 := by
  unfold nP
  split <;> omega
theorem pP_W {D : LD} {na : Nat} {P : Nat → Nat → Int} {ro : Nat → Int} (h : na ≤ 40) (hP : ∀ i, i < na → RW D 999 (P i)) (R : RW D 999 ro) : ∀ i, i < nP na → RW D 999 (pP na P ro i) := by
  intro i hi
  unfold nP at hi
  unfold pP
  by_cases e : na = 40
  · rw [if_pos e] at hi ⊢
    by_cases e2 : i < 39
    · rw [if_pos e2]; exact hP _ (by omega)
    · rw [if_neg e2]; exact R
  · rw [if_neg e] at hi ⊢
    by_cases e2 : i < na
    · rw [if_pos e2]; exact hP _ e2
    · rw [if_neg e2]; exact R
def SR : Nat → Nat → Prop := fun a k => (a = 26 ∧ (k = 2 ∨ k = 3)) ∨ a = 28
theorem c_latest {o n : Nat} {h : Hp} (h2 : h 26 2 = (o : Int)) (h3 : h 26 3 = ((n + 1 : Nat) : Int)) (ho : o < 40) (hn : n < 40) : fX0_latest_26 h = some ((((o + n) % 40 * 62 : Nat)) : Int) := by
  have e1 : i_add (o : Int) ((n + 1 : Nat) : Int) = ((o + n + 1 : Nat) : Int) := by rw [ia (by omega) (by omega)]; omega
  have e2 : i_sub ((o + n + 1 : Nat) : Int) 1 = ((o + n : Nat) : Int) := im1 (by omega)
  have e3 : i_rem ((o + n : Nat) : Int) 40 = (((o + n) % 40 : Nat) : Int) := i_rem_nat (b := 40) (by omega) (by decide)
  have e4 : i_mul (((o + n) % 40 : Nat) : Int) 62 = (((o + n) % 40 * 62 : Nat) : Int) := by
    rw [i_mul_eq ⟨by clear e1 e2 e3; omega, by clear e1 e2 e3; omega⟩]
    clear e1 e2 e3
    omega
  unfold fX0_latest_26
  rw [h2, h3, e1, e2, e3, e4]
theorem cpy_d {h : Hp} {a0 a1 dp len k : Nat} (h1 : dp ≤ k) (h2 : k < dp + len) : cpy h a0 a1 0 dp len a1 k = h a0 (k - dp) := by
  unfold cpy
  rw [if_pos ⟨rfl, h1, h2⟩, Nat.zero_add]
theorem cpy_o {h : Hp} {a0 a1 sp dp len k : Nat} (n : k < dp ∨ dp + len ≤ k) : cpy h a0 a1 sp dp len a1 k = h a1 k := by
  unfold cpy
  rw [if_neg (by omega)]
theorem cpy_a {h : Hp} {a0 a1 sp dp len a k : Nat} (n : a ≠ a1) : cpy h a0 a1 sp dp len a k = h a k := by
  unfold cpy
  rw [if_neg (fun q => n q.1)]
theorem c_remember {D : LD} {na : Nat} {P : Nat → Nat → Int} {ro : Nat → Int} {h : Hp} (W : DW D) (hr : RR D ro (h 27)) (ha : na ≤ 40) (Q : PCl D na P 26 h) : wp (fX0_remember_26 h) (fun r => Same SR h r.2 ∧ PCl D (nP na) (pP na P ro) 26 r.2) := by
  obtain ⟨q3, o, ho, q2, qp⟩ := Q
  -- the row copied into slot s
  have fin : ∀ (h1 : Hp) (o' s n' : Nat), Same SR h h1 → (∀ a k, a ≠ 26 → h1 a k = h a k) → h1 26 2 = (o' : Int) → h1 26 3 = ((n' + 1 : Nat) : Int) → o' < 40 → n' < 40 → (o' + n') % 40 = s → nP na = n' + 1 → (∀ i, i < nP na → ((o' + i) % 40 = s ∧ pP na P ro i = ro) ∨ ((o' + i) % 40 ≠ s ∧ RR D (pP na P ro i) (fun k => h 28 ((o' + i) % 40 * 62 + k)))) → wp (fX0_remember_26_j35 h1) (fun r => Same SR h r.2 ∧ PCl D (nP na) (pP na P ro) 26 r.2) := by
    intro h1 o' s n' s1 so g2 g3 ho' hn' es en hi
    unfold fX0_remember_26_j35
    rw [c_latest g2 g3 ho' hn', es, wp_bp, wp_some]
    have hs : s < 40 := by omega
    rw [gd_y ⟨by omega, by omega, by omega, by omega, by omega⟩, wp_lb, wp_some, Int.toNat_natCast]
    show Same SR h (cpy h1 27 28 0 (s * 62) 62) ∧ PCl D (nP na) (pP na P ro) 26 (cpy h1 27 28 0 (s * 62) 62)
    refine ⟨s1.tr (cpy_same (P := SR) (fun k _ _ => Or.inr rfl)), by rw [cpy_a (by decide), en]; exact g3, o', ho', by rw [cpy_a (by decide)]; exact g2, fun i hi' => ?_⟩
    rcases hi i hi' with ⟨e1, e2⟩ | ⟨e1, e2⟩
    · rw [e1, e2]
      refine hr.cg W (fun k hk => ?_)
      show cpy h1 27 28 0 (s * 62) 62 28 (s * 62 + k) = _
      rw [cpy_d (by omega) (by omega), show s * 62 + k - s * 62 = k by omega, so _ _ (by decide)]
    · refine e2.cg W (fun k hk => ?_)
      show cpy h1 27 28 0 (s * 62) 62 28 ((o' + i) % 40 * 62 + k) = _
      have hlt : (o' + i) % 40 < 40 := Nat.mod_lt _ (by decide)
      rw [cpy_o (by omega), so _ _ (by decide)]
  unfold fX0_remember_26
  rw [q3]
  by_cases e : na = 40
  · have em : i_rem (i_add (h 26 2) 1) 40 = (((o + 1) % 40 : Nat) : Int) := by rw [q2, i1 (by omega)]; exact i_rem_nat (b := 40) (by omega) (by decide)
    rw [if_pos (by omega), em, wp_lb]
    refine fin (st h 26 2 (((o + 1) % 40 : Nat) : Int)) ((o + 1) % 40) o 39 (st_same (Or.inl ⟨rfl, Or.inl rfl⟩)) (fun a k n => st_na n) st_self ?_ (Nat.mod_lt _ (by decide)) (by decide) (by omega) (by unfold nP; rw [if_pos e]) ?_
    · rw [st_nk (by decide), q3, e]
    · intro i hi
      unfold nP at hi
      rw [if_pos e] at hi
      unfold pP
      rw [if_pos e]
      by_cases e2 : i < 39
      · rw [if_pos e2]
        refine Or.inr ⟨by omega, ?_⟩
        have := qp (i + 1) (by omega)
        rw [show ((o + 1) % 40 + i) % 40 = (o + (i + 1)) % 40 by omega]
        exact this
      · rw [if_neg e2]
        exact Or.inl ⟨by omega, rfl⟩
  · have en : nP na = na + 1 := by unfold nP; rw [if_neg e]
    rw [if_neg (by omega), i1 (by omega), wp_lb]
    refine fin (st h 26 3 ((na + 1 : Nat) : Int)) o ((o + na) % 40) na (st_same (Or.inl ⟨rfl, Or.inr rfl⟩)) (fun a k n => st_na n) (by rw [st_nk (by decide)]; exact q2) st_self ho (by omega) rfl en ?_
    intro i hi
    rw [en] at hi
    unfold pP
    rw [if_neg e]
    by_cases e2 : i < na
    · rw [if_pos e2]
      exact Or.inr ⟨by omega, qp i e2⟩
    · rw [if_neg e2]
      refine Or.inl ⟨?_, rfl⟩
      rw [show i = na by omega]
def SK : Nat → Nat → Prop := fun a k => a = 56 ∨ (a = 35 ∧ k = 49)
theorem m_keeps {D : LD} {na : Nat} {P : Nat → Nat → Int} {ro : Nat → Int} {h : Hp} (W : DW D) (hr : RR D ro (h 54)) (ha : na ≤ 40) (Q : PMo D na P 56 (h 35 49) h) : wp (fX6_keeps h) (fun r => Same SK h r.2 ∧ PMo D (nP na) (pP na P ro) 56 (r.2 35 49) r.2) := by
  obtain ⟨q1, qp⟩ := Q
  have loop : ∀ (n : Nat) (h1 : Hp), n < 40 → h1 35 49 = (n : Int) → wp (it_ (fun s : Int × Hp => fX6_keeps_l52 s.1 s.2) FU (0, h1)) (fun hq => Same (fun a _ => a = 56) h1 hq ∧ (∀ k, k < 62 → hq 56 (62 * n + k) = h1 54 k) ∧ ∀ j, j < 62 * n → hq 56 j = h1 56 j) := by
    intro n h1 hn h49
    refine wp_for (fun k (s : Int × Hp) => s.1 = (k : Int) ∧ Same (fun a _ => a = 56) h1 s.2 ∧ (∀ j, j < k → s.2 56 (62 * n + j) = h1 54 j) ∧ ∀ j, j < 62 * n → s.2 56 j = h1 56 j) 62 ?_ ?_ (FU_big (by decide)) ⟨rfl, Same.rf, fun j hj => absurd hj (by omega), fun _ _ => rfl⟩
    · rintro k ⟨x, hh⟩ hk ⟨e1, e2, e3, e4⟩
      dsimp only at e1 e2 e3 e4 ⊢
      subst e1
      have b49 : hh 35 49 = (n : Int) := by rw [e2 _ _ (by omega)]; exact h49
      have b54 : hh 54 k = h1 54 k := e2 _ _ (by omega)
      have em : i_mul 62 (n : Int) = ((62 * n : Nat) : Int) := by rw [i_mul_eq ⟨by omega, by omega⟩]; omega
      unfold fX6_keeps_l52
      rw [b49, em, ik (by clear em; omega) (by clear em; omega), Int.toNat_natCast, Int.toNat_natCast, b54, i1 (by clear em; omega)]
      clear em
      refine w_f (by omega) ?_
      rw [gd_y ⟨by omega, by omega⟩, gd_y ⟨by omega, by omega⟩, wp_lb, wp_some]
      refine ⟨rfl, e2.st rfl, fun j hj => ?_, fun j hj => ?_⟩
      · show st hh 56 (62 * n + k) _ 56 (62 * n + j) = _
        by_cases ej : j = k
        · subst ej; rw [st_self]
        · rw [st_nk (by omega)]; exact e3 j (by omega)
      · show st hh 56 (62 * n + k) _ 56 j = _
        rw [st_nk (by omega)]; exact e4 j hj
    · rintro ⟨x, hh⟩ ⟨e1, e2, e3, e4⟩
      dsimp only at e1 e2 e3 e4 ⊢
      subst e1
      unfold fX6_keeps_l52
      exact w_t (by decide) (wp_some.mpr ⟨e2, e3, e4⟩)
  unfold fX6_keeps
  rw [q1]
  by_cases e : na = 40
  · rw [if_pos (by omega), wp_bp]
    have sh : wp (it_ (fun s : Int × Hp => fX6_keeps_l12 s.1 s.2) FU (62, h)) (fun hq => Same (fun a _ => a = 56) h hq ∧ ∀ j, j < 2418 → hq 56 j = h 56 (j + 62)) := by
      refine wp_for (fun k (s : Int × Hp) => s.1 = ((k + 62 : Nat) : Int) ∧ Same (fun a _ => a = 56) h s.2 ∧ (∀ j, j < k → s.2 56 j = h 56 (j + 62)) ∧ ∀ j, k ≤ j → s.2 56 j = h 56 j) 2418 ?_ ?_ (FU_big (by decide)) ⟨rfl, Same.rf, fun j hj => absurd hj (by omega), fun _ _ => rfl⟩
      · rintro k ⟨x, hh⟩ hk ⟨e1, e2, e3, e4⟩
        dsimp only at e1 e2 e3 e4 ⊢
        subst e1
        have es : i_sub ((k + 62 : Nat) : Int) 62 = (k : Int) := by rw [isb (by omega) (by omega)]; omega
        unfold fX6_keeps_l12
        rw [es, Int.toNat_natCast, Int.toNat_natCast, e4 (k + 62) (by clear es; omega), i1 (by clear es; omega)]
        clear es
        refine w_f (by omega) ?_
        rw [gd_y ⟨by omega, by omega⟩, gd_y ⟨by omega, by omega⟩, wp_lb, wp_some]
        refine ⟨by show ((k + 62 + 1 : Nat) : Int) = ((k + 1 + 62 : Nat) : Int); omega, e2.st rfl, fun j hj => ?_, fun j hj => ?_⟩
        · show st hh 56 k _ 56 j = _
          by_cases ej : j = k
          · subst ej; rw [st_self]
          · rw [st_nk ej]; exact e3 j (by omega)
        · show st hh 56 k _ 56 j = _
          rw [st_nk (by omega)]; exact e4 j (by omega)
      · rintro ⟨x, hh⟩ ⟨e1, e2, e3, e4⟩
        dsimp only at e1 e2 e3 e4 ⊢
        subst e1
        unfold fX6_keeps_l12
        exact w_t (by decide) (wp_some.mpr ⟨e2, e3⟩)
    refine sh.mono ?_
    rintro h16 ⟨s16, v16⟩
    have b49 : h16 35 49 = (na : Int) := by rw [s16 _ _ (by omega)]; exact q1
    dsimp only
    rw [b49, e]
    rw [show i_sub ((40 : Nat) : Int) 1 = ((39 : Nat) : Int) by decide, wp_lb, wp_bp]
    refine (loop 39 (st h16 35 49 ((39 : Nat) : Int)) (by decide) st_self).mono ?_
    rintro h19 ⟨s19, v19, w19⟩
    have c49 : h19 35 49 = ((39 : Nat) : Int) := by rw [s19 _ _ (by omega), st_self]
    rw [c49, show i_add ((39 : Nat) : Int) 1 = ((40 : Nat) : Int) by decide, wp_lb, wp_some]
    refine ⟨?_, by show st h19 35 49 ((40 : Nat) : Int) 35 49 = _; rw [st_self]; unfold nP; rw [if_pos rfl], fun i hi => ?_⟩
    · exact (((s16.mono (fun a k p => Or.inl p)).st (Or.inr ⟨rfl, rfl⟩)).tr (s19.mono (fun a k p => Or.inl p))).st (Or.inr ⟨rfl, rfl⟩)
    · unfold nP at hi
      rw [if_pos rfl] at hi
      unfold pP
      rw [if_pos rfl]
      by_cases e2 : i < 39
      · rw [if_pos e2]
        refine (qp (i + 1) (by omega)).cg W (fun k hk => ?_)
        show st h19 35 49 ((40 : Nat) : Int) 56 (62 * i + k) = h 56 (62 * (i + 1) + k)
        rw [st_na (by decide), w19 _ (by omega), st_na (by decide), v16 _ (by omega)]
        congr 1
        omega
      · rw [if_neg e2]
        refine hr.cg W (fun k hk => ?_)
        show st h19 35 49 ((40 : Nat) : Int) 56 (62 * i + k) = h 54 k
        have : i = 39 := by omega
        subst this
        rw [st_na (by decide), v19 k hk, st_na (by decide), s16 _ _ (by omega)]
  · rw [if_neg (by omega), wp_bp]
    refine (loop na h (by omega) q1).mono ?_
    rintro h19 ⟨s19, v19, w19⟩
    have c49 : h19 35 49 = (na : Int) := by rw [s19 _ _ (by omega)]; exact q1
    dsimp only
    rw [c49, i1 (by omega), wp_lb, wp_some]
    refine ⟨(s19.mono (fun a k p => Or.inl p)).st (Or.inr ⟨rfl, rfl⟩), by show st h19 35 49 ((na + 1 : Nat) : Int) 35 49 = _; rw [st_self]; unfold nP; rw [if_neg e], fun i hi => ?_⟩
    unfold nP at hi
    rw [if_neg e] at hi
    unfold pP
    rw [if_neg e]
    by_cases e2 : i < na
    · rw [if_pos e2]
      refine (qp i e2).cg W (fun k hk => ?_)
      show st h19 35 49 ((na + 1 : Nat) : Int) 56 (62 * i + k) = h 56 (62 * i + k)
      rw [st_na (by decide), w19 _ (by omega)]
    · rw [if_neg e2]
      refine hr.cg W (fun k hk => ?_)
      show st h19 35 49 ((na + 1 : Nat) : Int) 56 (62 * i + k) = h 54 k
      have : i = na := by omega
      subst this
      rw [st_na (by decide), v19 k hk]
