/-! pure part: the reference reads a law, its parts -/
def moW (o : Int) : Int := if o = 0 then 14 else if o = 1 then 5 else if o = 2 then 4 else if o = 3 then 3 else o + 2
theorem mo_open {o : Int} {h : Hp} (ho : 0 ≤ o ∧ o ≤ 9) : fX6_isOpen (moW o) h = some (if o = 0 then 1 else 0) := by
  rcases o9 ho with e | e | e | e | e | e | e | e | e | e <;> rw [e] <;> rfl
theorem mo_rank {o : Int} {h : Hp} (ho : 0 ≤ o ∧ o ≤ 9) (n0 : o ≠ 0) : fX6_strength (moW o) h = some (rkO o) := by
  rcases o9 ho with e | e | e | e | e | e | e | e | e | e
  · exact absurd e n0
  all_goals rw [e]; rfl
/-! code -/
theorem MPc_le {f : Nat → Int} : ∀ (C : List Int) (p q : Nat), MPc f p C q → p ≤ q ∧ q ≤ p + 2 * C.length
  | [], p, q, h => by
    have e : p = q := h
    omega
  | c :: r, p, q, h => by
    unfold MPc at h
    show p ≤ q ∧ q ≤ p + 2 * (r.length + 1)
    by_cases q1 : 100 ≤ c
    · rw [if_pos q1] at h; have := MPc_le r _ _ h.2.2; omega
    · rw [if_neg q1] at h
      by_cases q2 : 20 ≤ c
      · rw [if_pos q2] at h; have := MPc_le r _ _ h.2.2; omega
      · rw [if_neg q2] at h; have := MPc_le r _ _ h.2; omega
theorem MPc_loc {f g : Nat → Int} : ∀ (C : List Int) (p q : Nat), MPc f p C q → (∀ k, p ≤ k → k < q → g k = f k) → MPc g p C q
  | [], p, q, h, _ => h
  | c :: r, p, q, h, e => by
    unfold MPc at h ⊢
    by_cases q1 : 100 ≤ c
    · rw [if_pos q1] at h ⊢
      have l := MPc_le r _ _ h.2.2
      exact ⟨by rw [e _ (by omega) (by omega)]; exact h.1, by rw [e _ (by omega) (by omega)]; exact h.2.1, MPc_loc r _ _ h.2.2 (fun k h1 h2 => e k (by omega) h2)⟩
    · rw [if_neg q1] at h ⊢
      by_cases q2 : 20 ≤ c
      · rw [if_pos q2] at h ⊢
        have l := MPc_le r _ _ h.2.2
        exact ⟨by rw [e _ (by omega) (by omega)]; exact h.1, by rw [e _ (by omega) (by omega)]; exact h.2.1, MPc_loc r _ _ h.2.2 (fun k h1 h2 => e k (by omega) h2)⟩
      · rw [if_neg q2] at h ⊢
        have l := MPc_le r _ _ h.2
        exact ⟨by rw [e _ (by omega) (by omega)]; exact h.1, MPc_loc r _ _ h.2 (fun k h1 h2 => e k (by omega) h2)⟩
theorem MPc_app {f : Nat → Int} : ∀ (C B : List Int) (p q r : Nat), MPc f p C q → MPc f q B r → MPc f p (C ++ B) r
  | [], B, p, q, r, h1, h2 => by
    have e : p = q := h1
    rw [e]; exact h2
  | c :: t, B, p, q, r, h1, h2 => by
    rw [List.cons_append]
    unfold MPc at h1 ⊢
    by_cases q1 : 100 ≤ c
    · rw [if_pos q1] at h1 ⊢; exact ⟨h1.1, h1.2.1, MPc_app t B _ q r h1.2.2 h2⟩
    · rw [if_neg q1] at h1 ⊢
      by_cases q2 : 20 ≤ c
      · rw [if_pos q2] at h1 ⊢; exact ⟨h1.1, h1.2.1, MPc_app t B _ q r h1.2.2 h2⟩
      · rw [if_neg q2] at h1 ⊢; exact ⟨h1.1, MPc_app t B _ q r h1.2 h2⟩
theorem MPc_op {f : Nat → Int} {o : Int} {q : Nat} (ho : 1 ≤ o ∧ o ≤ 9) (h : f q = moW o) : MPc f q [o] (q + 1) := by
  unfold MPc
  rw [if_neg (by omega), if_neg (by omega)]
  refine ⟨?_, rfl⟩
  rw [h]
  unfold moW
  rw [if_neg (by omega)]
/-! tests -/
def fgW : List Int → Bool
  | [] => false
  | o :: U => if o = 0 then false else (fgW U || decide (rkO o = 4))
def blW : List Int → List Int
  | [] => []
  | o :: U => if o = 0 then U else blW U
def b01 (b : Bool) : Int := if b = true then 1 else 0
def FGr (f : Nat → Int) : Nat → List Int → Prop
  | 0, W => f 1 = b01 (fgW W)
  | w + 1, W => f (w + 2) = b01 (fgW W) ∧ FGr f w (blW W)
theorem FGr_cg {f : Nat → Int} {w : Nat} {W V : List Int} (h : FGr f w W) (e1 : fgW V = fgW W) (e2 : blW V = blW W) : FGr f w V := by
  cases w with
  | zero => show f 1 = b01 (fgW V); rw [e1]; exact h
  | succ w => exact ⟨by rw [e1]; exact h.1, by rw [e2]; exact h.2⟩
theorem FGr_loc {f g : Nat → Int} : ∀ {w : Nat} {W : List Int}, FGr f w W → (∀ k, k ≤ w + 1 → g k = f k) → FGr g w W
  | 0, W, h, e => by show g 1 = _; rw [e 1 (by omega)]; exact h
  | w + 1, W, h, e => ⟨by rw [e _ (by omega)]; exact h.1, FGr_loc h.2 (fun k hk => e k (by omega))⟩
theorem FGr_top {f g : Nat → Int} {w : Nat} {W V : List Int} (h : FGr f w W) (e : ∀ k, k ≤ w → g k = f k) (e1 : g (w + 1) = b01 (fgW V)) (e2 : blW V = blW W) : FGr g w V := by
  cases w with
  | zero => exact e1
  | succ w => exact ⟨e1, by rw [e2]; exact FGr_loc h.2 (fun k hk => e k (by omega))⟩
theorem FGr_v {f : Nat → Int} {w : Nat} {W : List Int} (h : FGr f w W) : f (w + 1) = b01 (fgW W) := by
  cases w with
  | zero => exact h
  | succ w => exact h.1
theorem fgW_4 : ∀ {W : List Int}, stW W → fgW W = true → 4 ≤ rkO (tpW W)
  | [], _, h => absurd h (by decide)
  | o :: U, h, hf => by
    obtain ⟨h1, h2, h3, h4⟩ := h
    show 4 ≤ rkO o
    unfold fgW at hf
    by_cases q0 : o = 0
    · rw [if_pos q0] at hf; exact absurd hf (by decide)
    · rw [if_neg q0, Bool.or_eq_true] at hf
      rcases hf with z | z
      · have := fgW_4 h4 z
        rcases h2 with y | y | y | y
        · exact absurd y q0
        · rw [y] at this; exact absurd this (by decide)
        · omega
        · rw [y.2] at this; exact absurd this (by decide)
      · have := of_decide_eq_true z
        omega
theorem stl_bl {r : Int} (hr : 1 ≤ r) : ∀ (W C : List Int), blW (stl r W C).1 = blW W
  | [], C => rfl
  | o :: U, C => by
    rw [stl_s]
    by_cases q : rkO o < r
    · rw [if_pos q]
    · rw [if_neg q, stl_bl hr U]
      have n0 : o ≠ 0 := fun z => q (by rw [z]; have : rkO 0 = 0 := rfl; omega)
      show blW U = if o = 0 then U else blW U
      rw [if_neg n0]
theorem stl_fg5 {r : Int} (hr : 5 ≤ r) : ∀ (W C : List Int), fgW (stl r W C).1 = fgW W
  | [], C => rfl
  | o :: U, C => by
    rw [stl_s]
    by_cases q : rkO o < r
    · rw [if_pos q]
    · rw [if_neg q, stl_fg5 hr U]
      have n0 : o ≠ 0 := fun z => q (by rw [z]; have : rkO 0 = 0 := rfl; omega)
      show fgW U = if o = 0 then false else (fgW U || decide (rkO o = 4))
      rw [if_neg n0, decide_eq_false (by omega), Bool.or_false]
/-- no test waits: settling tests too is the same -/
theorem stl_45 : ∀ (W C : List Int), fgW W = false → stl 4 W C = stl 5 W C
  | [], C, _ => rfl
  | o :: U, C, h => by
    rw [stl_s, stl_s]
    unfold fgW at h
    by_cases q0 : o = 0
    · rw [if_pos (by rw [q0]; decide), if_pos (by rw [q0]; decide)]
    · rw [if_neg q0, Bool.or_eq_false_iff] at h
      have h4 : rkO o ≠ 4 := of_decide_eq_false h.2
      by_cases q : rkO o < 4
      · rw [if_pos q, if_pos (by omega)]
      · rw [if_neg q, if_neg (by omega)]
        exact stl_45 U _ h.1
theorem stl_t4 {W C : List Int} (h : stW W) (hw : wfR C 0 (boW W + 1)) : rkO (tpW (stl 5 W C).1) = 4 ↔ fgW W = true := by
  obtain ⟨c1, c2, c3, c4, c5, c6⟩ := stl_ok (r := 5) (by decide) W C h hw
  have e := stl_fg5 (r := 5) (by decide) W C
  constructor
  · intro z
    rw [← e]
    cases hW : (stl 5 W C).1 with
    | nil => rw [hW] at z; exact absurd z (by decide)
    | cons o U =>
      rw [hW] at z
      have z' : rkO o = 4 := z
      have n0 : o ≠ 0 := fun y => by rw [y] at z'; exact absurd z' (by decide)
      show (if o = 0 then false else (fgW U || decide (rkO o = 4))) = true
      rw [if_neg n0, decide_eq_true z', Bool.or_true]
  · intro z
    rw [← e] at z
    have := fgW_4 c1 z
    omega
/-- what waits, how deep, tests, the code, as the reference holds them -/
def RLw (p0 win : Nat) (W C : List Int) (h : Hp) : Prop := h 35 32 = (W.length : Int) ∧ WAc (h 52) (W.map moW) ∧ h 35 33 = ((win + 1 : Nat) : Int) ∧ FGr (h 53) win W ∧ ∃ q : Nat, h 35 31 = (q : Int) ∧ MPc (h 51) p0 C q
def SRp (p0 : Nat) : Nat → Nat → Prop := fun a k => (a = 35 ∧ (k = 31 ∨ k = 32)) ∨ (a = 51 ∧ p0 ≤ k) ∨ a = 52
theorem RLw.same {p0 win : Nat} {W C : List Int} {h h' : Hp} (D : RLw p0 win W C h) (s : ∀ a k, (a = 35 ∧ 31 ≤ k ∧ k ≤ 33) ∨ (51 ≤ a ∧ a ≤ 53) → h' a k = h a k) : RLw p0 win W C h' := by
  obtain ⟨d1, d2, d3, d4, q, d5, d6⟩ := D
  exact ⟨by rw [s _ _ (by omega)]; exact d1, WAc_cg d2 (fun i _ => s _ _ (by omega)), by rw [s _ _ (by omega)]; exact d3, FGr_loc d4 (fun k _ => s _ _ (by omega)), q, by rw [s _ _ (by omega)]; exact d5, MPc_loc _ _ _ d6 (fun k _ _ => s _ _ (by omega))⟩
theorem m_waits {p0 win : Nat} {W C : List Int} {o : Int} {h : Hp} (h1 : h 35 32 = (W.length : Int)) (h2 : WAc (h 52) (W.map moW)) (hw : W.length < 950) : wp (fX6_waitsFor (moW o) h) (fun r => Same (fun a k => (a = 35 ∧ k = 32) ∨ a = 52) h r.2 ∧ r.2 35 32 = (((o :: W).length : Nat) : Int) ∧ WAc (r.2 52) ((o :: W).map moW)) := by
  unfold fX6_waitsFor
  rw [gd_y (by rw [h1]; clear h1; omega), h1, Int.toNat_natCast, wp_lb]
  have y : st h 52 W.length (moW o) 35 32 = (W.length : Int) := by rw [st_na (by decide)]; exact h1
  rw [y, i1 (by clear h1 y; omega), wp_lb, wp_some]
  dsimp only
  refine ⟨(Same.rf.st (P := fun a k => (a = 35 ∧ k = 32) ∨ a = 52) (Or.inr rfl)).st (Or.inl ⟨rfl, rfl⟩), st_self, ?_, WAc_cg h2 (fun i hi => ?_)⟩
  · show st (st h 52 W.length (moW o)) 35 32 _ 52 (W.map moW).length = moW o
    rw [st_na (by decide), List.length_map]; exact st_self
  · rw [List.length_map] at hi
    rw [st_na (by decide), st_nk (Nat.ne_of_lt hi)]
theorem m_puts {v : Int} {q : Nat} {h : Hp} (h1 : h 35 31 = (q : Int)) (hq : q < 2800) : fX6_puts v h = some (0, st (st h 51 q v) 35 31 ((q + 1 : Nat) : Int)) := by
  unfold fX6_puts
  rw [gd_y (by rw [h1]; clear h1; omega), h1, Int.toNat_natCast]
  have y : st h 51 q v 35 31 = (q : Int) := by rw [st_na (by decide)]; exact h1
  unfold lb_
  dsimp only
  rw [y, i1 (by clear h1 y; omega)]
theorem m_drops {p0 win : Nat} {W C : List Int} {r : Int} {h : Hp} (D : RLw p0 win W C h) (hst : ∀ o, o ∈ W → 0 ≤ o ∧ o ≤ 9) (hr : 0 ≤ r) (hw : W.length ≤ 900) (hs : p0 + 2 * C.length + 2 * W.length < 2800) :
    wp (fX6_drops r h) (fun x => Same (SRp p0) h x.2 ∧ x.2 35 32 = ((stl (if r = 0 then 1 else r) W C).1.length : Int) ∧ WAc (x.2 52) ((stl (if r = 0 then 1 else r) W C).1.map moW) ∧ ∃ q : Nat, x.2 35 31 = (q : Int) ∧ MPc (x.2 51) p0 (stl (if r = 0 then 1 else r) W C).2 q) := by
  generalize hr' : (if r = 0 then 1 else r) = r' at *
  have r1 : 1 ≤ r' := by
    rw [← hr']
    by_cases z : r = 0
    · rw [if_pos z]; decide
    · rw [if_neg z]; omega
  unfold fX6_drops
  rw [wp_bp]
  refine (wp_for (Q := fun hq : Hp => Same (SRp p0) h hq ∧ hq 35 32 = ((stl r' W C).1.length : Int) ∧ WAc (hq 52) ((stl r' W C).1.map moW) ∧ ∃ q : Nat, hq 35 31 = (q : Int) ∧ MPc (hq 51) p0 (stl r' W C).2 q) (fun k (s : Hp) => ∃ W' C', W'.length + k = W.length ∧ C'.length = C.length + k ∧ (∀ o, o ∈ W' → 0 ≤ o ∧ o ≤ 9) ∧ stl r' W' C' = stl r' W C ∧ Same (SRp p0) h s ∧ s 35 32 = (W'.length : Int) ∧ WAc (s 52) (W'.map moW) ∧ ∃ q : Nat, s 35 31 = (q : Int) ∧ MPc (s 51) p0 C' q) W.length ?_ ?_ (FU_big (by omega)) ⟨W, C, rfl, rfl, hst, rfl, Same.rf, D.1, D.2.1, D.2.2.2.2⟩).mono ?_
  · rintro k s hk ⟨W', C', e1, e2, e0, e3, e4, e5, e6, q, e7, e8⟩
    unfold fX6_drops_l0
    cases W' with
    | nil =>
      exfalso
      have e1' : 0 + k = W.length := e1
      clear e5 e7
      omega
    | cons o U =>
      have e1' : U.length + 1 + k = W.length := e1
      have e5' : s 35 32 = ((U.length + 1 : Nat) : Int) := e5
      have ho := e0 o (List.mem_cons_self ..)
      have l1 : i_sub ((U.length + 1 : Nat) : Int) 1 = (U.length : Int) := by
        clear e5 e5' e7
        rw [isb (by omega) (by omega)]
        omega
      have x52 : s 52 U.length = moW o := by
        have := e6.1
        rw [List.length_map] at this
        exact this
      have ql := MPc_le _ _ _ e8
      rw [e5', l1, Int.toNat_natCast, x52, mo_open ho]
      refine w_f (by clear e5 e5' e7 l1; omega) ?_
      rw [gd_y (by clear e5 e5' e7 l1; omega), wp_bp, wp_some]
      by_cases q0 : o = 0
      · rw [if_pos q0]
        refine w_f (by decide) (wp_some.mpr ?_)
        rw [stl_s, if_pos (by rw [q0]; have : rkO 0 = 0 := rfl; clear e5 e5' e7 l1; omega)] at e3
        rw [← e3]
        exact ⟨e4, e5, e6, q, e7, e8⟩
      · rw [if_neg q0]
        refine w_t rfl ?_
        rw [gd_y (by clear e5 e5' e7 l1; omega), mo_rank ho q0, wp_bp, wp_some]
        have k1 : 1 ≤ rkO o := by
          by_cases z : rkO o < 1
          · exact absurd ((rkO_0 ho).mp z) q0
          · clear e5 e5' e7 l1; omega
        have iff : rkO o < r ↔ rkO o < r' := by
          rw [← hr']
          by_cases z : r = 0
          · rw [if_pos z, z]; clear e5 e5' e7 l1; omega
          · rw [if_neg z]
        by_cases qr : rkO o < r
        · refine w_t qr (wp_some.mpr ?_)
          rw [stl_s, if_pos (iff.mp qr)] at e3
          rw [← e3]
          exact ⟨e4, e5, e6, q, e7, e8⟩
        · rw [stl_s, if_neg (fun z => qr (iff.mpr z))] at e3
          refine w_f qr ?_
          rw [wp_lb]
          have y32 : st s 35 32 (U.length : Int) 35 32 = (U.length : Int) := st_self
          have y52 : st s 35 32 (U.length : Int) 52 U.length = moW o := by rw [st_na (by decide)]; exact x52
          have y31 : st s 35 32 (U.length : Int) 35 31 = (q : Int) := by rw [st_nk (by decide)]; exact e7
          rw [gd_y (by rw [y32]; clear e5 e5' e7 l1 y32 y31; omega), y32, Int.toNat_natCast, y52, m_puts y31 (by clear e5 e5' e7 l1 y32 y31; omega), wp_bd, wp_some, wp_some, E2_l]
          dsimp only
          refine ⟨U, C' ++ [o], by clear e5 e5' e7 l1 y32 y31; omega, ?_, fun x hx => e0 x (List.mem_cons_of_mem _ hx), e3, ?_, ?_, ?_, q + 1, st_self, ?_⟩
          · rw [List.length_append]
            show C'.length + 1 = _
            clear e5 e5' e7 l1 y32 y31
            omega
          · exact ((e4.st (Or.inl ⟨rfl, Or.inr rfl⟩)).st (Or.inr (Or.inl ⟨rfl, ql.1⟩))).st (Or.inl ⟨rfl, Or.inl rfl⟩)
          · rw [st_nk (by decide), st_na (by decide)]; exact y32
          · refine WAc_cg e6.2 (fun i _ => ?_)
            rw [st_na (by decide), st_na (by decide), st_na (by decide)]
          · refine MPc_app C' [o] p0 q (q + 1) (MPc_loc _ _ _ e8 (fun k h1 h2 => ?_)) (MPc_op ⟨?_, ho.2⟩ ?_)
            · rw [st_na (by decide), st_nk (Nat.ne_of_lt h2), st_na (by decide)]
            · clear e5 e5' e7 l1 y32 y31
              omega
            · rw [st_na (by decide)]; exact st_self
  · rintro s ⟨W', C', e1, e2, e0, e3, e4, e5, e6, q, e7, e8⟩
    have en : W' = [] := List.eq_nil_of_length_eq_zero (by clear e5 e7; omega)
    subst en
    unfold fX6_drops_l0
    rw [e5]
    refine w_t (by decide) (wp_some.mpr ?_)
    have e3' : ([], C') = stl r' W C := e3
    rw [← e3']
    exact ⟨e4, e5, e6, q, e7, e8⟩
  · rintro hq he
    exact wp_some.mpr he
/-- behind a flaw: all that counts is that it ends -/
def WKr (h : Hp) : Prop := ∃ w q : Nat, h 35 32 = (w : Int) ∧ h 35 31 = (q : Int) ∧ w ≤ 900 ∧ q + w ≤ 2790
theorem WKr.same {h h' : Hp} (D : WKr h) (e1 : h' 35 31 = h 35 31) (e2 : h' 35 32 = h 35 32) : WKr h' := by
  obtain ⟨w, q, d1, d2, d3⟩ := D
  exact ⟨w, q, by rw [e2]; exact d1, by rw [e1]; exact d2, d3⟩
theorem m_dropsW {h : Hp} (D : WKr h) : wp (fX6_drops 0 h) (fun x => Same (SRp 0) h x.2 ∧ WKr x.2) := by
  obtain ⟨w, q, d1, d2, d3, d4⟩ := D
  unfold fX6_drops
  rw [wp_bp]
  have go : ∀ v : Int, ∃ z, fX6_isOpen v h = some z := fun v => by
    unfold fX6_isOpen
    by_cases y : v < 14
    · rw [if_pos y]; exact ⟨_, rfl⟩
    · rw [if_neg y]; exact ⟨_, rfl⟩
  have gs : ∀ (v : Int) (h' : Hp), ∃ z, fX6_strength v h' = some z := fun v h' => by
    unfold fX6_strength
    repeat' split
    all_goals exact ⟨_, rfl⟩
  refine (wp_for (Q := fun hq : Hp => Same (SRp 0) h hq ∧ WKr hq) (fun k (s : Hp) => k ≤ w ∧ Same (SRp 0) h s ∧ s 35 32 = ((w - k : Nat) : Int) ∧ s 35 31 = ((q + k : Nat) : Int)) w ?_ ?_ (FU_big (by clear d1 d2; omega)) ⟨Nat.zero_le _, Same.rf, d1, d2⟩).mono ?_
  · rintro k s hk ⟨e0, e1, e2, e3⟩
    have ex : Same (SRp 0) h s ∧ WKr s := ⟨e1, w - k, q + k, e2, e3, by clear d1 d2 e2 e3; omega, by clear d1 d2 e2 e3; omega⟩
    have l1 : i_sub ((w - k : Nat) : Int) 1 = ((w - (k + 1) : Nat) : Int) := by
      clear d1 d2 e2 e3
      rw [isb (by omega) (by omega)]
      omega
    unfold fX6_drops_l0
    rw [e2, l1, Int.toNat_natCast]
    refine w_f (by clear d1 d2 e2 e3 l1; omega) ?_
    obtain ⟨z, hz⟩ := go (s 52 (w - (k + 1)))
    have hz' : fX6_isOpen (s 52 (w - (k + 1))) s = some z := hz
    rw [gd_y (by clear d1 d2 e2 e3 l1; omega), hz', wp_bp, wp_some]
    by_cases y0 : z = 0
    · refine w_t y0 ?_
      obtain ⟨y, hy⟩ := gs (s 52 (w - (k + 1))) s
      rw [gd_y (by clear d1 d2 e2 e3 l1; omega), hy, wp_bp, wp_some]
      by_cases y1 : y < 0
      · exact w_t y1 (wp_some.mpr ex)
      · refine w_f y1 ?_
        rw [wp_lb]
        have y32 : st s 35 32 ((w - (k + 1) : Nat) : Int) 35 32 = ((w - (k + 1) : Nat) : Int) := st_self
        have y31 : st s 35 32 ((w - (k + 1) : Nat) : Int) 35 31 = ((q + k : Nat) : Int) := by rw [st_nk (by decide)]; exact e3
        rw [gd_y (by rw [y32]; clear d1 d2 e2 e3 l1 y32 y31; omega), y32, m_puts y31 (by clear d1 d2 e2 e3 l1 y32 y31; omega), wp_bd, wp_some, wp_some, E2_l]
        dsimp only
        refine ⟨by clear d1 d2 e2 e3 l1 y32 y31; omega, ((e1.st (Or.inl ⟨rfl, Or.inr rfl⟩)).st (Or.inr (Or.inl ⟨rfl, Nat.zero_le _⟩))).st (Or.inl ⟨rfl, Or.inl rfl⟩), ?_, ?_⟩
        · rw [st_nk (by decide), st_na (by decide)]; exact y32
        · rw [st_self]
          rfl
    · exact w_f y0 (wp_some.mpr ex)
  · rintro s ⟨e0, e1, e2, e3⟩
    unfold fX6_drops_l0
    rw [e2, Nat.sub_self]
    exact w_t (by decide) (wp_some.mpr ⟨e1, 0, q + w, by rw [e2, Nat.sub_self], e3, by clear d1 d2 e2 e3; omega, by clear d1 d2 e2 e3; omega⟩)
  · rintro hq he
    exact wp_some.mpr he
