/-! pure part: what holds between two calls -/
def SXm : Nat → Nat → Prop := fun a k => (a = 35 ∧ (k = 0 ∨ (54 ≤ k ∧ k ≤ 56) ∨ k = 67)) ∨ a = 55 ∨ (57 ≤ a ∧ a ≤ 59) ∨ a = 62 ∨ a = 63
def SX : Nat → Nat → Prop := fun a k => (18 ≤ a ∧ a ≤ 25) ∨ (a = 31 ∧ (k = 0 ∨ k = 4)) ∨ a = 33 ∨ a = 68 ∨ ((a = 35 ∧ (k = 0 ∨ (54 ≤ k ∧ k ≤ 56) ∨ k = 67)) ∨ a = 55 ∨ (57 ≤ a ∧ a ≤ 59) ∨ a = 62 ∨ a = 63)
theorem SXm_X {h h' : Hp} (s : Same SXm h h') : Same SX h h' := s.mono (fun a k p => Or.inr (Or.inr (Or.inr (Or.inr p))))
theorem SC_X {h h' : Hp} (s : Same SC h h') : Same SX h h' := s.mono (fun a k p => by unfold SC at p; unfold SX; omega)
theorem SL_X {h h' : Hp} (s : Same SL h h') : Same SX h h' := s.mono (fun a k p => by unfold SL at p; unfold SX; omega)
theorem SN_m {h h' : Hp} (s : Same SN h h') : Same SXm h h' := s.mono (fun a k p => by unfold SN at p; unfold SXm; omega)
theorem SM_m {h h' : Hp} (s : Same SM h h') : Same SXm h h' := SN_m (SM_SN s)
theorem S57_m {h h' : Hp} (s : Same S57 h h') : Same SXm h h' := SN_m (S57_SN s)
/-- land, row and RETURNS, on both sides -/
def Core (D : LD) (ht ro : Nat → Int) (L nr : Nat) (rh : Nat → Nat) (rm : Nat → Int) (h : Hp) : Prop :=
  DW D ∧ HT D ht ∧ RW D 999 ro ∧ LB D ht ro L h ∧ RT D nr rh rm h ∧ ML D h ∧ (∀ c, c < D.cl → h 36 c = ht c) ∧ RR D ro (h 54) ∧ RM D nr rh rm h ∧ h 35 51 = -1 ∧ h 35 52 = -1 ∧ h 35 53 = -1
/-- the rows ahead of each ACT: b the class's Affairs; y the reference's row of rows, a how many -/
def PastOK (D : LD) (na : Nat) (P : Nat → Nat → Int) (b y : Nat) (a : Int) (h : Hp) : Prop :=
  na ≤ 40 ∧ (∀ i, i < na → RW D 999 (P i)) ∧ h b 3 = (na : Int) ∧ a = (na : Int) ∧ (∃ o : Nat, o < 40 ∧ h b 2 = (o : Int) ∧ ∀ i, i < na → RR D (P i) (fun k => h (b + 2) ((o + i) % 40 * 62 + k))) ∧ ∀ i, i < na → RR D (P i) (fun k => h y (62 * i + k))
def Misc (D : LD) (h : Hp) : Prop :=
  (0 ≤ h 0 9 ∧ h 0 9 ≤ 700) ∧ h 0 9 = h 35 13 ∧ (∀ k : Nat, (k : Int) < h 0 9 → (-128 ≤ h 17 k ∧ h 17 k ≤ 127) ∧ h 42 k = h 17 k % 256) ∧ h 0 10 = h 35 15 ∧ h 0 11 = h 43 0 ∧ h 0 12 = h 43 1 ∧ h 0 13 = h 43 2 ∧
  ((h 35 59 = -1 ∧ h 0 15 = 0) ∨ ∃ n : Nat, n ≤ 2 ∧ h 35 59 = (n : Int) ∧ h 0 15 = (n : Int) ∧ ∀ i, i < n → h 34 i = h 60 i) ∧
  ((h 35 61 = 0 ∧ h 31 3 = 0) ∨ (h 35 61 = 1 ∧ h 31 3 = (D.nh : Int) ∧ ∀ i, i < D.nh → h 32 i = h 61 i))
def Img (κ : Int) (D : LD) (h : Hp) : Prop :=
  h 0 5 = κ ∧ ((h 0 6 = 0 ∧ h 35 68 = 0) ∨ (h 0 6 = 1 ∧ h 0 5 = 69 ∧ h 35 68 = 1 ∧ ∃ (ro : Nat → Int) (na : Nat) (P : Nat → Nat → Int) (nr : Nat) (rh : Nat → Nat) (rm : Nat → Int), RW D 999 ro ∧ RR D ro (h 70) ∧ RR D ro (h 65) ∧ PastOK D na P 69 66 (h 35 69) h ∧ nr ≤ 6 ∧ h 69 6 = (nr : Int) ∧ h 35 70 = (nr : Int) ∧ ∀ i, i < nr → rh i < D.nh ∧ h 72 i = (rh i : Int) ∧ h 73 i = rm i ∧ h 67 (2 * i) = (rh i : Int) ∧ h 67 (2 * i + 1) = rm i))
def Oth (h : Hp) (L : Nat) : Prop := h 0 1 = 10 - (L : Int)
def Inv (κ : Int) (h : Hp) : Prop := ∃ (D : LD) (ht ro : Nat → Int) (L nr : Nat) (rh : Nat → Nat) (rm : Nat → Int) (na : Nat) (P : Nat → Nat → Int), Core D ht ro L nr rh rm h ∧ Oth h L ∧ PastOK D na P 26 56 (h 35 49) h ∧ Misc D h ∧ Img κ D h
theorem Core.same {D : LD} {ht ro : Nat → Int} {L nr : Nat} {rh : Nat → Nat} {rm : Nat → Int} {h h' : Hp} (C : Core D ht ro L nr rh rm h) (s : Same SX h h') : Core D ht ro L nr rh rm h' := by
  obtain ⟨a1, a2, a3, ⟨b1, b2, b3, b4, b5⟩, ⟨c1, c2, c3⟩, a6, a7, a8, ⟨d1, d2, d3⟩, a10, a11, a12⟩ := C
  refine ⟨a1, a2, a3, ⟨b1, ?_, b3.same (fun a k q1 q2 => s _ _ (by unfold SX; omega)), fun c hc => ?_, b5.same (fun k => s _ _ (by unfold SX; omega))⟩, ⟨c1, ?_, fun i hi => ⟨(c3 i hi).1, ?_, ?_⟩⟩, a6.same (fun a k p => s _ _ (by unfold SX; omega)), fun c hc => ?_, a8.same (fun k => s _ _ (by unfold SX; omega)), ⟨d1, ?_, fun i hi => ⟨(d3 i hi).1, ?_, ?_⟩⟩, ?_, ?_, ?_⟩
  · rw [s _ _ (by unfold SX; omega)]; exact b2
  · rw [s _ _ (by unfold SX; omega)]; exact b4 c hc
  · rw [s _ _ (by unfold SX; omega)]; exact c2
  · rw [s _ _ (by unfold SX; omega)]; exact (c3 i hi).2.1
  · rw [s _ _ (by unfold SX; omega)]; exact (c3 i hi).2.2
  · rw [s _ _ (by unfold SX; omega)]; exact a7 c hc
  · rw [s _ _ (by unfold SX; omega)]; exact d2
  · rw [s _ _ (by unfold SX; omega)]; exact (d3 i hi).2.1
  · rw [s _ _ (by unfold SX; omega)]; exact (d3 i hi).2.2
  · rw [s _ _ (by unfold SX; omega)]; exact a10
  · rw [s _ _ (by unfold SX; omega)]; exact a11
  · rw [s _ _ (by unfold SX; omega)]; exact a12
theorem PastOK.same {D : LD} {na : Nat} {P : Nat → Nat → Int} {b y : Nat} {a a' : Int} {h h' : Hp} (C : PastOK D na P b y a h) (hb : ∀ k, h' b k = h b k) (hb2 : ∀ k, h' (b + 2) k = h (b + 2) k) (hy : ∀ k, h' y k = h y k) (ha : a' = a) : PastOK D na P b y a' h' := by
  obtain ⟨c1, c2, c3, c4, ⟨o, o1, o2, o3⟩, c6⟩ := C
  exact ⟨c1, c2, by rw [hb]; exact c3, ha.trans c4, ⟨o, o1, by rw [hb]; exact o2, fun i hi => (o3 i hi).same (fun k => hb2 _)⟩, fun i hi => (c6 i hi).same (fun k => hy _)⟩
theorem Misc.same {D : LD} {h h' : Hp} (C : Misc D h) (s : Same SX h h') : Misc D h' := by
  have z0 : ∀ k, h' 0 k = h 0 k := fun k => s _ _ (by unfold SX; omega)
  have z17 : ∀ k, h' 17 k = h 17 k := fun k => s _ _ (by unfold SX; omega)
  have z42 : ∀ k, h' 42 k = h 42 k := fun k => s _ _ (by unfold SX; omega)
  have z43 : ∀ k, h' 43 k = h 43 k := fun k => s _ _ (by unfold SX; omega)
  have z34 : ∀ k, h' 34 k = h 34 k := fun k => s _ _ (by unfold SX; omega)
  have z60 : ∀ k, h' 60 k = h 60 k := fun k => s _ _ (by unfold SX; omega)
  have z61 : ∀ k, h' 61 k = h 61 k := fun k => s _ _ (by unfold SX; omega)
  have z32 : ∀ k, h' 32 k = h 32 k := fun k => s _ _ (by unfold SX; omega)
  have z35a : h' 35 13 = h 35 13 := s _ _ (by unfold SX; omega)
  have z35b : h' 35 15 = h 35 15 := s _ _ (by unfold SX; omega)
  have z35c : h' 35 59 = h 35 59 := s _ _ (by unfold SX; omega)
  have z35d : h' 35 61 = h 35 61 := s _ _ (by unfold SX; omega)
  have z31 : h' 31 3 = h 31 3 := s _ _ (by unfold SX; omega)
  unfold Misc at C ⊢
  simp only [z0, z17, z42, z43, z34, z60, z61, z32, z35a, z35b, z35c, z35d, z31]
  exact C
theorem Img.same {κ : Int} {D : LD} {h h' : Hp} (C : Img κ D h) (s : Same SX h h') : Img κ D h' := by
  have z0 : ∀ k, h' 0 k = h 0 k := fun k => s _ _ (by unfold SX; omega)
  have z69 : ∀ k, h' 69 k = h 69 k := fun k => s _ _ (by unfold SX; omega)
  have z72 : ∀ k, h' 72 k = h 72 k := fun k => s _ _ (by unfold SX; omega)
  have z73 : ∀ k, h' 73 k = h 73 k := fun k => s _ _ (by unfold SX; omega)
  have z67 : ∀ k, h' 67 k = h 67 k := fun k => s _ _ (by unfold SX; omega)
  have z70 : h' 70 = h 70 := funext (fun k => s _ _ (by unfold SX; omega))
  have z65 : h' 65 = h 65 := funext (fun k => s _ _ (by unfold SX; omega))
  have y68 : h' 35 68 = h 35 68 := s _ _ (by unfold SX; omega)
  have y69 : h' 35 69 = h 35 69 := s _ _ (by unfold SX; omega)
  have y70 : h' 35 70 = h 35 70 := s _ _ (by unfold SX; omega)
  unfold Img at C ⊢
  simp only [z0, z69, z72, z73, z67, z70, z65, y68, y69, y70]
  refine ⟨C.1, C.2.imp id ?_⟩
  rintro ⟨c1, c2, c3, ro, na, P, nr, rh, rm, d1, d2, d3, d4, d5⟩
  exact ⟨c1, c2, c3, ro, na, P, nr, rh, rm, d1, d2, d3, d4.same z69 (fun k => s _ _ (by unfold SX; omega)) (fun k => s _ _ (by unfold SX; omega)) rfl, d5⟩
theorem Inv.same {κ : Int} {h h' : Hp} (C : Inv κ h) (s : Same SX h h') : Inv κ h' := by
  obtain ⟨D, ht, ro, L, nr, rh, rm, na, P, c1, c2, c3, c4, c5⟩ := C
  refine ⟨D, ht, ro, L, nr, rh, rm, na, P, c1.same s, ?_, c3.same (fun k => s _ _ (by unfold SX; omega)) (fun k => s _ _ (by unfold SX; omega)) (fun k => s _ _ (by unfold SX; omega)) (s _ _ (by unfold SX; omega)), c4.same s, c5.same s⟩
  unfold Oth at c2 ⊢
  rw [s _ _ (by unfold SX; omega)]; exact c2
/-! a call of class and reference, one behind the other -/
def PT (κ : Int) (fm : Hp → Option (Int × Hp)) (cd : Nat → Int) : RX → Prop
  | .inl q => wp (fm (st q.2 68 0 q.1)) (fun y => y.2 35 0 = 0 ∧ y.2 68 0 = y.1 ∧ Inv κ y.2)
  | .inr e => wp (fm e.2) (fun y => y.2 35 0 = cd e.1 ∧ Inv κ y.2)
def PN (κ : Int) (fm : Hp → Option (Int × Hp)) : Int × Hp → Prop := fun q => wp (fm q.2) (fun y => y.1 = q.1 ∧ Inv κ y.2)
theorem sx68 {h h' : Hp} {v : Int} (s : Same SX h h') : Same SX h (st h' 68 0 v) := s.st (Or.inr (Or.inr (Or.inr (Or.inl rfl))))
/-- a question that is answered -/
theorem q_ok {κ : Int} {h h1 : Hp} {fm : Hp → Option (Int × Hp)} {cd : Nat → Int} {v : Int} (I : Inv κ h) (s : Same SX h h1) (hm : ∀ h', Same SX h h' → wp (fm h') (fun y => y.1 = v ∧ y.2 35 0 = 0 ∧ Same SXm h' y.2)) : PT κ fm cd (.inl (v, h1)) := by
  refine (hm (st h1 68 0 v) (sx68 s)).mono ?_
  rintro y ⟨y1, y2, y3⟩
  refine ⟨y2, ?_, I.same ((sx68 s).tr (SXm_X y3))⟩
  rw [y3 _ _ (by unfold SXm; omega), st_self, y1]
theorem q_no {κ : Int} {h h1 : Hp} {fm : Hp → Option (Int × Hp)} {cd : Nat → Int} {e : Nat} (I : Inv κ h) (s : Same SX h h1) (hm : ∀ h', Same SX h h' → wp (fm h') (fun y => y.2 35 0 = cd e ∧ Same SXm h' y.2)) : PT κ fm cd (.inr (e, h1)) := by
  refine (hm h1 s).mono ?_
  rintro y ⟨y2, y3⟩
  exact ⟨y2, I.same (s.tr (SXm_X y3))⟩
theorem q_n {κ : Int} {h h1 : Hp} {fm : Hp → Option (Int × Hp)} {v : Int} (I : Inv κ h) (s : Same SX h h1) (hm : ∀ h', Same SX h h' → wp (fm h') (fun y => y.1 = v ∧ Same SXm h' y.2)) : PN κ fm (v, h1) := by
  refine (hm h1 s).mono ?_
  rintro y ⟨y2, y3⟩
  exact ⟨y2, I.same (s.tr (SXm_X y3))⟩
/-! what the reference asks first -/
theorem m_right {x c : Int} {h : Hp} (h0 : h 35 0 = 0) (hc : c ≠ 0) : fX6_right x c h = some (if x = 0 then (0, st h 35 0 c) else (1, h)) := by
  unfold fX6_right fX6_right_j16
  rw [if_pos h0]
  by_cases e : x = 0
  · rw [if_pos e, if_pos e]
    unfold lb_
    dsimp only
    rw [st_self, if_neg hc]
  · rw [if_neg e, if_neg e, if_pos h0]
theorem m_right0 {c : Int} {h : Hp} (h0 : h 35 0 = 0) (hc : c ≠ 0) : fX6_right 0 c h = some (0, st h 35 0 c) := by rw [m_right h0 hc, if_pos rfl]
theorem m_right1 {c : Int} {h : Hp} (h0 : h 35 0 = 0) (hc : c ≠ 0) : fX6_right 1 c h = some (1, h) := by rw [m_right h0 hc, if_neg (by decide)]
theorem m_isHouse {x : Int} {h : Hp} {n : Nat} (h0 : h 35 0 = 0) (hn : h 35 3 = (n : Int)) : fX6_isHouse x h = some (if 0 ≤ x ∧ x < (n : Int) then (1, h) else (0, st h 35 0 1)) := by
  unfold fX6_isHouse fX6_isHouse_j17 fX6_isHouse_j18
  rw [hn, m_right0 h0 (by decide), m_right1 h0 (by decide)]
  by_cases e : x < 0
  · rw [if_pos e, if_neg (by omega)]
    rfl
  · rw [if_neg e]
    by_cases e2 : (n : Int) ≤ x
    · rw [if_pos e2, if_neg (by omega)]
      rfl
    · rw [if_neg e2, if_pos ⟨by omega, by omega⟩]
      rfl
theorem m_isCell {D : LD} {x : Int} {h : Hp} (W : DW D) (H : ML D h) (h0 : h 35 0 = 0) : fX6_isCell x h = some (if 0 ≤ x ∧ x < (D.cl : Int) then (1, h) else (0, st h 35 0 1)) := by
  unfold fX6_isCell fX6_isCell_j17 fX6_isCell_j18
  rw [m_cells W H, m_right0 h0 (by decide), m_right1 h0 (by decide)]
  simp only [bp_]
  by_cases e : x < 0
  · rw [if_pos e, if_neg (by omega)]
    rfl
  · rw [if_neg e]
    by_cases e2 : (D.cl : Int) ≤ x
    · rw [if_pos e2, if_neg (by omega)]
      rfl
    · rw [if_neg e2, if_pos ⟨by omega, by omega⟩]
      rfl
theorem m_within {x a b : Int} {h : Hp} : fX6_within x a b h = some (if a ≤ x ∧ x ≤ b then 1 else 0) := by
  unfold fX6_within
  by_cases e : x < a
  · rw [if_pos e, if_neg (by omega)]
  · rw [if_neg e]
    by_cases e2 : b < x
    · rw [if_pos e2, if_neg (by omega)]
    · rw [if_neg e2, if_pos ⟨by omega, by omega⟩]
theorem m_isWhat {x b : Int} {h : Hp} (h0 : h 35 0 = 0) : fX6_isWhat x b h = some (if 0 ≤ x ∧ x ≤ b then (1, h) else (0, st h 35 0 1)) := by
  unfold fX6_isWhat
  rw [m_within]
  simp only [bp_]
  rw [m_right h0 (by decide)]
  by_cases e : 0 ≤ x ∧ x ≤ b
  · rw [if_pos e, if_neg (by decide), if_pos e]
    rfl
  · rw [if_neg e, if_pos rfl, if_neg e]
    rfl
theorem m_isTree {D : LD} {ro : Nat → Int} {x : Int} {h : Hp} (Q : RR D ro (h 54)) (h0 : h 35 0 = 0) : fX6_isTree x h = some (if 0 ≤ x ∧ x < 12 ∧ ro x.toNat ≠ -1 then (1, h) else (0, st h 35 0 1)) := by
  unfold fX6_isTree fX6_isTree_j27 fX6_isTree_j28
  rw [m_right0 h0 (by decide), m_right1 h0 (by decide)]
  by_cases e : x < 0
  · rw [if_pos e, if_neg (fun q => by omega)]
    rfl
  · rw [if_neg e]
    by_cases e2 : 12 ≤ x
    · rw [if_pos e2, if_neg (fun q => by omega)]
      rfl
    · obtain ⟨n, rfl⟩ : ∃ n : Nat, x = (n : Int) := ⟨x.toNat, by omega⟩
      rw [if_neg e2, i0 (by omega), gd_y ⟨by omega, by omega⟩, Int.toNat_natCast, Q.1 n (by omega)]
      by_cases e3 : ro n = -1
      · rw [if_pos e3, if_neg (fun q => q.2.2 e3)]
        rfl
      · rw [if_neg e3, if_pos ⟨by omega, by omega, e3⟩]
        rfl
/-! what the class asks first -/
theorem c_needHouse {D : LD} {L : Nat} {x : Int} {h : Hp} (hL : L = 1 ∨ L = 9) (h0 : h 0 0 = (L : Int)) (H : CL D L h) : fX5_needHouse x h = some (if 0 ≤ x ∧ x < (D.nh : Int) then .inl (0, h) else .inr (0, h)) := by
  unfold fX5_needHouse fX5_needHouse_j26
  rw [h0, Int.toNat_natCast, H.2.2.1]
  by_cases e : x < 0
  · rw [if_pos e, if_neg (by omega)]
  · rw [if_neg e, gd_y (by omega)]
    by_cases e2 : x < (D.nh : Int)
    · rw [if_pos e2, if_pos ⟨by omega, e2⟩]
      rfl
    · rw [if_neg e2, if_neg (by omega)]
theorem c_needCell {D : LD} {L : Nat} {x : Int} {h : Hp} (W : DW D) (hL : L = 1 ∨ L = 9) (h0 : h 0 0 = (L : Int)) (H : CL D L h) : fX5_needCell x h = some (if 0 ≤ x ∧ x < (D.cl : Int) then .inl (0, h) else .inr (0, h)) := by
  unfold fX5_needCell fX5_needCell_j26
  rw [h0, c_cells W hL H]
  simp only [bp_]
  by_cases e : x < 0
  · rw [if_pos e, if_neg (by omega)]
  · rw [if_neg e, gd_y (by omega)]
    by_cases e2 : x < (D.cl : Int)
    · rw [if_pos e2, if_pos ⟨by omega, e2⟩]
      rfl
    · rw [if_neg e2, if_neg (by omega)]
theorem c_needTree {D : LD} {ro : Nat → Int} {x : Int} {h : Hp} (Q : RR D ro (h 27)) : fX5_needTree x h = some (if 0 ≤ x ∧ x < 12 ∧ ro x.toNat ≠ -1 then .inl (0, h) else .inr (0, h)) := by
  unfold fX5_needTree fX5_needTree_j36
  by_cases e : x < 0
  · rw [if_pos e, if_neg (fun q => by omega)]
  · rw [if_neg e]
    by_cases e2 : 12 ≤ x
    · rw [if_pos e2, if_neg (fun q => by omega)]
    · obtain ⟨n, rfl⟩ : ∃ n : Nat, x = (n : Int) := ⟨x.toNat, by omega⟩
      rw [if_neg e2, i0 (by omega), gd_y ⟨by omega, by omega⟩, Int.toNat_natCast, Q.1 n (by omega)]
      by_cases e3 : ro n = -1
      · rw [if_pos e3, if_neg (fun q => q.2.2 e3)]
      · rw [if_neg e3, if_pos ⟨by omega, by omega, e3⟩]
        rfl
theorem c_needDirection {x : Int} {h : Hp} : fX5_needDirection x h = some (if 0 ≤ x ∧ x < 8 then .inl (0, h) else .inr (0, h)) := by
  unfold fX5_needDirection fX5_needDirection_j21
  by_cases e : x < 0
  · rw [if_pos e, if_neg (by omega)]
  · rw [if_neg e]
    by_cases e2 : x < 8
    · rw [if_pos e2, if_pos ⟨by omega, e2⟩]
      rfl
    · rw [if_neg e2, if_neg (by omega)]
