/-! pure part: what is looked at and owed, in numbers alone -/
abbrev LD : Type := Nat × Nat × Nat × Nat × Nat × (Nat → Nat) × (Nat → Int) × (Nat → Int) × (Nat → List Int)
abbrev LD.w (D : LD) : Nat := D.1
abbrev LD.d (D : LD) : Nat := D.2.1
abbrev LD.nh (D : LD) : Nat := D.2.2.1
abbrev LD.nl (D : LD) : Nat := D.2.2.2.1
abbrev LD.nf (D : LD) : Nat := D.2.2.2.2.1
abbrev LD.hc (D : LD) : Nat → Nat := D.2.2.2.2.2.1
abbrev LD.kd (D : LD) : Nat → Int := D.2.2.2.2.2.2.1
abbrev LD.fg (D : LD) : Nat → Int := D.2.2.2.2.2.2.2.1
abbrev LD.cd (D : LD) : Nat → List Int := D.2.2.2.2.2.2.2.2
abbrev LD.cl (D : LD) : Nat := D.1 * D.2.1
def dX (n : Nat) : Int := SXL.getD n 0
def dY (n : Nat) : Int := SYL.getD n 0
/-- a look along a row: how far, and the cells seen -/
def lkA (w d : Nat) (sd : Nat → Int) (eye dx dy : Int) : Nat → Int → Int → Int → Int → Int → Int → Int × Int
  | 0, _, _, far, _, _, view => (far, view)
  | n + 1, x, y, far, rise, k, view =>
    if x + dx < 0 ∨ y + dy < 0 ∨ (w : Int) ≤ x + dx ∨ (d : Int) ≤ y + dy then (far, view)
    else if far = 0 ∨ i_mul rise k < i_mul (i_sub (sd ((w : Int) * (y + dy) + (x + dx)).toNat) eye) far then
      lkA w d sd eye dx dy n (x + dx) (y + dy) k (i_sub (sd ((w : Int) * (y + dy) + (x + dx)).toNat) eye) (k + 1) (l_or view (l_shl 1 ((w : Int) * (y + dy) + (x + dx))))
    else lkA w d sd eye dx dy n (x + dx) (y + dy) far rise (k + 1) view
/-- all cells on the way -/
def lkO (w d : Nat) (dx dy : Int) : Nat → Int → Int → Int → Int
  | 0, _, _, o => o
  | n + 1, x, y, o =>
    if x + dx < 0 ∨ y + dy < 0 ∨ (w : Int) ≤ x + dx ∨ (d : Int) ≤ y + dy then o
    else lkO w d dx dy n (x + dx) (y + dy) (l_or o (l_shl 1 ((w : Int) * (y + dy) + (x + dx))))
def lkD (w d : Nat) (sd : Nat → Int) (fog c : Nat) (eye : Int) (n : Nat) (view : Int) : Int × Int :=
  lkA w d sd eye (dX n) (dY n) fog ((c % w : Nat) : Int) ((c / w : Nat) : Int) 0 0 1 view
/-- all eight ways: miles, farthest, the cells seen -/
def lkS (w d : Nat) (sd : Nat → Int) (fog c : Nat) (eye : Int) (shut : Nat → Bool) : Nat → Int × Int × Int
  | 0 => (0, 0, 0)
  | n + 1 =>
    let p := lkS w d sd fog c eye shut n
    let q := if shut n = true then (0, p.2.2) else lkD w d sd fog c eye n p.2.2
    (i_add p.1 q.1, if p.2.1 < q.1 then q.1 else p.2.1, q.2)
def lkSO (w d fog c : Nat) (shut : Nat → Bool) : Nat → Int
  | 0 => 0
  | n + 1 => if shut n = true then lkSO w d fog c shut n else lkO w d (dX n) (dY n) fog ((c % w : Nat) : Int) ((c / w : Nat) : Int) (lkSO w d fog c shut n)
/-- how far it is seen along way n -/
def lkF (w d : Nat) (sd : Nat → Int) (fog c : Nat) (eye : Int) (shut : Nat → Bool) (n : Nat) : Int :=
  if shut n = true then 0 else (lkD w d sd fog c eye n 0).1
theorem lkA_v (w d : Nat) (sd : Nat → Int) (eye dx dy : Int) : ∀ (n : Nat) (x y far rise k v v' : Int), (lkA w d sd eye dx dy n x y far rise k v).1 = (lkA w d sd eye dx dy n x y far rise k v').1
  | 0, _, _, _, _, _, _, _ => rfl
  | n + 1, x, y, far, rise, k, v, v' => by
    unfold lkA
    split
    · rfl
    · split
      · exact lkA_v w d sd eye dx dy n _ _ _ _ _ _ _
      · exact lkA_v w d sd eye dx dy n _ _ _ _ _ _ _
theorem lkD_v {w d : Nat} {sd : Nat → Int} {fog c : Nat} {eye : Int} {n : Nat} {v v' : Int} : (lkD w d sd fog c eye n v).1 = (lkD w d sd fog c eye n v').1 := lkA_v _ _ _ _ _ _ _ _ _ _ _ _ _ _
/-! a law reckoned: the code is that of the class; vs the seven values -/
def tgt (o a b : Int) : Int :=
  if o = 1 then (if a = 0 ∧ b = 0 then 0 else 1) else if o = 2 then (if a = 0 ∨ b = 0 then 0 else 1) else if o = 4 then (if b ≤ a then 0 else 1)
  else if o = 5 then (if a = b then 1 else 0) else if o = 6 then i_add a b else if o = 7 then i_sub a b else if o = 8 then i_mul a b else if b = 0 then 0 else i_div a b
def evC (vs : Nat → Int) : List Int → List Int → List Int
  | [], s => s
  | c :: r, s => if 100 ≤ c then evC vs r (i_sub c 100 :: s) else if 20 ≤ c then evC vs r (vs (c - 20).toNat :: s)
    else match s with
      | [] => evC vs r []
      | a :: t => if c = 3 then evC vs r ((if a = 0 then 1 else 0) :: t) else match t with
        | [] => evC vs r [a]
        | b :: u => evC vs r (tgt c b a :: u)
/-- the code keeps the stack between 1 and 60 and ends with one number; the codes are those that there are -/
def wfC : List Int → Nat → Prop
  | [], n => n = 1
  | c :: r, n => if 100 ≤ c then c ≤ 10099 ∧ n < 60 ∧ wfC r (n + 1) else if 20 ≤ c then c ≤ 26 ∧ n < 60 ∧ wfC r (n + 1)
    else if c = 3 then 1 ≤ n ∧ wfC r n else (c = 1 ∨ c = 2 ∨ c = 4 ∨ c = 5 ∨ c = 6 ∨ c = 7 ∨ c = 8 ∨ c = 9) ∧ 2 ≤ n ∧ wfC r (n - 1)
def clmp (v : Int) : Int := if v < 0 then 0 else if 999 < v then 999 else v
/-- the houses that stand in what is seen -/
def seeH (D : LD) (view : Int) : Int := fb (fun i => bt view (D.hc i)) D.nh
def cntB (v : Int) : Int := ((List.range 6).map (fun i => if bt v i = true then (1 : Int) else 0)).sum
def shB (kd so : Int) (n : Nat) : Bool := decide (kd = 2) || bt so n
/-- TAX of the one who looks from c -/
def txV (D : LD) (ht sd : Nat → Int) (yr : Int) (fog c : Nat) (kd fl so law : Int) : Int :=
  let p := lkS D.w D.d sd fog c (i_add (i_add (ht c) 2) fl) (shB kd so) 8
  if law < 0 then p.1
  else clmp ((evC (fun j => if j = 0 then p.1 else if j = 1 then p.2.1 else if j = 2 then ht c else if j = 3 then kd else if j = 4 then yr else if j = 5 then cntB (seeH D p.2.2) else fl) (D.cd law.toNat) []).headD 0)
def txH (D : LD) (ht sd ro : Nat → Int) (fog i : Nat) (law : Int) : Int := txV D ht sd (ro 61) fog (D.hc i) (D.kd i) (ro (42 + i)) (ro (54 + i)) law
/-! what is told: well-formed lands and rows; how the heap holds them -/
def DW (D : LD) : Prop := (1 ≤ D.w ∧ D.w ≤ 8) ∧ (1 ≤ D.d ∧ D.d ≤ 8) ∧ D.nh ≤ 6 ∧ D.nl ≤ 4 ∧ D.nf ≤ 8 ∧ (∀ i, i < D.nh → D.hc i < D.cl) ∧ (∀ i j, i < D.nh → j < D.nh → D.hc i = D.hc j → i = j) ∧ (∀ i, i < D.nf → 1 ≤ D.fg i ∧ D.fg i ≤ 9) ∧ (∀ l, l < D.nl → wfC (D.cd l) 0)
def CL (D : LD) (L : Nat) (h : Hp) : Prop := h L 0 = D.w ∧ h L 1 = D.d ∧ h L 3 = D.nh ∧ h L 8 = D.nl ∧ h L 6 = D.nf ∧ (∀ i, i < D.nh → h (L + 2) i = D.hc i) ∧ (∀ i, i < D.nh → h (L + 3) i = D.kd i) ∧ (∀ i, i < D.nf → h (L + 4) i = D.fg i) ∧
  ∃ e : Nat → Nat, e 0 = 0 ∧ ∀ l, l < D.nl → h (L + 5) l = e (l + 1) ∧ e l ≤ e (l + 1) ∧ e (l + 1) ≤ 700 ∧ (D.cd l).length = e (l + 1) - e l ∧ ∀ j, j < (D.cd l).length → h (L + 6) (e l + j) = (D.cd l).getD j 0
/-- the parts of a row that mean something -/
def RR (D : LD) (ro r : Nat → Int) : Prop := (∀ t, t < 12 → r t = ro t) ∧ (∀ t, t < 12 → ro t ≠ -1 → r (12 + t) = ro (12 + t) ∧ r (24 + t) = ro (24 + t)) ∧ (∀ i, i < D.nh → r (36 + i) = ro (36 + i) ∧ r (42 + i) = ro (42 + i) ∧ r (48 + i) = ro (48 + i) ∧ r (54 + i) = ro (54 + i)) ∧ r 60 = ro 60 ∧ r 61 = ro 61
def RW (D : LD) (Y : Nat) (ro : Nat → Int) : Prop := (∀ t, t < 12 → ro t ≠ -1 → (0 ≤ ro t ∧ ro t < (D.cl : Int)) ∧ (1 ≤ ro (12 + t) ∧ ro (12 + t) ≤ 9) ∧ (1 ≤ ro (24 + t) ∧ ro (24 + t) ≤ 9) ∧ (∀ i, i < D.nh → ro t ≠ (D.hc i : Int)) ∧ ∀ u, u < 12 → ro u = ro t → u = t) ∧
  (∀ i, i < D.nh → in32 (ro (36 + i)) ∧ (-3 ≤ ro (42 + i) ∧ ro (42 + i) ≤ 3) ∧ (0 ≤ ro (48 + i) ∧ ro (48 + i) ≤ 5) ∧ (0 ≤ ro (54 + i) ∧ ro (54 + i) < 256)) ∧ (-1 ≤ ro 60 ∧ ro 60 < (D.nl : Int)) ∧ (0 ≤ ro 61 ∧ ro 61 ≤ (Y : Int))
/-- the class's scene -/
def CS (D : LD) (ht sd ro : Nat → Int) (fog L : Nat) (h : Hp) : Prop := (L = 1 ∨ L = 9) ∧ h 20 0 = (L : Int) ∧ CL D L h ∧ (∀ c, c < D.cl → h 22 c = ht c) ∧ (∀ c, c < D.cl → h 23 c = sd c) ∧ RR D ro (h 21) ∧ h 20 4 = (fog : Int) ∧ fog ≤ 9
def SL : Nat → Nat → Prop := fun a k => (a = 20 ∧ 5 ≤ k) ∨ a = 24 ∨ a = 25
theorem CL.same {D : LD} {L : Nat} {h h' : Hp} (H : CL D L h) (q : ∀ a k, L ≤ a → a ≤ L + 6 → h' a k = h a k) : CL D L h' := by
  obtain ⟨a1, a2, a3, a4, a5, a6, a7, a8, e, e0, a9⟩ := H
  refine ⟨by rw [q _ _ (by omega) (by omega)]; exact a1, by rw [q _ _ (by omega) (by omega)]; exact a2, by rw [q _ _ (by omega) (by omega)]; exact a3, by rw [q _ _ (by omega) (by omega)]; exact a4, by rw [q _ _ (by omega) (by omega)]; exact a5, fun i hi => by rw [q _ _ (by omega) (by omega)]; exact a6 i hi, fun i hi => by rw [q _ _ (by omega) (by omega)]; exact a7 i hi, fun i hi => by rw [q _ _ (by omega) (by omega)]; exact a8 i hi, e, e0, fun l hl => ?_⟩
  obtain ⟨b1, b2, b3, b4, b5⟩ := a9 l hl
  exact ⟨by rw [q _ _ (by omega) (by omega)]; exact b1, b2, b3, b4, fun j hj => by rw [q _ _ (by omega) (by omega)]; exact b5 j hj⟩
theorem RR.same {D : LD} {ro r r' : Nat → Int} (H : RR D ro r) (q : ∀ k, r' k = r k) : RR D ro r' := by
  rwa [show r' = r from funext q]
theorem CS.same {D : LD} {ht sd ro : Nat → Int} {fog L : Nat} {h h' : Hp} (H : CS D ht sd ro fog L h) (q : Same SL h h') : CS D ht sd ro fog L h' := by
  obtain ⟨a1, a2, a3, a4, a5, a6, a7, a8⟩ := H
  refine ⟨a1, ?_, a3.same (fun a k h1 h2 => q a k (by unfold SL; omega)), fun c hc => ?_, fun c hc => ?_, a6.same (fun k => q 21 k (by unfold SL; omega)), ?_, a8⟩
  · rw [q _ _ (by unfold SL; omega)]; exact a2
  · rw [q _ _ (by unfold SL; omega)]; exact a4 c hc
  · rw [q _ _ (by unfold SL; omega)]; exact a5 c hc
  · rw [q _ _ (by unfold SL; omega)]; exact a7
