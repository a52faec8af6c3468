/-! the picture: all cells of class, reference and law, by their numbers; the k-th place of a cell holds a whole number -/
abbrev Hp : Type := Nat → Nat → Int
def st (h : Hp) (a k : Nat) (v : Int) : Hp := fun a' k' => if a' = a ∧ k' = k then v else h a' k'
def LAYL : List (Nat × Nat) := [(5, 16), (1, 12), (10, 64), (10, 6), (10, 6), (10, 8), (10, 4), (10, 700), (10, 62), (1, 12), (10, 64), (10, 6), (10, 6), (10, 8), (10, 4), (10, 700), (10, 62), (11, 700), (2, 17), (10, 128), (3, 14), (10, 62), (10, 64), (10, 64), (10, 8), (10, 64), (0, 7), (10, 62), (10, 2480), (10, 6), (10, 6), (4, 5), (10, 6), (10, 6), (10, 2), (6, 74), (10, 64), (10, 7), (10, 7), (10, 8), (10, 4), (10, 2800), (10, 700), (10, 3), (10, 64), (10, 36), (10, 6), (10, 6), (10, 6), (10, 8), (10, 4), (10, 2800), (10, 950), (12, 9), (10, 62), (10, 62), (10, 2480), (10, 64), (10, 7), (10, 950), (10, 2), (10, 6), (10, 6), (10, 8), (10, 12), (10, 62), (10, 2480), (10, 12), (13, 1), (0, 7), (10, 62), (10, 2480), (10, 6), (10, 6)]
def LAY (i : Nat) : Nat × Nat := LAYL.getD i (99, 0)
def FTL : List (List Nat) := [[2, 2, 0, 0, 2, 2, 0], [0, 0, 2, 0, 2, 2, 0, 2, 0, 2, 2, 2], [2, 0, 0, 0, 0, 0, 0, 0, 2, 0, 1, 1, 2, 0, 0, 0, 0], [2, 2, 2, 2, 0, 0, 0, 0, 2, 0, 0, 1, 1, 2], [2, 2, 2, 0, 0], [2, 2, 2, 2, 2, 2, 3, 2, 2, 0, 0, 0, 0, 0, 2, 0], [0, 0, 0, 0, 0, 0, 2, 2, 2, 2, 2, 2, 2, 0, 0, 0, 2, 0, 0, 0, 0, 0, 0, 0, 1, 0, 0, 0, 0, 0, 0, 0, 0, 0, 1, 1, 2, 2, 2, 2, 2, 2, 2, 2, 2, 2, 2, 2, 2, 0, 2, 0, 0, 0, 1, 0, 0, 2, 2, 0, 2, 3, 2, 2, 2, 0, 2, 0, 3, 0, 0, 2, 2, 2]]
def FT (c : Nat) : List Nat := FTL.getD c []
def SHL : List (Nat × Nat × Nat) := [(1, 2, 2), (1, 4, 3), (1, 5, 4), (1, 7, 5), (1, 9, 6), (1, 10, 7), (1, 11, 8), (9, 2, 10), (9, 4, 11), (9, 5, 12), (9, 7, 13), (9, 9, 14), (9, 10, 15), (9, 11, 16), (0, 2, 18), (0, 3, 20), (0, 4, 26), (0, 7, 31), (0, 8, 17), (0, 14, 34), (18, 0, 17), (18, 12, 19), (20, 1, 21), (20, 2, 22), (20, 3, 23), (20, 8, 24), (20, 13, 25), (26, 0, 27), (26, 1, 28), (26, 4, 29), (26, 5, 30), (31, 1, 32), (31, 2, 33), (35, 6, 36), (35, 7, 37), (35, 8, 38), (35, 9, 39), (35, 10, 40), (35, 11, 41), (35, 12, 42), (35, 16, 43), (35, 36, 44), (35, 37, 45), (35, 38, 46), (35, 39, 47), (35, 40, 48), (35, 41, 49), (35, 42, 50), (35, 43, 51), (35, 44, 52), (35, 45, 53), (35, 46, 54), (35, 47, 55), (35, 48, 56), (35, 50, 57), (35, 57, 58), (35, 58, 59), (35, 60, 60), (35, 62, 61), (35, 63, 62), (35, 64, 63), (35, 66, 64), (35, 71, 65), (35, 72, 66), (35, 73, 67)]
def SHK : List (Nat × Nat × Nat) := [(69, 0, 70), (69, 1, 71), (69, 4, 72), (69, 5, 73)]
def isSh (a k : Nat) : Bool := SHL.any (fun q => q.1 == a && q.2.1 == k) || SHK.any (fun q => q.1 == a && q.2.1 == k)
def Shape (h : Hp) : Prop := (∀ q ∈ SHL, h q.1 q.2.1 = (q.2.2 : Int)) ∧ (h 0 5 = 69 → ∀ q ∈ SHK, h q.1 q.2.1 = (q.2.2 : Int))
def ShN (n : Nat) (h : Hp) : Prop := Shape h ∧ 69 ≤ n ∧ (h 0 5 = 69 → 74 ≤ n)
abbrev vwCl : List vw_C := [(RX0, TX0, 7), (RX1, TX1, 12), (RX2, TX2, 17), (RX3, TX3, 14), (RX4, TX4, 5), (RX5, TX5, 16), (RX6, TX6, 74)]
abbrev in32 (x : Int) : Prop := -2147483648 ≤ x ∧ x ≤ 2147483647
abbrev in64 (x : Int) : Prop := -9223372036854775808 ≤ x ∧ x ≤ 9223372036854775807
abbrev Av : Type := Nat × Int
abbrev GD : Type := va_G × (Nat → ClassId) × (Nat → Nat)
def rf (ad : Nat → Nat) (x : Int) : Value := if x < 0 then .null else .ref (ad x.toNat)
def rv (G : GD) (ad : Nat → Nat) : Av → Value
  | (0, x) => .int (Int32.ofInt x)
  | (1, x) => .long (Int64.ofInt x)
  | (2, x) => rf ad x
  | (6, x) => if x < 0 then .null else .ref x.toNat
  | (_, x) => .ref (G.2.2 x.toNat)
def fv (ad : Nat → Nat) (t : Nat) (x : Int) : Value := match t with
  | 0 => .int (Int32.ofInt x)
  | 1 => .long (Int64.ofInt x)
  | 2 => rf ad x
  | _ => .int (Int32.ofInt x)
def okv (n : Nat) : Av → Prop
  | (0, x) => in32 x
  | (1, x) => in64 x
  | (2, x) => x < n
  | _ => True
def okf (n t : Nat) (x : Int) : Prop := match t with
  | 0 => in32 x
  | 1 => in64 x
  | 2 => x < n
  | _ => x = 0 ∨ x = 1
def oke (kd : Nat) (x : Int) : Prop := match kd with
  | 10 => in32 x
  | 11 => -128 ≤ x ∧ x ≤ 127
  | 12 => x = 0 ∨ x = 1
  | _ => in64 x
def okc (n : Nat) (h : Hp) (i : Nat) : Prop := if (LAY i).1 < 10 then ∀ k t, (FT (LAY i).1)[k]? = some t → okf n t (h i k) else ∀ j, j < (LAY i).2 → oke (LAY i).1 (h i j)
def okh (n : Nat) (h : Hp) : Prop := ∀ i, i < n → okc n h i
def encV (G : GD) (ad : Nat → Nat) (h : Hp) (i : Nat) : va_E :=
  if (LAY i).1 < 10 then .inr ((LAY i).1, (FT (LAY i).1).mapIdx (fun k t => fv ad t (h i k)))
  else if (LAY i).1 = 13 then .inl (G.2.1 3, (LAY i).2, .inr (.inl (fun j => Int64.ofInt (h i j))))
  else .inl (G.2.1 ((LAY i).1 - 10), (LAY i).2, .inl (fun j => Int32.ofInt (h i j)))
def encE (G : GD) (ad : Nat → Nat) (h : Hp) (i : Nat) : Nat × va_E := (ad i, encV G ad h i)
def wl (G : GD) (ad : Nat → Nat) (n : Nat) (h : Hp) : va_W := (List.range n).map (encE G ad h)
def tysG (G : GD) : List (ClassId × FieldType) := [(G.2.1 0, .int), (G.2.1 1, .byte), (G.2.1 2, .boolean), (G.2.1 3, .long)]
theorem wl_get {G : GD} {ad : Nat → Nat} {n : Nat} {h : Hp} {i : Nat} (hi : i < n) : (wl G ad n h)[i]? = some (ad i, encV G ad h i) := by
  simp [wl, hi, encE]
theorem wl_set {G : GD} {ad : Nat → Nat} {n : Nat} {h h' : Hp} {i : Nat} (hi : i < n) (hne : ∀ j, j ≠ i → encV G ad h' j = encV G ad h j) : (wl G ad n h).set i (ad i, encV G ad h' i) = wl G ad n h' := by
  apply List.ext_getElem?
  intro j
  by_cases hj : j = i
  · subst hj
    rw [List.getElem?_set_self (by simp [wl, hi]), wl_get hi]
  · rw [List.getElem?_set_ne (fun q => hj q.symm)]
    by_cases hjn : j < n
    · rw [wl_get hjn, wl_get hjn, hne j hj]
    · rw [List.getElem?_eq_none (by simp [wl]; omega), List.getElem?_eq_none (by simp [wl]; omega)]
theorem encV_ne {G : GD} {ad : Nat → Nat} {h : Hp} {a k : Nat} {v : Int} {j : Nat} (hj : j ≠ a) : encV G ad (st h a k v) j = encV G ad h j := by
  have : ∀ q, st h a k v j q = h j q := fun q => by simp [st, hj]
  simp only [encV, this]
theorem encV_obj {G : GD} {ad : Nat → Nat} {h : Hp} {i ci nf : Nat} (hL : LAY i = (ci, nf)) (hc : ci < 10) : encV G ad h i = .inr (ci, (FT ci).mapIdx (fun k t => fv ad t (h i k))) := by
  simp [encV, hL, hc]
theorem encV_arr {G : GD} {ad : Nat → Nat} {h : Hp} {i kd len : Nat} (hL : LAY i = (kd, len)) (h1 : 10 ≤ kd) (h2 : kd ≠ 13) : encV G ad h i = .inl (G.2.1 (kd - 10), len, .inl (fun j => Int32.ofInt (h i j))) := by
  simp [encV, hL, Nat.not_lt.mpr h1, h2]
theorem encV_arrL {G : GD} {ad : Nat → Nat} {h : Hp} {i len : Nat} (hL : LAY i = (13, len)) : encV G ad h i = .inl (G.2.1 3, len, .inr (.inl (fun j => Int64.ofInt (h i j)))) := by
  simp [encV, hL]
theorem fl_get {ad : Nat → Nat} {h : Hp} {i ci k t : Nat} (ht : (FT ci)[k]? = some t) : ((FT ci).mapIdx (fun k t => fv ad t (h i k)))[k]? = some (fv ad t (h i k)) := by
  simp [List.getElem?_mapIdx, ht]
theorem fl_set {ad : Nat → Nat} {h : Hp} {i ci k t : Nat} {v : Int} (ht : (FT ci)[k]? = some t) : ((FT ci).mapIdx (fun k t => fv ad t (h i k))).set k (fv ad t v) = (FT ci).mapIdx (fun k' t => fv ad t (st h i k v i k')) := by
  have hk : k < (FT ci).length := (List.getElem?_eq_some_iff.mp ht).1
  apply List.ext_getElem?
  intro j
  by_cases hj : j = k
  · subst hj
    rw [List.getElem?_set_self (by simpa using hk)]
    simp [List.getElem?_mapIdx, ht, st]
  · rw [List.getElem?_set_ne (fun q => hj q.symm)]
    simp [List.getElem?_mapIdx, st, hj]
/-! a walk's place: machine, room, start, end -/
abbrev CX : Type := Program × Launch × Env × Room × State × MethodId × Array Value × List Frame × Method × Code × (State → Prop) × (Nat → Prop) × (Nat → Nat) × Nat × Bool
abbrev CX.p (X : CX) : Program := X.1
abbrev CX.l (X : CX) : Launch := X.2.1
abbrev CX.e (X : CX) : Env := X.2.2.1
abbrev CX.R (X : CX) : Room := X.2.2.2.1
abbrev CX.s (X : CX) : State := X.2.2.2.2.1
abbrev CX.m (X : CX) : MethodId := X.2.2.2.2.2.1
abbrev CX.args (X : CX) : Array Value := X.2.2.2.2.2.2.1
abbrev CX.below (X : CX) : List Frame := X.2.2.2.2.2.2.2.1
abbrev CX.meth (X : CX) : Method := X.2.2.2.2.2.2.2.2.1
abbrev CX.c (X : CX) : Code := X.2.2.2.2.2.2.2.2.2.1
abbrev CX.Z (X : CX) : State → Prop := X.2.2.2.2.2.2.2.2.2.2.1
abbrev CX.A (X : CX) : Nat → Prop := X.2.2.2.2.2.2.2.2.2.2.2.1
abbrev CX.ad0 (X : CX) : Nat → Nat := X.2.2.2.2.2.2.2.2.2.2.2.2.1
abbrev CX.n0 (X : CX) : Nat := X.2.2.2.2.2.2.2.2.2.2.2.2.2.1
abbrev CX.bt (X : CX) : Bool := X.2.2.2.2.2.2.2.2.2.2.2.2.2.2
def TB : List Cond := lw_tbl.filter goodWord
theorem tb_of {w : Cond} (k : Nat) (h : lw_tbl[k]? = some w) (g : goodWord w = true) : w ∈ TB := List.mem_filter.mpr ⟨List.mem_of_getElem? h, g⟩
def isNest : Cond → Bool
  | .fieldLinkNest .. => true
  | .methodLinkNest .. => true
  | .castable .. => true
  | .declares .. => true
  | _ => false
def TBN : List Cond := lw_tbl.filter isNest
theorem tbn_of {w : Cond} (k : Nat) (h : lw_tbl[k]? = some w) (g : isNest w = true) : w ∈ TBN := List.mem_filter.mpr ⟨List.mem_of_getElem? h, g⟩
def STRT : List (String × Nat × String × Nat) := [("HorizonDues", 75, "the tape has not so many bytes", 27), ("HorizonDues$Reader", 63, "land", 10), ("HorizonDues$Reader", 131, "high", 11), ("HorizonDues$Reader", 136, "tree", 12), ("HorizonDues$Reader", 141, "villa", 13), ("HorizonDues$Reader", 146, "inn", 14), ("HorizonDues$Reader", 148, "blind", 15), ("HorizonDues$Reader", 150, "fog", 16), ("HorizonDues$Reader", 155, "tax", 17), ("HorizonDues$Reader", 190, "not", 18), ("HorizonDues$Reader", 226, "or", 25), ("HorizonDues$Reader", 228, "and", 26), ("HorizonDues$Reader", 230, "miles", 19), ("HorizonDues$Reader", 232, "far", 20), ("HorizonDues$Reader", 234, "kind", 21), ("HorizonDues$Reader", 235, "year", 22), ("HorizonDues$Reader", 237, "houses", 23), ("HorizonDues$Reader", 238, "floor", 24), ("HorizonDues", 148, "no such what", 28), ("HorizonDues", 358, "no such cell", 29), ("HorizonDues", 362, "no such tree", 30), ("HorizonDues", 360, "no such house", 31), ("HorizonDues", 364, "no such direction", 32), ("HorizonDues", 242, "no such houses or sum", 33), ("HorizonDues", 268, "no such fir is kept", 34), ("HorizonDues", 270, "no such sum", 35), ("HorizonDues", 278, "no such law", 36), ("HorizonDues", 296, "no such stop is kept", 37), ("HorizonDues", 298, "one house, or no such barn or pence", 38), ("HorizonDues", 330, "no such number of years", 39), ("HorizonDues", 345, "both are one", 40)]
def STRL : List (List Int) := [[108, 97, 110, 100], [104, 105, 103, 104], [116, 114, 101, 101], [118, 105, 108, 108, 97], [105, 110, 110], [98, 108, 105, 110, 100], [102, 111, 103], [116, 97, 120], [110, 111, 116], [109, 105, 108, 101, 115], [102, 97, 114], [107, 105, 110, 100], [121, 101, 97, 114], [104, 111, 117, 115, 101, 115], [102, 108, 111, 111, 114], [111, 114], [97, 110, 100]]
def NWs (G : GD) (U : State) : Prop := (∀ w ∈ TBN, va_Nw w U) ∧ ∀ q ∈ STRT, vk_R q.1 q.2.1 q.2.2.1 (G.2.2 q.2.2.2) U
theorem isNest_spec {w : Cond} (h : isNest w = true) : (∃ a i b n d k, w = .fieldLinkNest a i b n d k) ∨ (∃ a i x k, w = .methodLinkNest a i x k) ∨ (∃ a b, w = .castable a b) ∨ ∃ a, w = .declares a := by
  cases w with
  | fieldLinkNest a i b n d k => exact Or.inl ⟨a, i, b, n, d, k, rfl⟩
  | methodLinkNest a i x k => exact Or.inr (Or.inl ⟨a, i, x, k, rfl⟩)
  | castable a b => exact Or.inr (Or.inr (Or.inl ⟨a, b, rfl⟩))
  | declares a => exact Or.inr (Or.inr (Or.inr ⟨a, rfl⟩))
  | _ => cases h
theorem NWs.warm {G : GD} {s U : State} (h : NWs G s) (hW : s.WarmedH U.vm) : NWs G U := by
  refine ⟨?_, fun q hq => vk_R.warm hW (h.2 q hq)⟩
  intro w hw
  rcases isNest_spec (List.mem_filter.mp hw).2 with ⟨a, i, b, n, d, k, rfl⟩ | ⟨a, i, x, k, rfl⟩ | ⟨a, b, rfl⟩ | ⟨a, rfl⟩
  · exact va_Nw.warmF hW (h.1 _ hw)
  · exact va_Nw.warmM hW (h.1 _ hw)
  · exact va_Nw.warmC hW (h.1 _ hw)
  · exact va_Nw.warmD hW (h.1 _ hw)
theorem NWs.same {G : GD} {s U : State} (h : NWs G s) (hW : s.vm = U.vm) : NWs G U := by
  refine ⟨?_, fun q hq => vk_R.same hW.symm (h.2 q hq)⟩
  intro w hw
  rcases isNest_spec (List.mem_filter.mp hw).2 with ⟨a, i, b, n, d, k, rfl⟩ | ⟨a, i, x, k, rfl⟩ | ⟨a, b, rfl⟩ | ⟨a, rfl⟩
  · exact va_Nw.same rfl hW (h.1 _ hw)
  · exact va_Nw.same rfl hW (h.1 _ hw)
  · exact va_Nw.same rfl hW (h.1 _ hw)
  · exact va_Nw.same rfl hW (h.1 _ hw)
def SXL : List Int := [0, 1, 1, 1, 0, -1, -1, -1]
def SYL : List Int := [-1, -1, 0, 1, 1, 1, 0, -1]
def rSX (G : GD) (A : Nat → Prop) (U : State) (H : Heap) : Prop := va_Z RX5 "STEP_X" "[I" (.ref (G.2.2 0)) A U H ∧ va_T .int (G.2.2 0) 8 (fun j => .int (Int32.ofInt (SXL.getD j 0))) A U H
def rSY (G : GD) (A : Nat → Prop) (U : State) (H : Heap) : Prop := va_Z RX5 "STEP_Y" "[I" (.ref (G.2.2 1)) A U H ∧ va_T .int (G.2.2 1) 8 (fun j => .int (Int32.ofInt (SYL.getD j 0))) A U H
def rST (G : GD) (A : Nat → Prop) (U : State) (H : Heap) (w : Nat) : Prop := va_O "java/lang/String" (G.2.2 w) A U H ∧ va_OF "java/lang/String" "coder" "B" (.int 0) (G.2.2 w) A U H ∧ va_OF "java/lang/String" "value" "[B" (.ref (G.2.2 (w + 100))) (G.2.2 w) A U H ∧ va_T .byte (G.2.2 (w + 100)) (STRL.getD (w - 10) []).length (fun j => .int (Int32.ofInt ((STRL.getD (w - 10) []).getD j 0))) A U H
def rZS (A : Nat → Prop) (U : State) (H : Heap) : Prop := va_Z "java/lang/String" "COMPACT_STRINGS" "Z" (.int 1) A U H ∧ va_Zq "jdk/internal/util/Preconditions" "SIOOBE_FORMATTER" "Ljava/util/function/BiFunction;" A U H
def rTH (A : Nat → Prop) (U : State) (H : Heap) : Prop := vx_Zq Bundle.tN "UNASSIGNED_STACK" Bundle.steD A U H ∧ vx_Zq Bundle.tN "SUPPRESSED_SENTINEL" Bundle.listD A U H
def ROH (G : GD) (A : Nat → Prop) (U : State) (H : Heap) : Prop := rSX G A U H ∧ rSY G A U H ∧ (∀ w, 10 ≤ w → w < 27 → rST G A U H w) ∧ rZS A U H ∧ rTH A U H ∧ va_Nc "java/lang/IllegalArgumentException" "java/util/NoSuchElementException" U
theorem ROH.moved {G : GD} {A : Nat → Prop} {u U : State} {H : Heap} (hvm : u.vm.Alike U.vm) (h : ROH G A u H) : ROH G A U H :=
  ⟨⟨h.1.1.moved hvm, h.1.2.moved hvm⟩, ⟨h.2.1.1.moved hvm, h.2.1.2.moved hvm⟩, fun w h1 h2 => ⟨(h.2.2.1 w h1 h2).1.moved hvm, (h.2.2.1 w h1 h2).2.1.moved hvm, (h.2.2.1 w h1 h2).2.2.1.moved hvm, (h.2.2.1 w h1 h2).2.2.2.moved hvm⟩, ⟨h.2.2.2.1.1.moved hvm, h.2.2.2.1.2.moved hvm⟩, ⟨h.2.2.2.2.1.1.moved hvm, h.2.2.2.2.1.2.moved hvm⟩, h.2.2.2.2.2.moved hvm⟩
theorem ROH.kept {G : GD} {A : Nat → Prop} {U : State} {H H1 : Heap} (h : ROH G A U H) (hq : ∀ a : Nat, a < H.size → ¬ A a → H1[a]? = H[a]?) : ROH G A U H1 :=
  ⟨⟨h.1.1.kept hq, h.1.2.kept hq⟩, ⟨h.2.1.1.kept hq, h.2.1.2.kept hq⟩, fun w h1 h2 => ⟨(h.2.2.1 w h1 h2).1.kept hq, (h.2.2.1 w h1 h2).2.1.kept hq, (h.2.2.1 w h1 h2).2.2.1.kept hq, (h.2.2.1 w h1 h2).2.2.2.kept hq⟩, ⟨h.2.2.2.1.1.kept hq, h.2.2.2.1.2.kept hq⟩, ⟨h.2.2.2.2.1.1.kept hq, h.2.2.2.2.1.2.kept hq⟩, h.2.2.2.2.2⟩
theorem ROH.narrow {G : GD} {A B : Nat → Prop} {U : State} {H : Heap} (h : ROH G A U H) (hAB : ∀ q, B q → A q) : ROH G B U H :=
  ⟨⟨h.1.1.narrow hAB, h.1.2.narrow hAB⟩, ⟨h.2.1.1.narrow hAB, h.2.1.2.narrow hAB⟩, fun w h1 h2 => ⟨(h.2.2.1 w h1 h2).1.narrow hAB, (h.2.2.1 w h1 h2).2.1.narrow hAB, (h.2.2.1 w h1 h2).2.2.1.narrow hAB, (h.2.2.1 w h1 h2).2.2.2.narrow hAB⟩, ⟨h.2.2.2.1.1.narrow hAB, h.2.2.2.1.2.narrow hAB⟩, ⟨h.2.2.2.2.1.1.narrow hAB, h.2.2.2.2.1.2.narrow hAB⟩, h.2.2.2.2.2⟩
def lvh (G : GD) (ad : Nat → Nat) (n : Nat) (ls : List Av) (lr : Array Slot) : Prop := lr.size = ls.length ∧ lv_wf lr ∧ ∀ (k : Nat) (v : Av), ls[k]? = some v → v.1 ≠ 9 → lr[k]? = some (.val (rv G ad v)) ∧ okv n v
def Rp (G : GD) (X : CX) (ad : Nat → Nat) (n : Nat) (h : Hp) (H : Heap) (locs : List Loc) : Prop :=
  va_P G.1 vwCl (wl G ad n h) H ∧ va_D X.A (wl G ad n h) ∧ va_S X.A X.s.heap H locs ∧ okh n h ∧ (X.bt = true → ShN n h) ∧ X.n0 ≤ n ∧ ∀ i, i < X.n0 → ad i = X.ad0 i
def Cx (G : GD) (X : CX) (own : String) (cc : ByteArray) : Prop :=
  X.p.tables.exec = Jvm.exec ∧ X.c.code = cc ∧ X.s.vm.findClass own = some X.m.cls ∧ (∀ w ∈ TB, w.before X.args X.s = true) ∧ va_K G.1 vwCl (tysG G) X.s ∧ (∀ q, X.s.heap.size ≤ q → X.A q) ∧ X.meth.locks = false ∧ ROH G X.A X.s X.s.heap ∧ NWs G X.s
theorem Cx.ro {G : GD} {X : CX} {own : String} {cc : ByteArray} (h : Cx G X own cc) : ROH G X.A X.s X.s.heap := h.2.2.2.2.2.2.2.1
theorem Cx.nwF {G : GD} {X : CX} {own : String} {cc : ByteArray} (h : Cx G X own cc) {a : String} {i : Nat} {b n d k : String} (hw : Cond.fieldLinkNest a i b n d k ∈ TBN) : (Cond.fieldLinkNest a i b n d k).before X.args X.s = true := (h.2.2.2.2.2.2.2.2.1 _ hw).use rfl
theorem Cx.nw {G : GD} {X : CX} {own : String} {cc : ByteArray} (h : Cx G X own cc)   : NWs G X.s := h.2.2.2.2.2.2.2.2
def AW (G : GD) (X : CX) (pc : Nat) (ls sk : List Av) (n : Nat) (h : Hp) (cs ss : Nat) : Prop :=
  ∀ (ad : Nat → Nat) (H : Heap) (locs : List Loc) (lr : Array Slot), Rp G X ad n h H locs → lvh G ad n ls lr → X.c.maxLocals = ls.length → (∀ v ∈ sk, okv n v) →
    W X.p X.l X.e X.R X.s X.m X.args X.below X.meth X.c H locs cs ss X.Z (F0 X.m pc lr (sk.map (rv G ad)))
/-! arithmetic of the machine on whole numbers -/
theorem i32_rng (x : Int32) : in32 x.toInt := by
  have h1 := Int32.minValue_le_toInt x
  have h2 := Int32.toInt_le x
  exact ⟨h1, h2⟩
theorem i64_rng (x : Int64) : in64 x.toInt := by
  have h1 := Int64.minValue_le_toInt x
  have h2 := Int64.toInt_le x
  exact ⟨h1, h2⟩
theorem i32_of {x : Int} (h : in32 x) : (Int32.ofInt x).toInt = x := Int32.toInt_ofInt_of_le h.1 (by have := h.2; omega)
theorem i64_of {x : Int} (h : in64 x) : (Int64.ofInt x).toInt = x := Int64.toInt_ofInt_of_le h.1 (by have := h.2; omega)
theorem i32_lt {x y : Int} (hx : in32 x) (hy : in32 y) : Int32.ofInt x < Int32.ofInt y ↔ x < y := by rw [Int32.lt_iff_toInt_lt, i32_of hx, i32_of hy]
theorem i32_le {x y : Int} (hx : in32 x) (hy : in32 y) : Int32.ofInt x ≤ Int32.ofInt y ↔ x ≤ y := by rw [Int32.le_iff_toInt_le, i32_of hx, i32_of hy]
theorem i32_eq {x y : Int} (hx : in32 x) (hy : in32 y) : Int32.ofInt x = Int32.ofInt y ↔ x = y := ⟨fun h => by rw [← i32_of hx, h, i32_of hy], fun h => by rw [h]⟩
theorem i64_lt {x y : Int} (hx : in64 x) (hy : in64 y) : Int64.ofInt x < Int64.ofInt y ↔ x < y := by rw [Int64.lt_iff_toInt_lt, i64_of hx, i64_of hy]
theorem i64_eq {x y : Int} (hx : in64 x) (hy : in64 y) : Int64.ofInt x = Int64.ofInt y ↔ x = y := ⟨fun h => by rw [← i64_of hx, h, i64_of hy], fun h => by rw [h]⟩
theorem i32_to (x : Int32) : Int32.ofInt x.toInt = x := Int32.ofInt_toInt x
theorem i64_to (x : Int64) : Int64.ofInt x.toInt = x := Int64.ofInt_toInt x
theorem i32_clamp {x : Int} (hx : in32 x) : (Int32.ofInt x).toNatClampNeg = x.toNat := by
  show (Int32.ofInt x).toInt.toNat = x.toNat
  rw [i32_of hx]
theorem in32_lit0 : in32 0 := by unfold in32; omega
def i_add (a b : Int) : Int := (Int32.ofInt a + Int32.ofInt b).toInt
def i_sub (a b : Int) : Int := (Int32.ofInt a - Int32.ofInt b).toInt
def i_mul (a b : Int) : Int := (Int32.ofInt a * Int32.ofInt b).toInt
def i_div (a b : Int) : Int := (Int32.ofInt a / Int32.ofInt b).toInt
def i_rem (a b : Int) : Int := (Int32.ofInt a - Int32.ofInt a / Int32.ofInt b * Int32.ofInt b).toInt
def i_neg (a : Int) : Int := (-(Int32.ofInt a)).toInt
def i_and (a b : Int) : Int := (Int32.ofInt a &&& Int32.ofInt b).toInt
def i_or (a b : Int) : Int := (Int32.ofInt a ||| Int32.ofInt b).toInt
def i_xor (a b : Int) : Int := (Int32.ofInt a ^^^ Int32.ofInt b).toInt
def i_shl (a b : Int) : Int := (Int32.ofInt a <<< (Int32.ofInt b &&& 31)).toInt
def i_shr (a b : Int) : Int := (Int32.ofInt a >>> (Int32.ofInt b &&& 31)).toInt
def i_ushr (a b : Int) : Int := (((Int32.ofInt a).toUInt32 >>> ((Int32.ofInt b).toUInt32 &&& Int32.toUInt32 31)).toInt32).toInt
def i_2b (a : Int) : Int := (Int32.ofInt a).toInt8.toInt32.toInt
def l_sub (a b : Int) : Int := (Int64.ofInt a - Int64.ofInt b).toInt
def l_and (a b : Int) : Int := (Int64.ofInt a &&& Int64.ofInt b).toInt
def l_or (a b : Int) : Int := (Int64.ofInt a ||| Int64.ofInt b).toInt
def l_shl (a b : Int) : Int := (Int64.ofInt a <<< ((Int32.ofInt b).toInt64 &&& 63)).toInt
def l_shr (a b : Int) : Int := (Int64.ofInt a >>> ((Int32.ofInt b).toInt64 &&& 63)).toInt
def l_ushr (a b : Int) : Int := (((Int64.ofInt a).toUInt64 >>> ((Int32.ofInt b).toInt64.toUInt64 &&& Int64.toUInt64 63)).toInt64).toInt
def l_2i (a : Int) : Int := (Int64.ofInt a).toInt32.toInt
def l_cmp (a b : Int) : Int := if b < a then 1 else if a = b then 0 else -1
theorem i_add_eq {a b : Int} (h : in32 (a + b)) : i_add a b = a + b := by
  unfold i_add
  rw [← Int32.ofInt_add, i32_of h]
theorem i_sub_eq {a b : Int} (h : in32 (a - b)) : i_sub a b = a - b := by
  unfold i_sub
  rw [← Int32.ofInt_sub, i32_of h]
theorem i_mul_eq {a b : Int} (h : in32 (a * b)) : i_mul a b = a * b := by
  unfold i_mul
  rw [← Int32.ofInt_mul, i32_of h]
theorem ok1 {n : Nat} {v : Av} {sk : List Av} (h : ∀ u ∈ (v :: sk), okv n u) : ∀ u ∈ sk, okv n u := fun u hu => h u (List.mem_cons_of_mem _ hu)
theorem okp {n : Nat} {v : Av} {sk : List Av} (h : ∀ u ∈ sk, okv n u) (hv : okv n v) : ∀ u ∈ (v :: sk), okv n u := fun u hu => (List.mem_cons.mp hu).elim (fun e => by rw [e]; exact hv) (h u)
theorem okt {n : Nat} {v : Av} {sk : List Av} (h : ∀ u ∈ (v :: sk), okv n u) : okv n v := h v List.mem_cons_self
