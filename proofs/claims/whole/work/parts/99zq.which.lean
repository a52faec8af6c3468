/-! which exception a call of the class may throw -/
def OX (S : Nat → Prop) (x : Option RX) : Prop := ∀ e h1, x = some (.inr (e, h1)) → S e
theorem ox_if {S : Nat → Prop} {c : Prop} [Decidable c] {x y : Option RX} (h1 : OX S x) (h2 : OX S y) : OX S (if c then x else y) := by
  by_cases q : c
  · rw [if_pos q]; exact h1
  · rw [if_neg q]; exact h2
theorem ox_inr {S : Nat → Prop} {e : Nat} {h : Hp} (he : S e) : OX S (some (.inr (e, h))) := by
  intro e' h1 q
  cases q
  exact he
theorem ox_mi {S : Nat → Prop} {x : Option (Int × Hp)} : OX S (mi_ x) := fun _ _ q => (mi_x q).elim
theorem ox_gd {S : Nat → Prop} {c : Prop} [Decidable c] {x : Option RX} (h1 : OX S x) : OX S (gd_ c x) := by
  unfold gd_
  refine ox_if h1 ?_
  intro e h q
  cases q
theorem ox_bp {S : Nat → Prop} {α : Type} {x : Option α} {f : α → Option RX} (h1 : ∀ a, OX S (f a)) : OX S (bp_ x f) := by
  intro e h q
  unfold bp_ at q
  match x, q with
  | some a, q => exact h1 a e h q
theorem ox_bx {S : Nat → Prop} {x : Option RX} {f : Int → Hp → Option RX} (h0 : OX S x) (h1 : ∀ r h, OX S (f r h)) : OX S (bx_ x f) := by
  intro e h q
  rcases bx_x q with ⟨v, h2, -, q2⟩ | q2
  · exact h1 v h2 e h q2
  · exact h0 e h q2
theorem ox_mono {S T : Nat → Prop} {x : Option RX} (h : OX S x) (k : ∀ e, S e → T e) : OX T x := fun e h1 q => k e (h e h1 q)
theorem ox_needCell {x0 : Int} {h : Hp} : OX (fun e => e = 0) (fX5_needCell x0 h) := by
  unfold fX5_needCell
  repeat (first | exact ox_mi | exact ox_inr rfl | exact ox_inr (Or.inl rfl) | exact ox_inr (Or.inr rfl) | refine ox_gd ?_ | refine ox_bp (fun _ => ?_) | refine ox_bx ?_ (fun _ _ => ?_) | refine ox_if ?_ ?_)
theorem ox_needTree {x0 : Int} {h : Hp} : OX (fun e => e = 0) (fX5_needTree x0 h) := by
  unfold fX5_needTree
  repeat (first | exact ox_mi | exact ox_inr rfl | exact ox_inr (Or.inl rfl) | exact ox_inr (Or.inr rfl) | exact ox_needCell | refine ox_gd ?_ | refine ox_bp (fun _ => ?_) | refine ox_bx ?_ (fun _ _ => ?_) | refine ox_if ?_ ?_)
theorem ox_needHouse {x0 : Int} {h : Hp} : OX (fun e => e = 0) (fX5_needHouse x0 h) := by
  unfold fX5_needHouse
  repeat (first | exact ox_mi | exact ox_inr rfl | exact ox_inr (Or.inl rfl) | exact ox_inr (Or.inr rfl) | exact ox_needCell | exact ox_needTree | refine ox_gd ?_ | refine ox_bp (fun _ => ?_) | refine ox_bx ?_ (fun _ _ => ?_) | refine ox_if ?_ ?_)
theorem ox_needDirection {x0 : Int} {h : Hp} : OX (fun e => e = 0) (fX5_needDirection x0 h) := by
  unfold fX5_needDirection
  repeat (first | exact ox_mi | exact ox_inr rfl | exact ox_inr (Or.inl rfl) | exact ox_inr (Or.inr rfl) | exact ox_needCell | exact ox_needTree | exact ox_needHouse | refine ox_gd ?_ | refine ox_bp (fun _ => ?_) | refine ox_bx ?_ (fun _ _ => ?_) | refine ox_if ?_ ?_)
theorem ox_needWhat {x0 x1 : Int} {h : Hp} : OX (fun e => e = 0) (fX5_needWhat x0 x1 h) := by
  unfold fX5_needWhat
  repeat (first | exact ox_mi | exact ox_inr rfl | exact ox_inr (Or.inl rfl) | exact ox_inr (Or.inr rfl) | exact ox_needCell | exact ox_needTree | exact ox_needHouse | exact ox_needDirection | refine ox_gd ?_ | refine ox_bp (fun _ => ?_) | refine ox_bx ?_ (fun _ _ => ?_) | refine ox_if ?_ ?_)
theorem ox_duchy {x0 : Int} {h : Hp} : OX (fun e => e = 1) (fX5_duchy x0 h) := by
  unfold fX5_duchy
  repeat (first | exact ox_mi | exact ox_inr rfl | exact ox_inr (Or.inl rfl) | exact ox_inr (Or.inr rfl) | exact ox_needCell | exact ox_needTree | exact ox_needHouse | exact ox_needDirection | exact ox_needWhat | refine ox_gd ?_ | refine ox_bp (fun _ => ?_) | refine ox_bx ?_ (fun _ _ => ?_) | refine ox_if ?_ ?_)
theorem ox_count {x0 : Int} {h : Hp} : OX (fun e => e = 0) (fX5_count x0 h) := by
  unfold fX5_count
  repeat (first | exact ox_mi | exact ox_inr rfl | exact ox_inr (Or.inl rfl) | exact ox_inr (Or.inr rfl) | exact ox_needCell | exact ox_needTree | exact ox_needHouse | exact ox_needDirection | exact ox_needWhat | refine ox_gd ?_ | refine ox_bp (fun _ => ?_) | refine ox_bx ?_ (fun _ _ => ?_) | refine ox_if ?_ ?_)
theorem ox_cell {x0 x1 : Int} {h : Hp} : OX (fun e => e = 0) (fX5_cell x0 x1 h) := by
  unfold fX5_cell
  repeat (first | exact ox_mi | exact ox_inr rfl | exact ox_inr (Or.inl rfl) | exact ox_inr (Or.inr rfl) | exact ox_needCell | exact ox_needTree | exact ox_needHouse | exact ox_needDirection | exact ox_needWhat | refine ox_gd ?_ | refine ox_bp (fun _ => ?_) | refine ox_bx ?_ (fun _ _ => ?_) | refine ox_if ?_ ?_)
theorem ox_tree {x0 x1 : Int} {h : Hp} : OX (fun e => e = 0) (fX5_tree x0 x1 h) := by
  unfold fX5_tree
  repeat (first | exact ox_mi | exact ox_inr rfl | exact ox_inr (Or.inl rfl) | exact ox_inr (Or.inr rfl) | exact ox_needCell | exact ox_needTree | exact ox_needHouse | exact ox_needDirection | exact ox_needWhat | refine ox_gd ?_ | refine ox_bp (fun _ => ?_) | refine ox_bx ?_ (fun _ _ => ?_) | refine ox_if ?_ ?_)
theorem ox_house {x0 x1 : Int} {h : Hp} : OX (fun e => e = 0) (fX5_house x0 x1 h) := by
  unfold fX5_house
  repeat (first | exact ox_mi | exact ox_inr rfl | exact ox_inr (Or.inl rfl) | exact ox_inr (Or.inr rfl) | exact ox_needCell | exact ox_needTree | exact ox_needHouse | exact ox_needDirection | exact ox_needWhat | refine ox_gd ?_ | refine ox_bp (fun _ => ?_) | refine ox_bx ?_ (fun _ _ => ?_) | refine ox_if ?_ ?_)
theorem ox_miles {x0 x1 : Int} {h : Hp} : OX (fun e => e = 0) (fX5_miles x0 x1 h) := by
  unfold fX5_miles
  repeat (first | exact ox_mi | exact ox_inr rfl | exact ox_inr (Or.inl rfl) | exact ox_inr (Or.inr rfl) | exact ox_needCell | exact ox_needTree | exact ox_needHouse | exact ox_needDirection | exact ox_needWhat | refine ox_gd ?_ | refine ox_bp (fun _ => ?_) | refine ox_bx ?_ (fun _ _ => ?_) | refine ox_if ?_ ?_)
theorem ox_seen {x0 : Int} {h : Hp} : OX (fun e => e = 0) (fX5_seen x0 h) := by
  unfold fX5_seen
  repeat (first | exact ox_mi | exact ox_inr rfl | exact ox_inr (Or.inl rfl) | exact ox_inr (Or.inr rfl) | exact ox_needCell | exact ox_needTree | exact ox_needHouse | exact ox_needDirection | exact ox_needWhat | refine ox_gd ?_ | refine ox_bp (fun _ => ?_) | refine ox_bx ?_ (fun _ _ => ?_) | refine ox_if ?_ ?_)
theorem ox_plant {x0 x1 : Int} {h : Hp} : OX (fun e => e = 0) (fX5_plant x0 x1 h) := by
  unfold fX5_plant
  repeat (first | exact ox_mi | exact ox_inr rfl | exact ox_inr (Or.inl rfl) | exact ox_inr (Or.inr rfl) | exact ox_needCell | exact ox_needTree | exact ox_needHouse | exact ox_needDirection | exact ox_needWhat | refine ox_gd ?_ | refine ox_bp (fun _ => ?_) | refine ox_bx ?_ (fun _ _ => ?_) | refine ox_if ?_ ?_)
theorem ox_fell {x0 : Int} {h : Hp} : OX (fun e => e = 0) (fX5_fell x0 h) := by
  unfold fX5_fell
  repeat (first | exact ox_mi | exact ox_inr rfl | exact ox_inr (Or.inl rfl) | exact ox_inr (Or.inr rfl) | exact ox_needCell | exact ox_needTree | exact ox_needHouse | exact ox_needDirection | exact ox_needWhat | refine ox_gd ?_ | refine ox_bp (fun _ => ?_) | refine ox_bx ?_ (fun _ _ => ?_) | refine ox_if ?_ ?_)
theorem ox_floor {x0 x1 : Int} {h : Hp} : OX (fun e => e = 0) (fX5_floor x0 x1 h) := by
  unfold fX5_floor
  repeat (first | exact ox_mi | exact ox_inr rfl | exact ox_inr (Or.inl rfl) | exact ox_inr (Or.inr rfl) | exact ox_needCell | exact ox_needTree | exact ox_needHouse | exact ox_needDirection | exact ox_needWhat | refine ox_gd ?_ | refine ox_bp (fun _ => ?_) | refine ox_bx ?_ (fun _ _ => ?_) | refine ox_if ?_ ?_)
theorem ox_barn {x0 x1 : Int} {h : Hp} : OX (fun e => e = 0) (fX5_barn x0 x1 h) := by
  unfold fX5_barn
  repeat (first | exact ox_mi | exact ox_inr rfl | exact ox_inr (Or.inl rfl) | exact ox_inr (Or.inr rfl) | exact ox_needCell | exact ox_needTree | exact ox_needHouse | exact ox_needDirection | exact ox_needWhat | refine ox_gd ?_ | refine ox_bp (fun _ => ?_) | refine ox_bx ?_ (fun _ _ => ?_) | refine ox_if ?_ ?_)
theorem ox_sell {x0 x1 : Int} {h : Hp} : OX (fun e => e = 0) (fX5_sell x0 x1 h) := by
  unfold fX5_sell
  repeat (first | exact ox_mi | exact ox_inr rfl | exact ox_inr (Or.inl rfl) | exact ox_inr (Or.inr rfl) | exact ox_needCell | exact ox_needTree | exact ox_needHouse | exact ox_needDirection | exact ox_needWhat | refine ox_gd ?_ | refine ox_bp (fun _ => ?_) | refine ox_bx ?_ (fun _ _ => ?_) | refine ox_if ?_ ?_)
theorem ox_firs {x0 x1 : Int} {h : Hp} : OX (fun e => e = 1) (fX5_firs x0 x1 h) := by
  unfold fX5_firs
  repeat (first | exact ox_mi | exact ox_inr rfl | exact ox_inr (Or.inl rfl) | exact ox_inr (Or.inr rfl) | exact ox_needCell | exact ox_needTree | exact ox_needHouse | exact ox_needDirection | exact ox_needWhat | refine ox_gd ?_ | refine ox_bp (fun _ => ?_) | refine ox_bx ?_ (fun _ _ => ?_) | refine ox_if ?_ ?_)
theorem ox_fir {x0 : Int} {h : Hp} : OX (fun e => e = 0) (fX5_fir x0 h) := by
  unfold fX5_fir
  repeat (first | exact ox_mi | exact ox_inr rfl | exact ox_inr (Or.inl rfl) | exact ox_inr (Or.inr rfl) | exact ox_needCell | exact ox_needTree | exact ox_needHouse | exact ox_needDirection | exact ox_needWhat | refine ox_gd ?_ | refine ox_bp (fun _ => ?_) | refine ox_bx ?_ (fun _ _ => ?_) | refine ox_if ?_ ?_)
theorem ox_spades {x0 x1 : Int} {h : Hp} : OX (fun e => e = 0 ∨ e = 1) (fX5_spades x0 x1 h) := by
  unfold fX5_spades
  repeat (first | exact ox_mi | exact ox_inr rfl | exact ox_inr (Or.inl rfl) | exact ox_inr (Or.inr rfl) | exact ox_needCell | exact ox_mono ox_needCell (fun _ q => Or.inl q) | exact ox_needTree | exact ox_mono ox_needTree (fun _ q => Or.inl q) | exact ox_needHouse | exact ox_mono ox_needHouse (fun _ q => Or.inl q) | exact ox_needDirection | exact ox_mono ox_needDirection (fun _ q => Or.inl q) | exact ox_needWhat | exact ox_mono ox_needWhat (fun _ q => Or.inl q) | refine ox_gd ?_ | refine ox_bp (fun _ => ?_) | refine ox_bx ?_ (fun _ _ => ?_) | refine ox_if ?_ ?_)
theorem ox_felling {x0 : Int} {h : Hp} : OX (fun e => e = 0) (fX5_felling x0 h) := by
  unfold fX5_felling
  repeat (first | exact ox_mi | exact ox_inr rfl | exact ox_inr (Or.inl rfl) | exact ox_inr (Or.inr rfl) | exact ox_needCell | exact ox_needTree | exact ox_needHouse | exact ox_needDirection | exact ox_needWhat | refine ox_gd ?_ | refine ox_bp (fun _ => ?_) | refine ox_bx ?_ (fun _ _ => ?_) | refine ox_if ?_ ?_)
theorem ox_compare {x0 x1 : Int} {h : Hp} : OX (fun e => e = 0) (fX5_compare x0 x1 h) := by
  unfold fX5_compare
  repeat (first | exact ox_mi | exact ox_inr rfl | exact ox_inr (Or.inl rfl) | exact ox_inr (Or.inr rfl) | exact ox_needCell | exact ox_needTree | exact ox_needHouse | exact ox_needDirection | exact ox_needWhat | refine ox_gd ?_ | refine ox_bp (fun _ => ?_) | refine ox_bx ?_ (fun _ _ => ?_) | refine ox_if ?_ ?_)
theorem ox_mildest {x0 : Int} {h : Hp} : OX (fun e => e = 1) (fX5_mildest x0 h) := by
  unfold fX5_mildest
  repeat (first | exact ox_mi | exact ox_inr rfl | exact ox_inr (Or.inl rfl) | exact ox_inr (Or.inr rfl) | exact ox_needCell | exact ox_needTree | exact ox_needHouse | exact ox_needDirection | exact ox_needWhat | refine ox_gd ?_ | refine ox_bp (fun _ => ?_) | refine ox_bx ?_ (fun _ _ => ?_) | refine ox_if ?_ ?_)
theorem ox_round {x0 : Int} {h : Hp} : OX (fun e => e = 0) (fX5_round x0 h) := by
  unfold fX5_round
  repeat (first | exact ox_mi | exact ox_inr rfl | exact ox_inr (Or.inl rfl) | exact ox_inr (Or.inr rfl) | exact ox_needCell | exact ox_needTree | exact ox_needHouse | exact ox_needDirection | exact ox_needWhat | refine ox_gd ?_ | refine ox_bp (fun _ => ?_) | refine ox_bx ?_ (fun _ _ => ?_) | refine ox_if ?_ ?_)
theorem ox_stop {x0 : Int} {h : Hp} : OX (fun e => e = 0) (fX5_stop x0 h) := by
  unfold fX5_stop
  repeat (first | exact ox_mi | exact ox_inr rfl | exact ox_inr (Or.inl rfl) | exact ox_inr (Or.inr rfl) | exact ox_needCell | exact ox_needTree | exact ox_needHouse | exact ox_needDirection | exact ox_needWhat | refine ox_gd ?_ | refine ox_bp (fun _ => ?_) | refine ox_bx ?_ (fun _ _ => ?_) | refine ox_if ?_ ?_)
theorem ox_barns {x0 x1 x2 x3 x4 : Int} {h : Hp} : OX (fun e => e = 0 ∨ e = 1) (fX5_barns x0 x1 x2 x3 x4 h) := by
  unfold fX5_barns
  repeat (first | exact ox_mi | exact ox_inr rfl | exact ox_inr (Or.inl rfl) | exact ox_inr (Or.inr rfl) | exact ox_needCell | exact ox_mono ox_needCell (fun _ q => Or.inl q) | exact ox_needTree | exact ox_mono ox_needTree (fun _ q => Or.inl q) | exact ox_needHouse | exact ox_mono ox_needHouse (fun _ q => Or.inl q) | exact ox_needDirection | exact ox_mono ox_needDirection (fun _ q => Or.inl q) | exact ox_needWhat | exact ox_mono ox_needWhat (fun _ q => Or.inl q) | refine ox_gd ?_ | refine ox_bp (fun _ => ?_) | refine ox_bx ?_ (fun _ _ => ?_) | refine ox_if ?_ ?_)
theorem ox_tell {x0 x1 : Int} {h : Hp} : OX (fun e => e = 0) (fX5_tell x0 x1 h) := by
  unfold fX5_tell
  repeat (first | exact ox_mi | exact ox_inr rfl | exact ox_inr (Or.inl rfl) | exact ox_inr (Or.inr rfl) | exact ox_needCell | exact ox_needTree | exact ox_needHouse | exact ox_needDirection | exact ox_needWhat | refine ox_gd ?_ | refine ox_bp (fun _ => ?_) | refine ox_bx ?_ (fun _ _ => ?_) | refine ox_if ?_ ?_)
theorem ox_heights {x0 x1 : Int} {h : Hp} : OX (fun e => e = 0) (fX5_heights x0 x1 h) := by
  unfold fX5_heights
  repeat (first | exact ox_mi | exact ox_inr rfl | exact ox_inr (Or.inl rfl) | exact ox_inr (Or.inr rfl) | exact ox_needCell | exact ox_needTree | exact ox_needHouse | exact ox_needDirection | exact ox_needWhat | refine ox_gd ?_ | refine ox_bp (fun _ => ?_) | refine ox_bx ?_ (fun _ _ => ?_) | refine ox_if ?_ ?_)
theorem ox_decades {x0 x1 x2 : Int} {h : Hp} : OX (fun e => e = 0 ∨ e = 1) (fX5_decades x0 x1 x2 h) := by
  unfold fX5_decades
  repeat (first | exact ox_mi | exact ox_inr rfl | exact ox_inr (Or.inl rfl) | exact ox_inr (Or.inr rfl) | exact ox_needCell | exact ox_mono ox_needCell (fun _ q => Or.inl q) | exact ox_needTree | exact ox_mono ox_needTree (fun _ q => Or.inl q) | exact ox_needHouse | exact ox_mono ox_needHouse (fun _ q => Or.inl q) | exact ox_needDirection | exact ox_mono ox_needDirection (fun _ q => Or.inl q) | exact ox_needWhat | exact ox_mono ox_needWhat (fun _ q => Or.inl q) | refine ox_gd ?_ | refine ox_bp (fun _ => ?_) | refine ox_bx ?_ (fun _ _ => ?_) | refine ox_if ?_ ?_)
theorem ox_hollow {x0 : Int} {h : Hp} : OX (fun e => e = 0) (fX5_hollow x0 h) := by
  unfold fX5_hollow
  repeat (first | exact ox_mi | exact ox_inr rfl | exact ox_inr (Or.inl rfl) | exact ox_inr (Or.inr rfl) | exact ox_needCell | exact ox_needTree | exact ox_needHouse | exact ox_needDirection | exact ox_needWhat | refine ox_gd ?_ | refine ox_bp (fun _ => ?_) | refine ox_bx ?_ (fun _ _ => ?_) | refine ox_if ?_ ?_)
theorem ox_sale {x0 : Int} {h : Hp} : OX (fun e => e = 0) (fX5_sale x0 h) := by
  unfold fX5_sale
  repeat (first | exact ox_mi | exact ox_inr rfl | exact ox_inr (Or.inl rfl) | exact ox_inr (Or.inr rfl) | exact ox_needCell | exact ox_needTree | exact ox_needHouse | exact ox_needDirection | exact ox_needWhat | refine ox_gd ?_ | refine ox_bp (fun _ => ?_) | refine ox_bx ?_ (fun _ _ => ?_) | refine ox_if ?_ ?_)
theorem ox_shade {x0 x1 : Int} {h : Hp} : OX (fun e => e = 0 ∨ e = 1) (fX5_shade x0 x1 h) := by
  unfold fX5_shade
  repeat (first | exact ox_mi | exact ox_inr rfl | exact ox_inr (Or.inl rfl) | exact ox_inr (Or.inr rfl) | exact ox_needCell | exact ox_mono ox_needCell (fun _ q => Or.inl q) | exact ox_needTree | exact ox_mono ox_needTree (fun _ q => Or.inl q) | exact ox_needHouse | exact ox_mono ox_needHouse (fun _ q => Or.inl q) | exact ox_needDirection | exact ox_mono ox_needDirection (fun _ q => Or.inl q) | exact ox_needWhat | exact ox_mono ox_needWhat (fun _ q => Or.inl q) | refine ox_gd ?_ | refine ox_bp (fun _ => ?_) | refine ox_bx ?_ (fun _ _ => ?_) | refine ox_if ?_ ?_)
theorem ox_dearest {x0 : Int} {h : Hp} : OX (fun e => e = 1) (fX5_dearest x0 h) := by
  unfold fX5_dearest
  repeat (first | exact ox_mi | exact ox_inr rfl | exact ox_inr (Or.inl rfl) | exact ox_inr (Or.inr rfl) | exact ox_needCell | exact ox_needTree | exact ox_needHouse | exact ox_needDirection | exact ox_needWhat | refine ox_gd ?_ | refine ox_bp (fun _ => ?_) | refine ox_bx ?_ (fun _ _ => ?_) | refine ox_if ?_ ?_)
