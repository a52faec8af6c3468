def fX6_thrown  (h : Hp) : Option (Int) :=
  some ((h 35 0))
theorem ok_X6_thrown {G : GD} {n : Nat}  {h : Hp} {res : Int} (hF : fX6_thrown  h = some res) : Con G yX6_thrown cX6_thrown 1 (some .int) 0 0 0 true [(2, ((35 : Nat) : Int))] n h (FQ 0 n (res, h)) := by
  refine con_of (pad := 0) (own := RX6) (plainFor_of_name (by decide)) rfl rfl ?_
  intro X hC hbt hr hnm hZ hRm hn0
  have hK : ∀ (x9 : Int), res = x9 → FQ 0 n (res, h) (0, x9) n h := fun x9 e => by subst e; exact ⟨rfl, rfl, rfl⟩
  unfold fX6_thrown at hF
  show AW G X 0 [(2, ((35 : Nat) : Int))] [] n h 0 0
  refine aw_aload_n hC dX6_thrown_0 rfl ?_
  refine aw_g6i (k := 0) (a := 35) hC dX6_thrown_1 lkRX6_129 (by decide) rfl rfl rfl (Or.inl ⟨hbt, by decide⟩) ?_
  exact aw_ireturn hC hZ (Nat.zero_le _) (Nat.zero_le _) hr dX6_thrown_4 (hK _ (Option.some.inj hF).symm)
def fX6_right_j16  (h : Hp) : Option (Int × Hp) :=
  (if (h 35 0) = 0 then some (1, h) else some (0, h))
def fX6_right (x1 : Int) (x2 : Int) (h : Hp) : Option (Int × Hp) :=
  (if (h 35 0) = 0 then (if x1 = 0 then lb_ (st h 35 0 x2) (fun h4 => fX6_right_j16 h4) else fX6_right_j16 h) else fX6_right_j16 h)
theorem fX6_right_j16_ok {G : GD} {X : CX} {n : Nat} {Q : Av → Nat → Hp → Prop} (hC : Cx G X RX6 cX6_right) (hZ : ZOK X G Q 0 0) (hRm : X.R = rmd 0 0 0) (hbt : X.bt = true) (hr : X.meth.sig.returnType = (some .boolean))  {h : Hp} {res : Int × Hp} (hF : fX6_right_j16  h = some res) (hK : ∀ (x9 : Int) (h9 : Hp), res = (x9, h9) → Q (0, x9) n h9) : AW G X 16 [(2, ((35 : Nat) : Int)), (9, 0), (9, 0)] [] n h 0 0 := by
  unfold fX6_right_j16 at hF
  refine aw_aload_n hC dX6_right_16 rfl ?_
  refine aw_g6i (k := 0) (a := 35) hC dX6_right_17 lkRX6_129 (by decide) rfl rfl rfl (Or.inl ⟨hbt, by decide⟩) ?_
  refine aw_if_ne (tgt := 27) hC dX6_right_20 (by decide) (fun c2 => ?_) (fun c2 => ?_)
  · have hF := it_f hF c2
    refine aw_iconst hC dX6_right_27 (by decide) ?_
    exact aw_zreturn hC hZ (Nat.zero_le _) (Nat.zero_le _) hr rfl dX6_right_28 (by decide) (hK _ _ (Option.some.inj hF).symm)
  · have hF := it_t hF c2
    refine aw_iconst hC dX6_right_23 (by decide) ?_
    refine aw_goto (tgt := 28) hC dX6_right_24 (by decide) ?_
    exact aw_zreturn hC hZ (Nat.zero_le _) (Nat.zero_le _) hr rfl dX6_right_28 (by decide) (hK _ _ (Option.some.inj hF).symm)
theorem ok_X6_right {G : GD} {n : Nat} {x1 : Int} {x2 : Int} {h : Hp} {res : Int × Hp} (hF : fX6_right x1 x2 h = some res) : Con G yX6_right cX6_right 3 (some .boolean) 0 0 0 true [(2, ((35 : Nat) : Int)), (0, x1), (0, x2)] n h (FQ 0 n res) := by
  refine con_of (pad := 0) (own := RX6) (plainFor_of_name (by decide)) rfl rfl ?_
  intro X hC hbt hr hnm hZ hRm hn0
  have hK : ∀ (x9 : Int) (h9 : Hp), res = (x9, h9) → FQ 0 n res (0, x9) n h9 := fun x9 h9 e => by subst e; exact ⟨rfl, rfl, rfl⟩
  unfold fX6_right at hF
  show AW G X 0 [(2, ((35 : Nat) : Int)), (0, x1), (0, x2)] [] n h 0 0
  refine aw_aload_n hC dX6_right_0 rfl ?_
  refine aw_g6i (k := 0) (a := 35) hC dX6_right_1 lkRX6_129 (by decide) rfl rfl rfl (Or.inl ⟨hbt, by decide⟩) ?_
  refine aw_if_ne (tgt := 16) hC dX6_right_4 (by decide) (fun c1 => ?_) (fun c1 => ?_)
  · have hF := it_f hF c1
    refine aw_weak (ls' := [(2, ((35 : Nat) : Int)), (9, 0), (9, 0)]) ⟨Or.inr rfl, Or.inl rfl, Or.inl rfl, trivial⟩ ?_
    exact fX6_right_j16_ok hC hZ hRm hbt hr hF hK
  · have hF := it_t hF c1
    refine aw_iload_n hC dX6_right_7 rfl ?_
    refine aw_if_ne (tgt := 16) hC dX6_right_8 (by decide) (fun c3 => ?_) (fun c3 => ?_)
    · have hF := it_f hF c3
      refine aw_weak (ls' := [(2, ((35 : Nat) : Int)), (9, 0), (9, 0)]) ⟨Or.inr rfl, Or.inl rfl, Or.inl rfl, trivial⟩ ?_
      exact fX6_right_j16_ok hC hZ hRm hbt hr hF hK
    · have hF := it_t hF c3
      refine aw_aload_n hC dX6_right_11 rfl ?_
      refine aw_iload_n hC dX6_right_12 rfl ?_
      obtain ⟨h4, eh4, hF⟩ := lb_some hF
      refine aw_p6i (k := 0) (a := 35) hC dX6_right_13 lkRX6_129 (by decide) rfl rfl rfl rfl rfl (Or.inl ⟨hbt, by decide⟩) (fun _ => by decide) ?_
      refine aw_eqH eh4 ?_
      clear eh4
      refine aw_weak (ls' := [(2, ((35 : Nat) : Int)), (9, 0), (9, 0)]) ⟨Or.inr rfl, Or.inl rfl, Or.inl rfl, trivial⟩ ?_
      exact fX6_right_j16_ok hC hZ hRm hbt hr hF hK
def fX6_within (x0 : Int) (x1 : Int) (x2 : Int) (h : Hp) : Option (Int) :=
  (if x0 < x1 then some 0 else (if x2 < x0 then some 0 else some 1))
theorem ok_X6_within {G : GD} {n : Nat} {x0 : Int} {x1 : Int} {x2 : Int} {h : Hp} {res : Int} (hF : fX6_within x0 x1 x2 h = some res) : Con G yX6_within cX6_within 3 (some .boolean) 0 0 0 true [(0, x0), (0, x1), (0, x2)] n h (FQ 0 n (res, h)) := by
  refine con_of (pad := 0) (own := RX6) (plainFor_of_name (by decide)) rfl rfl ?_
  intro X hC hbt hr hnm hZ hRm hn0
  have hK : ∀ (x9 : Int), res = x9 → FQ 0 n (res, h) (0, x9) n h := fun x9 e => by subst e; exact ⟨rfl, rfl, rfl⟩
  unfold fX6_within at hF
  show AW G X 0 [(0, x0), (0, x1), (0, x2)] [] n h 0 0
  refine aw_iload_n hC dX6_within_0 rfl ?_
  refine aw_iload_n hC dX6_within_1 rfl ?_
  refine aw_icmp_lt (tgt := 14) hC dX6_within_2 (by decide) (fun c1 => ?_) (fun c1 => ?_)
  · have hF := it_t hF c1
    refine aw_iconst hC dX6_within_14 (by decide) ?_
    exact aw_zreturn hC hZ (Nat.zero_le _) (Nat.zero_le _) hr rfl dX6_within_15 (by decide) (hK _ (Option.some.inj hF).symm)
  · have hF := it_f hF c1
    refine aw_iload_n hC dX6_within_5 rfl ?_
    refine aw_iload_n hC dX6_within_6 rfl ?_
    refine aw_icmp_gt (tgt := 14) hC dX6_within_7 (by decide) (fun c2 => ?_) (fun c2 => ?_)
    · have hF := it_t hF c2
      refine aw_iconst hC dX6_within_14 (by decide) ?_
      exact aw_zreturn hC hZ (Nat.zero_le _) (Nat.zero_le _) hr rfl dX6_within_15 (by decide) (hK _ (Option.some.inj hF).symm)
    · have hF := it_f hF c2
      refine aw_iconst hC dX6_within_10 (by decide) ?_
      refine aw_goto (tgt := 15) hC dX6_within_11 (by decide) ?_
      exact aw_zreturn hC hZ (Nat.zero_le _) (Nat.zero_le _) hr rfl dX6_within_15 (by decide) (hK _ (Option.some.inj hF).symm)
def fX6_off (x0 : Int) (x1 : Int) (h : Hp) : Option (Int) :=
  (if x1 ≤ x0 then some ((i_sub x0 x1)) else some ((i_sub x1 x0)))
theorem ok_X6_off {G : GD} {n : Nat} {x0 : Int} {x1 : Int} {h : Hp} {res : Int} (hF : fX6_off x0 x1 h = some res) : Con G yX6_off cX6_off 2 (some .int) 0 0 0 true [(0, x0), (0, x1)] n h (FQ 0 n (res, h)) := by
  refine con_of (pad := 0) (own := RX6) (plainFor_of_name (by decide)) rfl rfl ?_
  intro X hC hbt hr hnm hZ hRm hn0
  have hK : ∀ (x9 : Int), res = x9 → FQ 0 n (res, h) (0, x9) n h := fun x9 e => by subst e; exact ⟨rfl, rfl, rfl⟩
  unfold fX6_off at hF
  show AW G X 0 [(0, x0), (0, x1)] [] n h 0 0
  refine aw_iload_n hC dX6_off_0 rfl ?_
  refine aw_iload_n hC dX6_off_1 rfl ?_
  refine aw_icmp_ge (tgt := 11) hC dX6_off_2 (by decide) (fun c1 => ?_) (fun c1 => ?_)
  · have hF := it_t hF c1
    refine aw_iload_n hC dX6_off_11 rfl ?_
    refine aw_iload_n hC dX6_off_12 rfl ?_
    refine aw_isub hC dX6_off_13 ?_
    exact aw_ireturn hC hZ (Nat.zero_le _) (Nat.zero_le _) hr dX6_off_14 (hK _ (Option.some.inj hF).symm)
  · have hF := it_f hF c1
    refine aw_iload_n hC dX6_off_5 rfl ?_
    refine aw_iload_n hC dX6_off_6 rfl ?_
    refine aw_isub hC dX6_off_7 ?_
    refine aw_goto (tgt := 14) hC dX6_off_8 (by decide) ?_
    exact aw_ireturn hC hZ (Nat.zero_le _) (Nat.zero_le _) hr dX6_off_14 (hK _ (Option.some.inj hF).symm)
def fX6_bits_l4 (x0 : Int) (x1 : Int) (x2 : Int) (h : Hp) : Option ((Int × Int) ⊕ (Int)) :=
  (if 12 ≤ x2 then some (.inr x1) else lb_ ((i_add x1 ((i_and ((i_shr x0 x2)) 1)))) (fun v2 => some (.inl (v2, (i_add x2 1)))))
def fX6_bits (x0 : Int) (h : Hp) : Option (Int) :=
  bp_ (it_ (fun s => fX6_bits_l4 x0 s.1 s.2 h) FU (0, 0)) (fun e4 => (fun y5 => some y5) e4)
theorem fX6_bits_l4_ok {G : GD} {X : CX} {n : Nat} {Q : Av → Nat → Hp → Prop} (hC : Cx G X RX6 cX6_bits) (hZ : ZOK X G Q 0 0) (hRm : X.R = rmd 0 0 0) (hbt : X.bt = true) (hr : X.meth.sig.returnType = (some .int)) {x0 : Int} {h : Hp} : ∀ (f : Nat) (x1 : Int) (x2 : Int) (r : Int), it_ (fun s => fX6_bits_l4 x0 s.1 s.2 h) f (x1, x2) = some r → (∀ (y1 : Int), r = y1 → AW G X 24 [(9, 0), (0, y1), (9, 0)] [] n h 0 0) → AW G X 4 [(0, x0), (0, x1), (0, x2)] [] n h 0 0 := by
  intro f
  induction f with
  | zero => intro x1 x2 r hI; cases hI
  | succ f ih0 =>
    intro x1 x2 r hI hX
    obtain ⟨b, hF, hb1, hb2⟩ := it_succ hI
    have hF : fX6_bits_l4 x0 x1 x2 h = some b := hF
    unfold fX6_bits_l4 at hF
    refine aw_iload_n hC dX6_bits_4 rfl ?_
    refine aw_bipush hC dX6_bits_5 (by decide) (by decide) ?_
    refine aw_icmp_ge (tgt := 24) hC dX6_bits_7 (by decide) (fun c1 => ?_) (fun c1 => ?_)
    · have hF := it_t hF c1
      refine aw_weak (ls' := [(9, 0), (0, x1), (9, 0)]) ⟨Or.inl rfl, Or.inr rfl, Or.inl rfl, trivial⟩ ?_
      exact hX _ (hb2 _ (Option.some.inj hF).symm).symm
    · have hF := it_f hF c1
      refine aw_iload_n hC dX6_bits_10 rfl ?_
      refine aw_iload_n hC dX6_bits_11 rfl ?_
      refine aw_iload_n hC dX6_bits_12 rfl ?_
      refine aw_ishr hC dX6_bits_13 ?_
      refine aw_iconst hC dX6_bits_14 (by decide) ?_
      refine aw_iand hC dX6_bits_15 ?_
      refine aw_iadd hC dX6_bits_16 ?_
      obtain ⟨v2, ev2, hF⟩ := lb_some hF
      refine aw_eqT ev2 ?_
      clear ev2
      refine aw_istore1 hC dX6_bits_17 rfl ?_
      refine aw_iinc2 hC dX6_bits_18 rfl ?_
      refine aw_goto (tgt := 4) hC dX6_bits_21 (by decide) ?_
      exact ih0 _ _ r (hb1 _ (Option.some.inj hF).symm) hX
theorem ok_X6_bits {G : GD} {n : Nat} {x0 : Int} {h : Hp} {res : Int} (hF : fX6_bits x0 h = some res) : Con G yX6_bits cX6_bits 3 (some .int) 0 0 0 true [(0, x0)] n h (FQ 0 n (res, h)) := by
  refine con_of (pad := 2) (own := RX6) (plainFor_of_name (by decide)) rfl rfl ?_
  intro X hC hbt hr hnm hZ hRm hn0
  have hK : ∀ (x9 : Int), res = x9 → FQ 0 n (res, h) (0, x9) n h := fun x9 e => by subst e; exact ⟨rfl, rfl, rfl⟩
  unfold fX6_bits at hF
  show AW G X 0 [(0, x0), (9, 0), (9, 0)] [] n h 0 0
  refine aw_iconst hC dX6_bits_0 (by decide) ?_
  refine aw_istore1 hC dX6_bits_1 rfl ?_
  refine aw_iconst hC dX6_bits_2 (by decide) ?_
  refine aw_istore2 hC dX6_bits_3 rfl ?_
  obtain ⟨e4, he, hF⟩ := bp_some hF
  refine fX6_bits_l4_ok hC hZ hRm hbt hr FU _ _ e4 he (fun y5 er => ?_)
  replace er := er.symm
  subst er
  try dsimp only at hF
  refine aw_iload_n hC dX6_bits_24 rfl ?_
  exact aw_ireturn hC hZ (Nat.zero_le _) (Nat.zero_le _) hr dX6_bits_25 (hK _ (Option.some.inj hF).symm)
def fX6_lays_l3 (x1 : Int) (x2 : Int) (h : Hp) : Option ((Int × Hp) ⊕ (Hp)) :=
  (if x2 < 0 then some (.inr h) else gd_ (0 ≤ (h 35 13) ∧ (h 35 13) < 700) (lb_ (st h 42 (Int.toNat ((h 35 13))) ((i_and ((i_shr x1 x2)) 255))) (fun h3 => lb_ (st h3 35 13 ((i_add ((h3 35 13)) 1))) (fun h4 => some (.inl ((i_add x2 (-8)), h4))))))
def fX6_lays (x1 : Int) (h : Hp) : Option (Int × Hp) :=
  bp_ (it_ (fun s => fX6_lays_l3 x1 s.1 s.2) FU (24, h)) (fun e6 => (fun h7 => some (0, h7)) e6)
theorem fX6_lays_l3_ok {G : GD} {X : CX} {n : Nat} {Q : Av → Nat → Hp → Prop} (hC : Cx G X RX6 cX6_lays) (hZ : ZOK X G Q 0 0) (hRm : X.R = rmd 0 0 0) (hbt : X.bt = true) (hr : X.meth.sig.returnType = none) {x1 : Int} : ∀ (f : Nat) (x2 : Int) (h : Hp) (r : Hp), it_ (fun s => fX6_lays_l3 x1 s.1 s.2) f (x2, h) = some r → (∀ (h9 : Hp), r = h9 → AW G X 39 [(9, 0), (9, 0), (9, 0)] [] n h9 0 0) → AW G X 3 [(2, ((35 : Nat) : Int)), (0, x1), (0, x2)] [] n h 0 0 := by
  intro f
  induction f with
  | zero => intro x2 h r hI; cases hI
  | succ f ih0 =>
    intro x2 h r hI hX
    obtain ⟨b, hF, hb1, hb2⟩ := it_succ hI
    have hF : fX6_lays_l3 x1 x2 h = some b := hF
    unfold fX6_lays_l3 at hF
    refine aw_iload_n hC dX6_lays_3 rfl ?_
    refine aw_if_lt (tgt := 39) hC dX6_lays_4 (by decide) (fun c1 => ?_) (fun c1 => ?_)
    · have hF := it_t hF c1
      refine aw_weak (ls' := [(9, 0), (9, 0), (9, 0)]) ⟨Or.inl rfl, Or.inl rfl, Or.inl rfl, trivial⟩ ?_
      exact hX _ (hb2 _ (Option.some.inj hF).symm).symm
    · have hF := it_f hF c1
      refine aw_aload_n hC dX6_lays_7 rfl ?_
      refine aw_gc6 (k := 12) (a := 35) (b := 42) hC hbt dX6_lays_8 lkRX6_35 (by decide) rfl rfl rfl (by decide) (by decide) ?_
      refine aw_aload_n hC dX6_lays_11 rfl ?_
      refine aw_g6i (k := 13) (a := 35) hC dX6_lays_12 lkRX6_132 (by decide) rfl rfl rfl (Or.inl ⟨hbt, by decide⟩) ?_
      refine aw_iload_n hC dX6_lays_15 rfl ?_
      refine aw_iload_n hC dX6_lays_16 rfl ?_
      refine aw_ishr hC dX6_lays_17 ?_
      refine aw_sipush hC dX6_lays_18 (by decide) (by decide) ?_
      refine aw_iand hC dX6_lays_21 ?_
      obtain ⟨g2, hF⟩ := gd_some hF
      obtain ⟨h3, eh3, hF⟩ := lb_some hF
      refine aw_iastore (a := 42) hC dX6_lays_22 rfl rfl (Or.inl ⟨hbt, by decide⟩) g2.1 g2.2 ?_
      refine aw_eqH eh3 ?_
      clear eh3
      refine aw_aload_n hC dX6_lays_23 rfl ?_
      refine aw_dup hC dX6_lays_24 (by simp) ?_
      refine aw_g6i (k := 13) (a := 35) hC dX6_lays_25 lkRX6_132 (by decide) rfl rfl rfl (Or.inl ⟨hbt, by decide⟩) ?_
      refine aw_iconst hC dX6_lays_28 (by decide) ?_
      refine aw_iadd hC dX6_lays_29 ?_
      obtain ⟨h4, eh4, hF⟩ := lb_some hF
      refine aw_p6i (k := 13) (a := 35) hC dX6_lays_30 lkRX6_132 (by decide) rfl rfl rfl rfl rfl (Or.inl ⟨hbt, by decide⟩) (fun _ => by decide) ?_
      refine aw_eqH eh4 ?_
      clear eh4
      refine aw_iinc2 hC dX6_lays_33 rfl ?_
      refine aw_goto (tgt := 3) hC dX6_lays_36 (by decide) ?_
      exact ih0 _ _ r (hb1 _ (Option.some.inj hF).symm) hX
theorem ok_X6_lays {G : GD} {n : Nat} {x1 : Int} {h : Hp} {res : Int × Hp} (hF : fX6_lays x1 h = some res) : Con G yX6_lays cX6_lays 3 none 0 0 0 true [(2, ((35 : Nat) : Int)), (0, x1)] n h (FQ 8 n res) := by
  refine con_of (pad := 1) (own := RX6) (plainFor_of_name (by decide)) rfl rfl ?_
  intro X hC hbt hr hnm hZ hRm hn0
  have hK : ∀ (x9 : Int) (h9 : Hp), res = (x9, h9) → FQ 8 n res (8, x9) n h9 := fun x9 h9 e => by subst e; exact ⟨rfl, rfl, rfl⟩
  unfold fX6_lays at hF
  show AW G X 0 [(2, ((35 : Nat) : Int)), (0, x1), (9, 0)] [] n h 0 0
  refine aw_bipush hC dX6_lays_0 (by decide) (by decide) ?_
  refine aw_istore2 hC dX6_lays_2 rfl ?_
  obtain ⟨e6, he, hF⟩ := bp_some hF
  refine fX6_lays_l3_ok hC hZ hRm hbt hr FU _ _ e6 he (fun h7 er => ?_)
  replace er := er.symm
  subst er
  try dsimp only at hF
  exact aw_return hC hZ (Nat.zero_le _) (Nat.zero_le _) hr dX6_lays_39 (hK _ _ (Option.some.inj hF).symm)
def fX6_feed (x1 : Int) (x2 : Int) (x3 : Int) (x4 : Int) (x5 : Int) (h : Hp) : Option (Int × Hp) :=
  lb_ (st h 35 0 0) (fun h1 => (if (i_add ((h1 35 13)) 20) ≤ 700 then bd_ (fX6_lays x1 h1) (fun r3 h5 => bd_ (fX6_lays x2 h5) (fun r6 h8 => bd_ (fX6_lays x3 h8) (fun r9 h11 => bd_ (fX6_lays x4 h11) (fun r12 h14 => bd_ (fX6_lays x5 h14) (fun r15 h17 => some ((h17 35 13), h17)))))) else some ((-1), h1)))
theorem ok_X6_feed {G : GD} {n : Nat} {x1 : Int} {x2 : Int} {x3 : Int} {x4 : Int} {x5 : Int} {h : Hp} {res : Int × Hp} (hF : fX6_feed x1 x2 x3 x4 x5 h = some res) : Con G yX6_feed cX6_feed 6 (some .int) 1 0 0 true [(2, ((35 : Nat) : Int)), (0, x1), (0, x2), (0, x3), (0, x4), (0, x5)] n h (FQ 0 n res) := by
  refine con_of (pad := 0) (own := RX6) (plainFor_of_name (by decide)) rfl rfl ?_
  intro X hC hbt hr hnm hZ hRm hn0
  have hK : ∀ (x9 : Int) (h9 : Hp), res = (x9, h9) → FQ 0 n res (0, x9) n h9 := fun x9 h9 e => by subst e; exact ⟨rfl, rfl, rfl⟩
  unfold fX6_feed at hF
  show AW G X 0 [(2, ((35 : Nat) : Int)), (0, x1), (0, x2), (0, x3), (0, x4), (0, x5)] [] n h 0 0
  refine aw_aload_n hC dX6_feed_0 rfl ?_
  refine aw_iconst hC dX6_feed_1 (by decide) ?_
  obtain ⟨h1, eh1, hF⟩ := lb_some hF
  refine aw_p6i (k := 0) (a := 35) hC dX6_feed_2 lkRX6_129 (by decide) rfl rfl rfl rfl rfl (Or.inl ⟨hbt, by decide⟩) (fun _ => by decide) ?_
  refine aw_eqH eh1 ?_
  clear eh1
  refine aw_aload_n hC dX6_feed_5 rfl ?_
  refine aw_g6i (k := 13) (a := 35) hC dX6_feed_6 lkRX6_132 (by decide) rfl rfl rfl (Or.inl ⟨hbt, by decide⟩) ?_
  refine aw_bipush hC dX6_feed_9 (by decide) (by decide) ?_
  refine aw_iadd hC dX6_feed_11 ?_
  refine aw_sipush hC dX6_feed_12 (by decide) (by decide) ?_
  refine aw_icmp_le (tgt := 20) hC dX6_feed_15 (by decide) (fun c2 => ?_) (fun c2 => ?_)
  · have hF := it_t hF c2
    refine aw_aload_n hC dX6_feed_20 rfl ?_
    refine aw_iload_n hC dX6_feed_21 rfl ?_
    obtain ⟨r3, h5, q4, hF⟩ := bd_some hF
    refine clRX6_135 hC hRm hbt dX6_feed_22 rfl rfl (by decide) (Nat.le_of_ble_eq_true rfl) (Nat.le_of_ble_eq_true rfl) (ok_X6_lays q4) ?_
    refine aw_aload_n hC dX6_feed_25 rfl ?_
    refine aw_iload_n hC dX6_feed_26 rfl ?_
    obtain ⟨r6, h8, q7, hF⟩ := bd_some hF
    refine clRX6_135 hC hRm hbt dX6_feed_27 rfl rfl (by decide) (Nat.le_of_ble_eq_true rfl) (Nat.le_of_ble_eq_true rfl) (ok_X6_lays q7) ?_
    refine aw_aload_n hC dX6_feed_30 rfl ?_
    refine aw_iload_n hC dX6_feed_31 rfl ?_
    obtain ⟨r9, h11, q10, hF⟩ := bd_some hF
    refine clRX6_135 hC hRm hbt dX6_feed_32 rfl rfl (by decide) (Nat.le_of_ble_eq_true rfl) (Nat.le_of_ble_eq_true rfl) (ok_X6_lays q10) ?_
    refine aw_aload_n hC dX6_feed_35 rfl ?_
    refine aw_iload hC dX6_feed_36 rfl ?_
    obtain ⟨r12, h14, q13, hF⟩ := bd_some hF
    refine clRX6_135 hC hRm hbt dX6_feed_38 rfl rfl (by decide) (Nat.le_of_ble_eq_true rfl) (Nat.le_of_ble_eq_true rfl) (ok_X6_lays q13) ?_
    refine aw_aload_n hC dX6_feed_41 rfl ?_
    refine aw_iload hC dX6_feed_42 rfl ?_
    obtain ⟨r15, h17, q16, hF⟩ := bd_some hF
    refine clRX6_135 hC hRm hbt dX6_feed_44 rfl rfl (by decide) (Nat.le_of_ble_eq_true rfl) (Nat.le_of_ble_eq_true rfl) (ok_X6_lays q16) ?_
    refine aw_aload_n hC dX6_feed_47 rfl ?_
    refine aw_g6i (k := 13) (a := 35) hC dX6_feed_48 lkRX6_132 (by decide) rfl rfl rfl (Or.inl ⟨hbt, by decide⟩) ?_
    exact aw_ireturn hC hZ (Nat.zero_le _) (Nat.zero_le _) hr dX6_feed_51 (hK _ _ (Option.some.inj hF).symm)
  · have hF := it_f hF c2
    refine aw_iconst hC dX6_feed_18 (by decide) ?_
    exact aw_ireturn hC hZ (Nat.zero_le _) (Nat.zero_le _) hr dX6_feed_19 (hK _ _ (Option.some.inj hF).symm)
def fX6_byteAt (x1 : Int) (h : Hp) : Option (Int) :=
  (if (h 35 17) ≤ x1 then some 0 else gd_ (0 ≤ x1 ∧ x1 < 700) (some ((h 42 (Int.toNat x1)))))
theorem ok_X6_byteAt {G : GD} {n : Nat} {x1 : Int} {h : Hp} {res : Int} (hF : fX6_byteAt x1 h = some res) : Con G yX6_byteAt cX6_byteAt 2 (some .int) 0 0 0 true [(2, ((35 : Nat) : Int)), (0, x1)] n h (FQ 0 n (res, h)) := by
  refine con_of (pad := 0) (own := RX6) (plainFor_of_name (by decide)) rfl rfl ?_
  intro X hC hbt hr hnm hZ hRm hn0
  have hK : ∀ (x9 : Int), res = x9 → FQ 0 n (res, h) (0, x9) n h := fun x9 e => by subst e; exact ⟨rfl, rfl, rfl⟩
  unfold fX6_byteAt at hF
  show AW G X 0 [(2, ((35 : Nat) : Int)), (0, x1)] [] n h 0 0
  refine aw_iload_n hC dX6_byteAt_0 rfl ?_
  refine aw_aload_n hC dX6_byteAt_1 rfl ?_
  refine aw_g6i (k := 17) (a := 35) hC dX6_byteAt_2 lkRX6_139 (by decide) rfl rfl rfl (Or.inl ⟨hbt, by decide⟩) ?_
  refine aw_icmp_ge (tgt := 17) hC dX6_byteAt_5 (by decide) (fun c1 => ?_) (fun c1 => ?_)
  · have hF := it_t hF c1
    refine aw_iconst hC dX6_byteAt_17 (by decide) ?_
    exact aw_ireturn hC hZ (Nat.zero_le _) (Nat.zero_le _) hr dX6_byteAt_18 (hK _ (Option.some.inj hF).symm)
  · have hF := it_f hF c1
    refine aw_aload_n hC dX6_byteAt_8 rfl ?_
    refine aw_gc6 (k := 12) (a := 35) (b := 42) hC hbt dX6_byteAt_9 lkRX6_35 (by decide) rfl rfl rfl (by decide) (by decide) ?_
    refine aw_iload_n hC dX6_byteAt_12 rfl ?_
    obtain ⟨g2, hF⟩ := gd_some hF
    refine aw_iaload (a := 42) hC dX6_byteAt_13 rfl rfl (Or.inl ⟨hbt, by decide⟩) g2.1 g2.2 ?_
    refine aw_goto (tgt := 18) hC dX6_byteAt_14 (by decide) ?_
    exact aw_ireturn hC hZ (Nat.zero_le _) (Nat.zero_le _) hr dX6_byteAt_18 (hK _ (Option.some.inj hF).symm)
def fX6_isLetter (x0 : Int) (h : Hp) : Option (Int) :=
  (if x0 < 97 then some 0 else (if 122 < x0 then some 0 else some 1))
theorem ok_X6_isLetter {G : GD} {n : Nat} {x0 : Int} {h : Hp} {res : Int} (hF : fX6_isLetter x0 h = some res) : Con G yX6_isLetter cX6_isLetter 1 (some .boolean) 0 0 0 true [(0, x0)] n h (FQ 0 n (res, h)) := by
  refine con_of (pad := 0) (own := RX6) (plainFor_of_name (by decide)) rfl rfl ?_
  intro X hC hbt hr hnm hZ hRm hn0
  have hK : ∀ (x9 : Int), res = x9 → FQ 0 n (res, h) (0, x9) n h := fun x9 e => by subst e; exact ⟨rfl, rfl, rfl⟩
  unfold fX6_isLetter at hF
  show AW G X 0 [(0, x0)] [] n h 0 0
  refine aw_iload_n hC dX6_isLetter_0 rfl ?_
  refine aw_bipush hC dX6_isLetter_1 (by decide) (by decide) ?_
  refine aw_icmp_lt (tgt := 16) hC dX6_isLetter_3 (by decide) (fun c1 => ?_) (fun c1 => ?_)
  · have hF := it_t hF c1
    refine aw_iconst hC dX6_isLetter_16 (by decide) ?_
    exact aw_zreturn hC hZ (Nat.zero_le _) (Nat.zero_le _) hr rfl dX6_isLetter_17 (by decide) (hK _ (Option.some.inj hF).symm)
  · have hF := it_f hF c1
    refine aw_iload_n hC dX6_isLetter_6 rfl ?_
    refine aw_bipush hC dX6_isLetter_7 (by decide) (by decide) ?_
    refine aw_icmp_gt (tgt := 16) hC dX6_isLetter_9 (by decide) (fun c2 => ?_) (fun c2 => ?_)
    · have hF := it_t hF c2
      refine aw_iconst hC dX6_isLetter_16 (by decide) ?_
      exact aw_zreturn hC hZ (Nat.zero_le _) (Nat.zero_le _) hr rfl dX6_isLetter_17 (by decide) (hK _ (Option.some.inj hF).symm)
    · have hF := it_f hF c2
      refine aw_iconst hC dX6_isLetter_12 (by decide) ?_
      refine aw_goto (tgt := 17) hC dX6_isLetter_13 (by decide) ?_
      exact aw_zreturn hC hZ (Nat.zero_le _) (Nat.zero_le _) hr rfl dX6_isLetter_17 (by decide) (hK _ (Option.some.inj hF).symm)
def fX6_isDigit (x0 : Int) (h : Hp) : Option (Int) :=
  (if x0 < 48 then some 0 else (if 57 < x0 then some 0 else some 1))
theorem ok_X6_isDigit {G : GD} {n : Nat} {x0 : Int} {h : Hp} {res : Int} (hF : fX6_isDigit x0 h = some res) : Con G yX6_isDigit cX6_isDigit 1 (some .boolean) 0 0 0 true [(0, x0)] n h (FQ 0 n (res, h)) := by
  refine con_of (pad := 0) (own := RX6) (plainFor_of_name (by decide)) rfl rfl ?_
  intro X hC hbt hr hnm hZ hRm hn0
  have hK : ∀ (x9 : Int), res = x9 → FQ 0 n (res, h) (0, x9) n h := fun x9 e => by subst e; exact ⟨rfl, rfl, rfl⟩
  unfold fX6_isDigit at hF
  show AW G X 0 [(0, x0)] [] n h 0 0
  refine aw_iload_n hC dX6_isDigit_0 rfl ?_
  refine aw_bipush hC dX6_isDigit_1 (by decide) (by decide) ?_
  refine aw_icmp_lt (tgt := 16) hC dX6_isDigit_3 (by decide) (fun c1 => ?_) (fun c1 => ?_)
  · have hF := it_t hF c1
    refine aw_iconst hC dX6_isDigit_16 (by decide) ?_
    exact aw_zreturn hC hZ (Nat.zero_le _) (Nat.zero_le _) hr rfl dX6_isDigit_17 (by decide) (hK _ (Option.some.inj hF).symm)
  · have hF := it_f hF c1
    refine aw_iload_n hC dX6_isDigit_6 rfl ?_
    refine aw_bipush hC dX6_isDigit_7 (by decide) (by decide) ?_
    refine aw_icmp_gt (tgt := 16) hC dX6_isDigit_9 (by decide) (fun c2 => ?_) (fun c2 => ?_)
    · have hF := it_t hF c2
      refine aw_iconst hC dX6_isDigit_16 (by decide) ?_
      exact aw_zreturn hC hZ (Nat.zero_le _) (Nat.zero_le _) hr rfl dX6_isDigit_17 (by decide) (hK _ (Option.some.inj hF).symm)
    · have hF := it_f hF c2
      refine aw_iconst hC dX6_isDigit_12 (by decide) ?_
      refine aw_goto (tgt := 17) hC dX6_isDigit_13 (by decide) ?_
      exact aw_zreturn hC hZ (Nat.zero_le _) (Nat.zero_le _) hr rfl dX6_isDigit_17 (by decide) (hK _ (Option.some.inj hF).symm)
def fX6_goes_j37  (h : Hp) : Option ((Hp) ⊕ (Hp)) :=
  lb_ (st h 35 18 ((i_add ((h 35 18)) 1))) (fun h5 => some (.inl h5))
def fX6_goes_l0  (h : Hp) : Option ((Hp) ⊕ (Hp)) :=
  (if (h 35 17) ≤ (h 35 18) then some (.inr h) else bp_ (fX6_byteAt ((h 35 18)) h) (fun r2 => (if r2 = 32 then fX6_goes_j37 h else bp_ (fX6_byteAt ((h 35 18)) h) (fun r6 => (if r6 = 10 then fX6_goes_j37 h else some (.inr h))))))
def fX6_goes_j331  (h : Hp) : Option (Int × Hp) :=
  lb_ (st h 35 21 ((i_sub ((h 35 18)) ((h 35 20))))) (fun h27 => some (0, h27))
def fX6_goes_j328 (z0 : Int) (h : Hp) : Option (Int × Hp) :=
  lb_ (st h 35 19 z0) (fun h26 => fX6_goes_j331 h26)
def fX6_goes_j323  (h : Hp) : Option (Int × Hp) :=
  fX6_goes_j328 3 h
def fX6_goes_j237  (h : Hp) : Option ((Hp) ⊕ (Hp)) :=
  lb_ (st h 35 18 ((i_add ((h 35 18)) 1))) (fun h42 => some (.inl h42))
def fX6_goes_l187  (h : Hp) : Option ((Hp) ⊕ (Hp)) :=
  bp_ (fX6_byteAt ((h 35 18)) h) (fun r36 => bp_ (fX6_isDigit r36 h) (fun r38 => (if r38 = 0 then some (.inr h) else (if 4 ≤ (i_sub ((h 35 18)) ((h 35 20))) then fX6_goes_j237 h else bp_ (fX6_byteAt ((h 35 18)) h) (fun r43 => lb_ (st h 35 22 ((i_sub ((i_add ((i_mul 10 ((h 35 22)))) r43)) 48))) (fun h45 => fX6_goes_j237 h45))))))
def fX6_goes_j159  (h : Hp) : Option ((Hp) ⊕ (Hp)) :=
  lb_ (st h 35 18 ((i_add ((h 35 18)) 1))) (fun h55 => some (.inl h55))
def fX6_goes_l108  (h : Hp) : Option ((Hp) ⊕ (Hp)) :=
  bp_ (fX6_byteAt ((h 35 18)) h) (fun r49 => bp_ (fX6_isLetter r49 h) (fun r51 => (if r51 = 0 then some (.inr h) else (if 6 ≤ (i_sub ((h 35 18)) ((h 35 20))) then fX6_goes_j159 h else bp_ (fX6_byteAt ((h 35 18)) h) (fun r56 => lb_ (st h 35 24 ((l_or ((l_shl ((h 35 24)) 5)) ((i_sub r56 96))))) (fun h58 => fX6_goes_j159 h58))))))
def fX6_goes_j50  (h : Hp) : Option (Int × Hp) :=
  lb_ (st h 35 20 ((h 35 18))) (fun h11 => lb_ (st h11 35 24 0) (fun h12 => lb_ (st h12 35 22 0) (fun h13 => bp_ (fX6_byteAt ((h13 35 18)) h13) (fun r14 => lb_ (st h13 35 23 r14) (fun h16 => (if (h16 35 18) < (h16 35 17) then bp_ (fX6_isLetter r14 h16) (fun r18 => (if r18 = 0 then bp_ (fX6_isDigit r14 h16) (fun r21 => (if r21 = 0 then lb_ (st h16 35 18 ((i_add ((h16 35 18)) 1))) (fun h24 => (if r14 = 59 then fX6_goes_j323 h24 else (if r14 = 40 then fX6_goes_j323 h24 else (if r14 = 41 then fX6_goes_j323 h24 else (if r14 = 43 then fX6_goes_j323 h24 else (if r14 = 45 then fX6_goes_j323 h24 else (if r14 = 42 then fX6_goes_j323 h24 else (if r14 = 47 then fX6_goes_j323 h24 else (if r14 = 60 then fX6_goes_j323 h24 else (if r14 = 61 then fX6_goes_j323 h24 else fX6_goes_j328 4 h24)))))))))) else bp_ (it_ (fun s => fX6_goes_l187 s) FU h16) (fun e46 => (fun h47 => lb_ (st h47 35 19 2) (fun h48 => fX6_goes_j331 h48)) e46))) else bp_ (it_ (fun s => fX6_goes_l108 s) FU h16) (fun e59 => (fun h60 => lb_ (st h60 35 19 1) (fun h61 => fX6_goes_j331 h61)) e59))) else lb_ (st h16 35 19 0) (fun h62 => fX6_goes_j331 h62)))))))
def fX6_goes  (h : Hp) : Option (Int × Hp) :=
  bp_ (it_ (fun s => fX6_goes_l0 s) FU h) (fun e9 => (fun h10 => fX6_goes_j50 h10) e9)
theorem fX6_goes_j37_ok {G : GD} {X : CX} {n : Nat} {Q : Av → Nat → Hp → Prop} (hC : Cx G X RX6 cX6_goes) (hZ : ZOK X G Q 0 0) (hRm : X.R = rmd 1 0 0) (hbt : X.bt = true) (hr : X.meth.sig.returnType = none)  {h : Hp} {b : (Hp) ⊕ (Hp)} (hF : fX6_goes_j37  h = some b) (hL9 : ∀ (h9 : Hp), b = .inl h9 → AW G X 0 [(2, ((35 : Nat) : Int)), (9, 0)] [] n h9 0 0) (hX9 : ∀ (h9 : Hp), b = .inr h9 → AW G X 50 [(2, ((35 : Nat) : Int)), (9, 0)] [] n h9 0 0) : AW G X 37 [(2, ((35 : Nat) : Int)), (9, 0)] [] n h 0 0 := by
  unfold fX6_goes_j37 at hF
  refine aw_aload_n hC dX6_goes_37 rfl ?_
  refine aw_dup hC dX6_goes_38 (by simp) ?_
  refine aw_g6i (k := 18) (a := 35) hC dX6_goes_39 lkRX6_142 (by decide) rfl rfl rfl (Or.inl ⟨hbt, by decide⟩) ?_
  refine aw_iconst hC dX6_goes_42 (by decide) ?_
  refine aw_iadd hC dX6_goes_43 ?_
  obtain ⟨h5, eh5, hF⟩ := lb_some hF
  refine aw_p6i (k := 18) (a := 35) hC dX6_goes_44 lkRX6_142 (by decide) rfl rfl rfl rfl rfl (Or.inl ⟨hbt, by decide⟩) (fun _ => by decide) ?_
  refine aw_eqH eh5 ?_
  clear eh5
  refine aw_goto (tgt := 0) hC dX6_goes_47 (by decide) ?_
  exact hL9 _ (Option.some.inj hF).symm
theorem fX6_goes_l0_ok {G : GD} {X : CX} {n : Nat} {Q : Av → Nat → Hp → Prop} (hC : Cx G X RX6 cX6_goes) (hZ : ZOK X G Q 0 0) (hRm : X.R = rmd 1 0 0) (hbt : X.bt = true) (hr : X.meth.sig.returnType = none)  : ∀ (f : Nat) (h : Hp) (r : Hp), it_ (fun s => fX6_goes_l0 s) f h = some r → (∀ (h9 : Hp), r = h9 → AW G X 50 [(2, ((35 : Nat) : Int)), (9, 0)] [] n h9 0 0) → AW G X 0 [(2, ((35 : Nat) : Int)), (9, 0)] [] n h 0 0 := by
  intro f
  induction f with
  | zero => intro h r hI; cases hI
  | succ f ih0 =>
    intro h r hI hX
    obtain ⟨b, hF, hb1, hb2⟩ := it_succ hI
    have hF : fX6_goes_l0 h = some b := hF
    unfold fX6_goes_l0 at hF
    refine aw_aload_n hC dX6_goes_0 rfl ?_
    refine aw_g6i (k := 18) (a := 35) hC dX6_goes_1 lkRX6_142 (by decide) rfl rfl rfl (Or.inl ⟨hbt, by decide⟩) ?_
    refine aw_aload_n hC dX6_goes_4 rfl ?_
    refine aw_g6i (k := 17) (a := 35) hC dX6_goes_5 lkRX6_139 (by decide) rfl rfl rfl (Or.inl ⟨hbt, by decide⟩) ?_
    refine aw_icmp_ge (tgt := 50) hC dX6_goes_8 (by decide) (fun c1 => ?_) (fun c1 => ?_)
    · have hF := it_t hF c1
      exact hX _ (hb2 _ (Option.some.inj hF).symm).symm
    · have hF := it_f hF c1
      refine aw_aload_n hC dX6_goes_11 rfl ?_
      refine aw_aload_n hC dX6_goes_12 rfl ?_
      refine aw_g6i (k := 18) (a := 35) hC dX6_goes_13 lkRX6_142 (by decide) rfl rfl rfl (Or.inl ⟨hbt, by decide⟩) ?_
      obtain ⟨r2, q3, hF⟩ := bp_some hF
      refine clRX6_145 hC hRm hbt dX6_goes_16 rfl rfl (by decide) (Nat.le_of_ble_eq_true rfl) (Nat.le_of_ble_eq_true rfl) (ok_X6_byteAt q3) ?_
      refine aw_bipush hC dX6_goes_19 (by decide) (by decide) ?_
      refine aw_icmp_eq (tgt := 37) hC dX6_goes_21 (by decide) (fun c4 => ?_) (fun c4 => ?_)
      · have hF := it_t hF c4
        exact fX6_goes_j37_ok hC hZ hRm hbt hr hF (fun u0 e => ih0 u0 r (hb1 _ e) hX) (fun w0 e => hX w0 (hb2 _ e).symm)
      · have hF := it_f hF c4
        refine aw_aload_n hC dX6_goes_24 rfl ?_
        refine aw_aload_n hC dX6_goes_25 rfl ?_
        refine aw_g6i (k := 18) (a := 35) hC dX6_goes_26 lkRX6_142 (by decide) rfl rfl rfl (Or.inl ⟨hbt, by decide⟩) ?_
        obtain ⟨r6, q7, hF⟩ := bp_some hF
        refine clRX6_145 hC hRm hbt dX6_goes_29 rfl rfl (by decide) (Nat.le_of_ble_eq_true rfl) (Nat.le_of_ble_eq_true rfl) (ok_X6_byteAt q7) ?_
        refine aw_bipush hC dX6_goes_32 (by decide) (by decide) ?_
        refine aw_icmp_ne (tgt := 50) hC dX6_goes_34 (by decide) (fun c8 => ?_) (fun c8 => ?_)
        · have hF := it_f hF c8
          exact hX _ (hb2 _ (Option.some.inj hF).symm).symm
        · have hF := it_t hF c8
          exact fX6_goes_j37_ok hC hZ hRm hbt hr hF (fun u0 e => ih0 u0 r (hb1 _ e) hX) (fun w0 e => hX w0 (hb2 _ e).symm)
theorem fX6_goes_j331_ok {G : GD} {X : CX} {n : Nat} {Q : Av → Nat → Hp → Prop} (hC : Cx G X RX6 cX6_goes) (hZ : ZOK X G Q 0 0) (hRm : X.R = rmd 1 0 0) (hbt : X.bt = true) (hr : X.meth.sig.returnType = none)  {h : Hp} {res : Int × Hp} (hF : fX6_goes_j331  h = some res) (hK : ∀ (x9 : Int) (h9 : Hp), res = (x9, h9) → Q (8, x9) n h9) : AW G X 331 [(2, ((35 : Nat) : Int)), (9, 0)] [] n h 0 0 := by
  unfold fX6_goes_j331 at hF
  refine aw_aload_n hC dX6_goes_331 rfl ?_
  refine aw_aload_n hC dX6_goes_332 rfl ?_
  refine aw_g6i (k := 18) (a := 35) hC dX6_goes_333 lkRX6_142 (by decide) rfl rfl rfl (Or.inl ⟨hbt, by decide⟩) ?_
  refine aw_aload_n hC dX6_goes_336 rfl ?_
  refine aw_g6i (k := 20) (a := 35) hC dX6_goes_337 lkRX6_149 (by decide) rfl rfl rfl (Or.inl ⟨hbt, by decide⟩) ?_
  refine aw_isub hC dX6_goes_340 ?_
  obtain ⟨h27, eh27, hF⟩ := lb_some hF
  refine aw_p6i (k := 21) (a := 35) hC dX6_goes_341 lkRX6_172 (by decide) rfl rfl rfl rfl rfl (Or.inl ⟨hbt, by decide⟩) (fun _ => by decide) ?_
  refine aw_eqH eh27 ?_
  clear eh27
  exact aw_return hC hZ (Nat.zero_le _) (Nat.zero_le _) hr dX6_goes_344 (hK _ _ (Option.some.inj hF).symm)
theorem fX6_goes_j328_ok {G : GD} {X : CX} {n : Nat} {Q : Av → Nat → Hp → Prop} (hC : Cx G X RX6 cX6_goes) (hZ : ZOK X G Q 0 0) (hRm : X.R = rmd 1 0 0) (hbt : X.bt = true) (hr : X.meth.sig.returnType = none) {z0 : Int} {h : Hp} {res : Int × Hp} (hF : fX6_goes_j328 z0 h = some res) (hK : ∀ (x9 : Int) (h9 : Hp), res = (x9, h9) → Q (8, x9) n h9) : AW G X 328 [(2, ((35 : Nat) : Int)), (9, 0)] [(0, z0), (2, ((35 : Nat) : Int))] n h 0 0 := by
  unfold fX6_goes_j328 at hF
  obtain ⟨h26, eh26, hF⟩ := lb_some hF
  refine aw_p6i (k := 19) (a := 35) hC dX6_goes_328 lkRX6_162 (by decide) rfl rfl rfl rfl rfl (Or.inl ⟨hbt, by decide⟩) (fun _ => by decide) ?_
  refine aw_eqH eh26 ?_
  clear eh26
  exact fX6_goes_j331_ok hC hZ hRm hbt hr hF hK
theorem fX6_goes_j323_ok {G : GD} {X : CX} {n : Nat} {Q : Av → Nat → Hp → Prop} (hC : Cx G X RX6 cX6_goes) (hZ : ZOK X G Q 0 0) (hRm : X.R = rmd 1 0 0) (hbt : X.bt = true) (hr : X.meth.sig.returnType = none)  {h : Hp} {res : Int × Hp} (hF : fX6_goes_j323  h = some res) (hK : ∀ (x9 : Int) (h9 : Hp), res = (x9, h9) → Q (8, x9) n h9) : AW G X 323 [(2, ((35 : Nat) : Int)), (9, 0)] [(2, ((35 : Nat) : Int))] n h 0 0 := by
  unfold fX6_goes_j323 at hF
  refine aw_iconst hC dX6_goes_323 (by decide) ?_
  refine aw_goto (tgt := 328) hC dX6_goes_324 (by decide) ?_
  exact fX6_goes_j328_ok hC hZ hRm hbt hr hF hK
theorem fX6_goes_j237_ok {G : GD} {X : CX} {n : Nat} {Q : Av → Nat → Hp → Prop} (hC : Cx G X RX6 cX6_goes) (hZ : ZOK X G Q 0 0) (hRm : X.R = rmd 1 0 0) (hbt : X.bt = true) (hr : X.meth.sig.returnType = none)  {h : Hp} {b : (Hp) ⊕ (Hp)} (hF : fX6_goes_j237  h = some b) (hL9 : ∀ (h9 : Hp), b = .inl h9 → AW G X 187 [(2, ((35 : Nat) : Int)), (9, 0)] [] n h9 0 0) (hX9 : ∀ (h9 : Hp), b = .inr h9 → AW G X 250 [(2, ((35 : Nat) : Int)), (9, 0)] [] n h9 0 0) : AW G X 237 [(2, ((35 : Nat) : Int)), (9, 0)] [] n h 0 0 := by
  unfold fX6_goes_j237 at hF
  refine aw_aload_n hC dX6_goes_237 rfl ?_
  refine aw_dup hC dX6_goes_238 (by simp) ?_
  refine aw_g6i (k := 18) (a := 35) hC dX6_goes_239 lkRX6_142 (by decide) rfl rfl rfl (Or.inl ⟨hbt, by decide⟩) ?_
  refine aw_iconst hC dX6_goes_242 (by decide) ?_
  refine aw_iadd hC dX6_goes_243 ?_
  obtain ⟨h42, eh42, hF⟩ := lb_some hF
  refine aw_p6i (k := 18) (a := 35) hC dX6_goes_244 lkRX6_142 (by decide) rfl rfl rfl rfl rfl (Or.inl ⟨hbt, by decide⟩) (fun _ => by decide) ?_
  refine aw_eqH eh42 ?_
  clear eh42
  refine aw_goto (tgt := 187) hC dX6_goes_247 (by decide) ?_
  exact hL9 _ (Option.some.inj hF).symm
theorem fX6_goes_l187_ok {G : GD} {X : CX} {n : Nat} {Q : Av → Nat → Hp → Prop} (hC : Cx G X RX6 cX6_goes) (hZ : ZOK X G Q 0 0) (hRm : X.R = rmd 1 0 0) (hbt : X.bt = true) (hr : X.meth.sig.returnType = none)  : ∀ (f : Nat) (h : Hp) (r : Hp), it_ (fun s => fX6_goes_l187 s) f h = some r → (∀ (h9 : Hp), r = h9 → AW G X 250 [(2, ((35 : Nat) : Int)), (9, 0)] [] n h9 0 0) → AW G X 187 [(2, ((35 : Nat) : Int)), (9, 0)] [] n h 0 0 := by
  intro f
  induction f with
  | zero => intro h r hI; cases hI
  | succ f ih0 =>
    intro h r hI hX
    obtain ⟨b, hF, hb1, hb2⟩ := it_succ hI
    have hF : fX6_goes_l187 h = some b := hF
    unfold fX6_goes_l187 at hF
    refine aw_aload_n hC dX6_goes_187 rfl ?_
    refine aw_aload_n hC dX6_goes_188 rfl ?_
    refine aw_g6i (k := 18) (a := 35) hC dX6_goes_189 lkRX6_142 (by decide) rfl rfl rfl (Or.inl ⟨hbt, by decide⟩) ?_
    obtain ⟨r36, q37, hF⟩ := bp_some hF
    refine clRX6_145 hC hRm hbt dX6_goes_192 rfl rfl (by decide) (Nat.le_of_ble_eq_true rfl) (Nat.le_of_ble_eq_true rfl) (ok_X6_byteAt q37) ?_
    obtain ⟨r38, q39, hF⟩ := bp_some hF
    refine clRX6_169 hC hRm hbt dX6_goes_195 (Nat.le_of_ble_eq_true rfl) (Nat.le_of_ble_eq_true rfl) (ok_X6_isDigit q39) ?_
    refine aw_if_eq (tgt := 250) hC dX6_goes_198 (by decide) (fun c40 => ?_) (fun c40 => ?_)
    · have hF := it_t hF c40
      exact hX _ (hb2 _ (Option.some.inj hF).symm).symm
    · have hF := it_f hF c40
      refine aw_aload_n hC dX6_goes_201 rfl ?_
      refine aw_g6i (k := 18) (a := 35) hC dX6_goes_202 lkRX6_142 (by decide) rfl rfl rfl (Or.inl ⟨hbt, by decide⟩) ?_
      refine aw_aload_n hC dX6_goes_205 rfl ?_
      refine aw_g6i (k := 20) (a := 35) hC dX6_goes_206 lkRX6_149 (by decide) rfl rfl rfl (Or.inl ⟨hbt, by decide⟩) ?_
      refine aw_isub hC dX6_goes_209 ?_
      refine aw_iconst hC dX6_goes_210 (by decide) ?_
      refine aw_icmp_ge (tgt := 237) hC dX6_goes_211 (by decide) (fun c41 => ?_) (fun c41 => ?_)
      · have hF := it_t hF c41
        exact fX6_goes_j237_ok hC hZ hRm hbt hr hF (fun u0 e => ih0 u0 r (hb1 _ e) hX) (fun w0 e => hX w0 (hb2 _ e).symm)
      · have hF := it_f hF c41
        refine aw_aload_n hC dX6_goes_214 rfl ?_
        refine aw_bipush hC dX6_goes_215 (by decide) (by decide) ?_
        refine aw_aload_n hC dX6_goes_217 rfl ?_
        refine aw_g6i (k := 22) (a := 35) hC dX6_goes_218 lkRX6_156 (by decide) rfl rfl rfl (Or.inl ⟨hbt, by decide⟩) ?_
        refine aw_imul hC dX6_goes_221 ?_
        refine aw_aload_n hC dX6_goes_222 rfl ?_
        refine aw_aload_n hC dX6_goes_223 rfl ?_
        refine aw_g6i (k := 18) (a := 35) hC dX6_goes_224 lkRX6_142 (by decide) rfl rfl rfl (Or.inl ⟨hbt, by decide⟩) ?_
        obtain ⟨r43, q44, hF⟩ := bp_some hF
        refine clRX6_145 hC hRm hbt dX6_goes_227 rfl rfl (by decide) (Nat.le_of_ble_eq_true rfl) (Nat.le_of_ble_eq_true rfl) (ok_X6_byteAt q44) ?_
        refine aw_iadd hC dX6_goes_230 ?_
        refine aw_bipush hC dX6_goes_231 (by decide) (by decide) ?_
        refine aw_isub hC dX6_goes_233 ?_
        obtain ⟨h45, eh45, hF⟩ := lb_some hF
        refine aw_p6i (k := 22) (a := 35) hC dX6_goes_234 lkRX6_156 (by decide) rfl rfl rfl rfl rfl (Or.inl ⟨hbt, by decide⟩) (fun _ => by decide) ?_
        refine aw_eqH eh45 ?_
        clear eh45
        exact fX6_goes_j237_ok hC hZ hRm hbt hr hF (fun u0 e => ih0 u0 r (hb1 _ e) hX) (fun w0 e => hX w0 (hb2 _ e).symm)
theorem fX6_goes_j159_ok {G : GD} {X : CX} {n : Nat} {Q : Av → Nat → Hp → Prop} (hC : Cx G X RX6 cX6_goes) (hZ : ZOK X G Q 0 0) (hRm : X.R = rmd 1 0 0) (hbt : X.bt = true) (hr : X.meth.sig.returnType = none)  {h : Hp} {b : (Hp) ⊕ (Hp)} (hF : fX6_goes_j159  h = some b) (hL9 : ∀ (h9 : Hp), b = .inl h9 → AW G X 108 [(2, ((35 : Nat) : Int)), (9, 0)] [] n h9 0 0) (hX9 : ∀ (h9 : Hp), b = .inr h9 → AW G X 172 [(2, ((35 : Nat) : Int)), (9, 0)] [] n h9 0 0) : AW G X 159 [(2, ((35 : Nat) : Int)), (9, 0)] [] n h 0 0 := by
  unfold fX6_goes_j159 at hF
  refine aw_aload_n hC dX6_goes_159 rfl ?_
  refine aw_dup hC dX6_goes_160 (by simp) ?_
  refine aw_g6i (k := 18) (a := 35) hC dX6_goes_161 lkRX6_142 (by decide) rfl rfl rfl (Or.inl ⟨hbt, by decide⟩) ?_
  refine aw_iconst hC dX6_goes_164 (by decide) ?_
  refine aw_iadd hC dX6_goes_165 ?_
  obtain ⟨h55, eh55, hF⟩ := lb_some hF
  refine aw_p6i (k := 18) (a := 35) hC dX6_goes_166 lkRX6_142 (by decide) rfl rfl rfl rfl rfl (Or.inl ⟨hbt, by decide⟩) (fun _ => by decide) ?_
  refine aw_eqH eh55 ?_
  clear eh55
  refine aw_goto (tgt := 108) hC dX6_goes_169 (by decide) ?_
  exact hL9 _ (Option.some.inj hF).symm
theorem fX6_goes_l108_ok {G : GD} {X : CX} {n : Nat} {Q : Av → Nat → Hp → Prop} (hC : Cx G X RX6 cX6_goes) (hZ : ZOK X G Q 0 0) (hRm : X.R = rmd 1 0 0) (hbt : X.bt = true) (hr : X.meth.sig.returnType = none)  : ∀ (f : Nat) (h : Hp) (r : Hp), it_ (fun s => fX6_goes_l108 s) f h = some r → (∀ (h9 : Hp), r = h9 → AW G X 172 [(2, ((35 : Nat) : Int)), (9, 0)] [] n h9 0 0) → AW G X 108 [(2, ((35 : Nat) : Int)), (9, 0)] [] n h 0 0 := by
  intro f
  induction f with
  | zero => intro h r hI; cases hI
  | succ f ih0 =>
    intro h r hI hX
    obtain ⟨b, hF, hb1, hb2⟩ := it_succ hI
    have hF : fX6_goes_l108 h = some b := hF
    unfold fX6_goes_l108 at hF
    refine aw_aload_n hC dX6_goes_108 rfl ?_
    refine aw_aload_n hC dX6_goes_109 rfl ?_
    refine aw_g6i (k := 18) (a := 35) hC dX6_goes_110 lkRX6_142 (by decide) rfl rfl rfl (Or.inl ⟨hbt, by decide⟩) ?_
    obtain ⟨r49, q50, hF⟩ := bp_some hF
    refine clRX6_145 hC hRm hbt dX6_goes_113 rfl rfl (by decide) (Nat.le_of_ble_eq_true rfl) (Nat.le_of_ble_eq_true rfl) (ok_X6_byteAt q50) ?_
    obtain ⟨r51, q52, hF⟩ := bp_some hF
    refine clRX6_165 hC hRm hbt dX6_goes_116 (Nat.le_of_ble_eq_true rfl) (Nat.le_of_ble_eq_true rfl) (ok_X6_isLetter q52) ?_
    refine aw_if_eq (tgt := 172) hC dX6_goes_119 (by decide) (fun c53 => ?_) (fun c53 => ?_)
    · have hF := it_t hF c53
      exact hX _ (hb2 _ (Option.some.inj hF).symm).symm
    · have hF := it_f hF c53
      refine aw_aload_n hC dX6_goes_122 rfl ?_
      refine aw_g6i (k := 18) (a := 35) hC dX6_goes_123 lkRX6_142 (by decide) rfl rfl rfl (Or.inl ⟨hbt, by decide⟩) ?_
      refine aw_aload_n hC dX6_goes_126 rfl ?_
      refine aw_g6i (k := 20) (a := 35) hC dX6_goes_127 lkRX6_149 (by decide) rfl rfl rfl (Or.inl ⟨hbt, by decide⟩) ?_
      refine aw_isub hC dX6_goes_130 ?_
      refine aw_bipush hC dX6_goes_131 (by decide) (by decide) ?_
      refine aw_icmp_ge (tgt := 159) hC dX6_goes_133 (by decide) (fun c54 => ?_) (fun c54 => ?_)
      · have hF := it_t hF c54
        exact fX6_goes_j159_ok hC hZ hRm hbt hr hF (fun u0 e => ih0 u0 r (hb1 _ e) hX) (fun w0 e => hX w0 (hb2 _ e).symm)
      · have hF := it_f hF c54
        refine aw_aload_n hC dX6_goes_136 rfl ?_
        refine aw_aload_n hC dX6_goes_137 rfl ?_
        refine aw_g6l (k := 24) (a := 35) hC dX6_goes_138 lkRX6_152 (by decide) rfl rfl rfl (Or.inl ⟨hbt, by decide⟩) ?_
        refine aw_iconst hC dX6_goes_141 (by decide) ?_
        refine aw_lshl hC dX6_goes_142 ?_
        refine aw_aload_n hC dX6_goes_143 rfl ?_
        refine aw_aload_n hC dX6_goes_144 rfl ?_
        refine aw_g6i (k := 18) (a := 35) hC dX6_goes_145 lkRX6_142 (by decide) rfl rfl rfl (Or.inl ⟨hbt, by decide⟩) ?_
        obtain ⟨r56, q57, hF⟩ := bp_some hF
        refine clRX6_145 hC hRm hbt dX6_goes_148 rfl rfl (by decide) (Nat.le_of_ble_eq_true rfl) (Nat.le_of_ble_eq_true rfl) (ok_X6_byteAt q57) ?_
        refine aw_bipush hC dX6_goes_151 (by decide) (by decide) ?_
        refine aw_isub hC dX6_goes_153 ?_
        refine aw_i2l hC dX6_goes_154 ?_
        refine aw_lor hC dX6_goes_155 ?_
        obtain ⟨h58, eh58, hF⟩ := lb_some hF
        refine aw_p6l (k := 24) (a := 35) hC dX6_goes_156 lkRX6_152 (by decide) rfl rfl rfl rfl rfl (Or.inl ⟨hbt, by decide⟩) (fun _ => by decide) ?_
        refine aw_eqH eh58 ?_
        clear eh58
        exact fX6_goes_j159_ok hC hZ hRm hbt hr hF (fun u0 e => ih0 u0 r (hb1 _ e) hX) (fun w0 e => hX w0 (hb2 _ e).symm)
theorem fX6_goes_j50_ok {G : GD} {X : CX} {n : Nat} {Q : Av → Nat → Hp → Prop} (hC : Cx G X RX6 cX6_goes) (hZ : ZOK X G Q 0 0) (hRm : X.R = rmd 1 0 0) (hbt : X.bt = true) (hr : X.meth.sig.returnType = none)  {h : Hp} {res : Int × Hp} (hF : fX6_goes_j50  h = some res) (hK : ∀ (x9 : Int) (h9 : Hp), res = (x9, h9) → Q (8, x9) n h9) : AW G X 50 [(2, ((35 : Nat) : Int)), (9, 0)] [] n h 0 0 := by
  unfold fX6_goes_j50 at hF
  refine aw_aload_n hC dX6_goes_50 rfl ?_
  refine aw_aload_n hC dX6_goes_51 rfl ?_
  refine aw_g6i (k := 18) (a := 35) hC dX6_goes_52 lkRX6_142 (by decide) rfl rfl rfl (Or.inl ⟨hbt, by decide⟩) ?_
  obtain ⟨h11, eh11, hF⟩ := lb_some hF
  refine aw_p6i (k := 20) (a := 35) hC dX6_goes_55 lkRX6_149 (by decide) rfl rfl rfl rfl rfl (Or.inl ⟨hbt, by decide⟩) (fun _ => by decide) ?_
  refine aw_eqH eh11 ?_
  clear eh11
  refine aw_aload_n hC dX6_goes_58 rfl ?_
  refine aw_lconst (v := 0) hC dX6_goes_59 (by decide) (by decide) ?_
  obtain ⟨h12, eh12, hF⟩ := lb_some hF
  refine aw_p6l (k := 24) (a := 35) hC dX6_goes_60 lkRX6_152 (by decide) rfl rfl rfl rfl rfl (Or.inl ⟨hbt, by decide⟩) (fun _ => by decide) ?_
  refine aw_eqH eh12 ?_
  clear eh12
  refine aw_aload_n hC dX6_goes_63 rfl ?_
  refine aw_iconst hC dX6_goes_64 (by decide) ?_
  obtain ⟨h13, eh13, hF⟩ := lb_some hF
  refine aw_p6i (k := 22) (a := 35) hC dX6_goes_65 lkRX6_156 (by decide) rfl rfl rfl rfl rfl (Or.inl ⟨hbt, by decide⟩) (fun _ => by decide) ?_
  refine aw_eqH eh13 ?_
  clear eh13
  refine aw_aload_n hC dX6_goes_68 rfl ?_
  refine aw_aload_n hC dX6_goes_69 rfl ?_
  refine aw_g6i (k := 18) (a := 35) hC dX6_goes_70 lkRX6_142 (by decide) rfl rfl rfl (Or.inl ⟨hbt, by decide⟩) ?_
  obtain ⟨r14, q15, hF⟩ := bp_some hF
  refine clRX6_145 hC hRm hbt dX6_goes_73 rfl rfl (by decide) (Nat.le_of_ble_eq_true rfl) (Nat.le_of_ble_eq_true rfl) (ok_X6_byteAt q15) ?_
  refine aw_istore1 hC dX6_goes_76 rfl ?_
  refine aw_aload_n hC dX6_goes_77 rfl ?_
  refine aw_iload_n hC dX6_goes_78 rfl ?_
  obtain ⟨h16, eh16, hF⟩ := lb_some hF
  refine aw_p6i (k := 23) (a := 35) hC dX6_goes_79 lkRX6_159 (by decide) rfl rfl rfl rfl rfl (Or.inl ⟨hbt, by decide⟩) (fun _ => by decide) ?_
  refine aw_eqH eh16 ?_
  clear eh16
  refine aw_aload_n hC dX6_goes_82 rfl ?_
  refine aw_g6i (k := 18) (a := 35) hC dX6_goes_83 lkRX6_142 (by decide) rfl rfl rfl (Or.inl ⟨hbt, by decide⟩) ?_
  refine aw_aload_n hC dX6_goes_86 rfl ?_
  refine aw_g6i (k := 17) (a := 35) hC dX6_goes_87 lkRX6_139 (by decide) rfl rfl rfl (Or.inl ⟨hbt, by decide⟩) ?_
  refine aw_icmp_lt (tgt := 101) hC dX6_goes_90 (by decide) (fun c17 => ?_) (fun c17 => ?_)
  · have hF := it_t hF c17
    refine aw_iload_n hC dX6_goes_101 rfl ?_
    obtain ⟨r18, q19, hF⟩ := bp_some hF
    refine clRX6_165 hC hRm hbt dX6_goes_102 (Nat.le_of_ble_eq_true rfl) (Nat.le_of_ble_eq_true rfl) (ok_X6_isLetter q19) ?_
    refine aw_if_eq (tgt := 180) hC dX6_goes_105 (by decide) (fun c20 => ?_) (fun c20 => ?_)
    · have hF := it_t hF c20
      refine aw_iload_n hC dX6_goes_180 rfl ?_
      obtain ⟨r21, q22, hF⟩ := bp_some hF
      refine clRX6_169 hC hRm hbt dX6_goes_181 (Nat.le_of_ble_eq_true rfl) (Nat.le_of_ble_eq_true rfl) (ok_X6_isDigit q22) ?_
      refine aw_if_eq (tgt := 258) hC dX6_goes_184 (by decide) (fun c23 => ?_) (fun c23 => ?_)
      · have hF := it_t hF c23
        refine aw_aload_n hC dX6_goes_258 rfl ?_
        refine aw_dup hC dX6_goes_259 (by simp) ?_
        refine aw_g6i (k := 18) (a := 35) hC dX6_goes_260 lkRX6_142 (by decide) rfl rfl rfl (Or.inl ⟨hbt, by decide⟩) ?_
        refine aw_iconst hC dX6_goes_263 (by decide) ?_
        refine aw_iadd hC dX6_goes_264 ?_
        obtain ⟨h24, eh24, hF⟩ := lb_some hF
        refine aw_p6i (k := 18) (a := 35) hC dX6_goes_265 lkRX6_142 (by decide) rfl rfl rfl rfl rfl (Or.inl ⟨hbt, by decide⟩) (fun _ => by decide) ?_
        refine aw_eqH eh24 ?_
        clear eh24
        refine aw_aload_n hC dX6_goes_268 rfl ?_
        refine aw_iload_n hC dX6_goes_269 rfl ?_
        refine aw_bipush hC dX6_goes_270 (by decide) (by decide) ?_
        refine aw_icmp_eq (tgt := 323) hC dX6_goes_272 (by decide) (fun c25 => ?_) (fun c25 => ?_)
        · have hF := it_t hF c25
          refine aw_weak (ls' := [(2, ((35 : Nat) : Int)), (9, 0)]) ⟨Or.inr rfl, Or.inl rfl, trivial⟩ ?_
          exact fX6_goes_j323_ok hC hZ hRm hbt hr hF hK
        · have hF := it_f hF c25
          refine aw_iload_n hC dX6_goes_275 rfl ?_
          refine aw_bipush hC dX6_goes_276 (by decide) (by decide) ?_
          refine aw_icmp_eq (tgt := 323) hC dX6_goes_278 (by decide) (fun c28 => ?_) (fun c28 => ?_)
          · have hF := it_t hF c28
            refine aw_weak (ls' := [(2, ((35 : Nat) : Int)), (9, 0)]) ⟨Or.inr rfl, Or.inl rfl, trivial⟩ ?_
            exact fX6_goes_j323_ok hC hZ hRm hbt hr hF hK
          · have hF := it_f hF c28
            refine aw_iload_n hC dX6_goes_281 rfl ?_
            refine aw_bipush hC dX6_goes_282 (by decide) (by decide) ?_
            refine aw_icmp_eq (tgt := 323) hC dX6_goes_284 (by decide) (fun c29 => ?_) (fun c29 => ?_)
            · have hF := it_t hF c29
              refine aw_weak (ls' := [(2, ((35 : Nat) : Int)), (9, 0)]) ⟨Or.inr rfl, Or.inl rfl, trivial⟩ ?_
              exact fX6_goes_j323_ok hC hZ hRm hbt hr hF hK
            · have hF := it_f hF c29
              refine aw_iload_n hC dX6_goes_287 rfl ?_
              refine aw_bipush hC dX6_goes_288 (by decide) (by decide) ?_
              refine aw_icmp_eq (tgt := 323) hC dX6_goes_290 (by decide) (fun c30 => ?_) (fun c30 => ?_)
              · have hF := it_t hF c30
                refine aw_weak (ls' := [(2, ((35 : Nat) : Int)), (9, 0)]) ⟨Or.inr rfl, Or.inl rfl, trivial⟩ ?_
                exact fX6_goes_j323_ok hC hZ hRm hbt hr hF hK
              · have hF := it_f hF c30
                refine aw_iload_n hC dX6_goes_293 rfl ?_
                refine aw_bipush hC dX6_goes_294 (by decide) (by decide) ?_
                refine aw_icmp_eq (tgt := 323) hC dX6_goes_296 (by decide) (fun c31 => ?_) (fun c31 => ?_)
                · have hF := it_t hF c31
                  refine aw_weak (ls' := [(2, ((35 : Nat) : Int)), (9, 0)]) ⟨Or.inr rfl, Or.inl rfl, trivial⟩ ?_
                  exact fX6_goes_j323_ok hC hZ hRm hbt hr hF hK
                · have hF := it_f hF c31
                  refine aw_iload_n hC dX6_goes_299 rfl ?_
                  refine aw_bipush hC dX6_goes_300 (by decide) (by decide) ?_
                  refine aw_icmp_eq (tgt := 323) hC dX6_goes_302 (by decide) (fun c32 => ?_) (fun c32 => ?_)
                  · have hF := it_t hF c32
                    refine aw_weak (ls' := [(2, ((35 : Nat) : Int)), (9, 0)]) ⟨Or.inr rfl, Or.inl rfl, trivial⟩ ?_
                    exact fX6_goes_j323_ok hC hZ hRm hbt hr hF hK
                  · have hF := it_f hF c32
                    refine aw_iload_n hC dX6_goes_305 rfl ?_
                    refine aw_bipush hC dX6_goes_306 (by decide) (by decide) ?_
                    refine aw_icmp_eq (tgt := 323) hC dX6_goes_308 (by decide) (fun c33 => ?_) (fun c33 => ?_)
                    · have hF := it_t hF c33
                      refine aw_weak (ls' := [(2, ((35 : Nat) : Int)), (9, 0)]) ⟨Or.inr rfl, Or.inl rfl, trivial⟩ ?_
                      exact fX6_goes_j323_ok hC hZ hRm hbt hr hF hK
                    · have hF := it_f hF c33
                      refine aw_iload_n hC dX6_goes_311 rfl ?_
                      refine aw_bipush hC dX6_goes_312 (by decide) (by decide) ?_
                      refine aw_icmp_eq (tgt := 323) hC dX6_goes_314 (by decide) (fun c34 => ?_) (fun c34 => ?_)
                      · have hF := it_t hF c34
                        refine aw_weak (ls' := [(2, ((35 : Nat) : Int)), (9, 0)]) ⟨Or.inr rfl, Or.inl rfl, trivial⟩ ?_
                        exact fX6_goes_j323_ok hC hZ hRm hbt hr hF hK
                      · have hF := it_f hF c34
                        refine aw_iload_n hC dX6_goes_317 rfl ?_
                        refine aw_bipush hC dX6_goes_318 (by decide) (by decide) ?_
                        refine aw_icmp_ne (tgt := 327) hC dX6_goes_320 (by decide) (fun c35 => ?_) (fun c35 => ?_)
                        · have hF := it_f hF c35
                          refine aw_iconst hC dX6_goes_327 (by decide) ?_
                          refine aw_weak (ls' := [(2, ((35 : Nat) : Int)), (9, 0)]) ⟨Or.inr rfl, Or.inl rfl, trivial⟩ ?_
                          exact fX6_goes_j328_ok hC hZ hRm hbt hr hF hK
                        · have hF := it_t hF c35
                          refine aw_weak (ls' := [(2, ((35 : Nat) : Int)), (9, 0)]) ⟨Or.inr rfl, Or.inl rfl, trivial⟩ ?_
                          exact fX6_goes_j323_ok hC hZ hRm hbt hr hF hK
      · have hF := it_f hF c23
        refine aw_weak (ls' := [(2, ((35 : Nat) : Int)), (9, 0)]) ⟨Or.inr rfl, Or.inl rfl, trivial⟩ ?_
        obtain ⟨e46, he, hF⟩ := bp_some hF
        refine fX6_goes_l187_ok hC hZ hRm hbt hr FU _ e46 he (fun h47 er => ?_)
        replace er := er.symm
        subst er
        try dsimp only at hF
        refine aw_aload_n hC dX6_goes_250 rfl ?_
        refine aw_iconst hC dX6_goes_251 (by decide) ?_
        obtain ⟨h48, eh48, hF⟩ := lb_some hF
        refine aw_p6i (k := 19) (a := 35) hC dX6_goes_252 lkRX6_162 (by decide) rfl rfl rfl rfl rfl (Or.inl ⟨hbt, by decide⟩) (fun _ => by decide) ?_
        refine aw_eqH eh48 ?_
        clear eh48
        refine aw_goto (tgt := 331) hC dX6_goes_255 (by decide) ?_
        exact fX6_goes_j331_ok hC hZ hRm hbt hr hF hK
    · have hF := it_f hF c20
      refine aw_weak (ls' := [(2, ((35 : Nat) : Int)), (9, 0)]) ⟨Or.inr rfl, Or.inl rfl, trivial⟩ ?_
      obtain ⟨e59, he, hF⟩ := bp_some hF
      refine fX6_goes_l108_ok hC hZ hRm hbt hr FU _ e59 he (fun h60 er => ?_)
      replace er := er.symm
      subst er
      try dsimp only at hF
      refine aw_aload_n hC dX6_goes_172 rfl ?_
      refine aw_iconst hC dX6_goes_173 (by decide) ?_
      obtain ⟨h61, eh61, hF⟩ := lb_some hF
      refine aw_p6i (k := 19) (a := 35) hC dX6_goes_174 lkRX6_162 (by decide) rfl rfl rfl rfl rfl (Or.inl ⟨hbt, by decide⟩) (fun _ => by decide) ?_
      refine aw_eqH eh61 ?_
      clear eh61
      refine aw_goto (tgt := 331) hC dX6_goes_177 (by decide) ?_
      exact fX6_goes_j331_ok hC hZ hRm hbt hr hF hK
  · have hF := it_f hF c17
    refine aw_aload_n hC dX6_goes_93 rfl ?_
    refine aw_iconst hC dX6_goes_94 (by decide) ?_
    obtain ⟨h62, eh62, hF⟩ := lb_some hF
    refine aw_p6i (k := 19) (a := 35) hC dX6_goes_95 lkRX6_162 (by decide) rfl rfl rfl rfl rfl (Or.inl ⟨hbt, by decide⟩) (fun _ => by decide) ?_
    refine aw_eqH eh62 ?_
    clear eh62
    refine aw_goto (tgt := 331) hC dX6_goes_98 (by decide) ?_
    refine aw_weak (ls' := [(2, ((35 : Nat) : Int)), (9, 0)]) ⟨Or.inr rfl, Or.inl rfl, trivial⟩ ?_
    exact fX6_goes_j331_ok hC hZ hRm hbt hr hF hK
theorem ok_X6_goes {G : GD} {n : Nat}  {h : Hp} {res : Int × Hp} (hF : fX6_goes  h = some res) : Con G yX6_goes cX6_goes 2 none 1 0 0 true [(2, ((35 : Nat) : Int))] n h (FQ 8 n res) := by
  refine con_of (pad := 1) (own := RX6) (plainFor_of_name (by decide)) rfl rfl ?_
  intro X hC hbt hr hnm hZ hRm hn0
  have hK : ∀ (x9 : Int) (h9 : Hp), res = (x9, h9) → FQ 8 n res (8, x9) n h9 := fun x9 h9 e => by subst e; exact ⟨rfl, rfl, rfl⟩
  unfold fX6_goes at hF
  show AW G X 0 [(2, ((35 : Nat) : Int)), (9, 0)] [] n h 0 0
  obtain ⟨e9, he, hF⟩ := bp_some hF
  refine fX6_goes_l0_ok hC hZ hRm hbt hr FU _ e9 he (fun h10 er => ?_)
  replace er := er.symm
  subst er
  try dsimp only at hF
  exact fX6_goes_j50_ok hC hZ hRm hbt hr hF hK
def fX6_spelled_j66 (x5 : Int) (x6 : Int) (h : Hp) : Option (Int) :=
  (if x5 = 0 then some x6 else lb_ ((l_or ((l_shl x6 5)) ((i_sub x5 96)))) (fun v6 => some v6))
def fX6_spelled_j48 (x4 : Int) (x5 : Int) (x6 : Int) (h : Hp) : Option (Int) :=
  (if x4 = 0 then fX6_spelled_j66 x5 x6 h else lb_ ((l_or ((l_shl x6 5)) ((i_sub x4 96)))) (fun v7 => fX6_spelled_j66 x5 v7 h))
def fX6_spelled_j32 (x3 : Int) (x4 : Int) (x5 : Int) (x6 : Int) (h : Hp) : Option (Int) :=
  (if x3 = 0 then fX6_spelled_j48 x4 x5 x6 h else lb_ ((l_or ((l_shl x6 5)) ((i_sub x3 96)))) (fun v8 => fX6_spelled_j48 x4 x5 v8 h))
def fX6_spelled (x0 : Int) (x1 : Int) (x2 : Int) (x3 : Int) (x4 : Int) (x5 : Int) (h : Hp) : Option (Int) :=
  lb_ ((l_or ((l_shl ((l_sub x0 96)) 5)) ((i_sub x1 96)))) (fun v1 => (if x2 = 0 then fX6_spelled_j32 x3 x4 x5 v1 h else lb_ ((l_or ((l_shl v1 5)) ((i_sub x2 96)))) (fun v9 => fX6_spelled_j32 x3 x4 x5 v9 h)))
theorem fX6_spelled_j66_ok {G : GD} {X : CX} {n : Nat} {Q : Av → Nat → Hp → Prop} (hC : Cx G X RX6 cX6_spelled) (hZ : ZOK X G Q 0 0) (hRm : X.R = rmd 0 0 0) (hbt : X.bt = true) (hr : X.meth.sig.returnType = (some .long)) {x5 : Int} {x6 : Int} {h : Hp} {res : Int} (hF : fX6_spelled_j66 x5 x6 h = some res) (hK : ∀ (x9 : Int), res = x9 → Q (1, x9) n h) : AW G X 66 [(9, 0), (9, 0), (9, 0), (9, 0), (9, 0), (0, x5), (1, x6), (9, 0)] [] n h 0 0 := by
  unfold fX6_spelled_j66 at hF
  refine aw_iload hC dX6_spelled_66 rfl ?_
  refine aw_if_eq (tgt := 84) hC dX6_spelled_68 (by decide) (fun c5 => ?_) (fun c5 => ?_)
  · have hF := it_t hF c5
    refine aw_lload hC dX6_spelled_84 rfl ?_
    exact aw_lreturn hC hZ (Nat.zero_le _) (Nat.zero_le _) hr dX6_spelled_86 (hK _ (Option.some.inj hF).symm)
  · have hF := it_f hF c5
    refine aw_lload hC dX6_spelled_71 rfl ?_
    refine aw_iconst hC dX6_spelled_73 (by decide) ?_
    refine aw_lshl hC dX6_spelled_74 ?_
    refine aw_iload hC dX6_spelled_75 rfl ?_
    refine aw_bipush hC dX6_spelled_77 (by decide) (by decide) ?_
    refine aw_isub hC dX6_spelled_79 ?_
    refine aw_i2l hC dX6_spelled_80 ?_
    refine aw_lor hC dX6_spelled_81 ?_
    obtain ⟨v6, ev6, hF⟩ := lb_some hF
    refine aw_eqT ev6 ?_
    clear ev6
    refine aw_lstore6 hC dX6_spelled_82 rfl ?_
    refine aw_lload hC dX6_spelled_84 rfl ?_
    exact aw_lreturn hC hZ (Nat.zero_le _) (Nat.zero_le _) hr dX6_spelled_86 (hK _ (Option.some.inj hF).symm)
theorem fX6_spelled_j48_ok {G : GD} {X : CX} {n : Nat} {Q : Av → Nat → Hp → Prop} (hC : Cx G X RX6 cX6_spelled) (hZ : ZOK X G Q 0 0) (hRm : X.R = rmd 0 0 0) (hbt : X.bt = true) (hr : X.meth.sig.returnType = (some .long)) {x4 : Int} {x5 : Int} {x6 : Int} {h : Hp} {res : Int} (hF : fX6_spelled_j48 x4 x5 x6 h = some res) (hK : ∀ (x9 : Int), res = x9 → Q (1, x9) n h) : AW G X 48 [(9, 0), (9, 0), (9, 0), (9, 0), (0, x4), (0, x5), (1, x6), (9, 0)] [] n h 0 0 := by
  unfold fX6_spelled_j48 at hF
  refine aw_iload hC dX6_spelled_48 rfl ?_
  refine aw_if_eq (tgt := 66) hC dX6_spelled_50 (by decide) (fun c4 => ?_) (fun c4 => ?_)
  · have hF := it_t hF c4
    refine aw_weak (ls' := [(9, 0), (9, 0), (9, 0), (9, 0), (9, 0), (0, x5), (1, x6), (9, 0)]) ⟨Or.inl rfl, Or.inl rfl, Or.inl rfl, Or.inl rfl, Or.inl rfl, Or.inr rfl, Or.inr rfl, Or.inl rfl, trivial⟩ ?_
    exact fX6_spelled_j66_ok hC hZ hRm hbt hr hF hK
  · have hF := it_f hF c4
    refine aw_lload hC dX6_spelled_53 rfl ?_
    refine aw_iconst hC dX6_spelled_55 (by decide) ?_
    refine aw_lshl hC dX6_spelled_56 ?_
    refine aw_iload hC dX6_spelled_57 rfl ?_
    refine aw_bipush hC dX6_spelled_59 (by decide) (by decide) ?_
    refine aw_isub hC dX6_spelled_61 ?_
    refine aw_i2l hC dX6_spelled_62 ?_
    refine aw_lor hC dX6_spelled_63 ?_
    obtain ⟨v7, ev7, hF⟩ := lb_some hF
    refine aw_eqT ev7 ?_
    clear ev7
    refine aw_lstore6 hC dX6_spelled_64 rfl ?_
    refine aw_weak (ls' := [(9, 0), (9, 0), (9, 0), (9, 0), (9, 0), (0, x5), (1, v7), (9, 0)]) ⟨Or.inl rfl, Or.inl rfl, Or.inl rfl, Or.inl rfl, Or.inl rfl, Or.inr rfl, Or.inr rfl, Or.inl rfl, trivial⟩ ?_
    exact fX6_spelled_j66_ok hC hZ hRm hbt hr hF hK
theorem fX6_spelled_j32_ok {G : GD} {X : CX} {n : Nat} {Q : Av → Nat → Hp → Prop} (hC : Cx G X RX6 cX6_spelled) (hZ : ZOK X G Q 0 0) (hRm : X.R = rmd 0 0 0) (hbt : X.bt = true) (hr : X.meth.sig.returnType = (some .long)) {x3 : Int} {x4 : Int} {x5 : Int} {x6 : Int} {h : Hp} {res : Int} (hF : fX6_spelled_j32 x3 x4 x5 x6 h = some res) (hK : ∀ (x9 : Int), res = x9 → Q (1, x9) n h) : AW G X 32 [(9, 0), (9, 0), (9, 0), (0, x3), (0, x4), (0, x5), (1, x6), (9, 0)] [] n h 0 0 := by
  unfold fX6_spelled_j32 at hF
  refine aw_iload_n hC dX6_spelled_32 rfl ?_
  refine aw_if_eq (tgt := 48) hC dX6_spelled_33 (by decide) (fun c3 => ?_) (fun c3 => ?_)
  · have hF := it_t hF c3
    refine aw_weak (ls' := [(9, 0), (9, 0), (9, 0), (9, 0), (0, x4), (0, x5), (1, x6), (9, 0)]) ⟨Or.inl rfl, Or.inl rfl, Or.inl rfl, Or.inl rfl, Or.inr rfl, Or.inr rfl, Or.inr rfl, Or.inl rfl, trivial⟩ ?_
    exact fX6_spelled_j48_ok hC hZ hRm hbt hr hF hK
  · have hF := it_f hF c3
    refine aw_lload hC dX6_spelled_36 rfl ?_
    refine aw_iconst hC dX6_spelled_38 (by decide) ?_
    refine aw_lshl hC dX6_spelled_39 ?_
    refine aw_iload_n hC dX6_spelled_40 rfl ?_
    refine aw_bipush hC dX6_spelled_41 (by decide) (by decide) ?_
    refine aw_isub hC dX6_spelled_43 ?_
    refine aw_i2l hC dX6_spelled_44 ?_
    refine aw_lor hC dX6_spelled_45 ?_
    obtain ⟨v8, ev8, hF⟩ := lb_some hF
    refine aw_eqT ev8 ?_
    clear ev8
    refine aw_lstore6 hC dX6_spelled_46 rfl ?_
    refine aw_weak (ls' := [(9, 0), (9, 0), (9, 0), (9, 0), (0, x4), (0, x5), (1, v8), (9, 0)]) ⟨Or.inl rfl, Or.inl rfl, Or.inl rfl, Or.inl rfl, Or.inr rfl, Or.inr rfl, Or.inr rfl, Or.inl rfl, trivial⟩ ?_
    exact fX6_spelled_j48_ok hC hZ hRm hbt hr hF hK
theorem ok_X6_spelled {G : GD} {n : Nat} {x0 : Int} {x1 : Int} {x2 : Int} {x3 : Int} {x4 : Int} {x5 : Int} {h : Hp} {res : Int} (hF : fX6_spelled x0 x1 x2 x3 x4 x5 h = some res) : Con G yX6_spelled cX6_spelled 8 (some .long) 0 0 0 true [(0, x0), (0, x1), (0, x2), (0, x3), (0, x4), (0, x5)] n h (FQ 1 n (res, h)) := by
  refine con_of (pad := 2) (own := RX6) (plainFor_of_name (by decide)) rfl rfl ?_
  intro X hC hbt hr hnm hZ hRm hn0
  have hK : ∀ (x9 : Int), res = x9 → FQ 1 n (res, h) (1, x9) n h := fun x9 e => by subst e; exact ⟨rfl, rfl, rfl⟩
  unfold fX6_spelled at hF
  show AW G X 0 [(0, x0), (0, x1), (0, x2), (0, x3), (0, x4), (0, x5), (9, 0), (9, 0)] [] n h 0 0
  refine aw_iload_n hC dX6_spelled_0 rfl ?_
  refine aw_i2l hC dX6_spelled_1 ?_
  refine aw_ldc2 (v := 96) hC dX6_spelled_2 (by decide) kcRX6_175 ?_
  refine aw_lsub hC dX6_spelled_5 ?_
  refine aw_iconst hC dX6_spelled_6 (by decide) ?_
  refine aw_lshl hC dX6_spelled_7 ?_
  refine aw_iload_n hC dX6_spelled_8 rfl ?_
  refine aw_bipush hC dX6_spelled_9 (by decide) (by decide) ?_
  refine aw_isub hC dX6_spelled_11 ?_
  refine aw_i2l hC dX6_spelled_12 ?_
  refine aw_lor hC dX6_spelled_13 ?_
  obtain ⟨v1, ev1, hF⟩ := lb_some hF
  refine aw_eqT ev1 ?_
  clear ev1
  refine aw_lstore6 hC dX6_spelled_14 rfl ?_
  refine aw_iload_n hC dX6_spelled_16 rfl ?_
  refine aw_if_eq (tgt := 32) hC dX6_spelled_17 (by decide) (fun c2 => ?_) (fun c2 => ?_)
  · have hF := it_t hF c2
    refine aw_weak (ls' := [(9, 0), (9, 0), (9, 0), (0, x3), (0, x4), (0, x5), (1, v1), (9, 0)]) ⟨Or.inl rfl, Or.inl rfl, Or.inl rfl, Or.inr rfl, Or.inr rfl, Or.inr rfl, Or.inr rfl, Or.inl rfl, trivial⟩ ?_
    exact fX6_spelled_j32_ok hC hZ hRm hbt hr hF hK
  · have hF := it_f hF c2
    refine aw_lload hC dX6_spelled_20 rfl ?_
    refine aw_iconst hC dX6_spelled_22 (by decide) ?_
    refine aw_lshl hC dX6_spelled_23 ?_
    refine aw_iload_n hC dX6_spelled_24 rfl ?_
    refine aw_bipush hC dX6_spelled_25 (by decide) (by decide) ?_
    refine aw_isub hC dX6_spelled_27 ?_
    refine aw_i2l hC dX6_spelled_28 ?_
    refine aw_lor hC dX6_spelled_29 ?_
    obtain ⟨v9, ev9, hF⟩ := lb_some hF
    refine aw_eqT ev9 ?_
    clear ev9
    refine aw_lstore6 hC dX6_spelled_30 rfl ?_
    refine aw_weak (ls' := [(9, 0), (9, 0), (9, 0), (0, x3), (0, x4), (0, x5), (1, v9), (9, 0)]) ⟨Or.inl rfl, Or.inl rfl, Or.inl rfl, Or.inr rfl, Or.inr rfl, Or.inr rfl, Or.inr rfl, Or.inl rfl, trivial⟩ ?_
    exact fX6_spelled_j32_ok hC hZ hRm hbt hr hF hK
def fX6_letters (x0 : Int) (h : Hp) : Option (Int) :=
  (if x0 = 0 then bp_ (fX6_spelled 109 105 108 101 115 0 h) (fun r2 => some r2) else if x0 = 1 then bp_ (fX6_spelled 102 97 114 0 0 0 h) (fun r5 => some r5) else if x0 = 2 then bp_ (fX6_spelled 104 105 103 104 0 0 h) (fun r8 => some r8) else if x0 = 3 then bp_ (fX6_spelled 107 105 110 100 0 0 h) (fun r11 => some r11) else if x0 = 4 then bp_ (fX6_spelled 121 101 97 114 0 0 h) (fun r14 => some r14) else if x0 = 5 then bp_ (fX6_spelled 104 111 117 115 101 115 h) (fun r17 => some r17) else if x0 = 6 then bp_ (fX6_spelled 102 108 111 111 114 0 h) (fun r20 => some r20) else if x0 = 7 then bp_ (fX6_spelled 118 105 108 108 97 0 h) (fun r23 => some r23) else if x0 = 8 then bp_ (fX6_spelled 105 110 110 0 0 0 h) (fun r26 => some r26) else if x0 = 9 then bp_ (fX6_spelled 98 108 105 110 100 0 h) (fun r29 => some r29) else if x0 = 10 then bp_ (fX6_spelled 108 97 110 100 0 0 h) (fun r32 => some r32) else if x0 = 11 then bp_ (fX6_spelled 116 114 101 101 0 0 h) (fun r35 => some r35) else if x0 = 12 then bp_ (fX6_spelled 102 111 103 0 0 0 h) (fun r38 => some r38) else if x0 = 13 then bp_ (fX6_spelled 116 97 120 0 0 0 h) (fun r41 => some r41) else if x0 = 14 then bp_ (fX6_spelled 97 110 100 0 0 0 h) (fun r44 => some r44) else if x0 = 15 then bp_ (fX6_spelled 111 114 0 0 0 0 h) (fun r47 => some r47) else bp_ (fX6_spelled 110 111 116 0 0 0 h) (fun r49 => some r49))
theorem ok_X6_letters {G : GD} {n : Nat} {x0 : Int} {h : Hp} {res : Int} (hF : fX6_letters x0 h = some res) : Con G yX6_letters cX6_letters 1 (some .long) 1 0 0 true [(0, x0)] n h (FQ 1 n (res, h)) := by
  refine con_of (pad := 0) (own := RX6) (plainFor_of_name (by decide)) rfl rfl ?_
  intro X hC hbt hr hnm hZ hRm hn0
  have hK : ∀ (x9 : Int), res = x9 → FQ 1 n (res, h) (1, x9) n h := fun x9 e => by subst e; exact ⟨rfl, rfl, rfl⟩
  unfold fX6_letters at hF
  show AW G X 0 [(0, x0)] [] n h 0 0
  refine aw_iload_n hC dX6_letters_0 rfl ?_
  by_cases c1 : x0 = 0
  · have hF := it_t hF c1
    refine aw_tableIn (off := 79) (tgt := 80) hC dX6_letters_1 (by omega) (by omega) (by rw [c1]; rfl) (by decide) ?_
    refine aw_bipush hC dX6_letters_80 (by decide) (by decide) ?_
    refine aw_bipush hC dX6_letters_82 (by decide) (by decide) ?_
    refine aw_bipush hC dX6_letters_84 (by decide) (by decide) ?_
    refine aw_bipush hC dX6_letters_86 (by decide) (by decide) ?_
    refine aw_bipush hC dX6_letters_88 (by decide) (by decide) ?_
    refine aw_iconst hC dX6_letters_90 (by decide) ?_
    obtain ⟨r2, q3, hF⟩ := bp_some hF
    refine clRX6_177 hC hRm hbt dX6_letters_91 (Nat.le_of_ble_eq_true rfl) (Nat.le_of_ble_eq_true rfl) (ok_X6_spelled q3) ?_
    exact aw_lreturn hC hZ (Nat.zero_le _) (Nat.zero_le _) hr dX6_letters_94 (hK _ (Option.some.inj hF).symm)
  have hF := it_f hF c1
  by_cases c4 : x0 = 1
  · have hF := it_t hF c4
    refine aw_tableIn (off := 94) (tgt := 95) hC dX6_letters_1 (by omega) (by omega) (by rw [c4]; rfl) (by decide) ?_
    refine aw_bipush hC dX6_letters_95 (by decide) (by decide) ?_
    refine aw_bipush hC dX6_letters_97 (by decide) (by decide) ?_
    refine aw_bipush hC dX6_letters_99 (by decide) (by decide) ?_
    refine aw_iconst hC dX6_letters_101 (by decide) ?_
    refine aw_iconst hC dX6_letters_102 (by decide) ?_
    refine aw_iconst hC dX6_letters_103 (by decide) ?_
    obtain ⟨r5, q6, hF⟩ := bp_some hF
    refine clRX6_177 hC hRm hbt dX6_letters_104 (Nat.le_of_ble_eq_true rfl) (Nat.le_of_ble_eq_true rfl) (ok_X6_spelled q6) ?_
    exact aw_lreturn hC hZ (Nat.zero_le _) (Nat.zero_le _) hr dX6_letters_107 (hK _ (Option.some.inj hF).symm)
  have hF := it_f hF c4
  by_cases c7 : x0 = 2
  · have hF := it_t hF c7
    refine aw_tableIn (off := 107) (tgt := 108) hC dX6_letters_1 (by omega) (by omega) (by rw [c7]; rfl) (by decide) ?_
    refine aw_bipush hC dX6_letters_108 (by decide) (by decide) ?_
    refine aw_bipush hC dX6_letters_110 (by decide) (by decide) ?_
    refine aw_bipush hC dX6_letters_112 (by decide) (by decide) ?_
    refine aw_bipush hC dX6_letters_114 (by decide) (by decide) ?_
    refine aw_iconst hC dX6_letters_116 (by decide) ?_
    refine aw_iconst hC dX6_letters_117 (by decide) ?_
    obtain ⟨r8, q9, hF⟩ := bp_some hF
    refine clRX6_177 hC hRm hbt dX6_letters_118 (Nat.le_of_ble_eq_true rfl) (Nat.le_of_ble_eq_true rfl) (ok_X6_spelled q9) ?_
    exact aw_lreturn hC hZ (Nat.zero_le _) (Nat.zero_le _) hr dX6_letters_121 (hK _ (Option.some.inj hF).symm)
  have hF := it_f hF c7
  by_cases c10 : x0 = 3
  · have hF := it_t hF c10
    refine aw_tableIn (off := 121) (tgt := 122) hC dX6_letters_1 (by omega) (by omega) (by rw [c10]; rfl) (by decide) ?_
    refine aw_bipush hC dX6_letters_122 (by decide) (by decide) ?_
    refine aw_bipush hC dX6_letters_124 (by decide) (by decide) ?_
    refine aw_bipush hC dX6_letters_126 (by decide) (by decide) ?_
    refine aw_bipush hC dX6_letters_128 (by decide) (by decide) ?_
    refine aw_iconst hC dX6_letters_130 (by decide) ?_
    refine aw_iconst hC dX6_letters_131 (by decide) ?_
    obtain ⟨r11, q12, hF⟩ := bp_some hF
    refine clRX6_177 hC hRm hbt dX6_letters_132 (Nat.le_of_ble_eq_true rfl) (Nat.le_of_ble_eq_true rfl) (ok_X6_spelled q12) ?_
    exact aw_lreturn hC hZ (Nat.zero_le _) (Nat.zero_le _) hr dX6_letters_135 (hK _ (Option.some.inj hF).symm)
  have hF := it_f hF c10
  by_cases c13 : x0 = 4
  · have hF := it_t hF c13
    refine aw_tableIn (off := 135) (tgt := 136) hC dX6_letters_1 (by omega) (by omega) (by rw [c13]; rfl) (by decide) ?_
    refine aw_bipush hC dX6_letters_136 (by decide) (by decide) ?_
    refine aw_bipush hC dX6_letters_138 (by decide) (by decide) ?_
    refine aw_bipush hC dX6_letters_140 (by decide) (by decide) ?_
    refine aw_bipush hC dX6_letters_142 (by decide) (by decide) ?_
    refine aw_iconst hC dX6_letters_144 (by decide) ?_
    refine aw_iconst hC dX6_letters_145 (by decide) ?_
    obtain ⟨r14, q15, hF⟩ := bp_some hF
    refine clRX6_177 hC hRm hbt dX6_letters_146 (Nat.le_of_ble_eq_true rfl) (Nat.le_of_ble_eq_true rfl) (ok_X6_spelled q15) ?_
    exact aw_lreturn hC hZ (Nat.zero_le _) (Nat.zero_le _) hr dX6_letters_149 (hK _ (Option.some.inj hF).symm)
  have hF := it_f hF c13
  by_cases c16 : x0 = 5
  · have hF := it_t hF c16
    refine aw_tableIn (off := 149) (tgt := 150) hC dX6_letters_1 (by omega) (by omega) (by rw [c16]; rfl) (by decide) ?_
    refine aw_bipush hC dX6_letters_150 (by decide) (by decide) ?_
    refine aw_bipush hC dX6_letters_152 (by decide) (by decide) ?_
    refine aw_bipush hC dX6_letters_154 (by decide) (by decide) ?_
    refine aw_bipush hC dX6_letters_156 (by decide) (by decide) ?_
    refine aw_bipush hC dX6_letters_158 (by decide) (by decide) ?_
    refine aw_bipush hC dX6_letters_160 (by decide) (by decide) ?_
    obtain ⟨r17, q18, hF⟩ := bp_some hF
    refine clRX6_177 hC hRm hbt dX6_letters_162 (Nat.le_of_ble_eq_true rfl) (Nat.le_of_ble_eq_true rfl) (ok_X6_spelled q18) ?_
    exact aw_lreturn hC hZ (Nat.zero_le _) (Nat.zero_le _) hr dX6_letters_165 (hK _ (Option.some.inj hF).symm)
  have hF := it_f hF c16
  by_cases c19 : x0 = 6
  · have hF := it_t hF c19
    refine aw_tableIn (off := 165) (tgt := 166) hC dX6_letters_1 (by omega) (by omega) (by rw [c19]; rfl) (by decide) ?_
    refine aw_bipush hC dX6_letters_166 (by decide) (by decide) ?_
    refine aw_bipush hC dX6_letters_168 (by decide) (by decide) ?_
    refine aw_bipush hC dX6_letters_170 (by decide) (by decide) ?_
    refine aw_bipush hC dX6_letters_172 (by decide) (by decide) ?_
    refine aw_bipush hC dX6_letters_174 (by decide) (by decide) ?_
    refine aw_iconst hC dX6_letters_176 (by decide) ?_
    obtain ⟨r20, q21, hF⟩ := bp_some hF
    refine clRX6_177 hC hRm hbt dX6_letters_177 (Nat.le_of_ble_eq_true rfl) (Nat.le_of_ble_eq_true rfl) (ok_X6_spelled q21) ?_
    exact aw_lreturn hC hZ (Nat.zero_le _) (Nat.zero_le _) hr dX6_letters_180 (hK _ (Option.some.inj hF).symm)
  have hF := it_f hF c19
  by_cases c22 : x0 = 7
  · have hF := it_t hF c22
    refine aw_tableIn (off := 180) (tgt := 181) hC dX6_letters_1 (by omega) (by omega) (by rw [c22]; rfl) (by decide) ?_
    refine aw_bipush hC dX6_letters_181 (by decide) (by decide) ?_
    refine aw_bipush hC dX6_letters_183 (by decide) (by decide) ?_
    refine aw_bipush hC dX6_letters_185 (by decide) (by decide) ?_
    refine aw_bipush hC dX6_letters_187 (by decide) (by decide) ?_
    refine aw_bipush hC dX6_letters_189 (by decide) (by decide) ?_
    refine aw_iconst hC dX6_letters_191 (by decide) ?_
    obtain ⟨r23, q24, hF⟩ := bp_some hF
    refine clRX6_177 hC hRm hbt dX6_letters_192 (Nat.le_of_ble_eq_true rfl) (Nat.le_of_ble_eq_true rfl) (ok_X6_spelled q24) ?_
    exact aw_lreturn hC hZ (Nat.zero_le _) (Nat.zero_le _) hr dX6_letters_195 (hK _ (Option.some.inj hF).symm)
  have hF := it_f hF c22
  by_cases c25 : x0 = 8
  · have hF := it_t hF c25
    refine aw_tableIn (off := 195) (tgt := 196) hC dX6_letters_1 (by omega) (by omega) (by rw [c25]; rfl) (by decide) ?_
    refine aw_bipush hC dX6_letters_196 (by decide) (by decide) ?_
    refine aw_bipush hC dX6_letters_198 (by decide) (by decide) ?_
    refine aw_bipush hC dX6_letters_200 (by decide) (by decide) ?_
    refine aw_iconst hC dX6_letters_202 (by decide) ?_
    refine aw_iconst hC dX6_letters_203 (by decide) ?_
    refine aw_iconst hC dX6_letters_204 (by decide) ?_
    obtain ⟨r26, q27, hF⟩ := bp_some hF
    refine clRX6_177 hC hRm hbt dX6_letters_205 (Nat.le_of_ble_eq_true rfl) (Nat.le_of_ble_eq_true rfl) (ok_X6_spelled q27) ?_
    exact aw_lreturn hC hZ (Nat.zero_le _) (Nat.zero_le _) hr dX6_letters_208 (hK _ (Option.some.inj hF).symm)
  have hF := it_f hF c25
  by_cases c28 : x0 = 9
  · have hF := it_t hF c28
    refine aw_tableIn (off := 208) (tgt := 209) hC dX6_letters_1 (by omega) (by omega) (by rw [c28]; rfl) (by decide) ?_
    refine aw_bipush hC dX6_letters_209 (by decide) (by decide) ?_
    refine aw_bipush hC dX6_letters_211 (by decide) (by decide) ?_
    refine aw_bipush hC dX6_letters_213 (by decide) (by decide) ?_
    refine aw_bipush hC dX6_letters_215 (by decide) (by decide) ?_
    refine aw_bipush hC dX6_letters_217 (by decide) (by decide) ?_
    refine aw_iconst hC dX6_letters_219 (by decide) ?_
    obtain ⟨r29, q30, hF⟩ := bp_some hF
    refine clRX6_177 hC hRm hbt dX6_letters_220 (Nat.le_of_ble_eq_true rfl) (Nat.le_of_ble_eq_true rfl) (ok_X6_spelled q30) ?_
    exact aw_lreturn hC hZ (Nat.zero_le _) (Nat.zero_le _) hr dX6_letters_223 (hK _ (Option.some.inj hF).symm)
  have hF := it_f hF c28
  by_cases c31 : x0 = 10
  · have hF := it_t hF c31
    refine aw_tableIn (off := 223) (tgt := 224) hC dX6_letters_1 (by omega) (by omega) (by rw [c31]; rfl) (by decide) ?_
    refine aw_bipush hC dX6_letters_224 (by decide) (by decide) ?_
    refine aw_bipush hC dX6_letters_226 (by decide) (by decide) ?_
    refine aw_bipush hC dX6_letters_228 (by decide) (by decide) ?_
    refine aw_bipush hC dX6_letters_230 (by decide) (by decide) ?_
    refine aw_iconst hC dX6_letters_232 (by decide) ?_
    refine aw_iconst hC dX6_letters_233 (by decide) ?_
    obtain ⟨r32, q33, hF⟩ := bp_some hF
    refine clRX6_177 hC hRm hbt dX6_letters_234 (Nat.le_of_ble_eq_true rfl) (Nat.le_of_ble_eq_true rfl) (ok_X6_spelled q33) ?_
    exact aw_lreturn hC hZ (Nat.zero_le _) (Nat.zero_le _) hr dX6_letters_237 (hK _ (Option.some.inj hF).symm)
  have hF := it_f hF c31
  by_cases c34 : x0 = 11
  · have hF := it_t hF c34
    refine aw_tableIn (off := 237) (tgt := 238) hC dX6_letters_1 (by omega) (by omega) (by rw [c34]; rfl) (by decide) ?_
    refine aw_bipush hC dX6_letters_238 (by decide) (by decide) ?_
    refine aw_bipush hC dX6_letters_240 (by decide) (by decide) ?_
    refine aw_bipush hC dX6_letters_242 (by decide) (by decide) ?_
    refine aw_bipush hC dX6_letters_244 (by decide) (by decide) ?_
    refine aw_iconst hC dX6_letters_246 (by decide) ?_
    refine aw_iconst hC dX6_letters_247 (by decide) ?_
    obtain ⟨r35, q36, hF⟩ := bp_some hF
    refine clRX6_177 hC hRm hbt dX6_letters_248 (Nat.le_of_ble_eq_true rfl) (Nat.le_of_ble_eq_true rfl) (ok_X6_spelled q36) ?_
    exact aw_lreturn hC hZ (Nat.zero_le _) (Nat.zero_le _) hr dX6_letters_251 (hK _ (Option.some.inj hF).symm)
  have hF := it_f hF c34
  by_cases c37 : x0 = 12
  · have hF := it_t hF c37
    refine aw_tableIn (off := 251) (tgt := 252) hC dX6_letters_1 (by omega) (by omega) (by rw [c37]; rfl) (by decide) ?_
    refine aw_bipush hC dX6_letters_252 (by decide) (by decide) ?_
    refine aw_bipush hC dX6_letters_254 (by decide) (by decide) ?_
    refine aw_bipush hC dX6_letters_256 (by decide) (by decide) ?_
    refine aw_iconst hC dX6_letters_258 (by decide) ?_
    refine aw_iconst hC dX6_letters_259 (by decide) ?_
    refine aw_iconst hC dX6_letters_260 (by decide) ?_
    obtain ⟨r38, q39, hF⟩ := bp_some hF
    refine clRX6_177 hC hRm hbt dX6_letters_261 (Nat.le_of_ble_eq_true rfl) (Nat.le_of_ble_eq_true rfl) (ok_X6_spelled q39) ?_
    exact aw_lreturn hC hZ (Nat.zero_le _) (Nat.zero_le _) hr dX6_letters_264 (hK _ (Option.some.inj hF).symm)
  have hF := it_f hF c37
  by_cases c40 : x0 = 13
  · have hF := it_t hF c40
    refine aw_tableIn (off := 264) (tgt := 265) hC dX6_letters_1 (by omega) (by omega) (by rw [c40]; rfl) (by decide) ?_
    refine aw_bipush hC dX6_letters_265 (by decide) (by decide) ?_
    refine aw_bipush hC dX6_letters_267 (by decide) (by decide) ?_
    refine aw_bipush hC dX6_letters_269 (by decide) (by decide) ?_
    refine aw_iconst hC dX6_letters_271 (by decide) ?_
    refine aw_iconst hC dX6_letters_272 (by decide) ?_
    refine aw_iconst hC dX6_letters_273 (by decide) ?_
    obtain ⟨r41, q42, hF⟩ := bp_some hF
    refine clRX6_177 hC hRm hbt dX6_letters_274 (Nat.le_of_ble_eq_true rfl) (Nat.le_of_ble_eq_true rfl) (ok_X6_spelled q42) ?_
    exact aw_lreturn hC hZ (Nat.zero_le _) (Nat.zero_le _) hr dX6_letters_277 (hK _ (Option.some.inj hF).symm)
  have hF := it_f hF c40
  by_cases c43 : x0 = 14
  · have hF := it_t hF c43
    refine aw_tableIn (off := 277) (tgt := 278) hC dX6_letters_1 (by omega) (by omega) (by rw [c43]; rfl) (by decide) ?_
    refine aw_bipush hC dX6_letters_278 (by decide) (by decide) ?_
    refine aw_bipush hC dX6_letters_280 (by decide) (by decide) ?_
    refine aw_bipush hC dX6_letters_282 (by decide) (by decide) ?_
    refine aw_iconst hC dX6_letters_284 (by decide) ?_
    refine aw_iconst hC dX6_letters_285 (by decide) ?_
    refine aw_iconst hC dX6_letters_286 (by decide) ?_
    obtain ⟨r44, q45, hF⟩ := bp_some hF
    refine clRX6_177 hC hRm hbt dX6_letters_287 (Nat.le_of_ble_eq_true rfl) (Nat.le_of_ble_eq_true rfl) (ok_X6_spelled q45) ?_
    exact aw_lreturn hC hZ (Nat.zero_le _) (Nat.zero_le _) hr dX6_letters_290 (hK _ (Option.some.inj hF).symm)
  have hF := it_f hF c43
  by_cases c46 : x0 = 15
  · have hF := it_t hF c46
    refine aw_tableIn (off := 290) (tgt := 291) hC dX6_letters_1 (by omega) (by omega) (by rw [c46]; rfl) (by decide) ?_
    refine aw_bipush hC dX6_letters_291 (by decide) (by decide) ?_
    refine aw_bipush hC dX6_letters_293 (by decide) (by decide) ?_
    refine aw_iconst hC dX6_letters_295 (by decide) ?_
    refine aw_iconst hC dX6_letters_296 (by decide) ?_
    refine aw_iconst hC dX6_letters_297 (by decide) ?_
    refine aw_iconst hC dX6_letters_298 (by decide) ?_
    obtain ⟨r47, q48, hF⟩ := bp_some hF
    refine clRX6_177 hC hRm hbt dX6_letters_299 (Nat.le_of_ble_eq_true rfl) (Nat.le_of_ble_eq_true rfl) (ok_X6_spelled q48) ?_
    exact aw_lreturn hC hZ (Nat.zero_le _) (Nat.zero_le _) hr dX6_letters_302 (hK _ (Option.some.inj hF).symm)
  have hF := it_f hF c46
  refine aw_tableOut (tgt := 303) hC dX6_letters_1 (by omega) (by decide) ?_
  refine aw_bipush hC dX6_letters_303 (by decide) (by decide) ?_
  refine aw_bipush hC dX6_letters_305 (by decide) (by decide) ?_
  refine aw_bipush hC dX6_letters_307 (by decide) (by decide) ?_
  refine aw_iconst hC dX6_letters_309 (by decide) ?_
  refine aw_iconst hC dX6_letters_310 (by decide) ?_
  refine aw_iconst hC dX6_letters_311 (by decide) ?_
  obtain ⟨r49, q50, hF⟩ := bp_some hF
  refine clRX6_177 hC hRm hbt dX6_letters_312 (Nat.le_of_ble_eq_true rfl) (Nat.le_of_ble_eq_true rfl) (ok_X6_spelled q50) ?_
  exact aw_lreturn hC hZ (Nat.zero_le _) (Nat.zero_le _) hr dX6_letters_315 (hK _ (Option.some.inj hF).symm)
def fX6_knownWord_l21 (x1 : Int) (h : Hp) : Option ((Int) ⊕ ((Unit) ⊕ (Int))) :=
  (if 17 ≤ x1 then some (.inr (.inl ())) else bp_ (fX6_letters x1 h) (fun r4 => (if (l_cmp r4 ((h 35 24))) = 0 then some (.inr (.inr x1)) else some (.inl (i_add x1 1)))))
def fX6_knownWord  (h : Hp) : Option (Int) :=
  (if (h 35 19) = 1 then (if (h 35 21) ≤ 6 then bp_ (it_ (fun s => fX6_knownWord_l21 s h) FU 0) (fun e8 => match e8 with | .inl e8 => some ((-1)) | .inr q9 => some q9) else some ((-1))) else some ((-1)))
theorem fX6_knownWord_l21_ok {G : GD} {X : CX} {n : Nat} {Q : Av → Nat → Hp → Prop} (hC : Cx G X RX6 cX6_knownWord) (hZ : ZOK X G Q 0 0) (hRm : X.R = rmd 2 0 0) (hbt : X.bt = true) (hr : X.meth.sig.returnType = (some .int))  {h : Hp} : ∀ (f : Nat) (x1 : Int) (r : (Unit) ⊕ (Int)), it_ (fun s => fX6_knownWord_l21 s h) f x1 = some r → (r = (.inl ()) → AW G X 47 [(9, 0), (9, 0)] [] n h 0 0) → (∀ (x9 : Int), r = .inr x9 → Q (0, x9) n h) → AW G X 21 [(2, ((35 : Nat) : Int)), (0, x1)] [] n h 0 0 := by
  intro f
  induction f with
  | zero => intro x1 r hI; cases hI
  | succ f ih0 =>
    intro x1 r hI hX hRet9
    obtain ⟨b, hF, hb1, hb2⟩ := it_succ hI
    have hF : fX6_knownWord_l21 x1 h = some b := hF
    have hRet : ∀ (x9 : Int), b = .inr (.inr x9) → Q (0, x9) n h := fun x9 e => hRet9 x9 (hb2 _ e).symm
    unfold fX6_knownWord_l21 at hF
    refine aw_iload_n hC dX6_knownWord_21 rfl ?_
    refine aw_bipush hC dX6_knownWord_22 (by decide) (by decide) ?_
    refine aw_icmp_ge (tgt := 47) hC dX6_knownWord_24 (by decide) (fun c3 => ?_) (fun c3 => ?_)
    · have hF := it_t hF c3
      refine aw_weak (ls' := [(9, 0), (9, 0)]) ⟨Or.inl rfl, Or.inl rfl, trivial⟩ ?_
      exact hX (hb2 _ (Option.some.inj hF).symm).symm
    · have hF := it_f hF c3
      refine aw_iload_n hC dX6_knownWord_27 rfl ?_
      obtain ⟨r4, q5, hF⟩ := bp_some hF
      refine clRX6_181 hC hRm hbt dX6_knownWord_28 (Nat.le_of_ble_eq_true rfl) (Nat.le_of_ble_eq_true rfl) (ok_X6_letters q5) ?_
      refine aw_aload_n hC dX6_knownWord_31 rfl ?_
      refine aw_g6l (k := 24) (a := 35) hC dX6_knownWord_32 lkRX6_152 (by decide) rfl rfl rfl (Or.inl ⟨hbt, by decide⟩) ?_
      refine aw_lcmp hC dX6_knownWord_35 ?_
      refine aw_if_ne (tgt := 41) hC dX6_knownWord_36 (by decide) (fun c6 => ?_) (fun c6 => ?_)
      · have hF := it_f hF c6
        refine aw_iinc1 hC dX6_knownWord_41 rfl ?_
        refine aw_goto (tgt := 21) hC dX6_knownWord_44 (by decide) ?_
        exact ih0 _ r (hb1 _ (Option.some.inj hF).symm) hX hRet9
      · have hF := it_t hF c6
        refine aw_iload_n hC dX6_knownWord_39 rfl ?_
        exact aw_ireturn hC hZ (Nat.zero_le _) (Nat.zero_le _) hr dX6_knownWord_40 (hRet _ (Option.some.inj hF).symm)
theorem ok_X6_knownWord {G : GD} {n : Nat}  {h : Hp} {res : Int} (hF : fX6_knownWord  h = some res) : Con G yX6_knownWord cX6_knownWord 2 (some .int) 2 0 0 true [(2, ((35 : Nat) : Int))] n h (FQ 0 n (res, h)) := by
  refine con_of (pad := 1) (own := RX6) (plainFor_of_name (by decide)) rfl rfl ?_
  intro X hC hbt hr hnm hZ hRm hn0
  have hK : ∀ (x9 : Int), res = x9 → FQ 0 n (res, h) (0, x9) n h := fun x9 e => by subst e; exact ⟨rfl, rfl, rfl⟩
  unfold fX6_knownWord at hF
  show AW G X 0 [(2, ((35 : Nat) : Int)), (9, 0)] [] n h 0 0
  refine aw_aload_n hC dX6_knownWord_0 rfl ?_
  refine aw_g6i (k := 19) (a := 35) hC dX6_knownWord_1 lkRX6_162 (by decide) rfl rfl rfl (Or.inl ⟨hbt, by decide⟩) ?_
  refine aw_iconst hC dX6_knownWord_4 (by decide) ?_
  refine aw_icmp_ne (tgt := 17) hC dX6_knownWord_5 (by decide) (fun c1 => ?_) (fun c1 => ?_)
  · have hF := it_f hF c1
    refine aw_iconst hC dX6_knownWord_17 (by decide) ?_
    exact aw_ireturn hC hZ (Nat.zero_le _) (Nat.zero_le _) hr dX6_knownWord_18 (hK _ (Option.some.inj hF).symm)
  · have hF := it_t hF c1
    refine aw_aload_n hC dX6_knownWord_8 rfl ?_
    refine aw_g6i (k := 21) (a := 35) hC dX6_knownWord_9 lkRX6_172 (by decide) rfl rfl rfl (Or.inl ⟨hbt, by decide⟩) ?_
    refine aw_bipush hC dX6_knownWord_12 (by decide) (by decide) ?_
    refine aw_icmp_le (tgt := 19) hC dX6_knownWord_14 (by decide) (fun c2 => ?_) (fun c2 => ?_)
    · have hF := it_t hF c2
      refine aw_iconst hC dX6_knownWord_19 (by decide) ?_
      refine aw_istore1 hC dX6_knownWord_20 rfl ?_
      obtain ⟨e8, he, hF⟩ := bp_some hF
      refine fX6_knownWord_l21_ok hC hZ hRm hbt hr FU _ e8 he (fun er => ?_) (fun x9 e => by subst e; exact hK _ (Option.some.inj hF).symm)
      replace er := er.symm
      subst er
      try dsimp only at hF
      refine aw_iconst hC dX6_knownWord_47 (by decide) ?_
      exact aw_ireturn hC hZ (Nat.zero_le _) (Nat.zero_le _) hr dX6_knownWord_48 (hK _ (Option.some.inj hF).symm)
    · have hF := it_f hF c2
      refine aw_iconst hC dX6_knownWord_17 (by decide) ?_
      exact aw_ireturn hC hZ (Nat.zero_le _) (Nat.zero_le _) hr dX6_knownWord_18 (hK _ (Option.some.inj hF).symm)
def fX6_wrong (x1 : Int) (h : Hp) : Option (Int × Hp) :=
  (if (h 35 14) = 0 then lb_ (st h 35 14 x1) (fun h2 => lb_ (st h2 35 15 ((h2 35 20))) (fun h3 => some (0, h3))) else some (0, h))
theorem ok_X6_wrong {G : GD} {n : Nat} {x1 : Int} {h : Hp} {res : Int × Hp} (hF : fX6_wrong x1 h = some res) : Con G yX6_wrong cX6_wrong 2 none 0 0 0 true [(2, ((35 : Nat) : Int)), (0, x1)] n h (FQ 8 n res) := by
  refine con_of (pad := 0) (own := RX6) (plainFor_of_name (by decide)) rfl rfl ?_
  intro X hC hbt hr hnm hZ hRm hn0
  have hK : ∀ (x9 : Int) (h9 : Hp), res = (x9, h9) → FQ 8 n res (8, x9) n h9 := fun x9 h9 e => by subst e; exact ⟨rfl, rfl, rfl⟩
  unfold fX6_wrong at hF
  show AW G X 0 [(2, ((35 : Nat) : Int)), (0, x1)] [] n h 0 0
  refine aw_aload_n hC dX6_wrong_0 rfl ?_
  refine aw_g6i (k := 14) (a := 35) hC dX6_wrong_1 lkRX6_185 (by decide) rfl rfl rfl (Or.inl ⟨hbt, by decide⟩) ?_
  refine aw_if_eq (tgt := 8) hC dX6_wrong_4 (by decide) (fun c1 => ?_) (fun c1 => ?_)
  · have hF := it_t hF c1
    refine aw_aload_n hC dX6_wrong_8 rfl ?_
    refine aw_iload_n hC dX6_wrong_9 rfl ?_
    obtain ⟨h2, eh2, hF⟩ := lb_some hF
    refine aw_p6i (k := 14) (a := 35) hC dX6_wrong_10 lkRX6_185 (by decide) rfl rfl rfl rfl rfl (Or.inl ⟨hbt, by decide⟩) (fun _ => by decide) ?_
    refine aw_eqH eh2 ?_
    clear eh2
    refine aw_aload_n hC dX6_wrong_13 rfl ?_
    refine aw_aload_n hC dX6_wrong_14 rfl ?_
    refine aw_g6i (k := 20) (a := 35) hC dX6_wrong_15 lkRX6_149 (by decide) rfl rfl rfl (Or.inl ⟨hbt, by decide⟩) ?_
    obtain ⟨h3, eh3, hF⟩ := lb_some hF
    refine aw_p6i (k := 15) (a := 35) hC dX6_wrong_18 lkRX6_38 (by decide) rfl rfl rfl rfl rfl (Or.inl ⟨hbt, by decide⟩) (fun _ => by decide) ?_
    refine aw_eqH eh3 ?_
    clear eh3
    exact aw_return hC hZ (Nat.zero_le _) (Nat.zero_le _) hr dX6_wrong_21 (hK _ _ (Option.some.inj hF).symm)
  · have hF := it_f hF c1
    exact aw_return hC hZ (Nat.zero_le _) (Nat.zero_le _) hr dX6_wrong_7 (hK _ _ (Option.some.inj hF).symm)
def fX6_isGood  (h : Hp) : Option (Int) :=
  (if (h 35 14) = 0 then some 1 else some 0)
theorem ok_X6_isGood {G : GD} {n : Nat}  {h : Hp} {res : Int} (hF : fX6_isGood  h = some res) : Con G yX6_isGood cX6_isGood 1 (some .boolean) 0 0 0 true [(2, ((35 : Nat) : Int))] n h (FQ 0 n (res, h)) := by
  refine con_of (pad := 0) (own := RX6) (plainFor_of_name (by decide)) rfl rfl ?_
  intro X hC hbt hr hnm hZ hRm hn0
  have hK : ∀ (x9 : Int), res = x9 → FQ 0 n (res, h) (0, x9) n h := fun x9 e => by subst e; exact ⟨rfl, rfl, rfl⟩
  unfold fX6_isGood at hF
  show AW G X 0 [(2, ((35 : Nat) : Int))] [] n h 0 0
  refine aw_aload_n hC dX6_isGood_0 rfl ?_
  refine aw_g6i (k := 14) (a := 35) hC dX6_isGood_1 lkRX6_185 (by decide) rfl rfl rfl (Or.inl ⟨hbt, by decide⟩) ?_
  refine aw_if_ne (tgt := 11) hC dX6_isGood_4 (by decide) (fun c1 => ?_) (fun c1 => ?_)
  · have hF := it_f hF c1
    refine aw_iconst hC dX6_isGood_11 (by decide) ?_
    exact aw_zreturn hC hZ (Nat.zero_le _) (Nat.zero_le _) hr rfl dX6_isGood_12 (by decide) (hK _ (Option.some.inj hF).symm)
  · have hF := it_t hF c1
    refine aw_iconst hC dX6_isGood_7 (by decide) ?_
    refine aw_goto (tgt := 12) hC dX6_isGood_8 (by decide) ?_
    exact aw_zreturn hC hZ (Nat.zero_le _) (Nat.zero_le _) hr rfl dX6_isGood_12 (by decide) (hK _ (Option.some.inj hF).symm)
def fX6_isSign (x1 : Int) (h : Hp) : Option (Int) :=
  (if (h 35 19) = 3 then (if (h 35 23) = x1 then some 1 else some 0) else some 0)
theorem ok_X6_isSign {G : GD} {n : Nat} {x1 : Int} {h : Hp} {res : Int} (hF : fX6_isSign x1 h = some res) : Con G yX6_isSign cX6_isSign 2 (some .boolean) 0 0 0 true [(2, ((35 : Nat) : Int)), (0, x1)] n h (FQ 0 n (res, h)) := by
  refine con_of (pad := 0) (own := RX6) (plainFor_of_name (by decide)) rfl rfl ?_
  intro X hC hbt hr hnm hZ hRm hn0
  have hK : ∀ (x9 : Int), res = x9 → FQ 0 n (res, h) (0, x9) n h := fun x9 e => by subst e; exact ⟨rfl, rfl, rfl⟩
  unfold fX6_isSign at hF
  show AW G X 0 [(2, ((35 : Nat) : Int)), (0, x1)] [] n h 0 0
  refine aw_aload_n hC dX6_isSign_0 rfl ?_
  refine aw_g6i (k := 19) (a := 35) hC dX6_isSign_1 lkRX6_162 (by decide) rfl rfl rfl (Or.inl ⟨hbt, by decide⟩) ?_
  refine aw_iconst hC dX6_isSign_4 (by decide) ?_
  refine aw_icmp_ne (tgt := 20) hC dX6_isSign_5 (by decide) (fun c1 => ?_) (fun c1 => ?_)
  · have hF := it_f hF c1
    refine aw_iconst hC dX6_isSign_20 (by decide) ?_
    exact aw_zreturn hC hZ (Nat.zero_le _) (Nat.zero_le _) hr rfl dX6_isSign_21 (by decide) (hK _ (Option.some.inj hF).symm)
  · have hF := it_t hF c1
    refine aw_aload_n hC dX6_isSign_8 rfl ?_
    refine aw_g6i (k := 23) (a := 35) hC dX6_isSign_9 lkRX6_159 (by decide) rfl rfl rfl (Or.inl ⟨hbt, by decide⟩) ?_
    refine aw_iload_n hC dX6_isSign_12 rfl ?_
    refine aw_icmp_ne (tgt := 20) hC dX6_isSign_13 (by decide) (fun c2 => ?_) (fun c2 => ?_)
    · have hF := it_f hF c2
      refine aw_iconst hC dX6_isSign_20 (by decide) ?_
      exact aw_zreturn hC hZ (Nat.zero_le _) (Nat.zero_le _) hr rfl dX6_isSign_21 (by decide) (hK _ (Option.some.inj hF).symm)
    · have hF := it_t hF c2
      refine aw_iconst hC dX6_isSign_16 (by decide) ?_
      refine aw_goto (tgt := 21) hC dX6_isSign_17 (by decide) ?_
      exact aw_zreturn hC hZ (Nat.zero_le _) (Nat.zero_le _) hr rfl dX6_isSign_21 (by decide) (hK _ (Option.some.inj hF).symm)
def fX6_need (x1 : Int) (h : Hp) : Option (Int × Hp) :=
  bp_ (fX6_isGood h) (fun r1 => (if r1 = 0 then some (0, h) else (if x1 = 0 then bd_ (fX6_wrong 1 h) (fun r5 h7 => some (0, h7)) else bd_ (fX6_goes h) (fun r8 h10 => some (0, h10)))))
theorem ok_X6_need {G : GD} {n : Nat} {x1 : Int} {h : Hp} {res : Int × Hp} (hF : fX6_need x1 h = some res) : Con G yX6_need cX6_need 2 none 2 0 0 true [(2, ((35 : Nat) : Int)), (0, x1)] n h (FQ 8 n res) := by
  refine con_of (pad := 0) (own := RX6) (plainFor_of_name (by decide)) rfl rfl ?_
  intro X hC hbt hr hnm hZ hRm hn0
  have hK : ∀ (x9 : Int) (h9 : Hp), res = (x9, h9) → FQ 8 n res (8, x9) n h9 := fun x9 h9 e => by subst e; exact ⟨rfl, rfl, rfl⟩
  unfold fX6_need at hF
  show AW G X 0 [(2, ((35 : Nat) : Int)), (0, x1)] [] n h 0 0
  refine aw_aload_n hC dX6_need_0 rfl ?_
  obtain ⟨r1, q2, hF⟩ := bp_some hF
  refine clRX6_188 hC hRm hbt dX6_need_1 rfl rfl (by decide) (Nat.le_of_ble_eq_true rfl) (Nat.le_of_ble_eq_true rfl) (ok_X6_isGood q2) ?_
  refine aw_if_ne (tgt := 8) hC dX6_need_4 (by decide) (fun c3 => ?_) (fun c3 => ?_)
  · have hF := it_f hF c3
    refine aw_iload_n hC dX6_need_8 rfl ?_
    refine aw_if_eq (tgt := 19) hC dX6_need_9 (by decide) (fun c4 => ?_) (fun c4 => ?_)
    · have hF := it_t hF c4
      refine aw_aload_n hC dX6_need_19 rfl ?_
      refine aw_iconst hC dX6_need_20 (by decide) ?_
      obtain ⟨r5, h7, q6, hF⟩ := bd_some hF
      refine clRX6_195 hC hRm hbt dX6_need_21 rfl rfl (by decide) (Nat.le_of_ble_eq_true rfl) (Nat.le_of_ble_eq_true rfl) (ok_X6_wrong q6) ?_
      exact aw_return hC hZ (Nat.zero_le _) (Nat.zero_le _) hr dX6_need_24 (hK _ _ (Option.some.inj hF).symm)
    · have hF := it_f hF c4
      refine aw_aload_n hC dX6_need_12 rfl ?_
      obtain ⟨r8, h10, q9, hF⟩ := bd_some hF
      refine clRX6_192 hC hRm hbt dX6_need_13 rfl rfl (by decide) (Nat.le_of_ble_eq_true rfl) (Nat.le_of_ble_eq_true rfl) (ok_X6_goes q9) ?_
      refine aw_goto (tgt := 24) hC dX6_need_16 (by decide) ?_
      exact aw_return hC hZ (Nat.zero_le _) (Nat.zero_le _) hr dX6_need_24 (hK _ _ (Option.some.inj hF).symm)
  · have hF := it_t hF c3
    exact aw_return hC hZ (Nat.zero_le _) (Nat.zero_le _) hr dX6_need_7 (hK _ _ (Option.some.inj hF).symm)
def fX6_numberHere_j54  (h : Hp) : Option (Int × Hp) :=
  bp_ (fX6_isGood h) (fun r9 => gd_ (r9 = 0 ∨ r9 = 1) (some (r9, h)))
def fX6_numberHere_j49  (h : Hp) : Option (Int × Hp) :=
  bd_ (fX6_wrong 2 h) (fun r6 h8 => fX6_numberHere_j54 h8)
def fX6_numberHere (x1 : Int) (x2 : Int) (h : Hp) : Option (Int × Hp) :=
  bp_ (fX6_isGood h) (fun r1 => (if r1 = 0 then some (0, h) else (if (h 35 19) = 2 then (if 4 < (h 35 21) then fX6_numberHere_j49 h else (if (h 35 22) < x1 then fX6_numberHere_j49 h else (if (h 35 22) ≤ x2 then fX6_numberHere_j54 h else fX6_numberHere_j49 h))) else bd_ (fX6_wrong 1 h) (fun r14 h16 => fX6_numberHere_j54 h16))))
theorem fX6_numberHere_j54_ok {G : GD} {X : CX} {n : Nat} {Q : Av → Nat → Hp → Prop} (hC : Cx G X RX6 cX6_numberHere) (hZ : ZOK X G Q 0 0) (hRm : X.R = rmd 1 0 0) (hbt : X.bt = true) (hr : X.meth.sig.returnType = (some .boolean))  {h : Hp} {res : Int × Hp} (hF : fX6_numberHere_j54  h = some res) (hK : ∀ (x9 : Int) (h9 : Hp), res = (x9, h9) → Q (0, x9) n h9) : AW G X 54 [(2, ((35 : Nat) : Int)), (9, 0), (9, 0)] [] n h 0 0 := by
  unfold fX6_numberHere_j54 at hF
  refine aw_aload_n hC dX6_numberHere_54 rfl ?_
  obtain ⟨r9, q10, hF⟩ := bp_some hF
  refine clRX6_188 hC hRm hbt dX6_numberHere_55 rfl rfl (by decide) (Nat.le_of_ble_eq_true rfl) (Nat.le_of_ble_eq_true rfl) (ok_X6_isGood q10) ?_
  obtain ⟨g11, hF⟩ := gd_some hF
  exact aw_zreturn hC hZ (Nat.zero_le _) (Nat.zero_le _) hr rfl dX6_numberHere_58 g11 (hK _ _ (Option.some.inj hF).symm)
theorem fX6_numberHere_j49_ok {G : GD} {X : CX} {n : Nat} {Q : Av → Nat → Hp → Prop} (hC : Cx G X RX6 cX6_numberHere) (hZ : ZOK X G Q 0 0) (hRm : X.R = rmd 1 0 0) (hbt : X.bt = true) (hr : X.meth.sig.returnType = (some .boolean))  {h : Hp} {res : Int × Hp} (hF : fX6_numberHere_j49  h = some res) (hK : ∀ (x9 : Int) (h9 : Hp), res = (x9, h9) → Q (0, x9) n h9) : AW G X 49 [(2, ((35 : Nat) : Int)), (9, 0), (9, 0)] [] n h 0 0 := by
  unfold fX6_numberHere_j49 at hF
  refine aw_aload_n hC dX6_numberHere_49 rfl ?_
  refine aw_iconst hC dX6_numberHere_50 (by decide) ?_
  obtain ⟨r6, h8, q7, hF⟩ := bd_some hF
  refine clRX6_195 hC hRm hbt dX6_numberHere_51 rfl rfl (by decide) (Nat.le_of_ble_eq_true rfl) (Nat.le_of_ble_eq_true rfl) (ok_X6_wrong q7) ?_
  exact fX6_numberHere_j54_ok hC hZ hRm hbt hr hF hK
theorem ok_X6_numberHere {G : GD} {n : Nat} {x1 : Int} {x2 : Int} {h : Hp} {res : Int × Hp} (hF : fX6_numberHere x1 x2 h = some res) : Con G yX6_numberHere cX6_numberHere 3 (some .boolean) 1 0 0 true [(2, ((35 : Nat) : Int)), (0, x1), (0, x2)] n h (FQ 0 n res) := by
  refine con_of (pad := 0) (own := RX6) (plainFor_of_name (by decide)) rfl rfl ?_
  intro X hC hbt hr hnm hZ hRm hn0
  have hK : ∀ (x9 : Int) (h9 : Hp), res = (x9, h9) → FQ 0 n res (0, x9) n h9 := fun x9 h9 e => by subst e; exact ⟨rfl, rfl, rfl⟩
  unfold fX6_numberHere at hF
  show AW G X 0 [(2, ((35 : Nat) : Int)), (0, x1), (0, x2)] [] n h 0 0
  refine aw_aload_n hC dX6_numberHere_0 rfl ?_
  obtain ⟨r1, q2, hF⟩ := bp_some hF
  refine clRX6_188 hC hRm hbt dX6_numberHere_1 rfl rfl (by decide) (Nat.le_of_ble_eq_true rfl) (Nat.le_of_ble_eq_true rfl) (ok_X6_isGood q2) ?_
  refine aw_if_ne (tgt := 9) hC dX6_numberHere_4 (by decide) (fun c3 => ?_) (fun c3 => ?_)
  · have hF := it_f hF c3
    refine aw_aload_n hC dX6_numberHere_9 rfl ?_
    refine aw_g6i (k := 19) (a := 35) hC dX6_numberHere_10 lkRX6_162 (by decide) rfl rfl rfl (Or.inl ⟨hbt, by decide⟩) ?_
    refine aw_iconst hC dX6_numberHere_13 (by decide) ?_
    refine aw_icmp_eq (tgt := 25) hC dX6_numberHere_14 (by decide) (fun c4 => ?_) (fun c4 => ?_)
    · have hF := it_t hF c4
      refine aw_aload_n hC dX6_numberHere_25 rfl ?_
      refine aw_g6i (k := 21) (a := 35) hC dX6_numberHere_26 lkRX6_172 (by decide) rfl rfl rfl (Or.inl ⟨hbt, by decide⟩) ?_
      refine aw_iconst hC dX6_numberHere_29 (by decide) ?_
      refine aw_icmp_gt (tgt := 49) hC dX6_numberHere_30 (by decide) (fun c5 => ?_) (fun c5 => ?_)
      · have hF := it_t hF c5
        refine aw_weak (ls' := [(2, ((35 : Nat) : Int)), (9, 0), (9, 0)]) ⟨Or.inr rfl, Or.inl rfl, Or.inl rfl, trivial⟩ ?_
        exact fX6_numberHere_j49_ok hC hZ hRm hbt hr hF hK
      · have hF := it_f hF c5
        refine aw_aload_n hC dX6_numberHere_33 rfl ?_
        refine aw_g6i (k := 22) (a := 35) hC dX6_numberHere_34 lkRX6_156 (by decide) rfl rfl rfl (Or.inl ⟨hbt, by decide⟩) ?_
        refine aw_iload_n hC dX6_numberHere_37 rfl ?_
        refine aw_icmp_lt (tgt := 49) hC dX6_numberHere_38 (by decide) (fun c12 => ?_) (fun c12 => ?_)
        · have hF := it_t hF c12
          refine aw_weak (ls' := [(2, ((35 : Nat) : Int)), (9, 0), (9, 0)]) ⟨Or.inr rfl, Or.inl rfl, Or.inl rfl, trivial⟩ ?_
          exact fX6_numberHere_j49_ok hC hZ hRm hbt hr hF hK
        · have hF := it_f hF c12
          refine aw_aload_n hC dX6_numberHere_41 rfl ?_
          refine aw_g6i (k := 22) (a := 35) hC dX6_numberHere_42 lkRX6_156 (by decide) rfl rfl rfl (Or.inl ⟨hbt, by decide⟩) ?_
          refine aw_iload_n hC dX6_numberHere_45 rfl ?_
          refine aw_icmp_le (tgt := 54) hC dX6_numberHere_46 (by decide) (fun c13 => ?_) (fun c13 => ?_)
          · have hF := it_t hF c13
            refine aw_weak (ls' := [(2, ((35 : Nat) : Int)), (9, 0), (9, 0)]) ⟨Or.inr rfl, Or.inl rfl, Or.inl rfl, trivial⟩ ?_
            exact fX6_numberHere_j54_ok hC hZ hRm hbt hr hF hK
          · have hF := it_f hF c13
            refine aw_weak (ls' := [(2, ((35 : Nat) : Int)), (9, 0), (9, 0)]) ⟨Or.inr rfl, Or.inl rfl, Or.inl rfl, trivial⟩ ?_
            exact fX6_numberHere_j49_ok hC hZ hRm hbt hr hF hK
    · have hF := it_f hF c4
      refine aw_aload_n hC dX6_numberHere_17 rfl ?_
      refine aw_iconst hC dX6_numberHere_18 (by decide) ?_
      obtain ⟨r14, h16, q15, hF⟩ := bd_some hF
      refine clRX6_195 hC hRm hbt dX6_numberHere_19 rfl rfl (by decide) (Nat.le_of_ble_eq_true rfl) (Nat.le_of_ble_eq_true rfl) (ok_X6_wrong q15) ?_
      refine aw_goto (tgt := 54) hC dX6_numberHere_22 (by decide) ?_
      refine aw_weak (ls' := [(2, ((35 : Nat) : Int)), (9, 0), (9, 0)]) ⟨Or.inr rfl, Or.inl rfl, Or.inl rfl, trivial⟩ ?_
      exact fX6_numberHere_j54_ok hC hZ hRm hbt hr hF hK
  · have hF := it_t hF c3
    refine aw_iconst hC dX6_numberHere_7 (by decide) ?_
    exact aw_zreturn hC hZ (Nat.zero_le _) (Nat.zero_le _) hr rfl dX6_numberHere_8 (by decide) (hK _ _ (Option.some.inj hF).symm)
def fX6_number_j17 (z0 : Int) (h : Hp) : Option (Int × Hp) :=
  bp_ (fX6_isGood h) (fun r5 => (if r5 = 0 then some (z0, h) else bd_ (fX6_goes h) (fun r8 h10 => some (z0, h10))))
def fX6_number (x1 : Int) (x2 : Int) (h : Hp) : Option (Int × Hp) :=
  bd_ (fX6_numberHere x1 x2 h) (fun r1 h3 => (if r1 = 0 then fX6_number_j17 0 h3 else fX6_number_j17 ((h3 35 22)) h3))
theorem fX6_number_j17_ok {G : GD} {X : CX} {n : Nat} {Q : Av → Nat → Hp → Prop} (hC : Cx G X RX6 cX6_number) (hZ : ZOK X G Q 0 0) (hRm : X.R = rmd 2 0 0) (hbt : X.bt = true) (hr : X.meth.sig.returnType = (some .int)) {z0 : Int} {h : Hp} {res : Int × Hp} (hF : fX6_number_j17 z0 h = some res) (hK : ∀ (x9 : Int) (h9 : Hp), res = (x9, h9) → Q (0, x9) n h9) : AW G X 17 [(2, ((35 : Nat) : Int)), (9, 0), (9, 0), (9, 0)] [(0, z0)] n h 0 0 := by
  unfold fX6_number_j17 at hF
  refine aw_istore3 hC dX6_number_17 rfl ?_
  refine aw_aload_n hC dX6_number_18 rfl ?_
  obtain ⟨r5, q6, hF⟩ := bp_some hF
  refine clRX6_188 hC hRm hbt dX6_number_19 rfl rfl (by decide) (Nat.le_of_ble_eq_true rfl) (Nat.le_of_ble_eq_true rfl) (ok_X6_isGood q6) ?_
  refine aw_if_eq (tgt := 29) hC dX6_number_22 (by decide) (fun c7 => ?_) (fun c7 => ?_)
  · have hF := it_t hF c7
    refine aw_iload_n hC dX6_number_29 rfl ?_
    exact aw_ireturn hC hZ (Nat.zero_le _) (Nat.zero_le _) hr dX6_number_30 (hK _ _ (Option.some.inj hF).symm)
  · have hF := it_f hF c7
    refine aw_aload_n hC dX6_number_25 rfl ?_
    obtain ⟨r8, h10, q9, hF⟩ := bd_some hF
    refine clRX6_192 hC hRm hbt dX6_number_26 rfl rfl (by decide) (Nat.le_of_ble_eq_true rfl) (Nat.le_of_ble_eq_true rfl) (ok_X6_goes q9) ?_
    refine aw_iload_n hC dX6_number_29 rfl ?_
    exact aw_ireturn hC hZ (Nat.zero_le _) (Nat.zero_le _) hr dX6_number_30 (hK _ _ (Option.some.inj hF).symm)
theorem ok_X6_number {G : GD} {n : Nat} {x1 : Int} {x2 : Int} {h : Hp} {res : Int × Hp} (hF : fX6_number x1 x2 h = some res) : Con G yX6_number cX6_number 4 (some .int) 2 0 0 true [(2, ((35 : Nat) : Int)), (0, x1), (0, x2)] n h (FQ 0 n res) := by
  refine con_of (pad := 1) (own := RX6) (plainFor_of_name (by decide)) rfl rfl ?_
  intro X hC hbt hr hnm hZ hRm hn0
  have hK : ∀ (x9 : Int) (h9 : Hp), res = (x9, h9) → FQ 0 n res (0, x9) n h9 := fun x9 h9 e => by subst e; exact ⟨rfl, rfl, rfl⟩
  unfold fX6_number at hF
  show AW G X 0 [(2, ((35 : Nat) : Int)), (0, x1), (0, x2), (9, 0)] [] n h 0 0
  refine aw_aload_n hC dX6_number_0 rfl ?_
  refine aw_iload_n hC dX6_number_1 rfl ?_
  refine aw_iload_n hC dX6_number_2 rfl ?_
  obtain ⟨r1, h3, q2, hF⟩ := bd_some hF
  refine clRX6_198 hC hRm hbt dX6_number_3 rfl rfl (by decide) (Nat.le_of_ble_eq_true rfl) (Nat.le_of_ble_eq_true rfl) (ok_X6_numberHere q2) ?_
  refine aw_if_eq (tgt := 16) hC dX6_number_6 (by decide) (fun c4 => ?_) (fun c4 => ?_)
  · have hF := it_t hF c4
    refine aw_iconst hC dX6_number_16 (by decide) ?_
    refine aw_weak (ls' := [(2, ((35 : Nat) : Int)), (9, 0), (9, 0), (9, 0)]) ⟨Or.inr rfl, Or.inl rfl, Or.inl rfl, Or.inl rfl, trivial⟩ ?_
    exact fX6_number_j17_ok hC hZ hRm hbt hr hF hK
  · have hF := it_f hF c4
    refine aw_aload_n hC dX6_number_9 rfl ?_
    refine aw_g6i (k := 22) (a := 35) hC dX6_number_10 lkRX6_156 (by decide) rfl rfl rfl (Or.inl ⟨hbt, by decide⟩) ?_
    refine aw_goto (tgt := 17) hC dX6_number_13 (by decide) ?_
    refine aw_weak (ls' := [(2, ((35 : Nat) : Int)), (9, 0), (9, 0), (9, 0)]) ⟨Or.inr rfl, Or.inl rfl, Or.inl rfl, Or.inl rfl, trivial⟩ ?_
    exact fX6_number_j17_ok hC hZ hRm hbt hr hF hK
def fX6_puts (x1 : Int) (h : Hp) : Option (Int × Hp) :=
  gd_ (0 ≤ (h 35 31) ∧ (h 35 31) < 2800) (lb_ (st h 51 (Int.toNat ((h 35 31))) x1) (fun h2 => lb_ (st h2 35 31 ((i_add ((h2 35 31)) 1))) (fun h3 => some (0, h3))))
theorem ok_X6_puts {G : GD} {n : Nat} {x1 : Int} {h : Hp} {res : Int × Hp} (hF : fX6_puts x1 h = some res) : Con G yX6_puts cX6_puts 2 none 0 0 0 true [(2, ((35 : Nat) : Int)), (0, x1)] n h (FQ 8 n res) := by
  refine con_of (pad := 0) (own := RX6) (plainFor_of_name (by decide)) rfl rfl ?_
  intro X hC hbt hr hnm hZ hRm hn0
  have hK : ∀ (x9 : Int) (h9 : Hp), res = (x9, h9) → FQ 8 n res (8, x9) n h9 := fun x9 h9 e => by subst e; exact ⟨rfl, rfl, rfl⟩
  unfold fX6_puts at hF
  show AW G X 0 [(2, ((35 : Nat) : Int)), (0, x1)] [] n h 0 0
  refine aw_aload_n hC dX6_puts_0 rfl ?_
  refine aw_gc6 (k := 43) (a := 35) (b := 51) hC hbt dX6_puts_1 lkRX6_65 (by decide) rfl rfl rfl (by decide) (by decide) ?_
  refine aw_aload_n hC dX6_puts_4 rfl ?_
  refine aw_g6i (k := 31) (a := 35) hC dX6_puts_5 lkRX6_202 (by decide) rfl rfl rfl (Or.inl ⟨hbt, by decide⟩) ?_
  refine aw_iload_n hC dX6_puts_8 rfl ?_
  obtain ⟨g1, hF⟩ := gd_some hF
  obtain ⟨h2, eh2, hF⟩ := lb_some hF
  refine aw_iastore (a := 51) hC dX6_puts_9 rfl rfl (Or.inl ⟨hbt, by decide⟩) g1.1 g1.2 ?_
  refine aw_eqH eh2 ?_
  clear eh2
  refine aw_aload_n hC dX6_puts_10 rfl ?_
  refine aw_dup hC dX6_puts_11 (by simp) ?_
  refine aw_g6i (k := 31) (a := 35) hC dX6_puts_12 lkRX6_202 (by decide) rfl rfl rfl (Or.inl ⟨hbt, by decide⟩) ?_
  refine aw_iconst hC dX6_puts_15 (by decide) ?_
  refine aw_iadd hC dX6_puts_16 ?_
  obtain ⟨h3, eh3, hF⟩ := lb_some hF
  refine aw_p6i (k := 31) (a := 35) hC dX6_puts_17 lkRX6_202 (by decide) rfl rfl rfl rfl rfl (Or.inl ⟨hbt, by decide⟩) (fun _ => by decide) ?_
  refine aw_eqH eh3 ?_
  clear eh3
  exact aw_return hC hZ (Nat.zero_le _) (Nat.zero_le _) hr dX6_puts_20 (hK _ _ (Option.some.inj hF).symm)
def fX6_isOpen (x0 : Int) (h : Hp) : Option (Int) :=
  (if x0 < 14 then some 0 else some 1)
theorem ok_X6_isOpen {G : GD} {n : Nat} {x0 : Int} {h : Hp} {res : Int} (hF : fX6_isOpen x0 h = some res) : Con G yX6_isOpen cX6_isOpen 1 (some .boolean) 0 0 0 true [(0, x0)] n h (FQ 0 n (res, h)) := by
  refine con_of (pad := 0) (own := RX6) (plainFor_of_name (by decide)) rfl rfl ?_
  intro X hC hbt hr hnm hZ hRm hn0
  have hK : ∀ (x9 : Int), res = x9 → FQ 0 n (res, h) (0, x9) n h := fun x9 e => by subst e; exact ⟨rfl, rfl, rfl⟩
  unfold fX6_isOpen at hF
  show AW G X 0 [(0, x0)] [] n h 0 0
  refine aw_iload_n hC dX6_isOpen_0 rfl ?_
  refine aw_bipush hC dX6_isOpen_1 (by decide) (by decide) ?_
  refine aw_icmp_lt (tgt := 10) hC dX6_isOpen_3 (by decide) (fun c1 => ?_) (fun c1 => ?_)
  · have hF := it_t hF c1
    refine aw_iconst hC dX6_isOpen_10 (by decide) ?_
    exact aw_zreturn hC hZ (Nat.zero_le _) (Nat.zero_le _) hr rfl dX6_isOpen_11 (by decide) (hK _ (Option.some.inj hF).symm)
  · have hF := it_f hF c1
    refine aw_iconst hC dX6_isOpen_6 (by decide) ?_
    refine aw_goto (tgt := 11) hC dX6_isOpen_7 (by decide) ?_
    exact aw_zreturn hC hZ (Nat.zero_le _) (Nat.zero_le _) hr rfl dX6_isOpen_11 (by decide) (hK _ (Option.some.inj hF).symm)
def fX6_strength (x0 : Int) (h : Hp) : Option (Int) :=
  (if x0 = 5 then some 1 else (if x0 = 4 then some 2 else (if x0 = 3 then some 3 else (if x0 = 6 then some 4 else (if x0 = 7 then some 4 else (if x0 = 8 then some 5 else (if x0 = 9 then some 5 else some 6)))))))
theorem ok_X6_strength {G : GD} {n : Nat} {x0 : Int} {h : Hp} {res : Int} (hF : fX6_strength x0 h = some res) : Con G yX6_strength cX6_strength 1 (some .int) 0 0 0 true [(0, x0)] n h (FQ 0 n (res, h)) := by
  refine con_of (pad := 0) (own := RX6) (plainFor_of_name (by decide)) rfl rfl ?_
  intro X hC hbt hr hnm hZ hRm hn0
  have hK : ∀ (x9 : Int), res = x9 → FQ 0 n (res, h) (0, x9) n h := fun x9 e => by subst e; exact ⟨rfl, rfl, rfl⟩
  unfold fX6_strength at hF
  show AW G X 0 [(0, x0)] [] n h 0 0
  refine aw_iload_n hC dX6_strength_0 rfl ?_
  refine aw_iconst hC dX6_strength_1 (by decide) ?_
  refine aw_icmp_ne (tgt := 9) hC dX6_strength_2 (by decide) (fun c1 => ?_) (fun c1 => ?_)
  · have hF := it_f hF c1
    refine aw_iload_n hC dX6_strength_9 rfl ?_
    refine aw_iconst hC dX6_strength_10 (by decide) ?_
    refine aw_icmp_ne (tgt := 18) hC dX6_strength_11 (by decide) (fun c2 => ?_) (fun c2 => ?_)
    · have hF := it_f hF c2
      refine aw_iload_n hC dX6_strength_18 rfl ?_
      refine aw_iconst hC dX6_strength_19 (by decide) ?_
      refine aw_icmp_ne (tgt := 27) hC dX6_strength_20 (by decide) (fun c3 => ?_) (fun c3 => ?_)
      · have hF := it_f hF c3
        refine aw_iload_n hC dX6_strength_27 rfl ?_
        refine aw_bipush hC dX6_strength_28 (by decide) (by decide) ?_
        refine aw_icmp_eq (tgt := 39) hC dX6_strength_30 (by decide) (fun c4 => ?_) (fun c4 => ?_)
        · have hF := it_t hF c4
          refine aw_iconst hC dX6_strength_39 (by decide) ?_
          refine aw_goto (tgt := 61) hC dX6_strength_40 (by decide) ?_
          exact aw_ireturn hC hZ (Nat.zero_le _) (Nat.zero_le _) hr dX6_strength_61 (hK _ (Option.some.inj hF).symm)
        · have hF := it_f hF c4
          refine aw_iload_n hC dX6_strength_33 rfl ?_
          refine aw_bipush hC dX6_strength_34 (by decide) (by decide) ?_
          refine aw_icmp_ne (tgt := 43) hC dX6_strength_36 (by decide) (fun c5 => ?_) (fun c5 => ?_)
          · have hF := it_f hF c5
            refine aw_iload_n hC dX6_strength_43 rfl ?_
            refine aw_bipush hC dX6_strength_44 (by decide) (by decide) ?_
            refine aw_icmp_eq (tgt := 55) hC dX6_strength_46 (by decide) (fun c6 => ?_) (fun c6 => ?_)
            · have hF := it_t hF c6
              refine aw_iconst hC dX6_strength_55 (by decide) ?_
              refine aw_goto (tgt := 61) hC dX6_strength_56 (by decide) ?_
              exact aw_ireturn hC hZ (Nat.zero_le _) (Nat.zero_le _) hr dX6_strength_61 (hK _ (Option.some.inj hF).symm)
            · have hF := it_f hF c6
              refine aw_iload_n hC dX6_strength_49 rfl ?_
              refine aw_bipush hC dX6_strength_50 (by decide) (by decide) ?_
              refine aw_icmp_ne (tgt := 59) hC dX6_strength_52 (by decide) (fun c7 => ?_) (fun c7 => ?_)
              · have hF := it_f hF c7
                refine aw_bipush hC dX6_strength_59 (by decide) (by decide) ?_
                exact aw_ireturn hC hZ (Nat.zero_le _) (Nat.zero_le _) hr dX6_strength_61 (hK _ (Option.some.inj hF).symm)
              · have hF := it_t hF c7
                refine aw_iconst hC dX6_strength_55 (by decide) ?_
                refine aw_goto (tgt := 61) hC dX6_strength_56 (by decide) ?_
                exact aw_ireturn hC hZ (Nat.zero_le _) (Nat.zero_le _) hr dX6_strength_61 (hK _ (Option.some.inj hF).symm)
          · have hF := it_t hF c5
            refine aw_iconst hC dX6_strength_39 (by decide) ?_
            refine aw_goto (tgt := 61) hC dX6_strength_40 (by decide) ?_
            exact aw_ireturn hC hZ (Nat.zero_le _) (Nat.zero_le _) hr dX6_strength_61 (hK _ (Option.some.inj hF).symm)
      · have hF := it_t hF c3
        refine aw_iconst hC dX6_strength_23 (by decide) ?_
        refine aw_goto (tgt := 61) hC dX6_strength_24 (by decide) ?_
        exact aw_ireturn hC hZ (Nat.zero_le _) (Nat.zero_le _) hr dX6_strength_61 (hK _ (Option.some.inj hF).symm)
    · have hF := it_t hF c2
      refine aw_iconst hC dX6_strength_14 (by decide) ?_
      refine aw_goto (tgt := 61) hC dX6_strength_15 (by decide) ?_
      exact aw_ireturn hC hZ (Nat.zero_le _) (Nat.zero_le _) hr dX6_strength_61 (hK _ (Option.some.inj hF).symm)
  · have hF := it_t hF c1
    refine aw_iconst hC dX6_strength_5 (by decide) ?_
    refine aw_goto (tgt := 61) hC dX6_strength_6 (by decide) ?_
    exact aw_ireturn hC hZ (Nat.zero_le _) (Nat.zero_le _) hr dX6_strength_61 (hK _ (Option.some.inj hF).symm)
def fX6_drops_l0 (x1 : Int) (h : Hp) : Option ((Hp) ⊕ (Hp)) :=
  (if (h 35 32) ≤ 0 then some (.inr h) else gd_ (0 ≤ (i_sub ((h 35 32)) 1) ∧ (i_sub ((h 35 32)) 1) < 950) (bp_ (fX6_isOpen ((h 52 (Int.toNat ((i_sub ((h 35 32)) 1))))) h) (fun r3 => (if r3 = 0 then gd_ (0 ≤ (i_sub ((h 35 32)) 1) ∧ (i_sub ((h 35 32)) 1) < 950) (bp_ (fX6_strength ((h 52 (Int.toNat ((i_sub ((h 35 32)) 1))))) h) (fun r7 => (if r7 < x1 then some (.inr h) else lb_ (st h 35 32 ((i_sub ((h 35 32)) 1))) (fun h10 => gd_ (0 ≤ (h10 35 32) ∧ (h10 35 32) < 950) (bd_ (fX6_puts ((h10 52 (Int.toNat ((h10 35 32))))) h10) (fun r12 h14 => some (.inl h14))))))) else some (.inr h)))))
def fX6_drops (x1 : Int) (h : Hp) : Option (Int × Hp) :=
  bp_ (it_ (fun s => fX6_drops_l0 x1 s) FU h) (fun e15 => (fun h16 => some (0, h16)) e15)
theorem fX6_drops_l0_ok {G : GD} {X : CX} {n : Nat} {Q : Av → Nat → Hp → Prop} (hC : Cx G X RX6 cX6_drops) (hZ : ZOK X G Q 0 0) (hRm : X.R = rmd 1 0 0) (hbt : X.bt = true) (hr : X.meth.sig.returnType = none) {x1 : Int} : ∀ (f : Nat) (h : Hp) (r : Hp), it_ (fun s => fX6_drops_l0 x1 s) f h = some r → (∀ (h9 : Hp), r = h9 → AW G X 68 [(9, 0), (9, 0)] [] n h9 0 0) → AW G X 0 [(2, ((35 : Nat) : Int)), (0, x1)] [] n h 0 0 := by
  intro f
  induction f with
  | zero => intro h r hI; cases hI
  | succ f ih0 =>
    intro h r hI hX
    obtain ⟨b, hF, hb1, hb2⟩ := it_succ hI
    have hF : fX6_drops_l0 x1 h = some b := hF
    unfold fX6_drops_l0 at hF
    refine aw_aload_n hC dX6_drops_0 rfl ?_
    refine aw_g6i (k := 32) (a := 35) hC dX6_drops_1 lkRX6_205 (by decide) rfl rfl rfl (Or.inl ⟨hbt, by decide⟩) ?_
    refine aw_if_le (tgt := 68) hC dX6_drops_4 (by decide) (fun c1 => ?_) (fun c1 => ?_)
    · have hF := it_t hF c1
      refine aw_weak (ls' := [(9, 0), (9, 0)]) ⟨Or.inl rfl, Or.inl rfl, trivial⟩ ?_
      exact hX _ (hb2 _ (Option.some.inj hF).symm).symm
    · have hF := it_f hF c1
      refine aw_aload_n hC dX6_drops_7 rfl ?_
      refine aw_gc6 (k := 44) (a := 35) (b := 52) hC hbt dX6_drops_8 lkRX6_68 (by decide) rfl rfl rfl (by decide) (by decide) ?_
      refine aw_aload_n hC dX6_drops_11 rfl ?_
      refine aw_g6i (k := 32) (a := 35) hC dX6_drops_12 lkRX6_205 (by decide) rfl rfl rfl (Or.inl ⟨hbt, by decide⟩) ?_
      refine aw_iconst hC dX6_drops_15 (by decide) ?_
      refine aw_isub hC dX6_drops_16 ?_
      obtain ⟨g2, hF⟩ := gd_some hF
      refine aw_iaload (a := 52) hC dX6_drops_17 rfl rfl (Or.inl ⟨hbt, by decide⟩) g2.1 g2.2 ?_
      obtain ⟨r3, q4, hF⟩ := bp_some hF
      refine clRX6_208 hC hRm hbt dX6_drops_18 (Nat.le_of_ble_eq_true rfl) (Nat.le_of_ble_eq_true rfl) (ok_X6_isOpen q4) ?_
      refine aw_if_ne (tgt := 68) hC dX6_drops_21 (by decide) (fun c5 => ?_) (fun c5 => ?_)
      · have hF := it_f hF c5
        refine aw_weak (ls' := [(9, 0), (9, 0)]) ⟨Or.inl rfl, Or.inl rfl, trivial⟩ ?_
        exact hX _ (hb2 _ (Option.some.inj hF).symm).symm
      · have hF := it_t hF c5
        refine aw_aload_n hC dX6_drops_24 rfl ?_
        refine aw_gc6 (k := 44) (a := 35) (b := 52) hC hbt dX6_drops_25 lkRX6_68 (by decide) rfl rfl rfl (by decide) (by decide) ?_
        refine aw_aload_n hC dX6_drops_28 rfl ?_
        refine aw_g6i (k := 32) (a := 35) hC dX6_drops_29 lkRX6_205 (by decide) rfl rfl rfl (Or.inl ⟨hbt, by decide⟩) ?_
        refine aw_iconst hC dX6_drops_32 (by decide) ?_
        refine aw_isub hC dX6_drops_33 ?_
        obtain ⟨g6, hF⟩ := gd_some hF
        refine aw_iaload (a := 52) hC dX6_drops_34 rfl rfl (Or.inl ⟨hbt, by decide⟩) g6.1 g6.2 ?_
        obtain ⟨r7, q8, hF⟩ := bp_some hF
        refine clRX6_211 hC hRm hbt dX6_drops_35 (Nat.le_of_ble_eq_true rfl) (Nat.le_of_ble_eq_true rfl) (ok_X6_strength q8) ?_
        refine aw_iload_n hC dX6_drops_38 rfl ?_
        refine aw_icmp_lt (tgt := 68) hC dX6_drops_39 (by decide) (fun c9 => ?_) (fun c9 => ?_)
        · have hF := it_t hF c9
          refine aw_weak (ls' := [(9, 0), (9, 0)]) ⟨Or.inl rfl, Or.inl rfl, trivial⟩ ?_
          exact hX _ (hb2 _ (Option.some.inj hF).symm).symm
        · have hF := it_f hF c9
          refine aw_aload_n hC dX6_drops_42 rfl ?_
          refine aw_dup hC dX6_drops_43 (by simp) ?_
          refine aw_g6i (k := 32) (a := 35) hC dX6_drops_44 lkRX6_205 (by decide) rfl rfl rfl (Or.inl ⟨hbt, by decide⟩) ?_
          refine aw_iconst hC dX6_drops_47 (by decide) ?_
          refine aw_isub hC dX6_drops_48 ?_
          obtain ⟨h10, eh10, hF⟩ := lb_some hF
          refine aw_p6i (k := 32) (a := 35) hC dX6_drops_49 lkRX6_205 (by decide) rfl rfl rfl rfl rfl (Or.inl ⟨hbt, by decide⟩) (fun _ => by decide) ?_
          refine aw_eqH eh10 ?_
          clear eh10
          refine aw_aload_n hC dX6_drops_52 rfl ?_
          refine aw_aload_n hC dX6_drops_53 rfl ?_
          refine aw_gc6 (k := 44) (a := 35) (b := 52) hC hbt dX6_drops_54 lkRX6_68 (by decide) rfl rfl rfl (by decide) (by decide) ?_
          refine aw_aload_n hC dX6_drops_57 rfl ?_
          refine aw_g6i (k := 32) (a := 35) hC dX6_drops_58 lkRX6_205 (by decide) rfl rfl rfl (Or.inl ⟨hbt, by decide⟩) ?_
          obtain ⟨g11, hF⟩ := gd_some hF
          refine aw_iaload (a := 52) hC dX6_drops_61 rfl rfl (Or.inl ⟨hbt, by decide⟩) g11.1 g11.2 ?_
          obtain ⟨r12, h14, q13, hF⟩ := bd_some hF
          refine clRX6_214 hC hRm hbt dX6_drops_62 rfl rfl (by decide) (Nat.le_of_ble_eq_true rfl) (Nat.le_of_ble_eq_true rfl) (ok_X6_puts q13) ?_
          refine aw_goto (tgt := 0) hC dX6_drops_65 (by decide) ?_
          exact ih0 _ r (hb1 _ (Option.some.inj hF).symm) hX
theorem ok_X6_drops {G : GD} {n : Nat} {x1 : Int} {h : Hp} {res : Int × Hp} (hF : fX6_drops x1 h = some res) : Con G yX6_drops cX6_drops 2 none 1 0 0 true [(2, ((35 : Nat) : Int)), (0, x1)] n h (FQ 8 n res) := by
  refine con_of (pad := 0) (own := RX6) (plainFor_of_name (by decide)) rfl rfl ?_
  intro X hC hbt hr hnm hZ hRm hn0
  have hK : ∀ (x9 : Int) (h9 : Hp), res = (x9, h9) → FQ 8 n res (8, x9) n h9 := fun x9 h9 e => by subst e; exact ⟨rfl, rfl, rfl⟩
  unfold fX6_drops at hF
  show AW G X 0 [(2, ((35 : Nat) : Int)), (0, x1)] [] n h 0 0
  obtain ⟨e15, he, hF⟩ := bp_some hF
  refine fX6_drops_l0_ok hC hZ hRm hbt hr FU _ e15 he (fun h16 er => ?_)
  replace er := er.symm
  subst er
  try dsimp only at hF
  exact aw_return hC hZ (Nat.zero_le _) (Nat.zero_le _) hr dX6_drops_68 (hK _ _ (Option.some.inj hF).symm)
def fX6_waitsFor (x1 : Int) (h : Hp) : Option (Int × Hp) :=
  gd_ (0 ≤ (h 35 32) ∧ (h 35 32) < 950) (lb_ (st h 52 (Int.toNat ((h 35 32))) x1) (fun h2 => lb_ (st h2 35 32 ((i_add ((h2 35 32)) 1))) (fun h3 => some (0, h3))))
theorem ok_X6_waitsFor {G : GD} {n : Nat} {x1 : Int} {h : Hp} {res : Int × Hp} (hF : fX6_waitsFor x1 h = some res) : Con G yX6_waitsFor cX6_waitsFor 2 none 0 0 0 true [(2, ((35 : Nat) : Int)), (0, x1)] n h (FQ 8 n res) := by
  refine con_of (pad := 0) (own := RX6) (plainFor_of_name (by decide)) rfl rfl ?_
  intro X hC hbt hr hnm hZ hRm hn0
  have hK : ∀ (x9 : Int) (h9 : Hp), res = (x9, h9) → FQ 8 n res (8, x9) n h9 := fun x9 h9 e => by subst e; exact ⟨rfl, rfl, rfl⟩
  unfold fX6_waitsFor at hF
  show AW G X 0 [(2, ((35 : Nat) : Int)), (0, x1)] [] n h 0 0
  refine aw_aload_n hC dX6_waitsFor_0 rfl ?_
  refine aw_gc6 (k := 44) (a := 35) (b := 52) hC hbt dX6_waitsFor_1 lkRX6_68 (by decide) rfl rfl rfl (by decide) (by decide) ?_
  refine aw_aload_n hC dX6_waitsFor_4 rfl ?_
  refine aw_g6i (k := 32) (a := 35) hC dX6_waitsFor_5 lkRX6_205 (by decide) rfl rfl rfl (Or.inl ⟨hbt, by decide⟩) ?_
  refine aw_iload_n hC dX6_waitsFor_8 rfl ?_
  obtain ⟨g1, hF⟩ := gd_some hF
  obtain ⟨h2, eh2, hF⟩ := lb_some hF
  refine aw_iastore (a := 52) hC dX6_waitsFor_9 rfl rfl (Or.inl ⟨hbt, by decide⟩) g1.1 g1.2 ?_
  refine aw_eqH eh2 ?_
  clear eh2
  refine aw_aload_n hC dX6_waitsFor_10 rfl ?_
  refine aw_dup hC dX6_waitsFor_11 (by simp) ?_
  refine aw_g6i (k := 32) (a := 35) hC dX6_waitsFor_12 lkRX6_205 (by decide) rfl rfl rfl (Or.inl ⟨hbt, by decide⟩) ?_
  refine aw_iconst hC dX6_waitsFor_15 (by decide) ?_
  refine aw_iadd hC dX6_waitsFor_16 ?_
  obtain ⟨h3, eh3, hF⟩ := lb_some hF
  refine aw_p6i (k := 32) (a := 35) hC dX6_waitsFor_17 lkRX6_205 (by decide) rfl rfl rfl rfl rfl (Or.inl ⟨hbt, by decide⟩) (fun _ => by decide) ?_
  refine aw_eqH eh3 ?_
  clear eh3
  exact aw_return hC hZ (Nat.zero_le _) (Nat.zero_le _) hr dX6_waitsFor_20 (hK _ _ (Option.some.inj hF).symm)
def fX6_part_j91  (h : Hp) : Option (Int × Hp) :=
  bp_ (fX6_isGood h) (fun r9 => (if r9 = 0 then some (0, h) else bd_ (fX6_goes h) (fun r12 h14 => some (0, h14))))
def fX6_part_j73 (x1 : Int) (h : Hp) : Option (Int × Hp) :=
  bd_ (fX6_puts 2 h) (fun r21 h23 => bd_ (fX6_puts x1 h23) (fun r24 h26 => fX6_part_j91 h26))
def fX6_part_j68 (x1 : Int) (h : Hp) : Option (Int × Hp) :=
  bd_ (fX6_wrong 3 h) (fun r18 h20 => fX6_part_j73 x1 h20)
def fX6_part_j29  (h : Hp) : Option (Int × Hp) :=
  bd_ (fX6_puts 1 h) (fun r29 h31 => bd_ (fX6_puts ((h31 35 22)) h31) (fun r32 h34 => fX6_part_j91 h34))
def fX6_part  (h : Hp) : Option (Int × Hp) :=
  bp_ (fX6_isGood h) (fun r1 => (if r1 = 0 then some (0, h) else (if (h 35 19) = 2 then (if (h 35 21) ≤ 4 then fX6_part_j29 h else bd_ (fX6_wrong 2 h) (fun r35 h37 => fX6_part_j29 h37)) else (if (h 35 19) = 1 then bp_ (fX6_knownWord h) (fun r15 => (if r15 < 0 then fX6_part_j68 r15 h else (if r15 ≤ 6 then fX6_part_j73 r15 h else fX6_part_j68 r15 h))) else bd_ (fX6_wrong 1 h) (fun r6 h8 => fX6_part_j91 h8)))))
theorem fX6_part_j91_ok {G : GD} {X : CX} {n : Nat} {Q : Av → Nat → Hp → Prop} (hC : Cx G X RX6 cX6_part) (hZ : ZOK X G Q 0 0) (hRm : X.R = rmd 3 0 0) (hbt : X.bt = true) (hr : X.meth.sig.returnType = none)  {h : Hp} {res : Int × Hp} (hF : fX6_part_j91  h = some res) (hK : ∀ (x9 : Int) (h9 : Hp), res = (x9, h9) → Q (8, x9) n h9) : AW G X 91 [(2, ((35 : Nat) : Int)), (9, 0)] [] n h 0 0 := by
  unfold fX6_part_j91 at hF
  refine aw_aload_n hC dX6_part_91 rfl ?_
  obtain ⟨r9, q10, hF⟩ := bp_some hF
  refine clRX6_188 hC hRm hbt dX6_part_92 rfl rfl (by decide) (Nat.le_of_ble_eq_true rfl) (Nat.le_of_ble_eq_true rfl) (ok_X6_isGood q10) ?_
  refine aw_if_eq (tgt := 102) hC dX6_part_95 (by decide) (fun c11 => ?_) (fun c11 => ?_)
  · have hF := it_t hF c11
    exact aw_return hC hZ (Nat.zero_le _) (Nat.zero_le _) hr dX6_part_102 (hK _ _ (Option.some.inj hF).symm)
  · have hF := it_f hF c11
    refine aw_aload_n hC dX6_part_98 rfl ?_
    obtain ⟨r12, h14, q13, hF⟩ := bd_some hF
    refine clRX6_192 hC hRm hbt dX6_part_99 rfl rfl (by decide) (Nat.le_of_ble_eq_true rfl) (Nat.le_of_ble_eq_true rfl) (ok_X6_goes q13) ?_
    exact aw_return hC hZ (Nat.zero_le _) (Nat.zero_le _) hr dX6_part_102 (hK _ _ (Option.some.inj hF).symm)
theorem fX6_part_j73_ok {G : GD} {X : CX} {n : Nat} {Q : Av → Nat → Hp → Prop} (hC : Cx G X RX6 cX6_part) (hZ : ZOK X G Q 0 0) (hRm : X.R = rmd 3 0 0) (hbt : X.bt = true) (hr : X.meth.sig.returnType = none) {x1 : Int} {h : Hp} {res : Int × Hp} (hF : fX6_part_j73 x1 h = some res) (hK : ∀ (x9 : Int) (h9 : Hp), res = (x9, h9) → Q (8, x9) n h9) : AW G X 73 [(2, ((35 : Nat) : Int)), (0, x1)] [] n h 0 0 := by
  unfold fX6_part_j73 at hF
  refine aw_aload_n hC dX6_part_73 rfl ?_
  refine aw_iconst hC dX6_part_74 (by decide) ?_
  obtain ⟨r21, h23, q22, hF⟩ := bd_some hF
  refine clRX6_214 hC hRm hbt dX6_part_75 rfl rfl (by decide) (Nat.le_of_ble_eq_true rfl) (Nat.le_of_ble_eq_true rfl) (ok_X6_puts q22) ?_
  refine aw_aload_n hC dX6_part_78 rfl ?_
  refine aw_iload_n hC dX6_part_79 rfl ?_
  obtain ⟨r24, h26, q25, hF⟩ := bd_some hF
  refine clRX6_214 hC hRm hbt dX6_part_80 rfl rfl (by decide) (Nat.le_of_ble_eq_true rfl) (Nat.le_of_ble_eq_true rfl) (ok_X6_puts q25) ?_
  refine aw_goto (tgt := 91) hC dX6_part_83 (by decide) ?_
  refine aw_weak (ls' := [(2, ((35 : Nat) : Int)), (9, 0)]) ⟨Or.inr rfl, Or.inl rfl, trivial⟩ ?_
  exact fX6_part_j91_ok hC hZ hRm hbt hr hF hK
theorem fX6_part_j68_ok {G : GD} {X : CX} {n : Nat} {Q : Av → Nat → Hp → Prop} (hC : Cx G X RX6 cX6_part) (hZ : ZOK X G Q 0 0) (hRm : X.R = rmd 3 0 0) (hbt : X.bt = true) (hr : X.meth.sig.returnType = none) {x1 : Int} {h : Hp} {res : Int × Hp} (hF : fX6_part_j68 x1 h = some res) (hK : ∀ (x9 : Int) (h9 : Hp), res = (x9, h9) → Q (8, x9) n h9) : AW G X 68 [(2, ((35 : Nat) : Int)), (0, x1)] [] n h 0 0 := by
  unfold fX6_part_j68 at hF
  refine aw_aload_n hC dX6_part_68 rfl ?_
  refine aw_iconst hC dX6_part_69 (by decide) ?_
  obtain ⟨r18, h20, q19, hF⟩ := bd_some hF
  refine clRX6_195 hC hRm hbt dX6_part_70 rfl rfl (by decide) (Nat.le_of_ble_eq_true rfl) (Nat.le_of_ble_eq_true rfl) (ok_X6_wrong q19) ?_
  exact fX6_part_j73_ok hC hZ hRm hbt hr hF hK
theorem fX6_part_j29_ok {G : GD} {X : CX} {n : Nat} {Q : Av → Nat → Hp → Prop} (hC : Cx G X RX6 cX6_part) (hZ : ZOK X G Q 0 0) (hRm : X.R = rmd 3 0 0) (hbt : X.bt = true) (hr : X.meth.sig.returnType = none)  {h : Hp} {res : Int × Hp} (hF : fX6_part_j29  h = some res) (hK : ∀ (x9 : Int) (h9 : Hp), res = (x9, h9) → Q (8, x9) n h9) : AW G X 29 [(2, ((35 : Nat) : Int)), (9, 0)] [] n h 0 0 := by
  unfold fX6_part_j29 at hF
  refine aw_aload_n hC dX6_part_29 rfl ?_
  refine aw_iconst hC dX6_part_30 (by decide) ?_
  obtain ⟨r29, h31, q30, hF⟩ := bd_some hF
  refine clRX6_214 hC hRm hbt dX6_part_31 rfl rfl (by decide) (Nat.le_of_ble_eq_true rfl) (Nat.le_of_ble_eq_true rfl) (ok_X6_puts q30) ?_
  refine aw_aload_n hC dX6_part_34 rfl ?_
  refine aw_aload_n hC dX6_part_35 rfl ?_
  refine aw_g6i (k := 22) (a := 35) hC dX6_part_36 lkRX6_156 (by decide) rfl rfl rfl (Or.inl ⟨hbt, by decide⟩) ?_
  obtain ⟨r32, h34, q33, hF⟩ := bd_some hF
  refine clRX6_214 hC hRm hbt dX6_part_39 rfl rfl (by decide) (Nat.le_of_ble_eq_true rfl) (Nat.le_of_ble_eq_true rfl) (ok_X6_puts q33) ?_
  refine aw_goto (tgt := 91) hC dX6_part_42 (by decide) ?_
  exact fX6_part_j91_ok hC hZ hRm hbt hr hF hK
theorem ok_X6_part {G : GD} {n : Nat}  {h : Hp} {res : Int × Hp} (hF : fX6_part  h = some res) : Con G yX6_part cX6_part 2 none 3 0 0 true [(2, ((35 : Nat) : Int))] n h (FQ 8 n res) := by
  refine con_of (pad := 1) (own := RX6) (plainFor_of_name (by decide)) rfl rfl ?_
  intro X hC hbt hr hnm hZ hRm hn0
  have hK : ∀ (x9 : Int) (h9 : Hp), res = (x9, h9) → FQ 8 n res (8, x9) n h9 := fun x9 h9 e => by subst e; exact ⟨rfl, rfl, rfl⟩
  unfold fX6_part at hF
  show AW G X 0 [(2, ((35 : Nat) : Int)), (9, 0)] [] n h 0 0
  refine aw_aload_n hC dX6_part_0 rfl ?_
  obtain ⟨r1, q2, hF⟩ := bp_some hF
  refine clRX6_188 hC hRm hbt dX6_part_1 rfl rfl (by decide) (Nat.le_of_ble_eq_true rfl) (Nat.le_of_ble_eq_true rfl) (ok_X6_isGood q2) ?_
  refine aw_if_ne (tgt := 8) hC dX6_part_4 (by decide) (fun c3 => ?_) (fun c3 => ?_)
  · have hF := it_f hF c3
    refine aw_aload_n hC dX6_part_8 rfl ?_
    refine aw_g6i (k := 19) (a := 35) hC dX6_part_9 lkRX6_162 (by decide) rfl rfl rfl (Or.inl ⟨hbt, by decide⟩) ?_
    refine aw_iconst hC dX6_part_12 (by decide) ?_
    refine aw_icmp_ne (tgt := 45) hC dX6_part_13 (by decide) (fun c4 => ?_) (fun c4 => ?_)
    · have hF := it_f hF c4
      refine aw_aload_n hC dX6_part_45 rfl ?_
      refine aw_g6i (k := 19) (a := 35) hC dX6_part_46 lkRX6_162 (by decide) rfl rfl rfl (Or.inl ⟨hbt, by decide⟩) ?_
      refine aw_iconst hC dX6_part_49 (by decide) ?_
      refine aw_icmp_ne (tgt := 86) hC dX6_part_50 (by decide) (fun c5 => ?_) (fun c5 => ?_)
      · have hF := it_f hF c5
        refine aw_aload_n hC dX6_part_86 rfl ?_
        refine aw_iconst hC dX6_part_87 (by decide) ?_
        obtain ⟨r6, h8, q7, hF⟩ := bd_some hF
        refine clRX6_195 hC hRm hbt dX6_part_88 rfl rfl (by decide) (Nat.le_of_ble_eq_true rfl) (Nat.le_of_ble_eq_true rfl) (ok_X6_wrong q7) ?_
        exact fX6_part_j91_ok hC hZ hRm hbt hr hF hK
      · have hF := it_t hF c5
        refine aw_aload_n hC dX6_part_53 rfl ?_
        obtain ⟨r15, q16, hF⟩ := bp_some hF
        refine clRX6_217 hC hRm hbt dX6_part_54 rfl rfl (by decide) (Nat.le_of_ble_eq_true rfl) (Nat.le_of_ble_eq_true rfl) (ok_X6_knownWord q16) ?_
        refine aw_istore1 hC dX6_part_57 rfl ?_
        refine aw_iload_n hC dX6_part_58 rfl ?_
        refine aw_if_lt (tgt := 68) hC dX6_part_59 (by decide) (fun c17 => ?_) (fun c17 => ?_)
        · have hF := it_t hF c17
          exact fX6_part_j68_ok hC hZ hRm hbt hr hF hK
        · have hF := it_f hF c17
          refine aw_iload_n hC dX6_part_62 rfl ?_
          refine aw_bipush hC dX6_part_63 (by decide) (by decide) ?_
          refine aw_icmp_le (tgt := 73) hC dX6_part_65 (by decide) (fun c27 => ?_) (fun c27 => ?_)
          · have hF := it_t hF c27
            exact fX6_part_j73_ok hC hZ hRm hbt hr hF hK
          · have hF := it_f hF c27
            exact fX6_part_j68_ok hC hZ hRm hbt hr hF hK
    · have hF := it_t hF c4
      refine aw_aload_n hC dX6_part_16 rfl ?_
      refine aw_g6i (k := 21) (a := 35) hC dX6_part_17 lkRX6_172 (by decide) rfl rfl rfl (Or.inl ⟨hbt, by decide⟩) ?_
      refine aw_iconst hC dX6_part_20 (by decide) ?_
      refine aw_icmp_le (tgt := 29) hC dX6_part_21 (by decide) (fun c28 => ?_) (fun c28 => ?_)
      · have hF := it_t hF c28
        exact fX6_part_j29_ok hC hZ hRm hbt hr hF hK
      · have hF := it_f hF c28
        refine aw_aload_n hC dX6_part_24 rfl ?_
        refine aw_iconst hC dX6_part_25 (by decide) ?_
        obtain ⟨r35, h37, q36, hF⟩ := bd_some hF
        refine clRX6_195 hC hRm hbt dX6_part_26 rfl rfl (by decide) (Nat.le_of_ble_eq_true rfl) (Nat.le_of_ble_eq_true rfl) (ok_X6_wrong q36) ?_
        exact fX6_part_j29_ok hC hZ hRm hbt hr hF hK
  · have hF := it_t hF c3
    exact aw_return hC hZ (Nat.zero_le _) (Nat.zero_le _) hr dX6_part_7 (hK _ _ (Option.some.inj hF).symm)
def fX6_deeper_j61 (z0 : Int) (h : Hp) : Option (Int × Hp) :=
  bd_ (fX6_wrong z0 h) (fun r3 h5 => some (0, h5))
def fX6_deeper_j56  (h : Hp) : Option (Int × Hp) :=
  fX6_deeper_j61 2 h
def fX6_deeper  (h : Hp) : Option (Int × Hp) :=
  (if 6 ≤ (h 35 33) then (if (h 35 19) = 2 then fX6_deeper_j56 h else (if (h 35 19) = 1 then fX6_deeper_j56 h else bp_ (fX6_isSign 40 h) (fun r7 => (if r7 = 0 then fX6_deeper_j61 1 h else fX6_deeper_j56 h)))) else lb_ (st h 35 33 ((i_add ((h 35 33)) 1))) (fun h10 => gd_ (0 ≤ (h10 35 33) ∧ (h10 35 33) < 9) (lb_ (st h10 53 (Int.toNat ((h10 35 33))) 0) (fun h12 => some (0, h12)))))
theorem fX6_deeper_j61_ok {G : GD} {X : CX} {n : Nat} {Q : Av → Nat → Hp → Prop} (hC : Cx G X RX6 cX6_deeper) (hZ : ZOK X G Q 0 0) (hRm : X.R = rmd 1 0 0) (hbt : X.bt = true) (hr : X.meth.sig.returnType = none) {z0 : Int} {h : Hp} {res : Int × Hp} (hF : fX6_deeper_j61 z0 h = some res) (hK : ∀ (x9 : Int) (h9 : Hp), res = (x9, h9) → Q (8, x9) n h9) : AW G X 61 [(9, 0)] [(0, z0), (2, ((35 : Nat) : Int))] n h 0 0 := by
  unfold fX6_deeper_j61 at hF
  obtain ⟨r3, h5, q4, hF⟩ := bd_some hF
  refine clRX6_195 hC hRm hbt dX6_deeper_61 rfl rfl (by decide) (Nat.le_of_ble_eq_true rfl) (Nat.le_of_ble_eq_true rfl) (ok_X6_wrong q4) ?_
  exact aw_return hC hZ (Nat.zero_le _) (Nat.zero_le _) hr dX6_deeper_64 (hK _ _ (Option.some.inj hF).symm)
theorem fX6_deeper_j56_ok {G : GD} {X : CX} {n : Nat} {Q : Av → Nat → Hp → Prop} (hC : Cx G X RX6 cX6_deeper) (hZ : ZOK X G Q 0 0) (hRm : X.R = rmd 1 0 0) (hbt : X.bt = true) (hr : X.meth.sig.returnType = none)  {h : Hp} {res : Int × Hp} (hF : fX6_deeper_j56  h = some res) (hK : ∀ (x9 : Int) (h9 : Hp), res = (x9, h9) → Q (8, x9) n h9) : AW G X 56 [(9, 0)] [(2, ((35 : Nat) : Int))] n h 0 0 := by
  unfold fX6_deeper_j56 at hF
  refine aw_iconst hC dX6_deeper_56 (by decide) ?_
  refine aw_goto (tgt := 61) hC dX6_deeper_57 (by decide) ?_
  exact fX6_deeper_j61_ok hC hZ hRm hbt hr hF hK
theorem ok_X6_deeper {G : GD} {n : Nat}  {h : Hp} {res : Int × Hp} (hF : fX6_deeper  h = some res) : Con G yX6_deeper cX6_deeper 1 none 1 0 0 true [(2, ((35 : Nat) : Int))] n h (FQ 8 n res) := by
  refine con_of (pad := 0) (own := RX6) (plainFor_of_name (by decide)) rfl rfl ?_
  intro X hC hbt hr hnm hZ hRm hn0
  have hK : ∀ (x9 : Int) (h9 : Hp), res = (x9, h9) → FQ 8 n res (8, x9) n h9 := fun x9 h9 e => by subst e; exact ⟨rfl, rfl, rfl⟩
  unfold fX6_deeper at hF
  show AW G X 0 [(2, ((35 : Nat) : Int))] [] n h 0 0
  refine aw_aload_n hC dX6_deeper_0 rfl ?_
  refine aw_g6i (k := 33) (a := 35) hC dX6_deeper_1 lkRX6_221 (by decide) rfl rfl rfl (Or.inl ⟨hbt, by decide⟩) ?_
  refine aw_bipush hC dX6_deeper_4 (by decide) (by decide) ?_
  refine aw_icmp_ge (tgt := 30) hC dX6_deeper_6 (by decide) (fun c1 => ?_) (fun c1 => ?_)
  · have hF := it_t hF c1
    refine aw_aload_n hC dX6_deeper_30 rfl ?_
    refine aw_aload_n hC dX6_deeper_31 rfl ?_
    refine aw_g6i (k := 19) (a := 35) hC dX6_deeper_32 lkRX6_162 (by decide) rfl rfl rfl (Or.inl ⟨hbt, by decide⟩) ?_
    refine aw_iconst hC dX6_deeper_35 (by decide) ?_
    refine aw_icmp_eq (tgt := 56) hC dX6_deeper_36 (by decide) (fun c2 => ?_) (fun c2 => ?_)
    · have hF := it_t hF c2
      refine aw_weak (ls' := [(9, 0)]) ⟨Or.inl rfl, trivial⟩ ?_
      exact fX6_deeper_j56_ok hC hZ hRm hbt hr hF hK
    · have hF := it_f hF c2
      refine aw_aload_n hC dX6_deeper_39 rfl ?_
      refine aw_g6i (k := 19) (a := 35) hC dX6_deeper_40 lkRX6_162 (by decide) rfl rfl rfl (Or.inl ⟨hbt, by decide⟩) ?_
      refine aw_iconst hC dX6_deeper_43 (by decide) ?_
      refine aw_icmp_eq (tgt := 56) hC dX6_deeper_44 (by decide) (fun c6 => ?_) (fun c6 => ?_)
      · have hF := it_t hF c6
        refine aw_weak (ls' := [(9, 0)]) ⟨Or.inl rfl, trivial⟩ ?_
        exact fX6_deeper_j56_ok hC hZ hRm hbt hr hF hK
      · have hF := it_f hF c6
        refine aw_aload_n hC dX6_deeper_47 rfl ?_
        refine aw_bipush hC dX6_deeper_48 (by decide) (by decide) ?_
        obtain ⟨r7, q8, hF⟩ := bp_some hF
        refine clRX6_224 hC hRm hbt dX6_deeper_50 rfl rfl (by decide) (Nat.le_of_ble_eq_true rfl) (Nat.le_of_ble_eq_true rfl) (ok_X6_isSign q8) ?_
        refine aw_if_eq (tgt := 60) hC dX6_deeper_53 (by decide) (fun c9 => ?_) (fun c9 => ?_)
        · have hF := it_t hF c9
          refine aw_iconst hC dX6_deeper_60 (by decide) ?_
          refine aw_weak (ls' := [(9, 0)]) ⟨Or.inl rfl, trivial⟩ ?_
          exact fX6_deeper_j61_ok hC hZ hRm hbt hr hF hK
        · have hF := it_f hF c9
          refine aw_weak (ls' := [(9, 0)]) ⟨Or.inl rfl, trivial⟩ ?_
          exact fX6_deeper_j56_ok hC hZ hRm hbt hr hF hK
  · have hF := it_f hF c1
    refine aw_aload_n hC dX6_deeper_9 rfl ?_
    refine aw_dup hC dX6_deeper_10 (by simp) ?_
    refine aw_g6i (k := 33) (a := 35) hC dX6_deeper_11 lkRX6_221 (by decide) rfl rfl rfl (Or.inl ⟨hbt, by decide⟩) ?_
    refine aw_iconst hC dX6_deeper_14 (by decide) ?_
    refine aw_iadd hC dX6_deeper_15 ?_
    obtain ⟨h10, eh10, hF⟩ := lb_some hF
    refine aw_p6i (k := 33) (a := 35) hC dX6_deeper_16 lkRX6_221 (by decide) rfl rfl rfl rfl rfl (Or.inl ⟨hbt, by decide⟩) (fun _ => by decide) ?_
    refine aw_eqH eh10 ?_
    clear eh10
    refine aw_aload_n hC dX6_deeper_19 rfl ?_
    refine aw_gc6 (k := 45) (a := 35) (b := 53) hC hbt dX6_deeper_20 lkRX6_71 (by decide) rfl rfl rfl (by decide) (by decide) ?_
    refine aw_aload_n hC dX6_deeper_23 rfl ?_
    refine aw_g6i (k := 33) (a := 35) hC dX6_deeper_24 lkRX6_221 (by decide) rfl rfl rfl (Or.inl ⟨hbt, by decide⟩) ?_
    refine aw_iconst hC dX6_deeper_27 (by decide) ?_
    obtain ⟨g11, hF⟩ := gd_some hF
    obtain ⟨h12, eh12, hF⟩ := lb_some hF
    refine aw_zastore (a := 53) hC dX6_deeper_28 rfl rfl (Or.inl ⟨hbt, by decide⟩) g11.1 g11.2 (by decide) ?_
    refine aw_eqH eh12 ?_
    clear eh12
    exact aw_return hC hZ (Nat.zero_le _) (Nat.zero_le _) hr dX6_deeper_29 (hK _ _ (Option.some.inj hF).symm)
def fX6_operand_j50 (x2 : Int) (x4 : Int) (h : Hp) : Option ((Int × Hp) ⊕ (Hp)) :=
  bp_ (fX6_isGood h) (fun r14 => (if r14 = 0 then some (.inl ((i_add x4 1), h)) else bd_ (fX6_waitsFor 3 h) (fun r17 h19 => bd_ (fX6_goes h19) (fun r20 h22 => some (.inl ((i_add x4 1), h22))))))
def fX6_operand_l18 (x2 : Int) (x4 : Int) (h : Hp) : Option ((Int × Hp) ⊕ (Hp)) :=
  bp_ (fX6_isGood h) (fun r5 => (if r5 = 0 then some (.inr h) else (if x2 = 0 then some (.inr h) else bp_ (fX6_knownWord h) (fun r9 => (if r9 = 16 then (if x4 = 6 then bd_ (fX6_wrong 2 h) (fun r23 h25 => fX6_operand_j50 x2 x4 h25) else fX6_operand_j50 x2 x4 h) else some (.inr h))))))
def fX6_operand_j96 (x2 : Int) (z0 : Int) (h : Hp) : Option ((Int × Int × Hp) ⊕ (Hp)) :=
  (if z0 = 0 then some (.inl (x2, z0, h)) else bd_ (fX6_waitsFor 14 h) (fun r32 h34 => bd_ (fX6_goes h34) (fun r35 h37 => bd_ (fX6_deeper h37) (fun r38 h40 => some (.inl (1, z0, h40))))))
def fX6_operand_j95 (x2 : Int) (h : Hp) : Option ((Int × Int × Hp) ⊕ (Hp)) :=
  fX6_operand_j96 x2 0 h
def fX6_operand_j75 (x2 : Int) (h : Hp) : Option ((Int × Int × Hp) ⊕ (Hp)) :=
  bp_ (fX6_isGood h) (fun r28 => (if r28 = 0 then fX6_operand_j95 x2 h else bp_ (fX6_isSign 40 h) (fun r41 => (if r41 = 0 then fX6_operand_j95 x2 h else fX6_operand_j96 x2 1 h))))
def fX6_operand_l4 (x2 : Int) (x3 : Int) (h : Hp) : Option ((Int × Int × Hp) ⊕ (Hp)) :=
  (if x3 = 0 then some (.inr h) else bp_ (fX6_isGood h) (fun r2 => (if r2 = 0 then some (.inr h) else bp_ (it_ (fun s => fX6_operand_l18 x2 s.1 s.2) FU (0, h)) (fun e26 => (fun h27 => fX6_operand_j75 x2 h27) e26))))
def fX6_operand_j120  (h : Hp) : Option (Int × Hp) :=
  bd_ (fX6_part h) (fun r46 h48 => some (0, h48))
def fX6_operand (x1 : Int) (h : Hp) : Option (Int × Hp) :=
  bp_ (it_ (fun s => fX6_operand_l4 s.1 s.2.1 s.2.2) FU (x1, 1, h)) (fun e44 => (fun h45 => fX6_operand_j120 h45) e44)
theorem fX6_operand_j50_ok {G : GD} {X : CX} {n : Nat} {Q : Av → Nat → Hp → Prop} (hC : Cx G X RX6 cX6_operand) (hZ : ZOK X G Q 0 0) (hRm : X.R = rmd 4 0 0) (hbt : X.bt = true) (hr : X.meth.sig.returnType = none) {x2 : Int} {x4 : Int} {h : Hp} {b : (Int × Hp) ⊕ (Hp)} (hF : fX6_operand_j50 x2 x4 h = some b) (hL9 : ∀ (u4 : Int) (h9 : Hp), b = .inl (u4, h9) → AW G X 18 [(2, ((35 : Nat) : Int)), (9, 0), (0, x2), (9, 0), (0, u4)] [] n h9 0 0) (hX9 : ∀ (h9 : Hp), b = .inr h9 → AW G X 75 [(2, ((35 : Nat) : Int)), (9, 0), (0, x2), (9, 0), (9, 0)] [] n h9 0 0) : AW G X 50 [(2, ((35 : Nat) : Int)), (9, 0), (0, x2), (9, 0), (0, x4)] [] n h 0 0 := by
  unfold fX6_operand_j50 at hF
  refine aw_iinc4 hC dX6_operand_50 rfl ?_
  refine aw_aload_n hC dX6_operand_53 rfl ?_
  obtain ⟨r14, q15, hF⟩ := bp_some hF
  refine clRX6_188 hC hRm hbt dX6_operand_54 rfl rfl (by decide) (Nat.le_of_ble_eq_true rfl) (Nat.le_of_ble_eq_true rfl) (ok_X6_isGood q15) ?_
  refine aw_if_ne (tgt := 63) hC dX6_operand_57 (by decide) (fun c16 => ?_) (fun c16 => ?_)
  · have hF := it_f hF c16
    refine aw_aload_n hC dX6_operand_63 rfl ?_
    refine aw_iconst hC dX6_operand_64 (by decide) ?_
    obtain ⟨r17, h19, q18, hF⟩ := bd_some hF
    refine clRX6_227 hC hRm hbt dX6_operand_65 rfl rfl (by decide) (Nat.le_of_ble_eq_true rfl) (Nat.le_of_ble_eq_true rfl) (ok_X6_waitsFor q18) ?_
    refine aw_aload_n hC dX6_operand_68 rfl ?_
    obtain ⟨r20, h22, q21, hF⟩ := bd_some hF
    refine clRX6_192 hC hRm hbt dX6_operand_69 rfl rfl (by decide) (Nat.le_of_ble_eq_true rfl) (Nat.le_of_ble_eq_true rfl) (ok_X6_goes q21) ?_
    refine aw_goto (tgt := 18) hC dX6_operand_72 (by decide) ?_
    exact hL9 _ _ (Option.some.inj hF).symm
  · have hF := it_t hF c16
    refine aw_goto (tgt := 18) hC dX6_operand_60 (by decide) ?_
    exact hL9 _ _ (Option.some.inj hF).symm
theorem fX6_operand_l18_ok {G : GD} {X : CX} {n : Nat} {Q : Av → Nat → Hp → Prop} (hC : Cx G X RX6 cX6_operand) (hZ : ZOK X G Q 0 0) (hRm : X.R = rmd 4 0 0) (hbt : X.bt = true) (hr : X.meth.sig.returnType = none) {x2 : Int} : ∀ (f : Nat) (x4 : Int) (h : Hp) (r : Hp), it_ (fun s => fX6_operand_l18 x2 s.1 s.2) f (x4, h) = some r → (∀ (h9 : Hp), r = h9 → AW G X 75 [(2, ((35 : Nat) : Int)), (9, 0), (0, x2), (9, 0), (9, 0)] [] n h9 0 0) → AW G X 18 [(2, ((35 : Nat) : Int)), (9, 0), (0, x2), (9, 0), (0, x4)] [] n h 0 0 := by
  intro f
  induction f with
  | zero => intro x4 h r hI; cases hI
  | succ f ih0 =>
    intro x4 h r hI hX
    obtain ⟨b, hF, hb1, hb2⟩ := it_succ hI
    have hF : fX6_operand_l18 x2 x4 h = some b := hF
    unfold fX6_operand_l18 at hF
    refine aw_aload_n hC dX6_operand_18 rfl ?_
    obtain ⟨r5, q6, hF⟩ := bp_some hF
    refine clRX6_188 hC hRm hbt dX6_operand_19 rfl rfl (by decide) (Nat.le_of_ble_eq_true rfl) (Nat.le_of_ble_eq_true rfl) (ok_X6_isGood q6) ?_
    refine aw_if_eq (tgt := 75) hC dX6_operand_22 (by decide) (fun c7 => ?_) (fun c7 => ?_)
    · have hF := it_t hF c7
      refine aw_weak (ls' := [(2, ((35 : Nat) : Int)), (9, 0), (0, x2), (9, 0), (9, 0)]) ⟨Or.inr rfl, Or.inl rfl, Or.inr rfl, Or.inl rfl, Or.inl rfl, trivial⟩ ?_
      exact hX _ (hb2 _ (Option.some.inj hF).symm).symm
    · have hF := it_f hF c7
      refine aw_iload_n hC dX6_operand_25 rfl ?_
      refine aw_if_eq (tgt := 75) hC dX6_operand_26 (by decide) (fun c8 => ?_) (fun c8 => ?_)
      · have hF := it_t hF c8
        refine aw_weak (ls' := [(2, ((35 : Nat) : Int)), (9, 0), (0, x2), (9, 0), (9, 0)]) ⟨Or.inr rfl, Or.inl rfl, Or.inr rfl, Or.inl rfl, Or.inl rfl, trivial⟩ ?_
        exact hX _ (hb2 _ (Option.some.inj hF).symm).symm
      · have hF := it_f hF c8
        refine aw_aload_n hC dX6_operand_29 rfl ?_
        obtain ⟨r9, q10, hF⟩ := bp_some hF
        refine clRX6_217 hC hRm hbt dX6_operand_30 rfl rfl (by decide) (Nat.le_of_ble_eq_true rfl) (Nat.le_of_ble_eq_true rfl) (ok_X6_knownWord q10) ?_
        refine aw_bipush hC dX6_operand_33 (by decide) (by decide) ?_
        refine aw_icmp_ne (tgt := 75) hC dX6_operand_35 (by decide) (fun c11 => ?_) (fun c11 => ?_)
        · have hF := it_f hF c11
          refine aw_weak (ls' := [(2, ((35 : Nat) : Int)), (9, 0), (0, x2), (9, 0), (9, 0)]) ⟨Or.inr rfl, Or.inl rfl, Or.inr rfl, Or.inl rfl, Or.inl rfl, trivial⟩ ?_
          exact hX _ (hb2 _ (Option.some.inj hF).symm).symm
        · have hF := it_t hF c11
          refine aw_iload hC dX6_operand_38 rfl ?_
          refine aw_bipush hC dX6_operand_40 (by decide) (by decide) ?_
          refine aw_icmp_ne (tgt := 50) hC dX6_operand_42 (by decide) (fun c12 => ?_) (fun c12 => ?_)
          · have hF := it_f hF c12
            exact fX6_operand_j50_ok hC hZ hRm hbt hr hF (fun u0 u1 e => ih0 u0 u1 r (hb1 _ e) hX) (fun w0 e => hX w0 (hb2 _ e).symm)
          · have hF := it_t hF c12
            refine aw_aload_n hC dX6_operand_45 rfl ?_
            refine aw_iconst hC dX6_operand_46 (by decide) ?_
            obtain ⟨r23, h25, q24, hF⟩ := bd_some hF
            refine clRX6_195 hC hRm hbt dX6_operand_47 rfl rfl (by decide) (Nat.le_of_ble_eq_true rfl) (Nat.le_of_ble_eq_true rfl) (ok_X6_wrong q24) ?_
            exact fX6_operand_j50_ok hC hZ hRm hbt hr hF (fun u0 u1 e => ih0 u0 u1 r (hb1 _ e) hX) (fun w0 e => hX w0 (hb2 _ e).symm)
theorem fX6_operand_j96_ok {G : GD} {X : CX} {n : Nat} {Q : Av → Nat → Hp → Prop} (hC : Cx G X RX6 cX6_operand) (hZ : ZOK X G Q 0 0) (hRm : X.R = rmd 4 0 0) (hbt : X.bt = true) (hr : X.meth.sig.returnType = none) {x2 : Int} {z0 : Int} {h : Hp} {b : (Int × Int × Hp) ⊕ (Hp)} (hF : fX6_operand_j96 x2 z0 h = some b) (hL9 : ∀ (u2 : Int) (u3 : Int) (h9 : Hp), b = .inl (u2, u3, h9) → AW G X 4 [(2, ((35 : Nat) : Int)), (9, 0), (0, u2), (0, u3), (9, 0)] [] n h9 0 0) (hX9 : ∀ (h9 : Hp), b = .inr h9 → AW G X 120 [(2, ((35 : Nat) : Int)), (9, 0), (9, 0), (9, 0), (9, 0)] [] n h9 0 0) : AW G X 96 [(2, ((35 : Nat) : Int)), (9, 0), (0, x2), (9, 0), (9, 0)] [(0, z0)] n h 0 0 := by
  unfold fX6_operand_j96 at hF
  refine aw_istore3 hC dX6_operand_96 rfl ?_
  refine aw_iload_n hC dX6_operand_97 rfl ?_
  refine aw_if_eq (tgt := 117) hC dX6_operand_98 (by decide) (fun c31 => ?_) (fun c31 => ?_)
  · have hF := it_t hF c31
    refine aw_goto (tgt := 4) hC dX6_operand_117 (by decide) ?_
    exact hL9 _ _ _ (Option.some.inj hF).symm
  · have hF := it_f hF c31
    refine aw_aload_n hC dX6_operand_101 rfl ?_
    refine aw_bipush hC dX6_operand_102 (by decide) (by decide) ?_
    obtain ⟨r32, h34, q33, hF⟩ := bd_some hF
    refine clRX6_227 hC hRm hbt dX6_operand_104 rfl rfl (by decide) (Nat.le_of_ble_eq_true rfl) (Nat.le_of_ble_eq_true rfl) (ok_X6_waitsFor q33) ?_
    refine aw_aload_n hC dX6_operand_107 rfl ?_
    obtain ⟨r35, h37, q36, hF⟩ := bd_some hF
    refine clRX6_192 hC hRm hbt dX6_operand_108 rfl rfl (by decide) (Nat.le_of_ble_eq_true rfl) (Nat.le_of_ble_eq_true rfl) (ok_X6_goes q36) ?_
    refine aw_aload_n hC dX6_operand_111 rfl ?_
    obtain ⟨r38, h40, q39, hF⟩ := bd_some hF
    refine clRX6_230 hC hRm hbt dX6_operand_112 rfl rfl (by decide) (Nat.le_of_ble_eq_true rfl) (Nat.le_of_ble_eq_true rfl) (ok_X6_deeper q39) ?_
    refine aw_iconst hC dX6_operand_115 (by decide) ?_
    refine aw_istore2 hC dX6_operand_116 rfl ?_
    refine aw_goto (tgt := 4) hC dX6_operand_117 (by decide) ?_
    exact hL9 _ _ _ (Option.some.inj hF).symm
theorem fX6_operand_j95_ok {G : GD} {X : CX} {n : Nat} {Q : Av → Nat → Hp → Prop} (hC : Cx G X RX6 cX6_operand) (hZ : ZOK X G Q 0 0) (hRm : X.R = rmd 4 0 0) (hbt : X.bt = true) (hr : X.meth.sig.returnType = none) {x2 : Int} {h : Hp} {b : (Int × Int × Hp) ⊕ (Hp)} (hF : fX6_operand_j95 x2 h = some b) (hL9 : ∀ (u2 : Int) (u3 : Int) (h9 : Hp), b = .inl (u2, u3, h9) → AW G X 4 [(2, ((35 : Nat) : Int)), (9, 0), (0, u2), (0, u3), (9, 0)] [] n h9 0 0) (hX9 : ∀ (h9 : Hp), b = .inr h9 → AW G X 120 [(2, ((35 : Nat) : Int)), (9, 0), (9, 0), (9, 0), (9, 0)] [] n h9 0 0) : AW G X 95 [(2, ((35 : Nat) : Int)), (9, 0), (0, x2), (9, 0), (9, 0)] [] n h 0 0 := by
  unfold fX6_operand_j95 at hF
  refine aw_iconst hC dX6_operand_95 (by decide) ?_
  exact fX6_operand_j96_ok hC hZ hRm hbt hr hF (fun u0 u1 u2 e => hL9 u0 u1 u2 e) (fun w0 e => hX9 w0 e)
theorem fX6_operand_j75_ok {G : GD} {X : CX} {n : Nat} {Q : Av → Nat → Hp → Prop} (hC : Cx G X RX6 cX6_operand) (hZ : ZOK X G Q 0 0) (hRm : X.R = rmd 4 0 0) (hbt : X.bt = true) (hr : X.meth.sig.returnType = none) {x2 : Int} {h : Hp} {b : (Int × Int × Hp) ⊕ (Hp)} (hF : fX6_operand_j75 x2 h = some b) (hL9 : ∀ (u2 : Int) (u3 : Int) (h9 : Hp), b = .inl (u2, u3, h9) → AW G X 4 [(2, ((35 : Nat) : Int)), (9, 0), (0, u2), (0, u3), (9, 0)] [] n h9 0 0) (hX9 : ∀ (h9 : Hp), b = .inr h9 → AW G X 120 [(2, ((35 : Nat) : Int)), (9, 0), (9, 0), (9, 0), (9, 0)] [] n h9 0 0) : AW G X 75 [(2, ((35 : Nat) : Int)), (9, 0), (0, x2), (9, 0), (9, 0)] [] n h 0 0 := by
  unfold fX6_operand_j75 at hF
  refine aw_aload_n hC dX6_operand_75 rfl ?_
  obtain ⟨r28, q29, hF⟩ := bp_some hF
  refine clRX6_188 hC hRm hbt dX6_operand_76 rfl rfl (by decide) (Nat.le_of_ble_eq_true rfl) (Nat.le_of_ble_eq_true rfl) (ok_X6_isGood q29) ?_
  refine aw_if_eq (tgt := 95) hC dX6_operand_79 (by decide) (fun c30 => ?_) (fun c30 => ?_)
  · have hF := it_t hF c30
    exact fX6_operand_j95_ok hC hZ hRm hbt hr hF (fun u0 u1 u2 e => hL9 u0 u1 u2 e) (fun w0 e => hX9 w0 e)
  · have hF := it_f hF c30
    refine aw_aload_n hC dX6_operand_82 rfl ?_
    refine aw_bipush hC dX6_operand_83 (by decide) (by decide) ?_
    obtain ⟨r41, q42, hF⟩ := bp_some hF
    refine clRX6_224 hC hRm hbt dX6_operand_85 rfl rfl (by decide) (Nat.le_of_ble_eq_true rfl) (Nat.le_of_ble_eq_true rfl) (ok_X6_isSign q42) ?_
    refine aw_if_eq (tgt := 95) hC dX6_operand_88 (by decide) (fun c43 => ?_) (fun c43 => ?_)
    · have hF := it_t hF c43
      exact fX6_operand_j95_ok hC hZ hRm hbt hr hF (fun u0 u1 u2 e => hL9 u0 u1 u2 e) (fun w0 e => hX9 w0 e)
    · have hF := it_f hF c43
      refine aw_iconst hC dX6_operand_91 (by decide) ?_
      refine aw_goto (tgt := 96) hC dX6_operand_92 (by decide) ?_
      exact fX6_operand_j96_ok hC hZ hRm hbt hr hF (fun u0 u1 u2 e => hL9 u0 u1 u2 e) (fun w0 e => hX9 w0 e)
theorem fX6_operand_l4_ok {G : GD} {X : CX} {n : Nat} {Q : Av → Nat → Hp → Prop} (hC : Cx G X RX6 cX6_operand) (hZ : ZOK X G Q 0 0) (hRm : X.R = rmd 4 0 0) (hbt : X.bt = true) (hr : X.meth.sig.returnType = none)  : ∀ (f : Nat) (x2 : Int) (x3 : Int) (h : Hp) (r : Hp), it_ (fun s => fX6_operand_l4 s.1 s.2.1 s.2.2) f (x2, x3, h) = some r → (∀ (h9 : Hp), r = h9 → AW G X 120 [(2, ((35 : Nat) : Int)), (9, 0), (9, 0), (9, 0), (9, 0)] [] n h9 0 0) → AW G X 4 [(2, ((35 : Nat) : Int)), (9, 0), (0, x2), (0, x3), (9, 0)] [] n h 0 0 := by
  intro f
  induction f with
  | zero => intro x2 x3 h r hI; cases hI
  | succ f ih0 =>
    intro x2 x3 h r hI hX
    obtain ⟨b, hF, hb1, hb2⟩ := it_succ hI
    have hF : fX6_operand_l4 x2 x3 h = some b := hF
    unfold fX6_operand_l4 at hF
    refine aw_iload_n hC dX6_operand_4 rfl ?_
    refine aw_if_eq (tgt := 120) hC dX6_operand_5 (by decide) (fun c1 => ?_) (fun c1 => ?_)
    · have hF := it_t hF c1
      refine aw_weak (ls' := [(2, ((35 : Nat) : Int)), (9, 0), (9, 0), (9, 0), (9, 0)]) ⟨Or.inr rfl, Or.inl rfl, Or.inl rfl, Or.inl rfl, Or.inl rfl, trivial⟩ ?_
      exact hX _ (hb2 _ (Option.some.inj hF).symm).symm
    · have hF := it_f hF c1
      refine aw_aload_n hC dX6_operand_8 rfl ?_
      obtain ⟨r2, q3, hF⟩ := bp_some hF
      refine clRX6_188 hC hRm hbt dX6_operand_9 rfl rfl (by decide) (Nat.le_of_ble_eq_true rfl) (Nat.le_of_ble_eq_true rfl) (ok_X6_isGood q3) ?_
      refine aw_if_eq (tgt := 120) hC dX6_operand_12 (by decide) (fun c4 => ?_) (fun c4 => ?_)
      · have hF := it_t hF c4
        refine aw_weak (ls' := [(2, ((35 : Nat) : Int)), (9, 0), (9, 0), (9, 0), (9, 0)]) ⟨Or.inr rfl, Or.inl rfl, Or.inl rfl, Or.inl rfl, Or.inl rfl, trivial⟩ ?_
        exact hX _ (hb2 _ (Option.some.inj hF).symm).symm
      · have hF := it_f hF c4
        refine aw_iconst hC dX6_operand_15 (by decide) ?_
        refine aw_istore4 hC dX6_operand_16 rfl ?_
        refine aw_weak (ls' := [(2, ((35 : Nat) : Int)), (9, 0), (0, x2), (9, 0), (0, 0)]) ⟨Or.inr rfl, Or.inl rfl, Or.inr rfl, Or.inl rfl, Or.inr rfl, trivial⟩ ?_
        obtain ⟨e26, he, hF⟩ := bp_some hF
        refine fX6_operand_l18_ok hC hZ hRm hbt hr FU _ _ e26 he (fun h27 er => ?_)
        replace er := er.symm
        subst er
        try dsimp only at hF
        exact fX6_operand_j75_ok hC hZ hRm hbt hr hF (fun u0 u1 u2 e => ih0 u0 u1 u2 r (hb1 _ e) hX) (fun w0 e => hX w0 (hb2 _ e).symm)
theorem fX6_operand_j120_ok {G : GD} {X : CX} {n : Nat} {Q : Av → Nat → Hp → Prop} (hC : Cx G X RX6 cX6_operand) (hZ : ZOK X G Q 0 0) (hRm : X.R = rmd 4 0 0) (hbt : X.bt = true) (hr : X.meth.sig.returnType = none)  {h : Hp} {res : Int × Hp} (hF : fX6_operand_j120  h = some res) (hK : ∀ (x9 : Int) (h9 : Hp), res = (x9, h9) → Q (8, x9) n h9) : AW G X 120 [(2, ((35 : Nat) : Int)), (9, 0), (9, 0), (9, 0), (9, 0)] [] n h 0 0 := by
  unfold fX6_operand_j120 at hF
  refine aw_aload_n hC dX6_operand_120 rfl ?_
  obtain ⟨r46, h48, q47, hF⟩ := bd_some hF
  refine clRX6_233 hC hRm hbt dX6_operand_121 rfl rfl (by decide) (Nat.le_of_ble_eq_true rfl) (Nat.le_of_ble_eq_true rfl) (ok_X6_part q47) ?_
  exact aw_return hC hZ (Nat.zero_le _) (Nat.zero_le _) hr dX6_operand_124 (hK _ _ (Option.some.inj hF).symm)
theorem ok_X6_operand {G : GD} {n : Nat} {x1 : Int} {h : Hp} {res : Int × Hp} (hF : fX6_operand x1 h = some res) : Con G yX6_operand cX6_operand 5 none 4 0 0 true [(2, ((35 : Nat) : Int)), (0, x1)] n h (FQ 8 n res) := by
  refine con_of (pad := 3) (own := RX6) (plainFor_of_name (by decide)) rfl rfl ?_
  intro X hC hbt hr hnm hZ hRm hn0
  have hK : ∀ (x9 : Int) (h9 : Hp), res = (x9, h9) → FQ 8 n res (8, x9) n h9 := fun x9 h9 e => by subst e; exact ⟨rfl, rfl, rfl⟩
  unfold fX6_operand at hF
  show AW G X 0 [(2, ((35 : Nat) : Int)), (0, x1), (9, 0), (9, 0), (9, 0)] [] n h 0 0
  refine aw_iload_n hC dX6_operand_0 rfl ?_
  refine aw_istore2 hC dX6_operand_1 rfl ?_
  refine aw_iconst hC dX6_operand_2 (by decide) ?_
  refine aw_istore3 hC dX6_operand_3 rfl ?_
  refine aw_weak (ls' := [(2, ((35 : Nat) : Int)), (9, 0), (0, x1), (0, 1), (9, 0)]) ⟨Or.inr rfl, Or.inl rfl, Or.inr rfl, Or.inr rfl, Or.inl rfl, trivial⟩ ?_
  obtain ⟨e44, he, hF⟩ := bp_some hF
  refine fX6_operand_l4_ok hC hZ hRm hbt hr FU _ _ _ e44 he (fun h45 er => ?_)
  replace er := er.symm
  subst er
  try dsimp only at hF
  exact fX6_operand_j120_ok hC hZ hRm hbt hr hF hK
