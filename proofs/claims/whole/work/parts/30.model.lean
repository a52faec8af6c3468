def fX6_copies_54_55_l2 (x3 : Int) (h : Hp) : Option ((Int × Hp) ⊕ (Hp)) :=
  (if ((62 : Nat) : Int) ≤ x3 then some (.inr h) else gd_ (0 ≤ x3 ∧ x3 < 62) (gd_ (0 ≤ x3 ∧ x3 < 62) (lb_ (st h 55 (Int.toNat x3) ((h 54 (Int.toNat x3)))) (fun h4 => some (.inl ((i_add x3 1), h4))))))
def fX6_copies_54_55  (h : Hp) : Option (Int × Hp) :=
  bp_ (it_ (fun s => fX6_copies_54_55_l2 s.1 s.2) FU (0, h)) (fun e6 => (fun h7 => some (0, h7)) e6)
theorem fX6_copies_54_55_l2_ok {G : GD} {X : CX} {n : Nat} {Q : Av → Nat → Hp → Prop} (hC : Cx G X RX6 cX6_copies) (hZ : ZOK X G Q 0 0) (hRm : X.R = rmd 0 0 0) (hbt : X.bt = true) (hr : X.meth.sig.returnType = none)  : ∀ (f : Nat) (x3 : Int) (h : Hp) (r : Hp), it_ (fun s => fX6_copies_54_55_l2 s.1 s.2) f (x3, h) = some r → (∀ (h9 : Hp), r = h9 → AW G X 20 [(9, 0), (9, 0), (9, 0), (9, 0)] [] n h9 0 0) → AW G X 2 [(9, 0), (2, ((54 : Nat) : Int)), (2, ((55 : Nat) : Int)), (0, x3)] [] n h 0 0 := by
  intro f
  induction f with
  | zero => intro x3 h r hI; cases hI
  | succ f ih0 =>
    intro x3 h r hI hX
    obtain ⟨b, hF, hb1, hb2⟩ := it_succ hI
    have hF : fX6_copies_54_55_l2 x3 h = some b := hF
    unfold fX6_copies_54_55_l2 at hF
    refine aw_iload_n hC dX6_copies_2 rfl ?_
    refine aw_aload_n hC dX6_copies_3 rfl ?_
    refine aw_alen (a := 54) hC dX6_copies_4 rfl rfl (by decide) (by decide) (Or.inl ⟨hbt, by decide⟩) ?_
    refine aw_icmp_ge (tgt := 20) hC dX6_copies_5 (by decide) (fun c1 => ?_) (fun c1 => ?_)
    · have hF := it_t hF c1
      refine aw_weak (ls' := [(9, 0), (9, 0), (9, 0), (9, 0)]) ⟨Or.inl rfl, Or.inl rfl, Or.inl rfl, Or.inl rfl, trivial⟩ ?_
      exact hX _ (hb2 _ (Option.some.inj hF).symm).symm
    · have hF := it_f hF c1
      refine aw_aload_n hC dX6_copies_8 rfl ?_
      refine aw_iload_n hC dX6_copies_9 rfl ?_
      refine aw_aload_n hC dX6_copies_10 rfl ?_
      refine aw_iload_n hC dX6_copies_11 rfl ?_
      obtain ⟨g2, hF⟩ := gd_some hF
      refine aw_iaload (a := 54) hC dX6_copies_12 rfl rfl (Or.inl ⟨hbt, by decide⟩) g2.1 g2.2 ?_
      obtain ⟨g3, hF⟩ := gd_some hF
      obtain ⟨h4, eh4, hF⟩ := lb_some hF
      refine aw_iastore (a := 55) hC dX6_copies_13 rfl rfl (Or.inl ⟨hbt, by decide⟩) g3.1 g3.2 ?_
      refine aw_eqH eh4 ?_
      clear eh4
      refine aw_iinc3 hC dX6_copies_14 rfl ?_
      refine aw_goto (tgt := 2) hC dX6_copies_17 (by decide) ?_
      exact ih0 _ _ r (hb1 _ (Option.some.inj hF).symm) hX
theorem ok_X6_copies_54_55 {G : GD} {n : Nat}  {h : Hp} {res : Int × Hp} (hF : fX6_copies_54_55  h = some res) : Con G yX6_copies cX6_copies 4 none 0 0 0 true [(2, ((35 : Nat) : Int)), (2, ((54 : Nat) : Int)), (2, ((55 : Nat) : Int))] n h (FQ 8 n res) := by
  refine con_of (pad := 1) (own := RX6) (plainFor_of_name (by decide)) rfl rfl ?_
  intro X hC hbt hr hnm hZ hRm hn0
  have hK : ∀ (x9 : Int) (h9 : Hp), res = (x9, h9) → FQ 8 n res (8, x9) n h9 := fun x9 h9 e => by subst e; exact ⟨rfl, rfl, rfl⟩
  unfold fX6_copies_54_55 at hF
  show AW G X 0 [(2, ((35 : Nat) : Int)), (2, ((54 : Nat) : Int)), (2, ((55 : Nat) : Int)), (9, 0)] [] n h 0 0
  refine aw_iconst hC dX6_copies_0 (by decide) ?_
  refine aw_istore3 hC dX6_copies_1 rfl ?_
  refine aw_weak (ls' := [(9, 0), (2, ((54 : Nat) : Int)), (2, ((55 : Nat) : Int)), (0, 0)]) ⟨Or.inl rfl, Or.inr rfl, Or.inr rfl, Or.inr rfl, trivial⟩ ?_
  obtain ⟨e6, he, hF⟩ := bp_some hF
  refine fX6_copies_54_55_l2_ok hC hZ hRm hbt hr FU _ _ e6 he (fun h7 er => ?_)
  replace er := er.symm
  subst er
  try dsimp only at hF
  exact aw_return hC hZ (Nat.zero_le _) (Nat.zero_le _) hr dX6_copies_20 (hK _ _ (Option.some.inj hF).symm)
def fX6_copies_55_54_l2 (x3 : Int) (h : Hp) : Option ((Int × Hp) ⊕ (Hp)) :=
  (if ((62 : Nat) : Int) ≤ x3 then some (.inr h) else gd_ (0 ≤ x3 ∧ x3 < 62) (gd_ (0 ≤ x3 ∧ x3 < 62) (lb_ (st h 54 (Int.toNat x3) ((h 55 (Int.toNat x3)))) (fun h4 => some (.inl ((i_add x3 1), h4))))))
def fX6_copies_55_54  (h : Hp) : Option (Int × Hp) :=
  bp_ (it_ (fun s => fX6_copies_55_54_l2 s.1 s.2) FU (0, h)) (fun e6 => (fun h7 => some (0, h7)) e6)
theorem fX6_copies_55_54_l2_ok {G : GD} {X : CX} {n : Nat} {Q : Av → Nat → Hp → Prop} (hC : Cx G X RX6 cX6_copies) (hZ : ZOK X G Q 0 0) (hRm : X.R = rmd 0 0 0) (hbt : X.bt = true) (hr : X.meth.sig.returnType = none)  : ∀ (f : Nat) (x3 : Int) (h : Hp) (r : Hp), it_ (fun s => fX6_copies_55_54_l2 s.1 s.2) f (x3, h) = some r → (∀ (h9 : Hp), r = h9 → AW G X 20 [(9, 0), (9, 0), (9, 0), (9, 0)] [] n h9 0 0) → AW G X 2 [(9, 0), (2, ((55 : Nat) : Int)), (2, ((54 : Nat) : Int)), (0, x3)] [] n h 0 0 := by
  intro f
  induction f with
  | zero => intro x3 h r hI; cases hI
  | succ f ih0 =>
    intro x3 h r hI hX
    obtain ⟨b, hF, hb1, hb2⟩ := it_succ hI
    have hF : fX6_copies_55_54_l2 x3 h = some b := hF
    unfold fX6_copies_55_54_l2 at hF
    refine aw_iload_n hC dX6_copies_2 rfl ?_
    refine aw_aload_n hC dX6_copies_3 rfl ?_
    refine aw_alen (a := 55) hC dX6_copies_4 rfl rfl (by decide) (by decide) (Or.inl ⟨hbt, by decide⟩) ?_
    refine aw_icmp_ge (tgt := 20) hC dX6_copies_5 (by decide) (fun c1 => ?_) (fun c1 => ?_)
    · have hF := it_t hF c1
      refine aw_weak (ls' := [(9, 0), (9, 0), (9, 0), (9, 0)]) ⟨Or.inl rfl, Or.inl rfl, Or.inl rfl, Or.inl rfl, trivial⟩ ?_
      exact hX _ (hb2 _ (Option.some.inj hF).symm).symm
    · have hF := it_f hF c1
      refine aw_aload_n hC dX6_copies_8 rfl ?_
      refine aw_iload_n hC dX6_copies_9 rfl ?_
      refine aw_aload_n hC dX6_copies_10 rfl ?_
      refine aw_iload_n hC dX6_copies_11 rfl ?_
      obtain ⟨g2, hF⟩ := gd_some hF
      refine aw_iaload (a := 55) hC dX6_copies_12 rfl rfl (Or.inl ⟨hbt, by decide⟩) g2.1 g2.2 ?_
      obtain ⟨g3, hF⟩ := gd_some hF
      obtain ⟨h4, eh4, hF⟩ := lb_some hF
      refine aw_iastore (a := 54) hC dX6_copies_13 rfl rfl (Or.inl ⟨hbt, by decide⟩) g3.1 g3.2 ?_
      refine aw_eqH eh4 ?_
      clear eh4
      refine aw_iinc3 hC dX6_copies_14 rfl ?_
      refine aw_goto (tgt := 2) hC dX6_copies_17 (by decide) ?_
      exact ih0 _ _ r (hb1 _ (Option.some.inj hF).symm) hX
theorem ok_X6_copies_55_54 {G : GD} {n : Nat}  {h : Hp} {res : Int × Hp} (hF : fX6_copies_55_54  h = some res) : Con G yX6_copies cX6_copies 4 none 0 0 0 true [(2, ((35 : Nat) : Int)), (2, ((55 : Nat) : Int)), (2, ((54 : Nat) : Int))] n h (FQ 8 n res) := by
  refine con_of (pad := 1) (own := RX6) (plainFor_of_name (by decide)) rfl rfl ?_
  intro X hC hbt hr hnm hZ hRm hn0
  have hK : ∀ (x9 : Int) (h9 : Hp), res = (x9, h9) → FQ 8 n res (8, x9) n h9 := fun x9 h9 e => by subst e; exact ⟨rfl, rfl, rfl⟩
  unfold fX6_copies_55_54 at hF
  show AW G X 0 [(2, ((35 : Nat) : Int)), (2, ((55 : Nat) : Int)), (2, ((54 : Nat) : Int)), (9, 0)] [] n h 0 0
  refine aw_iconst hC dX6_copies_0 (by decide) ?_
  refine aw_istore3 hC dX6_copies_1 rfl ?_
  refine aw_weak (ls' := [(9, 0), (2, ((55 : Nat) : Int)), (2, ((54 : Nat) : Int)), (0, 0)]) ⟨Or.inl rfl, Or.inr rfl, Or.inr rfl, Or.inr rfl, trivial⟩ ?_
  obtain ⟨e6, he, hF⟩ := bp_some hF
  refine fX6_copies_55_54_l2_ok hC hZ hRm hbt hr FU _ _ e6 he (fun h7 er => ?_)
  replace er := er.symm
  subst er
  try dsimp only at hF
  exact aw_return hC hZ (Nat.zero_le _) (Nat.zero_le _) hr dX6_copies_20 (hK _ _ (Option.some.inj hF).symm)
def fX6_ruined_l19 (x1 : Int) (h : Hp) : Option ((Int × Hp) ⊕ (Int × Hp)) :=
  (if 50 < x1 then some (.inr (x1, h)) else bp_ (fX6_isPoor h) (fun r6 => (if r6 = 0 then bd_ (fX6_yearGoes h) (fun r9 h11 => some (.inl ((i_add x1 1), h11))) else some (.inr (x1, h)))))
def fX6_ruined_j43 (x1 : Int) (h : Hp) : Option (Int × Hp) :=
  bd_ (fX6_copies_55_54 h) (fun r16 h18 => (if x1 ≤ 50 then some (x1, h18) else some ((-1), h18)))
def fX6_ruined  (h : Hp) : Option (Int × Hp) :=
  lb_ (st h 35 0 0) (fun h1 => bd_ (fX6_copies_54_55 h1) (fun r2 h4 => bp_ (it_ (fun s => fX6_ruined_l19 s.1 s.2) FU (0, h4)) (fun e13 => (fun y14 h15 => fX6_ruined_j43 y14 h15) e13.1 e13.2)))
theorem fX6_ruined_l19_ok {G : GD} {X : CX} {n : Nat} {Q : Av → Nat → Hp → Prop} (hC : Cx G X RX6 cX6_ruined) (hZ : ZOK X G Q 0 0) (hRm : X.R = rmd 7 0 0) (hbt : X.bt = true) (hr : X.meth.sig.returnType = (some .int))  : ∀ (f : Nat) (x1 : Int) (h : Hp) (r : Int × Hp), it_ (fun s => fX6_ruined_l19 s.1 s.2) f (x1, h) = some r → (∀ (y1 : Int) (h9 : Hp), r = (y1, h9) → AW G X 43 [(2, ((35 : Nat) : Int)), (0, y1)] [] n h9 0 0) → AW G X 19 [(2, ((35 : Nat) : Int)), (0, x1)] [] n h 0 0 := by
  intro f
  induction f with
  | zero => intro x1 h r hI; cases hI
  | succ f ih0 =>
    intro x1 h r hI hX
    obtain ⟨b, hF, hb1, hb2⟩ := it_succ hI
    have hF : fX6_ruined_l19 x1 h = some b := hF
    unfold fX6_ruined_l19 at hF
    refine aw_iload_n hC dX6_ruined_19 rfl ?_
    refine aw_bipush hC dX6_ruined_20 (by decide) (by decide) ?_
    refine aw_icmp_gt (tgt := 43) hC dX6_ruined_22 (by decide) (fun c5 => ?_) (fun c5 => ?_)
    · have hF := it_t hF c5
      exact hX _ _ (hb2 _ (Option.some.inj hF).symm).symm
    · have hF := it_f hF c5
      refine aw_aload_n hC dX6_ruined_25 rfl ?_
      obtain ⟨r6, q7, hF⟩ := bp_some hF
      refine clRX6_460 hC hRm hbt dX6_ruined_26 rfl rfl (by decide) (Nat.le_of_ble_eq_true rfl) (Nat.le_of_ble_eq_true rfl) (ok_X6_isPoor q7) ?_
      refine aw_if_ne (tgt := 43) hC dX6_ruined_29 (by decide) (fun c8 => ?_) (fun c8 => ?_)
      · have hF := it_f hF c8
        exact hX _ _ (hb2 _ (Option.some.inj hF).symm).symm
      · have hF := it_t hF c8
        refine aw_aload_n hC dX6_ruined_32 rfl ?_
        obtain ⟨r9, h11, q10, hF⟩ := bd_some hF
        refine clRX6_419 hC hRm hbt dX6_ruined_33 rfl rfl (by decide) (Nat.le_of_ble_eq_true rfl) (Nat.le_of_ble_eq_true rfl) (ok_X6_yearGoes q10) ?_
        refine aw_pop hC dX6_ruined_36 (by simp) ?_
        refine aw_iinc1 hC dX6_ruined_37 rfl ?_
        refine aw_goto (tgt := 19) hC dX6_ruined_40 (by decide) ?_
        exact ih0 _ _ r (hb1 _ (Option.some.inj hF).symm) hX
theorem fX6_ruined_j43_ok {G : GD} {X : CX} {n : Nat} {Q : Av → Nat → Hp → Prop} (hC : Cx G X RX6 cX6_ruined) (hZ : ZOK X G Q 0 0) (hRm : X.R = rmd 7 0 0) (hbt : X.bt = true) (hr : X.meth.sig.returnType = (some .int)) {x1 : Int} {h : Hp} {res : Int × Hp} (hF : fX6_ruined_j43 x1 h = some res) (hK : ∀ (x9 : Int) (h9 : Hp), res = (x9, h9) → Q (0, x9) n h9) : AW G X 43 [(2, ((35 : Nat) : Int)), (0, x1)] [] n h 0 0 := by
  unfold fX6_ruined_j43 at hF
  refine aw_aload_n hC dX6_ruined_43 rfl ?_
  refine aw_aload_n hC dX6_ruined_44 rfl ?_
  refine aw_gc6 (k := 47) (a := 35) (b := 55) hC hbt dX6_ruined_45 lkRX6_78 (by decide) rfl rfl rfl (by decide) (by decide) ?_
  refine aw_aload_n hC dX6_ruined_48 rfl ?_
  refine aw_gc6 (k := 46) (a := 35) (b := 54) hC hbt dX6_ruined_49 lkRX6_75 (by decide) rfl rfl rfl (by decide) (by decide) ?_
  obtain ⟨r16, h18, q17, hF⟩ := bd_some hF
  refine clRX6_306 hC hRm hbt dX6_ruined_52 rfl rfl (by decide) (Nat.le_of_ble_eq_true rfl) (Nat.le_of_ble_eq_true rfl) (ok_X6_copies_55_54 q17) ?_
  refine aw_iload_n hC dX6_ruined_55 rfl ?_
  refine aw_bipush hC dX6_ruined_56 (by decide) (by decide) ?_
  refine aw_icmp_le (tgt := 65) hC dX6_ruined_58 (by decide) (fun c19 => ?_) (fun c19 => ?_)
  · have hF := it_t hF c19
    refine aw_iload_n hC dX6_ruined_65 rfl ?_
    exact aw_ireturn hC hZ (Nat.zero_le _) (Nat.zero_le _) hr dX6_ruined_66 (hK _ _ (Option.some.inj hF).symm)
  · have hF := it_f hF c19
    refine aw_iconst hC dX6_ruined_61 (by decide) ?_
    refine aw_goto (tgt := 66) hC dX6_ruined_62 (by decide) ?_
    exact aw_ireturn hC hZ (Nat.zero_le _) (Nat.zero_le _) hr dX6_ruined_66 (hK _ _ (Option.some.inj hF).symm)
theorem ok_X6_ruined {G : GD} {n : Nat}  {h : Hp} {res : Int × Hp} (hF : fX6_ruined  h = some res) : Con G yX6_ruined cX6_ruined 2 (some .int) 7 0 0 true [(2, ((35 : Nat) : Int))] n h (FQ 0 n res) := by
  refine con_of (pad := 1) (own := RX6) (plainFor_of_name (by decide)) rfl rfl ?_
  intro X hC hbt hr hnm hZ hRm hn0
  have hK : ∀ (x9 : Int) (h9 : Hp), res = (x9, h9) → FQ 0 n res (0, x9) n h9 := fun x9 h9 e => by subst e; exact ⟨rfl, rfl, rfl⟩
  unfold fX6_ruined at hF
  show AW G X 0 [(2, ((35 : Nat) : Int)), (9, 0)] [] n h 0 0
  refine aw_aload_n hC dX6_ruined_0 rfl ?_
  refine aw_iconst hC dX6_ruined_1 (by decide) ?_
  obtain ⟨h1, eh1, hF⟩ := lb_some hF
  refine aw_p6i (k := 0) (a := 35) hC dX6_ruined_2 lkRX6_129 (by decide) rfl rfl rfl rfl rfl (Or.inl ⟨hbt, by decide⟩) (fun _ => by decide) ?_
  refine aw_eqH eh1 ?_
  clear eh1
  refine aw_aload_n hC dX6_ruined_5 rfl ?_
  refine aw_aload_n hC dX6_ruined_6 rfl ?_
  refine aw_gc6 (k := 46) (a := 35) (b := 54) hC hbt dX6_ruined_7 lkRX6_75 (by decide) rfl rfl rfl (by decide) (by decide) ?_
  refine aw_aload_n hC dX6_ruined_10 rfl ?_
  refine aw_gc6 (k := 47) (a := 35) (b := 55) hC hbt dX6_ruined_11 lkRX6_78 (by decide) rfl rfl rfl (by decide) (by decide) ?_
  obtain ⟨r2, h4, q3, hF⟩ := bd_some hF
  refine clRX6_306 hC hRm hbt dX6_ruined_14 rfl rfl (by decide) (Nat.le_of_ble_eq_true rfl) (Nat.le_of_ble_eq_true rfl) (ok_X6_copies_54_55 q3) ?_
  refine aw_iconst hC dX6_ruined_17 (by decide) ?_
  refine aw_istore1 hC dX6_ruined_18 rfl ?_
  obtain ⟨e13, he, hF⟩ := bp_some hF
  refine fX6_ruined_l19_ok hC hZ hRm hbt hr FU _ _ e13 he (fun y14 h15 er => ?_)
  replace er := er.symm
  subst er
  try dsimp only at hF
  exact fX6_ruined_j43_ok hC hZ hRm hbt hr hF hK
def fX6_draw (x1 : Int) (h : Hp) : Option (Int × Hp) :=
  lb_ (st h 35 67 ((i_add ((i_mul ((h 35 67)) 1103515245)) 12345))) (fun h1 => gd_ (x1 ≠ 0) (some ((i_rem ((i_and ((i_shr ((h1 35 67)) 16)) 32767)) x1), h1)))
theorem ok_X6_draw {G : GD} {n : Nat} {x1 : Int} {h : Hp} {res : Int × Hp} (hF : fX6_draw x1 h = some res) : Con G yX6_draw cX6_draw 2 (some .int) 0 0 0 true [(2, ((35 : Nat) : Int)), (0, x1)] n h (FQ 0 n res) := by
  refine con_of (pad := 0) (own := RX6) (plainFor_of_name (by decide)) rfl rfl ?_
  intro X hC hbt hr hnm hZ hRm hn0
  have hK : ∀ (x9 : Int) (h9 : Hp), res = (x9, h9) → FQ 0 n res (0, x9) n h9 := fun x9 h9 e => by subst e; exact ⟨rfl, rfl, rfl⟩
  unfold fX6_draw at hF
  show AW G X 0 [(2, ((35 : Nat) : Int)), (0, x1)] [] n h 0 0
  refine aw_aload_n hC dX6_draw_0 rfl ?_
  refine aw_aload_n hC dX6_draw_1 rfl ?_
  refine aw_g6i (k := 67) (a := 35) hC dX6_draw_2 lkRX6_463 (by decide) rfl rfl rfl (Or.inl ⟨hbt, by decide⟩) ?_
  refine aw_ldcw (v := 1103515245) hC dX6_draw_5 (by decide) kcRX6_466 ?_
  refine aw_imul hC dX6_draw_8 ?_
  refine aw_sipush hC dX6_draw_9 (by decide) (by decide) ?_
  refine aw_iadd hC dX6_draw_12 ?_
  obtain ⟨h1, eh1, hF⟩ := lb_some hF
  refine aw_p6i (k := 67) (a := 35) hC dX6_draw_13 lkRX6_463 (by decide) rfl rfl rfl rfl rfl (Or.inl ⟨hbt, by decide⟩) (fun _ => by decide) ?_
  refine aw_eqH eh1 ?_
  clear eh1
  refine aw_aload_n hC dX6_draw_16 rfl ?_
  refine aw_g6i (k := 67) (a := 35) hC dX6_draw_17 lkRX6_463 (by decide) rfl rfl rfl (Or.inl ⟨hbt, by decide⟩) ?_
  refine aw_bipush hC dX6_draw_20 (by decide) (by decide) ?_
  refine aw_ishr hC dX6_draw_22 ?_
  refine aw_sipush hC dX6_draw_23 (by decide) (by decide) ?_
  refine aw_iand hC dX6_draw_26 ?_
  refine aw_iload_n hC dX6_draw_27 rfl ?_
  obtain ⟨g2, hF⟩ := gd_some hF
  refine aw_irem hC dX6_draw_28 g2 ?_
  exact aw_ireturn hC hZ (Nat.zero_le _) (Nat.zero_le _) hr dX6_draw_29 (hK _ _ (Option.some.inj hF).symm)
def fX6_decades_j90 (x2 : Int) (x3 : Int) (x4 : Int) (x5 : Int) (h : Hp) : Option ((Int × Int × Hp) ⊕ (Int × Hp)) :=
  bd_ (fX6_draw 9 h) (fun r25 h27 => lb_ (st h27 35 51 ((i_add r25 1))) (fun h28 => bd_ (fX6_yearGoes h28) (fun r29 h31 => lb_ ((i_add x4 r29)) (fun v32 => some (.inl (v32, (i_add x5 1), h31))))))
def fX6_decades_l54 (x2 : Int) (x3 : Int) (x4 : Int) (x5 : Int) (h : Hp) : Option ((Int × Int × Hp) ⊕ (Int × Hp)) :=
  (if x2 ≤ x5 then some (.inr (x4, h)) else bp_ (fX6_cells h) (fun r17 => bd_ (fX6_draw r17 h) (fun r19 h21 => bp_ (fX6_treeIn r19 h21) (fun r22 => (if r22 = (-1) then fX6_decades_j90 x2 x3 x4 x5 h21 else gd_ (0 ≤ (i_add 0 r22) ∧ (i_add 0 r22) < 62) (lb_ (st h21 54 (Int.toNat ((i_add 0 r22))) ((-1))) (fun h35 => fX6_decades_j90 x2 x3 x4 x5 h35)))))))
def fX6_decades_j163 (x3 : Int) (x4 : Int) (x5 : Int) (x7 : Int) (h : Hp) : Option ((Int × Int) ⊕ (Int)) :=
  gd_ (0 ≤ (i_add 36 x7) ∧ (i_add 36 x7) < 62) (lb_ ((h 54 (Int.toNat ((i_add 36 x7))))) (fun v45 => some (.inl (v45, (i_add x7 1)))))
def fX6_decades_l134 (x3 : Int) (x4 : Int) (x5 : Int) (x6 : Int) (x7 : Int) (h : Hp) : Option ((Int × Int) ⊕ (Int)) :=
  (if (h 35 3) ≤ x7 then some (.inr x6) else (if x7 = 0 then fX6_decades_j163 x3 x4 x5 x7 h else gd_ (0 ≤ (i_add 36 x7) ∧ (i_add 36 x7) < 62) ((if x6 ≤ (h 54 (Int.toNat ((i_add 36 x7)))) then some (.inl (x6, (i_add x7 1))) else fX6_decades_j163 x3 x4 x5 x7 h))))
def fX6_decades (x1 : Int) (x2 : Int) (x3 : Int) (h : Hp) : Option (Int × Hp) :=
  lb_ (st h 35 0 0) (fun h1 => bd_ (fX6_isWhat x3 2 h1) (fun r2 h4 => (if r2 = 0 then some (0, h4) else bp_ (fX6_within x2 0 40 h4) (fun r6 => bd_ (fX6_right r6 2 h4) (fun r8 h10 => (if r8 = 0 then some (0, h10) else bd_ (fX6_copies_54_55 h10) (fun r12 h14 => lb_ (st h14 35 67 x1) (fun h15 => bp_ (it_ (fun s => fX6_decades_l54 x2 x3 s.1 s.2.1 s.2.2) FU (0, 0, h15)) (fun e36 => (fun y37 h38 => lb_ (st h38 35 51 ((-1))) (fun h39 => bp_ (fX6_treesStand h39) (fun r40 => bp_ (it_ (fun s => fX6_decades_l134 x3 y37 r40 s.1 s.2 h39) FU (0, 0)) (fun e50 => (fun y51 => bd_ (fX6_copies_55_54 h39) (fun r52 h54 => (if x3 = 0 then some (y37, h54) else (if x3 = 1 then some (r40, h54) else some (y51, h54))))) e50)))) e36.1 e36.2)))))))))
theorem fX6_decades_j90_ok {G : GD} {X : CX} {n : Nat} {Q : Av → Nat → Hp → Prop} (hC : Cx G X RX6 cX6_decades) (hZ : ZOK X G Q 0 0) (hRm : X.R = rmd 7 0 0) (hbt : X.bt = true) (hr : X.meth.sig.returnType = (some .int)) {x2 : Int} {x3 : Int} {x4 : Int} {x5 : Int} {h : Hp} {b : (Int × Int × Hp) ⊕ (Int × Hp)} (hF : fX6_decades_j90 x2 x3 x4 x5 h = some b) (hL9 : ∀ (u4 : Int) (u5 : Int) (h9 : Hp), b = .inl (u4, u5, h9) → AW G X 54 [(2, ((35 : Nat) : Int)), (9, 0), (0, x2), (0, x3), (0, u4), (0, u5), (9, 0), (9, 0)] [] n h9 0 0) (hX9 : ∀ (w4 : Int) (h9 : Hp), b = .inr (w4, h9) → AW G X 117 [(2, ((35 : Nat) : Int)), (9, 0), (9, 0), (0, x3), (0, w4), (9, 0), (9, 0), (9, 0)] [] n h9 0 0) : AW G X 90 [(2, ((35 : Nat) : Int)), (9, 0), (0, x2), (0, x3), (0, x4), (0, x5), (9, 0), (9, 0)] [] n h 0 0 := by
  unfold fX6_decades_j90 at hF
  refine aw_aload_n hC dX6_decades_90 rfl ?_
  refine aw_aload_n hC dX6_decades_91 rfl ?_
  refine aw_bipush hC dX6_decades_92 (by decide) (by decide) ?_
  obtain ⟨r25, h27, q26, hF⟩ := bd_some hF
  refine clRX6_467 hC hRm hbt dX6_decades_94 rfl rfl (by decide) (Nat.le_of_ble_eq_true rfl) (Nat.le_of_ble_eq_true rfl) (ok_X6_draw q26) ?_
  refine aw_iconst hC dX6_decades_97 (by decide) ?_
  refine aw_iadd hC dX6_decades_98 ?_
  obtain ⟨h28, eh28, hF⟩ := lb_some hF
  refine aw_p6i (k := 51) (a := 35) hC dX6_decades_99 lkRX6_87 (by decide) rfl rfl rfl rfl rfl (Or.inl ⟨hbt, by decide⟩) (fun _ => by decide) ?_
  refine aw_eqH eh28 ?_
  clear eh28
  refine aw_iload hC dX6_decades_102 rfl ?_
  refine aw_aload_n hC dX6_decades_104 rfl ?_
  obtain ⟨r29, h31, q30, hF⟩ := bd_some hF
  refine clRX6_419 hC hRm hbt dX6_decades_105 rfl rfl (by decide) (Nat.le_of_ble_eq_true rfl) (Nat.le_of_ble_eq_true rfl) (ok_X6_yearGoes q30) ?_
  refine aw_iadd hC dX6_decades_108 ?_
  obtain ⟨v32, ev32, hF⟩ := lb_some hF
  refine aw_eqT ev32 ?_
  clear ev32
  refine aw_istore4 hC dX6_decades_109 rfl ?_
  refine aw_iinc5 hC dX6_decades_111 rfl ?_
  refine aw_goto (tgt := 54) hC dX6_decades_114 (by decide) ?_
  exact hL9 _ _ _ (Option.some.inj hF).symm
theorem fX6_decades_l54_ok {G : GD} {X : CX} {n : Nat} {Q : Av → Nat → Hp → Prop} (hC : Cx G X RX6 cX6_decades) (hZ : ZOK X G Q 0 0) (hRm : X.R = rmd 7 0 0) (hbt : X.bt = true) (hr : X.meth.sig.returnType = (some .int)) {x2 : Int} {x3 : Int} : ∀ (f : Nat) (x4 : Int) (x5 : Int) (h : Hp) (r : Int × Hp), it_ (fun s => fX6_decades_l54 x2 x3 s.1 s.2.1 s.2.2) f (x4, x5, h) = some r → (∀ (y4 : Int) (h9 : Hp), r = (y4, h9) → AW G X 117 [(2, ((35 : Nat) : Int)), (9, 0), (9, 0), (0, x3), (0, y4), (9, 0), (9, 0), (9, 0)] [] n h9 0 0) → AW G X 54 [(2, ((35 : Nat) : Int)), (9, 0), (0, x2), (0, x3), (0, x4), (0, x5), (9, 0), (9, 0)] [] n h 0 0 := by
  intro f
  induction f with
  | zero => intro x4 x5 h r hI; cases hI
  | succ f ih0 =>
    intro x4 x5 h r hI hX
    obtain ⟨b, hF, hb1, hb2⟩ := it_succ hI
    have hF : fX6_decades_l54 x2 x3 x4 x5 h = some b := hF
    unfold fX6_decades_l54 at hF
    refine aw_iload hC dX6_decades_54 rfl ?_
    refine aw_iload_n hC dX6_decades_56 rfl ?_
    refine aw_icmp_ge (tgt := 117) hC dX6_decades_57 (by decide) (fun c16 => ?_) (fun c16 => ?_)
    · have hF := it_t hF c16
      refine aw_weak (ls' := [(2, ((35 : Nat) : Int)), (9, 0), (9, 0), (0, x3), (0, x4), (9, 0), (9, 0), (9, 0)]) ⟨Or.inr rfl, Or.inl rfl, Or.inl rfl, Or.inr rfl, Or.inr rfl, Or.inl rfl, Or.inl rfl, Or.inl rfl, trivial⟩ ?_
      exact hX _ _ (hb2 _ (Option.some.inj hF).symm).symm
    · have hF := it_f hF c16
      refine aw_aload_n hC dX6_decades_60 rfl ?_
      refine aw_aload_n hC dX6_decades_61 rfl ?_
      refine aw_aload_n hC dX6_decades_62 rfl ?_
      obtain ⟨r17, q18, hF⟩ := bp_some hF
      refine clRX6_323 hC hRm hbt dX6_decades_63 rfl rfl (by decide) (Nat.le_of_ble_eq_true rfl) (Nat.le_of_ble_eq_true rfl) (ok_X6_cells q18) ?_
      obtain ⟨r19, h21, q20, hF⟩ := bd_some hF
      refine clRX6_467 hC hRm hbt dX6_decades_66 rfl rfl (by decide) (Nat.le_of_ble_eq_true rfl) (Nat.le_of_ble_eq_true rfl) (ok_X6_draw q20) ?_
      obtain ⟨r22, q23, hF⟩ := bp_some hF
      refine clRX6_329 hC hRm hbt dX6_decades_69 rfl rfl (by decide) (Nat.le_of_ble_eq_true rfl) (Nat.le_of_ble_eq_true rfl) (ok_X6_treeIn q23) ?_
      refine aw_istore6 hC dX6_decades_72 rfl ?_
      refine aw_iload hC dX6_decades_74 rfl ?_
      refine aw_iconst hC dX6_decades_76 (by decide) ?_
      refine aw_icmp_eq (tgt := 90) hC dX6_decades_77 (by decide) (fun c24 => ?_) (fun c24 => ?_)
      · have hF := it_t hF c24
        refine aw_weak (ls' := [(2, ((35 : Nat) : Int)), (9, 0), (0, x2), (0, x3), (0, x4), (0, x5), (9, 0), (9, 0)]) ⟨Or.inr rfl, Or.inl rfl, Or.inr rfl, Or.inr rfl, Or.inr rfl, Or.inr rfl, Or.inl rfl, Or.inl rfl, trivial⟩ ?_
        exact fX6_decades_j90_ok hC hZ hRm hbt hr hF (fun u0 u1 u2 e => ih0 u0 u1 u2 r (hb1 _ e) hX) (fun w0 w1 e => hX w0 w1 (hb2 _ e).symm)
      · have hF := it_f hF c24
        refine aw_aload_n hC dX6_decades_80 rfl ?_
        refine aw_gc6 (k := 46) (a := 35) (b := 54) hC hbt dX6_decades_81 lkRX6_75 (by decide) rfl rfl rfl (by decide) (by decide) ?_
        refine aw_iconst hC dX6_decades_84 (by decide) ?_
        refine aw_iload hC dX6_decades_85 rfl ?_
        refine aw_iadd hC dX6_decades_87 ?_
        refine aw_iconst hC dX6_decades_88 (by decide) ?_
        obtain ⟨g34, hF⟩ := gd_some hF
        obtain ⟨h35, eh35, hF⟩ := lb_some hF
        refine aw_iastore (a := 54) hC dX6_decades_89 rfl rfl (Or.inl ⟨hbt, by decide⟩) g34.1 g34.2 ?_
        refine aw_eqH eh35 ?_
        clear eh35
        refine aw_weak (ls' := [(2, ((35 : Nat) : Int)), (9, 0), (0, x2), (0, x3), (0, x4), (0, x5), (9, 0), (9, 0)]) ⟨Or.inr rfl, Or.inl rfl, Or.inr rfl, Or.inr rfl, Or.inr rfl, Or.inr rfl, Or.inl rfl, Or.inl rfl, trivial⟩ ?_
        exact fX6_decades_j90_ok hC hZ hRm hbt hr hF (fun u0 u1 u2 e => ih0 u0 u1 u2 r (hb1 _ e) hX) (fun w0 w1 e => hX w0 w1 (hb2 _ e).symm)
theorem fX6_decades_j163_ok {G : GD} {X : CX} {n : Nat} {Q : Av → Nat → Hp → Prop} (hC : Cx G X RX6 cX6_decades) (hZ : ZOK X G Q 0 0) (hRm : X.R = rmd 7 0 0) (hbt : X.bt = true) (hr : X.meth.sig.returnType = (some .int)) {x3 : Int} {x4 : Int} {x5 : Int} {x7 : Int} {h : Hp} {b : (Int × Int) ⊕ (Int)} (hF : fX6_decades_j163 x3 x4 x5 x7 h = some b) (hL9 : ∀ (u6 : Int) (u7 : Int), b = .inl (u6, u7) → AW G X 134 [(2, ((35 : Nat) : Int)), (9, 0), (9, 0), (0, x3), (0, x4), (0, x5), (0, u6), (0, u7)] [] n h 0 0) (hX9 : ∀ (w6 : Int), b = .inr w6 → AW G X 186 [(2, ((35 : Nat) : Int)), (9, 0), (9, 0), (0, x3), (0, x4), (0, x5), (0, w6), (9, 0)] [] n h 0 0) : AW G X 163 [(2, ((35 : Nat) : Int)), (9, 0), (9, 0), (0, x3), (0, x4), (0, x5), (9, 0), (0, x7)] [] n h 0 0 := by
  unfold fX6_decades_j163 at hF
  refine aw_aload_n hC dX6_decades_163 rfl ?_
  refine aw_gc6 (k := 46) (a := 35) (b := 54) hC hbt dX6_decades_164 lkRX6_75 (by decide) rfl rfl rfl (by decide) (by decide) ?_
  refine aw_bipush hC dX6_decades_167 (by decide) (by decide) ?_
  refine aw_iload hC dX6_decades_169 rfl ?_
  refine aw_iadd hC dX6_decades_171 ?_
  obtain ⟨g44, hF⟩ := gd_some hF
  refine aw_iaload (a := 54) hC dX6_decades_172 rfl rfl (Or.inl ⟨hbt, by decide⟩) g44.1 g44.2 ?_
  refine aw_goto (tgt := 178) hC dX6_decades_173 (by decide) ?_
  obtain ⟨v45, ev45, hF⟩ := lb_some hF
  refine aw_eqT ev45 ?_
  clear ev45
  refine aw_istore6 hC dX6_decades_178 rfl ?_
  refine aw_iinc7 hC dX6_decades_180 rfl ?_
  refine aw_goto (tgt := 134) hC dX6_decades_183 (by decide) ?_
  exact hL9 _ _ (Option.some.inj hF).symm
theorem fX6_decades_l134_ok {G : GD} {X : CX} {n : Nat} {Q : Av → Nat → Hp → Prop} (hC : Cx G X RX6 cX6_decades) (hZ : ZOK X G Q 0 0) (hRm : X.R = rmd 7 0 0) (hbt : X.bt = true) (hr : X.meth.sig.returnType = (some .int)) {x3 : Int} {x4 : Int} {x5 : Int} {h : Hp} : ∀ (f : Nat) (x6 : Int) (x7 : Int) (r : Int), it_ (fun s => fX6_decades_l134 x3 x4 x5 s.1 s.2 h) f (x6, x7) = some r → (∀ (y6 : Int), r = y6 → AW G X 186 [(2, ((35 : Nat) : Int)), (9, 0), (9, 0), (0, x3), (0, x4), (0, x5), (0, y6), (9, 0)] [] n h 0 0) → AW G X 134 [(2, ((35 : Nat) : Int)), (9, 0), (9, 0), (0, x3), (0, x4), (0, x5), (0, x6), (0, x7)] [] n h 0 0 := by
  intro f
  induction f with
  | zero => intro x6 x7 r hI; cases hI
  | succ f ih0 =>
    intro x6 x7 r hI hX
    obtain ⟨b, hF, hb1, hb2⟩ := it_succ hI
    have hF : fX6_decades_l134 x3 x4 x5 x6 x7 h = some b := hF
    unfold fX6_decades_l134 at hF
    refine aw_iload hC dX6_decades_134 rfl ?_
    refine aw_aload_n hC dX6_decades_136 rfl ?_
    refine aw_g6i (k := 3) (a := 35) hC dX6_decades_137 lkRX6_297 (by decide) rfl rfl rfl (Or.inl ⟨hbt, by decide⟩) ?_
    refine aw_icmp_ge (tgt := 186) hC dX6_decades_140 (by decide) (fun c42 => ?_) (fun c42 => ?_)
    · have hF := it_t hF c42
      refine aw_weak (ls' := [(2, ((35 : Nat) : Int)), (9, 0), (9, 0), (0, x3), (0, x4), (0, x5), (0, x6), (9, 0)]) ⟨Or.inr rfl, Or.inl rfl, Or.inl rfl, Or.inr rfl, Or.inr rfl, Or.inr rfl, Or.inr rfl, Or.inl rfl, trivial⟩ ?_
      exact hX _ (hb2 _ (Option.some.inj hF).symm).symm
    · have hF := it_f hF c42
      refine aw_iload hC dX6_decades_143 rfl ?_
      refine aw_if_eq (tgt := 163) hC dX6_decades_145 (by decide) (fun c43 => ?_) (fun c43 => ?_)
      · have hF := it_t hF c43
        refine aw_weak (ls' := [(2, ((35 : Nat) : Int)), (9, 0), (9, 0), (0, x3), (0, x4), (0, x5), (9, 0), (0, x7)]) ⟨Or.inr rfl, Or.inl rfl, Or.inl rfl, Or.inr rfl, Or.inr rfl, Or.inr rfl, Or.inl rfl, Or.inr rfl, trivial⟩ ?_
        exact fX6_decades_j163_ok hC hZ hRm hbt hr hF (fun u0 u1 e => ih0 u0 u1 r (hb1 _ e) hX) (fun w0 e => hX w0 (hb2 _ e).symm)
      · have hF := it_f hF c43
        refine aw_aload_n hC dX6_decades_148 rfl ?_
        refine aw_gc6 (k := 46) (a := 35) (b := 54) hC hbt dX6_decades_149 lkRX6_75 (by decide) rfl rfl rfl (by decide) (by decide) ?_
        refine aw_bipush hC dX6_decades_152 (by decide) (by decide) ?_
        refine aw_iload hC dX6_decades_154 rfl ?_
        refine aw_iadd hC dX6_decades_156 ?_
        obtain ⟨g47, hF⟩ := gd_some hF
        refine aw_iaload (a := 54) hC dX6_decades_157 rfl rfl (Or.inl ⟨hbt, by decide⟩) g47.1 g47.2 ?_
        refine aw_iload hC dX6_decades_158 rfl ?_
        refine aw_icmp_ge (tgt := 176) hC dX6_decades_160 (by decide) (fun c48 => ?_) (fun c48 => ?_)
        · have hF := it_t hF c48
          refine aw_iload hC dX6_decades_176 rfl ?_
          refine aw_istore6 hC dX6_decades_178 rfl ?_
          refine aw_iinc7 hC dX6_decades_180 rfl ?_
          refine aw_goto (tgt := 134) hC dX6_decades_183 (by decide) ?_
          exact ih0 _ _ r (hb1 _ (Option.some.inj hF).symm) hX
        · have hF := it_f hF c48
          refine aw_weak (ls' := [(2, ((35 : Nat) : Int)), (9, 0), (9, 0), (0, x3), (0, x4), (0, x5), (9, 0), (0, x7)]) ⟨Or.inr rfl, Or.inl rfl, Or.inl rfl, Or.inr rfl, Or.inr rfl, Or.inr rfl, Or.inl rfl, Or.inr rfl, trivial⟩ ?_
          exact fX6_decades_j163_ok hC hZ hRm hbt hr hF (fun u0 u1 e => ih0 u0 u1 r (hb1 _ e) hX) (fun w0 e => hX w0 (hb2 _ e).symm)
theorem ok_X6_decades {G : GD} {n : Nat} {x1 : Int} {x2 : Int} {x3 : Int} {h : Hp} {res : Int × Hp} (hF : fX6_decades x1 x2 x3 h = some res) : Con G yX6_decades cX6_decades 8 (some .int) 7 0 0 true [(2, ((35 : Nat) : Int)), (0, x1), (0, x2), (0, x3)] n h (FQ 0 n res) := by
  refine con_of (pad := 4) (own := RX6) (plainFor_of_name (by decide)) rfl rfl ?_
  intro X hC hbt hr hnm hZ hRm hn0
  have hK : ∀ (x9 : Int) (h9 : Hp), res = (x9, h9) → FQ 0 n res (0, x9) n h9 := fun x9 h9 e => by subst e; exact ⟨rfl, rfl, rfl⟩
  unfold fX6_decades at hF
  show AW G X 0 [(2, ((35 : Nat) : Int)), (0, x1), (0, x2), (0, x3), (9, 0), (9, 0), (9, 0), (9, 0)] [] n h 0 0
  refine aw_aload_n hC dX6_decades_0 rfl ?_
  refine aw_iconst hC dX6_decades_1 (by decide) ?_
  obtain ⟨h1, eh1, hF⟩ := lb_some hF
  refine aw_p6i (k := 0) (a := 35) hC dX6_decades_2 lkRX6_129 (by decide) rfl rfl rfl rfl rfl (Or.inl ⟨hbt, by decide⟩) (fun _ => by decide) ?_
  refine aw_eqH eh1 ?_
  clear eh1
  refine aw_aload_n hC dX6_decades_5 rfl ?_
  refine aw_iload_n hC dX6_decades_6 rfl ?_
  refine aw_iconst hC dX6_decades_7 (by decide) ?_
  obtain ⟨r2, h4, q3, hF⟩ := bd_some hF
  refine clRX6_398 hC hRm hbt dX6_decades_8 rfl rfl (by decide) (Nat.le_of_ble_eq_true rfl) (Nat.le_of_ble_eq_true rfl) (ok_X6_isWhat q3) ?_
  refine aw_if_eq (tgt := 29) hC dX6_decades_11 (by decide) (fun c5 => ?_) (fun c5 => ?_)
  · have hF := it_t hF c5
    refine aw_iconst hC dX6_decades_29 (by decide) ?_
    exact aw_ireturn hC hZ (Nat.zero_le _) (Nat.zero_le _) hr dX6_decades_30 (hK _ _ (Option.some.inj hF).symm)
  · have hF := it_f hF c5
    refine aw_aload_n hC dX6_decades_14 rfl ?_
    refine aw_iload_n hC dX6_decades_15 rfl ?_
    refine aw_iconst hC dX6_decades_16 (by decide) ?_
    refine aw_bipush hC dX6_decades_17 (by decide) (by decide) ?_
    obtain ⟨r6, q7, hF⟩ := bp_some hF
    refine clRX6_385 hC hRm hbt dX6_decades_19 (Nat.le_of_ble_eq_true rfl) (Nat.le_of_ble_eq_true rfl) (ok_X6_within q7) ?_
    refine aw_iconst hC dX6_decades_22 (by decide) ?_
    obtain ⟨r8, h10, q9, hF⟩ := bd_some hF
    refine clRX6_290 hC hRm hbt dX6_decades_23 rfl rfl (by decide) (Nat.le_of_ble_eq_true rfl) (Nat.le_of_ble_eq_true rfl) (ok_X6_right q9) ?_
    refine aw_if_ne (tgt := 31) hC dX6_decades_26 (by decide) (fun c11 => ?_) (fun c11 => ?_)
    · have hF := it_f hF c11
      refine aw_aload_n hC dX6_decades_31 rfl ?_
      refine aw_aload_n hC dX6_decades_32 rfl ?_
      refine aw_gc6 (k := 46) (a := 35) (b := 54) hC hbt dX6_decades_33 lkRX6_75 (by decide) rfl rfl rfl (by decide) (by decide) ?_
      refine aw_aload_n hC dX6_decades_36 rfl ?_
      refine aw_gc6 (k := 47) (a := 35) (b := 55) hC hbt dX6_decades_37 lkRX6_78 (by decide) rfl rfl rfl (by decide) (by decide) ?_
      obtain ⟨r12, h14, q13, hF⟩ := bd_some hF
      refine clRX6_306 hC hRm hbt dX6_decades_40 rfl rfl (by decide) (Nat.le_of_ble_eq_true rfl) (Nat.le_of_ble_eq_true rfl) (ok_X6_copies_54_55 q13) ?_
      refine aw_aload_n hC dX6_decades_43 rfl ?_
      refine aw_iload_n hC dX6_decades_44 rfl ?_
      obtain ⟨h15, eh15, hF⟩ := lb_some hF
      refine aw_p6i (k := 67) (a := 35) hC dX6_decades_45 lkRX6_463 (by decide) rfl rfl rfl rfl rfl (Or.inl ⟨hbt, by decide⟩) (fun _ => by decide) ?_
      refine aw_eqH eh15 ?_
      clear eh15
      refine aw_iconst hC dX6_decades_48 (by decide) ?_
      refine aw_istore4 hC dX6_decades_49 rfl ?_
      refine aw_iconst hC dX6_decades_51 (by decide) ?_
      refine aw_istore5 hC dX6_decades_52 rfl ?_
      refine aw_weak (ls' := [(2, ((35 : Nat) : Int)), (9, 0), (0, x2), (0, x3), (0, 0), (0, 0), (9, 0), (9, 0)]) ⟨Or.inr rfl, Or.inl rfl, Or.inr rfl, Or.inr rfl, Or.inr rfl, Or.inr rfl, Or.inl rfl, Or.inl rfl, trivial⟩ ?_
      obtain ⟨e36, he, hF⟩ := bp_some hF
      refine fX6_decades_l54_ok hC hZ hRm hbt hr FU _ _ _ e36 he (fun y37 h38 er => ?_)
      replace er := er.symm
      subst er
      try dsimp only at hF
      refine aw_aload_n hC dX6_decades_117 rfl ?_
      refine aw_iconst hC dX6_decades_118 (by decide) ?_
      obtain ⟨h39, eh39, hF⟩ := lb_some hF
      refine aw_p6i (k := 51) (a := 35) hC dX6_decades_119 lkRX6_87 (by decide) rfl rfl rfl rfl rfl (Or.inl ⟨hbt, by decide⟩) (fun _ => by decide) ?_
      refine aw_eqH eh39 ?_
      clear eh39
      refine aw_aload_n hC dX6_decades_122 rfl ?_
      obtain ⟨r40, q41, hF⟩ := bp_some hF
      refine clRX6_389 hC hRm hbt dX6_decades_123 rfl rfl (by decide) (Nat.le_of_ble_eq_true rfl) (Nat.le_of_ble_eq_true rfl) (ok_X6_treesStand q41) ?_
      refine aw_istore5 hC dX6_decades_126 rfl ?_
      refine aw_iconst hC dX6_decades_128 (by decide) ?_
      refine aw_istore6 hC dX6_decades_129 rfl ?_
      refine aw_iconst hC dX6_decades_131 (by decide) ?_
      refine aw_istore7 hC dX6_decades_132 rfl ?_
      obtain ⟨e50, he, hF⟩ := bp_some hF
      refine fX6_decades_l134_ok hC hZ hRm hbt hr FU _ _ e50 he (fun y51 er => ?_)
      replace er := er.symm
      subst er
      try dsimp only at hF
      refine aw_aload_n hC dX6_decades_186 rfl ?_
      refine aw_aload_n hC dX6_decades_187 rfl ?_
      refine aw_gc6 (k := 47) (a := 35) (b := 55) hC hbt dX6_decades_188 lkRX6_78 (by decide) rfl rfl rfl (by decide) (by decide) ?_
      refine aw_aload_n hC dX6_decades_191 rfl ?_
      refine aw_gc6 (k := 46) (a := 35) (b := 54) hC hbt dX6_decades_192 lkRX6_75 (by decide) rfl rfl rfl (by decide) (by decide) ?_
      obtain ⟨r52, h54, q53, hF⟩ := bd_some hF
      refine clRX6_306 hC hRm hbt dX6_decades_195 rfl rfl (by decide) (Nat.le_of_ble_eq_true rfl) (Nat.le_of_ble_eq_true rfl) (ok_X6_copies_55_54 q53) ?_
      refine aw_iload_n hC dX6_decades_198 rfl ?_
      refine aw_if_ne (tgt := 207) hC dX6_decades_199 (by decide) (fun c55 => ?_) (fun c55 => ?_)
      · have hF := it_f hF c55
        refine aw_iload_n hC dX6_decades_207 rfl ?_
        refine aw_iconst hC dX6_decades_208 (by decide) ?_
        refine aw_icmp_ne (tgt := 217) hC dX6_decades_209 (by decide) (fun c56 => ?_) (fun c56 => ?_)
        · have hF := it_f hF c56
          refine aw_iload hC dX6_decades_217 rfl ?_
          exact aw_ireturn hC hZ (Nat.zero_le _) (Nat.zero_le _) hr dX6_decades_219 (hK _ _ (Option.some.inj hF).symm)
        · have hF := it_t hF c56
          refine aw_iload hC dX6_decades_212 rfl ?_
          refine aw_goto (tgt := 219) hC dX6_decades_214 (by decide) ?_
          exact aw_ireturn hC hZ (Nat.zero_le _) (Nat.zero_le _) hr dX6_decades_219 (hK _ _ (Option.some.inj hF).symm)
      · have hF := it_t hF c55
        refine aw_iload hC dX6_decades_202 rfl ?_
        refine aw_goto (tgt := 219) hC dX6_decades_204 (by decide) ?_
        exact aw_ireturn hC hZ (Nat.zero_le _) (Nat.zero_le _) hr dX6_decades_219 (hK _ _ (Option.some.inj hF).symm)
    · have hF := it_t hF c11
      refine aw_iconst hC dX6_decades_29 (by decide) ?_
      exact aw_ireturn hC hZ (Nat.zero_le _) (Nat.zero_le _) hr dX6_decades_30 (hK _ _ (Option.some.inj hF).symm)
def fX6_villaIn_l12 (x1 : Int) (x2 : Int) (x3 : Int) (x4 : Int) (h : Hp) : Option ((Int × Int × Int × Hp) ⊕ (Int × Int × Hp)) :=
  (if 8 ≤ x4 then some (.inr (x2, x3, h)) else gd_ (0 ≤ x1 ∧ x1 < 64) (bp_ (fX6_fogNow h) (fun r4 => bd_ (fX6_looks x1 ((i_add ((h 36 (Int.toNat x1))) 2)) x4 r4 h) (fun r6 h8 => lb_ ((i_add x2 r6)) (fun v9 => (if r6 ≤ x3 then some (.inl (v9, x3, (i_add x4 1), h8)) else some (.inl (v9, r6, (i_add x4 1), h8))))))))
def fX6_villaIn (x1 : Int) (h : Hp) : Option (Int × Hp) :=
  lb_ (st h 35 54 0) (fun h1 => bp_ (it_ (fun s => fX6_villaIn_l12 x1 s.1 s.2.1 s.2.2.1 s.2.2.2) FU (0, 0, 0, h1)) (fun e13 => (fun y14 y15 h16 => gd_ (0 ≤ (60 : Int) ∧ (60 : Int) < 62) ((if (h16 54 (Int.toNat 60)) = (-1) then some (y14, h16) else gd_ (0 ≤ (0 : Int) ∧ (0 : Int) < 7) (lb_ (st h16 58 (Int.toNat 0) y14) (fun h20 => gd_ (0 ≤ (1 : Int) ∧ (1 : Int) < 7) (lb_ (st h20 58 (Int.toNat 1) y15) (fun h22 => gd_ (0 ≤ x1 ∧ x1 < 64) (gd_ (0 ≤ (2 : Int) ∧ (2 : Int) < 7) (lb_ (st h22 58 (Int.toNat 2) ((h22 36 (Int.toNat x1)))) (fun h25 => gd_ (0 ≤ (3 : Int) ∧ (3 : Int) < 7) (lb_ (st h25 58 (Int.toNat 3) 0) (fun h27 => gd_ (0 ≤ (61 : Int) ∧ (61 : Int) < 62) (gd_ (0 ≤ (4 : Int) ∧ (4 : Int) < 7) (lb_ (st h27 58 (Int.toNat 4) ((h27 54 (Int.toNat 61)))) (fun h30 => bp_ (fX6_housesSeen ((-1)) h30) (fun r31 => bp_ (fX6_bits r31 h30) (fun r33 => gd_ (0 ≤ (5 : Int) ∧ (5 : Int) < 7) (lb_ (st h30 58 (Int.toNat 5) r33) (fun h36 => gd_ (0 ≤ (6 : Int) ∧ (6 : Int) < 7) (lb_ (st h36 58 (Int.toNat 6) 0) (fun h38 => gd_ (0 ≤ (60 : Int) ∧ (60 : Int) < 62) (gd_ (0 ≤ (h38 54 (Int.toNat 60)) ∧ (h38 54 (Int.toNat 60)) < 4) (bd_ (fX6_reckons ((h38 40 (Int.toNat ((h38 54 (Int.toNat 60)))))) h38) (fun r41 h43 => (if 0 ≤ r41 then (if r41 ≤ 999 then some (r41, h43) else some (999, h43)) else some (0, h43)))))))))))))))))))))))))) e13.1 e13.2.1 e13.2.2))
theorem fX6_villaIn_l12_ok {G : GD} {X : CX} {n : Nat} {Q : Av → Nat → Hp → Prop} (hC : Cx G X RX6 cX6_villaIn) (hZ : ZOK X G Q 0 0) (hRm : X.R = rmd 2 0 0) (hbt : X.bt = true) (hr : X.meth.sig.returnType = (some .int)) {x1 : Int} : ∀ (f : Nat) (x2 : Int) (x3 : Int) (x4 : Int) (h : Hp) (r : Int × Int × Hp), it_ (fun s => fX6_villaIn_l12 x1 s.1 s.2.1 s.2.2.1 s.2.2.2) f (x2, x3, x4, h) = some r → (∀ (y2 : Int) (y3 : Int) (h9 : Hp), r = (y2, y3, h9) → AW G X 64 [(2, ((35 : Nat) : Int)), (0, x1), (0, y2), (0, y3), (9, 0), (9, 0)] [] n h9 0 0) → AW G X 12 [(2, ((35 : Nat) : Int)), (0, x1), (0, x2), (0, x3), (0, x4), (9, 0)] [] n h 0 0 := by
  intro f
  induction f with
  | zero => intro x2 x3 x4 h r hI; cases hI
  | succ f ih0 =>
    intro x2 x3 x4 h r hI hX
    obtain ⟨b, hF, hb1, hb2⟩ := it_succ hI
    have hF : fX6_villaIn_l12 x1 x2 x3 x4 h = some b := hF
    unfold fX6_villaIn_l12 at hF
    refine aw_iload hC dX6_villaIn_12 rfl ?_
    refine aw_bipush hC dX6_villaIn_14 (by decide) (by decide) ?_
    refine aw_icmp_ge (tgt := 64) hC dX6_villaIn_16 (by decide) (fun c2 => ?_) (fun c2 => ?_)
    · have hF := it_t hF c2
      refine aw_weak (ls' := [(2, ((35 : Nat) : Int)), (0, x1), (0, x2), (0, x3), (9, 0), (9, 0)]) ⟨Or.inr rfl, Or.inr rfl, Or.inr rfl, Or.inr rfl, Or.inl rfl, Or.inl rfl, trivial⟩ ?_
      exact hX _ _ _ (hb2 _ (Option.some.inj hF).symm).symm
    · have hF := it_f hF c2
      refine aw_aload_n hC dX6_villaIn_19 rfl ?_
      refine aw_iload_n hC dX6_villaIn_20 rfl ?_
      refine aw_aload_n hC dX6_villaIn_21 rfl ?_
      refine aw_gc6 (k := 6) (a := 35) (b := 36) hC hbt dX6_villaIn_22 lkRX6_16 (by decide) rfl rfl rfl (by decide) (by decide) ?_
      refine aw_iload_n hC dX6_villaIn_25 rfl ?_
      obtain ⟨g3, hF⟩ := gd_some hF
      refine aw_iaload (a := 36) hC dX6_villaIn_26 rfl rfl (Or.inl ⟨hbt, by decide⟩) g3.1 g3.2 ?_
      refine aw_iconst hC dX6_villaIn_27 (by decide) ?_
      refine aw_iadd hC dX6_villaIn_28 ?_
      refine aw_iload hC dX6_villaIn_29 rfl ?_
      refine aw_aload_n hC dX6_villaIn_31 rfl ?_
      obtain ⟨r4, q5, hF⟩ := bp_some hF
      refine clRX6_344 hC hRm hbt dX6_villaIn_32 rfl rfl (by decide) (Nat.le_of_ble_eq_true rfl) (Nat.le_of_ble_eq_true rfl) (ok_X6_fogNow q5) ?_
      obtain ⟨r6, h8, q7, hF⟩ := bd_some hF
      refine clRX6_347 hC hRm hbt dX6_villaIn_35 rfl rfl (by decide) (Nat.le_of_ble_eq_true rfl) (Nat.le_of_ble_eq_true rfl) (ok_X6_looks q7) ?_
      refine aw_istore5 hC dX6_villaIn_38 rfl ?_
      refine aw_iload_n hC dX6_villaIn_40 rfl ?_
      refine aw_iload hC dX6_villaIn_41 rfl ?_
      refine aw_iadd hC dX6_villaIn_43 ?_
      obtain ⟨v9, ev9, hF⟩ := lb_some hF
      refine aw_eqT ev9 ?_
      clear ev9
      refine aw_istore2 hC dX6_villaIn_44 rfl ?_
      refine aw_iload hC dX6_villaIn_45 rfl ?_
      refine aw_iload_n hC dX6_villaIn_47 rfl ?_
      refine aw_icmp_le (tgt := 56) hC dX6_villaIn_48 (by decide) (fun c10 => ?_) (fun c10 => ?_)
      · have hF := it_t hF c10
        refine aw_iload_n hC dX6_villaIn_56 rfl ?_
        refine aw_istore3 hC dX6_villaIn_57 rfl ?_
        refine aw_iinc4 hC dX6_villaIn_58 rfl ?_
        refine aw_goto (tgt := 12) hC dX6_villaIn_61 (by decide) ?_
        refine aw_weak (ls' := [(2, ((35 : Nat) : Int)), (0, x1), (0, v9), (0, x3), (0, (i_add x4 1)), (9, 0)]) ⟨Or.inr rfl, Or.inr rfl, Or.inr rfl, Or.inr rfl, Or.inr rfl, Or.inl rfl, trivial⟩ ?_
        exact ih0 _ _ _ _ r (hb1 _ (Option.some.inj hF).symm) hX
      · have hF := it_f hF c10
        refine aw_iload hC dX6_villaIn_51 rfl ?_
        refine aw_goto (tgt := 57) hC dX6_villaIn_53 (by decide) ?_
        refine aw_istore3 hC dX6_villaIn_57 rfl ?_
        refine aw_iinc4 hC dX6_villaIn_58 rfl ?_
        refine aw_goto (tgt := 12) hC dX6_villaIn_61 (by decide) ?_
        refine aw_weak (ls' := [(2, ((35 : Nat) : Int)), (0, x1), (0, v9), (0, r6), (0, (i_add x4 1)), (9, 0)]) ⟨Or.inr rfl, Or.inr rfl, Or.inr rfl, Or.inr rfl, Or.inr rfl, Or.inl rfl, trivial⟩ ?_
        exact ih0 _ _ _ _ r (hb1 _ (Option.some.inj hF).symm) hX
theorem ok_X6_villaIn {G : GD} {n : Nat} {x1 : Int} {h : Hp} {res : Int × Hp} (hF : fX6_villaIn x1 h = some res) : Con G yX6_villaIn cX6_villaIn 6 (some .int) 2 0 0 true [(2, ((35 : Nat) : Int)), (0, x1)] n h (FQ 0 n res) := by
  refine con_of (pad := 4) (own := RX6) (plainFor_of_name (by decide)) rfl rfl ?_
  intro X hC hbt hr hnm hZ hRm hn0
  have hK : ∀ (x9 : Int) (h9 : Hp), res = (x9, h9) → FQ 0 n res (0, x9) n h9 := fun x9 h9 e => by subst e; exact ⟨rfl, rfl, rfl⟩
  unfold fX6_villaIn at hF
  show AW G X 0 [(2, ((35 : Nat) : Int)), (0, x1), (9, 0), (9, 0), (9, 0), (9, 0)] [] n h 0 0
  refine aw_iconst hC dX6_villaIn_0 (by decide) ?_
  refine aw_istore2 hC dX6_villaIn_1 rfl ?_
  refine aw_iconst hC dX6_villaIn_2 (by decide) ?_
  refine aw_istore3 hC dX6_villaIn_3 rfl ?_
  refine aw_aload_n hC dX6_villaIn_4 rfl ?_
  refine aw_lconst (v := 0) hC dX6_villaIn_5 (by decide) (by decide) ?_
  obtain ⟨h1, eh1, hF⟩ := lb_some hF
  refine aw_p6l (k := 54) (a := 35) hC dX6_villaIn_6 lkRX6_338 (by decide) rfl rfl rfl rfl rfl (Or.inl ⟨hbt, by decide⟩) (fun _ => by decide) ?_
  refine aw_eqH eh1 ?_
  clear eh1
  refine aw_iconst hC dX6_villaIn_9 (by decide) ?_
  refine aw_istore4 hC dX6_villaIn_10 rfl ?_
  obtain ⟨e13, he, hF⟩ := bp_some hF
  refine fX6_villaIn_l12_ok hC hZ hRm hbt hr FU _ _ _ _ e13 he (fun y14 y15 h16 er => ?_)
  replace er := er.symm
  subst er
  try dsimp only at hF
  refine aw_aload_n hC dX6_villaIn_64 rfl ?_
  refine aw_gc6 (k := 46) (a := 35) (b := 54) hC hbt dX6_villaIn_65 lkRX6_75 (by decide) rfl rfl rfl (by decide) (by decide) ?_
  refine aw_bipush hC dX6_villaIn_68 (by decide) (by decide) ?_
  obtain ⟨g17, hF⟩ := gd_some hF
  refine aw_iaload (a := 54) hC dX6_villaIn_70 rfl rfl (Or.inl ⟨hbt, by decide⟩) g17.1 g17.2 ?_
  refine aw_iconst hC dX6_villaIn_71 (by decide) ?_
  refine aw_icmp_ne (tgt := 77) hC dX6_villaIn_72 (by decide) (fun c18 => ?_) (fun c18 => ?_)
  · have hF := it_f hF c18
    refine aw_aload_n hC dX6_villaIn_77 rfl ?_
    refine aw_gc6 (k := 57) (a := 35) (b := 58) hC hbt dX6_villaIn_78 lkRX6_96 (by decide) rfl rfl rfl (by decide) (by decide) ?_
    refine aw_iconst hC dX6_villaIn_81 (by decide) ?_
    refine aw_iload_n hC dX6_villaIn_82 rfl ?_
    obtain ⟨g19, hF⟩ := gd_some hF
    obtain ⟨h20, eh20, hF⟩ := lb_some hF
    refine aw_iastore (a := 58) hC dX6_villaIn_83 rfl rfl (Or.inl ⟨hbt, by decide⟩) g19.1 g19.2 ?_
    refine aw_eqH eh20 ?_
    clear eh20
    refine aw_aload_n hC dX6_villaIn_84 rfl ?_
    refine aw_gc6 (k := 57) (a := 35) (b := 58) hC hbt dX6_villaIn_85 lkRX6_96 (by decide) rfl rfl rfl (by decide) (by decide) ?_
    refine aw_iconst hC dX6_villaIn_88 (by decide) ?_
    refine aw_iload_n hC dX6_villaIn_89 rfl ?_
    obtain ⟨g21, hF⟩ := gd_some hF
    obtain ⟨h22, eh22, hF⟩ := lb_some hF
    refine aw_iastore (a := 58) hC dX6_villaIn_90 rfl rfl (Or.inl ⟨hbt, by decide⟩) g21.1 g21.2 ?_
    refine aw_eqH eh22 ?_
    clear eh22
    refine aw_aload_n hC dX6_villaIn_91 rfl ?_
    refine aw_gc6 (k := 57) (a := 35) (b := 58) hC hbt dX6_villaIn_92 lkRX6_96 (by decide) rfl rfl rfl (by decide) (by decide) ?_
    refine aw_iconst hC dX6_villaIn_95 (by decide) ?_
    refine aw_aload_n hC dX6_villaIn_96 rfl ?_
    refine aw_gc6 (k := 6) (a := 35) (b := 36) hC hbt dX6_villaIn_97 lkRX6_16 (by decide) rfl rfl rfl (by decide) (by decide) ?_
    refine aw_iload_n hC dX6_villaIn_100 rfl ?_
    obtain ⟨g23, hF⟩ := gd_some hF
    refine aw_iaload (a := 36) hC dX6_villaIn_101 rfl rfl (Or.inl ⟨hbt, by decide⟩) g23.1 g23.2 ?_
    obtain ⟨g24, hF⟩ := gd_some hF
    obtain ⟨h25, eh25, hF⟩ := lb_some hF
    refine aw_iastore (a := 58) hC dX6_villaIn_102 rfl rfl (Or.inl ⟨hbt, by decide⟩) g24.1 g24.2 ?_
    refine aw_eqH eh25 ?_
    clear eh25
    refine aw_aload_n hC dX6_villaIn_103 rfl ?_
    refine aw_gc6 (k := 57) (a := 35) (b := 58) hC hbt dX6_villaIn_104 lkRX6_96 (by decide) rfl rfl rfl (by decide) (by decide) ?_
    refine aw_iconst hC dX6_villaIn_107 (by decide) ?_
    refine aw_iconst hC dX6_villaIn_108 (by decide) ?_
    obtain ⟨g26, hF⟩ := gd_some hF
    obtain ⟨h27, eh27, hF⟩ := lb_some hF
    refine aw_iastore (a := 58) hC dX6_villaIn_109 rfl rfl (Or.inl ⟨hbt, by decide⟩) g26.1 g26.2 ?_
    refine aw_eqH eh27 ?_
    clear eh27
    refine aw_aload_n hC dX6_villaIn_110 rfl ?_
    refine aw_gc6 (k := 57) (a := 35) (b := 58) hC hbt dX6_villaIn_111 lkRX6_96 (by decide) rfl rfl rfl (by decide) (by decide) ?_
    refine aw_iconst hC dX6_villaIn_114 (by decide) ?_
    refine aw_aload_n hC dX6_villaIn_115 rfl ?_
    refine aw_gc6 (k := 46) (a := 35) (b := 54) hC hbt dX6_villaIn_116 lkRX6_75 (by decide) rfl rfl rfl (by decide) (by decide) ?_
    refine aw_bipush hC dX6_villaIn_119 (by decide) (by decide) ?_
    obtain ⟨g28, hF⟩ := gd_some hF
    refine aw_iaload (a := 54) hC dX6_villaIn_121 rfl rfl (Or.inl ⟨hbt, by decide⟩) g28.1 g28.2 ?_
    obtain ⟨g29, hF⟩ := gd_some hF
    obtain ⟨h30, eh30, hF⟩ := lb_some hF
    refine aw_iastore (a := 58) hC dX6_villaIn_122 rfl rfl (Or.inl ⟨hbt, by decide⟩) g29.1 g29.2 ?_
    refine aw_eqH eh30 ?_
    clear eh30
    refine aw_aload_n hC dX6_villaIn_123 rfl ?_
    refine aw_gc6 (k := 57) (a := 35) (b := 58) hC hbt dX6_villaIn_124 lkRX6_96 (by decide) rfl rfl rfl (by decide) (by decide) ?_
    refine aw_iconst hC dX6_villaIn_127 (by decide) ?_
    refine aw_aload_n hC dX6_villaIn_128 rfl ?_
    refine aw_iconst hC dX6_villaIn_129 (by decide) ?_
    obtain ⟨r31, q32, hF⟩ := bp_some hF
    refine clRX6_367 hC hRm hbt dX6_villaIn_130 rfl rfl (by decide) (Nat.le_of_ble_eq_true rfl) (Nat.le_of_ble_eq_true rfl) (ok_X6_housesSeen q32) ?_
    obtain ⟨r33, q34, hF⟩ := bp_some hF
    refine clRX6_370 hC hRm hbt dX6_villaIn_133 (Nat.le_of_ble_eq_true rfl) (Nat.le_of_ble_eq_true rfl) (ok_X6_bits q34) ?_
    obtain ⟨g35, hF⟩ := gd_some hF
    obtain ⟨h36, eh36, hF⟩ := lb_some hF
    refine aw_iastore (a := 58) hC dX6_villaIn_136 rfl rfl (Or.inl ⟨hbt, by decide⟩) g35.1 g35.2 ?_
    refine aw_eqH eh36 ?_
    clear eh36
    refine aw_aload_n hC dX6_villaIn_137 rfl ?_
    refine aw_gc6 (k := 57) (a := 35) (b := 58) hC hbt dX6_villaIn_138 lkRX6_96 (by decide) rfl rfl rfl (by decide) (by decide) ?_
    refine aw_bipush hC dX6_villaIn_141 (by decide) (by decide) ?_
    refine aw_iconst hC dX6_villaIn_143 (by decide) ?_
    obtain ⟨g37, hF⟩ := gd_some hF
    obtain ⟨h38, eh38, hF⟩ := lb_some hF
    refine aw_iastore (a := 58) hC dX6_villaIn_144 rfl rfl (Or.inl ⟨hbt, by decide⟩) g37.1 g37.2 ?_
    refine aw_eqH eh38 ?_
    clear eh38
    refine aw_aload_n hC dX6_villaIn_145 rfl ?_
    refine aw_aload_n hC dX6_villaIn_146 rfl ?_
    refine aw_gc6 (k := 10) (a := 35) (b := 40) hC hbt dX6_villaIn_147 lkRX6_29 (by decide) rfl rfl rfl (by decide) (by decide) ?_
    refine aw_aload_n hC dX6_villaIn_150 rfl ?_
    refine aw_gc6 (k := 46) (a := 35) (b := 54) hC hbt dX6_villaIn_151 lkRX6_75 (by decide) rfl rfl rfl (by decide) (by decide) ?_
    refine aw_bipush hC dX6_villaIn_154 (by decide) (by decide) ?_
    obtain ⟨g39, hF⟩ := gd_some hF
    refine aw_iaload (a := 54) hC dX6_villaIn_156 rfl rfl (Or.inl ⟨hbt, by decide⟩) g39.1 g39.2 ?_
    obtain ⟨g40, hF⟩ := gd_some hF
    refine aw_iaload (a := 40) hC dX6_villaIn_157 rfl rfl (Or.inl ⟨hbt, by decide⟩) g40.1 g40.2 ?_
    obtain ⟨r41, h43, q42, hF⟩ := bd_some hF
    refine clRX6_373 hC hRm hbt dX6_villaIn_158 rfl rfl (by decide) (Nat.le_of_ble_eq_true rfl) (Nat.le_of_ble_eq_true rfl) (ok_X6_reckons q42) ?_
    refine aw_istore4 hC dX6_villaIn_161 rfl ?_
    refine aw_iload hC dX6_villaIn_163 rfl ?_
    refine aw_if_ge (tgt := 172) hC dX6_villaIn_165 (by decide) (fun c44 => ?_) (fun c44 => ?_)
    · have hF := it_t hF c44
      refine aw_iload hC dX6_villaIn_172 rfl ?_
      refine aw_sipush hC dX6_villaIn_174 (by decide) (by decide) ?_
      refine aw_icmp_le (tgt := 186) hC dX6_villaIn_177 (by decide) (fun c45 => ?_) (fun c45 => ?_)
      · have hF := it_t hF c45
        refine aw_iload hC dX6_villaIn_186 rfl ?_
        exact aw_ireturn hC hZ (Nat.zero_le _) (Nat.zero_le _) hr dX6_villaIn_188 (hK _ _ (Option.some.inj hF).symm)
      · have hF := it_f hF c45
        refine aw_sipush hC dX6_villaIn_180 (by decide) (by decide) ?_
        refine aw_goto (tgt := 188) hC dX6_villaIn_183 (by decide) ?_
        exact aw_ireturn hC hZ (Nat.zero_le _) (Nat.zero_le _) hr dX6_villaIn_188 (hK _ _ (Option.some.inj hF).symm)
    · have hF := it_f hF c44
      refine aw_iconst hC dX6_villaIn_168 (by decide) ?_
      refine aw_goto (tgt := 188) hC dX6_villaIn_169 (by decide) ?_
      exact aw_ireturn hC hZ (Nat.zero_le _) (Nat.zero_le _) hr dX6_villaIn_188 (hK _ _ (Option.some.inj hF).symm)
  · have hF := it_t hF c18
    refine aw_iload_n hC dX6_villaIn_75 rfl ?_
    exact aw_ireturn hC hZ (Nat.zero_le _) (Nat.zero_le _) hr dX6_villaIn_76 (hK _ _ (Option.some.inj hF).symm)
def fX6_hollow_l27 (x1 : Int) (x2 : Int) (x3 : Int) (x4 : Int) (h : Hp) : Option ((Int × Int × Int × Hp) ⊕ (Int × Int × Hp)) :=
  bp_ (fX6_cells h) (fun r9 => (if r9 ≤ x4 then some (.inr (x2, x3, h)) else bp_ (fX6_isBare x4 h) (fun r12 => (if r12 = 0 then some (.inl (x2, x3, (i_add x4 1), h)) else bd_ (fX6_villaIn x4 h) (fun r15 h17 => (if x2 = (-1) then some (.inl (x4, r15, (i_add x4 1), h17)) else (if r15 < x3 then some (.inl (x4, r15, (i_add x4 1), h17)) else some (.inl (x2, x3, (i_add x4 1), h17)))))))))
def fX6_hollow (x1 : Int) (h : Hp) : Option (Int × Hp) :=
  lb_ (st h 35 0 0) (fun h1 => bd_ (fX6_isWhat x1 1 h1) (fun r2 h4 => (if r2 = 0 then some (0, h4) else bd_ (fX6_laysOut h4) (fun r6 h8 => bp_ (it_ (fun s => fX6_hollow_l27 x1 s.1 s.2.1 s.2.2.1 s.2.2.2) FU ((-1), (-1), 0, h8)) (fun e24 => (fun y25 y26 h27 => (if x1 = 0 then some (y25, h27) else some (y26, h27))) e24.1 e24.2.1 e24.2.2)))))
theorem fX6_hollow_l27_ok {G : GD} {X : CX} {n : Nat} {Q : Av → Nat → Hp → Prop} (hC : Cx G X RX6 cX6_hollow) (hZ : ZOK X G Q 0 0) (hRm : X.R = rmd 3 0 0) (hbt : X.bt = true) (hr : X.meth.sig.returnType = (some .int)) {x1 : Int} : ∀ (f : Nat) (x2 : Int) (x3 : Int) (x4 : Int) (h : Hp) (r : Int × Int × Hp), it_ (fun s => fX6_hollow_l27 x1 s.1 s.2.1 s.2.2.1 s.2.2.2) f (x2, x3, x4, h) = some r → (∀ (y2 : Int) (y3 : Int) (h9 : Hp), r = (y2, y3, h9) → AW G X 82 [(9, 0), (0, x1), (0, y2), (0, y3), (9, 0), (9, 0)] [] n h9 0 0) → AW G X 27 [(2, ((35 : Nat) : Int)), (0, x1), (0, x2), (0, x3), (0, x4), (9, 0)] [] n h 0 0 := by
  intro f
  induction f with
  | zero => intro x2 x3 x4 h r hI; cases hI
  | succ f ih0 =>
    intro x2 x3 x4 h r hI hX
    obtain ⟨b, hF, hb1, hb2⟩ := it_succ hI
    have hF : fX6_hollow_l27 x1 x2 x3 x4 h = some b := hF
    unfold fX6_hollow_l27 at hF
    refine aw_iload hC dX6_hollow_27 rfl ?_
    refine aw_aload_n hC dX6_hollow_29 rfl ?_
    obtain ⟨r9, q10, hF⟩ := bp_some hF
    refine clRX6_323 hC hRm hbt dX6_hollow_30 rfl rfl (by decide) (Nat.le_of_ble_eq_true rfl) (Nat.le_of_ble_eq_true rfl) (ok_X6_cells q10) ?_
    refine aw_icmp_ge (tgt := 82) hC dX6_hollow_33 (by decide) (fun c11 => ?_) (fun c11 => ?_)
    · have hF := it_t hF c11
      refine aw_weak (ls' := [(9, 0), (0, x1), (0, x2), (0, x3), (9, 0), (9, 0)]) ⟨Or.inl rfl, Or.inr rfl, Or.inr rfl, Or.inr rfl, Or.inl rfl, Or.inl rfl, trivial⟩ ?_
      exact hX _ _ _ (hb2 _ (Option.some.inj hF).symm).symm
    · have hF := it_f hF c11
      refine aw_aload_n hC dX6_hollow_36 rfl ?_
      refine aw_iload hC dX6_hollow_37 rfl ?_
      obtain ⟨r12, q13, hF⟩ := bp_some hF
      refine clRX6_422 hC hRm hbt dX6_hollow_39 rfl rfl (by decide) (Nat.le_of_ble_eq_true rfl) (Nat.le_of_ble_eq_true rfl) (ok_X6_isBare q13) ?_
      refine aw_if_ne (tgt := 48) hC dX6_hollow_42 (by decide) (fun c14 => ?_) (fun c14 => ?_)
      · have hF := it_f hF c14
        refine aw_aload_n hC dX6_hollow_48 rfl ?_
        refine aw_iload hC dX6_hollow_49 rfl ?_
        obtain ⟨r15, h17, q16, hF⟩ := bd_some hF
        refine clRX6_470 hC hRm hbt dX6_hollow_51 rfl rfl (by decide) (Nat.le_of_ble_eq_true rfl) (Nat.le_of_ble_eq_true rfl) (ok_X6_villaIn q16) ?_
        refine aw_istore5 hC dX6_hollow_54 rfl ?_
        refine aw_iload_n hC dX6_hollow_56 rfl ?_
        refine aw_iconst hC dX6_hollow_57 (by decide) ?_
        refine aw_icmp_eq (tgt := 70) hC dX6_hollow_58 (by decide) (fun c18 => ?_) (fun c18 => ?_)
        · have hF := it_t hF c18
          refine aw_iload hC dX6_hollow_70 rfl ?_
          refine aw_istore2 hC dX6_hollow_72 rfl ?_
          refine aw_iload hC dX6_hollow_73 rfl ?_
          refine aw_istore3 hC dX6_hollow_75 rfl ?_
          refine aw_iinc4 hC dX6_hollow_76 rfl ?_
          refine aw_goto (tgt := 27) hC dX6_hollow_79 (by decide) ?_
          refine aw_weak (ls' := [(2, ((35 : Nat) : Int)), (0, x1), (0, x4), (0, r15), (0, (i_add x4 1)), (9, 0)]) ⟨Or.inr rfl, Or.inr rfl, Or.inr rfl, Or.inr rfl, Or.inr rfl, Or.inl rfl, trivial⟩ ?_
          exact ih0 _ _ _ _ r (hb1 _ (Option.some.inj hF).symm) hX
        · have hF := it_f hF c18
          refine aw_iload hC dX6_hollow_61 rfl ?_
          refine aw_iload_n hC dX6_hollow_63 rfl ?_
          refine aw_icmp_lt (tgt := 70) hC dX6_hollow_64 (by decide) (fun c20 => ?_) (fun c20 => ?_)
          · have hF := it_t hF c20
            refine aw_iload hC dX6_hollow_70 rfl ?_
            refine aw_istore2 hC dX6_hollow_72 rfl ?_
            refine aw_iload hC dX6_hollow_73 rfl ?_
            refine aw_istore3 hC dX6_hollow_75 rfl ?_
            refine aw_iinc4 hC dX6_hollow_76 rfl ?_
            refine aw_goto (tgt := 27) hC dX6_hollow_79 (by decide) ?_
            refine aw_weak (ls' := [(2, ((35 : Nat) : Int)), (0, x1), (0, x4), (0, r15), (0, (i_add x4 1)), (9, 0)]) ⟨Or.inr rfl, Or.inr rfl, Or.inr rfl, Or.inr rfl, Or.inr rfl, Or.inl rfl, trivial⟩ ?_
            exact ih0 _ _ _ _ r (hb1 _ (Option.some.inj hF).symm) hX
          · have hF := it_f hF c20
            refine aw_goto (tgt := 76) hC dX6_hollow_67 (by decide) ?_
            refine aw_iinc4 hC dX6_hollow_76 rfl ?_
            refine aw_goto (tgt := 27) hC dX6_hollow_79 (by decide) ?_
            refine aw_weak (ls' := [(2, ((35 : Nat) : Int)), (0, x1), (0, x2), (0, x3), (0, (i_add x4 1)), (9, 0)]) ⟨Or.inr rfl, Or.inr rfl, Or.inr rfl, Or.inr rfl, Or.inr rfl, Or.inl rfl, trivial⟩ ?_
            exact ih0 _ _ _ _ r (hb1 _ (Option.some.inj hF).symm) hX
      · have hF := it_t hF c14
        refine aw_goto (tgt := 76) hC dX6_hollow_45 (by decide) ?_
        refine aw_iinc4 hC dX6_hollow_76 rfl ?_
        refine aw_goto (tgt := 27) hC dX6_hollow_79 (by decide) ?_
        exact ih0 _ _ _ _ r (hb1 _ (Option.some.inj hF).symm) hX
theorem ok_X6_hollow {G : GD} {n : Nat} {x1 : Int} {h : Hp} {res : Int × Hp} (hF : fX6_hollow x1 h = some res) : Con G yX6_hollow cX6_hollow 6 (some .int) 3 0 0 true [(2, ((35 : Nat) : Int)), (0, x1)] n h (FQ 0 n res) := by
  refine con_of (pad := 4) (own := RX6) (plainFor_of_name (by decide)) rfl rfl ?_
  intro X hC hbt hr hnm hZ hRm hn0
  have hK : ∀ (x9 : Int) (h9 : Hp), res = (x9, h9) → FQ 0 n res (0, x9) n h9 := fun x9 h9 e => by subst e; exact ⟨rfl, rfl, rfl⟩
  unfold fX6_hollow at hF
  show AW G X 0 [(2, ((35 : Nat) : Int)), (0, x1), (9, 0), (9, 0), (9, 0), (9, 0)] [] n h 0 0
  refine aw_aload_n hC dX6_hollow_0 rfl ?_
  refine aw_iconst hC dX6_hollow_1 (by decide) ?_
  obtain ⟨h1, eh1, hF⟩ := lb_some hF
  refine aw_p6i (k := 0) (a := 35) hC dX6_hollow_2 lkRX6_129 (by decide) rfl rfl rfl rfl rfl (Or.inl ⟨hbt, by decide⟩) (fun _ => by decide) ?_
  refine aw_eqH eh1 ?_
  clear eh1
  refine aw_aload_n hC dX6_hollow_5 rfl ?_
  refine aw_iload_n hC dX6_hollow_6 rfl ?_
  refine aw_iconst hC dX6_hollow_7 (by decide) ?_
  obtain ⟨r2, h4, q3, hF⟩ := bd_some hF
  refine clRX6_398 hC hRm hbt dX6_hollow_8 rfl rfl (by decide) (Nat.le_of_ble_eq_true rfl) (Nat.le_of_ble_eq_true rfl) (ok_X6_isWhat q3) ?_
  refine aw_if_ne (tgt := 16) hC dX6_hollow_11 (by decide) (fun c5 => ?_) (fun c5 => ?_)
  · have hF := it_f hF c5
    refine aw_aload_n hC dX6_hollow_16 rfl ?_
    obtain ⟨r6, h8, q7, hF⟩ := bd_some hF
    refine clRX6_379 hC hRm hbt dX6_hollow_17 rfl rfl (by decide) (Nat.le_of_ble_eq_true rfl) (Nat.le_of_ble_eq_true rfl) (ok_X6_laysOut q7) ?_
    refine aw_iconst hC dX6_hollow_20 (by decide) ?_
    refine aw_istore2 hC dX6_hollow_21 rfl ?_
    refine aw_iconst hC dX6_hollow_22 (by decide) ?_
    refine aw_istore3 hC dX6_hollow_23 rfl ?_
    refine aw_iconst hC dX6_hollow_24 (by decide) ?_
    refine aw_istore4 hC dX6_hollow_25 rfl ?_
    obtain ⟨e24, he, hF⟩ := bp_some hF
    refine fX6_hollow_l27_ok hC hZ hRm hbt hr FU _ _ _ _ e24 he (fun y25 y26 h27 er => ?_)
    replace er := er.symm
    subst er
    try dsimp only at hF
    refine aw_iload_n hC dX6_hollow_82 rfl ?_
    refine aw_if_ne (tgt := 90) hC dX6_hollow_83 (by decide) (fun c28 => ?_) (fun c28 => ?_)
    · have hF := it_f hF c28
      refine aw_iload_n hC dX6_hollow_90 rfl ?_
      exact aw_ireturn hC hZ (Nat.zero_le _) (Nat.zero_le _) hr dX6_hollow_91 (hK _ _ (Option.some.inj hF).symm)
    · have hF := it_t hF c28
      refine aw_iload_n hC dX6_hollow_86 rfl ?_
      refine aw_goto (tgt := 91) hC dX6_hollow_87 (by decide) ?_
      exact aw_ireturn hC hZ (Nat.zero_le _) (Nat.zero_le _) hr dX6_hollow_91 (hK _ _ (Option.some.inj hF).symm)
  · have hF := it_t hF c5
    refine aw_iconst hC dX6_hollow_14 (by decide) ?_
    exact aw_ireturn hC hZ (Nat.zero_le _) (Nat.zero_le _) hr dX6_hollow_15 (hK _ _ (Option.some.inj hF).symm)
def fX6_sale_l41 (x1 : Int) (x2 : Int) (x3 : Int) (x4 : Int) (x5 : Int) (h : Hp) : Option ((Int × Int × Int × Hp) ⊕ (Int × Hp)) :=
  (if 8 ≤ x5 then some (.inr (x3, h)) else (if (i_and ((i_shr x2 x5)) 1) = 1 then some (.inl (x3, x4, (i_add x5 1), h)) else gd_ (0 ≤ (i_add 54 x1) ∧ (i_add 54 x1) < 62) (lb_ (st h 54 (Int.toNat ((i_add 54 x1))) ((i_or x2 ((i_shl 1 x5))))) (fun h17 => bd_ (fX6_taxOf x1 h17) (fun r18 h20 => (if r18 < x4 then some (.inl (x5, r18, (i_add x5 1), h20)) else some (.inl (x3, x4, (i_add x5 1), h20))))))))
def fX6_sale (x1 : Int) (h : Hp) : Option (Int × Hp) :=
  lb_ (st h 35 0 0) (fun h1 => bd_ (fX6_isHouse x1 h1) (fun r2 h4 => (if r2 = 0 then some (0, h4) else bd_ (fX6_laysOut h4) (fun r6 h8 => gd_ (0 ≤ (i_add 54 x1) ∧ (i_add 54 x1) < 62) (lb_ ((h8 54 (Int.toNat ((i_add 54 x1))))) (fun v10 => bd_ (fX6_taxOf x1 h8) (fun r11 h13 => bp_ (it_ (fun s => fX6_sale_l41 x1 v10 s.1 s.2.1 s.2.2.1 s.2.2.2) FU ((-1), r11, 0, h13)) (fun e25 => (fun y26 h27 => gd_ (0 ≤ (i_add 54 x1) ∧ (i_add 54 x1) < 62) (lb_ (st h27 54 (Int.toNat ((i_add 54 x1))) v10) (fun h29 => some (y26, h29)))) e25.1 e25.2))))))))
theorem fX6_sale_l41_ok {G : GD} {X : CX} {n : Nat} {Q : Av → Nat → Hp → Prop} (hC : Cx G X RX6 cX6_sale) (hZ : ZOK X G Q 0 0) (hRm : X.R = rmd 6 0 0) (hbt : X.bt = true) (hr : X.meth.sig.returnType = (some .int)) {x1 : Int} {x2 : Int} : ∀ (f : Nat) (x3 : Int) (x4 : Int) (x5 : Int) (h : Hp) (r : Int × Hp), it_ (fun s => fX6_sale_l41 x1 x2 s.1 s.2.1 s.2.2.1 s.2.2.2) f (x3, x4, x5, h) = some r → (∀ (y3 : Int) (h9 : Hp), r = (y3, h9) → AW G X 106 [(2, ((35 : Nat) : Int)), (0, x1), (0, x2), (0, y3), (9, 0), (9, 0), (9, 0)] [] n h9 0 0) → AW G X 41 [(2, ((35 : Nat) : Int)), (0, x1), (0, x2), (0, x3), (0, x4), (0, x5), (9, 0)] [] n h 0 0 := by
  intro f
  induction f with
  | zero => intro x3 x4 x5 h r hI; cases hI
  | succ f ih0 =>
    intro x3 x4 x5 h r hI hX
    obtain ⟨b, hF, hb1, hb2⟩ := it_succ hI
    have hF : fX6_sale_l41 x1 x2 x3 x4 x5 h = some b := hF
    unfold fX6_sale_l41 at hF
    refine aw_iload hC dX6_sale_41 rfl ?_
    refine aw_bipush hC dX6_sale_43 (by decide) (by decide) ?_
    refine aw_icmp_ge (tgt := 106) hC dX6_sale_45 (by decide) (fun c14 => ?_) (fun c14 => ?_)
    · have hF := it_t hF c14
      refine aw_weak (ls' := [(2, ((35 : Nat) : Int)), (0, x1), (0, x2), (0, x3), (9, 0), (9, 0), (9, 0)]) ⟨Or.inr rfl, Or.inr rfl, Or.inr rfl, Or.inr rfl, Or.inl rfl, Or.inl rfl, Or.inl rfl, trivial⟩ ?_
      exact hX _ _ (hb2 _ (Option.some.inj hF).symm).symm
    · have hF := it_f hF c14
      refine aw_iload_n hC dX6_sale_48 rfl ?_
      refine aw_iload hC dX6_sale_49 rfl ?_
      refine aw_ishr hC dX6_sale_51 ?_
      refine aw_iconst hC dX6_sale_52 (by decide) ?_
      refine aw_iand hC dX6_sale_53 ?_
      refine aw_iconst hC dX6_sale_54 (by decide) ?_
      refine aw_icmp_ne (tgt := 61) hC dX6_sale_55 (by decide) (fun c15 => ?_) (fun c15 => ?_)
      · have hF := it_f hF c15
        refine aw_aload_n hC dX6_sale_61 rfl ?_
        refine aw_gc6 (k := 46) (a := 35) (b := 54) hC hbt dX6_sale_62 lkRX6_75 (by decide) rfl rfl rfl (by decide) (by decide) ?_
        refine aw_bipush hC dX6_sale_65 (by decide) (by decide) ?_
        refine aw_iload_n hC dX6_sale_67 rfl ?_
        refine aw_iadd hC dX6_sale_68 ?_
        refine aw_iload_n hC dX6_sale_69 rfl ?_
        refine aw_iconst hC dX6_sale_70 (by decide) ?_
        refine aw_iload hC dX6_sale_71 rfl ?_
        refine aw_ishl hC dX6_sale_73 ?_
        refine aw_ior hC dX6_sale_74 ?_
        obtain ⟨g16, hF⟩ := gd_some hF
        obtain ⟨h17, eh17, hF⟩ := lb_some hF
        refine aw_iastore (a := 54) hC dX6_sale_75 rfl rfl (Or.inl ⟨hbt, by decide⟩) g16.1 g16.2 ?_
        refine aw_eqH eh17 ?_
        clear eh17
        refine aw_aload_n hC dX6_sale_76 rfl ?_
        refine aw_iload_n hC dX6_sale_77 rfl ?_
        obtain ⟨r18, h20, q19, hF⟩ := bd_some hF
        refine clRX6_410 hC hRm hbt dX6_sale_78 rfl rfl (by decide) (Nat.le_of_ble_eq_true rfl) (Nat.le_of_ble_eq_true rfl) (ok_X6_taxOf q19) ?_
        refine aw_istore6 hC dX6_sale_81 rfl ?_
        refine aw_iload hC dX6_sale_83 rfl ?_
        refine aw_iload hC dX6_sale_85 rfl ?_
        refine aw_icmp_lt (tgt := 93) hC dX6_sale_87 (by decide) (fun c21 => ?_) (fun c21 => ?_)
        · have hF := it_t hF c21
          refine aw_iload hC dX6_sale_93 rfl ?_
          refine aw_istore3 hC dX6_sale_95 rfl ?_
          refine aw_iload hC dX6_sale_96 rfl ?_
          refine aw_istore4 hC dX6_sale_98 rfl ?_
          refine aw_iinc5 hC dX6_sale_100 rfl ?_
          refine aw_goto (tgt := 41) hC dX6_sale_103 (by decide) ?_
          refine aw_weak (ls' := [(2, ((35 : Nat) : Int)), (0, x1), (0, x2), (0, x5), (0, r18), (0, (i_add x5 1)), (9, 0)]) ⟨Or.inr rfl, Or.inr rfl, Or.inr rfl, Or.inr rfl, Or.inr rfl, Or.inr rfl, Or.inl rfl, trivial⟩ ?_
          exact ih0 _ _ _ _ r (hb1 _ (Option.some.inj hF).symm) hX
        · have hF := it_f hF c21
          refine aw_goto (tgt := 100) hC dX6_sale_90 (by decide) ?_
          refine aw_iinc5 hC dX6_sale_100 rfl ?_
          refine aw_goto (tgt := 41) hC dX6_sale_103 (by decide) ?_
          refine aw_weak (ls' := [(2, ((35 : Nat) : Int)), (0, x1), (0, x2), (0, x3), (0, x4), (0, (i_add x5 1)), (9, 0)]) ⟨Or.inr rfl, Or.inr rfl, Or.inr rfl, Or.inr rfl, Or.inr rfl, Or.inr rfl, Or.inl rfl, trivial⟩ ?_
          exact ih0 _ _ _ _ r (hb1 _ (Option.some.inj hF).symm) hX
      · have hF := it_t hF c15
        refine aw_goto (tgt := 100) hC dX6_sale_58 (by decide) ?_
        refine aw_iinc5 hC dX6_sale_100 rfl ?_
        refine aw_goto (tgt := 41) hC dX6_sale_103 (by decide) ?_
        exact ih0 _ _ _ _ r (hb1 _ (Option.some.inj hF).symm) hX
theorem ok_X6_sale {G : GD} {n : Nat} {x1 : Int} {h : Hp} {res : Int × Hp} (hF : fX6_sale x1 h = some res) : Con G yX6_sale cX6_sale 7 (some .int) 6 0 0 true [(2, ((35 : Nat) : Int)), (0, x1)] n h (FQ 0 n res) := by
  refine con_of (pad := 5) (own := RX6) (plainFor_of_name (by decide)) rfl rfl ?_
  intro X hC hbt hr hnm hZ hRm hn0
  have hK : ∀ (x9 : Int) (h9 : Hp), res = (x9, h9) → FQ 0 n res (0, x9) n h9 := fun x9 h9 e => by subst e; exact ⟨rfl, rfl, rfl⟩
  unfold fX6_sale at hF
  show AW G X 0 [(2, ((35 : Nat) : Int)), (0, x1), (9, 0), (9, 0), (9, 0), (9, 0), (9, 0)] [] n h 0 0
  refine aw_aload_n hC dX6_sale_0 rfl ?_
  refine aw_iconst hC dX6_sale_1 (by decide) ?_
  obtain ⟨h1, eh1, hF⟩ := lb_some hF
  refine aw_p6i (k := 0) (a := 35) hC dX6_sale_2 lkRX6_129 (by decide) rfl rfl rfl rfl rfl (Or.inl ⟨hbt, by decide⟩) (fun _ => by decide) ?_
  refine aw_eqH eh1 ?_
  clear eh1
  refine aw_aload_n hC dX6_sale_5 rfl ?_
  refine aw_iload_n hC dX6_sale_6 rfl ?_
  obtain ⟨r2, h4, q3, hF⟩ := bd_some hF
  refine clRX6_407 hC hRm hbt dX6_sale_7 rfl rfl (by decide) (Nat.le_of_ble_eq_true rfl) (Nat.le_of_ble_eq_true rfl) (ok_X6_isHouse q3) ?_
  refine aw_if_ne (tgt := 15) hC dX6_sale_10 (by decide) (fun c5 => ?_) (fun c5 => ?_)
  · have hF := it_f hF c5
    refine aw_aload_n hC dX6_sale_15 rfl ?_
    obtain ⟨r6, h8, q7, hF⟩ := bd_some hF
    refine clRX6_379 hC hRm hbt dX6_sale_16 rfl rfl (by decide) (Nat.le_of_ble_eq_true rfl) (Nat.le_of_ble_eq_true rfl) (ok_X6_laysOut q7) ?_
    refine aw_aload_n hC dX6_sale_19 rfl ?_
    refine aw_gc6 (k := 46) (a := 35) (b := 54) hC hbt dX6_sale_20 lkRX6_75 (by decide) rfl rfl rfl (by decide) (by decide) ?_
    refine aw_bipush hC dX6_sale_23 (by decide) (by decide) ?_
    refine aw_iload_n hC dX6_sale_25 rfl ?_
    refine aw_iadd hC dX6_sale_26 ?_
    obtain ⟨g9, hF⟩ := gd_some hF
    refine aw_iaload (a := 54) hC dX6_sale_27 rfl rfl (Or.inl ⟨hbt, by decide⟩) g9.1 g9.2 ?_
    obtain ⟨v10, ev10, hF⟩ := lb_some hF
    refine aw_eqT ev10 ?_
    clear ev10
    refine aw_istore2 hC dX6_sale_28 rfl ?_
    refine aw_iconst hC dX6_sale_29 (by decide) ?_
    refine aw_istore3 hC dX6_sale_30 rfl ?_
    refine aw_aload_n hC dX6_sale_31 rfl ?_
    refine aw_iload_n hC dX6_sale_32 rfl ?_
    obtain ⟨r11, h13, q12, hF⟩ := bd_some hF
    refine clRX6_410 hC hRm hbt dX6_sale_33 rfl rfl (by decide) (Nat.le_of_ble_eq_true rfl) (Nat.le_of_ble_eq_true rfl) (ok_X6_taxOf q12) ?_
    refine aw_istore4 hC dX6_sale_36 rfl ?_
    refine aw_iconst hC dX6_sale_38 (by decide) ?_
    refine aw_istore5 hC dX6_sale_39 rfl ?_
    obtain ⟨e25, he, hF⟩ := bp_some hF
    refine fX6_sale_l41_ok hC hZ hRm hbt hr FU _ _ _ _ e25 he (fun y26 h27 er => ?_)
    replace er := er.symm
    subst er
    try dsimp only at hF
    refine aw_aload_n hC dX6_sale_106 rfl ?_
    refine aw_gc6 (k := 46) (a := 35) (b := 54) hC hbt dX6_sale_107 lkRX6_75 (by decide) rfl rfl rfl (by decide) (by decide) ?_
    refine aw_bipush hC dX6_sale_110 (by decide) (by decide) ?_
    refine aw_iload_n hC dX6_sale_112 rfl ?_
    refine aw_iadd hC dX6_sale_113 ?_
    refine aw_iload_n hC dX6_sale_114 rfl ?_
    obtain ⟨g28, hF⟩ := gd_some hF
    obtain ⟨h29, eh29, hF⟩ := lb_some hF
    refine aw_iastore (a := 54) hC dX6_sale_115 rfl rfl (Or.inl ⟨hbt, by decide⟩) g28.1 g28.2 ?_
    refine aw_eqH eh29 ?_
    clear eh29
    refine aw_iload_n hC dX6_sale_116 rfl ?_
    exact aw_ireturn hC hZ (Nat.zero_le _) (Nat.zero_le _) hr dX6_sale_117 (hK _ _ (Option.some.inj hF).symm)
  · have hF := it_t hF c5
    refine aw_iconst hC dX6_sale_13 (by decide) ?_
    exact aw_ireturn hC hZ (Nat.zero_le _) (Nat.zero_le _) hr dX6_sale_14 (hK _ _ (Option.some.inj hF).symm)
def fX6_shade_l60 (x1 : Int) (x2 : Int) (x3 : Int) (x4 : Int) (x5 : Int) (x6 : Int) (h : Hp) : Option ((Int × Int × Int × Hp) ⊕ (Int × Hp)) :=
  (if 5 < x6 then some (.inr (x4, h)) else gd_ (0 ≤ (i_add 48 x2) ∧ (i_add 48 x2) < 62) (lb_ (st h 54 (Int.toNat ((i_add 48 x2))) x6) (fun h19 => bd_ (fX6_laysOut h19) (fun r20 h22 => bd_ (fX6_taxOf x1 h22) (fun r23 h25 => (if x4 = (-1) then some (.inl (x6, r23, (i_add x6 1), h25)) else (if r23 < x5 then some (.inl (x6, r23, (i_add x6 1), h25)) else some (.inl (x4, x5, (i_add x6 1), h25)))))))))
def fX6_shade_j32 (x1 : Int) (x2 : Int) (z0 : Int) (h : Hp) : Option (Int × Hp) :=
  bd_ (fX6_right z0 2 h) (fun r11 h13 => (if r11 = 0 then some (0, h13) else gd_ (0 ≤ (i_add 48 x2) ∧ (i_add 48 x2) < 62) (lb_ ((h13 54 (Int.toNat ((i_add 48 x2))))) (fun v16 => bp_ (it_ (fun s => fX6_shade_l60 x1 x2 v16 s.1 s.2.1 s.2.2.1 s.2.2.2) FU ((-1), 0, 0, h13)) (fun e31 => (fun y32 h33 => gd_ (0 ≤ (i_add 48 x2) ∧ (i_add 48 x2) < 62) (lb_ (st h33 54 (Int.toNat ((i_add 48 x2))) v16) (fun h35 => some (y32, h35)))) e31.1 e31.2)))))
def fX6_shade (x1 : Int) (x2 : Int) (h : Hp) : Option (Int × Hp) :=
  lb_ (st h 35 0 0) (fun h1 => bd_ (fX6_isHouse x1 h1) (fun r2 h4 => (if r2 = 0 then some (0, h4) else bd_ (fX6_isHouse x2 h4) (fun r6 h8 => (if r6 = 0 then some (0, h8) else (if x1 = x2 then fX6_shade_j32 x1 x2 0 h8 else fX6_shade_j32 x1 x2 1 h8))))))
theorem fX6_shade_l60_ok {G : GD} {X : CX} {n : Nat} {Q : Av → Nat → Hp → Prop} (hC : Cx G X RX6 cX6_shade) (hZ : ZOK X G Q 0 0) (hRm : X.R = rmd 6 0 0) (hbt : X.bt = true) (hr : X.meth.sig.returnType = (some .int)) {x1 : Int} {x2 : Int} {x3 : Int} : ∀ (f : Nat) (x4 : Int) (x5 : Int) (x6 : Int) (h : Hp) (r : Int × Hp), it_ (fun s => fX6_shade_l60 x1 x2 x3 s.1 s.2.1 s.2.2.1 s.2.2.2) f (x4, x5, x6, h) = some r → (∀ (y4 : Int) (h9 : Hp), r = (y4, h9) → AW G X 118 [(2, ((35 : Nat) : Int)), (9, 0), (0, x2), (0, x3), (0, y4), (9, 0), (9, 0), (9, 0)] [] n h9 0 0) → AW G X 60 [(2, ((35 : Nat) : Int)), (0, x1), (0, x2), (0, x3), (0, x4), (0, x5), (0, x6), (9, 0)] [] n h 0 0 := by
  intro f
  induction f with
  | zero => intro x4 x5 x6 h r hI; cases hI
  | succ f ih0 =>
    intro x4 x5 x6 h r hI hX
    obtain ⟨b, hF, hb1, hb2⟩ := it_succ hI
    have hF : fX6_shade_l60 x1 x2 x3 x4 x5 x6 h = some b := hF
    unfold fX6_shade_l60 at hF
    refine aw_iload hC dX6_shade_60 rfl ?_
    refine aw_iconst hC dX6_shade_62 (by decide) ?_
    refine aw_icmp_gt (tgt := 118) hC dX6_shade_63 (by decide) (fun c17 => ?_) (fun c17 => ?_)
    · have hF := it_t hF c17
      refine aw_weak (ls' := [(2, ((35 : Nat) : Int)), (9, 0), (0, x2), (0, x3), (0, x4), (9, 0), (9, 0), (9, 0)]) ⟨Or.inr rfl, Or.inl rfl, Or.inr rfl, Or.inr rfl, Or.inr rfl, Or.inl rfl, Or.inl rfl, Or.inl rfl, trivial⟩ ?_
      exact hX _ _ (hb2 _ (Option.some.inj hF).symm).symm
    · have hF := it_f hF c17
      refine aw_aload_n hC dX6_shade_66 rfl ?_
      refine aw_gc6 (k := 46) (a := 35) (b := 54) hC hbt dX6_shade_67 lkRX6_75 (by decide) rfl rfl rfl (by decide) (by decide) ?_
      refine aw_bipush hC dX6_shade_70 (by decide) (by decide) ?_
      refine aw_iload_n hC dX6_shade_72 rfl ?_
      refine aw_iadd hC dX6_shade_73 ?_
      refine aw_iload hC dX6_shade_74 rfl ?_
      obtain ⟨g18, hF⟩ := gd_some hF
      obtain ⟨h19, eh19, hF⟩ := lb_some hF
      refine aw_iastore (a := 54) hC dX6_shade_76 rfl rfl (Or.inl ⟨hbt, by decide⟩) g18.1 g18.2 ?_
      refine aw_eqH eh19 ?_
      clear eh19
      refine aw_aload_n hC dX6_shade_77 rfl ?_
      obtain ⟨r20, h22, q21, hF⟩ := bd_some hF
      refine clRX6_379 hC hRm hbt dX6_shade_78 rfl rfl (by decide) (Nat.le_of_ble_eq_true rfl) (Nat.le_of_ble_eq_true rfl) (ok_X6_laysOut q21) ?_
      refine aw_aload_n hC dX6_shade_81 rfl ?_
      refine aw_iload_n hC dX6_shade_82 rfl ?_
      obtain ⟨r23, h25, q24, hF⟩ := bd_some hF
      refine clRX6_410 hC hRm hbt dX6_shade_83 rfl rfl (by decide) (Nat.le_of_ble_eq_true rfl) (Nat.le_of_ble_eq_true rfl) (ok_X6_taxOf q24) ?_
      refine aw_istore7 hC dX6_shade_86 rfl ?_
      refine aw_iload hC dX6_shade_88 rfl ?_
      refine aw_iconst hC dX6_shade_90 (by decide) ?_
      refine aw_icmp_eq (tgt := 104) hC dX6_shade_91 (by decide) (fun c26 => ?_) (fun c26 => ?_)
      · have hF := it_t hF c26
        refine aw_iload hC dX6_shade_104 rfl ?_
        refine aw_istore4 hC dX6_shade_106 rfl ?_
        refine aw_iload hC dX6_shade_108 rfl ?_
        refine aw_istore5 hC dX6_shade_110 rfl ?_
        refine aw_iinc6 hC dX6_shade_112 rfl ?_
        refine aw_goto (tgt := 60) hC dX6_shade_115 (by decide) ?_
        refine aw_weak (ls' := [(2, ((35 : Nat) : Int)), (0, x1), (0, x2), (0, x3), (0, x6), (0, r23), (0, (i_add x6 1)), (9, 0)]) ⟨Or.inr rfl, Or.inr rfl, Or.inr rfl, Or.inr rfl, Or.inr rfl, Or.inr rfl, Or.inr rfl, Or.inl rfl, trivial⟩ ?_
        exact ih0 _ _ _ _ r (hb1 _ (Option.some.inj hF).symm) hX
      · have hF := it_f hF c26
        refine aw_iload hC dX6_shade_94 rfl ?_
        refine aw_iload hC dX6_shade_96 rfl ?_
        refine aw_icmp_lt (tgt := 104) hC dX6_shade_98 (by decide) (fun c28 => ?_) (fun c28 => ?_)
        · have hF := it_t hF c28
          refine aw_iload hC dX6_shade_104 rfl ?_
          refine aw_istore4 hC dX6_shade_106 rfl ?_
          refine aw_iload hC dX6_shade_108 rfl ?_
          refine aw_istore5 hC dX6_shade_110 rfl ?_
          refine aw_iinc6 hC dX6_shade_112 rfl ?_
          refine aw_goto (tgt := 60) hC dX6_shade_115 (by decide) ?_
          refine aw_weak (ls' := [(2, ((35 : Nat) : Int)), (0, x1), (0, x2), (0, x3), (0, x6), (0, r23), (0, (i_add x6 1)), (9, 0)]) ⟨Or.inr rfl, Or.inr rfl, Or.inr rfl, Or.inr rfl, Or.inr rfl, Or.inr rfl, Or.inr rfl, Or.inl rfl, trivial⟩ ?_
          exact ih0 _ _ _ _ r (hb1 _ (Option.some.inj hF).symm) hX
        · have hF := it_f hF c28
          refine aw_goto (tgt := 112) hC dX6_shade_101 (by decide) ?_
          refine aw_iinc6 hC dX6_shade_112 rfl ?_
          refine aw_goto (tgt := 60) hC dX6_shade_115 (by decide) ?_
          refine aw_weak (ls' := [(2, ((35 : Nat) : Int)), (0, x1), (0, x2), (0, x3), (0, x4), (0, x5), (0, (i_add x6 1)), (9, 0)]) ⟨Or.inr rfl, Or.inr rfl, Or.inr rfl, Or.inr rfl, Or.inr rfl, Or.inr rfl, Or.inr rfl, Or.inl rfl, trivial⟩ ?_
          exact ih0 _ _ _ _ r (hb1 _ (Option.some.inj hF).symm) hX
theorem fX6_shade_j32_ok {G : GD} {X : CX} {n : Nat} {Q : Av → Nat → Hp → Prop} (hC : Cx G X RX6 cX6_shade) (hZ : ZOK X G Q 0 0) (hRm : X.R = rmd 6 0 0) (hbt : X.bt = true) (hr : X.meth.sig.returnType = (some .int)) {x1 : Int} {x2 : Int} {z0 : Int} {h : Hp} {res : Int × Hp} (hF : fX6_shade_j32 x1 x2 z0 h = some res) (hK : ∀ (x9 : Int) (h9 : Hp), res = (x9, h9) → Q (0, x9) n h9) : AW G X 32 [(2, ((35 : Nat) : Int)), (0, x1), (0, x2), (9, 0), (9, 0), (9, 0), (9, 0), (9, 0)] [(0, z0), (2, ((35 : Nat) : Int))] n h 0 0 := by
  unfold fX6_shade_j32 at hF
  refine aw_iconst hC dX6_shade_32 (by decide) ?_
  obtain ⟨r11, h13, q12, hF⟩ := bd_some hF
  refine clRX6_290 hC hRm hbt dX6_shade_33 rfl rfl (by decide) (Nat.le_of_ble_eq_true rfl) (Nat.le_of_ble_eq_true rfl) (ok_X6_right q12) ?_
  refine aw_if_ne (tgt := 41) hC dX6_shade_36 (by decide) (fun c14 => ?_) (fun c14 => ?_)
  · have hF := it_f hF c14
    refine aw_aload_n hC dX6_shade_41 rfl ?_
    refine aw_gc6 (k := 46) (a := 35) (b := 54) hC hbt dX6_shade_42 lkRX6_75 (by decide) rfl rfl rfl (by decide) (by decide) ?_
    refine aw_bipush hC dX6_shade_45 (by decide) (by decide) ?_
    refine aw_iload_n hC dX6_shade_47 rfl ?_
    refine aw_iadd hC dX6_shade_48 ?_
    obtain ⟨g15, hF⟩ := gd_some hF
    refine aw_iaload (a := 54) hC dX6_shade_49 rfl rfl (Or.inl ⟨hbt, by decide⟩) g15.1 g15.2 ?_
    obtain ⟨v16, ev16, hF⟩ := lb_some hF
    refine aw_eqT ev16 ?_
    clear ev16
    refine aw_istore3 hC dX6_shade_50 rfl ?_
    refine aw_iconst hC dX6_shade_51 (by decide) ?_
    refine aw_istore4 hC dX6_shade_52 rfl ?_
    refine aw_iconst hC dX6_shade_54 (by decide) ?_
    refine aw_istore5 hC dX6_shade_55 rfl ?_
    refine aw_iconst hC dX6_shade_57 (by decide) ?_
    refine aw_istore6 hC dX6_shade_58 rfl ?_
    obtain ⟨e31, he, hF⟩ := bp_some hF
    refine fX6_shade_l60_ok hC hZ hRm hbt hr FU _ _ _ _ e31 he (fun y32 h33 er => ?_)
    replace er := er.symm
    subst er
    try dsimp only at hF
    refine aw_aload_n hC dX6_shade_118 rfl ?_
    refine aw_gc6 (k := 46) (a := 35) (b := 54) hC hbt dX6_shade_119 lkRX6_75 (by decide) rfl rfl rfl (by decide) (by decide) ?_
    refine aw_bipush hC dX6_shade_122 (by decide) (by decide) ?_
    refine aw_iload_n hC dX6_shade_124 rfl ?_
    refine aw_iadd hC dX6_shade_125 ?_
    refine aw_iload_n hC dX6_shade_126 rfl ?_
    obtain ⟨g34, hF⟩ := gd_some hF
    obtain ⟨h35, eh35, hF⟩ := lb_some hF
    refine aw_iastore (a := 54) hC dX6_shade_127 rfl rfl (Or.inl ⟨hbt, by decide⟩) g34.1 g34.2 ?_
    refine aw_eqH eh35 ?_
    clear eh35
    refine aw_iload hC dX6_shade_128 rfl ?_
    exact aw_ireturn hC hZ (Nat.zero_le _) (Nat.zero_le _) hr dX6_shade_130 (hK _ _ (Option.some.inj hF).symm)
  · have hF := it_t hF c14
    refine aw_iconst hC dX6_shade_39 (by decide) ?_
    exact aw_ireturn hC hZ (Nat.zero_le _) (Nat.zero_le _) hr dX6_shade_40 (hK _ _ (Option.some.inj hF).symm)
theorem ok_X6_shade {G : GD} {n : Nat} {x1 : Int} {x2 : Int} {h : Hp} {res : Int × Hp} (hF : fX6_shade x1 x2 h = some res) : Con G yX6_shade cX6_shade 8 (some .int) 6 0 0 true [(2, ((35 : Nat) : Int)), (0, x1), (0, x2)] n h (FQ 0 n res) := by
  refine con_of (pad := 5) (own := RX6) (plainFor_of_name (by decide)) rfl rfl ?_
  intro X hC hbt hr hnm hZ hRm hn0
  have hK : ∀ (x9 : Int) (h9 : Hp), res = (x9, h9) → FQ 0 n res (0, x9) n h9 := fun x9 h9 e => by subst e; exact ⟨rfl, rfl, rfl⟩
  unfold fX6_shade at hF
  show AW G X 0 [(2, ((35 : Nat) : Int)), (0, x1), (0, x2), (9, 0), (9, 0), (9, 0), (9, 0), (9, 0)] [] n h 0 0
  refine aw_aload_n hC dX6_shade_0 rfl ?_
  refine aw_iconst hC dX6_shade_1 (by decide) ?_
  obtain ⟨h1, eh1, hF⟩ := lb_some hF
  refine aw_p6i (k := 0) (a := 35) hC dX6_shade_2 lkRX6_129 (by decide) rfl rfl rfl rfl rfl (Or.inl ⟨hbt, by decide⟩) (fun _ => by decide) ?_
  refine aw_eqH eh1 ?_
  clear eh1
  refine aw_aload_n hC dX6_shade_5 rfl ?_
  refine aw_iload_n hC dX6_shade_6 rfl ?_
  obtain ⟨r2, h4, q3, hF⟩ := bd_some hF
  refine clRX6_407 hC hRm hbt dX6_shade_7 rfl rfl (by decide) (Nat.le_of_ble_eq_true rfl) (Nat.le_of_ble_eq_true rfl) (ok_X6_isHouse q3) ?_
  refine aw_if_eq (tgt := 39) hC dX6_shade_10 (by decide) (fun c5 => ?_) (fun c5 => ?_)
  · have hF := it_t hF c5
    refine aw_iconst hC dX6_shade_39 (by decide) ?_
    exact aw_ireturn hC hZ (Nat.zero_le _) (Nat.zero_le _) hr dX6_shade_40 (hK _ _ (Option.some.inj hF).symm)
  · have hF := it_f hF c5
    refine aw_aload_n hC dX6_shade_13 rfl ?_
    refine aw_iload_n hC dX6_shade_14 rfl ?_
    obtain ⟨r6, h8, q7, hF⟩ := bd_some hF
    refine clRX6_407 hC hRm hbt dX6_shade_15 rfl rfl (by decide) (Nat.le_of_ble_eq_true rfl) (Nat.le_of_ble_eq_true rfl) (ok_X6_isHouse q7) ?_
    refine aw_if_eq (tgt := 39) hC dX6_shade_18 (by decide) (fun c9 => ?_) (fun c9 => ?_)
    · have hF := it_t hF c9
      refine aw_iconst hC dX6_shade_39 (by decide) ?_
      exact aw_ireturn hC hZ (Nat.zero_le _) (Nat.zero_le _) hr dX6_shade_40 (hK _ _ (Option.some.inj hF).symm)
    · have hF := it_f hF c9
      refine aw_aload_n hC dX6_shade_21 rfl ?_
      refine aw_iload_n hC dX6_shade_22 rfl ?_
      refine aw_iload_n hC dX6_shade_23 rfl ?_
      refine aw_icmp_eq (tgt := 31) hC dX6_shade_24 (by decide) (fun c10 => ?_) (fun c10 => ?_)
      · have hF := it_t hF c10
        refine aw_iconst hC dX6_shade_31 (by decide) ?_
        exact fX6_shade_j32_ok hC hZ hRm hbt hr hF hK
      · have hF := it_f hF c10
        refine aw_iconst hC dX6_shade_27 (by decide) ?_
        refine aw_goto (tgt := 32) hC dX6_shade_28 (by decide) ?_
        exact fX6_shade_j32_ok hC hZ hRm hbt hr hF hK
def fX6_dearest_l41 (x1 : Int) (x2 : Int) (x3 : Int) (x4 : Int) (h : Hp) : Option ((Int × Int × Int × Hp) ⊕ (Int × Hp)) :=
  (if x1 ≤ x4 then some (.inr (x2, h)) else gd_ (0 ≤ (61 : Int) ∧ (61 : Int) < 62) (lb_ ((h 54 (Int.toNat 61))) (fun v13 => bd_ (fX6_yearGoes h) (fun r14 h16 => (if x2 = (-1) then some (.inl (v13, r14, (i_add x4 1), h16)) else (if x3 < r14 then some (.inl (v13, r14, (i_add x4 1), h16)) else some (.inl (x2, x3, (i_add x4 1), h16))))))))
def fX6_dearest (x1 : Int) (h : Hp) : Option (Int × Hp) :=
  lb_ (st h 35 0 0) (fun h1 => bp_ (fX6_within x1 1 20 h1) (fun r2 => bd_ (fX6_right r2 1 h1) (fun r4 h6 => (if r4 = 0 then some (0, h6) else bd_ (fX6_copies_54_55 h6) (fun r8 h10 => bp_ (it_ (fun s => fX6_dearest_l41 x1 s.1 s.2.1 s.2.2.1 s.2.2.2) FU ((-1), 0, 0, h10)) (fun e22 => (fun y23 h24 => bd_ (fX6_copies_55_54 h24) (fun r25 h27 => some (y23, h27))) e22.1 e22.2))))))
theorem fX6_dearest_l41_ok {G : GD} {X : CX} {n : Nat} {Q : Av → Nat → Hp → Prop} (hC : Cx G X RX6 cX6_dearest) (hZ : ZOK X G Q 0 0) (hRm : X.R = rmd 7 0 0) (hbt : X.bt = true) (hr : X.meth.sig.returnType = (some .int)) {x1 : Int} : ∀ (f : Nat) (x2 : Int) (x3 : Int) (x4 : Int) (h : Hp) (r : Int × Hp), it_ (fun s => fX6_dearest_l41 x1 s.1 s.2.1 s.2.2.1 s.2.2.2) f (x2, x3, x4, h) = some r → (∀ (y2 : Int) (h9 : Hp), r = (y2, h9) → AW G X 88 [(2, ((35 : Nat) : Int)), (9, 0), (0, y2), (9, 0), (9, 0), (9, 0), (9, 0)] [] n h9 0 0) → AW G X 41 [(2, ((35 : Nat) : Int)), (0, x1), (0, x2), (0, x3), (0, x4), (9, 0), (9, 0)] [] n h 0 0 := by
  intro f
  induction f with
  | zero => intro x2 x3 x4 h r hI; cases hI
  | succ f ih0 =>
    intro x2 x3 x4 h r hI hX
    obtain ⟨b, hF, hb1, hb2⟩ := it_succ hI
    have hF : fX6_dearest_l41 x1 x2 x3 x4 h = some b := hF
    unfold fX6_dearest_l41 at hF
    refine aw_iload hC dX6_dearest_41 rfl ?_
    refine aw_iload_n hC dX6_dearest_43 rfl ?_
    refine aw_icmp_ge (tgt := 88) hC dX6_dearest_44 (by decide) (fun c11 => ?_) (fun c11 => ?_)
    · have hF := it_t hF c11
      refine aw_weak (ls' := [(2, ((35 : Nat) : Int)), (9, 0), (0, x2), (9, 0), (9, 0), (9, 0), (9, 0)]) ⟨Or.inr rfl, Or.inl rfl, Or.inr rfl, Or.inl rfl, Or.inl rfl, Or.inl rfl, Or.inl rfl, trivial⟩ ?_
      exact hX _ _ (hb2 _ (Option.some.inj hF).symm).symm
    · have hF := it_f hF c11
      refine aw_aload_n hC dX6_dearest_47 rfl ?_
      refine aw_gc6 (k := 46) (a := 35) (b := 54) hC hbt dX6_dearest_48 lkRX6_75 (by decide) rfl rfl rfl (by decide) (by decide) ?_
      refine aw_bipush hC dX6_dearest_51 (by decide) (by decide) ?_
      obtain ⟨g12, hF⟩ := gd_some hF
      refine aw_iaload (a := 54) hC dX6_dearest_53 rfl rfl (Or.inl ⟨hbt, by decide⟩) g12.1 g12.2 ?_
      obtain ⟨v13, ev13, hF⟩ := lb_some hF
      refine aw_eqT ev13 ?_
      clear ev13
      refine aw_istore5 hC dX6_dearest_54 rfl ?_
      refine aw_aload_n hC dX6_dearest_56 rfl ?_
      obtain ⟨r14, h16, q15, hF⟩ := bd_some hF
      refine clRX6_419 hC hRm hbt dX6_dearest_57 rfl rfl (by decide) (Nat.le_of_ble_eq_true rfl) (Nat.le_of_ble_eq_true rfl) (ok_X6_yearGoes q15) ?_
      refine aw_istore6 hC dX6_dearest_60 rfl ?_
      refine aw_iload_n hC dX6_dearest_62 rfl ?_
      refine aw_iconst hC dX6_dearest_63 (by decide) ?_
      refine aw_icmp_eq (tgt := 76) hC dX6_dearest_64 (by decide) (fun c17 => ?_) (fun c17 => ?_)
      · have hF := it_t hF c17
        refine aw_iload hC dX6_dearest_76 rfl ?_
        refine aw_istore2 hC dX6_dearest_78 rfl ?_
        refine aw_iload hC dX6_dearest_79 rfl ?_
        refine aw_istore3 hC dX6_dearest_81 rfl ?_
        refine aw_iinc4 hC dX6_dearest_82 rfl ?_
        refine aw_goto (tgt := 41) hC dX6_dearest_85 (by decide) ?_
        refine aw_weak (ls' := [(2, ((35 : Nat) : Int)), (0, x1), (0, v13), (0, r14), (0, (i_add x4 1)), (9, 0), (9, 0)]) ⟨Or.inr rfl, Or.inr rfl, Or.inr rfl, Or.inr rfl, Or.inr rfl, Or.inl rfl, Or.inl rfl, trivial⟩ ?_
        exact ih0 _ _ _ _ r (hb1 _ (Option.some.inj hF).symm) hX
      · have hF := it_f hF c17
        refine aw_iload hC dX6_dearest_67 rfl ?_
        refine aw_iload_n hC dX6_dearest_69 rfl ?_
        refine aw_icmp_gt (tgt := 76) hC dX6_dearest_70 (by decide) (fun c19 => ?_) (fun c19 => ?_)
        · have hF := it_t hF c19
          refine aw_iload hC dX6_dearest_76 rfl ?_
          refine aw_istore2 hC dX6_dearest_78 rfl ?_
          refine aw_iload hC dX6_dearest_79 rfl ?_
          refine aw_istore3 hC dX6_dearest_81 rfl ?_
          refine aw_iinc4 hC dX6_dearest_82 rfl ?_
          refine aw_goto (tgt := 41) hC dX6_dearest_85 (by decide) ?_
          refine aw_weak (ls' := [(2, ((35 : Nat) : Int)), (0, x1), (0, v13), (0, r14), (0, (i_add x4 1)), (9, 0), (9, 0)]) ⟨Or.inr rfl, Or.inr rfl, Or.inr rfl, Or.inr rfl, Or.inr rfl, Or.inl rfl, Or.inl rfl, trivial⟩ ?_
          exact ih0 _ _ _ _ r (hb1 _ (Option.some.inj hF).symm) hX
        · have hF := it_f hF c19
          refine aw_goto (tgt := 82) hC dX6_dearest_73 (by decide) ?_
          refine aw_iinc4 hC dX6_dearest_82 rfl ?_
          refine aw_goto (tgt := 41) hC dX6_dearest_85 (by decide) ?_
          refine aw_weak (ls' := [(2, ((35 : Nat) : Int)), (0, x1), (0, x2), (0, x3), (0, (i_add x4 1)), (9, 0), (9, 0)]) ⟨Or.inr rfl, Or.inr rfl, Or.inr rfl, Or.inr rfl, Or.inr rfl, Or.inl rfl, Or.inl rfl, trivial⟩ ?_
          exact ih0 _ _ _ _ r (hb1 _ (Option.some.inj hF).symm) hX
theorem ok_X6_dearest {G : GD} {n : Nat} {x1 : Int} {h : Hp} {res : Int × Hp} (hF : fX6_dearest x1 h = some res) : Con G yX6_dearest cX6_dearest 7 (some .int) 7 0 0 true [(2, ((35 : Nat) : Int)), (0, x1)] n h (FQ 0 n res) := by
  refine con_of (pad := 5) (own := RX6) (plainFor_of_name (by decide)) rfl rfl ?_
  intro X hC hbt hr hnm hZ hRm hn0
  have hK : ∀ (x9 : Int) (h9 : Hp), res = (x9, h9) → FQ 0 n res (0, x9) n h9 := fun x9 h9 e => by subst e; exact ⟨rfl, rfl, rfl⟩
  unfold fX6_dearest at hF
  show AW G X 0 [(2, ((35 : Nat) : Int)), (0, x1), (9, 0), (9, 0), (9, 0), (9, 0), (9, 0)] [] n h 0 0
  refine aw_aload_n hC dX6_dearest_0 rfl ?_
  refine aw_iconst hC dX6_dearest_1 (by decide) ?_
  obtain ⟨h1, eh1, hF⟩ := lb_some hF
  refine aw_p6i (k := 0) (a := 35) hC dX6_dearest_2 lkRX6_129 (by decide) rfl rfl rfl rfl rfl (Or.inl ⟨hbt, by decide⟩) (fun _ => by decide) ?_
  refine aw_eqH eh1 ?_
  clear eh1
  refine aw_aload_n hC dX6_dearest_5 rfl ?_
  refine aw_iload_n hC dX6_dearest_6 rfl ?_
  refine aw_iconst hC dX6_dearest_7 (by decide) ?_
  refine aw_bipush hC dX6_dearest_8 (by decide) (by decide) ?_
  obtain ⟨r2, q3, hF⟩ := bp_some hF
  refine clRX6_385 hC hRm hbt dX6_dearest_10 (Nat.le_of_ble_eq_true rfl) (Nat.le_of_ble_eq_true rfl) (ok_X6_within q3) ?_
  refine aw_iconst hC dX6_dearest_13 (by decide) ?_
  obtain ⟨r4, h6, q5, hF⟩ := bd_some hF
  refine clRX6_290 hC hRm hbt dX6_dearest_14 rfl rfl (by decide) (Nat.le_of_ble_eq_true rfl) (Nat.le_of_ble_eq_true rfl) (ok_X6_right q5) ?_
  refine aw_if_ne (tgt := 22) hC dX6_dearest_17 (by decide) (fun c7 => ?_) (fun c7 => ?_)
  · have hF := it_f hF c7
    refine aw_aload_n hC dX6_dearest_22 rfl ?_
    refine aw_aload_n hC dX6_dearest_23 rfl ?_
    refine aw_gc6 (k := 46) (a := 35) (b := 54) hC hbt dX6_dearest_24 lkRX6_75 (by decide) rfl rfl rfl (by decide) (by decide) ?_
    refine aw_aload_n hC dX6_dearest_27 rfl ?_
    refine aw_gc6 (k := 47) (a := 35) (b := 55) hC hbt dX6_dearest_28 lkRX6_78 (by decide) rfl rfl rfl (by decide) (by decide) ?_
    obtain ⟨r8, h10, q9, hF⟩ := bd_some hF
    refine clRX6_306 hC hRm hbt dX6_dearest_31 rfl rfl (by decide) (Nat.le_of_ble_eq_true rfl) (Nat.le_of_ble_eq_true rfl) (ok_X6_copies_54_55 q9) ?_
    refine aw_iconst hC dX6_dearest_34 (by decide) ?_
    refine aw_istore2 hC dX6_dearest_35 rfl ?_
    refine aw_iconst hC dX6_dearest_36 (by decide) ?_
    refine aw_istore3 hC dX6_dearest_37 rfl ?_
    refine aw_iconst hC dX6_dearest_38 (by decide) ?_
    refine aw_istore4 hC dX6_dearest_39 rfl ?_
    obtain ⟨e22, he, hF⟩ := bp_some hF
    refine fX6_dearest_l41_ok hC hZ hRm hbt hr FU _ _ _ _ e22 he (fun y23 h24 er => ?_)
    replace er := er.symm
    subst er
    try dsimp only at hF
    refine aw_aload_n hC dX6_dearest_88 rfl ?_
    refine aw_aload_n hC dX6_dearest_89 rfl ?_
    refine aw_gc6 (k := 47) (a := 35) (b := 55) hC hbt dX6_dearest_90 lkRX6_78 (by decide) rfl rfl rfl (by decide) (by decide) ?_
    refine aw_aload_n hC dX6_dearest_93 rfl ?_
    refine aw_gc6 (k := 46) (a := 35) (b := 54) hC hbt dX6_dearest_94 lkRX6_75 (by decide) rfl rfl rfl (by decide) (by decide) ?_
    obtain ⟨r25, h27, q26, hF⟩ := bd_some hF
    refine clRX6_306 hC hRm hbt dX6_dearest_97 rfl rfl (by decide) (Nat.le_of_ble_eq_true rfl) (Nat.le_of_ble_eq_true rfl) (ok_X6_copies_55_54 q26) ?_
    refine aw_iload_n hC dX6_dearest_100 rfl ?_
    exact aw_ireturn hC hZ (Nat.zero_le _) (Nat.zero_le _) hr dX6_dearest_101 (hK _ _ (Option.some.inj hF).symm)
  · have hF := it_t hF c7
    refine aw_iconst hC dX6_dearest_20 (by decide) ?_
    exact aw_ireturn hC hZ (Nat.zero_le _) (Nat.zero_le _) hr dX6_dearest_21 (hK _ _ (Option.some.inj hF).symm)
def fX6_copies_54_65_l2 (x3 : Int) (h : Hp) : Option ((Int × Hp) ⊕ (Hp)) :=
  (if ((62 : Nat) : Int) ≤ x3 then some (.inr h) else gd_ (0 ≤ x3 ∧ x3 < 62) (gd_ (0 ≤ x3 ∧ x3 < 62) (lb_ (st h 65 (Int.toNat x3) ((h 54 (Int.toNat x3)))) (fun h4 => some (.inl ((i_add x3 1), h4))))))
def fX6_copies_54_65  (h : Hp) : Option (Int × Hp) :=
  bp_ (it_ (fun s => fX6_copies_54_65_l2 s.1 s.2) FU (0, h)) (fun e6 => (fun h7 => some (0, h7)) e6)
theorem fX6_copies_54_65_l2_ok {G : GD} {X : CX} {n : Nat} {Q : Av → Nat → Hp → Prop} (hC : Cx G X RX6 cX6_copies) (hZ : ZOK X G Q 0 0) (hRm : X.R = rmd 0 0 0) (hbt : X.bt = true) (hr : X.meth.sig.returnType = none)  : ∀ (f : Nat) (x3 : Int) (h : Hp) (r : Hp), it_ (fun s => fX6_copies_54_65_l2 s.1 s.2) f (x3, h) = some r → (∀ (h9 : Hp), r = h9 → AW G X 20 [(9, 0), (9, 0), (9, 0), (9, 0)] [] n h9 0 0) → AW G X 2 [(9, 0), (2, ((54 : Nat) : Int)), (2, ((65 : Nat) : Int)), (0, x3)] [] n h 0 0 := by
  intro f
  induction f with
  | zero => intro x3 h r hI; cases hI
  | succ f ih0 =>
    intro x3 h r hI hX
    obtain ⟨b, hF, hb1, hb2⟩ := it_succ hI
    have hF : fX6_copies_54_65_l2 x3 h = some b := hF
    unfold fX6_copies_54_65_l2 at hF
    refine aw_iload_n hC dX6_copies_2 rfl ?_
    refine aw_aload_n hC dX6_copies_3 rfl ?_
    refine aw_alen (a := 54) hC dX6_copies_4 rfl rfl (by decide) (by decide) (Or.inl ⟨hbt, by decide⟩) ?_
    refine aw_icmp_ge (tgt := 20) hC dX6_copies_5 (by decide) (fun c1 => ?_) (fun c1 => ?_)
    · have hF := it_t hF c1
      refine aw_weak (ls' := [(9, 0), (9, 0), (9, 0), (9, 0)]) ⟨Or.inl rfl, Or.inl rfl, Or.inl rfl, Or.inl rfl, trivial⟩ ?_
      exact hX _ (hb2 _ (Option.some.inj hF).symm).symm
    · have hF := it_f hF c1
      refine aw_aload_n hC dX6_copies_8 rfl ?_
      refine aw_iload_n hC dX6_copies_9 rfl ?_
      refine aw_aload_n hC dX6_copies_10 rfl ?_
      refine aw_iload_n hC dX6_copies_11 rfl ?_
      obtain ⟨g2, hF⟩ := gd_some hF
      refine aw_iaload (a := 54) hC dX6_copies_12 rfl rfl (Or.inl ⟨hbt, by decide⟩) g2.1 g2.2 ?_
      obtain ⟨g3, hF⟩ := gd_some hF
      obtain ⟨h4, eh4, hF⟩ := lb_some hF
      refine aw_iastore (a := 65) hC dX6_copies_13 rfl rfl (Or.inl ⟨hbt, by decide⟩) g3.1 g3.2 ?_
      refine aw_eqH eh4 ?_
      clear eh4
      refine aw_iinc3 hC dX6_copies_14 rfl ?_
      refine aw_goto (tgt := 2) hC dX6_copies_17 (by decide) ?_
      exact ih0 _ _ r (hb1 _ (Option.some.inj hF).symm) hX
theorem ok_X6_copies_54_65 {G : GD} {n : Nat}  {h : Hp} {res : Int × Hp} (hF : fX6_copies_54_65  h = some res) : Con G yX6_copies cX6_copies 4 none 0 0 0 true [(2, ((35 : Nat) : Int)), (2, ((54 : Nat) : Int)), (2, ((65 : Nat) : Int))] n h (FQ 8 n res) := by
  refine con_of (pad := 1) (own := RX6) (plainFor_of_name (by decide)) rfl rfl ?_
  intro X hC hbt hr hnm hZ hRm hn0
  have hK : ∀ (x9 : Int) (h9 : Hp), res = (x9, h9) → FQ 8 n res (8, x9) n h9 := fun x9 h9 e => by subst e; exact ⟨rfl, rfl, rfl⟩
  unfold fX6_copies_54_65 at hF
  show AW G X 0 [(2, ((35 : Nat) : Int)), (2, ((54 : Nat) : Int)), (2, ((65 : Nat) : Int)), (9, 0)] [] n h 0 0
  refine aw_iconst hC dX6_copies_0 (by decide) ?_
  refine aw_istore3 hC dX6_copies_1 rfl ?_
  refine aw_weak (ls' := [(9, 0), (2, ((54 : Nat) : Int)), (2, ((65 : Nat) : Int)), (0, 0)]) ⟨Or.inl rfl, Or.inr rfl, Or.inr rfl, Or.inr rfl, trivial⟩ ?_
  obtain ⟨e6, he, hF⟩ := bp_some hF
  refine fX6_copies_54_65_l2_ok hC hZ hRm hbt hr FU _ _ e6 he (fun h7 er => ?_)
  replace er := er.symm
  subst er
  try dsimp only at hF
  exact aw_return hC hZ (Nat.zero_le _) (Nat.zero_le _) hr dX6_copies_20 (hK _ _ (Option.some.inj hF).symm)
def fX6_copies_56_66_l2 (x3 : Int) (h : Hp) : Option ((Int × Hp) ⊕ (Hp)) :=
  (if ((2480 : Nat) : Int) ≤ x3 then some (.inr h) else gd_ (0 ≤ x3 ∧ x3 < 2480) (gd_ (0 ≤ x3 ∧ x3 < 2480) (lb_ (st h 66 (Int.toNat x3) ((h 56 (Int.toNat x3)))) (fun h4 => some (.inl ((i_add x3 1), h4))))))
def fX6_copies_56_66  (h : Hp) : Option (Int × Hp) :=
  bp_ (it_ (fun s => fX6_copies_56_66_l2 s.1 s.2) FU (0, h)) (fun e6 => (fun h7 => some (0, h7)) e6)
theorem fX6_copies_56_66_l2_ok {G : GD} {X : CX} {n : Nat} {Q : Av → Nat → Hp → Prop} (hC : Cx G X RX6 cX6_copies) (hZ : ZOK X G Q 0 0) (hRm : X.R = rmd 0 0 0) (hbt : X.bt = true) (hr : X.meth.sig.returnType = none)  : ∀ (f : Nat) (x3 : Int) (h : Hp) (r : Hp), it_ (fun s => fX6_copies_56_66_l2 s.1 s.2) f (x3, h) = some r → (∀ (h9 : Hp), r = h9 → AW G X 20 [(9, 0), (9, 0), (9, 0), (9, 0)] [] n h9 0 0) → AW G X 2 [(9, 0), (2, ((56 : Nat) : Int)), (2, ((66 : Nat) : Int)), (0, x3)] [] n h 0 0 := by
  intro f
  induction f with
  | zero => intro x3 h r hI; cases hI
  | succ f ih0 =>
    intro x3 h r hI hX
    obtain ⟨b, hF, hb1, hb2⟩ := it_succ hI
    have hF : fX6_copies_56_66_l2 x3 h = some b := hF
    unfold fX6_copies_56_66_l2 at hF
    refine aw_iload_n hC dX6_copies_2 rfl ?_
    refine aw_aload_n hC dX6_copies_3 rfl ?_
    refine aw_alen (a := 56) hC dX6_copies_4 rfl rfl (by decide) (by decide) (Or.inl ⟨hbt, by decide⟩) ?_
    refine aw_icmp_ge (tgt := 20) hC dX6_copies_5 (by decide) (fun c1 => ?_) (fun c1 => ?_)
    · have hF := it_t hF c1
      refine aw_weak (ls' := [(9, 0), (9, 0), (9, 0), (9, 0)]) ⟨Or.inl rfl, Or.inl rfl, Or.inl rfl, Or.inl rfl, trivial⟩ ?_
      exact hX _ (hb2 _ (Option.some.inj hF).symm).symm
    · have hF := it_f hF c1
      refine aw_aload_n hC dX6_copies_8 rfl ?_
      refine aw_iload_n hC dX6_copies_9 rfl ?_
      refine aw_aload_n hC dX6_copies_10 rfl ?_
      refine aw_iload_n hC dX6_copies_11 rfl ?_
      obtain ⟨g2, hF⟩ := gd_some hF
      refine aw_iaload (a := 56) hC dX6_copies_12 rfl rfl (Or.inl ⟨hbt, by decide⟩) g2.1 g2.2 ?_
      obtain ⟨g3, hF⟩ := gd_some hF
      obtain ⟨h4, eh4, hF⟩ := lb_some hF
      refine aw_iastore (a := 66) hC dX6_copies_13 rfl rfl (Or.inl ⟨hbt, by decide⟩) g3.1 g3.2 ?_
      refine aw_eqH eh4 ?_
      clear eh4
      refine aw_iinc3 hC dX6_copies_14 rfl ?_
      refine aw_goto (tgt := 2) hC dX6_copies_17 (by decide) ?_
      exact ih0 _ _ r (hb1 _ (Option.some.inj hF).symm) hX
theorem ok_X6_copies_56_66 {G : GD} {n : Nat}  {h : Hp} {res : Int × Hp} (hF : fX6_copies_56_66  h = some res) : Con G yX6_copies cX6_copies 4 none 0 0 0 true [(2, ((35 : Nat) : Int)), (2, ((56 : Nat) : Int)), (2, ((66 : Nat) : Int))] n h (FQ 8 n res) := by
  refine con_of (pad := 1) (own := RX6) (plainFor_of_name (by decide)) rfl rfl ?_
  intro X hC hbt hr hnm hZ hRm hn0
  have hK : ∀ (x9 : Int) (h9 : Hp), res = (x9, h9) → FQ 8 n res (8, x9) n h9 := fun x9 h9 e => by subst e; exact ⟨rfl, rfl, rfl⟩
  unfold fX6_copies_56_66 at hF
  show AW G X 0 [(2, ((35 : Nat) : Int)), (2, ((56 : Nat) : Int)), (2, ((66 : Nat) : Int)), (9, 0)] [] n h 0 0
  refine aw_iconst hC dX6_copies_0 (by decide) ?_
  refine aw_istore3 hC dX6_copies_1 rfl ?_
  refine aw_weak (ls' := [(9, 0), (2, ((56 : Nat) : Int)), (2, ((66 : Nat) : Int)), (0, 0)]) ⟨Or.inl rfl, Or.inr rfl, Or.inr rfl, Or.inr rfl, trivial⟩ ?_
  obtain ⟨e6, he, hF⟩ := bp_some hF
  refine fX6_copies_56_66_l2_ok hC hZ hRm hbt hr FU _ _ e6 he (fun h7 er => ?_)
  replace er := er.symm
  subst er
  try dsimp only at hF
  exact aw_return hC hZ (Nat.zero_le _) (Nat.zero_le _) hr dX6_copies_20 (hK _ _ (Option.some.inj hF).symm)
def fX6_copies_64_67_l2 (x3 : Int) (h : Hp) : Option ((Int × Hp) ⊕ (Hp)) :=
  (if ((12 : Nat) : Int) ≤ x3 then some (.inr h) else gd_ (0 ≤ x3 ∧ x3 < 12) (gd_ (0 ≤ x3 ∧ x3 < 12) (lb_ (st h 67 (Int.toNat x3) ((h 64 (Int.toNat x3)))) (fun h4 => some (.inl ((i_add x3 1), h4))))))
def fX6_copies_64_67  (h : Hp) : Option (Int × Hp) :=
  bp_ (it_ (fun s => fX6_copies_64_67_l2 s.1 s.2) FU (0, h)) (fun e6 => (fun h7 => some (0, h7)) e6)
theorem fX6_copies_64_67_l2_ok {G : GD} {X : CX} {n : Nat} {Q : Av → Nat → Hp → Prop} (hC : Cx G X RX6 cX6_copies) (hZ : ZOK X G Q 0 0) (hRm : X.R = rmd 0 0 0) (hbt : X.bt = true) (hr : X.meth.sig.returnType = none)  : ∀ (f : Nat) (x3 : Int) (h : Hp) (r : Hp), it_ (fun s => fX6_copies_64_67_l2 s.1 s.2) f (x3, h) = some r → (∀ (h9 : Hp), r = h9 → AW G X 20 [(9, 0), (9, 0), (9, 0), (9, 0)] [] n h9 0 0) → AW G X 2 [(9, 0), (2, ((64 : Nat) : Int)), (2, ((67 : Nat) : Int)), (0, x3)] [] n h 0 0 := by
  intro f
  induction f with
  | zero => intro x3 h r hI; cases hI
  | succ f ih0 =>
    intro x3 h r hI hX
    obtain ⟨b, hF, hb1, hb2⟩ := it_succ hI
    have hF : fX6_copies_64_67_l2 x3 h = some b := hF
    unfold fX6_copies_64_67_l2 at hF
    refine aw_iload_n hC dX6_copies_2 rfl ?_
    refine aw_aload_n hC dX6_copies_3 rfl ?_
    refine aw_alen (a := 64) hC dX6_copies_4 rfl rfl (by decide) (by decide) (Or.inl ⟨hbt, by decide⟩) ?_
    refine aw_icmp_ge (tgt := 20) hC dX6_copies_5 (by decide) (fun c1 => ?_) (fun c1 => ?_)
    · have hF := it_t hF c1
      refine aw_weak (ls' := [(9, 0), (9, 0), (9, 0), (9, 0)]) ⟨Or.inl rfl, Or.inl rfl, Or.inl rfl, Or.inl rfl, trivial⟩ ?_
      exact hX _ (hb2 _ (Option.some.inj hF).symm).symm
    · have hF := it_f hF c1
      refine aw_aload_n hC dX6_copies_8 rfl ?_
      refine aw_iload_n hC dX6_copies_9 rfl ?_
      refine aw_aload_n hC dX6_copies_10 rfl ?_
      refine aw_iload_n hC dX6_copies_11 rfl ?_
      obtain ⟨g2, hF⟩ := gd_some hF
      refine aw_iaload (a := 64) hC dX6_copies_12 rfl rfl (Or.inl ⟨hbt, by decide⟩) g2.1 g2.2 ?_
      obtain ⟨g3, hF⟩ := gd_some hF
      obtain ⟨h4, eh4, hF⟩ := lb_some hF
      refine aw_iastore (a := 67) hC dX6_copies_13 rfl rfl (Or.inl ⟨hbt, by decide⟩) g3.1 g3.2 ?_
      refine aw_eqH eh4 ?_
      clear eh4
      refine aw_iinc3 hC dX6_copies_14 rfl ?_
      refine aw_goto (tgt := 2) hC dX6_copies_17 (by decide) ?_
      exact ih0 _ _ r (hb1 _ (Option.some.inj hF).symm) hX
theorem ok_X6_copies_64_67 {G : GD} {n : Nat}  {h : Hp} {res : Int × Hp} (hF : fX6_copies_64_67  h = some res) : Con G yX6_copies cX6_copies 4 none 0 0 0 true [(2, ((35 : Nat) : Int)), (2, ((64 : Nat) : Int)), (2, ((67 : Nat) : Int))] n h (FQ 8 n res) := by
  refine con_of (pad := 1) (own := RX6) (plainFor_of_name (by decide)) rfl rfl ?_
  intro X hC hbt hr hnm hZ hRm hn0
  have hK : ∀ (x9 : Int) (h9 : Hp), res = (x9, h9) → FQ 8 n res (8, x9) n h9 := fun x9 h9 e => by subst e; exact ⟨rfl, rfl, rfl⟩
  unfold fX6_copies_64_67 at hF
  show AW G X 0 [(2, ((35 : Nat) : Int)), (2, ((64 : Nat) : Int)), (2, ((67 : Nat) : Int)), (9, 0)] [] n h 0 0
  refine aw_iconst hC dX6_copies_0 (by decide) ?_
  refine aw_istore3 hC dX6_copies_1 rfl ?_
  refine aw_weak (ls' := [(9, 0), (2, ((64 : Nat) : Int)), (2, ((67 : Nat) : Int)), (0, 0)]) ⟨Or.inl rfl, Or.inr rfl, Or.inr rfl, Or.inr rfl, trivial⟩ ?_
  obtain ⟨e6, he, hF⟩ := bp_some hF
  refine fX6_copies_64_67_l2_ok hC hZ hRm hbt hr FU _ _ e6 he (fun h7 er => ?_)
  replace er := er.symm
  subst er
  try dsimp only at hF
  exact aw_return hC hZ (Nat.zero_le _) (Nat.zero_le _) hr dX6_copies_20 (hK _ _ (Option.some.inj hF).symm)
def fX6_image  (h : Hp) : Option (Int × Hp) :=
  lb_ (st h 35 0 0) (fun h1 => lb_ (st h1 35 68 1) (fun h2 => lb_ (st h2 35 69 ((h2 35 49))) (fun h3 => lb_ (st h3 35 70 ((h3 35 65))) (fun h4 => bd_ (fX6_copies_54_65 h4) (fun r5 h7 => bd_ (fX6_copies_56_66 h7) (fun r8 h10 => bd_ (fX6_copies_64_67 h10) (fun r11 h13 => some (0, h13))))))))
theorem ok_X6_image {G : GD} {n : Nat}  {h : Hp} {res : Int × Hp} (hF : fX6_image  h = some res) : Con G yX6_image cX6_image 1 none 1 0 0 true [(2, ((35 : Nat) : Int))] n h (FQ 8 n res) := by
  refine con_of (pad := 0) (own := RX6) (plainFor_of_name (by decide)) rfl rfl ?_
  intro X hC hbt hr hnm hZ hRm hn0
  have hK : ∀ (x9 : Int) (h9 : Hp), res = (x9, h9) → FQ 8 n res (8, x9) n h9 := fun x9 h9 e => by subst e; exact ⟨rfl, rfl, rfl⟩
  unfold fX6_image at hF
  show AW G X 0 [(2, ((35 : Nat) : Int))] [] n h 0 0
  refine aw_aload_n hC dX6_image_0 rfl ?_
  refine aw_iconst hC dX6_image_1 (by decide) ?_
  obtain ⟨h1, eh1, hF⟩ := lb_some hF
  refine aw_p6i (k := 0) (a := 35) hC dX6_image_2 lkRX6_129 (by decide) rfl rfl rfl rfl rfl (Or.inl ⟨hbt, by decide⟩) (fun _ => by decide) ?_
  refine aw_eqH eh1 ?_
  clear eh1
  refine aw_aload_n hC dX6_image_5 rfl ?_
  refine aw_iconst hC dX6_image_6 (by decide) ?_
  obtain ⟨h2, eh2, hF⟩ := lb_some hF
  refine aw_p6z (k := 68) (a := 35) hC dX6_image_7 lkRX6_320 (by decide) rfl rfl rfl rfl rfl (Or.inl ⟨hbt, by decide⟩) (by decide) (fun _ => by decide) ?_
  refine aw_eqH eh2 ?_
  clear eh2
  refine aw_aload_n hC dX6_image_10 rfl ?_
  refine aw_aload_n hC dX6_image_11 rfl ?_
  refine aw_g6i (k := 49) (a := 35) hC dX6_image_12 lkRX6_310 (by decide) rfl rfl rfl (Or.inl ⟨hbt, by decide⟩) ?_
  obtain ⟨h3, eh3, hF⟩ := lb_some hF
  refine aw_p6i (k := 69) (a := 35) hC dX6_image_15 lkRX6_473 (by decide) rfl rfl rfl rfl rfl (Or.inl ⟨hbt, by decide⟩) (fun _ => by decide) ?_
  refine aw_eqH eh3 ?_
  clear eh3
  refine aw_aload_n hC dX6_image_18 rfl ?_
  refine aw_aload_n hC dX6_image_19 rfl ?_
  refine aw_g6i (k := 65) (a := 35) hC dX6_image_20 lkRX6_313 (by decide) rfl rfl rfl (Or.inl ⟨hbt, by decide⟩) ?_
  obtain ⟨h4, eh4, hF⟩ := lb_some hF
  refine aw_p6i (k := 70) (a := 35) hC dX6_image_23 lkRX6_476 (by decide) rfl rfl rfl rfl rfl (Or.inl ⟨hbt, by decide⟩) (fun _ => by decide) ?_
  refine aw_eqH eh4 ?_
  clear eh4
  refine aw_aload_n hC dX6_image_26 rfl ?_
  refine aw_aload_n hC dX6_image_27 rfl ?_
  refine aw_gc6 (k := 46) (a := 35) (b := 54) hC hbt dX6_image_28 lkRX6_75 (by decide) rfl rfl rfl (by decide) (by decide) ?_
  refine aw_aload_n hC dX6_image_31 rfl ?_
  refine aw_gc6 (k := 71) (a := 35) (b := 65) hC hbt dX6_image_32 lkRX6_120 (by decide) rfl rfl rfl (by decide) (by decide) ?_
  obtain ⟨r5, h7, q6, hF⟩ := bd_some hF
  refine clRX6_306 hC hRm hbt dX6_image_35 rfl rfl (by decide) (Nat.le_of_ble_eq_true rfl) (Nat.le_of_ble_eq_true rfl) (ok_X6_copies_54_65 q6) ?_
  refine aw_aload_n hC dX6_image_38 rfl ?_
  refine aw_aload_n hC dX6_image_39 rfl ?_
  refine aw_gc6 (k := 48) (a := 35) (b := 56) hC hbt dX6_image_40 lkRX6_81 (by decide) rfl rfl rfl (by decide) (by decide) ?_
  refine aw_aload_n hC dX6_image_43 rfl ?_
  refine aw_gc6 (k := 72) (a := 35) (b := 66) hC hbt dX6_image_44 lkRX6_123 (by decide) rfl rfl rfl (by decide) (by decide) ?_
  obtain ⟨r8, h10, q9, hF⟩ := bd_some hF
  refine clRX6_306 hC hRm hbt dX6_image_47 rfl rfl (by decide) (Nat.le_of_ble_eq_true rfl) (Nat.le_of_ble_eq_true rfl) (ok_X6_copies_56_66 q9) ?_
  refine aw_aload_n hC dX6_image_50 rfl ?_
  refine aw_aload_n hC dX6_image_51 rfl ?_
  refine aw_gc6 (k := 66) (a := 35) (b := 64) hC hbt dX6_image_52 lkRX6_117 (by decide) rfl rfl rfl (by decide) (by decide) ?_
  refine aw_aload_n hC dX6_image_55 rfl ?_
  refine aw_gc6 (k := 73) (a := 35) (b := 67) hC hbt dX6_image_56 lkRX6_126 (by decide) rfl rfl rfl (by decide) (by decide) ?_
  obtain ⟨r11, h13, q12, hF⟩ := bd_some hF
  refine clRX6_306 hC hRm hbt dX6_image_59 rfl rfl (by decide) (Nat.le_of_ble_eq_true rfl) (Nat.le_of_ble_eq_true rfl) (ok_X6_copies_64_67 q12) ?_
  exact aw_return hC hZ (Nat.zero_le _) (Nat.zero_le _) hr dX6_image_62 (hK _ _ (Option.some.inj hF).symm)
def fX6_copies_65_54_l2 (x3 : Int) (h : Hp) : Option ((Int × Hp) ⊕ (Hp)) :=
  (if ((62 : Nat) : Int) ≤ x3 then some (.inr h) else gd_ (0 ≤ x3 ∧ x3 < 62) (gd_ (0 ≤ x3 ∧ x3 < 62) (lb_ (st h 54 (Int.toNat x3) ((h 65 (Int.toNat x3)))) (fun h4 => some (.inl ((i_add x3 1), h4))))))
def fX6_copies_65_54  (h : Hp) : Option (Int × Hp) :=
  bp_ (it_ (fun s => fX6_copies_65_54_l2 s.1 s.2) FU (0, h)) (fun e6 => (fun h7 => some (0, h7)) e6)
theorem fX6_copies_65_54_l2_ok {G : GD} {X : CX} {n : Nat} {Q : Av → Nat → Hp → Prop} (hC : Cx G X RX6 cX6_copies) (hZ : ZOK X G Q 0 0) (hRm : X.R = rmd 0 0 0) (hbt : X.bt = true) (hr : X.meth.sig.returnType = none)  : ∀ (f : Nat) (x3 : Int) (h : Hp) (r : Hp), it_ (fun s => fX6_copies_65_54_l2 s.1 s.2) f (x3, h) = some r → (∀ (h9 : Hp), r = h9 → AW G X 20 [(9, 0), (9, 0), (9, 0), (9, 0)] [] n h9 0 0) → AW G X 2 [(9, 0), (2, ((65 : Nat) : Int)), (2, ((54 : Nat) : Int)), (0, x3)] [] n h 0 0 := by
  intro f
  induction f with
  | zero => intro x3 h r hI; cases hI
  | succ f ih0 =>
    intro x3 h r hI hX
    obtain ⟨b, hF, hb1, hb2⟩ := it_succ hI
    have hF : fX6_copies_65_54_l2 x3 h = some b := hF
    unfold fX6_copies_65_54_l2 at hF
    refine aw_iload_n hC dX6_copies_2 rfl ?_
    refine aw_aload_n hC dX6_copies_3 rfl ?_
    refine aw_alen (a := 65) hC dX6_copies_4 rfl rfl (by decide) (by decide) (Or.inl ⟨hbt, by decide⟩) ?_
    refine aw_icmp_ge (tgt := 20) hC dX6_copies_5 (by decide) (fun c1 => ?_) (fun c1 => ?_)
    · have hF := it_t hF c1
      refine aw_weak (ls' := [(9, 0), (9, 0), (9, 0), (9, 0)]) ⟨Or.inl rfl, Or.inl rfl, Or.inl rfl, Or.inl rfl, trivial⟩ ?_
      exact hX _ (hb2 _ (Option.some.inj hF).symm).symm
    · have hF := it_f hF c1
      refine aw_aload_n hC dX6_copies_8 rfl ?_
      refine aw_iload_n hC dX6_copies_9 rfl ?_
      refine aw_aload_n hC dX6_copies_10 rfl ?_
      refine aw_iload_n hC dX6_copies_11 rfl ?_
      obtain ⟨g2, hF⟩ := gd_some hF
      refine aw_iaload (a := 65) hC dX6_copies_12 rfl rfl (Or.inl ⟨hbt, by decide⟩) g2.1 g2.2 ?_
      obtain ⟨g3, hF⟩ := gd_some hF
      obtain ⟨h4, eh4, hF⟩ := lb_some hF
      refine aw_iastore (a := 54) hC dX6_copies_13 rfl rfl (Or.inl ⟨hbt, by decide⟩) g3.1 g3.2 ?_
      refine aw_eqH eh4 ?_
      clear eh4
      refine aw_iinc3 hC dX6_copies_14 rfl ?_
      refine aw_goto (tgt := 2) hC dX6_copies_17 (by decide) ?_
      exact ih0 _ _ r (hb1 _ (Option.some.inj hF).symm) hX
theorem ok_X6_copies_65_54 {G : GD} {n : Nat}  {h : Hp} {res : Int × Hp} (hF : fX6_copies_65_54  h = some res) : Con G yX6_copies cX6_copies 4 none 0 0 0 true [(2, ((35 : Nat) : Int)), (2, ((65 : Nat) : Int)), (2, ((54 : Nat) : Int))] n h (FQ 8 n res) := by
  refine con_of (pad := 1) (own := RX6) (plainFor_of_name (by decide)) rfl rfl ?_
  intro X hC hbt hr hnm hZ hRm hn0
  have hK : ∀ (x9 : Int) (h9 : Hp), res = (x9, h9) → FQ 8 n res (8, x9) n h9 := fun x9 h9 e => by subst e; exact ⟨rfl, rfl, rfl⟩
  unfold fX6_copies_65_54 at hF
  show AW G X 0 [(2, ((35 : Nat) : Int)), (2, ((65 : Nat) : Int)), (2, ((54 : Nat) : Int)), (9, 0)] [] n h 0 0
  refine aw_iconst hC dX6_copies_0 (by decide) ?_
  refine aw_istore3 hC dX6_copies_1 rfl ?_
  refine aw_weak (ls' := [(9, 0), (2, ((65 : Nat) : Int)), (2, ((54 : Nat) : Int)), (0, 0)]) ⟨Or.inl rfl, Or.inr rfl, Or.inr rfl, Or.inr rfl, trivial⟩ ?_
  obtain ⟨e6, he, hF⟩ := bp_some hF
  refine fX6_copies_65_54_l2_ok hC hZ hRm hbt hr FU _ _ e6 he (fun h7 er => ?_)
  replace er := er.symm
  subst er
  try dsimp only at hF
  exact aw_return hC hZ (Nat.zero_le _) (Nat.zero_le _) hr dX6_copies_20 (hK _ _ (Option.some.inj hF).symm)
def fX6_copies_66_56_l2 (x3 : Int) (h : Hp) : Option ((Int × Hp) ⊕ (Hp)) :=
  (if ((2480 : Nat) : Int) ≤ x3 then some (.inr h) else gd_ (0 ≤ x3 ∧ x3 < 2480) (gd_ (0 ≤ x3 ∧ x3 < 2480) (lb_ (st h 56 (Int.toNat x3) ((h 66 (Int.toNat x3)))) (fun h4 => some (.inl ((i_add x3 1), h4))))))
def fX6_copies_66_56  (h : Hp) : Option (Int × Hp) :=
  bp_ (it_ (fun s => fX6_copies_66_56_l2 s.1 s.2) FU (0, h)) (fun e6 => (fun h7 => some (0, h7)) e6)
theorem fX6_copies_66_56_l2_ok {G : GD} {X : CX} {n : Nat} {Q : Av → Nat → Hp → Prop} (hC : Cx G X RX6 cX6_copies) (hZ : ZOK X G Q 0 0) (hRm : X.R = rmd 0 0 0) (hbt : X.bt = true) (hr : X.meth.sig.returnType = none)  : ∀ (f : Nat) (x3 : Int) (h : Hp) (r : Hp), it_ (fun s => fX6_copies_66_56_l2 s.1 s.2) f (x3, h) = some r → (∀ (h9 : Hp), r = h9 → AW G X 20 [(9, 0), (9, 0), (9, 0), (9, 0)] [] n h9 0 0) → AW G X 2 [(9, 0), (2, ((66 : Nat) : Int)), (2, ((56 : Nat) : Int)), (0, x3)] [] n h 0 0 := by
  intro f
  induction f with
  | zero => intro x3 h r hI; cases hI
  | succ f ih0 =>
    intro x3 h r hI hX
    obtain ⟨b, hF, hb1, hb2⟩ := it_succ hI
    have hF : fX6_copies_66_56_l2 x3 h = some b := hF
    unfold fX6_copies_66_56_l2 at hF
    refine aw_iload_n hC dX6_copies_2 rfl ?_
    refine aw_aload_n hC dX6_copies_3 rfl ?_
    refine aw_alen (a := 66) hC dX6_copies_4 rfl rfl (by decide) (by decide) (Or.inl ⟨hbt, by decide⟩) ?_
    refine aw_icmp_ge (tgt := 20) hC dX6_copies_5 (by decide) (fun c1 => ?_) (fun c1 => ?_)
    · have hF := it_t hF c1
      refine aw_weak (ls' := [(9, 0), (9, 0), (9, 0), (9, 0)]) ⟨Or.inl rfl, Or.inl rfl, Or.inl rfl, Or.inl rfl, trivial⟩ ?_
      exact hX _ (hb2 _ (Option.some.inj hF).symm).symm
    · have hF := it_f hF c1
      refine aw_aload_n hC dX6_copies_8 rfl ?_
      refine aw_iload_n hC dX6_copies_9 rfl ?_
      refine aw_aload_n hC dX6_copies_10 rfl ?_
      refine aw_iload_n hC dX6_copies_11 rfl ?_
      obtain ⟨g2, hF⟩ := gd_some hF
      refine aw_iaload (a := 66) hC dX6_copies_12 rfl rfl (Or.inl ⟨hbt, by decide⟩) g2.1 g2.2 ?_
      obtain ⟨g3, hF⟩ := gd_some hF
      obtain ⟨h4, eh4, hF⟩ := lb_some hF
      refine aw_iastore (a := 56) hC dX6_copies_13 rfl rfl (Or.inl ⟨hbt, by decide⟩) g3.1 g3.2 ?_
      refine aw_eqH eh4 ?_
      clear eh4
      refine aw_iinc3 hC dX6_copies_14 rfl ?_
      refine aw_goto (tgt := 2) hC dX6_copies_17 (by decide) ?_
      exact ih0 _ _ r (hb1 _ (Option.some.inj hF).symm) hX
theorem ok_X6_copies_66_56 {G : GD} {n : Nat}  {h : Hp} {res : Int × Hp} (hF : fX6_copies_66_56  h = some res) : Con G yX6_copies cX6_copies 4 none 0 0 0 true [(2, ((35 : Nat) : Int)), (2, ((66 : Nat) : Int)), (2, ((56 : Nat) : Int))] n h (FQ 8 n res) := by
  refine con_of (pad := 1) (own := RX6) (plainFor_of_name (by decide)) rfl rfl ?_
  intro X hC hbt hr hnm hZ hRm hn0
  have hK : ∀ (x9 : Int) (h9 : Hp), res = (x9, h9) → FQ 8 n res (8, x9) n h9 := fun x9 h9 e => by subst e; exact ⟨rfl, rfl, rfl⟩
  unfold fX6_copies_66_56 at hF
  show AW G X 0 [(2, ((35 : Nat) : Int)), (2, ((66 : Nat) : Int)), (2, ((56 : Nat) : Int)), (9, 0)] [] n h 0 0
  refine aw_iconst hC dX6_copies_0 (by decide) ?_
  refine aw_istore3 hC dX6_copies_1 rfl ?_
  refine aw_weak (ls' := [(9, 0), (2, ((66 : Nat) : Int)), (2, ((56 : Nat) : Int)), (0, 0)]) ⟨Or.inl rfl, Or.inr rfl, Or.inr rfl, Or.inr rfl, trivial⟩ ?_
  obtain ⟨e6, he, hF⟩ := bp_some hF
  refine fX6_copies_66_56_l2_ok hC hZ hRm hbt hr FU _ _ e6 he (fun h7 er => ?_)
  replace er := er.symm
  subst er
  try dsimp only at hF
  exact aw_return hC hZ (Nat.zero_le _) (Nat.zero_le _) hr dX6_copies_20 (hK _ _ (Option.some.inj hF).symm)
def fX6_copies_67_64_l2 (x3 : Int) (h : Hp) : Option ((Int × Hp) ⊕ (Hp)) :=
  (if ((12 : Nat) : Int) ≤ x3 then some (.inr h) else gd_ (0 ≤ x3 ∧ x3 < 12) (gd_ (0 ≤ x3 ∧ x3 < 12) (lb_ (st h 64 (Int.toNat x3) ((h 67 (Int.toNat x3)))) (fun h4 => some (.inl ((i_add x3 1), h4))))))
def fX6_copies_67_64  (h : Hp) : Option (Int × Hp) :=
  bp_ (it_ (fun s => fX6_copies_67_64_l2 s.1 s.2) FU (0, h)) (fun e6 => (fun h7 => some (0, h7)) e6)
theorem fX6_copies_67_64_l2_ok {G : GD} {X : CX} {n : Nat} {Q : Av → Nat → Hp → Prop} (hC : Cx G X RX6 cX6_copies) (hZ : ZOK X G Q 0 0) (hRm : X.R = rmd 0 0 0) (hbt : X.bt = true) (hr : X.meth.sig.returnType = none)  : ∀ (f : Nat) (x3 : Int) (h : Hp) (r : Hp), it_ (fun s => fX6_copies_67_64_l2 s.1 s.2) f (x3, h) = some r → (∀ (h9 : Hp), r = h9 → AW G X 20 [(9, 0), (9, 0), (9, 0), (9, 0)] [] n h9 0 0) → AW G X 2 [(9, 0), (2, ((67 : Nat) : Int)), (2, ((64 : Nat) : Int)), (0, x3)] [] n h 0 0 := by
  intro f
  induction f with
  | zero => intro x3 h r hI; cases hI
  | succ f ih0 =>
    intro x3 h r hI hX
    obtain ⟨b, hF, hb1, hb2⟩ := it_succ hI
    have hF : fX6_copies_67_64_l2 x3 h = some b := hF
    unfold fX6_copies_67_64_l2 at hF
    refine aw_iload_n hC dX6_copies_2 rfl ?_
    refine aw_aload_n hC dX6_copies_3 rfl ?_
    refine aw_alen (a := 67) hC dX6_copies_4 rfl rfl (by decide) (by decide) (Or.inl ⟨hbt, by decide⟩) ?_
    refine aw_icmp_ge (tgt := 20) hC dX6_copies_5 (by decide) (fun c1 => ?_) (fun c1 => ?_)
    · have hF := it_t hF c1
      refine aw_weak (ls' := [(9, 0), (9, 0), (9, 0), (9, 0)]) ⟨Or.inl rfl, Or.inl rfl, Or.inl rfl, Or.inl rfl, trivial⟩ ?_
      exact hX _ (hb2 _ (Option.some.inj hF).symm).symm
    · have hF := it_f hF c1
      refine aw_aload_n hC dX6_copies_8 rfl ?_
      refine aw_iload_n hC dX6_copies_9 rfl ?_
      refine aw_aload_n hC dX6_copies_10 rfl ?_
      refine aw_iload_n hC dX6_copies_11 rfl ?_
      obtain ⟨g2, hF⟩ := gd_some hF
      refine aw_iaload (a := 67) hC dX6_copies_12 rfl rfl (Or.inl ⟨hbt, by decide⟩) g2.1 g2.2 ?_
      obtain ⟨g3, hF⟩ := gd_some hF
      obtain ⟨h4, eh4, hF⟩ := lb_some hF
      refine aw_iastore (a := 64) hC dX6_copies_13 rfl rfl (Or.inl ⟨hbt, by decide⟩) g3.1 g3.2 ?_
      refine aw_eqH eh4 ?_
      clear eh4
      refine aw_iinc3 hC dX6_copies_14 rfl ?_
      refine aw_goto (tgt := 2) hC dX6_copies_17 (by decide) ?_
      exact ih0 _ _ r (hb1 _ (Option.some.inj hF).symm) hX
theorem ok_X6_copies_67_64 {G : GD} {n : Nat}  {h : Hp} {res : Int × Hp} (hF : fX6_copies_67_64  h = some res) : Con G yX6_copies cX6_copies 4 none 0 0 0 true [(2, ((35 : Nat) : Int)), (2, ((67 : Nat) : Int)), (2, ((64 : Nat) : Int))] n h (FQ 8 n res) := by
  refine con_of (pad := 1) (own := RX6) (plainFor_of_name (by decide)) rfl rfl ?_
  intro X hC hbt hr hnm hZ hRm hn0
  have hK : ∀ (x9 : Int) (h9 : Hp), res = (x9, h9) → FQ 8 n res (8, x9) n h9 := fun x9 h9 e => by subst e; exact ⟨rfl, rfl, rfl⟩
  unfold fX6_copies_67_64 at hF
  show AW G X 0 [(2, ((35 : Nat) : Int)), (2, ((67 : Nat) : Int)), (2, ((64 : Nat) : Int)), (9, 0)] [] n h 0 0
  refine aw_iconst hC dX6_copies_0 (by decide) ?_
  refine aw_istore3 hC dX6_copies_1 rfl ?_
  refine aw_weak (ls' := [(9, 0), (2, ((67 : Nat) : Int)), (2, ((64 : Nat) : Int)), (0, 0)]) ⟨Or.inl rfl, Or.inr rfl, Or.inr rfl, Or.inr rfl, trivial⟩ ?_
  obtain ⟨e6, he, hF⟩ := bp_some hF
  refine fX6_copies_67_64_l2_ok hC hZ hRm hbt hr FU _ _ e6 he (fun h7 er => ?_)
  replace er := er.symm
  subst er
  try dsimp only at hF
  exact aw_return hC hZ (Nat.zero_le _) (Nat.zero_le _) hr dX6_copies_20 (hK _ _ (Option.some.inj hF).symm)
def fX6_restore  (h : Hp) : Option (Int × Hp) :=
  lb_ (st h 35 0 0) (fun h1 => (if (h1 35 68) = 0 then some (0, h1) else lb_ (st h1 35 49 ((h1 35 69))) (fun h3 => lb_ (st h3 35 65 ((h3 35 70))) (fun h4 => bd_ (fX6_copies_65_54 h4) (fun r5 h7 => bd_ (fX6_copies_66_56 h7) (fun r8 h10 => bd_ (fX6_copies_67_64 h10) (fun r11 h13 => some (1, h13))))))))
theorem ok_X6_restore {G : GD} {n : Nat}  {h : Hp} {res : Int × Hp} (hF : fX6_restore  h = some res) : Con G yX6_restore cX6_restore 1 (some .boolean) 1 0 0 true [(2, ((35 : Nat) : Int))] n h (FQ 0 n res) := by
  refine con_of (pad := 0) (own := RX6) (plainFor_of_name (by decide)) rfl rfl ?_
  intro X hC hbt hr hnm hZ hRm hn0
  have hK : ∀ (x9 : Int) (h9 : Hp), res = (x9, h9) → FQ 0 n res (0, x9) n h9 := fun x9 h9 e => by subst e; exact ⟨rfl, rfl, rfl⟩
  unfold fX6_restore at hF
  show AW G X 0 [(2, ((35 : Nat) : Int))] [] n h 0 0
  refine aw_aload_n hC dX6_restore_0 rfl ?_
  refine aw_iconst hC dX6_restore_1 (by decide) ?_
  obtain ⟨h1, eh1, hF⟩ := lb_some hF
  refine aw_p6i (k := 0) (a := 35) hC dX6_restore_2 lkRX6_129 (by decide) rfl rfl rfl rfl rfl (Or.inl ⟨hbt, by decide⟩) (fun _ => by decide) ?_
  refine aw_eqH eh1 ?_
  clear eh1
  refine aw_aload_n hC dX6_restore_5 rfl ?_
  refine aw_g6z (k := 68) (a := 35) hC dX6_restore_6 lkRX6_320 (by decide) rfl rfl rfl (Or.inl ⟨hbt, by decide⟩) ?_
  refine aw_if_ne (tgt := 14) hC dX6_restore_9 (by decide) (fun c2 => ?_) (fun c2 => ?_)
  · have hF := it_f hF c2
    refine aw_aload_n hC dX6_restore_14 rfl ?_
    refine aw_aload_n hC dX6_restore_15 rfl ?_
    refine aw_g6i (k := 69) (a := 35) hC dX6_restore_16 lkRX6_473 (by decide) rfl rfl rfl (Or.inl ⟨hbt, by decide⟩) ?_
    obtain ⟨h3, eh3, hF⟩ := lb_some hF
    refine aw_p6i (k := 49) (a := 35) hC dX6_restore_19 lkRX6_310 (by decide) rfl rfl rfl rfl rfl (Or.inl ⟨hbt, by decide⟩) (fun _ => by decide) ?_
    refine aw_eqH eh3 ?_
    clear eh3
    refine aw_aload_n hC dX6_restore_22 rfl ?_
    refine aw_aload_n hC dX6_restore_23 rfl ?_
    refine aw_g6i (k := 70) (a := 35) hC dX6_restore_24 lkRX6_476 (by decide) rfl rfl rfl (Or.inl ⟨hbt, by decide⟩) ?_
    obtain ⟨h4, eh4, hF⟩ := lb_some hF
    refine aw_p6i (k := 65) (a := 35) hC dX6_restore_27 lkRX6_313 (by decide) rfl rfl rfl rfl rfl (Or.inl ⟨hbt, by decide⟩) (fun _ => by decide) ?_
    refine aw_eqH eh4 ?_
    clear eh4
    refine aw_aload_n hC dX6_restore_30 rfl ?_
    refine aw_aload_n hC dX6_restore_31 rfl ?_
    refine aw_gc6 (k := 71) (a := 35) (b := 65) hC hbt dX6_restore_32 lkRX6_120 (by decide) rfl rfl rfl (by decide) (by decide) ?_
    refine aw_aload_n hC dX6_restore_35 rfl ?_
    refine aw_gc6 (k := 46) (a := 35) (b := 54) hC hbt dX6_restore_36 lkRX6_75 (by decide) rfl rfl rfl (by decide) (by decide) ?_
    obtain ⟨r5, h7, q6, hF⟩ := bd_some hF
    refine clRX6_306 hC hRm hbt dX6_restore_39 rfl rfl (by decide) (Nat.le_of_ble_eq_true rfl) (Nat.le_of_ble_eq_true rfl) (ok_X6_copies_65_54 q6) ?_
    refine aw_aload_n hC dX6_restore_42 rfl ?_
    refine aw_aload_n hC dX6_restore_43 rfl ?_
    refine aw_gc6 (k := 72) (a := 35) (b := 66) hC hbt dX6_restore_44 lkRX6_123 (by decide) rfl rfl rfl (by decide) (by decide) ?_
    refine aw_aload_n hC dX6_restore_47 rfl ?_
    refine aw_gc6 (k := 48) (a := 35) (b := 56) hC hbt dX6_restore_48 lkRX6_81 (by decide) rfl rfl rfl (by decide) (by decide) ?_
    obtain ⟨r8, h10, q9, hF⟩ := bd_some hF
    refine clRX6_306 hC hRm hbt dX6_restore_51 rfl rfl (by decide) (Nat.le_of_ble_eq_true rfl) (Nat.le_of_ble_eq_true rfl) (ok_X6_copies_66_56 q9) ?_
    refine aw_aload_n hC dX6_restore_54 rfl ?_
    refine aw_aload_n hC dX6_restore_55 rfl ?_
    refine aw_gc6 (k := 73) (a := 35) (b := 67) hC hbt dX6_restore_56 lkRX6_126 (by decide) rfl rfl rfl (by decide) (by decide) ?_
    refine aw_aload_n hC dX6_restore_59 rfl ?_
    refine aw_gc6 (k := 66) (a := 35) (b := 64) hC hbt dX6_restore_60 lkRX6_117 (by decide) rfl rfl rfl (by decide) (by decide) ?_
    obtain ⟨r11, h13, q12, hF⟩ := bd_some hF
    refine clRX6_306 hC hRm hbt dX6_restore_63 rfl rfl (by decide) (Nat.le_of_ble_eq_true rfl) (Nat.le_of_ble_eq_true rfl) (ok_X6_copies_67_64 q12) ?_
    refine aw_iconst hC dX6_restore_66 (by decide) ?_
    exact aw_zreturn hC hZ (Nat.zero_le _) (Nat.zero_le _) hr rfl dX6_restore_67 (by decide) (hK _ _ (Option.some.inj hF).symm)
  · have hF := it_t hF c2
    refine aw_iconst hC dX6_restore_12 (by decide) ?_
    exact aw_zreturn hC hZ (Nat.zero_le _) (Nat.zero_le _) hr rfl dX6_restore_13 (by decide) (hK _ _ (Option.some.inj hF).symm)
