def fX5_putBytes_l3 (x1 : Int) (x2 : Int) (h : Hp) : Option ((Int × Hp) ⊕ (Hp)) :=
  (if x2 < 0 then some (.inr h) else (if ((700 : Nat) : Int) ≤ (h 0 9) then some (.inr h) else gd_ (0 ≤ (h 0 9) ∧ (h 0 9) < 700) (gd_ (-128 ≤ (i_2b ((i_ushr x1 x2))) ∧ (i_2b ((i_ushr x1 x2))) ≤ 127) (lb_ (st h 17 (Int.toNat ((h 0 9))) ((i_2b ((i_ushr x1 x2))))) (fun h4 => lb_ (st h4 0 9 ((i_add ((h4 0 9)) 1))) (fun h6 => some (.inl ((i_add x2 (-8)), h6))))))))
def fX5_putBytes (x1 : Int) (h : Hp) : Option (Int × Hp) :=
  bp_ (it_ (fun s => fX5_putBytes_l3 x1 s.1 s.2) FU (24, h)) (fun e8 => (fun h9 => some (0, h9)) e8)
theorem fX5_putBytes_l3_ok {G : GD} {X : CX} {n : Nat} {Q : Av → Nat → Hp → Prop} (hC : Cx G X RX5 cX5_putBytes) (hZ : ZOK X G Q 0 0) (hRm : X.R = rmd 0 0 0) (hbt : X.bt = true) (hr : X.meth.sig.returnType = none) {x1 : Int} : ∀ (f : Nat) (x2 : Int) (h : Hp) (r : Hp), it_ (fun s => fX5_putBytes_l3 x1 s.1 s.2) f (x2, h) = some r → (∀ (h9 : Hp), r = h9 → AW G X 48 [(9, 0), (9, 0), (9, 0)] [] n h9 0 0) → AW G X 3 [(2, ((0 : Nat) : Int)), (0, x1), (0, x2)] [] n h 0 0 := by
  intro f
  induction f with
  | zero => intro x2 h r hI; cases hI
  | succ f ih0 =>
    intro x2 h r hI hX
    obtain ⟨b, hF, hb1, hb2⟩ := it_succ hI
    have hF : fX5_putBytes_l3 x1 x2 h = some b := hF
    unfold fX5_putBytes_l3 at hF
    refine aw_iload_n hC dX5_putBytes_3 rfl ?_
    refine aw_if_lt (tgt := 48) hC dX5_putBytes_4 (by decide) (fun c1 => ?_) (fun c1 => ?_)
    · have hF := it_t hF c1
      refine aw_weak (ls' := [(9, 0), (9, 0), (9, 0)]) ⟨Or.inl rfl, Or.inl rfl, Or.inl rfl, trivial⟩ ?_
      exact hX _ (hb2 _ (Option.some.inj hF).symm).symm
    · have hF := it_f hF c1
      refine aw_aload_n hC dX5_putBytes_7 rfl ?_
      refine aw_g5i (k := 9) (a := 0) hC dX5_putBytes_8 lkRX5_66 (by decide) rfl rfl rfl (Or.inl ⟨hbt, by decide⟩) ?_
      refine aw_aload_n hC dX5_putBytes_11 rfl ?_
      refine aw_gc5 (k := 8) (a := 0) (b := 17) hC hbt dX5_putBytes_12 lkRX5_19 (by decide) rfl rfl rfl (by decide) (by decide) ?_
      refine aw_alen (a := 17) hC dX5_putBytes_15 rfl rfl (by decide) (by decide) (Or.inl ⟨hbt, by decide⟩) ?_
      refine aw_icmp_ge (tgt := 48) hC dX5_putBytes_16 (by decide) (fun c2 => ?_) (fun c2 => ?_)
      · have hF := it_t hF c2
        refine aw_weak (ls' := [(9, 0), (9, 0), (9, 0)]) ⟨Or.inl rfl, Or.inl rfl, Or.inl rfl, trivial⟩ ?_
        exact hX _ (hb2 _ (Option.some.inj hF).symm).symm
      · have hF := it_f hF c2
        refine aw_aload_n hC dX5_putBytes_19 rfl ?_
        refine aw_gc5 (k := 8) (a := 0) (b := 17) hC hbt dX5_putBytes_20 lkRX5_19 (by decide) rfl rfl rfl (by decide) (by decide) ?_
        refine aw_aload_n hC dX5_putBytes_23 rfl ?_
        refine aw_g5i (k := 9) (a := 0) hC dX5_putBytes_24 lkRX5_66 (by decide) rfl rfl rfl (Or.inl ⟨hbt, by decide⟩) ?_
        refine aw_iload_n hC dX5_putBytes_27 rfl ?_
        refine aw_iload_n hC dX5_putBytes_28 rfl ?_
        refine aw_iushr hC dX5_putBytes_29 ?_
        refine aw_i2b hC dX5_putBytes_30 ?_
        obtain ⟨g3, hF⟩ := gd_some hF
        obtain ⟨g5, hF⟩ := gd_some hF
        obtain ⟨h4, eh4, hF⟩ := lb_some hF
        refine aw_bastore (a := 17) hC dX5_putBytes_31 rfl rfl (Or.inl ⟨hbt, by decide⟩) g3.1 g3.2 g5 ?_
        refine aw_eqH eh4 ?_
        clear eh4
        refine aw_aload_n hC dX5_putBytes_32 rfl ?_
        refine aw_dup hC dX5_putBytes_33 (by simp) ?_
        refine aw_g5i (k := 9) (a := 0) hC dX5_putBytes_34 lkRX5_66 (by decide) rfl rfl rfl (Or.inl ⟨hbt, by decide⟩) ?_
        refine aw_iconst hC dX5_putBytes_37 (by decide) ?_
        refine aw_iadd hC dX5_putBytes_38 ?_
        obtain ⟨h6, eh6, hF⟩ := lb_some hF
        refine aw_p5i (k := 9) (a := 0) hC dX5_putBytes_39 lkRX5_66 (by decide) rfl rfl rfl rfl rfl (Or.inl ⟨hbt, by decide⟩) (fun _ => by decide) ?_
        refine aw_eqH eh6 ?_
        clear eh6
        refine aw_iinc2 hC dX5_putBytes_42 rfl ?_
        refine aw_goto (tgt := 3) hC dX5_putBytes_45 (by decide) ?_
        exact ih0 _ _ r (hb1 _ (Option.some.inj hF).symm) hX
theorem ok_X5_putBytes {G : GD} {n : Nat} {x1 : Int} {h : Hp} {res : Int × Hp} (hF : fX5_putBytes x1 h = some res) : Con G yX5_putBytes cX5_putBytes 3 none 0 0 0 true [(2, ((0 : Nat) : Int)), (0, x1)] n h (FQ 8 n res) := by
  refine con_of (pad := 1) (own := RX5) (plainFor_of_name (by decide)) rfl rfl ?_
  intro X hC hbt hr hnm hZ hRm hn0
  have hK : ∀ (x9 : Int) (h9 : Hp), res = (x9, h9) → FQ 8 n res (8, x9) n h9 := fun x9 h9 e => by subst e; exact ⟨rfl, rfl, rfl⟩
  unfold fX5_putBytes at hF
  show AW G X 0 [(2, ((0 : Nat) : Int)), (0, x1), (9, 0)] [] n h 0 0
  refine aw_bipush hC dX5_putBytes_0 (by decide) (by decide) ?_
  refine aw_istore2 hC dX5_putBytes_2 rfl ?_
  obtain ⟨e8, he, hF⟩ := bp_some hF
  refine fX5_putBytes_l3_ok hC hZ hRm hbt hr FU _ _ e8 he (fun h9 er => ?_)
  replace er := er.symm
  subst er
  try dsimp only at hF
  exact aw_return hC hZ (Nat.zero_le _) (Nat.zero_le _) hr dX5_putBytes_48 (hK _ _ (Option.some.inj hF).symm)
def fX5_feed (x1 : Int) (x2 : Int) (x3 : Int) (x4 : Int) (x5 : Int) (h : Hp) : Option (Int × Hp) :=
  (if (i_add ((h 0 9)) 20) ≤ 700 then bd_ (fX5_putBytes x1 h) (fun r2 h4 => bd_ (fX5_putBytes x2 h4) (fun r5 h7 => bd_ (fX5_putBytes x3 h7) (fun r8 h10 => bd_ (fX5_putBytes x4 h10) (fun r11 h13 => bd_ (fX5_putBytes x5 h13) (fun r14 h16 => some ((h16 0 9), h16)))))) else some ((-1), h))
theorem ok_X5_feed {G : GD} {n : Nat} {x1 : Int} {x2 : Int} {x3 : Int} {x4 : Int} {x5 : Int} {h : Hp} {res : Int × Hp} (hF : fX5_feed x1 x2 x3 x4 x5 h = some res) : Con G yX5_feed cX5_feed 6 (some .int) 1 0 0 true [(2, ((0 : Nat) : Int)), (0, x1), (0, x2), (0, x3), (0, x4), (0, x5)] n h (FQ 0 n res) := by
  refine con_of (pad := 0) (own := RX5) (plainFor_of_name (by decide)) rfl rfl ?_
  intro X hC hbt hr hnm hZ hRm hn0
  have hK : ∀ (x9 : Int) (h9 : Hp), res = (x9, h9) → FQ 0 n res (0, x9) n h9 := fun x9 h9 e => by subst e; exact ⟨rfl, rfl, rfl⟩
  unfold fX5_feed at hF
  show AW G X 0 [(2, ((0 : Nat) : Int)), (0, x1), (0, x2), (0, x3), (0, x4), (0, x5)] [] n h 0 0
  refine aw_aload_n hC dX5_feed_0 rfl ?_
  refine aw_g5i (k := 9) (a := 0) hC dX5_feed_1 lkRX5_66 (by decide) rfl rfl rfl (Or.inl ⟨hbt, by decide⟩) ?_
  refine aw_bipush hC dX5_feed_4 (by decide) (by decide) ?_
  refine aw_iadd hC dX5_feed_6 ?_
  refine aw_sipush hC dX5_feed_7 (by decide) (by decide) ?_
  refine aw_icmp_le (tgt := 15) hC dX5_feed_10 (by decide) (fun c1 => ?_) (fun c1 => ?_)
  · have hF := it_t hF c1
    refine aw_aload_n hC dX5_feed_15 rfl ?_
    refine aw_iload_n hC dX5_feed_16 rfl ?_
    obtain ⟨r2, h4, q3, hF⟩ := bd_some hF
    refine clRX5_69 hC hRm hbt dX5_feed_17 rfl rfl (by decide) (Nat.le_of_ble_eq_true rfl) (Nat.le_of_ble_eq_true rfl) (ok_X5_putBytes q3) ?_
    refine aw_aload_n hC dX5_feed_20 rfl ?_
    refine aw_iload_n hC dX5_feed_21 rfl ?_
    obtain ⟨r5, h7, q6, hF⟩ := bd_some hF
    refine clRX5_69 hC hRm hbt dX5_feed_22 rfl rfl (by decide) (Nat.le_of_ble_eq_true rfl) (Nat.le_of_ble_eq_true rfl) (ok_X5_putBytes q6) ?_
    refine aw_aload_n hC dX5_feed_25 rfl ?_
    refine aw_iload_n hC dX5_feed_26 rfl ?_
    obtain ⟨r8, h10, q9, hF⟩ := bd_some hF
    refine clRX5_69 hC hRm hbt dX5_feed_27 rfl rfl (by decide) (Nat.le_of_ble_eq_true rfl) (Nat.le_of_ble_eq_true rfl) (ok_X5_putBytes q9) ?_
    refine aw_aload_n hC dX5_feed_30 rfl ?_
    refine aw_iload hC dX5_feed_31 rfl ?_
    obtain ⟨r11, h13, q12, hF⟩ := bd_some hF
    refine clRX5_69 hC hRm hbt dX5_feed_33 rfl rfl (by decide) (Nat.le_of_ble_eq_true rfl) (Nat.le_of_ble_eq_true rfl) (ok_X5_putBytes q12) ?_
    refine aw_aload_n hC dX5_feed_36 rfl ?_
    refine aw_iload hC dX5_feed_37 rfl ?_
    obtain ⟨r14, h16, q15, hF⟩ := bd_some hF
    refine clRX5_69 hC hRm hbt dX5_feed_39 rfl rfl (by decide) (Nat.le_of_ble_eq_true rfl) (Nat.le_of_ble_eq_true rfl) (ok_X5_putBytes q15) ?_
    refine aw_aload_n hC dX5_feed_42 rfl ?_
    refine aw_g5i (k := 9) (a := 0) hC dX5_feed_43 lkRX5_66 (by decide) rfl rfl rfl (Or.inl ⟨hbt, by decide⟩) ?_
    exact aw_ireturn hC hZ (Nat.zero_le _) (Nat.zero_le _) hr dX5_feed_46 (hK _ _ (Option.some.inj hF).symm)
  · have hF := it_f hF c1
    refine aw_iconst hC dX5_feed_13 (by decide) ?_
    exact aw_ireturn hC hZ (Nat.zero_le _) (Nat.zero_le _) hr dX5_feed_14 (hK _ _ (Option.some.inj hF).symm)
def fX5_fault  (h : Hp) : Option (Int) :=
  some ((h 0 10))
theorem ok_X5_fault {G : GD} {n : Nat}  {h : Hp} {res : Int} (hF : fX5_fault  h = some res) : Con G yX5_fault cX5_fault 1 (some .int) 0 0 0 true [(2, ((0 : Nat) : Int))] n h (FQ 0 n (res, h)) := by
  refine con_of (pad := 0) (own := RX5) (plainFor_of_name (by decide)) rfl rfl ?_
  intro X hC hbt hr hnm hZ hRm hn0
  have hK : ∀ (x9 : Int), res = x9 → FQ 0 n (res, h) (0, x9) n h := fun x9 e => by subst e; exact ⟨rfl, rfl, rfl⟩
  unfold fX5_fault at hF
  show AW G X 0 [(2, ((0 : Nat) : Int))] [] n h 0 0
  refine aw_aload_n hC dX5_fault_0 rfl ?_
  refine aw_g5i (k := 10) (a := 0) hC dX5_fault_1 lkRX5_62 (by decide) rfl rfl rfl (Or.inl ⟨hbt, by decide⟩) ?_
  exact aw_ireturn hC hZ (Nat.zero_le _) (Nat.zero_le _) hr dX5_fault_4 (hK _ (Option.some.inj hF).symm)
def fX5_treesStanding_27_l4 (x1 : Int) (x2 : Int) (h : Hp) : Option ((Int × Int) ⊕ (Int)) :=
  (if 12 ≤ x2 then some (.inr x1) else gd_ (0 ≤ (i_add 0 x2) ∧ (i_add 0 x2) < 62) ((if (h 27 (Int.toNat ((i_add 0 x2)))) = (-1) then some (.inl (x1, (i_add x2 1))) else some (.inl ((i_add x1 1), (i_add x2 1))))))
def fX5_treesStanding_27  (h : Hp) : Option (Int) :=
  bp_ (it_ (fun s => fX5_treesStanding_27_l4 s.1 s.2 h) FU (0, 0)) (fun e7 => (fun y8 => some y8) e7)
theorem fX5_treesStanding_27_l4_ok {G : GD} {X : CX} {n : Nat} {Q : Av → Nat → Hp → Prop} (hC : Cx G X RX5 cX5_treesStanding) (hZ : ZOK X G Q 0 0) (hRm : X.R = rmd 0 0 0) (hbt : X.bt = true) (hr : X.meth.sig.returnType = (some .int))  {h : Hp} : ∀ (f : Nat) (x1 : Int) (x2 : Int) (r : Int), it_ (fun s => fX5_treesStanding_27_l4 s.1 s.2 h) f (x1, x2) = some r → (∀ (y1 : Int), r = y1 → AW G X 28 [(9, 0), (0, y1), (9, 0)] [] n h 0 0) → AW G X 4 [(2, ((27 : Nat) : Int)), (0, x1), (0, x2)] [] n h 0 0 := by
  intro f
  induction f with
  | zero => intro x1 x2 r hI; cases hI
  | succ f ih0 =>
    intro x1 x2 r hI hX
    obtain ⟨b, hF, hb1, hb2⟩ := it_succ hI
    have hF : fX5_treesStanding_27_l4 x1 x2 h = some b := hF
    unfold fX5_treesStanding_27_l4 at hF
    refine aw_iload_n hC dX5_treesStanding_4 rfl ?_
    refine aw_bipush hC dX5_treesStanding_5 (by decide) (by decide) ?_
    refine aw_icmp_ge (tgt := 28) hC dX5_treesStanding_7 (by decide) (fun c1 => ?_) (fun c1 => ?_)
    · have hF := it_t hF c1
      refine aw_weak (ls' := [(9, 0), (0, x1), (9, 0)]) ⟨Or.inl rfl, Or.inr rfl, Or.inl rfl, trivial⟩ ?_
      exact hX _ (hb2 _ (Option.some.inj hF).symm).symm
    · have hF := it_f hF c1
      refine aw_aload_n hC dX5_treesStanding_10 rfl ?_
      refine aw_iconst hC dX5_treesStanding_11 (by decide) ?_
      refine aw_iload_n hC dX5_treesStanding_12 rfl ?_
      refine aw_iadd hC dX5_treesStanding_13 ?_
      obtain ⟨g2, hF⟩ := gd_some hF
      refine aw_iaload (a := 27) hC dX5_treesStanding_14 rfl rfl (Or.inl ⟨hbt, by decide⟩) g2.1 g2.2 ?_
      refine aw_iconst hC dX5_treesStanding_15 (by decide) ?_
      refine aw_icmp_eq (tgt := 22) hC dX5_treesStanding_16 (by decide) (fun c3 => ?_) (fun c3 => ?_)
      · have hF := it_t hF c3
        refine aw_iinc2 hC dX5_treesStanding_22 rfl ?_
        refine aw_goto (tgt := 4) hC dX5_treesStanding_25 (by decide) ?_
        exact ih0 _ _ r (hb1 _ (Option.some.inj hF).symm) hX
      · have hF := it_f hF c3
        refine aw_iinc1 hC dX5_treesStanding_19 rfl ?_
        refine aw_iinc2 hC dX5_treesStanding_22 rfl ?_
        refine aw_goto (tgt := 4) hC dX5_treesStanding_25 (by decide) ?_
        exact ih0 _ _ r (hb1 _ (Option.some.inj hF).symm) hX
theorem ok_X5_treesStanding_27 {G : GD} {n : Nat}  {h : Hp} {res : Int} (hF : fX5_treesStanding_27  h = some res) : Con G yX5_treesStanding cX5_treesStanding 3 (some .int) 0 0 0 true [(2, ((27 : Nat) : Int))] n h (FQ 0 n (res, h)) := by
  refine con_of (pad := 2) (own := RX5) (plainFor_of_name (by decide)) rfl rfl ?_
  intro X hC hbt hr hnm hZ hRm hn0
  have hK : ∀ (x9 : Int), res = x9 → FQ 0 n (res, h) (0, x9) n h := fun x9 e => by subst e; exact ⟨rfl, rfl, rfl⟩
  unfold fX5_treesStanding_27 at hF
  show AW G X 0 [(2, ((27 : Nat) : Int)), (9, 0), (9, 0)] [] n h 0 0
  refine aw_iconst hC dX5_treesStanding_0 (by decide) ?_
  refine aw_istore1 hC dX5_treesStanding_1 rfl ?_
  refine aw_iconst hC dX5_treesStanding_2 (by decide) ?_
  refine aw_istore2 hC dX5_treesStanding_3 rfl ?_
  obtain ⟨e7, he, hF⟩ := bp_some hF
  refine fX5_treesStanding_27_l4_ok hC hZ hRm hbt hr FU _ _ e7 he (fun y8 er => ?_)
  replace er := er.symm
  subst er
  try dsimp only at hF
  refine aw_iload_n hC dX5_treesStanding_28 rfl ?_
  exact aw_ireturn hC hZ (Nat.zero_le _) (Nat.zero_le _) hr dX5_treesStanding_29 (hK _ (Option.some.inj hF).symm)
def fX5_present  (h : Hp) : Option (Int × Hp) :=
  bd_ (fX3_show_27 ((h 0 0)) h) (fun r1 h3 => some (((20 : Nat) : Int), h3))
theorem ok_X5_present {G : GD} {n : Nat}  {h : Hp} {res : Int × Hp} (hF : fX5_present  h = some res) : Con G yX5_present cX5_present 1 (some (.object "HorizonDues$Scene")) 2 0 0 true [(2, ((0 : Nat) : Int))] n h (FQ 2 n res) := by
  refine con_of (pad := 0) (own := RX5) (plainFor_of_name (by decide)) rfl rfl ?_
  intro X hC hbt hr hnm hZ hRm hn0
  have hK : ∀ (x9 : Int) (h9 : Hp), res = (x9, h9) → FQ 2 n res (2, x9) n h9 := fun x9 h9 e => by subst e; exact ⟨rfl, rfl, rfl⟩
  unfold fX5_present at hF
  show AW G X 0 [(2, ((0 : Nat) : Int))] [] n h 0 0
  refine aw_aload_n hC dX5_present_0 rfl ?_
  refine aw_gc5 (k := 3) (a := 0) (b := 20) hC hbt dX5_present_1 lkRX5_37 (by decide) rfl rfl rfl (by decide) (by decide) ?_
  refine aw_aload_n hC dX5_present_4 rfl ?_
  refine aw_g5r (k := 0) (a := 0) hC dX5_present_5 lkRX5_10 (by decide) rfl rfl rfl (Or.inl ⟨hbt, by decide⟩) ?_
  refine aw_aload_n hC dX5_present_8 rfl ?_
  refine aw_gc5 (k := 4) (a := 0) (b := 26) hC hbt dX5_present_9 lkRX5_44 (by decide) rfl rfl rfl (by decide) (by decide) ?_
  refine aw_gc0N (k := 0) (a := 26) (b := 27) hC hbt dX5_present_12 lkRX5_109 (by decide) rfl rfl rfl (by decide) (by decide) ?_
  obtain ⟨r1, h3, q2, hF⟩ := bd_some hF
  refine clRX5_354 hC hRm hbt dX5_present_15 rfl rfl (by decide) (Nat.le_of_ble_eq_true rfl) (Nat.le_of_ble_eq_true rfl) (ok_X3_show_27 q2) ?_
  refine aw_aload_n hC dX5_present_18 rfl ?_
  refine aw_gc5 (k := 3) (a := 0) (b := 20) hC hbt dX5_present_19 lkRX5_37 (by decide) rfl rfl rfl (by decide) (by decide) ?_
  exact aw_areturn hC hZ (Nat.zero_le _) (Nat.zero_le _) hr (Or.inl ⟨_, rfl⟩) dX5_present_22 (hK _ _ (Option.some.inj hF).symm)
def fX5_years_j29  (h : Hp) : Option (Int × Hp) :=
  lb_ (st h 0 12 ((i_add ((h 0 12)) 1))) (fun h2 => some ((-1), h2))
def fX5_years_l55 (x1 : Int) (x2 : Int) (h : Hp) : Option ((Int × Hp) ⊕ (Hp)) :=
  (if x1 ≤ x2 then some (.inr h) else bd_ (fX3_passYear h) (fun r14 h16 => some (.inl ((i_add x2 1), h16))))
def fX5_years (x1 : Int) (h : Hp) : Option (Int × Hp) :=
  (if x1 < 1 then fX5_years_j29 h else (if 20 < x1 then fX5_years_j29 h else gd_ (0 ≤ (61 : Int) ∧ (61 : Int) < 62) ((if (i_add ((h 27 (Int.toNat 61))) x1) ≤ 999 then bd_ (fX0_remember_26 h) (fun r6 h8 => bd_ (fX5_present h8) (fun r9 h11 => gd_ (r9 = ((20 : Nat) : Int)) (bp_ (it_ (fun s => fX5_years_l55 x1 s.1 s.2) FU (0, h11)) (fun e18 => (fun h19 => gd_ (0 ≤ (0 : Int) ∧ 0 ≤ (0 : Int) ∧ 0 ≤ (62 : Int) ∧ (0 : Int) + 62 ≤ ((62 : Nat) : Int) ∧ (0 : Int) + 62 ≤ ((62 : Nat) : Int)) (lb_ (cpy h19 21 27 (Int.toNat 0) (Int.toNat 0) (Int.toNat 62)) (fun h21 => gd_ (0 ≤ (61 : Int) ∧ (61 : Int) < 62) (some ((h21 27 (Int.toNat 61)), h21))))) e18)))) else fX5_years_j29 h))))
theorem fX5_years_j29_ok {G : GD} {X : CX} {n : Nat} {Q : Av → Nat → Hp → Prop} (hC : Cx G X RX5 cX5_years) (hZ : ZOK X G Q 0 0) (hRm : X.R = rmd 5 0 0) (hbt : X.bt = true) (hr : X.meth.sig.returnType = (some .int))  {h : Hp} {res : Int × Hp} (hF : fX5_years_j29  h = some res) (hK : ∀ (x9 : Int) (h9 : Hp), res = (x9, h9) → Q (0, x9) n h9) : AW G X 29 [(2, ((0 : Nat) : Int)), (9, 0), (9, 0)] [] n h 0 0 := by
  unfold fX5_years_j29 at hF
  refine aw_aload_n hC dX5_years_29 rfl ?_
  refine aw_dup hC dX5_years_30 (by simp) ?_
  refine aw_g5i (k := 12) (a := 0) hC dX5_years_31 lkRX5_140 (by decide) rfl rfl rfl (Or.inl ⟨hbt, by decide⟩) ?_
  refine aw_iconst hC dX5_years_34 (by decide) ?_
  refine aw_iadd hC dX5_years_35 ?_
  obtain ⟨h2, eh2, hF⟩ := lb_some hF
  refine aw_p5i (k := 12) (a := 0) hC dX5_years_36 lkRX5_140 (by decide) rfl rfl rfl rfl rfl (Or.inl ⟨hbt, by decide⟩) (fun _ => by decide) ?_
  refine aw_eqH eh2 ?_
  clear eh2
  refine aw_iconst hC dX5_years_39 (by decide) ?_
  exact aw_ireturn hC hZ (Nat.zero_le _) (Nat.zero_le _) hr dX5_years_40 (hK _ _ (Option.some.inj hF).symm)
theorem fX5_years_l55_ok {G : GD} {X : CX} {n : Nat} {Q : Av → Nat → Hp → Prop} (hC : Cx G X RX5 cX5_years) (hZ : ZOK X G Q 0 0) (hRm : X.R = rmd 5 0 0) (hbt : X.bt = true) (hr : X.meth.sig.returnType = (some .int)) {x1 : Int} : ∀ (f : Nat) (x2 : Int) (h : Hp) (r : Hp), it_ (fun s => fX5_years_l55 x1 s.1 s.2) f (x2, h) = some r → (∀ (h9 : Hp), r = h9 → AW G X 74 [(2, ((0 : Nat) : Int)), (9, 0), (9, 0)] [] n h9 0 0) → AW G X 55 [(2, ((0 : Nat) : Int)), (0, x1), (0, x2)] [] n h 0 0 := by
  intro f
  induction f with
  | zero => intro x2 h r hI; cases hI
  | succ f ih0 =>
    intro x2 h r hI hX
    obtain ⟨b, hF, hb1, hb2⟩ := it_succ hI
    have hF : fX5_years_l55 x1 x2 h = some b := hF
    unfold fX5_years_l55 at hF
    refine aw_iload_n hC dX5_years_55 rfl ?_
    refine aw_iload_n hC dX5_years_56 rfl ?_
    refine aw_icmp_ge (tgt := 74) hC dX5_years_57 (by decide) (fun c13 => ?_) (fun c13 => ?_)
    · have hF := it_t hF c13
      refine aw_weak (ls' := [(2, ((0 : Nat) : Int)), (9, 0), (9, 0)]) ⟨Or.inr rfl, Or.inl rfl, Or.inl rfl, trivial⟩ ?_
      exact hX _ (hb2 _ (Option.some.inj hF).symm).symm
    · have hF := it_f hF c13
      refine aw_aload_n hC dX5_years_60 rfl ?_
      refine aw_gc5 (k := 3) (a := 0) (b := 20) hC hbt dX5_years_61 lkRX5_37 (by decide) rfl rfl rfl (by decide) (by decide) ?_
      obtain ⟨r14, h16, q15, hF⟩ := bd_some hF
      refine clRX5_207 hC hRm hbt dX5_years_64 rfl rfl (by decide) (Nat.le_of_ble_eq_true rfl) (Nat.le_of_ble_eq_true rfl) (ok_X3_passYear q15) ?_
      refine aw_pop hC dX5_years_67 (by simp) ?_
      refine aw_iinc2 hC dX5_years_68 rfl ?_
      refine aw_goto (tgt := 55) hC dX5_years_71 (by decide) ?_
      exact ih0 _ _ r (hb1 _ (Option.some.inj hF).symm) hX
theorem ok_X5_years {G : GD} {n : Nat} {x1 : Int} {h : Hp} {res : Int × Hp} (hF : fX5_years x1 h = some res) : Con G yX5_years cX5_years 3 (some .int) 5 0 0 true [(2, ((0 : Nat) : Int)), (0, x1)] n h (FQ 0 n res) := by
  refine con_of (pad := 1) (own := RX5) (plainFor_of_name (by decide)) rfl rfl ?_
  intro X hC hbt hr hnm hZ hRm hn0
  have hK : ∀ (x9 : Int) (h9 : Hp), res = (x9, h9) → FQ 0 n res (0, x9) n h9 := fun x9 h9 e => by subst e; exact ⟨rfl, rfl, rfl⟩
  unfold fX5_years at hF
  show AW G X 0 [(2, ((0 : Nat) : Int)), (0, x1), (9, 0)] [] n h 0 0
  refine aw_iload_n hC dX5_years_0 rfl ?_
  refine aw_iconst hC dX5_years_1 (by decide) ?_
  refine aw_icmp_lt (tgt := 29) hC dX5_years_2 (by decide) (fun c1 => ?_) (fun c1 => ?_)
  · have hF := it_t hF c1
    refine aw_weak (ls' := [(2, ((0 : Nat) : Int)), (9, 0), (9, 0)]) ⟨Or.inr rfl, Or.inl rfl, Or.inl rfl, trivial⟩ ?_
    exact fX5_years_j29_ok hC hZ hRm hbt hr hF hK
  · have hF := it_f hF c1
    refine aw_iload_n hC dX5_years_5 rfl ?_
    refine aw_bipush hC dX5_years_6 (by decide) (by decide) ?_
    refine aw_icmp_gt (tgt := 29) hC dX5_years_8 (by decide) (fun c3 => ?_) (fun c3 => ?_)
    · have hF := it_t hF c3
      refine aw_weak (ls' := [(2, ((0 : Nat) : Int)), (9, 0), (9, 0)]) ⟨Or.inr rfl, Or.inl rfl, Or.inl rfl, trivial⟩ ?_
      exact fX5_years_j29_ok hC hZ hRm hbt hr hF hK
    · have hF := it_f hF c3
      refine aw_aload_n hC dX5_years_11 rfl ?_
      refine aw_gc5 (k := 4) (a := 0) (b := 26) hC hbt dX5_years_12 lkRX5_44 (by decide) rfl rfl rfl (by decide) (by decide) ?_
      refine aw_gc0N (k := 0) (a := 26) (b := 27) hC hbt dX5_years_15 lkRX5_109 (by decide) rfl rfl rfl (by decide) (by decide) ?_
      refine aw_bipush hC dX5_years_18 (by decide) (by decide) ?_
      obtain ⟨g4, hF⟩ := gd_some hF
      refine aw_iaload (a := 27) hC dX5_years_20 rfl rfl (Or.inl ⟨hbt, by decide⟩) g4.1 g4.2 ?_
      refine aw_iload_n hC dX5_years_21 rfl ?_
      refine aw_iadd hC dX5_years_22 ?_
      refine aw_sipush hC dX5_years_23 (by decide) (by decide) ?_
      refine aw_icmp_le (tgt := 41) hC dX5_years_26 (by decide) (fun c5 => ?_) (fun c5 => ?_)
      · have hF := it_t hF c5
        refine aw_aload_n hC dX5_years_41 rfl ?_
        refine aw_gc5 (k := 4) (a := 0) (b := 26) hC hbt dX5_years_42 lkRX5_44 (by decide) rfl rfl rfl (by decide) (by decide) ?_
        obtain ⟨r6, h8, q7, hF⟩ := bd_some hF
        refine clRX5_204 hC hRm hbt dX5_years_45 rfl rfl (by decide) (Nat.le_of_ble_eq_true rfl) (Nat.le_of_ble_eq_true rfl) (ok_X0_remember_26 q7) ?_
        refine aw_aload_n hC dX5_years_48 rfl ?_
        obtain ⟨r9, h11, q10, hF⟩ := bd_some hF
        refine clRX5_126 hC hRm hbt dX5_years_49 rfl rfl (by decide) (Nat.le_of_ble_eq_true rfl) (Nat.le_of_ble_eq_true rfl) (ok_X5_present q10) ?_
        obtain ⟨g12, hF⟩ := gd_some hF
        refine aw_eqT g12.symm ?_
        refine aw_pop hC dX5_years_52 (by simp) ?_
        refine aw_iconst hC dX5_years_53 (by decide) ?_
        refine aw_istore2 hC dX5_years_54 rfl ?_
        obtain ⟨e18, he, hF⟩ := bp_some hF
        refine fX5_years_l55_ok hC hZ hRm hbt hr FU _ _ e18 he (fun h19 er => ?_)
        replace er := er.symm
        subst er
        try dsimp only at hF
        refine aw_aload_n hC dX5_years_74 rfl ?_
        refine aw_gc5 (k := 3) (a := 0) (b := 20) hC hbt dX5_years_75 lkRX5_37 (by decide) rfl rfl rfl (by decide) (by decide) ?_
        refine aw_gc3N (k := 1) (a := 20) (b := 21) hC hbt dX5_years_78 lkRX5_210 (by decide) rfl rfl rfl (by decide) (by decide) ?_
        refine aw_iconst hC dX5_years_81 (by decide) ?_
        refine aw_aload_n hC dX5_years_82 rfl ?_
        refine aw_gc5 (k := 4) (a := 0) (b := 26) hC hbt dX5_years_83 lkRX5_44 (by decide) rfl rfl rfl (by decide) (by decide) ?_
        refine aw_gc0N (k := 0) (a := 26) (b := 27) hC hbt dX5_years_86 lkRX5_109 (by decide) rfl rfl rfl (by decide) (by decide) ?_
        refine aw_iconst hC dX5_years_89 (by decide) ?_
        refine aw_bipush hC dX5_years_90 (by decide) (by decide) ?_
        obtain ⟨g20, hF⟩ := gd_some hF
        obtain ⟨h21, eh21, hF⟩ := lb_some hF
        refine aw_copyi (a0 := 21) (a1 := 27) hC hRm (Nat.le_of_ble_eq_true rfl) dX5_years_92 cplRX5_211 rfl rfl rfl rfl (Or.inl ⟨hbt, by decide⟩) (Or.inl ⟨hbt, by decide⟩) g20 (Nat.le_of_ble_eq_true rfl) ?_
        refine aw_eqH eh21 ?_
        clear eh21
        refine aw_aload_n hC dX5_years_95 rfl ?_
        refine aw_gc5 (k := 4) (a := 0) (b := 26) hC hbt dX5_years_96 lkRX5_44 (by decide) rfl rfl rfl (by decide) (by decide) ?_
        refine aw_gc0N (k := 0) (a := 26) (b := 27) hC hbt dX5_years_99 lkRX5_109 (by decide) rfl rfl rfl (by decide) (by decide) ?_
        refine aw_bipush hC dX5_years_102 (by decide) (by decide) ?_
        obtain ⟨g22, hF⟩ := gd_some hF
        refine aw_iaload (a := 27) hC dX5_years_104 rfl rfl (Or.inl ⟨hbt, by decide⟩) g22.1 g22.2 ?_
        exact aw_ireturn hC hZ (Nat.zero_le _) (Nat.zero_le _) hr dX5_years_105 (hK _ _ (Option.some.inj hF).symm)
      · have hF := it_f hF c5
        refine aw_weak (ls' := [(2, ((0 : Nat) : Int)), (9, 0), (9, 0)]) ⟨Or.inr rfl, Or.inl rfl, Or.inl rfl, trivial⟩ ?_
        exact fX5_years_j29_ok hC hZ hRm hbt hr hF hK
def fX5_freeNumber_27  (h : Hp) : Option (Int) :=
  bp_ (fX5_treeIn_27 ((-1)) h) (fun r1 => some r1)
theorem ok_X5_freeNumber_27 {G : GD} {n : Nat}  {h : Hp} {res : Int} (hF : fX5_freeNumber_27  h = some res) : Con G yX5_freeNumber cX5_freeNumber 1 (some .int) 1 0 0 true [(2, ((27 : Nat) : Int))] n h (FQ 0 n (res, h)) := by
  refine con_of (pad := 0) (own := RX5) (plainFor_of_name (by decide)) rfl rfl ?_
  intro X hC hbt hr hnm hZ hRm hn0
  have hK : ∀ (x9 : Int), res = x9 → FQ 0 n (res, h) (0, x9) n h := fun x9 e => by subst e; exact ⟨rfl, rfl, rfl⟩
  unfold fX5_freeNumber_27 at hF
  show AW G X 0 [(2, ((27 : Nat) : Int))] [] n h 0 0
  refine aw_aload_n hC dX5_freeNumber_0 rfl ?_
  refine aw_iconst hC dX5_freeNumber_1 (by decide) ?_
  obtain ⟨r1, q2, hF⟩ := bp_some hF
  refine clRX5_160 hC hRm hbt dX5_freeNumber_2 (Nat.le_of_ble_eq_true rfl) (Nat.le_of_ble_eq_true rfl) (ok_X5_treeIn_27 q2) ?_
  exact aw_ireturn hC hZ (Nat.zero_le _) (Nat.zero_le _) hr dX5_freeNumber_5 (hK _ (Option.some.inj hF).symm)
def fX5_actOn (x1 : Int) (x2 : Int) (h : Hp) : Option (Int × Hp) :=
  gd_ (0 ≤ x1 ∧ x1 < 62) (lb_ ((h 27 (Int.toNat x1))) (fun v2 => bd_ (fX0_remember_26 h) (fun r3 h5 => gd_ (0 ≤ x1 ∧ x1 < 62) (lb_ (st h5 27 (Int.toNat x1) x2) (fun h7 => some (v2, h7))))))
theorem ok_X5_actOn {G : GD} {n : Nat} {x1 : Int} {x2 : Int} {h : Hp} {res : Int × Hp} (hF : fX5_actOn x1 x2 h = some res) : Con G yX5_actOn cX5_actOn 4 (some .int) 2 0 0 true [(2, ((0 : Nat) : Int)), (0, x1), (0, x2)] n h (FQ 0 n res) := by
  refine con_of (pad := 1) (own := RX5) (plainFor_of_name (by decide)) rfl rfl ?_
  intro X hC hbt hr hnm hZ hRm hn0
  have hK : ∀ (x9 : Int) (h9 : Hp), res = (x9, h9) → FQ 0 n res (0, x9) n h9 := fun x9 h9 e => by subst e; exact ⟨rfl, rfl, rfl⟩
  unfold fX5_actOn at hF
  show AW G X 0 [(2, ((0 : Nat) : Int)), (0, x1), (0, x2), (9, 0)] [] n h 0 0
  refine aw_aload_n hC dX5_actOn_0 rfl ?_
  refine aw_gc5 (k := 4) (a := 0) (b := 26) hC hbt dX5_actOn_1 lkRX5_44 (by decide) rfl rfl rfl (by decide) (by decide) ?_
  refine aw_gc0N (k := 0) (a := 26) (b := 27) hC hbt dX5_actOn_4 lkRX5_109 (by decide) rfl rfl rfl (by decide) (by decide) ?_
  refine aw_iload_n hC dX5_actOn_7 rfl ?_
  obtain ⟨g1, hF⟩ := gd_some hF
  refine aw_iaload (a := 27) hC dX5_actOn_8 rfl rfl (Or.inl ⟨hbt, by decide⟩) g1.1 g1.2 ?_
  obtain ⟨v2, ev2, hF⟩ := lb_some hF
  refine aw_eqT ev2 ?_
  clear ev2
  refine aw_istore3 hC dX5_actOn_9 rfl ?_
  refine aw_aload_n hC dX5_actOn_10 rfl ?_
  refine aw_gc5 (k := 4) (a := 0) (b := 26) hC hbt dX5_actOn_11 lkRX5_44 (by decide) rfl rfl rfl (by decide) (by decide) ?_
  obtain ⟨r3, h5, q4, hF⟩ := bd_some hF
  refine clRX5_204 hC hRm hbt dX5_actOn_14 rfl rfl (by decide) (Nat.le_of_ble_eq_true rfl) (Nat.le_of_ble_eq_true rfl) (ok_X0_remember_26 q4) ?_
  refine aw_aload_n hC dX5_actOn_17 rfl ?_
  refine aw_gc5 (k := 4) (a := 0) (b := 26) hC hbt dX5_actOn_18 lkRX5_44 (by decide) rfl rfl rfl (by decide) (by decide) ?_
  refine aw_gc0N (k := 0) (a := 26) (b := 27) hC hbt dX5_actOn_21 lkRX5_109 (by decide) rfl rfl rfl (by decide) (by decide) ?_
  refine aw_iload_n hC dX5_actOn_24 rfl ?_
  refine aw_iload_n hC dX5_actOn_25 rfl ?_
  obtain ⟨g6, hF⟩ := gd_some hF
  obtain ⟨h7, eh7, hF⟩ := lb_some hF
  refine aw_iastore (a := 27) hC dX5_actOn_26 rfl rfl (Or.inl ⟨hbt, by decide⟩) g6.1 g6.2 ?_
  refine aw_eqH eh7 ?_
  clear eh7
  refine aw_iload_n hC dX5_actOn_27 rfl ?_
  exact aw_ireturn hC hZ (Nat.zero_le _) (Nat.zero_le _) hr dX5_actOn_28 (hK _ _ (Option.some.inj hF).symm)
def fX5_isLawOrNone (x1 : Int) (h : Hp) : Option (Int) :=
  (if x1 = (-1) then some 1 else (if x1 < 0 then some 0 else gd_ ((h 0 0) = 1 ∨ (h 0 0) = 9) ((if (h (Int.toNat ((h 0 0))) 8) ≤ x1 then some 0 else some 1))))
theorem ok_X5_isLawOrNone {G : GD} {n : Nat} {x1 : Int} {h : Hp} {res : Int} (hF : fX5_isLawOrNone x1 h = some res) : Con G yX5_isLawOrNone cX5_isLawOrNone 2 (some .boolean) 0 0 0 true [(2, ((0 : Nat) : Int)), (0, x1)] n h (FQ 0 n (res, h)) := by
  refine con_of (pad := 0) (own := RX5) (plainFor_of_name (by decide)) rfl rfl ?_
  intro X hC hbt hr hnm hZ hRm hn0
  have hK : ∀ (x9 : Int), res = x9 → FQ 0 n (res, h) (0, x9) n h := fun x9 e => by subst e; exact ⟨rfl, rfl, rfl⟩
  unfold fX5_isLawOrNone at hF
  show AW G X 0 [(2, ((0 : Nat) : Int)), (0, x1)] [] n h 0 0
  refine aw_iload_n hC dX5_isLawOrNone_0 rfl ?_
  refine aw_iconst hC dX5_isLawOrNone_1 (by decide) ?_
  refine aw_icmp_eq (tgt := 20) hC dX5_isLawOrNone_2 (by decide) (fun c1 => ?_) (fun c1 => ?_)
  · have hF := it_t hF c1
    refine aw_iconst hC dX5_isLawOrNone_20 (by decide) ?_
    refine aw_goto (tgt := 25) hC dX5_isLawOrNone_21 (by decide) ?_
    exact aw_zreturn hC hZ (Nat.zero_le _) (Nat.zero_le _) hr rfl dX5_isLawOrNone_25 (by decide) (hK _ (Option.some.inj hF).symm)
  · have hF := it_f hF c1
    refine aw_iload_n hC dX5_isLawOrNone_5 rfl ?_
    refine aw_if_lt (tgt := 24) hC dX5_isLawOrNone_6 (by decide) (fun c2 => ?_) (fun c2 => ?_)
    · have hF := it_t hF c2
      refine aw_iconst hC dX5_isLawOrNone_24 (by decide) ?_
      exact aw_zreturn hC hZ (Nat.zero_le _) (Nat.zero_le _) hr rfl dX5_isLawOrNone_25 (by decide) (hK _ (Option.some.inj hF).symm)
    · have hF := it_f hF c2
      refine aw_iload_n hC dX5_isLawOrNone_9 rfl ?_
      refine aw_aload_n hC dX5_isLawOrNone_10 rfl ?_
      refine aw_g5r (k := 0) (a := 0) hC dX5_isLawOrNone_11 lkRX5_10 (by decide) rfl rfl rfl (Or.inl ⟨hbt, by decide⟩) ?_
      obtain ⟨k3, hF⟩ := gd_some hF
      refine aw_gLiN (k := 8) hC hbt k3 dX5_isLawOrNone_14 lkRX5_119 (by decide) rfl ?_
      refine aw_icmp_ge (tgt := 24) hC dX5_isLawOrNone_17 (by decide) (fun c4 => ?_) (fun c4 => ?_)
      · have hF := it_t hF c4
        refine aw_iconst hC dX5_isLawOrNone_24 (by decide) ?_
        exact aw_zreturn hC hZ (Nat.zero_le _) (Nat.zero_le _) hr rfl dX5_isLawOrNone_25 (by decide) (hK _ (Option.some.inj hF).symm)
      · have hF := it_f hF c4
        refine aw_iconst hC dX5_isLawOrNone_20 (by decide) ?_
        refine aw_goto (tgt := 25) hC dX5_isLawOrNone_21 (by decide) ?_
        exact aw_zreturn hC hZ (Nat.zero_le _) (Nat.zero_le _) hr rfl dX5_isLawOrNone_25 (by decide) (hK _ (Option.some.inj hF).symm)
def fX5_obey (x1 : Int) (h : Hp) : Option (Int × Hp) :=
  bp_ (fX5_isLawOrNone x1 h) (fun r1 => (if r1 = 0 then lb_ (st h 0 12 ((i_add ((h 0 12)) 1))) (fun h7 => some (0, h7)) else bd_ (fX5_actOn 60 x1 h) (fun r4 h6 => some (1, h6))))
theorem ok_X5_obey {G : GD} {n : Nat} {x1 : Int} {h : Hp} {res : Int × Hp} (hF : fX5_obey x1 h = some res) : Con G yX5_obey cX5_obey 2 (some .boolean) 3 0 0 true [(2, ((0 : Nat) : Int)), (0, x1)] n h (FQ 0 n res) := by
  refine con_of (pad := 0) (own := RX5) (plainFor_of_name (by decide)) rfl rfl ?_
  intro X hC hbt hr hnm hZ hRm hn0
  have hK : ∀ (x9 : Int) (h9 : Hp), res = (x9, h9) → FQ 0 n res (0, x9) n h9 := fun x9 h9 e => by subst e; exact ⟨rfl, rfl, rfl⟩
  unfold fX5_obey at hF
  show AW G X 0 [(2, ((0 : Nat) : Int)), (0, x1)] [] n h 0 0
  refine aw_aload_n hC dX5_obey_0 rfl ?_
  refine aw_iload_n hC dX5_obey_1 rfl ?_
  obtain ⟨r1, q2, hF⟩ := bp_some hF
  refine clRX5_228 hC hRm hbt dX5_obey_2 rfl rfl (by decide) (Nat.le_of_ble_eq_true rfl) (Nat.le_of_ble_eq_true rfl) (ok_X5_isLawOrNone q2) ?_
  refine aw_if_ne (tgt := 20) hC dX5_obey_5 (by decide) (fun c3 => ?_) (fun c3 => ?_)
  · have hF := it_f hF c3
    refine aw_aload_n hC dX5_obey_20 rfl ?_
    refine aw_bipush hC dX5_obey_21 (by decide) (by decide) ?_
    refine aw_iload_n hC dX5_obey_23 rfl ?_
    obtain ⟨r4, h6, q5, hF⟩ := bd_some hF
    refine clRX5_220 hC hRm hbt dX5_obey_24 rfl rfl (by decide) (Nat.le_of_ble_eq_true rfl) (Nat.le_of_ble_eq_true rfl) (ok_X5_actOn q5) ?_
    refine aw_pop hC dX5_obey_27 (by simp) ?_
    refine aw_iconst hC dX5_obey_28 (by decide) ?_
    exact aw_zreturn hC hZ (Nat.zero_le _) (Nat.zero_le _) hr rfl dX5_obey_29 (by decide) (hK _ _ (Option.some.inj hF).symm)
  · have hF := it_t hF c3
    refine aw_aload_n hC dX5_obey_8 rfl ?_
    refine aw_dup hC dX5_obey_9 (by simp) ?_
    refine aw_g5i (k := 12) (a := 0) hC dX5_obey_10 lkRX5_140 (by decide) rfl rfl rfl (Or.inl ⟨hbt, by decide⟩) ?_
    refine aw_iconst hC dX5_obey_13 (by decide) ?_
    refine aw_iadd hC dX5_obey_14 ?_
    obtain ⟨h7, eh7, hF⟩ := lb_some hF
    refine aw_p5i (k := 12) (a := 0) hC dX5_obey_15 lkRX5_140 (by decide) rfl rfl rfl rfl rfl (Or.inl ⟨hbt, by decide⟩) (fun _ => by decide) ?_
    refine aw_eqH eh7 ?_
    clear eh7
    refine aw_iconst hC dX5_obey_18 (by decide) ?_
    exact aw_zreturn hC hZ (Nat.zero_le _) (Nat.zero_le _) hr rfl dX5_obey_19 (by decide) (hK _ _ (Option.some.inj hF).symm)
def fX5_undo  (h : Hp) : Option (Int × Hp) :=
  bd_ (fX0_recall_26 h) (fun r1 h3 => (if r1 = 0 then some ((-1), h3) else some ((h3 26 3), h3)))
theorem ok_X5_undo {G : GD} {n : Nat}  {h : Hp} {res : Int × Hp} (hF : fX5_undo  h = some res) : Con G yX5_undo cX5_undo 1 (some .int) 2 0 0 true [(2, ((0 : Nat) : Int))] n h (FQ 0 n res) := by
  refine con_of (pad := 0) (own := RX5) (plainFor_of_name (by decide)) rfl rfl ?_
  intro X hC hbt hr hnm hZ hRm hn0
  have hK : ∀ (x9 : Int) (h9 : Hp), res = (x9, h9) → FQ 0 n res (0, x9) n h9 := fun x9 h9 e => by subst e; exact ⟨rfl, rfl, rfl⟩
  unfold fX5_undo at hF
  show AW G X 0 [(2, ((0 : Nat) : Int))] [] n h 0 0
  refine aw_aload_n hC dX5_undo_0 rfl ?_
  refine aw_gc5 (k := 4) (a := 0) (b := 26) hC hbt dX5_undo_1 lkRX5_44 (by decide) rfl rfl rfl (by decide) (by decide) ?_
  obtain ⟨r1, h3, q2, hF⟩ := bd_some hF
  refine clRX5_232 hC hRm hbt dX5_undo_4 rfl rfl (by decide) (Nat.le_of_ble_eq_true rfl) (Nat.le_of_ble_eq_true rfl) (ok_X0_recall_26 q2) ?_
  refine aw_if_eq (tgt := 20) hC dX5_undo_7 (by decide) (fun c4 => ?_) (fun c4 => ?_)
  · have hF := it_t hF c4
    refine aw_iconst hC dX5_undo_20 (by decide) ?_
    exact aw_ireturn hC hZ (Nat.zero_le _) (Nat.zero_le _) hr dX5_undo_21 (hK _ _ (Option.some.inj hF).symm)
  · have hF := it_f hF c4
    refine aw_aload_n hC dX5_undo_10 rfl ?_
    refine aw_gc5 (k := 4) (a := 0) (b := 26) hC hbt dX5_undo_11 lkRX5_44 (by decide) rfl rfl rfl (by decide) (by decide) ?_
    refine aw_g0iN (k := 3) (a := 26) hC dX5_undo_14 lkRX5_134 (by decide) rfl rfl rfl (Or.inl ⟨hbt, by decide⟩) ?_
    refine aw_goto (tgt := 21) hC dX5_undo_17 (by decide) ?_
    exact aw_ireturn hC hZ (Nat.zero_le _) (Nat.zero_le _) hr dX5_undo_21 (hK _ _ (Option.some.inj hF).symm)
def fX5_houseBits  (h : Hp) : Option (Int) :=
  gd_ ((h 0 0) = 1 ∨ (h 0 0) = 9) (some ((i_sub ((i_shl 1 ((h (Int.toNat ((h 0 0))) 3)))) 1)))
theorem ok_X5_houseBits {G : GD} {n : Nat}  {h : Hp} {res : Int} (hF : fX5_houseBits  h = some res) : Con G yX5_houseBits cX5_houseBits 1 (some .int) 0 0 0 true [(2, ((0 : Nat) : Int))] n h (FQ 0 n (res, h)) := by
  refine con_of (pad := 0) (own := RX5) (plainFor_of_name (by decide)) rfl rfl ?_
  intro X hC hbt hr hnm hZ hRm hn0
  have hK : ∀ (x9 : Int), res = x9 → FQ 0 n (res, h) (0, x9) n h := fun x9 e => by subst e; exact ⟨rfl, rfl, rfl⟩
  unfold fX5_houseBits at hF
  show AW G X 0 [(2, ((0 : Nat) : Int))] [] n h 0 0
  refine aw_iconst hC dX5_houseBits_0 (by decide) ?_
  refine aw_aload_n hC dX5_houseBits_1 rfl ?_
  refine aw_g5r (k := 0) (a := 0) hC dX5_houseBits_2 lkRX5_10 (by decide) rfl rfl rfl (Or.inl ⟨hbt, by decide⟩) ?_
  obtain ⟨k1, hF⟩ := gd_some hF
  refine aw_gLiN (k := 3) hC hbt k1 dX5_houseBits_5 lkRX5_116 (by decide) rfl ?_
  refine aw_ishl hC dX5_houseBits_8 ?_
  refine aw_iconst hC dX5_houseBits_9 (by decide) ?_
  refine aw_isub hC dX5_houseBits_10 ?_
  exact aw_ireturn hC hZ (Nat.zero_le _) (Nat.zero_le _) hr dX5_houseBits_11 (hK _ (Option.some.inj hF).symm)
def fX5_isTax (x0 : Int) (h : Hp) : Option (Int) :=
  (if x0 < 0 then some 0 else (if 999 < x0 then some 0 else some 1))
theorem ok_X5_isTax {G : GD} {n : Nat} {x0 : Int} {h : Hp} {res : Int} (hF : fX5_isTax x0 h = some res) : Con G yX5_isTax cX5_isTax 1 (some .boolean) 0 0 0 true [(0, x0)] n h (FQ 0 n (res, h)) := by
  refine con_of (pad := 0) (own := RX5) (plainFor_of_name (by decide)) rfl rfl ?_
  intro X hC hbt hr hnm hZ hRm hn0
  have hK : ∀ (x9 : Int), res = x9 → FQ 0 n (res, h) (0, x9) n h := fun x9 e => by subst e; exact ⟨rfl, rfl, rfl⟩
  unfold fX5_isTax at hF
  show AW G X 0 [(0, x0)] [] n h 0 0
  refine aw_iload_n hC dX5_isTax_0 rfl ?_
  refine aw_if_lt (tgt := 15) hC dX5_isTax_1 (by decide) (fun c1 => ?_) (fun c1 => ?_)
  · have hF := it_t hF c1
    refine aw_iconst hC dX5_isTax_15 (by decide) ?_
    exact aw_zreturn hC hZ (Nat.zero_le _) (Nat.zero_le _) hr rfl dX5_isTax_16 (by decide) (hK _ (Option.some.inj hF).symm)
  · have hF := it_f hF c1
    refine aw_iload_n hC dX5_isTax_4 rfl ?_
    refine aw_sipush hC dX5_isTax_5 (by decide) (by decide) ?_
    refine aw_icmp_gt (tgt := 15) hC dX5_isTax_8 (by decide) (fun c2 => ?_) (fun c2 => ?_)
    · have hF := it_t hF c2
      refine aw_iconst hC dX5_isTax_15 (by decide) ?_
      exact aw_zreturn hC hZ (Nat.zero_le _) (Nat.zero_le _) hr rfl dX5_isTax_16 (by decide) (hK _ (Option.some.inj hF).symm)
    · have hF := it_f hF c2
      refine aw_iconst hC dX5_isTax_11 (by decide) ?_
      refine aw_goto (tgt := 16) hC dX5_isTax_12 (by decide) ?_
      exact aw_zreturn hC hZ (Nat.zero_le _) (Nat.zero_le _) hr rfl dX5_isTax_16 (by decide) (hK _ (Option.some.inj hF).symm)
def fX5_firsHelp (x1 : Int) (x2 : Int) (x3 : Int) (x4 : Int) (h : Hp) : Option (Int × Hp) :=
  bd_ (fX3_raise x1 9 h) (fun r1 h3 => bd_ (fX3_raise x2 9 h3) (fun r4 h6 => bd_ (fX3_allWithin x3 x4 h6) (fun r7 h9 => bd_ (fX3_raise x1 ((-9)) h9) (fun r10 h12 => bd_ (fX3_raise x2 ((-9)) h12) (fun r13 h15 => gd_ (r7 = 0 ∨ r7 = 1) (some (r7, h15)))))))
theorem ok_X5_firsHelp {G : GD} {n : Nat} {x1 : Int} {x2 : Int} {x3 : Int} {x4 : Int} {h : Hp} {res : Int × Hp} (hF : fX5_firsHelp x1 x2 x3 x4 h = some res) : Con G yX5_firsHelp cX5_firsHelp 6 (some .boolean) 5 0 0 true [(2, ((0 : Nat) : Int)), (0, x1), (0, x2), (0, x3), (0, x4)] n h (FQ 0 n res) := by
  refine con_of (pad := 1) (own := RX5) (plainFor_of_name (by decide)) rfl rfl ?_
  intro X hC hbt hr hnm hZ hRm hn0
  have hK : ∀ (x9 : Int) (h9 : Hp), res = (x9, h9) → FQ 0 n res (0, x9) n h9 := fun x9 h9 e => by subst e; exact ⟨rfl, rfl, rfl⟩
  unfold fX5_firsHelp at hF
  show AW G X 0 [(2, ((0 : Nat) : Int)), (0, x1), (0, x2), (0, x3), (0, x4), (9, 0)] [] n h 0 0
  refine aw_aload_n hC dX5_firsHelp_0 rfl ?_
  refine aw_gc5 (k := 3) (a := 0) (b := 20) hC hbt dX5_firsHelp_1 lkRX5_37 (by decide) rfl rfl rfl (by decide) (by decide) ?_
  refine aw_iload_n hC dX5_firsHelp_4 rfl ?_
  refine aw_bipush hC dX5_firsHelp_5 (by decide) (by decide) ?_
  obtain ⟨r1, h3, q2, hF⟩ := bd_some hF
  refine clRX5_264 hC hRm hbt dX5_firsHelp_7 rfl rfl (by decide) (Nat.le_of_ble_eq_true rfl) (Nat.le_of_ble_eq_true rfl) (ok_X3_raise q2) ?_
  refine aw_aload_n hC dX5_firsHelp_10 rfl ?_
  refine aw_gc5 (k := 3) (a := 0) (b := 20) hC hbt dX5_firsHelp_11 lkRX5_37 (by decide) rfl rfl rfl (by decide) (by decide) ?_
  refine aw_iload_n hC dX5_firsHelp_14 rfl ?_
  refine aw_bipush hC dX5_firsHelp_15 (by decide) (by decide) ?_
  obtain ⟨r4, h6, q5, hF⟩ := bd_some hF
  refine clRX5_264 hC hRm hbt dX5_firsHelp_17 rfl rfl (by decide) (Nat.le_of_ble_eq_true rfl) (Nat.le_of_ble_eq_true rfl) (ok_X3_raise q5) ?_
  refine aw_aload_n hC dX5_firsHelp_20 rfl ?_
  refine aw_gc5 (k := 3) (a := 0) (b := 20) hC hbt dX5_firsHelp_21 lkRX5_37 (by decide) rfl rfl rfl (by decide) (by decide) ?_
  refine aw_iload_n hC dX5_firsHelp_24 rfl ?_
  refine aw_iload hC dX5_firsHelp_25 rfl ?_
  obtain ⟨r7, h9, q8, hF⟩ := bd_some hF
  refine clRX5_244 hC hRm hbt dX5_firsHelp_27 rfl rfl (by decide) (Nat.le_of_ble_eq_true rfl) (Nat.le_of_ble_eq_true rfl) (ok_X3_allWithin q8) ?_
  refine aw_istore5 hC dX5_firsHelp_30 rfl ?_
  refine aw_aload_n hC dX5_firsHelp_32 rfl ?_
  refine aw_gc5 (k := 3) (a := 0) (b := 20) hC hbt dX5_firsHelp_33 lkRX5_37 (by decide) rfl rfl rfl (by decide) (by decide) ?_
  refine aw_iload_n hC dX5_firsHelp_36 rfl ?_
  refine aw_bipush hC dX5_firsHelp_37 (by decide) (by decide) ?_
  obtain ⟨r10, h12, q11, hF⟩ := bd_some hF
  refine clRX5_264 hC hRm hbt dX5_firsHelp_39 rfl rfl (by decide) (Nat.le_of_ble_eq_true rfl) (Nat.le_of_ble_eq_true rfl) (ok_X3_raise q11) ?_
  refine aw_aload_n hC dX5_firsHelp_42 rfl ?_
  refine aw_gc5 (k := 3) (a := 0) (b := 20) hC hbt dX5_firsHelp_43 lkRX5_37 (by decide) rfl rfl rfl (by decide) (by decide) ?_
  refine aw_iload_n hC dX5_firsHelp_46 rfl ?_
  refine aw_bipush hC dX5_firsHelp_47 (by decide) (by decide) ?_
  obtain ⟨r13, h15, q14, hF⟩ := bd_some hF
  refine clRX5_264 hC hRm hbt dX5_firsHelp_49 rfl rfl (by decide) (Nat.le_of_ble_eq_true rfl) (Nat.le_of_ble_eq_true rfl) (ok_X3_raise q14) ?_
  refine aw_iload hC dX5_firsHelp_52 rfl ?_
  obtain ⟨g16, hF⟩ := gd_some hF
  exact aw_zreturn hC hZ (Nat.zero_le _) (Nat.zero_le _) hr rfl dX5_firsHelp_54 g16 (hK _ _ (Option.some.inj hF).symm)
def fX5_keepFirs (x1 : Int) (x2 : Int) (x3 : Int) (h : Hp) : Option (Int × Hp) :=
  gd_ (0 ≤ (0 : Int) ∧ (0 : Int) < 2) (lb_ (st h 34 (Int.toNat 0) x2) (fun h2 => gd_ (0 ≤ (1 : Int) ∧ (1 : Int) < 2) (lb_ (st h2 34 (Int.toNat 1) x3) (fun h4 => lb_ (st h4 0 15 x1) (fun h5 => some (x1, h5))))))
theorem ok_X5_keepFirs {G : GD} {n : Nat} {x1 : Int} {x2 : Int} {x3 : Int} {h : Hp} {res : Int × Hp} (hF : fX5_keepFirs x1 x2 x3 h = some res) : Con G yX5_keepFirs cX5_keepFirs 4 (some .int) 0 0 0 true [(2, ((0 : Nat) : Int)), (0, x1), (0, x2), (0, x3)] n h (FQ 0 n res) := by
  refine con_of (pad := 0) (own := RX5) (plainFor_of_name (by decide)) rfl rfl ?_
  intro X hC hbt hr hnm hZ hRm hn0
  have hK : ∀ (x9 : Int) (h9 : Hp), res = (x9, h9) → FQ 0 n res (0, x9) n h9 := fun x9 h9 e => by subst e; exact ⟨rfl, rfl, rfl⟩
  unfold fX5_keepFirs at hF
  show AW G X 0 [(2, ((0 : Nat) : Int)), (0, x1), (0, x2), (0, x3)] [] n h 0 0
  refine aw_aload_n hC dX5_keepFirs_0 rfl ?_
  refine aw_gc5 (k := 14) (a := 0) (b := 34) hC hbt dX5_keepFirs_1 lkRX5_55 (by decide) rfl rfl rfl (by decide) (by decide) ?_
  refine aw_iconst hC dX5_keepFirs_4 (by decide) ?_
  refine aw_iload_n hC dX5_keepFirs_5 rfl ?_
  obtain ⟨g1, hF⟩ := gd_some hF
  obtain ⟨h2, eh2, hF⟩ := lb_some hF
  refine aw_iastore (a := 34) hC dX5_keepFirs_6 rfl rfl (Or.inl ⟨hbt, by decide⟩) g1.1 g1.2 ?_
  refine aw_eqH eh2 ?_
  clear eh2
  refine aw_aload_n hC dX5_keepFirs_7 rfl ?_
  refine aw_gc5 (k := 14) (a := 0) (b := 34) hC hbt dX5_keepFirs_8 lkRX5_55 (by decide) rfl rfl rfl (by decide) (by decide) ?_
  refine aw_iconst hC dX5_keepFirs_11 (by decide) ?_
  refine aw_iload_n hC dX5_keepFirs_12 rfl ?_
  obtain ⟨g3, hF⟩ := gd_some hF
  obtain ⟨h4, eh4, hF⟩ := lb_some hF
  refine aw_iastore (a := 34) hC dX5_keepFirs_13 rfl rfl (Or.inl ⟨hbt, by decide⟩) g3.1 g3.2 ?_
  refine aw_eqH eh4 ?_
  clear eh4
  refine aw_aload_n hC dX5_keepFirs_14 rfl ?_
  refine aw_iload_n hC dX5_keepFirs_15 rfl ?_
  obtain ⟨h5, eh5, hF⟩ := lb_some hF
  refine aw_p5i (k := 15) (a := 0) hC dX5_keepFirs_16 lkRX5_97 (by decide) rfl rfl rfl rfl rfl (Or.inl ⟨hbt, by decide⟩) (fun _ => by decide) ?_
  refine aw_eqH eh5 ?_
  clear eh5
  refine aw_iload_n hC dX5_keepFirs_19 rfl ?_
  exact aw_ireturn hC hZ (Nat.zero_le _) (Nat.zero_le _) hr dX5_keepFirs_20 (hK _ _ (Option.some.inj hF).symm)
def fX5_ruin_l12 (x1 : Int) (x2 : Int) (x3 : Int) (h : Hp) : Option ((Int × Int × Hp) ⊕ (Int × Hp)) :=
  (if 12 ≤ x3 then some (.inr (x2, h)) else gd_ (0 ≤ (i_add 0 x3) ∧ (i_add 0 x3) < 62) ((if (h 27 (Int.toNat ((i_add 0 x3)))) = (-1) then some (.inl (x2, (i_add x3 1), h)) else bd_ (fX5_present h) (fun r12 h14 => gd_ (r12 = ((20 : Nat) : Int)) (bd_ (fX3_dropTree x3 h14) (fun r16 h18 => bd_ (fX3_housesThatCanPay h18) (fun r19 h21 => (if (i_and x1 ((i_xor r19 ((-1))))) = 0 then some (.inl (x2, (i_add x3 1), h21)) else lb_ ((i_or x2 ((i_shl 1 x3)))) (fun v24 => some (.inl (v24, (i_add x3 1), h21)))))))))))
def fX5_ruin  (h : Hp) : Option (Int × Hp) :=
  bd_ (fX5_present h) (fun r1 h3 => gd_ (r1 = ((20 : Nat) : Int)) (bd_ (fX3_housesThatCanPay h3) (fun r5 h7 => bp_ (it_ (fun s => fX5_ruin_l12 r5 s.1 s.2.1 s.2.2) FU (0, 0, h7)) (fun e26 => (fun y27 h28 => some (y27, h28)) e26.1 e26.2))))
theorem fX5_ruin_l12_ok {G : GD} {X : CX} {n : Nat} {Q : Av → Nat → Hp → Prop} (hC : Cx G X RX5 cX5_ruin) (hZ : ZOK X G Q 0 0) (hRm : X.R = rmd 5 0 0) (hbt : X.bt = true) (hr : X.meth.sig.returnType = (some .int)) {x1 : Int} : ∀ (f : Nat) (x2 : Int) (x3 : Int) (h : Hp) (r : Int × Hp), it_ (fun s => fX5_ruin_l12 x1 s.1 s.2.1 s.2.2) f (x2, x3, h) = some r → (∀ (y2 : Int) (h9 : Hp), r = (y2, h9) → AW G X 67 [(9, 0), (9, 0), (0, y2), (9, 0)] [] n h9 0 0) → AW G X 12 [(2, ((0 : Nat) : Int)), (0, x1), (0, x2), (0, x3)] [] n h 0 0 := by
  intro f
  induction f with
  | zero => intro x2 x3 h r hI; cases hI
  | succ f ih0 =>
    intro x2 x3 h r hI hX
    obtain ⟨b, hF, hb1, hb2⟩ := it_succ hI
    have hF : fX5_ruin_l12 x1 x2 x3 h = some b := hF
    unfold fX5_ruin_l12 at hF
    refine aw_iload_n hC dX5_ruin_12 rfl ?_
    refine aw_bipush hC dX5_ruin_13 (by decide) (by decide) ?_
    refine aw_icmp_ge (tgt := 67) hC dX5_ruin_15 (by decide) (fun c8 => ?_) (fun c8 => ?_)
    · have hF := it_t hF c8
      refine aw_weak (ls' := [(9, 0), (9, 0), (0, x2), (9, 0)]) ⟨Or.inl rfl, Or.inl rfl, Or.inr rfl, Or.inl rfl, trivial⟩ ?_
      exact hX _ _ (hb2 _ (Option.some.inj hF).symm).symm
    · have hF := it_f hF c8
      refine aw_aload_n hC dX5_ruin_18 rfl ?_
      refine aw_gc5 (k := 4) (a := 0) (b := 26) hC hbt dX5_ruin_19 lkRX5_44 (by decide) rfl rfl rfl (by decide) (by decide) ?_
      refine aw_gc0N (k := 0) (a := 26) (b := 27) hC hbt dX5_ruin_22 lkRX5_109 (by decide) rfl rfl rfl (by decide) (by decide) ?_
      refine aw_iconst hC dX5_ruin_25 (by decide) ?_
      refine aw_iload_n hC dX5_ruin_26 rfl ?_
      refine aw_iadd hC dX5_ruin_27 ?_
      obtain ⟨g9, hF⟩ := gd_some hF
      refine aw_iaload (a := 27) hC dX5_ruin_28 rfl rfl (Or.inl ⟨hbt, by decide⟩) g9.1 g9.2 ?_
      refine aw_iconst hC dX5_ruin_29 (by decide) ?_
      refine aw_icmp_eq (tgt := 61) hC dX5_ruin_30 (by decide) (fun c10 => ?_) (fun c10 => ?_)
      · have hF := it_t hF c10
        refine aw_iinc3 hC dX5_ruin_61 rfl ?_
        refine aw_goto (tgt := 12) hC dX5_ruin_64 (by decide) ?_
        exact ih0 _ _ _ r (hb1 _ (Option.some.inj hF).symm) hX
      · have hF := it_f hF c10
        refine aw_aload_n hC dX5_ruin_33 rfl ?_
        obtain ⟨r12, h14, q13, hF⟩ := bd_some hF
        refine clRX5_126 hC hRm hbt dX5_ruin_34 rfl rfl (by decide) (Nat.le_of_ble_eq_true rfl) (Nat.le_of_ble_eq_true rfl) (ok_X5_present q13) ?_
        obtain ⟨g15, hF⟩ := gd_some hF
        refine aw_eqT g15.symm ?_
        refine aw_iload_n hC dX5_ruin_37 rfl ?_
        obtain ⟨r16, h18, q17, hF⟩ := bd_some hF
        refine clRX5_272 hC hRm hbt dX5_ruin_38 rfl rfl (by decide) (Nat.le_of_ble_eq_true rfl) (Nat.le_of_ble_eq_true rfl) (ok_X3_dropTree q17) ?_
        refine aw_iload_n hC dX5_ruin_41 rfl ?_
        refine aw_aload_n hC dX5_ruin_42 rfl ?_
        refine aw_gc5 (k := 3) (a := 0) (b := 20) hC hbt dX5_ruin_43 lkRX5_37 (by decide) rfl rfl rfl (by decide) (by decide) ?_
        obtain ⟨r19, h21, q20, hF⟩ := bd_some hF
        refine clRX5_275 hC hRm hbt dX5_ruin_46 rfl rfl (by decide) (Nat.le_of_ble_eq_true rfl) (Nat.le_of_ble_eq_true rfl) (ok_X3_housesThatCanPay q20) ?_
        refine aw_iconst hC dX5_ruin_49 (by decide) ?_
        refine aw_ixor hC dX5_ruin_50 ?_
        refine aw_iand hC dX5_ruin_51 ?_
        refine aw_if_eq (tgt := 61) hC dX5_ruin_52 (by decide) (fun c22 => ?_) (fun c22 => ?_)
        · have hF := it_t hF c22
          refine aw_iinc3 hC dX5_ruin_61 rfl ?_
          refine aw_goto (tgt := 12) hC dX5_ruin_64 (by decide) ?_
          exact ih0 _ _ _ r (hb1 _ (Option.some.inj hF).symm) hX
        · have hF := it_f hF c22
          refine aw_iload_n hC dX5_ruin_55 rfl ?_
          refine aw_iconst hC dX5_ruin_56 (by decide) ?_
          refine aw_iload_n hC dX5_ruin_57 rfl ?_
          refine aw_ishl hC dX5_ruin_58 ?_
          refine aw_ior hC dX5_ruin_59 ?_
          obtain ⟨v24, ev24, hF⟩ := lb_some hF
          refine aw_eqT ev24 ?_
          clear ev24
          refine aw_istore2 hC dX5_ruin_60 rfl ?_
          refine aw_iinc3 hC dX5_ruin_61 rfl ?_
          refine aw_goto (tgt := 12) hC dX5_ruin_64 (by decide) ?_
          exact ih0 _ _ _ r (hb1 _ (Option.some.inj hF).symm) hX
theorem ok_X5_ruin {G : GD} {n : Nat}  {h : Hp} {res : Int × Hp} (hF : fX5_ruin  h = some res) : Con G yX5_ruin cX5_ruin 4 (some .int) 5 0 0 true [(2, ((0 : Nat) : Int))] n h (FQ 0 n res) := by
  refine con_of (pad := 3) (own := RX5) (plainFor_of_name (by decide)) rfl rfl ?_
  intro X hC hbt hr hnm hZ hRm hn0
  have hK : ∀ (x9 : Int) (h9 : Hp), res = (x9, h9) → FQ 0 n res (0, x9) n h9 := fun x9 h9 e => by subst e; exact ⟨rfl, rfl, rfl⟩
  unfold fX5_ruin at hF
  show AW G X 0 [(2, ((0 : Nat) : Int)), (9, 0), (9, 0), (9, 0)] [] n h 0 0
  refine aw_aload_n hC dX5_ruin_0 rfl ?_
  obtain ⟨r1, h3, q2, hF⟩ := bd_some hF
  refine clRX5_126 hC hRm hbt dX5_ruin_1 rfl rfl (by decide) (Nat.le_of_ble_eq_true rfl) (Nat.le_of_ble_eq_true rfl) (ok_X5_present q2) ?_
  obtain ⟨g4, hF⟩ := gd_some hF
  refine aw_eqT g4.symm ?_
  obtain ⟨r5, h7, q6, hF⟩ := bd_some hF
  refine clRX5_275 hC hRm hbt dX5_ruin_4 rfl rfl (by decide) (Nat.le_of_ble_eq_true rfl) (Nat.le_of_ble_eq_true rfl) (ok_X3_housesThatCanPay q6) ?_
  refine aw_istore1 hC dX5_ruin_7 rfl ?_
  refine aw_iconst hC dX5_ruin_8 (by decide) ?_
  refine aw_istore2 hC dX5_ruin_9 rfl ?_
  refine aw_iconst hC dX5_ruin_10 (by decide) ?_
  refine aw_istore3 hC dX5_ruin_11 rfl ?_
  obtain ⟨e26, he, hF⟩ := bp_some hF
  refine fX5_ruin_l12_ok hC hZ hRm hbt hr FU _ _ _ e26 he (fun y27 h28 er => ?_)
  replace er := er.symm
  subst er
  try dsimp only at hF
  refine aw_iload_n hC dX5_ruin_67 rfl ?_
  exact aw_ireturn hC hZ (Nat.zero_le _) (Nat.zero_le _) hr dX5_ruin_68 (hK _ _ (Option.some.inj hF).symm)
def fX5_lossOf (x1 : Int) (x2 : Int) (x3 : Int) (x4 : Int) (x5 : Int) (h : Hp) : Option (Int × Hp) :=
  bd_ (fX5_present h) (fun r1 h3 => gd_ (r1 = ((20 : Nat) : Int)) (gd_ ((h3 0 0) = 1 ∨ (h3 0 0) = 9) (gd_ (0 ≤ x1 ∧ x1 < 6) (bd_ (fX3_raise ((h3 (Int.toNat ((h3 0 0) + 2)) (Int.toNat x1))) ((i_mul x4 x3)) h3) (fun r7 h9 => gd_ ((h9 0 0) = 1 ∨ (h9 0 0) = 9) (gd_ (0 ≤ x2 ∧ x2 < 6) (bd_ (fX3_raise ((h9 (Int.toNat ((h9 0 0) + 2)) (Int.toNat x2))) ((i_mul x5 x3)) h9) (fun r12 h14 => bd_ (fX3_taxOf x1 h14) (fun r15 h17 => some (r15, h17))))))))))
theorem ok_X5_lossOf {G : GD} {n : Nat} {x1 : Int} {x2 : Int} {x3 : Int} {x4 : Int} {x5 : Int} {h : Hp} {res : Int × Hp} (hF : fX5_lossOf x1 x2 x3 x4 x5 h = some res) : Con G yX5_lossOf cX5_lossOf 6 (some .int) 4 0 0 true [(2, ((0 : Nat) : Int)), (0, x1), (0, x2), (0, x3), (0, x4), (0, x5)] n h (FQ 0 n res) := by
  refine con_of (pad := 0) (own := RX5) (plainFor_of_name (by decide)) rfl rfl ?_
  intro X hC hbt hr hnm hZ hRm hn0
  have hK : ∀ (x9 : Int) (h9 : Hp), res = (x9, h9) → FQ 0 n res (0, x9) n h9 := fun x9 h9 e => by subst e; exact ⟨rfl, rfl, rfl⟩
  unfold fX5_lossOf at hF
  show AW G X 0 [(2, ((0 : Nat) : Int)), (0, x1), (0, x2), (0, x3), (0, x4), (0, x5)] [] n h 0 0
  refine aw_aload_n hC dX5_lossOf_0 rfl ?_
  obtain ⟨r1, h3, q2, hF⟩ := bd_some hF
  refine clRX5_126 hC hRm hbt dX5_lossOf_1 rfl rfl (by decide) (Nat.le_of_ble_eq_true rfl) (Nat.le_of_ble_eq_true rfl) (ok_X5_present q2) ?_
  obtain ⟨g4, hF⟩ := gd_some hF
  refine aw_eqT g4.symm ?_
  refine aw_pop hC dX5_lossOf_4 (by simp) ?_
  refine aw_aload_n hC dX5_lossOf_5 rfl ?_
  refine aw_gc5 (k := 3) (a := 0) (b := 20) hC hbt dX5_lossOf_6 lkRX5_37 (by decide) rfl rfl rfl (by decide) (by decide) ?_
  refine aw_aload_n hC dX5_lossOf_9 rfl ?_
  refine aw_g5r (k := 0) (a := 0) hC dX5_lossOf_10 lkRX5_10 (by decide) rfl rfl rfl (Or.inl ⟨hbt, by decide⟩) ?_
  obtain ⟨k5, hF⟩ := gd_some hF
  refine aw_gL2N hC hbt k5 dX5_lossOf_13 lkRX5_176 ?_
  refine aw_iload_n hC dX5_lossOf_16 rfl ?_
  obtain ⟨g6, hF⟩ := gd_some hF
  refine aw_iaload (a := (Int.toNat ((h3 0 0) + 2))) hC dX5_lossOf_17 (lnd2 k5).1 (lnd2 k5).2.1 (Or.inl ⟨hbt, (lnd2 k5).2.2⟩) g6.1 g6.2 ?_
  refine aw_iload hC dX5_lossOf_18 rfl ?_
  refine aw_iload_n hC dX5_lossOf_20 rfl ?_
  refine aw_imul hC dX5_lossOf_21 ?_
  obtain ⟨r7, h9, q8, hF⟩ := bd_some hF
  refine clRX5_264 hC hRm hbt dX5_lossOf_22 rfl rfl (by decide) (Nat.le_of_ble_eq_true rfl) (Nat.le_of_ble_eq_true rfl) (ok_X3_raise q8) ?_
  refine aw_aload_n hC dX5_lossOf_25 rfl ?_
  refine aw_gc5 (k := 3) (a := 0) (b := 20) hC hbt dX5_lossOf_26 lkRX5_37 (by decide) rfl rfl rfl (by decide) (by decide) ?_
  refine aw_aload_n hC dX5_lossOf_29 rfl ?_
  refine aw_g5r (k := 0) (a := 0) hC dX5_lossOf_30 lkRX5_10 (by decide) rfl rfl rfl (Or.inl ⟨hbt, by decide⟩) ?_
  obtain ⟨k10, hF⟩ := gd_some hF
  refine aw_gL2N hC hbt k10 dX5_lossOf_33 lkRX5_176 ?_
  refine aw_iload_n hC dX5_lossOf_36 rfl ?_
  obtain ⟨g11, hF⟩ := gd_some hF
  refine aw_iaload (a := (Int.toNat ((h9 0 0) + 2))) hC dX5_lossOf_37 (lnd2 k10).1 (lnd2 k10).2.1 (Or.inl ⟨hbt, (lnd2 k10).2.2⟩) g11.1 g11.2 ?_
  refine aw_iload hC dX5_lossOf_38 rfl ?_
  refine aw_iload_n hC dX5_lossOf_40 rfl ?_
  refine aw_imul hC dX5_lossOf_41 ?_
  obtain ⟨r12, h14, q13, hF⟩ := bd_some hF
  refine clRX5_264 hC hRm hbt dX5_lossOf_42 rfl rfl (by decide) (Nat.le_of_ble_eq_true rfl) (Nat.le_of_ble_eq_true rfl) (ok_X3_raise q13) ?_
  refine aw_aload_n hC dX5_lossOf_45 rfl ?_
  refine aw_gc5 (k := 3) (a := 0) (b := 20) hC hbt dX5_lossOf_46 lkRX5_37 (by decide) rfl rfl rfl (by decide) (by decide) ?_
  refine aw_iload_n hC dX5_lossOf_49 rfl ?_
  obtain ⟨r15, h17, q16, hF⟩ := bd_some hF
  refine clRX5_185 hC hRm hbt dX5_lossOf_50 rfl rfl (by decide) (Nat.le_of_ble_eq_true rfl) (Nat.le_of_ble_eq_true rfl) (ok_X3_taxOf q16) ?_
  exact aw_ireturn hC hZ (Nat.zero_le _) (Nat.zero_le _) hr dX5_lossOf_53 (hK _ _ (Option.some.inj hF).symm)
def fX5_restsWith (x1 : Int) (x2 : Int) (x3 : Int) (x4 : Int) (x5 : Int) (x6 : Int) (h : Hp) : Option (Int × Hp) :=
  bd_ (fX5_lossOf x1 x2 x3 x5 x6 h) (fun r1 h3 => lb_ ((i_add r1 ((i_mul x5 x4)))) (fun v4 => bd_ (fX5_lossOf x1 x2 x3 ((i_sub 1 x5)) x6 h3) (fun r5 h7 => lb_ ((i_add r5 ((i_mul ((i_sub 1 x5)) x4)))) (fun v8 => (if v8 < v4 then some (0, h7) else some (1, h7))))))
theorem ok_X5_restsWith {G : GD} {n : Nat} {x1 : Int} {x2 : Int} {x3 : Int} {x4 : Int} {x5 : Int} {x6 : Int} {h : Hp} {res : Int × Hp} (hF : fX5_restsWith x1 x2 x3 x4 x5 x6 h = some res) : Con G yX5_restsWith cX5_restsWith 9 (some .boolean) 5 0 0 true [(2, ((0 : Nat) : Int)), (0, x1), (0, x2), (0, x3), (0, x4), (0, x5), (0, x6)] n h (FQ 0 n res) := by
  refine con_of (pad := 2) (own := RX5) (plainFor_of_name (by decide)) rfl rfl ?_
  intro X hC hbt hr hnm hZ hRm hn0
  have hK : ∀ (x9 : Int) (h9 : Hp), res = (x9, h9) → FQ 0 n res (0, x9) n h9 := fun x9 h9 e => by subst e; exact ⟨rfl, rfl, rfl⟩
  unfold fX5_restsWith at hF
  show AW G X 0 [(2, ((0 : Nat) : Int)), (0, x1), (0, x2), (0, x3), (0, x4), (0, x5), (0, x6), (9, 0), (9, 0)] [] n h 0 0
  refine aw_aload_n hC dX5_restsWith_0 rfl ?_
  refine aw_iload_n hC dX5_restsWith_1 rfl ?_
  refine aw_iload_n hC dX5_restsWith_2 rfl ?_
  refine aw_iload_n hC dX5_restsWith_3 rfl ?_
  refine aw_iload hC dX5_restsWith_4 rfl ?_
  refine aw_iload hC dX5_restsWith_6 rfl ?_
  obtain ⟨r1, h3, q2, hF⟩ := bd_some hF
  refine clRX5_304 hC hRm hbt dX5_restsWith_8 rfl rfl (by decide) (Nat.le_of_ble_eq_true rfl) (Nat.le_of_ble_eq_true rfl) (ok_X5_lossOf q2) ?_
  refine aw_iload hC dX5_restsWith_11 rfl ?_
  refine aw_iload hC dX5_restsWith_13 rfl ?_
  refine aw_imul hC dX5_restsWith_15 ?_
  refine aw_iadd hC dX5_restsWith_16 ?_
  obtain ⟨v4, ev4, hF⟩ := lb_some hF
  refine aw_eqT ev4 ?_
  clear ev4
  refine aw_istore7 hC dX5_restsWith_17 rfl ?_
  refine aw_aload_n hC dX5_restsWith_19 rfl ?_
  refine aw_iload_n hC dX5_restsWith_20 rfl ?_
  refine aw_iload_n hC dX5_restsWith_21 rfl ?_
  refine aw_iload_n hC dX5_restsWith_22 rfl ?_
  refine aw_iconst hC dX5_restsWith_23 (by decide) ?_
  refine aw_iload hC dX5_restsWith_24 rfl ?_
  refine aw_isub hC dX5_restsWith_26 ?_
  refine aw_iload hC dX5_restsWith_27 rfl ?_
  obtain ⟨r5, h7, q6, hF⟩ := bd_some hF
  refine clRX5_304 hC hRm hbt dX5_restsWith_29 rfl rfl (by decide) (Nat.le_of_ble_eq_true rfl) (Nat.le_of_ble_eq_true rfl) (ok_X5_lossOf q6) ?_
  refine aw_iconst hC dX5_restsWith_32 (by decide) ?_
  refine aw_iload hC dX5_restsWith_33 rfl ?_
  refine aw_isub hC dX5_restsWith_35 ?_
  refine aw_iload hC dX5_restsWith_36 rfl ?_
  refine aw_imul hC dX5_restsWith_38 ?_
  refine aw_iadd hC dX5_restsWith_39 ?_
  obtain ⟨v8, ev8, hF⟩ := lb_some hF
  refine aw_eqT ev8 ?_
  clear ev8
  refine aw_istore8 hC dX5_restsWith_40 rfl ?_
  refine aw_iload hC dX5_restsWith_42 rfl ?_
  refine aw_iload hC dX5_restsWith_44 rfl ?_
  refine aw_icmp_lt (tgt := 53) hC dX5_restsWith_46 (by decide) (fun c9 => ?_) (fun c9 => ?_)
  · have hF := it_t hF c9
    refine aw_iconst hC dX5_restsWith_53 (by decide) ?_
    exact aw_zreturn hC hZ (Nat.zero_le _) (Nat.zero_le _) hr rfl dX5_restsWith_54 (by decide) (hK _ _ (Option.some.inj hF).symm)
  · have hF := it_f hF c9
    refine aw_iconst hC dX5_restsWith_49 (by decide) ?_
    refine aw_goto (tgt := 54) hC dX5_restsWith_50 (by decide) ?_
    exact aw_zreturn hC hZ (Nat.zero_le _) (Nat.zero_le _) hr rfl dX5_restsWith_54 (by decide) (hK _ _ (Option.some.inj hF).symm)
def fX5_forget  (h : Hp) : Option (Int × Hp) :=
  lb_ (st h 26 6 0) (fun h1 => some (0, h1))
theorem ok_X5_forget {G : GD} {n : Nat}  {h : Hp} {res : Int × Hp} (hF : fX5_forget  h = some res) : Con G yX5_forget cX5_forget 1 none 0 0 0 true [(2, ((0 : Nat) : Int))] n h (FQ 8 n res) := by
  refine con_of (pad := 0) (own := RX5) (plainFor_of_name (by decide)) rfl rfl ?_
  intro X hC hbt hr hnm hZ hRm hn0
  have hK : ∀ (x9 : Int) (h9 : Hp), res = (x9, h9) → FQ 8 n res (8, x9) n h9 := fun x9 h9 e => by subst e; exact ⟨rfl, rfl, rfl⟩
  unfold fX5_forget at hF
  show AW G X 0 [(2, ((0 : Nat) : Int))] [] n h 0 0
  refine aw_aload_n hC dX5_forget_0 rfl ?_
  refine aw_gc5 (k := 4) (a := 0) (b := 26) hC hbt dX5_forget_1 lkRX5_44 (by decide) rfl rfl rfl (by decide) (by decide) ?_
  refine aw_iconst hC dX5_forget_4 (by decide) ?_
  obtain ⟨h1, eh1, hF⟩ := lb_some hF
  refine aw_p0iN (k := 6) (a := 26) hC dX5_forget_5 lkRX5_137 (by decide) rfl rfl rfl rfl rfl (Or.inl ⟨hbt, by decide⟩) (fun _ => by decide) ?_
  refine aw_eqH eh1 ?_
  clear eh1
  exact aw_return hC hZ (Nat.zero_le _) (Nat.zero_le _) hr dX5_forget_8 (hK _ _ (Option.some.inj hF).symm)
def fX5_liars  (h : Hp) : Option (Int × Hp) :=
  bd_ (fX5_present h) (fun r1 h3 => gd_ (r1 = ((20 : Nat) : Int)) (bd_ (fX3_housesThatLie_26 h3) (fun r5 h7 => some (r5, h7))))
theorem ok_X5_liars {G : GD} {n : Nat}  {h : Hp} {res : Int × Hp} (hF : fX5_liars  h = some res) : Con G yX5_liars cX5_liars 1 (some .int) 5 0 0 true [(2, ((0 : Nat) : Int))] n h (FQ 0 n res) := by
  refine con_of (pad := 0) (own := RX5) (plainFor_of_name (by decide)) rfl rfl ?_
  intro X hC hbt hr hnm hZ hRm hn0
  have hK : ∀ (x9 : Int) (h9 : Hp), res = (x9, h9) → FQ 0 n res (0, x9) n h9 := fun x9 h9 e => by subst e; exact ⟨rfl, rfl, rfl⟩
  unfold fX5_liars at hF
  show AW G X 0 [(2, ((0 : Nat) : Int))] [] n h 0 0
  refine aw_aload_n hC dX5_liars_0 rfl ?_
  obtain ⟨r1, h3, q2, hF⟩ := bd_some hF
  refine clRX5_126 hC hRm hbt dX5_liars_1 rfl rfl (by decide) (Nat.le_of_ble_eq_true rfl) (Nat.le_of_ble_eq_true rfl) (ok_X5_present q2) ?_
  obtain ⟨g4, hF⟩ := gd_some hF
  refine aw_eqT g4.symm ?_
  refine aw_aload_n hC dX5_liars_4 rfl ?_
  refine aw_gc5 (k := 4) (a := 0) (b := 26) hC hbt dX5_liars_5 lkRX5_44 (by decide) rfl rfl rfl (by decide) (by decide) ?_
  obtain ⟨r5, h7, q6, hF⟩ := bd_some hF
  refine clRX5_311 hC hRm hbt dX5_liars_8 rfl rfl (by decide) (Nat.le_of_ble_eq_true rfl) (Nat.le_of_ble_eq_true rfl) (ok_X3_housesThatLie_26 q6) ?_
  exact aw_ireturn hC hZ (Nat.zero_le _) (Nat.zero_le _) hr dX5_liars_11 (hK _ _ (Option.some.inj hF).symm)
def fX5_cheat_l89 (x2 : Int) (x6 : Int) (x7 : Int) (x8 : Int) (x4 : Int) (x5 : Int) (x9 : Int) (h : Hp) : Option ((Int × Int × Int × Hp) ⊕ (Int × Int × Hp)) :=
  (if 9 < x9 then some (.inr (x4, x5, h)) else (if x7 = 0 then some (.inr (x4, x5, h)) else bd_ (fX3_reshape x6 x9 h) (fun r24 h26 => bd_ (fX3_housesThatLie_26 h26) (fun r27 h29 => bp_ (fJ6_bitCount_0f7a4 r27 h29) (fun r30 => (if x4 ≤ r30 then some (.inl (x4, x5, (i_add x9 1), h29)) else lb_ ((i_add ((i_mul 10 x6)) x9)) (fun v34 => some (.inl (r30, v34, (i_add x9 1), h29)))))))))
def fX5_cheat_j155 (x2 : Int) (x4 : Int) (x5 : Int) (x6 : Int) (x8 : Int) (h : Hp) : Option ((Int × Int × Int × Hp) ⊕ (Int × Hp)) :=
  bd_ (fX3_reshape x6 x8 h) (fun r40 h42 => some (.inl (x4, x5, (i_add x6 1), h42)))
def fX5_cheat_j72 (x2 : Int) (x4 : Int) (x5 : Int) (x6 : Int) (z0 : Int) (h : Hp) : Option ((Int × Int × Int × Hp) ⊕ (Int × Hp)) :=
  gd_ (0 ≤ x6 ∧ x6 < 64) (lb_ ((h 22 (Int.toNat x6))) (fun v21 => bp_ (it_ (fun s => fX5_cheat_l89 x2 x6 z0 v21 s.1 s.2.1 s.2.2.1 s.2.2.2) FU (x4, x5, 0, h)) (fun e36 => (fun y37 y38 h39 => fX5_cheat_j155 x2 y37 y38 x6 v21 h39) e36.1 e36.2.1 e36.2.2)))
def fX5_cheat_j71 (x2 : Int) (x4 : Int) (x5 : Int) (x6 : Int) (h : Hp) : Option ((Int × Int × Int × Hp) ⊕ (Int × Hp)) :=
  fX5_cheat_j72 x2 x4 x5 x6 0 h
def fX5_cheat_l33 (x2 : Int) (x4 : Int) (x5 : Int) (x6 : Int) (h : Hp) : Option ((Int × Int × Int × Hp) ⊕ (Int × Hp)) :=
  gd_ ((h 0 0) = 1 ∨ (h 0 0) = 9) (bp_ (fX1_cells ((h 0 0)) h) (fun r14 => (if r14 ≤ x6 then some (.inr (x5, h)) else bp_ (fX5_hasBit x2 x6 h) (fun r17 => (if r17 = 0 then fX5_cheat_j71 x2 x4 x5 x6 h else bp_ (fX1_houseIn ((h 0 0)) x6 h) (fun r44 => (if r44 = (-1) then fX5_cheat_j72 x2 x4 x5 x6 1 h else fX5_cheat_j71 x2 x4 x5 x6 h)))))))
def fX5_cheat  (h : Hp) : Option (Int × Hp) :=
  bd_ (fX5_present h) (fun r1 h3 => gd_ (r1 = ((20 : Nat) : Int)) (bd_ (fX3_housesThatLie_26 h3) (fun r5 h7 => bd_ (fX3_looksOver r5 h7) (fun r8 h10 => bp_ (fJ6_bitCount_0f7a4 r5 h10) (fun r11 => bp_ (it_ (fun s => fX5_cheat_l33 r8 s.1 s.2.1 s.2.2.1 s.2.2.2) FU (r11, (-1), 0, h10)) (fun e47 => (fun y48 h49 => some (y48, h49)) e47.1 e47.2))))))
theorem fX5_cheat_l89_ok {G : GD} {X : CX} {n : Nat} {Q : Av → Nat → Hp → Prop} (hC : Cx G X RX5 cX5_cheat) (hZ : ZOK X G Q 0 0) (hRm : X.R = rmd 5 0 0) (hbt : X.bt = true) (hr : X.meth.sig.returnType = (some .int)) {x2 : Int} {x6 : Int} {x7 : Int} {x8 : Int} : ∀ (f : Nat) (x4 : Int) (x5 : Int) (x9 : Int) (h : Hp) (r : Int × Int × Hp), it_ (fun s => fX5_cheat_l89 x2 x6 x7 x8 s.1 s.2.1 s.2.2.1 s.2.2.2) f (x4, x5, x9, h) = some r → (∀ (y4 : Int) (y5 : Int) (h9 : Hp), r = (y4, y5, h9) → AW G X 155 [(2, ((0 : Nat) : Int)), (9, 0), (1, x2), (9, 0), (0, y4), (0, y5), (0, x6), (9, 0), (0, x8), (9, 0), (9, 0)] [] n h9 0 0) → AW G X 89 [(2, ((0 : Nat) : Int)), (9, 0), (1, x2), (9, 0), (0, x4), (0, x5), (0, x6), (0, x7), (0, x8), (0, x9), (9, 0)] [] n h 0 0 := by
  intro f
  induction f with
  | zero => intro x4 x5 x9 h r hI; cases hI
  | succ f ih0 =>
    intro x4 x5 x9 h r hI hX
    obtain ⟨b, hF, hb1, hb2⟩ := it_succ hI
    have hF : fX5_cheat_l89 x2 x6 x7 x8 x4 x5 x9 h = some b := hF
    unfold fX5_cheat_l89 at hF
    refine aw_iload hC dX5_cheat_89 rfl ?_
    refine aw_bipush hC dX5_cheat_91 (by decide) (by decide) ?_
    refine aw_icmp_gt (tgt := 155) hC dX5_cheat_93 (by decide) (fun c22 => ?_) (fun c22 => ?_)
    · have hF := it_t hF c22
      refine aw_weak (ls' := [(2, ((0 : Nat) : Int)), (9, 0), (1, x2), (9, 0), (0, x4), (0, x5), (0, x6), (9, 0), (0, x8), (9, 0), (9, 0)]) ⟨Or.inr rfl, Or.inl rfl, Or.inr rfl, Or.inl rfl, Or.inr rfl, Or.inr rfl, Or.inr rfl, Or.inl rfl, Or.inr rfl, Or.inl rfl, Or.inl rfl, trivial⟩ ?_
      exact hX _ _ _ (hb2 _ (Option.some.inj hF).symm).symm
    · have hF := it_f hF c22
      refine aw_iload hC dX5_cheat_96 rfl ?_
      refine aw_if_eq (tgt := 155) hC dX5_cheat_98 (by decide) (fun c23 => ?_) (fun c23 => ?_)
      · have hF := it_t hF c23
        refine aw_weak (ls' := [(2, ((0 : Nat) : Int)), (9, 0), (1, x2), (9, 0), (0, x4), (0, x5), (0, x6), (9, 0), (0, x8), (9, 0), (9, 0)]) ⟨Or.inr rfl, Or.inl rfl, Or.inr rfl, Or.inl rfl, Or.inr rfl, Or.inr rfl, Or.inr rfl, Or.inl rfl, Or.inr rfl, Or.inl rfl, Or.inl rfl, trivial⟩ ?_
        exact hX _ _ _ (hb2 _ (Option.some.inj hF).symm).symm
      · have hF := it_f hF c23
        refine aw_aload_n hC dX5_cheat_101 rfl ?_
        refine aw_gc5 (k := 3) (a := 0) (b := 20) hC hbt dX5_cheat_102 lkRX5_37 (by decide) rfl rfl rfl (by decide) (by decide) ?_
        refine aw_iload hC dX5_cheat_105 rfl ?_
        refine aw_iload hC dX5_cheat_107 rfl ?_
        obtain ⟨r24, h26, q25, hF⟩ := bd_some hF
        refine clRX5_315 hC hRm hbt dX5_cheat_109 rfl rfl (by decide) (Nat.le_of_ble_eq_true rfl) (Nat.le_of_ble_eq_true rfl) (ok_X3_reshape q25) ?_
        refine aw_aload_n hC dX5_cheat_112 rfl ?_
        refine aw_gc5 (k := 3) (a := 0) (b := 20) hC hbt dX5_cheat_113 lkRX5_37 (by decide) rfl rfl rfl (by decide) (by decide) ?_
        refine aw_aload_n hC dX5_cheat_116 rfl ?_
        refine aw_gc5 (k := 4) (a := 0) (b := 26) hC hbt dX5_cheat_117 lkRX5_44 (by decide) rfl rfl rfl (by decide) (by decide) ?_
        obtain ⟨r27, h29, q28, hF⟩ := bd_some hF
        refine clRX5_311 hC hRm hbt dX5_cheat_120 rfl rfl (by decide) (Nat.le_of_ble_eq_true rfl) (Nat.le_of_ble_eq_true rfl) (ok_X3_housesThatLie_26 q28) ?_
        obtain ⟨r30, q31, hF⟩ := bp_some hF
        refine clRX5_318 hC hRm hbt dX5_cheat_123 (Nat.le_of_ble_eq_true rfl) (Nat.le_of_ble_eq_true rfl) (ok_J6_bitCount_0f7a4 q31) ?_
        refine aw_istore10 hC dX5_cheat_126 rfl ?_
        refine aw_iload hC dX5_cheat_128 rfl ?_
        refine aw_iload hC dX5_cheat_130 rfl ?_
        refine aw_icmp_ge (tgt := 149) hC dX5_cheat_132 (by decide) (fun c32 => ?_) (fun c32 => ?_)
        · have hF := it_t hF c32
          refine aw_iinc9 hC dX5_cheat_149 rfl ?_
          refine aw_goto (tgt := 89) hC dX5_cheat_152 (by decide) ?_
          refine aw_weak (ls' := [(2, ((0 : Nat) : Int)), (9, 0), (1, x2), (9, 0), (0, x4), (0, x5), (0, x6), (0, x7), (0, x8), (0, (i_add x9 1)), (9, 0)]) ⟨Or.inr rfl, Or.inl rfl, Or.inr rfl, Or.inl rfl, Or.inr rfl, Or.inr rfl, Or.inr rfl, Or.inr rfl, Or.inr rfl, Or.inr rfl, Or.inl rfl, trivial⟩ ?_
          exact ih0 _ _ _ _ r (hb1 _ (Option.some.inj hF).symm) hX
        · have hF := it_f hF c32
          refine aw_iload hC dX5_cheat_135 rfl ?_
          refine aw_istore4 hC dX5_cheat_137 rfl ?_
          refine aw_bipush hC dX5_cheat_139 (by decide) (by decide) ?_
          refine aw_iload hC dX5_cheat_141 rfl ?_
          refine aw_imul hC dX5_cheat_143 ?_
          refine aw_iload hC dX5_cheat_144 rfl ?_
          refine aw_iadd hC dX5_cheat_146 ?_
          obtain ⟨v34, ev34, hF⟩ := lb_some hF
          refine aw_eqT ev34 ?_
          clear ev34
          refine aw_istore5 hC dX5_cheat_147 rfl ?_
          refine aw_iinc9 hC dX5_cheat_149 rfl ?_
          refine aw_goto (tgt := 89) hC dX5_cheat_152 (by decide) ?_
          refine aw_weak (ls' := [(2, ((0 : Nat) : Int)), (9, 0), (1, x2), (9, 0), (0, r30), (0, v34), (0, x6), (0, x7), (0, x8), (0, (i_add x9 1)), (9, 0)]) ⟨Or.inr rfl, Or.inl rfl, Or.inr rfl, Or.inl rfl, Or.inr rfl, Or.inr rfl, Or.inr rfl, Or.inr rfl, Or.inr rfl, Or.inr rfl, Or.inl rfl, trivial⟩ ?_
          exact ih0 _ _ _ _ r (hb1 _ (Option.some.inj hF).symm) hX
theorem fX5_cheat_j155_ok {G : GD} {X : CX} {n : Nat} {Q : Av → Nat → Hp → Prop} (hC : Cx G X RX5 cX5_cheat) (hZ : ZOK X G Q 0 0) (hRm : X.R = rmd 5 0 0) (hbt : X.bt = true) (hr : X.meth.sig.returnType = (some .int)) {x2 : Int} {x4 : Int} {x5 : Int} {x6 : Int} {x8 : Int} {h : Hp} {b : (Int × Int × Int × Hp) ⊕ (Int × Hp)} (hF : fX5_cheat_j155 x2 x4 x5 x6 x8 h = some b) (hL9 : ∀ (u4 : Int) (u5 : Int) (u6 : Int) (h9 : Hp), b = .inl (u4, u5, u6, h9) → AW G X 33 [(2, ((0 : Nat) : Int)), (9, 0), (1, x2), (9, 0), (0, u4), (0, u5), (0, u6), (9, 0), (9, 0), (9, 0), (9, 0)] [] n h9 0 0) (hX9 : ∀ (w5 : Int) (h9 : Hp), b = .inr (w5, h9) → AW G X 172 [(9, 0), (9, 0), (9, 0), (9, 0), (9, 0), (0, w5), (9, 0), (9, 0), (9, 0), (9, 0), (9, 0)] [] n h9 0 0) : AW G X 155 [(2, ((0 : Nat) : Int)), (9, 0), (1, x2), (9, 0), (0, x4), (0, x5), (0, x6), (9, 0), (0, x8), (9, 0), (9, 0)] [] n h 0 0 := by
  unfold fX5_cheat_j155 at hF
  refine aw_aload_n hC dX5_cheat_155 rfl ?_
  refine aw_gc5 (k := 3) (a := 0) (b := 20) hC hbt dX5_cheat_156 lkRX5_37 (by decide) rfl rfl rfl (by decide) (by decide) ?_
  refine aw_iload hC dX5_cheat_159 rfl ?_
  refine aw_iload hC dX5_cheat_161 rfl ?_
  obtain ⟨r40, h42, q41, hF⟩ := bd_some hF
  refine clRX5_315 hC hRm hbt dX5_cheat_163 rfl rfl (by decide) (Nat.le_of_ble_eq_true rfl) (Nat.le_of_ble_eq_true rfl) (ok_X3_reshape q41) ?_
  refine aw_iinc6 hC dX5_cheat_166 rfl ?_
  refine aw_goto (tgt := 33) hC dX5_cheat_169 (by decide) ?_
  refine aw_weak (ls' := [(2, ((0 : Nat) : Int)), (9, 0), (1, x2), (9, 0), (0, x4), (0, x5), (0, (i_add x6 1)), (9, 0), (9, 0), (9, 0), (9, 0)]) ⟨Or.inr rfl, Or.inl rfl, Or.inr rfl, Or.inl rfl, Or.inr rfl, Or.inr rfl, Or.inr rfl, Or.inl rfl, Or.inl rfl, Or.inl rfl, Or.inl rfl, trivial⟩ ?_
  exact hL9 _ _ _ _ (Option.some.inj hF).symm
theorem fX5_cheat_j72_ok {G : GD} {X : CX} {n : Nat} {Q : Av → Nat → Hp → Prop} (hC : Cx G X RX5 cX5_cheat) (hZ : ZOK X G Q 0 0) (hRm : X.R = rmd 5 0 0) (hbt : X.bt = true) (hr : X.meth.sig.returnType = (some .int)) {x2 : Int} {x4 : Int} {x5 : Int} {x6 : Int} {z0 : Int} {h : Hp} {b : (Int × Int × Int × Hp) ⊕ (Int × Hp)} (hF : fX5_cheat_j72 x2 x4 x5 x6 z0 h = some b) (hL9 : ∀ (u4 : Int) (u5 : Int) (u6 : Int) (h9 : Hp), b = .inl (u4, u5, u6, h9) → AW G X 33 [(2, ((0 : Nat) : Int)), (9, 0), (1, x2), (9, 0), (0, u4), (0, u5), (0, u6), (9, 0), (9, 0), (9, 0), (9, 0)] [] n h9 0 0) (hX9 : ∀ (w5 : Int) (h9 : Hp), b = .inr (w5, h9) → AW G X 172 [(9, 0), (9, 0), (9, 0), (9, 0), (9, 0), (0, w5), (9, 0), (9, 0), (9, 0), (9, 0), (9, 0)] [] n h9 0 0) : AW G X 72 [(2, ((0 : Nat) : Int)), (9, 0), (1, x2), (9, 0), (0, x4), (0, x5), (0, x6), (9, 0), (9, 0), (9, 0), (9, 0)] [(0, z0)] n h 0 0 := by
  unfold fX5_cheat_j72 at hF
  refine aw_istore7 hC dX5_cheat_72 rfl ?_
  refine aw_aload_n hC dX5_cheat_74 rfl ?_
  refine aw_gc5 (k := 3) (a := 0) (b := 20) hC hbt dX5_cheat_75 lkRX5_37 (by decide) rfl rfl rfl (by decide) (by decide) ?_
  refine aw_gc3N (k := 2) (a := 20) (b := 22) hC hbt dX5_cheat_78 lkRX5_326 (by decide) rfl rfl rfl (by decide) (by decide) ?_
  refine aw_iload hC dX5_cheat_81 rfl ?_
  obtain ⟨g20, hF⟩ := gd_some hF
  refine aw_iaload (a := 22) hC dX5_cheat_83 rfl rfl (Or.inl ⟨hbt, by decide⟩) g20.1 g20.2 ?_
  obtain ⟨v21, ev21, hF⟩ := lb_some hF
  refine aw_eqT ev21 ?_
  clear ev21
  refine aw_istore8 hC dX5_cheat_84 rfl ?_
  refine aw_iconst hC dX5_cheat_86 (by decide) ?_
  refine aw_istore9 hC dX5_cheat_87 rfl ?_
  obtain ⟨e36, he, hF⟩ := bp_some hF
  refine fX5_cheat_l89_ok hC hZ hRm hbt hr FU _ _ _ _ e36 he (fun y37 y38 h39 er => ?_)
  replace er := er.symm
  subst er
  try dsimp only at hF
  exact fX5_cheat_j155_ok hC hZ hRm hbt hr hF (fun u0 u1 u2 u3 e => hL9 u0 u1 u2 u3 e) (fun w0 w1 e => hX9 w0 w1 e)
theorem fX5_cheat_j71_ok {G : GD} {X : CX} {n : Nat} {Q : Av → Nat → Hp → Prop} (hC : Cx G X RX5 cX5_cheat) (hZ : ZOK X G Q 0 0) (hRm : X.R = rmd 5 0 0) (hbt : X.bt = true) (hr : X.meth.sig.returnType = (some .int)) {x2 : Int} {x4 : Int} {x5 : Int} {x6 : Int} {h : Hp} {b : (Int × Int × Int × Hp) ⊕ (Int × Hp)} (hF : fX5_cheat_j71 x2 x4 x5 x6 h = some b) (hL9 : ∀ (u4 : Int) (u5 : Int) (u6 : Int) (h9 : Hp), b = .inl (u4, u5, u6, h9) → AW G X 33 [(2, ((0 : Nat) : Int)), (9, 0), (1, x2), (9, 0), (0, u4), (0, u5), (0, u6), (9, 0), (9, 0), (9, 0), (9, 0)] [] n h9 0 0) (hX9 : ∀ (w5 : Int) (h9 : Hp), b = .inr (w5, h9) → AW G X 172 [(9, 0), (9, 0), (9, 0), (9, 0), (9, 0), (0, w5), (9, 0), (9, 0), (9, 0), (9, 0), (9, 0)] [] n h9 0 0) : AW G X 71 [(2, ((0 : Nat) : Int)), (9, 0), (1, x2), (9, 0), (0, x4), (0, x5), (0, x6), (9, 0), (9, 0), (9, 0), (9, 0)] [] n h 0 0 := by
  unfold fX5_cheat_j71 at hF
  refine aw_iconst hC dX5_cheat_71 (by decide) ?_
  exact fX5_cheat_j72_ok hC hZ hRm hbt hr hF (fun u0 u1 u2 u3 e => hL9 u0 u1 u2 u3 e) (fun w0 w1 e => hX9 w0 w1 e)
theorem fX5_cheat_l33_ok {G : GD} {X : CX} {n : Nat} {Q : Av → Nat → Hp → Prop} (hC : Cx G X RX5 cX5_cheat) (hZ : ZOK X G Q 0 0) (hRm : X.R = rmd 5 0 0) (hbt : X.bt = true) (hr : X.meth.sig.returnType = (some .int)) {x2 : Int} : ∀ (f : Nat) (x4 : Int) (x5 : Int) (x6 : Int) (h : Hp) (r : Int × Hp), it_ (fun s => fX5_cheat_l33 x2 s.1 s.2.1 s.2.2.1 s.2.2.2) f (x4, x5, x6, h) = some r → (∀ (y5 : Int) (h9 : Hp), r = (y5, h9) → AW G X 172 [(9, 0), (9, 0), (9, 0), (9, 0), (9, 0), (0, y5), (9, 0), (9, 0), (9, 0), (9, 0), (9, 0)] [] n h9 0 0) → AW G X 33 [(2, ((0 : Nat) : Int)), (9, 0), (1, x2), (9, 0), (0, x4), (0, x5), (0, x6), (9, 0), (9, 0), (9, 0), (9, 0)] [] n h 0 0 := by
  intro f
  induction f with
  | zero => intro x4 x5 x6 h r hI; cases hI
  | succ f ih0 =>
    intro x4 x5 x6 h r hI hX
    obtain ⟨b, hF, hb1, hb2⟩ := it_succ hI
    have hF : fX5_cheat_l33 x2 x4 x5 x6 h = some b := hF
    unfold fX5_cheat_l33 at hF
    refine aw_iload hC dX5_cheat_33 rfl ?_
    refine aw_aload_n hC dX5_cheat_35 rfl ?_
    refine aw_g5r (k := 0) (a := 0) hC dX5_cheat_36 lkRX5_10 (by decide) rfl rfl rfl (Or.inl ⟨hbt, by decide⟩) ?_
    obtain ⟨k13, hF⟩ := gd_some hF
    obtain ⟨r14, q15, hF⟩ := bp_some hF
    refine clRX5_323 hC hRm hbt dX5_cheat_39 (lnd k13).1 (lnd k13).2.1 (lnd k13).2.2.1 (Nat.le_of_ble_eq_true rfl) (Nat.le_of_ble_eq_true rfl) (ok_X1_cells q15) ?_
    refine aw_icmp_ge (tgt := 172) hC dX5_cheat_42 (by decide) (fun c16 => ?_) (fun c16 => ?_)
    · have hF := it_t hF c16
      refine aw_weak (ls' := [(9, 0), (9, 0), (9, 0), (9, 0), (9, 0), (0, x5), (9, 0), (9, 0), (9, 0), (9, 0), (9, 0)]) ⟨Or.inl rfl, Or.inl rfl, Or.inl rfl, Or.inl rfl, Or.inl rfl, Or.inr rfl, Or.inl rfl, Or.inl rfl, Or.inl rfl, Or.inl rfl, Or.inl rfl, trivial⟩ ?_
      exact hX _ _ (hb2 _ (Option.some.inj hF).symm).symm
    · have hF := it_f hF c16
      refine aw_lload_n hC dX5_cheat_45 rfl ?_
      refine aw_iload hC dX5_cheat_46 rfl ?_
      obtain ⟨r17, q18, hF⟩ := bp_some hF
      refine clRX5_224 hC hRm hbt dX5_cheat_48 (Nat.le_of_ble_eq_true rfl) (Nat.le_of_ble_eq_true rfl) (ok_X5_hasBit q18) ?_
      refine aw_if_eq (tgt := 71) hC dX5_cheat_51 (by decide) (fun c19 => ?_) (fun c19 => ?_)
      · have hF := it_t hF c19
        exact fX5_cheat_j71_ok hC hZ hRm hbt hr hF (fun u0 u1 u2 u3 e => ih0 u0 u1 u2 u3 r (hb1 _ e) hX) (fun w0 w1 e => hX w0 w1 (hb2 _ e).symm)
      · have hF := it_f hF c19
        refine aw_aload_n hC dX5_cheat_54 rfl ?_
        refine aw_g5r (k := 0) (a := 0) hC dX5_cheat_55 lkRX5_10 (by decide) rfl rfl rfl (Or.inl ⟨hbt, by decide⟩) ?_
        refine aw_iload hC dX5_cheat_58 rfl ?_
        obtain ⟨r44, q45, hF⟩ := bp_some hF
        refine clRX5_164 hC hRm hbt dX5_cheat_60 (lnd k13).1 (lnd k13).2.1 (lnd k13).2.2.1 (Nat.le_of_ble_eq_true rfl) (Nat.le_of_ble_eq_true rfl) (ok_X1_houseIn q45) ?_
        refine aw_iconst hC dX5_cheat_63 (by decide) ?_
        refine aw_icmp_ne (tgt := 71) hC dX5_cheat_64 (by decide) (fun c46 => ?_) (fun c46 => ?_)
        · have hF := it_f hF c46
          exact fX5_cheat_j71_ok hC hZ hRm hbt hr hF (fun u0 u1 u2 u3 e => ih0 u0 u1 u2 u3 r (hb1 _ e) hX) (fun w0 w1 e => hX w0 w1 (hb2 _ e).symm)
        · have hF := it_t hF c46
          refine aw_iconst hC dX5_cheat_67 (by decide) ?_
          refine aw_goto (tgt := 72) hC dX5_cheat_68 (by decide) ?_
          exact fX5_cheat_j72_ok hC hZ hRm hbt hr hF (fun u0 u1 u2 u3 e => ih0 u0 u1 u2 u3 r (hb1 _ e) hX) (fun w0 w1 e => hX w0 w1 (hb2 _ e).symm)
theorem ok_X5_cheat {G : GD} {n : Nat}  {h : Hp} {res : Int × Hp} (hF : fX5_cheat  h = some res) : Con G yX5_cheat cX5_cheat 11 (some .int) 5 0 0 true [(2, ((0 : Nat) : Int))] n h (FQ 0 n res) := by
  refine con_of (pad := 10) (own := RX5) (plainFor_of_name (by decide)) rfl rfl ?_
  intro X hC hbt hr hnm hZ hRm hn0
  have hK : ∀ (x9 : Int) (h9 : Hp), res = (x9, h9) → FQ 0 n res (0, x9) n h9 := fun x9 h9 e => by subst e; exact ⟨rfl, rfl, rfl⟩
  unfold fX5_cheat at hF
  show AW G X 0 [(2, ((0 : Nat) : Int)), (9, 0), (9, 0), (9, 0), (9, 0), (9, 0), (9, 0), (9, 0), (9, 0), (9, 0), (9, 0)] [] n h 0 0
  refine aw_aload_n hC dX5_cheat_0 rfl ?_
  obtain ⟨r1, h3, q2, hF⟩ := bd_some hF
  refine clRX5_126 hC hRm hbt dX5_cheat_1 rfl rfl (by decide) (Nat.le_of_ble_eq_true rfl) (Nat.le_of_ble_eq_true rfl) (ok_X5_present q2) ?_
  obtain ⟨g4, hF⟩ := gd_some hF
  refine aw_eqT g4.symm ?_
  refine aw_aload_n hC dX5_cheat_4 rfl ?_
  refine aw_gc5 (k := 4) (a := 0) (b := 26) hC hbt dX5_cheat_5 lkRX5_44 (by decide) rfl rfl rfl (by decide) (by decide) ?_
  obtain ⟨r5, h7, q6, hF⟩ := bd_some hF
  refine clRX5_311 hC hRm hbt dX5_cheat_8 rfl rfl (by decide) (Nat.le_of_ble_eq_true rfl) (Nat.le_of_ble_eq_true rfl) (ok_X3_housesThatLie_26 q6) ?_
  refine aw_istore1 hC dX5_cheat_11 rfl ?_
  refine aw_aload_n hC dX5_cheat_12 rfl ?_
  refine aw_gc5 (k := 3) (a := 0) (b := 20) hC hbt dX5_cheat_13 lkRX5_37 (by decide) rfl rfl rfl (by decide) (by decide) ?_
  refine aw_iload_n hC dX5_cheat_16 rfl ?_
  obtain ⟨r8, h10, q9, hF⟩ := bd_some hF
  refine clRX5_256 hC hRm hbt dX5_cheat_17 rfl rfl (by decide) (Nat.le_of_ble_eq_true rfl) (Nat.le_of_ble_eq_true rfl) (ok_X3_looksOver q9) ?_
  refine aw_lstore2 hC dX5_cheat_20 rfl ?_
  refine aw_iload_n hC dX5_cheat_21 rfl ?_
  obtain ⟨r11, q12, hF⟩ := bp_some hF
  refine clRX5_318 hC hRm hbt dX5_cheat_22 (Nat.le_of_ble_eq_true rfl) (Nat.le_of_ble_eq_true rfl) (ok_J6_bitCount_0f7a4 q12) ?_
  refine aw_istore4 hC dX5_cheat_25 rfl ?_
  refine aw_iconst hC dX5_cheat_27 (by decide) ?_
  refine aw_istore5 hC dX5_cheat_28 rfl ?_
  refine aw_iconst hC dX5_cheat_30 (by decide) ?_
  refine aw_istore6 hC dX5_cheat_31 rfl ?_
  refine aw_weak (ls' := [(2, ((0 : Nat) : Int)), (9, 0), (1, r8), (9, 0), (0, r11), (0, (-1)), (0, 0), (9, 0), (9, 0), (9, 0), (9, 0)]) ⟨Or.inr rfl, Or.inl rfl, Or.inr rfl, Or.inl rfl, Or.inr rfl, Or.inr rfl, Or.inr rfl, Or.inl rfl, Or.inl rfl, Or.inl rfl, Or.inl rfl, trivial⟩ ?_
  obtain ⟨e47, he, hF⟩ := bp_some hF
  refine fX5_cheat_l33_ok hC hZ hRm hbt hr FU _ _ _ _ e47 he (fun y48 h49 er => ?_)
  replace er := er.symm
  subst er
  try dsimp only at hF
  refine aw_iload hC dX5_cheat_172 rfl ?_
  exact aw_ireturn hC hZ (Nat.zero_le _) (Nat.zero_le _) hr dX5_cheat_174 (hK _ _ (Option.some.inj hF).symm)
def fX5_ruined_l7 (x1 : Int) (h : Hp) : Option ((Int × Hp) ⊕ ((Hp) ⊕ (Int × Hp))) :=
  (if 50 < x1 then some (.inr (.inl h)) else bp_ (fX3_leastPurse h) (fun r6 => (if 0 ≤ r6 then bd_ (fX3_passYear h) (fun r9 h11 => some (.inl ((i_add x1 1), h11))) else some (.inr (.inr (x1, h))))))
def fX5_ruined  (h : Hp) : Option (Int × Hp) :=
  bd_ (fX5_present h) (fun r1 h3 => gd_ (r1 = ((20 : Nat) : Int)) (bp_ (it_ (fun s => fX5_ruined_l7 s.1 s.2) FU (0, h3)) (fun e13 => match e13 with | .inl e13 => (fun h14 => some ((-1), h14)) e13 | .inr q9 => some q9)))
theorem fX5_ruined_l7_ok {G : GD} {X : CX} {n : Nat} {Q : Av → Nat → Hp → Prop} (hC : Cx G X RX5 cX5_ruined) (hZ : ZOK X G Q 0 0) (hRm : X.R = rmd 5 0 0) (hbt : X.bt = true) (hr : X.meth.sig.returnType = (some .int))  : ∀ (f : Nat) (x1 : Int) (h : Hp) (r : (Hp) ⊕ (Int × Hp)), it_ (fun s => fX5_ruined_l7 s.1 s.2) f (x1, h) = some r → (∀ (h9 : Hp), r = (.inl h9) → AW G X 39 [(9, 0), (9, 0)] [] n h9 0 0) → (∀ (x9 : Int) (h9 : Hp), r = .inr (x9, h9) → Q (0, x9) n h9) → AW G X 7 [(2, ((0 : Nat) : Int)), (0, x1)] [] n h 0 0 := by
  intro f
  induction f with
  | zero => intro x1 h r hI; cases hI
  | succ f ih0 =>
    intro x1 h r hI hX hRet9
    obtain ⟨b, hF, hb1, hb2⟩ := it_succ hI
    have hF : fX5_ruined_l7 x1 h = some b := hF
    have hRet : ∀ (x9 : Int) (h9 : Hp), b = .inr (.inr (x9, h9)) → Q (0, x9) n h9 := fun x9 h9 e => hRet9 x9 h9 (hb2 _ e).symm
    unfold fX5_ruined_l7 at hF
    refine aw_iload_n hC dX5_ruined_7 rfl ?_
    refine aw_bipush hC dX5_ruined_8 (by decide) (by decide) ?_
    refine aw_icmp_gt (tgt := 39) hC dX5_ruined_10 (by decide) (fun c5 => ?_) (fun c5 => ?_)
    · have hF := it_t hF c5
      refine aw_weak (ls' := [(9, 0), (9, 0)]) ⟨Or.inl rfl, Or.inl rfl, trivial⟩ ?_
      exact hX _ (hb2 _ (Option.some.inj hF).symm).symm
    · have hF := it_f hF c5
      refine aw_aload_n hC dX5_ruined_13 rfl ?_
      refine aw_gc5 (k := 3) (a := 0) (b := 20) hC hbt dX5_ruined_14 lkRX5_37 (by decide) rfl rfl rfl (by decide) (by decide) ?_
      obtain ⟨r6, q7, hF⟩ := bp_some hF
      refine clRX5_327 hC hRm hbt dX5_ruined_17 rfl rfl (by decide) (Nat.le_of_ble_eq_true rfl) (Nat.le_of_ble_eq_true rfl) (ok_X3_leastPurse q7) ?_
      refine aw_if_ge (tgt := 25) hC dX5_ruined_20 (by decide) (fun c8 => ?_) (fun c8 => ?_)
      · have hF := it_t hF c8
        refine aw_aload_n hC dX5_ruined_25 rfl ?_
        refine aw_gc5 (k := 3) (a := 0) (b := 20) hC hbt dX5_ruined_26 lkRX5_37 (by decide) rfl rfl rfl (by decide) (by decide) ?_
        obtain ⟨r9, h11, q10, hF⟩ := bd_some hF
        refine clRX5_207 hC hRm hbt dX5_ruined_29 rfl rfl (by decide) (Nat.le_of_ble_eq_true rfl) (Nat.le_of_ble_eq_true rfl) (ok_X3_passYear q10) ?_
        refine aw_pop hC dX5_ruined_32 (by simp) ?_
        refine aw_iinc1 hC dX5_ruined_33 rfl ?_
        refine aw_goto (tgt := 7) hC dX5_ruined_36 (by decide) ?_
        exact ih0 _ _ r (hb1 _ (Option.some.inj hF).symm) hX hRet9
      · have hF := it_f hF c8
        refine aw_iload_n hC dX5_ruined_23 rfl ?_
        exact aw_ireturn hC hZ (Nat.zero_le _) (Nat.zero_le _) hr dX5_ruined_24 (hRet _ _ (Option.some.inj hF).symm)
theorem ok_X5_ruined {G : GD} {n : Nat}  {h : Hp} {res : Int × Hp} (hF : fX5_ruined  h = some res) : Con G yX5_ruined cX5_ruined 2 (some .int) 5 0 0 true [(2, ((0 : Nat) : Int))] n h (FQ 0 n res) := by
  refine con_of (pad := 1) (own := RX5) (plainFor_of_name (by decide)) rfl rfl ?_
  intro X hC hbt hr hnm hZ hRm hn0
  have hK : ∀ (x9 : Int) (h9 : Hp), res = (x9, h9) → FQ 0 n res (0, x9) n h9 := fun x9 h9 e => by subst e; exact ⟨rfl, rfl, rfl⟩
  unfold fX5_ruined at hF
  show AW G X 0 [(2, ((0 : Nat) : Int)), (9, 0)] [] n h 0 0
  refine aw_aload_n hC dX5_ruined_0 rfl ?_
  obtain ⟨r1, h3, q2, hF⟩ := bd_some hF
  refine clRX5_126 hC hRm hbt dX5_ruined_1 rfl rfl (by decide) (Nat.le_of_ble_eq_true rfl) (Nat.le_of_ble_eq_true rfl) (ok_X5_present q2) ?_
  obtain ⟨g4, hF⟩ := gd_some hF
  refine aw_eqT g4.symm ?_
  refine aw_pop hC dX5_ruined_4 (by simp) ?_
  refine aw_iconst hC dX5_ruined_5 (by decide) ?_
  refine aw_istore1 hC dX5_ruined_6 rfl ?_
  obtain ⟨e13, he, hF⟩ := bp_some hF
  refine fX5_ruined_l7_ok hC hZ hRm hbt hr FU _ _ e13 he (fun h14 er => ?_) (fun x9 h9 e => by subst e; exact hK _ _ (Option.some.inj hF).symm)
  replace er := er.symm
  subst er
  try dsimp only at hF
  refine aw_iconst hC dX5_ruined_39 (by decide) ?_
  exact aw_ireturn hC hZ (Nat.zero_le _) (Nat.zero_le _) hr dX5_ruined_40 (hK _ _ (Option.some.inj hF).symm)
def fX5_nextSeed (x0 : Int) (h : Hp) : Option (Int) :=
  some ((i_add ((i_mul x0 1103515245)) 12345))
theorem ok_X5_nextSeed {G : GD} {n : Nat} {x0 : Int} {h : Hp} {res : Int} (hF : fX5_nextSeed x0 h = some res) : Con G yX5_nextSeed cX5_nextSeed 1 (some .int) 0 0 0 true [(0, x0)] n h (FQ 0 n (res, h)) := by
  refine con_of (pad := 0) (own := RX5) (plainFor_of_name (by decide)) rfl rfl ?_
  intro X hC hbt hr hnm hZ hRm hn0
  have hK : ∀ (x9 : Int), res = x9 → FQ 0 n (res, h) (0, x9) n h := fun x9 e => by subst e; exact ⟨rfl, rfl, rfl⟩
  unfold fX5_nextSeed at hF
  show AW G X 0 [(0, x0)] [] n h 0 0
  refine aw_iload_n hC dX5_nextSeed_0 rfl ?_
  refine aw_ldcw (v := 1103515245) hC dX5_nextSeed_1 (by decide) kcRX5_341 ?_
  refine aw_imul hC dX5_nextSeed_4 ?_
  refine aw_sipush hC dX5_nextSeed_5 (by decide) (by decide) ?_
  refine aw_iadd hC dX5_nextSeed_8 ?_
  exact aw_ireturn hC hZ (Nat.zero_le _) (Nat.zero_le _) hr dX5_nextSeed_9 (hK _ (Option.some.inj hF).symm)
def fX5_draw (x0 : Int) (x1 : Int) (h : Hp) : Option (Int) :=
  (if x1 ≤ 0 then some 0 else gd_ (x1 ≠ 0) (some ((i_rem ((i_and ((i_ushr x0 16)) 32767)) x1))))
theorem ok_X5_draw {G : GD} {n : Nat} {x0 : Int} {x1 : Int} {h : Hp} {res : Int} (hF : fX5_draw x0 x1 h = some res) : Con G yX5_draw cX5_draw 2 (some .int) 0 0 0 true [(0, x0), (0, x1)] n h (FQ 0 n (res, h)) := by
  refine con_of (pad := 0) (own := RX5) (plainFor_of_name (by decide)) rfl rfl ?_
  intro X hC hbt hr hnm hZ hRm hn0
  have hK : ∀ (x9 : Int), res = x9 → FQ 0 n (res, h) (0, x9) n h := fun x9 e => by subst e; exact ⟨rfl, rfl, rfl⟩
  unfold fX5_draw at hF
  show AW G X 0 [(0, x0), (0, x1)] [] n h 0 0
  refine aw_iload_n hC dX5_draw_0 rfl ?_
  refine aw_if_le (tgt := 17) hC dX5_draw_1 (by decide) (fun c1 => ?_) (fun c1 => ?_)
  · have hF := it_t hF c1
    refine aw_iconst hC dX5_draw_17 (by decide) ?_
    exact aw_ireturn hC hZ (Nat.zero_le _) (Nat.zero_le _) hr dX5_draw_18 (hK _ (Option.some.inj hF).symm)
  · have hF := it_f hF c1
    refine aw_iload_n hC dX5_draw_4 rfl ?_
    refine aw_bipush hC dX5_draw_5 (by decide) (by decide) ?_
    refine aw_iushr hC dX5_draw_7 ?_
    refine aw_sipush hC dX5_draw_8 (by decide) (by decide) ?_
    refine aw_iand hC dX5_draw_11 ?_
    refine aw_iload_n hC dX5_draw_12 rfl ?_
    obtain ⟨g2, hF⟩ := gd_some hF
    refine aw_irem hC dX5_draw_13 g2 ?_
    refine aw_goto (tgt := 18) hC dX5_draw_14 (by decide) ?_
    exact aw_ireturn hC hZ (Nat.zero_le _) (Nat.zero_le _) hr dX5_draw_18 (hK _ (Option.some.inj hF).symm)
def fX5_treesStanding_21_l4 (x1 : Int) (x2 : Int) (h : Hp) : Option ((Int × Int) ⊕ (Int)) :=
  (if 12 ≤ x2 then some (.inr x1) else gd_ (0 ≤ (i_add 0 x2) ∧ (i_add 0 x2) < 62) ((if (h 21 (Int.toNat ((i_add 0 x2)))) = (-1) then some (.inl (x1, (i_add x2 1))) else some (.inl ((i_add x1 1), (i_add x2 1))))))
def fX5_treesStanding_21  (h : Hp) : Option (Int) :=
  bp_ (it_ (fun s => fX5_treesStanding_21_l4 s.1 s.2 h) FU (0, 0)) (fun e7 => (fun y8 => some y8) e7)
theorem fX5_treesStanding_21_l4_ok {G : GD} {X : CX} {n : Nat} {Q : Av → Nat → Hp → Prop} (hC : Cx G X RX5 cX5_treesStanding) (hZ : ZOK X G Q 0 0) (hRm : X.R = rmd 0 0 0) (hbt : X.bt = true) (hr : X.meth.sig.returnType = (some .int))  {h : Hp} : ∀ (f : Nat) (x1 : Int) (x2 : Int) (r : Int), it_ (fun s => fX5_treesStanding_21_l4 s.1 s.2 h) f (x1, x2) = some r → (∀ (y1 : Int), r = y1 → AW G X 28 [(9, 0), (0, y1), (9, 0)] [] n h 0 0) → AW G X 4 [(2, ((21 : Nat) : Int)), (0, x1), (0, x2)] [] n h 0 0 := by
  intro f
  induction f with
  | zero => intro x1 x2 r hI; cases hI
  | succ f ih0 =>
    intro x1 x2 r hI hX
    obtain ⟨b, hF, hb1, hb2⟩ := it_succ hI
    have hF : fX5_treesStanding_21_l4 x1 x2 h = some b := hF
    unfold fX5_treesStanding_21_l4 at hF
    refine aw_iload_n hC dX5_treesStanding_4 rfl ?_
    refine aw_bipush hC dX5_treesStanding_5 (by decide) (by decide) ?_
    refine aw_icmp_ge (tgt := 28) hC dX5_treesStanding_7 (by decide) (fun c1 => ?_) (fun c1 => ?_)
    · have hF := it_t hF c1
      refine aw_weak (ls' := [(9, 0), (0, x1), (9, 0)]) ⟨Or.inl rfl, Or.inr rfl, Or.inl rfl, trivial⟩ ?_
      exact hX _ (hb2 _ (Option.some.inj hF).symm).symm
    · have hF := it_f hF c1
      refine aw_aload_n hC dX5_treesStanding_10 rfl ?_
      refine aw_iconst hC dX5_treesStanding_11 (by decide) ?_
      refine aw_iload_n hC dX5_treesStanding_12 rfl ?_
      refine aw_iadd hC dX5_treesStanding_13 ?_
      obtain ⟨g2, hF⟩ := gd_some hF
      refine aw_iaload (a := 21) hC dX5_treesStanding_14 rfl rfl (Or.inl ⟨hbt, by decide⟩) g2.1 g2.2 ?_
      refine aw_iconst hC dX5_treesStanding_15 (by decide) ?_
      refine aw_icmp_eq (tgt := 22) hC dX5_treesStanding_16 (by decide) (fun c3 => ?_) (fun c3 => ?_)
      · have hF := it_t hF c3
        refine aw_iinc2 hC dX5_treesStanding_22 rfl ?_
        refine aw_goto (tgt := 4) hC dX5_treesStanding_25 (by decide) ?_
        exact ih0 _ _ r (hb1 _ (Option.some.inj hF).symm) hX
      · have hF := it_f hF c3
        refine aw_iinc1 hC dX5_treesStanding_19 rfl ?_
        refine aw_iinc2 hC dX5_treesStanding_22 rfl ?_
        refine aw_goto (tgt := 4) hC dX5_treesStanding_25 (by decide) ?_
        exact ih0 _ _ r (hb1 _ (Option.some.inj hF).symm) hX
theorem ok_X5_treesStanding_21 {G : GD} {n : Nat}  {h : Hp} {res : Int} (hF : fX5_treesStanding_21  h = some res) : Con G yX5_treesStanding cX5_treesStanding 3 (some .int) 0 0 0 true [(2, ((21 : Nat) : Int))] n h (FQ 0 n (res, h)) := by
  refine con_of (pad := 2) (own := RX5) (plainFor_of_name (by decide)) rfl rfl ?_
  intro X hC hbt hr hnm hZ hRm hn0
  have hK : ∀ (x9 : Int), res = x9 → FQ 0 n (res, h) (0, x9) n h := fun x9 e => by subst e; exact ⟨rfl, rfl, rfl⟩
  unfold fX5_treesStanding_21 at hF
  show AW G X 0 [(2, ((21 : Nat) : Int)), (9, 0), (9, 0)] [] n h 0 0
  refine aw_iconst hC dX5_treesStanding_0 (by decide) ?_
  refine aw_istore1 hC dX5_treesStanding_1 rfl ?_
  refine aw_iconst hC dX5_treesStanding_2 (by decide) ?_
  refine aw_istore2 hC dX5_treesStanding_3 rfl ?_
  obtain ⟨e7, he, hF⟩ := bp_some hF
  refine fX5_treesStanding_21_l4_ok hC hZ hRm hbt hr FU _ _ e7 he (fun y8 er => ?_)
  replace er := er.symm
  subst er
  try dsimp only at hF
  refine aw_iload_n hC dX5_treesStanding_28 rfl ?_
  exact aw_ireturn hC hZ (Nat.zero_le _) (Nat.zero_le _) hr dX5_treesStanding_29 (hK _ (Option.some.inj hF).symm)
