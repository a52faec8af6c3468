def fX0_begin_26 (x1 : Int) (h : Hp) : Option (Int × Hp) :=
  gd_ (x1 = 1 ∨ x1 = 9) (gd_ (0 ≤ (0 : Int) ∧ 0 ≤ (0 : Int) ∧ 0 ≤ (62 : Int) ∧ (0 : Int) + 62 ≤ ((62 : Nat) : Int) ∧ (0 : Int) + 62 ≤ ((62 : Nat) : Int)) (lb_ (cpy h (Int.toNat (x1 + 7)) 27 (Int.toNat 0) (Int.toNat 0) (Int.toNat 62)) (fun h3 => lb_ (st h3 26 2 0) (fun h4 => lb_ (st h4 26 3 0) (fun h5 => lb_ (st h5 26 6 0) (fun h6 => some (0, h6)))))))
theorem ok_X0_begin_26 {G : GD} {n : Nat} {x1 : Int} {h : Hp} {res : Int × Hp} (hF : fX0_begin_26 x1 h = some res) : Con G yX0_begin cX0_begin 2 none 1 0 0 true [(2, ((26 : Nat) : Int)), (2, x1)] n h (FQ 8 n res) := by
  refine con_of (pad := 0) (own := RX0) (plainFor_of_name (by decide)) rfl rfl ?_
  intro X hC hbt hr hnm hZ hRm hn0
  have hK : ∀ (x9 : Int) (h9 : Hp), res = (x9, h9) → FQ 8 n res (8, x9) n h9 := fun x9 h9 e => by subst e; exact ⟨rfl, rfl, rfl⟩
  unfold fX0_begin_26 at hF
  show AW G X 0 [(2, ((26 : Nat) : Int)), (2, x1)] [] n h 0 0
  refine aw_aload_n hC dX0_begin_0 rfl ?_
  obtain ⟨k1, hF⟩ := gd_some hF
  refine aw_gL7N hC hbt k1 dX0_begin_1 lkRX0_24 ?_
  refine aw_iconst hC dX0_begin_4 (by decide) ?_
  refine aw_aload_n hC dX0_begin_5 rfl ?_
  refine aw_gc0 (k := 0) (a := 26) (b := 27) hC hbt dX0_begin_6 lkRX0_9 (by decide) rfl rfl rfl (by decide) (by decide) ?_
  refine aw_iconst hC dX0_begin_9 (by decide) ?_
  refine aw_bipush hC dX0_begin_10 (by decide) (by decide) ?_
  obtain ⟨g2, hF⟩ := gd_some hF
  obtain ⟨h3, eh3, hF⟩ := lb_some hF
  refine aw_copyi (a0 := (Int.toNat (x1 + 7))) (a1 := 27) hC hRm (Nat.le_of_ble_eq_true rfl) dX0_begin_12 cplRX0_29 (lnd7 k1).1 rfl (lnd7 k1).2.1 rfl (Or.inl ⟨hbt, (lnd7 k1).2.2⟩) (Or.inl ⟨hbt, by decide⟩) g2 (Nat.le_of_ble_eq_true rfl) ?_
  refine aw_eqH eh3 ?_
  clear eh3
  refine aw_aload_n hC dX0_begin_15 rfl ?_
  refine aw_iconst hC dX0_begin_16 (by decide) ?_
  obtain ⟨h4, eh4, hF⟩ := lb_some hF
  refine aw_p0i (k := 2) (a := 26) hC dX0_begin_17 lkRX0_35 (by decide) rfl rfl rfl rfl rfl (Or.inl ⟨hbt, by decide⟩) (fun _ => by decide) ?_
  refine aw_eqH eh4 ?_
  clear eh4
  refine aw_aload_n hC dX0_begin_20 rfl ?_
  refine aw_iconst hC dX0_begin_21 (by decide) ?_
  obtain ⟨h5, eh5, hF⟩ := lb_some hF
  refine aw_p0i (k := 3) (a := 26) hC dX0_begin_22 lkRX0_39 (by decide) rfl rfl rfl rfl rfl (Or.inl ⟨hbt, by decide⟩) (fun _ => by decide) ?_
  refine aw_eqH eh5 ?_
  clear eh5
  refine aw_aload_n hC dX0_begin_25 rfl ?_
  refine aw_iconst hC dX0_begin_26 (by decide) ?_
  obtain ⟨h6, eh6, hF⟩ := lb_some hF
  refine aw_p0i (k := 6) (a := 26) hC dX0_begin_27 lkRX0_42 (by decide) rfl rfl rfl rfl rfl (Or.inl ⟨hbt, by decide⟩) (fun _ => by decide) ?_
  refine aw_eqH eh6 ?_
  clear eh6
  exact aw_return hC hZ (Nat.zero_le _) (Nat.zero_le _) hr dX0_begin_30 (hK _ _ (Option.some.inj hF).symm)
def fX0_latest_26  (h : Hp) : Option (Int) :=
  some ((i_mul ((i_rem ((i_sub ((i_add ((h 26 2)) ((h 26 3)))) 1)) 40)) 62))
theorem ok_X0_latest_26 {G : GD} {n : Nat}  {h : Hp} {res : Int} (hF : fX0_latest_26  h = some res) : Con G yX0_latest cX0_latest 1 (some .int) 0 0 0 true [(2, ((26 : Nat) : Int))] n h (FQ 0 n (res, h)) := by
  refine con_of (pad := 0) (own := RX0) (plainFor_of_name (by decide)) rfl rfl ?_
  intro X hC hbt hr hnm hZ hRm hn0
  have hK : ∀ (x9 : Int), res = x9 → FQ 0 n (res, h) (0, x9) n h := fun x9 e => by subst e; exact ⟨rfl, rfl, rfl⟩
  unfold fX0_latest_26 at hF
  show AW G X 0 [(2, ((26 : Nat) : Int))] [] n h 0 0
  refine aw_aload_n hC dX0_latest_0 rfl ?_
  refine aw_g0i (k := 2) (a := 26) hC dX0_latest_1 lkRX0_35 (by decide) rfl rfl rfl (Or.inl ⟨hbt, by decide⟩) ?_
  refine aw_aload_n hC dX0_latest_4 rfl ?_
  refine aw_g0i (k := 3) (a := 26) hC dX0_latest_5 lkRX0_39 (by decide) rfl rfl rfl (Or.inl ⟨hbt, by decide⟩) ?_
  refine aw_iadd hC dX0_latest_8 ?_
  refine aw_iconst hC dX0_latest_9 (by decide) ?_
  refine aw_isub hC dX0_latest_10 ?_
  refine aw_bipush hC dX0_latest_11 (by decide) (by decide) ?_
  refine aw_irem hC dX0_latest_13 (by decide) ?_
  refine aw_bipush hC dX0_latest_14 (by decide) (by decide) ?_
  refine aw_imul hC dX0_latest_16 ?_
  exact aw_ireturn hC hZ (Nat.zero_le _) (Nat.zero_le _) hr dX0_latest_17 (hK _ (Option.some.inj hF).symm)
def fX0_remember_26_j35  (h : Hp) : Option (Int × Hp) :=
  bp_ (fX0_latest_26 h) (fun r4 => gd_ (0 ≤ (0 : Int) ∧ 0 ≤ r4 ∧ 0 ≤ (62 : Int) ∧ (0 : Int) + 62 ≤ ((62 : Nat) : Int) ∧ r4 + 62 ≤ ((2480 : Nat) : Int)) (lb_ (cpy h 27 28 (Int.toNat 0) (Int.toNat r4) (Int.toNat 62)) (fun h7 => some (0, h7))))
def fX0_remember_26  (h : Hp) : Option (Int × Hp) :=
  (if 40 ≤ (h 26 3) then lb_ (st h 26 2 ((i_rem ((i_add ((h 26 2)) 1)) 40))) (fun h3 => fX0_remember_26_j35 h3) else lb_ (st h 26 3 ((i_add ((h 26 3)) 1))) (fun h8 => fX0_remember_26_j35 h8))
theorem fX0_remember_26_j35_ok {G : GD} {X : CX} {n : Nat} {Q : Av → Nat → Hp → Prop} (hC : Cx G X RX0 cX0_remember) (hZ : ZOK X G Q 0 0) (hRm : X.R = rmd 1 0 0) (hbt : X.bt = true) (hr : X.meth.sig.returnType = none)  {h : Hp} {res : Int × Hp} (hF : fX0_remember_26_j35  h = some res) (hK : ∀ (x9 : Int) (h9 : Hp), res = (x9, h9) → Q (8, x9) n h9) : AW G X 35 [(2, ((26 : Nat) : Int))] [] n h 0 0 := by
  unfold fX0_remember_26_j35 at hF
  refine aw_aload_n hC dX0_remember_35 rfl ?_
  refine aw_gc0 (k := 0) (a := 26) (b := 27) hC hbt dX0_remember_36 lkRX0_9 (by decide) rfl rfl rfl (by decide) (by decide) ?_
  refine aw_iconst hC dX0_remember_39 (by decide) ?_
  refine aw_aload_n hC dX0_remember_40 rfl ?_
  refine aw_gc0 (k := 1) (a := 26) (b := 28) hC hbt dX0_remember_41 lkRX0_15 (by decide) rfl rfl rfl (by decide) (by decide) ?_
  refine aw_aload_n hC dX0_remember_44 rfl ?_
  obtain ⟨r4, q5, hF⟩ := bp_some hF
  refine clRX0_45 hC hRm hbt dX0_remember_45 rfl rfl (by decide) (Nat.le_of_ble_eq_true rfl) (Nat.le_of_ble_eq_true rfl) (ok_X0_latest_26 q5) ?_
  refine aw_bipush hC dX0_remember_48 (by decide) (by decide) ?_
  obtain ⟨g6, hF⟩ := gd_some hF
  obtain ⟨h7, eh7, hF⟩ := lb_some hF
  refine aw_copyi (a0 := 27) (a1 := 28) hC hRm (Nat.le_of_ble_eq_true rfl) dX0_remember_50 cplRX0_29 rfl rfl rfl rfl (Or.inl ⟨hbt, by decide⟩) (Or.inl ⟨hbt, by decide⟩) g6 (Nat.le_of_ble_eq_true rfl) ?_
  refine aw_eqH eh7 ?_
  clear eh7
  exact aw_return hC hZ (Nat.zero_le _) (Nat.zero_le _) hr dX0_remember_53 (hK _ _ (Option.some.inj hF).symm)
theorem ok_X0_remember_26 {G : GD} {n : Nat}  {h : Hp} {res : Int × Hp} (hF : fX0_remember_26  h = some res) : Con G yX0_remember cX0_remember 1 none 1 0 0 true [(2, ((26 : Nat) : Int))] n h (FQ 8 n res) := by
  refine con_of (pad := 0) (own := RX0) (plainFor_of_name (by decide)) rfl rfl ?_
  intro X hC hbt hr hnm hZ hRm hn0
  have hK : ∀ (x9 : Int) (h9 : Hp), res = (x9, h9) → FQ 8 n res (8, x9) n h9 := fun x9 h9 e => by subst e; exact ⟨rfl, rfl, rfl⟩
  unfold fX0_remember_26 at hF
  show AW G X 0 [(2, ((26 : Nat) : Int))] [] n h 0 0
  refine aw_aload_n hC dX0_remember_0 rfl ?_
  refine aw_g0i (k := 3) (a := 26) hC dX0_remember_1 lkRX0_39 (by decide) rfl rfl rfl (Or.inl ⟨hbt, by decide⟩) ?_
  refine aw_bipush hC dX0_remember_4 (by decide) (by decide) ?_
  refine aw_icmp_ge (tgt := 22) hC dX0_remember_6 (by decide) (fun c1 => ?_) (fun c1 => ?_)
  · have hF := it_t hF c1
    refine aw_aload_n hC dX0_remember_22 rfl ?_
    refine aw_aload_n hC dX0_remember_23 rfl ?_
    refine aw_g0i (k := 2) (a := 26) hC dX0_remember_24 lkRX0_35 (by decide) rfl rfl rfl (Or.inl ⟨hbt, by decide⟩) ?_
    refine aw_iconst hC dX0_remember_27 (by decide) ?_
    refine aw_iadd hC dX0_remember_28 ?_
    refine aw_bipush hC dX0_remember_29 (by decide) (by decide) ?_
    refine aw_irem hC dX0_remember_31 (by decide) ?_
    obtain ⟨h3, eh3, hF⟩ := lb_some hF
    refine aw_p0i (k := 2) (a := 26) hC dX0_remember_32 lkRX0_35 (by decide) rfl rfl rfl rfl rfl (Or.inl ⟨hbt, by decide⟩) (fun _ => by decide) ?_
    refine aw_eqH eh3 ?_
    clear eh3
    exact fX0_remember_26_j35_ok hC hZ hRm hbt hr hF hK
  · have hF := it_f hF c1
    refine aw_aload_n hC dX0_remember_9 rfl ?_
    refine aw_dup hC dX0_remember_10 (by simp) ?_
    refine aw_g0i (k := 3) (a := 26) hC dX0_remember_11 lkRX0_39 (by decide) rfl rfl rfl (Or.inl ⟨hbt, by decide⟩) ?_
    refine aw_iconst hC dX0_remember_14 (by decide) ?_
    refine aw_iadd hC dX0_remember_15 ?_
    obtain ⟨h8, eh8, hF⟩ := lb_some hF
    refine aw_p0i (k := 3) (a := 26) hC dX0_remember_16 lkRX0_39 (by decide) rfl rfl rfl rfl rfl (Or.inl ⟨hbt, by decide⟩) (fun _ => by decide) ?_
    refine aw_eqH eh8 ?_
    clear eh8
    refine aw_goto (tgt := 35) hC dX0_remember_19 (by decide) ?_
    exact fX0_remember_26_j35_ok hC hZ hRm hbt hr hF hK
def fX0_recall_26  (h : Hp) : Option (Int × Hp) :=
  (if (h 26 3) = 0 then some (0, h) else bp_ (fX0_latest_26 h) (fun r2 => gd_ (0 ≤ r2 ∧ 0 ≤ (0 : Int) ∧ 0 ≤ (62 : Int) ∧ r2 + 62 ≤ ((2480 : Nat) : Int) ∧ (0 : Int) + 62 ≤ ((62 : Nat) : Int)) (lb_ (cpy h 28 27 (Int.toNat r2) (Int.toNat 0) (Int.toNat 62)) (fun h5 => lb_ (st h5 26 3 ((i_sub ((h5 26 3)) 1))) (fun h6 => some (1, h6))))))
theorem ok_X0_recall_26 {G : GD} {n : Nat}  {h : Hp} {res : Int × Hp} (hF : fX0_recall_26  h = some res) : Con G yX0_recall cX0_recall 1 (some .boolean) 1 0 0 true [(2, ((26 : Nat) : Int))] n h (FQ 0 n res) := by
  refine con_of (pad := 0) (own := RX0) (plainFor_of_name (by decide)) rfl rfl ?_
  intro X hC hbt hr hnm hZ hRm hn0
  have hK : ∀ (x9 : Int) (h9 : Hp), res = (x9, h9) → FQ 0 n res (0, x9) n h9 := fun x9 h9 e => by subst e; exact ⟨rfl, rfl, rfl⟩
  unfold fX0_recall_26 at hF
  show AW G X 0 [(2, ((26 : Nat) : Int))] [] n h 0 0
  refine aw_aload_n hC dX0_recall_0 rfl ?_
  refine aw_g0i (k := 3) (a := 26) hC dX0_recall_1 lkRX0_39 (by decide) rfl rfl rfl (Or.inl ⟨hbt, by decide⟩) ?_
  refine aw_if_ne (tgt := 9) hC dX0_recall_4 (by decide) (fun c1 => ?_) (fun c1 => ?_)
  · have hF := it_f hF c1
    refine aw_aload_n hC dX0_recall_9 rfl ?_
    refine aw_gc0 (k := 1) (a := 26) (b := 28) hC hbt dX0_recall_10 lkRX0_15 (by decide) rfl rfl rfl (by decide) (by decide) ?_
    refine aw_aload_n hC dX0_recall_13 rfl ?_
    obtain ⟨r2, q3, hF⟩ := bp_some hF
    refine clRX0_45 hC hRm hbt dX0_recall_14 rfl rfl (by decide) (Nat.le_of_ble_eq_true rfl) (Nat.le_of_ble_eq_true rfl) (ok_X0_latest_26 q3) ?_
    refine aw_aload_n hC dX0_recall_17 rfl ?_
    refine aw_gc0 (k := 0) (a := 26) (b := 27) hC hbt dX0_recall_18 lkRX0_9 (by decide) rfl rfl rfl (by decide) (by decide) ?_
    refine aw_iconst hC dX0_recall_21 (by decide) ?_
    refine aw_bipush hC dX0_recall_22 (by decide) (by decide) ?_
    obtain ⟨g4, hF⟩ := gd_some hF
    obtain ⟨h5, eh5, hF⟩ := lb_some hF
    refine aw_copyi (a0 := 28) (a1 := 27) hC hRm (Nat.le_of_ble_eq_true rfl) dX0_recall_24 cplRX0_29 rfl rfl rfl rfl (Or.inl ⟨hbt, by decide⟩) (Or.inl ⟨hbt, by decide⟩) g4 (Nat.le_of_ble_eq_true rfl) ?_
    refine aw_eqH eh5 ?_
    clear eh5
    refine aw_aload_n hC dX0_recall_27 rfl ?_
    refine aw_dup hC dX0_recall_28 (by simp) ?_
    refine aw_g0i (k := 3) (a := 26) hC dX0_recall_29 lkRX0_39 (by decide) rfl rfl rfl (Or.inl ⟨hbt, by decide⟩) ?_
    refine aw_iconst hC dX0_recall_32 (by decide) ?_
    refine aw_isub hC dX0_recall_33 ?_
    obtain ⟨h6, eh6, hF⟩ := lb_some hF
    refine aw_p0i (k := 3) (a := 26) hC dX0_recall_34 lkRX0_39 (by decide) rfl rfl rfl rfl rfl (Or.inl ⟨hbt, by decide⟩) (fun _ => by decide) ?_
    refine aw_eqH eh6 ?_
    clear eh6
    refine aw_iconst hC dX0_recall_37 (by decide) ?_
    exact aw_zreturn hC hZ (Nat.zero_le _) (Nat.zero_le _) hr rfl dX0_recall_38 (by decide) (hK _ _ (Option.some.inj hF).symm)
  · have hF := it_t hF c1
    refine aw_iconst hC dX0_recall_7 (by decide) ?_
    exact aw_zreturn hC hZ (Nat.zero_le _) (Nat.zero_le _) hr rfl dX0_recall_8 (by decide) (hK _ _ (Option.some.inj hF).symm)
def fX0_write_26 (x1 : Int) (x2 : Int) (h : Hp) : Option (Int × Hp) :=
  (if (h 26 6) < 6 then gd_ (0 ≤ (h 26 6) ∧ (h 26 6) < 6) (lb_ (st h 29 (Int.toNat ((h 26 6))) x1) (fun h3 => gd_ (0 ≤ (h3 26 6) ∧ (h3 26 6) < 6) (lb_ (st h3 30 (Int.toNat ((h3 26 6))) x2) (fun h5 => lb_ (st h5 26 6 ((i_add ((h5 26 6)) 1))) (fun h6 => some (1, h6)))))) else some (0, h))
theorem ok_X0_write_26 {G : GD} {n : Nat} {x1 : Int} {x2 : Int} {h : Hp} {res : Int × Hp} (hF : fX0_write_26 x1 x2 h = some res) : Con G yX0_write cX0_write 3 (some .boolean) 0 0 0 true [(2, ((26 : Nat) : Int)), (0, x1), (0, x2)] n h (FQ 0 n res) := by
  refine con_of (pad := 0) (own := RX0) (plainFor_of_name (by decide)) rfl rfl ?_
  intro X hC hbt hr hnm hZ hRm hn0
  have hK : ∀ (x9 : Int) (h9 : Hp), res = (x9, h9) → FQ 0 n res (0, x9) n h9 := fun x9 h9 e => by subst e; exact ⟨rfl, rfl, rfl⟩
  unfold fX0_write_26 at hF
  show AW G X 0 [(2, ((26 : Nat) : Int)), (0, x1), (0, x2)] [] n h 0 0
  refine aw_aload_n hC dX0_write_0 rfl ?_
  refine aw_g0i (k := 6) (a := 26) hC dX0_write_1 lkRX0_42 (by decide) rfl rfl rfl (Or.inl ⟨hbt, by decide⟩) ?_
  refine aw_bipush hC dX0_write_4 (by decide) (by decide) ?_
  refine aw_icmp_lt (tgt := 11) hC dX0_write_6 (by decide) (fun c1 => ?_) (fun c1 => ?_)
  · have hF := it_t hF c1
    refine aw_aload_n hC dX0_write_11 rfl ?_
    refine aw_gc0 (k := 4) (a := 26) (b := 29) hC hbt dX0_write_12 lkRX0_18 (by decide) rfl rfl rfl (by decide) (by decide) ?_
    refine aw_aload_n hC dX0_write_15 rfl ?_
    refine aw_g0i (k := 6) (a := 26) hC dX0_write_16 lkRX0_42 (by decide) rfl rfl rfl (Or.inl ⟨hbt, by decide⟩) ?_
    refine aw_iload_n hC dX0_write_19 rfl ?_
    obtain ⟨g2, hF⟩ := gd_some hF
    obtain ⟨h3, eh3, hF⟩ := lb_some hF
    refine aw_iastore (a := 29) hC dX0_write_20 rfl rfl (Or.inl ⟨hbt, by decide⟩) g2.1 g2.2 ?_
    refine aw_eqH eh3 ?_
    clear eh3
    refine aw_aload_n hC dX0_write_21 rfl ?_
    refine aw_gc0 (k := 5) (a := 26) (b := 30) hC hbt dX0_write_22 lkRX0_21 (by decide) rfl rfl rfl (by decide) (by decide) ?_
    refine aw_aload_n hC dX0_write_25 rfl ?_
    refine aw_g0i (k := 6) (a := 26) hC dX0_write_26 lkRX0_42 (by decide) rfl rfl rfl (Or.inl ⟨hbt, by decide⟩) ?_
    refine aw_iload_n hC dX0_write_29 rfl ?_
    obtain ⟨g4, hF⟩ := gd_some hF
    obtain ⟨h5, eh5, hF⟩ := lb_some hF
    refine aw_iastore (a := 30) hC dX0_write_30 rfl rfl (Or.inl ⟨hbt, by decide⟩) g4.1 g4.2 ?_
    refine aw_eqH eh5 ?_
    clear eh5
    refine aw_aload_n hC dX0_write_31 rfl ?_
    refine aw_dup hC dX0_write_32 (by simp) ?_
    refine aw_g0i (k := 6) (a := 26) hC dX0_write_33 lkRX0_42 (by decide) rfl rfl rfl (Or.inl ⟨hbt, by decide⟩) ?_
    refine aw_iconst hC dX0_write_36 (by decide) ?_
    refine aw_iadd hC dX0_write_37 ?_
    obtain ⟨h6, eh6, hF⟩ := lb_some hF
    refine aw_p0i (k := 6) (a := 26) hC dX0_write_38 lkRX0_42 (by decide) rfl rfl rfl rfl rfl (Or.inl ⟨hbt, by decide⟩) (fun _ => by decide) ?_
    refine aw_eqH eh6 ?_
    clear eh6
    refine aw_iconst hC dX0_write_41 (by decide) ?_
    exact aw_zreturn hC hZ (Nat.zero_le _) (Nat.zero_le _) hr rfl dX0_write_42 (by decide) (hK _ _ (Option.some.inj hF).symm)
  · have hF := it_f hF c1
    refine aw_iconst hC dX0_write_9 (by decide) ?_
    exact aw_zreturn hC hZ (Nat.zero_le _) (Nat.zero_le _) hr rfl dX0_write_10 (by decide) (hK _ _ (Option.some.inj hF).symm)
def fX1_clear_l29 (x0 : Int) (x1 : Int) (h : Hp) : Option ((Int × Hp) ⊕ (Hp)) :=
  gd_ (x0 = 1 ∨ x0 = 9) ((if ((64 : Nat) : Int) ≤ x1 then some (.inr h) else gd_ (0 ≤ x1 ∧ x1 < 64) (lb_ (st h (Int.toNat (x0 + 1)) (Int.toNat x1) 0) (fun h10 => some (.inl ((i_add x1 1), h10))))))
def fX1_clear_l53 (x0 : Int) (x1 : Int) (h : Hp) : Option ((Int × Hp) ⊕ (Hp)) :=
  gd_ (x0 = 1 ∨ x0 = 9) ((if ((62 : Nat) : Int) ≤ x1 then some (.inr h) else gd_ (0 ≤ x1 ∧ x1 < 62) (lb_ (st h (Int.toNat (x0 + 7)) (Int.toNat x1) 0) (fun h17 => some (.inl ((i_add x1 1), h17))))))
def fX1_clear_l77 (x0 : Int) (x1 : Int) (h : Hp) : Option ((Int × Hp) ⊕ (Hp)) :=
  (if 12 ≤ x1 then some (.inr h) else gd_ (x0 = 1 ∨ x0 = 9) (gd_ (0 ≤ (i_add 0 x1) ∧ (i_add 0 x1) < 62) (lb_ (st h (Int.toNat (x0 + 7)) (Int.toNat ((i_add 0 x1))) ((-1))) (fun h24 => some (.inl ((i_add x1 1), h24))))))
def fX1_clear (L0 : Int) (h : Hp) : Option (Int × Hp) :=
  gd_ (L0 = 1 ∨ L0 = 9) (lb_ (st h (Int.toNat L0) 0 8) (fun h1 => lb_ (st h1 (Int.toNat L0) 1 8) (fun h3 => lb_ (st h3 (Int.toNat L0) 3 0) (fun h4 => lb_ (st h4 (Int.toNat L0) 6 0) (fun h5 => lb_ (st h5 (Int.toNat L0) 8 0) (fun h6 => bp_ (it_ (fun s => fX1_clear_l29 L0 s.1 s.2) FU (0, h6)) (fun e12 => (fun h13 => bp_ (it_ (fun s => fX1_clear_l53 L0 s.1 s.2) FU (0, h13)) (fun e19 => (fun h20 => bp_ (it_ (fun s => fX1_clear_l77 L0 s.1 s.2) FU (0, h20)) (fun e26 => (fun h27 => gd_ (L0 = 1 ∨ L0 = 9) (gd_ (0 ≤ (60 : Int) ∧ (60 : Int) < 62) (lb_ (st h27 (Int.toNat (L0 + 7)) (Int.toNat 60) ((-1))) (fun h30 => some (0, h30))))) e26)) e19)) e12)))))))
theorem fX1_clear_l29_ok {G : GD} {X : CX} {n : Nat} {Q : Av → Nat → Hp → Prop} (hC : Cx G X RX1 cX1_clear) (hZ : ZOK X G Q 0 0) (hRm : X.R = rmd 0 0 0) (hbt : X.bt = true) (hr : X.meth.sig.returnType = none) {x0 : Int} : ∀ (f : Nat) (x1 : Int) (h : Hp) (r : Hp), it_ (fun s => fX1_clear_l29 x0 s.1 s.2) f (x1, h) = some r → (∀ (h9 : Hp), r = h9 → AW G X 51 [(2, x0), (9, 0)] [] n h9 0 0) → AW G X 29 [(2, x0), (0, x1)] [] n h 0 0 := by
  intro f
  induction f with
  | zero => intro x1 h r hI; cases hI
  | succ f ih0 =>
    intro x1 h r hI hX
    obtain ⟨b, hF, hb1, hb2⟩ := it_succ hI
    have hF : fX1_clear_l29 x0 x1 h = some b := hF
    unfold fX1_clear_l29 at hF
    refine aw_iload_n hC dX1_clear_29 rfl ?_
    refine aw_aload_n hC dX1_clear_30 rfl ?_
    obtain ⟨k7, hF⟩ := gd_some hF
    refine aw_gL1 hC hbt k7 dX1_clear_31 lkRX1_18 ?_
    refine aw_alen (a := (Int.toNat (x0 + 1))) hC dX1_clear_34 (lnd1 k7).1 (lnd1 k7).2.1 (by decide) (by decide) (Or.inl ⟨hbt, (lnd1 k7).2.2⟩) ?_
    refine aw_icmp_ge (tgt := 51) hC dX1_clear_35 (by decide) (fun c8 => ?_) (fun c8 => ?_)
    · have hF := it_t hF c8
      refine aw_weak (ls' := [(2, x0), (9, 0)]) ⟨Or.inr rfl, Or.inl rfl, trivial⟩ ?_
      exact hX _ (hb2 _ (Option.some.inj hF).symm).symm
    · have hF := it_f hF c8
      refine aw_aload_n hC dX1_clear_38 rfl ?_
      refine aw_gL1 hC hbt k7 dX1_clear_39 lkRX1_18 ?_
      refine aw_iload_n hC dX1_clear_42 rfl ?_
      refine aw_iconst hC dX1_clear_43 (by decide) ?_
      obtain ⟨g9, hF⟩ := gd_some hF
      obtain ⟨h10, eh10, hF⟩ := lb_some hF
      refine aw_iastore (a := (Int.toNat (x0 + 1))) hC dX1_clear_44 (lnd1 k7).1 (lnd1 k7).2.1 (Or.inl ⟨hbt, (lnd1 k7).2.2⟩) g9.1 g9.2 ?_
      refine aw_eqH eh10 ?_
      clear eh10
      refine aw_iinc1 hC dX1_clear_45 rfl ?_
      refine aw_goto (tgt := 29) hC dX1_clear_48 (by decide) ?_
      exact ih0 _ _ r (hb1 _ (Option.some.inj hF).symm) hX
theorem fX1_clear_l53_ok {G : GD} {X : CX} {n : Nat} {Q : Av → Nat → Hp → Prop} (hC : Cx G X RX1 cX1_clear) (hZ : ZOK X G Q 0 0) (hRm : X.R = rmd 0 0 0) (hbt : X.bt = true) (hr : X.meth.sig.returnType = none) {x0 : Int} : ∀ (f : Nat) (x1 : Int) (h : Hp) (r : Hp), it_ (fun s => fX1_clear_l53 x0 s.1 s.2) f (x1, h) = some r → (∀ (h9 : Hp), r = h9 → AW G X 75 [(2, x0), (9, 0)] [] n h9 0 0) → AW G X 53 [(2, x0), (0, x1)] [] n h 0 0 := by
  intro f
  induction f with
  | zero => intro x1 h r hI; cases hI
  | succ f ih0 =>
    intro x1 h r hI hX
    obtain ⟨b, hF, hb1, hb2⟩ := it_succ hI
    have hF : fX1_clear_l53 x0 x1 h = some b := hF
    unfold fX1_clear_l53 at hF
    refine aw_iload_n hC dX1_clear_53 rfl ?_
    refine aw_aload_n hC dX1_clear_54 rfl ?_
    obtain ⟨k14, hF⟩ := gd_some hF
    refine aw_gL7 hC hbt k14 dX1_clear_55 lkRX1_37 ?_
    refine aw_alen (a := (Int.toNat (x0 + 7))) hC dX1_clear_58 (lnd7 k14).1 (lnd7 k14).2.1 (by decide) (by decide) (Or.inl ⟨hbt, (lnd7 k14).2.2⟩) ?_
    refine aw_icmp_ge (tgt := 75) hC dX1_clear_59 (by decide) (fun c15 => ?_) (fun c15 => ?_)
    · have hF := it_t hF c15
      refine aw_weak (ls' := [(2, x0), (9, 0)]) ⟨Or.inr rfl, Or.inl rfl, trivial⟩ ?_
      exact hX _ (hb2 _ (Option.some.inj hF).symm).symm
    · have hF := it_f hF c15
      refine aw_aload_n hC dX1_clear_62 rfl ?_
      refine aw_gL7 hC hbt k14 dX1_clear_63 lkRX1_37 ?_
      refine aw_iload_n hC dX1_clear_66 rfl ?_
      refine aw_iconst hC dX1_clear_67 (by decide) ?_
      obtain ⟨g16, hF⟩ := gd_some hF
      obtain ⟨h17, eh17, hF⟩ := lb_some hF
      refine aw_iastore (a := (Int.toNat (x0 + 7))) hC dX1_clear_68 (lnd7 k14).1 (lnd7 k14).2.1 (Or.inl ⟨hbt, (lnd7 k14).2.2⟩) g16.1 g16.2 ?_
      refine aw_eqH eh17 ?_
      clear eh17
      refine aw_iinc1 hC dX1_clear_69 rfl ?_
      refine aw_goto (tgt := 53) hC dX1_clear_72 (by decide) ?_
      exact ih0 _ _ r (hb1 _ (Option.some.inj hF).symm) hX
theorem fX1_clear_l77_ok {G : GD} {X : CX} {n : Nat} {Q : Av → Nat → Hp → Prop} (hC : Cx G X RX1 cX1_clear) (hZ : ZOK X G Q 0 0) (hRm : X.R = rmd 0 0 0) (hbt : X.bt = true) (hr : X.meth.sig.returnType = none) {x0 : Int} : ∀ (f : Nat) (x1 : Int) (h : Hp) (r : Hp), it_ (fun s => fX1_clear_l77 x0 s.1 s.2) f (x1, h) = some r → (∀ (h9 : Hp), r = h9 → AW G X 98 [(2, x0), (9, 0)] [] n h9 0 0) → AW G X 77 [(2, x0), (0, x1)] [] n h 0 0 := by
  intro f
  induction f with
  | zero => intro x1 h r hI; cases hI
  | succ f ih0 =>
    intro x1 h r hI hX
    obtain ⟨b, hF, hb1, hb2⟩ := it_succ hI
    have hF : fX1_clear_l77 x0 x1 h = some b := hF
    unfold fX1_clear_l77 at hF
    refine aw_iload_n hC dX1_clear_77 rfl ?_
    refine aw_bipush hC dX1_clear_78 (by decide) (by decide) ?_
    refine aw_icmp_ge (tgt := 98) hC dX1_clear_80 (by decide) (fun c21 => ?_) (fun c21 => ?_)
    · have hF := it_t hF c21
      refine aw_weak (ls' := [(2, x0), (9, 0)]) ⟨Or.inr rfl, Or.inl rfl, trivial⟩ ?_
      exact hX _ (hb2 _ (Option.some.inj hF).symm).symm
    · have hF := it_f hF c21
      refine aw_aload_n hC dX1_clear_83 rfl ?_
      obtain ⟨k22, hF⟩ := gd_some hF
      refine aw_gL7 hC hbt k22 dX1_clear_84 lkRX1_37 ?_
      refine aw_iconst hC dX1_clear_87 (by decide) ?_
      refine aw_iload_n hC dX1_clear_88 rfl ?_
      refine aw_iadd hC dX1_clear_89 ?_
      refine aw_iconst hC dX1_clear_90 (by decide) ?_
      obtain ⟨g23, hF⟩ := gd_some hF
      obtain ⟨h24, eh24, hF⟩ := lb_some hF
      refine aw_iastore (a := (Int.toNat (x0 + 7))) hC dX1_clear_91 (lnd7 k22).1 (lnd7 k22).2.1 (Or.inl ⟨hbt, (lnd7 k22).2.2⟩) g23.1 g23.2 ?_
      refine aw_eqH eh24 ?_
      clear eh24
      refine aw_iinc1 hC dX1_clear_92 rfl ?_
      refine aw_goto (tgt := 77) hC dX1_clear_95 (by decide) ?_
      exact ih0 _ _ r (hb1 _ (Option.some.inj hF).symm) hX
theorem ok_X1_clear {G : GD} {n : Nat} {L0 : Int} {h : Hp} {res : Int × Hp} (hF : fX1_clear L0 h = some res) : Con G yX1_clear cX1_clear 2 none 0 0 0 true [(2, L0)] n h (FQ 8 n res) := by
  refine con_of (pad := 1) (own := RX1) (plainFor_of_name (by decide)) rfl rfl ?_
  intro X hC hbt hr hnm hZ hRm hn0
  have hK : ∀ (x9 : Int) (h9 : Hp), res = (x9, h9) → FQ 8 n res (8, x9) n h9 := fun x9 h9 e => by subst e; exact ⟨rfl, rfl, rfl⟩
  unfold fX1_clear at hF
  show AW G X 0 [(2, L0), (9, 0)] [] n h 0 0
  refine aw_aload_n hC dX1_clear_0 rfl ?_
  refine aw_bipush hC dX1_clear_1 (by decide) (by decide) ?_
  obtain ⟨k2, hF⟩ := gd_some hF
  obtain ⟨h1, eh1, hF⟩ := lb_some hF
  refine aw_pLi (k := 0) hC hbt k2 dX1_clear_3 lkRX1_9 (by decide) rfl rfl rfl (by decide) ?_
  refine aw_eqH eh1 ?_
  clear eh1
  refine aw_aload_n hC dX1_clear_6 rfl ?_
  refine aw_bipush hC dX1_clear_7 (by decide) (by decide) ?_
  obtain ⟨h3, eh3, hF⟩ := lb_some hF
  refine aw_pLi (k := 1) hC hbt k2 dX1_clear_9 lkRX1_15 (by decide) rfl rfl rfl (by decide) ?_
  refine aw_eqH eh3 ?_
  clear eh3
  refine aw_aload_n hC dX1_clear_12 rfl ?_
  refine aw_iconst hC dX1_clear_13 (by decide) ?_
  obtain ⟨h4, eh4, hF⟩ := lb_some hF
  refine aw_pLi (k := 3) hC hbt k2 dX1_clear_14 lkRX1_43 (by decide) rfl rfl rfl (by decide) ?_
  refine aw_eqH eh4 ?_
  clear eh4
  refine aw_aload_n hC dX1_clear_17 rfl ?_
  refine aw_iconst hC dX1_clear_18 (by decide) ?_
  obtain ⟨h5, eh5, hF⟩ := lb_some hF
  refine aw_pLi (k := 6) hC hbt k2 dX1_clear_19 lkRX1_46 (by decide) rfl rfl rfl (by decide) ?_
  refine aw_eqH eh5 ?_
  clear eh5
  refine aw_aload_n hC dX1_clear_22 rfl ?_
  refine aw_iconst hC dX1_clear_23 (by decide) ?_
  obtain ⟨h6, eh6, hF⟩ := lb_some hF
  refine aw_pLi (k := 8) hC hbt k2 dX1_clear_24 lkRX1_49 (by decide) rfl rfl rfl (by decide) ?_
  refine aw_eqH eh6 ?_
  clear eh6
  refine aw_iconst hC dX1_clear_27 (by decide) ?_
  refine aw_istore1 hC dX1_clear_28 rfl ?_
  obtain ⟨e12, he, hF⟩ := bp_some hF
  refine fX1_clear_l29_ok hC hZ hRm hbt hr FU _ _ e12 he (fun h13 er => ?_)
  replace er := er.symm
  subst er
  try dsimp only at hF
  refine aw_iconst hC dX1_clear_51 (by decide) ?_
  refine aw_istore1 hC dX1_clear_52 rfl ?_
  obtain ⟨e19, he, hF⟩ := bp_some hF
  refine fX1_clear_l53_ok hC hZ hRm hbt hr FU _ _ e19 he (fun h20 er => ?_)
  replace er := er.symm
  subst er
  try dsimp only at hF
  refine aw_iconst hC dX1_clear_75 (by decide) ?_
  refine aw_istore1 hC dX1_clear_76 rfl ?_
  obtain ⟨e26, he, hF⟩ := bp_some hF
  refine fX1_clear_l77_ok hC hZ hRm hbt hr FU _ _ e26 he (fun h27 er => ?_)
  replace er := er.symm
  subst er
  try dsimp only at hF
  refine aw_aload_n hC dX1_clear_98 rfl ?_
  obtain ⟨k28, hF⟩ := gd_some hF
  refine aw_gL7 hC hbt k28 dX1_clear_99 lkRX1_37 ?_
  refine aw_bipush hC dX1_clear_102 (by decide) (by decide) ?_
  refine aw_iconst hC dX1_clear_104 (by decide) ?_
  obtain ⟨g29, hF⟩ := gd_some hF
  obtain ⟨h30, eh30, hF⟩ := lb_some hF
  refine aw_iastore (a := (Int.toNat (L0 + 7))) hC dX1_clear_105 (lnd7 k28).1 (lnd7 k28).2.1 (Or.inl ⟨hbt, (lnd7 k28).2.2⟩) g29.1 g29.2 ?_
  refine aw_eqH eh30 ?_
  clear eh30
  exact aw_return hC hZ (Nat.zero_le _) (Nat.zero_le _) hr dX1_clear_106 (hK _ _ (Option.some.inj hF).symm)
def fX1_cells (L0 : Int) (h : Hp) : Option (Int) :=
  gd_ (L0 = 1 ∨ L0 = 9) (some ((i_mul ((h (Int.toNat L0) 0)) ((h (Int.toNat L0) 1)))))
theorem ok_X1_cells {G : GD} {n : Nat} {L0 : Int} {h : Hp} {res : Int} (hF : fX1_cells L0 h = some res) : Con G yX1_cells cX1_cells 1 (some .int) 0 0 0 true [(2, L0)] n h (FQ 0 n (res, h)) := by
  refine con_of (pad := 0) (own := RX1) (plainFor_of_name (by decide)) rfl rfl ?_
  intro X hC hbt hr hnm hZ hRm hn0
  have hK : ∀ (x9 : Int), res = x9 → FQ 0 n (res, h) (0, x9) n h := fun x9 e => by subst e; exact ⟨rfl, rfl, rfl⟩
  unfold fX1_cells at hF
  show AW G X 0 [(2, L0)] [] n h 0 0
  refine aw_aload_n hC dX1_cells_0 rfl ?_
  obtain ⟨k1, hF⟩ := gd_some hF
  refine aw_gLi (k := 0) hC hbt k1 dX1_cells_1 lkRX1_9 (by decide) rfl ?_
  refine aw_aload_n hC dX1_cells_4 rfl ?_
  refine aw_gLi (k := 1) hC hbt k1 dX1_cells_5 lkRX1_15 (by decide) rfl ?_
  refine aw_imul hC dX1_cells_8 ?_
  exact aw_ireturn hC hZ (Nat.zero_le _) (Nat.zero_le _) hr dX1_cells_9 (hK _ (Option.some.inj hF).symm)
def fX1_fogOf (L0 : Int) (x1 : Int) (h : Hp) : Option (Int) :=
  gd_ (L0 = 1 ∨ L0 = 9) ((if (h (Int.toNat L0) 6) ≤ 0 then some 9 else (if x1 < 0 then some 9 else gd_ ((h (Int.toNat L0) 6) ≠ 0) (gd_ (0 ≤ (i_rem x1 ((h (Int.toNat L0) 6))) ∧ (i_rem x1 ((h (Int.toNat L0) 6))) < 8) (some ((h (Int.toNat (L0 + 4)) (Int.toNat ((i_rem x1 ((h (Int.toNat L0) 6))))))))))))
theorem ok_X1_fogOf {G : GD} {n : Nat} {L0 : Int} {x1 : Int} {h : Hp} {res : Int} (hF : fX1_fogOf L0 x1 h = some res) : Con G yX1_fogOf cX1_fogOf 2 (some .int) 0 0 0 true [(2, L0), (0, x1)] n h (FQ 0 n (res, h)) := by
  refine con_of (pad := 0) (own := RX1) (plainFor_of_name (by decide)) rfl rfl ?_
  intro X hC hbt hr hnm hZ hRm hn0
  have hK : ∀ (x9 : Int), res = x9 → FQ 0 n (res, h) (0, x9) n h := fun x9 e => by subst e; exact ⟨rfl, rfl, rfl⟩
  unfold fX1_fogOf at hF
  show AW G X 0 [(2, L0), (0, x1)] [] n h 0 0
  refine aw_aload_n hC dX1_fogOf_0 rfl ?_
  obtain ⟨k1, hF⟩ := gd_some hF
  refine aw_gLi (k := 6) hC hbt k1 dX1_fogOf_1 lkRX1_46 (by decide) rfl ?_
  refine aw_if_le (tgt := 25) hC dX1_fogOf_4 (by decide) (fun c2 => ?_) (fun c2 => ?_)
  · have hF := it_t hF c2
    refine aw_bipush hC dX1_fogOf_25 (by decide) (by decide) ?_
    exact aw_ireturn hC hZ (Nat.zero_le _) (Nat.zero_le _) hr dX1_fogOf_27 (hK _ (Option.some.inj hF).symm)
  · have hF := it_f hF c2
    refine aw_iload_n hC dX1_fogOf_7 rfl ?_
    refine aw_if_lt (tgt := 25) hC dX1_fogOf_8 (by decide) (fun c3 => ?_) (fun c3 => ?_)
    · have hF := it_t hF c3
      refine aw_bipush hC dX1_fogOf_25 (by decide) (by decide) ?_
      exact aw_ireturn hC hZ (Nat.zero_le _) (Nat.zero_le _) hr dX1_fogOf_27 (hK _ (Option.some.inj hF).symm)
    · have hF := it_f hF c3
      refine aw_aload_n hC dX1_fogOf_11 rfl ?_
      refine aw_gL4 hC hbt k1 dX1_fogOf_12 lkRX1_28 ?_
      refine aw_iload_n hC dX1_fogOf_15 rfl ?_
      refine aw_aload_n hC dX1_fogOf_16 rfl ?_
      refine aw_gLi (k := 6) hC hbt k1 dX1_fogOf_17 lkRX1_46 (by decide) rfl ?_
      obtain ⟨g4, hF⟩ := gd_some hF
      refine aw_irem hC dX1_fogOf_20 g4 ?_
      obtain ⟨g5, hF⟩ := gd_some hF
      refine aw_iaload (a := (Int.toNat (L0 + 4))) hC dX1_fogOf_21 (lnd4 k1).1 (lnd4 k1).2.1 (Or.inl ⟨hbt, (lnd4 k1).2.2⟩) g5.1 g5.2 ?_
      refine aw_goto (tgt := 27) hC dX1_fogOf_22 (by decide) ?_
      exact aw_ireturn hC hZ (Nat.zero_le _) (Nat.zero_le _) hr dX1_fogOf_27 (hK _ (Option.some.inj hF).symm)
def fX1_houseIn_l2 (x0 : Int) (x1 : Int) (x2 : Int) (h : Hp) : Option ((Int) ⊕ ((Unit) ⊕ (Int))) :=
  gd_ (x0 = 1 ∨ x0 = 9) ((if (h (Int.toNat x0) 3) ≤ x2 then some (.inr (.inl ())) else gd_ (0 ≤ x2 ∧ x2 < 6) ((if (h (Int.toNat (x0 + 2)) (Int.toNat x2)) = x1 then some (.inr (.inr x2)) else some (.inl (i_add x2 1))))))
def fX1_houseIn (L0 : Int) (x1 : Int) (h : Hp) : Option (Int) :=
  bp_ (it_ (fun s => fX1_houseIn_l2 L0 x1 s h) FU 0) (fun e6 => match e6 with | .inl e6 => some ((-1)) | .inr q9 => some q9)
theorem fX1_houseIn_l2_ok {G : GD} {X : CX} {n : Nat} {Q : Av → Nat → Hp → Prop} (hC : Cx G X RX1 cX1_houseIn) (hZ : ZOK X G Q 0 0) (hRm : X.R = rmd 0 0 0) (hbt : X.bt = true) (hr : X.meth.sig.returnType = (some .int)) {x0 : Int} {x1 : Int} {h : Hp} : ∀ (f : Nat) (x2 : Int) (r : (Unit) ⊕ (Int)), it_ (fun s => fX1_houseIn_l2 x0 x1 s h) f x2 = some r → (r = (.inl ()) → AW G X 28 [(9, 0), (9, 0), (9, 0)] [] n h 0 0) → (∀ (x9 : Int), r = .inr x9 → Q (0, x9) n h) → AW G X 2 [(2, x0), (0, x1), (0, x2)] [] n h 0 0 := by
  intro f
  induction f with
  | zero => intro x2 r hI; cases hI
  | succ f ih0 =>
    intro x2 r hI hX hRet9
    obtain ⟨b, hF, hb1, hb2⟩ := it_succ hI
    have hF : fX1_houseIn_l2 x0 x1 x2 h = some b := hF
    have hRet : ∀ (x9 : Int), b = .inr (.inr x9) → Q (0, x9) n h := fun x9 e => hRet9 x9 (hb2 _ e).symm
    unfold fX1_houseIn_l2 at hF
    refine aw_iload_n hC dX1_houseIn_2 rfl ?_
    refine aw_aload_n hC dX1_houseIn_3 rfl ?_
    obtain ⟨k1, hF⟩ := gd_some hF
    refine aw_gLi (k := 3) hC hbt k1 dX1_houseIn_4 lkRX1_43 (by decide) rfl ?_
    refine aw_icmp_ge (tgt := 28) hC dX1_houseIn_7 (by decide) (fun c2 => ?_) (fun c2 => ?_)
    · have hF := it_t hF c2
      refine aw_weak (ls' := [(9, 0), (9, 0), (9, 0)]) ⟨Or.inl rfl, Or.inl rfl, Or.inl rfl, trivial⟩ ?_
      exact hX (hb2 _ (Option.some.inj hF).symm).symm
    · have hF := it_f hF c2
      refine aw_aload_n hC dX1_houseIn_10 rfl ?_
      refine aw_gL2 hC hbt k1 dX1_houseIn_11 lkRX1_22 ?_
      refine aw_iload_n hC dX1_houseIn_14 rfl ?_
      obtain ⟨g3, hF⟩ := gd_some hF
      refine aw_iaload (a := (Int.toNat (x0 + 2))) hC dX1_houseIn_15 (lnd2 k1).1 (lnd2 k1).2.1 (Or.inl ⟨hbt, (lnd2 k1).2.2⟩) g3.1 g3.2 ?_
      refine aw_iload_n hC dX1_houseIn_16 rfl ?_
      refine aw_icmp_ne (tgt := 22) hC dX1_houseIn_17 (by decide) (fun c4 => ?_) (fun c4 => ?_)
      · have hF := it_f hF c4
        refine aw_iinc2 hC dX1_houseIn_22 rfl ?_
        refine aw_goto (tgt := 2) hC dX1_houseIn_25 (by decide) ?_
        exact ih0 _ r (hb1 _ (Option.some.inj hF).symm) hX hRet9
      · have hF := it_t hF c4
        refine aw_iload_n hC dX1_houseIn_20 rfl ?_
        exact aw_ireturn hC hZ (Nat.zero_le _) (Nat.zero_le _) hr dX1_houseIn_21 (hRet _ (Option.some.inj hF).symm)
theorem ok_X1_houseIn {G : GD} {n : Nat} {L0 : Int} {x1 : Int} {h : Hp} {res : Int} (hF : fX1_houseIn L0 x1 h = some res) : Con G yX1_houseIn cX1_houseIn 3 (some .int) 0 0 0 true [(2, L0), (0, x1)] n h (FQ 0 n (res, h)) := by
  refine con_of (pad := 1) (own := RX1) (plainFor_of_name (by decide)) rfl rfl ?_
  intro X hC hbt hr hnm hZ hRm hn0
  have hK : ∀ (x9 : Int), res = x9 → FQ 0 n (res, h) (0, x9) n h := fun x9 e => by subst e; exact ⟨rfl, rfl, rfl⟩
  unfold fX1_houseIn at hF
  show AW G X 0 [(2, L0), (0, x1), (9, 0)] [] n h 0 0
  refine aw_iconst hC dX1_houseIn_0 (by decide) ?_
  refine aw_istore2 hC dX1_houseIn_1 rfl ?_
  obtain ⟨e6, he, hF⟩ := bp_some hF
  refine fX1_houseIn_l2_ok hC hZ hRm hbt hr FU _ e6 he (fun er => ?_) (fun x9 e => by subst e; exact hK _ (Option.some.inj hF).symm)
  replace er := er.symm
  subst er
  try dsimp only at hF
  refine aw_iconst hC dX1_houseIn_28 (by decide) ?_
  exact aw_ireturn hC hZ (Nat.zero_le _) (Nat.zero_le _) hr dX1_houseIn_29 (hK _ (Option.some.inj hF).symm)
def fX5_hasBit (x0 : Int) (x2 : Int) (h : Hp) : Option (Int) :=
  (if (l_cmp ((l_and ((l_ushr x0 x2)) 1)) 0) = 0 then some 0 else some 1)
theorem ok_X5_hasBit {G : GD} {n : Nat} {x0 : Int} {x2 : Int} {h : Hp} {res : Int} (hF : fX5_hasBit x0 x2 h = some res) : Con G yX5_hasBit cX5_hasBit 3 (some .boolean) 0 0 0 true [(1, x0), (0, x2)] n h (FQ 0 n (res, h)) := by
  refine con_of (pad := 0) (own := RX5) (plainFor_of_name (by decide)) rfl rfl ?_
  intro X hC hbt hr hnm hZ hRm hn0
  have hK : ∀ (x9 : Int), res = x9 → FQ 0 n (res, h) (0, x9) n h := fun x9 e => by subst e; exact ⟨rfl, rfl, rfl⟩
  unfold fX5_hasBit at hF
  show AW G X 0 [(1, x0), (9, 0), (0, x2)] [] n h 0 0
  refine aw_lload_n hC dX5_hasBit_0 rfl ?_
  refine aw_iload_n hC dX5_hasBit_1 rfl ?_
  refine aw_lushr hC dX5_hasBit_2 ?_
  refine aw_lconst (v := 1) hC dX5_hasBit_3 (by decide) (by decide) ?_
  refine aw_land hC dX5_hasBit_4 ?_
  refine aw_lconst (v := 0) hC dX5_hasBit_5 (by decide) (by decide) ?_
  refine aw_lcmp hC dX5_hasBit_6 ?_
  refine aw_if_eq (tgt := 14) hC dX5_hasBit_7 (by decide) (fun c1 => ?_) (fun c1 => ?_)
  · have hF := it_t hF c1
    refine aw_iconst hC dX5_hasBit_14 (by decide) ?_
    exact aw_zreturn hC hZ (Nat.zero_le _) (Nat.zero_le _) hr rfl dX5_hasBit_15 (by decide) (hK _ (Option.some.inj hF).symm)
  · have hF := it_f hF c1
    refine aw_iconst hC dX5_hasBit_10 (by decide) ?_
    refine aw_goto (tgt := 15) hC dX5_hasBit_11 (by decide) ?_
    exact aw_zreturn hC hZ (Nat.zero_le _) (Nat.zero_le _) hr rfl dX5_hasBit_15 (by decide) (hK _ (Option.some.inj hF).symm)
def fX5_treeIn_21_l2 (x1 : Int) (x2 : Int) (h : Hp) : Option ((Int) ⊕ ((Unit) ⊕ (Int))) :=
  (if 12 ≤ x2 then some (.inr (.inl ())) else gd_ (0 ≤ (i_add 0 x2) ∧ (i_add 0 x2) < 62) ((if (h 21 (Int.toNat ((i_add 0 x2)))) = x1 then some (.inr (.inr x2)) else some (.inl (i_add x2 1)))))
def fX5_treeIn_21 (x1 : Int) (h : Hp) : Option (Int) :=
  bp_ (it_ (fun s => fX5_treeIn_21_l2 x1 s h) FU 0) (fun e5 => match e5 with | .inl e5 => some ((-1)) | .inr q9 => some q9)
theorem fX5_treeIn_21_l2_ok {G : GD} {X : CX} {n : Nat} {Q : Av → Nat → Hp → Prop} (hC : Cx G X RX5 cX5_treeIn) (hZ : ZOK X G Q 0 0) (hRm : X.R = rmd 0 0 0) (hbt : X.bt = true) (hr : X.meth.sig.returnType = (some .int)) {x1 : Int} {h : Hp} : ∀ (f : Nat) (x2 : Int) (r : (Unit) ⊕ (Int)), it_ (fun s => fX5_treeIn_21_l2 x1 s h) f x2 = some r → (r = (.inl ()) → AW G X 25 [(9, 0), (9, 0), (9, 0)] [] n h 0 0) → (∀ (x9 : Int), r = .inr x9 → Q (0, x9) n h) → AW G X 2 [(2, ((21 : Nat) : Int)), (0, x1), (0, x2)] [] n h 0 0 := by
  intro f
  induction f with
  | zero => intro x2 r hI; cases hI
  | succ f ih0 =>
    intro x2 r hI hX hRet9
    obtain ⟨b, hF, hb1, hb2⟩ := it_succ hI
    have hF : fX5_treeIn_21_l2 x1 x2 h = some b := hF
    have hRet : ∀ (x9 : Int), b = .inr (.inr x9) → Q (0, x9) n h := fun x9 e => hRet9 x9 (hb2 _ e).symm
    unfold fX5_treeIn_21_l2 at hF
    refine aw_iload_n hC dX5_treeIn_2 rfl ?_
    refine aw_bipush hC dX5_treeIn_3 (by decide) (by decide) ?_
    refine aw_icmp_ge (tgt := 25) hC dX5_treeIn_5 (by decide) (fun c1 => ?_) (fun c1 => ?_)
    · have hF := it_t hF c1
      refine aw_weak (ls' := [(9, 0), (9, 0), (9, 0)]) ⟨Or.inl rfl, Or.inl rfl, Or.inl rfl, trivial⟩ ?_
      exact hX (hb2 _ (Option.some.inj hF).symm).symm
    · have hF := it_f hF c1
      refine aw_aload_n hC dX5_treeIn_8 rfl ?_
      refine aw_iconst hC dX5_treeIn_9 (by decide) ?_
      refine aw_iload_n hC dX5_treeIn_10 rfl ?_
      refine aw_iadd hC dX5_treeIn_11 ?_
      obtain ⟨g2, hF⟩ := gd_some hF
      refine aw_iaload (a := 21) hC dX5_treeIn_12 rfl rfl (Or.inl ⟨hbt, by decide⟩) g2.1 g2.2 ?_
      refine aw_iload_n hC dX5_treeIn_13 rfl ?_
      refine aw_icmp_ne (tgt := 19) hC dX5_treeIn_14 (by decide) (fun c3 => ?_) (fun c3 => ?_)
      · have hF := it_f hF c3
        refine aw_iinc2 hC dX5_treeIn_19 rfl ?_
        refine aw_goto (tgt := 2) hC dX5_treeIn_22 (by decide) ?_
        exact ih0 _ r (hb1 _ (Option.some.inj hF).symm) hX hRet9
      · have hF := it_t hF c3
        refine aw_iload_n hC dX5_treeIn_17 rfl ?_
        exact aw_ireturn hC hZ (Nat.zero_le _) (Nat.zero_le _) hr dX5_treeIn_18 (hRet _ (Option.some.inj hF).symm)
theorem ok_X5_treeIn_21 {G : GD} {n : Nat} {x1 : Int} {h : Hp} {res : Int} (hF : fX5_treeIn_21 x1 h = some res) : Con G yX5_treeIn cX5_treeIn 3 (some .int) 0 0 0 true [(2, ((21 : Nat) : Int)), (0, x1)] n h (FQ 0 n (res, h)) := by
  refine con_of (pad := 1) (own := RX5) (plainFor_of_name (by decide)) rfl rfl ?_
  intro X hC hbt hr hnm hZ hRm hn0
  have hK : ∀ (x9 : Int), res = x9 → FQ 0 n (res, h) (0, x9) n h := fun x9 e => by subst e; exact ⟨rfl, rfl, rfl⟩
  unfold fX5_treeIn_21 at hF
  show AW G X 0 [(2, ((21 : Nat) : Int)), (0, x1), (9, 0)] [] n h 0 0
  refine aw_iconst hC dX5_treeIn_0 (by decide) ?_
  refine aw_istore2 hC dX5_treeIn_1 rfl ?_
  obtain ⟨e5, he, hF⟩ := bp_some hF
  refine fX5_treeIn_21_l2_ok hC hZ hRm hbt hr FU _ e5 he (fun er => ?_) (fun x9 e => by subst e; exact hK _ (Option.some.inj hF).symm)
  replace er := er.symm
  subst er
  try dsimp only at hF
  refine aw_iconst hC dX5_treeIn_25 (by decide) ?_
  exact aw_ireturn hC hZ (Nat.zero_le _) (Nat.zero_le _) hr dX5_treeIn_26 (hK _ (Option.some.inj hF).symm)
def fX4_stepsBetween (x1 : Int) (x2 : Int) (h : Hp) : Option (Int) :=
  gd_ ((h 31 0) = 1 ∨ (h 31 0) = 9) (lb_ ((h (Int.toNat ((h 31 0))) 0)) (fun v2 => (if 1 ≤ v2 then gd_ (v2 ≠ 0) (gd_ (v2 ≠ 0) (bp_ (fJ9_abs_0f7a4 ((i_sub ((i_rem x1 v2)) ((i_rem x2 v2)))) h) (fun r6 => gd_ (v2 ≠ 0) (gd_ (v2 ≠ 0) (bp_ (fJ9_abs_0f7a4 ((i_sub ((i_div x1 v2)) ((i_div x2 v2)))) h) (fun r10 => bp_ (fJ9_max_7cf53 r6 r10 h) (fun r12 => some r12))))))) else some 0)))
theorem ok_X4_stepsBetween {G : GD} {n : Nat} {x1 : Int} {x2 : Int} {h : Hp} {res : Int} (hF : fX4_stepsBetween x1 x2 h = some res) : Con G yX4_stepsBetween cX4_stepsBetween 4 (some .int) 1 0 0 true [(2, ((31 : Nat) : Int)), (0, x1), (0, x2)] n h (FQ 0 n (res, h)) := by
  refine con_of (pad := 1) (own := RX4) (plainFor_of_name (by decide)) rfl rfl ?_
  intro X hC hbt hr hnm hZ hRm hn0
  have hK : ∀ (x9 : Int), res = x9 → FQ 0 n (res, h) (0, x9) n h := fun x9 e => by subst e; exact ⟨rfl, rfl, rfl⟩
  unfold fX4_stepsBetween at hF
  show AW G X 0 [(2, ((31 : Nat) : Int)), (0, x1), (0, x2), (9, 0)] [] n h 0 0
  refine aw_aload_n hC dX4_stepsBetween_0 rfl ?_
  refine aw_g4r (k := 0) (a := 31) hC dX4_stepsBetween_1 lkRX4_18 (by decide) rfl rfl rfl (Or.inl ⟨hbt, by decide⟩) ?_
  obtain ⟨k1, hF⟩ := gd_some hF
  refine aw_gLiN (k := 0) hC hbt k1 dX4_stepsBetween_4 lkRX4_55 (by decide) rfl ?_
  obtain ⟨v2, ev2, hF⟩ := lb_some hF
  refine aw_eqT ev2 ?_
  clear ev2
  refine aw_istore3 hC dX4_stepsBetween_7 rfl ?_
  refine aw_iload_n hC dX4_stepsBetween_8 rfl ?_
  refine aw_iconst hC dX4_stepsBetween_9 (by decide) ?_
  refine aw_icmp_ge (tgt := 15) hC dX4_stepsBetween_10 (by decide) (fun c3 => ?_) (fun c3 => ?_)
  · have hF := it_t hF c3
    refine aw_iload_n hC dX4_stepsBetween_15 rfl ?_
    refine aw_iload_n hC dX4_stepsBetween_16 rfl ?_
    obtain ⟨g4, hF⟩ := gd_some hF
    refine aw_irem hC dX4_stepsBetween_17 g4 ?_
    refine aw_iload_n hC dX4_stepsBetween_18 rfl ?_
    refine aw_iload_n hC dX4_stepsBetween_19 rfl ?_
    obtain ⟨g5, hF⟩ := gd_some hF
    refine aw_irem hC dX4_stepsBetween_20 g5 ?_
    refine aw_isub hC dX4_stepsBetween_21 ?_
    obtain ⟨r6, q7, hF⟩ := bp_some hF
    refine clRX4_58 hC hRm hbt dX4_stepsBetween_22 (Nat.le_of_ble_eq_true rfl) (Nat.le_of_ble_eq_true rfl) (ok_J9_abs_0f7a4 q7) ?_
    refine aw_iload_n hC dX4_stepsBetween_25 rfl ?_
    refine aw_iload_n hC dX4_stepsBetween_26 rfl ?_
    obtain ⟨g8, hF⟩ := gd_some hF
    refine aw_idiv hC dX4_stepsBetween_27 g8 ?_
    refine aw_iload_n hC dX4_stepsBetween_28 rfl ?_
    refine aw_iload_n hC dX4_stepsBetween_29 rfl ?_
    obtain ⟨g9, hF⟩ := gd_some hF
    refine aw_idiv hC dX4_stepsBetween_30 g9 ?_
    refine aw_isub hC dX4_stepsBetween_31 ?_
    obtain ⟨r10, q11, hF⟩ := bp_some hF
    refine clRX4_58 hC hRm hbt dX4_stepsBetween_32 (Nat.le_of_ble_eq_true rfl) (Nat.le_of_ble_eq_true rfl) (ok_J9_abs_0f7a4 q11) ?_
    obtain ⟨r12, q13, hF⟩ := bp_some hF
    refine clRX4_64 hC hRm hbt dX4_stepsBetween_35 (Nat.le_of_ble_eq_true rfl) (Nat.le_of_ble_eq_true rfl) (ok_J9_max_7cf53 q13) ?_
    exact aw_ireturn hC hZ (Nat.zero_le _) (Nat.zero_le _) hr dX4_stepsBetween_38 (hK _ (Option.some.inj hF).symm)
  · have hF := it_f hF c3
    refine aw_iconst hC dX4_stepsBetween_13 (by decide) ?_
    exact aw_ireturn hC hZ (Nat.zero_le _) (Nat.zero_le _) hr dX4_stepsBetween_14 (hK _ (Option.some.inj hF).symm)
def fX4_goOn_l52 (rec : Int → Int → Int → Int → Hp → Option (Int × Hp)) (x1 : Int) (x2 : Int) (x3 : Int) (x4 : Int) (x5 : Int) (h : Hp) : Option ((Int × Hp) ⊕ (Hp)) :=
  gd_ ((h 31 0) = 1 ∨ (h 31 0) = 9) ((if (h (Int.toNat ((h 31 0))) 3) ≤ x5 then some (.inr h) else bp_ (fX5_hasBit x3 x5 h) (fun r7 => (if r7 = 0 then gd_ (0 ≤ x5 ∧ x5 < 6) (lb_ ((h (Int.toNat ((h 31 0) + 2)) (Int.toNat x5))) (fun v12 => gd_ (0 ≤ x4 ∧ x4 < 6) (lb_ (st h 33 (Int.toNat x4) x5) (fun h14 => bp_ (fX4_stepsBetween x1 v12 h14) (fun r15 => bd_ (rec v12 ((i_add x2 r15)) ((i_or x3 ((i_shl 1 x5)))) ((i_add x4 1)) h14) (fun r17 h19 => some (.inl ((i_add x5 1), h19)))))))) else some (.inl ((i_add x5 1), h))))))
def fX4_goOn : Nat → Int → Int → Int → Int → Hp → Option (Int × Hp)
  | 0, _, _, _, _, _ => none
  | k + 1, x1, x2, x3, x4, h => (if (h 31 4) ≤ x2 then some (0, h) else (if x4 ≤ 6 then gd_ ((h 31 0) = 1 ∨ (h 31 0) = 9) ((if x4 = (h (Int.toNat ((h 31 0))) 3) then lb_ (st h 31 4 x2) (fun h23 => gd_ (0 ≤ (0 : Int) ∧ 0 ≤ (0 : Int) ∧ 0 ≤ (6 : Int) ∧ (0 : Int) + 6 ≤ ((6 : Nat) : Int) ∧ (0 : Int) + 6 ≤ ((6 : Nat) : Int)) (lb_ (cpy h23 33 32 (Int.toNat 0) (Int.toNat 0) (Int.toNat 6)) (fun h25 => some (0, h25)))) else bp_ (it_ (fun s => fX4_goOn_l52 (fX4_goOn k) x1 x2 x3 x4 s.1 s.2) FU (0, h)) (fun e21 => (fun h22 => some (0, h22)) e21))) else some (0, h)))
theorem fX4_goOn_l52_ok {D : Nat} {G : GD} {X : CX} {n : Nat} {Q : Av → Nat → Hp → Prop} (hC : Cx G X RX4 cX4_goOn) (hZ : ZOK X G Q 0 0) (hRm : X.R = rmd (D + 2) 0 0) (hbt : X.bt = true) (hr : X.meth.sig.returnType = none) {rec : Int → Int → Int → Int → Hp → Option (Int × Hp)} (hrec : ∀ a b c d h res, rec a b c d h = some res → ∀ n, Con G yX4_goOn cX4_goOn 7 none (D + 1) 0 0 true [(2, ((31 : Nat) : Int)), (0, a), (0, b), (0, c), (0, d)] n h (FQ 8 n res)) {x1 : Int} {x2 : Int} {x3 : Int} {x4 : Int} : ∀ (f : Nat) (x5 : Int) (h : Hp) (r : Hp), it_ (fun s => fX4_goOn_l52 rec x1 x2 x3 x4 s.1 s.2) f (x5, h) = some r → (∀ (h9 : Hp), r = h9 → AW G X 126 [(9, 0), (9, 0), (9, 0), (9, 0), (9, 0), (9, 0), (9, 0)] [] n h9 0 0) → AW G X 52 [(2, ((31 : Nat) : Int)), (0, x1), (0, x2), (0, x3), (0, x4), (0, x5), (9, 0)] [] n h 0 0 := by
  intro f
  induction f with
  | zero => intro x5 h r hI; cases hI
  | succ f ih0 =>
    intro x5 h r hI hX
    obtain ⟨b, hF, hb1, hb2⟩ := it_succ hI
    have hF : fX4_goOn_l52 rec x1 x2 x3 x4 x5 h = some b := hF
    unfold fX4_goOn_l52 at hF
    refine aw_iload hC dX4_goOn_52 rfl ?_
    refine aw_aload_n hC dX4_goOn_54 rfl ?_
    refine aw_g4r (k := 0) (a := 31) hC dX4_goOn_55 lkRX4_18 (by decide) rfl rfl rfl (Or.inl ⟨hbt, by decide⟩) ?_
    obtain ⟨k5, hF⟩ := gd_some hF
    refine aw_gLiN (k := 3) hC hbt k5 dX4_goOn_58 lkRX4_26 (by decide) rfl ?_
    refine aw_icmp_ge (tgt := 126) hC dX4_goOn_61 (by decide) (fun c6 => ?_) (fun c6 => ?_)
    · have hF := it_t hF c6
      refine aw_weak (ls' := [(9, 0), (9, 0), (9, 0), (9, 0), (9, 0), (9, 0), (9, 0)]) ⟨Or.inl rfl, Or.inl rfl, Or.inl rfl, Or.inl rfl, Or.inl rfl, Or.inl rfl, Or.inl rfl, trivial⟩ ?_
      exact hX _ (hb2 _ (Option.some.inj hF).symm).symm
    · have hF := it_f hF c6
      refine aw_iload_n hC dX4_goOn_64 rfl ?_
      refine aw_i2l hC dX4_goOn_65 ?_
      refine aw_iload hC dX4_goOn_66 rfl ?_
      obtain ⟨r7, q8, hF⟩ := bp_some hF
      refine clRX4_44 hC hRm hbt dX4_goOn_68 (by omega) (Nat.le_of_ble_eq_true rfl) (ok_X5_hasBit q8) ?_
      refine aw_if_ne (tgt := 120) hC dX4_goOn_71 (by decide) (fun c9 => ?_) (fun c9 => ?_)
      · have hF := it_f hF c9
        refine aw_iinc5 hC dX4_goOn_120 rfl ?_
        refine aw_goto (tgt := 52) hC dX4_goOn_123 (by decide) ?_
        exact ih0 _ _ r (hb1 _ (Option.some.inj hF).symm) hX
      · have hF := it_t hF c9
        refine aw_aload_n hC dX4_goOn_74 rfl ?_
        refine aw_g4r (k := 0) (a := 31) hC dX4_goOn_75 lkRX4_18 (by decide) rfl rfl rfl (Or.inl ⟨hbt, by decide⟩) ?_
        refine aw_gL2N hC hbt k5 dX4_goOn_78 lkRX4_48 ?_
        refine aw_iload hC dX4_goOn_81 rfl ?_
        obtain ⟨g11, hF⟩ := gd_some hF
        refine aw_iaload (a := (Int.toNat ((h 31 0) + 2))) hC dX4_goOn_83 (lnd2 k5).1 (lnd2 k5).2.1 (Or.inl ⟨hbt, (lnd2 k5).2.2⟩) g11.1 g11.2 ?_
        obtain ⟨v12, ev12, hF⟩ := lb_some hF
        refine aw_eqT ev12 ?_
        clear ev12
        refine aw_istore6 hC dX4_goOn_84 rfl ?_
        refine aw_aload_n hC dX4_goOn_86 rfl ?_
        refine aw_gc4 (k := 2) (a := 31) (b := 33) hC hbt dX4_goOn_87 lkRX4_15 (by decide) rfl rfl rfl (by decide) (by decide) ?_
        refine aw_iload hC dX4_goOn_90 rfl ?_
        refine aw_iload hC dX4_goOn_92 rfl ?_
        obtain ⟨g13, hF⟩ := gd_some hF
        obtain ⟨h14, eh14, hF⟩ := lb_some hF
        refine aw_iastore (a := 33) hC dX4_goOn_94 rfl rfl (Or.inl ⟨hbt, by decide⟩) g13.1 g13.2 ?_
        refine aw_eqH eh14 ?_
        clear eh14
        refine aw_aload_n hC dX4_goOn_95 rfl ?_
        refine aw_iload hC dX4_goOn_96 rfl ?_
        refine aw_iload_n hC dX4_goOn_98 rfl ?_
        refine aw_aload_n hC dX4_goOn_99 rfl ?_
        refine aw_iload_n hC dX4_goOn_100 rfl ?_
        refine aw_iload hC dX4_goOn_101 rfl ?_
        obtain ⟨r15, q16, hF⟩ := bp_some hF
        refine clRX4_51 hC hRm hbt dX4_goOn_103 rfl rfl (by decide) (by omega) (Nat.le_of_ble_eq_true rfl) (ok_X4_stepsBetween q16) ?_
        refine aw_iadd hC dX4_goOn_106 ?_
        refine aw_iload_n hC dX4_goOn_107 rfl ?_
        refine aw_iconst hC dX4_goOn_108 (by decide) ?_
        refine aw_iload hC dX4_goOn_109 rfl ?_
        refine aw_ishl hC dX4_goOn_111 ?_
        refine aw_ior hC dX4_goOn_112 ?_
        refine aw_iload hC dX4_goOn_113 rfl ?_
        refine aw_iconst hC dX4_goOn_115 (by decide) ?_
        refine aw_iadd hC dX4_goOn_116 ?_
        obtain ⟨r17, h19, q18, hF⟩ := bd_some hF
        refine clRX4_34 (dep := D + 1) hC hRm hbt dX4_goOn_117 rfl rfl (by decide) (by omega) (Nat.le_of_ble_eq_true rfl) (hrec _ _ _ _ _ _ q18 n) ?_
        refine aw_iinc5 hC dX4_goOn_120 rfl ?_
        refine aw_goto (tgt := 52) hC dX4_goOn_123 (by decide) ?_
        refine aw_weak (ls' := [(2, ((31 : Nat) : Int)), (0, x1), (0, x2), (0, x3), (0, x4), (0, (i_add x5 1)), (9, 0)]) ⟨Or.inr rfl, Or.inr rfl, Or.inr rfl, Or.inr rfl, Or.inr rfl, Or.inr rfl, Or.inl rfl, trivial⟩ ?_
        exact ih0 _ _ r (hb1 _ (Option.some.inj hF).symm) hX
theorem ok_X4_goOn {G : GD} : ∀ (k : Nat) {n : Nat} {x1 : Int} {x2 : Int} {x3 : Int} {x4 : Int} {h : Hp} {res : Int × Hp} (_ : fX4_goOn k x1 x2 x3 x4 h = some res), Con G yX4_goOn cX4_goOn 7 none (k + 1) 0 0 true [(2, ((31 : Nat) : Int)), (0, x1), (0, x2), (0, x3), (0, x4)] n h (FQ 8 n res) 
  | 0, _, _, _, _, _, _, _, hF => by cases hF
  | k + 1, n, x1, x2, x3, x4, h, res, hF => by
    refine con_of (pad := 2) (own := RX4) (plainFor_of_name (by decide)) rfl rfl ?_
    intro X hC hbt hr hnm hZ hRm hn0
    have hK : ∀ (x9 : Int) (h9 : Hp), res = (x9, h9) → FQ 8 n res (8, x9) n h9 := fun x9 h9 e => by subst e; exact ⟨rfl, rfl, rfl⟩
    unfold fX4_goOn at hF
    show AW G X 0 [(2, ((31 : Nat) : Int)), (0, x1), (0, x2), (0, x3), (0, x4), (9, 0), (9, 0)] [] n h 0 0
    refine aw_iload_n hC dX4_goOn_0 rfl ?_
    refine aw_aload_n hC dX4_goOn_1 rfl ?_
    refine aw_g4i (k := 4) (a := 31) hC dX4_goOn_2 lkRX4_22 (by decide) rfl rfl rfl (Or.inl ⟨hbt, by decide⟩) ?_
    refine aw_icmp_ge (tgt := 15) hC dX4_goOn_5 (by decide) (fun c1 => ?_) (fun c1 => ?_)
    · have hF := it_t hF c1
      exact aw_return hC hZ (Nat.zero_le _) (Nat.zero_le _) hr dX4_goOn_15 (hK _ _ (Option.some.inj hF).symm)
    · have hF := it_f hF c1
      refine aw_iload hC dX4_goOn_8 rfl ?_
      refine aw_bipush hC dX4_goOn_10 (by decide) (by decide) ?_
      refine aw_icmp_le (tgt := 16) hC dX4_goOn_12 (by decide) (fun c2 => ?_) (fun c2 => ?_)
      · have hF := it_t hF c2
        refine aw_iload hC dX4_goOn_16 rfl ?_
        refine aw_aload_n hC dX4_goOn_18 rfl ?_
        refine aw_g4r (k := 0) (a := 31) hC dX4_goOn_19 lkRX4_18 (by decide) rfl rfl rfl (Or.inl ⟨hbt, by decide⟩) ?_
        obtain ⟨k3, hF⟩ := gd_some hF
        refine aw_gLiN (k := 3) hC hbt k3 dX4_goOn_22 lkRX4_26 (by decide) rfl ?_
        refine aw_icmp_ne (tgt := 49) hC dX4_goOn_25 (by decide) (fun c4 => ?_) (fun c4 => ?_)
        · have hF := it_f hF c4
          refine aw_iconst hC dX4_goOn_49 (by decide) ?_
          refine aw_istore5 hC dX4_goOn_50 rfl ?_
          obtain ⟨e21, he, hF⟩ := bp_some hF
          refine fX4_goOn_l52_ok (D := k) (rec := fX4_goOn k) hC hZ hRm hbt hr (fun _ _ _ _ _ _ q n => ok_X4_goOn k q) FU _ _ e21 he (fun h22 er => ?_)
          replace er := er.symm
          subst er
          try dsimp only at hF
          exact aw_return hC hZ (Nat.zero_le _) (Nat.zero_le _) hr dX4_goOn_126 (hK _ _ (Option.some.inj hF).symm)
        · have hF := it_t hF c4
          refine aw_aload_n hC dX4_goOn_28 rfl ?_
          refine aw_iload_n hC dX4_goOn_29 rfl ?_
          obtain ⟨h23, eh23, hF⟩ := lb_some hF
          refine aw_p4i (k := 4) (a := 31) hC dX4_goOn_30 lkRX4_22 (by decide) rfl rfl rfl rfl rfl (Or.inl ⟨hbt, by decide⟩) (fun _ => by decide) ?_
          refine aw_eqH eh23 ?_
          clear eh23
          refine aw_aload_n hC dX4_goOn_33 rfl ?_
          refine aw_gc4 (k := 2) (a := 31) (b := 33) hC hbt dX4_goOn_34 lkRX4_15 (by decide) rfl rfl rfl (by decide) (by decide) ?_
          refine aw_iconst hC dX4_goOn_37 (by decide) ?_
          refine aw_aload_n hC dX4_goOn_38 rfl ?_
          refine aw_gc4 (k := 1) (a := 31) (b := 32) hC hbt dX4_goOn_39 lkRX4_9 (by decide) rfl rfl rfl (by decide) (by decide) ?_
          refine aw_iconst hC dX4_goOn_42 (by decide) ?_
          refine aw_bipush hC dX4_goOn_43 (by decide) (by decide) ?_
          obtain ⟨g24, hF⟩ := gd_some hF
          obtain ⟨h25, eh25, hF⟩ := lb_some hF
          refine aw_copyi (a0 := 33) (a1 := 32) hC hRm (by omega) dX4_goOn_45 cplRX4_38 rfl rfl rfl rfl (Or.inl ⟨hbt, by decide⟩) (Or.inl ⟨hbt, by decide⟩) g24 (Nat.le_of_ble_eq_true rfl) ?_
          refine aw_eqH eh25 ?_
          clear eh25
          exact aw_return hC hZ (Nat.zero_le _) (Nat.zero_le _) hr dX4_goOn_48 (hK _ _ (Option.some.inj hF).symm)
      · have hF := it_f hF c2
        exact aw_return hC hZ (Nat.zero_le _) (Nat.zero_le _) hr dX4_goOn_15 (hK _ _ (Option.some.inj hF).symm)
def fX4_find (x1 : Int) (x2 : Int) (h : Hp) : Option (Int × Hp) :=
  lb_ (st h 31 0 x1) (fun h1 => lb_ (st h1 31 4 1000) (fun h2 => gd_ (x1 = 1 ∨ x1 = 9) (lb_ (st h2 31 3 ((h2 (Int.toNat x1) 3))) (fun h4 => bd_ (fX4_goOn 8 x2 0 0 0 h4) (fun r5 h7 => some ((h7 31 4), h7))))))
theorem ok_X4_find {G : GD} {n : Nat} {x1 : Int} {x2 : Int} {h : Hp} {res : Int × Hp} (hF : fX4_find x1 x2 h = some res) : Con G yX4_find cX4_find 3 (some .int) 10 0 0 true [(2, ((31 : Nat) : Int)), (2, x1), (0, x2)] n h (FQ 0 n res) := by
  refine con_of (pad := 0) (own := RX4) (plainFor_of_name (by decide)) rfl rfl ?_
  intro X hC hbt hr hnm hZ hRm hn0
  have hK : ∀ (x9 : Int) (h9 : Hp), res = (x9, h9) → FQ 0 n res (0, x9) n h9 := fun x9 h9 e => by subst e; exact ⟨rfl, rfl, rfl⟩
  unfold fX4_find at hF
  show AW G X 0 [(2, ((31 : Nat) : Int)), (2, x1), (0, x2)] [] n h 0 0
  refine aw_aload_n hC dX4_find_0 rfl ?_
  refine aw_aload_n hC dX4_find_1 rfl ?_
  obtain ⟨h1, eh1, hF⟩ := lb_some hF
  refine aw_p4r (k := 0) (a := 31) hC dX4_find_2 lkRX4_18 (by decide) rfl rfl rfl rfl (Or.inl ⟨_, rfl⟩) (Or.inl ⟨hbt, by decide⟩) (fun _ => by decide) ?_
  refine aw_eqH eh1 ?_
  clear eh1
  refine aw_aload_n hC dX4_find_5 rfl ?_
  refine aw_sipush hC dX4_find_6 (by decide) (by decide) ?_
  obtain ⟨h2, eh2, hF⟩ := lb_some hF
  refine aw_p4i (k := 4) (a := 31) hC dX4_find_9 lkRX4_22 (by decide) rfl rfl rfl rfl rfl (Or.inl ⟨hbt, by decide⟩) (fun _ => by decide) ?_
  refine aw_eqH eh2 ?_
  clear eh2
  refine aw_aload_n hC dX4_find_12 rfl ?_
  refine aw_aload_n hC dX4_find_13 rfl ?_
  obtain ⟨k3, hF⟩ := gd_some hF
  refine aw_gLiN (k := 3) hC hbt k3 dX4_find_14 lkRX4_26 (by decide) rfl ?_
  obtain ⟨h4, eh4, hF⟩ := lb_some hF
  refine aw_p4i (k := 3) (a := 31) hC dX4_find_17 lkRX4_31 (by decide) rfl rfl rfl rfl rfl (Or.inl ⟨hbt, by decide⟩) (fun _ => by decide) ?_
  refine aw_eqH eh4 ?_
  clear eh4
  refine aw_aload_n hC dX4_find_20 rfl ?_
  refine aw_iload_n hC dX4_find_21 rfl ?_
  refine aw_iconst hC dX4_find_22 (by decide) ?_
  refine aw_iconst hC dX4_find_23 (by decide) ?_
  refine aw_iconst hC dX4_find_24 (by decide) ?_
  obtain ⟨r5, h7, q6, hF⟩ := bd_some hF
  refine clRX4_34 hC hRm hbt dX4_find_25 rfl rfl (by decide) (Nat.le_of_ble_eq_true rfl) (Nat.le_of_ble_eq_true rfl) (ok_X4_goOn 8 q6) ?_
  refine aw_aload_n hC dX4_find_28 rfl ?_
  refine aw_g4i (k := 4) (a := 31) hC dX4_find_29 lkRX4_22 (by decide) rfl rfl rfl (Or.inl ⟨hbt, by decide⟩) ?_
  exact aw_ireturn hC hZ (Nat.zero_le _) (Nat.zero_le _) hr dX4_find_32 (hK _ _ (Option.some.inj hF).symm)
def fX5_treeIn_27_l2 (x1 : Int) (x2 : Int) (h : Hp) : Option ((Int) ⊕ ((Unit) ⊕ (Int))) :=
  (if 12 ≤ x2 then some (.inr (.inl ())) else gd_ (0 ≤ (i_add 0 x2) ∧ (i_add 0 x2) < 62) ((if (h 27 (Int.toNat ((i_add 0 x2)))) = x1 then some (.inr (.inr x2)) else some (.inl (i_add x2 1)))))
def fX5_treeIn_27 (x1 : Int) (h : Hp) : Option (Int) :=
  bp_ (it_ (fun s => fX5_treeIn_27_l2 x1 s h) FU 0) (fun e5 => match e5 with | .inl e5 => some ((-1)) | .inr q9 => some q9)
theorem fX5_treeIn_27_l2_ok {G : GD} {X : CX} {n : Nat} {Q : Av → Nat → Hp → Prop} (hC : Cx G X RX5 cX5_treeIn) (hZ : ZOK X G Q 0 0) (hRm : X.R = rmd 0 0 0) (hbt : X.bt = true) (hr : X.meth.sig.returnType = (some .int)) {x1 : Int} {h : Hp} : ∀ (f : Nat) (x2 : Int) (r : (Unit) ⊕ (Int)), it_ (fun s => fX5_treeIn_27_l2 x1 s h) f x2 = some r → (r = (.inl ()) → AW G X 25 [(9, 0), (9, 0), (9, 0)] [] n h 0 0) → (∀ (x9 : Int), r = .inr x9 → Q (0, x9) n h) → AW G X 2 [(2, ((27 : Nat) : Int)), (0, x1), (0, x2)] [] n h 0 0 := by
  intro f
  induction f with
  | zero => intro x2 r hI; cases hI
  | succ f ih0 =>
    intro x2 r hI hX hRet9
    obtain ⟨b, hF, hb1, hb2⟩ := it_succ hI
    have hF : fX5_treeIn_27_l2 x1 x2 h = some b := hF
    have hRet : ∀ (x9 : Int), b = .inr (.inr x9) → Q (0, x9) n h := fun x9 e => hRet9 x9 (hb2 _ e).symm
    unfold fX5_treeIn_27_l2 at hF
    refine aw_iload_n hC dX5_treeIn_2 rfl ?_
    refine aw_bipush hC dX5_treeIn_3 (by decide) (by decide) ?_
    refine aw_icmp_ge (tgt := 25) hC dX5_treeIn_5 (by decide) (fun c1 => ?_) (fun c1 => ?_)
    · have hF := it_t hF c1
      refine aw_weak (ls' := [(9, 0), (9, 0), (9, 0)]) ⟨Or.inl rfl, Or.inl rfl, Or.inl rfl, trivial⟩ ?_
      exact hX (hb2 _ (Option.some.inj hF).symm).symm
    · have hF := it_f hF c1
      refine aw_aload_n hC dX5_treeIn_8 rfl ?_
      refine aw_iconst hC dX5_treeIn_9 (by decide) ?_
      refine aw_iload_n hC dX5_treeIn_10 rfl ?_
      refine aw_iadd hC dX5_treeIn_11 ?_
      obtain ⟨g2, hF⟩ := gd_some hF
      refine aw_iaload (a := 27) hC dX5_treeIn_12 rfl rfl (Or.inl ⟨hbt, by decide⟩) g2.1 g2.2 ?_
      refine aw_iload_n hC dX5_treeIn_13 rfl ?_
      refine aw_icmp_ne (tgt := 19) hC dX5_treeIn_14 (by decide) (fun c3 => ?_) (fun c3 => ?_)
      · have hF := it_f hF c3
        refine aw_iinc2 hC dX5_treeIn_19 rfl ?_
        refine aw_goto (tgt := 2) hC dX5_treeIn_22 (by decide) ?_
        exact ih0 _ r (hb1 _ (Option.some.inj hF).symm) hX hRet9
      · have hF := it_t hF c3
        refine aw_iload_n hC dX5_treeIn_17 rfl ?_
        exact aw_ireturn hC hZ (Nat.zero_le _) (Nat.zero_le _) hr dX5_treeIn_18 (hRet _ (Option.some.inj hF).symm)
theorem ok_X5_treeIn_27 {G : GD} {n : Nat} {x1 : Int} {h : Hp} {res : Int} (hF : fX5_treeIn_27 x1 h = some res) : Con G yX5_treeIn cX5_treeIn 3 (some .int) 0 0 0 true [(2, ((27 : Nat) : Int)), (0, x1)] n h (FQ 0 n (res, h)) := by
  refine con_of (pad := 1) (own := RX5) (plainFor_of_name (by decide)) rfl rfl ?_
  intro X hC hbt hr hnm hZ hRm hn0
  have hK : ∀ (x9 : Int), res = x9 → FQ 0 n (res, h) (0, x9) n h := fun x9 e => by subst e; exact ⟨rfl, rfl, rfl⟩
  unfold fX5_treeIn_27 at hF
  show AW G X 0 [(2, ((27 : Nat) : Int)), (0, x1), (9, 0)] [] n h 0 0
  refine aw_iconst hC dX5_treeIn_0 (by decide) ?_
  refine aw_istore2 hC dX5_treeIn_1 rfl ?_
  obtain ⟨e5, he, hF⟩ := bp_some hF
  refine fX5_treeIn_27_l2_ok hC hZ hRm hbt hr FU _ e5 he (fun er => ?_) (fun x9 e => by subst e; exact hK _ (Option.some.inj hF).symm)
  replace er := er.symm
  subst er
  try dsimp only at hF
  refine aw_iconst hC dX5_treeIn_25 (by decide) ?_
  exact aw_ireturn hC hZ (Nat.zero_le _) (Nat.zero_le _) hr dX5_treeIn_26 (hK _ (Option.some.inj hF).symm)
