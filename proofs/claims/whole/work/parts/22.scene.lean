def fX3_raise (x1 : Int) (x2 : Int) (h : Hp) : Option (Int × Hp) :=
  (if x1 < 0 then some (0, h) else (if ((64 : Nat) : Int) ≤ x1 then some (0, h) else gd_ (0 ≤ x1 ∧ x1 < 64) (gd_ (0 ≤ x1 ∧ x1 < 64) (lb_ (st h 23 (Int.toNat x1) ((i_add ((h 23 (Int.toNat x1))) x2))) (fun h5 => some (0, h5))))))
theorem ok_X3_raise {G : GD} {n : Nat} {x1 : Int} {x2 : Int} {h : Hp} {res : Int × Hp} (hF : fX3_raise x1 x2 h = some res) : Con G yX3_raise cX3_raise 3 none 0 0 0 true [(2, ((20 : Nat) : Int)), (0, x1), (0, x2)] n h (FQ 8 n res) := by
  refine con_of (pad := 0) (own := RX3) (plainFor_of_name (by decide)) rfl rfl ?_
  intro X hC hbt hr hnm hZ hRm hn0
  have hK : ∀ (x9 : Int) (h9 : Hp), res = (x9, h9) → FQ 8 n res (8, x9) n h9 := fun x9 h9 e => by subst e; exact ⟨rfl, rfl, rfl⟩
  unfold fX3_raise at hF
  show AW G X 0 [(2, ((20 : Nat) : Int)), (0, x1), (0, x2)] [] n h 0 0
  refine aw_iload_n hC dX3_raise_0 rfl ?_
  refine aw_if_lt (tgt := 23) hC dX3_raise_1 (by decide) (fun c1 => ?_) (fun c1 => ?_)
  · have hF := it_t hF c1
    exact aw_return hC hZ (Nat.zero_le _) (Nat.zero_le _) hr dX3_raise_23 (hK _ _ (Option.some.inj hF).symm)
  · have hF := it_f hF c1
    refine aw_iload_n hC dX3_raise_4 rfl ?_
    refine aw_aload_n hC dX3_raise_5 rfl ?_
    refine aw_gc3 (k := 3) (a := 20) (b := 23) hC hbt dX3_raise_6 lkRX3_18 (by decide) rfl rfl rfl (by decide) (by decide) ?_
    refine aw_alen (a := 23) hC dX3_raise_9 rfl rfl (by decide) (by decide) (Or.inl ⟨hbt, by decide⟩) ?_
    refine aw_icmp_ge (tgt := 23) hC dX3_raise_10 (by decide) (fun c2 => ?_) (fun c2 => ?_)
    · have hF := it_t hF c2
      exact aw_return hC hZ (Nat.zero_le _) (Nat.zero_le _) hr dX3_raise_23 (hK _ _ (Option.some.inj hF).symm)
    · have hF := it_f hF c2
      refine aw_aload_n hC dX3_raise_13 rfl ?_
      refine aw_gc3 (k := 3) (a := 20) (b := 23) hC hbt dX3_raise_14 lkRX3_18 (by decide) rfl rfl rfl (by decide) (by decide) ?_
      refine aw_iload_n hC dX3_raise_17 rfl ?_
      refine aw_dup2 hC dX3_raise_18 (by simp) (by simp) ?_
      obtain ⟨g3, hF⟩ := gd_some hF
      refine aw_iaload (a := 23) hC dX3_raise_19 rfl rfl (Or.inl ⟨hbt, by decide⟩) g3.1 g3.2 ?_
      refine aw_iload_n hC dX3_raise_20 rfl ?_
      refine aw_iadd hC dX3_raise_21 ?_
      obtain ⟨g4, hF⟩ := gd_some hF
      obtain ⟨h5, eh5, hF⟩ := lb_some hF
      refine aw_iastore (a := 23) hC dX3_raise_22 rfl rfl (Or.inl ⟨hbt, by decide⟩) g4.1 g4.2 ?_
      refine aw_eqH eh5 ?_
      clear eh5
      exact aw_return hC hZ (Nat.zero_le _) (Nat.zero_le _) hr dX3_raise_23 (hK _ _ (Option.some.inj hF).symm)
def fX3_reshape (x1 : Int) (x2 : Int) (h : Hp) : Option (Int × Hp) :=
  gd_ (0 ≤ x1 ∧ x1 < 64) (bd_ (fX3_raise x1 ((i_sub x2 ((h 22 (Int.toNat x1))))) h) (fun r2 h4 => gd_ (0 ≤ x1 ∧ x1 < 64) (lb_ (st h4 22 (Int.toNat x1) x2) (fun h6 => some (0, h6)))))
theorem ok_X3_reshape {G : GD} {n : Nat} {x1 : Int} {x2 : Int} {h : Hp} {res : Int × Hp} (hF : fX3_reshape x1 x2 h = some res) : Con G yX3_reshape cX3_reshape 3 none 1 0 0 true [(2, ((20 : Nat) : Int)), (0, x1), (0, x2)] n h (FQ 8 n res) := by
  refine con_of (pad := 0) (own := RX3) (plainFor_of_name (by decide)) rfl rfl ?_
  intro X hC hbt hr hnm hZ hRm hn0
  have hK : ∀ (x9 : Int) (h9 : Hp), res = (x9, h9) → FQ 8 n res (8, x9) n h9 := fun x9 h9 e => by subst e; exact ⟨rfl, rfl, rfl⟩
  unfold fX3_reshape at hF
  show AW G X 0 [(2, ((20 : Nat) : Int)), (0, x1), (0, x2)] [] n h 0 0
  refine aw_aload_n hC dX3_reshape_0 rfl ?_
  refine aw_iload_n hC dX3_reshape_1 rfl ?_
  refine aw_iload_n hC dX3_reshape_2 rfl ?_
  refine aw_aload_n hC dX3_reshape_3 rfl ?_
  refine aw_gc3 (k := 2) (a := 20) (b := 22) hC hbt dX3_reshape_4 lkRX3_15 (by decide) rfl rfl rfl (by decide) (by decide) ?_
  refine aw_iload_n hC dX3_reshape_7 rfl ?_
  obtain ⟨g1, hF⟩ := gd_some hF
  refine aw_iaload (a := 22) hC dX3_reshape_8 rfl rfl (Or.inl ⟨hbt, by decide⟩) g1.1 g1.2 ?_
  refine aw_isub hC dX3_reshape_9 ?_
  obtain ⟨r2, h4, q3, hF⟩ := bd_some hF
  refine clRX3_40 hC hRm hbt dX3_reshape_10 rfl rfl (by decide) (Nat.le_of_ble_eq_true rfl) (Nat.le_of_ble_eq_true rfl) (ok_X3_raise q3) ?_
  refine aw_aload_n hC dX3_reshape_13 rfl ?_
  refine aw_gc3 (k := 2) (a := 20) (b := 22) hC hbt dX3_reshape_14 lkRX3_15 (by decide) rfl rfl rfl (by decide) (by decide) ?_
  refine aw_iload_n hC dX3_reshape_17 rfl ?_
  refine aw_iload_n hC dX3_reshape_18 rfl ?_
  obtain ⟨g5, hF⟩ := gd_some hF
  obtain ⟨h6, eh6, hF⟩ := lb_some hF
  refine aw_iastore (a := 22) hC dX3_reshape_19 rfl rfl (Or.inl ⟨hbt, by decide⟩) g5.1 g5.2 ?_
  refine aw_eqH eh6 ?_
  clear eh6
  exact aw_return hC hZ (Nat.zero_le _) (Nat.zero_le _) hr dX3_reshape_20 (hK _ _ (Option.some.inj hF).symm)
def fX3_dropTree (x1 : Int) (h : Hp) : Option (Int × Hp) :=
  gd_ (0 ≤ (i_add 0 x1) ∧ (i_add 0 x1) < 62) (gd_ (0 ≤ (i_add 12 x1) ∧ (i_add 12 x1) < 62) (bd_ (fX3_raise ((h 21 (Int.toNat ((i_add 0 x1))))) ((i_neg ((h 21 (Int.toNat ((i_add 12 x1))))))) h) (fun r3 h5 => gd_ (0 ≤ (i_add 0 x1) ∧ (i_add 0 x1) < 62) (lb_ (st h5 21 (Int.toNat ((i_add 0 x1))) ((-1))) (fun h7 => some (0, h7))))))
theorem ok_X3_dropTree {G : GD} {n : Nat} {x1 : Int} {h : Hp} {res : Int × Hp} (hF : fX3_dropTree x1 h = some res) : Con G yX3_dropTree cX3_dropTree 2 none 1 0 0 true [(2, ((20 : Nat) : Int)), (0, x1)] n h (FQ 8 n res) := by
  refine con_of (pad := 0) (own := RX3) (plainFor_of_name (by decide)) rfl rfl ?_
  intro X hC hbt hr hnm hZ hRm hn0
  have hK : ∀ (x9 : Int) (h9 : Hp), res = (x9, h9) → FQ 8 n res (8, x9) n h9 := fun x9 h9 e => by subst e; exact ⟨rfl, rfl, rfl⟩
  unfold fX3_dropTree at hF
  show AW G X 0 [(2, ((20 : Nat) : Int)), (0, x1)] [] n h 0 0
  refine aw_aload_n hC dX3_dropTree_0 rfl ?_
  refine aw_aload_n hC dX3_dropTree_1 rfl ?_
  refine aw_gc3 (k := 1) (a := 20) (b := 21) hC hbt dX3_dropTree_2 lkRX3_9 (by decide) rfl rfl rfl (by decide) (by decide) ?_
  refine aw_iconst hC dX3_dropTree_5 (by decide) ?_
  refine aw_iload_n hC dX3_dropTree_6 rfl ?_
  refine aw_iadd hC dX3_dropTree_7 ?_
  obtain ⟨g1, hF⟩ := gd_some hF
  refine aw_iaload (a := 21) hC dX3_dropTree_8 rfl rfl (Or.inl ⟨hbt, by decide⟩) g1.1 g1.2 ?_
  refine aw_aload_n hC dX3_dropTree_9 rfl ?_
  refine aw_gc3 (k := 1) (a := 20) (b := 21) hC hbt dX3_dropTree_10 lkRX3_9 (by decide) rfl rfl rfl (by decide) (by decide) ?_
  refine aw_bipush hC dX3_dropTree_13 (by decide) (by decide) ?_
  refine aw_iload_n hC dX3_dropTree_15 rfl ?_
  refine aw_iadd hC dX3_dropTree_16 ?_
  obtain ⟨g2, hF⟩ := gd_some hF
  refine aw_iaload (a := 21) hC dX3_dropTree_17 rfl rfl (Or.inl ⟨hbt, by decide⟩) g2.1 g2.2 ?_
  refine aw_ineg hC dX3_dropTree_18 ?_
  obtain ⟨r3, h5, q4, hF⟩ := bd_some hF
  refine clRX3_40 hC hRm hbt dX3_dropTree_19 rfl rfl (by decide) (Nat.le_of_ble_eq_true rfl) (Nat.le_of_ble_eq_true rfl) (ok_X3_raise q4) ?_
  refine aw_aload_n hC dX3_dropTree_22 rfl ?_
  refine aw_gc3 (k := 1) (a := 20) (b := 21) hC hbt dX3_dropTree_23 lkRX3_9 (by decide) rfl rfl rfl (by decide) (by decide) ?_
  refine aw_iconst hC dX3_dropTree_26 (by decide) ?_
  refine aw_iload_n hC dX3_dropTree_27 rfl ?_
  refine aw_iadd hC dX3_dropTree_28 ?_
  refine aw_iconst hC dX3_dropTree_29 (by decide) ?_
  obtain ⟨g6, hF⟩ := gd_some hF
  obtain ⟨h7, eh7, hF⟩ := lb_some hF
  refine aw_iastore (a := 21) hC dX3_dropTree_30 rfl rfl (Or.inl ⟨hbt, by decide⟩) g6.1 g6.2 ?_
  refine aw_eqH eh7 ?_
  clear eh7
  exact aw_return hC hZ (Nat.zero_le _) (Nat.zero_le _) hr dX3_dropTree_31 (hK _ _ (Option.some.inj hF).symm)
def fX3_freeCells_l4 (x1 : Int) (x3 : Int) (h : Hp) : Option ((Int × Int) ⊕ (Int)) :=
  gd_ ((h 20 0) = 1 ∨ (h 20 0) = 9) (bp_ (fX1_cells ((h 20 0)) h) (fun r2 => (if r2 ≤ x3 then some (.inr x1) else bp_ (fX5_treeIn_21 x3 h) (fun r5 => (if r5 = (-1) then bp_ (fX1_houseIn ((h 20 0)) x3 h) (fun r9 => (if r9 = (-1) then lb_ ((l_or x1 ((l_shl 1 x3)))) (fun v13 => some (.inl (v13, (i_add x3 1)))) else some (.inl (x1, (i_add x3 1))))) else some (.inl (x1, (i_add x3 1))))))))
def fX3_freeCells  (h : Hp) : Option (Int) :=
  bp_ (it_ (fun s => fX3_freeCells_l4 s.1 s.2 h) FU (0, 0)) (fun e15 => (fun y16 => some y16) e15)
theorem fX3_freeCells_l4_ok {G : GD} {X : CX} {n : Nat} {Q : Av → Nat → Hp → Prop} (hC : Cx G X RX3 cX3_freeCells) (hZ : ZOK X G Q 0 0) (hRm : X.R = rmd 1 0 0) (hbt : X.bt = true) (hr : X.meth.sig.returnType = (some .long))  {h : Hp} : ∀ (f : Nat) (x1 : Int) (x3 : Int) (r : Int), it_ (fun s => fX3_freeCells_l4 s.1 s.2 h) f (x1, x3) = some r → (∀ (y1 : Int), r = y1 → AW G X 51 [(9, 0), (1, y1), (9, 0), (9, 0)] [] n h 0 0) → AW G X 4 [(2, ((20 : Nat) : Int)), (1, x1), (9, 0), (0, x3)] [] n h 0 0 := by
  intro f
  induction f with
  | zero => intro x1 x3 r hI; cases hI
  | succ f ih0 =>
    intro x1 x3 r hI hX
    obtain ⟨b, hF, hb1, hb2⟩ := it_succ hI
    have hF : fX3_freeCells_l4 x1 x3 h = some b := hF
    unfold fX3_freeCells_l4 at hF
    refine aw_iload_n hC dX3_freeCells_4 rfl ?_
    refine aw_aload_n hC dX3_freeCells_5 rfl ?_
    refine aw_g3r (k := 0) (a := 20) hC dX3_freeCells_6 lkRX3_27 (by decide) rfl rfl rfl (Or.inl ⟨hbt, by decide⟩) ?_
    obtain ⟨k1, hF⟩ := gd_some hF
    obtain ⟨r2, q3, hF⟩ := bp_some hF
    refine clRX3_58 hC hRm hbt dX3_freeCells_9 (lnd k1).1 (lnd k1).2.1 (lnd k1).2.2.1 (Nat.le_of_ble_eq_true rfl) (Nat.le_of_ble_eq_true rfl) (ok_X1_cells q3) ?_
    refine aw_icmp_ge (tgt := 51) hC dX3_freeCells_12 (by decide) (fun c4 => ?_) (fun c4 => ?_)
    · have hF := it_t hF c4
      refine aw_weak (ls' := [(9, 0), (1, x1), (9, 0), (9, 0)]) ⟨Or.inl rfl, Or.inr rfl, Or.inl rfl, Or.inl rfl, trivial⟩ ?_
      exact hX _ (hb2 _ (Option.some.inj hF).symm).symm
    · have hF := it_f hF c4
      refine aw_aload_n hC dX3_freeCells_15 rfl ?_
      refine aw_gc3 (k := 1) (a := 20) (b := 21) hC hbt dX3_freeCells_16 lkRX3_9 (by decide) rfl rfl rfl (by decide) (by decide) ?_
      refine aw_iload_n hC dX3_freeCells_19 rfl ?_
      obtain ⟨r5, q6, hF⟩ := bp_some hF
      refine clRX3_62 hC hRm hbt dX3_freeCells_20 (Nat.le_of_ble_eq_true rfl) (Nat.le_of_ble_eq_true rfl) (ok_X5_treeIn_21 q6) ?_
      refine aw_iconst hC dX3_freeCells_23 (by decide) ?_
      refine aw_icmp_ne (tgt := 45) hC dX3_freeCells_24 (by decide) (fun c7 => ?_) (fun c7 => ?_)
      · have hF := it_f hF c7
        refine aw_iinc3 hC dX3_freeCells_45 rfl ?_
        refine aw_goto (tgt := 4) hC dX3_freeCells_48 (by decide) ?_
        exact ih0 _ _ r (hb1 _ (Option.some.inj hF).symm) hX
      · have hF := it_t hF c7
        refine aw_aload_n hC dX3_freeCells_27 rfl ?_
        refine aw_g3r (k := 0) (a := 20) hC dX3_freeCells_28 lkRX3_27 (by decide) rfl rfl rfl (Or.inl ⟨hbt, by decide⟩) ?_
        refine aw_iload_n hC dX3_freeCells_31 rfl ?_
        obtain ⟨r9, q10, hF⟩ := bp_some hF
        refine clRX3_66 hC hRm hbt dX3_freeCells_32 (lnd k1).1 (lnd k1).2.1 (lnd k1).2.2.1 (Nat.le_of_ble_eq_true rfl) (Nat.le_of_ble_eq_true rfl) (ok_X1_houseIn q10) ?_
        refine aw_iconst hC dX3_freeCells_35 (by decide) ?_
        refine aw_icmp_ne (tgt := 45) hC dX3_freeCells_36 (by decide) (fun c11 => ?_) (fun c11 => ?_)
        · have hF := it_f hF c11
          refine aw_iinc3 hC dX3_freeCells_45 rfl ?_
          refine aw_goto (tgt := 4) hC dX3_freeCells_48 (by decide) ?_
          exact ih0 _ _ r (hb1 _ (Option.some.inj hF).symm) hX
        · have hF := it_t hF c11
          refine aw_lload_n hC dX3_freeCells_39 rfl ?_
          refine aw_lconst (v := 1) hC dX3_freeCells_40 (by decide) (by decide) ?_
          refine aw_iload_n hC dX3_freeCells_41 rfl ?_
          refine aw_lshl hC dX3_freeCells_42 ?_
          refine aw_lor hC dX3_freeCells_43 ?_
          obtain ⟨v13, ev13, hF⟩ := lb_some hF
          refine aw_eqT ev13 ?_
          clear ev13
          refine aw_lstore1 hC dX3_freeCells_44 rfl ?_
          refine aw_iinc3 hC dX3_freeCells_45 rfl ?_
          refine aw_goto (tgt := 4) hC dX3_freeCells_48 (by decide) ?_
          exact ih0 _ _ r (hb1 _ (Option.some.inj hF).symm) hX
theorem ok_X3_freeCells {G : GD} {n : Nat}  {h : Hp} {res : Int} (hF : fX3_freeCells  h = some res) : Con G yX3_freeCells cX3_freeCells 4 (some .long) 1 0 0 true [(2, ((20 : Nat) : Int))] n h (FQ 1 n (res, h)) := by
  refine con_of (pad := 3) (own := RX3) (plainFor_of_name (by decide)) rfl rfl ?_
  intro X hC hbt hr hnm hZ hRm hn0
  have hK : ∀ (x9 : Int), res = x9 → FQ 1 n (res, h) (1, x9) n h := fun x9 e => by subst e; exact ⟨rfl, rfl, rfl⟩
  unfold fX3_freeCells at hF
  show AW G X 0 [(2, ((20 : Nat) : Int)), (9, 0), (9, 0), (9, 0)] [] n h 0 0
  refine aw_lconst (v := 0) hC dX3_freeCells_0 (by decide) (by decide) ?_
  refine aw_lstore1 hC dX3_freeCells_1 rfl ?_
  refine aw_iconst hC dX3_freeCells_2 (by decide) ?_
  refine aw_istore3 hC dX3_freeCells_3 rfl ?_
  obtain ⟨e15, he, hF⟩ := bp_some hF
  refine fX3_freeCells_l4_ok hC hZ hRm hbt hr FU _ _ e15 he (fun y16 er => ?_)
  replace er := er.symm
  subst er
  try dsimp only at hF
  refine aw_lload_n hC dX3_freeCells_51 rfl ?_
  exact aw_lreturn hC hZ (Nat.zero_le _) (Nat.zero_le _) hr dX3_freeCells_52 (hK _ (Option.some.inj hF).symm)
def fX3_lookAlong_j173 (x1 : Int) (x2 : Int) (x3 : Int) (x4 : Int) (x5 : Int) (x8 : Int) (x9 : Int) (x10 : Int) (h : Hp) : Option ((Int × Int × Int × Int × Int × Hp) ⊕ ((Int × Hp) ⊕ (Int × Hp))) :=
  lb_ (st h 20 11 ((l_or ((h 20 11)) ((l_shl 1 x9))))) (fun h22 => some (.inl (x3, x4, x8, x10, (i_add x8 1), h22)))
def fX3_lookAlong_l66 (x1 : Int) (x2 : Int) (x5 : Int) (x3 : Int) (x4 : Int) (x6 : Int) (x7 : Int) (x8 : Int) (h : Hp) : Option ((Int × Int × Int × Int × Int × Hp) ⊕ ((Int × Hp) ⊕ (Int × Hp))) :=
  (if (h 20 4) < x8 then some (.inr (.inr (x6, h))) else gd_ (0 ≤ x1 ∧ x1 < 8) (lb_ ((i_add x3 ((sx_ x1)))) (fun v9 => gd_ (0 ≤ x1 ∧ x1 < 8) (lb_ ((i_add x4 ((sy_ x1)))) (fun v11 => (if v9 < 0 then some (.inr (.inl (x6, h))) else (if v11 < 0 then some (.inr (.inl (x6, h))) else (if x2 ≤ v9 then some (.inr (.inl (x6, h))) else gd_ ((h 20 0) = 1 ∨ (h 20 0) = 9) ((if v11 < (h (Int.toNat ((h 20 0))) 1) then lb_ ((i_add ((i_mul x2 v11)) v9)) (fun v17 => gd_ (0 ≤ v17 ∧ v17 < 64) (lb_ ((i_sub ((h 23 (Int.toNat v17))) x5)) (fun v19 => lb_ (st h 20 12 ((l_or ((h 20 12)) ((l_shl 1 v17))))) (fun h20 => (if x6 = 0 then fX3_lookAlong_j173 x1 x2 v9 v11 x5 x8 v17 v19 h20 else (if (i_mul v19 x6) ≤ (i_mul x7 x8) then some (.inl (v9, v11, x6, x7, (i_add x8 1), h20)) else fX3_lookAlong_j173 x1 x2 v9 v11 x5 x8 v17 v19 h20)))))) else some (.inr (.inl (x6, h)))))))))))))
def fX3_lookAlong_j37 (x1 : Int) (x2 : Int) (x3 : Int) (z0 : Int) (h : Hp) : Option (Int × Hp) :=
  gd_ (0 ≤ (h 20 5) ∧ (h 20 5) < 64) (lb_ ((i_add ((i_add ((h 22 (Int.toNat ((h 20 5))))) 2)) ((h 20 7)))) (fun v6 => bp_ (it_ (fun s => fX3_lookAlong_l66 x1 x2 v6 s.1 s.2.1 s.2.2.1 s.2.2.2.1 s.2.2.2.2.1 s.2.2.2.2.2) FU (x3, z0, 0, 0, 1, h)) (fun e26 => match e26 with | .inl e26 => (fun y27 h28 => some (y27, h28)) e26.1 e26.2 | .inr q9 => some q9)))
def fX3_lookAlong_j22 (x1 : Int) (x2 : Int) (z0 : Int) (h : Hp) : Option (Int × Hp) :=
  (if x2 ≤ 0 then fX3_lookAlong_j37 x1 x2 z0 0 h else gd_ (x2 ≠ 0) (fX3_lookAlong_j37 x1 x2 z0 ((i_div ((h 20 5)) x2)) h))
def fX3_lookAlong (x1 : Int) (h : Hp) : Option (Int × Hp) :=
  gd_ ((h 20 0) = 1 ∨ (h 20 0) = 9) (lb_ ((h (Int.toNat ((h 20 0))) 0)) (fun v2 => (if v2 ≤ 0 then fX3_lookAlong_j22 x1 v2 0 h else gd_ (v2 ≠ 0) (fX3_lookAlong_j22 x1 v2 ((i_rem ((h 20 5)) v2)) h))))
theorem fX3_lookAlong_j173_ok {G : GD} {X : CX} {n : Nat} {Q : Av → Nat → Hp → Prop} (hC : Cx G X RX3 cX3_lookAlong) (hZ : ZOK X G Q 0 0) (hRm : X.R = rmd 0 0 0) (hbt : X.bt = true) (hr : X.meth.sig.returnType = (some .int)) {x1 : Int} {x2 : Int} {x3 : Int} {x4 : Int} {x5 : Int} {x8 : Int} {x9 : Int} {x10 : Int} {h : Hp} {b : (Int × Int × Int × Int × Int × Hp) ⊕ ((Int × Hp) ⊕ (Int × Hp))} (hF : fX3_lookAlong_j173 x1 x2 x3 x4 x5 x8 x9 x10 h = some b) (hL9 : ∀ (u3 : Int) (u4 : Int) (u6 : Int) (u7 : Int) (u8 : Int) (h9 : Hp), b = .inl (u3, u4, u6, u7, u8, h9) → AW G X 66 [(2, ((20 : Nat) : Int)), (0, x1), (0, x2), (0, u3), (0, u4), (0, x5), (0, u6), (0, u7), (0, u8), (9, 0), (9, 0)] [] n h9 0 0) (hX9 : ∀ (w6 : Int) (h9 : Hp), b = .inr (.inl (w6, h9)) → AW G X 119 [(9, 0), (9, 0), (9, 0), (9, 0), (9, 0), (9, 0), (0, w6), (9, 0), (9, 0), (9, 0), (9, 0)] [] n h9 0 0) (hRet : ∀ (x9 : Int) (h9 : Hp), b = .inr (.inr (x9, h9)) → Q (0, x9) n h9) : AW G X 173 [(2, ((20 : Nat) : Int)), (0, x1), (0, x2), (0, x3), (0, x4), (0, x5), (9, 0), (9, 0), (0, x8), (0, x9), (0, x10)] [] n h 0 0 := by
  unfold fX3_lookAlong_j173 at hF
  refine aw_iload hC dX3_lookAlong_173 rfl ?_
  refine aw_istore6 hC dX3_lookAlong_175 rfl ?_
  refine aw_iload hC dX3_lookAlong_177 rfl ?_
  refine aw_istore7 hC dX3_lookAlong_179 rfl ?_
  refine aw_aload_n hC dX3_lookAlong_181 rfl ?_
  refine aw_dup hC dX3_lookAlong_182 (by simp) ?_
  refine aw_g3l (k := 11) (a := 20) hC dX3_lookAlong_183 lkRX3_91 (by decide) rfl rfl rfl (Or.inl ⟨hbt, by decide⟩) ?_
  refine aw_lconst (v := 1) hC dX3_lookAlong_186 (by decide) (by decide) ?_
  refine aw_iload hC dX3_lookAlong_187 rfl ?_
  refine aw_lshl hC dX3_lookAlong_189 ?_
  refine aw_lor hC dX3_lookAlong_190 ?_
  obtain ⟨h22, eh22, hF⟩ := lb_some hF
  refine aw_p3l (k := 11) (a := 20) hC dX3_lookAlong_191 lkRX3_91 (by decide) rfl rfl rfl rfl rfl (Or.inl ⟨hbt, by decide⟩) (fun _ => by decide) ?_
  refine aw_eqH eh22 ?_
  clear eh22
  refine aw_iinc8 hC dX3_lookAlong_194 rfl ?_
  refine aw_goto (tgt := 66) hC dX3_lookAlong_197 (by decide) ?_
  refine aw_weak (ls' := [(2, ((20 : Nat) : Int)), (0, x1), (0, x2), (0, x3), (0, x4), (0, x5), (0, x8), (0, x10), (0, (i_add x8 1)), (9, 0), (9, 0)]) ⟨Or.inr rfl, Or.inr rfl, Or.inr rfl, Or.inr rfl, Or.inr rfl, Or.inr rfl, Or.inr rfl, Or.inr rfl, Or.inr rfl, Or.inl rfl, Or.inl rfl, trivial⟩ ?_
  exact hL9 _ _ _ _ _ _ (Option.some.inj hF).symm
theorem fX3_lookAlong_l66_ok {G : GD} {X : CX} {n : Nat} {Q : Av → Nat → Hp → Prop} (hC : Cx G X RX3 cX3_lookAlong) (hZ : ZOK X G Q 0 0) (hRm : X.R = rmd 0 0 0) (hbt : X.bt = true) (hr : X.meth.sig.returnType = (some .int)) {x1 : Int} {x2 : Int} {x5 : Int} : ∀ (f : Nat) (x3 : Int) (x4 : Int) (x6 : Int) (x7 : Int) (x8 : Int) (h : Hp) (r : (Int × Hp) ⊕ (Int × Hp)), it_ (fun s => fX3_lookAlong_l66 x1 x2 x5 s.1 s.2.1 s.2.2.1 s.2.2.2.1 s.2.2.2.2.1 s.2.2.2.2.2) f (x3, x4, x6, x7, x8, h) = some r → (∀ (y6 : Int) (h9 : Hp), r = (.inl (y6, h9)) → AW G X 119 [(9, 0), (9, 0), (9, 0), (9, 0), (9, 0), (9, 0), (0, y6), (9, 0), (9, 0), (9, 0), (9, 0)] [] n h9 0 0) → (∀ (x9 : Int) (h9 : Hp), r = .inr (x9, h9) → Q (0, x9) n h9) → AW G X 66 [(2, ((20 : Nat) : Int)), (0, x1), (0, x2), (0, x3), (0, x4), (0, x5), (0, x6), (0, x7), (0, x8), (9, 0), (9, 0)] [] n h 0 0 := by
  intro f
  induction f with
  | zero => intro x3 x4 x6 x7 x8 h r hI; cases hI
  | succ f ih0 =>
    intro x3 x4 x6 x7 x8 h r hI hX hRet9
    obtain ⟨b, hF, hb1, hb2⟩ := it_succ hI
    have hF : fX3_lookAlong_l66 x1 x2 x5 x3 x4 x6 x7 x8 h = some b := hF
    have hRet : ∀ (x9 : Int) (h9 : Hp), b = .inr (.inr (x9, h9)) → Q (0, x9) n h9 := fun x9 h9 e => hRet9 x9 h9 (hb2 _ e).symm
    unfold fX3_lookAlong_l66 at hF
    refine aw_iload hC dX3_lookAlong_66 rfl ?_
    refine aw_aload_n hC dX3_lookAlong_68 rfl ?_
    refine aw_g3i (k := 4) (a := 20) hC dX3_lookAlong_69 lkRX3_55 (by decide) rfl rfl rfl (Or.inl ⟨hbt, by decide⟩) ?_
    refine aw_icmp_gt (tgt := 200) hC dX3_lookAlong_72 (by decide) (fun c7 => ?_) (fun c7 => ?_)
    · have hF := it_t hF c7
      refine aw_iload hC dX3_lookAlong_200 rfl ?_
      exact aw_ireturn hC hZ (Nat.zero_le _) (Nat.zero_le _) hr dX3_lookAlong_202 (hRet _ _ (Option.some.inj hF).symm)
    · have hF := it_f hF c7
      refine aw_iload_n hC dX3_lookAlong_75 rfl ?_
      refine aw_getX hC dX3_lookAlong_76 slkRX3_114 ?_
      refine aw_iload_n hC dX3_lookAlong_79 rfl ?_
      obtain ⟨g8, hF⟩ := gd_some hF
      refine aw_sxld hC dX3_lookAlong_80 g8.1 g8.2 ?_
      refine aw_iadd hC dX3_lookAlong_81 ?_
      obtain ⟨v9, ev9, hF⟩ := lb_some hF
      refine aw_eqT ev9 ?_
      clear ev9
      refine aw_istore3 hC dX3_lookAlong_82 rfl ?_
      refine aw_iload hC dX3_lookAlong_83 rfl ?_
      refine aw_getY hC dX3_lookAlong_85 slkRX3_117 ?_
      refine aw_iload_n hC dX3_lookAlong_88 rfl ?_
      obtain ⟨g10, hF⟩ := gd_some hF
      refine aw_syld hC dX3_lookAlong_89 g10.1 g10.2 ?_
      refine aw_iadd hC dX3_lookAlong_90 ?_
      obtain ⟨v11, ev11, hF⟩ := lb_some hF
      refine aw_eqT ev11 ?_
      clear ev11
      refine aw_istore4 hC dX3_lookAlong_91 rfl ?_
      refine aw_iload_n hC dX3_lookAlong_93 rfl ?_
      refine aw_if_lt (tgt := 119) hC dX3_lookAlong_94 (by decide) (fun c12 => ?_) (fun c12 => ?_)
      · have hF := it_t hF c12
        refine aw_weak (ls' := [(9, 0), (9, 0), (9, 0), (9, 0), (9, 0), (9, 0), (0, x6), (9, 0), (9, 0), (9, 0), (9, 0)]) ⟨Or.inl rfl, Or.inl rfl, Or.inl rfl, Or.inl rfl, Or.inl rfl, Or.inl rfl, Or.inr rfl, Or.inl rfl, Or.inl rfl, Or.inl rfl, Or.inl rfl, trivial⟩ ?_
        exact hX _ _ (hb2 _ (Option.some.inj hF).symm).symm
      · have hF := it_f hF c12
        refine aw_iload hC dX3_lookAlong_97 rfl ?_
        refine aw_if_lt (tgt := 119) hC dX3_lookAlong_99 (by decide) (fun c13 => ?_) (fun c13 => ?_)
        · have hF := it_t hF c13
          refine aw_weak (ls' := [(9, 0), (9, 0), (9, 0), (9, 0), (9, 0), (9, 0), (0, x6), (9, 0), (9, 0), (9, 0), (9, 0)]) ⟨Or.inl rfl, Or.inl rfl, Or.inl rfl, Or.inl rfl, Or.inl rfl, Or.inl rfl, Or.inr rfl, Or.inl rfl, Or.inl rfl, Or.inl rfl, Or.inl rfl, trivial⟩ ?_
          exact hX _ _ (hb2 _ (Option.some.inj hF).symm).symm
        · have hF := it_f hF c13
          refine aw_iload_n hC dX3_lookAlong_102 rfl ?_
          refine aw_iload_n hC dX3_lookAlong_103 rfl ?_
          refine aw_icmp_ge (tgt := 119) hC dX3_lookAlong_104 (by decide) (fun c14 => ?_) (fun c14 => ?_)
          · have hF := it_t hF c14
            refine aw_weak (ls' := [(9, 0), (9, 0), (9, 0), (9, 0), (9, 0), (9, 0), (0, x6), (9, 0), (9, 0), (9, 0), (9, 0)]) ⟨Or.inl rfl, Or.inl rfl, Or.inl rfl, Or.inl rfl, Or.inl rfl, Or.inl rfl, Or.inr rfl, Or.inl rfl, Or.inl rfl, Or.inl rfl, Or.inl rfl, trivial⟩ ?_
            exact hX _ _ (hb2 _ (Option.some.inj hF).symm).symm
          · have hF := it_f hF c14
            refine aw_iload hC dX3_lookAlong_107 rfl ?_
            refine aw_aload_n hC dX3_lookAlong_109 rfl ?_
            refine aw_g3r (k := 0) (a := 20) hC dX3_lookAlong_110 lkRX3_27 (by decide) rfl rfl rfl (Or.inl ⟨hbt, by decide⟩) ?_
            obtain ⟨k15, hF⟩ := gd_some hF
            refine aw_gLiN (k := 1) hC hbt k15 dX3_lookAlong_113 lkRX3_120 (by decide) rfl ?_
            refine aw_icmp_lt (tgt := 122) hC dX3_lookAlong_116 (by decide) (fun c16 => ?_) (fun c16 => ?_)
            · have hF := it_t hF c16
              refine aw_iload_n hC dX3_lookAlong_122 rfl ?_
              refine aw_iload hC dX3_lookAlong_123 rfl ?_
              refine aw_imul hC dX3_lookAlong_125 ?_
              refine aw_iload_n hC dX3_lookAlong_126 rfl ?_
              refine aw_iadd hC dX3_lookAlong_127 ?_
              obtain ⟨v17, ev17, hF⟩ := lb_some hF
              refine aw_eqT ev17 ?_
              clear ev17
              refine aw_istore9 hC dX3_lookAlong_128 rfl ?_
              refine aw_aload_n hC dX3_lookAlong_130 rfl ?_
              refine aw_gc3 (k := 3) (a := 20) (b := 23) hC hbt dX3_lookAlong_131 lkRX3_18 (by decide) rfl rfl rfl (by decide) (by decide) ?_
              refine aw_iload hC dX3_lookAlong_134 rfl ?_
              obtain ⟨g18, hF⟩ := gd_some hF
              refine aw_iaload (a := 23) hC dX3_lookAlong_136 rfl rfl (Or.inl ⟨hbt, by decide⟩) g18.1 g18.2 ?_
              refine aw_iload hC dX3_lookAlong_137 rfl ?_
              refine aw_isub hC dX3_lookAlong_139 ?_
              obtain ⟨v19, ev19, hF⟩ := lb_some hF
              refine aw_eqT ev19 ?_
              clear ev19
              refine aw_istore10 hC dX3_lookAlong_140 rfl ?_
              refine aw_aload_n hC dX3_lookAlong_142 rfl ?_
              refine aw_dup hC dX3_lookAlong_143 (by simp) ?_
              refine aw_g3l (k := 12) (a := 20) hC dX3_lookAlong_144 lkRX3_95 (by decide) rfl rfl rfl (Or.inl ⟨hbt, by decide⟩) ?_
              refine aw_lconst (v := 1) hC dX3_lookAlong_147 (by decide) (by decide) ?_
              refine aw_iload hC dX3_lookAlong_148 rfl ?_
              refine aw_lshl hC dX3_lookAlong_150 ?_
              refine aw_lor hC dX3_lookAlong_151 ?_
              obtain ⟨h20, eh20, hF⟩ := lb_some hF
              refine aw_p3l (k := 12) (a := 20) hC dX3_lookAlong_152 lkRX3_95 (by decide) rfl rfl rfl rfl rfl (Or.inl ⟨hbt, by decide⟩) (fun _ => by decide) ?_
              refine aw_eqH eh20 ?_
              clear eh20
              refine aw_iload hC dX3_lookAlong_155 rfl ?_
              refine aw_if_eq (tgt := 173) hC dX3_lookAlong_157 (by decide) (fun c21 => ?_) (fun c21 => ?_)
              · have hF := it_t hF c21
                refine aw_weak (ls' := [(2, ((20 : Nat) : Int)), (0, x1), (0, x2), (0, v9), (0, v11), (0, x5), (9, 0), (9, 0), (0, x8), (0, v17), (0, v19)]) ⟨Or.inr rfl, Or.inr rfl, Or.inr rfl, Or.inr rfl, Or.inr rfl, Or.inr rfl, Or.inl rfl, Or.inl rfl, Or.inr rfl, Or.inr rfl, Or.inr rfl, trivial⟩ ?_
                exact fX3_lookAlong_j173_ok hC hZ hRm hbt hr hF (fun u0 u1 u2 u3 u4 u5 e => ih0 u0 u1 u2 u3 u4 u5 r (hb1 _ e) hX hRet9) (fun w0 w1 e => hX w0 w1 (hb2 _ e).symm) hRet
              · have hF := it_f hF c21
                refine aw_iload hC dX3_lookAlong_160 rfl ?_
                refine aw_iload hC dX3_lookAlong_162 rfl ?_
                refine aw_imul hC dX3_lookAlong_164 ?_
                refine aw_iload hC dX3_lookAlong_165 rfl ?_
                refine aw_iload hC dX3_lookAlong_167 rfl ?_
                refine aw_imul hC dX3_lookAlong_169 ?_
                refine aw_icmp_le (tgt := 194) hC dX3_lookAlong_170 (by decide) (fun c24 => ?_) (fun c24 => ?_)
                · have hF := it_t hF c24
                  refine aw_iinc8 hC dX3_lookAlong_194 rfl ?_
                  refine aw_goto (tgt := 66) hC dX3_lookAlong_197 (by decide) ?_
                  refine aw_weak (ls' := [(2, ((20 : Nat) : Int)), (0, x1), (0, x2), (0, v9), (0, v11), (0, x5), (0, x6), (0, x7), (0, (i_add x8 1)), (9, 0), (9, 0)]) ⟨Or.inr rfl, Or.inr rfl, Or.inr rfl, Or.inr rfl, Or.inr rfl, Or.inr rfl, Or.inr rfl, Or.inr rfl, Or.inr rfl, Or.inl rfl, Or.inl rfl, trivial⟩ ?_
                  exact ih0 _ _ _ _ _ _ r (hb1 _ (Option.some.inj hF).symm) hX hRet9
                · have hF := it_f hF c24
                  refine aw_weak (ls' := [(2, ((20 : Nat) : Int)), (0, x1), (0, x2), (0, v9), (0, v11), (0, x5), (9, 0), (9, 0), (0, x8), (0, v17), (0, v19)]) ⟨Or.inr rfl, Or.inr rfl, Or.inr rfl, Or.inr rfl, Or.inr rfl, Or.inr rfl, Or.inl rfl, Or.inl rfl, Or.inr rfl, Or.inr rfl, Or.inr rfl, trivial⟩ ?_
                  exact fX3_lookAlong_j173_ok hC hZ hRm hbt hr hF (fun u0 u1 u2 u3 u4 u5 e => ih0 u0 u1 u2 u3 u4 u5 r (hb1 _ e) hX hRet9) (fun w0 w1 e => hX w0 w1 (hb2 _ e).symm) hRet
            · have hF := it_f hF c16
              refine aw_weak (ls' := [(9, 0), (9, 0), (9, 0), (9, 0), (9, 0), (9, 0), (0, x6), (9, 0), (9, 0), (9, 0), (9, 0)]) ⟨Or.inl rfl, Or.inl rfl, Or.inl rfl, Or.inl rfl, Or.inl rfl, Or.inl rfl, Or.inr rfl, Or.inl rfl, Or.inl rfl, Or.inl rfl, Or.inl rfl, trivial⟩ ?_
              exact hX _ _ (hb2 _ (Option.some.inj hF).symm).symm
theorem fX3_lookAlong_j37_ok {G : GD} {X : CX} {n : Nat} {Q : Av → Nat → Hp → Prop} (hC : Cx G X RX3 cX3_lookAlong) (hZ : ZOK X G Q 0 0) (hRm : X.R = rmd 0 0 0) (hbt : X.bt = true) (hr : X.meth.sig.returnType = (some .int)) {x1 : Int} {x2 : Int} {x3 : Int} {z0 : Int} {h : Hp} {res : Int × Hp} (hF : fX3_lookAlong_j37 x1 x2 x3 z0 h = some res) (hK : ∀ (x9 : Int) (h9 : Hp), res = (x9, h9) → Q (0, x9) n h9) : AW G X 37 [(2, ((20 : Nat) : Int)), (0, x1), (0, x2), (0, x3), (9, 0), (9, 0), (9, 0), (9, 0), (9, 0), (9, 0), (9, 0)] [(0, z0)] n h 0 0 := by
  unfold fX3_lookAlong_j37 at hF
  refine aw_istore4 hC dX3_lookAlong_37 rfl ?_
  refine aw_aload_n hC dX3_lookAlong_39 rfl ?_
  refine aw_gc3 (k := 2) (a := 20) (b := 22) hC hbt dX3_lookAlong_40 lkRX3_15 (by decide) rfl rfl rfl (by decide) (by decide) ?_
  refine aw_aload_n hC dX3_lookAlong_43 rfl ?_
  refine aw_g3i (k := 5) (a := 20) hC dX3_lookAlong_44 lkRX3_76 (by decide) rfl rfl rfl (Or.inl ⟨hbt, by decide⟩) ?_
  obtain ⟨g5, hF⟩ := gd_some hF
  refine aw_iaload (a := 22) hC dX3_lookAlong_47 rfl rfl (Or.inl ⟨hbt, by decide⟩) g5.1 g5.2 ?_
  refine aw_iconst hC dX3_lookAlong_48 (by decide) ?_
  refine aw_iadd hC dX3_lookAlong_49 ?_
  refine aw_aload_n hC dX3_lookAlong_50 rfl ?_
  refine aw_g3i (k := 7) (a := 20) hC dX3_lookAlong_51 lkRX3_82 (by decide) rfl rfl rfl (Or.inl ⟨hbt, by decide⟩) ?_
  refine aw_iadd hC dX3_lookAlong_54 ?_
  obtain ⟨v6, ev6, hF⟩ := lb_some hF
  refine aw_eqT ev6 ?_
  clear ev6
  refine aw_istore5 hC dX3_lookAlong_55 rfl ?_
  refine aw_iconst hC dX3_lookAlong_57 (by decide) ?_
  refine aw_istore6 hC dX3_lookAlong_58 rfl ?_
  refine aw_iconst hC dX3_lookAlong_60 (by decide) ?_
  refine aw_istore7 hC dX3_lookAlong_61 rfl ?_
  refine aw_iconst hC dX3_lookAlong_63 (by decide) ?_
  refine aw_istore8 hC dX3_lookAlong_64 rfl ?_
  obtain ⟨e26, he, hF⟩ := bp_some hF
  refine fX3_lookAlong_l66_ok hC hZ hRm hbt hr FU _ _ _ _ _ _ e26 he (fun y27 h28 er => ?_) (fun x9 h9 e => by subst e; exact hK _ _ (Option.some.inj hF).symm)
  replace er := er.symm
  subst er
  try dsimp only at hF
  refine aw_iload hC dX3_lookAlong_119 rfl ?_
  exact aw_ireturn hC hZ (Nat.zero_le _) (Nat.zero_le _) hr dX3_lookAlong_121 (hK _ _ (Option.some.inj hF).symm)
theorem fX3_lookAlong_j22_ok {G : GD} {X : CX} {n : Nat} {Q : Av → Nat → Hp → Prop} (hC : Cx G X RX3 cX3_lookAlong) (hZ : ZOK X G Q 0 0) (hRm : X.R = rmd 0 0 0) (hbt : X.bt = true) (hr : X.meth.sig.returnType = (some .int)) {x1 : Int} {x2 : Int} {z0 : Int} {h : Hp} {res : Int × Hp} (hF : fX3_lookAlong_j22 x1 x2 z0 h = some res) (hK : ∀ (x9 : Int) (h9 : Hp), res = (x9, h9) → Q (0, x9) n h9) : AW G X 22 [(2, ((20 : Nat) : Int)), (0, x1), (0, x2), (9, 0), (9, 0), (9, 0), (9, 0), (9, 0), (9, 0), (9, 0), (9, 0)] [(0, z0)] n h 0 0 := by
  unfold fX3_lookAlong_j22 at hF
  refine aw_istore3 hC dX3_lookAlong_22 rfl ?_
  refine aw_iload_n hC dX3_lookAlong_23 rfl ?_
  refine aw_if_le (tgt := 36) hC dX3_lookAlong_24 (by decide) (fun c4 => ?_) (fun c4 => ?_)
  · have hF := it_t hF c4
    refine aw_iconst hC dX3_lookAlong_36 (by decide) ?_
    exact fX3_lookAlong_j37_ok hC hZ hRm hbt hr hF hK
  · have hF := it_f hF c4
    refine aw_aload_n hC dX3_lookAlong_27 rfl ?_
    refine aw_g3i (k := 5) (a := 20) hC dX3_lookAlong_28 lkRX3_76 (by decide) rfl rfl rfl (Or.inl ⟨hbt, by decide⟩) ?_
    refine aw_iload_n hC dX3_lookAlong_31 rfl ?_
    obtain ⟨g29, hF⟩ := gd_some hF
    refine aw_idiv hC dX3_lookAlong_32 g29 ?_
    refine aw_goto (tgt := 37) hC dX3_lookAlong_33 (by decide) ?_
    exact fX3_lookAlong_j37_ok hC hZ hRm hbt hr hF hK
theorem ok_X3_lookAlong {G : GD} {n : Nat} {x1 : Int} {h : Hp} {res : Int × Hp} (hF : fX3_lookAlong x1 h = some res) : Con G yX3_lookAlong cX3_lookAlong 11 (some .int) 0 0 0 true [(2, ((20 : Nat) : Int)), (0, x1)] n h (FQ 0 n res) := by
  refine con_of (pad := 9) (own := RX3) (plainFor_of_name (by decide)) rfl rfl ?_
  intro X hC hbt hr hnm hZ hRm hn0
  have hK : ∀ (x9 : Int) (h9 : Hp), res = (x9, h9) → FQ 0 n res (0, x9) n h9 := fun x9 h9 e => by subst e; exact ⟨rfl, rfl, rfl⟩
  unfold fX3_lookAlong at hF
  show AW G X 0 [(2, ((20 : Nat) : Int)), (0, x1), (9, 0), (9, 0), (9, 0), (9, 0), (9, 0), (9, 0), (9, 0), (9, 0), (9, 0)] [] n h 0 0
  refine aw_aload_n hC dX3_lookAlong_0 rfl ?_
  refine aw_g3r (k := 0) (a := 20) hC dX3_lookAlong_1 lkRX3_27 (by decide) rfl rfl rfl (Or.inl ⟨hbt, by decide⟩) ?_
  obtain ⟨k1, hF⟩ := gd_some hF
  refine aw_gLiN (k := 0) hC hbt k1 dX3_lookAlong_4 lkRX3_111 (by decide) rfl ?_
  obtain ⟨v2, ev2, hF⟩ := lb_some hF
  refine aw_eqT ev2 ?_
  clear ev2
  refine aw_istore2 hC dX3_lookAlong_7 rfl ?_
  refine aw_iload_n hC dX3_lookAlong_8 rfl ?_
  refine aw_if_le (tgt := 21) hC dX3_lookAlong_9 (by decide) (fun c3 => ?_) (fun c3 => ?_)
  · have hF := it_t hF c3
    refine aw_iconst hC dX3_lookAlong_21 (by decide) ?_
    exact fX3_lookAlong_j22_ok hC hZ hRm hbt hr hF hK
  · have hF := it_f hF c3
    refine aw_aload_n hC dX3_lookAlong_12 rfl ?_
    refine aw_g3i (k := 5) (a := 20) hC dX3_lookAlong_13 lkRX3_76 (by decide) rfl rfl rfl (Or.inl ⟨hbt, by decide⟩) ?_
    refine aw_iload_n hC dX3_lookAlong_16 rfl ?_
    obtain ⟨g30, hF⟩ := gd_some hF
    refine aw_irem hC dX3_lookAlong_17 g30 ?_
    refine aw_goto (tgt := 22) hC dX3_lookAlong_18 (by decide) ?_
    exact fX3_lookAlong_j22_ok hC hZ hRm hbt hr hF hK
def fX3_look_j83 (x2 : Int) (x4 : Int) (x5 : Int) (z0 : Int) (h : Hp) : Option ((Int × Hp) ⊕ (Hp)) :=
  gd_ (0 ≤ x5 ∧ x5 < 8) (lb_ (st h 24 (Int.toNat x5) z0) (fun h15 => lb_ (st h15 20 9 ((i_add ((h15 20 9)) z0))) (fun h16 => bp_ (fJ9_max_7cf53 ((h16 20 10)) z0 h16) (fun r17 => lb_ (st h16 20 10 r17) (fun h19 => some (.inl ((i_add x5 1), h19)))))))
def fX3_look_j66 (x2 : Int) (x4 : Int) (x5 : Int) (z0 : Int) (h : Hp) : Option ((Int × Hp) ⊕ (Hp)) :=
  (if z0 = 0 then bd_ (fX3_lookAlong x5 h) (fun r11 h13 => fX3_look_j83 x2 x4 x5 r11 h13) else fX3_look_j83 x2 x4 x5 0 h)
def fX3_look_j61 (x2 : Int) (x4 : Int) (x5 : Int) (h : Hp) : Option ((Int × Hp) ⊕ (Hp)) :=
  fX3_look_j66 x2 x4 x5 1 h
def fX3_look_l38 (x2 : Int) (x4 : Int) (x5 : Int) (h : Hp) : Option ((Int × Hp) ⊕ (Hp)) :=
  (if 8 ≤ x5 then some (.inr h) else (if x2 = 2 then fX3_look_j61 x2 x4 x5 h else bp_ (fX5_hasBit x4 x5 h) (fun r21 => (if r21 = 0 then fX3_look_j66 x2 x4 x5 0 h else fX3_look_j61 x2 x4 x5 h))))
def fX3_look (x1 : Int) (x2 : Int) (x3 : Int) (x4 : Int) (h : Hp) : Option (Int × Hp) :=
  lb_ (st h 20 5 x1) (fun h1 => lb_ (st h1 20 6 x2) (fun h2 => lb_ (st h2 20 7 x3) (fun h3 => lb_ (st h3 20 9 0) (fun h4 => lb_ (st h4 20 10 0) (fun h5 => lb_ (st h5 20 11 0) (fun h6 => lb_ (st h6 20 12 0) (fun h7 => bp_ (it_ (fun s => fX3_look_l38 x2 x4 s.1 s.2) FU (0, h7)) (fun e24 => (fun h25 => some (0, h25)) e24))))))))
theorem fX3_look_j83_ok {G : GD} {X : CX} {n : Nat} {Q : Av → Nat → Hp → Prop} (hC : Cx G X RX3 cX3_look) (hZ : ZOK X G Q 0 0) (hRm : X.R = rmd 1 0 0) (hbt : X.bt = true) (hr : X.meth.sig.returnType = none) {x2 : Int} {x4 : Int} {x5 : Int} {z0 : Int} {h : Hp} {b : (Int × Hp) ⊕ (Hp)} (hF : fX3_look_j83 x2 x4 x5 z0 h = some b) (hL9 : ∀ (u5 : Int) (h9 : Hp), b = .inl (u5, h9) → AW G X 38 [(2, ((20 : Nat) : Int)), (9, 0), (0, x2), (9, 0), (0, x4), (0, u5), (9, 0), (9, 0)] [] n h9 0 0) (hX9 : ∀ (h9 : Hp), b = .inr h9 → AW G X 124 [(9, 0), (9, 0), (9, 0), (9, 0), (9, 0), (9, 0), (9, 0), (9, 0)] [] n h9 0 0) : AW G X 83 [(2, ((20 : Nat) : Int)), (9, 0), (0, x2), (9, 0), (0, x4), (0, x5), (9, 0), (9, 0)] [(0, z0)] n h 0 0 := by
  unfold fX3_look_j83 at hF
  refine aw_istore7 hC dX3_look_83 rfl ?_
  refine aw_aload_n hC dX3_look_85 rfl ?_
  refine aw_gc3 (k := 8) (a := 20) (b := 24) hC hbt dX3_look_86 lkRX3_21 (by decide) rfl rfl rfl (by decide) (by decide) ?_
  refine aw_iload hC dX3_look_89 rfl ?_
  refine aw_iload hC dX3_look_91 rfl ?_
  obtain ⟨g14, hF⟩ := gd_some hF
  obtain ⟨h15, eh15, hF⟩ := lb_some hF
  refine aw_iastore (a := 24) hC dX3_look_93 rfl rfl (Or.inl ⟨hbt, by decide⟩) g14.1 g14.2 ?_
  refine aw_eqH eh15 ?_
  clear eh15
  refine aw_aload_n hC dX3_look_94 rfl ?_
  refine aw_dup hC dX3_look_95 (by simp) ?_
  refine aw_g3i (k := 9) (a := 20) hC dX3_look_96 lkRX3_85 (by decide) rfl rfl rfl (Or.inl ⟨hbt, by decide⟩) ?_
  refine aw_iload hC dX3_look_99 rfl ?_
  refine aw_iadd hC dX3_look_101 ?_
  obtain ⟨h16, eh16, hF⟩ := lb_some hF
  refine aw_p3i (k := 9) (a := 20) hC dX3_look_102 lkRX3_85 (by decide) rfl rfl rfl rfl rfl (Or.inl ⟨hbt, by decide⟩) (fun _ => by decide) ?_
  refine aw_eqH eh16 ?_
  clear eh16
  refine aw_aload_n hC dX3_look_105 rfl ?_
  refine aw_aload_n hC dX3_look_106 rfl ?_
  refine aw_g3i (k := 10) (a := 20) hC dX3_look_107 lkRX3_88 (by decide) rfl rfl rfl (Or.inl ⟨hbt, by decide⟩) ?_
  refine aw_iload hC dX3_look_110 rfl ?_
  obtain ⟨r17, q18, hF⟩ := bp_some hF
  refine clRX3_105 hC hRm hbt dX3_look_112 (Nat.le_of_ble_eq_true rfl) (Nat.le_of_ble_eq_true rfl) (ok_J9_max_7cf53 q18) ?_
  obtain ⟨h19, eh19, hF⟩ := lb_some hF
  refine aw_p3i (k := 10) (a := 20) hC dX3_look_115 lkRX3_88 (by decide) rfl rfl rfl rfl rfl (Or.inl ⟨hbt, by decide⟩) (fun _ => by decide) ?_
  refine aw_eqH eh19 ?_
  clear eh19
  refine aw_iinc5 hC dX3_look_118 rfl ?_
  refine aw_goto (tgt := 38) hC dX3_look_121 (by decide) ?_
  refine aw_weak (ls' := [(2, ((20 : Nat) : Int)), (9, 0), (0, x2), (9, 0), (0, x4), (0, (i_add x5 1)), (9, 0), (9, 0)]) ⟨Or.inr rfl, Or.inl rfl, Or.inr rfl, Or.inl rfl, Or.inr rfl, Or.inr rfl, Or.inl rfl, Or.inl rfl, trivial⟩ ?_
  exact hL9 _ _ (Option.some.inj hF).symm
theorem fX3_look_j66_ok {G : GD} {X : CX} {n : Nat} {Q : Av → Nat → Hp → Prop} (hC : Cx G X RX3 cX3_look) (hZ : ZOK X G Q 0 0) (hRm : X.R = rmd 1 0 0) (hbt : X.bt = true) (hr : X.meth.sig.returnType = none) {x2 : Int} {x4 : Int} {x5 : Int} {z0 : Int} {h : Hp} {b : (Int × Hp) ⊕ (Hp)} (hF : fX3_look_j66 x2 x4 x5 z0 h = some b) (hL9 : ∀ (u5 : Int) (h9 : Hp), b = .inl (u5, h9) → AW G X 38 [(2, ((20 : Nat) : Int)), (9, 0), (0, x2), (9, 0), (0, x4), (0, u5), (9, 0), (9, 0)] [] n h9 0 0) (hX9 : ∀ (h9 : Hp), b = .inr h9 → AW G X 124 [(9, 0), (9, 0), (9, 0), (9, 0), (9, 0), (9, 0), (9, 0), (9, 0)] [] n h9 0 0) : AW G X 66 [(2, ((20 : Nat) : Int)), (9, 0), (0, x2), (9, 0), (0, x4), (0, x5), (9, 0), (9, 0)] [(0, z0)] n h 0 0 := by
  unfold fX3_look_j66 at hF
  refine aw_istore6 hC dX3_look_66 rfl ?_
  refine aw_iload hC dX3_look_68 rfl ?_
  refine aw_if_eq (tgt := 77) hC dX3_look_70 (by decide) (fun c10 => ?_) (fun c10 => ?_)
  · have hF := it_t hF c10
    refine aw_aload_n hC dX3_look_77 rfl ?_
    refine aw_iload hC dX3_look_78 rfl ?_
    obtain ⟨r11, h13, q12, hF⟩ := bd_some hF
    refine clRX3_102 hC hRm hbt dX3_look_80 rfl rfl (by decide) (Nat.le_of_ble_eq_true rfl) (Nat.le_of_ble_eq_true rfl) (ok_X3_lookAlong q12) ?_
    refine aw_weak (ls' := [(2, ((20 : Nat) : Int)), (9, 0), (0, x2), (9, 0), (0, x4), (0, x5), (9, 0), (9, 0)]) ⟨Or.inr rfl, Or.inl rfl, Or.inr rfl, Or.inl rfl, Or.inr rfl, Or.inr rfl, Or.inl rfl, Or.inl rfl, trivial⟩ ?_
    exact fX3_look_j83_ok hC hZ hRm hbt hr hF (fun u0 u1 e => hL9 u0 u1 e) (fun w0 e => hX9 w0 e)
  · have hF := it_f hF c10
    refine aw_iconst hC dX3_look_73 (by decide) ?_
    refine aw_goto (tgt := 83) hC dX3_look_74 (by decide) ?_
    refine aw_weak (ls' := [(2, ((20 : Nat) : Int)), (9, 0), (0, x2), (9, 0), (0, x4), (0, x5), (9, 0), (9, 0)]) ⟨Or.inr rfl, Or.inl rfl, Or.inr rfl, Or.inl rfl, Or.inr rfl, Or.inr rfl, Or.inl rfl, Or.inl rfl, trivial⟩ ?_
    exact fX3_look_j83_ok hC hZ hRm hbt hr hF (fun u0 u1 e => hL9 u0 u1 e) (fun w0 e => hX9 w0 e)
theorem fX3_look_j61_ok {G : GD} {X : CX} {n : Nat} {Q : Av → Nat → Hp → Prop} (hC : Cx G X RX3 cX3_look) (hZ : ZOK X G Q 0 0) (hRm : X.R = rmd 1 0 0) (hbt : X.bt = true) (hr : X.meth.sig.returnType = none) {x2 : Int} {x4 : Int} {x5 : Int} {h : Hp} {b : (Int × Hp) ⊕ (Hp)} (hF : fX3_look_j61 x2 x4 x5 h = some b) (hL9 : ∀ (u5 : Int) (h9 : Hp), b = .inl (u5, h9) → AW G X 38 [(2, ((20 : Nat) : Int)), (9, 0), (0, x2), (9, 0), (0, x4), (0, u5), (9, 0), (9, 0)] [] n h9 0 0) (hX9 : ∀ (h9 : Hp), b = .inr h9 → AW G X 124 [(9, 0), (9, 0), (9, 0), (9, 0), (9, 0), (9, 0), (9, 0), (9, 0)] [] n h9 0 0) : AW G X 61 [(2, ((20 : Nat) : Int)), (9, 0), (0, x2), (9, 0), (0, x4), (0, x5), (9, 0), (9, 0)] [] n h 0 0 := by
  unfold fX3_look_j61 at hF
  refine aw_iconst hC dX3_look_61 (by decide) ?_
  refine aw_goto (tgt := 66) hC dX3_look_62 (by decide) ?_
  exact fX3_look_j66_ok hC hZ hRm hbt hr hF (fun u0 u1 e => hL9 u0 u1 e) (fun w0 e => hX9 w0 e)
theorem fX3_look_l38_ok {G : GD} {X : CX} {n : Nat} {Q : Av → Nat → Hp → Prop} (hC : Cx G X RX3 cX3_look) (hZ : ZOK X G Q 0 0) (hRm : X.R = rmd 1 0 0) (hbt : X.bt = true) (hr : X.meth.sig.returnType = none) {x2 : Int} {x4 : Int} : ∀ (f : Nat) (x5 : Int) (h : Hp) (r : Hp), it_ (fun s => fX3_look_l38 x2 x4 s.1 s.2) f (x5, h) = some r → (∀ (h9 : Hp), r = h9 → AW G X 124 [(9, 0), (9, 0), (9, 0), (9, 0), (9, 0), (9, 0), (9, 0), (9, 0)] [] n h9 0 0) → AW G X 38 [(2, ((20 : Nat) : Int)), (9, 0), (0, x2), (9, 0), (0, x4), (0, x5), (9, 0), (9, 0)] [] n h 0 0 := by
  intro f
  induction f with
  | zero => intro x5 h r hI; cases hI
  | succ f ih0 =>
    intro x5 h r hI hX
    obtain ⟨b, hF, hb1, hb2⟩ := it_succ hI
    have hF : fX3_look_l38 x2 x4 x5 h = some b := hF
    unfold fX3_look_l38 at hF
    refine aw_iload hC dX3_look_38 rfl ?_
    refine aw_bipush hC dX3_look_40 (by decide) (by decide) ?_
    refine aw_icmp_ge (tgt := 124) hC dX3_look_42 (by decide) (fun c8 => ?_) (fun c8 => ?_)
    · have hF := it_t hF c8
      refine aw_weak (ls' := [(9, 0), (9, 0), (9, 0), (9, 0), (9, 0), (9, 0), (9, 0), (9, 0)]) ⟨Or.inl rfl, Or.inl rfl, Or.inl rfl, Or.inl rfl, Or.inl rfl, Or.inl rfl, Or.inl rfl, Or.inl rfl, trivial⟩ ?_
      exact hX _ (hb2 _ (Option.some.inj hF).symm).symm
    · have hF := it_f hF c8
      refine aw_iload_n hC dX3_look_45 rfl ?_
      refine aw_iconst hC dX3_look_46 (by decide) ?_
      refine aw_icmp_eq (tgt := 61) hC dX3_look_47 (by decide) (fun c9 => ?_) (fun c9 => ?_)
      · have hF := it_t hF c9
        exact fX3_look_j61_ok hC hZ hRm hbt hr hF (fun u0 u1 e => ih0 u0 u1 r (hb1 _ e) hX) (fun w0 e => hX w0 (hb2 _ e).symm)
      · have hF := it_f hF c9
        refine aw_iload hC dX3_look_50 rfl ?_
        refine aw_i2l hC dX3_look_52 ?_
        refine aw_iload hC dX3_look_53 rfl ?_
        obtain ⟨r21, q22, hF⟩ := bp_some hF
        refine clRX3_98 hC hRm hbt dX3_look_55 (Nat.le_of_ble_eq_true rfl) (Nat.le_of_ble_eq_true rfl) (ok_X5_hasBit q22) ?_
        refine aw_if_eq (tgt := 65) hC dX3_look_58 (by decide) (fun c23 => ?_) (fun c23 => ?_)
        · have hF := it_t hF c23
          refine aw_iconst hC dX3_look_65 (by decide) ?_
          exact fX3_look_j66_ok hC hZ hRm hbt hr hF (fun u0 u1 e => ih0 u0 u1 r (hb1 _ e) hX) (fun w0 e => hX w0 (hb2 _ e).symm)
        · have hF := it_f hF c23
          exact fX3_look_j61_ok hC hZ hRm hbt hr hF (fun u0 u1 e => ih0 u0 u1 r (hb1 _ e) hX) (fun w0 e => hX w0 (hb2 _ e).symm)
theorem ok_X3_look {G : GD} {n : Nat} {x1 : Int} {x2 : Int} {x3 : Int} {x4 : Int} {h : Hp} {res : Int × Hp} (hF : fX3_look x1 x2 x3 x4 h = some res) : Con G yX3_look cX3_look 8 none 1 0 0 true [(2, ((20 : Nat) : Int)), (0, x1), (0, x2), (0, x3), (0, x4)] n h (FQ 8 n res) := by
  refine con_of (pad := 3) (own := RX3) (plainFor_of_name (by decide)) rfl rfl ?_
  intro X hC hbt hr hnm hZ hRm hn0
  have hK : ∀ (x9 : Int) (h9 : Hp), res = (x9, h9) → FQ 8 n res (8, x9) n h9 := fun x9 h9 e => by subst e; exact ⟨rfl, rfl, rfl⟩
  unfold fX3_look at hF
  show AW G X 0 [(2, ((20 : Nat) : Int)), (0, x1), (0, x2), (0, x3), (0, x4), (9, 0), (9, 0), (9, 0)] [] n h 0 0
  refine aw_aload_n hC dX3_look_0 rfl ?_
  refine aw_iload_n hC dX3_look_1 rfl ?_
  obtain ⟨h1, eh1, hF⟩ := lb_some hF
  refine aw_p3i (k := 5) (a := 20) hC dX3_look_2 lkRX3_76 (by decide) rfl rfl rfl rfl rfl (Or.inl ⟨hbt, by decide⟩) (fun _ => by decide) ?_
  refine aw_eqH eh1 ?_
  clear eh1
  refine aw_aload_n hC dX3_look_5 rfl ?_
  refine aw_iload_n hC dX3_look_6 rfl ?_
  obtain ⟨h2, eh2, hF⟩ := lb_some hF
  refine aw_p3i (k := 6) (a := 20) hC dX3_look_7 lkRX3_79 (by decide) rfl rfl rfl rfl rfl (Or.inl ⟨hbt, by decide⟩) (fun _ => by decide) ?_
  refine aw_eqH eh2 ?_
  clear eh2
  refine aw_aload_n hC dX3_look_10 rfl ?_
  refine aw_iload_n hC dX3_look_11 rfl ?_
  obtain ⟨h3, eh3, hF⟩ := lb_some hF
  refine aw_p3i (k := 7) (a := 20) hC dX3_look_12 lkRX3_82 (by decide) rfl rfl rfl rfl rfl (Or.inl ⟨hbt, by decide⟩) (fun _ => by decide) ?_
  refine aw_eqH eh3 ?_
  clear eh3
  refine aw_aload_n hC dX3_look_15 rfl ?_
  refine aw_iconst hC dX3_look_16 (by decide) ?_
  obtain ⟨h4, eh4, hF⟩ := lb_some hF
  refine aw_p3i (k := 9) (a := 20) hC dX3_look_17 lkRX3_85 (by decide) rfl rfl rfl rfl rfl (Or.inl ⟨hbt, by decide⟩) (fun _ => by decide) ?_
  refine aw_eqH eh4 ?_
  clear eh4
  refine aw_aload_n hC dX3_look_20 rfl ?_
  refine aw_iconst hC dX3_look_21 (by decide) ?_
  obtain ⟨h5, eh5, hF⟩ := lb_some hF
  refine aw_p3i (k := 10) (a := 20) hC dX3_look_22 lkRX3_88 (by decide) rfl rfl rfl rfl rfl (Or.inl ⟨hbt, by decide⟩) (fun _ => by decide) ?_
  refine aw_eqH eh5 ?_
  clear eh5
  refine aw_aload_n hC dX3_look_25 rfl ?_
  refine aw_lconst (v := 0) hC dX3_look_26 (by decide) (by decide) ?_
  obtain ⟨h6, eh6, hF⟩ := lb_some hF
  refine aw_p3l (k := 11) (a := 20) hC dX3_look_27 lkRX3_91 (by decide) rfl rfl rfl rfl rfl (Or.inl ⟨hbt, by decide⟩) (fun _ => by decide) ?_
  refine aw_eqH eh6 ?_
  clear eh6
  refine aw_aload_n hC dX3_look_30 rfl ?_
  refine aw_lconst (v := 0) hC dX3_look_31 (by decide) (by decide) ?_
  obtain ⟨h7, eh7, hF⟩ := lb_some hF
  refine aw_p3l (k := 12) (a := 20) hC dX3_look_32 lkRX3_95 (by decide) rfl rfl rfl rfl rfl (Or.inl ⟨hbt, by decide⟩) (fun _ => by decide) ?_
  refine aw_eqH eh7 ?_
  clear eh7
  refine aw_iconst hC dX3_look_35 (by decide) ?_
  refine aw_istore5 hC dX3_look_36 rfl ?_
  refine aw_weak (ls' := [(2, ((20 : Nat) : Int)), (9, 0), (0, x2), (9, 0), (0, x4), (0, 0), (9, 0), (9, 0)]) ⟨Or.inr rfl, Or.inl rfl, Or.inr rfl, Or.inl rfl, Or.inr rfl, Or.inr rfl, Or.inl rfl, Or.inl rfl, trivial⟩ ?_
  obtain ⟨e24, he, hF⟩ := bp_some hF
  refine fX3_look_l38_ok hC hZ hRm hbt hr FU _ _ e24 he (fun h25 er => ?_)
  replace er := er.symm
  subst er
  try dsimp only at hF
  exact aw_return hC hZ (Nat.zero_le _) (Nat.zero_le _) hr dX3_look_124 (hK _ _ (Option.some.inj hF).symm)
def fX3_lookFrom (x1 : Int) (h : Hp) : Option (Int × Hp) :=
  gd_ ((h 20 0) = 1 ∨ (h 20 0) = 9) (gd_ (0 ≤ x1 ∧ x1 < 6) (gd_ (0 ≤ x1 ∧ x1 < 6) (gd_ (0 ≤ (i_add 42 x1) ∧ (i_add 42 x1) < 62) (gd_ (0 ≤ (i_add 54 x1) ∧ (i_add 54 x1) < 62) (bd_ (fX3_look ((h (Int.toNat ((h 20 0) + 2)) (Int.toNat x1))) ((h (Int.toNat ((h 20 0) + 3)) (Int.toNat x1))) ((h 21 (Int.toNat ((i_add 42 x1))))) ((h 21 (Int.toNat ((i_add 54 x1))))) h) (fun r6 h8 => some (0, h8)))))))
theorem ok_X3_lookFrom {G : GD} {n : Nat} {x1 : Int} {h : Hp} {res : Int × Hp} (hF : fX3_lookFrom x1 h = some res) : Con G yX3_lookFrom cX3_lookFrom 2 none 2 0 0 true [(2, ((20 : Nat) : Int)), (0, x1)] n h (FQ 8 n res) := by
  refine con_of (pad := 0) (own := RX3) (plainFor_of_name (by decide)) rfl rfl ?_
  intro X hC hbt hr hnm hZ hRm hn0
  have hK : ∀ (x9 : Int) (h9 : Hp), res = (x9, h9) → FQ 8 n res (8, x9) n h9 := fun x9 h9 e => by subst e; exact ⟨rfl, rfl, rfl⟩
  unfold fX3_lookFrom at hF
  show AW G X 0 [(2, ((20 : Nat) : Int)), (0, x1)] [] n h 0 0
  refine aw_aload_n hC dX3_lookFrom_0 rfl ?_
  refine aw_aload_n hC dX3_lookFrom_1 rfl ?_
  refine aw_g3r (k := 0) (a := 20) hC dX3_lookFrom_2 lkRX3_27 (by decide) rfl rfl rfl (Or.inl ⟨hbt, by decide⟩) ?_
  obtain ⟨k1, hF⟩ := gd_some hF
  refine aw_gL2N hC hbt k1 dX3_lookFrom_5 lkRX3_48 ?_
  refine aw_iload_n hC dX3_lookFrom_8 rfl ?_
  obtain ⟨g2, hF⟩ := gd_some hF
  refine aw_iaload (a := (Int.toNat ((h 20 0) + 2))) hC dX3_lookFrom_9 (lnd2 k1).1 (lnd2 k1).2.1 (Or.inl ⟨hbt, (lnd2 k1).2.2⟩) g2.1 g2.2 ?_
  refine aw_aload_n hC dX3_lookFrom_10 rfl ?_
  refine aw_g3r (k := 0) (a := 20) hC dX3_lookFrom_11 lkRX3_27 (by decide) rfl rfl rfl (Or.inl ⟨hbt, by decide⟩) ?_
  refine aw_gL3N hC hbt k1 dX3_lookFrom_14 lkRX3_69 ?_
  refine aw_iload_n hC dX3_lookFrom_17 rfl ?_
  obtain ⟨g3, hF⟩ := gd_some hF
  refine aw_iaload (a := (Int.toNat ((h 20 0) + 3))) hC dX3_lookFrom_18 (lnd3 k1).1 (lnd3 k1).2.1 (Or.inl ⟨hbt, (lnd3 k1).2.2⟩) g3.1 g3.2 ?_
  refine aw_aload_n hC dX3_lookFrom_19 rfl ?_
  refine aw_gc3 (k := 1) (a := 20) (b := 21) hC hbt dX3_lookFrom_20 lkRX3_9 (by decide) rfl rfl rfl (by decide) (by decide) ?_
  refine aw_bipush hC dX3_lookFrom_23 (by decide) (by decide) ?_
  refine aw_iload_n hC dX3_lookFrom_25 rfl ?_
  refine aw_iadd hC dX3_lookFrom_26 ?_
  obtain ⟨g4, hF⟩ := gd_some hF
  refine aw_iaload (a := 21) hC dX3_lookFrom_27 rfl rfl (Or.inl ⟨hbt, by decide⟩) g4.1 g4.2 ?_
  refine aw_aload_n hC dX3_lookFrom_28 rfl ?_
  refine aw_gc3 (k := 1) (a := 20) (b := 21) hC hbt dX3_lookFrom_29 lkRX3_9 (by decide) rfl rfl rfl (by decide) (by decide) ?_
  refine aw_bipush hC dX3_lookFrom_32 (by decide) (by decide) ?_
  refine aw_iload_n hC dX3_lookFrom_34 rfl ?_
  refine aw_iadd hC dX3_lookFrom_35 ?_
  obtain ⟨g5, hF⟩ := gd_some hF
  refine aw_iaload (a := 21) hC dX3_lookFrom_36 rfl rfl (Or.inl ⟨hbt, by decide⟩) g5.1 g5.2 ?_
  obtain ⟨r6, h8, q7, hF⟩ := bd_some hF
  refine clRX3_72 hC hRm hbt dX3_lookFrom_37 rfl rfl (by decide) (Nat.le_of_ble_eq_true rfl) (Nat.le_of_ble_eq_true rfl) (ok_X3_look q7) ?_
  exact aw_return hC hZ (Nat.zero_le _) (Nat.zero_le _) hr dX3_lookFrom_40 (hK _ _ (Option.some.inj hF).symm)
def fX3_looksOver_l5 (x1 : Int) (x2 : Int) (x4 : Int) (h : Hp) : Option ((Int × Int × Hp) ⊕ (Int × Hp)) :=
  gd_ ((h 20 0) = 1 ∨ (h 20 0) = 9) ((if (h (Int.toNat ((h 20 0))) 3) ≤ x4 then some (.inr (x2, h)) else bp_ (fX5_hasBit x1 x4 h) (fun r3 => (if r3 = 0 then some (.inl (x2, (i_add x4 1), h)) else bd_ (fX3_lookFrom x4 h) (fun r7 h9 => lb_ ((l_or x2 ((h9 20 12)))) (fun v10 => some (.inl (v10, (i_add x4 1), h9))))))))
def fX3_looksOver (x1 : Int) (h : Hp) : Option (Int × Hp) :=
  bp_ (it_ (fun s => fX3_looksOver_l5 x1 s.1 s.2.1 s.2.2) FU (0, 0, h)) (fun e12 => (fun y13 h14 => some (y13, h14)) e12.1 e12.2)
theorem fX3_looksOver_l5_ok {G : GD} {X : CX} {n : Nat} {Q : Av → Nat → Hp → Prop} (hC : Cx G X RX3 cX3_looksOver) (hZ : ZOK X G Q 0 0) (hRm : X.R = rmd 3 0 0) (hbt : X.bt = true) (hr : X.meth.sig.returnType = (some .long)) {x1 : Int} : ∀ (f : Nat) (x2 : Int) (x4 : Int) (h : Hp) (r : Int × Hp), it_ (fun s => fX3_looksOver_l5 x1 s.1 s.2.1 s.2.2) f (x2, x4, h) = some r → (∀ (y2 : Int) (h9 : Hp), r = (y2, h9) → AW G X 46 [(9, 0), (9, 0), (1, y2), (9, 0), (9, 0)] [] n h9 0 0) → AW G X 5 [(2, ((20 : Nat) : Int)), (0, x1), (1, x2), (9, 0), (0, x4)] [] n h 0 0 := by
  intro f
  induction f with
  | zero => intro x2 x4 h r hI; cases hI
  | succ f ih0 =>
    intro x2 x4 h r hI hX
    obtain ⟨b, hF, hb1, hb2⟩ := it_succ hI
    have hF : fX3_looksOver_l5 x1 x2 x4 h = some b := hF
    unfold fX3_looksOver_l5 at hF
    refine aw_iload hC dX3_looksOver_5 rfl ?_
    refine aw_aload_n hC dX3_looksOver_7 rfl ?_
    refine aw_g3r (k := 0) (a := 20) hC dX3_looksOver_8 lkRX3_27 (by decide) rfl rfl rfl (Or.inl ⟨hbt, by decide⟩) ?_
    obtain ⟨k1, hF⟩ := gd_some hF
    refine aw_gLiN (k := 3) hC hbt k1 dX3_looksOver_11 lkRX3_44 (by decide) rfl ?_
    refine aw_icmp_ge (tgt := 46) hC dX3_looksOver_14 (by decide) (fun c2 => ?_) (fun c2 => ?_)
    · have hF := it_t hF c2
      refine aw_weak (ls' := [(9, 0), (9, 0), (1, x2), (9, 0), (9, 0)]) ⟨Or.inl rfl, Or.inl rfl, Or.inr rfl, Or.inl rfl, Or.inl rfl, trivial⟩ ?_
      exact hX _ _ (hb2 _ (Option.some.inj hF).symm).symm
    · have hF := it_f hF c2
      refine aw_iload_n hC dX3_looksOver_17 rfl ?_
      refine aw_i2l hC dX3_looksOver_18 ?_
      refine aw_iload hC dX3_looksOver_19 rfl ?_
      obtain ⟨r3, q4, hF⟩ := bp_some hF
      refine clRX3_98 hC hRm hbt dX3_looksOver_21 (Nat.le_of_ble_eq_true rfl) (Nat.le_of_ble_eq_true rfl) (ok_X5_hasBit q4) ?_
      refine aw_if_eq (tgt := 40) hC dX3_looksOver_24 (by decide) (fun c5 => ?_) (fun c5 => ?_)
      · have hF := it_t hF c5
        refine aw_iinc4 hC dX3_looksOver_40 rfl ?_
        refine aw_goto (tgt := 5) hC dX3_looksOver_43 (by decide) ?_
        exact ih0 _ _ _ r (hb1 _ (Option.some.inj hF).symm) hX
      · have hF := it_f hF c5
        refine aw_aload_n hC dX3_looksOver_27 rfl ?_
        refine aw_iload hC dX3_looksOver_28 rfl ?_
        obtain ⟨r7, h9, q8, hF⟩ := bd_some hF
        refine clRX3_123 hC hRm hbt dX3_looksOver_30 rfl rfl (by decide) (Nat.le_of_ble_eq_true rfl) (Nat.le_of_ble_eq_true rfl) (ok_X3_lookFrom q8) ?_
        refine aw_lload_n hC dX3_looksOver_33 rfl ?_
        refine aw_aload_n hC dX3_looksOver_34 rfl ?_
        refine aw_g3l (k := 12) (a := 20) hC dX3_looksOver_35 lkRX3_95 (by decide) rfl rfl rfl (Or.inl ⟨hbt, by decide⟩) ?_
        refine aw_lor hC dX3_looksOver_38 ?_
        obtain ⟨v10, ev10, hF⟩ := lb_some hF
        refine aw_eqT ev10 ?_
        clear ev10
        refine aw_lstore2 hC dX3_looksOver_39 rfl ?_
        refine aw_iinc4 hC dX3_looksOver_40 rfl ?_
        refine aw_goto (tgt := 5) hC dX3_looksOver_43 (by decide) ?_
        exact ih0 _ _ _ r (hb1 _ (Option.some.inj hF).symm) hX
theorem ok_X3_looksOver {G : GD} {n : Nat} {x1 : Int} {h : Hp} {res : Int × Hp} (hF : fX3_looksOver x1 h = some res) : Con G yX3_looksOver cX3_looksOver 5 (some .long) 3 0 0 true [(2, ((20 : Nat) : Int)), (0, x1)] n h (FQ 1 n res) := by
  refine con_of (pad := 3) (own := RX3) (plainFor_of_name (by decide)) rfl rfl ?_
  intro X hC hbt hr hnm hZ hRm hn0
  have hK : ∀ (x9 : Int) (h9 : Hp), res = (x9, h9) → FQ 1 n res (1, x9) n h9 := fun x9 h9 e => by subst e; exact ⟨rfl, rfl, rfl⟩
  unfold fX3_looksOver at hF
  show AW G X 0 [(2, ((20 : Nat) : Int)), (0, x1), (9, 0), (9, 0), (9, 0)] [] n h 0 0
  refine aw_lconst (v := 0) hC dX3_looksOver_0 (by decide) (by decide) ?_
  refine aw_lstore2 hC dX3_looksOver_1 rfl ?_
  refine aw_iconst hC dX3_looksOver_2 (by decide) ?_
  refine aw_istore4 hC dX3_looksOver_3 rfl ?_
  obtain ⟨e12, he, hF⟩ := bp_some hF
  refine fX3_looksOver_l5_ok hC hZ hRm hbt hr FU _ _ _ e12 he (fun y13 h14 er => ?_)
  replace er := er.symm
  subst er
  try dsimp only at hF
  refine aw_lload_n hC dX3_looksOver_46 rfl ?_
  exact aw_lreturn hC hZ (Nat.zero_le _) (Nat.zero_le _) hr dX3_looksOver_47 (hK _ _ (Option.some.inj hF).symm)
def fX3_milesOf (x1 : Int) (h : Hp) : Option (Int × Hp) :=
  bd_ (fX3_lookFrom x1 h) (fun r1 h3 => some ((h3 20 9), h3))
theorem ok_X3_milesOf {G : GD} {n : Nat} {x1 : Int} {h : Hp} {res : Int × Hp} (hF : fX3_milesOf x1 h = some res) : Con G yX3_milesOf cX3_milesOf 2 (some .int) 3 0 0 true [(2, ((20 : Nat) : Int)), (0, x1)] n h (FQ 0 n res) := by
  refine con_of (pad := 0) (own := RX3) (plainFor_of_name (by decide)) rfl rfl ?_
  intro X hC hbt hr hnm hZ hRm hn0
  have hK : ∀ (x9 : Int) (h9 : Hp), res = (x9, h9) → FQ 0 n res (0, x9) n h9 := fun x9 h9 e => by subst e; exact ⟨rfl, rfl, rfl⟩
  unfold fX3_milesOf at hF
  show AW G X 0 [(2, ((20 : Nat) : Int)), (0, x1)] [] n h 0 0
  refine aw_aload_n hC dX3_milesOf_0 rfl ?_
  refine aw_iload_n hC dX3_milesOf_1 rfl ?_
  obtain ⟨r1, h3, q2, hF⟩ := bd_some hF
  refine clRX3_123 hC hRm hbt dX3_milesOf_2 rfl rfl (by decide) (Nat.le_of_ble_eq_true rfl) (Nat.le_of_ble_eq_true rfl) (ok_X3_lookFrom q2) ?_
  refine aw_aload_n hC dX3_milesOf_5 rfl ?_
  refine aw_g3i (k := 9) (a := 20) hC dX3_milesOf_6 lkRX3_85 (by decide) rfl rfl rfl (Or.inl ⟨hbt, by decide⟩) ?_
  exact aw_ireturn hC hZ (Nat.zero_le _) (Nat.zero_le _) hr dX3_milesOf_9 (hK _ _ (Option.some.inj hF).symm)
def fX3_housesInView_l4 (x1 : Int) (x2 : Int) (h : Hp) : Option ((Int × Int) ⊕ (Int)) :=
  gd_ ((h 20 0) = 1 ∨ (h 20 0) = 9) ((if (h (Int.toNat ((h 20 0))) 3) ≤ x2 then some (.inr x1) else gd_ (0 ≤ x2 ∧ x2 < 6) (lb_ ((i_or x1 ((i_shl ((l_2i ((l_and ((l_ushr ((h 20 11)) ((h (Int.toNat ((h 20 0) + 2)) (Int.toNat x2))))) 1)))) x2)))) (fun v4 => some (.inl (v4, (i_add x2 1)))))))
def fX3_housesInView  (h : Hp) : Option (Int) :=
  bp_ (it_ (fun s => fX3_housesInView_l4 s.1 s.2 h) FU (0, 0)) (fun e6 => (fun y7 => some y7) e6)
theorem fX3_housesInView_l4_ok {G : GD} {X : CX} {n : Nat} {Q : Av → Nat → Hp → Prop} (hC : Cx G X RX3 cX3_housesInView) (hZ : ZOK X G Q 0 0) (hRm : X.R = rmd 0 0 0) (hbt : X.bt = true) (hr : X.meth.sig.returnType = (some .int))  {h : Hp} : ∀ (f : Nat) (x1 : Int) (x2 : Int) (r : Int), it_ (fun s => fX3_housesInView_l4 s.1 s.2 h) f (x1, x2) = some r → (∀ (y1 : Int), r = y1 → AW G X 43 [(9, 0), (0, y1), (9, 0)] [] n h 0 0) → AW G X 4 [(2, ((20 : Nat) : Int)), (0, x1), (0, x2)] [] n h 0 0 := by
  intro f
  induction f with
  | zero => intro x1 x2 r hI; cases hI
  | succ f ih0 =>
    intro x1 x2 r hI hX
    obtain ⟨b, hF, hb1, hb2⟩ := it_succ hI
    have hF : fX3_housesInView_l4 x1 x2 h = some b := hF
    unfold fX3_housesInView_l4 at hF
    refine aw_iload_n hC dX3_housesInView_4 rfl ?_
    refine aw_aload_n hC dX3_housesInView_5 rfl ?_
    refine aw_g3r (k := 0) (a := 20) hC dX3_housesInView_6 lkRX3_27 (by decide) rfl rfl rfl (Or.inl ⟨hbt, by decide⟩) ?_
    obtain ⟨k1, hF⟩ := gd_some hF
    refine aw_gLiN (k := 3) hC hbt k1 dX3_housesInView_9 lkRX3_44 (by decide) rfl ?_
    refine aw_icmp_ge (tgt := 43) hC dX3_housesInView_12 (by decide) (fun c2 => ?_) (fun c2 => ?_)
    · have hF := it_t hF c2
      refine aw_weak (ls' := [(9, 0), (0, x1), (9, 0)]) ⟨Or.inl rfl, Or.inr rfl, Or.inl rfl, trivial⟩ ?_
      exact hX _ (hb2 _ (Option.some.inj hF).symm).symm
    · have hF := it_f hF c2
      refine aw_iload_n hC dX3_housesInView_15 rfl ?_
      refine aw_aload_n hC dX3_housesInView_16 rfl ?_
      refine aw_g3l (k := 11) (a := 20) hC dX3_housesInView_17 lkRX3_91 (by decide) rfl rfl rfl (Or.inl ⟨hbt, by decide⟩) ?_
      refine aw_aload_n hC dX3_housesInView_20 rfl ?_
      refine aw_g3r (k := 0) (a := 20) hC dX3_housesInView_21 lkRX3_27 (by decide) rfl rfl rfl (Or.inl ⟨hbt, by decide⟩) ?_
      refine aw_gL2N hC hbt k1 dX3_housesInView_24 lkRX3_48 ?_
      refine aw_iload_n hC dX3_housesInView_27 rfl ?_
      obtain ⟨g3, hF⟩ := gd_some hF
      refine aw_iaload (a := (Int.toNat ((h 20 0) + 2))) hC dX3_housesInView_28 (lnd2 k1).1 (lnd2 k1).2.1 (Or.inl ⟨hbt, (lnd2 k1).2.2⟩) g3.1 g3.2 ?_
      refine aw_lushr hC dX3_housesInView_29 ?_
      refine aw_lconst (v := 1) hC dX3_housesInView_30 (by decide) (by decide) ?_
      refine aw_land hC dX3_housesInView_31 ?_
      refine aw_l2i hC dX3_housesInView_32 ?_
      refine aw_iload_n hC dX3_housesInView_33 rfl ?_
      refine aw_ishl hC dX3_housesInView_34 ?_
      refine aw_ior hC dX3_housesInView_35 ?_
      obtain ⟨v4, ev4, hF⟩ := lb_some hF
      refine aw_eqT ev4 ?_
      clear ev4
      refine aw_istore1 hC dX3_housesInView_36 rfl ?_
      refine aw_iinc2 hC dX3_housesInView_37 rfl ?_
      refine aw_goto (tgt := 4) hC dX3_housesInView_40 (by decide) ?_
      exact ih0 _ _ r (hb1 _ (Option.some.inj hF).symm) hX
theorem ok_X3_housesInView {G : GD} {n : Nat}  {h : Hp} {res : Int} (hF : fX3_housesInView  h = some res) : Con G yX3_housesInView cX3_housesInView 3 (some .int) 0 0 0 true [(2, ((20 : Nat) : Int))] n h (FQ 0 n (res, h)) := by
  refine con_of (pad := 2) (own := RX3) (plainFor_of_name (by decide)) rfl rfl ?_
  intro X hC hbt hr hnm hZ hRm hn0
  have hK : ∀ (x9 : Int), res = x9 → FQ 0 n (res, h) (0, x9) n h := fun x9 e => by subst e; exact ⟨rfl, rfl, rfl⟩
  unfold fX3_housesInView at hF
  show AW G X 0 [(2, ((20 : Nat) : Int)), (9, 0), (9, 0)] [] n h 0 0
  refine aw_iconst hC dX3_housesInView_0 (by decide) ?_
  refine aw_istore1 hC dX3_housesInView_1 rfl ?_
  refine aw_iconst hC dX3_housesInView_2 (by decide) ?_
  refine aw_istore2 hC dX3_housesInView_3 rfl ?_
  obtain ⟨e6, he, hF⟩ := bp_some hF
  refine fX3_housesInView_l4_ok hC hZ hRm hbt hr FU _ _ e6 he (fun y7 er => ?_)
  replace er := er.symm
  subst er
  try dsimp only at hF
  refine aw_iload_n hC dX3_housesInView_43 rfl ?_
  exact aw_ireturn hC hZ (Nat.zero_le _) (Nat.zero_le _) hr dX3_housesInView_44 (hK _ (Option.some.inj hF).symm)
def fX3_housesSeenFrom (x1 : Int) (h : Hp) : Option (Int × Hp) :=
  bd_ (fX3_lookFrom x1 h) (fun r1 h3 => bp_ (fX3_housesInView h3) (fun r4 => some (r4, h3)))
theorem ok_X3_housesSeenFrom {G : GD} {n : Nat} {x1 : Int} {h : Hp} {res : Int × Hp} (hF : fX3_housesSeenFrom x1 h = some res) : Con G yX3_housesSeenFrom cX3_housesSeenFrom 2 (some .int) 3 0 0 true [(2, ((20 : Nat) : Int)), (0, x1)] n h (FQ 0 n res) := by
  refine con_of (pad := 0) (own := RX3) (plainFor_of_name (by decide)) rfl rfl ?_
  intro X hC hbt hr hnm hZ hRm hn0
  have hK : ∀ (x9 : Int) (h9 : Hp), res = (x9, h9) → FQ 0 n res (0, x9) n h9 := fun x9 h9 e => by subst e; exact ⟨rfl, rfl, rfl⟩
  unfold fX3_housesSeenFrom at hF
  show AW G X 0 [(2, ((20 : Nat) : Int)), (0, x1)] [] n h 0 0
  refine aw_aload_n hC dX3_housesSeenFrom_0 rfl ?_
  refine aw_iload_n hC dX3_housesSeenFrom_1 rfl ?_
  obtain ⟨r1, h3, q2, hF⟩ := bd_some hF
  refine clRX3_123 hC hRm hbt dX3_housesSeenFrom_2 rfl rfl (by decide) (Nat.le_of_ble_eq_true rfl) (Nat.le_of_ble_eq_true rfl) (ok_X3_lookFrom q2) ?_
  refine aw_aload_n hC dX3_housesSeenFrom_5 rfl ?_
  obtain ⟨r4, q5, hF⟩ := bp_some hF
  refine clRX3_127 hC hRm hbt dX3_housesSeenFrom_6 rfl rfl (by decide) (Nat.le_of_ble_eq_true rfl) (Nat.le_of_ble_eq_true rfl) (ok_X3_housesInView q5) ?_
  exact aw_ireturn hC hZ (Nat.zero_le _) (Nat.zero_le _) hr dX3_housesSeenFrom_9 (hK _ _ (Option.some.inj hF).symm)
def fX3_housesThatSee_l4 (x1 : Int) (x2 : Int) (x3 : Int) (h : Hp) : Option ((Int × Int × Hp) ⊕ (Int × Hp)) :=
  gd_ ((h 20 0) = 1 ∨ (h 20 0) = 9) ((if (h (Int.toNat ((h 20 0))) 3) ≤ x3 then some (.inr (x2, h)) else bd_ (fX3_lookFrom x3 h) (fun r3 h5 => bp_ (fX5_hasBit ((h5 20 11)) x1 h5) (fun r6 => (if r6 = 0 then some (.inl (x2, (i_add x3 1), h5)) else lb_ ((i_or x2 ((i_shl 1 x3)))) (fun v10 => some (.inl (v10, (i_add x3 1), h5))))))))
def fX3_housesThatSee (x1 : Int) (h : Hp) : Option (Int × Hp) :=
  bp_ (it_ (fun s => fX3_housesThatSee_l4 x1 s.1 s.2.1 s.2.2) FU (0, 0, h)) (fun e12 => (fun y13 h14 => some (y13, h14)) e12.1 e12.2)
theorem fX3_housesThatSee_l4_ok {G : GD} {X : CX} {n : Nat} {Q : Av → Nat → Hp → Prop} (hC : Cx G X RX3 cX3_housesThatSee) (hZ : ZOK X G Q 0 0) (hRm : X.R = rmd 3 0 0) (hbt : X.bt = true) (hr : X.meth.sig.returnType = (some .int)) {x1 : Int} : ∀ (f : Nat) (x2 : Int) (x3 : Int) (h : Hp) (r : Int × Hp), it_ (fun s => fX3_housesThatSee_l4 x1 s.1 s.2.1 s.2.2) f (x2, x3, h) = some r → (∀ (y2 : Int) (h9 : Hp), r = (y2, h9) → AW G X 43 [(9, 0), (9, 0), (0, y2), (9, 0)] [] n h9 0 0) → AW G X 4 [(2, ((20 : Nat) : Int)), (0, x1), (0, x2), (0, x3)] [] n h 0 0 := by
  intro f
  induction f with
  | zero => intro x2 x3 h r hI; cases hI
  | succ f ih0 =>
    intro x2 x3 h r hI hX
    obtain ⟨b, hF, hb1, hb2⟩ := it_succ hI
    have hF : fX3_housesThatSee_l4 x1 x2 x3 h = some b := hF
    unfold fX3_housesThatSee_l4 at hF
    refine aw_iload_n hC dX3_housesThatSee_4 rfl ?_
    refine aw_aload_n hC dX3_housesThatSee_5 rfl ?_
    refine aw_g3r (k := 0) (a := 20) hC dX3_housesThatSee_6 lkRX3_27 (by decide) rfl rfl rfl (Or.inl ⟨hbt, by decide⟩) ?_
    obtain ⟨k1, hF⟩ := gd_some hF
    refine aw_gLiN (k := 3) hC hbt k1 dX3_housesThatSee_9 lkRX3_44 (by decide) rfl ?_
    refine aw_icmp_ge (tgt := 43) hC dX3_housesThatSee_12 (by decide) (fun c2 => ?_) (fun c2 => ?_)
    · have hF := it_t hF c2
      refine aw_weak (ls' := [(9, 0), (9, 0), (0, x2), (9, 0)]) ⟨Or.inl rfl, Or.inl rfl, Or.inr rfl, Or.inl rfl, trivial⟩ ?_
      exact hX _ _ (hb2 _ (Option.some.inj hF).symm).symm
    · have hF := it_f hF c2
      refine aw_aload_n hC dX3_housesThatSee_15 rfl ?_
      refine aw_iload_n hC dX3_housesThatSee_16 rfl ?_
      obtain ⟨r3, h5, q4, hF⟩ := bd_some hF
      refine clRX3_123 hC hRm hbt dX3_housesThatSee_17 rfl rfl (by decide) (Nat.le_of_ble_eq_true rfl) (Nat.le_of_ble_eq_true rfl) (ok_X3_lookFrom q4) ?_
      refine aw_aload_n hC dX3_housesThatSee_20 rfl ?_
      refine aw_g3l (k := 11) (a := 20) hC dX3_housesThatSee_21 lkRX3_91 (by decide) rfl rfl rfl (Or.inl ⟨hbt, by decide⟩) ?_
      refine aw_iload_n hC dX3_housesThatSee_24 rfl ?_
      obtain ⟨r6, q7, hF⟩ := bp_some hF
      refine clRX3_98 hC hRm hbt dX3_housesThatSee_25 (Nat.le_of_ble_eq_true rfl) (Nat.le_of_ble_eq_true rfl) (ok_X5_hasBit q7) ?_
      refine aw_if_eq (tgt := 37) hC dX3_housesThatSee_28 (by decide) (fun c8 => ?_) (fun c8 => ?_)
      · have hF := it_t hF c8
        refine aw_iinc3 hC dX3_housesThatSee_37 rfl ?_
        refine aw_goto (tgt := 4) hC dX3_housesThatSee_40 (by decide) ?_
        exact ih0 _ _ _ r (hb1 _ (Option.some.inj hF).symm) hX
      · have hF := it_f hF c8
        refine aw_iload_n hC dX3_housesThatSee_31 rfl ?_
        refine aw_iconst hC dX3_housesThatSee_32 (by decide) ?_
        refine aw_iload_n hC dX3_housesThatSee_33 rfl ?_
        refine aw_ishl hC dX3_housesThatSee_34 ?_
        refine aw_ior hC dX3_housesThatSee_35 ?_
        obtain ⟨v10, ev10, hF⟩ := lb_some hF
        refine aw_eqT ev10 ?_
        clear ev10
        refine aw_istore2 hC dX3_housesThatSee_36 rfl ?_
        refine aw_iinc3 hC dX3_housesThatSee_37 rfl ?_
        refine aw_goto (tgt := 4) hC dX3_housesThatSee_40 (by decide) ?_
        exact ih0 _ _ _ r (hb1 _ (Option.some.inj hF).symm) hX
theorem ok_X3_housesThatSee {G : GD} {n : Nat} {x1 : Int} {h : Hp} {res : Int × Hp} (hF : fX3_housesThatSee x1 h = some res) : Con G yX3_housesThatSee cX3_housesThatSee 4 (some .int) 3 0 0 true [(2, ((20 : Nat) : Int)), (0, x1)] n h (FQ 0 n res) := by
  refine con_of (pad := 2) (own := RX3) (plainFor_of_name (by decide)) rfl rfl ?_
  intro X hC hbt hr hnm hZ hRm hn0
  have hK : ∀ (x9 : Int) (h9 : Hp), res = (x9, h9) → FQ 0 n res (0, x9) n h9 := fun x9 h9 e => by subst e; exact ⟨rfl, rfl, rfl⟩
  unfold fX3_housesThatSee at hF
  show AW G X 0 [(2, ((20 : Nat) : Int)), (0, x1), (9, 0), (9, 0)] [] n h 0 0
  refine aw_iconst hC dX3_housesThatSee_0 (by decide) ?_
  refine aw_istore2 hC dX3_housesThatSee_1 rfl ?_
  refine aw_iconst hC dX3_housesThatSee_2 (by decide) ?_
  refine aw_istore3 hC dX3_housesThatSee_3 rfl ?_
  obtain ⟨e12, he, hF⟩ := bp_some hF
  refine fX3_housesThatSee_l4_ok hC hZ hRm hbt hr FU _ _ _ e12 he (fun y13 h14 er => ?_)
  replace er := er.symm
  subst er
  try dsimp only at hF
  refine aw_iload_n hC dX3_housesThatSee_43 rfl ?_
  exact aw_ireturn hC hZ (Nat.zero_le _) (Nat.zero_le _) hr dX3_housesThatSee_44 (hK _ _ (Option.some.inj hF).symm)
def fX3_together_j110 (x1 : Int) (x2 : Int) (h : Hp) : Option (Int) :=
  (if x2 = 0 then some 0 else gd_ (x2 ≠ 0) (some ((i_div x1 x2))))
def fX3_together (x0 : Int) (x1 : Int) (x2 : Int) (h : Hp) : Option (Int) :=
  (if x0 = 1 then (if x1 = 0 then (if x2 = 0 then some 0 else some 1) else some 1) else if x0 = 2 then (if x1 = 0 then some 0 else (if x2 = 0 then some 0 else some 1)) else if x0 = 3 then fX3_together_j110 x1 x2 h else if x0 = 4 then (if x2 ≤ x1 then some 0 else some 1) else if x0 = 5 then (if x1 = x2 then some 1 else some 0) else if x0 = 6 then some ((i_add x1 x2)) else if x0 = 7 then some ((i_sub x1 x2)) else if x0 = 8 then some ((i_mul x1 x2)) else fX3_together_j110 x1 x2 h)
theorem fX3_together_j110_ok {G : GD} {X : CX} {n : Nat} {Q : Av → Nat → Hp → Prop} (hC : Cx G X RX3 cX3_together) (hZ : ZOK X G Q 0 0) (hRm : X.R = rmd 0 0 0) (hbt : X.bt = true) (hr : X.meth.sig.returnType = (some .int)) {x1 : Int} {x2 : Int} {h : Hp} {res : Int} (hF : fX3_together_j110 x1 x2 h = some res) (hK : ∀ (x9 : Int), res = x9 → Q (0, x9) n h) : AW G X 110 [(9, 0), (0, x1), (0, x2)] [] n h 0 0 := by
  unfold fX3_together_j110 at hF
  refine aw_iload_n hC dX3_together_110 rfl ?_
  refine aw_if_ne (tgt := 118) hC dX3_together_111 (by decide) (fun c8 => ?_) (fun c8 => ?_)
  · have hF := it_f hF c8
    refine aw_iload_n hC dX3_together_118 rfl ?_
    refine aw_iload_n hC dX3_together_119 rfl ?_
    obtain ⟨g9, hF⟩ := gd_some hF
    refine aw_idiv hC dX3_together_120 g9 ?_
    exact aw_ireturn hC hZ (Nat.zero_le _) (Nat.zero_le _) hr dX3_together_121 (hK _ (Option.some.inj hF).symm)
  · have hF := it_t hF c8
    refine aw_iconst hC dX3_together_114 (by decide) ?_
    refine aw_goto (tgt := 121) hC dX3_together_115 (by decide) ?_
    exact aw_ireturn hC hZ (Nat.zero_le _) (Nat.zero_le _) hr dX3_together_121 (hK _ (Option.some.inj hF).symm)
theorem ok_X3_together {G : GD} {n : Nat} {x0 : Int} {x1 : Int} {x2 : Int} {h : Hp} {res : Int} (hF : fX3_together x0 x1 x2 h = some res) : Con G yX3_together cX3_together 3 (some .int) 0 0 0 true [(0, x0), (0, x1), (0, x2)] n h (FQ 0 n (res, h)) := by
  refine con_of (pad := 0) (own := RX3) (plainFor_of_name (by decide)) rfl rfl ?_
  intro X hC hbt hr hnm hZ hRm hn0
  have hK : ∀ (x9 : Int), res = x9 → FQ 0 n (res, h) (0, x9) n h := fun x9 e => by subst e; exact ⟨rfl, rfl, rfl⟩
  unfold fX3_together at hF
  show AW G X 0 [(0, x0), (0, x1), (0, x2)] [] n h 0 0
  refine aw_iload_n hC dX3_together_0 rfl ?_
  by_cases c1 : x0 = 1
  · have hF := it_t hF c1
    refine aw_tableIn (off := 47) (tgt := 48) hC dX3_together_1 (by omega) (by omega) (by rw [c1]; rfl) (by decide) ?_
    refine aw_iload_n hC dX3_together_48 rfl ?_
    refine aw_if_ne (tgt := 56) hC dX3_together_49 (by decide) (fun c2 => ?_) (fun c2 => ?_)
    · have hF := it_f hF c2
      refine aw_iconst hC dX3_together_56 (by decide) ?_
      refine aw_goto (tgt := 61) hC dX3_together_57 (by decide) ?_
      exact aw_ireturn hC hZ (Nat.zero_le _) (Nat.zero_le _) hr dX3_together_61 (hK _ (Option.some.inj hF).symm)
    · have hF := it_t hF c2
      refine aw_iload_n hC dX3_together_52 rfl ?_
      refine aw_if_eq (tgt := 60) hC dX3_together_53 (by decide) (fun c3 => ?_) (fun c3 => ?_)
      · have hF := it_t hF c3
        refine aw_iconst hC dX3_together_60 (by decide) ?_
        exact aw_ireturn hC hZ (Nat.zero_le _) (Nat.zero_le _) hr dX3_together_61 (hK _ (Option.some.inj hF).symm)
      · have hF := it_f hF c3
        refine aw_iconst hC dX3_together_56 (by decide) ?_
        refine aw_goto (tgt := 61) hC dX3_together_57 (by decide) ?_
        exact aw_ireturn hC hZ (Nat.zero_le _) (Nat.zero_le _) hr dX3_together_61 (hK _ (Option.some.inj hF).symm)
  have hF := it_f hF c1
  by_cases c4 : x0 = 2
  · have hF := it_t hF c4
    refine aw_tableIn (off := 61) (tgt := 62) hC dX3_together_1 (by omega) (by omega) (by rw [c4]; rfl) (by decide) ?_
    refine aw_iload_n hC dX3_together_62 rfl ?_
    refine aw_if_eq (tgt := 74) hC dX3_together_63 (by decide) (fun c5 => ?_) (fun c5 => ?_)
    · have hF := it_t hF c5
      refine aw_iconst hC dX3_together_74 (by decide) ?_
      exact aw_ireturn hC hZ (Nat.zero_le _) (Nat.zero_le _) hr dX3_together_75 (hK _ (Option.some.inj hF).symm)
    · have hF := it_f hF c5
      refine aw_iload_n hC dX3_together_66 rfl ?_
      refine aw_if_eq (tgt := 74) hC dX3_together_67 (by decide) (fun c6 => ?_) (fun c6 => ?_)
      · have hF := it_t hF c6
        refine aw_iconst hC dX3_together_74 (by decide) ?_
        exact aw_ireturn hC hZ (Nat.zero_le _) (Nat.zero_le _) hr dX3_together_75 (hK _ (Option.some.inj hF).symm)
      · have hF := it_f hF c6
        refine aw_iconst hC dX3_together_70 (by decide) ?_
        refine aw_goto (tgt := 75) hC dX3_together_71 (by decide) ?_
        exact aw_ireturn hC hZ (Nat.zero_le _) (Nat.zero_le _) hr dX3_together_75 (hK _ (Option.some.inj hF).symm)
  have hF := it_f hF c4
  by_cases c7 : x0 = 3
  · have hF := it_t hF c7
    refine aw_tableIn (off := 109) (tgt := 110) hC dX3_together_1 (by omega) (by omega) (by rw [c7]; rfl) (by decide) ?_
    refine aw_weak (ls' := [(9, 0), (0, x1), (0, x2)]) ⟨Or.inl rfl, Or.inr rfl, Or.inr rfl, trivial⟩ ?_
    exact fX3_together_j110_ok hC hZ hRm hbt hr hF hK
  have hF := it_f hF c7
  by_cases c10 : x0 = 4
  · have hF := it_t hF c10
    refine aw_tableIn (off := 75) (tgt := 76) hC dX3_together_1 (by omega) (by omega) (by rw [c10]; rfl) (by decide) ?_
    refine aw_iload_n hC dX3_together_76 rfl ?_
    refine aw_iload_n hC dX3_together_77 rfl ?_
    refine aw_icmp_ge (tgt := 85) hC dX3_together_78 (by decide) (fun c11 => ?_) (fun c11 => ?_)
    · have hF := it_t hF c11
      refine aw_iconst hC dX3_together_85 (by decide) ?_
      exact aw_ireturn hC hZ (Nat.zero_le _) (Nat.zero_le _) hr dX3_together_86 (hK _ (Option.some.inj hF).symm)
    · have hF := it_f hF c11
      refine aw_iconst hC dX3_together_81 (by decide) ?_
      refine aw_goto (tgt := 86) hC dX3_together_82 (by decide) ?_
      exact aw_ireturn hC hZ (Nat.zero_le _) (Nat.zero_le _) hr dX3_together_86 (hK _ (Option.some.inj hF).symm)
  have hF := it_f hF c10
  by_cases c12 : x0 = 5
  · have hF := it_t hF c12
    refine aw_tableIn (off := 86) (tgt := 87) hC dX3_together_1 (by omega) (by omega) (by rw [c12]; rfl) (by decide) ?_
    refine aw_iload_n hC dX3_together_87 rfl ?_
    refine aw_iload_n hC dX3_together_88 rfl ?_
    refine aw_icmp_ne (tgt := 96) hC dX3_together_89 (by decide) (fun c13 => ?_) (fun c13 => ?_)
    · have hF := it_f hF c13
      refine aw_iconst hC dX3_together_96 (by decide) ?_
      exact aw_ireturn hC hZ (Nat.zero_le _) (Nat.zero_le _) hr dX3_together_97 (hK _ (Option.some.inj hF).symm)
    · have hF := it_t hF c13
      refine aw_iconst hC dX3_together_92 (by decide) ?_
      refine aw_goto (tgt := 97) hC dX3_together_93 (by decide) ?_
      exact aw_ireturn hC hZ (Nat.zero_le _) (Nat.zero_le _) hr dX3_together_97 (hK _ (Option.some.inj hF).symm)
  have hF := it_f hF c12
  by_cases c14 : x0 = 6
  · have hF := it_t hF c14
    refine aw_tableIn (off := 97) (tgt := 98) hC dX3_together_1 (by omega) (by omega) (by rw [c14]; rfl) (by decide) ?_
    refine aw_iload_n hC dX3_together_98 rfl ?_
    refine aw_iload_n hC dX3_together_99 rfl ?_
    refine aw_iadd hC dX3_together_100 ?_
    exact aw_ireturn hC hZ (Nat.zero_le _) (Nat.zero_le _) hr dX3_together_101 (hK _ (Option.some.inj hF).symm)
  have hF := it_f hF c14
  by_cases c15 : x0 = 7
  · have hF := it_t hF c15
    refine aw_tableIn (off := 101) (tgt := 102) hC dX3_together_1 (by omega) (by omega) (by rw [c15]; rfl) (by decide) ?_
    refine aw_iload_n hC dX3_together_102 rfl ?_
    refine aw_iload_n hC dX3_together_103 rfl ?_
    refine aw_isub hC dX3_together_104 ?_
    exact aw_ireturn hC hZ (Nat.zero_le _) (Nat.zero_le _) hr dX3_together_105 (hK _ (Option.some.inj hF).symm)
  have hF := it_f hF c15
  by_cases c16 : x0 = 8
  · have hF := it_t hF c16
    refine aw_tableIn (off := 105) (tgt := 106) hC dX3_together_1 (by omega) (by omega) (by rw [c16]; rfl) (by decide) ?_
    refine aw_iload_n hC dX3_together_106 rfl ?_
    refine aw_iload_n hC dX3_together_107 rfl ?_
    refine aw_imul hC dX3_together_108 ?_
    exact aw_ireturn hC hZ (Nat.zero_le _) (Nat.zero_le _) hr dX3_together_109 (hK _ (Option.some.inj hF).symm)
  have hF := it_f hF c16
  refine aw_tableOut (tgt := 110) hC dX3_together_1 (by omega) (by decide) ?_
  refine aw_weak (ls' := [(9, 0), (0, x1), (0, x2)]) ⟨Or.inl rfl, Or.inr rfl, Or.inr rfl, trivial⟩ ?_
  exact fX3_together_j110_ok hC hZ hRm hbt hr hF hK
def fX3_valueOf (x1 : Int) (h : Hp) : Option (Int) :=
  (if x1 = 20 then some ((h 20 9)) else if x1 = 21 then some ((h 20 10)) else if x1 = 22 then gd_ (0 ≤ (h 20 5) ∧ (h 20 5) < 64) (some ((h 22 (Int.toNat ((h 20 5)))))) else if x1 = 23 then some ((h 20 6)) else if x1 = 24 then gd_ (0 ≤ (61 : Int) ∧ (61 : Int) < 62) (some ((h 21 (Int.toNat 61)))) else if x1 = 25 then bp_ (fX3_housesInView h) (fun r9 => bp_ (fJ6_bitCount_0f7a4 r9 h) (fun r11 => some r11)) else some ((h 20 7)))
theorem ok_X3_valueOf {G : GD} {n : Nat} {x1 : Int} {h : Hp} {res : Int} (hF : fX3_valueOf x1 h = some res) : Con G yX3_valueOf cX3_valueOf 2 (some .int) 1 0 0 true [(2, ((20 : Nat) : Int)), (0, x1)] n h (FQ 0 n (res, h)) := by
  refine con_of (pad := 0) (own := RX3) (plainFor_of_name (by decide)) rfl rfl ?_
  intro X hC hbt hr hnm hZ hRm hn0
  have hK : ∀ (x9 : Int), res = x9 → FQ 0 n (res, h) (0, x9) n h := fun x9 e => by subst e; exact ⟨rfl, rfl, rfl⟩
  unfold fX3_valueOf at hF
  show AW G X 0 [(2, ((20 : Nat) : Int)), (0, x1)] [] n h 0 0
  refine aw_iload_n hC dX3_valueOf_0 rfl ?_
  by_cases c1 : x1 = 20
  · have hF := it_t hF c1
    refine aw_tableIn (off := 39) (tgt := 40) hC dX3_valueOf_1 (by omega) (by omega) (by rw [c1]; rfl) (by decide) ?_
    refine aw_aload_n hC dX3_valueOf_40 rfl ?_
    refine aw_g3i (k := 9) (a := 20) hC dX3_valueOf_41 lkRX3_85 (by decide) rfl rfl rfl (Or.inl ⟨hbt, by decide⟩) ?_
    exact aw_ireturn hC hZ (Nat.zero_le _) (Nat.zero_le _) hr dX3_valueOf_44 (hK _ (Option.some.inj hF).symm)
  have hF := it_f hF c1
  by_cases c2 : x1 = 21
  · have hF := it_t hF c2
    refine aw_tableIn (off := 44) (tgt := 45) hC dX3_valueOf_1 (by omega) (by omega) (by rw [c2]; rfl) (by decide) ?_
    refine aw_aload_n hC dX3_valueOf_45 rfl ?_
    refine aw_g3i (k := 10) (a := 20) hC dX3_valueOf_46 lkRX3_88 (by decide) rfl rfl rfl (Or.inl ⟨hbt, by decide⟩) ?_
    exact aw_ireturn hC hZ (Nat.zero_le _) (Nat.zero_le _) hr dX3_valueOf_49 (hK _ (Option.some.inj hF).symm)
  have hF := it_f hF c2
  by_cases c3 : x1 = 22
  · have hF := it_t hF c3
    refine aw_tableIn (off := 49) (tgt := 50) hC dX3_valueOf_1 (by omega) (by omega) (by rw [c3]; rfl) (by decide) ?_
    refine aw_aload_n hC dX3_valueOf_50 rfl ?_
    refine aw_gc3 (k := 2) (a := 20) (b := 22) hC hbt dX3_valueOf_51 lkRX3_15 (by decide) rfl rfl rfl (by decide) (by decide) ?_
    refine aw_aload_n hC dX3_valueOf_54 rfl ?_
    refine aw_g3i (k := 5) (a := 20) hC dX3_valueOf_55 lkRX3_76 (by decide) rfl rfl rfl (Or.inl ⟨hbt, by decide⟩) ?_
    obtain ⟨g4, hF⟩ := gd_some hF
    refine aw_iaload (a := 22) hC dX3_valueOf_58 rfl rfl (Or.inl ⟨hbt, by decide⟩) g4.1 g4.2 ?_
    exact aw_ireturn hC hZ (Nat.zero_le _) (Nat.zero_le _) hr dX3_valueOf_59 (hK _ (Option.some.inj hF).symm)
  have hF := it_f hF c3
  by_cases c5 : x1 = 23
  · have hF := it_t hF c5
    refine aw_tableIn (off := 59) (tgt := 60) hC dX3_valueOf_1 (by omega) (by omega) (by rw [c5]; rfl) (by decide) ?_
    refine aw_aload_n hC dX3_valueOf_60 rfl ?_
    refine aw_g3i (k := 6) (a := 20) hC dX3_valueOf_61 lkRX3_79 (by decide) rfl rfl rfl (Or.inl ⟨hbt, by decide⟩) ?_
    exact aw_ireturn hC hZ (Nat.zero_le _) (Nat.zero_le _) hr dX3_valueOf_64 (hK _ (Option.some.inj hF).symm)
  have hF := it_f hF c5
  by_cases c6 : x1 = 24
  · have hF := it_t hF c6
    refine aw_tableIn (off := 64) (tgt := 65) hC dX3_valueOf_1 (by omega) (by omega) (by rw [c6]; rfl) (by decide) ?_
    refine aw_aload_n hC dX3_valueOf_65 rfl ?_
    refine aw_gc3 (k := 1) (a := 20) (b := 21) hC hbt dX3_valueOf_66 lkRX3_9 (by decide) rfl rfl rfl (by decide) (by decide) ?_
    refine aw_bipush hC dX3_valueOf_69 (by decide) (by decide) ?_
    obtain ⟨g7, hF⟩ := gd_some hF
    refine aw_iaload (a := 21) hC dX3_valueOf_71 rfl rfl (Or.inl ⟨hbt, by decide⟩) g7.1 g7.2 ?_
    exact aw_ireturn hC hZ (Nat.zero_le _) (Nat.zero_le _) hr dX3_valueOf_72 (hK _ (Option.some.inj hF).symm)
  have hF := it_f hF c6
  by_cases c8 : x1 = 25
  · have hF := it_t hF c8
    refine aw_tableIn (off := 72) (tgt := 73) hC dX3_valueOf_1 (by omega) (by omega) (by rw [c8]; rfl) (by decide) ?_
    refine aw_aload_n hC dX3_valueOf_73 rfl ?_
    obtain ⟨r9, q10, hF⟩ := bp_some hF
    refine clRX3_127 hC hRm hbt dX3_valueOf_74 rfl rfl (by decide) (Nat.le_of_ble_eq_true rfl) (Nat.le_of_ble_eq_true rfl) (ok_X3_housesInView q10) ?_
    obtain ⟨r11, q12, hF⟩ := bp_some hF
    refine clRX3_172 hC hRm hbt dX3_valueOf_77 (Nat.le_of_ble_eq_true rfl) (Nat.le_of_ble_eq_true rfl) (ok_J6_bitCount_0f7a4 q12) ?_
    exact aw_ireturn hC hZ (Nat.zero_le _) (Nat.zero_le _) hr dX3_valueOf_80 (hK _ (Option.some.inj hF).symm)
  have hF := it_f hF c8
  refine aw_tableOut (tgt := 81) hC dX3_valueOf_1 (by omega) (by decide) ?_
  refine aw_aload_n hC dX3_valueOf_81 rfl ?_
  refine aw_g3i (k := 7) (a := 20) hC dX3_valueOf_82 lkRX3_82 (by decide) rfl rfl rfl (Or.inl ⟨hbt, by decide⟩) ?_
  exact aw_ireturn hC hZ (Nat.zero_le _) (Nat.zero_le _) hr dX3_valueOf_85 (hK _ (Option.some.inj hF).symm)
def fX3_taxBy_j169 (x2 : Int) (x3 : Int) (x4 : Int) (x5 : Int) (h : Hp) : Option ((Int × Int × Hp) ⊕ (Int × Hp)) :=
  (if 20 ≤ x5 then some (.inl (x2, (i_add x4 1), h)) else (if x2 < 2 then some (.inl (x2, (i_add x4 1), h)) else gd_ (0 ≤ (i_sub ((i_add x2 (-1))) 1) ∧ (i_sub ((i_add x2 (-1))) 1) < 64) (gd_ (0 ≤ (i_add x2 (-1)) ∧ (i_add x2 (-1)) < 64) (bp_ (fX3_together x5 ((h 25 (Int.toNat ((i_sub ((i_add x2 (-1))) 1))))) ((h 25 (Int.toNat ((i_add x2 (-1)))))) h) (fun r23 => gd_ (0 ≤ (i_sub ((i_add x2 (-1))) 1) ∧ (i_sub ((i_add x2 (-1))) 1) < 64) (lb_ (st h 25 (Int.toNat ((i_sub ((i_add x2 (-1))) 1))) r23) (fun h26 => some (.inl ((i_add x2 (-1)), (i_add x4 1), h26)))))))))
def fX3_taxBy_j165 (x2 : Int) (x3 : Int) (x4 : Int) (z0 : Int) (z1 : Int) (h : Hp) : Option ((Int × Int × Hp) ⊕ (Int × Hp)) :=
  gd_ (0 ≤ z1 ∧ z1 < 64) (lb_ (st h 25 (Int.toNat z1) z0) (fun h32 => some (.inl (x2, (i_add x4 1), h32))))
def fX3_taxBy_j131 (x2 : Int) (x3 : Int) (x4 : Int) (x5 : Int) (h : Hp) : Option ((Int × Int × Hp) ⊕ (Int × Hp)) :=
  (if x5 = 3 then (if x2 < 1 then fX3_taxBy_j169 x2 x3 x4 x5 h else gd_ (0 ≤ (i_sub x2 1) ∧ (i_sub x2 1) < 64) ((if (h 25 (Int.toNat ((i_sub x2 1)))) = 0 then fX3_taxBy_j165 x2 x3 x4 1 ((i_sub x2 1)) h else fX3_taxBy_j165 x2 x3 x4 0 ((i_sub x2 1)) h))) else fX3_taxBy_j169 x2 x3 x4 x5 h)
def fX3_taxBy_j124 (x2 : Int) (x3 : Int) (x4 : Int) (z0 : Int) (z1 : Int) (h : Hp) : Option ((Int × Int × Hp) ⊕ (Int × Hp)) :=
  gd_ (0 ≤ z1 ∧ z1 < 64) (lb_ (st h 25 (Int.toNat z1) z0) (fun h39 => some (.inl ((i_add x2 1), (i_add x4 1), h39))))
def fX3_taxBy_l64 (x3 : Int) (x2 : Int) (x4 : Int) (h : Hp) : Option ((Int × Int × Hp) ⊕ (Int × Hp)) :=
  (if x3 ≤ x4 then some (.inr (x2, h)) else gd_ ((h 20 0) = 1 ∨ (h 20 0) = 9) (gd_ (0 ≤ x4 ∧ x4 < 700) (lb_ ((h (Int.toNat ((h 20 0) + 6)) (Int.toNat x4))) (fun v13 => (if v13 < 20 then fX3_taxBy_j131 x2 x3 x4 v13 h else (if ((64 : Nat) : Int) ≤ x2 then fX3_taxBy_j131 x2 x3 x4 v13 h else (if v13 < 100 then bp_ (fX3_valueOf v13 h) (fun r36 => fX3_taxBy_j124 x2 x3 x4 r36 x2 h) else fX3_taxBy_j124 x2 x3 x4 ((i_sub v13 100)) x2 h)))))))
def fX3_taxBy (x1 : Int) (h : Hp) : Option (Int × Hp) :=
  (if x1 < 0 then some ((h 20 9), h) else gd_ ((h 20 0) = 1 ∨ (h 20 0) = 9) ((if x1 < (h (Int.toNat ((h 20 0))) 8) then gd_ (0 ≤ x1 ∧ x1 < 4) (bp_ (fJ9_min_7cf53 ((h (Int.toNat ((h 20 0) + 5)) (Int.toNat x1))) (((700 : Nat) : Int)) h) (fun r5 => (if x1 = 0 then bp_ (it_ (fun s => fX3_taxBy_l64 r5 s.1 s.2.1 s.2.2) FU (0, 0, h)) (fun e51 => (fun y52 h53 => (if y52 ≤ 0 then some (0, h53) else gd_ (0 ≤ (0 : Int) ∧ (0 : Int) < 64) (bp_ (fJ9_min_7cf53 999 ((h53 25 (Int.toNat 0))) h53) (fun r56 => bp_ (fJ9_max_7cf53 0 r56 h53) (fun r58 => some (r58, h53)))))) e51.1 e51.2) else gd_ (0 ≤ (i_sub x1 1) ∧ (i_sub x1 1) < 4) (lb_ ((h (Int.toNat ((h 20 0) + 5)) (Int.toNat ((i_sub x1 1))))) (fun v9 => bp_ (it_ (fun s => fX3_taxBy_l64 r5 s.1 s.2.1 s.2.2) FU (0, v9, h)) (fun e42 => (fun y43 h44 => (if y43 ≤ 0 then some (0, h44) else gd_ (0 ≤ (0 : Int) ∧ (0 : Int) < 64) (bp_ (fJ9_min_7cf53 999 ((h44 25 (Int.toNat 0))) h44) (fun r47 => bp_ (fJ9_max_7cf53 0 r47 h44) (fun r49 => some (r49, h44)))))) e42.1 e42.2)))))) else some ((h 20 9), h))))
theorem fX3_taxBy_j169_ok {G : GD} {X : CX} {n : Nat} {Q : Av → Nat → Hp → Prop} (hC : Cx G X RX3 cX3_taxBy) (hZ : ZOK X G Q 0 0) (hRm : X.R = rmd 2 0 0) (hbt : X.bt = true) (hr : X.meth.sig.returnType = (some .int)) {x2 : Int} {x3 : Int} {x4 : Int} {x5 : Int} {h : Hp} {b : (Int × Int × Hp) ⊕ (Int × Hp)} (hF : fX3_taxBy_j169 x2 x3 x4 x5 h = some b) (hL9 : ∀ (u2 : Int) (u4 : Int) (h9 : Hp), b = .inl (u2, u4, h9) → AW G X 64 [(2, ((20 : Nat) : Int)), (9, 0), (0, u2), (0, x3), (0, u4), (9, 0)] [] n h9 0 0) (hX9 : ∀ (w2 : Int) (h9 : Hp), b = .inr (w2, h9) → AW G X 217 [(2, ((20 : Nat) : Int)), (9, 0), (0, w2), (9, 0), (9, 0), (9, 0)] [] n h9 0 0) : AW G X 169 [(2, ((20 : Nat) : Int)), (9, 0), (0, x2), (0, x3), (0, x4), (0, x5)] [] n h 0 0 := by
  unfold fX3_taxBy_j169 at hF
  refine aw_iload hC dX3_taxBy_169 rfl ?_
  refine aw_bipush hC dX3_taxBy_171 (by decide) (by decide) ?_
  refine aw_icmp_ge (tgt := 211) hC dX3_taxBy_173 (by decide) (fun c16 => ?_) (fun c16 => ?_)
  · have hF := it_t hF c16
    refine aw_iinc4 hC dX3_taxBy_211 rfl ?_
    refine aw_goto (tgt := 64) hC dX3_taxBy_214 (by decide) ?_
    refine aw_weak (ls' := [(2, ((20 : Nat) : Int)), (9, 0), (0, x2), (0, x3), (0, (i_add x4 1)), (9, 0)]) ⟨Or.inr rfl, Or.inl rfl, Or.inr rfl, Or.inr rfl, Or.inr rfl, Or.inl rfl, trivial⟩ ?_
    exact hL9 _ _ _ (Option.some.inj hF).symm
  · have hF := it_f hF c16
    refine aw_iload_n hC dX3_taxBy_176 rfl ?_
    refine aw_iconst hC dX3_taxBy_177 (by decide) ?_
    refine aw_icmp_lt (tgt := 211) hC dX3_taxBy_178 (by decide) (fun c18 => ?_) (fun c18 => ?_)
    · have hF := it_t hF c18
      refine aw_iinc4 hC dX3_taxBy_211 rfl ?_
      refine aw_goto (tgt := 64) hC dX3_taxBy_214 (by decide) ?_
      refine aw_weak (ls' := [(2, ((20 : Nat) : Int)), (9, 0), (0, x2), (0, x3), (0, (i_add x4 1)), (9, 0)]) ⟨Or.inr rfl, Or.inl rfl, Or.inr rfl, Or.inr rfl, Or.inr rfl, Or.inl rfl, trivial⟩ ?_
      exact hL9 _ _ _ (Option.some.inj hF).symm
    · have hF := it_f hF c18
      refine aw_iinc2 hC dX3_taxBy_181 rfl ?_
      refine aw_aload_n hC dX3_taxBy_184 rfl ?_
      refine aw_gc3 (k := 13) (a := 20) (b := 25) hC hbt dX3_taxBy_185 lkRX3_24 (by decide) rfl rfl rfl (by decide) (by decide) ?_
      refine aw_iload_n hC dX3_taxBy_188 rfl ?_
      refine aw_iconst hC dX3_taxBy_189 (by decide) ?_
      refine aw_isub hC dX3_taxBy_190 ?_
      refine aw_iload hC dX3_taxBy_191 rfl ?_
      refine aw_aload_n hC dX3_taxBy_193 rfl ?_
      refine aw_gc3 (k := 13) (a := 20) (b := 25) hC hbt dX3_taxBy_194 lkRX3_24 (by decide) rfl rfl rfl (by decide) (by decide) ?_
      refine aw_iload_n hC dX3_taxBy_197 rfl ?_
      refine aw_iconst hC dX3_taxBy_198 (by decide) ?_
      refine aw_isub hC dX3_taxBy_199 ?_
      obtain ⟨g21, hF⟩ := gd_some hF
      refine aw_iaload (a := 25) hC dX3_taxBy_200 rfl rfl (Or.inl ⟨hbt, by decide⟩) g21.1 g21.2 ?_
      refine aw_aload_n hC dX3_taxBy_201 rfl ?_
      refine aw_gc3 (k := 13) (a := 20) (b := 25) hC hbt dX3_taxBy_202 lkRX3_24 (by decide) rfl rfl rfl (by decide) (by decide) ?_
      refine aw_iload_n hC dX3_taxBy_205 rfl ?_
      obtain ⟨g22, hF⟩ := gd_some hF
      refine aw_iaload (a := 25) hC dX3_taxBy_206 rfl rfl (Or.inl ⟨hbt, by decide⟩) g22.1 g22.2 ?_
      obtain ⟨r23, q24, hF⟩ := bp_some hF
      refine clRX3_168 hC hRm hbt dX3_taxBy_207 (Nat.le_of_ble_eq_true rfl) (Nat.le_of_ble_eq_true rfl) (ok_X3_together q24) ?_
      obtain ⟨g25, hF⟩ := gd_some hF
      obtain ⟨h26, eh26, hF⟩ := lb_some hF
      refine aw_iastore (a := 25) hC dX3_taxBy_210 rfl rfl (Or.inl ⟨hbt, by decide⟩) g25.1 g25.2 ?_
      refine aw_eqH eh26 ?_
      clear eh26
      refine aw_iinc4 hC dX3_taxBy_211 rfl ?_
      refine aw_goto (tgt := 64) hC dX3_taxBy_214 (by decide) ?_
      refine aw_weak (ls' := [(2, ((20 : Nat) : Int)), (9, 0), (0, (i_add x2 (-1))), (0, x3), (0, (i_add x4 1)), (9, 0)]) ⟨Or.inr rfl, Or.inl rfl, Or.inr rfl, Or.inr rfl, Or.inr rfl, Or.inl rfl, trivial⟩ ?_
      exact hL9 _ _ _ (Option.some.inj hF).symm
theorem fX3_taxBy_j165_ok {G : GD} {X : CX} {n : Nat} {Q : Av → Nat → Hp → Prop} (hC : Cx G X RX3 cX3_taxBy) (hZ : ZOK X G Q 0 0) (hRm : X.R = rmd 2 0 0) (hbt : X.bt = true) (hr : X.meth.sig.returnType = (some .int)) {x2 : Int} {x3 : Int} {x4 : Int} {z0 : Int} {z1 : Int} {h : Hp} {b : (Int × Int × Hp) ⊕ (Int × Hp)} (hF : fX3_taxBy_j165 x2 x3 x4 z0 z1 h = some b) (hL9 : ∀ (u2 : Int) (u4 : Int) (h9 : Hp), b = .inl (u2, u4, h9) → AW G X 64 [(2, ((20 : Nat) : Int)), (9, 0), (0, u2), (0, x3), (0, u4), (9, 0)] [] n h9 0 0) (hX9 : ∀ (w2 : Int) (h9 : Hp), b = .inr (w2, h9) → AW G X 217 [(2, ((20 : Nat) : Int)), (9, 0), (0, w2), (9, 0), (9, 0), (9, 0)] [] n h9 0 0) : AW G X 165 [(2, ((20 : Nat) : Int)), (9, 0), (0, x2), (0, x3), (0, x4), (9, 0)] [(0, z0), (0, z1), (2, ((25 : Nat) : Int))] n h 0 0 := by
  unfold fX3_taxBy_j165 at hF
  obtain ⟨g31, hF⟩ := gd_some hF
  obtain ⟨h32, eh32, hF⟩ := lb_some hF
  refine aw_iastore (a := 25) hC dX3_taxBy_165 rfl rfl (Or.inl ⟨hbt, by decide⟩) g31.1 g31.2 ?_
  refine aw_eqH eh32 ?_
  clear eh32
  refine aw_goto (tgt := 211) hC dX3_taxBy_166 (by decide) ?_
  refine aw_iinc4 hC dX3_taxBy_211 rfl ?_
  refine aw_goto (tgt := 64) hC dX3_taxBy_214 (by decide) ?_
  exact hL9 _ _ _ (Option.some.inj hF).symm
theorem fX3_taxBy_j131_ok {G : GD} {X : CX} {n : Nat} {Q : Av → Nat → Hp → Prop} (hC : Cx G X RX3 cX3_taxBy) (hZ : ZOK X G Q 0 0) (hRm : X.R = rmd 2 0 0) (hbt : X.bt = true) (hr : X.meth.sig.returnType = (some .int)) {x2 : Int} {x3 : Int} {x4 : Int} {x5 : Int} {h : Hp} {b : (Int × Int × Hp) ⊕ (Int × Hp)} (hF : fX3_taxBy_j131 x2 x3 x4 x5 h = some b) (hL9 : ∀ (u2 : Int) (u4 : Int) (h9 : Hp), b = .inl (u2, u4, h9) → AW G X 64 [(2, ((20 : Nat) : Int)), (9, 0), (0, u2), (0, x3), (0, u4), (9, 0)] [] n h9 0 0) (hX9 : ∀ (w2 : Int) (h9 : Hp), b = .inr (w2, h9) → AW G X 217 [(2, ((20 : Nat) : Int)), (9, 0), (0, w2), (9, 0), (9, 0), (9, 0)] [] n h9 0 0) : AW G X 131 [(2, ((20 : Nat) : Int)), (9, 0), (0, x2), (0, x3), (0, x4), (0, x5)] [] n h 0 0 := by
  unfold fX3_taxBy_j131 at hF
  refine aw_iload hC dX3_taxBy_131 rfl ?_
  refine aw_iconst hC dX3_taxBy_133 (by decide) ?_
  refine aw_icmp_ne (tgt := 169) hC dX3_taxBy_134 (by decide) (fun c15 => ?_) (fun c15 => ?_)
  · have hF := it_f hF c15
    exact fX3_taxBy_j169_ok hC hZ hRm hbt hr hF (fun u0 u1 u2 e => hL9 u0 u1 u2 e) (fun w0 w1 e => hX9 w0 w1 e)
  · have hF := it_t hF c15
    refine aw_iload_n hC dX3_taxBy_137 rfl ?_
    refine aw_iconst hC dX3_taxBy_138 (by decide) ?_
    refine aw_icmp_lt (tgt := 169) hC dX3_taxBy_139 (by decide) (fun c28 => ?_) (fun c28 => ?_)
    · have hF := it_t hF c28
      exact fX3_taxBy_j169_ok hC hZ hRm hbt hr hF (fun u0 u1 u2 e => hL9 u0 u1 u2 e) (fun w0 w1 e => hX9 w0 w1 e)
    · have hF := it_f hF c28
      refine aw_aload_n hC dX3_taxBy_142 rfl ?_
      refine aw_gc3 (k := 13) (a := 20) (b := 25) hC hbt dX3_taxBy_143 lkRX3_24 (by decide) rfl rfl rfl (by decide) (by decide) ?_
      refine aw_iload_n hC dX3_taxBy_146 rfl ?_
      refine aw_iconst hC dX3_taxBy_147 (by decide) ?_
      refine aw_isub hC dX3_taxBy_148 ?_
      refine aw_aload_n hC dX3_taxBy_149 rfl ?_
      refine aw_gc3 (k := 13) (a := 20) (b := 25) hC hbt dX3_taxBy_150 lkRX3_24 (by decide) rfl rfl rfl (by decide) (by decide) ?_
      refine aw_iload_n hC dX3_taxBy_153 rfl ?_
      refine aw_iconst hC dX3_taxBy_154 (by decide) ?_
      refine aw_isub hC dX3_taxBy_155 ?_
      obtain ⟨g29, hF⟩ := gd_some hF
      refine aw_iaload (a := 25) hC dX3_taxBy_156 rfl rfl (Or.inl ⟨hbt, by decide⟩) g29.1 g29.2 ?_
      refine aw_if_ne (tgt := 164) hC dX3_taxBy_157 (by decide) (fun c30 => ?_) (fun c30 => ?_)
      · have hF := it_f hF c30
        refine aw_iconst hC dX3_taxBy_164 (by decide) ?_
        refine aw_weak (ls' := [(2, ((20 : Nat) : Int)), (9, 0), (0, x2), (0, x3), (0, x4), (9, 0)]) ⟨Or.inr rfl, Or.inl rfl, Or.inr rfl, Or.inr rfl, Or.inr rfl, Or.inl rfl, trivial⟩ ?_
        exact fX3_taxBy_j165_ok hC hZ hRm hbt hr hF (fun u0 u1 u2 e => hL9 u0 u1 u2 e) (fun w0 w1 e => hX9 w0 w1 e)
      · have hF := it_t hF c30
        refine aw_iconst hC dX3_taxBy_160 (by decide) ?_
        refine aw_goto (tgt := 165) hC dX3_taxBy_161 (by decide) ?_
        refine aw_weak (ls' := [(2, ((20 : Nat) : Int)), (9, 0), (0, x2), (0, x3), (0, x4), (9, 0)]) ⟨Or.inr rfl, Or.inl rfl, Or.inr rfl, Or.inr rfl, Or.inr rfl, Or.inl rfl, trivial⟩ ?_
        exact fX3_taxBy_j165_ok hC hZ hRm hbt hr hF (fun u0 u1 u2 e => hL9 u0 u1 u2 e) (fun w0 w1 e => hX9 w0 w1 e)
theorem fX3_taxBy_j124_ok {G : GD} {X : CX} {n : Nat} {Q : Av → Nat → Hp → Prop} (hC : Cx G X RX3 cX3_taxBy) (hZ : ZOK X G Q 0 0) (hRm : X.R = rmd 2 0 0) (hbt : X.bt = true) (hr : X.meth.sig.returnType = (some .int)) {x2 : Int} {x3 : Int} {x4 : Int} {z0 : Int} {z1 : Int} {h : Hp} {b : (Int × Int × Hp) ⊕ (Int × Hp)} (hF : fX3_taxBy_j124 x2 x3 x4 z0 z1 h = some b) (hL9 : ∀ (u2 : Int) (u4 : Int) (h9 : Hp), b = .inl (u2, u4, h9) → AW G X 64 [(2, ((20 : Nat) : Int)), (9, 0), (0, u2), (0, x3), (0, u4), (9, 0)] [] n h9 0 0) (hX9 : ∀ (w2 : Int) (h9 : Hp), b = .inr (w2, h9) → AW G X 217 [(2, ((20 : Nat) : Int)), (9, 0), (0, w2), (9, 0), (9, 0), (9, 0)] [] n h9 0 0) : AW G X 124 [(2, ((20 : Nat) : Int)), (9, 0), (0, x2), (0, x3), (0, x4), (9, 0)] [(0, z0), (0, z1), (2, ((25 : Nat) : Int))] n h 0 0 := by
  unfold fX3_taxBy_j124 at hF
  obtain ⟨g38, hF⟩ := gd_some hF
  obtain ⟨h39, eh39, hF⟩ := lb_some hF
  refine aw_iastore (a := 25) hC dX3_taxBy_124 rfl rfl (Or.inl ⟨hbt, by decide⟩) g38.1 g38.2 ?_
  refine aw_eqH eh39 ?_
  clear eh39
  refine aw_iinc2 hC dX3_taxBy_125 rfl ?_
  refine aw_goto (tgt := 211) hC dX3_taxBy_128 (by decide) ?_
  refine aw_iinc4 hC dX3_taxBy_211 rfl ?_
  refine aw_goto (tgt := 64) hC dX3_taxBy_214 (by decide) ?_
  exact hL9 _ _ _ (Option.some.inj hF).symm
theorem fX3_taxBy_l64_ok {G : GD} {X : CX} {n : Nat} {Q : Av → Nat → Hp → Prop} (hC : Cx G X RX3 cX3_taxBy) (hZ : ZOK X G Q 0 0) (hRm : X.R = rmd 2 0 0) (hbt : X.bt = true) (hr : X.meth.sig.returnType = (some .int)) {x3 : Int} : ∀ (f : Nat) (x2 : Int) (x4 : Int) (h : Hp) (r : Int × Hp), it_ (fun s => fX3_taxBy_l64 x3 s.1 s.2.1 s.2.2) f (x2, x4, h) = some r → (∀ (y2 : Int) (h9 : Hp), r = (y2, h9) → AW G X 217 [(2, ((20 : Nat) : Int)), (9, 0), (0, y2), (9, 0), (9, 0), (9, 0)] [] n h9 0 0) → AW G X 64 [(2, ((20 : Nat) : Int)), (9, 0), (0, x2), (0, x3), (0, x4), (9, 0)] [] n h 0 0 := by
  intro f
  induction f with
  | zero => intro x2 x4 h r hI; cases hI
  | succ f ih0 =>
    intro x2 x4 h r hI hX
    obtain ⟨b, hF, hb1, hb2⟩ := it_succ hI
    have hF : fX3_taxBy_l64 x3 x2 x4 h = some b := hF
    unfold fX3_taxBy_l64 at hF
    refine aw_iload hC dX3_taxBy_64 rfl ?_
    refine aw_iload_n hC dX3_taxBy_66 rfl ?_
    refine aw_icmp_ge (tgt := 217) hC dX3_taxBy_67 (by decide) (fun c10 => ?_) (fun c10 => ?_)
    · have hF := it_t hF c10
      refine aw_weak (ls' := [(2, ((20 : Nat) : Int)), (9, 0), (0, x2), (9, 0), (9, 0), (9, 0)]) ⟨Or.inr rfl, Or.inl rfl, Or.inr rfl, Or.inl rfl, Or.inl rfl, Or.inl rfl, trivial⟩ ?_
      exact hX _ _ (hb2 _ (Option.some.inj hF).symm).symm
    · have hF := it_f hF c10
      refine aw_aload_n hC dX3_taxBy_70 rfl ?_
      refine aw_g3r (k := 0) (a := 20) hC dX3_taxBy_71 lkRX3_27 (by decide) rfl rfl rfl (Or.inl ⟨hbt, by decide⟩) ?_
      obtain ⟨k11, hF⟩ := gd_some hF
      refine aw_gL6N hC hbt k11 dX3_taxBy_74 lkRX3_162 ?_
      refine aw_iload hC dX3_taxBy_77 rfl ?_
      obtain ⟨g12, hF⟩ := gd_some hF
      refine aw_iaload (a := (Int.toNat ((h 20 0) + 6))) hC dX3_taxBy_79 (lnd6 k11).1 (lnd6 k11).2.1 (Or.inl ⟨hbt, (lnd6 k11).2.2⟩) g12.1 g12.2 ?_
      obtain ⟨v13, ev13, hF⟩ := lb_some hF
      refine aw_eqT ev13 ?_
      clear ev13
      refine aw_istore5 hC dX3_taxBy_80 rfl ?_
      refine aw_iload hC dX3_taxBy_82 rfl ?_
      refine aw_bipush hC dX3_taxBy_84 (by decide) (by decide) ?_
      refine aw_icmp_lt (tgt := 131) hC dX3_taxBy_86 (by decide) (fun c14 => ?_) (fun c14 => ?_)
      · have hF := it_t hF c14
        exact fX3_taxBy_j131_ok hC hZ hRm hbt hr hF (fun u0 u1 u2 e => ih0 u0 u1 u2 r (hb1 _ e) hX) (fun w0 w1 e => hX w0 w1 (hb2 _ e).symm)
      · have hF := it_f hF c14
        refine aw_iload_n hC dX3_taxBy_89 rfl ?_
        refine aw_aload_n hC dX3_taxBy_90 rfl ?_
        refine aw_gc3 (k := 13) (a := 20) (b := 25) hC hbt dX3_taxBy_91 lkRX3_24 (by decide) rfl rfl rfl (by decide) (by decide) ?_
        refine aw_alen (a := 25) hC dX3_taxBy_94 rfl rfl (by decide) (by decide) (Or.inl ⟨hbt, by decide⟩) ?_
        refine aw_icmp_ge (tgt := 131) hC dX3_taxBy_95 (by decide) (fun c34 => ?_) (fun c34 => ?_)
        · have hF := it_t hF c34
          exact fX3_taxBy_j131_ok hC hZ hRm hbt hr hF (fun u0 u1 u2 e => ih0 u0 u1 u2 r (hb1 _ e) hX) (fun w0 w1 e => hX w0 w1 (hb2 _ e).symm)
        · have hF := it_f hF c34
          refine aw_aload_n hC dX3_taxBy_98 rfl ?_
          refine aw_gc3 (k := 13) (a := 20) (b := 25) hC hbt dX3_taxBy_99 lkRX3_24 (by decide) rfl rfl rfl (by decide) (by decide) ?_
          refine aw_iload_n hC dX3_taxBy_102 rfl ?_
          refine aw_iload hC dX3_taxBy_103 rfl ?_
          refine aw_bipush hC dX3_taxBy_105 (by decide) (by decide) ?_
          refine aw_icmp_lt (tgt := 118) hC dX3_taxBy_107 (by decide) (fun c35 => ?_) (fun c35 => ?_)
          · have hF := it_t hF c35
            refine aw_aload_n hC dX3_taxBy_118 rfl ?_
            refine aw_iload hC dX3_taxBy_119 rfl ?_
            obtain ⟨r36, q37, hF⟩ := bp_some hF
            refine clRX3_165 hC hRm hbt dX3_taxBy_121 rfl rfl (by decide) (Nat.le_of_ble_eq_true rfl) (Nat.le_of_ble_eq_true rfl) (ok_X3_valueOf q37) ?_
            refine aw_weak (ls' := [(2, ((20 : Nat) : Int)), (9, 0), (0, x2), (0, x3), (0, x4), (9, 0)]) ⟨Or.inr rfl, Or.inl rfl, Or.inr rfl, Or.inr rfl, Or.inr rfl, Or.inl rfl, trivial⟩ ?_
            exact fX3_taxBy_j124_ok hC hZ hRm hbt hr hF (fun u0 u1 u2 e => ih0 u0 u1 u2 r (hb1 _ e) hX) (fun w0 w1 e => hX w0 w1 (hb2 _ e).symm)
          · have hF := it_f hF c35
            refine aw_iload hC dX3_taxBy_110 rfl ?_
            refine aw_bipush hC dX3_taxBy_112 (by decide) (by decide) ?_
            refine aw_isub hC dX3_taxBy_114 ?_
            refine aw_goto (tgt := 124) hC dX3_taxBy_115 (by decide) ?_
            refine aw_weak (ls' := [(2, ((20 : Nat) : Int)), (9, 0), (0, x2), (0, x3), (0, x4), (9, 0)]) ⟨Or.inr rfl, Or.inl rfl, Or.inr rfl, Or.inr rfl, Or.inr rfl, Or.inl rfl, trivial⟩ ?_
            exact fX3_taxBy_j124_ok hC hZ hRm hbt hr hF (fun u0 u1 u2 e => ih0 u0 u1 u2 r (hb1 _ e) hX) (fun w0 w1 e => hX w0 w1 (hb2 _ e).symm)
theorem ok_X3_taxBy {G : GD} {n : Nat} {x1 : Int} {h : Hp} {res : Int × Hp} (hF : fX3_taxBy x1 h = some res) : Con G yX3_taxBy cX3_taxBy 6 (some .int) 2 0 0 true [(2, ((20 : Nat) : Int)), (0, x1)] n h (FQ 0 n res) := by
  refine con_of (pad := 4) (own := RX3) (plainFor_of_name (by decide)) rfl rfl ?_
  intro X hC hbt hr hnm hZ hRm hn0
  have hK : ∀ (x9 : Int) (h9 : Hp), res = (x9, h9) → FQ 0 n res (0, x9) n h9 := fun x9 h9 e => by subst e; exact ⟨rfl, rfl, rfl⟩
  unfold fX3_taxBy at hF
  show AW G X 0 [(2, ((20 : Nat) : Int)), (0, x1), (9, 0), (9, 0), (9, 0), (9, 0)] [] n h 0 0
  refine aw_iload_n hC dX3_taxBy_0 rfl ?_
  refine aw_if_lt (tgt := 15) hC dX3_taxBy_1 (by decide) (fun c1 => ?_) (fun c1 => ?_)
  · have hF := it_t hF c1
    refine aw_aload_n hC dX3_taxBy_15 rfl ?_
    refine aw_g3i (k := 9) (a := 20) hC dX3_taxBy_16 lkRX3_85 (by decide) rfl rfl rfl (Or.inl ⟨hbt, by decide⟩) ?_
    exact aw_ireturn hC hZ (Nat.zero_le _) (Nat.zero_le _) hr dX3_taxBy_19 (hK _ _ (Option.some.inj hF).symm)
  · have hF := it_f hF c1
    refine aw_iload_n hC dX3_taxBy_4 rfl ?_
    refine aw_aload_n hC dX3_taxBy_5 rfl ?_
    refine aw_g3r (k := 0) (a := 20) hC dX3_taxBy_6 lkRX3_27 (by decide) rfl rfl rfl (Or.inl ⟨hbt, by decide⟩) ?_
    obtain ⟨k2, hF⟩ := gd_some hF
    refine aw_gLiN (k := 8) hC hbt k2 dX3_taxBy_9 lkRX3_156 (by decide) rfl ?_
    refine aw_icmp_lt (tgt := 20) hC dX3_taxBy_12 (by decide) (fun c3 => ?_) (fun c3 => ?_)
    · have hF := it_t hF c3
      refine aw_iconst hC dX3_taxBy_20 (by decide) ?_
      refine aw_istore2 hC dX3_taxBy_21 rfl ?_
      refine aw_aload_n hC dX3_taxBy_22 rfl ?_
      refine aw_g3r (k := 0) (a := 20) hC dX3_taxBy_23 lkRX3_27 (by decide) rfl rfl rfl (Or.inl ⟨hbt, by decide⟩) ?_
      refine aw_gL5N hC hbt k2 dX3_taxBy_26 lkRX3_159 ?_
      refine aw_iload_n hC dX3_taxBy_29 rfl ?_
      obtain ⟨g4, hF⟩ := gd_some hF
      refine aw_iaload (a := (Int.toNat ((h 20 0) + 5))) hC dX3_taxBy_30 (lnd5 k2).1 (lnd5 k2).2.1 (Or.inl ⟨hbt, (lnd5 k2).2.2⟩) g4.1 g4.2 ?_
      refine aw_aload_n hC dX3_taxBy_31 rfl ?_
      refine aw_g3r (k := 0) (a := 20) hC dX3_taxBy_32 lkRX3_27 (by decide) rfl rfl rfl (Or.inl ⟨hbt, by decide⟩) ?_
      refine aw_gL6N hC hbt k2 dX3_taxBy_35 lkRX3_162 ?_
      refine aw_alen (a := (Int.toNat ((h 20 0) + 6))) hC dX3_taxBy_38 (lnd6 k2).1 (lnd6 k2).2.1 (by decide) (by decide) (Or.inl ⟨hbt, (lnd6 k2).2.2⟩) ?_
      obtain ⟨r5, q6, hF⟩ := bp_some hF
      refine clRX3_153 hC hRm hbt dX3_taxBy_39 (Nat.le_of_ble_eq_true rfl) (Nat.le_of_ble_eq_true rfl) (ok_J9_min_7cf53 q6) ?_
      refine aw_istore3 hC dX3_taxBy_42 rfl ?_
      refine aw_iload_n hC dX3_taxBy_43 rfl ?_
      refine aw_if_ne (tgt := 51) hC dX3_taxBy_44 (by decide) (fun c7 => ?_) (fun c7 => ?_)
      · have hF := it_f hF c7
        refine aw_aload_n hC dX3_taxBy_51 rfl ?_
        refine aw_g3r (k := 0) (a := 20) hC dX3_taxBy_52 lkRX3_27 (by decide) rfl rfl rfl (Or.inl ⟨hbt, by decide⟩) ?_
        refine aw_gL5N hC hbt k2 dX3_taxBy_55 lkRX3_159 ?_
        refine aw_iload_n hC dX3_taxBy_58 rfl ?_
        refine aw_iconst hC dX3_taxBy_59 (by decide) ?_
        refine aw_isub hC dX3_taxBy_60 ?_
        obtain ⟨g8, hF⟩ := gd_some hF
        refine aw_iaload (a := (Int.toNat ((h 20 0) + 5))) hC dX3_taxBy_61 (lnd5 k2).1 (lnd5 k2).2.1 (Or.inl ⟨hbt, (lnd5 k2).2.2⟩) g8.1 g8.2 ?_
        obtain ⟨v9, ev9, hF⟩ := lb_some hF
        refine aw_eqT ev9 ?_
        clear ev9
        refine aw_istore4 hC dX3_taxBy_62 rfl ?_
        refine aw_weak (ls' := [(2, ((20 : Nat) : Int)), (9, 0), (0, 0), (0, r5), (0, v9), (9, 0)]) ⟨Or.inr rfl, Or.inl rfl, Or.inr rfl, Or.inr rfl, Or.inr rfl, Or.inl rfl, trivial⟩ ?_
        obtain ⟨e42, he, hF⟩ := bp_some hF
        refine fX3_taxBy_l64_ok hC hZ hRm hbt hr FU _ _ _ e42 he (fun y43 h44 er => ?_)
        replace er := er.symm
        subst er
        try dsimp only at hF
        refine aw_iload_n hC dX3_taxBy_217 rfl ?_
        refine aw_if_le (tgt := 240) hC dX3_taxBy_218 (by decide) (fun c45 => ?_) (fun c45 => ?_)
        · have hF := it_t hF c45
          refine aw_iconst hC dX3_taxBy_240 (by decide) ?_
          exact aw_ireturn hC hZ (Nat.zero_le _) (Nat.zero_le _) hr dX3_taxBy_241 (hK _ _ (Option.some.inj hF).symm)
        · have hF := it_f hF c45
          refine aw_iconst hC dX3_taxBy_221 (by decide) ?_
          refine aw_sipush hC dX3_taxBy_222 (by decide) (by decide) ?_
          refine aw_aload_n hC dX3_taxBy_225 rfl ?_
          refine aw_gc3 (k := 13) (a := 20) (b := 25) hC hbt dX3_taxBy_226 lkRX3_24 (by decide) rfl rfl rfl (by decide) (by decide) ?_
          refine aw_iconst hC dX3_taxBy_229 (by decide) ?_
          obtain ⟨g46, hF⟩ := gd_some hF
          refine aw_iaload (a := 25) hC dX3_taxBy_230 rfl rfl (Or.inl ⟨hbt, by decide⟩) g46.1 g46.2 ?_
          obtain ⟨r47, q48, hF⟩ := bp_some hF
          refine clRX3_153 hC hRm hbt dX3_taxBy_231 (Nat.le_of_ble_eq_true rfl) (Nat.le_of_ble_eq_true rfl) (ok_J9_min_7cf53 q48) ?_
          obtain ⟨r49, q50, hF⟩ := bp_some hF
          refine clRX3_105 hC hRm hbt dX3_taxBy_234 (Nat.le_of_ble_eq_true rfl) (Nat.le_of_ble_eq_true rfl) (ok_J9_max_7cf53 q50) ?_
          refine aw_goto (tgt := 241) hC dX3_taxBy_237 (by decide) ?_
          exact aw_ireturn hC hZ (Nat.zero_le _) (Nat.zero_le _) hr dX3_taxBy_241 (hK _ _ (Option.some.inj hF).symm)
      · have hF := it_t hF c7
        refine aw_iconst hC dX3_taxBy_47 (by decide) ?_
        refine aw_goto (tgt := 62) hC dX3_taxBy_48 (by decide) ?_
        refine aw_istore4 hC dX3_taxBy_62 rfl ?_
        refine aw_weak (ls' := [(2, ((20 : Nat) : Int)), (9, 0), (0, 0), (0, r5), (0, 0), (9, 0)]) ⟨Or.inr rfl, Or.inl rfl, Or.inr rfl, Or.inr rfl, Or.inr rfl, Or.inl rfl, trivial⟩ ?_
        obtain ⟨e51, he, hF⟩ := bp_some hF
        refine fX3_taxBy_l64_ok hC hZ hRm hbt hr FU _ _ _ e51 he (fun y52 h53 er => ?_)
        replace er := er.symm
        subst er
        try dsimp only at hF
        refine aw_iload_n hC dX3_taxBy_217 rfl ?_
        refine aw_if_le (tgt := 240) hC dX3_taxBy_218 (by decide) (fun c54 => ?_) (fun c54 => ?_)
        · have hF := it_t hF c54
          refine aw_iconst hC dX3_taxBy_240 (by decide) ?_
          exact aw_ireturn hC hZ (Nat.zero_le _) (Nat.zero_le _) hr dX3_taxBy_241 (hK _ _ (Option.some.inj hF).symm)
        · have hF := it_f hF c54
          refine aw_iconst hC dX3_taxBy_221 (by decide) ?_
          refine aw_sipush hC dX3_taxBy_222 (by decide) (by decide) ?_
          refine aw_aload_n hC dX3_taxBy_225 rfl ?_
          refine aw_gc3 (k := 13) (a := 20) (b := 25) hC hbt dX3_taxBy_226 lkRX3_24 (by decide) rfl rfl rfl (by decide) (by decide) ?_
          refine aw_iconst hC dX3_taxBy_229 (by decide) ?_
          obtain ⟨g55, hF⟩ := gd_some hF
          refine aw_iaload (a := 25) hC dX3_taxBy_230 rfl rfl (Or.inl ⟨hbt, by decide⟩) g55.1 g55.2 ?_
          obtain ⟨r56, q57, hF⟩ := bp_some hF
          refine clRX3_153 hC hRm hbt dX3_taxBy_231 (Nat.le_of_ble_eq_true rfl) (Nat.le_of_ble_eq_true rfl) (ok_J9_min_7cf53 q57) ?_
          obtain ⟨r58, q59, hF⟩ := bp_some hF
          refine clRX3_105 hC hRm hbt dX3_taxBy_234 (Nat.le_of_ble_eq_true rfl) (Nat.le_of_ble_eq_true rfl) (ok_J9_max_7cf53 q59) ?_
          refine aw_goto (tgt := 241) hC dX3_taxBy_237 (by decide) ?_
          exact aw_ireturn hC hZ (Nat.zero_le _) (Nat.zero_le _) hr dX3_taxBy_241 (hK _ _ (Option.some.inj hF).symm)
    · have hF := it_f hF c3
      refine aw_aload_n hC dX3_taxBy_15 rfl ?_
      refine aw_g3i (k := 9) (a := 20) hC dX3_taxBy_16 lkRX3_85 (by decide) rfl rfl rfl (Or.inl ⟨hbt, by decide⟩) ?_
      exact aw_ireturn hC hZ (Nat.zero_le _) (Nat.zero_le _) hr dX3_taxBy_19 (hK _ _ (Option.some.inj hF).symm)
def fX3_taxOf (x1 : Int) (h : Hp) : Option (Int × Hp) :=
  bd_ (fX3_lookFrom x1 h) (fun r1 h3 => gd_ (0 ≤ (60 : Int) ∧ (60 : Int) < 62) (bd_ (fX3_taxBy ((h3 21 (Int.toNat 60))) h3) (fun r5 h7 => some (r5, h7))))
theorem ok_X3_taxOf {G : GD} {n : Nat} {x1 : Int} {h : Hp} {res : Int × Hp} (hF : fX3_taxOf x1 h = some res) : Con G yX3_taxOf cX3_taxOf 2 (some .int) 3 0 0 true [(2, ((20 : Nat) : Int)), (0, x1)] n h (FQ 0 n res) := by
  refine con_of (pad := 0) (own := RX3) (plainFor_of_name (by decide)) rfl rfl ?_
  intro X hC hbt hr hnm hZ hRm hn0
  have hK : ∀ (x9 : Int) (h9 : Hp), res = (x9, h9) → FQ 0 n res (0, x9) n h9 := fun x9 h9 e => by subst e; exact ⟨rfl, rfl, rfl⟩
  unfold fX3_taxOf at hF
  show AW G X 0 [(2, ((20 : Nat) : Int)), (0, x1)] [] n h 0 0
  refine aw_aload_n hC dX3_taxOf_0 rfl ?_
  refine aw_iload_n hC dX3_taxOf_1 rfl ?_
  obtain ⟨r1, h3, q2, hF⟩ := bd_some hF
  refine clRX3_123 hC hRm hbt dX3_taxOf_2 rfl rfl (by decide) (Nat.le_of_ble_eq_true rfl) (Nat.le_of_ble_eq_true rfl) (ok_X3_lookFrom q2) ?_
  refine aw_aload_n hC dX3_taxOf_5 rfl ?_
  refine aw_aload_n hC dX3_taxOf_6 rfl ?_
  refine aw_gc3 (k := 1) (a := 20) (b := 21) hC hbt dX3_taxOf_7 lkRX3_9 (by decide) rfl rfl rfl (by decide) (by decide) ?_
  refine aw_bipush hC dX3_taxOf_10 (by decide) (by decide) ?_
  obtain ⟨g4, hF⟩ := gd_some hF
  refine aw_iaload (a := 21) hC dX3_taxOf_12 rfl rfl (Or.inl ⟨hbt, by decide⟩) g4.1 g4.2 ?_
  obtain ⟨r5, h7, q6, hF⟩ := bd_some hF
  refine clRX3_144 hC hRm hbt dX3_taxOf_13 rfl rfl (by decide) (Nat.le_of_ble_eq_true rfl) (Nat.le_of_ble_eq_true rfl) (ok_X3_taxBy q6) ?_
  exact aw_ireturn hC hZ (Nat.zero_le _) (Nat.zero_le _) hr dX3_taxOf_16 (hK _ _ (Option.some.inj hF).symm)
def fX3_taxOfVilla (x1 : Int) (h : Hp) : Option (Int × Hp) :=
  bd_ (fX3_look x1 0 0 0 h) (fun r1 h3 => gd_ (0 ≤ (60 : Int) ∧ (60 : Int) < 62) (bd_ (fX3_taxBy ((h3 21 (Int.toNat 60))) h3) (fun r5 h7 => some (r5, h7))))
theorem ok_X3_taxOfVilla {G : GD} {n : Nat} {x1 : Int} {h : Hp} {res : Int × Hp} (hF : fX3_taxOfVilla x1 h = some res) : Con G yX3_taxOfVilla cX3_taxOfVilla 2 (some .int) 3 0 0 true [(2, ((20 : Nat) : Int)), (0, x1)] n h (FQ 0 n res) := by
  refine con_of (pad := 0) (own := RX3) (plainFor_of_name (by decide)) rfl rfl ?_
  intro X hC hbt hr hnm hZ hRm hn0
  have hK : ∀ (x9 : Int) (h9 : Hp), res = (x9, h9) → FQ 0 n res (0, x9) n h9 := fun x9 h9 e => by subst e; exact ⟨rfl, rfl, rfl⟩
  unfold fX3_taxOfVilla at hF
  show AW G X 0 [(2, ((20 : Nat) : Int)), (0, x1)] [] n h 0 0
  refine aw_aload_n hC dX3_taxOfVilla_0 rfl ?_
  refine aw_iload_n hC dX3_taxOfVilla_1 rfl ?_
  refine aw_iconst hC dX3_taxOfVilla_2 (by decide) ?_
  refine aw_iconst hC dX3_taxOfVilla_3 (by decide) ?_
  refine aw_iconst hC dX3_taxOfVilla_4 (by decide) ?_
  obtain ⟨r1, h3, q2, hF⟩ := bd_some hF
  refine clRX3_72 hC hRm hbt dX3_taxOfVilla_5 rfl rfl (by decide) (Nat.le_of_ble_eq_true rfl) (Nat.le_of_ble_eq_true rfl) (ok_X3_look q2) ?_
  refine aw_aload_n hC dX3_taxOfVilla_8 rfl ?_
  refine aw_aload_n hC dX3_taxOfVilla_9 rfl ?_
  refine aw_gc3 (k := 1) (a := 20) (b := 21) hC hbt dX3_taxOfVilla_10 lkRX3_9 (by decide) rfl rfl rfl (by decide) (by decide) ?_
  refine aw_bipush hC dX3_taxOfVilla_13 (by decide) (by decide) ?_
  obtain ⟨g4, hF⟩ := gd_some hF
  refine aw_iaload (a := 21) hC dX3_taxOfVilla_15 rfl rfl (Or.inl ⟨hbt, by decide⟩) g4.1 g4.2 ?_
  obtain ⟨r5, h7, q6, hF⟩ := bd_some hF
  refine clRX3_144 hC hRm hbt dX3_taxOfVilla_16 rfl rfl (by decide) (Nat.le_of_ble_eq_true rfl) (Nat.le_of_ble_eq_true rfl) (ok_X3_taxBy q6) ?_
  exact aw_ireturn hC hZ (Nat.zero_le _) (Nat.zero_le _) hr dX3_taxOfVilla_19 (hK _ _ (Option.some.inj hF).symm)
def fX3_sumBy_l4 (x1 : Int) (x2 : Int) (x3 : Int) (h : Hp) : Option ((Int × Int × Hp) ⊕ (Int × Hp)) :=
  gd_ ((h 20 0) = 1 ∨ (h 20 0) = 9) ((if (h (Int.toNat ((h 20 0))) 3) ≤ x3 then some (.inr (x2, h)) else bd_ (fX3_lookFrom x3 h) (fun r3 h5 => bd_ (fX3_taxBy x1 h5) (fun r6 h8 => lb_ ((i_add x2 r6)) (fun v9 => some (.inl (v9, (i_add x3 1), h8)))))))
def fX3_sumBy (x1 : Int) (h : Hp) : Option (Int × Hp) :=
  bp_ (it_ (fun s => fX3_sumBy_l4 x1 s.1 s.2.1 s.2.2) FU (0, 0, h)) (fun e11 => (fun y12 h13 => some (y12, h13)) e11.1 e11.2)
theorem fX3_sumBy_l4_ok {G : GD} {X : CX} {n : Nat} {Q : Av → Nat → Hp → Prop} (hC : Cx G X RX3 cX3_sumBy) (hZ : ZOK X G Q 0 0) (hRm : X.R = rmd 3 0 0) (hbt : X.bt = true) (hr : X.meth.sig.returnType = (some .int)) {x1 : Int} : ∀ (f : Nat) (x2 : Int) (x3 : Int) (h : Hp) (r : Int × Hp), it_ (fun s => fX3_sumBy_l4 x1 s.1 s.2.1 s.2.2) f (x2, x3, h) = some r → (∀ (y2 : Int) (h9 : Hp), r = (y2, h9) → AW G X 34 [(9, 0), (9, 0), (0, y2), (9, 0)] [] n h9 0 0) → AW G X 4 [(2, ((20 : Nat) : Int)), (0, x1), (0, x2), (0, x3)] [] n h 0 0 := by
  intro f
  induction f with
  | zero => intro x2 x3 h r hI; cases hI
  | succ f ih0 =>
    intro x2 x3 h r hI hX
    obtain ⟨b, hF, hb1, hb2⟩ := it_succ hI
    have hF : fX3_sumBy_l4 x1 x2 x3 h = some b := hF
    unfold fX3_sumBy_l4 at hF
    refine aw_iload_n hC dX3_sumBy_4 rfl ?_
    refine aw_aload_n hC dX3_sumBy_5 rfl ?_
    refine aw_g3r (k := 0) (a := 20) hC dX3_sumBy_6 lkRX3_27 (by decide) rfl rfl rfl (Or.inl ⟨hbt, by decide⟩) ?_
    obtain ⟨k1, hF⟩ := gd_some hF
    refine aw_gLiN (k := 3) hC hbt k1 dX3_sumBy_9 lkRX3_44 (by decide) rfl ?_
    refine aw_icmp_ge (tgt := 34) hC dX3_sumBy_12 (by decide) (fun c2 => ?_) (fun c2 => ?_)
    · have hF := it_t hF c2
      refine aw_weak (ls' := [(9, 0), (9, 0), (0, x2), (9, 0)]) ⟨Or.inl rfl, Or.inl rfl, Or.inr rfl, Or.inl rfl, trivial⟩ ?_
      exact hX _ _ (hb2 _ (Option.some.inj hF).symm).symm
    · have hF := it_f hF c2
      refine aw_aload_n hC dX3_sumBy_15 rfl ?_
      refine aw_iload_n hC dX3_sumBy_16 rfl ?_
      obtain ⟨r3, h5, q4, hF⟩ := bd_some hF
      refine clRX3_123 hC hRm hbt dX3_sumBy_17 rfl rfl (by decide) (Nat.le_of_ble_eq_true rfl) (Nat.le_of_ble_eq_true rfl) (ok_X3_lookFrom q4) ?_
      refine aw_iload_n hC dX3_sumBy_20 rfl ?_
      refine aw_aload_n hC dX3_sumBy_21 rfl ?_
      refine aw_iload_n hC dX3_sumBy_22 rfl ?_
      obtain ⟨r6, h8, q7, hF⟩ := bd_some hF
      refine clRX3_144 hC hRm hbt dX3_sumBy_23 rfl rfl (by decide) (Nat.le_of_ble_eq_true rfl) (Nat.le_of_ble_eq_true rfl) (ok_X3_taxBy q7) ?_
      refine aw_iadd hC dX3_sumBy_26 ?_
      obtain ⟨v9, ev9, hF⟩ := lb_some hF
      refine aw_eqT ev9 ?_
      clear ev9
      refine aw_istore2 hC dX3_sumBy_27 rfl ?_
      refine aw_iinc3 hC dX3_sumBy_28 rfl ?_
      refine aw_goto (tgt := 4) hC dX3_sumBy_31 (by decide) ?_
      exact ih0 _ _ _ r (hb1 _ (Option.some.inj hF).symm) hX
theorem ok_X3_sumBy {G : GD} {n : Nat} {x1 : Int} {h : Hp} {res : Int × Hp} (hF : fX3_sumBy x1 h = some res) : Con G yX3_sumBy cX3_sumBy 4 (some .int) 3 0 0 true [(2, ((20 : Nat) : Int)), (0, x1)] n h (FQ 0 n res) := by
  refine con_of (pad := 2) (own := RX3) (plainFor_of_name (by decide)) rfl rfl ?_
  intro X hC hbt hr hnm hZ hRm hn0
  have hK : ∀ (x9 : Int) (h9 : Hp), res = (x9, h9) → FQ 0 n res (0, x9) n h9 := fun x9 h9 e => by subst e; exact ⟨rfl, rfl, rfl⟩
  unfold fX3_sumBy at hF
  show AW G X 0 [(2, ((20 : Nat) : Int)), (0, x1), (9, 0), (9, 0)] [] n h 0 0
  refine aw_iconst hC dX3_sumBy_0 (by decide) ?_
  refine aw_istore2 hC dX3_sumBy_1 rfl ?_
  refine aw_iconst hC dX3_sumBy_2 (by decide) ?_
  refine aw_istore3 hC dX3_sumBy_3 rfl ?_
  obtain ⟨e11, he, hF⟩ := bp_some hF
  refine fX3_sumBy_l4_ok hC hZ hRm hbt hr FU _ _ _ e11 he (fun y12 h13 er => ?_)
  replace er := er.symm
  subst er
  try dsimp only at hF
  refine aw_iload_n hC dX3_sumBy_34 rfl ?_
  exact aw_ireturn hC hZ (Nat.zero_le _) (Nat.zero_le _) hr dX3_sumBy_35 (hK _ _ (Option.some.inj hF).symm)
def fX3_taxOfAll  (h : Hp) : Option (Int × Hp) :=
  gd_ (0 ≤ (60 : Int) ∧ (60 : Int) < 62) (bd_ (fX3_sumBy ((h 21 (Int.toNat 60))) h) (fun r2 h4 => some (r2, h4)))
theorem ok_X3_taxOfAll {G : GD} {n : Nat}  {h : Hp} {res : Int × Hp} (hF : fX3_taxOfAll  h = some res) : Con G yX3_taxOfAll cX3_taxOfAll 1 (some .int) 4 0 0 true [(2, ((20 : Nat) : Int))] n h (FQ 0 n res) := by
  refine con_of (pad := 0) (own := RX3) (plainFor_of_name (by decide)) rfl rfl ?_
  intro X hC hbt hr hnm hZ hRm hn0
  have hK : ∀ (x9 : Int) (h9 : Hp), res = (x9, h9) → FQ 0 n res (0, x9) n h9 := fun x9 h9 e => by subst e; exact ⟨rfl, rfl, rfl⟩
  unfold fX3_taxOfAll at hF
  show AW G X 0 [(2, ((20 : Nat) : Int))] [] n h 0 0
  refine aw_aload_n hC dX3_taxOfAll_0 rfl ?_
  refine aw_aload_n hC dX3_taxOfAll_1 rfl ?_
  refine aw_gc3 (k := 1) (a := 20) (b := 21) hC hbt dX3_taxOfAll_2 lkRX3_9 (by decide) rfl rfl rfl (by decide) (by decide) ?_
  refine aw_bipush hC dX3_taxOfAll_5 (by decide) (by decide) ?_
  obtain ⟨g1, hF⟩ := gd_some hF
  refine aw_iaload (a := 21) hC dX3_taxOfAll_7 rfl rfl (Or.inl ⟨hbt, by decide⟩) g1.1 g1.2 ?_
  obtain ⟨r2, h4, q3, hF⟩ := bd_some hF
  refine clRX3_147 hC hRm hbt dX3_taxOfAll_8 rfl rfl (by decide) (Nat.le_of_ble_eq_true rfl) (Nat.le_of_ble_eq_true rfl) (ok_X3_sumBy q3) ?_
  exact aw_ireturn hC hZ (Nat.zero_le _) (Nat.zero_le _) hr dX3_taxOfAll_11 (hK _ _ (Option.some.inj hF).symm)
def fX3_mostBy_l4 (x1 : Int) (x2 : Int) (x3 : Int) (h : Hp) : Option ((Int × Int × Hp) ⊕ (Int × Hp)) :=
  gd_ ((h 20 0) = 1 ∨ (h 20 0) = 9) ((if (h (Int.toNat ((h 20 0))) 3) ≤ x3 then some (.inr (x2, h)) else bd_ (fX3_lookFrom x3 h) (fun r3 h5 => bd_ (fX3_taxBy x1 h5) (fun r6 h8 => bp_ (fJ9_max_7cf53 x2 r6 h8) (fun r9 => some (.inl (r9, (i_add x3 1), h8)))))))
def fX3_mostBy (x1 : Int) (h : Hp) : Option (Int × Hp) :=
  bp_ (it_ (fun s => fX3_mostBy_l4 x1 s.1 s.2.1 s.2.2) FU (0, 0, h)) (fun e12 => (fun y13 h14 => some (y13, h14)) e12.1 e12.2)
theorem fX3_mostBy_l4_ok {G : GD} {X : CX} {n : Nat} {Q : Av → Nat → Hp → Prop} (hC : Cx G X RX3 cX3_mostBy) (hZ : ZOK X G Q 0 0) (hRm : X.R = rmd 3 0 0) (hbt : X.bt = true) (hr : X.meth.sig.returnType = (some .int)) {x1 : Int} : ∀ (f : Nat) (x2 : Int) (x3 : Int) (h : Hp) (r : Int × Hp), it_ (fun s => fX3_mostBy_l4 x1 s.1 s.2.1 s.2.2) f (x2, x3, h) = some r → (∀ (y2 : Int) (h9 : Hp), r = (y2, h9) → AW G X 36 [(9, 0), (9, 0), (0, y2), (9, 0)] [] n h9 0 0) → AW G X 4 [(2, ((20 : Nat) : Int)), (0, x1), (0, x2), (0, x3)] [] n h 0 0 := by
  intro f
  induction f with
  | zero => intro x2 x3 h r hI; cases hI
  | succ f ih0 =>
    intro x2 x3 h r hI hX
    obtain ⟨b, hF, hb1, hb2⟩ := it_succ hI
    have hF : fX3_mostBy_l4 x1 x2 x3 h = some b := hF
    unfold fX3_mostBy_l4 at hF
    refine aw_iload_n hC dX3_mostBy_4 rfl ?_
    refine aw_aload_n hC dX3_mostBy_5 rfl ?_
    refine aw_g3r (k := 0) (a := 20) hC dX3_mostBy_6 lkRX3_27 (by decide) rfl rfl rfl (Or.inl ⟨hbt, by decide⟩) ?_
    obtain ⟨k1, hF⟩ := gd_some hF
    refine aw_gLiN (k := 3) hC hbt k1 dX3_mostBy_9 lkRX3_44 (by decide) rfl ?_
    refine aw_icmp_ge (tgt := 36) hC dX3_mostBy_12 (by decide) (fun c2 => ?_) (fun c2 => ?_)
    · have hF := it_t hF c2
      refine aw_weak (ls' := [(9, 0), (9, 0), (0, x2), (9, 0)]) ⟨Or.inl rfl, Or.inl rfl, Or.inr rfl, Or.inl rfl, trivial⟩ ?_
      exact hX _ _ (hb2 _ (Option.some.inj hF).symm).symm
    · have hF := it_f hF c2
      refine aw_aload_n hC dX3_mostBy_15 rfl ?_
      refine aw_iload_n hC dX3_mostBy_16 rfl ?_
      obtain ⟨r3, h5, q4, hF⟩ := bd_some hF
      refine clRX3_123 hC hRm hbt dX3_mostBy_17 rfl rfl (by decide) (Nat.le_of_ble_eq_true rfl) (Nat.le_of_ble_eq_true rfl) (ok_X3_lookFrom q4) ?_
      refine aw_iload_n hC dX3_mostBy_20 rfl ?_
      refine aw_aload_n hC dX3_mostBy_21 rfl ?_
      refine aw_iload_n hC dX3_mostBy_22 rfl ?_
      obtain ⟨r6, h8, q7, hF⟩ := bd_some hF
      refine clRX3_144 hC hRm hbt dX3_mostBy_23 rfl rfl (by decide) (Nat.le_of_ble_eq_true rfl) (Nat.le_of_ble_eq_true rfl) (ok_X3_taxBy q7) ?_
      obtain ⟨r9, q10, hF⟩ := bp_some hF
      refine clRX3_105 hC hRm hbt dX3_mostBy_26 (Nat.le_of_ble_eq_true rfl) (Nat.le_of_ble_eq_true rfl) (ok_J9_max_7cf53 q10) ?_
      refine aw_istore2 hC dX3_mostBy_29 rfl ?_
      refine aw_iinc3 hC dX3_mostBy_30 rfl ?_
      refine aw_goto (tgt := 4) hC dX3_mostBy_33 (by decide) ?_
      exact ih0 _ _ _ r (hb1 _ (Option.some.inj hF).symm) hX
theorem ok_X3_mostBy {G : GD} {n : Nat} {x1 : Int} {h : Hp} {res : Int × Hp} (hF : fX3_mostBy x1 h = some res) : Con G yX3_mostBy cX3_mostBy 4 (some .int) 3 0 0 true [(2, ((20 : Nat) : Int)), (0, x1)] n h (FQ 0 n res) := by
  refine con_of (pad := 2) (own := RX3) (plainFor_of_name (by decide)) rfl rfl ?_
  intro X hC hbt hr hnm hZ hRm hn0
  have hK : ∀ (x9 : Int) (h9 : Hp), res = (x9, h9) → FQ 0 n res (0, x9) n h9 := fun x9 h9 e => by subst e; exact ⟨rfl, rfl, rfl⟩
  unfold fX3_mostBy at hF
  show AW G X 0 [(2, ((20 : Nat) : Int)), (0, x1), (9, 0), (9, 0)] [] n h 0 0
  refine aw_iconst hC dX3_mostBy_0 (by decide) ?_
  refine aw_istore2 hC dX3_mostBy_1 rfl ?_
  refine aw_iconst hC dX3_mostBy_2 (by decide) ?_
  refine aw_istore3 hC dX3_mostBy_3 rfl ?_
  obtain ⟨e12, he, hF⟩ := bp_some hF
  refine fX3_mostBy_l4_ok hC hZ hRm hbt hr FU _ _ _ e12 he (fun y13 h14 er => ?_)
  replace er := er.symm
  subst er
  try dsimp only at hF
  refine aw_iload_n hC dX3_mostBy_36 rfl ?_
  exact aw_ireturn hC hZ (Nat.zero_le _) (Nat.zero_le _) hr dX3_mostBy_37 (hK _ _ (Option.some.inj hF).symm)
def fX3_allWithin_l2 (x1 : Int) (x2 : Int) (x3 : Int) (h : Hp) : Option ((Int × Hp) ⊕ ((Hp) ⊕ (Int × Hp))) :=
  gd_ ((h 20 0) = 1 ∨ (h 20 0) = 9) ((if (h (Int.toNat ((h 20 0))) 3) ≤ x3 then some (.inr (.inl h)) else bp_ (fX5_hasBit x1 x3 h) (fun r3 => (if r3 = 0 then some (.inl ((i_add x3 1), h)) else bd_ (fX3_taxOf x3 h) (fun r7 h9 => (if r7 ≤ x2 then some (.inl ((i_add x3 1), h9)) else some (.inr (.inr (0, h9)))))))))
def fX3_allWithin (x1 : Int) (x2 : Int) (h : Hp) : Option (Int × Hp) :=
  bp_ (it_ (fun s => fX3_allWithin_l2 x1 x2 s.1 s.2) FU (0, h)) (fun e12 => match e12 with | .inl e12 => (fun h13 => some (1, h13)) e12 | .inr q9 => some q9)
theorem fX3_allWithin_l2_ok {G : GD} {X : CX} {n : Nat} {Q : Av → Nat → Hp → Prop} (hC : Cx G X RX3 cX3_allWithin) (hZ : ZOK X G Q 0 0) (hRm : X.R = rmd 4 0 0) (hbt : X.bt = true) (hr : X.meth.sig.returnType = (some .boolean)) {x1 : Int} {x2 : Int} : ∀ (f : Nat) (x3 : Int) (h : Hp) (r : (Hp) ⊕ (Int × Hp)), it_ (fun s => fX3_allWithin_l2 x1 x2 s.1 s.2) f (x3, h) = some r → (∀ (h9 : Hp), r = (.inl h9) → AW G X 39 [(9, 0), (9, 0), (9, 0), (9, 0)] [] n h9 0 0) → (∀ (x9 : Int) (h9 : Hp), r = .inr (x9, h9) → Q (0, x9) n h9) → AW G X 2 [(2, ((20 : Nat) : Int)), (0, x1), (0, x2), (0, x3)] [] n h 0 0 := by
  intro f
  induction f with
  | zero => intro x3 h r hI; cases hI
  | succ f ih0 =>
    intro x3 h r hI hX hRet9
    obtain ⟨b, hF, hb1, hb2⟩ := it_succ hI
    have hF : fX3_allWithin_l2 x1 x2 x3 h = some b := hF
    have hRet : ∀ (x9 : Int) (h9 : Hp), b = .inr (.inr (x9, h9)) → Q (0, x9) n h9 := fun x9 h9 e => hRet9 x9 h9 (hb2 _ e).symm
    unfold fX3_allWithin_l2 at hF
    refine aw_iload_n hC dX3_allWithin_2 rfl ?_
    refine aw_aload_n hC dX3_allWithin_3 rfl ?_
    refine aw_g3r (k := 0) (a := 20) hC dX3_allWithin_4 lkRX3_27 (by decide) rfl rfl rfl (Or.inl ⟨hbt, by decide⟩) ?_
    obtain ⟨k1, hF⟩ := gd_some hF
    refine aw_gLiN (k := 3) hC hbt k1 dX3_allWithin_7 lkRX3_44 (by decide) rfl ?_
    refine aw_icmp_ge (tgt := 39) hC dX3_allWithin_10 (by decide) (fun c2 => ?_) (fun c2 => ?_)
    · have hF := it_t hF c2
      refine aw_weak (ls' := [(9, 0), (9, 0), (9, 0), (9, 0)]) ⟨Or.inl rfl, Or.inl rfl, Or.inl rfl, Or.inl rfl, trivial⟩ ?_
      exact hX _ (hb2 _ (Option.some.inj hF).symm).symm
    · have hF := it_f hF c2
      refine aw_iload_n hC dX3_allWithin_13 rfl ?_
      refine aw_i2l hC dX3_allWithin_14 ?_
      refine aw_iload_n hC dX3_allWithin_15 rfl ?_
      obtain ⟨r3, q4, hF⟩ := bp_some hF
      refine clRX3_98 hC hRm hbt dX3_allWithin_16 (Nat.le_of_ble_eq_true rfl) (Nat.le_of_ble_eq_true rfl) (ok_X5_hasBit q4) ?_
      refine aw_if_eq (tgt := 33) hC dX3_allWithin_19 (by decide) (fun c5 => ?_) (fun c5 => ?_)
      · have hF := it_t hF c5
        refine aw_iinc3 hC dX3_allWithin_33 rfl ?_
        refine aw_goto (tgt := 2) hC dX3_allWithin_36 (by decide) ?_
        exact ih0 _ _ r (hb1 _ (Option.some.inj hF).symm) hX hRet9
      · have hF := it_f hF c5
        refine aw_aload_n hC dX3_allWithin_22 rfl ?_
        refine aw_iload_n hC dX3_allWithin_23 rfl ?_
        obtain ⟨r7, h9, q8, hF⟩ := bd_some hF
        refine clRX3_150 hC hRm hbt dX3_allWithin_24 rfl rfl (by decide) (Nat.le_of_ble_eq_true rfl) (Nat.le_of_ble_eq_true rfl) (ok_X3_taxOf q8) ?_
        refine aw_iload_n hC dX3_allWithin_27 rfl ?_
        refine aw_icmp_le (tgt := 33) hC dX3_allWithin_28 (by decide) (fun c10 => ?_) (fun c10 => ?_)
        · have hF := it_t hF c10
          refine aw_iinc3 hC dX3_allWithin_33 rfl ?_
          refine aw_goto (tgt := 2) hC dX3_allWithin_36 (by decide) ?_
          exact ih0 _ _ r (hb1 _ (Option.some.inj hF).symm) hX hRet9
        · have hF := it_f hF c10
          refine aw_iconst hC dX3_allWithin_31 (by decide) ?_
          exact aw_zreturn hC hZ (Nat.zero_le _) (Nat.zero_le _) hr rfl dX3_allWithin_32 (by decide) (hRet _ _ (Option.some.inj hF).symm)
theorem ok_X3_allWithin {G : GD} {n : Nat} {x1 : Int} {x2 : Int} {h : Hp} {res : Int × Hp} (hF : fX3_allWithin x1 x2 h = some res) : Con G yX3_allWithin cX3_allWithin 4 (some .boolean) 4 0 0 true [(2, ((20 : Nat) : Int)), (0, x1), (0, x2)] n h (FQ 0 n res) := by
  refine con_of (pad := 1) (own := RX3) (plainFor_of_name (by decide)) rfl rfl ?_
  intro X hC hbt hr hnm hZ hRm hn0
  have hK : ∀ (x9 : Int) (h9 : Hp), res = (x9, h9) → FQ 0 n res (0, x9) n h9 := fun x9 h9 e => by subst e; exact ⟨rfl, rfl, rfl⟩
  unfold fX3_allWithin at hF
  show AW G X 0 [(2, ((20 : Nat) : Int)), (0, x1), (0, x2), (9, 0)] [] n h 0 0
  refine aw_iconst hC dX3_allWithin_0 (by decide) ?_
  refine aw_istore3 hC dX3_allWithin_1 rfl ?_
  obtain ⟨e12, he, hF⟩ := bp_some hF
  refine fX3_allWithin_l2_ok hC hZ hRm hbt hr FU _ _ e12 he (fun h13 er => ?_) (fun x9 h9 e => by subst e; exact hK _ _ (Option.some.inj hF).symm)
  replace er := er.symm
  subst er
  try dsimp only at hF
  refine aw_iconst hC dX3_allWithin_39 (by decide) ?_
  exact aw_zreturn hC hZ (Nat.zero_le _) (Nat.zero_le _) hr rfl dX3_allWithin_40 (by decide) (hK _ _ (Option.some.inj hF).symm)
def fX3_housesThatCanPay_l4 (x1 : Int) (x2 : Int) (h : Hp) : Option ((Int × Int × Hp) ⊕ (Int × Hp)) :=
  gd_ ((h 20 0) = 1 ∨ (h 20 0) = 9) ((if (h (Int.toNat ((h 20 0))) 3) ≤ x2 then some (.inr (x1, h)) else bd_ (fX3_taxOf x2 h) (fun r3 h5 => gd_ (0 ≤ (i_add 36 x2) ∧ (i_add 36 x2) < 62) ((if (h5 21 (Int.toNat ((i_add 36 x2)))) < r3 then some (.inl (x1, (i_add x2 1), h5)) else lb_ ((i_or x1 ((i_shl 1 x2)))) (fun v9 => some (.inl (v9, (i_add x2 1), h5))))))))
def fX3_housesThatCanPay  (h : Hp) : Option (Int × Hp) :=
  bp_ (it_ (fun s => fX3_housesThatCanPay_l4 s.1 s.2.1 s.2.2) FU (0, 0, h)) (fun e11 => (fun y12 h13 => some (y12, h13)) e11.1 e11.2)
theorem fX3_housesThatCanPay_l4_ok {G : GD} {X : CX} {n : Nat} {Q : Av → Nat → Hp → Prop} (hC : Cx G X RX3 cX3_housesThatCanPay) (hZ : ZOK X G Q 0 0) (hRm : X.R = rmd 4 0 0) (hbt : X.bt = true) (hr : X.meth.sig.returnType = (some .int))  : ∀ (f : Nat) (x1 : Int) (x2 : Int) (h : Hp) (r : Int × Hp), it_ (fun s => fX3_housesThatCanPay_l4 s.1 s.2.1 s.2.2) f (x1, x2, h) = some r → (∀ (y1 : Int) (h9 : Hp), r = (y1, h9) → AW G X 44 [(9, 0), (0, y1), (9, 0)] [] n h9 0 0) → AW G X 4 [(2, ((20 : Nat) : Int)), (0, x1), (0, x2)] [] n h 0 0 := by
  intro f
  induction f with
  | zero => intro x1 x2 h r hI; cases hI
  | succ f ih0 =>
    intro x1 x2 h r hI hX
    obtain ⟨b, hF, hb1, hb2⟩ := it_succ hI
    have hF : fX3_housesThatCanPay_l4 x1 x2 h = some b := hF
    unfold fX3_housesThatCanPay_l4 at hF
    refine aw_iload_n hC dX3_housesThatCanPay_4 rfl ?_
    refine aw_aload_n hC dX3_housesThatCanPay_5 rfl ?_
    refine aw_g3r (k := 0) (a := 20) hC dX3_housesThatCanPay_6 lkRX3_27 (by decide) rfl rfl rfl (Or.inl ⟨hbt, by decide⟩) ?_
    obtain ⟨k1, hF⟩ := gd_some hF
    refine aw_gLiN (k := 3) hC hbt k1 dX3_housesThatCanPay_9 lkRX3_44 (by decide) rfl ?_
    refine aw_icmp_ge (tgt := 44) hC dX3_housesThatCanPay_12 (by decide) (fun c2 => ?_) (fun c2 => ?_)
    · have hF := it_t hF c2
      refine aw_weak (ls' := [(9, 0), (0, x1), (9, 0)]) ⟨Or.inl rfl, Or.inr rfl, Or.inl rfl, trivial⟩ ?_
      exact hX _ _ (hb2 _ (Option.some.inj hF).symm).symm
    · have hF := it_f hF c2
      refine aw_aload_n hC dX3_housesThatCanPay_15 rfl ?_
      refine aw_iload_n hC dX3_housesThatCanPay_16 rfl ?_
      obtain ⟨r3, h5, q4, hF⟩ := bd_some hF
      refine clRX3_150 hC hRm hbt dX3_housesThatCanPay_17 rfl rfl (by decide) (Nat.le_of_ble_eq_true rfl) (Nat.le_of_ble_eq_true rfl) (ok_X3_taxOf q4) ?_
      refine aw_aload_n hC dX3_housesThatCanPay_20 rfl ?_
      refine aw_gc3 (k := 1) (a := 20) (b := 21) hC hbt dX3_housesThatCanPay_21 lkRX3_9 (by decide) rfl rfl rfl (by decide) (by decide) ?_
      refine aw_bipush hC dX3_housesThatCanPay_24 (by decide) (by decide) ?_
      refine aw_iload_n hC dX3_housesThatCanPay_26 rfl ?_
      refine aw_iadd hC dX3_housesThatCanPay_27 ?_
      obtain ⟨g6, hF⟩ := gd_some hF
      refine aw_iaload (a := 21) hC dX3_housesThatCanPay_28 rfl rfl (Or.inl ⟨hbt, by decide⟩) g6.1 g6.2 ?_
      refine aw_icmp_gt (tgt := 38) hC dX3_housesThatCanPay_29 (by decide) (fun c7 => ?_) (fun c7 => ?_)
      · have hF := it_t hF c7
        refine aw_iinc2 hC dX3_housesThatCanPay_38 rfl ?_
        refine aw_goto (tgt := 4) hC dX3_housesThatCanPay_41 (by decide) ?_
        exact ih0 _ _ _ r (hb1 _ (Option.some.inj hF).symm) hX
      · have hF := it_f hF c7
        refine aw_iload_n hC dX3_housesThatCanPay_32 rfl ?_
        refine aw_iconst hC dX3_housesThatCanPay_33 (by decide) ?_
        refine aw_iload_n hC dX3_housesThatCanPay_34 rfl ?_
        refine aw_ishl hC dX3_housesThatCanPay_35 ?_
        refine aw_ior hC dX3_housesThatCanPay_36 ?_
        obtain ⟨v9, ev9, hF⟩ := lb_some hF
        refine aw_eqT ev9 ?_
        clear ev9
        refine aw_istore1 hC dX3_housesThatCanPay_37 rfl ?_
        refine aw_iinc2 hC dX3_housesThatCanPay_38 rfl ?_
        refine aw_goto (tgt := 4) hC dX3_housesThatCanPay_41 (by decide) ?_
        exact ih0 _ _ _ r (hb1 _ (Option.some.inj hF).symm) hX
theorem ok_X3_housesThatCanPay {G : GD} {n : Nat}  {h : Hp} {res : Int × Hp} (hF : fX3_housesThatCanPay  h = some res) : Con G yX3_housesThatCanPay cX3_housesThatCanPay 3 (some .int) 4 0 0 true [(2, ((20 : Nat) : Int))] n h (FQ 0 n res) := by
  refine con_of (pad := 2) (own := RX3) (plainFor_of_name (by decide)) rfl rfl ?_
  intro X hC hbt hr hnm hZ hRm hn0
  have hK : ∀ (x9 : Int) (h9 : Hp), res = (x9, h9) → FQ 0 n res (0, x9) n h9 := fun x9 h9 e => by subst e; exact ⟨rfl, rfl, rfl⟩
  unfold fX3_housesThatCanPay at hF
  show AW G X 0 [(2, ((20 : Nat) : Int)), (9, 0), (9, 0)] [] n h 0 0
  refine aw_iconst hC dX3_housesThatCanPay_0 (by decide) ?_
  refine aw_istore1 hC dX3_housesThatCanPay_1 rfl ?_
  refine aw_iconst hC dX3_housesThatCanPay_2 (by decide) ?_
  refine aw_istore2 hC dX3_housesThatCanPay_3 rfl ?_
  obtain ⟨e11, he, hF⟩ := bp_some hF
  refine fX3_housesThatCanPay_l4_ok hC hZ hRm hbt hr FU _ _ _ e11 he (fun y12 h13 er => ?_)
  replace er := er.symm
  subst er
  try dsimp only at hF
  refine aw_iload_n hC dX3_housesThatCanPay_44 rfl ?_
  exact aw_ireturn hC hZ (Nat.zero_le _) (Nat.zero_le _) hr dX3_housesThatCanPay_45 (hK _ _ (Option.some.inj hF).symm)
def fX3_leastPurse_l24 (x1 : Int) (x2 : Int) (h : Hp) : Option ((Int × Int) ⊕ (Int)) :=
  gd_ ((h 20 0) = 1 ∨ (h 20 0) = 9) ((if (h (Int.toNat ((h 20 0))) 3) ≤ x2 then some (.inr x1) else gd_ (0 ≤ (i_add 36 x2) ∧ (i_add 36 x2) < 62) (bp_ (fJ9_min_7cf53 x1 ((h 21 (Int.toNat ((i_add 36 x2))))) h) (fun r6 => some (.inl (r6, (i_add x2 1)))))))
def fX3_leastPurse  (h : Hp) : Option (Int) :=
  gd_ ((h 20 0) = 1 ∨ (h 20 0) = 9) ((if (h (Int.toNat ((h 20 0))) 3) ≤ 0 then bp_ (it_ (fun s => fX3_leastPurse_l24 s.1 s.2 h) FU (0, 1)) (fun e9 => (fun y10 => some y10) e9) else gd_ (0 ≤ (36 : Int) ∧ (36 : Int) < 62) (lb_ ((h 21 (Int.toNat 36))) (fun v12 => bp_ (it_ (fun s => fX3_leastPurse_l24 s.1 s.2 h) FU (v12, 1)) (fun e13 => (fun y14 => some y14) e13)))))
theorem fX3_leastPurse_l24_ok {G : GD} {X : CX} {n : Nat} {Q : Av → Nat → Hp → Prop} (hC : Cx G X RX3 cX3_leastPurse) (hZ : ZOK X G Q 0 0) (hRm : X.R = rmd 1 0 0) (hbt : X.bt = true) (hr : X.meth.sig.returnType = (some .int))  {h : Hp} : ∀ (f : Nat) (x1 : Int) (x2 : Int) (r : Int), it_ (fun s => fX3_leastPurse_l24 s.1 s.2 h) f (x1, x2) = some r → (∀ (y1 : Int), r = y1 → AW G X 55 [(9, 0), (0, y1), (9, 0)] [] n h 0 0) → AW G X 24 [(2, ((20 : Nat) : Int)), (0, x1), (0, x2)] [] n h 0 0 := by
  intro f
  induction f with
  | zero => intro x1 x2 r hI; cases hI
  | succ f ih0 =>
    intro x1 x2 r hI hX
    obtain ⟨b, hF, hb1, hb2⟩ := it_succ hI
    have hF : fX3_leastPurse_l24 x1 x2 h = some b := hF
    unfold fX3_leastPurse_l24 at hF
    refine aw_iload_n hC dX3_leastPurse_24 rfl ?_
    refine aw_aload_n hC dX3_leastPurse_25 rfl ?_
    refine aw_g3r (k := 0) (a := 20) hC dX3_leastPurse_26 lkRX3_27 (by decide) rfl rfl rfl (Or.inl ⟨hbt, by decide⟩) ?_
    obtain ⟨k3, hF⟩ := gd_some hF
    refine aw_gLiN (k := 3) hC hbt k3 dX3_leastPurse_29 lkRX3_44 (by decide) rfl ?_
    refine aw_icmp_ge (tgt := 55) hC dX3_leastPurse_32 (by decide) (fun c4 => ?_) (fun c4 => ?_)
    · have hF := it_t hF c4
      refine aw_weak (ls' := [(9, 0), (0, x1), (9, 0)]) ⟨Or.inl rfl, Or.inr rfl, Or.inl rfl, trivial⟩ ?_
      exact hX _ (hb2 _ (Option.some.inj hF).symm).symm
    · have hF := it_f hF c4
      refine aw_iload_n hC dX3_leastPurse_35 rfl ?_
      refine aw_aload_n hC dX3_leastPurse_36 rfl ?_
      refine aw_gc3 (k := 1) (a := 20) (b := 21) hC hbt dX3_leastPurse_37 lkRX3_9 (by decide) rfl rfl rfl (by decide) (by decide) ?_
      refine aw_bipush hC dX3_leastPurse_40 (by decide) (by decide) ?_
      refine aw_iload_n hC dX3_leastPurse_42 rfl ?_
      refine aw_iadd hC dX3_leastPurse_43 ?_
      obtain ⟨g5, hF⟩ := gd_some hF
      refine aw_iaload (a := 21) hC dX3_leastPurse_44 rfl rfl (Or.inl ⟨hbt, by decide⟩) g5.1 g5.2 ?_
      obtain ⟨r6, q7, hF⟩ := bp_some hF
      refine clRX3_153 hC hRm hbt dX3_leastPurse_45 (Nat.le_of_ble_eq_true rfl) (Nat.le_of_ble_eq_true rfl) (ok_J9_min_7cf53 q7) ?_
      refine aw_istore1 hC dX3_leastPurse_48 rfl ?_
      refine aw_iinc2 hC dX3_leastPurse_49 rfl ?_
      refine aw_goto (tgt := 24) hC dX3_leastPurse_52 (by decide) ?_
      exact ih0 _ _ r (hb1 _ (Option.some.inj hF).symm) hX
theorem ok_X3_leastPurse {G : GD} {n : Nat}  {h : Hp} {res : Int} (hF : fX3_leastPurse  h = some res) : Con G yX3_leastPurse cX3_leastPurse 3 (some .int) 1 0 0 true [(2, ((20 : Nat) : Int))] n h (FQ 0 n (res, h)) := by
  refine con_of (pad := 2) (own := RX3) (plainFor_of_name (by decide)) rfl rfl ?_
  intro X hC hbt hr hnm hZ hRm hn0
  have hK : ∀ (x9 : Int), res = x9 → FQ 0 n (res, h) (0, x9) n h := fun x9 e => by subst e; exact ⟨rfl, rfl, rfl⟩
  unfold fX3_leastPurse at hF
  show AW G X 0 [(2, ((20 : Nat) : Int)), (9, 0), (9, 0)] [] n h 0 0
  refine aw_aload_n hC dX3_leastPurse_0 rfl ?_
  refine aw_g3r (k := 0) (a := 20) hC dX3_leastPurse_1 lkRX3_27 (by decide) rfl rfl rfl (Or.inl ⟨hbt, by decide⟩) ?_
  obtain ⟨k1, hF⟩ := gd_some hF
  refine aw_gLiN (k := 3) hC hbt k1 dX3_leastPurse_4 lkRX3_44 (by decide) rfl ?_
  refine aw_if_le (tgt := 20) hC dX3_leastPurse_7 (by decide) (fun c2 => ?_) (fun c2 => ?_)
  · have hF := it_t hF c2
    refine aw_iconst hC dX3_leastPurse_20 (by decide) ?_
    refine aw_istore1 hC dX3_leastPurse_21 rfl ?_
    refine aw_iconst hC dX3_leastPurse_22 (by decide) ?_
    refine aw_istore2 hC dX3_leastPurse_23 rfl ?_
    obtain ⟨e9, he, hF⟩ := bp_some hF
    refine fX3_leastPurse_l24_ok hC hZ hRm hbt hr FU _ _ e9 he (fun y10 er => ?_)
    replace er := er.symm
    subst er
    try dsimp only at hF
    refine aw_iload_n hC dX3_leastPurse_55 rfl ?_
    exact aw_ireturn hC hZ (Nat.zero_le _) (Nat.zero_le _) hr dX3_leastPurse_56 (hK _ (Option.some.inj hF).symm)
  · have hF := it_f hF c2
    refine aw_aload_n hC dX3_leastPurse_10 rfl ?_
    refine aw_gc3 (k := 1) (a := 20) (b := 21) hC hbt dX3_leastPurse_11 lkRX3_9 (by decide) rfl rfl rfl (by decide) (by decide) ?_
    refine aw_bipush hC dX3_leastPurse_14 (by decide) (by decide) ?_
    obtain ⟨g11, hF⟩ := gd_some hF
    refine aw_iaload (a := 21) hC dX3_leastPurse_16 rfl rfl (Or.inl ⟨hbt, by decide⟩) g11.1 g11.2 ?_
    refine aw_goto (tgt := 21) hC dX3_leastPurse_17 (by decide) ?_
    obtain ⟨v12, ev12, hF⟩ := lb_some hF
    refine aw_eqT ev12 ?_
    clear ev12
    refine aw_istore1 hC dX3_leastPurse_21 rfl ?_
    refine aw_iconst hC dX3_leastPurse_22 (by decide) ?_
    refine aw_istore2 hC dX3_leastPurse_23 rfl ?_
    obtain ⟨e13, he, hF⟩ := bp_some hF
    refine fX3_leastPurse_l24_ok hC hZ hRm hbt hr FU _ _ e13 he (fun y14 er => ?_)
    replace er := er.symm
    subst er
    try dsimp only at hF
    refine aw_iload_n hC dX3_leastPurse_55 rfl ?_
    exact aw_ireturn hC hZ (Nat.zero_le _) (Nat.zero_le _) hr dX3_leastPurse_56 (hK _ (Option.some.inj hF).symm)
def fX3_passYear_l4 (x1 : Int) (x2 : Int) (h : Hp) : Option ((Int × Int × Hp) ⊕ (Int × Hp)) :=
  gd_ ((h 20 0) = 1 ∨ (h 20 0) = 9) ((if (h (Int.toNat ((h 20 0))) 3) ≤ x2 then some (.inr (x1, h)) else bd_ (fX3_taxOf x2 h) (fun r3 h5 => gd_ (0 ≤ (i_add 36 x2) ∧ (i_add 36 x2) < 62) (gd_ (0 ≤ (i_add 36 x2) ∧ (i_add 36 x2) < 62) (lb_ (st h5 21 (Int.toNat ((i_add 36 x2))) ((i_sub ((h5 21 (Int.toNat ((i_add 36 x2))))) r3))) (fun h8 => lb_ ((i_add x1 r3)) (fun v9 => some (.inl (v9, (i_add x2 1), h8)))))))))
def fX3_passYear_l46 (x1 : Int) (x2 : Int) (h : Hp) : Option ((Int × Hp) ⊕ (Hp)) :=
  (if 12 ≤ x2 then some (.inr h) else gd_ (0 ≤ (i_add 0 x2) ∧ (i_add 0 x2) < 62) ((if (h 21 (Int.toNat ((i_add 0 x2)))) = (-1) then some (.inl ((i_add x2 1), h)) else gd_ (0 ≤ (i_add 12 x2) ∧ (i_add 12 x2) < 62) (gd_ (0 ≤ (i_add 24 x2) ∧ (i_add 24 x2) < 62) ((if (h 21 (Int.toNat ((i_add 24 x2)))) ≤ (h 21 (Int.toNat ((i_add 12 x2)))) then some (.inl ((i_add x2 1), h)) else gd_ (0 ≤ (i_add 12 x2) ∧ (i_add 12 x2) < 62) (gd_ (0 ≤ (i_add 12 x2) ∧ (i_add 12 x2) < 62) (lb_ (st h 21 (Int.toNat ((i_add 12 x2))) ((i_add ((h 21 (Int.toNat ((i_add 12 x2))))) 1))) (fun h24 => gd_ (0 ≤ (i_add 0 x2) ∧ (i_add 0 x2) < 62) (bd_ (fX3_raise ((h24 21 (Int.toNat ((i_add 0 x2))))) 1 h24) (fun r26 h28 => some (.inl ((i_add x2 1), h28)))))))))))))
def fX3_passYear  (h : Hp) : Option (Int × Hp) :=
  bp_ (it_ (fun s => fX3_passYear_l4 s.1 s.2.1 s.2.2) FU (0, 0, h)) (fun e11 => (fun y12 h13 => bp_ (it_ (fun s => fX3_passYear_l46 y12 s.1 s.2) FU (0, h13)) (fun e30 => (fun h31 => gd_ (0 ≤ (61 : Int) ∧ (61 : Int) < 62) (gd_ (0 ≤ (61 : Int) ∧ (61 : Int) < 62) (lb_ (st h31 21 (Int.toNat 61) ((i_add ((h31 21 (Int.toNat 61))) 1))) (fun h34 => gd_ (0 ≤ (61 : Int) ∧ (61 : Int) < 62) (gd_ ((h34 20 0) = 1 ∨ (h34 20 0) = 9) (bp_ (fX1_fogOf ((h34 20 0)) ((h34 21 (Int.toNat 61))) h34) (fun r37 => lb_ (st h34 20 4 r37) (fun h39 => some (y12, h39))))))))) e30)) e11.1 e11.2)
theorem fX3_passYear_l4_ok {G : GD} {X : CX} {n : Nat} {Q : Av → Nat → Hp → Prop} (hC : Cx G X RX3 cX3_passYear) (hZ : ZOK X G Q 0 0) (hRm : X.R = rmd 4 0 0) (hbt : X.bt = true) (hr : X.meth.sig.returnType = (some .int))  : ∀ (f : Nat) (x1 : Int) (x2 : Int) (h : Hp) (r : Int × Hp), it_ (fun s => fX3_passYear_l4 s.1 s.2.1 s.2.2) f (x1, x2, h) = some r → (∀ (y1 : Int) (h9 : Hp), r = (y1, h9) → AW G X 44 [(2, ((20 : Nat) : Int)), (0, y1), (9, 0), (9, 0)] [] n h9 0 0) → AW G X 4 [(2, ((20 : Nat) : Int)), (0, x1), (0, x2), (9, 0)] [] n h 0 0 := by
  intro f
  induction f with
  | zero => intro x1 x2 h r hI; cases hI
  | succ f ih0 =>
    intro x1 x2 h r hI hX
    obtain ⟨b, hF, hb1, hb2⟩ := it_succ hI
    have hF : fX3_passYear_l4 x1 x2 h = some b := hF
    unfold fX3_passYear_l4 at hF
    refine aw_iload_n hC dX3_passYear_4 rfl ?_
    refine aw_aload_n hC dX3_passYear_5 rfl ?_
    refine aw_g3r (k := 0) (a := 20) hC dX3_passYear_6 lkRX3_27 (by decide) rfl rfl rfl (Or.inl ⟨hbt, by decide⟩) ?_
    obtain ⟨k1, hF⟩ := gd_some hF
    refine aw_gLiN (k := 3) hC hbt k1 dX3_passYear_9 lkRX3_44 (by decide) rfl ?_
    refine aw_icmp_ge (tgt := 44) hC dX3_passYear_12 (by decide) (fun c2 => ?_) (fun c2 => ?_)
    · have hF := it_t hF c2
      refine aw_weak (ls' := [(2, ((20 : Nat) : Int)), (0, x1), (9, 0), (9, 0)]) ⟨Or.inr rfl, Or.inr rfl, Or.inl rfl, Or.inl rfl, trivial⟩ ?_
      exact hX _ _ (hb2 _ (Option.some.inj hF).symm).symm
    · have hF := it_f hF c2
      refine aw_aload_n hC dX3_passYear_15 rfl ?_
      refine aw_iload_n hC dX3_passYear_16 rfl ?_
      obtain ⟨r3, h5, q4, hF⟩ := bd_some hF
      refine clRX3_150 hC hRm hbt dX3_passYear_17 rfl rfl (by decide) (Nat.le_of_ble_eq_true rfl) (Nat.le_of_ble_eq_true rfl) (ok_X3_taxOf q4) ?_
      refine aw_istore3 hC dX3_passYear_20 rfl ?_
      refine aw_aload_n hC dX3_passYear_21 rfl ?_
      refine aw_gc3 (k := 1) (a := 20) (b := 21) hC hbt dX3_passYear_22 lkRX3_9 (by decide) rfl rfl rfl (by decide) (by decide) ?_
      refine aw_bipush hC dX3_passYear_25 (by decide) (by decide) ?_
      refine aw_iload_n hC dX3_passYear_27 rfl ?_
      refine aw_iadd hC dX3_passYear_28 ?_
      refine aw_dup2 hC dX3_passYear_29 (by simp) (by simp) ?_
      obtain ⟨g6, hF⟩ := gd_some hF
      refine aw_iaload (a := 21) hC dX3_passYear_30 rfl rfl (Or.inl ⟨hbt, by decide⟩) g6.1 g6.2 ?_
      refine aw_iload_n hC dX3_passYear_31 rfl ?_
      refine aw_isub hC dX3_passYear_32 ?_
      obtain ⟨g7, hF⟩ := gd_some hF
      obtain ⟨h8, eh8, hF⟩ := lb_some hF
      refine aw_iastore (a := 21) hC dX3_passYear_33 rfl rfl (Or.inl ⟨hbt, by decide⟩) g7.1 g7.2 ?_
      refine aw_eqH eh8 ?_
      clear eh8
      refine aw_iload_n hC dX3_passYear_34 rfl ?_
      refine aw_iload_n hC dX3_passYear_35 rfl ?_
      refine aw_iadd hC dX3_passYear_36 ?_
      obtain ⟨v9, ev9, hF⟩ := lb_some hF
      refine aw_eqT ev9 ?_
      clear ev9
      refine aw_istore1 hC dX3_passYear_37 rfl ?_
      refine aw_iinc2 hC dX3_passYear_38 rfl ?_
      refine aw_goto (tgt := 4) hC dX3_passYear_41 (by decide) ?_
      refine aw_weak (ls' := [(2, ((20 : Nat) : Int)), (0, v9), (0, (i_add x2 1)), (9, 0)]) ⟨Or.inr rfl, Or.inr rfl, Or.inr rfl, Or.inl rfl, trivial⟩ ?_
      exact ih0 _ _ _ r (hb1 _ (Option.some.inj hF).symm) hX
theorem fX3_passYear_l46_ok {G : GD} {X : CX} {n : Nat} {Q : Av → Nat → Hp → Prop} (hC : Cx G X RX3 cX3_passYear) (hZ : ZOK X G Q 0 0) (hRm : X.R = rmd 4 0 0) (hbt : X.bt = true) (hr : X.meth.sig.returnType = (some .int)) {x1 : Int} : ∀ (f : Nat) (x2 : Int) (h : Hp) (r : Hp), it_ (fun s => fX3_passYear_l46 x1 s.1 s.2) f (x2, h) = some r → (∀ (h9 : Hp), r = h9 → AW G X 117 [(2, ((20 : Nat) : Int)), (0, x1), (9, 0), (9, 0)] [] n h9 0 0) → AW G X 46 [(2, ((20 : Nat) : Int)), (0, x1), (0, x2), (9, 0)] [] n h 0 0 := by
  intro f
  induction f with
  | zero => intro x2 h r hI; cases hI
  | succ f ih0 =>
    intro x2 h r hI hX
    obtain ⟨b, hF, hb1, hb2⟩ := it_succ hI
    have hF : fX3_passYear_l46 x1 x2 h = some b := hF
    unfold fX3_passYear_l46 at hF
    refine aw_iload_n hC dX3_passYear_46 rfl ?_
    refine aw_bipush hC dX3_passYear_47 (by decide) (by decide) ?_
    refine aw_icmp_ge (tgt := 117) hC dX3_passYear_49 (by decide) (fun c14 => ?_) (fun c14 => ?_)
    · have hF := it_t hF c14
      refine aw_weak (ls' := [(2, ((20 : Nat) : Int)), (0, x1), (9, 0), (9, 0)]) ⟨Or.inr rfl, Or.inr rfl, Or.inl rfl, Or.inl rfl, trivial⟩ ?_
      exact hX _ (hb2 _ (Option.some.inj hF).symm).symm
    · have hF := it_f hF c14
      refine aw_aload_n hC dX3_passYear_52 rfl ?_
      refine aw_gc3 (k := 1) (a := 20) (b := 21) hC hbt dX3_passYear_53 lkRX3_9 (by decide) rfl rfl rfl (by decide) (by decide) ?_
      refine aw_iconst hC dX3_passYear_56 (by decide) ?_
      refine aw_iload_n hC dX3_passYear_57 rfl ?_
      refine aw_iadd hC dX3_passYear_58 ?_
      obtain ⟨g15, hF⟩ := gd_some hF
      refine aw_iaload (a := 21) hC dX3_passYear_59 rfl rfl (Or.inl ⟨hbt, by decide⟩) g15.1 g15.2 ?_
      refine aw_iconst hC dX3_passYear_60 (by decide) ?_
      refine aw_icmp_eq (tgt := 111) hC dX3_passYear_61 (by decide) (fun c16 => ?_) (fun c16 => ?_)
      · have hF := it_t hF c16
        refine aw_iinc2 hC dX3_passYear_111 rfl ?_
        refine aw_goto (tgt := 46) hC dX3_passYear_114 (by decide) ?_
        exact ih0 _ _ r (hb1 _ (Option.some.inj hF).symm) hX
      · have hF := it_f hF c16
        refine aw_aload_n hC dX3_passYear_64 rfl ?_
        refine aw_gc3 (k := 1) (a := 20) (b := 21) hC hbt dX3_passYear_65 lkRX3_9 (by decide) rfl rfl rfl (by decide) (by decide) ?_
        refine aw_bipush hC dX3_passYear_68 (by decide) (by decide) ?_
        refine aw_iload_n hC dX3_passYear_70 rfl ?_
        refine aw_iadd hC dX3_passYear_71 ?_
        obtain ⟨g18, hF⟩ := gd_some hF
        refine aw_iaload (a := 21) hC dX3_passYear_72 rfl rfl (Or.inl ⟨hbt, by decide⟩) g18.1 g18.2 ?_
        refine aw_aload_n hC dX3_passYear_73 rfl ?_
        refine aw_gc3 (k := 1) (a := 20) (b := 21) hC hbt dX3_passYear_74 lkRX3_9 (by decide) rfl rfl rfl (by decide) (by decide) ?_
        refine aw_bipush hC dX3_passYear_77 (by decide) (by decide) ?_
        refine aw_iload_n hC dX3_passYear_79 rfl ?_
        refine aw_iadd hC dX3_passYear_80 ?_
        obtain ⟨g19, hF⟩ := gd_some hF
        refine aw_iaload (a := 21) hC dX3_passYear_81 rfl rfl (Or.inl ⟨hbt, by decide⟩) g19.1 g19.2 ?_
        refine aw_icmp_ge (tgt := 111) hC dX3_passYear_82 (by decide) (fun c20 => ?_) (fun c20 => ?_)
        · have hF := it_t hF c20
          refine aw_iinc2 hC dX3_passYear_111 rfl ?_
          refine aw_goto (tgt := 46) hC dX3_passYear_114 (by decide) ?_
          exact ih0 _ _ r (hb1 _ (Option.some.inj hF).symm) hX
        · have hF := it_f hF c20
          refine aw_aload_n hC dX3_passYear_85 rfl ?_
          refine aw_gc3 (k := 1) (a := 20) (b := 21) hC hbt dX3_passYear_86 lkRX3_9 (by decide) rfl rfl rfl (by decide) (by decide) ?_
          refine aw_bipush hC dX3_passYear_89 (by decide) (by decide) ?_
          refine aw_iload_n hC dX3_passYear_91 rfl ?_
          refine aw_iadd hC dX3_passYear_92 ?_
          refine aw_dup2 hC dX3_passYear_93 (by simp) (by simp) ?_
          obtain ⟨g22, hF⟩ := gd_some hF
          refine aw_iaload (a := 21) hC dX3_passYear_94 rfl rfl (Or.inl ⟨hbt, by decide⟩) g22.1 g22.2 ?_
          refine aw_iconst hC dX3_passYear_95 (by decide) ?_
          refine aw_iadd hC dX3_passYear_96 ?_
          obtain ⟨g23, hF⟩ := gd_some hF
          obtain ⟨h24, eh24, hF⟩ := lb_some hF
          refine aw_iastore (a := 21) hC dX3_passYear_97 rfl rfl (Or.inl ⟨hbt, by decide⟩) g23.1 g23.2 ?_
          refine aw_eqH eh24 ?_
          clear eh24
          refine aw_aload_n hC dX3_passYear_98 rfl ?_
          refine aw_aload_n hC dX3_passYear_99 rfl ?_
          refine aw_gc3 (k := 1) (a := 20) (b := 21) hC hbt dX3_passYear_100 lkRX3_9 (by decide) rfl rfl rfl (by decide) (by decide) ?_
          refine aw_iconst hC dX3_passYear_103 (by decide) ?_
          refine aw_iload_n hC dX3_passYear_104 rfl ?_
          refine aw_iadd hC dX3_passYear_105 ?_
          obtain ⟨g25, hF⟩ := gd_some hF
          refine aw_iaload (a := 21) hC dX3_passYear_106 rfl rfl (Or.inl ⟨hbt, by decide⟩) g25.1 g25.2 ?_
          refine aw_iconst hC dX3_passYear_107 (by decide) ?_
          obtain ⟨r26, h28, q27, hF⟩ := bd_some hF
          refine clRX3_40 hC hRm hbt dX3_passYear_108 rfl rfl (by decide) (Nat.le_of_ble_eq_true rfl) (Nat.le_of_ble_eq_true rfl) (ok_X3_raise q27) ?_
          refine aw_iinc2 hC dX3_passYear_111 rfl ?_
          refine aw_goto (tgt := 46) hC dX3_passYear_114 (by decide) ?_
          exact ih0 _ _ r (hb1 _ (Option.some.inj hF).symm) hX
theorem ok_X3_passYear {G : GD} {n : Nat}  {h : Hp} {res : Int × Hp} (hF : fX3_passYear  h = some res) : Con G yX3_passYear cX3_passYear 4 (some .int) 4 0 0 true [(2, ((20 : Nat) : Int))] n h (FQ 0 n res) := by
  refine con_of (pad := 3) (own := RX3) (plainFor_of_name (by decide)) rfl rfl ?_
  intro X hC hbt hr hnm hZ hRm hn0
  have hK : ∀ (x9 : Int) (h9 : Hp), res = (x9, h9) → FQ 0 n res (0, x9) n h9 := fun x9 h9 e => by subst e; exact ⟨rfl, rfl, rfl⟩
  unfold fX3_passYear at hF
  show AW G X 0 [(2, ((20 : Nat) : Int)), (9, 0), (9, 0), (9, 0)] [] n h 0 0
  refine aw_iconst hC dX3_passYear_0 (by decide) ?_
  refine aw_istore1 hC dX3_passYear_1 rfl ?_
  refine aw_iconst hC dX3_passYear_2 (by decide) ?_
  refine aw_istore2 hC dX3_passYear_3 rfl ?_
  obtain ⟨e11, he, hF⟩ := bp_some hF
  refine fX3_passYear_l4_ok hC hZ hRm hbt hr FU _ _ _ e11 he (fun y12 h13 er => ?_)
  replace er := er.symm
  subst er
  try dsimp only at hF
  refine aw_iconst hC dX3_passYear_44 (by decide) ?_
  refine aw_istore2 hC dX3_passYear_45 rfl ?_
  obtain ⟨e30, he, hF⟩ := bp_some hF
  refine fX3_passYear_l46_ok hC hZ hRm hbt hr FU _ _ e30 he (fun h31 er => ?_)
  replace er := er.symm
  subst er
  try dsimp only at hF
  refine aw_aload_n hC dX3_passYear_117 rfl ?_
  refine aw_gc3 (k := 1) (a := 20) (b := 21) hC hbt dX3_passYear_118 lkRX3_9 (by decide) rfl rfl rfl (by decide) (by decide) ?_
  refine aw_bipush hC dX3_passYear_121 (by decide) (by decide) ?_
  refine aw_dup2 hC dX3_passYear_123 (by simp) (by simp) ?_
  obtain ⟨g32, hF⟩ := gd_some hF
  refine aw_iaload (a := 21) hC dX3_passYear_124 rfl rfl (Or.inl ⟨hbt, by decide⟩) g32.1 g32.2 ?_
  refine aw_iconst hC dX3_passYear_125 (by decide) ?_
  refine aw_iadd hC dX3_passYear_126 ?_
  obtain ⟨g33, hF⟩ := gd_some hF
  obtain ⟨h34, eh34, hF⟩ := lb_some hF
  refine aw_iastore (a := 21) hC dX3_passYear_127 rfl rfl (Or.inl ⟨hbt, by decide⟩) g33.1 g33.2 ?_
  refine aw_eqH eh34 ?_
  clear eh34
  refine aw_aload_n hC dX3_passYear_128 rfl ?_
  refine aw_aload_n hC dX3_passYear_129 rfl ?_
  refine aw_g3r (k := 0) (a := 20) hC dX3_passYear_130 lkRX3_27 (by decide) rfl rfl rfl (Or.inl ⟨hbt, by decide⟩) ?_
  refine aw_aload_n hC dX3_passYear_133 rfl ?_
  refine aw_gc3 (k := 1) (a := 20) (b := 21) hC hbt dX3_passYear_134 lkRX3_9 (by decide) rfl rfl rfl (by decide) (by decide) ?_
  refine aw_bipush hC dX3_passYear_137 (by decide) (by decide) ?_
  obtain ⟨g35, hF⟩ := gd_some hF
  refine aw_iaload (a := 21) hC dX3_passYear_139 rfl rfl (Or.inl ⟨hbt, by decide⟩) g35.1 g35.2 ?_
  obtain ⟨k36, hF⟩ := gd_some hF
  obtain ⟨r37, q38, hF⟩ := bp_some hF
  refine clRX3_51 hC hRm hbt dX3_passYear_140 (lnd k36).1 (lnd k36).2.1 (lnd k36).2.2.1 (Nat.le_of_ble_eq_true rfl) (Nat.le_of_ble_eq_true rfl) (ok_X1_fogOf q38) ?_
  obtain ⟨h39, eh39, hF⟩ := lb_some hF
  refine aw_p3i (k := 4) (a := 20) hC dX3_passYear_143 lkRX3_55 (by decide) rfl rfl rfl rfl rfl (Or.inl ⟨hbt, by decide⟩) (fun _ => by decide) ?_
  refine aw_eqH eh39 ?_
  clear eh39
  refine aw_iload_n hC dX3_passYear_146 rfl ?_
  exact aw_ireturn hC hZ (Nat.zero_le _) (Nat.zero_le _) hr dX3_passYear_147 (hK _ _ (Option.some.inj hF).symm)
def fX3_show_27_l49 (x3 : Int) (h : Hp) : Option ((Int × Hp) ⊕ (Hp)) :=
  (if 12 ≤ x3 then some (.inr h) else gd_ (0 ≤ (i_add 0 x3) ∧ (i_add 0 x3) < 62) (gd_ (0 ≤ (i_add 12 x3) ∧ (i_add 12 x3) < 62) (bd_ (fX3_raise ((h 21 (Int.toNat ((i_add 0 x3))))) ((h 21 (Int.toNat ((i_add 12 x3))))) h) (fun r12 h14 => some (.inl ((i_add x3 1), h14))))))
def fX3_show_27_l84 (x3 : Int) (h : Hp) : Option ((Int × Hp) ⊕ (Hp)) :=
  gd_ ((h 20 0) = 1 ∨ (h 20 0) = 9) ((if (h (Int.toNat ((h 20 0))) 3) ≤ x3 then some (.inr h) else gd_ (0 ≤ x3 ∧ x3 < 6) (gd_ (0 ≤ (i_add 48 x3) ∧ (i_add 48 x3) < 62) (bd_ (fX3_raise ((h (Int.toNat ((h 20 0) + 2)) (Int.toNat x3))) ((i_add 2 ((h 21 (Int.toNat ((i_add 48 x3))))))) h) (fun r22 h24 => some (.inl ((i_add x3 1), h24)))))))
def fX3_show_27 (x1 : Int) (h : Hp) : Option (Int × Hp) :=
  lb_ (st h 20 0 x1) (fun h1 => gd_ (0 ≤ (0 : Int) ∧ 0 ≤ (0 : Int) ∧ 0 ≤ (62 : Int) ∧ (0 : Int) + 62 ≤ ((62 : Nat) : Int) ∧ (0 : Int) + 62 ≤ ((62 : Nat) : Int)) (lb_ (cpy h1 27 21 (Int.toNat 0) (Int.toNat 0) (Int.toNat 62)) (fun h3 => gd_ (x1 = 1 ∨ x1 = 9) (gd_ (0 ≤ (0 : Int) ∧ 0 ≤ (0 : Int) ∧ 0 ≤ (64 : Int) ∧ (0 : Int) + 64 ≤ ((64 : Nat) : Int) ∧ (0 : Int) + 64 ≤ ((64 : Nat) : Int)) (lb_ (cpy h3 (Int.toNat (x1 + 1)) 22 (Int.toNat 0) (Int.toNat 0) (Int.toNat 64)) (fun h6 => gd_ (0 ≤ (0 : Int) ∧ 0 ≤ (0 : Int) ∧ 0 ≤ (64 : Int) ∧ (0 : Int) + 64 ≤ ((64 : Nat) : Int) ∧ (0 : Int) + 64 ≤ ((64 : Nat) : Int)) (lb_ (cpy h6 (Int.toNat (x1 + 1)) 23 (Int.toNat 0) (Int.toNat 0) (Int.toNat 64)) (fun h8 => bp_ (it_ (fun s => fX3_show_27_l49 s.1 s.2) FU (0, h8)) (fun e16 => (fun h17 => bp_ (it_ (fun s => fX3_show_27_l84 s.1 s.2) FU (0, h17)) (fun e26 => (fun h27 => gd_ (0 ≤ (61 : Int) ∧ (61 : Int) < 62) (gd_ ((h27 20 0) = 1 ∨ (h27 20 0) = 9) (bp_ (fX1_fogOf ((h27 20 0)) ((h27 21 (Int.toNat 61))) h27) (fun r30 => lb_ (st h27 20 4 r30) (fun h32 => some (0, h32)))))) e26)) e16)))))))))
theorem fX3_show_27_l49_ok {G : GD} {X : CX} {n : Nat} {Q : Av → Nat → Hp → Prop} (hC : Cx G X RX3 cX3_show) (hZ : ZOK X G Q 0 0) (hRm : X.R = rmd 1 0 0) (hbt : X.bt = true) (hr : X.meth.sig.returnType = none)  : ∀ (f : Nat) (x3 : Int) (h : Hp) (r : Hp), it_ (fun s => fX3_show_27_l49 s.1 s.2) f (x3, h) = some r → (∀ (h9 : Hp), r = h9 → AW G X 82 [(2, ((20 : Nat) : Int)), (9, 0), (9, 0), (9, 0)] [] n h9 0 0) → AW G X 49 [(2, ((20 : Nat) : Int)), (9, 0), (9, 0), (0, x3)] [] n h 0 0 := by
  intro f
  induction f with
  | zero => intro x3 h r hI; cases hI
  | succ f ih0 =>
    intro x3 h r hI hX
    obtain ⟨b, hF, hb1, hb2⟩ := it_succ hI
    have hF : fX3_show_27_l49 x3 h = some b := hF
    unfold fX3_show_27_l49 at hF
    refine aw_iload_n hC dX3_show_49 rfl ?_
    refine aw_bipush hC dX3_show_50 (by decide) (by decide) ?_
    refine aw_icmp_ge (tgt := 82) hC dX3_show_52 (by decide) (fun c9 => ?_) (fun c9 => ?_)
    · have hF := it_t hF c9
      refine aw_weak (ls' := [(2, ((20 : Nat) : Int)), (9, 0), (9, 0), (9, 0)]) ⟨Or.inr rfl, Or.inl rfl, Or.inl rfl, Or.inl rfl, trivial⟩ ?_
      exact hX _ (hb2 _ (Option.some.inj hF).symm).symm
    · have hF := it_f hF c9
      refine aw_aload_n hC dX3_show_55 rfl ?_
      refine aw_aload_n hC dX3_show_56 rfl ?_
      refine aw_gc3 (k := 1) (a := 20) (b := 21) hC hbt dX3_show_57 lkRX3_9 (by decide) rfl rfl rfl (by decide) (by decide) ?_
      refine aw_iconst hC dX3_show_60 (by decide) ?_
      refine aw_iload_n hC dX3_show_61 rfl ?_
      refine aw_iadd hC dX3_show_62 ?_
      obtain ⟨g10, hF⟩ := gd_some hF
      refine aw_iaload (a := 21) hC dX3_show_63 rfl rfl (Or.inl ⟨hbt, by decide⟩) g10.1 g10.2 ?_
      refine aw_aload_n hC dX3_show_64 rfl ?_
      refine aw_gc3 (k := 1) (a := 20) (b := 21) hC hbt dX3_show_65 lkRX3_9 (by decide) rfl rfl rfl (by decide) (by decide) ?_
      refine aw_bipush hC dX3_show_68 (by decide) (by decide) ?_
      refine aw_iload_n hC dX3_show_70 rfl ?_
      refine aw_iadd hC dX3_show_71 ?_
      obtain ⟨g11, hF⟩ := gd_some hF
      refine aw_iaload (a := 21) hC dX3_show_72 rfl rfl (Or.inl ⟨hbt, by decide⟩) g11.1 g11.2 ?_
      obtain ⟨r12, h14, q13, hF⟩ := bd_some hF
      refine clRX3_40 hC hRm hbt dX3_show_73 rfl rfl (by decide) (Nat.le_of_ble_eq_true rfl) (Nat.le_of_ble_eq_true rfl) (ok_X3_raise q13) ?_
      refine aw_iinc3 hC dX3_show_76 rfl ?_
      refine aw_goto (tgt := 49) hC dX3_show_79 (by decide) ?_
      exact ih0 _ _ r (hb1 _ (Option.some.inj hF).symm) hX
theorem fX3_show_27_l84_ok {G : GD} {X : CX} {n : Nat} {Q : Av → Nat → Hp → Prop} (hC : Cx G X RX3 cX3_show) (hZ : ZOK X G Q 0 0) (hRm : X.R = rmd 1 0 0) (hbt : X.bt = true) (hr : X.meth.sig.returnType = none)  : ∀ (f : Nat) (x3 : Int) (h : Hp) (r : Hp), it_ (fun s => fX3_show_27_l84 s.1 s.2) f (x3, h) = some r → (∀ (h9 : Hp), r = h9 → AW G X 125 [(2, ((20 : Nat) : Int)), (9, 0), (9, 0), (9, 0)] [] n h9 0 0) → AW G X 84 [(2, ((20 : Nat) : Int)), (9, 0), (9, 0), (0, x3)] [] n h 0 0 := by
  intro f
  induction f with
  | zero => intro x3 h r hI; cases hI
  | succ f ih0 =>
    intro x3 h r hI hX
    obtain ⟨b, hF, hb1, hb2⟩ := it_succ hI
    have hF : fX3_show_27_l84 x3 h = some b := hF
    unfold fX3_show_27_l84 at hF
    refine aw_iload_n hC dX3_show_84 rfl ?_
    refine aw_aload_n hC dX3_show_85 rfl ?_
    refine aw_g3r (k := 0) (a := 20) hC dX3_show_86 lkRX3_27 (by decide) rfl rfl rfl (Or.inl ⟨hbt, by decide⟩) ?_
    obtain ⟨k18, hF⟩ := gd_some hF
    refine aw_gLiN (k := 3) hC hbt k18 dX3_show_89 lkRX3_44 (by decide) rfl ?_
    refine aw_icmp_ge (tgt := 125) hC dX3_show_92 (by decide) (fun c19 => ?_) (fun c19 => ?_)
    · have hF := it_t hF c19
      refine aw_weak (ls' := [(2, ((20 : Nat) : Int)), (9, 0), (9, 0), (9, 0)]) ⟨Or.inr rfl, Or.inl rfl, Or.inl rfl, Or.inl rfl, trivial⟩ ?_
      exact hX _ (hb2 _ (Option.some.inj hF).symm).symm
    · have hF := it_f hF c19
      refine aw_aload_n hC dX3_show_95 rfl ?_
      refine aw_aload_n hC dX3_show_96 rfl ?_
      refine aw_g3r (k := 0) (a := 20) hC dX3_show_97 lkRX3_27 (by decide) rfl rfl rfl (Or.inl ⟨hbt, by decide⟩) ?_
      refine aw_gL2N hC hbt k18 dX3_show_100 lkRX3_48 ?_
      refine aw_iload_n hC dX3_show_103 rfl ?_
      obtain ⟨g20, hF⟩ := gd_some hF
      refine aw_iaload (a := (Int.toNat ((h 20 0) + 2))) hC dX3_show_104 (lnd2 k18).1 (lnd2 k18).2.1 (Or.inl ⟨hbt, (lnd2 k18).2.2⟩) g20.1 g20.2 ?_
      refine aw_iconst hC dX3_show_105 (by decide) ?_
      refine aw_aload_n hC dX3_show_106 rfl ?_
      refine aw_gc3 (k := 1) (a := 20) (b := 21) hC hbt dX3_show_107 lkRX3_9 (by decide) rfl rfl rfl (by decide) (by decide) ?_
      refine aw_bipush hC dX3_show_110 (by decide) (by decide) ?_
      refine aw_iload_n hC dX3_show_112 rfl ?_
      refine aw_iadd hC dX3_show_113 ?_
      obtain ⟨g21, hF⟩ := gd_some hF
      refine aw_iaload (a := 21) hC dX3_show_114 rfl rfl (Or.inl ⟨hbt, by decide⟩) g21.1 g21.2 ?_
      refine aw_iadd hC dX3_show_115 ?_
      obtain ⟨r22, h24, q23, hF⟩ := bd_some hF
      refine clRX3_40 hC hRm hbt dX3_show_116 rfl rfl (by decide) (Nat.le_of_ble_eq_true rfl) (Nat.le_of_ble_eq_true rfl) (ok_X3_raise q23) ?_
      refine aw_iinc3 hC dX3_show_119 rfl ?_
      refine aw_goto (tgt := 84) hC dX3_show_122 (by decide) ?_
      exact ih0 _ _ r (hb1 _ (Option.some.inj hF).symm) hX
theorem ok_X3_show_27 {G : GD} {n : Nat} {x1 : Int} {h : Hp} {res : Int × Hp} (hF : fX3_show_27 x1 h = some res) : Con G yX3_show cX3_show 4 none 1 0 0 true [(2, ((20 : Nat) : Int)), (2, x1), (2, ((27 : Nat) : Int))] n h (FQ 8 n res) := by
  refine con_of (pad := 1) (own := RX3) (plainFor_of_name (by decide)) rfl rfl ?_
  intro X hC hbt hr hnm hZ hRm hn0
  have hK : ∀ (x9 : Int) (h9 : Hp), res = (x9, h9) → FQ 8 n res (8, x9) n h9 := fun x9 h9 e => by subst e; exact ⟨rfl, rfl, rfl⟩
  unfold fX3_show_27 at hF
  show AW G X 0 [(2, ((20 : Nat) : Int)), (2, x1), (2, ((27 : Nat) : Int)), (9, 0)] [] n h 0 0
  refine aw_aload_n hC dX3_show_0 rfl ?_
  refine aw_aload_n hC dX3_show_1 rfl ?_
  obtain ⟨h1, eh1, hF⟩ := lb_some hF
  refine aw_p3r (k := 0) (a := 20) hC dX3_show_2 lkRX3_27 (by decide) rfl rfl rfl rfl (Or.inl ⟨_, rfl⟩) (Or.inl ⟨hbt, by decide⟩) (fun _ => by decide) ?_
  refine aw_eqH eh1 ?_
  clear eh1
  refine aw_aload_n hC dX3_show_5 rfl ?_
  refine aw_iconst hC dX3_show_6 (by decide) ?_
  refine aw_aload_n hC dX3_show_7 rfl ?_
  refine aw_gc3 (k := 1) (a := 20) (b := 21) hC hbt dX3_show_8 lkRX3_9 (by decide) rfl rfl rfl (by decide) (by decide) ?_
  refine aw_iconst hC dX3_show_11 (by decide) ?_
  refine aw_bipush hC dX3_show_12 (by decide) (by decide) ?_
  obtain ⟨g2, hF⟩ := gd_some hF
  obtain ⟨h3, eh3, hF⟩ := lb_some hF
  refine aw_copyi (a0 := 27) (a1 := 21) hC hRm (Nat.le_of_ble_eq_true rfl) dX3_show_14 cplRX3_31 rfl rfl rfl rfl (Or.inl ⟨hbt, by decide⟩) (Or.inl ⟨hbt, by decide⟩) g2 (Nat.le_of_ble_eq_true rfl) ?_
  refine aw_eqH eh3 ?_
  clear eh3
  refine aw_aload_n hC dX3_show_17 rfl ?_
  obtain ⟨k4, hF⟩ := gd_some hF
  refine aw_gL1N hC hbt k4 dX3_show_18 lkRX3_37 ?_
  refine aw_iconst hC dX3_show_21 (by decide) ?_
  refine aw_aload_n hC dX3_show_22 rfl ?_
  refine aw_gc3 (k := 2) (a := 20) (b := 22) hC hbt dX3_show_23 lkRX3_15 (by decide) rfl rfl rfl (by decide) (by decide) ?_
  refine aw_iconst hC dX3_show_26 (by decide) ?_
  refine aw_bipush hC dX3_show_27 (by decide) (by decide) ?_
  obtain ⟨g5, hF⟩ := gd_some hF
  obtain ⟨h6, eh6, hF⟩ := lb_some hF
  refine aw_copyi (a0 := (Int.toNat (x1 + 1))) (a1 := 22) hC hRm (Nat.le_of_ble_eq_true rfl) dX3_show_29 cplRX3_31 (lnd1 k4).1 rfl (lnd1 k4).2.1 rfl (Or.inl ⟨hbt, (lnd1 k4).2.2⟩) (Or.inl ⟨hbt, by decide⟩) g5 (Nat.le_of_ble_eq_true rfl) ?_
  refine aw_eqH eh6 ?_
  clear eh6
  refine aw_aload_n hC dX3_show_32 rfl ?_
  refine aw_gL1N hC hbt k4 dX3_show_33 lkRX3_37 ?_
  refine aw_iconst hC dX3_show_36 (by decide) ?_
  refine aw_aload_n hC dX3_show_37 rfl ?_
  refine aw_gc3 (k := 3) (a := 20) (b := 23) hC hbt dX3_show_38 lkRX3_18 (by decide) rfl rfl rfl (by decide) (by decide) ?_
  refine aw_iconst hC dX3_show_41 (by decide) ?_
  refine aw_bipush hC dX3_show_42 (by decide) (by decide) ?_
  obtain ⟨g7, hF⟩ := gd_some hF
  obtain ⟨h8, eh8, hF⟩ := lb_some hF
  refine aw_copyi (a0 := (Int.toNat (x1 + 1))) (a1 := 23) hC hRm (Nat.le_of_ble_eq_true rfl) dX3_show_44 cplRX3_31 (lnd1 k4).1 rfl (lnd1 k4).2.1 rfl (Or.inl ⟨hbt, (lnd1 k4).2.2⟩) (Or.inl ⟨hbt, by decide⟩) g7 (Nat.le_of_ble_eq_true rfl) ?_
  refine aw_eqH eh8 ?_
  clear eh8
  refine aw_iconst hC dX3_show_47 (by decide) ?_
  refine aw_istore3 hC dX3_show_48 rfl ?_
  refine aw_weak (ls' := [(2, ((20 : Nat) : Int)), (9, 0), (9, 0), (0, 0)]) ⟨Or.inr rfl, Or.inl rfl, Or.inl rfl, Or.inr rfl, trivial⟩ ?_
  obtain ⟨e16, he, hF⟩ := bp_some hF
  refine fX3_show_27_l49_ok hC hZ hRm hbt hr FU _ _ e16 he (fun h17 er => ?_)
  replace er := er.symm
  subst er
  try dsimp only at hF
  refine aw_iconst hC dX3_show_82 (by decide) ?_
  refine aw_istore3 hC dX3_show_83 rfl ?_
  obtain ⟨e26, he, hF⟩ := bp_some hF
  refine fX3_show_27_l84_ok hC hZ hRm hbt hr FU _ _ e26 he (fun h27 er => ?_)
  replace er := er.symm
  subst er
  try dsimp only at hF
  refine aw_aload_n hC dX3_show_125 rfl ?_
  refine aw_aload_n hC dX3_show_126 rfl ?_
  refine aw_g3r (k := 0) (a := 20) hC dX3_show_127 lkRX3_27 (by decide) rfl rfl rfl (Or.inl ⟨hbt, by decide⟩) ?_
  refine aw_aload_n hC dX3_show_130 rfl ?_
  refine aw_gc3 (k := 1) (a := 20) (b := 21) hC hbt dX3_show_131 lkRX3_9 (by decide) rfl rfl rfl (by decide) (by decide) ?_
  refine aw_bipush hC dX3_show_134 (by decide) (by decide) ?_
  obtain ⟨g28, hF⟩ := gd_some hF
  refine aw_iaload (a := 21) hC dX3_show_136 rfl rfl (Or.inl ⟨hbt, by decide⟩) g28.1 g28.2 ?_
  obtain ⟨k29, hF⟩ := gd_some hF
  obtain ⟨r30, q31, hF⟩ := bp_some hF
  refine clRX3_51 hC hRm hbt dX3_show_137 (lnd k29).1 (lnd k29).2.1 (lnd k29).2.2.1 (Nat.le_of_ble_eq_true rfl) (Nat.le_of_ble_eq_true rfl) (ok_X1_fogOf q31) ?_
  obtain ⟨h32, eh32, hF⟩ := lb_some hF
  refine aw_p3i (k := 4) (a := 20) hC dX3_show_140 lkRX3_55 (by decide) rfl rfl rfl rfl rfl (Or.inl ⟨hbt, by decide⟩) (fun _ => by decide) ?_
  refine aw_eqH eh32 ?_
  clear eh32
  exact aw_return hC hZ (Nat.zero_le _) (Nat.zero_le _) hr dX3_show_143 (hK _ _ (Option.some.inj hF).symm)
def fX3_housesThatLie_26_l4 (x2 : Int) (x3 : Int) (h : Hp) : Option ((Int × Int × Hp) ⊕ (Int × Hp)) :=
  (if (h 26 6) ≤ x3 then some (.inr (x2, h)) else gd_ (0 ≤ x3 ∧ x3 < 6) (lb_ ((h 29 (Int.toNat x3))) (fun v3 => bp_ (fX5_hasBit x2 v3 h) (fun r4 => (if r4 = 0 then bd_ (fX3_milesOf v3 h) (fun r8 h10 => gd_ (0 ≤ x3 ∧ x3 < 6) ((if r8 = (h10 30 (Int.toNat x3)) then some (.inl (x2, (i_add x3 1), h10)) else lb_ ((i_or x2 ((i_shl 1 v3)))) (fun v14 => some (.inl (v14, (i_add x3 1), h10)))))) else some (.inl (x2, (i_add x3 1), h)))))))
def fX3_housesThatLie_26  (h : Hp) : Option (Int × Hp) :=
  bp_ (it_ (fun s => fX3_housesThatLie_26_l4 s.1 s.2.1 s.2.2) FU (0, 0, h)) (fun e16 => (fun y17 h18 => some (y17, h18)) e16.1 e16.2)
theorem fX3_housesThatLie_26_l4_ok {G : GD} {X : CX} {n : Nat} {Q : Av → Nat → Hp → Prop} (hC : Cx G X RX3 cX3_housesThatLie) (hZ : ZOK X G Q 0 0) (hRm : X.R = rmd 4 0 0) (hbt : X.bt = true) (hr : X.meth.sig.returnType = (some .int))  : ∀ (f : Nat) (x2 : Int) (x3 : Int) (h : Hp) (r : Int × Hp), it_ (fun s => fX3_housesThatLie_26_l4 s.1 s.2.1 s.2.2) f (x2, x3, h) = some r → (∀ (y2 : Int) (h9 : Hp), r = (y2, h9) → AW G X 58 [(9, 0), (9, 0), (0, y2), (9, 0), (9, 0)] [] n h9 0 0) → AW G X 4 [(2, ((20 : Nat) : Int)), (2, ((26 : Nat) : Int)), (0, x2), (0, x3), (9, 0)] [] n h 0 0 := by
  intro f
  induction f with
  | zero => intro x2 x3 h r hI; cases hI
  | succ f ih0 =>
    intro x2 x3 h r hI hX
    obtain ⟨b, hF, hb1, hb2⟩ := it_succ hI
    have hF : fX3_housesThatLie_26_l4 x2 x3 h = some b := hF
    unfold fX3_housesThatLie_26_l4 at hF
    refine aw_iload_n hC dX3_housesThatLie_4 rfl ?_
    refine aw_aload_n hC dX3_housesThatLie_5 rfl ?_
    refine aw_g0iN (k := 6) (a := 26) hC dX3_housesThatLie_6 lkRX3_130 (by decide) rfl rfl rfl (Or.inl ⟨hbt, by decide⟩) ?_
    refine aw_icmp_ge (tgt := 58) hC dX3_housesThatLie_9 (by decide) (fun c1 => ?_) (fun c1 => ?_)
    · have hF := it_t hF c1
      refine aw_weak (ls' := [(9, 0), (9, 0), (0, x2), (9, 0), (9, 0)]) ⟨Or.inl rfl, Or.inl rfl, Or.inr rfl, Or.inl rfl, Or.inl rfl, trivial⟩ ?_
      exact hX _ _ (hb2 _ (Option.some.inj hF).symm).symm
    · have hF := it_f hF c1
      refine aw_aload_n hC dX3_housesThatLie_12 rfl ?_
      refine aw_gc0N (k := 4) (a := 26) (b := 29) hC hbt dX3_housesThatLie_13 lkRX3_135 (by decide) rfl rfl rfl (by decide) (by decide) ?_
      refine aw_iload_n hC dX3_housesThatLie_16 rfl ?_
      obtain ⟨g2, hF⟩ := gd_some hF
      refine aw_iaload (a := 29) hC dX3_housesThatLie_17 rfl rfl (Or.inl ⟨hbt, by decide⟩) g2.1 g2.2 ?_
      obtain ⟨v3, ev3, hF⟩ := lb_some hF
      refine aw_eqT ev3 ?_
      clear ev3
      refine aw_istore4 hC dX3_housesThatLie_18 rfl ?_
      refine aw_iload_n hC dX3_housesThatLie_20 rfl ?_
      refine aw_i2l hC dX3_housesThatLie_21 ?_
      refine aw_iload hC dX3_housesThatLie_22 rfl ?_
      obtain ⟨r4, q5, hF⟩ := bp_some hF
      refine clRX3_98 hC hRm hbt dX3_housesThatLie_24 (Nat.le_of_ble_eq_true rfl) (Nat.le_of_ble_eq_true rfl) (ok_X5_hasBit q5) ?_
      refine aw_if_ne (tgt := 52) hC dX3_housesThatLie_27 (by decide) (fun c6 => ?_) (fun c6 => ?_)
      · have hF := it_f hF c6
        refine aw_iinc3 hC dX3_housesThatLie_52 rfl ?_
        refine aw_goto (tgt := 4) hC dX3_housesThatLie_55 (by decide) ?_
        refine aw_weak (ls' := [(2, ((20 : Nat) : Int)), (2, ((26 : Nat) : Int)), (0, x2), (0, (i_add x3 1)), (9, 0)]) ⟨Or.inr rfl, Or.inr rfl, Or.inr rfl, Or.inr rfl, Or.inl rfl, trivial⟩ ?_
        exact ih0 _ _ _ r (hb1 _ (Option.some.inj hF).symm) hX
      · have hF := it_t hF c6
        refine aw_aload_n hC dX3_housesThatLie_30 rfl ?_
        refine aw_iload hC dX3_housesThatLie_31 rfl ?_
        obtain ⟨r8, h10, q9, hF⟩ := bd_some hF
        refine clRX3_138 hC hRm hbt dX3_housesThatLie_33 rfl rfl (by decide) (Nat.le_of_ble_eq_true rfl) (Nat.le_of_ble_eq_true rfl) (ok_X3_milesOf q9) ?_
        refine aw_aload_n hC dX3_housesThatLie_36 rfl ?_
        refine aw_gc0N (k := 5) (a := 26) (b := 30) hC hbt dX3_housesThatLie_37 lkRX3_141 (by decide) rfl rfl rfl (by decide) (by decide) ?_
        refine aw_iload_n hC dX3_housesThatLie_40 rfl ?_
        obtain ⟨g11, hF⟩ := gd_some hF
        refine aw_iaload (a := 30) hC dX3_housesThatLie_41 rfl rfl (Or.inl ⟨hbt, by decide⟩) g11.1 g11.2 ?_
        refine aw_icmp_eq (tgt := 52) hC dX3_housesThatLie_42 (by decide) (fun c12 => ?_) (fun c12 => ?_)
        · have hF := it_t hF c12
          refine aw_iinc3 hC dX3_housesThatLie_52 rfl ?_
          refine aw_goto (tgt := 4) hC dX3_housesThatLie_55 (by decide) ?_
          refine aw_weak (ls' := [(2, ((20 : Nat) : Int)), (2, ((26 : Nat) : Int)), (0, x2), (0, (i_add x3 1)), (9, 0)]) ⟨Or.inr rfl, Or.inr rfl, Or.inr rfl, Or.inr rfl, Or.inl rfl, trivial⟩ ?_
          exact ih0 _ _ _ r (hb1 _ (Option.some.inj hF).symm) hX
        · have hF := it_f hF c12
          refine aw_iload_n hC dX3_housesThatLie_45 rfl ?_
          refine aw_iconst hC dX3_housesThatLie_46 (by decide) ?_
          refine aw_iload hC dX3_housesThatLie_47 rfl ?_
          refine aw_ishl hC dX3_housesThatLie_49 ?_
          refine aw_ior hC dX3_housesThatLie_50 ?_
          obtain ⟨v14, ev14, hF⟩ := lb_some hF
          refine aw_eqT ev14 ?_
          clear ev14
          refine aw_istore2 hC dX3_housesThatLie_51 rfl ?_
          refine aw_iinc3 hC dX3_housesThatLie_52 rfl ?_
          refine aw_goto (tgt := 4) hC dX3_housesThatLie_55 (by decide) ?_
          refine aw_weak (ls' := [(2, ((20 : Nat) : Int)), (2, ((26 : Nat) : Int)), (0, v14), (0, (i_add x3 1)), (9, 0)]) ⟨Or.inr rfl, Or.inr rfl, Or.inr rfl, Or.inr rfl, Or.inl rfl, trivial⟩ ?_
          exact ih0 _ _ _ r (hb1 _ (Option.some.inj hF).symm) hX
theorem ok_X3_housesThatLie_26 {G : GD} {n : Nat}  {h : Hp} {res : Int × Hp} (hF : fX3_housesThatLie_26  h = some res) : Con G yX3_housesThatLie cX3_housesThatLie 5 (some .int) 4 0 0 true [(2, ((20 : Nat) : Int)), (2, ((26 : Nat) : Int))] n h (FQ 0 n res) := by
  refine con_of (pad := 3) (own := RX3) (plainFor_of_name (by decide)) rfl rfl ?_
  intro X hC hbt hr hnm hZ hRm hn0
  have hK : ∀ (x9 : Int) (h9 : Hp), res = (x9, h9) → FQ 0 n res (0, x9) n h9 := fun x9 h9 e => by subst e; exact ⟨rfl, rfl, rfl⟩
  unfold fX3_housesThatLie_26 at hF
  show AW G X 0 [(2, ((20 : Nat) : Int)), (2, ((26 : Nat) : Int)), (9, 0), (9, 0), (9, 0)] [] n h 0 0
  refine aw_iconst hC dX3_housesThatLie_0 (by decide) ?_
  refine aw_istore2 hC dX3_housesThatLie_1 rfl ?_
  refine aw_iconst hC dX3_housesThatLie_2 (by decide) ?_
  refine aw_istore3 hC dX3_housesThatLie_3 rfl ?_
  obtain ⟨e16, he, hF⟩ := bp_some hF
  refine fX3_housesThatLie_26_l4_ok hC hZ hRm hbt hr FU _ _ _ e16 he (fun y17 h18 er => ?_)
  replace er := er.symm
  subst er
  try dsimp only at hF
  refine aw_iload_n hC dX3_housesThatLie_58 rfl ?_
  exact aw_ireturn hC hZ (Nat.zero_le _) (Nat.zero_le _) hr dX3_housesThatLie_59 (hK _ _ (Option.some.inj hF).symm)
