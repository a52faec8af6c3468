def fX6_isWhat (x1 : Int) (x2 : Int) (h : Hp) : Option (Int × Hp) :=
  bp_ (fX6_within x1 0 x2 h) (fun r1 => bd_ (fX6_right r1 1 h) (fun r3 h5 => gd_ (r3 = 0 ∨ r3 = 1) (some (r3, h5))))
theorem ok_X6_isWhat {G : GD} {n : Nat} {x1 : Int} {x2 : Int} {h : Hp} {res : Int × Hp} (hF : fX6_isWhat x1 x2 h = some res) : Con G yX6_isWhat cX6_isWhat 3 (some .boolean) 1 0 0 true [(2, ((35 : Nat) : Int)), (0, x1), (0, x2)] n h (FQ 0 n res) := by
  refine con_of (pad := 0) (own := RX6) (plainFor_of_name (by decide)) rfl rfl ?_
  intro X hC hbt hr hnm hZ hRm hn0
  have hK : ∀ (x9 : Int) (h9 : Hp), res = (x9, h9) → FQ 0 n res (0, x9) n h9 := fun x9 h9 e => by subst e; exact ⟨rfl, rfl, rfl⟩
  unfold fX6_isWhat at hF
  show AW G X 0 [(2, ((35 : Nat) : Int)), (0, x1), (0, x2)] [] n h 0 0
  refine aw_aload_n hC dX6_isWhat_0 rfl ?_
  refine aw_iload_n hC dX6_isWhat_1 rfl ?_
  refine aw_iconst hC dX6_isWhat_2 (by decide) ?_
  refine aw_iload_n hC dX6_isWhat_3 rfl ?_
  obtain ⟨r1, q2, hF⟩ := bp_some hF
  refine clRX6_385 hC hRm hbt dX6_isWhat_4 (Nat.le_of_ble_eq_true rfl) (Nat.le_of_ble_eq_true rfl) (ok_X6_within q2) ?_
  refine aw_iconst hC dX6_isWhat_7 (by decide) ?_
  obtain ⟨r3, h5, q4, hF⟩ := bd_some hF
  refine clRX6_290 hC hRm hbt dX6_isWhat_8 rfl rfl (by decide) (Nat.le_of_ble_eq_true rfl) (Nat.le_of_ble_eq_true rfl) (ok_X6_right q4) ?_
  obtain ⟨g6, hF⟩ := gd_some hF
  exact aw_zreturn hC hZ (Nat.zero_le _) (Nat.zero_le _) hr rfl dX6_isWhat_11 g6 (hK _ _ (Option.some.inj hF).symm)
def fX6_seenFrom_l4 (x1 : Int) (x2 : Int) (x3 : Int) (h : Hp) : Option ((Int × Int × Hp) ⊕ (Int × Hp)) :=
  (if (h 35 3) ≤ x3 then some (.inr (x2, h)) else bd_ (fX6_sees x3 h) (fun r2 h4 => (if (l_cmp ((l_and ((l_shr ((h4 35 54)) x1)) 1)) 1) = 0 then lb_ ((i_or x2 ((i_shl 1 x3)))) (fun v8 => some (.inl (v8, (i_add x3 1), h4))) else lb_ ((i_or x2 0)) (fun v6 => some (.inl (v6, (i_add x3 1), h4))))))
def fX6_seenFrom (x1 : Int) (h : Hp) : Option (Int × Hp) :=
  bp_ (it_ (fun s => fX6_seenFrom_l4 x1 s.1 s.2.1 s.2.2) FU (0, 0, h)) (fun e10 => (fun y11 h12 => some (y11, h12)) e10.1 e10.2)
theorem fX6_seenFrom_l4_ok {G : GD} {X : CX} {n : Nat} {Q : Av → Nat → Hp → Prop} (hC : Cx G X RX6 cX6_seenFrom) (hZ : ZOK X G Q 0 0) (hRm : X.R = rmd 4 0 0) (hbt : X.bt = true) (hr : X.meth.sig.returnType = (some .int)) {x1 : Int} : ∀ (f : Nat) (x2 : Int) (x3 : Int) (h : Hp) (r : Int × Hp), it_ (fun s => fX6_seenFrom_l4 x1 s.1 s.2.1 s.2.2) f (x2, x3, h) = some r → (∀ (y2 : Int) (h9 : Hp), r = (y2, h9) → AW G X 46 [(9, 0), (9, 0), (0, y2), (9, 0)] [] n h9 0 0) → AW G X 4 [(2, ((35 : Nat) : Int)), (0, x1), (0, x2), (0, x3)] [] n h 0 0 := by
  intro f
  induction f with
  | zero => intro x2 x3 h r hI; cases hI
  | succ f ih0 =>
    intro x2 x3 h r hI hX
    obtain ⟨b, hF, hb1, hb2⟩ := it_succ hI
    have hF : fX6_seenFrom_l4 x1 x2 x3 h = some b := hF
    unfold fX6_seenFrom_l4 at hF
    refine aw_iload_n hC dX6_seenFrom_4 rfl ?_
    refine aw_aload_n hC dX6_seenFrom_5 rfl ?_
    refine aw_g6i (k := 3) (a := 35) hC dX6_seenFrom_6 lkRX6_297 (by decide) rfl rfl rfl (Or.inl ⟨hbt, by decide⟩) ?_
    refine aw_icmp_ge (tgt := 46) hC dX6_seenFrom_9 (by decide) (fun c1 => ?_) (fun c1 => ?_)
    · have hF := it_t hF c1
      refine aw_weak (ls' := [(9, 0), (9, 0), (0, x2), (9, 0)]) ⟨Or.inl rfl, Or.inl rfl, Or.inr rfl, Or.inl rfl, trivial⟩ ?_
      exact hX _ _ (hb2 _ (Option.some.inj hF).symm).symm
    · have hF := it_f hF c1
      refine aw_aload_n hC dX6_seenFrom_12 rfl ?_
      refine aw_iload_n hC dX6_seenFrom_13 rfl ?_
      obtain ⟨r2, h4, q3, hF⟩ := bd_some hF
      refine clRX6_364 hC hRm hbt dX6_seenFrom_14 rfl rfl (by decide) (Nat.le_of_ble_eq_true rfl) (Nat.le_of_ble_eq_true rfl) (ok_X6_sees q3) ?_
      refine aw_iload_n hC dX6_seenFrom_17 rfl ?_
      refine aw_aload_n hC dX6_seenFrom_18 rfl ?_
      refine aw_g6l (k := 54) (a := 35) hC dX6_seenFrom_19 lkRX6_338 (by decide) rfl rfl rfl (Or.inl ⟨hbt, by decide⟩) ?_
      refine aw_iload_n hC dX6_seenFrom_22 rfl ?_
      refine aw_lshr hC dX6_seenFrom_23 ?_
      refine aw_lconst (v := 1) hC dX6_seenFrom_24 (by decide) (by decide) ?_
      refine aw_land hC dX6_seenFrom_25 ?_
      refine aw_lconst (v := 1) hC dX6_seenFrom_26 (by decide) (by decide) ?_
      refine aw_lcmp hC dX6_seenFrom_27 ?_
      refine aw_if_ne (tgt := 37) hC dX6_seenFrom_28 (by decide) (fun c5 => ?_) (fun c5 => ?_)
      · have hF := it_f hF c5
        refine aw_iconst hC dX6_seenFrom_37 (by decide) ?_
        refine aw_ior hC dX6_seenFrom_38 ?_
        obtain ⟨v6, ev6, hF⟩ := lb_some hF
        refine aw_eqT ev6 ?_
        clear ev6
        refine aw_istore2 hC dX6_seenFrom_39 rfl ?_
        refine aw_iinc3 hC dX6_seenFrom_40 rfl ?_
        refine aw_goto (tgt := 4) hC dX6_seenFrom_43 (by decide) ?_
        exact ih0 _ _ _ r (hb1 _ (Option.some.inj hF).symm) hX
      · have hF := it_t hF c5
        refine aw_iconst hC dX6_seenFrom_31 (by decide) ?_
        refine aw_iload_n hC dX6_seenFrom_32 rfl ?_
        refine aw_ishl hC dX6_seenFrom_33 ?_
        refine aw_goto (tgt := 38) hC dX6_seenFrom_34 (by decide) ?_
        refine aw_ior hC dX6_seenFrom_38 ?_
        obtain ⟨v8, ev8, hF⟩ := lb_some hF
        refine aw_eqT ev8 ?_
        clear ev8
        refine aw_istore2 hC dX6_seenFrom_39 rfl ?_
        refine aw_iinc3 hC dX6_seenFrom_40 rfl ?_
        refine aw_goto (tgt := 4) hC dX6_seenFrom_43 (by decide) ?_
        exact ih0 _ _ _ r (hb1 _ (Option.some.inj hF).symm) hX
theorem ok_X6_seenFrom {G : GD} {n : Nat} {x1 : Int} {h : Hp} {res : Int × Hp} (hF : fX6_seenFrom x1 h = some res) : Con G yX6_seenFrom cX6_seenFrom 4 (some .int) 4 0 0 true [(2, ((35 : Nat) : Int)), (0, x1)] n h (FQ 0 n res) := by
  refine con_of (pad := 2) (own := RX6) (plainFor_of_name (by decide)) rfl rfl ?_
  intro X hC hbt hr hnm hZ hRm hn0
  have hK : ∀ (x9 : Int) (h9 : Hp), res = (x9, h9) → FQ 0 n res (0, x9) n h9 := fun x9 h9 e => by subst e; exact ⟨rfl, rfl, rfl⟩
  unfold fX6_seenFrom at hF
  show AW G X 0 [(2, ((35 : Nat) : Int)), (0, x1), (9, 0), (9, 0)] [] n h 0 0
  refine aw_iconst hC dX6_seenFrom_0 (by decide) ?_
  refine aw_istore2 hC dX6_seenFrom_1 rfl ?_
  refine aw_iconst hC dX6_seenFrom_2 (by decide) ?_
  refine aw_istore3 hC dX6_seenFrom_3 rfl ?_
  obtain ⟨e10, he, hF⟩ := bp_some hF
  refine fX6_seenFrom_l4_ok hC hZ hRm hbt hr FU _ _ _ e10 he (fun y11 h12 er => ?_)
  replace er := er.symm
  subst er
  try dsimp only at hF
  refine aw_iload_n hC dX6_seenFrom_46 rfl ?_
  exact aw_ireturn hC hZ (Nat.zero_le _) (Nat.zero_le _) hr dX6_seenFrom_47 (hK _ _ (Option.some.inj hF).symm)
def fX6_cell (x1 : Int) (x2 : Int) (h : Hp) : Option (Int × Hp) :=
  lb_ (st h 35 0 0) (fun h1 => bd_ (fX6_isCell x1 h1) (fun r2 h4 => (if r2 = 0 then some (0, h4) else bd_ (fX6_isWhat x2 4 h4) (fun r6 h8 => (if r6 = 0 then some (0, h8) else bd_ (fX6_laysOut h8) (fun r10 h12 => (if x2 = 0 then gd_ (0 ≤ x1 ∧ x1 < 64) (some ((h12 36 (Int.toNat x1)), h12)) else (if x2 = 1 then gd_ (0 ≤ x1 ∧ x1 < 64) (some ((h12 57 (Int.toNat x1)), h12)) else (if x2 = 2 then bp_ (fX6_treeIn x1 h12) (fun r22 => some (r22, h12)) else (if x2 = 3 then bp_ (fX6_houseIn x1 h12) (fun r20 => some (r20, h12)) else bd_ (fX6_seenFrom x1 h12) (fun r17 h19 => some (r17, h19))))))))))))
theorem ok_X6_cell {G : GD} {n : Nat} {x1 : Int} {x2 : Int} {h : Hp} {res : Int × Hp} (hF : fX6_cell x1 x2 h = some res) : Con G yX6_cell cX6_cell 3 (some .int) 5 0 0 true [(2, ((35 : Nat) : Int)), (0, x1), (0, x2)] n h (FQ 0 n res) := by
  refine con_of (pad := 0) (own := RX6) (plainFor_of_name (by decide)) rfl rfl ?_
  intro X hC hbt hr hnm hZ hRm hn0
  have hK : ∀ (x9 : Int) (h9 : Hp), res = (x9, h9) → FQ 0 n res (0, x9) n h9 := fun x9 h9 e => by subst e; exact ⟨rfl, rfl, rfl⟩
  unfold fX6_cell at hF
  show AW G X 0 [(2, ((35 : Nat) : Int)), (0, x1), (0, x2)] [] n h 0 0
  refine aw_aload_n hC dX6_cell_0 rfl ?_
  refine aw_iconst hC dX6_cell_1 (by decide) ?_
  obtain ⟨h1, eh1, hF⟩ := lb_some hF
  refine aw_p6i (k := 0) (a := 35) hC dX6_cell_2 lkRX6_129 (by decide) rfl rfl rfl rfl rfl (Or.inl ⟨hbt, by decide⟩) (fun _ => by decide) ?_
  refine aw_eqH eh1 ?_
  clear eh1
  refine aw_aload_n hC dX6_cell_5 rfl ?_
  refine aw_iload_n hC dX6_cell_6 rfl ?_
  obtain ⟨r2, h4, q3, hF⟩ := bd_some hF
  refine clRX6_395 hC hRm hbt dX6_cell_7 rfl rfl (by decide) (Nat.le_of_ble_eq_true rfl) (Nat.le_of_ble_eq_true rfl) (ok_X6_isCell q3) ?_
  refine aw_if_eq (tgt := 22) hC dX6_cell_10 (by decide) (fun c5 => ?_) (fun c5 => ?_)
  · have hF := it_t hF c5
    refine aw_iconst hC dX6_cell_22 (by decide) ?_
    exact aw_ireturn hC hZ (Nat.zero_le _) (Nat.zero_le _) hr dX6_cell_23 (hK _ _ (Option.some.inj hF).symm)
  · have hF := it_f hF c5
    refine aw_aload_n hC dX6_cell_13 rfl ?_
    refine aw_iload_n hC dX6_cell_14 rfl ?_
    refine aw_iconst hC dX6_cell_15 (by decide) ?_
    obtain ⟨r6, h8, q7, hF⟩ := bd_some hF
    refine clRX6_398 hC hRm hbt dX6_cell_16 rfl rfl (by decide) (Nat.le_of_ble_eq_true rfl) (Nat.le_of_ble_eq_true rfl) (ok_X6_isWhat q7) ?_
    refine aw_if_ne (tgt := 24) hC dX6_cell_19 (by decide) (fun c9 => ?_) (fun c9 => ?_)
    · have hF := it_f hF c9
      refine aw_aload_n hC dX6_cell_24 rfl ?_
      obtain ⟨r10, h12, q11, hF⟩ := bd_some hF
      refine clRX6_379 hC hRm hbt dX6_cell_25 rfl rfl (by decide) (Nat.le_of_ble_eq_true rfl) (Nat.le_of_ble_eq_true rfl) (ok_X6_laysOut q11) ?_
      refine aw_iload_n hC dX6_cell_28 rfl ?_
      refine aw_if_ne (tgt := 41) hC dX6_cell_29 (by decide) (fun c13 => ?_) (fun c13 => ?_)
      · have hF := it_f hF c13
        refine aw_iload_n hC dX6_cell_41 rfl ?_
        refine aw_iconst hC dX6_cell_42 (by decide) ?_
        refine aw_icmp_ne (tgt := 55) hC dX6_cell_43 (by decide) (fun c14 => ?_) (fun c14 => ?_)
        · have hF := it_f hF c14
          refine aw_iload_n hC dX6_cell_55 rfl ?_
          refine aw_iconst hC dX6_cell_56 (by decide) ?_
          refine aw_icmp_ne (tgt := 68) hC dX6_cell_57 (by decide) (fun c15 => ?_) (fun c15 => ?_)
          · have hF := it_f hF c15
            refine aw_iload_n hC dX6_cell_68 rfl ?_
            refine aw_iconst hC dX6_cell_69 (by decide) ?_
            refine aw_icmp_ne (tgt := 81) hC dX6_cell_70 (by decide) (fun c16 => ?_) (fun c16 => ?_)
            · have hF := it_f hF c16
              refine aw_aload_n hC dX6_cell_81 rfl ?_
              refine aw_iload_n hC dX6_cell_82 rfl ?_
              obtain ⟨r17, h19, q18, hF⟩ := bd_some hF
              refine clRX6_401 hC hRm hbt dX6_cell_83 rfl rfl (by decide) (Nat.le_of_ble_eq_true rfl) (Nat.le_of_ble_eq_true rfl) (ok_X6_seenFrom q18) ?_
              exact aw_ireturn hC hZ (Nat.zero_le _) (Nat.zero_le _) hr dX6_cell_86 (hK _ _ (Option.some.inj hF).symm)
            · have hF := it_t hF c16
              refine aw_aload_n hC dX6_cell_73 rfl ?_
              refine aw_iload_n hC dX6_cell_74 rfl ?_
              obtain ⟨r20, q21, hF⟩ := bp_some hF
              refine clRX6_326 hC hRm hbt dX6_cell_75 rfl rfl (by decide) (Nat.le_of_ble_eq_true rfl) (Nat.le_of_ble_eq_true rfl) (ok_X6_houseIn q21) ?_
              refine aw_goto (tgt := 86) hC dX6_cell_78 (by decide) ?_
              exact aw_ireturn hC hZ (Nat.zero_le _) (Nat.zero_le _) hr dX6_cell_86 (hK _ _ (Option.some.inj hF).symm)
          · have hF := it_t hF c15
            refine aw_aload_n hC dX6_cell_60 rfl ?_
            refine aw_iload_n hC dX6_cell_61 rfl ?_
            obtain ⟨r22, q23, hF⟩ := bp_some hF
            refine clRX6_329 hC hRm hbt dX6_cell_62 rfl rfl (by decide) (Nat.le_of_ble_eq_true rfl) (Nat.le_of_ble_eq_true rfl) (ok_X6_treeIn q23) ?_
            refine aw_goto (tgt := 86) hC dX6_cell_65 (by decide) ?_
            exact aw_ireturn hC hZ (Nat.zero_le _) (Nat.zero_le _) hr dX6_cell_86 (hK _ _ (Option.some.inj hF).symm)
        · have hF := it_t hF c14
          refine aw_aload_n hC dX6_cell_46 rfl ?_
          refine aw_gc6 (k := 50) (a := 35) (b := 57) hC hbt dX6_cell_47 lkRX6_84 (by decide) rfl rfl rfl (by decide) (by decide) ?_
          refine aw_iload_n hC dX6_cell_50 rfl ?_
          obtain ⟨g24, hF⟩ := gd_some hF
          refine aw_iaload (a := 57) hC dX6_cell_51 rfl rfl (Or.inl ⟨hbt, by decide⟩) g24.1 g24.2 ?_
          refine aw_goto (tgt := 86) hC dX6_cell_52 (by decide) ?_
          exact aw_ireturn hC hZ (Nat.zero_le _) (Nat.zero_le _) hr dX6_cell_86 (hK _ _ (Option.some.inj hF).symm)
      · have hF := it_t hF c13
        refine aw_aload_n hC dX6_cell_32 rfl ?_
        refine aw_gc6 (k := 6) (a := 35) (b := 36) hC hbt dX6_cell_33 lkRX6_16 (by decide) rfl rfl rfl (by decide) (by decide) ?_
        refine aw_iload_n hC dX6_cell_36 rfl ?_
        obtain ⟨g25, hF⟩ := gd_some hF
        refine aw_iaload (a := 36) hC dX6_cell_37 rfl rfl (Or.inl ⟨hbt, by decide⟩) g25.1 g25.2 ?_
        refine aw_goto (tgt := 86) hC dX6_cell_38 (by decide) ?_
        exact aw_ireturn hC hZ (Nat.zero_le _) (Nat.zero_le _) hr dX6_cell_86 (hK _ _ (Option.some.inj hF).symm)
    · have hF := it_t hF c9
      refine aw_iconst hC dX6_cell_22 (by decide) ?_
      exact aw_ireturn hC hZ (Nat.zero_le _) (Nat.zero_le _) hr dX6_cell_23 (hK _ _ (Option.some.inj hF).symm)
def fX6_tree (x1 : Int) (x2 : Int) (h : Hp) : Option (Int × Hp) :=
  lb_ (st h 35 0 0) (fun h1 => bd_ (fX6_isTree x1 h1) (fun r2 h4 => (if r2 = 0 then some (0, h4) else bd_ (fX6_isWhat x2 2 h4) (fun r6 h8 => (if r6 = 0 then some (0, h8) else gd_ (0 ≤ (i_add ((i_mul 12 x2)) x1) ∧ (i_add ((i_mul 12 x2)) x1) < 62) (some ((h8 54 (Int.toNat ((i_add ((i_mul 12 x2)) x1)))), h8)))))))
theorem ok_X6_tree {G : GD} {n : Nat} {x1 : Int} {x2 : Int} {h : Hp} {res : Int × Hp} (hF : fX6_tree x1 x2 h = some res) : Con G yX6_tree cX6_tree 3 (some .int) 2 0 0 true [(2, ((35 : Nat) : Int)), (0, x1), (0, x2)] n h (FQ 0 n res) := by
  refine con_of (pad := 0) (own := RX6) (plainFor_of_name (by decide)) rfl rfl ?_
  intro X hC hbt hr hnm hZ hRm hn0
  have hK : ∀ (x9 : Int) (h9 : Hp), res = (x9, h9) → FQ 0 n res (0, x9) n h9 := fun x9 h9 e => by subst e; exact ⟨rfl, rfl, rfl⟩
  unfold fX6_tree at hF
  show AW G X 0 [(2, ((35 : Nat) : Int)), (0, x1), (0, x2)] [] n h 0 0
  refine aw_aload_n hC dX6_tree_0 rfl ?_
  refine aw_iconst hC dX6_tree_1 (by decide) ?_
  obtain ⟨h1, eh1, hF⟩ := lb_some hF
  refine aw_p6i (k := 0) (a := 35) hC dX6_tree_2 lkRX6_129 (by decide) rfl rfl rfl rfl rfl (Or.inl ⟨hbt, by decide⟩) (fun _ => by decide) ?_
  refine aw_eqH eh1 ?_
  clear eh1
  refine aw_aload_n hC dX6_tree_5 rfl ?_
  refine aw_iload_n hC dX6_tree_6 rfl ?_
  obtain ⟨r2, h4, q3, hF⟩ := bd_some hF
  refine clRX6_404 hC hRm hbt dX6_tree_7 rfl rfl (by decide) (Nat.le_of_ble_eq_true rfl) (Nat.le_of_ble_eq_true rfl) (ok_X6_isTree q3) ?_
  refine aw_if_eq (tgt := 36) hC dX6_tree_10 (by decide) (fun c5 => ?_) (fun c5 => ?_)
  · have hF := it_t hF c5
    refine aw_iconst hC dX6_tree_36 (by decide) ?_
    exact aw_ireturn hC hZ (Nat.zero_le _) (Nat.zero_le _) hr dX6_tree_37 (hK _ _ (Option.some.inj hF).symm)
  · have hF := it_f hF c5
    refine aw_aload_n hC dX6_tree_13 rfl ?_
    refine aw_iload_n hC dX6_tree_14 rfl ?_
    refine aw_iconst hC dX6_tree_15 (by decide) ?_
    obtain ⟨r6, h8, q7, hF⟩ := bd_some hF
    refine clRX6_398 hC hRm hbt dX6_tree_16 rfl rfl (by decide) (Nat.le_of_ble_eq_true rfl) (Nat.le_of_ble_eq_true rfl) (ok_X6_isWhat q7) ?_
    refine aw_if_eq (tgt := 36) hC dX6_tree_19 (by decide) (fun c9 => ?_) (fun c9 => ?_)
    · have hF := it_t hF c9
      refine aw_iconst hC dX6_tree_36 (by decide) ?_
      exact aw_ireturn hC hZ (Nat.zero_le _) (Nat.zero_le _) hr dX6_tree_37 (hK _ _ (Option.some.inj hF).symm)
    · have hF := it_f hF c9
      refine aw_aload_n hC dX6_tree_22 rfl ?_
      refine aw_gc6 (k := 46) (a := 35) (b := 54) hC hbt dX6_tree_23 lkRX6_75 (by decide) rfl rfl rfl (by decide) (by decide) ?_
      refine aw_bipush hC dX6_tree_26 (by decide) (by decide) ?_
      refine aw_iload_n hC dX6_tree_28 rfl ?_
      refine aw_imul hC dX6_tree_29 ?_
      refine aw_iload_n hC dX6_tree_30 rfl ?_
      refine aw_iadd hC dX6_tree_31 ?_
      obtain ⟨g10, hF⟩ := gd_some hF
      refine aw_iaload (a := 54) hC dX6_tree_32 rfl rfl (Or.inl ⟨hbt, by decide⟩) g10.1 g10.2 ?_
      refine aw_goto (tgt := 37) hC dX6_tree_33 (by decide) ?_
      exact aw_ireturn hC hZ (Nat.zero_le _) (Nat.zero_le _) hr dX6_tree_37 (hK _ _ (Option.some.inj hF).symm)
def fX6_house_j115 (x1 : Int) (x2 : Int) (h : Hp) : Option (Int × Hp) :=
  gd_ (0 ≤ (i_add ((i_add 36 ((i_mul 6 ((i_sub x2 2)))))) x1) ∧ (i_add ((i_add 36 ((i_mul 6 ((i_sub x2 2)))))) x1) < 62) (some ((h 54 (Int.toNat ((i_add ((i_add 36 ((i_mul 6 ((i_sub x2 2)))))) x1)))), h))
def fX6_house (x1 : Int) (x2 : Int) (h : Hp) : Option (Int × Hp) :=
  lb_ (st h 35 0 0) (fun h1 => bd_ (fX6_isHouse x1 h1) (fun r2 h4 => (if r2 = 0 then some (0, h4) else bd_ (fX6_isWhat x2 8 h4) (fun r6 h8 => (if r6 = 0 then some (0, h8) else bd_ (fX6_laysOut h8) (fun r10 h12 => bd_ (fX6_sees x1 h12) (fun r13 h15 => (if x2 = 0 then gd_ (0 ≤ x1 ∧ x1 < 7) (some ((h15 37 (Int.toNat x1)), h15)) else if x2 = 1 then gd_ (0 ≤ x1 ∧ x1 < 7) (some ((h15 38 (Int.toNat x1)), h15)) else if x2 = 2 then fX6_house_j115 x1 x2 h15 else if x2 = 3 then fX6_house_j115 x1 x2 h15 else if x2 = 4 then fX6_house_j115 x1 x2 h15 else if x2 = 5 then fX6_house_j115 x1 x2 h15 else if x2 = 6 then some ((h15 35 56), h15) else if x2 = 7 then bd_ (fX6_taxOf x1 h15) (fun r27 h29 => some (r27, h29)) else if x2 = 8 then bp_ (fX6_housesSeen x1 h15) (fun r31 => some (r31, h15)) else fX6_house_j115 x1 x2 h15))))))))
theorem fX6_house_j115_ok {G : GD} {X : CX} {n : Nat} {Q : Av → Nat → Hp → Prop} (hC : Cx G X RX6 cX6_house) (hZ : ZOK X G Q 0 0) (hRm : X.R = rmd 6 0 0) (hbt : X.bt = true) (hr : X.meth.sig.returnType = (some .int)) {x1 : Int} {x2 : Int} {h : Hp} {res : Int × Hp} (hF : fX6_house_j115 x1 x2 h = some res) (hK : ∀ (x9 : Int) (h9 : Hp), res = (x9, h9) → Q (0, x9) n h9) : AW G X 115 [(2, ((35 : Nat) : Int)), (0, x1), (0, x2)] [] n h 0 0 := by
  unfold fX6_house_j115 at hF
  refine aw_aload_n hC dX6_house_115 rfl ?_
  refine aw_gc6 (k := 46) (a := 35) (b := 54) hC hbt dX6_house_116 lkRX6_75 (by decide) rfl rfl rfl (by decide) (by decide) ?_
  refine aw_bipush hC dX6_house_119 (by decide) (by decide) ?_
  refine aw_bipush hC dX6_house_121 (by decide) (by decide) ?_
  refine aw_iload_n hC dX6_house_123 rfl ?_
  refine aw_iconst hC dX6_house_124 (by decide) ?_
  refine aw_isub hC dX6_house_125 ?_
  refine aw_imul hC dX6_house_126 ?_
  refine aw_iadd hC dX6_house_127 ?_
  refine aw_iload_n hC dX6_house_128 rfl ?_
  refine aw_iadd hC dX6_house_129 ?_
  obtain ⟨g21, hF⟩ := gd_some hF
  refine aw_iaload (a := 54) hC dX6_house_130 rfl rfl (Or.inl ⟨hbt, by decide⟩) g21.1 g21.2 ?_
  exact aw_ireturn hC hZ (Nat.zero_le _) (Nat.zero_le _) hr dX6_house_131 (hK _ _ (Option.some.inj hF).symm)
theorem ok_X6_house {G : GD} {n : Nat} {x1 : Int} {x2 : Int} {h : Hp} {res : Int × Hp} (hF : fX6_house x1 x2 h = some res) : Con G yX6_house cX6_house 3 (some .int) 6 0 0 true [(2, ((35 : Nat) : Int)), (0, x1), (0, x2)] n h (FQ 0 n res) := by
  refine con_of (pad := 0) (own := RX6) (plainFor_of_name (by decide)) rfl rfl ?_
  intro X hC hbt hr hnm hZ hRm hn0
  have hK : ∀ (x9 : Int) (h9 : Hp), res = (x9, h9) → FQ 0 n res (0, x9) n h9 := fun x9 h9 e => by subst e; exact ⟨rfl, rfl, rfl⟩
  unfold fX6_house at hF
  show AW G X 0 [(2, ((35 : Nat) : Int)), (0, x1), (0, x2)] [] n h 0 0
  refine aw_aload_n hC dX6_house_0 rfl ?_
  refine aw_iconst hC dX6_house_1 (by decide) ?_
  obtain ⟨h1, eh1, hF⟩ := lb_some hF
  refine aw_p6i (k := 0) (a := 35) hC dX6_house_2 lkRX6_129 (by decide) rfl rfl rfl rfl rfl (Or.inl ⟨hbt, by decide⟩) (fun _ => by decide) ?_
  refine aw_eqH eh1 ?_
  clear eh1
  refine aw_aload_n hC dX6_house_5 rfl ?_
  refine aw_iload_n hC dX6_house_6 rfl ?_
  obtain ⟨r2, h4, q3, hF⟩ := bd_some hF
  refine clRX6_407 hC hRm hbt dX6_house_7 rfl rfl (by decide) (Nat.le_of_ble_eq_true rfl) (Nat.le_of_ble_eq_true rfl) (ok_X6_isHouse q3) ?_
  refine aw_if_eq (tgt := 23) hC dX6_house_10 (by decide) (fun c5 => ?_) (fun c5 => ?_)
  · have hF := it_t hF c5
    refine aw_iconst hC dX6_house_23 (by decide) ?_
    exact aw_ireturn hC hZ (Nat.zero_le _) (Nat.zero_le _) hr dX6_house_24 (hK _ _ (Option.some.inj hF).symm)
  · have hF := it_f hF c5
    refine aw_aload_n hC dX6_house_13 rfl ?_
    refine aw_iload_n hC dX6_house_14 rfl ?_
    refine aw_bipush hC dX6_house_15 (by decide) (by decide) ?_
    obtain ⟨r6, h8, q7, hF⟩ := bd_some hF
    refine clRX6_398 hC hRm hbt dX6_house_17 rfl rfl (by decide) (Nat.le_of_ble_eq_true rfl) (Nat.le_of_ble_eq_true rfl) (ok_X6_isWhat q7) ?_
    refine aw_if_ne (tgt := 25) hC dX6_house_20 (by decide) (fun c9 => ?_) (fun c9 => ?_)
    · have hF := it_f hF c9
      refine aw_aload_n hC dX6_house_25 rfl ?_
      obtain ⟨r10, h12, q11, hF⟩ := bd_some hF
      refine clRX6_379 hC hRm hbt dX6_house_26 rfl rfl (by decide) (Nat.le_of_ble_eq_true rfl) (Nat.le_of_ble_eq_true rfl) (ok_X6_laysOut q11) ?_
      refine aw_aload_n hC dX6_house_29 rfl ?_
      refine aw_iload_n hC dX6_house_30 rfl ?_
      obtain ⟨r13, h15, q14, hF⟩ := bd_some hF
      refine clRX6_364 hC hRm hbt dX6_house_31 rfl rfl (by decide) (Nat.le_of_ble_eq_true rfl) (Nat.le_of_ble_eq_true rfl) (ok_X6_sees q14) ?_
      refine aw_iload_n hC dX6_house_34 rfl ?_
      by_cases c16 : x2 = 0
      · have hF := it_t hF c16
        refine aw_tableIn (off := 49) (tgt := 84) hC dX6_house_35 (by omega) (by omega) (by rw [c16]; rfl) (by decide) ?_
        refine aw_aload_n hC dX6_house_84 rfl ?_
        refine aw_gc6 (k := 7) (a := 35) (b := 37) hC hbt dX6_house_85 lkRX6_20 (by decide) rfl rfl rfl (by decide) (by decide) ?_
        refine aw_iload_n hC dX6_house_88 rfl ?_
        obtain ⟨g17, hF⟩ := gd_some hF
        refine aw_iaload (a := 37) hC dX6_house_89 rfl rfl (Or.inl ⟨hbt, by decide⟩) g17.1 g17.2 ?_
        exact aw_ireturn hC hZ (Nat.zero_le _) (Nat.zero_le _) hr dX6_house_90 (hK _ _ (Option.some.inj hF).symm)
      have hF := it_f hF c16
      by_cases c18 : x2 = 1
      · have hF := it_t hF c18
        refine aw_tableIn (off := 56) (tgt := 91) hC dX6_house_35 (by omega) (by omega) (by rw [c18]; rfl) (by decide) ?_
        refine aw_aload_n hC dX6_house_91 rfl ?_
        refine aw_gc6 (k := 8) (a := 35) (b := 38) hC hbt dX6_house_92 lkRX6_23 (by decide) rfl rfl rfl (by decide) (by decide) ?_
        refine aw_iload_n hC dX6_house_95 rfl ?_
        obtain ⟨g19, hF⟩ := gd_some hF
        refine aw_iaload (a := 38) hC dX6_house_96 rfl rfl (Or.inl ⟨hbt, by decide⟩) g19.1 g19.2 ?_
        exact aw_ireturn hC hZ (Nat.zero_le _) (Nat.zero_le _) hr dX6_house_97 (hK _ _ (Option.some.inj hF).symm)
      have hF := it_f hF c18
      by_cases c20 : x2 = 2
      · have hF := it_t hF c20
        refine aw_tableIn (off := 80) (tgt := 115) hC dX6_house_35 (by omega) (by omega) (by rw [c20]; rfl) (by decide) ?_
        exact fX6_house_j115_ok hC hZ hRm hbt hr hF hK
      have hF := it_f hF c20
      by_cases c22 : x2 = 3
      · have hF := it_t hF c22
        refine aw_tableIn (off := 80) (tgt := 115) hC dX6_house_35 (by omega) (by omega) (by rw [c22]; rfl) (by decide) ?_
        exact fX6_house_j115_ok hC hZ hRm hbt hr hF hK
      have hF := it_f hF c22
      by_cases c23 : x2 = 4
      · have hF := it_t hF c23
        refine aw_tableIn (off := 80) (tgt := 115) hC dX6_house_35 (by omega) (by omega) (by rw [c23]; rfl) (by decide) ?_
        exact fX6_house_j115_ok hC hZ hRm hbt hr hF hK
      have hF := it_f hF c23
      by_cases c24 : x2 = 5
      · have hF := it_t hF c24
        refine aw_tableIn (off := 80) (tgt := 115) hC dX6_house_35 (by omega) (by omega) (by rw [c24]; rfl) (by decide) ?_
        exact fX6_house_j115_ok hC hZ hRm hbt hr hF hK
      have hF := it_f hF c24
      by_cases c25 : x2 = 6
      · have hF := it_t hF c25
        refine aw_tableIn (off := 63) (tgt := 98) hC dX6_house_35 (by omega) (by omega) (by rw [c25]; rfl) (by decide) ?_
        refine aw_aload_n hC dX6_house_98 rfl ?_
        refine aw_g6i (k := 56) (a := 35) hC dX6_house_99 lkRX6_354 (by decide) rfl rfl rfl (Or.inl ⟨hbt, by decide⟩) ?_
        exact aw_ireturn hC hZ (Nat.zero_le _) (Nat.zero_le _) hr dX6_house_102 (hK _ _ (Option.some.inj hF).symm)
      have hF := it_f hF c25
      by_cases c26 : x2 = 7
      · have hF := it_t hF c26
        refine aw_tableIn (off := 68) (tgt := 103) hC dX6_house_35 (by omega) (by omega) (by rw [c26]; rfl) (by decide) ?_
        refine aw_aload_n hC dX6_house_103 rfl ?_
        refine aw_iload_n hC dX6_house_104 rfl ?_
        obtain ⟨r27, h29, q28, hF⟩ := bd_some hF
        refine clRX6_410 hC hRm hbt dX6_house_105 rfl rfl (by decide) (Nat.le_of_ble_eq_true rfl) (Nat.le_of_ble_eq_true rfl) (ok_X6_taxOf q28) ?_
        exact aw_ireturn hC hZ (Nat.zero_le _) (Nat.zero_le _) hr dX6_house_108 (hK _ _ (Option.some.inj hF).symm)
      have hF := it_f hF c26
      by_cases c30 : x2 = 8
      · have hF := it_t hF c30
        refine aw_tableIn (off := 74) (tgt := 109) hC dX6_house_35 (by omega) (by omega) (by rw [c30]; rfl) (by decide) ?_
        refine aw_aload_n hC dX6_house_109 rfl ?_
        refine aw_iload_n hC dX6_house_110 rfl ?_
        obtain ⟨r31, q32, hF⟩ := bp_some hF
        refine clRX6_367 hC hRm hbt dX6_house_111 rfl rfl (by decide) (Nat.le_of_ble_eq_true rfl) (Nat.le_of_ble_eq_true rfl) (ok_X6_housesSeen q32) ?_
        exact aw_ireturn hC hZ (Nat.zero_le _) (Nat.zero_le _) hr dX6_house_114 (hK _ _ (Option.some.inj hF).symm)
      have hF := it_f hF c30
      refine aw_tableOut (tgt := 115) hC dX6_house_35 (by omega) (by decide) ?_
      exact fX6_house_j115_ok hC hZ hRm hbt hr hF hK
    · have hF := it_t hF c9
      refine aw_iconst hC dX6_house_23 (by decide) ?_
      exact aw_ireturn hC hZ (Nat.zero_le _) (Nat.zero_le _) hr dX6_house_24 (hK _ _ (Option.some.inj hF).symm)
def fX6_miles (x1 : Int) (x2 : Int) (h : Hp) : Option (Int × Hp) :=
  lb_ (st h 35 0 0) (fun h1 => bd_ (fX6_isHouse x1 h1) (fun r2 h4 => (if r2 = 0 then some (0, h4) else bd_ (fX6_isWhat x2 7 h4) (fun r6 h8 => (if r6 = 0 then some (0, h8) else bd_ (fX6_laysOut h8) (fun r10 h12 => bd_ (fX6_milesIn x1 x2 h12) (fun r13 h15 => some (r13, h15))))))))
theorem ok_X6_miles {G : GD} {n : Nat} {x1 : Int} {x2 : Int} {h : Hp} {res : Int × Hp} (hF : fX6_miles x1 x2 h = some res) : Con G yX6_miles cX6_miles 3 (some .int) 3 0 0 true [(2, ((35 : Nat) : Int)), (0, x1), (0, x2)] n h (FQ 0 n res) := by
  refine con_of (pad := 0) (own := RX6) (plainFor_of_name (by decide)) rfl rfl ?_
  intro X hC hbt hr hnm hZ hRm hn0
  have hK : ∀ (x9 : Int) (h9 : Hp), res = (x9, h9) → FQ 0 n res (0, x9) n h9 := fun x9 h9 e => by subst e; exact ⟨rfl, rfl, rfl⟩
  unfold fX6_miles at hF
  show AW G X 0 [(2, ((35 : Nat) : Int)), (0, x1), (0, x2)] [] n h 0 0
  refine aw_aload_n hC dX6_miles_0 rfl ?_
  refine aw_iconst hC dX6_miles_1 (by decide) ?_
  obtain ⟨h1, eh1, hF⟩ := lb_some hF
  refine aw_p6i (k := 0) (a := 35) hC dX6_miles_2 lkRX6_129 (by decide) rfl rfl rfl rfl rfl (Or.inl ⟨hbt, by decide⟩) (fun _ => by decide) ?_
  refine aw_eqH eh1 ?_
  clear eh1
  refine aw_aload_n hC dX6_miles_5 rfl ?_
  refine aw_iload_n hC dX6_miles_6 rfl ?_
  obtain ⟨r2, h4, q3, hF⟩ := bd_some hF
  refine clRX6_407 hC hRm hbt dX6_miles_7 rfl rfl (by decide) (Nat.le_of_ble_eq_true rfl) (Nat.le_of_ble_eq_true rfl) (ok_X6_isHouse q3) ?_
  refine aw_if_eq (tgt := 23) hC dX6_miles_10 (by decide) (fun c5 => ?_) (fun c5 => ?_)
  · have hF := it_t hF c5
    refine aw_iconst hC dX6_miles_23 (by decide) ?_
    exact aw_ireturn hC hZ (Nat.zero_le _) (Nat.zero_le _) hr dX6_miles_24 (hK _ _ (Option.some.inj hF).symm)
  · have hF := it_f hF c5
    refine aw_aload_n hC dX6_miles_13 rfl ?_
    refine aw_iload_n hC dX6_miles_14 rfl ?_
    refine aw_bipush hC dX6_miles_15 (by decide) (by decide) ?_
    obtain ⟨r6, h8, q7, hF⟩ := bd_some hF
    refine clRX6_398 hC hRm hbt dX6_miles_17 rfl rfl (by decide) (Nat.le_of_ble_eq_true rfl) (Nat.le_of_ble_eq_true rfl) (ok_X6_isWhat q7) ?_
    refine aw_if_ne (tgt := 25) hC dX6_miles_20 (by decide) (fun c9 => ?_) (fun c9 => ?_)
    · have hF := it_f hF c9
      refine aw_aload_n hC dX6_miles_25 rfl ?_
      obtain ⟨r10, h12, q11, hF⟩ := bd_some hF
      refine clRX6_379 hC hRm hbt dX6_miles_26 rfl rfl (by decide) (Nat.le_of_ble_eq_true rfl) (Nat.le_of_ble_eq_true rfl) (ok_X6_laysOut q11) ?_
      refine aw_aload_n hC dX6_miles_29 rfl ?_
      refine aw_iload_n hC dX6_miles_30 rfl ?_
      refine aw_iload_n hC dX6_miles_31 rfl ?_
      obtain ⟨r13, h15, q14, hF⟩ := bd_some hF
      refine clRX6_357 hC hRm hbt dX6_miles_32 rfl rfl (by decide) (Nat.le_of_ble_eq_true rfl) (Nat.le_of_ble_eq_true rfl) (ok_X6_milesIn q14) ?_
      exact aw_ireturn hC hZ (Nat.zero_le _) (Nat.zero_le _) hr dX6_miles_35 (hK _ _ (Option.some.inj hF).symm)
    · have hF := it_t hF c9
      refine aw_iconst hC dX6_miles_23 (by decide) ?_
      exact aw_ireturn hC hZ (Nat.zero_le _) (Nat.zero_le _) hr dX6_miles_24 (hK _ _ (Option.some.inj hF).symm)
def fX6_seen (x1 : Int) (h : Hp) : Option (Int × Hp) :=
  lb_ (st h 35 0 0) (fun h1 => bd_ (fX6_isHouse x1 h1) (fun r2 h4 => (if r2 = 0 then some (0, h4) else bd_ (fX6_laysOut h4) (fun r6 h8 => bd_ (fX6_sees x1 h8) (fun r9 h11 => some ((h11 35 54), h11))))))
theorem ok_X6_seen {G : GD} {n : Nat} {x1 : Int} {h : Hp} {res : Int × Hp} (hF : fX6_seen x1 h = some res) : Con G yX6_seen cX6_seen 2 (some .long) 4 0 0 true [(2, ((35 : Nat) : Int)), (0, x1)] n h (FQ 1 n res) := by
  refine con_of (pad := 0) (own := RX6) (plainFor_of_name (by decide)) rfl rfl ?_
  intro X hC hbt hr hnm hZ hRm hn0
  have hK : ∀ (x9 : Int) (h9 : Hp), res = (x9, h9) → FQ 1 n res (1, x9) n h9 := fun x9 h9 e => by subst e; exact ⟨rfl, rfl, rfl⟩
  unfold fX6_seen at hF
  show AW G X 0 [(2, ((35 : Nat) : Int)), (0, x1)] [] n h 0 0
  refine aw_aload_n hC dX6_seen_0 rfl ?_
  refine aw_iconst hC dX6_seen_1 (by decide) ?_
  obtain ⟨h1, eh1, hF⟩ := lb_some hF
  refine aw_p6i (k := 0) (a := 35) hC dX6_seen_2 lkRX6_129 (by decide) rfl rfl rfl rfl rfl (Or.inl ⟨hbt, by decide⟩) (fun _ => by decide) ?_
  refine aw_eqH eh1 ?_
  clear eh1
  refine aw_aload_n hC dX6_seen_5 rfl ?_
  refine aw_iload_n hC dX6_seen_6 rfl ?_
  obtain ⟨r2, h4, q3, hF⟩ := bd_some hF
  refine clRX6_407 hC hRm hbt dX6_seen_7 rfl rfl (by decide) (Nat.le_of_ble_eq_true rfl) (Nat.le_of_ble_eq_true rfl) (ok_X6_isHouse q3) ?_
  refine aw_if_ne (tgt := 15) hC dX6_seen_10 (by decide) (fun c5 => ?_) (fun c5 => ?_)
  · have hF := it_f hF c5
    refine aw_aload_n hC dX6_seen_15 rfl ?_
    obtain ⟨r6, h8, q7, hF⟩ := bd_some hF
    refine clRX6_379 hC hRm hbt dX6_seen_16 rfl rfl (by decide) (Nat.le_of_ble_eq_true rfl) (Nat.le_of_ble_eq_true rfl) (ok_X6_laysOut q7) ?_
    refine aw_aload_n hC dX6_seen_19 rfl ?_
    refine aw_iload_n hC dX6_seen_20 rfl ?_
    obtain ⟨r9, h11, q10, hF⟩ := bd_some hF
    refine clRX6_364 hC hRm hbt dX6_seen_21 rfl rfl (by decide) (Nat.le_of_ble_eq_true rfl) (Nat.le_of_ble_eq_true rfl) (ok_X6_sees q10) ?_
    refine aw_aload_n hC dX6_seen_24 rfl ?_
    refine aw_g6l (k := 54) (a := 35) hC dX6_seen_25 lkRX6_338 (by decide) rfl rfl rfl (Or.inl ⟨hbt, by decide⟩) ?_
    exact aw_lreturn hC hZ (Nat.zero_le _) (Nat.zero_le _) hr dX6_seen_28 (hK _ _ (Option.some.inj hF).symm)
  · have hF := it_t hF c5
    refine aw_lconst (v := 0) hC dX6_seen_13 (by decide) (by decide) ?_
    exact aw_lreturn hC hZ (Nat.zero_le _) (Nat.zero_le _) hr dX6_seen_14 (hK _ _ (Option.some.inj hF).symm)
def fX6_yearGoes_l8 (x1 : Int) (x2 : Int) (h : Hp) : Option ((Int × Int × Hp) ⊕ (Int × Hp)) :=
  (if (h 35 3) ≤ x2 then some (.inr (x1, h)) else bd_ (fX6_taxOf x2 h) (fun r5 h7 => gd_ (0 ≤ (i_add 36 x2) ∧ (i_add 36 x2) < 62) (gd_ (0 ≤ (i_add 36 x2) ∧ (i_add 36 x2) < 62) (lb_ (st h7 54 (Int.toNat ((i_add 36 x2))) ((i_sub ((h7 54 (Int.toNat ((i_add 36 x2))))) r5))) (fun h10 => lb_ ((i_add x1 r5)) (fun v11 => some (.inl (v11, (i_add x2 1), h10))))))))
def fX6_yearGoes_l47 (x1 : Int) (x2 : Int) (h : Hp) : Option ((Int × Hp) ⊕ (Hp)) :=
  (if 12 ≤ x2 then some (.inr h) else gd_ (0 ≤ (i_add 0 x2) ∧ (i_add 0 x2) < 62) ((if (h 54 (Int.toNat ((i_add 0 x2)))) = (-1) then some (.inl ((i_add x2 1), h)) else gd_ (0 ≤ (i_add 12 x2) ∧ (i_add 12 x2) < 62) (gd_ (0 ≤ (i_add 24 x2) ∧ (i_add 24 x2) < 62) ((if (h 54 (Int.toNat ((i_add 24 x2)))) ≤ (h 54 (Int.toNat ((i_add 12 x2)))) then some (.inl ((i_add x2 1), h)) else gd_ (0 ≤ (i_add 12 x2) ∧ (i_add 12 x2) < 62) (gd_ (0 ≤ (i_add 12 x2) ∧ (i_add 12 x2) < 62) (lb_ (st h 54 (Int.toNat ((i_add 12 x2))) ((i_add ((h 54 (Int.toNat ((i_add 12 x2))))) 1))) (fun h26 => some (.inl ((i_add x2 1), h26)))))))))))
def fX6_yearGoes  (h : Hp) : Option (Int × Hp) :=
  bd_ (fX6_laysOut h) (fun r1 h3 => bp_ (it_ (fun s => fX6_yearGoes_l8 s.1 s.2.1 s.2.2) FU (0, 0, h3)) (fun e13 => (fun y14 h15 => bp_ (it_ (fun s => fX6_yearGoes_l47 y14 s.1 s.2) FU (0, h15)) (fun e28 => (fun h29 => gd_ (0 ≤ (61 : Int) ∧ (61 : Int) < 62) (gd_ (0 ≤ (61 : Int) ∧ (61 : Int) < 62) (lb_ (st h29 54 (Int.toNat 61) ((i_add ((h29 54 (Int.toNat 61))) 1))) (fun h32 => some (y14, h32))))) e28)) e13.1 e13.2))
theorem fX6_yearGoes_l8_ok {G : GD} {X : CX} {n : Nat} {Q : Av → Nat → Hp → Prop} (hC : Cx G X RX6 cX6_yearGoes) (hZ : ZOK X G Q 0 0) (hRm : X.R = rmd 6 0 0) (hbt : X.bt = true) (hr : X.meth.sig.returnType = (some .int))  : ∀ (f : Nat) (x1 : Int) (x2 : Int) (h : Hp) (r : Int × Hp), it_ (fun s => fX6_yearGoes_l8 s.1 s.2.1 s.2.2) f (x1, x2, h) = some r → (∀ (y1 : Int) (h9 : Hp), r = (y1, h9) → AW G X 45 [(2, ((35 : Nat) : Int)), (0, y1), (9, 0), (9, 0)] [] n h9 0 0) → AW G X 8 [(2, ((35 : Nat) : Int)), (0, x1), (0, x2), (9, 0)] [] n h 0 0 := by
  intro f
  induction f with
  | zero => intro x1 x2 h r hI; cases hI
  | succ f ih0 =>
    intro x1 x2 h r hI hX
    obtain ⟨b, hF, hb1, hb2⟩ := it_succ hI
    have hF : fX6_yearGoes_l8 x1 x2 h = some b := hF
    unfold fX6_yearGoes_l8 at hF
    refine aw_iload_n hC dX6_yearGoes_8 rfl ?_
    refine aw_aload_n hC dX6_yearGoes_9 rfl ?_
    refine aw_g6i (k := 3) (a := 35) hC dX6_yearGoes_10 lkRX6_297 (by decide) rfl rfl rfl (Or.inl ⟨hbt, by decide⟩) ?_
    refine aw_icmp_ge (tgt := 45) hC dX6_yearGoes_13 (by decide) (fun c4 => ?_) (fun c4 => ?_)
    · have hF := it_t hF c4
      refine aw_weak (ls' := [(2, ((35 : Nat) : Int)), (0, x1), (9, 0), (9, 0)]) ⟨Or.inr rfl, Or.inr rfl, Or.inl rfl, Or.inl rfl, trivial⟩ ?_
      exact hX _ _ (hb2 _ (Option.some.inj hF).symm).symm
    · have hF := it_f hF c4
      refine aw_aload_n hC dX6_yearGoes_16 rfl ?_
      refine aw_iload_n hC dX6_yearGoes_17 rfl ?_
      obtain ⟨r5, h7, q6, hF⟩ := bd_some hF
      refine clRX6_410 hC hRm hbt dX6_yearGoes_18 rfl rfl (by decide) (Nat.le_of_ble_eq_true rfl) (Nat.le_of_ble_eq_true rfl) (ok_X6_taxOf q6) ?_
      refine aw_istore3 hC dX6_yearGoes_21 rfl ?_
      refine aw_aload_n hC dX6_yearGoes_22 rfl ?_
      refine aw_gc6 (k := 46) (a := 35) (b := 54) hC hbt dX6_yearGoes_23 lkRX6_75 (by decide) rfl rfl rfl (by decide) (by decide) ?_
      refine aw_bipush hC dX6_yearGoes_26 (by decide) (by decide) ?_
      refine aw_iload_n hC dX6_yearGoes_28 rfl ?_
      refine aw_iadd hC dX6_yearGoes_29 ?_
      refine aw_dup2 hC dX6_yearGoes_30 (by simp) (by simp) ?_
      obtain ⟨g8, hF⟩ := gd_some hF
      refine aw_iaload (a := 54) hC dX6_yearGoes_31 rfl rfl (Or.inl ⟨hbt, by decide⟩) g8.1 g8.2 ?_
      refine aw_iload_n hC dX6_yearGoes_32 rfl ?_
      refine aw_isub hC dX6_yearGoes_33 ?_
      obtain ⟨g9, hF⟩ := gd_some hF
      obtain ⟨h10, eh10, hF⟩ := lb_some hF
      refine aw_iastore (a := 54) hC dX6_yearGoes_34 rfl rfl (Or.inl ⟨hbt, by decide⟩) g9.1 g9.2 ?_
      refine aw_eqH eh10 ?_
      clear eh10
      refine aw_iload_n hC dX6_yearGoes_35 rfl ?_
      refine aw_iload_n hC dX6_yearGoes_36 rfl ?_
      refine aw_iadd hC dX6_yearGoes_37 ?_
      obtain ⟨v11, ev11, hF⟩ := lb_some hF
      refine aw_eqT ev11 ?_
      clear ev11
      refine aw_istore1 hC dX6_yearGoes_38 rfl ?_
      refine aw_iinc2 hC dX6_yearGoes_39 rfl ?_
      refine aw_goto (tgt := 8) hC dX6_yearGoes_42 (by decide) ?_
      refine aw_weak (ls' := [(2, ((35 : Nat) : Int)), (0, v11), (0, (i_add x2 1)), (9, 0)]) ⟨Or.inr rfl, Or.inr rfl, Or.inr rfl, Or.inl rfl, trivial⟩ ?_
      exact ih0 _ _ _ r (hb1 _ (Option.some.inj hF).symm) hX
theorem fX6_yearGoes_l47_ok {G : GD} {X : CX} {n : Nat} {Q : Av → Nat → Hp → Prop} (hC : Cx G X RX6 cX6_yearGoes) (hZ : ZOK X G Q 0 0) (hRm : X.R = rmd 6 0 0) (hbt : X.bt = true) (hr : X.meth.sig.returnType = (some .int)) {x1 : Int} : ∀ (f : Nat) (x2 : Int) (h : Hp) (r : Hp), it_ (fun s => fX6_yearGoes_l47 x1 s.1 s.2) f (x2, h) = some r → (∀ (h9 : Hp), r = h9 → AW G X 105 [(2, ((35 : Nat) : Int)), (0, x1), (9, 0), (9, 0)] [] n h9 0 0) → AW G X 47 [(2, ((35 : Nat) : Int)), (0, x1), (0, x2), (9, 0)] [] n h 0 0 := by
  intro f
  induction f with
  | zero => intro x2 h r hI; cases hI
  | succ f ih0 =>
    intro x2 h r hI hX
    obtain ⟨b, hF, hb1, hb2⟩ := it_succ hI
    have hF : fX6_yearGoes_l47 x1 x2 h = some b := hF
    unfold fX6_yearGoes_l47 at hF
    refine aw_iload_n hC dX6_yearGoes_47 rfl ?_
    refine aw_bipush hC dX6_yearGoes_48 (by decide) (by decide) ?_
    refine aw_icmp_ge (tgt := 105) hC dX6_yearGoes_50 (by decide) (fun c16 => ?_) (fun c16 => ?_)
    · have hF := it_t hF c16
      refine aw_weak (ls' := [(2, ((35 : Nat) : Int)), (0, x1), (9, 0), (9, 0)]) ⟨Or.inr rfl, Or.inr rfl, Or.inl rfl, Or.inl rfl, trivial⟩ ?_
      exact hX _ (hb2 _ (Option.some.inj hF).symm).symm
    · have hF := it_f hF c16
      refine aw_aload_n hC dX6_yearGoes_53 rfl ?_
      refine aw_gc6 (k := 46) (a := 35) (b := 54) hC hbt dX6_yearGoes_54 lkRX6_75 (by decide) rfl rfl rfl (by decide) (by decide) ?_
      refine aw_iconst hC dX6_yearGoes_57 (by decide) ?_
      refine aw_iload_n hC dX6_yearGoes_58 rfl ?_
      refine aw_iadd hC dX6_yearGoes_59 ?_
      obtain ⟨g17, hF⟩ := gd_some hF
      refine aw_iaload (a := 54) hC dX6_yearGoes_60 rfl rfl (Or.inl ⟨hbt, by decide⟩) g17.1 g17.2 ?_
      refine aw_iconst hC dX6_yearGoes_61 (by decide) ?_
      refine aw_icmp_eq (tgt := 99) hC dX6_yearGoes_62 (by decide) (fun c18 => ?_) (fun c18 => ?_)
      · have hF := it_t hF c18
        refine aw_iinc2 hC dX6_yearGoes_99 rfl ?_
        refine aw_goto (tgt := 47) hC dX6_yearGoes_102 (by decide) ?_
        exact ih0 _ _ r (hb1 _ (Option.some.inj hF).symm) hX
      · have hF := it_f hF c18
        refine aw_aload_n hC dX6_yearGoes_65 rfl ?_
        refine aw_gc6 (k := 46) (a := 35) (b := 54) hC hbt dX6_yearGoes_66 lkRX6_75 (by decide) rfl rfl rfl (by decide) (by decide) ?_
        refine aw_bipush hC dX6_yearGoes_69 (by decide) (by decide) ?_
        refine aw_iload_n hC dX6_yearGoes_71 rfl ?_
        refine aw_iadd hC dX6_yearGoes_72 ?_
        obtain ⟨g20, hF⟩ := gd_some hF
        refine aw_iaload (a := 54) hC dX6_yearGoes_73 rfl rfl (Or.inl ⟨hbt, by decide⟩) g20.1 g20.2 ?_
        refine aw_aload_n hC dX6_yearGoes_74 rfl ?_
        refine aw_gc6 (k := 46) (a := 35) (b := 54) hC hbt dX6_yearGoes_75 lkRX6_75 (by decide) rfl rfl rfl (by decide) (by decide) ?_
        refine aw_bipush hC dX6_yearGoes_78 (by decide) (by decide) ?_
        refine aw_iload_n hC dX6_yearGoes_80 rfl ?_
        refine aw_iadd hC dX6_yearGoes_81 ?_
        obtain ⟨g21, hF⟩ := gd_some hF
        refine aw_iaload (a := 54) hC dX6_yearGoes_82 rfl rfl (Or.inl ⟨hbt, by decide⟩) g21.1 g21.2 ?_
        refine aw_icmp_ge (tgt := 99) hC dX6_yearGoes_83 (by decide) (fun c22 => ?_) (fun c22 => ?_)
        · have hF := it_t hF c22
          refine aw_iinc2 hC dX6_yearGoes_99 rfl ?_
          refine aw_goto (tgt := 47) hC dX6_yearGoes_102 (by decide) ?_
          exact ih0 _ _ r (hb1 _ (Option.some.inj hF).symm) hX
        · have hF := it_f hF c22
          refine aw_aload_n hC dX6_yearGoes_86 rfl ?_
          refine aw_gc6 (k := 46) (a := 35) (b := 54) hC hbt dX6_yearGoes_87 lkRX6_75 (by decide) rfl rfl rfl (by decide) (by decide) ?_
          refine aw_bipush hC dX6_yearGoes_90 (by decide) (by decide) ?_
          refine aw_iload_n hC dX6_yearGoes_92 rfl ?_
          refine aw_iadd hC dX6_yearGoes_93 ?_
          refine aw_dup2 hC dX6_yearGoes_94 (by simp) (by simp) ?_
          obtain ⟨g24, hF⟩ := gd_some hF
          refine aw_iaload (a := 54) hC dX6_yearGoes_95 rfl rfl (Or.inl ⟨hbt, by decide⟩) g24.1 g24.2 ?_
          refine aw_iconst hC dX6_yearGoes_96 (by decide) ?_
          refine aw_iadd hC dX6_yearGoes_97 ?_
          obtain ⟨g25, hF⟩ := gd_some hF
          obtain ⟨h26, eh26, hF⟩ := lb_some hF
          refine aw_iastore (a := 54) hC dX6_yearGoes_98 rfl rfl (Or.inl ⟨hbt, by decide⟩) g25.1 g25.2 ?_
          refine aw_eqH eh26 ?_
          clear eh26
          refine aw_iinc2 hC dX6_yearGoes_99 rfl ?_
          refine aw_goto (tgt := 47) hC dX6_yearGoes_102 (by decide) ?_
          exact ih0 _ _ r (hb1 _ (Option.some.inj hF).symm) hX
theorem ok_X6_yearGoes {G : GD} {n : Nat}  {h : Hp} {res : Int × Hp} (hF : fX6_yearGoes  h = some res) : Con G yX6_yearGoes cX6_yearGoes 4 (some .int) 6 0 0 true [(2, ((35 : Nat) : Int))] n h (FQ 0 n res) := by
  refine con_of (pad := 3) (own := RX6) (plainFor_of_name (by decide)) rfl rfl ?_
  intro X hC hbt hr hnm hZ hRm hn0
  have hK : ∀ (x9 : Int) (h9 : Hp), res = (x9, h9) → FQ 0 n res (0, x9) n h9 := fun x9 h9 e => by subst e; exact ⟨rfl, rfl, rfl⟩
  unfold fX6_yearGoes at hF
  show AW G X 0 [(2, ((35 : Nat) : Int)), (9, 0), (9, 0), (9, 0)] [] n h 0 0
  refine aw_aload_n hC dX6_yearGoes_0 rfl ?_
  obtain ⟨r1, h3, q2, hF⟩ := bd_some hF
  refine clRX6_379 hC hRm hbt dX6_yearGoes_1 rfl rfl (by decide) (Nat.le_of_ble_eq_true rfl) (Nat.le_of_ble_eq_true rfl) (ok_X6_laysOut q2) ?_
  refine aw_iconst hC dX6_yearGoes_4 (by decide) ?_
  refine aw_istore1 hC dX6_yearGoes_5 rfl ?_
  refine aw_iconst hC dX6_yearGoes_6 (by decide) ?_
  refine aw_istore2 hC dX6_yearGoes_7 rfl ?_
  obtain ⟨e13, he, hF⟩ := bp_some hF
  refine fX6_yearGoes_l8_ok hC hZ hRm hbt hr FU _ _ _ e13 he (fun y14 h15 er => ?_)
  replace er := er.symm
  subst er
  try dsimp only at hF
  refine aw_iconst hC dX6_yearGoes_45 (by decide) ?_
  refine aw_istore2 hC dX6_yearGoes_46 rfl ?_
  obtain ⟨e28, he, hF⟩ := bp_some hF
  refine fX6_yearGoes_l47_ok hC hZ hRm hbt hr FU _ _ e28 he (fun h29 er => ?_)
  replace er := er.symm
  subst er
  try dsimp only at hF
  refine aw_aload_n hC dX6_yearGoes_105 rfl ?_
  refine aw_gc6 (k := 46) (a := 35) (b := 54) hC hbt dX6_yearGoes_106 lkRX6_75 (by decide) rfl rfl rfl (by decide) (by decide) ?_
  refine aw_bipush hC dX6_yearGoes_109 (by decide) (by decide) ?_
  refine aw_dup2 hC dX6_yearGoes_111 (by simp) (by simp) ?_
  obtain ⟨g30, hF⟩ := gd_some hF
  refine aw_iaload (a := 54) hC dX6_yearGoes_112 rfl rfl (Or.inl ⟨hbt, by decide⟩) g30.1 g30.2 ?_
  refine aw_iconst hC dX6_yearGoes_113 (by decide) ?_
  refine aw_iadd hC dX6_yearGoes_114 ?_
  obtain ⟨g31, hF⟩ := gd_some hF
  obtain ⟨h32, eh32, hF⟩ := lb_some hF
  refine aw_iastore (a := 54) hC dX6_yearGoes_115 rfl rfl (Or.inl ⟨hbt, by decide⟩) g31.1 g31.2 ?_
  refine aw_eqH eh32 ?_
  clear eh32
  refine aw_iload_n hC dX6_yearGoes_116 rfl ?_
  exact aw_ireturn hC hZ (Nat.zero_le _) (Nat.zero_le _) hr dX6_yearGoes_117 (hK _ _ (Option.some.inj hF).symm)
def fX6_years_j30  (h : Hp) : Option (Int × Hp) :=
  bd_ (fX6_refuses 1 ((-1)) h) (fun r5 h7 => some (r5, h7))
def fX6_years_l43 (x1 : Int) (x2 : Int) (h : Hp) : Option ((Int × Hp) ⊕ (Hp)) :=
  (if x1 ≤ x2 then some (.inr h) else bd_ (fX6_yearGoes h) (fun r14 h16 => some (.inl ((i_add x2 1), h16))))
def fX6_years (x1 : Int) (h : Hp) : Option (Int × Hp) :=
  lb_ (st h 35 0 0) (fun h1 => bp_ (fX6_within x1 1 20 h1) (fun r2 => (if r2 = 0 then fX6_years_j30 h1 else gd_ (0 ≤ (61 : Int) ∧ (61 : Int) < 62) ((if (i_add ((h1 54 (Int.toNat 61))) x1) ≤ 999 then bd_ (fX6_keeps h1) (fun r10 h12 => bp_ (it_ (fun s => fX6_years_l43 x1 s.1 s.2) FU (0, h12)) (fun e18 => (fun h19 => gd_ (0 ≤ (61 : Int) ∧ (61 : Int) < 62) (some ((h19 54 (Int.toNat 61)), h19))) e18)) else fX6_years_j30 h1)))))
theorem fX6_years_j30_ok {G : GD} {X : CX} {n : Nat} {Q : Av → Nat → Hp → Prop} (hC : Cx G X RX6 cX6_years) (hZ : ZOK X G Q 0 0) (hRm : X.R = rmd 7 0 0) (hbt : X.bt = true) (hr : X.meth.sig.returnType = (some .int))  {h : Hp} {res : Int × Hp} (hF : fX6_years_j30  h = some res) (hK : ∀ (x9 : Int) (h9 : Hp), res = (x9, h9) → Q (0, x9) n h9) : AW G X 30 [(2, ((35 : Nat) : Int)), (9, 0), (9, 0)] [] n h 0 0 := by
  unfold fX6_years_j30 at hF
  refine aw_aload_n hC dX6_years_30 rfl ?_
  refine aw_iconst hC dX6_years_31 (by decide) ?_
  refine aw_iconst hC dX6_years_32 (by decide) ?_
  obtain ⟨r5, h7, q6, hF⟩ := bd_some hF
  refine clRX6_413 hC hRm hbt dX6_years_33 rfl rfl (by decide) (Nat.le_of_ble_eq_true rfl) (Nat.le_of_ble_eq_true rfl) (ok_X6_refuses q6) ?_
  exact aw_ireturn hC hZ (Nat.zero_le _) (Nat.zero_le _) hr dX6_years_36 (hK _ _ (Option.some.inj hF).symm)
theorem fX6_years_l43_ok {G : GD} {X : CX} {n : Nat} {Q : Av → Nat → Hp → Prop} (hC : Cx G X RX6 cX6_years) (hZ : ZOK X G Q 0 0) (hRm : X.R = rmd 7 0 0) (hbt : X.bt = true) (hr : X.meth.sig.returnType = (some .int)) {x1 : Int} : ∀ (f : Nat) (x2 : Int) (h : Hp) (r : Hp), it_ (fun s => fX6_years_l43 x1 s.1 s.2) f (x2, h) = some r → (∀ (h9 : Hp), r = h9 → AW G X 59 [(2, ((35 : Nat) : Int)), (9, 0), (9, 0)] [] n h9 0 0) → AW G X 43 [(2, ((35 : Nat) : Int)), (0, x1), (0, x2)] [] n h 0 0 := by
  intro f
  induction f with
  | zero => intro x2 h r hI; cases hI
  | succ f ih0 =>
    intro x2 h r hI hX
    obtain ⟨b, hF, hb1, hb2⟩ := it_succ hI
    have hF : fX6_years_l43 x1 x2 h = some b := hF
    unfold fX6_years_l43 at hF
    refine aw_iload_n hC dX6_years_43 rfl ?_
    refine aw_iload_n hC dX6_years_44 rfl ?_
    refine aw_icmp_ge (tgt := 59) hC dX6_years_45 (by decide) (fun c13 => ?_) (fun c13 => ?_)
    · have hF := it_t hF c13
      refine aw_weak (ls' := [(2, ((35 : Nat) : Int)), (9, 0), (9, 0)]) ⟨Or.inr rfl, Or.inl rfl, Or.inl rfl, trivial⟩ ?_
      exact hX _ (hb2 _ (Option.some.inj hF).symm).symm
    · have hF := it_f hF c13
      refine aw_aload_n hC dX6_years_48 rfl ?_
      obtain ⟨r14, h16, q15, hF⟩ := bd_some hF
      refine clRX6_419 hC hRm hbt dX6_years_49 rfl rfl (by decide) (Nat.le_of_ble_eq_true rfl) (Nat.le_of_ble_eq_true rfl) (ok_X6_yearGoes q15) ?_
      refine aw_pop hC dX6_years_52 (by simp) ?_
      refine aw_iinc2 hC dX6_years_53 rfl ?_
      refine aw_goto (tgt := 43) hC dX6_years_56 (by decide) ?_
      exact ih0 _ _ r (hb1 _ (Option.some.inj hF).symm) hX
theorem ok_X6_years {G : GD} {n : Nat} {x1 : Int} {h : Hp} {res : Int × Hp} (hF : fX6_years x1 h = some res) : Con G yX6_years cX6_years 3 (some .int) 7 0 0 true [(2, ((35 : Nat) : Int)), (0, x1)] n h (FQ 0 n res) := by
  refine con_of (pad := 1) (own := RX6) (plainFor_of_name (by decide)) rfl rfl ?_
  intro X hC hbt hr hnm hZ hRm hn0
  have hK : ∀ (x9 : Int) (h9 : Hp), res = (x9, h9) → FQ 0 n res (0, x9) n h9 := fun x9 h9 e => by subst e; exact ⟨rfl, rfl, rfl⟩
  unfold fX6_years at hF
  show AW G X 0 [(2, ((35 : Nat) : Int)), (0, x1), (9, 0)] [] n h 0 0
  refine aw_aload_n hC dX6_years_0 rfl ?_
  refine aw_iconst hC dX6_years_1 (by decide) ?_
  obtain ⟨h1, eh1, hF⟩ := lb_some hF
  refine aw_p6i (k := 0) (a := 35) hC dX6_years_2 lkRX6_129 (by decide) rfl rfl rfl rfl rfl (Or.inl ⟨hbt, by decide⟩) (fun _ => by decide) ?_
  refine aw_eqH eh1 ?_
  clear eh1
  refine aw_iload_n hC dX6_years_5 rfl ?_
  refine aw_iconst hC dX6_years_6 (by decide) ?_
  refine aw_bipush hC dX6_years_7 (by decide) (by decide) ?_
  obtain ⟨r2, q3, hF⟩ := bp_some hF
  refine clRX6_385 hC hRm hbt dX6_years_9 (Nat.le_of_ble_eq_true rfl) (Nat.le_of_ble_eq_true rfl) (ok_X6_within q3) ?_
  refine aw_if_eq (tgt := 30) hC dX6_years_12 (by decide) (fun c4 => ?_) (fun c4 => ?_)
  · have hF := it_t hF c4
    refine aw_weak (ls' := [(2, ((35 : Nat) : Int)), (9, 0), (9, 0)]) ⟨Or.inr rfl, Or.inl rfl, Or.inl rfl, trivial⟩ ?_
    exact fX6_years_j30_ok hC hZ hRm hbt hr hF hK
  · have hF := it_f hF c4
    refine aw_aload_n hC dX6_years_15 rfl ?_
    refine aw_gc6 (k := 46) (a := 35) (b := 54) hC hbt dX6_years_16 lkRX6_75 (by decide) rfl rfl rfl (by decide) (by decide) ?_
    refine aw_bipush hC dX6_years_19 (by decide) (by decide) ?_
    obtain ⟨g8, hF⟩ := gd_some hF
    refine aw_iaload (a := 54) hC dX6_years_21 rfl rfl (Or.inl ⟨hbt, by decide⟩) g8.1 g8.2 ?_
    refine aw_iload_n hC dX6_years_22 rfl ?_
    refine aw_iadd hC dX6_years_23 ?_
    refine aw_sipush hC dX6_years_24 (by decide) (by decide) ?_
    refine aw_icmp_le (tgt := 37) hC dX6_years_27 (by decide) (fun c9 => ?_) (fun c9 => ?_)
    · have hF := it_t hF c9
      refine aw_aload_n hC dX6_years_37 rfl ?_
      obtain ⟨r10, h12, q11, hF⟩ := bd_some hF
      refine clRX6_416 hC hRm hbt dX6_years_38 rfl rfl (by decide) (Nat.le_of_ble_eq_true rfl) (Nat.le_of_ble_eq_true rfl) (ok_X6_keeps q11) ?_
      refine aw_iconst hC dX6_years_41 (by decide) ?_
      refine aw_istore2 hC dX6_years_42 rfl ?_
      obtain ⟨e18, he, hF⟩ := bp_some hF
      refine fX6_years_l43_ok hC hZ hRm hbt hr FU _ _ e18 he (fun h19 er => ?_)
      replace er := er.symm
      subst er
      try dsimp only at hF
      refine aw_aload_n hC dX6_years_59 rfl ?_
      refine aw_gc6 (k := 46) (a := 35) (b := 54) hC hbt dX6_years_60 lkRX6_75 (by decide) rfl rfl rfl (by decide) (by decide) ?_
      refine aw_bipush hC dX6_years_63 (by decide) (by decide) ?_
      obtain ⟨g20, hF⟩ := gd_some hF
      refine aw_iaload (a := 54) hC dX6_years_65 rfl rfl (Or.inl ⟨hbt, by decide⟩) g20.1 g20.2 ?_
      exact aw_ireturn hC hZ (Nat.zero_le _) (Nat.zero_le _) hr dX6_years_66 (hK _ _ (Option.some.inj hF).symm)
    · have hF := it_f hF c9
      refine aw_weak (ls' := [(2, ((35 : Nat) : Int)), (9, 0), (9, 0)]) ⟨Or.inr rfl, Or.inl rfl, Or.inl rfl, trivial⟩ ?_
      exact fX6_years_j30_ok hC hZ hRm hbt hr hF hK
def fX6_isBare (x1 : Int) (h : Hp) : Option (Int) :=
  bp_ (fX6_treeIn x1 h) (fun r1 => (if r1 = (-1) then bp_ (fX6_houseIn x1 h) (fun r4 => (if r4 = (-1) then some 1 else some 0)) else some 0))
theorem ok_X6_isBare {G : GD} {n : Nat} {x1 : Int} {h : Hp} {res : Int} (hF : fX6_isBare x1 h = some res) : Con G yX6_isBare cX6_isBare 2 (some .boolean) 1 0 0 true [(2, ((35 : Nat) : Int)), (0, x1)] n h (FQ 0 n (res, h)) := by
  refine con_of (pad := 0) (own := RX6) (plainFor_of_name (by decide)) rfl rfl ?_
  intro X hC hbt hr hnm hZ hRm hn0
  have hK : ∀ (x9 : Int), res = x9 → FQ 0 n (res, h) (0, x9) n h := fun x9 e => by subst e; exact ⟨rfl, rfl, rfl⟩
  unfold fX6_isBare at hF
  show AW G X 0 [(2, ((35 : Nat) : Int)), (0, x1)] [] n h 0 0
  refine aw_aload_n hC dX6_isBare_0 rfl ?_
  refine aw_iload_n hC dX6_isBare_1 rfl ?_
  obtain ⟨r1, q2, hF⟩ := bp_some hF
  refine clRX6_329 hC hRm hbt dX6_isBare_2 rfl rfl (by decide) (Nat.le_of_ble_eq_true rfl) (Nat.le_of_ble_eq_true rfl) (ok_X6_treeIn q2) ?_
  refine aw_iconst hC dX6_isBare_5 (by decide) ?_
  refine aw_icmp_ne (tgt := 22) hC dX6_isBare_6 (by decide) (fun c3 => ?_) (fun c3 => ?_)
  · have hF := it_f hF c3
    refine aw_iconst hC dX6_isBare_22 (by decide) ?_
    exact aw_zreturn hC hZ (Nat.zero_le _) (Nat.zero_le _) hr rfl dX6_isBare_23 (by decide) (hK _ (Option.some.inj hF).symm)
  · have hF := it_t hF c3
    refine aw_aload_n hC dX6_isBare_9 rfl ?_
    refine aw_iload_n hC dX6_isBare_10 rfl ?_
    obtain ⟨r4, q5, hF⟩ := bp_some hF
    refine clRX6_326 hC hRm hbt dX6_isBare_11 rfl rfl (by decide) (Nat.le_of_ble_eq_true rfl) (Nat.le_of_ble_eq_true rfl) (ok_X6_houseIn q5) ?_
    refine aw_iconst hC dX6_isBare_14 (by decide) ?_
    refine aw_icmp_ne (tgt := 22) hC dX6_isBare_15 (by decide) (fun c6 => ?_) (fun c6 => ?_)
    · have hF := it_f hF c6
      refine aw_iconst hC dX6_isBare_22 (by decide) ?_
      exact aw_zreturn hC hZ (Nat.zero_le _) (Nat.zero_le _) hr rfl dX6_isBare_23 (by decide) (hK _ (Option.some.inj hF).symm)
    · have hF := it_t hF c6
      refine aw_iconst hC dX6_isBare_18 (by decide) ?_
      refine aw_goto (tgt := 23) hC dX6_isBare_19 (by decide) ?_
      exact aw_zreturn hC hZ (Nat.zero_le _) (Nat.zero_le _) hr rfl dX6_isBare_23 (by decide) (hK _ (Option.some.inj hF).symm)
def fX6_plant_l17 (x1 : Int) (x2 : Int) (x3 : Int) (h : Hp) : Option ((Int) ⊕ (Int)) :=
  (if 12 ≤ x3 then some (.inr x3) else gd_ (0 ≤ (i_add 0 x3) ∧ (i_add 0 x3) < 62) ((if (h 54 (Int.toNat ((i_add 0 x3)))) = (-1) then some (.inr x3) else some (.inl (i_add x3 1)))))
def fX6_plant_j65  (h : Hp) : Option (Int × Hp) :=
  bd_ (fX6_refuses 1 ((-1)) h) (fun r13 h15 => some (r13, h15))
def fX6_plant_j41 (x1 : Int) (x2 : Int) (x3 : Int) (h : Hp) : Option (Int × Hp) :=
  (if x3 = 12 then fX6_plant_j65 h else bp_ (fX6_within x2 1 9 h) (fun r16 => (if r16 = 0 then fX6_plant_j65 h else bp_ (fX6_isBare x1 h) (fun r19 => (if r19 = 0 then fX6_plant_j65 h else bd_ (fX6_keeps h) (fun r22 h24 => gd_ (0 ≤ (i_add 0 x3) ∧ (i_add 0 x3) < 62) (lb_ (st h24 54 (Int.toNat ((i_add 0 x3))) x1) (fun h26 => gd_ (0 ≤ (i_add 12 x3) ∧ (i_add 12 x3) < 62) (lb_ (st h26 54 (Int.toNat ((i_add 12 x3))) 1) (fun h28 => gd_ (0 ≤ (i_add 24 x3) ∧ (i_add 24 x3) < 62) (lb_ (st h28 54 (Int.toNat ((i_add 24 x3))) x2) (fun h30 => some (x3, h30)))))))))))))
def fX6_plant (x1 : Int) (x2 : Int) (h : Hp) : Option (Int × Hp) :=
  lb_ (st h 35 0 0) (fun h1 => bd_ (fX6_isCell x1 h1) (fun r2 h4 => (if r2 = 0 then some (0, h4) else bp_ (it_ (fun s => fX6_plant_l17 x1 x2 s h4) FU 0) (fun e10 => (fun y11 => fX6_plant_j41 x1 x2 y11 h4) e10))))
theorem fX6_plant_l17_ok {G : GD} {X : CX} {n : Nat} {Q : Av → Nat → Hp → Prop} (hC : Cx G X RX6 cX6_plant) (hZ : ZOK X G Q 0 0) (hRm : X.R = rmd 2 0 0) (hbt : X.bt = true) (hr : X.meth.sig.returnType = (some .int)) {x1 : Int} {x2 : Int} {h : Hp} : ∀ (f : Nat) (x3 : Int) (r : Int), it_ (fun s => fX6_plant_l17 x1 x2 s h) f x3 = some r → (∀ (y3 : Int), r = y3 → AW G X 41 [(2, ((35 : Nat) : Int)), (0, x1), (0, x2), (0, y3)] [] n h 0 0) → AW G X 17 [(2, ((35 : Nat) : Int)), (0, x1), (0, x2), (0, x3)] [] n h 0 0 := by
  intro f
  induction f with
  | zero => intro x3 r hI; cases hI
  | succ f ih0 =>
    intro x3 r hI hX
    obtain ⟨b, hF, hb1, hb2⟩ := it_succ hI
    have hF : fX6_plant_l17 x1 x2 x3 h = some b := hF
    unfold fX6_plant_l17 at hF
    refine aw_iload_n hC dX6_plant_17 rfl ?_
    refine aw_bipush hC dX6_plant_18 (by decide) (by decide) ?_
    refine aw_icmp_ge (tgt := 41) hC dX6_plant_20 (by decide) (fun c6 => ?_) (fun c6 => ?_)
    · have hF := it_t hF c6
      exact hX _ (hb2 _ (Option.some.inj hF).symm).symm
    · have hF := it_f hF c6
      refine aw_aload_n hC dX6_plant_23 rfl ?_
      refine aw_gc6 (k := 46) (a := 35) (b := 54) hC hbt dX6_plant_24 lkRX6_75 (by decide) rfl rfl rfl (by decide) (by decide) ?_
      refine aw_iconst hC dX6_plant_27 (by decide) ?_
      refine aw_iload_n hC dX6_plant_28 rfl ?_
      refine aw_iadd hC dX6_plant_29 ?_
      obtain ⟨g7, hF⟩ := gd_some hF
      refine aw_iaload (a := 54) hC dX6_plant_30 rfl rfl (Or.inl ⟨hbt, by decide⟩) g7.1 g7.2 ?_
      refine aw_iconst hC dX6_plant_31 (by decide) ?_
      refine aw_icmp_eq (tgt := 41) hC dX6_plant_32 (by decide) (fun c8 => ?_) (fun c8 => ?_)
      · have hF := it_t hF c8
        exact hX _ (hb2 _ (Option.some.inj hF).symm).symm
      · have hF := it_f hF c8
        refine aw_iinc3 hC dX6_plant_35 rfl ?_
        refine aw_goto (tgt := 17) hC dX6_plant_38 (by decide) ?_
        exact ih0 _ r (hb1 _ (Option.some.inj hF).symm) hX
theorem fX6_plant_j65_ok {G : GD} {X : CX} {n : Nat} {Q : Av → Nat → Hp → Prop} (hC : Cx G X RX6 cX6_plant) (hZ : ZOK X G Q 0 0) (hRm : X.R = rmd 2 0 0) (hbt : X.bt = true) (hr : X.meth.sig.returnType = (some .int))  {h : Hp} {res : Int × Hp} (hF : fX6_plant_j65  h = some res) (hK : ∀ (x9 : Int) (h9 : Hp), res = (x9, h9) → Q (0, x9) n h9) : AW G X 65 [(2, ((35 : Nat) : Int)), (9, 0), (9, 0), (9, 0)] [] n h 0 0 := by
  unfold fX6_plant_j65 at hF
  refine aw_aload_n hC dX6_plant_65 rfl ?_
  refine aw_iconst hC dX6_plant_66 (by decide) ?_
  refine aw_iconst hC dX6_plant_67 (by decide) ?_
  obtain ⟨r13, h15, q14, hF⟩ := bd_some hF
  refine clRX6_413 hC hRm hbt dX6_plant_68 rfl rfl (by decide) (Nat.le_of_ble_eq_true rfl) (Nat.le_of_ble_eq_true rfl) (ok_X6_refuses q14) ?_
  exact aw_ireturn hC hZ (Nat.zero_le _) (Nat.zero_le _) hr dX6_plant_71 (hK _ _ (Option.some.inj hF).symm)
theorem fX6_plant_j41_ok {G : GD} {X : CX} {n : Nat} {Q : Av → Nat → Hp → Prop} (hC : Cx G X RX6 cX6_plant) (hZ : ZOK X G Q 0 0) (hRm : X.R = rmd 2 0 0) (hbt : X.bt = true) (hr : X.meth.sig.returnType = (some .int)) {x1 : Int} {x2 : Int} {x3 : Int} {h : Hp} {res : Int × Hp} (hF : fX6_plant_j41 x1 x2 x3 h = some res) (hK : ∀ (x9 : Int) (h9 : Hp), res = (x9, h9) → Q (0, x9) n h9) : AW G X 41 [(2, ((35 : Nat) : Int)), (0, x1), (0, x2), (0, x3)] [] n h 0 0 := by
  unfold fX6_plant_j41 at hF
  refine aw_iload_n hC dX6_plant_41 rfl ?_
  refine aw_bipush hC dX6_plant_42 (by decide) (by decide) ?_
  refine aw_icmp_eq (tgt := 65) hC dX6_plant_44 (by decide) (fun c12 => ?_) (fun c12 => ?_)
  · have hF := it_t hF c12
    refine aw_weak (ls' := [(2, ((35 : Nat) : Int)), (9, 0), (9, 0), (9, 0)]) ⟨Or.inr rfl, Or.inl rfl, Or.inl rfl, Or.inl rfl, trivial⟩ ?_
    exact fX6_plant_j65_ok hC hZ hRm hbt hr hF hK
  · have hF := it_f hF c12
    refine aw_iload_n hC dX6_plant_47 rfl ?_
    refine aw_iconst hC dX6_plant_48 (by decide) ?_
    refine aw_bipush hC dX6_plant_49 (by decide) (by decide) ?_
    obtain ⟨r16, q17, hF⟩ := bp_some hF
    refine clRX6_385 hC hRm hbt dX6_plant_51 (Nat.le_of_ble_eq_true rfl) (Nat.le_of_ble_eq_true rfl) (ok_X6_within q17) ?_
    refine aw_if_eq (tgt := 65) hC dX6_plant_54 (by decide) (fun c18 => ?_) (fun c18 => ?_)
    · have hF := it_t hF c18
      refine aw_weak (ls' := [(2, ((35 : Nat) : Int)), (9, 0), (9, 0), (9, 0)]) ⟨Or.inr rfl, Or.inl rfl, Or.inl rfl, Or.inl rfl, trivial⟩ ?_
      exact fX6_plant_j65_ok hC hZ hRm hbt hr hF hK
    · have hF := it_f hF c18
      refine aw_aload_n hC dX6_plant_57 rfl ?_
      refine aw_iload_n hC dX6_plant_58 rfl ?_
      obtain ⟨r19, q20, hF⟩ := bp_some hF
      refine clRX6_422 hC hRm hbt dX6_plant_59 rfl rfl (by decide) (Nat.le_of_ble_eq_true rfl) (Nat.le_of_ble_eq_true rfl) (ok_X6_isBare q20) ?_
      refine aw_if_ne (tgt := 72) hC dX6_plant_62 (by decide) (fun c21 => ?_) (fun c21 => ?_)
      · have hF := it_f hF c21
        refine aw_aload_n hC dX6_plant_72 rfl ?_
        obtain ⟨r22, h24, q23, hF⟩ := bd_some hF
        refine clRX6_416 hC hRm hbt dX6_plant_73 rfl rfl (by decide) (Nat.le_of_ble_eq_true rfl) (Nat.le_of_ble_eq_true rfl) (ok_X6_keeps q23) ?_
        refine aw_aload_n hC dX6_plant_76 rfl ?_
        refine aw_gc6 (k := 46) (a := 35) (b := 54) hC hbt dX6_plant_77 lkRX6_75 (by decide) rfl rfl rfl (by decide) (by decide) ?_
        refine aw_iconst hC dX6_plant_80 (by decide) ?_
        refine aw_iload_n hC dX6_plant_81 rfl ?_
        refine aw_iadd hC dX6_plant_82 ?_
        refine aw_iload_n hC dX6_plant_83 rfl ?_
        obtain ⟨g25, hF⟩ := gd_some hF
        obtain ⟨h26, eh26, hF⟩ := lb_some hF
        refine aw_iastore (a := 54) hC dX6_plant_84 rfl rfl (Or.inl ⟨hbt, by decide⟩) g25.1 g25.2 ?_
        refine aw_eqH eh26 ?_
        clear eh26
        refine aw_aload_n hC dX6_plant_85 rfl ?_
        refine aw_gc6 (k := 46) (a := 35) (b := 54) hC hbt dX6_plant_86 lkRX6_75 (by decide) rfl rfl rfl (by decide) (by decide) ?_
        refine aw_bipush hC dX6_plant_89 (by decide) (by decide) ?_
        refine aw_iload_n hC dX6_plant_91 rfl ?_
        refine aw_iadd hC dX6_plant_92 ?_
        refine aw_iconst hC dX6_plant_93 (by decide) ?_
        obtain ⟨g27, hF⟩ := gd_some hF
        obtain ⟨h28, eh28, hF⟩ := lb_some hF
        refine aw_iastore (a := 54) hC dX6_plant_94 rfl rfl (Or.inl ⟨hbt, by decide⟩) g27.1 g27.2 ?_
        refine aw_eqH eh28 ?_
        clear eh28
        refine aw_aload_n hC dX6_plant_95 rfl ?_
        refine aw_gc6 (k := 46) (a := 35) (b := 54) hC hbt dX6_plant_96 lkRX6_75 (by decide) rfl rfl rfl (by decide) (by decide) ?_
        refine aw_bipush hC dX6_plant_99 (by decide) (by decide) ?_
        refine aw_iload_n hC dX6_plant_101 rfl ?_
        refine aw_iadd hC dX6_plant_102 ?_
        refine aw_iload_n hC dX6_plant_103 rfl ?_
        obtain ⟨g29, hF⟩ := gd_some hF
        obtain ⟨h30, eh30, hF⟩ := lb_some hF
        refine aw_iastore (a := 54) hC dX6_plant_104 rfl rfl (Or.inl ⟨hbt, by decide⟩) g29.1 g29.2 ?_
        refine aw_eqH eh30 ?_
        clear eh30
        refine aw_iload_n hC dX6_plant_105 rfl ?_
        exact aw_ireturn hC hZ (Nat.zero_le _) (Nat.zero_le _) hr dX6_plant_106 (hK _ _ (Option.some.inj hF).symm)
      · have hF := it_t hF c21
        refine aw_weak (ls' := [(2, ((35 : Nat) : Int)), (9, 0), (9, 0), (9, 0)]) ⟨Or.inr rfl, Or.inl rfl, Or.inl rfl, Or.inl rfl, trivial⟩ ?_
        exact fX6_plant_j65_ok hC hZ hRm hbt hr hF hK
theorem ok_X6_plant {G : GD} {n : Nat} {x1 : Int} {x2 : Int} {h : Hp} {res : Int × Hp} (hF : fX6_plant x1 x2 h = some res) : Con G yX6_plant cX6_plant 4 (some .int) 2 0 0 true [(2, ((35 : Nat) : Int)), (0, x1), (0, x2)] n h (FQ 0 n res) := by
  refine con_of (pad := 1) (own := RX6) (plainFor_of_name (by decide)) rfl rfl ?_
  intro X hC hbt hr hnm hZ hRm hn0
  have hK : ∀ (x9 : Int) (h9 : Hp), res = (x9, h9) → FQ 0 n res (0, x9) n h9 := fun x9 h9 e => by subst e; exact ⟨rfl, rfl, rfl⟩
  unfold fX6_plant at hF
  show AW G X 0 [(2, ((35 : Nat) : Int)), (0, x1), (0, x2), (9, 0)] [] n h 0 0
  refine aw_aload_n hC dX6_plant_0 rfl ?_
  refine aw_iconst hC dX6_plant_1 (by decide) ?_
  obtain ⟨h1, eh1, hF⟩ := lb_some hF
  refine aw_p6i (k := 0) (a := 35) hC dX6_plant_2 lkRX6_129 (by decide) rfl rfl rfl rfl rfl (Or.inl ⟨hbt, by decide⟩) (fun _ => by decide) ?_
  refine aw_eqH eh1 ?_
  clear eh1
  refine aw_aload_n hC dX6_plant_5 rfl ?_
  refine aw_iload_n hC dX6_plant_6 rfl ?_
  obtain ⟨r2, h4, q3, hF⟩ := bd_some hF
  refine clRX6_395 hC hRm hbt dX6_plant_7 rfl rfl (by decide) (Nat.le_of_ble_eq_true rfl) (Nat.le_of_ble_eq_true rfl) (ok_X6_isCell q3) ?_
  refine aw_if_ne (tgt := 15) hC dX6_plant_10 (by decide) (fun c5 => ?_) (fun c5 => ?_)
  · have hF := it_f hF c5
    refine aw_iconst hC dX6_plant_15 (by decide) ?_
    refine aw_istore3 hC dX6_plant_16 rfl ?_
    obtain ⟨e10, he, hF⟩ := bp_some hF
    refine fX6_plant_l17_ok hC hZ hRm hbt hr FU _ e10 he (fun y11 er => ?_)
    replace er := er.symm
    subst er
    try dsimp only at hF
    exact fX6_plant_j41_ok hC hZ hRm hbt hr hF hK
  · have hF := it_t hF c5
    refine aw_iconst hC dX6_plant_13 (by decide) ?_
    exact aw_ireturn hC hZ (Nat.zero_le _) (Nat.zero_le _) hr dX6_plant_14 (hK _ _ (Option.some.inj hF).symm)
def fX6_fell (x1 : Int) (h : Hp) : Option (Int × Hp) :=
  lb_ (st h 35 0 0) (fun h1 => bd_ (fX6_isTree x1 h1) (fun r2 h4 => (if r2 = 0 then some (0, h4) else bd_ (fX6_keeps h4) (fun r6 h8 => gd_ (0 ≤ (i_add 0 x1) ∧ (i_add 0 x1) < 62) (lb_ ((h8 54 (Int.toNat ((i_add 0 x1))))) (fun v10 => gd_ (0 ≤ (i_add 0 x1) ∧ (i_add 0 x1) < 62) (lb_ (st h8 54 (Int.toNat ((i_add 0 x1))) ((-1))) (fun h12 => some (v10, h12)))))))))
theorem ok_X6_fell {G : GD} {n : Nat} {x1 : Int} {h : Hp} {res : Int × Hp} (hF : fX6_fell x1 h = some res) : Con G yX6_fell cX6_fell 3 (some .int) 2 0 0 true [(2, ((35 : Nat) : Int)), (0, x1)] n h (FQ 0 n res) := by
  refine con_of (pad := 1) (own := RX6) (plainFor_of_name (by decide)) rfl rfl ?_
  intro X hC hbt hr hnm hZ hRm hn0
  have hK : ∀ (x9 : Int) (h9 : Hp), res = (x9, h9) → FQ 0 n res (0, x9) n h9 := fun x9 h9 e => by subst e; exact ⟨rfl, rfl, rfl⟩
  unfold fX6_fell at hF
  show AW G X 0 [(2, ((35 : Nat) : Int)), (0, x1), (9, 0)] [] n h 0 0
  refine aw_aload_n hC dX6_fell_0 rfl ?_
  refine aw_iconst hC dX6_fell_1 (by decide) ?_
  obtain ⟨h1, eh1, hF⟩ := lb_some hF
  refine aw_p6i (k := 0) (a := 35) hC dX6_fell_2 lkRX6_129 (by decide) rfl rfl rfl rfl rfl (Or.inl ⟨hbt, by decide⟩) (fun _ => by decide) ?_
  refine aw_eqH eh1 ?_
  clear eh1
  refine aw_aload_n hC dX6_fell_5 rfl ?_
  refine aw_iload_n hC dX6_fell_6 rfl ?_
  obtain ⟨r2, h4, q3, hF⟩ := bd_some hF
  refine clRX6_404 hC hRm hbt dX6_fell_7 rfl rfl (by decide) (Nat.le_of_ble_eq_true rfl) (Nat.le_of_ble_eq_true rfl) (ok_X6_isTree q3) ?_
  refine aw_if_ne (tgt := 15) hC dX6_fell_10 (by decide) (fun c5 => ?_) (fun c5 => ?_)
  · have hF := it_f hF c5
    refine aw_aload_n hC dX6_fell_15 rfl ?_
    obtain ⟨r6, h8, q7, hF⟩ := bd_some hF
    refine clRX6_416 hC hRm hbt dX6_fell_16 rfl rfl (by decide) (Nat.le_of_ble_eq_true rfl) (Nat.le_of_ble_eq_true rfl) (ok_X6_keeps q7) ?_
    refine aw_aload_n hC dX6_fell_19 rfl ?_
    refine aw_gc6 (k := 46) (a := 35) (b := 54) hC hbt dX6_fell_20 lkRX6_75 (by decide) rfl rfl rfl (by decide) (by decide) ?_
    refine aw_iconst hC dX6_fell_23 (by decide) ?_
    refine aw_iload_n hC dX6_fell_24 rfl ?_
    refine aw_iadd hC dX6_fell_25 ?_
    obtain ⟨g9, hF⟩ := gd_some hF
    refine aw_iaload (a := 54) hC dX6_fell_26 rfl rfl (Or.inl ⟨hbt, by decide⟩) g9.1 g9.2 ?_
    obtain ⟨v10, ev10, hF⟩ := lb_some hF
    refine aw_eqT ev10 ?_
    clear ev10
    refine aw_istore2 hC dX6_fell_27 rfl ?_
    refine aw_aload_n hC dX6_fell_28 rfl ?_
    refine aw_gc6 (k := 46) (a := 35) (b := 54) hC hbt dX6_fell_29 lkRX6_75 (by decide) rfl rfl rfl (by decide) (by decide) ?_
    refine aw_iconst hC dX6_fell_32 (by decide) ?_
    refine aw_iload_n hC dX6_fell_33 rfl ?_
    refine aw_iadd hC dX6_fell_34 ?_
    refine aw_iconst hC dX6_fell_35 (by decide) ?_
    obtain ⟨g11, hF⟩ := gd_some hF
    obtain ⟨h12, eh12, hF⟩ := lb_some hF
    refine aw_iastore (a := 54) hC dX6_fell_36 rfl rfl (Or.inl ⟨hbt, by decide⟩) g11.1 g11.2 ?_
    refine aw_eqH eh12 ?_
    clear eh12
    refine aw_iload_n hC dX6_fell_37 rfl ?_
    exact aw_ireturn hC hZ (Nat.zero_le _) (Nat.zero_le _) hr dX6_fell_38 (hK _ _ (Option.some.inj hF).symm)
  · have hF := it_t hF c5
    refine aw_iconst hC dX6_fell_13 (by decide) ?_
    exact aw_ireturn hC hZ (Nat.zero_le _) (Nat.zero_le _) hr dX6_fell_14 (hK _ _ (Option.some.inj hF).symm)
def fX6_becomes (x1 : Int) (x2 : Int) (h : Hp) : Option (Int × Hp) :=
  bd_ (fX6_keeps h) (fun r1 h3 => gd_ (0 ≤ x1 ∧ x1 < 62) (lb_ ((h3 54 (Int.toNat x1))) (fun v5 => gd_ (0 ≤ x1 ∧ x1 < 62) (lb_ (st h3 54 (Int.toNat x1) x2) (fun h7 => some (v5, h7))))))
theorem ok_X6_becomes {G : GD} {n : Nat} {x1 : Int} {x2 : Int} {h : Hp} {res : Int × Hp} (hF : fX6_becomes x1 x2 h = some res) : Con G yX6_becomes cX6_becomes 4 (some .int) 1 0 0 true [(2, ((35 : Nat) : Int)), (0, x1), (0, x2)] n h (FQ 0 n res) := by
  refine con_of (pad := 1) (own := RX6) (plainFor_of_name (by decide)) rfl rfl ?_
  intro X hC hbt hr hnm hZ hRm hn0
  have hK : ∀ (x9 : Int) (h9 : Hp), res = (x9, h9) → FQ 0 n res (0, x9) n h9 := fun x9 h9 e => by subst e; exact ⟨rfl, rfl, rfl⟩
  unfold fX6_becomes at hF
  show AW G X 0 [(2, ((35 : Nat) : Int)), (0, x1), (0, x2), (9, 0)] [] n h 0 0
  refine aw_aload_n hC dX6_becomes_0 rfl ?_
  obtain ⟨r1, h3, q2, hF⟩ := bd_some hF
  refine clRX6_416 hC hRm hbt dX6_becomes_1 rfl rfl (by decide) (Nat.le_of_ble_eq_true rfl) (Nat.le_of_ble_eq_true rfl) (ok_X6_keeps q2) ?_
  refine aw_aload_n hC dX6_becomes_4 rfl ?_
  refine aw_gc6 (k := 46) (a := 35) (b := 54) hC hbt dX6_becomes_5 lkRX6_75 (by decide) rfl rfl rfl (by decide) (by decide) ?_
  refine aw_iload_n hC dX6_becomes_8 rfl ?_
  obtain ⟨g4, hF⟩ := gd_some hF
  refine aw_iaload (a := 54) hC dX6_becomes_9 rfl rfl (Or.inl ⟨hbt, by decide⟩) g4.1 g4.2 ?_
  obtain ⟨v5, ev5, hF⟩ := lb_some hF
  refine aw_eqT ev5 ?_
  clear ev5
  refine aw_istore3 hC dX6_becomes_10 rfl ?_
  refine aw_aload_n hC dX6_becomes_11 rfl ?_
  refine aw_gc6 (k := 46) (a := 35) (b := 54) hC hbt dX6_becomes_12 lkRX6_75 (by decide) rfl rfl rfl (by decide) (by decide) ?_
  refine aw_iload_n hC dX6_becomes_15 rfl ?_
  refine aw_iload_n hC dX6_becomes_16 rfl ?_
  obtain ⟨g6, hF⟩ := gd_some hF
  obtain ⟨h7, eh7, hF⟩ := lb_some hF
  refine aw_iastore (a := 54) hC dX6_becomes_17 rfl rfl (Or.inl ⟨hbt, by decide⟩) g6.1 g6.2 ?_
  refine aw_eqH eh7 ?_
  clear eh7
  refine aw_iload_n hC dX6_becomes_18 rfl ?_
  exact aw_ireturn hC hZ (Nat.zero_le _) (Nat.zero_le _) hr dX6_becomes_19 (hK _ _ (Option.some.inj hF).symm)
def fX6_floor (x1 : Int) (x2 : Int) (h : Hp) : Option (Int × Hp) :=
  lb_ (st h 35 0 0) (fun h1 => bd_ (fX6_isHouse x1 h1) (fun r2 h4 => (if r2 = 0 then some (0, h4) else bp_ (fX6_within x2 ((-3)) 3 h4) (fun r6 => (if r6 = 0 then bd_ (fX6_refuses 1 ((-9)) h4) (fun r9 h11 => some (r9, h11)) else bd_ (fX6_becomes ((i_add 42 x1)) x2 h4) (fun r12 h14 => some (r12, h14)))))))
theorem ok_X6_floor {G : GD} {n : Nat} {x1 : Int} {x2 : Int} {h : Hp} {res : Int × Hp} (hF : fX6_floor x1 x2 h = some res) : Con G yX6_floor cX6_floor 3 (some .int) 2 0 0 true [(2, ((35 : Nat) : Int)), (0, x1), (0, x2)] n h (FQ 0 n res) := by
  refine con_of (pad := 0) (own := RX6) (plainFor_of_name (by decide)) rfl rfl ?_
  intro X hC hbt hr hnm hZ hRm hn0
  have hK : ∀ (x9 : Int) (h9 : Hp), res = (x9, h9) → FQ 0 n res (0, x9) n h9 := fun x9 h9 e => by subst e; exact ⟨rfl, rfl, rfl⟩
  unfold fX6_floor at hF
  show AW G X 0 [(2, ((35 : Nat) : Int)), (0, x1), (0, x2)] [] n h 0 0
  refine aw_aload_n hC dX6_floor_0 rfl ?_
  refine aw_iconst hC dX6_floor_1 (by decide) ?_
  obtain ⟨h1, eh1, hF⟩ := lb_some hF
  refine aw_p6i (k := 0) (a := 35) hC dX6_floor_2 lkRX6_129 (by decide) rfl rfl rfl rfl rfl (Or.inl ⟨hbt, by decide⟩) (fun _ => by decide) ?_
  refine aw_eqH eh1 ?_
  clear eh1
  refine aw_aload_n hC dX6_floor_5 rfl ?_
  refine aw_iload_n hC dX6_floor_6 rfl ?_
  obtain ⟨r2, h4, q3, hF⟩ := bd_some hF
  refine clRX6_407 hC hRm hbt dX6_floor_7 rfl rfl (by decide) (Nat.le_of_ble_eq_true rfl) (Nat.le_of_ble_eq_true rfl) (ok_X6_isHouse q3) ?_
  refine aw_if_ne (tgt := 15) hC dX6_floor_10 (by decide) (fun c5 => ?_) (fun c5 => ?_)
  · have hF := it_f hF c5
    refine aw_iload_n hC dX6_floor_15 rfl ?_
    refine aw_bipush hC dX6_floor_16 (by decide) (by decide) ?_
    refine aw_iconst hC dX6_floor_18 (by decide) ?_
    obtain ⟨r6, q7, hF⟩ := bp_some hF
    refine clRX6_385 hC hRm hbt dX6_floor_19 (Nat.le_of_ble_eq_true rfl) (Nat.le_of_ble_eq_true rfl) (ok_X6_within q7) ?_
    refine aw_if_eq (tgt := 37) hC dX6_floor_22 (by decide) (fun c8 => ?_) (fun c8 => ?_)
    · have hF := it_t hF c8
      refine aw_aload_n hC dX6_floor_37 rfl ?_
      refine aw_iconst hC dX6_floor_38 (by decide) ?_
      refine aw_bipush hC dX6_floor_39 (by decide) (by decide) ?_
      obtain ⟨r9, h11, q10, hF⟩ := bd_some hF
      refine clRX6_413 hC hRm hbt dX6_floor_41 rfl rfl (by decide) (Nat.le_of_ble_eq_true rfl) (Nat.le_of_ble_eq_true rfl) (ok_X6_refuses q10) ?_
      exact aw_ireturn hC hZ (Nat.zero_le _) (Nat.zero_le _) hr dX6_floor_44 (hK _ _ (Option.some.inj hF).symm)
    · have hF := it_f hF c8
      refine aw_aload_n hC dX6_floor_25 rfl ?_
      refine aw_bipush hC dX6_floor_26 (by decide) (by decide) ?_
      refine aw_iload_n hC dX6_floor_28 rfl ?_
      refine aw_iadd hC dX6_floor_29 ?_
      refine aw_iload_n hC dX6_floor_30 rfl ?_
      obtain ⟨r12, h14, q13, hF⟩ := bd_some hF
      refine clRX6_425 hC hRm hbt dX6_floor_31 rfl rfl (by decide) (Nat.le_of_ble_eq_true rfl) (Nat.le_of_ble_eq_true rfl) (ok_X6_becomes q13) ?_
      refine aw_goto (tgt := 44) hC dX6_floor_34 (by decide) ?_
      exact aw_ireturn hC hZ (Nat.zero_le _) (Nat.zero_le _) hr dX6_floor_44 (hK _ _ (Option.some.inj hF).symm)
  · have hF := it_t hF c5
    refine aw_iconst hC dX6_floor_13 (by decide) ?_
    exact aw_ireturn hC hZ (Nat.zero_le _) (Nat.zero_le _) hr dX6_floor_14 (hK _ _ (Option.some.inj hF).symm)
def fX6_barn (x1 : Int) (x2 : Int) (h : Hp) : Option (Int × Hp) :=
  lb_ (st h 35 0 0) (fun h1 => bd_ (fX6_isHouse x1 h1) (fun r2 h4 => (if r2 = 0 then some (0, h4) else bp_ (fX6_within x2 0 5 h4) (fun r6 => (if r6 = 0 then bd_ (fX6_refuses 1 ((-1)) h4) (fun r9 h11 => some (r9, h11)) else bd_ (fX6_becomes ((i_add 48 x1)) x2 h4) (fun r12 h14 => some (r12, h14)))))))
theorem ok_X6_barn {G : GD} {n : Nat} {x1 : Int} {x2 : Int} {h : Hp} {res : Int × Hp} (hF : fX6_barn x1 x2 h = some res) : Con G yX6_barn cX6_barn 3 (some .int) 2 0 0 true [(2, ((35 : Nat) : Int)), (0, x1), (0, x2)] n h (FQ 0 n res) := by
  refine con_of (pad := 0) (own := RX6) (plainFor_of_name (by decide)) rfl rfl ?_
  intro X hC hbt hr hnm hZ hRm hn0
  have hK : ∀ (x9 : Int) (h9 : Hp), res = (x9, h9) → FQ 0 n res (0, x9) n h9 := fun x9 h9 e => by subst e; exact ⟨rfl, rfl, rfl⟩
  unfold fX6_barn at hF
  show AW G X 0 [(2, ((35 : Nat) : Int)), (0, x1), (0, x2)] [] n h 0 0
  refine aw_aload_n hC dX6_barn_0 rfl ?_
  refine aw_iconst hC dX6_barn_1 (by decide) ?_
  obtain ⟨h1, eh1, hF⟩ := lb_some hF
  refine aw_p6i (k := 0) (a := 35) hC dX6_barn_2 lkRX6_129 (by decide) rfl rfl rfl rfl rfl (Or.inl ⟨hbt, by decide⟩) (fun _ => by decide) ?_
  refine aw_eqH eh1 ?_
  clear eh1
  refine aw_aload_n hC dX6_barn_5 rfl ?_
  refine aw_iload_n hC dX6_barn_6 rfl ?_
  obtain ⟨r2, h4, q3, hF⟩ := bd_some hF
  refine clRX6_407 hC hRm hbt dX6_barn_7 rfl rfl (by decide) (Nat.le_of_ble_eq_true rfl) (Nat.le_of_ble_eq_true rfl) (ok_X6_isHouse q3) ?_
  refine aw_if_ne (tgt := 15) hC dX6_barn_10 (by decide) (fun c5 => ?_) (fun c5 => ?_)
  · have hF := it_f hF c5
    refine aw_iload_n hC dX6_barn_15 rfl ?_
    refine aw_iconst hC dX6_barn_16 (by decide) ?_
    refine aw_iconst hC dX6_barn_17 (by decide) ?_
    obtain ⟨r6, q7, hF⟩ := bp_some hF
    refine clRX6_385 hC hRm hbt dX6_barn_18 (Nat.le_of_ble_eq_true rfl) (Nat.le_of_ble_eq_true rfl) (ok_X6_within q7) ?_
    refine aw_if_eq (tgt := 36) hC dX6_barn_21 (by decide) (fun c8 => ?_) (fun c8 => ?_)
    · have hF := it_t hF c8
      refine aw_aload_n hC dX6_barn_36 rfl ?_
      refine aw_iconst hC dX6_barn_37 (by decide) ?_
      refine aw_iconst hC dX6_barn_38 (by decide) ?_
      obtain ⟨r9, h11, q10, hF⟩ := bd_some hF
      refine clRX6_413 hC hRm hbt dX6_barn_39 rfl rfl (by decide) (Nat.le_of_ble_eq_true rfl) (Nat.le_of_ble_eq_true rfl) (ok_X6_refuses q10) ?_
      exact aw_ireturn hC hZ (Nat.zero_le _) (Nat.zero_le _) hr dX6_barn_42 (hK _ _ (Option.some.inj hF).symm)
    · have hF := it_f hF c8
      refine aw_aload_n hC dX6_barn_24 rfl ?_
      refine aw_bipush hC dX6_barn_25 (by decide) (by decide) ?_
      refine aw_iload_n hC dX6_barn_27 rfl ?_
      refine aw_iadd hC dX6_barn_28 ?_
      refine aw_iload_n hC dX6_barn_29 rfl ?_
      obtain ⟨r12, h14, q13, hF⟩ := bd_some hF
      refine clRX6_425 hC hRm hbt dX6_barn_30 rfl rfl (by decide) (Nat.le_of_ble_eq_true rfl) (Nat.le_of_ble_eq_true rfl) (ok_X6_becomes q13) ?_
      refine aw_goto (tgt := 42) hC dX6_barn_33 (by decide) ?_
      exact aw_ireturn hC hZ (Nat.zero_le _) (Nat.zero_le _) hr dX6_barn_42 (hK _ _ (Option.some.inj hF).symm)
  · have hF := it_t hF c5
    refine aw_iconst hC dX6_barn_13 (by decide) ?_
    exact aw_ireturn hC hZ (Nat.zero_le _) (Nat.zero_le _) hr dX6_barn_14 (hK _ _ (Option.some.inj hF).symm)
def fX6_sell (x1 : Int) (x2 : Int) (h : Hp) : Option (Int × Hp) :=
  lb_ (st h 35 0 0) (fun h1 => bd_ (fX6_isHouse x1 h1) (fun r2 h4 => (if r2 = 0 then some (0, h4) else bd_ (fX6_isWhat x2 7 h4) (fun r6 h8 => (if r6 = 0 then some (0, h8) else gd_ (0 ≤ (i_add 54 x1) ∧ (i_add 54 x1) < 62) ((if (i_and ((i_shr ((h8 54 (Int.toNat ((i_add 54 x1))))) x2)) 1) = 1 then bd_ (fX6_refuses 1 0 h8) (fun r16 h18 => (if r16 ≤ 0 then some (0, h18) else some (1, h18))) else gd_ (0 ≤ (i_add 54 x1) ∧ (i_add 54 x1) < 62) (bd_ (fX6_becomes ((i_add 54 x1)) ((i_or ((h8 54 (Int.toNat ((i_add 54 x1))))) ((i_shl 1 x2)))) h8) (fun r13 h15 => some (1, h15))))))))))
theorem ok_X6_sell {G : GD} {n : Nat} {x1 : Int} {x2 : Int} {h : Hp} {res : Int × Hp} (hF : fX6_sell x1 x2 h = some res) : Con G yX6_sell cX6_sell 3 (some .boolean) 2 0 0 true [(2, ((35 : Nat) : Int)), (0, x1), (0, x2)] n h (FQ 0 n res) := by
  refine con_of (pad := 0) (own := RX6) (plainFor_of_name (by decide)) rfl rfl ?_
  intro X hC hbt hr hnm hZ hRm hn0
  have hK : ∀ (x9 : Int) (h9 : Hp), res = (x9, h9) → FQ 0 n res (0, x9) n h9 := fun x9 h9 e => by subst e; exact ⟨rfl, rfl, rfl⟩
  unfold fX6_sell at hF
  show AW G X 0 [(2, ((35 : Nat) : Int)), (0, x1), (0, x2)] [] n h 0 0
  refine aw_aload_n hC dX6_sell_0 rfl ?_
  refine aw_iconst hC dX6_sell_1 (by decide) ?_
  obtain ⟨h1, eh1, hF⟩ := lb_some hF
  refine aw_p6i (k := 0) (a := 35) hC dX6_sell_2 lkRX6_129 (by decide) rfl rfl rfl rfl rfl (Or.inl ⟨hbt, by decide⟩) (fun _ => by decide) ?_
  refine aw_eqH eh1 ?_
  clear eh1
  refine aw_aload_n hC dX6_sell_5 rfl ?_
  refine aw_iload_n hC dX6_sell_6 rfl ?_
  obtain ⟨r2, h4, q3, hF⟩ := bd_some hF
  refine clRX6_407 hC hRm hbt dX6_sell_7 rfl rfl (by decide) (Nat.le_of_ble_eq_true rfl) (Nat.le_of_ble_eq_true rfl) (ok_X6_isHouse q3) ?_
  refine aw_if_eq (tgt := 23) hC dX6_sell_10 (by decide) (fun c5 => ?_) (fun c5 => ?_)
  · have hF := it_t hF c5
    refine aw_iconst hC dX6_sell_23 (by decide) ?_
    exact aw_zreturn hC hZ (Nat.zero_le _) (Nat.zero_le _) hr rfl dX6_sell_24 (by decide) (hK _ _ (Option.some.inj hF).symm)
  · have hF := it_f hF c5
    refine aw_aload_n hC dX6_sell_13 rfl ?_
    refine aw_iload_n hC dX6_sell_14 rfl ?_
    refine aw_bipush hC dX6_sell_15 (by decide) (by decide) ?_
    obtain ⟨r6, h8, q7, hF⟩ := bd_some hF
    refine clRX6_398 hC hRm hbt dX6_sell_17 rfl rfl (by decide) (Nat.le_of_ble_eq_true rfl) (Nat.le_of_ble_eq_true rfl) (ok_X6_isWhat q7) ?_
    refine aw_if_ne (tgt := 25) hC dX6_sell_20 (by decide) (fun c9 => ?_) (fun c9 => ?_)
    · have hF := it_f hF c9
      refine aw_aload_n hC dX6_sell_25 rfl ?_
      refine aw_gc6 (k := 46) (a := 35) (b := 54) hC hbt dX6_sell_26 lkRX6_75 (by decide) rfl rfl rfl (by decide) (by decide) ?_
      refine aw_bipush hC dX6_sell_29 (by decide) (by decide) ?_
      refine aw_iload_n hC dX6_sell_31 rfl ?_
      refine aw_iadd hC dX6_sell_32 ?_
      obtain ⟨g10, hF⟩ := gd_some hF
      refine aw_iaload (a := 54) hC dX6_sell_33 rfl rfl (Or.inl ⟨hbt, by decide⟩) g10.1 g10.2 ?_
      refine aw_iload_n hC dX6_sell_34 rfl ?_
      refine aw_ishr hC dX6_sell_35 ?_
      refine aw_iconst hC dX6_sell_36 (by decide) ?_
      refine aw_iand hC dX6_sell_37 ?_
      refine aw_iconst hC dX6_sell_38 (by decide) ?_
      refine aw_icmp_ne (tgt := 57) hC dX6_sell_39 (by decide) (fun c11 => ?_) (fun c11 => ?_)
      · have hF := it_f hF c11
        refine aw_aload_n hC dX6_sell_57 rfl ?_
        refine aw_bipush hC dX6_sell_58 (by decide) (by decide) ?_
        refine aw_iload_n hC dX6_sell_60 rfl ?_
        refine aw_iadd hC dX6_sell_61 ?_
        refine aw_aload_n hC dX6_sell_62 rfl ?_
        refine aw_gc6 (k := 46) (a := 35) (b := 54) hC hbt dX6_sell_63 lkRX6_75 (by decide) rfl rfl rfl (by decide) (by decide) ?_
        refine aw_bipush hC dX6_sell_66 (by decide) (by decide) ?_
        refine aw_iload_n hC dX6_sell_68 rfl ?_
        refine aw_iadd hC dX6_sell_69 ?_
        obtain ⟨g12, hF⟩ := gd_some hF
        refine aw_iaload (a := 54) hC dX6_sell_70 rfl rfl (Or.inl ⟨hbt, by decide⟩) g12.1 g12.2 ?_
        refine aw_iconst hC dX6_sell_71 (by decide) ?_
        refine aw_iload_n hC dX6_sell_72 rfl ?_
        refine aw_ishl hC dX6_sell_73 ?_
        refine aw_ior hC dX6_sell_74 ?_
        obtain ⟨r13, h15, q14, hF⟩ := bd_some hF
        refine clRX6_425 hC hRm hbt dX6_sell_75 rfl rfl (by decide) (Nat.le_of_ble_eq_true rfl) (Nat.le_of_ble_eq_true rfl) (ok_X6_becomes q14) ?_
        refine aw_pop hC dX6_sell_78 (by simp) ?_
        refine aw_iconst hC dX6_sell_79 (by decide) ?_
        exact aw_zreturn hC hZ (Nat.zero_le _) (Nat.zero_le _) hr rfl dX6_sell_80 (by decide) (hK _ _ (Option.some.inj hF).symm)
      · have hF := it_t hF c11
        refine aw_aload_n hC dX6_sell_42 rfl ?_
        refine aw_iconst hC dX6_sell_43 (by decide) ?_
        refine aw_iconst hC dX6_sell_44 (by decide) ?_
        obtain ⟨r16, h18, q17, hF⟩ := bd_some hF
        refine clRX6_413 hC hRm hbt dX6_sell_45 rfl rfl (by decide) (Nat.le_of_ble_eq_true rfl) (Nat.le_of_ble_eq_true rfl) (ok_X6_refuses q17) ?_
        refine aw_if_le (tgt := 55) hC dX6_sell_48 (by decide) (fun c19 => ?_) (fun c19 => ?_)
        · have hF := it_t hF c19
          refine aw_iconst hC dX6_sell_55 (by decide) ?_
          exact aw_zreturn hC hZ (Nat.zero_le _) (Nat.zero_le _) hr rfl dX6_sell_56 (by decide) (hK _ _ (Option.some.inj hF).symm)
        · have hF := it_f hF c19
          refine aw_iconst hC dX6_sell_51 (by decide) ?_
          refine aw_goto (tgt := 56) hC dX6_sell_52 (by decide) ?_
          exact aw_zreturn hC hZ (Nat.zero_le _) (Nat.zero_le _) hr rfl dX6_sell_56 (by decide) (hK _ _ (Option.some.inj hF).symm)
    · have hF := it_t hF c9
      refine aw_iconst hC dX6_sell_23 (by decide) ?_
      exact aw_zreturn hC hZ (Nat.zero_le _) (Nat.zero_le _) hr rfl dX6_sell_24 (by decide) (hK _ _ (Option.some.inj hF).symm)
def fX6_obey_j18  (h : Hp) : Option (Int × Hp) :=
  bd_ (fX6_refuses 1 0 h) (fun r3 h5 => (if r3 ≤ 0 then some (0, h5) else some (1, h5)))
def fX6_obey (x1 : Int) (h : Hp) : Option (Int × Hp) :=
  lb_ (st h 35 0 0) (fun h1 => (if x1 < (-1) then fX6_obey_j18 h1 else (if x1 < (h1 35 4) then bd_ (fX6_becomes 60 x1 h1) (fun r8 h10 => some (1, h10)) else fX6_obey_j18 h1)))
theorem fX6_obey_j18_ok {G : GD} {X : CX} {n : Nat} {Q : Av → Nat → Hp → Prop} (hC : Cx G X RX6 cX6_obey) (hZ : ZOK X G Q 0 0) (hRm : X.R = rmd 2 0 0) (hbt : X.bt = true) (hr : X.meth.sig.returnType = (some .boolean))  {h : Hp} {res : Int × Hp} (hF : fX6_obey_j18  h = some res) (hK : ∀ (x9 : Int) (h9 : Hp), res = (x9, h9) → Q (0, x9) n h9) : AW G X 18 [(2, ((35 : Nat) : Int)), (9, 0)] [] n h 0 0 := by
  unfold fX6_obey_j18 at hF
  refine aw_aload_n hC dX6_obey_18 rfl ?_
  refine aw_iconst hC dX6_obey_19 (by decide) ?_
  refine aw_iconst hC dX6_obey_20 (by decide) ?_
  obtain ⟨r3, h5, q4, hF⟩ := bd_some hF
  refine clRX6_413 hC hRm hbt dX6_obey_21 rfl rfl (by decide) (Nat.le_of_ble_eq_true rfl) (Nat.le_of_ble_eq_true rfl) (ok_X6_refuses q4) ?_
  refine aw_if_le (tgt := 31) hC dX6_obey_24 (by decide) (fun c6 => ?_) (fun c6 => ?_)
  · have hF := it_t hF c6
    refine aw_iconst hC dX6_obey_31 (by decide) ?_
    exact aw_zreturn hC hZ (Nat.zero_le _) (Nat.zero_le _) hr rfl dX6_obey_32 (by decide) (hK _ _ (Option.some.inj hF).symm)
  · have hF := it_f hF c6
    refine aw_iconst hC dX6_obey_27 (by decide) ?_
    refine aw_goto (tgt := 32) hC dX6_obey_28 (by decide) ?_
    exact aw_zreturn hC hZ (Nat.zero_le _) (Nat.zero_le _) hr rfl dX6_obey_32 (by decide) (hK _ _ (Option.some.inj hF).symm)
theorem ok_X6_obey {G : GD} {n : Nat} {x1 : Int} {h : Hp} {res : Int × Hp} (hF : fX6_obey x1 h = some res) : Con G yX6_obey cX6_obey 2 (some .boolean) 2 0 0 true [(2, ((35 : Nat) : Int)), (0, x1)] n h (FQ 0 n res) := by
  refine con_of (pad := 0) (own := RX6) (plainFor_of_name (by decide)) rfl rfl ?_
  intro X hC hbt hr hnm hZ hRm hn0
  have hK : ∀ (x9 : Int) (h9 : Hp), res = (x9, h9) → FQ 0 n res (0, x9) n h9 := fun x9 h9 e => by subst e; exact ⟨rfl, rfl, rfl⟩
  unfold fX6_obey at hF
  show AW G X 0 [(2, ((35 : Nat) : Int)), (0, x1)] [] n h 0 0
  refine aw_aload_n hC dX6_obey_0 rfl ?_
  refine aw_iconst hC dX6_obey_1 (by decide) ?_
  obtain ⟨h1, eh1, hF⟩ := lb_some hF
  refine aw_p6i (k := 0) (a := 35) hC dX6_obey_2 lkRX6_129 (by decide) rfl rfl rfl rfl rfl (Or.inl ⟨hbt, by decide⟩) (fun _ => by decide) ?_
  refine aw_eqH eh1 ?_
  clear eh1
  refine aw_iload_n hC dX6_obey_5 rfl ?_
  refine aw_iconst hC dX6_obey_6 (by decide) ?_
  refine aw_icmp_lt (tgt := 18) hC dX6_obey_7 (by decide) (fun c2 => ?_) (fun c2 => ?_)
  · have hF := it_t hF c2
    refine aw_weak (ls' := [(2, ((35 : Nat) : Int)), (9, 0)]) ⟨Or.inr rfl, Or.inl rfl, trivial⟩ ?_
    exact fX6_obey_j18_ok hC hZ hRm hbt hr hF hK
  · have hF := it_f hF c2
    refine aw_iload_n hC dX6_obey_10 rfl ?_
    refine aw_aload_n hC dX6_obey_11 rfl ?_
    refine aw_g6i (k := 4) (a := 35) hC dX6_obey_12 lkRX6_300 (by decide) rfl rfl rfl (Or.inl ⟨hbt, by decide⟩) ?_
    refine aw_icmp_lt (tgt := 33) hC dX6_obey_15 (by decide) (fun c7 => ?_) (fun c7 => ?_)
    · have hF := it_t hF c7
      refine aw_aload_n hC dX6_obey_33 rfl ?_
      refine aw_bipush hC dX6_obey_34 (by decide) (by decide) ?_
      refine aw_iload_n hC dX6_obey_36 rfl ?_
      obtain ⟨r8, h10, q9, hF⟩ := bd_some hF
      refine clRX6_425 hC hRm hbt dX6_obey_37 rfl rfl (by decide) (Nat.le_of_ble_eq_true rfl) (Nat.le_of_ble_eq_true rfl) (ok_X6_becomes q9) ?_
      refine aw_pop hC dX6_obey_40 (by simp) ?_
      refine aw_iconst hC dX6_obey_41 (by decide) ?_
      exact aw_zreturn hC hZ (Nat.zero_le _) (Nat.zero_le _) hr rfl dX6_obey_42 (by decide) (hK _ _ (Option.some.inj hF).symm)
    · have hF := it_f hF c7
      refine aw_weak (ls' := [(2, ((35 : Nat) : Int)), (9, 0)]) ⟨Or.inr rfl, Or.inl rfl, trivial⟩ ?_
      exact fX6_obey_j18_ok hC hZ hRm hbt hr hF hK
def fX6_arePaying_l6 (x1 : Int) (x2 : Int) (x3 : Int) (h : Hp) : Option ((Int × Hp) ⊕ ((Hp) ⊕ (Int × Hp))) :=
  (if (h 35 3) ≤ x3 then some (.inr (.inl h)) else (if (i_and ((i_shr x1 x3)) 1) = 1 then bd_ (fX6_taxOf x3 h) (fun r7 h9 => (if r7 ≤ x2 then some (.inl ((i_add x3 1), h9)) else some (.inr (.inr (0, h9))))) else some (.inl ((i_add x3 1), h))))
def fX6_arePaying (x1 : Int) (x2 : Int) (h : Hp) : Option (Int × Hp) :=
  bd_ (fX6_laysOut h) (fun r1 h3 => bp_ (it_ (fun s => fX6_arePaying_l6 x1 x2 s.1 s.2) FU (0, h3)) (fun e12 => match e12 with | .inl e12 => (fun h13 => some (1, h13)) e12 | .inr q9 => some q9))
theorem fX6_arePaying_l6_ok {G : GD} {X : CX} {n : Nat} {Q : Av → Nat → Hp → Prop} (hC : Cx G X RX6 cX6_arePaying) (hZ : ZOK X G Q 0 0) (hRm : X.R = rmd 6 0 0) (hbt : X.bt = true) (hr : X.meth.sig.returnType = (some .boolean)) {x1 : Int} {x2 : Int} : ∀ (f : Nat) (x3 : Int) (h : Hp) (r : (Hp) ⊕ (Int × Hp)), it_ (fun s => fX6_arePaying_l6 x1 x2 s.1 s.2) f (x3, h) = some r → (∀ (h9 : Hp), r = (.inl h9) → AW G X 40 [(9, 0), (9, 0), (9, 0), (9, 0)] [] n h9 0 0) → (∀ (x9 : Int) (h9 : Hp), r = .inr (x9, h9) → Q (0, x9) n h9) → AW G X 6 [(2, ((35 : Nat) : Int)), (0, x1), (0, x2), (0, x3)] [] n h 0 0 := by
  intro f
  induction f with
  | zero => intro x3 h r hI; cases hI
  | succ f ih0 =>
    intro x3 h r hI hX hRet9
    obtain ⟨b, hF, hb1, hb2⟩ := it_succ hI
    have hF : fX6_arePaying_l6 x1 x2 x3 h = some b := hF
    have hRet : ∀ (x9 : Int) (h9 : Hp), b = .inr (.inr (x9, h9)) → Q (0, x9) n h9 := fun x9 h9 e => hRet9 x9 h9 (hb2 _ e).symm
    unfold fX6_arePaying_l6 at hF
    refine aw_iload_n hC dX6_arePaying_6 rfl ?_
    refine aw_aload_n hC dX6_arePaying_7 rfl ?_
    refine aw_g6i (k := 3) (a := 35) hC dX6_arePaying_8 lkRX6_297 (by decide) rfl rfl rfl (Or.inl ⟨hbt, by decide⟩) ?_
    refine aw_icmp_ge (tgt := 40) hC dX6_arePaying_11 (by decide) (fun c4 => ?_) (fun c4 => ?_)
    · have hF := it_t hF c4
      refine aw_weak (ls' := [(9, 0), (9, 0), (9, 0), (9, 0)]) ⟨Or.inl rfl, Or.inl rfl, Or.inl rfl, Or.inl rfl, trivial⟩ ?_
      exact hX _ (hb2 _ (Option.some.inj hF).symm).symm
    · have hF := it_f hF c4
      refine aw_iload_n hC dX6_arePaying_14 rfl ?_
      refine aw_iload_n hC dX6_arePaying_15 rfl ?_
      refine aw_ishr hC dX6_arePaying_16 ?_
      refine aw_iconst hC dX6_arePaying_17 (by decide) ?_
      refine aw_iand hC dX6_arePaying_18 ?_
      refine aw_iconst hC dX6_arePaying_19 (by decide) ?_
      refine aw_icmp_ne (tgt := 34) hC dX6_arePaying_20 (by decide) (fun c5 => ?_) (fun c5 => ?_)
      · have hF := it_f hF c5
        refine aw_iinc3 hC dX6_arePaying_34 rfl ?_
        refine aw_goto (tgt := 6) hC dX6_arePaying_37 (by decide) ?_
        exact ih0 _ _ r (hb1 _ (Option.some.inj hF).symm) hX hRet9
      · have hF := it_t hF c5
        refine aw_aload_n hC dX6_arePaying_23 rfl ?_
        refine aw_iload_n hC dX6_arePaying_24 rfl ?_
        obtain ⟨r7, h9, q8, hF⟩ := bd_some hF
        refine clRX6_410 hC hRm hbt dX6_arePaying_25 rfl rfl (by decide) (Nat.le_of_ble_eq_true rfl) (Nat.le_of_ble_eq_true rfl) (ok_X6_taxOf q8) ?_
        refine aw_iload_n hC dX6_arePaying_28 rfl ?_
        refine aw_icmp_le (tgt := 34) hC dX6_arePaying_29 (by decide) (fun c10 => ?_) (fun c10 => ?_)
        · have hF := it_t hF c10
          refine aw_iinc3 hC dX6_arePaying_34 rfl ?_
          refine aw_goto (tgt := 6) hC dX6_arePaying_37 (by decide) ?_
          exact ih0 _ _ r (hb1 _ (Option.some.inj hF).symm) hX hRet9
        · have hF := it_f hF c10
          refine aw_iconst hC dX6_arePaying_32 (by decide) ?_
          exact aw_zreturn hC hZ (Nat.zero_le _) (Nat.zero_le _) hr rfl dX6_arePaying_33 (by decide) (hRet _ _ (Option.some.inj hF).symm)
theorem ok_X6_arePaying {G : GD} {n : Nat} {x1 : Int} {x2 : Int} {h : Hp} {res : Int × Hp} (hF : fX6_arePaying x1 x2 h = some res) : Con G yX6_arePaying cX6_arePaying 4 (some .boolean) 6 0 0 true [(2, ((35 : Nat) : Int)), (0, x1), (0, x2)] n h (FQ 0 n res) := by
  refine con_of (pad := 1) (own := RX6) (plainFor_of_name (by decide)) rfl rfl ?_
  intro X hC hbt hr hnm hZ hRm hn0
  have hK : ∀ (x9 : Int) (h9 : Hp), res = (x9, h9) → FQ 0 n res (0, x9) n h9 := fun x9 h9 e => by subst e; exact ⟨rfl, rfl, rfl⟩
  unfold fX6_arePaying at hF
  show AW G X 0 [(2, ((35 : Nat) : Int)), (0, x1), (0, x2), (9, 0)] [] n h 0 0
  refine aw_aload_n hC dX6_arePaying_0 rfl ?_
  obtain ⟨r1, h3, q2, hF⟩ := bd_some hF
  refine clRX6_379 hC hRm hbt dX6_arePaying_1 rfl rfl (by decide) (Nat.le_of_ble_eq_true rfl) (Nat.le_of_ble_eq_true rfl) (ok_X6_laysOut q2) ?_
  refine aw_iconst hC dX6_arePaying_4 (by decide) ?_
  refine aw_istore3 hC dX6_arePaying_5 rfl ?_
  obtain ⟨e12, he, hF⟩ := bp_some hF
  refine fX6_arePaying_l6_ok hC hZ hRm hbt hr FU _ _ e12 he (fun h13 er => ?_) (fun x9 h9 e => by subst e; exact hK _ _ (Option.some.inj hF).symm)
  replace er := er.symm
  subst er
  try dsimp only at hF
  refine aw_iconst hC dX6_arePaying_40 (by decide) ?_
  exact aw_zreturn hC hZ (Nat.zero_le _) (Nat.zero_le _) hr rfl dX6_arePaying_41 (by decide) (hK _ _ (Option.some.inj hF).symm)
def fX6_firsFor_l13 (x1 : Int) (x2 : Int) (x3 : Int) (h : Hp) : Option ((Int × Hp) ⊕ ((Hp) ⊕ (Int × Hp))) :=
  bp_ (fX6_cells h) (fun r5 => (if r5 ≤ x3 then some (.inr (.inl h)) else lb_ (st h 35 52 x3) (fun h8 => bp_ (fX6_isBare x3 h8) (fun r9 => (if r9 = 0 then some (.inl ((i_add x3 1), h8)) else bd_ (fX6_arePaying x1 x2 h8) (fun r13 h15 => (if r13 = 0 then some (.inl ((i_add x3 1), h15)) else some (.inr (.inr (1, h15))))))))))
def fX6_firsFor_l66 (x1 : Int) (x2 : Int) (x3 : Int) (x4 : Int) (h : Hp) : Option ((Int × Hp) ⊕ ((Hp) ⊕ (Int × Hp))) :=
  bp_ (fX6_cells h) (fun r24 => (if r24 ≤ x4 then some (.inr (.inl h)) else bp_ (fX6_isBare x3 h) (fun r27 => (if r27 = 0 then some (.inr (.inl h)) else lb_ (st h 35 52 x3) (fun h30 => lb_ (st h30 35 53 x4) (fun h31 => bp_ (fX6_isBare x4 h31) (fun r32 => (if r32 = 0 then some (.inl ((i_add x4 1), h31)) else bd_ (fX6_arePaying x1 x2 h31) (fun r36 h38 => (if r36 = 0 then some (.inl ((i_add x4 1), h38)) else some (.inr (.inr (2, h38)))))))))))))
def fX6_firsFor_l53 (x1 : Int) (x2 : Int) (x3 : Int) (h : Hp) : Option ((Int × Hp) ⊕ ((Hp) ⊕ (Int × Hp))) :=
  bp_ (fX6_cells h) (fun r20 => (if r20 ≤ x3 then some (.inr (.inl h)) else lb_ ((i_add x3 1)) (fun v23 => bp_ (it_ (fun s => fX6_firsFor_l66 x1 x2 x3 s.1 s.2) FU (v23, h)) (fun e41 => match e41 with | .inl e41 => (fun h42 => some (.inl ((i_add x3 1), h42))) e41 | .inr q9 => some (.inr (.inr q9))))))
def fX6_firsFor (x1 : Int) (x2 : Int) (h : Hp) : Option (Int × Hp) :=
  bd_ (fX6_arePaying x1 x2 h) (fun r1 h3 => (if r1 = 0 then bp_ (it_ (fun s => fX6_firsFor_l13 x1 x2 s.1 s.2) FU (0, h3)) (fun e18 => match e18 with | .inl e18 => (fun h19 => bp_ (it_ (fun s => fX6_firsFor_l53 x1 x2 s.1 s.2) FU (0, h19)) (fun e44 => match e44 with | .inl e44 => (fun h45 => some ((-1), h45)) e44 | .inr q9 => some q9)) e18 | .inr q9 => some q9) else some (0, h3)))
theorem fX6_firsFor_l13_ok {G : GD} {X : CX} {n : Nat} {Q : Av → Nat → Hp → Prop} (hC : Cx G X RX6 cX6_firsFor) (hZ : ZOK X G Q 0 0) (hRm : X.R = rmd 7 0 0) (hbt : X.bt = true) (hr : X.meth.sig.returnType = (some .int)) {x1 : Int} {x2 : Int} : ∀ (f : Nat) (x3 : Int) (h : Hp) (r : (Hp) ⊕ (Int × Hp)), it_ (fun s => fX6_firsFor_l13 x1 x2 s.1 s.2) f (x3, h) = some r → (∀ (h9 : Hp), r = (.inl h9) → AW G X 51 [(2, ((35 : Nat) : Int)), (0, x1), (0, x2), (9, 0), (9, 0)] [] n h9 0 0) → (∀ (x9 : Int) (h9 : Hp), r = .inr (x9, h9) → Q (0, x9) n h9) → AW G X 13 [(2, ((35 : Nat) : Int)), (0, x1), (0, x2), (0, x3), (9, 0)] [] n h 0 0 := by
  intro f
  induction f with
  | zero => intro x3 h r hI; cases hI
  | succ f ih0 =>
    intro x3 h r hI hX hRet9
    obtain ⟨b, hF, hb1, hb2⟩ := it_succ hI
    have hF : fX6_firsFor_l13 x1 x2 x3 h = some b := hF
    have hRet : ∀ (x9 : Int) (h9 : Hp), b = .inr (.inr (x9, h9)) → Q (0, x9) n h9 := fun x9 h9 e => hRet9 x9 h9 (hb2 _ e).symm
    unfold fX6_firsFor_l13 at hF
    refine aw_iload_n hC dX6_firsFor_13 rfl ?_
    refine aw_aload_n hC dX6_firsFor_14 rfl ?_
    obtain ⟨r5, q6, hF⟩ := bp_some hF
    refine clRX6_323 hC hRm hbt dX6_firsFor_15 rfl rfl (by decide) (Nat.le_of_ble_eq_true rfl) (Nat.le_of_ble_eq_true rfl) (ok_X6_cells q6) ?_
    refine aw_icmp_ge (tgt := 51) hC dX6_firsFor_18 (by decide) (fun c7 => ?_) (fun c7 => ?_)
    · have hF := it_t hF c7
      refine aw_weak (ls' := [(2, ((35 : Nat) : Int)), (0, x1), (0, x2), (9, 0), (9, 0)]) ⟨Or.inr rfl, Or.inr rfl, Or.inr rfl, Or.inl rfl, Or.inl rfl, trivial⟩ ?_
      exact hX _ (hb2 _ (Option.some.inj hF).symm).symm
    · have hF := it_f hF c7
      refine aw_aload_n hC dX6_firsFor_21 rfl ?_
      refine aw_iload_n hC dX6_firsFor_22 rfl ?_
      obtain ⟨h8, eh8, hF⟩ := lb_some hF
      refine aw_p6i (k := 52) (a := 35) hC dX6_firsFor_23 lkRX6_90 (by decide) rfl rfl rfl rfl rfl (Or.inl ⟨hbt, by decide⟩) (fun _ => by decide) ?_
      refine aw_eqH eh8 ?_
      clear eh8
      refine aw_aload_n hC dX6_firsFor_26 rfl ?_
      refine aw_iload_n hC dX6_firsFor_27 rfl ?_
      obtain ⟨r9, q10, hF⟩ := bp_some hF
      refine clRX6_422 hC hRm hbt dX6_firsFor_28 rfl rfl (by decide) (Nat.le_of_ble_eq_true rfl) (Nat.le_of_ble_eq_true rfl) (ok_X6_isBare q10) ?_
      refine aw_if_eq (tgt := 45) hC dX6_firsFor_31 (by decide) (fun c11 => ?_) (fun c11 => ?_)
      · have hF := it_t hF c11
        refine aw_iinc3 hC dX6_firsFor_45 rfl ?_
        refine aw_goto (tgt := 13) hC dX6_firsFor_48 (by decide) ?_
        exact ih0 _ _ r (hb1 _ (Option.some.inj hF).symm) hX hRet9
      · have hF := it_f hF c11
        refine aw_aload_n hC dX6_firsFor_34 rfl ?_
        refine aw_iload_n hC dX6_firsFor_35 rfl ?_
        refine aw_iload_n hC dX6_firsFor_36 rfl ?_
        obtain ⟨r13, h15, q14, hF⟩ := bd_some hF
        refine clRX6_428 hC hRm hbt dX6_firsFor_37 rfl rfl (by decide) (Nat.le_of_ble_eq_true rfl) (Nat.le_of_ble_eq_true rfl) (ok_X6_arePaying q14) ?_
        refine aw_if_eq (tgt := 45) hC dX6_firsFor_40 (by decide) (fun c16 => ?_) (fun c16 => ?_)
        · have hF := it_t hF c16
          refine aw_iinc3 hC dX6_firsFor_45 rfl ?_
          refine aw_goto (tgt := 13) hC dX6_firsFor_48 (by decide) ?_
          exact ih0 _ _ r (hb1 _ (Option.some.inj hF).symm) hX hRet9
        · have hF := it_f hF c16
          refine aw_iconst hC dX6_firsFor_43 (by decide) ?_
          exact aw_ireturn hC hZ (Nat.zero_le _) (Nat.zero_le _) hr dX6_firsFor_44 (hRet _ _ (Option.some.inj hF).symm)
theorem fX6_firsFor_l66_ok {G : GD} {X : CX} {n : Nat} {Q : Av → Nat → Hp → Prop} (hC : Cx G X RX6 cX6_firsFor) (hZ : ZOK X G Q 0 0) (hRm : X.R = rmd 7 0 0) (hbt : X.bt = true) (hr : X.meth.sig.returnType = (some .int)) {x1 : Int} {x2 : Int} {x3 : Int} : ∀ (f : Nat) (x4 : Int) (h : Hp) (r : (Hp) ⊕ (Int × Hp)), it_ (fun s => fX6_firsFor_l66 x1 x2 x3 s.1 s.2) f (x4, h) = some r → (∀ (h9 : Hp), r = (.inl h9) → AW G X 120 [(2, ((35 : Nat) : Int)), (0, x1), (0, x2), (0, x3), (9, 0)] [] n h9 0 0) → (∀ (x9 : Int) (h9 : Hp), r = .inr (x9, h9) → Q (0, x9) n h9) → AW G X 66 [(2, ((35 : Nat) : Int)), (0, x1), (0, x2), (0, x3), (0, x4)] [] n h 0 0 := by
  intro f
  induction f with
  | zero => intro x4 h r hI; cases hI
  | succ f ih0 =>
    intro x4 h r hI hX hRet9
    obtain ⟨b, hF, hb1, hb2⟩ := it_succ hI
    have hF : fX6_firsFor_l66 x1 x2 x3 x4 h = some b := hF
    have hRet : ∀ (x9 : Int) (h9 : Hp), b = .inr (.inr (x9, h9)) → Q (0, x9) n h9 := fun x9 h9 e => hRet9 x9 h9 (hb2 _ e).symm
    unfold fX6_firsFor_l66 at hF
    refine aw_iload hC dX6_firsFor_66 rfl ?_
    refine aw_aload_n hC dX6_firsFor_68 rfl ?_
    obtain ⟨r24, q25, hF⟩ := bp_some hF
    refine clRX6_323 hC hRm hbt dX6_firsFor_69 rfl rfl (by decide) (Nat.le_of_ble_eq_true rfl) (Nat.le_of_ble_eq_true rfl) (ok_X6_cells q25) ?_
    refine aw_icmp_ge (tgt := 120) hC dX6_firsFor_72 (by decide) (fun c26 => ?_) (fun c26 => ?_)
    · have hF := it_t hF c26
      refine aw_weak (ls' := [(2, ((35 : Nat) : Int)), (0, x1), (0, x2), (0, x3), (9, 0)]) ⟨Or.inr rfl, Or.inr rfl, Or.inr rfl, Or.inr rfl, Or.inl rfl, trivial⟩ ?_
      exact hX _ (hb2 _ (Option.some.inj hF).symm).symm
    · have hF := it_f hF c26
      refine aw_aload_n hC dX6_firsFor_75 rfl ?_
      refine aw_iload_n hC dX6_firsFor_76 rfl ?_
      obtain ⟨r27, q28, hF⟩ := bp_some hF
      refine clRX6_422 hC hRm hbt dX6_firsFor_77 rfl rfl (by decide) (Nat.le_of_ble_eq_true rfl) (Nat.le_of_ble_eq_true rfl) (ok_X6_isBare q28) ?_
      refine aw_if_eq (tgt := 120) hC dX6_firsFor_80 (by decide) (fun c29 => ?_) (fun c29 => ?_)
      · have hF := it_t hF c29
        refine aw_weak (ls' := [(2, ((35 : Nat) : Int)), (0, x1), (0, x2), (0, x3), (9, 0)]) ⟨Or.inr rfl, Or.inr rfl, Or.inr rfl, Or.inr rfl, Or.inl rfl, trivial⟩ ?_
        exact hX _ (hb2 _ (Option.some.inj hF).symm).symm
      · have hF := it_f hF c29
        refine aw_aload_n hC dX6_firsFor_83 rfl ?_
        refine aw_iload_n hC dX6_firsFor_84 rfl ?_
        obtain ⟨h30, eh30, hF⟩ := lb_some hF
        refine aw_p6i (k := 52) (a := 35) hC dX6_firsFor_85 lkRX6_90 (by decide) rfl rfl rfl rfl rfl (Or.inl ⟨hbt, by decide⟩) (fun _ => by decide) ?_
        refine aw_eqH eh30 ?_
        clear eh30
        refine aw_aload_n hC dX6_firsFor_88 rfl ?_
        refine aw_iload hC dX6_firsFor_89 rfl ?_
        obtain ⟨h31, eh31, hF⟩ := lb_some hF
        refine aw_p6i (k := 53) (a := 35) hC dX6_firsFor_91 lkRX6_93 (by decide) rfl rfl rfl rfl rfl (Or.inl ⟨hbt, by decide⟩) (fun _ => by decide) ?_
        refine aw_eqH eh31 ?_
        clear eh31
        refine aw_aload_n hC dX6_firsFor_94 rfl ?_
        refine aw_iload hC dX6_firsFor_95 rfl ?_
        obtain ⟨r32, q33, hF⟩ := bp_some hF
        refine clRX6_422 hC hRm hbt dX6_firsFor_97 rfl rfl (by decide) (Nat.le_of_ble_eq_true rfl) (Nat.le_of_ble_eq_true rfl) (ok_X6_isBare q33) ?_
        refine aw_if_eq (tgt := 114) hC dX6_firsFor_100 (by decide) (fun c34 => ?_) (fun c34 => ?_)
        · have hF := it_t hF c34
          refine aw_iinc4 hC dX6_firsFor_114 rfl ?_
          refine aw_goto (tgt := 66) hC dX6_firsFor_117 (by decide) ?_
          exact ih0 _ _ r (hb1 _ (Option.some.inj hF).symm) hX hRet9
        · have hF := it_f hF c34
          refine aw_aload_n hC dX6_firsFor_103 rfl ?_
          refine aw_iload_n hC dX6_firsFor_104 rfl ?_
          refine aw_iload_n hC dX6_firsFor_105 rfl ?_
          obtain ⟨r36, h38, q37, hF⟩ := bd_some hF
          refine clRX6_428 hC hRm hbt dX6_firsFor_106 rfl rfl (by decide) (Nat.le_of_ble_eq_true rfl) (Nat.le_of_ble_eq_true rfl) (ok_X6_arePaying q37) ?_
          refine aw_if_eq (tgt := 114) hC dX6_firsFor_109 (by decide) (fun c39 => ?_) (fun c39 => ?_)
          · have hF := it_t hF c39
            refine aw_iinc4 hC dX6_firsFor_114 rfl ?_
            refine aw_goto (tgt := 66) hC dX6_firsFor_117 (by decide) ?_
            exact ih0 _ _ r (hb1 _ (Option.some.inj hF).symm) hX hRet9
          · have hF := it_f hF c39
            refine aw_iconst hC dX6_firsFor_112 (by decide) ?_
            exact aw_ireturn hC hZ (Nat.zero_le _) (Nat.zero_le _) hr dX6_firsFor_113 (hRet _ _ (Option.some.inj hF).symm)
theorem fX6_firsFor_l53_ok {G : GD} {X : CX} {n : Nat} {Q : Av → Nat → Hp → Prop} (hC : Cx G X RX6 cX6_firsFor) (hZ : ZOK X G Q 0 0) (hRm : X.R = rmd 7 0 0) (hbt : X.bt = true) (hr : X.meth.sig.returnType = (some .int)) {x1 : Int} {x2 : Int} : ∀ (f : Nat) (x3 : Int) (h : Hp) (r : (Hp) ⊕ (Int × Hp)), it_ (fun s => fX6_firsFor_l53 x1 x2 s.1 s.2) f (x3, h) = some r → (∀ (h9 : Hp), r = (.inl h9) → AW G X 126 [(9, 0), (9, 0), (9, 0), (9, 0), (9, 0)] [] n h9 0 0) → (∀ (x9 : Int) (h9 : Hp), r = .inr (x9, h9) → Q (0, x9) n h9) → AW G X 53 [(2, ((35 : Nat) : Int)), (0, x1), (0, x2), (0, x3), (9, 0)] [] n h 0 0 := by
  intro f
  induction f with
  | zero => intro x3 h r hI; cases hI
  | succ f ih0 =>
    intro x3 h r hI hX hRet9
    obtain ⟨b, hF, hb1, hb2⟩ := it_succ hI
    have hF : fX6_firsFor_l53 x1 x2 x3 h = some b := hF
    have hRet : ∀ (x9 : Int) (h9 : Hp), b = .inr (.inr (x9, h9)) → Q (0, x9) n h9 := fun x9 h9 e => hRet9 x9 h9 (hb2 _ e).symm
    unfold fX6_firsFor_l53 at hF
    refine aw_iload_n hC dX6_firsFor_53 rfl ?_
    refine aw_aload_n hC dX6_firsFor_54 rfl ?_
    obtain ⟨r20, q21, hF⟩ := bp_some hF
    refine clRX6_323 hC hRm hbt dX6_firsFor_55 rfl rfl (by decide) (Nat.le_of_ble_eq_true rfl) (Nat.le_of_ble_eq_true rfl) (ok_X6_cells q21) ?_
    refine aw_icmp_ge (tgt := 126) hC dX6_firsFor_58 (by decide) (fun c22 => ?_) (fun c22 => ?_)
    · have hF := it_t hF c22
      refine aw_weak (ls' := [(9, 0), (9, 0), (9, 0), (9, 0), (9, 0)]) ⟨Or.inl rfl, Or.inl rfl, Or.inl rfl, Or.inl rfl, Or.inl rfl, trivial⟩ ?_
      exact hX _ (hb2 _ (Option.some.inj hF).symm).symm
    · have hF := it_f hF c22
      refine aw_iload_n hC dX6_firsFor_61 rfl ?_
      refine aw_iconst hC dX6_firsFor_62 (by decide) ?_
      refine aw_iadd hC dX6_firsFor_63 ?_
      obtain ⟨v23, ev23, hF⟩ := lb_some hF
      refine aw_eqT ev23 ?_
      clear ev23
      refine aw_istore4 hC dX6_firsFor_64 rfl ?_
      obtain ⟨e41, he, hF⟩ := bp_some hF
      refine fX6_firsFor_l66_ok hC hZ hRm hbt hr FU _ _ e41 he (fun h42 er => ?_) (fun x9 h9 e => by subst e; exact hRet _ _ (Option.some.inj hF).symm)
      replace er := er.symm
      subst er
      try dsimp only at hF
      refine aw_iinc3 hC dX6_firsFor_120 rfl ?_
      refine aw_goto (tgt := 53) hC dX6_firsFor_123 (by decide) ?_
      exact ih0 _ _ r (hb1 _ (Option.some.inj hF).symm) hX hRet9
theorem ok_X6_firsFor {G : GD} {n : Nat} {x1 : Int} {x2 : Int} {h : Hp} {res : Int × Hp} (hF : fX6_firsFor x1 x2 h = some res) : Con G yX6_firsFor cX6_firsFor 5 (some .int) 7 0 0 true [(2, ((35 : Nat) : Int)), (0, x1), (0, x2)] n h (FQ 0 n res) := by
  refine con_of (pad := 2) (own := RX6) (plainFor_of_name (by decide)) rfl rfl ?_
  intro X hC hbt hr hnm hZ hRm hn0
  have hK : ∀ (x9 : Int) (h9 : Hp), res = (x9, h9) → FQ 0 n res (0, x9) n h9 := fun x9 h9 e => by subst e; exact ⟨rfl, rfl, rfl⟩
  unfold fX6_firsFor at hF
  show AW G X 0 [(2, ((35 : Nat) : Int)), (0, x1), (0, x2), (9, 0), (9, 0)] [] n h 0 0
  refine aw_aload_n hC dX6_firsFor_0 rfl ?_
  refine aw_iload_n hC dX6_firsFor_1 rfl ?_
  refine aw_iload_n hC dX6_firsFor_2 rfl ?_
  obtain ⟨r1, h3, q2, hF⟩ := bd_some hF
  refine clRX6_428 hC hRm hbt dX6_firsFor_3 rfl rfl (by decide) (Nat.le_of_ble_eq_true rfl) (Nat.le_of_ble_eq_true rfl) (ok_X6_arePaying q2) ?_
  refine aw_if_eq (tgt := 11) hC dX6_firsFor_6 (by decide) (fun c4 => ?_) (fun c4 => ?_)
  · have hF := it_t hF c4
    refine aw_iconst hC dX6_firsFor_11 (by decide) ?_
    refine aw_istore3 hC dX6_firsFor_12 rfl ?_
    obtain ⟨e18, he, hF⟩ := bp_some hF
    refine fX6_firsFor_l13_ok hC hZ hRm hbt hr FU _ _ e18 he (fun h19 er => ?_) (fun x9 h9 e => by subst e; exact hK _ _ (Option.some.inj hF).symm)
    replace er := er.symm
    subst er
    try dsimp only at hF
    refine aw_iconst hC dX6_firsFor_51 (by decide) ?_
    refine aw_istore3 hC dX6_firsFor_52 rfl ?_
    obtain ⟨e44, he, hF⟩ := bp_some hF
    refine fX6_firsFor_l53_ok hC hZ hRm hbt hr FU _ _ e44 he (fun h45 er => ?_) (fun x9 h9 e => by subst e; exact hK _ _ (Option.some.inj hF).symm)
    replace er := er.symm
    subst er
    try dsimp only at hF
    refine aw_iconst hC dX6_firsFor_126 (by decide) ?_
    exact aw_ireturn hC hZ (Nat.zero_le _) (Nat.zero_le _) hr dX6_firsFor_127 (hK _ _ (Option.some.inj hF).symm)
  · have hF := it_f hF c4
    refine aw_iconst hC dX6_firsFor_9 (by decide) ?_
    exact aw_ireturn hC hZ (Nat.zero_le _) (Nat.zero_le _) hr dX6_firsFor_10 (hK _ _ (Option.some.inj hF).symm)
def fX6_firs_j82 (x3 : Int) (h : Hp) : Option (Int × Hp) :=
  lb_ (st h 35 52 ((-1))) (fun h11 => lb_ (st h11 35 53 ((-1))) (fun h12 => some (x3, h12)))
def fX6_firs_j36 (x1 : Int) (x2 : Int) (z0 : Int) (h : Hp) : Option (Int × Hp) :=
  bd_ (fX6_right z0 1 h) (fun r3 h5 => (if r3 = 0 then some (0, h5) else bd_ (fX6_firsFor x1 x2 h5) (fun r7 h9 => (if r7 = (-1) then fX6_firs_j82 r7 h9 else lb_ (st h9 35 59 r7) (fun h13 => gd_ (0 ≤ (0 : Int) ∧ (0 : Int) < 2) (lb_ (st h13 60 (Int.toNat 0) ((h13 35 52))) (fun h15 => gd_ (0 ≤ (1 : Int) ∧ (1 : Int) < 2) (lb_ (st h15 60 (Int.toNat 1) ((h15 35 53))) (fun h17 => fX6_firs_j82 r7 h17)))))))))
def fX6_firs_j35 (x1 : Int) (x2 : Int) (h : Hp) : Option (Int × Hp) :=
  fX6_firs_j36 x1 x2 0 h
def fX6_firs (x1 : Int) (x2 : Int) (h : Hp) : Option (Int × Hp) :=
  lb_ (st h 35 0 0) (fun h1 => (if x1 < 0 then fX6_firs_j35 x1 x2 h1 else (if (i_shl 1 ((h1 35 3))) ≤ x1 then fX6_firs_j35 x1 x2 h1 else bp_ (fX6_within x2 0 999 h1) (fun r19 => (if r19 = 0 then fX6_firs_j35 x1 x2 h1 else fX6_firs_j36 x1 x2 1 h1)))))
theorem fX6_firs_j82_ok {G : GD} {X : CX} {n : Nat} {Q : Av → Nat → Hp → Prop} (hC : Cx G X RX6 cX6_firs) (hZ : ZOK X G Q 0 0) (hRm : X.R = rmd 8 0 0) (hbt : X.bt = true) (hr : X.meth.sig.returnType = (some .int)) {x3 : Int} {h : Hp} {res : Int × Hp} (hF : fX6_firs_j82 x3 h = some res) (hK : ∀ (x9 : Int) (h9 : Hp), res = (x9, h9) → Q (0, x9) n h9) : AW G X 82 [(2, ((35 : Nat) : Int)), (9, 0), (9, 0), (0, x3)] [] n h 0 0 := by
  unfold fX6_firs_j82 at hF
  refine aw_aload_n hC dX6_firs_82 rfl ?_
  refine aw_iconst hC dX6_firs_83 (by decide) ?_
  obtain ⟨h11, eh11, hF⟩ := lb_some hF
  refine aw_p6i (k := 52) (a := 35) hC dX6_firs_84 lkRX6_90 (by decide) rfl rfl rfl rfl rfl (Or.inl ⟨hbt, by decide⟩) (fun _ => by decide) ?_
  refine aw_eqH eh11 ?_
  clear eh11
  refine aw_aload_n hC dX6_firs_87 rfl ?_
  refine aw_iconst hC dX6_firs_88 (by decide) ?_
  obtain ⟨h12, eh12, hF⟩ := lb_some hF
  refine aw_p6i (k := 53) (a := 35) hC dX6_firs_89 lkRX6_93 (by decide) rfl rfl rfl rfl rfl (Or.inl ⟨hbt, by decide⟩) (fun _ => by decide) ?_
  refine aw_eqH eh12 ?_
  clear eh12
  refine aw_iload_n hC dX6_firs_92 rfl ?_
  exact aw_ireturn hC hZ (Nat.zero_le _) (Nat.zero_le _) hr dX6_firs_93 (hK _ _ (Option.some.inj hF).symm)
theorem fX6_firs_j36_ok {G : GD} {X : CX} {n : Nat} {Q : Av → Nat → Hp → Prop} (hC : Cx G X RX6 cX6_firs) (hZ : ZOK X G Q 0 0) (hRm : X.R = rmd 8 0 0) (hbt : X.bt = true) (hr : X.meth.sig.returnType = (some .int)) {x1 : Int} {x2 : Int} {z0 : Int} {h : Hp} {res : Int × Hp} (hF : fX6_firs_j36 x1 x2 z0 h = some res) (hK : ∀ (x9 : Int) (h9 : Hp), res = (x9, h9) → Q (0, x9) n h9) : AW G X 36 [(2, ((35 : Nat) : Int)), (0, x1), (0, x2), (9, 0)] [(0, z0), (2, ((35 : Nat) : Int))] n h 0 0 := by
  unfold fX6_firs_j36 at hF
  refine aw_iconst hC dX6_firs_36 (by decide) ?_
  obtain ⟨r3, h5, q4, hF⟩ := bd_some hF
  refine clRX6_290 hC hRm hbt dX6_firs_37 rfl rfl (by decide) (Nat.le_of_ble_eq_true rfl) (Nat.le_of_ble_eq_true rfl) (ok_X6_right q4) ?_
  refine aw_if_ne (tgt := 45) hC dX6_firs_40 (by decide) (fun c6 => ?_) (fun c6 => ?_)
  · have hF := it_f hF c6
    refine aw_aload_n hC dX6_firs_45 rfl ?_
    refine aw_iload_n hC dX6_firs_46 rfl ?_
    refine aw_iload_n hC dX6_firs_47 rfl ?_
    obtain ⟨r7, h9, q8, hF⟩ := bd_some hF
    refine clRX6_431 hC hRm hbt dX6_firs_48 rfl rfl (by decide) (Nat.le_of_ble_eq_true rfl) (Nat.le_of_ble_eq_true rfl) (ok_X6_firsFor q8) ?_
    refine aw_istore3 hC dX6_firs_51 rfl ?_
    refine aw_iload_n hC dX6_firs_52 rfl ?_
    refine aw_iconst hC dX6_firs_53 (by decide) ?_
    refine aw_icmp_eq (tgt := 82) hC dX6_firs_54 (by decide) (fun c10 => ?_) (fun c10 => ?_)
    · have hF := it_t hF c10
      refine aw_weak (ls' := [(2, ((35 : Nat) : Int)), (9, 0), (9, 0), (0, r7)]) ⟨Or.inr rfl, Or.inl rfl, Or.inl rfl, Or.inr rfl, trivial⟩ ?_
      exact fX6_firs_j82_ok hC hZ hRm hbt hr hF hK
    · have hF := it_f hF c10
      refine aw_aload_n hC dX6_firs_57 rfl ?_
      refine aw_iload_n hC dX6_firs_58 rfl ?_
      obtain ⟨h13, eh13, hF⟩ := lb_some hF
      refine aw_p6i (k := 59) (a := 35) hC dX6_firs_59 lkRX6_102 (by decide) rfl rfl rfl rfl rfl (Or.inl ⟨hbt, by decide⟩) (fun _ => by decide) ?_
      refine aw_eqH eh13 ?_
      clear eh13
      refine aw_aload_n hC dX6_firs_62 rfl ?_
      refine aw_gc6 (k := 60) (a := 35) (b := 60) hC hbt dX6_firs_63 lkRX6_105 (by decide) rfl rfl rfl (by decide) (by decide) ?_
      refine aw_iconst hC dX6_firs_66 (by decide) ?_
      refine aw_aload_n hC dX6_firs_67 rfl ?_
      refine aw_g6i (k := 52) (a := 35) hC dX6_firs_68 lkRX6_90 (by decide) rfl rfl rfl (Or.inl ⟨hbt, by decide⟩) ?_
      obtain ⟨g14, hF⟩ := gd_some hF
      obtain ⟨h15, eh15, hF⟩ := lb_some hF
      refine aw_iastore (a := 60) hC dX6_firs_71 rfl rfl (Or.inl ⟨hbt, by decide⟩) g14.1 g14.2 ?_
      refine aw_eqH eh15 ?_
      clear eh15
      refine aw_aload_n hC dX6_firs_72 rfl ?_
      refine aw_gc6 (k := 60) (a := 35) (b := 60) hC hbt dX6_firs_73 lkRX6_105 (by decide) rfl rfl rfl (by decide) (by decide) ?_
      refine aw_iconst hC dX6_firs_76 (by decide) ?_
      refine aw_aload_n hC dX6_firs_77 rfl ?_
      refine aw_g6i (k := 53) (a := 35) hC dX6_firs_78 lkRX6_93 (by decide) rfl rfl rfl (Or.inl ⟨hbt, by decide⟩) ?_
      obtain ⟨g16, hF⟩ := gd_some hF
      obtain ⟨h17, eh17, hF⟩ := lb_some hF
      refine aw_iastore (a := 60) hC dX6_firs_81 rfl rfl (Or.inl ⟨hbt, by decide⟩) g16.1 g16.2 ?_
      refine aw_eqH eh17 ?_
      clear eh17
      refine aw_weak (ls' := [(2, ((35 : Nat) : Int)), (9, 0), (9, 0), (0, r7)]) ⟨Or.inr rfl, Or.inl rfl, Or.inl rfl, Or.inr rfl, trivial⟩ ?_
      exact fX6_firs_j82_ok hC hZ hRm hbt hr hF hK
  · have hF := it_t hF c6
    refine aw_iconst hC dX6_firs_43 (by decide) ?_
    exact aw_ireturn hC hZ (Nat.zero_le _) (Nat.zero_le _) hr dX6_firs_44 (hK _ _ (Option.some.inj hF).symm)
theorem fX6_firs_j35_ok {G : GD} {X : CX} {n : Nat} {Q : Av → Nat → Hp → Prop} (hC : Cx G X RX6 cX6_firs) (hZ : ZOK X G Q 0 0) (hRm : X.R = rmd 8 0 0) (hbt : X.bt = true) (hr : X.meth.sig.returnType = (some .int)) {x1 : Int} {x2 : Int} {h : Hp} {res : Int × Hp} (hF : fX6_firs_j35 x1 x2 h = some res) (hK : ∀ (x9 : Int) (h9 : Hp), res = (x9, h9) → Q (0, x9) n h9) : AW G X 35 [(2, ((35 : Nat) : Int)), (0, x1), (0, x2), (9, 0)] [(2, ((35 : Nat) : Int))] n h 0 0 := by
  unfold fX6_firs_j35 at hF
  refine aw_iconst hC dX6_firs_35 (by decide) ?_
  exact fX6_firs_j36_ok hC hZ hRm hbt hr hF hK
theorem ok_X6_firs {G : GD} {n : Nat} {x1 : Int} {x2 : Int} {h : Hp} {res : Int × Hp} (hF : fX6_firs x1 x2 h = some res) : Con G yX6_firs cX6_firs 4 (some .int) 8 0 0 true [(2, ((35 : Nat) : Int)), (0, x1), (0, x2)] n h (FQ 0 n res) := by
  refine con_of (pad := 1) (own := RX6) (plainFor_of_name (by decide)) rfl rfl ?_
  intro X hC hbt hr hnm hZ hRm hn0
  have hK : ∀ (x9 : Int) (h9 : Hp), res = (x9, h9) → FQ 0 n res (0, x9) n h9 := fun x9 h9 e => by subst e; exact ⟨rfl, rfl, rfl⟩
  unfold fX6_firs at hF
  show AW G X 0 [(2, ((35 : Nat) : Int)), (0, x1), (0, x2), (9, 0)] [] n h 0 0
  refine aw_aload_n hC dX6_firs_0 rfl ?_
  refine aw_iconst hC dX6_firs_1 (by decide) ?_
  obtain ⟨h1, eh1, hF⟩ := lb_some hF
  refine aw_p6i (k := 0) (a := 35) hC dX6_firs_2 lkRX6_129 (by decide) rfl rfl rfl rfl rfl (Or.inl ⟨hbt, by decide⟩) (fun _ => by decide) ?_
  refine aw_eqH eh1 ?_
  clear eh1
  refine aw_aload_n hC dX6_firs_5 rfl ?_
  refine aw_iload_n hC dX6_firs_6 rfl ?_
  refine aw_if_lt (tgt := 35) hC dX6_firs_7 (by decide) (fun c2 => ?_) (fun c2 => ?_)
  · have hF := it_t hF c2
    exact fX6_firs_j35_ok hC hZ hRm hbt hr hF hK
  · have hF := it_f hF c2
    refine aw_iload_n hC dX6_firs_10 rfl ?_
    refine aw_iconst hC dX6_firs_11 (by decide) ?_
    refine aw_aload_n hC dX6_firs_12 rfl ?_
    refine aw_g6i (k := 3) (a := 35) hC dX6_firs_13 lkRX6_297 (by decide) rfl rfl rfl (Or.inl ⟨hbt, by decide⟩) ?_
    refine aw_ishl hC dX6_firs_16 ?_
    refine aw_icmp_ge (tgt := 35) hC dX6_firs_17 (by decide) (fun c18 => ?_) (fun c18 => ?_)
    · have hF := it_t hF c18
      exact fX6_firs_j35_ok hC hZ hRm hbt hr hF hK
    · have hF := it_f hF c18
      refine aw_iload_n hC dX6_firs_20 rfl ?_
      refine aw_iconst hC dX6_firs_21 (by decide) ?_
      refine aw_sipush hC dX6_firs_22 (by decide) (by decide) ?_
      obtain ⟨r19, q20, hF⟩ := bp_some hF
      refine clRX6_385 hC hRm hbt dX6_firs_25 (Nat.le_of_ble_eq_true rfl) (Nat.le_of_ble_eq_true rfl) (ok_X6_within q20) ?_
      refine aw_if_eq (tgt := 35) hC dX6_firs_28 (by decide) (fun c21 => ?_) (fun c21 => ?_)
      · have hF := it_t hF c21
        exact fX6_firs_j35_ok hC hZ hRm hbt hr hF hK
      · have hF := it_f hF c21
        refine aw_iconst hC dX6_firs_31 (by decide) ?_
        refine aw_goto (tgt := 36) hC dX6_firs_32 (by decide) ?_
        exact fX6_firs_j36_ok hC hZ hRm hbt hr hF hK
def fX6_fir_j31 (x1 : Int) (z0 : Int) (h : Hp) : Option (Int × Hp) :=
  bd_ (fX6_right z0 1 h) (fun r3 h5 => (if r3 = 0 then some (0, h5) else gd_ (0 ≤ x1 ∧ x1 < 2) (some ((h5 60 (Int.toNat x1)), h5))))
def fX6_fir_j30 (x1 : Int) (h : Hp) : Option (Int × Hp) :=
  fX6_fir_j31 x1 0 h
def fX6_fir (x1 : Int) (h : Hp) : Option (Int × Hp) :=
  lb_ (st h 35 0 0) (fun h1 => (if (h1 35 59) = (-1) then fX6_fir_j30 x1 h1 else (if x1 < 0 then fX6_fir_j30 x1 h1 else (if (h1 35 59) ≤ x1 then fX6_fir_j30 x1 h1 else fX6_fir_j31 x1 1 h1))))
theorem fX6_fir_j31_ok {G : GD} {X : CX} {n : Nat} {Q : Av → Nat → Hp → Prop} (hC : Cx G X RX6 cX6_fir) (hZ : ZOK X G Q 0 0) (hRm : X.R = rmd 1 0 0) (hbt : X.bt = true) (hr : X.meth.sig.returnType = (some .int)) {x1 : Int} {z0 : Int} {h : Hp} {res : Int × Hp} (hF : fX6_fir_j31 x1 z0 h = some res) (hK : ∀ (x9 : Int) (h9 : Hp), res = (x9, h9) → Q (0, x9) n h9) : AW G X 31 [(2, ((35 : Nat) : Int)), (0, x1)] [(0, z0), (2, ((35 : Nat) : Int))] n h 0 0 := by
  unfold fX6_fir_j31 at hF
  refine aw_iconst hC dX6_fir_31 (by decide) ?_
  obtain ⟨r3, h5, q4, hF⟩ := bd_some hF
  refine clRX6_290 hC hRm hbt dX6_fir_32 rfl rfl (by decide) (Nat.le_of_ble_eq_true rfl) (Nat.le_of_ble_eq_true rfl) (ok_X6_right q4) ?_
  refine aw_if_eq (tgt := 47) hC dX6_fir_35 (by decide) (fun c6 => ?_) (fun c6 => ?_)
  · have hF := it_t hF c6
    refine aw_iconst hC dX6_fir_47 (by decide) ?_
    exact aw_ireturn hC hZ (Nat.zero_le _) (Nat.zero_le _) hr dX6_fir_48 (hK _ _ (Option.some.inj hF).symm)
  · have hF := it_f hF c6
    refine aw_aload_n hC dX6_fir_38 rfl ?_
    refine aw_gc6 (k := 60) (a := 35) (b := 60) hC hbt dX6_fir_39 lkRX6_105 (by decide) rfl rfl rfl (by decide) (by decide) ?_
    refine aw_iload_n hC dX6_fir_42 rfl ?_
    obtain ⟨g7, hF⟩ := gd_some hF
    refine aw_iaload (a := 60) hC dX6_fir_43 rfl rfl (Or.inl ⟨hbt, by decide⟩) g7.1 g7.2 ?_
    refine aw_goto (tgt := 48) hC dX6_fir_44 (by decide) ?_
    exact aw_ireturn hC hZ (Nat.zero_le _) (Nat.zero_le _) hr dX6_fir_48 (hK _ _ (Option.some.inj hF).symm)
theorem fX6_fir_j30_ok {G : GD} {X : CX} {n : Nat} {Q : Av → Nat → Hp → Prop} (hC : Cx G X RX6 cX6_fir) (hZ : ZOK X G Q 0 0) (hRm : X.R = rmd 1 0 0) (hbt : X.bt = true) (hr : X.meth.sig.returnType = (some .int)) {x1 : Int} {h : Hp} {res : Int × Hp} (hF : fX6_fir_j30 x1 h = some res) (hK : ∀ (x9 : Int) (h9 : Hp), res = (x9, h9) → Q (0, x9) n h9) : AW G X 30 [(2, ((35 : Nat) : Int)), (0, x1)] [(2, ((35 : Nat) : Int))] n h 0 0 := by
  unfold fX6_fir_j30 at hF
  refine aw_iconst hC dX6_fir_30 (by decide) ?_
  exact fX6_fir_j31_ok hC hZ hRm hbt hr hF hK
theorem ok_X6_fir {G : GD} {n : Nat} {x1 : Int} {h : Hp} {res : Int × Hp} (hF : fX6_fir x1 h = some res) : Con G yX6_fir cX6_fir 2 (some .int) 1 0 0 true [(2, ((35 : Nat) : Int)), (0, x1)] n h (FQ 0 n res) := by
  refine con_of (pad := 0) (own := RX6) (plainFor_of_name (by decide)) rfl rfl ?_
  intro X hC hbt hr hnm hZ hRm hn0
  have hK : ∀ (x9 : Int) (h9 : Hp), res = (x9, h9) → FQ 0 n res (0, x9) n h9 := fun x9 h9 e => by subst e; exact ⟨rfl, rfl, rfl⟩
  unfold fX6_fir at hF
  show AW G X 0 [(2, ((35 : Nat) : Int)), (0, x1)] [] n h 0 0
  refine aw_aload_n hC dX6_fir_0 rfl ?_
  refine aw_iconst hC dX6_fir_1 (by decide) ?_
  obtain ⟨h1, eh1, hF⟩ := lb_some hF
  refine aw_p6i (k := 0) (a := 35) hC dX6_fir_2 lkRX6_129 (by decide) rfl rfl rfl rfl rfl (Or.inl ⟨hbt, by decide⟩) (fun _ => by decide) ?_
  refine aw_eqH eh1 ?_
  clear eh1
  refine aw_aload_n hC dX6_fir_5 rfl ?_
  refine aw_aload_n hC dX6_fir_6 rfl ?_
  refine aw_g6i (k := 59) (a := 35) hC dX6_fir_7 lkRX6_102 (by decide) rfl rfl rfl (Or.inl ⟨hbt, by decide⟩) ?_
  refine aw_iconst hC dX6_fir_10 (by decide) ?_
  refine aw_icmp_eq (tgt := 30) hC dX6_fir_11 (by decide) (fun c2 => ?_) (fun c2 => ?_)
  · have hF := it_t hF c2
    exact fX6_fir_j30_ok hC hZ hRm hbt hr hF hK
  · have hF := it_f hF c2
    refine aw_iload_n hC dX6_fir_14 rfl ?_
    refine aw_if_lt (tgt := 30) hC dX6_fir_15 (by decide) (fun c8 => ?_) (fun c8 => ?_)
    · have hF := it_t hF c8
      exact fX6_fir_j30_ok hC hZ hRm hbt hr hF hK
    · have hF := it_f hF c8
      refine aw_iload_n hC dX6_fir_18 rfl ?_
      refine aw_aload_n hC dX6_fir_19 rfl ?_
      refine aw_g6i (k := 59) (a := 35) hC dX6_fir_20 lkRX6_102 (by decide) rfl rfl rfl (Or.inl ⟨hbt, by decide⟩) ?_
      refine aw_icmp_ge (tgt := 30) hC dX6_fir_23 (by decide) (fun c9 => ?_) (fun c9 => ?_)
      · have hF := it_t hF c9
        exact fX6_fir_j30_ok hC hZ hRm hbt hr hF hK
      · have hF := it_f hF c9
        refine aw_iconst hC dX6_fir_26 (by decide) ?_
        refine aw_goto (tgt := 31) hC dX6_fir_27 (by decide) ?_
        exact fX6_fir_j31_ok hC hZ hRm hbt hr hF hK
def fX6_spades_l53 (x1 : Int) (x2 : Int) (x3 : Int) (x4 : Int) (x5 : Int) (h : Hp) : Option ((Int × Int × Hp) ⊕ (Int × Hp)) :=
  (if x5 < 0 then some (.inr (x4, h)) else gd_ (0 ≤ (i_add 42 x1) ∧ (i_add 42 x1) < 62) (lb_ (st h 54 (Int.toNat ((i_add 42 x1))) ((i_sub x3 x5))) (fun h20 => bd_ (fX6_taxOf x1 h20) (fun r21 h23 => (if x2 < r21 then some (.inl (x4, (i_add x5 (-1)), h23)) else some (.inl (x5, (i_add x5 (-1)), h23)))))))
def fX6_spades (x1 : Int) (x2 : Int) (h : Hp) : Option (Int × Hp) :=
  lb_ (st h 35 0 0) (fun h1 => bd_ (fX6_isHouse x1 h1) (fun r2 h4 => (if r2 = 0 then some (0, h4) else bp_ (fX6_within x2 0 999 h4) (fun r6 => bd_ (fX6_right r6 2 h4) (fun r8 h10 => (if r8 = 0 then some (0, h10) else gd_ (0 ≤ (i_add 42 x1) ∧ (i_add 42 x1) < 62) (lb_ ((h10 54 (Int.toNat ((i_add 42 x1))))) (fun v13 => bd_ (fX6_laysOut h10) (fun r14 h16 => lb_ ((i_add v13 3)) (fun v17 => bp_ (it_ (fun s => fX6_spades_l53 x1 x2 v13 s.1 s.2.1 s.2.2) FU ((-1), v17, h16)) (fun e27 => (fun y28 h29 => gd_ (0 ≤ (i_add 42 x1) ∧ (i_add 42 x1) < 62) (lb_ (st h29 54 (Int.toNat ((i_add 42 x1))) v13) (fun h31 => some (y28, h31)))) e27.1 e27.2)))))))))))
theorem fX6_spades_l53_ok {G : GD} {X : CX} {n : Nat} {Q : Av → Nat → Hp → Prop} (hC : Cx G X RX6 cX6_spades) (hZ : ZOK X G Q 0 0) (hRm : X.R = rmd 6 0 0) (hbt : X.bt = true) (hr : X.meth.sig.returnType = (some .int)) {x1 : Int} {x2 : Int} {x3 : Int} : ∀ (f : Nat) (x4 : Int) (x5 : Int) (h : Hp) (r : Int × Hp), it_ (fun s => fX6_spades_l53 x1 x2 x3 s.1 s.2.1 s.2.2) f (x4, x5, h) = some r → (∀ (y4 : Int) (h9 : Hp), r = (y4, h9) → AW G X 95 [(2, ((35 : Nat) : Int)), (0, x1), (9, 0), (0, x3), (0, y4), (9, 0)] [] n h9 0 0) → AW G X 53 [(2, ((35 : Nat) : Int)), (0, x1), (0, x2), (0, x3), (0, x4), (0, x5)] [] n h 0 0 := by
  intro f
  induction f with
  | zero => intro x4 x5 h r hI; cases hI
  | succ f ih0 =>
    intro x4 x5 h r hI hX
    obtain ⟨b, hF, hb1, hb2⟩ := it_succ hI
    have hF : fX6_spades_l53 x1 x2 x3 x4 x5 h = some b := hF
    unfold fX6_spades_l53 at hF
    refine aw_iload hC dX6_spades_53 rfl ?_
    refine aw_if_lt (tgt := 95) hC dX6_spades_55 (by decide) (fun c18 => ?_) (fun c18 => ?_)
    · have hF := it_t hF c18
      refine aw_weak (ls' := [(2, ((35 : Nat) : Int)), (0, x1), (9, 0), (0, x3), (0, x4), (9, 0)]) ⟨Or.inr rfl, Or.inr rfl, Or.inl rfl, Or.inr rfl, Or.inr rfl, Or.inl rfl, trivial⟩ ?_
      exact hX _ _ (hb2 _ (Option.some.inj hF).symm).symm
    · have hF := it_f hF c18
      refine aw_aload_n hC dX6_spades_58 rfl ?_
      refine aw_gc6 (k := 46) (a := 35) (b := 54) hC hbt dX6_spades_59 lkRX6_75 (by decide) rfl rfl rfl (by decide) (by decide) ?_
      refine aw_bipush hC dX6_spades_62 (by decide) (by decide) ?_
      refine aw_iload_n hC dX6_spades_64 rfl ?_
      refine aw_iadd hC dX6_spades_65 ?_
      refine aw_iload_n hC dX6_spades_66 rfl ?_
      refine aw_iload hC dX6_spades_67 rfl ?_
      refine aw_isub hC dX6_spades_69 ?_
      obtain ⟨g19, hF⟩ := gd_some hF
      obtain ⟨h20, eh20, hF⟩ := lb_some hF
      refine aw_iastore (a := 54) hC dX6_spades_70 rfl rfl (Or.inl ⟨hbt, by decide⟩) g19.1 g19.2 ?_
      refine aw_eqH eh20 ?_
      clear eh20
      refine aw_aload_n hC dX6_spades_71 rfl ?_
      refine aw_iload_n hC dX6_spades_72 rfl ?_
      obtain ⟨r21, h23, q22, hF⟩ := bd_some hF
      refine clRX6_410 hC hRm hbt dX6_spades_73 rfl rfl (by decide) (Nat.le_of_ble_eq_true rfl) (Nat.le_of_ble_eq_true rfl) (ok_X6_taxOf q22) ?_
      refine aw_iload_n hC dX6_spades_76 rfl ?_
      refine aw_icmp_gt (tgt := 85) hC dX6_spades_77 (by decide) (fun c24 => ?_) (fun c24 => ?_)
      · have hF := it_t hF c24
        refine aw_iload hC dX6_spades_85 rfl ?_
        refine aw_istore4 hC dX6_spades_87 rfl ?_
        refine aw_iinc5 hC dX6_spades_89 rfl ?_
        refine aw_goto (tgt := 53) hC dX6_spades_92 (by decide) ?_
        exact ih0 _ _ _ r (hb1 _ (Option.some.inj hF).symm) hX
      · have hF := it_f hF c24
        refine aw_iload hC dX6_spades_80 rfl ?_
        refine aw_goto (tgt := 87) hC dX6_spades_82 (by decide) ?_
        refine aw_istore4 hC dX6_spades_87 rfl ?_
        refine aw_iinc5 hC dX6_spades_89 rfl ?_
        refine aw_goto (tgt := 53) hC dX6_spades_92 (by decide) ?_
        exact ih0 _ _ _ r (hb1 _ (Option.some.inj hF).symm) hX
theorem ok_X6_spades {G : GD} {n : Nat} {x1 : Int} {x2 : Int} {h : Hp} {res : Int × Hp} (hF : fX6_spades x1 x2 h = some res) : Con G yX6_spades cX6_spades 6 (some .int) 6 0 0 true [(2, ((35 : Nat) : Int)), (0, x1), (0, x2)] n h (FQ 0 n res) := by
  refine con_of (pad := 3) (own := RX6) (plainFor_of_name (by decide)) rfl rfl ?_
  intro X hC hbt hr hnm hZ hRm hn0
  have hK : ∀ (x9 : Int) (h9 : Hp), res = (x9, h9) → FQ 0 n res (0, x9) n h9 := fun x9 h9 e => by subst e; exact ⟨rfl, rfl, rfl⟩
  unfold fX6_spades at hF
  show AW G X 0 [(2, ((35 : Nat) : Int)), (0, x1), (0, x2), (9, 0), (9, 0), (9, 0)] [] n h 0 0
  refine aw_aload_n hC dX6_spades_0 rfl ?_
  refine aw_iconst hC dX6_spades_1 (by decide) ?_
  obtain ⟨h1, eh1, hF⟩ := lb_some hF
  refine aw_p6i (k := 0) (a := 35) hC dX6_spades_2 lkRX6_129 (by decide) rfl rfl rfl rfl rfl (Or.inl ⟨hbt, by decide⟩) (fun _ => by decide) ?_
  refine aw_eqH eh1 ?_
  clear eh1
  refine aw_aload_n hC dX6_spades_5 rfl ?_
  refine aw_iload_n hC dX6_spades_6 rfl ?_
  obtain ⟨r2, h4, q3, hF⟩ := bd_some hF
  refine clRX6_407 hC hRm hbt dX6_spades_7 rfl rfl (by decide) (Nat.le_of_ble_eq_true rfl) (Nat.le_of_ble_eq_true rfl) (ok_X6_isHouse q3) ?_
  refine aw_if_eq (tgt := 29) hC dX6_spades_10 (by decide) (fun c5 => ?_) (fun c5 => ?_)
  · have hF := it_t hF c5
    refine aw_iconst hC dX6_spades_29 (by decide) ?_
    exact aw_ireturn hC hZ (Nat.zero_le _) (Nat.zero_le _) hr dX6_spades_30 (hK _ _ (Option.some.inj hF).symm)
  · have hF := it_f hF c5
    refine aw_aload_n hC dX6_spades_13 rfl ?_
    refine aw_iload_n hC dX6_spades_14 rfl ?_
    refine aw_iconst hC dX6_spades_15 (by decide) ?_
    refine aw_sipush hC dX6_spades_16 (by decide) (by decide) ?_
    obtain ⟨r6, q7, hF⟩ := bp_some hF
    refine clRX6_385 hC hRm hbt dX6_spades_19 (Nat.le_of_ble_eq_true rfl) (Nat.le_of_ble_eq_true rfl) (ok_X6_within q7) ?_
    refine aw_iconst hC dX6_spades_22 (by decide) ?_
    obtain ⟨r8, h10, q9, hF⟩ := bd_some hF
    refine clRX6_290 hC hRm hbt dX6_spades_23 rfl rfl (by decide) (Nat.le_of_ble_eq_true rfl) (Nat.le_of_ble_eq_true rfl) (ok_X6_right q9) ?_
    refine aw_if_ne (tgt := 31) hC dX6_spades_26 (by decide) (fun c11 => ?_) (fun c11 => ?_)
    · have hF := it_f hF c11
      refine aw_aload_n hC dX6_spades_31 rfl ?_
      refine aw_gc6 (k := 46) (a := 35) (b := 54) hC hbt dX6_spades_32 lkRX6_75 (by decide) rfl rfl rfl (by decide) (by decide) ?_
      refine aw_bipush hC dX6_spades_35 (by decide) (by decide) ?_
      refine aw_iload_n hC dX6_spades_37 rfl ?_
      refine aw_iadd hC dX6_spades_38 ?_
      obtain ⟨g12, hF⟩ := gd_some hF
      refine aw_iaload (a := 54) hC dX6_spades_39 rfl rfl (Or.inl ⟨hbt, by decide⟩) g12.1 g12.2 ?_
      obtain ⟨v13, ev13, hF⟩ := lb_some hF
      refine aw_eqT ev13 ?_
      clear ev13
      refine aw_istore3 hC dX6_spades_40 rfl ?_
      refine aw_iconst hC dX6_spades_41 (by decide) ?_
      refine aw_istore4 hC dX6_spades_42 rfl ?_
      refine aw_aload_n hC dX6_spades_44 rfl ?_
      obtain ⟨r14, h16, q15, hF⟩ := bd_some hF
      refine clRX6_379 hC hRm hbt dX6_spades_45 rfl rfl (by decide) (Nat.le_of_ble_eq_true rfl) (Nat.le_of_ble_eq_true rfl) (ok_X6_laysOut q15) ?_
      refine aw_iload_n hC dX6_spades_48 rfl ?_
      refine aw_iconst hC dX6_spades_49 (by decide) ?_
      refine aw_iadd hC dX6_spades_50 ?_
      obtain ⟨v17, ev17, hF⟩ := lb_some hF
      refine aw_eqT ev17 ?_
      clear ev17
      refine aw_istore5 hC dX6_spades_51 rfl ?_
      obtain ⟨e27, he, hF⟩ := bp_some hF
      refine fX6_spades_l53_ok hC hZ hRm hbt hr FU _ _ _ e27 he (fun y28 h29 er => ?_)
      replace er := er.symm
      subst er
      try dsimp only at hF
      refine aw_aload_n hC dX6_spades_95 rfl ?_
      refine aw_gc6 (k := 46) (a := 35) (b := 54) hC hbt dX6_spades_96 lkRX6_75 (by decide) rfl rfl rfl (by decide) (by decide) ?_
      refine aw_bipush hC dX6_spades_99 (by decide) (by decide) ?_
      refine aw_iload_n hC dX6_spades_101 rfl ?_
      refine aw_iadd hC dX6_spades_102 ?_
      refine aw_iload_n hC dX6_spades_103 rfl ?_
      obtain ⟨g30, hF⟩ := gd_some hF
      obtain ⟨h31, eh31, hF⟩ := lb_some hF
      refine aw_iastore (a := 54) hC dX6_spades_104 rfl rfl (Or.inl ⟨hbt, by decide⟩) g30.1 g30.2 ?_
      refine aw_eqH eh31 ?_
      clear eh31
      refine aw_iload hC dX6_spades_105 rfl ?_
      exact aw_ireturn hC hZ (Nat.zero_le _) (Nat.zero_le _) hr dX6_spades_107 (hK _ _ (Option.some.inj hF).symm)
    · have hF := it_t hF c11
      refine aw_iconst hC dX6_spades_29 (by decide) ?_
      exact aw_ireturn hC hZ (Nat.zero_le _) (Nat.zero_le _) hr dX6_spades_30 (hK _ _ (Option.some.inj hF).symm)
def fX6_felling (x1 : Int) (h : Hp) : Option (Int × Hp) :=
  lb_ (st h 35 0 0) (fun h1 => bd_ (fX6_isTree x1 h1) (fun r2 h4 => (if r2 = 0 then some (0, h4) else bd_ (fX6_sum h4) (fun r6 h8 => gd_ (0 ≤ (i_add 0 x1) ∧ (i_add 0 x1) < 62) (lb_ ((h8 54 (Int.toNat ((i_add 0 x1))))) (fun v10 => gd_ (0 ≤ (i_add 0 x1) ∧ (i_add 0 x1) < 62) (lb_ (st h8 54 (Int.toNat ((i_add 0 x1))) ((-1))) (fun h12 => bd_ (fX6_sum h12) (fun r13 h15 => gd_ (0 ≤ (i_add 0 x1) ∧ (i_add 0 x1) < 62) (lb_ (st h15 54 (Int.toNat ((i_add 0 x1))) v10) (fun h17 => some ((i_sub r13 r6), h17))))))))))))
theorem ok_X6_felling {G : GD} {n : Nat} {x1 : Int} {h : Hp} {res : Int × Hp} (hF : fX6_felling x1 h = some res) : Con G yX6_felling cX6_felling 5 (some .int) 7 0 0 true [(2, ((35 : Nat) : Int)), (0, x1)] n h (FQ 0 n res) := by
  refine con_of (pad := 3) (own := RX6) (plainFor_of_name (by decide)) rfl rfl ?_
  intro X hC hbt hr hnm hZ hRm hn0
  have hK : ∀ (x9 : Int) (h9 : Hp), res = (x9, h9) → FQ 0 n res (0, x9) n h9 := fun x9 h9 e => by subst e; exact ⟨rfl, rfl, rfl⟩
  unfold fX6_felling at hF
  show AW G X 0 [(2, ((35 : Nat) : Int)), (0, x1), (9, 0), (9, 0), (9, 0)] [] n h 0 0
  refine aw_aload_n hC dX6_felling_0 rfl ?_
  refine aw_iconst hC dX6_felling_1 (by decide) ?_
  obtain ⟨h1, eh1, hF⟩ := lb_some hF
  refine aw_p6i (k := 0) (a := 35) hC dX6_felling_2 lkRX6_129 (by decide) rfl rfl rfl rfl rfl (Or.inl ⟨hbt, by decide⟩) (fun _ => by decide) ?_
  refine aw_eqH eh1 ?_
  clear eh1
  refine aw_aload_n hC dX6_felling_5 rfl ?_
  refine aw_iload_n hC dX6_felling_6 rfl ?_
  obtain ⟨r2, h4, q3, hF⟩ := bd_some hF
  refine clRX6_404 hC hRm hbt dX6_felling_7 rfl rfl (by decide) (Nat.le_of_ble_eq_true rfl) (Nat.le_of_ble_eq_true rfl) (ok_X6_isTree q3) ?_
  refine aw_if_ne (tgt := 15) hC dX6_felling_10 (by decide) (fun c5 => ?_) (fun c5 => ?_)
  · have hF := it_f hF c5
    refine aw_aload_n hC dX6_felling_15 rfl ?_
    obtain ⟨r6, h8, q7, hF⟩ := bd_some hF
    refine clRX6_392 hC hRm hbt dX6_felling_16 rfl rfl (by decide) (Nat.le_of_ble_eq_true rfl) (Nat.le_of_ble_eq_true rfl) (ok_X6_sum q7) ?_
    refine aw_istore2 hC dX6_felling_19 rfl ?_
    refine aw_aload_n hC dX6_felling_20 rfl ?_
    refine aw_gc6 (k := 46) (a := 35) (b := 54) hC hbt dX6_felling_21 lkRX6_75 (by decide) rfl rfl rfl (by decide) (by decide) ?_
    refine aw_iconst hC dX6_felling_24 (by decide) ?_
    refine aw_iload_n hC dX6_felling_25 rfl ?_
    refine aw_iadd hC dX6_felling_26 ?_
    obtain ⟨g9, hF⟩ := gd_some hF
    refine aw_iaload (a := 54) hC dX6_felling_27 rfl rfl (Or.inl ⟨hbt, by decide⟩) g9.1 g9.2 ?_
    obtain ⟨v10, ev10, hF⟩ := lb_some hF
    refine aw_eqT ev10 ?_
    clear ev10
    refine aw_istore3 hC dX6_felling_28 rfl ?_
    refine aw_aload_n hC dX6_felling_29 rfl ?_
    refine aw_gc6 (k := 46) (a := 35) (b := 54) hC hbt dX6_felling_30 lkRX6_75 (by decide) rfl rfl rfl (by decide) (by decide) ?_
    refine aw_iconst hC dX6_felling_33 (by decide) ?_
    refine aw_iload_n hC dX6_felling_34 rfl ?_
    refine aw_iadd hC dX6_felling_35 ?_
    refine aw_iconst hC dX6_felling_36 (by decide) ?_
    obtain ⟨g11, hF⟩ := gd_some hF
    obtain ⟨h12, eh12, hF⟩ := lb_some hF
    refine aw_iastore (a := 54) hC dX6_felling_37 rfl rfl (Or.inl ⟨hbt, by decide⟩) g11.1 g11.2 ?_
    refine aw_eqH eh12 ?_
    clear eh12
    refine aw_aload_n hC dX6_felling_38 rfl ?_
    obtain ⟨r13, h15, q14, hF⟩ := bd_some hF
    refine clRX6_392 hC hRm hbt dX6_felling_39 rfl rfl (by decide) (Nat.le_of_ble_eq_true rfl) (Nat.le_of_ble_eq_true rfl) (ok_X6_sum q14) ?_
    refine aw_istore4 hC dX6_felling_42 rfl ?_
    refine aw_aload_n hC dX6_felling_44 rfl ?_
    refine aw_gc6 (k := 46) (a := 35) (b := 54) hC hbt dX6_felling_45 lkRX6_75 (by decide) rfl rfl rfl (by decide) (by decide) ?_
    refine aw_iconst hC dX6_felling_48 (by decide) ?_
    refine aw_iload_n hC dX6_felling_49 rfl ?_
    refine aw_iadd hC dX6_felling_50 ?_
    refine aw_iload_n hC dX6_felling_51 rfl ?_
    obtain ⟨g16, hF⟩ := gd_some hF
    obtain ⟨h17, eh17, hF⟩ := lb_some hF
    refine aw_iastore (a := 54) hC dX6_felling_52 rfl rfl (Or.inl ⟨hbt, by decide⟩) g16.1 g16.2 ?_
    refine aw_eqH eh17 ?_
    clear eh17
    refine aw_iload hC dX6_felling_53 rfl ?_
    refine aw_iload_n hC dX6_felling_55 rfl ?_
    refine aw_isub hC dX6_felling_56 ?_
    exact aw_ireturn hC hZ (Nat.zero_le _) (Nat.zero_le _) hr dX6_felling_57 (hK _ _ (Option.some.inj hF).symm)
  · have hF := it_t hF c5
    refine aw_iconst hC dX6_felling_13 (by decide) ?_
    exact aw_ireturn hC hZ (Nat.zero_le _) (Nat.zero_le _) hr dX6_felling_14 (hK _ _ (Option.some.inj hF).symm)
