def fX5_duchy_j22 (x1 : Int) (h : Hp) : Option (Int × Hp) :=
  bd_ (fX2_read x1 ((h 0 1)) h) (fun r3 h5 => lb_ (st h5 0 9 0) (fun h6 => (if (h6 18 6) = 0 then gd_ ((h6 0 1) = 1 ∨ (h6 0 1) = 9) (lb_ (st h6 0 1 ((h6 0 0))) (fun h9 => lb_ (st h9 0 0 ((h6 0 1))) (fun h10 => bd_ (fX0_begin_26 ((h10 0 0)) h10) (fun r11 h13 => lb_ (st h13 0 6 0) (fun h14 => lb_ (st h14 0 15 0) (fun h15 => lb_ (st h15 31 3 0) (fun h16 => lb_ (st h16 0 10 ((-1))) (fun h17 => some (0, h17))))))))) else lb_ (st h6 0 10 ((h6 18 7))) (fun h18 => lb_ (st h18 0 11 ((i_add ((h18 0 11)) 1))) (fun h19 => some ((h19 18 6), h19))))))
def fX5_duchy (x1 : Int) (h : Hp) : Option RX :=
  (if x1 < 0 then some (.inr (1, h)) else (if x1 ≤ (h 0 9) then mi_ (fX5_duchy_j22 x1 h) else some (.inr (1, h))))
theorem fX5_duchy_j22_ok {G : GD} {X : CX} {n : Nat} {Q : Av → Nat → Hp → Prop} (hC : Cx G X RX5 cX5_duchy) (hZ : ZOK X G Q 0 0) (hRm : X.R = rmd 14 0 0) (hbt : X.bt = true) (hr : X.meth.sig.returnType = (some .int)) {x1 : Int} {h : Hp} {res : Int × Hp} (hF : fX5_duchy_j22 x1 h = some res) (hK : ∀ (x9 : Int) (h9 : Hp), res = (x9, h9) → Q (0, x9) n h9) : AW G X 22 [(2, ((0 : Nat) : Int)), (0, x1), (9, 0)] [] n h 0 0 := by
  unfold fX5_duchy_j22 at hF
  refine aw_aload_n hC dX5_duchy_22 rfl ?_
  refine aw_gc5 (k := 2) (a := 0) (b := 18) hC hbt dX5_duchy_23 lkRX5_28 (by decide) rfl rfl rfl (by decide) (by decide) ?_
  refine aw_iload_n hC dX5_duchy_26 rfl ?_
  refine aw_aload_n hC dX5_duchy_27 rfl ?_
  refine aw_g5r (k := 1) (a := 0) hC dX5_duchy_28 lkRX5_16 (by decide) rfl rfl rfl (Or.inl ⟨hbt, by decide⟩) ?_
  obtain ⟨r3, h5, q4, hF⟩ := bd_some hF
  refine clRX5_80 hC hRm hbt dX5_duchy_31 rfl rfl (by decide) (Nat.le_of_ble_eq_true rfl) (Nat.le_of_ble_eq_true rfl) (ok_X2_read q4) ?_
  refine aw_aload_n hC dX5_duchy_34 rfl ?_
  refine aw_iconst hC dX5_duchy_35 (by decide) ?_
  obtain ⟨h6, eh6, hF⟩ := lb_some hF
  refine aw_p5i (k := 9) (a := 0) hC dX5_duchy_36 lkRX5_66 (by decide) rfl rfl rfl rfl rfl (Or.inl ⟨hbt, by decide⟩) (fun _ => by decide) ?_
  refine aw_eqH eh6 ?_
  clear eh6
  refine aw_aload_n hC dX5_duchy_39 rfl ?_
  refine aw_gc5 (k := 2) (a := 0) (b := 18) hC hbt dX5_duchy_40 lkRX5_28 (by decide) rfl rfl rfl (by decide) (by decide) ?_
  refine aw_g2iN (k := 6) (a := 18) hC dX5_duchy_43 lkRX5_84 (by decide) rfl rfl rfl (Or.inl ⟨hbt, by decide⟩) ?_
  refine aw_if_eq (tgt := 78) hC dX5_duchy_46 (by decide) (fun c7 => ?_) (fun c7 => ?_)
  · have hF := it_t hF c7
    refine aw_aload_n hC dX5_duchy_78 rfl ?_
    refine aw_g5r (k := 1) (a := 0) hC dX5_duchy_79 lkRX5_16 (by decide) rfl rfl rfl (Or.inl ⟨hbt, by decide⟩) ?_
    obtain ⟨k8, hF⟩ := gd_some hF
    refine aw_astore2 hC dX5_duchy_82 (by have := k8; omega) rfl ?_
    refine aw_aload_n hC dX5_duchy_83 rfl ?_
    refine aw_aload_n hC dX5_duchy_84 rfl ?_
    refine aw_g5r (k := 0) (a := 0) hC dX5_duchy_85 lkRX5_10 (by decide) rfl rfl rfl (Or.inl ⟨hbt, by decide⟩) ?_
    obtain ⟨h9, eh9, hF⟩ := lb_some hF
    refine aw_p5r (k := 1) (a := 0) hC dX5_duchy_88 lkRX5_16 (by decide) rfl rfl rfl rfl (Or.inl ⟨_, rfl⟩) (Or.inl ⟨hbt, by decide⟩) (fun _ => by decide) ?_
    refine aw_eqH eh9 ?_
    clear eh9
    refine aw_aload_n hC dX5_duchy_91 rfl ?_
    refine aw_aload_n hC dX5_duchy_92 rfl ?_
    obtain ⟨h10, eh10, hF⟩ := lb_some hF
    refine aw_p5r (k := 0) (a := 0) hC dX5_duchy_93 lkRX5_10 (by decide) rfl rfl rfl rfl (Or.inl ⟨_, rfl⟩) (Or.inl ⟨hbt, by decide⟩) (fun _ => by decide) ?_
    refine aw_eqH eh10 ?_
    clear eh10
    refine aw_aload_n hC dX5_duchy_96 rfl ?_
    refine aw_gc5 (k := 4) (a := 0) (b := 26) hC hbt dX5_duchy_97 lkRX5_44 (by decide) rfl rfl rfl (by decide) (by decide) ?_
    refine aw_aload_n hC dX5_duchy_100 rfl ?_
    refine aw_g5r (k := 0) (a := 0) hC dX5_duchy_101 lkRX5_10 (by decide) rfl rfl rfl (Or.inl ⟨hbt, by decide⟩) ?_
    obtain ⟨r11, h13, q12, hF⟩ := bd_some hF
    refine clRX5_59 hC hRm hbt dX5_duchy_104 rfl rfl (by decide) (Nat.le_of_ble_eq_true rfl) (Nat.le_of_ble_eq_true rfl) (ok_X0_begin_26 q12) ?_
    refine aw_aload_n hC dX5_duchy_107 rfl ?_
    refine aw_iconst hC dX5_duchy_108 (by decide) ?_
    obtain ⟨h14, eh14, hF⟩ := lb_some hF
    refine aw_p5z (k := 6) (a := 0) hC dX5_duchy_109 lkRX5_93 (by decide) rfl rfl rfl rfl rfl (Or.inl ⟨hbt, by decide⟩) (by decide) (fun _ => by decide) ?_
    refine aw_eqH eh14 ?_
    clear eh14
    refine aw_aload_n hC dX5_duchy_112 rfl ?_
    refine aw_iconst hC dX5_duchy_113 (by decide) ?_
    obtain ⟨h15, eh15, hF⟩ := lb_some hF
    refine aw_p5i (k := 15) (a := 0) hC dX5_duchy_114 lkRX5_97 (by decide) rfl rfl rfl rfl rfl (Or.inl ⟨hbt, by decide⟩) (fun _ => by decide) ?_
    refine aw_eqH eh15 ?_
    clear eh15
    refine aw_aload_n hC dX5_duchy_117 rfl ?_
    refine aw_gc5 (k := 7) (a := 0) (b := 31) hC hbt dX5_duchy_118 lkRX5_51 (by decide) rfl rfl rfl (by decide) (by decide) ?_
    refine aw_iconst hC dX5_duchy_121 (by decide) ?_
    obtain ⟨h16, eh16, hF⟩ := lb_some hF
    refine aw_p4iN (k := 3) (a := 31) hC dX5_duchy_122 lkRX5_100 (by decide) rfl rfl rfl rfl rfl (Or.inl ⟨hbt, by decide⟩) (fun _ => by decide) ?_
    refine aw_eqH eh16 ?_
    clear eh16
    refine aw_aload_n hC dX5_duchy_125 rfl ?_
    refine aw_iconst hC dX5_duchy_126 (by decide) ?_
    obtain ⟨h17, eh17, hF⟩ := lb_some hF
    refine aw_p5i (k := 10) (a := 0) hC dX5_duchy_127 lkRX5_62 (by decide) rfl rfl rfl rfl rfl (Or.inl ⟨hbt, by decide⟩) (fun _ => by decide) ?_
    refine aw_eqH eh17 ?_
    clear eh17
    refine aw_iconst hC dX5_duchy_130 (by decide) ?_
    exact aw_ireturn hC hZ (Nat.zero_le _) (Nat.zero_le _) hr dX5_duchy_131 (hK _ _ (Option.some.inj hF).symm)
  · have hF := it_f hF c7
    refine aw_aload_n hC dX5_duchy_49 rfl ?_
    refine aw_aload_n hC dX5_duchy_50 rfl ?_
    refine aw_gc5 (k := 2) (a := 0) (b := 18) hC hbt dX5_duchy_51 lkRX5_28 (by decide) rfl rfl rfl (by decide) (by decide) ?_
    refine aw_g2iN (k := 7) (a := 18) hC dX5_duchy_54 lkRX5_87 (by decide) rfl rfl rfl (Or.inl ⟨hbt, by decide⟩) ?_
    obtain ⟨h18, eh18, hF⟩ := lb_some hF
    refine aw_p5i (k := 10) (a := 0) hC dX5_duchy_57 lkRX5_62 (by decide) rfl rfl rfl rfl rfl (Or.inl ⟨hbt, by decide⟩) (fun _ => by decide) ?_
    refine aw_eqH eh18 ?_
    clear eh18
    refine aw_aload_n hC dX5_duchy_60 rfl ?_
    refine aw_dup hC dX5_duchy_61 (by simp) ?_
    refine aw_g5i (k := 11) (a := 0) hC dX5_duchy_62 lkRX5_90 (by decide) rfl rfl rfl (Or.inl ⟨hbt, by decide⟩) ?_
    refine aw_iconst hC dX5_duchy_65 (by decide) ?_
    refine aw_iadd hC dX5_duchy_66 ?_
    obtain ⟨h19, eh19, hF⟩ := lb_some hF
    refine aw_p5i (k := 11) (a := 0) hC dX5_duchy_67 lkRX5_90 (by decide) rfl rfl rfl rfl rfl (Or.inl ⟨hbt, by decide⟩) (fun _ => by decide) ?_
    refine aw_eqH eh19 ?_
    clear eh19
    refine aw_aload_n hC dX5_duchy_70 rfl ?_
    refine aw_gc5 (k := 2) (a := 0) (b := 18) hC hbt dX5_duchy_71 lkRX5_28 (by decide) rfl rfl rfl (by decide) (by decide) ?_
    refine aw_g2iN (k := 6) (a := 18) hC dX5_duchy_74 lkRX5_84 (by decide) rfl rfl rfl (Or.inl ⟨hbt, by decide⟩) ?_
    exact aw_ireturn hC hZ (Nat.zero_le _) (Nat.zero_le _) hr dX5_duchy_77 (hK _ _ (Option.some.inj hF).symm)
theorem ok_X5_duchy_n {G : GD} {n : Nat} {x1 : Int} {h : Hp} {res : Int × Hp} (hF : fX5_duchy x1 h = some (.inl res)) : Con G yX5_duchy cX5_duchy 3 (some .int) 14 0 0 true [(2, ((0 : Nat) : Int)), (0, x1)] n h (FQ 0 n res) := by
  refine con_of (pad := 1) (own := RX5) (plainFor_of_name (by decide)) rfl rfl ?_
  intro X hC hbt hr hnm hZ hRm hn0
  have hK : ∀ (x9 : Int) (h9 : Hp), res = (x9, h9) → FQ 0 n res (0, x9) n h9 := fun x9 h9 e => by subst e; exact ⟨rfl, rfl, rfl⟩
  unfold fX5_duchy at hF
  show AW G X 0 [(2, ((0 : Nat) : Int)), (0, x1), (9, 0)] [] n h 0 0
  refine aw_iload_n hC dX5_duchy_0 rfl ?_
  refine aw_if_lt (tgt := 12) hC dX5_duchy_1 (by decide) (fun c1 => ?_) (fun c1 => ?_)
  · have hF := it_t hF c1
    cases hF
  · have hF := it_f hF c1
    refine aw_iload_n hC dX5_duchy_4 rfl ?_
    refine aw_aload_n hC dX5_duchy_5 rfl ?_
    refine aw_g5i (k := 9) (a := 0) hC dX5_duchy_6 lkRX5_66 (by decide) rfl rfl rfl (Or.inl ⟨hbt, by decide⟩) ?_
    refine aw_icmp_le (tgt := 22) hC dX5_duchy_9 (by decide) (fun c2 => ?_) (fun c2 => ?_)
    · have hF := it_t hF c2
      have hF := mi_n hF
      exact fX5_duchy_j22_ok hC hZ hRm hbt hr hF hK
    · have hF := it_f hF c2
      cases hF
theorem ok_X5_duchy_x {G : GD} {n : Nat} {x1 : Int} {h : Hp} {e : Nat} {h1 : Hp} (hF : fX5_duchy x1 h = some (.inr (e, h1))) : ConT G yX5_duchy cX5_duchy 3 (some .int) 14 true [(2, ((0 : Nat) : Int)), (0, x1)] n h e h1 := by
  refine conT_of (pad := 1) (own := RX5) (by decide) rfl rfl ?_
  intro X hC hbt hst htab hZ hRm hn0
  unfold fX5_duchy at hF
  show AW G X 0 [(2, ((0 : Nat) : Int)), (0, x1), (9, 0)] [] n h 0 0
  refine aw_iload_n hC dX5_duchy_0 rfl ?_
  refine aw_if_lt (tgt := 12) hC dX5_duchy_1 (by decide) (fun c1 => ?_) (fun c1 => ?_)
  · have hF := it_t hF c1
    cases hF
    exact aw_throw1 (is := 75) (no := 27) (text := "the tape has not so many bytes") hC hRm (Nat.le_of_ble_eq_true rfl) hn0 hZ hst htab (List.mem_of_getElem? (i := 0) rfl) dX5_duchy_12 dX5_duchy_15 dX5_duchy_16 dX5_duchy_18 dX5_duchy_21 (Nat.le_of_ble_eq_true rfl)
  · have hF := it_f hF c1
    refine aw_iload_n hC dX5_duchy_4 rfl ?_
    refine aw_aload_n hC dX5_duchy_5 rfl ?_
    refine aw_g5i (k := 9) (a := 0) hC dX5_duchy_6 lkRX5_66 (by decide) rfl rfl rfl (Or.inl ⟨hbt, by decide⟩) ?_
    refine aw_icmp_le (tgt := 22) hC dX5_duchy_9 (by decide) (fun c2 => ?_) (fun c2 => ?_)
    · have hF := it_t hF c2
      exact (mi_x hF).elim
    · have hF := it_f hF c2
      cases hF
      exact aw_throw1 (is := 75) (no := 27) (text := "the tape has not so many bytes") hC hRm (Nat.le_of_ble_eq_true rfl) hn0 hZ hst htab (List.mem_of_getElem? (i := 0) rfl) dX5_duchy_12 dX5_duchy_15 dX5_duchy_16 dX5_duchy_18 dX5_duchy_21 (Nat.le_of_ble_eq_true rfl)
def fX5_count_j76  (h : Hp) : Option (Int × Hp) :=
  gd_ ((h 0 0) = 1 ∨ (h 0 0) = 9) (some ((h (Int.toNat ((h 0 0))) 0), h))
def fX5_count_j84  (h : Hp) : Option (Int × Hp) :=
  gd_ ((h 0 0) = 1 ∨ (h 0 0) = 9) (some ((h (Int.toNat ((h 0 0))) 1), h))
def fX5_count_j92  (h : Hp) : Option (Int × Hp) :=
  bp_ (fX5_treesStanding_27 h) (fun r6 => some (r6, h))
def fX5_count_j103  (h : Hp) : Option (Int × Hp) :=
  gd_ ((h 0 0) = 1 ∨ (h 0 0) = 9) (some ((h (Int.toNat ((h 0 0))) 3), h))
def fX5_count_j111  (h : Hp) : Option (Int × Hp) :=
  gd_ ((h 0 0) = 1 ∨ (h 0 0) = 9) (some ((h (Int.toNat ((h 0 0))) 8), h))
def fX5_count_j119  (h : Hp) : Option (Int × Hp) :=
  gd_ (0 ≤ (60 : Int) ∧ (60 : Int) < 62) (some ((h 27 (Int.toNat 60)), h))
def fX5_count_j130  (h : Hp) : Option (Int × Hp) :=
  gd_ (0 ≤ (61 : Int) ∧ (61 : Int) < 62) (some ((h 27 (Int.toNat 61)), h))
def fX5_count_j141  (h : Hp) : Option (Int × Hp) :=
  gd_ (0 ≤ (61 : Int) ∧ (61 : Int) < 62) (gd_ ((h 0 0) = 1 ∨ (h 0 0) = 9) (bp_ (fX1_fogOf ((h 0 0)) ((h 27 (Int.toNat 61))) h) (fun r19 => some (r19, h))))
def fX5_count_j159  (h : Hp) : Option (Int × Hp) :=
  bd_ (fX5_present h) (fun r22 h24 => gd_ (r22 = ((20 : Nat) : Int)) (bd_ (fX3_taxOfAll h24) (fun r26 h28 => some (r26, h28))))
def fX5_count_j167  (h : Hp) : Option (Int × Hp) :=
  some ((h 26 3), h)
def fX5_count_j175  (h : Hp) : Option (Int × Hp) :=
  some ((h 26 6), h)
def fX5_count_j183  (h : Hp) : Option (Int × Hp) :=
  some ((h 0 9), h)
def fX5_count_j188  (h : Hp) : Option (Int × Hp) :=
  some ((h 0 11), h)
def fX5_count_j193  (h : Hp) : Option (Int × Hp) :=
  some ((h 0 12), h)
def fX5_count_j198  (h : Hp) : Option (Int × Hp) :=
  some ((h 0 13), h)
def fX5_count (x1 : Int) (h : Hp) : Option RX :=
  (if x1 = 0 then mi_ (fX5_count_j76 h) else if x1 = 1 then mi_ (fX5_count_j84 h) else if x1 = 2 then mi_ (fX5_count_j92 h) else if x1 = 3 then mi_ (fX5_count_j103 h) else if x1 = 4 then mi_ (fX5_count_j111 h) else if x1 = 5 then mi_ (fX5_count_j119 h) else if x1 = 6 then mi_ (fX5_count_j130 h) else if x1 = 7 then mi_ (fX5_count_j141 h) else if x1 = 8 then mi_ (fX5_count_j159 h) else if x1 = 9 then mi_ (fX5_count_j167 h) else if x1 = 10 then mi_ (fX5_count_j175 h) else if x1 = 11 then mi_ (fX5_count_j183 h) else if x1 = 12 then mi_ (fX5_count_j188 h) else if x1 = 13 then mi_ (fX5_count_j193 h) else if x1 = 14 then mi_ (fX5_count_j198 h) else some (.inr (0, h)))
theorem fX5_count_j76_ok {G : GD} {X : CX} {n : Nat} {Q : Av → Nat → Hp → Prop} (hC : Cx G X RX5 cX5_count) (hZ : ZOK X G Q 0 0) (hRm : X.R = rmd 6 0 0) (hbt : X.bt = true) (hr : X.meth.sig.returnType = (some .int))  {h : Hp} {res : Int × Hp} (hF : fX5_count_j76  h = some res) (hK : ∀ (x9 : Int) (h9 : Hp), res = (x9, h9) → Q (0, x9) n h9) : AW G X 76 [(2, ((0 : Nat) : Int)), (9, 0)] [] n h 0 0 := by
  unfold fX5_count_j76 at hF
  refine aw_aload_n hC dX5_count_76 rfl ?_
  refine aw_g5r (k := 0) (a := 0) hC dX5_count_77 lkRX5_10 (by decide) rfl rfl rfl (Or.inl ⟨hbt, by decide⟩) ?_
  obtain ⟨k2, hF⟩ := gd_some hF
  refine aw_gLiN (k := 0) hC hbt k2 dX5_count_80 lkRX5_103 (by decide) rfl ?_
  exact aw_ireturn hC hZ (Nat.zero_le _) (Nat.zero_le _) hr dX5_count_83 (hK _ _ (Option.some.inj hF).symm)
theorem fX5_count_j84_ok {G : GD} {X : CX} {n : Nat} {Q : Av → Nat → Hp → Prop} (hC : Cx G X RX5 cX5_count) (hZ : ZOK X G Q 0 0) (hRm : X.R = rmd 6 0 0) (hbt : X.bt = true) (hr : X.meth.sig.returnType = (some .int))  {h : Hp} {res : Int × Hp} (hF : fX5_count_j84  h = some res) (hK : ∀ (x9 : Int) (h9 : Hp), res = (x9, h9) → Q (0, x9) n h9) : AW G X 84 [(2, ((0 : Nat) : Int)), (9, 0)] [] n h 0 0 := by
  unfold fX5_count_j84 at hF
  refine aw_aload_n hC dX5_count_84 rfl ?_
  refine aw_g5r (k := 0) (a := 0) hC dX5_count_85 lkRX5_10 (by decide) rfl rfl rfl (Or.inl ⟨hbt, by decide⟩) ?_
  obtain ⟨k4, hF⟩ := gd_some hF
  refine aw_gLiN (k := 1) hC hbt k4 dX5_count_88 lkRX5_106 (by decide) rfl ?_
  exact aw_ireturn hC hZ (Nat.zero_le _) (Nat.zero_le _) hr dX5_count_91 (hK _ _ (Option.some.inj hF).symm)
theorem fX5_count_j92_ok {G : GD} {X : CX} {n : Nat} {Q : Av → Nat → Hp → Prop} (hC : Cx G X RX5 cX5_count) (hZ : ZOK X G Q 0 0) (hRm : X.R = rmd 6 0 0) (hbt : X.bt = true) (hr : X.meth.sig.returnType = (some .int))  {h : Hp} {res : Int × Hp} (hF : fX5_count_j92  h = some res) (hK : ∀ (x9 : Int) (h9 : Hp), res = (x9, h9) → Q (0, x9) n h9) : AW G X 92 [(2, ((0 : Nat) : Int)), (9, 0)] [] n h 0 0 := by
  unfold fX5_count_j92 at hF
  refine aw_aload_n hC dX5_count_92 rfl ?_
  refine aw_gc5 (k := 4) (a := 0) (b := 26) hC hbt dX5_count_93 lkRX5_44 (by decide) rfl rfl rfl (by decide) (by decide) ?_
  refine aw_gc0N (k := 0) (a := 26) (b := 27) hC hbt dX5_count_96 lkRX5_109 (by decide) rfl rfl rfl (by decide) (by decide) ?_
  obtain ⟨r6, q7, hF⟩ := bp_some hF
  refine clRX5_112 hC hRm hbt dX5_count_99 (Nat.le_of_ble_eq_true rfl) (Nat.le_of_ble_eq_true rfl) (ok_X5_treesStanding_27 q7) ?_
  exact aw_ireturn hC hZ (Nat.zero_le _) (Nat.zero_le _) hr dX5_count_102 (hK _ _ (Option.some.inj hF).symm)
theorem fX5_count_j103_ok {G : GD} {X : CX} {n : Nat} {Q : Av → Nat → Hp → Prop} (hC : Cx G X RX5 cX5_count) (hZ : ZOK X G Q 0 0) (hRm : X.R = rmd 6 0 0) (hbt : X.bt = true) (hr : X.meth.sig.returnType = (some .int))  {h : Hp} {res : Int × Hp} (hF : fX5_count_j103  h = some res) (hK : ∀ (x9 : Int) (h9 : Hp), res = (x9, h9) → Q (0, x9) n h9) : AW G X 103 [(2, ((0 : Nat) : Int)), (9, 0)] [] n h 0 0 := by
  unfold fX5_count_j103 at hF
  refine aw_aload_n hC dX5_count_103 rfl ?_
  refine aw_g5r (k := 0) (a := 0) hC dX5_count_104 lkRX5_10 (by decide) rfl rfl rfl (Or.inl ⟨hbt, by decide⟩) ?_
  obtain ⟨k9, hF⟩ := gd_some hF
  refine aw_gLiN (k := 3) hC hbt k9 dX5_count_107 lkRX5_116 (by decide) rfl ?_
  exact aw_ireturn hC hZ (Nat.zero_le _) (Nat.zero_le _) hr dX5_count_110 (hK _ _ (Option.some.inj hF).symm)
theorem fX5_count_j111_ok {G : GD} {X : CX} {n : Nat} {Q : Av → Nat → Hp → Prop} (hC : Cx G X RX5 cX5_count) (hZ : ZOK X G Q 0 0) (hRm : X.R = rmd 6 0 0) (hbt : X.bt = true) (hr : X.meth.sig.returnType = (some .int))  {h : Hp} {res : Int × Hp} (hF : fX5_count_j111  h = some res) (hK : ∀ (x9 : Int) (h9 : Hp), res = (x9, h9) → Q (0, x9) n h9) : AW G X 111 [(2, ((0 : Nat) : Int)), (9, 0)] [] n h 0 0 := by
  unfold fX5_count_j111 at hF
  refine aw_aload_n hC dX5_count_111 rfl ?_
  refine aw_g5r (k := 0) (a := 0) hC dX5_count_112 lkRX5_10 (by decide) rfl rfl rfl (Or.inl ⟨hbt, by decide⟩) ?_
  obtain ⟨k11, hF⟩ := gd_some hF
  refine aw_gLiN (k := 8) hC hbt k11 dX5_count_115 lkRX5_119 (by decide) rfl ?_
  exact aw_ireturn hC hZ (Nat.zero_le _) (Nat.zero_le _) hr dX5_count_118 (hK _ _ (Option.some.inj hF).symm)
theorem fX5_count_j119_ok {G : GD} {X : CX} {n : Nat} {Q : Av → Nat → Hp → Prop} (hC : Cx G X RX5 cX5_count) (hZ : ZOK X G Q 0 0) (hRm : X.R = rmd 6 0 0) (hbt : X.bt = true) (hr : X.meth.sig.returnType = (some .int))  {h : Hp} {res : Int × Hp} (hF : fX5_count_j119  h = some res) (hK : ∀ (x9 : Int) (h9 : Hp), res = (x9, h9) → Q (0, x9) n h9) : AW G X 119 [(2, ((0 : Nat) : Int)), (9, 0)] [] n h 0 0 := by
  unfold fX5_count_j119 at hF
  refine aw_aload_n hC dX5_count_119 rfl ?_
  refine aw_gc5 (k := 4) (a := 0) (b := 26) hC hbt dX5_count_120 lkRX5_44 (by decide) rfl rfl rfl (by decide) (by decide) ?_
  refine aw_gc0N (k := 0) (a := 26) (b := 27) hC hbt dX5_count_123 lkRX5_109 (by decide) rfl rfl rfl (by decide) (by decide) ?_
  refine aw_bipush hC dX5_count_126 (by decide) (by decide) ?_
  obtain ⟨g13, hF⟩ := gd_some hF
  refine aw_iaload (a := 27) hC dX5_count_128 rfl rfl (Or.inl ⟨hbt, by decide⟩) g13.1 g13.2 ?_
  exact aw_ireturn hC hZ (Nat.zero_le _) (Nat.zero_le _) hr dX5_count_129 (hK _ _ (Option.some.inj hF).symm)
theorem fX5_count_j130_ok {G : GD} {X : CX} {n : Nat} {Q : Av → Nat → Hp → Prop} (hC : Cx G X RX5 cX5_count) (hZ : ZOK X G Q 0 0) (hRm : X.R = rmd 6 0 0) (hbt : X.bt = true) (hr : X.meth.sig.returnType = (some .int))  {h : Hp} {res : Int × Hp} (hF : fX5_count_j130  h = some res) (hK : ∀ (x9 : Int) (h9 : Hp), res = (x9, h9) → Q (0, x9) n h9) : AW G X 130 [(2, ((0 : Nat) : Int)), (9, 0)] [] n h 0 0 := by
  unfold fX5_count_j130 at hF
  refine aw_aload_n hC dX5_count_130 rfl ?_
  refine aw_gc5 (k := 4) (a := 0) (b := 26) hC hbt dX5_count_131 lkRX5_44 (by decide) rfl rfl rfl (by decide) (by decide) ?_
  refine aw_gc0N (k := 0) (a := 26) (b := 27) hC hbt dX5_count_134 lkRX5_109 (by decide) rfl rfl rfl (by decide) (by decide) ?_
  refine aw_bipush hC dX5_count_137 (by decide) (by decide) ?_
  obtain ⟨g15, hF⟩ := gd_some hF
  refine aw_iaload (a := 27) hC dX5_count_139 rfl rfl (Or.inl ⟨hbt, by decide⟩) g15.1 g15.2 ?_
  exact aw_ireturn hC hZ (Nat.zero_le _) (Nat.zero_le _) hr dX5_count_140 (hK _ _ (Option.some.inj hF).symm)
theorem fX5_count_j141_ok {G : GD} {X : CX} {n : Nat} {Q : Av → Nat → Hp → Prop} (hC : Cx G X RX5 cX5_count) (hZ : ZOK X G Q 0 0) (hRm : X.R = rmd 6 0 0) (hbt : X.bt = true) (hr : X.meth.sig.returnType = (some .int))  {h : Hp} {res : Int × Hp} (hF : fX5_count_j141  h = some res) (hK : ∀ (x9 : Int) (h9 : Hp), res = (x9, h9) → Q (0, x9) n h9) : AW G X 141 [(2, ((0 : Nat) : Int)), (9, 0)] [] n h 0 0 := by
  unfold fX5_count_j141 at hF
  refine aw_aload_n hC dX5_count_141 rfl ?_
  refine aw_g5r (k := 0) (a := 0) hC dX5_count_142 lkRX5_10 (by decide) rfl rfl rfl (Or.inl ⟨hbt, by decide⟩) ?_
  refine aw_aload_n hC dX5_count_145 rfl ?_
  refine aw_gc5 (k := 4) (a := 0) (b := 26) hC hbt dX5_count_146 lkRX5_44 (by decide) rfl rfl rfl (by decide) (by decide) ?_
  refine aw_gc0N (k := 0) (a := 26) (b := 27) hC hbt dX5_count_149 lkRX5_109 (by decide) rfl rfl rfl (by decide) (by decide) ?_
  refine aw_bipush hC dX5_count_152 (by decide) (by decide) ?_
  obtain ⟨g17, hF⟩ := gd_some hF
  refine aw_iaload (a := 27) hC dX5_count_154 rfl rfl (Or.inl ⟨hbt, by decide⟩) g17.1 g17.2 ?_
  obtain ⟨k18, hF⟩ := gd_some hF
  obtain ⟨r19, q20, hF⟩ := bp_some hF
  refine clRX5_122 hC hRm hbt dX5_count_155 (lnd k18).1 (lnd k18).2.1 (lnd k18).2.2.1 (Nat.le_of_ble_eq_true rfl) (Nat.le_of_ble_eq_true rfl) (ok_X1_fogOf q20) ?_
  exact aw_ireturn hC hZ (Nat.zero_le _) (Nat.zero_le _) hr dX5_count_158 (hK _ _ (Option.some.inj hF).symm)
theorem fX5_count_j159_ok {G : GD} {X : CX} {n : Nat} {Q : Av → Nat → Hp → Prop} (hC : Cx G X RX5 cX5_count) (hZ : ZOK X G Q 0 0) (hRm : X.R = rmd 6 0 0) (hbt : X.bt = true) (hr : X.meth.sig.returnType = (some .int))  {h : Hp} {res : Int × Hp} (hF : fX5_count_j159  h = some res) (hK : ∀ (x9 : Int) (h9 : Hp), res = (x9, h9) → Q (0, x9) n h9) : AW G X 159 [(2, ((0 : Nat) : Int)), (9, 0)] [] n h 0 0 := by
  unfold fX5_count_j159 at hF
  refine aw_aload_n hC dX5_count_159 rfl ?_
  obtain ⟨r22, h24, q23, hF⟩ := bd_some hF
  refine clRX5_126 hC hRm hbt dX5_count_160 rfl rfl (by decide) (Nat.le_of_ble_eq_true rfl) (Nat.le_of_ble_eq_true rfl) (ok_X5_present q23) ?_
  obtain ⟨g25, hF⟩ := gd_some hF
  refine aw_eqT g25.symm ?_
  obtain ⟨r26, h28, q27, hF⟩ := bd_some hF
  refine clRX5_130 hC hRm hbt dX5_count_163 rfl rfl (by decide) (Nat.le_of_ble_eq_true rfl) (Nat.le_of_ble_eq_true rfl) (ok_X3_taxOfAll q27) ?_
  exact aw_ireturn hC hZ (Nat.zero_le _) (Nat.zero_le _) hr dX5_count_166 (hK _ _ (Option.some.inj hF).symm)
theorem fX5_count_j167_ok {G : GD} {X : CX} {n : Nat} {Q : Av → Nat → Hp → Prop} (hC : Cx G X RX5 cX5_count) (hZ : ZOK X G Q 0 0) (hRm : X.R = rmd 6 0 0) (hbt : X.bt = true) (hr : X.meth.sig.returnType = (some .int))  {h : Hp} {res : Int × Hp} (hF : fX5_count_j167  h = some res) (hK : ∀ (x9 : Int) (h9 : Hp), res = (x9, h9) → Q (0, x9) n h9) : AW G X 167 [(2, ((0 : Nat) : Int)), (9, 0)] [] n h 0 0 := by
  unfold fX5_count_j167 at hF
  refine aw_aload_n hC dX5_count_167 rfl ?_
  refine aw_gc5 (k := 4) (a := 0) (b := 26) hC hbt dX5_count_168 lkRX5_44 (by decide) rfl rfl rfl (by decide) (by decide) ?_
  refine aw_g0iN (k := 3) (a := 26) hC dX5_count_171 lkRX5_134 (by decide) rfl rfl rfl (Or.inl ⟨hbt, by decide⟩) ?_
  exact aw_ireturn hC hZ (Nat.zero_le _) (Nat.zero_le _) hr dX5_count_174 (hK _ _ (Option.some.inj hF).symm)
theorem fX5_count_j175_ok {G : GD} {X : CX} {n : Nat} {Q : Av → Nat → Hp → Prop} (hC : Cx G X RX5 cX5_count) (hZ : ZOK X G Q 0 0) (hRm : X.R = rmd 6 0 0) (hbt : X.bt = true) (hr : X.meth.sig.returnType = (some .int))  {h : Hp} {res : Int × Hp} (hF : fX5_count_j175  h = some res) (hK : ∀ (x9 : Int) (h9 : Hp), res = (x9, h9) → Q (0, x9) n h9) : AW G X 175 [(2, ((0 : Nat) : Int)), (9, 0)] [] n h 0 0 := by
  unfold fX5_count_j175 at hF
  refine aw_aload_n hC dX5_count_175 rfl ?_
  refine aw_gc5 (k := 4) (a := 0) (b := 26) hC hbt dX5_count_176 lkRX5_44 (by decide) rfl rfl rfl (by decide) (by decide) ?_
  refine aw_g0iN (k := 6) (a := 26) hC dX5_count_179 lkRX5_137 (by decide) rfl rfl rfl (Or.inl ⟨hbt, by decide⟩) ?_
  exact aw_ireturn hC hZ (Nat.zero_le _) (Nat.zero_le _) hr dX5_count_182 (hK _ _ (Option.some.inj hF).symm)
theorem fX5_count_j183_ok {G : GD} {X : CX} {n : Nat} {Q : Av → Nat → Hp → Prop} (hC : Cx G X RX5 cX5_count) (hZ : ZOK X G Q 0 0) (hRm : X.R = rmd 6 0 0) (hbt : X.bt = true) (hr : X.meth.sig.returnType = (some .int))  {h : Hp} {res : Int × Hp} (hF : fX5_count_j183  h = some res) (hK : ∀ (x9 : Int) (h9 : Hp), res = (x9, h9) → Q (0, x9) n h9) : AW G X 183 [(2, ((0 : Nat) : Int)), (9, 0)] [] n h 0 0 := by
  unfold fX5_count_j183 at hF
  refine aw_aload_n hC dX5_count_183 rfl ?_
  refine aw_g5i (k := 9) (a := 0) hC dX5_count_184 lkRX5_66 (by decide) rfl rfl rfl (Or.inl ⟨hbt, by decide⟩) ?_
  exact aw_ireturn hC hZ (Nat.zero_le _) (Nat.zero_le _) hr dX5_count_187 (hK _ _ (Option.some.inj hF).symm)
theorem fX5_count_j188_ok {G : GD} {X : CX} {n : Nat} {Q : Av → Nat → Hp → Prop} (hC : Cx G X RX5 cX5_count) (hZ : ZOK X G Q 0 0) (hRm : X.R = rmd 6 0 0) (hbt : X.bt = true) (hr : X.meth.sig.returnType = (some .int))  {h : Hp} {res : Int × Hp} (hF : fX5_count_j188  h = some res) (hK : ∀ (x9 : Int) (h9 : Hp), res = (x9, h9) → Q (0, x9) n h9) : AW G X 188 [(2, ((0 : Nat) : Int)), (9, 0)] [] n h 0 0 := by
  unfold fX5_count_j188 at hF
  refine aw_aload_n hC dX5_count_188 rfl ?_
  refine aw_g5i (k := 11) (a := 0) hC dX5_count_189 lkRX5_90 (by decide) rfl rfl rfl (Or.inl ⟨hbt, by decide⟩) ?_
  exact aw_ireturn hC hZ (Nat.zero_le _) (Nat.zero_le _) hr dX5_count_192 (hK _ _ (Option.some.inj hF).symm)
theorem fX5_count_j193_ok {G : GD} {X : CX} {n : Nat} {Q : Av → Nat → Hp → Prop} (hC : Cx G X RX5 cX5_count) (hZ : ZOK X G Q 0 0) (hRm : X.R = rmd 6 0 0) (hbt : X.bt = true) (hr : X.meth.sig.returnType = (some .int))  {h : Hp} {res : Int × Hp} (hF : fX5_count_j193  h = some res) (hK : ∀ (x9 : Int) (h9 : Hp), res = (x9, h9) → Q (0, x9) n h9) : AW G X 193 [(2, ((0 : Nat) : Int)), (9, 0)] [] n h 0 0 := by
  unfold fX5_count_j193 at hF
  refine aw_aload_n hC dX5_count_193 rfl ?_
  refine aw_g5i (k := 12) (a := 0) hC dX5_count_194 lkRX5_140 (by decide) rfl rfl rfl (Or.inl ⟨hbt, by decide⟩) ?_
  exact aw_ireturn hC hZ (Nat.zero_le _) (Nat.zero_le _) hr dX5_count_197 (hK _ _ (Option.some.inj hF).symm)
theorem fX5_count_j198_ok {G : GD} {X : CX} {n : Nat} {Q : Av → Nat → Hp → Prop} (hC : Cx G X RX5 cX5_count) (hZ : ZOK X G Q 0 0) (hRm : X.R = rmd 6 0 0) (hbt : X.bt = true) (hr : X.meth.sig.returnType = (some .int))  {h : Hp} {res : Int × Hp} (hF : fX5_count_j198  h = some res) (hK : ∀ (x9 : Int) (h9 : Hp), res = (x9, h9) → Q (0, x9) n h9) : AW G X 198 [(2, ((0 : Nat) : Int)), (9, 0)] [] n h 0 0 := by
  unfold fX5_count_j198 at hF
  refine aw_aload_n hC dX5_count_198 rfl ?_
  refine aw_g5i (k := 13) (a := 0) hC dX5_count_199 lkRX5_143 (by decide) rfl rfl rfl (Or.inl ⟨hbt, by decide⟩) ?_
  exact aw_ireturn hC hZ (Nat.zero_le _) (Nat.zero_le _) hr dX5_count_202 (hK _ _ (Option.some.inj hF).symm)
theorem ok_X5_count_n {G : GD} {n : Nat} {x1 : Int} {h : Hp} {res : Int × Hp} (hF : fX5_count x1 h = some (.inl res)) : Con G yX5_count cX5_count 2 (some .int) 6 0 0 true [(2, ((0 : Nat) : Int)), (0, x1)] n h (FQ 0 n res) := by
  refine con_of (pad := 0) (own := RX5) (plainFor_of_name (by decide)) rfl rfl ?_
  intro X hC hbt hr hnm hZ hRm hn0
  have hK : ∀ (x9 : Int) (h9 : Hp), res = (x9, h9) → FQ 0 n res (0, x9) n h9 := fun x9 h9 e => by subst e; exact ⟨rfl, rfl, rfl⟩
  unfold fX5_count at hF
  show AW G X 0 [(2, ((0 : Nat) : Int)), (0, x1)] [] n h 0 0
  refine aw_iload_n hC dX5_count_0 rfl ?_
  by_cases c1 : x1 = 0
  · have hF := it_t hF c1
    refine aw_tableIn (off := 75) (tgt := 76) hC dX5_count_1 (by omega) (by omega) (by rw [c1]; rfl) (by decide) ?_
    have hF := mi_n hF
    refine aw_weak (ls' := [(2, ((0 : Nat) : Int)), (9, 0)]) ⟨Or.inr rfl, Or.inl rfl, trivial⟩ ?_
    exact fX5_count_j76_ok hC hZ hRm hbt hr hF hK
  have hF := it_f hF c1
  by_cases c2 : x1 = 1
  · have hF := it_t hF c2
    refine aw_tableIn (off := 83) (tgt := 84) hC dX5_count_1 (by omega) (by omega) (by rw [c2]; rfl) (by decide) ?_
    have hF := mi_n hF
    refine aw_weak (ls' := [(2, ((0 : Nat) : Int)), (9, 0)]) ⟨Or.inr rfl, Or.inl rfl, trivial⟩ ?_
    exact fX5_count_j84_ok hC hZ hRm hbt hr hF hK
  have hF := it_f hF c2
  by_cases c3 : x1 = 2
  · have hF := it_t hF c3
    refine aw_tableIn (off := 91) (tgt := 92) hC dX5_count_1 (by omega) (by omega) (by rw [c3]; rfl) (by decide) ?_
    have hF := mi_n hF
    refine aw_weak (ls' := [(2, ((0 : Nat) : Int)), (9, 0)]) ⟨Or.inr rfl, Or.inl rfl, trivial⟩ ?_
    exact fX5_count_j92_ok hC hZ hRm hbt hr hF hK
  have hF := it_f hF c3
  by_cases c4 : x1 = 3
  · have hF := it_t hF c4
    refine aw_tableIn (off := 102) (tgt := 103) hC dX5_count_1 (by omega) (by omega) (by rw [c4]; rfl) (by decide) ?_
    have hF := mi_n hF
    refine aw_weak (ls' := [(2, ((0 : Nat) : Int)), (9, 0)]) ⟨Or.inr rfl, Or.inl rfl, trivial⟩ ?_
    exact fX5_count_j103_ok hC hZ hRm hbt hr hF hK
  have hF := it_f hF c4
  by_cases c5 : x1 = 4
  · have hF := it_t hF c5
    refine aw_tableIn (off := 110) (tgt := 111) hC dX5_count_1 (by omega) (by omega) (by rw [c5]; rfl) (by decide) ?_
    have hF := mi_n hF
    refine aw_weak (ls' := [(2, ((0 : Nat) : Int)), (9, 0)]) ⟨Or.inr rfl, Or.inl rfl, trivial⟩ ?_
    exact fX5_count_j111_ok hC hZ hRm hbt hr hF hK
  have hF := it_f hF c5
  by_cases c6 : x1 = 5
  · have hF := it_t hF c6
    refine aw_tableIn (off := 118) (tgt := 119) hC dX5_count_1 (by omega) (by omega) (by rw [c6]; rfl) (by decide) ?_
    have hF := mi_n hF
    refine aw_weak (ls' := [(2, ((0 : Nat) : Int)), (9, 0)]) ⟨Or.inr rfl, Or.inl rfl, trivial⟩ ?_
    exact fX5_count_j119_ok hC hZ hRm hbt hr hF hK
  have hF := it_f hF c6
  by_cases c7 : x1 = 6
  · have hF := it_t hF c7
    refine aw_tableIn (off := 129) (tgt := 130) hC dX5_count_1 (by omega) (by omega) (by rw [c7]; rfl) (by decide) ?_
    have hF := mi_n hF
    refine aw_weak (ls' := [(2, ((0 : Nat) : Int)), (9, 0)]) ⟨Or.inr rfl, Or.inl rfl, trivial⟩ ?_
    exact fX5_count_j130_ok hC hZ hRm hbt hr hF hK
  have hF := it_f hF c7
  by_cases c8 : x1 = 7
  · have hF := it_t hF c8
    refine aw_tableIn (off := 140) (tgt := 141) hC dX5_count_1 (by omega) (by omega) (by rw [c8]; rfl) (by decide) ?_
    have hF := mi_n hF
    refine aw_weak (ls' := [(2, ((0 : Nat) : Int)), (9, 0)]) ⟨Or.inr rfl, Or.inl rfl, trivial⟩ ?_
    exact fX5_count_j141_ok hC hZ hRm hbt hr hF hK
  have hF := it_f hF c8
  by_cases c9 : x1 = 8
  · have hF := it_t hF c9
    refine aw_tableIn (off := 158) (tgt := 159) hC dX5_count_1 (by omega) (by omega) (by rw [c9]; rfl) (by decide) ?_
    have hF := mi_n hF
    refine aw_weak (ls' := [(2, ((0 : Nat) : Int)), (9, 0)]) ⟨Or.inr rfl, Or.inl rfl, trivial⟩ ?_
    exact fX5_count_j159_ok hC hZ hRm hbt hr hF hK
  have hF := it_f hF c9
  by_cases c10 : x1 = 9
  · have hF := it_t hF c10
    refine aw_tableIn (off := 166) (tgt := 167) hC dX5_count_1 (by omega) (by omega) (by rw [c10]; rfl) (by decide) ?_
    have hF := mi_n hF
    refine aw_weak (ls' := [(2, ((0 : Nat) : Int)), (9, 0)]) ⟨Or.inr rfl, Or.inl rfl, trivial⟩ ?_
    exact fX5_count_j167_ok hC hZ hRm hbt hr hF hK
  have hF := it_f hF c10
  by_cases c11 : x1 = 10
  · have hF := it_t hF c11
    refine aw_tableIn (off := 174) (tgt := 175) hC dX5_count_1 (by omega) (by omega) (by rw [c11]; rfl) (by decide) ?_
    have hF := mi_n hF
    refine aw_weak (ls' := [(2, ((0 : Nat) : Int)), (9, 0)]) ⟨Or.inr rfl, Or.inl rfl, trivial⟩ ?_
    exact fX5_count_j175_ok hC hZ hRm hbt hr hF hK
  have hF := it_f hF c11
  by_cases c12 : x1 = 11
  · have hF := it_t hF c12
    refine aw_tableIn (off := 182) (tgt := 183) hC dX5_count_1 (by omega) (by omega) (by rw [c12]; rfl) (by decide) ?_
    have hF := mi_n hF
    refine aw_weak (ls' := [(2, ((0 : Nat) : Int)), (9, 0)]) ⟨Or.inr rfl, Or.inl rfl, trivial⟩ ?_
    exact fX5_count_j183_ok hC hZ hRm hbt hr hF hK
  have hF := it_f hF c12
  by_cases c13 : x1 = 12
  · have hF := it_t hF c13
    refine aw_tableIn (off := 187) (tgt := 188) hC dX5_count_1 (by omega) (by omega) (by rw [c13]; rfl) (by decide) ?_
    have hF := mi_n hF
    refine aw_weak (ls' := [(2, ((0 : Nat) : Int)), (9, 0)]) ⟨Or.inr rfl, Or.inl rfl, trivial⟩ ?_
    exact fX5_count_j188_ok hC hZ hRm hbt hr hF hK
  have hF := it_f hF c13
  by_cases c14 : x1 = 13
  · have hF := it_t hF c14
    refine aw_tableIn (off := 192) (tgt := 193) hC dX5_count_1 (by omega) (by omega) (by rw [c14]; rfl) (by decide) ?_
    have hF := mi_n hF
    refine aw_weak (ls' := [(2, ((0 : Nat) : Int)), (9, 0)]) ⟨Or.inr rfl, Or.inl rfl, trivial⟩ ?_
    exact fX5_count_j193_ok hC hZ hRm hbt hr hF hK
  have hF := it_f hF c14
  by_cases c15 : x1 = 14
  · have hF := it_t hF c15
    refine aw_tableIn (off := 197) (tgt := 198) hC dX5_count_1 (by omega) (by omega) (by rw [c15]; rfl) (by decide) ?_
    have hF := mi_n hF
    refine aw_weak (ls' := [(2, ((0 : Nat) : Int)), (9, 0)]) ⟨Or.inr rfl, Or.inl rfl, trivial⟩ ?_
    exact fX5_count_j198_ok hC hZ hRm hbt hr hF hK
  have hF := it_f hF c15
  refine aw_tableOut (tgt := 203) hC dX5_count_1 (by omega) (by decide) ?_
  cases hF
theorem ok_X5_count_x {G : GD} {n : Nat} {x1 : Int} {h : Hp} {e : Nat} {h1 : Hp} (hF : fX5_count x1 h = some (.inr (e, h1))) : ConT G yX5_count cX5_count 2 (some .int) 6 true [(2, ((0 : Nat) : Int)), (0, x1)] n h e h1 := by
  refine conT_of (pad := 0) (own := RX5) (by decide) rfl rfl ?_
  intro X hC hbt hst htab hZ hRm hn0
  unfold fX5_count at hF
  show AW G X 0 [(2, ((0 : Nat) : Int)), (0, x1)] [] n h 0 0
  refine aw_iload_n hC dX5_count_0 rfl ?_
  by_cases c1 : x1 = 0
  · have hF := it_t hF c1
    refine aw_tableIn (off := 75) (tgt := 76) hC dX5_count_1 (by omega) (by omega) (by rw [c1]; rfl) (by decide) ?_
    exact (mi_x hF).elim
  have hF := it_f hF c1
  by_cases c2 : x1 = 1
  · have hF := it_t hF c2
    refine aw_tableIn (off := 83) (tgt := 84) hC dX5_count_1 (by omega) (by omega) (by rw [c2]; rfl) (by decide) ?_
    exact (mi_x hF).elim
  have hF := it_f hF c2
  by_cases c3 : x1 = 2
  · have hF := it_t hF c3
    refine aw_tableIn (off := 91) (tgt := 92) hC dX5_count_1 (by omega) (by omega) (by rw [c3]; rfl) (by decide) ?_
    exact (mi_x hF).elim
  have hF := it_f hF c3
  by_cases c4 : x1 = 3
  · have hF := it_t hF c4
    refine aw_tableIn (off := 102) (tgt := 103) hC dX5_count_1 (by omega) (by omega) (by rw [c4]; rfl) (by decide) ?_
    exact (mi_x hF).elim
  have hF := it_f hF c4
  by_cases c5 : x1 = 4
  · have hF := it_t hF c5
    refine aw_tableIn (off := 110) (tgt := 111) hC dX5_count_1 (by omega) (by omega) (by rw [c5]; rfl) (by decide) ?_
    exact (mi_x hF).elim
  have hF := it_f hF c5
  by_cases c6 : x1 = 5
  · have hF := it_t hF c6
    refine aw_tableIn (off := 118) (tgt := 119) hC dX5_count_1 (by omega) (by omega) (by rw [c6]; rfl) (by decide) ?_
    exact (mi_x hF).elim
  have hF := it_f hF c6
  by_cases c7 : x1 = 6
  · have hF := it_t hF c7
    refine aw_tableIn (off := 129) (tgt := 130) hC dX5_count_1 (by omega) (by omega) (by rw [c7]; rfl) (by decide) ?_
    exact (mi_x hF).elim
  have hF := it_f hF c7
  by_cases c8 : x1 = 7
  · have hF := it_t hF c8
    refine aw_tableIn (off := 140) (tgt := 141) hC dX5_count_1 (by omega) (by omega) (by rw [c8]; rfl) (by decide) ?_
    exact (mi_x hF).elim
  have hF := it_f hF c8
  by_cases c9 : x1 = 8
  · have hF := it_t hF c9
    refine aw_tableIn (off := 158) (tgt := 159) hC dX5_count_1 (by omega) (by omega) (by rw [c9]; rfl) (by decide) ?_
    exact (mi_x hF).elim
  have hF := it_f hF c9
  by_cases c10 : x1 = 9
  · have hF := it_t hF c10
    refine aw_tableIn (off := 166) (tgt := 167) hC dX5_count_1 (by omega) (by omega) (by rw [c10]; rfl) (by decide) ?_
    exact (mi_x hF).elim
  have hF := it_f hF c10
  by_cases c11 : x1 = 10
  · have hF := it_t hF c11
    refine aw_tableIn (off := 174) (tgt := 175) hC dX5_count_1 (by omega) (by omega) (by rw [c11]; rfl) (by decide) ?_
    exact (mi_x hF).elim
  have hF := it_f hF c11
  by_cases c12 : x1 = 11
  · have hF := it_t hF c12
    refine aw_tableIn (off := 182) (tgt := 183) hC dX5_count_1 (by omega) (by omega) (by rw [c12]; rfl) (by decide) ?_
    exact (mi_x hF).elim
  have hF := it_f hF c12
  by_cases c13 : x1 = 12
  · have hF := it_t hF c13
    refine aw_tableIn (off := 187) (tgt := 188) hC dX5_count_1 (by omega) (by omega) (by rw [c13]; rfl) (by decide) ?_
    exact (mi_x hF).elim
  have hF := it_f hF c13
  by_cases c14 : x1 = 13
  · have hF := it_t hF c14
    refine aw_tableIn (off := 192) (tgt := 193) hC dX5_count_1 (by omega) (by omega) (by rw [c14]; rfl) (by decide) ?_
    exact (mi_x hF).elim
  have hF := it_f hF c14
  by_cases c15 : x1 = 14
  · have hF := it_t hF c15
    refine aw_tableIn (off := 197) (tgt := 198) hC dX5_count_1 (by omega) (by omega) (by rw [c15]; rfl) (by decide) ?_
    exact (mi_x hF).elim
  have hF := it_f hF c15
  refine aw_tableOut (tgt := 203) hC dX5_count_1 (by omega) (by decide) ?_
  cases hF
  exact aw_throw0 (is := 148) (no := 28) (text := "no such what") hC hRm (Nat.le_of_ble_eq_true rfl) hn0 hZ hst htab (List.mem_of_getElem? (i := 18) rfl) dX5_count_203 dX5_count_206 dX5_count_207 dX5_count_209 dX5_count_212 (Nat.le_of_ble_eq_true rfl)
def fX5_needCell_j26  (h : Hp) : Option (Int × Hp) :=
  some (0, h)
def fX5_needCell (x1 : Int) (h : Hp) : Option RX :=
  (if x1 < 0 then some (.inr (0, h)) else gd_ ((h 0 0) = 1 ∨ (h 0 0) = 9) (bp_ (fX1_cells ((h 0 0)) h) (fun r3 => (if x1 < r3 then mi_ (fX5_needCell_j26 h) else some (.inr (0, h))))))
theorem fX5_needCell_j26_ok {G : GD} {X : CX} {n : Nat} {Q : Av → Nat → Hp → Prop} (hC : Cx G X RX5 cX5_needCell) (hZ : ZOK X G Q 0 0) (hRm : X.R = rmd 6 0 0) (hbt : X.bt = true) (hr : X.meth.sig.returnType = none)  {h : Hp} {res : Int × Hp} (hF : fX5_needCell_j26  h = some res) (hK : ∀ (x9 : Int) (h9 : Hp), res = (x9, h9) → Q (8, x9) n h9) : AW G X 26 [(9, 0), (9, 0)] [] n h 0 0 := by
  unfold fX5_needCell_j26 at hF
  exact aw_return hC hZ (Nat.zero_le _) (Nat.zero_le _) hr dX5_needCell_26 (hK _ _ (Option.some.inj hF).symm)
theorem ok_X5_needCell_n {G : GD} {n : Nat} {x1 : Int} {h : Hp} {res : Int × Hp} (hF : fX5_needCell x1 h = some (.inl res)) : Con G yX5_needCell cX5_needCell 2 none 6 0 0 true [(2, ((0 : Nat) : Int)), (0, x1)] n h (FQ 8 n res) := by
  refine con_of (pad := 0) (own := RX5) (plainFor_of_name (by decide)) rfl rfl ?_
  intro X hC hbt hr hnm hZ hRm hn0
  have hK : ∀ (x9 : Int) (h9 : Hp), res = (x9, h9) → FQ 8 n res (8, x9) n h9 := fun x9 h9 e => by subst e; exact ⟨rfl, rfl, rfl⟩
  unfold fX5_needCell at hF
  show AW G X 0 [(2, ((0 : Nat) : Int)), (0, x1)] [] n h 0 0
  refine aw_iload_n hC dX5_needCell_0 rfl ?_
  refine aw_if_lt (tgt := 15) hC dX5_needCell_1 (by decide) (fun c1 => ?_) (fun c1 => ?_)
  · have hF := it_t hF c1
    cases hF
  · have hF := it_f hF c1
    refine aw_iload_n hC dX5_needCell_4 rfl ?_
    refine aw_aload_n hC dX5_needCell_5 rfl ?_
    refine aw_g5r (k := 0) (a := 0) hC dX5_needCell_6 lkRX5_10 (by decide) rfl rfl rfl (Or.inl ⟨hbt, by decide⟩) ?_
    obtain ⟨k2, hF⟩ := gd_some hF
    obtain ⟨r3, q4, hF⟩ := bp_some hF
    refine clRX5_323 hC hRm hbt dX5_needCell_9 (lnd k2).1 (lnd k2).2.1 (lnd k2).2.2.1 (Nat.le_of_ble_eq_true rfl) (Nat.le_of_ble_eq_true rfl) (ok_X1_cells q4) ?_
    refine aw_icmp_lt (tgt := 26) hC dX5_needCell_12 (by decide) (fun c5 => ?_) (fun c5 => ?_)
    · have hF := it_t hF c5
      have hF := mi_n hF
      refine aw_weak (ls' := [(9, 0), (9, 0)]) ⟨Or.inl rfl, Or.inl rfl, trivial⟩ ?_
      exact fX5_needCell_j26_ok hC hZ hRm hbt hr hF hK
    · have hF := it_f hF c5
      cases hF
theorem ok_X5_needCell_x {G : GD} {n : Nat} {x1 : Int} {h : Hp} {e : Nat} {h1 : Hp} (hF : fX5_needCell x1 h = some (.inr (e, h1))) : ConT G yX5_needCell cX5_needCell 2 none 6 true [(2, ((0 : Nat) : Int)), (0, x1)] n h e h1 := by
  refine conT_of (pad := 0) (own := RX5) (by decide) rfl rfl ?_
  intro X hC hbt hst htab hZ hRm hn0
  unfold fX5_needCell at hF
  show AW G X 0 [(2, ((0 : Nat) : Int)), (0, x1)] [] n h 0 0
  refine aw_iload_n hC dX5_needCell_0 rfl ?_
  refine aw_if_lt (tgt := 15) hC dX5_needCell_1 (by decide) (fun c1 => ?_) (fun c1 => ?_)
  · have hF := it_t hF c1
    cases hF
    exact aw_throw0W (is := 358) (no := 29) (text := "no such cell") hC hRm (Nat.le_of_ble_eq_true rfl) hn0 hZ hst htab (List.mem_of_getElem? (i := 19) rfl) dX5_needCell_15 dX5_needCell_18 dX5_needCell_19 dX5_needCell_22 dX5_needCell_25 (Nat.le_of_ble_eq_true rfl)
  · have hF := it_f hF c1
    refine aw_iload_n hC dX5_needCell_4 rfl ?_
    refine aw_aload_n hC dX5_needCell_5 rfl ?_
    refine aw_g5r (k := 0) (a := 0) hC dX5_needCell_6 lkRX5_10 (by decide) rfl rfl rfl (Or.inl ⟨hbt, by decide⟩) ?_
    obtain ⟨k2, hF⟩ := gd_some hF
    obtain ⟨r3, q4, hF⟩ := bp_some hF
    refine clRX5_323 hC hRm hbt dX5_needCell_9 (lnd k2).1 (lnd k2).2.1 (lnd k2).2.2.1 (Nat.le_of_ble_eq_true rfl) (Nat.le_of_ble_eq_true rfl) (ok_X1_cells q4) ?_
    refine aw_icmp_lt (tgt := 26) hC dX5_needCell_12 (by decide) (fun c5 => ?_) (fun c5 => ?_)
    · have hF := it_t hF c5
      exact (mi_x hF).elim
    · have hF := it_f hF c5
      cases hF
      exact aw_throw0W (is := 358) (no := 29) (text := "no such cell") hC hRm (Nat.le_of_ble_eq_true rfl) hn0 hZ hst htab (List.mem_of_getElem? (i := 19) rfl) dX5_needCell_15 dX5_needCell_18 dX5_needCell_19 dX5_needCell_22 dX5_needCell_25 (Nat.le_of_ble_eq_true rfl)
def fX5_cell_j40 (x1 : Int) (h : Hp) : Option (Int × Hp) :=
  gd_ ((h 0 0) = 1 ∨ (h 0 0) = 9) (gd_ (0 ≤ x1 ∧ x1 < 64) (some ((h (Int.toNat ((h 0 0) + 1)) (Int.toNat x1)), h)))
def fX5_cell_j50 (x1 : Int) (h : Hp) : Option (Int × Hp) :=
  bd_ (fX5_present h) (fun r8 h10 => gd_ (r8 = ((20 : Nat) : Int)) (gd_ (0 ≤ x1 ∧ x1 < 64) (some ((h10 23 (Int.toNat x1)), h10))))
def fX5_cell_j60 (x1 : Int) (h : Hp) : Option (Int × Hp) :=
  bp_ (fX5_treeIn_27 x1 h) (fun r14 => some (r14, h))
def fX5_cell_j72 (x1 : Int) (h : Hp) : Option (Int × Hp) :=
  gd_ ((h 0 0) = 1 ∨ (h 0 0) = 9) (bp_ (fX1_houseIn ((h 0 0)) x1 h) (fun r18 => some (r18, h)))
def fX5_cell_j81 (x1 : Int) (h : Hp) : Option (Int × Hp) :=
  bd_ (fX5_present h) (fun r21 h23 => gd_ (r21 = ((20 : Nat) : Int)) (bd_ (fX3_housesThatSee x1 h23) (fun r25 h27 => some (r25, h27))))
def fX5_cell (x1 : Int) (x2 : Int) (h : Hp) : Option RX :=
  bx_ (fX5_needCell x1 h) (fun r1 h3 => (if x2 = 0 then mi_ (fX5_cell_j40 x1 h3) else if x2 = 1 then mi_ (fX5_cell_j50 x1 h3) else if x2 = 2 then mi_ (fX5_cell_j60 x1 h3) else if x2 = 3 then mi_ (fX5_cell_j72 x1 h3) else if x2 = 4 then mi_ (fX5_cell_j81 x1 h3) else some (.inr (0, h3))))
theorem fX5_cell_j40_ok {G : GD} {X : CX} {n : Nat} {Q : Av → Nat → Hp → Prop} (hC : Cx G X RX5 cX5_cell) (hZ : ZOK X G Q 0 0) (hRm : X.R = rmd 7 0 0) (hbt : X.bt = true) (hr : X.meth.sig.returnType = (some .int)) {x1 : Int} {h : Hp} {res : Int × Hp} (hF : fX5_cell_j40 x1 h = some res) (hK : ∀ (x9 : Int) (h9 : Hp), res = (x9, h9) → Q (0, x9) n h9) : AW G X 40 [(2, ((0 : Nat) : Int)), (0, x1), (9, 0)] [] n h 0 0 := by
  unfold fX5_cell_j40 at hF
  refine aw_aload_n hC dX5_cell_40 rfl ?_
  refine aw_g5r (k := 0) (a := 0) hC dX5_cell_41 lkRX5_10 (by decide) rfl rfl rfl (Or.inl ⟨hbt, by decide⟩) ?_
  obtain ⟨k5, hF⟩ := gd_some hF
  refine aw_gL1N hC hbt k5 dX5_cell_44 lkRX5_154 ?_
  refine aw_iload_n hC dX5_cell_47 rfl ?_
  obtain ⟨g6, hF⟩ := gd_some hF
  refine aw_iaload (a := (Int.toNat ((h 0 0) + 1))) hC dX5_cell_48 (lnd1 k5).1 (lnd1 k5).2.1 (Or.inl ⟨hbt, (lnd1 k5).2.2⟩) g6.1 g6.2 ?_
  exact aw_ireturn hC hZ (Nat.zero_le _) (Nat.zero_le _) hr dX5_cell_49 (hK _ _ (Option.some.inj hF).symm)
theorem fX5_cell_j50_ok {G : GD} {X : CX} {n : Nat} {Q : Av → Nat → Hp → Prop} (hC : Cx G X RX5 cX5_cell) (hZ : ZOK X G Q 0 0) (hRm : X.R = rmd 7 0 0) (hbt : X.bt = true) (hr : X.meth.sig.returnType = (some .int)) {x1 : Int} {h : Hp} {res : Int × Hp} (hF : fX5_cell_j50 x1 h = some res) (hK : ∀ (x9 : Int) (h9 : Hp), res = (x9, h9) → Q (0, x9) n h9) : AW G X 50 [(2, ((0 : Nat) : Int)), (0, x1), (9, 0)] [] n h 0 0 := by
  unfold fX5_cell_j50 at hF
  refine aw_aload_n hC dX5_cell_50 rfl ?_
  obtain ⟨r8, h10, q9, hF⟩ := bd_some hF
  refine clRX5_126 hC hRm hbt dX5_cell_51 rfl rfl (by decide) (Nat.le_of_ble_eq_true rfl) (Nat.le_of_ble_eq_true rfl) (ok_X5_present q9) ?_
  obtain ⟨g11, hF⟩ := gd_some hF
  refine aw_eqT g11.symm ?_
  refine aw_gc3N (k := 3) (a := 20) (b := 23) hC hbt dX5_cell_54 lkRX5_157 (by decide) rfl rfl rfl (by decide) (by decide) ?_
  refine aw_iload_n hC dX5_cell_57 rfl ?_
  obtain ⟨g12, hF⟩ := gd_some hF
  refine aw_iaload (a := 23) hC dX5_cell_58 rfl rfl (Or.inl ⟨hbt, by decide⟩) g12.1 g12.2 ?_
  exact aw_ireturn hC hZ (Nat.zero_le _) (Nat.zero_le _) hr dX5_cell_59 (hK _ _ (Option.some.inj hF).symm)
theorem fX5_cell_j60_ok {G : GD} {X : CX} {n : Nat} {Q : Av → Nat → Hp → Prop} (hC : Cx G X RX5 cX5_cell) (hZ : ZOK X G Q 0 0) (hRm : X.R = rmd 7 0 0) (hbt : X.bt = true) (hr : X.meth.sig.returnType = (some .int)) {x1 : Int} {h : Hp} {res : Int × Hp} (hF : fX5_cell_j60 x1 h = some res) (hK : ∀ (x9 : Int) (h9 : Hp), res = (x9, h9) → Q (0, x9) n h9) : AW G X 60 [(2, ((0 : Nat) : Int)), (0, x1), (9, 0)] [] n h 0 0 := by
  unfold fX5_cell_j60 at hF
  refine aw_aload_n hC dX5_cell_60 rfl ?_
  refine aw_gc5 (k := 4) (a := 0) (b := 26) hC hbt dX5_cell_61 lkRX5_44 (by decide) rfl rfl rfl (by decide) (by decide) ?_
  refine aw_gc0N (k := 0) (a := 26) (b := 27) hC hbt dX5_cell_64 lkRX5_109 (by decide) rfl rfl rfl (by decide) (by decide) ?_
  refine aw_iload_n hC dX5_cell_67 rfl ?_
  obtain ⟨r14, q15, hF⟩ := bp_some hF
  refine clRX5_160 hC hRm hbt dX5_cell_68 (Nat.le_of_ble_eq_true rfl) (Nat.le_of_ble_eq_true rfl) (ok_X5_treeIn_27 q15) ?_
  exact aw_ireturn hC hZ (Nat.zero_le _) (Nat.zero_le _) hr dX5_cell_71 (hK _ _ (Option.some.inj hF).symm)
theorem fX5_cell_j72_ok {G : GD} {X : CX} {n : Nat} {Q : Av → Nat → Hp → Prop} (hC : Cx G X RX5 cX5_cell) (hZ : ZOK X G Q 0 0) (hRm : X.R = rmd 7 0 0) (hbt : X.bt = true) (hr : X.meth.sig.returnType = (some .int)) {x1 : Int} {h : Hp} {res : Int × Hp} (hF : fX5_cell_j72 x1 h = some res) (hK : ∀ (x9 : Int) (h9 : Hp), res = (x9, h9) → Q (0, x9) n h9) : AW G X 72 [(2, ((0 : Nat) : Int)), (0, x1), (9, 0)] [] n h 0 0 := by
  unfold fX5_cell_j72 at hF
  refine aw_aload_n hC dX5_cell_72 rfl ?_
  refine aw_g5r (k := 0) (a := 0) hC dX5_cell_73 lkRX5_10 (by decide) rfl rfl rfl (Or.inl ⟨hbt, by decide⟩) ?_
  refine aw_iload_n hC dX5_cell_76 rfl ?_
  obtain ⟨k17, hF⟩ := gd_some hF
  obtain ⟨r18, q19, hF⟩ := bp_some hF
  refine clRX5_164 hC hRm hbt dX5_cell_77 (lnd k17).1 (lnd k17).2.1 (lnd k17).2.2.1 (Nat.le_of_ble_eq_true rfl) (Nat.le_of_ble_eq_true rfl) (ok_X1_houseIn q19) ?_
  exact aw_ireturn hC hZ (Nat.zero_le _) (Nat.zero_le _) hr dX5_cell_80 (hK _ _ (Option.some.inj hF).symm)
theorem fX5_cell_j81_ok {G : GD} {X : CX} {n : Nat} {Q : Av → Nat → Hp → Prop} (hC : Cx G X RX5 cX5_cell) (hZ : ZOK X G Q 0 0) (hRm : X.R = rmd 7 0 0) (hbt : X.bt = true) (hr : X.meth.sig.returnType = (some .int)) {x1 : Int} {h : Hp} {res : Int × Hp} (hF : fX5_cell_j81 x1 h = some res) (hK : ∀ (x9 : Int) (h9 : Hp), res = (x9, h9) → Q (0, x9) n h9) : AW G X 81 [(2, ((0 : Nat) : Int)), (0, x1), (9, 0)] [] n h 0 0 := by
  unfold fX5_cell_j81 at hF
  refine aw_aload_n hC dX5_cell_81 rfl ?_
  obtain ⟨r21, h23, q22, hF⟩ := bd_some hF
  refine clRX5_126 hC hRm hbt dX5_cell_82 rfl rfl (by decide) (Nat.le_of_ble_eq_true rfl) (Nat.le_of_ble_eq_true rfl) (ok_X5_present q22) ?_
  obtain ⟨g24, hF⟩ := gd_some hF
  refine aw_eqT g24.symm ?_
  refine aw_iload_n hC dX5_cell_85 rfl ?_
  obtain ⟨r25, h27, q26, hF⟩ := bd_some hF
  refine clRX5_167 hC hRm hbt dX5_cell_86 rfl rfl (by decide) (Nat.le_of_ble_eq_true rfl) (Nat.le_of_ble_eq_true rfl) (ok_X3_housesThatSee q26) ?_
  exact aw_ireturn hC hZ (Nat.zero_le _) (Nat.zero_le _) hr dX5_cell_89 (hK _ _ (Option.some.inj hF).symm)
theorem ok_X5_cell_n {G : GD} {n : Nat} {x1 : Int} {x2 : Int} {h : Hp} {res : Int × Hp} (hF : fX5_cell x1 x2 h = some (.inl res)) : Con G yX5_cell cX5_cell 3 (some .int) 7 0 0 true [(2, ((0 : Nat) : Int)), (0, x1), (0, x2)] n h (FQ 0 n res) := by
  refine con_of (pad := 0) (own := RX5) (plainFor_of_name (by decide)) rfl rfl ?_
  intro X hC hbt hr hnm hZ hRm hn0
  have hK : ∀ (x9 : Int) (h9 : Hp), res = (x9, h9) → FQ 0 n res (0, x9) n h9 := fun x9 h9 e => by subst e; exact ⟨rfl, rfl, rfl⟩
  unfold fX5_cell at hF
  show AW G X 0 [(2, ((0 : Nat) : Int)), (0, x1), (0, x2)] [] n h 0 0
  refine aw_aload_n hC dX5_cell_0 rfl ?_
  refine aw_iload_n hC dX5_cell_1 rfl ?_
  obtain ⟨r1, h3, q2, hF⟩ := bx_n hF
  refine clRX5_151 hC hRm hbt dX5_cell_2 rfl rfl (by decide) (Nat.le_of_ble_eq_true rfl) (Nat.le_of_ble_eq_true rfl) (ok_X5_needCell_n q2) ?_
  refine aw_iload_n hC dX5_cell_5 rfl ?_
  by_cases c4 : x2 = 0
  · have hF := it_t hF c4
    refine aw_tableIn (off := 34) (tgt := 40) hC dX5_cell_6 (by omega) (by omega) (by rw [c4]; rfl) (by decide) ?_
    have hF := mi_n hF
    refine aw_weak (ls' := [(2, ((0 : Nat) : Int)), (0, x1), (9, 0)]) ⟨Or.inr rfl, Or.inr rfl, Or.inl rfl, trivial⟩ ?_
    exact fX5_cell_j40_ok hC hZ hRm hbt hr hF hK
  have hF := it_f hF c4
  by_cases c5 : x2 = 1
  · have hF := it_t hF c5
    refine aw_tableIn (off := 44) (tgt := 50) hC dX5_cell_6 (by omega) (by omega) (by rw [c5]; rfl) (by decide) ?_
    have hF := mi_n hF
    refine aw_weak (ls' := [(2, ((0 : Nat) : Int)), (0, x1), (9, 0)]) ⟨Or.inr rfl, Or.inr rfl, Or.inl rfl, trivial⟩ ?_
    exact fX5_cell_j50_ok hC hZ hRm hbt hr hF hK
  have hF := it_f hF c5
  by_cases c6 : x2 = 2
  · have hF := it_t hF c6
    refine aw_tableIn (off := 54) (tgt := 60) hC dX5_cell_6 (by omega) (by omega) (by rw [c6]; rfl) (by decide) ?_
    have hF := mi_n hF
    refine aw_weak (ls' := [(2, ((0 : Nat) : Int)), (0, x1), (9, 0)]) ⟨Or.inr rfl, Or.inr rfl, Or.inl rfl, trivial⟩ ?_
    exact fX5_cell_j60_ok hC hZ hRm hbt hr hF hK
  have hF := it_f hF c6
  by_cases c7 : x2 = 3
  · have hF := it_t hF c7
    refine aw_tableIn (off := 66) (tgt := 72) hC dX5_cell_6 (by omega) (by omega) (by rw [c7]; rfl) (by decide) ?_
    have hF := mi_n hF
    refine aw_weak (ls' := [(2, ((0 : Nat) : Int)), (0, x1), (9, 0)]) ⟨Or.inr rfl, Or.inr rfl, Or.inl rfl, trivial⟩ ?_
    exact fX5_cell_j72_ok hC hZ hRm hbt hr hF hK
  have hF := it_f hF c7
  by_cases c8 : x2 = 4
  · have hF := it_t hF c8
    refine aw_tableIn (off := 75) (tgt := 81) hC dX5_cell_6 (by omega) (by omega) (by rw [c8]; rfl) (by decide) ?_
    have hF := mi_n hF
    refine aw_weak (ls' := [(2, ((0 : Nat) : Int)), (0, x1), (9, 0)]) ⟨Or.inr rfl, Or.inr rfl, Or.inl rfl, trivial⟩ ?_
    exact fX5_cell_j81_ok hC hZ hRm hbt hr hF hK
  have hF := it_f hF c8
  refine aw_tableOut (tgt := 90) hC dX5_cell_6 (by omega) (by decide) ?_
  cases hF
theorem ok_X5_cell_x {G : GD} {n : Nat} {x1 : Int} {x2 : Int} {h : Hp} {e : Nat} {h1 : Hp} (hF : fX5_cell x1 x2 h = some (.inr (e, h1))) : ConT G yX5_cell cX5_cell 3 (some .int) 7 true [(2, ((0 : Nat) : Int)), (0, x1), (0, x2)] n h e h1 := by
  refine conT_of (pad := 0) (own := RX5) (by decide) rfl rfl ?_
  intro X hC hbt hst htab hZ hRm hn0
  unfold fX5_cell at hF
  show AW G X 0 [(2, ((0 : Nat) : Int)), (0, x1), (0, x2)] [] n h 0 0
  refine aw_aload_n hC dX5_cell_0 rfl ?_
  refine aw_iload_n hC dX5_cell_1 rfl ?_
  rcases bx_x hF with ⟨r1, h3, q2, hF⟩ | q2
  rotate_left
  · exact clTRX5_151 hC hRm hbt hn0 hZ hst htab dX5_cell_2 rfl rfl (by decide) (Nat.le_of_ble_eq_true rfl) (Nat.le_of_ble_eq_true rfl) (ok_X5_needCell_x q2)
  refine clRX5_151 hC hRm hbt dX5_cell_2 rfl rfl (by decide) (Nat.le_of_ble_eq_true rfl) (Nat.le_of_ble_eq_true rfl) (ok_X5_needCell_n q2) ?_
  refine aw_iload_n hC dX5_cell_5 rfl ?_
  by_cases c4 : x2 = 0
  · have hF := it_t hF c4
    refine aw_tableIn (off := 34) (tgt := 40) hC dX5_cell_6 (by omega) (by omega) (by rw [c4]; rfl) (by decide) ?_
    exact (mi_x hF).elim
  have hF := it_f hF c4
  by_cases c5 : x2 = 1
  · have hF := it_t hF c5
    refine aw_tableIn (off := 44) (tgt := 50) hC dX5_cell_6 (by omega) (by omega) (by rw [c5]; rfl) (by decide) ?_
    exact (mi_x hF).elim
  have hF := it_f hF c5
  by_cases c6 : x2 = 2
  · have hF := it_t hF c6
    refine aw_tableIn (off := 54) (tgt := 60) hC dX5_cell_6 (by omega) (by omega) (by rw [c6]; rfl) (by decide) ?_
    exact (mi_x hF).elim
  have hF := it_f hF c6
  by_cases c7 : x2 = 3
  · have hF := it_t hF c7
    refine aw_tableIn (off := 66) (tgt := 72) hC dX5_cell_6 (by omega) (by omega) (by rw [c7]; rfl) (by decide) ?_
    exact (mi_x hF).elim
  have hF := it_f hF c7
  by_cases c8 : x2 = 4
  · have hF := it_t hF c8
    refine aw_tableIn (off := 75) (tgt := 81) hC dX5_cell_6 (by omega) (by omega) (by rw [c8]; rfl) (by decide) ?_
    exact (mi_x hF).elim
  have hF := it_f hF c8
  refine aw_tableOut (tgt := 90) hC dX5_cell_6 (by omega) (by decide) ?_
  cases hF
  exact aw_throw0 (is := 148) (no := 28) (text := "no such what") hC hRm (Nat.le_of_ble_eq_true rfl) hn0 hZ hst htab (List.mem_of_getElem? (i := 18) rfl) dX5_cell_90 dX5_cell_93 dX5_cell_94 dX5_cell_96 dX5_cell_99 (Nat.le_of_ble_eq_true rfl)
def fX5_needTree_j36  (h : Hp) : Option (Int × Hp) :=
  some (0, h)
def fX5_needTree (x1 : Int) (h : Hp) : Option RX :=
  (if x1 < 0 then some (.inr (0, h)) else (if 12 ≤ x1 then some (.inr (0, h)) else gd_ (0 ≤ (i_add 0 x1) ∧ (i_add 0 x1) < 62) ((if (h 27 (Int.toNat ((i_add 0 x1)))) = (-1) then some (.inr (0, h)) else mi_ (fX5_needTree_j36 h)))))
theorem fX5_needTree_j36_ok {G : GD} {X : CX} {n : Nat} {Q : Av → Nat → Hp → Prop} (hC : Cx G X RX5 cX5_needTree) (hZ : ZOK X G Q 0 0) (hRm : X.R = rmd 6 0 0) (hbt : X.bt = true) (hr : X.meth.sig.returnType = none)  {h : Hp} {res : Int × Hp} (hF : fX5_needTree_j36  h = some res) (hK : ∀ (x9 : Int) (h9 : Hp), res = (x9, h9) → Q (8, x9) n h9) : AW G X 36 [(9, 0), (9, 0)] [] n h 0 0 := by
  unfold fX5_needTree_j36 at hF
  exact aw_return hC hZ (Nat.zero_le _) (Nat.zero_le _) hr dX5_needTree_36 (hK _ _ (Option.some.inj hF).symm)
theorem ok_X5_needTree_n {G : GD} {n : Nat} {x1 : Int} {h : Hp} {res : Int × Hp} (hF : fX5_needTree x1 h = some (.inl res)) : Con G yX5_needTree cX5_needTree 2 none 6 0 0 true [(2, ((0 : Nat) : Int)), (0, x1)] n h (FQ 8 n res) := by
  refine con_of (pad := 0) (own := RX5) (plainFor_of_name (by decide)) rfl rfl ?_
  intro X hC hbt hr hnm hZ hRm hn0
  have hK : ∀ (x9 : Int) (h9 : Hp), res = (x9, h9) → FQ 8 n res (8, x9) n h9 := fun x9 h9 e => by subst e; exact ⟨rfl, rfl, rfl⟩
  unfold fX5_needTree at hF
  show AW G X 0 [(2, ((0 : Nat) : Int)), (0, x1)] [] n h 0 0
  refine aw_iload_n hC dX5_needTree_0 rfl ?_
  refine aw_if_lt (tgt := 25) hC dX5_needTree_1 (by decide) (fun c1 => ?_) (fun c1 => ?_)
  · have hF := it_t hF c1
    cases hF
  · have hF := it_f hF c1
    refine aw_iload_n hC dX5_needTree_4 rfl ?_
    refine aw_bipush hC dX5_needTree_5 (by decide) (by decide) ?_
    refine aw_icmp_ge (tgt := 25) hC dX5_needTree_7 (by decide) (fun c2 => ?_) (fun c2 => ?_)
    · have hF := it_t hF c2
      cases hF
    · have hF := it_f hF c2
      refine aw_aload_n hC dX5_needTree_10 rfl ?_
      refine aw_gc5 (k := 4) (a := 0) (b := 26) hC hbt dX5_needTree_11 lkRX5_44 (by decide) rfl rfl rfl (by decide) (by decide) ?_
      refine aw_gc0N (k := 0) (a := 26) (b := 27) hC hbt dX5_needTree_14 lkRX5_109 (by decide) rfl rfl rfl (by decide) (by decide) ?_
      refine aw_iconst hC dX5_needTree_17 (by decide) ?_
      refine aw_iload_n hC dX5_needTree_18 rfl ?_
      refine aw_iadd hC dX5_needTree_19 ?_
      obtain ⟨g3, hF⟩ := gd_some hF
      refine aw_iaload (a := 27) hC dX5_needTree_20 rfl rfl (Or.inl ⟨hbt, by decide⟩) g3.1 g3.2 ?_
      refine aw_iconst hC dX5_needTree_21 (by decide) ?_
      refine aw_icmp_ne (tgt := 36) hC dX5_needTree_22 (by decide) (fun c4 => ?_) (fun c4 => ?_)
      · have hF := it_f hF c4
        have hF := mi_n hF
        refine aw_weak (ls' := [(9, 0), (9, 0)]) ⟨Or.inl rfl, Or.inl rfl, trivial⟩ ?_
        exact fX5_needTree_j36_ok hC hZ hRm hbt hr hF hK
      · have hF := it_t hF c4
        cases hF
theorem ok_X5_needTree_x {G : GD} {n : Nat} {x1 : Int} {h : Hp} {e : Nat} {h1 : Hp} (hF : fX5_needTree x1 h = some (.inr (e, h1))) : ConT G yX5_needTree cX5_needTree 2 none 6 true [(2, ((0 : Nat) : Int)), (0, x1)] n h e h1 := by
  refine conT_of (pad := 0) (own := RX5) (by decide) rfl rfl ?_
  intro X hC hbt hst htab hZ hRm hn0
  unfold fX5_needTree at hF
  show AW G X 0 [(2, ((0 : Nat) : Int)), (0, x1)] [] n h 0 0
  refine aw_iload_n hC dX5_needTree_0 rfl ?_
  refine aw_if_lt (tgt := 25) hC dX5_needTree_1 (by decide) (fun c1 => ?_) (fun c1 => ?_)
  · have hF := it_t hF c1
    cases hF
    exact aw_throw0W (is := 362) (no := 30) (text := "no such tree") hC hRm (Nat.le_of_ble_eq_true rfl) hn0 hZ hst htab (List.mem_of_getElem? (i := 20) rfl) dX5_needTree_25 dX5_needTree_28 dX5_needTree_29 dX5_needTree_32 dX5_needTree_35 (Nat.le_of_ble_eq_true rfl)
  · have hF := it_f hF c1
    refine aw_iload_n hC dX5_needTree_4 rfl ?_
    refine aw_bipush hC dX5_needTree_5 (by decide) (by decide) ?_
    refine aw_icmp_ge (tgt := 25) hC dX5_needTree_7 (by decide) (fun c2 => ?_) (fun c2 => ?_)
    · have hF := it_t hF c2
      cases hF
      exact aw_throw0W (is := 362) (no := 30) (text := "no such tree") hC hRm (Nat.le_of_ble_eq_true rfl) hn0 hZ hst htab (List.mem_of_getElem? (i := 20) rfl) dX5_needTree_25 dX5_needTree_28 dX5_needTree_29 dX5_needTree_32 dX5_needTree_35 (Nat.le_of_ble_eq_true rfl)
    · have hF := it_f hF c2
      refine aw_aload_n hC dX5_needTree_10 rfl ?_
      refine aw_gc5 (k := 4) (a := 0) (b := 26) hC hbt dX5_needTree_11 lkRX5_44 (by decide) rfl rfl rfl (by decide) (by decide) ?_
      refine aw_gc0N (k := 0) (a := 26) (b := 27) hC hbt dX5_needTree_14 lkRX5_109 (by decide) rfl rfl rfl (by decide) (by decide) ?_
      refine aw_iconst hC dX5_needTree_17 (by decide) ?_
      refine aw_iload_n hC dX5_needTree_18 rfl ?_
      refine aw_iadd hC dX5_needTree_19 ?_
      obtain ⟨g3, hF⟩ := gd_some hF
      refine aw_iaload (a := 27) hC dX5_needTree_20 rfl rfl (Or.inl ⟨hbt, by decide⟩) g3.1 g3.2 ?_
      refine aw_iconst hC dX5_needTree_21 (by decide) ?_
      refine aw_icmp_ne (tgt := 36) hC dX5_needTree_22 (by decide) (fun c4 => ?_) (fun c4 => ?_)
      · have hF := it_f hF c4
        exact (mi_x hF).elim
      · have hF := it_t hF c4
        cases hF
        exact aw_throw0W (is := 362) (no := 30) (text := "no such tree") hC hRm (Nat.le_of_ble_eq_true rfl) hn0 hZ hst htab (List.mem_of_getElem? (i := 20) rfl) dX5_needTree_25 dX5_needTree_28 dX5_needTree_29 dX5_needTree_32 dX5_needTree_35 (Nat.le_of_ble_eq_true rfl)
def fX5_tree_j32 (x1 : Int) (h : Hp) : Option (Int × Hp) :=
  gd_ (0 ≤ (i_add 0 x1) ∧ (i_add 0 x1) < 62) (some ((h 27 (Int.toNat ((i_add 0 x1)))), h))
def fX5_tree_j44 (x1 : Int) (h : Hp) : Option (Int × Hp) :=
  gd_ (0 ≤ (i_add 12 x1) ∧ (i_add 12 x1) < 62) (some ((h 27 (Int.toNat ((i_add 12 x1)))), h))
def fX5_tree_j57 (x1 : Int) (h : Hp) : Option (Int × Hp) :=
  gd_ (0 ≤ (i_add 24 x1) ∧ (i_add 24 x1) < 62) (some ((h 27 (Int.toNat ((i_add 24 x1)))), h))
def fX5_tree (x1 : Int) (x2 : Int) (h : Hp) : Option RX :=
  bx_ (fX5_needTree x1 h) (fun r1 h3 => (if x2 = 0 then mi_ (fX5_tree_j32 x1 h3) else if x2 = 1 then mi_ (fX5_tree_j44 x1 h3) else if x2 = 2 then mi_ (fX5_tree_j57 x1 h3) else some (.inr (0, h3))))
theorem fX5_tree_j32_ok {G : GD} {X : CX} {n : Nat} {Q : Av → Nat → Hp → Prop} (hC : Cx G X RX5 cX5_tree) (hZ : ZOK X G Q 0 0) (hRm : X.R = rmd 7 0 0) (hbt : X.bt = true) (hr : X.meth.sig.returnType = (some .int)) {x1 : Int} {h : Hp} {res : Int × Hp} (hF : fX5_tree_j32 x1 h = some res) (hK : ∀ (x9 : Int) (h9 : Hp), res = (x9, h9) → Q (0, x9) n h9) : AW G X 32 [(2, ((0 : Nat) : Int)), (0, x1), (9, 0)] [] n h 0 0 := by
  unfold fX5_tree_j32 at hF
  refine aw_aload_n hC dX5_tree_32 rfl ?_
  refine aw_gc5 (k := 4) (a := 0) (b := 26) hC hbt dX5_tree_33 lkRX5_44 (by decide) rfl rfl rfl (by decide) (by decide) ?_
  refine aw_gc0N (k := 0) (a := 26) (b := 27) hC hbt dX5_tree_36 lkRX5_109 (by decide) rfl rfl rfl (by decide) (by decide) ?_
  refine aw_iconst hC dX5_tree_39 (by decide) ?_
  refine aw_iload_n hC dX5_tree_40 rfl ?_
  refine aw_iadd hC dX5_tree_41 ?_
  obtain ⟨g5, hF⟩ := gd_some hF
  refine aw_iaload (a := 27) hC dX5_tree_42 rfl rfl (Or.inl ⟨hbt, by decide⟩) g5.1 g5.2 ?_
  exact aw_ireturn hC hZ (Nat.zero_le _) (Nat.zero_le _) hr dX5_tree_43 (hK _ _ (Option.some.inj hF).symm)
theorem fX5_tree_j44_ok {G : GD} {X : CX} {n : Nat} {Q : Av → Nat → Hp → Prop} (hC : Cx G X RX5 cX5_tree) (hZ : ZOK X G Q 0 0) (hRm : X.R = rmd 7 0 0) (hbt : X.bt = true) (hr : X.meth.sig.returnType = (some .int)) {x1 : Int} {h : Hp} {res : Int × Hp} (hF : fX5_tree_j44 x1 h = some res) (hK : ∀ (x9 : Int) (h9 : Hp), res = (x9, h9) → Q (0, x9) n h9) : AW G X 44 [(2, ((0 : Nat) : Int)), (0, x1), (9, 0)] [] n h 0 0 := by
  unfold fX5_tree_j44 at hF
  refine aw_aload_n hC dX5_tree_44 rfl ?_
  refine aw_gc5 (k := 4) (a := 0) (b := 26) hC hbt dX5_tree_45 lkRX5_44 (by decide) rfl rfl rfl (by decide) (by decide) ?_
  refine aw_gc0N (k := 0) (a := 26) (b := 27) hC hbt dX5_tree_48 lkRX5_109 (by decide) rfl rfl rfl (by decide) (by decide) ?_
  refine aw_bipush hC dX5_tree_51 (by decide) (by decide) ?_
  refine aw_iload_n hC dX5_tree_53 rfl ?_
  refine aw_iadd hC dX5_tree_54 ?_
  obtain ⟨g7, hF⟩ := gd_some hF
  refine aw_iaload (a := 27) hC dX5_tree_55 rfl rfl (Or.inl ⟨hbt, by decide⟩) g7.1 g7.2 ?_
  exact aw_ireturn hC hZ (Nat.zero_le _) (Nat.zero_le _) hr dX5_tree_56 (hK _ _ (Option.some.inj hF).symm)
theorem fX5_tree_j57_ok {G : GD} {X : CX} {n : Nat} {Q : Av → Nat → Hp → Prop} (hC : Cx G X RX5 cX5_tree) (hZ : ZOK X G Q 0 0) (hRm : X.R = rmd 7 0 0) (hbt : X.bt = true) (hr : X.meth.sig.returnType = (some .int)) {x1 : Int} {h : Hp} {res : Int × Hp} (hF : fX5_tree_j57 x1 h = some res) (hK : ∀ (x9 : Int) (h9 : Hp), res = (x9, h9) → Q (0, x9) n h9) : AW G X 57 [(2, ((0 : Nat) : Int)), (0, x1), (9, 0)] [] n h 0 0 := by
  unfold fX5_tree_j57 at hF
  refine aw_aload_n hC dX5_tree_57 rfl ?_
  refine aw_gc5 (k := 4) (a := 0) (b := 26) hC hbt dX5_tree_58 lkRX5_44 (by decide) rfl rfl rfl (by decide) (by decide) ?_
  refine aw_gc0N (k := 0) (a := 26) (b := 27) hC hbt dX5_tree_61 lkRX5_109 (by decide) rfl rfl rfl (by decide) (by decide) ?_
  refine aw_bipush hC dX5_tree_64 (by decide) (by decide) ?_
  refine aw_iload_n hC dX5_tree_66 rfl ?_
  refine aw_iadd hC dX5_tree_67 ?_
  obtain ⟨g9, hF⟩ := gd_some hF
  refine aw_iaload (a := 27) hC dX5_tree_68 rfl rfl (Or.inl ⟨hbt, by decide⟩) g9.1 g9.2 ?_
  exact aw_ireturn hC hZ (Nat.zero_le _) (Nat.zero_le _) hr dX5_tree_69 (hK _ _ (Option.some.inj hF).symm)
theorem ok_X5_tree_n {G : GD} {n : Nat} {x1 : Int} {x2 : Int} {h : Hp} {res : Int × Hp} (hF : fX5_tree x1 x2 h = some (.inl res)) : Con G yX5_tree cX5_tree 3 (some .int) 7 0 0 true [(2, ((0 : Nat) : Int)), (0, x1), (0, x2)] n h (FQ 0 n res) := by
  refine con_of (pad := 0) (own := RX5) (plainFor_of_name (by decide)) rfl rfl ?_
  intro X hC hbt hr hnm hZ hRm hn0
  have hK : ∀ (x9 : Int) (h9 : Hp), res = (x9, h9) → FQ 0 n res (0, x9) n h9 := fun x9 h9 e => by subst e; exact ⟨rfl, rfl, rfl⟩
  unfold fX5_tree at hF
  show AW G X 0 [(2, ((0 : Nat) : Int)), (0, x1), (0, x2)] [] n h 0 0
  refine aw_aload_n hC dX5_tree_0 rfl ?_
  refine aw_iload_n hC dX5_tree_1 rfl ?_
  obtain ⟨r1, h3, q2, hF⟩ := bx_n hF
  refine clRX5_170 hC hRm hbt dX5_tree_2 rfl rfl (by decide) (Nat.le_of_ble_eq_true rfl) (Nat.le_of_ble_eq_true rfl) (ok_X5_needTree_n q2) ?_
  refine aw_iload_n hC dX5_tree_5 rfl ?_
  by_cases c4 : x2 = 0
  · have hF := it_t hF c4
    refine aw_tableIn (off := 26) (tgt := 32) hC dX5_tree_6 (by omega) (by omega) (by rw [c4]; rfl) (by decide) ?_
    have hF := mi_n hF
    refine aw_weak (ls' := [(2, ((0 : Nat) : Int)), (0, x1), (9, 0)]) ⟨Or.inr rfl, Or.inr rfl, Or.inl rfl, trivial⟩ ?_
    exact fX5_tree_j32_ok hC hZ hRm hbt hr hF hK
  have hF := it_f hF c4
  by_cases c5 : x2 = 1
  · have hF := it_t hF c5
    refine aw_tableIn (off := 38) (tgt := 44) hC dX5_tree_6 (by omega) (by omega) (by rw [c5]; rfl) (by decide) ?_
    have hF := mi_n hF
    refine aw_weak (ls' := [(2, ((0 : Nat) : Int)), (0, x1), (9, 0)]) ⟨Or.inr rfl, Or.inr rfl, Or.inl rfl, trivial⟩ ?_
    exact fX5_tree_j44_ok hC hZ hRm hbt hr hF hK
  have hF := it_f hF c5
  by_cases c6 : x2 = 2
  · have hF := it_t hF c6
    refine aw_tableIn (off := 51) (tgt := 57) hC dX5_tree_6 (by omega) (by omega) (by rw [c6]; rfl) (by decide) ?_
    have hF := mi_n hF
    refine aw_weak (ls' := [(2, ((0 : Nat) : Int)), (0, x1), (9, 0)]) ⟨Or.inr rfl, Or.inr rfl, Or.inl rfl, trivial⟩ ?_
    exact fX5_tree_j57_ok hC hZ hRm hbt hr hF hK
  have hF := it_f hF c6
  refine aw_tableOut (tgt := 70) hC dX5_tree_6 (by omega) (by decide) ?_
  cases hF
theorem ok_X5_tree_x {G : GD} {n : Nat} {x1 : Int} {x2 : Int} {h : Hp} {e : Nat} {h1 : Hp} (hF : fX5_tree x1 x2 h = some (.inr (e, h1))) : ConT G yX5_tree cX5_tree 3 (some .int) 7 true [(2, ((0 : Nat) : Int)), (0, x1), (0, x2)] n h e h1 := by
  refine conT_of (pad := 0) (own := RX5) (by decide) rfl rfl ?_
  intro X hC hbt hst htab hZ hRm hn0
  unfold fX5_tree at hF
  show AW G X 0 [(2, ((0 : Nat) : Int)), (0, x1), (0, x2)] [] n h 0 0
  refine aw_aload_n hC dX5_tree_0 rfl ?_
  refine aw_iload_n hC dX5_tree_1 rfl ?_
  rcases bx_x hF with ⟨r1, h3, q2, hF⟩ | q2
  rotate_left
  · exact clTRX5_170 hC hRm hbt hn0 hZ hst htab dX5_tree_2 rfl rfl (by decide) (Nat.le_of_ble_eq_true rfl) (Nat.le_of_ble_eq_true rfl) (ok_X5_needTree_x q2)
  refine clRX5_170 hC hRm hbt dX5_tree_2 rfl rfl (by decide) (Nat.le_of_ble_eq_true rfl) (Nat.le_of_ble_eq_true rfl) (ok_X5_needTree_n q2) ?_
  refine aw_iload_n hC dX5_tree_5 rfl ?_
  by_cases c4 : x2 = 0
  · have hF := it_t hF c4
    refine aw_tableIn (off := 26) (tgt := 32) hC dX5_tree_6 (by omega) (by omega) (by rw [c4]; rfl) (by decide) ?_
    exact (mi_x hF).elim
  have hF := it_f hF c4
  by_cases c5 : x2 = 1
  · have hF := it_t hF c5
    refine aw_tableIn (off := 38) (tgt := 44) hC dX5_tree_6 (by omega) (by omega) (by rw [c5]; rfl) (by decide) ?_
    exact (mi_x hF).elim
  have hF := it_f hF c5
  by_cases c6 : x2 = 2
  · have hF := it_t hF c6
    refine aw_tableIn (off := 51) (tgt := 57) hC dX5_tree_6 (by omega) (by omega) (by rw [c6]; rfl) (by decide) ?_
    exact (mi_x hF).elim
  have hF := it_f hF c6
  refine aw_tableOut (tgt := 70) hC dX5_tree_6 (by omega) (by decide) ?_
  cases hF
  exact aw_throw0 (is := 148) (no := 28) (text := "no such what") hC hRm (Nat.le_of_ble_eq_true rfl) hn0 hZ hst htab (List.mem_of_getElem? (i := 18) rfl) dX5_tree_70 dX5_tree_73 dX5_tree_74 dX5_tree_76 dX5_tree_79 (Nat.le_of_ble_eq_true rfl)
def fX5_needHouse_j26  (h : Hp) : Option (Int × Hp) :=
  some (0, h)
def fX5_needHouse (x1 : Int) (h : Hp) : Option RX :=
  (if x1 < 0 then some (.inr (0, h)) else gd_ ((h 0 0) = 1 ∨ (h 0 0) = 9) ((if x1 < (h (Int.toNat ((h 0 0))) 3) then mi_ (fX5_needHouse_j26 h) else some (.inr (0, h)))))
theorem fX5_needHouse_j26_ok {G : GD} {X : CX} {n : Nat} {Q : Av → Nat → Hp → Prop} (hC : Cx G X RX5 cX5_needHouse) (hZ : ZOK X G Q 0 0) (hRm : X.R = rmd 6 0 0) (hbt : X.bt = true) (hr : X.meth.sig.returnType = none)  {h : Hp} {res : Int × Hp} (hF : fX5_needHouse_j26  h = some res) (hK : ∀ (x9 : Int) (h9 : Hp), res = (x9, h9) → Q (8, x9) n h9) : AW G X 26 [(9, 0), (9, 0)] [] n h 0 0 := by
  unfold fX5_needHouse_j26 at hF
  exact aw_return hC hZ (Nat.zero_le _) (Nat.zero_le _) hr dX5_needHouse_26 (hK _ _ (Option.some.inj hF).symm)
theorem ok_X5_needHouse_n {G : GD} {n : Nat} {x1 : Int} {h : Hp} {res : Int × Hp} (hF : fX5_needHouse x1 h = some (.inl res)) : Con G yX5_needHouse cX5_needHouse 2 none 6 0 0 true [(2, ((0 : Nat) : Int)), (0, x1)] n h (FQ 8 n res) := by
  refine con_of (pad := 0) (own := RX5) (plainFor_of_name (by decide)) rfl rfl ?_
  intro X hC hbt hr hnm hZ hRm hn0
  have hK : ∀ (x9 : Int) (h9 : Hp), res = (x9, h9) → FQ 8 n res (8, x9) n h9 := fun x9 h9 e => by subst e; exact ⟨rfl, rfl, rfl⟩
  unfold fX5_needHouse at hF
  show AW G X 0 [(2, ((0 : Nat) : Int)), (0, x1)] [] n h 0 0
  refine aw_iload_n hC dX5_needHouse_0 rfl ?_
  refine aw_if_lt (tgt := 15) hC dX5_needHouse_1 (by decide) (fun c1 => ?_) (fun c1 => ?_)
  · have hF := it_t hF c1
    cases hF
  · have hF := it_f hF c1
    refine aw_iload_n hC dX5_needHouse_4 rfl ?_
    refine aw_aload_n hC dX5_needHouse_5 rfl ?_
    refine aw_g5r (k := 0) (a := 0) hC dX5_needHouse_6 lkRX5_10 (by decide) rfl rfl rfl (Or.inl ⟨hbt, by decide⟩) ?_
    obtain ⟨k2, hF⟩ := gd_some hF
    refine aw_gLiN (k := 3) hC hbt k2 dX5_needHouse_9 lkRX5_116 (by decide) rfl ?_
    refine aw_icmp_lt (tgt := 26) hC dX5_needHouse_12 (by decide) (fun c3 => ?_) (fun c3 => ?_)
    · have hF := it_t hF c3
      have hF := mi_n hF
      refine aw_weak (ls' := [(9, 0), (9, 0)]) ⟨Or.inl rfl, Or.inl rfl, trivial⟩ ?_
      exact fX5_needHouse_j26_ok hC hZ hRm hbt hr hF hK
    · have hF := it_f hF c3
      cases hF
theorem ok_X5_needHouse_x {G : GD} {n : Nat} {x1 : Int} {h : Hp} {e : Nat} {h1 : Hp} (hF : fX5_needHouse x1 h = some (.inr (e, h1))) : ConT G yX5_needHouse cX5_needHouse 2 none 6 true [(2, ((0 : Nat) : Int)), (0, x1)] n h e h1 := by
  refine conT_of (pad := 0) (own := RX5) (by decide) rfl rfl ?_
  intro X hC hbt hst htab hZ hRm hn0
  unfold fX5_needHouse at hF
  show AW G X 0 [(2, ((0 : Nat) : Int)), (0, x1)] [] n h 0 0
  refine aw_iload_n hC dX5_needHouse_0 rfl ?_
  refine aw_if_lt (tgt := 15) hC dX5_needHouse_1 (by decide) (fun c1 => ?_) (fun c1 => ?_)
  · have hF := it_t hF c1
    cases hF
    exact aw_throw0W (is := 360) (no := 31) (text := "no such house") hC hRm (Nat.le_of_ble_eq_true rfl) hn0 hZ hst htab (List.mem_of_getElem? (i := 21) rfl) dX5_needHouse_15 dX5_needHouse_18 dX5_needHouse_19 dX5_needHouse_22 dX5_needHouse_25 (Nat.le_of_ble_eq_true rfl)
  · have hF := it_f hF c1
    refine aw_iload_n hC dX5_needHouse_4 rfl ?_
    refine aw_aload_n hC dX5_needHouse_5 rfl ?_
    refine aw_g5r (k := 0) (a := 0) hC dX5_needHouse_6 lkRX5_10 (by decide) rfl rfl rfl (Or.inl ⟨hbt, by decide⟩) ?_
    obtain ⟨k2, hF⟩ := gd_some hF
    refine aw_gLiN (k := 3) hC hbt k2 dX5_needHouse_9 lkRX5_116 (by decide) rfl ?_
    refine aw_icmp_lt (tgt := 26) hC dX5_needHouse_12 (by decide) (fun c3 => ?_) (fun c3 => ?_)
    · have hF := it_t hF c3
      exact (mi_x hF).elim
    · have hF := it_f hF c3
      cases hF
      exact aw_throw0W (is := 360) (no := 31) (text := "no such house") hC hRm (Nat.le_of_ble_eq_true rfl) hn0 hZ hst htab (List.mem_of_getElem? (i := 21) rfl) dX5_needHouse_15 dX5_needHouse_18 dX5_needHouse_19 dX5_needHouse_22 dX5_needHouse_25 (Nat.le_of_ble_eq_true rfl)
def fX5_house_j56 (x1 : Int) (h : Hp) : Option (Int × Hp) :=
  gd_ ((h 0 0) = 1 ∨ (h 0 0) = 9) (gd_ (0 ≤ x1 ∧ x1 < 6) (some ((h (Int.toNat ((h 0 0) + 2)) (Int.toNat x1)), h)))
def fX5_house_j66 (x1 : Int) (h : Hp) : Option (Int × Hp) :=
  gd_ ((h 0 0) = 1 ∨ (h 0 0) = 9) (gd_ (0 ≤ x1 ∧ x1 < 6) (some ((h (Int.toNat ((h 0 0) + 3)) (Int.toNat x1)), h)))
def fX5_house_j76 (x1 : Int) (h : Hp) : Option (Int × Hp) :=
  gd_ (0 ≤ (i_add 36 x1) ∧ (i_add 36 x1) < 62) (some ((h 27 (Int.toNat ((i_add 36 x1)))), h))
def fX5_house_j89 (x1 : Int) (h : Hp) : Option (Int × Hp) :=
  gd_ (0 ≤ (i_add 42 x1) ∧ (i_add 42 x1) < 62) (some ((h 27 (Int.toNat ((i_add 42 x1)))), h))
def fX5_house_j102 (x1 : Int) (h : Hp) : Option (Int × Hp) :=
  gd_ (0 ≤ (i_add 48 x1) ∧ (i_add 48 x1) < 62) (some ((h 27 (Int.toNat ((i_add 48 x1)))), h))
def fX5_house_j115 (x1 : Int) (h : Hp) : Option (Int × Hp) :=
  gd_ (0 ≤ (i_add 54 x1) ∧ (i_add 54 x1) < 62) (some ((h 27 (Int.toNat ((i_add 54 x1)))), h))
def fX5_house_j128 (x1 : Int) (h : Hp) : Option (Int × Hp) :=
  bd_ (fX5_present h) (fun r19 h21 => gd_ (r19 = ((20 : Nat) : Int)) (bd_ (fX3_milesOf x1 h21) (fun r23 h25 => some (r23, h25))))
def fX5_house_j137 (x1 : Int) (h : Hp) : Option (Int × Hp) :=
  bd_ (fX5_present h) (fun r27 h29 => gd_ (r27 = ((20 : Nat) : Int)) (bd_ (fX3_taxOf x1 h29) (fun r31 h33 => some (r31, h33))))
def fX5_house_j146 (x1 : Int) (h : Hp) : Option (Int × Hp) :=
  bd_ (fX5_present h) (fun r35 h37 => gd_ (r35 = ((20 : Nat) : Int)) (bd_ (fX3_housesSeenFrom x1 h37) (fun r39 h41 => some (r39, h41))))
def fX5_house (x1 : Int) (x2 : Int) (h : Hp) : Option RX :=
  bx_ (fX5_needHouse x1 h) (fun r1 h3 => (if x2 = 0 then mi_ (fX5_house_j56 x1 h3) else if x2 = 1 then mi_ (fX5_house_j66 x1 h3) else if x2 = 2 then mi_ (fX5_house_j76 x1 h3) else if x2 = 3 then mi_ (fX5_house_j89 x1 h3) else if x2 = 4 then mi_ (fX5_house_j102 x1 h3) else if x2 = 5 then mi_ (fX5_house_j115 x1 h3) else if x2 = 6 then mi_ (fX5_house_j128 x1 h3) else if x2 = 7 then mi_ (fX5_house_j137 x1 h3) else if x2 = 8 then mi_ (fX5_house_j146 x1 h3) else some (.inr (0, h3))))
theorem fX5_house_j56_ok {G : GD} {X : CX} {n : Nat} {Q : Av → Nat → Hp → Prop} (hC : Cx G X RX5 cX5_house) (hZ : ZOK X G Q 0 0) (hRm : X.R = rmd 7 0 0) (hbt : X.bt = true) (hr : X.meth.sig.returnType = (some .int)) {x1 : Int} {h : Hp} {res : Int × Hp} (hF : fX5_house_j56 x1 h = some res) (hK : ∀ (x9 : Int) (h9 : Hp), res = (x9, h9) → Q (0, x9) n h9) : AW G X 56 [(2, ((0 : Nat) : Int)), (0, x1), (9, 0)] [] n h 0 0 := by
  unfold fX5_house_j56 at hF
  refine aw_aload_n hC dX5_house_56 rfl ?_
  refine aw_g5r (k := 0) (a := 0) hC dX5_house_57 lkRX5_10 (by decide) rfl rfl rfl (Or.inl ⟨hbt, by decide⟩) ?_
  obtain ⟨k5, hF⟩ := gd_some hF
  refine aw_gL2N hC hbt k5 dX5_house_60 lkRX5_176 ?_
  refine aw_iload_n hC dX5_house_63 rfl ?_
  obtain ⟨g6, hF⟩ := gd_some hF
  refine aw_iaload (a := (Int.toNat ((h 0 0) + 2))) hC dX5_house_64 (lnd2 k5).1 (lnd2 k5).2.1 (Or.inl ⟨hbt, (lnd2 k5).2.2⟩) g6.1 g6.2 ?_
  exact aw_ireturn hC hZ (Nat.zero_le _) (Nat.zero_le _) hr dX5_house_65 (hK _ _ (Option.some.inj hF).symm)
theorem fX5_house_j66_ok {G : GD} {X : CX} {n : Nat} {Q : Av → Nat → Hp → Prop} (hC : Cx G X RX5 cX5_house) (hZ : ZOK X G Q 0 0) (hRm : X.R = rmd 7 0 0) (hbt : X.bt = true) (hr : X.meth.sig.returnType = (some .int)) {x1 : Int} {h : Hp} {res : Int × Hp} (hF : fX5_house_j66 x1 h = some res) (hK : ∀ (x9 : Int) (h9 : Hp), res = (x9, h9) → Q (0, x9) n h9) : AW G X 66 [(2, ((0 : Nat) : Int)), (0, x1), (9, 0)] [] n h 0 0 := by
  unfold fX5_house_j66 at hF
  refine aw_aload_n hC dX5_house_66 rfl ?_
  refine aw_g5r (k := 0) (a := 0) hC dX5_house_67 lkRX5_10 (by decide) rfl rfl rfl (Or.inl ⟨hbt, by decide⟩) ?_
  obtain ⟨k8, hF⟩ := gd_some hF
  refine aw_gL3N hC hbt k8 dX5_house_70 lkRX5_179 ?_
  refine aw_iload_n hC dX5_house_73 rfl ?_
  obtain ⟨g9, hF⟩ := gd_some hF
  refine aw_iaload (a := (Int.toNat ((h 0 0) + 3))) hC dX5_house_74 (lnd3 k8).1 (lnd3 k8).2.1 (Or.inl ⟨hbt, (lnd3 k8).2.2⟩) g9.1 g9.2 ?_
  exact aw_ireturn hC hZ (Nat.zero_le _) (Nat.zero_le _) hr dX5_house_75 (hK _ _ (Option.some.inj hF).symm)
theorem fX5_house_j76_ok {G : GD} {X : CX} {n : Nat} {Q : Av → Nat → Hp → Prop} (hC : Cx G X RX5 cX5_house) (hZ : ZOK X G Q 0 0) (hRm : X.R = rmd 7 0 0) (hbt : X.bt = true) (hr : X.meth.sig.returnType = (some .int)) {x1 : Int} {h : Hp} {res : Int × Hp} (hF : fX5_house_j76 x1 h = some res) (hK : ∀ (x9 : Int) (h9 : Hp), res = (x9, h9) → Q (0, x9) n h9) : AW G X 76 [(2, ((0 : Nat) : Int)), (0, x1), (9, 0)] [] n h 0 0 := by
  unfold fX5_house_j76 at hF
  refine aw_aload_n hC dX5_house_76 rfl ?_
  refine aw_gc5 (k := 4) (a := 0) (b := 26) hC hbt dX5_house_77 lkRX5_44 (by decide) rfl rfl rfl (by decide) (by decide) ?_
  refine aw_gc0N (k := 0) (a := 26) (b := 27) hC hbt dX5_house_80 lkRX5_109 (by decide) rfl rfl rfl (by decide) (by decide) ?_
  refine aw_bipush hC dX5_house_83 (by decide) (by decide) ?_
  refine aw_iload_n hC dX5_house_85 rfl ?_
  refine aw_iadd hC dX5_house_86 ?_
  obtain ⟨g11, hF⟩ := gd_some hF
  refine aw_iaload (a := 27) hC dX5_house_87 rfl rfl (Or.inl ⟨hbt, by decide⟩) g11.1 g11.2 ?_
  exact aw_ireturn hC hZ (Nat.zero_le _) (Nat.zero_le _) hr dX5_house_88 (hK _ _ (Option.some.inj hF).symm)
theorem fX5_house_j89_ok {G : GD} {X : CX} {n : Nat} {Q : Av → Nat → Hp → Prop} (hC : Cx G X RX5 cX5_house) (hZ : ZOK X G Q 0 0) (hRm : X.R = rmd 7 0 0) (hbt : X.bt = true) (hr : X.meth.sig.returnType = (some .int)) {x1 : Int} {h : Hp} {res : Int × Hp} (hF : fX5_house_j89 x1 h = some res) (hK : ∀ (x9 : Int) (h9 : Hp), res = (x9, h9) → Q (0, x9) n h9) : AW G X 89 [(2, ((0 : Nat) : Int)), (0, x1), (9, 0)] [] n h 0 0 := by
  unfold fX5_house_j89 at hF
  refine aw_aload_n hC dX5_house_89 rfl ?_
  refine aw_gc5 (k := 4) (a := 0) (b := 26) hC hbt dX5_house_90 lkRX5_44 (by decide) rfl rfl rfl (by decide) (by decide) ?_
  refine aw_gc0N (k := 0) (a := 26) (b := 27) hC hbt dX5_house_93 lkRX5_109 (by decide) rfl rfl rfl (by decide) (by decide) ?_
  refine aw_bipush hC dX5_house_96 (by decide) (by decide) ?_
  refine aw_iload_n hC dX5_house_98 rfl ?_
  refine aw_iadd hC dX5_house_99 ?_
  obtain ⟨g13, hF⟩ := gd_some hF
  refine aw_iaload (a := 27) hC dX5_house_100 rfl rfl (Or.inl ⟨hbt, by decide⟩) g13.1 g13.2 ?_
  exact aw_ireturn hC hZ (Nat.zero_le _) (Nat.zero_le _) hr dX5_house_101 (hK _ _ (Option.some.inj hF).symm)
theorem fX5_house_j102_ok {G : GD} {X : CX} {n : Nat} {Q : Av → Nat → Hp → Prop} (hC : Cx G X RX5 cX5_house) (hZ : ZOK X G Q 0 0) (hRm : X.R = rmd 7 0 0) (hbt : X.bt = true) (hr : X.meth.sig.returnType = (some .int)) {x1 : Int} {h : Hp} {res : Int × Hp} (hF : fX5_house_j102 x1 h = some res) (hK : ∀ (x9 : Int) (h9 : Hp), res = (x9, h9) → Q (0, x9) n h9) : AW G X 102 [(2, ((0 : Nat) : Int)), (0, x1), (9, 0)] [] n h 0 0 := by
  unfold fX5_house_j102 at hF
  refine aw_aload_n hC dX5_house_102 rfl ?_
  refine aw_gc5 (k := 4) (a := 0) (b := 26) hC hbt dX5_house_103 lkRX5_44 (by decide) rfl rfl rfl (by decide) (by decide) ?_
  refine aw_gc0N (k := 0) (a := 26) (b := 27) hC hbt dX5_house_106 lkRX5_109 (by decide) rfl rfl rfl (by decide) (by decide) ?_
  refine aw_bipush hC dX5_house_109 (by decide) (by decide) ?_
  refine aw_iload_n hC dX5_house_111 rfl ?_
  refine aw_iadd hC dX5_house_112 ?_
  obtain ⟨g15, hF⟩ := gd_some hF
  refine aw_iaload (a := 27) hC dX5_house_113 rfl rfl (Or.inl ⟨hbt, by decide⟩) g15.1 g15.2 ?_
  exact aw_ireturn hC hZ (Nat.zero_le _) (Nat.zero_le _) hr dX5_house_114 (hK _ _ (Option.some.inj hF).symm)
theorem fX5_house_j115_ok {G : GD} {X : CX} {n : Nat} {Q : Av → Nat → Hp → Prop} (hC : Cx G X RX5 cX5_house) (hZ : ZOK X G Q 0 0) (hRm : X.R = rmd 7 0 0) (hbt : X.bt = true) (hr : X.meth.sig.returnType = (some .int)) {x1 : Int} {h : Hp} {res : Int × Hp} (hF : fX5_house_j115 x1 h = some res) (hK : ∀ (x9 : Int) (h9 : Hp), res = (x9, h9) → Q (0, x9) n h9) : AW G X 115 [(2, ((0 : Nat) : Int)), (0, x1), (9, 0)] [] n h 0 0 := by
  unfold fX5_house_j115 at hF
  refine aw_aload_n hC dX5_house_115 rfl ?_
  refine aw_gc5 (k := 4) (a := 0) (b := 26) hC hbt dX5_house_116 lkRX5_44 (by decide) rfl rfl rfl (by decide) (by decide) ?_
  refine aw_gc0N (k := 0) (a := 26) (b := 27) hC hbt dX5_house_119 lkRX5_109 (by decide) rfl rfl rfl (by decide) (by decide) ?_
  refine aw_bipush hC dX5_house_122 (by decide) (by decide) ?_
  refine aw_iload_n hC dX5_house_124 rfl ?_
  refine aw_iadd hC dX5_house_125 ?_
  obtain ⟨g17, hF⟩ := gd_some hF
  refine aw_iaload (a := 27) hC dX5_house_126 rfl rfl (Or.inl ⟨hbt, by decide⟩) g17.1 g17.2 ?_
  exact aw_ireturn hC hZ (Nat.zero_le _) (Nat.zero_le _) hr dX5_house_127 (hK _ _ (Option.some.inj hF).symm)
theorem fX5_house_j128_ok {G : GD} {X : CX} {n : Nat} {Q : Av → Nat → Hp → Prop} (hC : Cx G X RX5 cX5_house) (hZ : ZOK X G Q 0 0) (hRm : X.R = rmd 7 0 0) (hbt : X.bt = true) (hr : X.meth.sig.returnType = (some .int)) {x1 : Int} {h : Hp} {res : Int × Hp} (hF : fX5_house_j128 x1 h = some res) (hK : ∀ (x9 : Int) (h9 : Hp), res = (x9, h9) → Q (0, x9) n h9) : AW G X 128 [(2, ((0 : Nat) : Int)), (0, x1), (9, 0)] [] n h 0 0 := by
  unfold fX5_house_j128 at hF
  refine aw_aload_n hC dX5_house_128 rfl ?_
  obtain ⟨r19, h21, q20, hF⟩ := bd_some hF
  refine clRX5_126 hC hRm hbt dX5_house_129 rfl rfl (by decide) (Nat.le_of_ble_eq_true rfl) (Nat.le_of_ble_eq_true rfl) (ok_X5_present q20) ?_
  obtain ⟨g22, hF⟩ := gd_some hF
  refine aw_eqT g22.symm ?_
  refine aw_iload_n hC dX5_house_132 rfl ?_
  obtain ⟨r23, h25, q24, hF⟩ := bd_some hF
  refine clRX5_182 hC hRm hbt dX5_house_133 rfl rfl (by decide) (Nat.le_of_ble_eq_true rfl) (Nat.le_of_ble_eq_true rfl) (ok_X3_milesOf q24) ?_
  exact aw_ireturn hC hZ (Nat.zero_le _) (Nat.zero_le _) hr dX5_house_136 (hK _ _ (Option.some.inj hF).symm)
theorem fX5_house_j137_ok {G : GD} {X : CX} {n : Nat} {Q : Av → Nat → Hp → Prop} (hC : Cx G X RX5 cX5_house) (hZ : ZOK X G Q 0 0) (hRm : X.R = rmd 7 0 0) (hbt : X.bt = true) (hr : X.meth.sig.returnType = (some .int)) {x1 : Int} {h : Hp} {res : Int × Hp} (hF : fX5_house_j137 x1 h = some res) (hK : ∀ (x9 : Int) (h9 : Hp), res = (x9, h9) → Q (0, x9) n h9) : AW G X 137 [(2, ((0 : Nat) : Int)), (0, x1), (9, 0)] [] n h 0 0 := by
  unfold fX5_house_j137 at hF
  refine aw_aload_n hC dX5_house_137 rfl ?_
  obtain ⟨r27, h29, q28, hF⟩ := bd_some hF
  refine clRX5_126 hC hRm hbt dX5_house_138 rfl rfl (by decide) (Nat.le_of_ble_eq_true rfl) (Nat.le_of_ble_eq_true rfl) (ok_X5_present q28) ?_
  obtain ⟨g30, hF⟩ := gd_some hF
  refine aw_eqT g30.symm ?_
  refine aw_iload_n hC dX5_house_141 rfl ?_
  obtain ⟨r31, h33, q32, hF⟩ := bd_some hF
  refine clRX5_185 hC hRm hbt dX5_house_142 rfl rfl (by decide) (Nat.le_of_ble_eq_true rfl) (Nat.le_of_ble_eq_true rfl) (ok_X3_taxOf q32) ?_
  exact aw_ireturn hC hZ (Nat.zero_le _) (Nat.zero_le _) hr dX5_house_145 (hK _ _ (Option.some.inj hF).symm)
theorem fX5_house_j146_ok {G : GD} {X : CX} {n : Nat} {Q : Av → Nat → Hp → Prop} (hC : Cx G X RX5 cX5_house) (hZ : ZOK X G Q 0 0) (hRm : X.R = rmd 7 0 0) (hbt : X.bt = true) (hr : X.meth.sig.returnType = (some .int)) {x1 : Int} {h : Hp} {res : Int × Hp} (hF : fX5_house_j146 x1 h = some res) (hK : ∀ (x9 : Int) (h9 : Hp), res = (x9, h9) → Q (0, x9) n h9) : AW G X 146 [(2, ((0 : Nat) : Int)), (0, x1), (9, 0)] [] n h 0 0 := by
  unfold fX5_house_j146 at hF
  refine aw_aload_n hC dX5_house_146 rfl ?_
  obtain ⟨r35, h37, q36, hF⟩ := bd_some hF
  refine clRX5_126 hC hRm hbt dX5_house_147 rfl rfl (by decide) (Nat.le_of_ble_eq_true rfl) (Nat.le_of_ble_eq_true rfl) (ok_X5_present q36) ?_
  obtain ⟨g38, hF⟩ := gd_some hF
  refine aw_eqT g38.symm ?_
  refine aw_iload_n hC dX5_house_150 rfl ?_
  obtain ⟨r39, h41, q40, hF⟩ := bd_some hF
  refine clRX5_188 hC hRm hbt dX5_house_151 rfl rfl (by decide) (Nat.le_of_ble_eq_true rfl) (Nat.le_of_ble_eq_true rfl) (ok_X3_housesSeenFrom q40) ?_
  exact aw_ireturn hC hZ (Nat.zero_le _) (Nat.zero_le _) hr dX5_house_154 (hK _ _ (Option.some.inj hF).symm)
theorem ok_X5_house_n {G : GD} {n : Nat} {x1 : Int} {x2 : Int} {h : Hp} {res : Int × Hp} (hF : fX5_house x1 x2 h = some (.inl res)) : Con G yX5_house cX5_house 3 (some .int) 7 0 0 true [(2, ((0 : Nat) : Int)), (0, x1), (0, x2)] n h (FQ 0 n res) := by
  refine con_of (pad := 0) (own := RX5) (plainFor_of_name (by decide)) rfl rfl ?_
  intro X hC hbt hr hnm hZ hRm hn0
  have hK : ∀ (x9 : Int) (h9 : Hp), res = (x9, h9) → FQ 0 n res (0, x9) n h9 := fun x9 h9 e => by subst e; exact ⟨rfl, rfl, rfl⟩
  unfold fX5_house at hF
  show AW G X 0 [(2, ((0 : Nat) : Int)), (0, x1), (0, x2)] [] n h 0 0
  refine aw_aload_n hC dX5_house_0 rfl ?_
  refine aw_iload_n hC dX5_house_1 rfl ?_
  obtain ⟨r1, h3, q2, hF⟩ := bx_n hF
  refine clRX5_173 hC hRm hbt dX5_house_2 rfl rfl (by decide) (Nat.le_of_ble_eq_true rfl) (Nat.le_of_ble_eq_true rfl) (ok_X5_needHouse_n q2) ?_
  refine aw_iload_n hC dX5_house_5 rfl ?_
  by_cases c4 : x2 = 0
  · have hF := it_t hF c4
    refine aw_tableIn (off := 50) (tgt := 56) hC dX5_house_6 (by omega) (by omega) (by rw [c4]; rfl) (by decide) ?_
    have hF := mi_n hF
    refine aw_weak (ls' := [(2, ((0 : Nat) : Int)), (0, x1), (9, 0)]) ⟨Or.inr rfl, Or.inr rfl, Or.inl rfl, trivial⟩ ?_
    exact fX5_house_j56_ok hC hZ hRm hbt hr hF hK
  have hF := it_f hF c4
  by_cases c5 : x2 = 1
  · have hF := it_t hF c5
    refine aw_tableIn (off := 60) (tgt := 66) hC dX5_house_6 (by omega) (by omega) (by rw [c5]; rfl) (by decide) ?_
    have hF := mi_n hF
    refine aw_weak (ls' := [(2, ((0 : Nat) : Int)), (0, x1), (9, 0)]) ⟨Or.inr rfl, Or.inr rfl, Or.inl rfl, trivial⟩ ?_
    exact fX5_house_j66_ok hC hZ hRm hbt hr hF hK
  have hF := it_f hF c5
  by_cases c6 : x2 = 2
  · have hF := it_t hF c6
    refine aw_tableIn (off := 70) (tgt := 76) hC dX5_house_6 (by omega) (by omega) (by rw [c6]; rfl) (by decide) ?_
    have hF := mi_n hF
    refine aw_weak (ls' := [(2, ((0 : Nat) : Int)), (0, x1), (9, 0)]) ⟨Or.inr rfl, Or.inr rfl, Or.inl rfl, trivial⟩ ?_
    exact fX5_house_j76_ok hC hZ hRm hbt hr hF hK
  have hF := it_f hF c6
  by_cases c7 : x2 = 3
  · have hF := it_t hF c7
    refine aw_tableIn (off := 83) (tgt := 89) hC dX5_house_6 (by omega) (by omega) (by rw [c7]; rfl) (by decide) ?_
    have hF := mi_n hF
    refine aw_weak (ls' := [(2, ((0 : Nat) : Int)), (0, x1), (9, 0)]) ⟨Or.inr rfl, Or.inr rfl, Or.inl rfl, trivial⟩ ?_
    exact fX5_house_j89_ok hC hZ hRm hbt hr hF hK
  have hF := it_f hF c7
  by_cases c8 : x2 = 4
  · have hF := it_t hF c8
    refine aw_tableIn (off := 96) (tgt := 102) hC dX5_house_6 (by omega) (by omega) (by rw [c8]; rfl) (by decide) ?_
    have hF := mi_n hF
    refine aw_weak (ls' := [(2, ((0 : Nat) : Int)), (0, x1), (9, 0)]) ⟨Or.inr rfl, Or.inr rfl, Or.inl rfl, trivial⟩ ?_
    exact fX5_house_j102_ok hC hZ hRm hbt hr hF hK
  have hF := it_f hF c8
  by_cases c9 : x2 = 5
  · have hF := it_t hF c9
    refine aw_tableIn (off := 109) (tgt := 115) hC dX5_house_6 (by omega) (by omega) (by rw [c9]; rfl) (by decide) ?_
    have hF := mi_n hF
    refine aw_weak (ls' := [(2, ((0 : Nat) : Int)), (0, x1), (9, 0)]) ⟨Or.inr rfl, Or.inr rfl, Or.inl rfl, trivial⟩ ?_
    exact fX5_house_j115_ok hC hZ hRm hbt hr hF hK
  have hF := it_f hF c9
  by_cases c10 : x2 = 6
  · have hF := it_t hF c10
    refine aw_tableIn (off := 122) (tgt := 128) hC dX5_house_6 (by omega) (by omega) (by rw [c10]; rfl) (by decide) ?_
    have hF := mi_n hF
    refine aw_weak (ls' := [(2, ((0 : Nat) : Int)), (0, x1), (9, 0)]) ⟨Or.inr rfl, Or.inr rfl, Or.inl rfl, trivial⟩ ?_
    exact fX5_house_j128_ok hC hZ hRm hbt hr hF hK
  have hF := it_f hF c10
  by_cases c11 : x2 = 7
  · have hF := it_t hF c11
    refine aw_tableIn (off := 131) (tgt := 137) hC dX5_house_6 (by omega) (by omega) (by rw [c11]; rfl) (by decide) ?_
    have hF := mi_n hF
    refine aw_weak (ls' := [(2, ((0 : Nat) : Int)), (0, x1), (9, 0)]) ⟨Or.inr rfl, Or.inr rfl, Or.inl rfl, trivial⟩ ?_
    exact fX5_house_j137_ok hC hZ hRm hbt hr hF hK
  have hF := it_f hF c11
  by_cases c12 : x2 = 8
  · have hF := it_t hF c12
    refine aw_tableIn (off := 140) (tgt := 146) hC dX5_house_6 (by omega) (by omega) (by rw [c12]; rfl) (by decide) ?_
    have hF := mi_n hF
    refine aw_weak (ls' := [(2, ((0 : Nat) : Int)), (0, x1), (9, 0)]) ⟨Or.inr rfl, Or.inr rfl, Or.inl rfl, trivial⟩ ?_
    exact fX5_house_j146_ok hC hZ hRm hbt hr hF hK
  have hF := it_f hF c12
  refine aw_tableOut (tgt := 155) hC dX5_house_6 (by omega) (by decide) ?_
  cases hF
theorem ok_X5_house_x {G : GD} {n : Nat} {x1 : Int} {x2 : Int} {h : Hp} {e : Nat} {h1 : Hp} (hF : fX5_house x1 x2 h = some (.inr (e, h1))) : ConT G yX5_house cX5_house 3 (some .int) 7 true [(2, ((0 : Nat) : Int)), (0, x1), (0, x2)] n h e h1 := by
  refine conT_of (pad := 0) (own := RX5) (by decide) rfl rfl ?_
  intro X hC hbt hst htab hZ hRm hn0
  unfold fX5_house at hF
  show AW G X 0 [(2, ((0 : Nat) : Int)), (0, x1), (0, x2)] [] n h 0 0
  refine aw_aload_n hC dX5_house_0 rfl ?_
  refine aw_iload_n hC dX5_house_1 rfl ?_
  rcases bx_x hF with ⟨r1, h3, q2, hF⟩ | q2
  rotate_left
  · exact clTRX5_173 hC hRm hbt hn0 hZ hst htab dX5_house_2 rfl rfl (by decide) (Nat.le_of_ble_eq_true rfl) (Nat.le_of_ble_eq_true rfl) (ok_X5_needHouse_x q2)
  refine clRX5_173 hC hRm hbt dX5_house_2 rfl rfl (by decide) (Nat.le_of_ble_eq_true rfl) (Nat.le_of_ble_eq_true rfl) (ok_X5_needHouse_n q2) ?_
  refine aw_iload_n hC dX5_house_5 rfl ?_
  by_cases c4 : x2 = 0
  · have hF := it_t hF c4
    refine aw_tableIn (off := 50) (tgt := 56) hC dX5_house_6 (by omega) (by omega) (by rw [c4]; rfl) (by decide) ?_
    exact (mi_x hF).elim
  have hF := it_f hF c4
  by_cases c5 : x2 = 1
  · have hF := it_t hF c5
    refine aw_tableIn (off := 60) (tgt := 66) hC dX5_house_6 (by omega) (by omega) (by rw [c5]; rfl) (by decide) ?_
    exact (mi_x hF).elim
  have hF := it_f hF c5
  by_cases c6 : x2 = 2
  · have hF := it_t hF c6
    refine aw_tableIn (off := 70) (tgt := 76) hC dX5_house_6 (by omega) (by omega) (by rw [c6]; rfl) (by decide) ?_
    exact (mi_x hF).elim
  have hF := it_f hF c6
  by_cases c7 : x2 = 3
  · have hF := it_t hF c7
    refine aw_tableIn (off := 83) (tgt := 89) hC dX5_house_6 (by omega) (by omega) (by rw [c7]; rfl) (by decide) ?_
    exact (mi_x hF).elim
  have hF := it_f hF c7
  by_cases c8 : x2 = 4
  · have hF := it_t hF c8
    refine aw_tableIn (off := 96) (tgt := 102) hC dX5_house_6 (by omega) (by omega) (by rw [c8]; rfl) (by decide) ?_
    exact (mi_x hF).elim
  have hF := it_f hF c8
  by_cases c9 : x2 = 5
  · have hF := it_t hF c9
    refine aw_tableIn (off := 109) (tgt := 115) hC dX5_house_6 (by omega) (by omega) (by rw [c9]; rfl) (by decide) ?_
    exact (mi_x hF).elim
  have hF := it_f hF c9
  by_cases c10 : x2 = 6
  · have hF := it_t hF c10
    refine aw_tableIn (off := 122) (tgt := 128) hC dX5_house_6 (by omega) (by omega) (by rw [c10]; rfl) (by decide) ?_
    exact (mi_x hF).elim
  have hF := it_f hF c10
  by_cases c11 : x2 = 7
  · have hF := it_t hF c11
    refine aw_tableIn (off := 131) (tgt := 137) hC dX5_house_6 (by omega) (by omega) (by rw [c11]; rfl) (by decide) ?_
    exact (mi_x hF).elim
  have hF := it_f hF c11
  by_cases c12 : x2 = 8
  · have hF := it_t hF c12
    refine aw_tableIn (off := 140) (tgt := 146) hC dX5_house_6 (by omega) (by omega) (by rw [c12]; rfl) (by decide) ?_
    exact (mi_x hF).elim
  have hF := it_f hF c12
  refine aw_tableOut (tgt := 155) hC dX5_house_6 (by omega) (by decide) ?_
  cases hF
  exact aw_throw0 (is := 148) (no := 28) (text := "no such what") hC hRm (Nat.le_of_ble_eq_true rfl) hn0 hZ hst htab (List.mem_of_getElem? (i := 18) rfl) dX5_house_155 dX5_house_158 dX5_house_159 dX5_house_161 dX5_house_164 (Nat.le_of_ble_eq_true rfl)
def fX5_needDirection_j21  (h : Hp) : Option (Int × Hp) :=
  some (0, h)
def fX5_needDirection (x0 : Int) (h : Hp) : Option RX :=
  (if x0 < 0 then some (.inr (0, h)) else (if x0 < 8 then mi_ (fX5_needDirection_j21 h) else some (.inr (0, h))))
theorem fX5_needDirection_j21_ok {G : GD} {X : CX} {n : Nat} {Q : Av → Nat → Hp → Prop} (hC : Cx G X RX5 cX5_needDirection) (hZ : ZOK X G Q 0 0) (hRm : X.R = rmd 6 0 0) (hbt : X.bt = true) (hr : X.meth.sig.returnType = none)  {h : Hp} {res : Int × Hp} (hF : fX5_needDirection_j21  h = some res) (hK : ∀ (x9 : Int) (h9 : Hp), res = (x9, h9) → Q (8, x9) n h9) : AW G X 21 [(9, 0)] [] n h 0 0 := by
  unfold fX5_needDirection_j21 at hF
  exact aw_return hC hZ (Nat.zero_le _) (Nat.zero_le _) hr dX5_needDirection_21 (hK _ _ (Option.some.inj hF).symm)
theorem ok_X5_needDirection_n {G : GD} {n : Nat} {x0 : Int} {h : Hp} {res : Int × Hp} (hF : fX5_needDirection x0 h = some (.inl res)) : Con G yX5_needDirection cX5_needDirection 1 none 6 0 0 true [(0, x0)] n h (FQ 8 n res) := by
  refine con_of (pad := 0) (own := RX5) (plainFor_of_name (by decide)) rfl rfl ?_
  intro X hC hbt hr hnm hZ hRm hn0
  have hK : ∀ (x9 : Int) (h9 : Hp), res = (x9, h9) → FQ 8 n res (8, x9) n h9 := fun x9 h9 e => by subst e; exact ⟨rfl, rfl, rfl⟩
  unfold fX5_needDirection at hF
  show AW G X 0 [(0, x0)] [] n h 0 0
  refine aw_iload_n hC dX5_needDirection_0 rfl ?_
  refine aw_if_lt (tgt := 10) hC dX5_needDirection_1 (by decide) (fun c1 => ?_) (fun c1 => ?_)
  · have hF := it_t hF c1
    cases hF
  · have hF := it_f hF c1
    refine aw_iload_n hC dX5_needDirection_4 rfl ?_
    refine aw_bipush hC dX5_needDirection_5 (by decide) (by decide) ?_
    refine aw_icmp_lt (tgt := 21) hC dX5_needDirection_7 (by decide) (fun c2 => ?_) (fun c2 => ?_)
    · have hF := it_t hF c2
      have hF := mi_n hF
      refine aw_weak (ls' := [(9, 0)]) ⟨Or.inl rfl, trivial⟩ ?_
      exact fX5_needDirection_j21_ok hC hZ hRm hbt hr hF hK
    · have hF := it_f hF c2
      cases hF
theorem ok_X5_needDirection_x {G : GD} {n : Nat} {x0 : Int} {h : Hp} {e : Nat} {h1 : Hp} (hF : fX5_needDirection x0 h = some (.inr (e, h1))) : ConT G yX5_needDirection cX5_needDirection 1 none 6 true [(0, x0)] n h e h1 := by
  refine conT_of (pad := 0) (own := RX5) (by decide) rfl rfl ?_
  intro X hC hbt hst htab hZ hRm hn0
  unfold fX5_needDirection at hF
  show AW G X 0 [(0, x0)] [] n h 0 0
  refine aw_iload_n hC dX5_needDirection_0 rfl ?_
  refine aw_if_lt (tgt := 10) hC dX5_needDirection_1 (by decide) (fun c1 => ?_) (fun c1 => ?_)
  · have hF := it_t hF c1
    cases hF
    exact aw_throw0W (is := 364) (no := 32) (text := "no such direction") hC hRm (Nat.le_of_ble_eq_true rfl) hn0 hZ hst htab (List.mem_of_getElem? (i := 22) rfl) dX5_needDirection_10 dX5_needDirection_13 dX5_needDirection_14 dX5_needDirection_17 dX5_needDirection_20 (Nat.le_of_ble_eq_true rfl)
  · have hF := it_f hF c1
    refine aw_iload_n hC dX5_needDirection_4 rfl ?_
    refine aw_bipush hC dX5_needDirection_5 (by decide) (by decide) ?_
    refine aw_icmp_lt (tgt := 21) hC dX5_needDirection_7 (by decide) (fun c2 => ?_) (fun c2 => ?_)
    · have hF := it_t hF c2
      exact (mi_x hF).elim
    · have hF := it_f hF c2
      cases hF
      exact aw_throw0W (is := 364) (no := 32) (text := "no such direction") hC hRm (Nat.le_of_ble_eq_true rfl) hn0 hZ hst htab (List.mem_of_getElem? (i := 22) rfl) dX5_needDirection_10 dX5_needDirection_13 dX5_needDirection_14 dX5_needDirection_17 dX5_needDirection_20 (Nat.le_of_ble_eq_true rfl)
def fX5_miles_j9 (x1 : Int) (x2 : Int) (h : Hp) : Option (Int × Hp) :=
  bd_ (fX5_present h) (fun r7 h9 => gd_ (r7 = ((20 : Nat) : Int)) (bd_ (fX3_lookFrom x1 h9) (fun r11 h13 => gd_ (0 ≤ x2 ∧ x2 < 8) (some ((h13 24 (Int.toNat x2)), h13)))))
def fX5_miles (x1 : Int) (x2 : Int) (h : Hp) : Option RX :=
  bx_ (fX5_needHouse x1 h) (fun r1 h3 => bx_ (fX5_needDirection x2 h3) (fun r4 h6 => mi_ (fX5_miles_j9 x1 x2 h6)))
theorem fX5_miles_j9_ok {G : GD} {X : CX} {n : Nat} {Q : Av → Nat → Hp → Prop} (hC : Cx G X RX5 cX5_miles) (hZ : ZOK X G Q 0 0) (hRm : X.R = rmd 7 0 0) (hbt : X.bt = true) (hr : X.meth.sig.returnType = (some .int)) {x1 : Int} {x2 : Int} {h : Hp} {res : Int × Hp} (hF : fX5_miles_j9 x1 x2 h = some res) (hK : ∀ (x9 : Int) (h9 : Hp), res = (x9, h9) → Q (0, x9) n h9) : AW G X 9 [(2, ((0 : Nat) : Int)), (0, x1), (0, x2)] [] n h 0 0 := by
  unfold fX5_miles_j9 at hF
  refine aw_aload_n hC dX5_miles_9 rfl ?_
  obtain ⟨r7, h9, q8, hF⟩ := bd_some hF
  refine clRX5_126 hC hRm hbt dX5_miles_10 rfl rfl (by decide) (Nat.le_of_ble_eq_true rfl) (Nat.le_of_ble_eq_true rfl) (ok_X5_present q8) ?_
  obtain ⟨g10, hF⟩ := gd_some hF
  refine aw_eqT g10.symm ?_
  refine aw_iload_n hC dX5_miles_13 rfl ?_
  obtain ⟨r11, h13, q12, hF⟩ := bd_some hF
  refine clRX5_194 hC hRm hbt dX5_miles_14 rfl rfl (by decide) (Nat.le_of_ble_eq_true rfl) (Nat.le_of_ble_eq_true rfl) (ok_X3_lookFrom q12) ?_
  refine aw_aload_n hC dX5_miles_17 rfl ?_
  refine aw_gc5 (k := 3) (a := 0) (b := 20) hC hbt dX5_miles_18 lkRX5_37 (by decide) rfl rfl rfl (by decide) (by decide) ?_
  refine aw_gc3N (k := 8) (a := 20) (b := 24) hC hbt dX5_miles_21 lkRX5_197 (by decide) rfl rfl rfl (by decide) (by decide) ?_
  refine aw_iload_n hC dX5_miles_24 rfl ?_
  obtain ⟨g14, hF⟩ := gd_some hF
  refine aw_iaload (a := 24) hC dX5_miles_25 rfl rfl (Or.inl ⟨hbt, by decide⟩) g14.1 g14.2 ?_
  exact aw_ireturn hC hZ (Nat.zero_le _) (Nat.zero_le _) hr dX5_miles_26 (hK _ _ (Option.some.inj hF).symm)
theorem ok_X5_miles_n {G : GD} {n : Nat} {x1 : Int} {x2 : Int} {h : Hp} {res : Int × Hp} (hF : fX5_miles x1 x2 h = some (.inl res)) : Con G yX5_miles cX5_miles 3 (some .int) 7 0 0 true [(2, ((0 : Nat) : Int)), (0, x1), (0, x2)] n h (FQ 0 n res) := by
  refine con_of (pad := 0) (own := RX5) (plainFor_of_name (by decide)) rfl rfl ?_
  intro X hC hbt hr hnm hZ hRm hn0
  have hK : ∀ (x9 : Int) (h9 : Hp), res = (x9, h9) → FQ 0 n res (0, x9) n h9 := fun x9 h9 e => by subst e; exact ⟨rfl, rfl, rfl⟩
  unfold fX5_miles at hF
  show AW G X 0 [(2, ((0 : Nat) : Int)), (0, x1), (0, x2)] [] n h 0 0
  refine aw_aload_n hC dX5_miles_0 rfl ?_
  refine aw_iload_n hC dX5_miles_1 rfl ?_
  obtain ⟨r1, h3, q2, hF⟩ := bx_n hF
  refine clRX5_173 hC hRm hbt dX5_miles_2 rfl rfl (by decide) (Nat.le_of_ble_eq_true rfl) (Nat.le_of_ble_eq_true rfl) (ok_X5_needHouse_n q2) ?_
  refine aw_iload_n hC dX5_miles_5 rfl ?_
  obtain ⟨r4, h6, q5, hF⟩ := bx_n hF
  refine clRX5_191 hC hRm hbt dX5_miles_6 (Nat.le_of_ble_eq_true rfl) (Nat.le_of_ble_eq_true rfl) (ok_X5_needDirection_n q5) ?_
  have hF := mi_n hF
  exact fX5_miles_j9_ok hC hZ hRm hbt hr hF hK
theorem ok_X5_miles_x {G : GD} {n : Nat} {x1 : Int} {x2 : Int} {h : Hp} {e : Nat} {h1 : Hp} (hF : fX5_miles x1 x2 h = some (.inr (e, h1))) : ConT G yX5_miles cX5_miles 3 (some .int) 7 true [(2, ((0 : Nat) : Int)), (0, x1), (0, x2)] n h e h1 := by
  refine conT_of (pad := 0) (own := RX5) (by decide) rfl rfl ?_
  intro X hC hbt hst htab hZ hRm hn0
  unfold fX5_miles at hF
  show AW G X 0 [(2, ((0 : Nat) : Int)), (0, x1), (0, x2)] [] n h 0 0
  refine aw_aload_n hC dX5_miles_0 rfl ?_
  refine aw_iload_n hC dX5_miles_1 rfl ?_
  rcases bx_x hF with ⟨r1, h3, q2, hF⟩ | q2
  rotate_left
  · exact clTRX5_173 hC hRm hbt hn0 hZ hst htab dX5_miles_2 rfl rfl (by decide) (Nat.le_of_ble_eq_true rfl) (Nat.le_of_ble_eq_true rfl) (ok_X5_needHouse_x q2)
  refine clRX5_173 hC hRm hbt dX5_miles_2 rfl rfl (by decide) (Nat.le_of_ble_eq_true rfl) (Nat.le_of_ble_eq_true rfl) (ok_X5_needHouse_n q2) ?_
  refine aw_iload_n hC dX5_miles_5 rfl ?_
  rcases bx_x hF with ⟨r4, h6, q5, hF⟩ | q5
  rotate_left
  · exact clTRX5_191 hC hRm hbt hn0 hZ hst htab dX5_miles_6 (Nat.le_of_ble_eq_true rfl) (Nat.le_of_ble_eq_true rfl) (ok_X5_needDirection_x q5)
  refine clRX5_191 hC hRm hbt dX5_miles_6 (Nat.le_of_ble_eq_true rfl) (Nat.le_of_ble_eq_true rfl) (ok_X5_needDirection_n q5) ?_
  exact (mi_x hF).elim
def fX5_seen_j5 (x1 : Int) (h : Hp) : Option (Int × Hp) :=
  bd_ (fX5_present h) (fun r4 h6 => gd_ (r4 = ((20 : Nat) : Int)) (bd_ (fX3_lookFrom x1 h6) (fun r8 h10 => some ((h10 20 11), h10))))
def fX5_seen (x1 : Int) (h : Hp) : Option RX :=
  bx_ (fX5_needHouse x1 h) (fun r1 h3 => mi_ (fX5_seen_j5 x1 h3))
theorem fX5_seen_j5_ok {G : GD} {X : CX} {n : Nat} {Q : Av → Nat → Hp → Prop} (hC : Cx G X RX5 cX5_seen) (hZ : ZOK X G Q 0 0) (hRm : X.R = rmd 7 0 0) (hbt : X.bt = true) (hr : X.meth.sig.returnType = (some .long)) {x1 : Int} {h : Hp} {res : Int × Hp} (hF : fX5_seen_j5 x1 h = some res) (hK : ∀ (x9 : Int) (h9 : Hp), res = (x9, h9) → Q (1, x9) n h9) : AW G X 5 [(2, ((0 : Nat) : Int)), (0, x1)] [] n h 0 0 := by
  unfold fX5_seen_j5 at hF
  refine aw_aload_n hC dX5_seen_5 rfl ?_
  obtain ⟨r4, h6, q5, hF⟩ := bd_some hF
  refine clRX5_126 hC hRm hbt dX5_seen_6 rfl rfl (by decide) (Nat.le_of_ble_eq_true rfl) (Nat.le_of_ble_eq_true rfl) (ok_X5_present q5) ?_
  obtain ⟨g7, hF⟩ := gd_some hF
  refine aw_eqT g7.symm ?_
  refine aw_iload_n hC dX5_seen_9 rfl ?_
  obtain ⟨r8, h10, q9, hF⟩ := bd_some hF
  refine clRX5_194 hC hRm hbt dX5_seen_10 rfl rfl (by decide) (Nat.le_of_ble_eq_true rfl) (Nat.le_of_ble_eq_true rfl) (ok_X3_lookFrom q9) ?_
  refine aw_aload_n hC dX5_seen_13 rfl ?_
  refine aw_gc5 (k := 3) (a := 0) (b := 20) hC hbt dX5_seen_14 lkRX5_37 (by decide) rfl rfl rfl (by decide) (by decide) ?_
  refine aw_g3lN (k := 11) (a := 20) hC dX5_seen_17 lkRX5_200 (by decide) rfl rfl rfl (Or.inl ⟨hbt, by decide⟩) ?_
  exact aw_lreturn hC hZ (Nat.zero_le _) (Nat.zero_le _) hr dX5_seen_20 (hK _ _ (Option.some.inj hF).symm)
theorem ok_X5_seen_n {G : GD} {n : Nat} {x1 : Int} {h : Hp} {res : Int × Hp} (hF : fX5_seen x1 h = some (.inl res)) : Con G yX5_seen cX5_seen 2 (some .long) 7 0 0 true [(2, ((0 : Nat) : Int)), (0, x1)] n h (FQ 1 n res) := by
  refine con_of (pad := 0) (own := RX5) (plainFor_of_name (by decide)) rfl rfl ?_
  intro X hC hbt hr hnm hZ hRm hn0
  have hK : ∀ (x9 : Int) (h9 : Hp), res = (x9, h9) → FQ 1 n res (1, x9) n h9 := fun x9 h9 e => by subst e; exact ⟨rfl, rfl, rfl⟩
  unfold fX5_seen at hF
  show AW G X 0 [(2, ((0 : Nat) : Int)), (0, x1)] [] n h 0 0
  refine aw_aload_n hC dX5_seen_0 rfl ?_
  refine aw_iload_n hC dX5_seen_1 rfl ?_
  obtain ⟨r1, h3, q2, hF⟩ := bx_n hF
  refine clRX5_173 hC hRm hbt dX5_seen_2 rfl rfl (by decide) (Nat.le_of_ble_eq_true rfl) (Nat.le_of_ble_eq_true rfl) (ok_X5_needHouse_n q2) ?_
  have hF := mi_n hF
  exact fX5_seen_j5_ok hC hZ hRm hbt hr hF hK
theorem ok_X5_seen_x {G : GD} {n : Nat} {x1 : Int} {h : Hp} {e : Nat} {h1 : Hp} (hF : fX5_seen x1 h = some (.inr (e, h1))) : ConT G yX5_seen cX5_seen 2 (some .long) 7 true [(2, ((0 : Nat) : Int)), (0, x1)] n h e h1 := by
  refine conT_of (pad := 0) (own := RX5) (by decide) rfl rfl ?_
  intro X hC hbt hst htab hZ hRm hn0
  unfold fX5_seen at hF
  show AW G X 0 [(2, ((0 : Nat) : Int)), (0, x1)] [] n h 0 0
  refine aw_aload_n hC dX5_seen_0 rfl ?_
  refine aw_iload_n hC dX5_seen_1 rfl ?_
  rcases bx_x hF with ⟨r1, h3, q2, hF⟩ | q2
  rotate_left
  · exact clTRX5_173 hC hRm hbt hn0 hZ hst htab dX5_seen_2 rfl rfl (by decide) (Nat.le_of_ble_eq_true rfl) (Nat.le_of_ble_eq_true rfl) (ok_X5_needHouse_x q2)
  refine clRX5_173 hC hRm hbt dX5_seen_2 rfl rfl (by decide) (Nat.le_of_ble_eq_true rfl) (Nat.le_of_ble_eq_true rfl) (ok_X5_needHouse_n q2) ?_
  exact (mi_x hF).elim
def fX5_plant_j71  (h : Hp) : Option (Int × Hp) :=
  lb_ (st h 0 12 ((i_add ((h 0 12)) 1))) (fun h10 => some ((-1), h10))
def fX5_plant_j48 (x1 : Int) (x2 : Int) (x3 : Int) (z0 : Int) (h : Hp) : Option (Int × Hp) :=
  (if x2 < 1 then fX5_plant_j71 h else (if 9 < x2 then fX5_plant_j71 h else (if x3 = (-1) then fX5_plant_j71 h else (if z0 = 0 then bd_ (fX0_remember_26 h) (fun r14 h16 => gd_ (0 ≤ (i_add 0 x3) ∧ (i_add 0 x3) < 62) (lb_ (st h16 27 (Int.toNat ((i_add 0 x3))) x1) (fun h18 => gd_ (0 ≤ (i_add 12 x3) ∧ (i_add 12 x3) < 62) (lb_ (st h18 27 (Int.toNat ((i_add 12 x3))) 1) (fun h20 => gd_ (0 ≤ (i_add 24 x3) ∧ (i_add 24 x3) < 62) (lb_ (st h20 27 (Int.toNat ((i_add 24 x3))) x2) (fun h22 => some (x3, h22)))))))) else fX5_plant_j71 h))))
def fX5_plant_j43 (x1 : Int) (x2 : Int) (x3 : Int) (h : Hp) : Option (Int × Hp) :=
  fX5_plant_j48 x1 x2 x3 1 h
def fX5_plant_j5 (x1 : Int) (x2 : Int) (h : Hp) : Option (Int × Hp) :=
  bp_ (fX5_freeNumber_27 h) (fun r4 => bp_ (fX5_treeIn_27 x1 h) (fun r6 => (if r6 = (-1) then gd_ ((h 0 0) = 1 ∨ (h 0 0) = 9) (bp_ (fX1_houseIn ((h 0 0)) x1 h) (fun r24 => (if r24 = (-1) then fX5_plant_j48 x1 x2 r4 0 h else fX5_plant_j43 x1 x2 r4 h))) else fX5_plant_j43 x1 x2 r4 h)))
def fX5_plant (x1 : Int) (x2 : Int) (h : Hp) : Option RX :=
  bx_ (fX5_needCell x1 h) (fun r1 h3 => mi_ (fX5_plant_j5 x1 x2 h3))
theorem fX5_plant_j71_ok {G : GD} {X : CX} {n : Nat} {Q : Av → Nat → Hp → Prop} (hC : Cx G X RX5 cX5_plant) (hZ : ZOK X G Q 0 0) (hRm : X.R = rmd 7 0 0) (hbt : X.bt = true) (hr : X.meth.sig.returnType = (some .int))  {h : Hp} {res : Int × Hp} (hF : fX5_plant_j71  h = some res) (hK : ∀ (x9 : Int) (h9 : Hp), res = (x9, h9) → Q (0, x9) n h9) : AW G X 71 [(2, ((0 : Nat) : Int)), (9, 0), (9, 0), (9, 0), (9, 0)] [] n h 0 0 := by
  unfold fX5_plant_j71 at hF
  refine aw_aload_n hC dX5_plant_71 rfl ?_
  refine aw_dup hC dX5_plant_72 (by simp) ?_
  refine aw_g5i (k := 12) (a := 0) hC dX5_plant_73 lkRX5_140 (by decide) rfl rfl rfl (Or.inl ⟨hbt, by decide⟩) ?_
  refine aw_iconst hC dX5_plant_76 (by decide) ?_
  refine aw_iadd hC dX5_plant_77 ?_
  obtain ⟨h10, eh10, hF⟩ := lb_some hF
  refine aw_p5i (k := 12) (a := 0) hC dX5_plant_78 lkRX5_140 (by decide) rfl rfl rfl rfl rfl (Or.inl ⟨hbt, by decide⟩) (fun _ => by decide) ?_
  refine aw_eqH eh10 ?_
  clear eh10
  refine aw_iconst hC dX5_plant_81 (by decide) ?_
  exact aw_ireturn hC hZ (Nat.zero_le _) (Nat.zero_le _) hr dX5_plant_82 (hK _ _ (Option.some.inj hF).symm)
theorem fX5_plant_j48_ok {G : GD} {X : CX} {n : Nat} {Q : Av → Nat → Hp → Prop} (hC : Cx G X RX5 cX5_plant) (hZ : ZOK X G Q 0 0) (hRm : X.R = rmd 7 0 0) (hbt : X.bt = true) (hr : X.meth.sig.returnType = (some .int)) {x1 : Int} {x2 : Int} {x3 : Int} {z0 : Int} {h : Hp} {res : Int × Hp} (hF : fX5_plant_j48 x1 x2 x3 z0 h = some res) (hK : ∀ (x9 : Int) (h9 : Hp), res = (x9, h9) → Q (0, x9) n h9) : AW G X 48 [(2, ((0 : Nat) : Int)), (0, x1), (0, x2), (0, x3), (9, 0)] [(0, z0)] n h 0 0 := by
  unfold fX5_plant_j48 at hF
  refine aw_istore4 hC dX5_plant_48 rfl ?_
  refine aw_iload_n hC dX5_plant_50 rfl ?_
  refine aw_iconst hC dX5_plant_51 (by decide) ?_
  refine aw_icmp_lt (tgt := 71) hC dX5_plant_52 (by decide) (fun c9 => ?_) (fun c9 => ?_)
  · have hF := it_t hF c9
    refine aw_weak (ls' := [(2, ((0 : Nat) : Int)), (9, 0), (9, 0), (9, 0), (9, 0)]) ⟨Or.inr rfl, Or.inl rfl, Or.inl rfl, Or.inl rfl, Or.inl rfl, trivial⟩ ?_
    exact fX5_plant_j71_ok hC hZ hRm hbt hr hF hK
  · have hF := it_f hF c9
    refine aw_iload_n hC dX5_plant_55 rfl ?_
    refine aw_bipush hC dX5_plant_56 (by decide) (by decide) ?_
    refine aw_icmp_gt (tgt := 71) hC dX5_plant_58 (by decide) (fun c11 => ?_) (fun c11 => ?_)
    · have hF := it_t hF c11
      refine aw_weak (ls' := [(2, ((0 : Nat) : Int)), (9, 0), (9, 0), (9, 0), (9, 0)]) ⟨Or.inr rfl, Or.inl rfl, Or.inl rfl, Or.inl rfl, Or.inl rfl, trivial⟩ ?_
      exact fX5_plant_j71_ok hC hZ hRm hbt hr hF hK
    · have hF := it_f hF c11
      refine aw_iload_n hC dX5_plant_61 rfl ?_
      refine aw_iconst hC dX5_plant_62 (by decide) ?_
      refine aw_icmp_eq (tgt := 71) hC dX5_plant_63 (by decide) (fun c12 => ?_) (fun c12 => ?_)
      · have hF := it_t hF c12
        refine aw_weak (ls' := [(2, ((0 : Nat) : Int)), (9, 0), (9, 0), (9, 0), (9, 0)]) ⟨Or.inr rfl, Or.inl rfl, Or.inl rfl, Or.inl rfl, Or.inl rfl, trivial⟩ ?_
        exact fX5_plant_j71_ok hC hZ hRm hbt hr hF hK
      · have hF := it_f hF c12
        refine aw_iload hC dX5_plant_66 rfl ?_
        refine aw_if_eq (tgt := 83) hC dX5_plant_68 (by decide) (fun c13 => ?_) (fun c13 => ?_)
        · have hF := it_t hF c13
          refine aw_aload_n hC dX5_plant_83 rfl ?_
          refine aw_gc5 (k := 4) (a := 0) (b := 26) hC hbt dX5_plant_84 lkRX5_44 (by decide) rfl rfl rfl (by decide) (by decide) ?_
          obtain ⟨r14, h16, q15, hF⟩ := bd_some hF
          refine clRX5_204 hC hRm hbt dX5_plant_87 rfl rfl (by decide) (Nat.le_of_ble_eq_true rfl) (Nat.le_of_ble_eq_true rfl) (ok_X0_remember_26 q15) ?_
          refine aw_aload_n hC dX5_plant_90 rfl ?_
          refine aw_gc5 (k := 4) (a := 0) (b := 26) hC hbt dX5_plant_91 lkRX5_44 (by decide) rfl rfl rfl (by decide) (by decide) ?_
          refine aw_gc0N (k := 0) (a := 26) (b := 27) hC hbt dX5_plant_94 lkRX5_109 (by decide) rfl rfl rfl (by decide) (by decide) ?_
          refine aw_iconst hC dX5_plant_97 (by decide) ?_
          refine aw_iload_n hC dX5_plant_98 rfl ?_
          refine aw_iadd hC dX5_plant_99 ?_
          refine aw_iload_n hC dX5_plant_100 rfl ?_
          obtain ⟨g17, hF⟩ := gd_some hF
          obtain ⟨h18, eh18, hF⟩ := lb_some hF
          refine aw_iastore (a := 27) hC dX5_plant_101 rfl rfl (Or.inl ⟨hbt, by decide⟩) g17.1 g17.2 ?_
          refine aw_eqH eh18 ?_
          clear eh18
          refine aw_aload_n hC dX5_plant_102 rfl ?_
          refine aw_gc5 (k := 4) (a := 0) (b := 26) hC hbt dX5_plant_103 lkRX5_44 (by decide) rfl rfl rfl (by decide) (by decide) ?_
          refine aw_gc0N (k := 0) (a := 26) (b := 27) hC hbt dX5_plant_106 lkRX5_109 (by decide) rfl rfl rfl (by decide) (by decide) ?_
          refine aw_bipush hC dX5_plant_109 (by decide) (by decide) ?_
          refine aw_iload_n hC dX5_plant_111 rfl ?_
          refine aw_iadd hC dX5_plant_112 ?_
          refine aw_iconst hC dX5_plant_113 (by decide) ?_
          obtain ⟨g19, hF⟩ := gd_some hF
          obtain ⟨h20, eh20, hF⟩ := lb_some hF
          refine aw_iastore (a := 27) hC dX5_plant_114 rfl rfl (Or.inl ⟨hbt, by decide⟩) g19.1 g19.2 ?_
          refine aw_eqH eh20 ?_
          clear eh20
          refine aw_aload_n hC dX5_plant_115 rfl ?_
          refine aw_gc5 (k := 4) (a := 0) (b := 26) hC hbt dX5_plant_116 lkRX5_44 (by decide) rfl rfl rfl (by decide) (by decide) ?_
          refine aw_gc0N (k := 0) (a := 26) (b := 27) hC hbt dX5_plant_119 lkRX5_109 (by decide) rfl rfl rfl (by decide) (by decide) ?_
          refine aw_bipush hC dX5_plant_122 (by decide) (by decide) ?_
          refine aw_iload_n hC dX5_plant_124 rfl ?_
          refine aw_iadd hC dX5_plant_125 ?_
          refine aw_iload_n hC dX5_plant_126 rfl ?_
          obtain ⟨g21, hF⟩ := gd_some hF
          obtain ⟨h22, eh22, hF⟩ := lb_some hF
          refine aw_iastore (a := 27) hC dX5_plant_127 rfl rfl (Or.inl ⟨hbt, by decide⟩) g21.1 g21.2 ?_
          refine aw_eqH eh22 ?_
          clear eh22
          refine aw_iload_n hC dX5_plant_128 rfl ?_
          exact aw_ireturn hC hZ (Nat.zero_le _) (Nat.zero_le _) hr dX5_plant_129 (hK _ _ (Option.some.inj hF).symm)
        · have hF := it_f hF c13
          refine aw_weak (ls' := [(2, ((0 : Nat) : Int)), (9, 0), (9, 0), (9, 0), (9, 0)]) ⟨Or.inr rfl, Or.inl rfl, Or.inl rfl, Or.inl rfl, Or.inl rfl, trivial⟩ ?_
          exact fX5_plant_j71_ok hC hZ hRm hbt hr hF hK
theorem fX5_plant_j43_ok {G : GD} {X : CX} {n : Nat} {Q : Av → Nat → Hp → Prop} (hC : Cx G X RX5 cX5_plant) (hZ : ZOK X G Q 0 0) (hRm : X.R = rmd 7 0 0) (hbt : X.bt = true) (hr : X.meth.sig.returnType = (some .int)) {x1 : Int} {x2 : Int} {x3 : Int} {h : Hp} {res : Int × Hp} (hF : fX5_plant_j43 x1 x2 x3 h = some res) (hK : ∀ (x9 : Int) (h9 : Hp), res = (x9, h9) → Q (0, x9) n h9) : AW G X 43 [(2, ((0 : Nat) : Int)), (0, x1), (0, x2), (0, x3), (9, 0)] [] n h 0 0 := by
  unfold fX5_plant_j43 at hF
  refine aw_iconst hC dX5_plant_43 (by decide) ?_
  refine aw_goto (tgt := 48) hC dX5_plant_44 (by decide) ?_
  exact fX5_plant_j48_ok hC hZ hRm hbt hr hF hK
theorem fX5_plant_j5_ok {G : GD} {X : CX} {n : Nat} {Q : Av → Nat → Hp → Prop} (hC : Cx G X RX5 cX5_plant) (hZ : ZOK X G Q 0 0) (hRm : X.R = rmd 7 0 0) (hbt : X.bt = true) (hr : X.meth.sig.returnType = (some .int)) {x1 : Int} {x2 : Int} {h : Hp} {res : Int × Hp} (hF : fX5_plant_j5 x1 x2 h = some res) (hK : ∀ (x9 : Int) (h9 : Hp), res = (x9, h9) → Q (0, x9) n h9) : AW G X 5 [(2, ((0 : Nat) : Int)), (0, x1), (0, x2), (9, 0), (9, 0)] [] n h 0 0 := by
  unfold fX5_plant_j5 at hF
  refine aw_aload_n hC dX5_plant_5 rfl ?_
  refine aw_gc5 (k := 4) (a := 0) (b := 26) hC hbt dX5_plant_6 lkRX5_44 (by decide) rfl rfl rfl (by decide) (by decide) ?_
  refine aw_gc0N (k := 0) (a := 26) (b := 27) hC hbt dX5_plant_9 lkRX5_109 (by decide) rfl rfl rfl (by decide) (by decide) ?_
  obtain ⟨r4, q5, hF⟩ := bp_some hF
  refine clRX5_217 hC hRm hbt dX5_plant_12 (Nat.le_of_ble_eq_true rfl) (Nat.le_of_ble_eq_true rfl) (ok_X5_freeNumber_27 q5) ?_
  refine aw_istore3 hC dX5_plant_15 rfl ?_
  refine aw_aload_n hC dX5_plant_16 rfl ?_
  refine aw_gc5 (k := 4) (a := 0) (b := 26) hC hbt dX5_plant_17 lkRX5_44 (by decide) rfl rfl rfl (by decide) (by decide) ?_
  refine aw_gc0N (k := 0) (a := 26) (b := 27) hC hbt dX5_plant_20 lkRX5_109 (by decide) rfl rfl rfl (by decide) (by decide) ?_
  refine aw_iload_n hC dX5_plant_23 rfl ?_
  obtain ⟨r6, q7, hF⟩ := bp_some hF
  refine clRX5_160 hC hRm hbt dX5_plant_24 (Nat.le_of_ble_eq_true rfl) (Nat.le_of_ble_eq_true rfl) (ok_X5_treeIn_27 q7) ?_
  refine aw_iconst hC dX5_plant_27 (by decide) ?_
  refine aw_icmp_ne (tgt := 43) hC dX5_plant_28 (by decide) (fun c8 => ?_) (fun c8 => ?_)
  · have hF := it_f hF c8
    exact fX5_plant_j43_ok hC hZ hRm hbt hr hF hK
  · have hF := it_t hF c8
    refine aw_aload_n hC dX5_plant_31 rfl ?_
    refine aw_g5r (k := 0) (a := 0) hC dX5_plant_32 lkRX5_10 (by decide) rfl rfl rfl (Or.inl ⟨hbt, by decide⟩) ?_
    refine aw_iload_n hC dX5_plant_35 rfl ?_
    obtain ⟨k23, hF⟩ := gd_some hF
    obtain ⟨r24, q25, hF⟩ := bp_some hF
    refine clRX5_164 hC hRm hbt dX5_plant_36 (lnd k23).1 (lnd k23).2.1 (lnd k23).2.2.1 (Nat.le_of_ble_eq_true rfl) (Nat.le_of_ble_eq_true rfl) (ok_X1_houseIn q25) ?_
    refine aw_iconst hC dX5_plant_39 (by decide) ?_
    refine aw_icmp_eq (tgt := 47) hC dX5_plant_40 (by decide) (fun c26 => ?_) (fun c26 => ?_)
    · have hF := it_t hF c26
      refine aw_iconst hC dX5_plant_47 (by decide) ?_
      exact fX5_plant_j48_ok hC hZ hRm hbt hr hF hK
    · have hF := it_f hF c26
      exact fX5_plant_j43_ok hC hZ hRm hbt hr hF hK
theorem ok_X5_plant_n {G : GD} {n : Nat} {x1 : Int} {x2 : Int} {h : Hp} {res : Int × Hp} (hF : fX5_plant x1 x2 h = some (.inl res)) : Con G yX5_plant cX5_plant 5 (some .int) 7 0 0 true [(2, ((0 : Nat) : Int)), (0, x1), (0, x2)] n h (FQ 0 n res) := by
  refine con_of (pad := 2) (own := RX5) (plainFor_of_name (by decide)) rfl rfl ?_
  intro X hC hbt hr hnm hZ hRm hn0
  have hK : ∀ (x9 : Int) (h9 : Hp), res = (x9, h9) → FQ 0 n res (0, x9) n h9 := fun x9 h9 e => by subst e; exact ⟨rfl, rfl, rfl⟩
  unfold fX5_plant at hF
  show AW G X 0 [(2, ((0 : Nat) : Int)), (0, x1), (0, x2), (9, 0), (9, 0)] [] n h 0 0
  refine aw_aload_n hC dX5_plant_0 rfl ?_
  refine aw_iload_n hC dX5_plant_1 rfl ?_
  obtain ⟨r1, h3, q2, hF⟩ := bx_n hF
  refine clRX5_151 hC hRm hbt dX5_plant_2 rfl rfl (by decide) (Nat.le_of_ble_eq_true rfl) (Nat.le_of_ble_eq_true rfl) (ok_X5_needCell_n q2) ?_
  have hF := mi_n hF
  exact fX5_plant_j5_ok hC hZ hRm hbt hr hF hK
theorem ok_X5_plant_x {G : GD} {n : Nat} {x1 : Int} {x2 : Int} {h : Hp} {e : Nat} {h1 : Hp} (hF : fX5_plant x1 x2 h = some (.inr (e, h1))) : ConT G yX5_plant cX5_plant 5 (some .int) 7 true [(2, ((0 : Nat) : Int)), (0, x1), (0, x2)] n h e h1 := by
  refine conT_of (pad := 2) (own := RX5) (by decide) rfl rfl ?_
  intro X hC hbt hst htab hZ hRm hn0
  unfold fX5_plant at hF
  show AW G X 0 [(2, ((0 : Nat) : Int)), (0, x1), (0, x2), (9, 0), (9, 0)] [] n h 0 0
  refine aw_aload_n hC dX5_plant_0 rfl ?_
  refine aw_iload_n hC dX5_plant_1 rfl ?_
  rcases bx_x hF with ⟨r1, h3, q2, hF⟩ | q2
  rotate_left
  · exact clTRX5_151 hC hRm hbt hn0 hZ hst htab dX5_plant_2 rfl rfl (by decide) (Nat.le_of_ble_eq_true rfl) (Nat.le_of_ble_eq_true rfl) (ok_X5_needCell_x q2)
  refine clRX5_151 hC hRm hbt dX5_plant_2 rfl rfl (by decide) (Nat.le_of_ble_eq_true rfl) (Nat.le_of_ble_eq_true rfl) (ok_X5_needCell_n q2) ?_
  exact (mi_x hF).elim
def fX5_fell_j5 (x1 : Int) (h : Hp) : Option (Int × Hp) :=
  gd_ (0 ≤ (i_add 0 x1) ∧ (i_add 0 x1) < 62) (lb_ ((h 27 (Int.toNat ((i_add 0 x1))))) (fun v5 => bd_ (fX0_remember_26 h) (fun r6 h8 => gd_ (0 ≤ (i_add 0 x1) ∧ (i_add 0 x1) < 62) (lb_ (st h8 27 (Int.toNat ((i_add 0 x1))) ((-1))) (fun h10 => some (v5, h10))))))
def fX5_fell (x1 : Int) (h : Hp) : Option RX :=
  bx_ (fX5_needTree x1 h) (fun r1 h3 => mi_ (fX5_fell_j5 x1 h3))
theorem fX5_fell_j5_ok {G : GD} {X : CX} {n : Nat} {Q : Av → Nat → Hp → Prop} (hC : Cx G X RX5 cX5_fell) (hZ : ZOK X G Q 0 0) (hRm : X.R = rmd 7 0 0) (hbt : X.bt = true) (hr : X.meth.sig.returnType = (some .int)) {x1 : Int} {h : Hp} {res : Int × Hp} (hF : fX5_fell_j5 x1 h = some res) (hK : ∀ (x9 : Int) (h9 : Hp), res = (x9, h9) → Q (0, x9) n h9) : AW G X 5 [(2, ((0 : Nat) : Int)), (0, x1), (9, 0)] [] n h 0 0 := by
  unfold fX5_fell_j5 at hF
  refine aw_aload_n hC dX5_fell_5 rfl ?_
  refine aw_gc5 (k := 4) (a := 0) (b := 26) hC hbt dX5_fell_6 lkRX5_44 (by decide) rfl rfl rfl (by decide) (by decide) ?_
  refine aw_gc0N (k := 0) (a := 26) (b := 27) hC hbt dX5_fell_9 lkRX5_109 (by decide) rfl rfl rfl (by decide) (by decide) ?_
  refine aw_iconst hC dX5_fell_12 (by decide) ?_
  refine aw_iload_n hC dX5_fell_13 rfl ?_
  refine aw_iadd hC dX5_fell_14 ?_
  obtain ⟨g4, hF⟩ := gd_some hF
  refine aw_iaload (a := 27) hC dX5_fell_15 rfl rfl (Or.inl ⟨hbt, by decide⟩) g4.1 g4.2 ?_
  obtain ⟨v5, ev5, hF⟩ := lb_some hF
  refine aw_eqT ev5 ?_
  clear ev5
  refine aw_istore2 hC dX5_fell_16 rfl ?_
  refine aw_aload_n hC dX5_fell_17 rfl ?_
  refine aw_gc5 (k := 4) (a := 0) (b := 26) hC hbt dX5_fell_18 lkRX5_44 (by decide) rfl rfl rfl (by decide) (by decide) ?_
  obtain ⟨r6, h8, q7, hF⟩ := bd_some hF
  refine clRX5_204 hC hRm hbt dX5_fell_21 rfl rfl (by decide) (Nat.le_of_ble_eq_true rfl) (Nat.le_of_ble_eq_true rfl) (ok_X0_remember_26 q7) ?_
  refine aw_aload_n hC dX5_fell_24 rfl ?_
  refine aw_gc5 (k := 4) (a := 0) (b := 26) hC hbt dX5_fell_25 lkRX5_44 (by decide) rfl rfl rfl (by decide) (by decide) ?_
  refine aw_gc0N (k := 0) (a := 26) (b := 27) hC hbt dX5_fell_28 lkRX5_109 (by decide) rfl rfl rfl (by decide) (by decide) ?_
  refine aw_iconst hC dX5_fell_31 (by decide) ?_
  refine aw_iload_n hC dX5_fell_32 rfl ?_
  refine aw_iadd hC dX5_fell_33 ?_
  refine aw_iconst hC dX5_fell_34 (by decide) ?_
  obtain ⟨g9, hF⟩ := gd_some hF
  obtain ⟨h10, eh10, hF⟩ := lb_some hF
  refine aw_iastore (a := 27) hC dX5_fell_35 rfl rfl (Or.inl ⟨hbt, by decide⟩) g9.1 g9.2 ?_
  refine aw_eqH eh10 ?_
  clear eh10
  refine aw_iload_n hC dX5_fell_36 rfl ?_
  exact aw_ireturn hC hZ (Nat.zero_le _) (Nat.zero_le _) hr dX5_fell_37 (hK _ _ (Option.some.inj hF).symm)
theorem ok_X5_fell_n {G : GD} {n : Nat} {x1 : Int} {h : Hp} {res : Int × Hp} (hF : fX5_fell x1 h = some (.inl res)) : Con G yX5_fell cX5_fell 3 (some .int) 7 0 0 true [(2, ((0 : Nat) : Int)), (0, x1)] n h (FQ 0 n res) := by
  refine con_of (pad := 1) (own := RX5) (plainFor_of_name (by decide)) rfl rfl ?_
  intro X hC hbt hr hnm hZ hRm hn0
  have hK : ∀ (x9 : Int) (h9 : Hp), res = (x9, h9) → FQ 0 n res (0, x9) n h9 := fun x9 h9 e => by subst e; exact ⟨rfl, rfl, rfl⟩
  unfold fX5_fell at hF
  show AW G X 0 [(2, ((0 : Nat) : Int)), (0, x1), (9, 0)] [] n h 0 0
  refine aw_aload_n hC dX5_fell_0 rfl ?_
  refine aw_iload_n hC dX5_fell_1 rfl ?_
  obtain ⟨r1, h3, q2, hF⟩ := bx_n hF
  refine clRX5_170 hC hRm hbt dX5_fell_2 rfl rfl (by decide) (Nat.le_of_ble_eq_true rfl) (Nat.le_of_ble_eq_true rfl) (ok_X5_needTree_n q2) ?_
  have hF := mi_n hF
  exact fX5_fell_j5_ok hC hZ hRm hbt hr hF hK
theorem ok_X5_fell_x {G : GD} {n : Nat} {x1 : Int} {h : Hp} {e : Nat} {h1 : Hp} (hF : fX5_fell x1 h = some (.inr (e, h1))) : ConT G yX5_fell cX5_fell 3 (some .int) 7 true [(2, ((0 : Nat) : Int)), (0, x1)] n h e h1 := by
  refine conT_of (pad := 1) (own := RX5) (by decide) rfl rfl ?_
  intro X hC hbt hst htab hZ hRm hn0
  unfold fX5_fell at hF
  show AW G X 0 [(2, ((0 : Nat) : Int)), (0, x1), (9, 0)] [] n h 0 0
  refine aw_aload_n hC dX5_fell_0 rfl ?_
  refine aw_iload_n hC dX5_fell_1 rfl ?_
  rcases bx_x hF with ⟨r1, h3, q2, hF⟩ | q2
  rotate_left
  · exact clTRX5_170 hC hRm hbt hn0 hZ hst htab dX5_fell_2 rfl rfl (by decide) (Nat.le_of_ble_eq_true rfl) (Nat.le_of_ble_eq_true rfl) (ok_X5_needTree_x q2)
  refine clRX5_170 hC hRm hbt dX5_fell_2 rfl rfl (by decide) (Nat.le_of_ble_eq_true rfl) (Nat.le_of_ble_eq_true rfl) (ok_X5_needTree_n q2) ?_
  exact (mi_x hF).elim
def fX5_floor_j16  (h : Hp) : Option (Int × Hp) :=
  lb_ (st h 0 12 ((i_add ((h 0 12)) 1))) (fun h5 => some ((-9), h5))
def fX5_floor_j5 (x1 : Int) (x2 : Int) (h : Hp) : Option (Int × Hp) :=
  (if x2 < (-3) then fX5_floor_j16 h else (if x2 ≤ 3 then bd_ (fX5_actOn ((i_add 42 x1)) x2 h) (fun r7 h9 => some (r7, h9)) else fX5_floor_j16 h))
def fX5_floor (x1 : Int) (x2 : Int) (h : Hp) : Option RX :=
  bx_ (fX5_needHouse x1 h) (fun r1 h3 => mi_ (fX5_floor_j5 x1 x2 h3))
theorem fX5_floor_j16_ok {G : GD} {X : CX} {n : Nat} {Q : Av → Nat → Hp → Prop} (hC : Cx G X RX5 cX5_floor) (hZ : ZOK X G Q 0 0) (hRm : X.R = rmd 7 0 0) (hbt : X.bt = true) (hr : X.meth.sig.returnType = (some .int))  {h : Hp} {res : Int × Hp} (hF : fX5_floor_j16  h = some res) (hK : ∀ (x9 : Int) (h9 : Hp), res = (x9, h9) → Q (0, x9) n h9) : AW G X 16 [(2, ((0 : Nat) : Int)), (9, 0), (9, 0)] [] n h 0 0 := by
  unfold fX5_floor_j16 at hF
  refine aw_aload_n hC dX5_floor_16 rfl ?_
  refine aw_dup hC dX5_floor_17 (by simp) ?_
  refine aw_g5i (k := 12) (a := 0) hC dX5_floor_18 lkRX5_140 (by decide) rfl rfl rfl (Or.inl ⟨hbt, by decide⟩) ?_
  refine aw_iconst hC dX5_floor_21 (by decide) ?_
  refine aw_iadd hC dX5_floor_22 ?_
  obtain ⟨h5, eh5, hF⟩ := lb_some hF
  refine aw_p5i (k := 12) (a := 0) hC dX5_floor_23 lkRX5_140 (by decide) rfl rfl rfl rfl rfl (Or.inl ⟨hbt, by decide⟩) (fun _ => by decide) ?_
  refine aw_eqH eh5 ?_
  clear eh5
  refine aw_bipush hC dX5_floor_26 (by decide) (by decide) ?_
  exact aw_ireturn hC hZ (Nat.zero_le _) (Nat.zero_le _) hr dX5_floor_28 (hK _ _ (Option.some.inj hF).symm)
theorem fX5_floor_j5_ok {G : GD} {X : CX} {n : Nat} {Q : Av → Nat → Hp → Prop} (hC : Cx G X RX5 cX5_floor) (hZ : ZOK X G Q 0 0) (hRm : X.R = rmd 7 0 0) (hbt : X.bt = true) (hr : X.meth.sig.returnType = (some .int)) {x1 : Int} {x2 : Int} {h : Hp} {res : Int × Hp} (hF : fX5_floor_j5 x1 x2 h = some res) (hK : ∀ (x9 : Int) (h9 : Hp), res = (x9, h9) → Q (0, x9) n h9) : AW G X 5 [(2, ((0 : Nat) : Int)), (0, x1), (0, x2)] [] n h 0 0 := by
  unfold fX5_floor_j5 at hF
  refine aw_iload_n hC dX5_floor_5 rfl ?_
  refine aw_bipush hC dX5_floor_6 (by decide) (by decide) ?_
  refine aw_icmp_lt (tgt := 16) hC dX5_floor_8 (by decide) (fun c4 => ?_) (fun c4 => ?_)
  · have hF := it_t hF c4
    refine aw_weak (ls' := [(2, ((0 : Nat) : Int)), (9, 0), (9, 0)]) ⟨Or.inr rfl, Or.inl rfl, Or.inl rfl, trivial⟩ ?_
    exact fX5_floor_j16_ok hC hZ hRm hbt hr hF hK
  · have hF := it_f hF c4
    refine aw_iload_n hC dX5_floor_11 rfl ?_
    refine aw_iconst hC dX5_floor_12 (by decide) ?_
    refine aw_icmp_le (tgt := 29) hC dX5_floor_13 (by decide) (fun c6 => ?_) (fun c6 => ?_)
    · have hF := it_t hF c6
      refine aw_aload_n hC dX5_floor_29 rfl ?_
      refine aw_bipush hC dX5_floor_30 (by decide) (by decide) ?_
      refine aw_iload_n hC dX5_floor_32 rfl ?_
      refine aw_iadd hC dX5_floor_33 ?_
      refine aw_iload_n hC dX5_floor_34 rfl ?_
      obtain ⟨r7, h9, q8, hF⟩ := bd_some hF
      refine clRX5_220 hC hRm hbt dX5_floor_35 rfl rfl (by decide) (Nat.le_of_ble_eq_true rfl) (Nat.le_of_ble_eq_true rfl) (ok_X5_actOn q8) ?_
      exact aw_ireturn hC hZ (Nat.zero_le _) (Nat.zero_le _) hr dX5_floor_38 (hK _ _ (Option.some.inj hF).symm)
    · have hF := it_f hF c6
      refine aw_weak (ls' := [(2, ((0 : Nat) : Int)), (9, 0), (9, 0)]) ⟨Or.inr rfl, Or.inl rfl, Or.inl rfl, trivial⟩ ?_
      exact fX5_floor_j16_ok hC hZ hRm hbt hr hF hK
theorem ok_X5_floor_n {G : GD} {n : Nat} {x1 : Int} {x2 : Int} {h : Hp} {res : Int × Hp} (hF : fX5_floor x1 x2 h = some (.inl res)) : Con G yX5_floor cX5_floor 3 (some .int) 7 0 0 true [(2, ((0 : Nat) : Int)), (0, x1), (0, x2)] n h (FQ 0 n res) := by
  refine con_of (pad := 0) (own := RX5) (plainFor_of_name (by decide)) rfl rfl ?_
  intro X hC hbt hr hnm hZ hRm hn0
  have hK : ∀ (x9 : Int) (h9 : Hp), res = (x9, h9) → FQ 0 n res (0, x9) n h9 := fun x9 h9 e => by subst e; exact ⟨rfl, rfl, rfl⟩
  unfold fX5_floor at hF
  show AW G X 0 [(2, ((0 : Nat) : Int)), (0, x1), (0, x2)] [] n h 0 0
  refine aw_aload_n hC dX5_floor_0 rfl ?_
  refine aw_iload_n hC dX5_floor_1 rfl ?_
  obtain ⟨r1, h3, q2, hF⟩ := bx_n hF
  refine clRX5_173 hC hRm hbt dX5_floor_2 rfl rfl (by decide) (Nat.le_of_ble_eq_true rfl) (Nat.le_of_ble_eq_true rfl) (ok_X5_needHouse_n q2) ?_
  have hF := mi_n hF
  exact fX5_floor_j5_ok hC hZ hRm hbt hr hF hK
theorem ok_X5_floor_x {G : GD} {n : Nat} {x1 : Int} {x2 : Int} {h : Hp} {e : Nat} {h1 : Hp} (hF : fX5_floor x1 x2 h = some (.inr (e, h1))) : ConT G yX5_floor cX5_floor 3 (some .int) 7 true [(2, ((0 : Nat) : Int)), (0, x1), (0, x2)] n h e h1 := by
  refine conT_of (pad := 0) (own := RX5) (by decide) rfl rfl ?_
  intro X hC hbt hst htab hZ hRm hn0
  unfold fX5_floor at hF
  show AW G X 0 [(2, ((0 : Nat) : Int)), (0, x1), (0, x2)] [] n h 0 0
  refine aw_aload_n hC dX5_floor_0 rfl ?_
  refine aw_iload_n hC dX5_floor_1 rfl ?_
  rcases bx_x hF with ⟨r1, h3, q2, hF⟩ | q2
  rotate_left
  · exact clTRX5_173 hC hRm hbt hn0 hZ hst htab dX5_floor_2 rfl rfl (by decide) (Nat.le_of_ble_eq_true rfl) (Nat.le_of_ble_eq_true rfl) (ok_X5_needHouse_x q2)
  refine clRX5_173 hC hRm hbt dX5_floor_2 rfl rfl (by decide) (Nat.le_of_ble_eq_true rfl) (Nat.le_of_ble_eq_true rfl) (ok_X5_needHouse_n q2) ?_
  exact (mi_x hF).elim
def fX5_barn_j14  (h : Hp) : Option (Int × Hp) :=
  lb_ (st h 0 12 ((i_add ((h 0 12)) 1))) (fun h5 => some ((-1), h5))
def fX5_barn_j5 (x1 : Int) (x2 : Int) (h : Hp) : Option (Int × Hp) :=
  (if x2 < 0 then fX5_barn_j14 h else (if x2 ≤ 5 then bd_ (fX5_actOn ((i_add 48 x1)) x2 h) (fun r7 h9 => some (r7, h9)) else fX5_barn_j14 h))
def fX5_barn (x1 : Int) (x2 : Int) (h : Hp) : Option RX :=
  bx_ (fX5_needHouse x1 h) (fun r1 h3 => mi_ (fX5_barn_j5 x1 x2 h3))
theorem fX5_barn_j14_ok {G : GD} {X : CX} {n : Nat} {Q : Av → Nat → Hp → Prop} (hC : Cx G X RX5 cX5_barn) (hZ : ZOK X G Q 0 0) (hRm : X.R = rmd 7 0 0) (hbt : X.bt = true) (hr : X.meth.sig.returnType = (some .int))  {h : Hp} {res : Int × Hp} (hF : fX5_barn_j14  h = some res) (hK : ∀ (x9 : Int) (h9 : Hp), res = (x9, h9) → Q (0, x9) n h9) : AW G X 14 [(2, ((0 : Nat) : Int)), (9, 0), (9, 0)] [] n h 0 0 := by
  unfold fX5_barn_j14 at hF
  refine aw_aload_n hC dX5_barn_14 rfl ?_
  refine aw_dup hC dX5_barn_15 (by simp) ?_
  refine aw_g5i (k := 12) (a := 0) hC dX5_barn_16 lkRX5_140 (by decide) rfl rfl rfl (Or.inl ⟨hbt, by decide⟩) ?_
  refine aw_iconst hC dX5_barn_19 (by decide) ?_
  refine aw_iadd hC dX5_barn_20 ?_
  obtain ⟨h5, eh5, hF⟩ := lb_some hF
  refine aw_p5i (k := 12) (a := 0) hC dX5_barn_21 lkRX5_140 (by decide) rfl rfl rfl rfl rfl (Or.inl ⟨hbt, by decide⟩) (fun _ => by decide) ?_
  refine aw_eqH eh5 ?_
  clear eh5
  refine aw_iconst hC dX5_barn_24 (by decide) ?_
  exact aw_ireturn hC hZ (Nat.zero_le _) (Nat.zero_le _) hr dX5_barn_25 (hK _ _ (Option.some.inj hF).symm)
theorem fX5_barn_j5_ok {G : GD} {X : CX} {n : Nat} {Q : Av → Nat → Hp → Prop} (hC : Cx G X RX5 cX5_barn) (hZ : ZOK X G Q 0 0) (hRm : X.R = rmd 7 0 0) (hbt : X.bt = true) (hr : X.meth.sig.returnType = (some .int)) {x1 : Int} {x2 : Int} {h : Hp} {res : Int × Hp} (hF : fX5_barn_j5 x1 x2 h = some res) (hK : ∀ (x9 : Int) (h9 : Hp), res = (x9, h9) → Q (0, x9) n h9) : AW G X 5 [(2, ((0 : Nat) : Int)), (0, x1), (0, x2)] [] n h 0 0 := by
  unfold fX5_barn_j5 at hF
  refine aw_iload_n hC dX5_barn_5 rfl ?_
  refine aw_if_lt (tgt := 14) hC dX5_barn_6 (by decide) (fun c4 => ?_) (fun c4 => ?_)
  · have hF := it_t hF c4
    refine aw_weak (ls' := [(2, ((0 : Nat) : Int)), (9, 0), (9, 0)]) ⟨Or.inr rfl, Or.inl rfl, Or.inl rfl, trivial⟩ ?_
    exact fX5_barn_j14_ok hC hZ hRm hbt hr hF hK
  · have hF := it_f hF c4
    refine aw_iload_n hC dX5_barn_9 rfl ?_
    refine aw_iconst hC dX5_barn_10 (by decide) ?_
    refine aw_icmp_le (tgt := 26) hC dX5_barn_11 (by decide) (fun c6 => ?_) (fun c6 => ?_)
    · have hF := it_t hF c6
      refine aw_aload_n hC dX5_barn_26 rfl ?_
      refine aw_bipush hC dX5_barn_27 (by decide) (by decide) ?_
      refine aw_iload_n hC dX5_barn_29 rfl ?_
      refine aw_iadd hC dX5_barn_30 ?_
      refine aw_iload_n hC dX5_barn_31 rfl ?_
      obtain ⟨r7, h9, q8, hF⟩ := bd_some hF
      refine clRX5_220 hC hRm hbt dX5_barn_32 rfl rfl (by decide) (Nat.le_of_ble_eq_true rfl) (Nat.le_of_ble_eq_true rfl) (ok_X5_actOn q8) ?_
      exact aw_ireturn hC hZ (Nat.zero_le _) (Nat.zero_le _) hr dX5_barn_35 (hK _ _ (Option.some.inj hF).symm)
    · have hF := it_f hF c6
      refine aw_weak (ls' := [(2, ((0 : Nat) : Int)), (9, 0), (9, 0)]) ⟨Or.inr rfl, Or.inl rfl, Or.inl rfl, trivial⟩ ?_
      exact fX5_barn_j14_ok hC hZ hRm hbt hr hF hK
theorem ok_X5_barn_n {G : GD} {n : Nat} {x1 : Int} {x2 : Int} {h : Hp} {res : Int × Hp} (hF : fX5_barn x1 x2 h = some (.inl res)) : Con G yX5_barn cX5_barn 3 (some .int) 7 0 0 true [(2, ((0 : Nat) : Int)), (0, x1), (0, x2)] n h (FQ 0 n res) := by
  refine con_of (pad := 0) (own := RX5) (plainFor_of_name (by decide)) rfl rfl ?_
  intro X hC hbt hr hnm hZ hRm hn0
  have hK : ∀ (x9 : Int) (h9 : Hp), res = (x9, h9) → FQ 0 n res (0, x9) n h9 := fun x9 h9 e => by subst e; exact ⟨rfl, rfl, rfl⟩
  unfold fX5_barn at hF
  show AW G X 0 [(2, ((0 : Nat) : Int)), (0, x1), (0, x2)] [] n h 0 0
  refine aw_aload_n hC dX5_barn_0 rfl ?_
  refine aw_iload_n hC dX5_barn_1 rfl ?_
  obtain ⟨r1, h3, q2, hF⟩ := bx_n hF
  refine clRX5_173 hC hRm hbt dX5_barn_2 rfl rfl (by decide) (Nat.le_of_ble_eq_true rfl) (Nat.le_of_ble_eq_true rfl) (ok_X5_needHouse_n q2) ?_
  have hF := mi_n hF
  exact fX5_barn_j5_ok hC hZ hRm hbt hr hF hK
theorem ok_X5_barn_x {G : GD} {n : Nat} {x1 : Int} {x2 : Int} {h : Hp} {e : Nat} {h1 : Hp} (hF : fX5_barn x1 x2 h = some (.inr (e, h1))) : ConT G yX5_barn cX5_barn 3 (some .int) 7 true [(2, ((0 : Nat) : Int)), (0, x1), (0, x2)] n h e h1 := by
  refine conT_of (pad := 0) (own := RX5) (by decide) rfl rfl ?_
  intro X hC hbt hst htab hZ hRm hn0
  unfold fX5_barn at hF
  show AW G X 0 [(2, ((0 : Nat) : Int)), (0, x1), (0, x2)] [] n h 0 0
  refine aw_aload_n hC dX5_barn_0 rfl ?_
  refine aw_iload_n hC dX5_barn_1 rfl ?_
  rcases bx_x hF with ⟨r1, h3, q2, hF⟩ | q2
  rotate_left
  · exact clTRX5_173 hC hRm hbt hn0 hZ hst htab dX5_barn_2 rfl rfl (by decide) (Nat.le_of_ble_eq_true rfl) (Nat.le_of_ble_eq_true rfl) (ok_X5_needHouse_x q2)
  refine clRX5_173 hC hRm hbt dX5_barn_2 rfl rfl (by decide) (Nat.le_of_ble_eq_true rfl) (Nat.le_of_ble_eq_true rfl) (ok_X5_needHouse_n q2) ?_
  exact (mi_x hF).elim
def fX5_sell_j9 (x1 : Int) (x2 : Int) (h : Hp) : Option (Int × Hp) :=
  gd_ (0 ≤ (i_add 54 x1) ∧ (i_add 54 x1) < 62) (lb_ ((h 27 (Int.toNat ((i_add 54 x1))))) (fun v8 => bp_ (fX5_hasBit v8 x2 h) (fun r9 => (if r9 = 0 then bd_ (fX5_actOn ((i_add 54 x1)) ((i_or v8 ((i_shl 1 x2)))) h) (fun r12 h14 => some (1, h14)) else lb_ (st h 0 12 ((i_add ((h 0 12)) 1))) (fun h15 => some (0, h15))))))
def fX5_sell (x1 : Int) (x2 : Int) (h : Hp) : Option RX :=
  bx_ (fX5_needHouse x1 h) (fun r1 h3 => bx_ (fX5_needDirection x2 h3) (fun r4 h6 => mi_ (fX5_sell_j9 x1 x2 h6)))
theorem fX5_sell_j9_ok {G : GD} {X : CX} {n : Nat} {Q : Av → Nat → Hp → Prop} (hC : Cx G X RX5 cX5_sell) (hZ : ZOK X G Q 0 0) (hRm : X.R = rmd 7 0 0) (hbt : X.bt = true) (hr : X.meth.sig.returnType = (some .boolean)) {x1 : Int} {x2 : Int} {h : Hp} {res : Int × Hp} (hF : fX5_sell_j9 x1 x2 h = some res) (hK : ∀ (x9 : Int) (h9 : Hp), res = (x9, h9) → Q (0, x9) n h9) : AW G X 9 [(2, ((0 : Nat) : Int)), (0, x1), (0, x2), (9, 0)] [] n h 0 0 := by
  unfold fX5_sell_j9 at hF
  refine aw_aload_n hC dX5_sell_9 rfl ?_
  refine aw_gc5 (k := 4) (a := 0) (b := 26) hC hbt dX5_sell_10 lkRX5_44 (by decide) rfl rfl rfl (by decide) (by decide) ?_
  refine aw_gc0N (k := 0) (a := 26) (b := 27) hC hbt dX5_sell_13 lkRX5_109 (by decide) rfl rfl rfl (by decide) (by decide) ?_
  refine aw_bipush hC dX5_sell_16 (by decide) (by decide) ?_
  refine aw_iload_n hC dX5_sell_18 rfl ?_
  refine aw_iadd hC dX5_sell_19 ?_
  obtain ⟨g7, hF⟩ := gd_some hF
  refine aw_iaload (a := 27) hC dX5_sell_20 rfl rfl (Or.inl ⟨hbt, by decide⟩) g7.1 g7.2 ?_
  obtain ⟨v8, ev8, hF⟩ := lb_some hF
  refine aw_eqT ev8 ?_
  clear ev8
  refine aw_istore3 hC dX5_sell_21 rfl ?_
  refine aw_iload_n hC dX5_sell_22 rfl ?_
  refine aw_i2l hC dX5_sell_23 ?_
  refine aw_iload_n hC dX5_sell_24 rfl ?_
  obtain ⟨r9, q10, hF⟩ := bp_some hF
  refine clRX5_224 hC hRm hbt dX5_sell_25 (Nat.le_of_ble_eq_true rfl) (Nat.le_of_ble_eq_true rfl) (ok_X5_hasBit q10) ?_
  refine aw_if_eq (tgt := 43) hC dX5_sell_28 (by decide) (fun c11 => ?_) (fun c11 => ?_)
  · have hF := it_t hF c11
    refine aw_aload_n hC dX5_sell_43 rfl ?_
    refine aw_bipush hC dX5_sell_44 (by decide) (by decide) ?_
    refine aw_iload_n hC dX5_sell_46 rfl ?_
    refine aw_iadd hC dX5_sell_47 ?_
    refine aw_iload_n hC dX5_sell_48 rfl ?_
    refine aw_iconst hC dX5_sell_49 (by decide) ?_
    refine aw_iload_n hC dX5_sell_50 rfl ?_
    refine aw_ishl hC dX5_sell_51 ?_
    refine aw_ior hC dX5_sell_52 ?_
    obtain ⟨r12, h14, q13, hF⟩ := bd_some hF
    refine clRX5_220 hC hRm hbt dX5_sell_53 rfl rfl (by decide) (Nat.le_of_ble_eq_true rfl) (Nat.le_of_ble_eq_true rfl) (ok_X5_actOn q13) ?_
    refine aw_pop hC dX5_sell_56 (by simp) ?_
    refine aw_iconst hC dX5_sell_57 (by decide) ?_
    exact aw_zreturn hC hZ (Nat.zero_le _) (Nat.zero_le _) hr rfl dX5_sell_58 (by decide) (hK _ _ (Option.some.inj hF).symm)
  · have hF := it_f hF c11
    refine aw_aload_n hC dX5_sell_31 rfl ?_
    refine aw_dup hC dX5_sell_32 (by simp) ?_
    refine aw_g5i (k := 12) (a := 0) hC dX5_sell_33 lkRX5_140 (by decide) rfl rfl rfl (Or.inl ⟨hbt, by decide⟩) ?_
    refine aw_iconst hC dX5_sell_36 (by decide) ?_
    refine aw_iadd hC dX5_sell_37 ?_
    obtain ⟨h15, eh15, hF⟩ := lb_some hF
    refine aw_p5i (k := 12) (a := 0) hC dX5_sell_38 lkRX5_140 (by decide) rfl rfl rfl rfl rfl (Or.inl ⟨hbt, by decide⟩) (fun _ => by decide) ?_
    refine aw_eqH eh15 ?_
    clear eh15
    refine aw_iconst hC dX5_sell_41 (by decide) ?_
    exact aw_zreturn hC hZ (Nat.zero_le _) (Nat.zero_le _) hr rfl dX5_sell_42 (by decide) (hK _ _ (Option.some.inj hF).symm)
theorem ok_X5_sell_n {G : GD} {n : Nat} {x1 : Int} {x2 : Int} {h : Hp} {res : Int × Hp} (hF : fX5_sell x1 x2 h = some (.inl res)) : Con G yX5_sell cX5_sell 4 (some .boolean) 7 0 0 true [(2, ((0 : Nat) : Int)), (0, x1), (0, x2)] n h (FQ 0 n res) := by
  refine con_of (pad := 1) (own := RX5) (plainFor_of_name (by decide)) rfl rfl ?_
  intro X hC hbt hr hnm hZ hRm hn0
  have hK : ∀ (x9 : Int) (h9 : Hp), res = (x9, h9) → FQ 0 n res (0, x9) n h9 := fun x9 h9 e => by subst e; exact ⟨rfl, rfl, rfl⟩
  unfold fX5_sell at hF
  show AW G X 0 [(2, ((0 : Nat) : Int)), (0, x1), (0, x2), (9, 0)] [] n h 0 0
  refine aw_aload_n hC dX5_sell_0 rfl ?_
  refine aw_iload_n hC dX5_sell_1 rfl ?_
  obtain ⟨r1, h3, q2, hF⟩ := bx_n hF
  refine clRX5_173 hC hRm hbt dX5_sell_2 rfl rfl (by decide) (Nat.le_of_ble_eq_true rfl) (Nat.le_of_ble_eq_true rfl) (ok_X5_needHouse_n q2) ?_
  refine aw_iload_n hC dX5_sell_5 rfl ?_
  obtain ⟨r4, h6, q5, hF⟩ := bx_n hF
  refine clRX5_191 hC hRm hbt dX5_sell_6 (Nat.le_of_ble_eq_true rfl) (Nat.le_of_ble_eq_true rfl) (ok_X5_needDirection_n q5) ?_
  have hF := mi_n hF
  exact fX5_sell_j9_ok hC hZ hRm hbt hr hF hK
theorem ok_X5_sell_x {G : GD} {n : Nat} {x1 : Int} {x2 : Int} {h : Hp} {e : Nat} {h1 : Hp} (hF : fX5_sell x1 x2 h = some (.inr (e, h1))) : ConT G yX5_sell cX5_sell 4 (some .boolean) 7 true [(2, ((0 : Nat) : Int)), (0, x1), (0, x2)] n h e h1 := by
  refine conT_of (pad := 1) (own := RX5) (by decide) rfl rfl ?_
  intro X hC hbt hst htab hZ hRm hn0
  unfold fX5_sell at hF
  show AW G X 0 [(2, ((0 : Nat) : Int)), (0, x1), (0, x2), (9, 0)] [] n h 0 0
  refine aw_aload_n hC dX5_sell_0 rfl ?_
  refine aw_iload_n hC dX5_sell_1 rfl ?_
  rcases bx_x hF with ⟨r1, h3, q2, hF⟩ | q2
  rotate_left
  · exact clTRX5_173 hC hRm hbt hn0 hZ hst htab dX5_sell_2 rfl rfl (by decide) (Nat.le_of_ble_eq_true rfl) (Nat.le_of_ble_eq_true rfl) (ok_X5_needHouse_x q2)
  refine clRX5_173 hC hRm hbt dX5_sell_2 rfl rfl (by decide) (Nat.le_of_ble_eq_true rfl) (Nat.le_of_ble_eq_true rfl) (ok_X5_needHouse_n q2) ?_
  refine aw_iload_n hC dX5_sell_5 rfl ?_
  rcases bx_x hF with ⟨r4, h6, q5, hF⟩ | q5
  rotate_left
  · exact clTRX5_191 hC hRm hbt hn0 hZ hst htab dX5_sell_6 (Nat.le_of_ble_eq_true rfl) (Nat.le_of_ble_eq_true rfl) (ok_X5_needDirection_x q5)
  refine clRX5_191 hC hRm hbt dX5_sell_6 (Nat.le_of_ble_eq_true rfl) (Nat.le_of_ble_eq_true rfl) (ok_X5_needDirection_n q5) ?_
  exact (mi_x hF).elim
def fX5_firs_l68 (x1 : Int) (x2 : Int) (x3 : Int) (x5 : Int) (h : Hp) : Option ((Int × Hp) ⊕ ((Hp) ⊕ (Int × Hp))) :=
  (if 64 ≤ x5 then some (.inr (.inl h)) else bp_ (fX5_hasBit x3 x5 h) (fun r22 => (if r22 = 0 then some (.inl ((i_add x5 1), h)) else bd_ (fX5_firsHelp x5 ((-1)) x1 x2 h) (fun r26 h28 => (if r26 = 0 then some (.inl ((i_add x5 1), h28)) else bd_ (fX5_keepFirs 1 x5 0 h28) (fun r31 h33 => some (.inr (.inr (r31, h33)))))))))
def fX5_firs_l127 (x1 : Int) (x2 : Int) (x3 : Int) (x5 : Int) (x6 : Int) (h : Hp) : Option ((Int × Hp) ⊕ ((Hp) ⊕ (Int × Hp))) :=
  (if 64 ≤ x6 then some (.inr (.inl h)) else bp_ (fX5_hasBit x3 x5 h) (fun r39 => (if r39 = 0 then some (.inr (.inl h)) else bp_ (fX5_hasBit x3 x6 h) (fun r42 => (if r42 = 0 then some (.inl ((i_add x6 1), h)) else bd_ (fX5_firsHelp x5 x6 x1 x2 h) (fun r46 h48 => (if r46 = 0 then some (.inl ((i_add x6 1), h48)) else bd_ (fX5_keepFirs 2 x5 x6 h48) (fun r51 h53 => some (.inr (.inr (r51, h53)))))))))))
def fX5_firs_l114 (x1 : Int) (x2 : Int) (x3 : Int) (x5 : Int) (h : Hp) : Option ((Int × Hp) ⊕ ((Hp) ⊕ (Int × Hp))) :=
  (if 64 ≤ x5 then some (.inr (.inl h)) else lb_ ((i_add x5 1)) (fun v37 => bp_ (it_ (fun s => fX5_firs_l127 x1 x2 x3 x5 s.1 s.2) FU (v37, h)) (fun e54 => match e54 with | .inl e54 => (fun h55 => some (.inl ((i_add x5 1), h55))) e54 | .inr q9 => some (.inr (.inr q9)))))
def fX5_firs_j28 (x1 : Int) (x2 : Int) (h : Hp) : Option (Int × Hp) :=
  bd_ (fX5_present h) (fun r7 h9 => gd_ (r7 = ((20 : Nat) : Int)) (bd_ (fX3_allWithin x1 x2 h9) (fun r11 h13 => (if r11 = 0 then bp_ (fX3_freeCells h13) (fun r15 => bd_ (fX3_looksOver x1 h13) (fun r17 h19 => lb_ ((l_and r15 r17)) (fun v20 => bp_ (it_ (fun s => fX5_firs_l68 x1 x2 v20 s.1 s.2) FU (0, h19)) (fun e34 => match e34 with | .inl e34 => (fun h35 => bp_ (it_ (fun s => fX5_firs_l114 x1 x2 v20 s.1 s.2) FU (0, h35)) (fun e57 => match e57 with | .inl e57 => (fun h58 => some ((-1), h58)) e57 | .inr q9 => some q9)) e34 | .inr q9 => some q9)))) else bd_ (fX5_keepFirs 0 0 0 h13) (fun r59 h61 => some (r59, h61))))))
def fX5_firs (x1 : Int) (x2 : Int) (h : Hp) : Option RX :=
  bp_ (fX5_houseBits h) (fun r1 => (if (i_and x1 ((i_xor r1 ((-1))))) = 0 then bp_ (fX5_isTax x2 h) (fun r4 => (if r4 = 0 then some (.inr (1, h)) else mi_ (fX5_firs_j28 x1 x2 h))) else some (.inr (1, h))))
theorem fX5_firs_l68_ok {G : GD} {X : CX} {n : Nat} {Q : Av → Nat → Hp → Prop} (hC : Cx G X RX5 cX5_firs) (hZ : ZOK X G Q 0 0) (hRm : X.R = rmd 6 0 0) (hbt : X.bt = true) (hr : X.meth.sig.returnType = (some .int)) {x1 : Int} {x2 : Int} {x3 : Int} : ∀ (f : Nat) (x5 : Int) (h : Hp) (r : (Hp) ⊕ (Int × Hp)), it_ (fun s => fX5_firs_l68 x1 x2 x3 s.1 s.2) f (x5, h) = some r → (∀ (h9 : Hp), r = (.inl h9) → AW G X 111 [(2, ((0 : Nat) : Int)), (0, x1), (0, x2), (1, x3), (9, 0), (9, 0), (9, 0)] [] n h9 0 0) → (∀ (x9 : Int) (h9 : Hp), r = .inr (x9, h9) → Q (0, x9) n h9) → AW G X 68 [(2, ((0 : Nat) : Int)), (0, x1), (0, x2), (1, x3), (9, 0), (0, x5), (9, 0)] [] n h 0 0 := by
  intro f
  induction f with
  | zero => intro x5 h r hI; cases hI
  | succ f ih0 =>
    intro x5 h r hI hX hRet9
    obtain ⟨b, hF, hb1, hb2⟩ := it_succ hI
    have hF : fX5_firs_l68 x1 x2 x3 x5 h = some b := hF
    have hRet : ∀ (x9 : Int) (h9 : Hp), b = .inr (.inr (x9, h9)) → Q (0, x9) n h9 := fun x9 h9 e => hRet9 x9 h9 (hb2 _ e).symm
    unfold fX5_firs_l68 at hF
    refine aw_iload hC dX5_firs_68 rfl ?_
    refine aw_bipush hC dX5_firs_70 (by decide) (by decide) ?_
    refine aw_icmp_ge (tgt := 111) hC dX5_firs_72 (by decide) (fun c21 => ?_) (fun c21 => ?_)
    · have hF := it_t hF c21
      refine aw_weak (ls' := [(2, ((0 : Nat) : Int)), (0, x1), (0, x2), (1, x3), (9, 0), (9, 0), (9, 0)]) ⟨Or.inr rfl, Or.inr rfl, Or.inr rfl, Or.inr rfl, Or.inl rfl, Or.inl rfl, Or.inl rfl, trivial⟩ ?_
      exact hX _ (hb2 _ (Option.some.inj hF).symm).symm
    · have hF := it_f hF c21
      refine aw_lload_n hC dX5_firs_75 rfl ?_
      refine aw_iload hC dX5_firs_76 rfl ?_
      obtain ⟨r22, q23, hF⟩ := bp_some hF
      refine clRX5_224 hC hRm hbt dX5_firs_78 (Nat.le_of_ble_eq_true rfl) (Nat.le_of_ble_eq_true rfl) (ok_X5_hasBit q23) ?_
      refine aw_if_eq (tgt := 105) hC dX5_firs_81 (by decide) (fun c24 => ?_) (fun c24 => ?_)
      · have hF := it_t hF c24
        refine aw_iinc5 hC dX5_firs_105 rfl ?_
        refine aw_goto (tgt := 68) hC dX5_firs_108 (by decide) ?_
        exact ih0 _ _ r (hb1 _ (Option.some.inj hF).symm) hX hRet9
      · have hF := it_f hF c24
        refine aw_aload_n hC dX5_firs_84 rfl ?_
        refine aw_iload hC dX5_firs_85 rfl ?_
        refine aw_iconst hC dX5_firs_87 (by decide) ?_
        refine aw_iload_n hC dX5_firs_88 rfl ?_
        refine aw_iload_n hC dX5_firs_89 rfl ?_
        obtain ⟨r26, h28, q27, hF⟩ := bd_some hF
        refine clRX5_260 hC hRm hbt dX5_firs_90 rfl rfl (by decide) (Nat.le_of_ble_eq_true rfl) (Nat.le_of_ble_eq_true rfl) (ok_X5_firsHelp q27) ?_
        refine aw_if_eq (tgt := 105) hC dX5_firs_93 (by decide) (fun c29 => ?_) (fun c29 => ?_)
        · have hF := it_t hF c29
          refine aw_iinc5 hC dX5_firs_105 rfl ?_
          refine aw_goto (tgt := 68) hC dX5_firs_108 (by decide) ?_
          exact ih0 _ _ r (hb1 _ (Option.some.inj hF).symm) hX hRet9
        · have hF := it_f hF c29
          refine aw_aload_n hC dX5_firs_96 rfl ?_
          refine aw_iconst hC dX5_firs_97 (by decide) ?_
          refine aw_iload hC dX5_firs_98 rfl ?_
          refine aw_iconst hC dX5_firs_100 (by decide) ?_
          obtain ⟨r31, h33, q32, hF⟩ := bd_some hF
          refine clRX5_248 hC hRm hbt dX5_firs_101 rfl rfl (by decide) (Nat.le_of_ble_eq_true rfl) (Nat.le_of_ble_eq_true rfl) (ok_X5_keepFirs q32) ?_
          exact aw_ireturn hC hZ (Nat.zero_le _) (Nat.zero_le _) hr dX5_firs_104 (hRet _ _ (Option.some.inj hF).symm)
theorem fX5_firs_l127_ok {G : GD} {X : CX} {n : Nat} {Q : Av → Nat → Hp → Prop} (hC : Cx G X RX5 cX5_firs) (hZ : ZOK X G Q 0 0) (hRm : X.R = rmd 6 0 0) (hbt : X.bt = true) (hr : X.meth.sig.returnType = (some .int)) {x1 : Int} {x2 : Int} {x3 : Int} {x5 : Int} : ∀ (f : Nat) (x6 : Int) (h : Hp) (r : (Hp) ⊕ (Int × Hp)), it_ (fun s => fX5_firs_l127 x1 x2 x3 x5 s.1 s.2) f (x6, h) = some r → (∀ (h9 : Hp), r = (.inl h9) → AW G X 181 [(2, ((0 : Nat) : Int)), (0, x1), (0, x2), (1, x3), (9, 0), (0, x5), (9, 0)] [] n h9 0 0) → (∀ (x9 : Int) (h9 : Hp), r = .inr (x9, h9) → Q (0, x9) n h9) → AW G X 127 [(2, ((0 : Nat) : Int)), (0, x1), (0, x2), (1, x3), (9, 0), (0, x5), (0, x6)] [] n h 0 0 := by
  intro f
  induction f with
  | zero => intro x6 h r hI; cases hI
  | succ f ih0 =>
    intro x6 h r hI hX hRet9
    obtain ⟨b, hF, hb1, hb2⟩ := it_succ hI
    have hF : fX5_firs_l127 x1 x2 x3 x5 x6 h = some b := hF
    have hRet : ∀ (x9 : Int) (h9 : Hp), b = .inr (.inr (x9, h9)) → Q (0, x9) n h9 := fun x9 h9 e => hRet9 x9 h9 (hb2 _ e).symm
    unfold fX5_firs_l127 at hF
    refine aw_iload hC dX5_firs_127 rfl ?_
    refine aw_bipush hC dX5_firs_129 (by decide) (by decide) ?_
    refine aw_icmp_ge (tgt := 181) hC dX5_firs_131 (by decide) (fun c38 => ?_) (fun c38 => ?_)
    · have hF := it_t hF c38
      refine aw_weak (ls' := [(2, ((0 : Nat) : Int)), (0, x1), (0, x2), (1, x3), (9, 0), (0, x5), (9, 0)]) ⟨Or.inr rfl, Or.inr rfl, Or.inr rfl, Or.inr rfl, Or.inl rfl, Or.inr rfl, Or.inl rfl, trivial⟩ ?_
      exact hX _ (hb2 _ (Option.some.inj hF).symm).symm
    · have hF := it_f hF c38
      refine aw_lload_n hC dX5_firs_134 rfl ?_
      refine aw_iload hC dX5_firs_135 rfl ?_
      obtain ⟨r39, q40, hF⟩ := bp_some hF
      refine clRX5_224 hC hRm hbt dX5_firs_137 (Nat.le_of_ble_eq_true rfl) (Nat.le_of_ble_eq_true rfl) (ok_X5_hasBit q40) ?_
      refine aw_if_eq (tgt := 181) hC dX5_firs_140 (by decide) (fun c41 => ?_) (fun c41 => ?_)
      · have hF := it_t hF c41
        refine aw_weak (ls' := [(2, ((0 : Nat) : Int)), (0, x1), (0, x2), (1, x3), (9, 0), (0, x5), (9, 0)]) ⟨Or.inr rfl, Or.inr rfl, Or.inr rfl, Or.inr rfl, Or.inl rfl, Or.inr rfl, Or.inl rfl, trivial⟩ ?_
        exact hX _ (hb2 _ (Option.some.inj hF).symm).symm
      · have hF := it_f hF c41
        refine aw_lload_n hC dX5_firs_143 rfl ?_
        refine aw_iload hC dX5_firs_144 rfl ?_
        obtain ⟨r42, q43, hF⟩ := bp_some hF
        refine clRX5_224 hC hRm hbt dX5_firs_146 (Nat.le_of_ble_eq_true rfl) (Nat.le_of_ble_eq_true rfl) (ok_X5_hasBit q43) ?_
        refine aw_if_eq (tgt := 175) hC dX5_firs_149 (by decide) (fun c44 => ?_) (fun c44 => ?_)
        · have hF := it_t hF c44
          refine aw_iinc6 hC dX5_firs_175 rfl ?_
          refine aw_goto (tgt := 127) hC dX5_firs_178 (by decide) ?_
          exact ih0 _ _ r (hb1 _ (Option.some.inj hF).symm) hX hRet9
        · have hF := it_f hF c44
          refine aw_aload_n hC dX5_firs_152 rfl ?_
          refine aw_iload hC dX5_firs_153 rfl ?_
          refine aw_iload hC dX5_firs_155 rfl ?_
          refine aw_iload_n hC dX5_firs_157 rfl ?_
          refine aw_iload_n hC dX5_firs_158 rfl ?_
          obtain ⟨r46, h48, q47, hF⟩ := bd_some hF
          refine clRX5_260 hC hRm hbt dX5_firs_159 rfl rfl (by decide) (Nat.le_of_ble_eq_true rfl) (Nat.le_of_ble_eq_true rfl) (ok_X5_firsHelp q47) ?_
          refine aw_if_eq (tgt := 175) hC dX5_firs_162 (by decide) (fun c49 => ?_) (fun c49 => ?_)
          · have hF := it_t hF c49
            refine aw_iinc6 hC dX5_firs_175 rfl ?_
            refine aw_goto (tgt := 127) hC dX5_firs_178 (by decide) ?_
            exact ih0 _ _ r (hb1 _ (Option.some.inj hF).symm) hX hRet9
          · have hF := it_f hF c49
            refine aw_aload_n hC dX5_firs_165 rfl ?_
            refine aw_iconst hC dX5_firs_166 (by decide) ?_
            refine aw_iload hC dX5_firs_167 rfl ?_
            refine aw_iload hC dX5_firs_169 rfl ?_
            obtain ⟨r51, h53, q52, hF⟩ := bd_some hF
            refine clRX5_248 hC hRm hbt dX5_firs_171 rfl rfl (by decide) (Nat.le_of_ble_eq_true rfl) (Nat.le_of_ble_eq_true rfl) (ok_X5_keepFirs q52) ?_
            exact aw_ireturn hC hZ (Nat.zero_le _) (Nat.zero_le _) hr dX5_firs_174 (hRet _ _ (Option.some.inj hF).symm)
theorem fX5_firs_l114_ok {G : GD} {X : CX} {n : Nat} {Q : Av → Nat → Hp → Prop} (hC : Cx G X RX5 cX5_firs) (hZ : ZOK X G Q 0 0) (hRm : X.R = rmd 6 0 0) (hbt : X.bt = true) (hr : X.meth.sig.returnType = (some .int)) {x1 : Int} {x2 : Int} {x3 : Int} : ∀ (f : Nat) (x5 : Int) (h : Hp) (r : (Hp) ⊕ (Int × Hp)), it_ (fun s => fX5_firs_l114 x1 x2 x3 s.1 s.2) f (x5, h) = some r → (∀ (h9 : Hp), r = (.inl h9) → AW G X 187 [(9, 0), (9, 0), (9, 0), (9, 0), (9, 0), (9, 0), (9, 0)] [] n h9 0 0) → (∀ (x9 : Int) (h9 : Hp), r = .inr (x9, h9) → Q (0, x9) n h9) → AW G X 114 [(2, ((0 : Nat) : Int)), (0, x1), (0, x2), (1, x3), (9, 0), (0, x5), (9, 0)] [] n h 0 0 := by
  intro f
  induction f with
  | zero => intro x5 h r hI; cases hI
  | succ f ih0 =>
    intro x5 h r hI hX hRet9
    obtain ⟨b, hF, hb1, hb2⟩ := it_succ hI
    have hF : fX5_firs_l114 x1 x2 x3 x5 h = some b := hF
    have hRet : ∀ (x9 : Int) (h9 : Hp), b = .inr (.inr (x9, h9)) → Q (0, x9) n h9 := fun x9 h9 e => hRet9 x9 h9 (hb2 _ e).symm
    unfold fX5_firs_l114 at hF
    refine aw_iload hC dX5_firs_114 rfl ?_
    refine aw_bipush hC dX5_firs_116 (by decide) (by decide) ?_
    refine aw_icmp_ge (tgt := 187) hC dX5_firs_118 (by decide) (fun c36 => ?_) (fun c36 => ?_)
    · have hF := it_t hF c36
      refine aw_weak (ls' := [(9, 0), (9, 0), (9, 0), (9, 0), (9, 0), (9, 0), (9, 0)]) ⟨Or.inl rfl, Or.inl rfl, Or.inl rfl, Or.inl rfl, Or.inl rfl, Or.inl rfl, Or.inl rfl, trivial⟩ ?_
      exact hX _ (hb2 _ (Option.some.inj hF).symm).symm
    · have hF := it_f hF c36
      refine aw_iload hC dX5_firs_121 rfl ?_
      refine aw_iconst hC dX5_firs_123 (by decide) ?_
      refine aw_iadd hC dX5_firs_124 ?_
      obtain ⟨v37, ev37, hF⟩ := lb_some hF
      refine aw_eqT ev37 ?_
      clear ev37
      refine aw_istore6 hC dX5_firs_125 rfl ?_
      obtain ⟨e54, he, hF⟩ := bp_some hF
      refine fX5_firs_l127_ok hC hZ hRm hbt hr FU _ _ e54 he (fun h55 er => ?_) (fun x9 h9 e => by subst e; exact hRet _ _ (Option.some.inj hF).symm)
      replace er := er.symm
      subst er
      try dsimp only at hF
      refine aw_iinc5 hC dX5_firs_181 rfl ?_
      refine aw_goto (tgt := 114) hC dX5_firs_184 (by decide) ?_
      exact ih0 _ _ r (hb1 _ (Option.some.inj hF).symm) hX hRet9
theorem fX5_firs_j28_ok {G : GD} {X : CX} {n : Nat} {Q : Av → Nat → Hp → Prop} (hC : Cx G X RX5 cX5_firs) (hZ : ZOK X G Q 0 0) (hRm : X.R = rmd 6 0 0) (hbt : X.bt = true) (hr : X.meth.sig.returnType = (some .int)) {x1 : Int} {x2 : Int} {h : Hp} {res : Int × Hp} (hF : fX5_firs_j28 x1 x2 h = some res) (hK : ∀ (x9 : Int) (h9 : Hp), res = (x9, h9) → Q (0, x9) n h9) : AW G X 28 [(2, ((0 : Nat) : Int)), (0, x1), (0, x2), (9, 0), (9, 0), (9, 0), (9, 0)] [] n h 0 0 := by
  unfold fX5_firs_j28 at hF
  refine aw_aload_n hC dX5_firs_28 rfl ?_
  obtain ⟨r7, h9, q8, hF⟩ := bd_some hF
  refine clRX5_126 hC hRm hbt dX5_firs_29 rfl rfl (by decide) (Nat.le_of_ble_eq_true rfl) (Nat.le_of_ble_eq_true rfl) (ok_X5_present q8) ?_
  obtain ⟨g10, hF⟩ := gd_some hF
  refine aw_eqT g10.symm ?_
  refine aw_iload_n hC dX5_firs_32 rfl ?_
  refine aw_iload_n hC dX5_firs_33 rfl ?_
  obtain ⟨r11, h13, q12, hF⟩ := bd_some hF
  refine clRX5_244 hC hRm hbt dX5_firs_34 rfl rfl (by decide) (Nat.le_of_ble_eq_true rfl) (Nat.le_of_ble_eq_true rfl) (ok_X3_allWithin q12) ?_
  refine aw_if_eq (tgt := 48) hC dX5_firs_37 (by decide) (fun c14 => ?_) (fun c14 => ?_)
  · have hF := it_t hF c14
    refine aw_aload_n hC dX5_firs_48 rfl ?_
    refine aw_gc5 (k := 3) (a := 0) (b := 20) hC hbt dX5_firs_49 lkRX5_37 (by decide) rfl rfl rfl (by decide) (by decide) ?_
    obtain ⟨r15, q16, hF⟩ := bp_some hF
    refine clRX5_252 hC hRm hbt dX5_firs_52 rfl rfl (by decide) (Nat.le_of_ble_eq_true rfl) (Nat.le_of_ble_eq_true rfl) (ok_X3_freeCells q16) ?_
    refine aw_aload_n hC dX5_firs_55 rfl ?_
    refine aw_gc5 (k := 3) (a := 0) (b := 20) hC hbt dX5_firs_56 lkRX5_37 (by decide) rfl rfl rfl (by decide) (by decide) ?_
    refine aw_iload_n hC dX5_firs_59 rfl ?_
    obtain ⟨r17, h19, q18, hF⟩ := bd_some hF
    refine clRX5_256 hC hRm hbt dX5_firs_60 rfl rfl (by decide) (Nat.le_of_ble_eq_true rfl) (Nat.le_of_ble_eq_true rfl) (ok_X3_looksOver q18) ?_
    refine aw_land hC dX5_firs_63 ?_
    obtain ⟨v20, ev20, hF⟩ := lb_some hF
    refine aw_eqT ev20 ?_
    clear ev20
    refine aw_lstore3 hC dX5_firs_64 rfl ?_
    refine aw_iconst hC dX5_firs_65 (by decide) ?_
    refine aw_istore5 hC dX5_firs_66 rfl ?_
    obtain ⟨e34, he, hF⟩ := bp_some hF
    refine fX5_firs_l68_ok hC hZ hRm hbt hr FU _ _ e34 he (fun h35 er => ?_) (fun x9 h9 e => by subst e; exact hK _ _ (Option.some.inj hF).symm)
    replace er := er.symm
    subst er
    try dsimp only at hF
    refine aw_iconst hC dX5_firs_111 (by decide) ?_
    refine aw_istore5 hC dX5_firs_112 rfl ?_
    obtain ⟨e57, he, hF⟩ := bp_some hF
    refine fX5_firs_l114_ok hC hZ hRm hbt hr FU _ _ e57 he (fun h58 er => ?_) (fun x9 h9 e => by subst e; exact hK _ _ (Option.some.inj hF).symm)
    replace er := er.symm
    subst er
    try dsimp only at hF
    refine aw_iconst hC dX5_firs_187 (by decide) ?_
    exact aw_ireturn hC hZ (Nat.zero_le _) (Nat.zero_le _) hr dX5_firs_188 (hK _ _ (Option.some.inj hF).symm)
  · have hF := it_f hF c14
    refine aw_aload_n hC dX5_firs_40 rfl ?_
    refine aw_iconst hC dX5_firs_41 (by decide) ?_
    refine aw_iconst hC dX5_firs_42 (by decide) ?_
    refine aw_iconst hC dX5_firs_43 (by decide) ?_
    obtain ⟨r59, h61, q60, hF⟩ := bd_some hF
    refine clRX5_248 hC hRm hbt dX5_firs_44 rfl rfl (by decide) (Nat.le_of_ble_eq_true rfl) (Nat.le_of_ble_eq_true rfl) (ok_X5_keepFirs q60) ?_
    exact aw_ireturn hC hZ (Nat.zero_le _) (Nat.zero_le _) hr dX5_firs_47 (hK _ _ (Option.some.inj hF).symm)
theorem ok_X5_firs_n {G : GD} {n : Nat} {x1 : Int} {x2 : Int} {h : Hp} {res : Int × Hp} (hF : fX5_firs x1 x2 h = some (.inl res)) : Con G yX5_firs cX5_firs 7 (some .int) 6 0 0 true [(2, ((0 : Nat) : Int)), (0, x1), (0, x2)] n h (FQ 0 n res) := by
  refine con_of (pad := 4) (own := RX5) (plainFor_of_name (by decide)) rfl rfl ?_
  intro X hC hbt hr hnm hZ hRm hn0
  have hK : ∀ (x9 : Int) (h9 : Hp), res = (x9, h9) → FQ 0 n res (0, x9) n h9 := fun x9 h9 e => by subst e; exact ⟨rfl, rfl, rfl⟩
  unfold fX5_firs at hF
  show AW G X 0 [(2, ((0 : Nat) : Int)), (0, x1), (0, x2), (9, 0), (9, 0), (9, 0), (9, 0)] [] n h 0 0
  refine aw_iload_n hC dX5_firs_0 rfl ?_
  refine aw_aload_n hC dX5_firs_1 rfl ?_
  obtain ⟨r1, q2, hF⟩ := bp_some hF
  refine clRX5_236 hC hRm hbt dX5_firs_2 rfl rfl (by decide) (Nat.le_of_ble_eq_true rfl) (Nat.le_of_ble_eq_true rfl) (ok_X5_houseBits q2) ?_
  refine aw_iconst hC dX5_firs_5 (by decide) ?_
  refine aw_ixor hC dX5_firs_6 ?_
  refine aw_iand hC dX5_firs_7 ?_
  refine aw_if_ne (tgt := 18) hC dX5_firs_8 (by decide) (fun c3 => ?_) (fun c3 => ?_)
  · have hF := it_f hF c3
    cases hF
  · have hF := it_t hF c3
    refine aw_iload_n hC dX5_firs_11 rfl ?_
    obtain ⟨r4, q5, hF⟩ := bp_some hF
    refine clRX5_239 hC hRm hbt dX5_firs_12 (Nat.le_of_ble_eq_true rfl) (Nat.le_of_ble_eq_true rfl) (ok_X5_isTax q5) ?_
    refine aw_if_ne (tgt := 28) hC dX5_firs_15 (by decide) (fun c6 => ?_) (fun c6 => ?_)
    · have hF := it_f hF c6
      have hF := mi_n hF
      exact fX5_firs_j28_ok hC hZ hRm hbt hr hF hK
    · have hF := it_t hF c6
      cases hF
theorem ok_X5_firs_x {G : GD} {n : Nat} {x1 : Int} {x2 : Int} {h : Hp} {e : Nat} {h1 : Hp} (hF : fX5_firs x1 x2 h = some (.inr (e, h1))) : ConT G yX5_firs cX5_firs 7 (some .int) 6 true [(2, ((0 : Nat) : Int)), (0, x1), (0, x2)] n h e h1 := by
  refine conT_of (pad := 4) (own := RX5) (by decide) rfl rfl ?_
  intro X hC hbt hst htab hZ hRm hn0
  unfold fX5_firs at hF
  show AW G X 0 [(2, ((0 : Nat) : Int)), (0, x1), (0, x2), (9, 0), (9, 0), (9, 0), (9, 0)] [] n h 0 0
  refine aw_iload_n hC dX5_firs_0 rfl ?_
  refine aw_aload_n hC dX5_firs_1 rfl ?_
  obtain ⟨r1, q2, hF⟩ := bp_some hF
  refine clRX5_236 hC hRm hbt dX5_firs_2 rfl rfl (by decide) (Nat.le_of_ble_eq_true rfl) (Nat.le_of_ble_eq_true rfl) (ok_X5_houseBits q2) ?_
  refine aw_iconst hC dX5_firs_5 (by decide) ?_
  refine aw_ixor hC dX5_firs_6 ?_
  refine aw_iand hC dX5_firs_7 ?_
  refine aw_if_ne (tgt := 18) hC dX5_firs_8 (by decide) (fun c3 => ?_) (fun c3 => ?_)
  · have hF := it_f hF c3
    cases hF
    exact aw_throw1 (is := 242) (no := 33) (text := "no such houses or sum") hC hRm (Nat.le_of_ble_eq_true rfl) hn0 hZ hst htab (List.mem_of_getElem? (i := 23) rfl) dX5_firs_18 dX5_firs_21 dX5_firs_22 dX5_firs_24 dX5_firs_27 (Nat.le_of_ble_eq_true rfl)
  · have hF := it_t hF c3
    refine aw_iload_n hC dX5_firs_11 rfl ?_
    obtain ⟨r4, q5, hF⟩ := bp_some hF
    refine clRX5_239 hC hRm hbt dX5_firs_12 (Nat.le_of_ble_eq_true rfl) (Nat.le_of_ble_eq_true rfl) (ok_X5_isTax q5) ?_
    refine aw_if_ne (tgt := 28) hC dX5_firs_15 (by decide) (fun c6 => ?_) (fun c6 => ?_)
    · have hF := it_f hF c6
      exact (mi_x hF).elim
    · have hF := it_t hF c6
      cases hF
      exact aw_throw1 (is := 242) (no := 33) (text := "no such houses or sum") hC hRm (Nat.le_of_ble_eq_true rfl) hn0 hZ hst htab (List.mem_of_getElem? (i := 23) rfl) dX5_firs_18 dX5_firs_21 dX5_firs_22 dX5_firs_24 dX5_firs_27 (Nat.le_of_ble_eq_true rfl)
def fX5_fir_j32 (x1 : Int) (h : Hp) : Option (Int × Hp) :=
  gd_ (0 ≤ x1 ∧ x1 < 2) (some ((h 34 (Int.toNat x1)), h))
def fX5_fir (x1 : Int) (h : Hp) : Option RX :=
  (if x1 < 0 then some (.inr (0, h)) else (if (h 0 15) ≤ x1 then some (.inr (0, h)) else (if x1 < ((2 : Nat) : Int) then mi_ (fX5_fir_j32 x1 h) else some (.inr (0, h)))))
theorem fX5_fir_j32_ok {G : GD} {X : CX} {n : Nat} {Q : Av → Nat → Hp → Prop} (hC : Cx G X RX5 cX5_fir) (hZ : ZOK X G Q 0 0) (hRm : X.R = rmd 6 0 0) (hbt : X.bt = true) (hr : X.meth.sig.returnType = (some .int)) {x1 : Int} {h : Hp} {res : Int × Hp} (hF : fX5_fir_j32 x1 h = some res) (hK : ∀ (x9 : Int) (h9 : Hp), res = (x9, h9) → Q (0, x9) n h9) : AW G X 32 [(2, ((0 : Nat) : Int)), (0, x1)] [] n h 0 0 := by
  unfold fX5_fir_j32 at hF
  refine aw_aload_n hC dX5_fir_32 rfl ?_
  refine aw_gc5 (k := 14) (a := 0) (b := 34) hC hbt dX5_fir_33 lkRX5_55 (by decide) rfl rfl rfl (by decide) (by decide) ?_
  refine aw_iload_n hC dX5_fir_36 rfl ?_
  obtain ⟨g4, hF⟩ := gd_some hF
  refine aw_iaload (a := 34) hC dX5_fir_37 rfl rfl (Or.inl ⟨hbt, by decide⟩) g4.1 g4.2 ?_
  exact aw_ireturn hC hZ (Nat.zero_le _) (Nat.zero_le _) hr dX5_fir_38 (hK _ _ (Option.some.inj hF).symm)
theorem ok_X5_fir_n {G : GD} {n : Nat} {x1 : Int} {h : Hp} {res : Int × Hp} (hF : fX5_fir x1 h = some (.inl res)) : Con G yX5_fir cX5_fir 2 (some .int) 6 0 0 true [(2, ((0 : Nat) : Int)), (0, x1)] n h (FQ 0 n res) := by
  refine con_of (pad := 0) (own := RX5) (plainFor_of_name (by decide)) rfl rfl ?_
  intro X hC hbt hr hnm hZ hRm hn0
  have hK : ∀ (x9 : Int) (h9 : Hp), res = (x9, h9) → FQ 0 n res (0, x9) n h9 := fun x9 h9 e => by subst e; exact ⟨rfl, rfl, rfl⟩
  unfold fX5_fir at hF
  show AW G X 0 [(2, ((0 : Nat) : Int)), (0, x1)] [] n h 0 0
  refine aw_iload_n hC dX5_fir_0 rfl ?_
  refine aw_if_lt (tgt := 21) hC dX5_fir_1 (by decide) (fun c1 => ?_) (fun c1 => ?_)
  · have hF := it_t hF c1
    cases hF
  · have hF := it_f hF c1
    refine aw_iload_n hC dX5_fir_4 rfl ?_
    refine aw_aload_n hC dX5_fir_5 rfl ?_
    refine aw_g5i (k := 15) (a := 0) hC dX5_fir_6 lkRX5_97 (by decide) rfl rfl rfl (Or.inl ⟨hbt, by decide⟩) ?_
    refine aw_icmp_ge (tgt := 21) hC dX5_fir_9 (by decide) (fun c2 => ?_) (fun c2 => ?_)
    · have hF := it_t hF c2
      cases hF
    · have hF := it_f hF c2
      refine aw_iload_n hC dX5_fir_12 rfl ?_
      refine aw_aload_n hC dX5_fir_13 rfl ?_
      refine aw_gc5 (k := 14) (a := 0) (b := 34) hC hbt dX5_fir_14 lkRX5_55 (by decide) rfl rfl rfl (by decide) (by decide) ?_
      refine aw_alen (a := 34) hC dX5_fir_17 rfl rfl (by decide) (by decide) (Or.inl ⟨hbt, by decide⟩) ?_
      refine aw_icmp_lt (tgt := 32) hC dX5_fir_18 (by decide) (fun c3 => ?_) (fun c3 => ?_)
      · have hF := it_t hF c3
        have hF := mi_n hF
        exact fX5_fir_j32_ok hC hZ hRm hbt hr hF hK
      · have hF := it_f hF c3
        cases hF
theorem ok_X5_fir_x {G : GD} {n : Nat} {x1 : Int} {h : Hp} {e : Nat} {h1 : Hp} (hF : fX5_fir x1 h = some (.inr (e, h1))) : ConT G yX5_fir cX5_fir 2 (some .int) 6 true [(2, ((0 : Nat) : Int)), (0, x1)] n h e h1 := by
  refine conT_of (pad := 0) (own := RX5) (by decide) rfl rfl ?_
  intro X hC hbt hst htab hZ hRm hn0
  unfold fX5_fir at hF
  show AW G X 0 [(2, ((0 : Nat) : Int)), (0, x1)] [] n h 0 0
  refine aw_iload_n hC dX5_fir_0 rfl ?_
  refine aw_if_lt (tgt := 21) hC dX5_fir_1 (by decide) (fun c1 => ?_) (fun c1 => ?_)
  · have hF := it_t hF c1
    cases hF
    exact aw_throw0W (is := 268) (no := 34) (text := "no such fir is kept") hC hRm (Nat.le_of_ble_eq_true rfl) hn0 hZ hst htab (List.mem_of_getElem? (i := 24) rfl) dX5_fir_21 dX5_fir_24 dX5_fir_25 dX5_fir_28 dX5_fir_31 (Nat.le_of_ble_eq_true rfl)
  · have hF := it_f hF c1
    refine aw_iload_n hC dX5_fir_4 rfl ?_
    refine aw_aload_n hC dX5_fir_5 rfl ?_
    refine aw_g5i (k := 15) (a := 0) hC dX5_fir_6 lkRX5_97 (by decide) rfl rfl rfl (Or.inl ⟨hbt, by decide⟩) ?_
    refine aw_icmp_ge (tgt := 21) hC dX5_fir_9 (by decide) (fun c2 => ?_) (fun c2 => ?_)
    · have hF := it_t hF c2
      cases hF
      exact aw_throw0W (is := 268) (no := 34) (text := "no such fir is kept") hC hRm (Nat.le_of_ble_eq_true rfl) hn0 hZ hst htab (List.mem_of_getElem? (i := 24) rfl) dX5_fir_21 dX5_fir_24 dX5_fir_25 dX5_fir_28 dX5_fir_31 (Nat.le_of_ble_eq_true rfl)
    · have hF := it_f hF c2
      refine aw_iload_n hC dX5_fir_12 rfl ?_
      refine aw_aload_n hC dX5_fir_13 rfl ?_
      refine aw_gc5 (k := 14) (a := 0) (b := 34) hC hbt dX5_fir_14 lkRX5_55 (by decide) rfl rfl rfl (by decide) (by decide) ?_
      refine aw_alen (a := 34) hC dX5_fir_17 rfl rfl (by decide) (by decide) (Or.inl ⟨hbt, by decide⟩) ?_
      refine aw_icmp_lt (tgt := 32) hC dX5_fir_18 (by decide) (fun c3 => ?_) (fun c3 => ?_)
      · have hF := it_t hF c3
        exact (mi_x hF).elim
      · have hF := it_f hF c3
        cases hF
        exact aw_throw0W (is := 268) (no := 34) (text := "no such fir is kept") hC hRm (Nat.le_of_ble_eq_true rfl) hn0 hZ hst htab (List.mem_of_getElem? (i := 24) rfl) dX5_fir_21 dX5_fir_24 dX5_fir_25 dX5_fir_28 dX5_fir_31 (Nat.le_of_ble_eq_true rfl)
def fX5_spades_l44 (x1 : Int) (x2 : Int) (x3 : Int) (x4 : Int) (h : Hp) : Option ((Int × Hp) ⊕ ((Hp) ⊕ (Int × Hp))) :=
  (if x4 < (-3) then some (.inr (.inl h)) else gd_ (0 ≤ (i_add 42 x1) ∧ (i_add 42 x1) < 62) (lb_ (st h 21 (Int.toNat ((i_add 42 x1))) x4) (fun h15 => bd_ (fX3_taxOf x1 h15) (fun r16 h18 => (if x2 < r16 then some (.inl ((i_add x4 (-1)), h18)) else some (.inr (.inr ((i_sub x3 x4), h18))))))))
def fX5_spades_j23 (x1 : Int) (x2 : Int) (h : Hp) : Option (Int × Hp) :=
  bd_ (fX5_present h) (fun r7 h9 => gd_ (r7 = ((20 : Nat) : Int)) (gd_ (0 ≤ (i_add 42 x1) ∧ (i_add 42 x1) < 62) (lb_ ((h9 21 (Int.toNat ((i_add 42 x1))))) (fun v12 => bp_ (it_ (fun s => fX5_spades_l44 x1 x2 v12 s.1 s.2) FU (v12, h9)) (fun e21 => match e21 with | .inl e21 => (fun h22 => some ((-1), h22)) e21 | .inr q9 => some q9)))))
def fX5_spades (x1 : Int) (x2 : Int) (h : Hp) : Option RX :=
  bx_ (fX5_needHouse x1 h) (fun r1 h3 => bp_ (fX5_isTax x2 h3) (fun r4 => (if r4 = 0 then some (.inr (1, h3)) else mi_ (fX5_spades_j23 x1 x2 h3))))
theorem fX5_spades_l44_ok {G : GD} {X : CX} {n : Nat} {Q : Av → Nat → Hp → Prop} (hC : Cx G X RX5 cX5_spades) (hZ : ZOK X G Q 0 0) (hRm : X.R = rmd 7 0 0) (hbt : X.bt = true) (hr : X.meth.sig.returnType = (some .int)) {x1 : Int} {x2 : Int} {x3 : Int} : ∀ (f : Nat) (x4 : Int) (h : Hp) (r : (Hp) ⊕ (Int × Hp)), it_ (fun s => fX5_spades_l44 x1 x2 x3 s.1 s.2) f (x4, h) = some r → (∀ (h9 : Hp), r = (.inl h9) → AW G X 88 [(9, 0), (9, 0), (9, 0), (9, 0), (9, 0)] [] n h9 0 0) → (∀ (x9 : Int) (h9 : Hp), r = .inr (x9, h9) → Q (0, x9) n h9) → AW G X 44 [(2, ((0 : Nat) : Int)), (0, x1), (0, x2), (0, x3), (0, x4)] [] n h 0 0 := by
  intro f
  induction f with
  | zero => intro x4 h r hI; cases hI
  | succ f ih0 =>
    intro x4 h r hI hX hRet9
    obtain ⟨b, hF, hb1, hb2⟩ := it_succ hI
    have hF : fX5_spades_l44 x1 x2 x3 x4 h = some b := hF
    have hRet : ∀ (x9 : Int) (h9 : Hp), b = .inr (.inr (x9, h9)) → Q (0, x9) n h9 := fun x9 h9 e => hRet9 x9 h9 (hb2 _ e).symm
    unfold fX5_spades_l44 at hF
    refine aw_iload hC dX5_spades_44 rfl ?_
    refine aw_bipush hC dX5_spades_46 (by decide) (by decide) ?_
    refine aw_icmp_lt (tgt := 88) hC dX5_spades_48 (by decide) (fun c13 => ?_) (fun c13 => ?_)
    · have hF := it_t hF c13
      refine aw_weak (ls' := [(9, 0), (9, 0), (9, 0), (9, 0), (9, 0)]) ⟨Or.inl rfl, Or.inl rfl, Or.inl rfl, Or.inl rfl, Or.inl rfl, trivial⟩ ?_
      exact hX _ (hb2 _ (Option.some.inj hF).symm).symm
    · have hF := it_f hF c13
      refine aw_aload_n hC dX5_spades_51 rfl ?_
      refine aw_gc5 (k := 3) (a := 0) (b := 20) hC hbt dX5_spades_52 lkRX5_37 (by decide) rfl rfl rfl (by decide) (by decide) ?_
      refine aw_gc3N (k := 1) (a := 20) (b := 21) hC hbt dX5_spades_55 lkRX5_210 (by decide) rfl rfl rfl (by decide) (by decide) ?_
      refine aw_bipush hC dX5_spades_58 (by decide) (by decide) ?_
      refine aw_iload_n hC dX5_spades_60 rfl ?_
      refine aw_iadd hC dX5_spades_61 ?_
      refine aw_iload hC dX5_spades_62 rfl ?_
      obtain ⟨g14, hF⟩ := gd_some hF
      obtain ⟨h15, eh15, hF⟩ := lb_some hF
      refine aw_iastore (a := 21) hC dX5_spades_64 rfl rfl (Or.inl ⟨hbt, by decide⟩) g14.1 g14.2 ?_
      refine aw_eqH eh15 ?_
      clear eh15
      refine aw_aload_n hC dX5_spades_65 rfl ?_
      refine aw_gc5 (k := 3) (a := 0) (b := 20) hC hbt dX5_spades_66 lkRX5_37 (by decide) rfl rfl rfl (by decide) (by decide) ?_
      refine aw_iload_n hC dX5_spades_69 rfl ?_
      obtain ⟨r16, h18, q17, hF⟩ := bd_some hF
      refine clRX5_185 hC hRm hbt dX5_spades_70 rfl rfl (by decide) (Nat.le_of_ble_eq_true rfl) (Nat.le_of_ble_eq_true rfl) (ok_X3_taxOf q17) ?_
      refine aw_iload_n hC dX5_spades_73 rfl ?_
      refine aw_icmp_gt (tgt := 82) hC dX5_spades_74 (by decide) (fun c19 => ?_) (fun c19 => ?_)
      · have hF := it_t hF c19
        refine aw_iinc4 hC dX5_spades_82 rfl ?_
        refine aw_goto (tgt := 44) hC dX5_spades_85 (by decide) ?_
        exact ih0 _ _ r (hb1 _ (Option.some.inj hF).symm) hX hRet9
      · have hF := it_f hF c19
        refine aw_iload_n hC dX5_spades_77 rfl ?_
        refine aw_iload hC dX5_spades_78 rfl ?_
        refine aw_isub hC dX5_spades_80 ?_
        exact aw_ireturn hC hZ (Nat.zero_le _) (Nat.zero_le _) hr dX5_spades_81 (hRet _ _ (Option.some.inj hF).symm)
theorem fX5_spades_j23_ok {G : GD} {X : CX} {n : Nat} {Q : Av → Nat → Hp → Prop} (hC : Cx G X RX5 cX5_spades) (hZ : ZOK X G Q 0 0) (hRm : X.R = rmd 7 0 0) (hbt : X.bt = true) (hr : X.meth.sig.returnType = (some .int)) {x1 : Int} {x2 : Int} {h : Hp} {res : Int × Hp} (hF : fX5_spades_j23 x1 x2 h = some res) (hK : ∀ (x9 : Int) (h9 : Hp), res = (x9, h9) → Q (0, x9) n h9) : AW G X 23 [(2, ((0 : Nat) : Int)), (0, x1), (0, x2), (9, 0), (9, 0)] [] n h 0 0 := by
  unfold fX5_spades_j23 at hF
  refine aw_aload_n hC dX5_spades_23 rfl ?_
  obtain ⟨r7, h9, q8, hF⟩ := bd_some hF
  refine clRX5_126 hC hRm hbt dX5_spades_24 rfl rfl (by decide) (Nat.le_of_ble_eq_true rfl) (Nat.le_of_ble_eq_true rfl) (ok_X5_present q8) ?_
  obtain ⟨g10, hF⟩ := gd_some hF
  refine aw_eqT g10.symm ?_
  refine aw_pop hC dX5_spades_27 (by simp) ?_
  refine aw_aload_n hC dX5_spades_28 rfl ?_
  refine aw_gc5 (k := 3) (a := 0) (b := 20) hC hbt dX5_spades_29 lkRX5_37 (by decide) rfl rfl rfl (by decide) (by decide) ?_
  refine aw_gc3N (k := 1) (a := 20) (b := 21) hC hbt dX5_spades_32 lkRX5_210 (by decide) rfl rfl rfl (by decide) (by decide) ?_
  refine aw_bipush hC dX5_spades_35 (by decide) (by decide) ?_
  refine aw_iload_n hC dX5_spades_37 rfl ?_
  refine aw_iadd hC dX5_spades_38 ?_
  obtain ⟨g11, hF⟩ := gd_some hF
  refine aw_iaload (a := 21) hC dX5_spades_39 rfl rfl (Or.inl ⟨hbt, by decide⟩) g11.1 g11.2 ?_
  obtain ⟨v12, ev12, hF⟩ := lb_some hF
  refine aw_eqT ev12 ?_
  clear ev12
  refine aw_istore3 hC dX5_spades_40 rfl ?_
  refine aw_iload_n hC dX5_spades_41 rfl ?_
  refine aw_istore4 hC dX5_spades_42 rfl ?_
  obtain ⟨e21, he, hF⟩ := bp_some hF
  refine fX5_spades_l44_ok hC hZ hRm hbt hr FU _ _ e21 he (fun h22 er => ?_) (fun x9 h9 e => by subst e; exact hK _ _ (Option.some.inj hF).symm)
  replace er := er.symm
  subst er
  try dsimp only at hF
  refine aw_iconst hC dX5_spades_88 (by decide) ?_
  exact aw_ireturn hC hZ (Nat.zero_le _) (Nat.zero_le _) hr dX5_spades_89 (hK _ _ (Option.some.inj hF).symm)
theorem ok_X5_spades_n {G : GD} {n : Nat} {x1 : Int} {x2 : Int} {h : Hp} {res : Int × Hp} (hF : fX5_spades x1 x2 h = some (.inl res)) : Con G yX5_spades cX5_spades 5 (some .int) 7 0 0 true [(2, ((0 : Nat) : Int)), (0, x1), (0, x2)] n h (FQ 0 n res) := by
  refine con_of (pad := 2) (own := RX5) (plainFor_of_name (by decide)) rfl rfl ?_
  intro X hC hbt hr hnm hZ hRm hn0
  have hK : ∀ (x9 : Int) (h9 : Hp), res = (x9, h9) → FQ 0 n res (0, x9) n h9 := fun x9 h9 e => by subst e; exact ⟨rfl, rfl, rfl⟩
  unfold fX5_spades at hF
  show AW G X 0 [(2, ((0 : Nat) : Int)), (0, x1), (0, x2), (9, 0), (9, 0)] [] n h 0 0
  refine aw_aload_n hC dX5_spades_0 rfl ?_
  refine aw_iload_n hC dX5_spades_1 rfl ?_
  obtain ⟨r1, h3, q2, hF⟩ := bx_n hF
  refine clRX5_173 hC hRm hbt dX5_spades_2 rfl rfl (by decide) (Nat.le_of_ble_eq_true rfl) (Nat.le_of_ble_eq_true rfl) (ok_X5_needHouse_n q2) ?_
  refine aw_iload_n hC dX5_spades_5 rfl ?_
  obtain ⟨r4, q5, hF⟩ := bp_some hF
  refine clRX5_239 hC hRm hbt dX5_spades_6 (Nat.le_of_ble_eq_true rfl) (Nat.le_of_ble_eq_true rfl) (ok_X5_isTax q5) ?_
  refine aw_if_ne (tgt := 23) hC dX5_spades_9 (by decide) (fun c6 => ?_) (fun c6 => ?_)
  · have hF := it_f hF c6
    have hF := mi_n hF
    exact fX5_spades_j23_ok hC hZ hRm hbt hr hF hK
  · have hF := it_t hF c6
    cases hF
theorem ok_X5_spades_x {G : GD} {n : Nat} {x1 : Int} {x2 : Int} {h : Hp} {e : Nat} {h1 : Hp} (hF : fX5_spades x1 x2 h = some (.inr (e, h1))) : ConT G yX5_spades cX5_spades 5 (some .int) 7 true [(2, ((0 : Nat) : Int)), (0, x1), (0, x2)] n h e h1 := by
  refine conT_of (pad := 2) (own := RX5) (by decide) rfl rfl ?_
  intro X hC hbt hst htab hZ hRm hn0
  unfold fX5_spades at hF
  show AW G X 0 [(2, ((0 : Nat) : Int)), (0, x1), (0, x2), (9, 0), (9, 0)] [] n h 0 0
  refine aw_aload_n hC dX5_spades_0 rfl ?_
  refine aw_iload_n hC dX5_spades_1 rfl ?_
  rcases bx_x hF with ⟨r1, h3, q2, hF⟩ | q2
  rotate_left
  · exact clTRX5_173 hC hRm hbt hn0 hZ hst htab dX5_spades_2 rfl rfl (by decide) (Nat.le_of_ble_eq_true rfl) (Nat.le_of_ble_eq_true rfl) (ok_X5_needHouse_x q2)
  refine clRX5_173 hC hRm hbt dX5_spades_2 rfl rfl (by decide) (Nat.le_of_ble_eq_true rfl) (Nat.le_of_ble_eq_true rfl) (ok_X5_needHouse_n q2) ?_
  refine aw_iload_n hC dX5_spades_5 rfl ?_
  obtain ⟨r4, q5, hF⟩ := bp_some hF
  refine clRX5_239 hC hRm hbt dX5_spades_6 (Nat.le_of_ble_eq_true rfl) (Nat.le_of_ble_eq_true rfl) (ok_X5_isTax q5) ?_
  refine aw_if_ne (tgt := 23) hC dX5_spades_9 (by decide) (fun c6 => ?_) (fun c6 => ?_)
  · have hF := it_f hF c6
    exact (mi_x hF).elim
  · have hF := it_t hF c6
    cases hF
    exact aw_throw1W (is := 270) (no := 35) (text := "no such sum") hC hRm (Nat.le_of_ble_eq_true rfl) hn0 hZ hst htab (List.mem_of_getElem? (i := 25) rfl) dX5_spades_12 dX5_spades_15 dX5_spades_16 dX5_spades_19 dX5_spades_22 (Nat.le_of_ble_eq_true rfl)
def fX5_felling_j5 (x1 : Int) (h : Hp) : Option (Int × Hp) :=
  bd_ (fX5_present h) (fun r4 h6 => gd_ (r4 = ((20 : Nat) : Int)) (bd_ (fX3_taxOfAll h6) (fun r8 h10 => bd_ (fX3_dropTree x1 h10) (fun r11 h13 => bd_ (fX3_taxOfAll h13) (fun r14 h16 => some ((i_sub r14 r8), h16))))))
def fX5_felling (x1 : Int) (h : Hp) : Option RX :=
  bx_ (fX5_needTree x1 h) (fun r1 h3 => mi_ (fX5_felling_j5 x1 h3))
theorem fX5_felling_j5_ok {G : GD} {X : CX} {n : Nat} {Q : Av → Nat → Hp → Prop} (hC : Cx G X RX5 cX5_felling) (hZ : ZOK X G Q 0 0) (hRm : X.R = rmd 7 0 0) (hbt : X.bt = true) (hr : X.meth.sig.returnType = (some .int)) {x1 : Int} {h : Hp} {res : Int × Hp} (hF : fX5_felling_j5 x1 h = some res) (hK : ∀ (x9 : Int) (h9 : Hp), res = (x9, h9) → Q (0, x9) n h9) : AW G X 5 [(2, ((0 : Nat) : Int)), (0, x1), (9, 0)] [] n h 0 0 := by
  unfold fX5_felling_j5 at hF
  refine aw_aload_n hC dX5_felling_5 rfl ?_
  obtain ⟨r4, h6, q5, hF⟩ := bd_some hF
  refine clRX5_126 hC hRm hbt dX5_felling_6 rfl rfl (by decide) (Nat.le_of_ble_eq_true rfl) (Nat.le_of_ble_eq_true rfl) (ok_X5_present q5) ?_
  obtain ⟨g7, hF⟩ := gd_some hF
  refine aw_eqT g7.symm ?_
  obtain ⟨r8, h10, q9, hF⟩ := bd_some hF
  refine clRX5_130 hC hRm hbt dX5_felling_9 rfl rfl (by decide) (Nat.le_of_ble_eq_true rfl) (Nat.le_of_ble_eq_true rfl) (ok_X3_taxOfAll q9) ?_
  refine aw_istore2 hC dX5_felling_12 rfl ?_
  refine aw_aload_n hC dX5_felling_13 rfl ?_
  refine aw_gc5 (k := 3) (a := 0) (b := 20) hC hbt dX5_felling_14 lkRX5_37 (by decide) rfl rfl rfl (by decide) (by decide) ?_
  refine aw_iload_n hC dX5_felling_17 rfl ?_
  obtain ⟨r11, h13, q12, hF⟩ := bd_some hF
  refine clRX5_272 hC hRm hbt dX5_felling_18 rfl rfl (by decide) (Nat.le_of_ble_eq_true rfl) (Nat.le_of_ble_eq_true rfl) (ok_X3_dropTree q12) ?_
  refine aw_aload_n hC dX5_felling_21 rfl ?_
  refine aw_gc5 (k := 3) (a := 0) (b := 20) hC hbt dX5_felling_22 lkRX5_37 (by decide) rfl rfl rfl (by decide) (by decide) ?_
  obtain ⟨r14, h16, q15, hF⟩ := bd_some hF
  refine clRX5_130 hC hRm hbt dX5_felling_25 rfl rfl (by decide) (Nat.le_of_ble_eq_true rfl) (Nat.le_of_ble_eq_true rfl) (ok_X3_taxOfAll q15) ?_
  refine aw_iload_n hC dX5_felling_28 rfl ?_
  refine aw_isub hC dX5_felling_29 ?_
  exact aw_ireturn hC hZ (Nat.zero_le _) (Nat.zero_le _) hr dX5_felling_30 (hK _ _ (Option.some.inj hF).symm)
theorem ok_X5_felling_n {G : GD} {n : Nat} {x1 : Int} {h : Hp} {res : Int × Hp} (hF : fX5_felling x1 h = some (.inl res)) : Con G yX5_felling cX5_felling 3 (some .int) 7 0 0 true [(2, ((0 : Nat) : Int)), (0, x1)] n h (FQ 0 n res) := by
  refine con_of (pad := 1) (own := RX5) (plainFor_of_name (by decide)) rfl rfl ?_
  intro X hC hbt hr hnm hZ hRm hn0
  have hK : ∀ (x9 : Int) (h9 : Hp), res = (x9, h9) → FQ 0 n res (0, x9) n h9 := fun x9 h9 e => by subst e; exact ⟨rfl, rfl, rfl⟩
  unfold fX5_felling at hF
  show AW G X 0 [(2, ((0 : Nat) : Int)), (0, x1), (9, 0)] [] n h 0 0
  refine aw_aload_n hC dX5_felling_0 rfl ?_
  refine aw_iload_n hC dX5_felling_1 rfl ?_
  obtain ⟨r1, h3, q2, hF⟩ := bx_n hF
  refine clRX5_170 hC hRm hbt dX5_felling_2 rfl rfl (by decide) (Nat.le_of_ble_eq_true rfl) (Nat.le_of_ble_eq_true rfl) (ok_X5_needTree_n q2) ?_
  have hF := mi_n hF
  exact fX5_felling_j5_ok hC hZ hRm hbt hr hF hK
theorem ok_X5_felling_x {G : GD} {n : Nat} {x1 : Int} {h : Hp} {e : Nat} {h1 : Hp} (hF : fX5_felling x1 h = some (.inr (e, h1))) : ConT G yX5_felling cX5_felling 3 (some .int) 7 true [(2, ((0 : Nat) : Int)), (0, x1)] n h e h1 := by
  refine conT_of (pad := 1) (own := RX5) (by decide) rfl rfl ?_
  intro X hC hbt hst htab hZ hRm hn0
  unfold fX5_felling at hF
  show AW G X 0 [(2, ((0 : Nat) : Int)), (0, x1), (9, 0)] [] n h 0 0
  refine aw_aload_n hC dX5_felling_0 rfl ?_
  refine aw_iload_n hC dX5_felling_1 rfl ?_
  rcases bx_x hF with ⟨r1, h3, q2, hF⟩ | q2
  rotate_left
  · exact clTRX5_170 hC hRm hbt hn0 hZ hst htab dX5_felling_2 rfl rfl (by decide) (Nat.le_of_ble_eq_true rfl) (Nat.le_of_ble_eq_true rfl) (ok_X5_needTree_x q2)
  refine clRX5_170 hC hRm hbt dX5_felling_2 rfl rfl (by decide) (Nat.le_of_ble_eq_true rfl) (Nat.le_of_ble_eq_true rfl) (ok_X5_needTree_n q2) ?_
  exact (mi_x hF).elim
def fX5_needWhat_j19  (h : Hp) : Option (Int × Hp) :=
  some (0, h)
def fX5_needWhat (x0 : Int) (x1 : Int) (h : Hp) : Option RX :=
  (if x0 < 0 then some (.inr (0, h)) else (if x0 ≤ x1 then mi_ (fX5_needWhat_j19 h) else some (.inr (0, h))))
theorem fX5_needWhat_j19_ok {G : GD} {X : CX} {n : Nat} {Q : Av → Nat → Hp → Prop} (hC : Cx G X RX5 cX5_needWhat) (hZ : ZOK X G Q 0 0) (hRm : X.R = rmd 6 0 0) (hbt : X.bt = true) (hr : X.meth.sig.returnType = none)  {h : Hp} {res : Int × Hp} (hF : fX5_needWhat_j19  h = some res) (hK : ∀ (x9 : Int) (h9 : Hp), res = (x9, h9) → Q (8, x9) n h9) : AW G X 19 [(9, 0), (9, 0)] [] n h 0 0 := by
  unfold fX5_needWhat_j19 at hF
  exact aw_return hC hZ (Nat.zero_le _) (Nat.zero_le _) hr dX5_needWhat_19 (hK _ _ (Option.some.inj hF).symm)
theorem ok_X5_needWhat_n {G : GD} {n : Nat} {x0 : Int} {x1 : Int} {h : Hp} {res : Int × Hp} (hF : fX5_needWhat x0 x1 h = some (.inl res)) : Con G yX5_needWhat cX5_needWhat 2 none 6 0 0 true [(0, x0), (0, x1)] n h (FQ 8 n res) := by
  refine con_of (pad := 0) (own := RX5) (plainFor_of_name (by decide)) rfl rfl ?_
  intro X hC hbt hr hnm hZ hRm hn0
  have hK : ∀ (x9 : Int) (h9 : Hp), res = (x9, h9) → FQ 8 n res (8, x9) n h9 := fun x9 h9 e => by subst e; exact ⟨rfl, rfl, rfl⟩
  unfold fX5_needWhat at hF
  show AW G X 0 [(0, x0), (0, x1)] [] n h 0 0
  refine aw_iload_n hC dX5_needWhat_0 rfl ?_
  refine aw_if_lt (tgt := 9) hC dX5_needWhat_1 (by decide) (fun c1 => ?_) (fun c1 => ?_)
  · have hF := it_t hF c1
    cases hF
  · have hF := it_f hF c1
    refine aw_iload_n hC dX5_needWhat_4 rfl ?_
    refine aw_iload_n hC dX5_needWhat_5 rfl ?_
    refine aw_icmp_le (tgt := 19) hC dX5_needWhat_6 (by decide) (fun c2 => ?_) (fun c2 => ?_)
    · have hF := it_t hF c2
      have hF := mi_n hF
      refine aw_weak (ls' := [(9, 0), (9, 0)]) ⟨Or.inl rfl, Or.inl rfl, trivial⟩ ?_
      exact fX5_needWhat_j19_ok hC hZ hRm hbt hr hF hK
    · have hF := it_f hF c2
      cases hF
theorem ok_X5_needWhat_x {G : GD} {n : Nat} {x0 : Int} {x1 : Int} {h : Hp} {e : Nat} {h1 : Hp} (hF : fX5_needWhat x0 x1 h = some (.inr (e, h1))) : ConT G yX5_needWhat cX5_needWhat 2 none 6 true [(0, x0), (0, x1)] n h e h1 := by
  refine conT_of (pad := 0) (own := RX5) (by decide) rfl rfl ?_
  intro X hC hbt hst htab hZ hRm hn0
  unfold fX5_needWhat at hF
  show AW G X 0 [(0, x0), (0, x1)] [] n h 0 0
  refine aw_iload_n hC dX5_needWhat_0 rfl ?_
  refine aw_if_lt (tgt := 9) hC dX5_needWhat_1 (by decide) (fun c1 => ?_) (fun c1 => ?_)
  · have hF := it_t hF c1
    cases hF
    exact aw_throw0 (is := 148) (no := 28) (text := "no such what") hC hRm (Nat.le_of_ble_eq_true rfl) hn0 hZ hst htab (List.mem_of_getElem? (i := 18) rfl) dX5_needWhat_9 dX5_needWhat_12 dX5_needWhat_13 dX5_needWhat_15 dX5_needWhat_18 (Nat.le_of_ble_eq_true rfl)
  · have hF := it_f hF c1
    refine aw_iload_n hC dX5_needWhat_4 rfl ?_
    refine aw_iload_n hC dX5_needWhat_5 rfl ?_
    refine aw_icmp_le (tgt := 19) hC dX5_needWhat_6 (by decide) (fun c2 => ?_) (fun c2 => ?_)
    · have hF := it_t hF c2
      exact (mi_x hF).elim
    · have hF := it_f hF c2
      cases hF
      exact aw_throw0 (is := 148) (no := 28) (text := "no such what") hC hRm (Nat.le_of_ble_eq_true rfl) hn0 hZ hst htab (List.mem_of_getElem? (i := 18) rfl) dX5_needWhat_9 dX5_needWhat_12 dX5_needWhat_13 dX5_needWhat_15 dX5_needWhat_18 (Nat.le_of_ble_eq_true rfl)
def fX5_compare_j24 (x1 : Int) (x2 : Int) (h : Hp) : Option (Int × Hp) :=
  bd_ (fX5_present h) (fun r7 h9 => gd_ (r7 = ((20 : Nat) : Int)) ((if x2 = 0 then bd_ (fX3_sumBy x1 h9) (fun r15 h17 => some (r15, h17)) else bd_ (fX3_mostBy x1 h9) (fun r12 h14 => some (r12, h14)))))
def fX5_compare (x1 : Int) (x2 : Int) (h : Hp) : Option RX :=
  bp_ (fX5_isLawOrNone x1 h) (fun r1 => (if r1 = 0 then some (.inr (0, h)) else bx_ (fX5_needWhat x2 1 h) (fun r4 h6 => mi_ (fX5_compare_j24 x1 x2 h6))))
theorem fX5_compare_j24_ok {G : GD} {X : CX} {n : Nat} {Q : Av → Nat → Hp → Prop} (hC : Cx G X RX5 cX5_compare) (hZ : ZOK X G Q 0 0) (hRm : X.R = rmd 7 0 0) (hbt : X.bt = true) (hr : X.meth.sig.returnType = (some .int)) {x1 : Int} {x2 : Int} {h : Hp} {res : Int × Hp} (hF : fX5_compare_j24 x1 x2 h = some res) (hK : ∀ (x9 : Int) (h9 : Hp), res = (x9, h9) → Q (0, x9) n h9) : AW G X 24 [(2, ((0 : Nat) : Int)), (0, x1), (0, x2)] [] n h 0 0 := by
  unfold fX5_compare_j24 at hF
  refine aw_aload_n hC dX5_compare_24 rfl ?_
  obtain ⟨r7, h9, q8, hF⟩ := bd_some hF
  refine clRX5_126 hC hRm hbt dX5_compare_25 rfl rfl (by decide) (Nat.le_of_ble_eq_true rfl) (Nat.le_of_ble_eq_true rfl) (ok_X5_present q8) ?_
  obtain ⟨g10, hF⟩ := gd_some hF
  refine aw_eqT g10.symm ?_
  refine aw_pop hC dX5_compare_28 (by simp) ?_
  refine aw_iload_n hC dX5_compare_29 rfl ?_
  refine aw_if_ne (tgt := 44) hC dX5_compare_30 (by decide) (fun c11 => ?_) (fun c11 => ?_)
  · have hF := it_f hF c11
    refine aw_aload_n hC dX5_compare_44 rfl ?_
    refine aw_gc5 (k := 3) (a := 0) (b := 20) hC hbt dX5_compare_45 lkRX5_37 (by decide) rfl rfl rfl (by decide) (by decide) ?_
    refine aw_iload_n hC dX5_compare_48 rfl ?_
    obtain ⟨r12, h14, q13, hF⟩ := bd_some hF
    refine clRX5_286 hC hRm hbt dX5_compare_49 rfl rfl (by decide) (Nat.le_of_ble_eq_true rfl) (Nat.le_of_ble_eq_true rfl) (ok_X3_mostBy q13) ?_
    exact aw_ireturn hC hZ (Nat.zero_le _) (Nat.zero_le _) hr dX5_compare_52 (hK _ _ (Option.some.inj hF).symm)
  · have hF := it_t hF c11
    refine aw_aload_n hC dX5_compare_33 rfl ?_
    refine aw_gc5 (k := 3) (a := 0) (b := 20) hC hbt dX5_compare_34 lkRX5_37 (by decide) rfl rfl rfl (by decide) (by decide) ?_
    refine aw_iload_n hC dX5_compare_37 rfl ?_
    obtain ⟨r15, h17, q16, hF⟩ := bd_some hF
    refine clRX5_283 hC hRm hbt dX5_compare_38 rfl rfl (by decide) (Nat.le_of_ble_eq_true rfl) (Nat.le_of_ble_eq_true rfl) (ok_X3_sumBy q16) ?_
    refine aw_goto (tgt := 52) hC dX5_compare_41 (by decide) ?_
    exact aw_ireturn hC hZ (Nat.zero_le _) (Nat.zero_le _) hr dX5_compare_52 (hK _ _ (Option.some.inj hF).symm)
theorem ok_X5_compare_n {G : GD} {n : Nat} {x1 : Int} {x2 : Int} {h : Hp} {res : Int × Hp} (hF : fX5_compare x1 x2 h = some (.inl res)) : Con G yX5_compare cX5_compare 3 (some .int) 7 0 0 true [(2, ((0 : Nat) : Int)), (0, x1), (0, x2)] n h (FQ 0 n res) := by
  refine con_of (pad := 0) (own := RX5) (plainFor_of_name (by decide)) rfl rfl ?_
  intro X hC hbt hr hnm hZ hRm hn0
  have hK : ∀ (x9 : Int) (h9 : Hp), res = (x9, h9) → FQ 0 n res (0, x9) n h9 := fun x9 h9 e => by subst e; exact ⟨rfl, rfl, rfl⟩
  unfold fX5_compare at hF
  show AW G X 0 [(2, ((0 : Nat) : Int)), (0, x1), (0, x2)] [] n h 0 0
  refine aw_aload_n hC dX5_compare_0 rfl ?_
  refine aw_iload_n hC dX5_compare_1 rfl ?_
  obtain ⟨r1, q2, hF⟩ := bp_some hF
  refine clRX5_228 hC hRm hbt dX5_compare_2 rfl rfl (by decide) (Nat.le_of_ble_eq_true rfl) (Nat.le_of_ble_eq_true rfl) (ok_X5_isLawOrNone q2) ?_
  refine aw_if_ne (tgt := 19) hC dX5_compare_5 (by decide) (fun c3 => ?_) (fun c3 => ?_)
  · have hF := it_f hF c3
    refine aw_iload_n hC dX5_compare_19 rfl ?_
    refine aw_iconst hC dX5_compare_20 (by decide) ?_
    obtain ⟨r4, h6, q5, hF⟩ := bx_n hF
    refine clRX5_280 hC hRm hbt dX5_compare_21 (Nat.le_of_ble_eq_true rfl) (Nat.le_of_ble_eq_true rfl) (ok_X5_needWhat_n q5) ?_
    have hF := mi_n hF
    exact fX5_compare_j24_ok hC hZ hRm hbt hr hF hK
  · have hF := it_t hF c3
    cases hF
theorem ok_X5_compare_x {G : GD} {n : Nat} {x1 : Int} {x2 : Int} {h : Hp} {e : Nat} {h1 : Hp} (hF : fX5_compare x1 x2 h = some (.inr (e, h1))) : ConT G yX5_compare cX5_compare 3 (some .int) 7 true [(2, ((0 : Nat) : Int)), (0, x1), (0, x2)] n h e h1 := by
  refine conT_of (pad := 0) (own := RX5) (by decide) rfl rfl ?_
  intro X hC hbt hst htab hZ hRm hn0
  unfold fX5_compare at hF
  show AW G X 0 [(2, ((0 : Nat) : Int)), (0, x1), (0, x2)] [] n h 0 0
  refine aw_aload_n hC dX5_compare_0 rfl ?_
  refine aw_iload_n hC dX5_compare_1 rfl ?_
  obtain ⟨r1, q2, hF⟩ := bp_some hF
  refine clRX5_228 hC hRm hbt dX5_compare_2 rfl rfl (by decide) (Nat.le_of_ble_eq_true rfl) (Nat.le_of_ble_eq_true rfl) (ok_X5_isLawOrNone q2) ?_
  refine aw_if_ne (tgt := 19) hC dX5_compare_5 (by decide) (fun c3 => ?_) (fun c3 => ?_)
  · have hF := it_f hF c3
    refine aw_iload_n hC dX5_compare_19 rfl ?_
    refine aw_iconst hC dX5_compare_20 (by decide) ?_
    rcases bx_x hF with ⟨r4, h6, q5, hF⟩ | q5
    rotate_left
    · exact clTRX5_280 hC hRm hbt hn0 hZ hst htab dX5_compare_21 (Nat.le_of_ble_eq_true rfl) (Nat.le_of_ble_eq_true rfl) (ok_X5_needWhat_x q5)
    refine clRX5_280 hC hRm hbt dX5_compare_21 (Nat.le_of_ble_eq_true rfl) (Nat.le_of_ble_eq_true rfl) (ok_X5_needWhat_n q5) ?_
    exact (mi_x hF).elim
  · have hF := it_t hF c3
    cases hF
    exact aw_throw0W (is := 278) (no := 36) (text := "no such law") hC hRm (Nat.le_of_ble_eq_true rfl) hn0 hZ hst htab (List.mem_of_getElem? (i := 26) rfl) dX5_compare_8 dX5_compare_11 dX5_compare_12 dX5_compare_15 dX5_compare_18 (Nat.le_of_ble_eq_true rfl)
def fX5_mildest_l34 (x1 : Int) (x2 : Int) (x3 : Int) (x4 : Int) (h : Hp) : Option ((Int × Int × Int × Hp) ⊕ (Int × Hp)) :=
  gd_ ((h 0 0) = 1 ∨ (h 0 0) = 9) ((if (h (Int.toNat ((h 0 0))) 8) ≤ x4 then some (.inr (x2, h)) else bd_ (fX3_sumBy x4 h) (fun r9 h11 => (if r9 < x1 then some (.inl (x2, x3, (i_add x4 1), h11)) else bd_ (fX3_mostBy x4 h11) (fun r14 h16 => (if x2 = (-1) then some (.inl (x4, r14, (i_add x4 1), h16)) else (if x3 ≤ r14 then some (.inl (x2, x3, (i_add x4 1), h16)) else some (.inl (x4, r14, (i_add x4 1), h16)))))))))
def fX5_mildest_j22 (x1 : Int) (h : Hp) : Option (Int × Hp) :=
  bd_ (fX5_present h) (fun r3 h5 => gd_ (r3 = ((20 : Nat) : Int)) (bp_ (it_ (fun s => fX5_mildest_l34 x1 s.1 s.2.1 s.2.2.1 s.2.2.2) FU ((-1), 0, 0, h5)) (fun e22 => (fun y23 h24 => some (y23, h24)) e22.1 e22.2)))
def fX5_mildest (x1 : Int) (h : Hp) : Option RX :=
  (if x1 < 0 then some (.inr (1, h)) else (if x1 ≤ 9999 then mi_ (fX5_mildest_j22 x1 h) else some (.inr (1, h))))
theorem fX5_mildest_l34_ok {G : GD} {X : CX} {n : Nat} {Q : Av → Nat → Hp → Prop} (hC : Cx G X RX5 cX5_mildest) (hZ : ZOK X G Q 0 0) (hRm : X.R = rmd 6 0 0) (hbt : X.bt = true) (hr : X.meth.sig.returnType = (some .int)) {x1 : Int} : ∀ (f : Nat) (x2 : Int) (x3 : Int) (x4 : Int) (h : Hp) (r : Int × Hp), it_ (fun s => fX5_mildest_l34 x1 s.1 s.2.1 s.2.2.1 s.2.2.2) f (x2, x3, x4, h) = some r → (∀ (y2 : Int) (h9 : Hp), r = (y2, h9) → AW G X 93 [(9, 0), (9, 0), (0, y2), (9, 0), (9, 0), (9, 0)] [] n h9 0 0) → AW G X 34 [(2, ((0 : Nat) : Int)), (0, x1), (0, x2), (0, x3), (0, x4), (9, 0)] [] n h 0 0 := by
  intro f
  induction f with
  | zero => intro x2 x3 x4 h r hI; cases hI
  | succ f ih0 =>
    intro x2 x3 x4 h r hI hX
    obtain ⟨b, hF, hb1, hb2⟩ := it_succ hI
    have hF : fX5_mildest_l34 x1 x2 x3 x4 h = some b := hF
    unfold fX5_mildest_l34 at hF
    refine aw_iload hC dX5_mildest_34 rfl ?_
    refine aw_aload_n hC dX5_mildest_36 rfl ?_
    refine aw_g5r (k := 0) (a := 0) hC dX5_mildest_37 lkRX5_10 (by decide) rfl rfl rfl (Or.inl ⟨hbt, by decide⟩) ?_
    obtain ⟨k7, hF⟩ := gd_some hF
    refine aw_gLiN (k := 8) hC hbt k7 dX5_mildest_40 lkRX5_119 (by decide) rfl ?_
    refine aw_icmp_ge (tgt := 93) hC dX5_mildest_43 (by decide) (fun c8 => ?_) (fun c8 => ?_)
    · have hF := it_t hF c8
      refine aw_weak (ls' := [(9, 0), (9, 0), (0, x2), (9, 0), (9, 0), (9, 0)]) ⟨Or.inl rfl, Or.inl rfl, Or.inr rfl, Or.inl rfl, Or.inl rfl, Or.inl rfl, trivial⟩ ?_
      exact hX _ _ (hb2 _ (Option.some.inj hF).symm).symm
    · have hF := it_f hF c8
      refine aw_aload_n hC dX5_mildest_46 rfl ?_
      refine aw_gc5 (k := 3) (a := 0) (b := 20) hC hbt dX5_mildest_47 lkRX5_37 (by decide) rfl rfl rfl (by decide) (by decide) ?_
      refine aw_iload hC dX5_mildest_50 rfl ?_
      obtain ⟨r9, h11, q10, hF⟩ := bd_some hF
      refine clRX5_283 hC hRm hbt dX5_mildest_52 rfl rfl (by decide) (Nat.le_of_ble_eq_true rfl) (Nat.le_of_ble_eq_true rfl) (ok_X3_sumBy q10) ?_
      refine aw_iload_n hC dX5_mildest_55 rfl ?_
      refine aw_icmp_lt (tgt := 87) hC dX5_mildest_56 (by decide) (fun c12 => ?_) (fun c12 => ?_)
      · have hF := it_t hF c12
        refine aw_iinc4 hC dX5_mildest_87 rfl ?_
        refine aw_goto (tgt := 34) hC dX5_mildest_90 (by decide) ?_
        exact ih0 _ _ _ _ r (hb1 _ (Option.some.inj hF).symm) hX
      · have hF := it_f hF c12
        refine aw_aload_n hC dX5_mildest_59 rfl ?_
        refine aw_gc5 (k := 3) (a := 0) (b := 20) hC hbt dX5_mildest_60 lkRX5_37 (by decide) rfl rfl rfl (by decide) (by decide) ?_
        refine aw_iload hC dX5_mildest_63 rfl ?_
        obtain ⟨r14, h16, q15, hF⟩ := bd_some hF
        refine clRX5_286 hC hRm hbt dX5_mildest_65 rfl rfl (by decide) (Nat.le_of_ble_eq_true rfl) (Nat.le_of_ble_eq_true rfl) (ok_X3_mostBy q15) ?_
        refine aw_istore5 hC dX5_mildest_68 rfl ?_
        refine aw_iload_n hC dX5_mildest_70 rfl ?_
        refine aw_iconst hC dX5_mildest_71 (by decide) ?_
        refine aw_icmp_eq (tgt := 81) hC dX5_mildest_72 (by decide) (fun c17 => ?_) (fun c17 => ?_)
        · have hF := it_t hF c17
          refine aw_iload hC dX5_mildest_81 rfl ?_
          refine aw_istore2 hC dX5_mildest_83 rfl ?_
          refine aw_iload hC dX5_mildest_84 rfl ?_
          refine aw_istore3 hC dX5_mildest_86 rfl ?_
          refine aw_iinc4 hC dX5_mildest_87 rfl ?_
          refine aw_goto (tgt := 34) hC dX5_mildest_90 (by decide) ?_
          refine aw_weak (ls' := [(2, ((0 : Nat) : Int)), (0, x1), (0, x4), (0, r14), (0, (i_add x4 1)), (9, 0)]) ⟨Or.inr rfl, Or.inr rfl, Or.inr rfl, Or.inr rfl, Or.inr rfl, Or.inl rfl, trivial⟩ ?_
          exact ih0 _ _ _ _ r (hb1 _ (Option.some.inj hF).symm) hX
        · have hF := it_f hF c17
          refine aw_iload hC dX5_mildest_75 rfl ?_
          refine aw_iload_n hC dX5_mildest_77 rfl ?_
          refine aw_icmp_ge (tgt := 87) hC dX5_mildest_78 (by decide) (fun c19 => ?_) (fun c19 => ?_)
          · have hF := it_t hF c19
            refine aw_iinc4 hC dX5_mildest_87 rfl ?_
            refine aw_goto (tgt := 34) hC dX5_mildest_90 (by decide) ?_
            refine aw_weak (ls' := [(2, ((0 : Nat) : Int)), (0, x1), (0, x2), (0, x3), (0, (i_add x4 1)), (9, 0)]) ⟨Or.inr rfl, Or.inr rfl, Or.inr rfl, Or.inr rfl, Or.inr rfl, Or.inl rfl, trivial⟩ ?_
            exact ih0 _ _ _ _ r (hb1 _ (Option.some.inj hF).symm) hX
          · have hF := it_f hF c19
            refine aw_iload hC dX5_mildest_81 rfl ?_
            refine aw_istore2 hC dX5_mildest_83 rfl ?_
            refine aw_iload hC dX5_mildest_84 rfl ?_
            refine aw_istore3 hC dX5_mildest_86 rfl ?_
            refine aw_iinc4 hC dX5_mildest_87 rfl ?_
            refine aw_goto (tgt := 34) hC dX5_mildest_90 (by decide) ?_
            refine aw_weak (ls' := [(2, ((0 : Nat) : Int)), (0, x1), (0, x4), (0, r14), (0, (i_add x4 1)), (9, 0)]) ⟨Or.inr rfl, Or.inr rfl, Or.inr rfl, Or.inr rfl, Or.inr rfl, Or.inl rfl, trivial⟩ ?_
            exact ih0 _ _ _ _ r (hb1 _ (Option.some.inj hF).symm) hX
theorem fX5_mildest_j22_ok {G : GD} {X : CX} {n : Nat} {Q : Av → Nat → Hp → Prop} (hC : Cx G X RX5 cX5_mildest) (hZ : ZOK X G Q 0 0) (hRm : X.R = rmd 6 0 0) (hbt : X.bt = true) (hr : X.meth.sig.returnType = (some .int)) {x1 : Int} {h : Hp} {res : Int × Hp} (hF : fX5_mildest_j22 x1 h = some res) (hK : ∀ (x9 : Int) (h9 : Hp), res = (x9, h9) → Q (0, x9) n h9) : AW G X 22 [(2, ((0 : Nat) : Int)), (0, x1), (9, 0), (9, 0), (9, 0), (9, 0)] [] n h 0 0 := by
  unfold fX5_mildest_j22 at hF
  refine aw_aload_n hC dX5_mildest_22 rfl ?_
  obtain ⟨r3, h5, q4, hF⟩ := bd_some hF
  refine clRX5_126 hC hRm hbt dX5_mildest_23 rfl rfl (by decide) (Nat.le_of_ble_eq_true rfl) (Nat.le_of_ble_eq_true rfl) (ok_X5_present q4) ?_
  obtain ⟨g6, hF⟩ := gd_some hF
  refine aw_eqT g6.symm ?_
  refine aw_pop hC dX5_mildest_26 (by simp) ?_
  refine aw_iconst hC dX5_mildest_27 (by decide) ?_
  refine aw_istore2 hC dX5_mildest_28 rfl ?_
  refine aw_iconst hC dX5_mildest_29 (by decide) ?_
  refine aw_istore3 hC dX5_mildest_30 rfl ?_
  refine aw_iconst hC dX5_mildest_31 (by decide) ?_
  refine aw_istore4 hC dX5_mildest_32 rfl ?_
  obtain ⟨e22, he, hF⟩ := bp_some hF
  refine fX5_mildest_l34_ok hC hZ hRm hbt hr FU _ _ _ _ e22 he (fun y23 h24 er => ?_)
  replace er := er.symm
  subst er
  try dsimp only at hF
  refine aw_iload_n hC dX5_mildest_93 rfl ?_
  exact aw_ireturn hC hZ (Nat.zero_le _) (Nat.zero_le _) hr dX5_mildest_94 (hK _ _ (Option.some.inj hF).symm)
theorem ok_X5_mildest_n {G : GD} {n : Nat} {x1 : Int} {h : Hp} {res : Int × Hp} (hF : fX5_mildest x1 h = some (.inl res)) : Con G yX5_mildest cX5_mildest 6 (some .int) 6 0 0 true [(2, ((0 : Nat) : Int)), (0, x1)] n h (FQ 0 n res) := by
  refine con_of (pad := 4) (own := RX5) (plainFor_of_name (by decide)) rfl rfl ?_
  intro X hC hbt hr hnm hZ hRm hn0
  have hK : ∀ (x9 : Int) (h9 : Hp), res = (x9, h9) → FQ 0 n res (0, x9) n h9 := fun x9 h9 e => by subst e; exact ⟨rfl, rfl, rfl⟩
  unfold fX5_mildest at hF
  show AW G X 0 [(2, ((0 : Nat) : Int)), (0, x1), (9, 0), (9, 0), (9, 0), (9, 0)] [] n h 0 0
  refine aw_iload_n hC dX5_mildest_0 rfl ?_
  refine aw_if_lt (tgt := 11) hC dX5_mildest_1 (by decide) (fun c1 => ?_) (fun c1 => ?_)
  · have hF := it_t hF c1
    cases hF
  · have hF := it_f hF c1
    refine aw_iload_n hC dX5_mildest_4 rfl ?_
    refine aw_sipush hC dX5_mildest_5 (by decide) (by decide) ?_
    refine aw_icmp_le (tgt := 22) hC dX5_mildest_8 (by decide) (fun c2 => ?_) (fun c2 => ?_)
    · have hF := it_t hF c2
      have hF := mi_n hF
      exact fX5_mildest_j22_ok hC hZ hRm hbt hr hF hK
    · have hF := it_f hF c2
      cases hF
theorem ok_X5_mildest_x {G : GD} {n : Nat} {x1 : Int} {h : Hp} {e : Nat} {h1 : Hp} (hF : fX5_mildest x1 h = some (.inr (e, h1))) : ConT G yX5_mildest cX5_mildest 6 (some .int) 6 true [(2, ((0 : Nat) : Int)), (0, x1)] n h e h1 := by
  refine conT_of (pad := 4) (own := RX5) (by decide) rfl rfl ?_
  intro X hC hbt hst htab hZ hRm hn0
  unfold fX5_mildest at hF
  show AW G X 0 [(2, ((0 : Nat) : Int)), (0, x1), (9, 0), (9, 0), (9, 0), (9, 0)] [] n h 0 0
  refine aw_iload_n hC dX5_mildest_0 rfl ?_
  refine aw_if_lt (tgt := 11) hC dX5_mildest_1 (by decide) (fun c1 => ?_) (fun c1 => ?_)
  · have hF := it_t hF c1
    cases hF
    exact aw_throw1W (is := 270) (no := 35) (text := "no such sum") hC hRm (Nat.le_of_ble_eq_true rfl) hn0 hZ hst htab (List.mem_of_getElem? (i := 25) rfl) dX5_mildest_11 dX5_mildest_14 dX5_mildest_15 dX5_mildest_18 dX5_mildest_21 (Nat.le_of_ble_eq_true rfl)
  · have hF := it_f hF c1
    refine aw_iload_n hC dX5_mildest_4 rfl ?_
    refine aw_sipush hC dX5_mildest_5 (by decide) (by decide) ?_
    refine aw_icmp_le (tgt := 22) hC dX5_mildest_8 (by decide) (fun c2 => ?_) (fun c2 => ?_)
    · have hF := it_t hF c2
      exact (mi_x hF).elim
    · have hF := it_f hF c2
      cases hF
      exact aw_throw1W (is := 270) (no := 35) (text := "no such sum") hC hRm (Nat.le_of_ble_eq_true rfl) hn0 hZ hst htab (List.mem_of_getElem? (i := 25) rfl) dX5_mildest_11 dX5_mildest_14 dX5_mildest_15 dX5_mildest_18 dX5_mildest_21 (Nat.le_of_ble_eq_true rfl)
def fX5_round_j5 (x1 : Int) (h : Hp) : Option (Int × Hp) :=
  bd_ (fX4_find ((h 0 0)) x1 h) (fun r4 h6 => some (r4, h6))
def fX5_round (x1 : Int) (h : Hp) : Option RX :=
  bx_ (fX5_needCell x1 h) (fun r1 h3 => mi_ (fX5_round_j5 x1 h3))
theorem fX5_round_j5_ok {G : GD} {X : CX} {n : Nat} {Q : Av → Nat → Hp → Prop} (hC : Cx G X RX5 cX5_round) (hZ : ZOK X G Q 0 0) (hRm : X.R = rmd 11 0 0) (hbt : X.bt = true) (hr : X.meth.sig.returnType = (some .int)) {x1 : Int} {h : Hp} {res : Int × Hp} (hF : fX5_round_j5 x1 h = some res) (hK : ∀ (x9 : Int) (h9 : Hp), res = (x9, h9) → Q (0, x9) n h9) : AW G X 5 [(2, ((0 : Nat) : Int)), (0, x1)] [] n h 0 0 := by
  unfold fX5_round_j5 at hF
  refine aw_aload_n hC dX5_round_5 rfl ?_
  refine aw_gc5 (k := 7) (a := 0) (b := 31) hC hbt dX5_round_6 lkRX5_51 (by decide) rfl rfl rfl (by decide) (by decide) ?_
  refine aw_aload_n hC dX5_round_9 rfl ?_
  refine aw_g5r (k := 0) (a := 0) hC dX5_round_10 lkRX5_10 (by decide) rfl rfl rfl (Or.inl ⟨hbt, by decide⟩) ?_
  refine aw_iload_n hC dX5_round_13 rfl ?_
  obtain ⟨r4, h6, q5, hF⟩ := bd_some hF
  refine clRX5_289 hC hRm hbt dX5_round_14 rfl rfl (by decide) (Nat.le_of_ble_eq_true rfl) (Nat.le_of_ble_eq_true rfl) (ok_X4_find q5) ?_
  exact aw_ireturn hC hZ (Nat.zero_le _) (Nat.zero_le _) hr dX5_round_17 (hK _ _ (Option.some.inj hF).symm)
theorem ok_X5_round_n {G : GD} {n : Nat} {x1 : Int} {h : Hp} {res : Int × Hp} (hF : fX5_round x1 h = some (.inl res)) : Con G yX5_round cX5_round 2 (some .int) 11 0 0 true [(2, ((0 : Nat) : Int)), (0, x1)] n h (FQ 0 n res) := by
  refine con_of (pad := 0) (own := RX5) (plainFor_of_name (by decide)) rfl rfl ?_
  intro X hC hbt hr hnm hZ hRm hn0
  have hK : ∀ (x9 : Int) (h9 : Hp), res = (x9, h9) → FQ 0 n res (0, x9) n h9 := fun x9 h9 e => by subst e; exact ⟨rfl, rfl, rfl⟩
  unfold fX5_round at hF
  show AW G X 0 [(2, ((0 : Nat) : Int)), (0, x1)] [] n h 0 0
  refine aw_aload_n hC dX5_round_0 rfl ?_
  refine aw_iload_n hC dX5_round_1 rfl ?_
  obtain ⟨r1, h3, q2, hF⟩ := bx_n hF
  refine clRX5_151 hC hRm hbt dX5_round_2 rfl rfl (by decide) (Nat.le_of_ble_eq_true rfl) (Nat.le_of_ble_eq_true rfl) (ok_X5_needCell_n q2) ?_
  have hF := mi_n hF
  exact fX5_round_j5_ok hC hZ hRm hbt hr hF hK
theorem ok_X5_round_x {G : GD} {n : Nat} {x1 : Int} {h : Hp} {e : Nat} {h1 : Hp} (hF : fX5_round x1 h = some (.inr (e, h1))) : ConT G yX5_round cX5_round 2 (some .int) 11 true [(2, ((0 : Nat) : Int)), (0, x1)] n h e h1 := by
  refine conT_of (pad := 0) (own := RX5) (by decide) rfl rfl ?_
  intro X hC hbt hst htab hZ hRm hn0
  unfold fX5_round at hF
  show AW G X 0 [(2, ((0 : Nat) : Int)), (0, x1)] [] n h 0 0
  refine aw_aload_n hC dX5_round_0 rfl ?_
  refine aw_iload_n hC dX5_round_1 rfl ?_
  rcases bx_x hF with ⟨r1, h3, q2, hF⟩ | q2
  rotate_left
  · exact clTRX5_151 hC hRm hbt hn0 hZ hst htab dX5_round_2 rfl rfl (by decide) (Nat.le_of_ble_eq_true rfl) (Nat.le_of_ble_eq_true rfl) (ok_X5_needCell_x q2)
  refine clRX5_151 hC hRm hbt dX5_round_2 rfl rfl (by decide) (Nat.le_of_ble_eq_true rfl) (Nat.le_of_ble_eq_true rfl) (ok_X5_needCell_n q2) ?_
  exact (mi_x hF).elim
def fX5_stop_j38 (x1 : Int) (h : Hp) : Option (Int × Hp) :=
  gd_ (0 ≤ x1 ∧ x1 < 6) (some ((h 32 (Int.toNat x1)), h))
def fX5_stop (x1 : Int) (h : Hp) : Option RX :=
  (if x1 < 0 then some (.inr (0, h)) else (if (h 31 3) ≤ x1 then some (.inr (0, h)) else (if x1 < ((6 : Nat) : Int) then mi_ (fX5_stop_j38 x1 h) else some (.inr (0, h)))))
theorem fX5_stop_j38_ok {G : GD} {X : CX} {n : Nat} {Q : Av → Nat → Hp → Prop} (hC : Cx G X RX5 cX5_stop) (hZ : ZOK X G Q 0 0) (hRm : X.R = rmd 6 0 0) (hbt : X.bt = true) (hr : X.meth.sig.returnType = (some .int)) {x1 : Int} {h : Hp} {res : Int × Hp} (hF : fX5_stop_j38 x1 h = some res) (hK : ∀ (x9 : Int) (h9 : Hp), res = (x9, h9) → Q (0, x9) n h9) : AW G X 38 [(2, ((0 : Nat) : Int)), (0, x1)] [] n h 0 0 := by
  unfold fX5_stop_j38 at hF
  refine aw_aload_n hC dX5_stop_38 rfl ?_
  refine aw_gc5 (k := 7) (a := 0) (b := 31) hC hbt dX5_stop_39 lkRX5_51 (by decide) rfl rfl rfl (by decide) (by decide) ?_
  refine aw_gc4N (k := 1) (a := 31) (b := 32) hC hbt dX5_stop_42 lkRX5_293 (by decide) rfl rfl rfl (by decide) (by decide) ?_
  refine aw_iload_n hC dX5_stop_45 rfl ?_
  obtain ⟨g4, hF⟩ := gd_some hF
  refine aw_iaload (a := 32) hC dX5_stop_46 rfl rfl (Or.inl ⟨hbt, by decide⟩) g4.1 g4.2 ?_
  exact aw_ireturn hC hZ (Nat.zero_le _) (Nat.zero_le _) hr dX5_stop_47 (hK _ _ (Option.some.inj hF).symm)
theorem ok_X5_stop_n {G : GD} {n : Nat} {x1 : Int} {h : Hp} {res : Int × Hp} (hF : fX5_stop x1 h = some (.inl res)) : Con G yX5_stop cX5_stop 2 (some .int) 6 0 0 true [(2, ((0 : Nat) : Int)), (0, x1)] n h (FQ 0 n res) := by
  refine con_of (pad := 0) (own := RX5) (plainFor_of_name (by decide)) rfl rfl ?_
  intro X hC hbt hr hnm hZ hRm hn0
  have hK : ∀ (x9 : Int) (h9 : Hp), res = (x9, h9) → FQ 0 n res (0, x9) n h9 := fun x9 h9 e => by subst e; exact ⟨rfl, rfl, rfl⟩
  unfold fX5_stop at hF
  show AW G X 0 [(2, ((0 : Nat) : Int)), (0, x1)] [] n h 0 0
  refine aw_iload_n hC dX5_stop_0 rfl ?_
  refine aw_if_lt (tgt := 27) hC dX5_stop_1 (by decide) (fun c1 => ?_) (fun c1 => ?_)
  · have hF := it_t hF c1
    cases hF
  · have hF := it_f hF c1
    refine aw_iload_n hC dX5_stop_4 rfl ?_
    refine aw_aload_n hC dX5_stop_5 rfl ?_
    refine aw_gc5 (k := 7) (a := 0) (b := 31) hC hbt dX5_stop_6 lkRX5_51 (by decide) rfl rfl rfl (by decide) (by decide) ?_
    refine aw_g4iN (k := 3) (a := 31) hC dX5_stop_9 lkRX5_100 (by decide) rfl rfl rfl (Or.inl ⟨hbt, by decide⟩) ?_
    refine aw_icmp_ge (tgt := 27) hC dX5_stop_12 (by decide) (fun c2 => ?_) (fun c2 => ?_)
    · have hF := it_t hF c2
      cases hF
    · have hF := it_f hF c2
      refine aw_iload_n hC dX5_stop_15 rfl ?_
      refine aw_aload_n hC dX5_stop_16 rfl ?_
      refine aw_gc5 (k := 7) (a := 0) (b := 31) hC hbt dX5_stop_17 lkRX5_51 (by decide) rfl rfl rfl (by decide) (by decide) ?_
      refine aw_gc4N (k := 1) (a := 31) (b := 32) hC hbt dX5_stop_20 lkRX5_293 (by decide) rfl rfl rfl (by decide) (by decide) ?_
      refine aw_alen (a := 32) hC dX5_stop_23 rfl rfl (by decide) (by decide) (Or.inl ⟨hbt, by decide⟩) ?_
      refine aw_icmp_lt (tgt := 38) hC dX5_stop_24 (by decide) (fun c3 => ?_) (fun c3 => ?_)
      · have hF := it_t hF c3
        have hF := mi_n hF
        exact fX5_stop_j38_ok hC hZ hRm hbt hr hF hK
      · have hF := it_f hF c3
        cases hF
theorem ok_X5_stop_x {G : GD} {n : Nat} {x1 : Int} {h : Hp} {e : Nat} {h1 : Hp} (hF : fX5_stop x1 h = some (.inr (e, h1))) : ConT G yX5_stop cX5_stop 2 (some .int) 6 true [(2, ((0 : Nat) : Int)), (0, x1)] n h e h1 := by
  refine conT_of (pad := 0) (own := RX5) (by decide) rfl rfl ?_
  intro X hC hbt hst htab hZ hRm hn0
  unfold fX5_stop at hF
  show AW G X 0 [(2, ((0 : Nat) : Int)), (0, x1)] [] n h 0 0
  refine aw_iload_n hC dX5_stop_0 rfl ?_
  refine aw_if_lt (tgt := 27) hC dX5_stop_1 (by decide) (fun c1 => ?_) (fun c1 => ?_)
  · have hF := it_t hF c1
    cases hF
    exact aw_throw0W (is := 296) (no := 37) (text := "no such stop is kept") hC hRm (Nat.le_of_ble_eq_true rfl) hn0 hZ hst htab (List.mem_of_getElem? (i := 27) rfl) dX5_stop_27 dX5_stop_30 dX5_stop_31 dX5_stop_34 dX5_stop_37 (Nat.le_of_ble_eq_true rfl)
  · have hF := it_f hF c1
    refine aw_iload_n hC dX5_stop_4 rfl ?_
    refine aw_aload_n hC dX5_stop_5 rfl ?_
    refine aw_gc5 (k := 7) (a := 0) (b := 31) hC hbt dX5_stop_6 lkRX5_51 (by decide) rfl rfl rfl (by decide) (by decide) ?_
    refine aw_g4iN (k := 3) (a := 31) hC dX5_stop_9 lkRX5_100 (by decide) rfl rfl rfl (Or.inl ⟨hbt, by decide⟩) ?_
    refine aw_icmp_ge (tgt := 27) hC dX5_stop_12 (by decide) (fun c2 => ?_) (fun c2 => ?_)
    · have hF := it_t hF c2
      cases hF
      exact aw_throw0W (is := 296) (no := 37) (text := "no such stop is kept") hC hRm (Nat.le_of_ble_eq_true rfl) hn0 hZ hst htab (List.mem_of_getElem? (i := 27) rfl) dX5_stop_27 dX5_stop_30 dX5_stop_31 dX5_stop_34 dX5_stop_37 (Nat.le_of_ble_eq_true rfl)
    · have hF := it_f hF c2
      refine aw_iload_n hC dX5_stop_15 rfl ?_
      refine aw_aload_n hC dX5_stop_16 rfl ?_
      refine aw_gc5 (k := 7) (a := 0) (b := 31) hC hbt dX5_stop_17 lkRX5_51 (by decide) rfl rfl rfl (by decide) (by decide) ?_
      refine aw_gc4N (k := 1) (a := 31) (b := 32) hC hbt dX5_stop_20 lkRX5_293 (by decide) rfl rfl rfl (by decide) (by decide) ?_
      refine aw_alen (a := 32) hC dX5_stop_23 rfl rfl (by decide) (by decide) (Or.inl ⟨hbt, by decide⟩) ?_
      refine aw_icmp_lt (tgt := 38) hC dX5_stop_24 (by decide) (fun c3 => ?_) (fun c3 => ?_)
      · have hF := it_t hF c3
        exact (mi_x hF).elim
      · have hF := it_f hF c3
        cases hF
        exact aw_throw0W (is := 296) (no := 37) (text := "no such stop is kept") hC hRm (Nat.le_of_ble_eq_true rfl) hn0 hZ hst htab (List.mem_of_getElem? (i := 27) rfl) dX5_stop_27 dX5_stop_30 dX5_stop_31 dX5_stop_34 dX5_stop_37 (Nat.le_of_ble_eq_true rfl)
def fX5_barns_j117 (x1 : Int) (x2 : Int) (x3 : Int) (x4 : Int) (x5 : Int) (x6 : Int) (x7 : Int) (x8 : Int) (x9 : Int) (x10 : Int) (z0 : Int) (h : Hp) : Option ((Int × Int × Int × Hp) ⊕ (Int × Int × Hp)) :=
  (if z0 = 0 then some (.inl (x6, x7, (i_add x8 (-1)), h)) else lb_ ((i_add ((i_mul 10 x9)) x10)) (fun v25 => some (.inl ((i_add x6 1), v25, (i_add x8 (-1)), h))))
def fX5_barns_j116 (x1 : Int) (x2 : Int) (x3 : Int) (x4 : Int) (x5 : Int) (x6 : Int) (x7 : Int) (x8 : Int) (x9 : Int) (x10 : Int) (h : Hp) : Option ((Int × Int × Int × Hp) ⊕ (Int × Int × Hp)) :=
  fX5_barns_j117 x1 x2 x3 x4 x5 x6 x7 x8 x9 x10 0 h
def fX5_barns_l63 (x1 : Int) (x2 : Int) (x3 : Int) (x4 : Int) (x5 : Int) (x6 : Int) (x7 : Int) (x8 : Int) (h : Hp) : Option ((Int × Int × Int × Hp) ⊕ (Int × Int × Hp)) :=
  (if x8 < 0 then some (.inr (x6, x7, h)) else lb_ ((i_shr x8 1)) (fun v16 => lb_ ((i_and x8 1)) (fun v17 => bd_ (fX5_restsWith x1 x2 x3 x4 v16 v17 h) (fun r18 h20 => (if r18 = 0 then fX5_barns_j116 x1 x2 x3 x4 x5 x6 x7 x8 v16 v17 h20 else bd_ (fX5_restsWith x2 x1 x3 x4 v17 v16 h20) (fun r27 h29 => (if r27 = 0 then fX5_barns_j116 x1 x2 x3 x4 x5 x6 x7 x8 v16 v17 h29 else fX5_barns_j117 x1 x2 x3 x4 x5 x6 x7 x8 v16 v17 1 h29)))))))
def fX5_barns_j54 (x1 : Int) (x2 : Int) (x3 : Int) (x4 : Int) (x5 : Int) (h : Hp) : Option (Int × Hp) :=
  bp_ (it_ (fun s => fX5_barns_l63 x1 x2 x3 x4 x5 s.1 s.2.1 s.2.2.1 s.2.2.2) FU (0, (-1), 3, h)) (fun e31 => (fun y32 y33 h34 => (if x5 = 0 then some (y32, h34) else some (y33, h34))) e31.1 e31.2.1 e31.2.2)
def fX5_barns (x1 : Int) (x2 : Int) (x3 : Int) (x4 : Int) (x5 : Int) (h : Hp) : Option RX :=
  bx_ (fX5_needHouse x1 h) (fun r1 h3 => bx_ (fX5_needHouse x2 h3) (fun r4 h6 => bx_ (fX5_needWhat x5 1 h6) (fun r7 h9 => (if x1 = x2 then some (.inr (1, h9)) else (if x3 < 1 then some (.inr (1, h9)) else (if 5 < x3 then some (.inr (1, h9)) else (if x4 < 0 then some (.inr (1, h9)) else (if x4 ≤ 99 then mi_ (fX5_barns_j54 x1 x2 x3 x4 x5 h9) else some (.inr (1, h9))))))))))
theorem fX5_barns_j117_ok {G : GD} {X : CX} {n : Nat} {Q : Av → Nat → Hp → Prop} (hC : Cx G X RX5 cX5_barns) (hZ : ZOK X G Q 0 0) (hRm : X.R = rmd 7 0 0) (hbt : X.bt = true) (hr : X.meth.sig.returnType = (some .int)) {x1 : Int} {x2 : Int} {x3 : Int} {x4 : Int} {x5 : Int} {x6 : Int} {x7 : Int} {x8 : Int} {x9 : Int} {x10 : Int} {z0 : Int} {h : Hp} {b : (Int × Int × Int × Hp) ⊕ (Int × Int × Hp)} (hF : fX5_barns_j117 x1 x2 x3 x4 x5 x6 x7 x8 x9 x10 z0 h = some b) (hL9 : ∀ (u6 : Int) (u7 : Int) (u8 : Int) (h9 : Hp), b = .inl (u6, u7, u8, h9) → AW G X 63 [(2, ((0 : Nat) : Int)), (0, x1), (0, x2), (0, x3), (0, x4), (0, x5), (0, u6), (0, u7), (0, u8), (9, 0), (9, 0), (9, 0)] [] n h9 0 0) (hX9 : ∀ (w6 : Int) (w7 : Int) (h9 : Hp), b = .inr (w6, w7, h9) → AW G X 143 [(9, 0), (9, 0), (9, 0), (9, 0), (9, 0), (0, x5), (0, w6), (0, w7), (9, 0), (9, 0), (9, 0), (9, 0)] [] n h9 0 0) : AW G X 117 [(2, ((0 : Nat) : Int)), (0, x1), (0, x2), (0, x3), (0, x4), (0, x5), (0, x6), (0, x7), (0, x8), (0, x9), (0, x10), (9, 0)] [(0, z0)] n h 0 0 := by
  unfold fX5_barns_j117 at hF
  refine aw_istore11 hC dX5_barns_117 rfl ?_
  refine aw_iload hC dX5_barns_119 rfl ?_
  refine aw_if_eq (tgt := 137) hC dX5_barns_121 (by decide) (fun c22 => ?_) (fun c22 => ?_)
  · have hF := it_t hF c22
    refine aw_iinc8 hC dX5_barns_137 rfl ?_
    refine aw_goto (tgt := 63) hC dX5_barns_140 (by decide) ?_
    refine aw_weak (ls' := [(2, ((0 : Nat) : Int)), (0, x1), (0, x2), (0, x3), (0, x4), (0, x5), (0, x6), (0, x7), (0, (i_add x8 (-1))), (9, 0), (9, 0), (9, 0)]) ⟨Or.inr rfl, Or.inr rfl, Or.inr rfl, Or.inr rfl, Or.inr rfl, Or.inr rfl, Or.inr rfl, Or.inr rfl, Or.inr rfl, Or.inl rfl, Or.inl rfl, Or.inl rfl, trivial⟩ ?_
    exact hL9 _ _ _ _ (Option.some.inj hF).symm
  · have hF := it_f hF c22
    refine aw_iinc6 hC dX5_barns_124 rfl ?_
    refine aw_bipush hC dX5_barns_127 (by decide) (by decide) ?_
    refine aw_iload hC dX5_barns_129 rfl ?_
    refine aw_imul hC dX5_barns_131 ?_
    refine aw_iload hC dX5_barns_132 rfl ?_
    refine aw_iadd hC dX5_barns_134 ?_
    obtain ⟨v25, ev25, hF⟩ := lb_some hF
    refine aw_eqT ev25 ?_
    clear ev25
    refine aw_istore7 hC dX5_barns_135 rfl ?_
    refine aw_iinc8 hC dX5_barns_137 rfl ?_
    refine aw_goto (tgt := 63) hC dX5_barns_140 (by decide) ?_
    refine aw_weak (ls' := [(2, ((0 : Nat) : Int)), (0, x1), (0, x2), (0, x3), (0, x4), (0, x5), (0, (i_add x6 1)), (0, v25), (0, (i_add x8 (-1))), (9, 0), (9, 0), (9, 0)]) ⟨Or.inr rfl, Or.inr rfl, Or.inr rfl, Or.inr rfl, Or.inr rfl, Or.inr rfl, Or.inr rfl, Or.inr rfl, Or.inr rfl, Or.inl rfl, Or.inl rfl, Or.inl rfl, trivial⟩ ?_
    exact hL9 _ _ _ _ (Option.some.inj hF).symm
theorem fX5_barns_j116_ok {G : GD} {X : CX} {n : Nat} {Q : Av → Nat → Hp → Prop} (hC : Cx G X RX5 cX5_barns) (hZ : ZOK X G Q 0 0) (hRm : X.R = rmd 7 0 0) (hbt : X.bt = true) (hr : X.meth.sig.returnType = (some .int)) {x1 : Int} {x2 : Int} {x3 : Int} {x4 : Int} {x5 : Int} {x6 : Int} {x7 : Int} {x8 : Int} {x9 : Int} {x10 : Int} {h : Hp} {b : (Int × Int × Int × Hp) ⊕ (Int × Int × Hp)} (hF : fX5_barns_j116 x1 x2 x3 x4 x5 x6 x7 x8 x9 x10 h = some b) (hL9 : ∀ (u6 : Int) (u7 : Int) (u8 : Int) (h9 : Hp), b = .inl (u6, u7, u8, h9) → AW G X 63 [(2, ((0 : Nat) : Int)), (0, x1), (0, x2), (0, x3), (0, x4), (0, x5), (0, u6), (0, u7), (0, u8), (9, 0), (9, 0), (9, 0)] [] n h9 0 0) (hX9 : ∀ (w6 : Int) (w7 : Int) (h9 : Hp), b = .inr (w6, w7, h9) → AW G X 143 [(9, 0), (9, 0), (9, 0), (9, 0), (9, 0), (0, x5), (0, w6), (0, w7), (9, 0), (9, 0), (9, 0), (9, 0)] [] n h9 0 0) : AW G X 116 [(2, ((0 : Nat) : Int)), (0, x1), (0, x2), (0, x3), (0, x4), (0, x5), (0, x6), (0, x7), (0, x8), (0, x9), (0, x10), (9, 0)] [] n h 0 0 := by
  unfold fX5_barns_j116 at hF
  refine aw_iconst hC dX5_barns_116 (by decide) ?_
  exact fX5_barns_j117_ok hC hZ hRm hbt hr hF (fun u0 u1 u2 u3 e => hL9 u0 u1 u2 u3 e) (fun w0 w1 w2 e => hX9 w0 w1 w2 e)
theorem fX5_barns_l63_ok {G : GD} {X : CX} {n : Nat} {Q : Av → Nat → Hp → Prop} (hC : Cx G X RX5 cX5_barns) (hZ : ZOK X G Q 0 0) (hRm : X.R = rmd 7 0 0) (hbt : X.bt = true) (hr : X.meth.sig.returnType = (some .int)) {x1 : Int} {x2 : Int} {x3 : Int} {x4 : Int} {x5 : Int} : ∀ (f : Nat) (x6 : Int) (x7 : Int) (x8 : Int) (h : Hp) (r : Int × Int × Hp), it_ (fun s => fX5_barns_l63 x1 x2 x3 x4 x5 s.1 s.2.1 s.2.2.1 s.2.2.2) f (x6, x7, x8, h) = some r → (∀ (y6 : Int) (y7 : Int) (h9 : Hp), r = (y6, y7, h9) → AW G X 143 [(9, 0), (9, 0), (9, 0), (9, 0), (9, 0), (0, x5), (0, y6), (0, y7), (9, 0), (9, 0), (9, 0), (9, 0)] [] n h9 0 0) → AW G X 63 [(2, ((0 : Nat) : Int)), (0, x1), (0, x2), (0, x3), (0, x4), (0, x5), (0, x6), (0, x7), (0, x8), (9, 0), (9, 0), (9, 0)] [] n h 0 0 := by
  intro f
  induction f with
  | zero => intro x6 x7 x8 h r hI; cases hI
  | succ f ih0 =>
    intro x6 x7 x8 h r hI hX
    obtain ⟨b, hF, hb1, hb2⟩ := it_succ hI
    have hF : fX5_barns_l63 x1 x2 x3 x4 x5 x6 x7 x8 h = some b := hF
    unfold fX5_barns_l63 at hF
    refine aw_iload hC dX5_barns_63 rfl ?_
    refine aw_if_lt (tgt := 143) hC dX5_barns_65 (by decide) (fun c15 => ?_) (fun c15 => ?_)
    · have hF := it_t hF c15
      refine aw_weak (ls' := [(9, 0), (9, 0), (9, 0), (9, 0), (9, 0), (0, x5), (0, x6), (0, x7), (9, 0), (9, 0), (9, 0), (9, 0)]) ⟨Or.inl rfl, Or.inl rfl, Or.inl rfl, Or.inl rfl, Or.inl rfl, Or.inr rfl, Or.inr rfl, Or.inr rfl, Or.inl rfl, Or.inl rfl, Or.inl rfl, Or.inl rfl, trivial⟩ ?_
      exact hX _ _ _ (hb2 _ (Option.some.inj hF).symm).symm
    · have hF := it_f hF c15
      refine aw_iload hC dX5_barns_68 rfl ?_
      refine aw_iconst hC dX5_barns_70 (by decide) ?_
      refine aw_ishr hC dX5_barns_71 ?_
      obtain ⟨v16, ev16, hF⟩ := lb_some hF
      refine aw_eqT ev16 ?_
      clear ev16
      refine aw_istore9 hC dX5_barns_72 rfl ?_
      refine aw_iload hC dX5_barns_74 rfl ?_
      refine aw_iconst hC dX5_barns_76 (by decide) ?_
      refine aw_iand hC dX5_barns_77 ?_
      obtain ⟨v17, ev17, hF⟩ := lb_some hF
      refine aw_eqT ev17 ?_
      clear ev17
      refine aw_istore10 hC dX5_barns_78 rfl ?_
      refine aw_aload_n hC dX5_barns_80 rfl ?_
      refine aw_iload_n hC dX5_barns_81 rfl ?_
      refine aw_iload_n hC dX5_barns_82 rfl ?_
      refine aw_iload_n hC dX5_barns_83 rfl ?_
      refine aw_iload hC dX5_barns_84 rfl ?_
      refine aw_iload hC dX5_barns_86 rfl ?_
      refine aw_iload hC dX5_barns_88 rfl ?_
      obtain ⟨r18, h20, q19, hF⟩ := bd_some hF
      refine clRX5_300 hC hRm hbt dX5_barns_90 rfl rfl (by decide) (Nat.le_of_ble_eq_true rfl) (Nat.le_of_ble_eq_true rfl) (ok_X5_restsWith q19) ?_
      refine aw_if_eq (tgt := 116) hC dX5_barns_93 (by decide) (fun c21 => ?_) (fun c21 => ?_)
      · have hF := it_t hF c21
        exact fX5_barns_j116_ok hC hZ hRm hbt hr hF (fun u0 u1 u2 u3 e => ih0 u0 u1 u2 u3 r (hb1 _ e) hX) (fun w0 w1 w2 e => hX w0 w1 w2 (hb2 _ e).symm)
      · have hF := it_f hF c21
        refine aw_aload_n hC dX5_barns_96 rfl ?_
        refine aw_iload_n hC dX5_barns_97 rfl ?_
        refine aw_iload_n hC dX5_barns_98 rfl ?_
        refine aw_iload_n hC dX5_barns_99 rfl ?_
        refine aw_iload hC dX5_barns_100 rfl ?_
        refine aw_iload hC dX5_barns_102 rfl ?_
        refine aw_iload hC dX5_barns_104 rfl ?_
        obtain ⟨r27, h29, q28, hF⟩ := bd_some hF
        refine clRX5_300 hC hRm hbt dX5_barns_106 rfl rfl (by decide) (Nat.le_of_ble_eq_true rfl) (Nat.le_of_ble_eq_true rfl) (ok_X5_restsWith q28) ?_
        refine aw_if_eq (tgt := 116) hC dX5_barns_109 (by decide) (fun c30 => ?_) (fun c30 => ?_)
        · have hF := it_t hF c30
          exact fX5_barns_j116_ok hC hZ hRm hbt hr hF (fun u0 u1 u2 u3 e => ih0 u0 u1 u2 u3 r (hb1 _ e) hX) (fun w0 w1 w2 e => hX w0 w1 w2 (hb2 _ e).symm)
        · have hF := it_f hF c30
          refine aw_iconst hC dX5_barns_112 (by decide) ?_
          refine aw_goto (tgt := 117) hC dX5_barns_113 (by decide) ?_
          exact fX5_barns_j117_ok hC hZ hRm hbt hr hF (fun u0 u1 u2 u3 e => ih0 u0 u1 u2 u3 r (hb1 _ e) hX) (fun w0 w1 w2 e => hX w0 w1 w2 (hb2 _ e).symm)
theorem fX5_barns_j54_ok {G : GD} {X : CX} {n : Nat} {Q : Av → Nat → Hp → Prop} (hC : Cx G X RX5 cX5_barns) (hZ : ZOK X G Q 0 0) (hRm : X.R = rmd 7 0 0) (hbt : X.bt = true) (hr : X.meth.sig.returnType = (some .int)) {x1 : Int} {x2 : Int} {x3 : Int} {x4 : Int} {x5 : Int} {h : Hp} {res : Int × Hp} (hF : fX5_barns_j54 x1 x2 x3 x4 x5 h = some res) (hK : ∀ (x9 : Int) (h9 : Hp), res = (x9, h9) → Q (0, x9) n h9) : AW G X 54 [(2, ((0 : Nat) : Int)), (0, x1), (0, x2), (0, x3), (0, x4), (0, x5), (9, 0), (9, 0), (9, 0), (9, 0), (9, 0), (9, 0)] [] n h 0 0 := by
  unfold fX5_barns_j54 at hF
  refine aw_iconst hC dX5_barns_54 (by decide) ?_
  refine aw_istore6 hC dX5_barns_55 rfl ?_
  refine aw_iconst hC dX5_barns_57 (by decide) ?_
  refine aw_istore7 hC dX5_barns_58 rfl ?_
  refine aw_iconst hC dX5_barns_60 (by decide) ?_
  refine aw_istore8 hC dX5_barns_61 rfl ?_
  obtain ⟨e31, he, hF⟩ := bp_some hF
  refine fX5_barns_l63_ok hC hZ hRm hbt hr FU _ _ _ _ e31 he (fun y32 y33 h34 er => ?_)
  replace er := er.symm
  subst er
  try dsimp only at hF
  refine aw_iload hC dX5_barns_143 rfl ?_
  refine aw_if_ne (tgt := 153) hC dX5_barns_145 (by decide) (fun c35 => ?_) (fun c35 => ?_)
  · have hF := it_f hF c35
    refine aw_iload hC dX5_barns_153 rfl ?_
    exact aw_ireturn hC hZ (Nat.zero_le _) (Nat.zero_le _) hr dX5_barns_155 (hK _ _ (Option.some.inj hF).symm)
  · have hF := it_t hF c35
    refine aw_iload hC dX5_barns_148 rfl ?_
    refine aw_goto (tgt := 155) hC dX5_barns_150 (by decide) ?_
    exact aw_ireturn hC hZ (Nat.zero_le _) (Nat.zero_le _) hr dX5_barns_155 (hK _ _ (Option.some.inj hF).symm)
theorem ok_X5_barns_n {G : GD} {n : Nat} {x1 : Int} {x2 : Int} {x3 : Int} {x4 : Int} {x5 : Int} {h : Hp} {res : Int × Hp} (hF : fX5_barns x1 x2 x3 x4 x5 h = some (.inl res)) : Con G yX5_barns cX5_barns 12 (some .int) 7 0 0 true [(2, ((0 : Nat) : Int)), (0, x1), (0, x2), (0, x3), (0, x4), (0, x5)] n h (FQ 0 n res) := by
  refine con_of (pad := 6) (own := RX5) (plainFor_of_name (by decide)) rfl rfl ?_
  intro X hC hbt hr hnm hZ hRm hn0
  have hK : ∀ (x9 : Int) (h9 : Hp), res = (x9, h9) → FQ 0 n res (0, x9) n h9 := fun x9 h9 e => by subst e; exact ⟨rfl, rfl, rfl⟩
  unfold fX5_barns at hF
  show AW G X 0 [(2, ((0 : Nat) : Int)), (0, x1), (0, x2), (0, x3), (0, x4), (0, x5), (9, 0), (9, 0), (9, 0), (9, 0), (9, 0), (9, 0)] [] n h 0 0
  refine aw_aload_n hC dX5_barns_0 rfl ?_
  refine aw_iload_n hC dX5_barns_1 rfl ?_
  obtain ⟨r1, h3, q2, hF⟩ := bx_n hF
  refine clRX5_173 hC hRm hbt dX5_barns_2 rfl rfl (by decide) (Nat.le_of_ble_eq_true rfl) (Nat.le_of_ble_eq_true rfl) (ok_X5_needHouse_n q2) ?_
  refine aw_aload_n hC dX5_barns_5 rfl ?_
  refine aw_iload_n hC dX5_barns_6 rfl ?_
  obtain ⟨r4, h6, q5, hF⟩ := bx_n hF
  refine clRX5_173 hC hRm hbt dX5_barns_7 rfl rfl (by decide) (Nat.le_of_ble_eq_true rfl) (Nat.le_of_ble_eq_true rfl) (ok_X5_needHouse_n q5) ?_
  refine aw_iload hC dX5_barns_10 rfl ?_
  refine aw_iconst hC dX5_barns_12 (by decide) ?_
  obtain ⟨r7, h9, q8, hF⟩ := bx_n hF
  refine clRX5_280 hC hRm hbt dX5_barns_13 (Nat.le_of_ble_eq_true rfl) (Nat.le_of_ble_eq_true rfl) (ok_X5_needWhat_n q8) ?_
  refine aw_iload_n hC dX5_barns_16 rfl ?_
  refine aw_iload_n hC dX5_barns_17 rfl ?_
  refine aw_icmp_eq (tgt := 43) hC dX5_barns_18 (by decide) (fun c10 => ?_) (fun c10 => ?_)
  · have hF := it_t hF c10
    cases hF
  · have hF := it_f hF c10
    refine aw_iload_n hC dX5_barns_21 rfl ?_
    refine aw_iconst hC dX5_barns_22 (by decide) ?_
    refine aw_icmp_lt (tgt := 43) hC dX5_barns_23 (by decide) (fun c11 => ?_) (fun c11 => ?_)
    · have hF := it_t hF c11
      cases hF
    · have hF := it_f hF c11
      refine aw_iload_n hC dX5_barns_26 rfl ?_
      refine aw_iconst hC dX5_barns_27 (by decide) ?_
      refine aw_icmp_gt (tgt := 43) hC dX5_barns_28 (by decide) (fun c12 => ?_) (fun c12 => ?_)
      · have hF := it_t hF c12
        cases hF
      · have hF := it_f hF c12
        refine aw_iload hC dX5_barns_31 rfl ?_
        refine aw_if_lt (tgt := 43) hC dX5_barns_33 (by decide) (fun c13 => ?_) (fun c13 => ?_)
        · have hF := it_t hF c13
          cases hF
        · have hF := it_f hF c13
          refine aw_iload hC dX5_barns_36 rfl ?_
          refine aw_bipush hC dX5_barns_38 (by decide) (by decide) ?_
          refine aw_icmp_le (tgt := 54) hC dX5_barns_40 (by decide) (fun c14 => ?_) (fun c14 => ?_)
          · have hF := it_t hF c14
            have hF := mi_n hF
            exact fX5_barns_j54_ok hC hZ hRm hbt hr hF hK
          · have hF := it_f hF c14
            cases hF
theorem ok_X5_barns_x {G : GD} {n : Nat} {x1 : Int} {x2 : Int} {x3 : Int} {x4 : Int} {x5 : Int} {h : Hp} {e : Nat} {h1 : Hp} (hF : fX5_barns x1 x2 x3 x4 x5 h = some (.inr (e, h1))) : ConT G yX5_barns cX5_barns 12 (some .int) 7 true [(2, ((0 : Nat) : Int)), (0, x1), (0, x2), (0, x3), (0, x4), (0, x5)] n h e h1 := by
  refine conT_of (pad := 6) (own := RX5) (by decide) rfl rfl ?_
  intro X hC hbt hst htab hZ hRm hn0
  unfold fX5_barns at hF
  show AW G X 0 [(2, ((0 : Nat) : Int)), (0, x1), (0, x2), (0, x3), (0, x4), (0, x5), (9, 0), (9, 0), (9, 0), (9, 0), (9, 0), (9, 0)] [] n h 0 0
  refine aw_aload_n hC dX5_barns_0 rfl ?_
  refine aw_iload_n hC dX5_barns_1 rfl ?_
  rcases bx_x hF with ⟨r1, h3, q2, hF⟩ | q2
  rotate_left
  · exact clTRX5_173 hC hRm hbt hn0 hZ hst htab dX5_barns_2 rfl rfl (by decide) (Nat.le_of_ble_eq_true rfl) (Nat.le_of_ble_eq_true rfl) (ok_X5_needHouse_x q2)
  refine clRX5_173 hC hRm hbt dX5_barns_2 rfl rfl (by decide) (Nat.le_of_ble_eq_true rfl) (Nat.le_of_ble_eq_true rfl) (ok_X5_needHouse_n q2) ?_
  refine aw_aload_n hC dX5_barns_5 rfl ?_
  refine aw_iload_n hC dX5_barns_6 rfl ?_
  rcases bx_x hF with ⟨r4, h6, q5, hF⟩ | q5
  rotate_left
  · exact clTRX5_173 hC hRm hbt hn0 hZ hst htab dX5_barns_7 rfl rfl (by decide) (Nat.le_of_ble_eq_true rfl) (Nat.le_of_ble_eq_true rfl) (ok_X5_needHouse_x q5)
  refine clRX5_173 hC hRm hbt dX5_barns_7 rfl rfl (by decide) (Nat.le_of_ble_eq_true rfl) (Nat.le_of_ble_eq_true rfl) (ok_X5_needHouse_n q5) ?_
  refine aw_iload hC dX5_barns_10 rfl ?_
  refine aw_iconst hC dX5_barns_12 (by decide) ?_
  rcases bx_x hF with ⟨r7, h9, q8, hF⟩ | q8
  rotate_left
  · exact clTRX5_280 hC hRm hbt hn0 hZ hst htab dX5_barns_13 (Nat.le_of_ble_eq_true rfl) (Nat.le_of_ble_eq_true rfl) (ok_X5_needWhat_x q8)
  refine clRX5_280 hC hRm hbt dX5_barns_13 (Nat.le_of_ble_eq_true rfl) (Nat.le_of_ble_eq_true rfl) (ok_X5_needWhat_n q8) ?_
  refine aw_iload_n hC dX5_barns_16 rfl ?_
  refine aw_iload_n hC dX5_barns_17 rfl ?_
  refine aw_icmp_eq (tgt := 43) hC dX5_barns_18 (by decide) (fun c10 => ?_) (fun c10 => ?_)
  · have hF := it_t hF c10
    cases hF
    exact aw_throw1W (is := 298) (no := 38) (text := "one house, or no such barn or pence") hC hRm (Nat.le_of_ble_eq_true rfl) hn0 hZ hst htab (List.mem_of_getElem? (i := 28) rfl) dX5_barns_43 dX5_barns_46 dX5_barns_47 dX5_barns_50 dX5_barns_53 (Nat.le_of_ble_eq_true rfl)
  · have hF := it_f hF c10
    refine aw_iload_n hC dX5_barns_21 rfl ?_
    refine aw_iconst hC dX5_barns_22 (by decide) ?_
    refine aw_icmp_lt (tgt := 43) hC dX5_barns_23 (by decide) (fun c11 => ?_) (fun c11 => ?_)
    · have hF := it_t hF c11
      cases hF
      exact aw_throw1W (is := 298) (no := 38) (text := "one house, or no such barn or pence") hC hRm (Nat.le_of_ble_eq_true rfl) hn0 hZ hst htab (List.mem_of_getElem? (i := 28) rfl) dX5_barns_43 dX5_barns_46 dX5_barns_47 dX5_barns_50 dX5_barns_53 (Nat.le_of_ble_eq_true rfl)
    · have hF := it_f hF c11
      refine aw_iload_n hC dX5_barns_26 rfl ?_
      refine aw_iconst hC dX5_barns_27 (by decide) ?_
      refine aw_icmp_gt (tgt := 43) hC dX5_barns_28 (by decide) (fun c12 => ?_) (fun c12 => ?_)
      · have hF := it_t hF c12
        cases hF
        exact aw_throw1W (is := 298) (no := 38) (text := "one house, or no such barn or pence") hC hRm (Nat.le_of_ble_eq_true rfl) hn0 hZ hst htab (List.mem_of_getElem? (i := 28) rfl) dX5_barns_43 dX5_barns_46 dX5_barns_47 dX5_barns_50 dX5_barns_53 (Nat.le_of_ble_eq_true rfl)
      · have hF := it_f hF c12
        refine aw_iload hC dX5_barns_31 rfl ?_
        refine aw_if_lt (tgt := 43) hC dX5_barns_33 (by decide) (fun c13 => ?_) (fun c13 => ?_)
        · have hF := it_t hF c13
          cases hF
          exact aw_throw1W (is := 298) (no := 38) (text := "one house, or no such barn or pence") hC hRm (Nat.le_of_ble_eq_true rfl) hn0 hZ hst htab (List.mem_of_getElem? (i := 28) rfl) dX5_barns_43 dX5_barns_46 dX5_barns_47 dX5_barns_50 dX5_barns_53 (Nat.le_of_ble_eq_true rfl)
        · have hF := it_f hF c13
          refine aw_iload hC dX5_barns_36 rfl ?_
          refine aw_bipush hC dX5_barns_38 (by decide) (by decide) ?_
          refine aw_icmp_le (tgt := 54) hC dX5_barns_40 (by decide) (fun c14 => ?_) (fun c14 => ?_)
          · have hF := it_t hF c14
            exact (mi_x hF).elim
          · have hF := it_f hF c14
            cases hF
            exact aw_throw1W (is := 298) (no := 38) (text := "one house, or no such barn or pence") hC hRm (Nat.le_of_ble_eq_true rfl) hn0 hZ hst htab (List.mem_of_getElem? (i := 28) rfl) dX5_barns_43 dX5_barns_46 dX5_barns_47 dX5_barns_50 dX5_barns_53 (Nat.le_of_ble_eq_true rfl)
def fX5_tell_j27  (h : Hp) : Option (Int × Hp) :=
  lb_ (st h 0 13 ((i_add ((h 0 13)) 1))) (fun h5 => some ((-1), h5))
def fX5_tell_j5 (x1 : Int) (x2 : Int) (h : Hp) : Option (Int × Hp) :=
  (if x2 < 0 then fX5_tell_j27 h else (if 99 < x2 then fX5_tell_j27 h else bd_ (fX0_write_26 x1 x2 h) (fun r7 h9 => (if r7 = 0 then fX5_tell_j27 h9 else some ((h9 26 6), h9)))))
def fX5_tell (x1 : Int) (x2 : Int) (h : Hp) : Option RX :=
  bx_ (fX5_needHouse x1 h) (fun r1 h3 => mi_ (fX5_tell_j5 x1 x2 h3))
theorem fX5_tell_j27_ok {G : GD} {X : CX} {n : Nat} {Q : Av → Nat → Hp → Prop} (hC : Cx G X RX5 cX5_tell) (hZ : ZOK X G Q 0 0) (hRm : X.R = rmd 7 0 0) (hbt : X.bt = true) (hr : X.meth.sig.returnType = (some .int))  {h : Hp} {res : Int × Hp} (hF : fX5_tell_j27  h = some res) (hK : ∀ (x9 : Int) (h9 : Hp), res = (x9, h9) → Q (0, x9) n h9) : AW G X 27 [(2, ((0 : Nat) : Int)), (9, 0), (9, 0)] [] n h 0 0 := by
  unfold fX5_tell_j27 at hF
  refine aw_aload_n hC dX5_tell_27 rfl ?_
  refine aw_dup hC dX5_tell_28 (by simp) ?_
  refine aw_g5i (k := 13) (a := 0) hC dX5_tell_29 lkRX5_143 (by decide) rfl rfl rfl (Or.inl ⟨hbt, by decide⟩) ?_
  refine aw_iconst hC dX5_tell_32 (by decide) ?_
  refine aw_iadd hC dX5_tell_33 ?_
  obtain ⟨h5, eh5, hF⟩ := lb_some hF
  refine aw_p5i (k := 13) (a := 0) hC dX5_tell_34 lkRX5_143 (by decide) rfl rfl rfl rfl rfl (Or.inl ⟨hbt, by decide⟩) (fun _ => by decide) ?_
  refine aw_eqH eh5 ?_
  clear eh5
  refine aw_iconst hC dX5_tell_37 (by decide) ?_
  exact aw_ireturn hC hZ (Nat.zero_le _) (Nat.zero_le _) hr dX5_tell_38 (hK _ _ (Option.some.inj hF).symm)
theorem fX5_tell_j5_ok {G : GD} {X : CX} {n : Nat} {Q : Av → Nat → Hp → Prop} (hC : Cx G X RX5 cX5_tell) (hZ : ZOK X G Q 0 0) (hRm : X.R = rmd 7 0 0) (hbt : X.bt = true) (hr : X.meth.sig.returnType = (some .int)) {x1 : Int} {x2 : Int} {h : Hp} {res : Int × Hp} (hF : fX5_tell_j5 x1 x2 h = some res) (hK : ∀ (x9 : Int) (h9 : Hp), res = (x9, h9) → Q (0, x9) n h9) : AW G X 5 [(2, ((0 : Nat) : Int)), (0, x1), (0, x2)] [] n h 0 0 := by
  unfold fX5_tell_j5 at hF
  refine aw_iload_n hC dX5_tell_5 rfl ?_
  refine aw_if_lt (tgt := 27) hC dX5_tell_6 (by decide) (fun c4 => ?_) (fun c4 => ?_)
  · have hF := it_t hF c4
    refine aw_weak (ls' := [(2, ((0 : Nat) : Int)), (9, 0), (9, 0)]) ⟨Or.inr rfl, Or.inl rfl, Or.inl rfl, trivial⟩ ?_
    exact fX5_tell_j27_ok hC hZ hRm hbt hr hF hK
  · have hF := it_f hF c4
    refine aw_iload_n hC dX5_tell_9 rfl ?_
    refine aw_bipush hC dX5_tell_10 (by decide) (by decide) ?_
    refine aw_icmp_gt (tgt := 27) hC dX5_tell_12 (by decide) (fun c6 => ?_) (fun c6 => ?_)
    · have hF := it_t hF c6
      refine aw_weak (ls' := [(2, ((0 : Nat) : Int)), (9, 0), (9, 0)]) ⟨Or.inr rfl, Or.inl rfl, Or.inl rfl, trivial⟩ ?_
      exact fX5_tell_j27_ok hC hZ hRm hbt hr hF hK
    · have hF := it_f hF c6
      refine aw_aload_n hC dX5_tell_15 rfl ?_
      refine aw_gc5 (k := 4) (a := 0) (b := 26) hC hbt dX5_tell_16 lkRX5_44 (by decide) rfl rfl rfl (by decide) (by decide) ?_
      refine aw_iload_n hC dX5_tell_19 rfl ?_
      refine aw_iload_n hC dX5_tell_20 rfl ?_
      obtain ⟨r7, h9, q8, hF⟩ := bd_some hF
      refine clRX5_308 hC hRm hbt dX5_tell_21 rfl rfl (by decide) (Nat.le_of_ble_eq_true rfl) (Nat.le_of_ble_eq_true rfl) (ok_X0_write_26 q8) ?_
      refine aw_if_ne (tgt := 39) hC dX5_tell_24 (by decide) (fun c10 => ?_) (fun c10 => ?_)
      · have hF := it_f hF c10
        refine aw_aload_n hC dX5_tell_39 rfl ?_
        refine aw_gc5 (k := 4) (a := 0) (b := 26) hC hbt dX5_tell_40 lkRX5_44 (by decide) rfl rfl rfl (by decide) (by decide) ?_
        refine aw_g0iN (k := 6) (a := 26) hC dX5_tell_43 lkRX5_137 (by decide) rfl rfl rfl (Or.inl ⟨hbt, by decide⟩) ?_
        exact aw_ireturn hC hZ (Nat.zero_le _) (Nat.zero_le _) hr dX5_tell_46 (hK _ _ (Option.some.inj hF).symm)
      · have hF := it_t hF c10
        refine aw_weak (ls' := [(2, ((0 : Nat) : Int)), (9, 0), (9, 0)]) ⟨Or.inr rfl, Or.inl rfl, Or.inl rfl, trivial⟩ ?_
        exact fX5_tell_j27_ok hC hZ hRm hbt hr hF hK
theorem ok_X5_tell_n {G : GD} {n : Nat} {x1 : Int} {x2 : Int} {h : Hp} {res : Int × Hp} (hF : fX5_tell x1 x2 h = some (.inl res)) : Con G yX5_tell cX5_tell 3 (some .int) 7 0 0 true [(2, ((0 : Nat) : Int)), (0, x1), (0, x2)] n h (FQ 0 n res) := by
  refine con_of (pad := 0) (own := RX5) (plainFor_of_name (by decide)) rfl rfl ?_
  intro X hC hbt hr hnm hZ hRm hn0
  have hK : ∀ (x9 : Int) (h9 : Hp), res = (x9, h9) → FQ 0 n res (0, x9) n h9 := fun x9 h9 e => by subst e; exact ⟨rfl, rfl, rfl⟩
  unfold fX5_tell at hF
  show AW G X 0 [(2, ((0 : Nat) : Int)), (0, x1), (0, x2)] [] n h 0 0
  refine aw_aload_n hC dX5_tell_0 rfl ?_
  refine aw_iload_n hC dX5_tell_1 rfl ?_
  obtain ⟨r1, h3, q2, hF⟩ := bx_n hF
  refine clRX5_173 hC hRm hbt dX5_tell_2 rfl rfl (by decide) (Nat.le_of_ble_eq_true rfl) (Nat.le_of_ble_eq_true rfl) (ok_X5_needHouse_n q2) ?_
  have hF := mi_n hF
  exact fX5_tell_j5_ok hC hZ hRm hbt hr hF hK
theorem ok_X5_tell_x {G : GD} {n : Nat} {x1 : Int} {x2 : Int} {h : Hp} {e : Nat} {h1 : Hp} (hF : fX5_tell x1 x2 h = some (.inr (e, h1))) : ConT G yX5_tell cX5_tell 3 (some .int) 7 true [(2, ((0 : Nat) : Int)), (0, x1), (0, x2)] n h e h1 := by
  refine conT_of (pad := 0) (own := RX5) (by decide) rfl rfl ?_
  intro X hC hbt hst htab hZ hRm hn0
  unfold fX5_tell at hF
  show AW G X 0 [(2, ((0 : Nat) : Int)), (0, x1), (0, x2)] [] n h 0 0
  refine aw_aload_n hC dX5_tell_0 rfl ?_
  refine aw_iload_n hC dX5_tell_1 rfl ?_
  rcases bx_x hF with ⟨r1, h3, q2, hF⟩ | q2
  rotate_left
  · exact clTRX5_173 hC hRm hbt hn0 hZ hst htab dX5_tell_2 rfl rfl (by decide) (Nat.le_of_ble_eq_true rfl) (Nat.le_of_ble_eq_true rfl) (ok_X5_needHouse_x q2)
  refine clRX5_173 hC hRm hbt dX5_tell_2 rfl rfl (by decide) (Nat.le_of_ble_eq_true rfl) (Nat.le_of_ble_eq_true rfl) (ok_X5_needHouse_n q2) ?_
  exact (mi_x hF).elim
def fX5_heights_l24 (x1 : Int) (x2 : Int) (x3 : Int) (x4 : Int) (x5 : Int) (h : Hp) : Option ((Int × Int × Int × Hp) ⊕ (Int × Int × Hp)) :=
  (if x5 < 0 then some (.inr (x3, x4, h)) else bd_ (fX3_reshape x1 x5 h) (fun r12 h14 => bd_ (fX3_housesThatLie_26 h14) (fun r15 h17 => (if r15 = 0 then some (.inl ((i_add x3 1), x5, (i_add x5 (-1)), h17)) else some (.inl (x3, x4, (i_add x5 (-1)), h17))))))
def fX5_heights_j10 (x1 : Int) (x2 : Int) (h : Hp) : Option (Int × Hp) :=
  bd_ (fX5_present h) (fun r7 h9 => gd_ (r7 = ((20 : Nat) : Int)) (bp_ (it_ (fun s => fX5_heights_l24 x1 x2 s.1 s.2.1 s.2.2.1 s.2.2.2) FU (0, (-1), 9, h9)) (fun e22 => (fun y23 y24 h25 => (if x2 = 0 then some (y23, h25) else some (y24, h25))) e22.1 e22.2.1 e22.2.2)))
def fX5_heights (x1 : Int) (x2 : Int) (h : Hp) : Option RX :=
  bx_ (fX5_needCell x1 h) (fun r1 h3 => bx_ (fX5_needWhat x2 1 h3) (fun r4 h6 => mi_ (fX5_heights_j10 x1 x2 h6)))
theorem fX5_heights_l24_ok {G : GD} {X : CX} {n : Nat} {Q : Av → Nat → Hp → Prop} (hC : Cx G X RX5 cX5_heights) (hZ : ZOK X G Q 0 0) (hRm : X.R = rmd 7 0 0) (hbt : X.bt = true) (hr : X.meth.sig.returnType = (some .int)) {x1 : Int} {x2 : Int} : ∀ (f : Nat) (x3 : Int) (x4 : Int) (x5 : Int) (h : Hp) (r : Int × Int × Hp), it_ (fun s => fX5_heights_l24 x1 x2 s.1 s.2.1 s.2.2.1 s.2.2.2) f (x3, x4, x5, h) = some r → (∀ (y3 : Int) (y4 : Int) (h9 : Hp), r = (y3, y4, h9) → AW G X 66 [(9, 0), (9, 0), (0, x2), (0, y3), (0, y4), (9, 0)] [] n h9 0 0) → AW G X 24 [(2, ((0 : Nat) : Int)), (0, x1), (0, x2), (0, x3), (0, x4), (0, x5)] [] n h 0 0 := by
  intro f
  induction f with
  | zero => intro x3 x4 x5 h r hI; cases hI
  | succ f ih0 =>
    intro x3 x4 x5 h r hI hX
    obtain ⟨b, hF, hb1, hb2⟩ := it_succ hI
    have hF : fX5_heights_l24 x1 x2 x3 x4 x5 h = some b := hF
    unfold fX5_heights_l24 at hF
    refine aw_iload hC dX5_heights_24 rfl ?_
    refine aw_if_lt (tgt := 66) hC dX5_heights_26 (by decide) (fun c11 => ?_) (fun c11 => ?_)
    · have hF := it_t hF c11
      refine aw_weak (ls' := [(9, 0), (9, 0), (0, x2), (0, x3), (0, x4), (9, 0)]) ⟨Or.inl rfl, Or.inl rfl, Or.inr rfl, Or.inr rfl, Or.inr rfl, Or.inl rfl, trivial⟩ ?_
      exact hX _ _ _ (hb2 _ (Option.some.inj hF).symm).symm
    · have hF := it_f hF c11
      refine aw_aload_n hC dX5_heights_29 rfl ?_
      refine aw_gc5 (k := 3) (a := 0) (b := 20) hC hbt dX5_heights_30 lkRX5_37 (by decide) rfl rfl rfl (by decide) (by decide) ?_
      refine aw_iload_n hC dX5_heights_33 rfl ?_
      refine aw_iload hC dX5_heights_34 rfl ?_
      obtain ⟨r12, h14, q13, hF⟩ := bd_some hF
      refine clRX5_315 hC hRm hbt dX5_heights_36 rfl rfl (by decide) (Nat.le_of_ble_eq_true rfl) (Nat.le_of_ble_eq_true rfl) (ok_X3_reshape q13) ?_
      refine aw_aload_n hC dX5_heights_39 rfl ?_
      refine aw_gc5 (k := 3) (a := 0) (b := 20) hC hbt dX5_heights_40 lkRX5_37 (by decide) rfl rfl rfl (by decide) (by decide) ?_
      refine aw_aload_n hC dX5_heights_43 rfl ?_
      refine aw_gc5 (k := 4) (a := 0) (b := 26) hC hbt dX5_heights_44 lkRX5_44 (by decide) rfl rfl rfl (by decide) (by decide) ?_
      obtain ⟨r15, h17, q16, hF⟩ := bd_some hF
      refine clRX5_311 hC hRm hbt dX5_heights_47 rfl rfl (by decide) (Nat.le_of_ble_eq_true rfl) (Nat.le_of_ble_eq_true rfl) (ok_X3_housesThatLie_26 q16) ?_
      refine aw_if_ne (tgt := 60) hC dX5_heights_50 (by decide) (fun c18 => ?_) (fun c18 => ?_)
      · have hF := it_f hF c18
        refine aw_iinc5 hC dX5_heights_60 rfl ?_
        refine aw_goto (tgt := 24) hC dX5_heights_63 (by decide) ?_
        exact ih0 _ _ _ _ r (hb1 _ (Option.some.inj hF).symm) hX
      · have hF := it_t hF c18
        refine aw_iinc3 hC dX5_heights_53 rfl ?_
        refine aw_iload hC dX5_heights_56 rfl ?_
        refine aw_istore4 hC dX5_heights_58 rfl ?_
        refine aw_iinc5 hC dX5_heights_60 rfl ?_
        refine aw_goto (tgt := 24) hC dX5_heights_63 (by decide) ?_
        exact ih0 _ _ _ _ r (hb1 _ (Option.some.inj hF).symm) hX
theorem fX5_heights_j10_ok {G : GD} {X : CX} {n : Nat} {Q : Av → Nat → Hp → Prop} (hC : Cx G X RX5 cX5_heights) (hZ : ZOK X G Q 0 0) (hRm : X.R = rmd 7 0 0) (hbt : X.bt = true) (hr : X.meth.sig.returnType = (some .int)) {x1 : Int} {x2 : Int} {h : Hp} {res : Int × Hp} (hF : fX5_heights_j10 x1 x2 h = some res) (hK : ∀ (x9 : Int) (h9 : Hp), res = (x9, h9) → Q (0, x9) n h9) : AW G X 10 [(2, ((0 : Nat) : Int)), (0, x1), (0, x2), (9, 0), (9, 0), (9, 0)] [] n h 0 0 := by
  unfold fX5_heights_j10 at hF
  refine aw_aload_n hC dX5_heights_10 rfl ?_
  obtain ⟨r7, h9, q8, hF⟩ := bd_some hF
  refine clRX5_126 hC hRm hbt dX5_heights_11 rfl rfl (by decide) (Nat.le_of_ble_eq_true rfl) (Nat.le_of_ble_eq_true rfl) (ok_X5_present q8) ?_
  obtain ⟨g10, hF⟩ := gd_some hF
  refine aw_eqT g10.symm ?_
  refine aw_pop hC dX5_heights_14 (by simp) ?_
  refine aw_iconst hC dX5_heights_15 (by decide) ?_
  refine aw_istore3 hC dX5_heights_16 rfl ?_
  refine aw_iconst hC dX5_heights_17 (by decide) ?_
  refine aw_istore4 hC dX5_heights_18 rfl ?_
  refine aw_bipush hC dX5_heights_20 (by decide) (by decide) ?_
  refine aw_istore5 hC dX5_heights_22 rfl ?_
  obtain ⟨e22, he, hF⟩ := bp_some hF
  refine fX5_heights_l24_ok hC hZ hRm hbt hr FU _ _ _ _ e22 he (fun y23 y24 h25 er => ?_)
  replace er := er.symm
  subst er
  try dsimp only at hF
  refine aw_iload_n hC dX5_heights_66 rfl ?_
  refine aw_if_ne (tgt := 74) hC dX5_heights_67 (by decide) (fun c26 => ?_) (fun c26 => ?_)
  · have hF := it_f hF c26
    refine aw_iload hC dX5_heights_74 rfl ?_
    exact aw_ireturn hC hZ (Nat.zero_le _) (Nat.zero_le _) hr dX5_heights_76 (hK _ _ (Option.some.inj hF).symm)
  · have hF := it_t hF c26
    refine aw_iload_n hC dX5_heights_70 rfl ?_
    refine aw_goto (tgt := 76) hC dX5_heights_71 (by decide) ?_
    exact aw_ireturn hC hZ (Nat.zero_le _) (Nat.zero_le _) hr dX5_heights_76 (hK _ _ (Option.some.inj hF).symm)
theorem ok_X5_heights_n {G : GD} {n : Nat} {x1 : Int} {x2 : Int} {h : Hp} {res : Int × Hp} (hF : fX5_heights x1 x2 h = some (.inl res)) : Con G yX5_heights cX5_heights 6 (some .int) 7 0 0 true [(2, ((0 : Nat) : Int)), (0, x1), (0, x2)] n h (FQ 0 n res) := by
  refine con_of (pad := 3) (own := RX5) (plainFor_of_name (by decide)) rfl rfl ?_
  intro X hC hbt hr hnm hZ hRm hn0
  have hK : ∀ (x9 : Int) (h9 : Hp), res = (x9, h9) → FQ 0 n res (0, x9) n h9 := fun x9 h9 e => by subst e; exact ⟨rfl, rfl, rfl⟩
  unfold fX5_heights at hF
  show AW G X 0 [(2, ((0 : Nat) : Int)), (0, x1), (0, x2), (9, 0), (9, 0), (9, 0)] [] n h 0 0
  refine aw_aload_n hC dX5_heights_0 rfl ?_
  refine aw_iload_n hC dX5_heights_1 rfl ?_
  obtain ⟨r1, h3, q2, hF⟩ := bx_n hF
  refine clRX5_151 hC hRm hbt dX5_heights_2 rfl rfl (by decide) (Nat.le_of_ble_eq_true rfl) (Nat.le_of_ble_eq_true rfl) (ok_X5_needCell_n q2) ?_
  refine aw_iload_n hC dX5_heights_5 rfl ?_
  refine aw_iconst hC dX5_heights_6 (by decide) ?_
  obtain ⟨r4, h6, q5, hF⟩ := bx_n hF
  refine clRX5_280 hC hRm hbt dX5_heights_7 (Nat.le_of_ble_eq_true rfl) (Nat.le_of_ble_eq_true rfl) (ok_X5_needWhat_n q5) ?_
  have hF := mi_n hF
  exact fX5_heights_j10_ok hC hZ hRm hbt hr hF hK
theorem ok_X5_heights_x {G : GD} {n : Nat} {x1 : Int} {x2 : Int} {h : Hp} {e : Nat} {h1 : Hp} (hF : fX5_heights x1 x2 h = some (.inr (e, h1))) : ConT G yX5_heights cX5_heights 6 (some .int) 7 true [(2, ((0 : Nat) : Int)), (0, x1), (0, x2)] n h e h1 := by
  refine conT_of (pad := 3) (own := RX5) (by decide) rfl rfl ?_
  intro X hC hbt hst htab hZ hRm hn0
  unfold fX5_heights at hF
  show AW G X 0 [(2, ((0 : Nat) : Int)), (0, x1), (0, x2), (9, 0), (9, 0), (9, 0)] [] n h 0 0
  refine aw_aload_n hC dX5_heights_0 rfl ?_
  refine aw_iload_n hC dX5_heights_1 rfl ?_
  rcases bx_x hF with ⟨r1, h3, q2, hF⟩ | q2
  rotate_left
  · exact clTRX5_151 hC hRm hbt hn0 hZ hst htab dX5_heights_2 rfl rfl (by decide) (Nat.le_of_ble_eq_true rfl) (Nat.le_of_ble_eq_true rfl) (ok_X5_needCell_x q2)
  refine clRX5_151 hC hRm hbt dX5_heights_2 rfl rfl (by decide) (Nat.le_of_ble_eq_true rfl) (Nat.le_of_ble_eq_true rfl) (ok_X5_needCell_n q2) ?_
  refine aw_iload_n hC dX5_heights_5 rfl ?_
  refine aw_iconst hC dX5_heights_6 (by decide) ?_
  rcases bx_x hF with ⟨r4, h6, q5, hF⟩ | q5
  rotate_left
  · exact clTRX5_280 hC hRm hbt hn0 hZ hst htab dX5_heights_7 (Nat.le_of_ble_eq_true rfl) (Nat.le_of_ble_eq_true rfl) (ok_X5_needWhat_x q5)
  refine clRX5_280 hC hRm hbt dX5_heights_7 (Nat.le_of_ble_eq_true rfl) (Nat.le_of_ble_eq_true rfl) (ok_X5_needWhat_n q5) ?_
  exact (mi_x hF).elim
def fX5_decades_j92 (x2 : Int) (x3 : Int) (x4 : Int) (x5 : Int) (x6 : Int) (h : Hp) : Option ((Int × Int × Int × Hp) ⊕ (Int × Hp)) :=
  bp_ (fX5_nextSeed x4 h) (fun r21 => bp_ (fX5_draw r21 9 h) (fun r23 => lb_ (st h 20 4 ((i_add r23 1))) (fun h25 => bd_ (fX3_passYear h25) (fun r26 h28 => lb_ ((i_add x5 r26)) (fun v29 => some (.inl (r21, v29, (i_add x6 1), h28)))))))
def fX5_decades_l40 (x2 : Int) (x3 : Int) (x4 : Int) (x5 : Int) (x6 : Int) (h : Hp) : Option ((Int × Int × Int × Hp) ⊕ (Int × Hp)) :=
  (if x2 ≤ x6 then some (.inr (x5, h)) else bp_ (fX5_nextSeed x4 h) (fun r11 => gd_ ((h 0 0) = 1 ∨ (h 0 0) = 9) (bp_ (fX1_cells ((h 0 0)) h) (fun r14 => bp_ (fX5_draw r11 r14 h) (fun r16 => bp_ (fX5_treeIn_21 r16 h) (fun r18 => (if r18 = (-1) then fX5_decades_j92 x2 x3 r11 x5 x6 h else bd_ (fX3_dropTree r18 h) (fun r31 h33 => fX5_decades_j92 x2 x3 r11 x5 x6 h33))))))))
def fX5_decades_j26 (x1 : Int) (x2 : Int) (x3 : Int) (h : Hp) : Option (Int × Hp) :=
  bd_ (fX5_present h) (fun r6 h8 => gd_ (r6 = ((20 : Nat) : Int)) (bp_ (it_ (fun s => fX5_decades_l40 x2 x3 s.1 s.2.1 s.2.2.1 s.2.2.2) FU (x1, 0, 0, h8)) (fun e34 => (fun y35 h36 => (if x3 = 0 then some (y35, h36) else (if x3 = 1 then bp_ (fX5_treesStanding_21 h36) (fun r41 => some (r41, h36)) else bp_ (fX3_leastPurse h36) (fun r39 => some (r39, h36))))) e34.1 e34.2)))
def fX5_decades (x1 : Int) (x2 : Int) (x3 : Int) (h : Hp) : Option RX :=
  bx_ (fX5_needWhat x3 2 h) (fun r1 h3 => (if x2 < 0 then some (.inr (1, h3)) else (if x2 ≤ 40 then mi_ (fX5_decades_j26 x1 x2 x3 h3) else some (.inr (1, h3)))))
theorem fX5_decades_j92_ok {G : GD} {X : CX} {n : Nat} {Q : Av → Nat → Hp → Prop} (hC : Cx G X RX5 cX5_decades) (hZ : ZOK X G Q 0 0) (hRm : X.R = rmd 7 0 0) (hbt : X.bt = true) (hr : X.meth.sig.returnType = (some .int)) {x2 : Int} {x3 : Int} {x4 : Int} {x5 : Int} {x6 : Int} {h : Hp} {b : (Int × Int × Int × Hp) ⊕ (Int × Hp)} (hF : fX5_decades_j92 x2 x3 x4 x5 x6 h = some b) (hL9 : ∀ (u4 : Int) (u5 : Int) (u6 : Int) (h9 : Hp), b = .inl (u4, u5, u6, h9) → AW G X 40 [(2, ((0 : Nat) : Int)), (9, 0), (0, x2), (0, x3), (0, u4), (0, u5), (0, u6), (9, 0)] [] n h9 0 0) (hX9 : ∀ (w5 : Int) (h9 : Hp), b = .inr (w5, h9) → AW G X 133 [(2, ((0 : Nat) : Int)), (9, 0), (9, 0), (0, x3), (9, 0), (0, w5), (9, 0), (9, 0)] [] n h9 0 0) : AW G X 92 [(2, ((0 : Nat) : Int)), (9, 0), (0, x2), (0, x3), (0, x4), (0, x5), (0, x6), (9, 0)] [] n h 0 0 := by
  unfold fX5_decades_j92 at hF
  refine aw_iload hC dX5_decades_92 rfl ?_
  obtain ⟨r21, q22, hF⟩ := bp_some hF
  refine clRX5_332 hC hRm hbt dX5_decades_94 (Nat.le_of_ble_eq_true rfl) (Nat.le_of_ble_eq_true rfl) (ok_X5_nextSeed q22) ?_
  refine aw_istore4 hC dX5_decades_97 rfl ?_
  refine aw_aload_n hC dX5_decades_99 rfl ?_
  refine aw_gc5 (k := 3) (a := 0) (b := 20) hC hbt dX5_decades_100 lkRX5_37 (by decide) rfl rfl rfl (by decide) (by decide) ?_
  refine aw_iload hC dX5_decades_103 rfl ?_
  refine aw_bipush hC dX5_decades_105 (by decide) (by decide) ?_
  obtain ⟨r23, q24, hF⟩ := bp_some hF
  refine clRX5_335 hC hRm hbt dX5_decades_107 (Nat.le_of_ble_eq_true rfl) (Nat.le_of_ble_eq_true rfl) (ok_X5_draw q24) ?_
  refine aw_iconst hC dX5_decades_110 (by decide) ?_
  refine aw_iadd hC dX5_decades_111 ?_
  obtain ⟨h25, eh25, hF⟩ := lb_some hF
  refine aw_p3iN (k := 4) (a := 20) hC dX5_decades_112 lkRX5_338 (by decide) rfl rfl rfl rfl rfl (Or.inl ⟨hbt, by decide⟩) (fun _ => by decide) ?_
  refine aw_eqH eh25 ?_
  clear eh25
  refine aw_iload hC dX5_decades_115 rfl ?_
  refine aw_aload_n hC dX5_decades_117 rfl ?_
  refine aw_gc5 (k := 3) (a := 0) (b := 20) hC hbt dX5_decades_118 lkRX5_37 (by decide) rfl rfl rfl (by decide) (by decide) ?_
  obtain ⟨r26, h28, q27, hF⟩ := bd_some hF
  refine clRX5_207 hC hRm hbt dX5_decades_121 rfl rfl (by decide) (Nat.le_of_ble_eq_true rfl) (Nat.le_of_ble_eq_true rfl) (ok_X3_passYear q27) ?_
  refine aw_iadd hC dX5_decades_124 ?_
  obtain ⟨v29, ev29, hF⟩ := lb_some hF
  refine aw_eqT ev29 ?_
  clear ev29
  refine aw_istore5 hC dX5_decades_125 rfl ?_
  refine aw_iinc6 hC dX5_decades_127 rfl ?_
  refine aw_goto (tgt := 40) hC dX5_decades_130 (by decide) ?_
  exact hL9 _ _ _ _ (Option.some.inj hF).symm
theorem fX5_decades_l40_ok {G : GD} {X : CX} {n : Nat} {Q : Av → Nat → Hp → Prop} (hC : Cx G X RX5 cX5_decades) (hZ : ZOK X G Q 0 0) (hRm : X.R = rmd 7 0 0) (hbt : X.bt = true) (hr : X.meth.sig.returnType = (some .int)) {x2 : Int} {x3 : Int} : ∀ (f : Nat) (x4 : Int) (x5 : Int) (x6 : Int) (h : Hp) (r : Int × Hp), it_ (fun s => fX5_decades_l40 x2 x3 s.1 s.2.1 s.2.2.1 s.2.2.2) f (x4, x5, x6, h) = some r → (∀ (y5 : Int) (h9 : Hp), r = (y5, h9) → AW G X 133 [(2, ((0 : Nat) : Int)), (9, 0), (9, 0), (0, x3), (9, 0), (0, y5), (9, 0), (9, 0)] [] n h9 0 0) → AW G X 40 [(2, ((0 : Nat) : Int)), (9, 0), (0, x2), (0, x3), (0, x4), (0, x5), (0, x6), (9, 0)] [] n h 0 0 := by
  intro f
  induction f with
  | zero => intro x4 x5 x6 h r hI; cases hI
  | succ f ih0 =>
    intro x4 x5 x6 h r hI hX
    obtain ⟨b, hF, hb1, hb2⟩ := it_succ hI
    have hF : fX5_decades_l40 x2 x3 x4 x5 x6 h = some b := hF
    unfold fX5_decades_l40 at hF
    refine aw_iload hC dX5_decades_40 rfl ?_
    refine aw_iload_n hC dX5_decades_42 rfl ?_
    refine aw_icmp_ge (tgt := 133) hC dX5_decades_43 (by decide) (fun c10 => ?_) (fun c10 => ?_)
    · have hF := it_t hF c10
      refine aw_weak (ls' := [(2, ((0 : Nat) : Int)), (9, 0), (9, 0), (0, x3), (9, 0), (0, x5), (9, 0), (9, 0)]) ⟨Or.inr rfl, Or.inl rfl, Or.inl rfl, Or.inr rfl, Or.inl rfl, Or.inr rfl, Or.inl rfl, Or.inl rfl, trivial⟩ ?_
      exact hX _ _ (hb2 _ (Option.some.inj hF).symm).symm
    · have hF := it_f hF c10
      refine aw_iload hC dX5_decades_46 rfl ?_
      obtain ⟨r11, q12, hF⟩ := bp_some hF
      refine clRX5_332 hC hRm hbt dX5_decades_48 (Nat.le_of_ble_eq_true rfl) (Nat.le_of_ble_eq_true rfl) (ok_X5_nextSeed q12) ?_
      refine aw_istore4 hC dX5_decades_51 rfl ?_
      refine aw_aload_n hC dX5_decades_53 rfl ?_
      refine aw_gc5 (k := 3) (a := 0) (b := 20) hC hbt dX5_decades_54 lkRX5_37 (by decide) rfl rfl rfl (by decide) (by decide) ?_
      refine aw_gc3N (k := 1) (a := 20) (b := 21) hC hbt dX5_decades_57 lkRX5_210 (by decide) rfl rfl rfl (by decide) (by decide) ?_
      refine aw_iload hC dX5_decades_60 rfl ?_
      refine aw_aload_n hC dX5_decades_62 rfl ?_
      refine aw_g5r (k := 0) (a := 0) hC dX5_decades_63 lkRX5_10 (by decide) rfl rfl rfl (Or.inl ⟨hbt, by decide⟩) ?_
      obtain ⟨k13, hF⟩ := gd_some hF
      obtain ⟨r14, q15, hF⟩ := bp_some hF
      refine clRX5_323 hC hRm hbt dX5_decades_66 (lnd k13).1 (lnd k13).2.1 (lnd k13).2.2.1 (Nat.le_of_ble_eq_true rfl) (Nat.le_of_ble_eq_true rfl) (ok_X1_cells q15) ?_
      obtain ⟨r16, q17, hF⟩ := bp_some hF
      refine clRX5_335 hC hRm hbt dX5_decades_69 (Nat.le_of_ble_eq_true rfl) (Nat.le_of_ble_eq_true rfl) (ok_X5_draw q17) ?_
      obtain ⟨r18, q19, hF⟩ := bp_some hF
      refine clRX5_160 hC hRm hbt dX5_decades_72 (Nat.le_of_ble_eq_true rfl) (Nat.le_of_ble_eq_true rfl) (ok_X5_treeIn_21 q19) ?_
      refine aw_istore7 hC dX5_decades_75 rfl ?_
      refine aw_iload hC dX5_decades_77 rfl ?_
      refine aw_iconst hC dX5_decades_79 (by decide) ?_
      refine aw_icmp_eq (tgt := 92) hC dX5_decades_80 (by decide) (fun c20 => ?_) (fun c20 => ?_)
      · have hF := it_t hF c20
        refine aw_weak (ls' := [(2, ((0 : Nat) : Int)), (9, 0), (0, x2), (0, x3), (0, r11), (0, x5), (0, x6), (9, 0)]) ⟨Or.inr rfl, Or.inl rfl, Or.inr rfl, Or.inr rfl, Or.inr rfl, Or.inr rfl, Or.inr rfl, Or.inl rfl, trivial⟩ ?_
        exact fX5_decades_j92_ok hC hZ hRm hbt hr hF (fun u0 u1 u2 u3 e => ih0 u0 u1 u2 u3 r (hb1 _ e) hX) (fun w0 w1 e => hX w0 w1 (hb2 _ e).symm)
      · have hF := it_f hF c20
        refine aw_aload_n hC dX5_decades_83 rfl ?_
        refine aw_gc5 (k := 3) (a := 0) (b := 20) hC hbt dX5_decades_84 lkRX5_37 (by decide) rfl rfl rfl (by decide) (by decide) ?_
        refine aw_iload hC dX5_decades_87 rfl ?_
        obtain ⟨r31, h33, q32, hF⟩ := bd_some hF
        refine clRX5_272 hC hRm hbt dX5_decades_89 rfl rfl (by decide) (Nat.le_of_ble_eq_true rfl) (Nat.le_of_ble_eq_true rfl) (ok_X3_dropTree q32) ?_
        refine aw_weak (ls' := [(2, ((0 : Nat) : Int)), (9, 0), (0, x2), (0, x3), (0, r11), (0, x5), (0, x6), (9, 0)]) ⟨Or.inr rfl, Or.inl rfl, Or.inr rfl, Or.inr rfl, Or.inr rfl, Or.inr rfl, Or.inr rfl, Or.inl rfl, trivial⟩ ?_
        exact fX5_decades_j92_ok hC hZ hRm hbt hr hF (fun u0 u1 u2 u3 e => ih0 u0 u1 u2 u3 r (hb1 _ e) hX) (fun w0 w1 e => hX w0 w1 (hb2 _ e).symm)
theorem fX5_decades_j26_ok {G : GD} {X : CX} {n : Nat} {Q : Av → Nat → Hp → Prop} (hC : Cx G X RX5 cX5_decades) (hZ : ZOK X G Q 0 0) (hRm : X.R = rmd 7 0 0) (hbt : X.bt = true) (hr : X.meth.sig.returnType = (some .int)) {x1 : Int} {x2 : Int} {x3 : Int} {h : Hp} {res : Int × Hp} (hF : fX5_decades_j26 x1 x2 x3 h = some res) (hK : ∀ (x9 : Int) (h9 : Hp), res = (x9, h9) → Q (0, x9) n h9) : AW G X 26 [(2, ((0 : Nat) : Int)), (0, x1), (0, x2), (0, x3), (9, 0), (9, 0), (9, 0), (9, 0)] [] n h 0 0 := by
  unfold fX5_decades_j26 at hF
  refine aw_aload_n hC dX5_decades_26 rfl ?_
  obtain ⟨r6, h8, q7, hF⟩ := bd_some hF
  refine clRX5_126 hC hRm hbt dX5_decades_27 rfl rfl (by decide) (Nat.le_of_ble_eq_true rfl) (Nat.le_of_ble_eq_true rfl) (ok_X5_present q7) ?_
  obtain ⟨g9, hF⟩ := gd_some hF
  refine aw_eqT g9.symm ?_
  refine aw_pop hC dX5_decades_30 (by simp) ?_
  refine aw_iload_n hC dX5_decades_31 rfl ?_
  refine aw_istore4 hC dX5_decades_32 rfl ?_
  refine aw_iconst hC dX5_decades_34 (by decide) ?_
  refine aw_istore5 hC dX5_decades_35 rfl ?_
  refine aw_iconst hC dX5_decades_37 (by decide) ?_
  refine aw_istore6 hC dX5_decades_38 rfl ?_
  refine aw_weak (ls' := [(2, ((0 : Nat) : Int)), (9, 0), (0, x2), (0, x3), (0, x1), (0, 0), (0, 0), (9, 0)]) ⟨Or.inr rfl, Or.inl rfl, Or.inr rfl, Or.inr rfl, Or.inr rfl, Or.inr rfl, Or.inr rfl, Or.inl rfl, trivial⟩ ?_
  obtain ⟨e34, he, hF⟩ := bp_some hF
  refine fX5_decades_l40_ok hC hZ hRm hbt hr FU _ _ _ _ e34 he (fun y35 h36 er => ?_)
  replace er := er.symm
  subst er
  try dsimp only at hF
  refine aw_iload_n hC dX5_decades_133 rfl ?_
  refine aw_if_ne (tgt := 140) hC dX5_decades_134 (by decide) (fun c37 => ?_) (fun c37 => ?_)
  · have hF := it_f hF c37
    refine aw_iload_n hC dX5_decades_140 rfl ?_
    refine aw_iconst hC dX5_decades_141 (by decide) ?_
    refine aw_icmp_ne (tgt := 158) hC dX5_decades_142 (by decide) (fun c38 => ?_) (fun c38 => ?_)
    · have hF := it_f hF c38
      refine aw_aload_n hC dX5_decades_158 rfl ?_
      refine aw_gc5 (k := 3) (a := 0) (b := 20) hC hbt dX5_decades_159 lkRX5_37 (by decide) rfl rfl rfl (by decide) (by decide) ?_
      obtain ⟨r39, q40, hF⟩ := bp_some hF
      refine clRX5_327 hC hRm hbt dX5_decades_162 rfl rfl (by decide) (Nat.le_of_ble_eq_true rfl) (Nat.le_of_ble_eq_true rfl) (ok_X3_leastPurse q40) ?_
      exact aw_ireturn hC hZ (Nat.zero_le _) (Nat.zero_le _) hr dX5_decades_165 (hK _ _ (Option.some.inj hF).symm)
    · have hF := it_t hF c38
      refine aw_aload_n hC dX5_decades_145 rfl ?_
      refine aw_gc5 (k := 3) (a := 0) (b := 20) hC hbt dX5_decades_146 lkRX5_37 (by decide) rfl rfl rfl (by decide) (by decide) ?_
      refine aw_gc3N (k := 1) (a := 20) (b := 21) hC hbt dX5_decades_149 lkRX5_210 (by decide) rfl rfl rfl (by decide) (by decide) ?_
      obtain ⟨r41, q42, hF⟩ := bp_some hF
      refine clRX5_112 hC hRm hbt dX5_decades_152 (Nat.le_of_ble_eq_true rfl) (Nat.le_of_ble_eq_true rfl) (ok_X5_treesStanding_21 q42) ?_
      refine aw_goto (tgt := 165) hC dX5_decades_155 (by decide) ?_
      exact aw_ireturn hC hZ (Nat.zero_le _) (Nat.zero_le _) hr dX5_decades_165 (hK _ _ (Option.some.inj hF).symm)
  · have hF := it_t hF c37
    refine aw_iload hC dX5_decades_137 rfl ?_
    exact aw_ireturn hC hZ (Nat.zero_le _) (Nat.zero_le _) hr dX5_decades_139 (hK _ _ (Option.some.inj hF).symm)
theorem ok_X5_decades_n {G : GD} {n : Nat} {x1 : Int} {x2 : Int} {x3 : Int} {h : Hp} {res : Int × Hp} (hF : fX5_decades x1 x2 x3 h = some (.inl res)) : Con G yX5_decades cX5_decades 8 (some .int) 7 0 0 true [(2, ((0 : Nat) : Int)), (0, x1), (0, x2), (0, x3)] n h (FQ 0 n res) := by
  refine con_of (pad := 4) (own := RX5) (plainFor_of_name (by decide)) rfl rfl ?_
  intro X hC hbt hr hnm hZ hRm hn0
  have hK : ∀ (x9 : Int) (h9 : Hp), res = (x9, h9) → FQ 0 n res (0, x9) n h9 := fun x9 h9 e => by subst e; exact ⟨rfl, rfl, rfl⟩
  unfold fX5_decades at hF
  show AW G X 0 [(2, ((0 : Nat) : Int)), (0, x1), (0, x2), (0, x3), (9, 0), (9, 0), (9, 0), (9, 0)] [] n h 0 0
  refine aw_iload_n hC dX5_decades_0 rfl ?_
  refine aw_iconst hC dX5_decades_1 (by decide) ?_
  obtain ⟨r1, h3, q2, hF⟩ := bx_n hF
  refine clRX5_280 hC hRm hbt dX5_decades_2 (Nat.le_of_ble_eq_true rfl) (Nat.le_of_ble_eq_true rfl) (ok_X5_needWhat_n q2) ?_
  refine aw_iload_n hC dX5_decades_5 rfl ?_
  refine aw_if_lt (tgt := 15) hC dX5_decades_6 (by decide) (fun c4 => ?_) (fun c4 => ?_)
  · have hF := it_t hF c4
    cases hF
  · have hF := it_f hF c4
    refine aw_iload_n hC dX5_decades_9 rfl ?_
    refine aw_bipush hC dX5_decades_10 (by decide) (by decide) ?_
    refine aw_icmp_le (tgt := 26) hC dX5_decades_12 (by decide) (fun c5 => ?_) (fun c5 => ?_)
    · have hF := it_t hF c5
      have hF := mi_n hF
      exact fX5_decades_j26_ok hC hZ hRm hbt hr hF hK
    · have hF := it_f hF c5
      cases hF
theorem ok_X5_decades_x {G : GD} {n : Nat} {x1 : Int} {x2 : Int} {x3 : Int} {h : Hp} {e : Nat} {h1 : Hp} (hF : fX5_decades x1 x2 x3 h = some (.inr (e, h1))) : ConT G yX5_decades cX5_decades 8 (some .int) 7 true [(2, ((0 : Nat) : Int)), (0, x1), (0, x2), (0, x3)] n h e h1 := by
  refine conT_of (pad := 4) (own := RX5) (by decide) rfl rfl ?_
  intro X hC hbt hst htab hZ hRm hn0
  unfold fX5_decades at hF
  show AW G X 0 [(2, ((0 : Nat) : Int)), (0, x1), (0, x2), (0, x3), (9, 0), (9, 0), (9, 0), (9, 0)] [] n h 0 0
  refine aw_iload_n hC dX5_decades_0 rfl ?_
  refine aw_iconst hC dX5_decades_1 (by decide) ?_
  rcases bx_x hF with ⟨r1, h3, q2, hF⟩ | q2
  rotate_left
  · exact clTRX5_280 hC hRm hbt hn0 hZ hst htab dX5_decades_2 (Nat.le_of_ble_eq_true rfl) (Nat.le_of_ble_eq_true rfl) (ok_X5_needWhat_x q2)
  refine clRX5_280 hC hRm hbt dX5_decades_2 (Nat.le_of_ble_eq_true rfl) (Nat.le_of_ble_eq_true rfl) (ok_X5_needWhat_n q2) ?_
  refine aw_iload_n hC dX5_decades_5 rfl ?_
  refine aw_if_lt (tgt := 15) hC dX5_decades_6 (by decide) (fun c4 => ?_) (fun c4 => ?_)
  · have hF := it_t hF c4
    cases hF
    exact aw_throw1W (is := 330) (no := 39) (text := "no such number of years") hC hRm (Nat.le_of_ble_eq_true rfl) hn0 hZ hst htab (List.mem_of_getElem? (i := 29) rfl) dX5_decades_15 dX5_decades_18 dX5_decades_19 dX5_decades_22 dX5_decades_25 (Nat.le_of_ble_eq_true rfl)
  · have hF := it_f hF c4
    refine aw_iload_n hC dX5_decades_9 rfl ?_
    refine aw_bipush hC dX5_decades_10 (by decide) (by decide) ?_
    refine aw_icmp_le (tgt := 26) hC dX5_decades_12 (by decide) (fun c5 => ?_) (fun c5 => ?_)
    · have hF := it_t hF c5
      exact (mi_x hF).elim
    · have hF := it_f hF c5
      cases hF
      exact aw_throw1W (is := 330) (no := 39) (text := "no such number of years") hC hRm (Nat.le_of_ble_eq_true rfl) hn0 hZ hst htab (List.mem_of_getElem? (i := 29) rfl) dX5_decades_15 dX5_decades_18 dX5_decades_19 dX5_decades_22 dX5_decades_25 (Nat.le_of_ble_eq_true rfl)
def fX5_hollow_l22 (x1 : Int) (x2 : Int) (x4 : Int) (x5 : Int) (x6 : Int) (h : Hp) : Option ((Int × Int × Int × Hp) ⊕ (Int × Int × Hp)) :=
  gd_ ((h 0 0) = 1 ∨ (h 0 0) = 9) (bp_ (fX1_cells ((h 0 0)) h) (fun r11 => (if r11 ≤ x6 then some (.inr (x4, x5, h)) else bp_ (fX5_hasBit x2 x6 h) (fun r14 => (if r14 = 0 then some (.inl (x4, x5, (i_add x6 1), h)) else bd_ (fX3_taxOfVilla x6 h) (fun r18 h20 => (if x4 = (-1) then some (.inl (x6, r18, (i_add x6 1), h20)) else (if x5 ≤ r18 then some (.inl (x4, x5, (i_add x6 1), h20)) else some (.inl (x6, r18, (i_add x6 1), h20))))))))))
def fX5_hollow_j5 (x1 : Int) (h : Hp) : Option (Int × Hp) :=
  bd_ (fX5_present h) (fun r4 h6 => gd_ (r4 = ((20 : Nat) : Int)) (bp_ (fX3_freeCells h6) (fun r8 => bp_ (it_ (fun s => fX5_hollow_l22 x1 r8 s.1 s.2.1 s.2.2.1 s.2.2.2) FU ((-1), (-1), 0, h6)) (fun e26 => (fun y27 y28 h29 => (if x1 = 0 then some (y27, h29) else some (y28, h29))) e26.1 e26.2.1 e26.2.2))))
def fX5_hollow (x1 : Int) (h : Hp) : Option RX :=
  bx_ (fX5_needWhat x1 1 h) (fun r1 h3 => mi_ (fX5_hollow_j5 x1 h3))
theorem fX5_hollow_l22_ok {G : GD} {X : CX} {n : Nat} {Q : Av → Nat → Hp → Prop} (hC : Cx G X RX5 cX5_hollow) (hZ : ZOK X G Q 0 0) (hRm : X.R = rmd 7 0 0) (hbt : X.bt = true) (hr : X.meth.sig.returnType = (some .int)) {x1 : Int} {x2 : Int} : ∀ (f : Nat) (x4 : Int) (x5 : Int) (x6 : Int) (h : Hp) (r : Int × Int × Hp), it_ (fun s => fX5_hollow_l22 x1 x2 s.1 s.2.1 s.2.2.1 s.2.2.2) f (x4, x5, x6, h) = some r → (∀ (y4 : Int) (y5 : Int) (h9 : Hp), r = (y4, y5, h9) → AW G X 81 [(9, 0), (0, x1), (9, 0), (9, 0), (0, y4), (0, y5), (9, 0), (9, 0)] [] n h9 0 0) → AW G X 22 [(2, ((0 : Nat) : Int)), (0, x1), (1, x2), (9, 0), (0, x4), (0, x5), (0, x6), (9, 0)] [] n h 0 0 := by
  intro f
  induction f with
  | zero => intro x4 x5 x6 h r hI; cases hI
  | succ f ih0 =>
    intro x4 x5 x6 h r hI hX
    obtain ⟨b, hF, hb1, hb2⟩ := it_succ hI
    have hF : fX5_hollow_l22 x1 x2 x4 x5 x6 h = some b := hF
    unfold fX5_hollow_l22 at hF
    refine aw_iload hC dX5_hollow_22 rfl ?_
    refine aw_aload_n hC dX5_hollow_24 rfl ?_
    refine aw_g5r (k := 0) (a := 0) hC dX5_hollow_25 lkRX5_10 (by decide) rfl rfl rfl (Or.inl ⟨hbt, by decide⟩) ?_
    obtain ⟨k10, hF⟩ := gd_some hF
    obtain ⟨r11, q12, hF⟩ := bp_some hF
    refine clRX5_323 hC hRm hbt dX5_hollow_28 (lnd k10).1 (lnd k10).2.1 (lnd k10).2.2.1 (Nat.le_of_ble_eq_true rfl) (Nat.le_of_ble_eq_true rfl) (ok_X1_cells q12) ?_
    refine aw_icmp_ge (tgt := 81) hC dX5_hollow_31 (by decide) (fun c13 => ?_) (fun c13 => ?_)
    · have hF := it_t hF c13
      refine aw_weak (ls' := [(9, 0), (0, x1), (9, 0), (9, 0), (0, x4), (0, x5), (9, 0), (9, 0)]) ⟨Or.inl rfl, Or.inr rfl, Or.inl rfl, Or.inl rfl, Or.inr rfl, Or.inr rfl, Or.inl rfl, Or.inl rfl, trivial⟩ ?_
      exact hX _ _ _ (hb2 _ (Option.some.inj hF).symm).symm
    · have hF := it_f hF c13
      refine aw_lload_n hC dX5_hollow_34 rfl ?_
      refine aw_iload hC dX5_hollow_35 rfl ?_
      obtain ⟨r14, q15, hF⟩ := bp_some hF
      refine clRX5_224 hC hRm hbt dX5_hollow_37 (Nat.le_of_ble_eq_true rfl) (Nat.le_of_ble_eq_true rfl) (ok_X5_hasBit q15) ?_
      refine aw_if_eq (tgt := 75) hC dX5_hollow_40 (by decide) (fun c16 => ?_) (fun c16 => ?_)
      · have hF := it_t hF c16
        refine aw_iinc6 hC dX5_hollow_75 rfl ?_
        refine aw_goto (tgt := 22) hC dX5_hollow_78 (by decide) ?_
        exact ih0 _ _ _ _ r (hb1 _ (Option.some.inj hF).symm) hX
      · have hF := it_f hF c16
        refine aw_aload_n hC dX5_hollow_43 rfl ?_
        refine aw_gc5 (k := 3) (a := 0) (b := 20) hC hbt dX5_hollow_44 lkRX5_37 (by decide) rfl rfl rfl (by decide) (by decide) ?_
        refine aw_iload hC dX5_hollow_47 rfl ?_
        obtain ⟨r18, h20, q19, hF⟩ := bd_some hF
        refine clRX5_342 hC hRm hbt dX5_hollow_49 rfl rfl (by decide) (Nat.le_of_ble_eq_true rfl) (Nat.le_of_ble_eq_true rfl) (ok_X3_taxOfVilla q19) ?_
        refine aw_istore7 hC dX5_hollow_52 rfl ?_
        refine aw_iload hC dX5_hollow_54 rfl ?_
        refine aw_iconst hC dX5_hollow_56 (by decide) ?_
        refine aw_icmp_eq (tgt := 67) hC dX5_hollow_57 (by decide) (fun c21 => ?_) (fun c21 => ?_)
        · have hF := it_t hF c21
          refine aw_iload hC dX5_hollow_67 rfl ?_
          refine aw_istore4 hC dX5_hollow_69 rfl ?_
          refine aw_iload hC dX5_hollow_71 rfl ?_
          refine aw_istore5 hC dX5_hollow_73 rfl ?_
          refine aw_iinc6 hC dX5_hollow_75 rfl ?_
          refine aw_goto (tgt := 22) hC dX5_hollow_78 (by decide) ?_
          refine aw_weak (ls' := [(2, ((0 : Nat) : Int)), (0, x1), (1, x2), (9, 0), (0, x6), (0, r18), (0, (i_add x6 1)), (9, 0)]) ⟨Or.inr rfl, Or.inr rfl, Or.inr rfl, Or.inl rfl, Or.inr rfl, Or.inr rfl, Or.inr rfl, Or.inl rfl, trivial⟩ ?_
          exact ih0 _ _ _ _ r (hb1 _ (Option.some.inj hF).symm) hX
        · have hF := it_f hF c21
          refine aw_iload hC dX5_hollow_60 rfl ?_
          refine aw_iload hC dX5_hollow_62 rfl ?_
          refine aw_icmp_ge (tgt := 75) hC dX5_hollow_64 (by decide) (fun c23 => ?_) (fun c23 => ?_)
          · have hF := it_t hF c23
            refine aw_iinc6 hC dX5_hollow_75 rfl ?_
            refine aw_goto (tgt := 22) hC dX5_hollow_78 (by decide) ?_
            refine aw_weak (ls' := [(2, ((0 : Nat) : Int)), (0, x1), (1, x2), (9, 0), (0, x4), (0, x5), (0, (i_add x6 1)), (9, 0)]) ⟨Or.inr rfl, Or.inr rfl, Or.inr rfl, Or.inl rfl, Or.inr rfl, Or.inr rfl, Or.inr rfl, Or.inl rfl, trivial⟩ ?_
            exact ih0 _ _ _ _ r (hb1 _ (Option.some.inj hF).symm) hX
          · have hF := it_f hF c23
            refine aw_iload hC dX5_hollow_67 rfl ?_
            refine aw_istore4 hC dX5_hollow_69 rfl ?_
            refine aw_iload hC dX5_hollow_71 rfl ?_
            refine aw_istore5 hC dX5_hollow_73 rfl ?_
            refine aw_iinc6 hC dX5_hollow_75 rfl ?_
            refine aw_goto (tgt := 22) hC dX5_hollow_78 (by decide) ?_
            refine aw_weak (ls' := [(2, ((0 : Nat) : Int)), (0, x1), (1, x2), (9, 0), (0, x6), (0, r18), (0, (i_add x6 1)), (9, 0)]) ⟨Or.inr rfl, Or.inr rfl, Or.inr rfl, Or.inl rfl, Or.inr rfl, Or.inr rfl, Or.inr rfl, Or.inl rfl, trivial⟩ ?_
            exact ih0 _ _ _ _ r (hb1 _ (Option.some.inj hF).symm) hX
theorem fX5_hollow_j5_ok {G : GD} {X : CX} {n : Nat} {Q : Av → Nat → Hp → Prop} (hC : Cx G X RX5 cX5_hollow) (hZ : ZOK X G Q 0 0) (hRm : X.R = rmd 7 0 0) (hbt : X.bt = true) (hr : X.meth.sig.returnType = (some .int)) {x1 : Int} {h : Hp} {res : Int × Hp} (hF : fX5_hollow_j5 x1 h = some res) (hK : ∀ (x9 : Int) (h9 : Hp), res = (x9, h9) → Q (0, x9) n h9) : AW G X 5 [(2, ((0 : Nat) : Int)), (0, x1), (9, 0), (9, 0), (9, 0), (9, 0), (9, 0), (9, 0)] [] n h 0 0 := by
  unfold fX5_hollow_j5 at hF
  refine aw_aload_n hC dX5_hollow_5 rfl ?_
  obtain ⟨r4, h6, q5, hF⟩ := bd_some hF
  refine clRX5_126 hC hRm hbt dX5_hollow_6 rfl rfl (by decide) (Nat.le_of_ble_eq_true rfl) (Nat.le_of_ble_eq_true rfl) (ok_X5_present q5) ?_
  obtain ⟨g7, hF⟩ := gd_some hF
  refine aw_eqT g7.symm ?_
  obtain ⟨r8, q9, hF⟩ := bp_some hF
  refine clRX5_252 hC hRm hbt dX5_hollow_9 rfl rfl (by decide) (Nat.le_of_ble_eq_true rfl) (Nat.le_of_ble_eq_true rfl) (ok_X3_freeCells q9) ?_
  refine aw_lstore2 hC dX5_hollow_12 rfl ?_
  refine aw_iconst hC dX5_hollow_13 (by decide) ?_
  refine aw_istore4 hC dX5_hollow_14 rfl ?_
  refine aw_iconst hC dX5_hollow_16 (by decide) ?_
  refine aw_istore5 hC dX5_hollow_17 rfl ?_
  refine aw_iconst hC dX5_hollow_19 (by decide) ?_
  refine aw_istore6 hC dX5_hollow_20 rfl ?_
  obtain ⟨e26, he, hF⟩ := bp_some hF
  refine fX5_hollow_l22_ok hC hZ hRm hbt hr FU _ _ _ _ e26 he (fun y27 y28 h29 er => ?_)
  replace er := er.symm
  subst er
  try dsimp only at hF
  refine aw_iload_n hC dX5_hollow_81 rfl ?_
  refine aw_if_ne (tgt := 90) hC dX5_hollow_82 (by decide) (fun c30 => ?_) (fun c30 => ?_)
  · have hF := it_f hF c30
    refine aw_iload hC dX5_hollow_90 rfl ?_
    exact aw_ireturn hC hZ (Nat.zero_le _) (Nat.zero_le _) hr dX5_hollow_92 (hK _ _ (Option.some.inj hF).symm)
  · have hF := it_t hF c30
    refine aw_iload hC dX5_hollow_85 rfl ?_
    refine aw_goto (tgt := 92) hC dX5_hollow_87 (by decide) ?_
    exact aw_ireturn hC hZ (Nat.zero_le _) (Nat.zero_le _) hr dX5_hollow_92 (hK _ _ (Option.some.inj hF).symm)
theorem ok_X5_hollow_n {G : GD} {n : Nat} {x1 : Int} {h : Hp} {res : Int × Hp} (hF : fX5_hollow x1 h = some (.inl res)) : Con G yX5_hollow cX5_hollow 8 (some .int) 7 0 0 true [(2, ((0 : Nat) : Int)), (0, x1)] n h (FQ 0 n res) := by
  refine con_of (pad := 6) (own := RX5) (plainFor_of_name (by decide)) rfl rfl ?_
  intro X hC hbt hr hnm hZ hRm hn0
  have hK : ∀ (x9 : Int) (h9 : Hp), res = (x9, h9) → FQ 0 n res (0, x9) n h9 := fun x9 h9 e => by subst e; exact ⟨rfl, rfl, rfl⟩
  unfold fX5_hollow at hF
  show AW G X 0 [(2, ((0 : Nat) : Int)), (0, x1), (9, 0), (9, 0), (9, 0), (9, 0), (9, 0), (9, 0)] [] n h 0 0
  refine aw_iload_n hC dX5_hollow_0 rfl ?_
  refine aw_iconst hC dX5_hollow_1 (by decide) ?_
  obtain ⟨r1, h3, q2, hF⟩ := bx_n hF
  refine clRX5_280 hC hRm hbt dX5_hollow_2 (Nat.le_of_ble_eq_true rfl) (Nat.le_of_ble_eq_true rfl) (ok_X5_needWhat_n q2) ?_
  have hF := mi_n hF
  exact fX5_hollow_j5_ok hC hZ hRm hbt hr hF hK
theorem ok_X5_hollow_x {G : GD} {n : Nat} {x1 : Int} {h : Hp} {e : Nat} {h1 : Hp} (hF : fX5_hollow x1 h = some (.inr (e, h1))) : ConT G yX5_hollow cX5_hollow 8 (some .int) 7 true [(2, ((0 : Nat) : Int)), (0, x1)] n h e h1 := by
  refine conT_of (pad := 6) (own := RX5) (by decide) rfl rfl ?_
  intro X hC hbt hst htab hZ hRm hn0
  unfold fX5_hollow at hF
  show AW G X 0 [(2, ((0 : Nat) : Int)), (0, x1), (9, 0), (9, 0), (9, 0), (9, 0), (9, 0), (9, 0)] [] n h 0 0
  refine aw_iload_n hC dX5_hollow_0 rfl ?_
  refine aw_iconst hC dX5_hollow_1 (by decide) ?_
  rcases bx_x hF with ⟨r1, h3, q2, hF⟩ | q2
  rotate_left
  · exact clTRX5_280 hC hRm hbt hn0 hZ hst htab dX5_hollow_2 (Nat.le_of_ble_eq_true rfl) (Nat.le_of_ble_eq_true rfl) (ok_X5_needWhat_x q2)
  refine clRX5_280 hC hRm hbt dX5_hollow_2 (Nat.le_of_ble_eq_true rfl) (Nat.le_of_ble_eq_true rfl) (ok_X5_needWhat_n q2) ?_
  exact (mi_x hF).elim
def fX5_sale_l33 (x1 : Int) (x3 : Int) (x2 : Int) (x4 : Int) (x5 : Int) (h : Hp) : Option ((Int × Int × Int × Hp) ⊕ (Int × Hp)) :=
  (if 8 ≤ x5 then some (.inr (x4, h)) else bp_ (fX5_hasBit x3 x5 h) (fun r14 => (if r14 = 0 then gd_ (0 ≤ (i_add 54 x1) ∧ (i_add 54 x1) < 62) (lb_ (st h 21 (Int.toNat ((i_add 54 x1))) ((i_or x3 ((i_shl 1 x5))))) (fun h19 => bd_ (fX3_taxOf x1 h19) (fun r20 h22 => (if x2 ≤ r20 then some (.inl (x2, x4, (i_add x5 1), h22)) else some (.inl (r20, x5, (i_add x5 1), h22)))))) else some (.inl (x2, x4, (i_add x5 1), h)))))
def fX5_sale_j5 (x1 : Int) (h : Hp) : Option (Int × Hp) :=
  bd_ (fX5_present h) (fun r4 h6 => gd_ (r4 = ((20 : Nat) : Int)) (bd_ (fX3_taxOf x1 h6) (fun r8 h10 => gd_ (0 ≤ (i_add 54 x1) ∧ (i_add 54 x1) < 62) (lb_ ((h10 27 (Int.toNat ((i_add 54 x1))))) (fun v12 => bp_ (it_ (fun s => fX5_sale_l33 x1 v12 s.1 s.2.1 s.2.2.1 s.2.2.2) FU (r8, (-1), 0, h10)) (fun e26 => (fun y27 h28 => some (y27, h28)) e26.1 e26.2))))))
def fX5_sale (x1 : Int) (h : Hp) : Option RX :=
  bx_ (fX5_needHouse x1 h) (fun r1 h3 => mi_ (fX5_sale_j5 x1 h3))
theorem fX5_sale_l33_ok {G : GD} {X : CX} {n : Nat} {Q : Av → Nat → Hp → Prop} (hC : Cx G X RX5 cX5_sale) (hZ : ZOK X G Q 0 0) (hRm : X.R = rmd 7 0 0) (hbt : X.bt = true) (hr : X.meth.sig.returnType = (some .int)) {x1 : Int} {x3 : Int} : ∀ (f : Nat) (x2 : Int) (x4 : Int) (x5 : Int) (h : Hp) (r : Int × Hp), it_ (fun s => fX5_sale_l33 x1 x3 s.1 s.2.1 s.2.2.1 s.2.2.2) f (x2, x4, x5, h) = some r → (∀ (y4 : Int) (h9 : Hp), r = (y4, h9) → AW G X 97 [(9, 0), (9, 0), (9, 0), (9, 0), (0, y4), (9, 0), (9, 0)] [] n h9 0 0) → AW G X 33 [(2, ((0 : Nat) : Int)), (0, x1), (0, x2), (0, x3), (0, x4), (0, x5), (9, 0)] [] n h 0 0 := by
  intro f
  induction f with
  | zero => intro x2 x4 x5 h r hI; cases hI
  | succ f ih0 =>
    intro x2 x4 x5 h r hI hX
    obtain ⟨b, hF, hb1, hb2⟩ := it_succ hI
    have hF : fX5_sale_l33 x1 x3 x2 x4 x5 h = some b := hF
    unfold fX5_sale_l33 at hF
    refine aw_iload hC dX5_sale_33 rfl ?_
    refine aw_bipush hC dX5_sale_35 (by decide) (by decide) ?_
    refine aw_icmp_ge (tgt := 97) hC dX5_sale_37 (by decide) (fun c13 => ?_) (fun c13 => ?_)
    · have hF := it_t hF c13
      refine aw_weak (ls' := [(9, 0), (9, 0), (9, 0), (9, 0), (0, x4), (9, 0), (9, 0)]) ⟨Or.inl rfl, Or.inl rfl, Or.inl rfl, Or.inl rfl, Or.inr rfl, Or.inl rfl, Or.inl rfl, trivial⟩ ?_
      exact hX _ _ (hb2 _ (Option.some.inj hF).symm).symm
    · have hF := it_f hF c13
      refine aw_iload_n hC dX5_sale_40 rfl ?_
      refine aw_i2l hC dX5_sale_41 ?_
      refine aw_iload hC dX5_sale_42 rfl ?_
      obtain ⟨r14, q15, hF⟩ := bp_some hF
      refine clRX5_224 hC hRm hbt dX5_sale_44 (Nat.le_of_ble_eq_true rfl) (Nat.le_of_ble_eq_true rfl) (ok_X5_hasBit q15) ?_
      refine aw_if_ne (tgt := 91) hC dX5_sale_47 (by decide) (fun c16 => ?_) (fun c16 => ?_)
      · have hF := it_f hF c16
        refine aw_iinc5 hC dX5_sale_91 rfl ?_
        refine aw_goto (tgt := 33) hC dX5_sale_94 (by decide) ?_
        exact ih0 _ _ _ _ r (hb1 _ (Option.some.inj hF).symm) hX
      · have hF := it_t hF c16
        refine aw_aload_n hC dX5_sale_50 rfl ?_
        refine aw_gc5 (k := 3) (a := 0) (b := 20) hC hbt dX5_sale_51 lkRX5_37 (by decide) rfl rfl rfl (by decide) (by decide) ?_
        refine aw_gc3N (k := 1) (a := 20) (b := 21) hC hbt dX5_sale_54 lkRX5_210 (by decide) rfl rfl rfl (by decide) (by decide) ?_
        refine aw_bipush hC dX5_sale_57 (by decide) (by decide) ?_
        refine aw_iload_n hC dX5_sale_59 rfl ?_
        refine aw_iadd hC dX5_sale_60 ?_
        refine aw_iload_n hC dX5_sale_61 rfl ?_
        refine aw_iconst hC dX5_sale_62 (by decide) ?_
        refine aw_iload hC dX5_sale_63 rfl ?_
        refine aw_ishl hC dX5_sale_65 ?_
        refine aw_ior hC dX5_sale_66 ?_
        obtain ⟨g18, hF⟩ := gd_some hF
        obtain ⟨h19, eh19, hF⟩ := lb_some hF
        refine aw_iastore (a := 21) hC dX5_sale_67 rfl rfl (Or.inl ⟨hbt, by decide⟩) g18.1 g18.2 ?_
        refine aw_eqH eh19 ?_
        clear eh19
        refine aw_aload_n hC dX5_sale_68 rfl ?_
        refine aw_gc5 (k := 3) (a := 0) (b := 20) hC hbt dX5_sale_69 lkRX5_37 (by decide) rfl rfl rfl (by decide) (by decide) ?_
        refine aw_iload_n hC dX5_sale_72 rfl ?_
        obtain ⟨r20, h22, q21, hF⟩ := bd_some hF
        refine clRX5_185 hC hRm hbt dX5_sale_73 rfl rfl (by decide) (Nat.le_of_ble_eq_true rfl) (Nat.le_of_ble_eq_true rfl) (ok_X3_taxOf q21) ?_
        refine aw_istore6 hC dX5_sale_76 rfl ?_
        refine aw_iload hC dX5_sale_78 rfl ?_
        refine aw_iload_n hC dX5_sale_80 rfl ?_
        refine aw_icmp_ge (tgt := 91) hC dX5_sale_81 (by decide) (fun c23 => ?_) (fun c23 => ?_)
        · have hF := it_t hF c23
          refine aw_iinc5 hC dX5_sale_91 rfl ?_
          refine aw_goto (tgt := 33) hC dX5_sale_94 (by decide) ?_
          refine aw_weak (ls' := [(2, ((0 : Nat) : Int)), (0, x1), (0, x2), (0, x3), (0, x4), (0, (i_add x5 1)), (9, 0)]) ⟨Or.inr rfl, Or.inr rfl, Or.inr rfl, Or.inr rfl, Or.inr rfl, Or.inr rfl, Or.inl rfl, trivial⟩ ?_
          exact ih0 _ _ _ _ r (hb1 _ (Option.some.inj hF).symm) hX
        · have hF := it_f hF c23
          refine aw_iload hC dX5_sale_84 rfl ?_
          refine aw_istore2 hC dX5_sale_86 rfl ?_
          refine aw_iload hC dX5_sale_87 rfl ?_
          refine aw_istore4 hC dX5_sale_89 rfl ?_
          refine aw_iinc5 hC dX5_sale_91 rfl ?_
          refine aw_goto (tgt := 33) hC dX5_sale_94 (by decide) ?_
          refine aw_weak (ls' := [(2, ((0 : Nat) : Int)), (0, x1), (0, r20), (0, x3), (0, x5), (0, (i_add x5 1)), (9, 0)]) ⟨Or.inr rfl, Or.inr rfl, Or.inr rfl, Or.inr rfl, Or.inr rfl, Or.inr rfl, Or.inl rfl, trivial⟩ ?_
          exact ih0 _ _ _ _ r (hb1 _ (Option.some.inj hF).symm) hX
theorem fX5_sale_j5_ok {G : GD} {X : CX} {n : Nat} {Q : Av → Nat → Hp → Prop} (hC : Cx G X RX5 cX5_sale) (hZ : ZOK X G Q 0 0) (hRm : X.R = rmd 7 0 0) (hbt : X.bt = true) (hr : X.meth.sig.returnType = (some .int)) {x1 : Int} {h : Hp} {res : Int × Hp} (hF : fX5_sale_j5 x1 h = some res) (hK : ∀ (x9 : Int) (h9 : Hp), res = (x9, h9) → Q (0, x9) n h9) : AW G X 5 [(2, ((0 : Nat) : Int)), (0, x1), (9, 0), (9, 0), (9, 0), (9, 0), (9, 0)] [] n h 0 0 := by
  unfold fX5_sale_j5 at hF
  refine aw_aload_n hC dX5_sale_5 rfl ?_
  obtain ⟨r4, h6, q5, hF⟩ := bd_some hF
  refine clRX5_126 hC hRm hbt dX5_sale_6 rfl rfl (by decide) (Nat.le_of_ble_eq_true rfl) (Nat.le_of_ble_eq_true rfl) (ok_X5_present q5) ?_
  obtain ⟨g7, hF⟩ := gd_some hF
  refine aw_eqT g7.symm ?_
  refine aw_iload_n hC dX5_sale_9 rfl ?_
  obtain ⟨r8, h10, q9, hF⟩ := bd_some hF
  refine clRX5_185 hC hRm hbt dX5_sale_10 rfl rfl (by decide) (Nat.le_of_ble_eq_true rfl) (Nat.le_of_ble_eq_true rfl) (ok_X3_taxOf q9) ?_
  refine aw_istore2 hC dX5_sale_13 rfl ?_
  refine aw_aload_n hC dX5_sale_14 rfl ?_
  refine aw_gc5 (k := 4) (a := 0) (b := 26) hC hbt dX5_sale_15 lkRX5_44 (by decide) rfl rfl rfl (by decide) (by decide) ?_
  refine aw_gc0N (k := 0) (a := 26) (b := 27) hC hbt dX5_sale_18 lkRX5_109 (by decide) rfl rfl rfl (by decide) (by decide) ?_
  refine aw_bipush hC dX5_sale_21 (by decide) (by decide) ?_
  refine aw_iload_n hC dX5_sale_23 rfl ?_
  refine aw_iadd hC dX5_sale_24 ?_
  obtain ⟨g11, hF⟩ := gd_some hF
  refine aw_iaload (a := 27) hC dX5_sale_25 rfl rfl (Or.inl ⟨hbt, by decide⟩) g11.1 g11.2 ?_
  obtain ⟨v12, ev12, hF⟩ := lb_some hF
  refine aw_eqT ev12 ?_
  clear ev12
  refine aw_istore3 hC dX5_sale_26 rfl ?_
  refine aw_iconst hC dX5_sale_27 (by decide) ?_
  refine aw_istore4 hC dX5_sale_28 rfl ?_
  refine aw_iconst hC dX5_sale_30 (by decide) ?_
  refine aw_istore5 hC dX5_sale_31 rfl ?_
  obtain ⟨e26, he, hF⟩ := bp_some hF
  refine fX5_sale_l33_ok hC hZ hRm hbt hr FU _ _ _ _ e26 he (fun y27 h28 er => ?_)
  replace er := er.symm
  subst er
  try dsimp only at hF
  refine aw_iload hC dX5_sale_97 rfl ?_
  exact aw_ireturn hC hZ (Nat.zero_le _) (Nat.zero_le _) hr dX5_sale_99 (hK _ _ (Option.some.inj hF).symm)
theorem ok_X5_sale_n {G : GD} {n : Nat} {x1 : Int} {h : Hp} {res : Int × Hp} (hF : fX5_sale x1 h = some (.inl res)) : Con G yX5_sale cX5_sale 7 (some .int) 7 0 0 true [(2, ((0 : Nat) : Int)), (0, x1)] n h (FQ 0 n res) := by
  refine con_of (pad := 5) (own := RX5) (plainFor_of_name (by decide)) rfl rfl ?_
  intro X hC hbt hr hnm hZ hRm hn0
  have hK : ∀ (x9 : Int) (h9 : Hp), res = (x9, h9) → FQ 0 n res (0, x9) n h9 := fun x9 h9 e => by subst e; exact ⟨rfl, rfl, rfl⟩
  unfold fX5_sale at hF
  show AW G X 0 [(2, ((0 : Nat) : Int)), (0, x1), (9, 0), (9, 0), (9, 0), (9, 0), (9, 0)] [] n h 0 0
  refine aw_aload_n hC dX5_sale_0 rfl ?_
  refine aw_iload_n hC dX5_sale_1 rfl ?_
  obtain ⟨r1, h3, q2, hF⟩ := bx_n hF
  refine clRX5_173 hC hRm hbt dX5_sale_2 rfl rfl (by decide) (Nat.le_of_ble_eq_true rfl) (Nat.le_of_ble_eq_true rfl) (ok_X5_needHouse_n q2) ?_
  have hF := mi_n hF
  exact fX5_sale_j5_ok hC hZ hRm hbt hr hF hK
theorem ok_X5_sale_x {G : GD} {n : Nat} {x1 : Int} {h : Hp} {e : Nat} {h1 : Hp} (hF : fX5_sale x1 h = some (.inr (e, h1))) : ConT G yX5_sale cX5_sale 7 (some .int) 7 true [(2, ((0 : Nat) : Int)), (0, x1)] n h e h1 := by
  refine conT_of (pad := 5) (own := RX5) (by decide) rfl rfl ?_
  intro X hC hbt hst htab hZ hRm hn0
  unfold fX5_sale at hF
  show AW G X 0 [(2, ((0 : Nat) : Int)), (0, x1), (9, 0), (9, 0), (9, 0), (9, 0), (9, 0)] [] n h 0 0
  refine aw_aload_n hC dX5_sale_0 rfl ?_
  refine aw_iload_n hC dX5_sale_1 rfl ?_
  rcases bx_x hF with ⟨r1, h3, q2, hF⟩ | q2
  rotate_left
  · exact clTRX5_173 hC hRm hbt hn0 hZ hst htab dX5_sale_2 rfl rfl (by decide) (Nat.le_of_ble_eq_true rfl) (Nat.le_of_ble_eq_true rfl) (ok_X5_needHouse_x q2)
  refine clRX5_173 hC hRm hbt dX5_sale_2 rfl rfl (by decide) (Nat.le_of_ble_eq_true rfl) (Nat.le_of_ble_eq_true rfl) (ok_X5_needHouse_n q2) ?_
  exact (mi_x hF).elim
def fX5_shade_l78 (x1 : Int) (x3 : Int) (x4 : Int) (x5 : Int) (x6 : Int) (h : Hp) : Option ((Int × Int × Int × Hp) ⊕ (Int × Hp)) :=
  (if 5 < x6 then some (.inr (x4, h)) else bd_ (fX3_raise x3 1 h) (fun r23 h25 => bd_ (fX3_taxOf x1 h25) (fun r26 h28 => (if x5 ≤ r26 then some (.inl (x4, x5, (i_add x6 1), h28)) else some (.inl (x6, r26, (i_add x6 1), h28))))))
def fX5_shade_j26 (x1 : Int) (x2 : Int) (h : Hp) : Option (Int × Hp) :=
  bd_ (fX5_present h) (fun r8 h10 => gd_ (r8 = ((20 : Nat) : Int)) (gd_ ((h10 0 0) = 1 ∨ (h10 0 0) = 9) (gd_ (0 ≤ x2 ∧ x2 < 6) (lb_ ((h10 (Int.toNat ((h10 0 0) + 2)) (Int.toNat x2))) (fun v14 => gd_ (0 ≤ (i_add 48 x2) ∧ (i_add 48 x2) < 62) (bd_ (fX3_raise v14 ((i_neg ((h10 21 (Int.toNat ((i_add 48 x2))))))) h10) (fun r16 h18 => bd_ (fX3_taxOf x1 h18) (fun r19 h21 => bp_ (it_ (fun s => fX5_shade_l78 x1 v14 s.1 s.2.1 s.2.2.1 s.2.2.2) FU (0, r19, 1, h21)) (fun e32 => (fun y33 h34 => some (y33, h34)) e32.1 e32.2)))))))))
def fX5_shade (x1 : Int) (x2 : Int) (h : Hp) : Option RX :=
  bx_ (fX5_needHouse x1 h) (fun r1 h3 => bx_ (fX5_needHouse x2 h3) (fun r4 h6 => (if x1 = x2 then some (.inr (1, h6)) else mi_ (fX5_shade_j26 x1 x2 h6))))
theorem fX5_shade_l78_ok {G : GD} {X : CX} {n : Nat} {Q : Av → Nat → Hp → Prop} (hC : Cx G X RX5 cX5_shade) (hZ : ZOK X G Q 0 0) (hRm : X.R = rmd 7 0 0) (hbt : X.bt = true) (hr : X.meth.sig.returnType = (some .int)) {x1 : Int} {x3 : Int} : ∀ (f : Nat) (x4 : Int) (x5 : Int) (x6 : Int) (h : Hp) (r : Int × Hp), it_ (fun s => fX5_shade_l78 x1 x3 s.1 s.2.1 s.2.2.1 s.2.2.2) f (x4, x5, x6, h) = some r → (∀ (y4 : Int) (h9 : Hp), r = (y4, h9) → AW G X 124 [(9, 0), (9, 0), (9, 0), (9, 0), (0, y4), (9, 0), (9, 0), (9, 0)] [] n h9 0 0) → AW G X 78 [(2, ((0 : Nat) : Int)), (0, x1), (9, 0), (0, x3), (0, x4), (0, x5), (0, x6), (9, 0)] [] n h 0 0 := by
  intro f
  induction f with
  | zero => intro x4 x5 x6 h r hI; cases hI
  | succ f ih0 =>
    intro x4 x5 x6 h r hI hX
    obtain ⟨b, hF, hb1, hb2⟩ := it_succ hI
    have hF : fX5_shade_l78 x1 x3 x4 x5 x6 h = some b := hF
    unfold fX5_shade_l78 at hF
    refine aw_iload hC dX5_shade_78 rfl ?_
    refine aw_iconst hC dX5_shade_80 (by decide) ?_
    refine aw_icmp_gt (tgt := 124) hC dX5_shade_81 (by decide) (fun c22 => ?_) (fun c22 => ?_)
    · have hF := it_t hF c22
      refine aw_weak (ls' := [(9, 0), (9, 0), (9, 0), (9, 0), (0, x4), (9, 0), (9, 0), (9, 0)]) ⟨Or.inl rfl, Or.inl rfl, Or.inl rfl, Or.inl rfl, Or.inr rfl, Or.inl rfl, Or.inl rfl, Or.inl rfl, trivial⟩ ?_
      exact hX _ _ (hb2 _ (Option.some.inj hF).symm).symm
    · have hF := it_f hF c22
      refine aw_aload_n hC dX5_shade_84 rfl ?_
      refine aw_gc5 (k := 3) (a := 0) (b := 20) hC hbt dX5_shade_85 lkRX5_37 (by decide) rfl rfl rfl (by decide) (by decide) ?_
      refine aw_iload_n hC dX5_shade_88 rfl ?_
      refine aw_iconst hC dX5_shade_89 (by decide) ?_
      obtain ⟨r23, h25, q24, hF⟩ := bd_some hF
      refine clRX5_264 hC hRm hbt dX5_shade_90 rfl rfl (by decide) (Nat.le_of_ble_eq_true rfl) (Nat.le_of_ble_eq_true rfl) (ok_X3_raise q24) ?_
      refine aw_aload_n hC dX5_shade_93 rfl ?_
      refine aw_gc5 (k := 3) (a := 0) (b := 20) hC hbt dX5_shade_94 lkRX5_37 (by decide) rfl rfl rfl (by decide) (by decide) ?_
      refine aw_iload_n hC dX5_shade_97 rfl ?_
      obtain ⟨r26, h28, q27, hF⟩ := bd_some hF
      refine clRX5_185 hC hRm hbt dX5_shade_98 rfl rfl (by decide) (Nat.le_of_ble_eq_true rfl) (Nat.le_of_ble_eq_true rfl) (ok_X3_taxOf q27) ?_
      refine aw_istore7 hC dX5_shade_101 rfl ?_
      refine aw_iload hC dX5_shade_103 rfl ?_
      refine aw_iload hC dX5_shade_105 rfl ?_
      refine aw_icmp_ge (tgt := 118) hC dX5_shade_107 (by decide) (fun c29 => ?_) (fun c29 => ?_)
      · have hF := it_t hF c29
        refine aw_iinc6 hC dX5_shade_118 rfl ?_
        refine aw_goto (tgt := 78) hC dX5_shade_121 (by decide) ?_
        refine aw_weak (ls' := [(2, ((0 : Nat) : Int)), (0, x1), (9, 0), (0, x3), (0, x4), (0, x5), (0, (i_add x6 1)), (9, 0)]) ⟨Or.inr rfl, Or.inr rfl, Or.inl rfl, Or.inr rfl, Or.inr rfl, Or.inr rfl, Or.inr rfl, Or.inl rfl, trivial⟩ ?_
        exact ih0 _ _ _ _ r (hb1 _ (Option.some.inj hF).symm) hX
      · have hF := it_f hF c29
        refine aw_iload hC dX5_shade_110 rfl ?_
        refine aw_istore4 hC dX5_shade_112 rfl ?_
        refine aw_iload hC dX5_shade_114 rfl ?_
        refine aw_istore5 hC dX5_shade_116 rfl ?_
        refine aw_iinc6 hC dX5_shade_118 rfl ?_
        refine aw_goto (tgt := 78) hC dX5_shade_121 (by decide) ?_
        refine aw_weak (ls' := [(2, ((0 : Nat) : Int)), (0, x1), (9, 0), (0, x3), (0, x6), (0, r26), (0, (i_add x6 1)), (9, 0)]) ⟨Or.inr rfl, Or.inr rfl, Or.inl rfl, Or.inr rfl, Or.inr rfl, Or.inr rfl, Or.inr rfl, Or.inl rfl, trivial⟩ ?_
        exact ih0 _ _ _ _ r (hb1 _ (Option.some.inj hF).symm) hX
theorem fX5_shade_j26_ok {G : GD} {X : CX} {n : Nat} {Q : Av → Nat → Hp → Prop} (hC : Cx G X RX5 cX5_shade) (hZ : ZOK X G Q 0 0) (hRm : X.R = rmd 7 0 0) (hbt : X.bt = true) (hr : X.meth.sig.returnType = (some .int)) {x1 : Int} {x2 : Int} {h : Hp} {res : Int × Hp} (hF : fX5_shade_j26 x1 x2 h = some res) (hK : ∀ (x9 : Int) (h9 : Hp), res = (x9, h9) → Q (0, x9) n h9) : AW G X 26 [(2, ((0 : Nat) : Int)), (0, x1), (0, x2), (9, 0), (9, 0), (9, 0), (9, 0), (9, 0)] [] n h 0 0 := by
  unfold fX5_shade_j26 at hF
  refine aw_aload_n hC dX5_shade_26 rfl ?_
  obtain ⟨r8, h10, q9, hF⟩ := bd_some hF
  refine clRX5_126 hC hRm hbt dX5_shade_27 rfl rfl (by decide) (Nat.le_of_ble_eq_true rfl) (Nat.le_of_ble_eq_true rfl) (ok_X5_present q9) ?_
  obtain ⟨g11, hF⟩ := gd_some hF
  refine aw_eqT g11.symm ?_
  refine aw_pop hC dX5_shade_30 (by simp) ?_
  refine aw_aload_n hC dX5_shade_31 rfl ?_
  refine aw_g5r (k := 0) (a := 0) hC dX5_shade_32 lkRX5_10 (by decide) rfl rfl rfl (Or.inl ⟨hbt, by decide⟩) ?_
  obtain ⟨k12, hF⟩ := gd_some hF
  refine aw_gL2N hC hbt k12 dX5_shade_35 lkRX5_176 ?_
  refine aw_iload_n hC dX5_shade_38 rfl ?_
  obtain ⟨g13, hF⟩ := gd_some hF
  refine aw_iaload (a := (Int.toNat ((h10 0 0) + 2))) hC dX5_shade_39 (lnd2 k12).1 (lnd2 k12).2.1 (Or.inl ⟨hbt, (lnd2 k12).2.2⟩) g13.1 g13.2 ?_
  obtain ⟨v14, ev14, hF⟩ := lb_some hF
  refine aw_eqT ev14 ?_
  clear ev14
  refine aw_istore3 hC dX5_shade_40 rfl ?_
  refine aw_aload_n hC dX5_shade_41 rfl ?_
  refine aw_gc5 (k := 3) (a := 0) (b := 20) hC hbt dX5_shade_42 lkRX5_37 (by decide) rfl rfl rfl (by decide) (by decide) ?_
  refine aw_iload_n hC dX5_shade_45 rfl ?_
  refine aw_aload_n hC dX5_shade_46 rfl ?_
  refine aw_gc5 (k := 3) (a := 0) (b := 20) hC hbt dX5_shade_47 lkRX5_37 (by decide) rfl rfl rfl (by decide) (by decide) ?_
  refine aw_gc3N (k := 1) (a := 20) (b := 21) hC hbt dX5_shade_50 lkRX5_210 (by decide) rfl rfl rfl (by decide) (by decide) ?_
  refine aw_bipush hC dX5_shade_53 (by decide) (by decide) ?_
  refine aw_iload_n hC dX5_shade_55 rfl ?_
  refine aw_iadd hC dX5_shade_56 ?_
  obtain ⟨g15, hF⟩ := gd_some hF
  refine aw_iaload (a := 21) hC dX5_shade_57 rfl rfl (Or.inl ⟨hbt, by decide⟩) g15.1 g15.2 ?_
  refine aw_ineg hC dX5_shade_58 ?_
  obtain ⟨r16, h18, q17, hF⟩ := bd_some hF
  refine clRX5_264 hC hRm hbt dX5_shade_59 rfl rfl (by decide) (Nat.le_of_ble_eq_true rfl) (Nat.le_of_ble_eq_true rfl) (ok_X3_raise q17) ?_
  refine aw_iconst hC dX5_shade_62 (by decide) ?_
  refine aw_istore4 hC dX5_shade_63 rfl ?_
  refine aw_aload_n hC dX5_shade_65 rfl ?_
  refine aw_gc5 (k := 3) (a := 0) (b := 20) hC hbt dX5_shade_66 lkRX5_37 (by decide) rfl rfl rfl (by decide) (by decide) ?_
  refine aw_iload_n hC dX5_shade_69 rfl ?_
  obtain ⟨r19, h21, q20, hF⟩ := bd_some hF
  refine clRX5_185 hC hRm hbt dX5_shade_70 rfl rfl (by decide) (Nat.le_of_ble_eq_true rfl) (Nat.le_of_ble_eq_true rfl) (ok_X3_taxOf q20) ?_
  refine aw_istore5 hC dX5_shade_73 rfl ?_
  refine aw_iconst hC dX5_shade_75 (by decide) ?_
  refine aw_istore6 hC dX5_shade_76 rfl ?_
  refine aw_weak (ls' := [(2, ((0 : Nat) : Int)), (0, x1), (9, 0), (0, v14), (0, 0), (0, r19), (0, 1), (9, 0)]) ⟨Or.inr rfl, Or.inr rfl, Or.inl rfl, Or.inr rfl, Or.inr rfl, Or.inr rfl, Or.inr rfl, Or.inl rfl, trivial⟩ ?_
  obtain ⟨e32, he, hF⟩ := bp_some hF
  refine fX5_shade_l78_ok hC hZ hRm hbt hr FU _ _ _ _ e32 he (fun y33 h34 er => ?_)
  replace er := er.symm
  subst er
  try dsimp only at hF
  refine aw_iload hC dX5_shade_124 rfl ?_
  exact aw_ireturn hC hZ (Nat.zero_le _) (Nat.zero_le _) hr dX5_shade_126 (hK _ _ (Option.some.inj hF).symm)
theorem ok_X5_shade_n {G : GD} {n : Nat} {x1 : Int} {x2 : Int} {h : Hp} {res : Int × Hp} (hF : fX5_shade x1 x2 h = some (.inl res)) : Con G yX5_shade cX5_shade 8 (some .int) 7 0 0 true [(2, ((0 : Nat) : Int)), (0, x1), (0, x2)] n h (FQ 0 n res) := by
  refine con_of (pad := 5) (own := RX5) (plainFor_of_name (by decide)) rfl rfl ?_
  intro X hC hbt hr hnm hZ hRm hn0
  have hK : ∀ (x9 : Int) (h9 : Hp), res = (x9, h9) → FQ 0 n res (0, x9) n h9 := fun x9 h9 e => by subst e; exact ⟨rfl, rfl, rfl⟩
  unfold fX5_shade at hF
  show AW G X 0 [(2, ((0 : Nat) : Int)), (0, x1), (0, x2), (9, 0), (9, 0), (9, 0), (9, 0), (9, 0)] [] n h 0 0
  refine aw_aload_n hC dX5_shade_0 rfl ?_
  refine aw_iload_n hC dX5_shade_1 rfl ?_
  obtain ⟨r1, h3, q2, hF⟩ := bx_n hF
  refine clRX5_173 hC hRm hbt dX5_shade_2 rfl rfl (by decide) (Nat.le_of_ble_eq_true rfl) (Nat.le_of_ble_eq_true rfl) (ok_X5_needHouse_n q2) ?_
  refine aw_aload_n hC dX5_shade_5 rfl ?_
  refine aw_iload_n hC dX5_shade_6 rfl ?_
  obtain ⟨r4, h6, q5, hF⟩ := bx_n hF
  refine clRX5_173 hC hRm hbt dX5_shade_7 rfl rfl (by decide) (Nat.le_of_ble_eq_true rfl) (Nat.le_of_ble_eq_true rfl) (ok_X5_needHouse_n q5) ?_
  refine aw_iload_n hC dX5_shade_10 rfl ?_
  refine aw_iload_n hC dX5_shade_11 rfl ?_
  refine aw_icmp_ne (tgt := 26) hC dX5_shade_12 (by decide) (fun c7 => ?_) (fun c7 => ?_)
  · have hF := it_f hF c7
    have hF := mi_n hF
    exact fX5_shade_j26_ok hC hZ hRm hbt hr hF hK
  · have hF := it_t hF c7
    cases hF
theorem ok_X5_shade_x {G : GD} {n : Nat} {x1 : Int} {x2 : Int} {h : Hp} {e : Nat} {h1 : Hp} (hF : fX5_shade x1 x2 h = some (.inr (e, h1))) : ConT G yX5_shade cX5_shade 8 (some .int) 7 true [(2, ((0 : Nat) : Int)), (0, x1), (0, x2)] n h e h1 := by
  refine conT_of (pad := 5) (own := RX5) (by decide) rfl rfl ?_
  intro X hC hbt hst htab hZ hRm hn0
  unfold fX5_shade at hF
  show AW G X 0 [(2, ((0 : Nat) : Int)), (0, x1), (0, x2), (9, 0), (9, 0), (9, 0), (9, 0), (9, 0)] [] n h 0 0
  refine aw_aload_n hC dX5_shade_0 rfl ?_
  refine aw_iload_n hC dX5_shade_1 rfl ?_
  rcases bx_x hF with ⟨r1, h3, q2, hF⟩ | q2
  rotate_left
  · exact clTRX5_173 hC hRm hbt hn0 hZ hst htab dX5_shade_2 rfl rfl (by decide) (Nat.le_of_ble_eq_true rfl) (Nat.le_of_ble_eq_true rfl) (ok_X5_needHouse_x q2)
  refine clRX5_173 hC hRm hbt dX5_shade_2 rfl rfl (by decide) (Nat.le_of_ble_eq_true rfl) (Nat.le_of_ble_eq_true rfl) (ok_X5_needHouse_n q2) ?_
  refine aw_aload_n hC dX5_shade_5 rfl ?_
  refine aw_iload_n hC dX5_shade_6 rfl ?_
  rcases bx_x hF with ⟨r4, h6, q5, hF⟩ | q5
  rotate_left
  · exact clTRX5_173 hC hRm hbt hn0 hZ hst htab dX5_shade_7 rfl rfl (by decide) (Nat.le_of_ble_eq_true rfl) (Nat.le_of_ble_eq_true rfl) (ok_X5_needHouse_x q5)
  refine clRX5_173 hC hRm hbt dX5_shade_7 rfl rfl (by decide) (Nat.le_of_ble_eq_true rfl) (Nat.le_of_ble_eq_true rfl) (ok_X5_needHouse_n q5) ?_
  refine aw_iload_n hC dX5_shade_10 rfl ?_
  refine aw_iload_n hC dX5_shade_11 rfl ?_
  refine aw_icmp_ne (tgt := 26) hC dX5_shade_12 (by decide) (fun c7 => ?_) (fun c7 => ?_)
  · have hF := it_f hF c7
    exact (mi_x hF).elim
  · have hF := it_t hF c7
    cases hF
    exact aw_throw1W (is := 345) (no := 40) (text := "both are one") hC hRm (Nat.le_of_ble_eq_true rfl) hn0 hZ hst htab (List.mem_of_getElem? (i := 30) rfl) dX5_shade_15 dX5_shade_18 dX5_shade_19 dX5_shade_22 dX5_shade_25 (Nat.le_of_ble_eq_true rfl)
def fX5_dearest_l43 (x1 : Int) (x2 : Int) (x3 : Int) (x4 : Int) (h : Hp) : Option ((Int × Int × Int × Hp) ⊕ (Int × Hp)) :=
  (if x1 ≤ x4 then some (.inr (x2, h)) else gd_ (0 ≤ (61 : Int) ∧ (61 : Int) < 62) (lb_ ((h 21 (Int.toNat 61))) (fun v11 => bd_ (fX3_passYear h) (fun r12 h14 => (if r12 ≤ x3 then some (.inl (x2, x3, (i_add x4 1), h14)) else some (.inl (v11, r12, (i_add x4 1), h14)))))))
def fX5_dearest_j22 (x1 : Int) (h : Hp) : Option (Int × Hp) :=
  bd_ (fX5_present h) (fun r3 h5 => gd_ (r3 = ((20 : Nat) : Int)) (gd_ (0 ≤ (61 : Int) ∧ (61 : Int) < 62) (lb_ ((h5 21 (Int.toNat 61))) (fun v8 => bp_ (it_ (fun s => fX5_dearest_l43 x1 s.1 s.2.1 s.2.2.1 s.2.2.2) FU (v8, (-1), 0, h5)) (fun e18 => (fun y19 h20 => some (y19, h20)) e18.1 e18.2)))))
def fX5_dearest (x1 : Int) (h : Hp) : Option RX :=
  (if x1 < 1 then some (.inr (1, h)) else (if x1 ≤ 20 then mi_ (fX5_dearest_j22 x1 h) else some (.inr (1, h))))
theorem fX5_dearest_l43_ok {G : GD} {X : CX} {n : Nat} {Q : Av → Nat → Hp → Prop} (hC : Cx G X RX5 cX5_dearest) (hZ : ZOK X G Q 0 0) (hRm : X.R = rmd 6 0 0) (hbt : X.bt = true) (hr : X.meth.sig.returnType = (some .int)) {x1 : Int} : ∀ (f : Nat) (x2 : Int) (x3 : Int) (x4 : Int) (h : Hp) (r : Int × Hp), it_ (fun s => fX5_dearest_l43 x1 s.1 s.2.1 s.2.2.1 s.2.2.2) f (x2, x3, x4, h) = some r → (∀ (y2 : Int) (h9 : Hp), r = (y2, h9) → AW G X 88 [(9, 0), (9, 0), (0, y2), (9, 0), (9, 0), (9, 0), (9, 0)] [] n h9 0 0) → AW G X 43 [(2, ((0 : Nat) : Int)), (0, x1), (0, x2), (0, x3), (0, x4), (9, 0), (9, 0)] [] n h 0 0 := by
  intro f
  induction f with
  | zero => intro x2 x3 x4 h r hI; cases hI
  | succ f ih0 =>
    intro x2 x3 x4 h r hI hX
    obtain ⟨b, hF, hb1, hb2⟩ := it_succ hI
    have hF : fX5_dearest_l43 x1 x2 x3 x4 h = some b := hF
    unfold fX5_dearest_l43 at hF
    refine aw_iload hC dX5_dearest_43 rfl ?_
    refine aw_iload_n hC dX5_dearest_45 rfl ?_
    refine aw_icmp_ge (tgt := 88) hC dX5_dearest_46 (by decide) (fun c9 => ?_) (fun c9 => ?_)
    · have hF := it_t hF c9
      refine aw_weak (ls' := [(9, 0), (9, 0), (0, x2), (9, 0), (9, 0), (9, 0), (9, 0)]) ⟨Or.inl rfl, Or.inl rfl, Or.inr rfl, Or.inl rfl, Or.inl rfl, Or.inl rfl, Or.inl rfl, trivial⟩ ?_
      exact hX _ _ (hb2 _ (Option.some.inj hF).symm).symm
    · have hF := it_f hF c9
      refine aw_aload_n hC dX5_dearest_49 rfl ?_
      refine aw_gc5 (k := 3) (a := 0) (b := 20) hC hbt dX5_dearest_50 lkRX5_37 (by decide) rfl rfl rfl (by decide) (by decide) ?_
      refine aw_gc3N (k := 1) (a := 20) (b := 21) hC hbt dX5_dearest_53 lkRX5_210 (by decide) rfl rfl rfl (by decide) (by decide) ?_
      refine aw_bipush hC dX5_dearest_56 (by decide) (by decide) ?_
      obtain ⟨g10, hF⟩ := gd_some hF
      refine aw_iaload (a := 21) hC dX5_dearest_58 rfl rfl (Or.inl ⟨hbt, by decide⟩) g10.1 g10.2 ?_
      obtain ⟨v11, ev11, hF⟩ := lb_some hF
      refine aw_eqT ev11 ?_
      clear ev11
      refine aw_istore5 hC dX5_dearest_59 rfl ?_
      refine aw_aload_n hC dX5_dearest_61 rfl ?_
      refine aw_gc5 (k := 3) (a := 0) (b := 20) hC hbt dX5_dearest_62 lkRX5_37 (by decide) rfl rfl rfl (by decide) (by decide) ?_
      obtain ⟨r12, h14, q13, hF⟩ := bd_some hF
      refine clRX5_207 hC hRm hbt dX5_dearest_65 rfl rfl (by decide) (Nat.le_of_ble_eq_true rfl) (Nat.le_of_ble_eq_true rfl) (ok_X3_passYear q13) ?_
      refine aw_istore6 hC dX5_dearest_68 rfl ?_
      refine aw_iload hC dX5_dearest_70 rfl ?_
      refine aw_iload_n hC dX5_dearest_72 rfl ?_
      refine aw_icmp_le (tgt := 82) hC dX5_dearest_73 (by decide) (fun c15 => ?_) (fun c15 => ?_)
      · have hF := it_t hF c15
        refine aw_iinc4 hC dX5_dearest_82 rfl ?_
        refine aw_goto (tgt := 43) hC dX5_dearest_85 (by decide) ?_
        refine aw_weak (ls' := [(2, ((0 : Nat) : Int)), (0, x1), (0, x2), (0, x3), (0, (i_add x4 1)), (9, 0), (9, 0)]) ⟨Or.inr rfl, Or.inr rfl, Or.inr rfl, Or.inr rfl, Or.inr rfl, Or.inl rfl, Or.inl rfl, trivial⟩ ?_
        exact ih0 _ _ _ _ r (hb1 _ (Option.some.inj hF).symm) hX
      · have hF := it_f hF c15
        refine aw_iload hC dX5_dearest_76 rfl ?_
        refine aw_istore3 hC dX5_dearest_78 rfl ?_
        refine aw_iload hC dX5_dearest_79 rfl ?_
        refine aw_istore2 hC dX5_dearest_81 rfl ?_
        refine aw_iinc4 hC dX5_dearest_82 rfl ?_
        refine aw_goto (tgt := 43) hC dX5_dearest_85 (by decide) ?_
        refine aw_weak (ls' := [(2, ((0 : Nat) : Int)), (0, x1), (0, v11), (0, r12), (0, (i_add x4 1)), (9, 0), (9, 0)]) ⟨Or.inr rfl, Or.inr rfl, Or.inr rfl, Or.inr rfl, Or.inr rfl, Or.inl rfl, Or.inl rfl, trivial⟩ ?_
        exact ih0 _ _ _ _ r (hb1 _ (Option.some.inj hF).symm) hX
theorem fX5_dearest_j22_ok {G : GD} {X : CX} {n : Nat} {Q : Av → Nat → Hp → Prop} (hC : Cx G X RX5 cX5_dearest) (hZ : ZOK X G Q 0 0) (hRm : X.R = rmd 6 0 0) (hbt : X.bt = true) (hr : X.meth.sig.returnType = (some .int)) {x1 : Int} {h : Hp} {res : Int × Hp} (hF : fX5_dearest_j22 x1 h = some res) (hK : ∀ (x9 : Int) (h9 : Hp), res = (x9, h9) → Q (0, x9) n h9) : AW G X 22 [(2, ((0 : Nat) : Int)), (0, x1), (9, 0), (9, 0), (9, 0), (9, 0), (9, 0)] [] n h 0 0 := by
  unfold fX5_dearest_j22 at hF
  refine aw_aload_n hC dX5_dearest_22 rfl ?_
  obtain ⟨r3, h5, q4, hF⟩ := bd_some hF
  refine clRX5_126 hC hRm hbt dX5_dearest_23 rfl rfl (by decide) (Nat.le_of_ble_eq_true rfl) (Nat.le_of_ble_eq_true rfl) (ok_X5_present q4) ?_
  obtain ⟨g6, hF⟩ := gd_some hF
  refine aw_eqT g6.symm ?_
  refine aw_pop hC dX5_dearest_26 (by simp) ?_
  refine aw_aload_n hC dX5_dearest_27 rfl ?_
  refine aw_gc5 (k := 3) (a := 0) (b := 20) hC hbt dX5_dearest_28 lkRX5_37 (by decide) rfl rfl rfl (by decide) (by decide) ?_
  refine aw_gc3N (k := 1) (a := 20) (b := 21) hC hbt dX5_dearest_31 lkRX5_210 (by decide) rfl rfl rfl (by decide) (by decide) ?_
  refine aw_bipush hC dX5_dearest_34 (by decide) (by decide) ?_
  obtain ⟨g7, hF⟩ := gd_some hF
  refine aw_iaload (a := 21) hC dX5_dearest_36 rfl rfl (Or.inl ⟨hbt, by decide⟩) g7.1 g7.2 ?_
  obtain ⟨v8, ev8, hF⟩ := lb_some hF
  refine aw_eqT ev8 ?_
  clear ev8
  refine aw_istore2 hC dX5_dearest_37 rfl ?_
  refine aw_iconst hC dX5_dearest_38 (by decide) ?_
  refine aw_istore3 hC dX5_dearest_39 rfl ?_
  refine aw_iconst hC dX5_dearest_40 (by decide) ?_
  refine aw_istore4 hC dX5_dearest_41 rfl ?_
  obtain ⟨e18, he, hF⟩ := bp_some hF
  refine fX5_dearest_l43_ok hC hZ hRm hbt hr FU _ _ _ _ e18 he (fun y19 h20 er => ?_)
  replace er := er.symm
  subst er
  try dsimp only at hF
  refine aw_iload_n hC dX5_dearest_88 rfl ?_
  exact aw_ireturn hC hZ (Nat.zero_le _) (Nat.zero_le _) hr dX5_dearest_89 (hK _ _ (Option.some.inj hF).symm)
theorem ok_X5_dearest_n {G : GD} {n : Nat} {x1 : Int} {h : Hp} {res : Int × Hp} (hF : fX5_dearest x1 h = some (.inl res)) : Con G yX5_dearest cX5_dearest 7 (some .int) 6 0 0 true [(2, ((0 : Nat) : Int)), (0, x1)] n h (FQ 0 n res) := by
  refine con_of (pad := 5) (own := RX5) (plainFor_of_name (by decide)) rfl rfl ?_
  intro X hC hbt hr hnm hZ hRm hn0
  have hK : ∀ (x9 : Int) (h9 : Hp), res = (x9, h9) → FQ 0 n res (0, x9) n h9 := fun x9 h9 e => by subst e; exact ⟨rfl, rfl, rfl⟩
  unfold fX5_dearest at hF
  show AW G X 0 [(2, ((0 : Nat) : Int)), (0, x1), (9, 0), (9, 0), (9, 0), (9, 0), (9, 0)] [] n h 0 0
  refine aw_iload_n hC dX5_dearest_0 rfl ?_
  refine aw_iconst hC dX5_dearest_1 (by decide) ?_
  refine aw_icmp_lt (tgt := 11) hC dX5_dearest_2 (by decide) (fun c1 => ?_) (fun c1 => ?_)
  · have hF := it_t hF c1
    cases hF
  · have hF := it_f hF c1
    refine aw_iload_n hC dX5_dearest_5 rfl ?_
    refine aw_bipush hC dX5_dearest_6 (by decide) (by decide) ?_
    refine aw_icmp_le (tgt := 22) hC dX5_dearest_8 (by decide) (fun c2 => ?_) (fun c2 => ?_)
    · have hF := it_t hF c2
      have hF := mi_n hF
      exact fX5_dearest_j22_ok hC hZ hRm hbt hr hF hK
    · have hF := it_f hF c2
      cases hF
theorem ok_X5_dearest_x {G : GD} {n : Nat} {x1 : Int} {h : Hp} {e : Nat} {h1 : Hp} (hF : fX5_dearest x1 h = some (.inr (e, h1))) : ConT G yX5_dearest cX5_dearest 7 (some .int) 6 true [(2, ((0 : Nat) : Int)), (0, x1)] n h e h1 := by
  refine conT_of (pad := 5) (own := RX5) (by decide) rfl rfl ?_
  intro X hC hbt hst htab hZ hRm hn0
  unfold fX5_dearest at hF
  show AW G X 0 [(2, ((0 : Nat) : Int)), (0, x1), (9, 0), (9, 0), (9, 0), (9, 0), (9, 0)] [] n h 0 0
  refine aw_iload_n hC dX5_dearest_0 rfl ?_
  refine aw_iconst hC dX5_dearest_1 (by decide) ?_
  refine aw_icmp_lt (tgt := 11) hC dX5_dearest_2 (by decide) (fun c1 => ?_) (fun c1 => ?_)
  · have hF := it_t hF c1
    cases hF
    exact aw_throw1W (is := 330) (no := 39) (text := "no such number of years") hC hRm (Nat.le_of_ble_eq_true rfl) hn0 hZ hst htab (List.mem_of_getElem? (i := 29) rfl) dX5_dearest_11 dX5_dearest_14 dX5_dearest_15 dX5_dearest_18 dX5_dearest_21 (Nat.le_of_ble_eq_true rfl)
  · have hF := it_f hF c1
    refine aw_iload_n hC dX5_dearest_5 rfl ?_
    refine aw_bipush hC dX5_dearest_6 (by decide) (by decide) ?_
    refine aw_icmp_le (tgt := 22) hC dX5_dearest_8 (by decide) (fun c2 => ?_) (fun c2 => ?_)
    · have hF := it_t hF c2
      exact (mi_x hF).elim
    · have hF := it_f hF c2
      cases hF
      exact aw_throw1W (is := 330) (no := 39) (text := "no such number of years") hC hRm (Nat.le_of_ble_eq_true rfl) hn0 hZ hst htab (List.mem_of_getElem? (i := 29) rfl) dX5_dearest_11 dX5_dearest_14 dX5_dearest_15 dX5_dearest_18 dX5_dearest_21 (Nat.le_of_ble_eq_true rfl)
