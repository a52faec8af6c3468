def fX6_isRuin_l8 (x1 : Int) (x2 : Int) (x3 : Int) (h : Hp) : Option ((Int × Int × Hp) ⊕ (Int × Hp)) :=
  (if (h 35 3) ≤ x3 then some (.inr (x2, h)) else gd_ (0 ≤ (i_add 36 x3) ∧ (i_add 36 x3) < 62) (bd_ (fX6_taxOf x3 h) (fun r6 h8 => (if (h 54 (Int.toNat ((i_add 36 x3)))) < r6 then lb_ ((i_or x2 0)) (fun v10 => some (.inl (v10, (i_add x3 1), h8))) else lb_ ((i_or x2 ((i_shl 1 x3)))) (fun v12 => some (.inl (v12, (i_add x3 1), h8)))))))
def fX6_isRuin_l77 (x1 : Int) (x2 : Int) (x3 : Int) (x4 : Int) (x5 : Int) (h : Hp) : Option ((Int × Int × Hp) ⊕ (Int × Hp)) :=
  (if (h 35 3) ≤ x5 then some (.inr (x4, h)) else (if x4 = 0 then (if (i_and ((i_shr x2 x5)) 1) = 1 then bd_ (fX6_taxOf x5 h) (fun r29 h31 => gd_ (0 ≤ (i_add 36 x5) ∧ (i_add 36 x5) < 62) ((if r29 ≤ (h31 54 (Int.toNat ((i_add 36 x5)))) then some (.inl (0, (i_add x5 1), h31)) else some (.inl (1, (i_add x5 1), h31))))) else some (.inl (0, (i_add x5 1), h))) else some (.inl (1, (i_add x5 1), h))))
def fX6_isRuin (x1 : Int) (h : Hp) : Option (Int × Hp) :=
  bd_ (fX6_laysOut h) (fun r1 h3 => bp_ (it_ (fun s => fX6_isRuin_l8 x1 s.1 s.2.1 s.2.2) FU (0, 0, h3)) (fun e14 => (fun y15 h16 => gd_ (0 ≤ (i_add 0 x1) ∧ (i_add 0 x1) < 62) (lb_ ((h16 54 (Int.toNat ((i_add 0 x1))))) (fun v18 => gd_ (0 ≤ (i_add 0 x1) ∧ (i_add 0 x1) < 62) (lb_ (st h16 54 (Int.toNat ((i_add 0 x1))) ((-1))) (fun h20 => bd_ (fX6_laysOut h20) (fun r21 h23 => bp_ (it_ (fun s => fX6_isRuin_l77 x1 y15 v18 s.1 s.2.1 s.2.2) FU (0, 0, h23)) (fun e36 => (fun y37 h38 => gd_ (0 ≤ (i_add 0 x1) ∧ (i_add 0 x1) < 62) (lb_ (st h38 54 (Int.toNat ((i_add 0 x1))) v18) (fun h40 => gd_ (y37 = 0 ∨ y37 = 1) (some (y37, h40))))) e36.1 e36.2))))))) e14.1 e14.2))
theorem fX6_isRuin_l8_ok {G : GD} {X : CX} {n : Nat} {Q : Av → Nat → Hp → Prop} (hC : Cx G X RX6 cX6_isRuin) (hZ : ZOK X G Q 0 0) (hRm : X.R = rmd 6 0 0) (hbt : X.bt = true) (hr : X.meth.sig.returnType = (some .boolean)) {x1 : Int} : ∀ (f : Nat) (x2 : Int) (x3 : Int) (h : Hp) (r : Int × Hp), it_ (fun s => fX6_isRuin_l8 x1 s.1 s.2.1 s.2.2) f (x2, x3, h) = some r → (∀ (y2 : Int) (h9 : Hp), r = (y2, h9) → AW G X 49 [(2, ((35 : Nat) : Int)), (0, x1), (0, y2), (9, 0), (9, 0), (9, 0)] [] n h9 0 0) → AW G X 8 [(2, ((35 : Nat) : Int)), (0, x1), (0, x2), (0, x3), (9, 0), (9, 0)] [] n h 0 0 := by
  intro f
  induction f with
  | zero => intro x2 x3 h r hI; cases hI
  | succ f ih0 =>
    intro x2 x3 h r hI hX
    obtain ⟨b, hF, hb1, hb2⟩ := it_succ hI
    have hF : fX6_isRuin_l8 x1 x2 x3 h = some b := hF
    unfold fX6_isRuin_l8 at hF
    refine aw_iload_n hC dX6_isRuin_8 rfl ?_
    refine aw_aload_n hC dX6_isRuin_9 rfl ?_
    refine aw_g6i (k := 3) (a := 35) hC dX6_isRuin_10 lkRX6_297 (by decide) rfl rfl rfl (Or.inl ⟨hbt, by decide⟩) ?_
    refine aw_icmp_ge (tgt := 49) hC dX6_isRuin_13 (by decide) (fun c4 => ?_) (fun c4 => ?_)
    · have hF := it_t hF c4
      refine aw_weak (ls' := [(2, ((35 : Nat) : Int)), (0, x1), (0, x2), (9, 0), (9, 0), (9, 0)]) ⟨Or.inr rfl, Or.inr rfl, Or.inr rfl, Or.inl rfl, Or.inl rfl, Or.inl rfl, trivial⟩ ?_
      exact hX _ _ (hb2 _ (Option.some.inj hF).symm).symm
    · have hF := it_f hF c4
      refine aw_iload_n hC dX6_isRuin_16 rfl ?_
      refine aw_aload_n hC dX6_isRuin_17 rfl ?_
      refine aw_gc6 (k := 46) (a := 35) (b := 54) hC hbt dX6_isRuin_18 lkRX6_75 (by decide) rfl rfl rfl (by decide) (by decide) ?_
      refine aw_bipush hC dX6_isRuin_21 (by decide) (by decide) ?_
      refine aw_iload_n hC dX6_isRuin_23 rfl ?_
      refine aw_iadd hC dX6_isRuin_24 ?_
      obtain ⟨g5, hF⟩ := gd_some hF
      refine aw_iaload (a := 54) hC dX6_isRuin_25 rfl rfl (Or.inl ⟨hbt, by decide⟩) g5.1 g5.2 ?_
      refine aw_aload_n hC dX6_isRuin_26 rfl ?_
      refine aw_iload_n hC dX6_isRuin_27 rfl ?_
      obtain ⟨r6, h8, q7, hF⟩ := bd_some hF
      refine clRX6_410 hC hRm hbt dX6_isRuin_28 rfl rfl (by decide) (Nat.le_of_ble_eq_true rfl) (Nat.le_of_ble_eq_true rfl) (ok_X6_taxOf q7) ?_
      refine aw_icmp_lt (tgt := 40) hC dX6_isRuin_31 (by decide) (fun c9 => ?_) (fun c9 => ?_)
      · have hF := it_t hF c9
        refine aw_iconst hC dX6_isRuin_40 (by decide) ?_
        refine aw_ior hC dX6_isRuin_41 ?_
        obtain ⟨v10, ev10, hF⟩ := lb_some hF
        refine aw_eqT ev10 ?_
        clear ev10
        refine aw_istore2 hC dX6_isRuin_42 rfl ?_
        refine aw_iinc3 hC dX6_isRuin_43 rfl ?_
        refine aw_goto (tgt := 8) hC dX6_isRuin_46 (by decide) ?_
        exact ih0 _ _ _ r (hb1 _ (Option.some.inj hF).symm) hX
      · have hF := it_f hF c9
        refine aw_iconst hC dX6_isRuin_34 (by decide) ?_
        refine aw_iload_n hC dX6_isRuin_35 rfl ?_
        refine aw_ishl hC dX6_isRuin_36 ?_
        refine aw_goto (tgt := 41) hC dX6_isRuin_37 (by decide) ?_
        refine aw_ior hC dX6_isRuin_41 ?_
        obtain ⟨v12, ev12, hF⟩ := lb_some hF
        refine aw_eqT ev12 ?_
        clear ev12
        refine aw_istore2 hC dX6_isRuin_42 rfl ?_
        refine aw_iinc3 hC dX6_isRuin_43 rfl ?_
        refine aw_goto (tgt := 8) hC dX6_isRuin_46 (by decide) ?_
        exact ih0 _ _ _ r (hb1 _ (Option.some.inj hF).symm) hX
theorem fX6_isRuin_l77_ok {G : GD} {X : CX} {n : Nat} {Q : Av → Nat → Hp → Prop} (hC : Cx G X RX6 cX6_isRuin) (hZ : ZOK X G Q 0 0) (hRm : X.R = rmd 6 0 0) (hbt : X.bt = true) (hr : X.meth.sig.returnType = (some .boolean)) {x1 : Int} {x2 : Int} {x3 : Int} : ∀ (f : Nat) (x4 : Int) (x5 : Int) (h : Hp) (r : Int × Hp), it_ (fun s => fX6_isRuin_l77 x1 x2 x3 s.1 s.2.1 s.2.2) f (x4, x5, h) = some r → (∀ (y4 : Int) (h9 : Hp), r = (y4, h9) → AW G X 133 [(2, ((35 : Nat) : Int)), (0, x1), (9, 0), (0, x3), (0, y4), (9, 0)] [] n h9 0 0) → AW G X 77 [(2, ((35 : Nat) : Int)), (0, x1), (0, x2), (0, x3), (0, x4), (0, x5)] [] n h 0 0 := by
  intro f
  induction f with
  | zero => intro x4 x5 h r hI; cases hI
  | succ f ih0 =>
    intro x4 x5 h r hI hX
    obtain ⟨b, hF, hb1, hb2⟩ := it_succ hI
    have hF : fX6_isRuin_l77 x1 x2 x3 x4 x5 h = some b := hF
    unfold fX6_isRuin_l77 at hF
    refine aw_iload hC dX6_isRuin_77 rfl ?_
    refine aw_aload_n hC dX6_isRuin_79 rfl ?_
    refine aw_g6i (k := 3) (a := 35) hC dX6_isRuin_80 lkRX6_297 (by decide) rfl rfl rfl (Or.inl ⟨hbt, by decide⟩) ?_
    refine aw_icmp_ge (tgt := 133) hC dX6_isRuin_83 (by decide) (fun c24 => ?_) (fun c24 => ?_)
    · have hF := it_t hF c24
      refine aw_weak (ls' := [(2, ((35 : Nat) : Int)), (0, x1), (9, 0), (0, x3), (0, x4), (9, 0)]) ⟨Or.inr rfl, Or.inr rfl, Or.inl rfl, Or.inr rfl, Or.inr rfl, Or.inl rfl, trivial⟩ ?_
      exact hX _ _ (hb2 _ (Option.some.inj hF).symm).symm
    · have hF := it_f hF c24
      refine aw_iload hC dX6_isRuin_86 rfl ?_
      refine aw_if_ne (tgt := 120) hC dX6_isRuin_88 (by decide) (fun c25 => ?_) (fun c25 => ?_)
      · have hF := it_f hF c25
        refine aw_iconst hC dX6_isRuin_120 (by decide) ?_
        refine aw_goto (tgt := 125) hC dX6_isRuin_121 (by decide) ?_
        refine aw_istore4 hC dX6_isRuin_125 rfl ?_
        refine aw_iinc5 hC dX6_isRuin_127 rfl ?_
        refine aw_goto (tgt := 77) hC dX6_isRuin_130 (by decide) ?_
        exact ih0 _ _ _ r (hb1 _ (Option.some.inj hF).symm) hX
      · have hF := it_t hF c25
        refine aw_iload_n hC dX6_isRuin_91 rfl ?_
        refine aw_iload hC dX6_isRuin_92 rfl ?_
        refine aw_ishr hC dX6_isRuin_94 ?_
        refine aw_iconst hC dX6_isRuin_95 (by decide) ?_
        refine aw_iand hC dX6_isRuin_96 ?_
        refine aw_iconst hC dX6_isRuin_97 (by decide) ?_
        refine aw_icmp_ne (tgt := 124) hC dX6_isRuin_98 (by decide) (fun c27 => ?_) (fun c27 => ?_)
        · have hF := it_f hF c27
          refine aw_iconst hC dX6_isRuin_124 (by decide) ?_
          refine aw_istore4 hC dX6_isRuin_125 rfl ?_
          refine aw_iinc5 hC dX6_isRuin_127 rfl ?_
          refine aw_goto (tgt := 77) hC dX6_isRuin_130 (by decide) ?_
          exact ih0 _ _ _ r (hb1 _ (Option.some.inj hF).symm) hX
        · have hF := it_t hF c27
          refine aw_aload_n hC dX6_isRuin_101 rfl ?_
          refine aw_iload hC dX6_isRuin_102 rfl ?_
          obtain ⟨r29, h31, q30, hF⟩ := bd_some hF
          refine clRX6_410 hC hRm hbt dX6_isRuin_104 rfl rfl (by decide) (Nat.le_of_ble_eq_true rfl) (Nat.le_of_ble_eq_true rfl) (ok_X6_taxOf q30) ?_
          refine aw_aload_n hC dX6_isRuin_107 rfl ?_
          refine aw_gc6 (k := 46) (a := 35) (b := 54) hC hbt dX6_isRuin_108 lkRX6_75 (by decide) rfl rfl rfl (by decide) (by decide) ?_
          refine aw_bipush hC dX6_isRuin_111 (by decide) (by decide) ?_
          refine aw_iload hC dX6_isRuin_113 rfl ?_
          refine aw_iadd hC dX6_isRuin_115 ?_
          obtain ⟨g32, hF⟩ := gd_some hF
          refine aw_iaload (a := 54) hC dX6_isRuin_116 rfl rfl (Or.inl ⟨hbt, by decide⟩) g32.1 g32.2 ?_
          refine aw_icmp_le (tgt := 124) hC dX6_isRuin_117 (by decide) (fun c33 => ?_) (fun c33 => ?_)
          · have hF := it_t hF c33
            refine aw_iconst hC dX6_isRuin_124 (by decide) ?_
            refine aw_istore4 hC dX6_isRuin_125 rfl ?_
            refine aw_iinc5 hC dX6_isRuin_127 rfl ?_
            refine aw_goto (tgt := 77) hC dX6_isRuin_130 (by decide) ?_
            exact ih0 _ _ _ r (hb1 _ (Option.some.inj hF).symm) hX
          · have hF := it_f hF c33
            refine aw_iconst hC dX6_isRuin_120 (by decide) ?_
            refine aw_goto (tgt := 125) hC dX6_isRuin_121 (by decide) ?_
            refine aw_istore4 hC dX6_isRuin_125 rfl ?_
            refine aw_iinc5 hC dX6_isRuin_127 rfl ?_
            refine aw_goto (tgt := 77) hC dX6_isRuin_130 (by decide) ?_
            exact ih0 _ _ _ r (hb1 _ (Option.some.inj hF).symm) hX
theorem ok_X6_isRuin {G : GD} {n : Nat} {x1 : Int} {h : Hp} {res : Int × Hp} (hF : fX6_isRuin x1 h = some res) : Con G yX6_isRuin cX6_isRuin 6 (some .boolean) 6 0 0 true [(2, ((35 : Nat) : Int)), (0, x1)] n h (FQ 0 n res) := by
  refine con_of (pad := 4) (own := RX6) (plainFor_of_name (by decide)) rfl rfl ?_
  intro X hC hbt hr hnm hZ hRm hn0
  have hK : ∀ (x9 : Int) (h9 : Hp), res = (x9, h9) → FQ 0 n res (0, x9) n h9 := fun x9 h9 e => by subst e; exact ⟨rfl, rfl, rfl⟩
  unfold fX6_isRuin at hF
  show AW G X 0 [(2, ((35 : Nat) : Int)), (0, x1), (9, 0), (9, 0), (9, 0), (9, 0)] [] n h 0 0
  refine aw_iconst hC dX6_isRuin_0 (by decide) ?_
  refine aw_istore2 hC dX6_isRuin_1 rfl ?_
  refine aw_aload_n hC dX6_isRuin_2 rfl ?_
  obtain ⟨r1, h3, q2, hF⟩ := bd_some hF
  refine clRX6_379 hC hRm hbt dX6_isRuin_3 rfl rfl (by decide) (Nat.le_of_ble_eq_true rfl) (Nat.le_of_ble_eq_true rfl) (ok_X6_laysOut q2) ?_
  refine aw_iconst hC dX6_isRuin_6 (by decide) ?_
  refine aw_istore3 hC dX6_isRuin_7 rfl ?_
  obtain ⟨e14, he, hF⟩ := bp_some hF
  refine fX6_isRuin_l8_ok hC hZ hRm hbt hr FU _ _ _ e14 he (fun y15 h16 er => ?_)
  replace er := er.symm
  subst er
  try dsimp only at hF
  refine aw_aload_n hC dX6_isRuin_49 rfl ?_
  refine aw_gc6 (k := 46) (a := 35) (b := 54) hC hbt dX6_isRuin_50 lkRX6_75 (by decide) rfl rfl rfl (by decide) (by decide) ?_
  refine aw_iconst hC dX6_isRuin_53 (by decide) ?_
  refine aw_iload_n hC dX6_isRuin_54 rfl ?_
  refine aw_iadd hC dX6_isRuin_55 ?_
  obtain ⟨g17, hF⟩ := gd_some hF
  refine aw_iaload (a := 54) hC dX6_isRuin_56 rfl rfl (Or.inl ⟨hbt, by decide⟩) g17.1 g17.2 ?_
  obtain ⟨v18, ev18, hF⟩ := lb_some hF
  refine aw_eqT ev18 ?_
  clear ev18
  refine aw_istore3 hC dX6_isRuin_57 rfl ?_
  refine aw_aload_n hC dX6_isRuin_58 rfl ?_
  refine aw_gc6 (k := 46) (a := 35) (b := 54) hC hbt dX6_isRuin_59 lkRX6_75 (by decide) rfl rfl rfl (by decide) (by decide) ?_
  refine aw_iconst hC dX6_isRuin_62 (by decide) ?_
  refine aw_iload_n hC dX6_isRuin_63 rfl ?_
  refine aw_iadd hC dX6_isRuin_64 ?_
  refine aw_iconst hC dX6_isRuin_65 (by decide) ?_
  obtain ⟨g19, hF⟩ := gd_some hF
  obtain ⟨h20, eh20, hF⟩ := lb_some hF
  refine aw_iastore (a := 54) hC dX6_isRuin_66 rfl rfl (Or.inl ⟨hbt, by decide⟩) g19.1 g19.2 ?_
  refine aw_eqH eh20 ?_
  clear eh20
  refine aw_aload_n hC dX6_isRuin_67 rfl ?_
  obtain ⟨r21, h23, q22, hF⟩ := bd_some hF
  refine clRX6_379 hC hRm hbt dX6_isRuin_68 rfl rfl (by decide) (Nat.le_of_ble_eq_true rfl) (Nat.le_of_ble_eq_true rfl) (ok_X6_laysOut q22) ?_
  refine aw_iconst hC dX6_isRuin_71 (by decide) ?_
  refine aw_istore4 hC dX6_isRuin_72 rfl ?_
  refine aw_iconst hC dX6_isRuin_74 (by decide) ?_
  refine aw_istore5 hC dX6_isRuin_75 rfl ?_
  obtain ⟨e36, he, hF⟩ := bp_some hF
  refine fX6_isRuin_l77_ok hC hZ hRm hbt hr FU _ _ _ e36 he (fun y37 h38 er => ?_)
  replace er := er.symm
  subst er
  try dsimp only at hF
  refine aw_aload_n hC dX6_isRuin_133 rfl ?_
  refine aw_gc6 (k := 46) (a := 35) (b := 54) hC hbt dX6_isRuin_134 lkRX6_75 (by decide) rfl rfl rfl (by decide) (by decide) ?_
  refine aw_iconst hC dX6_isRuin_137 (by decide) ?_
  refine aw_iload_n hC dX6_isRuin_138 rfl ?_
  refine aw_iadd hC dX6_isRuin_139 ?_
  refine aw_iload_n hC dX6_isRuin_140 rfl ?_
  obtain ⟨g39, hF⟩ := gd_some hF
  obtain ⟨h40, eh40, hF⟩ := lb_some hF
  refine aw_iastore (a := 54) hC dX6_isRuin_141 rfl rfl (Or.inl ⟨hbt, by decide⟩) g39.1 g39.2 ?_
  refine aw_eqH eh40 ?_
  clear eh40
  refine aw_iload hC dX6_isRuin_142 rfl ?_
  obtain ⟨g41, hF⟩ := gd_some hF
  exact aw_zreturn hC hZ (Nat.zero_le _) (Nat.zero_le _) hr rfl dX6_isRuin_144 g41 (hK _ _ (Option.some.inj hF).symm)
def fX6_ruin_l9 (x1 : Int) (x2 : Int) (h : Hp) : Option ((Int × Int × Hp) ⊕ (Int × Hp)) :=
  (if 12 ≤ x2 then some (.inr (x1, h)) else gd_ (0 ≤ (i_add 0 x2) ∧ (i_add 0 x2) < 62) ((if (h 54 (Int.toNat ((i_add 0 x2)))) = (-1) then lb_ ((i_or x1 0)) (fun v5 => some (.inl (v5, (i_add x2 1), h))) else bd_ (fX6_isRuin x2 h) (fun r7 h9 => (if r7 = 0 then lb_ ((i_or x1 0)) (fun v11 => some (.inl (v11, (i_add x2 1), h9))) else lb_ ((i_or x1 ((i_shl 1 x2)))) (fun v13 => some (.inl (v13, (i_add x2 1), h9))))))))
def fX6_ruin  (h : Hp) : Option (Int × Hp) :=
  lb_ (st h 35 0 0) (fun h1 => bp_ (it_ (fun s => fX6_ruin_l9 s.1 s.2.1 s.2.2) FU (0, 0, h1)) (fun e15 => (fun y16 h17 => some (y16, h17)) e15.1 e15.2))
theorem fX6_ruin_l9_ok {G : GD} {X : CX} {n : Nat} {Q : Av → Nat → Hp → Prop} (hC : Cx G X RX6 cX6_ruin) (hZ : ZOK X G Q 0 0) (hRm : X.R = rmd 7 0 0) (hbt : X.bt = true) (hr : X.meth.sig.returnType = (some .int))  : ∀ (f : Nat) (x1 : Int) (x2 : Int) (h : Hp) (r : Int × Hp), it_ (fun s => fX6_ruin_l9 s.1 s.2.1 s.2.2) f (x1, x2, h) = some r → (∀ (y1 : Int) (h9 : Hp), r = (y1, h9) → AW G X 51 [(9, 0), (0, y1), (9, 0)] [] n h9 0 0) → AW G X 9 [(2, ((35 : Nat) : Int)), (0, x1), (0, x2)] [] n h 0 0 := by
  intro f
  induction f with
  | zero => intro x1 x2 h r hI; cases hI
  | succ f ih0 =>
    intro x1 x2 h r hI hX
    obtain ⟨b, hF, hb1, hb2⟩ := it_succ hI
    have hF : fX6_ruin_l9 x1 x2 h = some b := hF
    unfold fX6_ruin_l9 at hF
    refine aw_iload_n hC dX6_ruin_9 rfl ?_
    refine aw_bipush hC dX6_ruin_10 (by decide) (by decide) ?_
    refine aw_icmp_ge (tgt := 51) hC dX6_ruin_12 (by decide) (fun c2 => ?_) (fun c2 => ?_)
    · have hF := it_t hF c2
      refine aw_weak (ls' := [(9, 0), (0, x1), (9, 0)]) ⟨Or.inl rfl, Or.inr rfl, Or.inl rfl, trivial⟩ ?_
      exact hX _ _ (hb2 _ (Option.some.inj hF).symm).symm
    · have hF := it_f hF c2
      refine aw_iload_n hC dX6_ruin_15 rfl ?_
      refine aw_aload_n hC dX6_ruin_16 rfl ?_
      refine aw_gc6 (k := 46) (a := 35) (b := 54) hC hbt dX6_ruin_17 lkRX6_75 (by decide) rfl rfl rfl (by decide) (by decide) ?_
      refine aw_iconst hC dX6_ruin_20 (by decide) ?_
      refine aw_iload_n hC dX6_ruin_21 rfl ?_
      refine aw_iadd hC dX6_ruin_22 ?_
      obtain ⟨g3, hF⟩ := gd_some hF
      refine aw_iaload (a := 54) hC dX6_ruin_23 rfl rfl (Or.inl ⟨hbt, by decide⟩) g3.1 g3.2 ?_
      refine aw_iconst hC dX6_ruin_24 (by decide) ?_
      refine aw_icmp_eq (tgt := 42) hC dX6_ruin_25 (by decide) (fun c4 => ?_) (fun c4 => ?_)
      · have hF := it_t hF c4
        refine aw_iconst hC dX6_ruin_42 (by decide) ?_
        refine aw_ior hC dX6_ruin_43 ?_
        obtain ⟨v5, ev5, hF⟩ := lb_some hF
        refine aw_eqT ev5 ?_
        clear ev5
        refine aw_istore1 hC dX6_ruin_44 rfl ?_
        refine aw_iinc2 hC dX6_ruin_45 rfl ?_
        refine aw_goto (tgt := 9) hC dX6_ruin_48 (by decide) ?_
        exact ih0 _ _ _ r (hb1 _ (Option.some.inj hF).symm) hX
      · have hF := it_f hF c4
        refine aw_aload_n hC dX6_ruin_28 rfl ?_
        refine aw_iload_n hC dX6_ruin_29 rfl ?_
        obtain ⟨r7, h9, q8, hF⟩ := bd_some hF
        refine clRX6_434 hC hRm hbt dX6_ruin_30 rfl rfl (by decide) (Nat.le_of_ble_eq_true rfl) (Nat.le_of_ble_eq_true rfl) (ok_X6_isRuin q8) ?_
        refine aw_if_eq (tgt := 42) hC dX6_ruin_33 (by decide) (fun c10 => ?_) (fun c10 => ?_)
        · have hF := it_t hF c10
          refine aw_iconst hC dX6_ruin_42 (by decide) ?_
          refine aw_ior hC dX6_ruin_43 ?_
          obtain ⟨v11, ev11, hF⟩ := lb_some hF
          refine aw_eqT ev11 ?_
          clear ev11
          refine aw_istore1 hC dX6_ruin_44 rfl ?_
          refine aw_iinc2 hC dX6_ruin_45 rfl ?_
          refine aw_goto (tgt := 9) hC dX6_ruin_48 (by decide) ?_
          exact ih0 _ _ _ r (hb1 _ (Option.some.inj hF).symm) hX
        · have hF := it_f hF c10
          refine aw_iconst hC dX6_ruin_36 (by decide) ?_
          refine aw_iload_n hC dX6_ruin_37 rfl ?_
          refine aw_ishl hC dX6_ruin_38 ?_
          refine aw_goto (tgt := 43) hC dX6_ruin_39 (by decide) ?_
          refine aw_ior hC dX6_ruin_43 ?_
          obtain ⟨v13, ev13, hF⟩ := lb_some hF
          refine aw_eqT ev13 ?_
          clear ev13
          refine aw_istore1 hC dX6_ruin_44 rfl ?_
          refine aw_iinc2 hC dX6_ruin_45 rfl ?_
          refine aw_goto (tgt := 9) hC dX6_ruin_48 (by decide) ?_
          exact ih0 _ _ _ r (hb1 _ (Option.some.inj hF).symm) hX
theorem ok_X6_ruin {G : GD} {n : Nat}  {h : Hp} {res : Int × Hp} (hF : fX6_ruin  h = some res) : Con G yX6_ruin cX6_ruin 3 (some .int) 7 0 0 true [(2, ((35 : Nat) : Int))] n h (FQ 0 n res) := by
  refine con_of (pad := 2) (own := RX6) (plainFor_of_name (by decide)) rfl rfl ?_
  intro X hC hbt hr hnm hZ hRm hn0
  have hK : ∀ (x9 : Int) (h9 : Hp), res = (x9, h9) → FQ 0 n res (0, x9) n h9 := fun x9 h9 e => by subst e; exact ⟨rfl, rfl, rfl⟩
  unfold fX6_ruin at hF
  show AW G X 0 [(2, ((35 : Nat) : Int)), (9, 0), (9, 0)] [] n h 0 0
  refine aw_aload_n hC dX6_ruin_0 rfl ?_
  refine aw_iconst hC dX6_ruin_1 (by decide) ?_
  obtain ⟨h1, eh1, hF⟩ := lb_some hF
  refine aw_p6i (k := 0) (a := 35) hC dX6_ruin_2 lkRX6_129 (by decide) rfl rfl rfl rfl rfl (Or.inl ⟨hbt, by decide⟩) (fun _ => by decide) ?_
  refine aw_eqH eh1 ?_
  clear eh1
  refine aw_iconst hC dX6_ruin_5 (by decide) ?_
  refine aw_istore1 hC dX6_ruin_6 rfl ?_
  refine aw_iconst hC dX6_ruin_7 (by decide) ?_
  refine aw_istore2 hC dX6_ruin_8 rfl ?_
  obtain ⟨e15, he, hF⟩ := bp_some hF
  refine fX6_ruin_l9_ok hC hZ hRm hbt hr FU _ _ _ e15 he (fun y16 h17 er => ?_)
  replace er := er.symm
  subst er
  try dsimp only at hF
  refine aw_iload_n hC dX6_ruin_51 rfl ?_
  exact aw_ireturn hC hZ (Nat.zero_le _) (Nat.zero_le _) hr dX6_ruin_52 (hK _ _ (Option.some.inj hF).symm)
def fX6_mostBy_l8 (x1 : Int) (x2 : Int) (x3 : Int) (h : Hp) : Option ((Int × Int × Hp) ⊕ (Int × Hp)) :=
  (if (h 35 3) ≤ x3 then some (.inr (x2, h)) else bd_ (fX6_taxBy x3 x1 h) (fun r5 h7 => (if r5 ≤ x2 then some (.inl (x2, (i_add x3 1), h7)) else bd_ (fX6_taxBy x3 x1 h7) (fun r10 h12 => some (.inl (r10, (i_add x3 1), h12))))))
def fX6_mostBy (x1 : Int) (h : Hp) : Option (Int × Hp) :=
  bd_ (fX6_laysOut h) (fun r1 h3 => bp_ (it_ (fun s => fX6_mostBy_l8 x1 s.1 s.2.1 s.2.2) FU (0, 0, h3)) (fun e14 => (fun y15 h16 => some (y15, h16)) e14.1 e14.2))
theorem fX6_mostBy_l8_ok {G : GD} {X : CX} {n : Nat} {Q : Av → Nat → Hp → Prop} (hC : Cx G X RX6 cX6_mostBy) (hZ : ZOK X G Q 0 0) (hRm : X.R = rmd 5 0 0) (hbt : X.bt = true) (hr : X.meth.sig.returnType = (some .int)) {x1 : Int} : ∀ (f : Nat) (x2 : Int) (x3 : Int) (h : Hp) (r : Int × Hp), it_ (fun s => fX6_mostBy_l8 x1 s.1 s.2.1 s.2.2) f (x2, x3, h) = some r → (∀ (y2 : Int) (h9 : Hp), r = (y2, h9) → AW G X 43 [(9, 0), (9, 0), (0, y2), (9, 0)] [] n h9 0 0) → AW G X 8 [(2, ((35 : Nat) : Int)), (0, x1), (0, x2), (0, x3)] [] n h 0 0 := by
  intro f
  induction f with
  | zero => intro x2 x3 h r hI; cases hI
  | succ f ih0 =>
    intro x2 x3 h r hI hX
    obtain ⟨b, hF, hb1, hb2⟩ := it_succ hI
    have hF : fX6_mostBy_l8 x1 x2 x3 h = some b := hF
    unfold fX6_mostBy_l8 at hF
    refine aw_iload_n hC dX6_mostBy_8 rfl ?_
    refine aw_aload_n hC dX6_mostBy_9 rfl ?_
    refine aw_g6i (k := 3) (a := 35) hC dX6_mostBy_10 lkRX6_297 (by decide) rfl rfl rfl (Or.inl ⟨hbt, by decide⟩) ?_
    refine aw_icmp_ge (tgt := 43) hC dX6_mostBy_13 (by decide) (fun c4 => ?_) (fun c4 => ?_)
    · have hF := it_t hF c4
      refine aw_weak (ls' := [(9, 0), (9, 0), (0, x2), (9, 0)]) ⟨Or.inl rfl, Or.inl rfl, Or.inr rfl, Or.inl rfl, trivial⟩ ?_
      exact hX _ _ (hb2 _ (Option.some.inj hF).symm).symm
    · have hF := it_f hF c4
      refine aw_aload_n hC dX6_mostBy_16 rfl ?_
      refine aw_iload_n hC dX6_mostBy_17 rfl ?_
      refine aw_iload_n hC dX6_mostBy_18 rfl ?_
      obtain ⟨r5, h7, q6, hF⟩ := bd_some hF
      refine clRX6_376 hC hRm hbt dX6_mostBy_19 rfl rfl (by decide) (Nat.le_of_ble_eq_true rfl) (Nat.le_of_ble_eq_true rfl) (ok_X6_taxBy q6) ?_
      refine aw_iload_n hC dX6_mostBy_22 rfl ?_
      refine aw_icmp_le (tgt := 35) hC dX6_mostBy_23 (by decide) (fun c8 => ?_) (fun c8 => ?_)
      · have hF := it_t hF c8
        refine aw_iload_n hC dX6_mostBy_35 rfl ?_
        refine aw_istore2 hC dX6_mostBy_36 rfl ?_
        refine aw_iinc3 hC dX6_mostBy_37 rfl ?_
        refine aw_goto (tgt := 8) hC dX6_mostBy_40 (by decide) ?_
        exact ih0 _ _ _ r (hb1 _ (Option.some.inj hF).symm) hX
      · have hF := it_f hF c8
        refine aw_aload_n hC dX6_mostBy_26 rfl ?_
        refine aw_iload_n hC dX6_mostBy_27 rfl ?_
        refine aw_iload_n hC dX6_mostBy_28 rfl ?_
        obtain ⟨r10, h12, q11, hF⟩ := bd_some hF
        refine clRX6_376 hC hRm hbt dX6_mostBy_29 rfl rfl (by decide) (Nat.le_of_ble_eq_true rfl) (Nat.le_of_ble_eq_true rfl) (ok_X6_taxBy q11) ?_
        refine aw_goto (tgt := 36) hC dX6_mostBy_32 (by decide) ?_
        refine aw_istore2 hC dX6_mostBy_36 rfl ?_
        refine aw_iinc3 hC dX6_mostBy_37 rfl ?_
        refine aw_goto (tgt := 8) hC dX6_mostBy_40 (by decide) ?_
        exact ih0 _ _ _ r (hb1 _ (Option.some.inj hF).symm) hX
theorem ok_X6_mostBy {G : GD} {n : Nat} {x1 : Int} {h : Hp} {res : Int × Hp} (hF : fX6_mostBy x1 h = some res) : Con G yX6_mostBy cX6_mostBy 4 (some .int) 5 0 0 true [(2, ((35 : Nat) : Int)), (0, x1)] n h (FQ 0 n res) := by
  refine con_of (pad := 2) (own := RX6) (plainFor_of_name (by decide)) rfl rfl ?_
  intro X hC hbt hr hnm hZ hRm hn0
  have hK : ∀ (x9 : Int) (h9 : Hp), res = (x9, h9) → FQ 0 n res (0, x9) n h9 := fun x9 h9 e => by subst e; exact ⟨rfl, rfl, rfl⟩
  unfold fX6_mostBy at hF
  show AW G X 0 [(2, ((35 : Nat) : Int)), (0, x1), (9, 0), (9, 0)] [] n h 0 0
  refine aw_aload_n hC dX6_mostBy_0 rfl ?_
  obtain ⟨r1, h3, q2, hF⟩ := bd_some hF
  refine clRX6_379 hC hRm hbt dX6_mostBy_1 rfl rfl (by decide) (Nat.le_of_ble_eq_true rfl) (Nat.le_of_ble_eq_true rfl) (ok_X6_laysOut q2) ?_
  refine aw_iconst hC dX6_mostBy_4 (by decide) ?_
  refine aw_istore2 hC dX6_mostBy_5 rfl ?_
  refine aw_iconst hC dX6_mostBy_6 (by decide) ?_
  refine aw_istore3 hC dX6_mostBy_7 rfl ?_
  obtain ⟨e14, he, hF⟩ := bp_some hF
  refine fX6_mostBy_l8_ok hC hZ hRm hbt hr FU _ _ _ e14 he (fun y15 h16 er => ?_)
  replace er := er.symm
  subst er
  try dsimp only at hF
  refine aw_iload_n hC dX6_mostBy_43 rfl ?_
  exact aw_ireturn hC hZ (Nat.zero_le _) (Nat.zero_le _) hr dX6_mostBy_44 (hK _ _ (Option.some.inj hF).symm)
def fX6_compare_j24 (x1 : Int) (x2 : Int) (z0 : Int) (h : Hp) : Option (Int × Hp) :=
  bd_ (fX6_right z0 1 h) (fun r3 h5 => (if r3 = 0 then some (0, h5) else bd_ (fX6_isWhat x2 1 h5) (fun r7 h9 => (if r7 = 0 then some (0, h9) else (if x2 = 0 then bd_ (fX6_sumBy x1 h9) (fun r15 h17 => some (r15, h17)) else bd_ (fX6_mostBy x1 h9) (fun r12 h14 => some (r12, h14)))))))
def fX6_compare_j23 (x1 : Int) (x2 : Int) (h : Hp) : Option (Int × Hp) :=
  fX6_compare_j24 x1 x2 0 h
def fX6_compare (x1 : Int) (x2 : Int) (h : Hp) : Option (Int × Hp) :=
  lb_ (st h 35 0 0) (fun h1 => (if x1 < (-1) then fX6_compare_j23 x1 x2 h1 else (if (h1 35 4) ≤ x1 then fX6_compare_j23 x1 x2 h1 else fX6_compare_j24 x1 x2 1 h1)))
theorem fX6_compare_j24_ok {G : GD} {X : CX} {n : Nat} {Q : Av → Nat → Hp → Prop} (hC : Cx G X RX6 cX6_compare) (hZ : ZOK X G Q 0 0) (hRm : X.R = rmd 6 0 0) (hbt : X.bt = true) (hr : X.meth.sig.returnType = (some .int)) {x1 : Int} {x2 : Int} {z0 : Int} {h : Hp} {res : Int × Hp} (hF : fX6_compare_j24 x1 x2 z0 h = some res) (hK : ∀ (x9 : Int) (h9 : Hp), res = (x9, h9) → Q (0, x9) n h9) : AW G X 24 [(2, ((35 : Nat) : Int)), (0, x1), (0, x2)] [(0, z0), (2, ((35 : Nat) : Int))] n h 0 0 := by
  unfold fX6_compare_j24 at hF
  refine aw_iconst hC dX6_compare_24 (by decide) ?_
  obtain ⟨r3, h5, q4, hF⟩ := bd_some hF
  refine clRX6_290 hC hRm hbt dX6_compare_25 rfl rfl (by decide) (Nat.le_of_ble_eq_true rfl) (Nat.le_of_ble_eq_true rfl) (ok_X6_right q4) ?_
  refine aw_if_eq (tgt := 40) hC dX6_compare_28 (by decide) (fun c6 => ?_) (fun c6 => ?_)
  · have hF := it_t hF c6
    refine aw_iconst hC dX6_compare_40 (by decide) ?_
    exact aw_ireturn hC hZ (Nat.zero_le _) (Nat.zero_le _) hr dX6_compare_41 (hK _ _ (Option.some.inj hF).symm)
  · have hF := it_f hF c6
    refine aw_aload_n hC dX6_compare_31 rfl ?_
    refine aw_iload_n hC dX6_compare_32 rfl ?_
    refine aw_iconst hC dX6_compare_33 (by decide) ?_
    obtain ⟨r7, h9, q8, hF⟩ := bd_some hF
    refine clRX6_398 hC hRm hbt dX6_compare_34 rfl rfl (by decide) (Nat.le_of_ble_eq_true rfl) (Nat.le_of_ble_eq_true rfl) (ok_X6_isWhat q8) ?_
    refine aw_if_ne (tgt := 42) hC dX6_compare_37 (by decide) (fun c10 => ?_) (fun c10 => ?_)
    · have hF := it_f hF c10
      refine aw_iload_n hC dX6_compare_42 rfl ?_
      refine aw_if_ne (tgt := 54) hC dX6_compare_43 (by decide) (fun c11 => ?_) (fun c11 => ?_)
      · have hF := it_f hF c11
        refine aw_aload_n hC dX6_compare_54 rfl ?_
        refine aw_iload_n hC dX6_compare_55 rfl ?_
        obtain ⟨r12, h14, q13, hF⟩ := bd_some hF
        refine clRX6_437 hC hRm hbt dX6_compare_56 rfl rfl (by decide) (Nat.le_of_ble_eq_true rfl) (Nat.le_of_ble_eq_true rfl) (ok_X6_mostBy q13) ?_
        exact aw_ireturn hC hZ (Nat.zero_le _) (Nat.zero_le _) hr dX6_compare_59 (hK _ _ (Option.some.inj hF).symm)
      · have hF := it_t hF c11
        refine aw_aload_n hC dX6_compare_46 rfl ?_
        refine aw_iload_n hC dX6_compare_47 rfl ?_
        obtain ⟨r15, h17, q16, hF⟩ := bd_some hF
        refine clRX6_382 hC hRm hbt dX6_compare_48 rfl rfl (by decide) (Nat.le_of_ble_eq_true rfl) (Nat.le_of_ble_eq_true rfl) (ok_X6_sumBy q16) ?_
        refine aw_goto (tgt := 59) hC dX6_compare_51 (by decide) ?_
        exact aw_ireturn hC hZ (Nat.zero_le _) (Nat.zero_le _) hr dX6_compare_59 (hK _ _ (Option.some.inj hF).symm)
    · have hF := it_t hF c10
      refine aw_iconst hC dX6_compare_40 (by decide) ?_
      exact aw_ireturn hC hZ (Nat.zero_le _) (Nat.zero_le _) hr dX6_compare_41 (hK _ _ (Option.some.inj hF).symm)
theorem fX6_compare_j23_ok {G : GD} {X : CX} {n : Nat} {Q : Av → Nat → Hp → Prop} (hC : Cx G X RX6 cX6_compare) (hZ : ZOK X G Q 0 0) (hRm : X.R = rmd 6 0 0) (hbt : X.bt = true) (hr : X.meth.sig.returnType = (some .int)) {x1 : Int} {x2 : Int} {h : Hp} {res : Int × Hp} (hF : fX6_compare_j23 x1 x2 h = some res) (hK : ∀ (x9 : Int) (h9 : Hp), res = (x9, h9) → Q (0, x9) n h9) : AW G X 23 [(2, ((35 : Nat) : Int)), (0, x1), (0, x2)] [(2, ((35 : Nat) : Int))] n h 0 0 := by
  unfold fX6_compare_j23 at hF
  refine aw_iconst hC dX6_compare_23 (by decide) ?_
  exact fX6_compare_j24_ok hC hZ hRm hbt hr hF hK
theorem ok_X6_compare {G : GD} {n : Nat} {x1 : Int} {x2 : Int} {h : Hp} {res : Int × Hp} (hF : fX6_compare x1 x2 h = some res) : Con G yX6_compare cX6_compare 3 (some .int) 6 0 0 true [(2, ((35 : Nat) : Int)), (0, x1), (0, x2)] n h (FQ 0 n res) := by
  refine con_of (pad := 0) (own := RX6) (plainFor_of_name (by decide)) rfl rfl ?_
  intro X hC hbt hr hnm hZ hRm hn0
  have hK : ∀ (x9 : Int) (h9 : Hp), res = (x9, h9) → FQ 0 n res (0, x9) n h9 := fun x9 h9 e => by subst e; exact ⟨rfl, rfl, rfl⟩
  unfold fX6_compare at hF
  show AW G X 0 [(2, ((35 : Nat) : Int)), (0, x1), (0, x2)] [] n h 0 0
  refine aw_aload_n hC dX6_compare_0 rfl ?_
  refine aw_iconst hC dX6_compare_1 (by decide) ?_
  obtain ⟨h1, eh1, hF⟩ := lb_some hF
  refine aw_p6i (k := 0) (a := 35) hC dX6_compare_2 lkRX6_129 (by decide) rfl rfl rfl rfl rfl (Or.inl ⟨hbt, by decide⟩) (fun _ => by decide) ?_
  refine aw_eqH eh1 ?_
  clear eh1
  refine aw_aload_n hC dX6_compare_5 rfl ?_
  refine aw_iload_n hC dX6_compare_6 rfl ?_
  refine aw_iconst hC dX6_compare_7 (by decide) ?_
  refine aw_icmp_lt (tgt := 23) hC dX6_compare_8 (by decide) (fun c2 => ?_) (fun c2 => ?_)
  · have hF := it_t hF c2
    exact fX6_compare_j23_ok hC hZ hRm hbt hr hF hK
  · have hF := it_f hF c2
    refine aw_iload_n hC dX6_compare_11 rfl ?_
    refine aw_aload_n hC dX6_compare_12 rfl ?_
    refine aw_g6i (k := 4) (a := 35) hC dX6_compare_13 lkRX6_300 (by decide) rfl rfl rfl (Or.inl ⟨hbt, by decide⟩) ?_
    refine aw_icmp_ge (tgt := 23) hC dX6_compare_16 (by decide) (fun c18 => ?_) (fun c18 => ?_)
    · have hF := it_t hF c18
      exact fX6_compare_j23_ok hC hZ hRm hbt hr hF hK
    · have hF := it_f hF c18
      refine aw_iconst hC dX6_compare_19 (by decide) ?_
      refine aw_goto (tgt := 24) hC dX6_compare_20 (by decide) ?_
      exact fX6_compare_j24_ok hC hZ hRm hbt hr hF hK
def fX6_mildest_l27 (x1 : Int) (x2 : Int) (x3 : Int) (h : Hp) : Option ((Int × Int × Hp) ⊕ (Int × Hp)) :=
  (if (h 35 4) ≤ x3 then some (.inr (x2, h)) else bd_ (fX6_sumBy x3 h) (fun r9 h11 => (if r9 < x1 then some (.inl (x2, (i_add x3 1), h11)) else (if x2 = (-1) then some (.inl (x3, (i_add x3 1), h11)) else bd_ (fX6_mostBy x3 h11) (fun r16 h18 => bd_ (fX6_mostBy x2 h18) (fun r19 h21 => (if r19 ≤ r16 then some (.inl (x2, (i_add x3 1), h21)) else some (.inl (x3, (i_add x3 1), h21)))))))))
def fX6_mildest (x1 : Int) (h : Hp) : Option (Int × Hp) :=
  lb_ (st h 35 0 0) (fun h1 => bp_ (fX6_within x1 0 9999 h1) (fun r2 => bd_ (fX6_right r2 1 h1) (fun r4 h6 => (if r4 = 0 then some (0, h6) else bp_ (it_ (fun s => fX6_mildest_l27 x1 s.1 s.2.1 s.2.2) FU ((-1), 0, h6)) (fun e25 => (fun y26 h27 => some (y26, h27)) e25.1 e25.2)))))
theorem fX6_mildest_l27_ok {G : GD} {X : CX} {n : Nat} {Q : Av → Nat → Hp → Prop} (hC : Cx G X RX6 cX6_mildest) (hZ : ZOK X G Q 0 0) (hRm : X.R = rmd 6 0 0) (hbt : X.bt = true) (hr : X.meth.sig.returnType = (some .int)) {x1 : Int} : ∀ (f : Nat) (x2 : Int) (x3 : Int) (h : Hp) (r : Int × Hp), it_ (fun s => fX6_mildest_l27 x1 s.1 s.2.1 s.2.2) f (x2, x3, h) = some r → (∀ (y2 : Int) (h9 : Hp), r = (y2, h9) → AW G X 70 [(9, 0), (9, 0), (0, y2), (9, 0)] [] n h9 0 0) → AW G X 27 [(2, ((35 : Nat) : Int)), (0, x1), (0, x2), (0, x3)] [] n h 0 0 := by
  intro f
  induction f with
  | zero => intro x2 x3 h r hI; cases hI
  | succ f ih0 =>
    intro x2 x3 h r hI hX
    obtain ⟨b, hF, hb1, hb2⟩ := it_succ hI
    have hF : fX6_mildest_l27 x1 x2 x3 h = some b := hF
    unfold fX6_mildest_l27 at hF
    refine aw_iload_n hC dX6_mildest_27 rfl ?_
    refine aw_aload_n hC dX6_mildest_28 rfl ?_
    refine aw_g6i (k := 4) (a := 35) hC dX6_mildest_29 lkRX6_300 (by decide) rfl rfl rfl (Or.inl ⟨hbt, by decide⟩) ?_
    refine aw_icmp_ge (tgt := 70) hC dX6_mildest_32 (by decide) (fun c8 => ?_) (fun c8 => ?_)
    · have hF := it_t hF c8
      refine aw_weak (ls' := [(9, 0), (9, 0), (0, x2), (9, 0)]) ⟨Or.inl rfl, Or.inl rfl, Or.inr rfl, Or.inl rfl, trivial⟩ ?_
      exact hX _ _ (hb2 _ (Option.some.inj hF).symm).symm
    · have hF := it_f hF c8
      refine aw_aload_n hC dX6_mildest_35 rfl ?_
      refine aw_iload_n hC dX6_mildest_36 rfl ?_
      obtain ⟨r9, h11, q10, hF⟩ := bd_some hF
      refine clRX6_382 hC hRm hbt dX6_mildest_37 rfl rfl (by decide) (Nat.le_of_ble_eq_true rfl) (Nat.le_of_ble_eq_true rfl) (ok_X6_sumBy q10) ?_
      refine aw_iload_n hC dX6_mildest_40 rfl ?_
      refine aw_icmp_lt (tgt := 64) hC dX6_mildest_41 (by decide) (fun c12 => ?_) (fun c12 => ?_)
      · have hF := it_t hF c12
        refine aw_iinc3 hC dX6_mildest_64 rfl ?_
        refine aw_goto (tgt := 27) hC dX6_mildest_67 (by decide) ?_
        exact ih0 _ _ _ r (hb1 _ (Option.some.inj hF).symm) hX
      · have hF := it_f hF c12
        refine aw_iload_n hC dX6_mildest_44 rfl ?_
        refine aw_iconst hC dX6_mildest_45 (by decide) ?_
        refine aw_icmp_eq (tgt := 62) hC dX6_mildest_46 (by decide) (fun c14 => ?_) (fun c14 => ?_)
        · have hF := it_t hF c14
          refine aw_iload_n hC dX6_mildest_62 rfl ?_
          refine aw_istore2 hC dX6_mildest_63 rfl ?_
          refine aw_iinc3 hC dX6_mildest_64 rfl ?_
          refine aw_goto (tgt := 27) hC dX6_mildest_67 (by decide) ?_
          exact ih0 _ _ _ r (hb1 _ (Option.some.inj hF).symm) hX
        · have hF := it_f hF c14
          refine aw_aload_n hC dX6_mildest_49 rfl ?_
          refine aw_iload_n hC dX6_mildest_50 rfl ?_
          obtain ⟨r16, h18, q17, hF⟩ := bd_some hF
          refine clRX6_437 hC hRm hbt dX6_mildest_51 rfl rfl (by decide) (Nat.le_of_ble_eq_true rfl) (Nat.le_of_ble_eq_true rfl) (ok_X6_mostBy q17) ?_
          refine aw_aload_n hC dX6_mildest_54 rfl ?_
          refine aw_iload_n hC dX6_mildest_55 rfl ?_
          obtain ⟨r19, h21, q20, hF⟩ := bd_some hF
          refine clRX6_437 hC hRm hbt dX6_mildest_56 rfl rfl (by decide) (Nat.le_of_ble_eq_true rfl) (Nat.le_of_ble_eq_true rfl) (ok_X6_mostBy q20) ?_
          refine aw_icmp_ge (tgt := 64) hC dX6_mildest_59 (by decide) (fun c22 => ?_) (fun c22 => ?_)
          · have hF := it_t hF c22
            refine aw_iinc3 hC dX6_mildest_64 rfl ?_
            refine aw_goto (tgt := 27) hC dX6_mildest_67 (by decide) ?_
            exact ih0 _ _ _ r (hb1 _ (Option.some.inj hF).symm) hX
          · have hF := it_f hF c22
            refine aw_iload_n hC dX6_mildest_62 rfl ?_
            refine aw_istore2 hC dX6_mildest_63 rfl ?_
            refine aw_iinc3 hC dX6_mildest_64 rfl ?_
            refine aw_goto (tgt := 27) hC dX6_mildest_67 (by decide) ?_
            exact ih0 _ _ _ r (hb1 _ (Option.some.inj hF).symm) hX
theorem ok_X6_mildest {G : GD} {n : Nat} {x1 : Int} {h : Hp} {res : Int × Hp} (hF : fX6_mildest x1 h = some res) : Con G yX6_mildest cX6_mildest 4 (some .int) 6 0 0 true [(2, ((35 : Nat) : Int)), (0, x1)] n h (FQ 0 n res) := by
  refine con_of (pad := 2) (own := RX6) (plainFor_of_name (by decide)) rfl rfl ?_
  intro X hC hbt hr hnm hZ hRm hn0
  have hK : ∀ (x9 : Int) (h9 : Hp), res = (x9, h9) → FQ 0 n res (0, x9) n h9 := fun x9 h9 e => by subst e; exact ⟨rfl, rfl, rfl⟩
  unfold fX6_mildest at hF
  show AW G X 0 [(2, ((35 : Nat) : Int)), (0, x1), (9, 0), (9, 0)] [] n h 0 0
  refine aw_aload_n hC dX6_mildest_0 rfl ?_
  refine aw_iconst hC dX6_mildest_1 (by decide) ?_
  obtain ⟨h1, eh1, hF⟩ := lb_some hF
  refine aw_p6i (k := 0) (a := 35) hC dX6_mildest_2 lkRX6_129 (by decide) rfl rfl rfl rfl rfl (Or.inl ⟨hbt, by decide⟩) (fun _ => by decide) ?_
  refine aw_eqH eh1 ?_
  clear eh1
  refine aw_aload_n hC dX6_mildest_5 rfl ?_
  refine aw_iload_n hC dX6_mildest_6 rfl ?_
  refine aw_iconst hC dX6_mildest_7 (by decide) ?_
  refine aw_sipush hC dX6_mildest_8 (by decide) (by decide) ?_
  obtain ⟨r2, q3, hF⟩ := bp_some hF
  refine clRX6_385 hC hRm hbt dX6_mildest_11 (Nat.le_of_ble_eq_true rfl) (Nat.le_of_ble_eq_true rfl) (ok_X6_within q3) ?_
  refine aw_iconst hC dX6_mildest_14 (by decide) ?_
  obtain ⟨r4, h6, q5, hF⟩ := bd_some hF
  refine clRX6_290 hC hRm hbt dX6_mildest_15 rfl rfl (by decide) (Nat.le_of_ble_eq_true rfl) (Nat.le_of_ble_eq_true rfl) (ok_X6_right q5) ?_
  refine aw_if_ne (tgt := 23) hC dX6_mildest_18 (by decide) (fun c7 => ?_) (fun c7 => ?_)
  · have hF := it_f hF c7
    refine aw_iconst hC dX6_mildest_23 (by decide) ?_
    refine aw_istore2 hC dX6_mildest_24 rfl ?_
    refine aw_iconst hC dX6_mildest_25 (by decide) ?_
    refine aw_istore3 hC dX6_mildest_26 rfl ?_
    obtain ⟨e25, he, hF⟩ := bp_some hF
    refine fX6_mildest_l27_ok hC hZ hRm hbt hr FU _ _ _ e25 he (fun y26 h27 er => ?_)
    replace er := er.symm
    subst er
    try dsimp only at hF
    refine aw_iload_n hC dX6_mildest_70 rfl ?_
    exact aw_ireturn hC hZ (Nat.zero_le _) (Nat.zero_le _) hr dX6_mildest_71 (hK _ _ (Option.some.inj hF).symm)
  · have hF := it_t hF c7
    refine aw_iconst hC dX6_mildest_21 (by decide) ?_
    exact aw_ireturn hC hZ (Nat.zero_le _) (Nat.zero_le _) hr dX6_mildest_22 (hK _ _ (Option.some.inj hF).symm)
def fX6_stepsTo (x1 : Int) (x2 : Int) (h : Hp) : Option (Int) :=
  gd_ ((h 35 1) ≠ 0) (gd_ ((h 35 1) ≠ 0) (bp_ (fX6_off ((i_rem x1 ((h 35 1)))) ((i_rem x2 ((h 35 1)))) h) (fun r3 => gd_ ((h 35 1) ≠ 0) (gd_ ((h 35 1) ≠ 0) (bp_ (fX6_off ((i_div x1 ((h 35 1)))) ((i_div x2 ((h 35 1)))) h) (fun r7 => (if r3 ≤ r7 then some r7 else some r3)))))))
theorem ok_X6_stepsTo {G : GD} {n : Nat} {x1 : Int} {x2 : Int} {h : Hp} {res : Int} (hF : fX6_stepsTo x1 x2 h = some res) : Con G yX6_stepsTo cX6_stepsTo 5 (some .int) 1 0 0 true [(2, ((35 : Nat) : Int)), (0, x1), (0, x2)] n h (FQ 0 n (res, h)) := by
  refine con_of (pad := 2) (own := RX6) (plainFor_of_name (by decide)) rfl rfl ?_
  intro X hC hbt hr hnm hZ hRm hn0
  have hK : ∀ (x9 : Int), res = x9 → FQ 0 n (res, h) (0, x9) n h := fun x9 e => by subst e; exact ⟨rfl, rfl, rfl⟩
  unfold fX6_stepsTo at hF
  show AW G X 0 [(2, ((35 : Nat) : Int)), (0, x1), (0, x2), (9, 0), (9, 0)] [] n h 0 0
  refine aw_iload_n hC dX6_stepsTo_0 rfl ?_
  refine aw_aload_n hC dX6_stepsTo_1 rfl ?_
  refine aw_g6i (k := 1) (a := 35) hC dX6_stepsTo_2 lkRX6_7 (by decide) rfl rfl rfl (Or.inl ⟨hbt, by decide⟩) ?_
  obtain ⟨g1, hF⟩ := gd_some hF
  refine aw_irem hC dX6_stepsTo_5 g1 ?_
  refine aw_iload_n hC dX6_stepsTo_6 rfl ?_
  refine aw_aload_n hC dX6_stepsTo_7 rfl ?_
  refine aw_g6i (k := 1) (a := 35) hC dX6_stepsTo_8 lkRX6_7 (by decide) rfl rfl rfl (Or.inl ⟨hbt, by decide⟩) ?_
  obtain ⟨g2, hF⟩ := gd_some hF
  refine aw_irem hC dX6_stepsTo_11 g2 ?_
  obtain ⟨r3, q4, hF⟩ := bp_some hF
  refine clRX6_440 hC hRm hbt dX6_stepsTo_12 (Nat.le_of_ble_eq_true rfl) (Nat.le_of_ble_eq_true rfl) (ok_X6_off q4) ?_
  refine aw_istore3 hC dX6_stepsTo_15 rfl ?_
  refine aw_iload_n hC dX6_stepsTo_16 rfl ?_
  refine aw_aload_n hC dX6_stepsTo_17 rfl ?_
  refine aw_g6i (k := 1) (a := 35) hC dX6_stepsTo_18 lkRX6_7 (by decide) rfl rfl rfl (Or.inl ⟨hbt, by decide⟩) ?_
  obtain ⟨g5, hF⟩ := gd_some hF
  refine aw_idiv hC dX6_stepsTo_21 g5 ?_
  refine aw_iload_n hC dX6_stepsTo_22 rfl ?_
  refine aw_aload_n hC dX6_stepsTo_23 rfl ?_
  refine aw_g6i (k := 1) (a := 35) hC dX6_stepsTo_24 lkRX6_7 (by decide) rfl rfl rfl (Or.inl ⟨hbt, by decide⟩) ?_
  obtain ⟨g6, hF⟩ := gd_some hF
  refine aw_idiv hC dX6_stepsTo_27 g6 ?_
  obtain ⟨r7, q8, hF⟩ := bp_some hF
  refine clRX6_440 hC hRm hbt dX6_stepsTo_28 (Nat.le_of_ble_eq_true rfl) (Nat.le_of_ble_eq_true rfl) (ok_X6_off q8) ?_
  refine aw_istore4 hC dX6_stepsTo_31 rfl ?_
  refine aw_iload_n hC dX6_stepsTo_33 rfl ?_
  refine aw_iload hC dX6_stepsTo_34 rfl ?_
  refine aw_icmp_le (tgt := 43) hC dX6_stepsTo_36 (by decide) (fun c9 => ?_) (fun c9 => ?_)
  · have hF := it_t hF c9
    refine aw_iload hC dX6_stepsTo_43 rfl ?_
    exact aw_ireturn hC hZ (Nat.zero_le _) (Nat.zero_le _) hr dX6_stepsTo_45 (hK _ (Option.some.inj hF).symm)
  · have hF := it_f hF c9
    refine aw_iload_n hC dX6_stepsTo_39 rfl ?_
    refine aw_goto (tgt := 45) hC dX6_stepsTo_40 (by decide) ?_
    exact aw_ireturn hC hZ (Nat.zero_le _) (Nat.zero_le _) hr dX6_stepsTo_45 (hK _ (Option.some.inj hF).symm)
def fX6_changes (x1 : Int) (x2 : Int) (h : Hp) : Option (Int × Hp) :=
  gd_ (0 ≤ x1 ∧ x1 < 6) (lb_ ((h 62 (Int.toNat x1))) (fun v2 => gd_ (0 ≤ x2 ∧ x2 < 6) (gd_ (0 ≤ x1 ∧ x1 < 6) (lb_ (st h 62 (Int.toNat x1) ((h 62 (Int.toNat x2)))) (fun h5 => gd_ (0 ≤ x2 ∧ x2 < 6) (lb_ (st h5 62 (Int.toNat x2) v2) (fun h7 => some (0, h7))))))))
theorem ok_X6_changes {G : GD} {n : Nat} {x1 : Int} {x2 : Int} {h : Hp} {res : Int × Hp} (hF : fX6_changes x1 x2 h = some res) : Con G yX6_changes cX6_changes 4 none 0 0 0 true [(2, ((35 : Nat) : Int)), (0, x1), (0, x2)] n h (FQ 8 n res) := by
  refine con_of (pad := 1) (own := RX6) (plainFor_of_name (by decide)) rfl rfl ?_
  intro X hC hbt hr hnm hZ hRm hn0
  have hK : ∀ (x9 : Int) (h9 : Hp), res = (x9, h9) → FQ 8 n res (8, x9) n h9 := fun x9 h9 e => by subst e; exact ⟨rfl, rfl, rfl⟩
  unfold fX6_changes at hF
  show AW G X 0 [(2, ((35 : Nat) : Int)), (0, x1), (0, x2), (9, 0)] [] n h 0 0
  refine aw_aload_n hC dX6_changes_0 rfl ?_
  refine aw_gc6 (k := 63) (a := 35) (b := 62) hC hbt dX6_changes_1 lkRX6_111 (by decide) rfl rfl rfl (by decide) (by decide) ?_
  refine aw_iload_n hC dX6_changes_4 rfl ?_
  obtain ⟨g1, hF⟩ := gd_some hF
  refine aw_iaload (a := 62) hC dX6_changes_5 rfl rfl (Or.inl ⟨hbt, by decide⟩) g1.1 g1.2 ?_
  obtain ⟨v2, ev2, hF⟩ := lb_some hF
  refine aw_eqT ev2 ?_
  clear ev2
  refine aw_istore3 hC dX6_changes_6 rfl ?_
  refine aw_aload_n hC dX6_changes_7 rfl ?_
  refine aw_gc6 (k := 63) (a := 35) (b := 62) hC hbt dX6_changes_8 lkRX6_111 (by decide) rfl rfl rfl (by decide) (by decide) ?_
  refine aw_iload_n hC dX6_changes_11 rfl ?_
  refine aw_aload_n hC dX6_changes_12 rfl ?_
  refine aw_gc6 (k := 63) (a := 35) (b := 62) hC hbt dX6_changes_13 lkRX6_111 (by decide) rfl rfl rfl (by decide) (by decide) ?_
  refine aw_iload_n hC dX6_changes_16 rfl ?_
  obtain ⟨g3, hF⟩ := gd_some hF
  refine aw_iaload (a := 62) hC dX6_changes_17 rfl rfl (Or.inl ⟨hbt, by decide⟩) g3.1 g3.2 ?_
  obtain ⟨g4, hF⟩ := gd_some hF
  obtain ⟨h5, eh5, hF⟩ := lb_some hF
  refine aw_iastore (a := 62) hC dX6_changes_18 rfl rfl (Or.inl ⟨hbt, by decide⟩) g4.1 g4.2 ?_
  refine aw_eqH eh5 ?_
  clear eh5
  refine aw_aload_n hC dX6_changes_19 rfl ?_
  refine aw_gc6 (k := 63) (a := 35) (b := 62) hC hbt dX6_changes_20 lkRX6_111 (by decide) rfl rfl rfl (by decide) (by decide) ?_
  refine aw_iload_n hC dX6_changes_23 rfl ?_
  refine aw_iload_n hC dX6_changes_24 rfl ?_
  obtain ⟨g6, hF⟩ := gd_some hF
  obtain ⟨h7, eh7, hF⟩ := lb_some hF
  refine aw_iastore (a := 62) hC dX6_changes_25 rfl rfl (Or.inl ⟨hbt, by decide⟩) g6.1 g6.2 ?_
  refine aw_eqH eh7 ?_
  clear eh7
  exact aw_return hC hZ (Nat.zero_le _) (Nat.zero_le _) hr dX6_changes_26 (hK _ _ (Option.some.inj hF).symm)
def fX6_nextRow_l7 (x1 : Int) (h : Hp) : Option ((Int) ⊕ (Int)) :=
  (if x1 < 0 then some (.inr x1) else gd_ (0 ≤ x1 ∧ x1 < 6) (gd_ (0 ≤ (i_add x1 1) ∧ (i_add x1 1) < 6) ((if (h 62 (Int.toNat x1)) ≤ (h 62 (Int.toNat ((i_add x1 1)))) then some (.inr x1) else some (.inl (i_add x1 (-1)))))))
def fX6_nextRow_l47 (x1 : Int) (x2 : Int) (h : Hp) : Option ((Int) ⊕ (Int)) :=
  gd_ (0 ≤ x2 ∧ x2 < 6) (gd_ (0 ≤ x1 ∧ x1 < 6) ((if (h 62 (Int.toNat x1)) ≤ (h 62 (Int.toNat x2)) then some (.inr x2) else some (.inl (i_add x2 (-1))))))
def fX6_nextRow_l86 (x3 : Int) (x4 : Int) (h : Hp) : Option ((Int × Int × Hp) ⊕ (Hp)) :=
  (if x4 ≤ x3 then some (.inr h) else bd_ (fX6_changes x3 x4 h) (fun r23 h25 => some (.inl ((i_add x3 1), (i_add x4 (-1)), h25))))
def fX6_nextRow_j34 (x1 : Int) (h : Hp) : Option (Int × Hp) :=
  (if 0 ≤ x1 then lb_ ((i_sub ((h 35 3)) 1)) (fun v10 => bp_ (it_ (fun s => fX6_nextRow_l47 x1 s h) FU v10) (fun e15 => (fun y16 => bd_ (fX6_changes x1 y16 h) (fun r17 h19 => lb_ ((i_add x1 1)) (fun v20 => lb_ ((i_sub ((h19 35 3)) 1)) (fun v21 => bp_ (it_ (fun s => fX6_nextRow_l86 s.1 s.2.1 s.2.2) FU (v20, v21, h19)) (fun e28 => (fun h29 => some (1, h29)) e28))))) e15)) else some (0, h))
def fX6_nextRow  (h : Hp) : Option (Int × Hp) :=
  lb_ ((i_sub ((h 35 3)) 2)) (fun v1 => bp_ (it_ (fun s => fX6_nextRow_l7 s h) FU v1) (fun e7 => (fun y8 => fX6_nextRow_j34 y8 h) e7))
theorem fX6_nextRow_l7_ok {G : GD} {X : CX} {n : Nat} {Q : Av → Nat → Hp → Prop} (hC : Cx G X RX6 cX6_nextRow) (hZ : ZOK X G Q 0 0) (hRm : X.R = rmd 1 0 0) (hbt : X.bt = true) (hr : X.meth.sig.returnType = (some .boolean))  {h : Hp} : ∀ (f : Nat) (x1 : Int) (r : Int), it_ (fun s => fX6_nextRow_l7 s h) f x1 = some r → (∀ (y1 : Int), r = y1 → AW G X 34 [(2, ((35 : Nat) : Int)), (0, y1), (9, 0), (9, 0), (9, 0)] [] n h 0 0) → AW G X 7 [(2, ((35 : Nat) : Int)), (0, x1), (9, 0), (9, 0), (9, 0)] [] n h 0 0 := by
  intro f
  induction f with
  | zero => intro x1 r hI; cases hI
  | succ f ih0 =>
    intro x1 r hI hX
    obtain ⟨b, hF, hb1, hb2⟩ := it_succ hI
    have hF : fX6_nextRow_l7 x1 h = some b := hF
    unfold fX6_nextRow_l7 at hF
    refine aw_iload_n hC dX6_nextRow_7 rfl ?_
    refine aw_if_lt (tgt := 34) hC dX6_nextRow_8 (by decide) (fun c2 => ?_) (fun c2 => ?_)
    · have hF := it_t hF c2
      exact hX _ (hb2 _ (Option.some.inj hF).symm).symm
    · have hF := it_f hF c2
      refine aw_aload_n hC dX6_nextRow_11 rfl ?_
      refine aw_gc6 (k := 63) (a := 35) (b := 62) hC hbt dX6_nextRow_12 lkRX6_111 (by decide) rfl rfl rfl (by decide) (by decide) ?_
      refine aw_iload_n hC dX6_nextRow_15 rfl ?_
      obtain ⟨g3, hF⟩ := gd_some hF
      refine aw_iaload (a := 62) hC dX6_nextRow_16 rfl rfl (Or.inl ⟨hbt, by decide⟩) g3.1 g3.2 ?_
      refine aw_aload_n hC dX6_nextRow_17 rfl ?_
      refine aw_gc6 (k := 63) (a := 35) (b := 62) hC hbt dX6_nextRow_18 lkRX6_111 (by decide) rfl rfl rfl (by decide) (by decide) ?_
      refine aw_iload_n hC dX6_nextRow_21 rfl ?_
      refine aw_iconst hC dX6_nextRow_22 (by decide) ?_
      refine aw_iadd hC dX6_nextRow_23 ?_
      obtain ⟨g4, hF⟩ := gd_some hF
      refine aw_iaload (a := 62) hC dX6_nextRow_24 rfl rfl (Or.inl ⟨hbt, by decide⟩) g4.1 g4.2 ?_
      refine aw_icmp_le (tgt := 34) hC dX6_nextRow_25 (by decide) (fun c5 => ?_) (fun c5 => ?_)
      · have hF := it_t hF c5
        exact hX _ (hb2 _ (Option.some.inj hF).symm).symm
      · have hF := it_f hF c5
        refine aw_iinc1 hC dX6_nextRow_28 rfl ?_
        refine aw_goto (tgt := 7) hC dX6_nextRow_31 (by decide) ?_
        exact ih0 _ r (hb1 _ (Option.some.inj hF).symm) hX
theorem fX6_nextRow_l47_ok {G : GD} {X : CX} {n : Nat} {Q : Av → Nat → Hp → Prop} (hC : Cx G X RX6 cX6_nextRow) (hZ : ZOK X G Q 0 0) (hRm : X.R = rmd 1 0 0) (hbt : X.bt = true) (hr : X.meth.sig.returnType = (some .boolean)) {x1 : Int} {h : Hp} : ∀ (f : Nat) (x2 : Int) (r : Int), it_ (fun s => fX6_nextRow_l47 x1 s h) f x2 = some r → (∀ (y2 : Int), r = y2 → AW G X 68 [(2, ((35 : Nat) : Int)), (0, x1), (0, y2), (9, 0), (9, 0)] [] n h 0 0) → AW G X 47 [(2, ((35 : Nat) : Int)), (0, x1), (0, x2), (9, 0), (9, 0)] [] n h 0 0 := by
  intro f
  induction f with
  | zero => intro x2 r hI; cases hI
  | succ f ih0 =>
    intro x2 r hI hX
    obtain ⟨b, hF, hb1, hb2⟩ := it_succ hI
    have hF : fX6_nextRow_l47 x1 x2 h = some b := hF
    unfold fX6_nextRow_l47 at hF
    refine aw_aload_n hC dX6_nextRow_47 rfl ?_
    refine aw_gc6 (k := 63) (a := 35) (b := 62) hC hbt dX6_nextRow_48 lkRX6_111 (by decide) rfl rfl rfl (by decide) (by decide) ?_
    refine aw_iload_n hC dX6_nextRow_51 rfl ?_
    obtain ⟨g11, hF⟩ := gd_some hF
    refine aw_iaload (a := 62) hC dX6_nextRow_52 rfl rfl (Or.inl ⟨hbt, by decide⟩) g11.1 g11.2 ?_
    refine aw_aload_n hC dX6_nextRow_53 rfl ?_
    refine aw_gc6 (k := 63) (a := 35) (b := 62) hC hbt dX6_nextRow_54 lkRX6_111 (by decide) rfl rfl rfl (by decide) (by decide) ?_
    refine aw_iload_n hC dX6_nextRow_57 rfl ?_
    obtain ⟨g12, hF⟩ := gd_some hF
    refine aw_iaload (a := 62) hC dX6_nextRow_58 rfl rfl (Or.inl ⟨hbt, by decide⟩) g12.1 g12.2 ?_
    refine aw_icmp_ge (tgt := 68) hC dX6_nextRow_59 (by decide) (fun c13 => ?_) (fun c13 => ?_)
    · have hF := it_t hF c13
      exact hX _ (hb2 _ (Option.some.inj hF).symm).symm
    · have hF := it_f hF c13
      refine aw_iinc2 hC dX6_nextRow_62 rfl ?_
      refine aw_goto (tgt := 47) hC dX6_nextRow_65 (by decide) ?_
      exact ih0 _ r (hb1 _ (Option.some.inj hF).symm) hX
theorem fX6_nextRow_l86_ok {G : GD} {X : CX} {n : Nat} {Q : Av → Nat → Hp → Prop} (hC : Cx G X RX6 cX6_nextRow) (hZ : ZOK X G Q 0 0) (hRm : X.R = rmd 1 0 0) (hbt : X.bt = true) (hr : X.meth.sig.returnType = (some .boolean))  : ∀ (f : Nat) (x3 : Int) (x4 : Int) (h : Hp) (r : Hp), it_ (fun s => fX6_nextRow_l86 s.1 s.2.1 s.2.2) f (x3, x4, h) = some r → (∀ (h9 : Hp), r = h9 → AW G X 108 [(9, 0), (9, 0), (9, 0), (9, 0), (9, 0)] [] n h9 0 0) → AW G X 86 [(2, ((35 : Nat) : Int)), (9, 0), (9, 0), (0, x3), (0, x4)] [] n h 0 0 := by
  intro f
  induction f with
  | zero => intro x3 x4 h r hI; cases hI
  | succ f ih0 =>
    intro x3 x4 h r hI hX
    obtain ⟨b, hF, hb1, hb2⟩ := it_succ hI
    have hF : fX6_nextRow_l86 x3 x4 h = some b := hF
    unfold fX6_nextRow_l86 at hF
    refine aw_iload_n hC dX6_nextRow_86 rfl ?_
    refine aw_iload hC dX6_nextRow_87 rfl ?_
    refine aw_icmp_ge (tgt := 108) hC dX6_nextRow_89 (by decide) (fun c22 => ?_) (fun c22 => ?_)
    · have hF := it_t hF c22
      refine aw_weak (ls' := [(9, 0), (9, 0), (9, 0), (9, 0), (9, 0)]) ⟨Or.inl rfl, Or.inl rfl, Or.inl rfl, Or.inl rfl, Or.inl rfl, trivial⟩ ?_
      exact hX _ (hb2 _ (Option.some.inj hF).symm).symm
    · have hF := it_f hF c22
      refine aw_aload_n hC dX6_nextRow_92 rfl ?_
      refine aw_iload_n hC dX6_nextRow_93 rfl ?_
      refine aw_iload hC dX6_nextRow_94 rfl ?_
      obtain ⟨r23, h25, q24, hF⟩ := bd_some hF
      refine clRX6_443 hC hRm hbt dX6_nextRow_96 rfl rfl (by decide) (Nat.le_of_ble_eq_true rfl) (Nat.le_of_ble_eq_true rfl) (ok_X6_changes q24) ?_
      refine aw_iinc3 hC dX6_nextRow_99 rfl ?_
      refine aw_iinc4 hC dX6_nextRow_102 rfl ?_
      refine aw_goto (tgt := 86) hC dX6_nextRow_105 (by decide) ?_
      exact ih0 _ _ _ r (hb1 _ (Option.some.inj hF).symm) hX
theorem fX6_nextRow_j34_ok {G : GD} {X : CX} {n : Nat} {Q : Av → Nat → Hp → Prop} (hC : Cx G X RX6 cX6_nextRow) (hZ : ZOK X G Q 0 0) (hRm : X.R = rmd 1 0 0) (hbt : X.bt = true) (hr : X.meth.sig.returnType = (some .boolean)) {x1 : Int} {h : Hp} {res : Int × Hp} (hF : fX6_nextRow_j34 x1 h = some res) (hK : ∀ (x9 : Int) (h9 : Hp), res = (x9, h9) → Q (0, x9) n h9) : AW G X 34 [(2, ((35 : Nat) : Int)), (0, x1), (9, 0), (9, 0), (9, 0)] [] n h 0 0 := by
  unfold fX6_nextRow_j34 at hF
  refine aw_iload_n hC dX6_nextRow_34 rfl ?_
  refine aw_if_ge (tgt := 40) hC dX6_nextRow_35 (by decide) (fun c9 => ?_) (fun c9 => ?_)
  · have hF := it_t hF c9
    refine aw_aload_n hC dX6_nextRow_40 rfl ?_
    refine aw_g6i (k := 3) (a := 35) hC dX6_nextRow_41 lkRX6_297 (by decide) rfl rfl rfl (Or.inl ⟨hbt, by decide⟩) ?_
    refine aw_iconst hC dX6_nextRow_44 (by decide) ?_
    refine aw_isub hC dX6_nextRow_45 ?_
    obtain ⟨v10, ev10, hF⟩ := lb_some hF
    refine aw_eqT ev10 ?_
    clear ev10
    refine aw_istore2 hC dX6_nextRow_46 rfl ?_
    obtain ⟨e15, he, hF⟩ := bp_some hF
    refine fX6_nextRow_l47_ok hC hZ hRm hbt hr FU _ e15 he (fun y16 er => ?_)
    replace er := er.symm
    subst er
    try dsimp only at hF
    refine aw_aload_n hC dX6_nextRow_68 rfl ?_
    refine aw_iload_n hC dX6_nextRow_69 rfl ?_
    refine aw_iload_n hC dX6_nextRow_70 rfl ?_
    obtain ⟨r17, h19, q18, hF⟩ := bd_some hF
    refine clRX6_443 hC hRm hbt dX6_nextRow_71 rfl rfl (by decide) (Nat.le_of_ble_eq_true rfl) (Nat.le_of_ble_eq_true rfl) (ok_X6_changes q18) ?_
    refine aw_iload_n hC dX6_nextRow_74 rfl ?_
    refine aw_iconst hC dX6_nextRow_75 (by decide) ?_
    refine aw_iadd hC dX6_nextRow_76 ?_
    obtain ⟨v20, ev20, hF⟩ := lb_some hF
    refine aw_eqT ev20 ?_
    clear ev20
    refine aw_istore3 hC dX6_nextRow_77 rfl ?_
    refine aw_aload_n hC dX6_nextRow_78 rfl ?_
    refine aw_g6i (k := 3) (a := 35) hC dX6_nextRow_79 lkRX6_297 (by decide) rfl rfl rfl (Or.inl ⟨hbt, by decide⟩) ?_
    refine aw_iconst hC dX6_nextRow_82 (by decide) ?_
    refine aw_isub hC dX6_nextRow_83 ?_
    obtain ⟨v21, ev21, hF⟩ := lb_some hF
    refine aw_eqT ev21 ?_
    clear ev21
    refine aw_istore4 hC dX6_nextRow_84 rfl ?_
    refine aw_weak (ls' := [(2, ((35 : Nat) : Int)), (9, 0), (9, 0), (0, v20), (0, v21)]) ⟨Or.inr rfl, Or.inl rfl, Or.inl rfl, Or.inr rfl, Or.inr rfl, trivial⟩ ?_
    obtain ⟨e28, he, hF⟩ := bp_some hF
    refine fX6_nextRow_l86_ok hC hZ hRm hbt hr FU _ _ _ e28 he (fun h29 er => ?_)
    replace er := er.symm
    subst er
    try dsimp only at hF
    refine aw_iconst hC dX6_nextRow_108 (by decide) ?_
    exact aw_zreturn hC hZ (Nat.zero_le _) (Nat.zero_le _) hr rfl dX6_nextRow_109 (by decide) (hK _ _ (Option.some.inj hF).symm)
  · have hF := it_f hF c9
    refine aw_iconst hC dX6_nextRow_38 (by decide) ?_
    exact aw_zreturn hC hZ (Nat.zero_le _) (Nat.zero_le _) hr rfl dX6_nextRow_39 (by decide) (hK _ _ (Option.some.inj hF).symm)
theorem ok_X6_nextRow {G : GD} {n : Nat}  {h : Hp} {res : Int × Hp} (hF : fX6_nextRow  h = some res) : Con G yX6_nextRow cX6_nextRow 5 (some .boolean) 1 0 0 true [(2, ((35 : Nat) : Int))] n h (FQ 0 n res) := by
  refine con_of (pad := 4) (own := RX6) (plainFor_of_name (by decide)) rfl rfl ?_
  intro X hC hbt hr hnm hZ hRm hn0
  have hK : ∀ (x9 : Int) (h9 : Hp), res = (x9, h9) → FQ 0 n res (0, x9) n h9 := fun x9 h9 e => by subst e; exact ⟨rfl, rfl, rfl⟩
  unfold fX6_nextRow at hF
  show AW G X 0 [(2, ((35 : Nat) : Int)), (9, 0), (9, 0), (9, 0), (9, 0)] [] n h 0 0
  refine aw_aload_n hC dX6_nextRow_0 rfl ?_
  refine aw_g6i (k := 3) (a := 35) hC dX6_nextRow_1 lkRX6_297 (by decide) rfl rfl rfl (Or.inl ⟨hbt, by decide⟩) ?_
  refine aw_iconst hC dX6_nextRow_4 (by decide) ?_
  refine aw_isub hC dX6_nextRow_5 ?_
  obtain ⟨v1, ev1, hF⟩ := lb_some hF
  refine aw_eqT ev1 ?_
  clear ev1
  refine aw_istore1 hC dX6_nextRow_6 rfl ?_
  obtain ⟨e7, he, hF⟩ := bp_some hF
  refine fX6_nextRow_l7_ok hC hZ hRm hbt hr FU _ e7 he (fun y8 er => ?_)
  replace er := er.symm
  subst er
  try dsimp only at hF
  exact fX6_nextRow_j34_ok hC hZ hRm hbt hr hF hK
def fX6_copies_62_61_l2 (x3 : Int) (h : Hp) : Option ((Int × Hp) ⊕ (Hp)) :=
  (if ((6 : Nat) : Int) ≤ x3 then some (.inr h) else gd_ (0 ≤ x3 ∧ x3 < 6) (gd_ (0 ≤ x3 ∧ x3 < 6) (lb_ (st h 61 (Int.toNat x3) ((h 62 (Int.toNat x3)))) (fun h4 => some (.inl ((i_add x3 1), h4))))))
def fX6_copies_62_61  (h : Hp) : Option (Int × Hp) :=
  bp_ (it_ (fun s => fX6_copies_62_61_l2 s.1 s.2) FU (0, h)) (fun e6 => (fun h7 => some (0, h7)) e6)
theorem fX6_copies_62_61_l2_ok {G : GD} {X : CX} {n : Nat} {Q : Av → Nat → Hp → Prop} (hC : Cx G X RX6 cX6_copies) (hZ : ZOK X G Q 0 0) (hRm : X.R = rmd 0 0 0) (hbt : X.bt = true) (hr : X.meth.sig.returnType = none)  : ∀ (f : Nat) (x3 : Int) (h : Hp) (r : Hp), it_ (fun s => fX6_copies_62_61_l2 s.1 s.2) f (x3, h) = some r → (∀ (h9 : Hp), r = h9 → AW G X 20 [(9, 0), (9, 0), (9, 0), (9, 0)] [] n h9 0 0) → AW G X 2 [(9, 0), (2, ((62 : Nat) : Int)), (2, ((61 : Nat) : Int)), (0, x3)] [] n h 0 0 := by
  intro f
  induction f with
  | zero => intro x3 h r hI; cases hI
  | succ f ih0 =>
    intro x3 h r hI hX
    obtain ⟨b, hF, hb1, hb2⟩ := it_succ hI
    have hF : fX6_copies_62_61_l2 x3 h = some b := hF
    unfold fX6_copies_62_61_l2 at hF
    refine aw_iload_n hC dX6_copies_2 rfl ?_
    refine aw_aload_n hC dX6_copies_3 rfl ?_
    refine aw_alen (a := 62) hC dX6_copies_4 rfl rfl (by decide) (by decide) (Or.inl ⟨hbt, by decide⟩) ?_
    refine aw_icmp_ge (tgt := 20) hC dX6_copies_5 (by decide) (fun c1 => ?_) (fun c1 => ?_)
    · have hF := it_t hF c1
      refine aw_weak (ls' := [(9, 0), (9, 0), (9, 0), (9, 0)]) ⟨Or.inl rfl, Or.inl rfl, Or.inl rfl, Or.inl rfl, trivial⟩ ?_
      exact hX _ (hb2 _ (Option.some.inj hF).symm).symm
    · have hF := it_f hF c1
      refine aw_aload_n hC dX6_copies_8 rfl ?_
      refine aw_iload_n hC dX6_copies_9 rfl ?_
      refine aw_aload_n hC dX6_copies_10 rfl ?_
      refine aw_iload_n hC dX6_copies_11 rfl ?_
      obtain ⟨g2, hF⟩ := gd_some hF
      refine aw_iaload (a := 62) hC dX6_copies_12 rfl rfl (Or.inl ⟨hbt, by decide⟩) g2.1 g2.2 ?_
      obtain ⟨g3, hF⟩ := gd_some hF
      obtain ⟨h4, eh4, hF⟩ := lb_some hF
      refine aw_iastore (a := 61) hC dX6_copies_13 rfl rfl (Or.inl ⟨hbt, by decide⟩) g3.1 g3.2 ?_
      refine aw_eqH eh4 ?_
      clear eh4
      refine aw_iinc3 hC dX6_copies_14 rfl ?_
      refine aw_goto (tgt := 2) hC dX6_copies_17 (by decide) ?_
      exact ih0 _ _ r (hb1 _ (Option.some.inj hF).symm) hX
theorem ok_X6_copies_62_61 {G : GD} {n : Nat}  {h : Hp} {res : Int × Hp} (hF : fX6_copies_62_61  h = some res) : Con G yX6_copies cX6_copies 4 none 0 0 0 true [(2, ((35 : Nat) : Int)), (2, ((62 : Nat) : Int)), (2, ((61 : Nat) : Int))] n h (FQ 8 n res) := by
  refine con_of (pad := 1) (own := RX6) (plainFor_of_name (by decide)) rfl rfl ?_
  intro X hC hbt hr hnm hZ hRm hn0
  have hK : ∀ (x9 : Int) (h9 : Hp), res = (x9, h9) → FQ 8 n res (8, x9) n h9 := fun x9 h9 e => by subst e; exact ⟨rfl, rfl, rfl⟩
  unfold fX6_copies_62_61 at hF
  show AW G X 0 [(2, ((35 : Nat) : Int)), (2, ((62 : Nat) : Int)), (2, ((61 : Nat) : Int)), (9, 0)] [] n h 0 0
  refine aw_iconst hC dX6_copies_0 (by decide) ?_
  refine aw_istore3 hC dX6_copies_1 rfl ?_
  refine aw_weak (ls' := [(9, 0), (2, ((62 : Nat) : Int)), (2, ((61 : Nat) : Int)), (0, 0)]) ⟨Or.inl rfl, Or.inr rfl, Or.inr rfl, Or.inr rfl, trivial⟩ ?_
  obtain ⟨e6, he, hF⟩ := bp_some hF
  refine fX6_copies_62_61_l2_ok hC hZ hRm hbt hr FU _ _ e6 he (fun h7 er => ?_)
  replace er := er.symm
  subst er
  try dsimp only at hF
  exact aw_return hC hZ (Nat.zero_le _) (Nat.zero_le _) hr dX6_copies_20 (hK _ _ (Option.some.inj hF).symm)
def fX6_round_l17 (x1 : Int) (x2 : Int) (h : Hp) : Option ((Int × Hp) ⊕ (Hp)) :=
  (if (h 35 3) ≤ x2 then some (.inr h) else gd_ (0 ≤ x2 ∧ x2 < 6) (lb_ (st h 62 (Int.toNat x2) x2) (fun h8 => some (.inl ((i_add x2 1), h8)))))
def fX6_round_j87 (x1 : Int) (x2 : Int) (x5 : Int) (z0 : Int) (z2 : Int) (h : Hp) : Option ((Int × Int) ⊕ (Int)) :=
  gd_ (0 ≤ x5 ∧ x5 < 6) (gd_ (0 ≤ (h 62 (Int.toNat x5)) ∧ (h 62 (Int.toNat x5)) < 7) (bp_ (fX6_stepsTo z0 ((h 37 (Int.toNat ((h 62 (Int.toNat x5)))))) h) (fun r19 => lb_ ((i_add z2 r19)) (fun v21 => some (.inl (v21, (i_add x5 1)))))))
def fX6_round_l52 (x1 : Int) (x2 : Int) (x4 : Int) (x5 : Int) (h : Hp) : Option ((Int × Int) ⊕ (Int)) :=
  (if (h 35 3) ≤ x5 then some (.inr x4) else (if x5 = 0 then fX6_round_j87 x1 x2 x5 x1 x4 h else gd_ (0 ≤ (i_sub x5 1) ∧ (i_sub x5 1) < 6) (gd_ (0 ≤ (h 62 (Int.toNat ((i_sub x5 1)))) ∧ (h 62 (Int.toNat ((i_sub x5 1)))) < 7) (fX6_round_j87 x1 x2 x5 ((h 37 (Int.toNat ((h 62 (Int.toNat ((i_sub x5 1)))))))) x4 h))))
def fX6_round_j137 (x1 : Int) (x2 : Int) (h : Hp) : Option ((Int × Int × Hp) ⊕ (Int × Hp)) :=
  bd_ (fX6_nextRow h) (fun r29 h31 => some (.inl (x2, r29, h31)))
def fX6_round_j122 (x1 : Int) (x4 : Int) (h : Hp) : Option ((Int × Int × Hp) ⊕ (Int × Hp)) :=
  bd_ (fX6_copies_62_61 h) (fun r26 h28 => fX6_round_j137 x1 x4 h28)
def fX6_round_l42 (x1 : Int) (x2 : Int) (x3 : Int) (h : Hp) : Option ((Int × Int × Hp) ⊕ (Int × Hp)) :=
  (if x3 = 0 then some (.inr (x2, h)) else bp_ (it_ (fun s => fX6_round_l52 x1 x2 s.1 s.2 h) FU (0, 0)) (fun e23 => (fun y24 => (if x2 = (-1) then fX6_round_j122 x1 y24 h else (if x2 ≤ y24 then fX6_round_j137 x1 x2 h else fX6_round_j122 x1 y24 h))) e23))
def fX6_round (x1 : Int) (h : Hp) : Option (Int × Hp) :=
  lb_ (st h 35 0 0) (fun h1 => bd_ (fX6_isCell x1 h1) (fun r2 h4 => (if r2 = 0 then some (0, h4) else bp_ (it_ (fun s => fX6_round_l17 x1 s.1 s.2) FU (0, h4)) (fun e10 => (fun h11 => bp_ (it_ (fun s => fX6_round_l42 x1 s.1 s.2.1 s.2.2) FU ((-1), 1, h11)) (fun e33 => (fun y34 h35 => lb_ (st h35 35 61 1) (fun h36 => some (y34, h36))) e33.1 e33.2)) e10))))
theorem fX6_round_l17_ok {G : GD} {X : CX} {n : Nat} {Q : Av → Nat → Hp → Prop} (hC : Cx G X RX6 cX6_round) (hZ : ZOK X G Q 0 0) (hRm : X.R = rmd 2 0 0) (hbt : X.bt = true) (hr : X.meth.sig.returnType = (some .int)) {x1 : Int} : ∀ (f : Nat) (x2 : Int) (h : Hp) (r : Hp), it_ (fun s => fX6_round_l17 x1 s.1 s.2) f (x2, h) = some r → (∀ (h9 : Hp), r = h9 → AW G X 38 [(2, ((35 : Nat) : Int)), (0, x1), (9, 0), (9, 0), (9, 0), (9, 0)] [] n h9 0 0) → AW G X 17 [(2, ((35 : Nat) : Int)), (0, x1), (0, x2), (9, 0), (9, 0), (9, 0)] [] n h 0 0 := by
  intro f
  induction f with
  | zero => intro x2 h r hI; cases hI
  | succ f ih0 =>
    intro x2 h r hI hX
    obtain ⟨b, hF, hb1, hb2⟩ := it_succ hI
    have hF : fX6_round_l17 x1 x2 h = some b := hF
    unfold fX6_round_l17 at hF
    refine aw_iload_n hC dX6_round_17 rfl ?_
    refine aw_aload_n hC dX6_round_18 rfl ?_
    refine aw_g6i (k := 3) (a := 35) hC dX6_round_19 lkRX6_297 (by decide) rfl rfl rfl (Or.inl ⟨hbt, by decide⟩) ?_
    refine aw_icmp_ge (tgt := 38) hC dX6_round_22 (by decide) (fun c6 => ?_) (fun c6 => ?_)
    · have hF := it_t hF c6
      refine aw_weak (ls' := [(2, ((35 : Nat) : Int)), (0, x1), (9, 0), (9, 0), (9, 0), (9, 0)]) ⟨Or.inr rfl, Or.inr rfl, Or.inl rfl, Or.inl rfl, Or.inl rfl, Or.inl rfl, trivial⟩ ?_
      exact hX _ (hb2 _ (Option.some.inj hF).symm).symm
    · have hF := it_f hF c6
      refine aw_aload_n hC dX6_round_25 rfl ?_
      refine aw_gc6 (k := 63) (a := 35) (b := 62) hC hbt dX6_round_26 lkRX6_111 (by decide) rfl rfl rfl (by decide) (by decide) ?_
      refine aw_iload_n hC dX6_round_29 rfl ?_
      refine aw_iload_n hC dX6_round_30 rfl ?_
      obtain ⟨g7, hF⟩ := gd_some hF
      obtain ⟨h8, eh8, hF⟩ := lb_some hF
      refine aw_iastore (a := 62) hC dX6_round_31 rfl rfl (Or.inl ⟨hbt, by decide⟩) g7.1 g7.2 ?_
      refine aw_eqH eh8 ?_
      clear eh8
      refine aw_iinc2 hC dX6_round_32 rfl ?_
      refine aw_goto (tgt := 17) hC dX6_round_35 (by decide) ?_
      exact ih0 _ _ r (hb1 _ (Option.some.inj hF).symm) hX
theorem fX6_round_j87_ok {G : GD} {X : CX} {n : Nat} {Q : Av → Nat → Hp → Prop} (hC : Cx G X RX6 cX6_round) (hZ : ZOK X G Q 0 0) (hRm : X.R = rmd 2 0 0) (hbt : X.bt = true) (hr : X.meth.sig.returnType = (some .int)) {x1 : Int} {x2 : Int} {x5 : Int} {z0 : Int} {z2 : Int} {h : Hp} {b : (Int × Int) ⊕ (Int)} (hF : fX6_round_j87 x1 x2 x5 z0 z2 h = some b) (hL9 : ∀ (u4 : Int) (u5 : Int), b = .inl (u4, u5) → AW G X 52 [(2, ((35 : Nat) : Int)), (0, x1), (0, x2), (9, 0), (0, u4), (0, u5)] [] n h 0 0) (hX9 : ∀ (w4 : Int), b = .inr w4 → AW G X 111 [(2, ((35 : Nat) : Int)), (0, x1), (0, x2), (9, 0), (0, w4), (9, 0)] [] n h 0 0) : AW G X 87 [(2, ((35 : Nat) : Int)), (0, x1), (0, x2), (9, 0), (9, 0), (0, x5)] [(0, z0), (2, ((35 : Nat) : Int)), (0, z2)] n h 0 0 := by
  unfold fX6_round_j87 at hF
  refine aw_aload_n hC dX6_round_87 rfl ?_
  refine aw_gc6 (k := 7) (a := 35) (b := 37) hC hbt dX6_round_88 lkRX6_20 (by decide) rfl rfl rfl (by decide) (by decide) ?_
  refine aw_aload_n hC dX6_round_91 rfl ?_
  refine aw_gc6 (k := 63) (a := 35) (b := 62) hC hbt dX6_round_92 lkRX6_111 (by decide) rfl rfl rfl (by decide) (by decide) ?_
  refine aw_iload hC dX6_round_95 rfl ?_
  obtain ⟨g17, hF⟩ := gd_some hF
  refine aw_iaload (a := 62) hC dX6_round_97 rfl rfl (Or.inl ⟨hbt, by decide⟩) g17.1 g17.2 ?_
  obtain ⟨g18, hF⟩ := gd_some hF
  refine aw_iaload (a := 37) hC dX6_round_98 rfl rfl (Or.inl ⟨hbt, by decide⟩) g18.1 g18.2 ?_
  obtain ⟨r19, q20, hF⟩ := bp_some hF
  refine clRX6_447 hC hRm hbt dX6_round_99 rfl rfl (by decide) (Nat.le_of_ble_eq_true rfl) (Nat.le_of_ble_eq_true rfl) (ok_X6_stepsTo q20) ?_
  refine aw_iadd hC dX6_round_102 ?_
  obtain ⟨v21, ev21, hF⟩ := lb_some hF
  refine aw_eqT ev21 ?_
  clear ev21
  refine aw_istore4 hC dX6_round_103 rfl ?_
  refine aw_iinc5 hC dX6_round_105 rfl ?_
  refine aw_goto (tgt := 52) hC dX6_round_108 (by decide) ?_
  exact hL9 _ _ (Option.some.inj hF).symm
theorem fX6_round_l52_ok {G : GD} {X : CX} {n : Nat} {Q : Av → Nat → Hp → Prop} (hC : Cx G X RX6 cX6_round) (hZ : ZOK X G Q 0 0) (hRm : X.R = rmd 2 0 0) (hbt : X.bt = true) (hr : X.meth.sig.returnType = (some .int)) {x1 : Int} {x2 : Int} {h : Hp} : ∀ (f : Nat) (x4 : Int) (x5 : Int) (r : Int), it_ (fun s => fX6_round_l52 x1 x2 s.1 s.2 h) f (x4, x5) = some r → (∀ (y4 : Int), r = y4 → AW G X 111 [(2, ((35 : Nat) : Int)), (0, x1), (0, x2), (9, 0), (0, y4), (9, 0)] [] n h 0 0) → AW G X 52 [(2, ((35 : Nat) : Int)), (0, x1), (0, x2), (9, 0), (0, x4), (0, x5)] [] n h 0 0 := by
  intro f
  induction f with
  | zero => intro x4 x5 r hI; cases hI
  | succ f ih0 =>
    intro x4 x5 r hI hX
    obtain ⟨b, hF, hb1, hb2⟩ := it_succ hI
    have hF : fX6_round_l52 x1 x2 x4 x5 h = some b := hF
    unfold fX6_round_l52 at hF
    refine aw_iload hC dX6_round_52 rfl ?_
    refine aw_aload_n hC dX6_round_54 rfl ?_
    refine aw_g6i (k := 3) (a := 35) hC dX6_round_55 lkRX6_297 (by decide) rfl rfl rfl (Or.inl ⟨hbt, by decide⟩) ?_
    refine aw_icmp_ge (tgt := 111) hC dX6_round_58 (by decide) (fun c13 => ?_) (fun c13 => ?_)
    · have hF := it_t hF c13
      refine aw_weak (ls' := [(2, ((35 : Nat) : Int)), (0, x1), (0, x2), (9, 0), (0, x4), (9, 0)]) ⟨Or.inr rfl, Or.inr rfl, Or.inr rfl, Or.inl rfl, Or.inr rfl, Or.inl rfl, trivial⟩ ?_
      exact hX _ (hb2 _ (Option.some.inj hF).symm).symm
    · have hF := it_f hF c13
      refine aw_iload hC dX6_round_61 rfl ?_
      refine aw_aload_n hC dX6_round_63 rfl ?_
      refine aw_iload hC dX6_round_64 rfl ?_
      refine aw_if_ne (tgt := 73) hC dX6_round_66 (by decide) (fun c14 => ?_) (fun c14 => ?_)
      · have hF := it_f hF c14
        refine aw_aload_n hC dX6_round_73 rfl ?_
        refine aw_gc6 (k := 7) (a := 35) (b := 37) hC hbt dX6_round_74 lkRX6_20 (by decide) rfl rfl rfl (by decide) (by decide) ?_
        refine aw_aload_n hC dX6_round_77 rfl ?_
        refine aw_gc6 (k := 63) (a := 35) (b := 62) hC hbt dX6_round_78 lkRX6_111 (by decide) rfl rfl rfl (by decide) (by decide) ?_
        refine aw_iload hC dX6_round_81 rfl ?_
        refine aw_iconst hC dX6_round_83 (by decide) ?_
        refine aw_isub hC dX6_round_84 ?_
        obtain ⟨g15, hF⟩ := gd_some hF
        refine aw_iaload (a := 62) hC dX6_round_85 rfl rfl (Or.inl ⟨hbt, by decide⟩) g15.1 g15.2 ?_
        obtain ⟨g16, hF⟩ := gd_some hF
        refine aw_iaload (a := 37) hC dX6_round_86 rfl rfl (Or.inl ⟨hbt, by decide⟩) g16.1 g16.2 ?_
        refine aw_weak (ls' := [(2, ((35 : Nat) : Int)), (0, x1), (0, x2), (9, 0), (9, 0), (0, x5)]) ⟨Or.inr rfl, Or.inr rfl, Or.inr rfl, Or.inl rfl, Or.inl rfl, Or.inr rfl, trivial⟩ ?_
        exact fX6_round_j87_ok hC hZ hRm hbt hr hF (fun u0 u1 e => ih0 u0 u1 r (hb1 _ e) hX) (fun w0 e => hX w0 (hb2 _ e).symm)
      · have hF := it_t hF c14
        refine aw_iload_n hC dX6_round_69 rfl ?_
        refine aw_goto (tgt := 87) hC dX6_round_70 (by decide) ?_
        refine aw_weak (ls' := [(2, ((35 : Nat) : Int)), (0, x1), (0, x2), (9, 0), (9, 0), (0, x5)]) ⟨Or.inr rfl, Or.inr rfl, Or.inr rfl, Or.inl rfl, Or.inl rfl, Or.inr rfl, trivial⟩ ?_
        exact fX6_round_j87_ok hC hZ hRm hbt hr hF (fun u0 u1 e => ih0 u0 u1 r (hb1 _ e) hX) (fun w0 e => hX w0 (hb2 _ e).symm)
theorem fX6_round_j137_ok {G : GD} {X : CX} {n : Nat} {Q : Av → Nat → Hp → Prop} (hC : Cx G X RX6 cX6_round) (hZ : ZOK X G Q 0 0) (hRm : X.R = rmd 2 0 0) (hbt : X.bt = true) (hr : X.meth.sig.returnType = (some .int)) {x1 : Int} {x2 : Int} {h : Hp} {b : (Int × Int × Hp) ⊕ (Int × Hp)} (hF : fX6_round_j137 x1 x2 h = some b) (hL9 : ∀ (u2 : Int) (u3 : Int) (h9 : Hp), b = .inl (u2, u3, h9) → AW G X 42 [(2, ((35 : Nat) : Int)), (0, x1), (0, u2), (0, u3), (9, 0), (9, 0)] [] n h9 0 0) (hX9 : ∀ (w2 : Int) (h9 : Hp), b = .inr (w2, h9) → AW G X 145 [(2, ((35 : Nat) : Int)), (9, 0), (0, w2), (9, 0), (9, 0), (9, 0)] [] n h9 0 0) : AW G X 137 [(2, ((35 : Nat) : Int)), (0, x1), (0, x2), (9, 0), (9, 0), (9, 0)] [] n h 0 0 := by
  unfold fX6_round_j137 at hF
  refine aw_aload_n hC dX6_round_137 rfl ?_
  obtain ⟨r29, h31, q30, hF⟩ := bd_some hF
  refine clRX6_450 hC hRm hbt dX6_round_138 rfl rfl (by decide) (Nat.le_of_ble_eq_true rfl) (Nat.le_of_ble_eq_true rfl) (ok_X6_nextRow q30) ?_
  refine aw_istore3 hC dX6_round_141 rfl ?_
  refine aw_goto (tgt := 42) hC dX6_round_142 (by decide) ?_
  exact hL9 _ _ _ (Option.some.inj hF).symm
theorem fX6_round_j122_ok {G : GD} {X : CX} {n : Nat} {Q : Av → Nat → Hp → Prop} (hC : Cx G X RX6 cX6_round) (hZ : ZOK X G Q 0 0) (hRm : X.R = rmd 2 0 0) (hbt : X.bt = true) (hr : X.meth.sig.returnType = (some .int)) {x1 : Int} {x4 : Int} {h : Hp} {b : (Int × Int × Hp) ⊕ (Int × Hp)} (hF : fX6_round_j122 x1 x4 h = some b) (hL9 : ∀ (u2 : Int) (u3 : Int) (h9 : Hp), b = .inl (u2, u3, h9) → AW G X 42 [(2, ((35 : Nat) : Int)), (0, x1), (0, u2), (0, u3), (9, 0), (9, 0)] [] n h9 0 0) (hX9 : ∀ (w2 : Int) (h9 : Hp), b = .inr (w2, h9) → AW G X 145 [(2, ((35 : Nat) : Int)), (9, 0), (0, w2), (9, 0), (9, 0), (9, 0)] [] n h9 0 0) : AW G X 122 [(2, ((35 : Nat) : Int)), (0, x1), (9, 0), (9, 0), (0, x4), (9, 0)] [] n h 0 0 := by
  unfold fX6_round_j122 at hF
  refine aw_iload hC dX6_round_122 rfl ?_
  refine aw_istore2 hC dX6_round_124 rfl ?_
  refine aw_aload_n hC dX6_round_125 rfl ?_
  refine aw_aload_n hC dX6_round_126 rfl ?_
  refine aw_gc6 (k := 63) (a := 35) (b := 62) hC hbt dX6_round_127 lkRX6_111 (by decide) rfl rfl rfl (by decide) (by decide) ?_
  refine aw_aload_n hC dX6_round_130 rfl ?_
  refine aw_gc6 (k := 62) (a := 35) (b := 61) hC hbt dX6_round_131 lkRX6_108 (by decide) rfl rfl rfl (by decide) (by decide) ?_
  obtain ⟨r26, h28, q27, hF⟩ := bd_some hF
  refine clRX6_306 hC hRm hbt dX6_round_134 rfl rfl (by decide) (Nat.le_of_ble_eq_true rfl) (Nat.le_of_ble_eq_true rfl) (ok_X6_copies_62_61 q27) ?_
  refine aw_weak (ls' := [(2, ((35 : Nat) : Int)), (0, x1), (0, x4), (9, 0), (9, 0), (9, 0)]) ⟨Or.inr rfl, Or.inr rfl, Or.inr rfl, Or.inl rfl, Or.inl rfl, Or.inl rfl, trivial⟩ ?_
  exact fX6_round_j137_ok hC hZ hRm hbt hr hF (fun u0 u1 u2 e => hL9 u0 u1 u2 e) (fun w0 w1 e => hX9 w0 w1 e)
theorem fX6_round_l42_ok {G : GD} {X : CX} {n : Nat} {Q : Av → Nat → Hp → Prop} (hC : Cx G X RX6 cX6_round) (hZ : ZOK X G Q 0 0) (hRm : X.R = rmd 2 0 0) (hbt : X.bt = true) (hr : X.meth.sig.returnType = (some .int)) {x1 : Int} : ∀ (f : Nat) (x2 : Int) (x3 : Int) (h : Hp) (r : Int × Hp), it_ (fun s => fX6_round_l42 x1 s.1 s.2.1 s.2.2) f (x2, x3, h) = some r → (∀ (y2 : Int) (h9 : Hp), r = (y2, h9) → AW G X 145 [(2, ((35 : Nat) : Int)), (9, 0), (0, y2), (9, 0), (9, 0), (9, 0)] [] n h9 0 0) → AW G X 42 [(2, ((35 : Nat) : Int)), (0, x1), (0, x2), (0, x3), (9, 0), (9, 0)] [] n h 0 0 := by
  intro f
  induction f with
  | zero => intro x2 x3 h r hI; cases hI
  | succ f ih0 =>
    intro x2 x3 h r hI hX
    obtain ⟨b, hF, hb1, hb2⟩ := it_succ hI
    have hF : fX6_round_l42 x1 x2 x3 h = some b := hF
    unfold fX6_round_l42 at hF
    refine aw_iload_n hC dX6_round_42 rfl ?_
    refine aw_if_eq (tgt := 145) hC dX6_round_43 (by decide) (fun c12 => ?_) (fun c12 => ?_)
    · have hF := it_t hF c12
      refine aw_weak (ls' := [(2, ((35 : Nat) : Int)), (9, 0), (0, x2), (9, 0), (9, 0), (9, 0)]) ⟨Or.inr rfl, Or.inl rfl, Or.inr rfl, Or.inl rfl, Or.inl rfl, Or.inl rfl, trivial⟩ ?_
      exact hX _ _ (hb2 _ (Option.some.inj hF).symm).symm
    · have hF := it_f hF c12
      refine aw_iconst hC dX6_round_46 (by decide) ?_
      refine aw_istore4 hC dX6_round_47 rfl ?_
      refine aw_iconst hC dX6_round_49 (by decide) ?_
      refine aw_istore5 hC dX6_round_50 rfl ?_
      refine aw_weak (ls' := [(2, ((35 : Nat) : Int)), (0, x1), (0, x2), (9, 0), (0, 0), (0, 0)]) ⟨Or.inr rfl, Or.inr rfl, Or.inr rfl, Or.inl rfl, Or.inr rfl, Or.inr rfl, trivial⟩ ?_
      obtain ⟨e23, he, hF⟩ := bp_some hF
      refine fX6_round_l52_ok hC hZ hRm hbt hr FU _ _ e23 he (fun y24 er => ?_)
      replace er := er.symm
      subst er
      try dsimp only at hF
      refine aw_iload_n hC dX6_round_111 rfl ?_
      refine aw_iconst hC dX6_round_112 (by decide) ?_
      refine aw_icmp_eq (tgt := 122) hC dX6_round_113 (by decide) (fun c25 => ?_) (fun c25 => ?_)
      · have hF := it_t hF c25
        refine aw_weak (ls' := [(2, ((35 : Nat) : Int)), (0, x1), (9, 0), (9, 0), (0, y24), (9, 0)]) ⟨Or.inr rfl, Or.inr rfl, Or.inl rfl, Or.inl rfl, Or.inr rfl, Or.inl rfl, trivial⟩ ?_
        exact fX6_round_j122_ok hC hZ hRm hbt hr hF (fun u0 u1 u2 e => ih0 u0 u1 u2 r (hb1 _ e) hX) (fun w0 w1 e => hX w0 w1 (hb2 _ e).symm)
      · have hF := it_f hF c25
        refine aw_iload hC dX6_round_116 rfl ?_
        refine aw_iload_n hC dX6_round_118 rfl ?_
        refine aw_icmp_ge (tgt := 137) hC dX6_round_119 (by decide) (fun c32 => ?_) (fun c32 => ?_)
        · have hF := it_t hF c32
          refine aw_weak (ls' := [(2, ((35 : Nat) : Int)), (0, x1), (0, x2), (9, 0), (9, 0), (9, 0)]) ⟨Or.inr rfl, Or.inr rfl, Or.inr rfl, Or.inl rfl, Or.inl rfl, Or.inl rfl, trivial⟩ ?_
          exact fX6_round_j137_ok hC hZ hRm hbt hr hF (fun u0 u1 u2 e => ih0 u0 u1 u2 r (hb1 _ e) hX) (fun w0 w1 e => hX w0 w1 (hb2 _ e).symm)
        · have hF := it_f hF c32
          refine aw_weak (ls' := [(2, ((35 : Nat) : Int)), (0, x1), (9, 0), (9, 0), (0, y24), (9, 0)]) ⟨Or.inr rfl, Or.inr rfl, Or.inl rfl, Or.inl rfl, Or.inr rfl, Or.inl rfl, trivial⟩ ?_
          exact fX6_round_j122_ok hC hZ hRm hbt hr hF (fun u0 u1 u2 e => ih0 u0 u1 u2 r (hb1 _ e) hX) (fun w0 w1 e => hX w0 w1 (hb2 _ e).symm)
theorem ok_X6_round {G : GD} {n : Nat} {x1 : Int} {h : Hp} {res : Int × Hp} (hF : fX6_round x1 h = some res) : Con G yX6_round cX6_round 6 (some .int) 2 0 0 true [(2, ((35 : Nat) : Int)), (0, x1)] n h (FQ 0 n res) := by
  refine con_of (pad := 4) (own := RX6) (plainFor_of_name (by decide)) rfl rfl ?_
  intro X hC hbt hr hnm hZ hRm hn0
  have hK : ∀ (x9 : Int) (h9 : Hp), res = (x9, h9) → FQ 0 n res (0, x9) n h9 := fun x9 h9 e => by subst e; exact ⟨rfl, rfl, rfl⟩
  unfold fX6_round at hF
  show AW G X 0 [(2, ((35 : Nat) : Int)), (0, x1), (9, 0), (9, 0), (9, 0), (9, 0)] [] n h 0 0
  refine aw_aload_n hC dX6_round_0 rfl ?_
  refine aw_iconst hC dX6_round_1 (by decide) ?_
  obtain ⟨h1, eh1, hF⟩ := lb_some hF
  refine aw_p6i (k := 0) (a := 35) hC dX6_round_2 lkRX6_129 (by decide) rfl rfl rfl rfl rfl (Or.inl ⟨hbt, by decide⟩) (fun _ => by decide) ?_
  refine aw_eqH eh1 ?_
  clear eh1
  refine aw_aload_n hC dX6_round_5 rfl ?_
  refine aw_iload_n hC dX6_round_6 rfl ?_
  obtain ⟨r2, h4, q3, hF⟩ := bd_some hF
  refine clRX6_395 hC hRm hbt dX6_round_7 rfl rfl (by decide) (Nat.le_of_ble_eq_true rfl) (Nat.le_of_ble_eq_true rfl) (ok_X6_isCell q3) ?_
  refine aw_if_ne (tgt := 15) hC dX6_round_10 (by decide) (fun c5 => ?_) (fun c5 => ?_)
  · have hF := it_f hF c5
    refine aw_iconst hC dX6_round_15 (by decide) ?_
    refine aw_istore2 hC dX6_round_16 rfl ?_
    obtain ⟨e10, he, hF⟩ := bp_some hF
    refine fX6_round_l17_ok hC hZ hRm hbt hr FU _ _ e10 he (fun h11 er => ?_)
    replace er := er.symm
    subst er
    try dsimp only at hF
    refine aw_iconst hC dX6_round_38 (by decide) ?_
    refine aw_istore2 hC dX6_round_39 rfl ?_
    refine aw_iconst hC dX6_round_40 (by decide) ?_
    refine aw_istore3 hC dX6_round_41 rfl ?_
    obtain ⟨e33, he, hF⟩ := bp_some hF
    refine fX6_round_l42_ok hC hZ hRm hbt hr FU _ _ _ e33 he (fun y34 h35 er => ?_)
    replace er := er.symm
    subst er
    try dsimp only at hF
    refine aw_aload_n hC dX6_round_145 rfl ?_
    refine aw_iconst hC dX6_round_146 (by decide) ?_
    obtain ⟨h36, eh36, hF⟩ := lb_some hF
    refine aw_p6z (k := 61) (a := 35) hC dX6_round_147 lkRX6_316 (by decide) rfl rfl rfl rfl rfl (Or.inl ⟨hbt, by decide⟩) (by decide) (fun _ => by decide) ?_
    refine aw_eqH eh36 ?_
    clear eh36
    refine aw_iload_n hC dX6_round_150 rfl ?_
    exact aw_ireturn hC hZ (Nat.zero_le _) (Nat.zero_le _) hr dX6_round_151 (hK _ _ (Option.some.inj hF).symm)
  · have hF := it_t hF c5
    refine aw_iconst hC dX6_round_13 (by decide) ?_
    exact aw_ireturn hC hZ (Nat.zero_le _) (Nat.zero_le _) hr dX6_round_14 (hK _ _ (Option.some.inj hF).symm)
def fX6_stop_j30 (x1 : Int) (z0 : Int) (h : Hp) : Option (Int × Hp) :=
  bd_ (fX6_right z0 1 h) (fun r3 h5 => (if r3 = 0 then some (0, h5) else gd_ (0 ≤ x1 ∧ x1 < 6) (some ((h5 61 (Int.toNat x1)), h5))))
def fX6_stop_j29 (x1 : Int) (h : Hp) : Option (Int × Hp) :=
  fX6_stop_j30 x1 0 h
def fX6_stop (x1 : Int) (h : Hp) : Option (Int × Hp) :=
  lb_ (st h 35 0 0) (fun h1 => (if (h1 35 61) = 0 then fX6_stop_j29 x1 h1 else (if x1 < 0 then fX6_stop_j29 x1 h1 else (if (h1 35 3) ≤ x1 then fX6_stop_j29 x1 h1 else fX6_stop_j30 x1 1 h1))))
theorem fX6_stop_j30_ok {G : GD} {X : CX} {n : Nat} {Q : Av → Nat → Hp → Prop} (hC : Cx G X RX6 cX6_stop) (hZ : ZOK X G Q 0 0) (hRm : X.R = rmd 1 0 0) (hbt : X.bt = true) (hr : X.meth.sig.returnType = (some .int)) {x1 : Int} {z0 : Int} {h : Hp} {res : Int × Hp} (hF : fX6_stop_j30 x1 z0 h = some res) (hK : ∀ (x9 : Int) (h9 : Hp), res = (x9, h9) → Q (0, x9) n h9) : AW G X 30 [(2, ((35 : Nat) : Int)), (0, x1)] [(0, z0), (2, ((35 : Nat) : Int))] n h 0 0 := by
  unfold fX6_stop_j30 at hF
  refine aw_iconst hC dX6_stop_30 (by decide) ?_
  obtain ⟨r3, h5, q4, hF⟩ := bd_some hF
  refine clRX6_290 hC hRm hbt dX6_stop_31 rfl rfl (by decide) (Nat.le_of_ble_eq_true rfl) (Nat.le_of_ble_eq_true rfl) (ok_X6_right q4) ?_
  refine aw_if_eq (tgt := 46) hC dX6_stop_34 (by decide) (fun c6 => ?_) (fun c6 => ?_)
  · have hF := it_t hF c6
    refine aw_iconst hC dX6_stop_46 (by decide) ?_
    exact aw_ireturn hC hZ (Nat.zero_le _) (Nat.zero_le _) hr dX6_stop_47 (hK _ _ (Option.some.inj hF).symm)
  · have hF := it_f hF c6
    refine aw_aload_n hC dX6_stop_37 rfl ?_
    refine aw_gc6 (k := 62) (a := 35) (b := 61) hC hbt dX6_stop_38 lkRX6_108 (by decide) rfl rfl rfl (by decide) (by decide) ?_
    refine aw_iload_n hC dX6_stop_41 rfl ?_
    obtain ⟨g7, hF⟩ := gd_some hF
    refine aw_iaload (a := 61) hC dX6_stop_42 rfl rfl (Or.inl ⟨hbt, by decide⟩) g7.1 g7.2 ?_
    refine aw_goto (tgt := 47) hC dX6_stop_43 (by decide) ?_
    exact aw_ireturn hC hZ (Nat.zero_le _) (Nat.zero_le _) hr dX6_stop_47 (hK _ _ (Option.some.inj hF).symm)
theorem fX6_stop_j29_ok {G : GD} {X : CX} {n : Nat} {Q : Av → Nat → Hp → Prop} (hC : Cx G X RX6 cX6_stop) (hZ : ZOK X G Q 0 0) (hRm : X.R = rmd 1 0 0) (hbt : X.bt = true) (hr : X.meth.sig.returnType = (some .int)) {x1 : Int} {h : Hp} {res : Int × Hp} (hF : fX6_stop_j29 x1 h = some res) (hK : ∀ (x9 : Int) (h9 : Hp), res = (x9, h9) → Q (0, x9) n h9) : AW G X 29 [(2, ((35 : Nat) : Int)), (0, x1)] [(2, ((35 : Nat) : Int))] n h 0 0 := by
  unfold fX6_stop_j29 at hF
  refine aw_iconst hC dX6_stop_29 (by decide) ?_
  exact fX6_stop_j30_ok hC hZ hRm hbt hr hF hK
theorem ok_X6_stop {G : GD} {n : Nat} {x1 : Int} {h : Hp} {res : Int × Hp} (hF : fX6_stop x1 h = some res) : Con G yX6_stop cX6_stop 2 (some .int) 1 0 0 true [(2, ((35 : Nat) : Int)), (0, x1)] n h (FQ 0 n res) := by
  refine con_of (pad := 0) (own := RX6) (plainFor_of_name (by decide)) rfl rfl ?_
  intro X hC hbt hr hnm hZ hRm hn0
  have hK : ∀ (x9 : Int) (h9 : Hp), res = (x9, h9) → FQ 0 n res (0, x9) n h9 := fun x9 h9 e => by subst e; exact ⟨rfl, rfl, rfl⟩
  unfold fX6_stop at hF
  show AW G X 0 [(2, ((35 : Nat) : Int)), (0, x1)] [] n h 0 0
  refine aw_aload_n hC dX6_stop_0 rfl ?_
  refine aw_iconst hC dX6_stop_1 (by decide) ?_
  obtain ⟨h1, eh1, hF⟩ := lb_some hF
  refine aw_p6i (k := 0) (a := 35) hC dX6_stop_2 lkRX6_129 (by decide) rfl rfl rfl rfl rfl (Or.inl ⟨hbt, by decide⟩) (fun _ => by decide) ?_
  refine aw_eqH eh1 ?_
  clear eh1
  refine aw_aload_n hC dX6_stop_5 rfl ?_
  refine aw_aload_n hC dX6_stop_6 rfl ?_
  refine aw_g6z (k := 61) (a := 35) hC dX6_stop_7 lkRX6_316 (by decide) rfl rfl rfl (Or.inl ⟨hbt, by decide⟩) ?_
  refine aw_if_eq (tgt := 29) hC dX6_stop_10 (by decide) (fun c2 => ?_) (fun c2 => ?_)
  · have hF := it_t hF c2
    exact fX6_stop_j29_ok hC hZ hRm hbt hr hF hK
  · have hF := it_f hF c2
    refine aw_iload_n hC dX6_stop_13 rfl ?_
    refine aw_if_lt (tgt := 29) hC dX6_stop_14 (by decide) (fun c8 => ?_) (fun c8 => ?_)
    · have hF := it_t hF c8
      exact fX6_stop_j29_ok hC hZ hRm hbt hr hF hK
    · have hF := it_f hF c8
      refine aw_iload_n hC dX6_stop_17 rfl ?_
      refine aw_aload_n hC dX6_stop_18 rfl ?_
      refine aw_g6i (k := 3) (a := 35) hC dX6_stop_19 lkRX6_297 (by decide) rfl rfl rfl (Or.inl ⟨hbt, by decide⟩) ?_
      refine aw_icmp_ge (tgt := 29) hC dX6_stop_22 (by decide) (fun c9 => ?_) (fun c9 => ?_)
      · have hF := it_t hF c9
        exact fX6_stop_j29_ok hC hZ hRm hbt hr hF hK
      · have hF := it_f hF c9
        refine aw_iconst hC dX6_stop_25 (by decide) ?_
        refine aw_goto (tgt := 30) hC dX6_stop_26 (by decide) ?_
        exact fX6_stop_j30_ok hC hZ hRm hbt hr hF hK
def fX6_loses_l3 (x1 : Int) (x2 : Int) (x3 : Int) (x4 : Int) (x5 : Int) (h : Hp) : Option ((Int × Hp) ⊕ (Hp)) :=
  (if 4 ≤ x5 then some (.inr h) else gd_ (0 ≤ (i_add 48 x1) ∧ (i_add 48 x1) < 62) (lb_ ((h 54 (Int.toNat ((i_add 48 x1))))) (fun v3 => gd_ (0 ≤ (i_add 48 x2) ∧ (i_add 48 x2) < 62) (lb_ ((h 54 (Int.toNat ((i_add 48 x2))))) (fun v5 => gd_ (0 ≤ (i_add 48 x1) ∧ (i_add 48 x1) < 62) (gd_ (0 ≤ (i_add 48 x1) ∧ (i_add 48 x1) < 62) (lb_ (st h 54 (Int.toNat ((i_add 48 x1))) ((i_add ((h 54 (Int.toNat ((i_add 48 x1))))) ((i_mul ((i_div x5 2)) x3))))) (fun h9 => gd_ (0 ≤ (i_add 48 x2) ∧ (i_add 48 x2) < 62) (gd_ (0 ≤ (i_add 48 x2) ∧ (i_add 48 x2) < 62) (lb_ (st h9 54 (Int.toNat ((i_add 48 x2))) ((i_add ((h9 54 (Int.toNat ((i_add 48 x2))))) ((i_mul ((i_rem x5 2)) x3))))) (fun h13 => bd_ (fX6_laysOut h13) (fun r14 h16 => bd_ (fX6_taxOf x1 h16) (fun r17 h19 => gd_ (0 ≤ (i_mul 2 x5) ∧ (i_mul 2 x5) < 8) (lb_ (st h19 63 (Int.toNat ((i_mul 2 x5))) ((i_add r17 ((i_mul ((i_div x5 2)) x4))))) (fun h22 => bd_ (fX6_taxOf x2 h22) (fun r23 h25 => gd_ (0 ≤ (i_add ((i_mul 2 x5)) 1) ∧ (i_add ((i_mul 2 x5)) 1) < 8) (lb_ (st h25 63 (Int.toNat ((i_add ((i_mul 2 x5)) 1))) ((i_add r23 ((i_mul ((i_rem x5 2)) x4))))) (fun h28 => gd_ (0 ≤ (i_add 48 x1) ∧ (i_add 48 x1) < 62) (lb_ (st h28 54 (Int.toNat ((i_add 48 x1))) v3) (fun h30 => gd_ (0 ≤ (i_add 48 x2) ∧ (i_add 48 x2) < 62) (lb_ (st h30 54 (Int.toNat ((i_add 48 x2))) v5) (fun h32 => some (.inl ((i_add x5 1), h32))))))))))))))))))))))))
def fX6_loses (x1 : Int) (x2 : Int) (x3 : Int) (x4 : Int) (h : Hp) : Option (Int × Hp) :=
  bp_ (it_ (fun s => fX6_loses_l3 x1 x2 x3 x4 s.1 s.2) FU (0, h)) (fun e34 => (fun h35 => some (0, h35)) e34)
theorem fX6_loses_l3_ok {G : GD} {X : CX} {n : Nat} {Q : Av → Nat → Hp → Prop} (hC : Cx G X RX6 cX6_loses) (hZ : ZOK X G Q 0 0) (hRm : X.R = rmd 6 0 0) (hbt : X.bt = true) (hr : X.meth.sig.returnType = none) {x1 : Int} {x2 : Int} {x3 : Int} {x4 : Int} : ∀ (f : Nat) (x5 : Int) (h : Hp) (r : Hp), it_ (fun s => fX6_loses_l3 x1 x2 x3 x4 s.1 s.2) f (x5, h) = some r → (∀ (h9 : Hp), r = h9 → AW G X 145 [(9, 0), (9, 0), (9, 0), (9, 0), (9, 0), (9, 0), (9, 0), (9, 0)] [] n h9 0 0) → AW G X 3 [(2, ((35 : Nat) : Int)), (0, x1), (0, x2), (0, x3), (0, x4), (0, x5), (9, 0), (9, 0)] [] n h 0 0 := by
  intro f
  induction f with
  | zero => intro x5 h r hI; cases hI
  | succ f ih0 =>
    intro x5 h r hI hX
    obtain ⟨b, hF, hb1, hb2⟩ := it_succ hI
    have hF : fX6_loses_l3 x1 x2 x3 x4 x5 h = some b := hF
    unfold fX6_loses_l3 at hF
    refine aw_iload hC dX6_loses_3 rfl ?_
    refine aw_iconst hC dX6_loses_5 (by decide) ?_
    refine aw_icmp_ge (tgt := 145) hC dX6_loses_6 (by decide) (fun c1 => ?_) (fun c1 => ?_)
    · have hF := it_t hF c1
      refine aw_weak (ls' := [(9, 0), (9, 0), (9, 0), (9, 0), (9, 0), (9, 0), (9, 0), (9, 0)]) ⟨Or.inl rfl, Or.inl rfl, Or.inl rfl, Or.inl rfl, Or.inl rfl, Or.inl rfl, Or.inl rfl, Or.inl rfl, trivial⟩ ?_
      exact hX _ (hb2 _ (Option.some.inj hF).symm).symm
    · have hF := it_f hF c1
      refine aw_aload_n hC dX6_loses_9 rfl ?_
      refine aw_gc6 (k := 46) (a := 35) (b := 54) hC hbt dX6_loses_10 lkRX6_75 (by decide) rfl rfl rfl (by decide) (by decide) ?_
      refine aw_bipush hC dX6_loses_13 (by decide) (by decide) ?_
      refine aw_iload_n hC dX6_loses_15 rfl ?_
      refine aw_iadd hC dX6_loses_16 ?_
      obtain ⟨g2, hF⟩ := gd_some hF
      refine aw_iaload (a := 54) hC dX6_loses_17 rfl rfl (Or.inl ⟨hbt, by decide⟩) g2.1 g2.2 ?_
      obtain ⟨v3, ev3, hF⟩ := lb_some hF
      refine aw_eqT ev3 ?_
      clear ev3
      refine aw_istore6 hC dX6_loses_18 rfl ?_
      refine aw_aload_n hC dX6_loses_20 rfl ?_
      refine aw_gc6 (k := 46) (a := 35) (b := 54) hC hbt dX6_loses_21 lkRX6_75 (by decide) rfl rfl rfl (by decide) (by decide) ?_
      refine aw_bipush hC dX6_loses_24 (by decide) (by decide) ?_
      refine aw_iload_n hC dX6_loses_26 rfl ?_
      refine aw_iadd hC dX6_loses_27 ?_
      obtain ⟨g4, hF⟩ := gd_some hF
      refine aw_iaload (a := 54) hC dX6_loses_28 rfl rfl (Or.inl ⟨hbt, by decide⟩) g4.1 g4.2 ?_
      obtain ⟨v5, ev5, hF⟩ := lb_some hF
      refine aw_eqT ev5 ?_
      clear ev5
      refine aw_istore7 hC dX6_loses_29 rfl ?_
      refine aw_aload_n hC dX6_loses_31 rfl ?_
      refine aw_gc6 (k := 46) (a := 35) (b := 54) hC hbt dX6_loses_32 lkRX6_75 (by decide) rfl rfl rfl (by decide) (by decide) ?_
      refine aw_bipush hC dX6_loses_35 (by decide) (by decide) ?_
      refine aw_iload_n hC dX6_loses_37 rfl ?_
      refine aw_iadd hC dX6_loses_38 ?_
      refine aw_dup2 hC dX6_loses_39 (by simp) (by simp) ?_
      obtain ⟨g6, hF⟩ := gd_some hF
      refine aw_iaload (a := 54) hC dX6_loses_40 rfl rfl (Or.inl ⟨hbt, by decide⟩) g6.1 g6.2 ?_
      refine aw_iload hC dX6_loses_41 rfl ?_
      refine aw_iconst hC dX6_loses_43 (by decide) ?_
      refine aw_idiv hC dX6_loses_44 (by decide) ?_
      refine aw_iload_n hC dX6_loses_45 rfl ?_
      refine aw_imul hC dX6_loses_46 ?_
      refine aw_iadd hC dX6_loses_47 ?_
      obtain ⟨g8, hF⟩ := gd_some hF
      obtain ⟨h9, eh9, hF⟩ := lb_some hF
      refine aw_iastore (a := 54) hC dX6_loses_48 rfl rfl (Or.inl ⟨hbt, by decide⟩) g8.1 g8.2 ?_
      refine aw_eqH eh9 ?_
      clear eh9
      refine aw_aload_n hC dX6_loses_49 rfl ?_
      refine aw_gc6 (k := 46) (a := 35) (b := 54) hC hbt dX6_loses_50 lkRX6_75 (by decide) rfl rfl rfl (by decide) (by decide) ?_
      refine aw_bipush hC dX6_loses_53 (by decide) (by decide) ?_
      refine aw_iload_n hC dX6_loses_55 rfl ?_
      refine aw_iadd hC dX6_loses_56 ?_
      refine aw_dup2 hC dX6_loses_57 (by simp) (by simp) ?_
      obtain ⟨g10, hF⟩ := gd_some hF
      refine aw_iaload (a := 54) hC dX6_loses_58 rfl rfl (Or.inl ⟨hbt, by decide⟩) g10.1 g10.2 ?_
      refine aw_iload hC dX6_loses_59 rfl ?_
      refine aw_iconst hC dX6_loses_61 (by decide) ?_
      refine aw_irem hC dX6_loses_62 (by decide) ?_
      refine aw_iload_n hC dX6_loses_63 rfl ?_
      refine aw_imul hC dX6_loses_64 ?_
      refine aw_iadd hC dX6_loses_65 ?_
      obtain ⟨g12, hF⟩ := gd_some hF
      obtain ⟨h13, eh13, hF⟩ := lb_some hF
      refine aw_iastore (a := 54) hC dX6_loses_66 rfl rfl (Or.inl ⟨hbt, by decide⟩) g12.1 g12.2 ?_
      refine aw_eqH eh13 ?_
      clear eh13
      refine aw_aload_n hC dX6_loses_67 rfl ?_
      obtain ⟨r14, h16, q15, hF⟩ := bd_some hF
      refine clRX6_379 hC hRm hbt dX6_loses_68 rfl rfl (by decide) (Nat.le_of_ble_eq_true rfl) (Nat.le_of_ble_eq_true rfl) (ok_X6_laysOut q15) ?_
      refine aw_aload_n hC dX6_loses_71 rfl ?_
      refine aw_gc6 (k := 64) (a := 35) (b := 63) hC hbt dX6_loses_72 lkRX6_114 (by decide) rfl rfl rfl (by decide) (by decide) ?_
      refine aw_iconst hC dX6_loses_75 (by decide) ?_
      refine aw_iload hC dX6_loses_76 rfl ?_
      refine aw_imul hC dX6_loses_78 ?_
      refine aw_aload_n hC dX6_loses_79 rfl ?_
      refine aw_iload_n hC dX6_loses_80 rfl ?_
      obtain ⟨r17, h19, q18, hF⟩ := bd_some hF
      refine clRX6_410 hC hRm hbt dX6_loses_81 rfl rfl (by decide) (Nat.le_of_ble_eq_true rfl) (Nat.le_of_ble_eq_true rfl) (ok_X6_taxOf q18) ?_
      refine aw_iload hC dX6_loses_84 rfl ?_
      refine aw_iconst hC dX6_loses_86 (by decide) ?_
      refine aw_idiv hC dX6_loses_87 (by decide) ?_
      refine aw_iload hC dX6_loses_88 rfl ?_
      refine aw_imul hC dX6_loses_90 ?_
      refine aw_iadd hC dX6_loses_91 ?_
      obtain ⟨g21, hF⟩ := gd_some hF
      obtain ⟨h22, eh22, hF⟩ := lb_some hF
      refine aw_iastore (a := 63) hC dX6_loses_92 rfl rfl (Or.inl ⟨hbt, by decide⟩) g21.1 g21.2 ?_
      refine aw_eqH eh22 ?_
      clear eh22
      refine aw_aload_n hC dX6_loses_93 rfl ?_
      refine aw_gc6 (k := 64) (a := 35) (b := 63) hC hbt dX6_loses_94 lkRX6_114 (by decide) rfl rfl rfl (by decide) (by decide) ?_
      refine aw_iconst hC dX6_loses_97 (by decide) ?_
      refine aw_iload hC dX6_loses_98 rfl ?_
      refine aw_imul hC dX6_loses_100 ?_
      refine aw_iconst hC dX6_loses_101 (by decide) ?_
      refine aw_iadd hC dX6_loses_102 ?_
      refine aw_aload_n hC dX6_loses_103 rfl ?_
      refine aw_iload_n hC dX6_loses_104 rfl ?_
      obtain ⟨r23, h25, q24, hF⟩ := bd_some hF
      refine clRX6_410 hC hRm hbt dX6_loses_105 rfl rfl (by decide) (Nat.le_of_ble_eq_true rfl) (Nat.le_of_ble_eq_true rfl) (ok_X6_taxOf q24) ?_
      refine aw_iload hC dX6_loses_108 rfl ?_
      refine aw_iconst hC dX6_loses_110 (by decide) ?_
      refine aw_irem hC dX6_loses_111 (by decide) ?_
      refine aw_iload hC dX6_loses_112 rfl ?_
      refine aw_imul hC dX6_loses_114 ?_
      refine aw_iadd hC dX6_loses_115 ?_
      obtain ⟨g27, hF⟩ := gd_some hF
      obtain ⟨h28, eh28, hF⟩ := lb_some hF
      refine aw_iastore (a := 63) hC dX6_loses_116 rfl rfl (Or.inl ⟨hbt, by decide⟩) g27.1 g27.2 ?_
      refine aw_eqH eh28 ?_
      clear eh28
      refine aw_aload_n hC dX6_loses_117 rfl ?_
      refine aw_gc6 (k := 46) (a := 35) (b := 54) hC hbt dX6_loses_118 lkRX6_75 (by decide) rfl rfl rfl (by decide) (by decide) ?_
      refine aw_bipush hC dX6_loses_121 (by decide) (by decide) ?_
      refine aw_iload_n hC dX6_loses_123 rfl ?_
      refine aw_iadd hC dX6_loses_124 ?_
      refine aw_iload hC dX6_loses_125 rfl ?_
      obtain ⟨g29, hF⟩ := gd_some hF
      obtain ⟨h30, eh30, hF⟩ := lb_some hF
      refine aw_iastore (a := 54) hC dX6_loses_127 rfl rfl (Or.inl ⟨hbt, by decide⟩) g29.1 g29.2 ?_
      refine aw_eqH eh30 ?_
      clear eh30
      refine aw_aload_n hC dX6_loses_128 rfl ?_
      refine aw_gc6 (k := 46) (a := 35) (b := 54) hC hbt dX6_loses_129 lkRX6_75 (by decide) rfl rfl rfl (by decide) (by decide) ?_
      refine aw_bipush hC dX6_loses_132 (by decide) (by decide) ?_
      refine aw_iload_n hC dX6_loses_134 rfl ?_
      refine aw_iadd hC dX6_loses_135 ?_
      refine aw_iload hC dX6_loses_136 rfl ?_
      obtain ⟨g31, hF⟩ := gd_some hF
      obtain ⟨h32, eh32, hF⟩ := lb_some hF
      refine aw_iastore (a := 54) hC dX6_loses_138 rfl rfl (Or.inl ⟨hbt, by decide⟩) g31.1 g31.2 ?_
      refine aw_eqH eh32 ?_
      clear eh32
      refine aw_iinc5 hC dX6_loses_139 rfl ?_
      refine aw_goto (tgt := 3) hC dX6_loses_142 (by decide) ?_
      refine aw_weak (ls' := [(2, ((35 : Nat) : Int)), (0, x1), (0, x2), (0, x3), (0, x4), (0, (i_add x5 1)), (9, 0), (9, 0)]) ⟨Or.inr rfl, Or.inr rfl, Or.inr rfl, Or.inr rfl, Or.inr rfl, Or.inr rfl, Or.inl rfl, Or.inl rfl, trivial⟩ ?_
      exact ih0 _ _ r (hb1 _ (Option.some.inj hF).symm) hX
theorem ok_X6_loses {G : GD} {n : Nat} {x1 : Int} {x2 : Int} {x3 : Int} {x4 : Int} {h : Hp} {res : Int × Hp} (hF : fX6_loses x1 x2 x3 x4 h = some res) : Con G yX6_loses cX6_loses 8 none 6 0 0 true [(2, ((35 : Nat) : Int)), (0, x1), (0, x2), (0, x3), (0, x4)] n h (FQ 8 n res) := by
  refine con_of (pad := 3) (own := RX6) (plainFor_of_name (by decide)) rfl rfl ?_
  intro X hC hbt hr hnm hZ hRm hn0
  have hK : ∀ (x9 : Int) (h9 : Hp), res = (x9, h9) → FQ 8 n res (8, x9) n h9 := fun x9 h9 e => by subst e; exact ⟨rfl, rfl, rfl⟩
  unfold fX6_loses at hF
  show AW G X 0 [(2, ((35 : Nat) : Int)), (0, x1), (0, x2), (0, x3), (0, x4), (9, 0), (9, 0), (9, 0)] [] n h 0 0
  refine aw_iconst hC dX6_loses_0 (by decide) ?_
  refine aw_istore5 hC dX6_loses_1 rfl ?_
  obtain ⟨e34, he, hF⟩ := bp_some hF
  refine fX6_loses_l3_ok hC hZ hRm hbt hr FU _ _ e34 he (fun h35 er => ?_)
  replace er := er.symm
  subst er
  try dsimp only at hF
  exact aw_return hC hZ (Nat.zero_le _) (Nat.zero_le _) hr dX6_loses_145 (hK _ _ (Option.some.inj hF).symm)
def fX6_barns_j121 (x5 : Int) (x6 : Int) (x7 : Int) (x8 : Int) (x9 : Int) (z0 : Int) (h : Hp) : Option ((Int × Int × Int) ⊕ (Int × Int)) :=
  gd_ (0 ≤ (i_mul 2 x9) ∧ (i_mul 2 x9) < 8) (gd_ (0 ≤ (i_mul 2 x8) ∧ (i_mul 2 x8) < 8) ((if (h 63 (Int.toNat ((i_mul 2 x9)))) < (h 63 (Int.toNat ((i_mul 2 x8)))) then some (.inl (x6, x7, (i_add x8 1))) else gd_ (0 ≤ (i_add ((i_mul 2 z0)) 1) ∧ (i_add ((i_mul 2 z0)) 1) < 8) (gd_ (0 ≤ (i_add ((i_mul 2 x8)) 1) ∧ (i_add ((i_mul 2 x8)) 1) < 8) ((if (h 63 (Int.toNat ((i_add ((i_mul 2 x8)) 1)))) ≤ (h 63 (Int.toNat ((i_add ((i_mul 2 z0)) 1)))) then (if x7 = (-1) then lb_ ((i_add ((i_mul 10 ((i_div x8 2)))) ((i_rem x8 2)))) (fun v39 => some (.inl ((i_add x6 1), v39, (i_add x8 1)))) else some (.inl ((i_add x6 1), x7, (i_add x8 1)))) else some (.inl (x6, x7, (i_add x8 1)))))))))
def fX6_barns_l89 (x5 : Int) (x6 : Int) (x7 : Int) (x8 : Int) (h : Hp) : Option ((Int × Int × Int) ⊕ (Int × Int)) :=
  (if 4 ≤ x8 then some (.inr (x6, x7)) else lb_ ((i_rem ((i_add x8 2)) 4)) (fun v24 => (if (i_rem x8 2) = 0 then fX6_barns_j121 x5 x6 x7 x8 v24 ((i_add x8 1)) h else fX6_barns_j121 x5 x6 x7 x8 v24 ((i_sub x8 1)) h)))
def fX6_barns_j62 (x1 : Int) (x2 : Int) (x3 : Int) (x4 : Int) (x5 : Int) (z0 : Int) (h : Hp) : Option (Int × Hp) :=
  bd_ (fX6_right z0 2 h) (fun r15 h17 => (if r15 = 0 then some (0, h17) else bd_ (fX6_loses x1 x2 x3 x4 h17) (fun r19 h21 => bp_ (it_ (fun s => fX6_barns_l89 x5 s.1 s.2.1 s.2.2 h21) FU (0, (-1), 0)) (fun e42 => (fun y43 y44 => (if x5 = 0 then some (y43, h21) else some (y44, h21))) e42.1 e42.2))))
def fX6_barns_j61 (x1 : Int) (x2 : Int) (x3 : Int) (x4 : Int) (x5 : Int) (h : Hp) : Option (Int × Hp) :=
  fX6_barns_j62 x1 x2 x3 x4 x5 0 h
def fX6_barns (x1 : Int) (x2 : Int) (x3 : Int) (x4 : Int) (x5 : Int) (h : Hp) : Option (Int × Hp) :=
  lb_ (st h 35 0 0) (fun h1 => bd_ (fX6_isHouse x1 h1) (fun r2 h4 => (if r2 = 0 then some (0, h4) else bd_ (fX6_isHouse x2 h4) (fun r6 h8 => (if r6 = 0 then some (0, h8) else bd_ (fX6_isWhat x5 1 h8) (fun r10 h12 => (if r10 = 0 then some (0, h12) else (if x1 = x2 then fX6_barns_j61 x1 x2 x3 x4 x5 h12 else bp_ (fX6_within x3 1 5 h12) (fun r46 => (if r46 = 0 then fX6_barns_j61 x1 x2 x3 x4 x5 h12 else bp_ (fX6_within x4 0 99 h12) (fun r49 => (if r49 = 0 then fX6_barns_j61 x1 x2 x3 x4 x5 h12 else fX6_barns_j62 x1 x2 x3 x4 x5 1 h12))))))))))))
theorem fX6_barns_j121_ok {G : GD} {X : CX} {n : Nat} {Q : Av → Nat → Hp → Prop} (hC : Cx G X RX6 cX6_barns) (hZ : ZOK X G Q 0 0) (hRm : X.R = rmd 7 0 0) (hbt : X.bt = true) (hr : X.meth.sig.returnType = (some .int)) {x5 : Int} {x6 : Int} {x7 : Int} {x8 : Int} {x9 : Int} {z0 : Int} {h : Hp} {b : (Int × Int × Int) ⊕ (Int × Int)} (hF : fX6_barns_j121 x5 x6 x7 x8 x9 z0 h = some b) (hL9 : ∀ (u6 : Int) (u7 : Int) (u8 : Int), b = .inl (u6, u7, u8) → AW G X 89 [(2, ((35 : Nat) : Int)), (9, 0), (9, 0), (9, 0), (9, 0), (0, x5), (0, u6), (0, u7), (0, u8), (9, 0), (9, 0)] [] n h 0 0) (hX9 : ∀ (w6 : Int) (w7 : Int), b = .inr (w6, w7) → AW G X 201 [(9, 0), (9, 0), (9, 0), (9, 0), (9, 0), (0, x5), (0, w6), (0, w7), (9, 0), (9, 0), (9, 0)] [] n h 0 0) : AW G X 121 [(2, ((35 : Nat) : Int)), (9, 0), (9, 0), (9, 0), (9, 0), (0, x5), (0, x6), (0, x7), (0, x8), (0, x9), (9, 0)] [(0, z0)] n h 0 0 := by
  unfold fX6_barns_j121 at hF
  refine aw_istore10 hC dX6_barns_121 rfl ?_
  refine aw_aload_n hC dX6_barns_123 rfl ?_
  refine aw_gc6 (k := 64) (a := 35) (b := 63) hC hbt dX6_barns_124 lkRX6_114 (by decide) rfl rfl rfl (by decide) (by decide) ?_
  refine aw_iconst hC dX6_barns_127 (by decide) ?_
  refine aw_iload hC dX6_barns_128 rfl ?_
  refine aw_imul hC dX6_barns_130 ?_
  obtain ⟨g27, hF⟩ := gd_some hF
  refine aw_iaload (a := 63) hC dX6_barns_131 rfl rfl (Or.inl ⟨hbt, by decide⟩) g27.1 g27.2 ?_
  refine aw_aload_n hC dX6_barns_132 rfl ?_
  refine aw_gc6 (k := 64) (a := 35) (b := 63) hC hbt dX6_barns_133 lkRX6_114 (by decide) rfl rfl rfl (by decide) (by decide) ?_
  refine aw_iconst hC dX6_barns_136 (by decide) ?_
  refine aw_iload hC dX6_barns_137 rfl ?_
  refine aw_imul hC dX6_barns_139 ?_
  obtain ⟨g28, hF⟩ := gd_some hF
  refine aw_iaload (a := 63) hC dX6_barns_140 rfl rfl (Or.inl ⟨hbt, by decide⟩) g28.1 g28.2 ?_
  refine aw_icmp_lt (tgt := 195) hC dX6_barns_141 (by decide) (fun c29 => ?_) (fun c29 => ?_)
  · have hF := it_t hF c29
    refine aw_iinc8 hC dX6_barns_195 rfl ?_
    refine aw_goto (tgt := 89) hC dX6_barns_198 (by decide) ?_
    refine aw_weak (ls' := [(2, ((35 : Nat) : Int)), (9, 0), (9, 0), (9, 0), (9, 0), (0, x5), (0, x6), (0, x7), (0, (i_add x8 1)), (9, 0), (9, 0)]) ⟨Or.inr rfl, Or.inl rfl, Or.inl rfl, Or.inl rfl, Or.inl rfl, Or.inr rfl, Or.inr rfl, Or.inr rfl, Or.inr rfl, Or.inl rfl, Or.inl rfl, trivial⟩ ?_
    exact hL9 _ _ _ (Option.some.inj hF).symm
  · have hF := it_f hF c29
    refine aw_aload_n hC dX6_barns_144 rfl ?_
    refine aw_gc6 (k := 64) (a := 35) (b := 63) hC hbt dX6_barns_145 lkRX6_114 (by decide) rfl rfl rfl (by decide) (by decide) ?_
    refine aw_iconst hC dX6_barns_148 (by decide) ?_
    refine aw_iload hC dX6_barns_149 rfl ?_
    refine aw_imul hC dX6_barns_151 ?_
    refine aw_iconst hC dX6_barns_152 (by decide) ?_
    refine aw_iadd hC dX6_barns_153 ?_
    obtain ⟨g31, hF⟩ := gd_some hF
    refine aw_iaload (a := 63) hC dX6_barns_154 rfl rfl (Or.inl ⟨hbt, by decide⟩) g31.1 g31.2 ?_
    refine aw_aload_n hC dX6_barns_155 rfl ?_
    refine aw_gc6 (k := 64) (a := 35) (b := 63) hC hbt dX6_barns_156 lkRX6_114 (by decide) rfl rfl rfl (by decide) (by decide) ?_
    refine aw_iconst hC dX6_barns_159 (by decide) ?_
    refine aw_iload hC dX6_barns_160 rfl ?_
    refine aw_imul hC dX6_barns_162 ?_
    refine aw_iconst hC dX6_barns_163 (by decide) ?_
    refine aw_iadd hC dX6_barns_164 ?_
    obtain ⟨g32, hF⟩ := gd_some hF
    refine aw_iaload (a := 63) hC dX6_barns_165 rfl rfl (Or.inl ⟨hbt, by decide⟩) g32.1 g32.2 ?_
    refine aw_icmp_ge (tgt := 172) hC dX6_barns_166 (by decide) (fun c33 => ?_) (fun c33 => ?_)
    · have hF := it_t hF c33
      refine aw_iinc6 hC dX6_barns_172 rfl ?_
      refine aw_iload hC dX6_barns_175 rfl ?_
      refine aw_iconst hC dX6_barns_177 (by decide) ?_
      refine aw_icmp_ne (tgt := 195) hC dX6_barns_178 (by decide) (fun c35 => ?_) (fun c35 => ?_)
      · have hF := it_f hF c35
        refine aw_iinc8 hC dX6_barns_195 rfl ?_
        refine aw_goto (tgt := 89) hC dX6_barns_198 (by decide) ?_
        refine aw_weak (ls' := [(2, ((35 : Nat) : Int)), (9, 0), (9, 0), (9, 0), (9, 0), (0, x5), (0, (i_add x6 1)), (0, x7), (0, (i_add x8 1)), (9, 0), (9, 0)]) ⟨Or.inr rfl, Or.inl rfl, Or.inl rfl, Or.inl rfl, Or.inl rfl, Or.inr rfl, Or.inr rfl, Or.inr rfl, Or.inr rfl, Or.inl rfl, Or.inl rfl, trivial⟩ ?_
        exact hL9 _ _ _ (Option.some.inj hF).symm
      · have hF := it_t hF c35
        refine aw_bipush hC dX6_barns_181 (by decide) (by decide) ?_
        refine aw_iload hC dX6_barns_183 rfl ?_
        refine aw_iconst hC dX6_barns_185 (by decide) ?_
        refine aw_idiv hC dX6_barns_186 (by decide) ?_
        refine aw_imul hC dX6_barns_187 ?_
        refine aw_iload hC dX6_barns_188 rfl ?_
        refine aw_iconst hC dX6_barns_190 (by decide) ?_
        refine aw_irem hC dX6_barns_191 (by decide) ?_
        refine aw_iadd hC dX6_barns_192 ?_
        obtain ⟨v39, ev39, hF⟩ := lb_some hF
        refine aw_eqT ev39 ?_
        clear ev39
        refine aw_istore7 hC dX6_barns_193 rfl ?_
        refine aw_iinc8 hC dX6_barns_195 rfl ?_
        refine aw_goto (tgt := 89) hC dX6_barns_198 (by decide) ?_
        refine aw_weak (ls' := [(2, ((35 : Nat) : Int)), (9, 0), (9, 0), (9, 0), (9, 0), (0, x5), (0, (i_add x6 1)), (0, v39), (0, (i_add x8 1)), (9, 0), (9, 0)]) ⟨Or.inr rfl, Or.inl rfl, Or.inl rfl, Or.inl rfl, Or.inl rfl, Or.inr rfl, Or.inr rfl, Or.inr rfl, Or.inr rfl, Or.inl rfl, Or.inl rfl, trivial⟩ ?_
        exact hL9 _ _ _ (Option.some.inj hF).symm
    · have hF := it_f hF c33
      refine aw_goto (tgt := 195) hC dX6_barns_169 (by decide) ?_
      refine aw_iinc8 hC dX6_barns_195 rfl ?_
      refine aw_goto (tgt := 89) hC dX6_barns_198 (by decide) ?_
      refine aw_weak (ls' := [(2, ((35 : Nat) : Int)), (9, 0), (9, 0), (9, 0), (9, 0), (0, x5), (0, x6), (0, x7), (0, (i_add x8 1)), (9, 0), (9, 0)]) ⟨Or.inr rfl, Or.inl rfl, Or.inl rfl, Or.inl rfl, Or.inl rfl, Or.inr rfl, Or.inr rfl, Or.inr rfl, Or.inr rfl, Or.inl rfl, Or.inl rfl, trivial⟩ ?_
      exact hL9 _ _ _ (Option.some.inj hF).symm
theorem fX6_barns_l89_ok {G : GD} {X : CX} {n : Nat} {Q : Av → Nat → Hp → Prop} (hC : Cx G X RX6 cX6_barns) (hZ : ZOK X G Q 0 0) (hRm : X.R = rmd 7 0 0) (hbt : X.bt = true) (hr : X.meth.sig.returnType = (some .int)) {x5 : Int} {h : Hp} : ∀ (f : Nat) (x6 : Int) (x7 : Int) (x8 : Int) (r : Int × Int), it_ (fun s => fX6_barns_l89 x5 s.1 s.2.1 s.2.2 h) f (x6, x7, x8) = some r → (∀ (y6 : Int) (y7 : Int), r = (y6, y7) → AW G X 201 [(9, 0), (9, 0), (9, 0), (9, 0), (9, 0), (0, x5), (0, y6), (0, y7), (9, 0), (9, 0), (9, 0)] [] n h 0 0) → AW G X 89 [(2, ((35 : Nat) : Int)), (9, 0), (9, 0), (9, 0), (9, 0), (0, x5), (0, x6), (0, x7), (0, x8), (9, 0), (9, 0)] [] n h 0 0 := by
  intro f
  induction f with
  | zero => intro x6 x7 x8 r hI; cases hI
  | succ f ih0 =>
    intro x6 x7 x8 r hI hX
    obtain ⟨b, hF, hb1, hb2⟩ := it_succ hI
    have hF : fX6_barns_l89 x5 x6 x7 x8 h = some b := hF
    unfold fX6_barns_l89 at hF
    refine aw_iload hC dX6_barns_89 rfl ?_
    refine aw_iconst hC dX6_barns_91 (by decide) ?_
    refine aw_icmp_ge (tgt := 201) hC dX6_barns_92 (by decide) (fun c22 => ?_) (fun c22 => ?_)
    · have hF := it_t hF c22
      refine aw_weak (ls' := [(9, 0), (9, 0), (9, 0), (9, 0), (9, 0), (0, x5), (0, x6), (0, x7), (9, 0), (9, 0), (9, 0)]) ⟨Or.inl rfl, Or.inl rfl, Or.inl rfl, Or.inl rfl, Or.inl rfl, Or.inr rfl, Or.inr rfl, Or.inr rfl, Or.inl rfl, Or.inl rfl, Or.inl rfl, trivial⟩ ?_
      exact hX _ _ (hb2 _ (Option.some.inj hF).symm).symm
    · have hF := it_f hF c22
      refine aw_iload hC dX6_barns_95 rfl ?_
      refine aw_iconst hC dX6_barns_97 (by decide) ?_
      refine aw_iadd hC dX6_barns_98 ?_
      refine aw_iconst hC dX6_barns_99 (by decide) ?_
      refine aw_irem hC dX6_barns_100 (by decide) ?_
      obtain ⟨v24, ev24, hF⟩ := lb_some hF
      refine aw_eqT ev24 ?_
      clear ev24
      refine aw_istore9 hC dX6_barns_101 rfl ?_
      refine aw_iload hC dX6_barns_103 rfl ?_
      refine aw_iconst hC dX6_barns_105 (by decide) ?_
      refine aw_irem hC dX6_barns_106 (by decide) ?_
      refine aw_if_ne (tgt := 117) hC dX6_barns_107 (by decide) (fun c26 => ?_) (fun c26 => ?_)
      · have hF := it_f hF c26
        refine aw_iload hC dX6_barns_117 rfl ?_
        refine aw_iconst hC dX6_barns_119 (by decide) ?_
        refine aw_isub hC dX6_barns_120 ?_
        exact fX6_barns_j121_ok hC hZ hRm hbt hr hF (fun u0 u1 u2 e => ih0 u0 u1 u2 r (hb1 _ e) hX) (fun w0 w1 e => hX w0 w1 (hb2 _ e).symm)
      · have hF := it_t hF c26
        refine aw_iload hC dX6_barns_110 rfl ?_
        refine aw_iconst hC dX6_barns_112 (by decide) ?_
        refine aw_iadd hC dX6_barns_113 ?_
        refine aw_goto (tgt := 121) hC dX6_barns_114 (by decide) ?_
        exact fX6_barns_j121_ok hC hZ hRm hbt hr hF (fun u0 u1 u2 e => ih0 u0 u1 u2 r (hb1 _ e) hX) (fun w0 w1 e => hX w0 w1 (hb2 _ e).symm)
theorem fX6_barns_j62_ok {G : GD} {X : CX} {n : Nat} {Q : Av → Nat → Hp → Prop} (hC : Cx G X RX6 cX6_barns) (hZ : ZOK X G Q 0 0) (hRm : X.R = rmd 7 0 0) (hbt : X.bt = true) (hr : X.meth.sig.returnType = (some .int)) {x1 : Int} {x2 : Int} {x3 : Int} {x4 : Int} {x5 : Int} {z0 : Int} {h : Hp} {res : Int × Hp} (hF : fX6_barns_j62 x1 x2 x3 x4 x5 z0 h = some res) (hK : ∀ (x9 : Int) (h9 : Hp), res = (x9, h9) → Q (0, x9) n h9) : AW G X 62 [(2, ((35 : Nat) : Int)), (0, x1), (0, x2), (0, x3), (0, x4), (0, x5), (9, 0), (9, 0), (9, 0), (9, 0), (9, 0)] [(0, z0), (2, ((35 : Nat) : Int))] n h 0 0 := by
  unfold fX6_barns_j62 at hF
  refine aw_iconst hC dX6_barns_62 (by decide) ?_
  obtain ⟨r15, h17, q16, hF⟩ := bd_some hF
  refine clRX6_290 hC hRm hbt dX6_barns_63 rfl rfl (by decide) (Nat.le_of_ble_eq_true rfl) (Nat.le_of_ble_eq_true rfl) (ok_X6_right q16) ?_
  refine aw_if_ne (tgt := 71) hC dX6_barns_66 (by decide) (fun c18 => ?_) (fun c18 => ?_)
  · have hF := it_f hF c18
    refine aw_aload_n hC dX6_barns_71 rfl ?_
    refine aw_iload_n hC dX6_barns_72 rfl ?_
    refine aw_iload_n hC dX6_barns_73 rfl ?_
    refine aw_iload_n hC dX6_barns_74 rfl ?_
    refine aw_iload hC dX6_barns_75 rfl ?_
    obtain ⟨r19, h21, q20, hF⟩ := bd_some hF
    refine clRX6_453 hC hRm hbt dX6_barns_77 rfl rfl (by decide) (Nat.le_of_ble_eq_true rfl) (Nat.le_of_ble_eq_true rfl) (ok_X6_loses q20) ?_
    refine aw_iconst hC dX6_barns_80 (by decide) ?_
    refine aw_istore6 hC dX6_barns_81 rfl ?_
    refine aw_iconst hC dX6_barns_83 (by decide) ?_
    refine aw_istore7 hC dX6_barns_84 rfl ?_
    refine aw_iconst hC dX6_barns_86 (by decide) ?_
    refine aw_istore8 hC dX6_barns_87 rfl ?_
    refine aw_weak (ls' := [(2, ((35 : Nat) : Int)), (9, 0), (9, 0), (9, 0), (9, 0), (0, x5), (0, 0), (0, (-1)), (0, 0), (9, 0), (9, 0)]) ⟨Or.inr rfl, Or.inl rfl, Or.inl rfl, Or.inl rfl, Or.inl rfl, Or.inr rfl, Or.inr rfl, Or.inr rfl, Or.inr rfl, Or.inl rfl, Or.inl rfl, trivial⟩ ?_
    obtain ⟨e42, he, hF⟩ := bp_some hF
    refine fX6_barns_l89_ok hC hZ hRm hbt hr FU _ _ _ e42 he (fun y43 y44 er => ?_)
    replace er := er.symm
    subst er
    try dsimp only at hF
    refine aw_iload hC dX6_barns_201 rfl ?_
    refine aw_if_ne (tgt := 211) hC dX6_barns_203 (by decide) (fun c45 => ?_) (fun c45 => ?_)
    · have hF := it_f hF c45
      refine aw_iload hC dX6_barns_211 rfl ?_
      exact aw_ireturn hC hZ (Nat.zero_le _) (Nat.zero_le _) hr dX6_barns_213 (hK _ _ (Option.some.inj hF).symm)
    · have hF := it_t hF c45
      refine aw_iload hC dX6_barns_206 rfl ?_
      refine aw_goto (tgt := 213) hC dX6_barns_208 (by decide) ?_
      exact aw_ireturn hC hZ (Nat.zero_le _) (Nat.zero_le _) hr dX6_barns_213 (hK _ _ (Option.some.inj hF).symm)
  · have hF := it_t hF c18
    refine aw_iconst hC dX6_barns_69 (by decide) ?_
    exact aw_ireturn hC hZ (Nat.zero_le _) (Nat.zero_le _) hr dX6_barns_70 (hK _ _ (Option.some.inj hF).symm)
theorem fX6_barns_j61_ok {G : GD} {X : CX} {n : Nat} {Q : Av → Nat → Hp → Prop} (hC : Cx G X RX6 cX6_barns) (hZ : ZOK X G Q 0 0) (hRm : X.R = rmd 7 0 0) (hbt : X.bt = true) (hr : X.meth.sig.returnType = (some .int)) {x1 : Int} {x2 : Int} {x3 : Int} {x4 : Int} {x5 : Int} {h : Hp} {res : Int × Hp} (hF : fX6_barns_j61 x1 x2 x3 x4 x5 h = some res) (hK : ∀ (x9 : Int) (h9 : Hp), res = (x9, h9) → Q (0, x9) n h9) : AW G X 61 [(2, ((35 : Nat) : Int)), (0, x1), (0, x2), (0, x3), (0, x4), (0, x5), (9, 0), (9, 0), (9, 0), (9, 0), (9, 0)] [(2, ((35 : Nat) : Int))] n h 0 0 := by
  unfold fX6_barns_j61 at hF
  refine aw_iconst hC dX6_barns_61 (by decide) ?_
  exact fX6_barns_j62_ok hC hZ hRm hbt hr hF hK
theorem ok_X6_barns {G : GD} {n : Nat} {x1 : Int} {x2 : Int} {x3 : Int} {x4 : Int} {x5 : Int} {h : Hp} {res : Int × Hp} (hF : fX6_barns x1 x2 x3 x4 x5 h = some res) : Con G yX6_barns cX6_barns 11 (some .int) 7 0 0 true [(2, ((35 : Nat) : Int)), (0, x1), (0, x2), (0, x3), (0, x4), (0, x5)] n h (FQ 0 n res) := by
  refine con_of (pad := 5) (own := RX6) (plainFor_of_name (by decide)) rfl rfl ?_
  intro X hC hbt hr hnm hZ hRm hn0
  have hK : ∀ (x9 : Int) (h9 : Hp), res = (x9, h9) → FQ 0 n res (0, x9) n h9 := fun x9 h9 e => by subst e; exact ⟨rfl, rfl, rfl⟩
  unfold fX6_barns at hF
  show AW G X 0 [(2, ((35 : Nat) : Int)), (0, x1), (0, x2), (0, x3), (0, x4), (0, x5), (9, 0), (9, 0), (9, 0), (9, 0), (9, 0)] [] n h 0 0
  refine aw_aload_n hC dX6_barns_0 rfl ?_
  refine aw_iconst hC dX6_barns_1 (by decide) ?_
  obtain ⟨h1, eh1, hF⟩ := lb_some hF
  refine aw_p6i (k := 0) (a := 35) hC dX6_barns_2 lkRX6_129 (by decide) rfl rfl rfl rfl rfl (Or.inl ⟨hbt, by decide⟩) (fun _ => by decide) ?_
  refine aw_eqH eh1 ?_
  clear eh1
  refine aw_aload_n hC dX6_barns_5 rfl ?_
  refine aw_iload_n hC dX6_barns_6 rfl ?_
  obtain ⟨r2, h4, q3, hF⟩ := bd_some hF
  refine clRX6_407 hC hRm hbt dX6_barns_7 rfl rfl (by decide) (Nat.le_of_ble_eq_true rfl) (Nat.le_of_ble_eq_true rfl) (ok_X6_isHouse q3) ?_
  refine aw_if_eq (tgt := 69) hC dX6_barns_10 (by decide) (fun c5 => ?_) (fun c5 => ?_)
  · have hF := it_t hF c5
    refine aw_iconst hC dX6_barns_69 (by decide) ?_
    exact aw_ireturn hC hZ (Nat.zero_le _) (Nat.zero_le _) hr dX6_barns_70 (hK _ _ (Option.some.inj hF).symm)
  · have hF := it_f hF c5
    refine aw_aload_n hC dX6_barns_13 rfl ?_
    refine aw_iload_n hC dX6_barns_14 rfl ?_
    obtain ⟨r6, h8, q7, hF⟩ := bd_some hF
    refine clRX6_407 hC hRm hbt dX6_barns_15 rfl rfl (by decide) (Nat.le_of_ble_eq_true rfl) (Nat.le_of_ble_eq_true rfl) (ok_X6_isHouse q7) ?_
    refine aw_if_eq (tgt := 69) hC dX6_barns_18 (by decide) (fun c9 => ?_) (fun c9 => ?_)
    · have hF := it_t hF c9
      refine aw_iconst hC dX6_barns_69 (by decide) ?_
      exact aw_ireturn hC hZ (Nat.zero_le _) (Nat.zero_le _) hr dX6_barns_70 (hK _ _ (Option.some.inj hF).symm)
    · have hF := it_f hF c9
      refine aw_aload_n hC dX6_barns_21 rfl ?_
      refine aw_iload hC dX6_barns_22 rfl ?_
      refine aw_iconst hC dX6_barns_24 (by decide) ?_
      obtain ⟨r10, h12, q11, hF⟩ := bd_some hF
      refine clRX6_398 hC hRm hbt dX6_barns_25 rfl rfl (by decide) (Nat.le_of_ble_eq_true rfl) (Nat.le_of_ble_eq_true rfl) (ok_X6_isWhat q11) ?_
      refine aw_if_eq (tgt := 69) hC dX6_barns_28 (by decide) (fun c13 => ?_) (fun c13 => ?_)
      · have hF := it_t hF c13
        refine aw_iconst hC dX6_barns_69 (by decide) ?_
        exact aw_ireturn hC hZ (Nat.zero_le _) (Nat.zero_le _) hr dX6_barns_70 (hK _ _ (Option.some.inj hF).symm)
      · have hF := it_f hF c13
        refine aw_aload_n hC dX6_barns_31 rfl ?_
        refine aw_iload_n hC dX6_barns_32 rfl ?_
        refine aw_iload_n hC dX6_barns_33 rfl ?_
        refine aw_icmp_eq (tgt := 61) hC dX6_barns_34 (by decide) (fun c14 => ?_) (fun c14 => ?_)
        · have hF := it_t hF c14
          exact fX6_barns_j61_ok hC hZ hRm hbt hr hF hK
        · have hF := it_f hF c14
          refine aw_iload_n hC dX6_barns_37 rfl ?_
          refine aw_iconst hC dX6_barns_38 (by decide) ?_
          refine aw_iconst hC dX6_barns_39 (by decide) ?_
          obtain ⟨r46, q47, hF⟩ := bp_some hF
          refine clRX6_385 hC hRm hbt dX6_barns_40 (Nat.le_of_ble_eq_true rfl) (Nat.le_of_ble_eq_true rfl) (ok_X6_within q47) ?_
          refine aw_if_eq (tgt := 61) hC dX6_barns_43 (by decide) (fun c48 => ?_) (fun c48 => ?_)
          · have hF := it_t hF c48
            exact fX6_barns_j61_ok hC hZ hRm hbt hr hF hK
          · have hF := it_f hF c48
            refine aw_iload hC dX6_barns_46 rfl ?_
            refine aw_iconst hC dX6_barns_48 (by decide) ?_
            refine aw_bipush hC dX6_barns_49 (by decide) (by decide) ?_
            obtain ⟨r49, q50, hF⟩ := bp_some hF
            refine clRX6_385 hC hRm hbt dX6_barns_51 (Nat.le_of_ble_eq_true rfl) (Nat.le_of_ble_eq_true rfl) (ok_X6_within q50) ?_
            refine aw_if_eq (tgt := 61) hC dX6_barns_54 (by decide) (fun c51 => ?_) (fun c51 => ?_)
            · have hF := it_t hF c51
              exact fX6_barns_j61_ok hC hZ hRm hbt hr hF hK
            · have hF := it_f hF c51
              refine aw_iconst hC dX6_barns_57 (by decide) ?_
              refine aw_goto (tgt := 62) hC dX6_barns_58 (by decide) ?_
              exact fX6_barns_j62_ok hC hZ hRm hbt hr hF hK
def fX6_tell_j34  (h : Hp) : Option (Int × Hp) :=
  bd_ (fX6_refuses 2 ((-1)) h) (fun r7 h9 => some (r7, h9))
def fX6_tell (x1 : Int) (x2 : Int) (h : Hp) : Option (Int × Hp) :=
  lb_ (st h 35 0 0) (fun h1 => bd_ (fX6_isHouse x1 h1) (fun r2 h4 => (if r2 = 0 then some (0, h4) else (if (h4 35 65) = 6 then fX6_tell_j34 h4 else bp_ (fX6_within x2 0 99 h4) (fun r10 => (if r10 = 0 then fX6_tell_j34 h4 else gd_ (0 ≤ (i_mul 2 ((h4 35 65))) ∧ (i_mul 2 ((h4 35 65))) < 12) (lb_ (st h4 64 (Int.toNat ((i_mul 2 ((h4 35 65))))) x1) (fun h14 => gd_ (0 ≤ (i_add ((i_mul 2 ((h14 35 65)))) 1) ∧ (i_add ((i_mul 2 ((h14 35 65)))) 1) < 12) (lb_ (st h14 64 (Int.toNat ((i_add ((i_mul 2 ((h14 35 65)))) 1))) x2) (fun h16 => lb_ (st h16 35 65 ((i_add ((h16 35 65)) 1))) (fun h17 => some ((h17 35 65), h17))))))))))))
theorem fX6_tell_j34_ok {G : GD} {X : CX} {n : Nat} {Q : Av → Nat → Hp → Prop} (hC : Cx G X RX6 cX6_tell) (hZ : ZOK X G Q 0 0) (hRm : X.R = rmd 2 0 0) (hbt : X.bt = true) (hr : X.meth.sig.returnType = (some .int))  {h : Hp} {res : Int × Hp} (hF : fX6_tell_j34  h = some res) (hK : ∀ (x9 : Int) (h9 : Hp), res = (x9, h9) → Q (0, x9) n h9) : AW G X 34 [(2, ((35 : Nat) : Int)), (9, 0), (9, 0)] [] n h 0 0 := by
  unfold fX6_tell_j34 at hF
  refine aw_aload_n hC dX6_tell_34 rfl ?_
  refine aw_iconst hC dX6_tell_35 (by decide) ?_
  refine aw_iconst hC dX6_tell_36 (by decide) ?_
  obtain ⟨r7, h9, q8, hF⟩ := bd_some hF
  refine clRX6_413 hC hRm hbt dX6_tell_37 rfl rfl (by decide) (Nat.le_of_ble_eq_true rfl) (Nat.le_of_ble_eq_true rfl) (ok_X6_refuses q8) ?_
  exact aw_ireturn hC hZ (Nat.zero_le _) (Nat.zero_le _) hr dX6_tell_40 (hK _ _ (Option.some.inj hF).symm)
theorem ok_X6_tell {G : GD} {n : Nat} {x1 : Int} {x2 : Int} {h : Hp} {res : Int × Hp} (hF : fX6_tell x1 x2 h = some res) : Con G yX6_tell cX6_tell 3 (some .int) 2 0 0 true [(2, ((35 : Nat) : Int)), (0, x1), (0, x2)] n h (FQ 0 n res) := by
  refine con_of (pad := 0) (own := RX6) (plainFor_of_name (by decide)) rfl rfl ?_
  intro X hC hbt hr hnm hZ hRm hn0
  have hK : ∀ (x9 : Int) (h9 : Hp), res = (x9, h9) → FQ 0 n res (0, x9) n h9 := fun x9 h9 e => by subst e; exact ⟨rfl, rfl, rfl⟩
  unfold fX6_tell at hF
  show AW G X 0 [(2, ((35 : Nat) : Int)), (0, x1), (0, x2)] [] n h 0 0
  refine aw_aload_n hC dX6_tell_0 rfl ?_
  refine aw_iconst hC dX6_tell_1 (by decide) ?_
  obtain ⟨h1, eh1, hF⟩ := lb_some hF
  refine aw_p6i (k := 0) (a := 35) hC dX6_tell_2 lkRX6_129 (by decide) rfl rfl rfl rfl rfl (Or.inl ⟨hbt, by decide⟩) (fun _ => by decide) ?_
  refine aw_eqH eh1 ?_
  clear eh1
  refine aw_aload_n hC dX6_tell_5 rfl ?_
  refine aw_iload_n hC dX6_tell_6 rfl ?_
  obtain ⟨r2, h4, q3, hF⟩ := bd_some hF
  refine clRX6_407 hC hRm hbt dX6_tell_7 rfl rfl (by decide) (Nat.le_of_ble_eq_true rfl) (Nat.le_of_ble_eq_true rfl) (ok_X6_isHouse q3) ?_
  refine aw_if_ne (tgt := 15) hC dX6_tell_10 (by decide) (fun c5 => ?_) (fun c5 => ?_)
  · have hF := it_f hF c5
    refine aw_aload_n hC dX6_tell_15 rfl ?_
    refine aw_g6i (k := 65) (a := 35) hC dX6_tell_16 lkRX6_313 (by decide) rfl rfl rfl (Or.inl ⟨hbt, by decide⟩) ?_
    refine aw_bipush hC dX6_tell_19 (by decide) (by decide) ?_
    refine aw_icmp_eq (tgt := 34) hC dX6_tell_21 (by decide) (fun c6 => ?_) (fun c6 => ?_)
    · have hF := it_t hF c6
      refine aw_weak (ls' := [(2, ((35 : Nat) : Int)), (9, 0), (9, 0)]) ⟨Or.inr rfl, Or.inl rfl, Or.inl rfl, trivial⟩ ?_
      exact fX6_tell_j34_ok hC hZ hRm hbt hr hF hK
    · have hF := it_f hF c6
      refine aw_iload_n hC dX6_tell_24 rfl ?_
      refine aw_iconst hC dX6_tell_25 (by decide) ?_
      refine aw_bipush hC dX6_tell_26 (by decide) (by decide) ?_
      obtain ⟨r10, q11, hF⟩ := bp_some hF
      refine clRX6_385 hC hRm hbt dX6_tell_28 (Nat.le_of_ble_eq_true rfl) (Nat.le_of_ble_eq_true rfl) (ok_X6_within q11) ?_
      refine aw_if_ne (tgt := 41) hC dX6_tell_31 (by decide) (fun c12 => ?_) (fun c12 => ?_)
      · have hF := it_f hF c12
        refine aw_aload_n hC dX6_tell_41 rfl ?_
        refine aw_gc6 (k := 66) (a := 35) (b := 64) hC hbt dX6_tell_42 lkRX6_117 (by decide) rfl rfl rfl (by decide) (by decide) ?_
        refine aw_iconst hC dX6_tell_45 (by decide) ?_
        refine aw_aload_n hC dX6_tell_46 rfl ?_
        refine aw_g6i (k := 65) (a := 35) hC dX6_tell_47 lkRX6_313 (by decide) rfl rfl rfl (Or.inl ⟨hbt, by decide⟩) ?_
        refine aw_imul hC dX6_tell_50 ?_
        refine aw_iload_n hC dX6_tell_51 rfl ?_
        obtain ⟨g13, hF⟩ := gd_some hF
        obtain ⟨h14, eh14, hF⟩ := lb_some hF
        refine aw_iastore (a := 64) hC dX6_tell_52 rfl rfl (Or.inl ⟨hbt, by decide⟩) g13.1 g13.2 ?_
        refine aw_eqH eh14 ?_
        clear eh14
        refine aw_aload_n hC dX6_tell_53 rfl ?_
        refine aw_gc6 (k := 66) (a := 35) (b := 64) hC hbt dX6_tell_54 lkRX6_117 (by decide) rfl rfl rfl (by decide) (by decide) ?_
        refine aw_iconst hC dX6_tell_57 (by decide) ?_
        refine aw_aload_n hC dX6_tell_58 rfl ?_
        refine aw_g6i (k := 65) (a := 35) hC dX6_tell_59 lkRX6_313 (by decide) rfl rfl rfl (Or.inl ⟨hbt, by decide⟩) ?_
        refine aw_imul hC dX6_tell_62 ?_
        refine aw_iconst hC dX6_tell_63 (by decide) ?_
        refine aw_iadd hC dX6_tell_64 ?_
        refine aw_iload_n hC dX6_tell_65 rfl ?_
        obtain ⟨g15, hF⟩ := gd_some hF
        obtain ⟨h16, eh16, hF⟩ := lb_some hF
        refine aw_iastore (a := 64) hC dX6_tell_66 rfl rfl (Or.inl ⟨hbt, by decide⟩) g15.1 g15.2 ?_
        refine aw_eqH eh16 ?_
        clear eh16
        refine aw_aload_n hC dX6_tell_67 rfl ?_
        refine aw_dup hC dX6_tell_68 (by simp) ?_
        refine aw_g6i (k := 65) (a := 35) hC dX6_tell_69 lkRX6_313 (by decide) rfl rfl rfl (Or.inl ⟨hbt, by decide⟩) ?_
        refine aw_iconst hC dX6_tell_72 (by decide) ?_
        refine aw_iadd hC dX6_tell_73 ?_
        obtain ⟨h17, eh17, hF⟩ := lb_some hF
        refine aw_p6i (k := 65) (a := 35) hC dX6_tell_74 lkRX6_313 (by decide) rfl rfl rfl rfl rfl (Or.inl ⟨hbt, by decide⟩) (fun _ => by decide) ?_
        refine aw_eqH eh17 ?_
        clear eh17
        refine aw_aload_n hC dX6_tell_77 rfl ?_
        refine aw_g6i (k := 65) (a := 35) hC dX6_tell_78 lkRX6_313 (by decide) rfl rfl rfl (Or.inl ⟨hbt, by decide⟩) ?_
        exact aw_ireturn hC hZ (Nat.zero_le _) (Nat.zero_le _) hr dX6_tell_81 (hK _ _ (Option.some.inj hF).symm)
      · have hF := it_t hF c12
        refine aw_weak (ls' := [(2, ((35 : Nat) : Int)), (9, 0), (9, 0)]) ⟨Or.inr rfl, Or.inl rfl, Or.inl rfl, trivial⟩ ?_
        exact fX6_tell_j34_ok hC hZ hRm hbt hr hF hK
  · have hF := it_t hF c5
    refine aw_iconst hC dX6_tell_13 (by decide) ?_
    exact aw_ireturn hC hZ (Nat.zero_le _) (Nat.zero_le _) hr dX6_tell_14 (hK _ _ (Option.some.inj hF).symm)
def fX6_forget  (h : Hp) : Option (Int × Hp) :=
  lb_ (st h 35 0 0) (fun h1 => lb_ (st h1 35 65 0) (fun h2 => some (0, h2)))
theorem ok_X6_forget {G : GD} {n : Nat}  {h : Hp} {res : Int × Hp} (hF : fX6_forget  h = some res) : Con G yX6_forget cX6_forget 1 none 0 0 0 true [(2, ((35 : Nat) : Int))] n h (FQ 8 n res) := by
  refine con_of (pad := 0) (own := RX6) (plainFor_of_name (by decide)) rfl rfl ?_
  intro X hC hbt hr hnm hZ hRm hn0
  have hK : ∀ (x9 : Int) (h9 : Hp), res = (x9, h9) → FQ 8 n res (8, x9) n h9 := fun x9 h9 e => by subst e; exact ⟨rfl, rfl, rfl⟩
  unfold fX6_forget at hF
  show AW G X 0 [(2, ((35 : Nat) : Int))] [] n h 0 0
  refine aw_aload_n hC dX6_forget_0 rfl ?_
  refine aw_iconst hC dX6_forget_1 (by decide) ?_
  obtain ⟨h1, eh1, hF⟩ := lb_some hF
  refine aw_p6i (k := 0) (a := 35) hC dX6_forget_2 lkRX6_129 (by decide) rfl rfl rfl rfl rfl (Or.inl ⟨hbt, by decide⟩) (fun _ => by decide) ?_
  refine aw_eqH eh1 ?_
  clear eh1
  refine aw_aload_n hC dX6_forget_5 rfl ?_
  refine aw_iconst hC dX6_forget_6 (by decide) ?_
  obtain ⟨h2, eh2, hF⟩ := lb_some hF
  refine aw_p6i (k := 65) (a := 35) hC dX6_forget_7 lkRX6_313 (by decide) rfl rfl rfl rfl rfl (Or.inl ⟨hbt, by decide⟩) (fun _ => by decide) ?_
  refine aw_eqH eh2 ?_
  clear eh2
  exact aw_return hC hZ (Nat.zero_le _) (Nat.zero_le _) hr dX6_forget_10 (hK _ _ (Option.some.inj hF).symm)
def fX6_liarsNow_l8 (x1 : Int) (x2 : Int) (h : Hp) : Option ((Int × Int × Hp) ⊕ (Int × Hp)) :=
  (if (h 35 65) ≤ x2 then some (.inr (x1, h)) else gd_ (0 ≤ (i_mul 2 x2) ∧ (i_mul 2 x2) < 12) (bd_ (fX6_sees ((h 64 (Int.toNat ((i_mul 2 x2))))) h) (fun r6 h8 => gd_ (0 ≤ (i_add ((i_mul 2 x2)) 1) ∧ (i_add ((i_mul 2 x2)) 1) < 12) ((if (h8 35 56) = (h8 64 (Int.toNat ((i_add ((i_mul 2 x2)) 1)))) then lb_ ((i_or x1 0)) (fun v11 => some (.inl (v11, (i_add x2 1), h8))) else gd_ (0 ≤ (i_mul 2 x2) ∧ (i_mul 2 x2) < 12) (lb_ ((i_or x1 ((i_shl 1 ((h8 64 (Int.toNat ((i_mul 2 x2))))))))) (fun v14 => some (.inl (v14, (i_add x2 1), h8)))))))))
def fX6_liarsNow  (h : Hp) : Option (Int × Hp) :=
  bd_ (fX6_laysOut h) (fun r1 h3 => bp_ (it_ (fun s => fX6_liarsNow_l8 s.1 s.2.1 s.2.2) FU (0, 0, h3)) (fun e16 => (fun y17 h18 => some (y17, h18)) e16.1 e16.2))
theorem fX6_liarsNow_l8_ok {G : GD} {X : CX} {n : Nat} {Q : Av → Nat → Hp → Prop} (hC : Cx G X RX6 cX6_liarsNow) (hZ : ZOK X G Q 0 0) (hRm : X.R = rmd 4 0 0) (hbt : X.bt = true) (hr : X.meth.sig.returnType = (some .int))  : ∀ (f : Nat) (x1 : Int) (x2 : Int) (h : Hp) (r : Int × Hp), it_ (fun s => fX6_liarsNow_l8 s.1 s.2.1 s.2.2) f (x1, x2, h) = some r → (∀ (y1 : Int) (h9 : Hp), r = (y1, h9) → AW G X 68 [(9, 0), (0, y1), (9, 0)] [] n h9 0 0) → AW G X 8 [(2, ((35 : Nat) : Int)), (0, x1), (0, x2)] [] n h 0 0 := by
  intro f
  induction f with
  | zero => intro x1 x2 h r hI; cases hI
  | succ f ih0 =>
    intro x1 x2 h r hI hX
    obtain ⟨b, hF, hb1, hb2⟩ := it_succ hI
    have hF : fX6_liarsNow_l8 x1 x2 h = some b := hF
    unfold fX6_liarsNow_l8 at hF
    refine aw_iload_n hC dX6_liarsNow_8 rfl ?_
    refine aw_aload_n hC dX6_liarsNow_9 rfl ?_
    refine aw_g6i (k := 65) (a := 35) hC dX6_liarsNow_10 lkRX6_313 (by decide) rfl rfl rfl (Or.inl ⟨hbt, by decide⟩) ?_
    refine aw_icmp_ge (tgt := 68) hC dX6_liarsNow_13 (by decide) (fun c4 => ?_) (fun c4 => ?_)
    · have hF := it_t hF c4
      refine aw_weak (ls' := [(9, 0), (0, x1), (9, 0)]) ⟨Or.inl rfl, Or.inr rfl, Or.inl rfl, trivial⟩ ?_
      exact hX _ _ (hb2 _ (Option.some.inj hF).symm).symm
    · have hF := it_f hF c4
      refine aw_aload_n hC dX6_liarsNow_16 rfl ?_
      refine aw_aload_n hC dX6_liarsNow_17 rfl ?_
      refine aw_gc6 (k := 66) (a := 35) (b := 64) hC hbt dX6_liarsNow_18 lkRX6_117 (by decide) rfl rfl rfl (by decide) (by decide) ?_
      refine aw_iconst hC dX6_liarsNow_21 (by decide) ?_
      refine aw_iload_n hC dX6_liarsNow_22 rfl ?_
      refine aw_imul hC dX6_liarsNow_23 ?_
      obtain ⟨g5, hF⟩ := gd_some hF
      refine aw_iaload (a := 64) hC dX6_liarsNow_24 rfl rfl (Or.inl ⟨hbt, by decide⟩) g5.1 g5.2 ?_
      obtain ⟨r6, h8, q7, hF⟩ := bd_some hF
      refine clRX6_364 hC hRm hbt dX6_liarsNow_25 rfl rfl (by decide) (Nat.le_of_ble_eq_true rfl) (Nat.le_of_ble_eq_true rfl) (ok_X6_sees q7) ?_
      refine aw_iload_n hC dX6_liarsNow_28 rfl ?_
      refine aw_aload_n hC dX6_liarsNow_29 rfl ?_
      refine aw_g6i (k := 56) (a := 35) hC dX6_liarsNow_30 lkRX6_354 (by decide) rfl rfl rfl (Or.inl ⟨hbt, by decide⟩) ?_
      refine aw_aload_n hC dX6_liarsNow_33 rfl ?_
      refine aw_gc6 (k := 66) (a := 35) (b := 64) hC hbt dX6_liarsNow_34 lkRX6_117 (by decide) rfl rfl rfl (by decide) (by decide) ?_
      refine aw_iconst hC dX6_liarsNow_37 (by decide) ?_
      refine aw_iload_n hC dX6_liarsNow_38 rfl ?_
      refine aw_imul hC dX6_liarsNow_39 ?_
      refine aw_iconst hC dX6_liarsNow_40 (by decide) ?_
      refine aw_iadd hC dX6_liarsNow_41 ?_
      obtain ⟨g9, hF⟩ := gd_some hF
      refine aw_iaload (a := 64) hC dX6_liarsNow_42 rfl rfl (Or.inl ⟨hbt, by decide⟩) g9.1 g9.2 ?_
      refine aw_icmp_eq (tgt := 59) hC dX6_liarsNow_43 (by decide) (fun c10 => ?_) (fun c10 => ?_)
      · have hF := it_t hF c10
        refine aw_iconst hC dX6_liarsNow_59 (by decide) ?_
        refine aw_ior hC dX6_liarsNow_60 ?_
        obtain ⟨v11, ev11, hF⟩ := lb_some hF
        refine aw_eqT ev11 ?_
        clear ev11
        refine aw_istore1 hC dX6_liarsNow_61 rfl ?_
        refine aw_iinc2 hC dX6_liarsNow_62 rfl ?_
        refine aw_goto (tgt := 8) hC dX6_liarsNow_65 (by decide) ?_
        exact ih0 _ _ _ r (hb1 _ (Option.some.inj hF).symm) hX
      · have hF := it_f hF c10
        refine aw_iconst hC dX6_liarsNow_46 (by decide) ?_
        refine aw_aload_n hC dX6_liarsNow_47 rfl ?_
        refine aw_gc6 (k := 66) (a := 35) (b := 64) hC hbt dX6_liarsNow_48 lkRX6_117 (by decide) rfl rfl rfl (by decide) (by decide) ?_
        refine aw_iconst hC dX6_liarsNow_51 (by decide) ?_
        refine aw_iload_n hC dX6_liarsNow_52 rfl ?_
        refine aw_imul hC dX6_liarsNow_53 ?_
        obtain ⟨g13, hF⟩ := gd_some hF
        refine aw_iaload (a := 64) hC dX6_liarsNow_54 rfl rfl (Or.inl ⟨hbt, by decide⟩) g13.1 g13.2 ?_
        refine aw_ishl hC dX6_liarsNow_55 ?_
        refine aw_goto (tgt := 60) hC dX6_liarsNow_56 (by decide) ?_
        refine aw_ior hC dX6_liarsNow_60 ?_
        obtain ⟨v14, ev14, hF⟩ := lb_some hF
        refine aw_eqT ev14 ?_
        clear ev14
        refine aw_istore1 hC dX6_liarsNow_61 rfl ?_
        refine aw_iinc2 hC dX6_liarsNow_62 rfl ?_
        refine aw_goto (tgt := 8) hC dX6_liarsNow_65 (by decide) ?_
        exact ih0 _ _ _ r (hb1 _ (Option.some.inj hF).symm) hX
theorem ok_X6_liarsNow {G : GD} {n : Nat}  {h : Hp} {res : Int × Hp} (hF : fX6_liarsNow  h = some res) : Con G yX6_liarsNow cX6_liarsNow 3 (some .int) 4 0 0 true [(2, ((35 : Nat) : Int))] n h (FQ 0 n res) := by
  refine con_of (pad := 2) (own := RX6) (plainFor_of_name (by decide)) rfl rfl ?_
  intro X hC hbt hr hnm hZ hRm hn0
  have hK : ∀ (x9 : Int) (h9 : Hp), res = (x9, h9) → FQ 0 n res (0, x9) n h9 := fun x9 h9 e => by subst e; exact ⟨rfl, rfl, rfl⟩
  unfold fX6_liarsNow at hF
  show AW G X 0 [(2, ((35 : Nat) : Int)), (9, 0), (9, 0)] [] n h 0 0
  refine aw_aload_n hC dX6_liarsNow_0 rfl ?_
  obtain ⟨r1, h3, q2, hF⟩ := bd_some hF
  refine clRX6_379 hC hRm hbt dX6_liarsNow_1 rfl rfl (by decide) (Nat.le_of_ble_eq_true rfl) (Nat.le_of_ble_eq_true rfl) (ok_X6_laysOut q2) ?_
  refine aw_iconst hC dX6_liarsNow_4 (by decide) ?_
  refine aw_istore1 hC dX6_liarsNow_5 rfl ?_
  refine aw_iconst hC dX6_liarsNow_6 (by decide) ?_
  refine aw_istore2 hC dX6_liarsNow_7 rfl ?_
  obtain ⟨e16, he, hF⟩ := bp_some hF
  refine fX6_liarsNow_l8_ok hC hZ hRm hbt hr FU _ _ _ e16 he (fun y17 h18 er => ?_)
  replace er := er.symm
  subst er
  try dsimp only at hF
  refine aw_iload_n hC dX6_liarsNow_68 rfl ?_
  exact aw_ireturn hC hZ (Nat.zero_le _) (Nat.zero_le _) hr dX6_liarsNow_69 (hK _ _ (Option.some.inj hF).symm)
def fX6_liars  (h : Hp) : Option (Int × Hp) :=
  lb_ (st h 35 0 0) (fun h1 => bd_ (fX6_liarsNow h1) (fun r2 h4 => some (r2, h4)))
theorem ok_X6_liars {G : GD} {n : Nat}  {h : Hp} {res : Int × Hp} (hF : fX6_liars  h = some res) : Con G yX6_liars cX6_liars 1 (some .int) 5 0 0 true [(2, ((35 : Nat) : Int))] n h (FQ 0 n res) := by
  refine con_of (pad := 0) (own := RX6) (plainFor_of_name (by decide)) rfl rfl ?_
  intro X hC hbt hr hnm hZ hRm hn0
  have hK : ∀ (x9 : Int) (h9 : Hp), res = (x9, h9) → FQ 0 n res (0, x9) n h9 := fun x9 h9 e => by subst e; exact ⟨rfl, rfl, rfl⟩
  unfold fX6_liars at hF
  show AW G X 0 [(2, ((35 : Nat) : Int))] [] n h 0 0
  refine aw_aload_n hC dX6_liars_0 rfl ?_
  refine aw_iconst hC dX6_liars_1 (by decide) ?_
  obtain ⟨h1, eh1, hF⟩ := lb_some hF
  refine aw_p6i (k := 0) (a := 35) hC dX6_liars_2 lkRX6_129 (by decide) rfl rfl rfl rfl rfl (Or.inl ⟨hbt, by decide⟩) (fun _ => by decide) ?_
  refine aw_eqH eh1 ?_
  clear eh1
  refine aw_aload_n hC dX6_liars_5 rfl ?_
  obtain ⟨r2, h4, q3, hF⟩ := bd_some hF
  refine clRX6_457 hC hRm hbt dX6_liars_6 rfl rfl (by decide) (Nat.le_of_ble_eq_true rfl) (Nat.le_of_ble_eq_true rfl) (ok_X6_liarsNow q3) ?_
  exact aw_ireturn hC hZ (Nat.zero_le _) (Nat.zero_le _) hr dX6_liars_9 (hK _ _ (Option.some.inj hF).symm)
def fX6_heights_l41 (x1 : Int) (x2 : Int) (x3 : Int) (x4 : Int) (x5 : Int) (x6 : Int) (h : Hp) : Option ((Int × Int × Int × Hp) ⊕ (Int × Int × Hp)) :=
  (if x6 < 0 then some (.inr (x4, x5, h)) else gd_ (0 ≤ x1 ∧ x1 < 64) (lb_ (st h 36 (Int.toNat x1) x6) (fun h14 => bd_ (fX6_liarsNow h14) (fun r15 h17 => (if r15 = 0 then some (.inl ((i_add x4 1), x6, (i_add x6 (-1)), h17)) else some (.inl (x4, x5, (i_add x6 (-1)), h17)))))))
def fX6_heights (x1 : Int) (x2 : Int) (h : Hp) : Option (Int × Hp) :=
  lb_ (st h 35 0 0) (fun h1 => bd_ (fX6_isCell x1 h1) (fun r2 h4 => (if r2 = 0 then some (0, h4) else bd_ (fX6_isWhat x2 1 h4) (fun r6 h8 => (if r6 = 0 then some (0, h8) else gd_ (0 ≤ x1 ∧ x1 < 64) (lb_ ((h8 36 (Int.toNat x1))) (fun v11 => bp_ (it_ (fun s => fX6_heights_l41 x1 x2 v11 s.1 s.2.1 s.2.2.1 s.2.2.2) FU (0, (-1), 9, h8)) (fun e22 => (fun y23 y24 h25 => gd_ (0 ≤ x1 ∧ x1 < 64) (lb_ (st h25 36 (Int.toNat x1) v11) (fun h27 => (if x2 = 0 then some (y23, h27) else some (y24, h27))))) e22.1 e22.2.1 e22.2.2))))))))
theorem fX6_heights_l41_ok {G : GD} {X : CX} {n : Nat} {Q : Av → Nat → Hp → Prop} (hC : Cx G X RX6 cX6_heights) (hZ : ZOK X G Q 0 0) (hRm : X.R = rmd 5 0 0) (hbt : X.bt = true) (hr : X.meth.sig.returnType = (some .int)) {x1 : Int} {x2 : Int} {x3 : Int} : ∀ (f : Nat) (x4 : Int) (x5 : Int) (x6 : Int) (h : Hp) (r : Int × Int × Hp), it_ (fun s => fX6_heights_l41 x1 x2 x3 s.1 s.2.1 s.2.2.1 s.2.2.2) f (x4, x5, x6, h) = some r → (∀ (y4 : Int) (y5 : Int) (h9 : Hp), r = (y4, y5, h9) → AW G X 77 [(2, ((35 : Nat) : Int)), (0, x1), (0, x2), (0, x3), (0, y4), (0, y5), (9, 0)] [] n h9 0 0) → AW G X 41 [(2, ((35 : Nat) : Int)), (0, x1), (0, x2), (0, x3), (0, x4), (0, x5), (0, x6)] [] n h 0 0 := by
  intro f
  induction f with
  | zero => intro x4 x5 x6 h r hI; cases hI
  | succ f ih0 =>
    intro x4 x5 x6 h r hI hX
    obtain ⟨b, hF, hb1, hb2⟩ := it_succ hI
    have hF : fX6_heights_l41 x1 x2 x3 x4 x5 x6 h = some b := hF
    unfold fX6_heights_l41 at hF
    refine aw_iload hC dX6_heights_41 rfl ?_
    refine aw_if_lt (tgt := 77) hC dX6_heights_43 (by decide) (fun c12 => ?_) (fun c12 => ?_)
    · have hF := it_t hF c12
      refine aw_weak (ls' := [(2, ((35 : Nat) : Int)), (0, x1), (0, x2), (0, x3), (0, x4), (0, x5), (9, 0)]) ⟨Or.inr rfl, Or.inr rfl, Or.inr rfl, Or.inr rfl, Or.inr rfl, Or.inr rfl, Or.inl rfl, trivial⟩ ?_
      exact hX _ _ _ (hb2 _ (Option.some.inj hF).symm).symm
    · have hF := it_f hF c12
      refine aw_aload_n hC dX6_heights_46 rfl ?_
      refine aw_gc6 (k := 6) (a := 35) (b := 36) hC hbt dX6_heights_47 lkRX6_16 (by decide) rfl rfl rfl (by decide) (by decide) ?_
      refine aw_iload_n hC dX6_heights_50 rfl ?_
      refine aw_iload hC dX6_heights_51 rfl ?_
      obtain ⟨g13, hF⟩ := gd_some hF
      obtain ⟨h14, eh14, hF⟩ := lb_some hF
      refine aw_iastore (a := 36) hC dX6_heights_53 rfl rfl (Or.inl ⟨hbt, by decide⟩) g13.1 g13.2 ?_
      refine aw_eqH eh14 ?_
      clear eh14
      refine aw_aload_n hC dX6_heights_54 rfl ?_
      obtain ⟨r15, h17, q16, hF⟩ := bd_some hF
      refine clRX6_457 hC hRm hbt dX6_heights_55 rfl rfl (by decide) (Nat.le_of_ble_eq_true rfl) (Nat.le_of_ble_eq_true rfl) (ok_X6_liarsNow q16) ?_
      refine aw_if_eq (tgt := 64) hC dX6_heights_58 (by decide) (fun c18 => ?_) (fun c18 => ?_)
      · have hF := it_t hF c18
        refine aw_iinc4 hC dX6_heights_64 rfl ?_
        refine aw_iload hC dX6_heights_67 rfl ?_
        refine aw_istore5 hC dX6_heights_69 rfl ?_
        refine aw_iinc6 hC dX6_heights_71 rfl ?_
        refine aw_goto (tgt := 41) hC dX6_heights_74 (by decide) ?_
        exact ih0 _ _ _ _ r (hb1 _ (Option.some.inj hF).symm) hX
      · have hF := it_f hF c18
        refine aw_goto (tgt := 71) hC dX6_heights_61 (by decide) ?_
        refine aw_iinc6 hC dX6_heights_71 rfl ?_
        refine aw_goto (tgt := 41) hC dX6_heights_74 (by decide) ?_
        exact ih0 _ _ _ _ r (hb1 _ (Option.some.inj hF).symm) hX
theorem ok_X6_heights {G : GD} {n : Nat} {x1 : Int} {x2 : Int} {h : Hp} {res : Int × Hp} (hF : fX6_heights x1 x2 h = some res) : Con G yX6_heights cX6_heights 7 (some .int) 5 0 0 true [(2, ((35 : Nat) : Int)), (0, x1), (0, x2)] n h (FQ 0 n res) := by
  refine con_of (pad := 4) (own := RX6) (plainFor_of_name (by decide)) rfl rfl ?_
  intro X hC hbt hr hnm hZ hRm hn0
  have hK : ∀ (x9 : Int) (h9 : Hp), res = (x9, h9) → FQ 0 n res (0, x9) n h9 := fun x9 h9 e => by subst e; exact ⟨rfl, rfl, rfl⟩
  unfold fX6_heights at hF
  show AW G X 0 [(2, ((35 : Nat) : Int)), (0, x1), (0, x2), (9, 0), (9, 0), (9, 0), (9, 0)] [] n h 0 0
  refine aw_aload_n hC dX6_heights_0 rfl ?_
  refine aw_iconst hC dX6_heights_1 (by decide) ?_
  obtain ⟨h1, eh1, hF⟩ := lb_some hF
  refine aw_p6i (k := 0) (a := 35) hC dX6_heights_2 lkRX6_129 (by decide) rfl rfl rfl rfl rfl (Or.inl ⟨hbt, by decide⟩) (fun _ => by decide) ?_
  refine aw_eqH eh1 ?_
  clear eh1
  refine aw_aload_n hC dX6_heights_5 rfl ?_
  refine aw_iload_n hC dX6_heights_6 rfl ?_
  obtain ⟨r2, h4, q3, hF⟩ := bd_some hF
  refine clRX6_395 hC hRm hbt dX6_heights_7 rfl rfl (by decide) (Nat.le_of_ble_eq_true rfl) (Nat.le_of_ble_eq_true rfl) (ok_X6_isCell q3) ?_
  refine aw_if_eq (tgt := 22) hC dX6_heights_10 (by decide) (fun c5 => ?_) (fun c5 => ?_)
  · have hF := it_t hF c5
    refine aw_iconst hC dX6_heights_22 (by decide) ?_
    exact aw_ireturn hC hZ (Nat.zero_le _) (Nat.zero_le _) hr dX6_heights_23 (hK _ _ (Option.some.inj hF).symm)
  · have hF := it_f hF c5
    refine aw_aload_n hC dX6_heights_13 rfl ?_
    refine aw_iload_n hC dX6_heights_14 rfl ?_
    refine aw_iconst hC dX6_heights_15 (by decide) ?_
    obtain ⟨r6, h8, q7, hF⟩ := bd_some hF
    refine clRX6_398 hC hRm hbt dX6_heights_16 rfl rfl (by decide) (Nat.le_of_ble_eq_true rfl) (Nat.le_of_ble_eq_true rfl) (ok_X6_isWhat q7) ?_
    refine aw_if_ne (tgt := 24) hC dX6_heights_19 (by decide) (fun c9 => ?_) (fun c9 => ?_)
    · have hF := it_f hF c9
      refine aw_aload_n hC dX6_heights_24 rfl ?_
      refine aw_gc6 (k := 6) (a := 35) (b := 36) hC hbt dX6_heights_25 lkRX6_16 (by decide) rfl rfl rfl (by decide) (by decide) ?_
      refine aw_iload_n hC dX6_heights_28 rfl ?_
      obtain ⟨g10, hF⟩ := gd_some hF
      refine aw_iaload (a := 36) hC dX6_heights_29 rfl rfl (Or.inl ⟨hbt, by decide⟩) g10.1 g10.2 ?_
      obtain ⟨v11, ev11, hF⟩ := lb_some hF
      refine aw_eqT ev11 ?_
      clear ev11
      refine aw_istore3 hC dX6_heights_30 rfl ?_
      refine aw_iconst hC dX6_heights_31 (by decide) ?_
      refine aw_istore4 hC dX6_heights_32 rfl ?_
      refine aw_iconst hC dX6_heights_34 (by decide) ?_
      refine aw_istore5 hC dX6_heights_35 rfl ?_
      refine aw_bipush hC dX6_heights_37 (by decide) (by decide) ?_
      refine aw_istore6 hC dX6_heights_39 rfl ?_
      obtain ⟨e22, he, hF⟩ := bp_some hF
      refine fX6_heights_l41_ok hC hZ hRm hbt hr FU _ _ _ _ e22 he (fun y23 y24 h25 er => ?_)
      replace er := er.symm
      subst er
      try dsimp only at hF
      refine aw_aload_n hC dX6_heights_77 rfl ?_
      refine aw_gc6 (k := 6) (a := 35) (b := 36) hC hbt dX6_heights_78 lkRX6_16 (by decide) rfl rfl rfl (by decide) (by decide) ?_
      refine aw_iload_n hC dX6_heights_81 rfl ?_
      refine aw_iload_n hC dX6_heights_82 rfl ?_
      obtain ⟨g26, hF⟩ := gd_some hF
      obtain ⟨h27, eh27, hF⟩ := lb_some hF
      refine aw_iastore (a := 36) hC dX6_heights_83 rfl rfl (Or.inl ⟨hbt, by decide⟩) g26.1 g26.2 ?_
      refine aw_eqH eh27 ?_
      clear eh27
      refine aw_iload_n hC dX6_heights_84 rfl ?_
      refine aw_if_ne (tgt := 93) hC dX6_heights_85 (by decide) (fun c28 => ?_) (fun c28 => ?_)
      · have hF := it_f hF c28
        refine aw_iload hC dX6_heights_93 rfl ?_
        exact aw_ireturn hC hZ (Nat.zero_le _) (Nat.zero_le _) hr dX6_heights_95 (hK _ _ (Option.some.inj hF).symm)
      · have hF := it_t hF c28
        refine aw_iload hC dX6_heights_88 rfl ?_
        refine aw_goto (tgt := 95) hC dX6_heights_90 (by decide) ?_
        exact aw_ireturn hC hZ (Nat.zero_le _) (Nat.zero_le _) hr dX6_heights_95 (hK _ _ (Option.some.inj hF).symm)
    · have hF := it_t hF c9
      refine aw_iconst hC dX6_heights_22 (by decide) ?_
      exact aw_ireturn hC hZ (Nat.zero_le _) (Nat.zero_le _) hr dX6_heights_23 (hK _ _ (Option.some.inj hF).symm)
def fX6_cheat_l36 (x3 : Int) (x4 : Int) (x1 : Int) (x2 : Int) (x5 : Int) (h : Hp) : Option ((Int × Int × Int × Hp) ⊕ (Int × Int × Hp)) :=
  (if 9 < x5 then some (.inr (x1, x2, h)) else bp_ (fX6_houseIn x3 h) (fun r13 => (if r13 = (-1) then (if x5 = x4 then some (.inl (x1, x2, (i_add x5 1), h)) else gd_ (0 ≤ x3 ∧ x3 < 64) (lb_ (st h 36 (Int.toNat x3) x5) (fun h18 => bd_ (fX6_liarsNow h18) (fun r19 h21 => bp_ (fX6_bits r19 h21) (fun r22 => gd_ (0 ≤ x3 ∧ x3 < 64) (lb_ (st h21 36 (Int.toNat x3) x4) (fun h25 => (if r22 < x2 then lb_ ((i_add ((i_mul 10 x3)) x5)) (fun v27 => some (.inl (v27, r22, (i_add x5 1), h25))) else some (.inl (x1, x2, (i_add x5 1), h25)))))))))) else some (.inr (x1, x2, h)))))
def fX6_cheat_l17 (x1 : Int) (x2 : Int) (x3 : Int) (h : Hp) : Option ((Int × Int × Int × Hp) ⊕ (Int × Hp)) :=
  bp_ (fX6_cells h) (fun r7 => (if r7 ≤ x3 then some (.inr (x1, h)) else gd_ (0 ≤ x3 ∧ x3 < 64) (lb_ ((h 36 (Int.toNat x3))) (fun v11 => bp_ (it_ (fun s => fX6_cheat_l36 x3 v11 s.1 s.2.1 s.2.2.1 s.2.2.2) FU (x1, x2, 0, h)) (fun e31 => (fun y32 y33 h34 => some (.inl (y32, y33, (i_add x3 1), h34))) e31.1 e31.2.1 e31.2.2)))))
def fX6_cheat  (h : Hp) : Option (Int × Hp) :=
  lb_ (st h 35 0 0) (fun h1 => bd_ (fX6_liarsNow h1) (fun r2 h4 => bp_ (fX6_bits r2 h4) (fun r5 => bp_ (it_ (fun s => fX6_cheat_l17 s.1 s.2.1 s.2.2.1 s.2.2.2) FU ((-1), r5, 0, h4)) (fun e36 => (fun y37 h38 => some (y37, h38)) e36.1 e36.2))))
theorem fX6_cheat_l36_ok {G : GD} {X : CX} {n : Nat} {Q : Av → Nat → Hp → Prop} (hC : Cx G X RX6 cX6_cheat) (hZ : ZOK X G Q 0 0) (hRm : X.R = rmd 5 0 0) (hbt : X.bt = true) (hr : X.meth.sig.returnType = (some .int)) {x3 : Int} {x4 : Int} : ∀ (f : Nat) (x1 : Int) (x2 : Int) (x5 : Int) (h : Hp) (r : Int × Int × Hp), it_ (fun s => fX6_cheat_l36 x3 x4 s.1 s.2.1 s.2.2.1 s.2.2.2) f (x1, x2, x5, h) = some r → (∀ (y1 : Int) (y2 : Int) (h9 : Hp), r = (y1, y2, h9) → AW G X 113 [(2, ((35 : Nat) : Int)), (0, y1), (0, y2), (0, x3), (9, 0), (9, 0), (9, 0)] [] n h9 0 0) → AW G X 36 [(2, ((35 : Nat) : Int)), (0, x1), (0, x2), (0, x3), (0, x4), (0, x5), (9, 0)] [] n h 0 0 := by
  intro f
  induction f with
  | zero => intro x1 x2 x5 h r hI; cases hI
  | succ f ih0 =>
    intro x1 x2 x5 h r hI hX
    obtain ⟨b, hF, hb1, hb2⟩ := it_succ hI
    have hF : fX6_cheat_l36 x3 x4 x1 x2 x5 h = some b := hF
    unfold fX6_cheat_l36 at hF
    refine aw_iload hC dX6_cheat_36 rfl ?_
    refine aw_bipush hC dX6_cheat_38 (by decide) (by decide) ?_
    refine aw_icmp_gt (tgt := 113) hC dX6_cheat_40 (by decide) (fun c12 => ?_) (fun c12 => ?_)
    · have hF := it_t hF c12
      refine aw_weak (ls' := [(2, ((35 : Nat) : Int)), (0, x1), (0, x2), (0, x3), (9, 0), (9, 0), (9, 0)]) ⟨Or.inr rfl, Or.inr rfl, Or.inr rfl, Or.inr rfl, Or.inl rfl, Or.inl rfl, Or.inl rfl, trivial⟩ ?_
      exact hX _ _ _ (hb2 _ (Option.some.inj hF).symm).symm
    · have hF := it_f hF c12
      refine aw_aload_n hC dX6_cheat_43 rfl ?_
      refine aw_iload_n hC dX6_cheat_44 rfl ?_
      obtain ⟨r13, q14, hF⟩ := bp_some hF
      refine clRX6_326 hC hRm hbt dX6_cheat_45 rfl rfl (by decide) (Nat.le_of_ble_eq_true rfl) (Nat.le_of_ble_eq_true rfl) (ok_X6_houseIn q14) ?_
      refine aw_iconst hC dX6_cheat_48 (by decide) ?_
      refine aw_icmp_ne (tgt := 113) hC dX6_cheat_49 (by decide) (fun c15 => ?_) (fun c15 => ?_)
      · have hF := it_f hF c15
        refine aw_weak (ls' := [(2, ((35 : Nat) : Int)), (0, x1), (0, x2), (0, x3), (9, 0), (9, 0), (9, 0)]) ⟨Or.inr rfl, Or.inr rfl, Or.inr rfl, Or.inr rfl, Or.inl rfl, Or.inl rfl, Or.inl rfl, trivial⟩ ?_
        exact hX _ _ _ (hb2 _ (Option.some.inj hF).symm).symm
      · have hF := it_t hF c15
        refine aw_iload hC dX6_cheat_52 rfl ?_
        refine aw_iload hC dX6_cheat_54 rfl ?_
        refine aw_icmp_ne (tgt := 62) hC dX6_cheat_56 (by decide) (fun c16 => ?_) (fun c16 => ?_)
        · have hF := it_f hF c16
          refine aw_aload_n hC dX6_cheat_62 rfl ?_
          refine aw_gc6 (k := 6) (a := 35) (b := 36) hC hbt dX6_cheat_63 lkRX6_16 (by decide) rfl rfl rfl (by decide) (by decide) ?_
          refine aw_iload_n hC dX6_cheat_66 rfl ?_
          refine aw_iload hC dX6_cheat_67 rfl ?_
          obtain ⟨g17, hF⟩ := gd_some hF
          obtain ⟨h18, eh18, hF⟩ := lb_some hF
          refine aw_iastore (a := 36) hC dX6_cheat_69 rfl rfl (Or.inl ⟨hbt, by decide⟩) g17.1 g17.2 ?_
          refine aw_eqH eh18 ?_
          clear eh18
          refine aw_aload_n hC dX6_cheat_70 rfl ?_
          obtain ⟨r19, h21, q20, hF⟩ := bd_some hF
          refine clRX6_457 hC hRm hbt dX6_cheat_71 rfl rfl (by decide) (Nat.le_of_ble_eq_true rfl) (Nat.le_of_ble_eq_true rfl) (ok_X6_liarsNow q20) ?_
          obtain ⟨r22, q23, hF⟩ := bp_some hF
          refine clRX6_370 hC hRm hbt dX6_cheat_74 (Nat.le_of_ble_eq_true rfl) (Nat.le_of_ble_eq_true rfl) (ok_X6_bits q23) ?_
          refine aw_istore6 hC dX6_cheat_77 rfl ?_
          refine aw_aload_n hC dX6_cheat_79 rfl ?_
          refine aw_gc6 (k := 6) (a := 35) (b := 36) hC hbt dX6_cheat_80 lkRX6_16 (by decide) rfl rfl rfl (by decide) (by decide) ?_
          refine aw_iload_n hC dX6_cheat_83 rfl ?_
          refine aw_iload hC dX6_cheat_84 rfl ?_
          obtain ⟨g24, hF⟩ := gd_some hF
          obtain ⟨h25, eh25, hF⟩ := lb_some hF
          refine aw_iastore (a := 36) hC dX6_cheat_86 rfl rfl (Or.inl ⟨hbt, by decide⟩) g24.1 g24.2 ?_
          refine aw_eqH eh25 ?_
          clear eh25
          refine aw_iload hC dX6_cheat_87 rfl ?_
          refine aw_iload_n hC dX6_cheat_89 rfl ?_
          refine aw_icmp_lt (tgt := 96) hC dX6_cheat_90 (by decide) (fun c26 => ?_) (fun c26 => ?_)
          · have hF := it_t hF c26
            refine aw_bipush hC dX6_cheat_96 (by decide) (by decide) ?_
            refine aw_iload_n hC dX6_cheat_98 rfl ?_
            refine aw_imul hC dX6_cheat_99 ?_
            refine aw_iload hC dX6_cheat_100 rfl ?_
            refine aw_iadd hC dX6_cheat_102 ?_
            obtain ⟨v27, ev27, hF⟩ := lb_some hF
            refine aw_eqT ev27 ?_
            clear ev27
            refine aw_istore1 hC dX6_cheat_103 rfl ?_
            refine aw_iload hC dX6_cheat_104 rfl ?_
            refine aw_istore2 hC dX6_cheat_106 rfl ?_
            refine aw_iinc5 hC dX6_cheat_107 rfl ?_
            refine aw_goto (tgt := 36) hC dX6_cheat_110 (by decide) ?_
            refine aw_weak (ls' := [(2, ((35 : Nat) : Int)), (0, v27), (0, r22), (0, x3), (0, x4), (0, (i_add x5 1)), (9, 0)]) ⟨Or.inr rfl, Or.inr rfl, Or.inr rfl, Or.inr rfl, Or.inr rfl, Or.inr rfl, Or.inl rfl, trivial⟩ ?_
            exact ih0 _ _ _ _ r (hb1 _ (Option.some.inj hF).symm) hX
          · have hF := it_f hF c26
            refine aw_goto (tgt := 107) hC dX6_cheat_93 (by decide) ?_
            refine aw_iinc5 hC dX6_cheat_107 rfl ?_
            refine aw_goto (tgt := 36) hC dX6_cheat_110 (by decide) ?_
            refine aw_weak (ls' := [(2, ((35 : Nat) : Int)), (0, x1), (0, x2), (0, x3), (0, x4), (0, (i_add x5 1)), (9, 0)]) ⟨Or.inr rfl, Or.inr rfl, Or.inr rfl, Or.inr rfl, Or.inr rfl, Or.inr rfl, Or.inl rfl, trivial⟩ ?_
            exact ih0 _ _ _ _ r (hb1 _ (Option.some.inj hF).symm) hX
        · have hF := it_t hF c16
          refine aw_goto (tgt := 107) hC dX6_cheat_59 (by decide) ?_
          refine aw_iinc5 hC dX6_cheat_107 rfl ?_
          refine aw_goto (tgt := 36) hC dX6_cheat_110 (by decide) ?_
          exact ih0 _ _ _ _ r (hb1 _ (Option.some.inj hF).symm) hX
theorem fX6_cheat_l17_ok {G : GD} {X : CX} {n : Nat} {Q : Av → Nat → Hp → Prop} (hC : Cx G X RX6 cX6_cheat) (hZ : ZOK X G Q 0 0) (hRm : X.R = rmd 5 0 0) (hbt : X.bt = true) (hr : X.meth.sig.returnType = (some .int))  : ∀ (f : Nat) (x1 : Int) (x2 : Int) (x3 : Int) (h : Hp) (r : Int × Hp), it_ (fun s => fX6_cheat_l17 s.1 s.2.1 s.2.2.1 s.2.2.2) f (x1, x2, x3, h) = some r → (∀ (y1 : Int) (h9 : Hp), r = (y1, h9) → AW G X 119 [(9, 0), (0, y1), (9, 0), (9, 0), (9, 0), (9, 0), (9, 0)] [] n h9 0 0) → AW G X 17 [(2, ((35 : Nat) : Int)), (0, x1), (0, x2), (0, x3), (9, 0), (9, 0), (9, 0)] [] n h 0 0 := by
  intro f
  induction f with
  | zero => intro x1 x2 x3 h r hI; cases hI
  | succ f ih0 =>
    intro x1 x2 x3 h r hI hX
    obtain ⟨b, hF, hb1, hb2⟩ := it_succ hI
    have hF : fX6_cheat_l17 x1 x2 x3 h = some b := hF
    unfold fX6_cheat_l17 at hF
    refine aw_iload_n hC dX6_cheat_17 rfl ?_
    refine aw_aload_n hC dX6_cheat_18 rfl ?_
    obtain ⟨r7, q8, hF⟩ := bp_some hF
    refine clRX6_323 hC hRm hbt dX6_cheat_19 rfl rfl (by decide) (Nat.le_of_ble_eq_true rfl) (Nat.le_of_ble_eq_true rfl) (ok_X6_cells q8) ?_
    refine aw_icmp_ge (tgt := 119) hC dX6_cheat_22 (by decide) (fun c9 => ?_) (fun c9 => ?_)
    · have hF := it_t hF c9
      refine aw_weak (ls' := [(9, 0), (0, x1), (9, 0), (9, 0), (9, 0), (9, 0), (9, 0)]) ⟨Or.inl rfl, Or.inr rfl, Or.inl rfl, Or.inl rfl, Or.inl rfl, Or.inl rfl, Or.inl rfl, trivial⟩ ?_
      exact hX _ _ (hb2 _ (Option.some.inj hF).symm).symm
    · have hF := it_f hF c9
      refine aw_aload_n hC dX6_cheat_25 rfl ?_
      refine aw_gc6 (k := 6) (a := 35) (b := 36) hC hbt dX6_cheat_26 lkRX6_16 (by decide) rfl rfl rfl (by decide) (by decide) ?_
      refine aw_iload_n hC dX6_cheat_29 rfl ?_
      obtain ⟨g10, hF⟩ := gd_some hF
      refine aw_iaload (a := 36) hC dX6_cheat_30 rfl rfl (Or.inl ⟨hbt, by decide⟩) g10.1 g10.2 ?_
      obtain ⟨v11, ev11, hF⟩ := lb_some hF
      refine aw_eqT ev11 ?_
      clear ev11
      refine aw_istore4 hC dX6_cheat_31 rfl ?_
      refine aw_iconst hC dX6_cheat_33 (by decide) ?_
      refine aw_istore5 hC dX6_cheat_34 rfl ?_
      obtain ⟨e31, he, hF⟩ := bp_some hF
      refine fX6_cheat_l36_ok hC hZ hRm hbt hr FU _ _ _ _ e31 he (fun y32 y33 h34 er => ?_)
      replace er := er.symm
      subst er
      try dsimp only at hF
      refine aw_iinc3 hC dX6_cheat_113 rfl ?_
      refine aw_goto (tgt := 17) hC dX6_cheat_116 (by decide) ?_
      exact ih0 _ _ _ _ r (hb1 _ (Option.some.inj hF).symm) hX
theorem ok_X6_cheat {G : GD} {n : Nat}  {h : Hp} {res : Int × Hp} (hF : fX6_cheat  h = some res) : Con G yX6_cheat cX6_cheat 7 (some .int) 5 0 0 true [(2, ((35 : Nat) : Int))] n h (FQ 0 n res) := by
  refine con_of (pad := 6) (own := RX6) (plainFor_of_name (by decide)) rfl rfl ?_
  intro X hC hbt hr hnm hZ hRm hn0
  have hK : ∀ (x9 : Int) (h9 : Hp), res = (x9, h9) → FQ 0 n res (0, x9) n h9 := fun x9 h9 e => by subst e; exact ⟨rfl, rfl, rfl⟩
  unfold fX6_cheat at hF
  show AW G X 0 [(2, ((35 : Nat) : Int)), (9, 0), (9, 0), (9, 0), (9, 0), (9, 0), (9, 0)] [] n h 0 0
  refine aw_aload_n hC dX6_cheat_0 rfl ?_
  refine aw_iconst hC dX6_cheat_1 (by decide) ?_
  obtain ⟨h1, eh1, hF⟩ := lb_some hF
  refine aw_p6i (k := 0) (a := 35) hC dX6_cheat_2 lkRX6_129 (by decide) rfl rfl rfl rfl rfl (Or.inl ⟨hbt, by decide⟩) (fun _ => by decide) ?_
  refine aw_eqH eh1 ?_
  clear eh1
  refine aw_iconst hC dX6_cheat_5 (by decide) ?_
  refine aw_istore1 hC dX6_cheat_6 rfl ?_
  refine aw_aload_n hC dX6_cheat_7 rfl ?_
  obtain ⟨r2, h4, q3, hF⟩ := bd_some hF
  refine clRX6_457 hC hRm hbt dX6_cheat_8 rfl rfl (by decide) (Nat.le_of_ble_eq_true rfl) (Nat.le_of_ble_eq_true rfl) (ok_X6_liarsNow q3) ?_
  obtain ⟨r5, q6, hF⟩ := bp_some hF
  refine clRX6_370 hC hRm hbt dX6_cheat_11 (Nat.le_of_ble_eq_true rfl) (Nat.le_of_ble_eq_true rfl) (ok_X6_bits q6) ?_
  refine aw_istore2 hC dX6_cheat_14 rfl ?_
  refine aw_iconst hC dX6_cheat_15 (by decide) ?_
  refine aw_istore3 hC dX6_cheat_16 rfl ?_
  obtain ⟨e36, he, hF⟩ := bp_some hF
  refine fX6_cheat_l17_ok hC hZ hRm hbt hr FU _ _ _ _ e36 he (fun y37 h38 er => ?_)
  replace er := er.symm
  subst er
  try dsimp only at hF
  refine aw_iload_n hC dX6_cheat_119 rfl ?_
  exact aw_ireturn hC hZ (Nat.zero_le _) (Nat.zero_le _) hr dX6_cheat_120 (hK _ _ (Option.some.inj hF).symm)
def fX6_isPoor_l2 (x1 : Int) (h : Hp) : Option ((Int) ⊕ ((Unit) ⊕ (Int))) :=
  (if (h 35 3) ≤ x1 then some (.inr (.inl ())) else gd_ (0 ≤ (i_add 36 x1) ∧ (i_add 36 x1) < 62) ((if 0 ≤ (h 54 (Int.toNat ((i_add 36 x1)))) then some (.inl (i_add x1 1)) else some (.inr (.inr 1)))))
def fX6_isPoor  (h : Hp) : Option (Int) :=
  bp_ (it_ (fun s => fX6_isPoor_l2 s h) FU 0) (fun e5 => match e5 with | .inl e5 => some 0 | .inr q9 => some q9)
theorem fX6_isPoor_l2_ok {G : GD} {X : CX} {n : Nat} {Q : Av → Nat → Hp → Prop} (hC : Cx G X RX6 cX6_isPoor) (hZ : ZOK X G Q 0 0) (hRm : X.R = rmd 0 0 0) (hbt : X.bt = true) (hr : X.meth.sig.returnType = (some .boolean))  {h : Hp} : ∀ (f : Nat) (x1 : Int) (r : (Unit) ⊕ (Int)), it_ (fun s => fX6_isPoor_l2 s h) f x1 = some r → (r = (.inl ()) → AW G X 30 [(9, 0), (9, 0)] [] n h 0 0) → (∀ (x9 : Int), r = .inr x9 → Q (0, x9) n h) → AW G X 2 [(2, ((35 : Nat) : Int)), (0, x1)] [] n h 0 0 := by
  intro f
  induction f with
  | zero => intro x1 r hI; cases hI
  | succ f ih0 =>
    intro x1 r hI hX hRet9
    obtain ⟨b, hF, hb1, hb2⟩ := it_succ hI
    have hF : fX6_isPoor_l2 x1 h = some b := hF
    have hRet : ∀ (x9 : Int), b = .inr (.inr x9) → Q (0, x9) n h := fun x9 e => hRet9 x9 (hb2 _ e).symm
    unfold fX6_isPoor_l2 at hF
    refine aw_iload_n hC dX6_isPoor_2 rfl ?_
    refine aw_aload_n hC dX6_isPoor_3 rfl ?_
    refine aw_g6i (k := 3) (a := 35) hC dX6_isPoor_4 lkRX6_297 (by decide) rfl rfl rfl (Or.inl ⟨hbt, by decide⟩) ?_
    refine aw_icmp_ge (tgt := 30) hC dX6_isPoor_7 (by decide) (fun c1 => ?_) (fun c1 => ?_)
    · have hF := it_t hF c1
      refine aw_weak (ls' := [(9, 0), (9, 0)]) ⟨Or.inl rfl, Or.inl rfl, trivial⟩ ?_
      exact hX (hb2 _ (Option.some.inj hF).symm).symm
    · have hF := it_f hF c1
      refine aw_aload_n hC dX6_isPoor_10 rfl ?_
      refine aw_gc6 (k := 46) (a := 35) (b := 54) hC hbt dX6_isPoor_11 lkRX6_75 (by decide) rfl rfl rfl (by decide) (by decide) ?_
      refine aw_bipush hC dX6_isPoor_14 (by decide) (by decide) ?_
      refine aw_iload_n hC dX6_isPoor_16 rfl ?_
      refine aw_iadd hC dX6_isPoor_17 ?_
      obtain ⟨g2, hF⟩ := gd_some hF
      refine aw_iaload (a := 54) hC dX6_isPoor_18 rfl rfl (Or.inl ⟨hbt, by decide⟩) g2.1 g2.2 ?_
      refine aw_if_ge (tgt := 24) hC dX6_isPoor_19 (by decide) (fun c3 => ?_) (fun c3 => ?_)
      · have hF := it_t hF c3
        refine aw_iinc1 hC dX6_isPoor_24 rfl ?_
        refine aw_goto (tgt := 2) hC dX6_isPoor_27 (by decide) ?_
        exact ih0 _ r (hb1 _ (Option.some.inj hF).symm) hX hRet9
      · have hF := it_f hF c3
        refine aw_iconst hC dX6_isPoor_22 (by decide) ?_
        exact aw_zreturn hC hZ (Nat.zero_le _) (Nat.zero_le _) hr rfl dX6_isPoor_23 (by decide) (hRet _ (Option.some.inj hF).symm)
theorem ok_X6_isPoor {G : GD} {n : Nat}  {h : Hp} {res : Int} (hF : fX6_isPoor  h = some res) : Con G yX6_isPoor cX6_isPoor 2 (some .boolean) 0 0 0 true [(2, ((35 : Nat) : Int))] n h (FQ 0 n (res, h)) := by
  refine con_of (pad := 1) (own := RX6) (plainFor_of_name (by decide)) rfl rfl ?_
  intro X hC hbt hr hnm hZ hRm hn0
  have hK : ∀ (x9 : Int), res = x9 → FQ 0 n (res, h) (0, x9) n h := fun x9 e => by subst e; exact ⟨rfl, rfl, rfl⟩
  unfold fX6_isPoor at hF
  show AW G X 0 [(2, ((35 : Nat) : Int)), (9, 0)] [] n h 0 0
  refine aw_iconst hC dX6_isPoor_0 (by decide) ?_
  refine aw_istore1 hC dX6_isPoor_1 rfl ?_
  obtain ⟨e5, he, hF⟩ := bp_some hF
  refine fX6_isPoor_l2_ok hC hZ hRm hbt hr FU _ e5 he (fun er => ?_) (fun x9 e => by subst e; exact hK _ (Option.some.inj hF).symm)
  replace er := er.symm
  subst er
  try dsimp only at hF
  refine aw_iconst hC dX6_isPoor_30 (by decide) ?_
  exact aw_zreturn hC hZ (Nat.zero_le _) (Nat.zero_le _) hr rfl dX6_isPoor_31 (by decide) (hK _ (Option.some.inj hF).symm)
