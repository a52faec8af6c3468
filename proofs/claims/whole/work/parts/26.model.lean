def fX6_isOpened_l7 (x1 : Int) (h : Hp) : Option ((Int) ⊕ (Int)) :=
  (if x1 < 0 then some (.inr x1) else gd_ (0 ≤ x1 ∧ x1 < 950) (bp_ (fX6_isOpen ((h 52 (Int.toNat x1))) h) (fun r4 => (if r4 = 0 then some (.inl (i_add x1 (-1))) else some (.inr x1)))))
def fX6_isOpened_j29 (x1 : Int) (h : Hp) : Option (Int) :=
  (if x1 < 0 then some 0 else some 1)
def fX6_isOpened  (h : Hp) : Option (Int) :=
  lb_ ((i_sub ((h 35 32)) 1)) (fun v1 => bp_ (it_ (fun s => fX6_isOpened_l7 s h) FU v1) (fun e8 => (fun y9 => fX6_isOpened_j29 y9 h) e8))
theorem fX6_isOpened_l7_ok {G : GD} {X : CX} {n : Nat} {Q : Av → Nat → Hp → Prop} (hC : Cx G X RX6 cX6_isOpened) (hZ : ZOK X G Q 0 0) (hRm : X.R = rmd 1 0 0) (hbt : X.bt = true) (hr : X.meth.sig.returnType = (some .boolean))  {h : Hp} : ∀ (f : Nat) (x1 : Int) (r : Int), it_ (fun s => fX6_isOpened_l7 s h) f x1 = some r → (∀ (y1 : Int), r = y1 → AW G X 29 [(9, 0), (0, y1)] [] n h 0 0) → AW G X 7 [(2, ((35 : Nat) : Int)), (0, x1)] [] n h 0 0 := by
  intro f
  induction f with
  | zero => intro x1 r hI; cases hI
  | succ f ih0 =>
    intro x1 r hI hX
    obtain ⟨b, hF, hb1, hb2⟩ := it_succ hI
    have hF : fX6_isOpened_l7 x1 h = some b := hF
    unfold fX6_isOpened_l7 at hF
    refine aw_iload_n hC dX6_isOpened_7 rfl ?_
    refine aw_if_lt (tgt := 29) hC dX6_isOpened_8 (by decide) (fun c2 => ?_) (fun c2 => ?_)
    · have hF := it_t hF c2
      refine aw_weak (ls' := [(9, 0), (0, x1)]) ⟨Or.inl rfl, Or.inr rfl, trivial⟩ ?_
      exact hX _ (hb2 _ (Option.some.inj hF).symm).symm
    · have hF := it_f hF c2
      refine aw_aload_n hC dX6_isOpened_11 rfl ?_
      refine aw_gc6 (k := 44) (a := 35) (b := 52) hC hbt dX6_isOpened_12 lkRX6_68 (by decide) rfl rfl rfl (by decide) (by decide) ?_
      refine aw_iload_n hC dX6_isOpened_15 rfl ?_
      obtain ⟨g3, hF⟩ := gd_some hF
      refine aw_iaload (a := 52) hC dX6_isOpened_16 rfl rfl (Or.inl ⟨hbt, by decide⟩) g3.1 g3.2 ?_
      obtain ⟨r4, q5, hF⟩ := bp_some hF
      refine clRX6_208 hC hRm hbt dX6_isOpened_17 (Nat.le_of_ble_eq_true rfl) (Nat.le_of_ble_eq_true rfl) (ok_X6_isOpen q5) ?_
      refine aw_if_ne (tgt := 29) hC dX6_isOpened_20 (by decide) (fun c6 => ?_) (fun c6 => ?_)
      · have hF := it_f hF c6
        refine aw_weak (ls' := [(9, 0), (0, x1)]) ⟨Or.inl rfl, Or.inr rfl, trivial⟩ ?_
        exact hX _ (hb2 _ (Option.some.inj hF).symm).symm
      · have hF := it_t hF c6
        refine aw_iinc1 hC dX6_isOpened_23 rfl ?_
        refine aw_goto (tgt := 7) hC dX6_isOpened_26 (by decide) ?_
        exact ih0 _ r (hb1 _ (Option.some.inj hF).symm) hX
theorem fX6_isOpened_j29_ok {G : GD} {X : CX} {n : Nat} {Q : Av → Nat → Hp → Prop} (hC : Cx G X RX6 cX6_isOpened) (hZ : ZOK X G Q 0 0) (hRm : X.R = rmd 1 0 0) (hbt : X.bt = true) (hr : X.meth.sig.returnType = (some .boolean)) {x1 : Int} {h : Hp} {res : Int} (hF : fX6_isOpened_j29 x1 h = some res) (hK : ∀ (x9 : Int), res = x9 → Q (0, x9) n h) : AW G X 29 [(9, 0), (0, x1)] [] n h 0 0 := by
  unfold fX6_isOpened_j29 at hF
  refine aw_iload_n hC dX6_isOpened_29 rfl ?_
  refine aw_if_lt (tgt := 37) hC dX6_isOpened_30 (by decide) (fun c10 => ?_) (fun c10 => ?_)
  · have hF := it_t hF c10
    refine aw_iconst hC dX6_isOpened_37 (by decide) ?_
    exact aw_zreturn hC hZ (Nat.zero_le _) (Nat.zero_le _) hr rfl dX6_isOpened_38 (by decide) (hK _ (Option.some.inj hF).symm)
  · have hF := it_f hF c10
    refine aw_iconst hC dX6_isOpened_33 (by decide) ?_
    refine aw_goto (tgt := 38) hC dX6_isOpened_34 (by decide) ?_
    exact aw_zreturn hC hZ (Nat.zero_le _) (Nat.zero_le _) hr rfl dX6_isOpened_38 (by decide) (hK _ (Option.some.inj hF).symm)
theorem ok_X6_isOpened {G : GD} {n : Nat}  {h : Hp} {res : Int} (hF : fX6_isOpened  h = some res) : Con G yX6_isOpened cX6_isOpened 2 (some .boolean) 1 0 0 true [(2, ((35 : Nat) : Int))] n h (FQ 0 n (res, h)) := by
  refine con_of (pad := 1) (own := RX6) (plainFor_of_name (by decide)) rfl rfl ?_
  intro X hC hbt hr hnm hZ hRm hn0
  have hK : ∀ (x9 : Int), res = x9 → FQ 0 n (res, h) (0, x9) n h := fun x9 e => by subst e; exact ⟨rfl, rfl, rfl⟩
  unfold fX6_isOpened at hF
  show AW G X 0 [(2, ((35 : Nat) : Int)), (9, 0)] [] n h 0 0
  refine aw_aload_n hC dX6_isOpened_0 rfl ?_
  refine aw_g6i (k := 32) (a := 35) hC dX6_isOpened_1 lkRX6_205 (by decide) rfl rfl rfl (Or.inl ⟨hbt, by decide⟩) ?_
  refine aw_iconst hC dX6_isOpened_4 (by decide) ?_
  refine aw_isub hC dX6_isOpened_5 ?_
  obtain ⟨v1, ev1, hF⟩ := lb_some hF
  refine aw_eqT ev1 ?_
  clear ev1
  refine aw_istore1 hC dX6_isOpened_6 rfl ?_
  obtain ⟨e8, he, hF⟩ := bp_some hF
  refine fX6_isOpened_l7_ok hC hZ hRm hbt hr FU _ e8 he (fun y9 er => ?_)
  replace er := er.symm
  subst er
  try dsimp only at hF
  exact fX6_isOpened_j29_ok hC hZ hRm hbt hr hF hK
def fX6_closes  (h : Hp) : Option (Int × Hp) :=
  bd_ (fX6_drops 0 h) (fun r1 h3 => lb_ (st h3 35 32 ((i_sub ((h3 35 32)) 1))) (fun h4 => lb_ (st h4 35 33 ((i_sub ((h4 35 33)) 1))) (fun h5 => bd_ (fX6_goes h5) (fun r6 h8 => some (0, h8)))))
theorem ok_X6_closes {G : GD} {n : Nat}  {h : Hp} {res : Int × Hp} (hF : fX6_closes  h = some res) : Con G yX6_closes cX6_closes 1 none 2 0 0 true [(2, ((35 : Nat) : Int))] n h (FQ 8 n res) := by
  refine con_of (pad := 0) (own := RX6) (plainFor_of_name (by decide)) rfl rfl ?_
  intro X hC hbt hr hnm hZ hRm hn0
  have hK : ∀ (x9 : Int) (h9 : Hp), res = (x9, h9) → FQ 8 n res (8, x9) n h9 := fun x9 h9 e => by subst e; exact ⟨rfl, rfl, rfl⟩
  unfold fX6_closes at hF
  show AW G X 0 [(2, ((35 : Nat) : Int))] [] n h 0 0
  refine aw_aload_n hC dX6_closes_0 rfl ?_
  refine aw_iconst hC dX6_closes_1 (by decide) ?_
  obtain ⟨r1, h3, q2, hF⟩ := bd_some hF
  refine clRX6_236 hC hRm hbt dX6_closes_2 rfl rfl (by decide) (Nat.le_of_ble_eq_true rfl) (Nat.le_of_ble_eq_true rfl) (ok_X6_drops q2) ?_
  refine aw_aload_n hC dX6_closes_5 rfl ?_
  refine aw_dup hC dX6_closes_6 (by simp) ?_
  refine aw_g6i (k := 32) (a := 35) hC dX6_closes_7 lkRX6_205 (by decide) rfl rfl rfl (Or.inl ⟨hbt, by decide⟩) ?_
  refine aw_iconst hC dX6_closes_10 (by decide) ?_
  refine aw_isub hC dX6_closes_11 ?_
  obtain ⟨h4, eh4, hF⟩ := lb_some hF
  refine aw_p6i (k := 32) (a := 35) hC dX6_closes_12 lkRX6_205 (by decide) rfl rfl rfl rfl rfl (Or.inl ⟨hbt, by decide⟩) (fun _ => by decide) ?_
  refine aw_eqH eh4 ?_
  clear eh4
  refine aw_aload_n hC dX6_closes_15 rfl ?_
  refine aw_dup hC dX6_closes_16 (by simp) ?_
  refine aw_g6i (k := 33) (a := 35) hC dX6_closes_17 lkRX6_221 (by decide) rfl rfl rfl (Or.inl ⟨hbt, by decide⟩) ?_
  refine aw_iconst hC dX6_closes_20 (by decide) ?_
  refine aw_isub hC dX6_closes_21 ?_
  obtain ⟨h5, eh5, hF⟩ := lb_some hF
  refine aw_p6i (k := 33) (a := 35) hC dX6_closes_22 lkRX6_221 (by decide) rfl rfl rfl rfl rfl (Or.inl ⟨hbt, by decide⟩) (fun _ => by decide) ?_
  refine aw_eqH eh5 ?_
  clear eh5
  refine aw_aload_n hC dX6_closes_25 rfl ?_
  obtain ⟨r6, h8, q7, hF⟩ := bd_some hF
  refine clRX6_192 hC hRm hbt dX6_closes_26 rfl rfl (by decide) (Nat.le_of_ble_eq_true rfl) (Nat.le_of_ble_eq_true rfl) (ok_X6_goes q7) ?_
  exact aw_return hC hZ (Nat.zero_le _) (Nat.zero_le _) hr dX6_closes_29 (hK _ _ (Option.some.inj hF).symm)
def fX6_expression_j84 (x1 : Int) (z0 : Int) (h : Hp) : Option ((Int × Hp) ⊕ (Hp)) :=
  bd_ (fX6_waitsFor z0 h) (fun r24 h26 => gd_ (0 ≤ (h26 35 33) ∧ (h26 35 33) < 9) (lb_ (st h26 53 (Int.toNat ((h26 35 33))) 0) (fun h28 => bd_ (fX6_goes h28) (fun r29 h31 => bd_ (fX6_operand 1 h31) (fun r32 h34 => some (.inl (x1, h34)))))))
def fX6_expression_j69 (x1 : Int) (x2 : Int) (z0 : Int) (h : Hp) : Option ((Int × Hp) ⊕ (Hp)) :=
  bd_ (fX6_drops z0 h) (fun r20 h22 => (if x2 = 14 then fX6_expression_j84 x1 4 h22 else fX6_expression_j84 x1 5 h22))
def fX6_expression_j57 (x1 : Int) (x2 : Int) (h : Hp) : Option ((Int × Hp) ⊕ (Hp)) :=
  (if x2 = 14 then fX6_expression_j69 x1 x2 2 h else fX6_expression_j69 x1 x2 1 h)
def fX6_expression_j226 (x1 : Int) (z0 : Int) (h : Hp) : Option ((Int × Hp) ⊕ (Hp)) :=
  bd_ (fX6_waitsFor z0 h) (fun r50 h52 => bd_ (fX6_goes h52) (fun r53 h55 => bd_ (fX6_operand 0 h55) (fun r56 h58 => some (.inl (x1, h58)))))
def fX6_expression_j204 (x1 : Int) (h : Hp) : Option ((Int × Hp) ⊕ (Hp)) :=
  bd_ (fX6_drops 5 h) (fun r44 h46 => bp_ (fX6_isSign 43 h46) (fun r47 => (if r47 = 0 then fX6_expression_j226 x1 9 h46 else fX6_expression_j226 x1 8 h46)))
def fX6_expression_j282 (x1 : Int) (z0 : Int) (h : Hp) : Option ((Int × Hp) ⊕ (Hp)) :=
  bd_ (fX6_waitsFor z0 h) (fun r71 h73 => bd_ (fX6_goes h73) (fun r74 h76 => bd_ (fX6_operand 0 h76) (fun r77 h79 => some (.inl (x1, h79)))))
def fX6_expression_j259 (x1 : Int) (h : Hp) : Option ((Int × Hp) ⊕ (Hp)) :=
  bd_ (fX6_drops 6 h) (fun r65 h67 => bp_ (fX6_isSign 42 h67) (fun r68 => (if r68 = 0 then fX6_expression_j282 x1 11 h67 else fX6_expression_j282 x1 10 h67)))
def fX6_expression_j186 (x1 : Int) (h : Hp) : Option ((Int × Hp) ⊕ (Hp)) :=
  bp_ (fX6_isSign 43 h) (fun r41 => (if r41 = 0 then bp_ (fX6_isSign 45 h) (fun r59 => (if r59 = 0 then bp_ (fX6_isSign 42 h) (fun r62 => (if r62 = 0 then bp_ (fX6_isSign 47 h) (fun r80 => (if r80 = 0 then bp_ (fX6_isSign 41 h) (fun r83 => (if r83 = 0 then some (.inl (0, h)) else bp_ (fX6_isOpened h) (fun r86 => (if r86 = 0 then some (.inl (0, h)) else bd_ (fX6_closes h) (fun r89 h91 => some (.inl (x1, h91))))))) else fX6_expression_j259 x1 h)) else fX6_expression_j259 x1 h)) else fX6_expression_j204 x1 h)) else fX6_expression_j204 x1 h))
def fX6_expression_j161 (x1 : Int) (z0 : Int) (h : Hp) : Option ((Int × Hp) ⊕ (Hp)) :=
  bd_ (fX6_waitsFor z0 h) (fun r98 h100 => gd_ (0 ≤ (h100 35 33) ∧ (h100 35 33) < 9) (lb_ (st h100 53 (Int.toNat ((h100 35 33))) 1) (fun h102 => bd_ (fX6_goes h102) (fun r103 h105 => bd_ (fX6_operand 0 h105) (fun r106 h108 => some (.inl (x1, h108)))))))
def fX6_expression_j127 (x1 : Int) (h : Hp) : Option ((Int × Hp) ⊕ (Hp)) :=
  gd_ (0 ≤ (h 35 33) ∧ (h 35 33) < 9) ((if (h 53 (Int.toNat ((h 35 33)))) = 0 then bd_ (fX6_drops 4 h) (fun r92 h94 => bp_ (fX6_isSign 60 h94) (fun r95 => (if r95 = 0 then fX6_expression_j161 x1 7 h94 else fX6_expression_j161 x1 6 h94))) else fX6_expression_j186 x1 h))
def fX6_expression_l29 (x1 : Int) (h : Hp) : Option ((Int × Hp) ⊕ (Hp)) :=
  (if x1 = 0 then some (.inr h) else bp_ (fX6_isGood h) (fun r13 => (if r13 = 0 then some (.inr h) else bp_ (fX6_knownWord h) (fun r16 => (if r16 = 14 then fX6_expression_j57 x1 r16 h else (if r16 = 15 then fX6_expression_j57 x1 r16 h else bp_ (fX6_isSign 60 h) (fun r36 => (if r36 = 0 then bp_ (fX6_isSign 61 h) (fun r109 => (if r109 = 0 then fX6_expression_j186 x1 h else fX6_expression_j127 x1 h)) else fX6_expression_j127 x1 h))))))))
def fX6_expression_j345  (h : Hp) : Option (Int × Hp) :=
  bd_ (fX6_drops 0 h) (fun r117 h119 => bd_ (fX6_puts 0 h119) (fun r120 h122 => some (0, h122)))
def fX6_expression_j325  (h : Hp) : Option (Int × Hp) :=
  bp_ (fX6_isGood h) (fun r114 => (if r114 = 0 then fX6_expression_j345 h else (if (h 35 33) ≤ 1 then fX6_expression_j345 h else bd_ (fX6_wrong 1 h) (fun r124 h126 => fX6_expression_j345 h126))))
def fX6_expression  (h : Hp) : Option (Int × Hp) :=
  bp_ (fX6_isGood h) (fun r1 => (if r1 = 0 then some (0, h) else lb_ (st h 35 32 0) (fun h4 => lb_ (st h4 35 33 0) (fun h5 => bd_ (fX6_deeper h5) (fun r6 h8 => bd_ (fX6_operand 1 h8) (fun r9 h11 => bp_ (it_ (fun s => fX6_expression_l29 s.1 s.2) FU (1, h11)) (fun e112 => (fun h113 => fX6_expression_j325 h113) e112)))))))
theorem fX6_expression_j84_ok {G : GD} {X : CX} {n : Nat} {Q : Av → Nat → Hp → Prop} (hC : Cx G X RX6 cX6_expression) (hZ : ZOK X G Q 0 0) (hRm : X.R = rmd 5 0 0) (hbt : X.bt = true) (hr : X.meth.sig.returnType = none) {x1 : Int} {z0 : Int} {h : Hp} {b : (Int × Hp) ⊕ (Hp)} (hF : fX6_expression_j84 x1 z0 h = some b) (hL9 : ∀ (u1 : Int) (h9 : Hp), b = .inl (u1, h9) → AW G X 29 [(2, ((35 : Nat) : Int)), (0, u1), (9, 0)] [] n h9 0 0) (hX9 : ∀ (h9 : Hp), b = .inr h9 → AW G X 325 [(2, ((35 : Nat) : Int)), (9, 0), (9, 0)] [] n h9 0 0) : AW G X 84 [(2, ((35 : Nat) : Int)), (0, x1), (9, 0)] [(0, z0), (2, ((35 : Nat) : Int))] n h 0 0 := by
  unfold fX6_expression_j84 at hF
  obtain ⟨r24, h26, q25, hF⟩ := bd_some hF
  refine clRX6_227 hC hRm hbt dX6_expression_84 rfl rfl (by decide) (Nat.le_of_ble_eq_true rfl) (Nat.le_of_ble_eq_true rfl) (ok_X6_waitsFor q25) ?_
  refine aw_aload_n hC dX6_expression_87 rfl ?_
  refine aw_gc6 (k := 45) (a := 35) (b := 53) hC hbt dX6_expression_88 lkRX6_71 (by decide) rfl rfl rfl (by decide) (by decide) ?_
  refine aw_aload_n hC dX6_expression_91 rfl ?_
  refine aw_g6i (k := 33) (a := 35) hC dX6_expression_92 lkRX6_221 (by decide) rfl rfl rfl (Or.inl ⟨hbt, by decide⟩) ?_
  refine aw_iconst hC dX6_expression_95 (by decide) ?_
  obtain ⟨g27, hF⟩ := gd_some hF
  obtain ⟨h28, eh28, hF⟩ := lb_some hF
  refine aw_zastore (a := 53) hC dX6_expression_96 rfl rfl (Or.inl ⟨hbt, by decide⟩) g27.1 g27.2 (by decide) ?_
  refine aw_eqH eh28 ?_
  clear eh28
  refine aw_aload_n hC dX6_expression_97 rfl ?_
  obtain ⟨r29, h31, q30, hF⟩ := bd_some hF
  refine clRX6_192 hC hRm hbt dX6_expression_98 rfl rfl (by decide) (Nat.le_of_ble_eq_true rfl) (Nat.le_of_ble_eq_true rfl) (ok_X6_goes q30) ?_
  refine aw_aload_n hC dX6_expression_101 rfl ?_
  refine aw_iconst hC dX6_expression_102 (by decide) ?_
  obtain ⟨r32, h34, q33, hF⟩ := bd_some hF
  refine clRX6_239 hC hRm hbt dX6_expression_103 rfl rfl (by decide) (Nat.le_of_ble_eq_true rfl) (Nat.le_of_ble_eq_true rfl) (ok_X6_operand q33) ?_
  refine aw_goto (tgt := 322) hC dX6_expression_106 (by decide) ?_
  refine aw_goto (tgt := 29) hC dX6_expression_322 (by decide) ?_
  exact hL9 _ _ (Option.some.inj hF).symm
theorem fX6_expression_j69_ok {G : GD} {X : CX} {n : Nat} {Q : Av → Nat → Hp → Prop} (hC : Cx G X RX6 cX6_expression) (hZ : ZOK X G Q 0 0) (hRm : X.R = rmd 5 0 0) (hbt : X.bt = true) (hr : X.meth.sig.returnType = none) {x1 : Int} {x2 : Int} {z0 : Int} {h : Hp} {b : (Int × Hp) ⊕ (Hp)} (hF : fX6_expression_j69 x1 x2 z0 h = some b) (hL9 : ∀ (u1 : Int) (h9 : Hp), b = .inl (u1, h9) → AW G X 29 [(2, ((35 : Nat) : Int)), (0, u1), (9, 0)] [] n h9 0 0) (hX9 : ∀ (h9 : Hp), b = .inr h9 → AW G X 325 [(2, ((35 : Nat) : Int)), (9, 0), (9, 0)] [] n h9 0 0) : AW G X 69 [(2, ((35 : Nat) : Int)), (0, x1), (0, x2)] [(0, z0), (2, ((35 : Nat) : Int))] n h 0 0 := by
  unfold fX6_expression_j69 at hF
  obtain ⟨r20, h22, q21, hF⟩ := bd_some hF
  refine clRX6_236 hC hRm hbt dX6_expression_69 rfl rfl (by decide) (Nat.le_of_ble_eq_true rfl) (Nat.le_of_ble_eq_true rfl) (ok_X6_drops q21) ?_
  refine aw_aload_n hC dX6_expression_72 rfl ?_
  refine aw_iload_n hC dX6_expression_73 rfl ?_
  refine aw_bipush hC dX6_expression_74 (by decide) (by decide) ?_
  refine aw_icmp_ne (tgt := 83) hC dX6_expression_76 (by decide) (fun c23 => ?_) (fun c23 => ?_)
  · have hF := it_f hF c23
    refine aw_iconst hC dX6_expression_83 (by decide) ?_
    refine aw_weak (ls' := [(2, ((35 : Nat) : Int)), (0, x1), (9, 0)]) ⟨Or.inr rfl, Or.inr rfl, Or.inl rfl, trivial⟩ ?_
    exact fX6_expression_j84_ok hC hZ hRm hbt hr hF (fun u0 u1 e => hL9 u0 u1 e) (fun w0 e => hX9 w0 e)
  · have hF := it_t hF c23
    refine aw_iconst hC dX6_expression_79 (by decide) ?_
    refine aw_goto (tgt := 84) hC dX6_expression_80 (by decide) ?_
    refine aw_weak (ls' := [(2, ((35 : Nat) : Int)), (0, x1), (9, 0)]) ⟨Or.inr rfl, Or.inr rfl, Or.inl rfl, trivial⟩ ?_
    exact fX6_expression_j84_ok hC hZ hRm hbt hr hF (fun u0 u1 e => hL9 u0 u1 e) (fun w0 e => hX9 w0 e)
theorem fX6_expression_j57_ok {G : GD} {X : CX} {n : Nat} {Q : Av → Nat → Hp → Prop} (hC : Cx G X RX6 cX6_expression) (hZ : ZOK X G Q 0 0) (hRm : X.R = rmd 5 0 0) (hbt : X.bt = true) (hr : X.meth.sig.returnType = none) {x1 : Int} {x2 : Int} {h : Hp} {b : (Int × Hp) ⊕ (Hp)} (hF : fX6_expression_j57 x1 x2 h = some b) (hL9 : ∀ (u1 : Int) (h9 : Hp), b = .inl (u1, h9) → AW G X 29 [(2, ((35 : Nat) : Int)), (0, u1), (9, 0)] [] n h9 0 0) (hX9 : ∀ (h9 : Hp), b = .inr h9 → AW G X 325 [(2, ((35 : Nat) : Int)), (9, 0), (9, 0)] [] n h9 0 0) : AW G X 57 [(2, ((35 : Nat) : Int)), (0, x1), (0, x2)] [] n h 0 0 := by
  unfold fX6_expression_j57 at hF
  refine aw_aload_n hC dX6_expression_57 rfl ?_
  refine aw_iload_n hC dX6_expression_58 rfl ?_
  refine aw_bipush hC dX6_expression_59 (by decide) (by decide) ?_
  refine aw_icmp_ne (tgt := 68) hC dX6_expression_61 (by decide) (fun c19 => ?_) (fun c19 => ?_)
  · have hF := it_f hF c19
    refine aw_iconst hC dX6_expression_68 (by decide) ?_
    exact fX6_expression_j69_ok hC hZ hRm hbt hr hF (fun u0 u1 e => hL9 u0 u1 e) (fun w0 e => hX9 w0 e)
  · have hF := it_t hF c19
    refine aw_iconst hC dX6_expression_64 (by decide) ?_
    refine aw_goto (tgt := 69) hC dX6_expression_65 (by decide) ?_
    exact fX6_expression_j69_ok hC hZ hRm hbt hr hF (fun u0 u1 e => hL9 u0 u1 e) (fun w0 e => hX9 w0 e)
theorem fX6_expression_j226_ok {G : GD} {X : CX} {n : Nat} {Q : Av → Nat → Hp → Prop} (hC : Cx G X RX6 cX6_expression) (hZ : ZOK X G Q 0 0) (hRm : X.R = rmd 5 0 0) (hbt : X.bt = true) (hr : X.meth.sig.returnType = none) {x1 : Int} {z0 : Int} {h : Hp} {b : (Int × Hp) ⊕ (Hp)} (hF : fX6_expression_j226 x1 z0 h = some b) (hL9 : ∀ (u1 : Int) (h9 : Hp), b = .inl (u1, h9) → AW G X 29 [(2, ((35 : Nat) : Int)), (0, u1), (9, 0)] [] n h9 0 0) (hX9 : ∀ (h9 : Hp), b = .inr h9 → AW G X 325 [(2, ((35 : Nat) : Int)), (9, 0), (9, 0)] [] n h9 0 0) : AW G X 226 [(2, ((35 : Nat) : Int)), (0, x1), (9, 0)] [(0, z0), (2, ((35 : Nat) : Int))] n h 0 0 := by
  unfold fX6_expression_j226 at hF
  obtain ⟨r50, h52, q51, hF⟩ := bd_some hF
  refine clRX6_227 hC hRm hbt dX6_expression_226 rfl rfl (by decide) (Nat.le_of_ble_eq_true rfl) (Nat.le_of_ble_eq_true rfl) (ok_X6_waitsFor q51) ?_
  refine aw_aload_n hC dX6_expression_229 rfl ?_
  obtain ⟨r53, h55, q54, hF⟩ := bd_some hF
  refine clRX6_192 hC hRm hbt dX6_expression_230 rfl rfl (by decide) (Nat.le_of_ble_eq_true rfl) (Nat.le_of_ble_eq_true rfl) (ok_X6_goes q54) ?_
  refine aw_aload_n hC dX6_expression_233 rfl ?_
  refine aw_iconst hC dX6_expression_234 (by decide) ?_
  obtain ⟨r56, h58, q57, hF⟩ := bd_some hF
  refine clRX6_239 hC hRm hbt dX6_expression_235 rfl rfl (by decide) (Nat.le_of_ble_eq_true rfl) (Nat.le_of_ble_eq_true rfl) (ok_X6_operand q57) ?_
  refine aw_goto (tgt := 322) hC dX6_expression_238 (by decide) ?_
  refine aw_goto (tgt := 29) hC dX6_expression_322 (by decide) ?_
  exact hL9 _ _ (Option.some.inj hF).symm
theorem fX6_expression_j204_ok {G : GD} {X : CX} {n : Nat} {Q : Av → Nat → Hp → Prop} (hC : Cx G X RX6 cX6_expression) (hZ : ZOK X G Q 0 0) (hRm : X.R = rmd 5 0 0) (hbt : X.bt = true) (hr : X.meth.sig.returnType = none) {x1 : Int} {h : Hp} {b : (Int × Hp) ⊕ (Hp)} (hF : fX6_expression_j204 x1 h = some b) (hL9 : ∀ (u1 : Int) (h9 : Hp), b = .inl (u1, h9) → AW G X 29 [(2, ((35 : Nat) : Int)), (0, u1), (9, 0)] [] n h9 0 0) (hX9 : ∀ (h9 : Hp), b = .inr h9 → AW G X 325 [(2, ((35 : Nat) : Int)), (9, 0), (9, 0)] [] n h9 0 0) : AW G X 204 [(2, ((35 : Nat) : Int)), (0, x1), (9, 0)] [] n h 0 0 := by
  unfold fX6_expression_j204 at hF
  refine aw_aload_n hC dX6_expression_204 rfl ?_
  refine aw_iconst hC dX6_expression_205 (by decide) ?_
  obtain ⟨r44, h46, q45, hF⟩ := bd_some hF
  refine clRX6_236 hC hRm hbt dX6_expression_206 rfl rfl (by decide) (Nat.le_of_ble_eq_true rfl) (Nat.le_of_ble_eq_true rfl) (ok_X6_drops q45) ?_
  refine aw_aload_n hC dX6_expression_209 rfl ?_
  refine aw_aload_n hC dX6_expression_210 rfl ?_
  refine aw_bipush hC dX6_expression_211 (by decide) (by decide) ?_
  obtain ⟨r47, q48, hF⟩ := bp_some hF
  refine clRX6_224 hC hRm hbt dX6_expression_213 rfl rfl (by decide) (Nat.le_of_ble_eq_true rfl) (Nat.le_of_ble_eq_true rfl) (ok_X6_isSign q48) ?_
  refine aw_if_eq (tgt := 224) hC dX6_expression_216 (by decide) (fun c49 => ?_) (fun c49 => ?_)
  · have hF := it_t hF c49
    refine aw_bipush hC dX6_expression_224 (by decide) (by decide) ?_
    exact fX6_expression_j226_ok hC hZ hRm hbt hr hF (fun u0 u1 e => hL9 u0 u1 e) (fun w0 e => hX9 w0 e)
  · have hF := it_f hF c49
    refine aw_bipush hC dX6_expression_219 (by decide) (by decide) ?_
    refine aw_goto (tgt := 226) hC dX6_expression_221 (by decide) ?_
    exact fX6_expression_j226_ok hC hZ hRm hbt hr hF (fun u0 u1 e => hL9 u0 u1 e) (fun w0 e => hX9 w0 e)
theorem fX6_expression_j282_ok {G : GD} {X : CX} {n : Nat} {Q : Av → Nat → Hp → Prop} (hC : Cx G X RX6 cX6_expression) (hZ : ZOK X G Q 0 0) (hRm : X.R = rmd 5 0 0) (hbt : X.bt = true) (hr : X.meth.sig.returnType = none) {x1 : Int} {z0 : Int} {h : Hp} {b : (Int × Hp) ⊕ (Hp)} (hF : fX6_expression_j282 x1 z0 h = some b) (hL9 : ∀ (u1 : Int) (h9 : Hp), b = .inl (u1, h9) → AW G X 29 [(2, ((35 : Nat) : Int)), (0, u1), (9, 0)] [] n h9 0 0) (hX9 : ∀ (h9 : Hp), b = .inr h9 → AW G X 325 [(2, ((35 : Nat) : Int)), (9, 0), (9, 0)] [] n h9 0 0) : AW G X 282 [(2, ((35 : Nat) : Int)), (0, x1), (9, 0)] [(0, z0), (2, ((35 : Nat) : Int))] n h 0 0 := by
  unfold fX6_expression_j282 at hF
  obtain ⟨r71, h73, q72, hF⟩ := bd_some hF
  refine clRX6_227 hC hRm hbt dX6_expression_282 rfl rfl (by decide) (Nat.le_of_ble_eq_true rfl) (Nat.le_of_ble_eq_true rfl) (ok_X6_waitsFor q72) ?_
  refine aw_aload_n hC dX6_expression_285 rfl ?_
  obtain ⟨r74, h76, q75, hF⟩ := bd_some hF
  refine clRX6_192 hC hRm hbt dX6_expression_286 rfl rfl (by decide) (Nat.le_of_ble_eq_true rfl) (Nat.le_of_ble_eq_true rfl) (ok_X6_goes q75) ?_
  refine aw_aload_n hC dX6_expression_289 rfl ?_
  refine aw_iconst hC dX6_expression_290 (by decide) ?_
  obtain ⟨r77, h79, q78, hF⟩ := bd_some hF
  refine clRX6_239 hC hRm hbt dX6_expression_291 rfl rfl (by decide) (Nat.le_of_ble_eq_true rfl) (Nat.le_of_ble_eq_true rfl) (ok_X6_operand q78) ?_
  refine aw_goto (tgt := 322) hC dX6_expression_294 (by decide) ?_
  refine aw_goto (tgt := 29) hC dX6_expression_322 (by decide) ?_
  exact hL9 _ _ (Option.some.inj hF).symm
theorem fX6_expression_j259_ok {G : GD} {X : CX} {n : Nat} {Q : Av → Nat → Hp → Prop} (hC : Cx G X RX6 cX6_expression) (hZ : ZOK X G Q 0 0) (hRm : X.R = rmd 5 0 0) (hbt : X.bt = true) (hr : X.meth.sig.returnType = none) {x1 : Int} {h : Hp} {b : (Int × Hp) ⊕ (Hp)} (hF : fX6_expression_j259 x1 h = some b) (hL9 : ∀ (u1 : Int) (h9 : Hp), b = .inl (u1, h9) → AW G X 29 [(2, ((35 : Nat) : Int)), (0, u1), (9, 0)] [] n h9 0 0) (hX9 : ∀ (h9 : Hp), b = .inr h9 → AW G X 325 [(2, ((35 : Nat) : Int)), (9, 0), (9, 0)] [] n h9 0 0) : AW G X 259 [(2, ((35 : Nat) : Int)), (0, x1), (9, 0)] [] n h 0 0 := by
  unfold fX6_expression_j259 at hF
  refine aw_aload_n hC dX6_expression_259 rfl ?_
  refine aw_bipush hC dX6_expression_260 (by decide) (by decide) ?_
  obtain ⟨r65, h67, q66, hF⟩ := bd_some hF
  refine clRX6_236 hC hRm hbt dX6_expression_262 rfl rfl (by decide) (Nat.le_of_ble_eq_true rfl) (Nat.le_of_ble_eq_true rfl) (ok_X6_drops q66) ?_
  refine aw_aload_n hC dX6_expression_265 rfl ?_
  refine aw_aload_n hC dX6_expression_266 rfl ?_
  refine aw_bipush hC dX6_expression_267 (by decide) (by decide) ?_
  obtain ⟨r68, q69, hF⟩ := bp_some hF
  refine clRX6_224 hC hRm hbt dX6_expression_269 rfl rfl (by decide) (Nat.le_of_ble_eq_true rfl) (Nat.le_of_ble_eq_true rfl) (ok_X6_isSign q69) ?_
  refine aw_if_eq (tgt := 280) hC dX6_expression_272 (by decide) (fun c70 => ?_) (fun c70 => ?_)
  · have hF := it_t hF c70
    refine aw_bipush hC dX6_expression_280 (by decide) (by decide) ?_
    exact fX6_expression_j282_ok hC hZ hRm hbt hr hF (fun u0 u1 e => hL9 u0 u1 e) (fun w0 e => hX9 w0 e)
  · have hF := it_f hF c70
    refine aw_bipush hC dX6_expression_275 (by decide) (by decide) ?_
    refine aw_goto (tgt := 282) hC dX6_expression_277 (by decide) ?_
    exact fX6_expression_j282_ok hC hZ hRm hbt hr hF (fun u0 u1 e => hL9 u0 u1 e) (fun w0 e => hX9 w0 e)
theorem fX6_expression_j186_ok {G : GD} {X : CX} {n : Nat} {Q : Av → Nat → Hp → Prop} (hC : Cx G X RX6 cX6_expression) (hZ : ZOK X G Q 0 0) (hRm : X.R = rmd 5 0 0) (hbt : X.bt = true) (hr : X.meth.sig.returnType = none) {x1 : Int} {h : Hp} {b : (Int × Hp) ⊕ (Hp)} (hF : fX6_expression_j186 x1 h = some b) (hL9 : ∀ (u1 : Int) (h9 : Hp), b = .inl (u1, h9) → AW G X 29 [(2, ((35 : Nat) : Int)), (0, u1), (9, 0)] [] n h9 0 0) (hX9 : ∀ (h9 : Hp), b = .inr h9 → AW G X 325 [(2, ((35 : Nat) : Int)), (9, 0), (9, 0)] [] n h9 0 0) : AW G X 186 [(2, ((35 : Nat) : Int)), (0, x1), (9, 0)] [] n h 0 0 := by
  unfold fX6_expression_j186 at hF
  refine aw_aload_n hC dX6_expression_186 rfl ?_
  refine aw_bipush hC dX6_expression_187 (by decide) (by decide) ?_
  obtain ⟨r41, q42, hF⟩ := bp_some hF
  refine clRX6_224 hC hRm hbt dX6_expression_189 rfl rfl (by decide) (Nat.le_of_ble_eq_true rfl) (Nat.le_of_ble_eq_true rfl) (ok_X6_isSign q42) ?_
  refine aw_if_ne (tgt := 204) hC dX6_expression_192 (by decide) (fun c43 => ?_) (fun c43 => ?_)
  · have hF := it_f hF c43
    exact fX6_expression_j204_ok hC hZ hRm hbt hr hF (fun u0 u1 e => hL9 u0 u1 e) (fun w0 e => hX9 w0 e)
  · have hF := it_t hF c43
    refine aw_aload_n hC dX6_expression_195 rfl ?_
    refine aw_bipush hC dX6_expression_196 (by decide) (by decide) ?_
    obtain ⟨r59, q60, hF⟩ := bp_some hF
    refine clRX6_224 hC hRm hbt dX6_expression_198 rfl rfl (by decide) (Nat.le_of_ble_eq_true rfl) (Nat.le_of_ble_eq_true rfl) (ok_X6_isSign q60) ?_
    refine aw_if_eq (tgt := 241) hC dX6_expression_201 (by decide) (fun c61 => ?_) (fun c61 => ?_)
    · have hF := it_t hF c61
      refine aw_aload_n hC dX6_expression_241 rfl ?_
      refine aw_bipush hC dX6_expression_242 (by decide) (by decide) ?_
      obtain ⟨r62, q63, hF⟩ := bp_some hF
      refine clRX6_224 hC hRm hbt dX6_expression_244 rfl rfl (by decide) (Nat.le_of_ble_eq_true rfl) (Nat.le_of_ble_eq_true rfl) (ok_X6_isSign q63) ?_
      refine aw_if_ne (tgt := 259) hC dX6_expression_247 (by decide) (fun c64 => ?_) (fun c64 => ?_)
      · have hF := it_f hF c64
        exact fX6_expression_j259_ok hC hZ hRm hbt hr hF (fun u0 u1 e => hL9 u0 u1 e) (fun w0 e => hX9 w0 e)
      · have hF := it_t hF c64
        refine aw_aload_n hC dX6_expression_250 rfl ?_
        refine aw_bipush hC dX6_expression_251 (by decide) (by decide) ?_
        obtain ⟨r80, q81, hF⟩ := bp_some hF
        refine clRX6_224 hC hRm hbt dX6_expression_253 rfl rfl (by decide) (Nat.le_of_ble_eq_true rfl) (Nat.le_of_ble_eq_true rfl) (ok_X6_isSign q81) ?_
        refine aw_if_eq (tgt := 297) hC dX6_expression_256 (by decide) (fun c82 => ?_) (fun c82 => ?_)
        · have hF := it_t hF c82
          refine aw_aload_n hC dX6_expression_297 rfl ?_
          refine aw_bipush hC dX6_expression_298 (by decide) (by decide) ?_
          obtain ⟨r83, q84, hF⟩ := bp_some hF
          refine clRX6_224 hC hRm hbt dX6_expression_300 rfl rfl (by decide) (Nat.le_of_ble_eq_true rfl) (Nat.le_of_ble_eq_true rfl) (ok_X6_isSign q84) ?_
          refine aw_if_eq (tgt := 320) hC dX6_expression_303 (by decide) (fun c85 => ?_) (fun c85 => ?_)
          · have hF := it_t hF c85
            refine aw_iconst hC dX6_expression_320 (by decide) ?_
            refine aw_istore1 hC dX6_expression_321 rfl ?_
            refine aw_goto (tgt := 29) hC dX6_expression_322 (by decide) ?_
            exact hL9 _ _ (Option.some.inj hF).symm
          · have hF := it_f hF c85
            refine aw_aload_n hC dX6_expression_306 rfl ?_
            obtain ⟨r86, q87, hF⟩ := bp_some hF
            refine clRX6_243 hC hRm hbt dX6_expression_307 rfl rfl (by decide) (Nat.le_of_ble_eq_true rfl) (Nat.le_of_ble_eq_true rfl) (ok_X6_isOpened q87) ?_
            refine aw_if_eq (tgt := 320) hC dX6_expression_310 (by decide) (fun c88 => ?_) (fun c88 => ?_)
            · have hF := it_t hF c88
              refine aw_iconst hC dX6_expression_320 (by decide) ?_
              refine aw_istore1 hC dX6_expression_321 rfl ?_
              refine aw_goto (tgt := 29) hC dX6_expression_322 (by decide) ?_
              exact hL9 _ _ (Option.some.inj hF).symm
            · have hF := it_f hF c88
              refine aw_aload_n hC dX6_expression_313 rfl ?_
              obtain ⟨r89, h91, q90, hF⟩ := bd_some hF
              refine clRX6_246 hC hRm hbt dX6_expression_314 rfl rfl (by decide) (Nat.le_of_ble_eq_true rfl) (Nat.le_of_ble_eq_true rfl) (ok_X6_closes q90) ?_
              refine aw_goto (tgt := 322) hC dX6_expression_317 (by decide) ?_
              refine aw_goto (tgt := 29) hC dX6_expression_322 (by decide) ?_
              exact hL9 _ _ (Option.some.inj hF).symm
        · have hF := it_f hF c82
          exact fX6_expression_j259_ok hC hZ hRm hbt hr hF (fun u0 u1 e => hL9 u0 u1 e) (fun w0 e => hX9 w0 e)
    · have hF := it_f hF c61
      exact fX6_expression_j204_ok hC hZ hRm hbt hr hF (fun u0 u1 e => hL9 u0 u1 e) (fun w0 e => hX9 w0 e)
theorem fX6_expression_j161_ok {G : GD} {X : CX} {n : Nat} {Q : Av → Nat → Hp → Prop} (hC : Cx G X RX6 cX6_expression) (hZ : ZOK X G Q 0 0) (hRm : X.R = rmd 5 0 0) (hbt : X.bt = true) (hr : X.meth.sig.returnType = none) {x1 : Int} {z0 : Int} {h : Hp} {b : (Int × Hp) ⊕ (Hp)} (hF : fX6_expression_j161 x1 z0 h = some b) (hL9 : ∀ (u1 : Int) (h9 : Hp), b = .inl (u1, h9) → AW G X 29 [(2, ((35 : Nat) : Int)), (0, u1), (9, 0)] [] n h9 0 0) (hX9 : ∀ (h9 : Hp), b = .inr h9 → AW G X 325 [(2, ((35 : Nat) : Int)), (9, 0), (9, 0)] [] n h9 0 0) : AW G X 161 [(2, ((35 : Nat) : Int)), (0, x1), (9, 0)] [(0, z0), (2, ((35 : Nat) : Int))] n h 0 0 := by
  unfold fX6_expression_j161 at hF
  obtain ⟨r98, h100, q99, hF⟩ := bd_some hF
  refine clRX6_227 hC hRm hbt dX6_expression_161 rfl rfl (by decide) (Nat.le_of_ble_eq_true rfl) (Nat.le_of_ble_eq_true rfl) (ok_X6_waitsFor q99) ?_
  refine aw_aload_n hC dX6_expression_164 rfl ?_
  refine aw_gc6 (k := 45) (a := 35) (b := 53) hC hbt dX6_expression_165 lkRX6_71 (by decide) rfl rfl rfl (by decide) (by decide) ?_
  refine aw_aload_n hC dX6_expression_168 rfl ?_
  refine aw_g6i (k := 33) (a := 35) hC dX6_expression_169 lkRX6_221 (by decide) rfl rfl rfl (Or.inl ⟨hbt, by decide⟩) ?_
  refine aw_iconst hC dX6_expression_172 (by decide) ?_
  obtain ⟨g101, hF⟩ := gd_some hF
  obtain ⟨h102, eh102, hF⟩ := lb_some hF
  refine aw_zastore (a := 53) hC dX6_expression_173 rfl rfl (Or.inl ⟨hbt, by decide⟩) g101.1 g101.2 (by decide) ?_
  refine aw_eqH eh102 ?_
  clear eh102
  refine aw_aload_n hC dX6_expression_174 rfl ?_
  obtain ⟨r103, h105, q104, hF⟩ := bd_some hF
  refine clRX6_192 hC hRm hbt dX6_expression_175 rfl rfl (by decide) (Nat.le_of_ble_eq_true rfl) (Nat.le_of_ble_eq_true rfl) (ok_X6_goes q104) ?_
  refine aw_aload_n hC dX6_expression_178 rfl ?_
  refine aw_iconst hC dX6_expression_179 (by decide) ?_
  obtain ⟨r106, h108, q107, hF⟩ := bd_some hF
  refine clRX6_239 hC hRm hbt dX6_expression_180 rfl rfl (by decide) (Nat.le_of_ble_eq_true rfl) (Nat.le_of_ble_eq_true rfl) (ok_X6_operand q107) ?_
  refine aw_goto (tgt := 322) hC dX6_expression_183 (by decide) ?_
  refine aw_goto (tgt := 29) hC dX6_expression_322 (by decide) ?_
  exact hL9 _ _ (Option.some.inj hF).symm
theorem fX6_expression_j127_ok {G : GD} {X : CX} {n : Nat} {Q : Av → Nat → Hp → Prop} (hC : Cx G X RX6 cX6_expression) (hZ : ZOK X G Q 0 0) (hRm : X.R = rmd 5 0 0) (hbt : X.bt = true) (hr : X.meth.sig.returnType = none) {x1 : Int} {h : Hp} {b : (Int × Hp) ⊕ (Hp)} (hF : fX6_expression_j127 x1 h = some b) (hL9 : ∀ (u1 : Int) (h9 : Hp), b = .inl (u1, h9) → AW G X 29 [(2, ((35 : Nat) : Int)), (0, u1), (9, 0)] [] n h9 0 0) (hX9 : ∀ (h9 : Hp), b = .inr h9 → AW G X 325 [(2, ((35 : Nat) : Int)), (9, 0), (9, 0)] [] n h9 0 0) : AW G X 127 [(2, ((35 : Nat) : Int)), (0, x1), (9, 0)] [] n h 0 0 := by
  unfold fX6_expression_j127 at hF
  refine aw_aload_n hC dX6_expression_127 rfl ?_
  refine aw_gc6 (k := 45) (a := 35) (b := 53) hC hbt dX6_expression_128 lkRX6_71 (by decide) rfl rfl rfl (by decide) (by decide) ?_
  refine aw_aload_n hC dX6_expression_131 rfl ?_
  refine aw_g6i (k := 33) (a := 35) hC dX6_expression_132 lkRX6_221 (by decide) rfl rfl rfl (Or.inl ⟨hbt, by decide⟩) ?_
  obtain ⟨g39, hF⟩ := gd_some hF
  refine aw_zaload (a := 53) hC dX6_expression_135 rfl rfl (Or.inl ⟨hbt, by decide⟩) g39.1 g39.2 ?_
  refine aw_if_ne (tgt := 186) hC dX6_expression_136 (by decide) (fun c40 => ?_) (fun c40 => ?_)
  · have hF := it_f hF c40
    exact fX6_expression_j186_ok hC hZ hRm hbt hr hF (fun u0 u1 e => hL9 u0 u1 e) (fun w0 e => hX9 w0 e)
  · have hF := it_t hF c40
    refine aw_aload_n hC dX6_expression_139 rfl ?_
    refine aw_iconst hC dX6_expression_140 (by decide) ?_
    obtain ⟨r92, h94, q93, hF⟩ := bd_some hF
    refine clRX6_236 hC hRm hbt dX6_expression_141 rfl rfl (by decide) (Nat.le_of_ble_eq_true rfl) (Nat.le_of_ble_eq_true rfl) (ok_X6_drops q93) ?_
    refine aw_aload_n hC dX6_expression_144 rfl ?_
    refine aw_aload_n hC dX6_expression_145 rfl ?_
    refine aw_bipush hC dX6_expression_146 (by decide) (by decide) ?_
    obtain ⟨r95, q96, hF⟩ := bp_some hF
    refine clRX6_224 hC hRm hbt dX6_expression_148 rfl rfl (by decide) (Nat.le_of_ble_eq_true rfl) (Nat.le_of_ble_eq_true rfl) (ok_X6_isSign q96) ?_
    refine aw_if_eq (tgt := 159) hC dX6_expression_151 (by decide) (fun c97 => ?_) (fun c97 => ?_)
    · have hF := it_t hF c97
      refine aw_bipush hC dX6_expression_159 (by decide) (by decide) ?_
      exact fX6_expression_j161_ok hC hZ hRm hbt hr hF (fun u0 u1 e => hL9 u0 u1 e) (fun w0 e => hX9 w0 e)
    · have hF := it_f hF c97
      refine aw_bipush hC dX6_expression_154 (by decide) (by decide) ?_
      refine aw_goto (tgt := 161) hC dX6_expression_156 (by decide) ?_
      exact fX6_expression_j161_ok hC hZ hRm hbt hr hF (fun u0 u1 e => hL9 u0 u1 e) (fun w0 e => hX9 w0 e)
theorem fX6_expression_l29_ok {G : GD} {X : CX} {n : Nat} {Q : Av → Nat → Hp → Prop} (hC : Cx G X RX6 cX6_expression) (hZ : ZOK X G Q 0 0) (hRm : X.R = rmd 5 0 0) (hbt : X.bt = true) (hr : X.meth.sig.returnType = none)  : ∀ (f : Nat) (x1 : Int) (h : Hp) (r : Hp), it_ (fun s => fX6_expression_l29 s.1 s.2) f (x1, h) = some r → (∀ (h9 : Hp), r = h9 → AW G X 325 [(2, ((35 : Nat) : Int)), (9, 0), (9, 0)] [] n h9 0 0) → AW G X 29 [(2, ((35 : Nat) : Int)), (0, x1), (9, 0)] [] n h 0 0 := by
  intro f
  induction f with
  | zero => intro x1 h r hI; cases hI
  | succ f ih0 =>
    intro x1 h r hI hX
    obtain ⟨b, hF, hb1, hb2⟩ := it_succ hI
    have hF : fX6_expression_l29 x1 h = some b := hF
    unfold fX6_expression_l29 at hF
    refine aw_iload_n hC dX6_expression_29 rfl ?_
    refine aw_if_eq (tgt := 325) hC dX6_expression_30 (by decide) (fun c12 => ?_) (fun c12 => ?_)
    · have hF := it_t hF c12
      refine aw_weak (ls' := [(2, ((35 : Nat) : Int)), (9, 0), (9, 0)]) ⟨Or.inr rfl, Or.inl rfl, Or.inl rfl, trivial⟩ ?_
      exact hX _ (hb2 _ (Option.some.inj hF).symm).symm
    · have hF := it_f hF c12
      refine aw_aload_n hC dX6_expression_33 rfl ?_
      obtain ⟨r13, q14, hF⟩ := bp_some hF
      refine clRX6_188 hC hRm hbt dX6_expression_34 rfl rfl (by decide) (Nat.le_of_ble_eq_true rfl) (Nat.le_of_ble_eq_true rfl) (ok_X6_isGood q14) ?_
      refine aw_if_eq (tgt := 325) hC dX6_expression_37 (by decide) (fun c15 => ?_) (fun c15 => ?_)
      · have hF := it_t hF c15
        refine aw_weak (ls' := [(2, ((35 : Nat) : Int)), (9, 0), (9, 0)]) ⟨Or.inr rfl, Or.inl rfl, Or.inl rfl, trivial⟩ ?_
        exact hX _ (hb2 _ (Option.some.inj hF).symm).symm
      · have hF := it_f hF c15
        refine aw_aload_n hC dX6_expression_40 rfl ?_
        obtain ⟨r16, q17, hF⟩ := bp_some hF
        refine clRX6_217 hC hRm hbt dX6_expression_41 rfl rfl (by decide) (Nat.le_of_ble_eq_true rfl) (Nat.le_of_ble_eq_true rfl) (ok_X6_knownWord q17) ?_
        refine aw_istore2 hC dX6_expression_44 rfl ?_
        refine aw_iload_n hC dX6_expression_45 rfl ?_
        refine aw_bipush hC dX6_expression_46 (by decide) (by decide) ?_
        refine aw_icmp_eq (tgt := 57) hC dX6_expression_48 (by decide) (fun c18 => ?_) (fun c18 => ?_)
        · have hF := it_t hF c18
          exact fX6_expression_j57_ok hC hZ hRm hbt hr hF (fun u0 u1 e => ih0 u0 u1 r (hb1 _ e) hX) (fun w0 e => hX w0 (hb2 _ e).symm)
        · have hF := it_f hF c18
          refine aw_iload_n hC dX6_expression_51 rfl ?_
          refine aw_bipush hC dX6_expression_52 (by decide) (by decide) ?_
          refine aw_icmp_ne (tgt := 109) hC dX6_expression_54 (by decide) (fun c35 => ?_) (fun c35 => ?_)
          · have hF := it_f hF c35
            refine aw_aload_n hC dX6_expression_109 rfl ?_
            refine aw_bipush hC dX6_expression_110 (by decide) (by decide) ?_
            obtain ⟨r36, q37, hF⟩ := bp_some hF
            refine clRX6_224 hC hRm hbt dX6_expression_112 rfl rfl (by decide) (Nat.le_of_ble_eq_true rfl) (Nat.le_of_ble_eq_true rfl) (ok_X6_isSign q37) ?_
            refine aw_if_ne (tgt := 127) hC dX6_expression_115 (by decide) (fun c38 => ?_) (fun c38 => ?_)
            · have hF := it_f hF c38
              refine aw_weak (ls' := [(2, ((35 : Nat) : Int)), (0, x1), (9, 0)]) ⟨Or.inr rfl, Or.inr rfl, Or.inl rfl, trivial⟩ ?_
              exact fX6_expression_j127_ok hC hZ hRm hbt hr hF (fun u0 u1 e => ih0 u0 u1 r (hb1 _ e) hX) (fun w0 e => hX w0 (hb2 _ e).symm)
            · have hF := it_t hF c38
              refine aw_aload_n hC dX6_expression_118 rfl ?_
              refine aw_bipush hC dX6_expression_119 (by decide) (by decide) ?_
              obtain ⟨r109, q110, hF⟩ := bp_some hF
              refine clRX6_224 hC hRm hbt dX6_expression_121 rfl rfl (by decide) (Nat.le_of_ble_eq_true rfl) (Nat.le_of_ble_eq_true rfl) (ok_X6_isSign q110) ?_
              refine aw_if_eq (tgt := 186) hC dX6_expression_124 (by decide) (fun c111 => ?_) (fun c111 => ?_)
              · have hF := it_t hF c111
                refine aw_weak (ls' := [(2, ((35 : Nat) : Int)), (0, x1), (9, 0)]) ⟨Or.inr rfl, Or.inr rfl, Or.inl rfl, trivial⟩ ?_
                exact fX6_expression_j186_ok hC hZ hRm hbt hr hF (fun u0 u1 e => ih0 u0 u1 r (hb1 _ e) hX) (fun w0 e => hX w0 (hb2 _ e).symm)
              · have hF := it_f hF c111
                refine aw_weak (ls' := [(2, ((35 : Nat) : Int)), (0, x1), (9, 0)]) ⟨Or.inr rfl, Or.inr rfl, Or.inl rfl, trivial⟩ ?_
                exact fX6_expression_j127_ok hC hZ hRm hbt hr hF (fun u0 u1 e => ih0 u0 u1 r (hb1 _ e) hX) (fun w0 e => hX w0 (hb2 _ e).symm)
          · have hF := it_t hF c35
            exact fX6_expression_j57_ok hC hZ hRm hbt hr hF (fun u0 u1 e => ih0 u0 u1 r (hb1 _ e) hX) (fun w0 e => hX w0 (hb2 _ e).symm)
theorem fX6_expression_j345_ok {G : GD} {X : CX} {n : Nat} {Q : Av → Nat → Hp → Prop} (hC : Cx G X RX6 cX6_expression) (hZ : ZOK X G Q 0 0) (hRm : X.R = rmd 5 0 0) (hbt : X.bt = true) (hr : X.meth.sig.returnType = none)  {h : Hp} {res : Int × Hp} (hF : fX6_expression_j345  h = some res) (hK : ∀ (x9 : Int) (h9 : Hp), res = (x9, h9) → Q (8, x9) n h9) : AW G X 345 [(2, ((35 : Nat) : Int)), (9, 0), (9, 0)] [] n h 0 0 := by
  unfold fX6_expression_j345 at hF
  refine aw_aload_n hC dX6_expression_345 rfl ?_
  refine aw_iconst hC dX6_expression_346 (by decide) ?_
  obtain ⟨r117, h119, q118, hF⟩ := bd_some hF
  refine clRX6_236 hC hRm hbt dX6_expression_347 rfl rfl (by decide) (Nat.le_of_ble_eq_true rfl) (Nat.le_of_ble_eq_true rfl) (ok_X6_drops q118) ?_
  refine aw_aload_n hC dX6_expression_350 rfl ?_
  refine aw_iconst hC dX6_expression_351 (by decide) ?_
  obtain ⟨r120, h122, q121, hF⟩ := bd_some hF
  refine clRX6_214 hC hRm hbt dX6_expression_352 rfl rfl (by decide) (Nat.le_of_ble_eq_true rfl) (Nat.le_of_ble_eq_true rfl) (ok_X6_puts q121) ?_
  exact aw_return hC hZ (Nat.zero_le _) (Nat.zero_le _) hr dX6_expression_355 (hK _ _ (Option.some.inj hF).symm)
theorem fX6_expression_j325_ok {G : GD} {X : CX} {n : Nat} {Q : Av → Nat → Hp → Prop} (hC : Cx G X RX6 cX6_expression) (hZ : ZOK X G Q 0 0) (hRm : X.R = rmd 5 0 0) (hbt : X.bt = true) (hr : X.meth.sig.returnType = none)  {h : Hp} {res : Int × Hp} (hF : fX6_expression_j325  h = some res) (hK : ∀ (x9 : Int) (h9 : Hp), res = (x9, h9) → Q (8, x9) n h9) : AW G X 325 [(2, ((35 : Nat) : Int)), (9, 0), (9, 0)] [] n h 0 0 := by
  unfold fX6_expression_j325 at hF
  refine aw_aload_n hC dX6_expression_325 rfl ?_
  obtain ⟨r114, q115, hF⟩ := bp_some hF
  refine clRX6_188 hC hRm hbt dX6_expression_326 rfl rfl (by decide) (Nat.le_of_ble_eq_true rfl) (Nat.le_of_ble_eq_true rfl) (ok_X6_isGood q115) ?_
  refine aw_if_eq (tgt := 345) hC dX6_expression_329 (by decide) (fun c116 => ?_) (fun c116 => ?_)
  · have hF := it_t hF c116
    exact fX6_expression_j345_ok hC hZ hRm hbt hr hF hK
  · have hF := it_f hF c116
    refine aw_aload_n hC dX6_expression_332 rfl ?_
    refine aw_g6i (k := 33) (a := 35) hC dX6_expression_333 lkRX6_221 (by decide) rfl rfl rfl (Or.inl ⟨hbt, by decide⟩) ?_
    refine aw_iconst hC dX6_expression_336 (by decide) ?_
    refine aw_icmp_le (tgt := 345) hC dX6_expression_337 (by decide) (fun c123 => ?_) (fun c123 => ?_)
    · have hF := it_t hF c123
      exact fX6_expression_j345_ok hC hZ hRm hbt hr hF hK
    · have hF := it_f hF c123
      refine aw_aload_n hC dX6_expression_340 rfl ?_
      refine aw_iconst hC dX6_expression_341 (by decide) ?_
      obtain ⟨r124, h126, q125, hF⟩ := bd_some hF
      refine clRX6_195 hC hRm hbt dX6_expression_342 rfl rfl (by decide) (Nat.le_of_ble_eq_true rfl) (Nat.le_of_ble_eq_true rfl) (ok_X6_wrong q125) ?_
      exact fX6_expression_j345_ok hC hZ hRm hbt hr hF hK
theorem ok_X6_expression {G : GD} {n : Nat}  {h : Hp} {res : Int × Hp} (hF : fX6_expression  h = some res) : Con G yX6_expression cX6_expression 3 none 5 0 0 true [(2, ((35 : Nat) : Int))] n h (FQ 8 n res) := by
  refine con_of (pad := 2) (own := RX6) (plainFor_of_name (by decide)) rfl rfl ?_
  intro X hC hbt hr hnm hZ hRm hn0
  have hK : ∀ (x9 : Int) (h9 : Hp), res = (x9, h9) → FQ 8 n res (8, x9) n h9 := fun x9 h9 e => by subst e; exact ⟨rfl, rfl, rfl⟩
  unfold fX6_expression at hF
  show AW G X 0 [(2, ((35 : Nat) : Int)), (9, 0), (9, 0)] [] n h 0 0
  refine aw_aload_n hC dX6_expression_0 rfl ?_
  obtain ⟨r1, q2, hF⟩ := bp_some hF
  refine clRX6_188 hC hRm hbt dX6_expression_1 rfl rfl (by decide) (Nat.le_of_ble_eq_true rfl) (Nat.le_of_ble_eq_true rfl) (ok_X6_isGood q2) ?_
  refine aw_if_ne (tgt := 8) hC dX6_expression_4 (by decide) (fun c3 => ?_) (fun c3 => ?_)
  · have hF := it_f hF c3
    refine aw_aload_n hC dX6_expression_8 rfl ?_
    refine aw_iconst hC dX6_expression_9 (by decide) ?_
    obtain ⟨h4, eh4, hF⟩ := lb_some hF
    refine aw_p6i (k := 32) (a := 35) hC dX6_expression_10 lkRX6_205 (by decide) rfl rfl rfl rfl rfl (Or.inl ⟨hbt, by decide⟩) (fun _ => by decide) ?_
    refine aw_eqH eh4 ?_
    clear eh4
    refine aw_aload_n hC dX6_expression_13 rfl ?_
    refine aw_iconst hC dX6_expression_14 (by decide) ?_
    obtain ⟨h5, eh5, hF⟩ := lb_some hF
    refine aw_p6i (k := 33) (a := 35) hC dX6_expression_15 lkRX6_221 (by decide) rfl rfl rfl rfl rfl (Or.inl ⟨hbt, by decide⟩) (fun _ => by decide) ?_
    refine aw_eqH eh5 ?_
    clear eh5
    refine aw_aload_n hC dX6_expression_18 rfl ?_
    obtain ⟨r6, h8, q7, hF⟩ := bd_some hF
    refine clRX6_230 hC hRm hbt dX6_expression_19 rfl rfl (by decide) (Nat.le_of_ble_eq_true rfl) (Nat.le_of_ble_eq_true rfl) (ok_X6_deeper q7) ?_
    refine aw_aload_n hC dX6_expression_22 rfl ?_
    refine aw_iconst hC dX6_expression_23 (by decide) ?_
    obtain ⟨r9, h11, q10, hF⟩ := bd_some hF
    refine clRX6_239 hC hRm hbt dX6_expression_24 rfl rfl (by decide) (Nat.le_of_ble_eq_true rfl) (Nat.le_of_ble_eq_true rfl) (ok_X6_operand q10) ?_
    refine aw_iconst hC dX6_expression_27 (by decide) ?_
    refine aw_istore1 hC dX6_expression_28 rfl ?_
    obtain ⟨e112, he, hF⟩ := bp_some hF
    refine fX6_expression_l29_ok hC hZ hRm hbt hr FU _ _ e112 he (fun h113 er => ?_)
    replace er := er.symm
    subst er
    try dsimp only at hF
    exact fX6_expression_j325_ok hC hZ hRm hbt hr hF hK
  · have hF := it_t hF c3
    exact aw_return hC hZ (Nat.zero_le _) (Nat.zero_le _) hr dX6_expression_7 (hK _ _ (Option.some.inj hF).symm)
def fX6_cellNext_j57 (x4 : Int) (h : Hp) : Option (Int × Hp) :=
  bp_ (fX6_isGood h) (fun r10 => (if r10 = 0 then some (x4, h) else bd_ (fX6_goes h) (fun r13 h15 => some (x4, h15))))
def fX6_cellNext (x1 : Int) (h : Hp) : Option (Int × Hp) :=
  bd_ (fX6_number 0 ((i_sub ((h 35 25)) 1)) h) (fun r1 h3 => bd_ (fX6_numberHere 0 ((i_sub ((h3 35 26)) 1)) h3) (fun r4 h6 => (if r4 = 0 then some (0, h6) else lb_ ((i_add ((i_mul ((h6 35 25)) ((h6 35 22)))) r1)) (fun v8 => (if (l_cmp ((l_and ((l_shr x1 v8)) 1)) 1) = 0 then bd_ (fX6_wrong 4 h6) (fun r16 h18 => fX6_cellNext_j57 v8 h18) else fX6_cellNext_j57 v8 h6)))))
theorem fX6_cellNext_j57_ok {G : GD} {X : CX} {n : Nat} {Q : Av → Nat → Hp → Prop} (hC : Cx G X RX6 cX6_cellNext) (hZ : ZOK X G Q 0 0) (hRm : X.R = rmd 3 0 0) (hbt : X.bt = true) (hr : X.meth.sig.returnType = (some .int)) {x4 : Int} {h : Hp} {res : Int × Hp} (hF : fX6_cellNext_j57 x4 h = some res) (hK : ∀ (x9 : Int) (h9 : Hp), res = (x9, h9) → Q (0, x9) n h9) : AW G X 57 [(2, ((35 : Nat) : Int)), (9, 0), (9, 0), (9, 0), (0, x4)] [] n h 0 0 := by
  unfold fX6_cellNext_j57 at hF
  refine aw_aload_n hC dX6_cellNext_57 rfl ?_
  obtain ⟨r10, q11, hF⟩ := bp_some hF
  refine clRX6_188 hC hRm hbt dX6_cellNext_58 rfl rfl (by decide) (Nat.le_of_ble_eq_true rfl) (Nat.le_of_ble_eq_true rfl) (ok_X6_isGood q11) ?_
  refine aw_if_eq (tgt := 68) hC dX6_cellNext_61 (by decide) (fun c12 => ?_) (fun c12 => ?_)
  · have hF := it_t hF c12
    refine aw_iload hC dX6_cellNext_68 rfl ?_
    exact aw_ireturn hC hZ (Nat.zero_le _) (Nat.zero_le _) hr dX6_cellNext_70 (hK _ _ (Option.some.inj hF).symm)
  · have hF := it_f hF c12
    refine aw_aload_n hC dX6_cellNext_64 rfl ?_
    obtain ⟨r13, h15, q14, hF⟩ := bd_some hF
    refine clRX6_192 hC hRm hbt dX6_cellNext_65 rfl rfl (by decide) (Nat.le_of_ble_eq_true rfl) (Nat.le_of_ble_eq_true rfl) (ok_X6_goes q14) ?_
    refine aw_iload hC dX6_cellNext_68 rfl ?_
    exact aw_ireturn hC hZ (Nat.zero_le _) (Nat.zero_le _) hr dX6_cellNext_70 (hK _ _ (Option.some.inj hF).symm)
theorem ok_X6_cellNext {G : GD} {n : Nat} {x1 : Int} {h : Hp} {res : Int × Hp} (hF : fX6_cellNext x1 h = some res) : Con G yX6_cellNext cX6_cellNext 5 (some .int) 3 0 0 true [(2, ((35 : Nat) : Int)), (1, x1)] n h (FQ 0 n res) := by
  refine con_of (pad := 2) (own := RX6) (plainFor_of_name (by decide)) rfl rfl ?_
  intro X hC hbt hr hnm hZ hRm hn0
  have hK : ∀ (x9 : Int) (h9 : Hp), res = (x9, h9) → FQ 0 n res (0, x9) n h9 := fun x9 h9 e => by subst e; exact ⟨rfl, rfl, rfl⟩
  unfold fX6_cellNext at hF
  show AW G X 0 [(2, ((35 : Nat) : Int)), (1, x1), (9, 0), (9, 0), (9, 0)] [] n h 0 0
  refine aw_aload_n hC dX6_cellNext_0 rfl ?_
  refine aw_iconst hC dX6_cellNext_1 (by decide) ?_
  refine aw_aload_n hC dX6_cellNext_2 rfl ?_
  refine aw_g6i (k := 25) (a := 35) hC dX6_cellNext_3 lkRX6_249 (by decide) rfl rfl rfl (Or.inl ⟨hbt, by decide⟩) ?_
  refine aw_iconst hC dX6_cellNext_6 (by decide) ?_
  refine aw_isub hC dX6_cellNext_7 ?_
  obtain ⟨r1, h3, q2, hF⟩ := bd_some hF
  refine clRX6_252 hC hRm hbt dX6_cellNext_8 rfl rfl (by decide) (Nat.le_of_ble_eq_true rfl) (Nat.le_of_ble_eq_true rfl) (ok_X6_number q2) ?_
  refine aw_istore3 hC dX6_cellNext_11 rfl ?_
  refine aw_aload_n hC dX6_cellNext_12 rfl ?_
  refine aw_iconst hC dX6_cellNext_13 (by decide) ?_
  refine aw_aload_n hC dX6_cellNext_14 rfl ?_
  refine aw_g6i (k := 26) (a := 35) hC dX6_cellNext_15 lkRX6_256 (by decide) rfl rfl rfl (Or.inl ⟨hbt, by decide⟩) ?_
  refine aw_iconst hC dX6_cellNext_18 (by decide) ?_
  refine aw_isub hC dX6_cellNext_19 ?_
  obtain ⟨r4, h6, q5, hF⟩ := bd_some hF
  refine clRX6_198 hC hRm hbt dX6_cellNext_20 rfl rfl (by decide) (Nat.le_of_ble_eq_true rfl) (Nat.le_of_ble_eq_true rfl) (ok_X6_numberHere q5) ?_
  refine aw_if_ne (tgt := 28) hC dX6_cellNext_23 (by decide) (fun c7 => ?_) (fun c7 => ?_)
  · have hF := it_f hF c7
    refine aw_aload_n hC dX6_cellNext_28 rfl ?_
    refine aw_g6i (k := 25) (a := 35) hC dX6_cellNext_29 lkRX6_249 (by decide) rfl rfl rfl (Or.inl ⟨hbt, by decide⟩) ?_
    refine aw_aload_n hC dX6_cellNext_32 rfl ?_
    refine aw_g6i (k := 22) (a := 35) hC dX6_cellNext_33 lkRX6_156 (by decide) rfl rfl rfl (Or.inl ⟨hbt, by decide⟩) ?_
    refine aw_imul hC dX6_cellNext_36 ?_
    refine aw_iload_n hC dX6_cellNext_37 rfl ?_
    refine aw_iadd hC dX6_cellNext_38 ?_
    obtain ⟨v8, ev8, hF⟩ := lb_some hF
    refine aw_eqT ev8 ?_
    clear ev8
    refine aw_istore4 hC dX6_cellNext_39 rfl ?_
    refine aw_lload_n hC dX6_cellNext_41 rfl ?_
    refine aw_iload hC dX6_cellNext_42 rfl ?_
    refine aw_lshr hC dX6_cellNext_44 ?_
    refine aw_lconst (v := 1) hC dX6_cellNext_45 (by decide) (by decide) ?_
    refine aw_land hC dX6_cellNext_46 ?_
    refine aw_lconst (v := 1) hC dX6_cellNext_47 (by decide) (by decide) ?_
    refine aw_lcmp hC dX6_cellNext_48 ?_
    refine aw_if_ne (tgt := 57) hC dX6_cellNext_49 (by decide) (fun c9 => ?_) (fun c9 => ?_)
    · have hF := it_f hF c9
      refine aw_weak (ls' := [(2, ((35 : Nat) : Int)), (9, 0), (9, 0), (9, 0), (0, v8)]) ⟨Or.inr rfl, Or.inl rfl, Or.inl rfl, Or.inl rfl, Or.inr rfl, trivial⟩ ?_
      exact fX6_cellNext_j57_ok hC hZ hRm hbt hr hF hK
    · have hF := it_t hF c9
      refine aw_aload_n hC dX6_cellNext_52 rfl ?_
      refine aw_iconst hC dX6_cellNext_53 (by decide) ?_
      obtain ⟨r16, h18, q17, hF⟩ := bd_some hF
      refine clRX6_195 hC hRm hbt dX6_cellNext_54 rfl rfl (by decide) (Nat.le_of_ble_eq_true rfl) (Nat.le_of_ble_eq_true rfl) (ok_X6_wrong q17) ?_
      refine aw_weak (ls' := [(2, ((35 : Nat) : Int)), (9, 0), (9, 0), (9, 0), (0, v8)]) ⟨Or.inr rfl, Or.inl rfl, Or.inl rfl, Or.inl rfl, Or.inr rfl, trivial⟩ ?_
      exact fX6_cellNext_j57_ok hC hZ hRm hbt hr hF hK
  · have hF := it_t hF c7
    refine aw_iconst hC dX6_cellNext_26 (by decide) ?_
    exact aw_ireturn hC hZ (Nat.zero_le _) (Nat.zero_le _) hr dX6_cellNext_27 (hK _ _ (Option.some.inj hF).symm)
def fX6_readsFogs_j59  (h : Hp) : Option ((Int × Hp) ⊕ ((Hp) ⊕ (Int × Hp))) :=
  bd_ (fX6_number 1 9 h) (fun r13 h15 => bp_ (fX6_isGood h15) (fun r16 => (if r16 = 0 then some (.inr (.inr (0, h15))) else gd_ (0 ≤ (h15 35 30) ∧ (h15 35 30) < 8) (lb_ (st h15 49 (Int.toNat ((h15 35 30))) r13) (fun h20 => lb_ (st h20 35 30 ((i_add ((h20 35 30)) 1))) (fun h21 => (if (h21 35 19) = 2 then some (.inl (1, h21)) else some (.inl (0, h21)))))))))
def fX6_readsFogs_l26 (x1 : Int) (h : Hp) : Option ((Int × Hp) ⊕ ((Hp) ⊕ (Int × Hp))) :=
  (if x1 = 0 then some (.inr (.inl h)) else bp_ (fX6_isGood h) (fun r9 => (if r9 = 0 then some (.inr (.inl h)) else (if (h 35 30) = 8 then (if (h 35 19) = 2 then bd_ (fX6_wrong 2 h) (fun r24 h26 => fX6_readsFogs_j59 h26) else fX6_readsFogs_j59 h) else fX6_readsFogs_j59 h))))
def fX6_readsFogs_j12  (h : Hp) : Option (Int × Hp) :=
  bp_ (fX6_isGood h) (fun r2 => (if r2 = 0 then some (0, h) else bd_ (fX6_goes h) (fun r5 h7 => bp_ (it_ (fun s => fX6_readsFogs_l26 s.1 s.2) FU (1, h7)) (fun e27 => match e27 with | .inl e27 => (fun h28 => some (0, h28)) e27 | .inr q9 => some q9))))
def fX6_readsFogs  (h : Hp) : Option (Int × Hp) :=
  (if (h 35 30) ≤ 0 then fX6_readsFogs_j12 h else bd_ (fX6_wrong 5 h) (fun r29 h31 => fX6_readsFogs_j12 h31))
theorem fX6_readsFogs_j59_ok {G : GD} {X : CX} {n : Nat} {Q : Av → Nat → Hp → Prop} (hC : Cx G X RX6 cX6_readsFogs) (hZ : ZOK X G Q 0 0) (hRm : X.R = rmd 3 0 0) (hbt : X.bt = true) (hr : X.meth.sig.returnType = none)  {h : Hp} {b : (Int × Hp) ⊕ ((Hp) ⊕ (Int × Hp))} (hF : fX6_readsFogs_j59  h = some b) (hL9 : ∀ (u1 : Int) (h9 : Hp), b = .inl (u1, h9) → AW G X 26 [(2, ((35 : Nat) : Int)), (0, u1), (9, 0)] [] n h9 0 0) (hX9 : ∀ (h9 : Hp), b = .inr (.inl h9) → AW G X 112 [(9, 0), (9, 0), (9, 0)] [] n h9 0 0) (hRet : ∀ (x9 : Int) (h9 : Hp), b = .inr (.inr (x9, h9)) → Q (8, x9) n h9) : AW G X 59 [(2, ((35 : Nat) : Int)), (9, 0), (9, 0)] [] n h 0 0 := by
  unfold fX6_readsFogs_j59 at hF
  refine aw_aload_n hC dX6_readsFogs_59 rfl ?_
  refine aw_iconst hC dX6_readsFogs_60 (by decide) ?_
  refine aw_bipush hC dX6_readsFogs_61 (by decide) (by decide) ?_
  obtain ⟨r13, h15, q14, hF⟩ := bd_some hF
  refine clRX6_252 hC hRm hbt dX6_readsFogs_63 rfl rfl (by decide) (Nat.le_of_ble_eq_true rfl) (Nat.le_of_ble_eq_true rfl) (ok_X6_number q14) ?_
  refine aw_istore2 hC dX6_readsFogs_66 rfl ?_
  refine aw_aload_n hC dX6_readsFogs_67 rfl ?_
  obtain ⟨r16, q17, hF⟩ := bp_some hF
  refine clRX6_188 hC hRm hbt dX6_readsFogs_68 rfl rfl (by decide) (Nat.le_of_ble_eq_true rfl) (Nat.le_of_ble_eq_true rfl) (ok_X6_isGood q17) ?_
  refine aw_if_ne (tgt := 75) hC dX6_readsFogs_71 (by decide) (fun c18 => ?_) (fun c18 => ?_)
  · have hF := it_f hF c18
    refine aw_aload_n hC dX6_readsFogs_75 rfl ?_
    refine aw_gc6 (k := 41) (a := 35) (b := 49) hC hbt dX6_readsFogs_76 lkRX6_59 (by decide) rfl rfl rfl (by decide) (by decide) ?_
    refine aw_aload_n hC dX6_readsFogs_79 rfl ?_
    refine aw_g6i (k := 30) (a := 35) hC dX6_readsFogs_80 lkRX6_259 (by decide) rfl rfl rfl (Or.inl ⟨hbt, by decide⟩) ?_
    refine aw_iload_n hC dX6_readsFogs_83 rfl ?_
    obtain ⟨g19, hF⟩ := gd_some hF
    obtain ⟨h20, eh20, hF⟩ := lb_some hF
    refine aw_iastore (a := 49) hC dX6_readsFogs_84 rfl rfl (Or.inl ⟨hbt, by decide⟩) g19.1 g19.2 ?_
    refine aw_eqH eh20 ?_
    clear eh20
    refine aw_aload_n hC dX6_readsFogs_85 rfl ?_
    refine aw_dup hC dX6_readsFogs_86 (by simp) ?_
    refine aw_g6i (k := 30) (a := 35) hC dX6_readsFogs_87 lkRX6_259 (by decide) rfl rfl rfl (Or.inl ⟨hbt, by decide⟩) ?_
    refine aw_iconst hC dX6_readsFogs_90 (by decide) ?_
    refine aw_iadd hC dX6_readsFogs_91 ?_
    obtain ⟨h21, eh21, hF⟩ := lb_some hF
    refine aw_p6i (k := 30) (a := 35) hC dX6_readsFogs_92 lkRX6_259 (by decide) rfl rfl rfl rfl rfl (Or.inl ⟨hbt, by decide⟩) (fun _ => by decide) ?_
    refine aw_eqH eh21 ?_
    clear eh21
    refine aw_aload_n hC dX6_readsFogs_95 rfl ?_
    refine aw_g6i (k := 19) (a := 35) hC dX6_readsFogs_96 lkRX6_162 (by decide) rfl rfl rfl (Or.inl ⟨hbt, by decide⟩) ?_
    refine aw_iconst hC dX6_readsFogs_99 (by decide) ?_
    refine aw_icmp_ne (tgt := 107) hC dX6_readsFogs_100 (by decide) (fun c22 => ?_) (fun c22 => ?_)
    · have hF := it_f hF c22
      refine aw_iconst hC dX6_readsFogs_107 (by decide) ?_
      refine aw_istore1 hC dX6_readsFogs_108 rfl ?_
      refine aw_goto (tgt := 26) hC dX6_readsFogs_109 (by decide) ?_
      refine aw_weak (ls' := [(2, ((35 : Nat) : Int)), (0, 0), (9, 0)]) ⟨Or.inr rfl, Or.inr rfl, Or.inl rfl, trivial⟩ ?_
      exact hL9 _ _ (Option.some.inj hF).symm
    · have hF := it_t hF c22
      refine aw_iconst hC dX6_readsFogs_103 (by decide) ?_
      refine aw_goto (tgt := 108) hC dX6_readsFogs_104 (by decide) ?_
      refine aw_istore1 hC dX6_readsFogs_108 rfl ?_
      refine aw_goto (tgt := 26) hC dX6_readsFogs_109 (by decide) ?_
      refine aw_weak (ls' := [(2, ((35 : Nat) : Int)), (0, 1), (9, 0)]) ⟨Or.inr rfl, Or.inr rfl, Or.inl rfl, trivial⟩ ?_
      exact hL9 _ _ (Option.some.inj hF).symm
  · have hF := it_t hF c18
    exact aw_return hC hZ (Nat.zero_le _) (Nat.zero_le _) hr dX6_readsFogs_74 (hRet _ _ (Option.some.inj hF).symm)
theorem fX6_readsFogs_l26_ok {G : GD} {X : CX} {n : Nat} {Q : Av → Nat → Hp → Prop} (hC : Cx G X RX6 cX6_readsFogs) (hZ : ZOK X G Q 0 0) (hRm : X.R = rmd 3 0 0) (hbt : X.bt = true) (hr : X.meth.sig.returnType = none)  : ∀ (f : Nat) (x1 : Int) (h : Hp) (r : (Hp) ⊕ (Int × Hp)), it_ (fun s => fX6_readsFogs_l26 s.1 s.2) f (x1, h) = some r → (∀ (h9 : Hp), r = (.inl h9) → AW G X 112 [(9, 0), (9, 0), (9, 0)] [] n h9 0 0) → (∀ (x9 : Int) (h9 : Hp), r = .inr (x9, h9) → Q (8, x9) n h9) → AW G X 26 [(2, ((35 : Nat) : Int)), (0, x1), (9, 0)] [] n h 0 0 := by
  intro f
  induction f with
  | zero => intro x1 h r hI; cases hI
  | succ f ih0 =>
    intro x1 h r hI hX hRet9
    obtain ⟨b, hF, hb1, hb2⟩ := it_succ hI
    have hF : fX6_readsFogs_l26 x1 h = some b := hF
    have hRet : ∀ (x9 : Int) (h9 : Hp), b = .inr (.inr (x9, h9)) → Q (8, x9) n h9 := fun x9 h9 e => hRet9 x9 h9 (hb2 _ e).symm
    unfold fX6_readsFogs_l26 at hF
    refine aw_iload_n hC dX6_readsFogs_26 rfl ?_
    refine aw_if_eq (tgt := 112) hC dX6_readsFogs_27 (by decide) (fun c8 => ?_) (fun c8 => ?_)
    · have hF := it_t hF c8
      refine aw_weak (ls' := [(9, 0), (9, 0), (9, 0)]) ⟨Or.inl rfl, Or.inl rfl, Or.inl rfl, trivial⟩ ?_
      exact hX _ (hb2 _ (Option.some.inj hF).symm).symm
    · have hF := it_f hF c8
      refine aw_aload_n hC dX6_readsFogs_30 rfl ?_
      obtain ⟨r9, q10, hF⟩ := bp_some hF
      refine clRX6_188 hC hRm hbt dX6_readsFogs_31 rfl rfl (by decide) (Nat.le_of_ble_eq_true rfl) (Nat.le_of_ble_eq_true rfl) (ok_X6_isGood q10) ?_
      refine aw_if_eq (tgt := 112) hC dX6_readsFogs_34 (by decide) (fun c11 => ?_) (fun c11 => ?_)
      · have hF := it_t hF c11
        refine aw_weak (ls' := [(9, 0), (9, 0), (9, 0)]) ⟨Or.inl rfl, Or.inl rfl, Or.inl rfl, trivial⟩ ?_
        exact hX _ (hb2 _ (Option.some.inj hF).symm).symm
      · have hF := it_f hF c11
        refine aw_aload_n hC dX6_readsFogs_37 rfl ?_
        refine aw_g6i (k := 30) (a := 35) hC dX6_readsFogs_38 lkRX6_259 (by decide) rfl rfl rfl (Or.inl ⟨hbt, by decide⟩) ?_
        refine aw_bipush hC dX6_readsFogs_41 (by decide) (by decide) ?_
        refine aw_icmp_ne (tgt := 59) hC dX6_readsFogs_43 (by decide) (fun c12 => ?_) (fun c12 => ?_)
        · have hF := it_f hF c12
          refine aw_weak (ls' := [(2, ((35 : Nat) : Int)), (9, 0), (9, 0)]) ⟨Or.inr rfl, Or.inl rfl, Or.inl rfl, trivial⟩ ?_
          exact fX6_readsFogs_j59_ok hC hZ hRm hbt hr hF (fun u0 u1 e => ih0 u0 u1 r (hb1 _ e) hX hRet9) (fun w0 e => hX w0 (hb2 _ e).symm) hRet
        · have hF := it_t hF c12
          refine aw_aload_n hC dX6_readsFogs_46 rfl ?_
          refine aw_g6i (k := 19) (a := 35) hC dX6_readsFogs_47 lkRX6_162 (by decide) rfl rfl rfl (Or.inl ⟨hbt, by decide⟩) ?_
          refine aw_iconst hC dX6_readsFogs_50 (by decide) ?_
          refine aw_icmp_ne (tgt := 59) hC dX6_readsFogs_51 (by decide) (fun c23 => ?_) (fun c23 => ?_)
          · have hF := it_f hF c23
            refine aw_weak (ls' := [(2, ((35 : Nat) : Int)), (9, 0), (9, 0)]) ⟨Or.inr rfl, Or.inl rfl, Or.inl rfl, trivial⟩ ?_
            exact fX6_readsFogs_j59_ok hC hZ hRm hbt hr hF (fun u0 u1 e => ih0 u0 u1 r (hb1 _ e) hX hRet9) (fun w0 e => hX w0 (hb2 _ e).symm) hRet
          · have hF := it_t hF c23
            refine aw_aload_n hC dX6_readsFogs_54 rfl ?_
            refine aw_iconst hC dX6_readsFogs_55 (by decide) ?_
            obtain ⟨r24, h26, q25, hF⟩ := bd_some hF
            refine clRX6_195 hC hRm hbt dX6_readsFogs_56 rfl rfl (by decide) (Nat.le_of_ble_eq_true rfl) (Nat.le_of_ble_eq_true rfl) (ok_X6_wrong q25) ?_
            refine aw_weak (ls' := [(2, ((35 : Nat) : Int)), (9, 0), (9, 0)]) ⟨Or.inr rfl, Or.inl rfl, Or.inl rfl, trivial⟩ ?_
            exact fX6_readsFogs_j59_ok hC hZ hRm hbt hr hF (fun u0 u1 e => ih0 u0 u1 r (hb1 _ e) hX hRet9) (fun w0 e => hX w0 (hb2 _ e).symm) hRet
theorem fX6_readsFogs_j12_ok {G : GD} {X : CX} {n : Nat} {Q : Av → Nat → Hp → Prop} (hC : Cx G X RX6 cX6_readsFogs) (hZ : ZOK X G Q 0 0) (hRm : X.R = rmd 3 0 0) (hbt : X.bt = true) (hr : X.meth.sig.returnType = none)  {h : Hp} {res : Int × Hp} (hF : fX6_readsFogs_j12  h = some res) (hK : ∀ (x9 : Int) (h9 : Hp), res = (x9, h9) → Q (8, x9) n h9) : AW G X 12 [(2, ((35 : Nat) : Int)), (9, 0), (9, 0)] [] n h 0 0 := by
  unfold fX6_readsFogs_j12 at hF
  refine aw_aload_n hC dX6_readsFogs_12 rfl ?_
  obtain ⟨r2, q3, hF⟩ := bp_some hF
  refine clRX6_188 hC hRm hbt dX6_readsFogs_13 rfl rfl (by decide) (Nat.le_of_ble_eq_true rfl) (Nat.le_of_ble_eq_true rfl) (ok_X6_isGood q3) ?_
  refine aw_if_ne (tgt := 20) hC dX6_readsFogs_16 (by decide) (fun c4 => ?_) (fun c4 => ?_)
  · have hF := it_f hF c4
    refine aw_aload_n hC dX6_readsFogs_20 rfl ?_
    obtain ⟨r5, h7, q6, hF⟩ := bd_some hF
    refine clRX6_192 hC hRm hbt dX6_readsFogs_21 rfl rfl (by decide) (Nat.le_of_ble_eq_true rfl) (Nat.le_of_ble_eq_true rfl) (ok_X6_goes q6) ?_
    refine aw_iconst hC dX6_readsFogs_24 (by decide) ?_
    refine aw_istore1 hC dX6_readsFogs_25 rfl ?_
    obtain ⟨e27, he, hF⟩ := bp_some hF
    refine fX6_readsFogs_l26_ok hC hZ hRm hbt hr FU _ _ e27 he (fun h28 er => ?_) (fun x9 h9 e => by subst e; exact hK _ _ (Option.some.inj hF).symm)
    replace er := er.symm
    subst er
    try dsimp only at hF
    exact aw_return hC hZ (Nat.zero_le _) (Nat.zero_le _) hr dX6_readsFogs_112 (hK _ _ (Option.some.inj hF).symm)
  · have hF := it_t hF c4
    exact aw_return hC hZ (Nat.zero_le _) (Nat.zero_le _) hr dX6_readsFogs_19 (hK _ _ (Option.some.inj hF).symm)
theorem ok_X6_readsFogs {G : GD} {n : Nat}  {h : Hp} {res : Int × Hp} (hF : fX6_readsFogs  h = some res) : Con G yX6_readsFogs cX6_readsFogs 3 none 3 0 0 true [(2, ((35 : Nat) : Int))] n h (FQ 8 n res) := by
  refine con_of (pad := 2) (own := RX6) (plainFor_of_name (by decide)) rfl rfl ?_
  intro X hC hbt hr hnm hZ hRm hn0
  have hK : ∀ (x9 : Int) (h9 : Hp), res = (x9, h9) → FQ 8 n res (8, x9) n h9 := fun x9 h9 e => by subst e; exact ⟨rfl, rfl, rfl⟩
  unfold fX6_readsFogs at hF
  show AW G X 0 [(2, ((35 : Nat) : Int)), (9, 0), (9, 0)] [] n h 0 0
  refine aw_aload_n hC dX6_readsFogs_0 rfl ?_
  refine aw_g6i (k := 30) (a := 35) hC dX6_readsFogs_1 lkRX6_259 (by decide) rfl rfl rfl (Or.inl ⟨hbt, by decide⟩) ?_
  refine aw_if_le (tgt := 12) hC dX6_readsFogs_4 (by decide) (fun c1 => ?_) (fun c1 => ?_)
  · have hF := it_t hF c1
    exact fX6_readsFogs_j12_ok hC hZ hRm hbt hr hF hK
  · have hF := it_f hF c1
    refine aw_aload_n hC dX6_readsFogs_7 rfl ?_
    refine aw_iconst hC dX6_readsFogs_8 (by decide) ?_
    obtain ⟨r29, h31, q30, hF⟩ := bd_some hF
    refine clRX6_195 hC hRm hbt dX6_readsFogs_9 rfl rfl (by decide) (Nat.le_of_ble_eq_true rfl) (Nat.le_of_ble_eq_true rfl) (ok_X6_wrong q30) ?_
    exact fX6_readsFogs_j12_ok hC hZ hRm hbt hr hF hK
def fX6_line_j398  (h : Hp) : Option (Int × Hp) :=
  bp_ (fX6_isSign 59 h) (fun r11 => bd_ (fX6_need r11 h) (fun r13 h15 => some (0, h15)))
def fX6_line_j351  (h : Hp) : Option (Int × Hp) :=
  bp_ (fX6_isGood h) (fun r17 => (if r17 = 0 then some (0, h) else bd_ (fX6_goes h) (fun r20 h22 => gd_ (0 ≤ (h22 35 29) ∧ (h22 35 29) < 4) (lb_ (st h22 50 (Int.toNat ((h22 35 29))) ((h22 35 31))) (fun h24 => lb_ (st h24 35 29 ((i_add ((h24 35 29)) 1))) (fun h25 => bd_ (fX6_expression h25) (fun r26 h28 => fX6_line_j398 h28)))))))
def fX6_line_j319 (x1 : Int) (h : Hp) : Option (Int × Hp) :=
  (if x1 = 12 then bd_ (fX6_readsFogs h) (fun r32 h34 => fX6_line_j398 h34) else (if x1 = 13 then (if (h 35 29) = 4 then bd_ (fX6_wrong 2 h) (fun r29 h31 => fX6_line_j351 h31) else fX6_line_j351 h) else bd_ (fX6_wrong 1 h) (fun r8 h10 => fX6_line_j398 h10)))
def fX6_line_j225 (x1 : Int) (h : Hp) : Option (Int × Hp) :=
  bp_ (fX6_isGood h) (fun r37 => (if r37 = 0 then some (0, h) else bd_ (fX6_goes h) (fun r40 h42 => bd_ (fX6_cellNext ((h42 35 35)) h42) (fun r43 h45 => gd_ (0 ≤ (h45 35 28) ∧ (h45 35 28) < 6) (lb_ (st h45 46 (Int.toNat ((h45 35 28))) r43) (fun h47 => gd_ (0 ≤ (h47 35 28) ∧ (h47 35 28) < 6) (lb_ (st h47 47 (Int.toNat ((h47 35 28))) ((i_sub x1 7))) (fun h49 => bd_ (fX6_number 0 999 h49) (fun r50 h52 => gd_ (0 ≤ (h49 35 28) ∧ (h49 35 28) < 6) (lb_ (st h52 48 (Int.toNat ((h49 35 28))) r50) (fun h54 => bp_ (fX6_isGood h54) (fun r55 => (if r55 = 0 then some (0, h54) else lb_ (st h54 35 35 ((l_or ((h54 35 35)) ((l_shl 1 r43))))) (fun h58 => lb_ (st h58 35 28 ((i_add ((h58 35 28)) 1))) (fun h59 => fX6_line_j398 h59)))))))))))))))
def fX6_line_j81  (h : Hp) : Option (Int × Hp) :=
  bp_ (fX6_isGood h) (fun r64 => (if r64 = 0 then some (0, h) else bd_ (fX6_goes h) (fun r67 h69 => bd_ (fX6_cellNext ((h69 35 35)) h69) (fun r70 h72 => gd_ (0 ≤ (i_mul 3 ((h72 35 27))) ∧ (i_mul 3 ((h72 35 27))) < 36) (lb_ (st h72 45 (Int.toNat ((i_mul 3 ((h72 35 27))))) r70) (fun h74 => bd_ (fX6_number 1 9 h74) (fun r75 h77 => gd_ (0 ≤ (i_add ((i_mul 3 ((h74 35 27)))) 1) ∧ (i_add ((i_mul 3 ((h74 35 27)))) 1) < 36) (lb_ (st h77 45 (Int.toNat ((i_add ((i_mul 3 ((h74 35 27)))) 1))) r75) (fun h79 => gd_ (0 ≤ (i_add ((i_mul 3 ((h79 35 27)))) 1) ∧ (i_add ((i_mul 3 ((h79 35 27)))) 1) < 36) (bd_ (fX6_number ((h79 45 (Int.toNat ((i_add ((i_mul 3 ((h79 35 27)))) 1))))) 9 h79) (fun r81 h83 => gd_ (0 ≤ (i_add ((i_mul 3 ((h79 35 27)))) 2) ∧ (i_add ((i_mul 3 ((h79 35 27)))) 2) < 36) (lb_ (st h83 45 (Int.toNat ((i_add ((i_mul 3 ((h79 35 27)))) 2))) r81) (fun h85 => bp_ (fX6_isGood h85) (fun r86 => (if r86 = 0 then some (0, h85) else lb_ (st h85 35 35 ((l_or ((h85 35 35)) ((l_shl 1 r70))))) (fun h89 => lb_ (st h89 35 27 ((i_add ((h89 35 27)) 1))) (fun h90 => fX6_line_j398 h90)))))))))))))))))
def fX6_line  (h : Hp) : Option (Int × Hp) :=
  bp_ (fX6_knownWord h) (fun r1 => (if r1 = 2 then bd_ (fX6_goes h) (fun r94 h96 => bd_ (fX6_cellNext ((h96 35 34)) h96) (fun r97 h99 => bd_ (fX6_number 0 9 h99) (fun r100 h102 => bp_ (fX6_isGood h102) (fun r103 => (if r103 = 0 then some (0, h102) else lb_ (st h102 35 34 ((l_or ((h102 35 34)) ((l_shl 1 r97))))) (fun h106 => gd_ (0 ≤ r97 ∧ r97 < 64) (lb_ (st h106 44 (Int.toNat r97) r100) (fun h108 => fX6_line_j398 h108)))))))) else (if r1 = 11 then (if (h 35 27) = 12 then bd_ (fX6_wrong 2 h) (fun r91 h93 => fX6_line_j81 h93) else fX6_line_j81 h) else (if r1 < 7 then fX6_line_j319 r1 h else (if 9 < r1 then fX6_line_j319 r1 h else (if (h 35 28) = 6 then bd_ (fX6_wrong 2 h) (fun r60 h62 => fX6_line_j225 r1 h62) else fX6_line_j225 r1 h))))))
theorem fX6_line_j398_ok {G : GD} {X : CX} {n : Nat} {Q : Av → Nat → Hp → Prop} (hC : Cx G X RX6 cX6_line) (hZ : ZOK X G Q 0 0) (hRm : X.R = rmd 6 0 0) (hbt : X.bt = true) (hr : X.meth.sig.returnType = none)  {h : Hp} {res : Int × Hp} (hF : fX6_line_j398  h = some res) (hK : ∀ (x9 : Int) (h9 : Hp), res = (x9, h9) → Q (8, x9) n h9) : AW G X 398 [(2, ((35 : Nat) : Int)), (9, 0), (9, 0), (9, 0)] [] n h 0 0 := by
  unfold fX6_line_j398 at hF
  refine aw_aload_n hC dX6_line_398 rfl ?_
  refine aw_aload_n hC dX6_line_399 rfl ?_
  refine aw_bipush hC dX6_line_400 (by decide) (by decide) ?_
  obtain ⟨r11, q12, hF⟩ := bp_some hF
  refine clRX6_224 hC hRm hbt dX6_line_402 rfl rfl (by decide) (Nat.le_of_ble_eq_true rfl) (Nat.le_of_ble_eq_true rfl) (ok_X6_isSign q12) ?_
  obtain ⟨r13, h15, q14, hF⟩ := bd_some hF
  refine clRX6_287 hC hRm hbt dX6_line_405 rfl rfl (by decide) (Nat.le_of_ble_eq_true rfl) (Nat.le_of_ble_eq_true rfl) (ok_X6_need q14) ?_
  exact aw_return hC hZ (Nat.zero_le _) (Nat.zero_le _) hr dX6_line_408 (hK _ _ (Option.some.inj hF).symm)
theorem fX6_line_j351_ok {G : GD} {X : CX} {n : Nat} {Q : Av → Nat → Hp → Prop} (hC : Cx G X RX6 cX6_line) (hZ : ZOK X G Q 0 0) (hRm : X.R = rmd 6 0 0) (hbt : X.bt = true) (hr : X.meth.sig.returnType = none)  {h : Hp} {res : Int × Hp} (hF : fX6_line_j351  h = some res) (hK : ∀ (x9 : Int) (h9 : Hp), res = (x9, h9) → Q (8, x9) n h9) : AW G X 351 [(2, ((35 : Nat) : Int)), (9, 0), (9, 0), (9, 0)] [] n h 0 0 := by
  unfold fX6_line_j351 at hF
  refine aw_aload_n hC dX6_line_351 rfl ?_
  obtain ⟨r17, q18, hF⟩ := bp_some hF
  refine clRX6_188 hC hRm hbt dX6_line_352 rfl rfl (by decide) (Nat.le_of_ble_eq_true rfl) (Nat.le_of_ble_eq_true rfl) (ok_X6_isGood q18) ?_
  refine aw_if_ne (tgt := 359) hC dX6_line_355 (by decide) (fun c19 => ?_) (fun c19 => ?_)
  · have hF := it_f hF c19
    refine aw_aload_n hC dX6_line_359 rfl ?_
    obtain ⟨r20, h22, q21, hF⟩ := bd_some hF
    refine clRX6_192 hC hRm hbt dX6_line_360 rfl rfl (by decide) (Nat.le_of_ble_eq_true rfl) (Nat.le_of_ble_eq_true rfl) (ok_X6_goes q21) ?_
    refine aw_aload_n hC dX6_line_363 rfl ?_
    refine aw_gc6 (k := 42) (a := 35) (b := 50) hC hbt dX6_line_364 lkRX6_62 (by decide) rfl rfl rfl (by decide) (by decide) ?_
    refine aw_aload_n hC dX6_line_367 rfl ?_
    refine aw_g6i (k := 29) (a := 35) hC dX6_line_368 lkRX6_281 (by decide) rfl rfl rfl (Or.inl ⟨hbt, by decide⟩) ?_
    refine aw_aload_n hC dX6_line_371 rfl ?_
    refine aw_g6i (k := 31) (a := 35) hC dX6_line_372 lkRX6_202 (by decide) rfl rfl rfl (Or.inl ⟨hbt, by decide⟩) ?_
    obtain ⟨g23, hF⟩ := gd_some hF
    obtain ⟨h24, eh24, hF⟩ := lb_some hF
    refine aw_iastore (a := 50) hC dX6_line_375 rfl rfl (Or.inl ⟨hbt, by decide⟩) g23.1 g23.2 ?_
    refine aw_eqH eh24 ?_
    clear eh24
    refine aw_aload_n hC dX6_line_376 rfl ?_
    refine aw_dup hC dX6_line_377 (by simp) ?_
    refine aw_g6i (k := 29) (a := 35) hC dX6_line_378 lkRX6_281 (by decide) rfl rfl rfl (Or.inl ⟨hbt, by decide⟩) ?_
    refine aw_iconst hC dX6_line_381 (by decide) ?_
    refine aw_iadd hC dX6_line_382 ?_
    obtain ⟨h25, eh25, hF⟩ := lb_some hF
    refine aw_p6i (k := 29) (a := 35) hC dX6_line_383 lkRX6_281 (by decide) rfl rfl rfl rfl rfl (Or.inl ⟨hbt, by decide⟩) (fun _ => by decide) ?_
    refine aw_eqH eh25 ?_
    clear eh25
    refine aw_aload_n hC dX6_line_386 rfl ?_
    obtain ⟨r26, h28, q27, hF⟩ := bd_some hF
    refine clRX6_284 hC hRm hbt dX6_line_387 rfl rfl (by decide) (Nat.le_of_ble_eq_true rfl) (Nat.le_of_ble_eq_true rfl) (ok_X6_expression q27) ?_
    refine aw_goto (tgt := 398) hC dX6_line_390 (by decide) ?_
    exact fX6_line_j398_ok hC hZ hRm hbt hr hF hK
  · have hF := it_t hF c19
    exact aw_return hC hZ (Nat.zero_le _) (Nat.zero_le _) hr dX6_line_358 (hK _ _ (Option.some.inj hF).symm)
theorem fX6_line_j319_ok {G : GD} {X : CX} {n : Nat} {Q : Av → Nat → Hp → Prop} (hC : Cx G X RX6 cX6_line) (hZ : ZOK X G Q 0 0) (hRm : X.R = rmd 6 0 0) (hbt : X.bt = true) (hr : X.meth.sig.returnType = none) {x1 : Int} {h : Hp} {res : Int × Hp} (hF : fX6_line_j319 x1 h = some res) (hK : ∀ (x9 : Int) (h9 : Hp), res = (x9, h9) → Q (8, x9) n h9) : AW G X 319 [(2, ((35 : Nat) : Int)), (0, x1), (9, 0), (9, 0)] [] n h 0 0 := by
  unfold fX6_line_j319 at hF
  refine aw_iload_n hC dX6_line_319 rfl ?_
  refine aw_bipush hC dX6_line_320 (by decide) (by decide) ?_
  refine aw_icmp_ne (tgt := 332) hC dX6_line_322 (by decide) (fun c6 => ?_) (fun c6 => ?_)
  · have hF := it_f hF c6
    refine aw_iload_n hC dX6_line_332 rfl ?_
    refine aw_bipush hC dX6_line_333 (by decide) (by decide) ?_
    refine aw_icmp_ne (tgt := 393) hC dX6_line_335 (by decide) (fun c7 => ?_) (fun c7 => ?_)
    · have hF := it_f hF c7
      refine aw_aload_n hC dX6_line_393 rfl ?_
      refine aw_iconst hC dX6_line_394 (by decide) ?_
      obtain ⟨r8, h10, q9, hF⟩ := bd_some hF
      refine clRX6_195 hC hRm hbt dX6_line_395 rfl rfl (by decide) (Nat.le_of_ble_eq_true rfl) (Nat.le_of_ble_eq_true rfl) (ok_X6_wrong q9) ?_
      refine aw_weak (ls' := [(2, ((35 : Nat) : Int)), (9, 0), (9, 0), (9, 0)]) ⟨Or.inr rfl, Or.inl rfl, Or.inl rfl, Or.inl rfl, trivial⟩ ?_
      exact fX6_line_j398_ok hC hZ hRm hbt hr hF hK
    · have hF := it_t hF c7
      refine aw_aload_n hC dX6_line_338 rfl ?_
      refine aw_g6i (k := 29) (a := 35) hC dX6_line_339 lkRX6_281 (by decide) rfl rfl rfl (Or.inl ⟨hbt, by decide⟩) ?_
      refine aw_iconst hC dX6_line_342 (by decide) ?_
      refine aw_icmp_ne (tgt := 351) hC dX6_line_343 (by decide) (fun c16 => ?_) (fun c16 => ?_)
      · have hF := it_f hF c16
        refine aw_weak (ls' := [(2, ((35 : Nat) : Int)), (9, 0), (9, 0), (9, 0)]) ⟨Or.inr rfl, Or.inl rfl, Or.inl rfl, Or.inl rfl, trivial⟩ ?_
        exact fX6_line_j351_ok hC hZ hRm hbt hr hF hK
      · have hF := it_t hF c16
        refine aw_aload_n hC dX6_line_346 rfl ?_
        refine aw_iconst hC dX6_line_347 (by decide) ?_
        obtain ⟨r29, h31, q30, hF⟩ := bd_some hF
        refine clRX6_195 hC hRm hbt dX6_line_348 rfl rfl (by decide) (Nat.le_of_ble_eq_true rfl) (Nat.le_of_ble_eq_true rfl) (ok_X6_wrong q30) ?_
        refine aw_weak (ls' := [(2, ((35 : Nat) : Int)), (9, 0), (9, 0), (9, 0)]) ⟨Or.inr rfl, Or.inl rfl, Or.inl rfl, Or.inl rfl, trivial⟩ ?_
        exact fX6_line_j351_ok hC hZ hRm hbt hr hF hK
  · have hF := it_t hF c6
    refine aw_aload_n hC dX6_line_325 rfl ?_
    obtain ⟨r32, h34, q33, hF⟩ := bd_some hF
    refine clRX6_278 hC hRm hbt dX6_line_326 rfl rfl (by decide) (Nat.le_of_ble_eq_true rfl) (Nat.le_of_ble_eq_true rfl) (ok_X6_readsFogs q33) ?_
    refine aw_goto (tgt := 398) hC dX6_line_329 (by decide) ?_
    refine aw_weak (ls' := [(2, ((35 : Nat) : Int)), (9, 0), (9, 0), (9, 0)]) ⟨Or.inr rfl, Or.inl rfl, Or.inl rfl, Or.inl rfl, trivial⟩ ?_
    exact fX6_line_j398_ok hC hZ hRm hbt hr hF hK
theorem fX6_line_j225_ok {G : GD} {X : CX} {n : Nat} {Q : Av → Nat → Hp → Prop} (hC : Cx G X RX6 cX6_line) (hZ : ZOK X G Q 0 0) (hRm : X.R = rmd 6 0 0) (hbt : X.bt = true) (hr : X.meth.sig.returnType = none) {x1 : Int} {h : Hp} {res : Int × Hp} (hF : fX6_line_j225 x1 h = some res) (hK : ∀ (x9 : Int) (h9 : Hp), res = (x9, h9) → Q (8, x9) n h9) : AW G X 225 [(2, ((35 : Nat) : Int)), (0, x1), (9, 0), (9, 0)] [] n h 0 0 := by
  unfold fX6_line_j225 at hF
  refine aw_aload_n hC dX6_line_225 rfl ?_
  obtain ⟨r37, q38, hF⟩ := bp_some hF
  refine clRX6_188 hC hRm hbt dX6_line_226 rfl rfl (by decide) (Nat.le_of_ble_eq_true rfl) (Nat.le_of_ble_eq_true rfl) (ok_X6_isGood q38) ?_
  refine aw_if_ne (tgt := 233) hC dX6_line_229 (by decide) (fun c39 => ?_) (fun c39 => ?_)
  · have hF := it_f hF c39
    refine aw_aload_n hC dX6_line_233 rfl ?_
    obtain ⟨r40, h42, q41, hF⟩ := bd_some hF
    refine clRX6_192 hC hRm hbt dX6_line_234 rfl rfl (by decide) (Nat.le_of_ble_eq_true rfl) (Nat.le_of_ble_eq_true rfl) (ok_X6_goes q41) ?_
    refine aw_aload_n hC dX6_line_237 rfl ?_
    refine aw_aload_n hC dX6_line_238 rfl ?_
    refine aw_g6l (k := 35) (a := 35) hC dX6_line_239 lkRX6_272 (by decide) rfl rfl rfl (Or.inl ⟨hbt, by decide⟩) ?_
    obtain ⟨r43, h45, q44, hF⟩ := bd_some hF
    refine clRX6_265 hC hRm hbt dX6_line_242 rfl rfl (by decide) (Nat.le_of_ble_eq_true rfl) (Nat.le_of_ble_eq_true rfl) (ok_X6_cellNext q44) ?_
    refine aw_istore2 hC dX6_line_245 rfl ?_
    refine aw_aload_n hC dX6_line_246 rfl ?_
    refine aw_gc6 (k := 38) (a := 35) (b := 46) hC hbt dX6_line_247 lkRX6_50 (by decide) rfl rfl rfl (by decide) (by decide) ?_
    refine aw_aload_n hC dX6_line_250 rfl ?_
    refine aw_g6i (k := 28) (a := 35) hC dX6_line_251 lkRX6_275 (by decide) rfl rfl rfl (Or.inl ⟨hbt, by decide⟩) ?_
    refine aw_iload_n hC dX6_line_254 rfl ?_
    obtain ⟨g46, hF⟩ := gd_some hF
    obtain ⟨h47, eh47, hF⟩ := lb_some hF
    refine aw_iastore (a := 46) hC dX6_line_255 rfl rfl (Or.inl ⟨hbt, by decide⟩) g46.1 g46.2 ?_
    refine aw_eqH eh47 ?_
    clear eh47
    refine aw_aload_n hC dX6_line_256 rfl ?_
    refine aw_gc6 (k := 39) (a := 35) (b := 47) hC hbt dX6_line_257 lkRX6_53 (by decide) rfl rfl rfl (by decide) (by decide) ?_
    refine aw_aload_n hC dX6_line_260 rfl ?_
    refine aw_g6i (k := 28) (a := 35) hC dX6_line_261 lkRX6_275 (by decide) rfl rfl rfl (Or.inl ⟨hbt, by decide⟩) ?_
    refine aw_iload_n hC dX6_line_264 rfl ?_
    refine aw_bipush hC dX6_line_265 (by decide) (by decide) ?_
    refine aw_isub hC dX6_line_267 ?_
    obtain ⟨g48, hF⟩ := gd_some hF
    obtain ⟨h49, eh49, hF⟩ := lb_some hF
    refine aw_iastore (a := 47) hC dX6_line_268 rfl rfl (Or.inl ⟨hbt, by decide⟩) g48.1 g48.2 ?_
    refine aw_eqH eh49 ?_
    clear eh49
    refine aw_aload_n hC dX6_line_269 rfl ?_
    refine aw_gc6 (k := 40) (a := 35) (b := 48) hC hbt dX6_line_270 lkRX6_56 (by decide) rfl rfl rfl (by decide) (by decide) ?_
    refine aw_aload_n hC dX6_line_273 rfl ?_
    refine aw_g6i (k := 28) (a := 35) hC dX6_line_274 lkRX6_275 (by decide) rfl rfl rfl (Or.inl ⟨hbt, by decide⟩) ?_
    refine aw_aload_n hC dX6_line_277 rfl ?_
    refine aw_iconst hC dX6_line_278 (by decide) ?_
    refine aw_sipush hC dX6_line_279 (by decide) (by decide) ?_
    obtain ⟨r50, h52, q51, hF⟩ := bd_some hF
    refine clRX6_252 hC hRm hbt dX6_line_282 rfl rfl (by decide) (Nat.le_of_ble_eq_true rfl) (Nat.le_of_ble_eq_true rfl) (ok_X6_number q51) ?_
    obtain ⟨g53, hF⟩ := gd_some hF
    obtain ⟨h54, eh54, hF⟩ := lb_some hF
    refine aw_iastore (a := 48) hC dX6_line_285 rfl rfl (Or.inl ⟨hbt, by decide⟩) g53.1 g53.2 ?_
    refine aw_eqH eh54 ?_
    clear eh54
    refine aw_aload_n hC dX6_line_286 rfl ?_
    obtain ⟨r55, q56, hF⟩ := bp_some hF
    refine clRX6_188 hC hRm hbt dX6_line_287 rfl rfl (by decide) (Nat.le_of_ble_eq_true rfl) (Nat.le_of_ble_eq_true rfl) (ok_X6_isGood q56) ?_
    refine aw_if_ne (tgt := 294) hC dX6_line_290 (by decide) (fun c57 => ?_) (fun c57 => ?_)
    · have hF := it_f hF c57
      refine aw_aload_n hC dX6_line_294 rfl ?_
      refine aw_dup hC dX6_line_295 (by simp) ?_
      refine aw_g6l (k := 35) (a := 35) hC dX6_line_296 lkRX6_272 (by decide) rfl rfl rfl (Or.inl ⟨hbt, by decide⟩) ?_
      refine aw_lconst (v := 1) hC dX6_line_299 (by decide) (by decide) ?_
      refine aw_iload_n hC dX6_line_300 rfl ?_
      refine aw_lshl hC dX6_line_301 ?_
      refine aw_lor hC dX6_line_302 ?_
      obtain ⟨h58, eh58, hF⟩ := lb_some hF
      refine aw_p6l (k := 35) (a := 35) hC dX6_line_303 lkRX6_272 (by decide) rfl rfl rfl rfl rfl (Or.inl ⟨hbt, by decide⟩) (fun _ => by decide) ?_
      refine aw_eqH eh58 ?_
      clear eh58
      refine aw_aload_n hC dX6_line_306 rfl ?_
      refine aw_dup hC dX6_line_307 (by simp) ?_
      refine aw_g6i (k := 28) (a := 35) hC dX6_line_308 lkRX6_275 (by decide) rfl rfl rfl (Or.inl ⟨hbt, by decide⟩) ?_
      refine aw_iconst hC dX6_line_311 (by decide) ?_
      refine aw_iadd hC dX6_line_312 ?_
      obtain ⟨h59, eh59, hF⟩ := lb_some hF
      refine aw_p6i (k := 28) (a := 35) hC dX6_line_313 lkRX6_275 (by decide) rfl rfl rfl rfl rfl (Or.inl ⟨hbt, by decide⟩) (fun _ => by decide) ?_
      refine aw_eqH eh59 ?_
      clear eh59
      refine aw_goto (tgt := 398) hC dX6_line_316 (by decide) ?_
      refine aw_weak (ls' := [(2, ((35 : Nat) : Int)), (9, 0), (9, 0), (9, 0)]) ⟨Or.inr rfl, Or.inl rfl, Or.inl rfl, Or.inl rfl, trivial⟩ ?_
      exact fX6_line_j398_ok hC hZ hRm hbt hr hF hK
    · have hF := it_t hF c57
      exact aw_return hC hZ (Nat.zero_le _) (Nat.zero_le _) hr dX6_line_293 (hK _ _ (Option.some.inj hF).symm)
  · have hF := it_t hF c39
    exact aw_return hC hZ (Nat.zero_le _) (Nat.zero_le _) hr dX6_line_232 (hK _ _ (Option.some.inj hF).symm)
theorem fX6_line_j81_ok {G : GD} {X : CX} {n : Nat} {Q : Av → Nat → Hp → Prop} (hC : Cx G X RX6 cX6_line) (hZ : ZOK X G Q 0 0) (hRm : X.R = rmd 6 0 0) (hbt : X.bt = true) (hr : X.meth.sig.returnType = none)  {h : Hp} {res : Int × Hp} (hF : fX6_line_j81  h = some res) (hK : ∀ (x9 : Int) (h9 : Hp), res = (x9, h9) → Q (8, x9) n h9) : AW G X 81 [(2, ((35 : Nat) : Int)), (9, 0), (9, 0), (9, 0)] [] n h 0 0 := by
  unfold fX6_line_j81 at hF
  refine aw_aload_n hC dX6_line_81 rfl ?_
  obtain ⟨r64, q65, hF⟩ := bp_some hF
  refine clRX6_188 hC hRm hbt dX6_line_82 rfl rfl (by decide) (Nat.le_of_ble_eq_true rfl) (Nat.le_of_ble_eq_true rfl) (ok_X6_isGood q65) ?_
  refine aw_if_ne (tgt := 89) hC dX6_line_85 (by decide) (fun c66 => ?_) (fun c66 => ?_)
  · have hF := it_f hF c66
    refine aw_aload_n hC dX6_line_89 rfl ?_
    obtain ⟨r67, h69, q68, hF⟩ := bd_some hF
    refine clRX6_192 hC hRm hbt dX6_line_90 rfl rfl (by decide) (Nat.le_of_ble_eq_true rfl) (Nat.le_of_ble_eq_true rfl) (ok_X6_goes q68) ?_
    refine aw_aload_n hC dX6_line_93 rfl ?_
    refine aw_aload_n hC dX6_line_94 rfl ?_
    refine aw_g6l (k := 35) (a := 35) hC dX6_line_95 lkRX6_272 (by decide) rfl rfl rfl (Or.inl ⟨hbt, by decide⟩) ?_
    obtain ⟨r70, h72, q71, hF⟩ := bd_some hF
    refine clRX6_265 hC hRm hbt dX6_line_98 rfl rfl (by decide) (Nat.le_of_ble_eq_true rfl) (Nat.le_of_ble_eq_true rfl) (ok_X6_cellNext q71) ?_
    refine aw_istore2 hC dX6_line_101 rfl ?_
    refine aw_aload_n hC dX6_line_102 rfl ?_
    refine aw_gc6 (k := 37) (a := 35) (b := 45) hC hbt dX6_line_103 lkRX6_47 (by decide) rfl rfl rfl (by decide) (by decide) ?_
    refine aw_iconst hC dX6_line_106 (by decide) ?_
    refine aw_aload_n hC dX6_line_107 rfl ?_
    refine aw_g6i (k := 27) (a := 35) hC dX6_line_108 lkRX6_269 (by decide) rfl rfl rfl (Or.inl ⟨hbt, by decide⟩) ?_
    refine aw_imul hC dX6_line_111 ?_
    refine aw_iload_n hC dX6_line_112 rfl ?_
    obtain ⟨g73, hF⟩ := gd_some hF
    obtain ⟨h74, eh74, hF⟩ := lb_some hF
    refine aw_iastore (a := 45) hC dX6_line_113 rfl rfl (Or.inl ⟨hbt, by decide⟩) g73.1 g73.2 ?_
    refine aw_eqH eh74 ?_
    clear eh74
    refine aw_aload_n hC dX6_line_114 rfl ?_
    refine aw_gc6 (k := 37) (a := 35) (b := 45) hC hbt dX6_line_115 lkRX6_47 (by decide) rfl rfl rfl (by decide) (by decide) ?_
    refine aw_iconst hC dX6_line_118 (by decide) ?_
    refine aw_aload_n hC dX6_line_119 rfl ?_
    refine aw_g6i (k := 27) (a := 35) hC dX6_line_120 lkRX6_269 (by decide) rfl rfl rfl (Or.inl ⟨hbt, by decide⟩) ?_
    refine aw_imul hC dX6_line_123 ?_
    refine aw_iconst hC dX6_line_124 (by decide) ?_
    refine aw_iadd hC dX6_line_125 ?_
    refine aw_aload_n hC dX6_line_126 rfl ?_
    refine aw_iconst hC dX6_line_127 (by decide) ?_
    refine aw_bipush hC dX6_line_128 (by decide) (by decide) ?_
    obtain ⟨r75, h77, q76, hF⟩ := bd_some hF
    refine clRX6_252 hC hRm hbt dX6_line_130 rfl rfl (by decide) (Nat.le_of_ble_eq_true rfl) (Nat.le_of_ble_eq_true rfl) (ok_X6_number q76) ?_
    obtain ⟨g78, hF⟩ := gd_some hF
    obtain ⟨h79, eh79, hF⟩ := lb_some hF
    refine aw_iastore (a := 45) hC dX6_line_133 rfl rfl (Or.inl ⟨hbt, by decide⟩) g78.1 g78.2 ?_
    refine aw_eqH eh79 ?_
    clear eh79
    refine aw_aload_n hC dX6_line_134 rfl ?_
    refine aw_gc6 (k := 37) (a := 35) (b := 45) hC hbt dX6_line_135 lkRX6_47 (by decide) rfl rfl rfl (by decide) (by decide) ?_
    refine aw_iconst hC dX6_line_138 (by decide) ?_
    refine aw_aload_n hC dX6_line_139 rfl ?_
    refine aw_g6i (k := 27) (a := 35) hC dX6_line_140 lkRX6_269 (by decide) rfl rfl rfl (Or.inl ⟨hbt, by decide⟩) ?_
    refine aw_imul hC dX6_line_143 ?_
    refine aw_iconst hC dX6_line_144 (by decide) ?_
    refine aw_iadd hC dX6_line_145 ?_
    refine aw_aload_n hC dX6_line_146 rfl ?_
    refine aw_aload_n hC dX6_line_147 rfl ?_
    refine aw_gc6 (k := 37) (a := 35) (b := 45) hC hbt dX6_line_148 lkRX6_47 (by decide) rfl rfl rfl (by decide) (by decide) ?_
    refine aw_iconst hC dX6_line_151 (by decide) ?_
    refine aw_aload_n hC dX6_line_152 rfl ?_
    refine aw_g6i (k := 27) (a := 35) hC dX6_line_153 lkRX6_269 (by decide) rfl rfl rfl (Or.inl ⟨hbt, by decide⟩) ?_
    refine aw_imul hC dX6_line_156 ?_
    refine aw_iconst hC dX6_line_157 (by decide) ?_
    refine aw_iadd hC dX6_line_158 ?_
    obtain ⟨g80, hF⟩ := gd_some hF
    refine aw_iaload (a := 45) hC dX6_line_159 rfl rfl (Or.inl ⟨hbt, by decide⟩) g80.1 g80.2 ?_
    refine aw_bipush hC dX6_line_160 (by decide) (by decide) ?_
    obtain ⟨r81, h83, q82, hF⟩ := bd_some hF
    refine clRX6_252 hC hRm hbt dX6_line_162 rfl rfl (by decide) (Nat.le_of_ble_eq_true rfl) (Nat.le_of_ble_eq_true rfl) (ok_X6_number q82) ?_
    obtain ⟨g84, hF⟩ := gd_some hF
    obtain ⟨h85, eh85, hF⟩ := lb_some hF
    refine aw_iastore (a := 45) hC dX6_line_165 rfl rfl (Or.inl ⟨hbt, by decide⟩) g84.1 g84.2 ?_
    refine aw_eqH eh85 ?_
    clear eh85
    refine aw_aload_n hC dX6_line_166 rfl ?_
    obtain ⟨r86, q87, hF⟩ := bp_some hF
    refine clRX6_188 hC hRm hbt dX6_line_167 rfl rfl (by decide) (Nat.le_of_ble_eq_true rfl) (Nat.le_of_ble_eq_true rfl) (ok_X6_isGood q87) ?_
    refine aw_if_ne (tgt := 174) hC dX6_line_170 (by decide) (fun c88 => ?_) (fun c88 => ?_)
    · have hF := it_f hF c88
      refine aw_aload_n hC dX6_line_174 rfl ?_
      refine aw_dup hC dX6_line_175 (by simp) ?_
      refine aw_g6l (k := 35) (a := 35) hC dX6_line_176 lkRX6_272 (by decide) rfl rfl rfl (Or.inl ⟨hbt, by decide⟩) ?_
      refine aw_lconst (v := 1) hC dX6_line_179 (by decide) (by decide) ?_
      refine aw_iload_n hC dX6_line_180 rfl ?_
      refine aw_lshl hC dX6_line_181 ?_
      refine aw_lor hC dX6_line_182 ?_
      obtain ⟨h89, eh89, hF⟩ := lb_some hF
      refine aw_p6l (k := 35) (a := 35) hC dX6_line_183 lkRX6_272 (by decide) rfl rfl rfl rfl rfl (Or.inl ⟨hbt, by decide⟩) (fun _ => by decide) ?_
      refine aw_eqH eh89 ?_
      clear eh89
      refine aw_aload_n hC dX6_line_186 rfl ?_
      refine aw_dup hC dX6_line_187 (by simp) ?_
      refine aw_g6i (k := 27) (a := 35) hC dX6_line_188 lkRX6_269 (by decide) rfl rfl rfl (Or.inl ⟨hbt, by decide⟩) ?_
      refine aw_iconst hC dX6_line_191 (by decide) ?_
      refine aw_iadd hC dX6_line_192 ?_
      obtain ⟨h90, eh90, hF⟩ := lb_some hF
      refine aw_p6i (k := 27) (a := 35) hC dX6_line_193 lkRX6_269 (by decide) rfl rfl rfl rfl rfl (Or.inl ⟨hbt, by decide⟩) (fun _ => by decide) ?_
      refine aw_eqH eh90 ?_
      clear eh90
      refine aw_goto (tgt := 398) hC dX6_line_196 (by decide) ?_
      refine aw_weak (ls' := [(2, ((35 : Nat) : Int)), (9, 0), (9, 0), (9, 0)]) ⟨Or.inr rfl, Or.inl rfl, Or.inl rfl, Or.inl rfl, trivial⟩ ?_
      exact fX6_line_j398_ok hC hZ hRm hbt hr hF hK
    · have hF := it_t hF c88
      exact aw_return hC hZ (Nat.zero_le _) (Nat.zero_le _) hr dX6_line_173 (hK _ _ (Option.some.inj hF).symm)
  · have hF := it_t hF c66
    exact aw_return hC hZ (Nat.zero_le _) (Nat.zero_le _) hr dX6_line_88 (hK _ _ (Option.some.inj hF).symm)
theorem ok_X6_line {G : GD} {n : Nat}  {h : Hp} {res : Int × Hp} (hF : fX6_line  h = some res) : Con G yX6_line cX6_line 4 none 6 0 0 true [(2, ((35 : Nat) : Int))] n h (FQ 8 n res) := by
  refine con_of (pad := 3) (own := RX6) (plainFor_of_name (by decide)) rfl rfl ?_
  intro X hC hbt hr hnm hZ hRm hn0
  have hK : ∀ (x9 : Int) (h9 : Hp), res = (x9, h9) → FQ 8 n res (8, x9) n h9 := fun x9 h9 e => by subst e; exact ⟨rfl, rfl, rfl⟩
  unfold fX6_line at hF
  show AW G X 0 [(2, ((35 : Nat) : Int)), (9, 0), (9, 0), (9, 0)] [] n h 0 0
  refine aw_aload_n hC dX6_line_0 rfl ?_
  obtain ⟨r1, q2, hF⟩ := bp_some hF
  refine clRX6_217 hC hRm hbt dX6_line_1 rfl rfl (by decide) (Nat.le_of_ble_eq_true rfl) (Nat.le_of_ble_eq_true rfl) (ok_X6_knownWord q2) ?_
  refine aw_istore1 hC dX6_line_4 rfl ?_
  refine aw_iload_n hC dX6_line_5 rfl ?_
  refine aw_iconst hC dX6_line_6 (by decide) ?_
  refine aw_icmp_ne (tgt := 61) hC dX6_line_7 (by decide) (fun c3 => ?_) (fun c3 => ?_)
  · have hF := it_f hF c3
    refine aw_iload_n hC dX6_line_61 rfl ?_
    refine aw_bipush hC dX6_line_62 (by decide) (by decide) ?_
    refine aw_icmp_ne (tgt := 199) hC dX6_line_64 (by decide) (fun c4 => ?_) (fun c4 => ?_)
    · have hF := it_f hF c4
      refine aw_iload_n hC dX6_line_199 rfl ?_
      refine aw_bipush hC dX6_line_200 (by decide) (by decide) ?_
      refine aw_icmp_lt (tgt := 319) hC dX6_line_202 (by decide) (fun c5 => ?_) (fun c5 => ?_)
      · have hF := it_t hF c5
        exact fX6_line_j319_ok hC hZ hRm hbt hr hF hK
      · have hF := it_f hF c5
        refine aw_iload_n hC dX6_line_205 rfl ?_
        refine aw_bipush hC dX6_line_206 (by decide) (by decide) ?_
        refine aw_icmp_gt (tgt := 319) hC dX6_line_208 (by decide) (fun c35 => ?_) (fun c35 => ?_)
        · have hF := it_t hF c35
          exact fX6_line_j319_ok hC hZ hRm hbt hr hF hK
        · have hF := it_f hF c35
          refine aw_aload_n hC dX6_line_211 rfl ?_
          refine aw_g6i (k := 28) (a := 35) hC dX6_line_212 lkRX6_275 (by decide) rfl rfl rfl (Or.inl ⟨hbt, by decide⟩) ?_
          refine aw_bipush hC dX6_line_215 (by decide) (by decide) ?_
          refine aw_icmp_ne (tgt := 225) hC dX6_line_217 (by decide) (fun c36 => ?_) (fun c36 => ?_)
          · have hF := it_f hF c36
            exact fX6_line_j225_ok hC hZ hRm hbt hr hF hK
          · have hF := it_t hF c36
            refine aw_aload_n hC dX6_line_220 rfl ?_
            refine aw_iconst hC dX6_line_221 (by decide) ?_
            obtain ⟨r60, h62, q61, hF⟩ := bd_some hF
            refine clRX6_195 hC hRm hbt dX6_line_222 rfl rfl (by decide) (Nat.le_of_ble_eq_true rfl) (Nat.le_of_ble_eq_true rfl) (ok_X6_wrong q61) ?_
            exact fX6_line_j225_ok hC hZ hRm hbt hr hF hK
    · have hF := it_t hF c4
      refine aw_aload_n hC dX6_line_67 rfl ?_
      refine aw_g6i (k := 27) (a := 35) hC dX6_line_68 lkRX6_269 (by decide) rfl rfl rfl (Or.inl ⟨hbt, by decide⟩) ?_
      refine aw_bipush hC dX6_line_71 (by decide) (by decide) ?_
      refine aw_icmp_ne (tgt := 81) hC dX6_line_73 (by decide) (fun c63 => ?_) (fun c63 => ?_)
      · have hF := it_f hF c63
        refine aw_weak (ls' := [(2, ((35 : Nat) : Int)), (9, 0), (9, 0), (9, 0)]) ⟨Or.inr rfl, Or.inl rfl, Or.inl rfl, Or.inl rfl, trivial⟩ ?_
        exact fX6_line_j81_ok hC hZ hRm hbt hr hF hK
      · have hF := it_t hF c63
        refine aw_aload_n hC dX6_line_76 rfl ?_
        refine aw_iconst hC dX6_line_77 (by decide) ?_
        obtain ⟨r91, h93, q92, hF⟩ := bd_some hF
        refine clRX6_195 hC hRm hbt dX6_line_78 rfl rfl (by decide) (Nat.le_of_ble_eq_true rfl) (Nat.le_of_ble_eq_true rfl) (ok_X6_wrong q92) ?_
        refine aw_weak (ls' := [(2, ((35 : Nat) : Int)), (9, 0), (9, 0), (9, 0)]) ⟨Or.inr rfl, Or.inl rfl, Or.inl rfl, Or.inl rfl, trivial⟩ ?_
        exact fX6_line_j81_ok hC hZ hRm hbt hr hF hK
  · have hF := it_t hF c3
    refine aw_aload_n hC dX6_line_10 rfl ?_
    obtain ⟨r94, h96, q95, hF⟩ := bd_some hF
    refine clRX6_192 hC hRm hbt dX6_line_11 rfl rfl (by decide) (Nat.le_of_ble_eq_true rfl) (Nat.le_of_ble_eq_true rfl) (ok_X6_goes q95) ?_
    refine aw_aload_n hC dX6_line_14 rfl ?_
    refine aw_aload_n hC dX6_line_15 rfl ?_
    refine aw_g6l (k := 34) (a := 35) hC dX6_line_16 lkRX6_262 (by decide) rfl rfl rfl (Or.inl ⟨hbt, by decide⟩) ?_
    obtain ⟨r97, h99, q98, hF⟩ := bd_some hF
    refine clRX6_265 hC hRm hbt dX6_line_19 rfl rfl (by decide) (Nat.le_of_ble_eq_true rfl) (Nat.le_of_ble_eq_true rfl) (ok_X6_cellNext q98) ?_
    refine aw_istore2 hC dX6_line_22 rfl ?_
    refine aw_aload_n hC dX6_line_23 rfl ?_
    refine aw_iconst hC dX6_line_24 (by decide) ?_
    refine aw_bipush hC dX6_line_25 (by decide) (by decide) ?_
    obtain ⟨r100, h102, q101, hF⟩ := bd_some hF
    refine clRX6_252 hC hRm hbt dX6_line_27 rfl rfl (by decide) (Nat.le_of_ble_eq_true rfl) (Nat.le_of_ble_eq_true rfl) (ok_X6_number q101) ?_
    refine aw_istore3 hC dX6_line_30 rfl ?_
    refine aw_aload_n hC dX6_line_31 rfl ?_
    obtain ⟨r103, q104, hF⟩ := bp_some hF
    refine clRX6_188 hC hRm hbt dX6_line_32 rfl rfl (by decide) (Nat.le_of_ble_eq_true rfl) (Nat.le_of_ble_eq_true rfl) (ok_X6_isGood q104) ?_
    refine aw_if_ne (tgt := 39) hC dX6_line_35 (by decide) (fun c105 => ?_) (fun c105 => ?_)
    · have hF := it_f hF c105
      refine aw_aload_n hC dX6_line_39 rfl ?_
      refine aw_dup hC dX6_line_40 (by simp) ?_
      refine aw_g6l (k := 34) (a := 35) hC dX6_line_41 lkRX6_262 (by decide) rfl rfl rfl (Or.inl ⟨hbt, by decide⟩) ?_
      refine aw_lconst (v := 1) hC dX6_line_44 (by decide) (by decide) ?_
      refine aw_iload_n hC dX6_line_45 rfl ?_
      refine aw_lshl hC dX6_line_46 ?_
      refine aw_lor hC dX6_line_47 ?_
      obtain ⟨h106, eh106, hF⟩ := lb_some hF
      refine aw_p6l (k := 34) (a := 35) hC dX6_line_48 lkRX6_262 (by decide) rfl rfl rfl rfl rfl (Or.inl ⟨hbt, by decide⟩) (fun _ => by decide) ?_
      refine aw_eqH eh106 ?_
      clear eh106
      refine aw_aload_n hC dX6_line_51 rfl ?_
      refine aw_gc6 (k := 36) (a := 35) (b := 44) hC hbt dX6_line_52 lkRX6_44 (by decide) rfl rfl rfl (by decide) (by decide) ?_
      refine aw_iload_n hC dX6_line_55 rfl ?_
      refine aw_iload_n hC dX6_line_56 rfl ?_
      obtain ⟨g107, hF⟩ := gd_some hF
      obtain ⟨h108, eh108, hF⟩ := lb_some hF
      refine aw_iastore (a := 44) hC dX6_line_57 rfl rfl (Or.inl ⟨hbt, by decide⟩) g107.1 g107.2 ?_
      refine aw_eqH eh108 ?_
      clear eh108
      refine aw_goto (tgt := 398) hC dX6_line_58 (by decide) ?_
      refine aw_weak (ls' := [(2, ((35 : Nat) : Int)), (9, 0), (9, 0), (9, 0)]) ⟨Or.inr rfl, Or.inl rfl, Or.inl rfl, Or.inl rfl, trivial⟩ ?_
      exact fX6_line_j398_ok hC hZ hRm hbt hr hF hK
    · have hF := it_t hF c105
      exact aw_return hC hZ (Nat.zero_le _) (Nat.zero_le _) hr dX6_line_38 (hK _ _ (Option.some.inj hF).symm)
def fX6_copies_44_36_l2 (x3 : Int) (h : Hp) : Option ((Int × Hp) ⊕ (Hp)) :=
  (if ((64 : Nat) : Int) ≤ x3 then some (.inr h) else gd_ (0 ≤ x3 ∧ x3 < 64) (gd_ (0 ≤ x3 ∧ x3 < 64) (lb_ (st h 36 (Int.toNat x3) ((h 44 (Int.toNat x3)))) (fun h4 => some (.inl ((i_add x3 1), h4))))))
def fX6_copies_44_36  (h : Hp) : Option (Int × Hp) :=
  bp_ (it_ (fun s => fX6_copies_44_36_l2 s.1 s.2) FU (0, h)) (fun e6 => (fun h7 => some (0, h7)) e6)
theorem fX6_copies_44_36_l2_ok {G : GD} {X : CX} {n : Nat} {Q : Av → Nat → Hp → Prop} (hC : Cx G X RX6 cX6_copies) (hZ : ZOK X G Q 0 0) (hRm : X.R = rmd 0 0 0) (hbt : X.bt = true) (hr : X.meth.sig.returnType = none)  : ∀ (f : Nat) (x3 : Int) (h : Hp) (r : Hp), it_ (fun s => fX6_copies_44_36_l2 s.1 s.2) f (x3, h) = some r → (∀ (h9 : Hp), r = h9 → AW G X 20 [(9, 0), (9, 0), (9, 0), (9, 0)] [] n h9 0 0) → AW G X 2 [(9, 0), (2, ((44 : Nat) : Int)), (2, ((36 : Nat) : Int)), (0, x3)] [] n h 0 0 := by
  intro f
  induction f with
  | zero => intro x3 h r hI; cases hI
  | succ f ih0 =>
    intro x3 h r hI hX
    obtain ⟨b, hF, hb1, hb2⟩ := it_succ hI
    have hF : fX6_copies_44_36_l2 x3 h = some b := hF
    unfold fX6_copies_44_36_l2 at hF
    refine aw_iload_n hC dX6_copies_2 rfl ?_
    refine aw_aload_n hC dX6_copies_3 rfl ?_
    refine aw_alen (a := 44) hC dX6_copies_4 rfl rfl (by decide) (by decide) (Or.inl ⟨hbt, by decide⟩) ?_
    refine aw_icmp_ge (tgt := 20) hC dX6_copies_5 (by decide) (fun c1 => ?_) (fun c1 => ?_)
    · have hF := it_t hF c1
      refine aw_weak (ls' := [(9, 0), (9, 0), (9, 0), (9, 0)]) ⟨Or.inl rfl, Or.inl rfl, Or.inl rfl, Or.inl rfl, trivial⟩ ?_
      exact hX _ (hb2 _ (Option.some.inj hF).symm).symm
    · have hF := it_f hF c1
      refine aw_aload_n hC dX6_copies_8 rfl ?_
      refine aw_iload_n hC dX6_copies_9 rfl ?_
      refine aw_aload_n hC dX6_copies_10 rfl ?_
      refine aw_iload_n hC dX6_copies_11 rfl ?_
      obtain ⟨g2, hF⟩ := gd_some hF
      refine aw_iaload (a := 44) hC dX6_copies_12 rfl rfl (Or.inl ⟨hbt, by decide⟩) g2.1 g2.2 ?_
      obtain ⟨g3, hF⟩ := gd_some hF
      obtain ⟨h4, eh4, hF⟩ := lb_some hF
      refine aw_iastore (a := 36) hC dX6_copies_13 rfl rfl (Or.inl ⟨hbt, by decide⟩) g3.1 g3.2 ?_
      refine aw_eqH eh4 ?_
      clear eh4
      refine aw_iinc3 hC dX6_copies_14 rfl ?_
      refine aw_goto (tgt := 2) hC dX6_copies_17 (by decide) ?_
      exact ih0 _ _ r (hb1 _ (Option.some.inj hF).symm) hX
theorem ok_X6_copies_44_36 {G : GD} {n : Nat}  {h : Hp} {res : Int × Hp} (hF : fX6_copies_44_36  h = some res) : Con G yX6_copies cX6_copies 4 none 0 0 0 true [(2, ((35 : Nat) : Int)), (2, ((44 : Nat) : Int)), (2, ((36 : Nat) : Int))] n h (FQ 8 n res) := by
  refine con_of (pad := 1) (own := RX6) (plainFor_of_name (by decide)) rfl rfl ?_
  intro X hC hbt hr hnm hZ hRm hn0
  have hK : ∀ (x9 : Int) (h9 : Hp), res = (x9, h9) → FQ 8 n res (8, x9) n h9 := fun x9 h9 e => by subst e; exact ⟨rfl, rfl, rfl⟩
  unfold fX6_copies_44_36 at hF
  show AW G X 0 [(2, ((35 : Nat) : Int)), (2, ((44 : Nat) : Int)), (2, ((36 : Nat) : Int)), (9, 0)] [] n h 0 0
  refine aw_iconst hC dX6_copies_0 (by decide) ?_
  refine aw_istore3 hC dX6_copies_1 rfl ?_
  refine aw_weak (ls' := [(9, 0), (2, ((44 : Nat) : Int)), (2, ((36 : Nat) : Int)), (0, 0)]) ⟨Or.inl rfl, Or.inr rfl, Or.inr rfl, Or.inr rfl, trivial⟩ ?_
  obtain ⟨e6, he, hF⟩ := bp_some hF
  refine fX6_copies_44_36_l2_ok hC hZ hRm hbt hr FU _ _ e6 he (fun h7 er => ?_)
  replace er := er.symm
  subst er
  try dsimp only at hF
  exact aw_return hC hZ (Nat.zero_le _) (Nat.zero_le _) hr dX6_copies_20 (hK _ _ (Option.some.inj hF).symm)
def fX6_copies_49_39_l2 (x3 : Int) (h : Hp) : Option ((Int × Hp) ⊕ (Hp)) :=
  (if ((8 : Nat) : Int) ≤ x3 then some (.inr h) else gd_ (0 ≤ x3 ∧ x3 < 8) (gd_ (0 ≤ x3 ∧ x3 < 8) (lb_ (st h 39 (Int.toNat x3) ((h 49 (Int.toNat x3)))) (fun h4 => some (.inl ((i_add x3 1), h4))))))
def fX6_copies_49_39  (h : Hp) : Option (Int × Hp) :=
  bp_ (it_ (fun s => fX6_copies_49_39_l2 s.1 s.2) FU (0, h)) (fun e6 => (fun h7 => some (0, h7)) e6)
theorem fX6_copies_49_39_l2_ok {G : GD} {X : CX} {n : Nat} {Q : Av → Nat → Hp → Prop} (hC : Cx G X RX6 cX6_copies) (hZ : ZOK X G Q 0 0) (hRm : X.R = rmd 0 0 0) (hbt : X.bt = true) (hr : X.meth.sig.returnType = none)  : ∀ (f : Nat) (x3 : Int) (h : Hp) (r : Hp), it_ (fun s => fX6_copies_49_39_l2 s.1 s.2) f (x3, h) = some r → (∀ (h9 : Hp), r = h9 → AW G X 20 [(9, 0), (9, 0), (9, 0), (9, 0)] [] n h9 0 0) → AW G X 2 [(9, 0), (2, ((49 : Nat) : Int)), (2, ((39 : Nat) : Int)), (0, x3)] [] n h 0 0 := by
  intro f
  induction f with
  | zero => intro x3 h r hI; cases hI
  | succ f ih0 =>
    intro x3 h r hI hX
    obtain ⟨b, hF, hb1, hb2⟩ := it_succ hI
    have hF : fX6_copies_49_39_l2 x3 h = some b := hF
    unfold fX6_copies_49_39_l2 at hF
    refine aw_iload_n hC dX6_copies_2 rfl ?_
    refine aw_aload_n hC dX6_copies_3 rfl ?_
    refine aw_alen (a := 49) hC dX6_copies_4 rfl rfl (by decide) (by decide) (Or.inl ⟨hbt, by decide⟩) ?_
    refine aw_icmp_ge (tgt := 20) hC dX6_copies_5 (by decide) (fun c1 => ?_) (fun c1 => ?_)
    · have hF := it_t hF c1
      refine aw_weak (ls' := [(9, 0), (9, 0), (9, 0), (9, 0)]) ⟨Or.inl rfl, Or.inl rfl, Or.inl rfl, Or.inl rfl, trivial⟩ ?_
      exact hX _ (hb2 _ (Option.some.inj hF).symm).symm
    · have hF := it_f hF c1
      refine aw_aload_n hC dX6_copies_8 rfl ?_
      refine aw_iload_n hC dX6_copies_9 rfl ?_
      refine aw_aload_n hC dX6_copies_10 rfl ?_
      refine aw_iload_n hC dX6_copies_11 rfl ?_
      obtain ⟨g2, hF⟩ := gd_some hF
      refine aw_iaload (a := 49) hC dX6_copies_12 rfl rfl (Or.inl ⟨hbt, by decide⟩) g2.1 g2.2 ?_
      obtain ⟨g3, hF⟩ := gd_some hF
      obtain ⟨h4, eh4, hF⟩ := lb_some hF
      refine aw_iastore (a := 39) hC dX6_copies_13 rfl rfl (Or.inl ⟨hbt, by decide⟩) g3.1 g3.2 ?_
      refine aw_eqH eh4 ?_
      clear eh4
      refine aw_iinc3 hC dX6_copies_14 rfl ?_
      refine aw_goto (tgt := 2) hC dX6_copies_17 (by decide) ?_
      exact ih0 _ _ r (hb1 _ (Option.some.inj hF).symm) hX
theorem ok_X6_copies_49_39 {G : GD} {n : Nat}  {h : Hp} {res : Int × Hp} (hF : fX6_copies_49_39  h = some res) : Con G yX6_copies cX6_copies 4 none 0 0 0 true [(2, ((35 : Nat) : Int)), (2, ((49 : Nat) : Int)), (2, ((39 : Nat) : Int))] n h (FQ 8 n res) := by
  refine con_of (pad := 1) (own := RX6) (plainFor_of_name (by decide)) rfl rfl ?_
  intro X hC hbt hr hnm hZ hRm hn0
  have hK : ∀ (x9 : Int) (h9 : Hp), res = (x9, h9) → FQ 8 n res (8, x9) n h9 := fun x9 h9 e => by subst e; exact ⟨rfl, rfl, rfl⟩
  unfold fX6_copies_49_39 at hF
  show AW G X 0 [(2, ((35 : Nat) : Int)), (2, ((49 : Nat) : Int)), (2, ((39 : Nat) : Int)), (9, 0)] [] n h 0 0
  refine aw_iconst hC dX6_copies_0 (by decide) ?_
  refine aw_istore3 hC dX6_copies_1 rfl ?_
  refine aw_weak (ls' := [(9, 0), (2, ((49 : Nat) : Int)), (2, ((39 : Nat) : Int)), (0, 0)]) ⟨Or.inl rfl, Or.inr rfl, Or.inr rfl, Or.inr rfl, trivial⟩ ?_
  obtain ⟨e6, he, hF⟩ := bp_some hF
  refine fX6_copies_49_39_l2_ok hC hZ hRm hbt hr FU _ _ e6 he (fun h7 er => ?_)
  replace er := er.symm
  subst er
  try dsimp only at hF
  exact aw_return hC hZ (Nat.zero_le _) (Nat.zero_le _) hr dX6_copies_20 (hK _ _ (Option.some.inj hF).symm)
def fX6_copies_50_40_l2 (x3 : Int) (h : Hp) : Option ((Int × Hp) ⊕ (Hp)) :=
  (if ((4 : Nat) : Int) ≤ x3 then some (.inr h) else gd_ (0 ≤ x3 ∧ x3 < 4) (gd_ (0 ≤ x3 ∧ x3 < 4) (lb_ (st h 40 (Int.toNat x3) ((h 50 (Int.toNat x3)))) (fun h4 => some (.inl ((i_add x3 1), h4))))))
def fX6_copies_50_40  (h : Hp) : Option (Int × Hp) :=
  bp_ (it_ (fun s => fX6_copies_50_40_l2 s.1 s.2) FU (0, h)) (fun e6 => (fun h7 => some (0, h7)) e6)
theorem fX6_copies_50_40_l2_ok {G : GD} {X : CX} {n : Nat} {Q : Av → Nat → Hp → Prop} (hC : Cx G X RX6 cX6_copies) (hZ : ZOK X G Q 0 0) (hRm : X.R = rmd 0 0 0) (hbt : X.bt = true) (hr : X.meth.sig.returnType = none)  : ∀ (f : Nat) (x3 : Int) (h : Hp) (r : Hp), it_ (fun s => fX6_copies_50_40_l2 s.1 s.2) f (x3, h) = some r → (∀ (h9 : Hp), r = h9 → AW G X 20 [(9, 0), (9, 0), (9, 0), (9, 0)] [] n h9 0 0) → AW G X 2 [(9, 0), (2, ((50 : Nat) : Int)), (2, ((40 : Nat) : Int)), (0, x3)] [] n h 0 0 := by
  intro f
  induction f with
  | zero => intro x3 h r hI; cases hI
  | succ f ih0 =>
    intro x3 h r hI hX
    obtain ⟨b, hF, hb1, hb2⟩ := it_succ hI
    have hF : fX6_copies_50_40_l2 x3 h = some b := hF
    unfold fX6_copies_50_40_l2 at hF
    refine aw_iload_n hC dX6_copies_2 rfl ?_
    refine aw_aload_n hC dX6_copies_3 rfl ?_
    refine aw_alen (a := 50) hC dX6_copies_4 rfl rfl (by decide) (by decide) (Or.inl ⟨hbt, by decide⟩) ?_
    refine aw_icmp_ge (tgt := 20) hC dX6_copies_5 (by decide) (fun c1 => ?_) (fun c1 => ?_)
    · have hF := it_t hF c1
      refine aw_weak (ls' := [(9, 0), (9, 0), (9, 0), (9, 0)]) ⟨Or.inl rfl, Or.inl rfl, Or.inl rfl, Or.inl rfl, trivial⟩ ?_
      exact hX _ (hb2 _ (Option.some.inj hF).symm).symm
    · have hF := it_f hF c1
      refine aw_aload_n hC dX6_copies_8 rfl ?_
      refine aw_iload_n hC dX6_copies_9 rfl ?_
      refine aw_aload_n hC dX6_copies_10 rfl ?_
      refine aw_iload_n hC dX6_copies_11 rfl ?_
      obtain ⟨g2, hF⟩ := gd_some hF
      refine aw_iaload (a := 50) hC dX6_copies_12 rfl rfl (Or.inl ⟨hbt, by decide⟩) g2.1 g2.2 ?_
      obtain ⟨g3, hF⟩ := gd_some hF
      obtain ⟨h4, eh4, hF⟩ := lb_some hF
      refine aw_iastore (a := 40) hC dX6_copies_13 rfl rfl (Or.inl ⟨hbt, by decide⟩) g3.1 g3.2 ?_
      refine aw_eqH eh4 ?_
      clear eh4
      refine aw_iinc3 hC dX6_copies_14 rfl ?_
      refine aw_goto (tgt := 2) hC dX6_copies_17 (by decide) ?_
      exact ih0 _ _ r (hb1 _ (Option.some.inj hF).symm) hX
theorem ok_X6_copies_50_40 {G : GD} {n : Nat}  {h : Hp} {res : Int × Hp} (hF : fX6_copies_50_40  h = some res) : Con G yX6_copies cX6_copies 4 none 0 0 0 true [(2, ((35 : Nat) : Int)), (2, ((50 : Nat) : Int)), (2, ((40 : Nat) : Int))] n h (FQ 8 n res) := by
  refine con_of (pad := 1) (own := RX6) (plainFor_of_name (by decide)) rfl rfl ?_
  intro X hC hbt hr hnm hZ hRm hn0
  have hK : ∀ (x9 : Int) (h9 : Hp), res = (x9, h9) → FQ 8 n res (8, x9) n h9 := fun x9 h9 e => by subst e; exact ⟨rfl, rfl, rfl⟩
  unfold fX6_copies_50_40 at hF
  show AW G X 0 [(2, ((35 : Nat) : Int)), (2, ((50 : Nat) : Int)), (2, ((40 : Nat) : Int)), (9, 0)] [] n h 0 0
  refine aw_iconst hC dX6_copies_0 (by decide) ?_
  refine aw_istore3 hC dX6_copies_1 rfl ?_
  refine aw_weak (ls' := [(9, 0), (2, ((50 : Nat) : Int)), (2, ((40 : Nat) : Int)), (0, 0)]) ⟨Or.inl rfl, Or.inr rfl, Or.inr rfl, Or.inr rfl, trivial⟩ ?_
  obtain ⟨e6, he, hF⟩ := bp_some hF
  refine fX6_copies_50_40_l2_ok hC hZ hRm hbt hr FU _ _ e6 he (fun h7 er => ?_)
  replace er := er.symm
  subst er
  try dsimp only at hF
  exact aw_return hC hZ (Nat.zero_le _) (Nat.zero_le _) hr dX6_copies_20 (hK _ _ (Option.some.inj hF).symm)
def fX6_copies_51_41_l2 (x3 : Int) (h : Hp) : Option ((Int × Hp) ⊕ (Hp)) :=
  (if ((2800 : Nat) : Int) ≤ x3 then some (.inr h) else gd_ (0 ≤ x3 ∧ x3 < 2800) (gd_ (0 ≤ x3 ∧ x3 < 2800) (lb_ (st h 41 (Int.toNat x3) ((h 51 (Int.toNat x3)))) (fun h4 => some (.inl ((i_add x3 1), h4))))))
def fX6_copies_51_41  (h : Hp) : Option (Int × Hp) :=
  bp_ (it_ (fun s => fX6_copies_51_41_l2 s.1 s.2) FU (0, h)) (fun e6 => (fun h7 => some (0, h7)) e6)
theorem fX6_copies_51_41_l2_ok {G : GD} {X : CX} {n : Nat} {Q : Av → Nat → Hp → Prop} (hC : Cx G X RX6 cX6_copies) (hZ : ZOK X G Q 0 0) (hRm : X.R = rmd 0 0 0) (hbt : X.bt = true) (hr : X.meth.sig.returnType = none)  : ∀ (f : Nat) (x3 : Int) (h : Hp) (r : Hp), it_ (fun s => fX6_copies_51_41_l2 s.1 s.2) f (x3, h) = some r → (∀ (h9 : Hp), r = h9 → AW G X 20 [(9, 0), (9, 0), (9, 0), (9, 0)] [] n h9 0 0) → AW G X 2 [(9, 0), (2, ((51 : Nat) : Int)), (2, ((41 : Nat) : Int)), (0, x3)] [] n h 0 0 := by
  intro f
  induction f with
  | zero => intro x3 h r hI; cases hI
  | succ f ih0 =>
    intro x3 h r hI hX
    obtain ⟨b, hF, hb1, hb2⟩ := it_succ hI
    have hF : fX6_copies_51_41_l2 x3 h = some b := hF
    unfold fX6_copies_51_41_l2 at hF
    refine aw_iload_n hC dX6_copies_2 rfl ?_
    refine aw_aload_n hC dX6_copies_3 rfl ?_
    refine aw_alen (a := 51) hC dX6_copies_4 rfl rfl (by decide) (by decide) (Or.inl ⟨hbt, by decide⟩) ?_
    refine aw_icmp_ge (tgt := 20) hC dX6_copies_5 (by decide) (fun c1 => ?_) (fun c1 => ?_)
    · have hF := it_t hF c1
      refine aw_weak (ls' := [(9, 0), (9, 0), (9, 0), (9, 0)]) ⟨Or.inl rfl, Or.inl rfl, Or.inl rfl, Or.inl rfl, trivial⟩ ?_
      exact hX _ (hb2 _ (Option.some.inj hF).symm).symm
    · have hF := it_f hF c1
      refine aw_aload_n hC dX6_copies_8 rfl ?_
      refine aw_iload_n hC dX6_copies_9 rfl ?_
      refine aw_aload_n hC dX6_copies_10 rfl ?_
      refine aw_iload_n hC dX6_copies_11 rfl ?_
      obtain ⟨g2, hF⟩ := gd_some hF
      refine aw_iaload (a := 51) hC dX6_copies_12 rfl rfl (Or.inl ⟨hbt, by decide⟩) g2.1 g2.2 ?_
      obtain ⟨g3, hF⟩ := gd_some hF
      obtain ⟨h4, eh4, hF⟩ := lb_some hF
      refine aw_iastore (a := 41) hC dX6_copies_13 rfl rfl (Or.inl ⟨hbt, by decide⟩) g3.1 g3.2 ?_
      refine aw_eqH eh4 ?_
      clear eh4
      refine aw_iinc3 hC dX6_copies_14 rfl ?_
      refine aw_goto (tgt := 2) hC dX6_copies_17 (by decide) ?_
      exact ih0 _ _ r (hb1 _ (Option.some.inj hF).symm) hX
theorem ok_X6_copies_51_41 {G : GD} {n : Nat}  {h : Hp} {res : Int × Hp} (hF : fX6_copies_51_41  h = some res) : Con G yX6_copies cX6_copies 4 none 0 0 0 true [(2, ((35 : Nat) : Int)), (2, ((51 : Nat) : Int)), (2, ((41 : Nat) : Int))] n h (FQ 8 n res) := by
  refine con_of (pad := 1) (own := RX6) (plainFor_of_name (by decide)) rfl rfl ?_
  intro X hC hbt hr hnm hZ hRm hn0
  have hK : ∀ (x9 : Int) (h9 : Hp), res = (x9, h9) → FQ 8 n res (8, x9) n h9 := fun x9 h9 e => by subst e; exact ⟨rfl, rfl, rfl⟩
  unfold fX6_copies_51_41 at hF
  show AW G X 0 [(2, ((35 : Nat) : Int)), (2, ((51 : Nat) : Int)), (2, ((41 : Nat) : Int)), (9, 0)] [] n h 0 0
  refine aw_iconst hC dX6_copies_0 (by decide) ?_
  refine aw_istore3 hC dX6_copies_1 rfl ?_
  refine aw_weak (ls' := [(9, 0), (2, ((51 : Nat) : Int)), (2, ((41 : Nat) : Int)), (0, 0)]) ⟨Or.inl rfl, Or.inr rfl, Or.inr rfl, Or.inr rfl, trivial⟩ ?_
  obtain ⟨e6, he, hF⟩ := bp_some hF
  refine fX6_copies_51_41_l2_ok hC hZ hRm hbt hr FU _ _ e6 he (fun h7 er => ?_)
  replace er := er.symm
  subst er
  try dsimp only at hF
  exact aw_return hC hZ (Nat.zero_le _) (Nat.zero_le _) hr dX6_copies_20 (hK _ _ (Option.some.inj hF).symm)
