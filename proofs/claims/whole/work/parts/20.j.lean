def fJ9_min_7cf53 (x0 : Int) (x1 : Int) (h : Hp) : Option (Int) :=
  (if x1 < x0 then some x1 else some x0)
theorem ok_J9_min_7cf53 {G : GD} {n : Nat} {x0 : Int} {x1 : Int} {h : Hp} {res : Int} (hF : fJ9_min_7cf53 x0 x1 h = some res) : Con G yJ9_min_7cf53 cJ9_min_7cf53 2 (some .int) 0 0 0 true [(0, x0), (0, x1)] n h (FQ 0 n (res, h)) := by
  refine con_of (pad := 0) (own := RJ9) (by decide +kernel) rfl rfl ?_
  intro X hC hbt hr hnm hZ hRm hn0
  have hK : ∀ (x9 : Int), res = x9 → FQ 0 n (res, h) (0, x9) n h := fun x9 e => by subst e; exact ⟨rfl, rfl, rfl⟩
  unfold fJ9_min_7cf53 at hF
  show AW G X 0 [(0, x0), (0, x1)] [] n h 0 0
  refine aw_iload_n hC dJ9_min_7cf53_0 rfl ?_
  refine aw_iload_n hC dJ9_min_7cf53_1 rfl ?_
  refine aw_icmp_gt (tgt := 9) hC dJ9_min_7cf53_2 (by decide) (fun c1 => ?_) (fun c1 => ?_)
  · have hF := it_t hF c1
    refine aw_iload_n hC dJ9_min_7cf53_9 rfl ?_
    exact aw_ireturn hC hZ (Nat.zero_le _) (Nat.zero_le _) hr dJ9_min_7cf53_10 (hK _ (Option.some.inj hF).symm)
  · have hF := it_f hF c1
    refine aw_iload_n hC dJ9_min_7cf53_5 rfl ?_
    refine aw_goto (tgt := 10) hC dJ9_min_7cf53_6 (by decide) ?_
    exact aw_ireturn hC hZ (Nat.zero_le _) (Nat.zero_le _) hr dJ9_min_7cf53_10 (hK _ (Option.some.inj hF).symm)
def fJ9_max_7cf53 (x0 : Int) (x1 : Int) (h : Hp) : Option (Int) :=
  (if x0 < x1 then some x1 else some x0)
theorem ok_J9_max_7cf53 {G : GD} {n : Nat} {x0 : Int} {x1 : Int} {h : Hp} {res : Int} (hF : fJ9_max_7cf53 x0 x1 h = some res) : Con G yJ9_max_7cf53 cJ9_max_7cf53 2 (some .int) 0 0 0 true [(0, x0), (0, x1)] n h (FQ 0 n (res, h)) := by
  refine con_of (pad := 0) (own := RJ9) (by decide +kernel) rfl rfl ?_
  intro X hC hbt hr hnm hZ hRm hn0
  have hK : ∀ (x9 : Int), res = x9 → FQ 0 n (res, h) (0, x9) n h := fun x9 e => by subst e; exact ⟨rfl, rfl, rfl⟩
  unfold fJ9_max_7cf53 at hF
  show AW G X 0 [(0, x0), (0, x1)] [] n h 0 0
  refine aw_iload_n hC dJ9_max_7cf53_0 rfl ?_
  refine aw_iload_n hC dJ9_max_7cf53_1 rfl ?_
  refine aw_icmp_lt (tgt := 9) hC dJ9_max_7cf53_2 (by decide) (fun c1 => ?_) (fun c1 => ?_)
  · have hF := it_t hF c1
    refine aw_iload_n hC dJ9_max_7cf53_9 rfl ?_
    exact aw_ireturn hC hZ (Nat.zero_le _) (Nat.zero_le _) hr dJ9_max_7cf53_10 (hK _ (Option.some.inj hF).symm)
  · have hF := it_f hF c1
    refine aw_iload_n hC dJ9_max_7cf53_5 rfl ?_
    refine aw_goto (tgt := 10) hC dJ9_max_7cf53_6 (by decide) ?_
    exact aw_ireturn hC hZ (Nat.zero_le _) (Nat.zero_le _) hr dJ9_max_7cf53_10 (hK _ (Option.some.inj hF).symm)
def fJ6_bitCount_0f7a4 (x0 : Int) (h : Hp) : Option (Int) :=
  lb_ ((i_sub x0 ((i_and ((i_ushr x0 1)) 1431655765)))) (fun v1 => lb_ ((i_add ((i_and v1 858993459)) ((i_and ((i_ushr v1 2)) 858993459)))) (fun v2 => lb_ ((i_and ((i_add v2 ((i_ushr v2 4)))) 252645135)) (fun v3 => lb_ ((i_add v3 ((i_ushr v3 8)))) (fun v4 => lb_ ((i_add v4 ((i_ushr v4 16)))) (fun v5 => some ((i_and v5 63)))))))
theorem ok_J6_bitCount_0f7a4 {G : GD} {n : Nat} {x0 : Int} {h : Hp} {res : Int} (hF : fJ6_bitCount_0f7a4 x0 h = some res) : Con G yJ6_bitCount_0f7a4 cJ6_bitCount_0f7a4 1 (some .int) 0 0 0 true [(0, x0)] n h (FQ 0 n (res, h)) := by
  refine con_of (pad := 0) (own := RJ6) (by decide +kernel) rfl rfl ?_
  intro X hC hbt hr hnm hZ hRm hn0
  have hK : ∀ (x9 : Int), res = x9 → FQ 0 n (res, h) (0, x9) n h := fun x9 e => by subst e; exact ⟨rfl, rfl, rfl⟩
  unfold fJ6_bitCount_0f7a4 at hF
  show AW G X 0 [(0, x0)] [] n h 0 0
  refine aw_iload_n hC dJ6_bitCount_0f7a4_0 rfl ?_
  refine aw_iload_n hC dJ6_bitCount_0f7a4_1 rfl ?_
  refine aw_iconst hC dJ6_bitCount_0f7a4_2 (by decide) ?_
  refine aw_iushr hC dJ6_bitCount_0f7a4_3 ?_
  refine aw_ldcw (v := 1431655765) hC dJ6_bitCount_0f7a4_4 (by decide) kcRJ6_265 ?_
  refine aw_iand hC dJ6_bitCount_0f7a4_7 ?_
  refine aw_isub hC dJ6_bitCount_0f7a4_8 ?_
  obtain ⟨v1, ev1, hF⟩ := lb_some hF
  refine aw_eqT ev1 ?_
  clear ev1
  refine aw_istore0 hC dJ6_bitCount_0f7a4_9 rfl ?_
  refine aw_iload_n hC dJ6_bitCount_0f7a4_10 rfl ?_
  refine aw_ldcw (v := 858993459) hC dJ6_bitCount_0f7a4_11 (by decide) kcRJ6_266 ?_
  refine aw_iand hC dJ6_bitCount_0f7a4_14 ?_
  refine aw_iload_n hC dJ6_bitCount_0f7a4_15 rfl ?_
  refine aw_iconst hC dJ6_bitCount_0f7a4_16 (by decide) ?_
  refine aw_iushr hC dJ6_bitCount_0f7a4_17 ?_
  refine aw_ldcw (v := 858993459) hC dJ6_bitCount_0f7a4_18 (by decide) kcRJ6_266 ?_
  refine aw_iand hC dJ6_bitCount_0f7a4_21 ?_
  refine aw_iadd hC dJ6_bitCount_0f7a4_22 ?_
  obtain ⟨v2, ev2, hF⟩ := lb_some hF
  refine aw_eqT ev2 ?_
  clear ev2
  refine aw_istore0 hC dJ6_bitCount_0f7a4_23 rfl ?_
  refine aw_iload_n hC dJ6_bitCount_0f7a4_24 rfl ?_
  refine aw_iload_n hC dJ6_bitCount_0f7a4_25 rfl ?_
  refine aw_iconst hC dJ6_bitCount_0f7a4_26 (by decide) ?_
  refine aw_iushr hC dJ6_bitCount_0f7a4_27 ?_
  refine aw_iadd hC dJ6_bitCount_0f7a4_28 ?_
  refine aw_ldcw (v := 252645135) hC dJ6_bitCount_0f7a4_29 (by decide) kcRJ6_267 ?_
  refine aw_iand hC dJ6_bitCount_0f7a4_32 ?_
  obtain ⟨v3, ev3, hF⟩ := lb_some hF
  refine aw_eqT ev3 ?_
  clear ev3
  refine aw_istore0 hC dJ6_bitCount_0f7a4_33 rfl ?_
  refine aw_iload_n hC dJ6_bitCount_0f7a4_34 rfl ?_
  refine aw_iload_n hC dJ6_bitCount_0f7a4_35 rfl ?_
  refine aw_bipush hC dJ6_bitCount_0f7a4_36 (by decide) (by decide) ?_
  refine aw_iushr hC dJ6_bitCount_0f7a4_38 ?_
  refine aw_iadd hC dJ6_bitCount_0f7a4_39 ?_
  obtain ⟨v4, ev4, hF⟩ := lb_some hF
  refine aw_eqT ev4 ?_
  clear ev4
  refine aw_istore0 hC dJ6_bitCount_0f7a4_40 rfl ?_
  refine aw_iload_n hC dJ6_bitCount_0f7a4_41 rfl ?_
  refine aw_iload_n hC dJ6_bitCount_0f7a4_42 rfl ?_
  refine aw_bipush hC dJ6_bitCount_0f7a4_43 (by decide) (by decide) ?_
  refine aw_iushr hC dJ6_bitCount_0f7a4_45 ?_
  refine aw_iadd hC dJ6_bitCount_0f7a4_46 ?_
  obtain ⟨v5, ev5, hF⟩ := lb_some hF
  refine aw_eqT ev5 ?_
  clear ev5
  refine aw_istore0 hC dJ6_bitCount_0f7a4_47 rfl ?_
  refine aw_iload_n hC dJ6_bitCount_0f7a4_48 rfl ?_
  refine aw_bipush hC dJ6_bitCount_0f7a4_49 (by decide) (by decide) ?_
  refine aw_iand hC dJ6_bitCount_0f7a4_51 ?_
  exact aw_ireturn hC hZ (Nat.zero_le _) (Nat.zero_le _) hr dJ6_bitCount_0f7a4_52 (hK _ (Option.some.inj hF).symm)
def fJ9_abs_0f7a4 (x0 : Int) (h : Hp) : Option (Int) :=
  (if 0 ≤ x0 then some x0 else some ((i_neg x0)))
theorem ok_J9_abs_0f7a4 {G : GD} {n : Nat} {x0 : Int} {h : Hp} {res : Int} (hF : fJ9_abs_0f7a4 x0 h = some res) : Con G yJ9_abs_0f7a4 cJ9_abs_0f7a4 1 (some .int) 0 0 0 true [(0, x0)] n h (FQ 0 n (res, h)) := by
  refine con_of (pad := 0) (own := RJ9) (by decide +kernel) rfl rfl ?_
  intro X hC hbt hr hnm hZ hRm hn0
  have hK : ∀ (x9 : Int), res = x9 → FQ 0 n (res, h) (0, x9) n h := fun x9 e => by subst e; exact ⟨rfl, rfl, rfl⟩
  unfold fJ9_abs_0f7a4 at hF
  show AW G X 0 [(0, x0)] [] n h 0 0
  refine aw_iload_n hC dJ9_abs_0f7a4_0 rfl ?_
  refine aw_if_ge (tgt := 9) hC dJ9_abs_0f7a4_1 (by decide) (fun c1 => ?_) (fun c1 => ?_)
  · have hF := it_t hF c1
    refine aw_iload_n hC dJ9_abs_0f7a4_9 rfl ?_
    exact aw_ireturn hC hZ (Nat.zero_le _) (Nat.zero_le _) hr dJ9_abs_0f7a4_10 (hK _ (Option.some.inj hF).symm)
  · have hF := it_f hF c1
    refine aw_iload_n hC dJ9_abs_0f7a4_4 rfl ?_
    refine aw_ineg hC dJ9_abs_0f7a4_5 ?_
    refine aw_goto (tgt := 10) hC dJ9_abs_0f7a4_6 (by decide) ?_
    exact aw_ireturn hC hZ (Nat.zero_le _) (Nat.zero_le _) hr dJ9_abs_0f7a4_10 (hK _ (Option.some.inj hF).symm)
