def fX2_isLetter (x0 : Int) (h : Hp) : Option (Int) :=
  (if x0 < 97 then some 0 else (if 122 < x0 then some 0 else some 1))
theorem ok_X2_isLetter {G : GD} {n : Nat} {x0 : Int} {h : Hp} {res : Int} (hF : fX2_isLetter x0 h = some res) : Con G yX2_isLetter cX2_isLetter 1 (some .boolean) 0 0 0 true [(0, x0)] n h (FQ 0 n (res, h)) := by
  refine con_of (pad := 0) (own := RX2) (plainFor_of_name (by decide)) rfl rfl ?_
  intro X hC hbt hr hnm hZ hRm hn0
  have hK : ∀ (x9 : Int), res = x9 → FQ 0 n (res, h) (0, x9) n h := fun x9 e => by subst e; exact ⟨rfl, rfl, rfl⟩
  unfold fX2_isLetter at hF
  show AW G X 0 [(0, x0)] [] n h 0 0
  refine aw_iload_n hC dX2_isLetter_0 rfl ?_
  refine aw_bipush hC dX2_isLetter_1 (by decide) (by decide) ?_
  refine aw_icmp_lt (tgt := 16) hC dX2_isLetter_3 (by decide) (fun c1 => ?_) (fun c1 => ?_)
  · have hF := it_t hF c1
    refine aw_iconst hC dX2_isLetter_16 (by decide) ?_
    exact aw_zreturn hC hZ (Nat.zero_le _) (Nat.zero_le _) hr rfl dX2_isLetter_17 (by decide) (hK _ (Option.some.inj hF).symm)
  · have hF := it_f hF c1
    refine aw_iload_n hC dX2_isLetter_6 rfl ?_
    refine aw_bipush hC dX2_isLetter_7 (by decide) (by decide) ?_
    refine aw_icmp_gt (tgt := 16) hC dX2_isLetter_9 (by decide) (fun c2 => ?_) (fun c2 => ?_)
    · have hF := it_t hF c2
      refine aw_iconst hC dX2_isLetter_16 (by decide) ?_
      exact aw_zreturn hC hZ (Nat.zero_le _) (Nat.zero_le _) hr rfl dX2_isLetter_17 (by decide) (hK _ (Option.some.inj hF).symm)
    · have hF := it_f hF c2
      refine aw_iconst hC dX2_isLetter_12 (by decide) ?_
      refine aw_goto (tgt := 17) hC dX2_isLetter_13 (by decide) ?_
      exact aw_zreturn hC hZ (Nat.zero_le _) (Nat.zero_le _) hr rfl dX2_isLetter_17 (by decide) (hK _ (Option.some.inj hF).symm)
def fX2_isDigit (x0 : Int) (h : Hp) : Option (Int) :=
  (if x0 < 48 then some 0 else (if 57 < x0 then some 0 else some 1))
theorem ok_X2_isDigit {G : GD} {n : Nat} {x0 : Int} {h : Hp} {res : Int} (hF : fX2_isDigit x0 h = some res) : Con G yX2_isDigit cX2_isDigit 1 (some .boolean) 0 0 0 true [(0, x0)] n h (FQ 0 n (res, h)) := by
  refine con_of (pad := 0) (own := RX2) (plainFor_of_name (by decide)) rfl rfl ?_
  intro X hC hbt hr hnm hZ hRm hn0
  have hK : ∀ (x9 : Int), res = x9 → FQ 0 n (res, h) (0, x9) n h := fun x9 e => by subst e; exact ⟨rfl, rfl, rfl⟩
  unfold fX2_isDigit at hF
  show AW G X 0 [(0, x0)] [] n h 0 0
  refine aw_iload_n hC dX2_isDigit_0 rfl ?_
  refine aw_bipush hC dX2_isDigit_1 (by decide) (by decide) ?_
  refine aw_icmp_lt (tgt := 16) hC dX2_isDigit_3 (by decide) (fun c1 => ?_) (fun c1 => ?_)
  · have hF := it_t hF c1
    refine aw_iconst hC dX2_isDigit_16 (by decide) ?_
    exact aw_zreturn hC hZ (Nat.zero_le _) (Nat.zero_le _) hr rfl dX2_isDigit_17 (by decide) (hK _ (Option.some.inj hF).symm)
  · have hF := it_f hF c1
    refine aw_iload_n hC dX2_isDigit_6 rfl ?_
    refine aw_bipush hC dX2_isDigit_7 (by decide) (by decide) ?_
    refine aw_icmp_gt (tgt := 16) hC dX2_isDigit_9 (by decide) (fun c2 => ?_) (fun c2 => ?_)
    · have hF := it_t hF c2
      refine aw_iconst hC dX2_isDigit_16 (by decide) ?_
      exact aw_zreturn hC hZ (Nat.zero_le _) (Nat.zero_le _) hr rfl dX2_isDigit_17 (by decide) (hK _ (Option.some.inj hF).symm)
    · have hF := it_f hF c2
      refine aw_iconst hC dX2_isDigit_12 (by decide) ?_
      refine aw_goto (tgt := 17) hC dX2_isDigit_13 (by decide) ?_
      exact aw_zreturn hC hZ (Nat.zero_le _) (Nat.zero_le _) hr rfl dX2_isDigit_17 (by decide) (hK _ (Option.some.inj hF).symm)
def fX2_isSign (x0 : Int) (h : Hp) : Option (Int) :=
  (if x0 = 59 then some 1 else (if x0 = 40 then some 1 else (if x0 = 41 then some 1 else (if x0 = 43 then some 1 else (if x0 = 45 then some 1 else (if x0 = 42 then some 1 else (if x0 = 47 then some 1 else (if x0 = 60 then some 1 else (if x0 = 61 then some 1 else some 0)))))))))
theorem ok_X2_isSign {G : GD} {n : Nat} {x0 : Int} {h : Hp} {res : Int} (hF : fX2_isSign x0 h = some res) : Con G yX2_isSign cX2_isSign 1 (some .boolean) 0 0 0 true [(0, x0)] n h (FQ 0 n (res, h)) := by
  refine con_of (pad := 0) (own := RX2) (plainFor_of_name (by decide)) rfl rfl ?_
  intro X hC hbt hr hnm hZ hRm hn0
  have hK : ∀ (x9 : Int), res = x9 → FQ 0 n (res, h) (0, x9) n h := fun x9 e => by subst e; exact ⟨rfl, rfl, rfl⟩
  unfold fX2_isSign at hF
  show AW G X 0 [(0, x0)] [] n h 0 0
  refine aw_iload_n hC dX2_isSign_0 rfl ?_
  refine aw_bipush hC dX2_isSign_1 (by decide) (by decide) ?_
  refine aw_icmp_eq (tgt := 54) hC dX2_isSign_3 (by decide) (fun c1 => ?_) (fun c1 => ?_)
  · have hF := it_t hF c1
    refine aw_iconst hC dX2_isSign_54 (by decide) ?_
    refine aw_goto (tgt := 59) hC dX2_isSign_55 (by decide) ?_
    exact aw_zreturn hC hZ (Nat.zero_le _) (Nat.zero_le _) hr rfl dX2_isSign_59 (by decide) (hK _ (Option.some.inj hF).symm)
  · have hF := it_f hF c1
    refine aw_iload_n hC dX2_isSign_6 rfl ?_
    refine aw_bipush hC dX2_isSign_7 (by decide) (by decide) ?_
    refine aw_icmp_eq (tgt := 54) hC dX2_isSign_9 (by decide) (fun c2 => ?_) (fun c2 => ?_)
    · have hF := it_t hF c2
      refine aw_iconst hC dX2_isSign_54 (by decide) ?_
      refine aw_goto (tgt := 59) hC dX2_isSign_55 (by decide) ?_
      exact aw_zreturn hC hZ (Nat.zero_le _) (Nat.zero_le _) hr rfl dX2_isSign_59 (by decide) (hK _ (Option.some.inj hF).symm)
    · have hF := it_f hF c2
      refine aw_iload_n hC dX2_isSign_12 rfl ?_
      refine aw_bipush hC dX2_isSign_13 (by decide) (by decide) ?_
      refine aw_icmp_eq (tgt := 54) hC dX2_isSign_15 (by decide) (fun c3 => ?_) (fun c3 => ?_)
      · have hF := it_t hF c3
        refine aw_iconst hC dX2_isSign_54 (by decide) ?_
        refine aw_goto (tgt := 59) hC dX2_isSign_55 (by decide) ?_
        exact aw_zreturn hC hZ (Nat.zero_le _) (Nat.zero_le _) hr rfl dX2_isSign_59 (by decide) (hK _ (Option.some.inj hF).symm)
      · have hF := it_f hF c3
        refine aw_iload_n hC dX2_isSign_18 rfl ?_
        refine aw_bipush hC dX2_isSign_19 (by decide) (by decide) ?_
        refine aw_icmp_eq (tgt := 54) hC dX2_isSign_21 (by decide) (fun c4 => ?_) (fun c4 => ?_)
        · have hF := it_t hF c4
          refine aw_iconst hC dX2_isSign_54 (by decide) ?_
          refine aw_goto (tgt := 59) hC dX2_isSign_55 (by decide) ?_
          exact aw_zreturn hC hZ (Nat.zero_le _) (Nat.zero_le _) hr rfl dX2_isSign_59 (by decide) (hK _ (Option.some.inj hF).symm)
        · have hF := it_f hF c4
          refine aw_iload_n hC dX2_isSign_24 rfl ?_
          refine aw_bipush hC dX2_isSign_25 (by decide) (by decide) ?_
          refine aw_icmp_eq (tgt := 54) hC dX2_isSign_27 (by decide) (fun c5 => ?_) (fun c5 => ?_)
          · have hF := it_t hF c5
            refine aw_iconst hC dX2_isSign_54 (by decide) ?_
            refine aw_goto (tgt := 59) hC dX2_isSign_55 (by decide) ?_
            exact aw_zreturn hC hZ (Nat.zero_le _) (Nat.zero_le _) hr rfl dX2_isSign_59 (by decide) (hK _ (Option.some.inj hF).symm)
          · have hF := it_f hF c5
            refine aw_iload_n hC dX2_isSign_30 rfl ?_
            refine aw_bipush hC dX2_isSign_31 (by decide) (by decide) ?_
            refine aw_icmp_eq (tgt := 54) hC dX2_isSign_33 (by decide) (fun c6 => ?_) (fun c6 => ?_)
            · have hF := it_t hF c6
              refine aw_iconst hC dX2_isSign_54 (by decide) ?_
              refine aw_goto (tgt := 59) hC dX2_isSign_55 (by decide) ?_
              exact aw_zreturn hC hZ (Nat.zero_le _) (Nat.zero_le _) hr rfl dX2_isSign_59 (by decide) (hK _ (Option.some.inj hF).symm)
            · have hF := it_f hF c6
              refine aw_iload_n hC dX2_isSign_36 rfl ?_
              refine aw_bipush hC dX2_isSign_37 (by decide) (by decide) ?_
              refine aw_icmp_eq (tgt := 54) hC dX2_isSign_39 (by decide) (fun c7 => ?_) (fun c7 => ?_)
              · have hF := it_t hF c7
                refine aw_iconst hC dX2_isSign_54 (by decide) ?_
                refine aw_goto (tgt := 59) hC dX2_isSign_55 (by decide) ?_
                exact aw_zreturn hC hZ (Nat.zero_le _) (Nat.zero_le _) hr rfl dX2_isSign_59 (by decide) (hK _ (Option.some.inj hF).symm)
              · have hF := it_f hF c7
                refine aw_iload_n hC dX2_isSign_42 rfl ?_
                refine aw_bipush hC dX2_isSign_43 (by decide) (by decide) ?_
                refine aw_icmp_eq (tgt := 54) hC dX2_isSign_45 (by decide) (fun c8 => ?_) (fun c8 => ?_)
                · have hF := it_t hF c8
                  refine aw_iconst hC dX2_isSign_54 (by decide) ?_
                  refine aw_goto (tgt := 59) hC dX2_isSign_55 (by decide) ?_
                  exact aw_zreturn hC hZ (Nat.zero_le _) (Nat.zero_le _) hr rfl dX2_isSign_59 (by decide) (hK _ (Option.some.inj hF).symm)
                · have hF := it_f hF c8
                  refine aw_iload_n hC dX2_isSign_48 rfl ?_
                  refine aw_bipush hC dX2_isSign_49 (by decide) (by decide) ?_
                  refine aw_icmp_ne (tgt := 58) hC dX2_isSign_51 (by decide) (fun c9 => ?_) (fun c9 => ?_)
                  · have hF := it_f hF c9
                    refine aw_iconst hC dX2_isSign_58 (by decide) ?_
                    exact aw_zreturn hC hZ (Nat.zero_le _) (Nat.zero_le _) hr rfl dX2_isSign_59 (by decide) (hK _ (Option.some.inj hF).symm)
                  · have hF := it_t hF c9
                    refine aw_iconst hC dX2_isSign_54 (by decide) ?_
                    refine aw_goto (tgt := 59) hC dX2_isSign_55 (by decide) ?_
                    exact aw_zreturn hC hZ (Nat.zero_le _) (Nat.zero_le _) hr rfl dX2_isSign_59 (by decide) (hK _ (Option.some.inj hF).symm)
def fX2_take_j47  (h : Hp) : Option ((Hp) ⊕ (Hp)) :=
  lb_ (st h 18 2 ((i_add ((h 18 2)) 1))) (fun h5 => some (.inl h5))
def fX2_take_l8  (h : Hp) : Option ((Hp) ⊕ (Hp)) :=
  (if (h 18 1) ≤ (h 18 2) then some (.inr h) else gd_ (0 ≤ (h 18 2) ∧ (h 18 2) < 700) ((if (h 17 (Int.toNat ((h 18 2)))) = 32 then fX2_take_j47 h else gd_ (0 ≤ (h 18 2) ∧ (h 18 2) < 700) ((if (h 17 (Int.toNat ((h 18 2)))) = 10 then fX2_take_j47 h else some (.inr h))))))
def fX2_take_j282 (z0 : Int) (h : Hp) : Option (Int × Hp) :=
  lb_ (st h 18 4 z0) (fun h24 => lb_ (st h24 18 3 ((i_add ((h24 18 2)) 1))) (fun h25 => some (0, h25)))
def fX2_take_j237 (z0 : Int) (h : Hp) : Option ((Hp) ⊕ (Hp)) :=
  lb_ (st h 18 5 z0) (fun h35 => lb_ (st h35 18 3 ((i_add ((h35 18 3)) 1))) (fun h36 => some (.inl h36)))
def fX2_take_l171  (h : Hp) : Option ((Hp) ⊕ (Hp)) :=
  (if (h 18 1) ≤ (h 18 3) then some (.inr h) else gd_ (0 ≤ (h 18 3) ∧ (h 18 3) < 700) (bp_ (fX2_isDigit ((h 17 (Int.toNat ((h 18 3))))) h) (fun r31 => (if r31 = 0 then some (.inr h) else (if 4 ≤ (i_sub ((h 18 3)) ((h 18 2))) then fX2_take_j237 10000 h else gd_ (0 ≤ (h 18 3) ∧ (h 18 3) < 700) (fX2_take_j237 ((i_sub ((i_add ((i_mul 10 ((h 18 5)))) ((h 17 (Int.toNat ((h 18 3))))))) 48)) h))))))
def fX2_take_l107  (h : Hp) : Option ((Hp) ⊕ (Hp)) :=
  (if (h 18 1) ≤ (h 18 3) then some (.inr h) else gd_ (0 ≤ (h 18 3) ∧ (h 18 3) < 700) (bp_ (fX2_isLetter ((h 17 (Int.toNat ((h 18 3))))) h) (fun r43 => (if r43 = 0 then some (.inr h) else lb_ (st h 18 3 ((i_add ((h 18 3)) 1))) (fun h46 => some (.inl h46))))))
def fX2_take_j60  (h : Hp) : Option (Int × Hp) :=
  lb_ (st h 18 3 ((h 18 2))) (fun h10 => (if (h10 18 2) < (h10 18 1) then gd_ (0 ≤ (h10 18 2) ∧ (h10 18 2) < 700) (bp_ (fX2_isLetter ((h10 17 (Int.toNat ((h10 18 2))))) h10) (fun r13 => (if r13 = 0 then gd_ (0 ≤ (h10 18 2) ∧ (h10 18 2) < 700) (bp_ (fX2_isDigit ((h10 17 (Int.toNat ((h10 18 2))))) h10) (fun r17 => (if r17 = 0 then gd_ (0 ≤ (h10 18 2) ∧ (h10 18 2) < 700) (bp_ (fX2_isSign ((h10 17 (Int.toNat ((h10 18 2))))) h10) (fun r21 => (if r21 = 0 then fX2_take_j282 3 h10 else gd_ (0 ≤ (h10 18 2) ∧ (h10 18 2) < 700) (fX2_take_j282 ((h10 17 (Int.toNat ((h10 18 2))))) h10)))) else lb_ (st h10 18 4 2) (fun h27 => lb_ (st h27 18 5 0) (fun h28 => bp_ (it_ (fun s => fX2_take_l171 s) FU h28) (fun e38 => (fun h39 => some (0, h39)) e38)))))) else lb_ (st h10 18 4 1) (fun h40 => bp_ (it_ (fun s => fX2_take_l107 s) FU h40) (fun e47 => (fun h48 => some (0, h48)) e47))))) else lb_ (st h10 18 4 0) (fun h49 => some (0, h49))))
def fX2_take  (h : Hp) : Option (Int × Hp) :=
  lb_ (st h 18 2 ((h 18 3))) (fun h1 => bp_ (it_ (fun s => fX2_take_l8 s) FU h1) (fun e8 => (fun h9 => fX2_take_j60 h9) e8))
theorem fX2_take_j47_ok {G : GD} {X : CX} {n : Nat} {Q : Av → Nat → Hp → Prop} (hC : Cx G X RX2 cX2_take) (hZ : ZOK X G Q 0 0) (hRm : X.R = rmd 1 0 0) (hbt : X.bt = true) (hr : X.meth.sig.returnType = none)  {h : Hp} {b : (Hp) ⊕ (Hp)} (hF : fX2_take_j47  h = some b) (hL9 : ∀ (h9 : Hp), b = .inl h9 → AW G X 8 [(2, ((18 : Nat) : Int))] [] n h9 0 0) (hX9 : ∀ (h9 : Hp), b = .inr h9 → AW G X 60 [(2, ((18 : Nat) : Int))] [] n h9 0 0) : AW G X 47 [(2, ((18 : Nat) : Int))] [] n h 0 0 := by
  unfold fX2_take_j47 at hF
  refine aw_aload_n hC dX2_take_47 rfl ?_
  refine aw_dup hC dX2_take_48 (by simp) ?_
  refine aw_g2i (k := 2) (a := 18) hC dX2_take_49 lkRX2_83 (by decide) rfl rfl rfl (Or.inl ⟨hbt, by decide⟩) ?_
  refine aw_iconst hC dX2_take_52 (by decide) ?_
  refine aw_iadd hC dX2_take_53 ?_
  obtain ⟨h5, eh5, hF⟩ := lb_some hF
  refine aw_p2i (k := 2) (a := 18) hC dX2_take_54 lkRX2_83 (by decide) rfl rfl rfl rfl rfl (Or.inl ⟨hbt, by decide⟩) (fun _ => by decide) ?_
  refine aw_eqH eh5 ?_
  clear eh5
  refine aw_goto (tgt := 8) hC dX2_take_57 (by decide) ?_
  exact hL9 _ (Option.some.inj hF).symm
theorem fX2_take_l8_ok {G : GD} {X : CX} {n : Nat} {Q : Av → Nat → Hp → Prop} (hC : Cx G X RX2 cX2_take) (hZ : ZOK X G Q 0 0) (hRm : X.R = rmd 1 0 0) (hbt : X.bt = true) (hr : X.meth.sig.returnType = none)  : ∀ (f : Nat) (h : Hp) (r : Hp), it_ (fun s => fX2_take_l8 s) f h = some r → (∀ (h9 : Hp), r = h9 → AW G X 60 [(2, ((18 : Nat) : Int))] [] n h9 0 0) → AW G X 8 [(2, ((18 : Nat) : Int))] [] n h 0 0 := by
  intro f
  induction f with
  | zero => intro h r hI; cases hI
  | succ f ih0 =>
    intro h r hI hX
    obtain ⟨b, hF, hb1, hb2⟩ := it_succ hI
    have hF : fX2_take_l8 h = some b := hF
    unfold fX2_take_l8 at hF
    refine aw_aload_n hC dX2_take_8 rfl ?_
    refine aw_g2i (k := 2) (a := 18) hC dX2_take_9 lkRX2_83 (by decide) rfl rfl rfl (Or.inl ⟨hbt, by decide⟩) ?_
    refine aw_aload_n hC dX2_take_12 rfl ?_
    refine aw_g2i (k := 1) (a := 18) hC dX2_take_13 lkRX2_29 (by decide) rfl rfl rfl (Or.inl ⟨hbt, by decide⟩) ?_
    refine aw_icmp_ge (tgt := 60) hC dX2_take_16 (by decide) (fun c2 => ?_) (fun c2 => ?_)
    · have hF := it_t hF c2
      exact hX _ (hb2 _ (Option.some.inj hF).symm).symm
    · have hF := it_f hF c2
      refine aw_aload_n hC dX2_take_19 rfl ?_
      refine aw_gc2 (k := 0) (a := 18) (b := 17) hC hbt dX2_take_20 lkRX2_15 (by decide) rfl rfl rfl (by decide) (by decide) ?_
      refine aw_aload_n hC dX2_take_23 rfl ?_
      refine aw_g2i (k := 2) (a := 18) hC dX2_take_24 lkRX2_83 (by decide) rfl rfl rfl (Or.inl ⟨hbt, by decide⟩) ?_
      obtain ⟨g3, hF⟩ := gd_some hF
      refine aw_baload (a := 17) hC dX2_take_27 rfl rfl (Or.inl ⟨hbt, by decide⟩) g3.1 g3.2 ?_
      refine aw_bipush hC dX2_take_28 (by decide) (by decide) ?_
      refine aw_icmp_eq (tgt := 47) hC dX2_take_30 (by decide) (fun c4 => ?_) (fun c4 => ?_)
      · have hF := it_t hF c4
        exact fX2_take_j47_ok hC hZ hRm hbt hr hF (fun u0 e => ih0 u0 r (hb1 _ e) hX) (fun w0 e => hX w0 (hb2 _ e).symm)
      · have hF := it_f hF c4
        refine aw_aload_n hC dX2_take_33 rfl ?_
        refine aw_gc2 (k := 0) (a := 18) (b := 17) hC hbt dX2_take_34 lkRX2_15 (by decide) rfl rfl rfl (by decide) (by decide) ?_
        refine aw_aload_n hC dX2_take_37 rfl ?_
        refine aw_g2i (k := 2) (a := 18) hC dX2_take_38 lkRX2_83 (by decide) rfl rfl rfl (Or.inl ⟨hbt, by decide⟩) ?_
        obtain ⟨g6, hF⟩ := gd_some hF
        refine aw_baload (a := 17) hC dX2_take_41 rfl rfl (Or.inl ⟨hbt, by decide⟩) g6.1 g6.2 ?_
        refine aw_bipush hC dX2_take_42 (by decide) (by decide) ?_
        refine aw_icmp_ne (tgt := 60) hC dX2_take_44 (by decide) (fun c7 => ?_) (fun c7 => ?_)
        · have hF := it_f hF c7
          exact hX _ (hb2 _ (Option.some.inj hF).symm).symm
        · have hF := it_t hF c7
          exact fX2_take_j47_ok hC hZ hRm hbt hr hF (fun u0 e => ih0 u0 r (hb1 _ e) hX) (fun w0 e => hX w0 (hb2 _ e).symm)
theorem fX2_take_j282_ok {G : GD} {X : CX} {n : Nat} {Q : Av → Nat → Hp → Prop} (hC : Cx G X RX2 cX2_take) (hZ : ZOK X G Q 0 0) (hRm : X.R = rmd 1 0 0) (hbt : X.bt = true) (hr : X.meth.sig.returnType = none) {z0 : Int} {h : Hp} {res : Int × Hp} (hF : fX2_take_j282 z0 h = some res) (hK : ∀ (x9 : Int) (h9 : Hp), res = (x9, h9) → Q (8, x9) n h9) : AW G X 282 [(2, ((18 : Nat) : Int))] [(0, z0), (2, ((18 : Nat) : Int))] n h 0 0 := by
  unfold fX2_take_j282 at hF
  obtain ⟨h24, eh24, hF⟩ := lb_some hF
  refine aw_p2i (k := 4) (a := 18) hC dX2_take_282 lkRX2_71 (by decide) rfl rfl rfl rfl rfl (Or.inl ⟨hbt, by decide⟩) (fun _ => by decide) ?_
  refine aw_eqH eh24 ?_
  clear eh24
  refine aw_aload_n hC dX2_take_285 rfl ?_
  refine aw_aload_n hC dX2_take_286 rfl ?_
  refine aw_g2i (k := 2) (a := 18) hC dX2_take_287 lkRX2_83 (by decide) rfl rfl rfl (Or.inl ⟨hbt, by decide⟩) ?_
  refine aw_iconst hC dX2_take_290 (by decide) ?_
  refine aw_iadd hC dX2_take_291 ?_
  obtain ⟨h25, eh25, hF⟩ := lb_some hF
  refine aw_p2i (k := 3) (a := 18) hC dX2_take_292 lkRX2_33 (by decide) rfl rfl rfl rfl rfl (Or.inl ⟨hbt, by decide⟩) (fun _ => by decide) ?_
  refine aw_eqH eh25 ?_
  clear eh25
  exact aw_return hC hZ (Nat.zero_le _) (Nat.zero_le _) hr dX2_take_295 (hK _ _ (Option.some.inj hF).symm)
theorem fX2_take_j237_ok {G : GD} {X : CX} {n : Nat} {Q : Av → Nat → Hp → Prop} (hC : Cx G X RX2 cX2_take) (hZ : ZOK X G Q 0 0) (hRm : X.R = rmd 1 0 0) (hbt : X.bt = true) (hr : X.meth.sig.returnType = none) {z0 : Int} {h : Hp} {b : (Hp) ⊕ (Hp)} (hF : fX2_take_j237 z0 h = some b) (hL9 : ∀ (h9 : Hp), b = .inl h9 → AW G X 171 [(2, ((18 : Nat) : Int))] [] n h9 0 0) (hX9 : ∀ (h9 : Hp), b = .inr h9 → AW G X 295 [(9, 0)] [] n h9 0 0) : AW G X 237 [(2, ((18 : Nat) : Int))] [(0, z0), (2, ((18 : Nat) : Int))] n h 0 0 := by
  unfold fX2_take_j237 at hF
  obtain ⟨h35, eh35, hF⟩ := lb_some hF
  refine aw_p2i (k := 5) (a := 18) hC dX2_take_237 lkRX2_93 (by decide) rfl rfl rfl rfl rfl (Or.inl ⟨hbt, by decide⟩) (fun _ => by decide) ?_
  refine aw_eqH eh35 ?_
  clear eh35
  refine aw_aload_n hC dX2_take_240 rfl ?_
  refine aw_dup hC dX2_take_241 (by simp) ?_
  refine aw_g2i (k := 3) (a := 18) hC dX2_take_242 lkRX2_33 (by decide) rfl rfl rfl (Or.inl ⟨hbt, by decide⟩) ?_
  refine aw_iconst hC dX2_take_245 (by decide) ?_
  refine aw_iadd hC dX2_take_246 ?_
  obtain ⟨h36, eh36, hF⟩ := lb_some hF
  refine aw_p2i (k := 3) (a := 18) hC dX2_take_247 lkRX2_33 (by decide) rfl rfl rfl rfl rfl (Or.inl ⟨hbt, by decide⟩) (fun _ => by decide) ?_
  refine aw_eqH eh36 ?_
  clear eh36
  refine aw_goto (tgt := 171) hC dX2_take_250 (by decide) ?_
  exact hL9 _ (Option.some.inj hF).symm
theorem fX2_take_l171_ok {G : GD} {X : CX} {n : Nat} {Q : Av → Nat → Hp → Prop} (hC : Cx G X RX2 cX2_take) (hZ : ZOK X G Q 0 0) (hRm : X.R = rmd 1 0 0) (hbt : X.bt = true) (hr : X.meth.sig.returnType = none)  : ∀ (f : Nat) (h : Hp) (r : Hp), it_ (fun s => fX2_take_l171 s) f h = some r → (∀ (h9 : Hp), r = h9 → AW G X 295 [(9, 0)] [] n h9 0 0) → AW G X 171 [(2, ((18 : Nat) : Int))] [] n h 0 0 := by
  intro f
  induction f with
  | zero => intro h r hI; cases hI
  | succ f ih0 =>
    intro h r hI hX
    obtain ⟨b, hF, hb1, hb2⟩ := it_succ hI
    have hF : fX2_take_l171 h = some b := hF
    unfold fX2_take_l171 at hF
    refine aw_aload_n hC dX2_take_171 rfl ?_
    refine aw_g2i (k := 3) (a := 18) hC dX2_take_172 lkRX2_33 (by decide) rfl rfl rfl (Or.inl ⟨hbt, by decide⟩) ?_
    refine aw_aload_n hC dX2_take_175 rfl ?_
    refine aw_g2i (k := 1) (a := 18) hC dX2_take_176 lkRX2_29 (by decide) rfl rfl rfl (Or.inl ⟨hbt, by decide⟩) ?_
    refine aw_icmp_ge (tgt := 295) hC dX2_take_179 (by decide) (fun c29 => ?_) (fun c29 => ?_)
    · have hF := it_t hF c29
      refine aw_weak (ls' := [(9, 0)]) ⟨Or.inl rfl, trivial⟩ ?_
      exact hX _ (hb2 _ (Option.some.inj hF).symm).symm
    · have hF := it_f hF c29
      refine aw_aload_n hC dX2_take_182 rfl ?_
      refine aw_gc2 (k := 0) (a := 18) (b := 17) hC hbt dX2_take_183 lkRX2_15 (by decide) rfl rfl rfl (by decide) (by decide) ?_
      refine aw_aload_n hC dX2_take_186 rfl ?_
      refine aw_g2i (k := 3) (a := 18) hC dX2_take_187 lkRX2_33 (by decide) rfl rfl rfl (Or.inl ⟨hbt, by decide⟩) ?_
      obtain ⟨g30, hF⟩ := gd_some hF
      refine aw_baload (a := 17) hC dX2_take_190 rfl rfl (Or.inl ⟨hbt, by decide⟩) g30.1 g30.2 ?_
      obtain ⟨r31, q32, hF⟩ := bp_some hF
      refine clRX2_90 hC hRm hbt dX2_take_191 (Nat.le_of_ble_eq_true rfl) (Nat.le_of_ble_eq_true rfl) (ok_X2_isDigit q32) ?_
      refine aw_if_eq (tgt := 295) hC dX2_take_194 (by decide) (fun c33 => ?_) (fun c33 => ?_)
      · have hF := it_t hF c33
        refine aw_weak (ls' := [(9, 0)]) ⟨Or.inl rfl, trivial⟩ ?_
        exact hX _ (hb2 _ (Option.some.inj hF).symm).symm
      · have hF := it_f hF c33
        refine aw_aload_n hC dX2_take_197 rfl ?_
        refine aw_aload_n hC dX2_take_198 rfl ?_
        refine aw_g2i (k := 3) (a := 18) hC dX2_take_199 lkRX2_33 (by decide) rfl rfl rfl (Or.inl ⟨hbt, by decide⟩) ?_
        refine aw_aload_n hC dX2_take_202 rfl ?_
        refine aw_g2i (k := 2) (a := 18) hC dX2_take_203 lkRX2_83 (by decide) rfl rfl rfl (Or.inl ⟨hbt, by decide⟩) ?_
        refine aw_isub hC dX2_take_206 ?_
        refine aw_iconst hC dX2_take_207 (by decide) ?_
        refine aw_icmp_ge (tgt := 234) hC dX2_take_208 (by decide) (fun c34 => ?_) (fun c34 => ?_)
        · have hF := it_t hF c34
          refine aw_sipush hC dX2_take_234 (by decide) (by decide) ?_
          exact fX2_take_j237_ok hC hZ hRm hbt hr hF (fun u0 e => ih0 u0 r (hb1 _ e) hX) (fun w0 e => hX w0 (hb2 _ e).symm)
        · have hF := it_f hF c34
          refine aw_bipush hC dX2_take_211 (by decide) (by decide) ?_
          refine aw_aload_n hC dX2_take_213 rfl ?_
          refine aw_g2i (k := 5) (a := 18) hC dX2_take_214 lkRX2_93 (by decide) rfl rfl rfl (Or.inl ⟨hbt, by decide⟩) ?_
          refine aw_imul hC dX2_take_217 ?_
          refine aw_aload_n hC dX2_take_218 rfl ?_
          refine aw_gc2 (k := 0) (a := 18) (b := 17) hC hbt dX2_take_219 lkRX2_15 (by decide) rfl rfl rfl (by decide) (by decide) ?_
          refine aw_aload_n hC dX2_take_222 rfl ?_
          refine aw_g2i (k := 3) (a := 18) hC dX2_take_223 lkRX2_33 (by decide) rfl rfl rfl (Or.inl ⟨hbt, by decide⟩) ?_
          obtain ⟨g37, hF⟩ := gd_some hF
          refine aw_baload (a := 17) hC dX2_take_226 rfl rfl (Or.inl ⟨hbt, by decide⟩) g37.1 g37.2 ?_
          refine aw_iadd hC dX2_take_227 ?_
          refine aw_bipush hC dX2_take_228 (by decide) (by decide) ?_
          refine aw_isub hC dX2_take_230 ?_
          refine aw_goto (tgt := 237) hC dX2_take_231 (by decide) ?_
          exact fX2_take_j237_ok hC hZ hRm hbt hr hF (fun u0 e => ih0 u0 r (hb1 _ e) hX) (fun w0 e => hX w0 (hb2 _ e).symm)
theorem fX2_take_l107_ok {G : GD} {X : CX} {n : Nat} {Q : Av → Nat → Hp → Prop} (hC : Cx G X RX2 cX2_take) (hZ : ZOK X G Q 0 0) (hRm : X.R = rmd 1 0 0) (hbt : X.bt = true) (hr : X.meth.sig.returnType = none)  : ∀ (f : Nat) (h : Hp) (r : Hp), it_ (fun s => fX2_take_l107 s) f h = some r → (∀ (h9 : Hp), r = h9 → AW G X 295 [(9, 0)] [] n h9 0 0) → AW G X 107 [(2, ((18 : Nat) : Int))] [] n h 0 0 := by
  intro f
  induction f with
  | zero => intro h r hI; cases hI
  | succ f ih0 =>
    intro h r hI hX
    obtain ⟨b, hF, hb1, hb2⟩ := it_succ hI
    have hF : fX2_take_l107 h = some b := hF
    unfold fX2_take_l107 at hF
    refine aw_aload_n hC dX2_take_107 rfl ?_
    refine aw_g2i (k := 3) (a := 18) hC dX2_take_108 lkRX2_33 (by decide) rfl rfl rfl (Or.inl ⟨hbt, by decide⟩) ?_
    refine aw_aload_n hC dX2_take_111 rfl ?_
    refine aw_g2i (k := 1) (a := 18) hC dX2_take_112 lkRX2_29 (by decide) rfl rfl rfl (Or.inl ⟨hbt, by decide⟩) ?_
    refine aw_icmp_ge (tgt := 295) hC dX2_take_115 (by decide) (fun c41 => ?_) (fun c41 => ?_)
    · have hF := it_t hF c41
      refine aw_weak (ls' := [(9, 0)]) ⟨Or.inl rfl, trivial⟩ ?_
      exact hX _ (hb2 _ (Option.some.inj hF).symm).symm
    · have hF := it_f hF c41
      refine aw_aload_n hC dX2_take_118 rfl ?_
      refine aw_gc2 (k := 0) (a := 18) (b := 17) hC hbt dX2_take_119 lkRX2_15 (by decide) rfl rfl rfl (by decide) (by decide) ?_
      refine aw_aload_n hC dX2_take_122 rfl ?_
      refine aw_g2i (k := 3) (a := 18) hC dX2_take_123 lkRX2_33 (by decide) rfl rfl rfl (Or.inl ⟨hbt, by decide⟩) ?_
      obtain ⟨g42, hF⟩ := gd_some hF
      refine aw_baload (a := 17) hC dX2_take_126 rfl rfl (Or.inl ⟨hbt, by decide⟩) g42.1 g42.2 ?_
      obtain ⟨r43, q44, hF⟩ := bp_some hF
      refine clRX2_86 hC hRm hbt dX2_take_127 (Nat.le_of_ble_eq_true rfl) (Nat.le_of_ble_eq_true rfl) (ok_X2_isLetter q44) ?_
      refine aw_if_eq (tgt := 295) hC dX2_take_130 (by decide) (fun c45 => ?_) (fun c45 => ?_)
      · have hF := it_t hF c45
        refine aw_weak (ls' := [(9, 0)]) ⟨Or.inl rfl, trivial⟩ ?_
        exact hX _ (hb2 _ (Option.some.inj hF).symm).symm
      · have hF := it_f hF c45
        refine aw_aload_n hC dX2_take_133 rfl ?_
        refine aw_dup hC dX2_take_134 (by simp) ?_
        refine aw_g2i (k := 3) (a := 18) hC dX2_take_135 lkRX2_33 (by decide) rfl rfl rfl (Or.inl ⟨hbt, by decide⟩) ?_
        refine aw_iconst hC dX2_take_138 (by decide) ?_
        refine aw_iadd hC dX2_take_139 ?_
        obtain ⟨h46, eh46, hF⟩ := lb_some hF
        refine aw_p2i (k := 3) (a := 18) hC dX2_take_140 lkRX2_33 (by decide) rfl rfl rfl rfl rfl (Or.inl ⟨hbt, by decide⟩) (fun _ => by decide) ?_
        refine aw_eqH eh46 ?_
        clear eh46
        refine aw_goto (tgt := 107) hC dX2_take_143 (by decide) ?_
        exact ih0 _ r (hb1 _ (Option.some.inj hF).symm) hX
theorem fX2_take_j60_ok {G : GD} {X : CX} {n : Nat} {Q : Av → Nat → Hp → Prop} (hC : Cx G X RX2 cX2_take) (hZ : ZOK X G Q 0 0) (hRm : X.R = rmd 1 0 0) (hbt : X.bt = true) (hr : X.meth.sig.returnType = none)  {h : Hp} {res : Int × Hp} (hF : fX2_take_j60  h = some res) (hK : ∀ (x9 : Int) (h9 : Hp), res = (x9, h9) → Q (8, x9) n h9) : AW G X 60 [(2, ((18 : Nat) : Int))] [] n h 0 0 := by
  unfold fX2_take_j60 at hF
  refine aw_aload_n hC dX2_take_60 rfl ?_
  refine aw_aload_n hC dX2_take_61 rfl ?_
  refine aw_g2i (k := 2) (a := 18) hC dX2_take_62 lkRX2_83 (by decide) rfl rfl rfl (Or.inl ⟨hbt, by decide⟩) ?_
  obtain ⟨h10, eh10, hF⟩ := lb_some hF
  refine aw_p2i (k := 3) (a := 18) hC dX2_take_65 lkRX2_33 (by decide) rfl rfl rfl rfl rfl (Or.inl ⟨hbt, by decide⟩) (fun _ => by decide) ?_
  refine aw_eqH eh10 ?_
  clear eh10
  refine aw_aload_n hC dX2_take_68 rfl ?_
  refine aw_g2i (k := 2) (a := 18) hC dX2_take_69 lkRX2_83 (by decide) rfl rfl rfl (Or.inl ⟨hbt, by decide⟩) ?_
  refine aw_aload_n hC dX2_take_72 rfl ?_
  refine aw_g2i (k := 1) (a := 18) hC dX2_take_73 lkRX2_29 (by decide) rfl rfl rfl (Or.inl ⟨hbt, by decide⟩) ?_
  refine aw_icmp_lt (tgt := 87) hC dX2_take_76 (by decide) (fun c11 => ?_) (fun c11 => ?_)
  · have hF := it_t hF c11
    refine aw_aload_n hC dX2_take_87 rfl ?_
    refine aw_gc2 (k := 0) (a := 18) (b := 17) hC hbt dX2_take_88 lkRX2_15 (by decide) rfl rfl rfl (by decide) (by decide) ?_
    refine aw_aload_n hC dX2_take_91 rfl ?_
    refine aw_g2i (k := 2) (a := 18) hC dX2_take_92 lkRX2_83 (by decide) rfl rfl rfl (Or.inl ⟨hbt, by decide⟩) ?_
    obtain ⟨g12, hF⟩ := gd_some hF
    refine aw_baload (a := 17) hC dX2_take_95 rfl rfl (Or.inl ⟨hbt, by decide⟩) g12.1 g12.2 ?_
    obtain ⟨r13, q14, hF⟩ := bp_some hF
    refine clRX2_86 hC hRm hbt dX2_take_96 (Nat.le_of_ble_eq_true rfl) (Nat.le_of_ble_eq_true rfl) (ok_X2_isLetter q14) ?_
    refine aw_if_eq (tgt := 146) hC dX2_take_99 (by decide) (fun c15 => ?_) (fun c15 => ?_)
    · have hF := it_t hF c15
      refine aw_aload_n hC dX2_take_146 rfl ?_
      refine aw_gc2 (k := 0) (a := 18) (b := 17) hC hbt dX2_take_147 lkRX2_15 (by decide) rfl rfl rfl (by decide) (by decide) ?_
      refine aw_aload_n hC dX2_take_150 rfl ?_
      refine aw_g2i (k := 2) (a := 18) hC dX2_take_151 lkRX2_83 (by decide) rfl rfl rfl (Or.inl ⟨hbt, by decide⟩) ?_
      obtain ⟨g16, hF⟩ := gd_some hF
      refine aw_baload (a := 17) hC dX2_take_154 rfl rfl (Or.inl ⟨hbt, by decide⟩) g16.1 g16.2 ?_
      obtain ⟨r17, q18, hF⟩ := bp_some hF
      refine clRX2_90 hC hRm hbt dX2_take_155 (Nat.le_of_ble_eq_true rfl) (Nat.le_of_ble_eq_true rfl) (ok_X2_isDigit q18) ?_
      refine aw_if_eq (tgt := 253) hC dX2_take_158 (by decide) (fun c19 => ?_) (fun c19 => ?_)
      · have hF := it_t hF c19
        refine aw_aload_n hC dX2_take_253 rfl ?_
        refine aw_aload_n hC dX2_take_254 rfl ?_
        refine aw_gc2 (k := 0) (a := 18) (b := 17) hC hbt dX2_take_255 lkRX2_15 (by decide) rfl rfl rfl (by decide) (by decide) ?_
        refine aw_aload_n hC dX2_take_258 rfl ?_
        refine aw_g2i (k := 2) (a := 18) hC dX2_take_259 lkRX2_83 (by decide) rfl rfl rfl (Or.inl ⟨hbt, by decide⟩) ?_
        obtain ⟨g20, hF⟩ := gd_some hF
        refine aw_baload (a := 17) hC dX2_take_262 rfl rfl (Or.inl ⟨hbt, by decide⟩) g20.1 g20.2 ?_
        obtain ⟨r21, q22, hF⟩ := bp_some hF
        refine clRX2_96 hC hRm hbt dX2_take_263 (Nat.le_of_ble_eq_true rfl) (Nat.le_of_ble_eq_true rfl) (ok_X2_isSign q22) ?_
        refine aw_if_eq (tgt := 281) hC dX2_take_266 (by decide) (fun c23 => ?_) (fun c23 => ?_)
        · have hF := it_t hF c23
          refine aw_iconst hC dX2_take_281 (by decide) ?_
          exact fX2_take_j282_ok hC hZ hRm hbt hr hF hK
        · have hF := it_f hF c23
          refine aw_aload_n hC dX2_take_269 rfl ?_
          refine aw_gc2 (k := 0) (a := 18) (b := 17) hC hbt dX2_take_270 lkRX2_15 (by decide) rfl rfl rfl (by decide) (by decide) ?_
          refine aw_aload_n hC dX2_take_273 rfl ?_
          refine aw_g2i (k := 2) (a := 18) hC dX2_take_274 lkRX2_83 (by decide) rfl rfl rfl (Or.inl ⟨hbt, by decide⟩) ?_
          obtain ⟨g26, hF⟩ := gd_some hF
          refine aw_baload (a := 17) hC dX2_take_277 rfl rfl (Or.inl ⟨hbt, by decide⟩) g26.1 g26.2 ?_
          refine aw_goto (tgt := 282) hC dX2_take_278 (by decide) ?_
          exact fX2_take_j282_ok hC hZ hRm hbt hr hF hK
      · have hF := it_f hF c19
        refine aw_aload_n hC dX2_take_161 rfl ?_
        refine aw_iconst hC dX2_take_162 (by decide) ?_
        obtain ⟨h27, eh27, hF⟩ := lb_some hF
        refine aw_p2i (k := 4) (a := 18) hC dX2_take_163 lkRX2_71 (by decide) rfl rfl rfl rfl rfl (Or.inl ⟨hbt, by decide⟩) (fun _ => by decide) ?_
        refine aw_eqH eh27 ?_
        clear eh27
        refine aw_aload_n hC dX2_take_166 rfl ?_
        refine aw_iconst hC dX2_take_167 (by decide) ?_
        obtain ⟨h28, eh28, hF⟩ := lb_some hF
        refine aw_p2i (k := 5) (a := 18) hC dX2_take_168 lkRX2_93 (by decide) rfl rfl rfl rfl rfl (Or.inl ⟨hbt, by decide⟩) (fun _ => by decide) ?_
        refine aw_eqH eh28 ?_
        clear eh28
        obtain ⟨e38, he, hF⟩ := bp_some hF
        refine fX2_take_l171_ok hC hZ hRm hbt hr FU _ e38 he (fun h39 er => ?_)
        replace er := er.symm
        subst er
        try dsimp only at hF
        exact aw_return hC hZ (Nat.zero_le _) (Nat.zero_le _) hr dX2_take_295 (hK _ _ (Option.some.inj hF).symm)
    · have hF := it_f hF c15
      refine aw_aload_n hC dX2_take_102 rfl ?_
      refine aw_iconst hC dX2_take_103 (by decide) ?_
      obtain ⟨h40, eh40, hF⟩ := lb_some hF
      refine aw_p2i (k := 4) (a := 18) hC dX2_take_104 lkRX2_71 (by decide) rfl rfl rfl rfl rfl (Or.inl ⟨hbt, by decide⟩) (fun _ => by decide) ?_
      refine aw_eqH eh40 ?_
      clear eh40
      obtain ⟨e47, he, hF⟩ := bp_some hF
      refine fX2_take_l107_ok hC hZ hRm hbt hr FU _ e47 he (fun h48 er => ?_)
      replace er := er.symm
      subst er
      try dsimp only at hF
      exact aw_return hC hZ (Nat.zero_le _) (Nat.zero_le _) hr dX2_take_295 (hK _ _ (Option.some.inj hF).symm)
  · have hF := it_f hF c11
    refine aw_aload_n hC dX2_take_79 rfl ?_
    refine aw_iconst hC dX2_take_80 (by decide) ?_
    obtain ⟨h49, eh49, hF⟩ := lb_some hF
    refine aw_p2i (k := 4) (a := 18) hC dX2_take_81 lkRX2_71 (by decide) rfl rfl rfl rfl rfl (Or.inl ⟨hbt, by decide⟩) (fun _ => by decide) ?_
    refine aw_eqH eh49 ?_
    clear eh49
    refine aw_goto (tgt := 295) hC dX2_take_84 (by decide) ?_
    exact aw_return hC hZ (Nat.zero_le _) (Nat.zero_le _) hr dX2_take_295 (hK _ _ (Option.some.inj hF).symm)
theorem ok_X2_take {G : GD} {n : Nat}  {h : Hp} {res : Int × Hp} (hF : fX2_take  h = some res) : Con G yX2_take cX2_take 1 none 1 0 0 true [(2, ((18 : Nat) : Int))] n h (FQ 8 n res) := by
  refine con_of (pad := 0) (own := RX2) (plainFor_of_name (by decide)) rfl rfl ?_
  intro X hC hbt hr hnm hZ hRm hn0
  have hK : ∀ (x9 : Int) (h9 : Hp), res = (x9, h9) → FQ 8 n res (8, x9) n h9 := fun x9 h9 e => by subst e; exact ⟨rfl, rfl, rfl⟩
  unfold fX2_take at hF
  show AW G X 0 [(2, ((18 : Nat) : Int))] [] n h 0 0
  refine aw_aload_n hC dX2_take_0 rfl ?_
  refine aw_aload_n hC dX2_take_1 rfl ?_
  refine aw_g2i (k := 3) (a := 18) hC dX2_take_2 lkRX2_33 (by decide) rfl rfl rfl (Or.inl ⟨hbt, by decide⟩) ?_
  obtain ⟨h1, eh1, hF⟩ := lb_some hF
  refine aw_p2i (k := 2) (a := 18) hC dX2_take_5 lkRX2_83 (by decide) rfl rfl rfl rfl rfl (Or.inl ⟨hbt, by decide⟩) (fun _ => by decide) ?_
  refine aw_eqH eh1 ?_
  clear eh1
  obtain ⟨e8, he, hF⟩ := bp_some hF
  refine fX2_take_l8_ok hC hZ hRm hbt hr FU _ e8 he (fun h9 er => ?_)
  replace er := er.symm
  subst er
  try dsimp only at hF
  exact fX2_take_j60_ok hC hZ hRm hbt hr hF hK
def fX2_isWord_l40 (x1 : Int) (x2 : Int) (h : Hp) : Option ((Int) ⊕ ((Unit) ⊕ (Int))) :=
  gd_ (10 ≤ x1 ∧ x1 < 27) ((if (slen_ x1) ≤ x2 then some (.inr (.inl ())) else gd_ (0 ≤ (i_add ((h 18 2)) x2) ∧ (i_add ((h 18 2)) x2) < 700) (gd_ (0 ≤ x2 ∧ x2 < slen_ x1) ((if (h 17 (Int.toNat ((i_add ((h 18 2)) x2)))) = (schar_ x1 x2) then some (.inl (i_add x2 1)) else some (.inr (.inr 0)))))))
def fX2_isWord (x1 : Int) (h : Hp) : Option (Int) :=
  (if (h 18 4) = 1 then gd_ (10 ≤ x1 ∧ x1 < 27) ((if (i_sub ((h 18 3)) ((h 18 2))) = (slen_ x1) then (if (h 18 3) ≤ ((700 : Nat) : Int) then bp_ (it_ (fun s => fX2_isWord_l40 x1 s h) FU 0) (fun e11 => match e11 with | .inl e11 => some 1 | .inr q9 => some q9) else some 0) else some 0)) else some 0)
theorem fX2_isWord_l40_ok {G : GD} {X : CX} {n : Nat} {Q : Av → Nat → Hp → Prop} (hC : Cx G X RX2 cX2_isWord) (hZ : ZOK X G Q 0 0) (hRm : X.R = rmd 8 0 0) (hbt : X.bt = true) (hr : X.meth.sig.returnType = (some .boolean)) {x1 : Int} {h : Hp} : ∀ (f : Nat) (x2 : Int) (r : (Unit) ⊕ (Int)), it_ (fun s => fX2_isWord_l40 x1 s h) f x2 = some r → (r = (.inl ()) → AW G X 75 [(9, 0), (9, 0), (9, 0)] [] n h 0 0) → (∀ (x9 : Int), r = .inr x9 → Q (0, x9) n h) → AW G X 40 [(2, ((18 : Nat) : Int)), (3, x1), (0, x2)] [] n h 0 0 := by
  intro f
  induction f with
  | zero => intro x2 r hI; cases hI
  | succ f ih0 =>
    intro x2 r hI hX hRet9
    obtain ⟨b, hF, hb1, hb2⟩ := it_succ hI
    have hF : fX2_isWord_l40 x1 x2 h = some b := hF
    have hRet : ∀ (x9 : Int), b = .inr (.inr x9) → Q (0, x9) n h := fun x9 e => hRet9 x9 (hb2 _ e).symm
    unfold fX2_isWord_l40 at hF
    refine aw_iload_n hC dX2_isWord_40 rfl ?_
    refine aw_aload_n3 hC dX2_isWord_41 rfl ?_
    obtain ⟨k5, hF⟩ := gd_some hF
    refine aw_strlen hC hRm hbt k5 dX2_isWord_42 (Nat.le_of_ble_eq_true rfl) slnkRX2_99 (Nat.le_of_ble_eq_true rfl) ?_
    refine aw_icmp_ge (tgt := 75) hC dX2_isWord_45 (by decide) (fun c6 => ?_) (fun c6 => ?_)
    · have hF := it_t hF c6
      refine aw_weak (ls' := [(9, 0), (9, 0), (9, 0)]) ⟨Or.inl rfl, Or.inl rfl, Or.inl rfl, trivial⟩ ?_
      exact hX (hb2 _ (Option.some.inj hF).symm).symm
    · have hF := it_f hF c6
      refine aw_aload_n hC dX2_isWord_48 rfl ?_
      refine aw_gc2 (k := 0) (a := 18) (b := 17) hC hbt dX2_isWord_49 lkRX2_15 (by decide) rfl rfl rfl (by decide) (by decide) ?_
      refine aw_aload_n hC dX2_isWord_52 rfl ?_
      refine aw_g2i (k := 2) (a := 18) hC dX2_isWord_53 lkRX2_83 (by decide) rfl rfl rfl (Or.inl ⟨hbt, by decide⟩) ?_
      refine aw_iload_n hC dX2_isWord_56 rfl ?_
      refine aw_iadd hC dX2_isWord_57 ?_
      obtain ⟨g7, hF⟩ := gd_some hF
      refine aw_baload (a := 17) hC dX2_isWord_58 rfl rfl (Or.inl ⟨hbt, by decide⟩) g7.1 g7.2 ?_
      refine aw_aload_n3 hC dX2_isWord_59 rfl ?_
      refine aw_iload_n hC dX2_isWord_60 rfl ?_
      obtain ⟨g8, hF⟩ := gd_some hF
      refine aw_charAt hC hRm hbt k5 dX2_isWord_61 (Nat.le_of_ble_eq_true rfl) slnkRX2_104 g8.1 g8.2 (Nat.le_of_ble_eq_true rfl) ?_
      refine aw_icmp_eq (tgt := 69) hC dX2_isWord_64 (by decide) (fun c9 => ?_) (fun c9 => ?_)
      · have hF := it_t hF c9
        refine aw_iinc2 hC dX2_isWord_69 rfl ?_
        refine aw_goto (tgt := 40) hC dX2_isWord_72 (by decide) ?_
        exact ih0 _ r (hb1 _ (Option.some.inj hF).symm) hX hRet9
      · have hF := it_f hF c9
        refine aw_iconst hC dX2_isWord_67 (by decide) ?_
        exact aw_zreturn hC hZ (Nat.zero_le _) (Nat.zero_le _) hr rfl dX2_isWord_68 (by decide) (hRet _ (Option.some.inj hF).symm)
theorem ok_X2_isWord {G : GD} {n : Nat} {x1 : Int} {h : Hp} {res : Int} (hF : fX2_isWord x1 h = some res) : Con G yX2_isWord cX2_isWord 3 (some .boolean) 8 0 0 true [(2, ((18 : Nat) : Int)), (3, x1)] n h (FQ 0 n (res, h)) := by
  refine con_of (pad := 1) (own := RX2) (plainFor_of_name (by decide)) rfl rfl ?_
  intro X hC hbt hr hnm hZ hRm hn0
  have hK : ∀ (x9 : Int), res = x9 → FQ 0 n (res, h) (0, x9) n h := fun x9 e => by subst e; exact ⟨rfl, rfl, rfl⟩
  unfold fX2_isWord at hF
  show AW G X 0 [(2, ((18 : Nat) : Int)), (3, x1), (9, 0)] [] n h 0 0
  refine aw_aload_n hC dX2_isWord_0 rfl ?_
  refine aw_g2i (k := 4) (a := 18) hC dX2_isWord_1 lkRX2_71 (by decide) rfl rfl rfl (Or.inl ⟨hbt, by decide⟩) ?_
  refine aw_iconst hC dX2_isWord_4 (by decide) ?_
  refine aw_icmp_ne (tgt := 36) hC dX2_isWord_5 (by decide) (fun c1 => ?_) (fun c1 => ?_)
  · have hF := it_f hF c1
    refine aw_iconst hC dX2_isWord_36 (by decide) ?_
    exact aw_zreturn hC hZ (Nat.zero_le _) (Nat.zero_le _) hr rfl dX2_isWord_37 (by decide) (hK _ (Option.some.inj hF).symm)
  · have hF := it_t hF c1
    refine aw_aload_n hC dX2_isWord_8 rfl ?_
    refine aw_g2i (k := 3) (a := 18) hC dX2_isWord_9 lkRX2_33 (by decide) rfl rfl rfl (Or.inl ⟨hbt, by decide⟩) ?_
    refine aw_aload_n hC dX2_isWord_12 rfl ?_
    refine aw_g2i (k := 2) (a := 18) hC dX2_isWord_13 lkRX2_83 (by decide) rfl rfl rfl (Or.inl ⟨hbt, by decide⟩) ?_
    refine aw_isub hC dX2_isWord_16 ?_
    refine aw_aload_n3 hC dX2_isWord_17 rfl ?_
    obtain ⟨k2, hF⟩ := gd_some hF
    refine aw_strlen hC hRm hbt k2 dX2_isWord_18 (Nat.le_of_ble_eq_true rfl) slnkRX2_99 (Nat.le_of_ble_eq_true rfl) ?_
    refine aw_icmp_ne (tgt := 36) hC dX2_isWord_21 (by decide) (fun c3 => ?_) (fun c3 => ?_)
    · have hF := it_f hF c3
      refine aw_iconst hC dX2_isWord_36 (by decide) ?_
      exact aw_zreturn hC hZ (Nat.zero_le _) (Nat.zero_le _) hr rfl dX2_isWord_37 (by decide) (hK _ (Option.some.inj hF).symm)
    · have hF := it_t hF c3
      refine aw_aload_n hC dX2_isWord_24 rfl ?_
      refine aw_g2i (k := 3) (a := 18) hC dX2_isWord_25 lkRX2_33 (by decide) rfl rfl rfl (Or.inl ⟨hbt, by decide⟩) ?_
      refine aw_aload_n hC dX2_isWord_28 rfl ?_
      refine aw_gc2 (k := 0) (a := 18) (b := 17) hC hbt dX2_isWord_29 lkRX2_15 (by decide) rfl rfl rfl (by decide) (by decide) ?_
      refine aw_alen (a := 17) hC dX2_isWord_32 rfl rfl (by decide) (by decide) (Or.inl ⟨hbt, by decide⟩) ?_
      refine aw_icmp_le (tgt := 38) hC dX2_isWord_33 (by decide) (fun c4 => ?_) (fun c4 => ?_)
      · have hF := it_t hF c4
        refine aw_iconst hC dX2_isWord_38 (by decide) ?_
        refine aw_istore2 hC dX2_isWord_39 rfl ?_
        obtain ⟨e11, he, hF⟩ := bp_some hF
        refine fX2_isWord_l40_ok hC hZ hRm hbt hr FU _ e11 he (fun er => ?_) (fun x9 e => by subst e; exact hK _ (Option.some.inj hF).symm)
        replace er := er.symm
        subst er
        try dsimp only at hF
        refine aw_iconst hC dX2_isWord_75 (by decide) ?_
        exact aw_zreturn hC hZ (Nat.zero_le _) (Nat.zero_le _) hr rfl dX2_isWord_76 (by decide) (hK _ (Option.some.inj hF).symm)
      · have hF := it_f hF c4
        refine aw_iconst hC dX2_isWord_36 (by decide) ?_
        exact aw_zreturn hC hZ (Nat.zero_le _) (Nat.zero_le _) hr rfl dX2_isWord_37 (by decide) (hK _ (Option.some.inj hF).symm)
def fX2_refuse (x1 : Int) (h : Hp) : Option (Int × Hp) :=
  (if (h 18 6) = 0 then lb_ (st h 18 6 x1) (fun h2 => lb_ (st h2 18 7 ((h2 18 2))) (fun h3 => some (0, h3))) else some (0, h))
theorem ok_X2_refuse {G : GD} {n : Nat} {x1 : Int} {h : Hp} {res : Int × Hp} (hF : fX2_refuse x1 h = some res) : Con G yX2_refuse cX2_refuse 2 none 0 0 0 true [(2, ((18 : Nat) : Int)), (0, x1)] n h (FQ 8 n res) := by
  refine con_of (pad := 0) (own := RX2) (plainFor_of_name (by decide)) rfl rfl ?_
  intro X hC hbt hr hnm hZ hRm hn0
  have hK : ∀ (x9 : Int) (h9 : Hp), res = (x9, h9) → FQ 8 n res (8, x9) n h9 := fun x9 h9 e => by subst e; exact ⟨rfl, rfl, rfl⟩
  unfold fX2_refuse at hF
  show AW G X 0 [(2, ((18 : Nat) : Int)), (0, x1)] [] n h 0 0
  refine aw_aload_n hC dX2_refuse_0 rfl ?_
  refine aw_g2i (k := 6) (a := 18) hC dX2_refuse_1 lkRX2_36 (by decide) rfl rfl rfl (Or.inl ⟨hbt, by decide⟩) ?_
  refine aw_if_ne (tgt := 20) hC dX2_refuse_4 (by decide) (fun c1 => ?_) (fun c1 => ?_)
  · have hF := it_f hF c1
    exact aw_return hC hZ (Nat.zero_le _) (Nat.zero_le _) hr dX2_refuse_20 (hK _ _ (Option.some.inj hF).symm)
  · have hF := it_t hF c1
    refine aw_aload_n hC dX2_refuse_7 rfl ?_
    refine aw_iload_n hC dX2_refuse_8 rfl ?_
    obtain ⟨h2, eh2, hF⟩ := lb_some hF
    refine aw_p2i (k := 6) (a := 18) hC dX2_refuse_9 lkRX2_36 (by decide) rfl rfl rfl rfl rfl (Or.inl ⟨hbt, by decide⟩) (fun _ => by decide) ?_
    refine aw_eqH eh2 ?_
    clear eh2
    refine aw_aload_n hC dX2_refuse_12 rfl ?_
    refine aw_aload_n hC dX2_refuse_13 rfl ?_
    refine aw_g2i (k := 2) (a := 18) hC dX2_refuse_14 lkRX2_83 (by decide) rfl rfl rfl (Or.inl ⟨hbt, by decide⟩) ?_
    obtain ⟨h3, eh3, hF⟩ := lb_some hF
    refine aw_p2i (k := 7) (a := 18) hC dX2_refuse_17 lkRX2_39 (by decide) rfl rfl rfl rfl rfl (Or.inl ⟨hbt, by decide⟩) (fun _ => by decide) ?_
    refine aw_eqH eh3 ?_
    clear eh3
    exact aw_return hC hZ (Nat.zero_le _) (Nat.zero_le _) hr dX2_refuse_20 (hK _ _ (Option.some.inj hF).symm)
def fX2_valueHere  (h : Hp) : Option (Int) :=
  bp_ (fX2_isWord 19 h) (fun r1 => (if r1 = 0 then bp_ (fX2_isWord 20 h) (fun r4 => (if r4 = 0 then bp_ (fX2_isWord 11 h) (fun r7 => (if r7 = 0 then bp_ (fX2_isWord 21 h) (fun r10 => (if r10 = 0 then bp_ (fX2_isWord 22 h) (fun r13 => (if r13 = 0 then bp_ (fX2_isWord 23 h) (fun r16 => (if r16 = 0 then bp_ (fX2_isWord 24 h) (fun r19 => (if r19 = 0 then some ((-1)) else some 26)) else some 25)) else some 24)) else some 23)) else some 22)) else some 21)) else some 20))
theorem ok_X2_valueHere {G : GD} {n : Nat}  {h : Hp} {res : Int} (hF : fX2_valueHere  h = some res) : Con G yX2_valueHere cX2_valueHere 1 (some .int) 9 0 0 true [(2, ((18 : Nat) : Int))] n h (FQ 0 n (res, h)) := by
  refine con_of (pad := 0) (own := RX2) (plainFor_of_name (by decide)) rfl rfl ?_
  intro X hC hbt hr hnm hZ hRm hn0
  have hK : ∀ (x9 : Int), res = x9 → FQ 0 n (res, h) (0, x9) n h := fun x9 e => by subst e; exact ⟨rfl, rfl, rfl⟩
  unfold fX2_valueHere at hF
  show AW G X 0 [(2, ((18 : Nat) : Int))] [] n h 0 0
  refine aw_aload_n hC dX2_valueHere_0 rfl ?_
  refine aw_ldcs_RX2_230 hC dX2_valueHere_1 ?_
  obtain ⟨r1, q2, hF⟩ := bp_some hF
  refine clRX2_64 hC hRm hbt dX2_valueHere_3 rfl rfl (by decide) (Nat.le_of_ble_eq_true rfl) (Nat.le_of_ble_eq_true rfl) (ok_X2_isWord q2) ?_
  refine aw_if_eq (tgt := 12) hC dX2_valueHere_6 (by decide) (fun c3 => ?_) (fun c3 => ?_)
  · have hF := it_t hF c3
    refine aw_aload_n hC dX2_valueHere_12 rfl ?_
    refine aw_ldcs_RX2_232 hC dX2_valueHere_13 ?_
    obtain ⟨r4, q5, hF⟩ := bp_some hF
    refine clRX2_64 hC hRm hbt dX2_valueHere_15 rfl rfl (by decide) (Nat.le_of_ble_eq_true rfl) (Nat.le_of_ble_eq_true rfl) (ok_X2_isWord q5) ?_
    refine aw_if_eq (tgt := 24) hC dX2_valueHere_18 (by decide) (fun c6 => ?_) (fun c6 => ?_)
    · have hF := it_t hF c6
      refine aw_aload_n hC dX2_valueHere_24 rfl ?_
      refine aw_ldcs_RX2_131 hC dX2_valueHere_25 ?_
      obtain ⟨r7, q8, hF⟩ := bp_some hF
      refine clRX2_64 hC hRm hbt dX2_valueHere_27 rfl rfl (by decide) (Nat.le_of_ble_eq_true rfl) (Nat.le_of_ble_eq_true rfl) (ok_X2_isWord q8) ?_
      refine aw_if_eq (tgt := 36) hC dX2_valueHere_30 (by decide) (fun c9 => ?_) (fun c9 => ?_)
      · have hF := it_t hF c9
        refine aw_aload_n hC dX2_valueHere_36 rfl ?_
        refine aw_ldcs_RX2_234 hC dX2_valueHere_37 ?_
        obtain ⟨r10, q11, hF⟩ := bp_some hF
        refine clRX2_64 hC hRm hbt dX2_valueHere_39 rfl rfl (by decide) (Nat.le_of_ble_eq_true rfl) (Nat.le_of_ble_eq_true rfl) (ok_X2_isWord q11) ?_
        refine aw_if_eq (tgt := 48) hC dX2_valueHere_42 (by decide) (fun c12 => ?_) (fun c12 => ?_)
        · have hF := it_t hF c12
          refine aw_aload_n hC dX2_valueHere_48 rfl ?_
          refine aw_ldcs_RX2_235 hC dX2_valueHere_49 ?_
          obtain ⟨r13, q14, hF⟩ := bp_some hF
          refine clRX2_64 hC hRm hbt dX2_valueHere_51 rfl rfl (by decide) (Nat.le_of_ble_eq_true rfl) (Nat.le_of_ble_eq_true rfl) (ok_X2_isWord q14) ?_
          refine aw_if_eq (tgt := 60) hC dX2_valueHere_54 (by decide) (fun c15 => ?_) (fun c15 => ?_)
          · have hF := it_t hF c15
            refine aw_aload_n hC dX2_valueHere_60 rfl ?_
            refine aw_ldcs_RX2_237 hC dX2_valueHere_61 ?_
            obtain ⟨r16, q17, hF⟩ := bp_some hF
            refine clRX2_64 hC hRm hbt dX2_valueHere_63 rfl rfl (by decide) (Nat.le_of_ble_eq_true rfl) (Nat.le_of_ble_eq_true rfl) (ok_X2_isWord q17) ?_
            refine aw_if_eq (tgt := 72) hC dX2_valueHere_66 (by decide) (fun c18 => ?_) (fun c18 => ?_)
            · have hF := it_t hF c18
              refine aw_aload_n hC dX2_valueHere_72 rfl ?_
              refine aw_ldcs_RX2_238 hC dX2_valueHere_73 ?_
              obtain ⟨r19, q20, hF⟩ := bp_some hF
              refine clRX2_64 hC hRm hbt dX2_valueHere_75 rfl rfl (by decide) (Nat.le_of_ble_eq_true rfl) (Nat.le_of_ble_eq_true rfl) (ok_X2_isWord q20) ?_
              refine aw_if_eq (tgt := 86) hC dX2_valueHere_78 (by decide) (fun c21 => ?_) (fun c21 => ?_)
              · have hF := it_t hF c21
                refine aw_iconst hC dX2_valueHere_86 (by decide) ?_
                exact aw_ireturn hC hZ (Nat.zero_le _) (Nat.zero_le _) hr dX2_valueHere_87 (hK _ (Option.some.inj hF).symm)
              · have hF := it_f hF c21
                refine aw_bipush hC dX2_valueHere_81 (by decide) (by decide) ?_
                refine aw_goto (tgt := 87) hC dX2_valueHere_83 (by decide) ?_
                exact aw_ireturn hC hZ (Nat.zero_le _) (Nat.zero_le _) hr dX2_valueHere_87 (hK _ (Option.some.inj hF).symm)
            · have hF := it_f hF c18
              refine aw_bipush hC dX2_valueHere_69 (by decide) (by decide) ?_
              exact aw_ireturn hC hZ (Nat.zero_le _) (Nat.zero_le _) hr dX2_valueHere_71 (hK _ (Option.some.inj hF).symm)
          · have hF := it_f hF c15
            refine aw_bipush hC dX2_valueHere_57 (by decide) (by decide) ?_
            exact aw_ireturn hC hZ (Nat.zero_le _) (Nat.zero_le _) hr dX2_valueHere_59 (hK _ (Option.some.inj hF).symm)
        · have hF := it_f hF c12
          refine aw_bipush hC dX2_valueHere_45 (by decide) (by decide) ?_
          exact aw_ireturn hC hZ (Nat.zero_le _) (Nat.zero_le _) hr dX2_valueHere_47 (hK _ (Option.some.inj hF).symm)
      · have hF := it_f hF c9
        refine aw_bipush hC dX2_valueHere_33 (by decide) (by decide) ?_
        exact aw_ireturn hC hZ (Nat.zero_le _) (Nat.zero_le _) hr dX2_valueHere_35 (hK _ (Option.some.inj hF).symm)
    · have hF := it_f hF c6
      refine aw_bipush hC dX2_valueHere_21 (by decide) (by decide) ?_
      exact aw_ireturn hC hZ (Nat.zero_le _) (Nat.zero_le _) hr dX2_valueHere_23 (hK _ (Option.some.inj hF).symm)
  · have hF := it_f hF c3
    refine aw_bipush hC dX2_valueHere_9 (by decide) (by decide) ?_
    exact aw_ireturn hC hZ (Nat.zero_le _) (Nat.zero_le _) hr dX2_valueHere_11 (hK _ (Option.some.inj hF).symm)
def fX2_put (x1 : Int) (h : Hp) : Option (Int × Hp) :=
  gd_ ((h 18 8) = 1 ∨ (h 18 8) = 9) ((if ((700 : Nat) : Int) ≤ (h 18 14) then some (0, h) else gd_ (0 ≤ (h 18 14) ∧ (h 18 14) < 700) (lb_ (st h (Int.toNat ((h 18 8) + 6)) (Int.toNat ((h 18 14))) x1) (fun h4 => lb_ (st h4 18 14 ((i_add ((h4 18 14)) 1))) (fun h5 => some (0, h5))))))
theorem ok_X2_put {G : GD} {n : Nat} {x1 : Int} {h : Hp} {res : Int × Hp} (hF : fX2_put x1 h = some res) : Con G yX2_put cX2_put 2 none 0 0 0 true [(2, ((18 : Nat) : Int)), (0, x1)] n h (FQ 8 n res) := by
  refine con_of (pad := 0) (own := RX2) (plainFor_of_name (by decide)) rfl rfl ?_
  intro X hC hbt hr hnm hZ hRm hn0
  have hK : ∀ (x9 : Int) (h9 : Hp), res = (x9, h9) → FQ 8 n res (8, x9) n h9 := fun x9 h9 e => by subst e; exact ⟨rfl, rfl, rfl⟩
  unfold fX2_put at hF
  show AW G X 0 [(2, ((18 : Nat) : Int)), (0, x1)] [] n h 0 0
  refine aw_aload_n hC dX2_put_0 rfl ?_
  refine aw_g2i (k := 14) (a := 18) hC dX2_put_1 lkRX2_52 (by decide) rfl rfl rfl (Or.inl ⟨hbt, by decide⟩) ?_
  refine aw_aload_n hC dX2_put_4 rfl ?_
  refine aw_g2r (k := 8) (a := 18) hC dX2_put_5 lkRX2_19 (by decide) rfl rfl rfl (Or.inl ⟨hbt, by decide⟩) ?_
  obtain ⟨k1, hF⟩ := gd_some hF
  refine aw_gL6N hC hbt k1 dX2_put_8 lkRX2_223 ?_
  refine aw_alen (a := (Int.toNat ((h 18 8) + 6))) hC dX2_put_11 (lnd6 k1).1 (lnd6 k1).2.1 (by decide) (by decide) (Or.inl ⟨hbt, (lnd6 k1).2.2⟩) ?_
  refine aw_icmp_ge (tgt := 38) hC dX2_put_12 (by decide) (fun c2 => ?_) (fun c2 => ?_)
  · have hF := it_t hF c2
    exact aw_return hC hZ (Nat.zero_le _) (Nat.zero_le _) hr dX2_put_38 (hK _ _ (Option.some.inj hF).symm)
  · have hF := it_f hF c2
    refine aw_aload_n hC dX2_put_15 rfl ?_
    refine aw_g2r (k := 8) (a := 18) hC dX2_put_16 lkRX2_19 (by decide) rfl rfl rfl (Or.inl ⟨hbt, by decide⟩) ?_
    refine aw_gL6N hC hbt k1 dX2_put_19 lkRX2_223 ?_
    refine aw_aload_n hC dX2_put_22 rfl ?_
    refine aw_g2i (k := 14) (a := 18) hC dX2_put_23 lkRX2_52 (by decide) rfl rfl rfl (Or.inl ⟨hbt, by decide⟩) ?_
    refine aw_iload_n hC dX2_put_26 rfl ?_
    obtain ⟨g3, hF⟩ := gd_some hF
    obtain ⟨h4, eh4, hF⟩ := lb_some hF
    refine aw_iastore (a := (Int.toNat ((h 18 8) + 6))) hC dX2_put_27 (lnd6 k1).1 (lnd6 k1).2.1 (Or.inl ⟨hbt, (lnd6 k1).2.2⟩) g3.1 g3.2 ?_
    refine aw_eqH eh4 ?_
    clear eh4
    refine aw_aload_n hC dX2_put_28 rfl ?_
    refine aw_dup hC dX2_put_29 (by simp) ?_
    refine aw_g2i (k := 14) (a := 18) hC dX2_put_30 lkRX2_52 (by decide) rfl rfl rfl (Or.inl ⟨hbt, by decide⟩) ?_
    refine aw_iconst hC dX2_put_33 (by decide) ?_
    refine aw_iadd hC dX2_put_34 ?_
    obtain ⟨h5, eh5, hF⟩ := lb_some hF
    refine aw_p2i (k := 14) (a := 18) hC dX2_put_35 lkRX2_52 (by decide) rfl rfl rfl rfl rfl (Or.inl ⟨hbt, by decide⟩) (fun _ => by decide) ?_
    refine aw_eqH eh5 ?_
    clear eh5
    exact aw_return hC hZ (Nat.zero_le _) (Nat.zero_le _) hr dX2_put_38 (hK _ _ (Option.some.inj hF).symm)
def fX2_makeWait (x1 : Int) (h : Hp) : Option (Int × Hp) :=
  (if ((128 : Nat) : Int) ≤ (h 18 13) then some (0, h) else gd_ (0 ≤ (h 18 13) ∧ (h 18 13) < 128) (lb_ (st h 19 (Int.toNat ((h 18 13))) x1) (fun h3 => lb_ (st h3 18 13 ((i_add ((h3 18 13)) 1))) (fun h4 => some (0, h4)))))
theorem ok_X2_makeWait {G : GD} {n : Nat} {x1 : Int} {h : Hp} {res : Int × Hp} (hF : fX2_makeWait x1 h = some res) : Con G yX2_makeWait cX2_makeWait 2 none 0 0 0 true [(2, ((18 : Nat) : Int)), (0, x1)] n h (FQ 8 n res) := by
  refine con_of (pad := 0) (own := RX2) (plainFor_of_name (by decide)) rfl rfl ?_
  intro X hC hbt hr hnm hZ hRm hn0
  have hK : ∀ (x9 : Int) (h9 : Hp), res = (x9, h9) → FQ 8 n res (8, x9) n h9 := fun x9 h9 e => by subst e; exact ⟨rfl, rfl, rfl⟩
  unfold fX2_makeWait at hF
  show AW G X 0 [(2, ((18 : Nat) : Int)), (0, x1)] [] n h 0 0
  refine aw_aload_n hC dX2_makeWait_0 rfl ?_
  refine aw_g2i (k := 13) (a := 18) hC dX2_makeWait_1 lkRX2_181 (by decide) rfl rfl rfl (Or.inl ⟨hbt, by decide⟩) ?_
  refine aw_aload_n hC dX2_makeWait_4 rfl ?_
  refine aw_gc2 (k := 12) (a := 18) (b := 19) hC hbt dX2_makeWait_5 lkRX2_11 (by decide) rfl rfl rfl (by decide) (by decide) ?_
  refine aw_alen (a := 19) hC dX2_makeWait_8 rfl rfl (by decide) (by decide) (Or.inl ⟨hbt, by decide⟩) ?_
  refine aw_icmp_ge (tgt := 32) hC dX2_makeWait_9 (by decide) (fun c1 => ?_) (fun c1 => ?_)
  · have hF := it_t hF c1
    exact aw_return hC hZ (Nat.zero_le _) (Nat.zero_le _) hr dX2_makeWait_32 (hK _ _ (Option.some.inj hF).symm)
  · have hF := it_f hF c1
    refine aw_aload_n hC dX2_makeWait_12 rfl ?_
    refine aw_gc2 (k := 12) (a := 18) (b := 19) hC hbt dX2_makeWait_13 lkRX2_11 (by decide) rfl rfl rfl (by decide) (by decide) ?_
    refine aw_aload_n hC dX2_makeWait_16 rfl ?_
    refine aw_g2i (k := 13) (a := 18) hC dX2_makeWait_17 lkRX2_181 (by decide) rfl rfl rfl (Or.inl ⟨hbt, by decide⟩) ?_
    refine aw_iload_n hC dX2_makeWait_20 rfl ?_
    obtain ⟨g2, hF⟩ := gd_some hF
    obtain ⟨h3, eh3, hF⟩ := lb_some hF
    refine aw_iastore (a := 19) hC dX2_makeWait_21 rfl rfl (Or.inl ⟨hbt, by decide⟩) g2.1 g2.2 ?_
    refine aw_eqH eh3 ?_
    clear eh3
    refine aw_aload_n hC dX2_makeWait_22 rfl ?_
    refine aw_dup hC dX2_makeWait_23 (by simp) ?_
    refine aw_g2i (k := 13) (a := 18) hC dX2_makeWait_24 lkRX2_181 (by decide) rfl rfl rfl (Or.inl ⟨hbt, by decide⟩) ?_
    refine aw_iconst hC dX2_makeWait_27 (by decide) ?_
    refine aw_iadd hC dX2_makeWait_28 ?_
    obtain ⟨h4, eh4, hF⟩ := lb_some hF
    refine aw_p2i (k := 13) (a := 18) hC dX2_makeWait_29 lkRX2_181 (by decide) rfl rfl rfl rfl rfl (Or.inl ⟨hbt, by decide⟩) (fun _ => by decide) ?_
    refine aw_eqH eh4 ?_
    clear eh4
    exact aw_return hC hZ (Nat.zero_le _) (Nat.zero_le _) hr dX2_makeWait_32 (hK _ _ (Option.some.inj hF).symm)
def fX2_numberHere_j37 (x1 : Int) (h : Hp) : Option (Int × Hp) :=
  (if (h 18 6) = 0 then some ((h 18 5), h) else some (x1, h))
def fX2_numberHere_j32 (x1 : Int) (h : Hp) : Option (Int × Hp) :=
  bd_ (fX2_refuse 2 h) (fun r3 h5 => fX2_numberHere_j37 x1 h5)
def fX2_numberHere (x1 : Int) (x2 : Int) (h : Hp) : Option (Int × Hp) :=
  (if (h 18 4) = 2 then (if (h 18 5) < x1 then fX2_numberHere_j32 x1 h else (if (h 18 5) ≤ x2 then fX2_numberHere_j37 x1 h else fX2_numberHere_j32 x1 h)) else bd_ (fX2_refuse 1 h) (fun r8 h10 => fX2_numberHere_j37 x1 h10))
theorem fX2_numberHere_j37_ok {G : GD} {X : CX} {n : Nat} {Q : Av → Nat → Hp → Prop} (hC : Cx G X RX2 cX2_numberHere) (hZ : ZOK X G Q 0 0) (hRm : X.R = rmd 1 0 0) (hbt : X.bt = true) (hr : X.meth.sig.returnType = (some .int)) {x1 : Int} {h : Hp} {res : Int × Hp} (hF : fX2_numberHere_j37 x1 h = some res) (hK : ∀ (x9 : Int) (h9 : Hp), res = (x9, h9) → Q (0, x9) n h9) : AW G X 37 [(2, ((18 : Nat) : Int)), (0, x1), (9, 0)] [] n h 0 0 := by
  unfold fX2_numberHere_j37 at hF
  refine aw_aload_n hC dX2_numberHere_37 rfl ?_
  refine aw_g2i (k := 6) (a := 18) hC dX2_numberHere_38 lkRX2_36 (by decide) rfl rfl rfl (Or.inl ⟨hbt, by decide⟩) ?_
  refine aw_if_ne (tgt := 51) hC dX2_numberHere_41 (by decide) (fun c6 => ?_) (fun c6 => ?_)
  · have hF := it_f hF c6
    refine aw_iload_n hC dX2_numberHere_51 rfl ?_
    exact aw_ireturn hC hZ (Nat.zero_le _) (Nat.zero_le _) hr dX2_numberHere_52 (hK _ _ (Option.some.inj hF).symm)
  · have hF := it_t hF c6
    refine aw_aload_n hC dX2_numberHere_44 rfl ?_
    refine aw_g2i (k := 5) (a := 18) hC dX2_numberHere_45 lkRX2_93 (by decide) rfl rfl rfl (Or.inl ⟨hbt, by decide⟩) ?_
    refine aw_goto (tgt := 52) hC dX2_numberHere_48 (by decide) ?_
    exact aw_ireturn hC hZ (Nat.zero_le _) (Nat.zero_le _) hr dX2_numberHere_52 (hK _ _ (Option.some.inj hF).symm)
theorem fX2_numberHere_j32_ok {G : GD} {X : CX} {n : Nat} {Q : Av → Nat → Hp → Prop} (hC : Cx G X RX2 cX2_numberHere) (hZ : ZOK X G Q 0 0) (hRm : X.R = rmd 1 0 0) (hbt : X.bt = true) (hr : X.meth.sig.returnType = (some .int)) {x1 : Int} {h : Hp} {res : Int × Hp} (hF : fX2_numberHere_j32 x1 h = some res) (hK : ∀ (x9 : Int) (h9 : Hp), res = (x9, h9) → Q (0, x9) n h9) : AW G X 32 [(2, ((18 : Nat) : Int)), (0, x1), (9, 0)] [] n h 0 0 := by
  unfold fX2_numberHere_j32 at hF
  refine aw_aload_n hC dX2_numberHere_32 rfl ?_
  refine aw_iconst hC dX2_numberHere_33 (by decide) ?_
  obtain ⟨r3, h5, q4, hF⟩ := bd_some hF
  refine clRX2_108 hC hRm hbt dX2_numberHere_34 rfl rfl (by decide) (Nat.le_of_ble_eq_true rfl) (Nat.le_of_ble_eq_true rfl) (ok_X2_refuse q4) ?_
  exact fX2_numberHere_j37_ok hC hZ hRm hbt hr hF hK
theorem ok_X2_numberHere {G : GD} {n : Nat} {x1 : Int} {x2 : Int} {h : Hp} {res : Int × Hp} (hF : fX2_numberHere x1 x2 h = some res) : Con G yX2_numberHere cX2_numberHere 3 (some .int) 1 0 0 true [(2, ((18 : Nat) : Int)), (0, x1), (0, x2)] n h (FQ 0 n res) := by
  refine con_of (pad := 0) (own := RX2) (plainFor_of_name (by decide)) rfl rfl ?_
  intro X hC hbt hr hnm hZ hRm hn0
  have hK : ∀ (x9 : Int) (h9 : Hp), res = (x9, h9) → FQ 0 n res (0, x9) n h9 := fun x9 h9 e => by subst e; exact ⟨rfl, rfl, rfl⟩
  unfold fX2_numberHere at hF
  show AW G X 0 [(2, ((18 : Nat) : Int)), (0, x1), (0, x2)] [] n h 0 0
  refine aw_aload_n hC dX2_numberHere_0 rfl ?_
  refine aw_g2i (k := 4) (a := 18) hC dX2_numberHere_1 lkRX2_71 (by decide) rfl rfl rfl (Or.inl ⟨hbt, by decide⟩) ?_
  refine aw_iconst hC dX2_numberHere_4 (by decide) ?_
  refine aw_icmp_eq (tgt := 16) hC dX2_numberHere_5 (by decide) (fun c1 => ?_) (fun c1 => ?_)
  · have hF := it_t hF c1
    refine aw_aload_n hC dX2_numberHere_16 rfl ?_
    refine aw_g2i (k := 5) (a := 18) hC dX2_numberHere_17 lkRX2_93 (by decide) rfl rfl rfl (Or.inl ⟨hbt, by decide⟩) ?_
    refine aw_iload_n hC dX2_numberHere_20 rfl ?_
    refine aw_icmp_lt (tgt := 32) hC dX2_numberHere_21 (by decide) (fun c2 => ?_) (fun c2 => ?_)
    · have hF := it_t hF c2
      refine aw_weak (ls' := [(2, ((18 : Nat) : Int)), (0, x1), (9, 0)]) ⟨Or.inr rfl, Or.inr rfl, Or.inl rfl, trivial⟩ ?_
      exact fX2_numberHere_j32_ok hC hZ hRm hbt hr hF hK
    · have hF := it_f hF c2
      refine aw_aload_n hC dX2_numberHere_24 rfl ?_
      refine aw_g2i (k := 5) (a := 18) hC dX2_numberHere_25 lkRX2_93 (by decide) rfl rfl rfl (Or.inl ⟨hbt, by decide⟩) ?_
      refine aw_iload_n hC dX2_numberHere_28 rfl ?_
      refine aw_icmp_le (tgt := 37) hC dX2_numberHere_29 (by decide) (fun c7 => ?_) (fun c7 => ?_)
      · have hF := it_t hF c7
        refine aw_weak (ls' := [(2, ((18 : Nat) : Int)), (0, x1), (9, 0)]) ⟨Or.inr rfl, Or.inr rfl, Or.inl rfl, trivial⟩ ?_
        exact fX2_numberHere_j37_ok hC hZ hRm hbt hr hF hK
      · have hF := it_f hF c7
        refine aw_weak (ls' := [(2, ((18 : Nat) : Int)), (0, x1), (9, 0)]) ⟨Or.inr rfl, Or.inr rfl, Or.inl rfl, trivial⟩ ?_
        exact fX2_numberHere_j32_ok hC hZ hRm hbt hr hF hK
  · have hF := it_f hF c1
    refine aw_aload_n hC dX2_numberHere_8 rfl ?_
    refine aw_iconst hC dX2_numberHere_9 (by decide) ?_
    obtain ⟨r8, h10, q9, hF⟩ := bd_some hF
    refine clRX2_108 hC hRm hbt dX2_numberHere_10 rfl rfl (by decide) (Nat.le_of_ble_eq_true rfl) (Nat.le_of_ble_eq_true rfl) (ok_X2_refuse q9) ?_
    refine aw_goto (tgt := 37) hC dX2_numberHere_13 (by decide) ?_
    refine aw_weak (ls' := [(2, ((18 : Nat) : Int)), (0, x1), (9, 0)]) ⟨Or.inr rfl, Or.inr rfl, Or.inl rfl, trivial⟩ ?_
    exact fX2_numberHere_j37_ok hC hZ hRm hbt hr hF hK
def fX2_readPart_j146  (h : Hp) : Option (Int × Hp) :=
  bp_ (fX2_valueHere h) (fun r8 => (if r8 = (-1) then bd_ (fX2_refuse 3 h) (fun r14 h16 => some (4, h16)) else bd_ (fX2_put r8 h) (fun r11 h13 => some (3, h13))))
def fX2_readPart_j76 (x1 : Int) (h : Hp) : Option (Int × Hp) :=
  (if (h 18 4) = 40 then lb_ (st h 18 15 ((i_add ((h 18 15)) 1))) (fun h27 => bd_ (fX2_makeWait 0 h27) (fun r28 h30 => some (0, h30))) else (if (h 18 4) = 2 then bd_ (fX2_numberHere 0 9999 h) (fun r21 h23 => bd_ (fX2_put ((i_add 100 r21)) h23) (fun r24 h26 => some (3, h26))) else (if (h 18 16) ≤ 0 then fX2_readPart_j146 h else (if x1 = 2 then fX2_readPart_j146 h else bd_ (fX2_makeWait 3 h) (fun r18 h20 => some (1, h20))))))
def fX2_readPart_j69  (h : Hp) : Option (Int × Hp) :=
  bd_ (fX2_refuse 2 h) (fun r32 h34 => some (4, h34))
def fX2_readPart_j55 (x1 : Int) (h : Hp) : Option (Int × Hp) :=
  (if (h 18 16) ≤ 6 then fX2_readPart_j76 x1 h else (if x1 = 2 then fX2_readPart_j76 x1 h else fX2_readPart_j69 h))
def fX2_readPart_j30 (x1 : Int) (z0 : Int) (h : Hp) : Option (Int × Hp) :=
  (if z0 = 0 then bd_ (fX2_refuse 1 h) (fun r36 h38 => some (4, h38)) else (if x1 = 0 then (if 6 ≤ (h 18 15) then fX2_readPart_j69 h else fX2_readPart_j55 x1 h) else fX2_readPart_j55 x1 h))
def fX2_readPart_j25 (x1 : Int) (h : Hp) : Option (Int × Hp) :=
  fX2_readPart_j30 x1 1 h
def fX2_readPart (x1 : Int) (h : Hp) : Option (Int × Hp) :=
  (if (h 18 4) = 2 then fX2_readPart_j25 x1 h else (if (h 18 4) = 1 then fX2_readPart_j25 x1 h else (if (h 18 4) = 40 then fX2_readPart_j25 x1 h else fX2_readPart_j30 x1 0 h)))
theorem fX2_readPart_j146_ok {G : GD} {X : CX} {n : Nat} {Q : Av → Nat → Hp → Prop} (hC : Cx G X RX2 cX2_readPart) (hZ : ZOK X G Q 0 0) (hRm : X.R = rmd 10 0 0) (hbt : X.bt = true) (hr : X.meth.sig.returnType = (some .int))  {h : Hp} {res : Int × Hp} (hF : fX2_readPart_j146  h = some res) (hK : ∀ (x9 : Int) (h9 : Hp), res = (x9, h9) → Q (0, x9) n h9) : AW G X 146 [(2, ((18 : Nat) : Int)), (9, 0), (9, 0), (9, 0)] [] n h 0 0 := by
  unfold fX2_readPart_j146 at hF
  refine aw_aload_n hC dX2_readPart_146 rfl ?_
  obtain ⟨r8, q9, hF⟩ := bp_some hF
  refine clRX2_208 hC hRm hbt dX2_readPart_147 rfl rfl (by decide) (Nat.le_of_ble_eq_true rfl) (Nat.le_of_ble_eq_true rfl) (ok_X2_valueHere q9) ?_
  refine aw_istore3 hC dX2_readPart_150 rfl ?_
  refine aw_iload_n hC dX2_readPart_151 rfl ?_
  refine aw_iconst hC dX2_readPart_152 (by decide) ?_
  refine aw_icmp_ne (tgt := 163) hC dX2_readPart_153 (by decide) (fun c10 => ?_) (fun c10 => ?_)
  · have hF := it_f hF c10
    refine aw_aload_n hC dX2_readPart_163 rfl ?_
    refine aw_iload_n hC dX2_readPart_164 rfl ?_
    obtain ⟨r11, h13, q12, hF⟩ := bd_some hF
    refine clRX2_205 hC hRm hbt dX2_readPart_165 rfl rfl (by decide) (Nat.le_of_ble_eq_true rfl) (Nat.le_of_ble_eq_true rfl) (ok_X2_put q12) ?_
    refine aw_iconst hC dX2_readPart_168 (by decide) ?_
    exact aw_ireturn hC hZ (Nat.zero_le _) (Nat.zero_le _) hr dX2_readPart_169 (hK _ _ (Option.some.inj hF).symm)
  · have hF := it_t hF c10
    refine aw_aload_n hC dX2_readPart_156 rfl ?_
    refine aw_iconst hC dX2_readPart_157 (by decide) ?_
    obtain ⟨r14, h16, q15, hF⟩ := bd_some hF
    refine clRX2_108 hC hRm hbt dX2_readPart_158 rfl rfl (by decide) (Nat.le_of_ble_eq_true rfl) (Nat.le_of_ble_eq_true rfl) (ok_X2_refuse q15) ?_
    refine aw_iconst hC dX2_readPart_161 (by decide) ?_
    exact aw_ireturn hC hZ (Nat.zero_le _) (Nat.zero_le _) hr dX2_readPart_162 (hK _ _ (Option.some.inj hF).symm)
theorem fX2_readPart_j76_ok {G : GD} {X : CX} {n : Nat} {Q : Av → Nat → Hp → Prop} (hC : Cx G X RX2 cX2_readPart) (hZ : ZOK X G Q 0 0) (hRm : X.R = rmd 10 0 0) (hbt : X.bt = true) (hr : X.meth.sig.returnType = (some .int)) {x1 : Int} {h : Hp} {res : Int × Hp} (hF : fX2_readPart_j76 x1 h = some res) (hK : ∀ (x9 : Int) (h9 : Hp), res = (x9, h9) → Q (0, x9) n h9) : AW G X 76 [(2, ((18 : Nat) : Int)), (0, x1), (9, 0), (9, 0)] [] n h 0 0 := by
  unfold fX2_readPart_j76 at hF
  refine aw_aload_n hC dX2_readPart_76 rfl ?_
  refine aw_g2i (k := 4) (a := 18) hC dX2_readPart_77 lkRX2_71 (by decide) rfl rfl rfl (Or.inl ⟨hbt, by decide⟩) ?_
  refine aw_bipush hC dX2_readPart_80 (by decide) (by decide) ?_
  refine aw_icmp_ne (tgt := 102) hC dX2_readPart_82 (by decide) (fun c5 => ?_) (fun c5 => ?_)
  · have hF := it_f hF c5
    refine aw_aload_n hC dX2_readPart_102 rfl ?_
    refine aw_g2i (k := 4) (a := 18) hC dX2_readPart_103 lkRX2_71 (by decide) rfl rfl rfl (Or.inl ⟨hbt, by decide⟩) ?_
    refine aw_iconst hC dX2_readPart_106 (by decide) ?_
    refine aw_icmp_ne (tgt := 127) hC dX2_readPart_107 (by decide) (fun c6 => ?_) (fun c6 => ?_)
    · have hF := it_f hF c6
      refine aw_aload_n hC dX2_readPart_127 rfl ?_
      refine aw_g2i (k := 16) (a := 18) hC dX2_readPart_128 lkRX2_187 (by decide) rfl rfl rfl (Or.inl ⟨hbt, by decide⟩) ?_
      refine aw_if_le (tgt := 146) hC dX2_readPart_131 (by decide) (fun c7 => ?_) (fun c7 => ?_)
      · have hF := it_t hF c7
        refine aw_weak (ls' := [(2, ((18 : Nat) : Int)), (9, 0), (9, 0), (9, 0)]) ⟨Or.inr rfl, Or.inl rfl, Or.inl rfl, Or.inl rfl, trivial⟩ ?_
        exact fX2_readPart_j146_ok hC hZ hRm hbt hr hF hK
      · have hF := it_f hF c7
        refine aw_iload_n hC dX2_readPart_134 rfl ?_
        refine aw_iconst hC dX2_readPart_135 (by decide) ?_
        refine aw_icmp_eq (tgt := 146) hC dX2_readPart_136 (by decide) (fun c17 => ?_) (fun c17 => ?_)
        · have hF := it_t hF c17
          refine aw_weak (ls' := [(2, ((18 : Nat) : Int)), (9, 0), (9, 0), (9, 0)]) ⟨Or.inr rfl, Or.inl rfl, Or.inl rfl, Or.inl rfl, trivial⟩ ?_
          exact fX2_readPart_j146_ok hC hZ hRm hbt hr hF hK
        · have hF := it_f hF c17
          refine aw_aload_n hC dX2_readPart_139 rfl ?_
          refine aw_iconst hC dX2_readPart_140 (by decide) ?_
          obtain ⟨r18, h20, q19, hF⟩ := bd_some hF
          refine clRX2_202 hC hRm hbt dX2_readPart_141 rfl rfl (by decide) (Nat.le_of_ble_eq_true rfl) (Nat.le_of_ble_eq_true rfl) (ok_X2_makeWait q19) ?_
          refine aw_iconst hC dX2_readPart_144 (by decide) ?_
          exact aw_ireturn hC hZ (Nat.zero_le _) (Nat.zero_le _) hr dX2_readPart_145 (hK _ _ (Option.some.inj hF).symm)
    · have hF := it_t hF c6
      refine aw_aload_n hC dX2_readPart_110 rfl ?_
      refine aw_bipush hC dX2_readPart_111 (by decide) (by decide) ?_
      refine aw_aload_n hC dX2_readPart_113 rfl ?_
      refine aw_iconst hC dX2_readPart_114 (by decide) ?_
      refine aw_sipush hC dX2_readPart_115 (by decide) (by decide) ?_
      obtain ⟨r21, h23, q22, hF⟩ := bd_some hF
      refine clRX2_112 hC hRm hbt dX2_readPart_118 rfl rfl (by decide) (Nat.le_of_ble_eq_true rfl) (Nat.le_of_ble_eq_true rfl) (ok_X2_numberHere q22) ?_
      refine aw_iadd hC dX2_readPart_121 ?_
      obtain ⟨r24, h26, q25, hF⟩ := bd_some hF
      refine clRX2_205 hC hRm hbt dX2_readPart_122 rfl rfl (by decide) (Nat.le_of_ble_eq_true rfl) (Nat.le_of_ble_eq_true rfl) (ok_X2_put q25) ?_
      refine aw_iconst hC dX2_readPart_125 (by decide) ?_
      exact aw_ireturn hC hZ (Nat.zero_le _) (Nat.zero_le _) hr dX2_readPart_126 (hK _ _ (Option.some.inj hF).symm)
  · have hF := it_t hF c5
    refine aw_aload_n hC dX2_readPart_85 rfl ?_
    refine aw_dup hC dX2_readPart_86 (by simp) ?_
    refine aw_g2i (k := 15) (a := 18) hC dX2_readPart_87 lkRX2_184 (by decide) rfl rfl rfl (Or.inl ⟨hbt, by decide⟩) ?_
    refine aw_iconst hC dX2_readPart_90 (by decide) ?_
    refine aw_iadd hC dX2_readPart_91 ?_
    obtain ⟨h27, eh27, hF⟩ := lb_some hF
    refine aw_p2i (k := 15) (a := 18) hC dX2_readPart_92 lkRX2_184 (by decide) rfl rfl rfl rfl rfl (Or.inl ⟨hbt, by decide⟩) (fun _ => by decide) ?_
    refine aw_eqH eh27 ?_
    clear eh27
    refine aw_aload_n hC dX2_readPart_95 rfl ?_
    refine aw_iconst hC dX2_readPart_96 (by decide) ?_
    obtain ⟨r28, h30, q29, hF⟩ := bd_some hF
    refine clRX2_202 hC hRm hbt dX2_readPart_97 rfl rfl (by decide) (Nat.le_of_ble_eq_true rfl) (Nat.le_of_ble_eq_true rfl) (ok_X2_makeWait q29) ?_
    refine aw_iconst hC dX2_readPart_100 (by decide) ?_
    exact aw_ireturn hC hZ (Nat.zero_le _) (Nat.zero_le _) hr dX2_readPart_101 (hK _ _ (Option.some.inj hF).symm)
theorem fX2_readPart_j69_ok {G : GD} {X : CX} {n : Nat} {Q : Av → Nat → Hp → Prop} (hC : Cx G X RX2 cX2_readPart) (hZ : ZOK X G Q 0 0) (hRm : X.R = rmd 10 0 0) (hbt : X.bt = true) (hr : X.meth.sig.returnType = (some .int))  {h : Hp} {res : Int × Hp} (hF : fX2_readPart_j69  h = some res) (hK : ∀ (x9 : Int) (h9 : Hp), res = (x9, h9) → Q (0, x9) n h9) : AW G X 69 [(2, ((18 : Nat) : Int)), (9, 0), (9, 0), (9, 0)] [] n h 0 0 := by
  unfold fX2_readPart_j69 at hF
  refine aw_aload_n hC dX2_readPart_69 rfl ?_
  refine aw_iconst hC dX2_readPart_70 (by decide) ?_
  obtain ⟨r32, h34, q33, hF⟩ := bd_some hF
  refine clRX2_108 hC hRm hbt dX2_readPart_71 rfl rfl (by decide) (Nat.le_of_ble_eq_true rfl) (Nat.le_of_ble_eq_true rfl) (ok_X2_refuse q33) ?_
  refine aw_iconst hC dX2_readPart_74 (by decide) ?_
  exact aw_ireturn hC hZ (Nat.zero_le _) (Nat.zero_le _) hr dX2_readPart_75 (hK _ _ (Option.some.inj hF).symm)
theorem fX2_readPart_j55_ok {G : GD} {X : CX} {n : Nat} {Q : Av → Nat → Hp → Prop} (hC : Cx G X RX2 cX2_readPart) (hZ : ZOK X G Q 0 0) (hRm : X.R = rmd 10 0 0) (hbt : X.bt = true) (hr : X.meth.sig.returnType = (some .int)) {x1 : Int} {h : Hp} {res : Int × Hp} (hF : fX2_readPart_j55 x1 h = some res) (hK : ∀ (x9 : Int) (h9 : Hp), res = (x9, h9) → Q (0, x9) n h9) : AW G X 55 [(2, ((18 : Nat) : Int)), (0, x1), (9, 0), (9, 0)] [] n h 0 0 := by
  unfold fX2_readPart_j55 at hF
  refine aw_aload_n hC dX2_readPart_55 rfl ?_
  refine aw_g2i (k := 16) (a := 18) hC dX2_readPart_56 lkRX2_187 (by decide) rfl rfl rfl (Or.inl ⟨hbt, by decide⟩) ?_
  refine aw_bipush hC dX2_readPart_59 (by decide) (by decide) ?_
  refine aw_icmp_le (tgt := 76) hC dX2_readPart_61 (by decide) (fun c4 => ?_) (fun c4 => ?_)
  · have hF := it_t hF c4
    exact fX2_readPart_j76_ok hC hZ hRm hbt hr hF hK
  · have hF := it_f hF c4
    refine aw_iload_n hC dX2_readPart_64 rfl ?_
    refine aw_iconst hC dX2_readPart_65 (by decide) ?_
    refine aw_icmp_eq (tgt := 76) hC dX2_readPart_66 (by decide) (fun c31 => ?_) (fun c31 => ?_)
    · have hF := it_t hF c31
      exact fX2_readPart_j76_ok hC hZ hRm hbt hr hF hK
    · have hF := it_f hF c31
      refine aw_weak (ls' := [(2, ((18 : Nat) : Int)), (9, 0), (9, 0), (9, 0)]) ⟨Or.inr rfl, Or.inl rfl, Or.inl rfl, Or.inl rfl, trivial⟩ ?_
      exact fX2_readPart_j69_ok hC hZ hRm hbt hr hF hK
theorem fX2_readPart_j30_ok {G : GD} {X : CX} {n : Nat} {Q : Av → Nat → Hp → Prop} (hC : Cx G X RX2 cX2_readPart) (hZ : ZOK X G Q 0 0) (hRm : X.R = rmd 10 0 0) (hbt : X.bt = true) (hr : X.meth.sig.returnType = (some .int)) {x1 : Int} {z0 : Int} {h : Hp} {res : Int × Hp} (hF : fX2_readPart_j30 x1 z0 h = some res) (hK : ∀ (x9 : Int) (h9 : Hp), res = (x9, h9) → Q (0, x9) n h9) : AW G X 30 [(2, ((18 : Nat) : Int)), (0, x1), (9, 0), (9, 0)] [(0, z0)] n h 0 0 := by
  unfold fX2_readPart_j30 at hF
  refine aw_istore2 hC dX2_readPart_30 rfl ?_
  refine aw_iload_n hC dX2_readPart_31 rfl ?_
  refine aw_if_ne (tgt := 42) hC dX2_readPart_32 (by decide) (fun c2 => ?_) (fun c2 => ?_)
  · have hF := it_f hF c2
    refine aw_iload_n hC dX2_readPart_42 rfl ?_
    refine aw_if_ne (tgt := 55) hC dX2_readPart_43 (by decide) (fun c3 => ?_) (fun c3 => ?_)
    · have hF := it_f hF c3
      refine aw_weak (ls' := [(2, ((18 : Nat) : Int)), (0, x1), (9, 0), (9, 0)]) ⟨Or.inr rfl, Or.inr rfl, Or.inl rfl, Or.inl rfl, trivial⟩ ?_
      exact fX2_readPart_j55_ok hC hZ hRm hbt hr hF hK
    · have hF := it_t hF c3
      refine aw_aload_n hC dX2_readPart_46 rfl ?_
      refine aw_g2i (k := 15) (a := 18) hC dX2_readPart_47 lkRX2_184 (by decide) rfl rfl rfl (Or.inl ⟨hbt, by decide⟩) ?_
      refine aw_bipush hC dX2_readPart_50 (by decide) (by decide) ?_
      refine aw_icmp_ge (tgt := 69) hC dX2_readPart_52 (by decide) (fun c35 => ?_) (fun c35 => ?_)
      · have hF := it_t hF c35
        refine aw_weak (ls' := [(2, ((18 : Nat) : Int)), (9, 0), (9, 0), (9, 0)]) ⟨Or.inr rfl, Or.inl rfl, Or.inl rfl, Or.inl rfl, trivial⟩ ?_
        exact fX2_readPart_j69_ok hC hZ hRm hbt hr hF hK
      · have hF := it_f hF c35
        refine aw_weak (ls' := [(2, ((18 : Nat) : Int)), (0, x1), (9, 0), (9, 0)]) ⟨Or.inr rfl, Or.inr rfl, Or.inl rfl, Or.inl rfl, trivial⟩ ?_
        exact fX2_readPart_j55_ok hC hZ hRm hbt hr hF hK
  · have hF := it_t hF c2
    refine aw_aload_n hC dX2_readPart_35 rfl ?_
    refine aw_iconst hC dX2_readPart_36 (by decide) ?_
    obtain ⟨r36, h38, q37, hF⟩ := bd_some hF
    refine clRX2_108 hC hRm hbt dX2_readPart_37 rfl rfl (by decide) (Nat.le_of_ble_eq_true rfl) (Nat.le_of_ble_eq_true rfl) (ok_X2_refuse q37) ?_
    refine aw_iconst hC dX2_readPart_40 (by decide) ?_
    exact aw_ireturn hC hZ (Nat.zero_le _) (Nat.zero_le _) hr dX2_readPart_41 (hK _ _ (Option.some.inj hF).symm)
theorem fX2_readPart_j25_ok {G : GD} {X : CX} {n : Nat} {Q : Av → Nat → Hp → Prop} (hC : Cx G X RX2 cX2_readPart) (hZ : ZOK X G Q 0 0) (hRm : X.R = rmd 10 0 0) (hbt : X.bt = true) (hr : X.meth.sig.returnType = (some .int)) {x1 : Int} {h : Hp} {res : Int × Hp} (hF : fX2_readPart_j25 x1 h = some res) (hK : ∀ (x9 : Int) (h9 : Hp), res = (x9, h9) → Q (0, x9) n h9) : AW G X 25 [(2, ((18 : Nat) : Int)), (0, x1), (9, 0), (9, 0)] [] n h 0 0 := by
  unfold fX2_readPart_j25 at hF
  refine aw_iconst hC dX2_readPart_25 (by decide) ?_
  refine aw_goto (tgt := 30) hC dX2_readPart_26 (by decide) ?_
  exact fX2_readPart_j30_ok hC hZ hRm hbt hr hF hK
theorem ok_X2_readPart {G : GD} {n : Nat} {x1 : Int} {h : Hp} {res : Int × Hp} (hF : fX2_readPart x1 h = some res) : Con G yX2_readPart cX2_readPart 4 (some .int) 10 0 0 true [(2, ((18 : Nat) : Int)), (0, x1)] n h (FQ 0 n res) := by
  refine con_of (pad := 2) (own := RX2) (plainFor_of_name (by decide)) rfl rfl ?_
  intro X hC hbt hr hnm hZ hRm hn0
  have hK : ∀ (x9 : Int) (h9 : Hp), res = (x9, h9) → FQ 0 n res (0, x9) n h9 := fun x9 h9 e => by subst e; exact ⟨rfl, rfl, rfl⟩
  unfold fX2_readPart at hF
  show AW G X 0 [(2, ((18 : Nat) : Int)), (0, x1), (9, 0), (9, 0)] [] n h 0 0
  refine aw_aload_n hC dX2_readPart_0 rfl ?_
  refine aw_g2i (k := 4) (a := 18) hC dX2_readPart_1 lkRX2_71 (by decide) rfl rfl rfl (Or.inl ⟨hbt, by decide⟩) ?_
  refine aw_iconst hC dX2_readPart_4 (by decide) ?_
  refine aw_icmp_eq (tgt := 25) hC dX2_readPart_5 (by decide) (fun c1 => ?_) (fun c1 => ?_)
  · have hF := it_t hF c1
    exact fX2_readPart_j25_ok hC hZ hRm hbt hr hF hK
  · have hF := it_f hF c1
    refine aw_aload_n hC dX2_readPart_8 rfl ?_
    refine aw_g2i (k := 4) (a := 18) hC dX2_readPart_9 lkRX2_71 (by decide) rfl rfl rfl (Or.inl ⟨hbt, by decide⟩) ?_
    refine aw_iconst hC dX2_readPart_12 (by decide) ?_
    refine aw_icmp_eq (tgt := 25) hC dX2_readPart_13 (by decide) (fun c39 => ?_) (fun c39 => ?_)
    · have hF := it_t hF c39
      exact fX2_readPart_j25_ok hC hZ hRm hbt hr hF hK
    · have hF := it_f hF c39
      refine aw_aload_n hC dX2_readPart_16 rfl ?_
      refine aw_g2i (k := 4) (a := 18) hC dX2_readPart_17 lkRX2_71 (by decide) rfl rfl rfl (Or.inl ⟨hbt, by decide⟩) ?_
      refine aw_bipush hC dX2_readPart_20 (by decide) (by decide) ?_
      refine aw_icmp_ne (tgt := 29) hC dX2_readPart_22 (by decide) (fun c40 => ?_) (fun c40 => ?_)
      · have hF := it_f hF c40
        refine aw_iconst hC dX2_readPart_29 (by decide) ?_
        exact fX2_readPart_j30_ok hC hZ hRm hbt hr hF hK
      · have hF := it_t hF c40
        exact fX2_readPart_j25_ok hC hZ hRm hbt hr hF hK
def fX2_operatorHere_j116  (h : Hp) : Option (Int) :=
  bp_ (fX2_isWord 25 h) (fun r4 => (if r4 = 0 then bp_ (fX2_isWord 26 h) (fun r7 => (if r7 = 0 then some ((-1)) else some 2)) else some 1))
def fX2_operatorHere  (h : Hp) : Option (Int) :=
  (if (h 18 4) = 42 then some 8 else if (h 18 4) = 43 then some 6 else if (h 18 4) = 44 then fX2_operatorHere_j116 h else if (h 18 4) = 45 then some 7 else if (h 18 4) = 46 then fX2_operatorHere_j116 h else if (h 18 4) = 47 then some 9 else if (h 18 4) = 48 then fX2_operatorHere_j116 h else if (h 18 4) = 49 then fX2_operatorHere_j116 h else if (h 18 4) = 50 then fX2_operatorHere_j116 h else if (h 18 4) = 51 then fX2_operatorHere_j116 h else if (h 18 4) = 52 then fX2_operatorHere_j116 h else if (h 18 4) = 53 then fX2_operatorHere_j116 h else if (h 18 4) = 54 then fX2_operatorHere_j116 h else if (h 18 4) = 55 then fX2_operatorHere_j116 h else if (h 18 4) = 56 then fX2_operatorHere_j116 h else if (h 18 4) = 57 then fX2_operatorHere_j116 h else if (h 18 4) = 58 then fX2_operatorHere_j116 h else if (h 18 4) = 59 then fX2_operatorHere_j116 h else if (h 18 4) = 60 then some 4 else if (h 18 4) = 61 then some 5 else fX2_operatorHere_j116 h)
theorem fX2_operatorHere_j116_ok {G : GD} {X : CX} {n : Nat} {Q : Av → Nat → Hp → Prop} (hC : Cx G X RX2 cX2_operatorHere) (hZ : ZOK X G Q 0 0) (hRm : X.R = rmd 9 0 0) (hbt : X.bt = true) (hr : X.meth.sig.returnType = (some .int))  {h : Hp} {res : Int} (hF : fX2_operatorHere_j116  h = some res) (hK : ∀ (x9 : Int), res = x9 → Q (0, x9) n h) : AW G X 116 [(2, ((18 : Nat) : Int))] [] n h 0 0 := by
  unfold fX2_operatorHere_j116 at hF
  refine aw_aload_n hC dX2_operatorHere_116 rfl ?_
  refine aw_ldcs_RX2_226 hC dX2_operatorHere_117 ?_
  obtain ⟨r4, q5, hF⟩ := bp_some hF
  refine clRX2_64 hC hRm hbt dX2_operatorHere_119 rfl rfl (by decide) (Nat.le_of_ble_eq_true rfl) (Nat.le_of_ble_eq_true rfl) (ok_X2_isWord q5) ?_
  refine aw_if_eq (tgt := 127) hC dX2_operatorHere_122 (by decide) (fun c6 => ?_) (fun c6 => ?_)
  · have hF := it_t hF c6
    refine aw_aload_n hC dX2_operatorHere_127 rfl ?_
    refine aw_ldcs_RX2_228 hC dX2_operatorHere_128 ?_
    obtain ⟨r7, q8, hF⟩ := bp_some hF
    refine clRX2_64 hC hRm hbt dX2_operatorHere_130 rfl rfl (by decide) (Nat.le_of_ble_eq_true rfl) (Nat.le_of_ble_eq_true rfl) (ok_X2_isWord q8) ?_
    refine aw_if_eq (tgt := 140) hC dX2_operatorHere_133 (by decide) (fun c9 => ?_) (fun c9 => ?_)
    · have hF := it_t hF c9
      refine aw_iconst hC dX2_operatorHere_140 (by decide) ?_
      exact aw_ireturn hC hZ (Nat.zero_le _) (Nat.zero_le _) hr dX2_operatorHere_141 (hK _ (Option.some.inj hF).symm)
    · have hF := it_f hF c9
      refine aw_iconst hC dX2_operatorHere_136 (by decide) ?_
      refine aw_goto (tgt := 141) hC dX2_operatorHere_137 (by decide) ?_
      exact aw_ireturn hC hZ (Nat.zero_le _) (Nat.zero_le _) hr dX2_operatorHere_141 (hK _ (Option.some.inj hF).symm)
  · have hF := it_f hF c6
    refine aw_iconst hC dX2_operatorHere_125 (by decide) ?_
    exact aw_ireturn hC hZ (Nat.zero_le _) (Nat.zero_le _) hr dX2_operatorHere_126 (hK _ (Option.some.inj hF).symm)
theorem ok_X2_operatorHere {G : GD} {n : Nat}  {h : Hp} {res : Int} (hF : fX2_operatorHere  h = some res) : Con G yX2_operatorHere cX2_operatorHere 1 (some .int) 9 0 0 true [(2, ((18 : Nat) : Int))] n h (FQ 0 n (res, h)) := by
  refine con_of (pad := 0) (own := RX2) (plainFor_of_name (by decide)) rfl rfl ?_
  intro X hC hbt hr hnm hZ hRm hn0
  have hK : ∀ (x9 : Int), res = x9 → FQ 0 n (res, h) (0, x9) n h := fun x9 e => by subst e; exact ⟨rfl, rfl, rfl⟩
  unfold fX2_operatorHere at hF
  show AW G X 0 [(2, ((18 : Nat) : Int))] [] n h 0 0
  refine aw_aload_n hC dX2_operatorHere_0 rfl ?_
  refine aw_g2i (k := 4) (a := 18) hC dX2_operatorHere_1 lkRX2_71 (by decide) rfl rfl rfl (Or.inl ⟨hbt, by decide⟩) ?_
  by_cases c1 : (h 18 4) = 42
  · have hF := it_t hF c1
    refine aw_tableIn (off := 106) (tgt := 110) hC dX2_operatorHere_4 (by omega) (by omega) (by rw [c1]; rfl) (by decide) ?_
    refine aw_bipush hC dX2_operatorHere_110 (by decide) (by decide) ?_
    exact aw_ireturn hC hZ (Nat.zero_le _) (Nat.zero_le _) hr dX2_operatorHere_112 (hK _ (Option.some.inj hF).symm)
  have hF := it_f hF c1
  by_cases c2 : (h 18 4) = 43
  · have hF := it_t hF c2
    refine aw_tableIn (off := 100) (tgt := 104) hC dX2_operatorHere_4 (by omega) (by omega) (by rw [c2]; rfl) (by decide) ?_
    refine aw_bipush hC dX2_operatorHere_104 (by decide) (by decide) ?_
    exact aw_ireturn hC hZ (Nat.zero_le _) (Nat.zero_le _) hr dX2_operatorHere_106 (hK _ (Option.some.inj hF).symm)
  have hF := it_f hF c2
  by_cases c3 : (h 18 4) = 44
  · have hF := it_t hF c3
    refine aw_tableIn (off := 112) (tgt := 116) hC dX2_operatorHere_4 (by omega) (by omega) (by rw [c3]; rfl) (by decide) ?_
    exact fX2_operatorHere_j116_ok hC hZ hRm hbt hr hF hK
  have hF := it_f hF c3
  by_cases c10 : (h 18 4) = 45
  · have hF := it_t hF c10
    refine aw_tableIn (off := 103) (tgt := 107) hC dX2_operatorHere_4 (by omega) (by omega) (by rw [c10]; rfl) (by decide) ?_
    refine aw_bipush hC dX2_operatorHere_107 (by decide) (by decide) ?_
    exact aw_ireturn hC hZ (Nat.zero_le _) (Nat.zero_le _) hr dX2_operatorHere_109 (hK _ (Option.some.inj hF).symm)
  have hF := it_f hF c10
  by_cases c11 : (h 18 4) = 46
  · have hF := it_t hF c11
    refine aw_tableIn (off := 112) (tgt := 116) hC dX2_operatorHere_4 (by omega) (by omega) (by rw [c11]; rfl) (by decide) ?_
    exact fX2_operatorHere_j116_ok hC hZ hRm hbt hr hF hK
  have hF := it_f hF c11
  by_cases c12 : (h 18 4) = 47
  · have hF := it_t hF c12
    refine aw_tableIn (off := 109) (tgt := 113) hC dX2_operatorHere_4 (by omega) (by omega) (by rw [c12]; rfl) (by decide) ?_
    refine aw_bipush hC dX2_operatorHere_113 (by decide) (by decide) ?_
    exact aw_ireturn hC hZ (Nat.zero_le _) (Nat.zero_le _) hr dX2_operatorHere_115 (hK _ (Option.some.inj hF).symm)
  have hF := it_f hF c12
  by_cases c13 : (h 18 4) = 48
  · have hF := it_t hF c13
    refine aw_tableIn (off := 112) (tgt := 116) hC dX2_operatorHere_4 (by omega) (by omega) (by rw [c13]; rfl) (by decide) ?_
    exact fX2_operatorHere_j116_ok hC hZ hRm hbt hr hF hK
  have hF := it_f hF c13
  by_cases c14 : (h 18 4) = 49
  · have hF := it_t hF c14
    refine aw_tableIn (off := 112) (tgt := 116) hC dX2_operatorHere_4 (by omega) (by omega) (by rw [c14]; rfl) (by decide) ?_
    exact fX2_operatorHere_j116_ok hC hZ hRm hbt hr hF hK
  have hF := it_f hF c14
  by_cases c15 : (h 18 4) = 50
  · have hF := it_t hF c15
    refine aw_tableIn (off := 112) (tgt := 116) hC dX2_operatorHere_4 (by omega) (by omega) (by rw [c15]; rfl) (by decide) ?_
    exact fX2_operatorHere_j116_ok hC hZ hRm hbt hr hF hK
  have hF := it_f hF c15
  by_cases c16 : (h 18 4) = 51
  · have hF := it_t hF c16
    refine aw_tableIn (off := 112) (tgt := 116) hC dX2_operatorHere_4 (by omega) (by omega) (by rw [c16]; rfl) (by decide) ?_
    exact fX2_operatorHere_j116_ok hC hZ hRm hbt hr hF hK
  have hF := it_f hF c16
  by_cases c17 : (h 18 4) = 52
  · have hF := it_t hF c17
    refine aw_tableIn (off := 112) (tgt := 116) hC dX2_operatorHere_4 (by omega) (by omega) (by rw [c17]; rfl) (by decide) ?_
    exact fX2_operatorHere_j116_ok hC hZ hRm hbt hr hF hK
  have hF := it_f hF c17
  by_cases c18 : (h 18 4) = 53
  · have hF := it_t hF c18
    refine aw_tableIn (off := 112) (tgt := 116) hC dX2_operatorHere_4 (by omega) (by omega) (by rw [c18]; rfl) (by decide) ?_
    exact fX2_operatorHere_j116_ok hC hZ hRm hbt hr hF hK
  have hF := it_f hF c18
  by_cases c19 : (h 18 4) = 54
  · have hF := it_t hF c19
    refine aw_tableIn (off := 112) (tgt := 116) hC dX2_operatorHere_4 (by omega) (by omega) (by rw [c19]; rfl) (by decide) ?_
    exact fX2_operatorHere_j116_ok hC hZ hRm hbt hr hF hK
  have hF := it_f hF c19
  by_cases c20 : (h 18 4) = 55
  · have hF := it_t hF c20
    refine aw_tableIn (off := 112) (tgt := 116) hC dX2_operatorHere_4 (by omega) (by omega) (by rw [c20]; rfl) (by decide) ?_
    exact fX2_operatorHere_j116_ok hC hZ hRm hbt hr hF hK
  have hF := it_f hF c20
  by_cases c21 : (h 18 4) = 56
  · have hF := it_t hF c21
    refine aw_tableIn (off := 112) (tgt := 116) hC dX2_operatorHere_4 (by omega) (by omega) (by rw [c21]; rfl) (by decide) ?_
    exact fX2_operatorHere_j116_ok hC hZ hRm hbt hr hF hK
  have hF := it_f hF c21
  by_cases c22 : (h 18 4) = 57
  · have hF := it_t hF c22
    refine aw_tableIn (off := 112) (tgt := 116) hC dX2_operatorHere_4 (by omega) (by omega) (by rw [c22]; rfl) (by decide) ?_
    exact fX2_operatorHere_j116_ok hC hZ hRm hbt hr hF hK
  have hF := it_f hF c22
  by_cases c23 : (h 18 4) = 58
  · have hF := it_t hF c23
    refine aw_tableIn (off := 112) (tgt := 116) hC dX2_operatorHere_4 (by omega) (by omega) (by rw [c23]; rfl) (by decide) ?_
    exact fX2_operatorHere_j116_ok hC hZ hRm hbt hr hF hK
  have hF := it_f hF c23
  by_cases c24 : (h 18 4) = 59
  · have hF := it_t hF c24
    refine aw_tableIn (off := 112) (tgt := 116) hC dX2_operatorHere_4 (by omega) (by omega) (by rw [c24]; rfl) (by decide) ?_
    exact fX2_operatorHere_j116_ok hC hZ hRm hbt hr hF hK
  have hF := it_f hF c24
  by_cases c25 : (h 18 4) = 60
  · have hF := it_t hF c25
    refine aw_tableIn (off := 96) (tgt := 100) hC dX2_operatorHere_4 (by omega) (by omega) (by rw [c25]; rfl) (by decide) ?_
    refine aw_iconst hC dX2_operatorHere_100 (by decide) ?_
    exact aw_ireturn hC hZ (Nat.zero_le _) (Nat.zero_le _) hr dX2_operatorHere_101 (hK _ (Option.some.inj hF).symm)
  have hF := it_f hF c25
  by_cases c26 : (h 18 4) = 61
  · have hF := it_t hF c26
    refine aw_tableIn (off := 98) (tgt := 102) hC dX2_operatorHere_4 (by omega) (by omega) (by rw [c26]; rfl) (by decide) ?_
    refine aw_iconst hC dX2_operatorHere_102 (by decide) ?_
    exact aw_ireturn hC hZ (Nat.zero_le _) (Nat.zero_le _) hr dX2_operatorHere_103 (hK _ (Option.some.inj hF).symm)
  have hF := it_f hF c26
  refine aw_tableOut (tgt := 116) hC dX2_operatorHere_4 (by omega) (by decide) ?_
  exact fX2_operatorHere_j116_ok hC hZ hRm hbt hr hF hK
def fX2_rankOf (x0 : Int) (h : Hp) : Option (Int) :=
  (if x0 = 1 then some 1 else if x0 = 2 then some 2 else if x0 = 3 then some 3 else if x0 = 4 then some 4 else if x0 = 5 then some 4 else if x0 = 6 then some 5 else if x0 = 7 then some 5 else if x0 = 8 then some 6 else if x0 = 9 then some 6 else some 0)
theorem ok_X2_rankOf {G : GD} {n : Nat} {x0 : Int} {h : Hp} {res : Int} (hF : fX2_rankOf x0 h = some res) : Con G yX2_rankOf cX2_rankOf 1 (some .int) 0 0 0 true [(0, x0)] n h (FQ 0 n (res, h)) := by
  refine con_of (pad := 0) (own := RX2) (plainFor_of_name (by decide)) rfl rfl ?_
  intro X hC hbt hr hnm hZ hRm hn0
  have hK : ∀ (x9 : Int), res = x9 → FQ 0 n (res, h) (0, x9) n h := fun x9 e => by subst e; exact ⟨rfl, rfl, rfl⟩
  unfold fX2_rankOf at hF
  show AW G X 0 [(0, x0)] [] n h 0 0
  refine aw_iload_n hC dX2_rankOf_0 rfl ?_
  by_cases c1 : x0 = 1
  · have hF := it_t hF c1
    refine aw_tableIn (off := 51) (tgt := 52) hC dX2_rankOf_1 (by omega) (by omega) (by rw [c1]; rfl) (by decide) ?_
    refine aw_iconst hC dX2_rankOf_52 (by decide) ?_
    exact aw_ireturn hC hZ (Nat.zero_le _) (Nat.zero_le _) hr dX2_rankOf_53 (hK _ (Option.some.inj hF).symm)
  have hF := it_f hF c1
  by_cases c2 : x0 = 2
  · have hF := it_t hF c2
    refine aw_tableIn (off := 53) (tgt := 54) hC dX2_rankOf_1 (by omega) (by omega) (by rw [c2]; rfl) (by decide) ?_
    refine aw_iconst hC dX2_rankOf_54 (by decide) ?_
    exact aw_ireturn hC hZ (Nat.zero_le _) (Nat.zero_le _) hr dX2_rankOf_55 (hK _ (Option.some.inj hF).symm)
  have hF := it_f hF c2
  by_cases c3 : x0 = 3
  · have hF := it_t hF c3
    refine aw_tableIn (off := 55) (tgt := 56) hC dX2_rankOf_1 (by omega) (by omega) (by rw [c3]; rfl) (by decide) ?_
    refine aw_iconst hC dX2_rankOf_56 (by decide) ?_
    exact aw_ireturn hC hZ (Nat.zero_le _) (Nat.zero_le _) hr dX2_rankOf_57 (hK _ (Option.some.inj hF).symm)
  have hF := it_f hF c3
  by_cases c4 : x0 = 4
  · have hF := it_t hF c4
    refine aw_tableIn (off := 57) (tgt := 58) hC dX2_rankOf_1 (by omega) (by omega) (by rw [c4]; rfl) (by decide) ?_
    refine aw_iconst hC dX2_rankOf_58 (by decide) ?_
    exact aw_ireturn hC hZ (Nat.zero_le _) (Nat.zero_le _) hr dX2_rankOf_59 (hK _ (Option.some.inj hF).symm)
  have hF := it_f hF c4
  by_cases c5 : x0 = 5
  · have hF := it_t hF c5
    refine aw_tableIn (off := 57) (tgt := 58) hC dX2_rankOf_1 (by omega) (by omega) (by rw [c5]; rfl) (by decide) ?_
    refine aw_iconst hC dX2_rankOf_58 (by decide) ?_
    exact aw_ireturn hC hZ (Nat.zero_le _) (Nat.zero_le _) hr dX2_rankOf_59 (hK _ (Option.some.inj hF).symm)
  have hF := it_f hF c5
  by_cases c6 : x0 = 6
  · have hF := it_t hF c6
    refine aw_tableIn (off := 59) (tgt := 60) hC dX2_rankOf_1 (by omega) (by omega) (by rw [c6]; rfl) (by decide) ?_
    refine aw_iconst hC dX2_rankOf_60 (by decide) ?_
    exact aw_ireturn hC hZ (Nat.zero_le _) (Nat.zero_le _) hr dX2_rankOf_61 (hK _ (Option.some.inj hF).symm)
  have hF := it_f hF c6
  by_cases c7 : x0 = 7
  · have hF := it_t hF c7
    refine aw_tableIn (off := 59) (tgt := 60) hC dX2_rankOf_1 (by omega) (by omega) (by rw [c7]; rfl) (by decide) ?_
    refine aw_iconst hC dX2_rankOf_60 (by decide) ?_
    exact aw_ireturn hC hZ (Nat.zero_le _) (Nat.zero_le _) hr dX2_rankOf_61 (hK _ (Option.some.inj hF).symm)
  have hF := it_f hF c7
  by_cases c8 : x0 = 8
  · have hF := it_t hF c8
    refine aw_tableIn (off := 61) (tgt := 62) hC dX2_rankOf_1 (by omega) (by omega) (by rw [c8]; rfl) (by decide) ?_
    refine aw_bipush hC dX2_rankOf_62 (by decide) (by decide) ?_
    exact aw_ireturn hC hZ (Nat.zero_le _) (Nat.zero_le _) hr dX2_rankOf_64 (hK _ (Option.some.inj hF).symm)
  have hF := it_f hF c8
  by_cases c9 : x0 = 9
  · have hF := it_t hF c9
    refine aw_tableIn (off := 61) (tgt := 62) hC dX2_rankOf_1 (by omega) (by omega) (by rw [c9]; rfl) (by decide) ?_
    refine aw_bipush hC dX2_rankOf_62 (by decide) (by decide) ?_
    exact aw_ireturn hC hZ (Nat.zero_le _) (Nat.zero_le _) hr dX2_rankOf_64 (hK _ (Option.some.inj hF).symm)
  have hF := it_f hF c9
  refine aw_tableOut (tgt := 65) hC dX2_rankOf_1 (by omega) (by decide) ?_
  refine aw_iconst hC dX2_rankOf_65 (by decide) ?_
  exact aw_ireturn hC hZ (Nat.zero_le _) (Nat.zero_le _) hr dX2_rankOf_66 (hK _ (Option.some.inj hF).symm)
def fX2_settle_l0 (x1 : Int) (h : Hp) : Option ((Hp) ⊕ (Hp)) :=
  (if (h 18 13) ≤ 0 then some (.inr h) else (if ((128 : Nat) : Int) < (h 18 13) then some (.inr h) else gd_ (0 ≤ (i_sub ((h 18 13)) 1) ∧ (i_sub ((h 18 13)) 1) < 128) (bp_ (fX2_rankOf ((h 19 (Int.toNat ((i_sub ((h 18 13)) 1))))) h) (fun r4 => (if r4 < x1 then some (.inr h) else lb_ (st h 18 13 ((i_sub ((h 18 13)) 1))) (fun h7 => gd_ (0 ≤ (h7 18 13) ∧ (h7 18 13) < 128) (bd_ (fX2_put ((h7 19 (Int.toNat ((h7 18 13))))) h7) (fun r9 h11 => some (.inl h11)))))))))
def fX2_settle (x1 : Int) (h : Hp) : Option (Int × Hp) :=
  bp_ (it_ (fun s => fX2_settle_l0 x1 s) FU h) (fun e12 => (fun h13 => some (0, h13)) e12)
theorem fX2_settle_l0_ok {G : GD} {X : CX} {n : Nat} {Q : Av → Nat → Hp → Prop} (hC : Cx G X RX2 cX2_settle) (hZ : ZOK X G Q 0 0) (hRm : X.R = rmd 1 0 0) (hbt : X.bt = true) (hr : X.meth.sig.returnType = none) {x1 : Int} : ∀ (f : Nat) (h : Hp) (r : Hp), it_ (fun s => fX2_settle_l0 x1 s) f h = some r → (∀ (h9 : Hp), r = h9 → AW G X 63 [(9, 0), (9, 0)] [] n h9 0 0) → AW G X 0 [(2, ((18 : Nat) : Int)), (0, x1)] [] n h 0 0 := by
  intro f
  induction f with
  | zero => intro h r hI; cases hI
  | succ f ih0 =>
    intro h r hI hX
    obtain ⟨b, hF, hb1, hb2⟩ := it_succ hI
    have hF : fX2_settle_l0 x1 h = some b := hF
    unfold fX2_settle_l0 at hF
    refine aw_aload_n hC dX2_settle_0 rfl ?_
    refine aw_g2i (k := 13) (a := 18) hC dX2_settle_1 lkRX2_181 (by decide) rfl rfl rfl (Or.inl ⟨hbt, by decide⟩) ?_
    refine aw_if_le (tgt := 63) hC dX2_settle_4 (by decide) (fun c1 => ?_) (fun c1 => ?_)
    · have hF := it_t hF c1
      refine aw_weak (ls' := [(9, 0), (9, 0)]) ⟨Or.inl rfl, Or.inl rfl, trivial⟩ ?_
      exact hX _ (hb2 _ (Option.some.inj hF).symm).symm
    · have hF := it_f hF c1
      refine aw_aload_n hC dX2_settle_7 rfl ?_
      refine aw_g2i (k := 13) (a := 18) hC dX2_settle_8 lkRX2_181 (by decide) rfl rfl rfl (Or.inl ⟨hbt, by decide⟩) ?_
      refine aw_aload_n hC dX2_settle_11 rfl ?_
      refine aw_gc2 (k := 12) (a := 18) (b := 19) hC hbt dX2_settle_12 lkRX2_11 (by decide) rfl rfl rfl (by decide) (by decide) ?_
      refine aw_alen (a := 19) hC dX2_settle_15 rfl rfl (by decide) (by decide) (Or.inl ⟨hbt, by decide⟩) ?_
      refine aw_icmp_gt (tgt := 63) hC dX2_settle_16 (by decide) (fun c2 => ?_) (fun c2 => ?_)
      · have hF := it_t hF c2
        refine aw_weak (ls' := [(9, 0), (9, 0)]) ⟨Or.inl rfl, Or.inl rfl, trivial⟩ ?_
        exact hX _ (hb2 _ (Option.some.inj hF).symm).symm
      · have hF := it_f hF c2
        refine aw_aload_n hC dX2_settle_19 rfl ?_
        refine aw_gc2 (k := 12) (a := 18) (b := 19) hC hbt dX2_settle_20 lkRX2_11 (by decide) rfl rfl rfl (by decide) (by decide) ?_
        refine aw_aload_n hC dX2_settle_23 rfl ?_
        refine aw_g2i (k := 13) (a := 18) hC dX2_settle_24 lkRX2_181 (by decide) rfl rfl rfl (Or.inl ⟨hbt, by decide⟩) ?_
        refine aw_iconst hC dX2_settle_27 (by decide) ?_
        refine aw_isub hC dX2_settle_28 ?_
        obtain ⟨g3, hF⟩ := gd_some hF
        refine aw_iaload (a := 19) hC dX2_settle_29 rfl rfl (Or.inl ⟨hbt, by decide⟩) g3.1 g3.2 ?_
        obtain ⟨r4, q5, hF⟩ := bp_some hF
        refine clRX2_220 hC hRm hbt dX2_settle_30 (Nat.le_of_ble_eq_true rfl) (Nat.le_of_ble_eq_true rfl) (ok_X2_rankOf q5) ?_
        refine aw_iload_n hC dX2_settle_33 rfl ?_
        refine aw_icmp_lt (tgt := 63) hC dX2_settle_34 (by decide) (fun c6 => ?_) (fun c6 => ?_)
        · have hF := it_t hF c6
          refine aw_weak (ls' := [(9, 0), (9, 0)]) ⟨Or.inl rfl, Or.inl rfl, trivial⟩ ?_
          exact hX _ (hb2 _ (Option.some.inj hF).symm).symm
        · have hF := it_f hF c6
          refine aw_aload_n hC dX2_settle_37 rfl ?_
          refine aw_dup hC dX2_settle_38 (by simp) ?_
          refine aw_g2i (k := 13) (a := 18) hC dX2_settle_39 lkRX2_181 (by decide) rfl rfl rfl (Or.inl ⟨hbt, by decide⟩) ?_
          refine aw_iconst hC dX2_settle_42 (by decide) ?_
          refine aw_isub hC dX2_settle_43 ?_
          obtain ⟨h7, eh7, hF⟩ := lb_some hF
          refine aw_p2i (k := 13) (a := 18) hC dX2_settle_44 lkRX2_181 (by decide) rfl rfl rfl rfl rfl (Or.inl ⟨hbt, by decide⟩) (fun _ => by decide) ?_
          refine aw_eqH eh7 ?_
          clear eh7
          refine aw_aload_n hC dX2_settle_47 rfl ?_
          refine aw_aload_n hC dX2_settle_48 rfl ?_
          refine aw_gc2 (k := 12) (a := 18) (b := 19) hC hbt dX2_settle_49 lkRX2_11 (by decide) rfl rfl rfl (by decide) (by decide) ?_
          refine aw_aload_n hC dX2_settle_52 rfl ?_
          refine aw_g2i (k := 13) (a := 18) hC dX2_settle_53 lkRX2_181 (by decide) rfl rfl rfl (Or.inl ⟨hbt, by decide⟩) ?_
          obtain ⟨g8, hF⟩ := gd_some hF
          refine aw_iaload (a := 19) hC dX2_settle_56 rfl rfl (Or.inl ⟨hbt, by decide⟩) g8.1 g8.2 ?_
          obtain ⟨r9, h11, q10, hF⟩ := bd_some hF
          refine clRX2_205 hC hRm hbt dX2_settle_57 rfl rfl (by decide) (Nat.le_of_ble_eq_true rfl) (Nat.le_of_ble_eq_true rfl) (ok_X2_put q10) ?_
          refine aw_goto (tgt := 0) hC dX2_settle_60 (by decide) ?_
          exact ih0 _ r (hb1 _ (Option.some.inj hF).symm) hX
theorem ok_X2_settle {G : GD} {n : Nat} {x1 : Int} {h : Hp} {res : Int × Hp} (hF : fX2_settle x1 h = some res) : Con G yX2_settle cX2_settle 2 none 1 0 0 true [(2, ((18 : Nat) : Int)), (0, x1)] n h (FQ 8 n res) := by
  refine con_of (pad := 0) (own := RX2) (plainFor_of_name (by decide)) rfl rfl ?_
  intro X hC hbt hr hnm hZ hRm hn0
  have hK : ∀ (x9 : Int) (h9 : Hp), res = (x9, h9) → FQ 8 n res (8, x9) n h9 := fun x9 h9 e => by subst e; exact ⟨rfl, rfl, rfl⟩
  unfold fX2_settle at hF
  show AW G X 0 [(2, ((18 : Nat) : Int)), (0, x1)] [] n h 0 0
  obtain ⟨e12, he, hF⟩ := bp_some hF
  refine fX2_settle_l0_ok hC hZ hRm hbt hr FU _ e12 he (fun h13 er => ?_)
  replace er := er.symm
  subst er
  try dsimp only at hF
  exact aw_return hC hZ (Nat.zero_le _) (Nat.zero_le _) hr dX2_settle_63 (hK _ _ (Option.some.inj hF).symm)
def fX2_readBehind_j143 (x1 : Int) (h : Hp) : Option (Int × Hp) :=
  bd_ (fX2_makeWait x1 h) (fun r13 h15 => (if x1 = 1 then some (1, h15) else (if x1 = 2 then some (1, h15) else some (2, h15))))
def fX2_readBehind_j105 (x1 : Int) (x2 : Int) (z0 : Int) (h : Hp) : Option (Int × Hp) :=
  bd_ (fX2_settle z0 h) (fun r9 h11 => (if x2 = 4 then (if (h11 18 13) ≤ 0 then fX2_readBehind_j143 x1 h11 else gd_ (0 ≤ (i_sub ((h11 18 13)) 1) ∧ (i_sub ((h11 18 13)) 1) < 128) (bp_ (fX2_rankOf ((h11 19 (Int.toNat ((i_sub ((h11 18 13)) 1))))) h11) (fun r20 => (if r20 = 4 then bd_ (fX2_refuse 1 h11) (fun r23 h25 => fX2_readBehind_j143 x1 h25) else fX2_readBehind_j143 x1 h11)))) else fX2_readBehind_j143 x1 h11))
def fX2_readBehind_j70  (h : Hp) : Option (Int × Hp) :=
  bp_ (fX2_operatorHere h) (fun r3 => (if r3 = (-1) then bd_ (fX2_refuse 1 h) (fun r26 h28 => some (4, h28)) else bp_ (fX2_rankOf r3 h) (fun r6 => (if r6 = 4 then fX2_readBehind_j105 r3 r6 ((i_add r6 1)) h else fX2_readBehind_j105 r3 r6 r6 h))))
def fX2_readBehind_j47  (h : Hp) : Option (Int × Hp) :=
  (if (h 18 4) = 59 then (if (h 18 15) = 0 then bd_ (fX2_settle 1 h) (fun r30 h32 => some (4, h32)) else fX2_readBehind_j70 h) else fX2_readBehind_j70 h)
def fX2_readBehind  (h : Hp) : Option (Int × Hp) :=
  (if (h 18 4) = 41 then (if (h 18 15) ≤ 0 then fX2_readBehind_j47 h else bd_ (fX2_settle 1 h) (fun r34 h36 => bp_ (fJ9_max_7cf53 0 ((i_sub ((h36 18 13)) 1)) h36) (fun r37 => lb_ (st h36 18 13 r37) (fun h39 => lb_ (st h39 18 15 ((i_sub ((h39 18 15)) 1))) (fun h40 => some (3, h40)))))) else fX2_readBehind_j47 h)
theorem fX2_readBehind_j143_ok {G : GD} {X : CX} {n : Nat} {Q : Av → Nat → Hp → Prop} (hC : Cx G X RX2 cX2_readBehind) (hZ : ZOK X G Q 0 0) (hRm : X.R = rmd 10 0 0) (hbt : X.bt = true) (hr : X.meth.sig.returnType = (some .int)) {x1 : Int} {h : Hp} {res : Int × Hp} (hF : fX2_readBehind_j143 x1 h = some res) (hK : ∀ (x9 : Int) (h9 : Hp), res = (x9, h9) → Q (0, x9) n h9) : AW G X 143 [(2, ((18 : Nat) : Int)), (0, x1), (9, 0)] [] n h 0 0 := by
  unfold fX2_readBehind_j143 at hF
  refine aw_aload_n hC dX2_readBehind_143 rfl ?_
  refine aw_iload_n hC dX2_readBehind_144 rfl ?_
  obtain ⟨r13, h15, q14, hF⟩ := bd_some hF
  refine clRX2_202 hC hRm hbt dX2_readBehind_145 rfl rfl (by decide) (Nat.le_of_ble_eq_true rfl) (Nat.le_of_ble_eq_true rfl) (ok_X2_makeWait q14) ?_
  refine aw_iload_n hC dX2_readBehind_148 rfl ?_
  refine aw_iconst hC dX2_readBehind_149 (by decide) ?_
  refine aw_icmp_eq (tgt := 158) hC dX2_readBehind_150 (by decide) (fun c16 => ?_) (fun c16 => ?_)
  · have hF := it_t hF c16
    refine aw_iconst hC dX2_readBehind_158 (by decide) ?_
    refine aw_goto (tgt := 163) hC dX2_readBehind_159 (by decide) ?_
    exact aw_ireturn hC hZ (Nat.zero_le _) (Nat.zero_le _) hr dX2_readBehind_163 (hK _ _ (Option.some.inj hF).symm)
  · have hF := it_f hF c16
    refine aw_iload_n hC dX2_readBehind_153 rfl ?_
    refine aw_iconst hC dX2_readBehind_154 (by decide) ?_
    refine aw_icmp_ne (tgt := 162) hC dX2_readBehind_155 (by decide) (fun c17 => ?_) (fun c17 => ?_)
    · have hF := it_f hF c17
      refine aw_iconst hC dX2_readBehind_162 (by decide) ?_
      exact aw_ireturn hC hZ (Nat.zero_le _) (Nat.zero_le _) hr dX2_readBehind_163 (hK _ _ (Option.some.inj hF).symm)
    · have hF := it_t hF c17
      refine aw_iconst hC dX2_readBehind_158 (by decide) ?_
      refine aw_goto (tgt := 163) hC dX2_readBehind_159 (by decide) ?_
      exact aw_ireturn hC hZ (Nat.zero_le _) (Nat.zero_le _) hr dX2_readBehind_163 (hK _ _ (Option.some.inj hF).symm)
theorem fX2_readBehind_j105_ok {G : GD} {X : CX} {n : Nat} {Q : Av → Nat → Hp → Prop} (hC : Cx G X RX2 cX2_readBehind) (hZ : ZOK X G Q 0 0) (hRm : X.R = rmd 10 0 0) (hbt : X.bt = true) (hr : X.meth.sig.returnType = (some .int)) {x1 : Int} {x2 : Int} {z0 : Int} {h : Hp} {res : Int × Hp} (hF : fX2_readBehind_j105 x1 x2 z0 h = some res) (hK : ∀ (x9 : Int) (h9 : Hp), res = (x9, h9) → Q (0, x9) n h9) : AW G X 105 [(2, ((18 : Nat) : Int)), (0, x1), (0, x2)] [(0, z0), (2, ((18 : Nat) : Int))] n h 0 0 := by
  unfold fX2_readBehind_j105 at hF
  obtain ⟨r9, h11, q10, hF⟩ := bd_some hF
  refine clRX2_211 hC hRm hbt dX2_readBehind_105 rfl rfl (by decide) (Nat.le_of_ble_eq_true rfl) (Nat.le_of_ble_eq_true rfl) (ok_X2_settle q10) ?_
  refine aw_iload_n hC dX2_readBehind_108 rfl ?_
  refine aw_iconst hC dX2_readBehind_109 (by decide) ?_
  refine aw_icmp_ne (tgt := 143) hC dX2_readBehind_110 (by decide) (fun c12 => ?_) (fun c12 => ?_)
  · have hF := it_f hF c12
    refine aw_weak (ls' := [(2, ((18 : Nat) : Int)), (0, x1), (9, 0)]) ⟨Or.inr rfl, Or.inr rfl, Or.inl rfl, trivial⟩ ?_
    exact fX2_readBehind_j143_ok hC hZ hRm hbt hr hF hK
  · have hF := it_t hF c12
    refine aw_aload_n hC dX2_readBehind_113 rfl ?_
    refine aw_g2i (k := 13) (a := 18) hC dX2_readBehind_114 lkRX2_181 (by decide) rfl rfl rfl (Or.inl ⟨hbt, by decide⟩) ?_
    refine aw_if_le (tgt := 143) hC dX2_readBehind_117 (by decide) (fun c18 => ?_) (fun c18 => ?_)
    · have hF := it_t hF c18
      refine aw_weak (ls' := [(2, ((18 : Nat) : Int)), (0, x1), (9, 0)]) ⟨Or.inr rfl, Or.inr rfl, Or.inl rfl, trivial⟩ ?_
      exact fX2_readBehind_j143_ok hC hZ hRm hbt hr hF hK
    · have hF := it_f hF c18
      refine aw_aload_n hC dX2_readBehind_120 rfl ?_
      refine aw_gc2 (k := 12) (a := 18) (b := 19) hC hbt dX2_readBehind_121 lkRX2_11 (by decide) rfl rfl rfl (by decide) (by decide) ?_
      refine aw_aload_n hC dX2_readBehind_124 rfl ?_
      refine aw_g2i (k := 13) (a := 18) hC dX2_readBehind_125 lkRX2_181 (by decide) rfl rfl rfl (Or.inl ⟨hbt, by decide⟩) ?_
      refine aw_iconst hC dX2_readBehind_128 (by decide) ?_
      refine aw_isub hC dX2_readBehind_129 ?_
      obtain ⟨g19, hF⟩ := gd_some hF
      refine aw_iaload (a := 19) hC dX2_readBehind_130 rfl rfl (Or.inl ⟨hbt, by decide⟩) g19.1 g19.2 ?_
      obtain ⟨r20, q21, hF⟩ := bp_some hF
      refine clRX2_220 hC hRm hbt dX2_readBehind_131 (Nat.le_of_ble_eq_true rfl) (Nat.le_of_ble_eq_true rfl) (ok_X2_rankOf q21) ?_
      refine aw_iconst hC dX2_readBehind_134 (by decide) ?_
      refine aw_icmp_ne (tgt := 143) hC dX2_readBehind_135 (by decide) (fun c22 => ?_) (fun c22 => ?_)
      · have hF := it_f hF c22
        refine aw_weak (ls' := [(2, ((18 : Nat) : Int)), (0, x1), (9, 0)]) ⟨Or.inr rfl, Or.inr rfl, Or.inl rfl, trivial⟩ ?_
        exact fX2_readBehind_j143_ok hC hZ hRm hbt hr hF hK
      · have hF := it_t hF c22
        refine aw_aload_n hC dX2_readBehind_138 rfl ?_
        refine aw_iconst hC dX2_readBehind_139 (by decide) ?_
        obtain ⟨r23, h25, q24, hF⟩ := bd_some hF
        refine clRX2_108 hC hRm hbt dX2_readBehind_140 rfl rfl (by decide) (Nat.le_of_ble_eq_true rfl) (Nat.le_of_ble_eq_true rfl) (ok_X2_refuse q24) ?_
        refine aw_weak (ls' := [(2, ((18 : Nat) : Int)), (0, x1), (9, 0)]) ⟨Or.inr rfl, Or.inr rfl, Or.inl rfl, trivial⟩ ?_
        exact fX2_readBehind_j143_ok hC hZ hRm hbt hr hF hK
theorem fX2_readBehind_j70_ok {G : GD} {X : CX} {n : Nat} {Q : Av → Nat → Hp → Prop} (hC : Cx G X RX2 cX2_readBehind) (hZ : ZOK X G Q 0 0) (hRm : X.R = rmd 10 0 0) (hbt : X.bt = true) (hr : X.meth.sig.returnType = (some .int))  {h : Hp} {res : Int × Hp} (hF : fX2_readBehind_j70  h = some res) (hK : ∀ (x9 : Int) (h9 : Hp), res = (x9, h9) → Q (0, x9) n h9) : AW G X 70 [(2, ((18 : Nat) : Int)), (9, 0), (9, 0)] [] n h 0 0 := by
  unfold fX2_readBehind_j70 at hF
  refine aw_aload_n hC dX2_readBehind_70 rfl ?_
  obtain ⟨r3, q4, hF⟩ := bp_some hF
  refine clRX2_217 hC hRm hbt dX2_readBehind_71 rfl rfl (by decide) (Nat.le_of_ble_eq_true rfl) (Nat.le_of_ble_eq_true rfl) (ok_X2_operatorHere q4) ?_
  refine aw_istore1 hC dX2_readBehind_74 rfl ?_
  refine aw_iload_n hC dX2_readBehind_75 rfl ?_
  refine aw_iconst hC dX2_readBehind_76 (by decide) ?_
  refine aw_icmp_ne (tgt := 87) hC dX2_readBehind_77 (by decide) (fun c5 => ?_) (fun c5 => ?_)
  · have hF := it_f hF c5
    refine aw_iload_n hC dX2_readBehind_87 rfl ?_
    obtain ⟨r6, q7, hF⟩ := bp_some hF
    refine clRX2_220 hC hRm hbt dX2_readBehind_88 (Nat.le_of_ble_eq_true rfl) (Nat.le_of_ble_eq_true rfl) (ok_X2_rankOf q7) ?_
    refine aw_istore2 hC dX2_readBehind_91 rfl ?_
    refine aw_aload_n hC dX2_readBehind_92 rfl ?_
    refine aw_iload_n hC dX2_readBehind_93 rfl ?_
    refine aw_iconst hC dX2_readBehind_94 (by decide) ?_
    refine aw_icmp_ne (tgt := 104) hC dX2_readBehind_95 (by decide) (fun c8 => ?_) (fun c8 => ?_)
    · have hF := it_f hF c8
      refine aw_iload_n hC dX2_readBehind_104 rfl ?_
      exact fX2_readBehind_j105_ok hC hZ hRm hbt hr hF hK
    · have hF := it_t hF c8
      refine aw_iload_n hC dX2_readBehind_98 rfl ?_
      refine aw_iconst hC dX2_readBehind_99 (by decide) ?_
      refine aw_iadd hC dX2_readBehind_100 ?_
      refine aw_goto (tgt := 105) hC dX2_readBehind_101 (by decide) ?_
      exact fX2_readBehind_j105_ok hC hZ hRm hbt hr hF hK
  · have hF := it_t hF c5
    refine aw_aload_n hC dX2_readBehind_80 rfl ?_
    refine aw_iconst hC dX2_readBehind_81 (by decide) ?_
    obtain ⟨r26, h28, q27, hF⟩ := bd_some hF
    refine clRX2_108 hC hRm hbt dX2_readBehind_82 rfl rfl (by decide) (Nat.le_of_ble_eq_true rfl) (Nat.le_of_ble_eq_true rfl) (ok_X2_refuse q27) ?_
    refine aw_iconst hC dX2_readBehind_85 (by decide) ?_
    exact aw_ireturn hC hZ (Nat.zero_le _) (Nat.zero_le _) hr dX2_readBehind_86 (hK _ _ (Option.some.inj hF).symm)
theorem fX2_readBehind_j47_ok {G : GD} {X : CX} {n : Nat} {Q : Av → Nat → Hp → Prop} (hC : Cx G X RX2 cX2_readBehind) (hZ : ZOK X G Q 0 0) (hRm : X.R = rmd 10 0 0) (hbt : X.bt = true) (hr : X.meth.sig.returnType = (some .int))  {h : Hp} {res : Int × Hp} (hF : fX2_readBehind_j47  h = some res) (hK : ∀ (x9 : Int) (h9 : Hp), res = (x9, h9) → Q (0, x9) n h9) : AW G X 47 [(2, ((18 : Nat) : Int)), (9, 0), (9, 0)] [] n h 0 0 := by
  unfold fX2_readBehind_j47 at hF
  refine aw_aload_n hC dX2_readBehind_47 rfl ?_
  refine aw_g2i (k := 4) (a := 18) hC dX2_readBehind_48 lkRX2_71 (by decide) rfl rfl rfl (Or.inl ⟨hbt, by decide⟩) ?_
  refine aw_bipush hC dX2_readBehind_51 (by decide) (by decide) ?_
  refine aw_icmp_ne (tgt := 70) hC dX2_readBehind_53 (by decide) (fun c2 => ?_) (fun c2 => ?_)
  · have hF := it_f hF c2
    exact fX2_readBehind_j70_ok hC hZ hRm hbt hr hF hK
  · have hF := it_t hF c2
    refine aw_aload_n hC dX2_readBehind_56 rfl ?_
    refine aw_g2i (k := 15) (a := 18) hC dX2_readBehind_57 lkRX2_184 (by decide) rfl rfl rfl (Or.inl ⟨hbt, by decide⟩) ?_
    refine aw_if_ne (tgt := 70) hC dX2_readBehind_60 (by decide) (fun c29 => ?_) (fun c29 => ?_)
    · have hF := it_f hF c29
      exact fX2_readBehind_j70_ok hC hZ hRm hbt hr hF hK
    · have hF := it_t hF c29
      refine aw_aload_n hC dX2_readBehind_63 rfl ?_
      refine aw_iconst hC dX2_readBehind_64 (by decide) ?_
      obtain ⟨r30, h32, q31, hF⟩ := bd_some hF
      refine clRX2_211 hC hRm hbt dX2_readBehind_65 rfl rfl (by decide) (Nat.le_of_ble_eq_true rfl) (Nat.le_of_ble_eq_true rfl) (ok_X2_settle q31) ?_
      refine aw_iconst hC dX2_readBehind_68 (by decide) ?_
      exact aw_ireturn hC hZ (Nat.zero_le _) (Nat.zero_le _) hr dX2_readBehind_69 (hK _ _ (Option.some.inj hF).symm)
theorem ok_X2_readBehind {G : GD} {n : Nat}  {h : Hp} {res : Int × Hp} (hF : fX2_readBehind  h = some res) : Con G yX2_readBehind cX2_readBehind 3 (some .int) 10 0 0 true [(2, ((18 : Nat) : Int))] n h (FQ 0 n res) := by
  refine con_of (pad := 2) (own := RX2) (plainFor_of_name (by decide)) rfl rfl ?_
  intro X hC hbt hr hnm hZ hRm hn0
  have hK : ∀ (x9 : Int) (h9 : Hp), res = (x9, h9) → FQ 0 n res (0, x9) n h9 := fun x9 h9 e => by subst e; exact ⟨rfl, rfl, rfl⟩
  unfold fX2_readBehind at hF
  show AW G X 0 [(2, ((18 : Nat) : Int)), (9, 0), (9, 0)] [] n h 0 0
  refine aw_aload_n hC dX2_readBehind_0 rfl ?_
  refine aw_g2i (k := 4) (a := 18) hC dX2_readBehind_1 lkRX2_71 (by decide) rfl rfl rfl (Or.inl ⟨hbt, by decide⟩) ?_
  refine aw_bipush hC dX2_readBehind_4 (by decide) (by decide) ?_
  refine aw_icmp_ne (tgt := 47) hC dX2_readBehind_6 (by decide) (fun c1 => ?_) (fun c1 => ?_)
  · have hF := it_f hF c1
    exact fX2_readBehind_j47_ok hC hZ hRm hbt hr hF hK
  · have hF := it_t hF c1
    refine aw_aload_n hC dX2_readBehind_9 rfl ?_
    refine aw_g2i (k := 15) (a := 18) hC dX2_readBehind_10 lkRX2_184 (by decide) rfl rfl rfl (Or.inl ⟨hbt, by decide⟩) ?_
    refine aw_if_le (tgt := 47) hC dX2_readBehind_13 (by decide) (fun c33 => ?_) (fun c33 => ?_)
    · have hF := it_t hF c33
      exact fX2_readBehind_j47_ok hC hZ hRm hbt hr hF hK
    · have hF := it_f hF c33
      refine aw_aload_n hC dX2_readBehind_16 rfl ?_
      refine aw_iconst hC dX2_readBehind_17 (by decide) ?_
      obtain ⟨r34, h36, q35, hF⟩ := bd_some hF
      refine clRX2_211 hC hRm hbt dX2_readBehind_18 rfl rfl (by decide) (Nat.le_of_ble_eq_true rfl) (Nat.le_of_ble_eq_true rfl) (ok_X2_settle q35) ?_
      refine aw_aload_n hC dX2_readBehind_21 rfl ?_
      refine aw_iconst hC dX2_readBehind_22 (by decide) ?_
      refine aw_aload_n hC dX2_readBehind_23 rfl ?_
      refine aw_g2i (k := 13) (a := 18) hC dX2_readBehind_24 lkRX2_181 (by decide) rfl rfl rfl (Or.inl ⟨hbt, by decide⟩) ?_
      refine aw_iconst hC dX2_readBehind_27 (by decide) ?_
      refine aw_isub hC dX2_readBehind_28 ?_
      obtain ⟨r37, q38, hF⟩ := bp_some hF
      refine clRX2_214 hC hRm hbt dX2_readBehind_29 (Nat.le_of_ble_eq_true rfl) (Nat.le_of_ble_eq_true rfl) (ok_J9_max_7cf53 q38) ?_
      obtain ⟨h39, eh39, hF⟩ := lb_some hF
      refine aw_p2i (k := 13) (a := 18) hC dX2_readBehind_32 lkRX2_181 (by decide) rfl rfl rfl rfl rfl (Or.inl ⟨hbt, by decide⟩) (fun _ => by decide) ?_
      refine aw_eqH eh39 ?_
      clear eh39
      refine aw_aload_n hC dX2_readBehind_35 rfl ?_
      refine aw_dup hC dX2_readBehind_36 (by simp) ?_
      refine aw_g2i (k := 15) (a := 18) hC dX2_readBehind_37 lkRX2_184 (by decide) rfl rfl rfl (Or.inl ⟨hbt, by decide⟩) ?_
      refine aw_iconst hC dX2_readBehind_40 (by decide) ?_
      refine aw_isub hC dX2_readBehind_41 ?_
      obtain ⟨h40, eh40, hF⟩ := lb_some hF
      refine aw_p2i (k := 15) (a := 18) hC dX2_readBehind_42 lkRX2_184 (by decide) rfl rfl rfl rfl rfl (Or.inl ⟨hbt, by decide⟩) (fun _ => by decide) ?_
      refine aw_eqH eh40 ?_
      clear eh40
      refine aw_iconst hC dX2_readBehind_45 (by decide) ?_
      exact aw_ireturn hC hZ (Nat.zero_le _) (Nat.zero_le _) hr dX2_readBehind_46 (hK _ _ (Option.some.inj hF).symm)
def fX2_readLaw_j100 (x2 : Int) (z0 : Int) (h : Hp) : Option ((Int × Int × Hp) ⊕ (Hp)) :=
  bd_ (fX2_take h) (fun r20 h22 => some (.inl (z0, (i_add x2 1), h22)))
def fX2_readLaw_j80 (x1 : Int) (x2 : Int) (z0 : Int) (h : Hp) : Option ((Int × Int × Hp) ⊕ (Hp)) :=
  lb_ (st h 18 16 z0) (fun h15 => (if x1 = 3 then bd_ (fX2_readBehind h15) (fun r24 h26 => fX2_readLaw_j100 x2 r24 h26) else bd_ (fX2_readPart x1 h15) (fun r17 h19 => fX2_readLaw_j100 x2 r17 h19)))
def fX2_readLaw_l40 (x1 : Int) (x2 : Int) (h : Hp) : Option ((Int × Int × Hp) ⊕ (Hp)) :=
  (if (h 18 1) < x2 then some (.inr h) else (if (h 18 6) = 0 then (if x1 = 4 then some (.inr h) else bp_ (fX2_isWord 18 h) (fun r12 => (if r12 = 0 then fX2_readLaw_j80 x1 x2 0 h else fX2_readLaw_j80 x1 x2 ((i_add ((h 18 16)) 1)) h))) else some (.inr h)))
def fX2_readLaw_j111  (h : Hp) : Option (Int × Hp) :=
  gd_ ((h 18 8) = 1 ∨ (h 18 8) = 9) (gd_ (0 ≤ (h (Int.toNat ((h 18 8))) 8) ∧ (h (Int.toNat ((h 18 8))) 8) < 4) (lb_ (st h (Int.toNat ((h 18 8) + 5)) (Int.toNat ((h (Int.toNat ((h 18 8))) 8))) ((h 18 14))) (fun h31 => gd_ ((h31 18 8) = 1 ∨ (h31 18 8) = 9) (lb_ (st h31 (Int.toNat ((h31 18 8))) 8 ((i_add ((h31 (Int.toNat ((h31 18 8))) 8)) 1))) (fun h33 => some (0, h33))))))
def fX2_readLaw  (h : Hp) : Option (Int × Hp) :=
  gd_ ((h 18 8) = 1 ∨ (h 18 8) = 9) ((if (h (Int.toNat ((h 18 8))) 8) < 4 then bd_ (fX2_take h) (fun r3 h5 => lb_ (st h5 18 13 0) (fun h6 => lb_ (st h6 18 15 0) (fun h7 => lb_ (st h7 18 16 0) (fun h8 => bp_ (it_ (fun s => fX2_readLaw_l40 s.1 s.2.1 s.2.2) FU (0, 0, h8)) (fun e27 => (fun h28 => fX2_readLaw_j111 h28) e27))))) else bd_ (fX2_refuse 2 h) (fun r34 h36 => some (0, h36))))
theorem fX2_readLaw_j100_ok {G : GD} {X : CX} {n : Nat} {Q : Av → Nat → Hp → Prop} (hC : Cx G X RX2 cX2_readLaw) (hZ : ZOK X G Q 0 0) (hRm : X.R = rmd 11 0 0) (hbt : X.bt = true) (hr : X.meth.sig.returnType = none) {x2 : Int} {z0 : Int} {h : Hp} {b : (Int × Int × Hp) ⊕ (Hp)} (hF : fX2_readLaw_j100 x2 z0 h = some b) (hL9 : ∀ (u1 : Int) (u2 : Int) (h9 : Hp), b = .inl (u1, u2, h9) → AW G X 40 [(2, ((18 : Nat) : Int)), (0, u1), (0, u2)] [] n h9 0 0) (hX9 : ∀ (h9 : Hp), b = .inr h9 → AW G X 111 [(2, ((18 : Nat) : Int)), (9, 0), (9, 0)] [] n h9 0 0) : AW G X 100 [(2, ((18 : Nat) : Int)), (9, 0), (0, x2)] [(0, z0)] n h 0 0 := by
  unfold fX2_readLaw_j100 at hF
  refine aw_istore1 hC dX2_readLaw_100 rfl ?_
  refine aw_aload_n hC dX2_readLaw_101 rfl ?_
  obtain ⟨r20, h22, q21, hF⟩ := bd_some hF
  refine clRX2_60 hC hRm hbt dX2_readLaw_102 rfl rfl (by decide) (Nat.le_of_ble_eq_true rfl) (Nat.le_of_ble_eq_true rfl) (ok_X2_take q21) ?_
  refine aw_iinc2 hC dX2_readLaw_105 rfl ?_
  refine aw_goto (tgt := 40) hC dX2_readLaw_108 (by decide) ?_
  exact hL9 _ _ _ (Option.some.inj hF).symm
theorem fX2_readLaw_j80_ok {G : GD} {X : CX} {n : Nat} {Q : Av → Nat → Hp → Prop} (hC : Cx G X RX2 cX2_readLaw) (hZ : ZOK X G Q 0 0) (hRm : X.R = rmd 11 0 0) (hbt : X.bt = true) (hr : X.meth.sig.returnType = none) {x1 : Int} {x2 : Int} {z0 : Int} {h : Hp} {b : (Int × Int × Hp) ⊕ (Hp)} (hF : fX2_readLaw_j80 x1 x2 z0 h = some b) (hL9 : ∀ (u1 : Int) (u2 : Int) (h9 : Hp), b = .inl (u1, u2, h9) → AW G X 40 [(2, ((18 : Nat) : Int)), (0, u1), (0, u2)] [] n h9 0 0) (hX9 : ∀ (h9 : Hp), b = .inr h9 → AW G X 111 [(2, ((18 : Nat) : Int)), (9, 0), (9, 0)] [] n h9 0 0) : AW G X 80 [(2, ((18 : Nat) : Int)), (0, x1), (0, x2)] [(0, z0), (2, ((18 : Nat) : Int))] n h 0 0 := by
  unfold fX2_readLaw_j80 at hF
  obtain ⟨h15, eh15, hF⟩ := lb_some hF
  refine aw_p2i (k := 16) (a := 18) hC dX2_readLaw_80 lkRX2_187 (by decide) rfl rfl rfl rfl rfl (Or.inl ⟨hbt, by decide⟩) (fun _ => by decide) ?_
  refine aw_eqH eh15 ?_
  clear eh15
  refine aw_iload_n hC dX2_readLaw_83 rfl ?_
  refine aw_iconst hC dX2_readLaw_84 (by decide) ?_
  refine aw_icmp_ne (tgt := 95) hC dX2_readLaw_85 (by decide) (fun c16 => ?_) (fun c16 => ?_)
  · have hF := it_f hF c16
    refine aw_aload_n hC dX2_readLaw_95 rfl ?_
    refine aw_iload_n hC dX2_readLaw_96 rfl ?_
    obtain ⟨r17, h19, q18, hF⟩ := bd_some hF
    refine clRX2_195 hC hRm hbt dX2_readLaw_97 rfl rfl (by decide) (Nat.le_of_ble_eq_true rfl) (Nat.le_of_ble_eq_true rfl) (ok_X2_readPart q18) ?_
    refine aw_weak (ls' := [(2, ((18 : Nat) : Int)), (9, 0), (0, x2)]) ⟨Or.inr rfl, Or.inl rfl, Or.inr rfl, trivial⟩ ?_
    exact fX2_readLaw_j100_ok hC hZ hRm hbt hr hF (fun u0 u1 u2 e => hL9 u0 u1 u2 e) (fun w0 e => hX9 w0 e)
  · have hF := it_t hF c16
    refine aw_aload_n hC dX2_readLaw_88 rfl ?_
    obtain ⟨r24, h26, q25, hF⟩ := bd_some hF
    refine clRX2_192 hC hRm hbt dX2_readLaw_89 rfl rfl (by decide) (Nat.le_of_ble_eq_true rfl) (Nat.le_of_ble_eq_true rfl) (ok_X2_readBehind q25) ?_
    refine aw_goto (tgt := 100) hC dX2_readLaw_92 (by decide) ?_
    refine aw_weak (ls' := [(2, ((18 : Nat) : Int)), (9, 0), (0, x2)]) ⟨Or.inr rfl, Or.inl rfl, Or.inr rfl, trivial⟩ ?_
    exact fX2_readLaw_j100_ok hC hZ hRm hbt hr hF (fun u0 u1 u2 e => hL9 u0 u1 u2 e) (fun w0 e => hX9 w0 e)
theorem fX2_readLaw_l40_ok {G : GD} {X : CX} {n : Nat} {Q : Av → Nat → Hp → Prop} (hC : Cx G X RX2 cX2_readLaw) (hZ : ZOK X G Q 0 0) (hRm : X.R = rmd 11 0 0) (hbt : X.bt = true) (hr : X.meth.sig.returnType = none)  : ∀ (f : Nat) (x1 : Int) (x2 : Int) (h : Hp) (r : Hp), it_ (fun s => fX2_readLaw_l40 s.1 s.2.1 s.2.2) f (x1, x2, h) = some r → (∀ (h9 : Hp), r = h9 → AW G X 111 [(2, ((18 : Nat) : Int)), (9, 0), (9, 0)] [] n h9 0 0) → AW G X 40 [(2, ((18 : Nat) : Int)), (0, x1), (0, x2)] [] n h 0 0 := by
  intro f
  induction f with
  | zero => intro x1 x2 h r hI; cases hI
  | succ f ih0 =>
    intro x1 x2 h r hI hX
    obtain ⟨b, hF, hb1, hb2⟩ := it_succ hI
    have hF : fX2_readLaw_l40 x1 x2 h = some b := hF
    unfold fX2_readLaw_l40 at hF
    refine aw_iload_n hC dX2_readLaw_40 rfl ?_
    refine aw_aload_n hC dX2_readLaw_41 rfl ?_
    refine aw_g2i (k := 1) (a := 18) hC dX2_readLaw_42 lkRX2_29 (by decide) rfl rfl rfl (Or.inl ⟨hbt, by decide⟩) ?_
    refine aw_icmp_gt (tgt := 111) hC dX2_readLaw_45 (by decide) (fun c9 => ?_) (fun c9 => ?_)
    · have hF := it_t hF c9
      refine aw_weak (ls' := [(2, ((18 : Nat) : Int)), (9, 0), (9, 0)]) ⟨Or.inr rfl, Or.inl rfl, Or.inl rfl, trivial⟩ ?_
      exact hX _ (hb2 _ (Option.some.inj hF).symm).symm
    · have hF := it_f hF c9
      refine aw_aload_n hC dX2_readLaw_48 rfl ?_
      refine aw_g2i (k := 6) (a := 18) hC dX2_readLaw_49 lkRX2_36 (by decide) rfl rfl rfl (Or.inl ⟨hbt, by decide⟩) ?_
      refine aw_if_ne (tgt := 111) hC dX2_readLaw_52 (by decide) (fun c10 => ?_) (fun c10 => ?_)
      · have hF := it_f hF c10
        refine aw_weak (ls' := [(2, ((18 : Nat) : Int)), (9, 0), (9, 0)]) ⟨Or.inr rfl, Or.inl rfl, Or.inl rfl, trivial⟩ ?_
        exact hX _ (hb2 _ (Option.some.inj hF).symm).symm
      · have hF := it_t hF c10
        refine aw_iload_n hC dX2_readLaw_55 rfl ?_
        refine aw_iconst hC dX2_readLaw_56 (by decide) ?_
        refine aw_icmp_eq (tgt := 111) hC dX2_readLaw_57 (by decide) (fun c11 => ?_) (fun c11 => ?_)
        · have hF := it_t hF c11
          refine aw_weak (ls' := [(2, ((18 : Nat) : Int)), (9, 0), (9, 0)]) ⟨Or.inr rfl, Or.inl rfl, Or.inl rfl, trivial⟩ ?_
          exact hX _ (hb2 _ (Option.some.inj hF).symm).symm
        · have hF := it_f hF c11
          refine aw_aload_n hC dX2_readLaw_60 rfl ?_
          refine aw_aload_n hC dX2_readLaw_61 rfl ?_
          refine aw_ldcs_RX2_190 hC dX2_readLaw_62 ?_
          obtain ⟨r12, q13, hF⟩ := bp_some hF
          refine clRX2_64 hC hRm hbt dX2_readLaw_64 rfl rfl (by decide) (Nat.le_of_ble_eq_true rfl) (Nat.le_of_ble_eq_true rfl) (ok_X2_isWord q13) ?_
          refine aw_if_eq (tgt := 79) hC dX2_readLaw_67 (by decide) (fun c14 => ?_) (fun c14 => ?_)
          · have hF := it_t hF c14
            refine aw_iconst hC dX2_readLaw_79 (by decide) ?_
            exact fX2_readLaw_j80_ok hC hZ hRm hbt hr hF (fun u0 u1 u2 e => ih0 u0 u1 u2 r (hb1 _ e) hX) (fun w0 e => hX w0 (hb2 _ e).symm)
          · have hF := it_f hF c14
            refine aw_aload_n hC dX2_readLaw_70 rfl ?_
            refine aw_g2i (k := 16) (a := 18) hC dX2_readLaw_71 lkRX2_187 (by decide) rfl rfl rfl (Or.inl ⟨hbt, by decide⟩) ?_
            refine aw_iconst hC dX2_readLaw_74 (by decide) ?_
            refine aw_iadd hC dX2_readLaw_75 ?_
            refine aw_goto (tgt := 80) hC dX2_readLaw_76 (by decide) ?_
            exact fX2_readLaw_j80_ok hC hZ hRm hbt hr hF (fun u0 u1 u2 e => ih0 u0 u1 u2 r (hb1 _ e) hX) (fun w0 e => hX w0 (hb2 _ e).symm)
theorem fX2_readLaw_j111_ok {G : GD} {X : CX} {n : Nat} {Q : Av → Nat → Hp → Prop} (hC : Cx G X RX2 cX2_readLaw) (hZ : ZOK X G Q 0 0) (hRm : X.R = rmd 11 0 0) (hbt : X.bt = true) (hr : X.meth.sig.returnType = none)  {h : Hp} {res : Int × Hp} (hF : fX2_readLaw_j111  h = some res) (hK : ∀ (x9 : Int) (h9 : Hp), res = (x9, h9) → Q (8, x9) n h9) : AW G X 111 [(2, ((18 : Nat) : Int)), (9, 0), (9, 0)] [] n h 0 0 := by
  unfold fX2_readLaw_j111 at hF
  refine aw_aload_n hC dX2_readLaw_111 rfl ?_
  refine aw_g2r (k := 8) (a := 18) hC dX2_readLaw_112 lkRX2_19 (by decide) rfl rfl rfl (Or.inl ⟨hbt, by decide⟩) ?_
  obtain ⟨k29, hF⟩ := gd_some hF
  refine aw_gL5N hC hbt k29 dX2_readLaw_115 lkRX2_199 ?_
  refine aw_aload_n hC dX2_readLaw_118 rfl ?_
  refine aw_g2r (k := 8) (a := 18) hC dX2_readLaw_119 lkRX2_19 (by decide) rfl rfl rfl (Or.inl ⟨hbt, by decide⟩) ?_
  refine aw_gLiN (k := 8) hC hbt k29 dX2_readLaw_122 lkRX2_80 (by decide) rfl ?_
  refine aw_aload_n hC dX2_readLaw_125 rfl ?_
  refine aw_g2i (k := 14) (a := 18) hC dX2_readLaw_126 lkRX2_52 (by decide) rfl rfl rfl (Or.inl ⟨hbt, by decide⟩) ?_
  obtain ⟨g30, hF⟩ := gd_some hF
  obtain ⟨h31, eh31, hF⟩ := lb_some hF
  refine aw_iastore (a := (Int.toNat ((h 18 8) + 5))) hC dX2_readLaw_129 (lnd5 k29).1 (lnd5 k29).2.1 (Or.inl ⟨hbt, (lnd5 k29).2.2⟩) g30.1 g30.2 ?_
  refine aw_eqH eh31 ?_
  clear eh31
  refine aw_aload_n hC dX2_readLaw_130 rfl ?_
  refine aw_g2r (k := 8) (a := 18) hC dX2_readLaw_131 lkRX2_19 (by decide) rfl rfl rfl (Or.inl ⟨hbt, by decide⟩) ?_
  refine aw_dup hC dX2_readLaw_134 (by simp) ?_
  obtain ⟨k32, hF⟩ := gd_some hF
  refine aw_gLiN (k := 8) hC hbt k32 dX2_readLaw_135 lkRX2_80 (by decide) rfl ?_
  refine aw_iconst hC dX2_readLaw_138 (by decide) ?_
  refine aw_iadd hC dX2_readLaw_139 ?_
  obtain ⟨h33, eh33, hF⟩ := lb_some hF
  refine aw_pLiN (k := 8) hC hbt k32 dX2_readLaw_140 lkRX2_80 (by decide) rfl rfl rfl (by decide) ?_
  refine aw_eqH eh33 ?_
  clear eh33
  exact aw_return hC hZ (Nat.zero_le _) (Nat.zero_le _) hr dX2_readLaw_143 (hK _ _ (Option.some.inj hF).symm)
theorem ok_X2_readLaw {G : GD} {n : Nat}  {h : Hp} {res : Int × Hp} (hF : fX2_readLaw  h = some res) : Con G yX2_readLaw cX2_readLaw 3 none 11 0 0 true [(2, ((18 : Nat) : Int))] n h (FQ 8 n res) := by
  refine con_of (pad := 2) (own := RX2) (plainFor_of_name (by decide)) rfl rfl ?_
  intro X hC hbt hr hnm hZ hRm hn0
  have hK : ∀ (x9 : Int) (h9 : Hp), res = (x9, h9) → FQ 8 n res (8, x9) n h9 := fun x9 h9 e => by subst e; exact ⟨rfl, rfl, rfl⟩
  unfold fX2_readLaw at hF
  show AW G X 0 [(2, ((18 : Nat) : Int)), (9, 0), (9, 0)] [] n h 0 0
  refine aw_aload_n hC dX2_readLaw_0 rfl ?_
  refine aw_g2r (k := 8) (a := 18) hC dX2_readLaw_1 lkRX2_19 (by decide) rfl rfl rfl (Or.inl ⟨hbt, by decide⟩) ?_
  obtain ⟨k1, hF⟩ := gd_some hF
  refine aw_gLiN (k := 8) hC hbt k1 dX2_readLaw_4 lkRX2_80 (by decide) rfl ?_
  refine aw_iconst hC dX2_readLaw_7 (by decide) ?_
  refine aw_icmp_lt (tgt := 17) hC dX2_readLaw_8 (by decide) (fun c2 => ?_) (fun c2 => ?_)
  · have hF := it_t hF c2
    refine aw_aload_n hC dX2_readLaw_17 rfl ?_
    obtain ⟨r3, h5, q4, hF⟩ := bd_some hF
    refine clRX2_60 hC hRm hbt dX2_readLaw_18 rfl rfl (by decide) (Nat.le_of_ble_eq_true rfl) (Nat.le_of_ble_eq_true rfl) (ok_X2_take q4) ?_
    refine aw_aload_n hC dX2_readLaw_21 rfl ?_
    refine aw_iconst hC dX2_readLaw_22 (by decide) ?_
    obtain ⟨h6, eh6, hF⟩ := lb_some hF
    refine aw_p2i (k := 13) (a := 18) hC dX2_readLaw_23 lkRX2_181 (by decide) rfl rfl rfl rfl rfl (Or.inl ⟨hbt, by decide⟩) (fun _ => by decide) ?_
    refine aw_eqH eh6 ?_
    clear eh6
    refine aw_aload_n hC dX2_readLaw_26 rfl ?_
    refine aw_iconst hC dX2_readLaw_27 (by decide) ?_
    obtain ⟨h7, eh7, hF⟩ := lb_some hF
    refine aw_p2i (k := 15) (a := 18) hC dX2_readLaw_28 lkRX2_184 (by decide) rfl rfl rfl rfl rfl (Or.inl ⟨hbt, by decide⟩) (fun _ => by decide) ?_
    refine aw_eqH eh7 ?_
    clear eh7
    refine aw_aload_n hC dX2_readLaw_31 rfl ?_
    refine aw_iconst hC dX2_readLaw_32 (by decide) ?_
    obtain ⟨h8, eh8, hF⟩ := lb_some hF
    refine aw_p2i (k := 16) (a := 18) hC dX2_readLaw_33 lkRX2_187 (by decide) rfl rfl rfl rfl rfl (Or.inl ⟨hbt, by decide⟩) (fun _ => by decide) ?_
    refine aw_eqH eh8 ?_
    clear eh8
    refine aw_iconst hC dX2_readLaw_36 (by decide) ?_
    refine aw_istore1 hC dX2_readLaw_37 rfl ?_
    refine aw_iconst hC dX2_readLaw_38 (by decide) ?_
    refine aw_istore2 hC dX2_readLaw_39 rfl ?_
    obtain ⟨e27, he, hF⟩ := bp_some hF
    refine fX2_readLaw_l40_ok hC hZ hRm hbt hr FU _ _ _ e27 he (fun h28 er => ?_)
    replace er := er.symm
    subst er
    try dsimp only at hF
    exact fX2_readLaw_j111_ok hC hZ hRm hbt hr hF hK
  · have hF := it_f hF c2
    refine aw_aload_n hC dX2_readLaw_11 rfl ?_
    refine aw_iconst hC dX2_readLaw_12 (by decide) ?_
    obtain ⟨r34, h36, q35, hF⟩ := bd_some hF
    refine clRX2_108 hC hRm hbt dX2_readLaw_13 rfl rfl (by decide) (Nat.le_of_ble_eq_true rfl) (Nat.le_of_ble_eq_true rfl) (ok_X2_refuse q35) ?_
    exact aw_return hC hZ (Nat.zero_le _) (Nat.zero_le _) hr dX2_readLaw_16 (hK _ _ (Option.some.inj hF).symm)
def fX2_takenNumber (x1 : Int) (x2 : Int) (h : Hp) : Option (Int × Hp) :=
  bd_ (fX2_numberHere x1 x2 h) (fun r1 h3 => bd_ (fX2_take h3) (fun r4 h6 => some (r1, h6)))
theorem ok_X2_takenNumber {G : GD} {n : Nat} {x1 : Int} {x2 : Int} {h : Hp} {res : Int × Hp} (hF : fX2_takenNumber x1 x2 h = some res) : Con G yX2_takenNumber cX2_takenNumber 4 (some .int) 2 0 0 true [(2, ((18 : Nat) : Int)), (0, x1), (0, x2)] n h (FQ 0 n res) := by
  refine con_of (pad := 1) (own := RX2) (plainFor_of_name (by decide)) rfl rfl ?_
  intro X hC hbt hr hnm hZ hRm hn0
  have hK : ∀ (x9 : Int) (h9 : Hp), res = (x9, h9) → FQ 0 n res (0, x9) n h9 := fun x9 h9 e => by subst e; exact ⟨rfl, rfl, rfl⟩
  unfold fX2_takenNumber at hF
  show AW G X 0 [(2, ((18 : Nat) : Int)), (0, x1), (0, x2), (9, 0)] [] n h 0 0
  refine aw_aload_n hC dX2_takenNumber_0 rfl ?_
  refine aw_iload_n hC dX2_takenNumber_1 rfl ?_
  refine aw_iload_n hC dX2_takenNumber_2 rfl ?_
  obtain ⟨r1, h3, q2, hF⟩ := bd_some hF
  refine clRX2_112 hC hRm hbt dX2_takenNumber_3 rfl rfl (by decide) (Nat.le_of_ble_eq_true rfl) (Nat.le_of_ble_eq_true rfl) (ok_X2_numberHere q2) ?_
  refine aw_istore3 hC dX2_takenNumber_6 rfl ?_
  refine aw_aload_n hC dX2_takenNumber_7 rfl ?_
  obtain ⟨r4, h6, q5, hF⟩ := bd_some hF
  refine clRX2_60 hC hRm hbt dX2_takenNumber_8 rfl rfl (by decide) (Nat.le_of_ble_eq_true rfl) (Nat.le_of_ble_eq_true rfl) (ok_X2_take q5) ?_
  refine aw_iload_n hC dX2_takenNumber_11 rfl ?_
  exact aw_ireturn hC hZ (Nat.zero_le _) (Nat.zero_le _) hr dX2_takenNumber_12 (hK _ _ (Option.some.inj hF).symm)
def fX2_takeEndOfLine_j14  (h : Hp) : Option (Int × Hp) :=
  bd_ (fX2_take h) (fun r2 h4 => some (0, h4))
def fX2_takeEndOfLine  (h : Hp) : Option (Int × Hp) :=
  (if (h 18 4) = 59 then fX2_takeEndOfLine_j14 h else bd_ (fX2_refuse 1 h) (fun r5 h7 => fX2_takeEndOfLine_j14 h7))
theorem fX2_takeEndOfLine_j14_ok {G : GD} {X : CX} {n : Nat} {Q : Av → Nat → Hp → Prop} (hC : Cx G X RX2 cX2_takeEndOfLine) (hZ : ZOK X G Q 0 0) (hRm : X.R = rmd 2 0 0) (hbt : X.bt = true) (hr : X.meth.sig.returnType = none)  {h : Hp} {res : Int × Hp} (hF : fX2_takeEndOfLine_j14  h = some res) (hK : ∀ (x9 : Int) (h9 : Hp), res = (x9, h9) → Q (8, x9) n h9) : AW G X 14 [(2, ((18 : Nat) : Int))] [] n h 0 0 := by
  unfold fX2_takeEndOfLine_j14 at hF
  refine aw_aload_n hC dX2_takeEndOfLine_14 rfl ?_
  obtain ⟨r2, h4, q3, hF⟩ := bd_some hF
  refine clRX2_60 hC hRm hbt dX2_takeEndOfLine_15 rfl rfl (by decide) (Nat.le_of_ble_eq_true rfl) (Nat.le_of_ble_eq_true rfl) (ok_X2_take q3) ?_
  exact aw_return hC hZ (Nat.zero_le _) (Nat.zero_le _) hr dX2_takeEndOfLine_18 (hK _ _ (Option.some.inj hF).symm)
theorem ok_X2_takeEndOfLine {G : GD} {n : Nat}  {h : Hp} {res : Int × Hp} (hF : fX2_takeEndOfLine  h = some res) : Con G yX2_takeEndOfLine cX2_takeEndOfLine 1 none 2 0 0 true [(2, ((18 : Nat) : Int))] n h (FQ 8 n res) := by
  refine con_of (pad := 0) (own := RX2) (plainFor_of_name (by decide)) rfl rfl ?_
  intro X hC hbt hr hnm hZ hRm hn0
  have hK : ∀ (x9 : Int) (h9 : Hp), res = (x9, h9) → FQ 8 n res (8, x9) n h9 := fun x9 h9 e => by subst e; exact ⟨rfl, rfl, rfl⟩
  unfold fX2_takeEndOfLine at hF
  show AW G X 0 [(2, ((18 : Nat) : Int))] [] n h 0 0
  refine aw_aload_n hC dX2_takeEndOfLine_0 rfl ?_
  refine aw_g2i (k := 4) (a := 18) hC dX2_takeEndOfLine_1 lkRX2_71 (by decide) rfl rfl rfl (Or.inl ⟨hbt, by decide⟩) ?_
  refine aw_bipush hC dX2_takeEndOfLine_4 (by decide) (by decide) ?_
  refine aw_icmp_eq (tgt := 14) hC dX2_takeEndOfLine_6 (by decide) (fun c1 => ?_) (fun c1 => ?_)
  · have hF := it_t hF c1
    exact fX2_takeEndOfLine_j14_ok hC hZ hRm hbt hr hF hK
  · have hF := it_f hF c1
    refine aw_aload_n hC dX2_takeEndOfLine_9 rfl ?_
    refine aw_iconst hC dX2_takeEndOfLine_10 (by decide) ?_
    obtain ⟨r5, h7, q6, hF⟩ := bd_some hF
    refine clRX2_108 hC hRm hbt dX2_takeEndOfLine_11 rfl rfl (by decide) (Nat.le_of_ble_eq_true rfl) (Nat.le_of_ble_eq_true rfl) (ok_X2_refuse q6) ?_
    exact fX2_takeEndOfLine_j14_ok hC hZ hRm hbt hr hF hK
def fX2_readFogs_l46 (x1 : Int) (h : Hp) : Option ((Int × Hp) ⊕ ((Hp) ⊕ (Int × Hp))) :=
  (if 8 < x1 then some (.inr (.inl h)) else (if (h 18 4) = 2 then (if x1 = 8 then bd_ (fX2_refuse 2 h) (fun r26 h28 => some (.inr (.inr (0, h28)))) else gd_ ((h 18 8) = 1 ∨ (h 18 8) = 9) (bd_ (fX2_takenNumber 1 9 h) (fun r18 h20 => gd_ (0 ≤ x1 ∧ x1 < 8) (lb_ (st h20 (Int.toNat ((h 18 8) + 4)) (Int.toNat x1) r18) (fun h22 => gd_ ((h22 18 8) = 1 ∨ (h22 18 8) = 9) (lb_ (st h22 (Int.toNat ((h22 18 8))) 6 ((i_add x1 1))) (fun h23 => some (.inl ((i_add x1 1), h23))))))))) else some (.inr (.inl h))))
def fX2_readFogs_j104  (h : Hp) : Option (Int × Hp) :=
  bd_ (fX2_takeEndOfLine h) (fun r31 h33 => some (0, h33))
def fX2_readFogs  (h : Hp) : Option (Int × Hp) :=
  gd_ ((h 18 8) = 1 ∨ (h 18 8) = 9) ((if (h (Int.toNat ((h 18 8))) 6) ≤ 0 then bd_ (fX2_take h) (fun r3 h5 => gd_ ((h5 18 8) = 1 ∨ (h5 18 8) = 9) (bd_ (fX2_takenNumber 1 9 h5) (fun r7 h9 => gd_ (0 ≤ (0 : Int) ∧ (0 : Int) < 8) (lb_ (st h9 (Int.toNat ((h5 18 8) + 4)) (Int.toNat 0) r7) (fun h11 => gd_ ((h11 18 8) = 1 ∨ (h11 18 8) = 9) (lb_ (st h11 (Int.toNat ((h11 18 8))) 6 1) (fun h12 => bp_ (it_ (fun s => fX2_readFogs_l46 s.1 s.2) FU (1, h12)) (fun e29 => match e29 with | .inl e29 => (fun h30 => fX2_readFogs_j104 h30) e29 | .inr q9 => some q9)))))))) else bd_ (fX2_refuse 5 h) (fun r34 h36 => some (0, h36))))
theorem fX2_readFogs_l46_ok {G : GD} {X : CX} {n : Nat} {Q : Av → Nat → Hp → Prop} (hC : Cx G X RX2 cX2_readFogs) (hZ : ZOK X G Q 0 0) (hRm : X.R = rmd 3 0 0) (hbt : X.bt = true) (hr : X.meth.sig.returnType = none)  : ∀ (f : Nat) (x1 : Int) (h : Hp) (r : (Hp) ⊕ (Int × Hp)), it_ (fun s => fX2_readFogs_l46 s.1 s.2) f (x1, h) = some r → (∀ (h9 : Hp), r = (.inl h9) → AW G X 104 [(2, ((18 : Nat) : Int)), (9, 0)] [] n h9 0 0) → (∀ (x9 : Int) (h9 : Hp), r = .inr (x9, h9) → Q (8, x9) n h9) → AW G X 46 [(2, ((18 : Nat) : Int)), (0, x1)] [] n h 0 0 := by
  intro f
  induction f with
  | zero => intro x1 h r hI; cases hI
  | succ f ih0 =>
    intro x1 h r hI hX hRet9
    obtain ⟨b, hF, hb1, hb2⟩ := it_succ hI
    have hF : fX2_readFogs_l46 x1 h = some b := hF
    have hRet : ∀ (x9 : Int) (h9 : Hp), b = .inr (.inr (x9, h9)) → Q (8, x9) n h9 := fun x9 h9 e => hRet9 x9 h9 (hb2 _ e).symm
    unfold fX2_readFogs_l46 at hF
    refine aw_iload_n hC dX2_readFogs_46 rfl ?_
    refine aw_bipush hC dX2_readFogs_47 (by decide) (by decide) ?_
    refine aw_icmp_gt (tgt := 104) hC dX2_readFogs_49 (by decide) (fun c14 => ?_) (fun c14 => ?_)
    · have hF := it_t hF c14
      refine aw_weak (ls' := [(2, ((18 : Nat) : Int)), (9, 0)]) ⟨Or.inr rfl, Or.inl rfl, trivial⟩ ?_
      exact hX _ (hb2 _ (Option.some.inj hF).symm).symm
    · have hF := it_f hF c14
      refine aw_aload_n hC dX2_readFogs_52 rfl ?_
      refine aw_g2i (k := 4) (a := 18) hC dX2_readFogs_53 lkRX2_71 (by decide) rfl rfl rfl (Or.inl ⟨hbt, by decide⟩) ?_
      refine aw_iconst hC dX2_readFogs_56 (by decide) ?_
      refine aw_icmp_ne (tgt := 104) hC dX2_readFogs_57 (by decide) (fun c15 => ?_) (fun c15 => ?_)
      · have hF := it_f hF c15
        refine aw_weak (ls' := [(2, ((18 : Nat) : Int)), (9, 0)]) ⟨Or.inr rfl, Or.inl rfl, trivial⟩ ?_
        exact hX _ (hb2 _ (Option.some.inj hF).symm).symm
      · have hF := it_t hF c15
        refine aw_iload_n hC dX2_readFogs_60 rfl ?_
        refine aw_bipush hC dX2_readFogs_61 (by decide) (by decide) ?_
        refine aw_icmp_ne (tgt := 72) hC dX2_readFogs_63 (by decide) (fun c16 => ?_) (fun c16 => ?_)
        · have hF := it_f hF c16
          refine aw_aload_n hC dX2_readFogs_72 rfl ?_
          refine aw_g2r (k := 8) (a := 18) hC dX2_readFogs_73 lkRX2_19 (by decide) rfl rfl rfl (Or.inl ⟨hbt, by decide⟩) ?_
          obtain ⟨k17, hF⟩ := gd_some hF
          refine aw_gL4N hC hbt k17 dX2_readFogs_76 lkRX2_179 ?_
          refine aw_iload_n hC dX2_readFogs_79 rfl ?_
          refine aw_aload_n hC dX2_readFogs_80 rfl ?_
          refine aw_iconst hC dX2_readFogs_81 (by decide) ?_
          refine aw_bipush hC dX2_readFogs_82 (by decide) (by decide) ?_
          obtain ⟨r18, h20, q19, hF⟩ := bd_some hF
          refine clRX2_125 hC hRm hbt dX2_readFogs_84 rfl rfl (by decide) (Nat.le_of_ble_eq_true rfl) (Nat.le_of_ble_eq_true rfl) (ok_X2_takenNumber q19) ?_
          obtain ⟨g21, hF⟩ := gd_some hF
          obtain ⟨h22, eh22, hF⟩ := lb_some hF
          refine aw_iastore (a := (Int.toNat ((h 18 8) + 4))) hC dX2_readFogs_87 (lnd4 k17).1 (lnd4 k17).2.1 (Or.inl ⟨hbt, (lnd4 k17).2.2⟩) g21.1 g21.2 ?_
          refine aw_eqH eh22 ?_
          clear eh22
          refine aw_aload_n hC dX2_readFogs_88 rfl ?_
          refine aw_g2r (k := 8) (a := 18) hC dX2_readFogs_89 lkRX2_19 (by decide) rfl rfl rfl (Or.inl ⟨hbt, by decide⟩) ?_
          refine aw_iload_n hC dX2_readFogs_92 rfl ?_
          refine aw_iconst hC dX2_readFogs_93 (by decide) ?_
          refine aw_iadd hC dX2_readFogs_94 ?_
          obtain ⟨k24, hF⟩ := gd_some hF
          obtain ⟨h23, eh23, hF⟩ := lb_some hF
          refine aw_pLiN (k := 6) hC hbt k24 dX2_readFogs_95 lkRX2_176 (by decide) rfl rfl rfl (by decide) ?_
          refine aw_eqH eh23 ?_
          clear eh23
          refine aw_iinc1 hC dX2_readFogs_98 rfl ?_
          refine aw_goto (tgt := 46) hC dX2_readFogs_101 (by decide) ?_
          exact ih0 _ _ r (hb1 _ (Option.some.inj hF).symm) hX hRet9
        · have hF := it_t hF c16
          refine aw_aload_n hC dX2_readFogs_66 rfl ?_
          refine aw_iconst hC dX2_readFogs_67 (by decide) ?_
          obtain ⟨r26, h28, q27, hF⟩ := bd_some hF
          refine clRX2_108 hC hRm hbt dX2_readFogs_68 rfl rfl (by decide) (Nat.le_of_ble_eq_true rfl) (Nat.le_of_ble_eq_true rfl) (ok_X2_refuse q27) ?_
          exact aw_return hC hZ (Nat.zero_le _) (Nat.zero_le _) hr dX2_readFogs_71 (hRet _ _ (Option.some.inj hF).symm)
theorem fX2_readFogs_j104_ok {G : GD} {X : CX} {n : Nat} {Q : Av → Nat → Hp → Prop} (hC : Cx G X RX2 cX2_readFogs) (hZ : ZOK X G Q 0 0) (hRm : X.R = rmd 3 0 0) (hbt : X.bt = true) (hr : X.meth.sig.returnType = none)  {h : Hp} {res : Int × Hp} (hF : fX2_readFogs_j104  h = some res) (hK : ∀ (x9 : Int) (h9 : Hp), res = (x9, h9) → Q (8, x9) n h9) : AW G X 104 [(2, ((18 : Nat) : Int)), (9, 0)] [] n h 0 0 := by
  unfold fX2_readFogs_j104 at hF
  refine aw_aload_n hC dX2_readFogs_104 rfl ?_
  obtain ⟨r31, h33, q32, hF⟩ := bd_some hF
  refine clRX2_128 hC hRm hbt dX2_readFogs_105 rfl rfl (by decide) (Nat.le_of_ble_eq_true rfl) (Nat.le_of_ble_eq_true rfl) (ok_X2_takeEndOfLine q32) ?_
  exact aw_return hC hZ (Nat.zero_le _) (Nat.zero_le _) hr dX2_readFogs_108 (hK _ _ (Option.some.inj hF).symm)
theorem ok_X2_readFogs {G : GD} {n : Nat}  {h : Hp} {res : Int × Hp} (hF : fX2_readFogs  h = some res) : Con G yX2_readFogs cX2_readFogs 2 none 3 0 0 true [(2, ((18 : Nat) : Int))] n h (FQ 8 n res) := by
  refine con_of (pad := 1) (own := RX2) (plainFor_of_name (by decide)) rfl rfl ?_
  intro X hC hbt hr hnm hZ hRm hn0
  have hK : ∀ (x9 : Int) (h9 : Hp), res = (x9, h9) → FQ 8 n res (8, x9) n h9 := fun x9 h9 e => by subst e; exact ⟨rfl, rfl, rfl⟩
  unfold fX2_readFogs at hF
  show AW G X 0 [(2, ((18 : Nat) : Int)), (9, 0)] [] n h 0 0
  refine aw_aload_n hC dX2_readFogs_0 rfl ?_
  refine aw_g2r (k := 8) (a := 18) hC dX2_readFogs_1 lkRX2_19 (by decide) rfl rfl rfl (Or.inl ⟨hbt, by decide⟩) ?_
  obtain ⟨k1, hF⟩ := gd_some hF
  refine aw_gLiN (k := 6) hC hbt k1 dX2_readFogs_4 lkRX2_176 (by decide) rfl ?_
  refine aw_if_le (tgt := 16) hC dX2_readFogs_7 (by decide) (fun c2 => ?_) (fun c2 => ?_)
  · have hF := it_t hF c2
    refine aw_aload_n hC dX2_readFogs_16 rfl ?_
    obtain ⟨r3, h5, q4, hF⟩ := bd_some hF
    refine clRX2_60 hC hRm hbt dX2_readFogs_17 rfl rfl (by decide) (Nat.le_of_ble_eq_true rfl) (Nat.le_of_ble_eq_true rfl) (ok_X2_take q4) ?_
    refine aw_aload_n hC dX2_readFogs_20 rfl ?_
    refine aw_g2r (k := 8) (a := 18) hC dX2_readFogs_21 lkRX2_19 (by decide) rfl rfl rfl (Or.inl ⟨hbt, by decide⟩) ?_
    obtain ⟨k6, hF⟩ := gd_some hF
    refine aw_gL4N hC hbt k6 dX2_readFogs_24 lkRX2_179 ?_
    refine aw_iconst hC dX2_readFogs_27 (by decide) ?_
    refine aw_aload_n hC dX2_readFogs_28 rfl ?_
    refine aw_iconst hC dX2_readFogs_29 (by decide) ?_
    refine aw_bipush hC dX2_readFogs_30 (by decide) (by decide) ?_
    obtain ⟨r7, h9, q8, hF⟩ := bd_some hF
    refine clRX2_125 hC hRm hbt dX2_readFogs_32 rfl rfl (by decide) (Nat.le_of_ble_eq_true rfl) (Nat.le_of_ble_eq_true rfl) (ok_X2_takenNumber q8) ?_
    obtain ⟨g10, hF⟩ := gd_some hF
    obtain ⟨h11, eh11, hF⟩ := lb_some hF
    refine aw_iastore (a := (Int.toNat ((h5 18 8) + 4))) hC dX2_readFogs_35 (lnd4 k6).1 (lnd4 k6).2.1 (Or.inl ⟨hbt, (lnd4 k6).2.2⟩) g10.1 g10.2 ?_
    refine aw_eqH eh11 ?_
    clear eh11
    refine aw_aload_n hC dX2_readFogs_36 rfl ?_
    refine aw_g2r (k := 8) (a := 18) hC dX2_readFogs_37 lkRX2_19 (by decide) rfl rfl rfl (Or.inl ⟨hbt, by decide⟩) ?_
    refine aw_iconst hC dX2_readFogs_40 (by decide) ?_
    obtain ⟨k13, hF⟩ := gd_some hF
    obtain ⟨h12, eh12, hF⟩ := lb_some hF
    refine aw_pLiN (k := 6) hC hbt k13 dX2_readFogs_41 lkRX2_176 (by decide) rfl rfl rfl (by decide) ?_
    refine aw_eqH eh12 ?_
    clear eh12
    refine aw_iconst hC dX2_readFogs_44 (by decide) ?_
    refine aw_istore1 hC dX2_readFogs_45 rfl ?_
    obtain ⟨e29, he, hF⟩ := bp_some hF
    refine fX2_readFogs_l46_ok hC hZ hRm hbt hr FU _ _ e29 he (fun h30 er => ?_) (fun x9 h9 e => by subst e; exact hK _ _ (Option.some.inj hF).symm)
    replace er := er.symm
    subst er
    try dsimp only at hF
    exact fX2_readFogs_j104_ok hC hZ hRm hbt hr hF hK
  · have hF := it_f hF c2
    refine aw_aload_n hC dX2_readFogs_10 rfl ?_
    refine aw_iconst hC dX2_readFogs_11 (by decide) ?_
    obtain ⟨r34, h36, q35, hF⟩ := bd_some hF
    refine clRX2_108 hC hRm hbt dX2_readFogs_12 rfl rfl (by decide) (Nat.le_of_ble_eq_true rfl) (Nat.le_of_ble_eq_true rfl) (ok_X2_refuse q35) ?_
    exact aw_return hC hZ (Nat.zero_le _) (Nat.zero_le _) hr dX2_readFogs_15 (hK _ _ (Option.some.inj hF).symm)
def fX2_takenCell_j63 (x5 : Int) (h : Hp) : Option (Int × Hp) :=
  bd_ (fX2_take h) (fun r17 h19 => some (x5, h19))
def fX2_takenCell (x1 : Int) (h : Hp) : Option (Int × Hp) :=
  gd_ ((h 18 8) = 1 ∨ (h 18 8) = 9) (bd_ (fX2_numberHere 0 ((i_sub ((h (Int.toNat ((h 18 8))) 0)) 1)) h) (fun r2 h4 => bd_ (fX2_take h4) (fun r5 h7 => gd_ ((h7 18 8) = 1 ∨ (h7 18 8) = 9) (bd_ (fX2_numberHere 0 ((i_sub ((h7 (Int.toNat ((h7 18 8))) 1)) 1)) h7) (fun r9 h11 => gd_ ((h11 18 8) = 1 ∨ (h11 18 8) = 9) (lb_ ((i_add ((i_mul ((h11 (Int.toNat ((h11 18 8))) 0)) r9)) r2)) (fun v13 => bp_ (fX5_hasBit x1 v13 h11) (fun r14 => (if r14 = 0 then fX2_takenCell_j63 v13 h11 else bd_ (fX2_refuse 4 h11) (fun r20 h22 => fX2_takenCell_j63 v13 h22))))))))))
theorem fX2_takenCell_j63_ok {G : GD} {X : CX} {n : Nat} {Q : Av → Nat → Hp → Prop} (hC : Cx G X RX2 cX2_takenCell) (hZ : ZOK X G Q 0 0) (hRm : X.R = rmd 2 0 0) (hbt : X.bt = true) (hr : X.meth.sig.returnType = (some .int)) {x5 : Int} {h : Hp} {res : Int × Hp} (hF : fX2_takenCell_j63 x5 h = some res) (hK : ∀ (x9 : Int) (h9 : Hp), res = (x9, h9) → Q (0, x9) n h9) : AW G X 63 [(2, ((18 : Nat) : Int)), (9, 0), (9, 0), (9, 0), (9, 0), (0, x5)] [] n h 0 0 := by
  unfold fX2_takenCell_j63 at hF
  refine aw_aload_n hC dX2_takenCell_63 rfl ?_
  obtain ⟨r17, h19, q18, hF⟩ := bd_some hF
  refine clRX2_60 hC hRm hbt dX2_takenCell_64 rfl rfl (by decide) (Nat.le_of_ble_eq_true rfl) (Nat.le_of_ble_eq_true rfl) (ok_X2_take q18) ?_
  refine aw_iload hC dX2_takenCell_67 rfl ?_
  exact aw_ireturn hC hZ (Nat.zero_le _) (Nat.zero_le _) hr dX2_takenCell_69 (hK _ _ (Option.some.inj hF).symm)
theorem ok_X2_takenCell {G : GD} {n : Nat} {x1 : Int} {h : Hp} {res : Int × Hp} (hF : fX2_takenCell x1 h = some res) : Con G yX2_takenCell cX2_takenCell 6 (some .int) 2 0 0 true [(2, ((18 : Nat) : Int)), (1, x1)] n h (FQ 0 n res) := by
  refine con_of (pad := 3) (own := RX2) (plainFor_of_name (by decide)) rfl rfl ?_
  intro X hC hbt hr hnm hZ hRm hn0
  have hK : ∀ (x9 : Int) (h9 : Hp), res = (x9, h9) → FQ 0 n res (0, x9) n h9 := fun x9 h9 e => by subst e; exact ⟨rfl, rfl, rfl⟩
  unfold fX2_takenCell at hF
  show AW G X 0 [(2, ((18 : Nat) : Int)), (1, x1), (9, 0), (9, 0), (9, 0), (9, 0)] [] n h 0 0
  refine aw_aload_n hC dX2_takenCell_0 rfl ?_
  refine aw_iconst hC dX2_takenCell_1 (by decide) ?_
  refine aw_aload_n hC dX2_takenCell_2 rfl ?_
  refine aw_g2r (k := 8) (a := 18) hC dX2_takenCell_3 lkRX2_19 (by decide) rfl rfl rfl (Or.inl ⟨hbt, by decide⟩) ?_
  obtain ⟨k1, hF⟩ := gd_some hF
  refine aw_gLiN (k := 0) hC hbt k1 dX2_takenCell_6 lkRX2_115 (by decide) rfl ?_
  refine aw_iconst hC dX2_takenCell_9 (by decide) ?_
  refine aw_isub hC dX2_takenCell_10 ?_
  obtain ⟨r2, h4, q3, hF⟩ := bd_some hF
  refine clRX2_112 hC hRm hbt dX2_takenCell_11 rfl rfl (by decide) (Nat.le_of_ble_eq_true rfl) (Nat.le_of_ble_eq_true rfl) (ok_X2_numberHere q3) ?_
  refine aw_istore3 hC dX2_takenCell_14 rfl ?_
  refine aw_aload_n hC dX2_takenCell_15 rfl ?_
  obtain ⟨r5, h7, q6, hF⟩ := bd_some hF
  refine clRX2_60 hC hRm hbt dX2_takenCell_16 rfl rfl (by decide) (Nat.le_of_ble_eq_true rfl) (Nat.le_of_ble_eq_true rfl) (ok_X2_take q6) ?_
  refine aw_aload_n hC dX2_takenCell_19 rfl ?_
  refine aw_iconst hC dX2_takenCell_20 (by decide) ?_
  refine aw_aload_n hC dX2_takenCell_21 rfl ?_
  refine aw_g2r (k := 8) (a := 18) hC dX2_takenCell_22 lkRX2_19 (by decide) rfl rfl rfl (Or.inl ⟨hbt, by decide⟩) ?_
  obtain ⟨k8, hF⟩ := gd_some hF
  refine aw_gLiN (k := 1) hC hbt k8 dX2_takenCell_25 lkRX2_118 (by decide) rfl ?_
  refine aw_iconst hC dX2_takenCell_28 (by decide) ?_
  refine aw_isub hC dX2_takenCell_29 ?_
  obtain ⟨r9, h11, q10, hF⟩ := bd_some hF
  refine clRX2_112 hC hRm hbt dX2_takenCell_30 rfl rfl (by decide) (Nat.le_of_ble_eq_true rfl) (Nat.le_of_ble_eq_true rfl) (ok_X2_numberHere q10) ?_
  refine aw_istore4 hC dX2_takenCell_33 rfl ?_
  refine aw_aload_n hC dX2_takenCell_35 rfl ?_
  refine aw_g2r (k := 8) (a := 18) hC dX2_takenCell_36 lkRX2_19 (by decide) rfl rfl rfl (Or.inl ⟨hbt, by decide⟩) ?_
  obtain ⟨k12, hF⟩ := gd_some hF
  refine aw_gLiN (k := 0) hC hbt k12 dX2_takenCell_39 lkRX2_115 (by decide) rfl ?_
  refine aw_iload hC dX2_takenCell_42 rfl ?_
  refine aw_imul hC dX2_takenCell_44 ?_
  refine aw_iload_n hC dX2_takenCell_45 rfl ?_
  refine aw_iadd hC dX2_takenCell_46 ?_
  obtain ⟨v13, ev13, hF⟩ := lb_some hF
  refine aw_eqT ev13 ?_
  clear ev13
  refine aw_istore5 hC dX2_takenCell_47 rfl ?_
  refine aw_lload_n hC dX2_takenCell_49 rfl ?_
  refine aw_iload hC dX2_takenCell_50 rfl ?_
  obtain ⟨r14, q15, hF⟩ := bp_some hF
  refine clRX2_121 hC hRm hbt dX2_takenCell_52 (Nat.le_of_ble_eq_true rfl) (Nat.le_of_ble_eq_true rfl) (ok_X5_hasBit q15) ?_
  refine aw_if_eq (tgt := 63) hC dX2_takenCell_55 (by decide) (fun c16 => ?_) (fun c16 => ?_)
  · have hF := it_t hF c16
    refine aw_weak (ls' := [(2, ((18 : Nat) : Int)), (9, 0), (9, 0), (9, 0), (9, 0), (0, v13)]) ⟨Or.inr rfl, Or.inl rfl, Or.inl rfl, Or.inl rfl, Or.inl rfl, Or.inr rfl, trivial⟩ ?_
    exact fX2_takenCell_j63_ok hC hZ hRm hbt hr hF hK
  · have hF := it_f hF c16
    refine aw_aload_n hC dX2_takenCell_58 rfl ?_
    refine aw_iconst hC dX2_takenCell_59 (by decide) ?_
    obtain ⟨r20, h22, q21, hF⟩ := bd_some hF
    refine clRX2_108 hC hRm hbt dX2_takenCell_60 rfl rfl (by decide) (Nat.le_of_ble_eq_true rfl) (Nat.le_of_ble_eq_true rfl) (ok_X2_refuse q21) ?_
    refine aw_weak (ls' := [(2, ((18 : Nat) : Int)), (9, 0), (9, 0), (9, 0), (9, 0), (0, v13)]) ⟨Or.inr rfl, Or.inl rfl, Or.inl rfl, Or.inl rfl, Or.inl rfl, Or.inr rfl, trivial⟩ ?_
    exact fX2_takenCell_j63_ok hC hZ hRm hbt hr hF hK
def fX2_readHouse (x1 : Int) (h : Hp) : Option (Int × Hp) :=
  gd_ ((h 18 8) = 1 ∨ (h 18 8) = 9) (lb_ ((h (Int.toNat ((h 18 8))) 3)) (fun v2 => (if v2 < 6 then bd_ (fX2_take h) (fun r4 h6 => bd_ (fX2_takenCell ((h6 18 11)) h6) (fun r7 h9 => bd_ (fX2_takenNumber 0 999 h9) (fun r10 h12 => bd_ (fX2_takeEndOfLine h12) (fun r13 h15 => lb_ (st h15 18 11 ((l_or ((h15 18 11)) ((l_shl 1 r7))))) (fun h16 => gd_ ((h16 18 8) = 1 ∨ (h16 18 8) = 9) (gd_ (0 ≤ v2 ∧ v2 < 6) (lb_ (st h16 (Int.toNat ((h16 18 8) + 2)) (Int.toNat v2) r7) (fun h19 => gd_ ((h19 18 8) = 1 ∨ (h19 18 8) = 9) (gd_ (0 ≤ v2 ∧ v2 < 6) (lb_ (st h19 (Int.toNat ((h19 18 8) + 3)) (Int.toNat v2) x1) (fun h22 => gd_ ((h22 18 8) = 1 ∨ (h22 18 8) = 9) (gd_ (0 ≤ (i_add 36 v2) ∧ (i_add 36 v2) < 62) (lb_ (st h22 (Int.toNat ((h22 18 8) + 7)) (Int.toNat ((i_add 36 v2))) r10) (fun h25 => gd_ ((h25 18 8) = 1 ∨ (h25 18 8) = 9) (lb_ (st h25 (Int.toNat ((h25 18 8))) 3 ((i_add v2 1))) (fun h26 => some (0, h26))))))))))))))))) else bd_ (fX2_refuse 2 h) (fun r28 h30 => some (0, h30)))))
theorem ok_X2_readHouse {G : GD} {n : Nat} {x1 : Int} {h : Hp} {res : Int × Hp} (hF : fX2_readHouse x1 h = some res) : Con G yX2_readHouse cX2_readHouse 5 none 3 0 0 true [(2, ((18 : Nat) : Int)), (0, x1)] n h (FQ 8 n res) := by
  refine con_of (pad := 3) (own := RX2) (plainFor_of_name (by decide)) rfl rfl ?_
  intro X hC hbt hr hnm hZ hRm hn0
  have hK : ∀ (x9 : Int) (h9 : Hp), res = (x9, h9) → FQ 8 n res (8, x9) n h9 := fun x9 h9 e => by subst e; exact ⟨rfl, rfl, rfl⟩
  unfold fX2_readHouse at hF
  show AW G X 0 [(2, ((18 : Nat) : Int)), (0, x1), (9, 0), (9, 0), (9, 0)] [] n h 0 0
  refine aw_aload_n hC dX2_readHouse_0 rfl ?_
  refine aw_g2r (k := 8) (a := 18) hC dX2_readHouse_1 lkRX2_19 (by decide) rfl rfl rfl (Or.inl ⟨hbt, by decide⟩) ?_
  obtain ⟨k1, hF⟩ := gd_some hF
  refine aw_gLiN (k := 3) hC hbt k1 dX2_readHouse_4 lkRX2_167 (by decide) rfl ?_
  obtain ⟨v2, ev2, hF⟩ := lb_some hF
  refine aw_eqT ev2 ?_
  clear ev2
  refine aw_istore2 hC dX2_readHouse_7 rfl ?_
  refine aw_iload_n hC dX2_readHouse_8 rfl ?_
  refine aw_bipush hC dX2_readHouse_9 (by decide) (by decide) ?_
  refine aw_icmp_lt (tgt := 20) hC dX2_readHouse_11 (by decide) (fun c3 => ?_) (fun c3 => ?_)
  · have hF := it_t hF c3
    refine aw_aload_n hC dX2_readHouse_20 rfl ?_
    obtain ⟨r4, h6, q5, hF⟩ := bd_some hF
    refine clRX2_60 hC hRm hbt dX2_readHouse_21 rfl rfl (by decide) (Nat.le_of_ble_eq_true rfl) (Nat.le_of_ble_eq_true rfl) (ok_X2_take q5) ?_
    refine aw_aload_n hC dX2_readHouse_24 rfl ?_
    refine aw_aload_n hC dX2_readHouse_25 rfl ?_
    refine aw_g2l (k := 11) (a := 18) hC dX2_readHouse_26 lkRX2_49 (by decide) rfl rfl rfl (Or.inl ⟨hbt, by decide⟩) ?_
    obtain ⟨r7, h9, q8, hF⟩ := bd_some hF
    refine clRX2_160 hC hRm hbt dX2_readHouse_29 rfl rfl (by decide) (Nat.le_of_ble_eq_true rfl) (Nat.le_of_ble_eq_true rfl) (ok_X2_takenCell q8) ?_
    refine aw_istore3 hC dX2_readHouse_32 rfl ?_
    refine aw_aload_n hC dX2_readHouse_33 rfl ?_
    refine aw_iconst hC dX2_readHouse_34 (by decide) ?_
    refine aw_sipush hC dX2_readHouse_35 (by decide) (by decide) ?_
    obtain ⟨r10, h12, q11, hF⟩ := bd_some hF
    refine clRX2_125 hC hRm hbt dX2_readHouse_38 rfl rfl (by decide) (Nat.le_of_ble_eq_true rfl) (Nat.le_of_ble_eq_true rfl) (ok_X2_takenNumber q11) ?_
    refine aw_istore4 hC dX2_readHouse_41 rfl ?_
    refine aw_aload_n hC dX2_readHouse_43 rfl ?_
    obtain ⟨r13, h15, q14, hF⟩ := bd_some hF
    refine clRX2_128 hC hRm hbt dX2_readHouse_44 rfl rfl (by decide) (Nat.le_of_ble_eq_true rfl) (Nat.le_of_ble_eq_true rfl) (ok_X2_takeEndOfLine q14) ?_
    refine aw_aload_n hC dX2_readHouse_47 rfl ?_
    refine aw_dup hC dX2_readHouse_48 (by simp) ?_
    refine aw_g2l (k := 11) (a := 18) hC dX2_readHouse_49 lkRX2_49 (by decide) rfl rfl rfl (Or.inl ⟨hbt, by decide⟩) ?_
    refine aw_lconst (v := 1) hC dX2_readHouse_52 (by decide) (by decide) ?_
    refine aw_iload_n hC dX2_readHouse_53 rfl ?_
    refine aw_lshl hC dX2_readHouse_54 ?_
    refine aw_lor hC dX2_readHouse_55 ?_
    obtain ⟨h16, eh16, hF⟩ := lb_some hF
    refine aw_p2l (k := 11) (a := 18) hC dX2_readHouse_56 lkRX2_49 (by decide) rfl rfl rfl rfl rfl (Or.inl ⟨hbt, by decide⟩) (fun _ => by decide) ?_
    refine aw_eqH eh16 ?_
    clear eh16
    refine aw_aload_n hC dX2_readHouse_59 rfl ?_
    refine aw_g2r (k := 8) (a := 18) hC dX2_readHouse_60 lkRX2_19 (by decide) rfl rfl rfl (Or.inl ⟨hbt, by decide⟩) ?_
    obtain ⟨k17, hF⟩ := gd_some hF
    refine aw_gL2N hC hbt k17 dX2_readHouse_63 lkRX2_170 ?_
    refine aw_iload_n hC dX2_readHouse_66 rfl ?_
    refine aw_iload_n hC dX2_readHouse_67 rfl ?_
    obtain ⟨g18, hF⟩ := gd_some hF
    obtain ⟨h19, eh19, hF⟩ := lb_some hF
    refine aw_iastore (a := (Int.toNat ((h16 18 8) + 2))) hC dX2_readHouse_68 (lnd2 k17).1 (lnd2 k17).2.1 (Or.inl ⟨hbt, (lnd2 k17).2.2⟩) g18.1 g18.2 ?_
    refine aw_eqH eh19 ?_
    clear eh19
    refine aw_aload_n hC dX2_readHouse_69 rfl ?_
    refine aw_g2r (k := 8) (a := 18) hC dX2_readHouse_70 lkRX2_19 (by decide) rfl rfl rfl (Or.inl ⟨hbt, by decide⟩) ?_
    obtain ⟨k20, hF⟩ := gd_some hF
    refine aw_gL3N hC hbt k20 dX2_readHouse_73 lkRX2_173 ?_
    refine aw_iload_n hC dX2_readHouse_76 rfl ?_
    refine aw_iload_n hC dX2_readHouse_77 rfl ?_
    obtain ⟨g21, hF⟩ := gd_some hF
    obtain ⟨h22, eh22, hF⟩ := lb_some hF
    refine aw_iastore (a := (Int.toNat ((h19 18 8) + 3))) hC dX2_readHouse_78 (lnd3 k20).1 (lnd3 k20).2.1 (Or.inl ⟨hbt, (lnd3 k20).2.2⟩) g21.1 g21.2 ?_
    refine aw_eqH eh22 ?_
    clear eh22
    refine aw_aload_n hC dX2_readHouse_79 rfl ?_
    refine aw_g2r (k := 8) (a := 18) hC dX2_readHouse_80 lkRX2_19 (by decide) rfl rfl rfl (Or.inl ⟨hbt, by decide⟩) ?_
    obtain ⟨k23, hF⟩ := gd_some hF
    refine aw_gL7N hC hbt k23 dX2_readHouse_83 lkRX2_77 ?_
    refine aw_bipush hC dX2_readHouse_86 (by decide) (by decide) ?_
    refine aw_iload_n hC dX2_readHouse_88 rfl ?_
    refine aw_iadd hC dX2_readHouse_89 ?_
    refine aw_iload hC dX2_readHouse_90 rfl ?_
    obtain ⟨g24, hF⟩ := gd_some hF
    obtain ⟨h25, eh25, hF⟩ := lb_some hF
    refine aw_iastore (a := (Int.toNat ((h22 18 8) + 7))) hC dX2_readHouse_92 (lnd7 k23).1 (lnd7 k23).2.1 (Or.inl ⟨hbt, (lnd7 k23).2.2⟩) g24.1 g24.2 ?_
    refine aw_eqH eh25 ?_
    clear eh25
    refine aw_aload_n hC dX2_readHouse_93 rfl ?_
    refine aw_g2r (k := 8) (a := 18) hC dX2_readHouse_94 lkRX2_19 (by decide) rfl rfl rfl (Or.inl ⟨hbt, by decide⟩) ?_
    refine aw_iload_n hC dX2_readHouse_97 rfl ?_
    refine aw_iconst hC dX2_readHouse_98 (by decide) ?_
    refine aw_iadd hC dX2_readHouse_99 ?_
    obtain ⟨k27, hF⟩ := gd_some hF
    obtain ⟨h26, eh26, hF⟩ := lb_some hF
    refine aw_pLiN (k := 3) hC hbt k27 dX2_readHouse_100 lkRX2_167 (by decide) rfl rfl rfl (by decide) ?_
    refine aw_eqH eh26 ?_
    clear eh26
    exact aw_return hC hZ (Nat.zero_le _) (Nat.zero_le _) hr dX2_readHouse_103 (hK _ _ (Option.some.inj hF).symm)
  · have hF := it_f hF c3
    refine aw_aload_n hC dX2_readHouse_14 rfl ?_
    refine aw_iconst hC dX2_readHouse_15 (by decide) ?_
    obtain ⟨r28, h30, q29, hF⟩ := bd_some hF
    refine clRX2_108 hC hRm hbt dX2_readHouse_16 rfl rfl (by decide) (Nat.le_of_ble_eq_true rfl) (Nat.le_of_ble_eq_true rfl) (ok_X2_refuse q29) ?_
    exact aw_return hC hZ (Nat.zero_le _) (Nat.zero_le _) hr dX2_readHouse_19 (hK _ _ (Option.some.inj hF).symm)
def fX2_readTree  (h : Hp) : Option (Int × Hp) :=
  (if (h 18 9) < 12 then bd_ (fX2_take h) (fun r2 h4 => bd_ (fX2_takenCell ((h4 18 11)) h4) (fun r5 h7 => bd_ (fX2_takenNumber 1 9 h7) (fun r8 h10 => bd_ (fX2_takenNumber r8 9 h10) (fun r11 h13 => bd_ (fX2_takeEndOfLine h13) (fun r14 h16 => lb_ (st h16 18 11 ((l_or ((h16 18 11)) ((l_shl 1 r5))))) (fun h17 => gd_ ((h17 18 8) = 1 ∨ (h17 18 8) = 9) (gd_ (0 ≤ (i_add 0 ((h17 18 9))) ∧ (i_add 0 ((h17 18 9))) < 62) (lb_ (st h17 (Int.toNat ((h17 18 8) + 7)) (Int.toNat ((i_add 0 ((h17 18 9))))) r5) (fun h20 => gd_ ((h20 18 8) = 1 ∨ (h20 18 8) = 9) (gd_ (0 ≤ (i_add 12 ((h20 18 9))) ∧ (i_add 12 ((h20 18 9))) < 62) (lb_ (st h20 (Int.toNat ((h20 18 8) + 7)) (Int.toNat ((i_add 12 ((h20 18 9))))) r8) (fun h23 => gd_ ((h23 18 8) = 1 ∨ (h23 18 8) = 9) (gd_ (0 ≤ (i_add 24 ((h23 18 9))) ∧ (i_add 24 ((h23 18 9))) < 62) (lb_ (st h23 (Int.toNat ((h23 18 8) + 7)) (Int.toNat ((i_add 24 ((h23 18 9))))) r11) (fun h26 => lb_ (st h26 18 9 ((i_add ((h26 18 9)) 1))) (fun h27 => some (0, h27))))))))))))))))) else bd_ (fX2_refuse 2 h) (fun r28 h30 => some (0, h30)))
theorem ok_X2_readTree {G : GD} {n : Nat}  {h : Hp} {res : Int × Hp} (hF : fX2_readTree  h = some res) : Con G yX2_readTree cX2_readTree 4 none 3 0 0 true [(2, ((18 : Nat) : Int))] n h (FQ 8 n res) := by
  refine con_of (pad := 3) (own := RX2) (plainFor_of_name (by decide)) rfl rfl ?_
  intro X hC hbt hr hnm hZ hRm hn0
  have hK : ∀ (x9 : Int) (h9 : Hp), res = (x9, h9) → FQ 8 n res (8, x9) n h9 := fun x9 h9 e => by subst e; exact ⟨rfl, rfl, rfl⟩
  unfold fX2_readTree at hF
  show AW G X 0 [(2, ((18 : Nat) : Int)), (9, 0), (9, 0), (9, 0)] [] n h 0 0
  refine aw_aload_n hC dX2_readTree_0 rfl ?_
  refine aw_g2i (k := 9) (a := 18) hC dX2_readTree_1 lkRX2_42 (by decide) rfl rfl rfl (Or.inl ⟨hbt, by decide⟩) ?_
  refine aw_bipush hC dX2_readTree_4 (by decide) (by decide) ?_
  refine aw_icmp_lt (tgt := 15) hC dX2_readTree_6 (by decide) (fun c1 => ?_) (fun c1 => ?_)
  · have hF := it_t hF c1
    refine aw_aload_n hC dX2_readTree_15 rfl ?_
    obtain ⟨r2, h4, q3, hF⟩ := bd_some hF
    refine clRX2_60 hC hRm hbt dX2_readTree_16 rfl rfl (by decide) (Nat.le_of_ble_eq_true rfl) (Nat.le_of_ble_eq_true rfl) (ok_X2_take q3) ?_
    refine aw_aload_n hC dX2_readTree_19 rfl ?_
    refine aw_aload_n hC dX2_readTree_20 rfl ?_
    refine aw_g2l (k := 11) (a := 18) hC dX2_readTree_21 lkRX2_49 (by decide) rfl rfl rfl (Or.inl ⟨hbt, by decide⟩) ?_
    obtain ⟨r5, h7, q6, hF⟩ := bd_some hF
    refine clRX2_160 hC hRm hbt dX2_readTree_24 rfl rfl (by decide) (Nat.le_of_ble_eq_true rfl) (Nat.le_of_ble_eq_true rfl) (ok_X2_takenCell q6) ?_
    refine aw_istore1 hC dX2_readTree_27 rfl ?_
    refine aw_aload_n hC dX2_readTree_28 rfl ?_
    refine aw_iconst hC dX2_readTree_29 (by decide) ?_
    refine aw_bipush hC dX2_readTree_30 (by decide) (by decide) ?_
    obtain ⟨r8, h10, q9, hF⟩ := bd_some hF
    refine clRX2_125 hC hRm hbt dX2_readTree_32 rfl rfl (by decide) (Nat.le_of_ble_eq_true rfl) (Nat.le_of_ble_eq_true rfl) (ok_X2_takenNumber q9) ?_
    refine aw_istore2 hC dX2_readTree_35 rfl ?_
    refine aw_aload_n hC dX2_readTree_36 rfl ?_
    refine aw_iload_n hC dX2_readTree_37 rfl ?_
    refine aw_bipush hC dX2_readTree_38 (by decide) (by decide) ?_
    obtain ⟨r11, h13, q12, hF⟩ := bd_some hF
    refine clRX2_125 hC hRm hbt dX2_readTree_40 rfl rfl (by decide) (Nat.le_of_ble_eq_true rfl) (Nat.le_of_ble_eq_true rfl) (ok_X2_takenNumber q12) ?_
    refine aw_istore3 hC dX2_readTree_43 rfl ?_
    refine aw_aload_n hC dX2_readTree_44 rfl ?_
    obtain ⟨r14, h16, q15, hF⟩ := bd_some hF
    refine clRX2_128 hC hRm hbt dX2_readTree_45 rfl rfl (by decide) (Nat.le_of_ble_eq_true rfl) (Nat.le_of_ble_eq_true rfl) (ok_X2_takeEndOfLine q15) ?_
    refine aw_aload_n hC dX2_readTree_48 rfl ?_
    refine aw_dup hC dX2_readTree_49 (by simp) ?_
    refine aw_g2l (k := 11) (a := 18) hC dX2_readTree_50 lkRX2_49 (by decide) rfl rfl rfl (Or.inl ⟨hbt, by decide⟩) ?_
    refine aw_lconst (v := 1) hC dX2_readTree_53 (by decide) (by decide) ?_
    refine aw_iload_n hC dX2_readTree_54 rfl ?_
    refine aw_lshl hC dX2_readTree_55 ?_
    refine aw_lor hC dX2_readTree_56 ?_
    obtain ⟨h17, eh17, hF⟩ := lb_some hF
    refine aw_p2l (k := 11) (a := 18) hC dX2_readTree_57 lkRX2_49 (by decide) rfl rfl rfl rfl rfl (Or.inl ⟨hbt, by decide⟩) (fun _ => by decide) ?_
    refine aw_eqH eh17 ?_
    clear eh17
    refine aw_aload_n hC dX2_readTree_60 rfl ?_
    refine aw_g2r (k := 8) (a := 18) hC dX2_readTree_61 lkRX2_19 (by decide) rfl rfl rfl (Or.inl ⟨hbt, by decide⟩) ?_
    obtain ⟨k18, hF⟩ := gd_some hF
    refine aw_gL7N hC hbt k18 dX2_readTree_64 lkRX2_77 ?_
    refine aw_iconst hC dX2_readTree_67 (by decide) ?_
    refine aw_aload_n hC dX2_readTree_68 rfl ?_
    refine aw_g2i (k := 9) (a := 18) hC dX2_readTree_69 lkRX2_42 (by decide) rfl rfl rfl (Or.inl ⟨hbt, by decide⟩) ?_
    refine aw_iadd hC dX2_readTree_72 ?_
    refine aw_iload_n hC dX2_readTree_73 rfl ?_
    obtain ⟨g19, hF⟩ := gd_some hF
    obtain ⟨h20, eh20, hF⟩ := lb_some hF
    refine aw_iastore (a := (Int.toNat ((h17 18 8) + 7))) hC dX2_readTree_74 (lnd7 k18).1 (lnd7 k18).2.1 (Or.inl ⟨hbt, (lnd7 k18).2.2⟩) g19.1 g19.2 ?_
    refine aw_eqH eh20 ?_
    clear eh20
    refine aw_aload_n hC dX2_readTree_75 rfl ?_
    refine aw_g2r (k := 8) (a := 18) hC dX2_readTree_76 lkRX2_19 (by decide) rfl rfl rfl (Or.inl ⟨hbt, by decide⟩) ?_
    obtain ⟨k21, hF⟩ := gd_some hF
    refine aw_gL7N hC hbt k21 dX2_readTree_79 lkRX2_77 ?_
    refine aw_bipush hC dX2_readTree_82 (by decide) (by decide) ?_
    refine aw_aload_n hC dX2_readTree_84 rfl ?_
    refine aw_g2i (k := 9) (a := 18) hC dX2_readTree_85 lkRX2_42 (by decide) rfl rfl rfl (Or.inl ⟨hbt, by decide⟩) ?_
    refine aw_iadd hC dX2_readTree_88 ?_
    refine aw_iload_n hC dX2_readTree_89 rfl ?_
    obtain ⟨g22, hF⟩ := gd_some hF
    obtain ⟨h23, eh23, hF⟩ := lb_some hF
    refine aw_iastore (a := (Int.toNat ((h20 18 8) + 7))) hC dX2_readTree_90 (lnd7 k21).1 (lnd7 k21).2.1 (Or.inl ⟨hbt, (lnd7 k21).2.2⟩) g22.1 g22.2 ?_
    refine aw_eqH eh23 ?_
    clear eh23
    refine aw_aload_n hC dX2_readTree_91 rfl ?_
    refine aw_g2r (k := 8) (a := 18) hC dX2_readTree_92 lkRX2_19 (by decide) rfl rfl rfl (Or.inl ⟨hbt, by decide⟩) ?_
    obtain ⟨k24, hF⟩ := gd_some hF
    refine aw_gL7N hC hbt k24 dX2_readTree_95 lkRX2_77 ?_
    refine aw_bipush hC dX2_readTree_98 (by decide) (by decide) ?_
    refine aw_aload_n hC dX2_readTree_100 rfl ?_
    refine aw_g2i (k := 9) (a := 18) hC dX2_readTree_101 lkRX2_42 (by decide) rfl rfl rfl (Or.inl ⟨hbt, by decide⟩) ?_
    refine aw_iadd hC dX2_readTree_104 ?_
    refine aw_iload_n hC dX2_readTree_105 rfl ?_
    obtain ⟨g25, hF⟩ := gd_some hF
    obtain ⟨h26, eh26, hF⟩ := lb_some hF
    refine aw_iastore (a := (Int.toNat ((h23 18 8) + 7))) hC dX2_readTree_106 (lnd7 k24).1 (lnd7 k24).2.1 (Or.inl ⟨hbt, (lnd7 k24).2.2⟩) g25.1 g25.2 ?_
    refine aw_eqH eh26 ?_
    clear eh26
    refine aw_aload_n hC dX2_readTree_107 rfl ?_
    refine aw_dup hC dX2_readTree_108 (by simp) ?_
    refine aw_g2i (k := 9) (a := 18) hC dX2_readTree_109 lkRX2_42 (by decide) rfl rfl rfl (Or.inl ⟨hbt, by decide⟩) ?_
    refine aw_iconst hC dX2_readTree_112 (by decide) ?_
    refine aw_iadd hC dX2_readTree_113 ?_
    obtain ⟨h27, eh27, hF⟩ := lb_some hF
    refine aw_p2i (k := 9) (a := 18) hC dX2_readTree_114 lkRX2_42 (by decide) rfl rfl rfl rfl rfl (Or.inl ⟨hbt, by decide⟩) (fun _ => by decide) ?_
    refine aw_eqH eh27 ?_
    clear eh27
    exact aw_return hC hZ (Nat.zero_le _) (Nat.zero_le _) hr dX2_readTree_117 (hK _ _ (Option.some.inj hF).symm)
  · have hF := it_f hF c1
    refine aw_aload_n hC dX2_readTree_9 rfl ?_
    refine aw_iconst hC dX2_readTree_10 (by decide) ?_
    obtain ⟨r28, h30, q29, hF⟩ := bd_some hF
    refine clRX2_108 hC hRm hbt dX2_readTree_11 rfl rfl (by decide) (Nat.le_of_ble_eq_true rfl) (Nat.le_of_ble_eq_true rfl) (ok_X2_refuse q29) ?_
    exact aw_return hC hZ (Nat.zero_le _) (Nat.zero_le _) hr dX2_readTree_14 (hK _ _ (Option.some.inj hF).symm)
def fX2_readHeight  (h : Hp) : Option (Int × Hp) :=
  bd_ (fX2_take h) (fun r1 h3 => bd_ (fX2_takenCell ((h3 18 10)) h3) (fun r4 h6 => bd_ (fX2_takenNumber 0 9 h6) (fun r7 h9 => bd_ (fX2_takeEndOfLine h9) (fun r10 h12 => lb_ (st h12 18 10 ((l_or ((h12 18 10)) ((l_shl 1 r4))))) (fun h13 => gd_ ((h13 18 8) = 1 ∨ (h13 18 8) = 9) (gd_ (0 ≤ r4 ∧ r4 < 64) (lb_ (st h13 (Int.toNat ((h13 18 8) + 1)) (Int.toNat r4) r7) (fun h16 => some (0, h16)))))))))
theorem ok_X2_readHeight {G : GD} {n : Nat}  {h : Hp} {res : Int × Hp} (hF : fX2_readHeight  h = some res) : Con G yX2_readHeight cX2_readHeight 3 none 3 0 0 true [(2, ((18 : Nat) : Int))] n h (FQ 8 n res) := by
  refine con_of (pad := 2) (own := RX2) (plainFor_of_name (by decide)) rfl rfl ?_
  intro X hC hbt hr hnm hZ hRm hn0
  have hK : ∀ (x9 : Int) (h9 : Hp), res = (x9, h9) → FQ 8 n res (8, x9) n h9 := fun x9 h9 e => by subst e; exact ⟨rfl, rfl, rfl⟩
  unfold fX2_readHeight at hF
  show AW G X 0 [(2, ((18 : Nat) : Int)), (9, 0), (9, 0)] [] n h 0 0
  refine aw_aload_n hC dX2_readHeight_0 rfl ?_
  obtain ⟨r1, h3, q2, hF⟩ := bd_some hF
  refine clRX2_60 hC hRm hbt dX2_readHeight_1 rfl rfl (by decide) (Nat.le_of_ble_eq_true rfl) (Nat.le_of_ble_eq_true rfl) (ok_X2_take q2) ?_
  refine aw_aload_n hC dX2_readHeight_4 rfl ?_
  refine aw_aload_n hC dX2_readHeight_5 rfl ?_
  refine aw_g2l (k := 10) (a := 18) hC dX2_readHeight_6 lkRX2_45 (by decide) rfl rfl rfl (Or.inl ⟨hbt, by decide⟩) ?_
  obtain ⟨r4, h6, q5, hF⟩ := bd_some hF
  refine clRX2_160 hC hRm hbt dX2_readHeight_9 rfl rfl (by decide) (Nat.le_of_ble_eq_true rfl) (Nat.le_of_ble_eq_true rfl) (ok_X2_takenCell q5) ?_
  refine aw_istore1 hC dX2_readHeight_12 rfl ?_
  refine aw_aload_n hC dX2_readHeight_13 rfl ?_
  refine aw_iconst hC dX2_readHeight_14 (by decide) ?_
  refine aw_bipush hC dX2_readHeight_15 (by decide) (by decide) ?_
  obtain ⟨r7, h9, q8, hF⟩ := bd_some hF
  refine clRX2_125 hC hRm hbt dX2_readHeight_17 rfl rfl (by decide) (Nat.le_of_ble_eq_true rfl) (Nat.le_of_ble_eq_true rfl) (ok_X2_takenNumber q8) ?_
  refine aw_istore2 hC dX2_readHeight_20 rfl ?_
  refine aw_aload_n hC dX2_readHeight_21 rfl ?_
  obtain ⟨r10, h12, q11, hF⟩ := bd_some hF
  refine clRX2_128 hC hRm hbt dX2_readHeight_22 rfl rfl (by decide) (Nat.le_of_ble_eq_true rfl) (Nat.le_of_ble_eq_true rfl) (ok_X2_takeEndOfLine q11) ?_
  refine aw_aload_n hC dX2_readHeight_25 rfl ?_
  refine aw_dup hC dX2_readHeight_26 (by simp) ?_
  refine aw_g2l (k := 10) (a := 18) hC dX2_readHeight_27 lkRX2_45 (by decide) rfl rfl rfl (Or.inl ⟨hbt, by decide⟩) ?_
  refine aw_lconst (v := 1) hC dX2_readHeight_30 (by decide) (by decide) ?_
  refine aw_iload_n hC dX2_readHeight_31 rfl ?_
  refine aw_lshl hC dX2_readHeight_32 ?_
  refine aw_lor hC dX2_readHeight_33 ?_
  obtain ⟨h13, eh13, hF⟩ := lb_some hF
  refine aw_p2l (k := 10) (a := 18) hC dX2_readHeight_34 lkRX2_45 (by decide) rfl rfl rfl rfl rfl (Or.inl ⟨hbt, by decide⟩) (fun _ => by decide) ?_
  refine aw_eqH eh13 ?_
  clear eh13
  refine aw_aload_n hC dX2_readHeight_37 rfl ?_
  refine aw_g2r (k := 8) (a := 18) hC dX2_readHeight_38 lkRX2_19 (by decide) rfl rfl rfl (Or.inl ⟨hbt, by decide⟩) ?_
  obtain ⟨k14, hF⟩ := gd_some hF
  refine aw_gL1N hC hbt k14 dX2_readHeight_41 lkRX2_164 ?_
  refine aw_iload_n hC dX2_readHeight_44 rfl ?_
  refine aw_iload_n hC dX2_readHeight_45 rfl ?_
  obtain ⟨g15, hF⟩ := gd_some hF
  obtain ⟨h16, eh16, hF⟩ := lb_some hF
  refine aw_iastore (a := (Int.toNat ((h13 18 8) + 1))) hC dX2_readHeight_46 (lnd1 k14).1 (lnd1 k14).2.1 (Or.inl ⟨hbt, (lnd1 k14).2.2⟩) g15.1 g15.2 ?_
  refine aw_eqH eh16 ?_
  clear eh16
  exact aw_return hC hZ (Nat.zero_le _) (Nat.zero_le _) hr dX2_readHeight_47 (hK _ _ (Option.some.inj hF).symm)
def fX2_readLine  (h : Hp) : Option (Int × Hp) :=
  bp_ (fX2_isWord 11 h) (fun r1 => (if r1 = 0 then bp_ (fX2_isWord 12 h) (fun r4 => (if r4 = 0 then bp_ (fX2_isWord 13 h) (fun r7 => (if r7 = 0 then bp_ (fX2_isWord 14 h) (fun r10 => (if r10 = 0 then bp_ (fX2_isWord 15 h) (fun r13 => (if r13 = 0 then bp_ (fX2_isWord 16 h) (fun r16 => (if r16 = 0 then bp_ (fX2_isWord 17 h) (fun r19 => (if r19 = 0 then bd_ (fX2_refuse 1 h) (fun r22 h24 => some (0, h24)) else bd_ (fX2_readLaw h) (fun r25 h27 => some (0, h27)))) else bd_ (fX2_readFogs h) (fun r28 h30 => some (0, h30)))) else bd_ (fX2_readHouse 2 h) (fun r31 h33 => some (0, h33)))) else bd_ (fX2_readHouse 1 h) (fun r34 h36 => some (0, h36)))) else bd_ (fX2_readHouse 0 h) (fun r37 h39 => some (0, h39)))) else bd_ (fX2_readTree h) (fun r40 h42 => some (0, h42)))) else bd_ (fX2_readHeight h) (fun r43 h45 => some (0, h45))))
theorem ok_X2_readLine {G : GD} {n : Nat}  {h : Hp} {res : Int × Hp} (hF : fX2_readLine  h = some res) : Con G yX2_readLine cX2_readLine 1 none 12 0 0 true [(2, ((18 : Nat) : Int))] n h (FQ 8 n res) := by
  refine con_of (pad := 0) (own := RX2) (plainFor_of_name (by decide)) rfl rfl ?_
  intro X hC hbt hr hnm hZ hRm hn0
  have hK : ∀ (x9 : Int) (h9 : Hp), res = (x9, h9) → FQ 8 n res (8, x9) n h9 := fun x9 h9 e => by subst e; exact ⟨rfl, rfl, rfl⟩
  unfold fX2_readLine at hF
  show AW G X 0 [(2, ((18 : Nat) : Int))] [] n h 0 0
  refine aw_aload_n hC dX2_readLine_0 rfl ?_
  refine aw_ldcs_RX2_131 hC dX2_readLine_1 ?_
  obtain ⟨r1, q2, hF⟩ := bp_some hF
  refine clRX2_64 hC hRm hbt dX2_readLine_3 rfl rfl (by decide) (Nat.le_of_ble_eq_true rfl) (Nat.le_of_ble_eq_true rfl) (ok_X2_isWord q2) ?_
  refine aw_if_eq (tgt := 16) hC dX2_readLine_6 (by decide) (fun c3 => ?_) (fun c3 => ?_)
  · have hF := it_t hF c3
    refine aw_aload_n hC dX2_readLine_16 rfl ?_
    refine aw_ldcs_RX2_136 hC dX2_readLine_17 ?_
    obtain ⟨r4, q5, hF⟩ := bp_some hF
    refine clRX2_64 hC hRm hbt dX2_readLine_19 rfl rfl (by decide) (Nat.le_of_ble_eq_true rfl) (Nat.le_of_ble_eq_true rfl) (ok_X2_isWord q5) ?_
    refine aw_if_eq (tgt := 32) hC dX2_readLine_22 (by decide) (fun c6 => ?_) (fun c6 => ?_)
    · have hF := it_t hF c6
      refine aw_aload_n hC dX2_readLine_32 rfl ?_
      refine aw_ldcs_RX2_141 hC dX2_readLine_33 ?_
      obtain ⟨r7, q8, hF⟩ := bp_some hF
      refine clRX2_64 hC hRm hbt dX2_readLine_35 rfl rfl (by decide) (Nat.le_of_ble_eq_true rfl) (Nat.le_of_ble_eq_true rfl) (ok_X2_isWord q8) ?_
      refine aw_if_eq (tgt := 49) hC dX2_readLine_38 (by decide) (fun c9 => ?_) (fun c9 => ?_)
      · have hF := it_t hF c9
        refine aw_aload_n hC dX2_readLine_49 rfl ?_
        refine aw_ldcs_RX2_146 hC dX2_readLine_50 ?_
        obtain ⟨r10, q11, hF⟩ := bp_some hF
        refine clRX2_64 hC hRm hbt dX2_readLine_52 rfl rfl (by decide) (Nat.le_of_ble_eq_true rfl) (Nat.le_of_ble_eq_true rfl) (ok_X2_isWord q11) ?_
        refine aw_if_eq (tgt := 66) hC dX2_readLine_55 (by decide) (fun c12 => ?_) (fun c12 => ?_)
        · have hF := it_t hF c12
          refine aw_aload_n hC dX2_readLine_66 rfl ?_
          refine aw_ldcs_RX2_148 hC dX2_readLine_67 ?_
          obtain ⟨r13, q14, hF⟩ := bp_some hF
          refine clRX2_64 hC hRm hbt dX2_readLine_69 rfl rfl (by decide) (Nat.le_of_ble_eq_true rfl) (Nat.le_of_ble_eq_true rfl) (ok_X2_isWord q14) ?_
          refine aw_if_eq (tgt := 83) hC dX2_readLine_72 (by decide) (fun c15 => ?_) (fun c15 => ?_)
          · have hF := it_t hF c15
            refine aw_aload_n hC dX2_readLine_83 rfl ?_
            refine aw_ldcs_RX2_150 hC dX2_readLine_84 ?_
            obtain ⟨r16, q17, hF⟩ := bp_some hF
            refine clRX2_64 hC hRm hbt dX2_readLine_86 rfl rfl (by decide) (Nat.le_of_ble_eq_true rfl) (Nat.le_of_ble_eq_true rfl) (ok_X2_isWord q17) ?_
            refine aw_if_eq (tgt := 99) hC dX2_readLine_89 (by decide) (fun c18 => ?_) (fun c18 => ?_)
            · have hF := it_t hF c18
              refine aw_aload_n hC dX2_readLine_99 rfl ?_
              refine aw_ldcs_RX2_155 hC dX2_readLine_100 ?_
              obtain ⟨r19, q20, hF⟩ := bp_some hF
              refine clRX2_64 hC hRm hbt dX2_readLine_102 rfl rfl (by decide) (Nat.le_of_ble_eq_true rfl) (Nat.le_of_ble_eq_true rfl) (ok_X2_isWord q20) ?_
              refine aw_if_eq (tgt := 115) hC dX2_readLine_105 (by decide) (fun c21 => ?_) (fun c21 => ?_)
              · have hF := it_t hF c21
                refine aw_aload_n hC dX2_readLine_115 rfl ?_
                refine aw_iconst hC dX2_readLine_116 (by decide) ?_
                obtain ⟨r22, h24, q23, hF⟩ := bd_some hF
                refine clRX2_108 hC hRm hbt dX2_readLine_117 rfl rfl (by decide) (Nat.le_of_ble_eq_true rfl) (Nat.le_of_ble_eq_true rfl) (ok_X2_refuse q23) ?_
                exact aw_return hC hZ (Nat.zero_le _) (Nat.zero_le _) hr dX2_readLine_120 (hK _ _ (Option.some.inj hF).symm)
              · have hF := it_f hF c21
                refine aw_aload_n hC dX2_readLine_108 rfl ?_
                obtain ⟨r25, h27, q26, hF⟩ := bd_some hF
                refine clRX2_157 hC hRm hbt dX2_readLine_109 rfl rfl (by decide) (Nat.le_of_ble_eq_true rfl) (Nat.le_of_ble_eq_true rfl) (ok_X2_readLaw q26) ?_
                refine aw_goto (tgt := 120) hC dX2_readLine_112 (by decide) ?_
                exact aw_return hC hZ (Nat.zero_le _) (Nat.zero_le _) hr dX2_readLine_120 (hK _ _ (Option.some.inj hF).symm)
            · have hF := it_f hF c18
              refine aw_aload_n hC dX2_readLine_92 rfl ?_
              obtain ⟨r28, h30, q29, hF⟩ := bd_some hF
              refine clRX2_152 hC hRm hbt dX2_readLine_93 rfl rfl (by decide) (Nat.le_of_ble_eq_true rfl) (Nat.le_of_ble_eq_true rfl) (ok_X2_readFogs q29) ?_
              refine aw_goto (tgt := 120) hC dX2_readLine_96 (by decide) ?_
              exact aw_return hC hZ (Nat.zero_le _) (Nat.zero_le _) hr dX2_readLine_120 (hK _ _ (Option.some.inj hF).symm)
          · have hF := it_f hF c15
            refine aw_aload_n hC dX2_readLine_75 rfl ?_
            refine aw_iconst hC dX2_readLine_76 (by decide) ?_
            obtain ⟨r31, h33, q32, hF⟩ := bd_some hF
            refine clRX2_143 hC hRm hbt dX2_readLine_77 rfl rfl (by decide) (Nat.le_of_ble_eq_true rfl) (Nat.le_of_ble_eq_true rfl) (ok_X2_readHouse q32) ?_
            refine aw_goto (tgt := 120) hC dX2_readLine_80 (by decide) ?_
            exact aw_return hC hZ (Nat.zero_le _) (Nat.zero_le _) hr dX2_readLine_120 (hK _ _ (Option.some.inj hF).symm)
        · have hF := it_f hF c12
          refine aw_aload_n hC dX2_readLine_58 rfl ?_
          refine aw_iconst hC dX2_readLine_59 (by decide) ?_
          obtain ⟨r34, h36, q35, hF⟩ := bd_some hF
          refine clRX2_143 hC hRm hbt dX2_readLine_60 rfl rfl (by decide) (Nat.le_of_ble_eq_true rfl) (Nat.le_of_ble_eq_true rfl) (ok_X2_readHouse q35) ?_
          refine aw_goto (tgt := 120) hC dX2_readLine_63 (by decide) ?_
          exact aw_return hC hZ (Nat.zero_le _) (Nat.zero_le _) hr dX2_readLine_120 (hK _ _ (Option.some.inj hF).symm)
      · have hF := it_f hF c9
        refine aw_aload_n hC dX2_readLine_41 rfl ?_
        refine aw_iconst hC dX2_readLine_42 (by decide) ?_
        obtain ⟨r37, h39, q38, hF⟩ := bd_some hF
        refine clRX2_143 hC hRm hbt dX2_readLine_43 rfl rfl (by decide) (Nat.le_of_ble_eq_true rfl) (Nat.le_of_ble_eq_true rfl) (ok_X2_readHouse q38) ?_
        refine aw_goto (tgt := 120) hC dX2_readLine_46 (by decide) ?_
        exact aw_return hC hZ (Nat.zero_le _) (Nat.zero_le _) hr dX2_readLine_120 (hK _ _ (Option.some.inj hF).symm)
    · have hF := it_f hF c6
      refine aw_aload_n hC dX2_readLine_25 rfl ?_
      obtain ⟨r40, h42, q41, hF⟩ := bd_some hF
      refine clRX2_138 hC hRm hbt dX2_readLine_26 rfl rfl (by decide) (Nat.le_of_ble_eq_true rfl) (Nat.le_of_ble_eq_true rfl) (ok_X2_readTree q41) ?_
      refine aw_goto (tgt := 120) hC dX2_readLine_29 (by decide) ?_
      exact aw_return hC hZ (Nat.zero_le _) (Nat.zero_le _) hr dX2_readLine_120 (hK _ _ (Option.some.inj hF).symm)
  · have hF := it_f hF c3
    refine aw_aload_n hC dX2_readLine_9 rfl ?_
    obtain ⟨r43, h45, q44, hF⟩ := bd_some hF
    refine clRX2_133 hC hRm hbt dX2_readLine_10 rfl rfl (by decide) (Nat.le_of_ble_eq_true rfl) (Nat.le_of_ble_eq_true rfl) (ok_X2_readHeight q44) ?_
    refine aw_goto (tgt := 120) hC dX2_readLine_13 (by decide) ?_
    exact aw_return hC hZ (Nat.zero_le _) (Nat.zero_le _) hr dX2_readLine_120 (hK _ _ (Option.some.inj hF).symm)
def fX2_readSize  (h : Hp) : Option (Int × Hp) :=
  bd_ (fX2_take h) (fun r1 h3 => bd_ (fX2_takenNumber 1 8 h3) (fun r4 h6 => bd_ (fX2_takenNumber 1 8 h6) (fun r7 h9 => bd_ (fX2_takeEndOfLine h9) (fun r10 h12 => gd_ ((h12 18 8) = 1 ∨ (h12 18 8) = 9) (lb_ (st h12 (Int.toNat ((h12 18 8))) 0 r4) (fun h13 => gd_ ((h13 18 8) = 1 ∨ (h13 18 8) = 9) (lb_ (st h13 (Int.toNat ((h13 18 8))) 1 r7) (fun h15 => some (0, h15)))))))))
theorem ok_X2_readSize {G : GD} {n : Nat}  {h : Hp} {res : Int × Hp} (hF : fX2_readSize  h = some res) : Con G yX2_readSize cX2_readSize 3 none 3 0 0 true [(2, ((18 : Nat) : Int))] n h (FQ 8 n res) := by
  refine con_of (pad := 2) (own := RX2) (plainFor_of_name (by decide)) rfl rfl ?_
  intro X hC hbt hr hnm hZ hRm hn0
  have hK : ∀ (x9 : Int) (h9 : Hp), res = (x9, h9) → FQ 8 n res (8, x9) n h9 := fun x9 h9 e => by subst e; exact ⟨rfl, rfl, rfl⟩
  unfold fX2_readSize at hF
  show AW G X 0 [(2, ((18 : Nat) : Int)), (9, 0), (9, 0)] [] n h 0 0
  refine aw_aload_n hC dX2_readSize_0 rfl ?_
  obtain ⟨r1, h3, q2, hF⟩ := bd_some hF
  refine clRX2_60 hC hRm hbt dX2_readSize_1 rfl rfl (by decide) (Nat.le_of_ble_eq_true rfl) (Nat.le_of_ble_eq_true rfl) (ok_X2_take q2) ?_
  refine aw_aload_n hC dX2_readSize_4 rfl ?_
  refine aw_iconst hC dX2_readSize_5 (by decide) ?_
  refine aw_bipush hC dX2_readSize_6 (by decide) (by decide) ?_
  obtain ⟨r4, h6, q5, hF⟩ := bd_some hF
  refine clRX2_125 hC hRm hbt dX2_readSize_8 rfl rfl (by decide) (Nat.le_of_ble_eq_true rfl) (Nat.le_of_ble_eq_true rfl) (ok_X2_takenNumber q5) ?_
  refine aw_istore1 hC dX2_readSize_11 rfl ?_
  refine aw_aload_n hC dX2_readSize_12 rfl ?_
  refine aw_iconst hC dX2_readSize_13 (by decide) ?_
  refine aw_bipush hC dX2_readSize_14 (by decide) (by decide) ?_
  obtain ⟨r7, h9, q8, hF⟩ := bd_some hF
  refine clRX2_125 hC hRm hbt dX2_readSize_16 rfl rfl (by decide) (Nat.le_of_ble_eq_true rfl) (Nat.le_of_ble_eq_true rfl) (ok_X2_takenNumber q8) ?_
  refine aw_istore2 hC dX2_readSize_19 rfl ?_
  refine aw_aload_n hC dX2_readSize_20 rfl ?_
  obtain ⟨r10, h12, q11, hF⟩ := bd_some hF
  refine clRX2_128 hC hRm hbt dX2_readSize_21 rfl rfl (by decide) (Nat.le_of_ble_eq_true rfl) (Nat.le_of_ble_eq_true rfl) (ok_X2_takeEndOfLine q11) ?_
  refine aw_aload_n hC dX2_readSize_24 rfl ?_
  refine aw_g2r (k := 8) (a := 18) hC dX2_readSize_25 lkRX2_19 (by decide) rfl rfl rfl (Or.inl ⟨hbt, by decide⟩) ?_
  refine aw_iload_n hC dX2_readSize_28 rfl ?_
  obtain ⟨k14, hF⟩ := gd_some hF
  obtain ⟨h13, eh13, hF⟩ := lb_some hF
  refine aw_pLiN (k := 0) hC hbt k14 dX2_readSize_29 lkRX2_115 (by decide) rfl rfl rfl (by decide) ?_
  refine aw_eqH eh13 ?_
  clear eh13
  refine aw_aload_n hC dX2_readSize_32 rfl ?_
  refine aw_g2r (k := 8) (a := 18) hC dX2_readSize_33 lkRX2_19 (by decide) rfl rfl rfl (Or.inl ⟨hbt, by decide⟩) ?_
  refine aw_iload_n hC dX2_readSize_36 rfl ?_
  obtain ⟨k16, hF⟩ := gd_some hF
  obtain ⟨h15, eh15, hF⟩ := lb_some hF
  refine aw_pLiN (k := 1) hC hbt k16 dX2_readSize_37 lkRX2_118 (by decide) rfl rfl rfl (by decide) ?_
  refine aw_eqH eh15 ?_
  clear eh15
  exact aw_return hC hZ (Nat.zero_le _) (Nat.zero_le _) hr dX2_readSize_40 (hK _ _ (Option.some.inj hF).symm)
def fX2_read_l79 (x3 : Int) (h : Hp) : Option ((Int × Hp) ⊕ (Hp)) :=
  (if (h 18 1) < x3 then some (.inr h) else (if (h 18 6) = 0 then (if (h 18 4) = 0 then some (.inr h) else bd_ (fX2_readLine h) (fun r25 h27 => some (.inl ((i_add x3 1), h27)))) else some (.inr h)))
def fX2_read_j135 (z0 : Int) (z1 : Int) (z2 : Int) (h : Hp) : Option (Int × Hp) :=
  gd_ (z2 = 1 ∨ z2 = 9) (gd_ (0 ≤ z1 ∧ z1 < 62) (lb_ (st h (Int.toNat (z2 + 7)) (Int.toNat z1) z0) (fun h35 => some (0, h35))))
def fX2_read_j111  (h : Hp) : Option (Int × Hp) :=
  gd_ ((h 18 8) = 1 ∨ (h 18 8) = 9) ((if (h (Int.toNat ((h 18 8))) 8) ≤ 0 then fX2_read_j135 ((-1)) 60 ((h 18 8)) h else fX2_read_j135 0 60 ((h 18 8)) h))
def fX2_read (x1 : Int) (x2 : Int) (h : Hp) : Option (Int × Hp) :=
  bp_ (fJ9_min_7cf53 x1 (((700 : Nat) : Int)) h) (fun r1 => lb_ (st h 18 1 r1) (fun h3 => lb_ (st h3 18 3 0) (fun h4 => lb_ (st h4 18 6 0) (fun h5 => lb_ (st h5 18 7 ((-1))) (fun h6 => lb_ (st h6 18 8 x2) (fun h7 => lb_ (st h7 18 9 0) (fun h8 => lb_ (st h8 18 10 0) (fun h9 => lb_ (st h9 18 11 0) (fun h10 => lb_ (st h10 18 14 0) (fun h11 => gd_ ((h11 18 8) = 1 ∨ (h11 18 8) = 9) (bd_ (fX1_clear ((h11 18 8)) h11) (fun r13 h15 => bd_ (fX2_take h15) (fun r16 h18 => bp_ (fX2_isWord 10 h18) (fun r19 => (if r19 = 0 then bp_ (it_ (fun s => fX2_read_l79 s.1 s.2) FU (0, h18)) (fun e29 => (fun h30 => fX2_read_j111 h30) e29) else bd_ (fX2_readSize h18) (fun r36 h38 => bp_ (it_ (fun s => fX2_read_l79 s.1 s.2) FU (0, h38)) (fun e39 => (fun h40 => fX2_read_j111 h40) e39)))))))))))))))))
theorem fX2_read_l79_ok {G : GD} {X : CX} {n : Nat} {Q : Av → Nat → Hp → Prop} (hC : Cx G X RX2 cX2_read) (hZ : ZOK X G Q 0 0) (hRm : X.R = rmd 13 0 0) (hbt : X.bt = true) (hr : X.meth.sig.returnType = none)  : ∀ (f : Nat) (x3 : Int) (h : Hp) (r : Hp), it_ (fun s => fX2_read_l79 s.1 s.2) f (x3, h) = some r → (∀ (h9 : Hp), r = h9 → AW G X 111 [(2, ((18 : Nat) : Int)), (9, 0), (9, 0), (9, 0)] [] n h9 0 0) → AW G X 79 [(2, ((18 : Nat) : Int)), (9, 0), (9, 0), (0, x3)] [] n h 0 0 := by
  intro f
  induction f with
  | zero => intro x3 h r hI; cases hI
  | succ f ih0 =>
    intro x3 h r hI hX
    obtain ⟨b, hF, hb1, hb2⟩ := it_succ hI
    have hF : fX2_read_l79 x3 h = some b := hF
    unfold fX2_read_l79 at hF
    refine aw_iload_n hC dX2_read_79 rfl ?_
    refine aw_aload_n hC dX2_read_80 rfl ?_
    refine aw_g2i (k := 1) (a := 18) hC dX2_read_81 lkRX2_29 (by decide) rfl rfl rfl (Or.inl ⟨hbt, by decide⟩) ?_
    refine aw_icmp_gt (tgt := 111) hC dX2_read_84 (by decide) (fun c22 => ?_) (fun c22 => ?_)
    · have hF := it_t hF c22
      refine aw_weak (ls' := [(2, ((18 : Nat) : Int)), (9, 0), (9, 0), (9, 0)]) ⟨Or.inr rfl, Or.inl rfl, Or.inl rfl, Or.inl rfl, trivial⟩ ?_
      exact hX _ (hb2 _ (Option.some.inj hF).symm).symm
    · have hF := it_f hF c22
      refine aw_aload_n hC dX2_read_87 rfl ?_
      refine aw_g2i (k := 6) (a := 18) hC dX2_read_88 lkRX2_36 (by decide) rfl rfl rfl (Or.inl ⟨hbt, by decide⟩) ?_
      refine aw_if_ne (tgt := 111) hC dX2_read_91 (by decide) (fun c23 => ?_) (fun c23 => ?_)
      · have hF := it_f hF c23
        refine aw_weak (ls' := [(2, ((18 : Nat) : Int)), (9, 0), (9, 0), (9, 0)]) ⟨Or.inr rfl, Or.inl rfl, Or.inl rfl, Or.inl rfl, trivial⟩ ?_
        exact hX _ (hb2 _ (Option.some.inj hF).symm).symm
      · have hF := it_t hF c23
        refine aw_aload_n hC dX2_read_94 rfl ?_
        refine aw_g2i (k := 4) (a := 18) hC dX2_read_95 lkRX2_71 (by decide) rfl rfl rfl (Or.inl ⟨hbt, by decide⟩) ?_
        refine aw_if_eq (tgt := 111) hC dX2_read_98 (by decide) (fun c24 => ?_) (fun c24 => ?_)
        · have hF := it_t hF c24
          refine aw_weak (ls' := [(2, ((18 : Nat) : Int)), (9, 0), (9, 0), (9, 0)]) ⟨Or.inr rfl, Or.inl rfl, Or.inl rfl, Or.inl rfl, trivial⟩ ?_
          exact hX _ (hb2 _ (Option.some.inj hF).symm).symm
        · have hF := it_f hF c24
          refine aw_aload_n hC dX2_read_101 rfl ?_
          obtain ⟨r25, h27, q26, hF⟩ := bd_some hF
          refine clRX2_74 hC hRm hbt dX2_read_102 rfl rfl (by decide) (Nat.le_of_ble_eq_true rfl) (Nat.le_of_ble_eq_true rfl) (ok_X2_readLine q26) ?_
          refine aw_iinc3 hC dX2_read_105 rfl ?_
          refine aw_goto (tgt := 79) hC dX2_read_108 (by decide) ?_
          exact ih0 _ _ r (hb1 _ (Option.some.inj hF).symm) hX
theorem fX2_read_j135_ok {G : GD} {X : CX} {n : Nat} {Q : Av → Nat → Hp → Prop} (hC : Cx G X RX2 cX2_read) (hZ : ZOK X G Q 0 0) (hRm : X.R = rmd 13 0 0) (hbt : X.bt = true) (hr : X.meth.sig.returnType = none) {z0 : Int} {z1 : Int} {z2 : Int} {h : Hp} {res : Int × Hp} (hF : fX2_read_j135 z0 z1 z2 h = some res) (hK : ∀ (x9 : Int) (h9 : Hp), res = (x9, h9) → Q (8, x9) n h9) : AW G X 135 [(9, 0), (9, 0), (9, 0), (9, 0)] [(0, z0), (0, z1), (2, (z2 + 7))] n h 0 0 := by
  unfold fX2_read_j135 at hF
  obtain ⟨k33, hF⟩ := gd_some hF
  obtain ⟨g34, hF⟩ := gd_some hF
  obtain ⟨h35, eh35, hF⟩ := lb_some hF
  refine aw_iastore (a := (Int.toNat (z2 + 7))) hC dX2_read_135 (lnd7 k33).1 (lnd7 k33).2.1 (Or.inl ⟨hbt, (lnd7 k33).2.2⟩) g34.1 g34.2 ?_
  refine aw_eqH eh35 ?_
  clear eh35
  exact aw_return hC hZ (Nat.zero_le _) (Nat.zero_le _) hr dX2_read_136 (hK _ _ (Option.some.inj hF).symm)
theorem fX2_read_j111_ok {G : GD} {X : CX} {n : Nat} {Q : Av → Nat → Hp → Prop} (hC : Cx G X RX2 cX2_read) (hZ : ZOK X G Q 0 0) (hRm : X.R = rmd 13 0 0) (hbt : X.bt = true) (hr : X.meth.sig.returnType = none)  {h : Hp} {res : Int × Hp} (hF : fX2_read_j111  h = some res) (hK : ∀ (x9 : Int) (h9 : Hp), res = (x9, h9) → Q (8, x9) n h9) : AW G X 111 [(2, ((18 : Nat) : Int)), (9, 0), (9, 0), (9, 0)] [] n h 0 0 := by
  unfold fX2_read_j111 at hF
  refine aw_aload_n hC dX2_read_111 rfl ?_
  refine aw_g2r (k := 8) (a := 18) hC dX2_read_112 lkRX2_19 (by decide) rfl rfl rfl (Or.inl ⟨hbt, by decide⟩) ?_
  obtain ⟨k31, hF⟩ := gd_some hF
  refine aw_gL7N hC hbt k31 dX2_read_115 lkRX2_77 ?_
  refine aw_bipush hC dX2_read_118 (by decide) (by decide) ?_
  refine aw_aload_n hC dX2_read_120 rfl ?_
  refine aw_g2r (k := 8) (a := 18) hC dX2_read_121 lkRX2_19 (by decide) rfl rfl rfl (Or.inl ⟨hbt, by decide⟩) ?_
  refine aw_gLiN (k := 8) hC hbt k31 dX2_read_124 lkRX2_80 (by decide) rfl ?_
  refine aw_if_le (tgt := 134) hC dX2_read_127 (by decide) (fun c32 => ?_) (fun c32 => ?_)
  · have hF := it_t hF c32
    refine aw_iconst hC dX2_read_134 (by decide) ?_
    refine aw_weak (ls' := [(9, 0), (9, 0), (9, 0), (9, 0)]) ⟨Or.inl rfl, Or.inl rfl, Or.inl rfl, Or.inl rfl, trivial⟩ ?_
    exact fX2_read_j135_ok hC hZ hRm hbt hr hF hK
  · have hF := it_f hF c32
    refine aw_iconst hC dX2_read_130 (by decide) ?_
    refine aw_goto (tgt := 135) hC dX2_read_131 (by decide) ?_
    refine aw_weak (ls' := [(9, 0), (9, 0), (9, 0), (9, 0)]) ⟨Or.inl rfl, Or.inl rfl, Or.inl rfl, Or.inl rfl, trivial⟩ ?_
    exact fX2_read_j135_ok hC hZ hRm hbt hr hF hK
theorem ok_X2_read {G : GD} {n : Nat} {x1 : Int} {x2 : Int} {h : Hp} {res : Int × Hp} (hF : fX2_read x1 x2 h = some res) : Con G yX2_read cX2_read 4 none 13 0 0 true [(2, ((18 : Nat) : Int)), (0, x1), (2, x2)] n h (FQ 8 n res) := by
  refine con_of (pad := 1) (own := RX2) (plainFor_of_name (by decide)) rfl rfl ?_
  intro X hC hbt hr hnm hZ hRm hn0
  have hK : ∀ (x9 : Int) (h9 : Hp), res = (x9, h9) → FQ 8 n res (8, x9) n h9 := fun x9 h9 e => by subst e; exact ⟨rfl, rfl, rfl⟩
  unfold fX2_read at hF
  show AW G X 0 [(2, ((18 : Nat) : Int)), (0, x1), (2, x2), (9, 0)] [] n h 0 0
  refine aw_aload_n hC dX2_read_0 rfl ?_
  refine aw_iload_n hC dX2_read_1 rfl ?_
  refine aw_aload_n hC dX2_read_2 rfl ?_
  refine aw_gc2 (k := 0) (a := 18) (b := 17) hC hbt dX2_read_3 lkRX2_15 (by decide) rfl rfl rfl (by decide) (by decide) ?_
  refine aw_alen (a := 17) hC dX2_read_6 rfl rfl (by decide) (by decide) (Or.inl ⟨hbt, by decide⟩) ?_
  obtain ⟨r1, q2, hF⟩ := bp_some hF
  refine clRX2_23 hC hRm hbt dX2_read_7 (Nat.le_of_ble_eq_true rfl) (Nat.le_of_ble_eq_true rfl) (ok_J9_min_7cf53 q2) ?_
  obtain ⟨h3, eh3, hF⟩ := lb_some hF
  refine aw_p2i (k := 1) (a := 18) hC dX2_read_10 lkRX2_29 (by decide) rfl rfl rfl rfl rfl (Or.inl ⟨hbt, by decide⟩) (fun _ => by decide) ?_
  refine aw_eqH eh3 ?_
  clear eh3
  refine aw_aload_n hC dX2_read_13 rfl ?_
  refine aw_iconst hC dX2_read_14 (by decide) ?_
  obtain ⟨h4, eh4, hF⟩ := lb_some hF
  refine aw_p2i (k := 3) (a := 18) hC dX2_read_15 lkRX2_33 (by decide) rfl rfl rfl rfl rfl (Or.inl ⟨hbt, by decide⟩) (fun _ => by decide) ?_
  refine aw_eqH eh4 ?_
  clear eh4
  refine aw_aload_n hC dX2_read_18 rfl ?_
  refine aw_iconst hC dX2_read_19 (by decide) ?_
  obtain ⟨h5, eh5, hF⟩ := lb_some hF
  refine aw_p2i (k := 6) (a := 18) hC dX2_read_20 lkRX2_36 (by decide) rfl rfl rfl rfl rfl (Or.inl ⟨hbt, by decide⟩) (fun _ => by decide) ?_
  refine aw_eqH eh5 ?_
  clear eh5
  refine aw_aload_n hC dX2_read_23 rfl ?_
  refine aw_iconst hC dX2_read_24 (by decide) ?_
  obtain ⟨h6, eh6, hF⟩ := lb_some hF
  refine aw_p2i (k := 7) (a := 18) hC dX2_read_25 lkRX2_39 (by decide) rfl rfl rfl rfl rfl (Or.inl ⟨hbt, by decide⟩) (fun _ => by decide) ?_
  refine aw_eqH eh6 ?_
  clear eh6
  refine aw_aload_n hC dX2_read_28 rfl ?_
  refine aw_aload_n hC dX2_read_29 rfl ?_
  obtain ⟨h7, eh7, hF⟩ := lb_some hF
  refine aw_p2r (k := 8) (a := 18) hC dX2_read_30 lkRX2_19 (by decide) rfl rfl rfl rfl (Or.inl ⟨_, rfl⟩) (Or.inl ⟨hbt, by decide⟩) (fun _ => by decide) ?_
  refine aw_eqH eh7 ?_
  clear eh7
  refine aw_aload_n hC dX2_read_33 rfl ?_
  refine aw_iconst hC dX2_read_34 (by decide) ?_
  obtain ⟨h8, eh8, hF⟩ := lb_some hF
  refine aw_p2i (k := 9) (a := 18) hC dX2_read_35 lkRX2_42 (by decide) rfl rfl rfl rfl rfl (Or.inl ⟨hbt, by decide⟩) (fun _ => by decide) ?_
  refine aw_eqH eh8 ?_
  clear eh8
  refine aw_aload_n hC dX2_read_38 rfl ?_
  refine aw_lconst (v := 0) hC dX2_read_39 (by decide) (by decide) ?_
  obtain ⟨h9, eh9, hF⟩ := lb_some hF
  refine aw_p2l (k := 10) (a := 18) hC dX2_read_40 lkRX2_45 (by decide) rfl rfl rfl rfl rfl (Or.inl ⟨hbt, by decide⟩) (fun _ => by decide) ?_
  refine aw_eqH eh9 ?_
  clear eh9
  refine aw_aload_n hC dX2_read_43 rfl ?_
  refine aw_lconst (v := 0) hC dX2_read_44 (by decide) (by decide) ?_
  obtain ⟨h10, eh10, hF⟩ := lb_some hF
  refine aw_p2l (k := 11) (a := 18) hC dX2_read_45 lkRX2_49 (by decide) rfl rfl rfl rfl rfl (Or.inl ⟨hbt, by decide⟩) (fun _ => by decide) ?_
  refine aw_eqH eh10 ?_
  clear eh10
  refine aw_aload_n hC dX2_read_48 rfl ?_
  refine aw_iconst hC dX2_read_49 (by decide) ?_
  obtain ⟨h11, eh11, hF⟩ := lb_some hF
  refine aw_p2i (k := 14) (a := 18) hC dX2_read_50 lkRX2_52 (by decide) rfl rfl rfl rfl rfl (Or.inl ⟨hbt, by decide⟩) (fun _ => by decide) ?_
  refine aw_eqH eh11 ?_
  clear eh11
  refine aw_aload_n hC dX2_read_53 rfl ?_
  refine aw_g2r (k := 8) (a := 18) hC dX2_read_54 lkRX2_19 (by decide) rfl rfl rfl (Or.inl ⟨hbt, by decide⟩) ?_
  obtain ⟨k12, hF⟩ := gd_some hF
  obtain ⟨r13, h15, q14, hF⟩ := bd_some hF
  refine clRX2_55 hC hRm hbt dX2_read_57 (lnd k12).1 (lnd k12).2.1 (lnd k12).2.2.1 (Nat.le_of_ble_eq_true rfl) (Nat.le_of_ble_eq_true rfl) (ok_X1_clear q14) ?_
  refine aw_aload_n hC dX2_read_60 rfl ?_
  obtain ⟨r16, h18, q17, hF⟩ := bd_some hF
  refine clRX2_60 hC hRm hbt dX2_read_61 rfl rfl (by decide) (Nat.le_of_ble_eq_true rfl) (Nat.le_of_ble_eq_true rfl) (ok_X2_take q17) ?_
  refine aw_aload_n hC dX2_read_64 rfl ?_
  refine aw_ldcs_RX2_63 hC dX2_read_65 ?_
  obtain ⟨r19, q20, hF⟩ := bp_some hF
  refine clRX2_64 hC hRm hbt dX2_read_67 rfl rfl (by decide) (Nat.le_of_ble_eq_true rfl) (Nat.le_of_ble_eq_true rfl) (ok_X2_isWord q20) ?_
  refine aw_if_eq (tgt := 77) hC dX2_read_70 (by decide) (fun c21 => ?_) (fun c21 => ?_)
  · have hF := it_t hF c21
    refine aw_iconst hC dX2_read_77 (by decide) ?_
    refine aw_istore3 hC dX2_read_78 rfl ?_
    refine aw_weak (ls' := [(2, ((18 : Nat) : Int)), (9, 0), (9, 0), (0, 0)]) ⟨Or.inr rfl, Or.inl rfl, Or.inl rfl, Or.inr rfl, trivial⟩ ?_
    obtain ⟨e29, he, hF⟩ := bp_some hF
    refine fX2_read_l79_ok hC hZ hRm hbt hr FU _ _ e29 he (fun h30 er => ?_)
    replace er := er.symm
    subst er
    try dsimp only at hF
    exact fX2_read_j111_ok hC hZ hRm hbt hr hF hK
  · have hF := it_f hF c21
    refine aw_aload_n hC dX2_read_73 rfl ?_
    obtain ⟨r36, h38, q37, hF⟩ := bd_some hF
    refine clRX2_68 hC hRm hbt dX2_read_74 rfl rfl (by decide) (Nat.le_of_ble_eq_true rfl) (Nat.le_of_ble_eq_true rfl) (ok_X2_readSize q37) ?_
    refine aw_iconst hC dX2_read_77 (by decide) ?_
    refine aw_istore3 hC dX2_read_78 rfl ?_
    refine aw_weak (ls' := [(2, ((18 : Nat) : Int)), (9, 0), (9, 0), (0, 0)]) ⟨Or.inr rfl, Or.inl rfl, Or.inl rfl, Or.inr rfl, trivial⟩ ?_
    obtain ⟨e39, he, hF⟩ := bp_some hF
    refine fX2_read_l79_ok hC hZ hRm hbt hr FU _ _ e39 he (fun h40 er => ?_)
    replace er := er.symm
    subst er
    try dsimp only at hF
    exact fX2_read_j111_ok hC hZ hRm hbt hr hF hK
