/-! pure part: beginnings -/
theorem gd_y {α : Type} {c : Prop} [Decidable c] {x : Option α} (h : c) : gd_ c x = x := if_pos h
theorem it_for {σ ρ : Type} {body : σ → Option (σ ⊕ ρ)} (P : Nat → σ) (N : Nat) {r : ρ} {s : σ} (hs : ∀ k, k < N → body (P k) = some (.inl (P (k + 1)))) (he : body (P N) = some (.inr r)) (h0 : s = P 0) {f : Nat} (hf : N < f) : it_ body f s = some r := by
  have key : ∀ m k f, k + m = N → m < f → it_ body f (P k) = some r := by
    intro m
    induction m with
    | zero =>
      intro k f hk hf
      obtain ⟨f, rfl⟩ : ∃ f', f = f' + 1 := ⟨f - 1, by omega⟩
      have : k = N := by omega
      subst this
      unfold it_
      rw [he]
    | succ m ih =>
      intro k f hk hf
      obtain ⟨f, rfl⟩ : ∃ f', f = f' + 1 := ⟨f - 1, by omega⟩
      unfold it_
      rw [hs k (by omega)]
      exact ih (k + 1) f (by omega) (by omega)
  rw [h0]
  exact key N 0 f (by omega) hf
theorem ia {a b : Int} (h1 : -2147483648 ≤ a + b) (h2 : a + b ≤ 2147483647) : i_add a b = a + b := i_add_eq ⟨h1, h2⟩
def fil (h : Hp) (A N : Nat) (f : Nat → Int) : Hp := fun a k => if a = A ∧ k < N then f k else h a k
theorem st_fil {h : Hp} {A k : Nat} {f : Nat → Int} : st (fil h A k f) A k (f k) = fil h A (k + 1) f := by
  funext a j
  unfold st fil
  by_cases h1 : a = A
  · by_cases h2 : j = k
    · rw [if_pos ⟨h1, h2⟩, if_pos ⟨h1, by omega⟩, h2]
    · rw [if_neg (fun q => h2 q.2)]
      by_cases h3 : j < k
      · rw [if_pos ⟨h1, h3⟩, if_pos ⟨h1, by omega⟩]
      · rw [if_neg (fun q => h3 q.2), if_neg (fun q => by omega)]
  · rw [if_neg (fun q => h1 q.1), if_neg (fun q => h1 q.1), if_neg (fun q => h1 q.1)]
theorem fil_0 {h : Hp} {A : Nat} {f : Nat → Int} : fil h A 0 f = h := by
  funext a j
  unfold fil
  rw [if_neg (fun q => absurd q.2 (Nat.not_lt_zero _))]
theorem FU_big {n : Nat} (h : n < 4000) : n < FU := h
def clrH (L : Nat) (h : Hp) : Hp := st (fil (fil (fil (st (st (st (st (st h L 0 8) L 1 8) L 3 0) L 6 0) L 8 0) (L + 1) 64 (fun _ => 0)) (L + 7) 62 (fun _ => 0)) (L + 7) 12 (fun _ => -1)) (L + 7) 60 (-1)
theorem clear_eq {L : Int} (hL : L = 1 ∨ L = 9) (h : Hp) : fX1_clear L h = some (0, clrH L.toNat h) := by
  have e1 : (L + 1).toNat = L.toNat + 1 := by omega
  have e7 : (L + 7).toNat = L.toNat + 7 := by omega
  have l1 : ∀ h, it_ (fun s => fX1_clear_l29 L s.1 s.2) FU (0, h) = some (fil h (L.toNat + 1) 64 (fun _ => 0)) := fun h => by
    refine it_for (P := fun k => ((k : Int), fil h (L.toNat + 1) k (fun _ => 0))) 64 (fun k hk => ?_) ?_ ?_ (FU_big (by decide))
    · show fX1_clear_l29 L (k : Int) _ = _
      unfold fX1_clear_l29
      rw [gd_y hL, if_neg (by omega), gd_y ⟨by omega, by omega⟩, e1]
      show some (Sum.inl (i_add k 1, st _ _ k 0)) = _
      rw [st_fil (f := fun _ => 0), ia (by omega) (by omega)]
      rfl
    · show fX1_clear_l29 L ((64 : Nat) : Int) _ = _
      unfold fX1_clear_l29
      rw [gd_y hL, if_pos (by omega)]
    · rw [fil_0]
      rfl
  have l2 : ∀ h, it_ (fun s => fX1_clear_l53 L s.1 s.2) FU (0, h) = some (fil h (L.toNat + 7) 62 (fun _ => 0)) := fun h => by
    refine it_for (P := fun k => ((k : Int), fil h (L.toNat + 7) k (fun _ => 0))) 62 (fun k hk => ?_) ?_ ?_ (FU_big (by decide))
    · show fX1_clear_l53 L (k : Int) _ = _
      unfold fX1_clear_l53
      rw [gd_y hL, if_neg (by omega), gd_y ⟨by omega, by omega⟩, e7]
      show some (Sum.inl (i_add k 1, st _ _ k 0)) = _
      rw [st_fil (f := fun _ => 0), ia (by omega) (by omega)]
      rfl
    · show fX1_clear_l53 L ((62 : Nat) : Int) _ = _
      unfold fX1_clear_l53
      rw [gd_y hL, if_pos (by omega)]
    · rw [fil_0]
      rfl
  have l3 : ∀ h, it_ (fun s => fX1_clear_l77 L s.1 s.2) FU (0, h) = some (fil h (L.toNat + 7) 12 (fun _ => -1)) := fun h => by
    refine it_for (P := fun k => ((k : Int), fil h (L.toNat + 7) k (fun _ => -1))) 12 (fun k hk => ?_) ?_ ?_ (FU_big (by decide))
    · show fX1_clear_l77 L (k : Int) _ = _
      unfold fX1_clear_l77
      have e0 : i_add 0 (k : Int) = k := by rw [ia (by omega) (by omega)]; omega
      rw [if_neg (by omega), gd_y hL, e0, gd_y ⟨by omega, by omega⟩, e7]
      show some (Sum.inl (i_add k 1, st _ _ k (-1))) = _
      rw [st_fil (f := fun _ => -1), ia (by omega) (by omega)]
      rfl
    · show fX1_clear_l77 L ((12 : Nat) : Int) _ = _
      unfold fX1_clear_l77
      rw [if_pos (by omega)]
    · rw [fil_0]
      rfl
  unfold fX1_clear
  rw [gd_y hL]
  simp only [lb_, l1, l2, l3, bp_, e7]
  rw [gd_y hL, gd_y (by decide)]
  rfl
/-! Land.clear while its maker runs -/
def FX (L : Int) (n : Nat) (h : Hp) : Prop := (L = 1 ∨ L = 9) ∧ L.toNat + 8 ≤ n ∧ h L.toNat 2 = L + 1 ∧ h L.toNat 11 = L + 7
theorem fx_st {L : Int} {n : Nat} {h : Hp} {a k : Nat} {v : Int} (hF : FX L n h) (ha : a ≠ L.toNat ∨ (k ≠ 2 ∧ k ≠ 11)) : FX L n (st h a k v) := by
  refine ⟨hF.1, hF.2.1, ?_, ?_⟩
  · unfold st
    rw [if_neg (fun q => by omega)]
    exact hF.2.2.1
  · unfold st
    rw [if_neg (fun q => by omega)]
    exact hF.2.2.2
section ClearF
variable {G : GD} {X : CX} {own : String} {cc : ByteArray} {pc : Nat} {ls sk : List Av} {n : Nat} {h : Hp} {cs ss : Nat}
theorem aw_gF1 {idx : Nat} {x : Int} (hC : Cx G X own cc) (hS : FX x n h) (hd : decode cc pc = .ok (.getfield idx, 3)) (hlink : Cond.fieldLink own idx (TX1 2).1 (TX1 2).2.1 (TX1 2).2.2.1 ∈ TB) (kk : AW G X (pc + 3) ls ((2, x + 1) :: sk) n h cs ss) : AW G X pc ls ((2, x) :: sk) n h cs ss :=
  aw_g1r (k := 2) hC hd hlink (by decide) (lnd hS.1).1 (lnd hS.1).2.1 rfl (Or.inr (by have := hS.2.1; omega)) (by rw [hS.2.2.1]; exact kk)
theorem aw_gF7 {idx : Nat} {x : Int} (hC : Cx G X own cc) (hS : FX x n h) (hd : decode cc pc = .ok (.getfield idx, 3)) (hlink : Cond.fieldLink own idx (TX1 11).1 (TX1 11).2.1 (TX1 11).2.2.1 ∈ TB) (kk : AW G X (pc + 3) ls ((2, x + 7) :: sk) n h cs ss) : AW G X pc ls ((2, x) :: sk) n h cs ss :=
  aw_g1r (k := 11) hC hd hlink (by decide) (lnd hS.1).1 (lnd hS.1).2.1 rfl (Or.inr (by have := hS.2.1; omega)) (by rw [hS.2.2.2]; exact kk)
theorem aw_pFi {idx k : Nat} {x v : Int} (hC : Cx G X own cc) (hbt : X.bt = false) (hS : FX x n h) (hd : decode cc pc = .ok (.putfield idx, 3)) (hlink : Cond.fieldLink own idx (TX1 k).1 (TX1 k).2.1 (TX1 k).2.2.1 ∈ TB) (hk : k < 12) (hfin : (TX1 k).2.2.2 = false) (ht : (FT 1)[k]? = some 0) (hft : ftOK 0 (tyX1 k)) (kk : AW G X (pc + 3) ls sk n (st h x.toNat k v) cs ss) : AW G X pc ls ((0, v) :: (2, x) :: sk) n h cs ss :=
  aw_p1i hC hd hlink hk hfin (lnd hS.1).1 (lnd hS.1).2.1 ht hft (Or.inr (by have := hS.2.1; omega)) (fun q => by rw [hbt] at q; cases q) kk
end ClearF
theorem fF_clear_l29_ok {G : GD} {X : CX} {n : Nat} {Q : Av → Nat → Hp → Prop} (hC : Cx G X RX1 cX1_clear) (hZ : ZOK X G Q 0 0) (hRm : X.R = rmd 0 0 0) (hbt : X.bt = false) (hr : X.meth.sig.returnType = none) {x0 : Int} : ∀ (f : Nat) (x1 : Int) (h : Hp) (r : Hp), it_ (fun s => fX1_clear_l29 x0 s.1 s.2) f (x1, h) = some r → FX x0 n h → (∀ (h9 : Hp), r = h9 → FX x0 n h9 → AW G X 51 [(2, x0), (9, 0)] [] n h9 0 0) → AW G X 29 [(2, x0), (0, x1)] [] n h 0 0 := by
  intro f
  induction f with
  | zero => intro x1 h r hI; cases hI
  | succ f ih0 =>
    intro x1 h r hI hS hX
    obtain ⟨b, hF, hb1, hb2⟩ := it_succ hI
    have hF : fX1_clear_l29 x0 x1 h = some b := hF
    unfold fX1_clear_l29 at hF
    refine aw_iload_n hC dX1_clear_29 rfl ?_
    refine aw_aload_n hC dX1_clear_30 rfl ?_
    obtain ⟨k7, hF⟩ := gd_some hF
    refine aw_gF1 hC hS dX1_clear_31 lkRX1_18 ?_
    refine aw_alen (a := (Int.toNat (x0 + 1))) hC dX1_clear_34 (lnd1 k7).1 (lnd1 k7).2.1 (by decide) (by decide) (Or.inr (by have := hS.2.1; have := hS.1; omega)) ?_
    refine aw_icmp_ge (tgt := 51) hC dX1_clear_35 (by decide) (fun c8 => ?_) (fun c8 => ?_)
    · have hF := it_t hF c8
      refine aw_weak (ls' := [(2, x0), (9, 0)]) ⟨Or.inr rfl, Or.inl rfl, trivial⟩ ?_
      exact hX _ (hb2 _ (Option.some.inj hF).symm).symm hS
    · have hF := it_f hF c8
      refine aw_aload_n hC dX1_clear_38 rfl ?_
      refine aw_gF1 hC hS dX1_clear_39 lkRX1_18 ?_
      refine aw_iload_n hC dX1_clear_42 rfl ?_
      refine aw_iconst hC dX1_clear_43 (by decide) ?_
      obtain ⟨g9, hF⟩ := gd_some hF
      obtain ⟨h10, eh10, hF⟩ := lb_some hF
      refine aw_iastore (a := (Int.toNat (x0 + 1))) hC dX1_clear_44 (lnd1 k7).1 (lnd1 k7).2.1 (Or.inr (by have := hS.2.1; have := hS.1; omega)) g9.1 g9.2 ?_
      replace hS : FX x0 n h10 := by rw [eh10]; exact fx_st hS (by have := hS.1; omega)
      refine aw_eqH eh10 ?_
      clear eh10
      refine aw_iinc1 hC dX1_clear_45 rfl ?_
      refine aw_goto (tgt := 29) hC dX1_clear_48 (by decide) ?_
      exact ih0 _ _ r (hb1 _ (Option.some.inj hF).symm) hS hX
theorem fF_clear_l53_ok {G : GD} {X : CX} {n : Nat} {Q : Av → Nat → Hp → Prop} (hC : Cx G X RX1 cX1_clear) (hZ : ZOK X G Q 0 0) (hRm : X.R = rmd 0 0 0) (hbt : X.bt = false) (hr : X.meth.sig.returnType = none) {x0 : Int} : ∀ (f : Nat) (x1 : Int) (h : Hp) (r : Hp), it_ (fun s => fX1_clear_l53 x0 s.1 s.2) f (x1, h) = some r → FX x0 n h → (∀ (h9 : Hp), r = h9 → FX x0 n h9 → AW G X 75 [(2, x0), (9, 0)] [] n h9 0 0) → AW G X 53 [(2, x0), (0, x1)] [] n h 0 0 := by
  intro f
  induction f with
  | zero => intro x1 h r hI; cases hI
  | succ f ih0 =>
    intro x1 h r hI hS hX
    obtain ⟨b, hF, hb1, hb2⟩ := it_succ hI
    have hF : fX1_clear_l53 x0 x1 h = some b := hF
    unfold fX1_clear_l53 at hF
    refine aw_iload_n hC dX1_clear_53 rfl ?_
    refine aw_aload_n hC dX1_clear_54 rfl ?_
    obtain ⟨k14, hF⟩ := gd_some hF
    refine aw_gF7 hC hS dX1_clear_55 lkRX1_37 ?_
    refine aw_alen (a := (Int.toNat (x0 + 7))) hC dX1_clear_58 (lnd7 k14).1 (lnd7 k14).2.1 (by decide) (by decide) (Or.inr (by have := hS.2.1; have := hS.1; omega)) ?_
    refine aw_icmp_ge (tgt := 75) hC dX1_clear_59 (by decide) (fun c15 => ?_) (fun c15 => ?_)
    · have hF := it_t hF c15
      refine aw_weak (ls' := [(2, x0), (9, 0)]) ⟨Or.inr rfl, Or.inl rfl, trivial⟩ ?_
      exact hX _ (hb2 _ (Option.some.inj hF).symm).symm hS
    · have hF := it_f hF c15
      refine aw_aload_n hC dX1_clear_62 rfl ?_
      refine aw_gF7 hC hS dX1_clear_63 lkRX1_37 ?_
      refine aw_iload_n hC dX1_clear_66 rfl ?_
      refine aw_iconst hC dX1_clear_67 (by decide) ?_
      obtain ⟨g16, hF⟩ := gd_some hF
      obtain ⟨h17, eh17, hF⟩ := lb_some hF
      refine aw_iastore (a := (Int.toNat (x0 + 7))) hC dX1_clear_68 (lnd7 k14).1 (lnd7 k14).2.1 (Or.inr (by have := hS.2.1; have := hS.1; omega)) g16.1 g16.2 ?_
      replace hS : FX x0 n h17 := by rw [eh17]; exact fx_st hS (by have := hS.1; omega)
      refine aw_eqH eh17 ?_
      clear eh17
      refine aw_iinc1 hC dX1_clear_69 rfl ?_
      refine aw_goto (tgt := 53) hC dX1_clear_72 (by decide) ?_
      exact ih0 _ _ r (hb1 _ (Option.some.inj hF).symm) hS hX
theorem fF_clear_l77_ok {G : GD} {X : CX} {n : Nat} {Q : Av → Nat → Hp → Prop} (hC : Cx G X RX1 cX1_clear) (hZ : ZOK X G Q 0 0) (hRm : X.R = rmd 0 0 0) (hbt : X.bt = false) (hr : X.meth.sig.returnType = none) {x0 : Int} : ∀ (f : Nat) (x1 : Int) (h : Hp) (r : Hp), it_ (fun s => fX1_clear_l77 x0 s.1 s.2) f (x1, h) = some r → FX x0 n h → (∀ (h9 : Hp), r = h9 → FX x0 n h9 → AW G X 98 [(2, x0), (9, 0)] [] n h9 0 0) → AW G X 77 [(2, x0), (0, x1)] [] n h 0 0 := by
  intro f
  induction f with
  | zero => intro x1 h r hI; cases hI
  | succ f ih0 =>
    intro x1 h r hI hS hX
    obtain ⟨b, hF, hb1, hb2⟩ := it_succ hI
    have hF : fX1_clear_l77 x0 x1 h = some b := hF
    unfold fX1_clear_l77 at hF
    refine aw_iload_n hC dX1_clear_77 rfl ?_
    refine aw_bipush hC dX1_clear_78 (by decide) (by decide) ?_
    refine aw_icmp_ge (tgt := 98) hC dX1_clear_80 (by decide) (fun c21 => ?_) (fun c21 => ?_)
    · have hF := it_t hF c21
      refine aw_weak (ls' := [(2, x0), (9, 0)]) ⟨Or.inr rfl, Or.inl rfl, trivial⟩ ?_
      exact hX _ (hb2 _ (Option.some.inj hF).symm).symm hS
    · have hF := it_f hF c21
      refine aw_aload_n hC dX1_clear_83 rfl ?_
      obtain ⟨k22, hF⟩ := gd_some hF
      refine aw_gF7 hC hS dX1_clear_84 lkRX1_37 ?_
      refine aw_iconst hC dX1_clear_87 (by decide) ?_
      refine aw_iload_n hC dX1_clear_88 rfl ?_
      refine aw_iadd hC dX1_clear_89 ?_
      refine aw_iconst hC dX1_clear_90 (by decide) ?_
      obtain ⟨g23, hF⟩ := gd_some hF
      obtain ⟨h24, eh24, hF⟩ := lb_some hF
      refine aw_iastore (a := (Int.toNat (x0 + 7))) hC dX1_clear_91 (lnd7 k22).1 (lnd7 k22).2.1 (Or.inr (by have := hS.2.1; have := hS.1; omega)) g23.1 g23.2 ?_
      replace hS : FX x0 n h24 := by rw [eh24]; exact fx_st hS (by have := hS.1; omega)
      refine aw_eqH eh24 ?_
      clear eh24
      refine aw_iinc1 hC dX1_clear_92 rfl ?_
      refine aw_goto (tgt := 77) hC dX1_clear_95 (by decide) ?_
      exact ih0 _ _ r (hb1 _ (Option.some.inj hF).symm) hS hX
theorem okF_X1_clear {G : GD} {n : Nat} {L0 : Int} {h : Hp} {res : Int × Hp} (hS : FX L0 n h) (hF : fX1_clear L0 h = some res) : Con G yX1_clear cX1_clear 2 none 0 0 0 false [(2, L0)] n h (FQ 8 n res) := by
  refine con_of (pad := 1) (own := RX1) (plainFor_of_name (by decide)) rfl rfl ?_
  intro X hC hbt hr hnm hZ hRm hn0
  have hK : ∀ (x9 : Int) (h9 : Hp), res = (x9, h9) → FQ 8 n res (8, x9) n h9 := fun x9 h9 e => by subst e; exact ⟨rfl, rfl, rfl⟩
  unfold fX1_clear at hF
  show AW G X 0 [(2, L0), (9, 0)] [] n h 0 0
  refine aw_aload_n hC dX1_clear_0 rfl ?_
  refine aw_bipush hC dX1_clear_1 (by decide) (by decide) ?_
  obtain ⟨k2, hF⟩ := gd_some hF
  obtain ⟨h1, eh1, hF⟩ := lb_some hF
  refine aw_pFi (k := 0) hC hbt hS dX1_clear_3 lkRX1_9 (by decide) rfl rfl rfl ?_
  replace hS : FX L0 n h1 := by rw [eh1]; exact fx_st hS (by have := hS.1; omega)
  refine aw_eqH eh1 ?_
  clear eh1
  refine aw_aload_n hC dX1_clear_6 rfl ?_
  refine aw_bipush hC dX1_clear_7 (by decide) (by decide) ?_
  obtain ⟨h3, eh3, hF⟩ := lb_some hF
  refine aw_pFi (k := 1) hC hbt hS dX1_clear_9 lkRX1_15 (by decide) rfl rfl rfl ?_
  replace hS : FX L0 n h3 := by rw [eh3]; exact fx_st hS (by have := hS.1; omega)
  refine aw_eqH eh3 ?_
  clear eh3
  refine aw_aload_n hC dX1_clear_12 rfl ?_
  refine aw_iconst hC dX1_clear_13 (by decide) ?_
  obtain ⟨h4, eh4, hF⟩ := lb_some hF
  refine aw_pFi (k := 3) hC hbt hS dX1_clear_14 lkRX1_43 (by decide) rfl rfl rfl ?_
  replace hS : FX L0 n h4 := by rw [eh4]; exact fx_st hS (by have := hS.1; omega)
  refine aw_eqH eh4 ?_
  clear eh4
  refine aw_aload_n hC dX1_clear_17 rfl ?_
  refine aw_iconst hC dX1_clear_18 (by decide) ?_
  obtain ⟨h5, eh5, hF⟩ := lb_some hF
  refine aw_pFi (k := 6) hC hbt hS dX1_clear_19 lkRX1_46 (by decide) rfl rfl rfl ?_
  replace hS : FX L0 n h5 := by rw [eh5]; exact fx_st hS (by have := hS.1; omega)
  refine aw_eqH eh5 ?_
  clear eh5
  refine aw_aload_n hC dX1_clear_22 rfl ?_
  refine aw_iconst hC dX1_clear_23 (by decide) ?_
  obtain ⟨h6, eh6, hF⟩ := lb_some hF
  refine aw_pFi (k := 8) hC hbt hS dX1_clear_24 lkRX1_49 (by decide) rfl rfl rfl ?_
  replace hS : FX L0 n h6 := by rw [eh6]; exact fx_st hS (by have := hS.1; omega)
  refine aw_eqH eh6 ?_
  clear eh6
  refine aw_iconst hC dX1_clear_27 (by decide) ?_
  refine aw_istore1 hC dX1_clear_28 rfl ?_
  obtain ⟨e12, he, hF⟩ := bp_some hF
  refine fF_clear_l29_ok hC hZ hRm hbt hr FU _ _ e12 he hS (fun h13 er hS => ?_)
  replace er := er.symm
  subst er
  try dsimp only at hF
  refine aw_iconst hC dX1_clear_51 (by decide) ?_
  refine aw_istore1 hC dX1_clear_52 rfl ?_
  obtain ⟨e19, he, hF⟩ := bp_some hF
  refine fF_clear_l53_ok hC hZ hRm hbt hr FU _ _ e19 he hS (fun h20 er hS => ?_)
  replace er := er.symm
  subst er
  try dsimp only at hF
  refine aw_iconst hC dX1_clear_75 (by decide) ?_
  refine aw_istore1 hC dX1_clear_76 rfl ?_
  obtain ⟨e26, he, hF⟩ := bp_some hF
  refine fF_clear_l77_ok hC hZ hRm hbt hr FU _ _ e26 he hS (fun h27 er hS => ?_)
  replace er := er.symm
  subst er
  try dsimp only at hF
  refine aw_aload_n hC dX1_clear_98 rfl ?_
  obtain ⟨k28, hF⟩ := gd_some hF
  refine aw_gF7 hC hS dX1_clear_99 lkRX1_37 ?_
  refine aw_bipush hC dX1_clear_102 (by decide) (by decide) ?_
  refine aw_iconst hC dX1_clear_104 (by decide) ?_
  obtain ⟨g29, hF⟩ := gd_some hF
  obtain ⟨h30, eh30, hF⟩ := lb_some hF
  refine aw_iastore (a := (Int.toNat (L0 + 7))) hC dX1_clear_105 (lnd7 k28).1 (lnd7 k28).2.1 (Or.inr (by have := hS.2.1; have := hS.1; omega)) g29.1 g29.2 ?_
  replace hS : FX L0 n h30 := by rw [eh30]; exact fx_st hS (by have := hS.1; omega)
  refine aw_eqH eh30 ?_
  clear eh30
  exact aw_return hC hZ (Nat.zero_le _) (Nat.zero_le _) hr dX1_clear_106 (hK _ _ (Option.some.inj hF).symm)
