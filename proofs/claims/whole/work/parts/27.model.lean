def fX6_duchy_l106 (x2 : Int) (h : Hp) : Option ((Int × Hp) ⊕ (Hp)) :=
  (if 64 ≤ x2 then some (.inr h) else gd_ (0 ≤ x2 ∧ x2 < 64) (lb_ (st h 44 (Int.toNat x2) 0) (fun h23 => some (.inl ((i_add x2 1), h23)))))
def fX6_duchy_l174  (h : Hp) : Option ((Hp) ⊕ (Hp)) :=
  bp_ (fX6_isGood h) (fun r33 => (if r33 = 0 then some (.inr h) else (if (h 35 19) = 0 then some (.inr h) else bd_ (fX6_line h) (fun r37 h39 => some (.inl h39)))))
def fX6_duchy_l271 (x2 : Int) (h : Hp) : Option ((Int × Hp) ⊕ (Hp)) :=
  (if 6 ≤ x2 then some (.inr h) else gd_ (0 ≤ x2 ∧ x2 < 6) (gd_ (0 ≤ x2 ∧ x2 < 7) (lb_ (st h 37 (Int.toNat x2) ((h 46 (Int.toNat x2)))) (fun h56 => gd_ (0 ≤ x2 ∧ x2 < 6) (gd_ (0 ≤ x2 ∧ x2 < 7) (lb_ (st h56 38 (Int.toNat x2) ((h56 47 (Int.toNat x2)))) (fun h59 => gd_ (0 ≤ x2 ∧ x2 < 6) (gd_ (0 ≤ (i_add 36 x2) ∧ (i_add 36 x2) < 62) (lb_ (st h59 54 (Int.toNat ((i_add 36 x2))) ((h59 48 (Int.toNat x2)))) (fun h62 => gd_ (0 ≤ (i_add 42 x2) ∧ (i_add 42 x2) < 62) (lb_ (st h62 54 (Int.toNat ((i_add 42 x2))) 0) (fun h64 => gd_ (0 ≤ (i_add 48 x2) ∧ (i_add 48 x2) < 62) (lb_ (st h64 54 (Int.toNat ((i_add 48 x2))) 0) (fun h66 => gd_ (0 ≤ (i_add 54 x2) ∧ (i_add 54 x2) < 62) (lb_ (st h66 54 (Int.toNat ((i_add 54 x2))) 0) (fun h68 => some (.inl ((i_add x2 1), h68))))))))))))))))))
def fX6_duchy_j423 (x2 : Int) (z0 : Int) (z1 : Int) (h : Hp) : Option ((Int × Hp) ⊕ (Hp)) :=
  gd_ (0 ≤ z1 ∧ z1 < 62) (lb_ (st h 54 (Int.toNat z1) z0) (fun h84 => gd_ (0 ≤ (i_add ((i_mul 3 x2)) 1) ∧ (i_add ((i_mul 3 x2)) 1) < 36) (gd_ (0 ≤ (i_add 12 x2) ∧ (i_add 12 x2) < 62) (lb_ (st h84 54 (Int.toNat ((i_add 12 x2))) ((h84 45 (Int.toNat ((i_add ((i_mul 3 x2)) 1)))))) (fun h87 => gd_ (0 ≤ (i_add ((i_mul 3 x2)) 2) ∧ (i_add ((i_mul 3 x2)) 2) < 36) (gd_ (0 ≤ (i_add 24 x2) ∧ (i_add 24 x2) < 62) (lb_ (st h87 54 (Int.toNat ((i_add 24 x2))) ((h87 45 (Int.toNat ((i_add ((i_mul 3 x2)) 2)))))) (fun h90 => some (.inl ((i_add x2 1), h90))))))))))
def fX6_duchy_l390 (x2 : Int) (h : Hp) : Option ((Int × Hp) ⊕ (Hp)) :=
  (if 12 ≤ x2 then some (.inr h) else (if (h 35 27) ≤ x2 then fX6_duchy_j423 x2 ((-1)) ((i_add 0 x2)) h else gd_ (0 ≤ (i_mul 3 x2) ∧ (i_mul 3 x2) < 36) (fX6_duchy_j423 x2 ((h 45 (Int.toNat ((i_mul 3 x2))))) ((i_add 0 x2)) h)))
def fX6_duchy_j486 (z0 : Int) (z1 : Int) (h : Hp) : Option (Int × Hp) :=
  gd_ (0 ≤ z1 ∧ z1 < 62) (lb_ (st h 54 (Int.toNat z1) z0) (fun h97 => gd_ (0 ≤ (61 : Int) ∧ (61 : Int) < 62) (lb_ (st h97 54 (Int.toNat 61) 0) (fun h99 => lb_ (st h99 35 49 0) (fun h100 => lb_ (st h100 35 65 0) (fun h101 => lb_ (st h101 35 59 ((-1))) (fun h102 => lb_ (st h102 35 61 0) (fun h103 => lb_ (st h103 35 68 0) (fun h104 => some (0, h104))))))))))
def fX6_duchy_j195  (h : Hp) : Option (Int × Hp) :=
  bp_ (fX6_isGood h) (fun r42 => (if r42 = 0 then gd_ (0 ≤ (0 : Int) ∧ (0 : Int) < 3) (gd_ (0 ≤ (0 : Int) ∧ (0 : Int) < 3) (lb_ (st h 43 (Int.toNat 0) ((i_add ((h 43 (Int.toNat 0))) 1))) (fun h107 => some ((h107 35 14), h107)))) else lb_ (st h 35 1 ((h 35 25))) (fun h45 => lb_ (st h45 35 2 ((h45 35 26))) (fun h46 => lb_ (st h46 35 3 ((h46 35 28))) (fun h47 => lb_ (st h47 35 4 ((h47 35 29))) (fun h48 => lb_ (st h48 35 5 ((h48 35 30))) (fun h49 => bd_ (fX6_copies_44_36 h49) (fun r50 h52 => bp_ (it_ (fun s => fX6_duchy_l271 s.1 s.2) FU (0, h52)) (fun e70 => (fun h71 => bd_ (fX6_copies_49_39 h71) (fun r72 h74 => bd_ (fX6_copies_50_40 h74) (fun r75 h77 => bd_ (fX6_copies_51_41 h77) (fun r78 h80 => bp_ (it_ (fun s => fX6_duchy_l390 s.1 s.2) FU (0, h80)) (fun e93 => (fun h94 => (if (h94 35 4) ≤ 0 then fX6_duchy_j486 ((-1)) 60 h94 else fX6_duchy_j486 0 60 h94)) e93))))) e70)))))))))
def fX6_duchy_j23 (x1 : Int) (z0 : Int) (h : Hp) : Option (Int × Hp) :=
  bd_ (fX6_right z0 1 h) (fun r3 h5 => (if r3 = 0 then some (0, h5) else lb_ (st h5 35 13 0) (fun h7 => lb_ (st h7 35 15 ((-1))) (fun h8 => lb_ (st h8 35 14 0) (fun h9 => lb_ (st h9 35 17 x1) (fun h10 => lb_ (st h10 35 18 0) (fun h11 => lb_ (st h11 35 25 8) (fun h12 => lb_ (st h12 35 26 8) (fun h13 => lb_ (st h13 35 27 0) (fun h14 => lb_ (st h14 35 28 0) (fun h15 => lb_ (st h15 35 29 0) (fun h16 => lb_ (st h16 35 30 0) (fun h17 => lb_ (st h17 35 34 0) (fun h18 => lb_ (st h18 35 35 0) (fun h19 => lb_ (st h19 35 31 0) (fun h20 => bp_ (it_ (fun s => fX6_duchy_l106 s.1 s.2) FU (0, h20)) (fun e25 => (fun h26 => bd_ (fX6_goes h26) (fun r27 h29 => bp_ (fX6_knownWord h29) (fun r30 => (if r30 = 10 then bd_ (fX6_goes h29) (fun r108 h110 => bd_ (fX6_number 1 8 h110) (fun r111 h113 => lb_ (st h113 35 25 r111) (fun h114 => bd_ (fX6_number 1 8 h114) (fun r115 h117 => lb_ (st h117 35 26 r115) (fun h118 => bp_ (fX6_isSign 59 h118) (fun r119 => bd_ (fX6_need r119 h118) (fun r121 h123 => bp_ (it_ (fun s => fX6_duchy_l174 s) FU h123) (fun e124 => (fun h125 => fX6_duchy_j195 h125) e124)))))))) else bp_ (it_ (fun s => fX6_duchy_l174 s) FU h29) (fun e40 => (fun h41 => fX6_duchy_j195 h41) e40))))) e25)))))))))))))))))
def fX6_duchy_j22 (x1 : Int) (h : Hp) : Option (Int × Hp) :=
  fX6_duchy_j23 x1 0 h
def fX6_duchy (x1 : Int) (h : Hp) : Option (Int × Hp) :=
  lb_ (st h 35 0 0) (fun h1 => (if x1 < 0 then fX6_duchy_j22 x1 h1 else (if (h1 35 13) < x1 then fX6_duchy_j22 x1 h1 else fX6_duchy_j23 x1 1 h1)))
theorem fX6_duchy_l106_ok {G : GD} {X : CX} {n : Nat} {Q : Av → Nat → Hp → Prop} (hC : Cx G X RX6 cX6_duchy) (hZ : ZOK X G Q 0 0) (hRm : X.R = rmd 7 0 0) (hbt : X.bt = true) (hr : X.meth.sig.returnType = (some .int))  : ∀ (f : Nat) (x2 : Int) (h : Hp) (r : Hp), it_ (fun s => fX6_duchy_l106 s.1 s.2) f (x2, h) = some r → (∀ (h9 : Hp), r = h9 → AW G X 125 [(2, ((35 : Nat) : Int)), (9, 0), (9, 0)] [] n h9 0 0) → AW G X 106 [(2, ((35 : Nat) : Int)), (9, 0), (0, x2)] [] n h 0 0 := by
  intro f
  induction f with
  | zero => intro x2 h r hI; cases hI
  | succ f ih0 =>
    intro x2 h r hI hX
    obtain ⟨b, hF, hb1, hb2⟩ := it_succ hI
    have hF : fX6_duchy_l106 x2 h = some b := hF
    unfold fX6_duchy_l106 at hF
    refine aw_iload_n hC dX6_duchy_106 rfl ?_
    refine aw_bipush hC dX6_duchy_107 (by decide) (by decide) ?_
    refine aw_icmp_ge (tgt := 125) hC dX6_duchy_109 (by decide) (fun c21 => ?_) (fun c21 => ?_)
    · have hF := it_t hF c21
      refine aw_weak (ls' := [(2, ((35 : Nat) : Int)), (9, 0), (9, 0)]) ⟨Or.inr rfl, Or.inl rfl, Or.inl rfl, trivial⟩ ?_
      exact hX _ (hb2 _ (Option.some.inj hF).symm).symm
    · have hF := it_f hF c21
      refine aw_aload_n hC dX6_duchy_112 rfl ?_
      refine aw_gc6 (k := 36) (a := 35) (b := 44) hC hbt dX6_duchy_113 lkRX6_44 (by decide) rfl rfl rfl (by decide) (by decide) ?_
      refine aw_iload_n hC dX6_duchy_116 rfl ?_
      refine aw_iconst hC dX6_duchy_117 (by decide) ?_
      obtain ⟨g22, hF⟩ := gd_some hF
      obtain ⟨h23, eh23, hF⟩ := lb_some hF
      refine aw_iastore (a := 44) hC dX6_duchy_118 rfl rfl (Or.inl ⟨hbt, by decide⟩) g22.1 g22.2 ?_
      refine aw_eqH eh23 ?_
      clear eh23
      refine aw_iinc2 hC dX6_duchy_119 rfl ?_
      refine aw_goto (tgt := 106) hC dX6_duchy_122 (by decide) ?_
      exact ih0 _ _ r (hb1 _ (Option.some.inj hF).symm) hX
theorem fX6_duchy_l174_ok {G : GD} {X : CX} {n : Nat} {Q : Av → Nat → Hp → Prop} (hC : Cx G X RX6 cX6_duchy) (hZ : ZOK X G Q 0 0) (hRm : X.R = rmd 7 0 0) (hbt : X.bt = true) (hr : X.meth.sig.returnType = (some .int))  : ∀ (f : Nat) (h : Hp) (r : Hp), it_ (fun s => fX6_duchy_l174 s) f h = some r → (∀ (h9 : Hp), r = h9 → AW G X 195 [(2, ((35 : Nat) : Int)), (9, 0), (9, 0)] [] n h9 0 0) → AW G X 174 [(2, ((35 : Nat) : Int)), (9, 0), (9, 0)] [] n h 0 0 := by
  intro f
  induction f with
  | zero => intro h r hI; cases hI
  | succ f ih0 =>
    intro h r hI hX
    obtain ⟨b, hF, hb1, hb2⟩ := it_succ hI
    have hF : fX6_duchy_l174 h = some b := hF
    unfold fX6_duchy_l174 at hF
    refine aw_aload_n hC dX6_duchy_174 rfl ?_
    obtain ⟨r33, q34, hF⟩ := bp_some hF
    refine clRX6_188 hC hRm hbt dX6_duchy_175 rfl rfl (by decide) (Nat.le_of_ble_eq_true rfl) (Nat.le_of_ble_eq_true rfl) (ok_X6_isGood q34) ?_
    refine aw_if_eq (tgt := 195) hC dX6_duchy_178 (by decide) (fun c35 => ?_) (fun c35 => ?_)
    · have hF := it_t hF c35
      exact hX _ (hb2 _ (Option.some.inj hF).symm).symm
    · have hF := it_f hF c35
      refine aw_aload_n hC dX6_duchy_181 rfl ?_
      refine aw_g6i (k := 19) (a := 35) hC dX6_duchy_182 lkRX6_162 (by decide) rfl rfl rfl (Or.inl ⟨hbt, by decide⟩) ?_
      refine aw_if_eq (tgt := 195) hC dX6_duchy_185 (by decide) (fun c36 => ?_) (fun c36 => ?_)
      · have hF := it_t hF c36
        exact hX _ (hb2 _ (Option.some.inj hF).symm).symm
      · have hF := it_f hF c36
        refine aw_aload_n hC dX6_duchy_188 rfl ?_
        obtain ⟨r37, h39, q38, hF⟩ := bd_some hF
        refine clRX6_294 hC hRm hbt dX6_duchy_189 rfl rfl (by decide) (Nat.le_of_ble_eq_true rfl) (Nat.le_of_ble_eq_true rfl) (ok_X6_line q38) ?_
        refine aw_goto (tgt := 174) hC dX6_duchy_192 (by decide) ?_
        exact ih0 _ r (hb1 _ (Option.some.inj hF).symm) hX
theorem fX6_duchy_l271_ok {G : GD} {X : CX} {n : Nat} {Q : Av → Nat → Hp → Prop} (hC : Cx G X RX6 cX6_duchy) (hZ : ZOK X G Q 0 0) (hRm : X.R = rmd 7 0 0) (hbt : X.bt = true) (hr : X.meth.sig.returnType = (some .int))  : ∀ (f : Nat) (x2 : Int) (h : Hp) (r : Hp), it_ (fun s => fX6_duchy_l271 s.1 s.2) f (x2, h) = some r → (∀ (h9 : Hp), r = h9 → AW G X 352 [(2, ((35 : Nat) : Int)), (9, 0), (9, 0)] [] n h9 0 0) → AW G X 271 [(2, ((35 : Nat) : Int)), (9, 0), (0, x2)] [] n h 0 0 := by
  intro f
  induction f with
  | zero => intro x2 h r hI; cases hI
  | succ f ih0 =>
    intro x2 h r hI hX
    obtain ⟨b, hF, hb1, hb2⟩ := it_succ hI
    have hF : fX6_duchy_l271 x2 h = some b := hF
    unfold fX6_duchy_l271 at hF
    refine aw_iload_n hC dX6_duchy_271 rfl ?_
    refine aw_bipush hC dX6_duchy_272 (by decide) (by decide) ?_
    refine aw_icmp_ge (tgt := 352) hC dX6_duchy_274 (by decide) (fun c53 => ?_) (fun c53 => ?_)
    · have hF := it_t hF c53
      refine aw_weak (ls' := [(2, ((35 : Nat) : Int)), (9, 0), (9, 0)]) ⟨Or.inr rfl, Or.inl rfl, Or.inl rfl, trivial⟩ ?_
      exact hX _ (hb2 _ (Option.some.inj hF).symm).symm
    · have hF := it_f hF c53
      refine aw_aload_n hC dX6_duchy_277 rfl ?_
      refine aw_gc6 (k := 7) (a := 35) (b := 37) hC hbt dX6_duchy_278 lkRX6_20 (by decide) rfl rfl rfl (by decide) (by decide) ?_
      refine aw_iload_n hC dX6_duchy_281 rfl ?_
      refine aw_aload_n hC dX6_duchy_282 rfl ?_
      refine aw_gc6 (k := 38) (a := 35) (b := 46) hC hbt dX6_duchy_283 lkRX6_50 (by decide) rfl rfl rfl (by decide) (by decide) ?_
      refine aw_iload_n hC dX6_duchy_286 rfl ?_
      obtain ⟨g54, hF⟩ := gd_some hF
      refine aw_iaload (a := 46) hC dX6_duchy_287 rfl rfl (Or.inl ⟨hbt, by decide⟩) g54.1 g54.2 ?_
      obtain ⟨g55, hF⟩ := gd_some hF
      obtain ⟨h56, eh56, hF⟩ := lb_some hF
      refine aw_iastore (a := 37) hC dX6_duchy_288 rfl rfl (Or.inl ⟨hbt, by decide⟩) g55.1 g55.2 ?_
      refine aw_eqH eh56 ?_
      clear eh56
      refine aw_aload_n hC dX6_duchy_289 rfl ?_
      refine aw_gc6 (k := 8) (a := 35) (b := 38) hC hbt dX6_duchy_290 lkRX6_23 (by decide) rfl rfl rfl (by decide) (by decide) ?_
      refine aw_iload_n hC dX6_duchy_293 rfl ?_
      refine aw_aload_n hC dX6_duchy_294 rfl ?_
      refine aw_gc6 (k := 39) (a := 35) (b := 47) hC hbt dX6_duchy_295 lkRX6_53 (by decide) rfl rfl rfl (by decide) (by decide) ?_
      refine aw_iload_n hC dX6_duchy_298 rfl ?_
      obtain ⟨g57, hF⟩ := gd_some hF
      refine aw_iaload (a := 47) hC dX6_duchy_299 rfl rfl (Or.inl ⟨hbt, by decide⟩) g57.1 g57.2 ?_
      obtain ⟨g58, hF⟩ := gd_some hF
      obtain ⟨h59, eh59, hF⟩ := lb_some hF
      refine aw_iastore (a := 38) hC dX6_duchy_300 rfl rfl (Or.inl ⟨hbt, by decide⟩) g58.1 g58.2 ?_
      refine aw_eqH eh59 ?_
      clear eh59
      refine aw_aload_n hC dX6_duchy_301 rfl ?_
      refine aw_gc6 (k := 46) (a := 35) (b := 54) hC hbt dX6_duchy_302 lkRX6_75 (by decide) rfl rfl rfl (by decide) (by decide) ?_
      refine aw_bipush hC dX6_duchy_305 (by decide) (by decide) ?_
      refine aw_iload_n hC dX6_duchy_307 rfl ?_
      refine aw_iadd hC dX6_duchy_308 ?_
      refine aw_aload_n hC dX6_duchy_309 rfl ?_
      refine aw_gc6 (k := 40) (a := 35) (b := 48) hC hbt dX6_duchy_310 lkRX6_56 (by decide) rfl rfl rfl (by decide) (by decide) ?_
      refine aw_iload_n hC dX6_duchy_313 rfl ?_
      obtain ⟨g60, hF⟩ := gd_some hF
      refine aw_iaload (a := 48) hC dX6_duchy_314 rfl rfl (Or.inl ⟨hbt, by decide⟩) g60.1 g60.2 ?_
      obtain ⟨g61, hF⟩ := gd_some hF
      obtain ⟨h62, eh62, hF⟩ := lb_some hF
      refine aw_iastore (a := 54) hC dX6_duchy_315 rfl rfl (Or.inl ⟨hbt, by decide⟩) g61.1 g61.2 ?_
      refine aw_eqH eh62 ?_
      clear eh62
      refine aw_aload_n hC dX6_duchy_316 rfl ?_
      refine aw_gc6 (k := 46) (a := 35) (b := 54) hC hbt dX6_duchy_317 lkRX6_75 (by decide) rfl rfl rfl (by decide) (by decide) ?_
      refine aw_bipush hC dX6_duchy_320 (by decide) (by decide) ?_
      refine aw_iload_n hC dX6_duchy_322 rfl ?_
      refine aw_iadd hC dX6_duchy_323 ?_
      refine aw_iconst hC dX6_duchy_324 (by decide) ?_
      obtain ⟨g63, hF⟩ := gd_some hF
      obtain ⟨h64, eh64, hF⟩ := lb_some hF
      refine aw_iastore (a := 54) hC dX6_duchy_325 rfl rfl (Or.inl ⟨hbt, by decide⟩) g63.1 g63.2 ?_
      refine aw_eqH eh64 ?_
      clear eh64
      refine aw_aload_n hC dX6_duchy_326 rfl ?_
      refine aw_gc6 (k := 46) (a := 35) (b := 54) hC hbt dX6_duchy_327 lkRX6_75 (by decide) rfl rfl rfl (by decide) (by decide) ?_
      refine aw_bipush hC dX6_duchy_330 (by decide) (by decide) ?_
      refine aw_iload_n hC dX6_duchy_332 rfl ?_
      refine aw_iadd hC dX6_duchy_333 ?_
      refine aw_iconst hC dX6_duchy_334 (by decide) ?_
      obtain ⟨g65, hF⟩ := gd_some hF
      obtain ⟨h66, eh66, hF⟩ := lb_some hF
      refine aw_iastore (a := 54) hC dX6_duchy_335 rfl rfl (Or.inl ⟨hbt, by decide⟩) g65.1 g65.2 ?_
      refine aw_eqH eh66 ?_
      clear eh66
      refine aw_aload_n hC dX6_duchy_336 rfl ?_
      refine aw_gc6 (k := 46) (a := 35) (b := 54) hC hbt dX6_duchy_337 lkRX6_75 (by decide) rfl rfl rfl (by decide) (by decide) ?_
      refine aw_bipush hC dX6_duchy_340 (by decide) (by decide) ?_
      refine aw_iload_n hC dX6_duchy_342 rfl ?_
      refine aw_iadd hC dX6_duchy_343 ?_
      refine aw_iconst hC dX6_duchy_344 (by decide) ?_
      obtain ⟨g67, hF⟩ := gd_some hF
      obtain ⟨h68, eh68, hF⟩ := lb_some hF
      refine aw_iastore (a := 54) hC dX6_duchy_345 rfl rfl (Or.inl ⟨hbt, by decide⟩) g67.1 g67.2 ?_
      refine aw_eqH eh68 ?_
      clear eh68
      refine aw_iinc2 hC dX6_duchy_346 rfl ?_
      refine aw_goto (tgt := 271) hC dX6_duchy_349 (by decide) ?_
      exact ih0 _ _ r (hb1 _ (Option.some.inj hF).symm) hX
theorem fX6_duchy_j423_ok {G : GD} {X : CX} {n : Nat} {Q : Av → Nat → Hp → Prop} (hC : Cx G X RX6 cX6_duchy) (hZ : ZOK X G Q 0 0) (hRm : X.R = rmd 7 0 0) (hbt : X.bt = true) (hr : X.meth.sig.returnType = (some .int)) {x2 : Int} {z0 : Int} {z1 : Int} {h : Hp} {b : (Int × Hp) ⊕ (Hp)} (hF : fX6_duchy_j423 x2 z0 z1 h = some b) (hL9 : ∀ (u2 : Int) (h9 : Hp), b = .inl (u2, h9) → AW G X 390 [(2, ((35 : Nat) : Int)), (9, 0), (0, u2)] [] n h9 0 0) (hX9 : ∀ (h9 : Hp), b = .inr h9 → AW G X 468 [(2, ((35 : Nat) : Int)), (9, 0), (9, 0)] [] n h9 0 0) : AW G X 423 [(2, ((35 : Nat) : Int)), (9, 0), (0, x2)] [(0, z0), (0, z1), (2, ((54 : Nat) : Int))] n h 0 0 := by
  unfold fX6_duchy_j423 at hF
  obtain ⟨g83, hF⟩ := gd_some hF
  obtain ⟨h84, eh84, hF⟩ := lb_some hF
  refine aw_iastore (a := 54) hC dX6_duchy_423 rfl rfl (Or.inl ⟨hbt, by decide⟩) g83.1 g83.2 ?_
  refine aw_eqH eh84 ?_
  clear eh84
  refine aw_aload_n hC dX6_duchy_424 rfl ?_
  refine aw_gc6 (k := 46) (a := 35) (b := 54) hC hbt dX6_duchy_425 lkRX6_75 (by decide) rfl rfl rfl (by decide) (by decide) ?_
  refine aw_bipush hC dX6_duchy_428 (by decide) (by decide) ?_
  refine aw_iload_n hC dX6_duchy_430 rfl ?_
  refine aw_iadd hC dX6_duchy_431 ?_
  refine aw_aload_n hC dX6_duchy_432 rfl ?_
  refine aw_gc6 (k := 37) (a := 35) (b := 45) hC hbt dX6_duchy_433 lkRX6_47 (by decide) rfl rfl rfl (by decide) (by decide) ?_
  refine aw_iconst hC dX6_duchy_436 (by decide) ?_
  refine aw_iload_n hC dX6_duchy_437 rfl ?_
  refine aw_imul hC dX6_duchy_438 ?_
  refine aw_iconst hC dX6_duchy_439 (by decide) ?_
  refine aw_iadd hC dX6_duchy_440 ?_
  obtain ⟨g85, hF⟩ := gd_some hF
  refine aw_iaload (a := 45) hC dX6_duchy_441 rfl rfl (Or.inl ⟨hbt, by decide⟩) g85.1 g85.2 ?_
  obtain ⟨g86, hF⟩ := gd_some hF
  obtain ⟨h87, eh87, hF⟩ := lb_some hF
  refine aw_iastore (a := 54) hC dX6_duchy_442 rfl rfl (Or.inl ⟨hbt, by decide⟩) g86.1 g86.2 ?_
  refine aw_eqH eh87 ?_
  clear eh87
  refine aw_aload_n hC dX6_duchy_443 rfl ?_
  refine aw_gc6 (k := 46) (a := 35) (b := 54) hC hbt dX6_duchy_444 lkRX6_75 (by decide) rfl rfl rfl (by decide) (by decide) ?_
  refine aw_bipush hC dX6_duchy_447 (by decide) (by decide) ?_
  refine aw_iload_n hC dX6_duchy_449 rfl ?_
  refine aw_iadd hC dX6_duchy_450 ?_
  refine aw_aload_n hC dX6_duchy_451 rfl ?_
  refine aw_gc6 (k := 37) (a := 35) (b := 45) hC hbt dX6_duchy_452 lkRX6_47 (by decide) rfl rfl rfl (by decide) (by decide) ?_
  refine aw_iconst hC dX6_duchy_455 (by decide) ?_
  refine aw_iload_n hC dX6_duchy_456 rfl ?_
  refine aw_imul hC dX6_duchy_457 ?_
  refine aw_iconst hC dX6_duchy_458 (by decide) ?_
  refine aw_iadd hC dX6_duchy_459 ?_
  obtain ⟨g88, hF⟩ := gd_some hF
  refine aw_iaload (a := 45) hC dX6_duchy_460 rfl rfl (Or.inl ⟨hbt, by decide⟩) g88.1 g88.2 ?_
  obtain ⟨g89, hF⟩ := gd_some hF
  obtain ⟨h90, eh90, hF⟩ := lb_some hF
  refine aw_iastore (a := 54) hC dX6_duchy_461 rfl rfl (Or.inl ⟨hbt, by decide⟩) g89.1 g89.2 ?_
  refine aw_eqH eh90 ?_
  clear eh90
  refine aw_iinc2 hC dX6_duchy_462 rfl ?_
  refine aw_goto (tgt := 390) hC dX6_duchy_465 (by decide) ?_
  exact hL9 _ _ (Option.some.inj hF).symm
theorem fX6_duchy_l390_ok {G : GD} {X : CX} {n : Nat} {Q : Av → Nat → Hp → Prop} (hC : Cx G X RX6 cX6_duchy) (hZ : ZOK X G Q 0 0) (hRm : X.R = rmd 7 0 0) (hbt : X.bt = true) (hr : X.meth.sig.returnType = (some .int))  : ∀ (f : Nat) (x2 : Int) (h : Hp) (r : Hp), it_ (fun s => fX6_duchy_l390 s.1 s.2) f (x2, h) = some r → (∀ (h9 : Hp), r = h9 → AW G X 468 [(2, ((35 : Nat) : Int)), (9, 0), (9, 0)] [] n h9 0 0) → AW G X 390 [(2, ((35 : Nat) : Int)), (9, 0), (0, x2)] [] n h 0 0 := by
  intro f
  induction f with
  | zero => intro x2 h r hI; cases hI
  | succ f ih0 =>
    intro x2 h r hI hX
    obtain ⟨b, hF, hb1, hb2⟩ := it_succ hI
    have hF : fX6_duchy_l390 x2 h = some b := hF
    unfold fX6_duchy_l390 at hF
    refine aw_iload_n hC dX6_duchy_390 rfl ?_
    refine aw_bipush hC dX6_duchy_391 (by decide) (by decide) ?_
    refine aw_icmp_ge (tgt := 468) hC dX6_duchy_393 (by decide) (fun c81 => ?_) (fun c81 => ?_)
    · have hF := it_t hF c81
      refine aw_weak (ls' := [(2, ((35 : Nat) : Int)), (9, 0), (9, 0)]) ⟨Or.inr rfl, Or.inl rfl, Or.inl rfl, trivial⟩ ?_
      exact hX _ (hb2 _ (Option.some.inj hF).symm).symm
    · have hF := it_f hF c81
      refine aw_aload_n hC dX6_duchy_396 rfl ?_
      refine aw_gc6 (k := 46) (a := 35) (b := 54) hC hbt dX6_duchy_397 lkRX6_75 (by decide) rfl rfl rfl (by decide) (by decide) ?_
      refine aw_iconst hC dX6_duchy_400 (by decide) ?_
      refine aw_iload_n hC dX6_duchy_401 rfl ?_
      refine aw_iadd hC dX6_duchy_402 ?_
      refine aw_iload_n hC dX6_duchy_403 rfl ?_
      refine aw_aload_n hC dX6_duchy_404 rfl ?_
      refine aw_g6i (k := 27) (a := 35) hC dX6_duchy_405 lkRX6_269 (by decide) rfl rfl rfl (Or.inl ⟨hbt, by decide⟩) ?_
      refine aw_icmp_ge (tgt := 422) hC dX6_duchy_408 (by decide) (fun c82 => ?_) (fun c82 => ?_)
      · have hF := it_t hF c82
        refine aw_iconst hC dX6_duchy_422 (by decide) ?_
        exact fX6_duchy_j423_ok hC hZ hRm hbt hr hF (fun u0 u1 e => ih0 u0 u1 r (hb1 _ e) hX) (fun w0 e => hX w0 (hb2 _ e).symm)
      · have hF := it_f hF c82
        refine aw_aload_n hC dX6_duchy_411 rfl ?_
        refine aw_gc6 (k := 37) (a := 35) (b := 45) hC hbt dX6_duchy_412 lkRX6_47 (by decide) rfl rfl rfl (by decide) (by decide) ?_
        refine aw_iconst hC dX6_duchy_415 (by decide) ?_
        refine aw_iload_n hC dX6_duchy_416 rfl ?_
        refine aw_imul hC dX6_duchy_417 ?_
        obtain ⟨g92, hF⟩ := gd_some hF
        refine aw_iaload (a := 45) hC dX6_duchy_418 rfl rfl (Or.inl ⟨hbt, by decide⟩) g92.1 g92.2 ?_
        refine aw_goto (tgt := 423) hC dX6_duchy_419 (by decide) ?_
        exact fX6_duchy_j423_ok hC hZ hRm hbt hr hF (fun u0 u1 e => ih0 u0 u1 r (hb1 _ e) hX) (fun w0 e => hX w0 (hb2 _ e).symm)
theorem fX6_duchy_j486_ok {G : GD} {X : CX} {n : Nat} {Q : Av → Nat → Hp → Prop} (hC : Cx G X RX6 cX6_duchy) (hZ : ZOK X G Q 0 0) (hRm : X.R = rmd 7 0 0) (hbt : X.bt = true) (hr : X.meth.sig.returnType = (some .int)) {z0 : Int} {z1 : Int} {h : Hp} {res : Int × Hp} (hF : fX6_duchy_j486 z0 z1 h = some res) (hK : ∀ (x9 : Int) (h9 : Hp), res = (x9, h9) → Q (0, x9) n h9) : AW G X 486 [(2, ((35 : Nat) : Int)), (9, 0), (9, 0)] [(0, z0), (0, z1), (2, ((54 : Nat) : Int))] n h 0 0 := by
  unfold fX6_duchy_j486 at hF
  obtain ⟨g96, hF⟩ := gd_some hF
  obtain ⟨h97, eh97, hF⟩ := lb_some hF
  refine aw_iastore (a := 54) hC dX6_duchy_486 rfl rfl (Or.inl ⟨hbt, by decide⟩) g96.1 g96.2 ?_
  refine aw_eqH eh97 ?_
  clear eh97
  refine aw_aload_n hC dX6_duchy_487 rfl ?_
  refine aw_gc6 (k := 46) (a := 35) (b := 54) hC hbt dX6_duchy_488 lkRX6_75 (by decide) rfl rfl rfl (by decide) (by decide) ?_
  refine aw_bipush hC dX6_duchy_491 (by decide) (by decide) ?_
  refine aw_iconst hC dX6_duchy_493 (by decide) ?_
  obtain ⟨g98, hF⟩ := gd_some hF
  obtain ⟨h99, eh99, hF⟩ := lb_some hF
  refine aw_iastore (a := 54) hC dX6_duchy_494 rfl rfl (Or.inl ⟨hbt, by decide⟩) g98.1 g98.2 ?_
  refine aw_eqH eh99 ?_
  clear eh99
  refine aw_aload_n hC dX6_duchy_495 rfl ?_
  refine aw_iconst hC dX6_duchy_496 (by decide) ?_
  obtain ⟨h100, eh100, hF⟩ := lb_some hF
  refine aw_p6i (k := 49) (a := 35) hC dX6_duchy_497 lkRX6_310 (by decide) rfl rfl rfl rfl rfl (Or.inl ⟨hbt, by decide⟩) (fun _ => by decide) ?_
  refine aw_eqH eh100 ?_
  clear eh100
  refine aw_aload_n hC dX6_duchy_500 rfl ?_
  refine aw_iconst hC dX6_duchy_501 (by decide) ?_
  obtain ⟨h101, eh101, hF⟩ := lb_some hF
  refine aw_p6i (k := 65) (a := 35) hC dX6_duchy_502 lkRX6_313 (by decide) rfl rfl rfl rfl rfl (Or.inl ⟨hbt, by decide⟩) (fun _ => by decide) ?_
  refine aw_eqH eh101 ?_
  clear eh101
  refine aw_aload_n hC dX6_duchy_505 rfl ?_
  refine aw_iconst hC dX6_duchy_506 (by decide) ?_
  obtain ⟨h102, eh102, hF⟩ := lb_some hF
  refine aw_p6i (k := 59) (a := 35) hC dX6_duchy_507 lkRX6_102 (by decide) rfl rfl rfl rfl rfl (Or.inl ⟨hbt, by decide⟩) (fun _ => by decide) ?_
  refine aw_eqH eh102 ?_
  clear eh102
  refine aw_aload_n hC dX6_duchy_510 rfl ?_
  refine aw_iconst hC dX6_duchy_511 (by decide) ?_
  obtain ⟨h103, eh103, hF⟩ := lb_some hF
  refine aw_p6z (k := 61) (a := 35) hC dX6_duchy_512 lkRX6_316 (by decide) rfl rfl rfl rfl rfl (Or.inl ⟨hbt, by decide⟩) (by decide) (fun _ => by decide) ?_
  refine aw_eqH eh103 ?_
  clear eh103
  refine aw_aload_n hC dX6_duchy_515 rfl ?_
  refine aw_iconst hC dX6_duchy_516 (by decide) ?_
  obtain ⟨h104, eh104, hF⟩ := lb_some hF
  refine aw_p6z (k := 68) (a := 35) hC dX6_duchy_517 lkRX6_320 (by decide) rfl rfl rfl rfl rfl (Or.inl ⟨hbt, by decide⟩) (by decide) (fun _ => by decide) ?_
  refine aw_eqH eh104 ?_
  clear eh104
  refine aw_iconst hC dX6_duchy_520 (by decide) ?_
  exact aw_ireturn hC hZ (Nat.zero_le _) (Nat.zero_le _) hr dX6_duchy_521 (hK _ _ (Option.some.inj hF).symm)
theorem fX6_duchy_j195_ok {G : GD} {X : CX} {n : Nat} {Q : Av → Nat → Hp → Prop} (hC : Cx G X RX6 cX6_duchy) (hZ : ZOK X G Q 0 0) (hRm : X.R = rmd 7 0 0) (hbt : X.bt = true) (hr : X.meth.sig.returnType = (some .int))  {h : Hp} {res : Int × Hp} (hF : fX6_duchy_j195  h = some res) (hK : ∀ (x9 : Int) (h9 : Hp), res = (x9, h9) → Q (0, x9) n h9) : AW G X 195 [(2, ((35 : Nat) : Int)), (9, 0), (9, 0)] [] n h 0 0 := by
  unfold fX6_duchy_j195 at hF
  refine aw_aload_n hC dX6_duchy_195 rfl ?_
  obtain ⟨r42, q43, hF⟩ := bp_some hF
  refine clRX6_188 hC hRm hbt dX6_duchy_196 rfl rfl (by decide) (Nat.le_of_ble_eq_true rfl) (Nat.le_of_ble_eq_true rfl) (ok_X6_isGood q43) ?_
  refine aw_if_ne (tgt := 217) hC dX6_duchy_199 (by decide) (fun c44 => ?_) (fun c44 => ?_)
  · have hF := it_f hF c44
    refine aw_aload_n hC dX6_duchy_217 rfl ?_
    refine aw_aload_n hC dX6_duchy_218 rfl ?_
    refine aw_g6i (k := 25) (a := 35) hC dX6_duchy_219 lkRX6_249 (by decide) rfl rfl rfl (Or.inl ⟨hbt, by decide⟩) ?_
    obtain ⟨h45, eh45, hF⟩ := lb_some hF
    refine aw_p6i (k := 1) (a := 35) hC dX6_duchy_222 lkRX6_7 (by decide) rfl rfl rfl rfl rfl (Or.inl ⟨hbt, by decide⟩) (fun _ => by decide) ?_
    refine aw_eqH eh45 ?_
    clear eh45
    refine aw_aload_n hC dX6_duchy_225 rfl ?_
    refine aw_aload_n hC dX6_duchy_226 rfl ?_
    refine aw_g6i (k := 26) (a := 35) hC dX6_duchy_227 lkRX6_256 (by decide) rfl rfl rfl (Or.inl ⟨hbt, by decide⟩) ?_
    obtain ⟨h46, eh46, hF⟩ := lb_some hF
    refine aw_p6i (k := 2) (a := 35) hC dX6_duchy_230 lkRX6_13 (by decide) rfl rfl rfl rfl rfl (Or.inl ⟨hbt, by decide⟩) (fun _ => by decide) ?_
    refine aw_eqH eh46 ?_
    clear eh46
    refine aw_aload_n hC dX6_duchy_233 rfl ?_
    refine aw_aload_n hC dX6_duchy_234 rfl ?_
    refine aw_g6i (k := 28) (a := 35) hC dX6_duchy_235 lkRX6_275 (by decide) rfl rfl rfl (Or.inl ⟨hbt, by decide⟩) ?_
    obtain ⟨h47, eh47, hF⟩ := lb_some hF
    refine aw_p6i (k := 3) (a := 35) hC dX6_duchy_238 lkRX6_297 (by decide) rfl rfl rfl rfl rfl (Or.inl ⟨hbt, by decide⟩) (fun _ => by decide) ?_
    refine aw_eqH eh47 ?_
    clear eh47
    refine aw_aload_n hC dX6_duchy_241 rfl ?_
    refine aw_aload_n hC dX6_duchy_242 rfl ?_
    refine aw_g6i (k := 29) (a := 35) hC dX6_duchy_243 lkRX6_281 (by decide) rfl rfl rfl (Or.inl ⟨hbt, by decide⟩) ?_
    obtain ⟨h48, eh48, hF⟩ := lb_some hF
    refine aw_p6i (k := 4) (a := 35) hC dX6_duchy_246 lkRX6_300 (by decide) rfl rfl rfl rfl rfl (Or.inl ⟨hbt, by decide⟩) (fun _ => by decide) ?_
    refine aw_eqH eh48 ?_
    clear eh48
    refine aw_aload_n hC dX6_duchy_249 rfl ?_
    refine aw_aload_n hC dX6_duchy_250 rfl ?_
    refine aw_g6i (k := 30) (a := 35) hC dX6_duchy_251 lkRX6_259 (by decide) rfl rfl rfl (Or.inl ⟨hbt, by decide⟩) ?_
    obtain ⟨h49, eh49, hF⟩ := lb_some hF
    refine aw_p6i (k := 5) (a := 35) hC dX6_duchy_254 lkRX6_303 (by decide) rfl rfl rfl rfl rfl (Or.inl ⟨hbt, by decide⟩) (fun _ => by decide) ?_
    refine aw_eqH eh49 ?_
    clear eh49
    refine aw_aload_n hC dX6_duchy_257 rfl ?_
    refine aw_aload_n hC dX6_duchy_258 rfl ?_
    refine aw_gc6 (k := 36) (a := 35) (b := 44) hC hbt dX6_duchy_259 lkRX6_44 (by decide) rfl rfl rfl (by decide) (by decide) ?_
    refine aw_aload_n hC dX6_duchy_262 rfl ?_
    refine aw_gc6 (k := 6) (a := 35) (b := 36) hC hbt dX6_duchy_263 lkRX6_16 (by decide) rfl rfl rfl (by decide) (by decide) ?_
    obtain ⟨r50, h52, q51, hF⟩ := bd_some hF
    refine clRX6_306 hC hRm hbt dX6_duchy_266 rfl rfl (by decide) (Nat.le_of_ble_eq_true rfl) (Nat.le_of_ble_eq_true rfl) (ok_X6_copies_44_36 q51) ?_
    refine aw_iconst hC dX6_duchy_269 (by decide) ?_
    refine aw_istore2 hC dX6_duchy_270 rfl ?_
    obtain ⟨e70, he, hF⟩ := bp_some hF
    refine fX6_duchy_l271_ok hC hZ hRm hbt hr FU _ _ e70 he (fun h71 er => ?_)
    replace er := er.symm
    subst er
    try dsimp only at hF
    refine aw_aload_n hC dX6_duchy_352 rfl ?_
    refine aw_aload_n hC dX6_duchy_353 rfl ?_
    refine aw_gc6 (k := 41) (a := 35) (b := 49) hC hbt dX6_duchy_354 lkRX6_59 (by decide) rfl rfl rfl (by decide) (by decide) ?_
    refine aw_aload_n hC dX6_duchy_357 rfl ?_
    refine aw_gc6 (k := 9) (a := 35) (b := 39) hC hbt dX6_duchy_358 lkRX6_26 (by decide) rfl rfl rfl (by decide) (by decide) ?_
    obtain ⟨r72, h74, q73, hF⟩ := bd_some hF
    refine clRX6_306 hC hRm hbt dX6_duchy_361 rfl rfl (by decide) (Nat.le_of_ble_eq_true rfl) (Nat.le_of_ble_eq_true rfl) (ok_X6_copies_49_39 q73) ?_
    refine aw_aload_n hC dX6_duchy_364 rfl ?_
    refine aw_aload_n hC dX6_duchy_365 rfl ?_
    refine aw_gc6 (k := 42) (a := 35) (b := 50) hC hbt dX6_duchy_366 lkRX6_62 (by decide) rfl rfl rfl (by decide) (by decide) ?_
    refine aw_aload_n hC dX6_duchy_369 rfl ?_
    refine aw_gc6 (k := 10) (a := 35) (b := 40) hC hbt dX6_duchy_370 lkRX6_29 (by decide) rfl rfl rfl (by decide) (by decide) ?_
    obtain ⟨r75, h77, q76, hF⟩ := bd_some hF
    refine clRX6_306 hC hRm hbt dX6_duchy_373 rfl rfl (by decide) (Nat.le_of_ble_eq_true rfl) (Nat.le_of_ble_eq_true rfl) (ok_X6_copies_50_40 q76) ?_
    refine aw_aload_n hC dX6_duchy_376 rfl ?_
    refine aw_aload_n hC dX6_duchy_377 rfl ?_
    refine aw_gc6 (k := 43) (a := 35) (b := 51) hC hbt dX6_duchy_378 lkRX6_65 (by decide) rfl rfl rfl (by decide) (by decide) ?_
    refine aw_aload_n hC dX6_duchy_381 rfl ?_
    refine aw_gc6 (k := 11) (a := 35) (b := 41) hC hbt dX6_duchy_382 lkRX6_32 (by decide) rfl rfl rfl (by decide) (by decide) ?_
    obtain ⟨r78, h80, q79, hF⟩ := bd_some hF
    refine clRX6_306 hC hRm hbt dX6_duchy_385 rfl rfl (by decide) (Nat.le_of_ble_eq_true rfl) (Nat.le_of_ble_eq_true rfl) (ok_X6_copies_51_41 q79) ?_
    refine aw_iconst hC dX6_duchy_388 (by decide) ?_
    refine aw_istore2 hC dX6_duchy_389 rfl ?_
    obtain ⟨e93, he, hF⟩ := bp_some hF
    refine fX6_duchy_l390_ok hC hZ hRm hbt hr FU _ _ e93 he (fun h94 er => ?_)
    replace er := er.symm
    subst er
    try dsimp only at hF
    refine aw_aload_n hC dX6_duchy_468 rfl ?_
    refine aw_gc6 (k := 46) (a := 35) (b := 54) hC hbt dX6_duchy_469 lkRX6_75 (by decide) rfl rfl rfl (by decide) (by decide) ?_
    refine aw_bipush hC dX6_duchy_472 (by decide) (by decide) ?_
    refine aw_aload_n hC dX6_duchy_474 rfl ?_
    refine aw_g6i (k := 4) (a := 35) hC dX6_duchy_475 lkRX6_300 (by decide) rfl rfl rfl (Or.inl ⟨hbt, by decide⟩) ?_
    refine aw_if_le (tgt := 485) hC dX6_duchy_478 (by decide) (fun c95 => ?_) (fun c95 => ?_)
    · have hF := it_t hF c95
      refine aw_iconst hC dX6_duchy_485 (by decide) ?_
      exact fX6_duchy_j486_ok hC hZ hRm hbt hr hF hK
    · have hF := it_f hF c95
      refine aw_iconst hC dX6_duchy_481 (by decide) ?_
      refine aw_goto (tgt := 486) hC dX6_duchy_482 (by decide) ?_
      exact fX6_duchy_j486_ok hC hZ hRm hbt hr hF hK
  · have hF := it_t hF c44
    refine aw_aload_n hC dX6_duchy_202 rfl ?_
    refine aw_gc6 (k := 16) (a := 35) (b := 43) hC hbt dX6_duchy_203 lkRX6_41 (by decide) rfl rfl rfl (by decide) (by decide) ?_
    refine aw_iconst hC dX6_duchy_206 (by decide) ?_
    refine aw_dup2 hC dX6_duchy_207 (by simp) (by simp) ?_
    obtain ⟨g105, hF⟩ := gd_some hF
    refine aw_iaload (a := 43) hC dX6_duchy_208 rfl rfl (Or.inl ⟨hbt, by decide⟩) g105.1 g105.2 ?_
    refine aw_iconst hC dX6_duchy_209 (by decide) ?_
    refine aw_iadd hC dX6_duchy_210 ?_
    obtain ⟨g106, hF⟩ := gd_some hF
    obtain ⟨h107, eh107, hF⟩ := lb_some hF
    refine aw_iastore (a := 43) hC dX6_duchy_211 rfl rfl (Or.inl ⟨hbt, by decide⟩) g106.1 g106.2 ?_
    refine aw_eqH eh107 ?_
    clear eh107
    refine aw_aload_n hC dX6_duchy_212 rfl ?_
    refine aw_g6i (k := 14) (a := 35) hC dX6_duchy_213 lkRX6_185 (by decide) rfl rfl rfl (Or.inl ⟨hbt, by decide⟩) ?_
    exact aw_ireturn hC hZ (Nat.zero_le _) (Nat.zero_le _) hr dX6_duchy_216 (hK _ _ (Option.some.inj hF).symm)
theorem fX6_duchy_j23_ok {G : GD} {X : CX} {n : Nat} {Q : Av → Nat → Hp → Prop} (hC : Cx G X RX6 cX6_duchy) (hZ : ZOK X G Q 0 0) (hRm : X.R = rmd 7 0 0) (hbt : X.bt = true) (hr : X.meth.sig.returnType = (some .int)) {x1 : Int} {z0 : Int} {h : Hp} {res : Int × Hp} (hF : fX6_duchy_j23 x1 z0 h = some res) (hK : ∀ (x9 : Int) (h9 : Hp), res = (x9, h9) → Q (0, x9) n h9) : AW G X 23 [(2, ((35 : Nat) : Int)), (0, x1), (9, 0)] [(0, z0), (2, ((35 : Nat) : Int))] n h 0 0 := by
  unfold fX6_duchy_j23 at hF
  refine aw_iconst hC dX6_duchy_23 (by decide) ?_
  obtain ⟨r3, h5, q4, hF⟩ := bd_some hF
  refine clRX6_290 hC hRm hbt dX6_duchy_24 rfl rfl (by decide) (Nat.le_of_ble_eq_true rfl) (Nat.le_of_ble_eq_true rfl) (ok_X6_right q4) ?_
  refine aw_if_ne (tgt := 32) hC dX6_duchy_27 (by decide) (fun c6 => ?_) (fun c6 => ?_)
  · have hF := it_f hF c6
    refine aw_aload_n hC dX6_duchy_32 rfl ?_
    refine aw_iconst hC dX6_duchy_33 (by decide) ?_
    obtain ⟨h7, eh7, hF⟩ := lb_some hF
    refine aw_p6i (k := 13) (a := 35) hC dX6_duchy_34 lkRX6_132 (by decide) rfl rfl rfl rfl rfl (Or.inl ⟨hbt, by decide⟩) (fun _ => by decide) ?_
    refine aw_eqH eh7 ?_
    clear eh7
    refine aw_aload_n hC dX6_duchy_37 rfl ?_
    refine aw_iconst hC dX6_duchy_38 (by decide) ?_
    obtain ⟨h8, eh8, hF⟩ := lb_some hF
    refine aw_p6i (k := 15) (a := 35) hC dX6_duchy_39 lkRX6_38 (by decide) rfl rfl rfl rfl rfl (Or.inl ⟨hbt, by decide⟩) (fun _ => by decide) ?_
    refine aw_eqH eh8 ?_
    clear eh8
    refine aw_aload_n hC dX6_duchy_42 rfl ?_
    refine aw_iconst hC dX6_duchy_43 (by decide) ?_
    obtain ⟨h9, eh9, hF⟩ := lb_some hF
    refine aw_p6i (k := 14) (a := 35) hC dX6_duchy_44 lkRX6_185 (by decide) rfl rfl rfl rfl rfl (Or.inl ⟨hbt, by decide⟩) (fun _ => by decide) ?_
    refine aw_eqH eh9 ?_
    clear eh9
    refine aw_aload_n hC dX6_duchy_47 rfl ?_
    refine aw_iload_n hC dX6_duchy_48 rfl ?_
    obtain ⟨h10, eh10, hF⟩ := lb_some hF
    refine aw_p6i (k := 17) (a := 35) hC dX6_duchy_49 lkRX6_139 (by decide) rfl rfl rfl rfl rfl (Or.inl ⟨hbt, by decide⟩) (fun _ => by decide) ?_
    refine aw_eqH eh10 ?_
    clear eh10
    refine aw_aload_n hC dX6_duchy_52 rfl ?_
    refine aw_iconst hC dX6_duchy_53 (by decide) ?_
    obtain ⟨h11, eh11, hF⟩ := lb_some hF
    refine aw_p6i (k := 18) (a := 35) hC dX6_duchy_54 lkRX6_142 (by decide) rfl rfl rfl rfl rfl (Or.inl ⟨hbt, by decide⟩) (fun _ => by decide) ?_
    refine aw_eqH eh11 ?_
    clear eh11
    refine aw_aload_n hC dX6_duchy_57 rfl ?_
    refine aw_bipush hC dX6_duchy_58 (by decide) (by decide) ?_
    obtain ⟨h12, eh12, hF⟩ := lb_some hF
    refine aw_p6i (k := 25) (a := 35) hC dX6_duchy_60 lkRX6_249 (by decide) rfl rfl rfl rfl rfl (Or.inl ⟨hbt, by decide⟩) (fun _ => by decide) ?_
    refine aw_eqH eh12 ?_
    clear eh12
    refine aw_aload_n hC dX6_duchy_63 rfl ?_
    refine aw_bipush hC dX6_duchy_64 (by decide) (by decide) ?_
    obtain ⟨h13, eh13, hF⟩ := lb_some hF
    refine aw_p6i (k := 26) (a := 35) hC dX6_duchy_66 lkRX6_256 (by decide) rfl rfl rfl rfl rfl (Or.inl ⟨hbt, by decide⟩) (fun _ => by decide) ?_
    refine aw_eqH eh13 ?_
    clear eh13
    refine aw_aload_n hC dX6_duchy_69 rfl ?_
    refine aw_iconst hC dX6_duchy_70 (by decide) ?_
    obtain ⟨h14, eh14, hF⟩ := lb_some hF
    refine aw_p6i (k := 27) (a := 35) hC dX6_duchy_71 lkRX6_269 (by decide) rfl rfl rfl rfl rfl (Or.inl ⟨hbt, by decide⟩) (fun _ => by decide) ?_
    refine aw_eqH eh14 ?_
    clear eh14
    refine aw_aload_n hC dX6_duchy_74 rfl ?_
    refine aw_iconst hC dX6_duchy_75 (by decide) ?_
    obtain ⟨h15, eh15, hF⟩ := lb_some hF
    refine aw_p6i (k := 28) (a := 35) hC dX6_duchy_76 lkRX6_275 (by decide) rfl rfl rfl rfl rfl (Or.inl ⟨hbt, by decide⟩) (fun _ => by decide) ?_
    refine aw_eqH eh15 ?_
    clear eh15
    refine aw_aload_n hC dX6_duchy_79 rfl ?_
    refine aw_iconst hC dX6_duchy_80 (by decide) ?_
    obtain ⟨h16, eh16, hF⟩ := lb_some hF
    refine aw_p6i (k := 29) (a := 35) hC dX6_duchy_81 lkRX6_281 (by decide) rfl rfl rfl rfl rfl (Or.inl ⟨hbt, by decide⟩) (fun _ => by decide) ?_
    refine aw_eqH eh16 ?_
    clear eh16
    refine aw_aload_n hC dX6_duchy_84 rfl ?_
    refine aw_iconst hC dX6_duchy_85 (by decide) ?_
    obtain ⟨h17, eh17, hF⟩ := lb_some hF
    refine aw_p6i (k := 30) (a := 35) hC dX6_duchy_86 lkRX6_259 (by decide) rfl rfl rfl rfl rfl (Or.inl ⟨hbt, by decide⟩) (fun _ => by decide) ?_
    refine aw_eqH eh17 ?_
    clear eh17
    refine aw_aload_n hC dX6_duchy_89 rfl ?_
    refine aw_lconst (v := 0) hC dX6_duchy_90 (by decide) (by decide) ?_
    obtain ⟨h18, eh18, hF⟩ := lb_some hF
    refine aw_p6l (k := 34) (a := 35) hC dX6_duchy_91 lkRX6_262 (by decide) rfl rfl rfl rfl rfl (Or.inl ⟨hbt, by decide⟩) (fun _ => by decide) ?_
    refine aw_eqH eh18 ?_
    clear eh18
    refine aw_aload_n hC dX6_duchy_94 rfl ?_
    refine aw_lconst (v := 0) hC dX6_duchy_95 (by decide) (by decide) ?_
    obtain ⟨h19, eh19, hF⟩ := lb_some hF
    refine aw_p6l (k := 35) (a := 35) hC dX6_duchy_96 lkRX6_272 (by decide) rfl rfl rfl rfl rfl (Or.inl ⟨hbt, by decide⟩) (fun _ => by decide) ?_
    refine aw_eqH eh19 ?_
    clear eh19
    refine aw_aload_n hC dX6_duchy_99 rfl ?_
    refine aw_iconst hC dX6_duchy_100 (by decide) ?_
    obtain ⟨h20, eh20, hF⟩ := lb_some hF
    refine aw_p6i (k := 31) (a := 35) hC dX6_duchy_101 lkRX6_202 (by decide) rfl rfl rfl rfl rfl (Or.inl ⟨hbt, by decide⟩) (fun _ => by decide) ?_
    refine aw_eqH eh20 ?_
    clear eh20
    refine aw_iconst hC dX6_duchy_104 (by decide) ?_
    refine aw_istore2 hC dX6_duchy_105 rfl ?_
    refine aw_weak (ls' := [(2, ((35 : Nat) : Int)), (9, 0), (0, 0)]) ⟨Or.inr rfl, Or.inl rfl, Or.inr rfl, trivial⟩ ?_
    obtain ⟨e25, he, hF⟩ := bp_some hF
    refine fX6_duchy_l106_ok hC hZ hRm hbt hr FU _ _ e25 he (fun h26 er => ?_)
    replace er := er.symm
    subst er
    try dsimp only at hF
    refine aw_aload_n hC dX6_duchy_125 rfl ?_
    obtain ⟨r27, h29, q28, hF⟩ := bd_some hF
    refine clRX6_192 hC hRm hbt dX6_duchy_126 rfl rfl (by decide) (Nat.le_of_ble_eq_true rfl) (Nat.le_of_ble_eq_true rfl) (ok_X6_goes q28) ?_
    refine aw_aload_n hC dX6_duchy_129 rfl ?_
    obtain ⟨r30, q31, hF⟩ := bp_some hF
    refine clRX6_217 hC hRm hbt dX6_duchy_130 rfl rfl (by decide) (Nat.le_of_ble_eq_true rfl) (Nat.le_of_ble_eq_true rfl) (ok_X6_knownWord q31) ?_
    refine aw_bipush hC dX6_duchy_133 (by decide) (by decide) ?_
    refine aw_icmp_ne (tgt := 174) hC dX6_duchy_135 (by decide) (fun c32 => ?_) (fun c32 => ?_)
    · have hF := it_f hF c32
      obtain ⟨e40, he, hF⟩ := bp_some hF
      refine fX6_duchy_l174_ok hC hZ hRm hbt hr FU _ e40 he (fun h41 er => ?_)
      replace er := er.symm
      subst er
      try dsimp only at hF
      exact fX6_duchy_j195_ok hC hZ hRm hbt hr hF hK
    · have hF := it_t hF c32
      refine aw_aload_n hC dX6_duchy_138 rfl ?_
      obtain ⟨r108, h110, q109, hF⟩ := bd_some hF
      refine clRX6_192 hC hRm hbt dX6_duchy_139 rfl rfl (by decide) (Nat.le_of_ble_eq_true rfl) (Nat.le_of_ble_eq_true rfl) (ok_X6_goes q109) ?_
      refine aw_aload_n hC dX6_duchy_142 rfl ?_
      refine aw_aload_n hC dX6_duchy_143 rfl ?_
      refine aw_iconst hC dX6_duchy_144 (by decide) ?_
      refine aw_bipush hC dX6_duchy_145 (by decide) (by decide) ?_
      obtain ⟨r111, h113, q112, hF⟩ := bd_some hF
      refine clRX6_252 hC hRm hbt dX6_duchy_147 rfl rfl (by decide) (Nat.le_of_ble_eq_true rfl) (Nat.le_of_ble_eq_true rfl) (ok_X6_number q112) ?_
      obtain ⟨h114, eh114, hF⟩ := lb_some hF
      refine aw_p6i (k := 25) (a := 35) hC dX6_duchy_150 lkRX6_249 (by decide) rfl rfl rfl rfl rfl (Or.inl ⟨hbt, by decide⟩) (fun _ => by decide) ?_
      refine aw_eqH eh114 ?_
      clear eh114
      refine aw_aload_n hC dX6_duchy_153 rfl ?_
      refine aw_aload_n hC dX6_duchy_154 rfl ?_
      refine aw_iconst hC dX6_duchy_155 (by decide) ?_
      refine aw_bipush hC dX6_duchy_156 (by decide) (by decide) ?_
      obtain ⟨r115, h117, q116, hF⟩ := bd_some hF
      refine clRX6_252 hC hRm hbt dX6_duchy_158 rfl rfl (by decide) (Nat.le_of_ble_eq_true rfl) (Nat.le_of_ble_eq_true rfl) (ok_X6_number q116) ?_
      obtain ⟨h118, eh118, hF⟩ := lb_some hF
      refine aw_p6i (k := 26) (a := 35) hC dX6_duchy_161 lkRX6_256 (by decide) rfl rfl rfl rfl rfl (Or.inl ⟨hbt, by decide⟩) (fun _ => by decide) ?_
      refine aw_eqH eh118 ?_
      clear eh118
      refine aw_aload_n hC dX6_duchy_164 rfl ?_
      refine aw_aload_n hC dX6_duchy_165 rfl ?_
      refine aw_bipush hC dX6_duchy_166 (by decide) (by decide) ?_
      obtain ⟨r119, q120, hF⟩ := bp_some hF
      refine clRX6_224 hC hRm hbt dX6_duchy_168 rfl rfl (by decide) (Nat.le_of_ble_eq_true rfl) (Nat.le_of_ble_eq_true rfl) (ok_X6_isSign q120) ?_
      obtain ⟨r121, h123, q122, hF⟩ := bd_some hF
      refine clRX6_287 hC hRm hbt dX6_duchy_171 rfl rfl (by decide) (Nat.le_of_ble_eq_true rfl) (Nat.le_of_ble_eq_true rfl) (ok_X6_need q122) ?_
      obtain ⟨e124, he, hF⟩ := bp_some hF
      refine fX6_duchy_l174_ok hC hZ hRm hbt hr FU _ e124 he (fun h125 er => ?_)
      replace er := er.symm
      subst er
      try dsimp only at hF
      exact fX6_duchy_j195_ok hC hZ hRm hbt hr hF hK
  · have hF := it_t hF c6
    refine aw_iconst hC dX6_duchy_30 (by decide) ?_
    exact aw_ireturn hC hZ (Nat.zero_le _) (Nat.zero_le _) hr dX6_duchy_31 (hK _ _ (Option.some.inj hF).symm)
theorem fX6_duchy_j22_ok {G : GD} {X : CX} {n : Nat} {Q : Av → Nat → Hp → Prop} (hC : Cx G X RX6 cX6_duchy) (hZ : ZOK X G Q 0 0) (hRm : X.R = rmd 7 0 0) (hbt : X.bt = true) (hr : X.meth.sig.returnType = (some .int)) {x1 : Int} {h : Hp} {res : Int × Hp} (hF : fX6_duchy_j22 x1 h = some res) (hK : ∀ (x9 : Int) (h9 : Hp), res = (x9, h9) → Q (0, x9) n h9) : AW G X 22 [(2, ((35 : Nat) : Int)), (0, x1), (9, 0)] [(2, ((35 : Nat) : Int))] n h 0 0 := by
  unfold fX6_duchy_j22 at hF
  refine aw_iconst hC dX6_duchy_22 (by decide) ?_
  exact fX6_duchy_j23_ok hC hZ hRm hbt hr hF hK
theorem ok_X6_duchy {G : GD} {n : Nat} {x1 : Int} {h : Hp} {res : Int × Hp} (hF : fX6_duchy x1 h = some res) : Con G yX6_duchy cX6_duchy 3 (some .int) 7 0 0 true [(2, ((35 : Nat) : Int)), (0, x1)] n h (FQ 0 n res) := by
  refine con_of (pad := 1) (own := RX6) (plainFor_of_name (by decide)) rfl rfl ?_
  intro X hC hbt hr hnm hZ hRm hn0
  have hK : ∀ (x9 : Int) (h9 : Hp), res = (x9, h9) → FQ 0 n res (0, x9) n h9 := fun x9 h9 e => by subst e; exact ⟨rfl, rfl, rfl⟩
  unfold fX6_duchy at hF
  show AW G X 0 [(2, ((35 : Nat) : Int)), (0, x1), (9, 0)] [] n h 0 0
  refine aw_aload_n hC dX6_duchy_0 rfl ?_
  refine aw_iconst hC dX6_duchy_1 (by decide) ?_
  obtain ⟨h1, eh1, hF⟩ := lb_some hF
  refine aw_p6i (k := 0) (a := 35) hC dX6_duchy_2 lkRX6_129 (by decide) rfl rfl rfl rfl rfl (Or.inl ⟨hbt, by decide⟩) (fun _ => by decide) ?_
  refine aw_eqH eh1 ?_
  clear eh1
  refine aw_aload_n hC dX6_duchy_5 rfl ?_
  refine aw_iload_n hC dX6_duchy_6 rfl ?_
  refine aw_if_lt (tgt := 22) hC dX6_duchy_7 (by decide) (fun c2 => ?_) (fun c2 => ?_)
  · have hF := it_t hF c2
    exact fX6_duchy_j22_ok hC hZ hRm hbt hr hF hK
  · have hF := it_f hF c2
    refine aw_iload_n hC dX6_duchy_10 rfl ?_
    refine aw_aload_n hC dX6_duchy_11 rfl ?_
    refine aw_g6i (k := 13) (a := 35) hC dX6_duchy_12 lkRX6_132 (by decide) rfl rfl rfl (Or.inl ⟨hbt, by decide⟩) ?_
    refine aw_icmp_gt (tgt := 22) hC dX6_duchy_15 (by decide) (fun c126 => ?_) (fun c126 => ?_)
    · have hF := it_t hF c126
      exact fX6_duchy_j22_ok hC hZ hRm hbt hr hF hK
    · have hF := it_f hF c126
      refine aw_iconst hC dX6_duchy_18 (by decide) ?_
      refine aw_goto (tgt := 23) hC dX6_duchy_19 (by decide) ?_
      exact fX6_duchy_j23_ok hC hZ hRm hbt hr hF hK
def fX6_fault  (h : Hp) : Option (Int × Hp) :=
  lb_ (st h 35 0 0) (fun h1 => some ((h1 35 15), h1))
theorem ok_X6_fault {G : GD} {n : Nat}  {h : Hp} {res : Int × Hp} (hF : fX6_fault  h = some res) : Con G yX6_fault cX6_fault 1 (some .int) 0 0 0 true [(2, ((35 : Nat) : Int))] n h (FQ 0 n res) := by
  refine con_of (pad := 0) (own := RX6) (plainFor_of_name (by decide)) rfl rfl ?_
  intro X hC hbt hr hnm hZ hRm hn0
  have hK : ∀ (x9 : Int) (h9 : Hp), res = (x9, h9) → FQ 0 n res (0, x9) n h9 := fun x9 h9 e => by subst e; exact ⟨rfl, rfl, rfl⟩
  unfold fX6_fault at hF
  show AW G X 0 [(2, ((35 : Nat) : Int))] [] n h 0 0
  refine aw_aload_n hC dX6_fault_0 rfl ?_
  refine aw_iconst hC dX6_fault_1 (by decide) ?_
  obtain ⟨h1, eh1, hF⟩ := lb_some hF
  refine aw_p6i (k := 0) (a := 35) hC dX6_fault_2 lkRX6_129 (by decide) rfl rfl rfl rfl rfl (Or.inl ⟨hbt, by decide⟩) (fun _ => by decide) ?_
  refine aw_eqH eh1 ?_
  clear eh1
  refine aw_aload_n hC dX6_fault_5 rfl ?_
  refine aw_g6i (k := 15) (a := 35) hC dX6_fault_6 lkRX6_38 (by decide) rfl rfl rfl (Or.inl ⟨hbt, by decide⟩) ?_
  exact aw_ireturn hC hZ (Nat.zero_le _) (Nat.zero_le _) hr dX6_fault_9 (hK _ _ (Option.some.inj hF).symm)
def fX6_keeps_l52 (x1 : Int) (h : Hp) : Option ((Int × Hp) ⊕ (Hp)) :=
  (if 62 ≤ x1 then some (.inr h) else gd_ (0 ≤ x1 ∧ x1 < 62) (gd_ (0 ≤ (i_add ((i_mul 62 ((h 35 49)))) x1) ∧ (i_add ((i_mul 62 ((h 35 49)))) x1) < 2480) (lb_ (st h 56 (Int.toNat ((i_add ((i_mul 62 ((h 35 49)))) x1))) ((h 54 (Int.toNat x1)))) (fun h5 => some (.inl ((i_add x1 1), h5))))))
def fX6_keeps_l12 (x1 : Int) (h : Hp) : Option ((Int × Hp) ⊕ (Hp)) :=
  (if 2480 ≤ x1 then some (.inr h) else gd_ (0 ≤ x1 ∧ x1 < 2480) (gd_ (0 ≤ (i_sub x1 62) ∧ (i_sub x1 62) < 2480) (lb_ (st h 56 (Int.toNat ((i_sub x1 62))) ((h 56 (Int.toNat x1)))) (fun h13 => some (.inl ((i_add x1 1), h13))))))
def fX6_keeps  (h : Hp) : Option (Int × Hp) :=
  (if (h 35 49) = 40 then bp_ (it_ (fun s => fX6_keeps_l12 s.1 s.2) FU (62, h)) (fun e15 => (fun h16 => lb_ (st h16 35 49 ((i_sub ((h16 35 49)) 1))) (fun h17 => bp_ (it_ (fun s => fX6_keeps_l52 s.1 s.2) FU (0, h17)) (fun e18 => (fun h19 => lb_ (st h19 35 49 ((i_add ((h19 35 49)) 1))) (fun h20 => some (0, h20))) e18))) e15) else bp_ (it_ (fun s => fX6_keeps_l52 s.1 s.2) FU (0, h)) (fun e7 => (fun h8 => lb_ (st h8 35 49 ((i_add ((h8 35 49)) 1))) (fun h9 => some (0, h9))) e7))
theorem fX6_keeps_l52_ok {G : GD} {X : CX} {n : Nat} {Q : Av → Nat → Hp → Prop} (hC : Cx G X RX6 cX6_keeps) (hZ : ZOK X G Q 0 0) (hRm : X.R = rmd 0 0 0) (hbt : X.bt = true) (hr : X.meth.sig.returnType = none)  : ∀ (f : Nat) (x1 : Int) (h : Hp) (r : Hp), it_ (fun s => fX6_keeps_l52 s.1 s.2) f (x1, h) = some r → (∀ (h9 : Hp), r = h9 → AW G X 84 [(2, ((35 : Nat) : Int)), (9, 0)] [] n h9 0 0) → AW G X 52 [(2, ((35 : Nat) : Int)), (0, x1)] [] n h 0 0 := by
  intro f
  induction f with
  | zero => intro x1 h r hI; cases hI
  | succ f ih0 =>
    intro x1 h r hI hX
    obtain ⟨b, hF, hb1, hb2⟩ := it_succ hI
    have hF : fX6_keeps_l52 x1 h = some b := hF
    unfold fX6_keeps_l52 at hF
    refine aw_iload_n hC dX6_keeps_52 rfl ?_
    refine aw_bipush hC dX6_keeps_53 (by decide) (by decide) ?_
    refine aw_icmp_ge (tgt := 84) hC dX6_keeps_55 (by decide) (fun c2 => ?_) (fun c2 => ?_)
    · have hF := it_t hF c2
      refine aw_weak (ls' := [(2, ((35 : Nat) : Int)), (9, 0)]) ⟨Or.inr rfl, Or.inl rfl, trivial⟩ ?_
      exact hX _ (hb2 _ (Option.some.inj hF).symm).symm
    · have hF := it_f hF c2
      refine aw_aload_n hC dX6_keeps_58 rfl ?_
      refine aw_gc6 (k := 48) (a := 35) (b := 56) hC hbt dX6_keeps_59 lkRX6_81 (by decide) rfl rfl rfl (by decide) (by decide) ?_
      refine aw_bipush hC dX6_keeps_62 (by decide) (by decide) ?_
      refine aw_aload_n hC dX6_keeps_64 rfl ?_
      refine aw_g6i (k := 49) (a := 35) hC dX6_keeps_65 lkRX6_310 (by decide) rfl rfl rfl (Or.inl ⟨hbt, by decide⟩) ?_
      refine aw_imul hC dX6_keeps_68 ?_
      refine aw_iload_n hC dX6_keeps_69 rfl ?_
      refine aw_iadd hC dX6_keeps_70 ?_
      refine aw_aload_n hC dX6_keeps_71 rfl ?_
      refine aw_gc6 (k := 46) (a := 35) (b := 54) hC hbt dX6_keeps_72 lkRX6_75 (by decide) rfl rfl rfl (by decide) (by decide) ?_
      refine aw_iload_n hC dX6_keeps_75 rfl ?_
      obtain ⟨g3, hF⟩ := gd_some hF
      refine aw_iaload (a := 54) hC dX6_keeps_76 rfl rfl (Or.inl ⟨hbt, by decide⟩) g3.1 g3.2 ?_
      obtain ⟨g4, hF⟩ := gd_some hF
      obtain ⟨h5, eh5, hF⟩ := lb_some hF
      refine aw_iastore (a := 56) hC dX6_keeps_77 rfl rfl (Or.inl ⟨hbt, by decide⟩) g4.1 g4.2 ?_
      refine aw_eqH eh5 ?_
      clear eh5
      refine aw_iinc1 hC dX6_keeps_78 rfl ?_
      refine aw_goto (tgt := 52) hC dX6_keeps_81 (by decide) ?_
      exact ih0 _ _ r (hb1 _ (Option.some.inj hF).symm) hX
theorem fX6_keeps_l12_ok {G : GD} {X : CX} {n : Nat} {Q : Av → Nat → Hp → Prop} (hC : Cx G X RX6 cX6_keeps) (hZ : ZOK X G Q 0 0) (hRm : X.R = rmd 0 0 0) (hbt : X.bt = true) (hr : X.meth.sig.returnType = none)  : ∀ (f : Nat) (x1 : Int) (h : Hp) (r : Hp), it_ (fun s => fX6_keeps_l12 s.1 s.2) f (x1, h) = some r → (∀ (h9 : Hp), r = h9 → AW G X 40 [(2, ((35 : Nat) : Int)), (9, 0)] [] n h9 0 0) → AW G X 12 [(2, ((35 : Nat) : Int)), (0, x1)] [] n h 0 0 := by
  intro f
  induction f with
  | zero => intro x1 h r hI; cases hI
  | succ f ih0 =>
    intro x1 h r hI hX
    obtain ⟨b, hF, hb1, hb2⟩ := it_succ hI
    have hF : fX6_keeps_l12 x1 h = some b := hF
    unfold fX6_keeps_l12 at hF
    refine aw_iload_n hC dX6_keeps_12 rfl ?_
    refine aw_sipush hC dX6_keeps_13 (by decide) (by decide) ?_
    refine aw_icmp_ge (tgt := 40) hC dX6_keeps_16 (by decide) (fun c10 => ?_) (fun c10 => ?_)
    · have hF := it_t hF c10
      refine aw_weak (ls' := [(2, ((35 : Nat) : Int)), (9, 0)]) ⟨Or.inr rfl, Or.inl rfl, trivial⟩ ?_
      exact hX _ (hb2 _ (Option.some.inj hF).symm).symm
    · have hF := it_f hF c10
      refine aw_aload_n hC dX6_keeps_19 rfl ?_
      refine aw_gc6 (k := 48) (a := 35) (b := 56) hC hbt dX6_keeps_20 lkRX6_81 (by decide) rfl rfl rfl (by decide) (by decide) ?_
      refine aw_iload_n hC dX6_keeps_23 rfl ?_
      refine aw_bipush hC dX6_keeps_24 (by decide) (by decide) ?_
      refine aw_isub hC dX6_keeps_26 ?_
      refine aw_aload_n hC dX6_keeps_27 rfl ?_
      refine aw_gc6 (k := 48) (a := 35) (b := 56) hC hbt dX6_keeps_28 lkRX6_81 (by decide) rfl rfl rfl (by decide) (by decide) ?_
      refine aw_iload_n hC dX6_keeps_31 rfl ?_
      obtain ⟨g11, hF⟩ := gd_some hF
      refine aw_iaload (a := 56) hC dX6_keeps_32 rfl rfl (Or.inl ⟨hbt, by decide⟩) g11.1 g11.2 ?_
      obtain ⟨g12, hF⟩ := gd_some hF
      obtain ⟨h13, eh13, hF⟩ := lb_some hF
      refine aw_iastore (a := 56) hC dX6_keeps_33 rfl rfl (Or.inl ⟨hbt, by decide⟩) g12.1 g12.2 ?_
      refine aw_eqH eh13 ?_
      clear eh13
      refine aw_iinc1 hC dX6_keeps_34 rfl ?_
      refine aw_goto (tgt := 12) hC dX6_keeps_37 (by decide) ?_
      exact ih0 _ _ r (hb1 _ (Option.some.inj hF).symm) hX
theorem ok_X6_keeps {G : GD} {n : Nat}  {h : Hp} {res : Int × Hp} (hF : fX6_keeps  h = some res) : Con G yX6_keeps cX6_keeps 2 none 0 0 0 true [(2, ((35 : Nat) : Int))] n h (FQ 8 n res) := by
  refine con_of (pad := 1) (own := RX6) (plainFor_of_name (by decide)) rfl rfl ?_
  intro X hC hbt hr hnm hZ hRm hn0
  have hK : ∀ (x9 : Int) (h9 : Hp), res = (x9, h9) → FQ 8 n res (8, x9) n h9 := fun x9 h9 e => by subst e; exact ⟨rfl, rfl, rfl⟩
  unfold fX6_keeps at hF
  show AW G X 0 [(2, ((35 : Nat) : Int)), (9, 0)] [] n h 0 0
  refine aw_aload_n hC dX6_keeps_0 rfl ?_
  refine aw_g6i (k := 49) (a := 35) hC dX6_keeps_1 lkRX6_310 (by decide) rfl rfl rfl (Or.inl ⟨hbt, by decide⟩) ?_
  refine aw_bipush hC dX6_keeps_4 (by decide) (by decide) ?_
  refine aw_icmp_ne (tgt := 50) hC dX6_keeps_6 (by decide) (fun c1 => ?_) (fun c1 => ?_)
  · have hF := it_f hF c1
    refine aw_iconst hC dX6_keeps_50 (by decide) ?_
    refine aw_istore1 hC dX6_keeps_51 rfl ?_
    obtain ⟨e7, he, hF⟩ := bp_some hF
    refine fX6_keeps_l52_ok hC hZ hRm hbt hr FU _ _ e7 he (fun h8 er => ?_)
    replace er := er.symm
    subst er
    try dsimp only at hF
    refine aw_aload_n hC dX6_keeps_84 rfl ?_
    refine aw_dup hC dX6_keeps_85 (by simp) ?_
    refine aw_g6i (k := 49) (a := 35) hC dX6_keeps_86 lkRX6_310 (by decide) rfl rfl rfl (Or.inl ⟨hbt, by decide⟩) ?_
    refine aw_iconst hC dX6_keeps_89 (by decide) ?_
    refine aw_iadd hC dX6_keeps_90 ?_
    obtain ⟨h9, eh9, hF⟩ := lb_some hF
    refine aw_p6i (k := 49) (a := 35) hC dX6_keeps_91 lkRX6_310 (by decide) rfl rfl rfl rfl rfl (Or.inl ⟨hbt, by decide⟩) (fun _ => by decide) ?_
    refine aw_eqH eh9 ?_
    clear eh9
    exact aw_return hC hZ (Nat.zero_le _) (Nat.zero_le _) hr dX6_keeps_94 (hK _ _ (Option.some.inj hF).symm)
  · have hF := it_t hF c1
    refine aw_bipush hC dX6_keeps_9 (by decide) (by decide) ?_
    refine aw_istore1 hC dX6_keeps_11 rfl ?_
    obtain ⟨e15, he, hF⟩ := bp_some hF
    refine fX6_keeps_l12_ok hC hZ hRm hbt hr FU _ _ e15 he (fun h16 er => ?_)
    replace er := er.symm
    subst er
    try dsimp only at hF
    refine aw_aload_n hC dX6_keeps_40 rfl ?_
    refine aw_dup hC dX6_keeps_41 (by simp) ?_
    refine aw_g6i (k := 49) (a := 35) hC dX6_keeps_42 lkRX6_310 (by decide) rfl rfl rfl (Or.inl ⟨hbt, by decide⟩) ?_
    refine aw_iconst hC dX6_keeps_45 (by decide) ?_
    refine aw_isub hC dX6_keeps_46 ?_
    obtain ⟨h17, eh17, hF⟩ := lb_some hF
    refine aw_p6i (k := 49) (a := 35) hC dX6_keeps_47 lkRX6_310 (by decide) rfl rfl rfl rfl rfl (Or.inl ⟨hbt, by decide⟩) (fun _ => by decide) ?_
    refine aw_eqH eh17 ?_
    clear eh17
    refine aw_iconst hC dX6_keeps_50 (by decide) ?_
    refine aw_istore1 hC dX6_keeps_51 rfl ?_
    obtain ⟨e18, he, hF⟩ := bp_some hF
    refine fX6_keeps_l52_ok hC hZ hRm hbt hr FU _ _ e18 he (fun h19 er => ?_)
    replace er := er.symm
    subst er
    try dsimp only at hF
    refine aw_aload_n hC dX6_keeps_84 rfl ?_
    refine aw_dup hC dX6_keeps_85 (by simp) ?_
    refine aw_g6i (k := 49) (a := 35) hC dX6_keeps_86 lkRX6_310 (by decide) rfl rfl rfl (Or.inl ⟨hbt, by decide⟩) ?_
    refine aw_iconst hC dX6_keeps_89 (by decide) ?_
    refine aw_iadd hC dX6_keeps_90 ?_
    obtain ⟨h20, eh20, hF⟩ := lb_some hF
    refine aw_p6i (k := 49) (a := 35) hC dX6_keeps_91 lkRX6_310 (by decide) rfl rfl rfl rfl rfl (Or.inl ⟨hbt, by decide⟩) (fun _ => by decide) ?_
    refine aw_eqH eh20 ?_
    clear eh20
    exact aw_return hC hZ (Nat.zero_le _) (Nat.zero_le _) hr dX6_keeps_94 (hK _ _ (Option.some.inj hF).symm)
def fX6_refuses (x1 : Int) (x2 : Int) (h : Hp) : Option (Int × Hp) :=
  gd_ (0 ≤ x1 ∧ x1 < 3) (gd_ (0 ≤ x1 ∧ x1 < 3) (lb_ (st h 43 (Int.toNat x1) ((i_add ((h 43 (Int.toNat x1))) 1))) (fun h3 => some (x2, h3))))
theorem ok_X6_refuses {G : GD} {n : Nat} {x1 : Int} {x2 : Int} {h : Hp} {res : Int × Hp} (hF : fX6_refuses x1 x2 h = some res) : Con G yX6_refuses cX6_refuses 3 (some .int) 0 0 0 true [(2, ((35 : Nat) : Int)), (0, x1), (0, x2)] n h (FQ 0 n res) := by
  refine con_of (pad := 0) (own := RX6) (plainFor_of_name (by decide)) rfl rfl ?_
  intro X hC hbt hr hnm hZ hRm hn0
  have hK : ∀ (x9 : Int) (h9 : Hp), res = (x9, h9) → FQ 0 n res (0, x9) n h9 := fun x9 h9 e => by subst e; exact ⟨rfl, rfl, rfl⟩
  unfold fX6_refuses at hF
  show AW G X 0 [(2, ((35 : Nat) : Int)), (0, x1), (0, x2)] [] n h 0 0
  refine aw_aload_n hC dX6_refuses_0 rfl ?_
  refine aw_gc6 (k := 16) (a := 35) (b := 43) hC hbt dX6_refuses_1 lkRX6_41 (by decide) rfl rfl rfl (by decide) (by decide) ?_
  refine aw_iload_n hC dX6_refuses_4 rfl ?_
  refine aw_dup2 hC dX6_refuses_5 (by simp) (by simp) ?_
  obtain ⟨g1, hF⟩ := gd_some hF
  refine aw_iaload (a := 43) hC dX6_refuses_6 rfl rfl (Or.inl ⟨hbt, by decide⟩) g1.1 g1.2 ?_
  refine aw_iconst hC dX6_refuses_7 (by decide) ?_
  refine aw_iadd hC dX6_refuses_8 ?_
  obtain ⟨g2, hF⟩ := gd_some hF
  obtain ⟨h3, eh3, hF⟩ := lb_some hF
  refine aw_iastore (a := 43) hC dX6_refuses_9 rfl rfl (Or.inl ⟨hbt, by decide⟩) g2.1 g2.2 ?_
  refine aw_eqH eh3 ?_
  clear eh3
  refine aw_iload_n hC dX6_refuses_10 rfl ?_
  exact aw_ireturn hC hZ (Nat.zero_le _) (Nat.zero_le _) hr dX6_refuses_11 (hK _ _ (Option.some.inj hF).symm)
def fX6_undo_l26 (x1 : Int) (h : Hp) : Option ((Int × Hp) ⊕ (Hp)) :=
  (if 62 ≤ x1 then some (.inr h) else gd_ (0 ≤ (i_add ((i_mul 62 ((h 35 49)))) x1) ∧ (i_add ((i_mul 62 ((h 35 49)))) x1) < 2480) (gd_ (0 ≤ x1 ∧ x1 < 62) (lb_ (st h 54 (Int.toNat x1) ((h 56 (Int.toNat ((i_add ((i_mul 62 ((h 35 49)))) x1)))))) (fun h7 => some (.inl ((i_add x1 1), h7))))))
def fX6_undo  (h : Hp) : Option (Int × Hp) :=
  lb_ (st h 35 0 0) (fun h1 => (if (h1 35 49) = 0 then some ((-1), h1) else lb_ (st h1 35 49 ((i_sub ((h1 35 49)) 1))) (fun h3 => bp_ (it_ (fun s => fX6_undo_l26 s.1 s.2) FU (0, h3)) (fun e9 => (fun h10 => some ((h10 35 49), h10)) e9))))
theorem fX6_undo_l26_ok {G : GD} {X : CX} {n : Nat} {Q : Av → Nat → Hp → Prop} (hC : Cx G X RX6 cX6_undo) (hZ : ZOK X G Q 0 0) (hRm : X.R = rmd 0 0 0) (hbt : X.bt = true) (hr : X.meth.sig.returnType = (some .int))  : ∀ (f : Nat) (x1 : Int) (h : Hp) (r : Hp), it_ (fun s => fX6_undo_l26 s.1 s.2) f (x1, h) = some r → (∀ (h9 : Hp), r = h9 → AW G X 58 [(2, ((35 : Nat) : Int)), (9, 0)] [] n h9 0 0) → AW G X 26 [(2, ((35 : Nat) : Int)), (0, x1)] [] n h 0 0 := by
  intro f
  induction f with
  | zero => intro x1 h r hI; cases hI
  | succ f ih0 =>
    intro x1 h r hI hX
    obtain ⟨b, hF, hb1, hb2⟩ := it_succ hI
    have hF : fX6_undo_l26 x1 h = some b := hF
    unfold fX6_undo_l26 at hF
    refine aw_iload_n hC dX6_undo_26 rfl ?_
    refine aw_bipush hC dX6_undo_27 (by decide) (by decide) ?_
    refine aw_icmp_ge (tgt := 58) hC dX6_undo_29 (by decide) (fun c4 => ?_) (fun c4 => ?_)
    · have hF := it_t hF c4
      refine aw_weak (ls' := [(2, ((35 : Nat) : Int)), (9, 0)]) ⟨Or.inr rfl, Or.inl rfl, trivial⟩ ?_
      exact hX _ (hb2 _ (Option.some.inj hF).symm).symm
    · have hF := it_f hF c4
      refine aw_aload_n hC dX6_undo_32 rfl ?_
      refine aw_gc6 (k := 46) (a := 35) (b := 54) hC hbt dX6_undo_33 lkRX6_75 (by decide) rfl rfl rfl (by decide) (by decide) ?_
      refine aw_iload_n hC dX6_undo_36 rfl ?_
      refine aw_aload_n hC dX6_undo_37 rfl ?_
      refine aw_gc6 (k := 48) (a := 35) (b := 56) hC hbt dX6_undo_38 lkRX6_81 (by decide) rfl rfl rfl (by decide) (by decide) ?_
      refine aw_bipush hC dX6_undo_41 (by decide) (by decide) ?_
      refine aw_aload_n hC dX6_undo_43 rfl ?_
      refine aw_g6i (k := 49) (a := 35) hC dX6_undo_44 lkRX6_310 (by decide) rfl rfl rfl (Or.inl ⟨hbt, by decide⟩) ?_
      refine aw_imul hC dX6_undo_47 ?_
      refine aw_iload_n hC dX6_undo_48 rfl ?_
      refine aw_iadd hC dX6_undo_49 ?_
      obtain ⟨g5, hF⟩ := gd_some hF
      refine aw_iaload (a := 56) hC dX6_undo_50 rfl rfl (Or.inl ⟨hbt, by decide⟩) g5.1 g5.2 ?_
      obtain ⟨g6, hF⟩ := gd_some hF
      obtain ⟨h7, eh7, hF⟩ := lb_some hF
      refine aw_iastore (a := 54) hC dX6_undo_51 rfl rfl (Or.inl ⟨hbt, by decide⟩) g6.1 g6.2 ?_
      refine aw_eqH eh7 ?_
      clear eh7
      refine aw_iinc1 hC dX6_undo_52 rfl ?_
      refine aw_goto (tgt := 26) hC dX6_undo_55 (by decide) ?_
      exact ih0 _ _ r (hb1 _ (Option.some.inj hF).symm) hX
theorem ok_X6_undo {G : GD} {n : Nat}  {h : Hp} {res : Int × Hp} (hF : fX6_undo  h = some res) : Con G yX6_undo cX6_undo 2 (some .int) 0 0 0 true [(2, ((35 : Nat) : Int))] n h (FQ 0 n res) := by
  refine con_of (pad := 1) (own := RX6) (plainFor_of_name (by decide)) rfl rfl ?_
  intro X hC hbt hr hnm hZ hRm hn0
  have hK : ∀ (x9 : Int) (h9 : Hp), res = (x9, h9) → FQ 0 n res (0, x9) n h9 := fun x9 h9 e => by subst e; exact ⟨rfl, rfl, rfl⟩
  unfold fX6_undo at hF
  show AW G X 0 [(2, ((35 : Nat) : Int)), (9, 0)] [] n h 0 0
  refine aw_aload_n hC dX6_undo_0 rfl ?_
  refine aw_iconst hC dX6_undo_1 (by decide) ?_
  obtain ⟨h1, eh1, hF⟩ := lb_some hF
  refine aw_p6i (k := 0) (a := 35) hC dX6_undo_2 lkRX6_129 (by decide) rfl rfl rfl rfl rfl (Or.inl ⟨hbt, by decide⟩) (fun _ => by decide) ?_
  refine aw_eqH eh1 ?_
  clear eh1
  refine aw_aload_n hC dX6_undo_5 rfl ?_
  refine aw_g6i (k := 49) (a := 35) hC dX6_undo_6 lkRX6_310 (by decide) rfl rfl rfl (Or.inl ⟨hbt, by decide⟩) ?_
  refine aw_if_ne (tgt := 14) hC dX6_undo_9 (by decide) (fun c2 => ?_) (fun c2 => ?_)
  · have hF := it_f hF c2
    refine aw_aload_n hC dX6_undo_14 rfl ?_
    refine aw_dup hC dX6_undo_15 (by simp) ?_
    refine aw_g6i (k := 49) (a := 35) hC dX6_undo_16 lkRX6_310 (by decide) rfl rfl rfl (Or.inl ⟨hbt, by decide⟩) ?_
    refine aw_iconst hC dX6_undo_19 (by decide) ?_
    refine aw_isub hC dX6_undo_20 ?_
    obtain ⟨h3, eh3, hF⟩ := lb_some hF
    refine aw_p6i (k := 49) (a := 35) hC dX6_undo_21 lkRX6_310 (by decide) rfl rfl rfl rfl rfl (Or.inl ⟨hbt, by decide⟩) (fun _ => by decide) ?_
    refine aw_eqH eh3 ?_
    clear eh3
    refine aw_iconst hC dX6_undo_24 (by decide) ?_
    refine aw_istore1 hC dX6_undo_25 rfl ?_
    obtain ⟨e9, he, hF⟩ := bp_some hF
    refine fX6_undo_l26_ok hC hZ hRm hbt hr FU _ _ e9 he (fun h10 er => ?_)
    replace er := er.symm
    subst er
    try dsimp only at hF
    refine aw_aload_n hC dX6_undo_58 rfl ?_
    refine aw_g6i (k := 49) (a := 35) hC dX6_undo_59 lkRX6_310 (by decide) rfl rfl rfl (Or.inl ⟨hbt, by decide⟩) ?_
    exact aw_ireturn hC hZ (Nat.zero_le _) (Nat.zero_le _) hr dX6_undo_62 (hK _ _ (Option.some.inj hF).symm)
  · have hF := it_t hF c2
    refine aw_iconst hC dX6_undo_12 (by decide) ?_
    exact aw_ireturn hC hZ (Nat.zero_le _) (Nat.zero_le _) hr dX6_undo_13 (hK _ _ (Option.some.inj hF).symm)
def fX6_cells  (h : Hp) : Option (Int) :=
  some ((i_mul ((h 35 1)) ((h 35 2))))
theorem ok_X6_cells {G : GD} {n : Nat}  {h : Hp} {res : Int} (hF : fX6_cells  h = some res) : Con G yX6_cells cX6_cells 1 (some .int) 0 0 0 true [(2, ((35 : Nat) : Int))] n h (FQ 0 n (res, h)) := by
  refine con_of (pad := 0) (own := RX6) (plainFor_of_name (by decide)) rfl rfl ?_
  intro X hC hbt hr hnm hZ hRm hn0
  have hK : ∀ (x9 : Int), res = x9 → FQ 0 n (res, h) (0, x9) n h := fun x9 e => by subst e; exact ⟨rfl, rfl, rfl⟩
  unfold fX6_cells at hF
  show AW G X 0 [(2, ((35 : Nat) : Int))] [] n h 0 0
  refine aw_aload_n hC dX6_cells_0 rfl ?_
  refine aw_g6i (k := 1) (a := 35) hC dX6_cells_1 lkRX6_7 (by decide) rfl rfl rfl (Or.inl ⟨hbt, by decide⟩) ?_
  refine aw_aload_n hC dX6_cells_4 rfl ?_
  refine aw_g6i (k := 2) (a := 35) hC dX6_cells_5 lkRX6_13 (by decide) rfl rfl rfl (Or.inl ⟨hbt, by decide⟩) ?_
  refine aw_imul hC dX6_cells_8 ?_
  exact aw_ireturn hC hZ (Nat.zero_le _) (Nat.zero_le _) hr dX6_cells_9 (hK _ (Option.some.inj hF).symm)
def fX6_treeIn_l2 (x1 : Int) (x2 : Int) (h : Hp) : Option ((Int) ⊕ ((Unit) ⊕ (Int))) :=
  (if 12 ≤ x2 then some (.inr (.inl ())) else gd_ (0 ≤ (i_add 0 x2) ∧ (i_add 0 x2) < 62) ((if (h 54 (Int.toNat ((i_add 0 x2)))) = x1 then some (.inr (.inr x2)) else some (.inl (i_add x2 1)))))
def fX6_treeIn (x1 : Int) (h : Hp) : Option (Int) :=
  bp_ (it_ (fun s => fX6_treeIn_l2 x1 s h) FU 0) (fun e5 => match e5 with | .inl e5 => some ((-1)) | .inr q9 => some q9)
theorem fX6_treeIn_l2_ok {G : GD} {X : CX} {n : Nat} {Q : Av → Nat → Hp → Prop} (hC : Cx G X RX6 cX6_treeIn) (hZ : ZOK X G Q 0 0) (hRm : X.R = rmd 0 0 0) (hbt : X.bt = true) (hr : X.meth.sig.returnType = (some .int)) {x1 : Int} {h : Hp} : ∀ (f : Nat) (x2 : Int) (r : (Unit) ⊕ (Int)), it_ (fun s => fX6_treeIn_l2 x1 s h) f x2 = some r → (r = (.inl ()) → AW G X 28 [(9, 0), (9, 0), (9, 0)] [] n h 0 0) → (∀ (x9 : Int), r = .inr x9 → Q (0, x9) n h) → AW G X 2 [(2, ((35 : Nat) : Int)), (0, x1), (0, x2)] [] n h 0 0 := by
  intro f
  induction f with
  | zero => intro x2 r hI; cases hI
  | succ f ih0 =>
    intro x2 r hI hX hRet9
    obtain ⟨b, hF, hb1, hb2⟩ := it_succ hI
    have hF : fX6_treeIn_l2 x1 x2 h = some b := hF
    have hRet : ∀ (x9 : Int), b = .inr (.inr x9) → Q (0, x9) n h := fun x9 e => hRet9 x9 (hb2 _ e).symm
    unfold fX6_treeIn_l2 at hF
    refine aw_iload_n hC dX6_treeIn_2 rfl ?_
    refine aw_bipush hC dX6_treeIn_3 (by decide) (by decide) ?_
    refine aw_icmp_ge (tgt := 28) hC dX6_treeIn_5 (by decide) (fun c1 => ?_) (fun c1 => ?_)
    · have hF := it_t hF c1
      refine aw_weak (ls' := [(9, 0), (9, 0), (9, 0)]) ⟨Or.inl rfl, Or.inl rfl, Or.inl rfl, trivial⟩ ?_
      exact hX (hb2 _ (Option.some.inj hF).symm).symm
    · have hF := it_f hF c1
      refine aw_aload_n hC dX6_treeIn_8 rfl ?_
      refine aw_gc6 (k := 46) (a := 35) (b := 54) hC hbt dX6_treeIn_9 lkRX6_75 (by decide) rfl rfl rfl (by decide) (by decide) ?_
      refine aw_iconst hC dX6_treeIn_12 (by decide) ?_
      refine aw_iload_n hC dX6_treeIn_13 rfl ?_
      refine aw_iadd hC dX6_treeIn_14 ?_
      obtain ⟨g2, hF⟩ := gd_some hF
      refine aw_iaload (a := 54) hC dX6_treeIn_15 rfl rfl (Or.inl ⟨hbt, by decide⟩) g2.1 g2.2 ?_
      refine aw_iload_n hC dX6_treeIn_16 rfl ?_
      refine aw_icmp_ne (tgt := 22) hC dX6_treeIn_17 (by decide) (fun c3 => ?_) (fun c3 => ?_)
      · have hF := it_f hF c3
        refine aw_iinc2 hC dX6_treeIn_22 rfl ?_
        refine aw_goto (tgt := 2) hC dX6_treeIn_25 (by decide) ?_
        exact ih0 _ r (hb1 _ (Option.some.inj hF).symm) hX hRet9
      · have hF := it_t hF c3
        refine aw_iload_n hC dX6_treeIn_20 rfl ?_
        exact aw_ireturn hC hZ (Nat.zero_le _) (Nat.zero_le _) hr dX6_treeIn_21 (hRet _ (Option.some.inj hF).symm)
theorem ok_X6_treeIn {G : GD} {n : Nat} {x1 : Int} {h : Hp} {res : Int} (hF : fX6_treeIn x1 h = some res) : Con G yX6_treeIn cX6_treeIn 3 (some .int) 0 0 0 true [(2, ((35 : Nat) : Int)), (0, x1)] n h (FQ 0 n (res, h)) := by
  refine con_of (pad := 1) (own := RX6) (plainFor_of_name (by decide)) rfl rfl ?_
  intro X hC hbt hr hnm hZ hRm hn0
  have hK : ∀ (x9 : Int), res = x9 → FQ 0 n (res, h) (0, x9) n h := fun x9 e => by subst e; exact ⟨rfl, rfl, rfl⟩
  unfold fX6_treeIn at hF
  show AW G X 0 [(2, ((35 : Nat) : Int)), (0, x1), (9, 0)] [] n h 0 0
  refine aw_iconst hC dX6_treeIn_0 (by decide) ?_
  refine aw_istore2 hC dX6_treeIn_1 rfl ?_
  obtain ⟨e5, he, hF⟩ := bp_some hF
  refine fX6_treeIn_l2_ok hC hZ hRm hbt hr FU _ e5 he (fun er => ?_) (fun x9 e => by subst e; exact hK _ (Option.some.inj hF).symm)
  replace er := er.symm
  subst er
  try dsimp only at hF
  refine aw_iconst hC dX6_treeIn_28 (by decide) ?_
  exact aw_ireturn hC hZ (Nat.zero_le _) (Nat.zero_le _) hr dX6_treeIn_29 (hK _ (Option.some.inj hF).symm)
def fX6_houseIn_l2 (x1 : Int) (x2 : Int) (h : Hp) : Option ((Int) ⊕ ((Unit) ⊕ (Int))) :=
  (if (h 35 3) ≤ x2 then some (.inr (.inl ())) else gd_ (0 ≤ x2 ∧ x2 < 7) ((if (h 37 (Int.toNat x2)) = x1 then some (.inr (.inr x2)) else some (.inl (i_add x2 1)))))
def fX6_houseIn (x1 : Int) (h : Hp) : Option (Int) :=
  bp_ (it_ (fun s => fX6_houseIn_l2 x1 s h) FU 0) (fun e5 => match e5 with | .inl e5 => some ((-1)) | .inr q9 => some q9)
theorem fX6_houseIn_l2_ok {G : GD} {X : CX} {n : Nat} {Q : Av → Nat → Hp → Prop} (hC : Cx G X RX6 cX6_houseIn) (hZ : ZOK X G Q 0 0) (hRm : X.R = rmd 0 0 0) (hbt : X.bt = true) (hr : X.meth.sig.returnType = (some .int)) {x1 : Int} {h : Hp} : ∀ (f : Nat) (x2 : Int) (r : (Unit) ⊕ (Int)), it_ (fun s => fX6_houseIn_l2 x1 s h) f x2 = some r → (r = (.inl ()) → AW G X 28 [(9, 0), (9, 0), (9, 0)] [] n h 0 0) → (∀ (x9 : Int), r = .inr x9 → Q (0, x9) n h) → AW G X 2 [(2, ((35 : Nat) : Int)), (0, x1), (0, x2)] [] n h 0 0 := by
  intro f
  induction f with
  | zero => intro x2 r hI; cases hI
  | succ f ih0 =>
    intro x2 r hI hX hRet9
    obtain ⟨b, hF, hb1, hb2⟩ := it_succ hI
    have hF : fX6_houseIn_l2 x1 x2 h = some b := hF
    have hRet : ∀ (x9 : Int), b = .inr (.inr x9) → Q (0, x9) n h := fun x9 e => hRet9 x9 (hb2 _ e).symm
    unfold fX6_houseIn_l2 at hF
    refine aw_iload_n hC dX6_houseIn_2 rfl ?_
    refine aw_aload_n hC dX6_houseIn_3 rfl ?_
    refine aw_g6i (k := 3) (a := 35) hC dX6_houseIn_4 lkRX6_297 (by decide) rfl rfl rfl (Or.inl ⟨hbt, by decide⟩) ?_
    refine aw_icmp_ge (tgt := 28) hC dX6_houseIn_7 (by decide) (fun c1 => ?_) (fun c1 => ?_)
    · have hF := it_t hF c1
      refine aw_weak (ls' := [(9, 0), (9, 0), (9, 0)]) ⟨Or.inl rfl, Or.inl rfl, Or.inl rfl, trivial⟩ ?_
      exact hX (hb2 _ (Option.some.inj hF).symm).symm
    · have hF := it_f hF c1
      refine aw_aload_n hC dX6_houseIn_10 rfl ?_
      refine aw_gc6 (k := 7) (a := 35) (b := 37) hC hbt dX6_houseIn_11 lkRX6_20 (by decide) rfl rfl rfl (by decide) (by decide) ?_
      refine aw_iload_n hC dX6_houseIn_14 rfl ?_
      obtain ⟨g2, hF⟩ := gd_some hF
      refine aw_iaload (a := 37) hC dX6_houseIn_15 rfl rfl (Or.inl ⟨hbt, by decide⟩) g2.1 g2.2 ?_
      refine aw_iload_n hC dX6_houseIn_16 rfl ?_
      refine aw_icmp_ne (tgt := 22) hC dX6_houseIn_17 (by decide) (fun c3 => ?_) (fun c3 => ?_)
      · have hF := it_f hF c3
        refine aw_iinc2 hC dX6_houseIn_22 rfl ?_
        refine aw_goto (tgt := 2) hC dX6_houseIn_25 (by decide) ?_
        exact ih0 _ r (hb1 _ (Option.some.inj hF).symm) hX hRet9
      · have hF := it_t hF c3
        refine aw_iload_n hC dX6_houseIn_20 rfl ?_
        exact aw_ireturn hC hZ (Nat.zero_le _) (Nat.zero_le _) hr dX6_houseIn_21 (hRet _ (Option.some.inj hF).symm)
theorem ok_X6_houseIn {G : GD} {n : Nat} {x1 : Int} {h : Hp} {res : Int} (hF : fX6_houseIn x1 h = some res) : Con G yX6_houseIn cX6_houseIn 3 (some .int) 0 0 0 true [(2, ((35 : Nat) : Int)), (0, x1)] n h (FQ 0 n (res, h)) := by
  refine con_of (pad := 1) (own := RX6) (plainFor_of_name (by decide)) rfl rfl ?_
  intro X hC hbt hr hnm hZ hRm hn0
  have hK : ∀ (x9 : Int), res = x9 → FQ 0 n (res, h) (0, x9) n h := fun x9 e => by subst e; exact ⟨rfl, rfl, rfl⟩
  unfold fX6_houseIn at hF
  show AW G X 0 [(2, ((35 : Nat) : Int)), (0, x1), (9, 0)] [] n h 0 0
  refine aw_iconst hC dX6_houseIn_0 (by decide) ?_
  refine aw_istore2 hC dX6_houseIn_1 rfl ?_
  obtain ⟨e5, he, hF⟩ := bp_some hF
  refine fX6_houseIn_l2_ok hC hZ hRm hbt hr FU _ e5 he (fun er => ?_) (fun x9 e => by subst e; exact hK _ (Option.some.inj hF).symm)
  replace er := er.symm
  subst er
  try dsimp only at hF
  refine aw_iconst hC dX6_houseIn_28 (by decide) ?_
  exact aw_ireturn hC hZ (Nat.zero_le _) (Nat.zero_le _) hr dX6_houseIn_29 (hK _ (Option.some.inj hF).symm)
def fX6_laysOut_j70 (x1 : Int) (z0 : Int) (z1 : Int) (z2 : Int) (h : Hp) : Option ((Int × Hp) ⊕ (Hp)) :=
  gd_ (0 ≤ z2 ∧ z2 < 64) (lb_ (st h 57 (Int.toNat z2) ((i_add z1 z0))) (fun h12 => some (.inl ((i_add x1 1), h12))))
def fX6_laysOut_l2 (x1 : Int) (h : Hp) : Option ((Int × Hp) ⊕ (Hp)) :=
  bp_ (fX6_cells h) (fun r1 => (if r1 ≤ x1 then some (.inr h) else bp_ (fX6_houseIn x1 h) (fun r4 => bp_ (fX6_treeIn x1 h) (fun r6 => gd_ (0 ≤ x1 ∧ x1 < 64) ((if r4 = (-1) then (if r6 = (-1) then fX6_laysOut_j70 x1 0 ((h 36 (Int.toNat x1))) x1 h else gd_ (0 ≤ (i_add 12 r6) ∧ (i_add 12 r6) < 62) (fX6_laysOut_j70 x1 ((h 54 (Int.toNat ((i_add 12 r6))))) ((h 36 (Int.toNat x1))) x1 h)) else gd_ (0 ≤ (i_add 48 r4) ∧ (i_add 48 r4) < 62) (fX6_laysOut_j70 x1 ((i_add 2 ((h 54 (Int.toNat ((i_add 48 r4))))))) ((h 36 (Int.toNat x1))) x1 h)))))))
def fX6_laysOut_j107  (h : Hp) : Option (Int × Hp) :=
  (if (h 35 53) = (-1) then some (0, h) else gd_ (0 ≤ (h 35 53) ∧ (h 35 53) < 64) (gd_ (0 ≤ (h 35 53) ∧ (h 35 53) < 64) (lb_ (st h 57 (Int.toNat ((h 35 53))) ((i_add ((h 36 (Int.toNat ((h 35 53))))) 9))) (fun h22 => some (0, h22)))))
def fX6_laysOut  (h : Hp) : Option (Int × Hp) :=
  bp_ (it_ (fun s => fX6_laysOut_l2 s.1 s.2) FU (0, h)) (fun e16 => (fun h17 => (if (h17 35 52) = (-1) then fX6_laysOut_j107 h17 else gd_ (0 ≤ (h17 35 52) ∧ (h17 35 52) < 64) (gd_ (0 ≤ (h17 35 52) ∧ (h17 35 52) < 64) (lb_ (st h17 57 (Int.toNat ((h17 35 52))) ((i_add ((h17 36 (Int.toNat ((h17 35 52))))) 9))) (fun h25 => fX6_laysOut_j107 h25))))) e16)
theorem fX6_laysOut_j70_ok {G : GD} {X : CX} {n : Nat} {Q : Av → Nat → Hp → Prop} (hC : Cx G X RX6 cX6_laysOut) (hZ : ZOK X G Q 0 0) (hRm : X.R = rmd 1 0 0) (hbt : X.bt = true) (hr : X.meth.sig.returnType = none) {x1 : Int} {z0 : Int} {z1 : Int} {z2 : Int} {h : Hp} {b : (Int × Hp) ⊕ (Hp)} (hF : fX6_laysOut_j70 x1 z0 z1 z2 h = some b) (hL9 : ∀ (u1 : Int) (h9 : Hp), b = .inl (u1, h9) → AW G X 2 [(2, ((35 : Nat) : Int)), (0, u1), (9, 0), (9, 0)] [] n h9 0 0) (hX9 : ∀ (h9 : Hp), b = .inr h9 → AW G X 78 [(2, ((35 : Nat) : Int)), (9, 0), (9, 0), (9, 0)] [] n h9 0 0) : AW G X 70 [(2, ((35 : Nat) : Int)), (0, x1), (9, 0), (9, 0)] [(0, z0), (0, z1), (0, z2), (2, ((57 : Nat) : Int))] n h 0 0 := by
  unfold fX6_laysOut_j70 at hF
  refine aw_iadd hC dX6_laysOut_70 ?_
  obtain ⟨g11, hF⟩ := gd_some hF
  obtain ⟨h12, eh12, hF⟩ := lb_some hF
  refine aw_iastore (a := 57) hC dX6_laysOut_71 rfl rfl (Or.inl ⟨hbt, by decide⟩) g11.1 g11.2 ?_
  refine aw_eqH eh12 ?_
  clear eh12
  refine aw_iinc1 hC dX6_laysOut_72 rfl ?_
  refine aw_goto (tgt := 2) hC dX6_laysOut_75 (by decide) ?_
  exact hL9 _ _ (Option.some.inj hF).symm
theorem fX6_laysOut_l2_ok {G : GD} {X : CX} {n : Nat} {Q : Av → Nat → Hp → Prop} (hC : Cx G X RX6 cX6_laysOut) (hZ : ZOK X G Q 0 0) (hRm : X.R = rmd 1 0 0) (hbt : X.bt = true) (hr : X.meth.sig.returnType = none)  : ∀ (f : Nat) (x1 : Int) (h : Hp) (r : Hp), it_ (fun s => fX6_laysOut_l2 s.1 s.2) f (x1, h) = some r → (∀ (h9 : Hp), r = h9 → AW G X 78 [(2, ((35 : Nat) : Int)), (9, 0), (9, 0), (9, 0)] [] n h9 0 0) → AW G X 2 [(2, ((35 : Nat) : Int)), (0, x1), (9, 0), (9, 0)] [] n h 0 0 := by
  intro f
  induction f with
  | zero => intro x1 h r hI; cases hI
  | succ f ih0 =>
    intro x1 h r hI hX
    obtain ⟨b, hF, hb1, hb2⟩ := it_succ hI
    have hF : fX6_laysOut_l2 x1 h = some b := hF
    unfold fX6_laysOut_l2 at hF
    refine aw_iload_n hC dX6_laysOut_2 rfl ?_
    refine aw_aload_n hC dX6_laysOut_3 rfl ?_
    obtain ⟨r1, q2, hF⟩ := bp_some hF
    refine clRX6_323 hC hRm hbt dX6_laysOut_4 rfl rfl (by decide) (Nat.le_of_ble_eq_true rfl) (Nat.le_of_ble_eq_true rfl) (ok_X6_cells q2) ?_
    refine aw_icmp_ge (tgt := 78) hC dX6_laysOut_7 (by decide) (fun c3 => ?_) (fun c3 => ?_)
    · have hF := it_t hF c3
      refine aw_weak (ls' := [(2, ((35 : Nat) : Int)), (9, 0), (9, 0), (9, 0)]) ⟨Or.inr rfl, Or.inl rfl, Or.inl rfl, Or.inl rfl, trivial⟩ ?_
      exact hX _ (hb2 _ (Option.some.inj hF).symm).symm
    · have hF := it_f hF c3
      refine aw_aload_n hC dX6_laysOut_10 rfl ?_
      refine aw_iload_n hC dX6_laysOut_11 rfl ?_
      obtain ⟨r4, q5, hF⟩ := bp_some hF
      refine clRX6_326 hC hRm hbt dX6_laysOut_12 rfl rfl (by decide) (Nat.le_of_ble_eq_true rfl) (Nat.le_of_ble_eq_true rfl) (ok_X6_houseIn q5) ?_
      refine aw_istore2 hC dX6_laysOut_15 rfl ?_
      refine aw_aload_n hC dX6_laysOut_16 rfl ?_
      refine aw_iload_n hC dX6_laysOut_17 rfl ?_
      obtain ⟨r6, q7, hF⟩ := bp_some hF
      refine clRX6_329 hC hRm hbt dX6_laysOut_18 rfl rfl (by decide) (Nat.le_of_ble_eq_true rfl) (Nat.le_of_ble_eq_true rfl) (ok_X6_treeIn q7) ?_
      refine aw_istore3 hC dX6_laysOut_21 rfl ?_
      refine aw_aload_n hC dX6_laysOut_22 rfl ?_
      refine aw_gc6 (k := 50) (a := 35) (b := 57) hC hbt dX6_laysOut_23 lkRX6_84 (by decide) rfl rfl rfl (by decide) (by decide) ?_
      refine aw_iload_n hC dX6_laysOut_26 rfl ?_
      refine aw_aload_n hC dX6_laysOut_27 rfl ?_
      refine aw_gc6 (k := 6) (a := 35) (b := 36) hC hbt dX6_laysOut_28 lkRX6_16 (by decide) rfl rfl rfl (by decide) (by decide) ?_
      refine aw_iload_n hC dX6_laysOut_31 rfl ?_
      obtain ⟨g8, hF⟩ := gd_some hF
      refine aw_iaload (a := 36) hC dX6_laysOut_32 rfl rfl (Or.inl ⟨hbt, by decide⟩) g8.1 g8.2 ?_
      refine aw_iload_n hC dX6_laysOut_33 rfl ?_
      refine aw_iconst hC dX6_laysOut_34 (by decide) ?_
      refine aw_icmp_eq (tgt := 52) hC dX6_laysOut_35 (by decide) (fun c9 => ?_) (fun c9 => ?_)
      · have hF := it_t hF c9
        refine aw_iload_n hC dX6_laysOut_52 rfl ?_
        refine aw_iconst hC dX6_laysOut_53 (by decide) ?_
        refine aw_icmp_eq (tgt := 69) hC dX6_laysOut_54 (by decide) (fun c10 => ?_) (fun c10 => ?_)
        · have hF := it_t hF c10
          refine aw_iconst hC dX6_laysOut_69 (by decide) ?_
          refine aw_weak (ls' := [(2, ((35 : Nat) : Int)), (0, x1), (9, 0), (9, 0)]) ⟨Or.inr rfl, Or.inr rfl, Or.inl rfl, Or.inl rfl, trivial⟩ ?_
          exact fX6_laysOut_j70_ok hC hZ hRm hbt hr hF (fun u0 u1 e => ih0 u0 u1 r (hb1 _ e) hX) (fun w0 e => hX w0 (hb2 _ e).symm)
        · have hF := it_f hF c10
          refine aw_aload_n hC dX6_laysOut_57 rfl ?_
          refine aw_gc6 (k := 46) (a := 35) (b := 54) hC hbt dX6_laysOut_58 lkRX6_75 (by decide) rfl rfl rfl (by decide) (by decide) ?_
          refine aw_bipush hC dX6_laysOut_61 (by decide) (by decide) ?_
          refine aw_iload_n hC dX6_laysOut_63 rfl ?_
          refine aw_iadd hC dX6_laysOut_64 ?_
          obtain ⟨g14, hF⟩ := gd_some hF
          refine aw_iaload (a := 54) hC dX6_laysOut_65 rfl rfl (Or.inl ⟨hbt, by decide⟩) g14.1 g14.2 ?_
          refine aw_goto (tgt := 70) hC dX6_laysOut_66 (by decide) ?_
          refine aw_weak (ls' := [(2, ((35 : Nat) : Int)), (0, x1), (9, 0), (9, 0)]) ⟨Or.inr rfl, Or.inr rfl, Or.inl rfl, Or.inl rfl, trivial⟩ ?_
          exact fX6_laysOut_j70_ok hC hZ hRm hbt hr hF (fun u0 u1 e => ih0 u0 u1 r (hb1 _ e) hX) (fun w0 e => hX w0 (hb2 _ e).symm)
      · have hF := it_f hF c9
        refine aw_iconst hC dX6_laysOut_38 (by decide) ?_
        refine aw_aload_n hC dX6_laysOut_39 rfl ?_
        refine aw_gc6 (k := 46) (a := 35) (b := 54) hC hbt dX6_laysOut_40 lkRX6_75 (by decide) rfl rfl rfl (by decide) (by decide) ?_
        refine aw_bipush hC dX6_laysOut_43 (by decide) (by decide) ?_
        refine aw_iload_n hC dX6_laysOut_45 rfl ?_
        refine aw_iadd hC dX6_laysOut_46 ?_
        obtain ⟨g15, hF⟩ := gd_some hF
        refine aw_iaload (a := 54) hC dX6_laysOut_47 rfl rfl (Or.inl ⟨hbt, by decide⟩) g15.1 g15.2 ?_
        refine aw_iadd hC dX6_laysOut_48 ?_
        refine aw_goto (tgt := 70) hC dX6_laysOut_49 (by decide) ?_
        refine aw_weak (ls' := [(2, ((35 : Nat) : Int)), (0, x1), (9, 0), (9, 0)]) ⟨Or.inr rfl, Or.inr rfl, Or.inl rfl, Or.inl rfl, trivial⟩ ?_
        exact fX6_laysOut_j70_ok hC hZ hRm hbt hr hF (fun u0 u1 e => ih0 u0 u1 r (hb1 _ e) hX) (fun w0 e => hX w0 (hb2 _ e).symm)
theorem fX6_laysOut_j107_ok {G : GD} {X : CX} {n : Nat} {Q : Av → Nat → Hp → Prop} (hC : Cx G X RX6 cX6_laysOut) (hZ : ZOK X G Q 0 0) (hRm : X.R = rmd 1 0 0) (hbt : X.bt = true) (hr : X.meth.sig.returnType = none)  {h : Hp} {res : Int × Hp} (hF : fX6_laysOut_j107  h = some res) (hK : ∀ (x9 : Int) (h9 : Hp), res = (x9, h9) → Q (8, x9) n h9) : AW G X 107 [(2, ((35 : Nat) : Int)), (9, 0), (9, 0), (9, 0)] [] n h 0 0 := by
  unfold fX6_laysOut_j107 at hF
  refine aw_aload_n hC dX6_laysOut_107 rfl ?_
  refine aw_g6i (k := 53) (a := 35) hC dX6_laysOut_108 lkRX6_93 (by decide) rfl rfl rfl (Or.inl ⟨hbt, by decide⟩) ?_
  refine aw_iconst hC dX6_laysOut_111 (by decide) ?_
  refine aw_icmp_eq (tgt := 136) hC dX6_laysOut_112 (by decide) (fun c19 => ?_) (fun c19 => ?_)
  · have hF := it_t hF c19
    exact aw_return hC hZ (Nat.zero_le _) (Nat.zero_le _) hr dX6_laysOut_136 (hK _ _ (Option.some.inj hF).symm)
  · have hF := it_f hF c19
    refine aw_aload_n hC dX6_laysOut_115 rfl ?_
    refine aw_gc6 (k := 50) (a := 35) (b := 57) hC hbt dX6_laysOut_116 lkRX6_84 (by decide) rfl rfl rfl (by decide) (by decide) ?_
    refine aw_aload_n hC dX6_laysOut_119 rfl ?_
    refine aw_g6i (k := 53) (a := 35) hC dX6_laysOut_120 lkRX6_93 (by decide) rfl rfl rfl (Or.inl ⟨hbt, by decide⟩) ?_
    refine aw_aload_n hC dX6_laysOut_123 rfl ?_
    refine aw_gc6 (k := 6) (a := 35) (b := 36) hC hbt dX6_laysOut_124 lkRX6_16 (by decide) rfl rfl rfl (by decide) (by decide) ?_
    refine aw_aload_n hC dX6_laysOut_127 rfl ?_
    refine aw_g6i (k := 53) (a := 35) hC dX6_laysOut_128 lkRX6_93 (by decide) rfl rfl rfl (Or.inl ⟨hbt, by decide⟩) ?_
    obtain ⟨g20, hF⟩ := gd_some hF
    refine aw_iaload (a := 36) hC dX6_laysOut_131 rfl rfl (Or.inl ⟨hbt, by decide⟩) g20.1 g20.2 ?_
    refine aw_bipush hC dX6_laysOut_132 (by decide) (by decide) ?_
    refine aw_iadd hC dX6_laysOut_134 ?_
    obtain ⟨g21, hF⟩ := gd_some hF
    obtain ⟨h22, eh22, hF⟩ := lb_some hF
    refine aw_iastore (a := 57) hC dX6_laysOut_135 rfl rfl (Or.inl ⟨hbt, by decide⟩) g21.1 g21.2 ?_
    refine aw_eqH eh22 ?_
    clear eh22
    exact aw_return hC hZ (Nat.zero_le _) (Nat.zero_le _) hr dX6_laysOut_136 (hK _ _ (Option.some.inj hF).symm)
theorem ok_X6_laysOut {G : GD} {n : Nat}  {h : Hp} {res : Int × Hp} (hF : fX6_laysOut  h = some res) : Con G yX6_laysOut cX6_laysOut 4 none 1 0 0 true [(2, ((35 : Nat) : Int))] n h (FQ 8 n res) := by
  refine con_of (pad := 3) (own := RX6) (plainFor_of_name (by decide)) rfl rfl ?_
  intro X hC hbt hr hnm hZ hRm hn0
  have hK : ∀ (x9 : Int) (h9 : Hp), res = (x9, h9) → FQ 8 n res (8, x9) n h9 := fun x9 h9 e => by subst e; exact ⟨rfl, rfl, rfl⟩
  unfold fX6_laysOut at hF
  show AW G X 0 [(2, ((35 : Nat) : Int)), (9, 0), (9, 0), (9, 0)] [] n h 0 0
  refine aw_iconst hC dX6_laysOut_0 (by decide) ?_
  refine aw_istore1 hC dX6_laysOut_1 rfl ?_
  obtain ⟨e16, he, hF⟩ := bp_some hF
  refine fX6_laysOut_l2_ok hC hZ hRm hbt hr FU _ _ e16 he (fun h17 er => ?_)
  replace er := er.symm
  subst er
  try dsimp only at hF
  refine aw_aload_n hC dX6_laysOut_78 rfl ?_
  refine aw_g6i (k := 52) (a := 35) hC dX6_laysOut_79 lkRX6_90 (by decide) rfl rfl rfl (Or.inl ⟨hbt, by decide⟩) ?_
  refine aw_iconst hC dX6_laysOut_82 (by decide) ?_
  refine aw_icmp_eq (tgt := 107) hC dX6_laysOut_83 (by decide) (fun c18 => ?_) (fun c18 => ?_)
  · have hF := it_t hF c18
    exact fX6_laysOut_j107_ok hC hZ hRm hbt hr hF hK
  · have hF := it_f hF c18
    refine aw_aload_n hC dX6_laysOut_86 rfl ?_
    refine aw_gc6 (k := 50) (a := 35) (b := 57) hC hbt dX6_laysOut_87 lkRX6_84 (by decide) rfl rfl rfl (by decide) (by decide) ?_
    refine aw_aload_n hC dX6_laysOut_90 rfl ?_
    refine aw_g6i (k := 52) (a := 35) hC dX6_laysOut_91 lkRX6_90 (by decide) rfl rfl rfl (Or.inl ⟨hbt, by decide⟩) ?_
    refine aw_aload_n hC dX6_laysOut_94 rfl ?_
    refine aw_gc6 (k := 6) (a := 35) (b := 36) hC hbt dX6_laysOut_95 lkRX6_16 (by decide) rfl rfl rfl (by decide) (by decide) ?_
    refine aw_aload_n hC dX6_laysOut_98 rfl ?_
    refine aw_g6i (k := 52) (a := 35) hC dX6_laysOut_99 lkRX6_90 (by decide) rfl rfl rfl (Or.inl ⟨hbt, by decide⟩) ?_
    obtain ⟨g23, hF⟩ := gd_some hF
    refine aw_iaload (a := 36) hC dX6_laysOut_102 rfl rfl (Or.inl ⟨hbt, by decide⟩) g23.1 g23.2 ?_
    refine aw_bipush hC dX6_laysOut_103 (by decide) (by decide) ?_
    refine aw_iadd hC dX6_laysOut_105 ?_
    obtain ⟨g24, hF⟩ := gd_some hF
    obtain ⟨h25, eh25, hF⟩ := lb_some hF
    refine aw_iastore (a := 57) hC dX6_laysOut_106 rfl rfl (Or.inl ⟨hbt, by decide⟩) g24.1 g24.2 ?_
    refine aw_eqH eh25 ?_
    clear eh25
    exact fX6_laysOut_j107_ok hC hZ hRm hbt hr hF hK
def fX6_fogNow  (h : Hp) : Option (Int) :=
  (if (h 35 51) = (-1) then (if (h 35 5) = 0 then some 9 else gd_ (0 ≤ (61 : Int) ∧ (61 : Int) < 62) (gd_ ((h 35 5) ≠ 0) (gd_ (0 ≤ (i_rem ((h 54 (Int.toNat 61))) ((h 35 5))) ∧ (i_rem ((h 54 (Int.toNat 61))) ((h 35 5))) < 8) (some ((h 39 (Int.toNat ((i_rem ((h 54 (Int.toNat 61))) ((h 35 5))))))))))) else some ((h 35 51)))
theorem ok_X6_fogNow {G : GD} {n : Nat}  {h : Hp} {res : Int} (hF : fX6_fogNow  h = some res) : Con G yX6_fogNow cX6_fogNow 1 (some .int) 0 0 0 true [(2, ((35 : Nat) : Int))] n h (FQ 0 n (res, h)) := by
  refine con_of (pad := 0) (own := RX6) (plainFor_of_name (by decide)) rfl rfl ?_
  intro X hC hbt hr hnm hZ hRm hn0
  have hK : ∀ (x9 : Int), res = x9 → FQ 0 n (res, h) (0, x9) n h := fun x9 e => by subst e; exact ⟨rfl, rfl, rfl⟩
  unfold fX6_fogNow at hF
  show AW G X 0 [(2, ((35 : Nat) : Int))] [] n h 0 0
  refine aw_aload_n hC dX6_fogNow_0 rfl ?_
  refine aw_g6i (k := 51) (a := 35) hC dX6_fogNow_1 lkRX6_87 (by decide) rfl rfl rfl (Or.inl ⟨hbt, by decide⟩) ?_
  refine aw_iconst hC dX6_fogNow_4 (by decide) ?_
  refine aw_icmp_eq (tgt := 15) hC dX6_fogNow_5 (by decide) (fun c1 => ?_) (fun c1 => ?_)
  · have hF := it_t hF c1
    refine aw_aload_n hC dX6_fogNow_15 rfl ?_
    refine aw_g6i (k := 5) (a := 35) hC dX6_fogNow_16 lkRX6_303 (by decide) rfl rfl rfl (Or.inl ⟨hbt, by decide⟩) ?_
    refine aw_if_ne (tgt := 27) hC dX6_fogNow_19 (by decide) (fun c2 => ?_) (fun c2 => ?_)
    · have hF := it_f hF c2
      refine aw_aload_n hC dX6_fogNow_27 rfl ?_
      refine aw_gc6 (k := 9) (a := 35) (b := 39) hC hbt dX6_fogNow_28 lkRX6_26 (by decide) rfl rfl rfl (by decide) (by decide) ?_
      refine aw_aload_n hC dX6_fogNow_31 rfl ?_
      refine aw_gc6 (k := 46) (a := 35) (b := 54) hC hbt dX6_fogNow_32 lkRX6_75 (by decide) rfl rfl rfl (by decide) (by decide) ?_
      refine aw_bipush hC dX6_fogNow_35 (by decide) (by decide) ?_
      obtain ⟨g3, hF⟩ := gd_some hF
      refine aw_iaload (a := 54) hC dX6_fogNow_37 rfl rfl (Or.inl ⟨hbt, by decide⟩) g3.1 g3.2 ?_
      refine aw_aload_n hC dX6_fogNow_38 rfl ?_
      refine aw_g6i (k := 5) (a := 35) hC dX6_fogNow_39 lkRX6_303 (by decide) rfl rfl rfl (Or.inl ⟨hbt, by decide⟩) ?_
      obtain ⟨g4, hF⟩ := gd_some hF
      refine aw_irem hC dX6_fogNow_42 g4 ?_
      obtain ⟨g5, hF⟩ := gd_some hF
      refine aw_iaload (a := 39) hC dX6_fogNow_43 rfl rfl (Or.inl ⟨hbt, by decide⟩) g5.1 g5.2 ?_
      exact aw_ireturn hC hZ (Nat.zero_le _) (Nat.zero_le _) hr dX6_fogNow_44 (hK _ (Option.some.inj hF).symm)
    · have hF := it_t hF c2
      refine aw_bipush hC dX6_fogNow_22 (by decide) (by decide) ?_
      refine aw_goto (tgt := 44) hC dX6_fogNow_24 (by decide) ?_
      exact aw_ireturn hC hZ (Nat.zero_le _) (Nat.zero_le _) hr dX6_fogNow_44 (hK _ (Option.some.inj hF).symm)
  · have hF := it_f hF c1
    refine aw_aload_n hC dX6_fogNow_8 rfl ?_
    refine aw_g6i (k := 51) (a := 35) hC dX6_fogNow_9 lkRX6_87 (by decide) rfl rfl rfl (Or.inl ⟨hbt, by decide⟩) ?_
    refine aw_goto (tgt := 44) hC dX6_fogNow_12 (by decide) ?_
    exact aw_ireturn hC hZ (Nat.zero_le _) (Nat.zero_le _) hr dX6_fogNow_44 (hK _ (Option.some.inj hF).symm)
def fX6_across (x0 : Int) (h : Hp) : Option (Int) :=
  (if x0 = 0 then some 0 else (if x0 = 4 then some 0 else (if 4 ≤ x0 then some ((-1)) else some 1)))
theorem ok_X6_across {G : GD} {n : Nat} {x0 : Int} {h : Hp} {res : Int} (hF : fX6_across x0 h = some res) : Con G yX6_across cX6_across 1 (some .int) 0 0 0 true [(0, x0)] n h (FQ 0 n (res, h)) := by
  refine con_of (pad := 0) (own := RX6) (plainFor_of_name (by decide)) rfl rfl ?_
  intro X hC hbt hr hnm hZ hRm hn0
  have hK : ∀ (x9 : Int), res = x9 → FQ 0 n (res, h) (0, x9) n h := fun x9 e => by subst e; exact ⟨rfl, rfl, rfl⟩
  unfold fX6_across at hF
  show AW G X 0 [(0, x0)] [] n h 0 0
  refine aw_iload_n hC dX6_across_0 rfl ?_
  refine aw_if_eq (tgt := 9) hC dX6_across_1 (by decide) (fun c1 => ?_) (fun c1 => ?_)
  · have hF := it_t hF c1
    refine aw_iconst hC dX6_across_9 (by decide) ?_
    refine aw_goto (tgt := 23) hC dX6_across_10 (by decide) ?_
    exact aw_ireturn hC hZ (Nat.zero_le _) (Nat.zero_le _) hr dX6_across_23 (hK _ (Option.some.inj hF).symm)
  · have hF := it_f hF c1
    refine aw_iload_n hC dX6_across_4 rfl ?_
    refine aw_iconst hC dX6_across_5 (by decide) ?_
    refine aw_icmp_ne (tgt := 13) hC dX6_across_6 (by decide) (fun c2 => ?_) (fun c2 => ?_)
    · have hF := it_f hF c2
      refine aw_iload_n hC dX6_across_13 rfl ?_
      refine aw_iconst hC dX6_across_14 (by decide) ?_
      refine aw_icmp_ge (tgt := 22) hC dX6_across_15 (by decide) (fun c3 => ?_) (fun c3 => ?_)
      · have hF := it_t hF c3
        refine aw_iconst hC dX6_across_22 (by decide) ?_
        exact aw_ireturn hC hZ (Nat.zero_le _) (Nat.zero_le _) hr dX6_across_23 (hK _ (Option.some.inj hF).symm)
      · have hF := it_f hF c3
        refine aw_iconst hC dX6_across_18 (by decide) ?_
        refine aw_goto (tgt := 23) hC dX6_across_19 (by decide) ?_
        exact aw_ireturn hC hZ (Nat.zero_le _) (Nat.zero_le _) hr dX6_across_23 (hK _ (Option.some.inj hF).symm)
    · have hF := it_t hF c2
      refine aw_iconst hC dX6_across_9 (by decide) ?_
      refine aw_goto (tgt := 23) hC dX6_across_10 (by decide) ?_
      exact aw_ireturn hC hZ (Nat.zero_le _) (Nat.zero_le _) hr dX6_across_23 (hK _ (Option.some.inj hF).symm)
def fX6_down (x0 : Int) (h : Hp) : Option (Int) :=
  (if x0 = 2 then some 0 else (if x0 = 6 then some 0 else (if x0 ≤ 2 then some ((-1)) else (if 6 ≤ x0 then some ((-1)) else some 1))))
theorem ok_X6_down {G : GD} {n : Nat} {x0 : Int} {h : Hp} {res : Int} (hF : fX6_down x0 h = some res) : Con G yX6_down cX6_down 1 (some .int) 0 0 0 true [(0, x0)] n h (FQ 0 n (res, h)) := by
  refine con_of (pad := 0) (own := RX6) (plainFor_of_name (by decide)) rfl rfl ?_
  intro X hC hbt hr hnm hZ hRm hn0
  have hK : ∀ (x9 : Int), res = x9 → FQ 0 n (res, h) (0, x9) n h := fun x9 e => by subst e; exact ⟨rfl, rfl, rfl⟩
  unfold fX6_down at hF
  show AW G X 0 [(0, x0)] [] n h 0 0
  refine aw_iload_n hC dX6_down_0 rfl ?_
  refine aw_iconst hC dX6_down_1 (by decide) ?_
  refine aw_icmp_eq (tgt := 11) hC dX6_down_2 (by decide) (fun c1 => ?_) (fun c1 => ?_)
  · have hF := it_t hF c1
    refine aw_iconst hC dX6_down_11 (by decide) ?_
    refine aw_goto (tgt := 31) hC dX6_down_12 (by decide) ?_
    exact aw_ireturn hC hZ (Nat.zero_le _) (Nat.zero_le _) hr dX6_down_31 (hK _ (Option.some.inj hF).symm)
  · have hF := it_f hF c1
    refine aw_iload_n hC dX6_down_5 rfl ?_
    refine aw_bipush hC dX6_down_6 (by decide) (by decide) ?_
    refine aw_icmp_ne (tgt := 15) hC dX6_down_8 (by decide) (fun c2 => ?_) (fun c2 => ?_)
    · have hF := it_f hF c2
      refine aw_iload_n hC dX6_down_15 rfl ?_
      refine aw_iconst hC dX6_down_16 (by decide) ?_
      refine aw_icmp_le (tgt := 30) hC dX6_down_17 (by decide) (fun c3 => ?_) (fun c3 => ?_)
      · have hF := it_t hF c3
        refine aw_iconst hC dX6_down_30 (by decide) ?_
        exact aw_ireturn hC hZ (Nat.zero_le _) (Nat.zero_le _) hr dX6_down_31 (hK _ (Option.some.inj hF).symm)
      · have hF := it_f hF c3
        refine aw_iload_n hC dX6_down_20 rfl ?_
        refine aw_bipush hC dX6_down_21 (by decide) (by decide) ?_
        refine aw_icmp_ge (tgt := 30) hC dX6_down_23 (by decide) (fun c4 => ?_) (fun c4 => ?_)
        · have hF := it_t hF c4
          refine aw_iconst hC dX6_down_30 (by decide) ?_
          exact aw_ireturn hC hZ (Nat.zero_le _) (Nat.zero_le _) hr dX6_down_31 (hK _ (Option.some.inj hF).symm)
        · have hF := it_f hF c4
          refine aw_iconst hC dX6_down_26 (by decide) ?_
          refine aw_goto (tgt := 31) hC dX6_down_27 (by decide) ?_
          exact aw_ireturn hC hZ (Nat.zero_le _) (Nat.zero_le _) hr dX6_down_31 (hK _ (Option.some.inj hF).symm)
    · have hF := it_t hF c2
      refine aw_iconst hC dX6_down_11 (by decide) ?_
      refine aw_goto (tgt := 31) hC dX6_down_12 (by decide) ?_
      exact aw_ireturn hC hZ (Nat.zero_le _) (Nat.zero_le _) hr dX6_down_31 (hK _ (Option.some.inj hF).symm)
def fX6_looks_j140 (x2 : Int) (x3 : Int) (x4 : Int) (x5 : Int) (x6 : Int) (x7 : Int) (x8 : Int) (x9 : Int) (x10 : Int) (h : Hp) : Option ((Int × Int × Int × Int × Int × Int × Hp) ⊕ (Int × Hp)) :=
  bp_ (fX6_across x3 h) (fun r19 => lb_ ((i_add x5 r19)) (fun v21 => bp_ (fX6_down x3 h) (fun r22 => lb_ ((i_add x6 r22)) (fun v24 => some (.inl (v21, v24, x7, x8, x9, (i_add x10 1), h))))))
def fX6_looks_j115 (x2 : Int) (x3 : Int) (x4 : Int) (x5 : Int) (x6 : Int) (x10 : Int) (x11 : Int) (x12 : Int) (h : Hp) : Option ((Int × Int × Int × Int × Int × Int × Hp) ⊕ (Int × Hp)) :=
  lb_ (st h 35 54 ((l_or ((h 35 54)) ((l_shl 1 x11))))) (fun h18 => fX6_looks_j140 x2 x3 x4 x5 x6 x10 x12 x10 x10 h18)
def fX6_looks_l38 (x2 : Int) (x3 : Int) (x4 : Int) (x5 : Int) (x6 : Int) (x7 : Int) (x8 : Int) (x9 : Int) (x10 : Int) (h : Hp) : Option ((Int × Int × Int × Int × Int × Int × Hp) ⊕ (Int × Hp)) :=
  (if x4 < x10 then some (.inr (x7, h)) else (if x5 < 0 then some (.inr (x7, h)) else (if x6 < 0 then some (.inr (x7, h)) else (if (h 35 1) ≤ x5 then some (.inr (x7, h)) else (if (h 35 2) ≤ x6 then some (.inr (x7, h)) else lb_ ((i_add ((i_mul ((h 35 1)) x6)) x5)) (fun v14 => gd_ (0 ≤ v14 ∧ v14 < 64) (lb_ ((i_sub ((h 57 (Int.toNat v14))) x2)) (fun v16 => (if x10 = 1 then fX6_looks_j115 x2 x3 x4 x5 x6 x10 v14 v16 h else (if (i_mul v16 x9) ≤ (i_mul x8 x10) then fX6_looks_j140 x2 x3 x4 x5 x6 x7 x8 x9 x10 h else fX6_looks_j115 x2 x3 x4 x5 x6 x10 v14 v16 h))))))))))
def fX6_looks (x1 : Int) (x2 : Int) (x3 : Int) (x4 : Int) (h : Hp) : Option (Int × Hp) :=
  gd_ ((h 35 1) ≠ 0) (bp_ (fX6_across x3 h) (fun r2 => lb_ ((i_add ((i_rem x1 ((h 35 1)))) r2)) (fun v4 => gd_ ((h 35 1) ≠ 0) (bp_ (fX6_down x3 h) (fun r6 => lb_ ((i_add ((i_div x1 ((h 35 1)))) r6)) (fun v8 => bp_ (it_ (fun s => fX6_looks_l38 x2 x3 x4 s.1 s.2.1 s.2.2.1 s.2.2.2.1 s.2.2.2.2.1 s.2.2.2.2.2.1 s.2.2.2.2.2.2) FU (v4, v8, 0, 0, 0, 1, h)) (fun e27 => (fun y28 h29 => some (y28, h29)) e27.1 e27.2)))))))
theorem fX6_looks_j140_ok {G : GD} {X : CX} {n : Nat} {Q : Av → Nat → Hp → Prop} (hC : Cx G X RX6 cX6_looks) (hZ : ZOK X G Q 0 0) (hRm : X.R = rmd 1 0 0) (hbt : X.bt = true) (hr : X.meth.sig.returnType = (some .int)) {x2 : Int} {x3 : Int} {x4 : Int} {x5 : Int} {x6 : Int} {x7 : Int} {x8 : Int} {x9 : Int} {x10 : Int} {h : Hp} {b : (Int × Int × Int × Int × Int × Int × Hp) ⊕ (Int × Hp)} (hF : fX6_looks_j140 x2 x3 x4 x5 x6 x7 x8 x9 x10 h = some b) (hL9 : ∀ (u5 : Int) (u6 : Int) (u7 : Int) (u8 : Int) (u9 : Int) (u10 : Int) (h9 : Hp), b = .inl (u5, u6, u7, u8, u9, u10, h9) → AW G X 38 [(2, ((35 : Nat) : Int)), (9, 0), (0, x2), (0, x3), (0, x4), (0, u5), (0, u6), (0, u7), (0, u8), (0, u9), (0, u10), (9, 0), (9, 0)] [] n h9 0 0) (hX9 : ∀ (w7 : Int) (h9 : Hp), b = .inr (w7, h9) → AW G X 164 [(9, 0), (9, 0), (9, 0), (9, 0), (9, 0), (9, 0), (9, 0), (0, w7), (9, 0), (9, 0), (9, 0), (9, 0), (9, 0)] [] n h9 0 0) : AW G X 140 [(2, ((35 : Nat) : Int)), (9, 0), (0, x2), (0, x3), (0, x4), (0, x5), (0, x6), (0, x7), (0, x8), (0, x9), (0, x10), (9, 0), (9, 0)] [] n h 0 0 := by
  unfold fX6_looks_j140 at hF
  refine aw_iload hC dX6_looks_140 rfl ?_
  refine aw_iload_n hC dX6_looks_142 rfl ?_
  obtain ⟨r19, q20, hF⟩ := bp_some hF
  refine clRX6_332 hC hRm hbt dX6_looks_143 (Nat.le_of_ble_eq_true rfl) (Nat.le_of_ble_eq_true rfl) (ok_X6_across q20) ?_
  refine aw_iadd hC dX6_looks_146 ?_
  obtain ⟨v21, ev21, hF⟩ := lb_some hF
  refine aw_eqT ev21 ?_
  clear ev21
  refine aw_istore5 hC dX6_looks_147 rfl ?_
  refine aw_iload hC dX6_looks_149 rfl ?_
  refine aw_iload_n hC dX6_looks_151 rfl ?_
  obtain ⟨r22, q23, hF⟩ := bp_some hF
  refine clRX6_335 hC hRm hbt dX6_looks_152 (Nat.le_of_ble_eq_true rfl) (Nat.le_of_ble_eq_true rfl) (ok_X6_down q23) ?_
  refine aw_iadd hC dX6_looks_155 ?_
  obtain ⟨v24, ev24, hF⟩ := lb_some hF
  refine aw_eqT ev24 ?_
  clear ev24
  refine aw_istore6 hC dX6_looks_156 rfl ?_
  refine aw_iinc10 hC dX6_looks_158 rfl ?_
  refine aw_goto (tgt := 38) hC dX6_looks_161 (by decide) ?_
  exact hL9 _ _ _ _ _ _ _ (Option.some.inj hF).symm
theorem fX6_looks_j115_ok {G : GD} {X : CX} {n : Nat} {Q : Av → Nat → Hp → Prop} (hC : Cx G X RX6 cX6_looks) (hZ : ZOK X G Q 0 0) (hRm : X.R = rmd 1 0 0) (hbt : X.bt = true) (hr : X.meth.sig.returnType = (some .int)) {x2 : Int} {x3 : Int} {x4 : Int} {x5 : Int} {x6 : Int} {x10 : Int} {x11 : Int} {x12 : Int} {h : Hp} {b : (Int × Int × Int × Int × Int × Int × Hp) ⊕ (Int × Hp)} (hF : fX6_looks_j115 x2 x3 x4 x5 x6 x10 x11 x12 h = some b) (hL9 : ∀ (u5 : Int) (u6 : Int) (u7 : Int) (u8 : Int) (u9 : Int) (u10 : Int) (h9 : Hp), b = .inl (u5, u6, u7, u8, u9, u10, h9) → AW G X 38 [(2, ((35 : Nat) : Int)), (9, 0), (0, x2), (0, x3), (0, x4), (0, u5), (0, u6), (0, u7), (0, u8), (0, u9), (0, u10), (9, 0), (9, 0)] [] n h9 0 0) (hX9 : ∀ (w7 : Int) (h9 : Hp), b = .inr (w7, h9) → AW G X 164 [(9, 0), (9, 0), (9, 0), (9, 0), (9, 0), (9, 0), (9, 0), (0, w7), (9, 0), (9, 0), (9, 0), (9, 0), (9, 0)] [] n h9 0 0) : AW G X 115 [(2, ((35 : Nat) : Int)), (9, 0), (0, x2), (0, x3), (0, x4), (0, x5), (0, x6), (9, 0), (9, 0), (9, 0), (0, x10), (0, x11), (0, x12)] [] n h 0 0 := by
  unfold fX6_looks_j115 at hF
  refine aw_iload hC dX6_looks_115 rfl ?_
  refine aw_istore7 hC dX6_looks_117 rfl ?_
  refine aw_iload hC dX6_looks_119 rfl ?_
  refine aw_istore8 hC dX6_looks_121 rfl ?_
  refine aw_iload hC dX6_looks_123 rfl ?_
  refine aw_istore9 hC dX6_looks_125 rfl ?_
  refine aw_aload_n hC dX6_looks_127 rfl ?_
  refine aw_dup hC dX6_looks_128 (by simp) ?_
  refine aw_g6l (k := 54) (a := 35) hC dX6_looks_129 lkRX6_338 (by decide) rfl rfl rfl (Or.inl ⟨hbt, by decide⟩) ?_
  refine aw_lconst (v := 1) hC dX6_looks_132 (by decide) (by decide) ?_
  refine aw_iload hC dX6_looks_133 rfl ?_
  refine aw_lshl hC dX6_looks_135 ?_
  refine aw_lor hC dX6_looks_136 ?_
  obtain ⟨h18, eh18, hF⟩ := lb_some hF
  refine aw_p6l (k := 54) (a := 35) hC dX6_looks_137 lkRX6_338 (by decide) rfl rfl rfl rfl rfl (Or.inl ⟨hbt, by decide⟩) (fun _ => by decide) ?_
  refine aw_eqH eh18 ?_
  clear eh18
  refine aw_weak (ls' := [(2, ((35 : Nat) : Int)), (9, 0), (0, x2), (0, x3), (0, x4), (0, x5), (0, x6), (0, x10), (0, x12), (0, x10), (0, x10), (9, 0), (9, 0)]) ⟨Or.inr rfl, Or.inl rfl, Or.inr rfl, Or.inr rfl, Or.inr rfl, Or.inr rfl, Or.inr rfl, Or.inr rfl, Or.inr rfl, Or.inr rfl, Or.inr rfl, Or.inl rfl, Or.inl rfl, trivial⟩ ?_
  exact fX6_looks_j140_ok hC hZ hRm hbt hr hF (fun u0 u1 u2 u3 u4 u5 u6 e => hL9 u0 u1 u2 u3 u4 u5 u6 e) (fun w0 w1 e => hX9 w0 w1 e)
theorem fX6_looks_l38_ok {G : GD} {X : CX} {n : Nat} {Q : Av → Nat → Hp → Prop} (hC : Cx G X RX6 cX6_looks) (hZ : ZOK X G Q 0 0) (hRm : X.R = rmd 1 0 0) (hbt : X.bt = true) (hr : X.meth.sig.returnType = (some .int)) {x2 : Int} {x3 : Int} {x4 : Int} : ∀ (f : Nat) (x5 : Int) (x6 : Int) (x7 : Int) (x8 : Int) (x9 : Int) (x10 : Int) (h : Hp) (r : Int × Hp), it_ (fun s => fX6_looks_l38 x2 x3 x4 s.1 s.2.1 s.2.2.1 s.2.2.2.1 s.2.2.2.2.1 s.2.2.2.2.2.1 s.2.2.2.2.2.2) f (x5, x6, x7, x8, x9, x10, h) = some r → (∀ (y7 : Int) (h9 : Hp), r = (y7, h9) → AW G X 164 [(9, 0), (9, 0), (9, 0), (9, 0), (9, 0), (9, 0), (9, 0), (0, y7), (9, 0), (9, 0), (9, 0), (9, 0), (9, 0)] [] n h9 0 0) → AW G X 38 [(2, ((35 : Nat) : Int)), (9, 0), (0, x2), (0, x3), (0, x4), (0, x5), (0, x6), (0, x7), (0, x8), (0, x9), (0, x10), (9, 0), (9, 0)] [] n h 0 0 := by
  intro f
  induction f with
  | zero => intro x5 x6 x7 x8 x9 x10 h r hI; cases hI
  | succ f ih0 =>
    intro x5 x6 x7 x8 x9 x10 h r hI hX
    obtain ⟨b, hF, hb1, hb2⟩ := it_succ hI
    have hF : fX6_looks_l38 x2 x3 x4 x5 x6 x7 x8 x9 x10 h = some b := hF
    unfold fX6_looks_l38 at hF
    refine aw_iload hC dX6_looks_38 rfl ?_
    refine aw_iload hC dX6_looks_40 rfl ?_
    refine aw_icmp_gt (tgt := 164) hC dX6_looks_42 (by decide) (fun c9 => ?_) (fun c9 => ?_)
    · have hF := it_t hF c9
      refine aw_weak (ls' := [(9, 0), (9, 0), (9, 0), (9, 0), (9, 0), (9, 0), (9, 0), (0, x7), (9, 0), (9, 0), (9, 0), (9, 0), (9, 0)]) ⟨Or.inl rfl, Or.inl rfl, Or.inl rfl, Or.inl rfl, Or.inl rfl, Or.inl rfl, Or.inl rfl, Or.inr rfl, Or.inl rfl, Or.inl rfl, Or.inl rfl, Or.inl rfl, Or.inl rfl, trivial⟩ ?_
      exact hX _ _ (hb2 _ (Option.some.inj hF).symm).symm
    · have hF := it_f hF c9
      refine aw_iload hC dX6_looks_45 rfl ?_
      refine aw_if_lt (tgt := 164) hC dX6_looks_47 (by decide) (fun c10 => ?_) (fun c10 => ?_)
      · have hF := it_t hF c10
        refine aw_weak (ls' := [(9, 0), (9, 0), (9, 0), (9, 0), (9, 0), (9, 0), (9, 0), (0, x7), (9, 0), (9, 0), (9, 0), (9, 0), (9, 0)]) ⟨Or.inl rfl, Or.inl rfl, Or.inl rfl, Or.inl rfl, Or.inl rfl, Or.inl rfl, Or.inl rfl, Or.inr rfl, Or.inl rfl, Or.inl rfl, Or.inl rfl, Or.inl rfl, Or.inl rfl, trivial⟩ ?_
        exact hX _ _ (hb2 _ (Option.some.inj hF).symm).symm
      · have hF := it_f hF c10
        refine aw_iload hC dX6_looks_50 rfl ?_
        refine aw_if_lt (tgt := 164) hC dX6_looks_52 (by decide) (fun c11 => ?_) (fun c11 => ?_)
        · have hF := it_t hF c11
          refine aw_weak (ls' := [(9, 0), (9, 0), (9, 0), (9, 0), (9, 0), (9, 0), (9, 0), (0, x7), (9, 0), (9, 0), (9, 0), (9, 0), (9, 0)]) ⟨Or.inl rfl, Or.inl rfl, Or.inl rfl, Or.inl rfl, Or.inl rfl, Or.inl rfl, Or.inl rfl, Or.inr rfl, Or.inl rfl, Or.inl rfl, Or.inl rfl, Or.inl rfl, Or.inl rfl, trivial⟩ ?_
          exact hX _ _ (hb2 _ (Option.some.inj hF).symm).symm
        · have hF := it_f hF c11
          refine aw_iload hC dX6_looks_55 rfl ?_
          refine aw_aload_n hC dX6_looks_57 rfl ?_
          refine aw_g6i (k := 1) (a := 35) hC dX6_looks_58 lkRX6_7 (by decide) rfl rfl rfl (Or.inl ⟨hbt, by decide⟩) ?_
          refine aw_icmp_ge (tgt := 164) hC dX6_looks_61 (by decide) (fun c12 => ?_) (fun c12 => ?_)
          · have hF := it_t hF c12
            refine aw_weak (ls' := [(9, 0), (9, 0), (9, 0), (9, 0), (9, 0), (9, 0), (9, 0), (0, x7), (9, 0), (9, 0), (9, 0), (9, 0), (9, 0)]) ⟨Or.inl rfl, Or.inl rfl, Or.inl rfl, Or.inl rfl, Or.inl rfl, Or.inl rfl, Or.inl rfl, Or.inr rfl, Or.inl rfl, Or.inl rfl, Or.inl rfl, Or.inl rfl, Or.inl rfl, trivial⟩ ?_
            exact hX _ _ (hb2 _ (Option.some.inj hF).symm).symm
          · have hF := it_f hF c12
            refine aw_iload hC dX6_looks_64 rfl ?_
            refine aw_aload_n hC dX6_looks_66 rfl ?_
            refine aw_g6i (k := 2) (a := 35) hC dX6_looks_67 lkRX6_13 (by decide) rfl rfl rfl (Or.inl ⟨hbt, by decide⟩) ?_
            refine aw_icmp_ge (tgt := 164) hC dX6_looks_70 (by decide) (fun c13 => ?_) (fun c13 => ?_)
            · have hF := it_t hF c13
              refine aw_weak (ls' := [(9, 0), (9, 0), (9, 0), (9, 0), (9, 0), (9, 0), (9, 0), (0, x7), (9, 0), (9, 0), (9, 0), (9, 0), (9, 0)]) ⟨Or.inl rfl, Or.inl rfl, Or.inl rfl, Or.inl rfl, Or.inl rfl, Or.inl rfl, Or.inl rfl, Or.inr rfl, Or.inl rfl, Or.inl rfl, Or.inl rfl, Or.inl rfl, Or.inl rfl, trivial⟩ ?_
              exact hX _ _ (hb2 _ (Option.some.inj hF).symm).symm
            · have hF := it_f hF c13
              refine aw_aload_n hC dX6_looks_73 rfl ?_
              refine aw_g6i (k := 1) (a := 35) hC dX6_looks_74 lkRX6_7 (by decide) rfl rfl rfl (Or.inl ⟨hbt, by decide⟩) ?_
              refine aw_iload hC dX6_looks_77 rfl ?_
              refine aw_imul hC dX6_looks_79 ?_
              refine aw_iload hC dX6_looks_80 rfl ?_
              refine aw_iadd hC dX6_looks_82 ?_
              obtain ⟨v14, ev14, hF⟩ := lb_some hF
              refine aw_eqT ev14 ?_
              clear ev14
              refine aw_istore11 hC dX6_looks_83 rfl ?_
              refine aw_aload_n hC dX6_looks_85 rfl ?_
              refine aw_gc6 (k := 50) (a := 35) (b := 57) hC hbt dX6_looks_86 lkRX6_84 (by decide) rfl rfl rfl (by decide) (by decide) ?_
              refine aw_iload hC dX6_looks_89 rfl ?_
              obtain ⟨g15, hF⟩ := gd_some hF
              refine aw_iaload (a := 57) hC dX6_looks_91 rfl rfl (Or.inl ⟨hbt, by decide⟩) g15.1 g15.2 ?_
              refine aw_iload_n hC dX6_looks_92 rfl ?_
              refine aw_isub hC dX6_looks_93 ?_
              obtain ⟨v16, ev16, hF⟩ := lb_some hF
              refine aw_eqT ev16 ?_
              clear ev16
              refine aw_istore12 hC dX6_looks_94 rfl ?_
              refine aw_iload hC dX6_looks_96 rfl ?_
              refine aw_iconst hC dX6_looks_98 (by decide) ?_
              refine aw_icmp_eq (tgt := 115) hC dX6_looks_99 (by decide) (fun c17 => ?_) (fun c17 => ?_)
              · have hF := it_t hF c17
                refine aw_weak (ls' := [(2, ((35 : Nat) : Int)), (9, 0), (0, x2), (0, x3), (0, x4), (0, x5), (0, x6), (9, 0), (9, 0), (9, 0), (0, x10), (0, v14), (0, v16)]) ⟨Or.inr rfl, Or.inl rfl, Or.inr rfl, Or.inr rfl, Or.inr rfl, Or.inr rfl, Or.inr rfl, Or.inl rfl, Or.inl rfl, Or.inl rfl, Or.inr rfl, Or.inr rfl, Or.inr rfl, trivial⟩ ?_
                exact fX6_looks_j115_ok hC hZ hRm hbt hr hF (fun u0 u1 u2 u3 u4 u5 u6 e => ih0 u0 u1 u2 u3 u4 u5 u6 r (hb1 _ e) hX) (fun w0 w1 e => hX w0 w1 (hb2 _ e).symm)
              · have hF := it_f hF c17
                refine aw_iload hC dX6_looks_102 rfl ?_
                refine aw_iload hC dX6_looks_104 rfl ?_
                refine aw_imul hC dX6_looks_106 ?_
                refine aw_iload hC dX6_looks_107 rfl ?_
                refine aw_iload hC dX6_looks_109 rfl ?_
                refine aw_imul hC dX6_looks_111 ?_
                refine aw_icmp_le (tgt := 140) hC dX6_looks_112 (by decide) (fun c26 => ?_) (fun c26 => ?_)
                · have hF := it_t hF c26
                  refine aw_weak (ls' := [(2, ((35 : Nat) : Int)), (9, 0), (0, x2), (0, x3), (0, x4), (0, x5), (0, x6), (0, x7), (0, x8), (0, x9), (0, x10), (9, 0), (9, 0)]) ⟨Or.inr rfl, Or.inl rfl, Or.inr rfl, Or.inr rfl, Or.inr rfl, Or.inr rfl, Or.inr rfl, Or.inr rfl, Or.inr rfl, Or.inr rfl, Or.inr rfl, Or.inl rfl, Or.inl rfl, trivial⟩ ?_
                  exact fX6_looks_j140_ok hC hZ hRm hbt hr hF (fun u0 u1 u2 u3 u4 u5 u6 e => ih0 u0 u1 u2 u3 u4 u5 u6 r (hb1 _ e) hX) (fun w0 w1 e => hX w0 w1 (hb2 _ e).symm)
                · have hF := it_f hF c26
                  refine aw_weak (ls' := [(2, ((35 : Nat) : Int)), (9, 0), (0, x2), (0, x3), (0, x4), (0, x5), (0, x6), (9, 0), (9, 0), (9, 0), (0, x10), (0, v14), (0, v16)]) ⟨Or.inr rfl, Or.inl rfl, Or.inr rfl, Or.inr rfl, Or.inr rfl, Or.inr rfl, Or.inr rfl, Or.inl rfl, Or.inl rfl, Or.inl rfl, Or.inr rfl, Or.inr rfl, Or.inr rfl, trivial⟩ ?_
                  exact fX6_looks_j115_ok hC hZ hRm hbt hr hF (fun u0 u1 u2 u3 u4 u5 u6 e => ih0 u0 u1 u2 u3 u4 u5 u6 r (hb1 _ e) hX) (fun w0 w1 e => hX w0 w1 (hb2 _ e).symm)
theorem ok_X6_looks {G : GD} {n : Nat} {x1 : Int} {x2 : Int} {x3 : Int} {x4 : Int} {h : Hp} {res : Int × Hp} (hF : fX6_looks x1 x2 x3 x4 h = some res) : Con G yX6_looks cX6_looks 13 (some .int) 1 0 0 true [(2, ((35 : Nat) : Int)), (0, x1), (0, x2), (0, x3), (0, x4)] n h (FQ 0 n res) := by
  refine con_of (pad := 8) (own := RX6) (plainFor_of_name (by decide)) rfl rfl ?_
  intro X hC hbt hr hnm hZ hRm hn0
  have hK : ∀ (x9 : Int) (h9 : Hp), res = (x9, h9) → FQ 0 n res (0, x9) n h9 := fun x9 h9 e => by subst e; exact ⟨rfl, rfl, rfl⟩
  unfold fX6_looks at hF
  show AW G X 0 [(2, ((35 : Nat) : Int)), (0, x1), (0, x2), (0, x3), (0, x4), (9, 0), (9, 0), (9, 0), (9, 0), (9, 0), (9, 0), (9, 0), (9, 0)] [] n h 0 0
  refine aw_iload_n hC dX6_looks_0 rfl ?_
  refine aw_aload_n hC dX6_looks_1 rfl ?_
  refine aw_g6i (k := 1) (a := 35) hC dX6_looks_2 lkRX6_7 (by decide) rfl rfl rfl (Or.inl ⟨hbt, by decide⟩) ?_
  obtain ⟨g1, hF⟩ := gd_some hF
  refine aw_irem hC dX6_looks_5 g1 ?_
  refine aw_iload_n hC dX6_looks_6 rfl ?_
  obtain ⟨r2, q3, hF⟩ := bp_some hF
  refine clRX6_332 hC hRm hbt dX6_looks_7 (Nat.le_of_ble_eq_true rfl) (Nat.le_of_ble_eq_true rfl) (ok_X6_across q3) ?_
  refine aw_iadd hC dX6_looks_10 ?_
  obtain ⟨v4, ev4, hF⟩ := lb_some hF
  refine aw_eqT ev4 ?_
  clear ev4
  refine aw_istore5 hC dX6_looks_11 rfl ?_
  refine aw_iload_n hC dX6_looks_13 rfl ?_
  refine aw_aload_n hC dX6_looks_14 rfl ?_
  refine aw_g6i (k := 1) (a := 35) hC dX6_looks_15 lkRX6_7 (by decide) rfl rfl rfl (Or.inl ⟨hbt, by decide⟩) ?_
  obtain ⟨g5, hF⟩ := gd_some hF
  refine aw_idiv hC dX6_looks_18 g5 ?_
  refine aw_iload_n hC dX6_looks_19 rfl ?_
  obtain ⟨r6, q7, hF⟩ := bp_some hF
  refine clRX6_335 hC hRm hbt dX6_looks_20 (Nat.le_of_ble_eq_true rfl) (Nat.le_of_ble_eq_true rfl) (ok_X6_down q7) ?_
  refine aw_iadd hC dX6_looks_23 ?_
  obtain ⟨v8, ev8, hF⟩ := lb_some hF
  refine aw_eqT ev8 ?_
  clear ev8
  refine aw_istore6 hC dX6_looks_24 rfl ?_
  refine aw_iconst hC dX6_looks_26 (by decide) ?_
  refine aw_istore7 hC dX6_looks_27 rfl ?_
  refine aw_iconst hC dX6_looks_29 (by decide) ?_
  refine aw_istore8 hC dX6_looks_30 rfl ?_
  refine aw_iconst hC dX6_looks_32 (by decide) ?_
  refine aw_istore9 hC dX6_looks_33 rfl ?_
  refine aw_iconst hC dX6_looks_35 (by decide) ?_
  refine aw_istore10 hC dX6_looks_36 rfl ?_
  refine aw_weak (ls' := [(2, ((35 : Nat) : Int)), (9, 0), (0, x2), (0, x3), (0, x4), (0, v4), (0, v8), (0, 0), (0, 0), (0, 0), (0, 1), (9, 0), (9, 0)]) ⟨Or.inr rfl, Or.inl rfl, Or.inr rfl, Or.inr rfl, Or.inr rfl, Or.inr rfl, Or.inr rfl, Or.inr rfl, Or.inr rfl, Or.inr rfl, Or.inr rfl, Or.inl rfl, Or.inl rfl, trivial⟩ ?_
  obtain ⟨e27, he, hF⟩ := bp_some hF
  refine fX6_looks_l38_ok hC hZ hRm hbt hr FU _ _ _ _ _ _ _ e27 he (fun y28 h29 er => ?_)
  replace er := er.symm
  subst er
  try dsimp only at hF
  refine aw_iload hC dX6_looks_164 rfl ?_
  exact aw_ireturn hC hZ (Nat.zero_le _) (Nat.zero_le _) hr dX6_looks_166 (hK _ _ (Option.some.inj hF).symm)
def fX6_eyeOf (x1 : Int) (h : Hp) : Option (Int) :=
  gd_ (0 ≤ x1 ∧ x1 < 7) (gd_ (0 ≤ (h 37 (Int.toNat x1)) ∧ (h 37 (Int.toNat x1)) < 64) (gd_ (0 ≤ (i_add 42 x1) ∧ (i_add 42 x1) < 62) (some ((i_add ((i_add ((h 36 (Int.toNat ((h 37 (Int.toNat x1)))))) 2)) ((h 54 (Int.toNat ((i_add 42 x1))))))))))
theorem ok_X6_eyeOf {G : GD} {n : Nat} {x1 : Int} {h : Hp} {res : Int} (hF : fX6_eyeOf x1 h = some res) : Con G yX6_eyeOf cX6_eyeOf 2 (some .int) 0 0 0 true [(2, ((35 : Nat) : Int)), (0, x1)] n h (FQ 0 n (res, h)) := by
  refine con_of (pad := 0) (own := RX6) (plainFor_of_name (by decide)) rfl rfl ?_
  intro X hC hbt hr hnm hZ hRm hn0
  have hK : ∀ (x9 : Int), res = x9 → FQ 0 n (res, h) (0, x9) n h := fun x9 e => by subst e; exact ⟨rfl, rfl, rfl⟩
  unfold fX6_eyeOf at hF
  show AW G X 0 [(2, ((35 : Nat) : Int)), (0, x1)] [] n h 0 0
  refine aw_aload_n hC dX6_eyeOf_0 rfl ?_
  refine aw_gc6 (k := 6) (a := 35) (b := 36) hC hbt dX6_eyeOf_1 lkRX6_16 (by decide) rfl rfl rfl (by decide) (by decide) ?_
  refine aw_aload_n hC dX6_eyeOf_4 rfl ?_
  refine aw_gc6 (k := 7) (a := 35) (b := 37) hC hbt dX6_eyeOf_5 lkRX6_20 (by decide) rfl rfl rfl (by decide) (by decide) ?_
  refine aw_iload_n hC dX6_eyeOf_8 rfl ?_
  obtain ⟨g1, hF⟩ := gd_some hF
  refine aw_iaload (a := 37) hC dX6_eyeOf_9 rfl rfl (Or.inl ⟨hbt, by decide⟩) g1.1 g1.2 ?_
  obtain ⟨g2, hF⟩ := gd_some hF
  refine aw_iaload (a := 36) hC dX6_eyeOf_10 rfl rfl (Or.inl ⟨hbt, by decide⟩) g2.1 g2.2 ?_
  refine aw_iconst hC dX6_eyeOf_11 (by decide) ?_
  refine aw_iadd hC dX6_eyeOf_12 ?_
  refine aw_aload_n hC dX6_eyeOf_13 rfl ?_
  refine aw_gc6 (k := 46) (a := 35) (b := 54) hC hbt dX6_eyeOf_14 lkRX6_75 (by decide) rfl rfl rfl (by decide) (by decide) ?_
  refine aw_bipush hC dX6_eyeOf_17 (by decide) (by decide) ?_
  refine aw_iload_n hC dX6_eyeOf_19 rfl ?_
  refine aw_iadd hC dX6_eyeOf_20 ?_
  obtain ⟨g3, hF⟩ := gd_some hF
  refine aw_iaload (a := 54) hC dX6_eyeOf_21 rfl rfl (Or.inl ⟨hbt, by decide⟩) g3.1 g3.2 ?_
  refine aw_iadd hC dX6_eyeOf_22 ?_
  exact aw_ireturn hC hZ (Nat.zero_le _) (Nat.zero_le _) hr dX6_eyeOf_23 (hK _ (Option.some.inj hF).symm)
def fX6_milesIn (x1 : Int) (x2 : Int) (h : Hp) : Option (Int × Hp) :=
  gd_ (0 ≤ x1 ∧ x1 < 7) ((if (h 38 (Int.toNat x1)) = 2 then some (0, h) else gd_ (0 ≤ (i_add 54 x1) ∧ (i_add 54 x1) < 62) ((if (i_and ((i_shr ((h 54 (Int.toNat ((i_add 54 x1))))) x2)) 1) = 1 then some (0, h) else gd_ (0 ≤ x1 ∧ x1 < 7) (bp_ (fX6_eyeOf x1 h) (fun r6 => bp_ (fX6_fogNow h) (fun r8 => bd_ (fX6_looks ((h 37 (Int.toNat x1))) r6 x2 r8 h) (fun r10 h12 => some (r10, h12)))))))))
theorem ok_X6_milesIn {G : GD} {n : Nat} {x1 : Int} {x2 : Int} {h : Hp} {res : Int × Hp} (hF : fX6_milesIn x1 x2 h = some res) : Con G yX6_milesIn cX6_milesIn 3 (some .int) 2 0 0 true [(2, ((35 : Nat) : Int)), (0, x1), (0, x2)] n h (FQ 0 n res) := by
  refine con_of (pad := 0) (own := RX6) (plainFor_of_name (by decide)) rfl rfl ?_
  intro X hC hbt hr hnm hZ hRm hn0
  have hK : ∀ (x9 : Int) (h9 : Hp), res = (x9, h9) → FQ 0 n res (0, x9) n h9 := fun x9 h9 e => by subst e; exact ⟨rfl, rfl, rfl⟩
  unfold fX6_milesIn at hF
  show AW G X 0 [(2, ((35 : Nat) : Int)), (0, x1), (0, x2)] [] n h 0 0
  refine aw_aload_n hC dX6_milesIn_0 rfl ?_
  refine aw_gc6 (k := 8) (a := 35) (b := 38) hC hbt dX6_milesIn_1 lkRX6_23 (by decide) rfl rfl rfl (by decide) (by decide) ?_
  refine aw_iload_n hC dX6_milesIn_4 rfl ?_
  obtain ⟨g1, hF⟩ := gd_some hF
  refine aw_iaload (a := 38) hC dX6_milesIn_5 rfl rfl (Or.inl ⟨hbt, by decide⟩) g1.1 g1.2 ?_
  refine aw_iconst hC dX6_milesIn_6 (by decide) ?_
  refine aw_icmp_eq (tgt := 27) hC dX6_milesIn_7 (by decide) (fun c2 => ?_) (fun c2 => ?_)
  · have hF := it_t hF c2
    refine aw_iconst hC dX6_milesIn_27 (by decide) ?_
    exact aw_ireturn hC hZ (Nat.zero_le _) (Nat.zero_le _) hr dX6_milesIn_28 (hK _ _ (Option.some.inj hF).symm)
  · have hF := it_f hF c2
    refine aw_aload_n hC dX6_milesIn_10 rfl ?_
    refine aw_gc6 (k := 46) (a := 35) (b := 54) hC hbt dX6_milesIn_11 lkRX6_75 (by decide) rfl rfl rfl (by decide) (by decide) ?_
    refine aw_bipush hC dX6_milesIn_14 (by decide) (by decide) ?_
    refine aw_iload_n hC dX6_milesIn_16 rfl ?_
    refine aw_iadd hC dX6_milesIn_17 ?_
    obtain ⟨g3, hF⟩ := gd_some hF
    refine aw_iaload (a := 54) hC dX6_milesIn_18 rfl rfl (Or.inl ⟨hbt, by decide⟩) g3.1 g3.2 ?_
    refine aw_iload_n hC dX6_milesIn_19 rfl ?_
    refine aw_ishr hC dX6_milesIn_20 ?_
    refine aw_iconst hC dX6_milesIn_21 (by decide) ?_
    refine aw_iand hC dX6_milesIn_22 ?_
    refine aw_iconst hC dX6_milesIn_23 (by decide) ?_
    refine aw_icmp_ne (tgt := 29) hC dX6_milesIn_24 (by decide) (fun c4 => ?_) (fun c4 => ?_)
    · have hF := it_f hF c4
      refine aw_aload_n hC dX6_milesIn_29 rfl ?_
      refine aw_aload_n hC dX6_milesIn_30 rfl ?_
      refine aw_gc6 (k := 7) (a := 35) (b := 37) hC hbt dX6_milesIn_31 lkRX6_20 (by decide) rfl rfl rfl (by decide) (by decide) ?_
      refine aw_iload_n hC dX6_milesIn_34 rfl ?_
      obtain ⟨g5, hF⟩ := gd_some hF
      refine aw_iaload (a := 37) hC dX6_milesIn_35 rfl rfl (Or.inl ⟨hbt, by decide⟩) g5.1 g5.2 ?_
      refine aw_aload_n hC dX6_milesIn_36 rfl ?_
      refine aw_iload_n hC dX6_milesIn_37 rfl ?_
      obtain ⟨r6, q7, hF⟩ := bp_some hF
      refine clRX6_341 hC hRm hbt dX6_milesIn_38 rfl rfl (by decide) (Nat.le_of_ble_eq_true rfl) (Nat.le_of_ble_eq_true rfl) (ok_X6_eyeOf q7) ?_
      refine aw_iload_n hC dX6_milesIn_41 rfl ?_
      refine aw_aload_n hC dX6_milesIn_42 rfl ?_
      obtain ⟨r8, q9, hF⟩ := bp_some hF
      refine clRX6_344 hC hRm hbt dX6_milesIn_43 rfl rfl (by decide) (Nat.le_of_ble_eq_true rfl) (Nat.le_of_ble_eq_true rfl) (ok_X6_fogNow q9) ?_
      obtain ⟨r10, h12, q11, hF⟩ := bd_some hF
      refine clRX6_347 hC hRm hbt dX6_milesIn_46 rfl rfl (by decide) (Nat.le_of_ble_eq_true rfl) (Nat.le_of_ble_eq_true rfl) (ok_X6_looks q11) ?_
      exact aw_ireturn hC hZ (Nat.zero_le _) (Nat.zero_le _) hr dX6_milesIn_49 (hK _ _ (Option.some.inj hF).symm)
    · have hF := it_t hF c4
      refine aw_iconst hC dX6_milesIn_27 (by decide) ?_
      exact aw_ireturn hC hZ (Nat.zero_le _) (Nat.zero_le _) hr dX6_milesIn_28 (hK _ _ (Option.some.inj hF).symm)
def fX6_sees_j57 (x1 : Int) (x2 : Int) (z0 : Int) (h : Hp) : Option ((Int × Hp) ⊕ (Hp)) :=
  lb_ (st h 35 55 z0) (fun h10 => some (.inl ((i_add x2 1), h10)))
def fX6_sees_l17 (x1 : Int) (x2 : Int) (h : Hp) : Option ((Int × Hp) ⊕ (Hp)) :=
  (if 8 ≤ x2 then some (.inr h) else bd_ (fX6_milesIn x1 x2 h) (fun r5 h7 => lb_ (st h7 35 56 ((i_add ((h7 35 56)) r5))) (fun h8 => (if r5 ≤ (h8 35 55) then fX6_sees_j57 x1 x2 ((h8 35 55)) h8 else fX6_sees_j57 x1 x2 r5 h8))))
def fX6_sees (x1 : Int) (h : Hp) : Option (Int × Hp) :=
  lb_ (st h 35 54 0) (fun h1 => lb_ (st h1 35 55 0) (fun h2 => lb_ (st h2 35 56 0) (fun h3 => bp_ (it_ (fun s => fX6_sees_l17 x1 s.1 s.2) FU (0, h3)) (fun e12 => (fun h13 => some (0, h13)) e12))))
theorem fX6_sees_j57_ok {G : GD} {X : CX} {n : Nat} {Q : Av → Nat → Hp → Prop} (hC : Cx G X RX6 cX6_sees) (hZ : ZOK X G Q 0 0) (hRm : X.R = rmd 3 0 0) (hbt : X.bt = true) (hr : X.meth.sig.returnType = none) {x1 : Int} {x2 : Int} {z0 : Int} {h : Hp} {b : (Int × Hp) ⊕ (Hp)} (hF : fX6_sees_j57 x1 x2 z0 h = some b) (hL9 : ∀ (u2 : Int) (h9 : Hp), b = .inl (u2, h9) → AW G X 17 [(2, ((35 : Nat) : Int)), (0, x1), (0, u2), (9, 0)] [] n h9 0 0) (hX9 : ∀ (h9 : Hp), b = .inr h9 → AW G X 66 [(9, 0), (9, 0), (9, 0), (9, 0)] [] n h9 0 0) : AW G X 57 [(2, ((35 : Nat) : Int)), (0, x1), (0, x2), (9, 0)] [(0, z0), (2, ((35 : Nat) : Int))] n h 0 0 := by
  unfold fX6_sees_j57 at hF
  obtain ⟨h10, eh10, hF⟩ := lb_some hF
  refine aw_p6i (k := 55) (a := 35) hC dX6_sees_57 lkRX6_351 (by decide) rfl rfl rfl rfl rfl (Or.inl ⟨hbt, by decide⟩) (fun _ => by decide) ?_
  refine aw_eqH eh10 ?_
  clear eh10
  refine aw_iinc2 hC dX6_sees_60 rfl ?_
  refine aw_goto (tgt := 17) hC dX6_sees_63 (by decide) ?_
  exact hL9 _ _ (Option.some.inj hF).symm
theorem fX6_sees_l17_ok {G : GD} {X : CX} {n : Nat} {Q : Av → Nat → Hp → Prop} (hC : Cx G X RX6 cX6_sees) (hZ : ZOK X G Q 0 0) (hRm : X.R = rmd 3 0 0) (hbt : X.bt = true) (hr : X.meth.sig.returnType = none) {x1 : Int} : ∀ (f : Nat) (x2 : Int) (h : Hp) (r : Hp), it_ (fun s => fX6_sees_l17 x1 s.1 s.2) f (x2, h) = some r → (∀ (h9 : Hp), r = h9 → AW G X 66 [(9, 0), (9, 0), (9, 0), (9, 0)] [] n h9 0 0) → AW G X 17 [(2, ((35 : Nat) : Int)), (0, x1), (0, x2), (9, 0)] [] n h 0 0 := by
  intro f
  induction f with
  | zero => intro x2 h r hI; cases hI
  | succ f ih0 =>
    intro x2 h r hI hX
    obtain ⟨b, hF, hb1, hb2⟩ := it_succ hI
    have hF : fX6_sees_l17 x1 x2 h = some b := hF
    unfold fX6_sees_l17 at hF
    refine aw_iload_n hC dX6_sees_17 rfl ?_
    refine aw_bipush hC dX6_sees_18 (by decide) (by decide) ?_
    refine aw_icmp_ge (tgt := 66) hC dX6_sees_20 (by decide) (fun c4 => ?_) (fun c4 => ?_)
    · have hF := it_t hF c4
      refine aw_weak (ls' := [(9, 0), (9, 0), (9, 0), (9, 0)]) ⟨Or.inl rfl, Or.inl rfl, Or.inl rfl, Or.inl rfl, trivial⟩ ?_
      exact hX _ (hb2 _ (Option.some.inj hF).symm).symm
    · have hF := it_f hF c4
      refine aw_aload_n hC dX6_sees_23 rfl ?_
      refine aw_iload_n hC dX6_sees_24 rfl ?_
      refine aw_iload_n hC dX6_sees_25 rfl ?_
      obtain ⟨r5, h7, q6, hF⟩ := bd_some hF
      refine clRX6_357 hC hRm hbt dX6_sees_26 rfl rfl (by decide) (Nat.le_of_ble_eq_true rfl) (Nat.le_of_ble_eq_true rfl) (ok_X6_milesIn q6) ?_
      refine aw_istore3 hC dX6_sees_29 rfl ?_
      refine aw_aload_n hC dX6_sees_30 rfl ?_
      refine aw_dup hC dX6_sees_31 (by simp) ?_
      refine aw_g6i (k := 56) (a := 35) hC dX6_sees_32 lkRX6_354 (by decide) rfl rfl rfl (Or.inl ⟨hbt, by decide⟩) ?_
      refine aw_iload_n hC dX6_sees_35 rfl ?_
      refine aw_iadd hC dX6_sees_36 ?_
      obtain ⟨h8, eh8, hF⟩ := lb_some hF
      refine aw_p6i (k := 56) (a := 35) hC dX6_sees_37 lkRX6_354 (by decide) rfl rfl rfl rfl rfl (Or.inl ⟨hbt, by decide⟩) (fun _ => by decide) ?_
      refine aw_eqH eh8 ?_
      clear eh8
      refine aw_aload_n hC dX6_sees_40 rfl ?_
      refine aw_iload_n hC dX6_sees_41 rfl ?_
      refine aw_aload_n hC dX6_sees_42 rfl ?_
      refine aw_g6i (k := 55) (a := 35) hC dX6_sees_43 lkRX6_351 (by decide) rfl rfl rfl (Or.inl ⟨hbt, by decide⟩) ?_
      refine aw_icmp_le (tgt := 53) hC dX6_sees_46 (by decide) (fun c9 => ?_) (fun c9 => ?_)
      · have hF := it_t hF c9
        refine aw_aload_n hC dX6_sees_53 rfl ?_
        refine aw_g6i (k := 55) (a := 35) hC dX6_sees_54 lkRX6_351 (by decide) rfl rfl rfl (Or.inl ⟨hbt, by decide⟩) ?_
        refine aw_weak (ls' := [(2, ((35 : Nat) : Int)), (0, x1), (0, x2), (9, 0)]) ⟨Or.inr rfl, Or.inr rfl, Or.inr rfl, Or.inl rfl, trivial⟩ ?_
        exact fX6_sees_j57_ok hC hZ hRm hbt hr hF (fun u0 u1 e => ih0 u0 u1 r (hb1 _ e) hX) (fun w0 e => hX w0 (hb2 _ e).symm)
      · have hF := it_f hF c9
        refine aw_iload_n hC dX6_sees_49 rfl ?_
        refine aw_goto (tgt := 57) hC dX6_sees_50 (by decide) ?_
        refine aw_weak (ls' := [(2, ((35 : Nat) : Int)), (0, x1), (0, x2), (9, 0)]) ⟨Or.inr rfl, Or.inr rfl, Or.inr rfl, Or.inl rfl, trivial⟩ ?_
        exact fX6_sees_j57_ok hC hZ hRm hbt hr hF (fun u0 u1 e => ih0 u0 u1 r (hb1 _ e) hX) (fun w0 e => hX w0 (hb2 _ e).symm)
theorem ok_X6_sees {G : GD} {n : Nat} {x1 : Int} {h : Hp} {res : Int × Hp} (hF : fX6_sees x1 h = some res) : Con G yX6_sees cX6_sees 4 none 3 0 0 true [(2, ((35 : Nat) : Int)), (0, x1)] n h (FQ 8 n res) := by
  refine con_of (pad := 2) (own := RX6) (plainFor_of_name (by decide)) rfl rfl ?_
  intro X hC hbt hr hnm hZ hRm hn0
  have hK : ∀ (x9 : Int) (h9 : Hp), res = (x9, h9) → FQ 8 n res (8, x9) n h9 := fun x9 h9 e => by subst e; exact ⟨rfl, rfl, rfl⟩
  unfold fX6_sees at hF
  show AW G X 0 [(2, ((35 : Nat) : Int)), (0, x1), (9, 0), (9, 0)] [] n h 0 0
  refine aw_aload_n hC dX6_sees_0 rfl ?_
  refine aw_lconst (v := 0) hC dX6_sees_1 (by decide) (by decide) ?_
  obtain ⟨h1, eh1, hF⟩ := lb_some hF
  refine aw_p6l (k := 54) (a := 35) hC dX6_sees_2 lkRX6_338 (by decide) rfl rfl rfl rfl rfl (Or.inl ⟨hbt, by decide⟩) (fun _ => by decide) ?_
  refine aw_eqH eh1 ?_
  clear eh1
  refine aw_aload_n hC dX6_sees_5 rfl ?_
  refine aw_iconst hC dX6_sees_6 (by decide) ?_
  obtain ⟨h2, eh2, hF⟩ := lb_some hF
  refine aw_p6i (k := 55) (a := 35) hC dX6_sees_7 lkRX6_351 (by decide) rfl rfl rfl rfl rfl (Or.inl ⟨hbt, by decide⟩) (fun _ => by decide) ?_
  refine aw_eqH eh2 ?_
  clear eh2
  refine aw_aload_n hC dX6_sees_10 rfl ?_
  refine aw_iconst hC dX6_sees_11 (by decide) ?_
  obtain ⟨h3, eh3, hF⟩ := lb_some hF
  refine aw_p6i (k := 56) (a := 35) hC dX6_sees_12 lkRX6_354 (by decide) rfl rfl rfl rfl rfl (Or.inl ⟨hbt, by decide⟩) (fun _ => by decide) ?_
  refine aw_eqH eh3 ?_
  clear eh3
  refine aw_iconst hC dX6_sees_15 (by decide) ?_
  refine aw_istore2 hC dX6_sees_16 rfl ?_
  obtain ⟨e12, he, hF⟩ := bp_some hF
  refine fX6_sees_l17_ok hC hZ hRm hbt hr FU _ _ e12 he (fun h13 er => ?_)
  replace er := er.symm
  subst er
  try dsimp only at hF
  exact aw_return hC hZ (Nat.zero_le _) (Nat.zero_le _) hr dX6_sees_66 (hK _ _ (Option.some.inj hF).symm)
def fX6_housesSeen_l4 (x1 : Int) (x2 : Int) (x3 : Int) (h : Hp) : Option ((Int × Int) ⊕ (Int)) :=
  (if (h 35 3) ≤ x3 then some (.inr x2) else (if x3 = x1 then lb_ ((i_or x2 0)) (fun v3 => some (.inl (v3, (i_add x3 1)))) else gd_ (0 ≤ x3 ∧ x3 < 7) ((if (l_cmp ((l_and ((l_shr ((h 35 54)) ((h 37 (Int.toNat x3))))) 1)) 1) = 0 then lb_ ((i_or x2 ((i_shl 1 x3)))) (fun v9 => some (.inl (v9, (i_add x3 1)))) else lb_ ((i_or x2 0)) (fun v7 => some (.inl (v7, (i_add x3 1))))))))
def fX6_housesSeen (x1 : Int) (h : Hp) : Option (Int) :=
  bp_ (it_ (fun s => fX6_housesSeen_l4 x1 s.1 s.2 h) FU (0, 0)) (fun e11 => (fun y12 => some y12) e11)
theorem fX6_housesSeen_l4_ok {G : GD} {X : CX} {n : Nat} {Q : Av → Nat → Hp → Prop} (hC : Cx G X RX6 cX6_housesSeen) (hZ : ZOK X G Q 0 0) (hRm : X.R = rmd 0 0 0) (hbt : X.bt = true) (hr : X.meth.sig.returnType = (some .int)) {x1 : Int} {h : Hp} : ∀ (f : Nat) (x2 : Int) (x3 : Int) (r : Int), it_ (fun s => fX6_housesSeen_l4 x1 s.1 s.2 h) f (x2, x3) = some r → (∀ (y2 : Int), r = y2 → AW G X 51 [(9, 0), (9, 0), (0, y2), (9, 0)] [] n h 0 0) → AW G X 4 [(2, ((35 : Nat) : Int)), (0, x1), (0, x2), (0, x3)] [] n h 0 0 := by
  intro f
  induction f with
  | zero => intro x2 x3 r hI; cases hI
  | succ f ih0 =>
    intro x2 x3 r hI hX
    obtain ⟨b, hF, hb1, hb2⟩ := it_succ hI
    have hF : fX6_housesSeen_l4 x1 x2 x3 h = some b := hF
    unfold fX6_housesSeen_l4 at hF
    refine aw_iload_n hC dX6_housesSeen_4 rfl ?_
    refine aw_aload_n hC dX6_housesSeen_5 rfl ?_
    refine aw_g6i (k := 3) (a := 35) hC dX6_housesSeen_6 lkRX6_297 (by decide) rfl rfl rfl (Or.inl ⟨hbt, by decide⟩) ?_
    refine aw_icmp_ge (tgt := 51) hC dX6_housesSeen_9 (by decide) (fun c1 => ?_) (fun c1 => ?_)
    · have hF := it_t hF c1
      refine aw_weak (ls' := [(9, 0), (9, 0), (0, x2), (9, 0)]) ⟨Or.inl rfl, Or.inl rfl, Or.inr rfl, Or.inl rfl, trivial⟩ ?_
      exact hX _ (hb2 _ (Option.some.inj hF).symm).symm
    · have hF := it_f hF c1
      refine aw_iload_n hC dX6_housesSeen_12 rfl ?_
      refine aw_iload_n hC dX6_housesSeen_13 rfl ?_
      refine aw_iload_n hC dX6_housesSeen_14 rfl ?_
      refine aw_icmp_eq (tgt := 42) hC dX6_housesSeen_15 (by decide) (fun c2 => ?_) (fun c2 => ?_)
      · have hF := it_t hF c2
        refine aw_iconst hC dX6_housesSeen_42 (by decide) ?_
        refine aw_ior hC dX6_housesSeen_43 ?_
        obtain ⟨v3, ev3, hF⟩ := lb_some hF
        refine aw_eqT ev3 ?_
        clear ev3
        refine aw_istore2 hC dX6_housesSeen_44 rfl ?_
        refine aw_iinc3 hC dX6_housesSeen_45 rfl ?_
        refine aw_goto (tgt := 4) hC dX6_housesSeen_48 (by decide) ?_
        exact ih0 _ _ r (hb1 _ (Option.some.inj hF).symm) hX
      · have hF := it_f hF c2
        refine aw_aload_n hC dX6_housesSeen_18 rfl ?_
        refine aw_g6l (k := 54) (a := 35) hC dX6_housesSeen_19 lkRX6_338 (by decide) rfl rfl rfl (Or.inl ⟨hbt, by decide⟩) ?_
        refine aw_aload_n hC dX6_housesSeen_22 rfl ?_
        refine aw_gc6 (k := 7) (a := 35) (b := 37) hC hbt dX6_housesSeen_23 lkRX6_20 (by decide) rfl rfl rfl (by decide) (by decide) ?_
        refine aw_iload_n hC dX6_housesSeen_26 rfl ?_
        obtain ⟨g5, hF⟩ := gd_some hF
        refine aw_iaload (a := 37) hC dX6_housesSeen_27 rfl rfl (Or.inl ⟨hbt, by decide⟩) g5.1 g5.2 ?_
        refine aw_lshr hC dX6_housesSeen_28 ?_
        refine aw_lconst (v := 1) hC dX6_housesSeen_29 (by decide) (by decide) ?_
        refine aw_land hC dX6_housesSeen_30 ?_
        refine aw_lconst (v := 1) hC dX6_housesSeen_31 (by decide) (by decide) ?_
        refine aw_lcmp hC dX6_housesSeen_32 ?_
        refine aw_if_ne (tgt := 42) hC dX6_housesSeen_33 (by decide) (fun c6 => ?_) (fun c6 => ?_)
        · have hF := it_f hF c6
          refine aw_iconst hC dX6_housesSeen_42 (by decide) ?_
          refine aw_ior hC dX6_housesSeen_43 ?_
          obtain ⟨v7, ev7, hF⟩ := lb_some hF
          refine aw_eqT ev7 ?_
          clear ev7
          refine aw_istore2 hC dX6_housesSeen_44 rfl ?_
          refine aw_iinc3 hC dX6_housesSeen_45 rfl ?_
          refine aw_goto (tgt := 4) hC dX6_housesSeen_48 (by decide) ?_
          exact ih0 _ _ r (hb1 _ (Option.some.inj hF).symm) hX
        · have hF := it_t hF c6
          refine aw_iconst hC dX6_housesSeen_36 (by decide) ?_
          refine aw_iload_n hC dX6_housesSeen_37 rfl ?_
          refine aw_ishl hC dX6_housesSeen_38 ?_
          refine aw_goto (tgt := 43) hC dX6_housesSeen_39 (by decide) ?_
          refine aw_ior hC dX6_housesSeen_43 ?_
          obtain ⟨v9, ev9, hF⟩ := lb_some hF
          refine aw_eqT ev9 ?_
          clear ev9
          refine aw_istore2 hC dX6_housesSeen_44 rfl ?_
          refine aw_iinc3 hC dX6_housesSeen_45 rfl ?_
          refine aw_goto (tgt := 4) hC dX6_housesSeen_48 (by decide) ?_
          exact ih0 _ _ r (hb1 _ (Option.some.inj hF).symm) hX
theorem ok_X6_housesSeen {G : GD} {n : Nat} {x1 : Int} {h : Hp} {res : Int} (hF : fX6_housesSeen x1 h = some res) : Con G yX6_housesSeen cX6_housesSeen 4 (some .int) 0 0 0 true [(2, ((35 : Nat) : Int)), (0, x1)] n h (FQ 0 n (res, h)) := by
  refine con_of (pad := 2) (own := RX6) (plainFor_of_name (by decide)) rfl rfl ?_
  intro X hC hbt hr hnm hZ hRm hn0
  have hK : ∀ (x9 : Int), res = x9 → FQ 0 n (res, h) (0, x9) n h := fun x9 e => by subst e; exact ⟨rfl, rfl, rfl⟩
  unfold fX6_housesSeen at hF
  show AW G X 0 [(2, ((35 : Nat) : Int)), (0, x1), (9, 0), (9, 0)] [] n h 0 0
  refine aw_iconst hC dX6_housesSeen_0 (by decide) ?_
  refine aw_istore2 hC dX6_housesSeen_1 rfl ?_
  refine aw_iconst hC dX6_housesSeen_2 (by decide) ?_
  refine aw_istore3 hC dX6_housesSeen_3 rfl ?_
  obtain ⟨e11, he, hF⟩ := bp_some hF
  refine fX6_housesSeen_l4_ok hC hZ hRm hbt hr FU _ _ e11 he (fun y12 er => ?_)
  replace er := er.symm
  subst er
  try dsimp only at hF
  refine aw_iload_n hC dX6_housesSeen_51 rfl ?_
  exact aw_ireturn hC hZ (Nat.zero_le _) (Nat.zero_le _) hr dX6_housesSeen_52 (hK _ (Option.some.inj hF).symm)
def fX6_works (x0 : Int) (x1 : Int) (x2 : Int) (h : Hp) : Option (Int) :=
  (if x0 = 4 then (if x1 = 0 then some 0 else (if x2 = 0 then some 0 else some 1)) else if x0 = 5 then (if x1 = 0 then (if x2 = 0 then some 0 else some 1) else some 1) else if x0 = 6 then (if x2 ≤ x1 then some 0 else some 1) else if x0 = 7 then (if x1 = x2 then some 1 else some 0) else if x0 = 8 then some ((i_add x1 x2)) else if x0 = 9 then some ((i_sub x1 x2)) else if x0 = 10 then some ((i_mul x1 x2)) else (if x2 = 0 then some 0 else gd_ (x2 ≠ 0) (some ((i_div x1 x2)))))
theorem ok_X6_works {G : GD} {n : Nat} {x0 : Int} {x1 : Int} {x2 : Int} {h : Hp} {res : Int} (hF : fX6_works x0 x1 x2 h = some res) : Con G yX6_works cX6_works 3 (some .int) 0 0 0 true [(0, x0), (0, x1), (0, x2)] n h (FQ 0 n (res, h)) := by
  refine con_of (pad := 0) (own := RX6) (plainFor_of_name (by decide)) rfl rfl ?_
  intro X hC hbt hr hnm hZ hRm hn0
  have hK : ∀ (x9 : Int), res = x9 → FQ 0 n (res, h) (0, x9) n h := fun x9 e => by subst e; exact ⟨rfl, rfl, rfl⟩
  unfold fX6_works at hF
  show AW G X 0 [(0, x0), (0, x1), (0, x2)] [] n h 0 0
  refine aw_iload_n hC dX6_works_0 rfl ?_
  by_cases c1 : x0 = 4
  · have hF := it_t hF c1
    refine aw_tableIn (off := 43) (tgt := 44) hC dX6_works_1 (by omega) (by omega) (by rw [c1]; rfl) (by decide) ?_
    refine aw_iload_n hC dX6_works_44 rfl ?_
    refine aw_if_eq (tgt := 56) hC dX6_works_45 (by decide) (fun c2 => ?_) (fun c2 => ?_)
    · have hF := it_t hF c2
      refine aw_iconst hC dX6_works_56 (by decide) ?_
      exact aw_ireturn hC hZ (Nat.zero_le _) (Nat.zero_le _) hr dX6_works_57 (hK _ (Option.some.inj hF).symm)
    · have hF := it_f hF c2
      refine aw_iload_n hC dX6_works_48 rfl ?_
      refine aw_if_eq (tgt := 56) hC dX6_works_49 (by decide) (fun c3 => ?_) (fun c3 => ?_)
      · have hF := it_t hF c3
        refine aw_iconst hC dX6_works_56 (by decide) ?_
        exact aw_ireturn hC hZ (Nat.zero_le _) (Nat.zero_le _) hr dX6_works_57 (hK _ (Option.some.inj hF).symm)
      · have hF := it_f hF c3
        refine aw_iconst hC dX6_works_52 (by decide) ?_
        refine aw_goto (tgt := 57) hC dX6_works_53 (by decide) ?_
        exact aw_ireturn hC hZ (Nat.zero_le _) (Nat.zero_le _) hr dX6_works_57 (hK _ (Option.some.inj hF).symm)
  have hF := it_f hF c1
  by_cases c4 : x0 = 5
  · have hF := it_t hF c4
    refine aw_tableIn (off := 57) (tgt := 58) hC dX6_works_1 (by omega) (by omega) (by rw [c4]; rfl) (by decide) ?_
    refine aw_iload_n hC dX6_works_58 rfl ?_
    refine aw_if_ne (tgt := 66) hC dX6_works_59 (by decide) (fun c5 => ?_) (fun c5 => ?_)
    · have hF := it_f hF c5
      refine aw_iconst hC dX6_works_66 (by decide) ?_
      refine aw_goto (tgt := 71) hC dX6_works_67 (by decide) ?_
      exact aw_ireturn hC hZ (Nat.zero_le _) (Nat.zero_le _) hr dX6_works_71 (hK _ (Option.some.inj hF).symm)
    · have hF := it_t hF c5
      refine aw_iload_n hC dX6_works_62 rfl ?_
      refine aw_if_eq (tgt := 70) hC dX6_works_63 (by decide) (fun c6 => ?_) (fun c6 => ?_)
      · have hF := it_t hF c6
        refine aw_iconst hC dX6_works_70 (by decide) ?_
        exact aw_ireturn hC hZ (Nat.zero_le _) (Nat.zero_le _) hr dX6_works_71 (hK _ (Option.some.inj hF).symm)
      · have hF := it_f hF c6
        refine aw_iconst hC dX6_works_66 (by decide) ?_
        refine aw_goto (tgt := 71) hC dX6_works_67 (by decide) ?_
        exact aw_ireturn hC hZ (Nat.zero_le _) (Nat.zero_le _) hr dX6_works_71 (hK _ (Option.some.inj hF).symm)
  have hF := it_f hF c4
  by_cases c7 : x0 = 6
  · have hF := it_t hF c7
    refine aw_tableIn (off := 71) (tgt := 72) hC dX6_works_1 (by omega) (by omega) (by rw [c7]; rfl) (by decide) ?_
    refine aw_iload_n hC dX6_works_72 rfl ?_
    refine aw_iload_n hC dX6_works_73 rfl ?_
    refine aw_icmp_ge (tgt := 81) hC dX6_works_74 (by decide) (fun c8 => ?_) (fun c8 => ?_)
    · have hF := it_t hF c8
      refine aw_iconst hC dX6_works_81 (by decide) ?_
      exact aw_ireturn hC hZ (Nat.zero_le _) (Nat.zero_le _) hr dX6_works_82 (hK _ (Option.some.inj hF).symm)
    · have hF := it_f hF c8
      refine aw_iconst hC dX6_works_77 (by decide) ?_
      refine aw_goto (tgt := 82) hC dX6_works_78 (by decide) ?_
      exact aw_ireturn hC hZ (Nat.zero_le _) (Nat.zero_le _) hr dX6_works_82 (hK _ (Option.some.inj hF).symm)
  have hF := it_f hF c7
  by_cases c9 : x0 = 7
  · have hF := it_t hF c9
    refine aw_tableIn (off := 82) (tgt := 83) hC dX6_works_1 (by omega) (by omega) (by rw [c9]; rfl) (by decide) ?_
    refine aw_iload_n hC dX6_works_83 rfl ?_
    refine aw_iload_n hC dX6_works_84 rfl ?_
    refine aw_icmp_ne (tgt := 92) hC dX6_works_85 (by decide) (fun c10 => ?_) (fun c10 => ?_)
    · have hF := it_f hF c10
      refine aw_iconst hC dX6_works_92 (by decide) ?_
      exact aw_ireturn hC hZ (Nat.zero_le _) (Nat.zero_le _) hr dX6_works_93 (hK _ (Option.some.inj hF).symm)
    · have hF := it_t hF c10
      refine aw_iconst hC dX6_works_88 (by decide) ?_
      refine aw_goto (tgt := 93) hC dX6_works_89 (by decide) ?_
      exact aw_ireturn hC hZ (Nat.zero_le _) (Nat.zero_le _) hr dX6_works_93 (hK _ (Option.some.inj hF).symm)
  have hF := it_f hF c9
  by_cases c11 : x0 = 8
  · have hF := it_t hF c11
    refine aw_tableIn (off := 93) (tgt := 94) hC dX6_works_1 (by omega) (by omega) (by rw [c11]; rfl) (by decide) ?_
    refine aw_iload_n hC dX6_works_94 rfl ?_
    refine aw_iload_n hC dX6_works_95 rfl ?_
    refine aw_iadd hC dX6_works_96 ?_
    exact aw_ireturn hC hZ (Nat.zero_le _) (Nat.zero_le _) hr dX6_works_97 (hK _ (Option.some.inj hF).symm)
  have hF := it_f hF c11
  by_cases c12 : x0 = 9
  · have hF := it_t hF c12
    refine aw_tableIn (off := 97) (tgt := 98) hC dX6_works_1 (by omega) (by omega) (by rw [c12]; rfl) (by decide) ?_
    refine aw_iload_n hC dX6_works_98 rfl ?_
    refine aw_iload_n hC dX6_works_99 rfl ?_
    refine aw_isub hC dX6_works_100 ?_
    exact aw_ireturn hC hZ (Nat.zero_le _) (Nat.zero_le _) hr dX6_works_101 (hK _ (Option.some.inj hF).symm)
  have hF := it_f hF c12
  by_cases c13 : x0 = 10
  · have hF := it_t hF c13
    refine aw_tableIn (off := 101) (tgt := 102) hC dX6_works_1 (by omega) (by omega) (by rw [c13]; rfl) (by decide) ?_
    refine aw_iload_n hC dX6_works_102 rfl ?_
    refine aw_iload_n hC dX6_works_103 rfl ?_
    refine aw_imul hC dX6_works_104 ?_
    exact aw_ireturn hC hZ (Nat.zero_le _) (Nat.zero_le _) hr dX6_works_105 (hK _ (Option.some.inj hF).symm)
  have hF := it_f hF c13
  refine aw_tableOut (tgt := 106) hC dX6_works_1 (by omega) (by decide) ?_
  refine aw_iload_n hC dX6_works_106 rfl ?_
  refine aw_if_ne (tgt := 114) hC dX6_works_107 (by decide) (fun c14 => ?_) (fun c14 => ?_)
  · have hF := it_f hF c14
    refine aw_iload_n hC dX6_works_114 rfl ?_
    refine aw_iload_n hC dX6_works_115 rfl ?_
    obtain ⟨g15, hF⟩ := gd_some hF
    refine aw_idiv hC dX6_works_116 g15 ?_
    exact aw_ireturn hC hZ (Nat.zero_le _) (Nat.zero_le _) hr dX6_works_117 (hK _ (Option.some.inj hF).symm)
  · have hF := it_t hF c14
    refine aw_iconst hC dX6_works_110 (by decide) ?_
    refine aw_goto (tgt := 117) hC dX6_works_111 (by decide) ?_
    exact aw_ireturn hC hZ (Nat.zero_le _) (Nat.zero_le _) hr dX6_works_117 (hK _ (Option.some.inj hF).symm)
def fX6_reckons_j67 (x2 : Int) (x3 : Int) (z0 : Int) (z1 : Int) (h : Hp) : Option ((Int × Int × Hp) ⊕ (Hp)) :=
  gd_ (0 ≤ z1 ∧ z1 < 950) (lb_ (st h 59 (Int.toNat z1) z0) (fun h11 => some (.inl ((i_add x2 1), (i_add x3 1), h11))))
def fX6_reckons_j36 (x2 : Int) (x3 : Int) (x4 : Int) (h : Hp) : Option ((Int × Int × Hp) ⊕ (Hp)) :=
  (if x4 = 1 then gd_ (0 ≤ x3 ∧ x3 < 2800) (fX6_reckons_j67 x2 x3 ((h 41 (Int.toNat x3))) x2 h) else gd_ (0 ≤ x3 ∧ x3 < 2800) (gd_ (0 ≤ (h 41 (Int.toNat x3)) ∧ (h 41 (Int.toNat x3)) < 7) (fX6_reckons_j67 x2 x3 ((h 58 (Int.toNat ((h 41 (Int.toNat x3)))))) x2 h)))
def fX6_reckons_j106 (x2 : Int) (x3 : Int) (z0 : Int) (z1 : Int) (h : Hp) : Option ((Int × Int × Hp) ⊕ (Hp)) :=
  gd_ (0 ≤ z1 ∧ z1 < 950) (lb_ (st h 59 (Int.toNat z1) z0) (fun h27 => some (.inl (x2, x3, h27))))
def fX6_reckons_l4 (x2 : Int) (x3 : Int) (h : Hp) : Option ((Int × Int × Hp) ⊕ (Hp)) :=
  gd_ (0 ≤ x3 ∧ x3 < 2800) ((if (h 41 (Int.toNat x3)) = 0 then some (.inr h) else gd_ (0 ≤ x3 ∧ x3 < 2800) (lb_ ((h 41 (Int.toNat x3))) (fun v4 => (if v4 = 1 then fX6_reckons_j36 x2 ((i_add x3 1)) v4 h else (if v4 = 2 then fX6_reckons_j36 x2 ((i_add x3 1)) v4 h else (if v4 = 3 then gd_ (0 ≤ (i_sub x2 1) ∧ (i_sub x2 1) < 950) ((if (h 59 (Int.toNat ((i_sub x2 1)))) = 0 then fX6_reckons_j106 x2 ((i_add x3 1)) 1 ((i_sub x2 1)) h else fX6_reckons_j106 x2 ((i_add x3 1)) 0 ((i_sub x2 1)) h)) else gd_ (0 ≤ (i_sub ((i_add x2 (-1))) 1) ∧ (i_sub ((i_add x2 (-1))) 1) < 950) (gd_ (0 ≤ (i_add x2 (-1)) ∧ (i_add x2 (-1)) < 950) (bp_ (fX6_works v4 ((h 59 (Int.toNat ((i_sub ((i_add x2 (-1))) 1))))) ((h 59 (Int.toNat ((i_add x2 (-1)))))) h) (fun r20 => gd_ (0 ≤ (i_sub ((i_add x2 (-1))) 1) ∧ (i_sub ((i_add x2 (-1))) 1) < 950) (lb_ (st h 59 (Int.toNat ((i_sub ((i_add x2 (-1))) 1))) r20) (fun h23 => some (.inl ((i_add x2 (-1)), (i_add x3 1), h23))))))))))))))
def fX6_reckons (x1 : Int) (h : Hp) : Option (Int × Hp) :=
  bp_ (it_ (fun s => fX6_reckons_l4 s.1 s.2.1 s.2.2) FU (0, x1, h)) (fun e28 => (fun h29 => gd_ (0 ≤ (0 : Int) ∧ (0 : Int) < 950) (some ((h29 59 (Int.toNat 0)), h29))) e28)
theorem fX6_reckons_j67_ok {G : GD} {X : CX} {n : Nat} {Q : Av → Nat → Hp → Prop} (hC : Cx G X RX6 cX6_reckons) (hZ : ZOK X G Q 0 0) (hRm : X.R = rmd 1 0 0) (hbt : X.bt = true) (hr : X.meth.sig.returnType = (some .int)) {x2 : Int} {x3 : Int} {z0 : Int} {z1 : Int} {h : Hp} {b : (Int × Int × Hp) ⊕ (Hp)} (hF : fX6_reckons_j67 x2 x3 z0 z1 h = some b) (hL9 : ∀ (u2 : Int) (u3 : Int) (h9 : Hp), b = .inl (u2, u3, h9) → AW G X 4 [(2, ((35 : Nat) : Int)), (9, 0), (0, u2), (0, u3), (9, 0)] [] n h9 0 0) (hX9 : ∀ (h9 : Hp), b = .inr h9 → AW G X 143 [(2, ((35 : Nat) : Int)), (9, 0), (9, 0), (9, 0), (9, 0)] [] n h9 0 0) : AW G X 67 [(2, ((35 : Nat) : Int)), (9, 0), (0, x2), (0, x3), (9, 0)] [(0, z0), (0, z1), (2, ((59 : Nat) : Int))] n h 0 0 := by
  unfold fX6_reckons_j67 at hF
  obtain ⟨g10, hF⟩ := gd_some hF
  obtain ⟨h11, eh11, hF⟩ := lb_some hF
  refine aw_iastore (a := 59) hC dX6_reckons_67 rfl rfl (Or.inl ⟨hbt, by decide⟩) g10.1 g10.2 ?_
  refine aw_eqH eh11 ?_
  clear eh11
  refine aw_iinc3 hC dX6_reckons_68 rfl ?_
  refine aw_iinc2 hC dX6_reckons_71 rfl ?_
  refine aw_goto (tgt := 140) hC dX6_reckons_74 (by decide) ?_
  refine aw_goto (tgt := 4) hC dX6_reckons_140 (by decide) ?_
  exact hL9 _ _ _ (Option.some.inj hF).symm
theorem fX6_reckons_j36_ok {G : GD} {X : CX} {n : Nat} {Q : Av → Nat → Hp → Prop} (hC : Cx G X RX6 cX6_reckons) (hZ : ZOK X G Q 0 0) (hRm : X.R = rmd 1 0 0) (hbt : X.bt = true) (hr : X.meth.sig.returnType = (some .int)) {x2 : Int} {x3 : Int} {x4 : Int} {h : Hp} {b : (Int × Int × Hp) ⊕ (Hp)} (hF : fX6_reckons_j36 x2 x3 x4 h = some b) (hL9 : ∀ (u2 : Int) (u3 : Int) (h9 : Hp), b = .inl (u2, u3, h9) → AW G X 4 [(2, ((35 : Nat) : Int)), (9, 0), (0, u2), (0, u3), (9, 0)] [] n h9 0 0) (hX9 : ∀ (h9 : Hp), b = .inr h9 → AW G X 143 [(2, ((35 : Nat) : Int)), (9, 0), (9, 0), (9, 0), (9, 0)] [] n h9 0 0) : AW G X 36 [(2, ((35 : Nat) : Int)), (9, 0), (0, x2), (0, x3), (0, x4)] [] n h 0 0 := by
  unfold fX6_reckons_j36 at hF
  refine aw_aload_n hC dX6_reckons_36 rfl ?_
  refine aw_gc6 (k := 58) (a := 35) (b := 59) hC hbt dX6_reckons_37 lkRX6_99 (by decide) rfl rfl rfl (by decide) (by decide) ?_
  refine aw_iload_n hC dX6_reckons_40 rfl ?_
  refine aw_iload hC dX6_reckons_41 rfl ?_
  refine aw_iconst hC dX6_reckons_43 (by decide) ?_
  refine aw_icmp_ne (tgt := 56) hC dX6_reckons_44 (by decide) (fun c7 => ?_) (fun c7 => ?_)
  · have hF := it_f hF c7
    refine aw_aload_n hC dX6_reckons_56 rfl ?_
    refine aw_gc6 (k := 57) (a := 35) (b := 58) hC hbt dX6_reckons_57 lkRX6_96 (by decide) rfl rfl rfl (by decide) (by decide) ?_
    refine aw_aload_n hC dX6_reckons_60 rfl ?_
    refine aw_gc6 (k := 11) (a := 35) (b := 41) hC hbt dX6_reckons_61 lkRX6_32 (by decide) rfl rfl rfl (by decide) (by decide) ?_
    refine aw_iload_n hC dX6_reckons_64 rfl ?_
    obtain ⟨g8, hF⟩ := gd_some hF
    refine aw_iaload (a := 41) hC dX6_reckons_65 rfl rfl (Or.inl ⟨hbt, by decide⟩) g8.1 g8.2 ?_
    obtain ⟨g9, hF⟩ := gd_some hF
    refine aw_iaload (a := 58) hC dX6_reckons_66 rfl rfl (Or.inl ⟨hbt, by decide⟩) g9.1 g9.2 ?_
    refine aw_weak (ls' := [(2, ((35 : Nat) : Int)), (9, 0), (0, x2), (0, x3), (9, 0)]) ⟨Or.inr rfl, Or.inl rfl, Or.inr rfl, Or.inr rfl, Or.inl rfl, trivial⟩ ?_
    exact fX6_reckons_j67_ok hC hZ hRm hbt hr hF (fun u0 u1 u2 e => hL9 u0 u1 u2 e) (fun w0 e => hX9 w0 e)
  · have hF := it_t hF c7
    refine aw_aload_n hC dX6_reckons_47 rfl ?_
    refine aw_gc6 (k := 11) (a := 35) (b := 41) hC hbt dX6_reckons_48 lkRX6_32 (by decide) rfl rfl rfl (by decide) (by decide) ?_
    refine aw_iload_n hC dX6_reckons_51 rfl ?_
    obtain ⟨g14, hF⟩ := gd_some hF
    refine aw_iaload (a := 41) hC dX6_reckons_52 rfl rfl (Or.inl ⟨hbt, by decide⟩) g14.1 g14.2 ?_
    refine aw_goto (tgt := 67) hC dX6_reckons_53 (by decide) ?_
    refine aw_weak (ls' := [(2, ((35 : Nat) : Int)), (9, 0), (0, x2), (0, x3), (9, 0)]) ⟨Or.inr rfl, Or.inl rfl, Or.inr rfl, Or.inr rfl, Or.inl rfl, trivial⟩ ?_
    exact fX6_reckons_j67_ok hC hZ hRm hbt hr hF (fun u0 u1 u2 e => hL9 u0 u1 u2 e) (fun w0 e => hX9 w0 e)
theorem fX6_reckons_j106_ok {G : GD} {X : CX} {n : Nat} {Q : Av → Nat → Hp → Prop} (hC : Cx G X RX6 cX6_reckons) (hZ : ZOK X G Q 0 0) (hRm : X.R = rmd 1 0 0) (hbt : X.bt = true) (hr : X.meth.sig.returnType = (some .int)) {x2 : Int} {x3 : Int} {z0 : Int} {z1 : Int} {h : Hp} {b : (Int × Int × Hp) ⊕ (Hp)} (hF : fX6_reckons_j106 x2 x3 z0 z1 h = some b) (hL9 : ∀ (u2 : Int) (u3 : Int) (h9 : Hp), b = .inl (u2, u3, h9) → AW G X 4 [(2, ((35 : Nat) : Int)), (9, 0), (0, u2), (0, u3), (9, 0)] [] n h9 0 0) (hX9 : ∀ (h9 : Hp), b = .inr h9 → AW G X 143 [(2, ((35 : Nat) : Int)), (9, 0), (9, 0), (9, 0), (9, 0)] [] n h9 0 0) : AW G X 106 [(2, ((35 : Nat) : Int)), (9, 0), (0, x2), (0, x3), (9, 0)] [(0, z0), (0, z1), (2, ((59 : Nat) : Int))] n h 0 0 := by
  unfold fX6_reckons_j106 at hF
  obtain ⟨g26, hF⟩ := gd_some hF
  obtain ⟨h27, eh27, hF⟩ := lb_some hF
  refine aw_iastore (a := 59) hC dX6_reckons_106 rfl rfl (Or.inl ⟨hbt, by decide⟩) g26.1 g26.2 ?_
  refine aw_eqH eh27 ?_
  clear eh27
  refine aw_goto (tgt := 140) hC dX6_reckons_107 (by decide) ?_
  refine aw_goto (tgt := 4) hC dX6_reckons_140 (by decide) ?_
  exact hL9 _ _ _ (Option.some.inj hF).symm
theorem fX6_reckons_l4_ok {G : GD} {X : CX} {n : Nat} {Q : Av → Nat → Hp → Prop} (hC : Cx G X RX6 cX6_reckons) (hZ : ZOK X G Q 0 0) (hRm : X.R = rmd 1 0 0) (hbt : X.bt = true) (hr : X.meth.sig.returnType = (some .int))  : ∀ (f : Nat) (x2 : Int) (x3 : Int) (h : Hp) (r : Hp), it_ (fun s => fX6_reckons_l4 s.1 s.2.1 s.2.2) f (x2, x3, h) = some r → (∀ (h9 : Hp), r = h9 → AW G X 143 [(2, ((35 : Nat) : Int)), (9, 0), (9, 0), (9, 0), (9, 0)] [] n h9 0 0) → AW G X 4 [(2, ((35 : Nat) : Int)), (9, 0), (0, x2), (0, x3), (9, 0)] [] n h 0 0 := by
  intro f
  induction f with
  | zero => intro x2 x3 h r hI; cases hI
  | succ f ih0 =>
    intro x2 x3 h r hI hX
    obtain ⟨b, hF, hb1, hb2⟩ := it_succ hI
    have hF : fX6_reckons_l4 x2 x3 h = some b := hF
    unfold fX6_reckons_l4 at hF
    refine aw_aload_n hC dX6_reckons_4 rfl ?_
    refine aw_gc6 (k := 11) (a := 35) (b := 41) hC hbt dX6_reckons_5 lkRX6_32 (by decide) rfl rfl rfl (by decide) (by decide) ?_
    refine aw_iload_n hC dX6_reckons_8 rfl ?_
    obtain ⟨g1, hF⟩ := gd_some hF
    refine aw_iaload (a := 41) hC dX6_reckons_9 rfl rfl (Or.inl ⟨hbt, by decide⟩) g1.1 g1.2 ?_
    refine aw_if_eq (tgt := 143) hC dX6_reckons_10 (by decide) (fun c2 => ?_) (fun c2 => ?_)
    · have hF := it_t hF c2
      refine aw_weak (ls' := [(2, ((35 : Nat) : Int)), (9, 0), (9, 0), (9, 0), (9, 0)]) ⟨Or.inr rfl, Or.inl rfl, Or.inl rfl, Or.inl rfl, Or.inl rfl, trivial⟩ ?_
      exact hX _ (hb2 _ (Option.some.inj hF).symm).symm
    · have hF := it_f hF c2
      refine aw_aload_n hC dX6_reckons_13 rfl ?_
      refine aw_gc6 (k := 11) (a := 35) (b := 41) hC hbt dX6_reckons_14 lkRX6_32 (by decide) rfl rfl rfl (by decide) (by decide) ?_
      refine aw_iload_n hC dX6_reckons_17 rfl ?_
      obtain ⟨g3, hF⟩ := gd_some hF
      refine aw_iaload (a := 41) hC dX6_reckons_18 rfl rfl (Or.inl ⟨hbt, by decide⟩) g3.1 g3.2 ?_
      obtain ⟨v4, ev4, hF⟩ := lb_some hF
      refine aw_eqT ev4 ?_
      clear ev4
      refine aw_istore4 hC dX6_reckons_19 rfl ?_
      refine aw_iinc3 hC dX6_reckons_21 rfl ?_
      refine aw_iload hC dX6_reckons_24 rfl ?_
      refine aw_iconst hC dX6_reckons_26 (by decide) ?_
      refine aw_icmp_eq (tgt := 36) hC dX6_reckons_27 (by decide) (fun c6 => ?_) (fun c6 => ?_)
      · have hF := it_t hF c6
        exact fX6_reckons_j36_ok hC hZ hRm hbt hr hF (fun u0 u1 u2 e => ih0 u0 u1 u2 r (hb1 _ e) hX) (fun w0 e => hX w0 (hb2 _ e).symm)
      · have hF := it_f hF c6
        refine aw_iload hC dX6_reckons_30 rfl ?_
        refine aw_iconst hC dX6_reckons_32 (by decide) ?_
        refine aw_icmp_ne (tgt := 77) hC dX6_reckons_33 (by decide) (fun c15 => ?_) (fun c15 => ?_)
        · have hF := it_f hF c15
          refine aw_iload hC dX6_reckons_77 rfl ?_
          refine aw_iconst hC dX6_reckons_79 (by decide) ?_
          refine aw_icmp_ne (tgt := 110) hC dX6_reckons_80 (by decide) (fun c16 => ?_) (fun c16 => ?_)
          · have hF := it_f hF c16
            refine aw_iinc2 hC dX6_reckons_110 rfl ?_
            refine aw_aload_n hC dX6_reckons_113 rfl ?_
            refine aw_gc6 (k := 58) (a := 35) (b := 59) hC hbt dX6_reckons_114 lkRX6_99 (by decide) rfl rfl rfl (by decide) (by decide) ?_
            refine aw_iload_n hC dX6_reckons_117 rfl ?_
            refine aw_iconst hC dX6_reckons_118 (by decide) ?_
            refine aw_isub hC dX6_reckons_119 ?_
            refine aw_iload hC dX6_reckons_120 rfl ?_
            refine aw_aload_n hC dX6_reckons_122 rfl ?_
            refine aw_gc6 (k := 58) (a := 35) (b := 59) hC hbt dX6_reckons_123 lkRX6_99 (by decide) rfl rfl rfl (by decide) (by decide) ?_
            refine aw_iload_n hC dX6_reckons_126 rfl ?_
            refine aw_iconst hC dX6_reckons_127 (by decide) ?_
            refine aw_isub hC dX6_reckons_128 ?_
            obtain ⟨g18, hF⟩ := gd_some hF
            refine aw_iaload (a := 59) hC dX6_reckons_129 rfl rfl (Or.inl ⟨hbt, by decide⟩) g18.1 g18.2 ?_
            refine aw_aload_n hC dX6_reckons_130 rfl ?_
            refine aw_gc6 (k := 58) (a := 35) (b := 59) hC hbt dX6_reckons_131 lkRX6_99 (by decide) rfl rfl rfl (by decide) (by decide) ?_
            refine aw_iload_n hC dX6_reckons_134 rfl ?_
            obtain ⟨g19, hF⟩ := gd_some hF
            refine aw_iaload (a := 59) hC dX6_reckons_135 rfl rfl (Or.inl ⟨hbt, by decide⟩) g19.1 g19.2 ?_
            obtain ⟨r20, q21, hF⟩ := bp_some hF
            refine clRX6_360 hC hRm hbt dX6_reckons_136 (Nat.le_of_ble_eq_true rfl) (Nat.le_of_ble_eq_true rfl) (ok_X6_works q21) ?_
            obtain ⟨g22, hF⟩ := gd_some hF
            obtain ⟨h23, eh23, hF⟩ := lb_some hF
            refine aw_iastore (a := 59) hC dX6_reckons_139 rfl rfl (Or.inl ⟨hbt, by decide⟩) g22.1 g22.2 ?_
            refine aw_eqH eh23 ?_
            clear eh23
            refine aw_goto (tgt := 4) hC dX6_reckons_140 (by decide) ?_
            refine aw_weak (ls' := [(2, ((35 : Nat) : Int)), (9, 0), (0, (i_add x2 (-1))), (0, (i_add x3 1)), (9, 0)]) ⟨Or.inr rfl, Or.inl rfl, Or.inr rfl, Or.inr rfl, Or.inl rfl, trivial⟩ ?_
            exact ih0 _ _ _ r (hb1 _ (Option.some.inj hF).symm) hX
          · have hF := it_t hF c16
            refine aw_aload_n hC dX6_reckons_83 rfl ?_
            refine aw_gc6 (k := 58) (a := 35) (b := 59) hC hbt dX6_reckons_84 lkRX6_99 (by decide) rfl rfl rfl (by decide) (by decide) ?_
            refine aw_iload_n hC dX6_reckons_87 rfl ?_
            refine aw_iconst hC dX6_reckons_88 (by decide) ?_
            refine aw_isub hC dX6_reckons_89 ?_
            refine aw_aload_n hC dX6_reckons_90 rfl ?_
            refine aw_gc6 (k := 58) (a := 35) (b := 59) hC hbt dX6_reckons_91 lkRX6_99 (by decide) rfl rfl rfl (by decide) (by decide) ?_
            refine aw_iload_n hC dX6_reckons_94 rfl ?_
            refine aw_iconst hC dX6_reckons_95 (by decide) ?_
            refine aw_isub hC dX6_reckons_96 ?_
            obtain ⟨g24, hF⟩ := gd_some hF
            refine aw_iaload (a := 59) hC dX6_reckons_97 rfl rfl (Or.inl ⟨hbt, by decide⟩) g24.1 g24.2 ?_
            refine aw_if_ne (tgt := 105) hC dX6_reckons_98 (by decide) (fun c25 => ?_) (fun c25 => ?_)
            · have hF := it_f hF c25
              refine aw_iconst hC dX6_reckons_105 (by decide) ?_
              refine aw_weak (ls' := [(2, ((35 : Nat) : Int)), (9, 0), (0, x2), (0, (i_add x3 1)), (9, 0)]) ⟨Or.inr rfl, Or.inl rfl, Or.inr rfl, Or.inr rfl, Or.inl rfl, trivial⟩ ?_
              exact fX6_reckons_j106_ok hC hZ hRm hbt hr hF (fun u0 u1 u2 e => ih0 u0 u1 u2 r (hb1 _ e) hX) (fun w0 e => hX w0 (hb2 _ e).symm)
            · have hF := it_t hF c25
              refine aw_iconst hC dX6_reckons_101 (by decide) ?_
              refine aw_goto (tgt := 106) hC dX6_reckons_102 (by decide) ?_
              refine aw_weak (ls' := [(2, ((35 : Nat) : Int)), (9, 0), (0, x2), (0, (i_add x3 1)), (9, 0)]) ⟨Or.inr rfl, Or.inl rfl, Or.inr rfl, Or.inr rfl, Or.inl rfl, trivial⟩ ?_
              exact fX6_reckons_j106_ok hC hZ hRm hbt hr hF (fun u0 u1 u2 e => ih0 u0 u1 u2 r (hb1 _ e) hX) (fun w0 e => hX w0 (hb2 _ e).symm)
        · have hF := it_t hF c15
          exact fX6_reckons_j36_ok hC hZ hRm hbt hr hF (fun u0 u1 u2 e => ih0 u0 u1 u2 r (hb1 _ e) hX) (fun w0 e => hX w0 (hb2 _ e).symm)
theorem ok_X6_reckons {G : GD} {n : Nat} {x1 : Int} {h : Hp} {res : Int × Hp} (hF : fX6_reckons x1 h = some res) : Con G yX6_reckons cX6_reckons 5 (some .int) 1 0 0 true [(2, ((35 : Nat) : Int)), (0, x1)] n h (FQ 0 n res) := by
  refine con_of (pad := 3) (own := RX6) (plainFor_of_name (by decide)) rfl rfl ?_
  intro X hC hbt hr hnm hZ hRm hn0
  have hK : ∀ (x9 : Int) (h9 : Hp), res = (x9, h9) → FQ 0 n res (0, x9) n h9 := fun x9 h9 e => by subst e; exact ⟨rfl, rfl, rfl⟩
  unfold fX6_reckons at hF
  show AW G X 0 [(2, ((35 : Nat) : Int)), (0, x1), (9, 0), (9, 0), (9, 0)] [] n h 0 0
  refine aw_iconst hC dX6_reckons_0 (by decide) ?_
  refine aw_istore2 hC dX6_reckons_1 rfl ?_
  refine aw_iload_n hC dX6_reckons_2 rfl ?_
  refine aw_istore3 hC dX6_reckons_3 rfl ?_
  refine aw_weak (ls' := [(2, ((35 : Nat) : Int)), (9, 0), (0, 0), (0, x1), (9, 0)]) ⟨Or.inr rfl, Or.inl rfl, Or.inr rfl, Or.inr rfl, Or.inl rfl, trivial⟩ ?_
  obtain ⟨e28, he, hF⟩ := bp_some hF
  refine fX6_reckons_l4_ok hC hZ hRm hbt hr FU _ _ _ e28 he (fun h29 er => ?_)
  replace er := er.symm
  subst er
  try dsimp only at hF
  refine aw_aload_n hC dX6_reckons_143 rfl ?_
  refine aw_gc6 (k := 58) (a := 35) (b := 59) hC hbt dX6_reckons_144 lkRX6_99 (by decide) rfl rfl rfl (by decide) (by decide) ?_
  refine aw_iconst hC dX6_reckons_147 (by decide) ?_
  obtain ⟨g30, hF⟩ := gd_some hF
  refine aw_iaload (a := 59) hC dX6_reckons_148 rfl rfl (Or.inl ⟨hbt, by decide⟩) g30.1 g30.2 ?_
  exact aw_ireturn hC hZ (Nat.zero_le _) (Nat.zero_le _) hr dX6_reckons_149 (hK _ _ (Option.some.inj hF).symm)
def fX6_taxBy (x1 : Int) (x2 : Int) (h : Hp) : Option (Int × Hp) :=
  bd_ (fX6_sees x1 h) (fun r1 h3 => (if x2 = (-1) then some ((h3 35 56), h3) else gd_ (0 ≤ (0 : Int) ∧ (0 : Int) < 7) (lb_ (st h3 58 (Int.toNat 0) ((h3 35 56))) (fun h6 => gd_ (0 ≤ (1 : Int) ∧ (1 : Int) < 7) (lb_ (st h6 58 (Int.toNat 1) ((h6 35 55))) (fun h8 => gd_ (0 ≤ x1 ∧ x1 < 7) (gd_ (0 ≤ (h8 37 (Int.toNat x1)) ∧ (h8 37 (Int.toNat x1)) < 64) (gd_ (0 ≤ (2 : Int) ∧ (2 : Int) < 7) (lb_ (st h8 58 (Int.toNat 2) ((h8 36 (Int.toNat ((h8 37 (Int.toNat x1))))))) (fun h12 => gd_ (0 ≤ x1 ∧ x1 < 7) (gd_ (0 ≤ (3 : Int) ∧ (3 : Int) < 7) (lb_ (st h12 58 (Int.toNat 3) ((h12 38 (Int.toNat x1)))) (fun h15 => gd_ (0 ≤ (61 : Int) ∧ (61 : Int) < 62) (gd_ (0 ≤ (4 : Int) ∧ (4 : Int) < 7) (lb_ (st h15 58 (Int.toNat 4) ((h15 54 (Int.toNat 61)))) (fun h18 => bp_ (fX6_housesSeen x1 h18) (fun r19 => bp_ (fX6_bits r19 h18) (fun r21 => gd_ (0 ≤ (5 : Int) ∧ (5 : Int) < 7) (lb_ (st h18 58 (Int.toNat 5) r21) (fun h24 => gd_ (0 ≤ (i_add 42 x1) ∧ (i_add 42 x1) < 62) (gd_ (0 ≤ (6 : Int) ∧ (6 : Int) < 7) (lb_ (st h24 58 (Int.toNat 6) ((h24 54 (Int.toNat ((i_add 42 x1)))))) (fun h27 => gd_ (0 ≤ x2 ∧ x2 < 4) (bd_ (fX6_reckons ((h27 40 (Int.toNat x2))) h27) (fun r29 h31 => (if 0 ≤ r29 then (if r29 ≤ 999 then some (r29, h31) else some (999, h31)) else some (0, h31)))))))))))))))))))))))))))
theorem ok_X6_taxBy {G : GD} {n : Nat} {x1 : Int} {x2 : Int} {h : Hp} {res : Int × Hp} (hF : fX6_taxBy x1 x2 h = some res) : Con G yX6_taxBy cX6_taxBy 4 (some .int) 4 0 0 true [(2, ((35 : Nat) : Int)), (0, x1), (0, x2)] n h (FQ 0 n res) := by
  refine con_of (pad := 1) (own := RX6) (plainFor_of_name (by decide)) rfl rfl ?_
  intro X hC hbt hr hnm hZ hRm hn0
  have hK : ∀ (x9 : Int) (h9 : Hp), res = (x9, h9) → FQ 0 n res (0, x9) n h9 := fun x9 h9 e => by subst e; exact ⟨rfl, rfl, rfl⟩
  unfold fX6_taxBy at hF
  show AW G X 0 [(2, ((35 : Nat) : Int)), (0, x1), (0, x2), (9, 0)] [] n h 0 0
  refine aw_aload_n hC dX6_taxBy_0 rfl ?_
  refine aw_iload_n hC dX6_taxBy_1 rfl ?_
  obtain ⟨r1, h3, q2, hF⟩ := bd_some hF
  refine clRX6_364 hC hRm hbt dX6_taxBy_2 rfl rfl (by decide) (Nat.le_of_ble_eq_true rfl) (Nat.le_of_ble_eq_true rfl) (ok_X6_sees q2) ?_
  refine aw_iload_n hC dX6_taxBy_5 rfl ?_
  refine aw_iconst hC dX6_taxBy_6 (by decide) ?_
  refine aw_icmp_ne (tgt := 15) hC dX6_taxBy_7 (by decide) (fun c4 => ?_) (fun c4 => ?_)
  · have hF := it_f hF c4
    refine aw_aload_n hC dX6_taxBy_15 rfl ?_
    refine aw_gc6 (k := 57) (a := 35) (b := 58) hC hbt dX6_taxBy_16 lkRX6_96 (by decide) rfl rfl rfl (by decide) (by decide) ?_
    refine aw_iconst hC dX6_taxBy_19 (by decide) ?_
    refine aw_aload_n hC dX6_taxBy_20 rfl ?_
    refine aw_g6i (k := 56) (a := 35) hC dX6_taxBy_21 lkRX6_354 (by decide) rfl rfl rfl (Or.inl ⟨hbt, by decide⟩) ?_
    obtain ⟨g5, hF⟩ := gd_some hF
    obtain ⟨h6, eh6, hF⟩ := lb_some hF
    refine aw_iastore (a := 58) hC dX6_taxBy_24 rfl rfl (Or.inl ⟨hbt, by decide⟩) g5.1 g5.2 ?_
    refine aw_eqH eh6 ?_
    clear eh6
    refine aw_aload_n hC dX6_taxBy_25 rfl ?_
    refine aw_gc6 (k := 57) (a := 35) (b := 58) hC hbt dX6_taxBy_26 lkRX6_96 (by decide) rfl rfl rfl (by decide) (by decide) ?_
    refine aw_iconst hC dX6_taxBy_29 (by decide) ?_
    refine aw_aload_n hC dX6_taxBy_30 rfl ?_
    refine aw_g6i (k := 55) (a := 35) hC dX6_taxBy_31 lkRX6_351 (by decide) rfl rfl rfl (Or.inl ⟨hbt, by decide⟩) ?_
    obtain ⟨g7, hF⟩ := gd_some hF
    obtain ⟨h8, eh8, hF⟩ := lb_some hF
    refine aw_iastore (a := 58) hC dX6_taxBy_34 rfl rfl (Or.inl ⟨hbt, by decide⟩) g7.1 g7.2 ?_
    refine aw_eqH eh8 ?_
    clear eh8
    refine aw_aload_n hC dX6_taxBy_35 rfl ?_
    refine aw_gc6 (k := 57) (a := 35) (b := 58) hC hbt dX6_taxBy_36 lkRX6_96 (by decide) rfl rfl rfl (by decide) (by decide) ?_
    refine aw_iconst hC dX6_taxBy_39 (by decide) ?_
    refine aw_aload_n hC dX6_taxBy_40 rfl ?_
    refine aw_gc6 (k := 6) (a := 35) (b := 36) hC hbt dX6_taxBy_41 lkRX6_16 (by decide) rfl rfl rfl (by decide) (by decide) ?_
    refine aw_aload_n hC dX6_taxBy_44 rfl ?_
    refine aw_gc6 (k := 7) (a := 35) (b := 37) hC hbt dX6_taxBy_45 lkRX6_20 (by decide) rfl rfl rfl (by decide) (by decide) ?_
    refine aw_iload_n hC dX6_taxBy_48 rfl ?_
    obtain ⟨g9, hF⟩ := gd_some hF
    refine aw_iaload (a := 37) hC dX6_taxBy_49 rfl rfl (Or.inl ⟨hbt, by decide⟩) g9.1 g9.2 ?_
    obtain ⟨g10, hF⟩ := gd_some hF
    refine aw_iaload (a := 36) hC dX6_taxBy_50 rfl rfl (Or.inl ⟨hbt, by decide⟩) g10.1 g10.2 ?_
    obtain ⟨g11, hF⟩ := gd_some hF
    obtain ⟨h12, eh12, hF⟩ := lb_some hF
    refine aw_iastore (a := 58) hC dX6_taxBy_51 rfl rfl (Or.inl ⟨hbt, by decide⟩) g11.1 g11.2 ?_
    refine aw_eqH eh12 ?_
    clear eh12
    refine aw_aload_n hC dX6_taxBy_52 rfl ?_
    refine aw_gc6 (k := 57) (a := 35) (b := 58) hC hbt dX6_taxBy_53 lkRX6_96 (by decide) rfl rfl rfl (by decide) (by decide) ?_
    refine aw_iconst hC dX6_taxBy_56 (by decide) ?_
    refine aw_aload_n hC dX6_taxBy_57 rfl ?_
    refine aw_gc6 (k := 8) (a := 35) (b := 38) hC hbt dX6_taxBy_58 lkRX6_23 (by decide) rfl rfl rfl (by decide) (by decide) ?_
    refine aw_iload_n hC dX6_taxBy_61 rfl ?_
    obtain ⟨g13, hF⟩ := gd_some hF
    refine aw_iaload (a := 38) hC dX6_taxBy_62 rfl rfl (Or.inl ⟨hbt, by decide⟩) g13.1 g13.2 ?_
    obtain ⟨g14, hF⟩ := gd_some hF
    obtain ⟨h15, eh15, hF⟩ := lb_some hF
    refine aw_iastore (a := 58) hC dX6_taxBy_63 rfl rfl (Or.inl ⟨hbt, by decide⟩) g14.1 g14.2 ?_
    refine aw_eqH eh15 ?_
    clear eh15
    refine aw_aload_n hC dX6_taxBy_64 rfl ?_
    refine aw_gc6 (k := 57) (a := 35) (b := 58) hC hbt dX6_taxBy_65 lkRX6_96 (by decide) rfl rfl rfl (by decide) (by decide) ?_
    refine aw_iconst hC dX6_taxBy_68 (by decide) ?_
    refine aw_aload_n hC dX6_taxBy_69 rfl ?_
    refine aw_gc6 (k := 46) (a := 35) (b := 54) hC hbt dX6_taxBy_70 lkRX6_75 (by decide) rfl rfl rfl (by decide) (by decide) ?_
    refine aw_bipush hC dX6_taxBy_73 (by decide) (by decide) ?_
    obtain ⟨g16, hF⟩ := gd_some hF
    refine aw_iaload (a := 54) hC dX6_taxBy_75 rfl rfl (Or.inl ⟨hbt, by decide⟩) g16.1 g16.2 ?_
    obtain ⟨g17, hF⟩ := gd_some hF
    obtain ⟨h18, eh18, hF⟩ := lb_some hF
    refine aw_iastore (a := 58) hC dX6_taxBy_76 rfl rfl (Or.inl ⟨hbt, by decide⟩) g17.1 g17.2 ?_
    refine aw_eqH eh18 ?_
    clear eh18
    refine aw_aload_n hC dX6_taxBy_77 rfl ?_
    refine aw_gc6 (k := 57) (a := 35) (b := 58) hC hbt dX6_taxBy_78 lkRX6_96 (by decide) rfl rfl rfl (by decide) (by decide) ?_
    refine aw_iconst hC dX6_taxBy_81 (by decide) ?_
    refine aw_aload_n hC dX6_taxBy_82 rfl ?_
    refine aw_iload_n hC dX6_taxBy_83 rfl ?_
    obtain ⟨r19, q20, hF⟩ := bp_some hF
    refine clRX6_367 hC hRm hbt dX6_taxBy_84 rfl rfl (by decide) (Nat.le_of_ble_eq_true rfl) (Nat.le_of_ble_eq_true rfl) (ok_X6_housesSeen q20) ?_
    obtain ⟨r21, q22, hF⟩ := bp_some hF
    refine clRX6_370 hC hRm hbt dX6_taxBy_87 (Nat.le_of_ble_eq_true rfl) (Nat.le_of_ble_eq_true rfl) (ok_X6_bits q22) ?_
    obtain ⟨g23, hF⟩ := gd_some hF
    obtain ⟨h24, eh24, hF⟩ := lb_some hF
    refine aw_iastore (a := 58) hC dX6_taxBy_90 rfl rfl (Or.inl ⟨hbt, by decide⟩) g23.1 g23.2 ?_
    refine aw_eqH eh24 ?_
    clear eh24
    refine aw_aload_n hC dX6_taxBy_91 rfl ?_
    refine aw_gc6 (k := 57) (a := 35) (b := 58) hC hbt dX6_taxBy_92 lkRX6_96 (by decide) rfl rfl rfl (by decide) (by decide) ?_
    refine aw_bipush hC dX6_taxBy_95 (by decide) (by decide) ?_
    refine aw_aload_n hC dX6_taxBy_97 rfl ?_
    refine aw_gc6 (k := 46) (a := 35) (b := 54) hC hbt dX6_taxBy_98 lkRX6_75 (by decide) rfl rfl rfl (by decide) (by decide) ?_
    refine aw_bipush hC dX6_taxBy_101 (by decide) (by decide) ?_
    refine aw_iload_n hC dX6_taxBy_103 rfl ?_
    refine aw_iadd hC dX6_taxBy_104 ?_
    obtain ⟨g25, hF⟩ := gd_some hF
    refine aw_iaload (a := 54) hC dX6_taxBy_105 rfl rfl (Or.inl ⟨hbt, by decide⟩) g25.1 g25.2 ?_
    obtain ⟨g26, hF⟩ := gd_some hF
    obtain ⟨h27, eh27, hF⟩ := lb_some hF
    refine aw_iastore (a := 58) hC dX6_taxBy_106 rfl rfl (Or.inl ⟨hbt, by decide⟩) g26.1 g26.2 ?_
    refine aw_eqH eh27 ?_
    clear eh27
    refine aw_aload_n hC dX6_taxBy_107 rfl ?_
    refine aw_aload_n hC dX6_taxBy_108 rfl ?_
    refine aw_gc6 (k := 10) (a := 35) (b := 40) hC hbt dX6_taxBy_109 lkRX6_29 (by decide) rfl rfl rfl (by decide) (by decide) ?_
    refine aw_iload_n hC dX6_taxBy_112 rfl ?_
    obtain ⟨g28, hF⟩ := gd_some hF
    refine aw_iaload (a := 40) hC dX6_taxBy_113 rfl rfl (Or.inl ⟨hbt, by decide⟩) g28.1 g28.2 ?_
    obtain ⟨r29, h31, q30, hF⟩ := bd_some hF
    refine clRX6_373 hC hRm hbt dX6_taxBy_114 rfl rfl (by decide) (Nat.le_of_ble_eq_true rfl) (Nat.le_of_ble_eq_true rfl) (ok_X6_reckons q30) ?_
    refine aw_istore3 hC dX6_taxBy_117 rfl ?_
    refine aw_iload_n hC dX6_taxBy_118 rfl ?_
    refine aw_if_ge (tgt := 126) hC dX6_taxBy_119 (by decide) (fun c32 => ?_) (fun c32 => ?_)
    · have hF := it_t hF c32
      refine aw_iload_n hC dX6_taxBy_126 rfl ?_
      refine aw_sipush hC dX6_taxBy_127 (by decide) (by decide) ?_
      refine aw_icmp_le (tgt := 139) hC dX6_taxBy_130 (by decide) (fun c33 => ?_) (fun c33 => ?_)
      · have hF := it_t hF c33
        refine aw_iload_n hC dX6_taxBy_139 rfl ?_
        exact aw_ireturn hC hZ (Nat.zero_le _) (Nat.zero_le _) hr dX6_taxBy_140 (hK _ _ (Option.some.inj hF).symm)
      · have hF := it_f hF c33
        refine aw_sipush hC dX6_taxBy_133 (by decide) (by decide) ?_
        refine aw_goto (tgt := 140) hC dX6_taxBy_136 (by decide) ?_
        exact aw_ireturn hC hZ (Nat.zero_le _) (Nat.zero_le _) hr dX6_taxBy_140 (hK _ _ (Option.some.inj hF).symm)
    · have hF := it_f hF c32
      refine aw_iconst hC dX6_taxBy_122 (by decide) ?_
      refine aw_goto (tgt := 140) hC dX6_taxBy_123 (by decide) ?_
      exact aw_ireturn hC hZ (Nat.zero_le _) (Nat.zero_le _) hr dX6_taxBy_140 (hK _ _ (Option.some.inj hF).symm)
  · have hF := it_t hF c4
    refine aw_aload_n hC dX6_taxBy_10 rfl ?_
    refine aw_g6i (k := 56) (a := 35) hC dX6_taxBy_11 lkRX6_354 (by decide) rfl rfl rfl (Or.inl ⟨hbt, by decide⟩) ?_
    exact aw_ireturn hC hZ (Nat.zero_le _) (Nat.zero_le _) hr dX6_taxBy_14 (hK _ _ (Option.some.inj hF).symm)
def fX6_taxOf (x1 : Int) (h : Hp) : Option (Int × Hp) :=
  gd_ (0 ≤ (60 : Int) ∧ (60 : Int) < 62) (bd_ (fX6_taxBy x1 ((h 54 (Int.toNat 60))) h) (fun r2 h4 => some (r2, h4)))
theorem ok_X6_taxOf {G : GD} {n : Nat} {x1 : Int} {h : Hp} {res : Int × Hp} (hF : fX6_taxOf x1 h = some res) : Con G yX6_taxOf cX6_taxOf 2 (some .int) 5 0 0 true [(2, ((35 : Nat) : Int)), (0, x1)] n h (FQ 0 n res) := by
  refine con_of (pad := 0) (own := RX6) (plainFor_of_name (by decide)) rfl rfl ?_
  intro X hC hbt hr hnm hZ hRm hn0
  have hK : ∀ (x9 : Int) (h9 : Hp), res = (x9, h9) → FQ 0 n res (0, x9) n h9 := fun x9 h9 e => by subst e; exact ⟨rfl, rfl, rfl⟩
  unfold fX6_taxOf at hF
  show AW G X 0 [(2, ((35 : Nat) : Int)), (0, x1)] [] n h 0 0
  refine aw_aload_n hC dX6_taxOf_0 rfl ?_
  refine aw_iload_n hC dX6_taxOf_1 rfl ?_
  refine aw_aload_n hC dX6_taxOf_2 rfl ?_
  refine aw_gc6 (k := 46) (a := 35) (b := 54) hC hbt dX6_taxOf_3 lkRX6_75 (by decide) rfl rfl rfl (by decide) (by decide) ?_
  refine aw_bipush hC dX6_taxOf_6 (by decide) (by decide) ?_
  obtain ⟨g1, hF⟩ := gd_some hF
  refine aw_iaload (a := 54) hC dX6_taxOf_8 rfl rfl (Or.inl ⟨hbt, by decide⟩) g1.1 g1.2 ?_
  obtain ⟨r2, h4, q3, hF⟩ := bd_some hF
  refine clRX6_376 hC hRm hbt dX6_taxOf_9 rfl rfl (by decide) (Nat.le_of_ble_eq_true rfl) (Nat.le_of_ble_eq_true rfl) (ok_X6_taxBy q3) ?_
  exact aw_ireturn hC hZ (Nat.zero_le _) (Nat.zero_le _) hr dX6_taxOf_12 (hK _ _ (Option.some.inj hF).symm)
def fX6_sumBy_l8 (x1 : Int) (x2 : Int) (x3 : Int) (h : Hp) : Option ((Int × Int × Hp) ⊕ (Int × Hp)) :=
  (if (h 35 3) ≤ x3 then some (.inr (x2, h)) else bd_ (fX6_taxBy x3 x1 h) (fun r5 h7 => lb_ ((i_add x2 r5)) (fun v8 => some (.inl (v8, (i_add x3 1), h7)))))
def fX6_sumBy (x1 : Int) (h : Hp) : Option (Int × Hp) :=
  bd_ (fX6_laysOut h) (fun r1 h3 => bp_ (it_ (fun s => fX6_sumBy_l8 x1 s.1 s.2.1 s.2.2) FU (0, 0, h3)) (fun e10 => (fun y11 h12 => some (y11, h12)) e10.1 e10.2))
theorem fX6_sumBy_l8_ok {G : GD} {X : CX} {n : Nat} {Q : Av → Nat → Hp → Prop} (hC : Cx G X RX6 cX6_sumBy) (hZ : ZOK X G Q 0 0) (hRm : X.R = rmd 5 0 0) (hbt : X.bt = true) (hr : X.meth.sig.returnType = (some .int)) {x1 : Int} : ∀ (f : Nat) (x2 : Int) (x3 : Int) (h : Hp) (r : Int × Hp), it_ (fun s => fX6_sumBy_l8 x1 s.1 s.2.1 s.2.2) f (x2, x3, h) = some r → (∀ (y2 : Int) (h9 : Hp), r = (y2, h9) → AW G X 31 [(9, 0), (9, 0), (0, y2), (9, 0)] [] n h9 0 0) → AW G X 8 [(2, ((35 : Nat) : Int)), (0, x1), (0, x2), (0, x3)] [] n h 0 0 := by
  intro f
  induction f with
  | zero => intro x2 x3 h r hI; cases hI
  | succ f ih0 =>
    intro x2 x3 h r hI hX
    obtain ⟨b, hF, hb1, hb2⟩ := it_succ hI
    have hF : fX6_sumBy_l8 x1 x2 x3 h = some b := hF
    unfold fX6_sumBy_l8 at hF
    refine aw_iload_n hC dX6_sumBy_8 rfl ?_
    refine aw_aload_n hC dX6_sumBy_9 rfl ?_
    refine aw_g6i (k := 3) (a := 35) hC dX6_sumBy_10 lkRX6_297 (by decide) rfl rfl rfl (Or.inl ⟨hbt, by decide⟩) ?_
    refine aw_icmp_ge (tgt := 31) hC dX6_sumBy_13 (by decide) (fun c4 => ?_) (fun c4 => ?_)
    · have hF := it_t hF c4
      refine aw_weak (ls' := [(9, 0), (9, 0), (0, x2), (9, 0)]) ⟨Or.inl rfl, Or.inl rfl, Or.inr rfl, Or.inl rfl, trivial⟩ ?_
      exact hX _ _ (hb2 _ (Option.some.inj hF).symm).symm
    · have hF := it_f hF c4
      refine aw_iload_n hC dX6_sumBy_16 rfl ?_
      refine aw_aload_n hC dX6_sumBy_17 rfl ?_
      refine aw_iload_n hC dX6_sumBy_18 rfl ?_
      refine aw_iload_n hC dX6_sumBy_19 rfl ?_
      obtain ⟨r5, h7, q6, hF⟩ := bd_some hF
      refine clRX6_376 hC hRm hbt dX6_sumBy_20 rfl rfl (by decide) (Nat.le_of_ble_eq_true rfl) (Nat.le_of_ble_eq_true rfl) (ok_X6_taxBy q6) ?_
      refine aw_iadd hC dX6_sumBy_23 ?_
      obtain ⟨v8, ev8, hF⟩ := lb_some hF
      refine aw_eqT ev8 ?_
      clear ev8
      refine aw_istore2 hC dX6_sumBy_24 rfl ?_
      refine aw_iinc3 hC dX6_sumBy_25 rfl ?_
      refine aw_goto (tgt := 8) hC dX6_sumBy_28 (by decide) ?_
      exact ih0 _ _ _ r (hb1 _ (Option.some.inj hF).symm) hX
theorem ok_X6_sumBy {G : GD} {n : Nat} {x1 : Int} {h : Hp} {res : Int × Hp} (hF : fX6_sumBy x1 h = some res) : Con G yX6_sumBy cX6_sumBy 4 (some .int) 5 0 0 true [(2, ((35 : Nat) : Int)), (0, x1)] n h (FQ 0 n res) := by
  refine con_of (pad := 2) (own := RX6) (plainFor_of_name (by decide)) rfl rfl ?_
  intro X hC hbt hr hnm hZ hRm hn0
  have hK : ∀ (x9 : Int) (h9 : Hp), res = (x9, h9) → FQ 0 n res (0, x9) n h9 := fun x9 h9 e => by subst e; exact ⟨rfl, rfl, rfl⟩
  unfold fX6_sumBy at hF
  show AW G X 0 [(2, ((35 : Nat) : Int)), (0, x1), (9, 0), (9, 0)] [] n h 0 0
  refine aw_aload_n hC dX6_sumBy_0 rfl ?_
  obtain ⟨r1, h3, q2, hF⟩ := bd_some hF
  refine clRX6_379 hC hRm hbt dX6_sumBy_1 rfl rfl (by decide) (Nat.le_of_ble_eq_true rfl) (Nat.le_of_ble_eq_true rfl) (ok_X6_laysOut q2) ?_
  refine aw_iconst hC dX6_sumBy_4 (by decide) ?_
  refine aw_istore2 hC dX6_sumBy_5 rfl ?_
  refine aw_iconst hC dX6_sumBy_6 (by decide) ?_
  refine aw_istore3 hC dX6_sumBy_7 rfl ?_
  obtain ⟨e10, he, hF⟩ := bp_some hF
  refine fX6_sumBy_l8_ok hC hZ hRm hbt hr FU _ _ _ e10 he (fun y11 h12 er => ?_)
  replace er := er.symm
  subst er
  try dsimp only at hF
  refine aw_iload_n hC dX6_sumBy_31 rfl ?_
  exact aw_ireturn hC hZ (Nat.zero_le _) (Nat.zero_le _) hr dX6_sumBy_32 (hK _ _ (Option.some.inj hF).symm)
def fX6_sum  (h : Hp) : Option (Int × Hp) :=
  gd_ (0 ≤ (60 : Int) ∧ (60 : Int) < 62) (bd_ (fX6_sumBy ((h 54 (Int.toNat 60))) h) (fun r2 h4 => some (r2, h4)))
theorem ok_X6_sum {G : GD} {n : Nat}  {h : Hp} {res : Int × Hp} (hF : fX6_sum  h = some res) : Con G yX6_sum cX6_sum 1 (some .int) 6 0 0 true [(2, ((35 : Nat) : Int))] n h (FQ 0 n res) := by
  refine con_of (pad := 0) (own := RX6) (plainFor_of_name (by decide)) rfl rfl ?_
  intro X hC hbt hr hnm hZ hRm hn0
  have hK : ∀ (x9 : Int) (h9 : Hp), res = (x9, h9) → FQ 0 n res (0, x9) n h9 := fun x9 h9 e => by subst e; exact ⟨rfl, rfl, rfl⟩
  unfold fX6_sum at hF
  show AW G X 0 [(2, ((35 : Nat) : Int))] [] n h 0 0
  refine aw_aload_n hC dX6_sum_0 rfl ?_
  refine aw_aload_n hC dX6_sum_1 rfl ?_
  refine aw_gc6 (k := 46) (a := 35) (b := 54) hC hbt dX6_sum_2 lkRX6_75 (by decide) rfl rfl rfl (by decide) (by decide) ?_
  refine aw_bipush hC dX6_sum_5 (by decide) (by decide) ?_
  obtain ⟨g1, hF⟩ := gd_some hF
  refine aw_iaload (a := 54) hC dX6_sum_7 rfl rfl (Or.inl ⟨hbt, by decide⟩) g1.1 g1.2 ?_
  obtain ⟨r2, h4, q3, hF⟩ := bd_some hF
  refine clRX6_382 hC hRm hbt dX6_sum_8 rfl rfl (by decide) (Nat.le_of_ble_eq_true rfl) (Nat.le_of_ble_eq_true rfl) (ok_X6_sumBy q3) ?_
  exact aw_ireturn hC hZ (Nat.zero_le _) (Nat.zero_le _) hr dX6_sum_11 (hK _ _ (Option.some.inj hF).symm)
def fX6_treesStand_l4 (x1 : Int) (x2 : Int) (h : Hp) : Option ((Int × Int) ⊕ (Int)) :=
  (if 12 ≤ x2 then some (.inr x1) else gd_ (0 ≤ (i_add 0 x2) ∧ (i_add 0 x2) < 62) ((if (h 54 (Int.toNat ((i_add 0 x2)))) = (-1) then lb_ ((i_add x1 0)) (fun v4 => some (.inl (v4, (i_add x2 1)))) else lb_ ((i_add x1 1)) (fun v6 => some (.inl (v6, (i_add x2 1)))))))
def fX6_treesStand  (h : Hp) : Option (Int) :=
  bp_ (it_ (fun s => fX6_treesStand_l4 s.1 s.2 h) FU (0, 0)) (fun e8 => (fun y9 => some y9) e8)
theorem fX6_treesStand_l4_ok {G : GD} {X : CX} {n : Nat} {Q : Av → Nat → Hp → Prop} (hC : Cx G X RX6 cX6_treesStand) (hZ : ZOK X G Q 0 0) (hRm : X.R = rmd 0 0 0) (hbt : X.bt = true) (hr : X.meth.sig.returnType = (some .int))  {h : Hp} : ∀ (f : Nat) (x1 : Int) (x2 : Int) (r : Int), it_ (fun s => fX6_treesStand_l4 s.1 s.2 h) f (x1, x2) = some r → (∀ (y1 : Int), r = y1 → AW G X 36 [(9, 0), (0, y1), (9, 0)] [] n h 0 0) → AW G X 4 [(2, ((35 : Nat) : Int)), (0, x1), (0, x2)] [] n h 0 0 := by
  intro f
  induction f with
  | zero => intro x1 x2 r hI; cases hI
  | succ f ih0 =>
    intro x1 x2 r hI hX
    obtain ⟨b, hF, hb1, hb2⟩ := it_succ hI
    have hF : fX6_treesStand_l4 x1 x2 h = some b := hF
    unfold fX6_treesStand_l4 at hF
    refine aw_iload_n hC dX6_treesStand_4 rfl ?_
    refine aw_bipush hC dX6_treesStand_5 (by decide) (by decide) ?_
    refine aw_icmp_ge (tgt := 36) hC dX6_treesStand_7 (by decide) (fun c1 => ?_) (fun c1 => ?_)
    · have hF := it_t hF c1
      refine aw_weak (ls' := [(9, 0), (0, x1), (9, 0)]) ⟨Or.inl rfl, Or.inr rfl, Or.inl rfl, trivial⟩ ?_
      exact hX _ (hb2 _ (Option.some.inj hF).symm).symm
    · have hF := it_f hF c1
      refine aw_iload_n hC dX6_treesStand_10 rfl ?_
      refine aw_aload_n hC dX6_treesStand_11 rfl ?_
      refine aw_gc6 (k := 46) (a := 35) (b := 54) hC hbt dX6_treesStand_12 lkRX6_75 (by decide) rfl rfl rfl (by decide) (by decide) ?_
      refine aw_iconst hC dX6_treesStand_15 (by decide) ?_
      refine aw_iload_n hC dX6_treesStand_16 rfl ?_
      refine aw_iadd hC dX6_treesStand_17 ?_
      obtain ⟨g2, hF⟩ := gd_some hF
      refine aw_iaload (a := 54) hC dX6_treesStand_18 rfl rfl (Or.inl ⟨hbt, by decide⟩) g2.1 g2.2 ?_
      refine aw_iconst hC dX6_treesStand_19 (by decide) ?_
      refine aw_icmp_eq (tgt := 27) hC dX6_treesStand_20 (by decide) (fun c3 => ?_) (fun c3 => ?_)
      · have hF := it_t hF c3
        refine aw_iconst hC dX6_treesStand_27 (by decide) ?_
        refine aw_iadd hC dX6_treesStand_28 ?_
        obtain ⟨v4, ev4, hF⟩ := lb_some hF
        refine aw_eqT ev4 ?_
        clear ev4
        refine aw_istore1 hC dX6_treesStand_29 rfl ?_
        refine aw_iinc2 hC dX6_treesStand_30 rfl ?_
        refine aw_goto (tgt := 4) hC dX6_treesStand_33 (by decide) ?_
        exact ih0 _ _ r (hb1 _ (Option.some.inj hF).symm) hX
      · have hF := it_f hF c3
        refine aw_iconst hC dX6_treesStand_23 (by decide) ?_
        refine aw_goto (tgt := 28) hC dX6_treesStand_24 (by decide) ?_
        refine aw_iadd hC dX6_treesStand_28 ?_
        obtain ⟨v6, ev6, hF⟩ := lb_some hF
        refine aw_eqT ev6 ?_
        clear ev6
        refine aw_istore1 hC dX6_treesStand_29 rfl ?_
        refine aw_iinc2 hC dX6_treesStand_30 rfl ?_
        refine aw_goto (tgt := 4) hC dX6_treesStand_33 (by decide) ?_
        exact ih0 _ _ r (hb1 _ (Option.some.inj hF).symm) hX
theorem ok_X6_treesStand {G : GD} {n : Nat}  {h : Hp} {res : Int} (hF : fX6_treesStand  h = some res) : Con G yX6_treesStand cX6_treesStand 3 (some .int) 0 0 0 true [(2, ((35 : Nat) : Int))] n h (FQ 0 n (res, h)) := by
  refine con_of (pad := 2) (own := RX6) (plainFor_of_name (by decide)) rfl rfl ?_
  intro X hC hbt hr hnm hZ hRm hn0
  have hK : ∀ (x9 : Int), res = x9 → FQ 0 n (res, h) (0, x9) n h := fun x9 e => by subst e; exact ⟨rfl, rfl, rfl⟩
  unfold fX6_treesStand at hF
  show AW G X 0 [(2, ((35 : Nat) : Int)), (9, 0), (9, 0)] [] n h 0 0
  refine aw_iconst hC dX6_treesStand_0 (by decide) ?_
  refine aw_istore1 hC dX6_treesStand_1 rfl ?_
  refine aw_iconst hC dX6_treesStand_2 (by decide) ?_
  refine aw_istore2 hC dX6_treesStand_3 rfl ?_
  obtain ⟨e8, he, hF⟩ := bp_some hF
  refine fX6_treesStand_l4_ok hC hZ hRm hbt hr FU _ _ e8 he (fun y9 er => ?_)
  replace er := er.symm
  subst er
  try dsimp only at hF
  refine aw_iload_n hC dX6_treesStand_36 rfl ?_
  exact aw_ireturn hC hZ (Nat.zero_le _) (Nat.zero_le _) hr dX6_treesStand_37 (hK _ (Option.some.inj hF).symm)
def fX6_count (x1 : Int) (h : Hp) : Option (Int × Hp) :=
  lb_ (st h 35 0 0) (fun h1 => bp_ (fX6_within x1 0 14 h1) (fun r2 => bd_ (fX6_right r2 1 h1) (fun r4 h6 => (if r4 = 0 then some (0, h6) else (if x1 = 0 then some ((h6 35 1), h6) else if x1 = 1 then some ((h6 35 2), h6) else if x1 = 2 then bp_ (fX6_treesStand h6) (fun r11 => some (r11, h6)) else if x1 = 3 then some ((h6 35 3), h6) else if x1 = 4 then some ((h6 35 4), h6) else if x1 = 5 then gd_ (0 ≤ (60 : Int) ∧ (60 : Int) < 62) (some ((h6 54 (Int.toNat 60)), h6)) else if x1 = 6 then gd_ (0 ≤ (61 : Int) ∧ (61 : Int) < 62) (some ((h6 54 (Int.toNat 61)), h6)) else if x1 = 7 then bp_ (fX6_fogNow h6) (fun r20 => some (r20, h6)) else if x1 = 8 then bd_ (fX6_sum h6) (fun r23 h25 => some (r23, h25)) else if x1 = 9 then some ((h6 35 49), h6) else if x1 = 10 then some ((h6 35 65), h6) else if x1 = 11 then some ((h6 35 13), h6) else gd_ (0 ≤ (i_sub x1 12) ∧ (i_sub x1 12) < 3) (some ((h6 43 (Int.toNat ((i_sub x1 12)))), h6)))))))
theorem ok_X6_count {G : GD} {n : Nat} {x1 : Int} {h : Hp} {res : Int × Hp} (hF : fX6_count x1 h = some res) : Con G yX6_count cX6_count 2 (some .int) 7 0 0 true [(2, ((35 : Nat) : Int)), (0, x1)] n h (FQ 0 n res) := by
  refine con_of (pad := 0) (own := RX6) (plainFor_of_name (by decide)) rfl rfl ?_
  intro X hC hbt hr hnm hZ hRm hn0
  have hK : ∀ (x9 : Int) (h9 : Hp), res = (x9, h9) → FQ 0 n res (0, x9) n h9 := fun x9 h9 e => by subst e; exact ⟨rfl, rfl, rfl⟩
  unfold fX6_count at hF
  show AW G X 0 [(2, ((35 : Nat) : Int)), (0, x1)] [] n h 0 0
  refine aw_aload_n hC dX6_count_0 rfl ?_
  refine aw_iconst hC dX6_count_1 (by decide) ?_
  obtain ⟨h1, eh1, hF⟩ := lb_some hF
  refine aw_p6i (k := 0) (a := 35) hC dX6_count_2 lkRX6_129 (by decide) rfl rfl rfl rfl rfl (Or.inl ⟨hbt, by decide⟩) (fun _ => by decide) ?_
  refine aw_eqH eh1 ?_
  clear eh1
  refine aw_aload_n hC dX6_count_5 rfl ?_
  refine aw_iload_n hC dX6_count_6 rfl ?_
  refine aw_iconst hC dX6_count_7 (by decide) ?_
  refine aw_bipush hC dX6_count_8 (by decide) (by decide) ?_
  obtain ⟨r2, q3, hF⟩ := bp_some hF
  refine clRX6_385 hC hRm hbt dX6_count_10 (Nat.le_of_ble_eq_true rfl) (Nat.le_of_ble_eq_true rfl) (ok_X6_within q3) ?_
  refine aw_iconst hC dX6_count_13 (by decide) ?_
  obtain ⟨r4, h6, q5, hF⟩ := bd_some hF
  refine clRX6_290 hC hRm hbt dX6_count_14 rfl rfl (by decide) (Nat.le_of_ble_eq_true rfl) (Nat.le_of_ble_eq_true rfl) (ok_X6_right q5) ?_
  refine aw_if_ne (tgt := 22) hC dX6_count_17 (by decide) (fun c7 => ?_) (fun c7 => ?_)
  · have hF := it_f hF c7
    refine aw_iload_n hC dX6_count_22 rfl ?_
    by_cases c8 : x1 = 0
    · have hF := it_t hF c8
      refine aw_tableIn (off := 61) (tgt := 84) hC dX6_count_23 (by omega) (by omega) (by rw [c8]; rfl) (by decide) ?_
      refine aw_aload_n hC dX6_count_84 rfl ?_
      refine aw_g6i (k := 1) (a := 35) hC dX6_count_85 lkRX6_7 (by decide) rfl rfl rfl (Or.inl ⟨hbt, by decide⟩) ?_
      exact aw_ireturn hC hZ (Nat.zero_le _) (Nat.zero_le _) hr dX6_count_88 (hK _ _ (Option.some.inj hF).symm)
    have hF := it_f hF c8
    by_cases c9 : x1 = 1
    · have hF := it_t hF c9
      refine aw_tableIn (off := 66) (tgt := 89) hC dX6_count_23 (by omega) (by omega) (by rw [c9]; rfl) (by decide) ?_
      refine aw_aload_n hC dX6_count_89 rfl ?_
      refine aw_g6i (k := 2) (a := 35) hC dX6_count_90 lkRX6_13 (by decide) rfl rfl rfl (Or.inl ⟨hbt, by decide⟩) ?_
      exact aw_ireturn hC hZ (Nat.zero_le _) (Nat.zero_le _) hr dX6_count_93 (hK _ _ (Option.some.inj hF).symm)
    have hF := it_f hF c9
    by_cases c10 : x1 = 2
    · have hF := it_t hF c10
      refine aw_tableIn (off := 71) (tgt := 94) hC dX6_count_23 (by omega) (by omega) (by rw [c10]; rfl) (by decide) ?_
      refine aw_aload_n hC dX6_count_94 rfl ?_
      obtain ⟨r11, q12, hF⟩ := bp_some hF
      refine clRX6_389 hC hRm hbt dX6_count_95 rfl rfl (by decide) (Nat.le_of_ble_eq_true rfl) (Nat.le_of_ble_eq_true rfl) (ok_X6_treesStand q12) ?_
      exact aw_ireturn hC hZ (Nat.zero_le _) (Nat.zero_le _) hr dX6_count_98 (hK _ _ (Option.some.inj hF).symm)
    have hF := it_f hF c10
    by_cases c13 : x1 = 3
    · have hF := it_t hF c13
      refine aw_tableIn (off := 76) (tgt := 99) hC dX6_count_23 (by omega) (by omega) (by rw [c13]; rfl) (by decide) ?_
      refine aw_aload_n hC dX6_count_99 rfl ?_
      refine aw_g6i (k := 3) (a := 35) hC dX6_count_100 lkRX6_297 (by decide) rfl rfl rfl (Or.inl ⟨hbt, by decide⟩) ?_
      exact aw_ireturn hC hZ (Nat.zero_le _) (Nat.zero_le _) hr dX6_count_103 (hK _ _ (Option.some.inj hF).symm)
    have hF := it_f hF c13
    by_cases c14 : x1 = 4
    · have hF := it_t hF c14
      refine aw_tableIn (off := 81) (tgt := 104) hC dX6_count_23 (by omega) (by omega) (by rw [c14]; rfl) (by decide) ?_
      refine aw_aload_n hC dX6_count_104 rfl ?_
      refine aw_g6i (k := 4) (a := 35) hC dX6_count_105 lkRX6_300 (by decide) rfl rfl rfl (Or.inl ⟨hbt, by decide⟩) ?_
      exact aw_ireturn hC hZ (Nat.zero_le _) (Nat.zero_le _) hr dX6_count_108 (hK _ _ (Option.some.inj hF).symm)
    have hF := it_f hF c14
    by_cases c15 : x1 = 5
    · have hF := it_t hF c15
      refine aw_tableIn (off := 86) (tgt := 109) hC dX6_count_23 (by omega) (by omega) (by rw [c15]; rfl) (by decide) ?_
      refine aw_aload_n hC dX6_count_109 rfl ?_
      refine aw_gc6 (k := 46) (a := 35) (b := 54) hC hbt dX6_count_110 lkRX6_75 (by decide) rfl rfl rfl (by decide) (by decide) ?_
      refine aw_bipush hC dX6_count_113 (by decide) (by decide) ?_
      obtain ⟨g16, hF⟩ := gd_some hF
      refine aw_iaload (a := 54) hC dX6_count_115 rfl rfl (Or.inl ⟨hbt, by decide⟩) g16.1 g16.2 ?_
      exact aw_ireturn hC hZ (Nat.zero_le _) (Nat.zero_le _) hr dX6_count_116 (hK _ _ (Option.some.inj hF).symm)
    have hF := it_f hF c15
    by_cases c17 : x1 = 6
    · have hF := it_t hF c17
      refine aw_tableIn (off := 94) (tgt := 117) hC dX6_count_23 (by omega) (by omega) (by rw [c17]; rfl) (by decide) ?_
      refine aw_aload_n hC dX6_count_117 rfl ?_
      refine aw_gc6 (k := 46) (a := 35) (b := 54) hC hbt dX6_count_118 lkRX6_75 (by decide) rfl rfl rfl (by decide) (by decide) ?_
      refine aw_bipush hC dX6_count_121 (by decide) (by decide) ?_
      obtain ⟨g18, hF⟩ := gd_some hF
      refine aw_iaload (a := 54) hC dX6_count_123 rfl rfl (Or.inl ⟨hbt, by decide⟩) g18.1 g18.2 ?_
      exact aw_ireturn hC hZ (Nat.zero_le _) (Nat.zero_le _) hr dX6_count_124 (hK _ _ (Option.some.inj hF).symm)
    have hF := it_f hF c17
    by_cases c19 : x1 = 7
    · have hF := it_t hF c19
      refine aw_tableIn (off := 102) (tgt := 125) hC dX6_count_23 (by omega) (by omega) (by rw [c19]; rfl) (by decide) ?_
      refine aw_aload_n hC dX6_count_125 rfl ?_
      obtain ⟨r20, q21, hF⟩ := bp_some hF
      refine clRX6_344 hC hRm hbt dX6_count_126 rfl rfl (by decide) (Nat.le_of_ble_eq_true rfl) (Nat.le_of_ble_eq_true rfl) (ok_X6_fogNow q21) ?_
      exact aw_ireturn hC hZ (Nat.zero_le _) (Nat.zero_le _) hr dX6_count_129 (hK _ _ (Option.some.inj hF).symm)
    have hF := it_f hF c19
    by_cases c22 : x1 = 8
    · have hF := it_t hF c22
      refine aw_tableIn (off := 107) (tgt := 130) hC dX6_count_23 (by omega) (by omega) (by rw [c22]; rfl) (by decide) ?_
      refine aw_aload_n hC dX6_count_130 rfl ?_
      obtain ⟨r23, h25, q24, hF⟩ := bd_some hF
      refine clRX6_392 hC hRm hbt dX6_count_131 rfl rfl (by decide) (Nat.le_of_ble_eq_true rfl) (Nat.le_of_ble_eq_true rfl) (ok_X6_sum q24) ?_
      exact aw_ireturn hC hZ (Nat.zero_le _) (Nat.zero_le _) hr dX6_count_134 (hK _ _ (Option.some.inj hF).symm)
    have hF := it_f hF c22
    by_cases c26 : x1 = 9
    · have hF := it_t hF c26
      refine aw_tableIn (off := 112) (tgt := 135) hC dX6_count_23 (by omega) (by omega) (by rw [c26]; rfl) (by decide) ?_
      refine aw_aload_n hC dX6_count_135 rfl ?_
      refine aw_g6i (k := 49) (a := 35) hC dX6_count_136 lkRX6_310 (by decide) rfl rfl rfl (Or.inl ⟨hbt, by decide⟩) ?_
      exact aw_ireturn hC hZ (Nat.zero_le _) (Nat.zero_le _) hr dX6_count_139 (hK _ _ (Option.some.inj hF).symm)
    have hF := it_f hF c26
    by_cases c27 : x1 = 10
    · have hF := it_t hF c27
      refine aw_tableIn (off := 117) (tgt := 140) hC dX6_count_23 (by omega) (by omega) (by rw [c27]; rfl) (by decide) ?_
      refine aw_aload_n hC dX6_count_140 rfl ?_
      refine aw_g6i (k := 65) (a := 35) hC dX6_count_141 lkRX6_313 (by decide) rfl rfl rfl (Or.inl ⟨hbt, by decide⟩) ?_
      exact aw_ireturn hC hZ (Nat.zero_le _) (Nat.zero_le _) hr dX6_count_144 (hK _ _ (Option.some.inj hF).symm)
    have hF := it_f hF c27
    by_cases c28 : x1 = 11
    · have hF := it_t hF c28
      refine aw_tableIn (off := 122) (tgt := 145) hC dX6_count_23 (by omega) (by omega) (by rw [c28]; rfl) (by decide) ?_
      refine aw_aload_n hC dX6_count_145 rfl ?_
      refine aw_g6i (k := 13) (a := 35) hC dX6_count_146 lkRX6_132 (by decide) rfl rfl rfl (Or.inl ⟨hbt, by decide⟩) ?_
      exact aw_ireturn hC hZ (Nat.zero_le _) (Nat.zero_le _) hr dX6_count_149 (hK _ _ (Option.some.inj hF).symm)
    have hF := it_f hF c28
    refine aw_tableOut (tgt := 150) hC dX6_count_23 (by omega) (by decide) ?_
    refine aw_aload_n hC dX6_count_150 rfl ?_
    refine aw_gc6 (k := 16) (a := 35) (b := 43) hC hbt dX6_count_151 lkRX6_41 (by decide) rfl rfl rfl (by decide) (by decide) ?_
    refine aw_iload_n hC dX6_count_154 rfl ?_
    refine aw_bipush hC dX6_count_155 (by decide) (by decide) ?_
    refine aw_isub hC dX6_count_157 ?_
    obtain ⟨g29, hF⟩ := gd_some hF
    refine aw_iaload (a := 43) hC dX6_count_158 rfl rfl (Or.inl ⟨hbt, by decide⟩) g29.1 g29.2 ?_
    exact aw_ireturn hC hZ (Nat.zero_le _) (Nat.zero_le _) hr dX6_count_159 (hK _ _ (Option.some.inj hF).symm)
  · have hF := it_t hF c7
    refine aw_iconst hC dX6_count_20 (by decide) ?_
    exact aw_ireturn hC hZ (Nat.zero_le _) (Nat.zero_le _) hr dX6_count_21 (hK _ _ (Option.some.inj hF).symm)
def fX6_isCell_j18 (z0 : Int) (h : Hp) : Option (Int × Hp) :=
  bd_ (fX6_right z0 1 h) (fun r2 h4 => gd_ (r2 = 0 ∨ r2 = 1) (some (r2, h4)))
def fX6_isCell_j17  (h : Hp) : Option (Int × Hp) :=
  fX6_isCell_j18 0 h
def fX6_isCell (x1 : Int) (h : Hp) : Option (Int × Hp) :=
  (if x1 < 0 then fX6_isCell_j17 h else bp_ (fX6_cells h) (fun r6 => (if r6 ≤ x1 then fX6_isCell_j17 h else fX6_isCell_j18 1 h)))
theorem fX6_isCell_j18_ok {G : GD} {X : CX} {n : Nat} {Q : Av → Nat → Hp → Prop} (hC : Cx G X RX6 cX6_isCell) (hZ : ZOK X G Q 0 0) (hRm : X.R = rmd 1 0 0) (hbt : X.bt = true) (hr : X.meth.sig.returnType = (some .boolean)) {z0 : Int} {h : Hp} {res : Int × Hp} (hF : fX6_isCell_j18 z0 h = some res) (hK : ∀ (x9 : Int) (h9 : Hp), res = (x9, h9) → Q (0, x9) n h9) : AW G X 18 [(9, 0), (9, 0)] [(0, z0), (2, ((35 : Nat) : Int))] n h 0 0 := by
  unfold fX6_isCell_j18 at hF
  refine aw_iconst hC dX6_isCell_18 (by decide) ?_
  obtain ⟨r2, h4, q3, hF⟩ := bd_some hF
  refine clRX6_290 hC hRm hbt dX6_isCell_19 rfl rfl (by decide) (Nat.le_of_ble_eq_true rfl) (Nat.le_of_ble_eq_true rfl) (ok_X6_right q3) ?_
  obtain ⟨g5, hF⟩ := gd_some hF
  exact aw_zreturn hC hZ (Nat.zero_le _) (Nat.zero_le _) hr rfl dX6_isCell_22 g5 (hK _ _ (Option.some.inj hF).symm)
theorem fX6_isCell_j17_ok {G : GD} {X : CX} {n : Nat} {Q : Av → Nat → Hp → Prop} (hC : Cx G X RX6 cX6_isCell) (hZ : ZOK X G Q 0 0) (hRm : X.R = rmd 1 0 0) (hbt : X.bt = true) (hr : X.meth.sig.returnType = (some .boolean))  {h : Hp} {res : Int × Hp} (hF : fX6_isCell_j17  h = some res) (hK : ∀ (x9 : Int) (h9 : Hp), res = (x9, h9) → Q (0, x9) n h9) : AW G X 17 [(9, 0), (9, 0)] [(2, ((35 : Nat) : Int))] n h 0 0 := by
  unfold fX6_isCell_j17 at hF
  refine aw_iconst hC dX6_isCell_17 (by decide) ?_
  exact fX6_isCell_j18_ok hC hZ hRm hbt hr hF hK
theorem ok_X6_isCell {G : GD} {n : Nat} {x1 : Int} {h : Hp} {res : Int × Hp} (hF : fX6_isCell x1 h = some res) : Con G yX6_isCell cX6_isCell 2 (some .boolean) 1 0 0 true [(2, ((35 : Nat) : Int)), (0, x1)] n h (FQ 0 n res) := by
  refine con_of (pad := 0) (own := RX6) (plainFor_of_name (by decide)) rfl rfl ?_
  intro X hC hbt hr hnm hZ hRm hn0
  have hK : ∀ (x9 : Int) (h9 : Hp), res = (x9, h9) → FQ 0 n res (0, x9) n h9 := fun x9 h9 e => by subst e; exact ⟨rfl, rfl, rfl⟩
  unfold fX6_isCell at hF
  show AW G X 0 [(2, ((35 : Nat) : Int)), (0, x1)] [] n h 0 0
  refine aw_aload_n hC dX6_isCell_0 rfl ?_
  refine aw_iload_n hC dX6_isCell_1 rfl ?_
  refine aw_if_lt (tgt := 17) hC dX6_isCell_2 (by decide) (fun c1 => ?_) (fun c1 => ?_)
  · have hF := it_t hF c1
    refine aw_weak (ls' := [(9, 0), (9, 0)]) ⟨Or.inl rfl, Or.inl rfl, trivial⟩ ?_
    exact fX6_isCell_j17_ok hC hZ hRm hbt hr hF hK
  · have hF := it_f hF c1
    refine aw_iload_n hC dX6_isCell_5 rfl ?_
    refine aw_aload_n hC dX6_isCell_6 rfl ?_
    obtain ⟨r6, q7, hF⟩ := bp_some hF
    refine clRX6_323 hC hRm hbt dX6_isCell_7 rfl rfl (by decide) (Nat.le_of_ble_eq_true rfl) (Nat.le_of_ble_eq_true rfl) (ok_X6_cells q7) ?_
    refine aw_icmp_ge (tgt := 17) hC dX6_isCell_10 (by decide) (fun c8 => ?_) (fun c8 => ?_)
    · have hF := it_t hF c8
      refine aw_weak (ls' := [(9, 0), (9, 0)]) ⟨Or.inl rfl, Or.inl rfl, trivial⟩ ?_
      exact fX6_isCell_j17_ok hC hZ hRm hbt hr hF hK
    · have hF := it_f hF c8
      refine aw_iconst hC dX6_isCell_13 (by decide) ?_
      refine aw_goto (tgt := 18) hC dX6_isCell_14 (by decide) ?_
      refine aw_weak (ls' := [(9, 0), (9, 0)]) ⟨Or.inl rfl, Or.inl rfl, trivial⟩ ?_
      exact fX6_isCell_j18_ok hC hZ hRm hbt hr hF hK
def fX6_isTree_j28 (z0 : Int) (h : Hp) : Option (Int × Hp) :=
  bd_ (fX6_right z0 1 h) (fun r2 h4 => gd_ (r2 = 0 ∨ r2 = 1) (some (r2, h4)))
def fX6_isTree_j27  (h : Hp) : Option (Int × Hp) :=
  fX6_isTree_j28 0 h
def fX6_isTree (x1 : Int) (h : Hp) : Option (Int × Hp) :=
  (if x1 < 0 then fX6_isTree_j27 h else (if 12 ≤ x1 then fX6_isTree_j27 h else gd_ (0 ≤ (i_add 0 x1) ∧ (i_add 0 x1) < 62) ((if (h 54 (Int.toNat ((i_add 0 x1)))) = (-1) then fX6_isTree_j27 h else fX6_isTree_j28 1 h))))
theorem fX6_isTree_j28_ok {G : GD} {X : CX} {n : Nat} {Q : Av → Nat → Hp → Prop} (hC : Cx G X RX6 cX6_isTree) (hZ : ZOK X G Q 0 0) (hRm : X.R = rmd 1 0 0) (hbt : X.bt = true) (hr : X.meth.sig.returnType = (some .boolean)) {z0 : Int} {h : Hp} {res : Int × Hp} (hF : fX6_isTree_j28 z0 h = some res) (hK : ∀ (x9 : Int) (h9 : Hp), res = (x9, h9) → Q (0, x9) n h9) : AW G X 28 [(9, 0), (9, 0)] [(0, z0), (2, ((35 : Nat) : Int))] n h 0 0 := by
  unfold fX6_isTree_j28 at hF
  refine aw_iconst hC dX6_isTree_28 (by decide) ?_
  obtain ⟨r2, h4, q3, hF⟩ := bd_some hF
  refine clRX6_290 hC hRm hbt dX6_isTree_29 rfl rfl (by decide) (Nat.le_of_ble_eq_true rfl) (Nat.le_of_ble_eq_true rfl) (ok_X6_right q3) ?_
  obtain ⟨g5, hF⟩ := gd_some hF
  exact aw_zreturn hC hZ (Nat.zero_le _) (Nat.zero_le _) hr rfl dX6_isTree_32 g5 (hK _ _ (Option.some.inj hF).symm)
theorem fX6_isTree_j27_ok {G : GD} {X : CX} {n : Nat} {Q : Av → Nat → Hp → Prop} (hC : Cx G X RX6 cX6_isTree) (hZ : ZOK X G Q 0 0) (hRm : X.R = rmd 1 0 0) (hbt : X.bt = true) (hr : X.meth.sig.returnType = (some .boolean))  {h : Hp} {res : Int × Hp} (hF : fX6_isTree_j27  h = some res) (hK : ∀ (x9 : Int) (h9 : Hp), res = (x9, h9) → Q (0, x9) n h9) : AW G X 27 [(9, 0), (9, 0)] [(2, ((35 : Nat) : Int))] n h 0 0 := by
  unfold fX6_isTree_j27 at hF
  refine aw_iconst hC dX6_isTree_27 (by decide) ?_
  exact fX6_isTree_j28_ok hC hZ hRm hbt hr hF hK
theorem ok_X6_isTree {G : GD} {n : Nat} {x1 : Int} {h : Hp} {res : Int × Hp} (hF : fX6_isTree x1 h = some res) : Con G yX6_isTree cX6_isTree 2 (some .boolean) 1 0 0 true [(2, ((35 : Nat) : Int)), (0, x1)] n h (FQ 0 n res) := by
  refine con_of (pad := 0) (own := RX6) (plainFor_of_name (by decide)) rfl rfl ?_
  intro X hC hbt hr hnm hZ hRm hn0
  have hK : ∀ (x9 : Int) (h9 : Hp), res = (x9, h9) → FQ 0 n res (0, x9) n h9 := fun x9 h9 e => by subst e; exact ⟨rfl, rfl, rfl⟩
  unfold fX6_isTree at hF
  show AW G X 0 [(2, ((35 : Nat) : Int)), (0, x1)] [] n h 0 0
  refine aw_aload_n hC dX6_isTree_0 rfl ?_
  refine aw_iload_n hC dX6_isTree_1 rfl ?_
  refine aw_if_lt (tgt := 27) hC dX6_isTree_2 (by decide) (fun c1 => ?_) (fun c1 => ?_)
  · have hF := it_t hF c1
    refine aw_weak (ls' := [(9, 0), (9, 0)]) ⟨Or.inl rfl, Or.inl rfl, trivial⟩ ?_
    exact fX6_isTree_j27_ok hC hZ hRm hbt hr hF hK
  · have hF := it_f hF c1
    refine aw_iload_n hC dX6_isTree_5 rfl ?_
    refine aw_bipush hC dX6_isTree_6 (by decide) (by decide) ?_
    refine aw_icmp_ge (tgt := 27) hC dX6_isTree_8 (by decide) (fun c6 => ?_) (fun c6 => ?_)
    · have hF := it_t hF c6
      refine aw_weak (ls' := [(9, 0), (9, 0)]) ⟨Or.inl rfl, Or.inl rfl, trivial⟩ ?_
      exact fX6_isTree_j27_ok hC hZ hRm hbt hr hF hK
    · have hF := it_f hF c6
      refine aw_aload_n hC dX6_isTree_11 rfl ?_
      refine aw_gc6 (k := 46) (a := 35) (b := 54) hC hbt dX6_isTree_12 lkRX6_75 (by decide) rfl rfl rfl (by decide) (by decide) ?_
      refine aw_iconst hC dX6_isTree_15 (by decide) ?_
      refine aw_iload_n hC dX6_isTree_16 rfl ?_
      refine aw_iadd hC dX6_isTree_17 ?_
      obtain ⟨g7, hF⟩ := gd_some hF
      refine aw_iaload (a := 54) hC dX6_isTree_18 rfl rfl (Or.inl ⟨hbt, by decide⟩) g7.1 g7.2 ?_
      refine aw_iconst hC dX6_isTree_19 (by decide) ?_
      refine aw_icmp_eq (tgt := 27) hC dX6_isTree_20 (by decide) (fun c8 => ?_) (fun c8 => ?_)
      · have hF := it_t hF c8
        refine aw_weak (ls' := [(9, 0), (9, 0)]) ⟨Or.inl rfl, Or.inl rfl, trivial⟩ ?_
        exact fX6_isTree_j27_ok hC hZ hRm hbt hr hF hK
      · have hF := it_f hF c8
        refine aw_iconst hC dX6_isTree_23 (by decide) ?_
        refine aw_goto (tgt := 28) hC dX6_isTree_24 (by decide) ?_
        refine aw_weak (ls' := [(9, 0), (9, 0)]) ⟨Or.inl rfl, Or.inl rfl, trivial⟩ ?_
        exact fX6_isTree_j28_ok hC hZ hRm hbt hr hF hK
def fX6_isHouse_j18 (z0 : Int) (h : Hp) : Option (Int × Hp) :=
  bd_ (fX6_right z0 1 h) (fun r2 h4 => gd_ (r2 = 0 ∨ r2 = 1) (some (r2, h4)))
def fX6_isHouse_j17  (h : Hp) : Option (Int × Hp) :=
  fX6_isHouse_j18 0 h
def fX6_isHouse (x1 : Int) (h : Hp) : Option (Int × Hp) :=
  (if x1 < 0 then fX6_isHouse_j17 h else (if (h 35 3) ≤ x1 then fX6_isHouse_j17 h else fX6_isHouse_j18 1 h))
theorem fX6_isHouse_j18_ok {G : GD} {X : CX} {n : Nat} {Q : Av → Nat → Hp → Prop} (hC : Cx G X RX6 cX6_isHouse) (hZ : ZOK X G Q 0 0) (hRm : X.R = rmd 1 0 0) (hbt : X.bt = true) (hr : X.meth.sig.returnType = (some .boolean)) {z0 : Int} {h : Hp} {res : Int × Hp} (hF : fX6_isHouse_j18 z0 h = some res) (hK : ∀ (x9 : Int) (h9 : Hp), res = (x9, h9) → Q (0, x9) n h9) : AW G X 18 [(9, 0), (9, 0)] [(0, z0), (2, ((35 : Nat) : Int))] n h 0 0 := by
  unfold fX6_isHouse_j18 at hF
  refine aw_iconst hC dX6_isHouse_18 (by decide) ?_
  obtain ⟨r2, h4, q3, hF⟩ := bd_some hF
  refine clRX6_290 hC hRm hbt dX6_isHouse_19 rfl rfl (by decide) (Nat.le_of_ble_eq_true rfl) (Nat.le_of_ble_eq_true rfl) (ok_X6_right q3) ?_
  obtain ⟨g5, hF⟩ := gd_some hF
  exact aw_zreturn hC hZ (Nat.zero_le _) (Nat.zero_le _) hr rfl dX6_isHouse_22 g5 (hK _ _ (Option.some.inj hF).symm)
theorem fX6_isHouse_j17_ok {G : GD} {X : CX} {n : Nat} {Q : Av → Nat → Hp → Prop} (hC : Cx G X RX6 cX6_isHouse) (hZ : ZOK X G Q 0 0) (hRm : X.R = rmd 1 0 0) (hbt : X.bt = true) (hr : X.meth.sig.returnType = (some .boolean))  {h : Hp} {res : Int × Hp} (hF : fX6_isHouse_j17  h = some res) (hK : ∀ (x9 : Int) (h9 : Hp), res = (x9, h9) → Q (0, x9) n h9) : AW G X 17 [(9, 0), (9, 0)] [(2, ((35 : Nat) : Int))] n h 0 0 := by
  unfold fX6_isHouse_j17 at hF
  refine aw_iconst hC dX6_isHouse_17 (by decide) ?_
  exact fX6_isHouse_j18_ok hC hZ hRm hbt hr hF hK
theorem ok_X6_isHouse {G : GD} {n : Nat} {x1 : Int} {h : Hp} {res : Int × Hp} (hF : fX6_isHouse x1 h = some res) : Con G yX6_isHouse cX6_isHouse 2 (some .boolean) 1 0 0 true [(2, ((35 : Nat) : Int)), (0, x1)] n h (FQ 0 n res) := by
  refine con_of (pad := 0) (own := RX6) (plainFor_of_name (by decide)) rfl rfl ?_
  intro X hC hbt hr hnm hZ hRm hn0
  have hK : ∀ (x9 : Int) (h9 : Hp), res = (x9, h9) → FQ 0 n res (0, x9) n h9 := fun x9 h9 e => by subst e; exact ⟨rfl, rfl, rfl⟩
  unfold fX6_isHouse at hF
  show AW G X 0 [(2, ((35 : Nat) : Int)), (0, x1)] [] n h 0 0
  refine aw_aload_n hC dX6_isHouse_0 rfl ?_
  refine aw_iload_n hC dX6_isHouse_1 rfl ?_
  refine aw_if_lt (tgt := 17) hC dX6_isHouse_2 (by decide) (fun c1 => ?_) (fun c1 => ?_)
  · have hF := it_t hF c1
    refine aw_weak (ls' := [(9, 0), (9, 0)]) ⟨Or.inl rfl, Or.inl rfl, trivial⟩ ?_
    exact fX6_isHouse_j17_ok hC hZ hRm hbt hr hF hK
  · have hF := it_f hF c1
    refine aw_iload_n hC dX6_isHouse_5 rfl ?_
    refine aw_aload_n hC dX6_isHouse_6 rfl ?_
    refine aw_g6i (k := 3) (a := 35) hC dX6_isHouse_7 lkRX6_297 (by decide) rfl rfl rfl (Or.inl ⟨hbt, by decide⟩) ?_
    refine aw_icmp_ge (tgt := 17) hC dX6_isHouse_10 (by decide) (fun c6 => ?_) (fun c6 => ?_)
    · have hF := it_t hF c6
      refine aw_weak (ls' := [(9, 0), (9, 0)]) ⟨Or.inl rfl, Or.inl rfl, trivial⟩ ?_
      exact fX6_isHouse_j17_ok hC hZ hRm hbt hr hF hK
    · have hF := it_f hF c6
      refine aw_iconst hC dX6_isHouse_13 (by decide) ?_
      refine aw_goto (tgt := 18) hC dX6_isHouse_14 (by decide) ?_
      refine aw_weak (ls' := [(9, 0), (9, 0)]) ⟨Or.inl rfl, Or.inl rfl, trivial⟩ ?_
      exact fX6_isHouse_j18_ok hC hZ hRm hbt hr hF hK
