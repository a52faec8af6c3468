/-! makers -/
def tcode : FieldType → Nat
  | .int => 0
  | .long => 1
  | .object _ => 2
  | .array _ => 2
  | .boolean => 3
  | _ => 9
theorem tc_dv {ty : FieldType} (h : tcode ty ≠ 9) (ad : Nat → Nat) : defaultValue ty = fv ad (tcode ty) (if tcode ty = 2 then -1 else 0) := by
  cases ty <;> first | rfl | exact absurd rfl h
theorem dv_of {ci N : Nat} {ty : Nat → FieldType} (hN : (FT ci).length = N) (h : ∀ j, j < N → (FT ci)[j]? = some (tcode (ty j)) ∧ tcode (ty j) ≠ 9) : ∀ (ad : Nat → Nat) (j : Nat), j < N → defaultValue (ty j) = fv ad ((FT ci).getD j 0) (dfv ci j) := by
  intro ad j hj
  obtain ⟨h1, h2⟩ := h j hj
  rw [tc_dv h2 ad, List.getD_eq_getElem?_getD, h1]
  unfold dfv
  rw [h1]
  show fv ad (tcode (ty j)) _ = fv ad (tcode (ty j)) _
  by_cases h3 : tcode (ty j) = 2
  · rw [if_pos h3, h3, if_pos rfl]
  · rw [if_neg h3, if_neg (fun q => h3 (Option.some.inj q))]
theorem tcX0 : ∀ j, j < 7 → (FT 0)[j]? = some (tcode (tyX0 j)) ∧ tcode (tyX0 j) ≠ 9 := by decide +kernel
theorem tcX1 : ∀ j, j < 12 → (FT 1)[j]? = some (tcode (tyX1 j)) ∧ tcode (tyX1 j) ≠ 9 := by decide +kernel
theorem tcX2 : ∀ j, j < 17 → (FT 2)[j]? = some (tcode (tyX2 j)) ∧ tcode (tyX2 j) ≠ 9 := by decide +kernel
theorem tcX3 : ∀ j, j < 14 → (FT 3)[j]? = some (tcode (tyX3 j)) ∧ tcode (tyX3 j) ≠ 9 := by decide +kernel
theorem tcX4 : ∀ j, j < 5 → (FT 4)[j]? = some (tcode (tyX4 j)) ∧ tcode (tyX4 j) ≠ 9 := by decide +kernel
theorem tcX5 : ∀ j, j < 16 → (FT 5)[j]? = some (tcode (tyX5 j)) ∧ tcode (tyX5 j) ≠ 9 := by decide +kernel
set_option maxRecDepth 20000 in
theorem tcX6 : ∀ j, j < 74 → (FT 6)[j]? = some (tcode (tyX6 j)) ∧ tcode (tyX6 j) ≠ 9 := by decide +kernel
theorem shl_lt : ∀ q ∈ SHL, q.1 < 69 := by decide +kernel
theorem sh_st69 {n : Nat} {h : Hp} {a k : Nat} {v : Int} (hs : ShN n h) (h5 : h 0 5 ≠ 69) (ha : 69 ≤ a) : ShN n (st h a k v) := by
  have e5 : st h a k v 0 5 = h 0 5 := st05 (fun q => by omega)
  refine ⟨⟨fun q hq => ?_, fun h69 => absurd (e5 ▸ h69) h5⟩, hs.2.1, fun h69 => absurd (e5 ▸ h69) h5⟩
  have h1 := shl_lt q hq
  unfold st
  rw [if_neg (fun z => by omega)]
  exact hs.1.1 q hq
theorem sh_nw69 {n m : Nat} {h : Hp} {f : Nat → Int} (hs : ShN n h) (h5 : h 0 5 ≠ 69) (ha : 69 ≤ m) : ShN (n + 1) (nw h m f) := by
  have e5 : nw h m f 0 5 = h 0 5 := by unfold nw; rw [if_neg (by omega)]
  refine ⟨⟨fun q hq => ?_, fun h69 => absurd (e5 ▸ h69) h5⟩, Nat.le_trans hs.2.1 (Nat.le_succ _), fun h69 => absurd (e5 ▸ h69) h5⟩
  have h1 := shl_lt q hq
  unfold nw
  rw [if_neg (by omega)]
  exact hs.1.1 q hq
section PutG
variable {G : GD} {X : CX} {own : String} {cc : ByteArray} {pc : Nat} {ls sk : List Av} {n : Nat} {h : Hp} {cs ss : Nat} {C : String} {T : u_T} {N ci nf idx k t a : Nat} {x v : Int} {ty0 : Nat → FieldType}
theorem aw_putG (hin : ∀ w ∈ u_ws C T N, w ∈ TB) (hcl : vwCl[ci]? = some (C, T, N)) (hc : ci < 10) (hty : ∀ k, k < N → parseFieldDescriptor (T k).2.2.1 = some (ty0 k)) (hnm : ∀ a, a < N → ∀ b, b < N → a ≠ b → (T a).2.1 ≠ (T b).2.1) (hC : Cx G X own cc) (hd : decode cc pc = .ok (.putfield idx, 3)) (hlink : Cond.fieldLink own idx (T k).1 (T k).2.1 (T k).2.2.1 ∈ TB) (hk : k < N) (hfin : (T k).2.2.2 = true) (hin2 : X.meth.name = "<init>") (hdecl : (T k).1 = own) (hx : x = (a : Int)) (hL : LAY a = (ci, nf)) (ht : (FT ci)[k]? = some t) (hft : ftOK t (ty0 k)) (han : (X.bt = true ∧ a < 69) ∨ a < n) (hv : okv n (tg t, v) → okf n t v) (hsh : X.bt = true → ShN n h → ShN n (st h a k v)) (kk : AW G X (pc + 3) ls sk n (st h a k v) cs ss) : AW G X pc ls ((tg t, v) :: (2, x) :: sk) n h cs ss := by
  intro ad H locs lr hR hl hm hs
  exact aw_putF hin hcl hc hty hnm hC hd hlink hk hfin hin2 hdecl hx hL ht hft han hv (fun q => hsh q (hR.2.2.2.2.1 q)) kk ad H locs lr hR hl hm hs
theorem aw_putX (hin : ∀ w ∈ u_ws C T N, w ∈ TB) (hcl : vwCl[ci]? = some (C, T, N)) (hc : ci < 10) (hty : ∀ k, k < N → parseFieldDescriptor (T k).2.2.1 = some (ty0 k)) (hnm : ∀ a, a < N → ∀ b, b < N → a ≠ b → (T a).2.1 ≠ (T b).2.1) (hC : Cx G X own cc) (hd : decode cc pc = .ok (.putfield idx, 3)) (hlink : Cond.fieldLink own idx (T k).1 (T k).2.1 (T k).2.2.1 ∈ TB) (hk : k < N) (hfin : (T k).2.2.2 = false) (hx : x = (a : Int)) (hL : LAY a = (ci, nf)) (ht : (FT ci)[k]? = some t) (hft : ftOK t (ty0 k)) (han : (X.bt = true ∧ a < 69) ∨ a < n) (hv : okv n (tg t, v) → okf n t v) (hsh : X.bt = true → ShN n h → ShN n (st h a k v)) (kk : AW G X (pc + 3) ls sk n (st h a k v) cs ss) : AW G X pc ls ((tg t, v) :: (2, x) :: sk) n h cs ss := by
  intro ad H locs lr hR hl hm hs
  have ha := hR.lt han
  have hok := hv (okt hs)
  obtain ⟨hn1, hn2⟩ := ft_nar (ad := ad) hft hok
  subst hx
  rw [List.map_cons, List.map_cons, ← fv_rv, rv_at]
  refine va_put hC.1 hC.2.1 hC.2.2.2.1 hin ty0 hty hnm hC.2.2.1 hC.2.2.2.2.1 hR.1 hR.2.1 hR.2.2.1 a (by rw [wl_get ha, encV_obj hL hc]) hcl k hk (hC.2.2.2.1 _ hlink) (fun _ h9 => h9) hfin (hty k hk) hn1 hn2 (by rw [List.length_mapIdx]; exact (List.getElem?_eq_some_iff.mp ht).1) hd (fun H1 locs1 hP1 hD1 hS1 => ?_)
  rw [fl_set ht, show (Sum.inr (ci, (FT ci).mapIdx (fun k' t => fv ad t (st h a k v a k'))) : va_E) = encV G ad (st h a k v) a from (encV_obj hL hc).symm, wl_set ha (fun j hj => encV_ne hj)] at hP1 hD1
  exact kk ad H1 locs1 lr ⟨hP1, hD1, hS1, okh_st hR.2.2.2.1 hL hc ht hok, fun q => hsh q (hR.2.2.2.2.1 q), hR.2.2.2.2.2⟩ hl hm (ok1 (ok1 hs))
end PutG
theorem nsh {X : CX} {P Q : Prop} (hbt : X.bt = false) : X.bt = true → P → Q := fun q => by rw [hbt] at q; cases q
theorem nsh1 {X : CX} {Q : Prop} (hbt : X.bt = false) : X.bt = true → Q := fun q => by rw [hbt] at q; cases q
theorem oiI : Cond.instanceMethod Lib.objectInit ∈ TB := tb_of 130 (by decide +kernel) (by decide +kernel)
theorem oiC : Cond.code Lib.objectInit ⟨#[0xb1]⟩ 1 none ∈ TB := tb_of 131 (by decide +kernel) (by decide +kernel)
theorem acl_int : Cond.arrayClass .int ∈ TB := tb_of 211 (by decide +kernel) (by decide +kernel)
theorem acl_byte : Cond.arrayClass .byte ∈ TB := tb_of 272 (by decide +kernel) (by decide +kernel)
theorem acl_boolean : Cond.arrayClass .boolean ∈ TB := tb_of 1438 (by decide +kernel) (by decide +kernel)
theorem acl_long : Cond.arrayClass .long ∈ TB := tb_of 1889 (by decide +kernel) (by decide +kernel)
def begH (h : Hp) : Hp := st (st (st (cpy h 8 27 0 0 62) 26 2 0) 26 3 0) 26 6 0
theorem okF_X0_begin {G : GD} {n : Nat} {h : Hp} (hn : 31 ≤ n) (h1 : h 1 11 = ((8 : Nat) : Int)) (h2 : h 26 0 = ((27 : Nat) : Int)) : Con G yX0_begin cX0_begin 2 none 1 0 0 false [(2, ((26 : Nat) : Int)), (2, ((1 : Nat) : Int))] n h (FQ 8 n (0, begH h)) := by
  refine con_of (pad := 0) (own := RX0) (plainFor_of_name (by decide)) rfl rfl ?_
  intro X hC hbt hr hnm hZ hRm hn0
  show AW G X 0 [(2, ((26 : Nat) : Int)), (2, ((1 : Nat) : Int))] [] n h 0 0
  refine aw_aload_n hC dX0_begin_0 rfl ?_
  refine aw_g1rN (k := 11) (a := 1) hC dX0_begin_1 lkRX0_24 (by decide) rfl rfl rfl (Or.inr (by omega)) ?_
  refine aw_eqT h1.symm ?_
  refine aw_iconst hC dX0_begin_4 (by decide) ?_
  refine aw_aload_n hC dX0_begin_5 rfl ?_
  refine aw_g0r (k := 0) (a := 26) hC dX0_begin_6 lkRX0_9 (by decide) rfl rfl rfl (Or.inr (by omega)) ?_
  refine aw_eqT h2.symm ?_
  refine aw_iconst hC dX0_begin_9 (by decide) ?_
  refine aw_bipush hC dX0_begin_10 (by decide) (by decide) ?_
  refine aw_copyi (a0 := 8) (a1 := 27) hC hRm (Nat.le_of_ble_eq_true rfl) dX0_begin_12 cplRX0_29 rfl rfl rfl rfl (Or.inr (by omega)) (Or.inr (by omega)) (by decide) (Nat.le_of_ble_eq_true rfl) ?_
  refine aw_aload_n hC dX0_begin_15 rfl ?_
  refine aw_iconst hC dX0_begin_16 (by decide) ?_
  refine aw_p0i (k := 2) (a := 26) hC dX0_begin_17 lkRX0_35 (by decide) rfl rfl rfl rfl rfl (Or.inr (by omega)) (nsh1 hbt) ?_
  refine aw_aload_n hC dX0_begin_20 rfl ?_
  refine aw_iconst hC dX0_begin_21 (by decide) ?_
  refine aw_p0i (k := 3) (a := 26) hC dX0_begin_22 lkRX0_39 (by decide) rfl rfl rfl rfl rfl (Or.inr (by omega)) (nsh1 hbt) ?_
  refine aw_aload_n hC dX0_begin_25 rfl ?_
  refine aw_iconst hC dX0_begin_26 (by decide) ?_
  refine aw_p0i (k := 6) (a := 26) hC dX0_begin_27 lkRX0_42 (by decide) rfl rfl rfl rfl rfl (Or.inr (by omega)) (nsh1 hbt) ?_
  exact aw_return hC hZ (Nat.zero_le _) (Nat.zero_le _) hr dX0_begin_30 ⟨rfl, rfl, rfl⟩
theorem oiLRX0_3 : Cond.methodLink RX0 3 Lib.objectInit ∈ TB := tb_of 333 (by decide +kernel) (by decide +kernel)
theorem mkRX0_9 : Cond.fieldLink RX0 9 (TX0 0).1 (TX0 0).2.1 (TX0 0).2.2.1 ∈ TB := tb_of 334 (by decide +kernel) (by decide +kernel)
theorem mkRX0_15 : Cond.fieldLink RX0 15 (TX0 1).1 (TX0 1).2.1 (TX0 1).2.2.1 ∈ TB := tb_of 336 (by decide +kernel) (by decide +kernel)
theorem mkRX0_18 : Cond.fieldLink RX0 18 (TX0 4).1 (TX0 4).2.1 (TX0 4).2.2.1 ∈ TB := tb_of 340 (by decide +kernel) (by decide +kernel)
theorem mkRX0_21 : Cond.fieldLink RX0 21 (TX0 5).1 (TX0 5).2.1 (TX0 5).2.2.1 ∈ TB := tb_of 342 (by decide +kernel) (by decide +kernel)
def mA26 (h : Hp) : Hp := (st (nw (st (nw (st (nw (st (nw h 27 (fun _ => 0)) 26 0 ((27 : Nat) : Int)) 28 (fun _ => 0)) 26 1 ((28 : Nat) : Int)) 29 (fun _ => 0)) 26 4 ((29 : Nat) : Int)) 30 (fun _ => 0)) 26 5 ((30 : Nat) : Int))
theorem ok_mA26 {G : GD} {h : Hp} : Con G yX0_init cX0_init 1 none 1 4 2554 false [(2, (((26 : Nat)) : Int))] 27 h (FQ 8 31 (0, mA26 h)) := by
  refine con_of (pad := 0) (own := RX0) (plainFor_of_name (by decide)) rfl rfl ?_
  intro X hC hbt hr hnm hZ hRm hn0
  show AW G X 0 [(2, (((26 : Nat)) : Int))] [] 27 h 0 0
  refine aw_aload_n hC dX0_init_0 rfl ?_
  refine aw_oinit (a := 26) hC dX0_init_1 oiLRX0_3 oiI oiC hRm (by decide) (by decide) ?_
  refine aw_aload_n hC dX0_init_4 rfl ?_
  refine aw_bipush hC dX0_init_5 (by decide) (by decide) ?_
  refine aw_eqT (v1 := ((62 : Nat) : Int)) rfl ?_
  refine aw_newi (len := 62) hC dX0_init_7 acl_int rfl (by decide) (by decide) (by rw [hRm]; exact Nat.le_of_ble_eq_true rfl) (by rw [hRm]; exact Nat.le_of_ble_eq_true rfl) (nsh hbt) ?_
  refine aw_putG (t := 2) (k := 0) (a := 26) inT0 rfl (by decide) tyX0_ok nmX0 hC dX0_init_9 mkRX0_9 (by decide) rfl hnm rfl rfl rfl rfl (Or.inr ⟨_, rfl⟩) (Or.inr (by decide)) (fun q => q) (nsh hbt) ?_
  refine aw_aload_n hC dX0_init_12 rfl ?_
  refine aw_sipush hC dX0_init_13 (by decide) (by decide) ?_
  refine aw_eqT (v1 := ((2480 : Nat) : Int)) rfl ?_
  refine aw_newi (len := 2480) hC dX0_init_16 acl_int rfl (by decide) (by decide) (by rw [hRm]; exact Nat.le_of_ble_eq_true rfl) (by rw [hRm]; exact Nat.le_of_ble_eq_true rfl) (nsh hbt) ?_
  refine aw_putG (t := 2) (k := 1) (a := 26) inT0 rfl (by decide) tyX0_ok nmX0 hC dX0_init_18 mkRX0_15 (by decide) rfl hnm rfl rfl rfl rfl (Or.inr ⟨_, rfl⟩) (Or.inr (by decide)) (fun q => q) (nsh hbt) ?_
  refine aw_aload_n hC dX0_init_21 rfl ?_
  refine aw_bipush hC dX0_init_22 (by decide) (by decide) ?_
  refine aw_eqT (v1 := ((6 : Nat) : Int)) rfl ?_
  refine aw_newi (len := 6) hC dX0_init_24 acl_int rfl (by decide) (by decide) (by rw [hRm]; exact Nat.le_of_ble_eq_true rfl) (by rw [hRm]; exact Nat.le_of_ble_eq_true rfl) (nsh hbt) ?_
  refine aw_putG (t := 2) (k := 4) (a := 26) inT0 rfl (by decide) tyX0_ok nmX0 hC dX0_init_26 mkRX0_18 (by decide) rfl hnm rfl rfl rfl rfl (Or.inr ⟨_, rfl⟩) (Or.inr (by decide)) (fun q => q) (nsh hbt) ?_
  refine aw_aload_n hC dX0_init_29 rfl ?_
  refine aw_bipush hC dX0_init_30 (by decide) (by decide) ?_
  refine aw_eqT (v1 := ((6 : Nat) : Int)) rfl ?_
  refine aw_newi (len := 6) hC dX0_init_32 acl_int rfl (by decide) (by decide) (by rw [hRm]; exact Nat.le_of_ble_eq_true rfl) (by rw [hRm]; exact Nat.le_of_ble_eq_true rfl) (nsh hbt) ?_
  refine aw_putG (t := 2) (k := 5) (a := 26) inT0 rfl (by decide) tyX0_ok nmX0 hC dX0_init_34 mkRX0_21 (by decide) rfl hnm rfl rfl rfl rfl (Or.inr ⟨_, rfl⟩) (Or.inr (by decide)) (fun q => q) (nsh hbt) ?_
  exact aw_return hC hZ (Nat.le_of_ble_eq_true rfl) (Nat.le_of_ble_eq_true rfl) hr dX0_init_37 ⟨rfl, rfl, rfl⟩
def mA69 (h : Hp) : Hp := (st (nw (st (nw (st (nw (st (nw h 70 (fun _ => 0)) 69 0 ((70 : Nat) : Int)) 71 (fun _ => 0)) 69 1 ((71 : Nat) : Int)) 72 (fun _ => 0)) 69 4 ((72 : Nat) : Int)) 73 (fun _ => 0)) 69 5 ((73 : Nat) : Int))
theorem ok_mA69 {G : GD} {h : Hp} (h05 : h 0 5 = -1) : Con G yX0_init cX0_init 1 none 1 4 2554 true [(2, (((69 : Nat)) : Int))] 70 h (FQ 8 74 (0, mA69 h)) := by
  refine con_of (pad := 0) (own := RX0) (plainFor_of_name (by decide)) rfl rfl ?_
  intro X hC hbt hr hnm hZ hRm hn0
  show AW G X 0 [(2, (((69 : Nat)) : Int))] [] 70 h 0 0
  refine aw_aload_n hC dX0_init_0 rfl ?_
  refine aw_oinit (a := 69) hC dX0_init_1 oiLRX0_3 oiI oiC hRm (by decide) (by decide) ?_
  refine aw_aload_n hC dX0_init_4 rfl ?_
  refine aw_bipush hC dX0_init_5 (by decide) (by decide) ?_
  refine aw_eqT (v1 := ((62 : Nat) : Int)) rfl ?_
  refine aw_newi (len := 62) hC dX0_init_7 acl_int rfl (by decide) (by decide) (by rw [hRm]; exact Nat.le_of_ble_eq_true rfl) (by rw [hRm]; exact Nat.le_of_ble_eq_true rfl) (fun _ z => sh_nw69 z (by show h 0 5 ≠ 69; rw [h05]; decide) (by decide)) ?_
  refine aw_putG (t := 2) (k := 0) (a := 69) inT0 rfl (by decide) tyX0_ok nmX0 hC dX0_init_9 mkRX0_9 (by decide) rfl hnm rfl rfl rfl rfl (Or.inr ⟨_, rfl⟩) (Or.inr (by decide)) (fun q => q) (fun _ z => sh_st69 z (by show h 0 5 ≠ 69; rw [h05]; decide) (by decide)) ?_
  refine aw_aload_n hC dX0_init_12 rfl ?_
  refine aw_sipush hC dX0_init_13 (by decide) (by decide) ?_
  refine aw_eqT (v1 := ((2480 : Nat) : Int)) rfl ?_
  refine aw_newi (len := 2480) hC dX0_init_16 acl_int rfl (by decide) (by decide) (by rw [hRm]; exact Nat.le_of_ble_eq_true rfl) (by rw [hRm]; exact Nat.le_of_ble_eq_true rfl) (fun _ z => sh_nw69 z (by show h 0 5 ≠ 69; rw [h05]; decide) (by decide)) ?_
  refine aw_putG (t := 2) (k := 1) (a := 69) inT0 rfl (by decide) tyX0_ok nmX0 hC dX0_init_18 mkRX0_15 (by decide) rfl hnm rfl rfl rfl rfl (Or.inr ⟨_, rfl⟩) (Or.inr (by decide)) (fun q => q) (fun _ z => sh_st69 z (by show h 0 5 ≠ 69; rw [h05]; decide) (by decide)) ?_
  refine aw_aload_n hC dX0_init_21 rfl ?_
  refine aw_bipush hC dX0_init_22 (by decide) (by decide) ?_
  refine aw_eqT (v1 := ((6 : Nat) : Int)) rfl ?_
  refine aw_newi (len := 6) hC dX0_init_24 acl_int rfl (by decide) (by decide) (by rw [hRm]; exact Nat.le_of_ble_eq_true rfl) (by rw [hRm]; exact Nat.le_of_ble_eq_true rfl) (fun _ z => sh_nw69 z (by show h 0 5 ≠ 69; rw [h05]; decide) (by decide)) ?_
  refine aw_putG (t := 2) (k := 4) (a := 69) inT0 rfl (by decide) tyX0_ok nmX0 hC dX0_init_26 mkRX0_18 (by decide) rfl hnm rfl rfl rfl rfl (Or.inr ⟨_, rfl⟩) (Or.inr (by decide)) (fun q => q) (fun _ z => sh_st69 z (by show h 0 5 ≠ 69; rw [h05]; decide) (by decide)) ?_
  refine aw_aload_n hC dX0_init_29 rfl ?_
  refine aw_bipush hC dX0_init_30 (by decide) (by decide) ?_
  refine aw_eqT (v1 := ((6 : Nat) : Int)) rfl ?_
  refine aw_newi (len := 6) hC dX0_init_32 acl_int rfl (by decide) (by decide) (by rw [hRm]; exact Nat.le_of_ble_eq_true rfl) (by rw [hRm]; exact Nat.le_of_ble_eq_true rfl) (fun _ z => sh_nw69 z (by show h 0 5 ≠ 69; rw [h05]; decide) (by decide)) ?_
  refine aw_putG (t := 2) (k := 5) (a := 69) inT0 rfl (by decide) tyX0_ok nmX0 hC dX0_init_34 mkRX0_21 (by decide) rfl hnm rfl rfl rfl rfl (Or.inr ⟨_, rfl⟩) (Or.inr (by decide)) (fun q => q) (fun _ z => sh_st69 z (by show h 0 5 ≠ 69; rw [h05]; decide) (by decide)) ?_
  exact aw_return hC hZ (Nat.le_of_ble_eq_true rfl) (Nat.le_of_ble_eq_true rfl) hr dX0_init_37 ⟨rfl, rfl, rfl⟩
theorem oiLRX1_3 : Cond.methodLink RX1 3 Lib.objectInit ∈ TB := tb_of 137 (by decide +kernel) (by decide +kernel)
theorem mkRX1_9 : Cond.fieldLink RX1 9 (TX1 0).1 (TX1 0).2.1 (TX1 0).2.2.1 ∈ TB := tb_of 142 (by decide +kernel) (by decide +kernel)
theorem mkRX1_15 : Cond.fieldLink RX1 15 (TX1 1).1 (TX1 1).2.1 (TX1 1).2.2.1 ∈ TB := tb_of 147 (by decide +kernel) (by decide +kernel)
theorem mkRX1_18 : Cond.fieldLink RX1 18 (TX1 2).1 (TX1 2).2.1 (TX1 2).2.2.1 ∈ TB := tb_of 151 (by decide +kernel) (by decide +kernel)
theorem mkRX1_22 : Cond.fieldLink RX1 22 (TX1 4).1 (TX1 4).2.1 (TX1 4).2.2.1 ∈ TB := tb_of 160 (by decide +kernel) (by decide +kernel)
theorem mkRX1_25 : Cond.fieldLink RX1 25 (TX1 5).1 (TX1 5).2.1 (TX1 5).2.2.1 ∈ TB := tb_of 165 (by decide +kernel) (by decide +kernel)
theorem mkRX1_28 : Cond.fieldLink RX1 28 (TX1 7).1 (TX1 7).2.1 (TX1 7).2.2.1 ∈ TB := tb_of 171 (by decide +kernel) (by decide +kernel)
theorem mkRX1_31 : Cond.fieldLink RX1 31 (TX1 9).1 (TX1 9).2.1 (TX1 9).2.2.1 ∈ TB := tb_of 177 (by decide +kernel) (by decide +kernel)
theorem mkRX1_34 : Cond.fieldLink RX1 34 (TX1 10).1 (TX1 10).2.1 (TX1 10).2.2.1 ∈ TB := tb_of 180 (by decide +kernel) (by decide +kernel)
theorem mkRX1_37 : Cond.fieldLink RX1 37 (TX1 11).1 (TX1 11).2.1 (TX1 11).2.2.1 ∈ TB := tb_of 183 (by decide +kernel) (by decide +kernel)
set_option maxRecDepth 20000 in
theorem mwRX1_40 : ∀ w ∈ ([.methodLink RX1 40 yX1_clear, .instanceMethod yX1_clear, .selects RX1 yX1_clear yX1_clear, .initialized RX1, .code yX1_clear cX1_clear 2 none] : List Cond), w ∈ TB := tb_all [138, 139, 140, 106, 141] rfl (by decide +kernel)
theorem md_X1_clear : yX1_clear.cls ≠ "java/lang/invoke/MethodHandle" ∧ yX1_clear.cls ≠ "java/lang/invoke/VarHandle" ∧ (parseMethodDescriptor yX1_clear.desc).map (fun d => d.parameters.length) = some 0 := by decide +kernel
def mL1 (h : Hp) : Hp := (clrH 1 (st (nw (st (nw (st (nw (st (nw (st (nw (st (nw (st (nw (st (st h 1 0 (8)) 1 1 (8)) 2 (fun _ => 0)) 1 2 ((2 : Nat) : Int)) 3 (fun _ => 0)) 1 4 ((3 : Nat) : Int)) 4 (fun _ => 0)) 1 5 ((4 : Nat) : Int)) 5 (fun _ => 0)) 1 7 ((5 : Nat) : Int)) 6 (fun _ => 0)) 1 9 ((6 : Nat) : Int)) 7 (fun _ => 0)) 1 10 ((7 : Nat) : Int)) 8 (fun _ => 0)) 1 11 ((8 : Nat) : Int)))
theorem ok_mL1 {G : GD} {h : Hp} : Con G yX1_init cX1_init 1 none 1 7 850 false [(2, (((1 : Nat)) : Int))] 2 h (FQ 8 9 (0, mL1 h)) := by
  refine con_of (pad := 0) (own := RX1) (plainFor_of_name (by decide)) rfl rfl ?_
  intro X hC hbt hr hnm hZ hRm hn0
  show AW G X 0 [(2, (((1 : Nat)) : Int))] [] 2 h 0 0
  refine aw_aload_n hC dX1_init_0 rfl ?_
  refine aw_oinit (a := 1) hC dX1_init_1 oiLRX1_3 oiI oiC hRm (by decide) (by decide) ?_
  refine aw_aload_n hC dX1_init_4 rfl ?_
  refine aw_bipush hC dX1_init_5 (by decide) (by decide) ?_
  refine aw_putX (t := 0) (k := 0) (a := 1) inT1 rfl (by decide) tyX1_ok nmX1 hC dX1_init_7 mkRX1_9 (by decide) rfl rfl rfl rfl rfl (Or.inr (by decide)) (fun q => q) (nsh hbt) ?_
  refine aw_aload_n hC dX1_init_10 rfl ?_
  refine aw_bipush hC dX1_init_11 (by decide) (by decide) ?_
  refine aw_putX (t := 0) (k := 1) (a := 1) inT1 rfl (by decide) tyX1_ok nmX1 hC dX1_init_13 mkRX1_15 (by decide) rfl rfl rfl rfl rfl (Or.inr (by decide)) (fun q => q) (nsh hbt) ?_
  refine aw_aload_n hC dX1_init_16 rfl ?_
  refine aw_bipush hC dX1_init_17 (by decide) (by decide) ?_
  refine aw_eqT (v1 := ((64 : Nat) : Int)) rfl ?_
  refine aw_newi (len := 64) hC dX1_init_19 acl_int rfl (by decide) (by decide) (by rw [hRm]; exact Nat.le_of_ble_eq_true rfl) (by rw [hRm]; exact Nat.le_of_ble_eq_true rfl) (nsh hbt) ?_
  refine aw_putG (t := 2) (k := 2) (a := 1) inT1 rfl (by decide) tyX1_ok nmX1 hC dX1_init_21 mkRX1_18 (by decide) rfl hnm rfl rfl rfl rfl (Or.inr ⟨_, rfl⟩) (Or.inr (by decide)) (fun q => q) (nsh hbt) ?_
  refine aw_aload_n hC dX1_init_24 rfl ?_
  refine aw_bipush hC dX1_init_25 (by decide) (by decide) ?_
  refine aw_eqT (v1 := ((6 : Nat) : Int)) rfl ?_
  refine aw_newi (len := 6) hC dX1_init_27 acl_int rfl (by decide) (by decide) (by rw [hRm]; exact Nat.le_of_ble_eq_true rfl) (by rw [hRm]; exact Nat.le_of_ble_eq_true rfl) (nsh hbt) ?_
  refine aw_putG (t := 2) (k := 4) (a := 1) inT1 rfl (by decide) tyX1_ok nmX1 hC dX1_init_29 mkRX1_22 (by decide) rfl hnm rfl rfl rfl rfl (Or.inr ⟨_, rfl⟩) (Or.inr (by decide)) (fun q => q) (nsh hbt) ?_
  refine aw_aload_n hC dX1_init_32 rfl ?_
  refine aw_bipush hC dX1_init_33 (by decide) (by decide) ?_
  refine aw_eqT (v1 := ((6 : Nat) : Int)) rfl ?_
  refine aw_newi (len := 6) hC dX1_init_35 acl_int rfl (by decide) (by decide) (by rw [hRm]; exact Nat.le_of_ble_eq_true rfl) (by rw [hRm]; exact Nat.le_of_ble_eq_true rfl) (nsh hbt) ?_
  refine aw_putG (t := 2) (k := 5) (a := 1) inT1 rfl (by decide) tyX1_ok nmX1 hC dX1_init_37 mkRX1_25 (by decide) rfl hnm rfl rfl rfl rfl (Or.inr ⟨_, rfl⟩) (Or.inr (by decide)) (fun q => q) (nsh hbt) ?_
  refine aw_aload_n hC dX1_init_40 rfl ?_
  refine aw_bipush hC dX1_init_41 (by decide) (by decide) ?_
  refine aw_eqT (v1 := ((8 : Nat) : Int)) rfl ?_
  refine aw_newi (len := 8) hC dX1_init_43 acl_int rfl (by decide) (by decide) (by rw [hRm]; exact Nat.le_of_ble_eq_true rfl) (by rw [hRm]; exact Nat.le_of_ble_eq_true rfl) (nsh hbt) ?_
  refine aw_putG (t := 2) (k := 7) (a := 1) inT1 rfl (by decide) tyX1_ok nmX1 hC dX1_init_45 mkRX1_28 (by decide) rfl hnm rfl rfl rfl rfl (Or.inr ⟨_, rfl⟩) (Or.inr (by decide)) (fun q => q) (nsh hbt) ?_
  refine aw_aload_n hC dX1_init_48 rfl ?_
  refine aw_iconst hC dX1_init_49 (by decide) ?_
  refine aw_eqT (v1 := ((4 : Nat) : Int)) rfl ?_
  refine aw_newi (len := 4) hC dX1_init_50 acl_int rfl (by decide) (by decide) (by rw [hRm]; exact Nat.le_of_ble_eq_true rfl) (by rw [hRm]; exact Nat.le_of_ble_eq_true rfl) (nsh hbt) ?_
  refine aw_putG (t := 2) (k := 9) (a := 1) inT1 rfl (by decide) tyX1_ok nmX1 hC dX1_init_52 mkRX1_31 (by decide) rfl hnm rfl rfl rfl rfl (Or.inr ⟨_, rfl⟩) (Or.inr (by decide)) (fun q => q) (nsh hbt) ?_
  refine aw_aload_n hC dX1_init_55 rfl ?_
  refine aw_sipush hC dX1_init_56 (by decide) (by decide) ?_
  refine aw_eqT (v1 := ((700 : Nat) : Int)) rfl ?_
  refine aw_newi (len := 700) hC dX1_init_59 acl_int rfl (by decide) (by decide) (by rw [hRm]; exact Nat.le_of_ble_eq_true rfl) (by rw [hRm]; exact Nat.le_of_ble_eq_true rfl) (nsh hbt) ?_
  refine aw_putG (t := 2) (k := 10) (a := 1) inT1 rfl (by decide) tyX1_ok nmX1 hC dX1_init_61 mkRX1_34 (by decide) rfl hnm rfl rfl rfl rfl (Or.inr ⟨_, rfl⟩) (Or.inr (by decide)) (fun q => q) (nsh hbt) ?_
  refine aw_aload_n hC dX1_init_64 rfl ?_
  refine aw_bipush hC dX1_init_65 (by decide) (by decide) ?_
  refine aw_eqT (v1 := ((62 : Nat) : Int)) rfl ?_
  refine aw_newi (len := 62) hC dX1_init_67 acl_int rfl (by decide) (by decide) (by rw [hRm]; exact Nat.le_of_ble_eq_true rfl) (by rw [hRm]; exact Nat.le_of_ble_eq_true rfl) (nsh hbt) ?_
  refine aw_putG (t := 2) (k := 11) (a := 1) inT1 rfl (by decide) tyX1_ok nmX1 hC dX1_init_69 mkRX1_37 (by decide) rfl hnm rfl rfl rfl rfl (Or.inr ⟨_, rfl⟩) (Or.inr (by decide)) (fun q => q) (nsh hbt) ?_
  refine aw_aload_n hC dX1_init_72 rfl ?_
  refine aw_callV (av := []) (ci := 1) (a := 1) (d' := 0) (mc' := 0) (ms' := 0) hC hRm dX1_init_73 rfl (by decide) rfl mwRX1_40 md_X1_clear rfl rfl (Or.inr (by decide)) (by decide) (by decide) (Nat.le_of_ble_eq_true rfl) (Nat.le_of_ble_eq_true rfl) (by decide) (by rw [hbt]; exact okF_X1_clear (by exact ⟨by decide, by decide, rfl, rfl⟩) (clear_eq (by decide) _)) (fun v n1 h1 _ hQ => ?_)
  obtain ⟨rfl, rfl, rfl⟩ := hQ
  exact aw_return hC hZ (Nat.le_of_ble_eq_true rfl) (Nat.le_of_ble_eq_true rfl) hr dX1_init_76 ⟨rfl, rfl, rfl⟩
def mL9 (h : Hp) : Hp := (clrH 9 (st (nw (st (nw (st (nw (st (nw (st (nw (st (nw (st (nw (st (st h 9 0 (8)) 9 1 (8)) 10 (fun _ => 0)) 9 2 ((10 : Nat) : Int)) 11 (fun _ => 0)) 9 4 ((11 : Nat) : Int)) 12 (fun _ => 0)) 9 5 ((12 : Nat) : Int)) 13 (fun _ => 0)) 9 7 ((13 : Nat) : Int)) 14 (fun _ => 0)) 9 9 ((14 : Nat) : Int)) 15 (fun _ => 0)) 9 10 ((15 : Nat) : Int)) 16 (fun _ => 0)) 9 11 ((16 : Nat) : Int)))
theorem ok_mL9 {G : GD} {h : Hp} : Con G yX1_init cX1_init 1 none 1 7 850 false [(2, (((9 : Nat)) : Int))] 10 h (FQ 8 17 (0, mL9 h)) := by
  refine con_of (pad := 0) (own := RX1) (plainFor_of_name (by decide)) rfl rfl ?_
  intro X hC hbt hr hnm hZ hRm hn0
  show AW G X 0 [(2, (((9 : Nat)) : Int))] [] 10 h 0 0
  refine aw_aload_n hC dX1_init_0 rfl ?_
  refine aw_oinit (a := 9) hC dX1_init_1 oiLRX1_3 oiI oiC hRm (by decide) (by decide) ?_
  refine aw_aload_n hC dX1_init_4 rfl ?_
  refine aw_bipush hC dX1_init_5 (by decide) (by decide) ?_
  refine aw_putX (t := 0) (k := 0) (a := 9) inT1 rfl (by decide) tyX1_ok nmX1 hC dX1_init_7 mkRX1_9 (by decide) rfl rfl rfl rfl rfl (Or.inr (by decide)) (fun q => q) (nsh hbt) ?_
  refine aw_aload_n hC dX1_init_10 rfl ?_
  refine aw_bipush hC dX1_init_11 (by decide) (by decide) ?_
  refine aw_putX (t := 0) (k := 1) (a := 9) inT1 rfl (by decide) tyX1_ok nmX1 hC dX1_init_13 mkRX1_15 (by decide) rfl rfl rfl rfl rfl (Or.inr (by decide)) (fun q => q) (nsh hbt) ?_
  refine aw_aload_n hC dX1_init_16 rfl ?_
  refine aw_bipush hC dX1_init_17 (by decide) (by decide) ?_
  refine aw_eqT (v1 := ((64 : Nat) : Int)) rfl ?_
  refine aw_newi (len := 64) hC dX1_init_19 acl_int rfl (by decide) (by decide) (by rw [hRm]; exact Nat.le_of_ble_eq_true rfl) (by rw [hRm]; exact Nat.le_of_ble_eq_true rfl) (nsh hbt) ?_
  refine aw_putG (t := 2) (k := 2) (a := 9) inT1 rfl (by decide) tyX1_ok nmX1 hC dX1_init_21 mkRX1_18 (by decide) rfl hnm rfl rfl rfl rfl (Or.inr ⟨_, rfl⟩) (Or.inr (by decide)) (fun q => q) (nsh hbt) ?_
  refine aw_aload_n hC dX1_init_24 rfl ?_
  refine aw_bipush hC dX1_init_25 (by decide) (by decide) ?_
  refine aw_eqT (v1 := ((6 : Nat) : Int)) rfl ?_
  refine aw_newi (len := 6) hC dX1_init_27 acl_int rfl (by decide) (by decide) (by rw [hRm]; exact Nat.le_of_ble_eq_true rfl) (by rw [hRm]; exact Nat.le_of_ble_eq_true rfl) (nsh hbt) ?_
  refine aw_putG (t := 2) (k := 4) (a := 9) inT1 rfl (by decide) tyX1_ok nmX1 hC dX1_init_29 mkRX1_22 (by decide) rfl hnm rfl rfl rfl rfl (Or.inr ⟨_, rfl⟩) (Or.inr (by decide)) (fun q => q) (nsh hbt) ?_
  refine aw_aload_n hC dX1_init_32 rfl ?_
  refine aw_bipush hC dX1_init_33 (by decide) (by decide) ?_
  refine aw_eqT (v1 := ((6 : Nat) : Int)) rfl ?_
  refine aw_newi (len := 6) hC dX1_init_35 acl_int rfl (by decide) (by decide) (by rw [hRm]; exact Nat.le_of_ble_eq_true rfl) (by rw [hRm]; exact Nat.le_of_ble_eq_true rfl) (nsh hbt) ?_
  refine aw_putG (t := 2) (k := 5) (a := 9) inT1 rfl (by decide) tyX1_ok nmX1 hC dX1_init_37 mkRX1_25 (by decide) rfl hnm rfl rfl rfl rfl (Or.inr ⟨_, rfl⟩) (Or.inr (by decide)) (fun q => q) (nsh hbt) ?_
  refine aw_aload_n hC dX1_init_40 rfl ?_
  refine aw_bipush hC dX1_init_41 (by decide) (by decide) ?_
  refine aw_eqT (v1 := ((8 : Nat) : Int)) rfl ?_
  refine aw_newi (len := 8) hC dX1_init_43 acl_int rfl (by decide) (by decide) (by rw [hRm]; exact Nat.le_of_ble_eq_true rfl) (by rw [hRm]; exact Nat.le_of_ble_eq_true rfl) (nsh hbt) ?_
  refine aw_putG (t := 2) (k := 7) (a := 9) inT1 rfl (by decide) tyX1_ok nmX1 hC dX1_init_45 mkRX1_28 (by decide) rfl hnm rfl rfl rfl rfl (Or.inr ⟨_, rfl⟩) (Or.inr (by decide)) (fun q => q) (nsh hbt) ?_
  refine aw_aload_n hC dX1_init_48 rfl ?_
  refine aw_iconst hC dX1_init_49 (by decide) ?_
  refine aw_eqT (v1 := ((4 : Nat) : Int)) rfl ?_
  refine aw_newi (len := 4) hC dX1_init_50 acl_int rfl (by decide) (by decide) (by rw [hRm]; exact Nat.le_of_ble_eq_true rfl) (by rw [hRm]; exact Nat.le_of_ble_eq_true rfl) (nsh hbt) ?_
  refine aw_putG (t := 2) (k := 9) (a := 9) inT1 rfl (by decide) tyX1_ok nmX1 hC dX1_init_52 mkRX1_31 (by decide) rfl hnm rfl rfl rfl rfl (Or.inr ⟨_, rfl⟩) (Or.inr (by decide)) (fun q => q) (nsh hbt) ?_
  refine aw_aload_n hC dX1_init_55 rfl ?_
  refine aw_sipush hC dX1_init_56 (by decide) (by decide) ?_
  refine aw_eqT (v1 := ((700 : Nat) : Int)) rfl ?_
  refine aw_newi (len := 700) hC dX1_init_59 acl_int rfl (by decide) (by decide) (by rw [hRm]; exact Nat.le_of_ble_eq_true rfl) (by rw [hRm]; exact Nat.le_of_ble_eq_true rfl) (nsh hbt) ?_
  refine aw_putG (t := 2) (k := 10) (a := 9) inT1 rfl (by decide) tyX1_ok nmX1 hC dX1_init_61 mkRX1_34 (by decide) rfl hnm rfl rfl rfl rfl (Or.inr ⟨_, rfl⟩) (Or.inr (by decide)) (fun q => q) (nsh hbt) ?_
  refine aw_aload_n hC dX1_init_64 rfl ?_
  refine aw_bipush hC dX1_init_65 (by decide) (by decide) ?_
  refine aw_eqT (v1 := ((62 : Nat) : Int)) rfl ?_
  refine aw_newi (len := 62) hC dX1_init_67 acl_int rfl (by decide) (by decide) (by rw [hRm]; exact Nat.le_of_ble_eq_true rfl) (by rw [hRm]; exact Nat.le_of_ble_eq_true rfl) (nsh hbt) ?_
  refine aw_putG (t := 2) (k := 11) (a := 9) inT1 rfl (by decide) tyX1_ok nmX1 hC dX1_init_69 mkRX1_37 (by decide) rfl hnm rfl rfl rfl rfl (Or.inr ⟨_, rfl⟩) (Or.inr (by decide)) (fun q => q) (nsh hbt) ?_
  refine aw_aload_n hC dX1_init_72 rfl ?_
  refine aw_callV (av := []) (ci := 1) (a := 9) (d' := 0) (mc' := 0) (ms' := 0) hC hRm dX1_init_73 rfl (by decide) rfl mwRX1_40 md_X1_clear rfl rfl (Or.inr (by decide)) (by decide) (by decide) (Nat.le_of_ble_eq_true rfl) (Nat.le_of_ble_eq_true rfl) (by decide) (by rw [hbt]; exact okF_X1_clear (by exact ⟨by decide, by decide, rfl, rfl⟩) (clear_eq (by decide) _)) (fun v n1 h1 _ hQ => ?_)
  obtain ⟨rfl, rfl, rfl⟩ := hQ
  exact aw_return hC hZ (Nat.le_of_ble_eq_true rfl) (Nat.le_of_ble_eq_true rfl) hr dX1_init_76 ⟨rfl, rfl, rfl⟩
theorem oiLRX2_3 : Cond.methodLink RX2 3 Lib.objectInit ∈ TB := tb_of 217 (by decide +kernel) (by decide +kernel)
theorem mkRX2_11 : Cond.fieldLink RX2 11 (TX2 12).1 (TX2 12).2.1 (TX2 12).2.2.1 ∈ TB := tb_of 232 (by decide +kernel) (by decide +kernel)
theorem mkRX2_15 : Cond.fieldLink RX2 15 (TX2 0).1 (TX2 0).2.1 (TX2 0).2.2.1 ∈ TB := tb_of 218 (by decide +kernel) (by decide +kernel)
theorem mkRX2_19 : Cond.fieldLink RX2 19 (TX2 8).1 (TX2 8).2.1 (TX2 8).2.2.1 ∈ TB := tb_of 228 (by decide +kernel) (by decide +kernel)
def mR (h : Hp) : Hp := (st (st (st (nw h 19 (fun _ => 0)) 18 12 ((19 : Nat) : Int)) 18 0 ((17 : Nat) : Int)) 18 8 ((9 : Nat) : Int))
theorem ok_mR {G : GD} {h : Hp} : Con G yX2_init cX2_init 3 none 1 1 128 false [(2, (((18 : Nat)) : Int)), (2, (((17 : Nat)) : Int)), (2, (((9 : Nat)) : Int))] 19 h (FQ 8 20 (0, mR h)) := by
  refine con_of (pad := 0) (own := RX2) (plainFor_of_name (by decide)) rfl rfl ?_
  intro X hC hbt hr hnm hZ hRm hn0
  show AW G X 0 [(2, (((18 : Nat)) : Int)), (2, (((17 : Nat)) : Int)), (2, (((9 : Nat)) : Int))] [] 19 h 0 0
  refine aw_aload_n hC dX2_init_0 rfl ?_
  refine aw_oinit (a := 18) hC dX2_init_1 oiLRX2_3 oiI oiC hRm (by decide) (by decide) ?_
  refine aw_aload_n hC dX2_init_4 rfl ?_
  refine aw_sipush hC dX2_init_5 (by decide) (by decide) ?_
  refine aw_eqT (v1 := ((128 : Nat) : Int)) rfl ?_
  refine aw_newi (len := 128) hC dX2_init_8 acl_int rfl (by decide) (by decide) (by rw [hRm]; exact Nat.le_of_ble_eq_true rfl) (by rw [hRm]; exact Nat.le_of_ble_eq_true rfl) (nsh hbt) ?_
  refine aw_putG (t := 2) (k := 12) (a := 18) inT2 rfl (by decide) tyX2_ok nmX2 hC dX2_init_10 mkRX2_11 (by decide) rfl hnm rfl rfl rfl rfl (Or.inr ⟨_, rfl⟩) (Or.inr (by decide)) (fun q => q) (nsh hbt) ?_
  refine aw_aload_n hC dX2_init_13 rfl ?_
  refine aw_aload_n hC dX2_init_14 rfl ?_
  refine aw_putG (t := 2) (k := 0) (a := 18) inT2 rfl (by decide) tyX2_ok nmX2 hC dX2_init_15 mkRX2_15 (by decide) rfl hnm rfl rfl rfl rfl (Or.inr ⟨_, rfl⟩) (Or.inr (by decide)) (fun q => q) (nsh hbt) ?_
  refine aw_aload_n hC dX2_init_18 rfl ?_
  refine aw_aload_n hC dX2_init_19 rfl ?_
  refine aw_putX (t := 2) (k := 8) (a := 18) inT2 rfl (by decide) tyX2_ok nmX2 hC dX2_init_20 mkRX2_19 (by decide) rfl rfl rfl rfl (Or.inl ⟨_, rfl⟩) (Or.inr (by decide)) (fun q => q) (nsh hbt) ?_
  exact aw_return hC hZ (Nat.le_of_ble_eq_true rfl) (Nat.le_of_ble_eq_true rfl) hr dX2_init_23 ⟨rfl, rfl, rfl⟩
theorem oiLRX3_3 : Cond.methodLink RX3 3 Lib.objectInit ∈ TB := tb_of 278 (by decide +kernel) (by decide +kernel)
theorem mkRX3_9 : Cond.fieldLink RX3 9 (TX3 1).1 (TX3 1).2.1 (TX3 1).2.2.1 ∈ TB := tb_of 280 (by decide +kernel) (by decide +kernel)
theorem mkRX3_15 : Cond.fieldLink RX3 15 (TX3 2).1 (TX3 2).2.1 (TX3 2).2.2.1 ∈ TB := tb_of 282 (by decide +kernel) (by decide +kernel)
theorem mkRX3_18 : Cond.fieldLink RX3 18 (TX3 3).1 (TX3 3).2.1 (TX3 3).2.2.1 ∈ TB := tb_of 284 (by decide +kernel) (by decide +kernel)
theorem mkRX3_21 : Cond.fieldLink RX3 21 (TX3 8).1 (TX3 8).2.1 (TX3 8).2.2.1 ∈ TB := tb_of 291 (by decide +kernel) (by decide +kernel)
theorem mkRX3_24 : Cond.fieldLink RX3 24 (TX3 13).1 (TX3 13).2.1 (TX3 13).2.2.1 ∈ TB := tb_of 298 (by decide +kernel) (by decide +kernel)
theorem mkRX3_27 : Cond.fieldLink RX3 27 (TX3 0).1 (TX3 0).2.1 (TX3 0).2.2.1 ∈ TB := tb_of 279 (by decide +kernel) (by decide +kernel)
def mS (h : Hp) : Hp := (st (st (nw (st (nw (st (nw (st (nw (st (nw h 21 (fun _ => 0)) 20 1 ((21 : Nat) : Int)) 22 (fun _ => 0)) 20 2 ((22 : Nat) : Int)) 23 (fun _ => 0)) 20 3 ((23 : Nat) : Int)) 24 (fun _ => 0)) 20 8 ((24 : Nat) : Int)) 25 (fun _ => 0)) 20 13 ((25 : Nat) : Int)) 20 0 ((1 : Nat) : Int))
theorem ok_mS {G : GD} {h : Hp} : Con G yX3_init cX3_init 2 none 1 5 262 false [(2, (((20 : Nat)) : Int)), (2, (((1 : Nat)) : Int))] 21 h (FQ 8 26 (0, mS h)) := by
  refine con_of (pad := 0) (own := RX3) (plainFor_of_name (by decide)) rfl rfl ?_
  intro X hC hbt hr hnm hZ hRm hn0
  show AW G X 0 [(2, (((20 : Nat)) : Int)), (2, (((1 : Nat)) : Int))] [] 21 h 0 0
  refine aw_aload_n hC dX3_init_0 rfl ?_
  refine aw_oinit (a := 20) hC dX3_init_1 oiLRX3_3 oiI oiC hRm (by decide) (by decide) ?_
  refine aw_aload_n hC dX3_init_4 rfl ?_
  refine aw_bipush hC dX3_init_5 (by decide) (by decide) ?_
  refine aw_eqT (v1 := ((62 : Nat) : Int)) rfl ?_
  refine aw_newi (len := 62) hC dX3_init_7 acl_int rfl (by decide) (by decide) (by rw [hRm]; exact Nat.le_of_ble_eq_true rfl) (by rw [hRm]; exact Nat.le_of_ble_eq_true rfl) (nsh hbt) ?_
  refine aw_putG (t := 2) (k := 1) (a := 20) inT3 rfl (by decide) tyX3_ok nmX3 hC dX3_init_9 mkRX3_9 (by decide) rfl hnm rfl rfl rfl rfl (Or.inr ⟨_, rfl⟩) (Or.inr (by decide)) (fun q => q) (nsh hbt) ?_
  refine aw_aload_n hC dX3_init_12 rfl ?_
  refine aw_bipush hC dX3_init_13 (by decide) (by decide) ?_
  refine aw_eqT (v1 := ((64 : Nat) : Int)) rfl ?_
  refine aw_newi (len := 64) hC dX3_init_15 acl_int rfl (by decide) (by decide) (by rw [hRm]; exact Nat.le_of_ble_eq_true rfl) (by rw [hRm]; exact Nat.le_of_ble_eq_true rfl) (nsh hbt) ?_
  refine aw_putG (t := 2) (k := 2) (a := 20) inT3 rfl (by decide) tyX3_ok nmX3 hC dX3_init_17 mkRX3_15 (by decide) rfl hnm rfl rfl rfl rfl (Or.inr ⟨_, rfl⟩) (Or.inr (by decide)) (fun q => q) (nsh hbt) ?_
  refine aw_aload_n hC dX3_init_20 rfl ?_
  refine aw_bipush hC dX3_init_21 (by decide) (by decide) ?_
  refine aw_eqT (v1 := ((64 : Nat) : Int)) rfl ?_
  refine aw_newi (len := 64) hC dX3_init_23 acl_int rfl (by decide) (by decide) (by rw [hRm]; exact Nat.le_of_ble_eq_true rfl) (by rw [hRm]; exact Nat.le_of_ble_eq_true rfl) (nsh hbt) ?_
  refine aw_putG (t := 2) (k := 3) (a := 20) inT3 rfl (by decide) tyX3_ok nmX3 hC dX3_init_25 mkRX3_18 (by decide) rfl hnm rfl rfl rfl rfl (Or.inr ⟨_, rfl⟩) (Or.inr (by decide)) (fun q => q) (nsh hbt) ?_
  refine aw_aload_n hC dX3_init_28 rfl ?_
  refine aw_bipush hC dX3_init_29 (by decide) (by decide) ?_
  refine aw_eqT (v1 := ((8 : Nat) : Int)) rfl ?_
  refine aw_newi (len := 8) hC dX3_init_31 acl_int rfl (by decide) (by decide) (by rw [hRm]; exact Nat.le_of_ble_eq_true rfl) (by rw [hRm]; exact Nat.le_of_ble_eq_true rfl) (nsh hbt) ?_
  refine aw_putG (t := 2) (k := 8) (a := 20) inT3 rfl (by decide) tyX3_ok nmX3 hC dX3_init_33 mkRX3_21 (by decide) rfl hnm rfl rfl rfl rfl (Or.inr ⟨_, rfl⟩) (Or.inr (by decide)) (fun q => q) (nsh hbt) ?_
  refine aw_aload_n hC dX3_init_36 rfl ?_
  refine aw_bipush hC dX3_init_37 (by decide) (by decide) ?_
  refine aw_eqT (v1 := ((64 : Nat) : Int)) rfl ?_
  refine aw_newi (len := 64) hC dX3_init_39 acl_int rfl (by decide) (by decide) (by rw [hRm]; exact Nat.le_of_ble_eq_true rfl) (by rw [hRm]; exact Nat.le_of_ble_eq_true rfl) (nsh hbt) ?_
  refine aw_putG (t := 2) (k := 13) (a := 20) inT3 rfl (by decide) tyX3_ok nmX3 hC dX3_init_41 mkRX3_24 (by decide) rfl hnm rfl rfl rfl rfl (Or.inr ⟨_, rfl⟩) (Or.inr (by decide)) (fun q => q) (nsh hbt) ?_
  refine aw_aload_n hC dX3_init_44 rfl ?_
  refine aw_aload_n hC dX3_init_45 rfl ?_
  refine aw_putX (t := 2) (k := 0) (a := 20) inT3 rfl (by decide) tyX3_ok nmX3 hC dX3_init_46 mkRX3_27 (by decide) rfl rfl rfl rfl (Or.inl ⟨_, rfl⟩) (Or.inr (by decide)) (fun q => q) (nsh hbt) ?_
  exact aw_return hC hZ (Nat.le_of_ble_eq_true rfl) (Nat.le_of_ble_eq_true rfl) hr dX3_init_49 ⟨rfl, rfl, rfl⟩
theorem oiLRX4_3 : Cond.methodLink RX4 3 Lib.objectInit ∈ TB := tb_of 367 (by decide +kernel) (by decide +kernel)
theorem mkRX4_9 : Cond.fieldLink RX4 9 (TX4 1).1 (TX4 1).2.1 (TX4 1).2.2.1 ∈ TB := tb_of 369 (by decide +kernel) (by decide +kernel)
theorem mkRX4_15 : Cond.fieldLink RX4 15 (TX4 2).1 (TX4 2).2.1 (TX4 2).2.2.1 ∈ TB := tb_of 371 (by decide +kernel) (by decide +kernel)
theorem mkRX4_18 : Cond.fieldLink RX4 18 (TX4 0).1 (TX4 0).2.1 (TX4 0).2.2.1 ∈ TB := tb_of 368 (by decide +kernel) (by decide +kernel)
def mW (h : Hp) : Hp := (st (st (nw (st (nw h 32 (fun _ => 0)) 31 1 ((32 : Nat) : Int)) 33 (fun _ => 0)) 31 2 ((33 : Nat) : Int)) 31 0 ((1 : Nat) : Int))
theorem ok_mW {G : GD} {h : Hp} : Con G yX4_init cX4_init 2 none 1 2 12 false [(2, (((31 : Nat)) : Int)), (2, (((1 : Nat)) : Int))] 32 h (FQ 8 34 (0, mW h)) := by
  refine con_of (pad := 0) (own := RX4) (plainFor_of_name (by decide)) rfl rfl ?_
  intro X hC hbt hr hnm hZ hRm hn0
  show AW G X 0 [(2, (((31 : Nat)) : Int)), (2, (((1 : Nat)) : Int))] [] 32 h 0 0
  refine aw_aload_n hC dX4_init_0 rfl ?_
  refine aw_oinit (a := 31) hC dX4_init_1 oiLRX4_3 oiI oiC hRm (by decide) (by decide) ?_
  refine aw_aload_n hC dX4_init_4 rfl ?_
  refine aw_bipush hC dX4_init_5 (by decide) (by decide) ?_
  refine aw_eqT (v1 := ((6 : Nat) : Int)) rfl ?_
  refine aw_newi (len := 6) hC dX4_init_7 acl_int rfl (by decide) (by decide) (by rw [hRm]; exact Nat.le_of_ble_eq_true rfl) (by rw [hRm]; exact Nat.le_of_ble_eq_true rfl) (nsh hbt) ?_
  refine aw_putG (t := 2) (k := 1) (a := 31) inT4 rfl (by decide) tyX4_ok nmX4 hC dX4_init_9 mkRX4_9 (by decide) rfl hnm rfl rfl rfl rfl (Or.inr ⟨_, rfl⟩) (Or.inr (by decide)) (fun q => q) (nsh hbt) ?_
  refine aw_aload_n hC dX4_init_12 rfl ?_
  refine aw_bipush hC dX4_init_13 (by decide) (by decide) ?_
  refine aw_eqT (v1 := ((6 : Nat) : Int)) rfl ?_
  refine aw_newi (len := 6) hC dX4_init_15 acl_int rfl (by decide) (by decide) (by rw [hRm]; exact Nat.le_of_ble_eq_true rfl) (by rw [hRm]; exact Nat.le_of_ble_eq_true rfl) (nsh hbt) ?_
  refine aw_putG (t := 2) (k := 2) (a := 31) inT4 rfl (by decide) tyX4_ok nmX4 hC dX4_init_17 mkRX4_15 (by decide) rfl hnm rfl rfl rfl rfl (Or.inr ⟨_, rfl⟩) (Or.inr (by decide)) (fun q => q) (nsh hbt) ?_
  refine aw_aload_n hC dX4_init_20 rfl ?_
  refine aw_aload_n hC dX4_init_21 rfl ?_
  refine aw_putX (t := 2) (k := 0) (a := 31) inT4 rfl (by decide) tyX4_ok nmX4 hC dX4_init_22 mkRX4_18 (by decide) rfl rfl rfl rfl (Or.inl ⟨_, rfl⟩) (Or.inr (by decide)) (fun q => q) (nsh hbt) ?_
  exact aw_return hC hZ (Nat.le_of_ble_eq_true rfl) (Nat.le_of_ble_eq_true rfl) hr dX4_init_25 ⟨rfl, rfl, rfl⟩
theorem oiLRX5_1 : Cond.methodLink RX5 1 Lib.objectInit ∈ TB := tb_of 129 (by decide +kernel) (by decide +kernel)
theorem nwLRX5_7 : Cond.classLink RX5 7 RX1 ∈ TB := tb_of 132 (by decide +kernel) (by decide +kernel)
theorem nwI1 : Cond.instantiable RX1 12 ∈ TB := tb_of 133 (by decide +kernel) (by decide +kernel)
theorem nwN1 : Cond.initialized RX1 ∈ TB := tb_of 106 (by decide +kernel) (by decide +kernel)
set_option maxRecDepth 20000 in
theorem mwRX5_9 : ∀ w ∈ ([.methodLink RX5 9 yX1_init, .instanceMethod yX1_init, .initialized yX1_init.cls, .code yX1_init cX1_init 1 none] : List Cond), w ∈ TB := tb_all [134, 135, 106, 136] rfl (by decide +kernel)
theorem md_X1_init : yX1_init.cls ≠ "java/lang/invoke/MethodHandle" ∧ yX1_init.cls ≠ "java/lang/invoke/VarHandle" ∧ (parseMethodDescriptor yX1_init.desc).map (fun d => d.parameters.length) = some 0 := by decide +kernel
theorem mkRX5_10 : Cond.fieldLink RX5 10 (TX5 0).1 (TX5 0).2.1 (TX5 0).2.2.1 ∈ TB := tb_of 393 (by decide +kernel) (by decide +kernel)
theorem mkRX5_16 : Cond.fieldLink RX5 16 (TX5 1).1 (TX5 1).2.1 (TX5 1).2.2.1 ∈ TB := tb_of 394 (by decide +kernel) (by decide +kernel)
theorem mkRX5_19 : Cond.fieldLink RX5 19 (TX5 8).1 (TX5 8).2.1 (TX5 8).2.2.1 ∈ TB := tb_of 401 (by decide +kernel) (by decide +kernel)
theorem nwLRX5_23 : Cond.classLink RX5 23 RX2 ∈ TB := tb_of 212 (by decide +kernel) (by decide +kernel)
theorem nwI2 : Cond.instantiable RX2 17 ∈ TB := tb_of 213 (by decide +kernel) (by decide +kernel)
theorem nwN2 : Cond.initialized RX2 ∈ TB := tb_of 107 (by decide +kernel) (by decide +kernel)
set_option maxRecDepth 20000 in
theorem mwRX5_25 : ∀ w ∈ ([.methodLink RX5 25 yX2_init, .instanceMethod yX2_init, .initialized yX2_init.cls, .code yX2_init cX2_init 3 none] : List Cond), w ∈ TB := tb_all [214, 215, 107, 216] rfl (by decide +kernel)
theorem md_X2_init : yX2_init.cls ≠ "java/lang/invoke/MethodHandle" ∧ yX2_init.cls ≠ "java/lang/invoke/VarHandle" ∧ (parseMethodDescriptor yX2_init.desc).map (fun d => d.parameters.length) = some 2 := by decide +kernel
theorem mkRX5_28 : Cond.fieldLink RX5 28 (TX5 2).1 (TX5 2).2.1 (TX5 2).2.2.1 ∈ TB := tb_of 395 (by decide +kernel) (by decide +kernel)
theorem nwLRX5_32 : Cond.classLink RX5 32 RX3 ∈ TB := tb_of 273 (by decide +kernel) (by decide +kernel)
theorem nwI3 : Cond.instantiable RX3 14 ∈ TB := tb_of 274 (by decide +kernel) (by decide +kernel)
theorem nwN3 : Cond.initialized RX3 ∈ TB := tb_of 108 (by decide +kernel) (by decide +kernel)
set_option maxRecDepth 20000 in
theorem mwRX5_34 : ∀ w ∈ ([.methodLink RX5 34 yX3_init, .instanceMethod yX3_init, .initialized yX3_init.cls, .code yX3_init cX3_init 2 none] : List Cond), w ∈ TB := tb_all [275, 276, 108, 277] rfl (by decide +kernel)
theorem md_X3_init : yX3_init.cls ≠ "java/lang/invoke/MethodHandle" ∧ yX3_init.cls ≠ "java/lang/invoke/VarHandle" ∧ (parseMethodDescriptor yX3_init.desc).map (fun d => d.parameters.length) = some 1 := by decide +kernel
theorem mkRX5_37 : Cond.fieldLink RX5 37 (TX5 3).1 (TX5 3).2.1 (TX5 3).2.2.1 ∈ TB := tb_of 396 (by decide +kernel) (by decide +kernel)
theorem nwLRX5_41 : Cond.classLink RX5 41 RX0 ∈ TB := tb_of 328 (by decide +kernel) (by decide +kernel)
theorem nwI0 : Cond.instantiable RX0 7 ∈ TB := tb_of 329 (by decide +kernel) (by decide +kernel)
theorem nwN0 : Cond.initialized RX0 ∈ TB := tb_of 109 (by decide +kernel) (by decide +kernel)
theorem mnRX5_43 : Cond.methodLinkNest RX5 43 yX0_init RX5 ∈ TBN := tbn_of 330 (by decide +kernel) (by decide +kernel)
set_option maxRecDepth 20000 in
theorem mwRX5_43 : ∀ w ∈ ([.instanceMethod yX0_init, .initialized yX0_init.cls, .code yX0_init cX0_init 1 none] : List Cond), w ∈ TB := tb_all [331, 109, 332] rfl (by decide +kernel)
theorem md_X0_init : yX0_init.cls ≠ "java/lang/invoke/MethodHandle" ∧ yX0_init.cls ≠ "java/lang/invoke/VarHandle" ∧ (parseMethodDescriptor yX0_init.desc).map (fun d => d.parameters.length) = some 0 := by decide +kernel
theorem mkRX5_44 : Cond.fieldLink RX5 44 (TX5 4).1 (TX5 4).2.1 (TX5 4).2.2.1 ∈ TB := tb_of 397 (by decide +kernel) (by decide +kernel)
theorem nwLRX5_48 : Cond.classLink RX5 48 RX4 ∈ TB := tb_of 362 (by decide +kernel) (by decide +kernel)
theorem nwI4 : Cond.instantiable RX4 5 ∈ TB := tb_of 363 (by decide +kernel) (by decide +kernel)
theorem nwN4 : Cond.initialized RX4 ∈ TB := tb_of 110 (by decide +kernel) (by decide +kernel)
set_option maxRecDepth 20000 in
theorem mwRX5_50 : ∀ w ∈ ([.methodLink RX5 50 yX4_init, .instanceMethod yX4_init, .initialized yX4_init.cls, .code yX4_init cX4_init 2 none] : List Cond), w ∈ TB := tb_all [364, 365, 110, 366] rfl (by decide +kernel)
theorem md_X4_init : yX4_init.cls ≠ "java/lang/invoke/MethodHandle" ∧ yX4_init.cls ≠ "java/lang/invoke/VarHandle" ∧ (parseMethodDescriptor yX4_init.desc).map (fun d => d.parameters.length) = some 1 := by decide +kernel
theorem mkRX5_51 : Cond.fieldLink RX5 51 (TX5 7).1 (TX5 7).2.1 (TX5 7).2.2.1 ∈ TB := tb_of 400 (by decide +kernel) (by decide +kernel)
theorem mkRX5_55 : Cond.fieldLink RX5 55 (TX5 14).1 (TX5 14).2.1 (TX5 14).2.2.1 ∈ TB := tb_of 407 (by decide +kernel) (by decide +kernel)
set_option maxRecDepth 20000 in
theorem mwRX5_59 : ∀ w ∈ ([.methodLink RX5 59 yX0_begin, .instanceMethod yX0_begin, .selects RX0 yX0_begin yX0_begin, .initialized RX0, .code yX0_begin cX0_begin 2 none] : List Cond), w ∈ TB := tb_all [386, 387, 388, 109, 389] rfl (by decide +kernel)
theorem md_X0_begin : yX0_begin.cls ≠ "java/lang/invoke/MethodHandle" ∧ yX0_begin.cls ≠ "java/lang/invoke/VarHandle" ∧ (parseMethodDescriptor yX0_begin.desc).map (fun d => d.parameters.length) = some 1 := by decide +kernel
theorem mkRX5_62 : Cond.fieldLink RX5 62 (TX5 10).1 (TX5 10).2.1 (TX5 10).2.2.1 ∈ TB := tb_of 403 (by decide +kernel) (by decide +kernel)
def m5 (h : Hp) : Hp := (st (begH (st (nw (st (mW (nw (st (mA26 (nw (st (mS (nw (st (mR (nw (st (nw (st (mL9 (nw (st (mL1 (nw h 1 (dfv 1))) 0 0 ((1 : Nat) : Int)) 9 (dfv 1))) 0 1 ((9 : Nat) : Int)) 17 (fun _ => 0)) 0 8 ((17 : Nat) : Int)) 18 (dfv 2))) 0 2 ((18 : Nat) : Int)) 20 (dfv 3))) 0 3 ((20 : Nat) : Int)) 26 (dfv 0))) 0 4 ((26 : Nat) : Int)) 31 (dfv 4))) 0 7 ((31 : Nat) : Int)) 34 (fun _ => 0)) 0 14 ((34 : Nat) : Int))) 0 10 (-1))
theorem ok_m5 {G : GD} {h : Hp} : Con G yX5_init cX5_init 1 none 2 34 5425 false [(2, (((0 : Nat)) : Int))] 1 h (FQ 8 35 (0, m5 h)) := by
  refine con_of (pad := 0) (own := RX5) (plainFor_of_name (by decide)) rfl rfl ?_
  intro X hC hbt hr hnm hZ hRm hn0
  show AW G X 0 [(2, (((0 : Nat)) : Int))] [] 1 h 0 0
  refine aw_aload_n hC dX5_init_0 rfl ?_
  refine aw_oinit (a := 0) hC dX5_init_1 oiLRX5_1 oiI oiC hRm (by decide) (by decide) ?_
  refine aw_aload_n hC dX5_init_4 rfl ?_
  refine aw_new (ci := 1) inT1 tyX1_ok rfl (by decide) hC dX5_init_5 nwLRX5_7 nwI1 nwN1 rfl rfl (dv_of rfl tcX1) (by rw [hRm]; exact Nat.le_of_ble_eq_true rfl) (by rw [hRm]; exact Nat.le_of_ble_eq_true rfl) (nsh hbt) ?_
  refine aw_dup hC dX5_init_8 (by simp) ?_
  refine aw_callI (av := []) (a := 1) (d' := 1) (mc' := 7) (ms' := 850) hC hRm dX5_init_9 rfl mwRX5_9 md_X1_init (by decide) (by decide) (Nat.le_of_ble_eq_true rfl) (Nat.le_of_ble_eq_true rfl) (by decide) (by rw [hbt]; exact ok_mL1) (fun v n1 h1 _ hQ => ?_)
  obtain ⟨rfl, rfl, rfl⟩ := hQ
  refine aw_putX (t := 2) (k := 0) (a := 0) inT5 rfl (by decide) tyX5_ok nmX5 hC dX5_init_12 mkRX5_10 (by decide) rfl rfl rfl rfl (Or.inl ⟨_, rfl⟩) (Or.inr (by decide)) (fun q => q) (nsh hbt) ?_
  refine aw_aload_n hC dX5_init_15 rfl ?_
  refine aw_new (ci := 1) inT1 tyX1_ok rfl (by decide) hC dX5_init_16 nwLRX5_7 nwI1 nwN1 rfl rfl (dv_of rfl tcX1) (by rw [hRm]; exact Nat.le_of_ble_eq_true rfl) (by rw [hRm]; exact Nat.le_of_ble_eq_true rfl) (nsh hbt) ?_
  refine aw_dup hC dX5_init_19 (by simp) ?_
  refine aw_callI (av := []) (a := 9) (d' := 1) (mc' := 7) (ms' := 850) hC hRm dX5_init_20 rfl mwRX5_9 md_X1_init (by decide) (by decide) (Nat.le_of_ble_eq_true rfl) (Nat.le_of_ble_eq_true rfl) (by decide) (by rw [hbt]; exact ok_mL9) (fun v n1 h1 _ hQ => ?_)
  obtain ⟨rfl, rfl, rfl⟩ := hQ
  refine aw_putX (t := 2) (k := 1) (a := 0) inT5 rfl (by decide) tyX5_ok nmX5 hC dX5_init_23 mkRX5_16 (by decide) rfl rfl rfl rfl (Or.inl ⟨_, rfl⟩) (Or.inr (by decide)) (fun q => q) (nsh hbt) ?_
  refine aw_aload_n hC dX5_init_26 rfl ?_
  refine aw_sipush hC dX5_init_27 (by decide) (by decide) ?_
  refine aw_eqT (v1 := ((700 : Nat) : Int)) rfl ?_
  refine aw_newb (len := 700) hC dX5_init_30 acl_byte rfl (by decide) (by decide) (by rw [hRm]; exact Nat.le_of_ble_eq_true rfl) (by rw [hRm]; exact Nat.le_of_ble_eq_true rfl) (nsh hbt) ?_
  refine aw_putG (t := 2) (k := 8) (a := 0) inT5 rfl (by decide) tyX5_ok nmX5 hC dX5_init_32 mkRX5_19 (by decide) rfl hnm rfl rfl rfl rfl (Or.inr ⟨_, rfl⟩) (Or.inr (by decide)) (fun q => q) (nsh hbt) ?_
  refine aw_aload_n hC dX5_init_35 rfl ?_
  refine aw_new (ci := 2) inT2 tyX2_ok rfl (by decide) hC dX5_init_36 nwLRX5_23 nwI2 nwN2 rfl rfl (dv_of rfl tcX2) (by rw [hRm]; exact Nat.le_of_ble_eq_true rfl) (by rw [hRm]; exact Nat.le_of_ble_eq_true rfl) (nsh hbt) ?_
  refine aw_dup hC dX5_init_39 (by simp) ?_
  refine aw_aload_n hC dX5_init_40 rfl ?_
  refine aw_g5r (k := 8) (a := 0) hC dX5_init_41 mkRX5_19 (by decide) rfl rfl rfl (Or.inr (by decide)) ?_
  refine aw_eqT (v1 := ((17 : Nat) : Int)) rfl ?_
  refine aw_aload_n hC dX5_init_44 rfl ?_
  refine aw_g5r (k := 1) (a := 0) hC dX5_init_45 mkRX5_16 (by decide) rfl rfl rfl (Or.inr (by decide)) ?_
  refine aw_eqT (v1 := ((9 : Nat) : Int)) rfl ?_
  refine aw_callI (av := [(2, (((17 : Nat)) : Int)), (2, (((9 : Nat)) : Int))]) (a := 18) (d' := 1) (mc' := 1) (ms' := 128) hC hRm dX5_init_48 rfl mwRX5_25 md_X2_init (by decide) (by decide) (Nat.le_of_ble_eq_true rfl) (Nat.le_of_ble_eq_true rfl) (by decide) (by rw [hbt]; exact ok_mR) (fun v n1 h1 _ hQ => ?_)
  obtain ⟨rfl, rfl, rfl⟩ := hQ
  refine aw_putG (t := 2) (k := 2) (a := 0) inT5 rfl (by decide) tyX5_ok nmX5 hC dX5_init_51 mkRX5_28 (by decide) rfl hnm rfl rfl rfl rfl (Or.inl ⟨_, rfl⟩) (Or.inr (by decide)) (fun q => q) (nsh hbt) ?_
  refine aw_aload_n hC dX5_init_54 rfl ?_
  refine aw_new (ci := 3) inT3 tyX3_ok rfl (by decide) hC dX5_init_55 nwLRX5_32 nwI3 nwN3 rfl rfl (dv_of rfl tcX3) (by rw [hRm]; exact Nat.le_of_ble_eq_true rfl) (by rw [hRm]; exact Nat.le_of_ble_eq_true rfl) (nsh hbt) ?_
  refine aw_dup hC dX5_init_58 (by simp) ?_
  refine aw_aload_n hC dX5_init_59 rfl ?_
  refine aw_g5r (k := 0) (a := 0) hC dX5_init_60 mkRX5_10 (by decide) rfl rfl rfl (Or.inr (by decide)) ?_
  refine aw_eqT (v1 := ((1 : Nat) : Int)) rfl ?_
  refine aw_callI (av := [(2, (((1 : Nat)) : Int))]) (a := 20) (d' := 1) (mc' := 5) (ms' := 262) hC hRm dX5_init_63 rfl mwRX5_34 md_X3_init (by decide) (by decide) (Nat.le_of_ble_eq_true rfl) (Nat.le_of_ble_eq_true rfl) (by decide) (by rw [hbt]; exact ok_mS) (fun v n1 h1 _ hQ => ?_)
  obtain ⟨rfl, rfl, rfl⟩ := hQ
  refine aw_putG (t := 2) (k := 3) (a := 0) inT5 rfl (by decide) tyX5_ok nmX5 hC dX5_init_66 mkRX5_37 (by decide) rfl hnm rfl rfl rfl rfl (Or.inl ⟨_, rfl⟩) (Or.inr (by decide)) (fun q => q) (nsh hbt) ?_
  refine aw_aload_n hC dX5_init_69 rfl ?_
  refine aw_new (ci := 0) inT0 tyX0_ok rfl (by decide) hC dX5_init_70 nwLRX5_41 nwI0 nwN0 rfl rfl (dv_of rfl tcX0) (by rw [hRm]; exact Nat.le_of_ble_eq_true rfl) (by rw [hRm]; exact Nat.le_of_ble_eq_true rfl) (nsh hbt) ?_
  refine aw_dup hC dX5_init_73 (by simp) ?_
  refine aw_callIN (av := []) (a := 26) (d' := 1) (mc' := 4) (ms' := 2554) hC hRm dX5_init_74 rfl mnRX5_43 mwRX5_43 md_X0_init (by decide) (by decide) (Nat.le_of_ble_eq_true rfl) (Nat.le_of_ble_eq_true rfl) (by decide) (by rw [hbt]; exact ok_mA26) (fun v n1 h1 _ hQ => ?_)
  obtain ⟨rfl, rfl, rfl⟩ := hQ
  refine aw_putG (t := 2) (k := 4) (a := 0) inT5 rfl (by decide) tyX5_ok nmX5 hC dX5_init_77 mkRX5_44 (by decide) rfl hnm rfl rfl rfl rfl (Or.inl ⟨_, rfl⟩) (Or.inr (by decide)) (fun q => q) (nsh hbt) ?_
  refine aw_aload_n hC dX5_init_80 rfl ?_
  refine aw_new (ci := 4) inT4 tyX4_ok rfl (by decide) hC dX5_init_81 nwLRX5_48 nwI4 nwN4 rfl rfl (dv_of rfl tcX4) (by rw [hRm]; exact Nat.le_of_ble_eq_true rfl) (by rw [hRm]; exact Nat.le_of_ble_eq_true rfl) (nsh hbt) ?_
  refine aw_dup hC dX5_init_84 (by simp) ?_
  refine aw_aload_n hC dX5_init_85 rfl ?_
  refine aw_g5r (k := 0) (a := 0) hC dX5_init_86 mkRX5_10 (by decide) rfl rfl rfl (Or.inr (by decide)) ?_
  refine aw_eqT (v1 := ((1 : Nat) : Int)) rfl ?_
  refine aw_callI (av := [(2, (((1 : Nat)) : Int))]) (a := 31) (d' := 1) (mc' := 2) (ms' := 12) hC hRm dX5_init_89 rfl mwRX5_50 md_X4_init (by decide) (by decide) (Nat.le_of_ble_eq_true rfl) (Nat.le_of_ble_eq_true rfl) (by decide) (by rw [hbt]; exact ok_mW) (fun v n1 h1 _ hQ => ?_)
  obtain ⟨rfl, rfl, rfl⟩ := hQ
  refine aw_putG (t := 2) (k := 7) (a := 0) inT5 rfl (by decide) tyX5_ok nmX5 hC dX5_init_92 mkRX5_51 (by decide) rfl hnm rfl rfl rfl rfl (Or.inl ⟨_, rfl⟩) (Or.inr (by decide)) (fun q => q) (nsh hbt) ?_
  refine aw_aload_n hC dX5_init_95 rfl ?_
  refine aw_iconst hC dX5_init_96 (by decide) ?_
  refine aw_eqT (v1 := ((2 : Nat) : Int)) rfl ?_
  refine aw_newi (len := 2) hC dX5_init_97 acl_int rfl (by decide) (by decide) (by rw [hRm]; exact Nat.le_of_ble_eq_true rfl) (by rw [hRm]; exact Nat.le_of_ble_eq_true rfl) (nsh hbt) ?_
  refine aw_putG (t := 2) (k := 14) (a := 0) inT5 rfl (by decide) tyX5_ok nmX5 hC dX5_init_99 mkRX5_55 (by decide) rfl hnm rfl rfl rfl rfl (Or.inr ⟨_, rfl⟩) (Or.inr (by decide)) (fun q => q) (nsh hbt) ?_
  refine aw_aload_n hC dX5_init_102 rfl ?_
  refine aw_g5r (k := 4) (a := 0) hC dX5_init_103 mkRX5_44 (by decide) rfl rfl rfl (Or.inr (by decide)) ?_
  refine aw_eqT (v1 := ((26 : Nat) : Int)) rfl ?_
  refine aw_aload_n hC dX5_init_106 rfl ?_
  refine aw_g5r (k := 0) (a := 0) hC dX5_init_107 mkRX5_10 (by decide) rfl rfl rfl (Or.inr (by decide)) ?_
  refine aw_eqT (v1 := ((1 : Nat) : Int)) rfl ?_
  refine aw_callV (av := [(2, (((1 : Nat)) : Int))]) (ci := 0) (a := 26) (d' := 1) (mc' := 0) (ms' := 0) hC hRm dX5_init_110 rfl (by decide) rfl mwRX5_59 md_X0_begin rfl rfl (Or.inr (by decide)) (by decide) (by decide) (Nat.le_of_ble_eq_true rfl) (Nat.le_of_ble_eq_true rfl) (by decide) (by rw [hbt]; exact okF_X0_begin (by decide) rfl rfl) (fun v n1 h1 _ hQ => ?_)
  obtain ⟨rfl, rfl, rfl⟩ := hQ
  refine aw_aload_n hC dX5_init_113 rfl ?_
  refine aw_iconst hC dX5_init_114 (by decide) ?_
  refine aw_putX (t := 0) (k := 10) (a := 0) inT5 rfl (by decide) tyX5_ok nmX5 hC dX5_init_115 mkRX5_62 (by decide) rfl rfl rfl rfl rfl (Or.inr (by decide)) (fun q => q) (nsh hbt) ?_
  exact aw_return hC hZ (Nat.le_of_ble_eq_true rfl) (Nat.le_of_ble_eq_true rfl) hr dX5_init_118 ⟨rfl, rfl, rfl⟩
theorem oiLRX6_1 : Cond.methodLink RX6 1 Lib.objectInit ∈ TB := tb_of 1214 (by decide +kernel) (by decide +kernel)
theorem mkRX6_7 : Cond.fieldLink RX6 7 (TX6 1).1 (TX6 1).2.1 (TX6 1).2.2.1 ∈ TB := tb_of 1216 (by decide +kernel) (by decide +kernel)
theorem mkRX6_13 : Cond.fieldLink RX6 13 (TX6 2).1 (TX6 2).2.1 (TX6 2).2.2.1 ∈ TB := tb_of 1217 (by decide +kernel) (by decide +kernel)
theorem mkRX6_16 : Cond.fieldLink RX6 16 (TX6 6).1 (TX6 6).2.1 (TX6 6).2.2.1 ∈ TB := tb_of 1221 (by decide +kernel) (by decide +kernel)
theorem mkRX6_20 : Cond.fieldLink RX6 20 (TX6 7).1 (TX6 7).2.1 (TX6 7).2.2.1 ∈ TB := tb_of 1222 (by decide +kernel) (by decide +kernel)
theorem mkRX6_23 : Cond.fieldLink RX6 23 (TX6 8).1 (TX6 8).2.1 (TX6 8).2.2.1 ∈ TB := tb_of 1223 (by decide +kernel) (by decide +kernel)
theorem mkRX6_26 : Cond.fieldLink RX6 26 (TX6 9).1 (TX6 9).2.1 (TX6 9).2.2.1 ∈ TB := tb_of 1224 (by decide +kernel) (by decide +kernel)
theorem mkRX6_29 : Cond.fieldLink RX6 29 (TX6 10).1 (TX6 10).2.1 (TX6 10).2.2.1 ∈ TB := tb_of 1225 (by decide +kernel) (by decide +kernel)
theorem mkRX6_32 : Cond.fieldLink RX6 32 (TX6 11).1 (TX6 11).2.1 (TX6 11).2.2.1 ∈ TB := tb_of 1226 (by decide +kernel) (by decide +kernel)
theorem mkRX6_35 : Cond.fieldLink RX6 35 (TX6 12).1 (TX6 12).2.1 (TX6 12).2.2.1 ∈ TB := tb_of 1227 (by decide +kernel) (by decide +kernel)
theorem mkRX6_38 : Cond.fieldLink RX6 38 (TX6 15).1 (TX6 15).2.1 (TX6 15).2.2.1 ∈ TB := tb_of 1230 (by decide +kernel) (by decide +kernel)
theorem mkRX6_41 : Cond.fieldLink RX6 41 (TX6 16).1 (TX6 16).2.1 (TX6 16).2.2.1 ∈ TB := tb_of 1231 (by decide +kernel) (by decide +kernel)
theorem mkRX6_44 : Cond.fieldLink RX6 44 (TX6 36).1 (TX6 36).2.1 (TX6 36).2.2.1 ∈ TB := tb_of 1251 (by decide +kernel) (by decide +kernel)
theorem mkRX6_47 : Cond.fieldLink RX6 47 (TX6 37).1 (TX6 37).2.1 (TX6 37).2.2.1 ∈ TB := tb_of 1252 (by decide +kernel) (by decide +kernel)
theorem mkRX6_50 : Cond.fieldLink RX6 50 (TX6 38).1 (TX6 38).2.1 (TX6 38).2.2.1 ∈ TB := tb_of 1253 (by decide +kernel) (by decide +kernel)
theorem mkRX6_53 : Cond.fieldLink RX6 53 (TX6 39).1 (TX6 39).2.1 (TX6 39).2.2.1 ∈ TB := tb_of 1254 (by decide +kernel) (by decide +kernel)
theorem mkRX6_56 : Cond.fieldLink RX6 56 (TX6 40).1 (TX6 40).2.1 (TX6 40).2.2.1 ∈ TB := tb_of 1255 (by decide +kernel) (by decide +kernel)
theorem mkRX6_59 : Cond.fieldLink RX6 59 (TX6 41).1 (TX6 41).2.1 (TX6 41).2.2.1 ∈ TB := tb_of 1256 (by decide +kernel) (by decide +kernel)
theorem mkRX6_62 : Cond.fieldLink RX6 62 (TX6 42).1 (TX6 42).2.1 (TX6 42).2.2.1 ∈ TB := tb_of 1257 (by decide +kernel) (by decide +kernel)
theorem mkRX6_65 : Cond.fieldLink RX6 65 (TX6 43).1 (TX6 43).2.1 (TX6 43).2.2.1 ∈ TB := tb_of 1258 (by decide +kernel) (by decide +kernel)
theorem mkRX6_68 : Cond.fieldLink RX6 68 (TX6 44).1 (TX6 44).2.1 (TX6 44).2.2.1 ∈ TB := tb_of 1259 (by decide +kernel) (by decide +kernel)
theorem mkRX6_71 : Cond.fieldLink RX6 71 (TX6 45).1 (TX6 45).2.1 (TX6 45).2.2.1 ∈ TB := tb_of 1260 (by decide +kernel) (by decide +kernel)
theorem mkRX6_75 : Cond.fieldLink RX6 75 (TX6 46).1 (TX6 46).2.1 (TX6 46).2.2.1 ∈ TB := tb_of 1261 (by decide +kernel) (by decide +kernel)
theorem mkRX6_78 : Cond.fieldLink RX6 78 (TX6 47).1 (TX6 47).2.1 (TX6 47).2.2.1 ∈ TB := tb_of 1262 (by decide +kernel) (by decide +kernel)
theorem mkRX6_81 : Cond.fieldLink RX6 81 (TX6 48).1 (TX6 48).2.1 (TX6 48).2.2.1 ∈ TB := tb_of 1263 (by decide +kernel) (by decide +kernel)
theorem mkRX6_84 : Cond.fieldLink RX6 84 (TX6 50).1 (TX6 50).2.1 (TX6 50).2.2.1 ∈ TB := tb_of 1265 (by decide +kernel) (by decide +kernel)
theorem mkRX6_87 : Cond.fieldLink RX6 87 (TX6 51).1 (TX6 51).2.1 (TX6 51).2.2.1 ∈ TB := tb_of 1266 (by decide +kernel) (by decide +kernel)
theorem mkRX6_90 : Cond.fieldLink RX6 90 (TX6 52).1 (TX6 52).2.1 (TX6 52).2.2.1 ∈ TB := tb_of 1267 (by decide +kernel) (by decide +kernel)
theorem mkRX6_93 : Cond.fieldLink RX6 93 (TX6 53).1 (TX6 53).2.1 (TX6 53).2.2.1 ∈ TB := tb_of 1268 (by decide +kernel) (by decide +kernel)
theorem mkRX6_96 : Cond.fieldLink RX6 96 (TX6 57).1 (TX6 57).2.1 (TX6 57).2.2.1 ∈ TB := tb_of 1272 (by decide +kernel) (by decide +kernel)
theorem mkRX6_99 : Cond.fieldLink RX6 99 (TX6 58).1 (TX6 58).2.1 (TX6 58).2.2.1 ∈ TB := tb_of 1273 (by decide +kernel) (by decide +kernel)
theorem mkRX6_102 : Cond.fieldLink RX6 102 (TX6 59).1 (TX6 59).2.1 (TX6 59).2.2.1 ∈ TB := tb_of 1274 (by decide +kernel) (by decide +kernel)
theorem mkRX6_105 : Cond.fieldLink RX6 105 (TX6 60).1 (TX6 60).2.1 (TX6 60).2.2.1 ∈ TB := tb_of 1275 (by decide +kernel) (by decide +kernel)
theorem mkRX6_108 : Cond.fieldLink RX6 108 (TX6 62).1 (TX6 62).2.1 (TX6 62).2.2.1 ∈ TB := tb_of 1277 (by decide +kernel) (by decide +kernel)
theorem mkRX6_111 : Cond.fieldLink RX6 111 (TX6 63).1 (TX6 63).2.1 (TX6 63).2.2.1 ∈ TB := tb_of 1278 (by decide +kernel) (by decide +kernel)
theorem mkRX6_114 : Cond.fieldLink RX6 114 (TX6 64).1 (TX6 64).2.1 (TX6 64).2.2.1 ∈ TB := tb_of 1279 (by decide +kernel) (by decide +kernel)
theorem mkRX6_117 : Cond.fieldLink RX6 117 (TX6 66).1 (TX6 66).2.1 (TX6 66).2.2.1 ∈ TB := tb_of 1281 (by decide +kernel) (by decide +kernel)
theorem mkRX6_120 : Cond.fieldLink RX6 120 (TX6 71).1 (TX6 71).2.1 (TX6 71).2.2.1 ∈ TB := tb_of 1286 (by decide +kernel) (by decide +kernel)
theorem mkRX6_123 : Cond.fieldLink RX6 123 (TX6 72).1 (TX6 72).2.1 (TX6 72).2.2.1 ∈ TB := tb_of 1287 (by decide +kernel) (by decide +kernel)
theorem mkRX6_126 : Cond.fieldLink RX6 126 (TX6 73).1 (TX6 73).2.1 (TX6 73).2.2.1 ∈ TB := tb_of 1288 (by decide +kernel) (by decide +kernel)
def m6 (h : Hp) : Hp := (st (st (st (st (st (st (st (st (st (st (st (st (st (st (nw (st (nw (st (nw (st (nw (st (nw (st (nw (st (nw (st (nw (st (st (nw (st (nw (st (st (st (st (nw (st (nw (st (nw (st (nw (st (nw (st (nw (st (nw (st (nw (st (nw (st (nw (st (nw (st (nw (st (nw (st (nw (st (nw (st (st (nw (st (nw (st (nw (st (nw (st (nw (st (nw (st (nw (st (st h 35 1 (8)) 35 2 (8)) 36 (fun _ => 0)) 35 6 ((36 : Nat) : Int)) 37 (fun _ => 0)) 35 7 ((37 : Nat) : Int)) 38 (fun _ => 0)) 35 8 ((38 : Nat) : Int)) 39 (fun _ => 0)) 35 9 ((39 : Nat) : Int)) 40 (fun _ => 0)) 35 10 ((40 : Nat) : Int)) 41 (fun _ => 0)) 35 11 ((41 : Nat) : Int)) 42 (fun _ => 0)) 35 12 ((42 : Nat) : Int)) 35 15 (-1)) 43 (fun _ => 0)) 35 16 ((43 : Nat) : Int)) 44 (fun _ => 0)) 35 36 ((44 : Nat) : Int)) 45 (fun _ => 0)) 35 37 ((45 : Nat) : Int)) 46 (fun _ => 0)) 35 38 ((46 : Nat) : Int)) 47 (fun _ => 0)) 35 39 ((47 : Nat) : Int)) 48 (fun _ => 0)) 35 40 ((48 : Nat) : Int)) 49 (fun _ => 0)) 35 41 ((49 : Nat) : Int)) 50 (fun _ => 0)) 35 42 ((50 : Nat) : Int)) 51 (fun _ => 0)) 35 43 ((51 : Nat) : Int)) 52 (fun _ => 0)) 35 44 ((52 : Nat) : Int)) 53 (fun _ => 0)) 35 45 ((53 : Nat) : Int)) 54 (fun _ => 0)) 35 46 ((54 : Nat) : Int)) 55 (fun _ => 0)) 35 47 ((55 : Nat) : Int)) 56 (fun _ => 0)) 35 48 ((56 : Nat) : Int)) 57 (fun _ => 0)) 35 50 ((57 : Nat) : Int)) 35 51 (-1)) 35 52 (-1)) 35 53 (-1)) 58 (fun _ => 0)) 35 57 ((58 : Nat) : Int)) 59 (fun _ => 0)) 35 58 ((59 : Nat) : Int)) 35 59 (-1)) 60 (fun _ => 0)) 35 60 ((60 : Nat) : Int)) 61 (fun _ => 0)) 35 62 ((61 : Nat) : Int)) 62 (fun _ => 0)) 35 63 ((62 : Nat) : Int)) 63 (fun _ => 0)) 35 64 ((63 : Nat) : Int)) 64 (fun _ => 0)) 35 66 ((64 : Nat) : Int)) 65 (fun _ => 0)) 35 71 ((65 : Nat) : Int)) 66 (fun _ => 0)) 35 72 ((66 : Nat) : Int)) 67 (fun _ => 0)) 35 73 ((67 : Nat) : Int)) 54 0 (-1)) 54 1 (-1)) 54 2 (-1)) 54 3 (-1)) 54 4 (-1)) 54 5 (-1)) 54 6 (-1)) 54 7 (-1)) 54 8 (-1)) 54 9 (-1)) 54 10 (-1)) 54 11 (-1)) 54 60 (-1))
theorem ok_m6 {G : GD} {h : Hp} : Con G yX6_init cX6_init 2 none 1 32 13695 false [(2, (((35 : Nat)) : Int))] 36 h (FQ 8 68 (0, m6 h)) := by
  refine con_of (pad := 1) (own := RX6) (plainFor_of_name (by decide)) rfl rfl ?_
  intro X hC hbt hr hnm hZ hRm hn0
  show AW G X 0 [(2, (((35 : Nat)) : Int)), (9, 0)] [] 36 h 0 0
  refine aw_aload_n hC dX6_init_0 rfl ?_
  refine aw_oinit (a := 35) hC dX6_init_1 oiLRX6_1 oiI oiC hRm (by decide) (by decide) ?_
  refine aw_aload_n hC dX6_init_4 rfl ?_
  refine aw_bipush hC dX6_init_5 (by decide) (by decide) ?_
  refine aw_putX (t := 0) (k := 1) (a := 35) inT6 rfl (by decide) tyX6_ok nmX6 hC dX6_init_7 mkRX6_7 (by decide) rfl rfl rfl rfl rfl (Or.inr (by decide)) (fun q => q) (nsh hbt) ?_
  refine aw_aload_n hC dX6_init_10 rfl ?_
  refine aw_bipush hC dX6_init_11 (by decide) (by decide) ?_
  refine aw_putX (t := 0) (k := 2) (a := 35) inT6 rfl (by decide) tyX6_ok nmX6 hC dX6_init_13 mkRX6_13 (by decide) rfl rfl rfl rfl rfl (Or.inr (by decide)) (fun q => q) (nsh hbt) ?_
  refine aw_aload_n hC dX6_init_16 rfl ?_
  refine aw_bipush hC dX6_init_17 (by decide) (by decide) ?_
  refine aw_eqT (v1 := ((64 : Nat) : Int)) rfl ?_
  refine aw_newi (len := 64) hC dX6_init_19 acl_int rfl (by decide) (by decide) (by rw [hRm]; exact Nat.le_of_ble_eq_true rfl) (by rw [hRm]; exact Nat.le_of_ble_eq_true rfl) (nsh hbt) ?_
  refine aw_putG (t := 2) (k := 6) (a := 35) inT6 rfl (by decide) tyX6_ok nmX6 hC dX6_init_21 mkRX6_16 (by decide) rfl hnm rfl rfl rfl rfl (Or.inr ⟨_, rfl⟩) (Or.inr (by decide)) (fun q => q) (nsh hbt) ?_
  refine aw_aload_n hC dX6_init_24 rfl ?_
  refine aw_bipush hC dX6_init_25 (by decide) (by decide) ?_
  refine aw_eqT (v1 := ((7 : Nat) : Int)) rfl ?_
  refine aw_newi (len := 7) hC dX6_init_27 acl_int rfl (by decide) (by decide) (by rw [hRm]; exact Nat.le_of_ble_eq_true rfl) (by rw [hRm]; exact Nat.le_of_ble_eq_true rfl) (nsh hbt) ?_
  refine aw_putG (t := 2) (k := 7) (a := 35) inT6 rfl (by decide) tyX6_ok nmX6 hC dX6_init_29 mkRX6_20 (by decide) rfl hnm rfl rfl rfl rfl (Or.inr ⟨_, rfl⟩) (Or.inr (by decide)) (fun q => q) (nsh hbt) ?_
  refine aw_aload_n hC dX6_init_32 rfl ?_
  refine aw_bipush hC dX6_init_33 (by decide) (by decide) ?_
  refine aw_eqT (v1 := ((7 : Nat) : Int)) rfl ?_
  refine aw_newi (len := 7) hC dX6_init_35 acl_int rfl (by decide) (by decide) (by rw [hRm]; exact Nat.le_of_ble_eq_true rfl) (by rw [hRm]; exact Nat.le_of_ble_eq_true rfl) (nsh hbt) ?_
  refine aw_putG (t := 2) (k := 8) (a := 35) inT6 rfl (by decide) tyX6_ok nmX6 hC dX6_init_37 mkRX6_23 (by decide) rfl hnm rfl rfl rfl rfl (Or.inr ⟨_, rfl⟩) (Or.inr (by decide)) (fun q => q) (nsh hbt) ?_
  refine aw_aload_n hC dX6_init_40 rfl ?_
  refine aw_bipush hC dX6_init_41 (by decide) (by decide) ?_
  refine aw_eqT (v1 := ((8 : Nat) : Int)) rfl ?_
  refine aw_newi (len := 8) hC dX6_init_43 acl_int rfl (by decide) (by decide) (by rw [hRm]; exact Nat.le_of_ble_eq_true rfl) (by rw [hRm]; exact Nat.le_of_ble_eq_true rfl) (nsh hbt) ?_
  refine aw_putG (t := 2) (k := 9) (a := 35) inT6 rfl (by decide) tyX6_ok nmX6 hC dX6_init_45 mkRX6_26 (by decide) rfl hnm rfl rfl rfl rfl (Or.inr ⟨_, rfl⟩) (Or.inr (by decide)) (fun q => q) (nsh hbt) ?_
  refine aw_aload_n hC dX6_init_48 rfl ?_
  refine aw_iconst hC dX6_init_49 (by decide) ?_
  refine aw_eqT (v1 := ((4 : Nat) : Int)) rfl ?_
  refine aw_newi (len := 4) hC dX6_init_50 acl_int rfl (by decide) (by decide) (by rw [hRm]; exact Nat.le_of_ble_eq_true rfl) (by rw [hRm]; exact Nat.le_of_ble_eq_true rfl) (nsh hbt) ?_
  refine aw_putG (t := 2) (k := 10) (a := 35) inT6 rfl (by decide) tyX6_ok nmX6 hC dX6_init_52 mkRX6_29 (by decide) rfl hnm rfl rfl rfl rfl (Or.inr ⟨_, rfl⟩) (Or.inr (by decide)) (fun q => q) (nsh hbt) ?_
  refine aw_aload_n hC dX6_init_55 rfl ?_
  refine aw_sipush hC dX6_init_56 (by decide) (by decide) ?_
  refine aw_eqT (v1 := ((2800 : Nat) : Int)) rfl ?_
  refine aw_newi (len := 2800) hC dX6_init_59 acl_int rfl (by decide) (by decide) (by rw [hRm]; exact Nat.le_of_ble_eq_true rfl) (by rw [hRm]; exact Nat.le_of_ble_eq_true rfl) (nsh hbt) ?_
  refine aw_putG (t := 2) (k := 11) (a := 35) inT6 rfl (by decide) tyX6_ok nmX6 hC dX6_init_61 mkRX6_32 (by decide) rfl hnm rfl rfl rfl rfl (Or.inr ⟨_, rfl⟩) (Or.inr (by decide)) (fun q => q) (nsh hbt) ?_
  refine aw_aload_n hC dX6_init_64 rfl ?_
  refine aw_sipush hC dX6_init_65 (by decide) (by decide) ?_
  refine aw_eqT (v1 := ((700 : Nat) : Int)) rfl ?_
  refine aw_newi (len := 700) hC dX6_init_68 acl_int rfl (by decide) (by decide) (by rw [hRm]; exact Nat.le_of_ble_eq_true rfl) (by rw [hRm]; exact Nat.le_of_ble_eq_true rfl) (nsh hbt) ?_
  refine aw_putG (t := 2) (k := 12) (a := 35) inT6 rfl (by decide) tyX6_ok nmX6 hC dX6_init_70 mkRX6_35 (by decide) rfl hnm rfl rfl rfl rfl (Or.inr ⟨_, rfl⟩) (Or.inr (by decide)) (fun q => q) (nsh hbt) ?_
  refine aw_aload_n hC dX6_init_73 rfl ?_
  refine aw_iconst hC dX6_init_74 (by decide) ?_
  refine aw_putX (t := 0) (k := 15) (a := 35) inT6 rfl (by decide) tyX6_ok nmX6 hC dX6_init_75 mkRX6_38 (by decide) rfl rfl rfl rfl rfl (Or.inr (by decide)) (fun q => q) (nsh hbt) ?_
  refine aw_aload_n hC dX6_init_78 rfl ?_
  refine aw_iconst hC dX6_init_79 (by decide) ?_
  refine aw_eqT (v1 := ((3 : Nat) : Int)) rfl ?_
  refine aw_newi (len := 3) hC dX6_init_80 acl_int rfl (by decide) (by decide) (by rw [hRm]; exact Nat.le_of_ble_eq_true rfl) (by rw [hRm]; exact Nat.le_of_ble_eq_true rfl) (nsh hbt) ?_
  refine aw_putG (t := 2) (k := 16) (a := 35) inT6 rfl (by decide) tyX6_ok nmX6 hC dX6_init_82 mkRX6_41 (by decide) rfl hnm rfl rfl rfl rfl (Or.inr ⟨_, rfl⟩) (Or.inr (by decide)) (fun q => q) (nsh hbt) ?_
  refine aw_aload_n hC dX6_init_85 rfl ?_
  refine aw_bipush hC dX6_init_86 (by decide) (by decide) ?_
  refine aw_eqT (v1 := ((64 : Nat) : Int)) rfl ?_
  refine aw_newi (len := 64) hC dX6_init_88 acl_int rfl (by decide) (by decide) (by rw [hRm]; exact Nat.le_of_ble_eq_true rfl) (by rw [hRm]; exact Nat.le_of_ble_eq_true rfl) (nsh hbt) ?_
  refine aw_putG (t := 2) (k := 36) (a := 35) inT6 rfl (by decide) tyX6_ok nmX6 hC dX6_init_90 mkRX6_44 (by decide) rfl hnm rfl rfl rfl rfl (Or.inr ⟨_, rfl⟩) (Or.inr (by decide)) (fun q => q) (nsh hbt) ?_
  refine aw_aload_n hC dX6_init_93 rfl ?_
  refine aw_bipush hC dX6_init_94 (by decide) (by decide) ?_
  refine aw_eqT (v1 := ((36 : Nat) : Int)) rfl ?_
  refine aw_newi (len := 36) hC dX6_init_96 acl_int rfl (by decide) (by decide) (by rw [hRm]; exact Nat.le_of_ble_eq_true rfl) (by rw [hRm]; exact Nat.le_of_ble_eq_true rfl) (nsh hbt) ?_
  refine aw_putG (t := 2) (k := 37) (a := 35) inT6 rfl (by decide) tyX6_ok nmX6 hC dX6_init_98 mkRX6_47 (by decide) rfl hnm rfl rfl rfl rfl (Or.inr ⟨_, rfl⟩) (Or.inr (by decide)) (fun q => q) (nsh hbt) ?_
  refine aw_aload_n hC dX6_init_101 rfl ?_
  refine aw_bipush hC dX6_init_102 (by decide) (by decide) ?_
  refine aw_eqT (v1 := ((6 : Nat) : Int)) rfl ?_
  refine aw_newi (len := 6) hC dX6_init_104 acl_int rfl (by decide) (by decide) (by rw [hRm]; exact Nat.le_of_ble_eq_true rfl) (by rw [hRm]; exact Nat.le_of_ble_eq_true rfl) (nsh hbt) ?_
  refine aw_putG (t := 2) (k := 38) (a := 35) inT6 rfl (by decide) tyX6_ok nmX6 hC dX6_init_106 mkRX6_50 (by decide) rfl hnm rfl rfl rfl rfl (Or.inr ⟨_, rfl⟩) (Or.inr (by decide)) (fun q => q) (nsh hbt) ?_
  refine aw_aload_n hC dX6_init_109 rfl ?_
  refine aw_bipush hC dX6_init_110 (by decide) (by decide) ?_
  refine aw_eqT (v1 := ((6 : Nat) : Int)) rfl ?_
  refine aw_newi (len := 6) hC dX6_init_112 acl_int rfl (by decide) (by decide) (by rw [hRm]; exact Nat.le_of_ble_eq_true rfl) (by rw [hRm]; exact Nat.le_of_ble_eq_true rfl) (nsh hbt) ?_
  refine aw_putG (t := 2) (k := 39) (a := 35) inT6 rfl (by decide) tyX6_ok nmX6 hC dX6_init_114 mkRX6_53 (by decide) rfl hnm rfl rfl rfl rfl (Or.inr ⟨_, rfl⟩) (Or.inr (by decide)) (fun q => q) (nsh hbt) ?_
  refine aw_aload_n hC dX6_init_117 rfl ?_
  refine aw_bipush hC dX6_init_118 (by decide) (by decide) ?_
  refine aw_eqT (v1 := ((6 : Nat) : Int)) rfl ?_
  refine aw_newi (len := 6) hC dX6_init_120 acl_int rfl (by decide) (by decide) (by rw [hRm]; exact Nat.le_of_ble_eq_true rfl) (by rw [hRm]; exact Nat.le_of_ble_eq_true rfl) (nsh hbt) ?_
  refine aw_putG (t := 2) (k := 40) (a := 35) inT6 rfl (by decide) tyX6_ok nmX6 hC dX6_init_122 mkRX6_56 (by decide) rfl hnm rfl rfl rfl rfl (Or.inr ⟨_, rfl⟩) (Or.inr (by decide)) (fun q => q) (nsh hbt) ?_
  refine aw_aload_n hC dX6_init_125 rfl ?_
  refine aw_bipush hC dX6_init_126 (by decide) (by decide) ?_
  refine aw_eqT (v1 := ((8 : Nat) : Int)) rfl ?_
  refine aw_newi (len := 8) hC dX6_init_128 acl_int rfl (by decide) (by decide) (by rw [hRm]; exact Nat.le_of_ble_eq_true rfl) (by rw [hRm]; exact Nat.le_of_ble_eq_true rfl) (nsh hbt) ?_
  refine aw_putG (t := 2) (k := 41) (a := 35) inT6 rfl (by decide) tyX6_ok nmX6 hC dX6_init_130 mkRX6_59 (by decide) rfl hnm rfl rfl rfl rfl (Or.inr ⟨_, rfl⟩) (Or.inr (by decide)) (fun q => q) (nsh hbt) ?_
  refine aw_aload_n hC dX6_init_133 rfl ?_
  refine aw_iconst hC dX6_init_134 (by decide) ?_
  refine aw_eqT (v1 := ((4 : Nat) : Int)) rfl ?_
  refine aw_newi (len := 4) hC dX6_init_135 acl_int rfl (by decide) (by decide) (by rw [hRm]; exact Nat.le_of_ble_eq_true rfl) (by rw [hRm]; exact Nat.le_of_ble_eq_true rfl) (nsh hbt) ?_
  refine aw_putG (t := 2) (k := 42) (a := 35) inT6 rfl (by decide) tyX6_ok nmX6 hC dX6_init_137 mkRX6_62 (by decide) rfl hnm rfl rfl rfl rfl (Or.inr ⟨_, rfl⟩) (Or.inr (by decide)) (fun q => q) (nsh hbt) ?_
  refine aw_aload_n hC dX6_init_140 rfl ?_
  refine aw_sipush hC dX6_init_141 (by decide) (by decide) ?_
  refine aw_eqT (v1 := ((2800 : Nat) : Int)) rfl ?_
  refine aw_newi (len := 2800) hC dX6_init_144 acl_int rfl (by decide) (by decide) (by rw [hRm]; exact Nat.le_of_ble_eq_true rfl) (by rw [hRm]; exact Nat.le_of_ble_eq_true rfl) (nsh hbt) ?_
  refine aw_putG (t := 2) (k := 43) (a := 35) inT6 rfl (by decide) tyX6_ok nmX6 hC dX6_init_146 mkRX6_65 (by decide) rfl hnm rfl rfl rfl rfl (Or.inr ⟨_, rfl⟩) (Or.inr (by decide)) (fun q => q) (nsh hbt) ?_
  refine aw_aload_n hC dX6_init_149 rfl ?_
  refine aw_sipush hC dX6_init_150 (by decide) (by decide) ?_
  refine aw_eqT (v1 := ((950 : Nat) : Int)) rfl ?_
  refine aw_newi (len := 950) hC dX6_init_153 acl_int rfl (by decide) (by decide) (by rw [hRm]; exact Nat.le_of_ble_eq_true rfl) (by rw [hRm]; exact Nat.le_of_ble_eq_true rfl) (nsh hbt) ?_
  refine aw_putG (t := 2) (k := 44) (a := 35) inT6 rfl (by decide) tyX6_ok nmX6 hC dX6_init_155 mkRX6_68 (by decide) rfl hnm rfl rfl rfl rfl (Or.inr ⟨_, rfl⟩) (Or.inr (by decide)) (fun q => q) (nsh hbt) ?_
  refine aw_aload_n hC dX6_init_158 rfl ?_
  refine aw_bipush hC dX6_init_159 (by decide) (by decide) ?_
  refine aw_eqT (v1 := ((9 : Nat) : Int)) rfl ?_
  refine aw_newz (len := 9) hC dX6_init_161 acl_boolean rfl (by decide) (by decide) (by rw [hRm]; exact Nat.le_of_ble_eq_true rfl) (by rw [hRm]; exact Nat.le_of_ble_eq_true rfl) (nsh hbt) ?_
  refine aw_putG (t := 2) (k := 45) (a := 35) inT6 rfl (by decide) tyX6_ok nmX6 hC dX6_init_163 mkRX6_71 (by decide) rfl hnm rfl rfl rfl rfl (Or.inr ⟨_, rfl⟩) (Or.inr (by decide)) (fun q => q) (nsh hbt) ?_
  refine aw_aload_n hC dX6_init_166 rfl ?_
  refine aw_bipush hC dX6_init_167 (by decide) (by decide) ?_
  refine aw_eqT (v1 := ((62 : Nat) : Int)) rfl ?_
  refine aw_newi (len := 62) hC dX6_init_169 acl_int rfl (by decide) (by decide) (by rw [hRm]; exact Nat.le_of_ble_eq_true rfl) (by rw [hRm]; exact Nat.le_of_ble_eq_true rfl) (nsh hbt) ?_
  refine aw_putG (t := 2) (k := 46) (a := 35) inT6 rfl (by decide) tyX6_ok nmX6 hC dX6_init_171 mkRX6_75 (by decide) rfl hnm rfl rfl rfl rfl (Or.inr ⟨_, rfl⟩) (Or.inr (by decide)) (fun q => q) (nsh hbt) ?_
  refine aw_aload_n hC dX6_init_174 rfl ?_
  refine aw_bipush hC dX6_init_175 (by decide) (by decide) ?_
  refine aw_eqT (v1 := ((62 : Nat) : Int)) rfl ?_
  refine aw_newi (len := 62) hC dX6_init_177 acl_int rfl (by decide) (by decide) (by rw [hRm]; exact Nat.le_of_ble_eq_true rfl) (by rw [hRm]; exact Nat.le_of_ble_eq_true rfl) (nsh hbt) ?_
  refine aw_putG (t := 2) (k := 47) (a := 35) inT6 rfl (by decide) tyX6_ok nmX6 hC dX6_init_179 mkRX6_78 (by decide) rfl hnm rfl rfl rfl rfl (Or.inr ⟨_, rfl⟩) (Or.inr (by decide)) (fun q => q) (nsh hbt) ?_
  refine aw_aload_n hC dX6_init_182 rfl ?_
  refine aw_sipush hC dX6_init_183 (by decide) (by decide) ?_
  refine aw_eqT (v1 := ((2480 : Nat) : Int)) rfl ?_
  refine aw_newi (len := 2480) hC dX6_init_186 acl_int rfl (by decide) (by decide) (by rw [hRm]; exact Nat.le_of_ble_eq_true rfl) (by rw [hRm]; exact Nat.le_of_ble_eq_true rfl) (nsh hbt) ?_
  refine aw_putG (t := 2) (k := 48) (a := 35) inT6 rfl (by decide) tyX6_ok nmX6 hC dX6_init_188 mkRX6_81 (by decide) rfl hnm rfl rfl rfl rfl (Or.inr ⟨_, rfl⟩) (Or.inr (by decide)) (fun q => q) (nsh hbt) ?_
  refine aw_aload_n hC dX6_init_191 rfl ?_
  refine aw_bipush hC dX6_init_192 (by decide) (by decide) ?_
  refine aw_eqT (v1 := ((64 : Nat) : Int)) rfl ?_
  refine aw_newi (len := 64) hC dX6_init_194 acl_int rfl (by decide) (by decide) (by rw [hRm]; exact Nat.le_of_ble_eq_true rfl) (by rw [hRm]; exact Nat.le_of_ble_eq_true rfl) (nsh hbt) ?_
  refine aw_putG (t := 2) (k := 50) (a := 35) inT6 rfl (by decide) tyX6_ok nmX6 hC dX6_init_196 mkRX6_84 (by decide) rfl hnm rfl rfl rfl rfl (Or.inr ⟨_, rfl⟩) (Or.inr (by decide)) (fun q => q) (nsh hbt) ?_
  refine aw_aload_n hC dX6_init_199 rfl ?_
  refine aw_iconst hC dX6_init_200 (by decide) ?_
  refine aw_putX (t := 0) (k := 51) (a := 35) inT6 rfl (by decide) tyX6_ok nmX6 hC dX6_init_201 mkRX6_87 (by decide) rfl rfl rfl rfl rfl (Or.inr (by decide)) (fun q => q) (nsh hbt) ?_
  refine aw_aload_n hC dX6_init_204 rfl ?_
  refine aw_iconst hC dX6_init_205 (by decide) ?_
  refine aw_putX (t := 0) (k := 52) (a := 35) inT6 rfl (by decide) tyX6_ok nmX6 hC dX6_init_206 mkRX6_90 (by decide) rfl rfl rfl rfl rfl (Or.inr (by decide)) (fun q => q) (nsh hbt) ?_
  refine aw_aload_n hC dX6_init_209 rfl ?_
  refine aw_iconst hC dX6_init_210 (by decide) ?_
  refine aw_putX (t := 0) (k := 53) (a := 35) inT6 rfl (by decide) tyX6_ok nmX6 hC dX6_init_211 mkRX6_93 (by decide) rfl rfl rfl rfl rfl (Or.inr (by decide)) (fun q => q) (nsh hbt) ?_
  refine aw_aload_n hC dX6_init_214 rfl ?_
  refine aw_bipush hC dX6_init_215 (by decide) (by decide) ?_
  refine aw_eqT (v1 := ((7 : Nat) : Int)) rfl ?_
  refine aw_newi (len := 7) hC dX6_init_217 acl_int rfl (by decide) (by decide) (by rw [hRm]; exact Nat.le_of_ble_eq_true rfl) (by rw [hRm]; exact Nat.le_of_ble_eq_true rfl) (nsh hbt) ?_
  refine aw_putG (t := 2) (k := 57) (a := 35) inT6 rfl (by decide) tyX6_ok nmX6 hC dX6_init_219 mkRX6_96 (by decide) rfl hnm rfl rfl rfl rfl (Or.inr ⟨_, rfl⟩) (Or.inr (by decide)) (fun q => q) (nsh hbt) ?_
  refine aw_aload_n hC dX6_init_222 rfl ?_
  refine aw_sipush hC dX6_init_223 (by decide) (by decide) ?_
  refine aw_eqT (v1 := ((950 : Nat) : Int)) rfl ?_
  refine aw_newi (len := 950) hC dX6_init_226 acl_int rfl (by decide) (by decide) (by rw [hRm]; exact Nat.le_of_ble_eq_true rfl) (by rw [hRm]; exact Nat.le_of_ble_eq_true rfl) (nsh hbt) ?_
  refine aw_putG (t := 2) (k := 58) (a := 35) inT6 rfl (by decide) tyX6_ok nmX6 hC dX6_init_228 mkRX6_99 (by decide) rfl hnm rfl rfl rfl rfl (Or.inr ⟨_, rfl⟩) (Or.inr (by decide)) (fun q => q) (nsh hbt) ?_
  refine aw_aload_n hC dX6_init_231 rfl ?_
  refine aw_iconst hC dX6_init_232 (by decide) ?_
  refine aw_putX (t := 0) (k := 59) (a := 35) inT6 rfl (by decide) tyX6_ok nmX6 hC dX6_init_233 mkRX6_102 (by decide) rfl rfl rfl rfl rfl (Or.inr (by decide)) (fun q => q) (nsh hbt) ?_
  refine aw_aload_n hC dX6_init_236 rfl ?_
  refine aw_iconst hC dX6_init_237 (by decide) ?_
  refine aw_eqT (v1 := ((2 : Nat) : Int)) rfl ?_
  refine aw_newi (len := 2) hC dX6_init_238 acl_int rfl (by decide) (by decide) (by rw [hRm]; exact Nat.le_of_ble_eq_true rfl) (by rw [hRm]; exact Nat.le_of_ble_eq_true rfl) (nsh hbt) ?_
  refine aw_putG (t := 2) (k := 60) (a := 35) inT6 rfl (by decide) tyX6_ok nmX6 hC dX6_init_240 mkRX6_105 (by decide) rfl hnm rfl rfl rfl rfl (Or.inr ⟨_, rfl⟩) (Or.inr (by decide)) (fun q => q) (nsh hbt) ?_
  refine aw_aload_n hC dX6_init_243 rfl ?_
  refine aw_bipush hC dX6_init_244 (by decide) (by decide) ?_
  refine aw_eqT (v1 := ((6 : Nat) : Int)) rfl ?_
  refine aw_newi (len := 6) hC dX6_init_246 acl_int rfl (by decide) (by decide) (by rw [hRm]; exact Nat.le_of_ble_eq_true rfl) (by rw [hRm]; exact Nat.le_of_ble_eq_true rfl) (nsh hbt) ?_
  refine aw_putG (t := 2) (k := 62) (a := 35) inT6 rfl (by decide) tyX6_ok nmX6 hC dX6_init_248 mkRX6_108 (by decide) rfl hnm rfl rfl rfl rfl (Or.inr ⟨_, rfl⟩) (Or.inr (by decide)) (fun q => q) (nsh hbt) ?_
  refine aw_aload_n hC dX6_init_251 rfl ?_
  refine aw_bipush hC dX6_init_252 (by decide) (by decide) ?_
  refine aw_eqT (v1 := ((6 : Nat) : Int)) rfl ?_
  refine aw_newi (len := 6) hC dX6_init_254 acl_int rfl (by decide) (by decide) (by rw [hRm]; exact Nat.le_of_ble_eq_true rfl) (by rw [hRm]; exact Nat.le_of_ble_eq_true rfl) (nsh hbt) ?_
  refine aw_putG (t := 2) (k := 63) (a := 35) inT6 rfl (by decide) tyX6_ok nmX6 hC dX6_init_256 mkRX6_111 (by decide) rfl hnm rfl rfl rfl rfl (Or.inr ⟨_, rfl⟩) (Or.inr (by decide)) (fun q => q) (nsh hbt) ?_
  refine aw_aload_n hC dX6_init_259 rfl ?_
  refine aw_bipush hC dX6_init_260 (by decide) (by decide) ?_
  refine aw_eqT (v1 := ((8 : Nat) : Int)) rfl ?_
  refine aw_newi (len := 8) hC dX6_init_262 acl_int rfl (by decide) (by decide) (by rw [hRm]; exact Nat.le_of_ble_eq_true rfl) (by rw [hRm]; exact Nat.le_of_ble_eq_true rfl) (nsh hbt) ?_
  refine aw_putG (t := 2) (k := 64) (a := 35) inT6 rfl (by decide) tyX6_ok nmX6 hC dX6_init_264 mkRX6_114 (by decide) rfl hnm rfl rfl rfl rfl (Or.inr ⟨_, rfl⟩) (Or.inr (by decide)) (fun q => q) (nsh hbt) ?_
  refine aw_aload_n hC dX6_init_267 rfl ?_
  refine aw_bipush hC dX6_init_268 (by decide) (by decide) ?_
  refine aw_eqT (v1 := ((12 : Nat) : Int)) rfl ?_
  refine aw_newi (len := 12) hC dX6_init_270 acl_int rfl (by decide) (by decide) (by rw [hRm]; exact Nat.le_of_ble_eq_true rfl) (by rw [hRm]; exact Nat.le_of_ble_eq_true rfl) (nsh hbt) ?_
  refine aw_putG (t := 2) (k := 66) (a := 35) inT6 rfl (by decide) tyX6_ok nmX6 hC dX6_init_272 mkRX6_117 (by decide) rfl hnm rfl rfl rfl rfl (Or.inr ⟨_, rfl⟩) (Or.inr (by decide)) (fun q => q) (nsh hbt) ?_
  refine aw_aload_n hC dX6_init_275 rfl ?_
  refine aw_bipush hC dX6_init_276 (by decide) (by decide) ?_
  refine aw_eqT (v1 := ((62 : Nat) : Int)) rfl ?_
  refine aw_newi (len := 62) hC dX6_init_278 acl_int rfl (by decide) (by decide) (by rw [hRm]; exact Nat.le_of_ble_eq_true rfl) (by rw [hRm]; exact Nat.le_of_ble_eq_true rfl) (nsh hbt) ?_
  refine aw_putG (t := 2) (k := 71) (a := 35) inT6 rfl (by decide) tyX6_ok nmX6 hC dX6_init_280 mkRX6_120 (by decide) rfl hnm rfl rfl rfl rfl (Or.inr ⟨_, rfl⟩) (Or.inr (by decide)) (fun q => q) (nsh hbt) ?_
  refine aw_aload_n hC dX6_init_283 rfl ?_
  refine aw_sipush hC dX6_init_284 (by decide) (by decide) ?_
  refine aw_eqT (v1 := ((2480 : Nat) : Int)) rfl ?_
  refine aw_newi (len := 2480) hC dX6_init_287 acl_int rfl (by decide) (by decide) (by rw [hRm]; exact Nat.le_of_ble_eq_true rfl) (by rw [hRm]; exact Nat.le_of_ble_eq_true rfl) (nsh hbt) ?_
  refine aw_putG (t := 2) (k := 72) (a := 35) inT6 rfl (by decide) tyX6_ok nmX6 hC dX6_init_289 mkRX6_123 (by decide) rfl hnm rfl rfl rfl rfl (Or.inr ⟨_, rfl⟩) (Or.inr (by decide)) (fun q => q) (nsh hbt) ?_
  refine aw_aload_n hC dX6_init_292 rfl ?_
  refine aw_bipush hC dX6_init_293 (by decide) (by decide) ?_
  refine aw_eqT (v1 := ((12 : Nat) : Int)) rfl ?_
  refine aw_newi (len := 12) hC dX6_init_295 acl_int rfl (by decide) (by decide) (by rw [hRm]; exact Nat.le_of_ble_eq_true rfl) (by rw [hRm]; exact Nat.le_of_ble_eq_true rfl) (nsh hbt) ?_
  refine aw_putG (t := 2) (k := 73) (a := 35) inT6 rfl (by decide) tyX6_ok nmX6 hC dX6_init_297 mkRX6_126 (by decide) rfl hnm rfl rfl rfl rfl (Or.inr ⟨_, rfl⟩) (Or.inr (by decide)) (fun q => q) (nsh hbt) ?_
  refine aw_iconst hC dX6_init_300 (by decide) ?_
  refine aw_istore1 hC dX6_init_301 rfl ?_
  refine aw_iload_n hC dX6_init_302 rfl ?_
  refine aw_bipush hC dX6_init_303 (by decide) (by decide) ?_
  refine aw_icmp_ge (tgt := 323) hC dX6_init_305 (by decide) (fun c9 => ?_) (fun c9 => ?_)
  · exact absurd c9 (by decide)
  refine aw_aload_n hC dX6_init_308 rfl ?_
  refine aw_g6r (k := 46) (a := 35) hC dX6_init_309 mkRX6_75 (by decide) rfl rfl rfl (Or.inr (by decide)) ?_
  refine aw_eqT (v1 := ((54 : Nat) : Int)) rfl ?_
  refine aw_iconst hC dX6_init_312 (by decide) ?_
  refine aw_iload_n hC dX6_init_313 rfl ?_
  refine aw_iadd hC dX6_init_314 ?_
  show AW G X _ [(2, (((35 : Nat)) : Int)), (0, 0)] [(0, 0), (2, (((54 : Nat)) : Int))] _ _ _ _
  refine aw_iconst hC dX6_init_315 (by decide) ?_
  refine aw_iastore (a := 54) hC dX6_init_316 rfl rfl (Or.inr (by decide)) (by decide) (by decide) ?_
  refine aw_eqH (h1 := st _ 54 0 (-1)) rfl ?_
  refine aw_iinc1 hC dX6_init_317 rfl ?_
  show AW G X _ [(2, (((35 : Nat)) : Int)), (0, 1)] [] _ _ _ _
  refine aw_goto (tgt := 302) hC dX6_init_320 (by decide) ?_
  refine aw_iload_n hC dX6_init_302 rfl ?_
  refine aw_bipush hC dX6_init_303 (by decide) (by decide) ?_
  refine aw_icmp_ge (tgt := 323) hC dX6_init_305 (by decide) (fun c9 => ?_) (fun c9 => ?_)
  · exact absurd c9 (by decide)
  refine aw_aload_n hC dX6_init_308 rfl ?_
  refine aw_g6r (k := 46) (a := 35) hC dX6_init_309 mkRX6_75 (by decide) rfl rfl rfl (Or.inr (by decide)) ?_
  refine aw_eqT (v1 := ((54 : Nat) : Int)) rfl ?_
  refine aw_iconst hC dX6_init_312 (by decide) ?_
  refine aw_iload_n hC dX6_init_313 rfl ?_
  refine aw_iadd hC dX6_init_314 ?_
  show AW G X _ [(2, (((35 : Nat)) : Int)), (0, 1)] [(0, 1), (2, (((54 : Nat)) : Int))] _ _ _ _
  refine aw_iconst hC dX6_init_315 (by decide) ?_
  refine aw_iastore (a := 54) hC dX6_init_316 rfl rfl (Or.inr (by decide)) (by decide) (by decide) ?_
  refine aw_eqH (h1 := st _ 54 1 (-1)) rfl ?_
  refine aw_iinc1 hC dX6_init_317 rfl ?_
  show AW G X _ [(2, (((35 : Nat)) : Int)), (0, 2)] [] _ _ _ _
  refine aw_goto (tgt := 302) hC dX6_init_320 (by decide) ?_
  refine aw_iload_n hC dX6_init_302 rfl ?_
  refine aw_bipush hC dX6_init_303 (by decide) (by decide) ?_
  refine aw_icmp_ge (tgt := 323) hC dX6_init_305 (by decide) (fun c9 => ?_) (fun c9 => ?_)
  · exact absurd c9 (by decide)
  refine aw_aload_n hC dX6_init_308 rfl ?_
  refine aw_g6r (k := 46) (a := 35) hC dX6_init_309 mkRX6_75 (by decide) rfl rfl rfl (Or.inr (by decide)) ?_
  refine aw_eqT (v1 := ((54 : Nat) : Int)) rfl ?_
  refine aw_iconst hC dX6_init_312 (by decide) ?_
  refine aw_iload_n hC dX6_init_313 rfl ?_
  refine aw_iadd hC dX6_init_314 ?_
  show AW G X _ [(2, (((35 : Nat)) : Int)), (0, 2)] [(0, 2), (2, (((54 : Nat)) : Int))] _ _ _ _
  refine aw_iconst hC dX6_init_315 (by decide) ?_
  refine aw_iastore (a := 54) hC dX6_init_316 rfl rfl (Or.inr (by decide)) (by decide) (by decide) ?_
  refine aw_eqH (h1 := st _ 54 2 (-1)) rfl ?_
  refine aw_iinc1 hC dX6_init_317 rfl ?_
  show AW G X _ [(2, (((35 : Nat)) : Int)), (0, 3)] [] _ _ _ _
  refine aw_goto (tgt := 302) hC dX6_init_320 (by decide) ?_
  refine aw_iload_n hC dX6_init_302 rfl ?_
  refine aw_bipush hC dX6_init_303 (by decide) (by decide) ?_
  refine aw_icmp_ge (tgt := 323) hC dX6_init_305 (by decide) (fun c9 => ?_) (fun c9 => ?_)
  · exact absurd c9 (by decide)
  refine aw_aload_n hC dX6_init_308 rfl ?_
  refine aw_g6r (k := 46) (a := 35) hC dX6_init_309 mkRX6_75 (by decide) rfl rfl rfl (Or.inr (by decide)) ?_
  refine aw_eqT (v1 := ((54 : Nat) : Int)) rfl ?_
  refine aw_iconst hC dX6_init_312 (by decide) ?_
  refine aw_iload_n hC dX6_init_313 rfl ?_
  refine aw_iadd hC dX6_init_314 ?_
  show AW G X _ [(2, (((35 : Nat)) : Int)), (0, 3)] [(0, 3), (2, (((54 : Nat)) : Int))] _ _ _ _
  refine aw_iconst hC dX6_init_315 (by decide) ?_
  refine aw_iastore (a := 54) hC dX6_init_316 rfl rfl (Or.inr (by decide)) (by decide) (by decide) ?_
  refine aw_eqH (h1 := st _ 54 3 (-1)) rfl ?_
  refine aw_iinc1 hC dX6_init_317 rfl ?_
  show AW G X _ [(2, (((35 : Nat)) : Int)), (0, 4)] [] _ _ _ _
  refine aw_goto (tgt := 302) hC dX6_init_320 (by decide) ?_
  refine aw_iload_n hC dX6_init_302 rfl ?_
  refine aw_bipush hC dX6_init_303 (by decide) (by decide) ?_
  refine aw_icmp_ge (tgt := 323) hC dX6_init_305 (by decide) (fun c9 => ?_) (fun c9 => ?_)
  · exact absurd c9 (by decide)
  refine aw_aload_n hC dX6_init_308 rfl ?_
  refine aw_g6r (k := 46) (a := 35) hC dX6_init_309 mkRX6_75 (by decide) rfl rfl rfl (Or.inr (by decide)) ?_
  refine aw_eqT (v1 := ((54 : Nat) : Int)) rfl ?_
  refine aw_iconst hC dX6_init_312 (by decide) ?_
  refine aw_iload_n hC dX6_init_313 rfl ?_
  refine aw_iadd hC dX6_init_314 ?_
  show AW G X _ [(2, (((35 : Nat)) : Int)), (0, 4)] [(0, 4), (2, (((54 : Nat)) : Int))] _ _ _ _
  refine aw_iconst hC dX6_init_315 (by decide) ?_
  refine aw_iastore (a := 54) hC dX6_init_316 rfl rfl (Or.inr (by decide)) (by decide) (by decide) ?_
  refine aw_eqH (h1 := st _ 54 4 (-1)) rfl ?_
  refine aw_iinc1 hC dX6_init_317 rfl ?_
  show AW G X _ [(2, (((35 : Nat)) : Int)), (0, 5)] [] _ _ _ _
  refine aw_goto (tgt := 302) hC dX6_init_320 (by decide) ?_
  refine aw_iload_n hC dX6_init_302 rfl ?_
  refine aw_bipush hC dX6_init_303 (by decide) (by decide) ?_
  refine aw_icmp_ge (tgt := 323) hC dX6_init_305 (by decide) (fun c9 => ?_) (fun c9 => ?_)
  · exact absurd c9 (by decide)
  refine aw_aload_n hC dX6_init_308 rfl ?_
  refine aw_g6r (k := 46) (a := 35) hC dX6_init_309 mkRX6_75 (by decide) rfl rfl rfl (Or.inr (by decide)) ?_
  refine aw_eqT (v1 := ((54 : Nat) : Int)) rfl ?_
  refine aw_iconst hC dX6_init_312 (by decide) ?_
  refine aw_iload_n hC dX6_init_313 rfl ?_
  refine aw_iadd hC dX6_init_314 ?_
  show AW G X _ [(2, (((35 : Nat)) : Int)), (0, 5)] [(0, 5), (2, (((54 : Nat)) : Int))] _ _ _ _
  refine aw_iconst hC dX6_init_315 (by decide) ?_
  refine aw_iastore (a := 54) hC dX6_init_316 rfl rfl (Or.inr (by decide)) (by decide) (by decide) ?_
  refine aw_eqH (h1 := st _ 54 5 (-1)) rfl ?_
  refine aw_iinc1 hC dX6_init_317 rfl ?_
  show AW G X _ [(2, (((35 : Nat)) : Int)), (0, 6)] [] _ _ _ _
  refine aw_goto (tgt := 302) hC dX6_init_320 (by decide) ?_
  refine aw_iload_n hC dX6_init_302 rfl ?_
  refine aw_bipush hC dX6_init_303 (by decide) (by decide) ?_
  refine aw_icmp_ge (tgt := 323) hC dX6_init_305 (by decide) (fun c9 => ?_) (fun c9 => ?_)
  · exact absurd c9 (by decide)
  refine aw_aload_n hC dX6_init_308 rfl ?_
  refine aw_g6r (k := 46) (a := 35) hC dX6_init_309 mkRX6_75 (by decide) rfl rfl rfl (Or.inr (by decide)) ?_
  refine aw_eqT (v1 := ((54 : Nat) : Int)) rfl ?_
  refine aw_iconst hC dX6_init_312 (by decide) ?_
  refine aw_iload_n hC dX6_init_313 rfl ?_
  refine aw_iadd hC dX6_init_314 ?_
  show AW G X _ [(2, (((35 : Nat)) : Int)), (0, 6)] [(0, 6), (2, (((54 : Nat)) : Int))] _ _ _ _
  refine aw_iconst hC dX6_init_315 (by decide) ?_
  refine aw_iastore (a := 54) hC dX6_init_316 rfl rfl (Or.inr (by decide)) (by decide) (by decide) ?_
  refine aw_eqH (h1 := st _ 54 6 (-1)) rfl ?_
  refine aw_iinc1 hC dX6_init_317 rfl ?_
  show AW G X _ [(2, (((35 : Nat)) : Int)), (0, 7)] [] _ _ _ _
  refine aw_goto (tgt := 302) hC dX6_init_320 (by decide) ?_
  refine aw_iload_n hC dX6_init_302 rfl ?_
  refine aw_bipush hC dX6_init_303 (by decide) (by decide) ?_
  refine aw_icmp_ge (tgt := 323) hC dX6_init_305 (by decide) (fun c9 => ?_) (fun c9 => ?_)
  · exact absurd c9 (by decide)
  refine aw_aload_n hC dX6_init_308 rfl ?_
  refine aw_g6r (k := 46) (a := 35) hC dX6_init_309 mkRX6_75 (by decide) rfl rfl rfl (Or.inr (by decide)) ?_
  refine aw_eqT (v1 := ((54 : Nat) : Int)) rfl ?_
  refine aw_iconst hC dX6_init_312 (by decide) ?_
  refine aw_iload_n hC dX6_init_313 rfl ?_
  refine aw_iadd hC dX6_init_314 ?_
  show AW G X _ [(2, (((35 : Nat)) : Int)), (0, 7)] [(0, 7), (2, (((54 : Nat)) : Int))] _ _ _ _
  refine aw_iconst hC dX6_init_315 (by decide) ?_
  refine aw_iastore (a := 54) hC dX6_init_316 rfl rfl (Or.inr (by decide)) (by decide) (by decide) ?_
  refine aw_eqH (h1 := st _ 54 7 (-1)) rfl ?_
  refine aw_iinc1 hC dX6_init_317 rfl ?_
  show AW G X _ [(2, (((35 : Nat)) : Int)), (0, 8)] [] _ _ _ _
  refine aw_goto (tgt := 302) hC dX6_init_320 (by decide) ?_
  refine aw_iload_n hC dX6_init_302 rfl ?_
  refine aw_bipush hC dX6_init_303 (by decide) (by decide) ?_
  refine aw_icmp_ge (tgt := 323) hC dX6_init_305 (by decide) (fun c9 => ?_) (fun c9 => ?_)
  · exact absurd c9 (by decide)
  refine aw_aload_n hC dX6_init_308 rfl ?_
  refine aw_g6r (k := 46) (a := 35) hC dX6_init_309 mkRX6_75 (by decide) rfl rfl rfl (Or.inr (by decide)) ?_
  refine aw_eqT (v1 := ((54 : Nat) : Int)) rfl ?_
  refine aw_iconst hC dX6_init_312 (by decide) ?_
  refine aw_iload_n hC dX6_init_313 rfl ?_
  refine aw_iadd hC dX6_init_314 ?_
  show AW G X _ [(2, (((35 : Nat)) : Int)), (0, 8)] [(0, 8), (2, (((54 : Nat)) : Int))] _ _ _ _
  refine aw_iconst hC dX6_init_315 (by decide) ?_
  refine aw_iastore (a := 54) hC dX6_init_316 rfl rfl (Or.inr (by decide)) (by decide) (by decide) ?_
  refine aw_eqH (h1 := st _ 54 8 (-1)) rfl ?_
  refine aw_iinc1 hC dX6_init_317 rfl ?_
  show AW G X _ [(2, (((35 : Nat)) : Int)), (0, 9)] [] _ _ _ _
  refine aw_goto (tgt := 302) hC dX6_init_320 (by decide) ?_
  refine aw_iload_n hC dX6_init_302 rfl ?_
  refine aw_bipush hC dX6_init_303 (by decide) (by decide) ?_
  refine aw_icmp_ge (tgt := 323) hC dX6_init_305 (by decide) (fun c9 => ?_) (fun c9 => ?_)
  · exact absurd c9 (by decide)
  refine aw_aload_n hC dX6_init_308 rfl ?_
  refine aw_g6r (k := 46) (a := 35) hC dX6_init_309 mkRX6_75 (by decide) rfl rfl rfl (Or.inr (by decide)) ?_
  refine aw_eqT (v1 := ((54 : Nat) : Int)) rfl ?_
  refine aw_iconst hC dX6_init_312 (by decide) ?_
  refine aw_iload_n hC dX6_init_313 rfl ?_
  refine aw_iadd hC dX6_init_314 ?_
  show AW G X _ [(2, (((35 : Nat)) : Int)), (0, 9)] [(0, 9), (2, (((54 : Nat)) : Int))] _ _ _ _
  refine aw_iconst hC dX6_init_315 (by decide) ?_
  refine aw_iastore (a := 54) hC dX6_init_316 rfl rfl (Or.inr (by decide)) (by decide) (by decide) ?_
  refine aw_eqH (h1 := st _ 54 9 (-1)) rfl ?_
  refine aw_iinc1 hC dX6_init_317 rfl ?_
  show AW G X _ [(2, (((35 : Nat)) : Int)), (0, 10)] [] _ _ _ _
  refine aw_goto (tgt := 302) hC dX6_init_320 (by decide) ?_
  refine aw_iload_n hC dX6_init_302 rfl ?_
  refine aw_bipush hC dX6_init_303 (by decide) (by decide) ?_
  refine aw_icmp_ge (tgt := 323) hC dX6_init_305 (by decide) (fun c9 => ?_) (fun c9 => ?_)
  · exact absurd c9 (by decide)
  refine aw_aload_n hC dX6_init_308 rfl ?_
  refine aw_g6r (k := 46) (a := 35) hC dX6_init_309 mkRX6_75 (by decide) rfl rfl rfl (Or.inr (by decide)) ?_
  refine aw_eqT (v1 := ((54 : Nat) : Int)) rfl ?_
  refine aw_iconst hC dX6_init_312 (by decide) ?_
  refine aw_iload_n hC dX6_init_313 rfl ?_
  refine aw_iadd hC dX6_init_314 ?_
  show AW G X _ [(2, (((35 : Nat)) : Int)), (0, 10)] [(0, 10), (2, (((54 : Nat)) : Int))] _ _ _ _
  refine aw_iconst hC dX6_init_315 (by decide) ?_
  refine aw_iastore (a := 54) hC dX6_init_316 rfl rfl (Or.inr (by decide)) (by decide) (by decide) ?_
  refine aw_eqH (h1 := st _ 54 10 (-1)) rfl ?_
  refine aw_iinc1 hC dX6_init_317 rfl ?_
  show AW G X _ [(2, (((35 : Nat)) : Int)), (0, 11)] [] _ _ _ _
  refine aw_goto (tgt := 302) hC dX6_init_320 (by decide) ?_
  refine aw_iload_n hC dX6_init_302 rfl ?_
  refine aw_bipush hC dX6_init_303 (by decide) (by decide) ?_
  refine aw_icmp_ge (tgt := 323) hC dX6_init_305 (by decide) (fun c9 => ?_) (fun c9 => ?_)
  · exact absurd c9 (by decide)
  refine aw_aload_n hC dX6_init_308 rfl ?_
  refine aw_g6r (k := 46) (a := 35) hC dX6_init_309 mkRX6_75 (by decide) rfl rfl rfl (Or.inr (by decide)) ?_
  refine aw_eqT (v1 := ((54 : Nat) : Int)) rfl ?_
  refine aw_iconst hC dX6_init_312 (by decide) ?_
  refine aw_iload_n hC dX6_init_313 rfl ?_
  refine aw_iadd hC dX6_init_314 ?_
  show AW G X _ [(2, (((35 : Nat)) : Int)), (0, 11)] [(0, 11), (2, (((54 : Nat)) : Int))] _ _ _ _
  refine aw_iconst hC dX6_init_315 (by decide) ?_
  refine aw_iastore (a := 54) hC dX6_init_316 rfl rfl (Or.inr (by decide)) (by decide) (by decide) ?_
  refine aw_eqH (h1 := st _ 54 11 (-1)) rfl ?_
  refine aw_iinc1 hC dX6_init_317 rfl ?_
  show AW G X _ [(2, (((35 : Nat)) : Int)), (0, 12)] [] _ _ _ _
  refine aw_goto (tgt := 302) hC dX6_init_320 (by decide) ?_
  refine aw_iload_n hC dX6_init_302 rfl ?_
  refine aw_bipush hC dX6_init_303 (by decide) (by decide) ?_
  refine aw_icmp_ge (tgt := 323) hC dX6_init_305 (by decide) (fun c9 => ?_) (fun c9 => ?_)
  rotate_left
  · exact absurd (show (12 : Int) ≤ 12 by decide) c9
  refine aw_aload_n hC dX6_init_323 rfl ?_
  refine aw_g6r (k := 46) (a := 35) hC dX6_init_324 mkRX6_75 (by decide) rfl rfl rfl (Or.inr (by decide)) ?_
  refine aw_eqT (v1 := ((54 : Nat) : Int)) rfl ?_
  refine aw_bipush hC dX6_init_327 (by decide) (by decide) ?_
  refine aw_iconst hC dX6_init_329 (by decide) ?_
  refine aw_iastore (a := 54) hC dX6_init_330 rfl rfl (Or.inr (by decide)) (by decide) (by decide) ?_
  refine aw_eqH (h1 := st _ 54 60 (-1)) rfl ?_
  exact aw_return hC hZ (Nat.le_of_ble_eq_true rfl) (Nat.le_of_ble_eq_true rfl) hr dX6_init_331 ⟨rfl, rfl, rfl⟩
