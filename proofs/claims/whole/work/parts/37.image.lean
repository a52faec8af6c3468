def cpA (d s : Nat) (h : Hp) : Hp :=
  let h1 := cpy h (s + 1) (d + 1) 0 0 62
  let h2 := cpy h1 (s + 2) (d + 2) 0 0 2480
  let h3 := st h2 d 2 (h2 s 2)
  let h4 := st h3 d 3 (h3 s 3)
  let h5 := cpy h4 (s + 3) (d + 3) 0 0 6
  let h6 := cpy h5 (s + 4) (d + 4) 0 0 6
  st h6 d 6 (h6 s 6)
section Nulls
variable {G : GD} {X : CX} {own : String} {cc : ByteArray} {pc : Nat} {ls sk : List Av} {n : Nat} {h : Hp} {cs ss : Nat} {x off : Int} {tgt : Nat}
theorem aw_ifnn (hC : Cx G X own cc) (hd : decode cc pc = .ok (.ifnonnull off, 3)) (ht : (pc : Int) + off = (tgt : Int)) (k1 : 0 ≤ x → AW G X tgt ls sk n h cs ss) (k2 : x < 0 → AW G X (pc + 3) ls sk n h cs ss) : AW G X pc ls ((2, x) :: sk) n h cs ss := by
  intro ad H locs lr hR hl hm hs
  rw [List.map_cons]
  by_cases h0 : x < 0
  · have e : rv G ad (2, x) = .null := by
      show rf ad x = _
      unfold rf
      rw [if_pos h0]
    rw [e]
    exact lv_ifnonnullN hC.1 hC.2.1 hd (k2 h0 ad H locs lr hR hl hm (ok1 hs))
  · have e : rv G ad (2, x) = .ref (ad x.toNat) := by
      show rf ad x = _
      unfold rf
      rw [if_neg h0]
    rw [e]
    exact lv_ifnonnull hC.1 hC.2.1 hd ht (k1 (by omega) ad H locs lr hR hl hm (ok1 hs))
end Nulls
theorem ok_copyOf_69 {G : GD} {h : Hp} (h05 : h 0 5 = 69) : Con G yX0_copyOf cX0_copyOf 2 none 1 0 0 true [(2, ((69 : Nat) : Int)), (2, ((26 : Nat) : Int))] 74 h (FQ 8 74 (0, cpA 69 26 h)) := by
  refine con_of (pad := 0) (own := RX0) (plainFor_of_name (by decide)) rfl rfl ?_
  intro X hC hbt hr hnm hZ hRm hn0
  show AW G X 0 [(2, ((69 : Nat) : Int)), (2, ((26 : Nat) : Int))] [] 74 h 0 0
  refine aw_aload_n hC dX0_copyOf_0 rfl ?_
  refine aw_gc0 (k := 0) (a := 26) (b := 27) hC hbt dX0_copyOf_1 mkRX0_9 (by decide) rfl rfl rfl (by decide) (by decide) ?_
  refine aw_iconst hC dX0_copyOf_4 (by decide) ?_
  refine aw_aload_n hC dX0_copyOf_5 rfl ?_
  refine aw_gk0 (k := 0) (a := 69) (b := 70) hC hbt (by exact h05) dX0_copyOf_6 mkRX0_9 (by decide) rfl rfl rfl (by decide) (by decide) ?_
  refine aw_iconst hC dX0_copyOf_9 (by decide) ?_
  refine aw_bipush hC dX0_copyOf_10 (by decide) (by decide) ?_
  refine aw_copyi (a0 := 27) (a1 := 70) hC hRm (Nat.le_of_ble_eq_true rfl) dX0_copyOf_12 cplRX0_29 rfl rfl rfl rfl (Or.inr (by decide)) (Or.inr (by decide)) (by decide) (Nat.le_of_ble_eq_true rfl) ?_
  refine aw_aload_n hC dX0_copyOf_15 rfl ?_
  refine aw_gc0 (k := 1) (a := 26) (b := 28) hC hbt dX0_copyOf_16 mkRX0_15 (by decide) rfl rfl rfl (by decide) (by decide) ?_
  refine aw_iconst hC dX0_copyOf_19 (by decide) ?_
  refine aw_aload_n hC dX0_copyOf_20 rfl ?_
  refine aw_gk0 (k := 1) (a := 69) (b := 71) hC hbt (by exact h05) dX0_copyOf_21 mkRX0_15 (by decide) rfl rfl rfl (by decide) (by decide) ?_
  refine aw_iconst hC dX0_copyOf_24 (by decide) ?_
  refine aw_aload_n hC dX0_copyOf_25 rfl ?_
  refine aw_gk0 (k := 1) (a := 69) (b := 71) hC hbt (by exact h05) dX0_copyOf_26 mkRX0_15 (by decide) rfl rfl rfl (by decide) (by decide) ?_
  refine aw_alen (a := 71) hC dX0_copyOf_29 rfl rfl (by decide) (by decide) (Or.inr (by decide)) ?_
  refine aw_copyi (a0 := 28) (a1 := 71) hC hRm (Nat.le_of_ble_eq_true rfl) dX0_copyOf_30 cplRX0_29 rfl rfl rfl rfl (Or.inr (by decide)) (Or.inr (by decide)) (by decide) (Nat.le_of_ble_eq_true rfl) ?_
  refine aw_aload_n hC dX0_copyOf_33 rfl ?_
  refine aw_aload_n hC dX0_copyOf_34 rfl ?_
  refine aw_g0i (k := 2) (a := 26) hC dX0_copyOf_35 lkRX0_35 (by decide) rfl rfl rfl (Or.inr (by decide)) ?_
  refine aw_p0i (k := 2) (a := 69) hC dX0_copyOf_38 lkRX0_35 (by decide) rfl rfl rfl rfl rfl (Or.inr (by decide)) (fun _ => by decide) ?_
  refine aw_aload_n hC dX0_copyOf_41 rfl ?_
  refine aw_aload_n hC dX0_copyOf_42 rfl ?_
  refine aw_g0i (k := 3) (a := 26) hC dX0_copyOf_43 lkRX0_39 (by decide) rfl rfl rfl (Or.inr (by decide)) ?_
  refine aw_p0i (k := 3) (a := 69) hC dX0_copyOf_46 lkRX0_39 (by decide) rfl rfl rfl rfl rfl (Or.inr (by decide)) (fun _ => by decide) ?_
  refine aw_aload_n hC dX0_copyOf_49 rfl ?_
  refine aw_gc0 (k := 4) (a := 26) (b := 29) hC hbt dX0_copyOf_50 mkRX0_18 (by decide) rfl rfl rfl (by decide) (by decide) ?_
  refine aw_iconst hC dX0_copyOf_53 (by decide) ?_
  refine aw_aload_n hC dX0_copyOf_54 rfl ?_
  refine aw_gk0 (k := 4) (a := 69) (b := 72) hC hbt (by exact h05) dX0_copyOf_55 mkRX0_18 (by decide) rfl rfl rfl (by decide) (by decide) ?_
  refine aw_iconst hC dX0_copyOf_58 (by decide) ?_
  refine aw_bipush hC dX0_copyOf_59 (by decide) (by decide) ?_
  refine aw_copyi (a0 := 29) (a1 := 72) hC hRm (Nat.le_of_ble_eq_true rfl) dX0_copyOf_61 cplRX0_29 rfl rfl rfl rfl (Or.inr (by decide)) (Or.inr (by decide)) (by decide) (Nat.le_of_ble_eq_true rfl) ?_
  refine aw_aload_n hC dX0_copyOf_64 rfl ?_
  refine aw_gc0 (k := 5) (a := 26) (b := 30) hC hbt dX0_copyOf_65 mkRX0_21 (by decide) rfl rfl rfl (by decide) (by decide) ?_
  refine aw_iconst hC dX0_copyOf_68 (by decide) ?_
  refine aw_aload_n hC dX0_copyOf_69 rfl ?_
  refine aw_gk0 (k := 5) (a := 69) (b := 73) hC hbt (by exact h05) dX0_copyOf_70 mkRX0_21 (by decide) rfl rfl rfl (by decide) (by decide) ?_
  refine aw_iconst hC dX0_copyOf_73 (by decide) ?_
  refine aw_bipush hC dX0_copyOf_74 (by decide) (by decide) ?_
  refine aw_copyi (a0 := 30) (a1 := 73) hC hRm (Nat.le_of_ble_eq_true rfl) dX0_copyOf_76 cplRX0_29 rfl rfl rfl rfl (Or.inr (by decide)) (Or.inr (by decide)) (by decide) (Nat.le_of_ble_eq_true rfl) ?_
  refine aw_aload_n hC dX0_copyOf_79 rfl ?_
  refine aw_aload_n hC dX0_copyOf_80 rfl ?_
  refine aw_g0i (k := 6) (a := 26) hC dX0_copyOf_81 lkRX0_42 (by decide) rfl rfl rfl (Or.inr (by decide)) ?_
  refine aw_p0i (k := 6) (a := 69) hC dX0_copyOf_84 lkRX0_42 (by decide) rfl rfl rfl rfl rfl (Or.inr (by decide)) (fun _ => by decide) ?_
  exact aw_return hC hZ (Nat.zero_le _) (Nat.zero_le _) hr dX0_copyOf_87 ⟨rfl, rfl, rfl⟩
theorem ok_copyOf_26 {G : GD} {h : Hp} (h05 : h 0 5 = 69) : Con G yX0_copyOf cX0_copyOf 2 none 1 0 0 true [(2, ((26 : Nat) : Int)), (2, ((69 : Nat) : Int))] 74 h (FQ 8 74 (0, cpA 26 69 h)) := by
  refine con_of (pad := 0) (own := RX0) (plainFor_of_name (by decide)) rfl rfl ?_
  intro X hC hbt hr hnm hZ hRm hn0
  show AW G X 0 [(2, ((26 : Nat) : Int)), (2, ((69 : Nat) : Int))] [] 74 h 0 0
  refine aw_aload_n hC dX0_copyOf_0 rfl ?_
  refine aw_gk0 (k := 0) (a := 69) (b := 70) hC hbt (by exact h05) dX0_copyOf_1 mkRX0_9 (by decide) rfl rfl rfl (by decide) (by decide) ?_
  refine aw_iconst hC dX0_copyOf_4 (by decide) ?_
  refine aw_aload_n hC dX0_copyOf_5 rfl ?_
  refine aw_gc0 (k := 0) (a := 26) (b := 27) hC hbt dX0_copyOf_6 mkRX0_9 (by decide) rfl rfl rfl (by decide) (by decide) ?_
  refine aw_iconst hC dX0_copyOf_9 (by decide) ?_
  refine aw_bipush hC dX0_copyOf_10 (by decide) (by decide) ?_
  refine aw_copyi (a0 := 70) (a1 := 27) hC hRm (Nat.le_of_ble_eq_true rfl) dX0_copyOf_12 cplRX0_29 rfl rfl rfl rfl (Or.inr (by decide)) (Or.inr (by decide)) (by decide) (Nat.le_of_ble_eq_true rfl) ?_
  refine aw_aload_n hC dX0_copyOf_15 rfl ?_
  refine aw_gk0 (k := 1) (a := 69) (b := 71) hC hbt (by exact h05) dX0_copyOf_16 mkRX0_15 (by decide) rfl rfl rfl (by decide) (by decide) ?_
  refine aw_iconst hC dX0_copyOf_19 (by decide) ?_
  refine aw_aload_n hC dX0_copyOf_20 rfl ?_
  refine aw_gc0 (k := 1) (a := 26) (b := 28) hC hbt dX0_copyOf_21 mkRX0_15 (by decide) rfl rfl rfl (by decide) (by decide) ?_
  refine aw_iconst hC dX0_copyOf_24 (by decide) ?_
  refine aw_aload_n hC dX0_copyOf_25 rfl ?_
  refine aw_gc0 (k := 1) (a := 26) (b := 28) hC hbt dX0_copyOf_26 mkRX0_15 (by decide) rfl rfl rfl (by decide) (by decide) ?_
  refine aw_alen (a := 28) hC dX0_copyOf_29 rfl rfl (by decide) (by decide) (Or.inr (by decide)) ?_
  refine aw_copyi (a0 := 71) (a1 := 28) hC hRm (Nat.le_of_ble_eq_true rfl) dX0_copyOf_30 cplRX0_29 rfl rfl rfl rfl (Or.inr (by decide)) (Or.inr (by decide)) (by decide) (Nat.le_of_ble_eq_true rfl) ?_
  refine aw_aload_n hC dX0_copyOf_33 rfl ?_
  refine aw_aload_n hC dX0_copyOf_34 rfl ?_
  refine aw_g0i (k := 2) (a := 69) hC dX0_copyOf_35 lkRX0_35 (by decide) rfl rfl rfl (Or.inr (by decide)) ?_
  refine aw_p0i (k := 2) (a := 26) hC dX0_copyOf_38 lkRX0_35 (by decide) rfl rfl rfl rfl rfl (Or.inr (by decide)) (fun _ => by decide) ?_
  refine aw_aload_n hC dX0_copyOf_41 rfl ?_
  refine aw_aload_n hC dX0_copyOf_42 rfl ?_
  refine aw_g0i (k := 3) (a := 69) hC dX0_copyOf_43 lkRX0_39 (by decide) rfl rfl rfl (Or.inr (by decide)) ?_
  refine aw_p0i (k := 3) (a := 26) hC dX0_copyOf_46 lkRX0_39 (by decide) rfl rfl rfl rfl rfl (Or.inr (by decide)) (fun _ => by decide) ?_
  refine aw_aload_n hC dX0_copyOf_49 rfl ?_
  refine aw_gk0 (k := 4) (a := 69) (b := 72) hC hbt (by exact h05) dX0_copyOf_50 mkRX0_18 (by decide) rfl rfl rfl (by decide) (by decide) ?_
  refine aw_iconst hC dX0_copyOf_53 (by decide) ?_
  refine aw_aload_n hC dX0_copyOf_54 rfl ?_
  refine aw_gc0 (k := 4) (a := 26) (b := 29) hC hbt dX0_copyOf_55 mkRX0_18 (by decide) rfl rfl rfl (by decide) (by decide) ?_
  refine aw_iconst hC dX0_copyOf_58 (by decide) ?_
  refine aw_bipush hC dX0_copyOf_59 (by decide) (by decide) ?_
  refine aw_copyi (a0 := 72) (a1 := 29) hC hRm (Nat.le_of_ble_eq_true rfl) dX0_copyOf_61 cplRX0_29 rfl rfl rfl rfl (Or.inr (by decide)) (Or.inr (by decide)) (by decide) (Nat.le_of_ble_eq_true rfl) ?_
  refine aw_aload_n hC dX0_copyOf_64 rfl ?_
  refine aw_gk0 (k := 5) (a := 69) (b := 73) hC hbt (by exact h05) dX0_copyOf_65 mkRX0_21 (by decide) rfl rfl rfl (by decide) (by decide) ?_
  refine aw_iconst hC dX0_copyOf_68 (by decide) ?_
  refine aw_aload_n hC dX0_copyOf_69 rfl ?_
  refine aw_gc0 (k := 5) (a := 26) (b := 30) hC hbt dX0_copyOf_70 mkRX0_21 (by decide) rfl rfl rfl (by decide) (by decide) ?_
  refine aw_iconst hC dX0_copyOf_73 (by decide) ?_
  refine aw_bipush hC dX0_copyOf_74 (by decide) (by decide) ?_
  refine aw_copyi (a0 := 73) (a1 := 30) hC hRm (Nat.le_of_ble_eq_true rfl) dX0_copyOf_76 cplRX0_29 rfl rfl rfl rfl (Or.inr (by decide)) (Or.inr (by decide)) (by decide) (Nat.le_of_ble_eq_true rfl) ?_
  refine aw_aload_n hC dX0_copyOf_79 rfl ?_
  refine aw_aload_n hC dX0_copyOf_80 rfl ?_
  refine aw_g0i (k := 6) (a := 69) hC dX0_copyOf_81 lkRX0_42 (by decide) rfl rfl rfl (Or.inr (by decide)) ?_
  refine aw_p0i (k := 6) (a := 26) hC dX0_copyOf_84 lkRX0_42 (by decide) rfl rfl rfl rfl rfl (Or.inr (by decide)) (fun _ => by decide) ?_
  exact aw_return hC hZ (Nat.zero_le _) (Nat.zero_le _) hr dX0_copyOf_87 ⟨rfl, rfl, rfl⟩
set_option maxRecDepth 20000 in
theorem mwRX5_350 : ∀ w ∈ ([.methodLink RX5 350 yX0_copyOf, .instanceMethod yX0_copyOf, .selects RX0 yX0_copyOf yX0_copyOf, .initialized RX0, .code yX0_copyOf cX0_copyOf 2 none] : List Cond), w ∈ TB := tb_all [620, 621, 622, 109, 623] rfl (by decide +kernel)
theorem md_X0_copyOf : yX0_copyOf.cls ≠ "java/lang/invoke/MethodHandle" ∧ yX0_copyOf.cls ≠ "java/lang/invoke/VarHandle" ∧ (parseMethodDescriptor yX0_copyOf.desc).map (fun d => d.parameters.length) = some 1 := by decide +kernel
theorem mkRX5_347 : Cond.fieldLink RX5 347 (TX5 5).1 (TX5 5).2.1 (TX5 5).2.2.1 ∈ TB := tb_of 398 (by decide +kernel) (by decide +kernel)
def imH (h : Hp) : Hp := st (cpA 69 26 h) 0 6 1
theorem sh05 {X : CX} {h : Hp} (hk : ∀ q ∈ SHK, h q.1 q.2.1 = (q.2.2 : Int)) : X.bt = true → ShN 74 h → ShN 74 (st h 0 5 ((69 : Nat) : Int)) := by
  intro _ hs
  have hne : ∀ q ∈ SHL, ¬ (q.1 = 0 ∧ q.2.1 = 5) := by decide +kernel
  have hnk : ∀ q ∈ SHK, ¬ (q.1 = 0 ∧ q.2.1 = 5) := by decide +kernel
  refine ⟨⟨fun q hq => ?_, fun _ q hq => ?_⟩, hs.2.1, fun _ => Nat.le_refl _⟩
  · unfold st
    rw [if_neg (hne q hq)]
    exact hs.1.1 q hq
  · unfold st
    rw [if_neg (hnk q hq)]
    exact hk q hq
def keH (h : Hp) : Hp := st (mA69 (nw h 69 (dfv 0))) 0 5 ((69 : Nat) : Int)
theorem keH_sh (h : Hp) : ∀ q ∈ SHK, mA69 (nw h 69 (dfv 0)) q.1 q.2.1 = (q.2.2 : Int) := by
  intro q hq
  unfold SHK at hq
  simp only [List.mem_cons, List.not_mem_nil, or_false] at hq
  rcases hq with rfl | rfl | rfl | rfl <;> rfl
theorem ok_image2 {G : GD} {h : Hp} (h05 : h 0 5 = 69) : Con G yX5_image cX5_image 1 none 2 0 0 true [(2, ((0 : Nat) : Int))] 74 h (FQ 8 74 (0, imH h)) := by
  refine con_of (pad := 0) (own := RX5) (plainFor_of_name (by decide)) rfl rfl ?_
  intro X hC hbt hr hnm hZ hRm hn0
  show AW G X 0 [(2, ((0 : Nat) : Int))] [] 74 h 0 0
  refine aw_aload_n hC dX5_image_0 rfl ?_
  refine aw_g5r (k := 5) (a := 0) hC dX5_image_1 mkRX5_347 (by decide) rfl rfl rfl (Or.inr (by decide)) ?_
  refine aw_ifnn (tgt := 18) hC dX5_image_4 (by decide) (fun _ => ?_) (fun c => by omega)
  refine aw_aload_n hC dX5_image_18 rfl ?_
  refine aw_g5r (k := 5) (a := 0) hC dX5_image_19 mkRX5_347 (by decide) rfl rfl rfl (Or.inr (by decide)) ?_
  refine aw_eqT (v1 := ((69 : Nat) : Int)) h05.symm ?_
  refine aw_aload_n hC dX5_image_22 rfl ?_
  refine aw_gc5 (k := 4) (a := 0) (b := 26) hC hbt dX5_image_23 mkRX5_44 (by decide) rfl rfl rfl (by decide) (by decide) ?_
  refine aw_callV (av := [(2, ((26 : Nat) : Int))]) (ci := 0) (a := 69) (d' := 1) (mc' := 0) (ms' := 0) hC hRm dX5_image_26 rfl (by decide) rfl mwRX5_350 md_X0_copyOf rfl rfl (Or.inr (by decide)) (by decide) (by decide) (Nat.le_of_ble_eq_true rfl) (Nat.le_of_ble_eq_true rfl) (by decide) (by rw [hbt]; exact ok_copyOf_69 h05) (fun v n1 h1 _ hQ => ?_)
  obtain ⟨rfl, rfl, rfl⟩ := hQ
  refine aw_aload_n hC dX5_image_29 rfl ?_
  refine aw_iconst hC dX5_image_30 (by decide) ?_
  refine aw_p5z (k := 6) (a := 0) hC dX5_image_31 lkRX5_93 (by decide) rfl rfl rfl rfl rfl (Or.inr (by decide)) (Or.inr rfl) (fun _ => by decide) ?_
  exact aw_return hC hZ (Nat.le_of_ble_eq_true rfl) (Nat.le_of_ble_eq_true rfl) hr dX5_image_34 ⟨rfl, rfl, rfl⟩
theorem ok_image1 {G : GD} {h : Hp} (h05 : h 0 5 = -1) : Con G yX5_image cX5_image 1 none 2 5 2561 true [(2, ((0 : Nat) : Int))] 69 h (FQ 8 74 (0, imH (keH h))) := by
  refine con_of (pad := 0) (own := RX5) (plainFor_of_name (by decide)) rfl rfl ?_
  intro X hC hbt hr hnm hZ hRm hn0
  show AW G X 0 [(2, ((0 : Nat) : Int))] [] 69 h 0 0
  refine aw_aload_n hC dX5_image_0 rfl ?_
  refine aw_g5r (k := 5) (a := 0) hC dX5_image_1 mkRX5_347 (by decide) rfl rfl rfl (Or.inr (by decide)) ?_
  refine aw_ifnn (tgt := 18) hC dX5_image_4 (by decide) (fun c => by omega) (fun _ => ?_)
  refine aw_aload_n hC dX5_image_7 rfl ?_
  refine aw_new (ci := 0) inT0 tyX0_ok rfl (by decide) hC dX5_image_8 nwLRX5_41 nwI0 nwN0 rfl rfl (dv_of rfl tcX0) (by rw [hRm]; exact Nat.le_of_ble_eq_true rfl) (by rw [hRm]; exact Nat.le_of_ble_eq_true rfl) (fun _ z => sh_nw69 z (by rw [h05]; decide) (by decide)) ?_
  refine aw_dup hC dX5_image_11 (by simp) ?_
  refine aw_callIN (av := []) (a := 69) (d' := 1) (mc' := 4) (ms' := 2554) hC hRm dX5_image_12 rfl mnRX5_43 mwRX5_43 md_X0_init (by decide) (by decide) (Nat.le_of_ble_eq_true rfl) (Nat.le_of_ble_eq_true rfl) (by decide) (by rw [hbt]; exact ok_mA69 h05) (fun v n1 h1 _ hQ => ?_)
  obtain ⟨rfl, rfl, rfl⟩ := hQ
  refine aw_putX (t := 2) (k := 5) (a := 0) (v := ((69 : Nat) : Int)) inT5 rfl (by decide) tyX5_ok nmX5 hC dX5_image_15 mkRX5_347 (by decide) rfl rfl rfl rfl (Or.inl ⟨_, rfl⟩) (Or.inr (by decide)) (fun q => q) (sh05 (keH_sh h)) ?_
  refine aw_aload_n hC dX5_image_18 rfl ?_
  refine aw_g5r (k := 5) (a := 0) hC dX5_image_19 mkRX5_347 (by decide) rfl rfl rfl (Or.inr (by decide)) ?_
  refine aw_eqT (v1 := ((69 : Nat) : Int)) rfl ?_
  refine aw_aload_n hC dX5_image_22 rfl ?_
  refine aw_gc5 (k := 4) (a := 0) (b := 26) hC hbt dX5_image_23 mkRX5_44 (by decide) rfl rfl rfl (by decide) (by decide) ?_
  refine aw_callV (av := [(2, ((26 : Nat) : Int))]) (ci := 0) (a := 69) (d' := 1) (mc' := 0) (ms' := 0) hC hRm dX5_image_26 rfl (by decide) rfl mwRX5_350 md_X0_copyOf rfl rfl (Or.inr (by decide)) (by decide) (by decide) (Nat.le_of_ble_eq_true rfl) (Nat.le_of_ble_eq_true rfl) (by decide) (by rw [hbt]; exact ok_copyOf_69 rfl) (fun v n1 h1 _ hQ => ?_)
  obtain ⟨rfl, rfl, rfl⟩ := hQ
  refine aw_aload_n hC dX5_image_29 rfl ?_
  refine aw_iconst hC dX5_image_30 (by decide) ?_
  refine aw_p5z (k := 6) (a := 0) hC dX5_image_31 lkRX5_93 (by decide) rfl rfl rfl rfl rfl (Or.inr (by decide)) (Or.inr rfl) (fun _ => by decide) ?_
  exact aw_return hC hZ (Nat.le_of_ble_eq_true rfl) (Nat.le_of_ble_eq_true rfl) hr dX5_image_34 ⟨rfl, rfl, rfl⟩
theorem ok_restore0 {G : GD} {n : Nat} {h : Hp} (h06 : h 0 6 = 0) : Con G yX5_restore cX5_restore 1 (some .boolean) 2 0 0 true [(2, ((0 : Nat) : Int))] n h (FQ 0 n (0, h)) := by
  refine con_of (pad := 0) (own := RX5) (plainFor_of_name (by decide)) rfl rfl ?_
  intro X hC hbt hr hnm hZ hRm hn0
  show AW G X 0 [(2, ((0 : Nat) : Int))] [] n h 0 0
  refine aw_aload_n hC dX5_restore_0 rfl ?_
  refine aw_g5z (k := 6) (a := 0) hC dX5_restore_1 lkRX5_93 (by decide) rfl rfl rfl (Or.inl ⟨hbt, by decide⟩) ?_
  refine aw_if_eq (tgt := 14) hC dX5_restore_4 (by decide) (fun c => ?_) (fun c => absurd h06 c)
  refine aw_iconst hC dX5_restore_14 (by decide) ?_
  exact aw_zreturn hC hZ (Nat.zero_le _) (Nat.zero_le _) hr rfl dX5_restore_15 (Or.inl rfl) ⟨rfl, rfl, rfl⟩
theorem ok_restore1 {G : GD} {h : Hp} (h06 : h 0 6 = 1) (h05 : h 0 5 = 69) : Con G yX5_restore cX5_restore 1 (some .boolean) 2 0 0 true [(2, ((0 : Nat) : Int))] 74 h (FQ 0 74 (1, cpA 26 69 h)) := by
  refine con_of (pad := 0) (own := RX5) (plainFor_of_name (by decide)) rfl rfl ?_
  intro X hC hbt hr hnm hZ hRm hn0
  show AW G X 0 [(2, ((0 : Nat) : Int))] [] 74 h 0 0
  refine aw_aload_n hC dX5_restore_0 rfl ?_
  refine aw_g5z (k := 6) (a := 0) hC dX5_restore_1 lkRX5_93 (by decide) rfl rfl rfl (Or.inr (by decide)) ?_
  refine aw_if_eq (tgt := 14) hC dX5_restore_4 (by decide) (fun c => by omega) (fun c => ?_)
  refine aw_aload_n hC dX5_restore_7 rfl ?_
  refine aw_g5r (k := 5) (a := 0) hC dX5_restore_8 mkRX5_347 (by decide) rfl rfl rfl (Or.inr (by decide)) ?_
  refine aw_ifnn (tgt := 16) hC dX5_restore_11 (by decide) (fun _ => ?_) (fun c => by omega)
  refine aw_aload_n hC dX5_restore_16 rfl ?_
  refine aw_gc5 (k := 4) (a := 0) (b := 26) hC hbt dX5_restore_17 mkRX5_44 (by decide) rfl rfl rfl (by decide) (by decide) ?_
  refine aw_aload_n hC dX5_restore_20 rfl ?_
  refine aw_g5r (k := 5) (a := 0) hC dX5_restore_21 mkRX5_347 (by decide) rfl rfl rfl (Or.inr (by decide)) ?_
  refine aw_eqT (v1 := ((69 : Nat) : Int)) h05.symm ?_
  refine aw_callV (av := [(2, ((69 : Nat) : Int))]) (ci := 0) (a := 26) (d' := 1) (mc' := 0) (ms' := 0) hC hRm dX5_restore_24 rfl (by decide) rfl mwRX5_350 md_X0_copyOf rfl rfl (Or.inr (by decide)) (by decide) (by decide) (Nat.le_of_ble_eq_true rfl) (Nat.le_of_ble_eq_true rfl) (by decide) (by rw [hbt]; exact ok_copyOf_26 h05) (fun v n1 h1 _ hQ => ?_)
  obtain ⟨rfl, rfl, rfl⟩ := hQ
  refine aw_iconst hC dX5_restore_27 (by decide) ?_
  exact aw_zreturn hC hZ (Nat.zero_le _) (Nat.zero_le _) hr rfl dX5_restore_28 (Or.inr rfl) ⟨rfl, rfl, rfl⟩
