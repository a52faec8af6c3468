theorem lwk13 : Cond.classLink RL 13 "java/lang/IllegalArgumentException" ∈ TB := tb_of 631 (by decide +kernel) (by decide +kernel)
theorem lwk18 : Cond.classLink RL 18 "java/util/NoSuchElementException" ∈ TB := tb_of 874 (by decide +kernel) (by decide +kernel)
theorem lwc1 : Cond.castable (excN 1) "java/lang/IllegalArgumentException" ∈ TBN := tbn_of 638 (by decide +kernel) (by decide +kernel)
theorem lwc0 : Cond.castable (excN 0) "java/util/NoSuchElementException" ∈ TBN := tbn_of 893 (by decide +kernel) (by decide +kernel)
set_option maxRecDepth 20000 in
theorem cwRL_7 : ∀ w ∈ ([.methodLink RL 7 yX5_duchy, .instanceMethod yX5_duchy, .selects RX5 yX5_duchy yX5_duchy, .initialized RX5, .code yX5_duchy cX5_duchy 3 (some .int)] : List Cond), w ∈ TB := tb_all [632, 633, 634, 105, 635] rfl (by decide +kernel)
theorem cdl_X5_duchy : yX5_duchy.cls ≠ "java/lang/invoke/MethodHandle" ∧ yX5_duchy.cls ≠ "java/lang/invoke/VarHandle" ∧ (parseMethodDescriptor yX5_duchy.desc).map (fun d => d.parameters.length) = some 1 := by decide +kernel
theorem ok_L_duchy_n {G : GD} {n : Nat} {x1 : Int} {h h1 : Hp} {r1 : Int} (hF : fX5_duchy x1 h = some (.inl (r1, h1))) : ConH G yL_duchy cL_duchy 4 (some .int) [(0, 9, 12, 13)] 15 [(2, ((0 : Nat) : Int)), (0, x1), (2, ((68 : Nat) : Int))] n h (FQ 0 n (0, st h1 68 0 r1)) := by
  refine conH_of (pad := 1) (own := RL) (by decide) rfl rfl ?_
  intro X hC hbt hst htab hr hZ hRm hn0
  show AW G X 0 [(2, ((0 : Nat) : Int)), (0, x1), (2, ((68 : Nat) : Int)), (9, 0)] [] n h 0 0
  refine aw_aload_n hC dL_duchy_0 rfl ?_
  refine aw_iconst hC dL_duchy_1 (by decide) ?_
  refine aw_aload_n hC dL_duchy_2 rfl ?_
  refine aw_iload_n hC dL_duchy_3 rfl ?_
  refine aw_callV (av := [(0, x1)]) (ci := 5) (a := 0) hC hRm dL_duchy_4 rfl (by decide) rfl cwRL_7 cdl_X5_duchy rfl rfl (Or.inl ⟨hbt, by decide⟩) (Nat.le_refl _) (by decide) (Nat.zero_le _) (Nat.zero_le _) (by decide) (by rw [hbt]; exact ok_X5_duchy_n hF) (fun v n' h' _ hQ => ?_)
  obtain ⟨rfl, rfl, rfl⟩ := hQ
  refine aw_i2l hC dL_duchy_7 ?_
  refine aw_lastore (a := 68) (len := 1) hC dL_duchy_8 rfl rfl (Or.inl ⟨hbt, by decide⟩) (by decide) (by decide) ?_
  refine aw_goto (tgt := 15) hC dL_duchy_9 (by decide) ?_
  refine aw_iconst hC dL_duchy_15 (by decide) ?_
  exact aw_ireturn hC hZ (Nat.zero_le _) (Nat.zero_le _) hr dL_duchy_16 ⟨rfl, rfl, rfl⟩
theorem ok_L_duchy_x1 {G : GD} {n : Nat} {x1 : Int} {h h1 : Hp} (hF : fX5_duchy x1 h = some (.inr (1, h1))) : ConH G yL_duchy cL_duchy 4 (some .int) [(0, 9, 12, 13)] 15 [(2, ((0 : Nat) : Int)), (0, x1), (2, ((68 : Nat) : Int))] n h (FQ 0 n (1, h1)) := by
  refine conH_of (pad := 1) (own := RL) (by decide) rfl rfl ?_
  intro X hC hbt hst htab hr hZ hRm hn0
  show AW G X 0 [(2, ((0 : Nat) : Int)), (0, x1), (2, ((68 : Nat) : Int)), (9, 0)] [] n h 0 0
  refine aw_aload_n hC dL_duchy_0 rfl ?_
  refine aw_iconst hC dL_duchy_1 (by decide) ?_
  refine aw_aload_n hC dL_duchy_2 rfl ?_
  refine aw_iload_n hC dL_duchy_3 rfl ?_
  refine aw_callVC (e := 1) (av := [(0, x1)]) (ci := 5) (a := 0) hC hRm hst dL_duchy_4 rfl (by decide) rfl cwRL_7 cdl_X5_duchy rfl rfl (Or.inl ⟨hbt, by decide⟩) (Nat.le_refl _) (by decide) (by decide) (by rw [hbt]; exact ok_X5_duchy_x hF) [] ⟨0, 9, 12, 13⟩ [] htab (fun z hz => absurd hz List.not_mem_nil) (by decide) (by decide) lwk13 lwc1 (fun q => ?_)
  refine aw_rstore_n hC dL_duchy_12 (Nat.le_of_ble_eq_true rfl) rfl ?_
  refine aw_iconst hC dL_duchy_13 (by decide) ?_
  exact aw_ireturn hC hZ (Nat.le_refl _) (Nat.le_refl _) hr dL_duchy_14 ⟨rfl, rfl, rfl⟩
set_option maxRecDepth 20000 in
theorem cwRL_15 : ∀ w ∈ ([.methodLink RL 15 yX5_count, .instanceMethod yX5_count, .selects RX5 yX5_count yX5_count, .initialized RX5, .code yX5_count cX5_count 2 (some .int)] : List Cond), w ∈ TB := tb_all [875, 876, 877, 105, 878] rfl (by decide +kernel)
theorem cdl_X5_count : yX5_count.cls ≠ "java/lang/invoke/MethodHandle" ∧ yX5_count.cls ≠ "java/lang/invoke/VarHandle" ∧ (parseMethodDescriptor yX5_count.desc).map (fun d => d.parameters.length) = some 1 := by decide +kernel
theorem ok_L_count_n {G : GD} {n : Nat} {x1 : Int} {h h1 : Hp} {r1 : Int} (hF : fX5_count x1 h = some (.inl (r1, h1))) : ConH G yL_count cL_count 4 (some .int) [(0, 9, 12, 18)] 7 [(2, ((0 : Nat) : Int)), (0, x1), (2, ((68 : Nat) : Int))] n h (FQ 0 n (0, st h1 68 0 r1)) := by
  refine conH_of (pad := 1) (own := RL) (by decide) rfl rfl ?_
  intro X hC hbt hst htab hr hZ hRm hn0
  show AW G X 0 [(2, ((0 : Nat) : Int)), (0, x1), (2, ((68 : Nat) : Int)), (9, 0)] [] n h 0 0
  refine aw_aload_n hC dL_count_0 rfl ?_
  refine aw_iconst hC dL_count_1 (by decide) ?_
  refine aw_aload_n hC dL_count_2 rfl ?_
  refine aw_iload_n hC dL_count_3 rfl ?_
  refine aw_callV (av := [(0, x1)]) (ci := 5) (a := 0) hC hRm dL_count_4 rfl (by decide) rfl cwRL_15 cdl_X5_count rfl rfl (Or.inl ⟨hbt, by decide⟩) (Nat.le_refl _) (by decide) (Nat.zero_le _) (Nat.zero_le _) (by decide) (by rw [hbt]; exact ok_X5_count_n hF) (fun v n' h' _ hQ => ?_)
  obtain ⟨rfl, rfl, rfl⟩ := hQ
  refine aw_i2l hC dL_count_7 ?_
  refine aw_lastore (a := 68) (len := 1) hC dL_count_8 rfl rfl (Or.inl ⟨hbt, by decide⟩) (by decide) (by decide) ?_
  refine aw_goto (tgt := 15) hC dL_count_9 (by decide) ?_
  refine aw_iconst hC dL_count_15 (by decide) ?_
  exact aw_ireturn hC hZ (Nat.zero_le _) (Nat.zero_le _) hr dL_count_16 ⟨rfl, rfl, rfl⟩
theorem ok_L_count_x0 {G : GD} {n : Nat} {x1 : Int} {h h1 : Hp} (hF : fX5_count x1 h = some (.inr (0, h1))) : ConH G yL_count cL_count 4 (some .int) [(0, 9, 12, 18)] 7 [(2, ((0 : Nat) : Int)), (0, x1), (2, ((68 : Nat) : Int))] n h (FQ 0 n (1, h1)) := by
  refine conH_of (pad := 1) (own := RL) (by decide) rfl rfl ?_
  intro X hC hbt hst htab hr hZ hRm hn0
  show AW G X 0 [(2, ((0 : Nat) : Int)), (0, x1), (2, ((68 : Nat) : Int)), (9, 0)] [] n h 0 0
  refine aw_aload_n hC dL_count_0 rfl ?_
  refine aw_iconst hC dL_count_1 (by decide) ?_
  refine aw_aload_n hC dL_count_2 rfl ?_
  refine aw_iload_n hC dL_count_3 rfl ?_
  refine aw_callVC (e := 0) (av := [(0, x1)]) (ci := 5) (a := 0) hC hRm hst dL_count_4 rfl (by decide) rfl cwRL_15 cdl_X5_count rfl rfl (Or.inl ⟨hbt, by decide⟩) (Nat.le_refl _) (by decide) (by decide) (by rw [hbt]; exact ok_X5_count_x hF) [] ⟨0, 9, 12, 18⟩ [] htab (fun z hz => absurd hz List.not_mem_nil) (by decide) (by decide) lwk18 lwc0 (fun q => ?_)
  refine aw_rstore_n hC dL_count_12 (Nat.le_of_ble_eq_true rfl) rfl ?_
  refine aw_iconst hC dL_count_13 (by decide) ?_
  exact aw_ireturn hC hZ (Nat.le_refl _) (Nat.le_refl _) hr dL_count_14 ⟨rfl, rfl, rfl⟩
set_option maxRecDepth 20000 in
theorem cwRL_20 : ∀ w ∈ ([.methodLink RL 20 yX5_cell, .instanceMethod yX5_cell, .selects RX5 yX5_cell yX5_cell, .initialized RX5, .code yX5_cell cX5_cell 3 (some .int)] : List Cond), w ∈ TB := tb_all [910, 911, 912, 105, 913] rfl (by decide +kernel)
theorem cdl_X5_cell : yX5_cell.cls ≠ "java/lang/invoke/MethodHandle" ∧ yX5_cell.cls ≠ "java/lang/invoke/VarHandle" ∧ (parseMethodDescriptor yX5_cell.desc).map (fun d => d.parameters.length) = some 2 := by decide +kernel
theorem ok_L_cell_n {G : GD} {n : Nat} {x1 : Int} {x2 : Int} {h h1 : Hp} {r1 : Int} (hF : fX5_cell x1 x2 h = some (.inl (r1, h1))) : ConH G yL_cell cL_cell 5 (some .int) [(0, 10, 13, 18)] 8 [(2, ((0 : Nat) : Int)), (0, x1), (0, x2), (2, ((68 : Nat) : Int))] n h (FQ 0 n (0, st h1 68 0 r1)) := by
  refine conH_of (pad := 1) (own := RL) (by decide) rfl rfl ?_
  intro X hC hbt hst htab hr hZ hRm hn0
  show AW G X 0 [(2, ((0 : Nat) : Int)), (0, x1), (0, x2), (2, ((68 : Nat) : Int)), (9, 0)] [] n h 0 0
  refine aw_aload_n hC dL_cell_0 rfl ?_
  refine aw_iconst hC dL_cell_1 (by decide) ?_
  refine aw_aload_n hC dL_cell_2 rfl ?_
  refine aw_iload_n hC dL_cell_3 rfl ?_
  refine aw_iload_n hC dL_cell_4 rfl ?_
  refine aw_callV (av := [(0, x1), (0, x2)]) (ci := 5) (a := 0) hC hRm dL_cell_5 rfl (by decide) rfl cwRL_20 cdl_X5_cell rfl rfl (Or.inl ⟨hbt, by decide⟩) (Nat.le_refl _) (by decide) (Nat.zero_le _) (Nat.zero_le _) (by decide) (by rw [hbt]; exact ok_X5_cell_n hF) (fun v n' h' _ hQ => ?_)
  obtain ⟨rfl, rfl, rfl⟩ := hQ
  refine aw_i2l hC dL_cell_8 ?_
  refine aw_lastore (a := 68) (len := 1) hC dL_cell_9 rfl rfl (Or.inl ⟨hbt, by decide⟩) (by decide) (by decide) ?_
  refine aw_goto (tgt := 17) hC dL_cell_10 (by decide) ?_
  refine aw_iconst hC dL_cell_17 (by decide) ?_
  exact aw_ireturn hC hZ (Nat.zero_le _) (Nat.zero_le _) hr dL_cell_18 ⟨rfl, rfl, rfl⟩
theorem ok_L_cell_x0 {G : GD} {n : Nat} {x1 : Int} {x2 : Int} {h h1 : Hp} (hF : fX5_cell x1 x2 h = some (.inr (0, h1))) : ConH G yL_cell cL_cell 5 (some .int) [(0, 10, 13, 18)] 8 [(2, ((0 : Nat) : Int)), (0, x1), (0, x2), (2, ((68 : Nat) : Int))] n h (FQ 0 n (1, h1)) := by
  refine conH_of (pad := 1) (own := RL) (by decide) rfl rfl ?_
  intro X hC hbt hst htab hr hZ hRm hn0
  show AW G X 0 [(2, ((0 : Nat) : Int)), (0, x1), (0, x2), (2, ((68 : Nat) : Int)), (9, 0)] [] n h 0 0
  refine aw_aload_n hC dL_cell_0 rfl ?_
  refine aw_iconst hC dL_cell_1 (by decide) ?_
  refine aw_aload_n hC dL_cell_2 rfl ?_
  refine aw_iload_n hC dL_cell_3 rfl ?_
  refine aw_iload_n hC dL_cell_4 rfl ?_
  refine aw_callVC (e := 0) (av := [(0, x1), (0, x2)]) (ci := 5) (a := 0) hC hRm hst dL_cell_5 rfl (by decide) rfl cwRL_20 cdl_X5_cell rfl rfl (Or.inl ⟨hbt, by decide⟩) (Nat.le_refl _) (by decide) (by decide) (by rw [hbt]; exact ok_X5_cell_x hF) [] ⟨0, 10, 13, 18⟩ [] htab (fun z hz => absurd hz List.not_mem_nil) (by decide) (by decide) lwk18 lwc0 (fun q => ?_)
  refine aw_rstore hC dL_cell_13 (Nat.le_of_ble_eq_true rfl) rfl ?_
  refine aw_iconst hC dL_cell_15 (by decide) ?_
  exact aw_ireturn hC hZ (Nat.le_refl _) (Nat.le_refl _) hr dL_cell_16 ⟨rfl, rfl, rfl⟩
set_option maxRecDepth 20000 in
theorem cwRL_24 : ∀ w ∈ ([.methodLink RL 24 yX5_tree, .instanceMethod yX5_tree, .selects RX5 yX5_tree yX5_tree, .initialized RX5, .code yX5_tree cX5_tree 3 (some .int)] : List Cond), w ∈ TB := tb_all [929, 930, 931, 105, 932] rfl (by decide +kernel)
theorem cdl_X5_tree : yX5_tree.cls ≠ "java/lang/invoke/MethodHandle" ∧ yX5_tree.cls ≠ "java/lang/invoke/VarHandle" ∧ (parseMethodDescriptor yX5_tree.desc).map (fun d => d.parameters.length) = some 2 := by decide +kernel
theorem ok_L_tree_n {G : GD} {n : Nat} {x1 : Int} {x2 : Int} {h h1 : Hp} {r1 : Int} (hF : fX5_tree x1 x2 h = some (.inl (r1, h1))) : ConH G yL_tree cL_tree 5 (some .int) [(0, 10, 13, 18)] 8 [(2, ((0 : Nat) : Int)), (0, x1), (0, x2), (2, ((68 : Nat) : Int))] n h (FQ 0 n (0, st h1 68 0 r1)) := by
  refine conH_of (pad := 1) (own := RL) (by decide) rfl rfl ?_
  intro X hC hbt hst htab hr hZ hRm hn0
  show AW G X 0 [(2, ((0 : Nat) : Int)), (0, x1), (0, x2), (2, ((68 : Nat) : Int)), (9, 0)] [] n h 0 0
  refine aw_aload_n hC dL_tree_0 rfl ?_
  refine aw_iconst hC dL_tree_1 (by decide) ?_
  refine aw_aload_n hC dL_tree_2 rfl ?_
  refine aw_iload_n hC dL_tree_3 rfl ?_
  refine aw_iload_n hC dL_tree_4 rfl ?_
  refine aw_callV (av := [(0, x1), (0, x2)]) (ci := 5) (a := 0) hC hRm dL_tree_5 rfl (by decide) rfl cwRL_24 cdl_X5_tree rfl rfl (Or.inl ⟨hbt, by decide⟩) (Nat.le_refl _) (by decide) (Nat.zero_le _) (Nat.zero_le _) (by decide) (by rw [hbt]; exact ok_X5_tree_n hF) (fun v n' h' _ hQ => ?_)
  obtain ⟨rfl, rfl, rfl⟩ := hQ
  refine aw_i2l hC dL_tree_8 ?_
  refine aw_lastore (a := 68) (len := 1) hC dL_tree_9 rfl rfl (Or.inl ⟨hbt, by decide⟩) (by decide) (by decide) ?_
  refine aw_goto (tgt := 17) hC dL_tree_10 (by decide) ?_
  refine aw_iconst hC dL_tree_17 (by decide) ?_
  exact aw_ireturn hC hZ (Nat.zero_le _) (Nat.zero_le _) hr dL_tree_18 ⟨rfl, rfl, rfl⟩
theorem ok_L_tree_x0 {G : GD} {n : Nat} {x1 : Int} {x2 : Int} {h h1 : Hp} (hF : fX5_tree x1 x2 h = some (.inr (0, h1))) : ConH G yL_tree cL_tree 5 (some .int) [(0, 10, 13, 18)] 8 [(2, ((0 : Nat) : Int)), (0, x1), (0, x2), (2, ((68 : Nat) : Int))] n h (FQ 0 n (1, h1)) := by
  refine conH_of (pad := 1) (own := RL) (by decide) rfl rfl ?_
  intro X hC hbt hst htab hr hZ hRm hn0
  show AW G X 0 [(2, ((0 : Nat) : Int)), (0, x1), (0, x2), (2, ((68 : Nat) : Int)), (9, 0)] [] n h 0 0
  refine aw_aload_n hC dL_tree_0 rfl ?_
  refine aw_iconst hC dL_tree_1 (by decide) ?_
  refine aw_aload_n hC dL_tree_2 rfl ?_
  refine aw_iload_n hC dL_tree_3 rfl ?_
  refine aw_iload_n hC dL_tree_4 rfl ?_
  refine aw_callVC (e := 0) (av := [(0, x1), (0, x2)]) (ci := 5) (a := 0) hC hRm hst dL_tree_5 rfl (by decide) rfl cwRL_24 cdl_X5_tree rfl rfl (Or.inl ⟨hbt, by decide⟩) (Nat.le_refl _) (by decide) (by decide) (by rw [hbt]; exact ok_X5_tree_x hF) [] ⟨0, 10, 13, 18⟩ [] htab (fun z hz => absurd hz List.not_mem_nil) (by decide) (by decide) lwk18 lwc0 (fun q => ?_)
  refine aw_rstore hC dL_tree_13 (Nat.le_of_ble_eq_true rfl) rfl ?_
  refine aw_iconst hC dL_tree_15 (by decide) ?_
  exact aw_ireturn hC hZ (Nat.le_refl _) (Nat.le_refl _) hr dL_tree_16 ⟨rfl, rfl, rfl⟩
set_option maxRecDepth 20000 in
theorem cwRL_27 : ∀ w ∈ ([.methodLink RL 27 yX5_house, .instanceMethod yX5_house, .selects RX5 yX5_house yX5_house, .initialized RX5, .code yX5_house cX5_house 3 (some .int)] : List Cond), w ∈ TB := tb_all [941, 942, 943, 105, 944] rfl (by decide +kernel)
theorem cdl_X5_house : yX5_house.cls ≠ "java/lang/invoke/MethodHandle" ∧ yX5_house.cls ≠ "java/lang/invoke/VarHandle" ∧ (parseMethodDescriptor yX5_house.desc).map (fun d => d.parameters.length) = some 2 := by decide +kernel
theorem ok_L_house_n {G : GD} {n : Nat} {x1 : Int} {x2 : Int} {h h1 : Hp} {r1 : Int} (hF : fX5_house x1 x2 h = some (.inl (r1, h1))) : ConH G yL_house cL_house 5 (some .int) [(0, 10, 13, 18)] 8 [(2, ((0 : Nat) : Int)), (0, x1), (0, x2), (2, ((68 : Nat) : Int))] n h (FQ 0 n (0, st h1 68 0 r1)) := by
  refine conH_of (pad := 1) (own := RL) (by decide) rfl rfl ?_
  intro X hC hbt hst htab hr hZ hRm hn0
  show AW G X 0 [(2, ((0 : Nat) : Int)), (0, x1), (0, x2), (2, ((68 : Nat) : Int)), (9, 0)] [] n h 0 0
  refine aw_aload_n hC dL_house_0 rfl ?_
  refine aw_iconst hC dL_house_1 (by decide) ?_
  refine aw_aload_n hC dL_house_2 rfl ?_
  refine aw_iload_n hC dL_house_3 rfl ?_
  refine aw_iload_n hC dL_house_4 rfl ?_
  refine aw_callV (av := [(0, x1), (0, x2)]) (ci := 5) (a := 0) hC hRm dL_house_5 rfl (by decide) rfl cwRL_27 cdl_X5_house rfl rfl (Or.inl ⟨hbt, by decide⟩) (Nat.le_refl _) (by decide) (Nat.zero_le _) (Nat.zero_le _) (by decide) (by rw [hbt]; exact ok_X5_house_n hF) (fun v n' h' _ hQ => ?_)
  obtain ⟨rfl, rfl, rfl⟩ := hQ
  refine aw_i2l hC dL_house_8 ?_
  refine aw_lastore (a := 68) (len := 1) hC dL_house_9 rfl rfl (Or.inl ⟨hbt, by decide⟩) (by decide) (by decide) ?_
  refine aw_goto (tgt := 17) hC dL_house_10 (by decide) ?_
  refine aw_iconst hC dL_house_17 (by decide) ?_
  exact aw_ireturn hC hZ (Nat.zero_le _) (Nat.zero_le _) hr dL_house_18 ⟨rfl, rfl, rfl⟩
theorem ok_L_house_x0 {G : GD} {n : Nat} {x1 : Int} {x2 : Int} {h h1 : Hp} (hF : fX5_house x1 x2 h = some (.inr (0, h1))) : ConH G yL_house cL_house 5 (some .int) [(0, 10, 13, 18)] 8 [(2, ((0 : Nat) : Int)), (0, x1), (0, x2), (2, ((68 : Nat) : Int))] n h (FQ 0 n (1, h1)) := by
  refine conH_of (pad := 1) (own := RL) (by decide) rfl rfl ?_
  intro X hC hbt hst htab hr hZ hRm hn0
  show AW G X 0 [(2, ((0 : Nat) : Int)), (0, x1), (0, x2), (2, ((68 : Nat) : Int)), (9, 0)] [] n h 0 0
  refine aw_aload_n hC dL_house_0 rfl ?_
  refine aw_iconst hC dL_house_1 (by decide) ?_
  refine aw_aload_n hC dL_house_2 rfl ?_
  refine aw_iload_n hC dL_house_3 rfl ?_
  refine aw_iload_n hC dL_house_4 rfl ?_
  refine aw_callVC (e := 0) (av := [(0, x1), (0, x2)]) (ci := 5) (a := 0) hC hRm hst dL_house_5 rfl (by decide) rfl cwRL_27 cdl_X5_house rfl rfl (Or.inl ⟨hbt, by decide⟩) (Nat.le_refl _) (by decide) (by decide) (by rw [hbt]; exact ok_X5_house_x hF) [] ⟨0, 10, 13, 18⟩ [] htab (fun z hz => absurd hz List.not_mem_nil) (by decide) (by decide) lwk18 lwc0 (fun q => ?_)
  refine aw_rstore hC dL_house_13 (Nat.le_of_ble_eq_true rfl) rfl ?_
  refine aw_iconst hC dL_house_15 (by decide) ?_
  exact aw_ireturn hC hZ (Nat.le_refl _) (Nat.le_refl _) hr dL_house_16 ⟨rfl, rfl, rfl⟩
set_option maxRecDepth 20000 in
theorem cwRL_30 : ∀ w ∈ ([.methodLink RL 30 yX5_miles, .instanceMethod yX5_miles, .selects RX5 yX5_miles yX5_miles, .initialized RX5, .code yX5_miles cX5_miles 3 (some .int)] : List Cond), w ∈ TB := tb_all [959, 960, 961, 105, 962] rfl (by decide +kernel)
theorem cdl_X5_miles : yX5_miles.cls ≠ "java/lang/invoke/MethodHandle" ∧ yX5_miles.cls ≠ "java/lang/invoke/VarHandle" ∧ (parseMethodDescriptor yX5_miles.desc).map (fun d => d.parameters.length) = some 2 := by decide +kernel
theorem ok_L_miles_n {G : GD} {n : Nat} {x1 : Int} {x2 : Int} {h h1 : Hp} {r1 : Int} (hF : fX5_miles x1 x2 h = some (.inl (r1, h1))) : ConH G yL_miles cL_miles 5 (some .int) [(0, 10, 13, 18)] 8 [(2, ((0 : Nat) : Int)), (0, x1), (0, x2), (2, ((68 : Nat) : Int))] n h (FQ 0 n (0, st h1 68 0 r1)) := by
  refine conH_of (pad := 1) (own := RL) (by decide) rfl rfl ?_
  intro X hC hbt hst htab hr hZ hRm hn0
  show AW G X 0 [(2, ((0 : Nat) : Int)), (0, x1), (0, x2), (2, ((68 : Nat) : Int)), (9, 0)] [] n h 0 0
  refine aw_aload_n hC dL_miles_0 rfl ?_
  refine aw_iconst hC dL_miles_1 (by decide) ?_
  refine aw_aload_n hC dL_miles_2 rfl ?_
  refine aw_iload_n hC dL_miles_3 rfl ?_
  refine aw_iload_n hC dL_miles_4 rfl ?_
  refine aw_callV (av := [(0, x1), (0, x2)]) (ci := 5) (a := 0) hC hRm dL_miles_5 rfl (by decide) rfl cwRL_30 cdl_X5_miles rfl rfl (Or.inl ⟨hbt, by decide⟩) (Nat.le_refl _) (by decide) (Nat.zero_le _) (Nat.zero_le _) (by decide) (by rw [hbt]; exact ok_X5_miles_n hF) (fun v n' h' _ hQ => ?_)
  obtain ⟨rfl, rfl, rfl⟩ := hQ
  refine aw_i2l hC dL_miles_8 ?_
  refine aw_lastore (a := 68) (len := 1) hC dL_miles_9 rfl rfl (Or.inl ⟨hbt, by decide⟩) (by decide) (by decide) ?_
  refine aw_goto (tgt := 17) hC dL_miles_10 (by decide) ?_
  refine aw_iconst hC dL_miles_17 (by decide) ?_
  exact aw_ireturn hC hZ (Nat.zero_le _) (Nat.zero_le _) hr dL_miles_18 ⟨rfl, rfl, rfl⟩
theorem ok_L_miles_x0 {G : GD} {n : Nat} {x1 : Int} {x2 : Int} {h h1 : Hp} (hF : fX5_miles x1 x2 h = some (.inr (0, h1))) : ConH G yL_miles cL_miles 5 (some .int) [(0, 10, 13, 18)] 8 [(2, ((0 : Nat) : Int)), (0, x1), (0, x2), (2, ((68 : Nat) : Int))] n h (FQ 0 n (1, h1)) := by
  refine conH_of (pad := 1) (own := RL) (by decide) rfl rfl ?_
  intro X hC hbt hst htab hr hZ hRm hn0
  show AW G X 0 [(2, ((0 : Nat) : Int)), (0, x1), (0, x2), (2, ((68 : Nat) : Int)), (9, 0)] [] n h 0 0
  refine aw_aload_n hC dL_miles_0 rfl ?_
  refine aw_iconst hC dL_miles_1 (by decide) ?_
  refine aw_aload_n hC dL_miles_2 rfl ?_
  refine aw_iload_n hC dL_miles_3 rfl ?_
  refine aw_iload_n hC dL_miles_4 rfl ?_
  refine aw_callVC (e := 0) (av := [(0, x1), (0, x2)]) (ci := 5) (a := 0) hC hRm hst dL_miles_5 rfl (by decide) rfl cwRL_30 cdl_X5_miles rfl rfl (Or.inl ⟨hbt, by decide⟩) (Nat.le_refl _) (by decide) (by decide) (by rw [hbt]; exact ok_X5_miles_x hF) [] ⟨0, 10, 13, 18⟩ [] htab (fun z hz => absurd hz List.not_mem_nil) (by decide) (by decide) lwk18 lwc0 (fun q => ?_)
  refine aw_rstore hC dL_miles_13 (Nat.le_of_ble_eq_true rfl) rfl ?_
  refine aw_iconst hC dL_miles_15 (by decide) ?_
  exact aw_ireturn hC hZ (Nat.le_refl _) (Nat.le_refl _) hr dL_miles_16 ⟨rfl, rfl, rfl⟩
set_option maxRecDepth 20000 in
theorem cwRL_33 : ∀ w ∈ ([.methodLink RL 33 yX5_seen, .instanceMethod yX5_seen, .selects RX5 yX5_seen yX5_seen, .initialized RX5, .code yX5_seen cX5_seen 2 (some .long)] : List Cond), w ∈ TB := tb_all [971, 972, 973, 105, 974] rfl (by decide +kernel)
theorem cdl_X5_seen : yX5_seen.cls ≠ "java/lang/invoke/MethodHandle" ∧ yX5_seen.cls ≠ "java/lang/invoke/VarHandle" ∧ (parseMethodDescriptor yX5_seen.desc).map (fun d => d.parameters.length) = some 1 := by decide +kernel
theorem ok_L_seen_n {G : GD} {n : Nat} {x1 : Int} {h h1 : Hp} {r1 : Int} (hF : fX5_seen x1 h = some (.inl (r1, h1))) : ConH G yL_seen cL_seen 4 (some .int) [(0, 8, 11, 18)] 8 [(2, ((0 : Nat) : Int)), (0, x1), (2, ((68 : Nat) : Int))] n h (FQ 0 n (0, st h1 68 0 r1)) := by
  refine conH_of (pad := 1) (own := RL) (by decide) rfl rfl ?_
  intro X hC hbt hst htab hr hZ hRm hn0
  show AW G X 0 [(2, ((0 : Nat) : Int)), (0, x1), (2, ((68 : Nat) : Int)), (9, 0)] [] n h 0 0
  refine aw_aload_n hC dL_seen_0 rfl ?_
  refine aw_iconst hC dL_seen_1 (by decide) ?_
  refine aw_aload_n hC dL_seen_2 rfl ?_
  refine aw_iload_n hC dL_seen_3 rfl ?_
  refine aw_callV (av := [(0, x1)]) (ci := 5) (a := 0) hC hRm dL_seen_4 rfl (by decide) rfl cwRL_33 cdl_X5_seen rfl rfl (Or.inl ⟨hbt, by decide⟩) (Nat.le_refl _) (by decide) (Nat.zero_le _) (Nat.zero_le _) (by decide) (by rw [hbt]; exact ok_X5_seen_n hF) (fun v n' h' _ hQ => ?_)
  obtain ⟨rfl, rfl, rfl⟩ := hQ
  refine aw_lastore (a := 68) (len := 1) hC dL_seen_7 rfl rfl (Or.inl ⟨hbt, by decide⟩) (by decide) (by decide) ?_
  refine aw_goto (tgt := 14) hC dL_seen_8 (by decide) ?_
  refine aw_iconst hC dL_seen_14 (by decide) ?_
  exact aw_ireturn hC hZ (Nat.zero_le _) (Nat.zero_le _) hr dL_seen_15 ⟨rfl, rfl, rfl⟩
theorem ok_L_seen_x0 {G : GD} {n : Nat} {x1 : Int} {h h1 : Hp} (hF : fX5_seen x1 h = some (.inr (0, h1))) : ConH G yL_seen cL_seen 4 (some .int) [(0, 8, 11, 18)] 8 [(2, ((0 : Nat) : Int)), (0, x1), (2, ((68 : Nat) : Int))] n h (FQ 0 n (1, h1)) := by
  refine conH_of (pad := 1) (own := RL) (by decide) rfl rfl ?_
  intro X hC hbt hst htab hr hZ hRm hn0
  show AW G X 0 [(2, ((0 : Nat) : Int)), (0, x1), (2, ((68 : Nat) : Int)), (9, 0)] [] n h 0 0
  refine aw_aload_n hC dL_seen_0 rfl ?_
  refine aw_iconst hC dL_seen_1 (by decide) ?_
  refine aw_aload_n hC dL_seen_2 rfl ?_
  refine aw_iload_n hC dL_seen_3 rfl ?_
  refine aw_callVC (e := 0) (av := [(0, x1)]) (ci := 5) (a := 0) hC hRm hst dL_seen_4 rfl (by decide) rfl cwRL_33 cdl_X5_seen rfl rfl (Or.inl ⟨hbt, by decide⟩) (Nat.le_refl _) (by decide) (by decide) (by rw [hbt]; exact ok_X5_seen_x hF) [] ⟨0, 8, 11, 18⟩ [] htab (fun z hz => absurd hz List.not_mem_nil) (by decide) (by decide) lwk18 lwc0 (fun q => ?_)
  refine aw_rstore_n hC dL_seen_11 (Nat.le_of_ble_eq_true rfl) rfl ?_
  refine aw_iconst hC dL_seen_12 (by decide) ?_
  exact aw_ireturn hC hZ (Nat.le_refl _) (Nat.le_refl _) hr dL_seen_13 ⟨rfl, rfl, rfl⟩
set_option maxRecDepth 20000 in
theorem cwRL_37 : ∀ w ∈ ([.methodLink RL 37 yX5_plant, .instanceMethod yX5_plant, .selects RX5 yX5_plant yX5_plant, .initialized RX5, .code yX5_plant cX5_plant 5 (some .int)] : List Cond), w ∈ TB := tb_all [978, 979, 980, 105, 981] rfl (by decide +kernel)
theorem cdl_X5_plant : yX5_plant.cls ≠ "java/lang/invoke/MethodHandle" ∧ yX5_plant.cls ≠ "java/lang/invoke/VarHandle" ∧ (parseMethodDescriptor yX5_plant.desc).map (fun d => d.parameters.length) = some 2 := by decide +kernel
theorem ok_L_plant_n {G : GD} {n : Nat} {x1 : Int} {x2 : Int} {h h1 : Hp} {r1 : Int} (hF : fX5_plant x1 x2 h = some (.inl (r1, h1))) : ConH G yL_plant cL_plant 5 (some .int) [(0, 10, 13, 18)] 8 [(2, ((0 : Nat) : Int)), (0, x1), (0, x2), (2, ((68 : Nat) : Int))] n h (FQ 0 n (0, st h1 68 0 r1)) := by
  refine conH_of (pad := 1) (own := RL) (by decide) rfl rfl ?_
  intro X hC hbt hst htab hr hZ hRm hn0
  show AW G X 0 [(2, ((0 : Nat) : Int)), (0, x1), (0, x2), (2, ((68 : Nat) : Int)), (9, 0)] [] n h 0 0
  refine aw_aload_n hC dL_plant_0 rfl ?_
  refine aw_iconst hC dL_plant_1 (by decide) ?_
  refine aw_aload_n hC dL_plant_2 rfl ?_
  refine aw_iload_n hC dL_plant_3 rfl ?_
  refine aw_iload_n hC dL_plant_4 rfl ?_
  refine aw_callV (av := [(0, x1), (0, x2)]) (ci := 5) (a := 0) hC hRm dL_plant_5 rfl (by decide) rfl cwRL_37 cdl_X5_plant rfl rfl (Or.inl ⟨hbt, by decide⟩) (Nat.le_refl _) (by decide) (Nat.zero_le _) (Nat.zero_le _) (by decide) (by rw [hbt]; exact ok_X5_plant_n hF) (fun v n' h' _ hQ => ?_)
  obtain ⟨rfl, rfl, rfl⟩ := hQ
  refine aw_i2l hC dL_plant_8 ?_
  refine aw_lastore (a := 68) (len := 1) hC dL_plant_9 rfl rfl (Or.inl ⟨hbt, by decide⟩) (by decide) (by decide) ?_
  refine aw_goto (tgt := 17) hC dL_plant_10 (by decide) ?_
  refine aw_iconst hC dL_plant_17 (by decide) ?_
  exact aw_ireturn hC hZ (Nat.zero_le _) (Nat.zero_le _) hr dL_plant_18 ⟨rfl, rfl, rfl⟩
theorem ok_L_plant_x0 {G : GD} {n : Nat} {x1 : Int} {x2 : Int} {h h1 : Hp} (hF : fX5_plant x1 x2 h = some (.inr (0, h1))) : ConH G yL_plant cL_plant 5 (some .int) [(0, 10, 13, 18)] 8 [(2, ((0 : Nat) : Int)), (0, x1), (0, x2), (2, ((68 : Nat) : Int))] n h (FQ 0 n (1, h1)) := by
  refine conH_of (pad := 1) (own := RL) (by decide) rfl rfl ?_
  intro X hC hbt hst htab hr hZ hRm hn0
  show AW G X 0 [(2, ((0 : Nat) : Int)), (0, x1), (0, x2), (2, ((68 : Nat) : Int)), (9, 0)] [] n h 0 0
  refine aw_aload_n hC dL_plant_0 rfl ?_
  refine aw_iconst hC dL_plant_1 (by decide) ?_
  refine aw_aload_n hC dL_plant_2 rfl ?_
  refine aw_iload_n hC dL_plant_3 rfl ?_
  refine aw_iload_n hC dL_plant_4 rfl ?_
  refine aw_callVC (e := 0) (av := [(0, x1), (0, x2)]) (ci := 5) (a := 0) hC hRm hst dL_plant_5 rfl (by decide) rfl cwRL_37 cdl_X5_plant rfl rfl (Or.inl ⟨hbt, by decide⟩) (Nat.le_refl _) (by decide) (by decide) (by rw [hbt]; exact ok_X5_plant_x hF) [] ⟨0, 10, 13, 18⟩ [] htab (fun z hz => absurd hz List.not_mem_nil) (by decide) (by decide) lwk18 lwc0 (fun q => ?_)
  refine aw_rstore hC dL_plant_13 (Nat.le_of_ble_eq_true rfl) rfl ?_
  refine aw_iconst hC dL_plant_15 (by decide) ?_
  exact aw_ireturn hC hZ (Nat.le_refl _) (Nat.le_refl _) hr dL_plant_16 ⟨rfl, rfl, rfl⟩
set_option maxRecDepth 20000 in
theorem cwRL_40 : ∀ w ∈ ([.methodLink RL 40 yX5_fell, .instanceMethod yX5_fell, .selects RX5 yX5_fell yX5_fell, .initialized RX5, .code yX5_fell cX5_fell 3 (some .int)] : List Cond), w ∈ TB := tb_all [988, 989, 990, 105, 991] rfl (by decide +kernel)
theorem cdl_X5_fell : yX5_fell.cls ≠ "java/lang/invoke/MethodHandle" ∧ yX5_fell.cls ≠ "java/lang/invoke/VarHandle" ∧ (parseMethodDescriptor yX5_fell.desc).map (fun d => d.parameters.length) = some 1 := by decide +kernel
theorem ok_L_fell_n {G : GD} {n : Nat} {x1 : Int} {h h1 : Hp} {r1 : Int} (hF : fX5_fell x1 h = some (.inl (r1, h1))) : ConH G yL_fell cL_fell 4 (some .int) [(0, 9, 12, 18)] 8 [(2, ((0 : Nat) : Int)), (0, x1), (2, ((68 : Nat) : Int))] n h (FQ 0 n (0, st h1 68 0 r1)) := by
  refine conH_of (pad := 1) (own := RL) (by decide) rfl rfl ?_
  intro X hC hbt hst htab hr hZ hRm hn0
  show AW G X 0 [(2, ((0 : Nat) : Int)), (0, x1), (2, ((68 : Nat) : Int)), (9, 0)] [] n h 0 0
  refine aw_aload_n hC dL_fell_0 rfl ?_
  refine aw_iconst hC dL_fell_1 (by decide) ?_
  refine aw_aload_n hC dL_fell_2 rfl ?_
  refine aw_iload_n hC dL_fell_3 rfl ?_
  refine aw_callV (av := [(0, x1)]) (ci := 5) (a := 0) hC hRm dL_fell_4 rfl (by decide) rfl cwRL_40 cdl_X5_fell rfl rfl (Or.inl ⟨hbt, by decide⟩) (Nat.le_refl _) (by decide) (Nat.zero_le _) (Nat.zero_le _) (by decide) (by rw [hbt]; exact ok_X5_fell_n hF) (fun v n' h' _ hQ => ?_)
  obtain ⟨rfl, rfl, rfl⟩ := hQ
  refine aw_i2l hC dL_fell_7 ?_
  refine aw_lastore (a := 68) (len := 1) hC dL_fell_8 rfl rfl (Or.inl ⟨hbt, by decide⟩) (by decide) (by decide) ?_
  refine aw_goto (tgt := 15) hC dL_fell_9 (by decide) ?_
  refine aw_iconst hC dL_fell_15 (by decide) ?_
  exact aw_ireturn hC hZ (Nat.zero_le _) (Nat.zero_le _) hr dL_fell_16 ⟨rfl, rfl, rfl⟩
theorem ok_L_fell_x0 {G : GD} {n : Nat} {x1 : Int} {h h1 : Hp} (hF : fX5_fell x1 h = some (.inr (0, h1))) : ConH G yL_fell cL_fell 4 (some .int) [(0, 9, 12, 18)] 8 [(2, ((0 : Nat) : Int)), (0, x1), (2, ((68 : Nat) : Int))] n h (FQ 0 n (1, h1)) := by
  refine conH_of (pad := 1) (own := RL) (by decide) rfl rfl ?_
  intro X hC hbt hst htab hr hZ hRm hn0
  show AW G X 0 [(2, ((0 : Nat) : Int)), (0, x1), (2, ((68 : Nat) : Int)), (9, 0)] [] n h 0 0
  refine aw_aload_n hC dL_fell_0 rfl ?_
  refine aw_iconst hC dL_fell_1 (by decide) ?_
  refine aw_aload_n hC dL_fell_2 rfl ?_
  refine aw_iload_n hC dL_fell_3 rfl ?_
  refine aw_callVC (e := 0) (av := [(0, x1)]) (ci := 5) (a := 0) hC hRm hst dL_fell_4 rfl (by decide) rfl cwRL_40 cdl_X5_fell rfl rfl (Or.inl ⟨hbt, by decide⟩) (Nat.le_refl _) (by decide) (by decide) (by rw [hbt]; exact ok_X5_fell_x hF) [] ⟨0, 9, 12, 18⟩ [] htab (fun z hz => absurd hz List.not_mem_nil) (by decide) (by decide) lwk18 lwc0 (fun q => ?_)
  refine aw_rstore_n hC dL_fell_12 (Nat.le_of_ble_eq_true rfl) rfl ?_
  refine aw_iconst hC dL_fell_13 (by decide) ?_
  exact aw_ireturn hC hZ (Nat.le_refl _) (Nat.le_refl _) hr dL_fell_14 ⟨rfl, rfl, rfl⟩
set_option maxRecDepth 20000 in
theorem cwRL_43 : ∀ w ∈ ([.methodLink RL 43 yX5_floor, .instanceMethod yX5_floor, .selects RX5 yX5_floor yX5_floor, .initialized RX5, .code yX5_floor cX5_floor 3 (some .int)] : List Cond), w ∈ TB := tb_all [995, 996, 997, 105, 998] rfl (by decide +kernel)
theorem cdl_X5_floor : yX5_floor.cls ≠ "java/lang/invoke/MethodHandle" ∧ yX5_floor.cls ≠ "java/lang/invoke/VarHandle" ∧ (parseMethodDescriptor yX5_floor.desc).map (fun d => d.parameters.length) = some 2 := by decide +kernel
theorem ok_L_floor_n {G : GD} {n : Nat} {x1 : Int} {x2 : Int} {h h1 : Hp} {r1 : Int} (hF : fX5_floor x1 x2 h = some (.inl (r1, h1))) : ConH G yL_floor cL_floor 5 (some .int) [(0, 10, 13, 18)] 8 [(2, ((0 : Nat) : Int)), (0, x1), (0, x2), (2, ((68 : Nat) : Int))] n h (FQ 0 n (0, st h1 68 0 r1)) := by
  refine conH_of (pad := 1) (own := RL) (by decide) rfl rfl ?_
  intro X hC hbt hst htab hr hZ hRm hn0
  show AW G X 0 [(2, ((0 : Nat) : Int)), (0, x1), (0, x2), (2, ((68 : Nat) : Int)), (9, 0)] [] n h 0 0
  refine aw_aload_n hC dL_floor_0 rfl ?_
  refine aw_iconst hC dL_floor_1 (by decide) ?_
  refine aw_aload_n hC dL_floor_2 rfl ?_
  refine aw_iload_n hC dL_floor_3 rfl ?_
  refine aw_iload_n hC dL_floor_4 rfl ?_
  refine aw_callV (av := [(0, x1), (0, x2)]) (ci := 5) (a := 0) hC hRm dL_floor_5 rfl (by decide) rfl cwRL_43 cdl_X5_floor rfl rfl (Or.inl ⟨hbt, by decide⟩) (Nat.le_refl _) (by decide) (Nat.zero_le _) (Nat.zero_le _) (by decide) (by rw [hbt]; exact ok_X5_floor_n hF) (fun v n' h' _ hQ => ?_)
  obtain ⟨rfl, rfl, rfl⟩ := hQ
  refine aw_i2l hC dL_floor_8 ?_
  refine aw_lastore (a := 68) (len := 1) hC dL_floor_9 rfl rfl (Or.inl ⟨hbt, by decide⟩) (by decide) (by decide) ?_
  refine aw_goto (tgt := 17) hC dL_floor_10 (by decide) ?_
  refine aw_iconst hC dL_floor_17 (by decide) ?_
  exact aw_ireturn hC hZ (Nat.zero_le _) (Nat.zero_le _) hr dL_floor_18 ⟨rfl, rfl, rfl⟩
theorem ok_L_floor_x0 {G : GD} {n : Nat} {x1 : Int} {x2 : Int} {h h1 : Hp} (hF : fX5_floor x1 x2 h = some (.inr (0, h1))) : ConH G yL_floor cL_floor 5 (some .int) [(0, 10, 13, 18)] 8 [(2, ((0 : Nat) : Int)), (0, x1), (0, x2), (2, ((68 : Nat) : Int))] n h (FQ 0 n (1, h1)) := by
  refine conH_of (pad := 1) (own := RL) (by decide) rfl rfl ?_
  intro X hC hbt hst htab hr hZ hRm hn0
  show AW G X 0 [(2, ((0 : Nat) : Int)), (0, x1), (0, x2), (2, ((68 : Nat) : Int)), (9, 0)] [] n h 0 0
  refine aw_aload_n hC dL_floor_0 rfl ?_
  refine aw_iconst hC dL_floor_1 (by decide) ?_
  refine aw_aload_n hC dL_floor_2 rfl ?_
  refine aw_iload_n hC dL_floor_3 rfl ?_
  refine aw_iload_n hC dL_floor_4 rfl ?_
  refine aw_callVC (e := 0) (av := [(0, x1), (0, x2)]) (ci := 5) (a := 0) hC hRm hst dL_floor_5 rfl (by decide) rfl cwRL_43 cdl_X5_floor rfl rfl (Or.inl ⟨hbt, by decide⟩) (Nat.le_refl _) (by decide) (by decide) (by rw [hbt]; exact ok_X5_floor_x hF) [] ⟨0, 10, 13, 18⟩ [] htab (fun z hz => absurd hz List.not_mem_nil) (by decide) (by decide) lwk18 lwc0 (fun q => ?_)
  refine aw_rstore hC dL_floor_13 (Nat.le_of_ble_eq_true rfl) rfl ?_
  refine aw_iconst hC dL_floor_15 (by decide) ?_
  exact aw_ireturn hC hZ (Nat.le_refl _) (Nat.le_refl _) hr dL_floor_16 ⟨rfl, rfl, rfl⟩
set_option maxRecDepth 20000 in
theorem cwRL_46 : ∀ w ∈ ([.methodLink RL 46 yX5_barn, .instanceMethod yX5_barn, .selects RX5 yX5_barn yX5_barn, .initialized RX5, .code yX5_barn cX5_barn 3 (some .int)] : List Cond), w ∈ TB := tb_all [1002, 1003, 1004, 105, 1005] rfl (by decide +kernel)
theorem cdl_X5_barn : yX5_barn.cls ≠ "java/lang/invoke/MethodHandle" ∧ yX5_barn.cls ≠ "java/lang/invoke/VarHandle" ∧ (parseMethodDescriptor yX5_barn.desc).map (fun d => d.parameters.length) = some 2 := by decide +kernel
theorem ok_L_barn_n {G : GD} {n : Nat} {x1 : Int} {x2 : Int} {h h1 : Hp} {r1 : Int} (hF : fX5_barn x1 x2 h = some (.inl (r1, h1))) : ConH G yL_barn cL_barn 5 (some .int) [(0, 10, 13, 18)] 8 [(2, ((0 : Nat) : Int)), (0, x1), (0, x2), (2, ((68 : Nat) : Int))] n h (FQ 0 n (0, st h1 68 0 r1)) := by
  refine conH_of (pad := 1) (own := RL) (by decide) rfl rfl ?_
  intro X hC hbt hst htab hr hZ hRm hn0
  show AW G X 0 [(2, ((0 : Nat) : Int)), (0, x1), (0, x2), (2, ((68 : Nat) : Int)), (9, 0)] [] n h 0 0
  refine aw_aload_n hC dL_barn_0 rfl ?_
  refine aw_iconst hC dL_barn_1 (by decide) ?_
  refine aw_aload_n hC dL_barn_2 rfl ?_
  refine aw_iload_n hC dL_barn_3 rfl ?_
  refine aw_iload_n hC dL_barn_4 rfl ?_
  refine aw_callV (av := [(0, x1), (0, x2)]) (ci := 5) (a := 0) hC hRm dL_barn_5 rfl (by decide) rfl cwRL_46 cdl_X5_barn rfl rfl (Or.inl ⟨hbt, by decide⟩) (Nat.le_refl _) (by decide) (Nat.zero_le _) (Nat.zero_le _) (by decide) (by rw [hbt]; exact ok_X5_barn_n hF) (fun v n' h' _ hQ => ?_)
  obtain ⟨rfl, rfl, rfl⟩ := hQ
  refine aw_i2l hC dL_barn_8 ?_
  refine aw_lastore (a := 68) (len := 1) hC dL_barn_9 rfl rfl (Or.inl ⟨hbt, by decide⟩) (by decide) (by decide) ?_
  refine aw_goto (tgt := 17) hC dL_barn_10 (by decide) ?_
  refine aw_iconst hC dL_barn_17 (by decide) ?_
  exact aw_ireturn hC hZ (Nat.zero_le _) (Nat.zero_le _) hr dL_barn_18 ⟨rfl, rfl, rfl⟩
theorem ok_L_barn_x0 {G : GD} {n : Nat} {x1 : Int} {x2 : Int} {h h1 : Hp} (hF : fX5_barn x1 x2 h = some (.inr (0, h1))) : ConH G yL_barn cL_barn 5 (some .int) [(0, 10, 13, 18)] 8 [(2, ((0 : Nat) : Int)), (0, x1), (0, x2), (2, ((68 : Nat) : Int))] n h (FQ 0 n (1, h1)) := by
  refine conH_of (pad := 1) (own := RL) (by decide) rfl rfl ?_
  intro X hC hbt hst htab hr hZ hRm hn0
  show AW G X 0 [(2, ((0 : Nat) : Int)), (0, x1), (0, x2), (2, ((68 : Nat) : Int)), (9, 0)] [] n h 0 0
  refine aw_aload_n hC dL_barn_0 rfl ?_
  refine aw_iconst hC dL_barn_1 (by decide) ?_
  refine aw_aload_n hC dL_barn_2 rfl ?_
  refine aw_iload_n hC dL_barn_3 rfl ?_
  refine aw_iload_n hC dL_barn_4 rfl ?_
  refine aw_callVC (e := 0) (av := [(0, x1), (0, x2)]) (ci := 5) (a := 0) hC hRm hst dL_barn_5 rfl (by decide) rfl cwRL_46 cdl_X5_barn rfl rfl (Or.inl ⟨hbt, by decide⟩) (Nat.le_refl _) (by decide) (by decide) (by rw [hbt]; exact ok_X5_barn_x hF) [] ⟨0, 10, 13, 18⟩ [] htab (fun z hz => absurd hz List.not_mem_nil) (by decide) (by decide) lwk18 lwc0 (fun q => ?_)
  refine aw_rstore hC dL_barn_13 (Nat.le_of_ble_eq_true rfl) rfl ?_
  refine aw_iconst hC dL_barn_15 (by decide) ?_
  exact aw_ireturn hC hZ (Nat.le_refl _) (Nat.le_refl _) hr dL_barn_16 ⟨rfl, rfl, rfl⟩
set_option maxRecDepth 20000 in
theorem cwRL_49 : ∀ w ∈ ([.methodLink RL 49 yX5_sell, .instanceMethod yX5_sell, .selects RX5 yX5_sell yX5_sell, .initialized RX5, .code yX5_sell cX5_sell 4 (some .boolean)] : List Cond), w ∈ TB := tb_all [1009, 1010, 1011, 105, 1012] rfl (by decide +kernel)
theorem cdl_X5_sell : yX5_sell.cls ≠ "java/lang/invoke/MethodHandle" ∧ yX5_sell.cls ≠ "java/lang/invoke/VarHandle" ∧ (parseMethodDescriptor yX5_sell.desc).map (fun d => d.parameters.length) = some 2 := by decide +kernel
theorem ok_L_sell_n {G : GD} {n : Nat} {x1 : Int} {x2 : Int} {h h1 : Hp} {r1 : Int} (hF : fX5_sell x1 x2 h = some (.inl (r1, h1))) : ConH G yL_sell cL_sell 5 (some .int) [(0, 17, 20, 18)] 8 [(2, ((0 : Nat) : Int)), (0, x1), (0, x2), (2, ((68 : Nat) : Int))] n h (FQ 0 n (0, st h1 68 0 (if r1 = 0 then 0 else 1))) := by
  refine conH_of (pad := 1) (own := RL) (by decide) rfl rfl ?_
  intro X hC hbt hst htab hr hZ hRm hn0
  show AW G X 0 [(2, ((0 : Nat) : Int)), (0, x1), (0, x2), (2, ((68 : Nat) : Int)), (9, 0)] [] n h 0 0
  refine aw_aload_n hC dL_sell_0 rfl ?_
  refine aw_iconst hC dL_sell_1 (by decide) ?_
  refine aw_aload_n hC dL_sell_2 rfl ?_
  refine aw_iload_n hC dL_sell_3 rfl ?_
  refine aw_iload_n hC dL_sell_4 rfl ?_
  refine aw_callV (av := [(0, x1), (0, x2)]) (ci := 5) (a := 0) hC hRm dL_sell_5 rfl (by decide) rfl cwRL_49 cdl_X5_sell rfl rfl (Or.inl ⟨hbt, by decide⟩) (Nat.le_refl _) (by decide) (Nat.zero_le _) (Nat.zero_le _) (by decide) (by rw [hbt]; exact ok_X5_sell_n hF) (fun v n' h' _ hQ => ?_)
  obtain ⟨rfl, rfl, rfl⟩ := hQ
  refine aw_if_eq (tgt := 15) hC dL_sell_8 (by decide) (fun c1 => ?_) (fun c1 => ?_)
  · have c1 : r1 = 0 := c1
    rw [if_pos c1] at hZ
    refine aw_lconst (v := 0) hC dL_sell_15 (by decide) (by decide) ?_
    refine aw_lastore (a := 68) (len := 1) hC dL_sell_16 rfl rfl (Or.inl ⟨hbt, by decide⟩) (by decide) (by decide) ?_
    refine aw_goto (tgt := 24) hC dL_sell_17 (by decide) ?_
    refine aw_iconst hC dL_sell_24 (by decide) ?_
    exact aw_ireturn hC hZ (Nat.zero_le _) (Nat.zero_le _) hr dL_sell_25 ⟨rfl, rfl, rfl⟩
  · have c1 : ¬ r1 = 0 := c1
    rw [if_neg c1] at hZ
    refine aw_lconst (v := 1) hC dL_sell_11 (by decide) (by decide) ?_
    refine aw_goto (tgt := 16) hC dL_sell_12 (by decide) ?_
    refine aw_lastore (a := 68) (len := 1) hC dL_sell_16 rfl rfl (Or.inl ⟨hbt, by decide⟩) (by decide) (by decide) ?_
    refine aw_goto (tgt := 24) hC dL_sell_17 (by decide) ?_
    refine aw_iconst hC dL_sell_24 (by decide) ?_
    exact aw_ireturn hC hZ (Nat.zero_le _) (Nat.zero_le _) hr dL_sell_25 ⟨rfl, rfl, rfl⟩
theorem ok_L_sell_x0 {G : GD} {n : Nat} {x1 : Int} {x2 : Int} {h h1 : Hp} (hF : fX5_sell x1 x2 h = some (.inr (0, h1))) : ConH G yL_sell cL_sell 5 (some .int) [(0, 17, 20, 18)] 8 [(2, ((0 : Nat) : Int)), (0, x1), (0, x2), (2, ((68 : Nat) : Int))] n h (FQ 0 n (1, h1)) := by
  refine conH_of (pad := 1) (own := RL) (by decide) rfl rfl ?_
  intro X hC hbt hst htab hr hZ hRm hn0
  show AW G X 0 [(2, ((0 : Nat) : Int)), (0, x1), (0, x2), (2, ((68 : Nat) : Int)), (9, 0)] [] n h 0 0
  refine aw_aload_n hC dL_sell_0 rfl ?_
  refine aw_iconst hC dL_sell_1 (by decide) ?_
  refine aw_aload_n hC dL_sell_2 rfl ?_
  refine aw_iload_n hC dL_sell_3 rfl ?_
  refine aw_iload_n hC dL_sell_4 rfl ?_
  refine aw_callVC (e := 0) (av := [(0, x1), (0, x2)]) (ci := 5) (a := 0) hC hRm hst dL_sell_5 rfl (by decide) rfl cwRL_49 cdl_X5_sell rfl rfl (Or.inl ⟨hbt, by decide⟩) (Nat.le_refl _) (by decide) (by decide) (by rw [hbt]; exact ok_X5_sell_x hF) [] ⟨0, 17, 20, 18⟩ [] htab (fun z hz => absurd hz List.not_mem_nil) (by decide) (by decide) lwk18 lwc0 (fun q => ?_)
  refine aw_rstore hC dL_sell_20 (Nat.le_of_ble_eq_true rfl) rfl ?_
  refine aw_iconst hC dL_sell_22 (by decide) ?_
  exact aw_ireturn hC hZ (Nat.le_refl _) (Nat.le_refl _) hr dL_sell_23 ⟨rfl, rfl, rfl⟩
set_option maxRecDepth 20000 in
theorem cwRL_53 : ∀ w ∈ ([.methodLink RL 53 yX5_firs, .instanceMethod yX5_firs, .selects RX5 yX5_firs yX5_firs, .initialized RX5, .code yX5_firs cX5_firs 7 (some .int)] : List Cond), w ∈ TB := tb_all [1016, 1017, 1018, 105, 1019] rfl (by decide +kernel)
theorem cdl_X5_firs : yX5_firs.cls ≠ "java/lang/invoke/MethodHandle" ∧ yX5_firs.cls ≠ "java/lang/invoke/VarHandle" ∧ (parseMethodDescriptor yX5_firs.desc).map (fun d => d.parameters.length) = some 2 := by decide +kernel
theorem ok_L_firs_n {G : GD} {n : Nat} {x1 : Int} {x2 : Int} {h h1 : Hp} {r1 : Int} (hF : fX5_firs x1 x2 h = some (.inl (r1, h1))) : ConH G yL_firs cL_firs 5 (some .int) [(0, 10, 13, 13)] 7 [(2, ((0 : Nat) : Int)), (0, x1), (0, x2), (2, ((68 : Nat) : Int))] n h (FQ 0 n (0, st h1 68 0 r1)) := by
  refine conH_of (pad := 1) (own := RL) (by decide) rfl rfl ?_
  intro X hC hbt hst htab hr hZ hRm hn0
  show AW G X 0 [(2, ((0 : Nat) : Int)), (0, x1), (0, x2), (2, ((68 : Nat) : Int)), (9, 0)] [] n h 0 0
  refine aw_aload_n hC dL_firs_0 rfl ?_
  refine aw_iconst hC dL_firs_1 (by decide) ?_
  refine aw_aload_n hC dL_firs_2 rfl ?_
  refine aw_iload_n hC dL_firs_3 rfl ?_
  refine aw_iload_n hC dL_firs_4 rfl ?_
  refine aw_callV (av := [(0, x1), (0, x2)]) (ci := 5) (a := 0) hC hRm dL_firs_5 rfl (by decide) rfl cwRL_53 cdl_X5_firs rfl rfl (Or.inl ⟨hbt, by decide⟩) (Nat.le_refl _) (by decide) (Nat.zero_le _) (Nat.zero_le _) (by decide) (by rw [hbt]; exact ok_X5_firs_n hF) (fun v n' h' _ hQ => ?_)
  obtain ⟨rfl, rfl, rfl⟩ := hQ
  refine aw_i2l hC dL_firs_8 ?_
  refine aw_lastore (a := 68) (len := 1) hC dL_firs_9 rfl rfl (Or.inl ⟨hbt, by decide⟩) (by decide) (by decide) ?_
  refine aw_goto (tgt := 17) hC dL_firs_10 (by decide) ?_
  refine aw_iconst hC dL_firs_17 (by decide) ?_
  exact aw_ireturn hC hZ (Nat.zero_le _) (Nat.zero_le _) hr dL_firs_18 ⟨rfl, rfl, rfl⟩
theorem ok_L_firs_x1 {G : GD} {n : Nat} {x1 : Int} {x2 : Int} {h h1 : Hp} (hF : fX5_firs x1 x2 h = some (.inr (1, h1))) : ConH G yL_firs cL_firs 5 (some .int) [(0, 10, 13, 13)] 7 [(2, ((0 : Nat) : Int)), (0, x1), (0, x2), (2, ((68 : Nat) : Int))] n h (FQ 0 n (1, h1)) := by
  refine conH_of (pad := 1) (own := RL) (by decide) rfl rfl ?_
  intro X hC hbt hst htab hr hZ hRm hn0
  show AW G X 0 [(2, ((0 : Nat) : Int)), (0, x1), (0, x2), (2, ((68 : Nat) : Int)), (9, 0)] [] n h 0 0
  refine aw_aload_n hC dL_firs_0 rfl ?_
  refine aw_iconst hC dL_firs_1 (by decide) ?_
  refine aw_aload_n hC dL_firs_2 rfl ?_
  refine aw_iload_n hC dL_firs_3 rfl ?_
  refine aw_iload_n hC dL_firs_4 rfl ?_
  refine aw_callVC (e := 1) (av := [(0, x1), (0, x2)]) (ci := 5) (a := 0) hC hRm hst dL_firs_5 rfl (by decide) rfl cwRL_53 cdl_X5_firs rfl rfl (Or.inl ⟨hbt, by decide⟩) (Nat.le_refl _) (by decide) (by decide) (by rw [hbt]; exact ok_X5_firs_x hF) [] ⟨0, 10, 13, 13⟩ [] htab (fun z hz => absurd hz List.not_mem_nil) (by decide) (by decide) lwk13 lwc1 (fun q => ?_)
  refine aw_rstore hC dL_firs_13 (Nat.le_of_ble_eq_true rfl) rfl ?_
  refine aw_iconst hC dL_firs_15 (by decide) ?_
  exact aw_ireturn hC hZ (Nat.le_refl _) (Nat.le_refl _) hr dL_firs_16 ⟨rfl, rfl, rfl⟩
set_option maxRecDepth 20000 in
theorem cwRL_56 : ∀ w ∈ ([.methodLink RL 56 yX5_fir, .instanceMethod yX5_fir, .selects RX5 yX5_fir yX5_fir, .initialized RX5, .code yX5_fir cX5_fir 2 (some .int)] : List Cond), w ∈ TB := tb_all [1051, 1052, 1053, 105, 1054] rfl (by decide +kernel)
theorem cdl_X5_fir : yX5_fir.cls ≠ "java/lang/invoke/MethodHandle" ∧ yX5_fir.cls ≠ "java/lang/invoke/VarHandle" ∧ (parseMethodDescriptor yX5_fir.desc).map (fun d => d.parameters.length) = some 1 := by decide +kernel
theorem ok_L_fir_n {G : GD} {n : Nat} {x1 : Int} {h h1 : Hp} {r1 : Int} (hF : fX5_fir x1 h = some (.inl (r1, h1))) : ConH G yL_fir cL_fir 4 (some .int) [(0, 9, 12, 18)] 7 [(2, ((0 : Nat) : Int)), (0, x1), (2, ((68 : Nat) : Int))] n h (FQ 0 n (0, st h1 68 0 r1)) := by
  refine conH_of (pad := 1) (own := RL) (by decide) rfl rfl ?_
  intro X hC hbt hst htab hr hZ hRm hn0
  show AW G X 0 [(2, ((0 : Nat) : Int)), (0, x1), (2, ((68 : Nat) : Int)), (9, 0)] [] n h 0 0
  refine aw_aload_n hC dL_fir_0 rfl ?_
  refine aw_iconst hC dL_fir_1 (by decide) ?_
  refine aw_aload_n hC dL_fir_2 rfl ?_
  refine aw_iload_n hC dL_fir_3 rfl ?_
  refine aw_callV (av := [(0, x1)]) (ci := 5) (a := 0) hC hRm dL_fir_4 rfl (by decide) rfl cwRL_56 cdl_X5_fir rfl rfl (Or.inl ⟨hbt, by decide⟩) (Nat.le_refl _) (by decide) (Nat.zero_le _) (Nat.zero_le _) (by decide) (by rw [hbt]; exact ok_X5_fir_n hF) (fun v n' h' _ hQ => ?_)
  obtain ⟨rfl, rfl, rfl⟩ := hQ
  refine aw_i2l hC dL_fir_7 ?_
  refine aw_lastore (a := 68) (len := 1) hC dL_fir_8 rfl rfl (Or.inl ⟨hbt, by decide⟩) (by decide) (by decide) ?_
  refine aw_goto (tgt := 15) hC dL_fir_9 (by decide) ?_
  refine aw_iconst hC dL_fir_15 (by decide) ?_
  exact aw_ireturn hC hZ (Nat.zero_le _) (Nat.zero_le _) hr dL_fir_16 ⟨rfl, rfl, rfl⟩
theorem ok_L_fir_x0 {G : GD} {n : Nat} {x1 : Int} {h h1 : Hp} (hF : fX5_fir x1 h = some (.inr (0, h1))) : ConH G yL_fir cL_fir 4 (some .int) [(0, 9, 12, 18)] 7 [(2, ((0 : Nat) : Int)), (0, x1), (2, ((68 : Nat) : Int))] n h (FQ 0 n (1, h1)) := by
  refine conH_of (pad := 1) (own := RL) (by decide) rfl rfl ?_
  intro X hC hbt hst htab hr hZ hRm hn0
  show AW G X 0 [(2, ((0 : Nat) : Int)), (0, x1), (2, ((68 : Nat) : Int)), (9, 0)] [] n h 0 0
  refine aw_aload_n hC dL_fir_0 rfl ?_
  refine aw_iconst hC dL_fir_1 (by decide) ?_
  refine aw_aload_n hC dL_fir_2 rfl ?_
  refine aw_iload_n hC dL_fir_3 rfl ?_
  refine aw_callVC (e := 0) (av := [(0, x1)]) (ci := 5) (a := 0) hC hRm hst dL_fir_4 rfl (by decide) rfl cwRL_56 cdl_X5_fir rfl rfl (Or.inl ⟨hbt, by decide⟩) (Nat.le_refl _) (by decide) (by decide) (by rw [hbt]; exact ok_X5_fir_x hF) [] ⟨0, 9, 12, 18⟩ [] htab (fun z hz => absurd hz List.not_mem_nil) (by decide) (by decide) lwk18 lwc0 (fun q => ?_)
  refine aw_rstore_n hC dL_fir_12 (Nat.le_of_ble_eq_true rfl) rfl ?_
  refine aw_iconst hC dL_fir_13 (by decide) ?_
  exact aw_ireturn hC hZ (Nat.le_refl _) (Nat.le_refl _) hr dL_fir_14 ⟨rfl, rfl, rfl⟩
set_option maxRecDepth 20000 in
theorem cwRL_59 : ∀ w ∈ ([.methodLink RL 59 yX5_spades, .instanceMethod yX5_spades, .selects RX5 yX5_spades yX5_spades, .initialized RX5, .code yX5_spades cX5_spades 5 (some .int)] : List Cond), w ∈ TB := tb_all [1059, 1060, 1061, 105, 1062] rfl (by decide +kernel)
theorem cdl_X5_spades : yX5_spades.cls ≠ "java/lang/invoke/MethodHandle" ∧ yX5_spades.cls ≠ "java/lang/invoke/VarHandle" ∧ (parseMethodDescriptor yX5_spades.desc).map (fun d => d.parameters.length) = some 2 := by decide +kernel
theorem ok_L_spades_n {G : GD} {n : Nat} {x1 : Int} {x2 : Int} {h h1 : Hp} {r1 : Int} (hF : fX5_spades x1 x2 h = some (.inl (r1, h1))) : ConH G yL_spades cL_spades 5 (some .int) [(0, 10, 13, 18), (0, 10, 17, 13)] 8 [(2, ((0 : Nat) : Int)), (0, x1), (0, x2), (2, ((68 : Nat) : Int))] n h (FQ 0 n (0, st h1 68 0 r1)) := by
  refine conH_of (pad := 1) (own := RL) (by decide) rfl rfl ?_
  intro X hC hbt hst htab hr hZ hRm hn0
  show AW G X 0 [(2, ((0 : Nat) : Int)), (0, x1), (0, x2), (2, ((68 : Nat) : Int)), (9, 0)] [] n h 0 0
  refine aw_aload_n hC dL_spades_0 rfl ?_
  refine aw_iconst hC dL_spades_1 (by decide) ?_
  refine aw_aload_n hC dL_spades_2 rfl ?_
  refine aw_iload_n hC dL_spades_3 rfl ?_
  refine aw_iload_n hC dL_spades_4 rfl ?_
  refine aw_callV (av := [(0, x1), (0, x2)]) (ci := 5) (a := 0) hC hRm dL_spades_5 rfl (by decide) rfl cwRL_59 cdl_X5_spades rfl rfl (Or.inl ⟨hbt, by decide⟩) (Nat.le_refl _) (by decide) (Nat.zero_le _) (Nat.zero_le _) (by decide) (by rw [hbt]; exact ok_X5_spades_n hF) (fun v n' h' _ hQ => ?_)
  obtain ⟨rfl, rfl, rfl⟩ := hQ
  refine aw_i2l hC dL_spades_8 ?_
  refine aw_lastore (a := 68) (len := 1) hC dL_spades_9 rfl rfl (Or.inl ⟨hbt, by decide⟩) (by decide) (by decide) ?_
  refine aw_goto (tgt := 21) hC dL_spades_10 (by decide) ?_
  refine aw_iconst hC dL_spades_21 (by decide) ?_
  exact aw_ireturn hC hZ (Nat.zero_le _) (Nat.zero_le _) hr dL_spades_22 ⟨rfl, rfl, rfl⟩
theorem ok_L_spades_x0 {G : GD} {n : Nat} {x1 : Int} {x2 : Int} {h h1 : Hp} (hF : fX5_spades x1 x2 h = some (.inr (0, h1))) : ConH G yL_spades cL_spades 5 (some .int) [(0, 10, 13, 18), (0, 10, 17, 13)] 8 [(2, ((0 : Nat) : Int)), (0, x1), (0, x2), (2, ((68 : Nat) : Int))] n h (FQ 0 n (1, h1)) := by
  refine conH_of (pad := 1) (own := RL) (by decide) rfl rfl ?_
  intro X hC hbt hst htab hr hZ hRm hn0
  show AW G X 0 [(2, ((0 : Nat) : Int)), (0, x1), (0, x2), (2, ((68 : Nat) : Int)), (9, 0)] [] n h 0 0
  refine aw_aload_n hC dL_spades_0 rfl ?_
  refine aw_iconst hC dL_spades_1 (by decide) ?_
  refine aw_aload_n hC dL_spades_2 rfl ?_
  refine aw_iload_n hC dL_spades_3 rfl ?_
  refine aw_iload_n hC dL_spades_4 rfl ?_
  refine aw_callVC (e := 0) (av := [(0, x1), (0, x2)]) (ci := 5) (a := 0) hC hRm hst dL_spades_5 rfl (by decide) rfl cwRL_59 cdl_X5_spades rfl rfl (Or.inl ⟨hbt, by decide⟩) (Nat.le_refl _) (by decide) (by decide) (by rw [hbt]; exact ok_X5_spades_x hF) [] ⟨0, 10, 13, 18⟩ [⟨0, 10, 17, 13⟩] htab (fun z hz => absurd hz List.not_mem_nil) (by decide) (by decide) lwk18 lwc0 (fun q => ?_)
  refine aw_rstore hC dL_spades_13 (Nat.le_of_ble_eq_true rfl) rfl ?_
  refine aw_iconst hC dL_spades_15 (by decide) ?_
  exact aw_ireturn hC hZ (Nat.le_refl _) (Nat.le_refl _) hr dL_spades_16 ⟨rfl, rfl, rfl⟩
theorem ok_L_spades_x1 {G : GD} {n : Nat} {x1 : Int} {x2 : Int} {h h1 : Hp} (hF : fX5_spades x1 x2 h = some (.inr (1, h1))) : ConH G yL_spades cL_spades 5 (some .int) [(0, 10, 13, 18), (0, 10, 17, 13)] 8 [(2, ((0 : Nat) : Int)), (0, x1), (0, x2), (2, ((68 : Nat) : Int))] n h (FQ 0 n (2, h1)) := by
  refine conH_of (pad := 1) (own := RL) (by decide) rfl rfl ?_
  intro X hC hbt hst htab hr hZ hRm hn0
  show AW G X 0 [(2, ((0 : Nat) : Int)), (0, x1), (0, x2), (2, ((68 : Nat) : Int)), (9, 0)] [] n h 0 0
  refine aw_aload_n hC dL_spades_0 rfl ?_
  refine aw_iconst hC dL_spades_1 (by decide) ?_
  refine aw_aload_n hC dL_spades_2 rfl ?_
  refine aw_iload_n hC dL_spades_3 rfl ?_
  refine aw_iload_n hC dL_spades_4 rfl ?_
  refine aw_callVC (e := 1) (av := [(0, x1), (0, x2)]) (ci := 5) (a := 0) hC hRm hst dL_spades_5 rfl (by decide) rfl cwRL_59 cdl_X5_spades rfl rfl (Or.inl ⟨hbt, by decide⟩) (Nat.le_refl _) (by decide) (by decide) (by rw [hbt]; exact ok_X5_spades_x hF) [⟨0, 10, 13, 18⟩] ⟨0, 10, 17, 13⟩ [] htab (fun z hz => by rcases List.mem_cons.mp hz with rfl | hz; (exact Or.inr ⟨by decide, _, lwk18, nc_here hC⟩); exact absurd hz List.not_mem_nil) (by decide) (by decide) lwk13 lwc1 (fun q => ?_)
  refine aw_rstore hC dL_spades_17 (Nat.le_of_ble_eq_true rfl) rfl ?_
  refine aw_iconst hC dL_spades_19 (by decide) ?_
  exact aw_ireturn hC hZ (Nat.le_refl _) (Nat.le_refl _) hr dL_spades_20 ⟨rfl, rfl, rfl⟩
set_option maxRecDepth 20000 in
theorem cwRL_62 : ∀ w ∈ ([.methodLink RL 62 yX5_felling, .instanceMethod yX5_felling, .selects RX5 yX5_felling yX5_felling, .initialized RX5, .code yX5_felling cX5_felling 3 (some .int)] : List Cond), w ∈ TB := tb_all [1067, 1068, 1069, 105, 1070] rfl (by decide +kernel)
theorem cdl_X5_felling : yX5_felling.cls ≠ "java/lang/invoke/MethodHandle" ∧ yX5_felling.cls ≠ "java/lang/invoke/VarHandle" ∧ (parseMethodDescriptor yX5_felling.desc).map (fun d => d.parameters.length) = some 1 := by decide +kernel
theorem ok_L_felling_n {G : GD} {n : Nat} {x1 : Int} {h h1 : Hp} {r1 : Int} (hF : fX5_felling x1 h = some (.inl (r1, h1))) : ConH G yL_felling cL_felling 4 (some .int) [(0, 9, 12, 18)] 8 [(2, ((0 : Nat) : Int)), (0, x1), (2, ((68 : Nat) : Int))] n h (FQ 0 n (0, st h1 68 0 r1)) := by
  refine conH_of (pad := 1) (own := RL) (by decide) rfl rfl ?_
  intro X hC hbt hst htab hr hZ hRm hn0
  show AW G X 0 [(2, ((0 : Nat) : Int)), (0, x1), (2, ((68 : Nat) : Int)), (9, 0)] [] n h 0 0
  refine aw_aload_n hC dL_felling_0 rfl ?_
  refine aw_iconst hC dL_felling_1 (by decide) ?_
  refine aw_aload_n hC dL_felling_2 rfl ?_
  refine aw_iload_n hC dL_felling_3 rfl ?_
  refine aw_callV (av := [(0, x1)]) (ci := 5) (a := 0) hC hRm dL_felling_4 rfl (by decide) rfl cwRL_62 cdl_X5_felling rfl rfl (Or.inl ⟨hbt, by decide⟩) (Nat.le_refl _) (by decide) (Nat.zero_le _) (Nat.zero_le _) (by decide) (by rw [hbt]; exact ok_X5_felling_n hF) (fun v n' h' _ hQ => ?_)
  obtain ⟨rfl, rfl, rfl⟩ := hQ
  refine aw_i2l hC dL_felling_7 ?_
  refine aw_lastore (a := 68) (len := 1) hC dL_felling_8 rfl rfl (Or.inl ⟨hbt, by decide⟩) (by decide) (by decide) ?_
  refine aw_goto (tgt := 15) hC dL_felling_9 (by decide) ?_
  refine aw_iconst hC dL_felling_15 (by decide) ?_
  exact aw_ireturn hC hZ (Nat.zero_le _) (Nat.zero_le _) hr dL_felling_16 ⟨rfl, rfl, rfl⟩
theorem ok_L_felling_x0 {G : GD} {n : Nat} {x1 : Int} {h h1 : Hp} (hF : fX5_felling x1 h = some (.inr (0, h1))) : ConH G yL_felling cL_felling 4 (some .int) [(0, 9, 12, 18)] 8 [(2, ((0 : Nat) : Int)), (0, x1), (2, ((68 : Nat) : Int))] n h (FQ 0 n (1, h1)) := by
  refine conH_of (pad := 1) (own := RL) (by decide) rfl rfl ?_
  intro X hC hbt hst htab hr hZ hRm hn0
  show AW G X 0 [(2, ((0 : Nat) : Int)), (0, x1), (2, ((68 : Nat) : Int)), (9, 0)] [] n h 0 0
  refine aw_aload_n hC dL_felling_0 rfl ?_
  refine aw_iconst hC dL_felling_1 (by decide) ?_
  refine aw_aload_n hC dL_felling_2 rfl ?_
  refine aw_iload_n hC dL_felling_3 rfl ?_
  refine aw_callVC (e := 0) (av := [(0, x1)]) (ci := 5) (a := 0) hC hRm hst dL_felling_4 rfl (by decide) rfl cwRL_62 cdl_X5_felling rfl rfl (Or.inl ⟨hbt, by decide⟩) (Nat.le_refl _) (by decide) (by decide) (by rw [hbt]; exact ok_X5_felling_x hF) [] ⟨0, 9, 12, 18⟩ [] htab (fun z hz => absurd hz List.not_mem_nil) (by decide) (by decide) lwk18 lwc0 (fun q => ?_)
  refine aw_rstore_n hC dL_felling_12 (Nat.le_of_ble_eq_true rfl) rfl ?_
  refine aw_iconst hC dL_felling_13 (by decide) ?_
  exact aw_ireturn hC hZ (Nat.le_refl _) (Nat.le_refl _) hr dL_felling_14 ⟨rfl, rfl, rfl⟩
set_option maxRecDepth 20000 in
theorem cwRL_65 : ∀ w ∈ ([.methodLink RL 65 yX5_compare, .instanceMethod yX5_compare, .selects RX5 yX5_compare yX5_compare, .initialized RX5, .code yX5_compare cX5_compare 3 (some .int)] : List Cond), w ∈ TB := tb_all [1074, 1075, 1076, 105, 1077] rfl (by decide +kernel)
theorem cdl_X5_compare : yX5_compare.cls ≠ "java/lang/invoke/MethodHandle" ∧ yX5_compare.cls ≠ "java/lang/invoke/VarHandle" ∧ (parseMethodDescriptor yX5_compare.desc).map (fun d => d.parameters.length) = some 2 := by decide +kernel
theorem ok_L_compare_n {G : GD} {n : Nat} {x1 : Int} {x2 : Int} {h h1 : Hp} {r1 : Int} (hF : fX5_compare x1 x2 h = some (.inl (r1, h1))) : ConH G yL_compare cL_compare 5 (some .int) [(0, 10, 13, 18)] 8 [(2, ((0 : Nat) : Int)), (0, x1), (0, x2), (2, ((68 : Nat) : Int))] n h (FQ 0 n (0, st h1 68 0 r1)) := by
  refine conH_of (pad := 1) (own := RL) (by decide) rfl rfl ?_
  intro X hC hbt hst htab hr hZ hRm hn0
  show AW G X 0 [(2, ((0 : Nat) : Int)), (0, x1), (0, x2), (2, ((68 : Nat) : Int)), (9, 0)] [] n h 0 0
  refine aw_aload_n hC dL_compare_0 rfl ?_
  refine aw_iconst hC dL_compare_1 (by decide) ?_
  refine aw_aload_n hC dL_compare_2 rfl ?_
  refine aw_iload_n hC dL_compare_3 rfl ?_
  refine aw_iload_n hC dL_compare_4 rfl ?_
  refine aw_callV (av := [(0, x1), (0, x2)]) (ci := 5) (a := 0) hC hRm dL_compare_5 rfl (by decide) rfl cwRL_65 cdl_X5_compare rfl rfl (Or.inl ⟨hbt, by decide⟩) (Nat.le_refl _) (by decide) (Nat.zero_le _) (Nat.zero_le _) (by decide) (by rw [hbt]; exact ok_X5_compare_n hF) (fun v n' h' _ hQ => ?_)
  obtain ⟨rfl, rfl, rfl⟩ := hQ
  refine aw_i2l hC dL_compare_8 ?_
  refine aw_lastore (a := 68) (len := 1) hC dL_compare_9 rfl rfl (Or.inl ⟨hbt, by decide⟩) (by decide) (by decide) ?_
  refine aw_goto (tgt := 17) hC dL_compare_10 (by decide) ?_
  refine aw_iconst hC dL_compare_17 (by decide) ?_
  exact aw_ireturn hC hZ (Nat.zero_le _) (Nat.zero_le _) hr dL_compare_18 ⟨rfl, rfl, rfl⟩
theorem ok_L_compare_x0 {G : GD} {n : Nat} {x1 : Int} {x2 : Int} {h h1 : Hp} (hF : fX5_compare x1 x2 h = some (.inr (0, h1))) : ConH G yL_compare cL_compare 5 (some .int) [(0, 10, 13, 18)] 8 [(2, ((0 : Nat) : Int)), (0, x1), (0, x2), (2, ((68 : Nat) : Int))] n h (FQ 0 n (1, h1)) := by
  refine conH_of (pad := 1) (own := RL) (by decide) rfl rfl ?_
  intro X hC hbt hst htab hr hZ hRm hn0
  show AW G X 0 [(2, ((0 : Nat) : Int)), (0, x1), (0, x2), (2, ((68 : Nat) : Int)), (9, 0)] [] n h 0 0
  refine aw_aload_n hC dL_compare_0 rfl ?_
  refine aw_iconst hC dL_compare_1 (by decide) ?_
  refine aw_aload_n hC dL_compare_2 rfl ?_
  refine aw_iload_n hC dL_compare_3 rfl ?_
  refine aw_iload_n hC dL_compare_4 rfl ?_
  refine aw_callVC (e := 0) (av := [(0, x1), (0, x2)]) (ci := 5) (a := 0) hC hRm hst dL_compare_5 rfl (by decide) rfl cwRL_65 cdl_X5_compare rfl rfl (Or.inl ⟨hbt, by decide⟩) (Nat.le_refl _) (by decide) (by decide) (by rw [hbt]; exact ok_X5_compare_x hF) [] ⟨0, 10, 13, 18⟩ [] htab (fun z hz => absurd hz List.not_mem_nil) (by decide) (by decide) lwk18 lwc0 (fun q => ?_)
  refine aw_rstore hC dL_compare_13 (Nat.le_of_ble_eq_true rfl) rfl ?_
  refine aw_iconst hC dL_compare_15 (by decide) ?_
  exact aw_ireturn hC hZ (Nat.le_refl _) (Nat.le_refl _) hr dL_compare_16 ⟨rfl, rfl, rfl⟩
set_option maxRecDepth 20000 in
theorem cwRL_68 : ∀ w ∈ ([.methodLink RL 68 yX5_mildest, .instanceMethod yX5_mildest, .selects RX5 yX5_mildest yX5_mildest, .initialized RX5, .code yX5_mildest cX5_mildest 6 (some .int)] : List Cond), w ∈ TB := tb_all [1090, 1091, 1092, 105, 1093] rfl (by decide +kernel)
theorem cdl_X5_mildest : yX5_mildest.cls ≠ "java/lang/invoke/MethodHandle" ∧ yX5_mildest.cls ≠ "java/lang/invoke/VarHandle" ∧ (parseMethodDescriptor yX5_mildest.desc).map (fun d => d.parameters.length) = some 1 := by decide +kernel
theorem ok_L_mildest_n {G : GD} {n : Nat} {x1 : Int} {h h1 : Hp} {r1 : Int} (hF : fX5_mildest x1 h = some (.inl (r1, h1))) : ConH G yL_mildest cL_mildest 4 (some .int) [(0, 9, 12, 13)] 7 [(2, ((0 : Nat) : Int)), (0, x1), (2, ((68 : Nat) : Int))] n h (FQ 0 n (0, st h1 68 0 r1)) := by
  refine conH_of (pad := 1) (own := RL) (by decide) rfl rfl ?_
  intro X hC hbt hst htab hr hZ hRm hn0
  show AW G X 0 [(2, ((0 : Nat) : Int)), (0, x1), (2, ((68 : Nat) : Int)), (9, 0)] [] n h 0 0
  refine aw_aload_n hC dL_mildest_0 rfl ?_
  refine aw_iconst hC dL_mildest_1 (by decide) ?_
  refine aw_aload_n hC dL_mildest_2 rfl ?_
  refine aw_iload_n hC dL_mildest_3 rfl ?_
  refine aw_callV (av := [(0, x1)]) (ci := 5) (a := 0) hC hRm dL_mildest_4 rfl (by decide) rfl cwRL_68 cdl_X5_mildest rfl rfl (Or.inl ⟨hbt, by decide⟩) (Nat.le_refl _) (by decide) (Nat.zero_le _) (Nat.zero_le _) (by decide) (by rw [hbt]; exact ok_X5_mildest_n hF) (fun v n' h' _ hQ => ?_)
  obtain ⟨rfl, rfl, rfl⟩ := hQ
  refine aw_i2l hC dL_mildest_7 ?_
  refine aw_lastore (a := 68) (len := 1) hC dL_mildest_8 rfl rfl (Or.inl ⟨hbt, by decide⟩) (by decide) (by decide) ?_
  refine aw_goto (tgt := 15) hC dL_mildest_9 (by decide) ?_
  refine aw_iconst hC dL_mildest_15 (by decide) ?_
  exact aw_ireturn hC hZ (Nat.zero_le _) (Nat.zero_le _) hr dL_mildest_16 ⟨rfl, rfl, rfl⟩
theorem ok_L_mildest_x1 {G : GD} {n : Nat} {x1 : Int} {h h1 : Hp} (hF : fX5_mildest x1 h = some (.inr (1, h1))) : ConH G yL_mildest cL_mildest 4 (some .int) [(0, 9, 12, 13)] 7 [(2, ((0 : Nat) : Int)), (0, x1), (2, ((68 : Nat) : Int))] n h (FQ 0 n (1, h1)) := by
  refine conH_of (pad := 1) (own := RL) (by decide) rfl rfl ?_
  intro X hC hbt hst htab hr hZ hRm hn0
  show AW G X 0 [(2, ((0 : Nat) : Int)), (0, x1), (2, ((68 : Nat) : Int)), (9, 0)] [] n h 0 0
  refine aw_aload_n hC dL_mildest_0 rfl ?_
  refine aw_iconst hC dL_mildest_1 (by decide) ?_
  refine aw_aload_n hC dL_mildest_2 rfl ?_
  refine aw_iload_n hC dL_mildest_3 rfl ?_
  refine aw_callVC (e := 1) (av := [(0, x1)]) (ci := 5) (a := 0) hC hRm hst dL_mildest_4 rfl (by decide) rfl cwRL_68 cdl_X5_mildest rfl rfl (Or.inl ⟨hbt, by decide⟩) (Nat.le_refl _) (by decide) (by decide) (by rw [hbt]; exact ok_X5_mildest_x hF) [] ⟨0, 9, 12, 13⟩ [] htab (fun z hz => absurd hz List.not_mem_nil) (by decide) (by decide) lwk13 lwc1 (fun q => ?_)
  refine aw_rstore_n hC dL_mildest_12 (Nat.le_of_ble_eq_true rfl) rfl ?_
  refine aw_iconst hC dL_mildest_13 (by decide) ?_
  exact aw_ireturn hC hZ (Nat.le_refl _) (Nat.le_refl _) hr dL_mildest_14 ⟨rfl, rfl, rfl⟩
set_option maxRecDepth 20000 in
theorem cwRL_71 : ∀ w ∈ ([.methodLink RL 71 yX5_round, .instanceMethod yX5_round, .selects RX5 yX5_round yX5_round, .initialized RX5, .code yX5_round cX5_round 2 (some .int)] : List Cond), w ∈ TB := tb_all [1097, 1098, 1099, 105, 1100] rfl (by decide +kernel)
theorem cdl_X5_round : yX5_round.cls ≠ "java/lang/invoke/MethodHandle" ∧ yX5_round.cls ≠ "java/lang/invoke/VarHandle" ∧ (parseMethodDescriptor yX5_round.desc).map (fun d => d.parameters.length) = some 1 := by decide +kernel
theorem ok_L_round_n {G : GD} {n : Nat} {x1 : Int} {h h1 : Hp} {r1 : Int} (hF : fX5_round x1 h = some (.inl (r1, h1))) : ConH G yL_round cL_round 4 (some .int) [(0, 9, 12, 18)] 12 [(2, ((0 : Nat) : Int)), (0, x1), (2, ((68 : Nat) : Int))] n h (FQ 0 n (0, st h1 68 0 r1)) := by
  refine conH_of (pad := 1) (own := RL) (by decide) rfl rfl ?_
  intro X hC hbt hst htab hr hZ hRm hn0
  show AW G X 0 [(2, ((0 : Nat) : Int)), (0, x1), (2, ((68 : Nat) : Int)), (9, 0)] [] n h 0 0
  refine aw_aload_n hC dL_round_0 rfl ?_
  refine aw_iconst hC dL_round_1 (by decide) ?_
  refine aw_aload_n hC dL_round_2 rfl ?_
  refine aw_iload_n hC dL_round_3 rfl ?_
  refine aw_callV (av := [(0, x1)]) (ci := 5) (a := 0) hC hRm dL_round_4 rfl (by decide) rfl cwRL_71 cdl_X5_round rfl rfl (Or.inl ⟨hbt, by decide⟩) (Nat.le_refl _) (by decide) (Nat.zero_le _) (Nat.zero_le _) (by decide) (by rw [hbt]; exact ok_X5_round_n hF) (fun v n' h' _ hQ => ?_)
  obtain ⟨rfl, rfl, rfl⟩ := hQ
  refine aw_i2l hC dL_round_7 ?_
  refine aw_lastore (a := 68) (len := 1) hC dL_round_8 rfl rfl (Or.inl ⟨hbt, by decide⟩) (by decide) (by decide) ?_
  refine aw_goto (tgt := 15) hC dL_round_9 (by decide) ?_
  refine aw_iconst hC dL_round_15 (by decide) ?_
  exact aw_ireturn hC hZ (Nat.zero_le _) (Nat.zero_le _) hr dL_round_16 ⟨rfl, rfl, rfl⟩
theorem ok_L_round_x0 {G : GD} {n : Nat} {x1 : Int} {h h1 : Hp} (hF : fX5_round x1 h = some (.inr (0, h1))) : ConH G yL_round cL_round 4 (some .int) [(0, 9, 12, 18)] 12 [(2, ((0 : Nat) : Int)), (0, x1), (2, ((68 : Nat) : Int))] n h (FQ 0 n (1, h1)) := by
  refine conH_of (pad := 1) (own := RL) (by decide) rfl rfl ?_
  intro X hC hbt hst htab hr hZ hRm hn0
  show AW G X 0 [(2, ((0 : Nat) : Int)), (0, x1), (2, ((68 : Nat) : Int)), (9, 0)] [] n h 0 0
  refine aw_aload_n hC dL_round_0 rfl ?_
  refine aw_iconst hC dL_round_1 (by decide) ?_
  refine aw_aload_n hC dL_round_2 rfl ?_
  refine aw_iload_n hC dL_round_3 rfl ?_
  refine aw_callVC (e := 0) (av := [(0, x1)]) (ci := 5) (a := 0) hC hRm hst dL_round_4 rfl (by decide) rfl cwRL_71 cdl_X5_round rfl rfl (Or.inl ⟨hbt, by decide⟩) (Nat.le_refl _) (by decide) (by decide) (by rw [hbt]; exact ok_X5_round_x hF) [] ⟨0, 9, 12, 18⟩ [] htab (fun z hz => absurd hz List.not_mem_nil) (by decide) (by decide) lwk18 lwc0 (fun q => ?_)
  refine aw_rstore_n hC dL_round_12 (Nat.le_of_ble_eq_true rfl) rfl ?_
  refine aw_iconst hC dL_round_13 (by decide) ?_
  exact aw_ireturn hC hZ (Nat.le_refl _) (Nat.le_refl _) hr dL_round_14 ⟨rfl, rfl, rfl⟩
set_option maxRecDepth 20000 in
theorem cwRL_74 : ∀ w ∈ ([.methodLink RL 74 yX5_stop, .instanceMethod yX5_stop, .selects RX5 yX5_stop yX5_stop, .initialized RX5, .code yX5_stop cX5_stop 2 (some .int)] : List Cond), w ∈ TB := tb_all [1122, 1123, 1124, 105, 1125] rfl (by decide +kernel)
theorem cdl_X5_stop : yX5_stop.cls ≠ "java/lang/invoke/MethodHandle" ∧ yX5_stop.cls ≠ "java/lang/invoke/VarHandle" ∧ (parseMethodDescriptor yX5_stop.desc).map (fun d => d.parameters.length) = some 1 := by decide +kernel
theorem ok_L_stop_n {G : GD} {n : Nat} {x1 : Int} {h h1 : Hp} {r1 : Int} (hF : fX5_stop x1 h = some (.inl (r1, h1))) : ConH G yL_stop cL_stop 4 (some .int) [(0, 9, 12, 18)] 7 [(2, ((0 : Nat) : Int)), (0, x1), (2, ((68 : Nat) : Int))] n h (FQ 0 n (0, st h1 68 0 r1)) := by
  refine conH_of (pad := 1) (own := RL) (by decide) rfl rfl ?_
  intro X hC hbt hst htab hr hZ hRm hn0
  show AW G X 0 [(2, ((0 : Nat) : Int)), (0, x1), (2, ((68 : Nat) : Int)), (9, 0)] [] n h 0 0
  refine aw_aload_n hC dL_stop_0 rfl ?_
  refine aw_iconst hC dL_stop_1 (by decide) ?_
  refine aw_aload_n hC dL_stop_2 rfl ?_
  refine aw_iload_n hC dL_stop_3 rfl ?_
  refine aw_callV (av := [(0, x1)]) (ci := 5) (a := 0) hC hRm dL_stop_4 rfl (by decide) rfl cwRL_74 cdl_X5_stop rfl rfl (Or.inl ⟨hbt, by decide⟩) (Nat.le_refl _) (by decide) (Nat.zero_le _) (Nat.zero_le _) (by decide) (by rw [hbt]; exact ok_X5_stop_n hF) (fun v n' h' _ hQ => ?_)
  obtain ⟨rfl, rfl, rfl⟩ := hQ
  refine aw_i2l hC dL_stop_7 ?_
  refine aw_lastore (a := 68) (len := 1) hC dL_stop_8 rfl rfl (Or.inl ⟨hbt, by decide⟩) (by decide) (by decide) ?_
  refine aw_goto (tgt := 15) hC dL_stop_9 (by decide) ?_
  refine aw_iconst hC dL_stop_15 (by decide) ?_
  exact aw_ireturn hC hZ (Nat.zero_le _) (Nat.zero_le _) hr dL_stop_16 ⟨rfl, rfl, rfl⟩
theorem ok_L_stop_x0 {G : GD} {n : Nat} {x1 : Int} {h h1 : Hp} (hF : fX5_stop x1 h = some (.inr (0, h1))) : ConH G yL_stop cL_stop 4 (some .int) [(0, 9, 12, 18)] 7 [(2, ((0 : Nat) : Int)), (0, x1), (2, ((68 : Nat) : Int))] n h (FQ 0 n (1, h1)) := by
  refine conH_of (pad := 1) (own := RL) (by decide) rfl rfl ?_
  intro X hC hbt hst htab hr hZ hRm hn0
  show AW G X 0 [(2, ((0 : Nat) : Int)), (0, x1), (2, ((68 : Nat) : Int)), (9, 0)] [] n h 0 0
  refine aw_aload_n hC dL_stop_0 rfl ?_
  refine aw_iconst hC dL_stop_1 (by decide) ?_
  refine aw_aload_n hC dL_stop_2 rfl ?_
  refine aw_iload_n hC dL_stop_3 rfl ?_
  refine aw_callVC (e := 0) (av := [(0, x1)]) (ci := 5) (a := 0) hC hRm hst dL_stop_4 rfl (by decide) rfl cwRL_74 cdl_X5_stop rfl rfl (Or.inl ⟨hbt, by decide⟩) (Nat.le_refl _) (by decide) (by decide) (by rw [hbt]; exact ok_X5_stop_x hF) [] ⟨0, 9, 12, 18⟩ [] htab (fun z hz => absurd hz List.not_mem_nil) (by decide) (by decide) lwk18 lwc0 (fun q => ?_)
  refine aw_rstore_n hC dL_stop_12 (Nat.le_of_ble_eq_true rfl) rfl ?_
  refine aw_iconst hC dL_stop_13 (by decide) ?_
  exact aw_ireturn hC hZ (Nat.le_refl _) (Nat.le_refl _) hr dL_stop_14 ⟨rfl, rfl, rfl⟩
set_option maxRecDepth 20000 in
theorem cwRL_77 : ∀ w ∈ ([.methodLink RL 77 yX5_barns, .instanceMethod yX5_barns, .selects RX5 yX5_barns yX5_barns, .initialized RX5, .code yX5_barns cX5_barns 12 (some .int)] : List Cond), w ∈ TB := tb_all [1130, 1131, 1132, 105, 1133] rfl (by decide +kernel)
theorem cdl_X5_barns : yX5_barns.cls ≠ "java/lang/invoke/MethodHandle" ∧ yX5_barns.cls ≠ "java/lang/invoke/VarHandle" ∧ (parseMethodDescriptor yX5_barns.desc).map (fun d => d.parameters.length) = some 5 := by decide +kernel
theorem ok_L_barns_n {G : GD} {n : Nat} {x1 : Int} {x2 : Int} {x3 : Int} {x4 : Int} {x5 : Int} {h h1 : Hp} {r1 : Int} (hF : fX5_barns x1 x2 x3 x4 x5 h = some (.inl (r1, h1))) : ConH G yL_barns cL_barns 8 (some .int) [(0, 16, 19, 18), (0, 16, 23, 13)] 8 [(2, ((0 : Nat) : Int)), (0, x1), (0, x2), (0, x3), (0, x4), (0, x5), (2, ((68 : Nat) : Int))] n h (FQ 0 n (0, st h1 68 0 r1)) := by
  refine conH_of (pad := 1) (own := RL) (by decide) rfl rfl ?_
  intro X hC hbt hst htab hr hZ hRm hn0
  show AW G X 0 [(2, ((0 : Nat) : Int)), (0, x1), (0, x2), (0, x3), (0, x4), (0, x5), (2, ((68 : Nat) : Int)), (9, 0)] [] n h 0 0
  refine aw_aload hC dL_barns_0 rfl ?_
  refine aw_iconst hC dL_barns_2 (by decide) ?_
  refine aw_aload_n hC dL_barns_3 rfl ?_
  refine aw_iload_n hC dL_barns_4 rfl ?_
  refine aw_iload_n hC dL_barns_5 rfl ?_
  refine aw_iload_n hC dL_barns_6 rfl ?_
  refine aw_iload hC dL_barns_7 rfl ?_
  refine aw_iload hC dL_barns_9 rfl ?_
  refine aw_callV (av := [(0, x1), (0, x2), (0, x3), (0, x4), (0, x5)]) (ci := 5) (a := 0) hC hRm dL_barns_11 rfl (by decide) rfl cwRL_77 cdl_X5_barns rfl rfl (Or.inl ⟨hbt, by decide⟩) (Nat.le_refl _) (by decide) (Nat.zero_le _) (Nat.zero_le _) (by decide) (by rw [hbt]; exact ok_X5_barns_n hF) (fun v n' h' _ hQ => ?_)
  obtain ⟨rfl, rfl, rfl⟩ := hQ
  refine aw_i2l hC dL_barns_14 ?_
  refine aw_lastore (a := 68) (len := 1) hC dL_barns_15 rfl rfl (Or.inl ⟨hbt, by decide⟩) (by decide) (by decide) ?_
  refine aw_goto (tgt := 27) hC dL_barns_16 (by decide) ?_
  refine aw_iconst hC dL_barns_27 (by decide) ?_
  exact aw_ireturn hC hZ (Nat.zero_le _) (Nat.zero_le _) hr dL_barns_28 ⟨rfl, rfl, rfl⟩
theorem ok_L_barns_x0 {G : GD} {n : Nat} {x1 : Int} {x2 : Int} {x3 : Int} {x4 : Int} {x5 : Int} {h h1 : Hp} (hF : fX5_barns x1 x2 x3 x4 x5 h = some (.inr (0, h1))) : ConH G yL_barns cL_barns 8 (some .int) [(0, 16, 19, 18), (0, 16, 23, 13)] 8 [(2, ((0 : Nat) : Int)), (0, x1), (0, x2), (0, x3), (0, x4), (0, x5), (2, ((68 : Nat) : Int))] n h (FQ 0 n (1, h1)) := by
  refine conH_of (pad := 1) (own := RL) (by decide) rfl rfl ?_
  intro X hC hbt hst htab hr hZ hRm hn0
  show AW G X 0 [(2, ((0 : Nat) : Int)), (0, x1), (0, x2), (0, x3), (0, x4), (0, x5), (2, ((68 : Nat) : Int)), (9, 0)] [] n h 0 0
  refine aw_aload hC dL_barns_0 rfl ?_
  refine aw_iconst hC dL_barns_2 (by decide) ?_
  refine aw_aload_n hC dL_barns_3 rfl ?_
  refine aw_iload_n hC dL_barns_4 rfl ?_
  refine aw_iload_n hC dL_barns_5 rfl ?_
  refine aw_iload_n hC dL_barns_6 rfl ?_
  refine aw_iload hC dL_barns_7 rfl ?_
  refine aw_iload hC dL_barns_9 rfl ?_
  refine aw_callVC (e := 0) (av := [(0, x1), (0, x2), (0, x3), (0, x4), (0, x5)]) (ci := 5) (a := 0) hC hRm hst dL_barns_11 rfl (by decide) rfl cwRL_77 cdl_X5_barns rfl rfl (Or.inl ⟨hbt, by decide⟩) (Nat.le_refl _) (by decide) (by decide) (by rw [hbt]; exact ok_X5_barns_x hF) [] ⟨0, 16, 19, 18⟩ [⟨0, 16, 23, 13⟩] htab (fun z hz => absurd hz List.not_mem_nil) (by decide) (by decide) lwk18 lwc0 (fun q => ?_)
  refine aw_rstore hC dL_barns_19 (Nat.le_of_ble_eq_true rfl) rfl ?_
  refine aw_iconst hC dL_barns_21 (by decide) ?_
  exact aw_ireturn hC hZ (Nat.le_refl _) (Nat.le_refl _) hr dL_barns_22 ⟨rfl, rfl, rfl⟩
theorem ok_L_barns_x1 {G : GD} {n : Nat} {x1 : Int} {x2 : Int} {x3 : Int} {x4 : Int} {x5 : Int} {h h1 : Hp} (hF : fX5_barns x1 x2 x3 x4 x5 h = some (.inr (1, h1))) : ConH G yL_barns cL_barns 8 (some .int) [(0, 16, 19, 18), (0, 16, 23, 13)] 8 [(2, ((0 : Nat) : Int)), (0, x1), (0, x2), (0, x3), (0, x4), (0, x5), (2, ((68 : Nat) : Int))] n h (FQ 0 n (2, h1)) := by
  refine conH_of (pad := 1) (own := RL) (by decide) rfl rfl ?_
  intro X hC hbt hst htab hr hZ hRm hn0
  show AW G X 0 [(2, ((0 : Nat) : Int)), (0, x1), (0, x2), (0, x3), (0, x4), (0, x5), (2, ((68 : Nat) : Int)), (9, 0)] [] n h 0 0
  refine aw_aload hC dL_barns_0 rfl ?_
  refine aw_iconst hC dL_barns_2 (by decide) ?_
  refine aw_aload_n hC dL_barns_3 rfl ?_
  refine aw_iload_n hC dL_barns_4 rfl ?_
  refine aw_iload_n hC dL_barns_5 rfl ?_
  refine aw_iload_n hC dL_barns_6 rfl ?_
  refine aw_iload hC dL_barns_7 rfl ?_
  refine aw_iload hC dL_barns_9 rfl ?_
  refine aw_callVC (e := 1) (av := [(0, x1), (0, x2), (0, x3), (0, x4), (0, x5)]) (ci := 5) (a := 0) hC hRm hst dL_barns_11 rfl (by decide) rfl cwRL_77 cdl_X5_barns rfl rfl (Or.inl ⟨hbt, by decide⟩) (Nat.le_refl _) (by decide) (by decide) (by rw [hbt]; exact ok_X5_barns_x hF) [⟨0, 16, 19, 18⟩] ⟨0, 16, 23, 13⟩ [] htab (fun z hz => by rcases List.mem_cons.mp hz with rfl | hz; (exact Or.inr ⟨by decide, _, lwk18, nc_here hC⟩); exact absurd hz List.not_mem_nil) (by decide) (by decide) lwk13 lwc1 (fun q => ?_)
  refine aw_rstore hC dL_barns_23 (Nat.le_of_ble_eq_true rfl) rfl ?_
  refine aw_iconst hC dL_barns_25 (by decide) ?_
  exact aw_ireturn hC hZ (Nat.le_refl _) (Nat.le_refl _) hr dL_barns_26 ⟨rfl, rfl, rfl⟩
set_option maxRecDepth 20000 in
theorem cwRL_81 : ∀ w ∈ ([.methodLink RL 81 yX5_tell, .instanceMethod yX5_tell, .selects RX5 yX5_tell yX5_tell, .initialized RX5, .code yX5_tell cX5_tell 3 (some .int)] : List Cond), w ∈ TB := tb_all [1146, 1147, 1148, 105, 1149] rfl (by decide +kernel)
theorem cdl_X5_tell : yX5_tell.cls ≠ "java/lang/invoke/MethodHandle" ∧ yX5_tell.cls ≠ "java/lang/invoke/VarHandle" ∧ (parseMethodDescriptor yX5_tell.desc).map (fun d => d.parameters.length) = some 2 := by decide +kernel
theorem ok_L_tell_n {G : GD} {n : Nat} {x1 : Int} {x2 : Int} {h h1 : Hp} {r1 : Int} (hF : fX5_tell x1 x2 h = some (.inl (r1, h1))) : ConH G yL_tell cL_tell 5 (some .int) [(0, 10, 13, 18)] 8 [(2, ((0 : Nat) : Int)), (0, x1), (0, x2), (2, ((68 : Nat) : Int))] n h (FQ 0 n (0, st h1 68 0 r1)) := by
  refine conH_of (pad := 1) (own := RL) (by decide) rfl rfl ?_
  intro X hC hbt hst htab hr hZ hRm hn0
  show AW G X 0 [(2, ((0 : Nat) : Int)), (0, x1), (0, x2), (2, ((68 : Nat) : Int)), (9, 0)] [] n h 0 0
  refine aw_aload_n hC dL_tell_0 rfl ?_
  refine aw_iconst hC dL_tell_1 (by decide) ?_
  refine aw_aload_n hC dL_tell_2 rfl ?_
  refine aw_iload_n hC dL_tell_3 rfl ?_
  refine aw_iload_n hC dL_tell_4 rfl ?_
  refine aw_callV (av := [(0, x1), (0, x2)]) (ci := 5) (a := 0) hC hRm dL_tell_5 rfl (by decide) rfl cwRL_81 cdl_X5_tell rfl rfl (Or.inl ⟨hbt, by decide⟩) (Nat.le_refl _) (by decide) (Nat.zero_le _) (Nat.zero_le _) (by decide) (by rw [hbt]; exact ok_X5_tell_n hF) (fun v n' h' _ hQ => ?_)
  obtain ⟨rfl, rfl, rfl⟩ := hQ
  refine aw_i2l hC dL_tell_8 ?_
  refine aw_lastore (a := 68) (len := 1) hC dL_tell_9 rfl rfl (Or.inl ⟨hbt, by decide⟩) (by decide) (by decide) ?_
  refine aw_goto (tgt := 17) hC dL_tell_10 (by decide) ?_
  refine aw_iconst hC dL_tell_17 (by decide) ?_
  exact aw_ireturn hC hZ (Nat.zero_le _) (Nat.zero_le _) hr dL_tell_18 ⟨rfl, rfl, rfl⟩
theorem ok_L_tell_x0 {G : GD} {n : Nat} {x1 : Int} {x2 : Int} {h h1 : Hp} (hF : fX5_tell x1 x2 h = some (.inr (0, h1))) : ConH G yL_tell cL_tell 5 (some .int) [(0, 10, 13, 18)] 8 [(2, ((0 : Nat) : Int)), (0, x1), (0, x2), (2, ((68 : Nat) : Int))] n h (FQ 0 n (1, h1)) := by
  refine conH_of (pad := 1) (own := RL) (by decide) rfl rfl ?_
  intro X hC hbt hst htab hr hZ hRm hn0
  show AW G X 0 [(2, ((0 : Nat) : Int)), (0, x1), (0, x2), (2, ((68 : Nat) : Int)), (9, 0)] [] n h 0 0
  refine aw_aload_n hC dL_tell_0 rfl ?_
  refine aw_iconst hC dL_tell_1 (by decide) ?_
  refine aw_aload_n hC dL_tell_2 rfl ?_
  refine aw_iload_n hC dL_tell_3 rfl ?_
  refine aw_iload_n hC dL_tell_4 rfl ?_
  refine aw_callVC (e := 0) (av := [(0, x1), (0, x2)]) (ci := 5) (a := 0) hC hRm hst dL_tell_5 rfl (by decide) rfl cwRL_81 cdl_X5_tell rfl rfl (Or.inl ⟨hbt, by decide⟩) (Nat.le_refl _) (by decide) (by decide) (by rw [hbt]; exact ok_X5_tell_x hF) [] ⟨0, 10, 13, 18⟩ [] htab (fun z hz => absurd hz List.not_mem_nil) (by decide) (by decide) lwk18 lwc0 (fun q => ?_)
  refine aw_rstore hC dL_tell_13 (Nat.le_of_ble_eq_true rfl) rfl ?_
  refine aw_iconst hC dL_tell_15 (by decide) ?_
  exact aw_ireturn hC hZ (Nat.le_refl _) (Nat.le_refl _) hr dL_tell_16 ⟨rfl, rfl, rfl⟩
set_option maxRecDepth 20000 in
theorem cwRL_84 : ∀ w ∈ ([.methodLink RL 84 yX5_heights, .instanceMethod yX5_heights, .selects RX5 yX5_heights yX5_heights, .initialized RX5, .code yX5_heights cX5_heights 6 (some .int)] : List Cond), w ∈ TB := tb_all [1157, 1158, 1159, 105, 1160] rfl (by decide +kernel)
theorem cdl_X5_heights : yX5_heights.cls ≠ "java/lang/invoke/MethodHandle" ∧ yX5_heights.cls ≠ "java/lang/invoke/VarHandle" ∧ (parseMethodDescriptor yX5_heights.desc).map (fun d => d.parameters.length) = some 2 := by decide +kernel
theorem ok_L_heights_n {G : GD} {n : Nat} {x1 : Int} {x2 : Int} {h h1 : Hp} {r1 : Int} (hF : fX5_heights x1 x2 h = some (.inl (r1, h1))) : ConH G yL_heights cL_heights 5 (some .int) [(0, 10, 13, 18)] 8 [(2, ((0 : Nat) : Int)), (0, x1), (0, x2), (2, ((68 : Nat) : Int))] n h (FQ 0 n (0, st h1 68 0 r1)) := by
  refine conH_of (pad := 1) (own := RL) (by decide) rfl rfl ?_
  intro X hC hbt hst htab hr hZ hRm hn0
  show AW G X 0 [(2, ((0 : Nat) : Int)), (0, x1), (0, x2), (2, ((68 : Nat) : Int)), (9, 0)] [] n h 0 0
  refine aw_aload_n hC dL_heights_0 rfl ?_
  refine aw_iconst hC dL_heights_1 (by decide) ?_
  refine aw_aload_n hC dL_heights_2 rfl ?_
  refine aw_iload_n hC dL_heights_3 rfl ?_
  refine aw_iload_n hC dL_heights_4 rfl ?_
  refine aw_callV (av := [(0, x1), (0, x2)]) (ci := 5) (a := 0) hC hRm dL_heights_5 rfl (by decide) rfl cwRL_84 cdl_X5_heights rfl rfl (Or.inl ⟨hbt, by decide⟩) (Nat.le_refl _) (by decide) (Nat.zero_le _) (Nat.zero_le _) (by decide) (by rw [hbt]; exact ok_X5_heights_n hF) (fun v n' h' _ hQ => ?_)
  obtain ⟨rfl, rfl, rfl⟩ := hQ
  refine aw_i2l hC dL_heights_8 ?_
  refine aw_lastore (a := 68) (len := 1) hC dL_heights_9 rfl rfl (Or.inl ⟨hbt, by decide⟩) (by decide) (by decide) ?_
  refine aw_goto (tgt := 17) hC dL_heights_10 (by decide) ?_
  refine aw_iconst hC dL_heights_17 (by decide) ?_
  exact aw_ireturn hC hZ (Nat.zero_le _) (Nat.zero_le _) hr dL_heights_18 ⟨rfl, rfl, rfl⟩
theorem ok_L_heights_x0 {G : GD} {n : Nat} {x1 : Int} {x2 : Int} {h h1 : Hp} (hF : fX5_heights x1 x2 h = some (.inr (0, h1))) : ConH G yL_heights cL_heights 5 (some .int) [(0, 10, 13, 18)] 8 [(2, ((0 : Nat) : Int)), (0, x1), (0, x2), (2, ((68 : Nat) : Int))] n h (FQ 0 n (1, h1)) := by
  refine conH_of (pad := 1) (own := RL) (by decide) rfl rfl ?_
  intro X hC hbt hst htab hr hZ hRm hn0
  show AW G X 0 [(2, ((0 : Nat) : Int)), (0, x1), (0, x2), (2, ((68 : Nat) : Int)), (9, 0)] [] n h 0 0
  refine aw_aload_n hC dL_heights_0 rfl ?_
  refine aw_iconst hC dL_heights_1 (by decide) ?_
  refine aw_aload_n hC dL_heights_2 rfl ?_
  refine aw_iload_n hC dL_heights_3 rfl ?_
  refine aw_iload_n hC dL_heights_4 rfl ?_
  refine aw_callVC (e := 0) (av := [(0, x1), (0, x2)]) (ci := 5) (a := 0) hC hRm hst dL_heights_5 rfl (by decide) rfl cwRL_84 cdl_X5_heights rfl rfl (Or.inl ⟨hbt, by decide⟩) (Nat.le_refl _) (by decide) (by decide) (by rw [hbt]; exact ok_X5_heights_x hF) [] ⟨0, 10, 13, 18⟩ [] htab (fun z hz => absurd hz List.not_mem_nil) (by decide) (by decide) lwk18 lwc0 (fun q => ?_)
  refine aw_rstore hC dL_heights_13 (Nat.le_of_ble_eq_true rfl) rfl ?_
  refine aw_iconst hC dL_heights_15 (by decide) ?_
  exact aw_ireturn hC hZ (Nat.le_refl _) (Nat.le_refl _) hr dL_heights_16 ⟨rfl, rfl, rfl⟩
set_option maxRecDepth 20000 in
theorem cwRL_87 : ∀ w ∈ ([.methodLink RL 87 yX5_decades, .instanceMethod yX5_decades, .selects RX5 yX5_decades yX5_decades, .initialized RX5, .code yX5_decades cX5_decades 8 (some .int)] : List Cond), w ∈ TB := tb_all [1164, 1165, 1166, 105, 1167] rfl (by decide +kernel)
theorem cdl_X5_decades : yX5_decades.cls ≠ "java/lang/invoke/MethodHandle" ∧ yX5_decades.cls ≠ "java/lang/invoke/VarHandle" ∧ (parseMethodDescriptor yX5_decades.desc).map (fun d => d.parameters.length) = some 3 := by decide +kernel
theorem ok_L_decades_n {G : GD} {n : Nat} {x1 : Int} {x2 : Int} {x3 : Int} {h h1 : Hp} {r1 : Int} (hF : fX5_decades x1 x2 x3 h = some (.inl (r1, h1))) : ConH G yL_decades cL_decades 6 (some .int) [(0, 12, 15, 18), (0, 12, 19, 13)] 8 [(2, ((0 : Nat) : Int)), (0, x1), (0, x2), (0, x3), (2, ((68 : Nat) : Int))] n h (FQ 0 n (0, st h1 68 0 r1)) := by
  refine conH_of (pad := 1) (own := RL) (by decide) rfl rfl ?_
  intro X hC hbt hst htab hr hZ hRm hn0
  show AW G X 0 [(2, ((0 : Nat) : Int)), (0, x1), (0, x2), (0, x3), (2, ((68 : Nat) : Int)), (9, 0)] [] n h 0 0
  refine aw_aload hC dL_decades_0 rfl ?_
  refine aw_iconst hC dL_decades_2 (by decide) ?_
  refine aw_aload_n hC dL_decades_3 rfl ?_
  refine aw_iload_n hC dL_decades_4 rfl ?_
  refine aw_iload_n hC dL_decades_5 rfl ?_
  refine aw_iload_n hC dL_decades_6 rfl ?_
  refine aw_callV (av := [(0, x1), (0, x2), (0, x3)]) (ci := 5) (a := 0) hC hRm dL_decades_7 rfl (by decide) rfl cwRL_87 cdl_X5_decades rfl rfl (Or.inl ⟨hbt, by decide⟩) (Nat.le_refl _) (by decide) (Nat.zero_le _) (Nat.zero_le _) (by decide) (by rw [hbt]; exact ok_X5_decades_n hF) (fun v n' h' _ hQ => ?_)
  obtain ⟨rfl, rfl, rfl⟩ := hQ
  refine aw_i2l hC dL_decades_10 ?_
  refine aw_lastore (a := 68) (len := 1) hC dL_decades_11 rfl rfl (Or.inl ⟨hbt, by decide⟩) (by decide) (by decide) ?_
  refine aw_goto (tgt := 23) hC dL_decades_12 (by decide) ?_
  refine aw_iconst hC dL_decades_23 (by decide) ?_
  exact aw_ireturn hC hZ (Nat.zero_le _) (Nat.zero_le _) hr dL_decades_24 ⟨rfl, rfl, rfl⟩
theorem ok_L_decades_x0 {G : GD} {n : Nat} {x1 : Int} {x2 : Int} {x3 : Int} {h h1 : Hp} (hF : fX5_decades x1 x2 x3 h = some (.inr (0, h1))) : ConH G yL_decades cL_decades 6 (some .int) [(0, 12, 15, 18), (0, 12, 19, 13)] 8 [(2, ((0 : Nat) : Int)), (0, x1), (0, x2), (0, x3), (2, ((68 : Nat) : Int))] n h (FQ 0 n (1, h1)) := by
  refine conH_of (pad := 1) (own := RL) (by decide) rfl rfl ?_
  intro X hC hbt hst htab hr hZ hRm hn0
  show AW G X 0 [(2, ((0 : Nat) : Int)), (0, x1), (0, x2), (0, x3), (2, ((68 : Nat) : Int)), (9, 0)] [] n h 0 0
  refine aw_aload hC dL_decades_0 rfl ?_
  refine aw_iconst hC dL_decades_2 (by decide) ?_
  refine aw_aload_n hC dL_decades_3 rfl ?_
  refine aw_iload_n hC dL_decades_4 rfl ?_
  refine aw_iload_n hC dL_decades_5 rfl ?_
  refine aw_iload_n hC dL_decades_6 rfl ?_
  refine aw_callVC (e := 0) (av := [(0, x1), (0, x2), (0, x3)]) (ci := 5) (a := 0) hC hRm hst dL_decades_7 rfl (by decide) rfl cwRL_87 cdl_X5_decades rfl rfl (Or.inl ⟨hbt, by decide⟩) (Nat.le_refl _) (by decide) (by decide) (by rw [hbt]; exact ok_X5_decades_x hF) [] ⟨0, 12, 15, 18⟩ [⟨0, 12, 19, 13⟩] htab (fun z hz => absurd hz List.not_mem_nil) (by decide) (by decide) lwk18 lwc0 (fun q => ?_)
  refine aw_rstore hC dL_decades_15 (Nat.le_of_ble_eq_true rfl) rfl ?_
  refine aw_iconst hC dL_decades_17 (by decide) ?_
  exact aw_ireturn hC hZ (Nat.le_refl _) (Nat.le_refl _) hr dL_decades_18 ⟨rfl, rfl, rfl⟩
theorem ok_L_decades_x1 {G : GD} {n : Nat} {x1 : Int} {x2 : Int} {x3 : Int} {h h1 : Hp} (hF : fX5_decades x1 x2 x3 h = some (.inr (1, h1))) : ConH G yL_decades cL_decades 6 (some .int) [(0, 12, 15, 18), (0, 12, 19, 13)] 8 [(2, ((0 : Nat) : Int)), (0, x1), (0, x2), (0, x3), (2, ((68 : Nat) : Int))] n h (FQ 0 n (2, h1)) := by
  refine conH_of (pad := 1) (own := RL) (by decide) rfl rfl ?_
  intro X hC hbt hst htab hr hZ hRm hn0
  show AW G X 0 [(2, ((0 : Nat) : Int)), (0, x1), (0, x2), (0, x3), (2, ((68 : Nat) : Int)), (9, 0)] [] n h 0 0
  refine aw_aload hC dL_decades_0 rfl ?_
  refine aw_iconst hC dL_decades_2 (by decide) ?_
  refine aw_aload_n hC dL_decades_3 rfl ?_
  refine aw_iload_n hC dL_decades_4 rfl ?_
  refine aw_iload_n hC dL_decades_5 rfl ?_
  refine aw_iload_n hC dL_decades_6 rfl ?_
  refine aw_callVC (e := 1) (av := [(0, x1), (0, x2), (0, x3)]) (ci := 5) (a := 0) hC hRm hst dL_decades_7 rfl (by decide) rfl cwRL_87 cdl_X5_decades rfl rfl (Or.inl ⟨hbt, by decide⟩) (Nat.le_refl _) (by decide) (by decide) (by rw [hbt]; exact ok_X5_decades_x hF) [⟨0, 12, 15, 18⟩] ⟨0, 12, 19, 13⟩ [] htab (fun z hz => by rcases List.mem_cons.mp hz with rfl | hz; (exact Or.inr ⟨by decide, _, lwk18, nc_here hC⟩); exact absurd hz List.not_mem_nil) (by decide) (by decide) lwk13 lwc1 (fun q => ?_)
  refine aw_rstore hC dL_decades_19 (Nat.le_of_ble_eq_true rfl) rfl ?_
  refine aw_iconst hC dL_decades_21 (by decide) ?_
  exact aw_ireturn hC hZ (Nat.le_refl _) (Nat.le_refl _) hr dL_decades_22 ⟨rfl, rfl, rfl⟩
set_option maxRecDepth 20000 in
theorem cwRL_91 : ∀ w ∈ ([.methodLink RL 91 yX5_hollow, .instanceMethod yX5_hollow, .selects RX5 yX5_hollow yX5_hollow, .initialized RX5, .code yX5_hollow cX5_hollow 8 (some .int)] : List Cond), w ∈ TB := tb_all [1179, 1180, 1181, 105, 1182] rfl (by decide +kernel)
theorem cdl_X5_hollow : yX5_hollow.cls ≠ "java/lang/invoke/MethodHandle" ∧ yX5_hollow.cls ≠ "java/lang/invoke/VarHandle" ∧ (parseMethodDescriptor yX5_hollow.desc).map (fun d => d.parameters.length) = some 1 := by decide +kernel
theorem ok_L_hollow_n {G : GD} {n : Nat} {x1 : Int} {h h1 : Hp} {r1 : Int} (hF : fX5_hollow x1 h = some (.inl (r1, h1))) : ConH G yL_hollow cL_hollow 4 (some .int) [(0, 9, 12, 18)] 8 [(2, ((0 : Nat) : Int)), (0, x1), (2, ((68 : Nat) : Int))] n h (FQ 0 n (0, st h1 68 0 r1)) := by
  refine conH_of (pad := 1) (own := RL) (by decide) rfl rfl ?_
  intro X hC hbt hst htab hr hZ hRm hn0
  show AW G X 0 [(2, ((0 : Nat) : Int)), (0, x1), (2, ((68 : Nat) : Int)), (9, 0)] [] n h 0 0
  refine aw_aload_n hC dL_hollow_0 rfl ?_
  refine aw_iconst hC dL_hollow_1 (by decide) ?_
  refine aw_aload_n hC dL_hollow_2 rfl ?_
  refine aw_iload_n hC dL_hollow_3 rfl ?_
  refine aw_callV (av := [(0, x1)]) (ci := 5) (a := 0) hC hRm dL_hollow_4 rfl (by decide) rfl cwRL_91 cdl_X5_hollow rfl rfl (Or.inl ⟨hbt, by decide⟩) (Nat.le_refl _) (by decide) (Nat.zero_le _) (Nat.zero_le _) (by decide) (by rw [hbt]; exact ok_X5_hollow_n hF) (fun v n' h' _ hQ => ?_)
  obtain ⟨rfl, rfl, rfl⟩ := hQ
  refine aw_i2l hC dL_hollow_7 ?_
  refine aw_lastore (a := 68) (len := 1) hC dL_hollow_8 rfl rfl (Or.inl ⟨hbt, by decide⟩) (by decide) (by decide) ?_
  refine aw_goto (tgt := 15) hC dL_hollow_9 (by decide) ?_
  refine aw_iconst hC dL_hollow_15 (by decide) ?_
  exact aw_ireturn hC hZ (Nat.zero_le _) (Nat.zero_le _) hr dL_hollow_16 ⟨rfl, rfl, rfl⟩
theorem ok_L_hollow_x0 {G : GD} {n : Nat} {x1 : Int} {h h1 : Hp} (hF : fX5_hollow x1 h = some (.inr (0, h1))) : ConH G yL_hollow cL_hollow 4 (some .int) [(0, 9, 12, 18)] 8 [(2, ((0 : Nat) : Int)), (0, x1), (2, ((68 : Nat) : Int))] n h (FQ 0 n (1, h1)) := by
  refine conH_of (pad := 1) (own := RL) (by decide) rfl rfl ?_
  intro X hC hbt hst htab hr hZ hRm hn0
  show AW G X 0 [(2, ((0 : Nat) : Int)), (0, x1), (2, ((68 : Nat) : Int)), (9, 0)] [] n h 0 0
  refine aw_aload_n hC dL_hollow_0 rfl ?_
  refine aw_iconst hC dL_hollow_1 (by decide) ?_
  refine aw_aload_n hC dL_hollow_2 rfl ?_
  refine aw_iload_n hC dL_hollow_3 rfl ?_
  refine aw_callVC (e := 0) (av := [(0, x1)]) (ci := 5) (a := 0) hC hRm hst dL_hollow_4 rfl (by decide) rfl cwRL_91 cdl_X5_hollow rfl rfl (Or.inl ⟨hbt, by decide⟩) (Nat.le_refl _) (by decide) (by decide) (by rw [hbt]; exact ok_X5_hollow_x hF) [] ⟨0, 9, 12, 18⟩ [] htab (fun z hz => absurd hz List.not_mem_nil) (by decide) (by decide) lwk18 lwc0 (fun q => ?_)
  refine aw_rstore_n hC dL_hollow_12 (Nat.le_of_ble_eq_true rfl) rfl ?_
  refine aw_iconst hC dL_hollow_13 (by decide) ?_
  exact aw_ireturn hC hZ (Nat.le_refl _) (Nat.le_refl _) hr dL_hollow_14 ⟨rfl, rfl, rfl⟩
set_option maxRecDepth 20000 in
theorem cwRL_94 : ∀ w ∈ ([.methodLink RL 94 yX5_sale, .instanceMethod yX5_sale, .selects RX5 yX5_sale yX5_sale, .initialized RX5, .code yX5_sale cX5_sale 7 (some .int)] : List Cond), w ∈ TB := tb_all [1190, 1191, 1192, 105, 1193] rfl (by decide +kernel)
theorem cdl_X5_sale : yX5_sale.cls ≠ "java/lang/invoke/MethodHandle" ∧ yX5_sale.cls ≠ "java/lang/invoke/VarHandle" ∧ (parseMethodDescriptor yX5_sale.desc).map (fun d => d.parameters.length) = some 1 := by decide +kernel
theorem ok_L_sale_n {G : GD} {n : Nat} {x1 : Int} {h h1 : Hp} {r1 : Int} (hF : fX5_sale x1 h = some (.inl (r1, h1))) : ConH G yL_sale cL_sale 4 (some .int) [(0, 9, 12, 18)] 8 [(2, ((0 : Nat) : Int)), (0, x1), (2, ((68 : Nat) : Int))] n h (FQ 0 n (0, st h1 68 0 r1)) := by
  refine conH_of (pad := 1) (own := RL) (by decide) rfl rfl ?_
  intro X hC hbt hst htab hr hZ hRm hn0
  show AW G X 0 [(2, ((0 : Nat) : Int)), (0, x1), (2, ((68 : Nat) : Int)), (9, 0)] [] n h 0 0
  refine aw_aload_n hC dL_sale_0 rfl ?_
  refine aw_iconst hC dL_sale_1 (by decide) ?_
  refine aw_aload_n hC dL_sale_2 rfl ?_
  refine aw_iload_n hC dL_sale_3 rfl ?_
  refine aw_callV (av := [(0, x1)]) (ci := 5) (a := 0) hC hRm dL_sale_4 rfl (by decide) rfl cwRL_94 cdl_X5_sale rfl rfl (Or.inl ⟨hbt, by decide⟩) (Nat.le_refl _) (by decide) (Nat.zero_le _) (Nat.zero_le _) (by decide) (by rw [hbt]; exact ok_X5_sale_n hF) (fun v n' h' _ hQ => ?_)
  obtain ⟨rfl, rfl, rfl⟩ := hQ
  refine aw_i2l hC dL_sale_7 ?_
  refine aw_lastore (a := 68) (len := 1) hC dL_sale_8 rfl rfl (Or.inl ⟨hbt, by decide⟩) (by decide) (by decide) ?_
  refine aw_goto (tgt := 15) hC dL_sale_9 (by decide) ?_
  refine aw_iconst hC dL_sale_15 (by decide) ?_
  exact aw_ireturn hC hZ (Nat.zero_le _) (Nat.zero_le _) hr dL_sale_16 ⟨rfl, rfl, rfl⟩
theorem ok_L_sale_x0 {G : GD} {n : Nat} {x1 : Int} {h h1 : Hp} (hF : fX5_sale x1 h = some (.inr (0, h1))) : ConH G yL_sale cL_sale 4 (some .int) [(0, 9, 12, 18)] 8 [(2, ((0 : Nat) : Int)), (0, x1), (2, ((68 : Nat) : Int))] n h (FQ 0 n (1, h1)) := by
  refine conH_of (pad := 1) (own := RL) (by decide) rfl rfl ?_
  intro X hC hbt hst htab hr hZ hRm hn0
  show AW G X 0 [(2, ((0 : Nat) : Int)), (0, x1), (2, ((68 : Nat) : Int)), (9, 0)] [] n h 0 0
  refine aw_aload_n hC dL_sale_0 rfl ?_
  refine aw_iconst hC dL_sale_1 (by decide) ?_
  refine aw_aload_n hC dL_sale_2 rfl ?_
  refine aw_iload_n hC dL_sale_3 rfl ?_
  refine aw_callVC (e := 0) (av := [(0, x1)]) (ci := 5) (a := 0) hC hRm hst dL_sale_4 rfl (by decide) rfl cwRL_94 cdl_X5_sale rfl rfl (Or.inl ⟨hbt, by decide⟩) (Nat.le_refl _) (by decide) (by decide) (by rw [hbt]; exact ok_X5_sale_x hF) [] ⟨0, 9, 12, 18⟩ [] htab (fun z hz => absurd hz List.not_mem_nil) (by decide) (by decide) lwk18 lwc0 (fun q => ?_)
  refine aw_rstore_n hC dL_sale_12 (Nat.le_of_ble_eq_true rfl) rfl ?_
  refine aw_iconst hC dL_sale_13 (by decide) ?_
  exact aw_ireturn hC hZ (Nat.le_refl _) (Nat.le_refl _) hr dL_sale_14 ⟨rfl, rfl, rfl⟩
set_option maxRecDepth 20000 in
theorem cwRL_97 : ∀ w ∈ ([.methodLink RL 97 yX5_shade, .instanceMethod yX5_shade, .selects RX5 yX5_shade yX5_shade, .initialized RX5, .code yX5_shade cX5_shade 8 (some .int)] : List Cond), w ∈ TB := tb_all [1197, 1198, 1199, 105, 1200] rfl (by decide +kernel)
theorem cdl_X5_shade : yX5_shade.cls ≠ "java/lang/invoke/MethodHandle" ∧ yX5_shade.cls ≠ "java/lang/invoke/VarHandle" ∧ (parseMethodDescriptor yX5_shade.desc).map (fun d => d.parameters.length) = some 2 := by decide +kernel
theorem ok_L_shade_n {G : GD} {n : Nat} {x1 : Int} {x2 : Int} {h h1 : Hp} {r1 : Int} (hF : fX5_shade x1 x2 h = some (.inl (r1, h1))) : ConH G yL_shade cL_shade 5 (some .int) [(0, 10, 13, 18), (0, 10, 17, 13)] 8 [(2, ((0 : Nat) : Int)), (0, x1), (0, x2), (2, ((68 : Nat) : Int))] n h (FQ 0 n (0, st h1 68 0 r1)) := by
  refine conH_of (pad := 1) (own := RL) (by decide) rfl rfl ?_
  intro X hC hbt hst htab hr hZ hRm hn0
  show AW G X 0 [(2, ((0 : Nat) : Int)), (0, x1), (0, x2), (2, ((68 : Nat) : Int)), (9, 0)] [] n h 0 0
  refine aw_aload_n hC dL_shade_0 rfl ?_
  refine aw_iconst hC dL_shade_1 (by decide) ?_
  refine aw_aload_n hC dL_shade_2 rfl ?_
  refine aw_iload_n hC dL_shade_3 rfl ?_
  refine aw_iload_n hC dL_shade_4 rfl ?_
  refine aw_callV (av := [(0, x1), (0, x2)]) (ci := 5) (a := 0) hC hRm dL_shade_5 rfl (by decide) rfl cwRL_97 cdl_X5_shade rfl rfl (Or.inl ⟨hbt, by decide⟩) (Nat.le_refl _) (by decide) (Nat.zero_le _) (Nat.zero_le _) (by decide) (by rw [hbt]; exact ok_X5_shade_n hF) (fun v n' h' _ hQ => ?_)
  obtain ⟨rfl, rfl, rfl⟩ := hQ
  refine aw_i2l hC dL_shade_8 ?_
  refine aw_lastore (a := 68) (len := 1) hC dL_shade_9 rfl rfl (Or.inl ⟨hbt, by decide⟩) (by decide) (by decide) ?_
  refine aw_goto (tgt := 21) hC dL_shade_10 (by decide) ?_
  refine aw_iconst hC dL_shade_21 (by decide) ?_
  exact aw_ireturn hC hZ (Nat.zero_le _) (Nat.zero_le _) hr dL_shade_22 ⟨rfl, rfl, rfl⟩
theorem ok_L_shade_x0 {G : GD} {n : Nat} {x1 : Int} {x2 : Int} {h h1 : Hp} (hF : fX5_shade x1 x2 h = some (.inr (0, h1))) : ConH G yL_shade cL_shade 5 (some .int) [(0, 10, 13, 18), (0, 10, 17, 13)] 8 [(2, ((0 : Nat) : Int)), (0, x1), (0, x2), (2, ((68 : Nat) : Int))] n h (FQ 0 n (1, h1)) := by
  refine conH_of (pad := 1) (own := RL) (by decide) rfl rfl ?_
  intro X hC hbt hst htab hr hZ hRm hn0
  show AW G X 0 [(2, ((0 : Nat) : Int)), (0, x1), (0, x2), (2, ((68 : Nat) : Int)), (9, 0)] [] n h 0 0
  refine aw_aload_n hC dL_shade_0 rfl ?_
  refine aw_iconst hC dL_shade_1 (by decide) ?_
  refine aw_aload_n hC dL_shade_2 rfl ?_
  refine aw_iload_n hC dL_shade_3 rfl ?_
  refine aw_iload_n hC dL_shade_4 rfl ?_
  refine aw_callVC (e := 0) (av := [(0, x1), (0, x2)]) (ci := 5) (a := 0) hC hRm hst dL_shade_5 rfl (by decide) rfl cwRL_97 cdl_X5_shade rfl rfl (Or.inl ⟨hbt, by decide⟩) (Nat.le_refl _) (by decide) (by decide) (by rw [hbt]; exact ok_X5_shade_x hF) [] ⟨0, 10, 13, 18⟩ [⟨0, 10, 17, 13⟩] htab (fun z hz => absurd hz List.not_mem_nil) (by decide) (by decide) lwk18 lwc0 (fun q => ?_)
  refine aw_rstore hC dL_shade_13 (Nat.le_of_ble_eq_true rfl) rfl ?_
  refine aw_iconst hC dL_shade_15 (by decide) ?_
  exact aw_ireturn hC hZ (Nat.le_refl _) (Nat.le_refl _) hr dL_shade_16 ⟨rfl, rfl, rfl⟩
theorem ok_L_shade_x1 {G : GD} {n : Nat} {x1 : Int} {x2 : Int} {h h1 : Hp} (hF : fX5_shade x1 x2 h = some (.inr (1, h1))) : ConH G yL_shade cL_shade 5 (some .int) [(0, 10, 13, 18), (0, 10, 17, 13)] 8 [(2, ((0 : Nat) : Int)), (0, x1), (0, x2), (2, ((68 : Nat) : Int))] n h (FQ 0 n (2, h1)) := by
  refine conH_of (pad := 1) (own := RL) (by decide) rfl rfl ?_
  intro X hC hbt hst htab hr hZ hRm hn0
  show AW G X 0 [(2, ((0 : Nat) : Int)), (0, x1), (0, x2), (2, ((68 : Nat) : Int)), (9, 0)] [] n h 0 0
  refine aw_aload_n hC dL_shade_0 rfl ?_
  refine aw_iconst hC dL_shade_1 (by decide) ?_
  refine aw_aload_n hC dL_shade_2 rfl ?_
  refine aw_iload_n hC dL_shade_3 rfl ?_
  refine aw_iload_n hC dL_shade_4 rfl ?_
  refine aw_callVC (e := 1) (av := [(0, x1), (0, x2)]) (ci := 5) (a := 0) hC hRm hst dL_shade_5 rfl (by decide) rfl cwRL_97 cdl_X5_shade rfl rfl (Or.inl ⟨hbt, by decide⟩) (Nat.le_refl _) (by decide) (by decide) (by rw [hbt]; exact ok_X5_shade_x hF) [⟨0, 10, 13, 18⟩] ⟨0, 10, 17, 13⟩ [] htab (fun z hz => by rcases List.mem_cons.mp hz with rfl | hz; (exact Or.inr ⟨by decide, _, lwk18, nc_here hC⟩); exact absurd hz List.not_mem_nil) (by decide) (by decide) lwk13 lwc1 (fun q => ?_)
  refine aw_rstore hC dL_shade_17 (Nat.le_of_ble_eq_true rfl) rfl ?_
  refine aw_iconst hC dL_shade_19 (by decide) ?_
  exact aw_ireturn hC hZ (Nat.le_refl _) (Nat.le_refl _) hr dL_shade_20 ⟨rfl, rfl, rfl⟩
set_option maxRecDepth 20000 in
theorem cwRL_100 : ∀ w ∈ ([.methodLink RL 100 yX5_dearest, .instanceMethod yX5_dearest, .selects RX5 yX5_dearest yX5_dearest, .initialized RX5, .code yX5_dearest cX5_dearest 7 (some .int)] : List Cond), w ∈ TB := tb_all [1205, 1206, 1207, 105, 1208] rfl (by decide +kernel)
theorem cdl_X5_dearest : yX5_dearest.cls ≠ "java/lang/invoke/MethodHandle" ∧ yX5_dearest.cls ≠ "java/lang/invoke/VarHandle" ∧ (parseMethodDescriptor yX5_dearest.desc).map (fun d => d.parameters.length) = some 1 := by decide +kernel
theorem ok_L_dearest_n {G : GD} {n : Nat} {x1 : Int} {h h1 : Hp} {r1 : Int} (hF : fX5_dearest x1 h = some (.inl (r1, h1))) : ConH G yL_dearest cL_dearest 4 (some .int) [(0, 9, 12, 13)] 7 [(2, ((0 : Nat) : Int)), (0, x1), (2, ((68 : Nat) : Int))] n h (FQ 0 n (0, st h1 68 0 r1)) := by
  refine conH_of (pad := 1) (own := RL) (by decide) rfl rfl ?_
  intro X hC hbt hst htab hr hZ hRm hn0
  show AW G X 0 [(2, ((0 : Nat) : Int)), (0, x1), (2, ((68 : Nat) : Int)), (9, 0)] [] n h 0 0
  refine aw_aload_n hC dL_dearest_0 rfl ?_
  refine aw_iconst hC dL_dearest_1 (by decide) ?_
  refine aw_aload_n hC dL_dearest_2 rfl ?_
  refine aw_iload_n hC dL_dearest_3 rfl ?_
  refine aw_callV (av := [(0, x1)]) (ci := 5) (a := 0) hC hRm dL_dearest_4 rfl (by decide) rfl cwRL_100 cdl_X5_dearest rfl rfl (Or.inl ⟨hbt, by decide⟩) (Nat.le_refl _) (by decide) (Nat.zero_le _) (Nat.zero_le _) (by decide) (by rw [hbt]; exact ok_X5_dearest_n hF) (fun v n' h' _ hQ => ?_)
  obtain ⟨rfl, rfl, rfl⟩ := hQ
  refine aw_i2l hC dL_dearest_7 ?_
  refine aw_lastore (a := 68) (len := 1) hC dL_dearest_8 rfl rfl (Or.inl ⟨hbt, by decide⟩) (by decide) (by decide) ?_
  refine aw_goto (tgt := 15) hC dL_dearest_9 (by decide) ?_
  refine aw_iconst hC dL_dearest_15 (by decide) ?_
  exact aw_ireturn hC hZ (Nat.zero_le _) (Nat.zero_le _) hr dL_dearest_16 ⟨rfl, rfl, rfl⟩
theorem ok_L_dearest_x1 {G : GD} {n : Nat} {x1 : Int} {h h1 : Hp} (hF : fX5_dearest x1 h = some (.inr (1, h1))) : ConH G yL_dearest cL_dearest 4 (some .int) [(0, 9, 12, 13)] 7 [(2, ((0 : Nat) : Int)), (0, x1), (2, ((68 : Nat) : Int))] n h (FQ 0 n (1, h1)) := by
  refine conH_of (pad := 1) (own := RL) (by decide) rfl rfl ?_
  intro X hC hbt hst htab hr hZ hRm hn0
  show AW G X 0 [(2, ((0 : Nat) : Int)), (0, x1), (2, ((68 : Nat) : Int)), (9, 0)] [] n h 0 0
  refine aw_aload_n hC dL_dearest_0 rfl ?_
  refine aw_iconst hC dL_dearest_1 (by decide) ?_
  refine aw_aload_n hC dL_dearest_2 rfl ?_
  refine aw_iload_n hC dL_dearest_3 rfl ?_
  refine aw_callVC (e := 1) (av := [(0, x1)]) (ci := 5) (a := 0) hC hRm hst dL_dearest_4 rfl (by decide) rfl cwRL_100 cdl_X5_dearest rfl rfl (Or.inl ⟨hbt, by decide⟩) (Nat.le_refl _) (by decide) (by decide) (by rw [hbt]; exact ok_X5_dearest_x hF) [] ⟨0, 9, 12, 13⟩ [] htab (fun z hz => absurd hz List.not_mem_nil) (by decide) (by decide) lwk13 lwc1 (fun q => ?_)
  refine aw_rstore_n hC dL_dearest_12 (Nat.le_of_ble_eq_true rfl) rfl ?_
  refine aw_iconst hC dL_dearest_13 (by decide) ?_
  exact aw_ireturn hC hZ (Nat.le_refl _) (Nat.le_refl _) hr dL_dearest_14 ⟨rfl, rfl, rfl⟩
