/-! the law's loop -/
theorem Inv.img {κ : Int} {h : Hp} (I : Inv κ h) : h 0 5 = κ ∧ (h 0 6 = 0 ∨ (h 0 6 = 1 ∧ h 0 5 = 69)) := by
  obtain ⟨D, ht, ro, L, nr, rh, rm, na, P, -, -, -, -, hI⟩ := I
  refine ⟨hI.1, ?_⟩
  rcases hI.2 with q | q
  · exact Or.inl q.1
  · exact Or.inr ⟨q.1, q.2.1⟩
theorem law_image {G : GD} {X : CX} {b L : Nat} {xs : Nat → Int32} {i κ : Int} {n : Nat} {h : Hp} {cs ss : Nat} (hX : LX G X b L xs) (hi : 0 ≤ i ∧ i + 6 ≤ L) (hn : NK n κ) (I : Inv κ h) (hc : cs + 6 ≤ 601024) (hs : ss + 2600 ≤ 7293034) (kk : KK G X b i cs ss) : AW G X 2242 [(6, (b : Int)), (2, ((0 : Nat) : Int)), (2, ((35 : Nat) : Int)), (2, ((68 : Nat) : Int)), (0, i), (9, 0), (9, 0), (9, 0)] [] n h cs ss := by
  obtain ⟨hC, hRm, hbt, hst, -⟩ := id hX
  obtain ⟨g5, -⟩ := I.img
  refine aw_aload_n hC dL_law_2242 rfl ?_
  rcases hn with ⟨rfl, rfl⟩ | ⟨rfl, rfl⟩
  · obtain ⟨⟨y, h2⟩, hy, I2⟩ := s_image1 I
    refine awL_callV (x := ((0 : Nat) : Int)) (sk := []) (av := []) (a := 0) (ci := 5) (d' := 2) (mc' := 5) (ms' := 2561) hC hRm dL_law_2243 rfl (by decide) rfl cwRL_242 cdm_X5_image rfl rfl (Or.inl ⟨hbt, by decide⟩) (by decide) (by decide) (by omega) (by omega) (Nat.le_of_ble_eq_true rfl) (by rw [hbt]; exact ok_image1 g5) (fun v n' h' _ hQ => ?_)
    obtain ⟨rfl, rfl, rfl⟩ := hQ
    refine aw_aload_n hC dL_law_2246 rfl ?_
    refine awL_callV (x := ((35 : Nat) : Int)) (sk := []) (av := []) (a := 35) (ci := 6) (d' := 1) (mc' := 0) (ms' := 0) hC hRm dL_law_2247 rfl (by decide) rfl cwRL_245 cdm_X6_image rfl rfl (Or.inl ⟨hbt, by decide⟩) (by decide) (by decide) (by omega) (by omega) (Nat.le_of_ble_eq_true rfl) (by rw [hbt]; exact ok_X6_image hy) (fun v n' h' _ hQ => ?_)
    obtain ⟨rfl, rfl, rfl⟩ := hQ
    refine aw_goto (tgt := 2266) hC dL_law_2250 (by decide) ?_
    exact awL_widen (by omega) (by omega) (kk _ _ _ (Or.inr ⟨rfl, rfl⟩) I2)
  · obtain ⟨⟨y, h2⟩, hy, I2⟩ := s_image2 I
    refine awL_callV (x := ((0 : Nat) : Int)) (sk := []) (av := []) (a := 0) (ci := 5) (d' := 2) (mc' := 0) (ms' := 0) hC hRm dL_law_2243 rfl (by decide) rfl cwRL_242 cdm_X5_image rfl rfl (Or.inl ⟨hbt, by decide⟩) (by decide) (by decide) (by omega) (by omega) (Nat.le_of_ble_eq_true rfl) (by rw [hbt]; exact ok_image2 g5) (fun v n' h' _ hQ => ?_)
    obtain ⟨rfl, rfl, rfl⟩ := hQ
    refine aw_aload_n hC dL_law_2246 rfl ?_
    refine awL_callV (x := ((35 : Nat) : Int)) (sk := []) (av := []) (a := 35) (ci := 6) (d' := 1) (mc' := 0) (ms' := 0) hC hRm dL_law_2247 rfl (by decide) rfl cwRL_245 cdm_X6_image rfl rfl (Or.inl ⟨hbt, by decide⟩) (by decide) (by decide) (by omega) (by omega) (Nat.le_of_ble_eq_true rfl) (by rw [hbt]; exact ok_X6_image hy) (fun v n' h' _ hQ => ?_)
    obtain ⟨rfl, rfl, rfl⟩ := hQ
    refine aw_goto (tgt := 2266) hC dL_law_2250 (by decide) ?_
    exact awL_widen (by omega) (by omega) (kk _ _ _ (Or.inr ⟨rfl, rfl⟩) I2)
theorem law_restore {G : GD} {X : CX} {b L : Nat} {xs : Nat → Int32} {i κ : Int} {n : Nat} {h : Hp} {cs ss : Nat} (hX : LX G X b L xs) (hi : 0 ≤ i ∧ i + 6 ≤ L) (hn : NK n κ) (I : Inv κ h) (hc : cs + 6 ≤ 601024) (hs : ss + 2600 ≤ 7293034) (kk : KK G X b i cs ss) : AW G X 2253 [(6, (b : Int)), (2, ((0 : Nat) : Int)), (2, ((35 : Nat) : Int)), (2, ((68 : Nat) : Int)), (0, i), (9, 0), (9, 0), (9, 0)] [] n h cs ss := by
  obtain ⟨hC, hRm, hbt, hst, -⟩ := id hX
  obtain ⟨g5, g6⟩ := I.img
  refine aw_aload_n hC dL_law_2253 rfl ?_
  rcases g6 with g6 | ⟨g6, g5'⟩
  · obtain ⟨⟨y, h2⟩, hy, Y1, I2⟩ := s_restore0 I g6
    dsimp only at Y1 I2
    refine awL_callV (x := ((0 : Nat) : Int)) (sk := []) (av := []) (a := 0) (ci := 5) (d' := 2) (mc' := 0) (ms' := 0) hC hRm dL_law_2254 rfl (by decide) rfl cwRL_246 cdm_X5_restore rfl rfl (Or.inl ⟨hbt, by decide⟩) (by decide) (by decide) (by omega) (by omega) (Nat.le_of_ble_eq_true rfl) (by rw [hbt]; exact ok_restore0 g6) (fun v n' h' _ hQ => ?_)
    obtain ⟨rfl, rfl, rfl⟩ := hQ
    refine aw_aload_n hC dL_law_2257 rfl ?_
    refine awL_callV (x := ((35 : Nat) : Int)) (sk := [(0, 0)]) (av := []) (a := 35) (ci := 6) (d' := 1) (mc' := 0) (ms' := 0) hC hRm dL_law_2258 rfl (by decide) rfl cwRL_250 cdm_X6_restore rfl rfl (Or.inl ⟨hbt, by decide⟩) (by decide) (by decide) (by omega) (by omega) (Nat.le_of_ble_eq_true rfl) (by rw [hbt]; exact ok_X6_restore hy) (fun v n' h' _ hQ => ?_)
    obtain ⟨rfl, rfl, rfl⟩ := hQ
    refine aw_icmp_eq (tgt := 2266) hC dL_law_2261 (by decide) (fun _ => ?_) (fun c => absurd Y1.symm c)
    exact awL_widen (by omega) (by omega) (kk _ _ _ hn I2)
  · have hn2 : n = 74 ∧ κ = 69 := by
      rcases hn with ⟨-, q⟩ | q
      · rw [q] at g5; rw [g5] at g5'; exact absurd g5' (by decide)
      · exact q
    obtain ⟨rfl, rfl⟩ := hn2
    obtain ⟨⟨y, h2⟩, hy, Y1, I2⟩ := s_restore1 I g6
    dsimp only at Y1 I2
    refine awL_callV (x := ((0 : Nat) : Int)) (sk := []) (av := []) (a := 0) (ci := 5) (d' := 2) (mc' := 0) (ms' := 0) hC hRm dL_law_2254 rfl (by decide) rfl cwRL_246 cdm_X5_restore rfl rfl (Or.inl ⟨hbt, by decide⟩) (by decide) (by decide) (by omega) (by omega) (Nat.le_of_ble_eq_true rfl) (by rw [hbt]; exact ok_restore1 g6 g5') (fun v n' h' _ hQ => ?_)
    obtain ⟨rfl, rfl, rfl⟩ := hQ
    refine aw_aload_n hC dL_law_2257 rfl ?_
    refine awL_callV (x := ((35 : Nat) : Int)) (sk := [(0, 1)]) (av := []) (a := 35) (ci := 6) (d' := 1) (mc' := 0) (ms' := 0) hC hRm dL_law_2258 rfl (by decide) rfl cwRL_250 cdm_X6_restore rfl rfl (Or.inl ⟨hbt, by decide⟩) (by decide) (by decide) (by omega) (by omega) (Nat.le_of_ble_eq_true rfl) (by rw [hbt]; exact ok_X6_restore hy) (fun v n' h' _ hQ => ?_)
    obtain ⟨rfl, rfl, rfl⟩ := hQ
    refine aw_icmp_eq (tgt := 2266) hC dL_law_2261 (by decide) (fun _ => ?_) (fun c => absurd Y1.symm c)
    exact awL_widen (by omega) (by omega) (kk _ _ _ hn I2)
theorem law_which {G : GD} {X : CX} {b L : Nat} {xs : Nat → Int32} {i κ : Int} {n : Nat} {h : Hp} {cs ss : Nat} {a : Int} (hX : LX G X b L xs) (hi : 0 ≤ i ∧ i + 6 ≤ L) (hn : NK n κ) (I : Inv κ h) (hc : cs + 6 ≤ 601024) (hs : ss + 2600 ≤ 7293034) (kk : KK G X b i cs ss) (ha : 0 ≤ a) : AW G X 40 [(6, (b : Int)), (2, ((0 : Nat) : Int)), (2, ((35 : Nat) : Int)), (2, ((68 : Nat) : Int)), (0, i), (9, 0), (9, 0), (9, 0)] [(0, a)] n h cs ss := by
  have hC := hX.1
  by_cases h39 : 39 < a
  · refine aw_tableOut (tgt := 2266) hC dL_law_40 (Or.inr h39) (by decide) ?_
    exact awL_widen (by omega) (by omega) (kk _ _ _ hn I)
  · have hd : a = 0 ∨ a = 1 ∨ a = 2 ∨ a = 3 ∨ a = 4 ∨ a = 5 ∨ a = 6 ∨ a = 7 ∨ a = 8 ∨ a = 9 ∨ a = 10 ∨ a = 11 ∨ a = 12 ∨ a = 13 ∨ a = 14 ∨ a = 15 ∨ a = 16 ∨ a = 17 ∨ a = 18 ∨ a = 19 ∨ a = 20 ∨ a = 21 ∨ a = 22 ∨ a = 23 ∨ a = 24 ∨ a = 25 ∨ a = 26 ∨ a = 27 ∨ a = 28 ∨ a = 29 ∨ a = 30 ∨ a = 31 ∨ a = 32 ∨ a = 33 ∨ a = 34 ∨ a = 35 ∨ a = 36 ∨ a = 37 ∨ a = 38 ∨ a = 39 := by omega
    rcases hd with rfl | rfl | rfl | rfl | rfl | rfl | rfl | rfl | rfl | rfl | rfl | rfl | rfl | rfl | rfl | rfl | rfl | rfl | rfl | rfl | rfl | rfl | rfl | rfl | rfl | rfl | rfl | rfl | rfl | rfl | rfl | rfl | rfl | rfl | rfl | rfl | rfl | rfl | rfl | rfl
    · exact aw_tableIn (tgt := 216) hC dL_law_40 (by decide) (by decide) rfl (by decide) (law_feed hX hi hn I hc hs kk)
    · exact aw_tableIn (tgt := 289) hC dL_law_40 (by decide) (by decide) rfl (by decide) (law_duchy hX hi hn I hc hs kk)
    · exact aw_tableIn (tgt := 345) hC dL_law_40 (by decide) (by decide) rfl (by decide) (law_fault hX hi hn I hc hs kk)
    · exact aw_tableIn (tgt := 358) hC dL_law_40 (by decide) (by decide) rfl (by decide) (law_count hX hi hn I hc hs kk)
    · exact aw_tableIn (tgt := 414) hC dL_law_40 (by decide) (by decide) rfl (by decide) (law_cell hX hi hn I hc hs kk)
    · exact aw_tableIn (tgt := 482) hC dL_law_40 (by decide) (by decide) rfl (by decide) (law_tree hX hi hn I hc hs kk)
    · exact aw_tableIn (tgt := 550) hC dL_law_40 (by decide) (by decide) rfl (by decide) (law_house hX hi hn I hc hs kk)
    · exact aw_tableIn (tgt := 618) hC dL_law_40 (by decide) (by decide) rfl (by decide) (law_miles hX hi hn I hc hs kk)
    · exact aw_tableIn (tgt := 686) hC dL_law_40 (by decide) (by decide) rfl (by decide) (law_seen hX hi hn I hc hs kk)
    · exact aw_tableIn (tgt := 741) hC dL_law_40 (by decide) (by decide) rfl (by decide) (law_years hX hi hn I hc hs kk)
    · exact aw_tableIn (tgt := 766) hC dL_law_40 (by decide) (by decide) rfl (by decide) (law_plant hX hi hn I hc hs kk)
    · exact aw_tableIn (tgt := 834) hC dL_law_40 (by decide) (by decide) rfl (by decide) (law_fell hX hi hn I hc hs kk)
    · exact aw_tableIn (tgt := 890) hC dL_law_40 (by decide) (by decide) rfl (by decide) (law_floor hX hi hn I hc hs kk)
    · exact aw_tableIn (tgt := 958) hC dL_law_40 (by decide) (by decide) rfl (by decide) (law_barn hX hi hn I hc hs kk)
    · exact aw_tableIn (tgt := 1026) hC dL_law_40 (by decide) (by decide) rfl (by decide) (law_sell hX hi hn I hc hs kk)
    · exact aw_tableIn (tgt := 1101) hC dL_law_40 (by decide) (by decide) rfl (by decide) (law_obey hX hi hn I hc hs kk)
    · exact aw_tableIn (tgt := 1126) hC dL_law_40 (by decide) (by decide) rfl (by decide) (law_undo hX hi hn I hc hs kk)
    · exact aw_tableIn (tgt := 1139) hC dL_law_40 (by decide) (by decide) rfl (by decide) (law_firs hX hi hn I hc hs kk)
    · exact aw_tableIn (tgt := 1207) hC dL_law_40 (by decide) (by decide) rfl (by decide) (law_fir hX hi hn I hc hs kk)
    · exact aw_tableIn (tgt := 1263) hC dL_law_40 (by decide) (by decide) rfl (by decide) (law_spades hX hi hn I hc hs kk)
    · exact aw_tableIn (tgt := 1331) hC dL_law_40 (by decide) (by decide) rfl (by decide) (law_felling hX hi hn I hc hs kk)
    · exact aw_tableIn (tgt := 1387) hC dL_law_40 (by decide) (by decide) rfl (by decide) (law_ruin hX hi hn I hc hs kk)
    · exact aw_tableIn (tgt := 1400) hC dL_law_40 (by decide) (by decide) rfl (by decide) (law_compare hX hi hn I hc hs kk)
    · exact aw_tableIn (tgt := 1468) hC dL_law_40 (by decide) (by decide) rfl (by decide) (law_mildest hX hi hn I hc hs kk)
    · exact aw_tableIn (tgt := 1524) hC dL_law_40 (by decide) (by decide) rfl (by decide) (law_round hX hi hn I hc hs kk)
    · exact aw_tableIn (tgt := 1580) hC dL_law_40 (by decide) (by decide) rfl (by decide) (law_stop hX hi hn I hc hs kk)
    · exact aw_tableIn (tgt := 1636) hC dL_law_40 (by decide) (by decide) rfl (by decide) (law_barns hX hi hn I hc hs kk)
    · exact aw_tableIn (tgt := 1740) hC dL_law_40 (by decide) (by decide) rfl (by decide) (law_tell hX hi hn I hc hs kk)
    · exact aw_tableIn (tgt := 1808) hC dL_law_40 (by decide) (by decide) rfl (by decide) (law_forget hX hi hn I hc hs kk)
    · exact aw_tableIn (tgt := 1819) hC dL_law_40 (by decide) (by decide) rfl (by decide) (law_liars hX hi hn I hc hs kk)
    · exact aw_tableIn (tgt := 1832) hC dL_law_40 (by decide) (by decide) rfl (by decide) (law_heights hX hi hn I hc hs kk)
    · exact aw_tableIn (tgt := 1900) hC dL_law_40 (by decide) (by decide) rfl (by decide) (law_cheat hX hi hn I hc hs kk)
    · exact aw_tableIn (tgt := 1913) hC dL_law_40 (by decide) (by decide) rfl (by decide) (law_ruined hX hi hn I hc hs kk)
    · exact aw_tableIn (tgt := 1926) hC dL_law_40 (by decide) (by decide) rfl (by decide) (law_decades hX hi hn I hc hs kk)
    · exact aw_tableIn (tgt := 2006) hC dL_law_40 (by decide) (by decide) rfl (by decide) (law_hollow hX hi hn I hc hs kk)
    · exact aw_tableIn (tgt := 2062) hC dL_law_40 (by decide) (by decide) rfl (by decide) (law_sale hX hi hn I hc hs kk)
    · exact aw_tableIn (tgt := 2118) hC dL_law_40 (by decide) (by decide) rfl (by decide) (law_shade hX hi hn I hc hs kk)
    · exact aw_tableIn (tgt := 2186) hC dL_law_40 (by decide) (by decide) rfl (by decide) (law_dearest hX hi hn I hc hs kk)
    · exact aw_tableIn (tgt := 2242) hC dL_law_40 (by decide) (by decide) rfl (by decide) (law_image hX hi hn I hc hs kk)
    · exact aw_tableIn (tgt := 2253) hC dL_law_40 (by decide) (by decide) rfl (by decide) (law_restore hX hi hn I hc hs kk)
theorem and63 {y : Int} : 0 ≤ i_and y 63 := by
  unfold i_and
  obtain ⟨j, hj, e⟩ := pk_andE (Int32.ofInt y) (m := Int32.ofInt 63) 6 (by decide)
  rw [e]
  have h1 : (nI j).toInt = (j : Int) := by
    show (Int32.ofInt (j : Int)).toInt = _
    exact i32_of (by unfold in32; omega)
  rw [h1]
  omega
theorem law_loop {G : GD} {X : CX} {b L : Nat} {xs : Nat → Int32} (hX : LX G X b L xs) (hret : ∀ (i : Int) (n : Nat) (h : Hp) (cs ss : Nat), cs ≤ 601024 → ss ≤ 7293034 → AW G X 2272 [(6, (b : Int)), (2, ((0 : Nat) : Int)), (2, ((35 : Nat) : Int)), (2, ((68 : Nat) : Int)), (0, i), (9, 0), (9, 0), (9, 0)] [] n h cs ss) :
    ∀ (m : Nat) (i κ : Int) (n : Nat) (h : Hp) (cs ss : Nat), 0 ≤ i → i ≤ 4000 → (L : Int) < i + 6 * m → cs + 6 * m ≤ 601024 → ss + 2600 * m ≤ 7293034 → NK n κ → Inv κ h → AW G X 23 [(6, (b : Int)), (2, ((0 : Nat) : Int)), (2, ((35 : Nat) : Int)), (2, ((68 : Nat) : Int)), (0, i), (9, 0), (9, 0), (9, 0)] [] n h cs ss := by
  obtain ⟨hC, hRm, hbt, hst, hx, hb, hA, hL⟩ := id hX
  intro m
  induction m with
  | zero =>
    intro i κ n h cs ss h0 h9 h1 h2 h3 hn I
    refine aw_iload hC dL_law_23 rfl ?_
    refine awL_aload0 hC dL_law_25 rfl ?_
    refine awL_slen hC hx hb hA hL dL_law_26 ?_
    refine aw_bipush hC dL_law_27 (by decide) (by decide) ?_
    refine aw_isub hC dL_law_29 ?_
    rw [i_sub_eq (by unfold in32; omega)]
    refine aw_icmp_gt (tgt := 2272) hC dL_law_30 (by decide) (fun _ => ?_) (fun c => absurd (by omega) c)
    exact hret i n h cs ss (by omega) (by omega)
  | succ m ih =>
    intro i κ n h cs ss h0 h9 h1 h2 h3 hn I
    refine aw_iload hC dL_law_23 rfl ?_
    refine awL_aload0 hC dL_law_25 rfl ?_
    refine awL_slen hC hx hb hA hL dL_law_26 ?_
    refine aw_bipush hC dL_law_27 (by decide) (by decide) ?_
    refine aw_isub hC dL_law_29 ?_
    rw [i_sub_eq (by unfold in32; omega)]
    refine aw_icmp_gt (tgt := 2272) hC dL_law_30 (by decide) (fun _ => ?_) (fun c => ?_)
    · exact hret i n h cs ss (by omega) (Nat.le_trans (Nat.le_add_right _ _) h3)
    · have hi : 0 ≤ i ∧ i + 6 ≤ (L : Int) := ⟨h0, by omega⟩
      have hc : cs + 6 ≤ 601024 := by omega
      rw [Nat.mul_succ] at h3
      have hs : ss + 2600 ≤ 7293034 := Nat.le_trans (Nat.add_le_add_left (Nat.le_add_left 2600 (2600 * m)) ss) h3
      refine awL_aload0 hC dL_law_33 rfl ?_
      refine aw_iload hC dL_law_34 rfl ?_
      refine awL_sld hC hx hb hA h0 (by omega) dL_law_36 ?_
      refine aw_bipush hC dL_law_37 (by decide) (by decide) ?_
      refine aw_iand hC dL_law_39 ?_
      refine law_which hX hi hn I hc hs ?_ and63
      intro n' κ' h' hn' I'
      refine aw_iinc4 hC dL_law_2266 rfl ?_
      rw [i_add_eq (by unfold in32; omega)]
      refine aw_goto (tgt := 23) hC dL_law_2269 (by decide) ?_
      exact ih (i + 6) κ' n' h' (cs + 6) (ss + 2600) (by omega) (by omega) (by omega) (by omega) (by rw [Nat.add_assoc, Nat.add_comm 2600]; exact h3) hn' I'
