/-! the law begins: class, reference and out are made -/
theorem lwL_8 : Cond.classLink RL 8 RX5 ∈ TB := tb_of 124 (by decide +kernel) (by decide +kernel)
theorem lwL_104 : Cond.classLink RL 104 RX6 ∈ TB := tb_of 1209 (by decide +kernel) (by decide +kernel)
theorem nwI5 : Cond.instantiable RX5 16 ∈ TB := tb_of 125 (by decide +kernel) (by decide +kernel)
theorem nwN5 : Cond.initialized RX5 ∈ TB := tb_of 105 (by decide +kernel) (by decide +kernel)
theorem nwI6 : Cond.instantiable RX6 74 ∈ TB := tb_of 1210 (by decide +kernel) (by decide +kernel)
theorem nwN6 : Cond.initialized RX6 ∈ TB := tb_of 112 (by decide +kernel) (by decide +kernel)
set_option maxRecDepth 20000 in
theorem mwRL_103 : ∀ w ∈ ([.methodLink RL 103 yX5_init, .instanceMethod yX5_init, .initialized yX5_init.cls, .code yX5_init cX5_init 1 none] : List Cond), w ∈ TB := tb_all [126, 127, 105, 128] rfl (by decide +kernel)
set_option maxRecDepth 20000 in
theorem mwRL_106 : ∀ w ∈ ([.methodLink RL 106 yX6_init, .instanceMethod yX6_init, .initialized yX6_init.cls, .code yX6_init cX6_init 2 none] : List Cond), w ∈ TB := tb_all [1211, 1212, 112, 1213] rfl (by decide +kernel)
theorem md_X5_init : yX5_init.cls ≠ "java/lang/invoke/MethodHandle" ∧ yX5_init.cls ≠ "java/lang/invoke/VarHandle" ∧ (parseMethodDescriptor yX5_init.desc).map (fun d => d.parameters.length) = some 0 := by decide +kernel
theorem md_X6_init : yX6_init.cls ≠ "java/lang/invoke/MethodHandle" ∧ yX6_init.cls ≠ "java/lang/invoke/VarHandle" ∧ (parseMethodDescriptor yX6_init.desc).map (fun d => d.parameters.length) = some 0 := by decide +kernel
def hp0 : Hp := fun _ _ => 0
set_option maxRecDepth 20000 in
theorem hSt_shl : ∀ q ∈ SHL, hSt hp0 q.1 q.2.1 = (q.2.2 : Int) := by decide +kernel
theorem hSt_sh : ShN 69 (hSt hp0) := by
  have h5 : hSt hp0 0 5 = -1 := hSt_0.2.2.1
  refine ⟨⟨hSt_shl, fun q => ?_⟩, Nat.le_refl _, fun q => ?_⟩
  · rw [h5] at q; exact absurd q (by decide)
  · rw [h5] at q; exact absurd q (by decide)
theorem law_go {G : GD} {p : Program} {l : Launch} {e : Env} {s : State} {m : MethodId} {args : Array Value} {below : List Frame} {meth : Method} {c : Code} {Z : State → Prop} {A : Nat → Prop} {ad0 : Nat → Nat} {b L : Nat} {xs : Nat → Int32} (hX : LX G (p, l, e, room_1, s, m, args, below, meth, c, Z, A, ad0, 0, true) b L xs)
    (hret : ∀ (i : Int) (n : Nat) (h : Hp) (cs ss : Nat), cs ≤ 601024 → ss ≤ 7293034 → AW G (p, l, e, room_1, s, m, args, below, meth, c, Z, A, ad0, 0, true) 2272 [(6, (b : Int)), (2, ((0 : Nat) : Int)), (2, ((35 : Nat) : Int)), (2, ((68 : Nat) : Int)), (0, i), (9, 0), (9, 0), (9, 0)] [] n h cs ss) :
    AW G (p, l, e, room_1, s, m, args, below, meth, c, Z, A, ad0, 0, false) 0 [(6, (b : Int)), (9, 0), (9, 0), (9, 0), (9, 0), (9, 0), (9, 0), (9, 0)] [] 0 hp0 0 0 := by
  have hC : Cx G (p, l, e, room_1, s, m, args, below, meth, c, Z, A, ad0, 0, false) RL cL_law := hX.1
  have hL := hX.2.2.2.2.2.2.2
  have hbt : CX.bt (p, l, e, room_1, s, m, args, below, meth, c, Z, A, ad0, 0, false) = false := rfl
  have hRm : CX.R (p, l, e, room_1, s, m, args, below, meth, c, Z, A, ad0, 0, false) = room_1 := rfl
  refine aw_new (ci := 5) inT5 tyX5_ok rfl (by decide) hC dL_law_0 lwL_8 nwI5 nwN5 rfl rfl (dv_of rfl tcX5) (by rw [hRm]; exact Nat.le_of_ble_eq_true rfl) (by rw [hRm]; exact Nat.le_of_ble_eq_true rfl) (nsh hbt) ?_
  refine aw_dup hC dL_law_3 (by decide) ?_
  refine awL_callI (a := 0) (sk := [(2, ((0 : Nat) : Int))]) (av := []) hC hRm dL_law_4 rfl mwRL_103 md_X5_init (d' := 2) (mc' := 34) (ms' := 5425) (by decide) (by decide) (by decide) (by decide) (Nat.le_of_ble_eq_true rfl) ok_m5 (fun v n' h' _ hQ => ?_)
  obtain ⟨rfl, rfl, rfl⟩ := hQ
  refine aw_astore1 hC dL_law_7 (by decide) rfl ?_
  refine aw_new (ci := 6) inT6 tyX6_ok rfl (by decide) hC dL_law_8 lwL_104 nwI6 nwN6 rfl rfl (dv_of rfl tcX6) (by rw [hRm]; exact Nat.le_of_ble_eq_true rfl) (by rw [hRm]; exact Nat.le_of_ble_eq_true rfl) (nsh hbt) ?_
  refine aw_dup hC dL_law_11 (by decide) ?_
  refine awL_callI (a := 35) (sk := [(2, ((35 : Nat) : Int))]) (av := []) hC hRm dL_law_12 rfl mwRL_106 md_X6_init (d' := 1) (mc' := 32) (ms' := 13695) (by decide) (by decide) (by decide) (by decide) (Nat.le_of_ble_eq_true rfl) ok_m6 (fun v n' h' _ hQ => ?_)
  obtain ⟨rfl, rfl, rfl⟩ := hQ
  refine aw_astore2 hC dL_law_15 (by decide) rfl ?_
  refine aw_iconst hC dL_law_16 (by decide) ?_
  refine aw_newl (len := 1) hC dL_law_17 acl_long rfl (by decide) (by decide) (by rw [hRm]; exact Nat.le_of_ble_eq_true rfl) (by rw [hRm]; exact Nat.le_of_ble_eq_true rfl) (nsh hbt) ?_
  refine aw_astore3 hC dL_law_19 (by decide) rfl ?_
  refine aw_iconst hC dL_law_20 (by decide) ?_
  refine aw_istore4 hC dL_law_21 rfl ?_
  refine awL_bt (h := hSt hp0) hSt_sh ?_
  refine law_loop hX hret (L / 6 + 1) 0 (-1) 69 (hSt hp0) _ _ (by decide) (by decide) ?_ ?_ ?_ (Or.inl ⟨rfl, rfl⟩) InvS
  · omega
  · show 69 + 6 * (L / 6 + 1) ≤ 601024
    omega
  · show 19211 + 2600 * (L / 6 + 1) ≤ 7293034
    have h6 : L / 6 + 1 ≤ 513 := by omega
    exact Nat.le_trans (Nat.add_le_add_left (Nat.mul_le_mul_left 2600 h6) 19211) (by decide)
