/-! the law's calls, one after another -/
/-- how many cells are made, and what the class's image field holds -/
def NK (n : Nat) (κ : Int) : Prop := (n = 69 ∧ κ = -1) ∨ (n = 74 ∧ κ = 69)
/-- what comes behind a call: on, with six more cells and 2600 more slots at most -/
def KK (G : GD) (X : CX) (b : Nat) (i : Int) (cs ss : Nat) : Prop := ∀ (n' : Nat) (κ' : Int) (h' : Hp), NK n' κ' → Inv κ' h' → AW G X 2266 [(6, (b : Int)), (2, ((0 : Nat) : Int)), (2, ((35 : Nat) : Int)), (2, ((68 : Nat) : Int)), (0, i), (9, 0), (9, 0), (9, 0)] [] n' h' (cs + 6) (ss + 2600)
theorem thr {h : Hp} {k : Int} (e : h 35 0 = k) : fX6_thrown h = some k := by
  rw [← e]
  rfl
theorem lc0 {a b : Int} (e : a = b) : l_cmp a b = 0 := by
  unfold l_cmp
  rw [e, if_neg (by omega), if_pos rfl]
def OB (x : Option (Int × Hp)) : Prop := ∀ r h1, x = some (r, h1) → r = 0 ∨ r = 1
theorem ob_if {c : Prop} [Decidable c] {x y : Option (Int × Hp)} (h1 : OB x) (h2 : OB y) : OB (if c then x else y) := by
  by_cases q : c
  · rw [if_pos q]; exact h1
  · rw [if_neg q]; exact h2
theorem ob_0 {h : Hp} : OB (some (0, h)) := fun r h1 q => by cases q; exact Or.inl rfl
theorem ob_1 {h : Hp} : OB (some (1, h)) := fun r h1 q => by cases q; exact Or.inr rfl
theorem ob_gd {c : Prop} [Decidable c] {x : Option (Int × Hp)} (h1 : OB x) : OB (gd_ c x) := by
  unfold gd_
  refine ob_if h1 ?_
  intro e h q
  cases q
theorem ob_bp {α : Type} {x : Option α} {f : α → Option (Int × Hp)} (h1 : ∀ a, OB (f a)) : OB (bp_ x f) := by
  intro e h q
  unfold bp_ at q
  match x, q with
  | some a, q => exact h1 a e h q
theorem ob_bd {x : Option (Int × Hp)} {f : Int → Hp → Option (Int × Hp)} (h1 : ∀ r h, OB (f r h)) : OB (bd_ x f) := by
  intro e h q
  unfold bd_ at q
  match x, q with
  | some (a, c), q => exact h1 a c e h q
theorem ob_lb {α : Type} {x : α} {f : α → Option (Int × Hp)} (h1 : ∀ a, OB (f a)) : OB (lb_ x f) := h1 x
theorem ob_sell5 {x y : Int} {h : Hp} : OB (fX5_sell_j9 x y h) := by
  unfold fX5_sell_j9
  repeat (with_reducible (first | exact ob_0 | exact ob_1 | refine ob_gd ?_ | refine ob_bp (fun _ => ?_) | refine ob_bd (fun _ _ => ?_) | refine ob_lb (fun _ => ?_) | refine ob_if ?_ ?_))
theorem ob_sell6 {x y : Int} {h : Hp} : OB (fX6_sell x y h) := by
  unfold fX6_sell
  repeat (with_reducible (first | exact ob_0 | exact ob_1 | refine ob_gd ?_ | refine ob_bp (fun _ => ?_) | refine ob_bd (fun _ _ => ?_) | refine ob_lb (fun _ => ?_) | refine ob_if ?_ ?_))
theorem sell01 {x y r1 : Int} {h h1 : Hp} (hq : fX5_sell x y h = some (.inl (r1, h1))) : (if r1 = 0 then (0 : Int) else 1) = r1 := by
  unfold fX5_sell at hq
  obtain ⟨v1, h2, -, q2⟩ := bx_n hq
  obtain ⟨v2, h3, -, q3⟩ := bx_n q2
  rcases ob_sell5 _ _ (mi_n q3) with rfl | rfl
  · rfl
  · rfl
theorem msell1 {x y v : Int} {h h1 : Hp} (hy : fX6_sell x y h = some (v, h1)) (c : ¬ v = 0) : v = 1 := by
  rcases ob_sell6 _ _ hy with e | e
  · exact absurd e c
  · exact e
theorem law_feed {G : GD} {X : CX} {b L : Nat} {xs : Nat → Int32} {i κ : Int} {n : Nat} {h : Hp} {cs ss : Nat} (hX : LX G X b L xs) (hi : 0 ≤ i ∧ i + 6 ≤ L) (hn : NK n κ) (I : Inv κ h) (hc : cs + 6 ≤ 601024) (hs : ss + 2600 ≤ 7293034) (kk : KK G X b i cs ss) : AW G X 216 [(6, (b : Int)), (2, ((0 : Nat) : Int)), (2, ((35 : Nat) : Int)), (2, ((68 : Nat) : Int)), (0, i), (9, 0), (9, 0), (9, 0)] [] n h cs ss := by
  obtain ⟨hC, hRm, hbt, hst, -⟩ := id hX
  refine aw_aload_n hC dL_law_216 rfl ?_
  refine awL_arg (k := 1) hX hi rfl rfl dL_law_217 dL_law_218 dL_law_220 dL_law_221 dL_law_222 ⟨by decide, by decide⟩ ?_
  refine awL_arg (k := 2) hX hi rfl rfl dL_law_223 dL_law_224 dL_law_226 dL_law_227 dL_law_228 ⟨by decide, by decide⟩ ?_
  refine awL_arg (k := 3) hX hi rfl rfl dL_law_229 dL_law_230 dL_law_232 dL_law_233 dL_law_234 ⟨by decide, by decide⟩ ?_
  refine awL_arg (k := 4) hX hi rfl rfl dL_law_235 dL_law_236 dL_law_238 dL_law_239 dL_law_240 ⟨by decide, by decide⟩ ?_
  refine awL_arg (k := 5) hX hi rfl rfl dL_law_241 dL_law_242 dL_law_244 dL_law_245 dL_law_246 ⟨by decide, by decide⟩ ?_
  obtain ⟨q, hq, PQ⟩ := s_feed (x1 := xv xs i 1) (x2 := xv xs i 2) (x3 := xv xs i 3) (x4 := xv xs i 4) (x5 := xv xs i 5) I
  refine awL_callV (x := ((0 : Nat) : Int)) (sk := []) (av := [(0, xv xs i 1), (0, xv xs i 2), (0, xv xs i 3), (0, xv xs i 4), (0, xv xs i 5)]) (a := 0) (ci := 5) (d' := 1) (mc' := 0) (ms' := 0) hC hRm dL_law_247 rfl (by decide) rfl cwRL_107 cdm_X5_feed rfl rfl (Or.inl ⟨hbt, by decide⟩) (by decide) (by decide) (by omega) (by omega) (Nat.le_of_ble_eq_true rfl) (by rw [hbt]; exact ok_X5_feed hq) (fun v n' h' _ hQ => ?_)
  obtain ⟨rfl, rfl, rfl⟩ := hQ
  obtain ⟨⟨y, h2⟩, hy, Y1, I2⟩ := PQ
  dsimp only at Y1 I2 hy
  refine aw_aload_n hC dL_law_250 rfl ?_
  refine awL_arg (k := 1) hX hi rfl rfl dL_law_251 dL_law_252 dL_law_254 dL_law_255 dL_law_256 ⟨by decide, by decide⟩ ?_
  refine awL_arg (k := 2) hX hi rfl rfl dL_law_257 dL_law_258 dL_law_260 dL_law_261 dL_law_262 ⟨by decide, by decide⟩ ?_
  refine awL_arg (k := 3) hX hi rfl rfl dL_law_263 dL_law_264 dL_law_266 dL_law_267 dL_law_268 ⟨by decide, by decide⟩ ?_
  refine awL_arg (k := 4) hX hi rfl rfl dL_law_269 dL_law_270 dL_law_272 dL_law_273 dL_law_274 ⟨by decide, by decide⟩ ?_
  refine awL_arg (k := 5) hX hi rfl rfl dL_law_275 dL_law_276 dL_law_278 dL_law_279 dL_law_280 ⟨by decide, by decide⟩ ?_
  refine awL_callV (x := ((35 : Nat) : Int)) (sk := [(0, q.1)]) (av := [(0, xv xs i 1), (0, xv xs i 2), (0, xv xs i 3), (0, xv xs i 4), (0, xv xs i 5)]) (a := 35) (ci := 6) (d' := 1) (mc' := 0) (ms' := 0) hC hRm dL_law_281 rfl (by decide) rfl cwRL_110 cdm_X6_feed rfl rfl (Or.inl ⟨hbt, by decide⟩) (by decide) (by decide) (by omega) (by omega) (Nat.le_of_ble_eq_true rfl) (by rw [hbt]; exact ok_X6_feed hy) (fun v n' h' _ hQ => ?_)
  obtain ⟨rfl, rfl, rfl⟩ := hQ
  refine aw_icmp_eq (tgt := 2266) hC dL_law_284 (by decide) (fun _ => ?_) (fun c => absurd Y1.symm c)
  exact awL_widen (by omega) (by omega) (awL_drop (kk _ _ _ hn I2))
theorem law_duchy {G : GD} {X : CX} {b L : Nat} {xs : Nat → Int32} {i κ : Int} {n : Nat} {h : Hp} {cs ss : Nat} (hX : LX G X b L xs) (hi : 0 ≤ i ∧ i + 6 ≤ L) (hn : NK n κ) (I : Inv κ h) (hc : cs + 6 ≤ 601024) (hs : ss + 2600 ≤ 7293034) (kk : KK G X b i cs ss) : AW G X 289 [(6, (b : Int)), (2, ((0 : Nat) : Int)), (2, ((35 : Nat) : Int)), (2, ((68 : Nat) : Int)), (0, i), (9, 0), (9, 0), (9, 0)] [] n h cs ss := by
  obtain ⟨hC, hRm, hbt, hst, -⟩ := id hX
  refine aw_aload_n hC dL_law_289 rfl ?_
  refine awL_arg (k := 1) hX hi rfl rfl dL_law_290 dL_law_291 dL_law_293 dL_law_294 dL_law_295 ⟨by decide, by decide⟩ ?_
  refine aw_aload_n hC dL_law_296 rfl ?_
  obtain ⟨q, hq, PQ⟩ := s_duchy (x := xv xs i 1) I
  rcases q with ⟨r1, h1⟩ | ⟨e, h1⟩
  · refine awL_callS (sk := []) (av := [(2, ((0 : Nat) : Int)), (0, xv xs i 1), (2, ((68 : Nat) : Int))]) hst hbt hC hRm dL_law_297 cwRL_111 cdm_L_duchy (by decide) (by decide) (by omega) (by omega) (by decide) (ok_L_duchy_n hq) (fun v n' h' _ hQ => ?_)
    obtain ⟨rfl, rfl, rfl⟩ := hQ
    obtain ⟨⟨y, h2⟩, hy, Y1, Y2, I2⟩ := PQ
    dsimp only at Y1 Y2 I2
    refine aw_istore5 hC dL_law_300 rfl ?_
    refine aw_aload_n hC dL_law_302 rfl ?_
    refine awL_arg (k := 1) hX hi rfl rfl dL_law_303 dL_law_304 dL_law_306 dL_law_307 dL_law_308 ⟨by decide, by decide⟩ ?_
    refine awL_callV (x := ((35 : Nat) : Int)) (sk := []) (av := [(0, xv xs i 1)]) (a := 35) (ci := 6) (d' := 7) (mc' := 0) (ms' := 0) hC hRm dL_law_309 rfl (by decide) rfl cwRL_116 cdm_X6_duchy rfl rfl (Or.inl ⟨hbt, by decide⟩) (by decide) (by decide) (by omega) (by omega) (Nat.le_of_ble_eq_true rfl) (by rw [hbt]; exact ok_X6_duchy hy) (fun v n' h' _ hQ => ?_)
    obtain ⟨rfl, rfl, rfl⟩ := hQ
    refine aw_istore6 hC dL_law_312 rfl ?_
    refine aw_aload_n hC dL_law_314 rfl ?_
    refine awL_callV (x := ((35 : Nat) : Int)) (sk := []) (av := []) (a := 35) (ci := 6) (d' := 0) (mc' := 0) (ms' := 0) hC hRm dL_law_315 rfl (by decide) rfl cwRL_117 cdm_X6_thrown rfl rfl (Or.inl ⟨hbt, by decide⟩) (by decide) (by decide) (by omega) (by omega) (Nat.le_of_ble_eq_true rfl) (by rw [hbt]; exact ok_X6_thrown (res := 0) (thr Y1)) (fun v n' h' _ hQ => ?_)
    obtain ⟨rfl, rfl, rfl⟩ := hQ
    refine aw_iload hC dL_law_318 rfl ?_
    refine aw_icmp_eq (tgt := 325) hC dL_law_320 (by decide) (fun _ => ?_) (fun c => absurd rfl c)
    refine aw_iload hC dL_law_325 rfl ?_
    refine aw_if_ne (tgt := 342) hC dL_law_327 (by decide) (fun c => absurd rfl c) (fun _ => ?_)
    refine aw_aload_n hC dL_law_330 rfl ?_
    refine aw_iconst hC dL_law_331 (by decide) ?_
    refine aw_laload (a := 68) (len := 1) hC dL_law_332 rfl rfl (Or.inl ⟨hbt, by decide⟩) (by decide) (by decide) ?_
    refine aw_iload hC dL_law_333 rfl ?_
    refine aw_i2l hC dL_law_335 ?_
    refine aw_lcmp hC dL_law_336 ?_
    refine aw_if_eq (tgt := 342) hC dL_law_337 (by decide) (fun _ => ?_) (fun c => absurd (lc0 Y2) c)
    refine aw_goto (tgt := 2266) hC dL_law_342 (by decide) ?_
    exact awL_widen (by omega) (by omega) (awL_drop (kk _ _ _ hn I2))
  · obtain rfl := ox_duchy _ _ hq
    refine awL_callS (sk := []) (av := [(2, ((0 : Nat) : Int)), (0, xv xs i 1), (2, ((68 : Nat) : Int))]) hst hbt hC hRm dL_law_297 cwRL_111 cdm_L_duchy (by decide) (by decide) (by omega) (by omega) (by decide) (ok_L_duchy_x1 hq) (fun v n' h' _ hQ => ?_)
    obtain ⟨rfl, rfl, rfl⟩ := hQ
    obtain ⟨⟨y, h2⟩, hy, Y1, I2⟩ := PQ
    dsimp only at Y1 I2
    refine aw_istore5 hC dL_law_300 rfl ?_
    refine aw_aload_n hC dL_law_302 rfl ?_
    refine awL_arg (k := 1) hX hi rfl rfl dL_law_303 dL_law_304 dL_law_306 dL_law_307 dL_law_308 ⟨by decide, by decide⟩ ?_
    refine awL_callV (x := ((35 : Nat) : Int)) (sk := []) (av := [(0, xv xs i 1)]) (a := 35) (ci := 6) (d' := 7) (mc' := 0) (ms' := 0) hC hRm dL_law_309 rfl (by decide) rfl cwRL_116 cdm_X6_duchy rfl rfl (Or.inl ⟨hbt, by decide⟩) (by decide) (by decide) (by omega) (by omega) (Nat.le_of_ble_eq_true rfl) (by rw [hbt]; exact ok_X6_duchy hy) (fun v n' h' _ hQ => ?_)
    obtain ⟨rfl, rfl, rfl⟩ := hQ
    refine aw_istore6 hC dL_law_312 rfl ?_
    refine aw_aload_n hC dL_law_314 rfl ?_
    refine awL_callV (x := ((35 : Nat) : Int)) (sk := []) (av := []) (a := 35) (ci := 6) (d' := 0) (mc' := 0) (ms' := 0) hC hRm dL_law_315 rfl (by decide) rfl cwRL_117 cdm_X6_thrown rfl rfl (Or.inl ⟨hbt, by decide⟩) (by decide) (by decide) (by omega) (by omega) (Nat.le_of_ble_eq_true rfl) (by rw [hbt]; exact ok_X6_thrown (res := 1) (thr Y1)) (fun v n' h' _ hQ => ?_)
    obtain ⟨rfl, rfl, rfl⟩ := hQ
    refine aw_iload hC dL_law_318 rfl ?_
    refine aw_icmp_eq (tgt := 325) hC dL_law_320 (by decide) (fun _ => ?_) (fun c => absurd rfl c)
    refine aw_iload hC dL_law_325 rfl ?_
    refine aw_if_ne (tgt := 342) hC dL_law_327 (by decide) (fun _ => ?_) (fun c => absurd (show (1 : Int) = 0 from c) (by decide))
    refine aw_goto (tgt := 2266) hC dL_law_342 (by decide) ?_
    exact awL_widen (by omega) (by omega) (awL_drop (kk _ _ _ hn I2))
theorem law_fault {G : GD} {X : CX} {b L : Nat} {xs : Nat → Int32} {i κ : Int} {n : Nat} {h : Hp} {cs ss : Nat} (hX : LX G X b L xs) (hi : 0 ≤ i ∧ i + 6 ≤ L) (hn : NK n κ) (I : Inv κ h) (hc : cs + 6 ≤ 601024) (hs : ss + 2600 ≤ 7293034) (kk : KK G X b i cs ss) : AW G X 345 [(6, (b : Int)), (2, ((0 : Nat) : Int)), (2, ((35 : Nat) : Int)), (2, ((68 : Nat) : Int)), (0, i), (9, 0), (9, 0), (9, 0)] [] n h cs ss := by
  obtain ⟨hC, hRm, hbt, hst, -⟩ := id hX
  refine aw_aload_n hC dL_law_345 rfl ?_
  obtain ⟨q, hq, PQ⟩ := s_fault  I
  refine awL_callV (x := ((0 : Nat) : Int)) (sk := []) (av := []) (a := 0) (ci := 5) (d' := 0) (mc' := 0) (ms' := 0) hC hRm dL_law_346 rfl (by decide) rfl cwRL_121 cdm_X5_fault rfl rfl (Or.inl ⟨hbt, by decide⟩) (by decide) (by decide) (by omega) (by omega) (Nat.le_of_ble_eq_true rfl) (by rw [hbt]; exact ok_X5_fault hq) (fun v n' h' _ hQ => ?_)
  obtain ⟨rfl, rfl, rfl⟩ := hQ
  obtain ⟨⟨y, h2⟩, hy, Y1, I2⟩ := PQ
  dsimp only at Y1 I2 hy
  refine aw_aload_n hC dL_law_349 rfl ?_
  refine awL_callV (x := ((35 : Nat) : Int)) (sk := [(0, q)]) (av := []) (a := 35) (ci := 6) (d' := 0) (mc' := 0) (ms' := 0) hC hRm dL_law_350 rfl (by decide) rfl cwRL_124 cdm_X6_fault rfl rfl (Or.inl ⟨hbt, by decide⟩) (by decide) (by decide) (by omega) (by omega) (Nat.le_of_ble_eq_true rfl) (by rw [hbt]; exact ok_X6_fault hy) (fun v n' h' _ hQ => ?_)
  obtain ⟨rfl, rfl, rfl⟩ := hQ
  refine aw_icmp_eq (tgt := 2266) hC dL_law_353 (by decide) (fun _ => ?_) (fun c => absurd Y1.symm c)
  exact awL_widen (by omega) (by omega) (awL_drop (kk _ _ _ hn I2))
theorem law_count {G : GD} {X : CX} {b L : Nat} {xs : Nat → Int32} {i κ : Int} {n : Nat} {h : Hp} {cs ss : Nat} (hX : LX G X b L xs) (hi : 0 ≤ i ∧ i + 6 ≤ L) (hn : NK n κ) (I : Inv κ h) (hc : cs + 6 ≤ 601024) (hs : ss + 2600 ≤ 7293034) (kk : KK G X b i cs ss) : AW G X 358 [(6, (b : Int)), (2, ((0 : Nat) : Int)), (2, ((35 : Nat) : Int)), (2, ((68 : Nat) : Int)), (0, i), (9, 0), (9, 0), (9, 0)] [] n h cs ss := by
  obtain ⟨hC, hRm, hbt, hst, -⟩ := id hX
  refine aw_aload_n hC dL_law_358 rfl ?_
  refine awL_arg (k := 1) hX hi rfl rfl dL_law_359 dL_law_360 dL_law_362 dL_law_363 dL_law_364 ⟨by decide, by decide⟩ ?_
  refine aw_aload_n hC dL_law_365 rfl ?_
  obtain ⟨q, hq, PQ⟩ := s_count (x := xv xs i 1) I
  rcases q with ⟨r1, h1⟩ | ⟨e, h1⟩
  · refine awL_callS (sk := []) (av := [(2, ((0 : Nat) : Int)), (0, xv xs i 1), (2, ((68 : Nat) : Int))]) hst hbt hC hRm dL_law_366 cwRL_125 cdm_L_count (by decide) (by decide) (by omega) (by omega) (by decide) (ok_L_count_n hq) (fun v n' h' _ hQ => ?_)
    obtain ⟨rfl, rfl, rfl⟩ := hQ
    obtain ⟨⟨y, h2⟩, hy, Y1, Y2, I2⟩ := PQ
    dsimp only at Y1 Y2 I2
    refine aw_istore5 hC dL_law_369 rfl ?_
    refine aw_aload_n hC dL_law_371 rfl ?_
    refine awL_arg (k := 1) hX hi rfl rfl dL_law_372 dL_law_373 dL_law_375 dL_law_376 dL_law_377 ⟨by decide, by decide⟩ ?_
    refine awL_callV (x := ((35 : Nat) : Int)) (sk := []) (av := [(0, xv xs i 1)]) (a := 35) (ci := 6) (d' := 7) (mc' := 0) (ms' := 0) hC hRm dL_law_378 rfl (by decide) rfl cwRL_127 cdm_X6_count rfl rfl (Or.inl ⟨hbt, by decide⟩) (by decide) (by decide) (by omega) (by omega) (Nat.le_of_ble_eq_true rfl) (by rw [hbt]; exact ok_X6_count hy) (fun v n' h' _ hQ => ?_)
    obtain ⟨rfl, rfl, rfl⟩ := hQ
    refine aw_istore6 hC dL_law_381 rfl ?_
    refine aw_aload_n hC dL_law_383 rfl ?_
    refine awL_callV (x := ((35 : Nat) : Int)) (sk := []) (av := []) (a := 35) (ci := 6) (d' := 0) (mc' := 0) (ms' := 0) hC hRm dL_law_384 rfl (by decide) rfl cwRL_117 cdm_X6_thrown rfl rfl (Or.inl ⟨hbt, by decide⟩) (by decide) (by decide) (by omega) (by omega) (Nat.le_of_ble_eq_true rfl) (by rw [hbt]; exact ok_X6_thrown (res := 0) (thr Y1)) (fun v n' h' _ hQ => ?_)
    obtain ⟨rfl, rfl, rfl⟩ := hQ
    refine aw_iload hC dL_law_387 rfl ?_
    refine aw_icmp_eq (tgt := 394) hC dL_law_389 (by decide) (fun _ => ?_) (fun c => absurd rfl c)
    refine aw_iload hC dL_law_394 rfl ?_
    refine aw_if_ne (tgt := 411) hC dL_law_396 (by decide) (fun c => absurd rfl c) (fun _ => ?_)
    refine aw_aload_n hC dL_law_399 rfl ?_
    refine aw_iconst hC dL_law_400 (by decide) ?_
    refine aw_laload (a := 68) (len := 1) hC dL_law_401 rfl rfl (Or.inl ⟨hbt, by decide⟩) (by decide) (by decide) ?_
    refine aw_iload hC dL_law_402 rfl ?_
    refine aw_i2l hC dL_law_404 ?_
    refine aw_lcmp hC dL_law_405 ?_
    refine aw_if_eq (tgt := 411) hC dL_law_406 (by decide) (fun _ => ?_) (fun c => absurd (lc0 Y2) c)
    refine aw_goto (tgt := 2266) hC dL_law_411 (by decide) ?_
    exact awL_widen (by omega) (by omega) (awL_drop (kk _ _ _ hn I2))
  · obtain rfl := ox_count _ _ hq
    refine awL_callS (sk := []) (av := [(2, ((0 : Nat) : Int)), (0, xv xs i 1), (2, ((68 : Nat) : Int))]) hst hbt hC hRm dL_law_366 cwRL_125 cdm_L_count (by decide) (by decide) (by omega) (by omega) (by decide) (ok_L_count_x0 hq) (fun v n' h' _ hQ => ?_)
    obtain ⟨rfl, rfl, rfl⟩ := hQ
    obtain ⟨⟨y, h2⟩, hy, Y1, I2⟩ := PQ
    dsimp only at Y1 I2
    refine aw_istore5 hC dL_law_369 rfl ?_
    refine aw_aload_n hC dL_law_371 rfl ?_
    refine awL_arg (k := 1) hX hi rfl rfl dL_law_372 dL_law_373 dL_law_375 dL_law_376 dL_law_377 ⟨by decide, by decide⟩ ?_
    refine awL_callV (x := ((35 : Nat) : Int)) (sk := []) (av := [(0, xv xs i 1)]) (a := 35) (ci := 6) (d' := 7) (mc' := 0) (ms' := 0) hC hRm dL_law_378 rfl (by decide) rfl cwRL_127 cdm_X6_count rfl rfl (Or.inl ⟨hbt, by decide⟩) (by decide) (by decide) (by omega) (by omega) (Nat.le_of_ble_eq_true rfl) (by rw [hbt]; exact ok_X6_count hy) (fun v n' h' _ hQ => ?_)
    obtain ⟨rfl, rfl, rfl⟩ := hQ
    refine aw_istore6 hC dL_law_381 rfl ?_
    refine aw_aload_n hC dL_law_383 rfl ?_
    refine awL_callV (x := ((35 : Nat) : Int)) (sk := []) (av := []) (a := 35) (ci := 6) (d' := 0) (mc' := 0) (ms' := 0) hC hRm dL_law_384 rfl (by decide) rfl cwRL_117 cdm_X6_thrown rfl rfl (Or.inl ⟨hbt, by decide⟩) (by decide) (by decide) (by omega) (by omega) (Nat.le_of_ble_eq_true rfl) (by rw [hbt]; exact ok_X6_thrown (res := 1) (thr Y1)) (fun v n' h' _ hQ => ?_)
    obtain ⟨rfl, rfl, rfl⟩ := hQ
    refine aw_iload hC dL_law_387 rfl ?_
    refine aw_icmp_eq (tgt := 394) hC dL_law_389 (by decide) (fun _ => ?_) (fun c => absurd rfl c)
    refine aw_iload hC dL_law_394 rfl ?_
    refine aw_if_ne (tgt := 411) hC dL_law_396 (by decide) (fun _ => ?_) (fun c => absurd (show (1 : Int) = 0 from c) (by decide))
    refine aw_goto (tgt := 2266) hC dL_law_411 (by decide) ?_
    exact awL_widen (by omega) (by omega) (awL_drop (kk _ _ _ hn I2))
theorem law_cell {G : GD} {X : CX} {b L : Nat} {xs : Nat → Int32} {i κ : Int} {n : Nat} {h : Hp} {cs ss : Nat} (hX : LX G X b L xs) (hi : 0 ≤ i ∧ i + 6 ≤ L) (hn : NK n κ) (I : Inv κ h) (hc : cs + 6 ≤ 601024) (hs : ss + 2600 ≤ 7293034) (kk : KK G X b i cs ss) : AW G X 414 [(6, (b : Int)), (2, ((0 : Nat) : Int)), (2, ((35 : Nat) : Int)), (2, ((68 : Nat) : Int)), (0, i), (9, 0), (9, 0), (9, 0)] [] n h cs ss := by
  obtain ⟨hC, hRm, hbt, hst, -⟩ := id hX
  refine aw_aload_n hC dL_law_414 rfl ?_
  refine awL_arg (k := 1) hX hi rfl rfl dL_law_415 dL_law_416 dL_law_418 dL_law_419 dL_law_420 ⟨by decide, by decide⟩ ?_
  refine awL_arg (k := 2) hX hi rfl rfl dL_law_421 dL_law_422 dL_law_424 dL_law_425 dL_law_426 ⟨by decide, by decide⟩ ?_
  refine aw_aload_n hC dL_law_427 rfl ?_
  obtain ⟨q, hq, PQ⟩ := s_cell (x := xv xs i 1) (y := xv xs i 2) I
  rcases q with ⟨r1, h1⟩ | ⟨e, h1⟩
  · refine awL_callS (sk := []) (av := [(2, ((0 : Nat) : Int)), (0, xv xs i 1), (0, xv xs i 2), (2, ((68 : Nat) : Int))]) hst hbt hC hRm dL_law_428 cwRL_128 cdm_L_cell (by decide) (by decide) (by omega) (by omega) (by decide) (ok_L_cell_n hq) (fun v n' h' _ hQ => ?_)
    obtain ⟨rfl, rfl, rfl⟩ := hQ
    obtain ⟨⟨y, h2⟩, hy, Y1, Y2, I2⟩ := PQ
    dsimp only at Y1 Y2 I2
    refine aw_istore5 hC dL_law_431 rfl ?_
    refine aw_aload_n hC dL_law_433 rfl ?_
    refine awL_arg (k := 1) hX hi rfl rfl dL_law_434 dL_law_435 dL_law_437 dL_law_438 dL_law_439 ⟨by decide, by decide⟩ ?_
    refine awL_arg (k := 2) hX hi rfl rfl dL_law_440 dL_law_441 dL_law_443 dL_law_444 dL_law_445 ⟨by decide, by decide⟩ ?_
    refine awL_callV (x := ((35 : Nat) : Int)) (sk := []) (av := [(0, xv xs i 1), (0, xv xs i 2)]) (a := 35) (ci := 6) (d' := 5) (mc' := 0) (ms' := 0) hC hRm dL_law_446 rfl (by decide) rfl cwRL_131 cdm_X6_cell rfl rfl (Or.inl ⟨hbt, by decide⟩) (by decide) (by decide) (by omega) (by omega) (Nat.le_of_ble_eq_true rfl) (by rw [hbt]; exact ok_X6_cell hy) (fun v n' h' _ hQ => ?_)
    obtain ⟨rfl, rfl, rfl⟩ := hQ
    refine aw_istore6 hC dL_law_449 rfl ?_
    refine aw_aload_n hC dL_law_451 rfl ?_
    refine awL_callV (x := ((35 : Nat) : Int)) (sk := []) (av := []) (a := 35) (ci := 6) (d' := 0) (mc' := 0) (ms' := 0) hC hRm dL_law_452 rfl (by decide) rfl cwRL_117 cdm_X6_thrown rfl rfl (Or.inl ⟨hbt, by decide⟩) (by decide) (by decide) (by omega) (by omega) (Nat.le_of_ble_eq_true rfl) (by rw [hbt]; exact ok_X6_thrown (res := 0) (thr Y1)) (fun v n' h' _ hQ => ?_)
    obtain ⟨rfl, rfl, rfl⟩ := hQ
    refine aw_iload hC dL_law_455 rfl ?_
    refine aw_icmp_eq (tgt := 462) hC dL_law_457 (by decide) (fun _ => ?_) (fun c => absurd rfl c)
    refine aw_iload hC dL_law_462 rfl ?_
    refine aw_if_ne (tgt := 479) hC dL_law_464 (by decide) (fun c => absurd rfl c) (fun _ => ?_)
    refine aw_aload_n hC dL_law_467 rfl ?_
    refine aw_iconst hC dL_law_468 (by decide) ?_
    refine aw_laload (a := 68) (len := 1) hC dL_law_469 rfl rfl (Or.inl ⟨hbt, by decide⟩) (by decide) (by decide) ?_
    refine aw_iload hC dL_law_470 rfl ?_
    refine aw_i2l hC dL_law_472 ?_
    refine aw_lcmp hC dL_law_473 ?_
    refine aw_if_eq (tgt := 479) hC dL_law_474 (by decide) (fun _ => ?_) (fun c => absurd (lc0 Y2) c)
    refine aw_goto (tgt := 2266) hC dL_law_479 (by decide) ?_
    exact awL_widen (by omega) (by omega) (awL_drop (kk _ _ _ hn I2))
  · obtain rfl := ox_cell _ _ hq
    refine awL_callS (sk := []) (av := [(2, ((0 : Nat) : Int)), (0, xv xs i 1), (0, xv xs i 2), (2, ((68 : Nat) : Int))]) hst hbt hC hRm dL_law_428 cwRL_128 cdm_L_cell (by decide) (by decide) (by omega) (by omega) (by decide) (ok_L_cell_x0 hq) (fun v n' h' _ hQ => ?_)
    obtain ⟨rfl, rfl, rfl⟩ := hQ
    obtain ⟨⟨y, h2⟩, hy, Y1, I2⟩ := PQ
    dsimp only at Y1 I2
    refine aw_istore5 hC dL_law_431 rfl ?_
    refine aw_aload_n hC dL_law_433 rfl ?_
    refine awL_arg (k := 1) hX hi rfl rfl dL_law_434 dL_law_435 dL_law_437 dL_law_438 dL_law_439 ⟨by decide, by decide⟩ ?_
    refine awL_arg (k := 2) hX hi rfl rfl dL_law_440 dL_law_441 dL_law_443 dL_law_444 dL_law_445 ⟨by decide, by decide⟩ ?_
    refine awL_callV (x := ((35 : Nat) : Int)) (sk := []) (av := [(0, xv xs i 1), (0, xv xs i 2)]) (a := 35) (ci := 6) (d' := 5) (mc' := 0) (ms' := 0) hC hRm dL_law_446 rfl (by decide) rfl cwRL_131 cdm_X6_cell rfl rfl (Or.inl ⟨hbt, by decide⟩) (by decide) (by decide) (by omega) (by omega) (Nat.le_of_ble_eq_true rfl) (by rw [hbt]; exact ok_X6_cell hy) (fun v n' h' _ hQ => ?_)
    obtain ⟨rfl, rfl, rfl⟩ := hQ
    refine aw_istore6 hC dL_law_449 rfl ?_
    refine aw_aload_n hC dL_law_451 rfl ?_
    refine awL_callV (x := ((35 : Nat) : Int)) (sk := []) (av := []) (a := 35) (ci := 6) (d' := 0) (mc' := 0) (ms' := 0) hC hRm dL_law_452 rfl (by decide) rfl cwRL_117 cdm_X6_thrown rfl rfl (Or.inl ⟨hbt, by decide⟩) (by decide) (by decide) (by omega) (by omega) (Nat.le_of_ble_eq_true rfl) (by rw [hbt]; exact ok_X6_thrown (res := 1) (thr Y1)) (fun v n' h' _ hQ => ?_)
    obtain ⟨rfl, rfl, rfl⟩ := hQ
    refine aw_iload hC dL_law_455 rfl ?_
    refine aw_icmp_eq (tgt := 462) hC dL_law_457 (by decide) (fun _ => ?_) (fun c => absurd rfl c)
    refine aw_iload hC dL_law_462 rfl ?_
    refine aw_if_ne (tgt := 479) hC dL_law_464 (by decide) (fun _ => ?_) (fun c => absurd (show (1 : Int) = 0 from c) (by decide))
    refine aw_goto (tgt := 2266) hC dL_law_479 (by decide) ?_
    exact awL_widen (by omega) (by omega) (awL_drop (kk _ _ _ hn I2))
theorem law_tree {G : GD} {X : CX} {b L : Nat} {xs : Nat → Int32} {i κ : Int} {n : Nat} {h : Hp} {cs ss : Nat} (hX : LX G X b L xs) (hi : 0 ≤ i ∧ i + 6 ≤ L) (hn : NK n κ) (I : Inv κ h) (hc : cs + 6 ≤ 601024) (hs : ss + 2600 ≤ 7293034) (kk : KK G X b i cs ss) : AW G X 482 [(6, (b : Int)), (2, ((0 : Nat) : Int)), (2, ((35 : Nat) : Int)), (2, ((68 : Nat) : Int)), (0, i), (9, 0), (9, 0), (9, 0)] [] n h cs ss := by
  obtain ⟨hC, hRm, hbt, hst, -⟩ := id hX
  refine aw_aload_n hC dL_law_482 rfl ?_
  refine awL_arg (k := 1) hX hi rfl rfl dL_law_483 dL_law_484 dL_law_486 dL_law_487 dL_law_488 ⟨by decide, by decide⟩ ?_
  refine awL_arg (k := 2) hX hi rfl rfl dL_law_489 dL_law_490 dL_law_492 dL_law_493 dL_law_494 ⟨by decide, by decide⟩ ?_
  refine aw_aload_n hC dL_law_495 rfl ?_
  obtain ⟨q, hq, PQ⟩ := s_tree (x := xv xs i 1) (y := xv xs i 2) I
  rcases q with ⟨r1, h1⟩ | ⟨e, h1⟩
  · refine awL_callS (sk := []) (av := [(2, ((0 : Nat) : Int)), (0, xv xs i 1), (0, xv xs i 2), (2, ((68 : Nat) : Int))]) hst hbt hC hRm dL_law_496 cwRL_132 cdm_L_tree (by decide) (by decide) (by omega) (by omega) (by decide) (ok_L_tree_n hq) (fun v n' h' _ hQ => ?_)
    obtain ⟨rfl, rfl, rfl⟩ := hQ
    obtain ⟨⟨y, h2⟩, hy, Y1, Y2, I2⟩ := PQ
    dsimp only at Y1 Y2 I2
    refine aw_istore5 hC dL_law_499 rfl ?_
    refine aw_aload_n hC dL_law_501 rfl ?_
    refine awL_arg (k := 1) hX hi rfl rfl dL_law_502 dL_law_503 dL_law_505 dL_law_506 dL_law_507 ⟨by decide, by decide⟩ ?_
    refine awL_arg (k := 2) hX hi rfl rfl dL_law_508 dL_law_509 dL_law_511 dL_law_512 dL_law_513 ⟨by decide, by decide⟩ ?_
    refine awL_callV (x := ((35 : Nat) : Int)) (sk := []) (av := [(0, xv xs i 1), (0, xv xs i 2)]) (a := 35) (ci := 6) (d' := 2) (mc' := 0) (ms' := 0) hC hRm dL_law_514 rfl (by decide) rfl cwRL_134 cdm_X6_tree rfl rfl (Or.inl ⟨hbt, by decide⟩) (by decide) (by decide) (by omega) (by omega) (Nat.le_of_ble_eq_true rfl) (by rw [hbt]; exact ok_X6_tree hy) (fun v n' h' _ hQ => ?_)
    obtain ⟨rfl, rfl, rfl⟩ := hQ
    refine aw_istore6 hC dL_law_517 rfl ?_
    refine aw_aload_n hC dL_law_519 rfl ?_
    refine awL_callV (x := ((35 : Nat) : Int)) (sk := []) (av := []) (a := 35) (ci := 6) (d' := 0) (mc' := 0) (ms' := 0) hC hRm dL_law_520 rfl (by decide) rfl cwRL_117 cdm_X6_thrown rfl rfl (Or.inl ⟨hbt, by decide⟩) (by decide) (by decide) (by omega) (by omega) (Nat.le_of_ble_eq_true rfl) (by rw [hbt]; exact ok_X6_thrown (res := 0) (thr Y1)) (fun v n' h' _ hQ => ?_)
    obtain ⟨rfl, rfl, rfl⟩ := hQ
    refine aw_iload hC dL_law_523 rfl ?_
    refine aw_icmp_eq (tgt := 530) hC dL_law_525 (by decide) (fun _ => ?_) (fun c => absurd rfl c)
    refine aw_iload hC dL_law_530 rfl ?_
    refine aw_if_ne (tgt := 547) hC dL_law_532 (by decide) (fun c => absurd rfl c) (fun _ => ?_)
    refine aw_aload_n hC dL_law_535 rfl ?_
    refine aw_iconst hC dL_law_536 (by decide) ?_
    refine aw_laload (a := 68) (len := 1) hC dL_law_537 rfl rfl (Or.inl ⟨hbt, by decide⟩) (by decide) (by decide) ?_
    refine aw_iload hC dL_law_538 rfl ?_
    refine aw_i2l hC dL_law_540 ?_
    refine aw_lcmp hC dL_law_541 ?_
    refine aw_if_eq (tgt := 547) hC dL_law_542 (by decide) (fun _ => ?_) (fun c => absurd (lc0 Y2) c)
    refine aw_goto (tgt := 2266) hC dL_law_547 (by decide) ?_
    exact awL_widen (by omega) (by omega) (awL_drop (kk _ _ _ hn I2))
  · obtain rfl := ox_tree _ _ hq
    refine awL_callS (sk := []) (av := [(2, ((0 : Nat) : Int)), (0, xv xs i 1), (0, xv xs i 2), (2, ((68 : Nat) : Int))]) hst hbt hC hRm dL_law_496 cwRL_132 cdm_L_tree (by decide) (by decide) (by omega) (by omega) (by decide) (ok_L_tree_x0 hq) (fun v n' h' _ hQ => ?_)
    obtain ⟨rfl, rfl, rfl⟩ := hQ
    obtain ⟨⟨y, h2⟩, hy, Y1, I2⟩ := PQ
    dsimp only at Y1 I2
    refine aw_istore5 hC dL_law_499 rfl ?_
    refine aw_aload_n hC dL_law_501 rfl ?_
    refine awL_arg (k := 1) hX hi rfl rfl dL_law_502 dL_law_503 dL_law_505 dL_law_506 dL_law_507 ⟨by decide, by decide⟩ ?_
    refine awL_arg (k := 2) hX hi rfl rfl dL_law_508 dL_law_509 dL_law_511 dL_law_512 dL_law_513 ⟨by decide, by decide⟩ ?_
    refine awL_callV (x := ((35 : Nat) : Int)) (sk := []) (av := [(0, xv xs i 1), (0, xv xs i 2)]) (a := 35) (ci := 6) (d' := 2) (mc' := 0) (ms' := 0) hC hRm dL_law_514 rfl (by decide) rfl cwRL_134 cdm_X6_tree rfl rfl (Or.inl ⟨hbt, by decide⟩) (by decide) (by decide) (by omega) (by omega) (Nat.le_of_ble_eq_true rfl) (by rw [hbt]; exact ok_X6_tree hy) (fun v n' h' _ hQ => ?_)
    obtain ⟨rfl, rfl, rfl⟩ := hQ
    refine aw_istore6 hC dL_law_517 rfl ?_
    refine aw_aload_n hC dL_law_519 rfl ?_
    refine awL_callV (x := ((35 : Nat) : Int)) (sk := []) (av := []) (a := 35) (ci := 6) (d' := 0) (mc' := 0) (ms' := 0) hC hRm dL_law_520 rfl (by decide) rfl cwRL_117 cdm_X6_thrown rfl rfl (Or.inl ⟨hbt, by decide⟩) (by decide) (by decide) (by omega) (by omega) (Nat.le_of_ble_eq_true rfl) (by rw [hbt]; exact ok_X6_thrown (res := 1) (thr Y1)) (fun v n' h' _ hQ => ?_)
    obtain ⟨rfl, rfl, rfl⟩ := hQ
    refine aw_iload hC dL_law_523 rfl ?_
    refine aw_icmp_eq (tgt := 530) hC dL_law_525 (by decide) (fun _ => ?_) (fun c => absurd rfl c)
    refine aw_iload hC dL_law_530 rfl ?_
    refine aw_if_ne (tgt := 547) hC dL_law_532 (by decide) (fun _ => ?_) (fun c => absurd (show (1 : Int) = 0 from c) (by decide))
    refine aw_goto (tgt := 2266) hC dL_law_547 (by decide) ?_
    exact awL_widen (by omega) (by omega) (awL_drop (kk _ _ _ hn I2))
theorem law_house {G : GD} {X : CX} {b L : Nat} {xs : Nat → Int32} {i κ : Int} {n : Nat} {h : Hp} {cs ss : Nat} (hX : LX G X b L xs) (hi : 0 ≤ i ∧ i + 6 ≤ L) (hn : NK n κ) (I : Inv κ h) (hc : cs + 6 ≤ 601024) (hs : ss + 2600 ≤ 7293034) (kk : KK G X b i cs ss) : AW G X 550 [(6, (b : Int)), (2, ((0 : Nat) : Int)), (2, ((35 : Nat) : Int)), (2, ((68 : Nat) : Int)), (0, i), (9, 0), (9, 0), (9, 0)] [] n h cs ss := by
  obtain ⟨hC, hRm, hbt, hst, -⟩ := id hX
  refine aw_aload_n hC dL_law_550 rfl ?_
  refine awL_arg (k := 1) hX hi rfl rfl dL_law_551 dL_law_552 dL_law_554 dL_law_555 dL_law_556 ⟨by decide, by decide⟩ ?_
  refine awL_arg (k := 2) hX hi rfl rfl dL_law_557 dL_law_558 dL_law_560 dL_law_561 dL_law_562 ⟨by decide, by decide⟩ ?_
  refine aw_aload_n hC dL_law_563 rfl ?_
  obtain ⟨q, hq, PQ⟩ := s_house (x := xv xs i 1) (y := xv xs i 2) I
  rcases q with ⟨r1, h1⟩ | ⟨e, h1⟩
  · refine awL_callS (sk := []) (av := [(2, ((0 : Nat) : Int)), (0, xv xs i 1), (0, xv xs i 2), (2, ((68 : Nat) : Int))]) hst hbt hC hRm dL_law_564 cwRL_135 cdm_L_house (by decide) (by decide) (by omega) (by omega) (by decide) (ok_L_house_n hq) (fun v n' h' _ hQ => ?_)
    obtain ⟨rfl, rfl, rfl⟩ := hQ
    obtain ⟨⟨y, h2⟩, hy, Y1, Y2, I2⟩ := PQ
    dsimp only at Y1 Y2 I2
    refine aw_istore5 hC dL_law_567 rfl ?_
    refine aw_aload_n hC dL_law_569 rfl ?_
    refine awL_arg (k := 1) hX hi rfl rfl dL_law_570 dL_law_571 dL_law_573 dL_law_574 dL_law_575 ⟨by decide, by decide⟩ ?_
    refine awL_arg (k := 2) hX hi rfl rfl dL_law_576 dL_law_577 dL_law_579 dL_law_580 dL_law_581 ⟨by decide, by decide⟩ ?_
    refine awL_callV (x := ((35 : Nat) : Int)) (sk := []) (av := [(0, xv xs i 1), (0, xv xs i 2)]) (a := 35) (ci := 6) (d' := 6) (mc' := 0) (ms' := 0) hC hRm dL_law_582 rfl (by decide) rfl cwRL_137 cdm_X6_house rfl rfl (Or.inl ⟨hbt, by decide⟩) (by decide) (by decide) (by omega) (by omega) (Nat.le_of_ble_eq_true rfl) (by rw [hbt]; exact ok_X6_house hy) (fun v n' h' _ hQ => ?_)
    obtain ⟨rfl, rfl, rfl⟩ := hQ
    refine aw_istore6 hC dL_law_585 rfl ?_
    refine aw_aload_n hC dL_law_587 rfl ?_
    refine awL_callV (x := ((35 : Nat) : Int)) (sk := []) (av := []) (a := 35) (ci := 6) (d' := 0) (mc' := 0) (ms' := 0) hC hRm dL_law_588 rfl (by decide) rfl cwRL_117 cdm_X6_thrown rfl rfl (Or.inl ⟨hbt, by decide⟩) (by decide) (by decide) (by omega) (by omega) (Nat.le_of_ble_eq_true rfl) (by rw [hbt]; exact ok_X6_thrown (res := 0) (thr Y1)) (fun v n' h' _ hQ => ?_)
    obtain ⟨rfl, rfl, rfl⟩ := hQ
    refine aw_iload hC dL_law_591 rfl ?_
    refine aw_icmp_eq (tgt := 598) hC dL_law_593 (by decide) (fun _ => ?_) (fun c => absurd rfl c)
    refine aw_iload hC dL_law_598 rfl ?_
    refine aw_if_ne (tgt := 615) hC dL_law_600 (by decide) (fun c => absurd rfl c) (fun _ => ?_)
    refine aw_aload_n hC dL_law_603 rfl ?_
    refine aw_iconst hC dL_law_604 (by decide) ?_
    refine aw_laload (a := 68) (len := 1) hC dL_law_605 rfl rfl (Or.inl ⟨hbt, by decide⟩) (by decide) (by decide) ?_
    refine aw_iload hC dL_law_606 rfl ?_
    refine aw_i2l hC dL_law_608 ?_
    refine aw_lcmp hC dL_law_609 ?_
    refine aw_if_eq (tgt := 615) hC dL_law_610 (by decide) (fun _ => ?_) (fun c => absurd (lc0 Y2) c)
    refine aw_goto (tgt := 2266) hC dL_law_615 (by decide) ?_
    exact awL_widen (by omega) (by omega) (awL_drop (kk _ _ _ hn I2))
  · obtain rfl := ox_house _ _ hq
    refine awL_callS (sk := []) (av := [(2, ((0 : Nat) : Int)), (0, xv xs i 1), (0, xv xs i 2), (2, ((68 : Nat) : Int))]) hst hbt hC hRm dL_law_564 cwRL_135 cdm_L_house (by decide) (by decide) (by omega) (by omega) (by decide) (ok_L_house_x0 hq) (fun v n' h' _ hQ => ?_)
    obtain ⟨rfl, rfl, rfl⟩ := hQ
    obtain ⟨⟨y, h2⟩, hy, Y1, I2⟩ := PQ
    dsimp only at Y1 I2
    refine aw_istore5 hC dL_law_567 rfl ?_
    refine aw_aload_n hC dL_law_569 rfl ?_
    refine awL_arg (k := 1) hX hi rfl rfl dL_law_570 dL_law_571 dL_law_573 dL_law_574 dL_law_575 ⟨by decide, by decide⟩ ?_
    refine awL_arg (k := 2) hX hi rfl rfl dL_law_576 dL_law_577 dL_law_579 dL_law_580 dL_law_581 ⟨by decide, by decide⟩ ?_
    refine awL_callV (x := ((35 : Nat) : Int)) (sk := []) (av := [(0, xv xs i 1), (0, xv xs i 2)]) (a := 35) (ci := 6) (d' := 6) (mc' := 0) (ms' := 0) hC hRm dL_law_582 rfl (by decide) rfl cwRL_137 cdm_X6_house rfl rfl (Or.inl ⟨hbt, by decide⟩) (by decide) (by decide) (by omega) (by omega) (Nat.le_of_ble_eq_true rfl) (by rw [hbt]; exact ok_X6_house hy) (fun v n' h' _ hQ => ?_)
    obtain ⟨rfl, rfl, rfl⟩ := hQ
    refine aw_istore6 hC dL_law_585 rfl ?_
    refine aw_aload_n hC dL_law_587 rfl ?_
    refine awL_callV (x := ((35 : Nat) : Int)) (sk := []) (av := []) (a := 35) (ci := 6) (d' := 0) (mc' := 0) (ms' := 0) hC hRm dL_law_588 rfl (by decide) rfl cwRL_117 cdm_X6_thrown rfl rfl (Or.inl ⟨hbt, by decide⟩) (by decide) (by decide) (by omega) (by omega) (Nat.le_of_ble_eq_true rfl) (by rw [hbt]; exact ok_X6_thrown (res := 1) (thr Y1)) (fun v n' h' _ hQ => ?_)
    obtain ⟨rfl, rfl, rfl⟩ := hQ
    refine aw_iload hC dL_law_591 rfl ?_
    refine aw_icmp_eq (tgt := 598) hC dL_law_593 (by decide) (fun _ => ?_) (fun c => absurd rfl c)
    refine aw_iload hC dL_law_598 rfl ?_
    refine aw_if_ne (tgt := 615) hC dL_law_600 (by decide) (fun _ => ?_) (fun c => absurd (show (1 : Int) = 0 from c) (by decide))
    refine aw_goto (tgt := 2266) hC dL_law_615 (by decide) ?_
    exact awL_widen (by omega) (by omega) (awL_drop (kk _ _ _ hn I2))
theorem law_miles {G : GD} {X : CX} {b L : Nat} {xs : Nat → Int32} {i κ : Int} {n : Nat} {h : Hp} {cs ss : Nat} (hX : LX G X b L xs) (hi : 0 ≤ i ∧ i + 6 ≤ L) (hn : NK n κ) (I : Inv κ h) (hc : cs + 6 ≤ 601024) (hs : ss + 2600 ≤ 7293034) (kk : KK G X b i cs ss) : AW G X 618 [(6, (b : Int)), (2, ((0 : Nat) : Int)), (2, ((35 : Nat) : Int)), (2, ((68 : Nat) : Int)), (0, i), (9, 0), (9, 0), (9, 0)] [] n h cs ss := by
  obtain ⟨hC, hRm, hbt, hst, -⟩ := id hX
  refine aw_aload_n hC dL_law_618 rfl ?_
  refine awL_arg (k := 1) hX hi rfl rfl dL_law_619 dL_law_620 dL_law_622 dL_law_623 dL_law_624 ⟨by decide, by decide⟩ ?_
  refine awL_arg (k := 2) hX hi rfl rfl dL_law_625 dL_law_626 dL_law_628 dL_law_629 dL_law_630 ⟨by decide, by decide⟩ ?_
  refine aw_aload_n hC dL_law_631 rfl ?_
  obtain ⟨q, hq, PQ⟩ := s_miles (x := xv xs i 1) (y := xv xs i 2) I
  rcases q with ⟨r1, h1⟩ | ⟨e, h1⟩
  · refine awL_callS (sk := []) (av := [(2, ((0 : Nat) : Int)), (0, xv xs i 1), (0, xv xs i 2), (2, ((68 : Nat) : Int))]) hst hbt hC hRm dL_law_632 cwRL_138 cdm_L_miles (by decide) (by decide) (by omega) (by omega) (by decide) (ok_L_miles_n hq) (fun v n' h' _ hQ => ?_)
    obtain ⟨rfl, rfl, rfl⟩ := hQ
    obtain ⟨⟨y, h2⟩, hy, Y1, Y2, I2⟩ := PQ
    dsimp only at Y1 Y2 I2
    refine aw_istore5 hC dL_law_635 rfl ?_
    refine aw_aload_n hC dL_law_637 rfl ?_
    refine awL_arg (k := 1) hX hi rfl rfl dL_law_638 dL_law_639 dL_law_641 dL_law_642 dL_law_643 ⟨by decide, by decide⟩ ?_
    refine awL_arg (k := 2) hX hi rfl rfl dL_law_644 dL_law_645 dL_law_647 dL_law_648 dL_law_649 ⟨by decide, by decide⟩ ?_
    refine awL_callV (x := ((35 : Nat) : Int)) (sk := []) (av := [(0, xv xs i 1), (0, xv xs i 2)]) (a := 35) (ci := 6) (d' := 3) (mc' := 0) (ms' := 0) hC hRm dL_law_650 rfl (by decide) rfl cwRL_140 cdm_X6_miles rfl rfl (Or.inl ⟨hbt, by decide⟩) (by decide) (by decide) (by omega) (by omega) (Nat.le_of_ble_eq_true rfl) (by rw [hbt]; exact ok_X6_miles hy) (fun v n' h' _ hQ => ?_)
    obtain ⟨rfl, rfl, rfl⟩ := hQ
    refine aw_istore6 hC dL_law_653 rfl ?_
    refine aw_aload_n hC dL_law_655 rfl ?_
    refine awL_callV (x := ((35 : Nat) : Int)) (sk := []) (av := []) (a := 35) (ci := 6) (d' := 0) (mc' := 0) (ms' := 0) hC hRm dL_law_656 rfl (by decide) rfl cwRL_117 cdm_X6_thrown rfl rfl (Or.inl ⟨hbt, by decide⟩) (by decide) (by decide) (by omega) (by omega) (Nat.le_of_ble_eq_true rfl) (by rw [hbt]; exact ok_X6_thrown (res := 0) (thr Y1)) (fun v n' h' _ hQ => ?_)
    obtain ⟨rfl, rfl, rfl⟩ := hQ
    refine aw_iload hC dL_law_659 rfl ?_
    refine aw_icmp_eq (tgt := 666) hC dL_law_661 (by decide) (fun _ => ?_) (fun c => absurd rfl c)
    refine aw_iload hC dL_law_666 rfl ?_
    refine aw_if_ne (tgt := 683) hC dL_law_668 (by decide) (fun c => absurd rfl c) (fun _ => ?_)
    refine aw_aload_n hC dL_law_671 rfl ?_
    refine aw_iconst hC dL_law_672 (by decide) ?_
    refine aw_laload (a := 68) (len := 1) hC dL_law_673 rfl rfl (Or.inl ⟨hbt, by decide⟩) (by decide) (by decide) ?_
    refine aw_iload hC dL_law_674 rfl ?_
    refine aw_i2l hC dL_law_676 ?_
    refine aw_lcmp hC dL_law_677 ?_
    refine aw_if_eq (tgt := 683) hC dL_law_678 (by decide) (fun _ => ?_) (fun c => absurd (lc0 Y2) c)
    refine aw_goto (tgt := 2266) hC dL_law_683 (by decide) ?_
    exact awL_widen (by omega) (by omega) (awL_drop (kk _ _ _ hn I2))
  · obtain rfl := ox_miles _ _ hq
    refine awL_callS (sk := []) (av := [(2, ((0 : Nat) : Int)), (0, xv xs i 1), (0, xv xs i 2), (2, ((68 : Nat) : Int))]) hst hbt hC hRm dL_law_632 cwRL_138 cdm_L_miles (by decide) (by decide) (by omega) (by omega) (by decide) (ok_L_miles_x0 hq) (fun v n' h' _ hQ => ?_)
    obtain ⟨rfl, rfl, rfl⟩ := hQ
    obtain ⟨⟨y, h2⟩, hy, Y1, I2⟩ := PQ
    dsimp only at Y1 I2
    refine aw_istore5 hC dL_law_635 rfl ?_
    refine aw_aload_n hC dL_law_637 rfl ?_
    refine awL_arg (k := 1) hX hi rfl rfl dL_law_638 dL_law_639 dL_law_641 dL_law_642 dL_law_643 ⟨by decide, by decide⟩ ?_
    refine awL_arg (k := 2) hX hi rfl rfl dL_law_644 dL_law_645 dL_law_647 dL_law_648 dL_law_649 ⟨by decide, by decide⟩ ?_
    refine awL_callV (x := ((35 : Nat) : Int)) (sk := []) (av := [(0, xv xs i 1), (0, xv xs i 2)]) (a := 35) (ci := 6) (d' := 3) (mc' := 0) (ms' := 0) hC hRm dL_law_650 rfl (by decide) rfl cwRL_140 cdm_X6_miles rfl rfl (Or.inl ⟨hbt, by decide⟩) (by decide) (by decide) (by omega) (by omega) (Nat.le_of_ble_eq_true rfl) (by rw [hbt]; exact ok_X6_miles hy) (fun v n' h' _ hQ => ?_)
    obtain ⟨rfl, rfl, rfl⟩ := hQ
    refine aw_istore6 hC dL_law_653 rfl ?_
    refine aw_aload_n hC dL_law_655 rfl ?_
    refine awL_callV (x := ((35 : Nat) : Int)) (sk := []) (av := []) (a := 35) (ci := 6) (d' := 0) (mc' := 0) (ms' := 0) hC hRm dL_law_656 rfl (by decide) rfl cwRL_117 cdm_X6_thrown rfl rfl (Or.inl ⟨hbt, by decide⟩) (by decide) (by decide) (by omega) (by omega) (Nat.le_of_ble_eq_true rfl) (by rw [hbt]; exact ok_X6_thrown (res := 1) (thr Y1)) (fun v n' h' _ hQ => ?_)
    obtain ⟨rfl, rfl, rfl⟩ := hQ
    refine aw_iload hC dL_law_659 rfl ?_
    refine aw_icmp_eq (tgt := 666) hC dL_law_661 (by decide) (fun _ => ?_) (fun c => absurd rfl c)
    refine aw_iload hC dL_law_666 rfl ?_
    refine aw_if_ne (tgt := 683) hC dL_law_668 (by decide) (fun _ => ?_) (fun c => absurd (show (1 : Int) = 0 from c) (by decide))
    refine aw_goto (tgt := 2266) hC dL_law_683 (by decide) ?_
    exact awL_widen (by omega) (by omega) (awL_drop (kk _ _ _ hn I2))
theorem law_seen {G : GD} {X : CX} {b L : Nat} {xs : Nat → Int32} {i κ : Int} {n : Nat} {h : Hp} {cs ss : Nat} (hX : LX G X b L xs) (hi : 0 ≤ i ∧ i + 6 ≤ L) (hn : NK n κ) (I : Inv κ h) (hc : cs + 6 ≤ 601024) (hs : ss + 2600 ≤ 7293034) (kk : KK G X b i cs ss) : AW G X 686 [(6, (b : Int)), (2, ((0 : Nat) : Int)), (2, ((35 : Nat) : Int)), (2, ((68 : Nat) : Int)), (0, i), (9, 0), (9, 0), (9, 0)] [] n h cs ss := by
  obtain ⟨hC, hRm, hbt, hst, -⟩ := id hX
  refine aw_aload_n hC dL_law_686 rfl ?_
  refine awL_arg (k := 1) hX hi rfl rfl dL_law_687 dL_law_688 dL_law_690 dL_law_691 dL_law_692 ⟨by decide, by decide⟩ ?_
  refine aw_aload_n hC dL_law_693 rfl ?_
  obtain ⟨q, hq, PQ⟩ := s_seen (x := xv xs i 1) I
  rcases q with ⟨r1, h1⟩ | ⟨e, h1⟩
  · refine awL_callS (sk := []) (av := [(2, ((0 : Nat) : Int)), (0, xv xs i 1), (2, ((68 : Nat) : Int))]) hst hbt hC hRm dL_law_694 cwRL_141 cdm_L_seen (by decide) (by decide) (by omega) (by omega) (by decide) (ok_L_seen_n hq) (fun v n' h' _ hQ => ?_)
    obtain ⟨rfl, rfl, rfl⟩ := hQ
    obtain ⟨⟨y, h2⟩, hy, Y1, Y2, I2⟩ := PQ
    dsimp only at Y1 Y2 I2
    refine aw_istore5 hC dL_law_697 rfl ?_
    refine aw_aload_n hC dL_law_699 rfl ?_
    refine awL_arg (k := 1) hX hi rfl rfl dL_law_700 dL_law_701 dL_law_703 dL_law_704 dL_law_705 ⟨by decide, by decide⟩ ?_
    refine awL_callV (x := ((35 : Nat) : Int)) (sk := []) (av := [(0, xv xs i 1)]) (a := 35) (ci := 6) (d' := 4) (mc' := 0) (ms' := 0) hC hRm dL_law_706 rfl (by decide) rfl cwRL_143 cdm_X6_seen rfl rfl (Or.inl ⟨hbt, by decide⟩) (by decide) (by decide) (by omega) (by omega) (Nat.le_of_ble_eq_true rfl) (by rw [hbt]; exact ok_X6_seen hy) (fun v n' h' _ hQ => ?_)
    obtain ⟨rfl, rfl, rfl⟩ := hQ
    refine aw_lstore6 hC dL_law_709 rfl ?_
    refine aw_aload_n hC dL_law_711 rfl ?_
    refine awL_callV (x := ((35 : Nat) : Int)) (sk := []) (av := []) (a := 35) (ci := 6) (d' := 0) (mc' := 0) (ms' := 0) hC hRm dL_law_712 rfl (by decide) rfl cwRL_117 cdm_X6_thrown rfl rfl (Or.inl ⟨hbt, by decide⟩) (by decide) (by decide) (by omega) (by omega) (Nat.le_of_ble_eq_true rfl) (by rw [hbt]; exact ok_X6_thrown (res := 0) (thr Y1)) (fun v n' h' _ hQ => ?_)
    obtain ⟨rfl, rfl, rfl⟩ := hQ
    refine aw_iload hC dL_law_715 rfl ?_
    refine aw_icmp_eq (tgt := 722) hC dL_law_717 (by decide) (fun _ => ?_) (fun c => absurd rfl c)
    refine aw_iload hC dL_law_722 rfl ?_
    refine aw_if_ne (tgt := 738) hC dL_law_724 (by decide) (fun c => absurd rfl c) (fun _ => ?_)
    refine aw_aload_n hC dL_law_727 rfl ?_
    refine aw_iconst hC dL_law_728 (by decide) ?_
    refine aw_laload (a := 68) (len := 1) hC dL_law_729 rfl rfl (Or.inl ⟨hbt, by decide⟩) (by decide) (by decide) ?_
    refine aw_lload hC dL_law_730 rfl ?_
    refine aw_lcmp hC dL_law_732 ?_
    refine aw_if_eq (tgt := 738) hC dL_law_733 (by decide) (fun _ => ?_) (fun c => absurd (lc0 Y2) c)
    refine aw_goto (tgt := 2266) hC dL_law_738 (by decide) ?_
    exact awL_widen (by omega) (by omega) (awL_drop (kk _ _ _ hn I2))
  · obtain rfl := ox_seen _ _ hq
    refine awL_callS (sk := []) (av := [(2, ((0 : Nat) : Int)), (0, xv xs i 1), (2, ((68 : Nat) : Int))]) hst hbt hC hRm dL_law_694 cwRL_141 cdm_L_seen (by decide) (by decide) (by omega) (by omega) (by decide) (ok_L_seen_x0 hq) (fun v n' h' _ hQ => ?_)
    obtain ⟨rfl, rfl, rfl⟩ := hQ
    obtain ⟨⟨y, h2⟩, hy, Y1, I2⟩ := PQ
    dsimp only at Y1 I2
    refine aw_istore5 hC dL_law_697 rfl ?_
    refine aw_aload_n hC dL_law_699 rfl ?_
    refine awL_arg (k := 1) hX hi rfl rfl dL_law_700 dL_law_701 dL_law_703 dL_law_704 dL_law_705 ⟨by decide, by decide⟩ ?_
    refine awL_callV (x := ((35 : Nat) : Int)) (sk := []) (av := [(0, xv xs i 1)]) (a := 35) (ci := 6) (d' := 4) (mc' := 0) (ms' := 0) hC hRm dL_law_706 rfl (by decide) rfl cwRL_143 cdm_X6_seen rfl rfl (Or.inl ⟨hbt, by decide⟩) (by decide) (by decide) (by omega) (by omega) (Nat.le_of_ble_eq_true rfl) (by rw [hbt]; exact ok_X6_seen hy) (fun v n' h' _ hQ => ?_)
    obtain ⟨rfl, rfl, rfl⟩ := hQ
    refine aw_lstore6 hC dL_law_709 rfl ?_
    refine aw_aload_n hC dL_law_711 rfl ?_
    refine awL_callV (x := ((35 : Nat) : Int)) (sk := []) (av := []) (a := 35) (ci := 6) (d' := 0) (mc' := 0) (ms' := 0) hC hRm dL_law_712 rfl (by decide) rfl cwRL_117 cdm_X6_thrown rfl rfl (Or.inl ⟨hbt, by decide⟩) (by decide) (by decide) (by omega) (by omega) (Nat.le_of_ble_eq_true rfl) (by rw [hbt]; exact ok_X6_thrown (res := 1) (thr Y1)) (fun v n' h' _ hQ => ?_)
    obtain ⟨rfl, rfl, rfl⟩ := hQ
    refine aw_iload hC dL_law_715 rfl ?_
    refine aw_icmp_eq (tgt := 722) hC dL_law_717 (by decide) (fun _ => ?_) (fun c => absurd rfl c)
    refine aw_iload hC dL_law_722 rfl ?_
    refine aw_if_ne (tgt := 738) hC dL_law_724 (by decide) (fun _ => ?_) (fun c => absurd (show (1 : Int) = 0 from c) (by decide))
    refine aw_goto (tgt := 2266) hC dL_law_738 (by decide) ?_
    exact awL_widen (by omega) (by omega) (awL_drop (kk _ _ _ hn I2))
theorem law_years {G : GD} {X : CX} {b L : Nat} {xs : Nat → Int32} {i κ : Int} {n : Nat} {h : Hp} {cs ss : Nat} (hX : LX G X b L xs) (hi : 0 ≤ i ∧ i + 6 ≤ L) (hn : NK n κ) (I : Inv κ h) (hc : cs + 6 ≤ 601024) (hs : ss + 2600 ≤ 7293034) (kk : KK G X b i cs ss) : AW G X 741 [(6, (b : Int)), (2, ((0 : Nat) : Int)), (2, ((35 : Nat) : Int)), (2, ((68 : Nat) : Int)), (0, i), (9, 0), (9, 0), (9, 0)] [] n h cs ss := by
  obtain ⟨hC, hRm, hbt, hst, -⟩ := id hX
  refine aw_aload_n hC dL_law_741 rfl ?_
  refine awL_arg (k := 1) hX hi rfl rfl dL_law_742 dL_law_743 dL_law_745 dL_law_746 dL_law_747 ⟨by decide, by decide⟩ ?_
  obtain ⟨q, hq, PQ⟩ := s_years (x := xv xs i 1) I
  refine awL_callV (x := ((0 : Nat) : Int)) (sk := []) (av := [(0, xv xs i 1)]) (a := 0) (ci := 5) (d' := 5) (mc' := 0) (ms' := 0) hC hRm dL_law_748 rfl (by decide) rfl cwRL_144 cdm_X5_years rfl rfl (Or.inl ⟨hbt, by decide⟩) (by decide) (by decide) (by omega) (by omega) (Nat.le_of_ble_eq_true rfl) (by rw [hbt]; exact ok_X5_years hq) (fun v n' h' _ hQ => ?_)
  obtain ⟨rfl, rfl, rfl⟩ := hQ
  obtain ⟨⟨y, h2⟩, hy, Y1, I2⟩ := PQ
  dsimp only at Y1 I2 hy
  refine aw_aload_n hC dL_law_751 rfl ?_
  refine awL_arg (k := 1) hX hi rfl rfl dL_law_752 dL_law_753 dL_law_755 dL_law_756 dL_law_757 ⟨by decide, by decide⟩ ?_
  refine awL_callV (x := ((35 : Nat) : Int)) (sk := [(0, q.1)]) (av := [(0, xv xs i 1)]) (a := 35) (ci := 6) (d' := 7) (mc' := 0) (ms' := 0) hC hRm dL_law_758 rfl (by decide) rfl cwRL_147 cdm_X6_years rfl rfl (Or.inl ⟨hbt, by decide⟩) (by decide) (by decide) (by omega) (by omega) (Nat.le_of_ble_eq_true rfl) (by rw [hbt]; exact ok_X6_years hy) (fun v n' h' _ hQ => ?_)
  obtain ⟨rfl, rfl, rfl⟩ := hQ
  refine aw_icmp_eq (tgt := 2266) hC dL_law_761 (by decide) (fun _ => ?_) (fun c => absurd Y1.symm c)
  exact awL_widen (by omega) (by omega) (awL_drop (kk _ _ _ hn I2))
theorem law_plant {G : GD} {X : CX} {b L : Nat} {xs : Nat → Int32} {i κ : Int} {n : Nat} {h : Hp} {cs ss : Nat} (hX : LX G X b L xs) (hi : 0 ≤ i ∧ i + 6 ≤ L) (hn : NK n κ) (I : Inv κ h) (hc : cs + 6 ≤ 601024) (hs : ss + 2600 ≤ 7293034) (kk : KK G X b i cs ss) : AW G X 766 [(6, (b : Int)), (2, ((0 : Nat) : Int)), (2, ((35 : Nat) : Int)), (2, ((68 : Nat) : Int)), (0, i), (9, 0), (9, 0), (9, 0)] [] n h cs ss := by
  obtain ⟨hC, hRm, hbt, hst, -⟩ := id hX
  refine aw_aload_n hC dL_law_766 rfl ?_
  refine awL_arg (k := 1) hX hi rfl rfl dL_law_767 dL_law_768 dL_law_770 dL_law_771 dL_law_772 ⟨by decide, by decide⟩ ?_
  refine awL_arg (k := 2) hX hi rfl rfl dL_law_773 dL_law_774 dL_law_776 dL_law_777 dL_law_778 ⟨by decide, by decide⟩ ?_
  refine aw_aload_n hC dL_law_779 rfl ?_
  obtain ⟨q, hq, PQ⟩ := s_plant (x := xv xs i 1) (y := xv xs i 2) I
  rcases q with ⟨r1, h1⟩ | ⟨e, h1⟩
  · refine awL_callS (sk := []) (av := [(2, ((0 : Nat) : Int)), (0, xv xs i 1), (0, xv xs i 2), (2, ((68 : Nat) : Int))]) hst hbt hC hRm dL_law_780 cwRL_148 cdm_L_plant (by decide) (by decide) (by omega) (by omega) (by decide) (ok_L_plant_n hq) (fun v n' h' _ hQ => ?_)
    obtain ⟨rfl, rfl, rfl⟩ := hQ
    obtain ⟨⟨y, h2⟩, hy, Y1, Y2, I2⟩ := PQ
    dsimp only at Y1 Y2 I2
    refine aw_istore5 hC dL_law_783 rfl ?_
    refine aw_aload_n hC dL_law_785 rfl ?_
    refine awL_arg (k := 1) hX hi rfl rfl dL_law_786 dL_law_787 dL_law_789 dL_law_790 dL_law_791 ⟨by decide, by decide⟩ ?_
    refine awL_arg (k := 2) hX hi rfl rfl dL_law_792 dL_law_793 dL_law_795 dL_law_796 dL_law_797 ⟨by decide, by decide⟩ ?_
    refine awL_callV (x := ((35 : Nat) : Int)) (sk := []) (av := [(0, xv xs i 1), (0, xv xs i 2)]) (a := 35) (ci := 6) (d' := 2) (mc' := 0) (ms' := 0) hC hRm dL_law_798 rfl (by decide) rfl cwRL_150 cdm_X6_plant rfl rfl (Or.inl ⟨hbt, by decide⟩) (by decide) (by decide) (by omega) (by omega) (Nat.le_of_ble_eq_true rfl) (by rw [hbt]; exact ok_X6_plant hy) (fun v n' h' _ hQ => ?_)
    obtain ⟨rfl, rfl, rfl⟩ := hQ
    refine aw_istore6 hC dL_law_801 rfl ?_
    refine aw_aload_n hC dL_law_803 rfl ?_
    refine awL_callV (x := ((35 : Nat) : Int)) (sk := []) (av := []) (a := 35) (ci := 6) (d' := 0) (mc' := 0) (ms' := 0) hC hRm dL_law_804 rfl (by decide) rfl cwRL_117 cdm_X6_thrown rfl rfl (Or.inl ⟨hbt, by decide⟩) (by decide) (by decide) (by omega) (by omega) (Nat.le_of_ble_eq_true rfl) (by rw [hbt]; exact ok_X6_thrown (res := 0) (thr Y1)) (fun v n' h' _ hQ => ?_)
    obtain ⟨rfl, rfl, rfl⟩ := hQ
    refine aw_iload hC dL_law_807 rfl ?_
    refine aw_icmp_eq (tgt := 814) hC dL_law_809 (by decide) (fun _ => ?_) (fun c => absurd rfl c)
    refine aw_iload hC dL_law_814 rfl ?_
    refine aw_if_ne (tgt := 831) hC dL_law_816 (by decide) (fun c => absurd rfl c) (fun _ => ?_)
    refine aw_aload_n hC dL_law_819 rfl ?_
    refine aw_iconst hC dL_law_820 (by decide) ?_
    refine aw_laload (a := 68) (len := 1) hC dL_law_821 rfl rfl (Or.inl ⟨hbt, by decide⟩) (by decide) (by decide) ?_
    refine aw_iload hC dL_law_822 rfl ?_
    refine aw_i2l hC dL_law_824 ?_
    refine aw_lcmp hC dL_law_825 ?_
    refine aw_if_eq (tgt := 831) hC dL_law_826 (by decide) (fun _ => ?_) (fun c => absurd (lc0 Y2) c)
    refine aw_goto (tgt := 2266) hC dL_law_831 (by decide) ?_
    exact awL_widen (by omega) (by omega) (awL_drop (kk _ _ _ hn I2))
  · obtain rfl := ox_plant _ _ hq
    refine awL_callS (sk := []) (av := [(2, ((0 : Nat) : Int)), (0, xv xs i 1), (0, xv xs i 2), (2, ((68 : Nat) : Int))]) hst hbt hC hRm dL_law_780 cwRL_148 cdm_L_plant (by decide) (by decide) (by omega) (by omega) (by decide) (ok_L_plant_x0 hq) (fun v n' h' _ hQ => ?_)
    obtain ⟨rfl, rfl, rfl⟩ := hQ
    obtain ⟨⟨y, h2⟩, hy, Y1, I2⟩ := PQ
    dsimp only at Y1 I2
    refine aw_istore5 hC dL_law_783 rfl ?_
    refine aw_aload_n hC dL_law_785 rfl ?_
    refine awL_arg (k := 1) hX hi rfl rfl dL_law_786 dL_law_787 dL_law_789 dL_law_790 dL_law_791 ⟨by decide, by decide⟩ ?_
    refine awL_arg (k := 2) hX hi rfl rfl dL_law_792 dL_law_793 dL_law_795 dL_law_796 dL_law_797 ⟨by decide, by decide⟩ ?_
    refine awL_callV (x := ((35 : Nat) : Int)) (sk := []) (av := [(0, xv xs i 1), (0, xv xs i 2)]) (a := 35) (ci := 6) (d' := 2) (mc' := 0) (ms' := 0) hC hRm dL_law_798 rfl (by decide) rfl cwRL_150 cdm_X6_plant rfl rfl (Or.inl ⟨hbt, by decide⟩) (by decide) (by decide) (by omega) (by omega) (Nat.le_of_ble_eq_true rfl) (by rw [hbt]; exact ok_X6_plant hy) (fun v n' h' _ hQ => ?_)
    obtain ⟨rfl, rfl, rfl⟩ := hQ
    refine aw_istore6 hC dL_law_801 rfl ?_
    refine aw_aload_n hC dL_law_803 rfl ?_
    refine awL_callV (x := ((35 : Nat) : Int)) (sk := []) (av := []) (a := 35) (ci := 6) (d' := 0) (mc' := 0) (ms' := 0) hC hRm dL_law_804 rfl (by decide) rfl cwRL_117 cdm_X6_thrown rfl rfl (Or.inl ⟨hbt, by decide⟩) (by decide) (by decide) (by omega) (by omega) (Nat.le_of_ble_eq_true rfl) (by rw [hbt]; exact ok_X6_thrown (res := 1) (thr Y1)) (fun v n' h' _ hQ => ?_)
    obtain ⟨rfl, rfl, rfl⟩ := hQ
    refine aw_iload hC dL_law_807 rfl ?_
    refine aw_icmp_eq (tgt := 814) hC dL_law_809 (by decide) (fun _ => ?_) (fun c => absurd rfl c)
    refine aw_iload hC dL_law_814 rfl ?_
    refine aw_if_ne (tgt := 831) hC dL_law_816 (by decide) (fun _ => ?_) (fun c => absurd (show (1 : Int) = 0 from c) (by decide))
    refine aw_goto (tgt := 2266) hC dL_law_831 (by decide) ?_
    exact awL_widen (by omega) (by omega) (awL_drop (kk _ _ _ hn I2))
theorem law_fell {G : GD} {X : CX} {b L : Nat} {xs : Nat → Int32} {i κ : Int} {n : Nat} {h : Hp} {cs ss : Nat} (hX : LX G X b L xs) (hi : 0 ≤ i ∧ i + 6 ≤ L) (hn : NK n κ) (I : Inv κ h) (hc : cs + 6 ≤ 601024) (hs : ss + 2600 ≤ 7293034) (kk : KK G X b i cs ss) : AW G X 834 [(6, (b : Int)), (2, ((0 : Nat) : Int)), (2, ((35 : Nat) : Int)), (2, ((68 : Nat) : Int)), (0, i), (9, 0), (9, 0), (9, 0)] [] n h cs ss := by
  obtain ⟨hC, hRm, hbt, hst, -⟩ := id hX
  refine aw_aload_n hC dL_law_834 rfl ?_
  refine awL_arg (k := 1) hX hi rfl rfl dL_law_835 dL_law_836 dL_law_838 dL_law_839 dL_law_840 ⟨by decide, by decide⟩ ?_
  refine aw_aload_n hC dL_law_841 rfl ?_
  obtain ⟨q, hq, PQ⟩ := s_fell (x := xv xs i 1) I
  rcases q with ⟨r1, h1⟩ | ⟨e, h1⟩
  · refine awL_callS (sk := []) (av := [(2, ((0 : Nat) : Int)), (0, xv xs i 1), (2, ((68 : Nat) : Int))]) hst hbt hC hRm dL_law_842 cwRL_151 cdm_L_fell (by decide) (by decide) (by omega) (by omega) (by decide) (ok_L_fell_n hq) (fun v n' h' _ hQ => ?_)
    obtain ⟨rfl, rfl, rfl⟩ := hQ
    obtain ⟨⟨y, h2⟩, hy, Y1, Y2, I2⟩ := PQ
    dsimp only at Y1 Y2 I2
    refine aw_istore5 hC dL_law_845 rfl ?_
    refine aw_aload_n hC dL_law_847 rfl ?_
    refine awL_arg (k := 1) hX hi rfl rfl dL_law_848 dL_law_849 dL_law_851 dL_law_852 dL_law_853 ⟨by decide, by decide⟩ ?_
    refine awL_callV (x := ((35 : Nat) : Int)) (sk := []) (av := [(0, xv xs i 1)]) (a := 35) (ci := 6) (d' := 2) (mc' := 0) (ms' := 0) hC hRm dL_law_854 rfl (by decide) rfl cwRL_153 cdm_X6_fell rfl rfl (Or.inl ⟨hbt, by decide⟩) (by decide) (by decide) (by omega) (by omega) (Nat.le_of_ble_eq_true rfl) (by rw [hbt]; exact ok_X6_fell hy) (fun v n' h' _ hQ => ?_)
    obtain ⟨rfl, rfl, rfl⟩ := hQ
    refine aw_istore6 hC dL_law_857 rfl ?_
    refine aw_aload_n hC dL_law_859 rfl ?_
    refine awL_callV (x := ((35 : Nat) : Int)) (sk := []) (av := []) (a := 35) (ci := 6) (d' := 0) (mc' := 0) (ms' := 0) hC hRm dL_law_860 rfl (by decide) rfl cwRL_117 cdm_X6_thrown rfl rfl (Or.inl ⟨hbt, by decide⟩) (by decide) (by decide) (by omega) (by omega) (Nat.le_of_ble_eq_true rfl) (by rw [hbt]; exact ok_X6_thrown (res := 0) (thr Y1)) (fun v n' h' _ hQ => ?_)
    obtain ⟨rfl, rfl, rfl⟩ := hQ
    refine aw_iload hC dL_law_863 rfl ?_
    refine aw_icmp_eq (tgt := 870) hC dL_law_865 (by decide) (fun _ => ?_) (fun c => absurd rfl c)
    refine aw_iload hC dL_law_870 rfl ?_
    refine aw_if_ne (tgt := 887) hC dL_law_872 (by decide) (fun c => absurd rfl c) (fun _ => ?_)
    refine aw_aload_n hC dL_law_875 rfl ?_
    refine aw_iconst hC dL_law_876 (by decide) ?_
    refine aw_laload (a := 68) (len := 1) hC dL_law_877 rfl rfl (Or.inl ⟨hbt, by decide⟩) (by decide) (by decide) ?_
    refine aw_iload hC dL_law_878 rfl ?_
    refine aw_i2l hC dL_law_880 ?_
    refine aw_lcmp hC dL_law_881 ?_
    refine aw_if_eq (tgt := 887) hC dL_law_882 (by decide) (fun _ => ?_) (fun c => absurd (lc0 Y2) c)
    refine aw_goto (tgt := 2266) hC dL_law_887 (by decide) ?_
    exact awL_widen (by omega) (by omega) (awL_drop (kk _ _ _ hn I2))
  · obtain rfl := ox_fell _ _ hq
    refine awL_callS (sk := []) (av := [(2, ((0 : Nat) : Int)), (0, xv xs i 1), (2, ((68 : Nat) : Int))]) hst hbt hC hRm dL_law_842 cwRL_151 cdm_L_fell (by decide) (by decide) (by omega) (by omega) (by decide) (ok_L_fell_x0 hq) (fun v n' h' _ hQ => ?_)
    obtain ⟨rfl, rfl, rfl⟩ := hQ
    obtain ⟨⟨y, h2⟩, hy, Y1, I2⟩ := PQ
    dsimp only at Y1 I2
    refine aw_istore5 hC dL_law_845 rfl ?_
    refine aw_aload_n hC dL_law_847 rfl ?_
    refine awL_arg (k := 1) hX hi rfl rfl dL_law_848 dL_law_849 dL_law_851 dL_law_852 dL_law_853 ⟨by decide, by decide⟩ ?_
    refine awL_callV (x := ((35 : Nat) : Int)) (sk := []) (av := [(0, xv xs i 1)]) (a := 35) (ci := 6) (d' := 2) (mc' := 0) (ms' := 0) hC hRm dL_law_854 rfl (by decide) rfl cwRL_153 cdm_X6_fell rfl rfl (Or.inl ⟨hbt, by decide⟩) (by decide) (by decide) (by omega) (by omega) (Nat.le_of_ble_eq_true rfl) (by rw [hbt]; exact ok_X6_fell hy) (fun v n' h' _ hQ => ?_)
    obtain ⟨rfl, rfl, rfl⟩ := hQ
    refine aw_istore6 hC dL_law_857 rfl ?_
    refine aw_aload_n hC dL_law_859 rfl ?_
    refine awL_callV (x := ((35 : Nat) : Int)) (sk := []) (av := []) (a := 35) (ci := 6) (d' := 0) (mc' := 0) (ms' := 0) hC hRm dL_law_860 rfl (by decide) rfl cwRL_117 cdm_X6_thrown rfl rfl (Or.inl ⟨hbt, by decide⟩) (by decide) (by decide) (by omega) (by omega) (Nat.le_of_ble_eq_true rfl) (by rw [hbt]; exact ok_X6_thrown (res := 1) (thr Y1)) (fun v n' h' _ hQ => ?_)
    obtain ⟨rfl, rfl, rfl⟩ := hQ
    refine aw_iload hC dL_law_863 rfl ?_
    refine aw_icmp_eq (tgt := 870) hC dL_law_865 (by decide) (fun _ => ?_) (fun c => absurd rfl c)
    refine aw_iload hC dL_law_870 rfl ?_
    refine aw_if_ne (tgt := 887) hC dL_law_872 (by decide) (fun _ => ?_) (fun c => absurd (show (1 : Int) = 0 from c) (by decide))
    refine aw_goto (tgt := 2266) hC dL_law_887 (by decide) ?_
    exact awL_widen (by omega) (by omega) (awL_drop (kk _ _ _ hn I2))
theorem law_floor {G : GD} {X : CX} {b L : Nat} {xs : Nat → Int32} {i κ : Int} {n : Nat} {h : Hp} {cs ss : Nat} (hX : LX G X b L xs) (hi : 0 ≤ i ∧ i + 6 ≤ L) (hn : NK n κ) (I : Inv κ h) (hc : cs + 6 ≤ 601024) (hs : ss + 2600 ≤ 7293034) (kk : KK G X b i cs ss) : AW G X 890 [(6, (b : Int)), (2, ((0 : Nat) : Int)), (2, ((35 : Nat) : Int)), (2, ((68 : Nat) : Int)), (0, i), (9, 0), (9, 0), (9, 0)] [] n h cs ss := by
  obtain ⟨hC, hRm, hbt, hst, -⟩ := id hX
  refine aw_aload_n hC dL_law_890 rfl ?_
  refine awL_arg (k := 1) hX hi rfl rfl dL_law_891 dL_law_892 dL_law_894 dL_law_895 dL_law_896 ⟨by decide, by decide⟩ ?_
  refine awL_arg (k := 2) hX hi rfl rfl dL_law_897 dL_law_898 dL_law_900 dL_law_901 dL_law_902 ⟨by decide, by decide⟩ ?_
  refine aw_aload_n hC dL_law_903 rfl ?_
  obtain ⟨q, hq, PQ⟩ := s_floor (x := xv xs i 1) (y := xv xs i 2) I
  rcases q with ⟨r1, h1⟩ | ⟨e, h1⟩
  · refine awL_callS (sk := []) (av := [(2, ((0 : Nat) : Int)), (0, xv xs i 1), (0, xv xs i 2), (2, ((68 : Nat) : Int))]) hst hbt hC hRm dL_law_904 cwRL_154 cdm_L_floor (by decide) (by decide) (by omega) (by omega) (by decide) (ok_L_floor_n hq) (fun v n' h' _ hQ => ?_)
    obtain ⟨rfl, rfl, rfl⟩ := hQ
    obtain ⟨⟨y, h2⟩, hy, Y1, Y2, I2⟩ := PQ
    dsimp only at Y1 Y2 I2
    refine aw_istore5 hC dL_law_907 rfl ?_
    refine aw_aload_n hC dL_law_909 rfl ?_
    refine awL_arg (k := 1) hX hi rfl rfl dL_law_910 dL_law_911 dL_law_913 dL_law_914 dL_law_915 ⟨by decide, by decide⟩ ?_
    refine awL_arg (k := 2) hX hi rfl rfl dL_law_916 dL_law_917 dL_law_919 dL_law_920 dL_law_921 ⟨by decide, by decide⟩ ?_
    refine awL_callV (x := ((35 : Nat) : Int)) (sk := []) (av := [(0, xv xs i 1), (0, xv xs i 2)]) (a := 35) (ci := 6) (d' := 2) (mc' := 0) (ms' := 0) hC hRm dL_law_922 rfl (by decide) rfl cwRL_156 cdm_X6_floor rfl rfl (Or.inl ⟨hbt, by decide⟩) (by decide) (by decide) (by omega) (by omega) (Nat.le_of_ble_eq_true rfl) (by rw [hbt]; exact ok_X6_floor hy) (fun v n' h' _ hQ => ?_)
    obtain ⟨rfl, rfl, rfl⟩ := hQ
    refine aw_istore6 hC dL_law_925 rfl ?_
    refine aw_aload_n hC dL_law_927 rfl ?_
    refine awL_callV (x := ((35 : Nat) : Int)) (sk := []) (av := []) (a := 35) (ci := 6) (d' := 0) (mc' := 0) (ms' := 0) hC hRm dL_law_928 rfl (by decide) rfl cwRL_117 cdm_X6_thrown rfl rfl (Or.inl ⟨hbt, by decide⟩) (by decide) (by decide) (by omega) (by omega) (Nat.le_of_ble_eq_true rfl) (by rw [hbt]; exact ok_X6_thrown (res := 0) (thr Y1)) (fun v n' h' _ hQ => ?_)
    obtain ⟨rfl, rfl, rfl⟩ := hQ
    refine aw_iload hC dL_law_931 rfl ?_
    refine aw_icmp_eq (tgt := 938) hC dL_law_933 (by decide) (fun _ => ?_) (fun c => absurd rfl c)
    refine aw_iload hC dL_law_938 rfl ?_
    refine aw_if_ne (tgt := 955) hC dL_law_940 (by decide) (fun c => absurd rfl c) (fun _ => ?_)
    refine aw_aload_n hC dL_law_943 rfl ?_
    refine aw_iconst hC dL_law_944 (by decide) ?_
    refine aw_laload (a := 68) (len := 1) hC dL_law_945 rfl rfl (Or.inl ⟨hbt, by decide⟩) (by decide) (by decide) ?_
    refine aw_iload hC dL_law_946 rfl ?_
    refine aw_i2l hC dL_law_948 ?_
    refine aw_lcmp hC dL_law_949 ?_
    refine aw_if_eq (tgt := 955) hC dL_law_950 (by decide) (fun _ => ?_) (fun c => absurd (lc0 Y2) c)
    refine aw_goto (tgt := 2266) hC dL_law_955 (by decide) ?_
    exact awL_widen (by omega) (by omega) (awL_drop (kk _ _ _ hn I2))
  · obtain rfl := ox_floor _ _ hq
    refine awL_callS (sk := []) (av := [(2, ((0 : Nat) : Int)), (0, xv xs i 1), (0, xv xs i 2), (2, ((68 : Nat) : Int))]) hst hbt hC hRm dL_law_904 cwRL_154 cdm_L_floor (by decide) (by decide) (by omega) (by omega) (by decide) (ok_L_floor_x0 hq) (fun v n' h' _ hQ => ?_)
    obtain ⟨rfl, rfl, rfl⟩ := hQ
    obtain ⟨⟨y, h2⟩, hy, Y1, I2⟩ := PQ
    dsimp only at Y1 I2
    refine aw_istore5 hC dL_law_907 rfl ?_
    refine aw_aload_n hC dL_law_909 rfl ?_
    refine awL_arg (k := 1) hX hi rfl rfl dL_law_910 dL_law_911 dL_law_913 dL_law_914 dL_law_915 ⟨by decide, by decide⟩ ?_
    refine awL_arg (k := 2) hX hi rfl rfl dL_law_916 dL_law_917 dL_law_919 dL_law_920 dL_law_921 ⟨by decide, by decide⟩ ?_
    refine awL_callV (x := ((35 : Nat) : Int)) (sk := []) (av := [(0, xv xs i 1), (0, xv xs i 2)]) (a := 35) (ci := 6) (d' := 2) (mc' := 0) (ms' := 0) hC hRm dL_law_922 rfl (by decide) rfl cwRL_156 cdm_X6_floor rfl rfl (Or.inl ⟨hbt, by decide⟩) (by decide) (by decide) (by omega) (by omega) (Nat.le_of_ble_eq_true rfl) (by rw [hbt]; exact ok_X6_floor hy) (fun v n' h' _ hQ => ?_)
    obtain ⟨rfl, rfl, rfl⟩ := hQ
    refine aw_istore6 hC dL_law_925 rfl ?_
    refine aw_aload_n hC dL_law_927 rfl ?_
    refine awL_callV (x := ((35 : Nat) : Int)) (sk := []) (av := []) (a := 35) (ci := 6) (d' := 0) (mc' := 0) (ms' := 0) hC hRm dL_law_928 rfl (by decide) rfl cwRL_117 cdm_X6_thrown rfl rfl (Or.inl ⟨hbt, by decide⟩) (by decide) (by decide) (by omega) (by omega) (Nat.le_of_ble_eq_true rfl) (by rw [hbt]; exact ok_X6_thrown (res := 1) (thr Y1)) (fun v n' h' _ hQ => ?_)
    obtain ⟨rfl, rfl, rfl⟩ := hQ
    refine aw_iload hC dL_law_931 rfl ?_
    refine aw_icmp_eq (tgt := 938) hC dL_law_933 (by decide) (fun _ => ?_) (fun c => absurd rfl c)
    refine aw_iload hC dL_law_938 rfl ?_
    refine aw_if_ne (tgt := 955) hC dL_law_940 (by decide) (fun _ => ?_) (fun c => absurd (show (1 : Int) = 0 from c) (by decide))
    refine aw_goto (tgt := 2266) hC dL_law_955 (by decide) ?_
    exact awL_widen (by omega) (by omega) (awL_drop (kk _ _ _ hn I2))
theorem law_barn {G : GD} {X : CX} {b L : Nat} {xs : Nat → Int32} {i κ : Int} {n : Nat} {h : Hp} {cs ss : Nat} (hX : LX G X b L xs) (hi : 0 ≤ i ∧ i + 6 ≤ L) (hn : NK n κ) (I : Inv κ h) (hc : cs + 6 ≤ 601024) (hs : ss + 2600 ≤ 7293034) (kk : KK G X b i cs ss) : AW G X 958 [(6, (b : Int)), (2, ((0 : Nat) : Int)), (2, ((35 : Nat) : Int)), (2, ((68 : Nat) : Int)), (0, i), (9, 0), (9, 0), (9, 0)] [] n h cs ss := by
  obtain ⟨hC, hRm, hbt, hst, -⟩ := id hX
  refine aw_aload_n hC dL_law_958 rfl ?_
  refine awL_arg (k := 1) hX hi rfl rfl dL_law_959 dL_law_960 dL_law_962 dL_law_963 dL_law_964 ⟨by decide, by decide⟩ ?_
  refine awL_arg (k := 2) hX hi rfl rfl dL_law_965 dL_law_966 dL_law_968 dL_law_969 dL_law_970 ⟨by decide, by decide⟩ ?_
  refine aw_aload_n hC dL_law_971 rfl ?_
  obtain ⟨q, hq, PQ⟩ := s_barn (x := xv xs i 1) (y := xv xs i 2) I
  rcases q with ⟨r1, h1⟩ | ⟨e, h1⟩
  · refine awL_callS (sk := []) (av := [(2, ((0 : Nat) : Int)), (0, xv xs i 1), (0, xv xs i 2), (2, ((68 : Nat) : Int))]) hst hbt hC hRm dL_law_972 cwRL_157 cdm_L_barn (by decide) (by decide) (by omega) (by omega) (by decide) (ok_L_barn_n hq) (fun v n' h' _ hQ => ?_)
    obtain ⟨rfl, rfl, rfl⟩ := hQ
    obtain ⟨⟨y, h2⟩, hy, Y1, Y2, I2⟩ := PQ
    dsimp only at Y1 Y2 I2
    refine aw_istore5 hC dL_law_975 rfl ?_
    refine aw_aload_n hC dL_law_977 rfl ?_
    refine awL_arg (k := 1) hX hi rfl rfl dL_law_978 dL_law_979 dL_law_981 dL_law_982 dL_law_983 ⟨by decide, by decide⟩ ?_
    refine awL_arg (k := 2) hX hi rfl rfl dL_law_984 dL_law_985 dL_law_987 dL_law_988 dL_law_989 ⟨by decide, by decide⟩ ?_
    refine awL_callV (x := ((35 : Nat) : Int)) (sk := []) (av := [(0, xv xs i 1), (0, xv xs i 2)]) (a := 35) (ci := 6) (d' := 2) (mc' := 0) (ms' := 0) hC hRm dL_law_990 rfl (by decide) rfl cwRL_159 cdm_X6_barn rfl rfl (Or.inl ⟨hbt, by decide⟩) (by decide) (by decide) (by omega) (by omega) (Nat.le_of_ble_eq_true rfl) (by rw [hbt]; exact ok_X6_barn hy) (fun v n' h' _ hQ => ?_)
    obtain ⟨rfl, rfl, rfl⟩ := hQ
    refine aw_istore6 hC dL_law_993 rfl ?_
    refine aw_aload_n hC dL_law_995 rfl ?_
    refine awL_callV (x := ((35 : Nat) : Int)) (sk := []) (av := []) (a := 35) (ci := 6) (d' := 0) (mc' := 0) (ms' := 0) hC hRm dL_law_996 rfl (by decide) rfl cwRL_117 cdm_X6_thrown rfl rfl (Or.inl ⟨hbt, by decide⟩) (by decide) (by decide) (by omega) (by omega) (Nat.le_of_ble_eq_true rfl) (by rw [hbt]; exact ok_X6_thrown (res := 0) (thr Y1)) (fun v n' h' _ hQ => ?_)
    obtain ⟨rfl, rfl, rfl⟩ := hQ
    refine aw_iload hC dL_law_999 rfl ?_
    refine aw_icmp_eq (tgt := 1006) hC dL_law_1001 (by decide) (fun _ => ?_) (fun c => absurd rfl c)
    refine aw_iload hC dL_law_1006 rfl ?_
    refine aw_if_ne (tgt := 1023) hC dL_law_1008 (by decide) (fun c => absurd rfl c) (fun _ => ?_)
    refine aw_aload_n hC dL_law_1011 rfl ?_
    refine aw_iconst hC dL_law_1012 (by decide) ?_
    refine aw_laload (a := 68) (len := 1) hC dL_law_1013 rfl rfl (Or.inl ⟨hbt, by decide⟩) (by decide) (by decide) ?_
    refine aw_iload hC dL_law_1014 rfl ?_
    refine aw_i2l hC dL_law_1016 ?_
    refine aw_lcmp hC dL_law_1017 ?_
    refine aw_if_eq (tgt := 1023) hC dL_law_1018 (by decide) (fun _ => ?_) (fun c => absurd (lc0 Y2) c)
    refine aw_goto (tgt := 2266) hC dL_law_1023 (by decide) ?_
    exact awL_widen (by omega) (by omega) (awL_drop (kk _ _ _ hn I2))
  · obtain rfl := ox_barn _ _ hq
    refine awL_callS (sk := []) (av := [(2, ((0 : Nat) : Int)), (0, xv xs i 1), (0, xv xs i 2), (2, ((68 : Nat) : Int))]) hst hbt hC hRm dL_law_972 cwRL_157 cdm_L_barn (by decide) (by decide) (by omega) (by omega) (by decide) (ok_L_barn_x0 hq) (fun v n' h' _ hQ => ?_)
    obtain ⟨rfl, rfl, rfl⟩ := hQ
    obtain ⟨⟨y, h2⟩, hy, Y1, I2⟩ := PQ
    dsimp only at Y1 I2
    refine aw_istore5 hC dL_law_975 rfl ?_
    refine aw_aload_n hC dL_law_977 rfl ?_
    refine awL_arg (k := 1) hX hi rfl rfl dL_law_978 dL_law_979 dL_law_981 dL_law_982 dL_law_983 ⟨by decide, by decide⟩ ?_
    refine awL_arg (k := 2) hX hi rfl rfl dL_law_984 dL_law_985 dL_law_987 dL_law_988 dL_law_989 ⟨by decide, by decide⟩ ?_
    refine awL_callV (x := ((35 : Nat) : Int)) (sk := []) (av := [(0, xv xs i 1), (0, xv xs i 2)]) (a := 35) (ci := 6) (d' := 2) (mc' := 0) (ms' := 0) hC hRm dL_law_990 rfl (by decide) rfl cwRL_159 cdm_X6_barn rfl rfl (Or.inl ⟨hbt, by decide⟩) (by decide) (by decide) (by omega) (by omega) (Nat.le_of_ble_eq_true rfl) (by rw [hbt]; exact ok_X6_barn hy) (fun v n' h' _ hQ => ?_)
    obtain ⟨rfl, rfl, rfl⟩ := hQ
    refine aw_istore6 hC dL_law_993 rfl ?_
    refine aw_aload_n hC dL_law_995 rfl ?_
    refine awL_callV (x := ((35 : Nat) : Int)) (sk := []) (av := []) (a := 35) (ci := 6) (d' := 0) (mc' := 0) (ms' := 0) hC hRm dL_law_996 rfl (by decide) rfl cwRL_117 cdm_X6_thrown rfl rfl (Or.inl ⟨hbt, by decide⟩) (by decide) (by decide) (by omega) (by omega) (Nat.le_of_ble_eq_true rfl) (by rw [hbt]; exact ok_X6_thrown (res := 1) (thr Y1)) (fun v n' h' _ hQ => ?_)
    obtain ⟨rfl, rfl, rfl⟩ := hQ
    refine aw_iload hC dL_law_999 rfl ?_
    refine aw_icmp_eq (tgt := 1006) hC dL_law_1001 (by decide) (fun _ => ?_) (fun c => absurd rfl c)
    refine aw_iload hC dL_law_1006 rfl ?_
    refine aw_if_ne (tgt := 1023) hC dL_law_1008 (by decide) (fun _ => ?_) (fun c => absurd (show (1 : Int) = 0 from c) (by decide))
    refine aw_goto (tgt := 2266) hC dL_law_1023 (by decide) ?_
    exact awL_widen (by omega) (by omega) (awL_drop (kk _ _ _ hn I2))
theorem law_sell {G : GD} {X : CX} {b L : Nat} {xs : Nat → Int32} {i κ : Int} {n : Nat} {h : Hp} {cs ss : Nat} (hX : LX G X b L xs) (hi : 0 ≤ i ∧ i + 6 ≤ L) (hn : NK n κ) (I : Inv κ h) (hc : cs + 6 ≤ 601024) (hs : ss + 2600 ≤ 7293034) (kk : KK G X b i cs ss) : AW G X 1026 [(6, (b : Int)), (2, ((0 : Nat) : Int)), (2, ((35 : Nat) : Int)), (2, ((68 : Nat) : Int)), (0, i), (9, 0), (9, 0), (9, 0)] [] n h cs ss := by
  obtain ⟨hC, hRm, hbt, hst, -⟩ := id hX
  refine aw_aload_n hC dL_law_1026 rfl ?_
  refine awL_arg (k := 1) hX hi rfl rfl dL_law_1027 dL_law_1028 dL_law_1030 dL_law_1031 dL_law_1032 ⟨by decide, by decide⟩ ?_
  refine awL_arg (k := 2) hX hi rfl rfl dL_law_1033 dL_law_1034 dL_law_1036 dL_law_1037 dL_law_1038 ⟨by decide, by decide⟩ ?_
  refine aw_aload_n hC dL_law_1039 rfl ?_
  obtain ⟨q, hq, PQ⟩ := s_sell (x := xv xs i 1) (y := xv xs i 2) I
  rcases q with ⟨r1, h1⟩ | ⟨e, h1⟩
  · refine awL_callS (sk := []) (av := [(2, ((0 : Nat) : Int)), (0, xv xs i 1), (0, xv xs i 2), (2, ((68 : Nat) : Int))]) hst hbt hC hRm dL_law_1040 cwRL_160 cdm_L_sell (by decide) (by decide) (by omega) (by omega) (by decide) (ok_L_sell_n hq) (fun v n' h' _ hQ => ?_)
    obtain ⟨rfl, rfl, rfl⟩ := hQ
    rw [sell01 hq]
    obtain ⟨⟨y, h2⟩, hy, Y1, Y2, I2⟩ := PQ
    dsimp only at Y1 Y2 I2
    refine aw_istore5 hC dL_law_1043 rfl ?_
    refine aw_aload_n hC dL_law_1045 rfl ?_
    refine awL_arg (k := 1) hX hi rfl rfl dL_law_1046 dL_law_1047 dL_law_1049 dL_law_1050 dL_law_1051 ⟨by decide, by decide⟩ ?_
    refine awL_arg (k := 2) hX hi rfl rfl dL_law_1052 dL_law_1053 dL_law_1055 dL_law_1056 dL_law_1057 ⟨by decide, by decide⟩ ?_
    refine awL_callV (x := ((35 : Nat) : Int)) (sk := []) (av := [(0, xv xs i 1), (0, xv xs i 2)]) (a := 35) (ci := 6) (d' := 2) (mc' := 0) (ms' := 0) hC hRm dL_law_1058 rfl (by decide) rfl cwRL_162 cdm_X6_sell rfl rfl (Or.inl ⟨hbt, by decide⟩) (by decide) (by decide) (by omega) (by omega) (Nat.le_of_ble_eq_true rfl) (by rw [hbt]; exact ok_X6_sell hy) (fun v n' h' _ hQ => ?_)
    obtain ⟨rfl, rfl, rfl⟩ := hQ
    refine aw_istore6 hC dL_law_1061 rfl ?_
    refine aw_aload_n hC dL_law_1063 rfl ?_
    refine awL_callV (x := ((35 : Nat) : Int)) (sk := []) (av := []) (a := 35) (ci := 6) (d' := 0) (mc' := 0) (ms' := 0) hC hRm dL_law_1064 rfl (by decide) rfl cwRL_117 cdm_X6_thrown rfl rfl (Or.inl ⟨hbt, by decide⟩) (by decide) (by decide) (by omega) (by omega) (Nat.le_of_ble_eq_true rfl) (by rw [hbt]; exact ok_X6_thrown (res := 0) (thr Y1)) (fun v n' h' _ hQ => ?_)
    obtain ⟨rfl, rfl, rfl⟩ := hQ
    refine aw_iload hC dL_law_1067 rfl ?_
    refine aw_icmp_eq (tgt := 1074) hC dL_law_1069 (by decide) (fun _ => ?_) (fun c => absurd rfl c)
    refine aw_iload hC dL_law_1074 rfl ?_
    refine aw_if_ne (tgt := 1098) hC dL_law_1076 (by decide) (fun c => absurd rfl c) (fun _ => ?_)
    refine aw_aload_n hC dL_law_1079 rfl ?_
    refine aw_iconst hC dL_law_1080 (by decide) ?_
    refine aw_laload (a := 68) (len := 1) hC dL_law_1081 rfl rfl (Or.inl ⟨hbt, by decide⟩) (by decide) (by decide) ?_
    refine aw_iload hC dL_law_1082 rfl ?_
    refine aw_if_eq (tgt := 1091) hC dL_law_1084 (by decide) (fun c => ?_) (fun c => ?_)
    · refine aw_lconst (v := 0) hC dL_law_1091 (by decide) (by decide) ?_
      rw [show y = 0 from c] at Y2
      refine aw_lcmp hC dL_law_1092 ?_
      refine aw_if_eq (tgt := 1098) hC dL_law_1093 (by decide) (fun _ => ?_) (fun c => absurd (lc0 Y2) c)
      refine aw_goto (tgt := 2266) hC dL_law_1098 (by decide) ?_
      exact awL_widen (by omega) (by omega) (awL_drop (kk _ _ _ hn I2))
    · refine aw_lconst (v := 1) hC dL_law_1087 (by decide) (by decide) ?_
      rw [msell1 hy c] at Y2
      refine aw_goto (tgt := 1092) hC dL_law_1088 (by decide) ?_
      refine aw_lcmp hC dL_law_1092 ?_
      refine aw_if_eq (tgt := 1098) hC dL_law_1093 (by decide) (fun _ => ?_) (fun c => absurd (lc0 Y2) c)
      refine aw_goto (tgt := 2266) hC dL_law_1098 (by decide) ?_
      exact awL_widen (by omega) (by omega) (awL_drop (kk _ _ _ hn I2))
  · obtain rfl := ox_sell _ _ hq
    refine awL_callS (sk := []) (av := [(2, ((0 : Nat) : Int)), (0, xv xs i 1), (0, xv xs i 2), (2, ((68 : Nat) : Int))]) hst hbt hC hRm dL_law_1040 cwRL_160 cdm_L_sell (by decide) (by decide) (by omega) (by omega) (by decide) (ok_L_sell_x0 hq) (fun v n' h' _ hQ => ?_)
    obtain ⟨rfl, rfl, rfl⟩ := hQ
    obtain ⟨⟨y, h2⟩, hy, Y1, I2⟩ := PQ
    dsimp only at Y1 I2
    refine aw_istore5 hC dL_law_1043 rfl ?_
    refine aw_aload_n hC dL_law_1045 rfl ?_
    refine awL_arg (k := 1) hX hi rfl rfl dL_law_1046 dL_law_1047 dL_law_1049 dL_law_1050 dL_law_1051 ⟨by decide, by decide⟩ ?_
    refine awL_arg (k := 2) hX hi rfl rfl dL_law_1052 dL_law_1053 dL_law_1055 dL_law_1056 dL_law_1057 ⟨by decide, by decide⟩ ?_
    refine awL_callV (x := ((35 : Nat) : Int)) (sk := []) (av := [(0, xv xs i 1), (0, xv xs i 2)]) (a := 35) (ci := 6) (d' := 2) (mc' := 0) (ms' := 0) hC hRm dL_law_1058 rfl (by decide) rfl cwRL_162 cdm_X6_sell rfl rfl (Or.inl ⟨hbt, by decide⟩) (by decide) (by decide) (by omega) (by omega) (Nat.le_of_ble_eq_true rfl) (by rw [hbt]; exact ok_X6_sell hy) (fun v n' h' _ hQ => ?_)
    obtain ⟨rfl, rfl, rfl⟩ := hQ
    refine aw_istore6 hC dL_law_1061 rfl ?_
    refine aw_aload_n hC dL_law_1063 rfl ?_
    refine awL_callV (x := ((35 : Nat) : Int)) (sk := []) (av := []) (a := 35) (ci := 6) (d' := 0) (mc' := 0) (ms' := 0) hC hRm dL_law_1064 rfl (by decide) rfl cwRL_117 cdm_X6_thrown rfl rfl (Or.inl ⟨hbt, by decide⟩) (by decide) (by decide) (by omega) (by omega) (Nat.le_of_ble_eq_true rfl) (by rw [hbt]; exact ok_X6_thrown (res := 1) (thr Y1)) (fun v n' h' _ hQ => ?_)
    obtain ⟨rfl, rfl, rfl⟩ := hQ
    refine aw_iload hC dL_law_1067 rfl ?_
    refine aw_icmp_eq (tgt := 1074) hC dL_law_1069 (by decide) (fun _ => ?_) (fun c => absurd rfl c)
    refine aw_iload hC dL_law_1074 rfl ?_
    refine aw_if_ne (tgt := 1098) hC dL_law_1076 (by decide) (fun _ => ?_) (fun c => absurd (show (1 : Int) = 0 from c) (by decide))
    refine aw_goto (tgt := 2266) hC dL_law_1098 (by decide) ?_
    exact awL_widen (by omega) (by omega) (awL_drop (kk _ _ _ hn I2))
theorem law_obey {G : GD} {X : CX} {b L : Nat} {xs : Nat → Int32} {i κ : Int} {n : Nat} {h : Hp} {cs ss : Nat} (hX : LX G X b L xs) (hi : 0 ≤ i ∧ i + 6 ≤ L) (hn : NK n κ) (I : Inv κ h) (hc : cs + 6 ≤ 601024) (hs : ss + 2600 ≤ 7293034) (kk : KK G X b i cs ss) : AW G X 1101 [(6, (b : Int)), (2, ((0 : Nat) : Int)), (2, ((35 : Nat) : Int)), (2, ((68 : Nat) : Int)), (0, i), (9, 0), (9, 0), (9, 0)] [] n h cs ss := by
  obtain ⟨hC, hRm, hbt, hst, -⟩ := id hX
  refine aw_aload_n hC dL_law_1101 rfl ?_
  refine awL_arg (k := 1) hX hi rfl rfl dL_law_1102 dL_law_1103 dL_law_1105 dL_law_1106 dL_law_1107 ⟨by decide, by decide⟩ ?_
  obtain ⟨q, hq, PQ⟩ := s_obey (x := xv xs i 1) I
  refine awL_callV (x := ((0 : Nat) : Int)) (sk := []) (av := [(0, xv xs i 1)]) (a := 0) (ci := 5) (d' := 3) (mc' := 0) (ms' := 0) hC hRm dL_law_1108 rfl (by decide) rfl cwRL_163 cdm_X5_obey rfl rfl (Or.inl ⟨hbt, by decide⟩) (by decide) (by decide) (by omega) (by omega) (Nat.le_of_ble_eq_true rfl) (by rw [hbt]; exact ok_X5_obey hq) (fun v n' h' _ hQ => ?_)
  obtain ⟨rfl, rfl, rfl⟩ := hQ
  obtain ⟨⟨y, h2⟩, hy, Y1, I2⟩ := PQ
  dsimp only at Y1 I2 hy
  refine aw_aload_n hC dL_law_1111 rfl ?_
  refine awL_arg (k := 1) hX hi rfl rfl dL_law_1112 dL_law_1113 dL_law_1115 dL_law_1116 dL_law_1117 ⟨by decide, by decide⟩ ?_
  refine awL_callV (x := ((35 : Nat) : Int)) (sk := [(0, q.1)]) (av := [(0, xv xs i 1)]) (a := 35) (ci := 6) (d' := 2) (mc' := 0) (ms' := 0) hC hRm dL_law_1118 rfl (by decide) rfl cwRL_167 cdm_X6_obey rfl rfl (Or.inl ⟨hbt, by decide⟩) (by decide) (by decide) (by omega) (by omega) (Nat.le_of_ble_eq_true rfl) (by rw [hbt]; exact ok_X6_obey hy) (fun v n' h' _ hQ => ?_)
  obtain ⟨rfl, rfl, rfl⟩ := hQ
  refine aw_icmp_eq (tgt := 2266) hC dL_law_1121 (by decide) (fun _ => ?_) (fun c => absurd Y1.symm c)
  exact awL_widen (by omega) (by omega) (awL_drop (kk _ _ _ hn I2))
theorem law_undo {G : GD} {X : CX} {b L : Nat} {xs : Nat → Int32} {i κ : Int} {n : Nat} {h : Hp} {cs ss : Nat} (hX : LX G X b L xs) (hi : 0 ≤ i ∧ i + 6 ≤ L) (hn : NK n κ) (I : Inv κ h) (hc : cs + 6 ≤ 601024) (hs : ss + 2600 ≤ 7293034) (kk : KK G X b i cs ss) : AW G X 1126 [(6, (b : Int)), (2, ((0 : Nat) : Int)), (2, ((35 : Nat) : Int)), (2, ((68 : Nat) : Int)), (0, i), (9, 0), (9, 0), (9, 0)] [] n h cs ss := by
  obtain ⟨hC, hRm, hbt, hst, -⟩ := id hX
  refine aw_aload_n hC dL_law_1126 rfl ?_
  obtain ⟨q, hq, PQ⟩ := s_undo  I
  refine awL_callV (x := ((0 : Nat) : Int)) (sk := []) (av := []) (a := 0) (ci := 5) (d' := 2) (mc' := 0) (ms' := 0) hC hRm dL_law_1127 rfl (by decide) rfl cwRL_168 cdm_X5_undo rfl rfl (Or.inl ⟨hbt, by decide⟩) (by decide) (by decide) (by omega) (by omega) (Nat.le_of_ble_eq_true rfl) (by rw [hbt]; exact ok_X5_undo hq) (fun v n' h' _ hQ => ?_)
  obtain ⟨rfl, rfl, rfl⟩ := hQ
  obtain ⟨⟨y, h2⟩, hy, Y1, I2⟩ := PQ
  dsimp only at Y1 I2 hy
  refine aw_aload_n hC dL_law_1130 rfl ?_
  refine awL_callV (x := ((35 : Nat) : Int)) (sk := [(0, q.1)]) (av := []) (a := 35) (ci := 6) (d' := 0) (mc' := 0) (ms' := 0) hC hRm dL_law_1131 rfl (by decide) rfl cwRL_171 cdm_X6_undo rfl rfl (Or.inl ⟨hbt, by decide⟩) (by decide) (by decide) (by omega) (by omega) (Nat.le_of_ble_eq_true rfl) (by rw [hbt]; exact ok_X6_undo hy) (fun v n' h' _ hQ => ?_)
  obtain ⟨rfl, rfl, rfl⟩ := hQ
  refine aw_icmp_eq (tgt := 2266) hC dL_law_1134 (by decide) (fun _ => ?_) (fun c => absurd Y1.symm c)
  exact awL_widen (by omega) (by omega) (awL_drop (kk _ _ _ hn I2))
theorem law_firs {G : GD} {X : CX} {b L : Nat} {xs : Nat → Int32} {i κ : Int} {n : Nat} {h : Hp} {cs ss : Nat} (hX : LX G X b L xs) (hi : 0 ≤ i ∧ i + 6 ≤ L) (hn : NK n κ) (I : Inv κ h) (hc : cs + 6 ≤ 601024) (hs : ss + 2600 ≤ 7293034) (kk : KK G X b i cs ss) : AW G X 1139 [(6, (b : Int)), (2, ((0 : Nat) : Int)), (2, ((35 : Nat) : Int)), (2, ((68 : Nat) : Int)), (0, i), (9, 0), (9, 0), (9, 0)] [] n h cs ss := by
  obtain ⟨hC, hRm, hbt, hst, -⟩ := id hX
  refine aw_aload_n hC dL_law_1139 rfl ?_
  refine awL_arg (k := 1) hX hi rfl rfl dL_law_1140 dL_law_1141 dL_law_1143 dL_law_1144 dL_law_1145 ⟨by decide, by decide⟩ ?_
  refine awL_arg (k := 2) hX hi rfl rfl dL_law_1146 dL_law_1147 dL_law_1149 dL_law_1150 dL_law_1151 ⟨by decide, by decide⟩ ?_
  refine aw_aload_n hC dL_law_1152 rfl ?_
  obtain ⟨q, hq, PQ⟩ := s_firs (x := xv xs i 1) (y := xv xs i 2) I (xv_in _ _ _)
  rcases q with ⟨r1, h1⟩ | ⟨e, h1⟩
  · refine awL_callS (sk := []) (av := [(2, ((0 : Nat) : Int)), (0, xv xs i 1), (0, xv xs i 2), (2, ((68 : Nat) : Int))]) hst hbt hC hRm dL_law_1153 cwRL_172 cdm_L_firs (by decide) (by decide) (by omega) (by omega) (by decide) (ok_L_firs_n hq) (fun v n' h' _ hQ => ?_)
    obtain ⟨rfl, rfl, rfl⟩ := hQ
    obtain ⟨⟨y, h2⟩, hy, Y1, Y2, I2⟩ := PQ
    dsimp only at Y1 Y2 I2
    refine aw_istore5 hC dL_law_1156 rfl ?_
    refine aw_aload_n hC dL_law_1158 rfl ?_
    refine awL_arg (k := 1) hX hi rfl rfl dL_law_1159 dL_law_1160 dL_law_1162 dL_law_1163 dL_law_1164 ⟨by decide, by decide⟩ ?_
    refine awL_arg (k := 2) hX hi rfl rfl dL_law_1165 dL_law_1166 dL_law_1168 dL_law_1169 dL_law_1170 ⟨by decide, by decide⟩ ?_
    refine awL_callV (x := ((35 : Nat) : Int)) (sk := []) (av := [(0, xv xs i 1), (0, xv xs i 2)]) (a := 35) (ci := 6) (d' := 8) (mc' := 0) (ms' := 0) hC hRm dL_law_1171 rfl (by decide) rfl cwRL_174 cdm_X6_firs rfl rfl (Or.inl ⟨hbt, by decide⟩) (by decide) (by decide) (by omega) (by omega) (Nat.le_of_ble_eq_true rfl) (by rw [hbt]; exact ok_X6_firs hy) (fun v n' h' _ hQ => ?_)
    obtain ⟨rfl, rfl, rfl⟩ := hQ
    refine aw_istore6 hC dL_law_1174 rfl ?_
    refine aw_aload_n hC dL_law_1176 rfl ?_
    refine awL_callV (x := ((35 : Nat) : Int)) (sk := []) (av := []) (a := 35) (ci := 6) (d' := 0) (mc' := 0) (ms' := 0) hC hRm dL_law_1177 rfl (by decide) rfl cwRL_117 cdm_X6_thrown rfl rfl (Or.inl ⟨hbt, by decide⟩) (by decide) (by decide) (by omega) (by omega) (Nat.le_of_ble_eq_true rfl) (by rw [hbt]; exact ok_X6_thrown (res := 0) (thr Y1)) (fun v n' h' _ hQ => ?_)
    obtain ⟨rfl, rfl, rfl⟩ := hQ
    refine aw_iload hC dL_law_1180 rfl ?_
    refine aw_icmp_eq (tgt := 1187) hC dL_law_1182 (by decide) (fun _ => ?_) (fun c => absurd rfl c)
    refine aw_iload hC dL_law_1187 rfl ?_
    refine aw_if_ne (tgt := 1204) hC dL_law_1189 (by decide) (fun c => absurd rfl c) (fun _ => ?_)
    refine aw_aload_n hC dL_law_1192 rfl ?_
    refine aw_iconst hC dL_law_1193 (by decide) ?_
    refine aw_laload (a := 68) (len := 1) hC dL_law_1194 rfl rfl (Or.inl ⟨hbt, by decide⟩) (by decide) (by decide) ?_
    refine aw_iload hC dL_law_1195 rfl ?_
    refine aw_i2l hC dL_law_1197 ?_
    refine aw_lcmp hC dL_law_1198 ?_
    refine aw_if_eq (tgt := 1204) hC dL_law_1199 (by decide) (fun _ => ?_) (fun c => absurd (lc0 Y2) c)
    refine aw_goto (tgt := 2266) hC dL_law_1204 (by decide) ?_
    exact awL_widen (by omega) (by omega) (awL_drop (kk _ _ _ hn I2))
  · obtain rfl := ox_firs _ _ hq
    refine awL_callS (sk := []) (av := [(2, ((0 : Nat) : Int)), (0, xv xs i 1), (0, xv xs i 2), (2, ((68 : Nat) : Int))]) hst hbt hC hRm dL_law_1153 cwRL_172 cdm_L_firs (by decide) (by decide) (by omega) (by omega) (by decide) (ok_L_firs_x1 hq) (fun v n' h' _ hQ => ?_)
    obtain ⟨rfl, rfl, rfl⟩ := hQ
    obtain ⟨⟨y, h2⟩, hy, Y1, I2⟩ := PQ
    dsimp only at Y1 I2
    refine aw_istore5 hC dL_law_1156 rfl ?_
    refine aw_aload_n hC dL_law_1158 rfl ?_
    refine awL_arg (k := 1) hX hi rfl rfl dL_law_1159 dL_law_1160 dL_law_1162 dL_law_1163 dL_law_1164 ⟨by decide, by decide⟩ ?_
    refine awL_arg (k := 2) hX hi rfl rfl dL_law_1165 dL_law_1166 dL_law_1168 dL_law_1169 dL_law_1170 ⟨by decide, by decide⟩ ?_
    refine awL_callV (x := ((35 : Nat) : Int)) (sk := []) (av := [(0, xv xs i 1), (0, xv xs i 2)]) (a := 35) (ci := 6) (d' := 8) (mc' := 0) (ms' := 0) hC hRm dL_law_1171 rfl (by decide) rfl cwRL_174 cdm_X6_firs rfl rfl (Or.inl ⟨hbt, by decide⟩) (by decide) (by decide) (by omega) (by omega) (Nat.le_of_ble_eq_true rfl) (by rw [hbt]; exact ok_X6_firs hy) (fun v n' h' _ hQ => ?_)
    obtain ⟨rfl, rfl, rfl⟩ := hQ
    refine aw_istore6 hC dL_law_1174 rfl ?_
    refine aw_aload_n hC dL_law_1176 rfl ?_
    refine awL_callV (x := ((35 : Nat) : Int)) (sk := []) (av := []) (a := 35) (ci := 6) (d' := 0) (mc' := 0) (ms' := 0) hC hRm dL_law_1177 rfl (by decide) rfl cwRL_117 cdm_X6_thrown rfl rfl (Or.inl ⟨hbt, by decide⟩) (by decide) (by decide) (by omega) (by omega) (Nat.le_of_ble_eq_true rfl) (by rw [hbt]; exact ok_X6_thrown (res := 1) (thr Y1)) (fun v n' h' _ hQ => ?_)
    obtain ⟨rfl, rfl, rfl⟩ := hQ
    refine aw_iload hC dL_law_1180 rfl ?_
    refine aw_icmp_eq (tgt := 1187) hC dL_law_1182 (by decide) (fun _ => ?_) (fun c => absurd rfl c)
    refine aw_iload hC dL_law_1187 rfl ?_
    refine aw_if_ne (tgt := 1204) hC dL_law_1189 (by decide) (fun _ => ?_) (fun c => absurd (show (1 : Int) = 0 from c) (by decide))
    refine aw_goto (tgt := 2266) hC dL_law_1204 (by decide) ?_
    exact awL_widen (by omega) (by omega) (awL_drop (kk _ _ _ hn I2))
theorem law_fir {G : GD} {X : CX} {b L : Nat} {xs : Nat → Int32} {i κ : Int} {n : Nat} {h : Hp} {cs ss : Nat} (hX : LX G X b L xs) (hi : 0 ≤ i ∧ i + 6 ≤ L) (hn : NK n κ) (I : Inv κ h) (hc : cs + 6 ≤ 601024) (hs : ss + 2600 ≤ 7293034) (kk : KK G X b i cs ss) : AW G X 1207 [(6, (b : Int)), (2, ((0 : Nat) : Int)), (2, ((35 : Nat) : Int)), (2, ((68 : Nat) : Int)), (0, i), (9, 0), (9, 0), (9, 0)] [] n h cs ss := by
  obtain ⟨hC, hRm, hbt, hst, -⟩ := id hX
  refine aw_aload_n hC dL_law_1207 rfl ?_
  refine awL_arg (k := 1) hX hi rfl rfl dL_law_1208 dL_law_1209 dL_law_1211 dL_law_1212 dL_law_1213 ⟨by decide, by decide⟩ ?_
  refine aw_aload_n hC dL_law_1214 rfl ?_
  obtain ⟨q, hq, PQ⟩ := s_fir (x := xv xs i 1) I
  rcases q with ⟨r1, h1⟩ | ⟨e, h1⟩
  · refine awL_callS (sk := []) (av := [(2, ((0 : Nat) : Int)), (0, xv xs i 1), (2, ((68 : Nat) : Int))]) hst hbt hC hRm dL_law_1215 cwRL_175 cdm_L_fir (by decide) (by decide) (by omega) (by omega) (by decide) (ok_L_fir_n hq) (fun v n' h' _ hQ => ?_)
    obtain ⟨rfl, rfl, rfl⟩ := hQ
    obtain ⟨⟨y, h2⟩, hy, Y1, Y2, I2⟩ := PQ
    dsimp only at Y1 Y2 I2
    refine aw_istore5 hC dL_law_1218 rfl ?_
    refine aw_aload_n hC dL_law_1220 rfl ?_
    refine awL_arg (k := 1) hX hi rfl rfl dL_law_1221 dL_law_1222 dL_law_1224 dL_law_1225 dL_law_1226 ⟨by decide, by decide⟩ ?_
    refine awL_callV (x := ((35 : Nat) : Int)) (sk := []) (av := [(0, xv xs i 1)]) (a := 35) (ci := 6) (d' := 1) (mc' := 0) (ms' := 0) hC hRm dL_law_1227 rfl (by decide) rfl cwRL_177 cdm_X6_fir rfl rfl (Or.inl ⟨hbt, by decide⟩) (by decide) (by decide) (by omega) (by omega) (Nat.le_of_ble_eq_true rfl) (by rw [hbt]; exact ok_X6_fir hy) (fun v n' h' _ hQ => ?_)
    obtain ⟨rfl, rfl, rfl⟩ := hQ
    refine aw_istore6 hC dL_law_1230 rfl ?_
    refine aw_aload_n hC dL_law_1232 rfl ?_
    refine awL_callV (x := ((35 : Nat) : Int)) (sk := []) (av := []) (a := 35) (ci := 6) (d' := 0) (mc' := 0) (ms' := 0) hC hRm dL_law_1233 rfl (by decide) rfl cwRL_117 cdm_X6_thrown rfl rfl (Or.inl ⟨hbt, by decide⟩) (by decide) (by decide) (by omega) (by omega) (Nat.le_of_ble_eq_true rfl) (by rw [hbt]; exact ok_X6_thrown (res := 0) (thr Y1)) (fun v n' h' _ hQ => ?_)
    obtain ⟨rfl, rfl, rfl⟩ := hQ
    refine aw_iload hC dL_law_1236 rfl ?_
    refine aw_icmp_eq (tgt := 1243) hC dL_law_1238 (by decide) (fun _ => ?_) (fun c => absurd rfl c)
    refine aw_iload hC dL_law_1243 rfl ?_
    refine aw_if_ne (tgt := 1260) hC dL_law_1245 (by decide) (fun c => absurd rfl c) (fun _ => ?_)
    refine aw_aload_n hC dL_law_1248 rfl ?_
    refine aw_iconst hC dL_law_1249 (by decide) ?_
    refine aw_laload (a := 68) (len := 1) hC dL_law_1250 rfl rfl (Or.inl ⟨hbt, by decide⟩) (by decide) (by decide) ?_
    refine aw_iload hC dL_law_1251 rfl ?_
    refine aw_i2l hC dL_law_1253 ?_
    refine aw_lcmp hC dL_law_1254 ?_
    refine aw_if_eq (tgt := 1260) hC dL_law_1255 (by decide) (fun _ => ?_) (fun c => absurd (lc0 Y2) c)
    refine aw_goto (tgt := 2266) hC dL_law_1260 (by decide) ?_
    exact awL_widen (by omega) (by omega) (awL_drop (kk _ _ _ hn I2))
  · obtain rfl := ox_fir _ _ hq
    refine awL_callS (sk := []) (av := [(2, ((0 : Nat) : Int)), (0, xv xs i 1), (2, ((68 : Nat) : Int))]) hst hbt hC hRm dL_law_1215 cwRL_175 cdm_L_fir (by decide) (by decide) (by omega) (by omega) (by decide) (ok_L_fir_x0 hq) (fun v n' h' _ hQ => ?_)
    obtain ⟨rfl, rfl, rfl⟩ := hQ
    obtain ⟨⟨y, h2⟩, hy, Y1, I2⟩ := PQ
    dsimp only at Y1 I2
    refine aw_istore5 hC dL_law_1218 rfl ?_
    refine aw_aload_n hC dL_law_1220 rfl ?_
    refine awL_arg (k := 1) hX hi rfl rfl dL_law_1221 dL_law_1222 dL_law_1224 dL_law_1225 dL_law_1226 ⟨by decide, by decide⟩ ?_
    refine awL_callV (x := ((35 : Nat) : Int)) (sk := []) (av := [(0, xv xs i 1)]) (a := 35) (ci := 6) (d' := 1) (mc' := 0) (ms' := 0) hC hRm dL_law_1227 rfl (by decide) rfl cwRL_177 cdm_X6_fir rfl rfl (Or.inl ⟨hbt, by decide⟩) (by decide) (by decide) (by omega) (by omega) (Nat.le_of_ble_eq_true rfl) (by rw [hbt]; exact ok_X6_fir hy) (fun v n' h' _ hQ => ?_)
    obtain ⟨rfl, rfl, rfl⟩ := hQ
    refine aw_istore6 hC dL_law_1230 rfl ?_
    refine aw_aload_n hC dL_law_1232 rfl ?_
    refine awL_callV (x := ((35 : Nat) : Int)) (sk := []) (av := []) (a := 35) (ci := 6) (d' := 0) (mc' := 0) (ms' := 0) hC hRm dL_law_1233 rfl (by decide) rfl cwRL_117 cdm_X6_thrown rfl rfl (Or.inl ⟨hbt, by decide⟩) (by decide) (by decide) (by omega) (by omega) (Nat.le_of_ble_eq_true rfl) (by rw [hbt]; exact ok_X6_thrown (res := 1) (thr Y1)) (fun v n' h' _ hQ => ?_)
    obtain ⟨rfl, rfl, rfl⟩ := hQ
    refine aw_iload hC dL_law_1236 rfl ?_
    refine aw_icmp_eq (tgt := 1243) hC dL_law_1238 (by decide) (fun _ => ?_) (fun c => absurd rfl c)
    refine aw_iload hC dL_law_1243 rfl ?_
    refine aw_if_ne (tgt := 1260) hC dL_law_1245 (by decide) (fun _ => ?_) (fun c => absurd (show (1 : Int) = 0 from c) (by decide))
    refine aw_goto (tgt := 2266) hC dL_law_1260 (by decide) ?_
    exact awL_widen (by omega) (by omega) (awL_drop (kk _ _ _ hn I2))
theorem law_spades {G : GD} {X : CX} {b L : Nat} {xs : Nat → Int32} {i κ : Int} {n : Nat} {h : Hp} {cs ss : Nat} (hX : LX G X b L xs) (hi : 0 ≤ i ∧ i + 6 ≤ L) (hn : NK n κ) (I : Inv κ h) (hc : cs + 6 ≤ 601024) (hs : ss + 2600 ≤ 7293034) (kk : KK G X b i cs ss) : AW G X 1263 [(6, (b : Int)), (2, ((0 : Nat) : Int)), (2, ((35 : Nat) : Int)), (2, ((68 : Nat) : Int)), (0, i), (9, 0), (9, 0), (9, 0)] [] n h cs ss := by
  obtain ⟨hC, hRm, hbt, hst, -⟩ := id hX
  refine aw_aload_n hC dL_law_1263 rfl ?_
  refine awL_arg (k := 1) hX hi rfl rfl dL_law_1264 dL_law_1265 dL_law_1267 dL_law_1268 dL_law_1269 ⟨by decide, by decide⟩ ?_
  refine awL_arg (k := 2) hX hi rfl rfl dL_law_1270 dL_law_1271 dL_law_1273 dL_law_1274 dL_law_1275 ⟨by decide, by decide⟩ ?_
  refine aw_aload_n hC dL_law_1276 rfl ?_
  obtain ⟨q, hq, PQ⟩ := s_spades (x := xv xs i 1) (y := xv xs i 2) I
  rcases q with ⟨r1, h1⟩ | ⟨e, h1⟩
  · refine awL_callS (sk := []) (av := [(2, ((0 : Nat) : Int)), (0, xv xs i 1), (0, xv xs i 2), (2, ((68 : Nat) : Int))]) hst hbt hC hRm dL_law_1277 cwRL_178 cdm_L_spades (by decide) (by decide) (by omega) (by omega) (by decide) (ok_L_spades_n hq) (fun v n' h' _ hQ => ?_)
    obtain ⟨rfl, rfl, rfl⟩ := hQ
    obtain ⟨⟨y, h2⟩, hy, Y1, Y2, I2⟩ := PQ
    dsimp only at Y1 Y2 I2
    refine aw_istore5 hC dL_law_1280 rfl ?_
    refine aw_aload_n hC dL_law_1282 rfl ?_
    refine awL_arg (k := 1) hX hi rfl rfl dL_law_1283 dL_law_1284 dL_law_1286 dL_law_1287 dL_law_1288 ⟨by decide, by decide⟩ ?_
    refine awL_arg (k := 2) hX hi rfl rfl dL_law_1289 dL_law_1290 dL_law_1292 dL_law_1293 dL_law_1294 ⟨by decide, by decide⟩ ?_
    refine awL_callV (x := ((35 : Nat) : Int)) (sk := []) (av := [(0, xv xs i 1), (0, xv xs i 2)]) (a := 35) (ci := 6) (d' := 6) (mc' := 0) (ms' := 0) hC hRm dL_law_1295 rfl (by decide) rfl cwRL_180 cdm_X6_spades rfl rfl (Or.inl ⟨hbt, by decide⟩) (by decide) (by decide) (by omega) (by omega) (Nat.le_of_ble_eq_true rfl) (by rw [hbt]; exact ok_X6_spades hy) (fun v n' h' _ hQ => ?_)
    obtain ⟨rfl, rfl, rfl⟩ := hQ
    refine aw_istore6 hC dL_law_1298 rfl ?_
    refine aw_aload_n hC dL_law_1300 rfl ?_
    refine awL_callV (x := ((35 : Nat) : Int)) (sk := []) (av := []) (a := 35) (ci := 6) (d' := 0) (mc' := 0) (ms' := 0) hC hRm dL_law_1301 rfl (by decide) rfl cwRL_117 cdm_X6_thrown rfl rfl (Or.inl ⟨hbt, by decide⟩) (by decide) (by decide) (by omega) (by omega) (Nat.le_of_ble_eq_true rfl) (by rw [hbt]; exact ok_X6_thrown (res := 0) (thr Y1)) (fun v n' h' _ hQ => ?_)
    obtain ⟨rfl, rfl, rfl⟩ := hQ
    refine aw_iload hC dL_law_1304 rfl ?_
    refine aw_icmp_eq (tgt := 1311) hC dL_law_1306 (by decide) (fun _ => ?_) (fun c => absurd rfl c)
    refine aw_iload hC dL_law_1311 rfl ?_
    refine aw_if_ne (tgt := 1328) hC dL_law_1313 (by decide) (fun c => absurd rfl c) (fun _ => ?_)
    refine aw_aload_n hC dL_law_1316 rfl ?_
    refine aw_iconst hC dL_law_1317 (by decide) ?_
    refine aw_laload (a := 68) (len := 1) hC dL_law_1318 rfl rfl (Or.inl ⟨hbt, by decide⟩) (by decide) (by decide) ?_
    refine aw_iload hC dL_law_1319 rfl ?_
    refine aw_i2l hC dL_law_1321 ?_
    refine aw_lcmp hC dL_law_1322 ?_
    refine aw_if_eq (tgt := 1328) hC dL_law_1323 (by decide) (fun _ => ?_) (fun c => absurd (lc0 Y2) c)
    refine aw_goto (tgt := 2266) hC dL_law_1328 (by decide) ?_
    exact awL_widen (by omega) (by omega) (awL_drop (kk _ _ _ hn I2))
  · rcases ox_spades _ _ hq with rfl | rfl
    · refine awL_callS (sk := []) (av := [(2, ((0 : Nat) : Int)), (0, xv xs i 1), (0, xv xs i 2), (2, ((68 : Nat) : Int))]) hst hbt hC hRm dL_law_1277 cwRL_178 cdm_L_spades (by decide) (by decide) (by omega) (by omega) (by decide) (ok_L_spades_x0 hq) (fun v n' h' _ hQ => ?_)
      obtain ⟨rfl, rfl, rfl⟩ := hQ
      obtain ⟨⟨y, h2⟩, hy, Y1, I2⟩ := PQ
      dsimp only at Y1 I2
      refine aw_istore5 hC dL_law_1280 rfl ?_
      refine aw_aload_n hC dL_law_1282 rfl ?_
      refine awL_arg (k := 1) hX hi rfl rfl dL_law_1283 dL_law_1284 dL_law_1286 dL_law_1287 dL_law_1288 ⟨by decide, by decide⟩ ?_
      refine awL_arg (k := 2) hX hi rfl rfl dL_law_1289 dL_law_1290 dL_law_1292 dL_law_1293 dL_law_1294 ⟨by decide, by decide⟩ ?_
      refine awL_callV (x := ((35 : Nat) : Int)) (sk := []) (av := [(0, xv xs i 1), (0, xv xs i 2)]) (a := 35) (ci := 6) (d' := 6) (mc' := 0) (ms' := 0) hC hRm dL_law_1295 rfl (by decide) rfl cwRL_180 cdm_X6_spades rfl rfl (Or.inl ⟨hbt, by decide⟩) (by decide) (by decide) (by omega) (by omega) (Nat.le_of_ble_eq_true rfl) (by rw [hbt]; exact ok_X6_spades hy) (fun v n' h' _ hQ => ?_)
      obtain ⟨rfl, rfl, rfl⟩ := hQ
      refine aw_istore6 hC dL_law_1298 rfl ?_
      refine aw_aload_n hC dL_law_1300 rfl ?_
      refine awL_callV (x := ((35 : Nat) : Int)) (sk := []) (av := []) (a := 35) (ci := 6) (d' := 0) (mc' := 0) (ms' := 0) hC hRm dL_law_1301 rfl (by decide) rfl cwRL_117 cdm_X6_thrown rfl rfl (Or.inl ⟨hbt, by decide⟩) (by decide) (by decide) (by omega) (by omega) (Nat.le_of_ble_eq_true rfl) (by rw [hbt]; exact ok_X6_thrown (res := 1) (thr Y1)) (fun v n' h' _ hQ => ?_)
      obtain ⟨rfl, rfl, rfl⟩ := hQ
      refine aw_iload hC dL_law_1304 rfl ?_
      refine aw_icmp_eq (tgt := 1311) hC dL_law_1306 (by decide) (fun _ => ?_) (fun c => absurd rfl c)
      refine aw_iload hC dL_law_1311 rfl ?_
      refine aw_if_ne (tgt := 1328) hC dL_law_1313 (by decide) (fun _ => ?_) (fun c => absurd (show (1 : Int) = 0 from c) (by decide))
      refine aw_goto (tgt := 2266) hC dL_law_1328 (by decide) ?_
      exact awL_widen (by omega) (by omega) (awL_drop (kk _ _ _ hn I2))
    · refine awL_callS (sk := []) (av := [(2, ((0 : Nat) : Int)), (0, xv xs i 1), (0, xv xs i 2), (2, ((68 : Nat) : Int))]) hst hbt hC hRm dL_law_1277 cwRL_178 cdm_L_spades (by decide) (by decide) (by omega) (by omega) (by decide) (ok_L_spades_x1 hq) (fun v n' h' _ hQ => ?_)
      obtain ⟨rfl, rfl, rfl⟩ := hQ
      obtain ⟨⟨y, h2⟩, hy, Y1, I2⟩ := PQ
      dsimp only at Y1 I2
      refine aw_istore5 hC dL_law_1280 rfl ?_
      refine aw_aload_n hC dL_law_1282 rfl ?_
      refine awL_arg (k := 1) hX hi rfl rfl dL_law_1283 dL_law_1284 dL_law_1286 dL_law_1287 dL_law_1288 ⟨by decide, by decide⟩ ?_
      refine awL_arg (k := 2) hX hi rfl rfl dL_law_1289 dL_law_1290 dL_law_1292 dL_law_1293 dL_law_1294 ⟨by decide, by decide⟩ ?_
      refine awL_callV (x := ((35 : Nat) : Int)) (sk := []) (av := [(0, xv xs i 1), (0, xv xs i 2)]) (a := 35) (ci := 6) (d' := 6) (mc' := 0) (ms' := 0) hC hRm dL_law_1295 rfl (by decide) rfl cwRL_180 cdm_X6_spades rfl rfl (Or.inl ⟨hbt, by decide⟩) (by decide) (by decide) (by omega) (by omega) (Nat.le_of_ble_eq_true rfl) (by rw [hbt]; exact ok_X6_spades hy) (fun v n' h' _ hQ => ?_)
      obtain ⟨rfl, rfl, rfl⟩ := hQ
      refine aw_istore6 hC dL_law_1298 rfl ?_
      refine aw_aload_n hC dL_law_1300 rfl ?_
      refine awL_callV (x := ((35 : Nat) : Int)) (sk := []) (av := []) (a := 35) (ci := 6) (d' := 0) (mc' := 0) (ms' := 0) hC hRm dL_law_1301 rfl (by decide) rfl cwRL_117 cdm_X6_thrown rfl rfl (Or.inl ⟨hbt, by decide⟩) (by decide) (by decide) (by omega) (by omega) (Nat.le_of_ble_eq_true rfl) (by rw [hbt]; exact ok_X6_thrown (res := 2) (thr Y1)) (fun v n' h' _ hQ => ?_)
      obtain ⟨rfl, rfl, rfl⟩ := hQ
      refine aw_iload hC dL_law_1304 rfl ?_
      refine aw_icmp_eq (tgt := 1311) hC dL_law_1306 (by decide) (fun _ => ?_) (fun c => absurd rfl c)
      refine aw_iload hC dL_law_1311 rfl ?_
      refine aw_if_ne (tgt := 1328) hC dL_law_1313 (by decide) (fun _ => ?_) (fun c => absurd (show (2 : Int) = 0 from c) (by decide))
      refine aw_goto (tgt := 2266) hC dL_law_1328 (by decide) ?_
      exact awL_widen (by omega) (by omega) (awL_drop (kk _ _ _ hn I2))
theorem law_felling {G : GD} {X : CX} {b L : Nat} {xs : Nat → Int32} {i κ : Int} {n : Nat} {h : Hp} {cs ss : Nat} (hX : LX G X b L xs) (hi : 0 ≤ i ∧ i + 6 ≤ L) (hn : NK n κ) (I : Inv κ h) (hc : cs + 6 ≤ 601024) (hs : ss + 2600 ≤ 7293034) (kk : KK G X b i cs ss) : AW G X 1331 [(6, (b : Int)), (2, ((0 : Nat) : Int)), (2, ((35 : Nat) : Int)), (2, ((68 : Nat) : Int)), (0, i), (9, 0), (9, 0), (9, 0)] [] n h cs ss := by
  obtain ⟨hC, hRm, hbt, hst, -⟩ := id hX
  refine aw_aload_n hC dL_law_1331 rfl ?_
  refine awL_arg (k := 1) hX hi rfl rfl dL_law_1332 dL_law_1333 dL_law_1335 dL_law_1336 dL_law_1337 ⟨by decide, by decide⟩ ?_
  refine aw_aload_n hC dL_law_1338 rfl ?_
  obtain ⟨q, hq, PQ⟩ := s_felling (x := xv xs i 1) I
  rcases q with ⟨r1, h1⟩ | ⟨e, h1⟩
  · refine awL_callS (sk := []) (av := [(2, ((0 : Nat) : Int)), (0, xv xs i 1), (2, ((68 : Nat) : Int))]) hst hbt hC hRm dL_law_1339 cwRL_181 cdm_L_felling (by decide) (by decide) (by omega) (by omega) (by decide) (ok_L_felling_n hq) (fun v n' h' _ hQ => ?_)
    obtain ⟨rfl, rfl, rfl⟩ := hQ
    obtain ⟨⟨y, h2⟩, hy, Y1, Y2, I2⟩ := PQ
    dsimp only at Y1 Y2 I2
    refine aw_istore5 hC dL_law_1342 rfl ?_
    refine aw_aload_n hC dL_law_1344 rfl ?_
    refine awL_arg (k := 1) hX hi rfl rfl dL_law_1345 dL_law_1346 dL_law_1348 dL_law_1349 dL_law_1350 ⟨by decide, by decide⟩ ?_
    refine awL_callV (x := ((35 : Nat) : Int)) (sk := []) (av := [(0, xv xs i 1)]) (a := 35) (ci := 6) (d' := 7) (mc' := 0) (ms' := 0) hC hRm dL_law_1351 rfl (by decide) rfl cwRL_183 cdm_X6_felling rfl rfl (Or.inl ⟨hbt, by decide⟩) (by decide) (by decide) (by omega) (by omega) (Nat.le_of_ble_eq_true rfl) (by rw [hbt]; exact ok_X6_felling hy) (fun v n' h' _ hQ => ?_)
    obtain ⟨rfl, rfl, rfl⟩ := hQ
    refine aw_istore6 hC dL_law_1354 rfl ?_
    refine aw_aload_n hC dL_law_1356 rfl ?_
    refine awL_callV (x := ((35 : Nat) : Int)) (sk := []) (av := []) (a := 35) (ci := 6) (d' := 0) (mc' := 0) (ms' := 0) hC hRm dL_law_1357 rfl (by decide) rfl cwRL_117 cdm_X6_thrown rfl rfl (Or.inl ⟨hbt, by decide⟩) (by decide) (by decide) (by omega) (by omega) (Nat.le_of_ble_eq_true rfl) (by rw [hbt]; exact ok_X6_thrown (res := 0) (thr Y1)) (fun v n' h' _ hQ => ?_)
    obtain ⟨rfl, rfl, rfl⟩ := hQ
    refine aw_iload hC dL_law_1360 rfl ?_
    refine aw_icmp_eq (tgt := 1367) hC dL_law_1362 (by decide) (fun _ => ?_) (fun c => absurd rfl c)
    refine aw_iload hC dL_law_1367 rfl ?_
    refine aw_if_ne (tgt := 1384) hC dL_law_1369 (by decide) (fun c => absurd rfl c) (fun _ => ?_)
    refine aw_aload_n hC dL_law_1372 rfl ?_
    refine aw_iconst hC dL_law_1373 (by decide) ?_
    refine aw_laload (a := 68) (len := 1) hC dL_law_1374 rfl rfl (Or.inl ⟨hbt, by decide⟩) (by decide) (by decide) ?_
    refine aw_iload hC dL_law_1375 rfl ?_
    refine aw_i2l hC dL_law_1377 ?_
    refine aw_lcmp hC dL_law_1378 ?_
    refine aw_if_eq (tgt := 1384) hC dL_law_1379 (by decide) (fun _ => ?_) (fun c => absurd (lc0 Y2) c)
    refine aw_goto (tgt := 2266) hC dL_law_1384 (by decide) ?_
    exact awL_widen (by omega) (by omega) (awL_drop (kk _ _ _ hn I2))
  · obtain rfl := ox_felling _ _ hq
    refine awL_callS (sk := []) (av := [(2, ((0 : Nat) : Int)), (0, xv xs i 1), (2, ((68 : Nat) : Int))]) hst hbt hC hRm dL_law_1339 cwRL_181 cdm_L_felling (by decide) (by decide) (by omega) (by omega) (by decide) (ok_L_felling_x0 hq) (fun v n' h' _ hQ => ?_)
    obtain ⟨rfl, rfl, rfl⟩ := hQ
    obtain ⟨⟨y, h2⟩, hy, Y1, I2⟩ := PQ
    dsimp only at Y1 I2
    refine aw_istore5 hC dL_law_1342 rfl ?_
    refine aw_aload_n hC dL_law_1344 rfl ?_
    refine awL_arg (k := 1) hX hi rfl rfl dL_law_1345 dL_law_1346 dL_law_1348 dL_law_1349 dL_law_1350 ⟨by decide, by decide⟩ ?_
    refine awL_callV (x := ((35 : Nat) : Int)) (sk := []) (av := [(0, xv xs i 1)]) (a := 35) (ci := 6) (d' := 7) (mc' := 0) (ms' := 0) hC hRm dL_law_1351 rfl (by decide) rfl cwRL_183 cdm_X6_felling rfl rfl (Or.inl ⟨hbt, by decide⟩) (by decide) (by decide) (by omega) (by omega) (Nat.le_of_ble_eq_true rfl) (by rw [hbt]; exact ok_X6_felling hy) (fun v n' h' _ hQ => ?_)
    obtain ⟨rfl, rfl, rfl⟩ := hQ
    refine aw_istore6 hC dL_law_1354 rfl ?_
    refine aw_aload_n hC dL_law_1356 rfl ?_
    refine awL_callV (x := ((35 : Nat) : Int)) (sk := []) (av := []) (a := 35) (ci := 6) (d' := 0) (mc' := 0) (ms' := 0) hC hRm dL_law_1357 rfl (by decide) rfl cwRL_117 cdm_X6_thrown rfl rfl (Or.inl ⟨hbt, by decide⟩) (by decide) (by decide) (by omega) (by omega) (Nat.le_of_ble_eq_true rfl) (by rw [hbt]; exact ok_X6_thrown (res := 1) (thr Y1)) (fun v n' h' _ hQ => ?_)
    obtain ⟨rfl, rfl, rfl⟩ := hQ
    refine aw_iload hC dL_law_1360 rfl ?_
    refine aw_icmp_eq (tgt := 1367) hC dL_law_1362 (by decide) (fun _ => ?_) (fun c => absurd rfl c)
    refine aw_iload hC dL_law_1367 rfl ?_
    refine aw_if_ne (tgt := 1384) hC dL_law_1369 (by decide) (fun _ => ?_) (fun c => absurd (show (1 : Int) = 0 from c) (by decide))
    refine aw_goto (tgt := 2266) hC dL_law_1384 (by decide) ?_
    exact awL_widen (by omega) (by omega) (awL_drop (kk _ _ _ hn I2))
theorem law_ruin {G : GD} {X : CX} {b L : Nat} {xs : Nat → Int32} {i κ : Int} {n : Nat} {h : Hp} {cs ss : Nat} (hX : LX G X b L xs) (hi : 0 ≤ i ∧ i + 6 ≤ L) (hn : NK n κ) (I : Inv κ h) (hc : cs + 6 ≤ 601024) (hs : ss + 2600 ≤ 7293034) (kk : KK G X b i cs ss) : AW G X 1387 [(6, (b : Int)), (2, ((0 : Nat) : Int)), (2, ((35 : Nat) : Int)), (2, ((68 : Nat) : Int)), (0, i), (9, 0), (9, 0), (9, 0)] [] n h cs ss := by
  obtain ⟨hC, hRm, hbt, hst, -⟩ := id hX
  refine aw_aload_n hC dL_law_1387 rfl ?_
  obtain ⟨q, hq, PQ⟩ := s_ruin  I
  refine awL_callV (x := ((0 : Nat) : Int)) (sk := []) (av := []) (a := 0) (ci := 5) (d' := 5) (mc' := 0) (ms' := 0) hC hRm dL_law_1388 rfl (by decide) rfl cwRL_184 cdm_X5_ruin rfl rfl (Or.inl ⟨hbt, by decide⟩) (by decide) (by decide) (by omega) (by omega) (Nat.le_of_ble_eq_true rfl) (by rw [hbt]; exact ok_X5_ruin hq) (fun v n' h' _ hQ => ?_)
  obtain ⟨rfl, rfl, rfl⟩ := hQ
  obtain ⟨⟨y, h2⟩, hy, Y1, I2⟩ := PQ
  dsimp only at Y1 I2 hy
  refine aw_aload_n hC dL_law_1391 rfl ?_
  refine awL_callV (x := ((35 : Nat) : Int)) (sk := [(0, q.1)]) (av := []) (a := 35) (ci := 6) (d' := 7) (mc' := 0) (ms' := 0) hC hRm dL_law_1392 rfl (by decide) rfl cwRL_187 cdm_X6_ruin rfl rfl (Or.inl ⟨hbt, by decide⟩) (by decide) (by decide) (by omega) (by omega) (Nat.le_of_ble_eq_true rfl) (by rw [hbt]; exact ok_X6_ruin hy) (fun v n' h' _ hQ => ?_)
  obtain ⟨rfl, rfl, rfl⟩ := hQ
  refine aw_icmp_eq (tgt := 2266) hC dL_law_1395 (by decide) (fun _ => ?_) (fun c => absurd Y1.symm c)
  exact awL_widen (by omega) (by omega) (awL_drop (kk _ _ _ hn I2))
theorem law_compare {G : GD} {X : CX} {b L : Nat} {xs : Nat → Int32} {i κ : Int} {n : Nat} {h : Hp} {cs ss : Nat} (hX : LX G X b L xs) (hi : 0 ≤ i ∧ i + 6 ≤ L) (hn : NK n κ) (I : Inv κ h) (hc : cs + 6 ≤ 601024) (hs : ss + 2600 ≤ 7293034) (kk : KK G X b i cs ss) : AW G X 1400 [(6, (b : Int)), (2, ((0 : Nat) : Int)), (2, ((35 : Nat) : Int)), (2, ((68 : Nat) : Int)), (0, i), (9, 0), (9, 0), (9, 0)] [] n h cs ss := by
  obtain ⟨hC, hRm, hbt, hst, -⟩ := id hX
  refine aw_aload_n hC dL_law_1400 rfl ?_
  refine awL_arg (k := 1) hX hi rfl rfl dL_law_1401 dL_law_1402 dL_law_1404 dL_law_1405 dL_law_1406 ⟨by decide, by decide⟩ ?_
  refine awL_arg (k := 2) hX hi rfl rfl dL_law_1407 dL_law_1408 dL_law_1410 dL_law_1411 dL_law_1412 ⟨by decide, by decide⟩ ?_
  refine aw_aload_n hC dL_law_1413 rfl ?_
  obtain ⟨q, hq, PQ⟩ := s_compare (x := xv xs i 1) (y := xv xs i 2) I
  rcases q with ⟨r1, h1⟩ | ⟨e, h1⟩
  · refine awL_callS (sk := []) (av := [(2, ((0 : Nat) : Int)), (0, xv xs i 1), (0, xv xs i 2), (2, ((68 : Nat) : Int))]) hst hbt hC hRm dL_law_1414 cwRL_188 cdm_L_compare (by decide) (by decide) (by omega) (by omega) (by decide) (ok_L_compare_n hq) (fun v n' h' _ hQ => ?_)
    obtain ⟨rfl, rfl, rfl⟩ := hQ
    obtain ⟨⟨y, h2⟩, hy, Y1, Y2, I2⟩ := PQ
    dsimp only at Y1 Y2 I2
    refine aw_istore5 hC dL_law_1417 rfl ?_
    refine aw_aload_n hC dL_law_1419 rfl ?_
    refine awL_arg (k := 1) hX hi rfl rfl dL_law_1420 dL_law_1421 dL_law_1423 dL_law_1424 dL_law_1425 ⟨by decide, by decide⟩ ?_
    refine awL_arg (k := 2) hX hi rfl rfl dL_law_1426 dL_law_1427 dL_law_1429 dL_law_1430 dL_law_1431 ⟨by decide, by decide⟩ ?_
    refine awL_callV (x := ((35 : Nat) : Int)) (sk := []) (av := [(0, xv xs i 1), (0, xv xs i 2)]) (a := 35) (ci := 6) (d' := 6) (mc' := 0) (ms' := 0) hC hRm dL_law_1432 rfl (by decide) rfl cwRL_190 cdm_X6_compare rfl rfl (Or.inl ⟨hbt, by decide⟩) (by decide) (by decide) (by omega) (by omega) (Nat.le_of_ble_eq_true rfl) (by rw [hbt]; exact ok_X6_compare hy) (fun v n' h' _ hQ => ?_)
    obtain ⟨rfl, rfl, rfl⟩ := hQ
    refine aw_istore6 hC dL_law_1435 rfl ?_
    refine aw_aload_n hC dL_law_1437 rfl ?_
    refine awL_callV (x := ((35 : Nat) : Int)) (sk := []) (av := []) (a := 35) (ci := 6) (d' := 0) (mc' := 0) (ms' := 0) hC hRm dL_law_1438 rfl (by decide) rfl cwRL_117 cdm_X6_thrown rfl rfl (Or.inl ⟨hbt, by decide⟩) (by decide) (by decide) (by omega) (by omega) (Nat.le_of_ble_eq_true rfl) (by rw [hbt]; exact ok_X6_thrown (res := 0) (thr Y1)) (fun v n' h' _ hQ => ?_)
    obtain ⟨rfl, rfl, rfl⟩ := hQ
    refine aw_iload hC dL_law_1441 rfl ?_
    refine aw_icmp_eq (tgt := 1448) hC dL_law_1443 (by decide) (fun _ => ?_) (fun c => absurd rfl c)
    refine aw_iload hC dL_law_1448 rfl ?_
    refine aw_if_ne (tgt := 1465) hC dL_law_1450 (by decide) (fun c => absurd rfl c) (fun _ => ?_)
    refine aw_aload_n hC dL_law_1453 rfl ?_
    refine aw_iconst hC dL_law_1454 (by decide) ?_
    refine aw_laload (a := 68) (len := 1) hC dL_law_1455 rfl rfl (Or.inl ⟨hbt, by decide⟩) (by decide) (by decide) ?_
    refine aw_iload hC dL_law_1456 rfl ?_
    refine aw_i2l hC dL_law_1458 ?_
    refine aw_lcmp hC dL_law_1459 ?_
    refine aw_if_eq (tgt := 1465) hC dL_law_1460 (by decide) (fun _ => ?_) (fun c => absurd (lc0 Y2) c)
    refine aw_goto (tgt := 2266) hC dL_law_1465 (by decide) ?_
    exact awL_widen (by omega) (by omega) (awL_drop (kk _ _ _ hn I2))
  · obtain rfl := ox_compare _ _ hq
    refine awL_callS (sk := []) (av := [(2, ((0 : Nat) : Int)), (0, xv xs i 1), (0, xv xs i 2), (2, ((68 : Nat) : Int))]) hst hbt hC hRm dL_law_1414 cwRL_188 cdm_L_compare (by decide) (by decide) (by omega) (by omega) (by decide) (ok_L_compare_x0 hq) (fun v n' h' _ hQ => ?_)
    obtain ⟨rfl, rfl, rfl⟩ := hQ
    obtain ⟨⟨y, h2⟩, hy, Y1, I2⟩ := PQ
    dsimp only at Y1 I2
    refine aw_istore5 hC dL_law_1417 rfl ?_
    refine aw_aload_n hC dL_law_1419 rfl ?_
    refine awL_arg (k := 1) hX hi rfl rfl dL_law_1420 dL_law_1421 dL_law_1423 dL_law_1424 dL_law_1425 ⟨by decide, by decide⟩ ?_
    refine awL_arg (k := 2) hX hi rfl rfl dL_law_1426 dL_law_1427 dL_law_1429 dL_law_1430 dL_law_1431 ⟨by decide, by decide⟩ ?_
    refine awL_callV (x := ((35 : Nat) : Int)) (sk := []) (av := [(0, xv xs i 1), (0, xv xs i 2)]) (a := 35) (ci := 6) (d' := 6) (mc' := 0) (ms' := 0) hC hRm dL_law_1432 rfl (by decide) rfl cwRL_190 cdm_X6_compare rfl rfl (Or.inl ⟨hbt, by decide⟩) (by decide) (by decide) (by omega) (by omega) (Nat.le_of_ble_eq_true rfl) (by rw [hbt]; exact ok_X6_compare hy) (fun v n' h' _ hQ => ?_)
    obtain ⟨rfl, rfl, rfl⟩ := hQ
    refine aw_istore6 hC dL_law_1435 rfl ?_
    refine aw_aload_n hC dL_law_1437 rfl ?_
    refine awL_callV (x := ((35 : Nat) : Int)) (sk := []) (av := []) (a := 35) (ci := 6) (d' := 0) (mc' := 0) (ms' := 0) hC hRm dL_law_1438 rfl (by decide) rfl cwRL_117 cdm_X6_thrown rfl rfl (Or.inl ⟨hbt, by decide⟩) (by decide) (by decide) (by omega) (by omega) (Nat.le_of_ble_eq_true rfl) (by rw [hbt]; exact ok_X6_thrown (res := 1) (thr Y1)) (fun v n' h' _ hQ => ?_)
    obtain ⟨rfl, rfl, rfl⟩ := hQ
    refine aw_iload hC dL_law_1441 rfl ?_
    refine aw_icmp_eq (tgt := 1448) hC dL_law_1443 (by decide) (fun _ => ?_) (fun c => absurd rfl c)
    refine aw_iload hC dL_law_1448 rfl ?_
    refine aw_if_ne (tgt := 1465) hC dL_law_1450 (by decide) (fun _ => ?_) (fun c => absurd (show (1 : Int) = 0 from c) (by decide))
    refine aw_goto (tgt := 2266) hC dL_law_1465 (by decide) ?_
    exact awL_widen (by omega) (by omega) (awL_drop (kk _ _ _ hn I2))
theorem law_mildest {G : GD} {X : CX} {b L : Nat} {xs : Nat → Int32} {i κ : Int} {n : Nat} {h : Hp} {cs ss : Nat} (hX : LX G X b L xs) (hi : 0 ≤ i ∧ i + 6 ≤ L) (hn : NK n κ) (I : Inv κ h) (hc : cs + 6 ≤ 601024) (hs : ss + 2600 ≤ 7293034) (kk : KK G X b i cs ss) : AW G X 1468 [(6, (b : Int)), (2, ((0 : Nat) : Int)), (2, ((35 : Nat) : Int)), (2, ((68 : Nat) : Int)), (0, i), (9, 0), (9, 0), (9, 0)] [] n h cs ss := by
  obtain ⟨hC, hRm, hbt, hst, -⟩ := id hX
  refine aw_aload_n hC dL_law_1468 rfl ?_
  refine awL_arg (k := 1) hX hi rfl rfl dL_law_1469 dL_law_1470 dL_law_1472 dL_law_1473 dL_law_1474 ⟨by decide, by decide⟩ ?_
  refine aw_aload_n hC dL_law_1475 rfl ?_
  obtain ⟨q, hq, PQ⟩ := s_mildest (x := xv xs i 1) I
  rcases q with ⟨r1, h1⟩ | ⟨e, h1⟩
  · refine awL_callS (sk := []) (av := [(2, ((0 : Nat) : Int)), (0, xv xs i 1), (2, ((68 : Nat) : Int))]) hst hbt hC hRm dL_law_1476 cwRL_191 cdm_L_mildest (by decide) (by decide) (by omega) (by omega) (by decide) (ok_L_mildest_n hq) (fun v n' h' _ hQ => ?_)
    obtain ⟨rfl, rfl, rfl⟩ := hQ
    obtain ⟨⟨y, h2⟩, hy, Y1, Y2, I2⟩ := PQ
    dsimp only at Y1 Y2 I2
    refine aw_istore5 hC dL_law_1479 rfl ?_
    refine aw_aload_n hC dL_law_1481 rfl ?_
    refine awL_arg (k := 1) hX hi rfl rfl dL_law_1482 dL_law_1483 dL_law_1485 dL_law_1486 dL_law_1487 ⟨by decide, by decide⟩ ?_
    refine awL_callV (x := ((35 : Nat) : Int)) (sk := []) (av := [(0, xv xs i 1)]) (a := 35) (ci := 6) (d' := 6) (mc' := 0) (ms' := 0) hC hRm dL_law_1488 rfl (by decide) rfl cwRL_193 cdm_X6_mildest rfl rfl (Or.inl ⟨hbt, by decide⟩) (by decide) (by decide) (by omega) (by omega) (Nat.le_of_ble_eq_true rfl) (by rw [hbt]; exact ok_X6_mildest hy) (fun v n' h' _ hQ => ?_)
    obtain ⟨rfl, rfl, rfl⟩ := hQ
    refine aw_istore6 hC dL_law_1491 rfl ?_
    refine aw_aload_n hC dL_law_1493 rfl ?_
    refine awL_callV (x := ((35 : Nat) : Int)) (sk := []) (av := []) (a := 35) (ci := 6) (d' := 0) (mc' := 0) (ms' := 0) hC hRm dL_law_1494 rfl (by decide) rfl cwRL_117 cdm_X6_thrown rfl rfl (Or.inl ⟨hbt, by decide⟩) (by decide) (by decide) (by omega) (by omega) (Nat.le_of_ble_eq_true rfl) (by rw [hbt]; exact ok_X6_thrown (res := 0) (thr Y1)) (fun v n' h' _ hQ => ?_)
    obtain ⟨rfl, rfl, rfl⟩ := hQ
    refine aw_iload hC dL_law_1497 rfl ?_
    refine aw_icmp_eq (tgt := 1504) hC dL_law_1499 (by decide) (fun _ => ?_) (fun c => absurd rfl c)
    refine aw_iload hC dL_law_1504 rfl ?_
    refine aw_if_ne (tgt := 1521) hC dL_law_1506 (by decide) (fun c => absurd rfl c) (fun _ => ?_)
    refine aw_aload_n hC dL_law_1509 rfl ?_
    refine aw_iconst hC dL_law_1510 (by decide) ?_
    refine aw_laload (a := 68) (len := 1) hC dL_law_1511 rfl rfl (Or.inl ⟨hbt, by decide⟩) (by decide) (by decide) ?_
    refine aw_iload hC dL_law_1512 rfl ?_
    refine aw_i2l hC dL_law_1514 ?_
    refine aw_lcmp hC dL_law_1515 ?_
    refine aw_if_eq (tgt := 1521) hC dL_law_1516 (by decide) (fun _ => ?_) (fun c => absurd (lc0 Y2) c)
    refine aw_goto (tgt := 2266) hC dL_law_1521 (by decide) ?_
    exact awL_widen (by omega) (by omega) (awL_drop (kk _ _ _ hn I2))
  · obtain rfl := ox_mildest _ _ hq
    refine awL_callS (sk := []) (av := [(2, ((0 : Nat) : Int)), (0, xv xs i 1), (2, ((68 : Nat) : Int))]) hst hbt hC hRm dL_law_1476 cwRL_191 cdm_L_mildest (by decide) (by decide) (by omega) (by omega) (by decide) (ok_L_mildest_x1 hq) (fun v n' h' _ hQ => ?_)
    obtain ⟨rfl, rfl, rfl⟩ := hQ
    obtain ⟨⟨y, h2⟩, hy, Y1, I2⟩ := PQ
    dsimp only at Y1 I2
    refine aw_istore5 hC dL_law_1479 rfl ?_
    refine aw_aload_n hC dL_law_1481 rfl ?_
    refine awL_arg (k := 1) hX hi rfl rfl dL_law_1482 dL_law_1483 dL_law_1485 dL_law_1486 dL_law_1487 ⟨by decide, by decide⟩ ?_
    refine awL_callV (x := ((35 : Nat) : Int)) (sk := []) (av := [(0, xv xs i 1)]) (a := 35) (ci := 6) (d' := 6) (mc' := 0) (ms' := 0) hC hRm dL_law_1488 rfl (by decide) rfl cwRL_193 cdm_X6_mildest rfl rfl (Or.inl ⟨hbt, by decide⟩) (by decide) (by decide) (by omega) (by omega) (Nat.le_of_ble_eq_true rfl) (by rw [hbt]; exact ok_X6_mildest hy) (fun v n' h' _ hQ => ?_)
    obtain ⟨rfl, rfl, rfl⟩ := hQ
    refine aw_istore6 hC dL_law_1491 rfl ?_
    refine aw_aload_n hC dL_law_1493 rfl ?_
    refine awL_callV (x := ((35 : Nat) : Int)) (sk := []) (av := []) (a := 35) (ci := 6) (d' := 0) (mc' := 0) (ms' := 0) hC hRm dL_law_1494 rfl (by decide) rfl cwRL_117 cdm_X6_thrown rfl rfl (Or.inl ⟨hbt, by decide⟩) (by decide) (by decide) (by omega) (by omega) (Nat.le_of_ble_eq_true rfl) (by rw [hbt]; exact ok_X6_thrown (res := 1) (thr Y1)) (fun v n' h' _ hQ => ?_)
    obtain ⟨rfl, rfl, rfl⟩ := hQ
    refine aw_iload hC dL_law_1497 rfl ?_
    refine aw_icmp_eq (tgt := 1504) hC dL_law_1499 (by decide) (fun _ => ?_) (fun c => absurd rfl c)
    refine aw_iload hC dL_law_1504 rfl ?_
    refine aw_if_ne (tgt := 1521) hC dL_law_1506 (by decide) (fun _ => ?_) (fun c => absurd (show (1 : Int) = 0 from c) (by decide))
    refine aw_goto (tgt := 2266) hC dL_law_1521 (by decide) ?_
    exact awL_widen (by omega) (by omega) (awL_drop (kk _ _ _ hn I2))
theorem law_round {G : GD} {X : CX} {b L : Nat} {xs : Nat → Int32} {i κ : Int} {n : Nat} {h : Hp} {cs ss : Nat} (hX : LX G X b L xs) (hi : 0 ≤ i ∧ i + 6 ≤ L) (hn : NK n κ) (I : Inv κ h) (hc : cs + 6 ≤ 601024) (hs : ss + 2600 ≤ 7293034) (kk : KK G X b i cs ss) : AW G X 1524 [(6, (b : Int)), (2, ((0 : Nat) : Int)), (2, ((35 : Nat) : Int)), (2, ((68 : Nat) : Int)), (0, i), (9, 0), (9, 0), (9, 0)] [] n h cs ss := by
  obtain ⟨hC, hRm, hbt, hst, -⟩ := id hX
  refine aw_aload_n hC dL_law_1524 rfl ?_
  refine awL_arg (k := 1) hX hi rfl rfl dL_law_1525 dL_law_1526 dL_law_1528 dL_law_1529 dL_law_1530 ⟨by decide, by decide⟩ ?_
  refine aw_aload_n hC dL_law_1531 rfl ?_
  obtain ⟨q, hq, PQ⟩ := s_round (x := xv xs i 1) I
  rcases q with ⟨r1, h1⟩ | ⟨e, h1⟩
  · refine awL_callS (sk := []) (av := [(2, ((0 : Nat) : Int)), (0, xv xs i 1), (2, ((68 : Nat) : Int))]) hst hbt hC hRm dL_law_1532 cwRL_194 cdm_L_round (by decide) (by decide) (by omega) (by omega) (by decide) (ok_L_round_n hq) (fun v n' h' _ hQ => ?_)
    obtain ⟨rfl, rfl, rfl⟩ := hQ
    obtain ⟨⟨y, h2⟩, hy, Y1, Y2, I2⟩ := PQ
    dsimp only at Y1 Y2 I2
    refine aw_istore5 hC dL_law_1535 rfl ?_
    refine aw_aload_n hC dL_law_1537 rfl ?_
    refine awL_arg (k := 1) hX hi rfl rfl dL_law_1538 dL_law_1539 dL_law_1541 dL_law_1542 dL_law_1543 ⟨by decide, by decide⟩ ?_
    refine awL_callV (x := ((35 : Nat) : Int)) (sk := []) (av := [(0, xv xs i 1)]) (a := 35) (ci := 6) (d' := 2) (mc' := 0) (ms' := 0) hC hRm dL_law_1544 rfl (by decide) rfl cwRL_196 cdm_X6_round rfl rfl (Or.inl ⟨hbt, by decide⟩) (by decide) (by decide) (by omega) (by omega) (Nat.le_of_ble_eq_true rfl) (by rw [hbt]; exact ok_X6_round hy) (fun v n' h' _ hQ => ?_)
    obtain ⟨rfl, rfl, rfl⟩ := hQ
    refine aw_istore6 hC dL_law_1547 rfl ?_
    refine aw_aload_n hC dL_law_1549 rfl ?_
    refine awL_callV (x := ((35 : Nat) : Int)) (sk := []) (av := []) (a := 35) (ci := 6) (d' := 0) (mc' := 0) (ms' := 0) hC hRm dL_law_1550 rfl (by decide) rfl cwRL_117 cdm_X6_thrown rfl rfl (Or.inl ⟨hbt, by decide⟩) (by decide) (by decide) (by omega) (by omega) (Nat.le_of_ble_eq_true rfl) (by rw [hbt]; exact ok_X6_thrown (res := 0) (thr Y1)) (fun v n' h' _ hQ => ?_)
    obtain ⟨rfl, rfl, rfl⟩ := hQ
    refine aw_iload hC dL_law_1553 rfl ?_
    refine aw_icmp_eq (tgt := 1560) hC dL_law_1555 (by decide) (fun _ => ?_) (fun c => absurd rfl c)
    refine aw_iload hC dL_law_1560 rfl ?_
    refine aw_if_ne (tgt := 1577) hC dL_law_1562 (by decide) (fun c => absurd rfl c) (fun _ => ?_)
    refine aw_aload_n hC dL_law_1565 rfl ?_
    refine aw_iconst hC dL_law_1566 (by decide) ?_
    refine aw_laload (a := 68) (len := 1) hC dL_law_1567 rfl rfl (Or.inl ⟨hbt, by decide⟩) (by decide) (by decide) ?_
    refine aw_iload hC dL_law_1568 rfl ?_
    refine aw_i2l hC dL_law_1570 ?_
    refine aw_lcmp hC dL_law_1571 ?_
    refine aw_if_eq (tgt := 1577) hC dL_law_1572 (by decide) (fun _ => ?_) (fun c => absurd (lc0 Y2) c)
    refine aw_goto (tgt := 2266) hC dL_law_1577 (by decide) ?_
    exact awL_widen (by omega) (by omega) (awL_drop (kk _ _ _ hn I2))
  · obtain rfl := ox_round _ _ hq
    refine awL_callS (sk := []) (av := [(2, ((0 : Nat) : Int)), (0, xv xs i 1), (2, ((68 : Nat) : Int))]) hst hbt hC hRm dL_law_1532 cwRL_194 cdm_L_round (by decide) (by decide) (by omega) (by omega) (by decide) (ok_L_round_x0 hq) (fun v n' h' _ hQ => ?_)
    obtain ⟨rfl, rfl, rfl⟩ := hQ
    obtain ⟨⟨y, h2⟩, hy, Y1, I2⟩ := PQ
    dsimp only at Y1 I2
    refine aw_istore5 hC dL_law_1535 rfl ?_
    refine aw_aload_n hC dL_law_1537 rfl ?_
    refine awL_arg (k := 1) hX hi rfl rfl dL_law_1538 dL_law_1539 dL_law_1541 dL_law_1542 dL_law_1543 ⟨by decide, by decide⟩ ?_
    refine awL_callV (x := ((35 : Nat) : Int)) (sk := []) (av := [(0, xv xs i 1)]) (a := 35) (ci := 6) (d' := 2) (mc' := 0) (ms' := 0) hC hRm dL_law_1544 rfl (by decide) rfl cwRL_196 cdm_X6_round rfl rfl (Or.inl ⟨hbt, by decide⟩) (by decide) (by decide) (by omega) (by omega) (Nat.le_of_ble_eq_true rfl) (by rw [hbt]; exact ok_X6_round hy) (fun v n' h' _ hQ => ?_)
    obtain ⟨rfl, rfl, rfl⟩ := hQ
    refine aw_istore6 hC dL_law_1547 rfl ?_
    refine aw_aload_n hC dL_law_1549 rfl ?_
    refine awL_callV (x := ((35 : Nat) : Int)) (sk := []) (av := []) (a := 35) (ci := 6) (d' := 0) (mc' := 0) (ms' := 0) hC hRm dL_law_1550 rfl (by decide) rfl cwRL_117 cdm_X6_thrown rfl rfl (Or.inl ⟨hbt, by decide⟩) (by decide) (by decide) (by omega) (by omega) (Nat.le_of_ble_eq_true rfl) (by rw [hbt]; exact ok_X6_thrown (res := 1) (thr Y1)) (fun v n' h' _ hQ => ?_)
    obtain ⟨rfl, rfl, rfl⟩ := hQ
    refine aw_iload hC dL_law_1553 rfl ?_
    refine aw_icmp_eq (tgt := 1560) hC dL_law_1555 (by decide) (fun _ => ?_) (fun c => absurd rfl c)
    refine aw_iload hC dL_law_1560 rfl ?_
    refine aw_if_ne (tgt := 1577) hC dL_law_1562 (by decide) (fun _ => ?_) (fun c => absurd (show (1 : Int) = 0 from c) (by decide))
    refine aw_goto (tgt := 2266) hC dL_law_1577 (by decide) ?_
    exact awL_widen (by omega) (by omega) (awL_drop (kk _ _ _ hn I2))
theorem law_stop {G : GD} {X : CX} {b L : Nat} {xs : Nat → Int32} {i κ : Int} {n : Nat} {h : Hp} {cs ss : Nat} (hX : LX G X b L xs) (hi : 0 ≤ i ∧ i + 6 ≤ L) (hn : NK n κ) (I : Inv κ h) (hc : cs + 6 ≤ 601024) (hs : ss + 2600 ≤ 7293034) (kk : KK G X b i cs ss) : AW G X 1580 [(6, (b : Int)), (2, ((0 : Nat) : Int)), (2, ((35 : Nat) : Int)), (2, ((68 : Nat) : Int)), (0, i), (9, 0), (9, 0), (9, 0)] [] n h cs ss := by
  obtain ⟨hC, hRm, hbt, hst, -⟩ := id hX
  refine aw_aload_n hC dL_law_1580 rfl ?_
  refine awL_arg (k := 1) hX hi rfl rfl dL_law_1581 dL_law_1582 dL_law_1584 dL_law_1585 dL_law_1586 ⟨by decide, by decide⟩ ?_
  refine aw_aload_n hC dL_law_1587 rfl ?_
  obtain ⟨q, hq, PQ⟩ := s_stop (x := xv xs i 1) I
  rcases q with ⟨r1, h1⟩ | ⟨e, h1⟩
  · refine awL_callS (sk := []) (av := [(2, ((0 : Nat) : Int)), (0, xv xs i 1), (2, ((68 : Nat) : Int))]) hst hbt hC hRm dL_law_1588 cwRL_197 cdm_L_stop (by decide) (by decide) (by omega) (by omega) (by decide) (ok_L_stop_n hq) (fun v n' h' _ hQ => ?_)
    obtain ⟨rfl, rfl, rfl⟩ := hQ
    obtain ⟨⟨y, h2⟩, hy, Y1, Y2, I2⟩ := PQ
    dsimp only at Y1 Y2 I2
    refine aw_istore5 hC dL_law_1591 rfl ?_
    refine aw_aload_n hC dL_law_1593 rfl ?_
    refine awL_arg (k := 1) hX hi rfl rfl dL_law_1594 dL_law_1595 dL_law_1597 dL_law_1598 dL_law_1599 ⟨by decide, by decide⟩ ?_
    refine awL_callV (x := ((35 : Nat) : Int)) (sk := []) (av := [(0, xv xs i 1)]) (a := 35) (ci := 6) (d' := 1) (mc' := 0) (ms' := 0) hC hRm dL_law_1600 rfl (by decide) rfl cwRL_199 cdm_X6_stop rfl rfl (Or.inl ⟨hbt, by decide⟩) (by decide) (by decide) (by omega) (by omega) (Nat.le_of_ble_eq_true rfl) (by rw [hbt]; exact ok_X6_stop hy) (fun v n' h' _ hQ => ?_)
    obtain ⟨rfl, rfl, rfl⟩ := hQ
    refine aw_istore6 hC dL_law_1603 rfl ?_
    refine aw_aload_n hC dL_law_1605 rfl ?_
    refine awL_callV (x := ((35 : Nat) : Int)) (sk := []) (av := []) (a := 35) (ci := 6) (d' := 0) (mc' := 0) (ms' := 0) hC hRm dL_law_1606 rfl (by decide) rfl cwRL_117 cdm_X6_thrown rfl rfl (Or.inl ⟨hbt, by decide⟩) (by decide) (by decide) (by omega) (by omega) (Nat.le_of_ble_eq_true rfl) (by rw [hbt]; exact ok_X6_thrown (res := 0) (thr Y1)) (fun v n' h' _ hQ => ?_)
    obtain ⟨rfl, rfl, rfl⟩ := hQ
    refine aw_iload hC dL_law_1609 rfl ?_
    refine aw_icmp_eq (tgt := 1616) hC dL_law_1611 (by decide) (fun _ => ?_) (fun c => absurd rfl c)
    refine aw_iload hC dL_law_1616 rfl ?_
    refine aw_if_ne (tgt := 1633) hC dL_law_1618 (by decide) (fun c => absurd rfl c) (fun _ => ?_)
    refine aw_aload_n hC dL_law_1621 rfl ?_
    refine aw_iconst hC dL_law_1622 (by decide) ?_
    refine aw_laload (a := 68) (len := 1) hC dL_law_1623 rfl rfl (Or.inl ⟨hbt, by decide⟩) (by decide) (by decide) ?_
    refine aw_iload hC dL_law_1624 rfl ?_
    refine aw_i2l hC dL_law_1626 ?_
    refine aw_lcmp hC dL_law_1627 ?_
    refine aw_if_eq (tgt := 1633) hC dL_law_1628 (by decide) (fun _ => ?_) (fun c => absurd (lc0 Y2) c)
    refine aw_goto (tgt := 2266) hC dL_law_1633 (by decide) ?_
    exact awL_widen (by omega) (by omega) (awL_drop (kk _ _ _ hn I2))
  · obtain rfl := ox_stop _ _ hq
    refine awL_callS (sk := []) (av := [(2, ((0 : Nat) : Int)), (0, xv xs i 1), (2, ((68 : Nat) : Int))]) hst hbt hC hRm dL_law_1588 cwRL_197 cdm_L_stop (by decide) (by decide) (by omega) (by omega) (by decide) (ok_L_stop_x0 hq) (fun v n' h' _ hQ => ?_)
    obtain ⟨rfl, rfl, rfl⟩ := hQ
    obtain ⟨⟨y, h2⟩, hy, Y1, I2⟩ := PQ
    dsimp only at Y1 I2
    refine aw_istore5 hC dL_law_1591 rfl ?_
    refine aw_aload_n hC dL_law_1593 rfl ?_
    refine awL_arg (k := 1) hX hi rfl rfl dL_law_1594 dL_law_1595 dL_law_1597 dL_law_1598 dL_law_1599 ⟨by decide, by decide⟩ ?_
    refine awL_callV (x := ((35 : Nat) : Int)) (sk := []) (av := [(0, xv xs i 1)]) (a := 35) (ci := 6) (d' := 1) (mc' := 0) (ms' := 0) hC hRm dL_law_1600 rfl (by decide) rfl cwRL_199 cdm_X6_stop rfl rfl (Or.inl ⟨hbt, by decide⟩) (by decide) (by decide) (by omega) (by omega) (Nat.le_of_ble_eq_true rfl) (by rw [hbt]; exact ok_X6_stop hy) (fun v n' h' _ hQ => ?_)
    obtain ⟨rfl, rfl, rfl⟩ := hQ
    refine aw_istore6 hC dL_law_1603 rfl ?_
    refine aw_aload_n hC dL_law_1605 rfl ?_
    refine awL_callV (x := ((35 : Nat) : Int)) (sk := []) (av := []) (a := 35) (ci := 6) (d' := 0) (mc' := 0) (ms' := 0) hC hRm dL_law_1606 rfl (by decide) rfl cwRL_117 cdm_X6_thrown rfl rfl (Or.inl ⟨hbt, by decide⟩) (by decide) (by decide) (by omega) (by omega) (Nat.le_of_ble_eq_true rfl) (by rw [hbt]; exact ok_X6_thrown (res := 1) (thr Y1)) (fun v n' h' _ hQ => ?_)
    obtain ⟨rfl, rfl, rfl⟩ := hQ
    refine aw_iload hC dL_law_1609 rfl ?_
    refine aw_icmp_eq (tgt := 1616) hC dL_law_1611 (by decide) (fun _ => ?_) (fun c => absurd rfl c)
    refine aw_iload hC dL_law_1616 rfl ?_
    refine aw_if_ne (tgt := 1633) hC dL_law_1618 (by decide) (fun _ => ?_) (fun c => absurd (show (1 : Int) = 0 from c) (by decide))
    refine aw_goto (tgt := 2266) hC dL_law_1633 (by decide) ?_
    exact awL_widen (by omega) (by omega) (awL_drop (kk _ _ _ hn I2))
theorem law_barns {G : GD} {X : CX} {b L : Nat} {xs : Nat → Int32} {i κ : Int} {n : Nat} {h : Hp} {cs ss : Nat} (hX : LX G X b L xs) (hi : 0 ≤ i ∧ i + 6 ≤ L) (hn : NK n κ) (I : Inv κ h) (hc : cs + 6 ≤ 601024) (hs : ss + 2600 ≤ 7293034) (kk : KK G X b i cs ss) : AW G X 1636 [(6, (b : Int)), (2, ((0 : Nat) : Int)), (2, ((35 : Nat) : Int)), (2, ((68 : Nat) : Int)), (0, i), (9, 0), (9, 0), (9, 0)] [] n h cs ss := by
  obtain ⟨hC, hRm, hbt, hst, -⟩ := id hX
  refine aw_aload_n hC dL_law_1636 rfl ?_
  refine awL_arg (k := 1) hX hi rfl rfl dL_law_1637 dL_law_1638 dL_law_1640 dL_law_1641 dL_law_1642 ⟨by decide, by decide⟩ ?_
  refine awL_arg (k := 2) hX hi rfl rfl dL_law_1643 dL_law_1644 dL_law_1646 dL_law_1647 dL_law_1648 ⟨by decide, by decide⟩ ?_
  refine awL_arg (k := 3) hX hi rfl rfl dL_law_1649 dL_law_1650 dL_law_1652 dL_law_1653 dL_law_1654 ⟨by decide, by decide⟩ ?_
  refine awL_arg (k := 4) hX hi rfl rfl dL_law_1655 dL_law_1656 dL_law_1658 dL_law_1659 dL_law_1660 ⟨by decide, by decide⟩ ?_
  refine awL_arg (k := 5) hX hi rfl rfl dL_law_1661 dL_law_1662 dL_law_1664 dL_law_1665 dL_law_1666 ⟨by decide, by decide⟩ ?_
  refine aw_aload_n hC dL_law_1667 rfl ?_
  obtain ⟨q, hq, PQ⟩ := s_barns (x := xv xs i 1) (y := xv xs i 2) (b := xv xs i 3) (g := xv xs i 4) (w := xv xs i 5) I
  rcases q with ⟨r1, h1⟩ | ⟨e, h1⟩
  · refine awL_callS (sk := []) (av := [(2, ((0 : Nat) : Int)), (0, xv xs i 1), (0, xv xs i 2), (0, xv xs i 3), (0, xv xs i 4), (0, xv xs i 5), (2, ((68 : Nat) : Int))]) hst hbt hC hRm dL_law_1668 cwRL_200 cdm_L_barns (by decide) (by decide) (by omega) (by omega) (by decide) (ok_L_barns_n hq) (fun v n' h' _ hQ => ?_)
    obtain ⟨rfl, rfl, rfl⟩ := hQ
    obtain ⟨⟨y, h2⟩, hy, Y1, Y2, I2⟩ := PQ
    dsimp only at Y1 Y2 I2
    refine aw_istore5 hC dL_law_1671 rfl ?_
    refine aw_aload_n hC dL_law_1673 rfl ?_
    refine awL_arg (k := 1) hX hi rfl rfl dL_law_1674 dL_law_1675 dL_law_1677 dL_law_1678 dL_law_1679 ⟨by decide, by decide⟩ ?_
    refine awL_arg (k := 2) hX hi rfl rfl dL_law_1680 dL_law_1681 dL_law_1683 dL_law_1684 dL_law_1685 ⟨by decide, by decide⟩ ?_
    refine awL_arg (k := 3) hX hi rfl rfl dL_law_1686 dL_law_1687 dL_law_1689 dL_law_1690 dL_law_1691 ⟨by decide, by decide⟩ ?_
    refine awL_arg (k := 4) hX hi rfl rfl dL_law_1692 dL_law_1693 dL_law_1695 dL_law_1696 dL_law_1697 ⟨by decide, by decide⟩ ?_
    refine awL_arg (k := 5) hX hi rfl rfl dL_law_1698 dL_law_1699 dL_law_1701 dL_law_1702 dL_law_1703 ⟨by decide, by decide⟩ ?_
    refine awL_callV (x := ((35 : Nat) : Int)) (sk := []) (av := [(0, xv xs i 1), (0, xv xs i 2), (0, xv xs i 3), (0, xv xs i 4), (0, xv xs i 5)]) (a := 35) (ci := 6) (d' := 7) (mc' := 0) (ms' := 0) hC hRm dL_law_1704 rfl (by decide) rfl cwRL_203 cdm_X6_barns rfl rfl (Or.inl ⟨hbt, by decide⟩) (by decide) (by decide) (by omega) (by omega) (Nat.le_of_ble_eq_true rfl) (by rw [hbt]; exact ok_X6_barns hy) (fun v n' h' _ hQ => ?_)
    obtain ⟨rfl, rfl, rfl⟩ := hQ
    refine aw_istore6 hC dL_law_1707 rfl ?_
    refine aw_aload_n hC dL_law_1709 rfl ?_
    refine awL_callV (x := ((35 : Nat) : Int)) (sk := []) (av := []) (a := 35) (ci := 6) (d' := 0) (mc' := 0) (ms' := 0) hC hRm dL_law_1710 rfl (by decide) rfl cwRL_117 cdm_X6_thrown rfl rfl (Or.inl ⟨hbt, by decide⟩) (by decide) (by decide) (by omega) (by omega) (Nat.le_of_ble_eq_true rfl) (by rw [hbt]; exact ok_X6_thrown (res := 0) (thr Y1)) (fun v n' h' _ hQ => ?_)
    obtain ⟨rfl, rfl, rfl⟩ := hQ
    refine aw_iload hC dL_law_1713 rfl ?_
    refine aw_icmp_eq (tgt := 1720) hC dL_law_1715 (by decide) (fun _ => ?_) (fun c => absurd rfl c)
    refine aw_iload hC dL_law_1720 rfl ?_
    refine aw_if_ne (tgt := 1737) hC dL_law_1722 (by decide) (fun c => absurd rfl c) (fun _ => ?_)
    refine aw_aload_n hC dL_law_1725 rfl ?_
    refine aw_iconst hC dL_law_1726 (by decide) ?_
    refine aw_laload (a := 68) (len := 1) hC dL_law_1727 rfl rfl (Or.inl ⟨hbt, by decide⟩) (by decide) (by decide) ?_
    refine aw_iload hC dL_law_1728 rfl ?_
    refine aw_i2l hC dL_law_1730 ?_
    refine aw_lcmp hC dL_law_1731 ?_
    refine aw_if_eq (tgt := 1737) hC dL_law_1732 (by decide) (fun _ => ?_) (fun c => absurd (lc0 Y2) c)
    refine aw_goto (tgt := 2266) hC dL_law_1737 (by decide) ?_
    exact awL_widen (by omega) (by omega) (awL_drop (kk _ _ _ hn I2))
  · rcases ox_barns _ _ hq with rfl | rfl
    · refine awL_callS (sk := []) (av := [(2, ((0 : Nat) : Int)), (0, xv xs i 1), (0, xv xs i 2), (0, xv xs i 3), (0, xv xs i 4), (0, xv xs i 5), (2, ((68 : Nat) : Int))]) hst hbt hC hRm dL_law_1668 cwRL_200 cdm_L_barns (by decide) (by decide) (by omega) (by omega) (by decide) (ok_L_barns_x0 hq) (fun v n' h' _ hQ => ?_)
      obtain ⟨rfl, rfl, rfl⟩ := hQ
      obtain ⟨⟨y, h2⟩, hy, Y1, I2⟩ := PQ
      dsimp only at Y1 I2
      refine aw_istore5 hC dL_law_1671 rfl ?_
      refine aw_aload_n hC dL_law_1673 rfl ?_
      refine awL_arg (k := 1) hX hi rfl rfl dL_law_1674 dL_law_1675 dL_law_1677 dL_law_1678 dL_law_1679 ⟨by decide, by decide⟩ ?_
      refine awL_arg (k := 2) hX hi rfl rfl dL_law_1680 dL_law_1681 dL_law_1683 dL_law_1684 dL_law_1685 ⟨by decide, by decide⟩ ?_
      refine awL_arg (k := 3) hX hi rfl rfl dL_law_1686 dL_law_1687 dL_law_1689 dL_law_1690 dL_law_1691 ⟨by decide, by decide⟩ ?_
      refine awL_arg (k := 4) hX hi rfl rfl dL_law_1692 dL_law_1693 dL_law_1695 dL_law_1696 dL_law_1697 ⟨by decide, by decide⟩ ?_
      refine awL_arg (k := 5) hX hi rfl rfl dL_law_1698 dL_law_1699 dL_law_1701 dL_law_1702 dL_law_1703 ⟨by decide, by decide⟩ ?_
      refine awL_callV (x := ((35 : Nat) : Int)) (sk := []) (av := [(0, xv xs i 1), (0, xv xs i 2), (0, xv xs i 3), (0, xv xs i 4), (0, xv xs i 5)]) (a := 35) (ci := 6) (d' := 7) (mc' := 0) (ms' := 0) hC hRm dL_law_1704 rfl (by decide) rfl cwRL_203 cdm_X6_barns rfl rfl (Or.inl ⟨hbt, by decide⟩) (by decide) (by decide) (by omega) (by omega) (Nat.le_of_ble_eq_true rfl) (by rw [hbt]; exact ok_X6_barns hy) (fun v n' h' _ hQ => ?_)
      obtain ⟨rfl, rfl, rfl⟩ := hQ
      refine aw_istore6 hC dL_law_1707 rfl ?_
      refine aw_aload_n hC dL_law_1709 rfl ?_
      refine awL_callV (x := ((35 : Nat) : Int)) (sk := []) (av := []) (a := 35) (ci := 6) (d' := 0) (mc' := 0) (ms' := 0) hC hRm dL_law_1710 rfl (by decide) rfl cwRL_117 cdm_X6_thrown rfl rfl (Or.inl ⟨hbt, by decide⟩) (by decide) (by decide) (by omega) (by omega) (Nat.le_of_ble_eq_true rfl) (by rw [hbt]; exact ok_X6_thrown (res := 1) (thr Y1)) (fun v n' h' _ hQ => ?_)
      obtain ⟨rfl, rfl, rfl⟩ := hQ
      refine aw_iload hC dL_law_1713 rfl ?_
      refine aw_icmp_eq (tgt := 1720) hC dL_law_1715 (by decide) (fun _ => ?_) (fun c => absurd rfl c)
      refine aw_iload hC dL_law_1720 rfl ?_
      refine aw_if_ne (tgt := 1737) hC dL_law_1722 (by decide) (fun _ => ?_) (fun c => absurd (show (1 : Int) = 0 from c) (by decide))
      refine aw_goto (tgt := 2266) hC dL_law_1737 (by decide) ?_
      exact awL_widen (by omega) (by omega) (awL_drop (kk _ _ _ hn I2))
    · refine awL_callS (sk := []) (av := [(2, ((0 : Nat) : Int)), (0, xv xs i 1), (0, xv xs i 2), (0, xv xs i 3), (0, xv xs i 4), (0, xv xs i 5), (2, ((68 : Nat) : Int))]) hst hbt hC hRm dL_law_1668 cwRL_200 cdm_L_barns (by decide) (by decide) (by omega) (by omega) (by decide) (ok_L_barns_x1 hq) (fun v n' h' _ hQ => ?_)
      obtain ⟨rfl, rfl, rfl⟩ := hQ
      obtain ⟨⟨y, h2⟩, hy, Y1, I2⟩ := PQ
      dsimp only at Y1 I2
      refine aw_istore5 hC dL_law_1671 rfl ?_
      refine aw_aload_n hC dL_law_1673 rfl ?_
      refine awL_arg (k := 1) hX hi rfl rfl dL_law_1674 dL_law_1675 dL_law_1677 dL_law_1678 dL_law_1679 ⟨by decide, by decide⟩ ?_
      refine awL_arg (k := 2) hX hi rfl rfl dL_law_1680 dL_law_1681 dL_law_1683 dL_law_1684 dL_law_1685 ⟨by decide, by decide⟩ ?_
      refine awL_arg (k := 3) hX hi rfl rfl dL_law_1686 dL_law_1687 dL_law_1689 dL_law_1690 dL_law_1691 ⟨by decide, by decide⟩ ?_
      refine awL_arg (k := 4) hX hi rfl rfl dL_law_1692 dL_law_1693 dL_law_1695 dL_law_1696 dL_law_1697 ⟨by decide, by decide⟩ ?_
      refine awL_arg (k := 5) hX hi rfl rfl dL_law_1698 dL_law_1699 dL_law_1701 dL_law_1702 dL_law_1703 ⟨by decide, by decide⟩ ?_
      refine awL_callV (x := ((35 : Nat) : Int)) (sk := []) (av := [(0, xv xs i 1), (0, xv xs i 2), (0, xv xs i 3), (0, xv xs i 4), (0, xv xs i 5)]) (a := 35) (ci := 6) (d' := 7) (mc' := 0) (ms' := 0) hC hRm dL_law_1704 rfl (by decide) rfl cwRL_203 cdm_X6_barns rfl rfl (Or.inl ⟨hbt, by decide⟩) (by decide) (by decide) (by omega) (by omega) (Nat.le_of_ble_eq_true rfl) (by rw [hbt]; exact ok_X6_barns hy) (fun v n' h' _ hQ => ?_)
      obtain ⟨rfl, rfl, rfl⟩ := hQ
      refine aw_istore6 hC dL_law_1707 rfl ?_
      refine aw_aload_n hC dL_law_1709 rfl ?_
      refine awL_callV (x := ((35 : Nat) : Int)) (sk := []) (av := []) (a := 35) (ci := 6) (d' := 0) (mc' := 0) (ms' := 0) hC hRm dL_law_1710 rfl (by decide) rfl cwRL_117 cdm_X6_thrown rfl rfl (Or.inl ⟨hbt, by decide⟩) (by decide) (by decide) (by omega) (by omega) (Nat.le_of_ble_eq_true rfl) (by rw [hbt]; exact ok_X6_thrown (res := 2) (thr Y1)) (fun v n' h' _ hQ => ?_)
      obtain ⟨rfl, rfl, rfl⟩ := hQ
      refine aw_iload hC dL_law_1713 rfl ?_
      refine aw_icmp_eq (tgt := 1720) hC dL_law_1715 (by decide) (fun _ => ?_) (fun c => absurd rfl c)
      refine aw_iload hC dL_law_1720 rfl ?_
      refine aw_if_ne (tgt := 1737) hC dL_law_1722 (by decide) (fun _ => ?_) (fun c => absurd (show (2 : Int) = 0 from c) (by decide))
      refine aw_goto (tgt := 2266) hC dL_law_1737 (by decide) ?_
      exact awL_widen (by omega) (by omega) (awL_drop (kk _ _ _ hn I2))
theorem law_tell {G : GD} {X : CX} {b L : Nat} {xs : Nat → Int32} {i κ : Int} {n : Nat} {h : Hp} {cs ss : Nat} (hX : LX G X b L xs) (hi : 0 ≤ i ∧ i + 6 ≤ L) (hn : NK n κ) (I : Inv κ h) (hc : cs + 6 ≤ 601024) (hs : ss + 2600 ≤ 7293034) (kk : KK G X b i cs ss) : AW G X 1740 [(6, (b : Int)), (2, ((0 : Nat) : Int)), (2, ((35 : Nat) : Int)), (2, ((68 : Nat) : Int)), (0, i), (9, 0), (9, 0), (9, 0)] [] n h cs ss := by
  obtain ⟨hC, hRm, hbt, hst, -⟩ := id hX
  refine aw_aload_n hC dL_law_1740 rfl ?_
  refine awL_arg (k := 1) hX hi rfl rfl dL_law_1741 dL_law_1742 dL_law_1744 dL_law_1745 dL_law_1746 ⟨by decide, by decide⟩ ?_
  refine awL_arg (k := 2) hX hi rfl rfl dL_law_1747 dL_law_1748 dL_law_1750 dL_law_1751 dL_law_1752 ⟨by decide, by decide⟩ ?_
  refine aw_aload_n hC dL_law_1753 rfl ?_
  obtain ⟨q, hq, PQ⟩ := s_tell (x := xv xs i 1) (y := xv xs i 2) I
  rcases q with ⟨r1, h1⟩ | ⟨e, h1⟩
  · refine awL_callS (sk := []) (av := [(2, ((0 : Nat) : Int)), (0, xv xs i 1), (0, xv xs i 2), (2, ((68 : Nat) : Int))]) hst hbt hC hRm dL_law_1754 cwRL_204 cdm_L_tell (by decide) (by decide) (by omega) (by omega) (by decide) (ok_L_tell_n hq) (fun v n' h' _ hQ => ?_)
    obtain ⟨rfl, rfl, rfl⟩ := hQ
    obtain ⟨⟨y, h2⟩, hy, Y1, Y2, I2⟩ := PQ
    dsimp only at Y1 Y2 I2
    refine aw_istore5 hC dL_law_1757 rfl ?_
    refine aw_aload_n hC dL_law_1759 rfl ?_
    refine awL_arg (k := 1) hX hi rfl rfl dL_law_1760 dL_law_1761 dL_law_1763 dL_law_1764 dL_law_1765 ⟨by decide, by decide⟩ ?_
    refine awL_arg (k := 2) hX hi rfl rfl dL_law_1766 dL_law_1767 dL_law_1769 dL_law_1770 dL_law_1771 ⟨by decide, by decide⟩ ?_
    refine awL_callV (x := ((35 : Nat) : Int)) (sk := []) (av := [(0, xv xs i 1), (0, xv xs i 2)]) (a := 35) (ci := 6) (d' := 2) (mc' := 0) (ms' := 0) hC hRm dL_law_1772 rfl (by decide) rfl cwRL_206 cdm_X6_tell rfl rfl (Or.inl ⟨hbt, by decide⟩) (by decide) (by decide) (by omega) (by omega) (Nat.le_of_ble_eq_true rfl) (by rw [hbt]; exact ok_X6_tell hy) (fun v n' h' _ hQ => ?_)
    obtain ⟨rfl, rfl, rfl⟩ := hQ
    refine aw_istore6 hC dL_law_1775 rfl ?_
    refine aw_aload_n hC dL_law_1777 rfl ?_
    refine awL_callV (x := ((35 : Nat) : Int)) (sk := []) (av := []) (a := 35) (ci := 6) (d' := 0) (mc' := 0) (ms' := 0) hC hRm dL_law_1778 rfl (by decide) rfl cwRL_117 cdm_X6_thrown rfl rfl (Or.inl ⟨hbt, by decide⟩) (by decide) (by decide) (by omega) (by omega) (Nat.le_of_ble_eq_true rfl) (by rw [hbt]; exact ok_X6_thrown (res := 0) (thr Y1)) (fun v n' h' _ hQ => ?_)
    obtain ⟨rfl, rfl, rfl⟩ := hQ
    refine aw_iload hC dL_law_1781 rfl ?_
    refine aw_icmp_eq (tgt := 1788) hC dL_law_1783 (by decide) (fun _ => ?_) (fun c => absurd rfl c)
    refine aw_iload hC dL_law_1788 rfl ?_
    refine aw_if_ne (tgt := 1805) hC dL_law_1790 (by decide) (fun c => absurd rfl c) (fun _ => ?_)
    refine aw_aload_n hC dL_law_1793 rfl ?_
    refine aw_iconst hC dL_law_1794 (by decide) ?_
    refine aw_laload (a := 68) (len := 1) hC dL_law_1795 rfl rfl (Or.inl ⟨hbt, by decide⟩) (by decide) (by decide) ?_
    refine aw_iload hC dL_law_1796 rfl ?_
    refine aw_i2l hC dL_law_1798 ?_
    refine aw_lcmp hC dL_law_1799 ?_
    refine aw_if_eq (tgt := 1805) hC dL_law_1800 (by decide) (fun _ => ?_) (fun c => absurd (lc0 Y2) c)
    refine aw_goto (tgt := 2266) hC dL_law_1805 (by decide) ?_
    exact awL_widen (by omega) (by omega) (awL_drop (kk _ _ _ hn I2))
  · obtain rfl := ox_tell _ _ hq
    refine awL_callS (sk := []) (av := [(2, ((0 : Nat) : Int)), (0, xv xs i 1), (0, xv xs i 2), (2, ((68 : Nat) : Int))]) hst hbt hC hRm dL_law_1754 cwRL_204 cdm_L_tell (by decide) (by decide) (by omega) (by omega) (by decide) (ok_L_tell_x0 hq) (fun v n' h' _ hQ => ?_)
    obtain ⟨rfl, rfl, rfl⟩ := hQ
    obtain ⟨⟨y, h2⟩, hy, Y1, I2⟩ := PQ
    dsimp only at Y1 I2
    refine aw_istore5 hC dL_law_1757 rfl ?_
    refine aw_aload_n hC dL_law_1759 rfl ?_
    refine awL_arg (k := 1) hX hi rfl rfl dL_law_1760 dL_law_1761 dL_law_1763 dL_law_1764 dL_law_1765 ⟨by decide, by decide⟩ ?_
    refine awL_arg (k := 2) hX hi rfl rfl dL_law_1766 dL_law_1767 dL_law_1769 dL_law_1770 dL_law_1771 ⟨by decide, by decide⟩ ?_
    refine awL_callV (x := ((35 : Nat) : Int)) (sk := []) (av := [(0, xv xs i 1), (0, xv xs i 2)]) (a := 35) (ci := 6) (d' := 2) (mc' := 0) (ms' := 0) hC hRm dL_law_1772 rfl (by decide) rfl cwRL_206 cdm_X6_tell rfl rfl (Or.inl ⟨hbt, by decide⟩) (by decide) (by decide) (by omega) (by omega) (Nat.le_of_ble_eq_true rfl) (by rw [hbt]; exact ok_X6_tell hy) (fun v n' h' _ hQ => ?_)
    obtain ⟨rfl, rfl, rfl⟩ := hQ
    refine aw_istore6 hC dL_law_1775 rfl ?_
    refine aw_aload_n hC dL_law_1777 rfl ?_
    refine awL_callV (x := ((35 : Nat) : Int)) (sk := []) (av := []) (a := 35) (ci := 6) (d' := 0) (mc' := 0) (ms' := 0) hC hRm dL_law_1778 rfl (by decide) rfl cwRL_117 cdm_X6_thrown rfl rfl (Or.inl ⟨hbt, by decide⟩) (by decide) (by decide) (by omega) (by omega) (Nat.le_of_ble_eq_true rfl) (by rw [hbt]; exact ok_X6_thrown (res := 1) (thr Y1)) (fun v n' h' _ hQ => ?_)
    obtain ⟨rfl, rfl, rfl⟩ := hQ
    refine aw_iload hC dL_law_1781 rfl ?_
    refine aw_icmp_eq (tgt := 1788) hC dL_law_1783 (by decide) (fun _ => ?_) (fun c => absurd rfl c)
    refine aw_iload hC dL_law_1788 rfl ?_
    refine aw_if_ne (tgt := 1805) hC dL_law_1790 (by decide) (fun _ => ?_) (fun c => absurd (show (1 : Int) = 0 from c) (by decide))
    refine aw_goto (tgt := 2266) hC dL_law_1805 (by decide) ?_
    exact awL_widen (by omega) (by omega) (awL_drop (kk _ _ _ hn I2))
theorem law_forget {G : GD} {X : CX} {b L : Nat} {xs : Nat → Int32} {i κ : Int} {n : Nat} {h : Hp} {cs ss : Nat} (hX : LX G X b L xs) (hi : 0 ≤ i ∧ i + 6 ≤ L) (hn : NK n κ) (I : Inv κ h) (hc : cs + 6 ≤ 601024) (hs : ss + 2600 ≤ 7293034) (kk : KK G X b i cs ss) : AW G X 1808 [(6, (b : Int)), (2, ((0 : Nat) : Int)), (2, ((35 : Nat) : Int)), (2, ((68 : Nat) : Int)), (0, i), (9, 0), (9, 0), (9, 0)] [] n h cs ss := by
  obtain ⟨hC, hRm, hbt, hst, -⟩ := id hX
  refine aw_aload_n hC dL_law_1808 rfl ?_
  obtain ⟨q, hq, PQ⟩ := s_forget  I
  refine awL_callV (x := ((0 : Nat) : Int)) (sk := []) (av := []) (a := 0) (ci := 5) (d' := 0) (mc' := 0) (ms' := 0) hC hRm dL_law_1809 rfl (by decide) rfl cwRL_207 cdm_X5_forget rfl rfl (Or.inl ⟨hbt, by decide⟩) (by decide) (by decide) (by omega) (by omega) (Nat.le_of_ble_eq_true rfl) (by rw [hbt]; exact ok_X5_forget hq) (fun v n' h' _ hQ => ?_)
  obtain ⟨rfl, rfl, rfl⟩ := hQ
  obtain ⟨⟨y, h2⟩, hy, I2⟩ := PQ
  dsimp only at I2 hy
  refine aw_aload_n hC dL_law_1812 rfl ?_
  refine awL_callV (x := ((35 : Nat) : Int)) (sk := []) (av := []) (a := 35) (ci := 6) (d' := 0) (mc' := 0) (ms' := 0) hC hRm dL_law_1813 rfl (by decide) rfl cwRL_210 cdm_X6_forget rfl rfl (Or.inl ⟨hbt, by decide⟩) (by decide) (by decide) (by omega) (by omega) (Nat.le_of_ble_eq_true rfl) (by rw [hbt]; exact ok_X6_forget hy) (fun v n' h' _ hQ => ?_)
  obtain ⟨rfl, rfl, rfl⟩ := hQ
  refine aw_goto (tgt := 2266) hC dL_law_1816 (by decide) ?_
  exact awL_widen (by omega) (by omega) (awL_drop (kk _ _ _ hn I2))
theorem law_liars {G : GD} {X : CX} {b L : Nat} {xs : Nat → Int32} {i κ : Int} {n : Nat} {h : Hp} {cs ss : Nat} (hX : LX G X b L xs) (hi : 0 ≤ i ∧ i + 6 ≤ L) (hn : NK n κ) (I : Inv κ h) (hc : cs + 6 ≤ 601024) (hs : ss + 2600 ≤ 7293034) (kk : KK G X b i cs ss) : AW G X 1819 [(6, (b : Int)), (2, ((0 : Nat) : Int)), (2, ((35 : Nat) : Int)), (2, ((68 : Nat) : Int)), (0, i), (9, 0), (9, 0), (9, 0)] [] n h cs ss := by
  obtain ⟨hC, hRm, hbt, hst, -⟩ := id hX
  refine aw_aload_n hC dL_law_1819 rfl ?_
  obtain ⟨q, hq, PQ⟩ := s_liars  I
  refine awL_callV (x := ((0 : Nat) : Int)) (sk := []) (av := []) (a := 0) (ci := 5) (d' := 5) (mc' := 0) (ms' := 0) hC hRm dL_law_1820 rfl (by decide) rfl cwRL_211 cdm_X5_liars rfl rfl (Or.inl ⟨hbt, by decide⟩) (by decide) (by decide) (by omega) (by omega) (Nat.le_of_ble_eq_true rfl) (by rw [hbt]; exact ok_X5_liars hq) (fun v n' h' _ hQ => ?_)
  obtain ⟨rfl, rfl, rfl⟩ := hQ
  obtain ⟨⟨y, h2⟩, hy, Y1, I2⟩ := PQ
  dsimp only at Y1 I2 hy
  refine aw_aload_n hC dL_law_1823 rfl ?_
  refine awL_callV (x := ((35 : Nat) : Int)) (sk := [(0, q.1)]) (av := []) (a := 35) (ci := 6) (d' := 5) (mc' := 0) (ms' := 0) hC hRm dL_law_1824 rfl (by decide) rfl cwRL_214 cdm_X6_liars rfl rfl (Or.inl ⟨hbt, by decide⟩) (by decide) (by decide) (by omega) (by omega) (Nat.le_of_ble_eq_true rfl) (by rw [hbt]; exact ok_X6_liars hy) (fun v n' h' _ hQ => ?_)
  obtain ⟨rfl, rfl, rfl⟩ := hQ
  refine aw_icmp_eq (tgt := 2266) hC dL_law_1827 (by decide) (fun _ => ?_) (fun c => absurd Y1.symm c)
  exact awL_widen (by omega) (by omega) (awL_drop (kk _ _ _ hn I2))
theorem law_heights {G : GD} {X : CX} {b L : Nat} {xs : Nat → Int32} {i κ : Int} {n : Nat} {h : Hp} {cs ss : Nat} (hX : LX G X b L xs) (hi : 0 ≤ i ∧ i + 6 ≤ L) (hn : NK n κ) (I : Inv κ h) (hc : cs + 6 ≤ 601024) (hs : ss + 2600 ≤ 7293034) (kk : KK G X b i cs ss) : AW G X 1832 [(6, (b : Int)), (2, ((0 : Nat) : Int)), (2, ((35 : Nat) : Int)), (2, ((68 : Nat) : Int)), (0, i), (9, 0), (9, 0), (9, 0)] [] n h cs ss := by
  obtain ⟨hC, hRm, hbt, hst, -⟩ := id hX
  refine aw_aload_n hC dL_law_1832 rfl ?_
  refine awL_arg (k := 1) hX hi rfl rfl dL_law_1833 dL_law_1834 dL_law_1836 dL_law_1837 dL_law_1838 ⟨by decide, by decide⟩ ?_
  refine awL_arg (k := 2) hX hi rfl rfl dL_law_1839 dL_law_1840 dL_law_1842 dL_law_1843 dL_law_1844 ⟨by decide, by decide⟩ ?_
  refine aw_aload_n hC dL_law_1845 rfl ?_
  obtain ⟨q, hq, PQ⟩ := s_heights (x := xv xs i 1) (y := xv xs i 2) I
  rcases q with ⟨r1, h1⟩ | ⟨e, h1⟩
  · refine awL_callS (sk := []) (av := [(2, ((0 : Nat) : Int)), (0, xv xs i 1), (0, xv xs i 2), (2, ((68 : Nat) : Int))]) hst hbt hC hRm dL_law_1846 cwRL_215 cdm_L_heights (by decide) (by decide) (by omega) (by omega) (by decide) (ok_L_heights_n hq) (fun v n' h' _ hQ => ?_)
    obtain ⟨rfl, rfl, rfl⟩ := hQ
    obtain ⟨⟨y, h2⟩, hy, Y1, Y2, I2⟩ := PQ
    dsimp only at Y1 Y2 I2
    refine aw_istore5 hC dL_law_1849 rfl ?_
    refine aw_aload_n hC dL_law_1851 rfl ?_
    refine awL_arg (k := 1) hX hi rfl rfl dL_law_1852 dL_law_1853 dL_law_1855 dL_law_1856 dL_law_1857 ⟨by decide, by decide⟩ ?_
    refine awL_arg (k := 2) hX hi rfl rfl dL_law_1858 dL_law_1859 dL_law_1861 dL_law_1862 dL_law_1863 ⟨by decide, by decide⟩ ?_
    refine awL_callV (x := ((35 : Nat) : Int)) (sk := []) (av := [(0, xv xs i 1), (0, xv xs i 2)]) (a := 35) (ci := 6) (d' := 5) (mc' := 0) (ms' := 0) hC hRm dL_law_1864 rfl (by decide) rfl cwRL_217 cdm_X6_heights rfl rfl (Or.inl ⟨hbt, by decide⟩) (by decide) (by decide) (by omega) (by omega) (Nat.le_of_ble_eq_true rfl) (by rw [hbt]; exact ok_X6_heights hy) (fun v n' h' _ hQ => ?_)
    obtain ⟨rfl, rfl, rfl⟩ := hQ
    refine aw_istore6 hC dL_law_1867 rfl ?_
    refine aw_aload_n hC dL_law_1869 rfl ?_
    refine awL_callV (x := ((35 : Nat) : Int)) (sk := []) (av := []) (a := 35) (ci := 6) (d' := 0) (mc' := 0) (ms' := 0) hC hRm dL_law_1870 rfl (by decide) rfl cwRL_117 cdm_X6_thrown rfl rfl (Or.inl ⟨hbt, by decide⟩) (by decide) (by decide) (by omega) (by omega) (Nat.le_of_ble_eq_true rfl) (by rw [hbt]; exact ok_X6_thrown (res := 0) (thr Y1)) (fun v n' h' _ hQ => ?_)
    obtain ⟨rfl, rfl, rfl⟩ := hQ
    refine aw_iload hC dL_law_1873 rfl ?_
    refine aw_icmp_eq (tgt := 1880) hC dL_law_1875 (by decide) (fun _ => ?_) (fun c => absurd rfl c)
    refine aw_iload hC dL_law_1880 rfl ?_
    refine aw_if_ne (tgt := 1897) hC dL_law_1882 (by decide) (fun c => absurd rfl c) (fun _ => ?_)
    refine aw_aload_n hC dL_law_1885 rfl ?_
    refine aw_iconst hC dL_law_1886 (by decide) ?_
    refine aw_laload (a := 68) (len := 1) hC dL_law_1887 rfl rfl (Or.inl ⟨hbt, by decide⟩) (by decide) (by decide) ?_
    refine aw_iload hC dL_law_1888 rfl ?_
    refine aw_i2l hC dL_law_1890 ?_
    refine aw_lcmp hC dL_law_1891 ?_
    refine aw_if_eq (tgt := 1897) hC dL_law_1892 (by decide) (fun _ => ?_) (fun c => absurd (lc0 Y2) c)
    refine aw_goto (tgt := 2266) hC dL_law_1897 (by decide) ?_
    exact awL_widen (by omega) (by omega) (awL_drop (kk _ _ _ hn I2))
  · obtain rfl := ox_heights _ _ hq
    refine awL_callS (sk := []) (av := [(2, ((0 : Nat) : Int)), (0, xv xs i 1), (0, xv xs i 2), (2, ((68 : Nat) : Int))]) hst hbt hC hRm dL_law_1846 cwRL_215 cdm_L_heights (by decide) (by decide) (by omega) (by omega) (by decide) (ok_L_heights_x0 hq) (fun v n' h' _ hQ => ?_)
    obtain ⟨rfl, rfl, rfl⟩ := hQ
    obtain ⟨⟨y, h2⟩, hy, Y1, I2⟩ := PQ
    dsimp only at Y1 I2
    refine aw_istore5 hC dL_law_1849 rfl ?_
    refine aw_aload_n hC dL_law_1851 rfl ?_
    refine awL_arg (k := 1) hX hi rfl rfl dL_law_1852 dL_law_1853 dL_law_1855 dL_law_1856 dL_law_1857 ⟨by decide, by decide⟩ ?_
    refine awL_arg (k := 2) hX hi rfl rfl dL_law_1858 dL_law_1859 dL_law_1861 dL_law_1862 dL_law_1863 ⟨by decide, by decide⟩ ?_
    refine awL_callV (x := ((35 : Nat) : Int)) (sk := []) (av := [(0, xv xs i 1), (0, xv xs i 2)]) (a := 35) (ci := 6) (d' := 5) (mc' := 0) (ms' := 0) hC hRm dL_law_1864 rfl (by decide) rfl cwRL_217 cdm_X6_heights rfl rfl (Or.inl ⟨hbt, by decide⟩) (by decide) (by decide) (by omega) (by omega) (Nat.le_of_ble_eq_true rfl) (by rw [hbt]; exact ok_X6_heights hy) (fun v n' h' _ hQ => ?_)
    obtain ⟨rfl, rfl, rfl⟩ := hQ
    refine aw_istore6 hC dL_law_1867 rfl ?_
    refine aw_aload_n hC dL_law_1869 rfl ?_
    refine awL_callV (x := ((35 : Nat) : Int)) (sk := []) (av := []) (a := 35) (ci := 6) (d' := 0) (mc' := 0) (ms' := 0) hC hRm dL_law_1870 rfl (by decide) rfl cwRL_117 cdm_X6_thrown rfl rfl (Or.inl ⟨hbt, by decide⟩) (by decide) (by decide) (by omega) (by omega) (Nat.le_of_ble_eq_true rfl) (by rw [hbt]; exact ok_X6_thrown (res := 1) (thr Y1)) (fun v n' h' _ hQ => ?_)
    obtain ⟨rfl, rfl, rfl⟩ := hQ
    refine aw_iload hC dL_law_1873 rfl ?_
    refine aw_icmp_eq (tgt := 1880) hC dL_law_1875 (by decide) (fun _ => ?_) (fun c => absurd rfl c)
    refine aw_iload hC dL_law_1880 rfl ?_
    refine aw_if_ne (tgt := 1897) hC dL_law_1882 (by decide) (fun _ => ?_) (fun c => absurd (show (1 : Int) = 0 from c) (by decide))
    refine aw_goto (tgt := 2266) hC dL_law_1897 (by decide) ?_
    exact awL_widen (by omega) (by omega) (awL_drop (kk _ _ _ hn I2))
theorem law_cheat {G : GD} {X : CX} {b L : Nat} {xs : Nat → Int32} {i κ : Int} {n : Nat} {h : Hp} {cs ss : Nat} (hX : LX G X b L xs) (hi : 0 ≤ i ∧ i + 6 ≤ L) (hn : NK n κ) (I : Inv κ h) (hc : cs + 6 ≤ 601024) (hs : ss + 2600 ≤ 7293034) (kk : KK G X b i cs ss) : AW G X 1900 [(6, (b : Int)), (2, ((0 : Nat) : Int)), (2, ((35 : Nat) : Int)), (2, ((68 : Nat) : Int)), (0, i), (9, 0), (9, 0), (9, 0)] [] n h cs ss := by
  obtain ⟨hC, hRm, hbt, hst, -⟩ := id hX
  refine aw_aload_n hC dL_law_1900 rfl ?_
  obtain ⟨q, hq, PQ⟩ := s_cheat  I
  refine awL_callV (x := ((0 : Nat) : Int)) (sk := []) (av := []) (a := 0) (ci := 5) (d' := 5) (mc' := 0) (ms' := 0) hC hRm dL_law_1901 rfl (by decide) rfl cwRL_218 cdm_X5_cheat rfl rfl (Or.inl ⟨hbt, by decide⟩) (by decide) (by decide) (by omega) (by omega) (Nat.le_of_ble_eq_true rfl) (by rw [hbt]; exact ok_X5_cheat hq) (fun v n' h' _ hQ => ?_)
  obtain ⟨rfl, rfl, rfl⟩ := hQ
  obtain ⟨⟨y, h2⟩, hy, Y1, I2⟩ := PQ
  dsimp only at Y1 I2 hy
  refine aw_aload_n hC dL_law_1904 rfl ?_
  refine awL_callV (x := ((35 : Nat) : Int)) (sk := [(0, q.1)]) (av := []) (a := 35) (ci := 6) (d' := 5) (mc' := 0) (ms' := 0) hC hRm dL_law_1905 rfl (by decide) rfl cwRL_221 cdm_X6_cheat rfl rfl (Or.inl ⟨hbt, by decide⟩) (by decide) (by decide) (by omega) (by omega) (Nat.le_of_ble_eq_true rfl) (by rw [hbt]; exact ok_X6_cheat hy) (fun v n' h' _ hQ => ?_)
  obtain ⟨rfl, rfl, rfl⟩ := hQ
  refine aw_icmp_eq (tgt := 2266) hC dL_law_1908 (by decide) (fun _ => ?_) (fun c => absurd Y1.symm c)
  exact awL_widen (by omega) (by omega) (awL_drop (kk _ _ _ hn I2))
theorem law_ruined {G : GD} {X : CX} {b L : Nat} {xs : Nat → Int32} {i κ : Int} {n : Nat} {h : Hp} {cs ss : Nat} (hX : LX G X b L xs) (hi : 0 ≤ i ∧ i + 6 ≤ L) (hn : NK n κ) (I : Inv κ h) (hc : cs + 6 ≤ 601024) (hs : ss + 2600 ≤ 7293034) (kk : KK G X b i cs ss) : AW G X 1913 [(6, (b : Int)), (2, ((0 : Nat) : Int)), (2, ((35 : Nat) : Int)), (2, ((68 : Nat) : Int)), (0, i), (9, 0), (9, 0), (9, 0)] [] n h cs ss := by
  obtain ⟨hC, hRm, hbt, hst, -⟩ := id hX
  refine aw_aload_n hC dL_law_1913 rfl ?_
  obtain ⟨q, hq, PQ⟩ := s_ruined  I
  refine awL_callV (x := ((0 : Nat) : Int)) (sk := []) (av := []) (a := 0) (ci := 5) (d' := 5) (mc' := 0) (ms' := 0) hC hRm dL_law_1914 rfl (by decide) rfl cwRL_222 cdm_X5_ruined rfl rfl (Or.inl ⟨hbt, by decide⟩) (by decide) (by decide) (by omega) (by omega) (Nat.le_of_ble_eq_true rfl) (by rw [hbt]; exact ok_X5_ruined hq) (fun v n' h' _ hQ => ?_)
  obtain ⟨rfl, rfl, rfl⟩ := hQ
  obtain ⟨⟨y, h2⟩, hy, Y1, I2⟩ := PQ
  dsimp only at Y1 I2 hy
  refine aw_aload_n hC dL_law_1917 rfl ?_
  refine awL_callV (x := ((35 : Nat) : Int)) (sk := [(0, q.1)]) (av := []) (a := 35) (ci := 6) (d' := 7) (mc' := 0) (ms' := 0) hC hRm dL_law_1918 rfl (by decide) rfl cwRL_225 cdm_X6_ruined rfl rfl (Or.inl ⟨hbt, by decide⟩) (by decide) (by decide) (by omega) (by omega) (Nat.le_of_ble_eq_true rfl) (by rw [hbt]; exact ok_X6_ruined hy) (fun v n' h' _ hQ => ?_)
  obtain ⟨rfl, rfl, rfl⟩ := hQ
  refine aw_icmp_eq (tgt := 2266) hC dL_law_1921 (by decide) (fun _ => ?_) (fun c => absurd Y1.symm c)
  exact awL_widen (by omega) (by omega) (awL_drop (kk _ _ _ hn I2))
theorem law_decades {G : GD} {X : CX} {b L : Nat} {xs : Nat → Int32} {i κ : Int} {n : Nat} {h : Hp} {cs ss : Nat} (hX : LX G X b L xs) (hi : 0 ≤ i ∧ i + 6 ≤ L) (hn : NK n κ) (I : Inv κ h) (hc : cs + 6 ≤ 601024) (hs : ss + 2600 ≤ 7293034) (kk : KK G X b i cs ss) : AW G X 1926 [(6, (b : Int)), (2, ((0 : Nat) : Int)), (2, ((35 : Nat) : Int)), (2, ((68 : Nat) : Int)), (0, i), (9, 0), (9, 0), (9, 0)] [] n h cs ss := by
  obtain ⟨hC, hRm, hbt, hst, -⟩ := id hX
  refine aw_aload_n hC dL_law_1926 rfl ?_
  refine awL_arg (k := 1) hX hi rfl rfl dL_law_1927 dL_law_1928 dL_law_1930 dL_law_1931 dL_law_1932 ⟨by decide, by decide⟩ ?_
  refine awL_arg (k := 2) hX hi rfl rfl dL_law_1933 dL_law_1934 dL_law_1936 dL_law_1937 dL_law_1938 ⟨by decide, by decide⟩ ?_
  refine awL_arg (k := 3) hX hi rfl rfl dL_law_1939 dL_law_1940 dL_law_1942 dL_law_1943 dL_law_1944 ⟨by decide, by decide⟩ ?_
  refine aw_aload_n hC dL_law_1945 rfl ?_
  obtain ⟨q, hq, PQ⟩ := s_decades (x := xv xs i 1) (y := xv xs i 2) (w := xv xs i 3) I
  rcases q with ⟨r1, h1⟩ | ⟨e, h1⟩
  · refine awL_callS (sk := []) (av := [(2, ((0 : Nat) : Int)), (0, xv xs i 1), (0, xv xs i 2), (0, xv xs i 3), (2, ((68 : Nat) : Int))]) hst hbt hC hRm dL_law_1946 cwRL_226 cdm_L_decades (by decide) (by decide) (by omega) (by omega) (by decide) (ok_L_decades_n hq) (fun v n' h' _ hQ => ?_)
    obtain ⟨rfl, rfl, rfl⟩ := hQ
    obtain ⟨⟨y, h2⟩, hy, Y1, Y2, I2⟩ := PQ
    dsimp only at Y1 Y2 I2
    refine aw_istore5 hC dL_law_1949 rfl ?_
    refine aw_aload_n hC dL_law_1951 rfl ?_
    refine awL_arg (k := 1) hX hi rfl rfl dL_law_1952 dL_law_1953 dL_law_1955 dL_law_1956 dL_law_1957 ⟨by decide, by decide⟩ ?_
    refine awL_arg (k := 2) hX hi rfl rfl dL_law_1958 dL_law_1959 dL_law_1961 dL_law_1962 dL_law_1963 ⟨by decide, by decide⟩ ?_
    refine awL_arg (k := 3) hX hi rfl rfl dL_law_1964 dL_law_1965 dL_law_1967 dL_law_1968 dL_law_1969 ⟨by decide, by decide⟩ ?_
    refine awL_callV (x := ((35 : Nat) : Int)) (sk := []) (av := [(0, xv xs i 1), (0, xv xs i 2), (0, xv xs i 3)]) (a := 35) (ci := 6) (d' := 7) (mc' := 0) (ms' := 0) hC hRm dL_law_1970 rfl (by decide) rfl cwRL_229 cdm_X6_decades rfl rfl (Or.inl ⟨hbt, by decide⟩) (by decide) (by decide) (by omega) (by omega) (Nat.le_of_ble_eq_true rfl) (by rw [hbt]; exact ok_X6_decades hy) (fun v n' h' _ hQ => ?_)
    obtain ⟨rfl, rfl, rfl⟩ := hQ
    refine aw_istore6 hC dL_law_1973 rfl ?_
    refine aw_aload_n hC dL_law_1975 rfl ?_
    refine awL_callV (x := ((35 : Nat) : Int)) (sk := []) (av := []) (a := 35) (ci := 6) (d' := 0) (mc' := 0) (ms' := 0) hC hRm dL_law_1976 rfl (by decide) rfl cwRL_117 cdm_X6_thrown rfl rfl (Or.inl ⟨hbt, by decide⟩) (by decide) (by decide) (by omega) (by omega) (Nat.le_of_ble_eq_true rfl) (by rw [hbt]; exact ok_X6_thrown (res := 0) (thr Y1)) (fun v n' h' _ hQ => ?_)
    obtain ⟨rfl, rfl, rfl⟩ := hQ
    refine aw_iload hC dL_law_1979 rfl ?_
    refine aw_icmp_eq (tgt := 1986) hC dL_law_1981 (by decide) (fun _ => ?_) (fun c => absurd rfl c)
    refine aw_iload hC dL_law_1986 rfl ?_
    refine aw_if_ne (tgt := 2003) hC dL_law_1988 (by decide) (fun c => absurd rfl c) (fun _ => ?_)
    refine aw_aload_n hC dL_law_1991 rfl ?_
    refine aw_iconst hC dL_law_1992 (by decide) ?_
    refine aw_laload (a := 68) (len := 1) hC dL_law_1993 rfl rfl (Or.inl ⟨hbt, by decide⟩) (by decide) (by decide) ?_
    refine aw_iload hC dL_law_1994 rfl ?_
    refine aw_i2l hC dL_law_1996 ?_
    refine aw_lcmp hC dL_law_1997 ?_
    refine aw_if_eq (tgt := 2003) hC dL_law_1998 (by decide) (fun _ => ?_) (fun c => absurd (lc0 Y2) c)
    refine aw_goto (tgt := 2266) hC dL_law_2003 (by decide) ?_
    exact awL_widen (by omega) (by omega) (awL_drop (kk _ _ _ hn I2))
  · rcases ox_decades _ _ hq with rfl | rfl
    · refine awL_callS (sk := []) (av := [(2, ((0 : Nat) : Int)), (0, xv xs i 1), (0, xv xs i 2), (0, xv xs i 3), (2, ((68 : Nat) : Int))]) hst hbt hC hRm dL_law_1946 cwRL_226 cdm_L_decades (by decide) (by decide) (by omega) (by omega) (by decide) (ok_L_decades_x0 hq) (fun v n' h' _ hQ => ?_)
      obtain ⟨rfl, rfl, rfl⟩ := hQ
      obtain ⟨⟨y, h2⟩, hy, Y1, I2⟩ := PQ
      dsimp only at Y1 I2
      refine aw_istore5 hC dL_law_1949 rfl ?_
      refine aw_aload_n hC dL_law_1951 rfl ?_
      refine awL_arg (k := 1) hX hi rfl rfl dL_law_1952 dL_law_1953 dL_law_1955 dL_law_1956 dL_law_1957 ⟨by decide, by decide⟩ ?_
      refine awL_arg (k := 2) hX hi rfl rfl dL_law_1958 dL_law_1959 dL_law_1961 dL_law_1962 dL_law_1963 ⟨by decide, by decide⟩ ?_
      refine awL_arg (k := 3) hX hi rfl rfl dL_law_1964 dL_law_1965 dL_law_1967 dL_law_1968 dL_law_1969 ⟨by decide, by decide⟩ ?_
      refine awL_callV (x := ((35 : Nat) : Int)) (sk := []) (av := [(0, xv xs i 1), (0, xv xs i 2), (0, xv xs i 3)]) (a := 35) (ci := 6) (d' := 7) (mc' := 0) (ms' := 0) hC hRm dL_law_1970 rfl (by decide) rfl cwRL_229 cdm_X6_decades rfl rfl (Or.inl ⟨hbt, by decide⟩) (by decide) (by decide) (by omega) (by omega) (Nat.le_of_ble_eq_true rfl) (by rw [hbt]; exact ok_X6_decades hy) (fun v n' h' _ hQ => ?_)
      obtain ⟨rfl, rfl, rfl⟩ := hQ
      refine aw_istore6 hC dL_law_1973 rfl ?_
      refine aw_aload_n hC dL_law_1975 rfl ?_
      refine awL_callV (x := ((35 : Nat) : Int)) (sk := []) (av := []) (a := 35) (ci := 6) (d' := 0) (mc' := 0) (ms' := 0) hC hRm dL_law_1976 rfl (by decide) rfl cwRL_117 cdm_X6_thrown rfl rfl (Or.inl ⟨hbt, by decide⟩) (by decide) (by decide) (by omega) (by omega) (Nat.le_of_ble_eq_true rfl) (by rw [hbt]; exact ok_X6_thrown (res := 1) (thr Y1)) (fun v n' h' _ hQ => ?_)
      obtain ⟨rfl, rfl, rfl⟩ := hQ
      refine aw_iload hC dL_law_1979 rfl ?_
      refine aw_icmp_eq (tgt := 1986) hC dL_law_1981 (by decide) (fun _ => ?_) (fun c => absurd rfl c)
      refine aw_iload hC dL_law_1986 rfl ?_
      refine aw_if_ne (tgt := 2003) hC dL_law_1988 (by decide) (fun _ => ?_) (fun c => absurd (show (1 : Int) = 0 from c) (by decide))
      refine aw_goto (tgt := 2266) hC dL_law_2003 (by decide) ?_
      exact awL_widen (by omega) (by omega) (awL_drop (kk _ _ _ hn I2))
    · refine awL_callS (sk := []) (av := [(2, ((0 : Nat) : Int)), (0, xv xs i 1), (0, xv xs i 2), (0, xv xs i 3), (2, ((68 : Nat) : Int))]) hst hbt hC hRm dL_law_1946 cwRL_226 cdm_L_decades (by decide) (by decide) (by omega) (by omega) (by decide) (ok_L_decades_x1 hq) (fun v n' h' _ hQ => ?_)
      obtain ⟨rfl, rfl, rfl⟩ := hQ
      obtain ⟨⟨y, h2⟩, hy, Y1, I2⟩ := PQ
      dsimp only at Y1 I2
      refine aw_istore5 hC dL_law_1949 rfl ?_
      refine aw_aload_n hC dL_law_1951 rfl ?_
      refine awL_arg (k := 1) hX hi rfl rfl dL_law_1952 dL_law_1953 dL_law_1955 dL_law_1956 dL_law_1957 ⟨by decide, by decide⟩ ?_
      refine awL_arg (k := 2) hX hi rfl rfl dL_law_1958 dL_law_1959 dL_law_1961 dL_law_1962 dL_law_1963 ⟨by decide, by decide⟩ ?_
      refine awL_arg (k := 3) hX hi rfl rfl dL_law_1964 dL_law_1965 dL_law_1967 dL_law_1968 dL_law_1969 ⟨by decide, by decide⟩ ?_
      refine awL_callV (x := ((35 : Nat) : Int)) (sk := []) (av := [(0, xv xs i 1), (0, xv xs i 2), (0, xv xs i 3)]) (a := 35) (ci := 6) (d' := 7) (mc' := 0) (ms' := 0) hC hRm dL_law_1970 rfl (by decide) rfl cwRL_229 cdm_X6_decades rfl rfl (Or.inl ⟨hbt, by decide⟩) (by decide) (by decide) (by omega) (by omega) (Nat.le_of_ble_eq_true rfl) (by rw [hbt]; exact ok_X6_decades hy) (fun v n' h' _ hQ => ?_)
      obtain ⟨rfl, rfl, rfl⟩ := hQ
      refine aw_istore6 hC dL_law_1973 rfl ?_
      refine aw_aload_n hC dL_law_1975 rfl ?_
      refine awL_callV (x := ((35 : Nat) : Int)) (sk := []) (av := []) (a := 35) (ci := 6) (d' := 0) (mc' := 0) (ms' := 0) hC hRm dL_law_1976 rfl (by decide) rfl cwRL_117 cdm_X6_thrown rfl rfl (Or.inl ⟨hbt, by decide⟩) (by decide) (by decide) (by omega) (by omega) (Nat.le_of_ble_eq_true rfl) (by rw [hbt]; exact ok_X6_thrown (res := 2) (thr Y1)) (fun v n' h' _ hQ => ?_)
      obtain ⟨rfl, rfl, rfl⟩ := hQ
      refine aw_iload hC dL_law_1979 rfl ?_
      refine aw_icmp_eq (tgt := 1986) hC dL_law_1981 (by decide) (fun _ => ?_) (fun c => absurd rfl c)
      refine aw_iload hC dL_law_1986 rfl ?_
      refine aw_if_ne (tgt := 2003) hC dL_law_1988 (by decide) (fun _ => ?_) (fun c => absurd (show (2 : Int) = 0 from c) (by decide))
      refine aw_goto (tgt := 2266) hC dL_law_2003 (by decide) ?_
      exact awL_widen (by omega) (by omega) (awL_drop (kk _ _ _ hn I2))
theorem law_hollow {G : GD} {X : CX} {b L : Nat} {xs : Nat → Int32} {i κ : Int} {n : Nat} {h : Hp} {cs ss : Nat} (hX : LX G X b L xs) (hi : 0 ≤ i ∧ i + 6 ≤ L) (hn : NK n κ) (I : Inv κ h) (hc : cs + 6 ≤ 601024) (hs : ss + 2600 ≤ 7293034) (kk : KK G X b i cs ss) : AW G X 2006 [(6, (b : Int)), (2, ((0 : Nat) : Int)), (2, ((35 : Nat) : Int)), (2, ((68 : Nat) : Int)), (0, i), (9, 0), (9, 0), (9, 0)] [] n h cs ss := by
  obtain ⟨hC, hRm, hbt, hst, -⟩ := id hX
  refine aw_aload_n hC dL_law_2006 rfl ?_
  refine awL_arg (k := 1) hX hi rfl rfl dL_law_2007 dL_law_2008 dL_law_2010 dL_law_2011 dL_law_2012 ⟨by decide, by decide⟩ ?_
  refine aw_aload_n hC dL_law_2013 rfl ?_
  obtain ⟨q, hq, PQ⟩ := s_hollow (x := xv xs i 1) I
  rcases q with ⟨r1, h1⟩ | ⟨e, h1⟩
  · refine awL_callS (sk := []) (av := [(2, ((0 : Nat) : Int)), (0, xv xs i 1), (2, ((68 : Nat) : Int))]) hst hbt hC hRm dL_law_2014 cwRL_230 cdm_L_hollow (by decide) (by decide) (by omega) (by omega) (by decide) (ok_L_hollow_n hq) (fun v n' h' _ hQ => ?_)
    obtain ⟨rfl, rfl, rfl⟩ := hQ
    obtain ⟨⟨y, h2⟩, hy, Y1, Y2, I2⟩ := PQ
    dsimp only at Y1 Y2 I2
    refine aw_istore5 hC dL_law_2017 rfl ?_
    refine aw_aload_n hC dL_law_2019 rfl ?_
    refine awL_arg (k := 1) hX hi rfl rfl dL_law_2020 dL_law_2021 dL_law_2023 dL_law_2024 dL_law_2025 ⟨by decide, by decide⟩ ?_
    refine awL_callV (x := ((35 : Nat) : Int)) (sk := []) (av := [(0, xv xs i 1)]) (a := 35) (ci := 6) (d' := 3) (mc' := 0) (ms' := 0) hC hRm dL_law_2026 rfl (by decide) rfl cwRL_232 cdm_X6_hollow rfl rfl (Or.inl ⟨hbt, by decide⟩) (by decide) (by decide) (by omega) (by omega) (Nat.le_of_ble_eq_true rfl) (by rw [hbt]; exact ok_X6_hollow hy) (fun v n' h' _ hQ => ?_)
    obtain ⟨rfl, rfl, rfl⟩ := hQ
    refine aw_istore6 hC dL_law_2029 rfl ?_
    refine aw_aload_n hC dL_law_2031 rfl ?_
    refine awL_callV (x := ((35 : Nat) : Int)) (sk := []) (av := []) (a := 35) (ci := 6) (d' := 0) (mc' := 0) (ms' := 0) hC hRm dL_law_2032 rfl (by decide) rfl cwRL_117 cdm_X6_thrown rfl rfl (Or.inl ⟨hbt, by decide⟩) (by decide) (by decide) (by omega) (by omega) (Nat.le_of_ble_eq_true rfl) (by rw [hbt]; exact ok_X6_thrown (res := 0) (thr Y1)) (fun v n' h' _ hQ => ?_)
    obtain ⟨rfl, rfl, rfl⟩ := hQ
    refine aw_iload hC dL_law_2035 rfl ?_
    refine aw_icmp_eq (tgt := 2042) hC dL_law_2037 (by decide) (fun _ => ?_) (fun c => absurd rfl c)
    refine aw_iload hC dL_law_2042 rfl ?_
    refine aw_if_ne (tgt := 2059) hC dL_law_2044 (by decide) (fun c => absurd rfl c) (fun _ => ?_)
    refine aw_aload_n hC dL_law_2047 rfl ?_
    refine aw_iconst hC dL_law_2048 (by decide) ?_
    refine aw_laload (a := 68) (len := 1) hC dL_law_2049 rfl rfl (Or.inl ⟨hbt, by decide⟩) (by decide) (by decide) ?_
    refine aw_iload hC dL_law_2050 rfl ?_
    refine aw_i2l hC dL_law_2052 ?_
    refine aw_lcmp hC dL_law_2053 ?_
    refine aw_if_eq (tgt := 2059) hC dL_law_2054 (by decide) (fun _ => ?_) (fun c => absurd (lc0 Y2) c)
    refine aw_goto (tgt := 2266) hC dL_law_2059 (by decide) ?_
    exact awL_widen (by omega) (by omega) (awL_drop (kk _ _ _ hn I2))
  · obtain rfl := ox_hollow _ _ hq
    refine awL_callS (sk := []) (av := [(2, ((0 : Nat) : Int)), (0, xv xs i 1), (2, ((68 : Nat) : Int))]) hst hbt hC hRm dL_law_2014 cwRL_230 cdm_L_hollow (by decide) (by decide) (by omega) (by omega) (by decide) (ok_L_hollow_x0 hq) (fun v n' h' _ hQ => ?_)
    obtain ⟨rfl, rfl, rfl⟩ := hQ
    obtain ⟨⟨y, h2⟩, hy, Y1, I2⟩ := PQ
    dsimp only at Y1 I2
    refine aw_istore5 hC dL_law_2017 rfl ?_
    refine aw_aload_n hC dL_law_2019 rfl ?_
    refine awL_arg (k := 1) hX hi rfl rfl dL_law_2020 dL_law_2021 dL_law_2023 dL_law_2024 dL_law_2025 ⟨by decide, by decide⟩ ?_
    refine awL_callV (x := ((35 : Nat) : Int)) (sk := []) (av := [(0, xv xs i 1)]) (a := 35) (ci := 6) (d' := 3) (mc' := 0) (ms' := 0) hC hRm dL_law_2026 rfl (by decide) rfl cwRL_232 cdm_X6_hollow rfl rfl (Or.inl ⟨hbt, by decide⟩) (by decide) (by decide) (by omega) (by omega) (Nat.le_of_ble_eq_true rfl) (by rw [hbt]; exact ok_X6_hollow hy) (fun v n' h' _ hQ => ?_)
    obtain ⟨rfl, rfl, rfl⟩ := hQ
    refine aw_istore6 hC dL_law_2029 rfl ?_
    refine aw_aload_n hC dL_law_2031 rfl ?_
    refine awL_callV (x := ((35 : Nat) : Int)) (sk := []) (av := []) (a := 35) (ci := 6) (d' := 0) (mc' := 0) (ms' := 0) hC hRm dL_law_2032 rfl (by decide) rfl cwRL_117 cdm_X6_thrown rfl rfl (Or.inl ⟨hbt, by decide⟩) (by decide) (by decide) (by omega) (by omega) (Nat.le_of_ble_eq_true rfl) (by rw [hbt]; exact ok_X6_thrown (res := 1) (thr Y1)) (fun v n' h' _ hQ => ?_)
    obtain ⟨rfl, rfl, rfl⟩ := hQ
    refine aw_iload hC dL_law_2035 rfl ?_
    refine aw_icmp_eq (tgt := 2042) hC dL_law_2037 (by decide) (fun _ => ?_) (fun c => absurd rfl c)
    refine aw_iload hC dL_law_2042 rfl ?_
    refine aw_if_ne (tgt := 2059) hC dL_law_2044 (by decide) (fun _ => ?_) (fun c => absurd (show (1 : Int) = 0 from c) (by decide))
    refine aw_goto (tgt := 2266) hC dL_law_2059 (by decide) ?_
    exact awL_widen (by omega) (by omega) (awL_drop (kk _ _ _ hn I2))
theorem law_sale {G : GD} {X : CX} {b L : Nat} {xs : Nat → Int32} {i κ : Int} {n : Nat} {h : Hp} {cs ss : Nat} (hX : LX G X b L xs) (hi : 0 ≤ i ∧ i + 6 ≤ L) (hn : NK n κ) (I : Inv κ h) (hc : cs + 6 ≤ 601024) (hs : ss + 2600 ≤ 7293034) (kk : KK G X b i cs ss) : AW G X 2062 [(6, (b : Int)), (2, ((0 : Nat) : Int)), (2, ((35 : Nat) : Int)), (2, ((68 : Nat) : Int)), (0, i), (9, 0), (9, 0), (9, 0)] [] n h cs ss := by
  obtain ⟨hC, hRm, hbt, hst, -⟩ := id hX
  refine aw_aload_n hC dL_law_2062 rfl ?_
  refine awL_arg (k := 1) hX hi rfl rfl dL_law_2063 dL_law_2064 dL_law_2066 dL_law_2067 dL_law_2068 ⟨by decide, by decide⟩ ?_
  refine aw_aload_n hC dL_law_2069 rfl ?_
  obtain ⟨q, hq, PQ⟩ := s_sale (x := xv xs i 1) I
  rcases q with ⟨r1, h1⟩ | ⟨e, h1⟩
  · refine awL_callS (sk := []) (av := [(2, ((0 : Nat) : Int)), (0, xv xs i 1), (2, ((68 : Nat) : Int))]) hst hbt hC hRm dL_law_2070 cwRL_233 cdm_L_sale (by decide) (by decide) (by omega) (by omega) (by decide) (ok_L_sale_n hq) (fun v n' h' _ hQ => ?_)
    obtain ⟨rfl, rfl, rfl⟩ := hQ
    obtain ⟨⟨y, h2⟩, hy, Y1, Y2, I2⟩ := PQ
    dsimp only at Y1 Y2 I2
    refine aw_istore5 hC dL_law_2073 rfl ?_
    refine aw_aload_n hC dL_law_2075 rfl ?_
    refine awL_arg (k := 1) hX hi rfl rfl dL_law_2076 dL_law_2077 dL_law_2079 dL_law_2080 dL_law_2081 ⟨by decide, by decide⟩ ?_
    refine awL_callV (x := ((35 : Nat) : Int)) (sk := []) (av := [(0, xv xs i 1)]) (a := 35) (ci := 6) (d' := 6) (mc' := 0) (ms' := 0) hC hRm dL_law_2082 rfl (by decide) rfl cwRL_235 cdm_X6_sale rfl rfl (Or.inl ⟨hbt, by decide⟩) (by decide) (by decide) (by omega) (by omega) (Nat.le_of_ble_eq_true rfl) (by rw [hbt]; exact ok_X6_sale hy) (fun v n' h' _ hQ => ?_)
    obtain ⟨rfl, rfl, rfl⟩ := hQ
    refine aw_istore6 hC dL_law_2085 rfl ?_
    refine aw_aload_n hC dL_law_2087 rfl ?_
    refine awL_callV (x := ((35 : Nat) : Int)) (sk := []) (av := []) (a := 35) (ci := 6) (d' := 0) (mc' := 0) (ms' := 0) hC hRm dL_law_2088 rfl (by decide) rfl cwRL_117 cdm_X6_thrown rfl rfl (Or.inl ⟨hbt, by decide⟩) (by decide) (by decide) (by omega) (by omega) (Nat.le_of_ble_eq_true rfl) (by rw [hbt]; exact ok_X6_thrown (res := 0) (thr Y1)) (fun v n' h' _ hQ => ?_)
    obtain ⟨rfl, rfl, rfl⟩ := hQ
    refine aw_iload hC dL_law_2091 rfl ?_
    refine aw_icmp_eq (tgt := 2098) hC dL_law_2093 (by decide) (fun _ => ?_) (fun c => absurd rfl c)
    refine aw_iload hC dL_law_2098 rfl ?_
    refine aw_if_ne (tgt := 2115) hC dL_law_2100 (by decide) (fun c => absurd rfl c) (fun _ => ?_)
    refine aw_aload_n hC dL_law_2103 rfl ?_
    refine aw_iconst hC dL_law_2104 (by decide) ?_
    refine aw_laload (a := 68) (len := 1) hC dL_law_2105 rfl rfl (Or.inl ⟨hbt, by decide⟩) (by decide) (by decide) ?_
    refine aw_iload hC dL_law_2106 rfl ?_
    refine aw_i2l hC dL_law_2108 ?_
    refine aw_lcmp hC dL_law_2109 ?_
    refine aw_if_eq (tgt := 2115) hC dL_law_2110 (by decide) (fun _ => ?_) (fun c => absurd (lc0 Y2) c)
    refine aw_goto (tgt := 2266) hC dL_law_2115 (by decide) ?_
    exact awL_widen (by omega) (by omega) (awL_drop (kk _ _ _ hn I2))
  · obtain rfl := ox_sale _ _ hq
    refine awL_callS (sk := []) (av := [(2, ((0 : Nat) : Int)), (0, xv xs i 1), (2, ((68 : Nat) : Int))]) hst hbt hC hRm dL_law_2070 cwRL_233 cdm_L_sale (by decide) (by decide) (by omega) (by omega) (by decide) (ok_L_sale_x0 hq) (fun v n' h' _ hQ => ?_)
    obtain ⟨rfl, rfl, rfl⟩ := hQ
    obtain ⟨⟨y, h2⟩, hy, Y1, I2⟩ := PQ
    dsimp only at Y1 I2
    refine aw_istore5 hC dL_law_2073 rfl ?_
    refine aw_aload_n hC dL_law_2075 rfl ?_
    refine awL_arg (k := 1) hX hi rfl rfl dL_law_2076 dL_law_2077 dL_law_2079 dL_law_2080 dL_law_2081 ⟨by decide, by decide⟩ ?_
    refine awL_callV (x := ((35 : Nat) : Int)) (sk := []) (av := [(0, xv xs i 1)]) (a := 35) (ci := 6) (d' := 6) (mc' := 0) (ms' := 0) hC hRm dL_law_2082 rfl (by decide) rfl cwRL_235 cdm_X6_sale rfl rfl (Or.inl ⟨hbt, by decide⟩) (by decide) (by decide) (by omega) (by omega) (Nat.le_of_ble_eq_true rfl) (by rw [hbt]; exact ok_X6_sale hy) (fun v n' h' _ hQ => ?_)
    obtain ⟨rfl, rfl, rfl⟩ := hQ
    refine aw_istore6 hC dL_law_2085 rfl ?_
    refine aw_aload_n hC dL_law_2087 rfl ?_
    refine awL_callV (x := ((35 : Nat) : Int)) (sk := []) (av := []) (a := 35) (ci := 6) (d' := 0) (mc' := 0) (ms' := 0) hC hRm dL_law_2088 rfl (by decide) rfl cwRL_117 cdm_X6_thrown rfl rfl (Or.inl ⟨hbt, by decide⟩) (by decide) (by decide) (by omega) (by omega) (Nat.le_of_ble_eq_true rfl) (by rw [hbt]; exact ok_X6_thrown (res := 1) (thr Y1)) (fun v n' h' _ hQ => ?_)
    obtain ⟨rfl, rfl, rfl⟩ := hQ
    refine aw_iload hC dL_law_2091 rfl ?_
    refine aw_icmp_eq (tgt := 2098) hC dL_law_2093 (by decide) (fun _ => ?_) (fun c => absurd rfl c)
    refine aw_iload hC dL_law_2098 rfl ?_
    refine aw_if_ne (tgt := 2115) hC dL_law_2100 (by decide) (fun _ => ?_) (fun c => absurd (show (1 : Int) = 0 from c) (by decide))
    refine aw_goto (tgt := 2266) hC dL_law_2115 (by decide) ?_
    exact awL_widen (by omega) (by omega) (awL_drop (kk _ _ _ hn I2))
theorem law_shade {G : GD} {X : CX} {b L : Nat} {xs : Nat → Int32} {i κ : Int} {n : Nat} {h : Hp} {cs ss : Nat} (hX : LX G X b L xs) (hi : 0 ≤ i ∧ i + 6 ≤ L) (hn : NK n κ) (I : Inv κ h) (hc : cs + 6 ≤ 601024) (hs : ss + 2600 ≤ 7293034) (kk : KK G X b i cs ss) : AW G X 2118 [(6, (b : Int)), (2, ((0 : Nat) : Int)), (2, ((35 : Nat) : Int)), (2, ((68 : Nat) : Int)), (0, i), (9, 0), (9, 0), (9, 0)] [] n h cs ss := by
  obtain ⟨hC, hRm, hbt, hst, -⟩ := id hX
  refine aw_aload_n hC dL_law_2118 rfl ?_
  refine awL_arg (k := 1) hX hi rfl rfl dL_law_2119 dL_law_2120 dL_law_2122 dL_law_2123 dL_law_2124 ⟨by decide, by decide⟩ ?_
  refine awL_arg (k := 2) hX hi rfl rfl dL_law_2125 dL_law_2126 dL_law_2128 dL_law_2129 dL_law_2130 ⟨by decide, by decide⟩ ?_
  refine aw_aload_n hC dL_law_2131 rfl ?_
  obtain ⟨q, hq, PQ⟩ := s_shade (x := xv xs i 1) (y := xv xs i 2) I
  rcases q with ⟨r1, h1⟩ | ⟨e, h1⟩
  · refine awL_callS (sk := []) (av := [(2, ((0 : Nat) : Int)), (0, xv xs i 1), (0, xv xs i 2), (2, ((68 : Nat) : Int))]) hst hbt hC hRm dL_law_2132 cwRL_236 cdm_L_shade (by decide) (by decide) (by omega) (by omega) (by decide) (ok_L_shade_n hq) (fun v n' h' _ hQ => ?_)
    obtain ⟨rfl, rfl, rfl⟩ := hQ
    obtain ⟨⟨y, h2⟩, hy, Y1, Y2, I2⟩ := PQ
    dsimp only at Y1 Y2 I2
    refine aw_istore5 hC dL_law_2135 rfl ?_
    refine aw_aload_n hC dL_law_2137 rfl ?_
    refine awL_arg (k := 1) hX hi rfl rfl dL_law_2138 dL_law_2139 dL_law_2141 dL_law_2142 dL_law_2143 ⟨by decide, by decide⟩ ?_
    refine awL_arg (k := 2) hX hi rfl rfl dL_law_2144 dL_law_2145 dL_law_2147 dL_law_2148 dL_law_2149 ⟨by decide, by decide⟩ ?_
    refine awL_callV (x := ((35 : Nat) : Int)) (sk := []) (av := [(0, xv xs i 1), (0, xv xs i 2)]) (a := 35) (ci := 6) (d' := 6) (mc' := 0) (ms' := 0) hC hRm dL_law_2150 rfl (by decide) rfl cwRL_238 cdm_X6_shade rfl rfl (Or.inl ⟨hbt, by decide⟩) (by decide) (by decide) (by omega) (by omega) (Nat.le_of_ble_eq_true rfl) (by rw [hbt]; exact ok_X6_shade hy) (fun v n' h' _ hQ => ?_)
    obtain ⟨rfl, rfl, rfl⟩ := hQ
    refine aw_istore6 hC dL_law_2153 rfl ?_
    refine aw_aload_n hC dL_law_2155 rfl ?_
    refine awL_callV (x := ((35 : Nat) : Int)) (sk := []) (av := []) (a := 35) (ci := 6) (d' := 0) (mc' := 0) (ms' := 0) hC hRm dL_law_2156 rfl (by decide) rfl cwRL_117 cdm_X6_thrown rfl rfl (Or.inl ⟨hbt, by decide⟩) (by decide) (by decide) (by omega) (by omega) (Nat.le_of_ble_eq_true rfl) (by rw [hbt]; exact ok_X6_thrown (res := 0) (thr Y1)) (fun v n' h' _ hQ => ?_)
    obtain ⟨rfl, rfl, rfl⟩ := hQ
    refine aw_iload hC dL_law_2159 rfl ?_
    refine aw_icmp_eq (tgt := 2166) hC dL_law_2161 (by decide) (fun _ => ?_) (fun c => absurd rfl c)
    refine aw_iload hC dL_law_2166 rfl ?_
    refine aw_if_ne (tgt := 2183) hC dL_law_2168 (by decide) (fun c => absurd rfl c) (fun _ => ?_)
    refine aw_aload_n hC dL_law_2171 rfl ?_
    refine aw_iconst hC dL_law_2172 (by decide) ?_
    refine aw_laload (a := 68) (len := 1) hC dL_law_2173 rfl rfl (Or.inl ⟨hbt, by decide⟩) (by decide) (by decide) ?_
    refine aw_iload hC dL_law_2174 rfl ?_
    refine aw_i2l hC dL_law_2176 ?_
    refine aw_lcmp hC dL_law_2177 ?_
    refine aw_if_eq (tgt := 2183) hC dL_law_2178 (by decide) (fun _ => ?_) (fun c => absurd (lc0 Y2) c)
    refine aw_goto (tgt := 2266) hC dL_law_2183 (by decide) ?_
    exact awL_widen (by omega) (by omega) (awL_drop (kk _ _ _ hn I2))
  · rcases ox_shade _ _ hq with rfl | rfl
    · refine awL_callS (sk := []) (av := [(2, ((0 : Nat) : Int)), (0, xv xs i 1), (0, xv xs i 2), (2, ((68 : Nat) : Int))]) hst hbt hC hRm dL_law_2132 cwRL_236 cdm_L_shade (by decide) (by decide) (by omega) (by omega) (by decide) (ok_L_shade_x0 hq) (fun v n' h' _ hQ => ?_)
      obtain ⟨rfl, rfl, rfl⟩ := hQ
      obtain ⟨⟨y, h2⟩, hy, Y1, I2⟩ := PQ
      dsimp only at Y1 I2
      refine aw_istore5 hC dL_law_2135 rfl ?_
      refine aw_aload_n hC dL_law_2137 rfl ?_
      refine awL_arg (k := 1) hX hi rfl rfl dL_law_2138 dL_law_2139 dL_law_2141 dL_law_2142 dL_law_2143 ⟨by decide, by decide⟩ ?_
      refine awL_arg (k := 2) hX hi rfl rfl dL_law_2144 dL_law_2145 dL_law_2147 dL_law_2148 dL_law_2149 ⟨by decide, by decide⟩ ?_
      refine awL_callV (x := ((35 : Nat) : Int)) (sk := []) (av := [(0, xv xs i 1), (0, xv xs i 2)]) (a := 35) (ci := 6) (d' := 6) (mc' := 0) (ms' := 0) hC hRm dL_law_2150 rfl (by decide) rfl cwRL_238 cdm_X6_shade rfl rfl (Or.inl ⟨hbt, by decide⟩) (by decide) (by decide) (by omega) (by omega) (Nat.le_of_ble_eq_true rfl) (by rw [hbt]; exact ok_X6_shade hy) (fun v n' h' _ hQ => ?_)
      obtain ⟨rfl, rfl, rfl⟩ := hQ
      refine aw_istore6 hC dL_law_2153 rfl ?_
      refine aw_aload_n hC dL_law_2155 rfl ?_
      refine awL_callV (x := ((35 : Nat) : Int)) (sk := []) (av := []) (a := 35) (ci := 6) (d' := 0) (mc' := 0) (ms' := 0) hC hRm dL_law_2156 rfl (by decide) rfl cwRL_117 cdm_X6_thrown rfl rfl (Or.inl ⟨hbt, by decide⟩) (by decide) (by decide) (by omega) (by omega) (Nat.le_of_ble_eq_true rfl) (by rw [hbt]; exact ok_X6_thrown (res := 1) (thr Y1)) (fun v n' h' _ hQ => ?_)
      obtain ⟨rfl, rfl, rfl⟩ := hQ
      refine aw_iload hC dL_law_2159 rfl ?_
      refine aw_icmp_eq (tgt := 2166) hC dL_law_2161 (by decide) (fun _ => ?_) (fun c => absurd rfl c)
      refine aw_iload hC dL_law_2166 rfl ?_
      refine aw_if_ne (tgt := 2183) hC dL_law_2168 (by decide) (fun _ => ?_) (fun c => absurd (show (1 : Int) = 0 from c) (by decide))
      refine aw_goto (tgt := 2266) hC dL_law_2183 (by decide) ?_
      exact awL_widen (by omega) (by omega) (awL_drop (kk _ _ _ hn I2))
    · refine awL_callS (sk := []) (av := [(2, ((0 : Nat) : Int)), (0, xv xs i 1), (0, xv xs i 2), (2, ((68 : Nat) : Int))]) hst hbt hC hRm dL_law_2132 cwRL_236 cdm_L_shade (by decide) (by decide) (by omega) (by omega) (by decide) (ok_L_shade_x1 hq) (fun v n' h' _ hQ => ?_)
      obtain ⟨rfl, rfl, rfl⟩ := hQ
      obtain ⟨⟨y, h2⟩, hy, Y1, I2⟩ := PQ
      dsimp only at Y1 I2
      refine aw_istore5 hC dL_law_2135 rfl ?_
      refine aw_aload_n hC dL_law_2137 rfl ?_
      refine awL_arg (k := 1) hX hi rfl rfl dL_law_2138 dL_law_2139 dL_law_2141 dL_law_2142 dL_law_2143 ⟨by decide, by decide⟩ ?_
      refine awL_arg (k := 2) hX hi rfl rfl dL_law_2144 dL_law_2145 dL_law_2147 dL_law_2148 dL_law_2149 ⟨by decide, by decide⟩ ?_
      refine awL_callV (x := ((35 : Nat) : Int)) (sk := []) (av := [(0, xv xs i 1), (0, xv xs i 2)]) (a := 35) (ci := 6) (d' := 6) (mc' := 0) (ms' := 0) hC hRm dL_law_2150 rfl (by decide) rfl cwRL_238 cdm_X6_shade rfl rfl (Or.inl ⟨hbt, by decide⟩) (by decide) (by decide) (by omega) (by omega) (Nat.le_of_ble_eq_true rfl) (by rw [hbt]; exact ok_X6_shade hy) (fun v n' h' _ hQ => ?_)
      obtain ⟨rfl, rfl, rfl⟩ := hQ
      refine aw_istore6 hC dL_law_2153 rfl ?_
      refine aw_aload_n hC dL_law_2155 rfl ?_
      refine awL_callV (x := ((35 : Nat) : Int)) (sk := []) (av := []) (a := 35) (ci := 6) (d' := 0) (mc' := 0) (ms' := 0) hC hRm dL_law_2156 rfl (by decide) rfl cwRL_117 cdm_X6_thrown rfl rfl (Or.inl ⟨hbt, by decide⟩) (by decide) (by decide) (by omega) (by omega) (Nat.le_of_ble_eq_true rfl) (by rw [hbt]; exact ok_X6_thrown (res := 2) (thr Y1)) (fun v n' h' _ hQ => ?_)
      obtain ⟨rfl, rfl, rfl⟩ := hQ
      refine aw_iload hC dL_law_2159 rfl ?_
      refine aw_icmp_eq (tgt := 2166) hC dL_law_2161 (by decide) (fun _ => ?_) (fun c => absurd rfl c)
      refine aw_iload hC dL_law_2166 rfl ?_
      refine aw_if_ne (tgt := 2183) hC dL_law_2168 (by decide) (fun _ => ?_) (fun c => absurd (show (2 : Int) = 0 from c) (by decide))
      refine aw_goto (tgt := 2266) hC dL_law_2183 (by decide) ?_
      exact awL_widen (by omega) (by omega) (awL_drop (kk _ _ _ hn I2))
theorem law_dearest {G : GD} {X : CX} {b L : Nat} {xs : Nat → Int32} {i κ : Int} {n : Nat} {h : Hp} {cs ss : Nat} (hX : LX G X b L xs) (hi : 0 ≤ i ∧ i + 6 ≤ L) (hn : NK n κ) (I : Inv κ h) (hc : cs + 6 ≤ 601024) (hs : ss + 2600 ≤ 7293034) (kk : KK G X b i cs ss) : AW G X 2186 [(6, (b : Int)), (2, ((0 : Nat) : Int)), (2, ((35 : Nat) : Int)), (2, ((68 : Nat) : Int)), (0, i), (9, 0), (9, 0), (9, 0)] [] n h cs ss := by
  obtain ⟨hC, hRm, hbt, hst, -⟩ := id hX
  refine aw_aload_n hC dL_law_2186 rfl ?_
  refine awL_arg (k := 1) hX hi rfl rfl dL_law_2187 dL_law_2188 dL_law_2190 dL_law_2191 dL_law_2192 ⟨by decide, by decide⟩ ?_
  refine aw_aload_n hC dL_law_2193 rfl ?_
  obtain ⟨q, hq, PQ⟩ := s_dearest (x := xv xs i 1) I
  rcases q with ⟨r1, h1⟩ | ⟨e, h1⟩
  · refine awL_callS (sk := []) (av := [(2, ((0 : Nat) : Int)), (0, xv xs i 1), (2, ((68 : Nat) : Int))]) hst hbt hC hRm dL_law_2194 cwRL_239 cdm_L_dearest (by decide) (by decide) (by omega) (by omega) (by decide) (ok_L_dearest_n hq) (fun v n' h' _ hQ => ?_)
    obtain ⟨rfl, rfl, rfl⟩ := hQ
    obtain ⟨⟨y, h2⟩, hy, Y1, Y2, I2⟩ := PQ
    dsimp only at Y1 Y2 I2
    refine aw_istore5 hC dL_law_2197 rfl ?_
    refine aw_aload_n hC dL_law_2199 rfl ?_
    refine awL_arg (k := 1) hX hi rfl rfl dL_law_2200 dL_law_2201 dL_law_2203 dL_law_2204 dL_law_2205 ⟨by decide, by decide⟩ ?_
    refine awL_callV (x := ((35 : Nat) : Int)) (sk := []) (av := [(0, xv xs i 1)]) (a := 35) (ci := 6) (d' := 7) (mc' := 0) (ms' := 0) hC hRm dL_law_2206 rfl (by decide) rfl cwRL_241 cdm_X6_dearest rfl rfl (Or.inl ⟨hbt, by decide⟩) (by decide) (by decide) (by omega) (by omega) (Nat.le_of_ble_eq_true rfl) (by rw [hbt]; exact ok_X6_dearest hy) (fun v n' h' _ hQ => ?_)
    obtain ⟨rfl, rfl, rfl⟩ := hQ
    refine aw_istore6 hC dL_law_2209 rfl ?_
    refine aw_aload_n hC dL_law_2211 rfl ?_
    refine awL_callV (x := ((35 : Nat) : Int)) (sk := []) (av := []) (a := 35) (ci := 6) (d' := 0) (mc' := 0) (ms' := 0) hC hRm dL_law_2212 rfl (by decide) rfl cwRL_117 cdm_X6_thrown rfl rfl (Or.inl ⟨hbt, by decide⟩) (by decide) (by decide) (by omega) (by omega) (Nat.le_of_ble_eq_true rfl) (by rw [hbt]; exact ok_X6_thrown (res := 0) (thr Y1)) (fun v n' h' _ hQ => ?_)
    obtain ⟨rfl, rfl, rfl⟩ := hQ
    refine aw_iload hC dL_law_2215 rfl ?_
    refine aw_icmp_eq (tgt := 2222) hC dL_law_2217 (by decide) (fun _ => ?_) (fun c => absurd rfl c)
    refine aw_iload hC dL_law_2222 rfl ?_
    refine aw_if_ne (tgt := 2239) hC dL_law_2224 (by decide) (fun c => absurd rfl c) (fun _ => ?_)
    refine aw_aload_n hC dL_law_2227 rfl ?_
    refine aw_iconst hC dL_law_2228 (by decide) ?_
    refine aw_laload (a := 68) (len := 1) hC dL_law_2229 rfl rfl (Or.inl ⟨hbt, by decide⟩) (by decide) (by decide) ?_
    refine aw_iload hC dL_law_2230 rfl ?_
    refine aw_i2l hC dL_law_2232 ?_
    refine aw_lcmp hC dL_law_2233 ?_
    refine aw_if_eq (tgt := 2239) hC dL_law_2234 (by decide) (fun _ => ?_) (fun c => absurd (lc0 Y2) c)
    refine aw_goto (tgt := 2266) hC dL_law_2239 (by decide) ?_
    exact awL_widen (by omega) (by omega) (awL_drop (kk _ _ _ hn I2))
  · obtain rfl := ox_dearest _ _ hq
    refine awL_callS (sk := []) (av := [(2, ((0 : Nat) : Int)), (0, xv xs i 1), (2, ((68 : Nat) : Int))]) hst hbt hC hRm dL_law_2194 cwRL_239 cdm_L_dearest (by decide) (by decide) (by omega) (by omega) (by decide) (ok_L_dearest_x1 hq) (fun v n' h' _ hQ => ?_)
    obtain ⟨rfl, rfl, rfl⟩ := hQ
    obtain ⟨⟨y, h2⟩, hy, Y1, I2⟩ := PQ
    dsimp only at Y1 I2
    refine aw_istore5 hC dL_law_2197 rfl ?_
    refine aw_aload_n hC dL_law_2199 rfl ?_
    refine awL_arg (k := 1) hX hi rfl rfl dL_law_2200 dL_law_2201 dL_law_2203 dL_law_2204 dL_law_2205 ⟨by decide, by decide⟩ ?_
    refine awL_callV (x := ((35 : Nat) : Int)) (sk := []) (av := [(0, xv xs i 1)]) (a := 35) (ci := 6) (d' := 7) (mc' := 0) (ms' := 0) hC hRm dL_law_2206 rfl (by decide) rfl cwRL_241 cdm_X6_dearest rfl rfl (Or.inl ⟨hbt, by decide⟩) (by decide) (by decide) (by omega) (by omega) (Nat.le_of_ble_eq_true rfl) (by rw [hbt]; exact ok_X6_dearest hy) (fun v n' h' _ hQ => ?_)
    obtain ⟨rfl, rfl, rfl⟩ := hQ
    refine aw_istore6 hC dL_law_2209 rfl ?_
    refine aw_aload_n hC dL_law_2211 rfl ?_
    refine awL_callV (x := ((35 : Nat) : Int)) (sk := []) (av := []) (a := 35) (ci := 6) (d' := 0) (mc' := 0) (ms' := 0) hC hRm dL_law_2212 rfl (by decide) rfl cwRL_117 cdm_X6_thrown rfl rfl (Or.inl ⟨hbt, by decide⟩) (by decide) (by decide) (by omega) (by omega) (Nat.le_of_ble_eq_true rfl) (by rw [hbt]; exact ok_X6_thrown (res := 1) (thr Y1)) (fun v n' h' _ hQ => ?_)
    obtain ⟨rfl, rfl, rfl⟩ := hQ
    refine aw_iload hC dL_law_2215 rfl ?_
    refine aw_icmp_eq (tgt := 2222) hC dL_law_2217 (by decide) (fun _ => ?_) (fun c => absurd rfl c)
    refine aw_iload hC dL_law_2222 rfl ?_
    refine aw_if_ne (tgt := 2239) hC dL_law_2224 (by decide) (fun _ => ?_) (fun c => absurd (show (1 : Int) = 0 from c) (by decide))
    refine aw_goto (tgt := 2266) hC dL_law_2239 (by decide) ?_
    exact awL_widen (by omega) (by omega) (awL_drop (kk _ _ _ hn I2))
